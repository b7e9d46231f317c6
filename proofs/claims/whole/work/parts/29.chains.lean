/-! CHAINS by number: the class's Chains, the reference's part, stepsOf, memoryOf -/
def nch (k P : Nat) : Nat := (1 + k + k * (k - 1)) * P
def fo (k g : Nat) : Int32 := if g ≤ k then (if 0 < g then nI (g - 1) else -3) else nI ((g - (k + 1)) / (k - 1))
def ft (k g : Nat) : Int32 := if g ≤ k then -3 else nI (if (g - (k + 1)) % (k - 1) < (g - (k + 1)) / (k - 1) then (g - (k + 1)) % (k - 1) else (g - (k + 1)) % (k - 1) + 1)
theorem nch_ok : ∀ k, k < 5 → ∀ P, P < 6 → (1 + nI k + nI k * (nI k - 1)) * nI P = nI (nch k P) := by decide +kernel
theorem nch_le : ∀ k, k < 5 → ∀ P, P < 6 → nch k P ≤ 85 := by decide +kernel
/-- its first and second FILTER, numbers below k -/
def f1 (k g : Nat) : Nat := if g ≤ k then g - 1 else (g - (k + 1)) / (k - 1)
def f2 (k g : Nat) : Nat := if (g - (k + 1)) % (k - 1) < (g - (k + 1)) / (k - 1) then (g - (k + 1)) % (k - 1) else (g - (k + 1)) % (k - 1) + 1
theorem f_oka : ∀ k, k < 5 → ∀ g, g < 17 → g < 1 + k + k * (k - 1) → 0 < g → f1 k g < k := by decide +kernel
theorem f_okb : ∀ k, k < 5 → ∀ g, g < 17 → g < 1 + k + k * (k - 1) → 0 < g → fo k g = nI (f1 k g) := by decide +kernel
theorem f_okc : ∀ k, k < 5 → ∀ g, g < 17 → g < 1 + k + k * (k - 1) → k < g → 2 ≤ k ∧ f2 k g < k := by decide +kernel
theorem f_okd : ∀ k, k < 5 → ∀ g, g < 17 → k < g → ft k g = nI (f2 k g) := by
  intro k _ g _ h
  unfold ft f2
  rw [if_neg (by omega)]
theorem f_ok (k : Nat) (hk : k < 5) (g : Nat) (hg : g < 1 + k + k * (k - 1)) : (0 < g → f1 k g < k ∧ fo k g = nI (f1 k g)) ∧ (k < g → 2 ≤ k ∧ f2 k g < k ∧ ft k g = nI (f2 k g)) ∧ (g = 0 → fo k g = -3) ∧ (g ≤ k → ft k g = -3) := by
  have hm : k * (k - 1) ≤ 4 * 3 := Nat.mul_le_mul (by omega) (by omega)
  have h17 : g < 17 := by omega
  refine ⟨fun h => ⟨f_oka k hk g h17 hg h, f_okb k hk g h17 hg h⟩, fun h => ⟨(f_okc k hk g h17 hg h).1, (f_okc k hk g h17 hg h).2, f_okd k hk g h17 h⟩, fun h => ?_, fun h => ?_⟩
  · subst h
    unfold fo
    rw [if_pos (by omega), if_neg (by omega)]
  · unfold ft
    rw [if_pos h]
theorem grp_lt {k P x : Nat} (hP : 0 < P) (hx : x < nch k P) : x / P < 1 + k + k * (k - 1) := by
  unfold nch at hx
  exact Nat.div_lt_of_lt_mul (by rw [Nat.mul_comm]; exact hx)
/-- the class's FILTERS and PACKERS: k with kinds K and values V; P with kinds PK, STORED the first -/
def CH (F A : Nat → Nat → Int32) (k P : Nat) (K V PK : Nat → Nat) : Prop := F 11 2 = nI k ∧ k < 5 ∧ F 11 4 = nI P ∧ 0 < P ∧ P < 6 ∧ (∀ i, i < k → A 12 i = nI (K i) ∧ A 13 i = nI (V i) ∧ fok (K i) (V i)) ∧ (∀ i, i < P → A 14 i = nI (PK i) ∧ PK i < 5) ∧ PK 0 = 0
def CM (F A : Nat → Nat → Int32) (k P : Nat) (K V PK : Nat → Nat) : Prop := F 57 5 = nI k ∧ k < 5 ∧ F 57 8 = nI (P - 1) ∧ 0 < P ∧ P < 6 ∧ (∀ i, i < k → A 60 i = nI (K i) ∧ A 61 i = nI (V i) ∧ fok (K i) (V i)) ∧ (∀ i, i + 1 < P → A 62 i = nI (PK (i + 1))) ∧ (∀ i, i < P → PK i < 5) ∧ PK 0 = 0
def pst (q : Nat) : Nat := [1, 2, 2, 4, 64].getD q 0
def fst_ (q : Nat) : Nat := [0, 1, 16, 1, 1].getD q 0
def pme (q : Nat) : Nat := [0, 0, 256, 1024, 512].getD q 0
def fme (q : Nat) : Nat := [0, 0, 256, 0, 0].getD q 0
/-- STEPS a byte, MEMORY of CHAIN x -/
def stp (k P : Nat) (K PK : Nat → Nat) (x : Nat) : Nat := pst (PK (x % P)) + (if 0 < x / P then fst_ (K (f1 k (x / P))) else 0) + (if k < x / P then fst_ (K (f2 k (x / P))) else 0)
def mem_ (k P : Nat) (K PK : Nat → Nat) (x : Nat) : Nat := max (max (pme (PK (x % P))) (if 0 < x / P then fme (K (f1 k (x / P))) else 0)) (if k < x / P then fme (K (f2 k (x / P))) else 0)
theorem tb_ok (Γ : Nat × (Nat → Int32)) : ∀ q, q < 5 → (ptab Γ 2).2 q = nI (pst q) ∧ (ptab Γ 0).2 q = nI (fst_ q) ∧ (ptab Γ 3).2 q = nI (pme q) ∧ (ptab Γ 1).2 q = nI (fme q) := by
  intro q hq
  match q, hq with
  | 0, _ => exact ⟨rfl, rfl, rfl, rfl⟩
  | 1, _ => exact ⟨rfl, rfl, rfl, rfl⟩
  | 2, _ => exact ⟨rfl, rfl, rfl, rfl⟩
  | 3, _ => exact ⟨rfl, rfl, rfl, rfl⟩
  | 4, _ => exact ⟨rfl, rfl, rfl, rfl⟩
  | q + 5, h => omega
theorem tb_le : ∀ q, q < 5 → pst q ≤ 64 ∧ fst_ q ≤ 16 ∧ pme q ≤ 1024 ∧ fme q ≤ 256 := by decide +kernel
section
variable {Γ : Nat × (Nat → Int32)} {F A : Nat → Nat → Int32} {rf : Nat} {lo : Int64} {X : PH} {Q : Option Value → PH → Prop} {k P : Nat} {K V PK : Nat → Nat}
theorem c_many (hC : CH F A k P K V PK) (hQ : Q (some (.int (nI (nch k P)))) (HS F A rf lo X)) : PM Γ mX1_many [.ref 11] (HS F A rf lo X) 0 0 Q := by
  obtain ⟨h1, h2, h3, h4, h5, h6, h7, h8⟩ := hC
  refine PM.go (l := [_, .float 0]) rfl rfl (Nat.le_of_ble_eq_true rfl) rfl ?_
  refine pw_aload_n rfl dX1_many_0 ?_
  refine pw_gI dX1_many_1 fX1_18 (by first | rfl | assumption) rfl ?_
  refine pw_aload_n rfl dX1_many_4 ?_
  refine pw_gI dX1_many_5 fX1_18 (by first | rfl | assumption) rfl ?_
  refine pw_iconst 1 (by decide) dX1_many_8 ?_
  refine pw_isub dX1_many_9 ?_
  refine pw_imul dX1_many_10 ?_
  refine ps_istore_n (l' := [_, _]) dX1_many_11 (by decide) rfl rfl ?_
  refine pw_iconst 1 (by decide) dX1_many_12 ?_
  refine pw_aload_n rfl dX1_many_13 ?_
  refine pw_gI dX1_many_14 fX1_18 (by first | rfl | assumption) rfl ?_
  refine pw_iadd dX1_many_17 ?_
  refine pw_iload_n rfl dX1_many_18 ?_
  refine pw_iadd dX1_many_19 ?_
  refine pw_aload_n rfl dX1_many_20 ?_
  refine pw_gI dX1_many_21 fX1_25 (by first | rfl | assumption) rfl ?_
  refine pw_imul dX1_many_24 ?_
  refine pw_iret dX1_many_25 (Or.inl rfl) ?_
  rw [h1, h3, nch_ok k h2 P h5]
  exact hQ
theorem c_chas {x : Int32} (hC : CH F A k P K V PK) (hQ : Q (some (.int (if 0 ≤ x ∧ x < nI (nch k P) then 1 else 0))) (HS F A rf lo X)) : PM Γ mX1_has [.ref 11, .int x] (HS F A rf lo X) 0 0 Q := by
  refine PM.go (l := [_, _]) rfl rfl (Nat.le_of_ble_eq_true rfl) rfl ?_
  refine pw_iload_n rfl dX1_has_0 ?_
  refine pw_if_lt 16 dX1_has_1 (by decide) (fun q1 => ?_) (fun q1 => ?_)
  · refine pw_iconst 0 (by decide) dX1_has_16 ?_
    refine pw_iret dX1_has_17 (Or.inr ⟨rfl, rfl⟩) ?_
    rw [if_neg (fun z => Int32.not_le.mpr q1 z.1)] at hQ
    exact hQ
  · refine pw_iload_n rfl dX1_has_4 ?_
    refine pw_aload_n rfl dX1_has_5 ?_
    refine pc_V0 dX1_has_6 lX1_28 rfl (by first | rfl | assumption) (by decide) (Nat.le_of_ble_eq_true rfl) ?_
    refine c_many hC ?_
    refine pw_icmp_ge 16 dX1_has_9 (by decide) (fun q9 => ?_) (fun q9 => ?_)
    · refine pw_iconst 0 (by decide) dX1_has_16 ?_
      refine pw_iret dX1_has_17 (Or.inr ⟨rfl, rfl⟩) ?_
      rw [if_neg (fun z => Int32.not_lt.mpr q9 z.2)] at hQ
      exact hQ
    · refine pw_iconst 1 (by decide) dX1_has_12 ?_
      refine pw_goto 17 dX1_has_13 (by decide) ?_
      refine pw_iret dX1_has_17 (Or.inr ⟨rfl, rfl⟩) ?_
      rw [if_pos ⟨Int32.not_lt.mp q1, Int32.not_le.mp q9⟩] at hQ
      exact hQ
theorem c_group {x : Nat} (hC : CH F A k P K V PK) (hx : x < 1000) (hQ : Q (some (.int (nI (x / P)))) (HS F A rf lo X)) : PM Γ mX1_groupOf [.ref 11, .int (nI x)] (HS F A rf lo X) 0 0 Q := by
  obtain ⟨h1, h2, h3, h4, h5, h6, h7, h8⟩ := hC
  refine PM.go (l := [_, _]) rfl rfl (Nat.le_of_ble_eq_true rfl) rfl ?_
  refine pw_aload_n rfl dX1_groupOf_0 ?_
  refine pw_gI dX1_groupOf_1 fX1_25 (by first | rfl | assumption) rfl ?_
  refine pw_if_le 16 dX1_groupOf_4 (by decide) (fun q => absurd q (by rw [h3]; exact nI_ge (a := 0) h4 (by omega))) (fun _ => ?_)
  refine pw_iload_n rfl dX1_groupOf_7 ?_
  refine pw_aload_n rfl dX1_groupOf_8 ?_
  refine pw_gI dX1_groupOf_9 fX1_25 (by first | rfl | assumption) rfl ?_
  refine pw_idiv (by rw [h3]; exact nI_ne0 h4 (by omega)) dX1_groupOf_12 ?_
  refine pw_goto 17 dX1_groupOf_13 (by decide) ?_
  refine pw_iret dX1_groupOf_17 (Or.inl rfl) ?_
  rw [h3, pk_div (by omega) h4 (by omega)]
  exact hQ
theorem c_packerOf {x : Nat} (hC : CH F A k P K V PK) (hx : x < nch k P) (hQ : Q (some (.int (nI (PK (x % P))))) (HS F A rf lo X)) : PM Γ mX1_packerOf [.ref 11, .int (nI x)] (HS F A rf lo X) 0 0 Q := by
  obtain ⟨h1, h2, h3, h4, h5, h6, h7, h8⟩ := id hC
  have hle := nch_le k h2 P h5
  have hm := Nat.mod_lt x h4
  refine PM.go (l := [_, _]) rfl rfl (Nat.le_of_ble_eq_true rfl) rfl ?_
  refine pw_aload_n rfl dX1_packerOf_0 ?_
  refine pw_iload_n rfl dX1_packerOf_1 ?_
  refine pc_V1 dX1_packerOf_2 lX1_32 rfl (by first | rfl | assumption) (by decide) (Nat.le_of_ble_eq_true rfl) ?_
  refine c_chas hC ?_
  rw [if_pos ⟨nI_pos' (by omega), nI_lt hx (by omega)⟩]
  refine pw_if_eq 15 dX1_packerOf_5 (by decide) (fun q => absurd q (by decide)) (fun _ => ?_)
  refine pw_aload_n rfl dX1_packerOf_8 ?_
  refine pw_gI dX1_packerOf_9 fX1_25 (by first | rfl | assumption) rfl ?_
  refine pw_if_gt 17 dX1_packerOf_12 (by decide) (fun _ => ?_) (fun q => absurd (by rw [h3]; exact nI_lt (a := 0) h4 (by omega)) q)
  refine pw_aload_n rfl dX1_packerOf_17 ?_
  refine pw_gC dX1_packerOf_18 fX1_22 (by first | rfl | assumption) rfl (by first | rfl | assumption) ?_
  refine pw_iload_n rfl dX1_packerOf_21 ?_
  refine pw_aload_n rfl dX1_packerOf_22 ?_
  refine pw_gI dX1_packerOf_23 fX1_25 (by first | rfl | assumption) rfl ?_
  refine pw_irem (by rw [h3]; exact nI_ne0 h4 (by omega)) dX1_packerOf_26 ?_
  rw [h3, pk_rem (by omega) h4 (by omega)]
  refine pw_aI dX1_packerOf_27 (by first | rfl | assumption) (by first | assumption | exact vp_in_nI (by omega) (by omega)) ?_
  refine pw_iret dX1_packerOf_28 (Or.inl rfl) ?_
  rw [nI_clamp (by omega), (h7 _ hm).1]
  exact hQ
theorem c_filterOf0 {x : Nat} (hC : CH F A k P K V PK) (hx : x < nch k P) (hQ : Q (some (.int (fo k (x / P)))) (HS F A rf lo X)) : PM Γ mX1_filterOf [.ref 11, .int (nI x), .int 0] (HS F A rf lo X) 0 0 Q := by
  obtain ⟨h1, h2, h3, h4, h5, h6, h7, h8⟩ := id hC
  have hle := nch_le k h2 P h5
  have hg := grp_lt h4 hx
  have hgl : x / P ≤ x := Nat.div_le_self _ _
  have hok := f_ok k h2 (x / P) hg
  refine PM.go (l := [_, _, _, .float 0, .float 0, .float 0, .float 0, .float 0]) rfl rfl (Nat.le_of_ble_eq_true rfl) rfl ?_
  refine pw_aload_n rfl dX1_filterOf_0 ?_
  refine pw_iload_n rfl dX1_filterOf_1 ?_
  refine pc_V1 dX1_filterOf_2 lX1_36 rfl (by first | rfl | assumption) (by decide) (Nat.le_of_ble_eq_true rfl) ?_
  refine c_group hC (by omega) ?_
  refine ps_istore_n (l' := [_, _, _, _, _, _, _, _]) dX1_filterOf_5 (by decide) rfl rfl ?_
  refine pw_iload_n rfl dX1_filterOf_6 ?_
  refine pw_aload_n rfl dX1_filterOf_7 ?_
  refine pw_gI dX1_filterOf_8 fX1_18 (by first | rfl | assumption) rfl ?_
  rw [h1]
  unfold fo at hQ
  generalize x / P = g at hQ hg hgl hok
  by_cases hgk : g ≤ k
  · rw [if_pos hgk] at hQ
    refine pw_icmp_gt 31 dX1_filterOf_11 (by decide) (fun q => absurd q (nI_nlt hgk (by omega))) (fun _ => ?_)
    refine pw_iload_n rfl dX1_filterOf_14 ?_
    refine pw_if_ne 28 dX1_filterOf_15 (by decide) (fun q => absurd (rfl) q) (fun _ => ?_)
    refine pw_iload_n rfl dX1_filterOf_18 ?_
    by_cases hg0 : 0 < g
    · rw [if_pos hg0] at hQ
      refine pw_if_le 28 dX1_filterOf_19 (by decide) (fun q => absurd q (nI_ge (a := 0) hg0 (by omega))) (fun _ => ?_)
      refine pw_iload_n rfl dX1_filterOf_22 ?_
      refine pw_iconst 1 (by decide) dX1_filterOf_23 ?_
      refine pw_isub dX1_filterOf_24 ?_
      refine pw_goto 30 dX1_filterOf_25 (by decide) ?_
      refine pw_iret dX1_filterOf_30 (Or.inl rfl) ?_
      rw [show nI g - 1 = nI (g - 1) from pk_sub (b := 1) (by omega)]
      exact hQ
    · rw [if_neg hg0] at hQ
      refine pw_if_le 28 dX1_filterOf_19 (by decide) (fun _ => ?_) (fun q => absurd (nI_le (b := 0) (by omega) (by omega)) q)
      refine pw_bipush (-3) (by decide) dX1_filterOf_28 ?_
      refine pw_iret dX1_filterOf_30 (Or.inl rfl) ?_
      exact hQ
  · rw [if_neg hgk] at hQ
    have hk2 := (hok.2.1 (by omega)).1
    refine pw_icmp_gt 31 dX1_filterOf_11 (by decide) (fun _ => ?_) (fun q => absurd (nI_lt (by omega) (by omega)) q)
    refine pw_iload_n rfl dX1_filterOf_31 ?_
    refine pw_iconst 1 (by decide) dX1_filterOf_32 ?_
    refine pw_isub dX1_filterOf_33 ?_
    refine pw_aload_n rfl dX1_filterOf_34 ?_
    refine pw_gI dX1_filterOf_35 fX1_18 (by first | rfl | assumption) rfl ?_
    refine pw_isub dX1_filterOf_38 ?_
    rw [h1, show nI g - 1 = nI (g - 1) from pk_sub (b := 1) (by omega), pk_sub (by omega), show g - 1 - k = g - (k + 1) by omega]
    refine ps_istore (l' := [_, _, _, _, _, _, _, _]) dX1_filterOf_39 (by decide) rfl rfl ?_
    refine pw_aload_n rfl dX1_filterOf_41 ?_
    refine pw_gI dX1_filterOf_42 fX1_18 (by first | rfl | assumption) rfl ?_
    refine pw_iconst 1 (by decide) dX1_filterOf_45 ?_
    refine pw_isub dX1_filterOf_46 ?_
    rw [h1, show nI k - 1 = nI (k - 1) from pk_sub (b := 1) (by omega)]
    refine ps_istore (l' := [_, _, _, _, _, _, _, _]) dX1_filterOf_47 (by decide) rfl rfl ?_
    refine pw_iload rfl dX1_filterOf_49 ?_
    refine pw_iconst 1 (by decide) dX1_filterOf_51 ?_
    refine pw_icmp_ge 58 dX1_filterOf_52 (by decide) (fun _ => ?_) (fun q => absurd (nI_le (a := 1) (by omega) (by omega)) q)
    refine pw_iload rfl dX1_filterOf_58 ?_
    refine pw_iload rfl dX1_filterOf_60 ?_
    refine pw_idiv (nI_ne0 (by omega) (by omega)) dX1_filterOf_62 ?_
    rw [pk_div (by omega) (by omega) (by omega)]
    refine ps_istore (l' := [_, _, _, _, _, _, _, _]) dX1_filterOf_63 (by decide) rfl rfl ?_
    refine pw_iload_n rfl dX1_filterOf_65 ?_
    refine pw_if_ne 72 dX1_filterOf_66 (by decide) (fun q => absurd (rfl) q) (fun _ => ?_)
    refine pw_iload rfl dX1_filterOf_69 ?_
    refine pw_iret dX1_filterOf_71 (Or.inl rfl) ?_
    exact hQ
theorem c_filterOf1 {x : Nat} (hC : CH F A k P K V PK) (hx : x < nch k P) (hQ : Q (some (.int (ft k (x / P)))) (HS F A rf lo X)) : PM Γ mX1_filterOf [.ref 11, .int (nI x), .int 1] (HS F A rf lo X) 0 0 Q := by
  obtain ⟨h1, h2, h3, h4, h5, h6, h7, h8⟩ := id hC
  have hle := nch_le k h2 P h5
  have hg := grp_lt h4 hx
  have hgl : x / P ≤ x := Nat.div_le_self _ _
  have hok := f_ok k h2 (x / P) hg
  refine PM.go (l := [_, _, _, .float 0, .float 0, .float 0, .float 0, .float 0]) rfl rfl (Nat.le_of_ble_eq_true rfl) rfl ?_
  refine pw_aload_n rfl dX1_filterOf_0 ?_
  refine pw_iload_n rfl dX1_filterOf_1 ?_
  refine pc_V1 dX1_filterOf_2 lX1_36 rfl (by first | rfl | assumption) (by decide) (Nat.le_of_ble_eq_true rfl) ?_
  refine c_group hC (by omega) ?_
  refine ps_istore_n (l' := [_, _, _, _, _, _, _, _]) dX1_filterOf_5 (by decide) rfl rfl ?_
  refine pw_iload_n rfl dX1_filterOf_6 ?_
  refine pw_aload_n rfl dX1_filterOf_7 ?_
  refine pw_gI dX1_filterOf_8 fX1_18 (by first | rfl | assumption) rfl ?_
  rw [h1]
  unfold ft at hQ
  generalize x / P = g at hQ hg hgl hok
  by_cases hgk : g ≤ k
  · rw [if_pos hgk] at hQ
    refine pw_icmp_gt 31 dX1_filterOf_11 (by decide) (fun q => absurd q (nI_nlt hgk (by omega))) (fun _ => ?_)
    refine pw_iload_n rfl dX1_filterOf_14 ?_
    refine pw_if_ne 28 dX1_filterOf_15 (by decide) (fun _ => ?_) (fun q => absurd q (by decide))
    refine pw_bipush (-3) (by decide) dX1_filterOf_28 ?_
    refine pw_iret dX1_filterOf_30 (Or.inl rfl) ?_
    exact hQ
  · rw [if_neg hgk] at hQ
    have hk2 := (hok.2.1 (by omega)).1
    refine pw_icmp_gt 31 dX1_filterOf_11 (by decide) (fun _ => ?_) (fun q => absurd (nI_lt (by omega) (by omega)) q)
    refine pw_iload_n rfl dX1_filterOf_31 ?_
    refine pw_iconst 1 (by decide) dX1_filterOf_32 ?_
    refine pw_isub dX1_filterOf_33 ?_
    refine pw_aload_n rfl dX1_filterOf_34 ?_
    refine pw_gI dX1_filterOf_35 fX1_18 (by first | rfl | assumption) rfl ?_
    refine pw_isub dX1_filterOf_38 ?_
    rw [h1, show nI g - 1 = nI (g - 1) from pk_sub (b := 1) (by omega), pk_sub (by omega), show g - 1 - k = g - (k + 1) by omega]
    refine ps_istore (l' := [_, _, _, _, _, _, _, _]) dX1_filterOf_39 (by decide) rfl rfl ?_
    refine pw_aload_n rfl dX1_filterOf_41 ?_
    refine pw_gI dX1_filterOf_42 fX1_18 (by first | rfl | assumption) rfl ?_
    refine pw_iconst 1 (by decide) dX1_filterOf_45 ?_
    refine pw_isub dX1_filterOf_46 ?_
    rw [h1, show nI k - 1 = nI (k - 1) from pk_sub (b := 1) (by omega)]
    refine ps_istore (l' := [_, _, _, _, _, _, _, _]) dX1_filterOf_47 (by decide) rfl rfl ?_
    refine pw_iload rfl dX1_filterOf_49 ?_
    refine pw_iconst 1 (by decide) dX1_filterOf_51 ?_
    refine pw_icmp_ge 58 dX1_filterOf_52 (by decide) (fun _ => ?_) (fun q => absurd (nI_le (a := 1) (by omega) (by omega)) q)
    refine pw_iload rfl dX1_filterOf_58 ?_
    refine pw_iload rfl dX1_filterOf_60 ?_
    refine pw_idiv (nI_ne0 (by omega) (by omega)) dX1_filterOf_62 ?_
    rw [pk_div (by omega) (by omega) (by omega)]
    refine ps_istore (l' := [_, _, _, _, _, _, _, _]) dX1_filterOf_63 (by decide) rfl rfl ?_
    refine pw_iload_n rfl dX1_filterOf_65 ?_
    refine pw_if_ne 72 dX1_filterOf_66 (by decide) (fun _ => ?_) (fun q => absurd q (by decide))
    refine pw_iload rfl dX1_filterOf_72 ?_
    refine pw_iload rfl dX1_filterOf_74 ?_
    refine pw_irem (nI_ne0 (by omega) (by omega)) dX1_filterOf_76 ?_
    have d1 : (g - (k + 1)) / (k - 1) ≤ g - (k + 1) := Nat.div_le_self _ _
    have d2 : (g - (k + 1)) % (k - 1) ≤ g - (k + 1) := Nat.mod_le _ _
    rw [pk_rem (by omega) (by omega) (by omega)]
    refine ps_istore (l' := [_, _, _, _, _, _, _, _]) dX1_filterOf_77 (by decide) rfl rfl ?_
    refine pw_iload rfl dX1_filterOf_79 ?_
    refine pw_iload rfl dX1_filterOf_81 ?_
    by_cases hlt : (g - (k + 1)) % (k - 1) < (g - (k + 1)) / (k - 1)
    · rw [if_pos hlt] at hQ
      refine pw_icmp_ge 91 dX1_filterOf_83 (by decide) (fun q => absurd q (nI_ge hlt (by omega))) (fun _ => ?_)
      refine pw_iload rfl dX1_filterOf_86 ?_
      refine pw_goto 95 dX1_filterOf_88 (by decide) ?_
      refine pw_iret dX1_filterOf_95 (Or.inl rfl) ?_
      exact hQ
    · rw [if_neg hlt] at hQ
      refine pw_icmp_ge 91 dX1_filterOf_83 (by decide) (fun _ => ?_) (fun q => absurd (nI_le (by omega) (by omega)) q)
      refine pw_iload rfl dX1_filterOf_91 ?_
      refine pw_iconst 1 (by decide) dX1_filterOf_93 ?_
      refine pw_iadd dX1_filterOf_94 ?_
      refine pw_iret dX1_filterOf_95 (Or.inl rfl) ?_
      rw [nI_1]
      exact hQ
theorem nI_ne3 {a : Nat} (h : a < 2 ^ 31) : ¬ nI a = -3 := by
  intro q
  have h1 := nI_toInt h
  rw [q] at h1
  have : (-3 : Int32).toInt = -3 := rfl
  omega
/-- how many FILTERS a CHAIN has -/
def nfi (k g : Nat) : Nat := if g = 0 then 0 else if g ≤ k then 1 else 2
theorem c_filtersIn {x : Nat} (hC : CH F A k P K V PK) (hx : x < nch k P) (hQ : Q (some (.int (nI (nfi k (x / P))))) (HS F A rf lo X)) : PM Γ mX1_filtersIn [.ref 11, .int (nI x)] (HS F A rf lo X) 0 0 Q := by
  obtain ⟨h1, h2, h3, h4, h5, h6, h7, h8⟩ := id hC
  have hg := grp_lt h4 hx
  have hok := f_ok k h2 (x / P) hg
  unfold nfi at hQ
  refine PM.go (l := [_, _]) rfl rfl (Nat.le_of_ble_eq_true rfl) rfl ?_
  refine pw_aload_n rfl dX1_filtersIn_0 ?_
  refine pw_iload_n rfl dX1_filtersIn_1 ?_
  refine pw_iconst 0 (by decide) dX1_filtersIn_2 ?_
  refine pc_V2 dX1_filtersIn_3 lX1_40 rfl (by first | rfl | assumption) (by decide) (Nat.le_of_ble_eq_true rfl) ?_
  refine c_filterOf0 hC hx ?_
  by_cases h0 : x / P = 0
  · rw [if_pos h0] at hQ
    rw [hok.2.2.1 h0]
    refine pw_bipush (-3) (by decide) dX1_filtersIn_6 ?_
    refine pw_icmp_ne 13 dX1_filtersIn_8 (by decide) (fun q => absurd (rfl) q) (fun _ => ?_)
    refine pw_iconst 0 (by decide) dX1_filtersIn_11 ?_
    refine pw_iret dX1_filtersIn_12 (Or.inl rfl) ?_
    exact hQ
  · rw [if_neg h0] at hQ
    obtain ⟨o1, o2⟩ := hok.1 (Nat.pos_of_ne_zero h0)
    rw [o2]
    refine pw_bipush (-3) (by decide) dX1_filtersIn_6 ?_
    refine pw_icmp_ne 13 dX1_filtersIn_8 (by decide) (fun _ => ?_) (fun q => absurd q (nI_ne3 (by omega)))
    refine pw_aload_n rfl dX1_filtersIn_13 ?_
    refine pw_iload_n rfl dX1_filtersIn_14 ?_
    refine pw_iconst 1 (by decide) dX1_filtersIn_15 ?_
    refine pc_V2 dX1_filtersIn_16 lX1_40 rfl (by first | rfl | assumption) (by decide) (Nat.le_of_ble_eq_true rfl) ?_
    refine c_filterOf1 hC hx ?_
    by_cases hk : x / P ≤ k
    · rw [if_pos hk] at hQ
      rw [hok.2.2.2 hk]
      refine pw_bipush (-3) (by decide) dX1_filtersIn_19 ?_
      refine pw_icmp_ne 28 dX1_filtersIn_21 (by decide) (fun q => absurd (rfl) q) (fun _ => ?_)
      refine pw_iconst 1 (by decide) dX1_filtersIn_24 ?_
      refine pw_goto 29 dX1_filtersIn_25 (by decide) ?_
      refine pw_iret dX1_filtersIn_29 (Or.inl rfl) ?_
      exact hQ
    · rw [if_neg hk] at hQ
      obtain ⟨p1, p2, p3⟩ := hok.2.1 (Nat.not_le.mp hk)
      rw [p3]
      refine pw_bipush (-3) (by decide) dX1_filtersIn_19 ?_
      refine pw_icmp_ne 28 dX1_filtersIn_21 (by decide) (fun _ => ?_) (fun q => absurd q (nI_ne3 (by omega)))
      refine pw_iconst 2 (by decide) dX1_filtersIn_28 ?_
      refine pw_iret dX1_filtersIn_29 (Or.inl rfl) ?_
      exact hQ
theorem c_kindOf {i : Nat} (hC : CH F A k P K V PK) (hi : i < k) (hQ : Q (some (.int (nI (K i)))) (HS F A rf lo X)) : PM Γ mX1_kindOf [.ref 11, .int (nI i)] (HS F A rf lo X) 0 0 Q := by
  obtain ⟨h1, h2, h3, h4, h5, h6, h7, h8⟩ := hC
  refine PM.go (l := [_, _]) rfl rfl (Nat.le_of_ble_eq_true rfl) rfl ?_
  refine pw_iload_n rfl dX1_kindOf_0 ?_
  refine pw_if_lt 22 dX1_kindOf_1 (by decide) (fun q => absurd q (nI_pos (by omega))) (fun _ => ?_)
  refine pw_iload_n rfl dX1_kindOf_4 ?_
  refine pw_aload_n rfl dX1_kindOf_5 ?_
  refine pw_gC dX1_kindOf_6 fX1_9 (by first | rfl | assumption) rfl (by first | rfl | assumption) ?_
  refine pw_lI (nI _) dX1_kindOf_9 (by first | rfl | assumption) rfl ?_
  refine pw_icmp_ge 22 dX1_kindOf_10 (by decide) (fun q => absurd q (nI_ge (b := 4) (by omega) (by omega))) (fun _ => ?_)
  refine pw_aload_n rfl dX1_kindOf_13 ?_
  refine pw_gC dX1_kindOf_14 fX1_9 (by first | rfl | assumption) rfl (by first | rfl | assumption) ?_
  refine pw_iload_n rfl dX1_kindOf_17 ?_
  refine pw_aI dX1_kindOf_18 (by first | rfl | assumption) (by first | assumption | exact vp_in_nI (by omega) (by omega)) ?_
  refine pw_goto 23 dX1_kindOf_19 (by decide) ?_
  refine pw_iret dX1_kindOf_23 (Or.inl rfl) ?_
  rw [nI_clamp (by omega), (h6 i hi).1]
  exact hQ
theorem c_valueOf {i : Nat} (hC : CH F A k P K V PK) (hi : i < k) (hQ : Q (some (.int (nI (V i)))) (HS F A rf lo X)) : PM Γ mX1_valueOf [.ref 11, .int (nI i)] (HS F A rf lo X) 0 0 Q := by
  obtain ⟨h1, h2, h3, h4, h5, h6, h7, h8⟩ := hC
  refine PM.go (l := [_, _]) rfl rfl (Nat.le_of_ble_eq_true rfl) rfl ?_
  refine pw_iload_n rfl dX1_valueOf_0 ?_
  refine pw_if_lt 22 dX1_valueOf_1 (by decide) (fun q => absurd q (nI_pos (by omega))) (fun _ => ?_)
  refine pw_iload_n rfl dX1_valueOf_4 ?_
  refine pw_aload_n rfl dX1_valueOf_5 ?_
  refine pw_gC dX1_valueOf_6 fX1_15 (by first | rfl | assumption) rfl (by first | rfl | assumption) ?_
  refine pw_lI (nI _) dX1_valueOf_9 (by first | rfl | assumption) rfl ?_
  refine pw_icmp_ge 22 dX1_valueOf_10 (by decide) (fun q => absurd q (nI_ge (b := 4) (by omega) (by omega))) (fun _ => ?_)
  refine pw_aload_n rfl dX1_valueOf_13 ?_
  refine pw_gC dX1_valueOf_14 fX1_15 (by first | rfl | assumption) rfl (by first | rfl | assumption) ?_
  refine pw_iload_n rfl dX1_valueOf_17 ?_
  refine pw_aI dX1_valueOf_18 (by first | rfl | assumption) (by first | assumption | exact vp_in_nI (by omega) (by omega)) ?_
  refine pw_goto 23 dX1_valueOf_19 (by decide) ?_
  refine pw_iret dX1_valueOf_23 (Or.inl rfl) ?_
  rw [nI_clamp (by omega), (h6 i hi).2.1]
  exact hQ
theorem c_valueIn {j q : Nat} {h : PH} (hj : j < 4) (hq : q < 5) (h5 : (ptab Γ j).1 = 5) (hQ : Q (some (.int ((ptab Γ j).2 q))) h) : PM Γ mX1_valueIn [.retAddr j, .int (nI q)] h 0 0 Q := by
  refine PM.go (l := [_, _]) rfl rfl (Nat.le_of_ble_eq_true rfl) rfl ?_
  refine pw_iload_n rfl dX1_valueIn_0 ?_
  refine pw_if_lt 16 dX1_valueIn_1 (by decide) (fun q => absurd q (nI_pos (by omega))) (fun _ => ?_)
  refine pw_iload_n rfl dX1_valueIn_4 ?_
  refine pw_aload_nS rfl dX1_valueIn_5 ?_
  refine pw_salen (by omega) dX1_valueIn_6 ?_
  rw [h5]
  refine pw_icmp_ge 16 dX1_valueIn_7 (by decide) (fun q => absurd q (nI_ge (b := 5) hq (by omega))) (fun _ => ?_)
  refine pw_aload_nS rfl dX1_valueIn_10 ?_
  refine pw_iload_n rfl dX1_valueIn_11 ?_
  refine pw_saload (by omega) dX1_valueIn_12 (by rw [h5]; exact vp_in_nI hq (by omega)) ?_
  refine pw_goto 17 dX1_valueIn_13 (by decide) ?_
  refine pw_iret dX1_valueIn_17 (Or.inl rfl) ?_
  rw [nI_clamp (by omega)]
  exact hQ
theorem fok_lt {kind v : Nat} (h : fok kind v) : kind < 5 ∧ v < 256 := by
  rcases h with q | q | q | q <;> omega
theorem c_stepsOf {x : Nat} (hC : CH F A k P K V PK) (hx : x < nch k P) (hQ : Q (some (.int (nI (stp k P K PK x)))) (HS F A rf lo X)) : PM Γ mX1_stepsOf [.ref 11, .int (nI x)] (HS F A rf lo X) 0 0 Q := by
  obtain ⟨h1, h2, h3, h4, h5, h6, h7, h8⟩ := id hC
  have hg := grp_lt h4 hx
  have hok := f_ok k h2 (x / P) hg
  have hpk := (h7 _ (Nat.mod_lt x h4)).2
  have htp := tb_le _ hpk
  unfold stp at hQ
  refine PM.go (l := [_, _, .float 0, .float 0]) rfl rfl (Nat.le_of_ble_eq_true rfl) rfl ?_
  refine pw_gets 2 (by decide) dX1_stepsOf_0 gX1_44 ?_
  refine pw_aload_n rfl dX1_stepsOf_3 ?_
  refine pw_iload_n rfl dX1_stepsOf_4 ?_
  refine pc_V1 dX1_stepsOf_5 lX1_47 rfl (by first | rfl | assumption) (by decide) (Nat.le_of_ble_eq_true rfl) ?_
  refine c_packerOf hC hx ?_
  refine pc_S2 dX1_stepsOf_8 lX1_50 (by decide) (Nat.le_of_ble_eq_true rfl) ?_
  refine c_valueIn (by decide) hpk rfl ?_
  refine ps_istore_n (l' := [_, _, _, _]) dX1_stepsOf_11 (by decide) rfl rfl ?_
  refine pw_iconst 0 (by decide) dX1_stepsOf_12 ?_
  refine ps_istore_n (l' := [_, _, _, _]) dX1_stepsOf_13 (by decide) rfl rfl ?_
  rw [(tb_ok Γ _ hpk).1]
  have loop2 : ∀ s, k < x / P → s ≤ 1000 → (Q (some (.int (nI (s + fst_ (K (f2 k (x / P))))))) (HS F A rf lo X)) → PW Γ mX1_stepsOf 14 [.ref 11, .int (nI x), .int (nI s), .int 1] [] (HS F A rf lo X) 0 0 Q := by
    intro s hgk hs hq
    obtain ⟨p1, p2, p3⟩ := hok.2.1 hgk
    have hf := fok_lt (h6 _ p2).2.2
    refine pw_iload_n rfl dX1_stepsOf_14 ?_
    refine pw_aload_n rfl dX1_stepsOf_15 ?_
    refine pw_iload_n rfl dX1_stepsOf_16 ?_
    refine pc_V1 dX1_stepsOf_17 lX1_54 rfl (by first | rfl | assumption) (by decide) (Nat.le_of_ble_eq_true rfl) ?_
    refine c_filtersIn hC hx ?_
    have e : nfi k (x / P) = 2 := by
      unfold nfi
      rw [if_neg (fun q => by rw [q] at hgk; omega), if_neg (Nat.not_le.mpr hgk)]
    rw [e]
    refine pw_icmp_ge 48 dX1_stepsOf_20 (by decide) (fun q => absurd q (by decide)) (fun _ => ?_)
    refine pw_iload_n rfl dX1_stepsOf_23 ?_
    refine pw_gets 0 (by decide) dX1_stepsOf_24 gX1_57 ?_
    refine pw_aload_n rfl dX1_stepsOf_27 ?_
    refine pw_aload_n rfl dX1_stepsOf_28 ?_
    refine pw_iload_n rfl dX1_stepsOf_29 ?_
    refine pw_iload_n rfl dX1_stepsOf_30 ?_
    refine pc_V2 dX1_stepsOf_31 lX1_40 rfl (by first | rfl | assumption) (by decide) (Nat.le_of_ble_eq_true rfl) ?_
    refine c_filterOf1 hC hx ?_
    rw [p3]
    refine pc_V1 dX1_stepsOf_34 lX1_60 rfl (by first | rfl | assumption) (by decide) (Nat.le_of_ble_eq_true rfl) ?_
    refine c_kindOf hC p2 ?_
    refine pc_S2 dX1_stepsOf_37 lX1_50 (by decide) (Nat.le_of_ble_eq_true rfl) ?_
    refine c_valueIn (by decide) hf.1 rfl ?_
    refine pw_iadd dX1_stepsOf_40 ?_
    refine ps_istore_n (l' := [_, _, _, _]) dX1_stepsOf_41 (by decide) rfl rfl ?_
    refine ps_iinc (l' := [_, _, _, _]) 1 dX1_stepsOf_42 (by decide) rfl (by decide) rfl rfl ?_
    refine pw_goto 14 dX1_stepsOf_45 (by decide) ?_
    rw [(tb_ok Γ _ hf.1).2.1, nI_add]
    refine pw_iload_n rfl dX1_stepsOf_14 ?_
    refine pw_aload_n rfl dX1_stepsOf_15 ?_
    refine pw_iload_n rfl dX1_stepsOf_16 ?_
    refine pc_V1 dX1_stepsOf_17 lX1_54 rfl (by first | rfl | assumption) (by decide) (Nat.le_of_ble_eq_true rfl) ?_
    refine c_filtersIn hC hx ?_
    rw [e]
    refine pw_icmp_ge 48 dX1_stepsOf_20 (by decide) (fun _ => ?_) (fun q => absurd (by decide) q)
    refine pw_iload_n rfl dX1_stepsOf_48 ?_
    refine pw_iret dX1_stepsOf_49 (Or.inl rfl) ?_
    exact hq
  have loop1 : ∀ s, 0 < x / P → s ≤ 900 → (Q (some (.int (nI (s + fst_ (K (f1 k (x / P))) + (if k < x / P then fst_ (K (f2 k (x / P))) else 0))))) (HS F A rf lo X)) → PW Γ mX1_stepsOf 14 [.ref 11, .int (nI x), .int (nI s), .int 0] [] (HS F A rf lo X) 0 0 Q := by
    intro s hg0 hs hq
    obtain ⟨o1, o2⟩ := hok.1 hg0
    have hf := fok_lt (h6 _ o1).2.2
    have hfl := tb_le _ hf.1
    have e1 : ¬ nfi k (x / P) = 0 := by
      unfold nfi
      rw [if_neg (fun q => by rw [q] at hg0; omega)]
      split <;> omega
    have e2 : nfi k (x / P) ≤ 2 := by
      unfold nfi
      split
      · omega
      · split <;> omega
    refine pw_iload_n rfl dX1_stepsOf_14 ?_
    refine pw_aload_n rfl dX1_stepsOf_15 ?_
    refine pw_iload_n rfl dX1_stepsOf_16 ?_
    refine pc_V1 dX1_stepsOf_17 lX1_54 rfl (by first | rfl | assumption) (by decide) (Nat.le_of_ble_eq_true rfl) ?_
    refine c_filtersIn hC hx ?_
    refine pw_icmp_ge 48 dX1_stepsOf_20 (by decide) (fun q => absurd q (nI_ge (a := 0) (by omega) (by omega))) (fun _ => ?_)
    refine pw_iload_n rfl dX1_stepsOf_23 ?_
    refine pw_gets 0 (by decide) dX1_stepsOf_24 gX1_57 ?_
    refine pw_aload_n rfl dX1_stepsOf_27 ?_
    refine pw_aload_n rfl dX1_stepsOf_28 ?_
    refine pw_iload_n rfl dX1_stepsOf_29 ?_
    refine pw_iload_n rfl dX1_stepsOf_30 ?_
    refine pc_V2 dX1_stepsOf_31 lX1_40 rfl (by first | rfl | assumption) (by decide) (Nat.le_of_ble_eq_true rfl) ?_
    refine c_filterOf0 hC hx ?_
    rw [o2]
    refine pc_V1 dX1_stepsOf_34 lX1_60 rfl (by first | rfl | assumption) (by decide) (Nat.le_of_ble_eq_true rfl) ?_
    refine c_kindOf hC o1 ?_
    refine pc_S2 dX1_stepsOf_37 lX1_50 (by decide) (Nat.le_of_ble_eq_true rfl) ?_
    refine c_valueIn (by decide) hf.1 rfl ?_
    refine pw_iadd dX1_stepsOf_40 ?_
    refine ps_istore_n (l' := [_, _, _, _]) dX1_stepsOf_41 (by decide) rfl rfl ?_
    refine ps_iinc (l' := [_, _, _, _]) 1 dX1_stepsOf_42 (by decide) rfl (by decide) rfl rfl ?_
    refine pw_goto 14 dX1_stepsOf_45 (by decide) ?_
    rw [(tb_ok Γ _ hf.1).2.1, nI_add]
    by_cases hgk : k < x / P
    · rw [if_pos hgk] at hq
      exact loop2 _ hgk (by omega) hq
    · rw [if_neg hgk, Nat.add_zero] at hq
      have e : nfi k (x / P) = 1 := by
        unfold nfi
        rw [if_neg (fun q => by rw [q] at hg0; omega), if_pos (Nat.not_lt.mp hgk)]
      refine pw_iload_n rfl dX1_stepsOf_14 ?_
      refine pw_aload_n rfl dX1_stepsOf_15 ?_
      refine pw_iload_n rfl dX1_stepsOf_16 ?_
      refine pc_V1 dX1_stepsOf_17 lX1_54 rfl (by first | rfl | assumption) (by decide) (Nat.le_of_ble_eq_true rfl) ?_
      refine c_filtersIn hC hx ?_
      rw [e]
      refine pw_icmp_ge 48 dX1_stepsOf_20 (by decide) (fun _ => ?_) (fun q => absurd (by decide) q)
      refine pw_iload_n rfl dX1_stepsOf_48 ?_
      refine pw_iret dX1_stepsOf_49 (Or.inl rfl) ?_
      exact hq
  by_cases hg0 : 0 < x / P
  · rw [if_pos hg0] at hQ
    exact loop1 _ hg0 (by omega) hQ
  · have hz : x / P = 0 := Nat.eq_zero_of_not_pos hg0
    rw [if_neg hg0, if_neg (by rw [hz]; omega), Nat.add_zero] at hQ
    refine pw_iload_n rfl dX1_stepsOf_14 ?_
    refine pw_aload_n rfl dX1_stepsOf_15 ?_
    refine pw_iload_n rfl dX1_stepsOf_16 ?_
    refine pc_V1 dX1_stepsOf_17 lX1_54 rfl (by first | rfl | assumption) (by decide) (Nat.le_of_ble_eq_true rfl) ?_
    refine c_filtersIn hC hx ?_
    rw [hz, show nfi k 0 = 0 from rfl]
    refine pw_icmp_ge 48 dX1_stepsOf_20 (by decide) (fun _ => ?_) (fun q => absurd (by decide) q)
    refine pw_iload_n rfl dX1_stepsOf_48 ?_
    refine pw_iret dX1_stepsOf_49 (Or.inl rfl) ?_
    exact hQ
theorem c_memoryOf {x : Nat} (hC : CH F A k P K V PK) (hx : x < nch k P) (hQ : Q (some (.int (nI (mem_ k P K PK x)))) (HS F A rf lo X)) : PM Γ mX1_memoryOf [.ref 11, .int (nI x)] (HS F A rf lo X) 0 0 Q := by
  obtain ⟨h1, h2, h3, h4, h5, h6, h7, h8⟩ := id hC
  have hg := grp_lt h4 hx
  have hok := f_ok k h2 (x / P) hg
  have hpk := (h7 _ (Nat.mod_lt x h4)).2
  have htp := tb_le _ hpk
  unfold mem_ at hQ
  refine PM.go (l := [_, _, .float 0, .float 0]) rfl rfl (Nat.le_of_ble_eq_true rfl) rfl ?_
  refine pw_gets 3 (by decide) dX1_memoryOf_0 gX1_63 ?_
  refine pw_aload_n rfl dX1_memoryOf_3 ?_
  refine pw_iload_n rfl dX1_memoryOf_4 ?_
  refine pc_V1 dX1_memoryOf_5 lX1_47 rfl (by first | rfl | assumption) (by decide) (Nat.le_of_ble_eq_true rfl) ?_
  refine c_packerOf hC hx ?_
  refine pc_S2 dX1_memoryOf_8 lX1_50 (by decide) (Nat.le_of_ble_eq_true rfl) ?_
  refine c_valueIn (by decide) hpk rfl ?_
  refine ps_istore_n (l' := [_, _, _, _]) dX1_memoryOf_11 (by decide) rfl rfl ?_
  refine pw_iconst 0 (by decide) dX1_memoryOf_12 ?_
  refine ps_istore_n (l' := [_, _, _, _]) dX1_memoryOf_13 (by decide) rfl rfl ?_
  rw [(tb_ok Γ _ hpk).2.2.1]
  have loop2 : ∀ s, k < x / P → s ≤ 3000 → (Q (some (.int (nI (max s (fme (K (f2 k (x / P)))))))) (HS F A rf lo X)) → PW Γ mX1_memoryOf 14 [.ref 11, .int (nI x), .int (nI s), .int 1] [] (HS F A rf lo X) 0 0 Q := by
    intro s hgk hs hq
    obtain ⟨p1, p2, p3⟩ := hok.2.1 hgk
    have hf := fok_lt (h6 _ p2).2.2
    have hfl := tb_le _ hf.1
    refine pw_iload_n rfl dX1_memoryOf_14 ?_
    refine pw_aload_n rfl dX1_memoryOf_15 ?_
    refine pw_iload_n rfl dX1_memoryOf_16 ?_
    refine pc_V1 dX1_memoryOf_17 lX1_54 rfl (by first | rfl | assumption) (by decide) (Nat.le_of_ble_eq_true rfl) ?_
    refine c_filtersIn hC hx ?_
    have e : nfi k (x / P) = 2 := by
      unfold nfi
      rw [if_neg (fun q => by rw [q] at hgk; omega), if_neg (Nat.not_le.mpr hgk)]
    rw [e]
    refine pw_icmp_ge 50 dX1_memoryOf_20 (by decide) (fun q => absurd q (by decide)) (fun _ => ?_)
    refine pw_iload_n rfl dX1_memoryOf_23 ?_
    refine pw_gets 1 (by decide) dX1_memoryOf_24 gX1_66 ?_
    refine pw_aload_n rfl dX1_memoryOf_27 ?_
    refine pw_aload_n rfl dX1_memoryOf_28 ?_
    refine pw_iload_n rfl dX1_memoryOf_29 ?_
    refine pw_iload_n rfl dX1_memoryOf_30 ?_
    refine pc_V2 dX1_memoryOf_31 lX1_40 rfl (by first | rfl | assumption) (by decide) (Nat.le_of_ble_eq_true rfl) ?_
    refine c_filterOf1 hC hx ?_
    rw [p3]
    refine pc_V1 dX1_memoryOf_34 lX1_60 rfl (by first | rfl | assumption) (by decide) (Nat.le_of_ble_eq_true rfl) ?_
    refine c_kindOf hC p2 ?_
    refine pc_S2 dX1_memoryOf_37 lX1_50 (by decide) (Nat.le_of_ble_eq_true rfl) ?_
    refine c_valueIn (by decide) hf.1 rfl ?_
    refine pw_maxN s (fme (K (f2 k (x / P)))) rfl (tb_ok Γ _ hf.1).2.2.2 (by omega) (by omega) dX1_memoryOf_40 lX1_69 (by decide) (Nat.le_of_ble_eq_true rfl) ?_
    refine ps_istore_n (l' := [_, _, _, _]) dX1_memoryOf_43 (by decide) rfl rfl ?_
    refine ps_iinc (l' := [_, _, _, _]) 1 dX1_memoryOf_44 (by decide) rfl (by decide) rfl rfl ?_
    refine pw_goto 14 dX1_memoryOf_47 (by decide) ?_
    refine pw_iload_n rfl dX1_memoryOf_14 ?_
    refine pw_aload_n rfl dX1_memoryOf_15 ?_
    refine pw_iload_n rfl dX1_memoryOf_16 ?_
    refine pc_V1 dX1_memoryOf_17 lX1_54 rfl (by first | rfl | assumption) (by decide) (Nat.le_of_ble_eq_true rfl) ?_
    refine c_filtersIn hC hx ?_
    rw [e]
    refine pw_icmp_ge 50 dX1_memoryOf_20 (by decide) (fun _ => ?_) (fun q => absurd (by decide) q)
    refine pw_iload_n rfl dX1_memoryOf_50 ?_
    refine pw_iret dX1_memoryOf_51 (Or.inl rfl) ?_
    exact hq
  have loop1 : ∀ s, 0 < x / P → s ≤ 2000 → (Q (some (.int (nI (max (max s (fme (K (f1 k (x / P))))) (if k < x / P then fme (K (f2 k (x / P))) else 0))))) (HS F A rf lo X)) → PW Γ mX1_memoryOf 14 [.ref 11, .int (nI x), .int (nI s), .int 0] [] (HS F A rf lo X) 0 0 Q := by
    intro s hg0 hs hq
    obtain ⟨o1, o2⟩ := hok.1 hg0
    have hf := fok_lt (h6 _ o1).2.2
    have hfl := tb_le _ hf.1
    have e1 : ¬ nfi k (x / P) = 0 := by
      unfold nfi
      rw [if_neg (fun q => by rw [q] at hg0; omega)]
      split <;> omega
    have e2 : nfi k (x / P) ≤ 2 := by
      unfold nfi
      split
      · omega
      · split <;> omega
    refine pw_iload_n rfl dX1_memoryOf_14 ?_
    refine pw_aload_n rfl dX1_memoryOf_15 ?_
    refine pw_iload_n rfl dX1_memoryOf_16 ?_
    refine pc_V1 dX1_memoryOf_17 lX1_54 rfl (by first | rfl | assumption) (by decide) (Nat.le_of_ble_eq_true rfl) ?_
    refine c_filtersIn hC hx ?_
    refine pw_icmp_ge 50 dX1_memoryOf_20 (by decide) (fun q => absurd q (nI_ge (a := 0) (by omega) (by omega))) (fun _ => ?_)
    refine pw_iload_n rfl dX1_memoryOf_23 ?_
    refine pw_gets 1 (by decide) dX1_memoryOf_24 gX1_66 ?_
    refine pw_aload_n rfl dX1_memoryOf_27 ?_
    refine pw_aload_n rfl dX1_memoryOf_28 ?_
    refine pw_iload_n rfl dX1_memoryOf_29 ?_
    refine pw_iload_n rfl dX1_memoryOf_30 ?_
    refine pc_V2 dX1_memoryOf_31 lX1_40 rfl (by first | rfl | assumption) (by decide) (Nat.le_of_ble_eq_true rfl) ?_
    refine c_filterOf0 hC hx ?_
    rw [o2]
    refine pc_V1 dX1_memoryOf_34 lX1_60 rfl (by first | rfl | assumption) (by decide) (Nat.le_of_ble_eq_true rfl) ?_
    refine c_kindOf hC o1 ?_
    refine pc_S2 dX1_memoryOf_37 lX1_50 (by decide) (Nat.le_of_ble_eq_true rfl) ?_
    refine c_valueIn (by decide) hf.1 rfl ?_
    refine pw_maxN s (fme (K (f1 k (x / P)))) rfl (tb_ok Γ _ hf.1).2.2.2 (by omega) (by omega) dX1_memoryOf_40 lX1_69 (by decide) (Nat.le_of_ble_eq_true rfl) ?_
    refine ps_istore_n (l' := [_, _, _, _]) dX1_memoryOf_43 (by decide) rfl rfl ?_
    refine ps_iinc (l' := [_, _, _, _]) 1 dX1_memoryOf_44 (by decide) rfl (by decide) rfl rfl ?_
    refine pw_goto 14 dX1_memoryOf_47 (by decide) ?_
    by_cases hgk : k < x / P
    · rw [if_pos hgk] at hq
      exact loop2 _ hgk (by omega) hq
    · rw [if_neg hgk, Nat.max_zero] at hq
      have e : nfi k (x / P) = 1 := by
        unfold nfi
        rw [if_neg (fun q => by rw [q] at hg0; omega), if_pos (Nat.not_lt.mp hgk)]
      refine pw_iload_n rfl dX1_memoryOf_14 ?_
      refine pw_aload_n rfl dX1_memoryOf_15 ?_
      refine pw_iload_n rfl dX1_memoryOf_16 ?_
      refine pc_V1 dX1_memoryOf_17 lX1_54 rfl (by first | rfl | assumption) (by decide) (Nat.le_of_ble_eq_true rfl) ?_
      refine c_filtersIn hC hx ?_
      rw [e]
      refine pw_icmp_ge 50 dX1_memoryOf_20 (by decide) (fun _ => ?_) (fun q => absurd (by decide) q)
      refine pw_iload_n rfl dX1_memoryOf_50 ?_
      refine pw_iret dX1_memoryOf_51 (Or.inl rfl) ?_
      exact hq
  by_cases hg0 : 0 < x / P
  · rw [if_pos hg0] at hQ
    exact loop1 _ hg0 (by omega) hQ
  · have hz : x / P = 0 := Nat.eq_zero_of_not_pos hg0
    rw [if_neg hg0, if_neg (by rw [hz]; omega), Nat.max_zero, Nat.max_zero] at hQ
    refine pw_iload_n rfl dX1_memoryOf_14 ?_
    refine pw_aload_n rfl dX1_memoryOf_15 ?_
    refine pw_iload_n rfl dX1_memoryOf_16 ?_
    refine pc_V1 dX1_memoryOf_17 lX1_54 rfl (by first | rfl | assumption) (by decide) (Nat.le_of_ble_eq_true rfl) ?_
    refine c_filtersIn hC hx ?_
    rw [hz, show nfi k 0 = 0 from rfl]
    refine pw_icmp_ge 50 dX1_memoryOf_20 (by decide) (fun _ => ?_) (fun q => absurd (by decide) q)
    refine pw_iload_n rfl dX1_memoryOf_50 ?_
    refine pw_iret dX1_memoryOf_51 (Or.inl rfl) ?_
    exact hQ
end
