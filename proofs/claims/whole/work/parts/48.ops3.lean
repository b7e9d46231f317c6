/-! calls: filter, packer, forget -/
def tkI (kind v : Int32) : Int32 := if kind = 1 then (if 1 ≤ v ∧ v ≤ 8 then 1 else 0) else if kind = 2 then (if v = 0 then 1 else 0) else if kind = 3 then (if 2 ≤ v ∧ v ≤ 8 then 1 else 0) else if kind = 4 then (if 1 ≤ v ∧ v ≤ 255 then 1 else 0) else 0
theorem i32_le {v : Int32} {a b : Nat} (h : nI a ≤ v ∧ v ≤ nI b) (hb : b < 2 ^ 31) (ha : a < 2 ^ 31) : ∃ k : Nat, a ≤ k ∧ k ≤ b ∧ v = nI k := by
  obtain ⟨k, hk, rfl⟩ := i32_nn (Int32.le_trans (nI_pos' ha) h.1)
  refine ⟨k, ?_, ?_, rfl⟩
  · rcases Nat.lt_or_ge k a with h3 | h3
    · exact absurd h.1 (nI_ge h3 ha)
    · exact h3
  · rcases Nat.lt_or_ge b k with h3 | h3
    · exact absurd h.2 (nI_ge h3 hk)
    · exact h3
theorem tkI_ok {kind v : Int32} (h : ¬ tkI kind v = 0) : ∃ kd vv : Nat, kind = nI kd ∧ v = nI vv ∧ fok kd vv := by
  unfold tkI at h
  by_cases h1 : kind = 1
  · rw [if_pos h1] at h
    by_cases h2 : 1 ≤ v ∧ v ≤ 8
    · obtain ⟨k, k1, k2, e⟩ := i32_le (a := 1) (b := 8) h2 (by omega) (by omega)
      exact ⟨1, k, h1, e, Or.inl ⟨rfl, k1, k2⟩⟩
    · rw [if_neg h2] at h; exact absurd rfl h
  · rw [if_neg h1] at h
    by_cases h3 : kind = 2
    · rw [if_pos h3] at h
      by_cases h2 : v = 0
      · exact ⟨2, 0, h3, h2, Or.inr (Or.inl ⟨rfl, rfl⟩)⟩
      · rw [if_neg h2] at h; exact absurd rfl h
    · rw [if_neg h3] at h
      by_cases h4 : kind = 3
      · rw [if_pos h4] at h
        by_cases h2 : 2 ≤ v ∧ v ≤ 8
        · obtain ⟨k, k1, k2, e⟩ := i32_le (a := 2) (b := 8) h2 (by omega) (by omega)
          exact ⟨3, k, h4, e, Or.inr (Or.inr (Or.inl ⟨rfl, k1, k2⟩))⟩
        · rw [if_neg h2] at h; exact absurd rfl h
      · rw [if_neg h4] at h
        by_cases h5 : kind = 4
        · rw [if_pos h5] at h
          by_cases h2 : 1 ≤ v ∧ v ≤ 255
          · obtain ⟨k, k1, k2, e⟩ := i32_le (a := 1) (b := 255) h2 (by omega) (by omega)
            exact ⟨4, k, h5, e, Or.inr (Or.inr (Or.inr ⟨rfl, k1, k2⟩))⟩
          · rw [if_neg h2] at h; exact absurd rfl h
        · rw [if_neg h5] at h; exact absurd rfl h
theorem sw_out {x : Int32} {a b : Int} (h : ∀ k : Int, a ≤ k → k ≤ b → ¬ x.toInt = k) : x.toInt < a ∨ b < x.toInt := by
  have := h x.toInt
  omega
theorem toInt_ne {x : Int32} {k : Nat} (hk : k < 2 ^ 31) (h : ¬ x = nI k) : ¬ x.toInt = (k : Int) := by
  intro h1
  apply h
  apply Int32.toInt_inj.mp
  unfold nI
  rw [Int32.toInt_ofNat_of_lt (by omega), h1]
section
variable {Γ : Nat × (Nat → Int32)}
theorem c_takes {h : PH} {Q : Option Value → PH → Prop} {kind v : Int32} (hQ : Q (some (.int (tkI kind v))) h) : PM Γ mX2_takes [.int kind, .int v] h 0 0 Q := by
  unfold tkI at hQ
  refine PM.go (l := [_, _]) rfl rfl (Nat.le_of_ble_eq_true rfl) rfl ?_
  refine pw_iload_n rfl dX2_takes_0 ?_
  by_cases h1 : kind = 1
  · subst h1
    rw [if_pos rfl] at hQ
    refine pw_tin 32 dX2_takes_1 (by decide) (by decide) rfl (by decide) ?_
    refine pw_iload_n rfl dX2_takes_32 ?_
    refine pw_iconst 1 (by decide) dX2_takes_33 ?_
    refine pw_icmp_lt 47 dX2_takes_34 (by decide) (fun q34 => ?_) (fun q34 => ?_)
    · refine pw_iconst 0 (by decide) dX2_takes_47 ?_
      refine pw_iret dX2_takes_48 (Or.inr ⟨rfl, rfl⟩) ?_
      rw [if_neg (fun z => Int32.not_le.mpr q34 z.1)] at hQ
      exact hQ
    · refine pw_iload_n rfl dX2_takes_37 ?_
      refine pw_bipush 8 (by decide) dX2_takes_38 ?_
      refine pw_icmp_gt 47 dX2_takes_40 (by decide) (fun q40 => ?_) (fun q40 => ?_)
      · refine pw_iconst 0 (by decide) dX2_takes_47 ?_
        refine pw_iret dX2_takes_48 (Or.inr ⟨rfl, rfl⟩) ?_
        rw [if_neg (fun z => Int32.not_le.mpr q40 z.2)] at hQ
        exact hQ
      · refine pw_iconst 1 (by decide) dX2_takes_43 ?_
        refine pw_goto 48 dX2_takes_44 (by decide) ?_
        refine pw_iret dX2_takes_48 (Or.inr ⟨rfl, rfl⟩) ?_
        rw [if_pos ⟨Int32.not_lt.mp q34, Int32.not_lt.mp q40⟩] at hQ
        exact hQ
  · rw [if_neg h1] at hQ
    by_cases h2 : kind = 2
    · subst h2
      rw [if_pos rfl] at hQ
      refine pw_tin 49 dX2_takes_1 (by decide) (by decide) rfl (by decide) ?_
      refine pw_iload_n rfl dX2_takes_49 ?_
      refine pw_if_ne 57 dX2_takes_50 (by decide) (fun q50 => ?_) (fun q50 => ?_)
      · refine pw_iconst 0 (by decide) dX2_takes_57 ?_
        refine pw_iret dX2_takes_58 (Or.inr ⟨rfl, rfl⟩) ?_
        rw [if_neg q50] at hQ
        exact hQ
      · refine pw_iconst 1 (by decide) dX2_takes_53 ?_
        refine pw_goto 58 dX2_takes_54 (by decide) ?_
        refine pw_iret dX2_takes_58 (Or.inr ⟨rfl, rfl⟩) ?_
        rw [if_pos q50] at hQ
        exact hQ
    · rw [if_neg h2] at hQ
      by_cases h3 : kind = 3
      · subst h3
        rw [if_pos rfl] at hQ
        refine pw_tin 59 dX2_takes_1 (by decide) (by decide) rfl (by decide) ?_
        refine pw_iload_n rfl dX2_takes_59 ?_
        refine pw_iconst 2 (by decide) dX2_takes_60 ?_
        refine pw_icmp_lt 74 dX2_takes_61 (by decide) (fun q61 => ?_) (fun q61 => ?_)
        · refine pw_iconst 0 (by decide) dX2_takes_74 ?_
          refine pw_iret dX2_takes_75 (Or.inr ⟨rfl, rfl⟩) ?_
          rw [if_neg (fun z => Int32.not_le.mpr q61 z.1)] at hQ
          exact hQ
        · refine pw_iload_n rfl dX2_takes_64 ?_
          refine pw_bipush 8 (by decide) dX2_takes_65 ?_
          refine pw_icmp_gt 74 dX2_takes_67 (by decide) (fun q67 => ?_) (fun q67 => ?_)
          · refine pw_iconst 0 (by decide) dX2_takes_74 ?_
            refine pw_iret dX2_takes_75 (Or.inr ⟨rfl, rfl⟩) ?_
            rw [if_neg (fun z => Int32.not_le.mpr q67 z.2)] at hQ
            exact hQ
          · refine pw_iconst 1 (by decide) dX2_takes_70 ?_
            refine pw_goto 75 dX2_takes_71 (by decide) ?_
            refine pw_iret dX2_takes_75 (Or.inr ⟨rfl, rfl⟩) ?_
            rw [if_pos ⟨Int32.not_lt.mp q61, Int32.not_lt.mp q67⟩] at hQ
            exact hQ
      · rw [if_neg h3] at hQ
        by_cases h4 : kind = 4
        · subst h4
          rw [if_pos rfl] at hQ
          refine pw_tin 76 dX2_takes_1 (by decide) (by decide) rfl (by decide) ?_
          refine pw_iload_n rfl dX2_takes_76 ?_
          refine pw_iconst 1 (by decide) dX2_takes_77 ?_
          refine pw_icmp_lt 92 dX2_takes_78 (by decide) (fun q78 => ?_) (fun q78 => ?_)
          · refine pw_iconst 0 (by decide) dX2_takes_92 ?_
            refine pw_iret dX2_takes_93 (Or.inr ⟨rfl, rfl⟩) ?_
            rw [if_neg (fun z => Int32.not_le.mpr q78 z.1)] at hQ
            exact hQ
          · refine pw_iload_n rfl dX2_takes_81 ?_
            refine pw_sipush 255 (by decide) dX2_takes_82 ?_
            refine pw_icmp_gt 92 dX2_takes_85 (by decide) (fun q85 => ?_) (fun q85 => ?_)
            · refine pw_iconst 0 (by decide) dX2_takes_92 ?_
              refine pw_iret dX2_takes_93 (Or.inr ⟨rfl, rfl⟩) ?_
              rw [if_neg (fun z => Int32.not_le.mpr q85 z.2)] at hQ
              exact hQ
            · refine pw_iconst 1 (by decide) dX2_takes_88 ?_
              refine pw_goto 93 dX2_takes_89 (by decide) ?_
              refine pw_iret dX2_takes_93 (Or.inr ⟨rfl, rfl⟩) ?_
              rw [if_pos ⟨Int32.not_lt.mp q78, Int32.not_lt.mp q85⟩] at hQ
              exact hQ
        · rw [if_neg h4] at hQ
          have n1 := toInt_ne (k := 1) (by omega) h1
          have n2 := toInt_ne (k := 2) (by omega) h2
          have n3 := toInt_ne (k := 3) (by omega) h3
          have n4 := toInt_ne (k := 4) (by omega) h4
          refine pw_tout 94 dX2_takes_1 (by omega) (by decide) ?_
          refine pw_iconst 0 (by decide) dX2_takes_94 ?_
          refine pw_iret dX2_takes_95 (Or.inr ⟨rfl, rfl⟩) ?_
          exact hQ
theorem m_isFilter {h : PH} {Q : Option Value → PH → Prop} {kind v : Int32} (hQ : Q (some (.int (tkI kind v))) h) : PM Γ mX11_isFilter [.int kind, .int v] h 0 0 Q := by
  unfold tkI at hQ
  refine PM.go (l := [_, _]) rfl rfl (Nat.le_of_ble_eq_true rfl) rfl ?_
  refine pw_iload_n rfl dX11_isFilter_0 ?_
  refine pw_iconst 1 (by decide) dX11_isFilter_1 ?_
  by_cases h1 : kind = 1
  · rw [if_pos h1] at hQ
    refine pw_icmp_ne 15 dX11_isFilter_2 (by decide) (fun q => absurd (h1) q) (fun _ => ?_)
    refine pw_iload_n rfl dX11_isFilter_5 ?_
    refine pw_iconst 1 (by decide) dX11_isFilter_6 ?_
    refine pw_bipush 8 (by decide) dX11_isFilter_7 ?_
    refine pc_S3 dX11_isFilter_9 lX11_75 (by decide) (Nat.le_of_ble_eq_true rfl) ?_
    refine m_in ?_
    refine pw_goto 68 dX11_isFilter_12 (by decide) ?_
    refine pw_iret dX11_isFilter_68 (Or.inr ⟨rfl, ?_⟩) hQ
    split <;> rfl
  · rw [if_neg h1] at hQ
    refine pw_icmp_ne 15 dX11_isFilter_2 (by decide) (fun _ => ?_) (fun q => absurd q (h1))
    refine pw_iload_n rfl dX11_isFilter_15 ?_
    refine pw_iconst 2 (by decide) dX11_isFilter_16 ?_
    by_cases h2 : kind = 2
    · rw [if_pos h2] at hQ
      refine pw_icmp_ne 32 dX11_isFilter_17 (by decide) (fun q => absurd (h2) q) (fun _ => ?_)
      refine pw_iload_n rfl dX11_isFilter_20 ?_
      refine pw_if_ne 28 dX11_isFilter_21 (by decide) (fun q21 => ?_) (fun q21 => ?_)
      · refine pw_iconst 0 (by decide) dX11_isFilter_28 ?_
        refine pw_goto 68 dX11_isFilter_29 (by decide) ?_
        refine pw_iret dX11_isFilter_68 (Or.inr ⟨rfl, rfl⟩) ?_
        rw [if_neg q21] at hQ
        exact hQ
      · refine pw_iconst 1 (by decide) dX11_isFilter_24 ?_
        refine pw_goto 68 dX11_isFilter_25 (by decide) ?_
        refine pw_iret dX11_isFilter_68 (Or.inr ⟨rfl, rfl⟩) ?_
        rw [if_pos q21] at hQ
        exact hQ
    · rw [if_neg h2] at hQ
      refine pw_icmp_ne 32 dX11_isFilter_17 (by decide) (fun _ => ?_) (fun q => absurd q (h2))
      refine pw_iload_n rfl dX11_isFilter_32 ?_
      refine pw_iconst 3 (by decide) dX11_isFilter_33 ?_
      by_cases h3 : kind = 3
      · rw [if_pos h3] at hQ
        refine pw_icmp_ne 47 dX11_isFilter_34 (by decide) (fun q => absurd (h3) q) (fun _ => ?_)
        refine pw_iload_n rfl dX11_isFilter_37 ?_
        refine pw_iconst 2 (by decide) dX11_isFilter_38 ?_
        refine pw_bipush 8 (by decide) dX11_isFilter_39 ?_
        refine pc_S3 dX11_isFilter_41 lX11_75 (by decide) (Nat.le_of_ble_eq_true rfl) ?_
        refine m_in ?_
        refine pw_goto 68 dX11_isFilter_44 (by decide) ?_
        refine pw_iret dX11_isFilter_68 (Or.inr ⟨rfl, ?_⟩) hQ
        split <;> rfl
      · rw [if_neg h3] at hQ
        refine pw_icmp_ne 47 dX11_isFilter_34 (by decide) (fun _ => ?_) (fun q => absurd q (h3))
        refine pw_iload_n rfl dX11_isFilter_47 ?_
        refine pw_iconst 4 (by decide) dX11_isFilter_48 ?_
        by_cases h4 : kind = 4
        · rw [if_pos h4] at hQ
          refine pw_icmp_ne 67 dX11_isFilter_49 (by decide) (fun q => absurd (h4) q) (fun _ => ?_)
          refine pw_iload_n rfl dX11_isFilter_52 ?_
          refine pw_iconst 1 (by decide) dX11_isFilter_53 ?_
          refine pw_sipush 255 (by decide) dX11_isFilter_54 ?_
          refine pc_S3 dX11_isFilter_57 lX11_75 (by decide) (Nat.le_of_ble_eq_true rfl) ?_
          refine m_in ?_
          by_cases hv : 1 ≤ v ∧ v ≤ 255
          · rw [if_pos hv] at hQ
            rw [if_pos hv]
            refine pw_if_eq 67 dX11_isFilter_60 (by decide) (fun q => absurd q (by decide)) (fun _ => ?_)
            refine pw_iconst 1 (by decide) dX11_isFilter_63 ?_
            refine pw_goto 68 dX11_isFilter_64 (by decide) ?_
            refine pw_iret dX11_isFilter_68 (Or.inr ⟨rfl, rfl⟩) ?_
            exact hQ
          · rw [if_neg hv] at hQ
            rw [if_neg hv]
            refine pw_if_eq 67 dX11_isFilter_60 (by decide) (fun _ => ?_) (fun q => absurd (rfl) q)
            refine pw_iconst 0 (by decide) dX11_isFilter_67 ?_
            refine pw_iret dX11_isFilter_68 (Or.inr ⟨rfl, rfl⟩) ?_
            exact hQ
        · rw [if_neg h4] at hQ
          refine pw_icmp_ne 67 dX11_isFilter_49 (by decide) (fun _ => ?_) (fun q => absurd q (h4))
          refine pw_iconst 0 (by decide) dX11_isFilter_67 ?_
          refine pw_iret dX11_isFilter_68 (Or.inr ⟨rfl, rfl⟩) ?_
          exact hQ
theorem c_drop {F A : Nat → Nat → Int32} {rf : Nat} {lo : Int64} {X : PH} {Q : Option Value → PH → Prop} (hQ : Q none (HS (upF F 0 12 0) (stA A 56 (cpn (fun _ => -3) (A 56) 64)) rf lo X)) : PM Γ mX10_dropChoices [.ref 0] (HS F A rf lo X) 0 0 Q := by
  refine PM.go (l := [_]) rfl rfl (Nat.le_of_ble_eq_true rfl) rfl ?_
  refine pw_aload_n rfl dX10_dropChoices_0 ?_
  refine pw_iconst 0 (by decide) dX10_dropChoices_1 ?_
  refine pw_pI dX10_dropChoices_2 fX10_72 (by first | rfl | assumption) rfl ⟨rfl, rfl⟩ ?_
  refine pw_aload_n rfl dX10_dropChoices_5 ?_
  refine pw_gC dX10_dropChoices_6 fX10_69 (by first | rfl | assumption) rfl (by first | rfl | assumption) ?_
  refine pw_bipush (-3) (by decide) dX10_dropChoices_9 ?_
  refine pc_S2 dX10_dropChoices_11 lX10_80 (by decide) (Nat.le_of_ble_eq_true rfl) ?_
  refine c_fill (n := 64) rfl (by omega) ?_
  refine pw_vret dX10_dropChoices_14 rfl ?_
  exact hQ
theorem lose_loop {F A : Nat → Nat → Int32} {rf : Nat} {lo : Int64} {X : PH} {Q : Option Value → PH → Prop} : ∀ (k i : Nat) (g : Nat → Int32), i + k = 64 → (∀ j, j < i → g j = -3) → (∀ g, (∀ j, j < 64 → g j = -3) → Q none (HS F (stA A 73 g) rf lo X)) →
    PW Γ mX11_lose 7 [.ref 57, .int (nI i)] [] (HS F (stA A 73 g) rf lo X) 0 0 Q := by
  intro k
  induction k with
  | zero =>
    intro i g hi hg hk
    have hi2 : i = 64 := by omega
    subst hi2
    refine pw_iload_n rfl dX11_lose_7 ?_
    refine pw_bipush 64 (by decide) dX11_lose_8 ?_
    refine pw_icmp_ge 27 dX11_lose_10 (by decide) (fun _ => ?_) (fun q => absurd (by decide) q)
    refine pw_vret dX11_lose_27 rfl ?_
    exact hk g hg
  | succ k ih =>
    intro i g hi hg hk
    refine pw_iload_n rfl dX11_lose_7 ?_
    refine pw_bipush 64 (by decide) dX11_lose_8 ?_
    refine pw_icmp_ge 27 dX11_lose_10 (by decide) (fun q => absurd q (nI_ge (b := 64) (by omega) (by omega))) (fun _ => ?_)
    refine pw_aload_n rfl dX11_lose_13 ?_
    refine pw_gC dX11_lose_14 fX11_55 (by first | rfl | assumption) rfl (by first | rfl | assumption) ?_
    refine pw_iload_n rfl dX11_lose_17 ?_
    refine pw_bipush (-3) (by decide) dX11_lose_18 ?_
    refine pw_sI dX11_lose_20 (by first | rfl | assumption) (by first | assumption | exact vp_in_nI (by omega) (by omega)) ?_
    refine ps_iinc (l' := [_, _]) 1 dX11_lose_21 (by decide) rfl (by decide) rfl rfl ?_
    refine pw_goto 7 dX11_lose_24 (by decide) ?_
    rw [nI_1, nI_clamp (by omega), stA_s, stA_stA]
    refine ih (i + 1) _ (by omega) (fun j hj => ?_) hk
    by_cases hj2 : j = i
    · rw [hj2, upd_s]
    · rw [upd_n hj2]; exact hg j (by omega)
theorem m_lose {F A : Nat → Nat → Int32} {rf : Nat} {lo : Int64} {X : PH} {Q : Option Value → PH → Prop} (hQ : ∀ g, (∀ j, j < 64 → g j = -3) → Q none (HS (upF F 57 24 0) (stA A 73 g) rf lo X)) : PM Γ mX11_lose [.ref 57] (HS F A rf lo X) 0 0 Q := by
  refine PM.go (l := [_, .float 0]) rfl rfl (Nat.le_of_ble_eq_true rfl) rfl ?_
  refine pw_aload_n rfl dX11_lose_0 ?_
  refine pw_iconst 0 (by decide) dX11_lose_1 ?_
  refine pw_pI dX11_lose_2 fX11_68 (by first | rfl | assumption) rfl ⟨rfl, rfl⟩ ?_
  refine pw_iconst 0 (by decide) dX11_lose_5 ?_
  refine ps_istore_n (l' := [_, _]) dX11_lose_6 (by decide) rfl rfl ?_
  have e : HS (upF F 57 24 0) A rf lo X = HS (upF F 57 24 0) (stA A 73 (A 73)) rf lo X := by rw [stA_self rfl]
  rw [e]
  exact lose_loop 64 0 (A 73) (by omega) (fun j hj => by omega) hQ
theorem CI_C {F A F' A' : Nat → Nat → Int32} {s : ST} {c : CT} (h : CI F A s) (hF : ∀ i j, rcF i → ¬ i = 0 → ¬ i = 11 → F' i j = F i j) (h13 : F' 0 13 = F 0 13) (hA : ∀ i, rcA i → ¬ i = 12 → ¬ i = 13 → ¬ i = 14 → ¬ i = 56 → A' i = A i) (hC : CH F' A' c.1 c.2.1 c.2.2.1 c.2.2.2.1 c.2.2.2.2) (h12 : F' 0 12 = 0) (h56 : ∀ j, j < 64 → A' 56 j = -3) : CI F' A' (s.1, s.2.1, c, (false, s.2.2.2.1.2), (fun _ => -3), s.2.2.2.2.2) := by
  obtain ⟨a, b, _, d, e, f, g⟩ := h
  exact ⟨TX_fr a (hF _ _ (by omega) (by omega) (by omega)) (hA _ (by omega) (by omega) (by omega) (by omega) (by omega)), OX_fr b (hF _ _ (by omega) (by omega) (by omega)) (hA _ (by omega) (by omega) (by omega) (by omega) (by omega)), hC, ⟨h12, fun h9 => absurd h9 (by show ¬ false = true; decide)⟩, h56, by rw [h13]; exact f, BX_fr g (hF _ _ (by omega) (by omega) (by omega)) (hF _ _ (by omega) (by omega) (by omega))⟩
theorem MI_C {F A F' A' : Nat → Nat → Int32} {s : ST} {c : CT} (h : MI F A s) (hF : ∀ j, rmF j → ¬ j = 5 → ¬ j = 8 → ¬ j = 24 → F' 57 j = F 57 j) (hA : ∀ i, rmA i → ¬ i = 60 → ¬ i = 61 → ¬ i = 62 → ¬ i = 73 → A' i = A i) (hC : CM F' A' c.1 c.2.1 c.2.2.1 c.2.2.2.1 c.2.2.2.2) (h12 : F' 57 24 = 0) (h56 : ∀ j, j < 64 → A' 73 j = -3) : MI F' A' (s.1, s.2.1, c, (false, s.2.2.2.1.2), (fun _ => -3), s.2.2.2.2.2) := by
  obtain ⟨a, b, _, d, e, f⟩ := h
  exact ⟨TM_fr a (hF _ (by omega) (by omega) (by omega) (by omega)) (hA _ (by omega) (by omega) (by omega) (by omega) (by omega)), OM_fr b (hF _ (by omega) (by omega) (by omega) (by omega)) (hA _ (by omega) (by omega) (by omega) (by omega) (by omega)), hC, ⟨h12, fun h9 => absurd h9 (by show ¬ false = true; decide)⟩, h56, by rw [hF _ (by omega) (by omega) (by omega) (by omega)]; exact f⟩
theorem o_forget : OP Γ mX10_forget mX11_forget [.ref 0] [.ref 57] := by
  refine OP_of (fun s => (s.1, s.2.1, (0, 1, s.2.2.1.2.2.1, s.2.2.1.2.2.2.1, s.2.2.1.2.2.2.2), (false, s.2.2.2.1.2), (fun _ => -3), s.2.2.2.2.2)) (fun s => nI (nch s.2.2.1.1 s.2.2.1.2.1)) ?_ ?_ ?_
  · intro F A rf lo X Q s hO hI hQ
    obtain ⟨_, _, c, _⟩ := id hI
    obtain ⟨p1, p2, p3, p4, p5, p6, p7, p8⟩ := id c
    refine PM.go (l := [_, .float 0]) rfl rfl (Nat.le_of_ble_eq_true rfl) rfl ?_
    refine pw_aload_n rfl dX10_forget_0 ?_
    refine pw_gC dX10_forget_1 fX10_33 (by first | rfl | assumption) rfl (by first | rfl | assumption) ?_
    refine pc_V0 dX10_forget_4 lX10_139 rfl (by first | rfl | assumption) (by decide) (Nat.le_of_ble_eq_true rfl) ?_
    refine c_many c ?_
    refine ps_istore_n (l' := [_, _]) dX10_forget_7 (by decide) rfl rfl ?_
    refine pw_aload_n rfl dX10_forget_8 ?_
    refine pw_gC dX10_forget_9 fX10_33 (by first | rfl | assumption) rfl (by first | rfl | assumption) ?_
    refine pc_V0 dX10_forget_12 lX10_142 rfl rfl (by decide) (Nat.le_of_ble_eq_true rfl) ?_
    refine PM.go (l := [_]) rfl rfl (Nat.le_of_ble_eq_true rfl) rfl ?_
    refine pw_aload_n rfl dX1_tellNothing_0 ?_
    refine pw_iconst 0 (by decide) dX1_tellNothing_1 ?_
    refine pw_pI dX1_tellNothing_2 fX1_18 (by first | rfl | assumption) rfl ⟨rfl, rfl⟩ ?_
    refine pw_aload_n rfl dX1_tellNothing_5 ?_
    refine pw_iconst 1 (by decide) dX1_tellNothing_6 ?_
    refine pw_pI dX1_tellNothing_7 fX1_25 (by first | rfl | assumption) rfl ⟨rfl, rfl⟩ ?_
    refine pw_vret dX1_tellNothing_10 rfl ?_
    refine pw_aload_n rfl dX10_forget_15 ?_
    refine pc_V0 dX10_forget_16 lX10_127 rfl (by first | rfl | assumption) (by decide) (Nat.le_of_ble_eq_true rfl) ?_
    refine c_drop ?_
    refine pw_iload_n rfl dX10_forget_19 ?_
    refine pw_iret dX10_forget_20 (Or.inl rfl) ?_
    refine hQ _ _ _ ⟨fun i j h => by rw [upF_n (by omega), upF_n (by omega), upF_n (by omega)], fun i h => stA_n (by omega)⟩ (CI_C hI (fun i j _ h1 h2 => by rw [upF_n (by omega), upF_n (by omega), upF_n (by omega)]) (by rw [upF_n (by omega), upF_n (by omega), upF_n (by omega)]) (fun i _ _ _ _ h => stA_n h) ⟨?_, by show 0 < 5; omega, ?_, by show 0 < 1; omega, by show 1 < 6; omega, fun i hi => absurd hi (by show ¬ i < 0; omega), fun i hi => ?_, p8⟩ upF_s (fun j hj => by rw [stA_s, cpn_lt hj]))
    · rw [upF_n (by omega), upF_n (by omega), upF_s]; rfl
    · rw [upF_n (by omega), upF_s]; rfl
    · rw [stA_n (by omega)]
      exact p7 i (by have : i < 1 := hi; show i < s.2.2.1.2.1; omega)
  · intro F A rf lo X Q s hO hI hQ
    obtain ⟨_, _, c, _⟩ := id hI
    obtain ⟨p1, p2, p3, p4, p5, p6, p7, p8, p9⟩ := id c
    refine PM.go (l := [_, .float 0]) rfl rfl (Nat.le_of_ble_eq_true rfl) rfl ?_
    refine pw_aload_n rfl dX11_forget_0 ?_
    refine pc_V0 dX11_forget_1 lX11_93 rfl (by first | rfl | assumption) (by decide) (Nat.le_of_ble_eq_true rfl) ?_
    refine m_chains c ?_
    refine ps_istore_n (l' := [_, _]) dX11_forget_4 (by decide) rfl rfl ?_
    refine pw_aload_n rfl dX11_forget_5 ?_
    refine pw_iconst 0 (by decide) dX11_forget_6 ?_
    refine pw_pI dX11_forget_7 fX11_87 (by first | rfl | assumption) rfl ⟨rfl, rfl⟩ ?_
    refine pw_aload_n rfl dX11_forget_10 ?_
    refine pw_iconst 0 (by decide) dX11_forget_11 ?_
    refine pw_pI dX11_forget_12 fX11_90 (by first | rfl | assumption) rfl ⟨rfl, rfl⟩ ?_
    refine pw_aload_n rfl dX11_forget_15 ?_
    refine pc_V0 dX11_forget_16 lX11_62 rfl rfl (by decide) (Nat.le_of_ble_eq_true rfl) ?_
    refine m_lose ?_
    intro g hg
    refine pw_iload_n rfl dX11_forget_19 ?_
    refine pw_iret dX11_forget_20 (Or.inl rfl) ?_
    refine hQ _ _ ⟨fun i j h => by rw [upF_n (by omega), upF_n (by omega), upF_n (by omega), upF_n (by omega)], fun i h => stA_n (by omega)⟩ (MI_C hI (fun j hj h1 h2 h3 => by rw [upF_n (by omega), upF_n (by omega), upF_n (by omega), upF_n (by omega)]) (fun i _ _ _ _ h => stA_n h) ⟨?_, by show 0 < 5; omega, ?_, by show 0 < 1; omega, by show 1 < 6; omega, fun i hi => absurd hi (by show ¬ i < 0; omega), fun i hi => absurd hi (by show ¬ i + 1 < 1; omega), fun i hi => ?_, p9⟩ upF_s (fun j hj => by rw [stA_s]; exact hg j hj))
    · rw [upF_n (by omega), upF_n (by omega), upF_s]; rfl
    · rw [upF_n (by omega), upF_s]; rfl
    · exact p8 i (by have : i < 1 := hi; show i < s.2.2.1.2.1; omega)
  · intro s F A hO hI
    obtain ⟨o1, o2, o3, o4, o5⟩ := id hO
    exact ⟨o1, o2, o3, o4, fun i j h1 h2 => absurd h2 (by show ¬ j < 1; omega)⟩
theorem o_filter (kind v : Int32) : OP Γ mX10_filter mX11_filter [.ref 0, .int kind, .int v] [.ref 57, .int kind, .int v] := by
  refine OP_of (fun s => if tkI kind v = 0 then s else if s.2.2.1.1 < 4 then (s.1, s.2.1, (s.2.2.1.1 + 1, s.2.2.1.2.1, updN s.2.2.1.2.2.1 s.2.2.1.1 kind.toNatClampNeg, updN s.2.2.1.2.2.2.1 s.2.2.1.1 v.toNatClampNeg, s.2.2.1.2.2.2.2), (false, s.2.2.2.1.2), (fun _ => -3), s.2.2.2.2.2) else s) (fun s => if tkI kind v = 0 then -1 else if s.2.2.1.1 < 4 then nI s.2.2.1.1 else -2) ?_ ?_ ?_
  · intro F A rf lo X Q s hO hI hQ
    obtain ⟨_, _, c, _⟩ := id hI
    obtain ⟨p1, p2, p3, p4, p5, p6, p7, p8⟩ := id c
    refine PM.go (l := [_, _, _]) rfl rfl (Nat.le_of_ble_eq_true rfl) rfl ?_
    refine pw_iload_n rfl dX10_filter_0 ?_
    refine pw_iload_n rfl dX10_filter_1 ?_
    refine pc_S2 dX10_filter_2 lX10_116 (by decide) (Nat.le_of_ble_eq_true rfl) ?_
    refine c_takes ?_
    by_cases ht : tkI kind v = 0
    · rw [if_pos ht, if_pos ht] at hQ
      refine pw_if_ne 10 dX10_filter_5 (by decide) (fun q => absurd (ht) q) (fun _ => ?_)
      refine pw_iconst (-1) (by decide) dX10_filter_8 ?_
      refine pw_iret dX10_filter_9 (Or.inl rfl) ?_
      exact hQ _ _ _ frC_r hI
    · rw [if_neg ht, if_neg ht] at hQ
      obtain ⟨kd, vv, rfl, rfl, hf⟩ := tkI_ok ht
      have hlt := fok_lt hf
      refine pw_if_ne 10 dX10_filter_5 (by decide) (fun _ => ?_) (fun q => absurd q (ht))
      refine pw_aload_n rfl dX10_filter_10 ?_
      refine pw_gC dX10_filter_11 fX10_33 (by first | rfl | assumption) rfl (by first | rfl | assumption) ?_
      refine pc_V0 dX10_filter_14 lX10_120 rfl rfl (by decide) (Nat.le_of_ble_eq_true rfl) ?_
      refine PM.go (l := [_]) rfl rfl (Nat.le_of_ble_eq_true rfl) rfl ?_
      refine pw_aload_n rfl dX1_filterCount_0 ?_
      refine pw_gI dX1_filterCount_1 fX1_18 (by first | rfl | assumption) rfl ?_
      refine pw_iret dX1_filterCount_4 (Or.inl rfl) ?_
      rw [p1]
      by_cases hk : s.2.2.1.1 < 4
      · rw [if_pos hk, if_pos hk] at hQ
        refine pw_iconst 4 (by decide) dX10_filter_17 ?_
        refine pw_icmp_lt 24 dX10_filter_18 (by decide) (fun _ => ?_) (fun q => absurd (nI_lt (b := 4) hk (by omega)) q)
        refine pw_aload_n rfl dX10_filter_24 ?_
        refine pw_gC dX10_filter_25 fX10_33 (by first | rfl | assumption) rfl (by first | rfl | assumption) ?_
        refine pw_iload_n rfl dX10_filter_28 ?_
        refine pw_iload_n rfl dX10_filter_29 ?_
        refine pc_V2 dX10_filter_30 lX10_123 rfl rfl (by decide) (Nat.le_of_ble_eq_true rfl) ?_
        refine PM.go (l := [_, _, _]) rfl rfl (Nat.le_of_ble_eq_true rfl) rfl ?_
        refine pw_aload_n rfl dX1_tellFilter_0 ?_
        refine pw_gI dX1_tellFilter_1 fX1_18 (by first | rfl | assumption) rfl ?_
        rw [p1]
        refine pw_aload_n rfl dX1_tellFilter_4 ?_
        refine pw_gC dX1_tellFilter_5 fX1_9 (by first | rfl | assumption) rfl (by first | rfl | assumption) ?_
        refine pw_lI (nI _) dX1_tellFilter_8 (by first | rfl | assumption) rfl ?_
        refine pw_icmp_ge 42 dX1_tellFilter_9 (by decide) (fun q => absurd q (nI_ge (b := 4) hk (by omega))) (fun _ => ?_)
        refine pw_aload_n rfl dX1_tellFilter_12 ?_
        refine pw_gC dX1_tellFilter_13 fX1_9 (by first | rfl | assumption) rfl (by first | rfl | assumption) ?_
        refine pw_aload_n rfl dX1_tellFilter_16 ?_
        refine pw_gI dX1_tellFilter_17 fX1_18 (by first | rfl | assumption) rfl ?_
        rw [p1]
        refine pw_iload_n rfl dX1_tellFilter_20 ?_
        refine pw_sI dX1_tellFilter_21 (by first | rfl | assumption) (by first | assumption | exact vp_in_nI (by omega) (by omega)) ?_
        refine pw_aload_n rfl dX1_tellFilter_22 ?_
        refine pw_gC dX1_tellFilter_23 fX1_15 (by first | rfl | assumption) rfl (by first | rfl | assumption) ?_
        refine pw_aload_n rfl dX1_tellFilter_26 ?_
        refine pw_gI dX1_tellFilter_27 fX1_18 (by first | rfl | assumption) rfl ?_
        rw [p1]
        refine pw_iload_n rfl dX1_tellFilter_30 ?_
        refine pw_sI dX1_tellFilter_31 (by first | rfl | assumption) (by first | assumption | exact vp_in_nI (by omega) (by omega)) ?_
        refine pw_aload_n rfl dX1_tellFilter_32 ?_
        refine pw_dup rfl dX1_tellFilter_33 ?_
        refine pw_gI dX1_tellFilter_34 fX1_18 (by first | rfl | assumption) rfl ?_
        rw [p1]
        refine pw_iconst 1 (by decide) dX1_tellFilter_37 ?_
        refine pw_iadd dX1_tellFilter_38 ?_
        refine pw_pI dX1_tellFilter_39 fX1_18 (by first | rfl | assumption) rfl ⟨rfl, rfl⟩ ?_
        refine pw_vret dX1_tellFilter_42 rfl ?_
        rw [nI_1, nI_clamp (by omega), stA_n (by decide)]
        refine pw_aload_n rfl dX10_filter_33 ?_
        refine pc_V0 dX10_filter_34 lX10_127 rfl (by first | rfl | assumption) (by decide) (Nat.le_of_ble_eq_true rfl) ?_
        refine c_drop ?_
        refine pw_aload_n rfl dX10_filter_37 ?_
        refine pw_gC dX10_filter_38 fX10_33 (by first | rfl | assumption) rfl (by first | rfl | assumption) ?_
        refine pc_V0 dX10_filter_41 lX10_120 rfl rfl (by decide) (Nat.le_of_ble_eq_true rfl) ?_
        refine PM.go (l := [_]) rfl rfl (Nat.le_of_ble_eq_true rfl) rfl ?_
        refine pw_aload_n rfl dX1_filterCount_0 ?_
        refine pw_gI dX1_filterCount_1 fX1_18 (by first | rfl | assumption) rfl ?_
        refine pw_iret dX1_filterCount_4 (Or.inl rfl) ?_
        rw [upF_n (by omega), upF_s]
        refine pw_iconst 1 (by decide) dX10_filter_44 ?_
        refine pw_isub dX10_filter_45 ?_
        rw [show nI (s.2.2.1.1 + 1) - 1 = nI s.2.2.1.1 from pk_sub (a := s.2.2.1.1 + 1) (b := 1) (by omega)]
        refine pw_iret dX10_filter_46 (Or.inl rfl) ?_
        rw [nI_clamp (by omega), nI_clamp (by omega)] at hQ
        refine hQ _ _ _ ⟨fun i j h => by rw [upF_n (by omega), upF_n (by omega)], fun i h => by rw [stA_n (by omega), stA_n (by omega), stA_n (by omega)]⟩ (CI_C hI (fun i j _ h1 h2 => by rw [upF_n (by omega), upF_n (by omega)]) (by rw [upF_n (by omega), upF_n (by omega)]) (fun i _ h1 h2 h3 h => by rw [stA_n h, stA_n h2, stA_n h1]) ⟨?_, by show s.2.2.1.1 + 1 < 5; omega, ?_, p4, p5, fun i hi => ?_, fun i hi => ?_, p8⟩ upF_s (fun j hj => by rw [stA_s, cpn_lt hj]))
        · rw [upF_n (by omega), upF_s]
        · rw [upF_n (by omega), upF_n (by omega)]; exact p3
        · have hi2 : i < s.2.2.1.1 + 1 := hi
          rw [stA_n (by decide), stA_n (by decide), stA_s, stA_n (by decide), stA_s]
          dsimp only
          by_cases h9 : i = s.2.2.1.1
          · rw [h9, upd_s, upd_s, updN_s, updN_s]
            exact ⟨rfl, rfl, hf⟩
          · rw [upd_n h9, upd_n h9, updN_n h9, updN_n h9]
            exact p6 i (by omega)
        · rw [stA_n (by decide), stA_n (by decide), stA_n (by decide)]
          exact p7 i hi
      · rw [if_neg hk, if_neg hk] at hQ
        refine pw_iconst 4 (by decide) dX10_filter_17 ?_
        refine pw_icmp_lt 24 dX10_filter_18 (by decide) (fun q => absurd q (nI_nlt (b := 4) (by omega) (by omega))) (fun _ => ?_)
        refine pw_bipush (-2) (by decide) dX10_filter_21 ?_
        refine pw_iret dX10_filter_23 (Or.inl rfl) ?_
        exact hQ _ _ _ frC_r hI
  · intro F A rf lo X Q s hO hI hQ
    obtain ⟨_, _, c, _⟩ := id hI
    obtain ⟨p1, p2, p3, p4, p5, p6, p7, p8, p9⟩ := id c
    refine PM.go (l := [_, _, _]) rfl rfl (Nat.le_of_ble_eq_true rfl) rfl ?_
    refine pw_aload_n rfl dX11_filter_0 ?_
    refine pw_iconst 0 (by decide) dX11_filter_1 ?_
    refine pw_pI dX11_filter_2 fX11_65 (by first | rfl | assumption) rfl ⟨rfl, rfl⟩ ?_
    refine pw_iload_n rfl dX11_filter_5 ?_
    refine pw_iload_n rfl dX11_filter_6 ?_
    refine pc_S2 dX11_filter_7 lX11_83 (by decide) (Nat.le_of_ble_eq_true rfl) ?_
    refine m_isFilter ?_
    by_cases ht : tkI kind v = 0
    · rw [if_pos ht, if_pos ht] at hQ
      refine pw_if_ne 15 dX11_filter_10 (by decide) (fun q => absurd (ht) q) (fun _ => ?_)
      refine pw_iconst (-1) (by decide) dX11_filter_13 ?_
      refine pw_iret dX11_filter_14 (Or.inl rfl) ?_
      exact hQ _ _ frM_0 (MI_0 hI)
    · rw [if_neg ht, if_neg ht] at hQ
      obtain ⟨kd, vv, rfl, rfl, hf⟩ := tkI_ok ht
      have hlt := fok_lt hf
      refine pw_if_ne 15 dX11_filter_10 (by decide) (fun _ => ?_) (fun q => absurd q (ht))
      refine pw_aload_n rfl dX11_filter_15 ?_
      refine pw_gI dX11_filter_16 fX11_87 (by first | rfl | assumption) rfl ?_
      rw [upF_n (by omega), p1]
      by_cases hk : s.2.2.1.1 < 4
      · rw [if_pos hk, if_pos hk] at hQ
        refine pw_iconst 4 (by decide) dX11_filter_19 ?_
        refine pw_icmp_ne 26 dX11_filter_20 (by decide) (fun _ => ?_) (fun q => absurd q ((fun h9 => by have := nI_inj (b := 4) (by omega) (by omega) h9; omega)))
        refine pw_aload_n rfl dX11_filter_26 ?_
        refine pw_gC dX11_filter_27 fX11_16 (by first | rfl | assumption) rfl (by first | rfl | assumption) ?_
        refine pw_aload_n rfl dX11_filter_30 ?_
        refine pw_gI dX11_filter_31 fX11_87 (by first | rfl | assumption) rfl ?_
        rw [upF_n (by omega), p1]
        refine pw_iload_n rfl dX11_filter_34 ?_
        refine pw_sI dX11_filter_35 (by first | rfl | assumption) (by first | assumption | exact vp_in_nI (by omega) (by omega)) ?_
        refine pw_aload_n rfl dX11_filter_36 ?_
        refine pw_gC dX11_filter_37 fX11_19 (by first | rfl | assumption) rfl (by first | rfl | assumption) ?_
        refine pw_aload_n rfl dX11_filter_40 ?_
        refine pw_gI dX11_filter_41 fX11_87 (by first | rfl | assumption) rfl ?_
        rw [upF_n (by omega), p1]
        refine pw_iload_n rfl dX11_filter_44 ?_
        refine pw_sI dX11_filter_45 (by first | rfl | assumption) (by first | assumption | exact vp_in_nI (by omega) (by omega)) ?_
        refine pw_aload_n rfl dX11_filter_46 ?_
        refine pw_dup rfl dX11_filter_47 ?_
        refine pw_gI dX11_filter_48 fX11_87 (by first | rfl | assumption) rfl ?_
        rw [upF_n (by omega), p1]
        refine pw_iconst 1 (by decide) dX11_filter_51 ?_
        refine pw_iadd dX11_filter_52 ?_
        refine pw_pI dX11_filter_53 fX11_87 (by first | rfl | assumption) rfl ⟨rfl, rfl⟩ ?_
        refine pw_aload_n rfl dX11_filter_56 ?_
        rw [nI_1, nI_clamp (by omega), stA_n (by decide)]
        refine pc_V0 dX11_filter_57 lX11_62 rfl rfl (by decide) (Nat.le_of_ble_eq_true rfl) ?_
        refine m_lose ?_
        intro g hg
        refine pw_aload_n rfl dX11_filter_60 ?_
        refine pw_gI dX11_filter_61 fX11_87 (by first | rfl | assumption) rfl ?_
        rw [upF_n (by omega), upF_s]
        refine pw_iconst 1 (by decide) dX11_filter_64 ?_
        refine pw_isub dX11_filter_65 ?_
        rw [show nI (s.2.2.1.1 + 1) - 1 = nI s.2.2.1.1 from pk_sub (a := s.2.2.1.1 + 1) (b := 1) (by omega)]
        refine pw_iret dX11_filter_66 (Or.inl rfl) ?_
        rw [nI_clamp (by omega), nI_clamp (by omega)] at hQ
        refine hQ _ _ ⟨fun i j h => by rw [upF_n (by omega), upF_n (by omega), upF_n (by omega)], fun i h => by rw [stA_n (by omega), stA_n (by omega), stA_n (by omega)]⟩ (MI_C hI (fun j hj h1 h2 h3 => by rw [upF_n (by omega), upF_n (by omega), upF_n (by omega)]) (fun i _ h1 h2 h3 h => by rw [stA_n h, stA_n h2, stA_n h1]) ⟨?_, by show s.2.2.1.1 + 1 < 5; omega, ?_, p4, p5, fun i hi => ?_, fun i hi => ?_, p8, p9⟩ upF_s (fun j hj => by rw [stA_s]; exact hg j hj))
        · rw [upF_n (by omega), upF_s]
        · rw [upF_n (by omega), upF_n (by omega), upF_n (by omega)]; exact p3
        · have hi2 : i < s.2.2.1.1 + 1 := hi
          rw [stA_n (by decide), stA_n (by decide), stA_s, stA_n (by decide), stA_s]
          dsimp only
          by_cases h9 : i = s.2.2.1.1
          · rw [h9, upd_s, upd_s, updN_s, updN_s]
            exact ⟨rfl, rfl, hf⟩
          · rw [upd_n h9, upd_n h9, updN_n h9, updN_n h9]
            exact p6 i (by omega)
        · rw [stA_n (by decide), stA_n (by decide), stA_n (by decide)]
          exact p7 i hi
      · rw [if_neg hk, if_neg hk] at hQ
        have h4 : s.2.2.1.1 = 4 := by omega
        refine pw_iconst 4 (by decide) dX11_filter_19 ?_
        refine pw_icmp_ne 26 dX11_filter_20 (by decide) (fun q => absurd (by rw [h4]; rfl) q) (fun _ => ?_)
        refine pw_bipush (-2) (by decide) dX11_filter_23 ?_
        refine pw_iret dX11_filter_25 (Or.inl rfl) ?_
        exact hQ _ _ frM_0 (MI_0 hI)
  · intro s F A hO hI
    obtain ⟨o1, o2, o3, o4, o5⟩ := id hO
    by_cases ht : tkI kind v = 0
    · rw [if_pos ht]; exact hO
    · rw [if_neg ht]
      by_cases hk : s.2.2.1.1 < 4
      · rw [if_pos hk]; exact ⟨o1, o2, o3, o4, o5⟩
      · rw [if_neg hk]; exact hO
end
