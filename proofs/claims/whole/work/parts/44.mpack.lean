/-! the reference's putFilter, packAll -/
section
variable {Γ : Nat × (Nat → Int32)} {F A : Nat → Nat → Int32} {rf : Nat} {lo : Int64} {X : PH} {Q : Option Value → PH → Prop} {k P n x t : Nat} {K V PK : Nat → Nat} {T f0 : Nat → Int32} {L : List Int32}
theorem CM_fr {F' A' : Nat → Nat → Int32} (h2 : F' 57 5 = F 57 5) (h4 : F' 57 8 = F 57 8) (a12 : A' 60 = A 60) (a13 : A' 61 = A 61) (a14 : A' 62 = A 62) (h : CM F A k P K V PK) : CM F' A' k P K V PK := by
  obtain ⟨p1, p2, p3, p4, p5, p6, p7, p8, p9⟩ := h
  refine ⟨by rw [h2]; exact p1, p2, by rw [h4]; exact p3, p4, p5, ?_, ?_, p8, p9⟩
  · rw [a12, a13]; exact p6
  · rw [a14]; exact p7
theorem umd_n {k t b : Nat} (h : ¬ b = 15 ∧ ¬ b = 17) : umd F k t 57 b = F 57 b := by
  unfold umd
  rw [upF_n (by omega), upF_n (by omega)]
theorem m_putFilter {i : Nat} (hC : CM F A k P K V PK) (hi : i < k) (hs : F 57 1 = nI n) (hn : n ≤ 300) (hB : isB (A 63) n) (hL : L.length ≤ 100)
    (hQ : ∀ A', (∀ j, ¬ (63 ≤ j ∧ j ≤ 71) → A' j = A j) → same (A' 63) (fmk (K i) (V i) (A 63) n) n → Q none (MT F A' 0 f0 (L ++ [nI (K i), nI (V i)]) 8 rf lo X)) : PM Γ mX11_putFilter [.ref 57, .int (nI i)] (MT F A 0 f0 L t rf lo X) 0 0 Q := by
  obtain ⟨p1, p2, p3, p4, p5, p6, p7, p8, p9⟩ := hC
  obtain ⟨q1, q2, q3⟩ := p6 i hi
  refine PM.go (l := [_, _]) rfl rfl (Nat.le_of_ble_eq_true rfl) rfl ?_
  unfold MT
  refine pw_iload_n rfl dX11_putFilter_0 ?_
  refine pw_if_lt 45 dX11_putFilter_1 (by decide) (fun q => absurd q (nI_pos (by omega))) (fun _ => ?_)
  refine pw_aload_n rfl dX11_putFilter_4 ?_
  refine pw_aload_n rfl dX11_putFilter_5 ?_
  refine pw_gC dX11_putFilter_6 fX11_16 (by first | rfl | assumption) rfl (by first | rfl | assumption) ?_
  refine pw_iload_n rfl dX11_putFilter_9 ?_
  refine pw_aI dX11_putFilter_10 (by first | rfl | assumption) (by first | assumption | exact vp_in_nI (by omega) (by omega)) ?_
  rw [stA_n (by decide), nI_clamp (by omega), q1]
  refine pc_V1 dX11_putFilter_11 lX11_123 rfl rfl (by decide) (Nat.le_of_ble_eq_true rfl) ?_
  refine mt_put (by omega) ?_
  unfold MT
  refine pw_aload_n rfl dX11_putFilter_14 ?_
  refine pw_aload_n rfl dX11_putFilter_15 ?_
  refine pw_gC dX11_putFilter_16 fX11_19 (by first | rfl | assumption) rfl (by first | rfl | assumption) ?_
  refine pw_iload_n rfl dX11_putFilter_19 ?_
  refine pw_aI dX11_putFilter_20 (by first | rfl | assumption) (by first | assumption | exact vp_in_nI (by omega) (by omega)) ?_
  rw [stA_n (by decide), nI_clamp (by omega), q2]
  refine pc_V1 dX11_putFilter_21 lX11_123 rfl rfl (by decide) (Nat.le_of_ble_eq_true rfl) ?_
  refine mt_put (by rw [List.length_append]; show 0 + (L.length + 1) < 1400; omega) ?_
  rw [List.append_assoc, List.singleton_append]
  unfold MT
  refine pw_aload_n rfl dX11_putFilter_24 ?_
  refine pw_aload_n rfl dX11_putFilter_25 ?_
  refine pw_gC dX11_putFilter_26 fX11_16 (by first | rfl | assumption) rfl (by first | rfl | assumption) ?_
  refine pw_iload_n rfl dX11_putFilter_29 ?_
  refine pw_aI dX11_putFilter_30 (by first | rfl | assumption) (by first | assumption | exact vp_in_nI (by omega) (by omega)) ?_
  rw [stA_n (by decide), nI_clamp (by omega), q1]
  refine pw_aload_n rfl dX11_putFilter_31 ?_
  refine pw_gC dX11_putFilter_32 fX11_19 (by first | rfl | assumption) rfl (by first | rfl | assumption) ?_
  refine pw_iload_n rfl dX11_putFilter_35 ?_
  refine pw_aI dX11_putFilter_36 (by first | rfl | assumption) (by first | assumption | exact vp_in_nI (by omega) (by omega)) ?_
  refine pw_aload_n rfl dX11_putFilter_37 ?_
  refine pw_gI dX11_putFilter_38 fX11_72 (by first | rfl | assumption) rfl ?_
  rw [stA_n (by decide), nI_clamp (by omega), q2, umd_n (by omega), hs]
  refine pw_iconst 0 (by decide) dX11_putFilter_41 ?_
  refine pc_V4 dX11_putFilter_42 lX11_161 rfl rfl (by decide) (Nat.le_of_ble_eq_true rfl) ?_
  refine m_apply hn (by rw [stA_n (by decide)]; exact hB) q3 false ?_
  intro o g f hf
  unfold AS
  refine pw_vret dX11_putFilter_45 rfl ?_
  have := hQ (stA (stA (stA A 71 o) 64 g) 63 f) (fun j hj => by rw [stA_n (by omega), stA_n (by omega), stA_n (by omega)]) (fun j hj => by
    rw [stA_s, hf j hj, stA_n (by decide)]
    rfl)
  unfold MT at this
  rw [stA_comm (i := 63) (by decide), stA_comm (i := 64) (by decide), stA_comm (i := 71) (by decide)] at this
  exact this
theorem m_putNone (hQ : Q none (MT F A 0 f0 L t rf lo X)) : PM Γ mX11_putFilter [.ref 57, .int (-3)] (MT F A 0 f0 L t rf lo X) 0 0 Q := by
  refine PM.go (l := [_, _]) rfl rfl (Nat.le_of_ble_eq_true rfl) rfl ?_
  refine pw_iload_n rfl dX11_putFilter_0 ?_
  refine pw_if_lt 45 dX11_putFilter_1 (by decide) (fun _ => ?_) (fun q => absurd (by decide) q)
  refine pw_vret dX11_putFilter_45 rfl ?_
  exact hQ
theorem mcopy_loop {x1 : Int32} (hn : n ≤ 300) (hs : F 57 1 = nI n) : ∀ (j i : Nat) (A' : Nat → Nat → Int32), i + j = n → (∀ y, ¬ y = 63 → A' y = A y) → (∀ y, y < i → A' 63 y = A 58 y) →
    (∀ A', (∀ y, ¬ y = 63 → A' y = A y) → (∀ y, y < n → A' 63 y = A 58 y) → PW Γ mX11_packAll 38 [.ref 57, .int x1, .int (nI n)] [] (HS F A' rf lo X) 0 0 Q) →
    PW Γ mX11_packAll 12 [.ref 57, .int x1, .int (nI i)] [] (HS F A' rf lo X) 0 0 Q := by
  intro j
  induction j with
  | zero =>
    intro i A' hi hA hI hk
    have hi2 : i = n := by omega
    subst hi2
    refine pw_iload_n rfl dX11_packAll_12 ?_
    refine pw_aload_n rfl dX11_packAll_13 ?_
    refine pw_gI dX11_packAll_14 fX11_72 (by first | rfl | assumption) rfl ?_
    rw [hs]
    refine pw_icmp_ge 38 dX11_packAll_17 (by decide) (fun _ => ?_) (fun q => absurd (nI_le (Nat.le_refl _) (by omega)) q)
    exact hk A' hA hI
  | succ j ih =>
    intro i A' hi hA hI hk
    refine pw_iload_n rfl dX11_packAll_12 ?_
    refine pw_aload_n rfl dX11_packAll_13 ?_
    refine pw_gI dX11_packAll_14 fX11_72 (by first | rfl | assumption) rfl ?_
    rw [hs]
    refine pw_icmp_ge 38 dX11_packAll_17 (by decide) (fun q => absurd q (nI_ge (by omega) (by omega))) (fun _ => ?_)
    refine pw_aload_n rfl dX11_packAll_20 ?_
    refine pw_gC dX11_packAll_21 fX11_25 (by first | rfl | assumption) rfl (by first | rfl | assumption) ?_
    refine pw_iload_n rfl dX11_packAll_24 ?_
    refine pw_aload_n rfl dX11_packAll_25 ?_
    refine pw_gC dX11_packAll_26 fX11_7 (by first | rfl | assumption) rfl (by first | rfl | assumption) ?_
    refine pw_iload_n rfl dX11_packAll_29 ?_
    refine pw_aI dX11_packAll_30 (by first | rfl | assumption) (by first | assumption | exact vp_in_nI (by omega) (by omega)) ?_
    refine pw_sI dX11_packAll_31 (by first | rfl | assumption) (by first | assumption | exact vp_in_nI (by omega) (by omega)) ?_
    refine ps_iinc (l' := [_, _, _]) 1 dX11_packAll_32 (by decide) rfl (by decide) rfl rfl ?_
    refine pw_goto 12 dX11_packAll_35 (by decide) ?_
    rw [nI_1, nI_clamp (by omega)]
    refine ih (i + 1) _ (by omega) (fun y hy => by rw [stA_n hy]; exact hA y hy) (fun y hy => ?_) hk
    rw [stA_s]
    by_cases h : y = i
    · rw [h, upd_s, hA 58 (by decide)]
    · rw [upd_n h]; exact hI y (by omega)
theorem mstore_loop {x1 : Int32} (hn : n ≤ 300) (hs : F 57 1 = nI n) (hL : L.length ≤ 100) : ∀ (j i t : Nat), i + j = n →
    (∀ t, PW Γ mX11_packAll 182 [.ref 57, .int x1, .int (nI n)] [] (MT F A 0 f0 (L ++ slice (A 63) 0 n) t rf lo X) 0 0 Q) →
    PW Γ mX11_packAll 158 [.ref 57, .int x1, .int (nI i)] [] (MT F A 0 f0 (L ++ slice (A 63) 0 i) t rf lo X) 0 0 Q := by
  intro j
  induction j with
  | zero =>
    intro i t hi hk
    have hi2 : i = n := by omega
    subst hi2
    unfold MT
    refine pw_iload_n rfl dX11_packAll_158 ?_
    refine pw_aload_n rfl dX11_packAll_159 ?_
    refine pw_gI dX11_packAll_160 fX11_72 (by first | rfl | assumption) rfl ?_
    rw [umd_n (by omega), hs]
    refine pw_icmp_ge 182 dX11_packAll_163 (by decide) (fun _ => ?_) (fun q => absurd (nI_le (Nat.le_refl _) (by omega)) q)
    exact hk t
  | succ j ih =>
    intro i t hi hk
    unfold MT
    refine pw_iload_n rfl dX11_packAll_158 ?_
    refine pw_aload_n rfl dX11_packAll_159 ?_
    refine pw_gI dX11_packAll_160 fX11_72 (by first | rfl | assumption) rfl ?_
    rw [umd_n (by omega), hs]
    refine pw_icmp_ge 182 dX11_packAll_163 (by decide) (fun q => absurd q (nI_ge (by omega) (by omega))) (fun _ => ?_)
    refine pw_aload_n rfl dX11_packAll_166 ?_
    refine pw_aload_n rfl dX11_packAll_167 ?_
    refine pw_gC dX11_packAll_168 fX11_25 (by first | rfl | assumption) rfl (by first | rfl | assumption) ?_
    refine pw_iload_n rfl dX11_packAll_171 ?_
    refine pw_aI dX11_packAll_172 (by first | rfl | assumption) (by first | assumption | exact vp_in_nI (by omega) (by omega)) ?_
    rw [stA_n (by decide), nI_clamp (by omega)]
    refine pc_V1 dX11_packAll_173 lX11_123 rfl rfl (by decide) (Nat.le_of_ble_eq_true rfl) ?_
    refine mt_put (by rw [List.length_append, slice_len]; omega) ?_
    rw [List.append_assoc, ← slice_snoc (Nat.zero_le _)]
    refine ps_iinc (l' := [_, _, _]) 1 dX11_packAll_176 (by decide) rfl (by decide) rfl rfl ?_
    refine pw_goto 158 dX11_packAll_179 (by decide) ?_
    rw [nI_1]
    exact ih (i + 1) 8 (by omega) hk
/-- what packAll changes -/
def frP (F F' A A' : Nat → Nat → Int32) : Prop := (∀ i j, ¬ (i = 57 ∧ (j = 10 ∨ j = 11 ∨ j = 12 ∨ j = 15 ∨ j = 17 ∨ j = 29 ∨ j = 30)) → F' i j = F i j) ∧ (∀ i, ¬ (63 ≤ i ∧ i ≤ 71) → A' i = A i)
theorem m_packAll (hC : CM F A k P K V PK) (hx : x < nch k P) (hs : F 57 1 = nI n) (hn : n ≤ 300) (hB : isB T n) (hT : same (A 58) T n)
    (hQ : ∀ F' A' f0, frP F F' A A' → F' 57 15 = nI (pkl n T k P K V PK x).length → A' 65 = app f0 0 (pkl n T k P K V PK x) → Q none (HS F' A' rf lo X)) : PM Γ mX11_packAll [.ref 57, .int (nI x)] (HS F A rf lo X) 0 0 Q := by
  obtain ⟨p1, p2, p3, p4, p5, p6, p7, p8, p9⟩ := id hC
  have hok := f_ok k p2 (x / P) (grp_lt p4 hx)
  have hg17 := grp_lt p4 hx
  have hpk := p8 _ (Nat.mod_lt x p4)
  have hfk : ∀ i, i < k → fok (K i) (V i) := fun i hi => (p6 i hi).2.2
  have hlB1 := flt1_B hn hB p2 hg17 hfk
  have hlB := flt_B hn hB p2 hg17 hfk
  unfold pkl hdl at hQ
  refine PM.go (l := [_, _, .float 0]) rfl rfl (Nat.le_of_ble_eq_true rfl) rfl ?_
  refine pw_aload_n rfl dX11_packAll_0 ?_
  refine pw_iload_n rfl dX11_packAll_1 ?_
  refine pc_V1 dX11_packAll_2 lX11_165 rfl rfl (by decide) (Nat.le_of_ble_eq_true rfl) ?_
  refine m_part hC hx ?_
  obtain ⟨g, hgd⟩ : ∃ g, g = x / P := ⟨_, rfl⟩
  obtain ⟨q, hqd⟩ : ∃ q, q = PK (x % P) := ⟨_, rfl⟩
  rw [← hgd] at hQ hok hlB hlB1
  rw [← hqd] at hQ hpk
  rw [← hgd, ← hqd]
  clear hgd hqd hg17 p3 p5 p6 p7 p8 p9
  refine pw_aload_n rfl dX11_packAll_5 ?_
  refine pw_iconst 0 (by decide) dX11_packAll_6 ?_
  refine pw_pI dX11_packAll_7 fX11_117 (by first | rfl | assumption) rfl ⟨rfl, rfl⟩ ?_
  refine pw_iconst 0 (by decide) dX11_packAll_10 ?_
  refine ps_istore_n (l' := [_, _, _]) dX11_packAll_11 (by decide) rfl rfl ?_
  have hF1 : ∀ i j, ¬ (i = 57 ∧ (j = 10 ∨ j = 11 ∨ j = 12 ∨ j = 15 ∨ j = 17 ∨ j = 29 ∨ j = 30)) → upF (upP F (nI q) (fo k g) (ft k g)) 57 15 0 i j = F i j := by
    intro i j h
    rw [upF_n (by omega)]
    unfold upP
    rw [upF_n (by omega), upF_n (by omega), upF_n (by omega)]
  have h10 : upF (upP F (nI q) (fo k g) (ft k g)) 57 15 0 57 10 = fo k g := by rw [upF_n (by omega), upP_o]
  have h11 : upF (upP F (nI q) (fo k g) (ft k g)) 57 15 0 57 11 = ft k g := by rw [upF_n (by omega), upP_t]
  have h12 : upF (upP F (nI q) (fo k g) (ft k g)) 57 15 0 57 12 = nI q := by rw [upF_n (by omega), upP_l]
  have h15 : upF (upP F (nI q) (fo k g) (ft k g)) 57 15 0 57 15 = nI (0 + ([] : List Int32).length) := upF_s
  generalize upF (upP F (nI q) (fo k g) (ft k g)) 57 15 0 = F1 at *
  have hs1 : F1 57 1 = nI n := by rw [hF1 _ _ (by omega)]; exact hs
  refine mcopy_loop hn hs1 n 0 A (by omega) (fun y _ => rfl) (fun y hy => by omega) ?_
  intro A1 hA1 hR1
  have hR : same (A1 63) T n := fun j hj => by rw [hR1 j hj]; exact hT j hj
  have hC1 : ∀ A2, (∀ j, ¬ (63 ≤ j ∧ j ≤ 71) → A2 j = A j) → CM F1 A2 k P K V PK := fun A2 h => CM_fr (hF1 _ _ (by omega)) (hF1 _ _ (by omega)) (h _ (by omega)) (h _ (by omega)) (h _ (by omega)) hC
  have hAA1 : ∀ j, ¬ (63 ≤ j ∧ j ≤ 71) → A1 j = A j := fun j hj => hA1 j (by omega)
  -- from behind the FILTERS on
  have tail : ∀ (L : List Int32) (A2 : Nat → Nat → Int32) (x1 x2 : Int32) (t : Nat), L.length ≤ 5 → (∀ j, ¬ (63 ≤ j ∧ j ≤ 71) → A2 j = A j) → same (A2 63) (flt k g K V T n) n → (∀ F' A' f0, frP F F' A A' → F' 57 15 = nI (pbody q (flt k g K V T n) n (L ++ [nI q, nI (n / 256), nI (n % 256)])).length → A' 65 = app f0 0 (pbody q (flt k g K V T n) n (L ++ [nI q, nI (n / 256), nI (n % 256)])) → Q none (HS F' A' rf lo X)) →
      PW Γ mX11_packAll 81 [.ref 57, .int x1, .int x2] [] (MT F1 A2 0 (A1 65) L t rf lo X) 0 0 Q := by
    intro L A2 x1 x2 t hL hA2 hfl hq
    have hB2 : isB (A2 63) n := same_B (same_sym hfl) hlB
    unfold MT
    refine pw_aload_n rfl dX11_packAll_81 ?_
    refine pw_aload_n rfl dX11_packAll_82 ?_
    refine pw_gI dX11_packAll_83 fX11_97 (by first | rfl | assumption) rfl ?_
    rw [umd_n (by omega), h12]
    refine pc_V1 dX11_packAll_86 lX11_123 rfl rfl (by decide) (Nat.le_of_ble_eq_true rfl) ?_
    refine mt_put (by omega) ?_
    unfold MT
    refine pw_aload_n rfl dX11_packAll_89 ?_
    refine pw_aload_n rfl dX11_packAll_90 ?_
    refine pw_gI dX11_packAll_91 fX11_72 (by first | rfl | assumption) rfl ?_
    refine pw_sipush 256 (by decide) dX11_packAll_94 ?_
    rw [umd_n (by omega), hs1, show (256 : Int32) = nI 256 from rfl]
    refine pw_idiv (by decide) dX11_packAll_97 ?_
    rw [pk_div (by omega) (by omega) (by omega)]
    refine pc_V1 dX11_packAll_98 lX11_123 rfl rfl (by decide) (Nat.le_of_ble_eq_true rfl) ?_
    refine mt_put (by rw [List.length_append]; show 0 + (L.length + 1) < 1400; omega) ?_
    unfold MT
    refine pw_aload_n rfl dX11_packAll_101 ?_
    refine pw_aload_n rfl dX11_packAll_102 ?_
    refine pw_gI dX11_packAll_103 fX11_72 (by first | rfl | assumption) rfl ?_
    refine pw_sipush 256 (by decide) dX11_packAll_106 ?_
    rw [umd_n (by omega), hs1, show (256 : Int32) = nI 256 from rfl]
    refine pw_irem (by decide) dX11_packAll_109 ?_
    rw [pk_rem (by omega) (by omega) (by omega)]
    refine pc_V1 dX11_packAll_110 lX11_123 rfl rfl (by decide) (Nat.le_of_ble_eq_true rfl) ?_
    refine mt_put (by rw [List.length_append, List.length_append]; show 0 + (L.length + 1 + 1) < 1400; omega) ?_
    rw [List.append_assoc, List.append_assoc, List.singleton_append, List.singleton_append]
    have hL2 : (L ++ [nI q, nI (n / 256), nI (n % 256)]).length ≤ 8 := by rw [List.length_append]; show L.length + 3 ≤ 8; omega
    generalize L ++ [nI q, nI (n / 256), nI (n % 256)] = L2 at *
    -- the end, by what was made
    have fin : ∀ (F3 A3 : Nat → Nat → Int32) (t : Nat), (∀ i j, ¬ (i = 57 ∧ (j = 29 ∨ j = 30)) → F3 i j = F1 i j) → (∀ j, ¬ (63 ≤ j ∧ j ≤ 71) → A3 j = A j) → Q none (MT F3 A3 0 (A1 65) (pbody q (flt k g K V T n) n L2) t rf lo X) := by
      intro F3 A3 t hF3 hA3
      unfold MT
      refine hq _ _ (A1 65) ⟨fun i j h => ?_, fun i h => ?_⟩ ?_ stA_s
      · unfold umd
        rw [upF_n (by omega), upF_n (by omega), hF3 i j (by omega)]
        exact hF1 i j h
      · rw [stA_n (by omega)]
        exact hA3 i h
      · rw [umd_k, Nat.zero_add]
    unfold MT
    refine pw_aload_n rfl dX11_packAll_113 ?_
    refine pw_gI dX11_packAll_114 fX11_72 (by first | rfl | assumption) rfl ?_
    rw [umd_n (by omega), hs1]
    by_cases hn0 : n = 0
    · have := fin F1 A2 8 (fun _ _ _ => rfl) hA2
      unfold pbody at this
      rw [if_pos hn0] at this
      rw [hn0]
      refine pw_if_ne 121 dX11_packAll_117 (by decide) (fun q => absurd (rfl) q) (fun _ => ?_)
      refine pw_vret dX11_packAll_120 rfl ?_
      exact this
    · refine pw_if_ne 121 dX11_packAll_117 (by decide) (fun _ => ?_) (fun q => absurd q (nI_ne0 (by omega) (by omega)))
      refine pw_aload_n rfl dX11_packAll_121 ?_
      refine pw_gI dX11_packAll_122 fX11_97 (by first | rfl | assumption) rfl ?_
      rw [umd_n (by omega), h12]
      have hbod := cg_pbody (q := q) (L := L2) (same_sym hfl)
      have hgo : ∀ A3, (∀ j, ¬ (63 ≤ j ∧ j ≤ 71) → A3 j = A j) → ∀ t F3, (∀ i j, ¬ (i = 57 ∧ (j = 29 ∨ j = 30)) → F3 i j = F1 i j) → Q none (MT F3 A3 0 (A1 65) (pbody q (A2 63) n L2) t rf lo X) := by
        intro A3 hA3 t F3 hF3
        have := fin F3 A3 t hF3 hA3
        rw [hbod] at this
        exact this
      unfold pbody at hgo
      rw [if_neg hn0] at hgo
      rcases (show q = 0 ∨ q = 1 ∨ q = 2 ∨ q = 3 ∨ q = 4 by omega) with rfl | rfl | rfl | rfl | rfl
      · refine pw_tin 156 dX11_packAll_125 (by decide) (by decide) rfl (by decide) ?_
        refine pw_iconst 0 (by decide) dX11_packAll_156 ?_
        refine ps_istore_n (l' := [_, _, _]) dX11_packAll_157 (by decide) rfl rfl ?_
        have e0 : HS (umd F1 (0 + L2.length) 8) (stA A2 65 (app (A1 65) 0 L2)) rf lo X = MT F1 A2 0 (A1 65) (L2 ++ slice (A2 63) 0 0) 8 rf lo X := by
          unfold MT
          rw [slice_nil (Nat.le_refl _), List.append_nil]
        rw [e0]
        refine mstore_loop hn hs1 (by omega) n 0 8 (by omega) (fun t => ?_)
        refine pw_goto 226 dX11_packAll_182 (by decide) ?_
        refine pw_vret dX11_packAll_226 rfl ?_
        exact hgo A2 hA2 t F1 (fun _ _ _ => rfl)
      · refine pw_tin 185 dX11_packAll_125 (by decide) (by decide) rfl (by decide) ?_
        refine pw_aload_n rfl dX11_packAll_185 ?_
        refine pw_aload_n rfl dX11_packAll_186 ?_
        refine pw_gI dX11_packAll_187 fX11_72 (by first | rfl | assumption) rfl ?_
        rw [umd_n (by omega), hs1]
        refine pc_V1 dX11_packAll_190 lX11_171 rfl rfl (by decide) (Nat.le_of_ble_eq_true rfl) ?_
        refine mt_runs hn (by omega) (fun t => ?_)
        refine pw_goto 226 dX11_packAll_193 (by decide) ?_
        refine pw_vret dX11_packAll_226 rfl ?_
        exact hgo A2 hA2 t F1 (fun _ _ _ => rfl)
      · refine pw_tin 196 dX11_packAll_125 (by decide) (by decide) rfl (by decide) ?_
        refine pw_aload_n rfl dX11_packAll_196 ?_
        refine pw_aload_n rfl dX11_packAll_197 ?_
        refine pw_gI dX11_packAll_198 fX11_72 (by first | rfl | assumption) rfl ?_
        rw [umd_n (by omega), hs1]
        refine pc_V1 dX11_packAll_201 lX11_174 rfl rfl (by decide) (Nat.le_of_ble_eq_true rfl) ?_
        refine mt_bits hn (by omega) hB2 (by omega) (fun g' t => ?_)
        refine pw_goto 226 dX11_packAll_204 (by decide) ?_
        refine pw_vret dX11_packAll_226 rfl ?_
        exact hgo _ (fun j hj => by rw [stA_n (by omega), stA_n (by omega)]; exact hA2 j hj) t F1 (fun _ _ _ => rfl)
      · refine pw_tin 207 dX11_packAll_125 (by decide) (by decide) rfl (by decide) ?_
        refine pw_aload_n rfl dX11_packAll_207 ?_
        refine pw_aload_n rfl dX11_packAll_208 ?_
        refine pw_gI dX11_packAll_209 fX11_72 (by first | rfl | assumption) rfl ?_
        rw [umd_n (by omega), hs1]
        refine pc_V1 dX11_packAll_212 lX11_177 rfl rfl (by decide) (Nat.le_of_ble_eq_true rfl) ?_
        refine mt_prefix hn (by omega) hB2 (by omega) (fun A' t hA' => ?_)
        refine pw_goto 226 dX11_packAll_215 (by decide) ?_
        refine pw_vret dX11_packAll_226 rfl ?_
        exact hgo A' (fun j hj => by rw [hA' j (by omega)]; exact hA2 j hj) t F1 (fun _ _ _ => rfl)
      · refine pw_tout 218 dX11_packAll_125 (Or.inr (by decide)) (by decide) ?_
        refine pw_aload_n rfl dX11_packAll_218 ?_
        refine pw_aload_n rfl dX11_packAll_219 ?_
        refine pw_gI dX11_packAll_220 fX11_72 (by first | rfl | assumption) rfl ?_
        rw [umd_n (by omega), hs1]
        refine pc_V1 dX11_packAll_223 lX11_180 rfl rfl (by decide) (Nat.le_of_ble_eq_true rfl) ?_
        refine mt_matches hn (by omega) (fun t y => ?_)
        refine pw_vret dX11_packAll_226 rfl ?_
        exact hgo A2 hA2 t _ (fun i j h => by rw [upF_n (by omega), upF_n (by omega)])
  -- the first byte, then the FILTERS
  have first : ∀ (x2 : Int32) (v : Nat), v = nfi k g → PW Γ mX11_packAll 62 [.ref 57, .int (nI x), .int x2] [.int (nI v), .ref 57] (HS F1 A1 rf lo X) 0 0 Q := by
    intro x2 v hv
    subst hv
    refine pc_V1 dX11_packAll_62 lX11_123 rfl rfl (by decide) (Nat.le_of_ble_eq_true rfl) ?_
    obtain ⟨t9, ht9⟩ : ∃ t9, F1 57 17 = nI t9 := of_nI _
    have e0 : HS F1 A1 rf lo X = MT F1 A1 0 (A1 65) [] t9 rf lo X := by
      exact mt_of h15 ht9 (by rw [app_nil])
    rw [e0]
    refine mt_put (by show 0 + 0 < 1400; omega) ?_
    rw [List.nil_append]
    have hl1 : ([nI (nfi k g)] : List Int32).length = 1 := rfl
    generalize hL0 : [nI (nfi k g)] = L0 at *
    unfold MT
    refine pw_aload_n rfl dX11_packAll_65 ?_
    refine pw_aload_n rfl dX11_packAll_66 ?_
    refine pw_gI dX11_packAll_67 fX11_100 (by first | rfl | assumption) rfl ?_
    rw [umd_n (by omega), h10]
    by_cases hg0 : 0 < g
    · obtain ⟨o1, o2⟩ := hok.1 hg0
      rw [o2]
      refine pc_V1 dX11_packAll_70 lX11_168 rfl rfl (by decide) (Nat.le_of_ble_eq_true rfl) ?_
      refine m_putFilter (hC1 A1 hAA1) o1 hs1 hn (same_B (same_sym hR) hB) (by omega) ?_
      intro A2 hA2 hf2
      have h1 : hd1 k g K V = [nI (K (f1 k g)), nI (V (f1 k g))] := by unfold hd1; rw [if_pos hg0]
      have hfl1 : flt1 k g K V T n = fmk (K (f1 k g)) (V (f1 k g)) T n := by unfold flt1; rw [if_pos hg0]
      have hf2' : same (A2 63) (flt1 k g K V T n) n := fun j hj => by
        rw [hf2 j hj, hfl1]
        exact cg_fmk hn hR (hfk _ o1) hj
      have hA2' : ∀ j, ¬ (63 ≤ j ∧ j ≤ 71) → A2 j = A j := fun j hj => by rw [hA2 j hj]; exact hAA1 j hj
      unfold MT
      refine pw_aload_n rfl dX11_packAll_73 ?_
      refine pw_aload_n rfl dX11_packAll_74 ?_
      refine pw_gI dX11_packAll_75 fX11_103 (by first | rfl | assumption) rfl ?_
      rw [umd_n (by omega), h11]
      by_cases hgk : k < g
      · obtain ⟨q1, q2, q3⟩ := hok.2.1 hgk
        have h2 : hd2 k g K V = [nI (K (f2 k g)), nI (V (f2 k g))] := by unfold hd2; rw [if_pos hgk]
        have hfl : flt k g K V T n = fmk (K (f2 k g)) (V (f2 k g)) (flt1 k g K V T n) n := by unfold flt; rw [if_pos hgk]
        rw [q3]
        refine pc_V1 dX11_packAll_78 lX11_168 rfl rfl (by decide) (Nat.le_of_ble_eq_true rfl) ?_
        refine m_putFilter (hC1 A2 hA2') q2 hs1 hn (same_B (same_sym hf2') hlB1) (by rw [List.length_append, hl1]; show 1 + 2 ≤ 100; omega) ?_
        intro A3 hA3 hf3
        refine tail _ A3 _ _ _ (by rw [List.length_append, List.length_append, hl1]; show 1 + 2 + 2 ≤ 5; omega) (fun j hj => by rw [hA3 j hj]; exact hA2' j hj) (fun j hj => by rw [hf3 j hj, hfl]; exact cg_fmk hn hf2' (hfk _ q2) hj) ?_
        rw [h1, h2] at hQ
        rw [List.append_assoc, List.append_assoc, ← hL0]
        exact hQ
      · have h2 : hd2 k g K V = [] := by unfold hd2; rw [if_neg hgk]
        have hfl : flt k g K V T n = flt1 k g K V T n := by unfold flt; rw [if_neg hgk]
        rw [hok.2.2.2 (by omega)]
        refine pc_V1 dX11_packAll_78 lX11_168 rfl rfl (by decide) (Nat.le_of_ble_eq_true rfl) ?_
        refine m_putNone ?_
        refine tail _ A2 _ _ _ (by rw [List.length_append, hl1]; show 1 + 2 ≤ 5; omega) hA2' (by rw [hfl]; exact hf2') ?_
        rw [h1, h2] at hQ
        rw [List.append_assoc, ← hL0]
        exact hQ
    · have h1 : hd1 k g K V = [] := by unfold hd1; rw [if_neg hg0]
      have h2 : hd2 k g K V = [] := by unfold hd2; rw [if_neg (by omega)]
      have hfl : flt k g K V T n = T := by unfold flt flt1; rw [if_neg (by omega), if_neg hg0]
      rw [hok.2.2.1 (by omega)]
      refine pc_V1 dX11_packAll_70 lX11_168 rfl rfl (by decide) (Nat.le_of_ble_eq_true rfl) ?_
      refine m_putNone ?_
      unfold MT
      refine pw_aload_n rfl dX11_packAll_73 ?_
      refine pw_aload_n rfl dX11_packAll_74 ?_
      refine pw_gI dX11_packAll_75 fX11_103 (by first | rfl | assumption) rfl ?_
      rw [umd_n (by omega), h11, hok.2.2.2 (by omega)]
      refine pc_V1 dX11_packAll_78 lX11_168 rfl rfl (by decide) (Nat.le_of_ble_eq_true rfl) ?_
      refine m_putNone ?_
      refine tail _ A1 _ _ _ (by omega) hAA1 (by rw [hfl]; exact hR) ?_
      rw [h1, h2] at hQ
      rw [← hL0]
      exact hQ
  refine pw_aload_n rfl dX11_packAll_38 ?_
  refine pw_aload_n rfl dX11_packAll_39 ?_
  refine pw_gI dX11_packAll_40 fX11_100 (by first | rfl | assumption) rfl ?_
  rw [h10]
  by_cases hg0 : 0 < g
  · obtain ⟨o1, o2⟩ := hok.1 hg0
    rw [o2]
    refine pw_if_ge 50 dX11_packAll_43 (by decide) (fun _ => ?_) (fun q => absurd (nI_pos' (by omega)) q)
    refine pw_aload_n rfl dX11_packAll_50 ?_
    refine pw_gI dX11_packAll_51 fX11_103 (by first | rfl | assumption) rfl ?_
    rw [h11]
    by_cases hgk : k < g
    · obtain ⟨q1, q2, q3⟩ := hok.2.1 hgk
      rw [q3]
      refine pw_if_ge 61 dX11_packAll_54 (by decide) (fun _ => ?_) (fun q => absurd (nI_pos' (by omega)) q)
      refine pw_iconst 2 (by decide) dX11_packAll_61 ?_
      exact first _ 2 (by unfold nfi; rw [if_neg (by omega), if_neg (by omega)])
    · rw [hok.2.2.2 (by omega)]
      refine pw_if_ge 61 dX11_packAll_54 (by decide) (fun q => absurd q (by decide)) (fun _ => ?_)
      refine pw_iconst 1 (by decide) dX11_packAll_57 ?_
      refine pw_goto 62 dX11_packAll_58 (by decide) ?_
      exact first _ 1 (by unfold nfi; rw [if_neg (by omega), if_pos (by omega)])
  · rw [hok.2.2.1 (by omega)]
    refine pw_if_ge 50 dX11_packAll_43 (by decide) (fun q => absurd q (by decide)) (fun _ => ?_)
    refine pw_iconst 0 (by decide) dX11_packAll_46 ?_
    refine pw_goto 62 dX11_packAll_47 (by decide) ?_
    exact first _ 0 (by unfold nfi; rw [if_pos (by omega)])
end
