/-! the reference's come, readItems -/
def MB (F A : Nat → Nat → Int32) (b : BT) : Prop := RM F b.1 ∧ (b.1.1 = 0 → F 57 32 = nI b.2.1 ∧ same (A 63) b.2.2 b.2.1)
def frG (F F' A A' : Nat → Nat → Int32) : Prop := (∀ i j, ¬ (i = 57 ∧ (j = 27 ∨ j = 28 ∨ j = 31 ∨ j = 32)) → F' i j = F i j) ∧ (∀ i, ¬ i = 63 → A' i = A i)
theorem frG_r {F A : Nat → Nat → Int32} : frG F F A A := ⟨fun _ _ _ => rfl, fun _ _ => rfl⟩
theorem frG_t {F F1 F2 A A1 A2 : Nat → Nat → Int32} (h1 : frG F F1 A A1) (h2 : frG F1 F2 A1 A2) : frG F F2 A A2 := ⟨fun i j k1 => by rw [h2.1 i j k1]; exact h1.1 i j k1, fun i k1 => by rw [h2.2 i k1]; exact h1.2 i k1⟩
theorem frG_N {F F1 A : Nat → Nat → Int32} (h : frN F F1) : frG F F1 A A := ⟨fun i j k1 => h i j (by omega), fun _ _ => rfl⟩
section
variable {Γ : Nat × (Nat → Int32)} {F A : Nat → Nat → Int32} {lo : Int64} {X : PH} {Q : Option Value → PH → Prop} {o n : Nat} {O : Nat → Int32} {b : BT} {rf : Nat}
theorem OM_G {F' A' : Nat → Nat → Int32} (h : OM F A o O) (hf : frG F F' A A') : OM F' A' o O := OM_fr h (hf.1 _ _ (by omega)) (hf.2 _ (by omega))
theorem m_come {v : Int32} (hM : MB F A b) (hk : rok o b.1) (hg : b.1.1 = 0 → b.2.1 < 300) (hQ : ∀ F' A', frG F F' A A' → (∀ j, ¬ j = 32 → F' 57 j = F 57 j) → MB F' A' (if b.1.1 = 0 then pu v b else b) → Q none (HS F' A' rf lo X)) : PM Γ mX11_come [.ref 57, .int v] (HS F A rf lo X) 0 0 Q := by
  obtain ⟨hR, hg2⟩ := id hM
  refine PM.go (l := [_, _]) rfl rfl (Nat.le_of_ble_eq_true rfl) rfl ?_
  refine pw_aload_n rfl dX11_come_0 ?_
  refine pw_gI dX11_come_1 fX11_201 (by first | rfl | assumption) rfl ?_
  rw [hR.1]
  by_cases h0 : b.1.1 = 0
  · have hlt := hg h0
    obtain ⟨e1, e2⟩ := hg2 h0
    rw [if_pos h0] at hQ
    refine pw_if_ne 27 dX11_come_4 (by decide) (fun q => absurd (by rw [h0]; rfl) q) (fun _ => ?_)
    refine pw_aload_n rfl dX11_come_7 ?_
    refine pw_gC dX11_come_8 fX11_25 (by first | rfl | assumption) rfl (by first | rfl | assumption) ?_
    refine pw_aload_n rfl dX11_come_11 ?_
    refine pw_gI dX11_come_12 fX11_216 (by first | rfl | assumption) rfl ?_
    rw [e1]
    refine pw_iload_n rfl dX11_come_15 ?_
    refine pw_sI dX11_come_16 (by first | rfl | assumption) (by first | assumption | exact vp_in_nI (by omega) (by omega)) ?_
    refine pw_aload_n rfl dX11_come_17 ?_
    refine pw_dup rfl dX11_come_18 ?_
    refine pw_gI dX11_come_19 fX11_216 (by first | rfl | assumption) rfl ?_
    rw [e1]
    refine pw_iconst 1 (by decide) dX11_come_22 ?_
    refine pw_iadd dX11_come_23 ?_
    refine pw_pI dX11_come_24 fX11_216 (by first | rfl | assumption) rfl ⟨rfl, rfl⟩ ?_
    refine pw_vret dX11_come_27 rfl ?_
    rw [nI_1, nI_clamp (by omega)]
    refine hQ _ _ ⟨fun i j h => upF_n (by omega), fun i h => stA_n h⟩ (fun j h => upF_n (by omega)) ⟨⟨by rw [upF_n (by omega)]; exact hR.1, fun h => by rw [upF_n (by omega), upF_n (by omega)]; exact hR.2.1 h, fun h => by rw [upF_n (by omega)]; exact hR.2.2 h⟩, fun _ => ⟨upF_s, ?_⟩⟩
    show same (stA A 63 (upd (A 63) b.2.1 v) 63) (upd b.2.2 b.2.1 v) (b.2.1 + 1)
    rw [stA_s]
    intro j hj
    by_cases h : j = b.2.1
    · rw [h, upd_s, upd_s]
    · rw [upd_n h, upd_n h]; exact e2 j (by omega)
  · rw [if_neg h0] at hQ
    have := hk.1
    refine pw_if_ne 27 dX11_come_4 (by decide) (fun _ => ?_) (fun q => absurd q (nI_ne0 (by omega) (by omega)))
    refine pw_vret dX11_come_27 rfl ?_
    exact hQ F A frG_r (fun _ _ => rfl) hM
theorem MB_R {F1 : Nat → Nat → Int32} {r : RT} (hM : MB F A b) (hf : frN F F1) (hR : RM F1 r) (h : r.1 = 0 → b.1.1 = 0) : MB F1 A (r, b.2) := ⟨hR, fun h0 => ⟨by rw [hf 57 32 (by omega)]; exact (hM.2 (h h0)).1, (hM.2 (h h0)).2⟩⟩
theorem mi_copy {M : Nat} {x1 x2 : Int32} (hO : OM F A o O) (ho : o ≤ 1024) (hB : isB O o) (hn : n ≤ 300) (hM : M < 2000) : ∀ (m i : Nat) (b : BT) (F' A' : Nat → Nat → Int32) (y : Value), i + m = M → frG F F' A A' → MB F' A' b → bk o n b → (b.1.1 = 0 → b.2.1 + m ≤ n) →
    (∀ F' A' i, frG F F' A A' → MB F' A' (cpy O o m b) → PW Γ mX11_readItems 119 [.ref 57, .int x1, .int x2, .int (nI M), .int i, y] [] (HS F' A' rf lo X) 0 0 Q) →
    PW Γ mX11_readItems 92 [.ref 57, .int x1, .int x2, .int (nI M), .int (nI i), y] [] (HS F' A' rf lo X) 0 0 Q := by
  intro m
  induction m with
  | zero =>
    intro i b F' A' y hi hfr hC hk hm hq
    have hi2 : i = M := by omega
    subst hi2
    refine pw_iload rfl dX11_readItems_92 ?_
    refine pw_iload_n rfl dX11_readItems_94 ?_
    refine pw_icmp_ge 119 dX11_readItems_95 (by decide) (fun _ => ?_) (fun q => absurd (nI_le (Nat.le_refl _) (by omega)) q)
    exact hq F' A' _ hfr hC
  | succ m ih =>
    intro i b F' A' y hi hfr hC hk hm hq
    obtain ⟨hR, hg2⟩ := id hC
    unfold cpy at hq
    refine pw_iload rfl dX11_readItems_92 ?_
    refine pw_iload_n rfl dX11_readItems_94 ?_
    refine pw_icmp_ge 119 dX11_readItems_95 (by decide) (fun q => absurd q (nI_ge (by omega) (by omega))) (fun _ => ?_)
    refine pw_aload_n rfl dX11_readItems_98 ?_
    refine pw_gI dX11_readItems_99 fX11_201 (by first | rfl | assumption) rfl ?_
    rw [hR.1]
    by_cases h0 : b.1.1 = 0
    · rw [if_pos h0] at hq
      have hm2 := hm h0
      refine pw_if_ne 119 dX11_readItems_102 (by decide) (fun q => absurd (by rw [h0]; rfl) q) (fun _ => ?_)
      refine pw_aload_n rfl dX11_readItems_105 ?_
      refine pw_aload_n rfl dX11_readItems_106 ?_
      refine pc_V0 dX11_readItems_107 lX11_213 rfl rfl (by decide) (Nat.le_of_ble_eq_true rfl) ?_
      refine m_next (OM_G hO hfr) ho hB hR hk.1 ?_
      intro F1 hf1 hR1
      have hfr1 := frG_t hfr (frG_N hf1)
      refine pc_V1 dX11_readItems_110 lX11_229 rfl rfl (by decide) (Nat.le_of_ble_eq_true rfl) ?_
      refine m_come (b := (nxS o b.1, b.2)) (MB_R hC hf1 hR1 (fun h => (nxS_0 h).1)) (nxS_rok hk.1) (fun h => by show b.2.1 < 300; omega) ?_
      intro F2 A2 hf2 _ hM2
      refine ps_iinc (l' := [_, _, _, _, _, _]) 1 dX11_readItems_113 (by decide) rfl (by decide) rfl rfl ?_
      refine pw_goto 92 dX11_readItems_116 (by decide) ?_
      rw [nI_1]
      by_cases h1 : (nxS o b.1).1 = 0
      · rw [if_pos h1] at hq
        rw [if_pos h1] at hM2
        exact ih (i + 1) _ F2 A2 y (by omega) (frG_t hfr1 hf2) hM2 ⟨nxS_rok hk.1, fun _ => ⟨by show b.2.1 + 1 ≤ n; omega, pu_B (hk.2 h0).2 (nxV_lt hB)⟩⟩ (fun _ => by show b.2.1 + 1 + m ≤ n; omega) hq
      · rw [if_neg h1] at hq
        rw [if_neg h1] at hM2
        refine ih (i + 1) (nxS o b.1, b.2) F2 A2 y (by omega) (frG_t hfr1 hf2) hM2 ⟨nxS_rok hk.1, fun h9 => absurd h9 h1⟩ (fun h9 => absurd h9 h1) ?_
        rw [cpy_f (b := (nxS o b.1, b.2)) h1]
        exact hq
    · rw [if_neg h0] at hq
      have := hk.1.1
      refine pw_if_ne 119 dX11_readItems_102 (by decide) (fun _ => ?_) (fun q => absurd q (nI_ne0 (by omega) (by omega)))
      exact hq F' A' _ hfr hC
theorem mi_rep {M v : Nat} {x2 : Int32} (hv : v < 256) (hn : n ≤ 300) (hM : M < 2000) : ∀ (m i : Nat) (b : BT) (F' A' : Nat → Nat → Int32), i + m = M → frG F F' A A' → MB F' A' b → bk o n b → (b.1.1 = 0 → b.2.1 + m ≤ n) →
    (∀ F' A' i, frG F F' A A' → MB F' A' (rpt v m b) → PW Γ mX11_readItems 217 [.ref 57, .int 0, .int x2, .int (nI M), .int (nI v), .int i] [] (HS F' A' rf lo X) 0 0 Q) →
    PW Γ mX11_readItems 173 [.ref 57, .int 0, .int x2, .int (nI M), .int (nI v), .int (nI i)] [] (HS F' A' rf lo X) 0 0 Q := by
  intro m
  induction m with
  | zero =>
    intro i b F' A' hi hfr hC hk hm hq
    have hi2 : i = M := by omega
    subst hi2
    refine pw_iload rfl dX11_readItems_173 ?_
    refine pw_iload_n rfl dX11_readItems_175 ?_
    refine pw_icmp_ge 217 dX11_readItems_176 (by decide) (fun _ => ?_) (fun q => absurd (nI_le (Nat.le_refl _) (by omega)) q)
    exact hq F' A' _ hfr hC
  | succ m ih =>
    intro i b F' A' hi hfr hC hk hm hq
    obtain ⟨hR, hg2⟩ := id hC
    unfold rpt at hq
    refine pw_iload rfl dX11_readItems_173 ?_
    refine pw_iload_n rfl dX11_readItems_175 ?_
    refine pw_icmp_ge 217 dX11_readItems_176 (by decide) (fun q => absurd q (nI_ge (by omega) (by omega))) (fun _ => ?_)
    refine pw_aload_n rfl dX11_readItems_179 ?_
    refine pw_gI dX11_readItems_180 fX11_201 (by first | rfl | assumption) rfl ?_
    rw [hR.1]
    by_cases h0 : b.1.1 = 0
    · rw [if_pos h0] at hq
      have hm2 := hm h0
      refine pw_if_ne 217 dX11_readItems_183 (by decide) (fun q => absurd ((by rw [h0]; rfl)) q) (fun _ => ?_)
      refine pw_aload_n rfl dX11_readItems_186 ?_
      refine pw_iload_n rfl dX11_readItems_187 ?_
      refine pw_if_eq 206 dX11_readItems_188 (by decide) (fun _ => ?_) (fun q => absurd (rfl) q)
      refine pw_iload rfl dX11_readItems_206 ?_
      refine pc_V1 dX11_readItems_208 lX11_229 rfl rfl (by decide) (Nat.le_of_ble_eq_true rfl) ?_
      refine m_come hC hk.1 (fun h => by omega) ?_
      intro F2 A2 hf2 _ hM2
      rw [if_pos h0] at hM2
      refine ps_iinc (l' := [_, _, _, _, _, _]) 1 dX11_readItems_211 (by decide) rfl (by decide) rfl rfl ?_
      refine pw_goto 173 dX11_readItems_214 (by decide) ?_
      rw [nI_1]
      exact ih (i + 1) _ F2 A2 (by omega) (frG_t hfr hf2) hM2 ⟨hk.1, fun _ => ⟨by show b.2.1 + 1 ≤ n; omega, pu_B (hk.2 h0).2 hv⟩⟩ (fun _ => by show b.2.1 + 1 + m ≤ n; omega) hq
    · rw [if_neg h0] at hq
      have := hk.1.1
      refine pw_if_ne 217 dX11_readItems_183 (by decide) (fun _ => ?_) (fun q => absurd q (nI_ne0 (by omega) (by omega)))
      exact hq F' A' _ hfr hC
theorem mi_back {M d : Nat} {x2 : Int32} (hn : n ≤ 300) (hM : M < 2000) : ∀ (m i : Nat) (b : BT) (F' A' : Nat → Nat → Int32), i + m = M → frG F F' A A' → MB F' A' b → bk o n b → (b.1.1 = 0 → b.2.1 + m ≤ n ∧ 0 < d ∧ d ≤ b.2.1) →
    (∀ F' A' i, frG F F' A A' → MB F' A' (cbk d m b) → PW Γ mX11_readItems 217 [.ref 57, .int 1, .int x2, .int (nI M), .int (nI d), .int i] [] (HS F' A' rf lo X) 0 0 Q) →
    PW Γ mX11_readItems 173 [.ref 57, .int 1, .int x2, .int (nI M), .int (nI d), .int (nI i)] [] (HS F' A' rf lo X) 0 0 Q := by
  intro m
  induction m with
  | zero =>
    intro i b F' A' hi hfr hC hk hm hq
    have hi2 : i = M := by omega
    subst hi2
    refine pw_iload rfl dX11_readItems_173 ?_
    refine pw_iload_n rfl dX11_readItems_175 ?_
    refine pw_icmp_ge 217 dX11_readItems_176 (by decide) (fun _ => ?_) (fun q => absurd (nI_le (Nat.le_refl _) (by omega)) q)
    exact hq F' A' _ hfr hC
  | succ m ih =>
    intro i b F' A' hi hfr hC hk hm hq
    obtain ⟨hR, hg2⟩ := id hC
    unfold cbk at hq
    refine pw_iload rfl dX11_readItems_173 ?_
    refine pw_iload_n rfl dX11_readItems_175 ?_
    refine pw_icmp_ge 217 dX11_readItems_176 (by decide) (fun q => absurd q (nI_ge (by omega) (by omega))) (fun _ => ?_)
    refine pw_aload_n rfl dX11_readItems_179 ?_
    refine pw_gI dX11_readItems_180 fX11_201 (by first | rfl | assumption) rfl ?_
    rw [hR.1]
    by_cases h0 : b.1.1 = 0
    · rw [if_pos h0] at hq
      obtain ⟨m1, m2, m3⟩ := hm h0
      obtain ⟨e1, e2⟩ := hg2 h0
      obtain ⟨v, hv, ev⟩ := (hk.2 h0).2 (b.2.1 - d) (by omega)
      rw [ev] at hq
      refine pw_if_ne 217 dX11_readItems_183 (by decide) (fun q => absurd ((by rw [h0]; rfl)) q) (fun _ => ?_)
      refine pw_aload_n rfl dX11_readItems_186 ?_
      refine pw_iload_n rfl dX11_readItems_187 ?_
      refine pw_if_eq 206 dX11_readItems_188 (by decide) (fun q => absurd q (by decide)) (fun _ => ?_)
      refine pw_aload_n rfl dX11_readItems_191 ?_
      refine pw_gC dX11_readItems_192 fX11_25 (by first | rfl | assumption) rfl (by first | rfl | assumption) ?_
      refine pw_aload_n rfl dX11_readItems_195 ?_
      refine pw_gI dX11_readItems_196 fX11_216 (by first | rfl | assumption) rfl ?_
      rw [e1]
      refine pw_iload rfl dX11_readItems_199 ?_
      refine pw_isub dX11_readItems_201 ?_
      rw [pk_sub (by omega)]
      refine pw_aI dX11_readItems_202 (by first | rfl | assumption) (by first | assumption | exact vp_in_nI (by omega) (by omega)) ?_
      refine pw_goto 208 dX11_readItems_203 (by decide) ?_
      rw [nI_clamp (by omega), e2 _ (by omega), ev]
      refine pc_V1 dX11_readItems_208 lX11_229 rfl rfl (by decide) (Nat.le_of_ble_eq_true rfl) ?_
      refine m_come hC hk.1 (fun h => by omega) ?_
      intro F2 A2 hf2 _ hM2
      rw [if_pos h0] at hM2
      refine ps_iinc (l' := [_, _, _, _, _, _]) 1 dX11_readItems_211 (by decide) rfl (by decide) rfl rfl ?_
      refine pw_goto 173 dX11_readItems_214 (by decide) ?_
      rw [nI_1]
      exact ih (i + 1) _ F2 A2 (by omega) (frG_t hfr hf2) hM2 ⟨hk.1, fun _ => ⟨by show b.2.1 + 1 ≤ n; omega, pu_B (hk.2 h0).2 hv⟩⟩ (fun _ => ⟨by show b.2.1 + 1 + m ≤ n; omega, m2, by show d ≤ b.2.1 + 1; omega⟩) hq
    · rw [if_neg h0] at hq
      have := hk.1.1
      refine pw_if_ne 217 dX11_readItems_183 (by decide) (fun _ => ?_) (fun q => absurd q (nI_ne0 (by omega) (by omega)))
      exact hq F' A' _ hfr hC
theorem mi_all {mt : Bool} (hO : OM F A o O) (ho : o ≤ 1024) (hB : isB O o) (hn : n ≤ 300) (hn0 : F 57 33 = nI n) : ∀ (k : Nat) (b : BT) (F' A' : Nat → Nat → Int32) (g2 g3 g4 g5 : Value), g2.category = 1 → g3.category = 1 → g4.category = 1 → g5.category = 1 → (b.1.1 = 0 → n - b.2.1 ≤ k) → frG F F' A A' → MB F' A' b → bk o n b →
    (∀ F' A', frG F F' A A' → MB F' A' (its O o n mt k b) → Q none (HS F' A' rf lo X)) →
    PW Γ mX11_readItems 0 [.ref 57, .int (bI mt), g2, g3, g4, g5] [] (HS F' A' rf lo X) 0 0 Q := by
  have stop : ∀ (b : BT) (F' A' : Nat → Nat → Int32) (g2 g3 g4 g5 : Value), frG F F' A A' → MB F' A' b → bk o n b → ¬ (b.1.1 = 0 ∧ b.2.1 < n) → Q none (HS F' A' rf lo X) → PW Γ mX11_readItems 0 [.ref 57, .int (bI mt), g2, g3, g4, g5] [] (HS F' A' rf lo X) 0 0 Q := by
    intro b F' A' g2 g3 g4 g5 hfr hC hk hno hq
    obtain ⟨hR, hg2⟩ := id hC
    refine pw_aload_n rfl dX11_readItems_0 ?_
    refine pw_gI dX11_readItems_1 fX11_201 (by first | rfl | assumption) rfl ?_
    rw [hR.1]
    by_cases h0 : b.1.1 = 0
    · refine pw_if_ne 220 dX11_readItems_4 (by decide) (fun q => absurd (by rw [h0]; rfl) q) (fun _ => ?_)
      refine pw_aload_n rfl dX11_readItems_7 ?_
      refine pw_gI dX11_readItems_8 fX11_216 (by first | rfl | assumption) rfl ?_
      rw [(hg2 h0).1]
      refine pw_aload_n rfl dX11_readItems_11 ?_
      refine pw_gI dX11_readItems_12 fX11_226 (by first | rfl | assumption) rfl ?_
      rw [hfr.1 57 33 (by omega), hn0]
      refine pw_icmp_ge 220 dX11_readItems_15 (by decide) (fun _ => ?_) (fun q => absurd (nI_le (by have : ¬ b.2.1 < n := fun h => hno ⟨h0, h⟩; omega) (by have := (hk.2 h0).1; omega)) q)
      refine pw_vret dX11_readItems_220 rfl ?_
      exact hq
    · have := hk.1.1
      refine pw_if_ne 220 dX11_readItems_4 (by decide) (fun _ => ?_) (fun q => absurd q (nI_ne0 (by omega) (by omega)))
      refine pw_vret dX11_readItems_220 rfl ?_
      exact hq
  intro k
  induction k with
  | zero =>
    intro b F' A' g2 g3 g4 g5 k2 k3 k4 k5 hkk hfr hC hk hq
    exact stop b F' A' g2 g3 g4 g5 hfr hC hk (fun z => by have := hkk z.1; omega) (hq F' A' hfr hC)
  | succ k ih =>
    intro b F' A' g2 g3 g4 g5 k2 k3 k4 k5 hkk hfr hC hk hq
    unfold its at hq
    by_cases hgo : b.1.1 = 0 ∧ b.2.1 < n
    · rw [if_pos hgo] at hq
      obtain ⟨h0, hg⟩ := hgo
      obtain ⟨hR, hg2⟩ := id hC
      have hkk2 := hkk h0
      have hv := nxV_lt hB (o := o) (r := b.1)
      have hmk := itM_ok (mt := mt) hv
      have hit1 := it1_ok (mt := mt) hB hk
      have h33 : F' 57 33 = nI n := by rw [hfr.1 57 33 (by omega)]; exact hn0
      refine pw_aload_n rfl dX11_readItems_0 ?_
      refine pw_gI dX11_readItems_1 fX11_201 (by first | rfl | assumption) rfl ?_
      rw [hR.1]
      refine pw_if_ne 220 dX11_readItems_4 (by decide) (fun q => absurd (by rw [h0]; rfl) q) (fun _ => ?_)
      refine pw_aload_n rfl dX11_readItems_7 ?_
      refine pw_gI dX11_readItems_8 fX11_216 (by first | rfl | assumption) rfl ?_
      rw [(hg2 h0).1]
      refine pw_aload_n rfl dX11_readItems_11 ?_
      refine pw_gI dX11_readItems_12 fX11_226 (by first | rfl | assumption) rfl ?_
      rw [h33]
      refine pw_icmp_ge 220 dX11_readItems_15 (by decide) (fun q => absurd q (nI_ge hg (by omega))) (fun _ => ?_)
      refine pw_aload_n rfl dX11_readItems_18 ?_
      refine pc_V0 dX11_readItems_19 lX11_213 rfl rfl (by decide) (Nat.le_of_ble_eq_true rfl) ?_
      refine m_next (OM_G hO hfr) ho hB hR hk.1 ?_
      intro F1 hf1 hR1
      have hfr1 := frG_t hfr (frG_N (A := A') hf1)
      have h331 : F1 57 33 = nI n := by rw [hf1 57 33 (by omega)]; exact h33
      have h321 : F1 57 32 = nI b.2.1 := by rw [hf1 57 32 (by omega)]; exact (hg2 h0).1
      have hkn := nxS_rok hk.1
      -- behind the item
      have back : ∀ (F2 A2 : Nat → Nat → Int32) (y3 y4 y5 : Value), y3.category = 1 → y4.category = 1 → y5.category = 1 → frG F F2 A A2 → MB F2 A2 (it1 O o n mt b) → PW Γ mX11_readItems 217 [.ref 57, .int (bI mt), .int (nI (nxV O o b.1)), y3, y4, y5] [] (HS F2 A2 rf lo X) 0 0 Q := by
        intro F2 A2 y3 y4 y5 h3 h4 h5 hf2 hM2
        refine pw_goto 0 dX11_readItems_217 (by decide) ?_
        exact ih (it1 O o n mt b) F2 A2 _ _ _ _ rfl h3 h4 h5 (fun h => by have := (hit1.2 h).2; omega) hf2 hM2 hit1.1 hq
      have kind : ∀ (F2 : Nat → Nat → Int32), frG F F2 A A' → RM F2 (itR O o n mt b) → frN F1 F2 → PW Γ mX11_readItems 82 [.ref 57, .int (bI mt), .int (nI (nxV O o b.1)), .int (nI (itM mt (nxV O o b.1))), g4, g5] [] (HS F2 A' rf lo X) 0 0 Q := by
        intro F2 hf2 hR2 hf12
        have hro := itR_ok (O := O) (mt := mt) hk
        have hM2 : MB F2 A' (itR O o n mt b, b.2) := MB_R hC (frN_t hf1 hf12) hR2 (fun h => (hro.2 h).1)
        have hk2 : bk o n (itR O o n mt b, b.2) := ⟨hro.1, fun h => hk.2 (hro.2 h).1⟩
        have hb1 : it1 O o n mt b = it1 O o n mt b := rfl
        refine pw_iload_n rfl dX11_readItems_82 ?_
        refine pw_sipush 128 (by decide) dX11_readItems_83 ?_
        by_cases h128 : nxV O o b.1 < 128
        · refine pw_icmp_ge 122 dX11_readItems_86 (by decide) (fun q => absurd q (nI_ge (b := 128) h128 (by omega))) (fun _ => ?_)
          refine pw_iconst 0 (by decide) dX11_readItems_89 ?_
          refine ps_istore (l' := [_, _, _, _, _, _]) dX11_readItems_90 (by decide) rfl rfl ?_
          refine mi_copy (F := F) (A := A) hO ho hB hn (by omega) (itM mt (nxV O o b.1)) 0 (itR O o n mt b, b.2) F2 A' _ (by omega) hf2 hM2 hk2 (fun h => (hro.2 h).2.1) ?_
          intro F3 A3 i hf3 hM3
          refine pw_goto 217 dX11_readItems_119 (by decide) ?_
          refine back F3 A3 _ _ _ rfl rfl k5 hf3 ?_
          unfold it1
          rw [if_pos h128]
          exact hM3
        · refine pw_icmp_ge 122 dX11_readItems_86 (by decide) (fun _ => ?_) (fun q => absurd (nI_le (a := 128) (by omega) (by omega)) q)
          refine pw_aload_n rfl dX11_readItems_122 ?_
          refine pw_gI dX11_readItems_123 fX11_201 (by first | rfl | assumption) rfl ?_
          rw [hR2.1]
          by_cases hr0 : (itR O o n mt b).1 = 0
          · refine pw_if_ne 217 dX11_readItems_126 (by decide) (fun q => absurd (by rw [hr0]; rfl) q) (fun _ => ?_)
            refine pw_aload_n rfl dX11_readItems_129 ?_
            refine pc_V0 dX11_readItems_130 lX11_213 rfl rfl (by decide) (Nat.le_of_ble_eq_true rfl) ?_
            refine m_next (OM_G hO hf2) ho hB hR2 hro.1 ?_
            intro F3 hf3 hR3
            have hfr3 := frG_t hf2 (frG_N (A := A') hf3)
            have hkn3 := nxS_rok hro.1
            cases mt with
            | false =>
              refine ps_istore (l' := [_, _, _, _, _, _]) dX11_readItems_133 (by decide) rfl rfl ?_
              refine pw_iload_n rfl dX11_readItems_135 ?_
              refine pw_if_eq 170 dX11_readItems_136 (by decide) (fun _ => ?_) (fun q => absurd (rfl) q)
              refine pw_iconst 0 (by decide) dX11_readItems_170 ?_
              refine ps_istore (l' := [_, _, _, _, _, _]) dX11_readItems_171 (by decide) rfl rfl ?_
              refine mi_rep (F := F) (A := A) (nxV_lt hB) hn (by omega) (itM false (nxV O o b.1)) 0 (nxS o (itR O o n false b), b.2) F3 A' (by omega) hfr3 (MB_R (b := (itR O o n false b, b.2)) hM2 hf3 hR3 (fun h => (nxS_0 h).1)) ⟨hkn3, fun h => hk2.2 (nxS_0 h).1⟩ (fun h => (hro.2 (nxS_0 h).1).2.1) ?_
              intro F4 A4 i hf4 hM4
              refine back F4 A4 _ _ _ rfl rfl rfl hf4 ?_
              unfold it1
              rw [if_neg h128, if_neg (by decide)]
              exact hM4
            | true =>
              have fin : ∀ (F4 : Nat → Nat → Int32), frN F3 F4 → RM F4 (itD O o n true b) → PW Γ mX11_readItems 170 [.ref 57, .int (bI true), .int (nI (nxV O o b.1)), .int (nI (itM true (nxV O o b.1))), .int (nI (nxV O o (itR O o n true b))), g5] [] (HS F4 A' rf lo X) 0 0 Q := by
                intro F4 hf4 hR4
                have hDk : rok o (itD O o n true b) ∧ ((itD O o n true b).1 = 0 → (itR O o n true b).1 = 0 ∧ 0 < nxV O o (itR O o n true b) ∧ nxV O o (itR O o n true b) ≤ b.2.1) := by
                  unfold itD
                  by_cases h1 : 0 < nxV O o (itR O o n true b) ∧ nxV O o (itR O o n true b) ≤ b.2.1
                  · rw [if_pos h1]
                    exact ⟨hkn3, fun h2 => ⟨(nxS_0 h2).1, h1⟩⟩
                  · rw [if_neg h1]
                    exact ⟨blm_rok hkn3 (by omega), fun h2 => absurd h2 (blm_0 (by omega))⟩
                refine pw_iconst 0 (by decide) dX11_readItems_170 ?_
                refine ps_istore (l' := [_, _, _, _, _, _]) dX11_readItems_171 (by decide) rfl rfl ?_
                refine mi_back (F := F) (A := A) hn (by omega) (itM true (nxV O o b.1)) 0 (itD O o n true b, b.2) F4 A' (by omega) (frG_t hfr3 (frG_N hf4)) (MB_R (b := (itR O o n true b, b.2)) hM2 (frN_t hf3 hf4) hR4 (fun h => (hDk.2 h).1)) ⟨hDk.1, fun h => hk2.2 (hDk.2 h).1⟩ (fun h => ⟨(hro.2 (hDk.2 h).1).2.1, (hDk.2 h).2⟩) ?_
                intro F5 A5 i hf5 hM5
                refine back F5 A5 _ _ _ rfl rfl rfl hf5 ?_
                unfold it1
                rw [if_neg h128, if_pos rfl]
                exact hM5
              have mus : ∀ x : Int32, (x = 0 → ¬ (0 < nxV O o (itR O o n true b) ∧ nxV O o (itR O o n true b) ≤ b.2.1)) → (¬ x = 0 → (0 < nxV O o (itR O o n true b) ∧ nxV O o (itR O o n true b) ≤ b.2.1) ∨ ¬ (nxS o (itR O o n true b)).1 = 0) → PW Γ mX11_readItems 166 [.ref 57, .int (bI true), .int (nI (nxV O o b.1)), .int (nI (itM true (nxV O o b.1))), .int (nI (nxV O o (itR O o n true b))), g5] [.int x, .ref 57] (HS F3 A' rf lo X) 0 0 Q := by
                intro x hx1 hx2
                refine pw_iconst 4 (by decide) dX11_readItems_166 ?_
                refine pc_V2 dX11_readItems_167 lX11_222 rfl rfl (by decide) (Nat.le_of_ble_eq_true rfl) ?_
                refine m_must (w := 4) hR3 hkn3.1 (by omega) (fun h => by rw [(nxS_0 h).2.2]; show 1 ≤ (itR O o n true b).2.2 + 1; omega) ?_
                intro F4 hf4 hR4
                refine fin F4 hf4 ?_
                unfold itD
                by_cases hx : x = 0
                · rw [if_neg (hx1 hx)]
                  rw [if_pos hx] at hR4
                  exact hR4
                · rw [if_neg hx] at hR4
                  rcases hx2 hx with h | h
                  · rw [if_pos h]; exact hR4
                  · rw [blm_f h]
                    split
                    · exact hR4
                    · exact hR4
              refine ps_istore (l' := [_, _, _, _, _, _]) dX11_readItems_133 (by decide) rfl rfl ?_
              refine pw_iload_n rfl dX11_readItems_135 ?_
              refine pw_if_eq 170 dX11_readItems_136 (by decide) (fun q => absurd q (by decide)) (fun _ => ?_)
              refine pw_aload_n rfl dX11_readItems_139 ?_
              refine pw_aload_n rfl dX11_readItems_140 ?_
              refine pw_gI dX11_readItems_141 fX11_201 (by first | rfl | assumption) rfl ?_
              rw [hR3.1]
              have hv3 := nxV_lt hB (o := o) (r := itR O o n true b)
              by_cases hf0 : (nxS o (itR O o n true b)).1 = 0
              · refine pw_if_ne 161 dX11_readItems_144 (by decide) (fun q => absurd (by rw [hf0]; rfl) q) (fun _ => ?_)
                refine pw_iload rfl dX11_readItems_147 ?_
                by_cases hd0 : 0 < nxV O o (itR O o n true b)
                · refine pw_if_le 165 dX11_readItems_149 (by decide) (fun q => absurd q (nI_ge (a := 0) hd0 (by omega))) (fun _ => ?_)
                  refine pw_iload rfl dX11_readItems_152 ?_
                  refine pw_aload_n rfl dX11_readItems_154 ?_
                  refine pw_gI dX11_readItems_155 fX11_216 (by first | rfl | assumption) rfl ?_
                  rw [hf3 57 32 (by omega), hf12 57 32 (by omega), h321]
                  by_cases hdl : nxV O o (itR O o n true b) ≤ b.2.1
                  · refine pw_icmp_gt 165 dX11_readItems_158 (by decide) (fun q => absurd q (nI_nlt hdl (by omega))) (fun _ => ?_)
                    refine pw_iconst 1 (by decide) dX11_readItems_161 ?_
                    refine pw_goto 166 dX11_readItems_162 (by decide) ?_
                    exact mus 1 (fun h => absurd h (by decide)) (fun _ => Or.inl ⟨hd0, hdl⟩)
                  · refine pw_icmp_gt 165 dX11_readItems_158 (by decide) (fun _ => ?_) (fun q => absurd (nI_lt (by omega) (by omega)) q)
                    refine pw_iconst 0 (by decide) dX11_readItems_165 ?_
                    exact mus 0 (fun _ => by omega) (fun h => absurd rfl h)
                · refine pw_if_le 165 dX11_readItems_149 (by decide) (fun _ => ?_) (fun q => absurd (nI_le (b := 0) (by omega) (by omega)) q)
                  refine pw_iconst 0 (by decide) dX11_readItems_165 ?_
                  exact mus 0 (fun _ => by omega) (fun h => absurd rfl h)
              · have := hkn3.1
                refine pw_if_ne 161 dX11_readItems_144 (by decide) (fun _ => ?_) (fun q => absurd q (nI_ne0 (by omega) (by omega)))
                refine pw_iconst 1 (by decide) dX11_readItems_161 ?_
                refine pw_goto 166 dX11_readItems_162 (by decide) ?_
                exact mus 1 (fun h => absurd h (by decide)) (fun _ => Or.inr hf0)
          · have := hro.1.1
            refine pw_if_ne 217 dX11_readItems_126 (by decide) (fun _ => ?_) (fun q => absurd q (nI_ne0 (by omega) (by omega)))
            refine back F2 A' _ _ _ rfl k4 k5 hf2 ?_
            unfold it1
            rw [if_neg h128]
            split
            · unfold itD
              rw [nxS_f hr0, blm_f hr0, cbk_f (by split <;> exact hr0)]
              split
              · exact hM2
              · exact hM2
            · rw [nxS_f hr0, rpt_f hr0]
              exact hM2
      have mus1 : ∀ x : Int32, (x = 0 → ¬ b.2.1 + itM mt (nxV O o b.1) ≤ n) → (¬ x = 0 → b.2.1 + itM mt (nxV O o b.1) ≤ n ∨ ¬ (nxS o b.1).1 = 0) → PW Γ mX11_readItems 78 [.ref 57, .int (bI mt), .int (nI (nxV O o b.1)), .int (nI (itM mt (nxV O o b.1))), g4, g5] [.int x, .ref 57] (HS F1 A' rf lo X) 0 0 Q := by
        intro x hx1 hx2
        refine pw_iconst 4 (by decide) dX11_readItems_78 ?_
        refine pc_V2 dX11_readItems_79 lX11_222 rfl rfl (by decide) (Nat.le_of_ble_eq_true rfl) ?_
        refine m_must (w := 4) hR1 hkn.1 (by omega) (fun h => by rw [(nxS_0 h).2.2]; show 1 ≤ b.1.2.2 + 1; omega) ?_
        intro F2 hf2 hR2
        refine kind F2 (frG_t hfr1 (frG_N hf2)) ?_ hf2
        unfold itR
        by_cases hx : x = 0
        · rw [if_neg (hx1 hx)]
          rw [if_pos hx] at hR2
          exact hR2
        · rw [if_neg hx] at hR2
          rcases hx2 hx with h | h
          · rw [if_pos h]; exact hR2
          · rw [blm_f h]
            split
            · exact hR2
            · exact hR2
      have many : PW Γ mX11_readItems 51 [.ref 57, .int (bI mt), .int (nI (nxV O o b.1)), g3, g4, g5] [.int (nI (itM mt (nxV O o b.1)))] (HS F1 A' rf lo X) 0 0 Q := by
        refine ps_istore_n (l' := [_, _, _, _, _, _]) dX11_readItems_51 (by decide) rfl rfl ?_
        refine pw_aload_n rfl dX11_readItems_52 ?_
        refine pw_aload_n rfl dX11_readItems_53 ?_
        refine pw_gI dX11_readItems_54 fX11_201 (by first | rfl | assumption) rfl ?_
        rw [hR1.1]
        by_cases hf0 : (nxS o b.1).1 = 0
        · refine pw_if_ne 73 dX11_readItems_57 (by decide) (fun q => absurd (by rw [hf0]; rfl) q) (fun _ => ?_)
          refine pw_aload_n rfl dX11_readItems_60 ?_
          refine pw_gI dX11_readItems_61 fX11_216 (by first | rfl | assumption) rfl ?_
          rw [h321]
          refine pw_iload_n rfl dX11_readItems_64 ?_
          refine pw_iadd dX11_readItems_65 ?_
          refine pw_aload_n rfl dX11_readItems_66 ?_
          refine pw_gI dX11_readItems_67 fX11_226 (by first | rfl | assumption) rfl ?_
          rw [nI_add, h331]
          by_cases hfit : b.2.1 + itM mt (nxV O o b.1) ≤ n
          · refine pw_icmp_gt 77 dX11_readItems_70 (by decide) (fun q => absurd q (nI_nlt hfit (by omega))) (fun _ => ?_)
            refine pw_iconst 1 (by decide) dX11_readItems_73 ?_
            refine pw_goto 78 dX11_readItems_74 (by decide) ?_
            exact mus1 1 (fun h => absurd h (by decide)) (fun _ => Or.inl hfit)
          · refine pw_icmp_gt 77 dX11_readItems_70 (by decide) (fun _ => ?_) (fun q => absurd (nI_lt (by omega) (by omega)) q)
            refine pw_iconst 0 (by decide) dX11_readItems_77 ?_
            exact mus1 0 (fun _ => hfit) (fun h => absurd rfl h)
        · have := hkn.1
          refine pw_if_ne 73 dX11_readItems_57 (by decide) (fun _ => ?_) (fun q => absurd q (nI_ne0 (by omega) (by omega)))
          refine pw_iconst 1 (by decide) dX11_readItems_73 ?_
          refine pw_goto 78 dX11_readItems_74 (by decide) ?_
          exact mus1 1 (fun h => absurd h (by decide)) (fun _ => Or.inr hf0)
      refine ps_istore_n (l' := [_, _, _, _, _, _]) dX11_readItems_22 (by decide) rfl rfl ?_
      refine pw_iload_n rfl dX11_readItems_23 ?_
      refine pw_sipush 128 (by decide) dX11_readItems_24 ?_
      unfold itM at many
      by_cases h128 : nxV O o b.1 < 128
      · rw [if_pos h128] at many
        refine pw_icmp_ge 36 dX11_readItems_27 (by decide) (fun q => absurd q (nI_ge (b := 128) h128 (by omega))) (fun _ => ?_)
        refine pw_iload_n rfl dX11_readItems_30 ?_
        refine pw_iconst 1 (by decide) dX11_readItems_31 ?_
        refine pw_iadd dX11_readItems_32 ?_
        rw [nI_1]
        refine pw_goto 51 dX11_readItems_33 (by decide) ?_
        exact many
      · rw [if_neg h128] at many
        refine pw_icmp_ge 36 dX11_readItems_27 (by decide) (fun _ => ?_) (fun q => absurd (nI_le (a := 128) (by omega) (by omega)) q)
        refine pw_iload_n rfl dX11_readItems_36 ?_
        cases mt with
        | false =>
          rw [if_neg (by decide)] at many
          refine pw_if_eq 47 dX11_readItems_37 (by decide) (fun _ => ?_) (fun q => absurd (rfl) q)
          refine pw_iload_n rfl dX11_readItems_47 ?_
          refine pw_bipush 126 (by decide) dX11_readItems_48 ?_
          rw [show (126 : Int32) = nI 126 from rfl]
          refine pw_isub dX11_readItems_50 ?_
          rw [pk_sub (by omega)]
          exact many
        | true =>
          rw [if_pos rfl] at many
          refine pw_if_eq 47 dX11_readItems_37 (by decide) (fun q => absurd q (by decide)) (fun _ => ?_)
          refine pw_iload_n rfl dX11_readItems_40 ?_
          refine pw_bipush 125 (by decide) dX11_readItems_41 ?_
          rw [show (125 : Int32) = nI 125 from rfl]
          refine pw_isub dX11_readItems_43 ?_
          refine pw_goto 51 dX11_readItems_44 (by decide) ?_
          rw [pk_sub (by omega)]
          exact many
    · rw [if_neg hgo] at hq
      exact stop b F' A' g2 g3 g4 g5 hfr hC hk hgo (hq F' A' hfr hC)
theorem m_readItems {mt : Bool} (hO : OM F A o O) (ho : o ≤ 1024) (hB : isB O o) (hn : n ≤ 300) (hn0 : F 57 33 = nI n) (hC : MB F A b) (hk : bk o n b) (hQ : ∀ F' A', frG F F' A A' → MB F' A' (its O o n mt n b) → Q none (HS F' A' rf lo X)) : PM Γ mX11_readItems [.ref 57, .int (bI mt)] (HS F A rf lo X) 0 0 Q := by
  refine PM.go (l := [_, _, .float 0, .float 0, .float 0, .float 0]) rfl rfl (Nat.le_of_ble_eq_true rfl) rfl ?_
  exact mi_all hO ho hB hn hn0 n b F A _ _ _ _ rfl rfl rfl rfl (fun _ => Nat.sub_le _ _) frG_r hC hk hQ
end
