/-! PREFIX: the reference's findLengths, findCodes -/
section
variable {Γ : Nat × (Nat → Int32)} {F A : Nat → Nat → Int32} {rf : Nat} {lo : Int64} {X : PH} {Q : Option Value → PH → Prop} {c : Nat → Nat} {N : Nat}
theorem knz_y {e : Nat → Nat} {z : Nat} (h : 0 < e z) : knz e (z + 1) = knz e z + 1 := by
  show knz e z + (if 0 < e z then 1 else 0) = _
  rw [if_pos h]
theorem knz_n {e : Nat → Nat} {z : Nat} (h : ¬ 0 < e z) : knz e (z + 1) = knz e z := by
  show knz e z + (if 0 < e z then 1 else 0) = _
  rw [if_neg h, Nat.add_zero]
theorem fl1_loop {x1 : Int32} (hcl : ∀ b, b < 256 → c b ≤ 300) (h66 : ∀ b, b < 256 → A 66 b = nI (c b)) : ∀ (k b : Nat) (A' : Nat → Nat → Int32), b + k = 256 → (∀ i, ¬ i = 69 → ¬ i = 70 → A' i = A i) → (∀ x, x < b → 0 < c x → A' 69 (knz c x) = nI (c x) ∧ A' 70 (knz c x) = -1) →
    (∀ A', (∀ i, ¬ i = 69 → ¬ i = 70 → A' i = A i) → (∀ x, x < 256 → 0 < c x → A' 69 (knz c x) = nI (c x) ∧ A' 70 (knz c x) = -1) → PW Γ mX11_findLengths 48 [.ref 57, .int x1, .int (nI (lk c)), .int (nI 256), .float 0, .float 0] [] (HS F A' rf lo X) 0 0 Q) →
    PW Γ mX11_findLengths 4 [.ref 57, .int x1, .int (nI (knz c b)), .int (nI b), .float 0, .float 0] [] (HS F A' rf lo X) 0 0 Q := by
  intro k
  induction k with
  | zero =>
    intro b A' hb hA hI hk
    have hb2 : b = 256 := by omega
    subst hb2
    refine pw_iload_n rfl dX11_findLengths_4 ?_
    refine pw_sipush 256 (by decide) dX11_findLengths_5 ?_
    refine pw_icmp_ge 48 dX11_findLengths_8 (by decide) (fun _ => ?_) (fun q => absurd (by decide) q)
    rw [← lk_knz]
    exact hk A' hA hI
  | succ k ih =>
    intro b A' hb hA hI hk
    have hkn := knz_le c b
    have hcb := hcl b (by omega)
    refine pw_iload_n rfl dX11_findLengths_4 ?_
    refine pw_sipush 256 (by decide) dX11_findLengths_5 ?_
    refine pw_icmp_ge 48 dX11_findLengths_8 (by decide) (fun q => absurd q (nI_ge (b := 256) (by omega) (by omega))) (fun _ => ?_)
    refine pw_aload_n rfl dX11_findLengths_11 ?_
    refine pw_gC dX11_findLengths_12 fX11_34 (by first | rfl | assumption) rfl (by first | rfl | assumption) ?_
    refine pw_iload_n rfl dX11_findLengths_15 ?_
    refine pw_aI dX11_findLengths_16 (by first | rfl | assumption) (by first | assumption | exact vp_in_nI (by omega) (by omega)) ?_
    rw [nI_clamp (by omega), hA 66 (by decide) (by decide), h66 b (by omega)]
    by_cases h : 0 < c b
    · refine pw_if_le 42 dX11_findLengths_17 (by decide) (fun q => absurd q (nI_ge (a := 0) h (by omega))) (fun _ => ?_)
      refine pw_aload_n rfl dX11_findLengths_20 ?_
      refine pw_gC dX11_findLengths_21 fX11_43 (by first | rfl | assumption) rfl (by first | rfl | assumption) ?_
      refine pw_iload_n rfl dX11_findLengths_24 ?_
      refine pw_aload_n rfl dX11_findLengths_25 ?_
      refine pw_gC dX11_findLengths_26 fX11_34 (by first | rfl | assumption) rfl (by first | rfl | assumption) ?_
      refine pw_iload_n rfl dX11_findLengths_29 ?_
      refine pw_aI dX11_findLengths_30 (by first | rfl | assumption) (by first | assumption | exact vp_in_nI (by omega) (by omega)) ?_
      rw [nI_clamp (by omega), hA 66 (by decide) (by decide), h66 b (by omega)]
      refine pw_sI dX11_findLengths_31 (by first | rfl | assumption) (by first | assumption | exact vp_in_nI (by omega) (by omega)) ?_
      refine pw_aload_n rfl dX11_findLengths_32 ?_
      refine pw_gC dX11_findLengths_33 fX11_46 (by first | rfl | assumption) rfl (by first | rfl | assumption) ?_
      refine pw_iload_n rfl dX11_findLengths_36 ?_
      refine pw_iconst (-1) (by decide) dX11_findLengths_37 ?_
      refine pw_sI dX11_findLengths_38 (by first | rfl | assumption) (by first | assumption | exact vp_in_nI (by omega) (by omega)) ?_
      refine ps_iinc (l' := [_, _, _, _, _, _]) 1 dX11_findLengths_39 (by decide) rfl (by decide) rfl rfl ?_
      refine ps_iinc (l' := [_, _, _, _, _, _]) 1 dX11_findLengths_42 (by decide) rfl (by decide) rfl rfl ?_
      refine pw_goto 4 dX11_findLengths_45 (by decide) ?_
      rw [nI_1, nI_1, ← knz_y h, nI_clamp (by omega), stA_n (by decide)]
      refine ih (b + 1) _ (by omega) (fun i k1 k2 => by rw [stA_n k2, stA_n k1]; exact hA i k1 k2) (fun x hx hx0 => ?_) hk
      rw [stA_n (by decide), stA_s, stA_s]
      by_cases hxb : x = b
      · rw [hxb, upd_s, upd_s]
        exact ⟨rfl, rfl⟩
      · have hne : ¬ knz c x = knz c b := fun h9 => hxb (knz_inj hx0 h h9)
        rw [upd_n hne, upd_n hne]
        exact hI x (by omega) hx0
    · refine pw_if_le 42 dX11_findLengths_17 (by decide) (fun _ => ?_) (fun q => absurd (nI_le (b := 0) (by omega) (by omega)) q)
      refine ps_iinc (l' := [_, _, _, _, _, _]) 1 dX11_findLengths_42 (by decide) rfl (by decide) rfl rfl ?_
      refine pw_goto 4 dX11_findLengths_45 (by decide) ?_
      rw [nI_1, ← knz_n h]
      refine ih (b + 1) A' (by omega) hA (fun x hx hx0 => ?_) hk
      by_cases hxb : x = b
      · rw [hxb] at hx0; exact absurd hx0 h
      · exact hI x (by omega) hx0
/-- the reference's rows hold the state of the two lines -/
def MS (A : Nat → Nat → Int32) (c : Nat → Nat) (m : Nat) (s : TQ) : Prop := (∀ t, t < lk c + m → A 69 (ph c t) = nI (s.1 t)) ∧ (∀ t, t < lk c + m → fr (lk c) (lk c + m) s.2.2.1 s.2.2.2 t → A 70 (ph c t) = -1) ∧ (∀ t, t < lk c + m → ¬ fr (lk c) (lk c + m) s.2.2.1 s.2.2.2 t → A 70 (ph c t) = nI (s.2.1 t))
theorem fl2_loop (h : HC c N) (hN : N ≤ 300) : ∀ (n m : Nat) (A' : Nat → Nat → Int32) (g4 g5 : Value), g4.category = 1 → g5.category = 1 → m + n + 1 = lk c → (∀ i, ¬ i = 69 → ¬ i = 70 → A' i = A i) → MS A' c m (tq (lk c) (lw c) m) →
    (∀ A' g4 g5, g4.category = 1 → g5.category = 1 → (∀ i, ¬ i = 69 → ¬ i = 70 → A' i = A i) → MS A' c (lk c - 1) (hT c) → PW Γ mX11_findLengths 125 [.ref 57, .int (nI (lk c)), .int (nI (2 * lk c - 1)), .int (nI 1), g4, g5] [] (HS F A' rf lo X) 0 0 Q) →
    PW Γ mX11_findLengths 50 [.ref 57, .int (nI (lk c)), .int (nI (lk c + m)), .int (nI (n + 1)), g4, g5] [] (HS F A' rf lo X) 0 0 Q := by
  have hk256 := lk_le c
  intro n
  induction n with
  | zero =>
    intro m A' g4 g5 hg4 hg5 hm hA hM hk
    have hm2 : m = lk c - 1 := by omega
    subst hm2
    refine pw_iload_n rfl dX11_findLengths_50 ?_
    refine pw_iconst 1 (by decide) dX11_findLengths_51 ?_
    refine pw_icmp_le 125 dX11_findLengths_52 (by decide) (fun _ => ?_) (fun q => absurd (by decide) q)
    have := hk A' g4 g5 hg4 hg5 hA hM
    rw [show 2 * lk c - 1 = lk c + (lk c - 1) by omega] at this
    exact this
  | succ n ih =>
    intro m A' g4 g5 hg4 hg5 hm hA hM hk
    obtain ⟨s1, s2, s3⟩ := id hM
    obtain ⟨y, H, ⟨⟨a1, a2, a3, a4⟩, b1, c1, _, _, f1, _⟩⟩ := TI_all lw_le lw_pos (lw_sum h) m (by omega)
    have hW := tq_W lw_le lw_pos (lw_sum h) m (by omega)
    have hnext : tq (lk c) (lw c) (m + 1) = tqS (lk c) (lk c + m) (tq (lk c) (lw c) m) := rfl
    have ihm := ih (m + 1)
    rw [hnext] at ihm
    clear hnext ih
    generalize tq (lk c) (lw c) m = s at *
    obtain ⟨W, par, p, q⟩ := s
    dsimp only at s1 s2 s3 a1 a2 a3 a4 b1 c1 f1 hW
    have hW3 : ∀ t, t < lk c + m → W t ≤ 300 := fun t ht => Nat.le_trans (hW t ht) hN
    have hlx : ∀ s t, s < t → t < lk c → W s < W t ∨ (W s = W t ∧ ph c s < ph c t) := by
      intro s t k1 k2
      rw [b1 s (by omega), b1 t k2]
      exact ph_lx s t k1 k2
    -- the weights by the reference's numbers
    obtain ⟨w, hw⟩ : ∃ w : Nat → Nat, ∀ t, t < lk c + m → w (ph c t) = W t := by
      refine ⟨fun u => (A' 69 u).toNatClampNeg, fun t ht => ?_⟩
      have := hW3 t ht
      show (A' 69 (ph c t)).toNatClampNeg = W t
      rw [s1 t ht, nI_clamp (by omega)]
    have hwA : ∀ u, u < lk c + m → A' 69 u = nI (w u) ∧ w u ≤ 300 := by
      intro u hu
      obtain ⟨t, ht, rfl⟩ := ph_sur hu
      rw [hw t ht]
      exact ⟨s1 t ht, hW3 t ht⟩
    have hneg : ∀ t, t < lk c + m → (A' 70 (ph c t) < 0 ↔ fr (lk c) (lk c + m) p q t) := by
      intro t ht
      by_cases hf : fr (lk c) (lk c + m) p q t
      · rw [s2 t ht hf]
        exact ⟨fun _ => hf, fun _ => by decide⟩
      · rw [s3 t ht hf]
        have := (f1 t ht hf).2.2.1
        exact ⟨fun h9 => absurd h9 (nI_pos (by omega)), fun h9 => absurd h9 hf⟩
    have frl : ∀ {p q t : Nat}, fr (lk c) (lk c + m) p q t → t < lk c + m := by
      intro p q t h9
      unfold fr at h9
      omega
    obtain ⟨u1, u2, u3, u4, u5, u9, u10, u6⟩ := tq_take (W := W) a1 a2 a3 (by omega)
    obtain ⟨x1, x2, x3, x4, x5, x9, x10, x6⟩ := tq_take (W := W) u2 u3 u4 (by omega)
    have v1 := tq_min (W := W) (φ := ph c) a2 (by omega) hlx c1 (fun t k1 => ph_lt k1) (fun t k1 => ph_ge k1) (p := p)
    have v2 := tq_min (W := W) (φ := ph c) u3 (by omega) hlx c1 (fun t k1 => ph_lt k1) (fun t k1 => ph_ge k1) (p := tqP (lk c) W (lk c + m) p q)
    have hS : tqS (lk c) (lk c + m) (W, par, p, q) = (updN W (lk c + m) (W (tqI (lk c) W (lk c + m) p q) + W (tqI (lk c) W (lk c + m) (tqP (lk c) W (lk c + m) p q) (tqQ (lk c) W (lk c + m) p q))), updN (updN par (tqI (lk c) W (lk c + m) p q) (lk c + m)) (tqI (lk c) W (lk c + m) (tqP (lk c) W (lk c + m) p q) (tqQ (lk c) W (lk c + m) p q)) (lk c + m), tqP (lk c) W (lk c + m) (tqP (lk c) W (lk c + m) p q) (tqQ (lk c) W (lk c + m) p q), tqQ (lk c) W (lk c + m) (tqP (lk c) W (lk c + m) p q) (tqQ (lk c) W (lk c + m) p q)) := rfl
    rw [hS] at ihm
    clear hS
    generalize tqI (lk c) W (lk c + m) (tqP (lk c) W (lk c + m) p q) (tqQ (lk c) W (lk c + m) p q) = j at *
    generalize tqP (lk c) W (lk c + m) (tqP (lk c) W (lk c + m) p q) (tqQ (lk c) W (lk c + m) p q) = p2 at *
    generalize tqQ (lk c) W (lk c + m) (tqP (lk c) W (lk c + m) p q) (tqQ (lk c) W (lk c + m) p q) = q2 at *
    generalize tqI (lk c) W (lk c + m) p q = i at *
    generalize tqP (lk c) W (lk c + m) p q = p1 at *
    generalize tqQ (lk c) W (lk c + m) p q = q1 at *
    have hi := frl u1
    have hj := frl x1
    have hpi := ph_b hi
    have hpj := ph_b hj
    refine pw_iload_n rfl dX11_findLengths_50 ?_
    refine pw_iconst 1 (by decide) dX11_findLengths_51 ?_
    refine pw_icmp_le 125 dX11_findLengths_52 (by decide) (fun q => absurd q (nI_ge (a := 1) (by omega) (by omega))) (fun _ => ?_)
    refine pw_aload_n rfl dX11_findLengths_55 ?_
    refine pw_iload_n rfl dX11_findLengths_56 ?_
    refine pw_iconst (-1) (by decide) dX11_findLengths_57 ?_
    refine pc_V2 dX11_findLengths_58 lX11_152 rfl rfl (by decide) (Nat.le_of_ble_eq_true rfl) ?_
    refine m_least (x := ph c i) (w := w) (B := fun u => A' 70 u < 0 ∧ ¬ nI u = -1) (by omega) hwA (fun u hu => Iff.rfl) hpi ⟨(hneg i hi).mpr u1, nI_nm1 (by omega)⟩ ?_ ?_
    · intro u hu hBu
      obtain ⟨t, ht, rfl⟩ := ph_sur hu
      rw [hw i hi, hw t ht]
      exact v1 t ((hneg t ht).mp hBu.1)
    refine ps_istore (l' := [_, _, _, _, _, _]) dX11_findLengths_61 (by decide) rfl rfl ?_
    refine pw_aload_n rfl dX11_findLengths_63 ?_
    refine pw_iload_n rfl dX11_findLengths_64 ?_
    refine pw_iload rfl dX11_findLengths_65 ?_
    refine pc_V2 dX11_findLengths_67 lX11_152 rfl rfl (by decide) (Nat.le_of_ble_eq_true rfl) ?_
    refine m_least (x := ph c j) (w := w) (B := fun u => A' 70 u < 0 ∧ ¬ nI u = nI (ph c i)) (by omega) hwA (fun u hu => Iff.rfl) hpj ⟨(hneg j hj).mpr ((u6 j).mp x1).1, fun h9 => ((u6 j).mp x1).2 (ph_inj (nI_inj (by omega) (by omega) h9))⟩ ?_ ?_
    · intro u hu hBu
      obtain ⟨t, ht, rfl⟩ := ph_sur hu
      rw [hw j hj, hw t ht]
      refine v2 t ((u6 t).mpr ⟨(hneg t ht).mp hBu.1, fun h9 => hBu.2 (by rw [h9])⟩)
    refine ps_istore (l' := [_, _, _, _, _, _]) dX11_findLengths_70 (by decide) rfl rfl ?_
    refine pw_aload_n rfl dX11_findLengths_72 ?_
    refine pw_gC dX11_findLengths_73 fX11_43 (by first | rfl | assumption) rfl (by first | rfl | assumption) ?_
    refine pw_iload_n rfl dX11_findLengths_76 ?_
    refine pw_aload_n rfl dX11_findLengths_77 ?_
    refine pw_gC dX11_findLengths_78 fX11_43 (by first | rfl | assumption) rfl (by first | rfl | assumption) ?_
    refine pw_iload rfl dX11_findLengths_81 ?_
    refine pw_aI dX11_findLengths_83 (by first | rfl | assumption) (by first | assumption | exact vp_in_nI (by omega) (by omega)) ?_
    rw [nI_clamp (by omega), s1 i hi]
    refine pw_aload_n rfl dX11_findLengths_84 ?_
    refine pw_gC dX11_findLengths_85 fX11_43 (by first | rfl | assumption) rfl (by first | rfl | assumption) ?_
    refine pw_iload rfl dX11_findLengths_88 ?_
    refine pw_aI dX11_findLengths_90 (by first | rfl | assumption) (by first | assumption | exact vp_in_nI (by omega) (by omega)) ?_
    rw [nI_clamp (by omega), s1 j hj]
    refine pw_iadd dX11_findLengths_91 ?_
    rw [nI_add]
    refine pw_sI dX11_findLengths_92 (by first | rfl | assumption) (by first | assumption | exact vp_in_nI (by omega) (by omega)) ?_
    refine pw_aload_n rfl dX11_findLengths_93 ?_
    refine pw_gC dX11_findLengths_94 fX11_46 (by first | rfl | assumption) rfl (by first | rfl | assumption) ?_
    refine pw_iload_n rfl dX11_findLengths_97 ?_
    refine pw_iconst (-1) (by decide) dX11_findLengths_98 ?_
    refine pw_sI dX11_findLengths_99 (by first | rfl | assumption) (by first | assumption | exact vp_in_nI (by omega) (by omega)) ?_
    refine pw_aload_n rfl dX11_findLengths_100 ?_
    refine pw_gC dX11_findLengths_101 fX11_46 (by first | rfl | assumption) rfl (by first | rfl | assumption) ?_
    refine pw_iload rfl dX11_findLengths_104 ?_
    refine pw_iload_n rfl dX11_findLengths_106 ?_
    refine pw_sI dX11_findLengths_107 (by first | rfl | assumption) (by first | assumption | exact vp_in_nI (by omega) (by omega)) ?_
    refine pw_aload_n rfl dX11_findLengths_108 ?_
    refine pw_gC dX11_findLengths_109 fX11_46 (by first | rfl | assumption) rfl (by first | rfl | assumption) ?_
    refine pw_iload rfl dX11_findLengths_112 ?_
    refine pw_iload_n rfl dX11_findLengths_114 ?_
    refine pw_sI dX11_findLengths_115 (by first | rfl | assumption) (by first | assumption | exact vp_in_nI (by omega) (by omega)) ?_
    rw [nI_clamp (by omega), nI_clamp (by omega), nI_clamp (by omega), stA_n (by decide), stA_s, stA_s]
    refine ps_iinc (l' := [_, _, _, _, _, _]) 1 dX11_findLengths_116 (by decide) rfl (by decide) rfl rfl ?_
    refine ps_iinc (l' := [_, _, _, _, _, _]) (-1) dX11_findLengths_119 (by decide) rfl (by decide) rfl rfl ?_
    refine pw_goto 50 dX11_findLengths_122 (by decide) ?_
    rw [nI_1, show nI (n + 1 + 1) + (-1) = nI (n + 1) by rw [add_m1]; exact pk_sub (a := n + 1 + 1) (b := 1) (by omega)]
    refine ihm _ _ _ rfl rfl (by omega) (fun a k1 k2 => by rw [stA_n k2, stA_n k2, stA_n k2, stA_n k1]; exact hA a k1 k2) ⟨fun t ht => ?_, fun t ht hf => ?_, fun t ht hf => ?_⟩ hk
    · dsimp only
      rw [stA_n (by decide), stA_n (by decide), stA_n (by decide), stA_s]
      by_cases h1 : t = lk c + m
      · rw [h1, updN_s, ph_ge (by omega), upd_s]
      · have := ph_b (c := c) (t := t) (m := m) (by omega)
        rw [updN_n h1, upd_n (by omega)]
        exact s1 t (by omega)
    · dsimp only at hf ⊢
      rw [stA_s]
      have hne : ∀ z, z < lk c + m → ¬ fr (lk c) (lk c + (m + 1)) p2 q2 z → ¬ ph c t = ph c z := fun z _ h8 h9 => h8 (by rw [← ph_inj h9]; exact hf)
      have hni : ¬ ph c t = ph c i := by
        refine hne i hi (fun h8 => ?_)
        have h7 : fr (lk c) (lk c + m) p2 q2 i := by unfold fr at h8 ⊢; omega
        exact ((u6 i).mp ((x6 i).mp h7).1).2 rfl
      have hnj : ¬ ph c t = ph c j := by
        refine hne j hj (fun h8 => ?_)
        have h7 : fr (lk c) (lk c + m) p2 q2 j := by unfold fr at h8 ⊢; omega
        exact ((x6 j).mp h7).2 rfl
      rw [upd_n hnj, upd_n hni]
      by_cases h1 : t = lk c + m
      · rw [h1, ph_ge (by omega), upd_s]
      · have := ph_b (c := c) (t := t) (m := m) (by omega)
        rw [upd_n (by omega)]
        refine s2 t (by omega) ?_
        have h7 : fr (lk c) (lk c + m) p2 q2 t := by unfold fr at hf ⊢; omega
        exact ((u6 t).mp ((x6 t).mp h7).1).1
    · dsimp only at hf ⊢
      rw [stA_s]
      have ht1 : ¬ t = lk c + m := by
        intro h1
        apply hf
        unfold fr
        omega
      have hpt := ph_b (c := c) (t := t) (m := m) (by omega)
      by_cases h2 : t = j
      · rw [h2, upd_s, updN_s]
      · rw [upd_n (fun h9 => h2 (ph_inj h9)), updN_n h2]
        by_cases h3 : t = i
        · rw [h3, upd_s, updN_s]
        · rw [upd_n (fun h9 => h3 (ph_inj h9)), updN_n h3, upd_n (by omega)]
          refine s3 t (by omega) ?_
          intro h4
          apply hf
          have h5 := (x6 t).mpr ⟨(u6 t).mpr ⟨h4, h3⟩, h2⟩
          unfold fr at h5 ⊢
          omega
/-- going up from a tree: its depth -/
theorem up_loop {b t0 : Nat} {x2 x1 x3 : Int32} (h : HC c N) (hN : N ≤ 300) (hk : 1 < lk c) (hb : b < 256) (hM : ∀ t, t < 2 * lk c - 1 → A 70 (ph c t) = if t = 2 * lk c - 2 then -1 else nI ((hT c).2.1 t)) (ht0 : t0 ≤ 2 * lk c - 2) : ∀ (n x : Nat) (g : Nat → Int32), 2 * lk c - 2 - x ≤ n → x ≤ 2 * lk c - 2 → hD c x ≤ hD c t0 → g b = nI (hD c t0 - hD c x) →
    (∀ g', (∀ j, ¬ j = b → g' j = g j) → g' b = nI (hD c t0) → PW Γ mX11_findLengths 192 [.ref 57, .int x1, .int x2, .int x3, .int (nI b), .int (-1)] [] (HS F (stA A 67 g') rf lo X) 0 0 Q) →
    PW Γ mX11_findLengths 164 [.ref 57, .int x1, .int x2, .int x3, .int (nI b), .int (A 70 (ph c x))] [] (HS F (stA A 67 g) rf lo X) 0 0 Q := by
  have hk256 := lk_le c
  have root : ∀ (x : Nat) (g : Nat → Int32), x = 2 * lk c - 2 → hD c x ≤ hD c t0 → g b = nI (hD c t0 - hD c x) → (∀ g', (∀ j, ¬ j = b → g' j = g j) → g' b = nI (hD c t0) → PW Γ mX11_findLengths 192 [.ref 57, .int x1, .int x2, .int x3, .int (nI b), .int (-1)] [] (HS F (stA A 67 g') rf lo X) 0 0 Q) →
      PW Γ mX11_findLengths 164 [.ref 57, .int x1, .int x2, .int x3, .int (nI b), .int (A 70 (ph c x))] [] (HS F (stA A 67 g) rf lo X) 0 0 Q := by
    intro x g hx hle hg hq
    subst hx
    rw [hM _ (by omega), if_pos rfl]
    refine pw_iload rfl dX11_findLengths_164 ?_
    refine pw_if_lt 192 dX11_findLengths_166 (by decide) (fun _ => ?_) (fun q => absurd (by decide) q)
    refine hq g (fun _ _ => rfl) ?_
    rw [hg, show hD c (2 * lk c - 2) = 0 from dep_root, Nat.sub_zero]
  intro n
  induction n with
  | zero =>
    intro x g hn hx hle hg hq
    exact root x g (by omega) hle hg hq
  | succ n ih =>
    intro x g hn hx hle hg hq
    by_cases hxr : x = 2 * lk c - 2
    · exact root x g hxr hle hg hq
    · obtain ⟨H, hp, _⟩ := hT_par h hk
      obtain ⟨k1, k2, k3, _⟩ := hp x (by omega)
      have hds := hD_step h hk (t := x) (by omega)
      have hdl := hD_le h hN hk ht0
      rw [hM x (by omega), if_neg hxr]
      refine pw_iload rfl dX11_findLengths_164 ?_
      refine pw_if_lt 192 dX11_findLengths_166 (by decide) (fun q => absurd q (nI_pos (by omega))) (fun _ => ?_)
      refine pw_aload_n rfl dX11_findLengths_169 ?_
      refine pw_gC dX11_findLengths_170 fX11_37 (by first | rfl | assumption) rfl (by first | rfl | assumption) ?_
      refine pw_iload rfl dX11_findLengths_173 ?_
      refine pw_dup2 rfl rfl dX11_findLengths_175 ?_
      refine pw_aI dX11_findLengths_176 (by first | rfl | assumption) (by first | assumption | exact vp_in_nI (by omega) (by omega)) ?_
      rw [stA_s, nI_clamp (by omega), hg]
      refine pw_iconst 1 (by decide) dX11_findLengths_177 ?_
      refine pw_iadd dX11_findLengths_178 ?_
      rw [nI_1]
      refine pw_sI dX11_findLengths_179 (by first | rfl | assumption) (by first | assumption | exact vp_in_nI (by omega) (by omega)) ?_
      refine pw_aload_n rfl dX11_findLengths_180 ?_
      refine pw_gC dX11_findLengths_181 fX11_46 (by first | rfl | assumption) rfl (by first | rfl | assumption) ?_
      refine pw_iload rfl dX11_findLengths_184 ?_
      refine pw_aI dX11_findLengths_186 (by first | rfl | assumption) (by first | assumption | exact vp_in_nI (by omega) (by omega)) ?_
      rw [nI_clamp (by omega), stA_stA, stA_n (by decide)]
      refine ps_istore (l' := [_, _, _, _, _, _]) dX11_findLengths_187 (by decide) rfl rfl ?_
      refine pw_goto 164 dX11_findLengths_189 (by decide) ?_
      rw [stA_s, nI_clamp (by omega), show A 70 ((hT c).2.1 x) = A 70 (ph c ((hT c).2.1 x)) by rw [ph_ge k1]]
      refine ih ((hT c).2.1 x) _ (by omega) k3 (by omega) ?_ ?_
      · rw [upd_s, show hD c t0 - hD c x + 1 = hD c t0 - hD c ((hT c).2.1 x) by omega]
      · intro g' hg1 hg2
        exact hq g' (fun j hj => by rw [hg1 j hj, upd_n hj]) hg2
theorem fl3_loop {x2 : Int32} (h : HC c N) (hN : N ≤ 300) (hk0 : 0 < lk c) (h66 : ∀ b, b < 256 → A 66 b = nI (c b)) (hM : ∀ t, t < 2 * lk c - 1 → A 70 (ph c t) = if t = 2 * lk c - 2 then -1 else nI ((hT c).2.1 t)) : ∀ (k b : Nat) (g : Nat → Int32) (y : Value), y.category = 1 → b + k = 256 → (∀ x, x < b → g x = nI (hl c x)) →
    (∀ g, (∀ x, x < 256 → g x = nI (hl c x)) → Q none (HS F (stA A 67 g) rf lo X)) →
    PW Γ mX11_findLengths 130 [.ref 57, .int (nI (lk c)), .int x2, .int (nI (knz c b)), .int (nI b), y] [] (HS F (stA A 67 g) rf lo X) 0 0 Q := by
  have hk256 := lk_le c
  intro k
  induction k with
  | zero =>
    intro b g y hy hb hI hq
    have hb2 : b = 256 := by omega
    subst hb2
    refine pw_iload rfl dX11_findLengths_130 ?_
    refine pw_sipush 256 (by decide) dX11_findLengths_132 ?_
    refine pw_icmp_ge 224 dX11_findLengths_135 (by decide) (fun _ => ?_) (fun q => absurd (by decide) q)
    refine pw_vret dX11_findLengths_224 rfl ?_
    exact hq g hI
  | succ k ih =>
    intro b g y hy hb hI hq
    have hcb := HC_le h (show b < 256 by omega)
    have hkb := knz_le c b
    refine pw_iload rfl dX11_findLengths_130 ?_
    refine pw_sipush 256 (by decide) dX11_findLengths_132 ?_
    refine pw_icmp_ge 224 dX11_findLengths_135 (by decide) (fun q => absurd q (nI_ge (b := 256) (by omega) (by omega))) (fun _ => ?_)
    refine pw_aload_n rfl dX11_findLengths_138 ?_
    refine pw_gC dX11_findLengths_139 fX11_37 (by first | rfl | assumption) rfl (by first | rfl | assumption) ?_
    refine pw_iload rfl dX11_findLengths_142 ?_
    refine pw_iconst 0 (by decide) dX11_findLengths_144 ?_
    refine pw_sI dX11_findLengths_145 (by first | rfl | assumption) (by first | assumption | exact vp_in_nI (by omega) (by omega)) ?_
    refine pw_aload_n rfl dX11_findLengths_146 ?_
    refine pw_gC dX11_findLengths_147 fX11_34 (by first | rfl | assumption) rfl (by first | rfl | assumption) ?_
    refine pw_iload rfl dX11_findLengths_150 ?_
    refine pw_aI dX11_findLengths_152 (by first | rfl | assumption) (by first | assumption | exact vp_in_nI (by omega) (by omega)) ?_
    rw [stA_s, stA_stA, stA_n (by decide), nI_clamp (by omega), h66 b (by omega)]
    by_cases h0 : 0 < c b
    · obtain ⟨t0, ht, htb⟩ := la_sur (show b < 256 by omega) h0
      have hph : ph c t0 = knz c b := by unfold ph; rw [if_pos ht, htb]
      have hhl := hl_la ht
      rw [htb] at hhl
      refine pw_if_le 218 dX11_findLengths_153 (by decide) (fun q => absurd q (nI_ge (a := 0) h0 (by omega))) (fun _ => ?_)
      refine pw_aload_n rfl dX11_findLengths_156 ?_
      refine pw_gC dX11_findLengths_157 fX11_46 (by first | rfl | assumption) rfl (by first | rfl | assumption) ?_
      refine pw_iload_n rfl dX11_findLengths_160 ?_
      refine pw_aI dX11_findLengths_161 (by first | rfl | assumption) (by first | assumption | exact vp_in_nI (by omega) (by omega)) ?_
      rw [nI_clamp (by omega), stA_n (by decide), ← hph]
      refine ps_istore (l' := [_, _, _, _, _, _]) dX11_findLengths_162 (by decide) rfl rfl ?_
      by_cases hk1 : lk c = 1
      · rw [hM t0 (by omega), if_pos (by omega)]
        refine pw_iload rfl dX11_findLengths_164 ?_
        refine pw_if_lt 192 dX11_findLengths_166 (by decide) (fun _ => ?_) (fun q => absurd (by decide) q)
        rw [hph]
        refine pw_aload_n rfl dX11_findLengths_192 ?_
        refine pw_gC dX11_findLengths_193 fX11_37 (by first | rfl | assumption) rfl (by first | rfl | assumption) ?_
        refine pw_iload rfl dX11_findLengths_196 ?_
        refine pw_iload_n rfl dX11_findLengths_198 ?_
        refine pw_iconst 1 (by decide) dX11_findLengths_199 ?_
        refine pw_icmp_ne 207 dX11_findLengths_200 (by decide) (fun q => absurd (show nI (lk c) = 1 by rw [hk1]; rfl) q) (fun _ => ?_)
        refine pw_iconst 1 (by decide) dX11_findLengths_203 ?_
        refine pw_goto 214 dX11_findLengths_204 (by decide) ?_
        refine pw_sI dX11_findLengths_214 (by first | rfl | assumption) (by first | assumption | exact vp_in_nI (by omega) (by omega)) ?_
        refine ps_iinc (l' := [_, _, _, _, _, _]) 1 dX11_findLengths_215 (by decide) rfl (by decide) rfl rfl ?_
        refine ps_iinc (l' := [_, _, _, _, _, _]) 1 dX11_findLengths_218 (by decide) rfl (by decide) rfl rfl ?_
        refine pw_goto 130 dX11_findLengths_221 (by decide) ?_
        rw [nI_1, nI_1, ← knz_y h0, stA_s, stA_stA, nI_clamp (by omega)]
        refine ih (b + 1) _ (.int (-1)) rfl (by omega) (fun x hx => ?_) hq
        by_cases hxb : x = b
        · rw [hxb, upd_s, hhl, if_pos hk1]; rfl
        · rw [upd_n hxb, upd_n hxb]; exact hI x (by omega)
      · rw [if_neg hk1] at hhl
        refine up_loop h hN (by omega) (by omega) hM (t0 := t0) (by omega) (2 * lk c - 2) t0 _ (by omega) (by omega) (Nat.le_refl _) ?_ ?_
        · rw [upd_s, Nat.sub_self]; rfl
        · intro g' hg1 hg2
          rw [hph]
          refine pw_aload_n rfl dX11_findLengths_192 ?_
          refine pw_gC dX11_findLengths_193 fX11_37 (by first | rfl | assumption) rfl (by first | rfl | assumption) ?_
          refine pw_iload rfl dX11_findLengths_196 ?_
          refine pw_iload_n rfl dX11_findLengths_198 ?_
          refine pw_iconst 1 (by decide) dX11_findLengths_199 ?_
          refine pw_icmp_ne 207 dX11_findLengths_200 (by decide) (fun _ => ?_) (fun q => absurd q ((fun h9 => hk1 (nI_inj (b := 1) (by omega) (by omega) h9))))
          refine pw_aload_n rfl dX11_findLengths_207 ?_
          refine pw_gC dX11_findLengths_208 fX11_37 (by first | rfl | assumption) rfl (by first | rfl | assumption) ?_
          refine pw_iload rfl dX11_findLengths_211 ?_
          refine pw_aI dX11_findLengths_213 (by first | rfl | assumption) (by first | assumption | exact vp_in_nI (by omega) (by omega)) ?_
          rw [stA_s, nI_clamp (by omega), hg2]
          refine pw_sI dX11_findLengths_214 (by first | rfl | assumption) (by first | assumption | exact vp_in_nI (by omega) (by omega)) ?_
          refine ps_iinc (l' := [_, _, _, _, _, _]) 1 dX11_findLengths_215 (by decide) rfl (by decide) rfl rfl ?_
          refine ps_iinc (l' := [_, _, _, _, _, _]) 1 dX11_findLengths_218 (by decide) rfl (by decide) rfl rfl ?_
          refine pw_goto 130 dX11_findLengths_221 (by decide) ?_
          rw [nI_1, nI_1, ← knz_y h0, stA_s, stA_stA, nI_clamp (by omega)]
          refine ih (b + 1) _ (.int (-1)) rfl (by omega) (fun x hx => ?_) hq
          by_cases hxb : x = b
          · rw [hxb, upd_s, hhl]
          · rw [upd_n hxb, hg1 x hxb, upd_n hxb]; exact hI x (by omega)
    · refine pw_if_le 218 dX11_findLengths_153 (by decide) (fun _ => ?_) (fun q => absurd (nI_le (b := 0) (by omega) (by omega)) q)
      refine ps_iinc (l' := [_, _, _, _, _, _]) 1 dX11_findLengths_218 (by decide) rfl (by decide) rfl rfl ?_
      refine pw_goto 130 dX11_findLengths_221 (by decide) ?_
      rw [nI_1, ← knz_n h0]
      refine ih (b + 1) _ _ hy (by omega) (fun x hx => ?_) hq
      by_cases hxb : x = b
      · rw [hxb, upd_s, hl_no (by omega)]; rfl
      · rw [upd_n hxb]; exact hI x (by omega)
theorem m_findLengths (h : HC c N) (hN : N ≤ 300) (hk0 : 0 < lk c) (h66 : ∀ b, b < 256 → A 66 b = nI (c b))
    (hQ : ∀ A', (∀ i, ¬ i = 67 → ¬ i = 69 → ¬ i = 70 → A' i = A i) → (∀ b, b < 256 → A' 67 b = nI (hl c b)) → Q none (HS F A' rf lo X)) : PM Γ mX11_findLengths [.ref 57, .int (nI (lk c))] (HS F A rf lo X) 0 0 Q := by
  have hk256 := lk_le c
  have hTI := TI_all lw_le lw_pos (lw_sum h) (lk c - 1) (by omega)
  refine PM.go (l := [_, _, .float 0, .float 0, .float 0, .float 0]) rfl rfl (Nat.le_of_ble_eq_true rfl) rfl ?_
  refine pw_iconst 0 (by decide) dX11_findLengths_0 ?_
  refine ps_istore_n (l' := [_, _, _, _, _, _]) dX11_findLengths_1 (by decide) rfl rfl ?_
  refine pw_iconst 0 (by decide) dX11_findLengths_2 ?_
  refine ps_istore_n (l' := [_, _, _, _, _, _]) dX11_findLengths_3 (by decide) rfl rfl ?_
  refine fl1_loop (fun b hb => Nat.le_trans (HC_le h hb) hN) h66 256 0 A (by omega) (fun i _ _ => rfl) (fun x hx _ => by omega) ?_
  intro A1 hA1 hI1
  refine pw_iload_n rfl dX11_findLengths_48 ?_
  refine ps_istore_n (l' := [_, _, _, _, _, _]) dX11_findLengths_49 (by decide) rfl rfl ?_
  have e1 : nI (lk c) = nI (lk c - 1 + 1) := by rw [show lk c - 1 + 1 = lk c by omega]
  have hgo : PW Γ mX11_findLengths 50 [.ref 57, .int (nI (lk c)), .int (nI (lk c + 0)), .int (nI (lk c - 1 + 1)), .float 0, .float 0] [] (HS F A1 rf lo X) 0 0 Q := by
    refine fl2_loop (A := A1) h hN (lk c - 1) 0 A1 _ _ rfl rfl (by omega) (fun i _ _ => rfl) ⟨fun t ht => ?_, fun t ht hf => ?_, fun t ht hf => ?_⟩ ?_
    · have ht2 : t < lk c := ht
      have hm := la_mem ht2
      unfold ph
      rw [if_pos ht2]
      exact (hI1 _ hm.1 hm.2).1
    · have ht2 : t < lk c := ht
      have hm := la_mem ht2
      unfold ph
      rw [if_pos ht2]
      exact (hI1 _ hm.1 hm.2).2
    · exfalso
      apply hf
      unfold fr
      show (0 ≤ t ∧ t < lk c) ∨ (lk c ≤ t ∧ t < lk c + 0)
      omega
    · intro A2 g4 g5 hg4 hg5 hA2 hM2
      refine pw_iconst 0 (by decide) dX11_findLengths_125 ?_
      refine ps_istore_n (l' := [_, _, _, _, _, _]) dX11_findLengths_126 (by decide) rfl rfl ?_
      refine pw_iconst 0 (by decide) dX11_findLengths_127 ?_
      refine ps_istore (l' := [_, _, _, _, _, _]) dX11_findLengths_128 (by decide) rfl rfl ?_
      have hroot : ∀ t, fr (lk c) (lk c + (lk c - 1)) (hT c).2.2.1 (hT c).2.2.2 t ↔ t = 2 * lk c - 2 := by
        by_cases hk1 : 1 < lk c
        · obtain ⟨H, _, _, hf⟩ := hT_par h hk1
          exact hf
        · have hk2 : lk c = 1 := by omega
          have e2 : hT c = tq (lk c) (lw c) 0 := by
            unfold hT
            rw [show lk c - 1 = 0 by omega]
          intro t
          rw [e2]
          unfold fr
          show (0 ≤ t ∧ t < lk c) ∨ (lk c ≤ t ∧ t < lk c + (lk c - 1)) ↔ _
          omega
      have hM3 : ∀ t, t < 2 * lk c - 1 → A2 70 (ph c t) = if t = 2 * lk c - 2 then -1 else nI ((hT c).2.1 t) := by
        intro t ht
        by_cases htr : t = 2 * lk c - 2
        · rw [if_pos htr]
          exact hM2.2.1 t (by omega) ((hroot t).mpr htr)
        · rw [if_neg htr]
          exact hM2.2.2 t (by omega) (fun h9 => htr ((hroot t).mp h9))
      have e3 : HS F A2 rf lo X = HS F (stA A2 67 (A2 67)) rf lo X := by rw [stA_self rfl]
      rw [e3]
      refine fl3_loop (A := A2) h hN hk0 (fun b hb => by rw [hA2 66 (by decide) (by decide), hA1 66 (by decide) (by decide)]; exact h66 b hb) hM3 256 0 (A2 67) _ hg5 (by omega) (fun x hx => by omega) ?_
      intro g hg
      refine hQ _ (fun i k1 k2 k3 => by rw [stA_n k1, hA2 i k2 k3, hA1 i k2 k3]) (fun b hb => by rw [stA_s]; exact hg b hb)
  rw [← e1] at hgo
  exact hgo
end
