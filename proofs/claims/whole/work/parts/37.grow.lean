/-! PREFIX: the class's Tree: join, measure, grow -/
section
variable {Γ : Nat × (Nat → Int32)} {F A : Nat → Nat → Int32} {rf : Nat} {lo : Int64} {X : PH} {Q : Option Value → PH → Prop} {c : Nat → Nat} {N : Nat}
/-- the rows hold the state of the two lines -/
def JS (F A : Nat → Nat → Int32) (k m : Nat) (s : TQ) : Prop := F 23 4 = nI k ∧ F 23 5 = nI s.2.2.1 ∧ F 23 6 = nI s.2.2.2 ∧ (∀ t, t < k + m → A 24 t = nI (s.1 t)) ∧ (∀ t, t < k + m → ¬ fr k (k + m) s.2.2.1 s.2.2.2 t → A 25 t = nI (s.2.1 t))
theorem jn_loop (h : HC c N) (hN : N ≤ 300) (hk : 1 < lk c) : ∀ (n m : Nat) (F' A' : Nat → Nat → Int32) (g2 g3 : Value), g2.category = 1 → g3.category = 1 → m + n = lk c - 1 → (∀ i j, ¬ (i = 23 ∧ (j = 5 ∨ j = 6)) → F' i j = F i j) → (∀ i, ¬ i = 24 → ¬ i = 25 → A' i = A i) → JS F' A' (lk c) m (tq (lk c) (lw c) m) →
    (∀ F' A', (∀ i j, ¬ (i = 23 ∧ (j = 5 ∨ j = 6)) → F' i j = F i j) → (∀ i, ¬ i = 24 → ¬ i = 25 → A' i = A i) → JS F' A' (lk c) (lk c - 1) (hT c) → Q none (HS F' A' rf lo X)) →
    PW Γ mX8_join 18 [.ref 23, .int (nI (lk c + m)), g2, g3] [] (HS F' A' rf lo X) 0 0 Q := by
  have hk256 := lk_le c
  intro n
  induction n with
  | zero =>
    intro m F' A' g2 g3 hg2 hg3 hm hF hA hJ hq
    have hm2 : m = lk c - 1 := by omega
    subst hm2
    obtain ⟨s1, s2, s3, s4, s5⟩ := id hJ
    refine pw_iload_n rfl dX8_join_18 ?_
    refine pw_iconst 2 (by decide) dX8_join_19 ?_
    refine pw_aload_n rfl dX8_join_20 ?_
    refine pw_gI dX8_join_21 fX8_24 (by first | rfl | assumption) rfl ?_
    rw [s1, show (2 : Int32) = nI 2 from rfl]
    refine pw_imul dX8_join_24 ?_
    rw [pk_mul]
    refine pw_iconst 1 (by decide) dX8_join_25 ?_
    refine pw_isub dX8_join_26 ?_
    rw [show nI (2 * lk c) - 1 = nI (2 * lk c - 1) from pk_sub (b := 1) (by omega)]
    refine pw_icmp_ge 90 dX8_join_27 (by decide) (fun _ => ?_) (fun q => absurd (nI_le (by omega) (by omega)) q)
    refine pw_vret dX8_join_90 rfl ?_
    exact hq F' A' hF hA hJ
  | succ n ih =>
    intro m F' A' g2 g3 hg2 hg3 hm hF hA hJ hq
    obtain ⟨s1, s2, s3, s4, s5⟩ := id hJ
    obtain ⟨y, H, ⟨⟨a1, a2, a3, a4⟩, _, _, _, _, _, _⟩⟩ := TI_all lw_le lw_pos (lw_sum h) m (by omega)
    have hW := tq_W lw_le lw_pos (lw_sum h) m (by omega)
    have hnext : tq (lk c) (lw c) (m + 1) = tqS (lk c) (lk c + m) (tq (lk c) (lw c) m) := rfl
    have ihm := ih (m + 1)
    rw [hnext] at ihm
    clear hnext ih
    generalize tq (lk c) (lw c) m = s at *
    obtain ⟨W, par, p, q⟩ := s
    dsimp only at s1 s2 s3 s4 s5 a1 a2 a3 a4 hW
    have hW3 : ∀ t, t < lk c + m → W t ≤ 300 := fun t ht => Nat.le_trans (hW t ht) hN
    obtain ⟨u1, u2, u3, u4, u5, u9, u10, u6⟩ := tq_take (W := W) a1 a2 a3 (by omega)
    obtain ⟨x1, x2, x3, x4, x5, x9, x10, x6⟩ := tq_take (W := W) u2 u3 u4 (by omega)
    refine pw_iload_n rfl dX8_join_18 ?_
    refine pw_iconst 2 (by decide) dX8_join_19 ?_
    refine pw_aload_n rfl dX8_join_20 ?_
    refine pw_gI dX8_join_21 fX8_24 (by first | rfl | assumption) rfl ?_
    rw [s1, show (2 : Int32) = nI 2 from rfl]
    refine pw_imul dX8_join_24 ?_
    rw [pk_mul]
    refine pw_iconst 1 (by decide) dX8_join_25 ?_
    refine pw_isub dX8_join_26 ?_
    rw [show nI (2 * lk c) - 1 = nI (2 * lk c - 1) from pk_sub (b := 1) (by omega)]
    refine pw_icmp_ge 90 dX8_join_27 (by decide) (fun q => absurd q (nI_ge (by omega) (by omega))) (fun _ => ?_)
    refine pw_iload_n rfl dX8_join_30 ?_
    refine pw_aload_n rfl dX8_join_31 ?_
    refine pw_gC dX8_join_32 fX8_9 (by first | rfl | assumption) rfl (by first | rfl | assumption) ?_
    refine pw_lI (nI _) dX8_join_35 (by first | rfl | assumption) rfl ?_
    refine pw_icmp_ge 90 dX8_join_36 (by decide) (fun q => absurd q (nI_ge (b := 512) (by omega) (by omega))) (fun _ => ?_)
    refine pw_aload_n rfl dX8_join_39 ?_
    refine pw_iload_n rfl dX8_join_40 ?_
    refine pc_V1 dX8_join_41 lX8_54 rfl rfl (by decide) (Nat.le_of_ble_eq_true rfl) ?_
    refine c_takeLeast s1 s2 s3 a1 a2 a3 (by omega) (by omega) s4 hW3 ?_
    intro F1 hF1 f5 f6
    refine ps_istore_n (l' := [_, _, _, _]) dX8_join_44 (by decide) rfl rfl ?_
    refine pw_aload_n rfl dX8_join_45 ?_
    refine pw_iload_n rfl dX8_join_46 ?_
    refine pc_V1 dX8_join_47 lX8_54 rfl rfl (by decide) (Nat.le_of_ble_eq_true rfl) ?_
    refine c_takeLeast (by rw [hF1 _ _ (by omega)]; exact s1) f5 f6 u2 u3 u4 (by omega) (by omega) s4 hW3 ?_
    intro F2 hF2 f7 f8
    have hS : tqS (lk c) (lk c + m) (W, par, p, q) = (updN W (lk c + m) (W (tqI (lk c) W (lk c + m) p q) + W (tqI (lk c) W (lk c + m) (tqP (lk c) W (lk c + m) p q) (tqQ (lk c) W (lk c + m) p q))), updN (updN par (tqI (lk c) W (lk c + m) p q) (lk c + m)) (tqI (lk c) W (lk c + m) (tqP (lk c) W (lk c + m) p q) (tqQ (lk c) W (lk c + m) p q)) (lk c + m), tqP (lk c) W (lk c + m) (tqP (lk c) W (lk c + m) p q) (tqQ (lk c) W (lk c + m) p q), tqQ (lk c) W (lk c + m) (tqP (lk c) W (lk c + m) p q) (tqQ (lk c) W (lk c + m) p q)) := rfl
    rw [hS] at ihm
    clear hS
    generalize tqI (lk c) W (lk c + m) (tqP (lk c) W (lk c + m) p q) (tqQ (lk c) W (lk c + m) p q) = j at *
    generalize tqP (lk c) W (lk c + m) (tqP (lk c) W (lk c + m) p q) (tqQ (lk c) W (lk c + m) p q) = p2 at *
    generalize tqQ (lk c) W (lk c + m) (tqP (lk c) W (lk c + m) p q) (tqQ (lk c) W (lk c + m) p q) = q2 at *
    generalize tqI (lk c) W (lk c + m) p q = i at *
    generalize tqP (lk c) W (lk c + m) p q = p1 at *
    generalize tqQ (lk c) W (lk c + m) p q = q1 at *
    have hi : i < lk c + m := by unfold fr at u1; omega
    have hj : j < lk c + m := by unfold fr at x1; omega
    refine ps_istore_n (l' := [_, _, _, _]) dX8_join_50 (by decide) rfl rfl ?_
    refine pw_aload_n rfl dX8_join_51 ?_
    refine pw_gC dX8_join_52 fX8_9 (by first | rfl | assumption) rfl (by first | rfl | assumption) ?_
    refine pw_iload_n rfl dX8_join_55 ?_
    refine pw_aload_n rfl dX8_join_56 ?_
    refine pw_gC dX8_join_57 fX8_9 (by first | rfl | assumption) rfl (by first | rfl | assumption) ?_
    refine pw_iload_n rfl dX8_join_60 ?_
    refine pw_aI dX8_join_61 (by first | rfl | assumption) (by first | assumption | exact vp_in_nI (by omega) (by omega)) ?_
    rw [nI_clamp (by omega), s4 i hi]
    refine pw_aload_n rfl dX8_join_62 ?_
    refine pw_gC dX8_join_63 fX8_9 (by first | rfl | assumption) rfl (by first | rfl | assumption) ?_
    refine pw_iload_n rfl dX8_join_66 ?_
    refine pw_aI dX8_join_67 (by first | rfl | assumption) (by first | assumption | exact vp_in_nI (by omega) (by omega)) ?_
    rw [nI_clamp (by omega), s4 j hj]
    refine pw_iadd dX8_join_68 ?_
    rw [nI_add]
    refine pw_sI dX8_join_69 (by first | rfl | assumption) (by first | assumption | exact vp_in_nI (by omega) (by omega)) ?_
    refine pw_aload_n rfl dX8_join_70 ?_
    refine pw_gC dX8_join_71 fX8_15 (by first | rfl | assumption) rfl (by first | rfl | assumption) ?_
    refine pw_iload_n rfl dX8_join_74 ?_
    refine pw_iload_n rfl dX8_join_75 ?_
    refine pw_sI dX8_join_76 (by first | rfl | assumption) (by first | assumption | exact vp_in_nI (by omega) (by omega)) ?_
    refine pw_aload_n rfl dX8_join_77 ?_
    refine pw_gC dX8_join_78 fX8_15 (by first | rfl | assumption) rfl (by first | rfl | assumption) ?_
    refine pw_iload_n rfl dX8_join_81 ?_
    refine pw_iload_n rfl dX8_join_82 ?_
    refine pw_sI dX8_join_83 (by first | rfl | assumption) (by first | assumption | exact vp_in_nI (by omega) (by omega)) ?_
    rw [nI_clamp (by omega), nI_clamp (by omega), nI_clamp (by omega), stA_n (by decide), stA_s]
    refine ps_iinc (l' := [_, _, _, _]) 1 dX8_join_84 (by decide) rfl (by decide) rfl rfl ?_
    refine pw_goto 18 dX8_join_87 (by decide) ?_
    rw [nI_1]
    refine ihm _ _ _ _ rfl rfl (by omega) (fun a b hab => by rw [hF2 a b hab, hF1 a b hab]; exact hF a b hab) (fun a k1 k2 => by rw [stA_n k2, stA_n k2, stA_n k1]; exact hA a k1 k2) ⟨?_, f7, f8, fun t ht => ?_, fun t ht hnf => ?_⟩ hq
    · rw [hF2 _ _ (by omega), hF1 _ _ (by omega)]
      exact s1
    · rw [stA_n (by decide), stA_n (by decide), stA_s]
      dsimp only
      by_cases h1 : t = lk c + m
      · rw [h1, upd_s, updN_s]
      · rw [upd_n h1, updN_n h1]
        exact s4 t (by omega)
    · dsimp only at hnf ⊢
      rw [stA_s]
      have ht1 : ¬ t = lk c + m := by
        intro h1
        apply hnf
        unfold fr
        omega
      by_cases h2 : t = j
      · rw [h2, upd_s, updN_s]
      · rw [upd_n h2, updN_n h2]
        by_cases h3 : t = i
        · rw [h3, upd_s, updN_s]
        · rw [upd_n h3, updN_n h3]
          refine s5 t (by omega) ?_
          intro h4
          apply hnf
          have h5 := (x6 t).mpr ⟨(u6 t).mpr ⟨h4, h3⟩, h2⟩
          unfold fr at h5 ⊢
          omega
theorem c_join (h : HC c N) (hN : N ≤ 300) (hk : 1 < lk c) (h4 : F 23 4 = nI (lk c)) (hW : ∀ t, t < lk c → A 24 t = nI (lw c t))
    (hQ : ∀ F' A', (∀ i j, ¬ (i = 23 ∧ (j = 5 ∨ j = 6)) → F' i j = F i j) → (∀ i, ¬ i = 24 → ¬ i = 25 → A' i = A i) → JS F' A' (lk c) (lk c - 1) (hT c) → Q none (HS F' A' rf lo X)) : PM Γ mX8_join [.ref 23] (HS F A rf lo X) 0 0 Q := by
  refine PM.go (l := [_, .float 0, .float 0, .float 0]) rfl rfl (Nat.le_of_ble_eq_true rfl) rfl ?_
  refine pw_aload_n rfl dX8_join_0 ?_
  refine pw_iconst 0 (by decide) dX8_join_1 ?_
  refine pw_pI dX8_join_2 fX8_28 (by first | rfl | assumption) rfl ⟨rfl, rfl⟩ ?_
  refine pw_aload_n rfl dX8_join_5 ?_
  refine pw_aload_n rfl dX8_join_6 ?_
  refine pw_gI dX8_join_7 fX8_24 (by first | rfl | assumption) rfl ?_
  rw [upF_n (by omega), h4]
  refine pw_pI dX8_join_10 fX8_31 (by first | rfl | assumption) rfl ⟨rfl, rfl⟩ ?_
  refine pw_aload_n rfl dX8_join_13 ?_
  refine pw_gI dX8_join_14 fX8_24 (by first | rfl | assumption) rfl ?_
  rw [upF_n (by omega), upF_n (by omega), h4]
  refine ps_istore_n (l' := [_, _, _, _]) dX8_join_17 (by decide) rfl rfl ?_
  refine jn_loop h hN hk (lk c - 1) 0 _ A _ _ rfl rfl (by omega) (fun i j hij => by rw [upF_n (by omega), upF_n (by omega)]) (fun i _ _ => rfl) ⟨?_, ?_, ?_, hW, fun t ht hf => ?_⟩ hQ
  · rw [upF_n (by omega), upF_n (by omega)]; exact h4
  · rw [upF_n (by omega), upF_s]; rfl
  · rw [upF_s]; rfl
  · exfalso
    apply hf
    unfold fr
    show (0 ≤ t ∧ t < lk c) ∨ (lk c ≤ t ∧ t < lk c + 0)
    omega
/-- e has the LENGTHS of the trees from a on -/
def EL (c e : Nat → Nat) (a : Nat) : Prop := (∀ t, a ≤ t → t < lk c → e (la c t) = hD c t) ∧ (∀ b, (∀ t, a ≤ t → t < lk c → ¬ la c t = b) → e b = 0)
theorem EL_hl {e : Nat → Nat} (h : EL c e 0) (hk : 1 < lk c) : e = hl c := by
  funext b
  by_cases hb : ∃ t, t < lk c ∧ la c t = b
  · obtain ⟨t, h1, rfl⟩ := hb
    rw [h.1 t (Nat.zero_le _) h1, hl_la h1, if_neg (by omega)]
  · rw [h.2 b (fun t _ h2 h3 => hb ⟨t, h2, h3⟩), hl_no]
    intro h4
    exact hb (la_sur h4.1 h4.2)
theorem ms_loop (h : HC c N) (hN : N ≤ 300) (hk : 1 < lk c) : ∀ (t : Nat) (F' A' : Nat → Nat → Int32) (e : Nat → Nat), t ≤ 2 * lk c - 2 → (∀ i j, ¬ (i = 28 ∧ j = 5) → F' i j = F i j) → (∀ i, ¬ i = 26 → ¬ i = 29 → ¬ i = 32 → A' i = A i) → F 23 4 = nI (lk c) → (∀ t, t < 2 * lk c - 2 → A 25 t = nI ((hT c).2.1 t)) → (∀ t, t < lk c → A 27 t = nI (la c t)) → (∀ x, t ≤ x → x ≤ 2 * lk c - 2 → A' 26 x = nI (hD c x)) → PC F' A' 28 e → EL c e t →
    (∀ F' A', (∀ i j, ¬ (i = 28 ∧ j = 5) → F' i j = F i j) → (∀ i, ¬ i = 26 → ¬ i = 29 → ¬ i = 32 → A' i = A i) → PC F' A' 28 (hl c) → Q none (HS F' A' rf lo X)) →
    PW Γ mX8_measure 28 [.ref 23, .ref 28, .int (nI (2 * lk c - 2)), .int (nI t - 1)] [] (HS F' A' rf lo X) 0 0 Q := by
  have hk256 := lk_le c
  intro t
  induction t with
  | zero =>
    intro F' A' e ht hF hA h4 h25 h27 h26 hP hE hq
    refine pw_iload_n rfl dX8_measure_28 ?_
    refine pw_if_lt 89 dX8_measure_29 (by decide) (fun _ => ?_) (fun q => absurd (by decide) q)
    refine pw_vret dX8_measure_89 rfl ?_
    refine hq F' A' hF hA ?_
    rw [← EL_hl hE hk]
    exact hP
  | succ t ih =>
    intro F' A' e ht hF hA h4 h25 h27 h26 hP hE hq
    obtain ⟨H, hp, _⟩ := hT_par h hk
    have hpt := hp t (by omega)
    have hDp := hD_le h hN hk hpt.2.2.1
    have hDt := hD_step h hk (t := t) (by omega)
    have hDt2 := hD_le h hN hk (t := t) (by omega)
    rw [show nI (t + 1) - 1 = nI t from pk_sub (a := t + 1) (b := 1) (by omega)]
    refine pw_iload_n rfl dX8_measure_28 ?_
    refine pw_if_lt 89 dX8_measure_29 (by decide) (fun q => absurd q (nI_pos (by omega))) (fun _ => ?_)
    refine pw_aload_n rfl dX8_measure_32 ?_
    refine pw_gC dX8_measure_33 fX8_18 (by first | rfl | assumption) rfl (by first | rfl | assumption) ?_
    refine pw_iload_n rfl dX8_measure_36 ?_
    refine pw_aload_n rfl dX8_measure_37 ?_
    refine pw_gC dX8_measure_38 fX8_18 (by first | rfl | assumption) rfl (by first | rfl | assumption) ?_
    refine pw_aload_n rfl dX8_measure_41 ?_
    refine pw_gC dX8_measure_42 fX8_15 (by first | rfl | assumption) rfl (by first | rfl | assumption) ?_
    refine pw_iload_n rfl dX8_measure_45 ?_
    refine pw_aI dX8_measure_46 (by first | rfl | assumption) (by first | assumption | exact vp_in_nI (by omega) (by omega)) ?_
    rw [nI_clamp (by omega), hA 25 (by decide) (by decide) (by decide), h25 t (by omega)]
    refine pw_iconst 0 (by decide) dX8_measure_47 ?_
    refine pw_maxN ((hT c).2.1 t) 0 rfl rfl (by omega) (by omega) dX8_measure_48 lX8_64 (by decide) (Nat.le_of_ble_eq_true rfl) ?_
    rw [Nat.max_zero]
    refine pw_iload_n rfl dX8_measure_51 ?_
    refine pw_minN ((hT c).2.1 t) (2 * lk c - 2) rfl rfl (by omega) (by omega) dX8_measure_52 lX8_58 (by decide) (Nat.le_of_ble_eq_true rfl) ?_
    rw [Nat.min_eq_left hpt.2.2.1]
    refine pw_aI dX8_measure_55 (by first | rfl | assumption) (by first | assumption | exact vp_in_nI (by omega) (by omega)) ?_
    rw [nI_clamp (by omega), h26 _ (by omega) hpt.2.2.1]
    refine pw_iconst 1 (by decide) dX8_measure_56 ?_
    refine pw_iadd dX8_measure_57 ?_
    rw [nI_1, ← hDt]
    refine pw_sI dX8_measure_58 (by first | rfl | assumption) (by first | assumption | exact vp_in_nI (by omega) (by omega)) ?_
    refine pw_iload_n rfl dX8_measure_59 ?_
    refine pw_aload_n rfl dX8_measure_60 ?_
    refine pw_gI dX8_measure_61 fX8_24 (by first | rfl | assumption) rfl ?_
    rw [nI_clamp (by omega), hF 23 4 (by omega), h4]
    have h26' : ∀ x, t ≤ x → x ≤ 2 * lk c - 2 → stA A' 26 (upd (A' 26) t (nI (hD c t))) 26 x = nI (hD c x) := by
      intro x k1 k2
      rw [stA_s]
      by_cases hx : x = t
      · rw [hx, upd_s]
      · rw [upd_n hx]; exact h26 x (by omega) k2
    have hA' : ∀ i, ¬ i = 26 → ¬ i = 29 → ¬ i = 32 → stA A' 26 (upd (A' 26) t (nI (hD c t))) i = A i := fun i k1 k2 k3 => by rw [stA_n k1]; exact hA i k1 k2 k3
    obtain ⟨p1, p2, p3, p4, p5⟩ := id hP
    have hP' : PC F' (stA A' 26 (upd (A' 26) t (nI (hD c t)))) 28 e := ⟨fun b hb => by rw [stA_n (by decide)]; exact p1 b hb, p2, fun l k1 k2 => by rw [stA_n (by decide)]; exact p3 l k1 k2, by rw [stA_n (by decide)]; exact p4, p5⟩
    generalize stA A' 26 (upd (A' 26) t (nI (hD c t))) = A2 at *
    have hnx : (nI t + -1 : Int32) = nI t - 1 := add_m1 _
    by_cases htk : t < lk c
    · have hm := la_mem htk
      refine pw_icmp_ge 83 dX8_measure_64 (by decide) (fun q => absurd q (nI_ge htk (by omega))) (fun _ => ?_)
      refine pw_aload_n rfl dX8_measure_67 ?_
      refine pw_aload_n rfl dX8_measure_68 ?_
      refine pw_gC dX8_measure_69 fX8_21 (by first | rfl | assumption) rfl (by first | rfl | assumption) ?_
      refine pw_iload_n rfl dX8_measure_72 ?_
      refine pw_aI dX8_measure_73 (by first | rfl | assumption) (by first | assumption | exact vp_in_nI (by omega) (by omega)) ?_
      rw [nI_clamp (by omega), hA' 27 (by decide) (by decide) (by decide), h27 t htk]
      refine pw_aload_n rfl dX8_measure_74 ?_
      refine pw_gC dX8_measure_75 fX8_18 (by first | rfl | assumption) rfl (by first | rfl | assumption) ?_
      refine pw_iload_n rfl dX8_measure_78 ?_
      refine pw_aI dX8_measure_79 (by first | rfl | assumption) (by first | assumption | exact vp_in_nI (by omega) (by omega)) ?_
      rw [nI_clamp (by omega), h26' t (Nat.le_refl _) (by omega)]
      refine pc_V2 dX8_measure_80 lX8_43 rfl rfl (by decide) (Nat.le_of_ble_eq_true rfl) ?_
      have he0 : e (la c t) = 0 := hE.2 _ (fun s k1 k2 k3 => by have := la_inj k2 htk k3; omega)
      refine c_give pc28 hP' hm.1 (by omega) (fun hno => absurd ⟨by omega, by omega, he0⟩ hno) ?_
      intro _ _ _ F3 A3 hF3 hA3 hP3
      refine ps_iinc (l' := [_, _, _, _]) (-1) dX8_measure_83 (by decide) rfl (by decide) rfl rfl ?_
      refine pw_goto 28 dX8_measure_86 (by decide) ?_
      rw [hnx]
      refine ih F3 A3 _ (by omega) (fun i j hij => by rw [hF3 i j hij]; exact hF i j hij) (fun i k1 k2 k3 => by rw [hA3 i k2 k3]; exact hA' i k1 k2 k3) h4 h25 h27 (fun x k1 k2 => by rw [hA3 26 (by decide) (by decide)]; exact h26' x k1 k2) hP3 ⟨fun s k1 k2 => ?_, fun b hb => ?_⟩ hq
      · by_cases hs : s = t
        · rw [hs, updN_s]
        · rw [updN_n (fun h9 => hs (la_inj k2 htk h9))]
          exact hE.1 s (by omega) k2
      · rw [updN_n (fun h9 => hb t (Nat.le_refl _) htk h9.symm)]
        exact hE.2 b (fun s k1 k2 => hb s (by omega) k2)
    · refine pw_icmp_ge 83 dX8_measure_64 (by decide) (fun _ => ?_) (fun q => absurd (nI_le (by omega) (by omega)) q)
      refine ps_iinc (l' := [_, _, _, _]) (-1) dX8_measure_83 (by decide) rfl (by decide) rfl rfl ?_
      refine pw_goto 28 dX8_measure_86 (by decide) ?_
      rw [hnx]
      exact ih F' A2 e (by omega) hF hA' h4 h25 h27 h26' hP' ⟨fun s k1 k2 => by omega, fun b hb => hE.2 b (fun s k1 k2 => by omega)⟩ hq
theorem c_measure (h : HC c N) (hN : N ≤ 300) (hk : 1 < lk c) (h4 : F 23 4 = nI (lk c)) (h25 : ∀ t, t < 2 * lk c - 2 → A 25 t = nI ((hT c).2.1 t)) (h27 : ∀ t, t < lk c → A 27 t = nI (la c t)) (hP : PC F A 28 (fun _ => 0))
    (hQ : ∀ F' A', (∀ i j, ¬ (i = 28 ∧ j = 5) → F' i j = F i j) → (∀ i, ¬ i = 26 → ¬ i = 29 → ¬ i = 32 → A' i = A i) → PC F' A' 28 (hl c) → Q none (HS F' A' rf lo X)) : PM Γ mX8_measure [.ref 23, .ref 28] (HS F A rf lo X) 0 0 Q := by
  have hk256 := lk_le c
  refine PM.go (l := [_, _, .float 0, .float 0]) rfl rfl (Nat.le_of_ble_eq_true rfl) rfl ?_
  refine pw_iconst 2 (by decide) dX8_measure_0 ?_
  refine pw_aload_n rfl dX8_measure_1 ?_
  refine pw_gI dX8_measure_2 fX8_24 (by first | rfl | assumption) rfl ?_
  rw [h4, show (2 : Int32) = nI 2 from rfl]
  refine pw_imul dX8_measure_5 ?_
  rw [pk_mul]
  refine pw_aload_n rfl dX8_measure_6 ?_
  refine pw_gC dX8_measure_7 fX8_18 (by first | rfl | assumption) rfl (by first | rfl | assumption) ?_
  refine pw_lI (nI _) dX8_measure_10 (by first | rfl | assumption) rfl ?_
  refine pw_minN (2 * lk c) 512 rfl rfl (by omega) (by omega) dX8_measure_11 lX8_58 (by decide) (Nat.le_of_ble_eq_true rfl) ?_
  rw [Nat.min_eq_left (by omega)]
  refine pw_iconst 2 (by decide) dX8_measure_14 ?_
  refine pw_isub dX8_measure_15 ?_
  rw [show nI (2 * lk c) - 2 = nI (2 * lk c - 2) from pk_sub (b := 2) (by omega)]
  refine ps_istore_n (l' := [_, _, _, _]) dX8_measure_16 (by decide) rfl rfl ?_
  refine pw_aload_n rfl dX8_measure_17 ?_
  refine pw_gC dX8_measure_18 fX8_18 (by first | rfl | assumption) rfl (by first | rfl | assumption) ?_
  refine pw_iload_n rfl dX8_measure_21 ?_
  refine pw_iconst 0 (by decide) dX8_measure_22 ?_
  refine pw_sI dX8_measure_23 (by first | rfl | assumption) (by first | assumption | exact vp_in_nI (by omega) (by omega)) ?_
  refine pw_iload_n rfl dX8_measure_24 ?_
  refine pw_iconst 1 (by decide) dX8_measure_25 ?_
  refine pw_isub dX8_measure_26 ?_
  refine ps_istore_n (l' := [_, _, _, _]) dX8_measure_27 (by decide) rfl rfl ?_
  rw [nI_clamp (by omega)]
  obtain ⟨p1, p2, p3, p4, p5⟩ := id hP
  refine ms_loop h hN hk (2 * lk c - 2) F _ (fun _ => 0) (Nat.le_refl _) (fun i j _ => rfl) (fun i k1 k2 k3 => stA_n k1) h4 h25 h27 (fun x k1 k2 => ?_) ⟨fun b hb => by rw [stA_n (by decide)]; exact p1 b hb, p2, fun l k1 k2 => by rw [stA_n (by decide)]; exact p3 l k1 k2, by rw [stA_n (by decide)]; exact p4, p5⟩ ⟨fun s k1 k2 => by omega, fun b _ => rfl⟩ hQ
  rw [stA_s, show x = 2 * lk c - 2 by omega, upd_s]
  show 0 = nI (dep _ _ _)
  rw [dep_root]
  rfl
/-- Tree.grow -/
theorem c_grow (h : HC c N) (hN : N ≤ 300) (hN0 : 0 < N) (h18 : ∀ b, b < 256 → A 18 b = nI (c b))
    (hQ : ∀ F' A', (∀ i j, ¬ (i = 28 ∧ j = 5) → ¬ i = 23 → F' i j = F i j) → (∀ i, ¬ i = 24 → ¬ i = 25 → ¬ i = 26 → ¬ i = 27 → ¬ i = 29 → ¬ i = 32 → A' i = A i) → PC F' A' 28 (hl c) → Q none (HS F' A' rf lo X)) : PM Γ mX8_grow [.ref 23, .ref 18, .ref 28] (HS F A rf lo X) 0 0 Q := by
  have hk0 : 0 < lk c := by
    rcases Nat.eq_zero_or_pos (lk c) with h0 | h0
    · have := lw_sum h
      rw [h0] at this
      have h1 : sumR (lw c) 0 0 = 0 := rfl
      omega
    · exact h0
  have hk256 := lk_le c
  refine PM.go (l := [_, _, _]) rfl rfl (Nat.le_of_ble_eq_true rfl) rfl ?_
  refine pw_aload_n rfl dX8_grow_0 ?_
  refine pc_V0 dX8_grow_1 lX8_34 rfl rfl (by decide) (Nat.le_of_ble_eq_true rfl) ?_
  refine c_pbegin pc28 ?_
  intro A1 hA1 hP1
  obtain ⟨p1, p2, p3, p4, p5⟩ := hP1
  refine pw_aload_n rfl dX8_grow_4 ?_
  refine pw_aload_n rfl dX8_grow_5 ?_
  refine pc_V1 dX8_grow_6 lX8_39 rfl rfl (by decide) (Nat.le_of_ble_eq_true rfl) ?_
  refine c_sortLeaves (c := c) (fun b hb => Nat.le_trans (HC_le h hb) hN) (fun b hb => by rw [hA1 18 (by decide) (by decide)]; exact h18 b hb) ?_
  intro F2 A2 hF2 hA2 h4 hL
  have hP2 : PC F2 A2 28 (fun _ => 0) := ⟨fun b hb => by rw [hA2 _ (by decide) (by decide)]; exact p1 b hb, p2, fun l k1 k2 => by rw [hA2 _ (by decide) (by decide)]; exact p3 l k1 k2, by rw [hA2 _ (by decide) (by decide)]; exact p4, by rw [hF2 _ _ (by omega)]; exact p5⟩
  refine pw_aload_n rfl dX8_grow_9 ?_
  refine pw_gI dX8_grow_10 fX8_24 (by first | rfl | assumption) rfl ?_
  rw [h4]
  by_cases hk1 : lk c = 1
  · rw [hk1]
    refine pw_iconst 1 (by decide) dX8_grow_13 ?_
    refine pw_icmp_ne 31 dX8_grow_14 (by decide) (fun q => absurd (rfl) q) (fun _ => ?_)
    refine pw_aload_n rfl dX8_grow_17 ?_
    refine pw_aload_n rfl dX8_grow_18 ?_
    refine pw_gC dX8_grow_19 fX8_21 (by first | rfl | assumption) rfl (by first | rfl | assumption) ?_
    refine pw_iconst 0 (by decide) dX8_grow_22 ?_
    refine pw_aI dX8_grow_23 (by first | rfl | assumption) (vp_in_nI (n := 0) (by decide) (by decide)) ?_
    rw [show A2 27 (0 : Int32).toNatClampNeg = nI (la c 0) from (hL 0 hk0).2]
    refine pw_iconst 1 (by decide) dX8_grow_24 ?_
    have hm := la_mem hk0
    refine pc_V2 dX8_grow_25 lX8_43 rfl rfl (by decide) (Nat.le_of_ble_eq_true rfl) ?_
    refine c_give (b := la c 0) (l := 1) pc28 hP2 hm.1 (by omega) (fun hno => absurd ⟨by omega, by omega, rfl⟩ hno) ?_
    intro _ _ _ F3 A3 hF3 hA3 hP3
    refine pw_goto 48 dX8_grow_28 (by decide) ?_
    refine pw_vret dX8_grow_48 rfl ?_
    refine hQ F3 A3 (fun i j k1 k2 => by rw [hF3 i j k1, hF2 i j (by omega), upF_n k1]) (fun i k1 k2 k3 k4 k5 k6 => by rw [hA3 i k5 k6, hA2 i k1 k4, hA1 i k5 k6]) ?_
    have e : updN (fun _ => 0) (la c 0) 1 = hl c := by
      funext b
      by_cases hb : b = la c 0
      · rw [hb, updN_s, hl_la hk0, if_pos hk1]
      · rw [updN_n hb, hl_no]
        intro h9
        obtain ⟨t, t1, t2⟩ := la_sur h9.1 h9.2
        rw [show t = 0 by omega] at t2
        exact hb t2.symm
    rw [← e]
    exact hP3
  · have hk2 : 1 < lk c := by omega
    refine pw_iconst 1 (by decide) dX8_grow_13 ?_
    refine pw_icmp_ne 31 dX8_grow_14 (by decide) (fun _ => ?_) (fun q => absurd q ((fun h9 => hk1 (nI_inj (b := 1) (by omega) (by omega) h9))))
    refine pw_aload_n rfl dX8_grow_31 ?_
    refine pw_gI dX8_grow_32 fX8_24 (by first | rfl | assumption) rfl ?_
    rw [h4]
    refine pw_iconst 1 (by decide) dX8_grow_35 ?_
    refine pw_icmp_le 48 dX8_grow_36 (by decide) (fun q => absurd q (nI_ge (a := 1) hk2 (by omega))) (fun _ => ?_)
    refine pw_aload_n rfl dX8_grow_39 ?_
    refine pc_V0 dX8_grow_40 lX8_47 rfl rfl (by decide) (Nat.le_of_ble_eq_true rfl) ?_
    refine c_join h hN hk2 h4 (fun t ht => (hL t ht).1) ?_
    intro F3 A3 hF3 hA3 hJ
    obtain ⟨s1, s2, s3, s4, s5⟩ := hJ
    obtain ⟨H, hp, _, hfr⟩ := hT_par h hk2
    refine pw_aload_n rfl dX8_grow_43 ?_
    refine pw_aload_n rfl dX8_grow_44 ?_
    refine pc_V1 dX8_grow_45 lX8_50 rfl rfl (by decide) (Nat.le_of_ble_eq_true rfl) ?_
    refine c_measure h hN hk2 s1 (fun t ht => s5 t (by omega) (fun h9 => by have := (hfr t).mp h9; omega)) (fun t ht => by rw [hA3 27 (by decide) (by decide)]; exact (hL t ht).2) ?_ ?_
    · obtain ⟨p1, p2, p3, p4, p5⟩ := hP2
      exact ⟨fun b hb => by rw [hA3 _ (by decide) (by decide)]; exact p1 b hb, p2, fun l k1 k2 => by rw [hA3 _ (by decide) (by decide)]; exact p3 l k1 k2, by rw [hA3 _ (by decide) (by decide)]; exact p4, by rw [hF3 _ _ (by omega)]; exact p5⟩
    · intro F4 A4 hF4 hA4 hP4
      refine pw_vret dX8_grow_48 rfl ?_
      exact hQ F4 A4 (fun i j k1 k2 => by rw [hF4 i j k1, hF3 i j (by omega), hF2 i j (by omega), upF_n k1]) (fun i k1 k2 k3 k4 k5 k6 => by rw [hA4 i k3 k5 k6, hA3 i k1 k2, hA2 i k1 k4, hA1 i k5 k6]) hP4
end
