/-! PREFIX: the class's Tree -/
section
variable {Γ : Nat × (Nat → Int32)} {F A : Nat → Nat → Int32} {rf : Nat} {lo : Int64} {X : PH} {Q : Option Value → PH → Prop} {c : Nat → Nat} {N : Nat}
theorem HC_le {b : Nat} (h : HC c N) (hb : b < 256) : c b ≤ N := by
  unfold HC at h
  rw [← h]
  have key : ∀ z, b < z → c b ≤ ((List.range z).map c).sum := by
    intro z
    induction z with
    | zero => intro h; omega
    | succ z iz =>
      intro hz
      rw [List.range_succ, List.map_append, List.sum_append]
      by_cases h2 : b = z
      · subst h2
        simp only [List.map_cons, List.map_nil, List.sum_cons, List.sum_nil]
        omega
      · have := iz (by omega)
        omega
  exact key 256 hb
/-- the inner loop: heavier ones go up by one -/
theorem sl_inner {b : Nat} {L : List Nat} (hb : b < 256) (hcl : ∀ b, b < 256 → c b ≤ 300) (hLm : ∀ t, t < L.length → L.getD t 0 < 256) (hL : L.length ≤ b) :
    ∀ (a : Nat) (A' : Nat → Nat → Int32), a ≤ L.length → ipd c (c b) L a = ipd c (c b) L L.length → (∀ i, ¬ i = 24 → ¬ i = 27 → A' i = A i) → (A 18 b = nI (c b)) → (∀ j, j < a → A' 24 j = nI (c (L.getD j 0)) ∧ A' 27 j = nI (L.getD j 0)) → (∀ j, a < j → j ≤ L.length → A' 24 j = nI (c (L.getD (j - 1) 0)) ∧ A' 27 j = nI (L.getD (j - 1) 0)) →
    (∀ A', (∀ i, ¬ i = 24 → ¬ i = 27 → A' i = A i) → (∀ j, j < ipd c (c b) L L.length → A' 24 j = nI (c (L.getD j 0)) ∧ A' 27 j = nI (L.getD j 0)) → (∀ j, ipd c (c b) L L.length < j → j ≤ L.length → A' 24 j = nI (c (L.getD (j - 1) 0)) ∧ A' 27 j = nI (L.getD (j - 1) 0)) →
      PW Γ mX8_sortLeaves 86 [.ref 23, .ref 18, .int (nI b), .int (nI (ipd c (c b) L L.length))] [] (HS F A' rf lo X) 0 0 Q) →
    PW Γ mX8_sortLeaves 34 [.ref 23, .ref 18, .int (nI b), .int (nI a)] [] (HS F A' rf lo X) 0 0 Q := by
  intro a
  induction a with
  | zero =>
    intro A' ha hi hA h18 hlo hhi hk
    refine pw_iload_n rfl dX8_sortLeaves_34 ?_
    refine pw_if_le 86 dX8_sortLeaves_35 (by decide) (fun _ => ?_) (fun q => absurd (by decide) q)
    have e : ipd c (c b) L L.length = 0 := hi.symm
    have := hk A' hA (by rw [e]; exact hlo) (by rw [e]; exact hhi)
    rw [e] at this
    exact this
  | succ a ih =>
    intro A' ha hi hA h18 hlo hhi hk
    have hcb := hcl b hb
    have hca := hcl _ (hLm a (by omega))
    refine pw_iload_n rfl dX8_sortLeaves_34 ?_
    refine pw_if_le 86 dX8_sortLeaves_35 (by decide) (fun q => absurd q (nI_ge (a := 0) (by omega) (by omega))) (fun _ => ?_)
    refine pw_aload_n rfl dX8_sortLeaves_38 ?_
    refine pw_gC dX8_sortLeaves_39 fX8_9 (by first | rfl | assumption) rfl (by first | rfl | assumption) ?_
    refine pw_iload_n rfl dX8_sortLeaves_42 ?_
    refine pw_iconst 1 (by decide) dX8_sortLeaves_43 ?_
    refine pw_isub dX8_sortLeaves_44 ?_
    rw [show nI (a + 1) - 1 = nI a from pk_sub (a := a + 1) (b := 1) (by omega)]
    refine pw_aI dX8_sortLeaves_45 (by first | rfl | assumption) (by first | assumption | exact vp_in_nI (by omega) (by omega)) ?_
    refine pw_aload_n rfl dX8_sortLeaves_46 ?_
    refine pw_iload_n rfl dX8_sortLeaves_47 ?_
    refine pw_aI dX8_sortLeaves_48 (by first | rfl | assumption) (by first | assumption | exact vp_in_nI (by omega) (by omega)) ?_
    rw [nI_clamp (by omega), nI_clamp (by omega), (hlo a (by omega)).1, hA 18 (by decide) (by decide), h18]
    by_cases h : c b < c (L.getD a 0)
    · have hi2 : ipd c (c b) L a = ipd c (c b) L L.length := by
        rw [← hi]
        show _ = if c b < c (L.getD a 0) then ipd c (c b) L a else a + 1
        rw [if_pos h]
      refine pw_icmp_le 86 dX8_sortLeaves_49 (by decide) (fun q => absurd q (nI_ge h (by omega))) (fun _ => ?_)
      refine pw_aload_n rfl dX8_sortLeaves_52 ?_
      refine pw_gC dX8_sortLeaves_53 fX8_9 (by first | rfl | assumption) rfl (by first | rfl | assumption) ?_
      refine pw_iload_n rfl dX8_sortLeaves_56 ?_
      refine pw_aload_n rfl dX8_sortLeaves_57 ?_
      refine pw_gC dX8_sortLeaves_58 fX8_9 (by first | rfl | assumption) rfl (by first | rfl | assumption) ?_
      refine pw_iload_n rfl dX8_sortLeaves_61 ?_
      refine pw_iconst 1 (by decide) dX8_sortLeaves_62 ?_
      refine pw_isub dX8_sortLeaves_63 ?_
      rw [show nI (a + 1) - 1 = nI a from pk_sub (a := a + 1) (b := 1) (by omega)]
      refine pw_aI dX8_sortLeaves_64 (by first | rfl | assumption) (by first | assumption | exact vp_in_nI (by omega) (by omega)) ?_
      rw [nI_clamp (by omega), (hlo a (by omega)).1]
      refine pw_sI dX8_sortLeaves_65 (by first | rfl | assumption) (by first | assumption | exact vp_in_nI (by omega) (by omega)) ?_
      refine pw_aload_n rfl dX8_sortLeaves_66 ?_
      refine pw_gC dX8_sortLeaves_67 fX8_21 (by first | rfl | assumption) rfl (by first | rfl | assumption) ?_
      refine pw_iload_n rfl dX8_sortLeaves_70 ?_
      refine pw_aload_n rfl dX8_sortLeaves_71 ?_
      refine pw_gC dX8_sortLeaves_72 fX8_21 (by first | rfl | assumption) rfl (by first | rfl | assumption) ?_
      refine pw_iload_n rfl dX8_sortLeaves_75 ?_
      refine pw_iconst 1 (by decide) dX8_sortLeaves_76 ?_
      refine pw_isub dX8_sortLeaves_77 ?_
      rw [show nI (a + 1) - 1 = nI a from pk_sub (a := a + 1) (b := 1) (by omega)]
      refine pw_aI dX8_sortLeaves_78 (by first | rfl | assumption) (by first | assumption | exact vp_in_nI (by omega) (by omega)) ?_
      rw [nI_clamp (by omega), nI_clamp (by omega), stA_n (by decide), (hlo a (by omega)).2]
      refine pw_sI dX8_sortLeaves_79 (by first | rfl | assumption) (by first | assumption | exact vp_in_nI (by omega) (by omega)) ?_
      refine ps_iinc (l' := [_, _, _, _]) (-1) dX8_sortLeaves_80 (by decide) rfl (by decide) rfl rfl ?_
      refine pw_goto 34 dX8_sortLeaves_83 (by decide) ?_
      rw [nI_clamp (by omega), stA_n (by decide), show nI (a + 1) + (-1) = nI a by rw [add_m1]; exact pk_sub (a := a + 1) (b := 1) (by omega)]
      refine ih _ (by omega) hi2 (fun i k1 k2 => by rw [stA_n k2, stA_n k1]; exact hA i k1 k2) h18 (fun j hj => ?_) (fun j hj hj2 => ?_) hk
      · rw [stA_n (by decide), stA_s, stA_s, upd_n (by omega), upd_n (by omega)]
        exact hlo j (by omega)
      · rw [stA_n (by decide), stA_s, stA_s]
        by_cases hj3 : j = a + 1
        · rw [hj3, upd_s, upd_s]
          exact ⟨rfl, rfl⟩
        · rw [upd_n hj3, upd_n hj3]
          exact hhi j (by omega) hj2
    · have hi2 : ipd c (c b) L L.length = a + 1 := by
        rw [← hi]
        show (if c b < c (L.getD a 0) then ipd c (c b) L a else a + 1) = _
        rw [if_neg h]
      refine pw_icmp_le 86 dX8_sortLeaves_49 (by decide) (fun _ => ?_) (fun q => absurd (nI_le (by omega) (by omega)) q)
      have := hk A' hA (by rw [hi2]; exact hlo) (by rw [hi2]; exact hhi)
      rw [hi2] at this
      exact this
theorem sl_loop (hcl : ∀ b, b < 256 → c b ≤ 300) (h18 : ∀ b, b < 256 → A 18 b = nI (c b)) : ∀ (k b : Nat) (F' A' : Nat → Nat → Int32) (g : Value), g.category = 1 → b + k = 256 → (∀ i j, ¬ (i = 23 ∧ j = 4) → F' i j = F i j) → (∀ i, ¬ i = 24 → ¬ i = 27 → A' i = A i) → F' 23 4 = nI (srt c b).length → (∀ j, j < (srt c b).length → A' 24 j = nI (c ((srt c b).getD j 0)) ∧ A' 27 j = nI ((srt c b).getD j 0)) →
    (∀ F' A', (∀ i j, ¬ (i = 23 ∧ j = 4) → F' i j = F i j) → (∀ i, ¬ i = 24 → ¬ i = 27 → A' i = A i) → F' 23 4 = nI (lk c) → (∀ j, j < lk c → A' 24 j = nI (lw c j) ∧ A' 27 j = nI (la c j)) → Q none (HS F' A' rf lo X)) →
    PW Γ mX8_sortLeaves 7 [.ref 23, .ref 18, .int (nI b), g] [] (HS F' A' rf lo X) 0 0 Q := by
  intro k
  induction k with
  | zero =>
    intro b F' A' g hg hb hF hA h4 hL hk
    have hb2 : b = 256 := by omega
    subst hb2
    refine pw_iload_n rfl dX8_sortLeaves_7 ?_
    refine pw_sipush 256 (by decide) dX8_sortLeaves_8 ?_
    refine pw_icmp_ge 118 dX8_sortLeaves_11 (by decide) (fun _ => ?_) (fun q => absurd (by decide) q)
    refine pw_vret dX8_sortLeaves_118 rfl ?_
    exact hk F' A' hF hA h4 hL
  | succ k ih =>
    intro b F' A' g hg hb hF hA h4 hL hk
    have hcb := hcl b (by omega)
    have hlen := srt_le c b
    refine pw_iload_n rfl dX8_sortLeaves_7 ?_
    refine pw_sipush 256 (by decide) dX8_sortLeaves_8 ?_
    refine pw_icmp_ge 118 dX8_sortLeaves_11 (by decide) (fun q => absurd q (nI_ge (b := 256) (by omega) (by omega))) (fun _ => ?_)
    refine pw_iload_n rfl dX8_sortLeaves_14 ?_
    refine pw_aload_n rfl dX8_sortLeaves_15 ?_
    refine pw_lI (nI _) dX8_sortLeaves_16 (by first | rfl | assumption) rfl ?_
    refine pw_icmp_ge 118 dX8_sortLeaves_17 (by decide) (fun q => absurd q (nI_ge (b := 256) (by omega) (by omega))) (fun _ => ?_)
    refine pw_aload_n rfl dX8_sortLeaves_20 ?_
    refine pw_iload_n rfl dX8_sortLeaves_21 ?_
    refine pw_aI dX8_sortLeaves_22 (by first | rfl | assumption) (by first | assumption | exact vp_in_nI (by omega) (by omega)) ?_
    rw [nI_clamp (by omega), hA 18 (by decide) (by decide), h18 b (by omega)]
    by_cases h : 0 < c b
    · refine pw_if_gt 29 dX8_sortLeaves_23 (by decide) (fun _ => ?_) (fun q => absurd (nI_lt (a := 0) h (by omega)) q)
      refine pw_aload_n rfl dX8_sortLeaves_29 ?_
      refine pw_gI dX8_sortLeaves_30 fX8_24 (by first | rfl | assumption) rfl ?_
      rw [h4]
      refine ps_istore_n (l' := [_, _, _, _]) dX8_sortLeaves_33 (by decide) rfl rfl ?_
      refine sl_inner (A := A) (by omega) hcl (fun t ht => ?_) (by omega) (srt c b).length A' (Nat.le_refl _) rfl hA (h18 b (by omega)) hL (fun j k1 k2 => by omega) ?_
      · have hm : (srt c b).getD t 0 ∈ srt c b := by
          rw [List.getD_eq_getElem?_getD, List.getElem?_eq_getElem ht]
          exact List.getElem_mem ht
        have := ((srt_mem c _ b).mp hm).1
        omega
      · intro A1 hA1 hlo hhi
        have hip := ipd_le c (c b) (srt c b) (srt c b).length
        have hs : srt c (b + 1) = (srt c b).take (ipd c (c b) (srt c b) (srt c b).length) ++ b :: (srt c b).drop (ipd c (c b) (srt c b) (srt c b).length) := by
          show (if 0 < c b then _ else _) = _
          rw [if_pos h]
        have hsl : (srt c (b + 1)).length = (srt c b).length + 1 := by
          rw [hs, List.length_append, List.length_cons, List.length_take, List.length_drop]
          omega
        have hsg : ∀ j, (srt c (b + 1)).getD j 0 = if j < ipd c (c b) (srt c b) (srt c b).length then (srt c b).getD j 0 else if j = ipd c (c b) (srt c b) (srt c b).length then b else (srt c b).getD (j - 1) 0 := fun j => by rw [hs]; exact getD_ins hip
        generalize ipd c (c b) (srt c b) (srt c b).length = p at hlo hhi hip hsg ⊢
        refine pw_aload_n rfl dX8_sortLeaves_86 ?_
        refine pw_gC dX8_sortLeaves_87 fX8_9 (by first | rfl | assumption) rfl (by first | rfl | assumption) ?_
        refine pw_iload_n rfl dX8_sortLeaves_90 ?_
        refine pw_aload_n rfl dX8_sortLeaves_91 ?_
        refine pw_iload_n rfl dX8_sortLeaves_92 ?_
        refine pw_aI dX8_sortLeaves_93 (by first | rfl | assumption) (by first | assumption | exact vp_in_nI (by omega) (by omega)) ?_
        rw [nI_clamp (by omega), hA1 18 (by decide) (by decide), h18 b (by omega)]
        refine pw_sI dX8_sortLeaves_94 (by first | rfl | assumption) (by first | assumption | exact vp_in_nI (by omega) (by omega)) ?_
        refine pw_aload_n rfl dX8_sortLeaves_95 ?_
        refine pw_gC dX8_sortLeaves_96 fX8_21 (by first | rfl | assumption) rfl (by first | rfl | assumption) ?_
        refine pw_iload_n rfl dX8_sortLeaves_99 ?_
        refine pw_iload_n rfl dX8_sortLeaves_100 ?_
        refine pw_sI dX8_sortLeaves_101 (by first | rfl | assumption) (by first | assumption | exact vp_in_nI (by omega) (by omega)) ?_
        refine pw_aload_n rfl dX8_sortLeaves_102 ?_
        refine pw_dup rfl dX8_sortLeaves_103 ?_
        refine pw_gI dX8_sortLeaves_104 fX8_24 (by first | rfl | assumption) rfl ?_
        rw [h4]
        refine pw_iconst 1 (by decide) dX8_sortLeaves_107 ?_
        refine pw_iadd dX8_sortLeaves_108 ?_
        refine pw_pI dX8_sortLeaves_109 fX8_24 (by first | rfl | assumption) rfl ⟨rfl, rfl⟩ ?_
        refine ps_iinc (l' := [_, _, _, _]) 1 dX8_sortLeaves_112 (by decide) rfl (by decide) rfl rfl ?_
        refine pw_goto 7 dX8_sortLeaves_115 (by decide) ?_
        rw [nI_1, nI_1, nI_clamp (by omega), stA_n (by decide)]
        refine ih (b + 1) _ _ _ rfl (by omega) (fun i j hij => by rw [upF_n hij]; exact hF i j hij) (fun i k1 k2 => by rw [stA_n k2, stA_n k1]; exact hA1 i k1 k2) (by rw [upF_s, hsl]) (fun j hj => ?_) hk
        rw [hsl] at hj
        rw [stA_n (by decide), stA_s, stA_s, hsg j]
        by_cases h1 : j < p
        · rw [if_pos h1, upd_n (by omega), upd_n (by omega)]
          exact hlo j h1
        · rw [if_neg h1]
          by_cases h2 : j = p
          · rw [if_pos h2, h2, upd_s, upd_s]
            exact ⟨rfl, rfl⟩
          · rw [if_neg h2, upd_n h2, upd_n h2]
            exact hhi j (by omega) (by omega)
    · have hs : srt c (b + 1) = srt c b := by
        show (if 0 < c b then _ else _) = _
        rw [if_neg h]
      refine pw_if_gt 29 dX8_sortLeaves_23 (by decide) (fun q => absurd q (nI_nlt (b := c b) (a := 0) (by omega) (by omega))) (fun _ => ?_)
      refine pw_goto 112 dX8_sortLeaves_26 (by decide) ?_
      refine ps_iinc (l' := [_, _, _, _]) 1 dX8_sortLeaves_112 (by decide) rfl (by decide) rfl rfl ?_
      refine pw_goto 7 dX8_sortLeaves_115 (by decide) ?_
      rw [nI_1]
      exact ih (b + 1) F' A' _ hg (by omega) hF hA (by rw [hs]; exact h4) (by rw [hs]; exact hL) hk
theorem c_sortLeaves (hcl : ∀ b, b < 256 → c b ≤ 300) (h18 : ∀ b, b < 256 → A 18 b = nI (c b))
    (hQ : ∀ F' A', (∀ i j, ¬ (i = 23 ∧ j = 4) → F' i j = F i j) → (∀ i, ¬ i = 24 → ¬ i = 27 → A' i = A i) → F' 23 4 = nI (lk c) → (∀ j, j < lk c → A' 24 j = nI (lw c j) ∧ A' 27 j = nI (la c j)) → Q none (HS F' A' rf lo X)) : PM Γ mX8_sortLeaves [.ref 23, .ref 18] (HS F A rf lo X) 0 0 Q := by
  refine PM.go (l := [_, _, .float 0, .float 0]) rfl rfl (Nat.le_of_ble_eq_true rfl) rfl ?_
  refine pw_aload_n rfl dX8_sortLeaves_0 ?_
  refine pw_iconst 0 (by decide) dX8_sortLeaves_1 ?_
  refine pw_pI dX8_sortLeaves_2 fX8_24 (by first | rfl | assumption) rfl ⟨rfl, rfl⟩ ?_
  refine pw_iconst 0 (by decide) dX8_sortLeaves_5 ?_
  refine ps_istore_n (l' := [_, _, _, _]) dX8_sortLeaves_6 (by decide) rfl rfl ?_
  exact sl_loop hcl h18 256 0 _ A _ rfl (by omega) (fun i j hij => upF_n hij) (fun i _ _ => rfl) upF_s (fun j hj => absurd hj (by show ¬ j < 0; omega)) hQ
theorem c_takeLeast {k made p q : Nat} {W : Nat → Nat} (hk : F 23 4 = nI k) (hp : F 23 5 = nI p) (hq : F 23 6 = nI q) (hpk : p ≤ k) (hkq : k ≤ q) (hqm : q ≤ made) (hm : made ≤ 511) (hf : 0 < (k - p) + (made - q)) (hW : ∀ t, t < made → A 24 t = nI (W t)) (hB : ∀ t, t < made → W t ≤ 300)
    (hQ : ∀ F', (∀ i j, ¬ (i = 23 ∧ (j = 5 ∨ j = 6)) → F' i j = F i j) → F' 23 5 = nI (tqP k W made p q) → F' 23 6 = nI (tqQ k W made p q) → Q (some (.int (nI (tqI k W made p q)))) (HS F' A rf lo X)) : PM Γ mX8_takeLeast [.ref 23, .int (nI made)] (HS F A rf lo X) 0 0 Q := by
  have leaf : tqL k W made p q → ∀ x2 x3 : Int32, PW Γ mX8_takeLeast 69 [.ref 23, .int (nI made), .int x2, .int x3] [] (HS F A rf lo X) 0 0 Q := by
    intro h x2 x3
    refine pw_aload_n rfl dX8_takeLeast_69 ?_
    refine pw_dup rfl dX8_takeLeast_70 ?_
    refine pw_gI dX8_takeLeast_71 fX8_28 (by first | rfl | assumption) rfl ?_
    rw [hp]
    refine pw_iconst 1 (by decide) dX8_takeLeast_74 ?_
    refine pw_iadd dX8_takeLeast_75 ?_
    refine pw_pI dX8_takeLeast_76 fX8_28 (by first | rfl | assumption) rfl ⟨rfl, rfl⟩ ?_
    refine pw_aload_n rfl dX8_takeLeast_79 ?_
    refine pw_gI dX8_takeLeast_80 fX8_28 (by first | rfl | assumption) rfl ?_
    rw [upF_s, nI_1]
    refine pw_iconst 1 (by decide) dX8_takeLeast_83 ?_
    refine pw_isub dX8_takeLeast_84 ?_
    rw [show nI (p + 1) - 1 = nI p from pk_sub (a := p + 1) (b := 1) (by omega)]
    refine pw_iret dX8_takeLeast_85 (Or.inl rfl) ?_
    have := hQ (upF F 23 5 (nI (p + 1))) (fun i j hij => upF_n (by omega)) (by unfold tqP; rw [if_pos h, upF_s]) (by unfold tqQ; rw [if_pos h, upF_n (by omega)]; exact hq)
    unfold tqI at this
    rw [if_pos h] at this
    exact this
  have join : ¬ tqL k W made p q → ∀ x2 : Int32, PW Γ mX8_takeLeast 86 [.ref 23, .int (nI made), .int x2, .int 1] [] (HS F A rf lo X) 0 0 Q := by
    intro h x2
    refine pw_iload_n rfl dX8_takeLeast_86 ?_
    refine pw_if_ne 92 dX8_takeLeast_87 (by decide) (fun _ => ?_) (fun q => absurd q (by decide))
    refine pw_aload_n rfl dX8_takeLeast_92 ?_
    refine pw_dup rfl dX8_takeLeast_93 ?_
    refine pw_gI dX8_takeLeast_94 fX8_31 (by first | rfl | assumption) rfl ?_
    rw [hq]
    refine pw_iconst 1 (by decide) dX8_takeLeast_97 ?_
    refine pw_iadd dX8_takeLeast_98 ?_
    refine pw_pI dX8_takeLeast_99 fX8_31 (by first | rfl | assumption) rfl ⟨rfl, rfl⟩ ?_
    refine pw_aload_n rfl dX8_takeLeast_102 ?_
    refine pw_gI dX8_takeLeast_103 fX8_31 (by first | rfl | assumption) rfl ?_
    rw [upF_s, nI_1]
    refine pw_iconst 1 (by decide) dX8_takeLeast_106 ?_
    refine pw_isub dX8_takeLeast_107 ?_
    rw [show nI (q + 1) - 1 = nI q from pk_sub (a := q + 1) (b := 1) (by omega)]
    refine pw_iret dX8_takeLeast_108 (Or.inl rfl) ?_
    have := hQ (upF F 23 6 (nI (q + 1))) (fun i j hij => upF_n (by omega)) (by unfold tqP; rw [if_neg h, upF_n (by omega)]; exact hp) (by unfold tqQ; rw [if_neg h, upF_s])
    unfold tqI at this
    rw [if_neg h] at this
    exact this
  refine PM.go (l := [_, _, .float 0, .float 0]) rfl rfl (Nat.le_of_ble_eq_true rfl) rfl ?_
  refine pw_aload_n rfl dX8_takeLeast_0 ?_
  refine pw_gI dX8_takeLeast_1 fX8_28 (by first | rfl | assumption) rfl ?_
  refine pw_aload_n rfl dX8_takeLeast_4 ?_
  refine pw_gI dX8_takeLeast_5 fX8_24 (by first | rfl | assumption) rfl ?_
  rw [hp, hk]
  have tail : ∀ x2 : Int32, (x2 = if p < k then 1 else 0) → PW Γ mX8_takeLeast 17 [.ref 23, .int (nI made), .int x2, .float 0] [] (HS F A rf lo X) 0 0 Q := by
    intro x2 hx2
    refine pw_aload_n rfl dX8_takeLeast_17 ?_
    refine pw_gI dX8_takeLeast_18 fX8_31 (by first | rfl | assumption) rfl ?_
    rw [hq]
    by_cases hqm2 : q < made
    · refine pw_iload_n rfl dX8_takeLeast_21 ?_
      refine pw_icmp_ge 38 dX8_takeLeast_22 (by decide) (fun q => absurd q (nI_ge hqm2 (by omega))) (fun _ => ?_)
      refine pw_iload_n rfl dX8_takeLeast_25 ?_
      refine pw_aload_n rfl dX8_takeLeast_26 ?_
      refine pw_gC dX8_takeLeast_27 fX8_9 (by first | rfl | assumption) rfl (by first | rfl | assumption) ?_
      refine pw_lI (nI _) dX8_takeLeast_30 (by first | rfl | assumption) rfl ?_
      refine pw_icmp_gt 38 dX8_takeLeast_31 (by decide) (fun q => absurd q (nI_nlt (a := 512) (by omega) (by omega))) (fun _ => ?_)
      refine pw_iconst 1 (by decide) dX8_takeLeast_34 ?_
      refine pw_goto 39 dX8_takeLeast_35 (by decide) ?_
      refine ps_istore_n (l' := [_, _, _, _]) dX8_takeLeast_39 (by decide) rfl rfl ?_
      refine pw_iload_n rfl dX8_takeLeast_40 ?_
      by_cases hpk2 : p < k
      · rw [hx2, if_pos hpk2]
        refine pw_if_eq 86 dX8_takeLeast_41 (by decide) (fun q => absurd q (by decide)) (fun _ => ?_)
        refine pw_iload_n rfl dX8_takeLeast_44 ?_
        refine pw_if_eq 69 dX8_takeLeast_45 (by decide) (fun q => absurd q (by decide)) (fun _ => ?_)
        refine pw_aload_n rfl dX8_takeLeast_48 ?_
        refine pw_gC dX8_takeLeast_49 fX8_9 (by first | rfl | assumption) rfl (by first | rfl | assumption) ?_
        refine pw_aload_n rfl dX8_takeLeast_52 ?_
        refine pw_gI dX8_takeLeast_53 fX8_28 (by first | rfl | assumption) rfl ?_
        rw [hp]
        refine pw_aI dX8_takeLeast_56 (by first | rfl | assumption) (by first | assumption | exact vp_in_nI (by omega) (by omega)) ?_
        refine pw_aload_n rfl dX8_takeLeast_57 ?_
        refine pw_gC dX8_takeLeast_58 fX8_9 (by first | rfl | assumption) rfl (by first | rfl | assumption) ?_
        refine pw_aload_n rfl dX8_takeLeast_61 ?_
        refine pw_gI dX8_takeLeast_62 fX8_31 (by first | rfl | assumption) rfl ?_
        rw [hq, nI_clamp (by omega), hW p (by omega)]
        refine pw_aI dX8_takeLeast_65 (by first | rfl | assumption) (by first | assumption | exact vp_in_nI (by omega) (by omega)) ?_
        rw [nI_clamp (by omega), hW q (by omega)]
        have b1 := hB p (by omega)
        have b2 := hB q (by omega)
        by_cases hw : W p ≤ W q
        · refine pw_icmp_gt 86 dX8_takeLeast_66 (by decide) (fun q => absurd q (nI_nlt hw (by omega))) (fun _ => ?_)
          exact leaf ⟨hpk2, Or.inr hw⟩ _ _
        · refine pw_icmp_gt 86 dX8_takeLeast_66 (by decide) (fun _ => ?_) (fun q => absurd (nI_lt (by omega) (by omega)) q)
          exact join (fun h => by unfold tqL at h; omega) _
      · rw [hx2, if_neg hpk2]
        refine pw_if_eq 86 dX8_takeLeast_41 (by decide) (fun _ => ?_) (fun q => absurd (rfl) q)
        exact join (fun h => hpk2 h.1) _
    · have hpk2 : p < k := by omega
      refine pw_iload_n rfl dX8_takeLeast_21 ?_
      refine pw_icmp_ge 38 dX8_takeLeast_22 (by decide) (fun _ => ?_) (fun q => absurd (nI_le (by omega) (by omega)) q)
      refine pw_iconst 0 (by decide) dX8_takeLeast_38 ?_
      refine ps_istore_n (l' := [_, _, _, _]) dX8_takeLeast_39 (by decide) rfl rfl ?_
      refine pw_iload_n rfl dX8_takeLeast_40 ?_
      rw [hx2, if_pos hpk2]
      refine pw_if_eq 86 dX8_takeLeast_41 (by decide) (fun q => absurd q (by decide)) (fun _ => ?_)
      refine pw_iload_n rfl dX8_takeLeast_44 ?_
      refine pw_if_eq 69 dX8_takeLeast_45 (by decide) (fun _ => ?_) (fun q => absurd (rfl) q)
      exact leaf ⟨hpk2, Or.inl hqm2⟩ _ _
  by_cases hpk2 : p < k
  · refine pw_icmp_ge 15 dX8_takeLeast_8 (by decide) (fun q => absurd q (nI_ge hpk2 (by omega))) (fun _ => ?_)
    refine pw_iconst 1 (by decide) dX8_takeLeast_11 ?_
    refine pw_goto 16 dX8_takeLeast_12 (by decide) ?_
    refine ps_istore_n (l' := [_, _, _, _]) dX8_takeLeast_16 (by decide) rfl rfl ?_
    exact tail 1 (by rw [if_pos hpk2])
  · refine pw_icmp_ge 15 dX8_takeLeast_8 (by decide) (fun _ => ?_) (fun q => absurd (nI_le (by omega) (by omega)) q)
    refine pw_iconst 0 (by decide) dX8_takeLeast_15 ?_
    refine ps_istore_n (l' := [_, _, _, _]) dX8_takeLeast_16 (by decide) rfl rfl ?_
    exact tail 0 (by rw [if_neg hpk2])
end
