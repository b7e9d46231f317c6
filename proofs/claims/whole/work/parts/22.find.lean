/-! MATCHES: findMatch, endOfPlain, writeMatches -/
def mwF (F : Nat → Nat → Int32) (t k : Nat) (x : Nat × Nat) : Nat → Nat → Int32 := upF (upF (upF F 17 7 (nI x.1)) 17 8 (nI x.2)) t 1 (nI k)
theorem mwF_7 {F : Nat → Nat → Int32} {t k : Nat} {x : Nat × Nat} (ht : ¬ t = 17) : mwF F t k x 17 7 = nI x.1 := by
  unfold mwF
  rw [upF_n (by omega), upF_n (by omega), upF_s]
theorem mwF_8 {F : Nat → Nat → Int32} {t k : Nat} {x : Nat × Nat} (ht : ¬ t = 17) : mwF F t k x 17 8 = nI x.2 := by
  unfold mwF
  rw [upF_n (by omega), upF_s]
theorem mwF_s {F : Nat → Nat → Int32} {t k u v : Nat} {x : Nat × Nat} (ht : ¬ t = 17) : upF (upF (mwF F t k x) 17 7 (nI u)) 17 8 (nI v) = mwF F t k (u, v) := by
  funext a b
  unfold mwF upF
  by_cases h1 : a = 17 ∧ b = 8
  · rw [if_pos h1, if_neg (by omega), if_pos h1]
  · rw [if_neg h1]
    by_cases h2 : a = 17 ∧ b = 7
    · rw [if_pos h2, if_neg (by omega), if_neg h1, if_pos h2]
    · rw [if_neg h2]
      split
      · rfl
      · rfl
theorem mwF_r {F : Nat → Nat → Int32} {t k r : Nat} {x : Nat × Nat} (h1 : ¬ r = 17) (h2 : ¬ r = t) : mwF F t k x r 1 = F r 1 := by
  unfold mwF
  rw [upF_n (by omega), upF_n (by omega), upF_n (by omega)]
section
variable {Γ : Nat × (Nat → Int32)} {F A : Nat → Nat → Int32} {rf : Nat} {lo : Int64} {X : PH} {Q : Option Value → PH → Prop} {r c cap n t tc tcap m : Nat} {f0 : Nat → Int32} {L : List Int32} {x : Nat × Nat}
theorem mw_get {y : Int32} {i : Nat} (hr : isRow r c cap) (hr17 : ¬ r = 17) (hrt : ¬ r = t) (hct : ¬ c = tc) (hn : F r 1 = nI n) (hN : n ≤ cap) (hx : y = nI i) (hi : i < n) (hQ : Q (some (.int (A c i))) (MW F A t tc m f0 L x rf lo X)) : PM Γ mX6_get [.ref r, .int y] (MW F A t tc m f0 L x rf lo X) 0 0 Q := by
  unfold MW
  exact w_get hr hrt hct (by rw [upF_n (by omega), upF_n (by omega)]; exact hn) hN hx hi hQ
theorem mw_count (hr : isRow r c cap) (hr17 : ¬ r = 17) (hrt : ¬ r = t) (hn : F r 1 = nI n) (hQ : Q (some (.int (nI n))) (MW F A t tc m f0 L x rf lo X)) : PM Γ mX6_count [.ref r] (MW F A t tc m f0 L x rf lo X) 0 0 Q := by
  unfold MW
  exact w_count hr hrt (by rw [upF_n (by omega), upF_n (by omega)]; exact hn) hQ
theorem mw_before {y : Int32} {i : Nat} (hy : y = nI i) (hi : i < 300) (htc : ¬ tc = 21) (hQ : Q (some (.int (A 21 i))) (MW F A t tc m f0 L x rf lo X)) : PM Γ mX3_before [.ref 17, .int y] (MW F A t tc m f0 L x rf lo X) 0 0 Q := by
  subst hy
  refine PM.go (l := [_, _]) rfl rfl (Nat.le_of_ble_eq_true rfl) rfl ?_
  refine pw_iload_n rfl dX3_before_0 ?_
  refine pw_if_lt 22 dX3_before_1 (by decide) (fun q => absurd q (nI_pos (by omega))) (fun _ => ?_)
  refine pw_iload_n rfl dX3_before_4 ?_
  refine pw_aload_n rfl dX3_before_5 ?_
  refine pw_gC dX3_before_6 fX3_21 (by first | rfl | assumption) rfl (by first | rfl | assumption) ?_
  refine pw_lI (nI _) dX3_before_9 (by first | rfl | assumption) rfl ?_
  refine pw_icmp_ge 22 dX3_before_10 (by decide) (fun q => absurd q (nI_ge (b := 300) hi (by omega))) (fun _ => ?_)
  refine pw_aload_n rfl dX3_before_13 ?_
  refine pw_gC dX3_before_14 fX3_21 (by first | rfl | assumption) rfl (by first | rfl | assumption) ?_
  refine pw_iload_n rfl dX3_before_17 ?_
  refine pw_aI dX3_before_18 (by first | rfl | assumption) (by first | assumption | exact vp_in_nI (by omega) (by omega)) ?_
  refine pw_goto 23 dX3_before_19 (by decide) ?_
  refine pw_iret dX3_before_23 (Or.inl rfl) ?_
  rw [stA_n (by omega), nI_clamp (by omega)]
  exact hQ
theorem fm_inner {a q : Nat} {x5 : Int32} (hr : isRow r c cap) (hr17 : ¬ r = 17) (hrt : ¬ r = t) (hct : ¬ c = tc) (hn : F r 1 = nI n) (hN : n ≤ cap) (hn9 : n ≤ 300) (hq : q < a) (ha : a < n) : ∀ (k u : Nat), u + k = most n a →
    PW Γ mX3_findMatch 102 [.ref 17, .ref r, .int (nI a), .int (nI (most n a)), .int (nI q), .int x5, .int (nI (mlc (A c) a (a - q) k u))] [] (MW F A t tc m f0 L x rf lo X) 0 0 Q →
    PW Γ mX3_findMatch 70 [.ref 17, .ref r, .int (nI a), .int (nI (most n a)), .int (nI q), .int x5, .int (nI u)] [] (MW F A t tc m f0 L x rf lo X) 0 0 Q := by
  obtain ⟨h1, h2, h9, hc⟩ := id hr
  have hm : most n a ≤ n - a ∧ most n a ≤ 130 := by unfold most; omega
  intro k
  induction k with
  | zero =>
    intro u hu hk
    have hu : u = most n a := by omega
    subst hu
    refine pw_iload rfl dX3_findMatch_70 ?_
    refine pw_iload_n rfl dX3_findMatch_72 ?_
    refine pw_icmp_ge 102 dX3_findMatch_73 (by decide) (fun _ => ?_) (fun q => absurd (nI_le (Nat.le_refl _) (by omega)) q)
    exact hk
  | succ k ih =>
    intro u hu hk
    have e0 : mlc (A c) a (a - q) (k + 1) u = if A c (a + u) = A c (a + u - (a - q)) then mlc (A c) a (a - q) k (u + 1) else u := rfl
    rw [e0, show a + u - (a - q) = q + u by omega] at hk
    refine pw_iload rfl dX3_findMatch_70 ?_
    refine pw_iload_n rfl dX3_findMatch_72 ?_
    refine pw_icmp_ge 102 dX3_findMatch_73 (by decide) (fun q => absurd q (nI_ge (by omega) (by omega))) (fun _ => ?_)
    refine pw_aload_n rfl dX3_findMatch_76 ?_
    refine pw_iload rfl dX3_findMatch_77 ?_
    refine pw_iload rfl dX3_findMatch_79 ?_
    refine pw_iadd dX3_findMatch_81 ?_
    refine pc_V1 dX3_findMatch_82 lX3_75 rfl (by first | rfl | assumption) (by decide) (Nat.le_of_ble_eq_true rfl) ?_
    refine mw_get hr hr17 hrt hct hn hN (nI_add q u) (by omega) ?_
    refine pw_aload_n rfl dX3_findMatch_85 ?_
    refine pw_iload_n rfl dX3_findMatch_86 ?_
    refine pw_iload rfl dX3_findMatch_87 ?_
    refine pw_iadd dX3_findMatch_89 ?_
    refine pc_V1 dX3_findMatch_90 lX3_75 rfl (by first | rfl | assumption) (by decide) (Nat.le_of_ble_eq_true rfl) ?_
    refine mw_get hr hr17 hrt hct hn hN (nI_add a u) (by omega) ?_
    by_cases hz : A c (a + u) = A c (q + u)
    · rw [if_pos hz] at hk
      refine pw_icmp_ne 102 dX3_findMatch_93 (by decide) (fun q => absurd (hz.symm) q) (fun _ => ?_)
      refine ps_iinc (l' := [_, _, _, _, _, _, _]) 1 dX3_findMatch_96 (by decide) rfl (by decide) rfl rfl ?_
      refine pw_goto 70 dX3_findMatch_99 (by decide) ?_
      rw [nI_1]
      exact ih (u + 1) (by omega) hk
    · rw [if_neg hz] at hk
      refine pw_icmp_ne 102 dX3_findMatch_93 (by decide) (fun _ => ?_) (fun q => absurd q (fun z => hz z.symm))
      exact hk
theorem fm_loop {a b : Nat} (hr : isRow r c cap) (hr17 : ¬ r = 17) (ht17 : ¬ t = 17) (hrt : ¬ r = t) (hct : ¬ c = tc) (htc : ¬ tc = 21) (hn : F r 1 = nI n) (hN : n ≤ cap) (hn9 : n ≤ 300) (ha : a < n) (hb : b < 256) (hfa : A c a = nI b) (h21 : ∀ j, j < n → A 21 j = erl (A c) j) : ∀ (k p u : Nat) (g : Value), p ≤ k → p ≤ a → a - p ≤ 255 → u ≤ a - p →
    (∀ l, PW Γ mX3_findMatch 145 l [] (MW F A t tc m f0 L (keep3 (mbest (A c) n a (min a 255))) rf lo X) 0 0 Q) →
    PW Γ mX3_findMatch 33 [.ref 17, .ref r, .int (nI a), .int (nI (most n a)), .int (lst (A c) p b), .int (nI u), g] [] (MW F A t tc m f0 L (keep3 (mbest (A c) n a (a - p))) rf lo X) 0 0 Q := by
  obtain ⟨h1, h2, h9, hc⟩ := id hr
  have hm : most n a ≤ n - a ∧ most n a ≤ 130 ∧ 1 ≤ most n a := by unfold most; omega
  intro k
  induction k with
  | zero =>
    intro p u g hp hpa h255 hu hk
    have hp0 : p = 0 := by omega
    subst hp0
    have hx := mbest_le (f := A c) (n := n) (a := a) (a - 0)
    have hk3 : (keep3 (mbest (A c) n a (a - 0))).1 ≤ most n a := by
      unfold keep3
      split
      · exact hx
      · exact Nat.zero_le _
    have hfin : keep3 (mbest (A c) n a (min a 255)) = keep3 (mbest (A c) n a (a - 0)) := by rw [show min a 255 = a - 0 by omega]
    rw [hfin] at hk
    by_cases hu5 : 255 ≤ u
    · refine pw_iload rfl dX3_findMatch_33 ?_
      refine pw_sipush 255 (by decide) dX3_findMatch_35 ?_
      refine pw_icmp_ge 145 dX3_findMatch_38 (by decide) (fun _ => ?_) (fun q => absurd (nI_le (a := 255) hu5 (by omega)) q)
      exact hk _
    · refine pw_iload rfl dX3_findMatch_33 ?_
      refine pw_sipush 255 (by decide) dX3_findMatch_35 ?_
      refine pw_icmp_ge 145 dX3_findMatch_38 (by decide) (fun q => absurd q (nI_ge (b := 255) (by omega) (by omega))) (fun _ => ?_)
      refine pw_aload_n rfl dX3_findMatch_41 ?_
      refine pw_gI dX3_findMatch_42 fX3_45 (by first | rfl | assumption) rfl ?_
      refine pw_iload_n rfl dX3_findMatch_45 ?_
      have e7 : mwF F t (m + L.length) (keep3 (mbest (A c) n a (a - 0))) 17 7 = nI (keep3 (mbest (A c) n a (a - 0))).1 := mwF_7 ht17
      unfold mwF at e7
      rw [e7]
      by_cases hms : most n a ≤ (keep3 (mbest (A c) n a (a - 0))).1
      · refine pw_icmp_ge 145 dX3_findMatch_46 (by decide) (fun _ => ?_) (fun q => absurd (nI_le hms (by omega)) q)
        exact hk _
      · refine pw_icmp_ge 145 dX3_findMatch_46 (by decide) (fun q => absurd q (nI_ge (by omega) (by omega))) (fun _ => ?_)
        refine pw_iload rfl dX3_findMatch_49 ?_
        refine pw_if_lt 145 dX3_findMatch_51 (by decide) (fun _ => ?_) (fun q => absurd (by show (-1 : Int32) < 0; decide) q)
        exact hk _
  | succ k ih =>
    intro p u g hp hpa h255 hu hk
    have hx := mbest_le (f := A c) (n := n) (a := a) (a - p)
    have hk3 : (keep3 (mbest (A c) n a (a - p))).1 ≤ most n a := by
      unfold keep3
      split
      · exact hx
      · exact Nat.zero_le _
    by_cases hu5 : 255 ≤ u
    · have hfin : keep3 (mbest (A c) n a (min a 255)) = keep3 (mbest (A c) n a (a - p)) := by rw [show min a 255 = a - p by omega]
      rw [hfin] at hk
      refine pw_iload rfl dX3_findMatch_33 ?_
      refine pw_sipush 255 (by decide) dX3_findMatch_35 ?_
      refine pw_icmp_ge 145 dX3_findMatch_38 (by decide) (fun _ => ?_) (fun q => absurd (nI_le (a := 255) hu5 (by omega)) q)
      exact hk _
    · refine pw_iload rfl dX3_findMatch_33 ?_
      refine pw_sipush 255 (by decide) dX3_findMatch_35 ?_
      refine pw_icmp_ge 145 dX3_findMatch_38 (by decide) (fun q => absurd q (nI_ge (b := 255) (by omega) (by omega))) (fun _ => ?_)
      refine pw_aload_n rfl dX3_findMatch_41 ?_
      refine pw_gI dX3_findMatch_42 fX3_45 (by first | rfl | assumption) rfl ?_
      refine pw_iload_n rfl dX3_findMatch_45 ?_
      have e7 : mwF F t (m + L.length) (keep3 (mbest (A c) n a (a - p))) 17 7 = nI (keep3 (mbest (A c) n a (a - p))).1 := mwF_7 ht17
      unfold mwF at e7
      rw [e7]
      by_cases hms : most n a ≤ (keep3 (mbest (A c) n a (a - p))).1
      · have hfull : (mbest (A c) n a (a - p)).1 = most n a := by
          unfold keep3 at hms
          split at hms
          · omega
          · have : most n a ≤ 0 := hms
            omega
        have hfin : keep3 (mbest (A c) n a (min a 255)) = keep3 (mbest (A c) n a (a - p)) := by
          rw [show min a 255 = (a - p) + (min a 255 - (a - p)) by omega, mbest_full hfull]
        rw [hfin] at hk
        refine pw_icmp_ge 145 dX3_findMatch_46 (by decide) (fun _ => ?_) (fun q => absurd (nI_le hms (by omega)) q)
        exact hk _
      · refine pw_icmp_ge 145 dX3_findMatch_46 (by decide) (fun q => absurd q (nI_ge (by omega) (by omega))) (fun _ => ?_)
        refine pw_iload rfl dX3_findMatch_49 ?_
        rcases lst_or (A c) b p with ⟨g1, g2⟩ | ⟨q, g1, g2, g3, g4⟩
        · have hfin : keep3 (mbest (A c) n a (min a 255)) = keep3 (mbest (A c) n a (a - p)) := by
            rw [show min a 255 = (a - p) + (min a 255 - (a - p)) by omega, mbest_gap _ (fun y z1 z2 z3 => g2 (a - y) (by omega) (by rw [← z3]; exact hfa))]
          rw [hfin] at hk
          rw [g1]
          refine pw_if_lt 145 dX3_findMatch_51 (by decide) (fun _ => ?_) (fun q => absurd (by decide) q)
          exact hk _
        · rw [g2]
          refine pw_if_lt 145 dX3_findMatch_51 (by decide) (fun q => absurd q (nI_pos (by omega))) (fun _ => ?_)
          refine pw_iload_n rfl dX3_findMatch_54 ?_
          refine pw_iload rfl dX3_findMatch_55 ?_
          refine pw_isub dX3_findMatch_57 ?_
          rw [pk_sub (by omega)]
          by_cases h5 : a - q ≤ 255
          · refine pw_sipush 255 (by decide) dX3_findMatch_58 ?_
            refine pw_icmp_le 67 dX3_findMatch_61 (by decide) (fun _ => ?_) (fun q => absurd (nI_le (b := 255) h5 (by omega)) q)
            refine pw_iconst 1 (by decide) dX3_findMatch_67 ?_
            refine ps_istore (l' := [_, _, _, _, _, _, _]) dX3_findMatch_68 (by decide) rfl rfl ?_
            refine fm_inner hr hr17 hrt hct hn hN hn9 (by omega) ha (most n a - 1) 1 (by omega) ?_
            rw [← mlen_1 (by rw [show a - (a - q) = q by omega, hfa, g3]) ha]
            have hgap : mbest (A c) n a (a - q - 1) = mbest (A c) n a (a - p) := by
              rw [show a - q - 1 = (a - p) + (a - q - 1 - (a - p)) by omega]
              exact mbest_gap _ (fun y z1 z2 z3 => g4 (a - y) (by omega) (by omega) (by rw [← z3]; exact hfa))
            have hst := keep3_step (f := A c) (n := n) (a := a) (d := a - q - 1)
            rw [show a - q - 1 + 1 = a - q by omega, hgap] at hst
            have hml := mlen_le (f := A c) (n := n) (a := a) (d := a - q)
            have key : PW Γ mX3_findMatch 131 [.ref 17, .ref r, .int (nI a), .int (nI (most n a)), .int (nI q), .int (nI u), .int (nI (mlen (A c) n a (a - q)))] [] (MW F A t tc m f0 L (keep3 (mbest (A c) n a (a - q))) rf lo X) 0 0 Q := by
              refine pw_aload_n rfl dX3_findMatch_131 ?_
              refine pw_iload rfl dX3_findMatch_132 ?_
              refine pc_V1 dX3_findMatch_134 lX3_144 rfl (by first | rfl | assumption) (by decide) (Nat.le_of_ble_eq_true rfl) ?_
              refine mw_before rfl (by omega) htc ?_
              rw [h21 q (by omega)]
              have e9 : erl (A c) q = lst (A c) q b := by
                unfold erl
                rw [g3, nI_clamp (by omega)]
              rw [e9]
              refine ps_istore (l' := [_, _, _, _, _, _, _]) dX3_findMatch_137 (by decide) rfl rfl ?_
              refine ps_iinc (l' := [_, _, _, _, _, _, _]) 1 dX3_findMatch_139 (by decide) rfl (by decide) rfl rfl ?_
              refine pw_goto 33 dX3_findMatch_142 (by decide) ?_
              rw [nI_1]
              exact ih q (u + 1) _ (by omega) (by omega) h5 (by omega) hk
            rw [hst] at key
            by_cases h3 : 3 ≤ mlen (A c) n a (a - q)
            · refine pw_iload rfl dX3_findMatch_102 ?_
              refine pw_iconst 3 (by decide) dX3_findMatch_104 ?_
              refine pw_icmp_lt 131 dX3_findMatch_105 (by decide) (fun q => absurd q (nI_nlt (b := 3) h3 (by omega))) (fun _ => ?_)
              refine pw_iload rfl dX3_findMatch_108 ?_
              refine pw_aload_n rfl dX3_findMatch_110 ?_
              refine pw_gI dX3_findMatch_111 fX3_45 (by first | rfl | assumption) rfl ?_
              rw [e7]
              by_cases h4 : (keep3 (mbest (A c) n a (a - p))).1 < mlen (A c) n a (a - q)
              · rw [if_pos ⟨h3, h4⟩] at key
                refine pw_icmp_le 131 dX3_findMatch_114 (by decide) (fun q => absurd q (nI_ge h4 (by omega))) (fun _ => ?_)
                refine pw_aload_n rfl dX3_findMatch_117 ?_
                refine pw_iload rfl dX3_findMatch_118 ?_
                refine pw_pI dX3_findMatch_120 fX3_45 (by first | rfl | assumption) rfl ⟨rfl, rfl⟩ ?_
                refine pw_aload_n rfl dX3_findMatch_123 ?_
                refine pw_iload_n rfl dX3_findMatch_124 ?_
                refine pw_iload rfl dX3_findMatch_125 ?_
                refine pw_isub dX3_findMatch_127 ?_
                rw [pk_sub (by omega)]
                refine pw_pI dX3_findMatch_128 fX3_49 (by first | rfl | assumption) rfl ⟨rfl, rfl⟩ ?_
                have e10 := mwF_s (F := F) (t := t) (k := m + L.length) (u := mlen (A c) n a (a - q)) (v := a - q) (x := keep3 (mbest (A c) n a (a - p))) ht17
                unfold mwF at e10
                rw [e10]
                exact key
              · rw [if_neg (fun z => h4 z.2)] at key
                refine pw_icmp_le 131 dX3_findMatch_114 (by decide) (fun _ => ?_) (fun q => absurd (nI_le (by omega) (by omega)) q)
                exact key
            · rw [if_neg (fun z => h3 z.1)] at key
              refine pw_iload rfl dX3_findMatch_102 ?_
              refine pw_iconst 3 (by decide) dX3_findMatch_104 ?_
              refine pw_icmp_lt 131 dX3_findMatch_105 (by decide) (fun _ => ?_) (fun q => absurd (nI_lt (b := 3) (by omega) (by omega)) q)
              exact key
          · have hfin : keep3 (mbest (A c) n a (min a 255)) = keep3 (mbest (A c) n a (a - p)) := by
              rw [show min a 255 = (a - p) + (min a 255 - (a - p)) by omega, mbest_gap _ (fun y z1 z2 z3 => g4 (a - y) (by omega) (by omega) (by rw [← z3]; exact hfa))]
            rw [hfin] at hk
            refine pw_sipush 255 (by decide) dX3_findMatch_58 ?_
            refine pw_icmp_le 67 dX3_findMatch_61 (by decide) (fun q => absurd q (nI_ge (a := 255) (by omega) (by omega))) (fun _ => ?_)
            refine pw_goto 145 dX3_findMatch_64 (by decide) ?_
            exact hk _
theorem w_find {a : Nat} {y : Int32} (hr : isRow r c cap) (hr17 : ¬ r = 17) (ht17 : ¬ t = 17) (hrt : ¬ r = t) (hct : ¬ c = tc) (htc : ¬ tc = 21) (hn : F r 1 = nI n) (hN : n ≤ cap) (hn9 : n ≤ 300) (hB : isB (A c) n) (hy : y = nI a) (ha : a < n) (h21 : ∀ j, j < n → A 21 j = erl (A c) j)
    (hQ : Q none (MW F A t tc m f0 L (keep3 (mbest (A c) n a (min a 255))) rf lo X)) : PM Γ mX3_findMatch [.ref 17, .ref r, .int y] (MW F A t tc m f0 L x rf lo X) 0 0 Q := by
  obtain ⟨h1, h2, h9, hc⟩ := id hr
  obtain ⟨b, hb, hfa⟩ := hB a ha
  subst hy
  refine PM.go (l := [_, _, _, .float 0, .float 0, .float 0, .float 0]) rfl rfl (Nat.le_of_ble_eq_true rfl) rfl ?_
  refine pw_sipush 130 (by decide) dX3_findMatch_0 ?_
  refine pw_aload_n rfl dX3_findMatch_3 ?_
  refine pc_V0 dX3_findMatch_4 lX3_52 rfl (by first | rfl | assumption) (by decide) (Nat.le_of_ble_eq_true rfl) ?_
  refine mw_count hr hr17 hrt hn ?_
  refine pw_iload_n rfl dX3_findMatch_7 ?_
  refine pw_isub dX3_findMatch_8 ?_
  rw [pk_sub (by omega)]
  refine pw_minN 130 (n - a) rfl rfl (by omega) (by omega) dX3_findMatch_9 lX3_87 (by decide) (Nat.le_of_ble_eq_true rfl) ?_
  refine ps_istore_n (l' := [_, _, _, _, _, _, _]) dX3_findMatch_12 (by decide) rfl rfl ?_
  refine pw_aload_n rfl dX3_findMatch_13 ?_
  refine pw_iconst 0 (by decide) dX3_findMatch_14 ?_
  rw [show (0 : Int32) = nI 0 from rfl]
  refine pw_pI dX3_findMatch_15 fX3_45 (by first | rfl | assumption) rfl ⟨rfl, rfl⟩ ?_
  refine pw_aload_n rfl dX3_findMatch_18 ?_
  refine pw_iconst 0 (by decide) dX3_findMatch_19 ?_
  rw [show (0 : Int32) = nI 0 from rfl]
  refine pw_pI dX3_findMatch_20 fX3_49 (by first | rfl | assumption) rfl ⟨rfl, rfl⟩ ?_
  have e10 := mwF_s (F := F) (t := t) (k := m + L.length) (u := 0) (v := 0) (x := x) ht17
  unfold mwF at e10
  rw [e10]
  have e11 : HS (upF (upF (upF F 17 7 (nI ((0, 0) : Nat × Nat).1)) 17 8 (nI ((0, 0) : Nat × Nat).2)) t 1 (nI (m + L.length))) (stA A tc (app f0 m L)) rf lo X = MW F A t tc m f0 L (0, 0) rf lo X := rfl
  rw [e11]
  refine pw_aload_n rfl dX3_findMatch_23 ?_
  refine pw_iload_n rfl dX3_findMatch_24 ?_
  refine pc_V1 dX3_findMatch_25 lX3_144 rfl (by first | rfl | assumption) (by decide) (Nat.le_of_ble_eq_true rfl) ?_
  refine mw_before rfl (by omega) htc ?_
  rw [h21 a ha]
  have e9 : erl (A c) a = lst (A c) a b := by
    unfold erl
    rw [hfa, nI_clamp (by omega)]
  rw [e9]
  refine ps_istore (l' := [_, _, _, _, _, _, _]) dX3_findMatch_28 (by decide) rfl rfl ?_
  refine pw_iconst 0 (by decide) dX3_findMatch_30 ?_
  refine ps_istore (l' := [_, _, _, _, _, _, _]) dX3_findMatch_31 (by decide) rfl rfl ?_
  have e12 : ((0, 0) : Nat × Nat) = keep3 (mbest (A c) n a (a - a)) := by
    rw [Nat.sub_self]
    rfl
  rw [e12]
  refine fm_loop hr hr17 ht17 hrt hct htc hn hN hn9 ha hb hfa h21 a a 0 _ (Nat.le_refl _) (Nat.le_refl _) (by omega) (by omega) (fun l => ?_)
  refine pw_vret dX3_findMatch_145 rfl ?_
  exact hQ
end
/-- where the plain bytes end: at z, or where a match begins -/
def mend (f : Nat → Int32) (n z : Nat) : Nat → Nat → Nat
  | 0, j => j
  | k + 1, j => if j < z ∧ (mbest f n j (min j 255)).1 < 3 then mend f n z k (j + 1) else j
theorem mend_ge (f : Nat → Int32) (n z : Nat) : ∀ k j, j ≤ mend f n z k j
  | 0, _ => Nat.le_refl _
  | k + 1, j => by
    show j ≤ if j < z ∧ (mbest f n j (min j 255)).1 < 3 then mend f n z k (j + 1) else j
    split
    · exact Nat.le_trans (Nat.le_succ j) (mend_ge f n z k (j + 1))
    · exact Nat.le_refl _
theorem mend_le (f : Nat → Int32) (n z : Nat) : ∀ k j, j ≤ z → mend f n z k j ≤ z
  | 0, _, h => h
  | k + 1, j, h => by
    show (if j < z ∧ (mbest f n j (min j 255)).1 < 3 then mend f n z k (j + 1) else j) ≤ z
    split
    · rename_i q
      exact mend_le f n z k (j + 1) q.1
    · exact h
theorem mend_fuel (f : Nat → Int32) (n z : Nat) : ∀ k j, z - j ≤ k → mend f n z k j = mend f n z (z - j) j
  | 0, j, h => by rw [show z - j = 0 by omega]
  | k + 1, j, h => by
    by_cases hz : j < z
    · rw [show z - j = (z - (j + 1)) + 1 by omega]
      show (if j < z ∧ (mbest f n j (min j 255)).1 < 3 then mend f n z k (j + 1) else j) = if j < z ∧ (mbest f n j (min j 255)).1 < 3 then mend f n z (z - (j + 1)) (j + 1) else j
      rw [mend_fuel f n z k (j + 1) (by omega)]
    · rw [show z - j = 0 by omega]
      show (if j < z ∧ (mbest f n j (min j 255)).1 < 3 then mend f n z k (j + 1) else j) = j
      rw [if_neg (fun q => hz q.1)]
theorem of_nI (x : Int32) : ∃ k : Nat, x = nI k := ⟨x.toBitVec.toNat, by
  apply Int32.toBitVec_inj.mp
  show x.toBitVec = BitVec.ofNat 32 x.toBitVec.toNat
  simp⟩
theorem keep3_lt {x : Nat × Nat} : (keep3 x).1 < 3 ↔ x.1 < 3 := by
  unfold keep3
  split
  · exact Iff.rfl
  · exact ⟨fun _ => by omega, fun _ => by show 0 < 3; decide⟩
/-- MATCHES: what is made of the n bytes f from a on -/
def pmat (f : Nat → Int32) (n : Nat) : Nat → Nat → List Int32
  | 0, _ => []
  | k + 1, a => if a < n then
      (if 3 ≤ (mbest f n a (min a 255)).1 then [nI ((mbest f n a (min a 255)).1 + 125), nI (mbest f n a (min a 255)).2] ++ pmat f n k (a + (mbest f n a (min a 255)).1)
       else (nI (mend f n (min n (a + 128)) n (a + 1) - a - 1) :: slice f a (mend f n (min n (a + 128)) n (a + 1))) ++ pmat f n k (mend f n (min n (a + 128)) n (a + 1)))
    else []
section
variable {Γ : Nat × (Nat → Int32)} {F A : Nat → Nat → Int32} {rf : Nat} {lo : Int64} {X : PH} {Q : Option Value → PH → Prop} {r c cap n t tc tcap m : Nat} {f0 : Nat → Int32} {L : List Int32} {x : Nat × Nat}
theorem ep_loop {a z : Nat} (hr : isRow r c cap) (hr17 : ¬ r = 17) (ht17 : ¬ t = 17) (hrt : ¬ r = t) (hct : ¬ c = tc) (htc : ¬ tc = 21) (hn : F r 1 = nI n) (hN : n ≤ cap) (hn9 : n ≤ 300) (hB : isB (A c) n) (h21 : ∀ j, j < n → A 21 j = erl (A c) j) (hz : z ≤ n) : ∀ (k e : Nat) (x : Nat × Nat), e + k = z →
    (∀ x, PW Γ mX3_endOfPlain 48 [.ref 17, .ref r, .int (nI a), .int (nI z), .int (nI (mend (A c) n z k e))] [] (MW F A t tc m f0 L x rf lo X) 0 0 Q) →
    PW Γ mX3_endOfPlain 18 [.ref 17, .ref r, .int (nI a), .int (nI z), .int (nI e)] [] (MW F A t tc m f0 L x rf lo X) 0 0 Q := by
  intro k
  induction k with
  | zero =>
    intro e x he hk
    have he : e = z := by omega
    subst he
    refine pw_iload rfl dX3_endOfPlain_18 ?_
    refine pw_iload_n rfl dX3_endOfPlain_20 ?_
    refine pw_icmp_ge 48 dX3_endOfPlain_21 (by decide) (fun _ => ?_) (fun q => absurd (nI_le (Nat.le_refl _) (by omega)) q)
    exact hk x
  | succ k ih =>
    intro e x he hk
    have e0 : mend (A c) n z (k + 1) e = if e < z ∧ (mbest (A c) n e (min e 255)).1 < 3 then mend (A c) n z k (e + 1) else e := rfl
    rw [e0] at hk
    have hbl := mbest_le (f := A c) (n := n) (a := e) (min e 255)
    have hm : most n e ≤ 130 := by unfold most; omega
    have hk130 : (keep3 (mbest (A c) n e (min e 255))).1 ≤ 130 := by
      unfold keep3
      split
      · omega
      · exact Nat.zero_le _
    refine pw_iload rfl dX3_endOfPlain_18 ?_
    refine pw_iload_n rfl dX3_endOfPlain_20 ?_
    refine pw_icmp_ge 48 dX3_endOfPlain_21 (by decide) (fun q => absurd q (nI_ge (by omega) (by omega))) (fun _ => ?_)
    refine pw_aload_n rfl dX3_endOfPlain_24 ?_
    refine pw_aload_n rfl dX3_endOfPlain_25 ?_
    refine pw_iload rfl dX3_endOfPlain_26 ?_
    refine pc_V2 dX3_endOfPlain_28 lX3_127 rfl (by first | rfl | assumption) (by decide) (Nat.le_of_ble_eq_true rfl) ?_
    refine w_find hr hr17 ht17 hrt hct htc hn hN hn9 hB rfl (by omega) h21 ?_
    refine pw_aload_n rfl dX3_endOfPlain_31 ?_
    refine pw_gI dX3_endOfPlain_32 fX3_45 (by first | rfl | assumption) rfl ?_
    refine pw_iconst 3 (by decide) dX3_endOfPlain_35 ?_
    have e7 : mwF F t (m + L.length) (keep3 (mbest (A c) n e (min e 255))) 17 7 = nI (keep3 (mbest (A c) n e (min e 255))).1 := mwF_7 ht17
    unfold mwF at e7
    rw [e7]
    by_cases hq : (mbest (A c) n e (min e 255)).1 < 3
    · rw [if_pos ⟨by omega, hq⟩] at hk
      refine pw_icmp_lt 42 dX3_endOfPlain_36 (by decide) (fun _ => ?_) (fun q => absurd (nI_lt (b := 3) (keep3_lt.mpr hq) (by omega)) q)
      refine ps_iinc (l' := [_, _, _, _, _]) 1 dX3_endOfPlain_42 (by decide) rfl (by decide) rfl rfl ?_
      refine pw_goto 18 dX3_endOfPlain_45 (by decide) ?_
      rw [nI_1]
      exact ih (e + 1) _ (by omega) hk
    · rw [if_neg (fun q => hq q.2)] at hk
      refine pw_icmp_lt 42 dX3_endOfPlain_36 (by decide) (fun q => absurd q (nI_nlt (b := 3) (Nat.not_lt.mp (fun q => hq (keep3_lt.mp q))) (by omega))) (fun _ => ?_)
      refine pw_goto 48 dX3_endOfPlain_39 (by decide) ?_
      exact hk _
theorem w_endp {a : Nat} {y : Int32} (hr : isRow r c cap) (hr17 : ¬ r = 17) (ht17 : ¬ t = 17) (hrt : ¬ r = t) (hct : ¬ c = tc) (htc : ¬ tc = 21) (hn : F r 1 = nI n) (hN : n ≤ cap) (hn9 : n ≤ 300) (hB : isB (A c) n) (h21 : ∀ j, j < n → A 21 j = erl (A c) j) (hy : y = nI a) (ha : a < n)
    (hQ : ∀ x, Q (some (.int (nI (mend (A c) n (min n (a + 128)) n (a + 1))))) (MW F A t tc m f0 L x rf lo X)) : PM Γ mX3_endOfPlain [.ref 17, .ref r, .int y] (MW F A t tc m f0 L x rf lo X) 0 0 Q := by
  obtain ⟨h1, h2, h9, hc⟩ := id hr
  subst hy
  refine PM.go (l := [_, _, _, .float 0, .float 0]) rfl rfl (Nat.le_of_ble_eq_true rfl) rfl ?_
  refine pw_aload_n rfl dX3_endOfPlain_0 ?_
  refine pc_V0 dX3_endOfPlain_1 lX3_52 rfl (by first | rfl | assumption) (by decide) (Nat.le_of_ble_eq_true rfl) ?_
  refine mw_count hr hr17 hrt hn ?_
  refine pw_iload_n rfl dX3_endOfPlain_4 ?_
  refine pw_sipush 128 (by decide) dX3_endOfPlain_5 ?_
  refine pw_iadd dX3_endOfPlain_8 ?_
  refine pw_minN n (a + 128) rfl (nI_add a 128) (by omega) (by omega) dX3_endOfPlain_9 lX3_87 (by decide) (Nat.le_of_ble_eq_true rfl) ?_
  refine ps_istore_n (l' := [_, _, _, _, _]) dX3_endOfPlain_12 (by decide) rfl rfl ?_
  refine pw_iload_n rfl dX3_endOfPlain_13 ?_
  refine pw_iconst 1 (by decide) dX3_endOfPlain_14 ?_
  refine pw_iadd dX3_endOfPlain_15 ?_
  refine ps_istore (l' := [_, _, _, _, _]) dX3_endOfPlain_16 (by decide) rfl rfl ?_
  rw [nI_1]
  refine ep_loop hr hr17 ht17 hrt hct htc hn hN hn9 hB h21 (z := min n (a + 128)) (by omega) (min n (a + 128) - (a + 1)) (a + 1) x (by omega) (fun x => ?_)
  rw [← mend_fuel (A c) n (min n (a + 128)) n (a + 1) (by omega)]
  refine pw_iload rfl dX3_endOfPlain_48 ?_
  refine pw_iret dX3_endOfPlain_50 (Or.inl rfl) ?_
  exact hQ x
theorem mw_push {b : Int32} (ht : isRow t tc tcap) (hL : m + L.length < tcap) (hQ : Q none (MW F A t tc m f0 (L ++ [b &&& 255]) x rf lo X)) : PM Γ mX6_push [.ref t, .int b] (MW F A t tc m f0 L x rf lo X) 0 0 Q := by
  unfold MW
  exact w_push ht hL hQ
theorem mw_plain (hr : isRow r c cap) (hr17 : ¬ r = 17) (ht : isRow t tc tcap) (hrt : ¬ r = t) (hct : ¬ c = tc) (hn : F r 1 = nI n) (hN : n ≤ cap) (hB : isB (A c) n) {a e : Nat} {x1 y : Int32} (hx : x1 = nI a) (hy : y = nI e) (hae : a < e) (he : e ≤ n) (h128 : e - a ≤ 128) (hcap : m + L.length + (e - a) + 1 ≤ tcap)
    (hQ : Q none (MW F A t tc m f0 (L ++ (nI (e - a - 1) :: slice (A c) a e)) x rf lo X)) : PM Γ mX3_writePlain [.ref r, .int x1, .int y, .ref t] (MW F A t tc m f0 L x rf lo X) 0 0 Q := by
  unfold MW
  exact w_plain hr ht hrt hct (by rw [upF_n (by omega), upF_n (by omega)]; exact hn) hN hB hx hy hae he h128 hcap hQ
theorem wm_loop (hr : isRow r c cap) (hr17 : ¬ r = 17) (ht17 : ¬ t = 17) (ht : isRow t tc tcap) (hrt : ¬ r = t) (hct : ¬ c = tc) (htc : ¬ tc = 21) (hn : F r 1 = nI n) (hN : n ≤ cap) (hn9 : n ≤ 300) (hB : isB (A c) n) (h21 : ∀ j, j < n → A 21 j = erl (A c) j) : ∀ (k it a : Nat) (L : List Int32) (x : Nat × Nat) (g6 : Value), it + k = n → it ≤ a → a ≤ n → m + L.length + 2 * (n - a) ≤ tcap →
    (∀ l x, PW Γ mX3_writeMatches 106 l [] (MW F A t tc m f0 (L ++ pmat (A c) n k a) x rf lo X) 0 0 Q) →
    PW Γ mX3_writeMatches 16 [.ref 17, .ref r, .ref t, .int (nI n), .int (nI a), .int (nI it), g6] [] (MW F A t tc m f0 L x rf lo X) 0 0 Q := by
  obtain ⟨h1, h2, h9, hc⟩ := id hr
  obtain ⟨g1, g2, g9, gc⟩ := id ht
  intro k
  induction k with
  | zero =>
    intro it a L x g6 hit ha ha2 hcap hk
    have hi : it = n := by omega
    subst hi
    refine pw_iload rfl dX3_writeMatches_16 ?_
    refine pw_iload_n rfl dX3_writeMatches_18 ?_
    refine pw_icmp_ge 106 dX3_writeMatches_19 (by decide) (fun _ => ?_) (fun q => absurd (nI_le (Nat.le_refl _) (by omega)) q)
    have := hk [.ref 17, .ref r, .ref t, .int (nI it), .int (nI a), .int (nI it), g6] x
    rw [show pmat (A c) it 0 a = [] from rfl, List.append_nil] at this
    exact this
  | succ k ih =>
    intro it a L x g6 hit ha ha2 hcap hk
    by_cases han : a < n
    · have e0 : pmat (A c) n (k + 1) a = (if 3 ≤ (mbest (A c) n a (min a 255)).1 then [nI ((mbest (A c) n a (min a 255)).1 + 125), nI (mbest (A c) n a (min a 255)).2] ++ pmat (A c) n k (a + (mbest (A c) n a (min a 255)).1)
         else (nI (mend (A c) n (min n (a + 128)) n (a + 1) - a - 1) :: slice (A c) a (mend (A c) n (min n (a + 128)) n (a + 1))) ++ pmat (A c) n k (mend (A c) n (min n (a + 128)) n (a + 1))) := by
        show (if a < n then _ else _) = _
        rw [if_pos han]
      rw [e0] at hk
      have hbl := mbest_le (f := A c) (n := n) (a := a) (min a 255)
      have hbd := (mbest_d (f := A c) (n := n) (a := a) (min a 255)).1
      have hm : most n a ≤ 130 ∧ most n a ≤ n - a := by unfold most; omega
      refine pw_iload rfl dX3_writeMatches_16 ?_
      refine pw_iload_n rfl dX3_writeMatches_18 ?_
      refine pw_icmp_ge 106 dX3_writeMatches_19 (by decide) (fun q => absurd q (nI_ge (by omega) (by omega))) (fun _ => ?_)
      refine pw_iload rfl dX3_writeMatches_22 ?_
      refine pw_iload_n rfl dX3_writeMatches_24 ?_
      refine pw_icmp_ge 106 dX3_writeMatches_25 (by decide) (fun q => absurd q (nI_ge (by omega) (by omega))) (fun _ => ?_)
      refine pw_aload_n rfl dX3_writeMatches_28 ?_
      refine pw_aload_n rfl dX3_writeMatches_29 ?_
      refine pw_iload rfl dX3_writeMatches_30 ?_
      refine pc_V2 dX3_writeMatches_32 lX3_127 rfl (by first | rfl | assumption) (by decide) (Nat.le_of_ble_eq_true rfl) ?_
      refine w_find hr hr17 ht17 hrt hct htc hn hN hn9 hB rfl han h21 ?_
      refine pw_iload rfl dX3_writeMatches_35 ?_
      refine pw_aload_n rfl dX3_writeMatches_37 ?_
      refine pw_gI dX3_writeMatches_38 fX3_45 (by first | rfl | assumption) rfl ?_
      refine pw_iconst 1 (by decide) dX3_writeMatches_41 ?_
      generalize hM : mbest (A c) n a (min a 255) = M at hk hbl hbd
      have e7 : mwF F t (m + L.length) (keep3 M) 17 7 = nI (keep3 M).1 := mwF_7 ht17
      have e8 : mwF F t (m + L.length) (keep3 M) 17 8 = nI (keep3 M).2 := mwF_8 ht17
      unfold mwF at e7 e8
      have hk130 : (keep3 M).1 ≤ 130 := by
        unfold keep3
        split
        · omega
        · exact Nat.zero_le _
      rw [e7]
      refine pw_maxN (keep3 M).1 1 rfl rfl (by omega) (by omega) dX3_writeMatches_42 lX3_131 (by decide) (Nat.le_of_ble_eq_true rfl) ?_
      refine pw_iadd dX3_writeMatches_45 ?_
      rw [nI_add]
      refine ps_istore (l' := [_, _, _, _, _, _, _]) dX3_writeMatches_46 (by decide) rfl rfl ?_
      refine pw_aload_n rfl dX3_writeMatches_48 ?_
      refine pw_gI dX3_writeMatches_49 fX3_45 (by first | rfl | assumption) rfl ?_
      refine pw_iconst 3 (by decide) dX3_writeMatches_52 ?_
      rw [e7]
      by_cases hq : 3 ≤ M.1
      · rw [if_pos hq] at hk
        have hkM : keep3 M = M := by unfold keep3; rw [if_pos hq]
        rw [hkM] at e7 e8
        rw [hkM]
        refine pw_icmp_lt 78 dX3_writeMatches_53 (by decide) (fun q => absurd q (nI_nlt (b := 3) hq (by omega))) (fun _ => ?_)
        refine pw_aload_n rfl dX3_writeMatches_56 ?_
        refine pw_aload_n rfl dX3_writeMatches_57 ?_
        refine pw_gI dX3_writeMatches_58 fX3_45 (by first | rfl | assumption) rfl ?_
        refine pw_bipush 125 (by decide) dX3_writeMatches_61 ?_
        rw [e7, show (125 : Int32) = nI 125 from rfl]
        refine pw_iadd dX3_writeMatches_63 ?_
        rw [nI_add]
        refine pc_V1 dX3_writeMatches_64 lX3_79 rfl g1 (by decide) (Nat.le_of_ble_eq_true rfl) ?_
        refine mw_push (x := M) ht (by omega) ?_
        rw [nI_and255s (by omega)]
        refine pw_aload_n rfl dX3_writeMatches_67 ?_
        refine pw_aload_n rfl dX3_writeMatches_68 ?_
        refine pw_gI dX3_writeMatches_69 fX3_49 (by first | rfl | assumption) rfl ?_
        have e8' : mwF F t (m + (L ++ [nI (M.1 + 125)]).length) M 17 8 = nI M.2 := mwF_8 ht17
        unfold mwF at e8'
        rw [e8']
        refine pc_V1 dX3_writeMatches_72 lX3_79 rfl g1 (by decide) (Nat.le_of_ble_eq_true rfl) ?_
        refine mw_push (x := M) ht (by rw [List.length_append]; show m + (L.length + 1) < tcap; omega) ?_
        rw [nI_and255s (by omega), List.append_assoc]
        refine pw_goto 96 dX3_writeMatches_75 (by decide) ?_
        refine pw_iload rfl dX3_writeMatches_96 ?_
        refine ps_istore (l' := [_, _, _, _, _, _, _]) dX3_writeMatches_98 (by decide) rfl rfl ?_
        refine ps_iinc (l' := [_, _, _, _, _, _, _]) 1 dX3_writeMatches_100 (by decide) rfl (by decide) rfl rfl ?_
        refine pw_goto 16 dX3_writeMatches_103 (by decide) ?_
        rw [nI_1, show max M.1 1 = M.1 by omega]
        refine ih (it + 1) _ _ _ _ (by omega) (by omega) (by omega) (by rw [List.length_append]; show m + (L.length + 2) + _ ≤ tcap; omega) ?_
        rw [List.append_assoc]
        exact hk
      · rw [if_neg hq] at hk
        have hkM : keep3 M = (0, 0) := by unfold keep3; rw [if_neg hq]
        rw [hkM]
        refine pw_icmp_lt 78 dX3_writeMatches_53 (by decide) (fun _ => ?_) (fun q => absurd (by decide) q)
        refine pw_aload_n rfl dX3_writeMatches_78 ?_
        refine pw_aload_n rfl dX3_writeMatches_79 ?_
        refine pw_iload rfl dX3_writeMatches_80 ?_
        refine pc_V2 dX3_writeMatches_82 lX3_134 rfl rfl (by decide) (Nat.le_of_ble_eq_true rfl) ?_
        refine w_endp (x := (0, 0)) hr hr17 ht17 hrt hct htc hn hN hn9 hB h21 rfl han (fun x => ?_)
        have p1 := mend_ge (A c) n (min n (a + 128)) n (a + 1)
        have p2 := mend_le (A c) n (min n (a + 128)) n (a + 1) (by omega)
        generalize mend (A c) n (min n (a + 128)) n (a + 1) = e at hk p1 p2
        have hsl := slice_len (A c) a e
        refine ps_istore (l' := [_, _, _, _, _, _, _]) dX3_writeMatches_85 (by decide) rfl rfl ?_
        refine pw_aload_n rfl dX3_writeMatches_87 ?_
        refine pw_iload rfl dX3_writeMatches_88 ?_
        refine pw_iload rfl dX3_writeMatches_90 ?_
        refine pw_aload_n rfl dX3_writeMatches_92 ?_
        refine pc_S4 dX3_writeMatches_93 lX3_93 (by decide) (Nat.le_of_ble_eq_true rfl) ?_
        refine mw_plain hr hr17 ht hrt hct hn hN hB rfl rfl (by omega) (by omega) (by omega) (by omega) ?_
        refine pw_iload rfl dX3_writeMatches_96 ?_
        refine ps_istore (l' := [_, _, _, _, _, _, _]) dX3_writeMatches_98 (by decide) rfl rfl ?_
        refine ps_iinc (l' := [_, _, _, _, _, _, _]) 1 dX3_writeMatches_100 (by decide) rfl (by decide) rfl rfl ?_
        refine pw_goto 16 dX3_writeMatches_103 (by decide) ?_
        rw [nI_1]
        refine ih (it + 1) _ _ _ _ (by omega) (by omega) (by omega) (by rw [List.length_append, List.length_cons]; omega) ?_
        rw [List.append_assoc]
        exact hk
    · have e0 : pmat (A c) n (k + 1) a = [] := by
        show (if a < n then _ else _) = _
        rw [if_neg han]
      rw [e0, List.append_nil] at hk
      refine pw_iload rfl dX3_writeMatches_16 ?_
      refine pw_iload_n rfl dX3_writeMatches_18 ?_
      refine pw_icmp_ge 106 dX3_writeMatches_19 (by decide) (fun q => absurd q (nI_ge (by omega) (by omega))) (fun _ => ?_)
      refine pw_iload rfl dX3_writeMatches_22 ?_
      refine pw_iload_n rfl dX3_writeMatches_24 ?_
      refine pw_icmp_ge 106 dX3_writeMatches_25 (by decide) (fun _ => ?_) (fun q => absurd (nI_le (by omega) (by omega)) q)
      exact hk _ _
theorem w_matches (hr : isRow r c cap) (hr17 : ¬ r = 17) (ht17 : ¬ t = 17) (ht : isRow t tc tcap) (hrt : ¬ r = t) (hct : ¬ c = tc) (htc : ¬ tc = 20 ∧ ¬ tc = 21) (hcc : ¬ c = 20 ∧ ¬ c = 21) (hn : F r 1 = nI n) (hN : n ≤ cap) (hn9 : n ≤ 300) (hB : isB (A c) n) (hcap : m + L.length + 2 * n ≤ tcap)
    (hQ : ∀ g1 g2 x, Q none (MW F (stA (stA A 20 g1) 21 g2) t tc m f0 (L ++ pmat (A c) n n 0) x rf lo X)) : PM Γ mX3_writeMatches [.ref 17, .ref r, .ref t] (WS F A t tc m f0 L rf lo X) 0 0 Q := by
  obtain ⟨h1, h2, h9, hc⟩ := id hr
  refine PM.go (l := [_, _, _, .float 0, .float 0, .float 0, .float 0]) rfl rfl (Nat.le_of_ble_eq_true rfl) rfl ?_
  refine pw_aload_n rfl dX3_writeMatches_0 ?_
  refine pw_aload_n rfl dX3_writeMatches_1 ?_
  refine pc_V1 dX3_writeMatches_2 lX3_124 rfl (by first | rfl | assumption) (by decide) (Nat.le_of_ble_eq_true rfl) ?_
  refine w_link hr hrt hct htc hcc hn hN hn9 hB ?_
  refine pw_aload_n rfl dX3_writeMatches_5 ?_
  refine pc_V0 dX3_writeMatches_6 lX3_52 rfl (by first | rfl | assumption) (by decide) (Nat.le_of_ble_eq_true rfl) ?_
  refine w_count hr hrt hn ?_
  refine ps_istore_n (l' := [_, _, _, _, _, _, _]) dX3_writeMatches_9 (by decide) rfl rfl ?_
  refine pw_iconst 0 (by decide) dX3_writeMatches_10 ?_
  refine ps_istore (l' := [_, _, _, _, _, _, _]) dX3_writeMatches_11 (by decide) rfl rfl ?_
  refine pw_iconst 0 (by decide) dX3_writeMatches_13 ?_
  refine ps_istore (l' := [_, _, _, _, _, _, _]) dX3_writeMatches_14 (by decide) rfl rfl ?_
  have hq := hQ (cpn (lst (A c) n) (A 20) 256) (cpn (erl (A c)) (A 21) n)
  generalize hA2 : stA (stA A 20 (cpn (lst (A c) n) (A 20) 256)) 21 (cpn (erl (A c)) (A 21) n) = A2 at hq
  have hAc : A2 c = A c := by rw [← hA2, stA_n (by omega), stA_n (by omega)]
  obtain ⟨u, hu⟩ := of_nI (F 17 7)
  obtain ⟨v, hv⟩ := of_nI (F 17 8)
  have e0 : WS F A2 t tc m f0 L rf lo X = MW F A2 t tc m f0 L (u, v) rf lo X := by
    unfold MW
    rw [upF_self (i := 17) (k := 8) (by rw [upF_n (by decide)]; exact hv.symm), upF_self (i := 17) (k := 7) hu.symm]
  rw [e0]
  refine wm_loop hr hr17 ht17 ht hrt hct htc.2 hn hN hn9 (by rw [hAc]; exact hB) (fun j hj => by rw [hAc, ← hA2, stA_s, cpn_lt hj]) n 0 0 L (u, v) _ (by omega) (by omega) (by omega) (by omega) (fun l x => ?_)
  rw [hAc]
  refine pw_vret dX3_writeMatches_106 rfl ?_
  exact hq x
end
