/-! RUNS: the class's writeRuns, the reference's packRuns -/
theorem pend_fuel (f : Nat → Int32) (n z : Nat) : ∀ k j, z - j ≤ k → pend f n z k j = pend f n z (z - j) j
  | 0, j, h => by rw [show z - j = 0 by omega]
  | k + 1, j, h => by
    by_cases hz : j < z
    · rw [show z - j = (z - (j + 1)) + 1 by omega]
      show (if j < z ∧ runl f n j 3 < 3 then pend f n z k (j + 1) else j) = if j < z ∧ runl f n j 3 < 3 then pend f n z (z - (j + 1)) (j + 1) else j
      rw [pend_fuel f n z k (j + 1) (by omega)]
    · rw [show z - j = 0 by omega]
      show (if j < z ∧ runl f n j 3 < 3 then pend f n z k (j + 1) else j) = j
      rw [if_neg (fun q => hz q.1)]
section
variable {Γ : Nat × (Nat → Int32)} {F A : Nat → Nat → Int32} {rf : Nat} {lo : Int64} {X : PH} {Q : Option Value → PH → Prop} {r c cap n t tc tcap m : Nat} {f0 : Nat → Int32}
theorem wr_pend (hr : isRow r c cap) (hrt : ¬ r = t) (hct : ¬ c = tc) (hn : F r 1 = nI n) (hN : n ≤ cap) {L : List Int32} {x1 x2 x3 : Int32} {z : Nat} (hz : z ≤ n) : ∀ (k e : Nat), e + k = z →
    PW Γ mX3_writeRuns 99 [.ref r, .ref t, .int (nI n), .int x1, .int x2, .int x3, .int (nI (pend (A c) n z k e)), .int (nI z)] [] (WS F A t tc m f0 L rf lo X) 0 0 Q →
    PW Γ mX3_writeRuns 75 [.ref r, .ref t, .int (nI n), .int x1, .int x2, .int x3, .int (nI e), .int (nI z)] [] (WS F A t tc m f0 L rf lo X) 0 0 Q := by
  obtain ⟨h1, h2, h9, hc⟩ := id hr
  intro k
  induction k with
  | zero =>
    intro e he hk
    have he : e = z := by omega
    subst he
    refine pw_iload rfl dX3_writeRuns_75 ?_
    refine pw_iload rfl dX3_writeRuns_77 ?_
    refine pw_icmp_ge 99 dX3_writeRuns_79 (by decide) (fun _ => ?_) (fun q => absurd (nI_le (Nat.le_refl _) (by omega)) q)
    exact hk
  | succ k ih =>
    intro e he hk
    have e0 : pend (A c) n z (k + 1) e = if e < z ∧ runl (A c) n e 3 < 3 then pend (A c) n z k (e + 1) else e := rfl
    rw [e0] at hk
    have hb := runl_le (f := A c) (n := n) (a := e) (m := 3) (by omega) (by decide)
    refine pw_iload rfl dX3_writeRuns_75 ?_
    refine pw_iload rfl dX3_writeRuns_77 ?_
    refine pw_icmp_ge 99 dX3_writeRuns_79 (by decide) (fun q => absurd q (nI_ge (by omega) (by omega))) (fun _ => ?_)
    refine pw_aload_n rfl dX3_writeRuns_82 ?_
    refine pw_iload rfl dX3_writeRuns_83 ?_
    refine pw_iconst 3 (by decide) dX3_writeRuns_85 ?_
    refine pc_S3 dX3_writeRuns_86 lX3_83 (by decide) (Nat.le_of_ble_eq_true rfl) ?_
    refine w_runAt (z := 3) hr hrt hct hn hN rfl rfl (by omega) (by omega) ?_
    refine pw_iconst 3 (by decide) dX3_writeRuns_89 ?_
    by_cases hq : runl (A c) n e 3 < 3
    · rw [if_pos ⟨by omega, hq⟩] at hk
      refine pw_icmp_ge 99 dX3_writeRuns_90 (by decide) (fun q => absurd q (nI_ge (b := 3) hq (by omega))) (fun _ => ?_)
      refine ps_iinc (l' := [_, _, _, _, _, _, _, _]) 1 dX3_writeRuns_93 (by decide) rfl (by decide) rfl rfl ?_
      refine pw_goto 75 dX3_writeRuns_96 (by decide) ?_
      rw [nI_1]
      exact ih (e + 1) (by omega) hk
    · rw [if_neg (fun z => hq z.2)] at hk
      refine pw_icmp_ge 99 dX3_writeRuns_90 (by decide) (fun _ => ?_) (fun q => absurd (nI_le (a := 3) (by omega) (by omega)) q)
      exact hk
theorem wr_loop (hr : isRow r c cap) (ht : isRow t tc tcap) (hrt : ¬ r = t) (hct : ¬ c = tc) (hn : F r 1 = nI n) (hN : n ≤ cap) (hn9 : n ≤ 300) (hB : isB (A c) n) : ∀ (k it a : Nat) (L : List Int32) (g5 g6 g7 : Value), it + k = n → it ≤ a → a ≤ n → m + L.length + 2 * (n - a) ≤ tcap →
    (∀ l, PW Γ mX3_writeRuns 116 l [] (WS F A t tc m f0 (L ++ pruns (A c) n k a) rf lo X) 0 0 Q) →
    PW Γ mX3_writeRuns 10 [.ref r, .ref t, .int (nI n), .int (nI a), .int (nI it), g5, g6, g7] [] (WS F A t tc m f0 L rf lo X) 0 0 Q := by
  obtain ⟨h1, h2, h9, hc⟩ := id hr
  obtain ⟨g1, g2, g9, gc⟩ := id ht
  intro k
  induction k with
  | zero =>
    intro it a L g5 g6 g7 hit ha ha2 hcap hk
    have hi : it = n := by omega
    subst hi
    refine pw_iload rfl dX3_writeRuns_10 ?_
    refine pw_iload_n rfl dX3_writeRuns_12 ?_
    refine pw_icmp_ge 116 dX3_writeRuns_13 (by decide) (fun _ => ?_) (fun q => absurd (nI_le (Nat.le_refl _) (by omega)) q)
    have := hk [.ref r, .ref t, .int (nI it), .int (nI a), .int (nI it), g5, g6, g7]
    rw [show pruns (A c) it 0 a = [] from rfl, List.append_nil] at this
    exact this
  | succ k ih =>
    intro it a L g5 g6 g7 hit ha ha2 hcap hk
    by_cases han : a < n
    · have e0 : pruns (A c) n (k + 1) a = (if 2 ≤ runl (A c) n a 129 then [nI (runl (A c) n a 129 + 126), (A c) a] ++ pruns (A c) n k (a + runl (A c) n a 129)
         else (nI (pend (A c) n (min n (a + 128)) n (a + 1) - a - 1) :: slice (A c) a (pend (A c) n (min n (a + 128)) n (a + 1))) ++ pruns (A c) n k (pend (A c) n (min n (a + 128)) n (a + 1))) := by
        show (if a < n then _ else _) = _
        rw [if_pos han]
      rw [e0] at hk
      have hb := runl_le (f := A c) (n := n) (a := a) (m := 129) han (by decide)
      have hb1 := runl_1 (f := A c) (n := n) (a := a) (m := 129)
      refine pw_iload rfl dX3_writeRuns_10 ?_
      refine pw_iload_n rfl dX3_writeRuns_12 ?_
      refine pw_icmp_ge 116 dX3_writeRuns_13 (by decide) (fun q => absurd q (nI_ge (by omega) (by omega))) (fun _ => ?_)
      refine pw_iload_n rfl dX3_writeRuns_16 ?_
      refine pw_iload_n rfl dX3_writeRuns_17 ?_
      refine pw_icmp_ge 116 dX3_writeRuns_18 (by decide) (fun q => absurd q (nI_ge (by omega) (by omega))) (fun _ => ?_)
      refine pw_aload_n rfl dX3_writeRuns_21 ?_
      refine pw_iload_n rfl dX3_writeRuns_22 ?_
      refine pw_sipush 129 (by decide) dX3_writeRuns_23 ?_
      refine pc_S3 dX3_writeRuns_26 lX3_83 (by decide) (Nat.le_of_ble_eq_true rfl) ?_
      refine w_runAt (z := 129) hr hrt hct hn hN rfl rfl (by omega) han ?_
      refine ps_istore (l' := [_, _, _, _, _, _, _, _]) dX3_writeRuns_29 (by decide) rfl rfl ?_
      refine pw_iload_n rfl dX3_writeRuns_31 ?_
      refine pw_iload rfl dX3_writeRuns_32 ?_
      refine pw_iadd dX3_writeRuns_34 ?_
      rw [nI_add]
      refine ps_istore (l' := [_, _, _, _, _, _, _, _]) dX3_writeRuns_35 (by decide) rfl rfl ?_
      refine pw_iload rfl dX3_writeRuns_37 ?_
      refine pw_iconst 2 (by decide) dX3_writeRuns_39 ?_
      by_cases hq : 2 ≤ runl (A c) n a 129
      · rw [if_pos hq] at hk
        refine pw_icmp_lt 64 dX3_writeRuns_40 (by decide) (fun q => absurd q (nI_nlt (b := 2) hq (by omega))) (fun _ => ?_)
        refine pw_aload_n rfl dX3_writeRuns_43 ?_
        refine pw_iload rfl dX3_writeRuns_44 ?_
        refine pw_bipush 126 (by decide) dX3_writeRuns_46 ?_
        refine pw_iadd dX3_writeRuns_48 ?_
        rw [show (126 : Int32) = nI 126 from rfl, nI_add]
        refine pc_V1 dX3_writeRuns_49 lX3_79 rfl (by first | rfl | assumption) (by decide) (Nat.le_of_ble_eq_true rfl) ?_
        refine w_push ht (by omega) ?_
        refine pw_aload_n rfl dX3_writeRuns_52 ?_
        refine pw_aload_n rfl dX3_writeRuns_53 ?_
        refine pw_iload_n rfl dX3_writeRuns_54 ?_
        rw [nI_and255s (by omega)]
        refine pc_V1 dX3_writeRuns_55 lX3_75 rfl (by first | rfl | assumption) (by decide) (Nat.le_of_ble_eq_true rfl) ?_
        refine w_get hr hrt hct hn hN rfl han ?_
        refine pc_V1 dX3_writeRuns_58 lX3_79 rfl (by first | rfl | assumption) (by decide) (Nat.le_of_ble_eq_true rfl) ?_
        refine w_push ht (by rw [List.length_append]; show m + (L.length + 1) < tcap; omega) ?_
        refine pw_goto 107 dX3_writeRuns_61 (by decide) ?_
        refine pw_iload rfl dX3_writeRuns_107 ?_
        refine ps_istore_n (l' := [_, _, _, _, _, _, _, _]) dX3_writeRuns_109 (by decide) rfl rfl ?_
        rw [isB_and hB han, List.append_assoc]
        refine ps_iinc (l' := [_, _, _, _, _, _, _, _]) 1 dX3_writeRuns_110 (by decide) rfl (by decide) rfl rfl ?_
        refine pw_goto 10 dX3_writeRuns_113 (by decide) ?_
        rw [nI_1]
        refine ih (it + 1) _ _ _ _ _ (by omega) (by omega) (by omega) (by rw [List.length_append]; show m + (L.length + 2) + _ ≤ tcap; omega) ?_
        rw [List.append_assoc]
        exact hk
      · rw [if_neg hq] at hk
        have hr1 : runl (A c) n a 129 = 1 := by omega
        rw [hr1]
        refine pw_icmp_lt 64 dX3_writeRuns_40 (by decide) (fun _ => ?_) (fun q => absurd (nI_lt (a := 1) (b := 2) (by omega) (by omega)) q)
        refine pw_iload_n rfl dX3_writeRuns_64 ?_
        refine pw_iload_n rfl dX3_writeRuns_65 ?_
        refine pw_sipush 128 (by decide) dX3_writeRuns_66 ?_
        refine pw_iadd dX3_writeRuns_69 ?_
        refine pw_minN n (a + 128) rfl (nI_add a 128) (by omega) (by omega) dX3_writeRuns_70 lX3_87 (by decide) (Nat.le_of_ble_eq_true rfl) ?_
        refine ps_istore (l' := [_, _, _, _, _, _, _, _]) dX3_writeRuns_73 (by decide) rfl rfl ?_
        refine wr_pend hr hrt hct hn hN (by omega) (min n (a + 128) - (a + 1)) (a + 1) (by omega) ?_
        rw [← pend_fuel (A c) n (min n (a + 128)) n (a + 1) (by omega)]
        have p1 := pend_ge (A c) n (min n (a + 128)) n (a + 1)
        have p2 := pend_le (A c) n (min n (a + 128)) n (a + 1) (by omega)
        generalize pend (A c) n (min n (a + 128)) n (a + 1) = e at hk p1 p2
        have hsl := slice_len (A c) a e
        refine pw_aload_n rfl dX3_writeRuns_99 ?_
        refine pw_iload_n rfl dX3_writeRuns_100 ?_
        refine pw_iload rfl dX3_writeRuns_101 ?_
        refine pw_aload_n rfl dX3_writeRuns_103 ?_
        refine pc_S4 dX3_writeRuns_104 lX3_93 (by decide) (Nat.le_of_ble_eq_true rfl) ?_
        refine w_plain hr ht hrt hct hn hN hB rfl rfl (by omega) (by omega) (by omega) (by omega) ?_
        refine pw_iload rfl dX3_writeRuns_107 ?_
        refine ps_istore_n (l' := [_, _, _, _, _, _, _, _]) dX3_writeRuns_109 (by decide) rfl rfl ?_
        refine ps_iinc (l' := [_, _, _, _, _, _, _, _]) 1 dX3_writeRuns_110 (by decide) rfl (by decide) rfl rfl ?_
        refine pw_goto 10 dX3_writeRuns_113 (by decide) ?_
        rw [nI_1]
        refine ih (it + 1) _ _ _ _ _ (by omega) (by omega) (by omega) (by rw [List.length_append, List.length_cons]; omega) ?_
        rw [List.append_assoc]
        exact hk
    · have e0 : pruns (A c) n (k + 1) a = [] := by
        show (if a < n then _ else _) = _
        rw [if_neg han]
      rw [e0, List.append_nil] at hk
      refine pw_iload rfl dX3_writeRuns_10 ?_
      refine pw_iload_n rfl dX3_writeRuns_12 ?_
      refine pw_icmp_ge 116 dX3_writeRuns_13 (by decide) (fun q => absurd q (nI_ge (by omega) (by omega))) (fun _ => ?_)
      refine pw_iload_n rfl dX3_writeRuns_16 ?_
      refine pw_iload_n rfl dX3_writeRuns_17 ?_
      refine pw_icmp_ge 116 dX3_writeRuns_18 (by decide) (fun _ => ?_) (fun q => absurd (nI_le (by omega) (by omega)) q)
      exact hk _
theorem w_runs {L : List Int32} (hr : isRow r c cap) (ht : isRow t tc tcap) (hrt : ¬ r = t) (hct : ¬ c = tc) (hn : F r 1 = nI n) (hN : n ≤ cap) (hn9 : n ≤ 300) (hB : isB (A c) n) (hcap : m + L.length + 2 * n ≤ tcap)
    (hQ : Q none (WS F A t tc m f0 (L ++ pruns (A c) n n 0) rf lo X)) : PM Γ mX3_writeRuns [.ref r, .ref t] (WS F A t tc m f0 L rf lo X) 0 0 Q := by
  obtain ⟨h1, h2, h9, hc⟩ := id hr
  refine PM.go (l := [_, _, .float 0, .float 0, .float 0, .float 0, .float 0, .float 0]) rfl rfl (Nat.le_of_ble_eq_true rfl) rfl ?_
  refine pw_aload_n rfl dX3_writeRuns_0 ?_
  refine pc_V0 dX3_writeRuns_1 lX3_52 rfl (by first | rfl | assumption) (by decide) (Nat.le_of_ble_eq_true rfl) ?_
  refine w_count hr hrt hn ?_
  refine ps_istore_n (l' := [_, _, _, _, _, _, _, _]) dX3_writeRuns_4 (by decide) rfl rfl ?_
  refine pw_iconst 0 (by decide) dX3_writeRuns_5 ?_
  refine ps_istore_n (l' := [_, _, _, _, _, _, _, _]) dX3_writeRuns_6 (by decide) rfl rfl ?_
  refine pw_iconst 0 (by decide) dX3_writeRuns_7 ?_
  refine ps_istore (l' := [_, _, _, _, _, _, _, _]) dX3_writeRuns_8 (by decide) rfl rfl ?_
  refine wr_loop hr ht hrt hct hn hN hn9 hB n 0 0 L _ _ _ (by omega) (by omega) (by omega) (by omega) (fun l => ?_)
  refine pw_vret dX3_writeRuns_116 rfl ?_
  exact hQ
end
theorem runl_ge3 {f : Nat → Int32} {n a m : Nat} (hm : 3 ≤ m) : 3 ≤ runl f n a m ↔ (a + 3 ≤ n ∧ f (a + 1) = f a ∧ f (a + 2) = f a) := by
  unfold runl
  by_cases h1 : a + 1 < n
  · obtain ⟨q, hq⟩ : ∃ q, min n (a + m) - (a + 1) = q + 1 := ⟨min n (a + m) - (a + 1) - 1, by omega⟩
    rw [hq]
    show 3 ≤ (if a + 1 < min n (a + m) ∧ f (a + 1) = f a then rn f a (min n (a + m)) q (a + 1 + 1) else a + 1) - a ↔ _
    by_cases h2 : f (a + 1) = f a
    · rw [if_pos ⟨by omega, h2⟩]
      by_cases h3 : a + 2 < n
      · obtain ⟨q2, rfl⟩ : ∃ q2, q = q2 + 1 := ⟨q - 1, by omega⟩
        show 3 ≤ (if a + 1 + 1 < min n (a + m) ∧ f (a + 1 + 1) = f a then rn f a (min n (a + m)) q2 (a + 1 + 1 + 1) else a + 1 + 1) - a ↔ _
        by_cases h4 : f (a + 2) = f a
        · rw [if_pos ⟨by omega, h4⟩]
          have := rn_ge f a (min n (a + m)) q2 (a + 1 + 1 + 1)
          exact ⟨fun _ => ⟨by omega, h2, h4⟩, fun _ => by omega⟩
        · rw [if_neg (fun z => h4 z.2)]
          exact ⟨fun z => by omega, fun z => absurd z.2.2 h4⟩
      · have : q = 0 := by omega
        subst this
        show 3 ≤ (a + 1 + 1) - a ↔ _
        exact ⟨fun z => by omega, fun z => by omega⟩
    · rw [if_neg (fun z => h2 z.2)]
      exact ⟨fun z => by omega, fun z => absurd z.2.1 h2⟩
  · rw [show min n (a + m) - (a + 1) = 0 by omega]
    show 3 ≤ (a + 1) - a ↔ _
    exact ⟨fun z => by omega, fun z => by omega⟩
theorem runl_lt3 {f : Nat → Int32} {n a : Nat} : runl f n a 129 < 3 ↔ runl f n a 3 < 3 := by
  have h1 := runl_ge3 (f := f) (n := n) (a := a) (m := 129) (by decide)
  have h2 := runl_ge3 (f := f) (n := n) (a := a) (m := 3) (by decide)
  constructor
  · intro h
    apply Nat.lt_of_not_le
    intro z
    have := h1.mpr (h2.mp z)
    omega
  · intro h
    apply Nat.lt_of_not_le
    intro z
    have := h2.mpr (h1.mp z)
    omega
/-- the reference's world in which, behind m bytes, the bytes L are made, t bits of the last taken -/
def MT (F A : Nat → Nat → Int32) (m : Nat) (f0 : Nat → Int32) (L : List Int32) (t rf : Nat) (lo : Int64) (X : PH) : PH := HS (umd F (m + L.length) t) (stA A 65 (app f0 m L)) rf lo X
section
variable {Γ : Nat × (Nat → Int32)} {F A : Nat → Nat → Int32} {rf : Nat} {lo : Int64} {X : PH} {Q : Option Value → PH → Prop} {n m : Nat} {f0 : Nat → Int32} {L : List Int32} {t : Nat}
theorem mt_put {b : Int32} (hL : m + L.length < 1400) (hQ : Q none (MT F A m f0 (L ++ [b]) 8 rf lo X)) : PM Γ mX11_put [.ref 57, .int b] (MT F A m f0 L t rf lo X) 0 0 Q := by
  unfold MT
  refine m_put hL ?_
  rw [stA_s, stA_stA, app_push _ _ _ _ _ rfl]
  unfold MT at hQ
  rw [List.length_append] at hQ
  exact hQ
theorem like_loop {a : Nat} (hn : n ≤ 300) (ha : a < n) : ∀ (k j : Nat), j + k = min n (a + 129) → a < j →
    PW Γ mX11_like 39 [.ref 57, .int (nI a), .int (nI n), .int (nI (rn (A 63) a (min n (a + 129)) k j - a))] [] (MT F A m f0 L t rf lo X) 0 0 Q →
    PW Γ mX11_like 2 [.ref 57, .int (nI a), .int (nI n), .int (nI (j - a))] [] (MT F A m f0 L t rf lo X) 0 0 Q := by
  intro k
  induction k with
  | zero =>
    intro j hj haj hk
    have e0 : rn (A 63) a (min n (a + 129)) 0 j = j := rfl
    rw [e0] at hk
    refine pw_iload_n rfl dX11_like_2 ?_
    refine pw_iload_n rfl dX11_like_3 ?_
    refine pw_iadd dX11_like_4 ?_
    refine pw_iload_n rfl dX11_like_5 ?_
    rw [nI_add, show a + (j - a) = j by omega]
    by_cases hjn : n ≤ j
    · refine pw_icmp_ge 39 dX11_like_6 (by decide) (fun _ => ?_) (fun q => absurd (nI_le hjn (by omega)) q)
      exact hk
    · unfold MT at hk ⊢
      refine pw_icmp_ge 39 dX11_like_6 (by decide) (fun q => absurd q (nI_ge (by omega) (by omega))) (fun _ => ?_)
      refine pw_aload_n rfl dX11_like_9 ?_
      refine pw_gC dX11_like_10 fX11_25 (by first | rfl | assumption) rfl (by first | rfl | assumption) ?_
      refine pw_iload_n rfl dX11_like_13 ?_
      refine pw_iload_n rfl dX11_like_14 ?_
      refine pw_iadd dX11_like_15 ?_
      rw [nI_add, show a + (j - a) = j by omega]
      refine pw_aI dX11_like_16 (by first | rfl | assumption) (by first | assumption | exact vp_in_nI (by omega) (by omega)) ?_
      refine pw_aload_n rfl dX11_like_17 ?_
      refine pw_gC dX11_like_18 fX11_25 (by first | rfl | assumption) rfl (by first | rfl | assumption) ?_
      refine pw_iload_n rfl dX11_like_21 ?_
      refine pw_aI dX11_like_22 (by first | rfl | assumption) (by first | assumption | exact vp_in_nI (by omega) (by omega)) ?_
      rw [stA_n (by decide), nI_clamp (by omega), nI_clamp (by omega)]
      by_cases hq : A 63 j = A 63 a
      · refine pw_icmp_ne 39 dX11_like_23 (by decide) (fun q => absurd (hq) q) (fun _ => ?_)
        refine pw_iload_n rfl dX11_like_26 ?_
        refine pw_sipush 129 (by decide) dX11_like_27 ?_
        refine pw_icmp_ge 39 dX11_like_30 (by decide) (fun _ => ?_) (fun q => absurd (nI_le (a := 129) (by omega) (by omega)) q)
        exact hk
      · refine pw_icmp_ne 39 dX11_like_23 (by decide) (fun _ => ?_) (fun q => absurd q (hq))
        exact hk
  | succ k ih =>
    intro j hj haj hk
    have e0 : rn (A 63) a (min n (a + 129)) (k + 1) j = if j < min n (a + 129) ∧ A 63 j = A 63 a then rn (A 63) a (min n (a + 129)) k (j + 1) else j := rfl
    rw [e0] at hk
    refine pw_iload_n rfl dX11_like_2 ?_
    refine pw_iload_n rfl dX11_like_3 ?_
    refine pw_iadd dX11_like_4 ?_
    refine pw_iload_n rfl dX11_like_5 ?_
    rw [nI_add, show a + (j - a) = j by omega]
    unfold MT
    refine pw_icmp_ge 39 dX11_like_6 (by decide) (fun q => absurd q (nI_ge (by omega) (by omega))) (fun _ => ?_)
    refine pw_aload_n rfl dX11_like_9 ?_
    refine pw_gC dX11_like_10 fX11_25 (by first | rfl | assumption) rfl (by first | rfl | assumption) ?_
    refine pw_iload_n rfl dX11_like_13 ?_
    refine pw_iload_n rfl dX11_like_14 ?_
    refine pw_iadd dX11_like_15 ?_
    rw [nI_add, show a + (j - a) = j by omega]
    refine pw_aI dX11_like_16 (by first | rfl | assumption) (by first | assumption | exact vp_in_nI (by omega) (by omega)) ?_
    refine pw_aload_n rfl dX11_like_17 ?_
    refine pw_gC dX11_like_18 fX11_25 (by first | rfl | assumption) rfl (by first | rfl | assumption) ?_
    refine pw_iload_n rfl dX11_like_21 ?_
    refine pw_aI dX11_like_22 (by first | rfl | assumption) (by first | assumption | exact vp_in_nI (by omega) (by omega)) ?_
    rw [stA_n (by decide), nI_clamp (by omega), nI_clamp (by omega)]
    by_cases hq : A 63 j = A 63 a
    · rw [if_pos ⟨by omega, hq⟩] at hk
      refine pw_icmp_ne 39 dX11_like_23 (by decide) (fun q => absurd (hq) q) (fun _ => ?_)
      refine pw_iload_n rfl dX11_like_26 ?_
      refine pw_sipush 129 (by decide) dX11_like_27 ?_
      refine pw_icmp_ge 39 dX11_like_30 (by decide) (fun q => absurd q (nI_ge (b := 129) (by omega) (by omega))) (fun _ => ?_)
      refine ps_iinc (l' := [_, _, _, _]) 1 dX11_like_33 (by decide) rfl (by decide) rfl rfl ?_
      refine pw_goto 2 dX11_like_36 (by decide) ?_
      rw [nI_1, show j - a + 1 = j + 1 - a by omega]
      exact ih (j + 1) (by omega) (by omega) hk
    · rw [if_neg (fun z => hq z.2)] at hk
      refine pw_icmp_ne 39 dX11_like_23 (by decide) (fun _ => ?_) (fun q => absurd q (hq))
      exact hk
theorem mt_like {a : Nat} (hn : n ≤ 300) (ha : a < n) (hQ : Q (some (.int (nI (runl (A 63) n a 129)))) (MT F A m f0 L t rf lo X)) : PM Γ mX11_like [.ref 57, .int (nI a), .int (nI n)] (MT F A m f0 L t rf lo X) 0 0 Q := by
  refine PM.go (l := [_, _, _, .float 0]) rfl rfl (Nat.le_of_ble_eq_true rfl) rfl ?_
  refine pw_iconst 1 (by decide) dX11_like_0 ?_
  refine ps_istore_n (l' := [_, _, _, _]) dX11_like_1 (by decide) rfl rfl ?_
  rw [show (1 : Int32) = nI (a + 1 - a) by rw [show a + 1 - a = 1 by omega]; rfl]
  refine like_loop hn ha (min n (a + 129) - (a + 1)) (a + 1) (by omega) (by omega) ?_
  refine pw_iload_n rfl dX11_like_39 ?_
  refine pw_iret dX11_like_40 (Or.inl rfl) ?_
  exact hQ
theorem mput_loop {a e : Nat} (he : e ≤ 300) : ∀ (k i : Nat) (t : Nat), i + k = e → a ≤ i → m + L.length + (e - a) ≤ 1400 →
    (∀ t, PW Γ mX11_putRow 32 [.ref 57, .int (nI a), .int (nI e), .int (nI e)] [] (MT F A m f0 (L ++ slice (A 63) a e) t rf lo X) 0 0 Q) →
    PW Γ mX11_putRow 11 [.ref 57, .int (nI a), .int (nI e), .int (nI i)] [] (MT F A m f0 (L ++ slice (A 63) a i) t rf lo X) 0 0 Q := by
  intro k
  induction k with
  | zero =>
    intro i t hi ha hcap hk
    have hi : i = e := by omega
    subst hi
    refine pw_iload_n rfl dX11_putRow_11 ?_
    refine pw_iload_n rfl dX11_putRow_12 ?_
    refine pw_icmp_ge 32 dX11_putRow_13 (by decide) (fun _ => ?_) (fun q => absurd (nI_le (Nat.le_refl _) (by omega)) q)
    exact hk t
  | succ k ih =>
    intro i t hi ha hcap hk
    have hl := slice_len (A 63) a i
    have hu : MT F A m f0 (L ++ slice (A 63) a i) t rf lo X = HS (umd F (m + (L ++ slice (A 63) a i).length) t) (stA A 65 (app f0 m (L ++ slice (A 63) a i))) rf lo X := rfl
    rw [hu]
    refine pw_iload_n rfl dX11_putRow_11 ?_
    refine pw_iload_n rfl dX11_putRow_12 ?_
    refine pw_icmp_ge 32 dX11_putRow_13 (by decide) (fun q => absurd q (nI_ge (by omega) (by omega))) (fun _ => ?_)
    refine pw_aload_n rfl dX11_putRow_16 ?_
    refine pw_aload_n rfl dX11_putRow_17 ?_
    refine pw_gC dX11_putRow_18 fX11_25 (by first | rfl | assumption) rfl (by first | rfl | assumption) ?_
    refine pw_iload_n rfl dX11_putRow_21 ?_
    refine pw_aI dX11_putRow_22 (by first | rfl | assumption) (by first | assumption | exact vp_in_nI (by omega) (by omega)) ?_
    rw [stA_n (by decide), nI_clamp (by omega), ← hu]
    refine pc_V1 dX11_putRow_23 lX11_123 rfl (by first | rfl | assumption) (by decide) (Nat.le_of_ble_eq_true rfl) ?_
    refine mt_put (by rw [List.length_append]; omega) ?_
    rw [List.append_assoc, ← slice_snoc (by omega)]
    refine ps_iinc (l' := [_, _, _, _]) 1 dX11_putRow_26 (by decide) rfl (by decide) rfl rfl ?_
    refine pw_goto 11 dX11_putRow_29 (by decide) ?_
    rw [nI_1]
    exact ih (i + 1) 8 (by omega) (by omega) hcap hk
theorem mt_putRow {a e : Nat} (hae : a < e) (he : e ≤ 300) (hcap : m + L.length + (e - a) + 1 ≤ 1400)
    (hQ : ∀ t, Q none (MT F A m f0 (L ++ (nI (e - a - 1) :: slice (A 63) a e)) t rf lo X)) : PM Γ mX11_putRow [.ref 57, .int (nI a), .int (nI e)] (MT F A m f0 L t rf lo X) 0 0 Q := by
  refine PM.go (l := [_, _, _, .float 0]) rfl rfl (Nat.le_of_ble_eq_true rfl) rfl ?_
  refine pw_aload_n rfl dX11_putRow_0 ?_
  refine pw_iload_n rfl dX11_putRow_1 ?_
  refine pw_iload_n rfl dX11_putRow_2 ?_
  refine pw_isub dX11_putRow_3 ?_
  refine pw_iconst 1 (by decide) dX11_putRow_4 ?_
  refine pw_isub dX11_putRow_5 ?_
  rw [pk_sub (by omega), show nI (e - a) - 1 = nI (e - a - 1) from pk_sub (b := 1) (by omega)]
  refine pc_V1 dX11_putRow_6 lX11_123 rfl (by first | rfl | assumption) (by decide) (Nat.le_of_ble_eq_true rfl) ?_
  refine mt_put (by omega) ?_
  refine pw_iload_n rfl dX11_putRow_9 ?_
  refine ps_istore_n (l' := [_, _, _, _]) dX11_putRow_10 (by decide) rfl rfl ?_
  have e0 : MT F A m f0 (L ++ [nI (e - a - 1)]) 8 rf lo X = MT F A m f0 ((L ++ [nI (e - a - 1)]) ++ slice (A 63) a a) 8 rf lo X := by rw [slice_nil (Nat.le_refl _), List.append_nil]
  rw [e0]
  refine mput_loop he (e - a) a 8 (by omega) (Nat.le_refl _) (by rw [List.length_append]; show m + (L.length + 1) + _ ≤ _; omega) (fun t => ?_)
  refine pw_vret dX11_putRow_32 rfl ?_
  rw [List.append_assoc]
  exact hQ t
theorem mr_pend (hn : n ≤ 300) {x1 : Int32} {a : Nat} : ∀ (k e : Nat), e + k = min n (a + 128) → a < e →
    PW Γ mX11_packRuns 82 [.ref 57, .int (nI n), .int (nI a), .int x1, .int (nI (pend (A 63) n (min n (a + 128)) k e))] [] (MT F A m f0 L t rf lo X) 0 0 Q →
    PW Γ mX11_packRuns 49 [.ref 57, .int (nI n), .int (nI a), .int x1, .int (nI e)] [] (MT F A m f0 L t rf lo X) 0 0 Q := by
  intro k
  induction k with
  | zero =>
    intro e he hae hk
    have e0 : pend (A 63) n (min n (a + 128)) 0 e = e := rfl
    rw [e0] at hk
    by_cases hen : n ≤ e
    · refine pw_iload rfl dX11_packRuns_49 ?_
      refine pw_iload_n rfl dX11_packRuns_51 ?_
      refine pw_icmp_ge 82 dX11_packRuns_52 (by decide) (fun _ => ?_) (fun q => absurd (nI_le hen (by omega)) q)
      exact hk
    · refine pw_iload rfl dX11_packRuns_49 ?_
      refine pw_iload_n rfl dX11_packRuns_51 ?_
      refine pw_icmp_ge 82 dX11_packRuns_52 (by decide) (fun q => absurd q (nI_ge (by omega) (by omega))) (fun _ => ?_)
      refine pw_iload rfl dX11_packRuns_55 ?_
      refine pw_iload_n rfl dX11_packRuns_57 ?_
      refine pw_isub dX11_packRuns_58 ?_
      rw [pk_sub (by omega)]
      refine pw_sipush 128 (by decide) dX11_packRuns_59 ?_
      refine pw_icmp_ge 82 dX11_packRuns_62 (by decide) (fun _ => ?_) (fun q => absurd (nI_le (a := 128) (by omega) (by omega)) q)
      exact hk
  | succ k ih =>
    intro e he hae hk
    have e0 : pend (A 63) n (min n (a + 128)) (k + 1) e = if e < min n (a + 128) ∧ runl (A 63) n e 3 < 3 then pend (A 63) n (min n (a + 128)) k (e + 1) else e := rfl
    rw [e0] at hk
    have hb := runl_le (f := A 63) (n := n) (a := e) (m := 129) (by omega) (by decide)
    refine pw_iload rfl dX11_packRuns_49 ?_
    refine pw_iload_n rfl dX11_packRuns_51 ?_
    refine pw_icmp_ge 82 dX11_packRuns_52 (by decide) (fun q => absurd q (nI_ge (by omega) (by omega))) (fun _ => ?_)
    refine pw_iload rfl dX11_packRuns_55 ?_
    refine pw_iload_n rfl dX11_packRuns_57 ?_
    refine pw_isub dX11_packRuns_58 ?_
    rw [pk_sub (by omega)]
    refine pw_sipush 128 (by decide) dX11_packRuns_59 ?_
    refine pw_icmp_ge 82 dX11_packRuns_62 (by decide) (fun q => absurd q (nI_ge (b := 128) (by omega) (by omega))) (fun _ => ?_)
    refine pw_aload_n rfl dX11_packRuns_65 ?_
    refine pw_iload rfl dX11_packRuns_66 ?_
    refine pw_iload_n rfl dX11_packRuns_68 ?_
    refine pc_V2 dX11_packRuns_69 lX11_126 rfl (by first | rfl | assumption) (by decide) (Nat.le_of_ble_eq_true rfl) ?_
    refine mt_like hn (by omega) ?_
    refine pw_iconst 3 (by decide) dX11_packRuns_72 ?_
    by_cases hq : runl (A 63) n e 3 < 3
    · rw [if_pos ⟨by omega, hq⟩] at hk
      refine pw_icmp_ge 82 dX11_packRuns_73 (by decide) (fun q => absurd q (nI_ge (b := 3) (runl_lt3.mpr hq) (by omega))) (fun _ => ?_)
      refine ps_iinc (l' := [_, _, _, _, _]) 1 dX11_packRuns_76 (by decide) rfl (by decide) rfl rfl ?_
      refine pw_goto 49 dX11_packRuns_79 (by decide) ?_
      rw [nI_1]
      exact ih (e + 1) (by omega) (by omega) hk
    · rw [if_neg (fun z => hq z.2)] at hk
      refine pw_icmp_ge 82 dX11_packRuns_73 (by decide) (fun _ => ?_) (fun q => absurd (nI_le (a := 3) (Nat.not_lt.mp (fun z => hq (runl_lt3.mp z))) (by omega)) q)
      exact hk
theorem mr_loop (hn : n ≤ 300) : ∀ (k a : Nat) (L : List Int32) (t : Nat) (g3 g4 : Value), n - a ≤ k → a ≤ n → m + L.length + 2 * (n - a) ≤ 1400 →
    (∀ l t, PW Γ mX11_packRuns 95 l [] (MT F A m f0 (L ++ pruns (A 63) n k a) t rf lo X) 0 0 Q) →
    PW Γ mX11_packRuns 2 [.ref 57, .int (nI n), .int (nI a), g3, g4] [] (MT F A m f0 L t rf lo X) 0 0 Q := by
  intro k
  induction k with
  | zero =>
    intro a L t g3 g4 hka ha hcap hk
    refine pw_iload_n rfl dX11_packRuns_2 ?_
    refine pw_iload_n rfl dX11_packRuns_3 ?_
    refine pw_icmp_ge 95 dX11_packRuns_4 (by decide) (fun _ => ?_) (fun q => absurd (nI_le (by omega) (by omega)) q)
    have := hk [.ref 57, .int (nI n), .int (nI a), g3, g4] t
    rw [show pruns (A 63) n 0 a = [] from rfl, List.append_nil] at this
    exact this
  | succ k ih =>
    intro a L t g3 g4 hka ha hcap hk
    by_cases han : a < n
    · have e0 : pruns (A 63) n (k + 1) a = (if 2 ≤ runl (A 63) n a 129 then [nI (runl (A 63) n a 129 + 126), (A 63) a] ++ pruns (A 63) n k (a + runl (A 63) n a 129)
         else (nI (pend (A 63) n (min n (a + 128)) n (a + 1) - a - 1) :: slice (A 63) a (pend (A 63) n (min n (a + 128)) n (a + 1))) ++ pruns (A 63) n k (pend (A 63) n (min n (a + 128)) n (a + 1))) := by
        show (if a < n then _ else _) = _
        rw [if_pos han]
      rw [e0] at hk
      have hb := runl_le (f := A 63) (n := n) (a := a) (m := 129) han (by decide)
      have hb1 := runl_1 (f := A 63) (n := n) (a := a) (m := 129)
      refine pw_iload_n rfl dX11_packRuns_2 ?_
      refine pw_iload_n rfl dX11_packRuns_3 ?_
      refine pw_icmp_ge 95 dX11_packRuns_4 (by decide) (fun q => absurd q (nI_ge (by omega) (by omega))) (fun _ => ?_)
      refine pw_aload_n rfl dX11_packRuns_7 ?_
      refine pw_iload_n rfl dX11_packRuns_8 ?_
      refine pw_iload_n rfl dX11_packRuns_9 ?_
      refine pc_V2 dX11_packRuns_10 lX11_126 rfl (by first | rfl | assumption) (by decide) (Nat.le_of_ble_eq_true rfl) ?_
      refine mt_like hn han ?_
      refine ps_istore_n (l' := [_, _, _, _, _]) dX11_packRuns_13 (by decide) rfl rfl ?_
      refine pw_iload_n rfl dX11_packRuns_14 ?_
      refine pw_iconst 1 (by decide) dX11_packRuns_15 ?_
      by_cases hq : 2 ≤ runl (A 63) n a 129
      · rw [if_pos hq] at hk
        refine pw_icmp_le 44 dX11_packRuns_16 (by decide) (fun q => absurd q (nI_ge (a := 1) (by omega) (by omega))) (fun _ => ?_)
        refine pw_aload_n rfl dX11_packRuns_19 ?_
        refine pw_bipush 126 (by decide) dX11_packRuns_20 ?_
        refine pw_iload_n rfl dX11_packRuns_22 ?_
        refine pw_iadd dX11_packRuns_23 ?_
        rw [show (126 : Int32) = nI 126 from rfl, nI_add, Nat.add_comm 126]
        refine pc_V1 dX11_packRuns_24 lX11_123 rfl (by first | rfl | assumption) (by decide) (Nat.le_of_ble_eq_true rfl) ?_
        refine mt_put (by omega) ?_
        have hu : MT F A m f0 (L ++ [nI (runl (A 63) n a 129 + 126)]) 8 rf lo X = HS (umd F (m + (L ++ [nI (runl (A 63) n a 129 + 126)]).length) 8) (stA A 65 (app f0 m (L ++ [nI (runl (A 63) n a 129 + 126)]))) rf lo X := rfl
        rw [hu]
        refine pw_aload_n rfl dX11_packRuns_27 ?_
        refine pw_aload_n rfl dX11_packRuns_28 ?_
        refine pw_gC dX11_packRuns_29 fX11_25 (by first | rfl | assumption) rfl (by first | rfl | assumption) ?_
        refine pw_iload_n rfl dX11_packRuns_32 ?_
        refine pw_aI dX11_packRuns_33 (by first | rfl | assumption) (by first | assumption | exact vp_in_nI (by omega) (by omega)) ?_
        rw [stA_n (by decide), nI_clamp (by omega), ← hu]
        refine pc_V1 dX11_packRuns_34 lX11_123 rfl (by first | rfl | assumption) (by decide) (Nat.le_of_ble_eq_true rfl) ?_
        refine mt_put (by rw [List.length_append]; show m + (L.length + 1) < 1400; omega) ?_
        refine pw_iload_n rfl dX11_packRuns_37 ?_
        refine pw_iload_n rfl dX11_packRuns_38 ?_
        rw [List.append_assoc]
        refine pw_iadd dX11_packRuns_39 ?_
        refine ps_istore_n (l' := [_, _, _, _, _]) dX11_packRuns_40 (by decide) rfl rfl ?_
        refine pw_goto 92 dX11_packRuns_41 (by decide) ?_
        refine pw_goto 2 dX11_packRuns_92 (by decide) ?_
        rw [nI_add]
        refine ih _ _ _ _ _ (by omega) (by omega) (by rw [List.length_append]; show m + (L.length + 2) + _ ≤ 1400; omega) ?_
        rw [List.append_assoc]
        exact hk
      · rw [if_neg hq] at hk
        refine pw_icmp_le 44 dX11_packRuns_16 (by decide) (fun _ => ?_) (fun q => absurd (nI_le (b := 1) (by omega) (by omega)) q)
        refine pw_iload_n rfl dX11_packRuns_44 ?_
        refine pw_iconst 1 (by decide) dX11_packRuns_45 ?_
        refine pw_iadd dX11_packRuns_46 ?_
        refine ps_istore (l' := [_, _, _, _, _]) dX11_packRuns_47 (by decide) rfl rfl ?_
        rw [nI_1]
        refine mr_pend hn (min n (a + 128) - (a + 1)) (a + 1) (by omega) (by omega) ?_
        rw [← pend_fuel (A 63) n (min n (a + 128)) n (a + 1) (by omega)]
        have p1 := pend_ge (A 63) n (min n (a + 128)) n (a + 1)
        have p2 := pend_le (A 63) n (min n (a + 128)) n (a + 1) (by omega)
        generalize pend (A 63) n (min n (a + 128)) n (a + 1) = e at hk p1 p2
        have hsl := slice_len (A 63) a e
        refine pw_aload_n rfl dX11_packRuns_82 ?_
        refine pw_iload_n rfl dX11_packRuns_83 ?_
        refine pw_iload rfl dX11_packRuns_84 ?_
        refine pc_V2 dX11_packRuns_86 lX11_130 rfl (by first | rfl | assumption) (by decide) (Nat.le_of_ble_eq_true rfl) ?_
        refine mt_putRow (by omega) (by omega) (by omega) (fun t => ?_)
        refine pw_iload rfl dX11_packRuns_89 ?_
        refine ps_istore_n (l' := [_, _, _, _, _]) dX11_packRuns_91 (by decide) rfl rfl ?_
        refine pw_goto 2 dX11_packRuns_92 (by decide) ?_
        refine ih _ _ _ _ _ (by omega) (by omega) (by rw [List.length_append, List.length_cons]; omega) ?_
        rw [List.append_assoc]
        exact hk
    · have e0 : pruns (A 63) n (k + 1) a = [] := by
        show (if a < n then _ else _) = _
        rw [if_neg han]
      rw [e0, List.append_nil] at hk
      refine pw_iload_n rfl dX11_packRuns_2 ?_
      refine pw_iload_n rfl dX11_packRuns_3 ?_
      refine pw_icmp_ge 95 dX11_packRuns_4 (by decide) (fun _ => ?_) (fun q => absurd (nI_le (by omega) (by omega)) q)
      exact hk _ _
theorem mt_runs (hn : n ≤ 300) (hcap : m + L.length + 2 * n ≤ 1400) (hQ : ∀ t, Q none (MT F A m f0 (L ++ pruns (A 63) n n 0) t rf lo X)) : PM Γ mX11_packRuns [.ref 57, .int (nI n)] (MT F A m f0 L t rf lo X) 0 0 Q := by
  refine PM.go (l := [_, _, .float 0, .float 0, .float 0]) rfl rfl (Nat.le_of_ble_eq_true rfl) rfl ?_
  refine pw_iconst 0 (by decide) dX11_packRuns_0 ?_
  refine ps_istore_n (l' := [_, _, _, _, _]) dX11_packRuns_1 (by decide) rfl rfl ?_
  refine mr_loop hn n 0 L t _ _ (by omega) (by omega) (by omega) (fun l t => ?_)
  refine pw_vret dX11_packRuns_95 rfl ?_
  exact hQ t
end
