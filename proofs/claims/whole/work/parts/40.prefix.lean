/-! PREFIX: both sides -/
def ptb (c e : Nat → Nat) : Nat → List Int32
  | 0 => []
  | z + 1 => ptb c e z ++ (if 0 < c z then [nI z, nI (e z)] else [])
theorem ptb_len (c e : Nat → Nat) : ∀ z, (ptb c e z).length = 2 * knz c z
  | 0 => rfl
  | z + 1 => by
    have ih := ptb_len c e z
    show (ptb c e z ++ (if 0 < c z then [nI z, nI (e z)] else [])).length = 2 * (knz c z + (if 0 < c z then 1 else 0))
    rw [List.length_append, ih]
    by_cases h : 0 < c z
    · rw [if_pos h, if_pos h]; show 2 * knz c z + 2 = _; omega
    · rw [if_neg h, if_neg h]; show 2 * knz c z + 0 = _; omega
theorem ptb_y {c e : Nat → Nat} {z : Nat} (h : 0 < c z) : ptb c e (z + 1) = ptb c e z ++ [nI z, nI (e z)] := by
  show ptb c e z ++ (if 0 < c z then _ else _) = _
  rw [if_pos h]
theorem ptb_n {c e : Nat → Nat} {z : Nat} (h : ¬ 0 < c z) : ptb c e (z + 1) = ptb c e z := by
  show ptb c e z ++ (if 0 < c z then _ else _) = _
  rw [if_neg h, List.append_nil]
/-- PREFIX of the n bytes f, behind L -/
def ppre (f : Nat → Int32) (n : Nat) (L : List Int32) : List Int32 := bfin (cods f (cod (hl (cnt f n))) (hl (cnt f n)) (L ++ (nI (unl f n - 1) :: ptb (cnt f n) (hl (cnt f n)) 256), 0, 0) n)
theorem unl_lk {f : Nat → Int32} {n : Nat} (hB : isB f n) : unl f n = lk (cnt f n) := by
  rw [unl_unls hB]
  exact (srt_len f n 256).symm
theorem cod_lim {e : Nat → Nat} (h : ∀ b, e b ≤ 15) {b : Nat} (hb : b < 256) : cod e b < 2 ^ 31 := by
  have h1 := nc_lim (e := e) (l := e b) (by have := h b; omega)
  have h2 := nlz_le e (e b) b
  unfold cod
  omega
theorem hl_11 {c : Nat → Nat} {N : Nat} (h : HC c N) (hN : N ≤ 300) (b : Nat) : hl c b ≤ 11 := by
  by_cases hb : b < 256 ∧ 0 < c b
  · exact (hl_ok h hN hb.1 hb.2).2
  · rw [hl_no hb]; omega
section
variable {Γ : Nat × (Nat → Int32)} {F A : Nat → Nat → Int32} {rf : Nat} {lo : Int64} {X : PH} {Q : Option Value → PH → Prop} {r c cap n t tc tcap m : Nat} {f0 : Nat → Int32} {L : List Int32}
theorem ws_of (h1 : F t 1 = nI (m + L.length)) (h2 : A tc = app f0 m L) : HS F A rf lo X = WS F A t tc m f0 L rf lo X := by
  unfold WS
  rw [upF_self h1.symm, stA_self h2.symm]
theorem wp_loop {d e : Nat → Nat} {g4 : Value} {rr : Nat} (ht : isRow t tc tcap) (h18 : ∀ b, b < 256 → A 18 b = nI (d b)) (hd : ∀ b, b < 256 → d b ≤ 300) (h29 : ∀ b, b < 256 → A (28 + 1) b = nI (e b)) (he : ∀ b, e b ≤ 15) (htc : ¬ tc = 18 ∧ ¬ tc = 28 + 1) : ∀ (k b : Nat), b + k = 256 → m + L.length + 512 < tcap →
    PW Γ mX3_writePrefix 77 [.ref 17, .ref rr, .ref t, .int (nI 256), g4] [] (WS F A t tc m f0 (L ++ ptb d e 256) rf lo X) 0 0 Q →
    PW Γ mX3_writePrefix 38 [.ref 17, .ref rr, .ref t, .int (nI b), g4] [] (WS F A t tc m f0 (L ++ ptb d e b) rf lo X) 0 0 Q := by
  obtain ⟨g1, g2, g9, gc⟩ := id ht
  intro k
  induction k with
  | zero =>
    intro b hb hcap hk
    have hb : b = 256 := by omega
    subst hb
    refine pw_iload_n rfl dX3_writePrefix_38 ?_
    refine pw_sipush 256 (by decide) dX3_writePrefix_39 ?_
    refine pw_icmp_ge 77 dX3_writePrefix_42 (by decide) (fun _ => ?_) (fun q => absurd (by decide) q)
    exact hk
  | succ k ih =>
    intro b hb hcap hk
    have hul := ptb_len d e b
    have hkl := knz_le d b
    have hdb := hd b (by omega)
    have heb := he b
    unfold WS
    refine pw_iload_n rfl dX3_writePrefix_38 ?_
    refine pw_sipush 256 (by decide) dX3_writePrefix_39 ?_
    refine pw_icmp_ge 77 dX3_writePrefix_42 (by decide) (fun q => absurd q (nI_ge (b := 256) (by omega) (by omega))) (fun _ => ?_)
    refine pw_aload_n rfl dX3_writePrefix_45 ?_
    refine pw_gC dX3_writePrefix_46 fX3_9 (by first | rfl | assumption) rfl (by first | rfl | assumption) ?_
    refine pw_iload_n rfl dX3_writePrefix_49 ?_
    refine pw_aI dX3_writePrefix_50 (by first | rfl | assumption) (by first | assumption | exact vp_in_nI (by omega) (by omega)) ?_
    rw [stA_n (by omega), nI_clamp (by omega), h18 b (by omega)]
    by_cases h0 : 0 < d b
    · refine pw_if_le 71 dX3_writePrefix_51 (by decide) (fun q => absurd q (nI_ge (a := 0) h0 (by omega))) (fun _ => ?_)
      refine pw_aload_n rfl dX3_writePrefix_54 ?_
      refine pw_iload_n rfl dX3_writePrefix_55 ?_
      refine pc_V1 dX3_writePrefix_56 lX3_79 rfl g1 (by decide) (Nat.le_of_ble_eq_true rfl) ?_
      refine w_push ht (by rw [List.length_append]; omega) ?_
      rw [nI_and255s (by omega)]
      unfold WS
      refine pw_aload_n rfl dX3_writePrefix_59 ?_
      refine pw_aload_n rfl dX3_writePrefix_60 ?_
      refine pw_gC dX3_writePrefix_61 fX3_41 (by first | rfl | assumption) rfl (by first | rfl | assumption) ?_
      refine pw_iload_n rfl dX3_writePrefix_64 ?_
      refine pc_V1 dX3_writePrefix_65 lX3_118 rfl rfl (by decide) (Nat.le_of_ble_eq_true rfl) ?_
      refine c_lengthOf pc28 (by omega) ?_
      rw [stA_n (by omega), h29 b (by omega)]
      refine pc_V1 dX3_writePrefix_68 lX3_79 rfl g1 (by decide) (Nat.le_of_ble_eq_true rfl) ?_
      refine w_push ht (by rw [List.length_append, List.length_append]; show m + (L.length + (ptb d e b).length + 1) < tcap; omega) ?_
      rw [nI_and255s (by omega), List.append_assoc, List.append_assoc, List.singleton_append, ← ptb_y h0]
      refine ps_iinc (l' := [_, _, _, _, _]) 1 dX3_writePrefix_71 (by decide) rfl (by decide) rfl rfl ?_
      refine pw_goto 38 dX3_writePrefix_74 (by decide) ?_
      rw [nI_1]
      exact ih (b + 1) (by omega) hcap hk
    · refine pw_if_le 71 dX3_writePrefix_51 (by decide) (fun _ => ?_) (fun q => absurd (nI_le (b := 0) (by omega) (by omega)) q)
      refine ps_iinc (l' := [_, _, _, _, _]) 1 dX3_writePrefix_71 (by decide) rfl (by decide) rfl rfl ?_
      refine pw_goto 38 dX3_writePrefix_74 (by decide) ?_
      rw [nI_1, ← ptb_n h0]
      exact ih (b + 1) (by omega) hcap hk
theorem wp_codes {s : BS} {e : Nat → Nat} (hr : isRow r c cap) (ht : isRow t tc tcap) (hrt : ¬ r = t) (hct : ¬ c = tc) (hrn : ¬ r = 22) (htn : ¬ t = 22) (hn : F r 1 = nI n) (hN : n ≤ cap) (hn9 : n ≤ 300) (hB : isB (A c) n) (he : ∀ b, e b ≤ 11) (h29 : ∀ b, b < 256 → A (28 + 1) b = nI (e b)) (h30 : ∀ b, b < 256 → 0 < e b → A (28 + 2) b = nI (cod e b)) (hpos : ∀ i b, i < n → A c i = nI b → b < 256 → 0 < e b) (htc : ¬ tc = 28 + 1 ∧ ¬ tc = 28 + 2) (hs : bok s) (hcap : 8 * (m + s.1.length) + s.2.2 + n * 11 ≤ 8 * tcap) : ∀ (k i : Nat) (g4 : Value), g4.category = 1 → i + k = n →
    (∀ g4, PW Γ mX3_writePrefix 126 [.ref 17, .ref r, .ref t, .int (nI n), g4] [] (HS (ubw F t m (cods (A c) (cod e) e s n)) (stA A tc (app f0 m (cods (A c) (cod e) e s n).1)) rf lo X) 0 0 Q) →
    PW Γ mX3_writePrefix 79 [.ref 17, .ref r, .ref t, .int (nI i), g4] [] (HS (ubw F t m (cods (A c) (cod e) e s i)) (stA A tc (app f0 m (cods (A c) (cod e) e s i).1)) rf lo X) 0 0 Q := by
  obtain ⟨h1, h2, h9, hc⟩ := id hr
  obtain ⟨g1, g2, g9, gc⟩ := id ht
  have hrow : ∀ s, ubw F t m s r 1 = nI n := fun s => by
    unfold ubw
    rw [upF_n (by omega), upF_n (by omega), upF_n (by omega)]
    exact hn
  intro k
  induction k with
  | zero =>
    intro i g4 hg4 hi hk
    have hi : i = n := by omega
    subst hi
    refine pw_iload_n rfl dX3_writePrefix_79 ?_
    refine pw_aload_n rfl dX3_writePrefix_80 ?_
    refine pc_V0 dX3_writePrefix_81 lX3_52 rfl (by first | rfl | assumption) (by decide) (Nat.le_of_ble_eq_true rfl) ?_
    refine c_count hr ?_
    rw [hrow]
    refine pw_icmp_ge 126 dX3_writePrefix_84 (by decide) (fun _ => ?_) (fun q => absurd (nI_le (Nat.le_refl _) (by omega)) q)
    exact hk g4
  | succ k ih =>
    intro i g4 hg4 hi hk
    obtain ⟨b, hb, hfb⟩ := hB i (by omega)
    have hpb := hpos i b (by omega) hfb hb
    have heb := he b
    refine pw_iload_n rfl dX3_writePrefix_79 ?_
    refine pw_aload_n rfl dX3_writePrefix_80 ?_
    refine pc_V0 dX3_writePrefix_81 lX3_52 rfl (by first | rfl | assumption) (by decide) (Nat.le_of_ble_eq_true rfl) ?_
    refine c_count hr ?_
    rw [hrow]
    refine pw_icmp_ge 126 dX3_writePrefix_84 (by decide) (fun q => absurd q (nI_ge (by omega) (by omega))) (fun _ => ?_)
    refine pw_aload_n rfl dX3_writePrefix_87 ?_
    refine pw_iload_n rfl dX3_writePrefix_88 ?_
    refine pc_V1 dX3_writePrefix_89 lX3_75 rfl (by first | rfl | assumption) (by decide) (Nat.le_of_ble_eq_true rfl) ?_
    refine c_get hr (hrow _) hN rfl (by omega) ?_
    rw [stA_n hct, hfb]
    refine ps_istore (l' := [_, _, _, _, _]) dX3_writePrefix_92 (by decide) rfl rfl ?_
    refine pw_aload_n rfl dX3_writePrefix_94 ?_
    refine pw_gC dX3_writePrefix_95 fX3_27 (by first | rfl | assumption) rfl (by first | rfl | assumption) ?_
    refine pw_aload_n rfl dX3_writePrefix_98 ?_
    refine pw_gC dX3_writePrefix_99 fX3_41 (by first | rfl | assumption) rfl (by first | rfl | assumption) ?_
    refine pw_iload rfl dX3_writePrefix_102 ?_
    refine pc_V1 dX3_writePrefix_104 lX3_121 rfl rfl (by decide) (Nat.le_of_ble_eq_true rfl) ?_
    refine c_codeOf pc28 hb ?_
    rw [stA_n (by omega), h30 b hb hpb]
    refine pw_aload_n rfl dX3_writePrefix_107 ?_
    refine pw_gC dX3_writePrefix_108 fX3_41 (by first | rfl | assumption) rfl (by first | rfl | assumption) ?_
    refine pw_iload rfl dX3_writePrefix_111 ?_
    refine pc_V1 dX3_writePrefix_113 lX3_118 rfl rfl (by decide) (Nat.le_of_ble_eq_true rfl) ?_
    refine c_lengthOf pc28 hb ?_
    rw [stA_n (by omega), h29 b hb]
    refine pw_aload_n rfl dX3_writePrefix_116 ?_
    refine pc_V3 dX3_writePrefix_117 lX3_103 rfl rfl (by decide) (Nat.le_of_ble_eq_true rfl) ?_
    have hl := cods_len (f := A c) (v := cod e) (w := e) (s := s) (W := 11) he i
    have hcl := cod_lim (e := e) (fun b => by have := he b; omega) hb
    refine c_bput ht htn hcl (by omega) (bok_c hs i) (by omega) ?_
    have e1 : cods (A c) (cod e) e s (i + 1) = bp (cods (A c) (cod e) e s i) (cod e b) (e b) := by
      show bp _ (cod e (A c i).toNatClampNeg) (e (A c i).toNatClampNeg) = _
      rw [hfb, nI_clamp (by omega)]
    rw [← e1]
    refine ps_iinc (l' := [_, _, _, _, _]) 1 dX3_writePrefix_120 (by decide) rfl (by decide) rfl rfl ?_
    refine pw_goto 79 dX3_writePrefix_123 (by decide) ?_
    rw [nI_1]
    exact ih (i + 1) _ rfl (by omega) hk
theorem w_prefix (hr : isRow r c cap) (ht : isRow t tc tcap) (hrt : ¬ r = t) (hct : ¬ c = tc) (hrn : ¬ r = 22 ∧ ¬ r = 23 ∧ ¬ r = 28) (htn : ¬ t = 22 ∧ ¬ t = 23 ∧ ¬ t = 28) (hn : F r 1 = nI n) (hN : n ≤ cap) (hn9 : n ≤ 300) (hn0 : 0 < n) (hB : isB (A c) n) (htc : ¬ tc = 18 ∧ ¬ (24 ≤ tc ∧ tc ≤ 33)) (hcc : ¬ c = 18 ∧ ¬ (24 ≤ c ∧ c ≤ 33)) (hz0 : F 22 0 = 0) (hz1 : F 22 1 = 0) (hcap : m + L.length + 930 ≤ tcap)
    (hQ : ∀ F' A', (∀ i j, ¬ (i = 28 ∧ j = 5) → ¬ i = 23 → F' i j = F i j) → (∀ i, ¬ i = 18 → ¬ (24 ≤ i ∧ i ≤ 33) → A' i = A i) → Q none (WS F' A' t tc m f0 (ppre (A c) n L) rf lo X)) : PM Γ mX3_writePrefix [.ref 17, .ref r, .ref t] (WS F A t tc m f0 L rf lo X) 0 0 Q := by
  obtain ⟨h1, h2, h9, hc⟩ := id hr
  obtain ⟨g1, g2, g9, gc⟩ := id ht
  have hu1 := unl_pos hB hn0
  have hu2 := unl_256 hB
  have hul := unl_lk hB
  have hHC : HC (cnt (A c) n) n := cnt_sum hB
  have hkn := lk_knz (cnt (A c) n)
  refine PM.go (l := [_, _, _, .float 0, .float 0]) rfl rfl (Nat.le_of_ble_eq_true rfl) rfl ?_
  refine pw_aload_n rfl dX3_writePrefix_0 ?_
  refine pw_aload_n rfl dX3_writePrefix_1 ?_
  refine pw_aload_n rfl dX3_writePrefix_2 ?_
  refine pw_gC dX3_writePrefix_3 fX3_9 (by first | rfl | assumption) rfl (by first | rfl | assumption) ?_
  refine pc_V1 dX3_writePrefix_6 lX3_96 rfl h1 (by decide) (Nat.le_of_ble_eq_true rfl) ?_
  refine c_countInto hr rfl (by omega) (n := n) (by rw [upF_n (by omega)]; exact hn) hN (by rw [stA_n hct]; exact hB) ?_
  rw [stA_n hct, stA_n (by omega), stA_comm (by omega)]
  refine pw_iconst 1 (by decide) dX3_writePrefix_9 ?_
  refine pw_isub dX3_writePrefix_10 ?_
  rw [show nI (unl (A c) n) - 1 = nI (unl (A c) n - 1) from pk_sub (b := 1) (by omega)]
  refine pc_V1 dX3_writePrefix_11 lX3_79 rfl g1 (by decide) (Nat.le_of_ble_eq_true rfl) ?_
  refine w_push ht (by omega) ?_
  rw [nI_and255s (by omega)]
  have hA18 : ∀ b, b < 256 → stA (stA A 18 (cpn (tbl (A c) n) (A 18) 256)) tc (app f0 m (L ++ [nI (unl (A c) n - 1)])) 18 b = nI (cnt (A c) n b) := by
    intro b hb
    rw [stA_n (by omega), stA_s, cpn_lt hb]
    rfl
  have hAtc : stA (stA A 18 (cpn (tbl (A c) n) (A 18) 256)) tc (app f0 m (L ++ [nI (unl (A c) n - 1)])) tc = app f0 m (L ++ [nI (unl (A c) n - 1)]) := stA_s
  have hA0 : ∀ i, ¬ i = 18 → ¬ i = tc → stA (stA A 18 (cpn (tbl (A c) n) (A 18) 256)) tc (app f0 m (L ++ [nI (unl (A c) n - 1)])) i = A i := fun i k1 k2 => by rw [stA_n k2, stA_n k1]
  have hF0 : ∀ i j, ¬ (i = t ∧ j = 1) → upF F t 1 (nI (m + (L ++ [nI (unl (A c) n - 1)]).length)) i j = F i j := fun i j k1 => upF_n k1
  have hFt : upF F t 1 (nI (m + (L ++ [nI (unl (A c) n - 1)]).length)) t 1 = nI (m + (L ++ [nI (unl (A c) n - 1)]).length) := upF_s
  unfold WS
  generalize hL1 : L ++ [nI (unl (A c) n - 1)] = L1 at *
  have hL1l : L1.length = L.length + 1 := by rw [← hL1, List.length_append]; rfl
  generalize stA (stA A 18 (cpn (tbl (A c) n) (A 18) 256)) tc (app f0 m L1) = A1 at *
  generalize upF F t 1 (nI (m + L1.length)) = F1 at *
  refine pw_aload_n rfl dX3_writePrefix_14 ?_
  refine pw_gC dX3_writePrefix_15 fX3_34 (by first | rfl | assumption) rfl (by first | rfl | assumption) ?_
  refine pw_aload_n rfl dX3_writePrefix_18 ?_
  refine pw_gC dX3_writePrefix_19 fX3_9 (by first | rfl | assumption) rfl (by first | rfl | assumption) ?_
  refine pw_aload_n rfl dX3_writePrefix_22 ?_
  refine pw_gC dX3_writePrefix_23 fX3_41 (by first | rfl | assumption) rfl (by first | rfl | assumption) ?_
  refine pc_V2 dX3_writePrefix_26 lX3_111 rfl rfl (by decide) (Nat.le_of_ble_eq_true rfl) ?_
  refine c_grow hHC hn9 hn0 hA18 ?_
  intro F2 A2 hF2 hA2 hP2
  refine pw_aload_n rfl dX3_writePrefix_29 ?_
  refine pw_gC dX3_writePrefix_30 fX3_41 (by first | rfl | assumption) rfl (by first | rfl | assumption) ?_
  refine pc_V0 dX3_writePrefix_33 lX3_115 rfl rfl (by decide) (Nat.le_of_ble_eq_true rfl) ?_
  refine c_assign pc28 hP2 ?_
  intro A3 hA3 hC3 _
  obtain ⟨p1, p2, p3, p4, p5⟩ := hP2
  have hA3b : ∀ i, ¬ i = 18 → ¬ (24 ≤ i ∧ i ≤ 33) → ¬ i = tc → A3 i = A i := fun i k1 k2 k3 => by rw [hA3 i (by omega) (by omega) (by omega), hA2 i (by omega) (by omega) (by omega) (by omega) (by omega) (by omega), hA0 i k1 k3]
  have hA3t : A3 tc = app f0 m L1 := by rw [hA3 tc (by omega) (by omega) (by omega), hA2 tc (by omega) (by omega) (by omega) (by omega) (by omega) (by omega), hAtc]
  have hA3c : A3 c = A c := hA3b c hcc.1 hcc.2 hct
  have hF2b : ∀ i j, ¬ (i = 28 ∧ j = 5) → ¬ i = 23 → ¬ (i = t ∧ j = 1) → F2 i j = F i j := fun i j k1 k2 k3 => by rw [hF2 i j k1 k2, hF0 i j k3]
  have hF2t : F2 t 1 = nI (m + L1.length) := by rw [hF2 t 1 (by omega) (by omega)]; exact hFt
  have h29 : ∀ b, b < 256 → A3 (28 + 1) b = nI (hl (cnt (A c) n) b) := fun b hb => by rw [hA3 (28 + 1) (by omega) (by omega) (by omega)]; exact p1 b hb
  have h18' : ∀ b, b < 256 → A3 18 b = nI (cnt (A c) n b) := fun b hb => by rw [hA3 18 (by omega) (by omega) (by omega), hA2 18 (by omega) (by omega) (by omega) (by omega) (by omega) (by omega)]; exact hA18 b hb
  have hcl : ∀ b, b < 256 → cnt (A c) n b ≤ 300 := fun b hb => Nat.le_trans (cnt_le _ _ _) hn9
  have h11 := hl_11 hHC hn9
  have hpos : ∀ i b, i < n → A c i = nI b → b < 256 → 0 < hl (cnt (A c) n) b := by
    intro i b k1 k2 k3
    have := (hl_ok hHC hn9 k3 (cnt_pos k1 k2)).1
    omega
  refine pw_iconst 0 (by decide) dX3_writePrefix_36 ?_
  refine ps_istore_n (l' := [_, _, _, _, _]) dX3_writePrefix_37 (by decide) rfl rfl ?_
  have e0 : HS F2 A3 rf lo X = WS F2 A3 t tc m f0 (L1 ++ ptb (cnt (A c) n) (hl (cnt (A c) n)) 0) rf lo X := by
    show _ = WS F2 A3 t tc m f0 (L1 ++ []) rf lo X
    rw [List.append_nil]
    exact ws_of hF2t hA3t
  rw [e0]
  refine wp_loop ht h18' hcl h29 p2 ⟨by omega, by omega⟩ 256 0 (by omega) (by omega) ?_
  refine pw_iconst 0 (by decide) dX3_writePrefix_77 ?_
  refine ps_istore_n (l' := [_, _, _, _, _]) dX3_writePrefix_78 (by decide) rfl rfl ?_
  generalize hL2 : L1 ++ ptb (cnt (A c) n) (hl (cnt (A c) n)) 256 = L2
  have hL2l : L2.length = L.length + 1 + 2 * lk (cnt (A c) n) := by rw [← hL2, List.length_append, ptb_len, hL1l, hkn]
  have hs0 : bok (L2, 0, 0) := ⟨by show 0 < 8; decide, by show 0 < 2 ^ 0; decide⟩
  have e1 : WS F2 A3 t tc m f0 L2 rf lo X = HS (ubw F2 t m (cods (A3 c) (cod (hl (cnt (A c) n))) (hl (cnt (A c) n)) (L2, 0, 0) 0)) (stA A3 tc (app f0 m (cods (A3 c) (cod (hl (cnt (A c) n))) (hl (cnt (A c) n)) (L2, 0, 0) 0).1)) rf lo X := by
    show _ = HS (ubw F2 t m (L2, 0, 0)) (stA A3 tc (app f0 m L2)) rf lo X
    rw [ubw_of htn.1 (by rw [hF2b 22 0 (by omega) (by omega) (by omega)]; exact hz0) (by rw [hF2b 22 1 (by omega) (by omega) (by omega)]; exact hz1)]
    rfl
  rw [e1]
  refine wp_codes (A := A3) hr ht hrt hct hrn.1 htn.1 (by rw [hF2b r 1 (by omega) (by omega) (by omega)]; exact hn) hN hn9 (by rw [hA3c]; exact hB) h11 h29 hC3 (by rw [hA3c]; exact hpos) ⟨by omega, by omega⟩ hs0 (by show 8 * (m + L2.length) + 0 + n * 11 ≤ 8 * tcap; omega) n 0 _ rfl (by omega) ?_
  intro g4
  rw [hA3c]
  refine pw_aload_n rfl dX3_writePrefix_126 ?_
  refine pw_gC dX3_writePrefix_127 fX3_27 (by first | rfl | assumption) rfl (by first | rfl | assumption) ?_
  refine pw_aload_n rfl dX3_writePrefix_130 ?_
  refine pc_V1 dX3_writePrefix_131 lX3_107 rfl rfl (by decide) (Nat.le_of_ble_eq_true rfl) ?_
  have hcl1 := cods_len (f := A c) (v := cod (hl (cnt (A c) n))) (w := hl (cnt (A c) n)) (s := (L2, 0, 0)) (W := 11) h11 n
  have hcl2 : (cods (A c) (cod (hl (cnt (A c) n))) (hl (cnt (A c) n)) (L2, 0, 0) n).1.length * 8 ≤ L2.length * 8 + 0 + n * 11 := by
    have e9 : ((L2, 0, 0) : BS).1.length * 8 + ((L2, 0, 0) : BS).2.2 = L2.length * 8 + 0 := rfl
    omega
  refine c_bfin ht htn.1 (bok_c hs0 n) (by omega) ?_
  refine pw_vret dX3_writePrefix_134 rfl ?_
  have hq := hQ (upF F2 t 1 (F t 1)) (stA A3 tc (A tc)) (fun i j k1 k2 => by
    by_cases k3 : i = t ∧ j = 1
    · obtain ⟨rfl, rfl⟩ := k3
      rw [upF_s]
    · rw [upF_n k3, hF2b i j k1 k2 k3]) (fun i k1 k2 => by
    by_cases k3 : i = tc
    · rw [k3, stA_s]
    · rw [stA_n k3, hA3b i k1 k2 k3])
  unfold WS ppre at hq
  rw [upF_upF, stA_stA] at hq
  rw [ubw_of htn.1 (by rw [hF2b 22 0 (by omega) (by omega) (by omega)]; exact hz0) (by rw [hF2b 22 1 (by omega) (by omega) (by omega)]; exact hz1)]
  rw [show L ++ (nI (unl (A c) n - 1) :: ptb (cnt (A c) n) (hl (cnt (A c) n)) 256) = L2 by rw [← hL2, ← hL1, List.append_assoc, List.singleton_append]] at hq
  exact hq
end
