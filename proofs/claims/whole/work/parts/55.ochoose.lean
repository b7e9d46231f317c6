/-! call: choose -/
section
variable {Γ : Nat × (Nat → Int32)}
theorem CI_H {F A F' A' : Nat → Nat → Int32} {s : ST} {C : Nat → Int32} (h : CI F A s) (hF : ∀ i j, rcF i → ¬ (i = 0 ∧ j = 12) → F' i j = F i j) (hA : ∀ i, rcA i → ¬ i = 55 → A' i = A i) (h12 : F' 0 12 = 1) (h55 : same (A' 55) C 6) : CI F' A' (s.1, s.2.1, s.2.2.1, (true, C), s.2.2.2.2) := by
  obtain ⟨a, b, c, d, e, f, g⟩ := h
  exact ⟨TX_fr a (hF _ _ (by omega) (by omega)) (hA _ (by omega) (by omega)), OX_fr b (hF _ _ (by omega) (by omega)) (hA _ (by omega) (by omega)), CH_fr (hF _ _ (by omega) (by omega)) (hF _ _ (by omega) (by omega)) (hA _ (by omega) (by omega)) (hA _ (by omega) (by omega)) (hA _ (by omega) (by omega)) c, ⟨h12, fun _ => h55⟩, sm_fr e (hA _ (by omega) (by omega)), by rw [hF _ _ (by omega) (by omega)]; exact f, BX_fr g (hF _ _ (by omega) (by omega)) (hF _ _ (by omega) (by omega))⟩
theorem MI_H {F A F' A' : Nat → Nat → Int32} {s : ST} {C : Nat → Int32} (h : MI F A s) (hF : ∀ j, rmF j → ¬ j = 24 → F' 57 j = F 57 j) (hA : ∀ i, rmA i → ¬ i = 72 → A' i = A i) (h12 : F' 57 24 = 1) (h55 : same (A' 72) C 6) : MI F' A' (s.1, s.2.1, s.2.2.1, (true, C), s.2.2.2.2) := by
  obtain ⟨a, b, c, d, e, f⟩ := h
  exact ⟨TM_fr a (hF _ (by omega) (by omega)) (hA _ (by omega) (by omega)), OM_fr b (hF _ (by omega) (by omega)) (hA _ (by omega) (by omega)), CM_fr (hF _ (by omega) (by omega)) (hF _ (by omega) (by omega)) (hA _ (by omega) (by omega)) (hA _ (by omega) (by omega)) (hA _ (by omega) (by omega)) c, ⟨h12, fun _ => h55⟩, sm_fr e (hA _ (by omega) (by omega)), by rw [hF _ (by omega) (by omega)]; exact f⟩
theorem six {f : Nat → Int32} {a : CA} {fl : Bool} (h0 : f 0 = nI a.1) (h1 : f 1 = nI a.2.1) (h2 : f 2 = nI a.2.2.1) (h3 : f 3 = nI a.2.2.2.1) (h4 : f 4 = nI a.2.2.2.2) (h5 : f 5 = bI fl) : same f (cArr a fl) 6 := by
  intro j hj
  unfold cArr
  rcases (show j = 0 ∨ j = 1 ∨ j = 2 ∨ j = 3 ∨ j = 4 ∨ j = 5 by omega) with rfl | rfl | rfl | rfl | rfl | rfl
  · rw [if_pos rfl]; exact h0
  · rw [if_neg (by omega), if_pos rfl]; exact h1
  · rw [if_neg (by omega), if_neg (by omega), if_pos rfl]; exact h2
  · rw [if_neg (by omega), if_neg (by omega), if_neg (by omega), if_pos rfl]; exact h3
  · rw [if_neg (by omega), if_neg (by omega), if_neg (by omega), if_neg (by omega), if_pos rfl]; exact h4
  · rw [if_neg (by omega), if_neg (by omega), if_neg (by omega), if_neg (by omega), if_neg (by omega)]; exact h5
theorem o_choose (st me : Int32) : OP Γ mX10_choose mX11_choose [.ref 0, .int st, .int me] [.ref 57, .int st, .int me] := by
  refine OP_of (fun s => if 0 ≤ st ∧ 0 ≤ me then (s.1, s.2.1, s.2.2.1, (true, cArr (choR s st.toNatClampNeg me.toNatClampNeg) (flat s.1.2 s.1.1)), s.2.2.2.2) else s) (fun s => if 0 ≤ st ∧ 0 ≤ me then nI (choR s st.toNatClampNeg me.toNatClampNeg).2.2.1 else -1) ?_ ?_ ?_
  · intro F A rf lo X Q s hO hI hQ
    obtain ⟨a, b, c, d, e, f, g⟩ := id hI
    obtain ⟨p1, p2, p3, p4, p5, p6, p7, p8⟩ := id c
    have hn3 := hO.1
    refine PM.go (l := [_, _, _, .float 0]) rfl rfl (Nat.le_of_ble_eq_true rfl) rfl ?_
    refine pw_iload_n rfl dX10_choose_0 ?_
    by_cases hv : 0 ≤ st ∧ 0 ≤ me
    · rw [if_pos hv, if_pos hv] at hQ
      obtain ⟨S, hS, rfl⟩ := i32_nn hv.1
      obtain ⟨M, hM, rfl⟩ := i32_nn hv.2
      rw [nI_clamp hS, nI_clamp hM] at hQ
      refine pw_if_lt 8 dX10_choose_1 (by decide) (fun q => absurd q (Int32.not_lt.mpr hv.1)) (fun _ => ?_)
      refine pw_iload_n rfl dX10_choose_4 ?_
      refine pw_if_ge 10 dX10_choose_5 (by decide) (fun _ => ?_) (fun q => absurd (hv.2) q)
      refine pw_aload_n rfl dX10_choose_10 ?_
      refine pw_gC dX10_choose_11 fX10_61 (by first | rfl | assumption) rfl (by first | rfl | assumption) ?_
      refine pw_aload_n rfl dX10_choose_14 ?_
      refine pw_gC dX10_choose_15 fX10_14 (by first | rfl | assumption) rfl (by first | rfl | assumption) ?_
      refine pc_V1 dX10_choose_18 lX10_170 rfl rfl (by decide) (Nat.le_of_ble_eq_true rfl) ?_
      refine c_isFlat a hO.1 hO.2.1 ?_
      intro A1 hA1
      refine ps_istore_n (l' := [_, _, _, _]) dX10_choose_21 (by decide) rfl rfl ?_
      refine pw_aload_n rfl dX10_choose_22 ?_
      refine pw_gC dX10_choose_23 fX10_65 (by first | rfl | assumption) rfl (by first | rfl | assumption) ?_
      refine pw_iconst 0 (by decide) dX10_choose_26 ?_
      refine pc_S2 dX10_choose_27 lX10_80 (by decide) (Nat.le_of_ble_eq_true rfl) ?_
      refine c_fill (n := 6) rfl (by omega) ?_
      refine pw_aload_n rfl dX10_choose_30 ?_
      refine pw_iconst 1 (by decide) dX10_choose_31 ?_
      refine pw_pI dX10_choose_32 fX10_72 (by first | rfl | assumption) rfl ⟨rfl, rfl⟩ ?_
      refine pw_aload_n rfl dX10_choose_35 ?_
      refine pw_gC dX10_choose_36 fX10_65 (by first | rfl | assumption) rfl (by first | rfl | assumption) ?_
      refine pw_iconst 3 (by decide) dX10_choose_39 ?_
      refine pw_aload_n rfl dX10_choose_40 ?_
      refine pw_gC dX10_choose_41 fX10_14 (by first | rfl | assumption) rfl (by first | rfl | assumption) ?_
      refine pc_V0 dX10_choose_44 lX10_86 rfl rfl (by decide) (Nat.le_of_ble_eq_true rfl) ?_
      refine c_count row1 ?_
      rw [upF_n (by omega), a.1]
      refine pw_iconst 4 (by decide) dX10_choose_47 ?_
      refine pw_iadd dX10_choose_48 ?_
      rw [show nI s.1.1 + 4 = nI (s.1.1 + 4) from nI_add _ 4]
      refine pw_sI dX10_choose_49 (by first | rfl | assumption) (vp_in_nI (n := 3) (by decide) (by decide)) ?_
      refine pw_iload_n rfl dX10_choose_50 ?_
      rw [stA_s, stA_stA]
      have hA2 : ∀ i, ¬ i = 54 → ¬ i = 55 → stA A1 55 (upd (cpn (fun _ => 0) (A1 55) 6) (3 : Int32).toNatClampNeg (nI (s.1.1 + 4))) i = A i := fun i k1 k2 => by rw [stA_n k2]; exact hA1 i k1
      have hcr : CR (stA A1 55 (upd (cpn (fun _ => 0) (A1 55) 6) (3 : Int32).toNatClampNeg (nI (s.1.1 + 4)))) (0, 0, 0, s.1.1 + 4, 0) := by
        refine ⟨?_, ?_, ?_, ?_, ?_, ?_⟩
        · rw [stA_s]; exact (upd_n (by decide)).trans (cpn_lt (by omega))
        · rw [stA_s]; exact (upd_n (by decide)).trans (cpn_lt (by omega))
        · rw [stA_s]; exact (upd_n (by decide)).trans (cpn_lt (by omega))
        · rw [stA_s]; exact upd_s
        · rw [stA_s]; exact (upd_n (by decide)).trans (cpn_lt (by omega))
        · rw [stA_s]; exact (upd_n (by decide)).trans (cpn_lt (by omega))
      generalize stA A1 55 (upd (cpn (fun _ => 0) (A1 55) 6) (3 : Int32).toNatClampNeg (nI (s.1.1 + 4))) = A2 at *
      have hF1 : ∀ i j, ¬ (i = 0 ∧ j = 12) → upF F 0 12 1 i j = F i j := fun i j h => upF_n h
      have h12 : upF F 0 12 1 0 12 = 1 := upF_s
      generalize upF F 0 12 1 = F1 at *
      unfold choR at hQ
      cases hfl : flat s.1.2 s.1.1 with
      | true =>
        rw [hfl, if_pos rfl] at hQ
        obtain ⟨c0, c1, c2, c3, c4, c5⟩ := hcr
        refine pw_if_eq 64 dX10_choose_51 (by decide) (fun q => absurd q (by decide)) (fun _ => ?_)
        refine pw_aload_n rfl dX10_choose_54 ?_
        refine pw_gC dX10_choose_55 fX10_65 (by first | rfl | assumption) rfl (by first | rfl | assumption) ?_
        refine pw_iconst 5 (by decide) dX10_choose_58 ?_
        refine pw_iconst 1 (by decide) dX10_choose_59 ?_
        refine pw_sI dX10_choose_60 (by first | rfl | assumption) (vp_in_nI (n := 5) (by decide) (by decide)) ?_
        refine pw_goto 70 dX10_choose_61 (by decide) ?_
        refine pw_aload_n rfl dX10_choose_70 ?_
        refine pw_gC dX10_choose_71 fX10_65 (by first | rfl | assumption) rfl (by first | rfl | assumption) ?_
        refine pw_iconst 2 (by decide) dX10_choose_74 ?_
        refine pw_aI dX10_choose_75 (by first | rfl | assumption) (vp_in_nI (n := 2) (by decide) (by decide)) ?_
        rw [stA_s, show upd (A2 55) (5 : Int32).toNatClampNeg 1 (2 : Int32).toNatClampNeg = nI 0 from (upd_n (by decide)).trans c2]
        refine pw_iret dX10_choose_76 (Or.inl rfl) ?_
        refine hQ _ _ _ ⟨fun i j h => hF1 i j (by omega), fun i h => by rw [stA_n (by omega)]; exact hA2 i (by omega) (by omega)⟩ (CI_H hI (fun i j _ h => hF1 i j h) (fun i h1 h => by rw [stA_n h]; exact hA2 i (by omega) h) h12 ?_)
        rw [stA_s]
        exact six ((upd_n (by decide)).trans c0) ((upd_n (by decide)).trans c1) ((upd_n (by decide)).trans c2) ((upd_n (by decide)).trans c3) ((upd_n (by decide)).trans c4) upd_s
      | false =>
        rw [hfl, if_neg (by decide)] at hQ
        refine pw_if_eq 64 dX10_choose_51 (by decide) (fun _ => ?_) (fun q => absurd (rfl) q)
        refine pw_aload_n rfl dX10_choose_64 ?_
        refine pw_iload_n rfl dX10_choose_65 ?_
        refine pw_iload_n rfl dX10_choose_66 ?_
        refine pc_V2 dX10_choose_67 lX10_174 rfl rfl (by decide) (Nat.le_of_ble_eq_true rfl) ?_
        have c' : CH F1 A2 s.2.2.1.1 s.2.2.1.2.1 s.2.2.1.2.2.1 s.2.2.1.2.2.2.1 s.2.2.1.2.2.2.2 := CH_fr (hF1 _ _ (by omega)) (hF1 _ _ (by omega)) (hA2 _ (by omega) (by omega)) (hA2 _ (by omega) (by omega)) (hA2 _ (by omega) (by omega)) c
        have hP0 : 0 < nch s.2.2.1.1 s.2.2.1.2.1 := by
          unfold nch
          exact Nat.mul_pos (by omega) p4
        refine PM.go (l := [_, _, _, .float 0, .float 0, .float 0, .float 0, .float 0, .float 0]) rfl rfl (Nat.le_of_ble_eq_true rfl) rfl ?_
        refine pw_aload_n rfl dX10_tryChains_0 ?_
        refine pw_gC dX10_tryChains_1 fX10_33 (by first | rfl | assumption) rfl (by first | rfl | assumption) ?_
        refine pc_V0 dX10_tryChains_4 lX10_139 rfl (by first | rfl | assumption) (by decide) (Nat.le_of_ble_eq_true rfl) ?_
        refine c_many c' ?_
        refine ps_istore_n (l' := [_, _, _, _, _, _, _, _, _]) dX10_tryChains_7 (by decide) rfl rfl ?_
        refine pw_iload_n rfl dX10_tryChains_8 ?_
        refine ps_istore (l' := [_, _, _, _, _, _, _, _, _]) dX10_tryChains_9 (by decide) rfl rfl ?_
        refine pw_iconst (-1) (by decide) dX10_tryChains_11 ?_
        refine ps_istore (l' := [_, _, _, _, _, _, _, _, _]) dX10_tryChains_12 (by decide) rfl rfl ?_
        refine pw_aload_n rfl dX10_tryChains_14 ?_
        refine pw_gC dX10_tryChains_15 fX10_14 (by first | rfl | assumption) rfl (by first | rfl | assumption) ?_
        refine ps_astore (l' := [_, _, _, _, _, _, _, _, _]) dX10_tryChains_18 (by decide) rfl rfl ?_
        refine pw_iconst 0 (by decide) dX10_tryChains_20 ?_
        refine ps_istore (l' := [_, _, _, _, _, _, _, _, _]) dX10_tryChains_21 (by decide) rfl rfl ?_
        have hS0 : nI S = nI (S - ((0, 0, 0, s.1.1 + 4, 0) : CA).2.1) := rfl
        rw [show PW Γ mX10_tryChains 23 [Value.ref 0, Value.int (nI S), Value.int (nI M), Value.int (nI (nch s.2.2.1.1 s.2.2.1.2.1)), Value.int (nI S), Value.int (-1), Value.ref 1, Value.int 0, Value.float 0] = PW Γ mX10_tryChains 23 [Value.ref 0, Value.int (nI S), Value.int (nI M), Value.int (nI (nch s.2.2.1.1 s.2.2.1.2.1)), Value.int (nI (S - ((0, 0, 0, s.1.1 + 4, 0) : CA).2.1)), Value.int (-1), Value.ref 1, Value.int (nI 0), Value.float 0] from rfl]
        refine tc_loop (F := F1) (A := A2) (TX_fr a (hF1 _ _ (by omega)) (hA2 _ (by omega) (by omega))) hO.1 hO.2.1 c' (BX_fr g (hF1 _ _ (by omega)) (hF1 _ _ (by omega))) hS hM (nch s.2.2.1.1 s.2.2.1.2.1) 0 (0, 0, 0, s.1.1 + 4, 0) F1 A2 (-1) 1 _ rfl (by omega) ⟨fun i j _ _ _ _ _ _ => rfl, fun i _ _ _ _ _ _ _ => rfl⟩ hcr (Nat.zero_le _) (by show 0 ≤ 100; omega) (by show 0 ≤ 100; omega) (by show 0 + 0 ≤ 0; omega) hP0 (by show s.1.1 + 4 ≤ 2000; omega) (Or.inl rfl) (Or.inl rfl) ?_
        intro F3 A3 hfr hcr3
        have hch : chL (fun x => sSt s x * s.1.1) (sMe s) (sSz s) (sSt s) S M (nch s.2.2.1.1 s.2.2.1.2.1) 0 (0, 0, 0, s.1.1 + 4, 0) = chL (fun x => stp s.2.2.1.1 s.2.2.1.2.1 s.2.2.1.2.2.1 s.2.2.1.2.2.2.2 x * s.1.1) (mem_ s.2.2.1.1 s.2.2.1.2.1 s.2.2.1.2.2.1 s.2.2.1.2.2.2.2) (fun x => (pkl s.1.1 s.1.2 s.2.2.1.1 s.2.2.1.2.1 s.2.2.1.2.2.1 s.2.2.1.2.2.2.1 s.2.2.1.2.2.2.2 x).length) (stp s.2.2.1.1 s.2.2.1.2.1 s.2.2.1.2.2.1 s.2.2.1.2.2.2.2) S M (nch s.2.2.1.1 s.2.2.1.2.1) 0 (0, 0, 0, s.1.1 + 4, 0) := rfl
        rw [hch] at hQ
        generalize chL (fun x => stp s.2.2.1.1 s.2.2.1.2.1 s.2.2.1.2.2.1 s.2.2.1.2.2.2.2 x * s.1.1) (mem_ s.2.2.1.1 s.2.2.1.2.1 s.2.2.1.2.2.1 s.2.2.1.2.2.2.2) (fun x => (pkl s.1.1 s.1.2 s.2.2.1.1 s.2.2.1.2.1 s.2.2.1.2.2.1 s.2.2.1.2.2.2.1 s.2.2.1.2.2.2.2 x).length) (stp s.2.2.1.1 s.2.2.1.2.1 s.2.2.1.2.2.1 s.2.2.1.2.2.2.2) S M (nch s.2.2.1.1 s.2.2.1.2.1) 0 (0, 0, 0, s.1.1 + 4, 0) = r at *
        obtain ⟨c0, c1, c2, c3, c4, c5⟩ := hcr3
        refine pw_aload_n rfl dX10_choose_70 ?_
        refine pw_gC dX10_choose_71 fX10_65 (by first | rfl | assumption) rfl (by first | rfl | assumption) ?_
        refine pw_iconst 2 (by decide) dX10_choose_74 ?_
        refine pw_aI dX10_choose_75 (by first | rfl | assumption) (vp_in_nI (n := 2) (by decide) (by decide)) ?_
        rw [show A3 55 (2 : Int32).toNatClampNeg = nI r.2.2.1 from c2]
        refine pw_iret dX10_choose_76 (Or.inl rfl) ?_
        exact hQ F3 A3 _ ⟨fun i j h => by rw [hfr.1 i j (by omega) (by omega) (by omega) (by omega) (by omega) (by omega)]; exact hF1 i j (by omega), fun i h => by rw [hfr.2 i (by omega) (by omega) (by omega) (by omega) (by omega) (by omega) (by omega)]; exact hA2 i (by omega) (by omega)⟩ (CI_H hI (fun i j h1 h => by rw [hfr.1 i j (by omega) (by omega) (by omega) (by omega) (by omega) (by omega)]; exact hF1 i j h) (fun i h1 h => by rw [hfr.2 i h (by omega) (by omega) (by omega) (by omega) (by omega) (by omega)]; exact hA2 i (by omega) h) (by rw [hfr.1 0 12 (by omega) (by omega) (by omega) (by omega) (by omega) (by omega)]; exact h12) (six c0 c1 c2 c3 c4 c5))
    · rw [if_neg hv, if_neg hv] at hQ
      refine pw_if_lt 8 dX10_choose_1 (by decide) (fun q1 => ?_) (fun q1 => ?_)
      · refine pw_iconst (-1) (by decide) dX10_choose_8 ?_
        refine pw_iret dX10_choose_9 (Or.inl rfl) ?_
        exact hQ _ _ _ frC_r hI
      · refine pw_iload_n rfl dX10_choose_4 ?_
        refine pw_if_ge 10 dX10_choose_5 (by decide) (fun q => absurd q ((fun h9 => hv ⟨Int32.not_lt.mp q1, h9⟩))) (fun _ => ?_)
        refine pw_iconst (-1) (by decide) dX10_choose_8 ?_
        refine pw_iret dX10_choose_9 (Or.inl rfl) ?_
        exact hQ _ _ _ frC_r hI
  · intro F A rf lo X Q s hO hI hQ
    obtain ⟨a, b, c, d, e, f⟩ := id hI
    obtain ⟨p1, p2, p3, p4, p5, p6, p7, p8, p9⟩ := id c
    have hle := nch_le _ p2 _ p5
    have hP0 : 0 < nch s.2.2.1.1 s.2.2.1.2.1 := by
      unfold nch
      exact Nat.mul_pos (by omega) p4
    refine PM.go (l := [_, _, _, .float 0, .float 0, .float 0, .float 0, .float 0, .float 0, .float 0, .float 0, .float 0, .float 0, .float 0]) rfl rfl (Nat.le_of_ble_eq_true rfl) rfl ?_
    refine pw_aload_n rfl dX11_choose_0 ?_
    refine pw_iconst 0 (by decide) dX11_choose_1 ?_
    refine pw_pI dX11_choose_2 fX11_65 (by first | rfl | assumption) rfl ⟨rfl, rfl⟩ ?_
    refine pw_iload_n rfl dX11_choose_5 ?_
    by_cases hv : 0 ≤ st ∧ 0 ≤ me
    · rw [if_pos hv, if_pos hv] at hQ
      obtain ⟨S, hS, rfl⟩ := i32_nn hv.1
      obtain ⟨M, hM, rfl⟩ := i32_nn hv.2
      rw [nI_clamp hS, nI_clamp hM] at hQ
      refine pw_if_lt 13 dX11_choose_6 (by decide) (fun q => absurd q (Int32.not_lt.mpr hv.1)) (fun _ => ?_)
      refine pw_iload_n rfl dX11_choose_9 ?_
      refine pw_if_ge 15 dX11_choose_10 (by decide) (fun _ => ?_) (fun q => absurd (hv.2) q)
      refine pw_aload_n rfl dX11_choose_15 ?_
      refine pc_V0 dX11_choose_16 lX11_192 rfl rfl (by decide) (Nat.le_of_ble_eq_true rfl) ?_
      refine m_isFlat (TM_fr a (upF_n (by omega)) rfl) hO.1 hO.2.1 ?_
      intro A1 hA1
      have hfr1 : frH F (upF F 57 0 0) A A1 := ⟨fun i j h => upF_n (by omega), fun i h => hA1 i (by omega) (by omega)⟩
      generalize upF F 57 0 0 = F1 at *
      -- the end
      have fin : ∀ (F2 A2 : Nat → Nat → Int32) (r : CA) (v6 : Int32) (v7 v8 g10 g11 : Int32) (g12 g13 : Value), frH F F2 A A2 → r = choR s S M → v6 = nI r.2.2.1 → v7 = nI r.2.2.2.1 → PW Γ mX11_choose 236 [.ref 57, .int (nI S), .int (nI M), .int (bI (flat s.1.2 s.1.1)), .int (nI r.1), .int (nI r.2.1), .int v6, .int v7, .int v8, .int (nI r.2.2.2.2), .int g10, .int g11, g12, g13] [] (HS F2 A2 rf lo X) 0 0 Q := by
        intro F2 A2 r v6 v7 v8 g10 g11 g12 g13 hfr hr h6 h7
        subst h6
        subst h7
        have tail : PW Γ mX11_choose 295 [.ref 57, .int (nI S), .int (nI M), .int (bI (flat s.1.2 s.1.1)), .int (nI r.1), .int (nI r.2.1), .int (nI r.2.2.1), .int (nI r.2.2.2.1), .int v8, .int (nI r.2.2.2.2), .int g10, .int g11, g12, g13] [.int (bI (flat s.1.2 s.1.1)), .int 5, .ref 72] (HS (upF F2 57 24 1) (stA A2 72 (upd (upd (upd (upd (upd (A2 72) 0 (nI r.1)) 1 (nI r.2.1)) 2 (nI r.2.2.1)) 3 (nI r.2.2.2.1)) 4 (nI r.2.2.2.2))) rf lo X) 0 0 Q := by
          refine pw_sI dX11_choose_295 (by first | rfl | assumption) (vp_in_nI (n := 5) (by decide) (by decide)) ?_
          refine pw_iload rfl dX11_choose_296 ?_
          refine pw_iret dX11_choose_298 (Or.inl rfl) ?_
          rw [stA_s, stA_stA]
          rw [hr] at *
          refine hQ _ _ ⟨fun i j h => by rw [upF_n (by omega)]; exact hfr.1 i j (by omega), fun i h => by rw [stA_n (by omega)]; exact hfr.2 i (by omega)⟩ (MI_H hI (fun j h1 h => by rw [upF_n (by omega)]; exact hfr.1 57 j (by omega)) (fun i h1 h => by rw [stA_n h]; exact hfr.2 i (by omega)) upF_s ?_)
          rw [stA_s]
          exact six ((upd_n (by decide)).trans ((upd_n (by decide)).trans ((upd_n (by decide)).trans ((upd_n (by decide)).trans ((upd_n (by decide)).trans upd_s))))) ((upd_n (by decide)).trans ((upd_n (by decide)).trans ((upd_n (by decide)).trans ((upd_n (by decide)).trans upd_s)))) ((upd_n (by decide)).trans ((upd_n (by decide)).trans ((upd_n (by decide)).trans upd_s))) ((upd_n (by decide)).trans ((upd_n (by decide)).trans upd_s)) ((upd_n (by decide)).trans upd_s) upd_s
        refine pw_aload_n rfl dX11_choose_236 ?_
        refine pw_iconst 1 (by decide) dX11_choose_237 ?_
        refine pw_pI dX11_choose_238 fX11_68 (by first | rfl | assumption) rfl ⟨rfl, rfl⟩ ?_
        refine pw_aload_n rfl dX11_choose_241 ?_
        refine pw_gC dX11_choose_242 fX11_52 (by first | rfl | assumption) rfl (by first | rfl | assumption) ?_
        refine pw_iconst 0 (by decide) dX11_choose_245 ?_
        refine pw_iload rfl dX11_choose_246 ?_
        refine pw_sI dX11_choose_248 (by first | rfl | assumption) (vp_in_nI (n := 0) (by decide) (by decide)) ?_
        refine pw_aload_n rfl dX11_choose_249 ?_
        refine pw_gC dX11_choose_250 fX11_52 (by first | rfl | assumption) rfl (by first | rfl | assumption) ?_
        refine pw_iconst 1 (by decide) dX11_choose_253 ?_
        refine pw_iload rfl dX11_choose_254 ?_
        refine pw_sI dX11_choose_256 (by first | rfl | assumption) (vp_in_nI (n := 1) (by decide) (by decide)) ?_
        refine pw_aload_n rfl dX11_choose_257 ?_
        refine pw_gC dX11_choose_258 fX11_52 (by first | rfl | assumption) rfl (by first | rfl | assumption) ?_
        refine pw_iconst 2 (by decide) dX11_choose_261 ?_
        refine pw_iload rfl dX11_choose_262 ?_
        refine pw_sI dX11_choose_264 (by first | rfl | assumption) (vp_in_nI (n := 2) (by decide) (by decide)) ?_
        refine pw_aload_n rfl dX11_choose_265 ?_
        refine pw_gC dX11_choose_266 fX11_52 (by first | rfl | assumption) rfl (by first | rfl | assumption) ?_
        refine pw_iconst 3 (by decide) dX11_choose_269 ?_
        refine pw_iload rfl dX11_choose_270 ?_
        refine pw_sI dX11_choose_272 (by first | rfl | assumption) (vp_in_nI (n := 3) (by decide) (by decide)) ?_
        refine pw_aload_n rfl dX11_choose_273 ?_
        refine pw_gC dX11_choose_274 fX11_52 (by first | rfl | assumption) rfl (by first | rfl | assumption) ?_
        refine pw_iconst 4 (by decide) dX11_choose_277 ?_
        refine pw_iload rfl dX11_choose_278 ?_
        refine pw_sI dX11_choose_280 (by first | rfl | assumption) (vp_in_nI (n := 4) (by decide) (by decide)) ?_
        refine pw_aload_n rfl dX11_choose_281 ?_
        refine pw_gC dX11_choose_282 fX11_52 (by first | rfl | assumption) rfl (by first | rfl | assumption) ?_
        refine pw_iconst 5 (by decide) dX11_choose_285 ?_
        refine pw_iload_n rfl dX11_choose_286 ?_
        rw [stA_s, stA_stA, stA_s, stA_stA, stA_s, stA_stA, stA_s, stA_stA]
        cases hfl : flat s.1.2 s.1.1 with
        | true =>
          rw [hfl] at tail
          refine pw_if_eq 294 dX11_choose_287 (by decide) (fun q => absurd q (by decide)) (fun _ => ?_)
          refine pw_iconst 1 (by decide) dX11_choose_290 ?_
          refine pw_goto 295 dX11_choose_291 (by decide) ?_
          exact tail
        | false =>
          rw [hfl] at tail
          refine pw_if_eq 294 dX11_choose_287 (by decide) (fun _ => ?_) (fun q => absurd (rfl) q)
          refine pw_iconst 0 (by decide) dX11_choose_294 ?_
          exact tail
      -- nothing tried: CHAIN 0's size
      have zero : ∀ (F2 A2 : Nat → Nat → Int32) (v7 v8 g10 g11 : Int32) (g12 g13 : Value), frH F F2 A A2 → ((0, 0, 0, s.1.1 + 4, 0) : CA) = choR s S M → PW Γ mX11_choose 220 [.ref 57, .int (nI S), .int (nI M), .int (bI (flat s.1.2 s.1.1)), .int (nI 0), .int (nI 0), .int 0, .int v7, .int v8, .int (nI 0), .int g10, .int g11, g12, g13] [] (HS F2 A2 rf lo X) 0 0 Q := by
        intro F2 A2 v7 v8 g10 g11 g12 g13 hfr hr
        refine pw_iload rfl dX11_choose_220 ?_
        refine pw_if_ne 236 dX11_choose_222 (by decide) (fun q => absurd (rfl) q) (fun _ => ?_)
        refine pw_aload_n rfl dX11_choose_225 ?_
        refine pw_iconst 0 (by decide) dX11_choose_226 ?_
        refine pc_V1 dX11_choose_227 lX11_189 rfl rfl (by decide) (Nat.le_of_ble_eq_true rfl) ?_
        refine m_packAll (x := 0) (CM_fr (hfr.1 _ _ (by omega)) (hfr.1 _ _ (by omega)) (hfr.2 _ (by omega)) (hfr.2 _ (by omega)) (hfr.2 _ (by omega)) c) hP0 (by rw [hfr.1 _ _ (by omega)]; exact a.1) hO.1 hO.2.1 (by rw [hfr.2 58 (by omega)]; exact a.2) ?_
        intro F3 A3 f0 hP h15 h65
        refine pw_aload_n rfl dX11_choose_230 ?_
        refine pw_gI dX11_choose_231 fX11_117 (by first | rfl | assumption) rfl ?_
        rw [h15, pkl_0 p9]
        refine ps_istore (l' := [_, _, _, _, _, _, _, _, _, _, _, _, _, _]) dX11_choose_234 (by decide) rfl rfl ?_
        exact fin F3 A3 (0, 0, 0, s.1.1 + 4, 0) _ _ _ _ _ _ _ ⟨fun i j h => by rw [hP.1 i j (by omega)]; exact hfr.1 i j h, fun i h => by rw [hP.2 i h]; exact hfr.2 i h⟩ hr rfl rfl
      refine ps_istore_n (l' := [_, _, _, _, _, _, _, _, _, _, _, _, _, _]) dX11_choose_19 (by decide) rfl rfl ?_
      refine pw_iconst 0 (by decide) dX11_choose_20 ?_
      refine ps_istore (l' := [_, _, _, _, _, _, _, _, _, _, _, _, _, _]) dX11_choose_21 (by decide) rfl rfl ?_
      refine pw_iconst 0 (by decide) dX11_choose_23 ?_
      refine ps_istore (l' := [_, _, _, _, _, _, _, _, _, _, _, _, _, _]) dX11_choose_24 (by decide) rfl rfl ?_
      refine pw_iconst 0 (by decide) dX11_choose_26 ?_
      refine ps_istore (l' := [_, _, _, _, _, _, _, _, _, _, _, _, _, _]) dX11_choose_27 (by decide) rfl rfl ?_
      refine pw_iconst 0 (by decide) dX11_choose_29 ?_
      refine ps_istore (l' := [_, _, _, _, _, _, _, _, _, _, _, _, _, _]) dX11_choose_30 (by decide) rfl rfl ?_
      refine pw_iconst 0 (by decide) dX11_choose_32 ?_
      refine ps_istore (l' := [_, _, _, _, _, _, _, _, _, _, _, _, _, _]) dX11_choose_33 (by decide) rfl rfl ?_
      refine pw_iconst 0 (by decide) dX11_choose_35 ?_
      refine ps_istore (l' := [_, _, _, _, _, _, _, _, _, _, _, _, _, _]) dX11_choose_36 (by decide) rfl rfl ?_
      refine pw_iload_n rfl dX11_choose_38 ?_
      cases hfl : flat s.1.2 s.1.1 with
      | true =>
        rw [hfl] at zero
        refine pw_if_ne 46 dX11_choose_39 (by decide) (fun _ => ?_) (fun q => absurd q (by decide))
        refine pw_iconst 0 (by decide) dX11_choose_46 ?_
        refine ps_istore (l' := [_, _, _, _, _, _, _, _, _, _, _, _, _, _]) dX11_choose_47 (by decide) rfl rfl ?_
        refine pw_iconst 0 (by decide) dX11_choose_49 ?_
        refine ps_istore (l' := [_, _, _, _, _, _, _, _, _, _, _, _, _, _]) dX11_choose_50 (by decide) rfl rfl ?_
        refine pw_iload rfl dX11_choose_52 ?_
        refine pw_aload_n rfl dX11_choose_54 ?_
        refine pc_V0 dX11_choose_55 lX11_93 rfl (by first | rfl | assumption) (by decide) (Nat.le_of_ble_eq_true rfl) ?_
        refine m_chains (CM_fr (hfr1.1 _ _ (by omega)) (hfr1.1 _ _ (by omega)) (hfr1.2 _ (by omega)) (hfr1.2 _ (by omega)) (hfr1.2 _ (by omega)) c) ?_
        refine pw_icmp_ge 220 dX11_choose_58 (by decide) (fun q => absurd q (nI_ge (a := 0) hP0 (by omega))) (fun _ => ?_)
        refine pw_iload rfl dX11_choose_61 ?_
        refine pw_if_eq 220 dX11_choose_63 (by decide) (fun _ => ?_) (fun q => absurd (rfl) q)
        refine zero _ A1 _ _ _ _ _ _ ⟨fun i j h => by rw [upF_n (by omega)]; exact hfr1.1 i j h, hfr1.2⟩ ?_
        unfold choR
        rw [hfl, if_pos rfl]
      | false =>
        rw [hfl] at zero fin
        refine pw_if_ne 46 dX11_choose_39 (by decide) (fun q => absurd (rfl) q) (fun _ => ?_)
        refine pw_iconst 1 (by decide) dX11_choose_42 ?_
        refine pw_goto 47 dX11_choose_43 (by decide) ?_
        refine ps_istore (l' := [_, _, _, _, _, _, _, _, _, _, _, _, _, _]) dX11_choose_47 (by decide) rfl rfl ?_
        refine pw_iconst 0 (by decide) dX11_choose_49 ?_
        refine ps_istore (l' := [_, _, _, _, _, _, _, _, _, _, _, _, _, _]) dX11_choose_50 (by decide) rfl rfl ?_
        have hch : choR s S M = chL (fun x => stp s.2.2.1.1 s.2.2.1.2.1 s.2.2.1.2.2.1 s.2.2.1.2.2.2.2 x * s.1.1) (mem_ s.2.2.1.1 s.2.2.1.2.1 s.2.2.1.2.2.1 s.2.2.1.2.2.2.2) (fun x => (pkl s.1.1 s.1.2 s.2.2.1.1 s.2.2.1.2.1 s.2.2.1.2.2.1 s.2.2.1.2.2.2.1 s.2.2.1.2.2.2.2 x).length) (stp s.2.2.1.1 s.2.2.1.2.1 s.2.2.1.2.2.1 s.2.2.1.2.2.2.2) S M (nch s.2.2.1.1 s.2.2.1.2.1) 0 (0, 0, 0, s.1.1 + 4, 0) := by
          unfold choR
          rw [hfl, if_neg (by decide)]
          rfl
        have go := mc_loop (Γ := Γ) (Q := Q) (rf := rf) (lo := lo) (X := X) (F := F) (A := A) (S := S) (M := M) (x3 := bI false) a hO.1 hO.2.1 c hS hM (nch s.2.2.1.1 s.2.2.1.2.1) 0 (0, 0, 0, s.1.1 + 4, 0) F1 A1 0 0 0 (.float 0) (.float 0) rfl rfl (by omega) hfr1 (Nat.zero_le _) (by show 0 + 0 ≤ 0; omega) hP0 (by show s.1.1 + 4 ≤ 2000; have := hO.1; omega) (Or.inl ⟨rfl, rfl, rfl⟩) ?_
        · exact go
        · intro F2 A2 a' v6 v7 v8 g10 g11 g12 g13 hfr ha' ha1 hcase
          rcases hcase with ⟨h1, h2⟩ | ⟨h1, h2, h3⟩
          · rw [h1, h2]
            exact zero F2 A2 _ _ _ _ _ _ hfr (by rw [hch, ← ha', h1])
          · refine pw_iload rfl dX11_choose_220 ?_
            refine pw_if_ne 236 dX11_choose_222 (by decide) (fun _ => ?_) (fun q => absurd q (nI_ne0 h1 (by omega)))
            exact fin F2 A2 a' _ _ _ _ _ _ _ hfr (by rw [hch, ha']) h2 h3
    · rw [if_neg hv, if_neg hv] at hQ
      refine pw_if_lt 13 dX11_choose_6 (by decide) (fun q6 => ?_) (fun q6 => ?_)
      · refine pw_iconst (-1) (by decide) dX11_choose_13 ?_
        refine pw_iret dX11_choose_14 (Or.inl rfl) ?_
        exact hQ _ _ frM_0 (MI_0 hI)
      · refine pw_iload_n rfl dX11_choose_9 ?_
        refine pw_if_ge 15 dX11_choose_10 (by decide) (fun q => absurd q ((fun h9 => hv ⟨Int32.not_lt.mp q6, h9⟩))) (fun _ => ?_)
        refine pw_iconst (-1) (by decide) dX11_choose_13 ?_
        refine pw_iret dX11_choose_14 (Or.inl rfl) ?_
        exact hQ _ _ frM_0 (MI_0 hI)
  · intro s F A hO hI
    obtain ⟨o1, o2, o3, o4, o5⟩ := id hO
    by_cases hv : 0 ≤ st ∧ 0 ≤ me
    · rw [if_pos hv]; exact ⟨o1, o2, o3, o4, o5⟩
    · rw [if_neg hv]; exact hO
end
