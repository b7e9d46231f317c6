/-! calls: chain, pack -/
def lF (L : List Int32) : Nat → Int32 := fun j => L.getD j 0
theorem app_same {f : Nat → Int32} {L : List Int32} : same (app f 0 L) (lF L) L.length := by
  intro j hj
  have h := app_at (f := f) (m := 0) hj
  rw [Nat.zero_add] at h
  rw [h]
  unfold lF
  rw [List.getD_eq_getElem?_getD, List.getElem?_eq_getElem hj]
  rfl
theorem lF_B {L : List Int32} (h : lB L) : isB (lF L) L.length := by
  intro j hj
  unfold lF
  rw [List.getD_eq_getElem?_getD, List.getElem?_eq_getElem hj]
  exact h _ (List.getElem_mem hj)
def sPk (s : ST) (x : Nat) : List Int32 := pkl s.1.1 s.1.2 s.2.2.1.1 s.2.2.1.2.1 s.2.2.1.2.2.1 s.2.2.1.2.2.2.1 s.2.2.1.2.2.2.2 x
def anC (s : ST) (x : Nat) (w : Int32) : Int32 := if w = 0 then fo s.2.2.1.1 (x / s.2.2.1.2.1) else if w = 1 then ft s.2.2.1.1 (x / s.2.2.1.2.1) else if w = 2 then nI (s.2.2.1.2.2.2.2 (x % s.2.2.1.2.1)) else if w = 3 then nI (stp s.2.2.1.1 s.2.2.1.2.1 s.2.2.1.2.2.1 s.2.2.1.2.2.2.2 x) else if w = 4 then nI (mem_ s.2.2.1.1 s.2.2.1.2.1 s.2.2.1.2.2.1 s.2.2.1.2.2.2.2 x) else if w = 5 then nI (sPk s x).length else -1
section
variable {Γ : Nat × (Nat → Int32)} {F A : Nat → Nat → Int32} {rf : Nat} {lo : Int64} {X : PH} {Q : Option Value → PH → Prop} {s : ST}
theorem sPk_ok {x : Nat} (hO : OK s) (hC : CH F A s.2.2.1.1 s.2.2.1.2.1 s.2.2.1.2.2.1 s.2.2.1.2.2.2.1 s.2.2.1.2.2.2.2) (hx : x < nch s.2.2.1.1 s.2.2.1.2.1) : lB (sPk s x) ∧ (sPk s x).length ≤ 1000 := by
  obtain ⟨p1, p2, p3, p4, p5, p6, p7, p8⟩ := hC
  exact pkl_ok hO.1 hO.2.1 p2 p4 (fun i hi => (p6 i hi).2.2) (fun i hi => (p7 i hi).2) hx
/-- what is changed by filtered and write -/
def frK (F F' A A' : Nat → Nat → Int32) (t : Nat) : Prop := (∀ i j, ¬ (i = t ∧ j = 1) → ¬ (i = 7 ∧ j = 1) → ¬ (i = 9 ∧ j = 1) → ¬ (i = 28 ∧ j = 5) → ¬ i = 23 → ¬ (i = 17 ∧ (j = 7 ∨ j = 8)) → F' i j = F i j) ∧ (∀ i, ¬ i = t + 1 → ¬ i = 8 → ¬ i = 10 → ¬ i = 16 → ¬ (18 ≤ i ∧ i ≤ 21) → ¬ (24 ≤ i ∧ i ≤ 33) → A' i = A i)
theorem pkW {n x t r : Nat} {T f0 : Nat → Int32} {k P : Nat} {K V PK : Nat → Nat} {F1 A1 F2 A2 : Nat → Nat → Int32} (ht : t = 3 ∨ t = 5) (hfl : same (A1 (r + 1)) (flt k (x / P) K V T n) n) (hFf : ∀ i j, ¬ (i = 7 ∧ j = 1) → ¬ (i = 9 ∧ j = 1) → F1 i j = upF F t 1 (nI (0 + (hdl n k P K V PK x).length)) i j) (hAf : ∀ i, ¬ i = 8 → ¬ i = 10 → ¬ i = 16 → A1 i = stA A (t + 1) (app (A (t + 1)) 0 (hdl n k P K V PK x)) i) (hW : frW F1 F2 A1 A2) :
    frK F (upF F2 t 1 (nI (0 + (pbody (PK (x % P)) (A1 (r + 1)) n (hdl n k P K V PK x)).length))) A (stA A2 (t + 1) (app f0 0 (pbody (PK (x % P)) (A1 (r + 1)) n (hdl n k P K V PK x)))) t ∧ (upF F2 t 1 (nI (0 + (pbody (PK (x % P)) (A1 (r + 1)) n (hdl n k P K V PK x)).length))) t 1 = nI (pkl n T k P K V PK x).length ∧ (stA A2 (t + 1) (app f0 0 (pbody (PK (x % P)) (A1 (r + 1)) n (hdl n k P K V PK x)))) (t + 1) = app f0 0 (pkl n T k P K V PK x) := by
  have hb : pbody (PK (x % P)) (A1 (r + 1)) n (hdl n k P K V PK x) = pkl n T k P K V PK x := cg_pbody hfl
  rw [hb]
  refine ⟨⟨fun i j h1 h2 h3 h4 h5 h6 => ?_, fun i h1 h2 h3 h4 h5 h6 => ?_⟩, ?_, stA_s⟩
  · rw [upF_n h1, hW.1 i j h4 h5 h6, hFf i j h2 h3, upF_n h1]
  · rw [stA_n h1, hW.2 i h5 h6, hAf i h2 h3 h4, stA_n h1]
  · rw [upF_s, Nat.zero_add]
theorem o_pack (x : Int32) : OP Γ mX10_pack mX11_pack [.ref 0, .int x] [.ref 57, .int x] := by
  refine OP_of (fun s => if 0 ≤ x ∧ x < nI (nch s.2.2.1.1 s.2.2.1.2.1) then (s.1, ((sPk s x.toNatClampNeg).length, lF (sPk s x.toNatClampNeg)), s.2.2) else s) (fun s => if 0 ≤ x ∧ x < nI (nch s.2.2.1.1 s.2.2.1.2.1) then nI (sPk s x.toNatClampNeg).length else -1) ?_ ?_ ?_
  · intro F A rf lo X Q s hO hI hQ
    obtain ⟨t1, _, c, _, _, _, g⟩ := id hI
    obtain ⟨p1, p2, p3, p4, p5, p6, p7, p8⟩ := id c
    have hle := nch_le _ p2 _ p5
    refine PM.go (l := [_, _]) rfl rfl (Nat.le_of_ble_eq_true rfl) rfl ?_
    refine pw_aload_n rfl dX10_pack_0 ?_
    refine pw_gC dX10_pack_1 fX10_33 (by first | rfl | assumption) rfl (by first | rfl | assumption) ?_
    refine pw_iload_n rfl dX10_pack_4 ?_
    refine pc_V1 dX10_pack_5 lX10_145 rfl (by first | rfl | assumption) (by decide) (Nat.le_of_ble_eq_true rfl) ?_
    refine c_chas c ?_
    by_cases hx : 0 ≤ x ∧ x < nI (nch s.2.2.1.1 s.2.2.1.2.1)
    · rw [if_pos hx, if_pos hx] at hQ
      rw [if_pos hx]
      obtain ⟨k, hk, rfl⟩ := i32_r hx.1 hx.2 (by omega)
      rw [nI_clamp (by omega)] at hQ
      have hpk := (p7 _ (Nat.mod_lt k p4)).2
      have hfB : isB (flt s.2.2.1.1 (k / s.2.2.1.2.1) s.2.2.1.2.2.1 s.2.2.1.2.2.2.1 s.1.2 s.1.1) s.1.1 := flt_B hO.1 hO.2.1 p2 (grp_lt p4 hk) (fun i hi => (p6 i hi).2.2)
      refine pw_if_ne 13 dX10_pack_8 (by decide) (fun _ => ?_) (fun q => absurd q (by decide))
      refine pw_aload_n rfl dX10_pack_13 ?_
      refine pw_iload_n rfl dX10_pack_14 ?_
      refine pw_aload_n rfl dX10_pack_15 ?_
      refine pw_gC dX10_pack_16 fX10_18 (by first | rfl | assumption) rfl (by first | rfl | assumption) ?_
      refine pc_V2 dX10_pack_19 lX10_159 rfl rfl (by decide) (Nat.le_of_ble_eq_true rfl) ?_
      refine c_writeHead (t := 3) (Or.inl rfl) t1 hO.1 c hk ?_
      unfold WS
      refine pw_aload_n rfl dX10_pack_22 ?_
      refine pw_gC dX10_pack_23 fX10_47 (by first | rfl | assumption) rfl (by first | rfl | assumption) ?_
      refine pw_aload_n rfl dX10_pack_26 ?_
      refine pw_gC dX10_pack_27 fX10_33 (by first | rfl | assumption) rfl (by first | rfl | assumption) ?_
      refine pw_iload_n rfl dX10_pack_30 ?_
      refine pc_V1 dX10_pack_31 lX10_150 rfl rfl (by decide) (Nat.le_of_ble_eq_true rfl) ?_
      refine c_packerOf (CH_fr (upF_n (by omega)) (upF_n (by omega)) (stA_n (by omega)) (stA_n (by omega)) (stA_n (by omega)) c) hk ?_
      refine pw_aload_n rfl dX10_pack_34 ?_
      refine pw_iload_n rfl dX10_pack_35 ?_
      refine pc_V1 dX10_pack_36 lX10_163 rfl rfl (by decide) (Nat.le_of_ble_eq_true rfl) ?_
      refine c_filtered (TX_fr t1 (upF_n (by omega)) (stA_n (by omega))) hO.1 hO.2.1 (CH_fr (upF_n (by omega)) (upF_n (by omega)) (stA_n (by omega)) (stA_n (by omega)) (stA_n (by omega)) c) hk ?_
      intro r F1 A1 hr hF1 hfl hFf hAf
      refine pw_aload_n rfl dX10_pack_39 ?_
      refine pw_gC dX10_pack_40 fX10_18 (by first | rfl | assumption) rfl (by first | rfl | assumption) ?_
      refine pc_V3 dX10_pack_43 lX10_166 rfl rfl (by decide) (Nat.le_of_ble_eq_true rfl) ?_
      have e0 : HS F1 A1 rf lo X = WS F1 A1 3 4 0 (A 4) (hdl s.1.1 s.2.2.1.1 s.2.2.1.2.1 s.2.2.1.2.2.1 s.2.2.1.2.2.2.1 s.2.2.1.2.2.2.2 k) rf lo X := ws_of (by rw [hFf _ _ (by omega) (by omega), upF_s]) (by rw [hAf _ (by omega) (by omega) (by omega), stA_s])
      rw [e0]
      have hl8 := hdl_len (n := s.1.1) (k := s.2.2.1.1) (P := s.2.2.1.2.1) (K := s.2.2.1.2.2.1) (V := s.2.2.1.2.2.2.1) (PK := s.2.2.1.2.2.2.2) (x := k)
      refine c_write hr (t := 3) (Or.inl rfl) hpk hF1 hO.1 (same_B (same_sym hfl) hfB) (by rw [hFf _ _ (by omega) (by omega), upF_n (by omega)]; exact g.1) (by rw [hFf _ _ (by omega) (by omega), upF_n (by omega)]; exact g.2) (by omega) ?_
      intro F2 A2 hW
      unfold WS
      refine pw_aload_n rfl dX10_pack_46 ?_
      refine pw_gC dX10_pack_47 fX10_18 (by first | rfl | assumption) rfl (by first | rfl | assumption) ?_
      refine pc_V0 dX10_pack_50 lX10_86 rfl (by first | rfl | assumption) (by decide) (Nat.le_of_ble_eq_true rfl) ?_
      refine c_count row3 ?_
      obtain ⟨hfr, hlen, hcon⟩ := pkW (F := F) (A := A) (f0 := A 4) (t := 3) (Or.inl rfl) hfl hFf hAf hW
      generalize upF F2 3 1 (nI (0 + (pbody (s.2.2.1.2.2.2.2 (k % s.2.2.1.2.1)) (A1 (r + 1)) s.1.1 (hdl s.1.1 s.2.2.1.1 s.2.2.1.2.1 s.2.2.1.2.2.1 s.2.2.1.2.2.2.1 s.2.2.1.2.2.2.2 k)).length)) = F3 at *
      generalize stA A2 (3 + 1) (app (A 4) 0 (pbody (s.2.2.1.2.2.2.2 (k % s.2.2.1.2.1)) (A1 (r + 1)) s.1.1 (hdl s.1.1 s.2.2.1.1 s.2.2.1.2.1 s.2.2.1.2.2.1 s.2.2.1.2.2.2.1 s.2.2.1.2.2.2.2 k))) = A3 at *
      rw [hlen]
      refine pw_iret dX10_pack_53 (Or.inl rfl) ?_
      refine hQ F3 A3 _ ⟨fun i j h => hfr.1 i j (by omega) (by omega) (by omega) (by omega) (by omega) (by omega), fun i h => hfr.2 i (by omega) (by omega) (by omega) (by omega) (by omega) (by omega)⟩ (CI_O hI (fun i j _ h => hfr.1 i j (by omega) (by omega) (by omega) (by omega) (by omega) (by omega)) (fun i _ h => hfr.2 i (by omega) (by omega) (by omega) (by omega) (by omega) (by omega)) ⟨hlen, ?_⟩)
      intro j hj
      have h9 : A3 4 = app (A 4) 0 (sPk s k) := hcon
      rw [h9]
      exact app_same j hj
    · rw [if_neg hx, if_neg hx] at hQ
      rw [if_neg hx]
      refine pw_if_ne 13 dX10_pack_8 (by decide) (fun q => absurd (rfl) q) (fun _ => ?_)
      refine pw_iconst (-1) (by decide) dX10_pack_11 ?_
      refine pw_iret dX10_pack_12 (Or.inl rfl) ?_
      exact hQ _ _ _ frC_r hI
  · intro F A rf lo X Q s hO hI hQ
    obtain ⟨t1, _, c, _⟩ := id hI
    obtain ⟨p1, p2, p3, p4, p5, p6, p7, p8, p9⟩ := id c
    have hle := nch_le _ p2 _ p5
    refine PM.go (l := [_, _, .float 0]) rfl rfl (Nat.le_of_ble_eq_true rfl) rfl ?_
    refine pw_iload_n rfl dX11_pack_0 ?_
    refine pw_iconst 0 (by decide) dX11_pack_1 ?_
    refine pw_aload_n rfl dX11_pack_2 ?_
    refine pc_V0 dX11_pack_3 lX11_93 rfl (by first | rfl | assumption) (by decide) (Nat.le_of_ble_eq_true rfl) ?_
    refine m_chains c ?_
    refine pw_iconst 1 (by decide) dX11_pack_6 ?_
    refine pw_isub dX11_pack_7 ?_
    refine pc_S3 dX11_pack_8 lX11_75 (by decide) (Nat.le_of_ble_eq_true rfl) ?_
    refine m_in ?_
    by_cases hx : 0 ≤ x ∧ x < nI (nch s.2.2.1.1 s.2.2.1.2.1)
    · rw [if_pos hx, if_pos hx] at hQ
      rw [if_pos ((in_n (by omega)).mpr hx)]
      obtain ⟨k, hk, rfl⟩ := i32_r hx.1 hx.2 (by omega)
      rw [nI_clamp (by omega)] at hQ
      have hlen : (sPk s k).length ≤ 1000 := (pkl_ok hO.1 hO.2.1 p2 p4 (fun i hi => (p6 i hi).2.2) p8 hk).2
      refine pw_if_ne 16 dX11_pack_11 (by decide) (fun _ => ?_) (fun q => absurd q (by decide))
      refine pw_aload_n rfl dX11_pack_16 ?_
      refine pw_iload_n rfl dX11_pack_17 ?_
      refine pc_V1 dX11_pack_18 lX11_189 rfl rfl (by decide) (Nat.le_of_ble_eq_true rfl) ?_
      refine m_packAll (CM_fr (upF_n (by omega)) (upF_n (by omega)) rfl rfl rfl c) hk (by rw [upF_n (by omega)]; exact t1.1) hO.1 hO.2.1 t1.2 ?_
      intro F1 A1 f0 hP h15 h65
      refine pw_aload_n rfl dX11_pack_21 ?_
      refine pw_aload_n rfl dX11_pack_22 ?_
      refine pw_gI dX11_pack_23 fX11_117 (by first | rfl | assumption) rfl ?_
      rw [h15]
      refine pw_pI dX11_pack_26 fX11_80 (by first | rfl | assumption) rfl ⟨rfl, rfl⟩ ?_
      refine pw_iconst 0 (by decide) dX11_pack_29 ?_
      refine ps_istore_n (l' := [_, _, _]) dX11_pack_30 (by decide) rfl rfl ?_
      have hF3 : ∀ i j, ¬ (i = 57 ∧ (j = 0 ∨ j = 3 ∨ j = 10 ∨ j = 11 ∨ j = 12 ∨ j = 15 ∨ j = 17 ∨ j = 29 ∨ j = 30)) → upF F1 57 3 (nI (sPk s k).length) i j = F i j := fun i j h => by rw [upF_n (by omega), hP.1 i j (by omega), upF_n (by omega)]
      have h3 : upF F1 57 3 (nI (sPk s k).length) 57 3 = nI (sPk s k).length := upF_s
      have h15' : upF F1 57 3 (nI (sPk s k).length) 57 15 = nI (sPk s k).length := by rw [upF_n (by omega)]; exact h15
      have loop : ∀ (m i : Nat) (F3 A' : Nat → Nat → Int32), i + m = (sPk s k).length → F3 57 15 = nI (sPk s k).length → (∀ y, ¬ y = 59 → A' y = A1 y) → (∀ y, y < i → A' 59 y = lF (sPk s k) y) →
          (∀ A', (∀ y, ¬ y = 59 → A' y = A1 y) → (∀ y, y < (sPk s k).length → A' 59 y = lF (sPk s k) y) → PW Γ mX11_pack 57 [.ref 57, .int (nI k), .int (nI (sPk s k).length)] [] (HS F3 A' rf lo X) 0 0 Q) →
          PW Γ mX11_pack 31 [.ref 57, .int (nI k), .int (nI i)] [] (HS F3 A' rf lo X) 0 0 Q := by
        intro m
        induction m with
        | zero =>
          intro i F3 A' hi hF hA hY hk9
          have hi2 : i = (sPk s k).length := by omega
          subst hi2
          refine pw_iload_n rfl dX11_pack_31 ?_
          refine pw_aload_n rfl dX11_pack_32 ?_
          refine pw_gI dX11_pack_33 fX11_117 (by first | rfl | assumption) rfl ?_
          rw [hF]
          refine pw_icmp_ge 57 dX11_pack_36 (by decide) (fun _ => ?_) (fun q => absurd (nI_le (Nat.le_refl _) (by omega)) q)
          exact hk9 A' hA hY
        | succ m ih =>
          intro i F3 A' hi hF hA hY hk9
          refine pw_iload_n rfl dX11_pack_31 ?_
          refine pw_aload_n rfl dX11_pack_32 ?_
          refine pw_gI dX11_pack_33 fX11_117 (by first | rfl | assumption) rfl ?_
          rw [hF]
          refine pw_icmp_ge 57 dX11_pack_36 (by decide) (fun q => absurd q (nI_ge (by omega) (by omega))) (fun _ => ?_)
          refine pw_aload_n rfl dX11_pack_39 ?_
          refine pw_gC dX11_pack_40 fX11_13 (by first | rfl | assumption) rfl (by first | rfl | assumption) ?_
          refine pw_iload_n rfl dX11_pack_43 ?_
          refine pw_aload_n rfl dX11_pack_44 ?_
          refine pw_gC dX11_pack_45 fX11_31 (by first | rfl | assumption) rfl (by first | rfl | assumption) ?_
          refine pw_iload_n rfl dX11_pack_48 ?_
          refine pw_aI dX11_pack_49 (by first | rfl | assumption) (by first | assumption | exact vp_in_nI (by omega) (by omega)) ?_
          refine pw_sI dX11_pack_50 (by first | rfl | assumption) (by first | assumption | exact vp_in_nI (by omega) (by omega)) ?_
          refine ps_iinc (l' := [_, _, _]) 1 dX11_pack_51 (by decide) rfl (by decide) rfl rfl ?_
          refine pw_goto 31 dX11_pack_54 (by decide) ?_
          rw [nI_1, nI_clamp (by omega)]
          refine ih (i + 1) F3 _ (by omega) hF (fun y hy => by rw [stA_n hy]; exact hA y hy) (fun y hy => ?_) hk9
          rw [stA_s]
          by_cases h : y = i
          · rw [h, upd_s, hA 65 (by decide), h65]
            exact app_same i (by show i < (sPk s k).length; omega)
          · rw [upd_n h]; exact hY y (by omega)
      refine loop (sPk s k).length 0 _ A1 (by omega) h15' (fun y _ => rfl) (fun y hy => by omega) ?_
      intro A2 hA2 hY2
      refine pw_aload_n rfl dX11_pack_57 ?_
      refine pw_gI dX11_pack_58 fX11_80 (by first | rfl | assumption) rfl ?_
      rw [upF_s]
      refine pw_iret dX11_pack_61 (Or.inl rfl) ?_
      refine hQ _ A2 ⟨fun i j h => hF3 i j (by omega), fun i h => by rw [hA2 i (by omega)]; exact hP.2 i (by omega)⟩ (MI_O hI (fun j hj h => hF3 57 j (by omega)) (fun i _ h => by rw [hA2 i h]; exact hP.2 i (by omega)) ⟨h3, hY2⟩)
    · rw [if_neg hx, if_neg hx] at hQ
      rw [if_neg (fun z => hx ((in_n (by omega)).mp z))]
      refine pw_if_ne 16 dX11_pack_11 (by decide) (fun q => absurd (rfl) q) (fun _ => ?_)
      refine pw_iconst (-1) (by decide) dX11_pack_14 ?_
      refine pw_iret dX11_pack_15 (Or.inl rfl) ?_
      exact hQ _ _ frM_0 (MI_0 hI)
  · intro s F A hO hI
    obtain ⟨o1, o2, o3, o4, o5⟩ := id hO
    obtain ⟨_, _, c, _⟩ := id hI
    obtain ⟨p1, p2, p3, p4, p5, p6, p7, p8⟩ := id c
    have hle := nch_le _ p2 _ p5
    by_cases hx : 0 ≤ x ∧ x < nI (nch s.2.2.1.1 s.2.2.1.2.1)
    · rw [if_pos hx]
      obtain ⟨k, hk, rfl⟩ := i32_r hx.1 hx.2 (by omega)
      rw [nI_clamp (by omega)]
      have h := sPk_ok hO c hk
      exact ⟨o1, o2, by show (sPk s k).length ≤ 1024; omega, lF_B h.1, o5⟩
    · rw [if_neg hx]; exact hO
theorem o_chain (x w : Int32) : OP Γ mX10_chain mX11_chain [.ref 0, .int x, .int w] [.ref 57, .int x, .int w] := by
  refine OP_of (fun s => s) (fun s => if 0 ≤ x ∧ x < nI (nch s.2.2.1.1 s.2.2.1.2.1) then anC s x.toNatClampNeg w else -1) ?_ ?_ (fun s F A hO _ => hO)
  · intro F A rf lo X Q s hO hI hQ
    obtain ⟨t1, _, c, _, _, _, g⟩ := id hI
    obtain ⟨p1, p2, p3, p4, p5, p6, p7, p8⟩ := id c
    have hle := nch_le _ p2 _ p5
    refine PM.go (l := [_, _, _]) rfl rfl (Nat.le_of_ble_eq_true rfl) rfl ?_
    refine pw_aload_n rfl dX10_chain_0 ?_
    refine pw_gC dX10_chain_1 fX10_33 (by first | rfl | assumption) rfl (by first | rfl | assumption) ?_
    refine pw_iload_n rfl dX10_chain_4 ?_
    refine pc_V1 dX10_chain_5 lX10_145 rfl (by first | rfl | assumption) (by decide) (Nat.le_of_ble_eq_true rfl) ?_
    refine c_chas c ?_
    by_cases hx : 0 ≤ x ∧ x < nI (nch s.2.2.1.1 s.2.2.1.2.1)
    · rw [if_pos hx] at hQ
      rw [if_pos hx]
      obtain ⟨k, hk, rfl⟩ := i32_r hx.1 hx.2 (by omega)
      rw [nI_clamp (by omega)] at hQ
      unfold anC at hQ
      refine pw_if_ne 13 dX10_chain_8 (by decide) (fun _ => ?_) (fun q => absurd q (by decide))
      refine pw_iload_n rfl dX10_chain_13 ?_
      by_cases h0 : w = 0
      · subst h0
        rw [if_pos rfl] at hQ
        refine pw_tin 52 dX10_chain_14 (by decide) (by decide) rfl (by decide) ?_
        refine pw_aload_n rfl dX10_chain_52 ?_
        refine pw_gC dX10_chain_53 fX10_33 (by first | rfl | assumption) rfl (by first | rfl | assumption) ?_
        refine pw_iload_n rfl dX10_chain_56 ?_
        refine pw_iload_n rfl dX10_chain_57 ?_
        refine pc_V2 dX10_chain_58 lX10_146 rfl (by first | rfl | assumption) (by decide) (Nat.le_of_ble_eq_true rfl) ?_
        refine c_filterOf0 c hk ?_
        refine pw_iret dX10_chain_61 (Or.inl rfl) ?_
        exact hQ _ _ _ frC_r hI
      · rw [if_neg h0] at hQ
        by_cases h1 : w = 1
        · subst h1
          rw [if_pos rfl] at hQ
          refine pw_tin 52 dX10_chain_14 (by decide) (by decide) rfl (by decide) ?_
          refine pw_aload_n rfl dX10_chain_52 ?_
          refine pw_gC dX10_chain_53 fX10_33 (by first | rfl | assumption) rfl (by first | rfl | assumption) ?_
          refine pw_iload_n rfl dX10_chain_56 ?_
          refine pw_iload_n rfl dX10_chain_57 ?_
          refine pc_V2 dX10_chain_58 lX10_146 rfl (by first | rfl | assumption) (by decide) (Nat.le_of_ble_eq_true rfl) ?_
          refine c_filterOf1 c hk ?_
          refine pw_iret dX10_chain_61 (Or.inl rfl) ?_
          exact hQ _ _ _ frC_r hI
        · rw [if_neg h1] at hQ
          by_cases h2 : w = 2
          · subst h2
            rw [if_pos rfl] at hQ
            refine pw_tin 62 dX10_chain_14 (by decide) (by decide) rfl (by decide) ?_
            refine pw_aload_n rfl dX10_chain_62 ?_
            refine pw_gC dX10_chain_63 fX10_33 (by first | rfl | assumption) rfl (by first | rfl | assumption) ?_
            refine pw_iload_n rfl dX10_chain_66 ?_
            refine pc_V1 dX10_chain_67 lX10_150 rfl (by first | rfl | assumption) (by decide) (Nat.le_of_ble_eq_true rfl) ?_
            refine c_packerOf c hk ?_
            refine pw_iret dX10_chain_70 (Or.inl rfl) ?_
            exact hQ _ _ _ frC_r hI
          · rw [if_neg h2] at hQ
            by_cases h3 : w = 3
            · subst h3
              rw [if_pos rfl] at hQ
              refine pw_tin 71 dX10_chain_14 (by decide) (by decide) rfl (by decide) ?_
              refine pw_aload_n rfl dX10_chain_71 ?_
              refine pw_gC dX10_chain_72 fX10_33 (by first | rfl | assumption) rfl (by first | rfl | assumption) ?_
              refine pw_iload_n rfl dX10_chain_75 ?_
              refine pc_V1 dX10_chain_76 lX10_153 rfl (by first | rfl | assumption) (by decide) (Nat.le_of_ble_eq_true rfl) ?_
              refine c_stepsOf c hk ?_
              refine pw_iret dX10_chain_79 (Or.inl rfl) ?_
              exact hQ _ _ _ frC_r hI
            · rw [if_neg h3] at hQ
              by_cases h4 : w = 4
              · subst h4
                rw [if_pos rfl] at hQ
                refine pw_tin 80 dX10_chain_14 (by decide) (by decide) rfl (by decide) ?_
                refine pw_aload_n rfl dX10_chain_80 ?_
                refine pw_gC dX10_chain_81 fX10_33 (by first | rfl | assumption) rfl (by first | rfl | assumption) ?_
                refine pw_iload_n rfl dX10_chain_84 ?_
                refine pc_V1 dX10_chain_85 lX10_156 rfl (by first | rfl | assumption) (by decide) (Nat.le_of_ble_eq_true rfl) ?_
                refine c_memoryOf c hk ?_
                refine pw_iret dX10_chain_88 (Or.inl rfl) ?_
                exact hQ _ _ _ frC_r hI
              · rw [if_neg h4] at hQ
                by_cases h5 : w = 5
                · subst h5
                  rw [if_pos rfl] at hQ
                  have hpk := (p7 _ (Nat.mod_lt k p4)).2
                  have hfB : isB (flt s.2.2.1.1 (k / s.2.2.1.2.1) s.2.2.1.2.2.1 s.2.2.1.2.2.2.1 s.1.2 s.1.1) s.1.1 := flt_B hO.1 hO.2.1 p2 (grp_lt p4 hk) (fun i hi => (p6 i hi).2.2)
                  refine pw_tin 89 dX10_chain_14 (by decide) (by decide) rfl (by decide) ?_
                  refine pw_aload_n rfl dX10_chain_89 ?_
                  refine pw_iload_n rfl dX10_chain_90 ?_
                  refine pw_aload_n rfl dX10_chain_91 ?_
                  refine pw_gC dX10_chain_92 fX10_21 (by first | rfl | assumption) rfl (by first | rfl | assumption) ?_
                  refine pc_V2 dX10_chain_95 lX10_159 rfl rfl (by decide) (Nat.le_of_ble_eq_true rfl) ?_
                  refine c_writeHead (t := 5) (Or.inr rfl) t1 hO.1 c hk ?_
                  unfold WS
                  refine pw_aload_n rfl dX10_chain_98 ?_
                  refine pw_gC dX10_chain_99 fX10_47 (by first | rfl | assumption) rfl (by first | rfl | assumption) ?_
                  refine pw_aload_n rfl dX10_chain_102 ?_
                  refine pw_gC dX10_chain_103 fX10_33 (by first | rfl | assumption) rfl (by first | rfl | assumption) ?_
                  refine pw_iload_n rfl dX10_chain_106 ?_
                  refine pc_V1 dX10_chain_107 lX10_150 rfl rfl (by decide) (Nat.le_of_ble_eq_true rfl) ?_
                  refine c_packerOf (CH_fr (upF_n (by omega)) (upF_n (by omega)) (stA_n (by omega)) (stA_n (by omega)) (stA_n (by omega)) c) hk ?_
                  refine pw_aload_n rfl dX10_chain_110 ?_
                  refine pw_iload_n rfl dX10_chain_111 ?_
                  refine pc_V1 dX10_chain_112 lX10_163 rfl rfl (by decide) (Nat.le_of_ble_eq_true rfl) ?_
                  refine c_filtered (TX_fr t1 (upF_n (by omega)) (stA_n (by omega))) hO.1 hO.2.1 (CH_fr (upF_n (by omega)) (upF_n (by omega)) (stA_n (by omega)) (stA_n (by omega)) (stA_n (by omega)) c) hk ?_
                  intro r F1 A1 hr hF1 hfl hFf hAf
                  refine pw_aload_n rfl dX10_chain_115 ?_
                  refine pw_gC dX10_chain_116 fX10_21 (by first | rfl | assumption) rfl (by first | rfl | assumption) ?_
                  refine pc_V3 dX10_chain_119 lX10_166 rfl rfl (by decide) (Nat.le_of_ble_eq_true rfl) ?_
                  have e0 : HS F1 A1 rf lo X = WS F1 A1 5 6 0 (A 6) (hdl s.1.1 s.2.2.1.1 s.2.2.1.2.1 s.2.2.1.2.2.1 s.2.2.1.2.2.2.1 s.2.2.1.2.2.2.2 k) rf lo X := ws_of (by rw [hFf _ _ (by omega) (by omega), upF_s]) (by rw [hAf _ (by omega) (by omega) (by omega), stA_s])
                  rw [e0]
                  have hl8 := hdl_len (n := s.1.1) (k := s.2.2.1.1) (P := s.2.2.1.2.1) (K := s.2.2.1.2.2.1) (V := s.2.2.1.2.2.2.1) (PK := s.2.2.1.2.2.2.2) (x := k)
                  refine c_write hr (t := 5) (Or.inr rfl) hpk hF1 hO.1 (same_B (same_sym hfl) hfB) (by rw [hFf _ _ (by omega) (by omega), upF_n (by omega)]; exact g.1) (by rw [hFf _ _ (by omega) (by omega), upF_n (by omega)]; exact g.2) (by omega) ?_
                  intro F2 A2 hW
                  unfold WS
                  refine pw_aload_n rfl dX10_chain_122 ?_
                  refine pw_gC dX10_chain_123 fX10_21 (by first | rfl | assumption) rfl (by first | rfl | assumption) ?_
                  refine pc_V0 dX10_chain_126 lX10_86 rfl (by first | rfl | assumption) (by decide) (Nat.le_of_ble_eq_true rfl) ?_
                  refine c_count (row_to (t := 5) (Or.inr rfl)) ?_
                  obtain ⟨hfr, hlen, hcon⟩ := pkW (F := F) (A := A) (f0 := A 6) (t := 5) (Or.inr rfl) hfl hFf hAf hW
                  generalize upF F2 5 1 (nI (0 + (pbody (s.2.2.1.2.2.2.2 (k % s.2.2.1.2.1)) (A1 (r + 1)) s.1.1 (hdl s.1.1 s.2.2.1.1 s.2.2.1.2.1 s.2.2.1.2.2.1 s.2.2.1.2.2.2.1 s.2.2.1.2.2.2.2 k)).length)) = F3 at *
                  generalize stA A2 (5 + 1) (app (A 6) 0 (pbody (s.2.2.1.2.2.2.2 (k % s.2.2.1.2.1)) (A1 (r + 1)) s.1.1 (hdl s.1.1 s.2.2.1.1 s.2.2.1.2.1 s.2.2.1.2.2.1 s.2.2.1.2.2.2.1 s.2.2.1.2.2.2.2 k))) = A3 at *
                  rw [hlen]
                  refine pw_iret dX10_chain_129 (Or.inl rfl) ?_
                  exact hQ F3 A3 _ ⟨fun i j h => hfr.1 i j (by omega) (by omega) (by omega) (by omega) (by omega) (by omega), fun i h => hfr.2 i (by omega) (by omega) (by omega) (by omega) (by omega) (by omega)⟩ (CI_S hI (fun i j _ => hfr.1 i j (by omega) (by omega) (by omega) (by omega) (by omega) (by omega)) (fun i _ => hfr.2 i (by omega) (by omega) (by omega) (by omega) (by omega) (by omega)))
                · rw [if_neg h5] at hQ
                  have n0 := toInt_ne (k := 0) (by omega) h0
                  have n1 := toInt_ne (k := 1) (by omega) h1
                  have n2 := toInt_ne (k := 2) (by omega) h2
                  have n3 := toInt_ne (k := 3) (by omega) h3
                  have n4 := toInt_ne (k := 4) (by omega) h4
                  have n5 := toInt_ne (k := 5) (by omega) h5
                  refine pw_tout 130 dX10_chain_14 (by omega) (by decide) ?_
                  refine pw_iconst (-1) (by decide) dX10_chain_130 ?_
                  refine pw_iret dX10_chain_131 (Or.inl rfl) ?_
                  exact hQ _ _ _ frC_r hI
    · rw [if_neg hx] at hQ
      rw [if_neg hx]
      refine pw_if_ne 13 dX10_chain_8 (by decide) (fun q => absurd (rfl) q) (fun _ => ?_)
      refine pw_iconst (-1) (by decide) dX10_chain_11 ?_
      refine pw_iret dX10_chain_12 (Or.inl rfl) ?_
      exact hQ _ _ _ frC_r hI
  · intro F A rf lo X Q s hO hI hQ
    obtain ⟨t1, _, c, _⟩ := id hI
    obtain ⟨p1, p2, p3, p4, p5, p6, p7, p8, p9⟩ := id c
    have hle := nch_le _ p2 _ p5
    refine PM.go (l := [_, _, _]) rfl rfl (Nat.le_of_ble_eq_true rfl) rfl ?_
    refine pw_iload_n rfl dX11_chain_0 ?_
    refine pw_iconst 0 (by decide) dX11_chain_1 ?_
    refine pw_aload_n rfl dX11_chain_2 ?_
    refine pc_V0 dX11_chain_3 lX11_93 rfl (by first | rfl | assumption) (by decide) (Nat.le_of_ble_eq_true rfl) ?_
    refine m_chains c ?_
    refine pw_iconst 1 (by decide) dX11_chain_6 ?_
    refine pw_isub dX11_chain_7 ?_
    refine pc_S3 dX11_chain_8 lX11_75 (by decide) (Nat.le_of_ble_eq_true rfl) ?_
    refine m_in ?_
    by_cases hx : 0 ≤ x ∧ x < nI (nch s.2.2.1.1 s.2.2.1.2.1)
    · rw [if_pos hx] at hQ
      rw [if_pos ((in_n (by omega)).mpr hx)]
      obtain ⟨k, hk, rfl⟩ := i32_r hx.1 hx.2 (by omega)
      rw [nI_clamp (by omega)] at hQ
      have c0 : CM (upF F 57 0 0) A s.2.2.1.1 s.2.2.1.2.1 s.2.2.1.2.2.1 s.2.2.1.2.2.2.1 s.2.2.1.2.2.2.2 := CM_fr (upF_n (by omega)) (upF_n (by omega)) rfl rfl rfl c
      unfold anC at hQ
      refine pw_if_ne 16 dX11_chain_11 (by decide) (fun _ => ?_) (fun q => absurd q (by decide))
      refine pw_aload_n rfl dX11_chain_16 ?_
      refine pw_iload_n rfl dX11_chain_17 ?_
      refine pc_V1 dX11_chain_18 lX11_165 rfl (by first | rfl | assumption) (by decide) (Nat.le_of_ble_eq_true rfl) ?_
      refine m_part c0 hk ?_
      refine pw_iload_n rfl dX11_chain_21 ?_
      have hF3 : ∀ i j, ¬ (i = 57 ∧ (j = 0 ∨ j = 10 ∨ j = 11 ∨ j = 12)) → upP (upF F 57 0 0) (nI (s.2.2.1.2.2.2.2 (k % s.2.2.1.2.1))) (fo s.2.2.1.1 (k / s.2.2.1.2.1)) (ft s.2.2.1.1 (k / s.2.2.1.2.1)) i j = F i j := fun i j h => by
        unfold upP
        rw [upF_n (by omega), upF_n (by omega), upF_n (by omega), upF_n (by omega)]
      have done : ∀ v, (∀ F' A', frM F F' A A' → MI F' A' s → Q (some (.int v)) (HS F' A' rf lo X)) → Q (some (.int v)) (HS (upP (upF F 57 0 0) (nI (s.2.2.1.2.2.2.2 (k % s.2.2.1.2.1))) (fo s.2.2.1.1 (k / s.2.2.1.2.1)) (ft s.2.2.1.1 (k / s.2.2.1.2.1))) A rf lo X) := fun v h => h _ _ ⟨fun i j h => hF3 i j (by omega), fun i _ => rfl⟩ (MI_S hI (fun j hj => hF3 57 j (by omega)) (fun i _ => rfl))
      by_cases h0 : w = 0
      · subst h0
        rw [if_pos rfl] at hQ
        refine pw_tin 60 dX11_chain_22 (by decide) (by decide) rfl (by decide) ?_
        refine pw_aload_n rfl dX11_chain_60 ?_
        refine pw_gI dX11_chain_61 fX11_100 (by first | rfl | assumption) rfl ?_
        rw [upP_o]
        refine pw_iret dX11_chain_64 (Or.inl rfl) ?_
        exact done _ hQ
      · rw [if_neg h0] at hQ
        by_cases h1 : w = 1
        · subst h1
          rw [if_pos rfl] at hQ
          refine pw_tin 65 dX11_chain_22 (by decide) (by decide) rfl (by decide) ?_
          refine pw_aload_n rfl dX11_chain_65 ?_
          refine pw_gI dX11_chain_66 fX11_103 (by first | rfl | assumption) rfl ?_
          rw [upP_t]
          refine pw_iret dX11_chain_69 (Or.inl rfl) ?_
          exact done _ hQ
        · rw [if_neg h1] at hQ
          by_cases h2 : w = 2
          · subst h2
            rw [if_pos rfl] at hQ
            refine pw_tin 70 dX11_chain_22 (by decide) (by decide) rfl (by decide) ?_
            refine pw_aload_n rfl dX11_chain_70 ?_
            refine pw_gI dX11_chain_71 fX11_97 (by first | rfl | assumption) rfl ?_
            rw [upP_l]
            refine pw_iret dX11_chain_74 (Or.inl rfl) ?_
            exact done _ hQ
          · rw [if_neg h2] at hQ
            by_cases h3 : w = 3
            · subst h3
              rw [if_pos rfl] at hQ
              refine pw_tin 75 dX11_chain_22 (by decide) (by decide) rfl (by decide) ?_
              refine pw_aload_n rfl dX11_chain_75 ?_
              refine pc_V0 dX11_chain_76 lX11_183 rfl (by first | rfl | assumption) (by decide) (Nat.le_of_ble_eq_true rfl) ?_
              refine m_stepsOf c0 hk ?_
              refine pw_iret dX11_chain_79 (Or.inl rfl) ?_
              exact done _ hQ
            · rw [if_neg h3] at hQ
              by_cases h4 : w = 4
              · subst h4
                rw [if_pos rfl] at hQ
                refine pw_tin 80 dX11_chain_22 (by decide) (by decide) rfl (by decide) ?_
                refine pw_aload_n rfl dX11_chain_80 ?_
                refine pc_V0 dX11_chain_81 lX11_186 rfl (by first | rfl | assumption) (by decide) (Nat.le_of_ble_eq_true rfl) ?_
                refine m_memoryOf c0 hk ?_
                refine pw_iret dX11_chain_84 (Or.inl rfl) ?_
                exact done _ hQ
              · rw [if_neg h4] at hQ
                by_cases h5 : w = 5
                · subst h5
                  rw [if_pos rfl] at hQ
                  refine pw_tin 85 dX11_chain_22 (by decide) (by decide) rfl (by decide) ?_
                  refine pw_aload_n rfl dX11_chain_85 ?_
                  refine pw_iload_n rfl dX11_chain_86 ?_
                  refine pc_V1 dX11_chain_87 lX11_189 rfl rfl (by decide) (Nat.le_of_ble_eq_true rfl) ?_
                  refine m_packAll (CM_fr (hF3 _ _ (by omega)) (hF3 _ _ (by omega)) rfl rfl rfl c) hk (by rw [hF3 _ _ (by omega)]; exact t1.1) hO.1 hO.2.1 t1.2 ?_
                  intro F1 A1 f0 hP h15 h65
                  refine pw_aload_n rfl dX11_chain_90 ?_
                  refine pw_gI dX11_chain_91 fX11_117 (by first | rfl | assumption) rfl ?_
                  rw [h15]
                  refine pw_iret dX11_chain_94 (Or.inl rfl) ?_
                  exact hQ F1 A1 ⟨fun i j h => by rw [hP.1 i j (by omega)]; exact hF3 i j (by omega), fun i h => hP.2 i (by omega)⟩ (MI_S hI (fun j hj => by rw [hP.1 57 j (by omega)]; exact hF3 57 j (by omega)) (fun i hi => hP.2 i (by omega)))
                · rw [if_neg h5] at hQ
                  have n0 := toInt_ne (k := 0) (by omega) h0
                  have n1 := toInt_ne (k := 1) (by omega) h1
                  have n2 := toInt_ne (k := 2) (by omega) h2
                  have n3 := toInt_ne (k := 3) (by omega) h3
                  have n4 := toInt_ne (k := 4) (by omega) h4
                  have n5 := toInt_ne (k := 5) (by omega) h5
                  refine pw_tout 95 dX11_chain_22 (by omega) (by decide) ?_
                  refine pw_iconst (-1) (by decide) dX11_chain_95 ?_
                  refine pw_iret dX11_chain_96 (Or.inl rfl) ?_
                  exact done _ hQ
    · rw [if_neg hx] at hQ
      rw [if_neg (fun z => hx ((in_n (by omega)).mp z))]
      refine pw_if_ne 16 dX11_chain_11 (by decide) (fun q => absurd (rfl) q) (fun _ => ?_)
      refine pw_iconst (-1) (by decide) dX11_chain_14 ?_
      refine pw_iret dX11_chain_15 (Or.inl rfl) ?_
      exact hQ _ _ frM_0 (MI_0 hI)
end
