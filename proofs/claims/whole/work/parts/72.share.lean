/-! share: the object's answer or throw; the law's own share, which catches it; the reference's -/
abbrev shv (p0 a : Int32) : Int64 := (1000 : Int64) * p0.toInt64 / a.toInt64
theorem i64_ne {a : Int32} (h : ¬ a = 0) : ¬ a.toInt64 = 0 := fun h9 => h (Int32.toInt_inj.mp (by rw [← Int32.toInt_toInt64, h9]; rfl))
section
variable {Γ : Nat × (Nat → Int32)} {F A : Nat → Nat → Int32} {lo : Int64} {X : PH} {Q : Option Value → PH → Prop} {rf : Nat}
theorem c_share {h : PH} {p0 a : Int32} (ha : ¬ a = 0) (hQ : Q (some (.long (shv p0 a))) h) : PM Γ mX10_share [.ref 0, .int p0, .int a] h 0 0 Q := by
  refine PM.go (l := [_, _, _]) rfl rfl (Nat.le_of_ble_eq_true rfl) rfl ?_
  refine pw_iload_n rfl dX10_share_0 ?_
  refine pw_if_ne 14 dX10_share_1 (by decide) (fun _ => ?_) (fun q => absurd q (ha))
  refine pw_ldc2 qX10_188 dX10_share_14 ?_
  refine pw_iload_n rfl dX10_share_17 ?_
  refine pw_i2l dX10_share_18 ?_
  refine pw_lmul dX10_share_19 ?_
  refine pw_iload_n rfl dX10_share_20 ?_
  refine pw_i2l dX10_share_21 ?_
  refine pw_ldiv (i64_ne ha) dX10_share_22 ?_
  refine pw_lret dX10_share_23 rfl ?_
  exact hQ
theorem m_share {p0 a : Int32} (hQ : Q (some (.long (if a = 0 then 0 else shv p0 a))) (HS (upF F 57 0 (if a = 0 then 1 else 0)) A rf lo X)) : PM Γ mX11_share [.ref 57, .int p0, .int a] (HS F A rf lo X) 0 0 Q := by
  by_cases ha : a = 0
  · rw [if_pos ha, if_pos ha] at hQ
    refine PM.go (l := [_, _, _]) rfl rfl (Nat.le_of_ble_eq_true rfl) rfl ?_
    refine pw_aload_n rfl dX11_share_0 ?_
    refine pw_iload_n rfl dX11_share_1 ?_
    refine pw_if_ne 9 dX11_share_2 (by decide) (fun q => absurd (ha) q) (fun _ => ?_)
    refine pw_iconst 1 (by decide) dX11_share_5 ?_
    refine pw_goto 10 dX11_share_6 (by decide) ?_
    refine pw_pI dX11_share_10 fX11_65 (by first | rfl | assumption) rfl ⟨rfl, rfl⟩ ?_
    refine pw_iload_n rfl dX11_share_13 ?_
    refine pw_if_ne 21 dX11_share_14 (by decide) (fun q => absurd (ha) q) (fun _ => ?_)
    refine pw_lconst 0 (by decide) dX11_share_17 ?_
    refine pw_goto 30 dX11_share_18 (by decide) ?_
    refine pw_lret dX11_share_30 rfl ?_
    exact hQ
  · rw [if_neg ha, if_neg ha] at hQ
    refine PM.go (l := [_, _, _]) rfl rfl (Nat.le_of_ble_eq_true rfl) rfl ?_
    refine pw_aload_n rfl dX11_share_0 ?_
    refine pw_iload_n rfl dX11_share_1 ?_
    refine pw_if_ne 9 dX11_share_2 (by decide) (fun _ => ?_) (fun q => absurd q (ha))
    refine pw_iconst 0 (by decide) dX11_share_9 ?_
    refine pw_pI dX11_share_10 fX11_65 (by first | rfl | assumption) rfl ⟨rfl, rfl⟩ ?_
    refine pw_iload_n rfl dX11_share_13 ?_
    refine pw_if_ne 21 dX11_share_14 (by decide) (fun _ => ?_) (fun q => absurd q (ha))
    refine pw_ldc2 qX11_199 dX11_share_21 ?_
    refine pw_iload_n rfl dX11_share_24 ?_
    refine pw_i2l dX11_share_25 ?_
    refine pw_lmul dX11_share_26 ?_
    refine pw_iload_n rfl dX11_share_27 ?_
    refine pw_i2l dX11_share_28 ?_
    refine pw_ldiv (i64_ne ha) dX11_share_29 ?_
    refine pw_lret dX11_share_30 rfl ?_
    exact hQ
theorem m_thrown (hQ : Q (some (.int (F 57 0))) (HS F A rf lo X)) : PM Γ mX11_thrown [.ref 57] (HS F A rf lo X) 0 0 Q := by
  refine PM.go (l := [_]) rfl rfl (Nat.le_of_ble_eq_true rfl) rfl ?_
  refine pw_aload_n rfl dX11_thrown_0 ?_
  refine pw_gI dX11_thrown_1 fX11_65 (by first | rfl | assumption) rfl ?_
  refine pw_iret dX11_thrown_4 (Or.inl rfl) ?_
  exact hQ
end
/-! the throw -/
abbrev mX10_shX : MD := (yX10_share, cX10_share, 3, some .long, 6, 82)
def aeN : String := "java/lang/ArithmeticException"
def aeU : List String := ["java/lang/RuntimeException", "java/lang/Exception"]
def shX : String → State → State → Prop := fun E st t => E = aeN ∧ st.heap.size ≤ t.heap.size ∧ ∀ q : Nat, q < st.heap.size → t.heap[q]? = st.heap[q]?
def kd9 (w : Cond) : Bool := match w with
  | .castable _ _ => true
  | .declares _ => true
  | _ => false
set_option maxRecDepth 20000 in
theorem sh_in : ∀ w ∈ vx_atS RX10 185 aeN aeU, w ∈ lw_tbl := by decide +kernel
theorem sh_gd : ∀ w ∈ vx_atS RX10 185 aeN aeU, goodWord w = true ∨ kd9 w = true := by decide +kernel
theorem sh_ot : ∀ w ∈ Cond.classLink RX10 181 aeN :: Cond.initialized aeN :: vx_atS RX10 185 aeN aeU, vx_ot w = true := by decide +kernel
theorem sh_nest {w : Cond} (h : w ∈ lw_tbl) (h2 : kd9 w = true) : w ∈ pnest := List.mem_filter.mpr ⟨h, by cases w <;> first | rfl | exact absurd h2 Bool.false_ne_true⟩
theorem sh_words {args : Array Value} {s : State} (hts : ∀ w ∈ lw_good, w.before args s = true) (hn : ∀ w ∈ pnest, va_Nw w s) : ∀ w ∈ vx_atS RX10 185 aeN aeU, w.before args s = true := by
  intro w hw
  rcases sh_gd w hw with h | h
  · exact hts w (lw_mem (sh_in w hw) h)
  · have h1 := hn w (sh_nest (sh_in w hw) h)
    exact va_tabs (by cases w <;> first | rfl | exact absurd h Bool.false_ne_true) rfl h1
set_option maxRecDepth 20000 in
theorem sh_l1 : Cond.classLink RX10 181 aeN ∈ lw_tbl ∧ Cond.initialized aeN ∈ lw_tbl ∧ Cond.classLink RL 13 aeN ∈ lw_tbl ∧ Cond.castable aeN aeN ∈ lw_tbl ∧ Cond.methodLink RL 83 yL_share ∈ lw_tbl ∧ Cond.static yL_share ∈ lw_tbl ∧ Cond.initialized RL ∈ lw_tbl ∧ Cond.codeWith yL_share cL_share 5 (some .int) [(0, 9, 12, 13)] ∈ lw_tbl := by decide +kernel
theorem sh_l2 : goodWord (Cond.classLink RX10 181 aeN) = true ∧ goodWord (Cond.initialized aeN) = true ∧ goodWord (Cond.classLink RL 13 aeN) = true ∧ goodWord (Cond.methodLink RL 83 yL_share) = true ∧ goodWord (Cond.static yL_share) = true ∧ goodWord (Cond.initialized RL) = true ∧ goodWord (Cond.codeWith yL_share cL_share 5 (some .int) [(0, 9, 12, 13)]) = true := by decide +kernel
theorem x_share {Γ : Nat × (Nat → Int32)} {h : PH} {p0 : Int32} (lc : LC) (D : va_G) (Y : FieldType → ClassId) (σ : Nat → Nat) (base : Nat) :
    vx_Met lc.1 yX10_share (pws mX10_shX) { frames := 6, cells := 1, slots := 6, locals := 82 } (va_Pc ([Value.ref 0, .int p0, .int 0].map (pv σ base)) (fun U => pwd D Y σ base h U.heap ∧ penv Γ U D Y σ base)) (fun _ _ _ _ => False) shX 1 6 (pA base) := by
  refine vx_ofW (cc := cX10_share) (maxL := 3) (ret := some .long) (by decide) rfl ?_
  intro p e s m args below meth c s₁ B hml htab hv
  obtain ⟨rfl, hP, hE⟩ := hv
  have hts := atoms_spec (ws := pws mX10_shX) B.pre
  have hts' : ∀ w ∈ lw_good, w.before _ s = true := fun w hw => hts w (List.mem_cons_of_mem _ hw)
  have hlk := B.notSynchronized
  rw [lg_entry_eq]
  have hL := plv_entry (σ := σ) (base := base) (n := 3) [Value.ref 0, .int p0, .int 0] (fun v hv => by simp at hv; rcases hv with rfl | rfl | rfl <;> rfl) (Nat.le_of_ble_eq_true rfl)
  refine lv_iload_n B.exec B.bytes dX10_share_0 rfl (hL.2.2 2 (.int 0) rfl (fun q => by cases q)) ?_
  refine lv_if_ne B.exec B.bytes dX10_share_1 (tgt := 14) (by decide) (fun q => absurd rfl q) (fun _ => ?_)
  obtain ⟨⟨-, ⟨sa, x1⟩, x2, x3⟩, -, hnw, -⟩ := hE
  exact vx_throwS (own := RX10) (cls := aeN) (text := "a share of 0") (names := aeU) (ik := 181) (is := 183) (ic := 185) (sa := sa) (A := pA base) (pc := 4) (cc := cX10_share) B.exec B.bytes lc.2 (findClass_of_methodNamed B.named) (by decide) (by decide)
    (hts' _ (lw_mem sh_l1.1 sh_l2.1)) (hts' _ (lw_mem sh_l1.2.1 sh_l2.2.1)) x1 (sh_words hts' hnw) sh_ot x2 x3 va_S.rf (hL.1.trans hml.symm)
    dX10_share_4 dX10_share_7 dX10_share_8 dX10_share_10 dX10_share_13 (fun x hx => (htab x hx).elim) (by decide) (by decide) (by decide) (by decide) hlk
    (fun t _ h1 h2 => ⟨rfl, h1, h2⟩) (fun z hz => by cases hz) (by decide) (by decide)
/-! the law's share -/
abbrev mL_shX : MD := (yL_share, cL_share, 5, some .int, 7, 104)
def pwsW : List Cond := Cond.codeWith yL_share cL_share 5 (some .int) [(0, 9, 12, 13)] :: lw_good
def PMS (Γ : Nat × (Nat → Int32)) (as : List Value) (h : PH) (Q : Option Value → PH → Prop) : Prop :=
  ∀ (lc : LC) (D : va_G) (Y : FieldType → ClassId) (σ : Nat → Nat) (base : Nat),
    Met lc.1 yL_share pwsW { frames := 7, cells := 1, slots := 6, locals := 104 } (va_Pc (as.map (pv σ base)) (fun U => pwd D Y σ base h U.heap ∧ penv Γ U D Y σ base))
      (fun _ st oc t => (∃ (r : Option Value) (h' : PH), Q r h' ∧ oc = .returned (r.map (pv σ base)) ∧ pwd D Y σ base h' t.heap) ∧ va_F (pA base) st t) 1 6 (pA base)
/-- cells of which nothing is told -/
def junk (n : Nat) : PH := List.replicate n (.inr (99, []))
theorem pwd_junk {D : va_G} {Y : FieldType → ClassId} {σ : Nat → Nat} {base : Nat} {h : PH} {H H1 : Heap} (hP : pwd D Y σ base h H) (hz : H.size ≤ H1.size) (hq : ∀ q : Nat, q < H.size → H1[q]? = H[q]?) : pwd D Y σ base (h ++ junk (H1.size - H.size)) H1 := by
  have hs := hP.1
  refine ⟨by rw [List.length_append, junk, List.length_replicate]; omega, fun j x hx => ?_⟩
  by_cases hj : j < h.length
  · rw [List.getElem?_append_left hj] at hx
    exact pat_kept (hq _ (by omega)) (hP.2 j x hx)
  · rw [List.getElem?_append_right (by omega)] at hx
    have hm := List.mem_of_getElem? hx
    rw [junk, List.mem_replicate] at hm
    rw [hm.2]
    have h99 : vwCl[99]? = none := rfl
    unfold pat
    simp only [h99]
theorem HS_junk {F A : Nat → Nat → Int32} {rf : Nat} {lo : Int64} {X : PH} (n : Nat) : HS F A rf lo X ++ junk n = HS F A rf lo (X ++ junk n) := by
  unfold HS HSg
  rw [List.append_assoc, List.cons_append]
theorem HS_ln {F A : Nat → Nat → Int32} {rf : Nat} {lo : Int64} {X : PH} : (HS F A rf lo X)[74]? = some (.inl (.long, 1, .inr (.inl (fun _ => lo)))) := by
  unfold HS HSg
  rw [List.getElem?_append_right (by rw [List.length_mapIdx, shp_len]; exact Nat.le_refl _), List.length_mapIdx, shp_len]
  rfl
theorem HS_lnset {F A : Nat → Nat → Int32} {rf : Nat} {lo lo' : Int64} {X : PH} : (HS F A rf lo X).set 74 (.inl (.long, 1, .inr (.inl (fun _ => lo')))) = HS F A rf lo' X := by
  unfold HS HSg
  rw [List.set_append_right _ _ (by rw [List.length_mapIdx, shp_len]; exact Nat.le_refl _), List.length_mapIdx, shp_len]
  rfl
theorem pwd_re {D : va_G} {Y : FieldType → ClassId} {σ : Nat → Nat} {base i : Nat} {h : PH} {e1 e2 : PE} {H : Heap} (he : pat D Y σ base i e1 H → pat D Y σ base i e2 H) (hP : pwd D Y σ base (h.set i e1) H) : pwd D Y σ base (h.set i e2) H := by
  refine ⟨by rw [hP.1, List.length_set, List.length_set], fun j x hx => ?_⟩
  by_cases hj : j = i
  · subst hj
    by_cases hl : j < h.length
    · rw [List.getElem?_set_self hl] at hx
      cases hx
      exact he (hP.2 j e1 (List.getElem?_set_self hl))
    · have : j < (h.set j e2).length := (List.getElem?_eq_some_iff.mp hx).1
      rw [List.length_set] at this
      exact absurd this hl
  · rw [List.getElem?_set_ne (Ne.symm hj)] at hx
    exact hP.2 j x (by rw [List.getElem?_set_ne (Ne.symm hj)]; exact hx)
theorem vp_cell1 {cA : ClassId} {f g : Nat → Int64} (h : f 0 = g 0) : vp_cell cA (1, .inr (.inl f)) = vp_cell cA (1, .inr (.inl g)) := by
  rw [vp_cell_l, vp_cell_l]
  unfold arrV
  have e : (fun j : Fin 1 => Value.long (f j.val)) = fun j : Fin 1 => Value.long (g j.val) := by
    funext j
    have hj : j.val = 0 := by omega
    rw [hj, h]
  rw [e]
section
variable {Γ : Nat × (Nat → Int32)} {F A : Nat → Nat → Int32} {lo : Int64} {X : PH} {Q : Option Value → PH → Prop} {rf : Nat}
theorem pw_ln {M : MD} {pc : Nat} {l st : List Value} {bc bs : Nat} {f : Nat → Int64} {lo' : Int64} (hf : f 0 = lo') (k : PW Γ M pc l st (HS F A rf lo' X) bc bs Q) : PW Γ M pc l st ((HS F A rf lo X).set 74 (.inl (.long, 1, .inr (.inl f)))) bc bs Q := by
  intro p lc e R s m args below meth c D Y σ base H locs cells slots ls Z C hP hS hL hc hs fin
  refine k p lc e R s m args below meth c D Y σ base H locs cells slots ls Z C ?_ hS hL hc hs fin
  rw [← HS_lnset (lo := lo) (lo' := lo')]
  refine pwd_re (fun hp => ?_) hP
  have hp' : H[base + 74]? = some (vp_cell (Y .long) (1, .inr (.inl f))) := hp
  show H[base + 74]? = some (vp_cell (Y .long) (1, .inr (.inl (fun _ => lo'))))
  rw [hp', vp_cell1 (g := fun _ => lo') hf]
theorem s0_walk {p0 : Int32} {p : Program} {lc : LC} {e : Env} {R : Room} {s : State} {m : MethodId} {args : Array Value} {below : List Frame} {meth : Method} {c : Code} {D : va_G} {Y : FieldType → ClassId} {σ : Nat → Nat} {base : Nat} {H : Heap} {locs : List Loc} {cells slots : Nat} {ls : Array Slot} {Z : State → Prop}
    (C : pcx Γ mL_shX p R s m args meth c D Y σ base) (htab : c.exceptionTable.toList = tableOf [(0, 9, 12, 13)]) (hP : pwd D Y σ base (HS F A rf lo X) H) (hS : va_S (pA base) s.heap H locs) (hL : plv σ base ls 5 [.ref 0, .int p0, .int 0, .ref 74, .float 0]) (hc : cells + 1 ≤ R.cells) (hs : slots + 6 ≤ R.slots)
    (fin : ∀ (X' : PH) (H' : Heap) (locs' : List Loc) (ls' : Array Slot), pwd D Y σ base (HS F A rf lo X') H' → va_S (pA base) s.heap H' locs' → W p lc.1 e R s m args below meth c H' locs' (cells + 1) (slots + 6) Z (F0 m 15 ls' [.int 1])) :
    W p lc.1 e R s m args below meth c H locs cells slots Z (F0 m 0 ls []) := by
  have hts := C.2.2.2.2.2.1
  have hRf := C.2.2.2.2.2.2.2.2.1
  have hRl := C.2.2.2.2.2.2.2.2.2.1
  have hE := C.2.2.2.2.2.2.2.2.2.2
  have hK := hE.2.1
  have hown : s.vm.findClass RL = some m.cls := C.2.2.2.2.1
  refine lv_aload_n C.1 C.2.1 dL_share_0 rfl (hL.2.2 3 (.ref 74) rfl (fun q => by cases q)) ?_
  refine lv_iconst (v := 0) C.1 C.2.1 dL_share_1 (by decide) ?_
  refine lv_aload_n C.1 C.2.1 dL_share_2 rfl (hL.2.2 0 (.ref 0) rfl (fun q => by cases q)) ?_
  refine lv_iload_n C.1 C.2.1 dL_share_3 rfl (hL.2.2 1 (.int p0) rfl (fun q => by cases q)) ?_
  refine lv_iload_n C.1 C.2.1 dL_share_4 rfl (hL.2.2 2 (.int 0) rfl (fun q => by cases q)) ?_
  intro T hT Xs
  have hx0 := hP.2 0 _ (HS_get (s := .inr (10, _)) rfl)
  have hq0 : vwCl[10]? = some ("ChainChoice", TX10, 14) := rfl
  simp only [pat, scell, hq0] at hx0
  obtain ⟨cell, g1, g2, g3, -⟩ := hx0
  have hcb : CallB R s args RL 7 mX10_shX.1 (mcode mX10_shX) (mxl mX10_shX) (mret mX10_shX) (pws mX10_shX) { frames := 6, cells := 1, slots := 6, locals := 82 } 1 6 2 := pcallb (M' := mX10_shX) (mc := 1) (ms := 6) hts lL_7.1 lL_7.2.1 ⟨hRf, hRl⟩
  have hrun := vx_runV (p := p) (l := lc.1) (e := e) (below := below) (meth := meth) (locs := locs) (cells := cells) (slots := slots) (cc := cL_share) (nL := 5) (As := [Value.int p0, .int 0]) (C := "ChainChoice") (b := base + 0) (rest := [.int 0, .ref (base + 74)]) (H := H) (g := F0 m 5 ls [.int 0, .int p0, .ref (base + 0), .int 0, .ref (base + 74)])
    ⟨C.1, C.2.1, C.2.2.2.1, hown, hts⟩ (x_share (Γ := Γ) (h := HS F A rf lo X) (p0 := p0) lc D Y σ base) ⟨hcb, hts _ lL_7.2.2.1, hts _ lL_7.2.2.2⟩
    ⟨pblind, ⟨cell, g1, by rw [g3]; rfl, by rw [g2]; exact (hK.1 10 _ hq0).2.1⟩, fun U hU hW => ⟨rfl, by rw [hU]; exact hP, penv_moved hW (locs := locs) (by rw [hU]; exact hS) hE⟩⟩ rfl rfl hL.1 rfl (Nat.le_of_ble_eq_true rfl) dL_share_5 ⟨hc, hs⟩ T hT Xs
  rcases hrun with ⟨v, st₀, t, T', L, h0, X', hLo, e1, e2, hF, stp⟩ | ⟨q, st₀, t, T', L, E, ce, h0, X', hLo, e1, e2, hx, hce, hcv, hcl, st⟩
  · exact hF.elim
  · obtain ⟨rfl, hz, hk⟩ := hx
    rw [h0, ← e1] at hz hk
    obtain ⟨vm', X2, stc⟩ := uc_catch X' (own := RL) (name := aeN) (E := aeN) (g := F0 m 5 ls [.int 0, .ref (base + 74)]) rfl hown (x := ⟨0, 9, 12, 13⟩) (by rw [htab]; rfl) (show covers ⟨0, 9, 12, 13⟩ 5 = true by decide) (by decide) (hts _ (lw_mem sh_l1.2.2.1 sh_l2.2.2.1)) (hE.2.2.1 _ (sh_nest sh_l1.2.2.2.1 rfl)) (by rw [e1]; exact hce) hcv hcl
    have hS' : va_S (pA base) s.heap T'.heap (locs ++ L) := ⟨Nat.le_trans hS.1 hz, fun q g1 g2 => by rw [hk q (Nat.lt_of_lt_of_le g1 hS.1)]; exact hS.2.1 q g1 g2, fun z hz => (List.mem_append.mp hz).elim (fun h => hS.2.2 z h) (fun h => hLo z h)⟩
    have hP' := pwd_junk hP hz hk
    rw [HS_junk] at hP'
    have K : W p lc.1 e R s m args below meth c T'.heap (locs ++ L) (cells + 1) (slots + 6) Z (F0 m 12 ls [.ref q]) := by
      refine lv_astore C.1 C.2.1 dL_share_12 (plv_has hL) (show 4 < 5 by decide) rfl (fun ls' h' => ?_)
      refine lv_iconst (v := 1) C.1 C.2.1 dL_share_14 (by decide) ?_
      exact fin _ _ _ _ hP' hS'
    obtain ⟨t2, a1, b1⟩ := K (T'.setVm vm') rfl X2
    exact ⟨t2, st.trans (stc _ a1), b1⟩
theorem s_share0 {p0 : Int32} (hQ : ∀ X', Q (some (.int 1)) (HS F A rf lo X')) : PMS Γ [.ref 0, .int p0, .int 0, .ref 74] (HS F A rf lo X) Q := by
  intro lc D Y σ base
  refine va_MetW (cc := cL_share) (maxL := 5) (ret := some .int) (hh := [(0, 9, 12, 13)]) (ws' := lw_good) (by decide) rfl ?_
  intro p e s m args below meth c s₁ B hml hv
  obtain ⟨rfl, hP, hE⟩ := hv
  have hts := atoms_spec (ws := pwsW) B.pre
  have htab : c.exceptionTable.toList = tableOf [(0, 9, 12, 13)] := vx_table (x := yL_share) B (hts _ List.mem_cons_self)
  have hnm : meth.name = yL_share.name := (name_of_methodNamed B.named B.method).1
  have hlk := B.notSynchronized
  rw [lg_entry_eq]
  refine s0_walk (Γ := Γ) (F := F) (A := A) (rf := rf) (lo := lo) (X := X) (p0 := p0) (lc := lc) (base := base) (σ := σ) (D := D) (Y := Y) ⟨B.exec, B.bytes, B.returns, hml, findClass_of_methodNamed B.named, fun w hw => hts w (List.mem_cons_of_mem _ hw), hlk, hnm, Nat.le_refl _, Nat.le_refl _, hE⟩ htab hP va_S.rf (plv_entry [Value.ref 0, .int p0, .int 0, .ref 74] (fun v hv => by simp at hv; rcases hv with rfl | rfl | rfl | rfl <;> rfl) (Nat.le_of_ble_eq_true rfl)) (by show 0 + 1 ≤ 1; omega) (by show 0 + 6 ≤ 6; omega) ?_
  intro X' H' locs' ls' hP' hS'
  exact W.iret B.exec B.bytes B.returns (fun t ht hW => ⟨⟨some (.int 1), _, hQ _, rfl, by rw [ht]; exact hP'⟩, hS'.F ht⟩) hS'.2.2 dL_share_15 hlk
theorem PMS_of {as : List Value} {h : PH} (hc : ∀ v ∈ as, v.category = 1) (hn : as.length ≤ 5) (hw : PW Γ mL_shX 0 (as ++ List.replicate (5 - as.length) (.float 0)) [] h 1 6 (fun r h' => ∃ x, r = some (.int x) ∧ Q r h')) : PMS Γ as h Q := by
  intro lc D Y σ base
  refine va_MetW (cc := cL_share) (maxL := 5) (ret := some .int) (hh := [(0, 9, 12, 13)]) (ws' := lw_good) (by decide) rfl ?_
  intro p e s m args below meth c s₁ B hml hv
  obtain ⟨rfl, hP, hE⟩ := hv
  have hts := atoms_spec (ws := pwsW) B.pre
  have hnm : meth.name = yL_share.name := (name_of_methodNamed B.named B.method).1
  have hlk := B.notSynchronized
  rw [lg_entry_eq]
  refine hw p lc e _ s m _ below meth c D Y σ base s.heap [] 0 0 _ _ ⟨B.exec, B.bytes, B.returns, hml, findClass_of_methodNamed B.named, fun w hw => hts w (List.mem_cons_of_mem _ hw), hlk, hnm, Nat.le_refl _, Nat.le_refl _, hE⟩ hP va_S.rf (plv_entry as hc hn) (by show 0 + 1 ≤ 1; omega) (by show 0 + 6 ≤ 6; omega) ?_
  intro r h' H' locs' cells' slots' ls' pc' hQ hP' hS' hc' hs' hret
  obtain ⟨x, rfl, hQ⟩ := hQ
  refine W.widen (k := 1) (n := 6) (by omega) (by omega) ?_
  exact W.iret B.exec B.bytes B.returns (fun t ht hW => ⟨⟨some (.int x), h', hQ, rfl, by rw [ht]; exact hP'⟩, hS'.F ht⟩) hS'.2.2 hret.1 hlk
theorem s_share1 {p0 a : Int32} (ha : ¬ a = 0) (hQ : Q (some (.int 0)) (HS F A rf (shv p0 a) X)) : PMS Γ [.ref 0, .int p0, .int a, .ref 74] (HS F A rf lo X) Q := by
  refine PMS_of (fun v hv => by simp at hv; rcases hv with rfl | rfl | rfl | rfl <;> rfl) (Nat.le_of_ble_eq_true rfl) ?_
  show PW Γ mL_shX 0 [.ref 0, .int p0, .int a, .ref 74, .float 0] [] (HS F A rf lo X) 1 6 _
  refine pw_aload_n rfl dL_share_0 ?_
  refine pw_iconst 0 (by decide) dL_share_1 ?_
  refine pw_aload_n rfl dL_share_2 ?_
  refine pw_iload_n rfl dL_share_3 ?_
  refine pw_iload_n rfl dL_share_4 ?_
  refine pw_callV (M' := mX10_share) (As := [.int p0, .int a]) (mc := 0) (ms := 0) (Q' := fun r h' => r = some (.long (shv p0 a)) ∧ h' = HS F A rf lo X) dL_share_5 lL_7 rfl rfl (HS_get (s := .inr (10, _)) rfl) (by decide) (by decide) (by decide) (c_share ha ⟨rfl, rfl⟩) ?_
  intro r h' hr
  obtain ⟨hr1, hr2⟩ := hr
  rw [hr1, hr2]
  refine pw_last (i := 74) (n := 1) (f := fun _ => lo) (x := 0) (y := shv p0 a) dL_share_8 HS_ln (vp_in_nI (n := 0) (by decide) (by decide)) ?_
  refine pw_ln (lo' := shv p0 a) (by rfl) ?_
  refine pw_goto 16 dL_share_9 (by decide) ?_
  refine pw_iconst 0 (by decide) dL_share_16 ?_
  refine pw_iret dL_share_17 (Or.inl rfl) ?_
  exact ⟨0, rfl, hQ⟩
/-- the law's call of its share -/
theorem pw_callSH {M : MD} {pc : Nat} {l st : List Value} {h : PH} {bc bs : Nat} {As : List Value} {Q' : Option Value → PH → Prop} (hdg : decode (mcode M) pc = .ok (.invokestatic 83, 3)) (hM : M.1.cls = RL) (hn : As.length = 4) (hR : 8 ≤ mfr M ∧ 128 ≤ mlo M) (hst : (st.map fun v => v.category).sum ≤ 8) (hb : 1 ≤ bc ∧ 6 ≤ bs)
    (hp : PMS Γ As h Q') (kk : ∀ (r : Option Value) (h' : PH), Q' r h' → PW Γ M (pc + 3) l (r.toList ++ st) h' (bc - 1) (bs - 6) Q) : PW Γ M pc l (As.reverse ++ st) h bc bs Q := by
  refine pw_run hb.1 hb.2 ?_ kk
  intro p lc e R s m args below meth c D Y σ base H locs cells slots ls C hP hS hL hc hs
  have hts := C.2.2.2.2.2.1
  have hRf := C.2.2.2.2.2.2.2.2.1
  have hRl := C.2.2.2.2.2.2.2.2.2.1
  have hG : GoodIn lw_good (va_wsS RL 83 yL_share pwsW) := by
    intro w hw
    have hg : w ∈ lw_good := by
      unfold va_wsS at hw
      simp only [List.mem_append, List.mem_cons, List.not_mem_nil, or_false, pwsW] at hw
      rcases hw with hw | hw
      · rcases hw with rfl | rfl | rfl
        · first | exact lw_mem sh_l1.2.2.2.2.1 sh_l2.2.2.2.1 | exact lw_mem sh_l1.2.2.2.2.2.1 sh_l2.2.2.2.2.1 | exact lw_mem sh_l1.2.2.2.2.2.2.1 sh_l2.2.2.2.2.2.1
        · first | exact lw_mem sh_l1.2.2.2.2.1 sh_l2.2.2.2.1 | exact lw_mem sh_l1.2.2.2.2.2.1 sh_l2.2.2.2.2.1 | exact lw_mem sh_l1.2.2.2.2.2.2.1 sh_l2.2.2.2.2.2.1
        · first | exact lw_mem sh_l1.2.2.2.2.1 sh_l2.2.2.2.1 | exact lw_mem sh_l1.2.2.2.2.2.1 sh_l2.2.2.2.2.1 | exact lw_mem sh_l1.2.2.2.2.2.2.1 sh_l2.2.2.2.2.2.1
      · rcases hw with rfl | hw
        · exact lw_mem sh_l1.2.2.2.2.2.2.2 sh_l2.2.2.2.2.2.2
        · exact hw
    exact ⟨hg, good_of_word (lw_good_good _ hg)⟩
  have hown := C.2.2.2.2.1
  rw [hM] at hown
  refine vx_runSW (As := As.map (pv σ base)) (own := RL) (hh := [(0, 9, 12, 13)]) ⟨C.1, C.2.1, C.2.2.2.1, hown, hts⟩ (hp lc D Y σ base) (vx_cwSW 4 hts hG rfl rfl rfl ⟨by decide, by decide, by decide⟩ ⟨by show 7 + 1 ≤ _; omega, by show 8 + (5 + 11) + 104 ≤ _; omega⟩) ⟨pblind, fun U hU hW => ⟨rfl, by rw [hU]; exact hP, penv_moved hW (by rw [hU]; exact hS) C.2.2.2.2.2.2.2.2.2.2⟩⟩ rfl (by simpa using hn) hL.1 (by simp) ?_ hdg ⟨by omega, by omega⟩
  have h9 := pst_cat σ base st
  show 2 * 0 + ((st.map (pv σ base)).map fun v => v.category).sum ≤ 8
  omega
end
