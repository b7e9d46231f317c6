/-! making cells, and calls -/
section
variable {Γ : Nat × (Nat → Int32)} {M : MD} {pc : Nat} {l st : List Value} {h : PH} {bc bs : Nat} {Q : Option Value → PH → Prop}
theorem pw_newi {N : Nat} {x : Int32} (hdg : decode (mcode M) pc = .ok (.newarray .int, 2)) (hw : Cond.arrayClass .int ∈ lw_good) (hn : ¬ x < 0) (hN : x.toNatClampNeg = N) (hb : N * 4 ≤ 536870912) (kk : PW Γ M (pc + 2) l (.ref h.length :: st) (h ++ [.inl (.int, N, .inl (fun _ => 0))]) bc bs Q) : PW Γ M pc l (.int x :: st) h (bc + 1) (bs + N) Q := by
  intro p lc e R s m args below meth c D Y σ base H locs cells slots ls Z C hP hS hL hc hs fin
  refine va_newaK C.1 C.2.1 (atype := .int) (C.2.2.2.2.2.1 _ hw) rfl hdg rfl hn hN hb (by omega) (by omega) hP.1 fun H1 cA e1 z1 o1 hAr hNm => ?_
  have hcA : cA = Y .int := Option.some.inj (hNm.symm.trans (C.2.2.2.2.2.2.2.2.2.2.2.1.2 0 _ rfl).2)
  subst hcA
  refine kk p lc e R s m args below meth c D Y σ base H1 locs (cells + 1) (slots + N) ls Z C (pwd_push hP (by rw [z1, hP.1]) (fun q hq => o1 q (by rw [← hP.1]; exact hq)) e1) ⟨Nat.le_trans hS.1 (by rw [z1, hP.1]; omega), fun q g1 g2 => (o1 q (by rw [← hP.1]; exact Nat.lt_of_lt_of_le g1 hS.1)).trans (hS.2.1 q g1 g2), hS.2.2⟩ hL (by omega) (by omega) ?_
  intro r h' H' locs' cells' slots' ls' pc' a1 a2 a3 a4 a5 a6
  exact fin r h' H' locs' cells' slots' ls' pc' a1 a2 a3 (by omega) (by omega) a6
theorem pw_newl {N : Nat} {x : Int32} (hdg : decode (mcode M) pc = .ok (.newarray .long, 2)) (hw : Cond.arrayClass .long ∈ lw_good) (hn : ¬ x < 0) (hN : x.toNatClampNeg = N) (hb : N * 8 ≤ 536870912) (kk : PW Γ M (pc + 2) l (.ref h.length :: st) (h ++ [.inl (.long, N, .inr (.inl (fun _ => 0)))]) bc bs Q) : PW Γ M pc l (.int x :: st) h (bc + 1) (bs + N) Q := by
  intro p lc e R s m args below meth c D Y σ base H locs cells slots ls Z C hP hS hL hc hs fin
  refine va_newaK C.1 C.2.1 (atype := .long) (C.2.2.2.2.2.1 _ hw) rfl hdg rfl hn hN hb (by omega) (by omega) hP.1 fun H1 cA e1 z1 o1 hAr hNm => ?_
  have hcA : cA = Y .long := Option.some.inj (hNm.symm.trans (C.2.2.2.2.2.2.2.2.2.2.2.1.2 1 _ rfl).2)
  subst hcA
  refine kk p lc e R s m args below meth c D Y σ base H1 locs (cells + 1) (slots + N) ls Z C (pwd_push hP (by rw [z1, hP.1]) (fun q hq => o1 q (by rw [← hP.1]; exact hq)) e1) ⟨Nat.le_trans hS.1 (by rw [z1, hP.1]; omega), fun q g1 g2 => (o1 q (by rw [← hP.1]; exact Nat.lt_of_lt_of_le g1 hS.1)).trans (hS.2.1 q g1 g2), hS.2.2⟩ hL (by omega) (by omega) ?_
  intro r h' H' locs' cells' slots' ls' pc' a1 a2 a3 a4 a5 a6
  exact fin r h' H' locs' cells' slots' ls' pc' a1 a2 a3 (by omega) (by omega) a6
/-- own's pool entry idx is class ci, of N slots, which begins with the values fs -/
def pcl (own : String) (idx ci N : Nat) (fs : List Value) : Prop :=
  ∃ (C : String) (T : u_T) (ty : Nat → FieldType), vwCl[ci]? = some (C, T, N) ∧ (∀ w ∈ u_ws C T N, w ∈ lw_good) ∧ Cond.classLink own idx C ∈ lw_good ∧ Cond.instantiable C N ∈ lw_good ∧ Cond.initialized C ∈ lw_good ∧ (∀ k, k < N → parseFieldDescriptor (T k).2.2.1 = some (ty k)) ∧ ∀ σ base j, j < N → defaultValue (ty j) = vp_V (fs.map (pv σ base)) j
theorem pw_new {idx ci N : Nat} {fs : List Value} (hdg : decode (mcode M) pc = .ok (.new idx, 3)) (hf : pcl M.1.cls idx ci N fs) (kk : PW Γ M (pc + 3) l (.ref h.length :: st) (h ++ [.inr (ci, fs)]) bc bs Q) : PW Γ M pc l st h (bc + 1) (bs + N) Q := by
  intro p lc e R s m args below meth c D Y σ base H locs cells slots ls Z C hP hS hL hc hs fin
  obtain ⟨Cn, T, ty, h1, h2, h3, h4, h5, h6, h7⟩ := hf
  have hts := C.2.2.2.2.2.1
  have hKn := C.2.2.2.2.2.2.2.2.2.2.2.1.1 ci _ h1
  refine W.newcK C.1 C.2.1 C.2.2.2.2.1 (hts _ h3) (hts _ h4) (hts _ h5) rfl hdg (by omega) (by omega) hKn.2.1 hP.1 fun H1 kC hkC e1 z1 o1 => ?_
  refine kk p lc e R s m args below meth c D Y σ base H1 locs (cells + 1) (slots + N) ls Z C (pwd_push hP (by rw [z1, hP.1]) (fun q hq => o1 q (by rw [← hP.1]; exact hq)) ?_) ⟨Nat.le_trans hS.1 (by rw [z1, hP.1]; omega), fun q g1 g2 => (o1 q (by rw [← hP.1]; exact Nat.lt_of_lt_of_le g1 hS.1)).trans (hS.2.1 q g1 g2), hS.2.2⟩ hL (by omega) (by omega) ?_
  · simp only [pat, h1]
    exact (u_born ty hts h2 hKn hkC e1 h6).to (h7 σ base)
  · intro r h' H' locs' cells' slots' ls' pc' a1 a2 a3 a4 a5 a6
    exact fin r h' H' locs' cells' slots' ls' pc' a1 a2 a3 (by omega) (by omega) a6
theorem pw_objI {idx i : Nat} (hdg : decode (mcode M) pc = .ok (.invokespecial idx, 3)) (hl : Cond.methodLink M.1.cls idx Lib.objectInit ∈ lw_good) (hi : Cond.instanceMethod Lib.objectInit ∈ lw_good) (hc0 : Cond.code Lib.objectInit ⟨#[0xb1]⟩ 1 none ∈ lw_good) (hf : 1 ≤ mfr M) (ho : (st.map fun v => v.category).sum + 12 ≤ mlo M) (kk : PW Γ M (pc + 3) l st h bc bs Q) : PW Γ M pc l (.ref i :: st) h bc bs Q := by
  intro p lc e R s m args below meth c D Y σ base H locs cells slots ls Z C hP hS hL hc hs fin
  have hts := C.2.2.2.2.2.1
  refine W.objInit C.1 C.2.1 C.2.2.2.2.1 (hts _ hl) (hts _ hi) (hts _ hc0) rfl (hL.1.trans C.2.2.2.1.symm) rfl hdg (Nat.le_trans hf C.2.2.2.2.2.2.2.2.1) ?_ (kk p lc e R s m args below meth c D Y σ base H locs cells slots ls Z C hP hS hL hc hs fin)
  have h9 : ((st.map (pv σ base)).map fun v => v.category).sum = (st.map fun v => v.category).sum := by
    rw [List.map_map]
    congr 1
    exact List.map_congr_left fun v _ => pv_cat σ base v
  have h8 := C.2.2.2.2.2.2.2.2.2.1
  show 2 * 0 + ((st.map (pv σ base)).map fun v => v.category).sum + 12 ≤ R.locals
  omega
theorem pst_cat (σ : Nat → Nat) (base : Nat) (st : List Value) : ((st.map (pv σ base)).map fun v => v.category).sum = (st.map fun v => v.category).sum := by
  rw [List.map_map]
  congr 1
  exact List.map_congr_left fun v _ => pv_cat σ base v
theorem pblind {D : va_G} {Y : FieldType → ClassId} {σ : Nat → Nat} {base : Nat} {as : List Value} : FrameBlind (va_Pc (as.map (pv σ base)) (fun U => pwd D Y σ base h U.heap ∧ penv Γ U D Y σ base)) := by
  intro a U g mk q
  obtain ⟨q0, q1, q2⟩ := q
  exact ⟨q0, q1, penv_vm (s := U) (U := U.calling g mk a) rfl rfl q2⟩
/-- behind a call -/
theorem pw_run {mc ms : Nat} {Q' : Option Value → PH → Prop} {stk : List Value} (hb : mc ≤ bc) (hb2 : ms ≤ bs)
    (run : ∀ (p : Program) (lc : LC) (e : Env) (R : Room) (s : State) (m : MethodId) (args : Array Value) (below : List Frame) (meth : Method) (c : Code) (D : va_G) (Y : FieldType → ClassId) (σ : Nat → Nat) (base : Nat) (H : Heap) (locs : List Loc) (cells slots : Nat) (ls : Array Slot), pcx Γ M p R s m args meth c D Y σ base → pwd D Y σ base h H → va_S (pA base) s.heap H locs → plv σ base ls (mxl M) l → cells + bc ≤ R.cells → slots + bs ≤ R.slots →
      va_Run p lc.1 e R s m args below meth c H locs cells slots mc ms (F0 m pc ls (stk.map (pv σ base))) (st.map (pv σ base)) (fun st oc t => (∃ (r : Option Value) (h' : PH), Q' r h' ∧ oc = .returned (r.map (pv σ base)) ∧ pwd D Y σ base h' t.heap) ∧ va_F (pA base) st t) (pA base))
    (kk : ∀ (r : Option Value) (h' : PH), Q' r h' → PW Γ M (pc + 3) l (r.toList ++ st) h' (bc - mc) (bs - ms) Q) : PW Γ M pc l stk h bc bs Q := by
  intro p lc e R s m args below meth c D Y σ base H locs cells slots ls Z C hP hS hL hc hs fin
  intro T hT X
  obtain ⟨v, st₀, t, T', L, h0, X', hLo, e1, e2, ⟨⟨r, h', hQ, hv, hP'⟩, hz, hk⟩, stp⟩ := run p lc e R s m args below meth c D Y σ base H locs cells slots ls C hP hS hL hc hs T hT X
  cases hv
  rw [h0] at hz hk
  have hS' : va_S (pA base) s.heap T'.heap (locs ++ L) := ⟨Nat.le_trans hS.1 (by rw [e1]; exact hz), fun q g1 g2 => by rw [e1, hk q (Nat.lt_of_lt_of_le g1 hS.1) g2]; exact hS.2.1 q g1 g2, fun q hq => by
    rcases List.mem_append.mp hq with g | g
    · exact hS.2.2 q g
    · exact hLo q g⟩
  have key := kk r h' hQ p lc e R s m args below meth c D Y σ base T'.heap (locs ++ L) (cells + mc) (slots + ms) ls Z C (by rw [e1]; exact hP') hS' hL (by omega) (by omega) (fun r h' H' locs' cells' slots' ls' pc' a1 a2 a3 a4 a5 a6 => fin r h' H' locs' cells' slots' ls' pc' a1 a2 a3 (by omega) (by omega) a6)
  obtain ⟨t2, a1, b1⟩ := key T' rfl X'
  refine ⟨t2, stp t2 ?_, b1⟩
  have h9 : (r.toList ++ st).map (pv σ base) = (r.map (pv σ base)).toList ++ st.map (pv σ base) := by cases r <;> rfl
  rw [h9] at a1
  exact a1
def pmB (own : String) (M' : MD) (n : Nat) : Prop := Cond.initialized M'.1.cls ∈ lw_good ∧ Cond.code M'.1 (mcode M') (mxl M') (mret M') ∈ lw_good ∧ (M'.1.cls ≠ "java/lang/invoke/MethodHandle" ∧ M'.1.cls ≠ "java/lang/invoke/VarHandle" ∧ (parseMethodDescriptor M'.1.desc).map (fun d => d.parameters.length) = some n)
def pmV (own : String) (idx : Nat) (M' : MD) (n : Nat) : Prop := pmB own M' n ∧ Cond.methodLink own idx M'.1 ∈ lw_good ∧ Cond.instanceMethod M'.1 ∈ lw_good ∧ Cond.selects M'.1.cls M'.1 M'.1 ∈ lw_good
def pmS (own : String) (idx : Nat) (M' : MD) (n : Nat) : Prop := pmB own M' n ∧ Cond.methodLink own idx M'.1 ∈ lw_good ∧ Cond.static M'.1 ∈ lw_good
def pmI (own : String) (idx : Nat) (M' : MD) (n : Nat) : Prop := pmB own M' n ∧ Cond.methodLink own idx M'.1 ∈ lw_good ∧ Cond.instanceMethod M'.1 ∈ lw_good ∧ M'.1.name = "<init>" ∧ mret M' = none
def pmN (own : String) (idx : Nat) (M' : MD) (n : Nat) : Prop := pmB own M' n ∧ Cond.methodLinkNest own idx M'.1 "ChainChoice" ∈ pnest ∧ Cond.instanceMethod M'.1 ∈ lw_good ∧ M'.1.name = "<init>" ∧ mret M' = none
theorem pcallb {own : String} {M' : MD} {n idx mc ms : Nat} {R : Room} {s : State} {args : Array Value} (hts : ∀ w ∈ lw_good, w.before args s = true) (hm : pmB own M' n) (hl : Cond.methodLink own idx M'.1 ∈ lw_good) (hR : mfr M' + 1 ≤ R.frames ∧ 8 + (mxl M' + 11) + mlo M' ≤ R.locals) : CallB R s args own idx M'.1 (mcode M') (mxl M') (mret M') (pws M') { frames := mfr M', cells := mc, slots := ms, locals := mlo M' } mc ms n :=
  callB_of n hts (pws_good hm.2.1) rfl rfl rfl (hts _ hm.1) (hts _ hl) hm.2.2 hR
theorem pw_callV {M' : MD} {n idx b ci mc ms : Nat} {As fs : List Value} {Q' : Option Value → PH → Prop} (hdg : decode (mcode M) pc = .ok (.invokevirtual idx, 3)) (hm : pmV M.1.cls idx M' n) (hn : As.length = n) (hci : (vwCl[ci]?).map (fun q => q.1) = some M'.1.cls) (he : h[b]? = some (.inr (ci, fs))) (hR : mfr M' + 1 ≤ mfr M ∧ 8 + (mxl M' + 11) + mlo M' ≤ mlo M) (hst : (st.map fun v => v.category).sum ≤ 8) (hb : mc ≤ bc ∧ ms ≤ bs)
    (hp : PM Γ M' (.ref b :: As) h mc ms Q') (kk : ∀ (r : Option Value) (h' : PH), Q' r h' → PW Γ M (pc + 3) l (r.toList ++ st) h' (bc - mc) (bs - ms) Q) : PW Γ M pc l (As.reverse ++ .ref b :: st) h bc bs Q := by
  refine pw_run hb.1 hb.2 ?_ kk
  intro p lc e R s m args below meth c D Y σ base H locs cells slots ls C hP hS hL hc hs
  have hts := C.2.2.2.2.2.1
  have hRf := C.2.2.2.2.2.2.2.2.1
  have hRl := C.2.2.2.2.2.2.2.2.2.1
  have hK := C.2.2.2.2.2.2.2.2.2.2.2.1
  have hx := hP.2 b _ he
  cases hq : vwCl[ci]? with
  | none => rw [hq] at hci; cases hci
  | some q =>
    rw [hq] at hci
    have hc0 : q.1 = M'.1.cls := Option.some.inj hci
    simp only [pat, hq] at hx
    obtain ⟨cell, g1, g2, g3, -⟩ := hx
    refine va_runV (As := As.map (pv σ base)) (C := M'.1.cls) (b := base + b) ⟨C.1, C.2.1, C.2.2.2.1, C.2.2.2.2.1, hts⟩ (hp lc D Y σ base) ⟨pcallb hts hm.1 hm.2.1 ⟨by omega, by omega⟩, hts _ hm.2.2.1, hts _ hm.2.2.2⟩ ⟨pblind, ⟨cell, g1, by rw [g3]; rfl, by rw [← hc0, g2]; exact (hK.1 ci q hq).2.1⟩, fun U hU hW => ⟨by simp [pv], by rw [hU]; exact hP, penv_moved hW (by rw [hU]; exact hS) C.2.2.2.2.2.2.2.2.2.2⟩⟩ rfl (by simpa using hn) hL.1 (by simp [pv]) ?_ hdg ⟨by omega, by omega⟩
    have h9 := pst_cat σ base st
    show 2 * 0 + ((st.map (pv σ base)).map fun v => v.category).sum ≤ 8
    omega
theorem pw_callS {M' : MD} {n idx mc ms : Nat} {As : List Value} {Q' : Option Value → PH → Prop} (hdg : decode (mcode M) pc = .ok (.invokestatic idx, 3)) (hm : pmS M.1.cls idx M' n) (hn : As.length = n) (hR : mfr M' + 1 ≤ mfr M ∧ 8 + (mxl M' + 11) + mlo M' ≤ mlo M) (hst : (st.map fun v => v.category).sum ≤ 8) (hb : mc ≤ bc ∧ ms ≤ bs)
    (hp : PM Γ M' As h mc ms Q') (kk : ∀ (r : Option Value) (h' : PH), Q' r h' → PW Γ M (pc + 3) l (r.toList ++ st) h' (bc - mc) (bs - ms) Q) : PW Γ M pc l (As.reverse ++ st) h bc bs Q := by
  refine pw_run hb.1 hb.2 ?_ kk
  intro p lc e R s m args below meth c D Y σ base H locs cells slots ls C hP hS hL hc hs
  have hts := C.2.2.2.2.2.1
  have hRf := C.2.2.2.2.2.2.2.2.1
  have hRl := C.2.2.2.2.2.2.2.2.2.1
  refine va_runS (As := As.map (pv σ base)) ⟨C.1, C.2.1, C.2.2.2.1, C.2.2.2.2.1, hts⟩ (hp lc D Y σ base) ⟨pcallb hts hm.1 hm.2.1 ⟨by omega, by omega⟩, hts _ hm.2.2⟩ ⟨pblind, fun U hU hW => ⟨rfl, by rw [hU]; exact hP, penv_moved hW (by rw [hU]; exact hS) C.2.2.2.2.2.2.2.2.2.2⟩⟩ rfl (by simpa using hn) hL.1 (by simp) ?_ hdg ⟨by omega, by omega⟩
  have h9 := pst_cat σ base st
  show 2 * 0 + ((st.map (pv σ base)).map fun v => v.category).sum ≤ 8
  omega
theorem pw_callI {M' : MD} {n idx b mc ms : Nat} {As : List Value} {Q' : Option Value → PH → Prop} (hdg : decode (mcode M) pc = .ok (.invokespecial idx, 3)) (hm : pmI M.1.cls idx M' n) (hn : As.length = n) (hR : mfr M' + 1 ≤ mfr M ∧ 8 + (mxl M' + 11) + mlo M' ≤ mlo M) (hst : (st.map fun v => v.category).sum ≤ 8) (hb : mc ≤ bc ∧ ms ≤ bs)
    (hp : PM Γ M' (.ref b :: As) h mc ms Q') (kk : ∀ (r : Option Value) (h' : PH), Q' r h' → PW Γ M (pc + 3) l (r.toList ++ st) h' (bc - mc) (bs - ms) Q) : PW Γ M pc l (As.reverse ++ .ref b :: st) h bc bs Q := by
  refine pw_run hb.1 hb.2 ?_ kk
  intro p lc e R s m args below meth c D Y σ base H locs cells slots ls C hP hS hL hc hs
  have hts := C.2.2.2.2.2.1
  have hRf := C.2.2.2.2.2.2.2.2.1
  have hRl := C.2.2.2.2.2.2.2.2.2.1
  have hcb := pcallb (mc := mc) (ms := ms) hts hm.1 hm.2.1 (R := R) ⟨by omega, by omega⟩
  rw [hm.2.2.2.2] at hcb
  refine va_runI (As := As.map (pv σ base)) (b := base + b) ⟨C.1, C.2.1, C.2.2.2.1, C.2.2.2.2.1, hts⟩ (hp lc D Y σ base) ⟨hcb, hm.2.2.2.1, hts _ hm.2.2.1⟩ ⟨pblind, fun U hU hW => ⟨by simp [pv], by rw [hU]; exact hP, penv_moved hW (by rw [hU]; exact hS) C.2.2.2.2.2.2.2.2.2.2⟩⟩ rfl (by simpa using hn) hL.1 (by simp [pv]) ?_ hdg ⟨by omega, by omega⟩
  have h9 := pst_cat σ base st
  show 2 * 0 + ((st.map (pv σ base)).map fun v => v.category).sum ≤ 8
  omega
theorem pw_callN {M' : MD} {n idx b mc ms : Nat} {As : List Value} {Q' : Option Value → PH → Prop} (hdg : decode (mcode M) pc = .ok (.invokespecial idx, 3)) (hm : pmN M.1.cls idx M' n) (hn : As.length = n) (hR : mfr M' + 1 ≤ mfr M ∧ 8 + (mxl M' + 11) + mlo M' ≤ mlo M) (hst : (st.map fun v => v.category).sum ≤ 8) (hb : mc ≤ bc ∧ ms ≤ bs)
    (hp : PM Γ M' (.ref b :: As) h mc ms Q') (kk : ∀ (r : Option Value) (h' : PH), Q' r h' → PW Γ M (pc + 3) l (r.toList ++ st) h' (bc - mc) (bs - ms) Q) : PW Γ M pc l (As.reverse ++ .ref b :: st) h bc bs Q := by
  refine pw_run hb.1 hb.2 ?_ kk
  intro p lc e R s m args below meth c D Y σ base H locs cells slots ls C hP hS hL hc hs
  have hts := C.2.2.2.2.2.1
  have hRf := C.2.2.2.2.2.2.2.2.1
  have hRl := C.2.2.2.2.2.2.2.2.2.1
  have hcb : va_CN R s args M.1.cls idx M'.1 "ChainChoice" (mcode M') (mxl M') (mret M') (pws M') { frames := mfr M', cells := mc, slots := ms, locals := mlo M' } mc ms n :=
    va_cnB n hts (pws_good hm.1.2.1) rfl rfl rfl (C.2.2.2.2.2.2.2.2.2.2.2.2.1 _ hm.2.1) (hts _ hm.1.1) hm.1.2.2 ⟨by show mfr M' + 1 ≤ _; omega, by show _ + mlo M' ≤ _; omega⟩
  rw [hm.2.2.2.2] at hcb
  refine va_runIN (As := As.map (pv σ base)) (b := base + b) ⟨C.1, C.2.1, C.2.2.2.1, C.2.2.2.2.1, hts⟩ (hp lc D Y σ base) ⟨hcb, hm.2.2.2.1, hts _ hm.2.2.1⟩ ⟨pblind, fun U hU hW => ⟨by simp [pv], by rw [hU]; exact hP, penv_moved hW (by rw [hU]; exact hS) C.2.2.2.2.2.2.2.2.2.2⟩⟩ rfl (by simpa using hn) hL.1 (by simp [pv]) ?_ hdg ⟨by omega, by omega⟩
  have h9 := pst_cat σ base st
  show 2 * 0 + ((st.map (pv σ base)).map fun v => v.category).sum ≤ 8
  omega
end
