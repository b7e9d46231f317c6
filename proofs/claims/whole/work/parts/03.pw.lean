/-! A judgement over the system's own world: cell i of it lies at base + i; values are numbers, .ref i (cell i), .retAddr j (static row j). -/
abbrev PE : Type := (FieldType × vp_A) ⊕ (Nat × List Value)
abbrev PH : Type := List PE
/-- a method: name, code, maxLocals, what it returns, frames and locals that it needs below it -/
abbrev MD : Type := MethodName × ByteArray × Nat × Option FieldType × Nat × Nat
abbrev mcode (M : MD) : ByteArray := M.2.1
abbrev mxl (M : MD) : Nat := M.2.2.1
abbrev mret (M : MD) : Option FieldType := M.2.2.2.1
abbrev mfr (M : MD) : Nat := M.2.2.2.2.1
abbrev mlo (M : MD) : Nat := M.2.2.2.2.2
def pv (σ : Nat → Nat) (base : Nat) (v : Value) : Value := match v with
  | .ref i => .ref (base + i)
  | .retAddr j => .ref (σ j)
  | w => w
def lw_good : List Cond := lw_tbl.filter goodWord
def pws (M : MD) : List Cond := Cond.code M.1 (mcode M) (mxl M) (mret M) :: lw_good
def pat (D : va_G) (Y : FieldType → ClassId) (σ : Nat → Nat) (base i : Nat) (e : PE) (H : Heap) : Prop := match e with
  | .inl a => H[base + i]? = some (vp_cell (Y a.1) a.2)
  | .inr o => match vwCl[o.1]? with
    | some r => t_OB (base + i) (D.1 o.1) r.2.2 (D.2 o.1) H (vp_V (o.2.map (pv σ base)))
    | none => True
def pwd (D : va_G) (Y : FieldType → ClassId) (σ : Nat → Nat) (base : Nat) (h : PH) (H : Heap) : Prop := H.size = base + h.length ∧ ∀ (i : Nat) (e : PE), h[i]? = some e → pat D Y σ base i e H
/-- the static rows: the class's four tables, and the script -/
def ptab (Γ : Nat × (Nat → Int32)) (j : Nat) : Nat × (Nat → Int32) := match j with
  | 0 => (5, fun k => ([0, 1, 16, 1, 1] : List Int32).getD k 0)
  | 1 => (5, fun k => ([0, 0, 256, 0, 0] : List Int32).getD k 0)
  | 2 => (5, fun k => ([1, 2, 2, 4, 64] : List Int32).getD k 0)
  | 3 => (5, fun k => ([0, 0, 256, 1024, 512] : List Int32).getD k 0)
  | _ => Γ
def pnam (j : Nat) : String := match j with
  | 0 => "FILTER_STEPS"
  | 1 => "FILTER_MEMORY"
  | 2 => "PACKER_STEPS"
  | _ => "PACKER_MEMORY"
abbrev pA (base : Nat) : Nat → Prop := fun q => base ≤ q
def pnest : List Cond := lw_tbl.filter (fun w => match w with
  | .fieldLinkNest _ _ _ _ _ _ => true
  | .methodLinkNest _ _ _ _ => true
  | .castable _ _ => true
  | .declares _ => true
  | _ => false)
/-- launches without stack traces -/
abbrev LC : Type := {l : Launch // l.stackTraces = false}
/-- what a throw of the class needs: its text, and two statics of Throwable -/
def pexc (U : State) (base : Nat) : Prop := (∃ sa, vk_R "ChainChoice" 183 "a share of 0" sa U) ∧ vx_Zq Bundle.tN "UNASSIGNED_STACK" Bundle.steD (pA base) U U.heap ∧ vx_Zq Bundle.tN "SUPPRESSED_SENTINEL" Bundle.listD (pA base) U U.heap
def penv (Γ : Nat × (Nat → Int32)) (U : State) (D : va_G) (Y : FieldType → ClassId) (σ : Nat → Nat) (base : Nat) : Prop :=
  (base ≤ U.heap.size ∧ pexc U base) ∧ va_K D vwCl [(Y .int, .int), (Y .long, .long)] U ∧ (∀ w ∈ pnest, va_Nw w U) ∧ (∀ j, j < 4 → va_Z "ChainChoice" (pnam j) "[I" (.ref (σ j)) (pA base) U U.heap) ∧ ∀ j, j < 5 → va_T .int (σ j) (ptab Γ j).1 (fun k => .int ((ptab Γ j).2 k)) (pA base) U U.heap
def pcx (Γ : Nat × (Nat → Int32)) (M : MD) (p : Program) (R : Room) (s : State) (m : MethodId) (args : Array Value) (meth : Method) (c : Code) (D : va_G) (Y : FieldType → ClassId) (σ : Nat → Nat) (base : Nat) : Prop :=
  p.tables.exec = Jvm.exec ∧ c.code = mcode M ∧ meth.sig.returnType = mret M ∧ c.maxLocals = mxl M ∧ s.vm.findClass M.1.cls = some m.cls ∧ (∀ w ∈ lw_good, w.before args s = true) ∧ meth.locks = false ∧ meth.name = M.1.name ∧ mfr M ≤ R.frames ∧ mlo M ≤ R.locals ∧ penv Γ s D Y σ base
def plv (σ : Nat → Nat) (base : Nat) (ls : Array Slot) (nL : Nat) (l : List Value) : Prop := ls.size = nL ∧ lv_wf ls ∧ ∀ (i : Nat) (v : Value), l[i]? = some v → ¬ v = .float 0 → ls[i]? = some (.val (pv σ base v))
def pret (M : MD) (pc : Nat) (r : Option Value) : Prop := match r with
  | none => decode (mcode M) pc = .ok (.return_, 1) ∧ mret M = none
  | some (.int x) => decode (mcode M) pc = .ok (.ireturn, 1) ∧ (mret M = some .int ∨ (mret M = some .boolean ∧ narrow .boolean (.int x) = .int x))
  | some (.long _) => decode (mcode M) pc = .ok (.lreturn, 1) ∧ mret M = some .long
  | some (.ref _) => decode (mcode M) pc = .ok (.areturn, 1) ∧ ∃ C, mret M = some (.object C)
  | _ => False
def PW (Γ : Nat × (Nat → Int32)) (M : MD) (pc : Nat) (l st : List Value) (h : PH) (bc bs : Nat) (Q : Option Value → PH → Prop) : Prop :=
  ∀ (p : Program) (lc : LC) (e : Env) (R : Room) (s : State) (m : MethodId) (args : Array Value) (below : List Frame) (meth : Method) (c : Code) (D : va_G) (Y : FieldType → ClassId) (σ : Nat → Nat) (base : Nat) (H : Heap) (locs : List Loc) (cells slots : Nat) (ls : Array Slot) (Z : State → Prop),
    pcx Γ M p R s m args meth c D Y σ base → pwd D Y σ base h H → va_S (pA base) s.heap H locs → plv σ base ls (mxl M) l → cells + bc ≤ R.cells → slots + bs ≤ R.slots →
    (∀ (r : Option Value) (h' : PH) (H' : Heap) (locs' : List Loc) (cells' slots' : Nat) (ls' : Array Slot) (pc' : Nat), Q r h' → pwd D Y σ base h' H' → va_S (pA base) s.heap H' locs' → cells' ≤ cells + bc → slots' ≤ slots + bs → pret M pc' r → W p lc.1 e R s m args below meth c H' locs' cells' slots' Z (F0 m pc' ls' ((r.map (pv σ base)).toList))) →
    W p lc.1 e R s m args below meth c H locs cells slots Z (F0 m pc ls (st.map (pv σ base)))
def PM (Γ : Nat × (Nat → Int32)) (M : MD) (as : List Value) (h : PH) (bc bs : Nat) (Q : Option Value → PH → Prop) : Prop :=
  ∀ (lc : LC) (D : va_G) (Y : FieldType → ClassId) (σ : Nat → Nat) (base : Nat),
    Met lc.1 M.1 (pws M) { frames := mfr M, cells := bc, slots := bs, locals := mlo M } (va_Pc (as.map (pv σ base)) (fun U => pwd D Y σ base h U.heap ∧ penv Γ U D Y σ base))
      (fun _ st oc t => (∃ (r : Option Value) (h' : PH), Q r h' ∧ oc = .returned (r.map (pv σ base)) ∧ pwd D Y σ base h' t.heap) ∧ va_F (pA base) st t) bc bs (pA base)
theorem pv_cat (σ : Nat → Nat) (base : Nat) (v : Value) : (pv σ base v).category = v.category := by cases v <;> rfl
theorem pv_int (σ : Nat → Nat) (base : Nat) (x : Int32) : pv σ base (.int x) = .int x := rfl
theorem pv_long (σ : Nat → Nat) (base : Nat) (x : Int64) : pv σ base (.long x) = .long x := rfl
theorem pv_ref (σ : Nat → Nat) (base i : Nat) : pv σ base (.ref i) = .ref (base + i) := rfl
theorem lw_good_in : ∀ w ∈ lw_good, w ∈ lw_tbl := fun w h => (List.mem_filter.mp h).1
theorem lw_good_good : ∀ w ∈ lw_good, goodWord w = true := fun w h => (List.mem_filter.mp h).2
theorem lw_mem {w : Cond} (h : w ∈ lw_tbl) (g : goodWord w = true) : w ∈ lw_good := List.mem_filter.mpr ⟨h, g⟩
theorem pws_good {M : MD} (hc : Cond.code M.1 (mcode M) (mxl M) (mret M) ∈ lw_good) : GoodIn lw_good (pws M) := by
  intro w hw
  rcases List.mem_cons.mp hw with rfl | h
  · exact ⟨hc, good_of_word (lw_good_good _ hc)⟩
  · exact ⟨h, good_of_word (lw_good_good _ h)⟩
theorem penv_moved {Γ : Nat × (Nat → Int32)} {s U : State} {D : va_G} {Y : FieldType → ClassId} {σ : Nat → Nat} {base : Nat} {locs : List Loc} (hW : s.WarmedH U.vm) (hS : va_S (pA base) s.heap U.heap locs) (h : penv Γ s D Y σ base) : penv Γ U D Y σ base := by
  obtain ⟨h0, h1, h2, h3, h4⟩ := h
  obtain ⟨h0, ⟨sa, x1⟩, x2, x3⟩ := h0
  refine ⟨⟨Nat.le_trans h0 hS.1, ⟨sa, vk_R.warm hW x1⟩, (vx_Zq.moved hW.alike x2).kept hS.2.1, (vx_Zq.moved hW.alike x3).kept hS.2.1⟩, va_K.moved hW.alike h1, fun w hw => ?_, fun j hj => ((h3 j hj).moved hW.alike).kept hS.2.1, fun j hj => ((h4 j hj).moved hW.alike).kept hS.2.1⟩
  have h9 := (List.mem_filter.mp hw).2
  have h8 := h2 w hw
  cases w <;> first | exact absurd h9 Bool.false_ne_true | exact va_Nw.warmF hW h8 | exact va_Nw.warmM hW h8 | exact va_Nw.warmC hW h8 | exact va_Nw.warmD hW h8
theorem penv_vm {Γ : Nat × (Nat → Int32)} {s U : State} {D : va_G} {Y : FieldType → ClassId} {σ : Nat → Nat} {base : Nat} (hv : s.vm = U.vm) (hH : s.heap = U.heap) (h : penv Γ s D Y σ base) : penv Γ U D Y σ base := by
  obtain ⟨h0, h1, h2, h3, h4⟩ := h
  have ha : s.vm.Alike U.vm := by rw [hv]; exact Vm.Alike.refl _
  obtain ⟨h0, ⟨sa, x1⟩, x2, x3⟩ := h0
  refine ⟨⟨by rw [← hH]; exact h0, ⟨sa, vk_R.same hv.symm x1⟩, by rw [← hH]; exact vx_Zq.moved ha x2, by rw [← hH]; exact vx_Zq.moved ha x3⟩, va_K.moved ha h1, fun w hw => ?_, fun j hj => by rw [← hH]; exact (h3 j hj).moved ha, fun j hj => by rw [← hH]; exact (h4 j hj).moved ha⟩
  have h9 := (List.mem_filter.mp hw).2
  have h8 := h2 w hw
  cases w <;> first | exact absurd h9 Bool.false_ne_true | exact va_Nw.same rfl hv h8
/-- the locals with which a method begins -/
theorem plv_entry {σ : Nat → Nat} {base n : Nat} (as : List Value) (hc : ∀ v ∈ as, v.category = 1) (hn : as.length ≤ n) :
    plv σ base ((lg_sl (as.map (pv σ base)) ++ List.replicate (n - (lg_sl (as.map (pv σ base))).length) Slot.unset).toArray) n (as ++ List.replicate (n - as.length) (.float 0)) := by
  have key : ∀ (vs : List Value), (∀ v ∈ vs, v.category = 1) → lg_sl vs = vs.map Slot.val := by
    intro vs
    induction vs with
    | nil => intro _; rfl
    | cons a r ih =>
      intro h
      have h1 : a.category = 1 := h a List.mem_cons_self
      show (if a.category = 2 then [Slot.val a, .second] else [.val a]) ++ lg_sl r = _
      rw [ih (fun v hv => h v (List.mem_cons_of_mem _ hv)), if_neg (by omega)]
      rfl
  have hk := key (as.map (pv σ base)) (fun v hv => by
    obtain ⟨w, h1, rfl⟩ := List.mem_map.mp hv
    rw [pv_cat]
    exact hc w h1)
  have he := lv_entry (as.map (pv σ base)) (n := n) (by rw [hk]; simpa using hn)
  refine ⟨he.1, he.2.1, fun i v hv hf => ?_⟩
  rw [hk]
  by_cases hi : i < as.length
  · rw [List.getElem?_append_left hi] at hv
    simp [hi, List.getElem?_append_left, hv]
    have := (List.getElem?_eq_some_iff.mp hv).2
    rw [this]
  · rw [List.getElem?_append_right (by omega)] at hv
    have := List.mem_of_getElem? hv
    rw [List.mem_replicate] at this
    exact absurd this.2 hf
theorem PM.of {Γ : Nat × (Nat → Int32)} {M : MD} {as : List Value} {h : PH} {bc bs : Nat} {Q : Option Value → PH → Prop} (hy : plainName M.1.cls = true) (hc : ∀ v ∈ as, v.category = 1) (hn : as.length ≤ mxl M)
    (hw : PW Γ M 0 (as ++ List.replicate (mxl M - as.length) (.float 0)) [] h bc bs Q) : PM Γ M as h bc bs Q := by
  intro lc D Y σ base
  refine Met.ofW (cc := mcode M) (maxL := mxl M) (ret := mret M) hy rfl ?_
  intro p e s m args below meth c s₁ B hml hv
  obtain ⟨rfl, hP, hE⟩ := hv
  have hts := atoms_spec (ws := pws M) B.pre
  have hnm : meth.name = M.1.name := (name_of_methodNamed B.named B.method).1
  rw [lg_entry_eq]
  have hlk := B.notSynchronized
  refine hw p lc e _ s m _ below meth c D Y σ base s.heap [] 0 0 _ _ ⟨B.exec, B.bytes, B.returns, hml, findClass_of_methodNamed B.named, fun w hw => hts w (List.mem_cons_of_mem _ hw), hlk, hnm, Nat.le_refl _, Nat.le_refl _, hE⟩ hP va_S.rf (plv_entry as hc hn) (by show 0 + bc ≤ bc; omega) (by show 0 + bs ≤ bs; omega) ?_
  intro r h' H' locs' cells' slots' ls' pc' hQ hP' hS' hc' hs' hret
  refine W.widen (k := bc) (n := bs) (by omega) (by omega) ?_
  match r, hQ, hret with
  | none, hQ, hret =>
    exact W.vret B.exec B.bytes (B.returns.trans hret.2) (fun t ht hW => ⟨⟨none, h', hQ, rfl, by rw [ht]; exact hP'⟩, hS'.F ht⟩) hS'.2.2 hret.1 hlk
  | some (.int x), hQ, hret =>
    rcases hret.2 with hr | ⟨hr, hx⟩
    · exact W.iret B.exec B.bytes (B.returns.trans hr) (fun t ht hW => ⟨⟨some (.int x), h', hQ, rfl, by rw [ht]; exact hP'⟩, hS'.F ht⟩) hS'.2.2 hret.1 hlk
    · exact W.zret B.exec B.bytes (B.returns.trans hr) hx (fun t ht hW => ⟨⟨some (.int x), h', hQ, rfl, by rw [ht]; exact hP'⟩, hS'.F ht⟩) hS'.2.2 hret.1 hlk
  | some (.long x), hQ, hret =>
    exact W.lret B.exec B.bytes (B.returns.trans hret.2) (fun t ht hW => ⟨⟨some (.long x), h', hQ, rfl, by rw [ht]; exact hP'⟩, hS'.F ht⟩) hS'.2.2 hret.1 hlk
  | some (.ref x), hQ, hret =>
    obtain ⟨C, hr⟩ := hret.2
    exact W.aret B.exec B.bytes (B.returns.trans hr) (Or.inl ⟨C, rfl⟩) (Or.inr ⟨_, rfl⟩) (fun t ht hW => ⟨⟨some (.ref x), h', hQ, rfl, by rw [ht]; exact hP'⟩, hS'.F ht⟩) hS'.2.2 hret.1 hlk
  | some .null, hQ, hret => exact hret.elim
  | some (.float _), hQ, hret => exact hret.elim
  | some (.double _), hQ, hret => exact hret.elim
  | some (.retAddr _), hQ, hret => exact hret.elim
