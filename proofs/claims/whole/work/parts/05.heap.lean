/-! the heap's instructions, and calls -/
theorem pat_kept {D : va_G} {Y : FieldType → ClassId} {σ : Nat → Nat} {base i : Nat} {e : PE} {H H1 : Heap} (hq : H1[base + i]? = H[base + i]?) (h : pat D Y σ base i e H) : pat D Y σ base i e H1 := by
  cases e with
  | inl a => exact hq.trans h
  | inr o =>
    unfold pat at h ⊢
    cases hc : vwCl[o.1]? with
    | none => simp only [hc]
    | some r =>
      simp only [hc] at h ⊢
      exact h.kept hq
theorem pwd_set {D : va_G} {Y : FieldType → ClassId} {σ : Nat → Nat} {base i : Nat} {h : PH} {e : PE} {H H1 : Heap} (hP : pwd D Y σ base h H) (hz : H1.size = H.size) (oq : ∀ q : Nat, q ≠ base + i → H1[q]? = H[q]?) (hn : pat D Y σ base i e H1) : pwd D Y σ base (h.set i e) H1 := by
  refine ⟨by rw [hz, hP.1, List.length_set], fun j x hx => ?_⟩
  by_cases hj : j = i
  · subst hj
    have hl : j < h.length := by
      have := (List.getElem?_eq_some_iff.mp hx).1
      simpa using this
    rw [List.getElem?_set_self hl] at hx
    cases hx
    exact hn
  · rw [List.getElem?_set_ne (Ne.symm hj)] at hx
    exact pat_kept (oq _ (by omega)) (hP.2 j x hx)
theorem pwd_push {D : va_G} {Y : FieldType → ClassId} {σ : Nat → Nat} {base : Nat} {h : PH} {e : PE} {H H1 : Heap} (hP : pwd D Y σ base h H) (hz : H1.size = H.size + 1) (oq : ∀ q : Nat, q < H.size → H1[q]? = H[q]?) (hn : pat D Y σ base h.length e H1) : pwd D Y σ base (h ++ [e]) H1 := by
  refine ⟨by rw [hz, hP.1, List.length_append]; rfl, fun j x hx => ?_⟩
  by_cases hj : j < h.length
  · rw [List.getElem?_append_left hj] at hx
    exact pat_kept (oq _ (by rw [hP.1]; omega)) (hP.2 j x hx)
  · rw [List.getElem?_append_right (by omega)] at hx
    have h0 : j - h.length < 1 := (List.getElem?_eq_some_iff.mp hx).1
    have hj2 : j = h.length := by omega
    subst hj2
    rw [Nat.sub_self] at hx
    cases hx
    exact hn
/-- entry idx of own's constant pool is field k of class ci -/
def pfl (own : String) (idx ci k : Nat) (fin : Bool) (ty : FieldType) : Prop :=
  ∃ (C : String) (T : u_T) (N : Nat) (ty0 : Nat → FieldType), vwCl[ci]? = some (C, T, N) ∧ k < N ∧ (∀ w ∈ u_ws C T N, w ∈ lw_good) ∧ Cond.fieldLink own idx (T k).1 (T k).2.1 (T k).2.2.1 ∈ lw_good ∧ (T k).2.2.2 = fin ∧ (fin = true → (T k).1 = own) ∧ parseFieldDescriptor (T k).2.2.1 = some ty ∧ (∀ k, k < N → parseFieldDescriptor (T k).2.2.1 = some (ty0 k)) ∧ (∀ a, a < N → ∀ b, b < N → a ≠ b → (T a).2.1 ≠ (T b).2.1)
section
variable {Γ : Nat × (Nat → Int32)} {M : MD} {pc : Nat} {l st : List Value} {h : PH} {bc bs : Nat} {Q : Option Value → PH → Prop}
theorem pw_getf {idx ci k i : Nat} {fn : Bool} {ty : FieldType} {fs : List Value} {v : Value} (hdg : decode (mcode M) pc = .ok (.getfield idx, 3)) (hf : pfl M.1.cls idx ci k fn ty) (he : h[i]? = some (.inr (ci, fs))) (hv : fs[k]? = some v) (kk : PW Γ M (pc + 3) l (v :: st) h bc bs Q) : PW Γ M pc l (.ref i :: st) h bc bs Q := by
  intro p lc e R s m args below meth c D Y σ base H locs cells slots ls Z C hP hS hL hc hs fin
  obtain ⟨Cn, T, N, ty0, h1, h2, h3, h4, h5, h6, h7, h8, h9⟩ := hf
  have hp := hP.2 i _ he
  simp only [pat, h1] at hp
  have hP1 : va_P D vwCl [(base + i, .inr (ci, fs.map (pv σ base)))] H := fun k q hk => by
    cases k with
    | zero => cases hk; exact ⟨_, h1, hp⟩
    | succ k => simp at hk
  exact va_get (D := D) (cl := vwCl) (ws := [(base + i, .inr (ci, fs.map (pv σ base)))]) C.1 C.2.1 C.2.2.2.2.2.1 h3 C.2.2.2.2.1 C.2.2.2.2.2.2.2.2.2.2.2.1 hP1 0 rfl h1 k h2 (C.2.2.2.2.2.1 _ h4) (fun _ z => z) (v := pv σ base v) (by simp [hv]) hdg (kk p lc e R s m args below meth c D Y σ base H locs cells slots ls Z C hP hS hL hc hs fin)
theorem pw_putf {idx ci k i : Nat} {ty : FieldType} {fs : List Value} {v : Value} (hdg : decode (mcode M) pc = .ok (.putfield idx, 3)) (hf : pfl M.1.cls idx ci k false ty) (he : h[i]? = some (.inr (ci, fs))) (hl : k < fs.length) (hn : narrow ty v = v) (hfit : fits ty v = true) (hpv : ∀ σ base, narrow ty (pv σ base v) = pv σ base v ∧ fits ty (pv σ base v) = true) (kk : PW Γ M (pc + 3) l st (h.set i (.inr (ci, fs.set k v))) bc bs Q) : PW Γ M pc l (v :: .ref i :: st) h bc bs Q := by
  intro p lc e R s m args below meth c D Y σ base H locs cells slots ls Z C hP hS hL hc hs fin
  obtain ⟨Cn, T, N, ty0, h1, h2, h3, h4, h5, h6, h7, h8, h9⟩ := hf
  have hts := C.2.2.2.2.2.1
  have hK := C.2.2.2.2.2.2.2.2.2.2.2.1
  have hp := hP.2 i _ he
  simp only [pat, h1] at hp
  have hap := va_apart (own := M.1.cls) hts h3 ty0 h8 h9 hK h1
  obtain ⟨cell, q1, q2, q3, q4⟩ := hp
  obtain ⟨hS', hfc, kC, hkC, hkind⟩ := hK.1 ci _ h1
  obtain ⟨cf, kf, fi, f, hi, hsl⟩ := hS' k h2
  have hlay := hts _ (h3 _ (u_in_lay h2))
  unfold u_lay at hlay
  rw [if_neg (by rw [h5]; decide)] at hlay
  have hst := (u_facts hfc hkC (u_lays hts h3 h2) hi).1
  have h10 := u_store hfc hkC hkind hlay hi h7 (hpv σ base).1 (hpv σ base).2
  refine W.putK C.1 C.2.1 (f := f) ⟨C.2.2.2.2.1, hts _ h4, ⟨_, _, _, hi⟩, hst⟩ (by rw [q2]; exact h10) q1 q3 (by rw [hsl]; exact k2_hasslot (q4 k h2)) rfl rfl hdg fun H' e1 e2 e3 => ?_
  rw [hsl] at e1 ⊢
  refine kk p lc e R s m args below meth c D Y σ base H' _ cells slots ls Z C (pwd_set hP e2 e3 ?_) (hS.put e2 e3 (Nat.le_add_right _ _)) hL hc hs fin
  simp only [pat, h1]
  exact t_OB.to (V := updV (vp_V (fs.map (pv σ base))) k (pv σ base v)) ⟨_, e1, q2, q3, t_set q4 hap h2 _⟩ (fun j _ => by rw [vp_updV_set (by simpa using hl), List.map_set])
theorem pw_putF {idx ci k i : Nat} {ty : FieldType} {fs : List Value} {v : Value} (hdg : decode (mcode M) pc = .ok (.putfield idx, 3)) (hf : pfl M.1.cls idx ci k true ty) (hin : M.1.name = "<init>") (he : h[i]? = some (.inr (ci, fs))) (hl : k < fs.length) (hpv : ∀ σ base, narrow ty (pv σ base v) = pv σ base v ∧ fits ty (pv σ base v) = true) (kk : PW Γ M (pc + 3) l st (h.set i (.inr (ci, fs.set k v))) bc bs Q) : PW Γ M pc l (v :: .ref i :: st) h bc bs Q := by
  intro p lc e R s m args below meth c D Y σ base H locs cells slots ls Z C hP hS hL hc hs fin
  obtain ⟨Cn, T, N, ty0, h1, h2, h3, h4, h5, h6, h7, h8, h9⟩ := hf
  have hts := C.2.2.2.2.2.1
  have hK := C.2.2.2.2.2.2.2.2.2.2.2.1
  have hp := hP.2 i _ he
  simp only [pat, h1] at hp
  have hap := va_apart (own := M.1.cls) hts h3 ty0 h8 h9 hK h1
  obtain ⟨cell, q1, q2, q3, q4⟩ := hp
  obtain ⟨hS', hfc, kC, hkC, hkind⟩ := hK.1 ci _ h1
  obtain ⟨cf, kf, fi, f, hi, hsl⟩ := hS' k h2
  have hlay := hts _ (h3 _ (u_in_lay h2))
  unfold u_lay at hlay
  rw [if_pos h5] at hlay
  have hst := (u_facts hfc hkC (u_lays hts h3 h2) hi).1
  have hcf : m.cls = cf := by
    obtain ⟨_, _, c', _, _, _, -, -, hf', -, -, -, hown2, -⟩ := Cond.laysFinal_spec hlay
    have e1 : c' = cf := by have := hi.symm.trans hf'; simp at this; exact this.1.symm
    rw [h6 rfl] at hown2
    rw [← e1]; exact Option.some.inj (C.2.2.2.2.1.symm.trans hown2)
  have h10 := u_fits hfc hkC hkind (Or.inr hlay) hi h7 (hpv σ base).1 (hpv σ base).2
  refine W.putFinK C.1 C.2.1 C.2.2.2.2.1 (hts _ h4) hi hst hcf (C.2.2.2.2.2.2.2.1.trans hin) (by rw [q2]; exact h10) q1 q3 (by rw [hsl]; exact k2_hasslot (q4 k h2)) rfl rfl hdg fun H' e1 e2 e3 => ?_
  rw [hsl] at e1 ⊢
  refine kk p lc e R s m args below meth c D Y σ base H' _ cells slots ls Z C (pwd_set hP e2 e3 ?_) (hS.put e2 e3 (Nat.le_add_right _ _)) hL hc hs fin
  simp only [pat, h1]
  exact t_OB.to (V := updV (vp_V (fs.map (pv σ base))) k (pv σ base v)) ⟨_, e1, q2, q3, t_set q4 hap h2 _⟩ (fun j _ => by rw [vp_updV_set (by simpa using hl), List.map_set])
theorem pw_iald {i n : Nat} {f : Nat → Int32} {x : Int32} (hdg : decode (mcode M) pc = .ok (.iaload, 1)) (he : h[i]? = some (.inl (.int, n, .inl f))) (hin : vp_in x n) (kk : PW Γ M (pc + 1) l (.int (f x.toNatClampNeg) :: st) h bc bs Q) : PW Γ M pc l (.int x :: .ref i :: st) h bc bs Q := by
  intro p lc e R s m args below meth c D Y σ base H locs cells slots ls Z C hP hS hL hc hs fin
  have hP1 : va_P D vwCl [(base + i, .inl (Y .int, n, .inl f))] H := fun k q hk => by
    cases k with
    | zero => cases hk; exact hP.2 i _ he
    | succ k => simp at hk
  exact va_iald (D := D) (cl := vwCl) C.1 C.2.1 C.2.2.2.2.2.2.2.2.2.2.2.1 hP1 0 0 rfl rfl hin hdg (kk p lc e R s m args below meth c D Y σ base H locs cells slots ls Z C hP hS hL hc hs fin)
theorem pw_lald {i n : Nat} {f : Nat → Int64} {x : Int32} (hdg : decode (mcode M) pc = .ok (.laload, 1)) (he : h[i]? = some (.inl (.long, n, .inr (.inl f)))) (hin : vp_in x n) (kk : PW Γ M (pc + 1) l (.long (f x.toNatClampNeg) :: st) h bc bs Q) : PW Γ M pc l (.int x :: .ref i :: st) h bc bs Q := by
  intro p lc e R s m args below meth c D Y σ base H locs cells slots ls Z C hP hS hL hc hs fin
  have hP1 : va_P D vwCl [(base + i, .inl (Y .long, n, .inr (.inl f)))] H := fun k q hk => by
    cases k with
    | zero => cases hk; exact hP.2 i _ he
    | succ k => simp at hk
  exact va_lald (D := D) (cl := vwCl) C.1 C.2.1 C.2.2.2.2.2.2.2.2.2.2.2.1 hP1 0 1 rfl rfl hin hdg (kk p lc e R s m args below meth c D Y σ base H locs cells slots ls Z C hP hS hL hc hs fin)
theorem pw_alen {i n : Nat} {f : Nat → Int32} (v : Int32) (hdg : decode (mcode M) pc = .ok (.arraylength, 1)) (he : h[i]? = some (.inl (.int, n, .inl f))) (hv : Int32.ofNat n = v) (kk : PW Γ M (pc + 1) l (.int v :: st) h bc bs Q) : PW Γ M pc l (.ref i :: st) h bc bs Q := by
  intro p lc e R s m args below meth c D Y σ base H locs cells slots ls Z C hP hS hL hc hs fin
  have hP1 : va_P D vwCl [(base + i, .inl (Y .int, n, .inl f))] H := fun k q hk => by
    cases k with
    | zero => cases hk; exact hP.2 i _ he
    | succ k => simp at hk
  exact va_alen (D := D) (cl := vwCl) C.1 C.2.1 C.2.2.2.2.2.2.2.2.2.2.2.1 hP1 0 0 rfl rfl hv hdg (kk p lc e R s m args below meth c D Y σ base H locs cells slots ls Z C hP hS hL hc hs fin)
theorem pw_iast {i n : Nat} {f : Nat → Int32} {x y : Int32} (hdg : decode (mcode M) pc = .ok (.iastore, 1)) (he : h[i]? = some (.inl (.int, n, .inl f))) (hin : vp_in x n) (kk : PW Γ M (pc + 1) l st (h.set i (.inl (.int, n, .inl (upd f x.toNatClampNeg y)))) bc bs Q) : PW Γ M pc l (.int y :: .int x :: .ref i :: st) h bc bs Q := by
  intro p lc e R s m args below meth c D Y σ base H locs cells slots ls Z C hP hS hL hc hs fin
  refine W.iast C.1 C.2.1 (hP.2 i _ he) ((C.2.2.2.2.2.2.2.2.2.2.2.1.2 0 _ rfl).1 n (fun j => .int (f j))) (fun q => by cases q) (by show ¬ (x < 0 ∨ (arrV _ _ _).slots.size ≤ _); rw [arrV_size]; exact hin) rfl rfl hdg fun H1 e z oq => ?_
  refine kk p lc _ R s m args below meth c D Y σ base H1 _ cells slots ls Z C (pwd_set hP z oq ?_) (hS.put z oq (Nat.le_add_right _ _)) hL hc hs fin
  show H1[base + i]? = some (vp_cell _ _)
  rw [e]
  rw [vp_cell_i, vp_cell_i, arrV_store]
  congr 2
  funext q
  by_cases hq : q = x.toNatClampNeg
  · subst hq
    simp [updV, upd]
  · simp [updV, upd, hq]
theorem pw_last {i n : Nat} {f : Nat → Int64} {x : Int32} {y : Int64} (hdg : decode (mcode M) pc = .ok (.lastore, 1)) (he : h[i]? = some (.inl (.long, n, .inr (.inl f)))) (hin : vp_in x n) (kk : PW Γ M (pc + 1) l st (h.set i (.inl (.long, n, .inr (.inl (vp_updL f x.toNatClampNeg y))))) bc bs Q) : PW Γ M pc l (.long y :: .int x :: .ref i :: st) h bc bs Q := by
  intro p lc e R s m args below meth c D Y σ base H locs cells slots ls Z C hP hS hL hc hs fin
  refine W.last C.1 C.2.1 (hP.2 i _ he) ((C.2.2.2.2.2.2.2.2.2.2.2.1.2 1 _ rfl).1 n (fun j => .long (f j))) (fun q => by cases q) (by show ¬ (x < 0 ∨ (arrV _ _ _).slots.size ≤ _); rw [arrV_size]; exact hin) rfl rfl hdg fun H1 e z oq => ?_
  refine kk p lc _ R s m args below meth c D Y σ base H1 _ cells slots ls Z C (pwd_set hP z oq ?_) (hS.put z oq (Nat.le_add_right _ _)) hL hc hs fin
  show H1[base + i]? = some (vp_cell _ _)
  rw [e]
  rw [vp_cell_l, vp_cell_l, arrV_store]
  congr 2
  funext q
  by_cases hq : q = x.toNatClampNeg
  · subst hq
    simp [updV, vp_updL]
  · simp [updV, vp_updL, hq]
/-- a static row -/
theorem pw_gets {idx : Nat} (j : Nat) (hj : j < 4) (hdg : decode (mcode M) pc = .ok (.getstatic idx, 3)) (hf : Cond.fieldLinkNest M.1.cls idx "ChainChoice" (pnam j) "[I" "ChainChoice" ∈ pnest) (kk : PW Γ M (pc + 3) l (.retAddr j :: st) h bc bs Q) : PW Γ M pc l st h bc bs Q := by
  intro p lc e R s m args below meth c D Y σ base H locs cells slots ls Z C hP hS hL hc hs fin
  have hZ := C.2.2.2.2.2.2.2.2.2.2.2.2.2.1 j hj
  exact va_getsN C.1 C.2.1 hZ hS C.2.2.2.2.1 (C.2.2.2.2.2.2.2.2.2.2.2.2.1 _ hf) (fun _ z => z) hdg (kk p lc e R s m args below meth c D Y σ base H locs cells slots ls Z C hP hS hL hc hs fin)
theorem pw_saload {j : Nat} {x : Int32} (hj : j < 5) (hdg : decode (mcode M) pc = .ok (.iaload, 1)) (hin : vp_in x (ptab Γ j).1) (kk : PW Γ M (pc + 1) l (.int ((ptab Γ j).2 x.toNatClampNeg) :: st) h bc bs Q) : PW Γ M pc l (.int x :: .retAddr j :: st) h bc bs Q := by
  intro p lc e R s m args below meth c D Y σ base H locs cells slots ls Z C hP hS hL hc hs fin
  have hT := C.2.2.2.2.2.2.2.2.2.2.2.2.2.2 j hj
  exact va_ti C.1 C.2.1 hT hS hin rfl hdg (kk p lc e R s m args below meth c D Y σ base H locs cells slots ls Z C hP hS hL hc hs fin)
theorem pw_salen {j : Nat} (hj : j < 5) (hdg : decode (mcode M) pc = .ok (.arraylength, 1)) (kk : PW Γ M (pc + 1) l (.int (Int32.ofNat (ptab Γ j).1) :: st) h bc bs Q) : PW Γ M pc l (.retAddr j :: st) h bc bs Q := by
  intro p lc e R s m args below meth c D Y σ base H locs cells slots ls Z C hP hS hL hc hs fin
  obtain ⟨cell, h1, h2, h3, h4, h5, h6, h7⟩ := C.2.2.2.2.2.2.2.2.2.2.2.2.2.2 j hj
  exact W.alen (n := Int32.ofNat (ptab Γ j).1) C.1 C.2.1 (by rw [hS.2.1 _ (Array.getElem?_eq_some_iff.mp h1).1 h7]; exact h1) h2 h5 rfl rfl hdg (kk p lc e R s m args below meth c D Y σ base H locs cells slots ls Z C hP hS hL hc hs fin)
end
