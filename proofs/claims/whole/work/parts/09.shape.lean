/-! the shape of the world: cell i is a row of n ints, or an object of class ci whose fields are numbers (none) or fixed references (some j; 999: the one that changes, Reader.from) -/
def shp : List (Nat ⊕ (Nat × List (Option Nat))) := [.inr (10, [some 1, some 3, some 5, some 7, some 9, some 11, some 15, some 17, some 34, some 53, some 55, some 56, none, none]),
  .inr (6, [some 2, none]),
  .inl 300,
  .inr (6, [some 4, none]),
  .inl 1024,
  .inr (6, [some 6, none]),
  .inl 1024,
  .inr (6, [some 8, none]),
  .inl 300,
  .inr (6, [some 10, none]),
  .inl 300,
  .inr (1, [some 12, some 13, none, some 14, none]),
  .inl 4,
  .inl 4,
  .inl 5,
  .inr (2, [some 16]),
  .inl 256,
  .inr (3, [some 18, some 19, some 20, some 21, some 22, some 23, some 28, none, none]),
  .inl 256,
  .inl 256,
  .inl 256,
  .inl 300,
  .inr (0, [none, none]),
  .inr (8, [some 24, some 25, some 26, some 27, none, none, none]),
  .inl 512,
  .inl 512,
  .inl 512,
  .inl 256,
  .inr (4, [some 29, some 30, some 31, some 32, some 33, none]),
  .inl 256,
  .inl 256,
  .inl 256,
  .inl 16,
  .inl 17,
  .inr (9, [some 35, some 38, some 39, some 40, some 41, some 47, some 49, some 51, none, none, none]),
  .inr (5, [some 999, none, none, none, none, none]),
  .inr (6, [some 37, none]),
  .inl 0,
  .inl 2,
  .inl 2,
  .inl 256,
  .inr (4, [some 42, some 43, some 44, some 45, some 46, none]),
  .inl 256,
  .inl 256,
  .inl 256,
  .inl 16,
  .inl 17,
  .inr (2, [some 48]),
  .inl 256,
  .inr (6, [some 50, none]),
  .inl 300,
  .inr (6, [some 52, none]),
  .inl 300,
  .inr (7, [some 54]),
  .inl 256,
  .inl 6,
  .inl 64,
  .inr (11, [none, none, some 58, none, some 59, none, some 60, some 61, none, some 62, none, none, none, some 63, some 64, none, some 65, none, some 66, some 67, some 68, some 69, some 70, some 71, none, some 72, some 73, none, none, none, none, none, none, none, none]),
  .inl 300,
  .inl 1400,
  .inl 4,
  .inl 4,
  .inl 4,
  .inl 300,
  .inl 300,
  .inl 1400,
  .inl 256,
  .inl 256,
  .inl 256,
  .inl 512,
  .inl 512,
  .inl 256,
  .inl 6,
  .inl 64]
def srf (rf j : Nat) : Nat := if j == 999 then rf else j
def sval (F : Nat → Nat → Int32) (rf i k : Nat) (o : Option Nat) : Value := match o with
  | none => .int (F i k)
  | some j => .ref (srf rf j)
def scell (F A : Nat → Nat → Int32) (rf i : Nat) (s : Nat ⊕ (Nat × List (Option Nat))) : PE := match s with
  | .inl n => .inl (.int, n, .inl (A i))
  | .inr o => .inr (o.1, o.2.mapIdx (fun k x => sval F rf i k x))
/-- the world: numbers in fields (F), in rows (A), the reference that changes, the law's long, and what exceptions left -/
def HSg (sh : List (Nat ⊕ (Nat × List (Option Nat)))) (F A : Nat → Nat → Int32) (rf : Nat) (lo : Int64) (X : PH) : PH := sh.mapIdx (fun i s => scell F A rf i s) ++ (.inl (.long, 1, .inr (.inl (fun _ => lo))) :: X)
def HS (F A : Nat → Nat → Int32) (rf : Nat) (lo : Int64) (X : PH) : PH := HSg shp F A rf lo X
def upF (F : Nat → Nat → Int32) (i k : Nat) (v : Int32) : Nat → Nat → Int32 := fun a b => if a = i ∧ b = k then v else F a b
theorem upF_s {F : Nat → Nat → Int32} {i k : Nat} {v : Int32} : upF F i k v i k = v := by simp [upF]
theorem upF_n {F : Nat → Nat → Int32} {i k a b : Nat} {v : Int32} (h : ¬ (a = i ∧ b = k)) : upF F i k v a b = F a b := by simp [upF, h]
def stA (A : Nat → Nat → Int32) (i : Nat) (f : Nat → Int32) : Nat → Nat → Int32 := fun a => if a = i then f else A a
theorem stA_s {A : Nat → Nat → Int32} {i : Nat} {f : Nat → Int32} : stA A i f i = f := by simp [stA]
theorem stA_n {A : Nat → Nat → Int32} {i a : Nat} {f : Nat → Int32} (h : ¬ a = i) : stA A i f a = A a := by simp [stA, h]
theorem HSg_get {sh : List (Nat ⊕ (Nat × List (Option Nat)))} {F A : Nat → Nat → Int32} {rf : Nat} {lo : Int64} {X : PH} {i : Nat} {s : Nat ⊕ (Nat × List (Option Nat))} (h : sh[i]? = some s) : (HSg sh F A rf lo X)[i]? = some (scell F A rf i s) := by
  unfold HSg
  have hl : i < sh.length := (List.getElem?_eq_some_iff.mp h).1
  rw [List.getElem?_append_left (by rw [List.length_mapIdx]; exact hl), List.getElem?_mapIdx, h]
  rfl
theorem HSg_set {sh : List (Nat ⊕ (Nat × List (Option Nat)))} {F A F' A' : Nat → Nat → Int32} {rf rf' : Nat} {lo : Int64} {X : PH} {i : Nat} {s : Nat ⊕ (Nat × List (Option Nat))} {e : PE} (h : sh[i]? = some s) (he : e = scell F' A' rf' i s) (ho : ∀ j t, ¬ j = i → sh[j]? = some t → scell F' A' rf' j t = scell F A rf j t) : (HSg sh F A rf lo X).set i e = HSg sh F' A' rf' lo X := by
  have hl : i < sh.length := (List.getElem?_eq_some_iff.mp h).1
  have key : (sh.mapIdx (fun i s => scell F A rf i s)).set i e = sh.mapIdx (fun i s => scell F' A' rf' i s) := by
    apply List.ext_getElem?
    intro j
    by_cases hj : j = i
    · subst hj
      rw [List.getElem?_set_self (by rw [List.length_mapIdx]; exact hl), List.getElem?_mapIdx, h, he]
      rfl
    · rw [List.getElem?_set_ne (Ne.symm hj), List.getElem?_mapIdx, List.getElem?_mapIdx]
      cases ht : sh[j]? with
      | none => rfl
      | some t =>
        show some (scell F A rf j t) = some (scell F' A' rf' j t)
        rw [ho j t hj ht]
  unfold HSg
  rw [List.set_append_left _ _ (by rw [List.length_mapIdx]; exact hl), key]
theorem HS_get {F A : Nat → Nat → Int32} {rf : Nat} {lo : Int64} {X : PH} {i : Nat} {s : Nat ⊕ (Nat × List (Option Nat))} (h : shp[i]? = some s) : (HS F A rf lo X)[i]? = some (scell F A rf i s) := HSg_get h
theorem HS_set {F A F' A' : Nat → Nat → Int32} {rf rf' : Nat} {lo : Int64} {X : PH} {i : Nat} {s : Nat ⊕ (Nat × List (Option Nat))} {e : PE} (h : shp[i]? = some s) (he : e = scell F' A' rf' i s) (ho : ∀ j t, ¬ j = i → scell F' A' rf' j t = scell F A rf j t) : (HS F A rf lo X).set i e = HS F' A' rf' lo X := HSg_set h he (fun j t hj _ => ho j t hj)
theorem sc_F {F A : Nat → Nat → Int32} {rf i k j : Nat} {v : Int32} (hj : ¬ j = i) (t : Nat ⊕ (Nat × List (Option Nat))) : scell (upF F i k v) A rf j t = scell F A rf j t := by
  cases t with
  | inl n => rfl
  | inr o =>
    have key : (fun (k2 : Nat) (x : Option Nat) => sval (upF F i k v) rf j k2 x) = fun k2 x => sval F rf j k2 x := by
      funext k2 x
      cases x with
      | none => simp [sval, upF, hj]
      | some y => rfl
    simp only [scell, key]
theorem sc_A {F A : Nat → Nat → Int32} {rf i j : Nat} {f : Nat → Int32} (hj : ¬ j = i) (t : Nat ⊕ (Nat × List (Option Nat))) : scell F (stA A i f) rf j t = scell F A rf j t := by
  cases t with
  | inl n => simp [scell, stA, hj]
  | inr o => rfl
theorem sc_Fs {F : Nat → Nat → Int32} {rf i q : Nat} {v : Int32} {fl : List (Option Nat)} (h : fl[q]? = some none) : (fl.mapIdx (fun k x => sval F rf i k x)).set q (.int v) = fl.mapIdx (fun k x => sval (upF F i q v) rf i k x) := by
  apply List.ext_getElem?
  intro j
  have hl : q < fl.length := (List.getElem?_eq_some_iff.mp h).1
  by_cases hj : j = q
  · subst hj
    rw [List.getElem?_set_self (by rw [List.length_mapIdx]; exact hl), List.getElem?_mapIdx, h]
    simp [sval, upF]
  · rw [List.getElem?_set_ne (Ne.symm hj), List.getElem?_mapIdx, List.getElem?_mapIdx]
    cases fl[j]? with
    | none => rfl
    | some x => cases x with
      | none => simp [sval, upF, hj]
      | some y => rfl
section
variable {Γ : Nat × (Nat → Int32)} {M : MD} {pc : Nat} {l st : List Value} {F A : Nat → Nat → Int32} {rf : Nat} {lo : Int64} {X : PH} {bc bs : Nat} {Q : Option Value → PH → Prop}
theorem pw_gI {idx ci k i : Nat} {fn : Bool} {ty : FieldType} {fl : List (Option Nat)} (hdg : decode (mcode M) pc = .ok (.getfield idx, 3)) (hf : pfl M.1.cls idx ci k fn ty) (he : shp[i]? = some (.inr (ci, fl))) (hv : fl[k]? = some none) (kk : PW Γ M (pc + 3) l (.int (F i k) :: st) (HS F A rf lo X) bc bs Q) : PW Γ M pc l (.ref i :: st) (HS F A rf lo X) bc bs Q :=
  pw_getf hdg hf (HS_get he) (by rw [List.getElem?_mapIdx, hv]; rfl) kk
theorem pw_gR {idx ci k i j : Nat} {fn : Bool} {ty : FieldType} {fl : List (Option Nat)} (hdg : decode (mcode M) pc = .ok (.getfield idx, 3)) (hf : pfl M.1.cls idx ci k fn ty) (he : shp[i]? = some (.inr (ci, fl))) (hv : fl[k]? = some (some j)) (kk : PW Γ M (pc + 3) l (.ref (srf rf j) :: st) (HS F A rf lo X) bc bs Q) : PW Γ M pc l (.ref i :: st) (HS F A rf lo X) bc bs Q :=
  pw_getf hdg hf (HS_get he) (by rw [List.getElem?_mapIdx, hv]; rfl) kk
theorem pw_gC {idx ci k i j : Nat} {fn : Bool} {ty : FieldType} {fl : List (Option Nat)} (hdg : decode (mcode M) pc = .ok (.getfield idx, 3)) (hf : pfl M.1.cls idx ci k fn ty) (he : shp[i]? = some (.inr (ci, fl))) (hv : fl[k]? = some (some j)) (hj : (j == 999) = false) (kk : PW Γ M (pc + 3) l (.ref j :: st) (HS F A rf lo X) bc bs Q) : PW Γ M pc l (.ref i :: st) (HS F A rf lo X) bc bs Q :=
  pw_getf hdg hf (HS_get he) (by rw [List.getElem?_mapIdx, hv]; show some (Value.ref (if j == 999 then rf else j)) = _; rw [hj]; rfl) kk
theorem pw_pI {idx ci k i : Nat} {ty : FieldType} {fl : List (Option Nat)} {v : Int32} (hdg : decode (mcode M) pc = .ok (.putfield idx, 3)) (hf : pfl M.1.cls idx ci k false ty) (he : shp[i]? = some (.inr (ci, fl))) (hv : fl[k]? = some none) (hn : narrow ty (.int v) = .int v ∧ fits ty (.int v) = true) (kk : PW Γ M (pc + 3) l st (HS (upF F i k v) A rf lo X) bc bs Q) : PW Γ M pc l (.int v :: .ref i :: st) (HS F A rf lo X) bc bs Q := by
  refine pw_putf hdg hf (HS_get he) (by rw [List.length_mapIdx]; exact (List.getElem?_eq_some_iff.mp hv).1) hn.1 hn.2 (fun _ _ => hn) ?_
  rw [HS_set (F' := upF F i k v) (A' := A) (rf' := rf) he (by unfold scell; rw [sc_Fs hv]) (fun j t hj => sc_F hj t)]
  exact kk
theorem pw_aI {i n : Nat} {x : Int32} (hdg : decode (mcode M) pc = .ok (.iaload, 1)) (he : shp[i]? = some (.inl n)) (hin : vp_in x n) (kk : PW Γ M (pc + 1) l (.int (A i x.toNatClampNeg) :: st) (HS F A rf lo X) bc bs Q) : PW Γ M pc l (.int x :: .ref i :: st) (HS F A rf lo X) bc bs Q :=
  pw_iald hdg (HS_get he) hin kk
theorem pw_sI {i n : Nat} {x y : Int32} (hdg : decode (mcode M) pc = .ok (.iastore, 1)) (he : shp[i]? = some (.inl n)) (hin : vp_in x n) (kk : PW Γ M (pc + 1) l st (HS F (stA A i (upd (A i) x.toNatClampNeg y)) rf lo X) bc bs Q) : PW Γ M pc l (.int y :: .int x :: .ref i :: st) (HS F A rf lo X) bc bs Q := by
  refine pw_iast hdg (HS_get he) hin ?_
  rw [HS_set (F' := F) (A' := stA A i (upd (A i) x.toNatClampNeg y)) (rf' := rf) he (by simp [scell, stA]) (fun j t hj => sc_A hj t)]
  exact kk
theorem pw_lI {i n : Nat} (v : Int32) (hdg : decode (mcode M) pc = .ok (.arraylength, 1)) (he : shp[i]? = some (.inl n)) (hv : Int32.ofNat n = v) (kk : PW Γ M (pc + 1) l (.int v :: st) (HS F A rf lo X) bc bs Q) : PW Γ M pc l (.ref i :: st) (HS F A rf lo X) bc bs Q :=
  pw_alen v hdg (HS_get he) hv kk
theorem pw_cp {idx i j n0 n1 : Nat} {sp dp n : Int32} (hdg : decode (mcode M) pc = .ok (.invokestatic idx, 3)) (hl : Cond.methodLink M.1.cls idx arraycopyName ∈ lw_good) (he0 : shp[i]? = some (.inl n0)) (he1 : shp[j]? = some (.inl n1)) (h1 : ¬ sp < 0) (h2 : ¬ dp < 0) (h3 : ¬ n < 0) (h4 : sp.toNatClampNeg + n.toNatClampNeg ≤ n0) (h5 : dp.toNatClampNeg + n.toNatClampNeg ≤ n1)
    (hf : 1 ≤ mfr M) (ho : (st.map fun v => v.category).sum + 18 ≤ mlo M)
    (kk : PW Γ M (pc + 3) l st (HS F (stA A j (va_cpy (A i) (A j) sp.toNatClampNeg dp.toNatClampNeg n.toNatClampNeg)) rf lo X) bc bs Q) : PW Γ M pc l (.int n :: .int dp :: .ref j :: .int sp :: .ref i :: st) (HS F A rf lo X) bc bs Q := by
  refine pw_copy hdg hl ac_nt ac_st ac_in (HS_get he0) (HS_get he1) h1 h2 h3 h4 h5 hf ho ?_
  rw [HS_set (F' := F) (A' := stA A j (va_cpy (A i) (A j) sp.toNatClampNeg dp.toNatClampNeg n.toNatClampNeg)) (rf' := rf) he1 (by simp [scell, stA]) (fun j t hj => sc_A hj t)]
  exact kk
end
section
variable {Γ : Nat × (Nat → Int32)} {M : MD} {pc : Nat} {l l' st : List Value} {h : PH} {bc bs : Nat} {Q : Option Value → PH → Prop}
theorem ps_istore {i : Nat} {x : Int32} (hdg : decode (mcode M) pc = .ok (.istore i, 2)) (hi : i < mxl M) (hn : pnl l i = true) (hl : l.set i (.int x) = l') (k : PW Γ M (pc + 2) l' st h bc bs Q) : PW Γ M pc l (.int x :: st) h bc bs Q := pw_istore hdg hi hn (hl ▸ k)
theorem ps_istore_n {i : Fin 4} {x : Int32} (hdg : decode (mcode M) pc = .ok (.istore_n i, 1)) (hi : (i : Nat) < mxl M) (hn : pnl l (i : Nat) = true) (hl : l.set (i : Nat) (.int x) = l') (k : PW Γ M (pc + 1) l' st h bc bs Q) : PW Γ M pc l (.int x :: st) h bc bs Q := pw_istore_n hdg hi hn (hl ▸ k)
theorem ps_astore {i x : Nat} (hdg : decode (mcode M) pc = .ok (.astore i, 2)) (hi : i < mxl M) (hn : pnl l i = true) (hl : l.set i (.ref x) = l') (k : PW Γ M (pc + 2) l' st h bc bs Q) : PW Γ M pc l (.ref x :: st) h bc bs Q := pw_astore hdg hi hn (hl ▸ k)
theorem ps_astore_n {i : Fin 4} {x : Nat} (hdg : decode (mcode M) pc = .ok (.astore_n i, 1)) (hi : (i : Nat) < mxl M) (hn : pnl l (i : Nat) = true) (hl : l.set (i : Nat) (.ref x) = l') (k : PW Γ M (pc + 1) l' st h bc bs Q) : PW Γ M pc l (.ref x :: st) h bc bs Q := pw_astore_n hdg hi hn (hl ▸ k)
theorem ps_iinc {i : Nat} {n : Int} {x : Int32} (d : Int32) (hdg : decode (mcode M) pc = .ok (.iinc i n, 3)) (hd : Int32.ofInt n = d) (hg : l[i]? = some (.int x)) (hi : i < mxl M) (hn : pnl l i = true) (hl : l.set i (.int (x + d)) = l') (k : PW Γ M (pc + 3) l' st h bc bs Q) : PW Γ M pc l st h bc bs Q := pw_iinc d hdg hd hg hi hn (hl ▸ k)
theorem PM.go {as : List Value} (hy : plainName M.1.cls = true) (hc : as.all (fun v => v.category == 1) = true) (hn : as.length ≤ mxl M) (hl : as ++ List.replicate (mxl M - as.length) (.float 0) = l) (hw : PW Γ M 0 l [] h bc bs Q) : PM Γ M as h bc bs Q :=
  PM.of hy (fun v hv => by simpa using List.all_eq_true.mp hc v hv) hn (hl ▸ hw)
theorem pc_V {M' : MD} {n idx b ci : Nat} {As fs stk : List Value} (hdg : decode (mcode M) pc = .ok (.invokevirtual idx, 3)) (hm : pmV M.1.cls idx M' n) (hs : stk = As.reverse ++ .ref b :: st) (hn : As.length = n) (hci : (vwCl[ci]?).map (fun q => q.1) = some M'.1.cls) (he : h[b]? = some (.inr (ci, fs))) (hR : mfr M' + 1 ≤ mfr M ∧ 8 + (mxl M' + 11) + mlo M' ≤ mlo M) (hst : (st.map fun v => v.category).sum ≤ 8)
    (hp : PM Γ M' (.ref b :: As) h 0 0 (fun r h' => PW Γ M (pc + 3) l (r.toList ++ st) h' bc bs Q)) : PW Γ M pc l stk h bc bs Q :=
  hs ▸ pw_callV hdg hm hn hci he hR hst ⟨Nat.zero_le _, Nat.zero_le _⟩ hp (fun _ _ q => q)
theorem pc_S {M' : MD} {n idx : Nat} {As stk : List Value} (hdg : decode (mcode M) pc = .ok (.invokestatic idx, 3)) (hm : pmS M.1.cls idx M' n) (hs : stk = As.reverse ++ st) (hn : As.length = n) (hR : mfr M' + 1 ≤ mfr M ∧ 8 + (mxl M' + 11) + mlo M' ≤ mlo M) (hst : (st.map fun v => v.category).sum ≤ 8)
    (hp : PM Γ M' As h 0 0 (fun r h' => PW Γ M (pc + 3) l (r.toList ++ st) h' bc bs Q)) : PW Γ M pc l stk h bc bs Q :=
  hs ▸ pw_callS hdg hm hn hR hst ⟨Nat.zero_le _, Nat.zero_le _⟩ hp (fun _ _ q => q)
end
section
variable {Γ : Nat × (Nat → Int32)} {M : MD} {pc : Nat} {l st : List Value} {F A : Nat → Nat → Int32} {rf : Nat} {lo : Int64} {X : PH} {bc bs : Nat} {Q : Option Value → PH → Prop} {M' : MD} {idx b ci : Nat} {fl : List (Option Nat)} {a1 a2 a3 a4 : Value}
theorem pc_V0 (hdg : decode (mcode M) pc = .ok (.invokevirtual idx, 3)) (hm : pmV M.1.cls idx M' 0) (hci : (vwCl[ci]?).map (fun q => q.1) = some M'.1.cls) (he : shp[b]? = some (.inr (ci, fl))) (hR : mfr M' + 1 ≤ mfr M ∧ 8 + (mxl M' + 11) + mlo M' ≤ mlo M) (hst : (st.map fun v => v.category).sum ≤ 8)
    (hp : PM Γ M' [.ref b] (HS F A rf lo X) 0 0 (fun r h' => PW Γ M (pc + 3) l (r.toList ++ st) h' bc bs Q)) : PW Γ M pc l (.ref b :: st) (HS F A rf lo X) bc bs Q := pc_V (As := []) hdg hm rfl rfl hci (HS_get he) hR hst hp
theorem pc_V1 (hdg : decode (mcode M) pc = .ok (.invokevirtual idx, 3)) (hm : pmV M.1.cls idx M' 1) (hci : (vwCl[ci]?).map (fun q => q.1) = some M'.1.cls) (he : shp[b]? = some (.inr (ci, fl))) (hR : mfr M' + 1 ≤ mfr M ∧ 8 + (mxl M' + 11) + mlo M' ≤ mlo M) (hst : (st.map fun v => v.category).sum ≤ 8)
    (hp : PM Γ M' [.ref b, a1] (HS F A rf lo X) 0 0 (fun r h' => PW Γ M (pc + 3) l (r.toList ++ st) h' bc bs Q)) : PW Γ M pc l (a1 :: .ref b :: st) (HS F A rf lo X) bc bs Q := pc_V (As := [a1]) hdg hm rfl rfl hci (HS_get he) hR hst hp
theorem pc_S1 {h : PH} (hdg : decode (mcode M) pc = .ok (.invokestatic idx, 3)) (hm : pmS M.1.cls idx M' 1) (hR : mfr M' + 1 ≤ mfr M ∧ 8 + (mxl M' + 11) + mlo M' ≤ mlo M) (hst : (st.map fun v => v.category).sum ≤ 8)
    (hp : PM Γ M' [a1] h 0 0 (fun r h' => PW Γ M (pc + 3) l (r.toList ++ st) h' bc bs Q)) : PW Γ M pc l (a1 :: st) h bc bs Q := pc_S (As := [a1]) hdg hm rfl rfl hR hst hp
theorem pc_V2 (hdg : decode (mcode M) pc = .ok (.invokevirtual idx, 3)) (hm : pmV M.1.cls idx M' 2) (hci : (vwCl[ci]?).map (fun q => q.1) = some M'.1.cls) (he : shp[b]? = some (.inr (ci, fl))) (hR : mfr M' + 1 ≤ mfr M ∧ 8 + (mxl M' + 11) + mlo M' ≤ mlo M) (hst : (st.map fun v => v.category).sum ≤ 8)
    (hp : PM Γ M' [.ref b, a1, a2] (HS F A rf lo X) 0 0 (fun r h' => PW Γ M (pc + 3) l (r.toList ++ st) h' bc bs Q)) : PW Γ M pc l (a2 :: a1 :: .ref b :: st) (HS F A rf lo X) bc bs Q := pc_V (As := [a1, a2]) hdg hm rfl rfl hci (HS_get he) hR hst hp
theorem pc_S2 {h : PH} (hdg : decode (mcode M) pc = .ok (.invokestatic idx, 3)) (hm : pmS M.1.cls idx M' 2) (hR : mfr M' + 1 ≤ mfr M ∧ 8 + (mxl M' + 11) + mlo M' ≤ mlo M) (hst : (st.map fun v => v.category).sum ≤ 8)
    (hp : PM Γ M' [a1, a2] h 0 0 (fun r h' => PW Γ M (pc + 3) l (r.toList ++ st) h' bc bs Q)) : PW Γ M pc l (a2 :: a1 :: st) h bc bs Q := pc_S (As := [a1, a2]) hdg hm rfl rfl hR hst hp
theorem pc_V3 (hdg : decode (mcode M) pc = .ok (.invokevirtual idx, 3)) (hm : pmV M.1.cls idx M' 3) (hci : (vwCl[ci]?).map (fun q => q.1) = some M'.1.cls) (he : shp[b]? = some (.inr (ci, fl))) (hR : mfr M' + 1 ≤ mfr M ∧ 8 + (mxl M' + 11) + mlo M' ≤ mlo M) (hst : (st.map fun v => v.category).sum ≤ 8)
    (hp : PM Γ M' [.ref b, a1, a2, a3] (HS F A rf lo X) 0 0 (fun r h' => PW Γ M (pc + 3) l (r.toList ++ st) h' bc bs Q)) : PW Γ M pc l (a3 :: a2 :: a1 :: .ref b :: st) (HS F A rf lo X) bc bs Q := pc_V (As := [a1, a2, a3]) hdg hm rfl rfl hci (HS_get he) hR hst hp
theorem pc_S3 {h : PH} (hdg : decode (mcode M) pc = .ok (.invokestatic idx, 3)) (hm : pmS M.1.cls idx M' 3) (hR : mfr M' + 1 ≤ mfr M ∧ 8 + (mxl M' + 11) + mlo M' ≤ mlo M) (hst : (st.map fun v => v.category).sum ≤ 8)
    (hp : PM Γ M' [a1, a2, a3] h 0 0 (fun r h' => PW Γ M (pc + 3) l (r.toList ++ st) h' bc bs Q)) : PW Γ M pc l (a3 :: a2 :: a1 :: st) h bc bs Q := pc_S (As := [a1, a2, a3]) hdg hm rfl rfl hR hst hp
theorem pc_V4 (hdg : decode (mcode M) pc = .ok (.invokevirtual idx, 3)) (hm : pmV M.1.cls idx M' 4) (hci : (vwCl[ci]?).map (fun q => q.1) = some M'.1.cls) (he : shp[b]? = some (.inr (ci, fl))) (hR : mfr M' + 1 ≤ mfr M ∧ 8 + (mxl M' + 11) + mlo M' ≤ mlo M) (hst : (st.map fun v => v.category).sum ≤ 8)
    (hp : PM Γ M' [.ref b, a1, a2, a3, a4] (HS F A rf lo X) 0 0 (fun r h' => PW Γ M (pc + 3) l (r.toList ++ st) h' bc bs Q)) : PW Γ M pc l (a4 :: a3 :: a2 :: a1 :: .ref b :: st) (HS F A rf lo X) bc bs Q := pc_V (As := [a1, a2, a3, a4]) hdg hm rfl rfl hci (HS_get he) hR hst hp
theorem pc_S4 {h : PH} (hdg : decode (mcode M) pc = .ok (.invokestatic idx, 3)) (hm : pmS M.1.cls idx M' 4) (hR : mfr M' + 1 ≤ mfr M ∧ 8 + (mxl M' + 11) + mlo M' ≤ mlo M) (hst : (st.map fun v => v.category).sum ≤ 8)
    (hp : PM Γ M' [a1, a2, a3, a4] h 0 0 (fun r h' => PW Γ M (pc + 3) l (r.toList ++ st) h' bc bs Q)) : PW Γ M pc l (a4 :: a3 :: a2 :: a1 :: st) h bc bs Q := pc_S (As := [a1, a2, a3, a4]) hdg hm rfl rfl hR hst hp
end
