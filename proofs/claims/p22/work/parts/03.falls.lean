section
/-! the law's first steps: a new object, a new reference; there the judgement may stop -/
abbrev mL_law : MD := (yL_law, cL_law, 8, some .boolean, 10, 342)
section
variable {Γ : Nat × (Nat → Int32)} {M : MD} {pc : Nat} {l st : List Value} {h : PH} {bc bs bc' bs' : Nat} {Q : Option Value → PH → Prop}
theorem pw_weak (h1 : bc ≤ bc') (h2 : bs ≤ bs') (k : PW Γ M pc l st h bc bs Q) : PW Γ M pc l st h bc' bs' Q := by
  intro p lc e R s m args below meth c D Y σ base H locs cells slots ls Z C hP hS hL hc hs fin
  exact k p lc e R s m args below meth c D Y σ base H locs cells slots ls Z C hP hS hL (by omega) (by omega) (fun r h' H' locs' cells' slots' ls' pc' a1 a2 a3 a4 a5 a6 => fin r h' H' locs' cells' slots' ls' pc' a1 a2 a3 (by omega) (by omega) a6)
theorem pw_stop (hm : mfr M = 10) (k : Q none h) : PW Γ M 16 l [] h bc bs Q := by
  intro p lc e R s m args below meth c D Y σ base H locs cells slots ls Z C hP hS hL hc hs fin
  exact fin none h H locs cells slots ls 16 k hP hS (by omega) (by omega) (Or.inr ⟨hm, rfl⟩)
def kc10 : PH := [.inr (10, [.ref 1, .ref 3, .ref 5, .ref 7, .ref 9, .ref 11, .ref 15, .ref 17, .ref 34, .ref 53, .ref 55, .ref 56, .int 0, .int (-3)]), .inr (6, [.ref 2, .int 0]), .inl (.int, 300, .inl (fun _ => 0)), .inr (6, [.ref 4, .int 0]), .inl (.int, 1024, .inl (fun _ => 0)), .inr (6, [.ref 6, .int 0]), .inl (.int, 1024, .inl (fun _ => 0)), .inr (6, [.ref 8, .int 0]), .inl (.int, 300, .inl (fun _ => 0)), .inr (6, [.ref 10, .int 0]), .inl (.int, 300, .inl (fun _ => 0)), .inr (1, [.ref 12, .ref 13, .int 0, .ref 14, .int 1]), .inl (.int, 4, .inl (fun _ => 0)), .inl (.int, 4, .inl (fun _ => 0)), .inl (.int, 5, .inl (fun _ => 0)), .inr (2, [.ref 16]), .inl (.int, 256, .inl (fun _ => 0)), .inr (3, [.ref 18, .ref 19, .ref 20, .ref 21, .ref 22, .ref 23, .ref 28, .int 0, .int 0]), .inl (.int, 256, .inl (fun _ => 0)), .inl (.int, 256, .inl (fun _ => 0)), .inl (.int, 256, .inl (fun _ => 0)), .inl (.int, 300, .inl (fun _ => 0)), .inr (0, [.int 0, .int 0]), .inr (8, [.ref 24, .ref 25, .ref 26, .ref 27, .int 0, .int 0, .int 0]), .inl (.int, 512, .inl (fun _ => 0)), .inl (.int, 512, .inl (fun _ => 0)), .inl (.int, 512, .inl (fun _ => 0)), .inl (.int, 256, .inl (fun _ => 0)), .inr (4, [.ref 29, .ref 30, .ref 31, .ref 32, .ref 33, .int 0]), .inl (.int, 256, .inl (fun _ => 0)), .inl (.int, 256, .inl (fun _ => 0)), .inl (.int, 256, .inl (fun _ => 0)), .inl (.int, 16, .inl (fun _ => 0)), .inl (.int, 17, .inl (fun _ => 0)), .inr (9, [.ref 35, .ref 38, .ref 39, .ref 40, .ref 41, .ref 47, .ref 49, .ref 51, .int 0, .int 0, .int 0]), .inr (5, [.ref 36, .int 0, .int 0, .int 0, .int 0, .int 0]), .inr (6, [.ref 37, .int 0]), .inl (.int, 0, .inl (fun _ => 0)), .inl (.int, 2, .inl (fun _ => 0)), .inl (.int, 2, .inl (fun _ => 0)), .inl (.int, 256, .inl (fun _ => 0)), .inr (4, [.ref 42, .ref 43, .ref 44, .ref 45, .ref 46, .int 0]), .inl (.int, 256, .inl (fun _ => 0)), .inl (.int, 256, .inl (fun _ => 0)), .inl (.int, 256, .inl (fun _ => 0)), .inl (.int, 16, .inl (fun _ => 0)), .inl (.int, 17, .inl (fun _ => 0)), .inr (2, [.ref 48]), .inl (.int, 256, .inl (fun _ => 0)), .inr (6, [.ref 50, .int 0]), .inl (.int, 300, .inl (fun _ => 0)), .inr (6, [.ref 52, .int 0]), .inl (.int, 300, .inl (fun _ => 0)), .inr (7, [.ref 54]), .inl (.int, 256, .inl (fun _ => 0)), .inl (.int, 6, .inl (fun _ => 0)), .inl (.int, 64, .inl (cpn (fun _ => -3) (fun _ => 0) 64))]
def kc11 : PH := [.inr (11, [.int 0, .int 0, .ref 58, .int 0, .ref 59, .int 0, .ref 60, .ref 61, .int 0, .ref 62, .int 0, .int 0, .int 0, .ref 63, .ref 64, .int 0, .ref 65, .int 0, .ref 66, .ref 67, .ref 68, .ref 69, .ref 70, .ref 71, .int 0, .ref 72, .ref 73, .int 0, .int (-3), .int 0, .int 0, .int 0, .int 0, .int 0, .int 0]), .inl (.int, 300, .inl (fun _ => 0)), .inl (.int, 1400, .inl (fun _ => 0)), .inl (.int, 4, .inl (fun _ => 0)), .inl (.int, 4, .inl (fun _ => 0)), .inl (.int, 4, .inl (fun _ => 0)), .inl (.int, 300, .inl (fun _ => 0)), .inl (.int, 300, .inl (fun _ => 0)), .inl (.int, 1400, .inl (fun _ => 0)), .inl (.int, 256, .inl (fun _ => 0)), .inl (.int, 256, .inl (fun _ => 0)), .inl (.int, 256, .inl (fun _ => 0)), .inl (.int, 512, .inl (fun _ => 0)), .inl (.int, 512, .inl (fun _ => 0)), .inl (.int, 256, .inl (fun _ => 0)), .inl (.int, 6, .inl (fun _ => 0)), .inl (.int, 64, .inl (cpn (fun _ => -3) (fun _ => 0) 64))]
theorem k10 : PM Γ mX10_init [.ref 0] [.inr (10, zL_8)] 56 9192 (fun r h' => r = none ∧ h' = kc10) := k_X10_init [] 0 rfl
theorem k11 : PM Γ mX11_init [.ref 57] (kc10 ++ [.inr (11, zL_16)]) 16 5830 (fun r h' => r = none ∧ h' = kc10 ++ kc11) := k_X11_init kc10 57 rfl
set_option maxRecDepth 20000 in
theorem law_stop (hQ : Q none (kc10 ++ kc11)) : PW Γ mL_law 0 [.retAddr 4, .float 0, .float 0, .float 0, .float 0, .float 0, .float 0, .float 0] [] [] (16 + 1 + 56 + 1) (5830 + 35 + 9192 + 14) Q := by
  refine pw_new dL_law_0 kL_8 ?_
  refine pw_dup rfl dL_law_3 ?_
  refine pw_callI (As := []) (b := 0) (mc := 56) (ms := 9192) dL_law_4 lL_15 rfl (by decide) (by decide) ⟨Nat.le_add_left _ _, Nat.le_add_left _ _⟩ k10 ?_
  intro r h' hr
  rw [hr.1, hr.2]
  refine pw_weak (bc := 16 + 1) (bs := 5830 + 35) (by omega) (by omega) ?_
  refine ps_astore_n (l' := [_, _, _, _, _, _, _, _]) dL_law_7 (by decide) rfl rfl ?_
  refine pw_new dL_law_8 kL_16 ?_
  rw [show kc10.length = 57 from rfl]
  refine pw_dup rfl dL_law_11 ?_
  refine pw_callI (As := []) (b := 57) (mc := 16) (ms := 5830) dL_law_12 lL_18 rfl (by decide) (by decide) ⟨Nat.le_refl _, Nat.le_refl _⟩ k11 ?_
  intro r2 h2 hr2
  rw [hr2.1, hr2.2]
  refine ps_astore_n (l' := [_, _, _, _, _, _, _, _]) dL_law_15 (by decide) rfl rfl ?_
  exact pw_stop rfl hQ
end
end
section
/-! the law's start: its world, out of the premises; every script in a room that is large enough -/
theorem ev_of {args : Array Value} {s : State} {tm : Term} {x : Int32} (h : (Cond.eq tm (.int x)).before args s = true) : tm.eval args s none [] s = some (.int x) := by
  obtain ⟨y, h1, h2⟩ := Cond.eq_one (show (Cond.eq tm (.int x)).holds args s none s [] = true from h)
  have h3 : some (Value.int x) = some y := h2
  rw [h1, h3]
theorem tab_of {args : Array Value} {s : State} {tm : Term} {v0 v1 v2 v3 v4 : Int32} {A : Nat → Prop} (ha : (Cond.arrayOf tm .int).before args s = true) (hl : (Cond.eq (.length tm) (.int 5)).before args s = true) (h0 : (Cond.eq (.elem tm (.int 0)) (.int v0)).before args s = true) (h1 : (Cond.eq (.elem tm (.int 1)) (.int v1)).before args s = true) (h2 : (Cond.eq (.elem tm (.int 2)) (.int v2)).before args s = true) (h3 : (Cond.eq (.elem tm (.int 3)) (.int v3)).before args s = true) (h4 : (Cond.eq (.elem tm (.int 4)) (.int v4)).before args s = true) (hA : ∀ a : Nat, a < s.heap.size → ¬ A a) :
    ∃ t : Nat, tm.eval args s none [] s = some (.ref t) ∧ va_T .int t 5 (fun k => .int (([v0, v1, v2, v3, v4] : List Int32).getD k 0)) A s s.heap := by
  refine va_Tof (by decide) ha (ev_of hl) (fun j hj => ?_) hA
  rcases (show j = 0 ∨ j = 1 ∨ j = 2 ∨ j = 3 ∨ j = 4 by omega) with rfl | rfl | rfl | rfl | rfl
  · exact ev_of h0
  · exact ev_of h1
  · exact ev_of h2
  · exact ev_of h3
  · exact ev_of h4
set_option maxRecDepth 20000 in
theorem st_w : Cond.laysStatic "ChainChoice" "FILTER_STEPS" "[I" ∈ lw_tbl ∧ Cond.laysStatic "ChainChoice" "FILTER_MEMORY" "[I" ∈ lw_tbl ∧ Cond.laysStatic "ChainChoice" "PACKER_STEPS" "[I" ∈ lw_tbl ∧ Cond.laysStatic "ChainChoice" "PACKER_MEMORY" "[I" ∈ lw_tbl ∧ Cond.initialized "ChainChoice" ∈ lw_tbl ∧ Cond.arrayClass .int ∈ lw_tbl ∧ Cond.arrayClass .long ∈ lw_tbl := by decide +kernel
set_option maxRecDepth 20000 in
theorem st_i : Cond.instantiable RX0 2 ∈ lw_tbl ∧ Cond.instantiable RX1 5 ∈ lw_tbl ∧ Cond.instantiable RX2 1 ∈ lw_tbl ∧ Cond.instantiable RX3 9 ∈ lw_tbl ∧ Cond.instantiable RX4 6 ∈ lw_tbl ∧ Cond.instantiable RX5 6 ∈ lw_tbl ∧ Cond.instantiable RX6 2 ∈ lw_tbl ∧ Cond.instantiable RX7 1 ∈ lw_tbl ∧ Cond.instantiable RX8 7 ∈ lw_tbl ∧ Cond.instantiable RX9 11 ∈ lw_tbl ∧ Cond.instantiable RX10 14 ∈ lw_tbl ∧ Cond.instantiable RX11 35 ∈ lw_tbl := by decide +kernel
theorem st_K {args : Array Value} {s : State} (hts : ∀ w ∈ lw_tbl, w.before args s = true) : ∃ (D : va_G) (Y : FieldType → ClassId), va_K D vwCl [(Y .int, .int), (Y .long, .long)] s := by
  have hg : ∀ w ∈ lw_good, w.before args s = true := fun w hw => hts w (lw_good_in w hw)
  obtain ⟨c0, i0, k0⟩ := u_known (C := RX0) (T := TX0) (N := 2) hg i_X0 (hts _ st_i.1)
  obtain ⟨c1, i1, k1⟩ := u_known (C := RX1) (T := TX1) (N := 5) hg i_X1 (hts _ st_i.2.1)
  obtain ⟨c2, i2, k2⟩ := u_known (C := RX2) (T := TX2) (N := 1) hg i_X2 (hts _ st_i.2.2.1)
  obtain ⟨c3, i3, k3⟩ := u_known (C := RX3) (T := TX3) (N := 9) hg i_X3 (hts _ st_i.2.2.2.1)
  obtain ⟨c4, i4, k4⟩ := u_known (C := RX4) (T := TX4) (N := 6) hg i_X4 (hts _ st_i.2.2.2.2.1)
  obtain ⟨c5, i5, k5⟩ := u_known (C := RX5) (T := TX5) (N := 6) hg i_X5 (hts _ st_i.2.2.2.2.2.1)
  obtain ⟨c6, i6, k6⟩ := u_known (C := RX6) (T := TX6) (N := 2) hg i_X6 (hts _ st_i.2.2.2.2.2.2.1)
  obtain ⟨c7, i7, k7⟩ := u_known (C := RX7) (T := TX7) (N := 1) hg i_X7 (hts _ st_i.2.2.2.2.2.2.2.1)
  obtain ⟨c8, i8, k8⟩ := u_known (C := RX8) (T := TX8) (N := 7) hg i_X8 (hts _ st_i.2.2.2.2.2.2.2.2.1)
  obtain ⟨c9, i9, k9⟩ := u_known (C := RX9) (T := TX9) (N := 11) hg i_X9 (hts _ st_i.2.2.2.2.2.2.2.2.2.1)
  obtain ⟨c10, i10, k10⟩ := u_known (C := RX10) (T := TX10) (N := 14) hg i_X10 (hts _ st_i.2.2.2.2.2.2.2.2.2.2.1)
  obtain ⟨c11, i11, k11⟩ := u_known (C := RX11) (T := TX11) (N := 35) hg i_X11 (hts _ st_i.2.2.2.2.2.2.2.2.2.2.2)
  obtain ⟨cI, kI, pI, nI', hI, dI⟩ := Cond.arrayClass_spec (hts _ st_w.2.2.2.2.2.1)
  obtain ⟨cJ, kJ, pJ, nJ, hJ, dJ⟩ := Cond.arrayClass_spec (hts _ st_w.2.2.2.2.2.2)
  refine ⟨(fun k => [c0, c1, c2, c3, c4, c5, c6, c7, c8, c9, c10, c11].getD k c0, fun k => [i0, i1, i2, i3, i4, i5, i6, i7, i8, i9, i10, i11].getD k i0), fun ty => if ty = .int then cI else cJ, fun k q hq => ?_, fun k q hq => ?_⟩
  · rcases (show k = 0 ∨ k = 1 ∨ k = 2 ∨ k = 3 ∨ k = 4 ∨ k = 5 ∨ k = 6 ∨ k = 7 ∨ k = 8 ∨ k = 9 ∨ k = 10 ∨ k = 11 ∨ 12 ≤ k by omega) with rfl | rfl | rfl | rfl | rfl | rfl | rfl | rfl | rfl | rfl | rfl | rfl | h12
    · cases hq; exact k0
    · cases hq; exact k1
    · cases hq; exact k2
    · cases hq; exact k3
    · cases hq; exact k4
    · cases hq; exact k5
    · cases hq; exact k6
    · cases hq; exact k7
    · cases hq; exact k8
    · cases hq; exact k9
    · cases hq; exact k10
    · cases hq; exact k11
    · rw [List.getElem?_eq_none (by simpa using h12)] at hq
      cases hq
  · rcases (show k = 0 ∨ k = 1 ∨ 2 ≤ k by omega) with rfl | rfl | h2
    · cases hq
      exact ⟨fun n z => ⟨fun k h => (by cases h), kI, hI, pI, dI⟩, nI'⟩
    · cases hq
      exact ⟨fun n z => ⟨fun k h => (by cases h), kJ, hJ, pJ, dJ⟩, nJ⟩
    · rw [List.getElem?_eq_none (by simpa using h2)] at hq
      cases hq
theorem st_env {args : Array Value} {s : State} {b L : Nat} {xs : Nat → Int32} (hts : ∀ w ∈ lw_tbl, w.before args s = true) (hgv : (Jvm.Cond.and given_1 narrow_1).before args s = true) (hX : va_X b L xs s s.heap) (hbl : b < s.heap.size) (hL : L ≤ 256) : ∃ (D : va_G) (Y : FieldType → ClassId) (σ : Nat → Nat), σ 4 = b ∧ penv (L, xs) s D Y σ s.heap.size := by
  obtain ⟨D, Y, hK⟩ := st_K hts
  have hn := flat_of_before _ hgv
  have hA : ∀ a : Nat, a < s.heap.size → ¬ pA s.heap.size a := fun a h1 h2 => absurd h1 (Nat.not_lt.mpr h2)
  obtain ⟨t0, e0, T0⟩ := tab_of (tm := .static "ChainChoice" "FILTER_STEPS" "[I") (v0 := 0) (v1 := 1) (v2 := 16) (v3 := 1) (v4 := 1) (hn _ (by decide +kernel)) (hn _ (by decide +kernel)) (hn _ (by decide +kernel)) (hn _ (by decide +kernel)) (hn _ (by decide +kernel)) (hn _ (by decide +kernel)) (hn _ (by decide +kernel)) hA
  obtain ⟨t1, e1, T1⟩ := tab_of (tm := .static "ChainChoice" "FILTER_MEMORY" "[I") (v0 := 0) (v1 := 0) (v2 := 256) (v3 := 0) (v4 := 0) (hn _ (by decide +kernel)) (hn _ (by decide +kernel)) (hn _ (by decide +kernel)) (hn _ (by decide +kernel)) (hn _ (by decide +kernel)) (hn _ (by decide +kernel)) (hn _ (by decide +kernel)) hA
  obtain ⟨t2, e2, T2⟩ := tab_of (tm := .static "ChainChoice" "PACKER_STEPS" "[I") (v0 := 1) (v1 := 2) (v2 := 2) (v3 := 4) (v4 := 64) (hn _ (by decide +kernel)) (hn _ (by decide +kernel)) (hn _ (by decide +kernel)) (hn _ (by decide +kernel)) (hn _ (by decide +kernel)) (hn _ (by decide +kernel)) (hn _ (by decide +kernel)) hA
  obtain ⟨t3, e3, T3⟩ := tab_of (tm := .static "ChainChoice" "PACKER_MEMORY" "[I") (v0 := 0) (v1 := 0) (v2 := 256) (v3 := 1024) (v4 := 512) (hn _ (by decide +kernel)) (hn _ (by decide +kernel)) (hn _ (by decide +kernel)) (hn _ (by decide +kernel)) (hn _ (by decide +kernel)) (hn _ (by decide +kernel)) (hn _ (by decide +kernel)) hA
  obtain ⟨w1, w2, w3, w4, w5, -⟩ := st_w
  refine ⟨D, Y, fun j => [t0, t1, t2, t3].getD j b, rfl, ⟨Nat.le_refl _, trivial⟩, hK, fun w hw => ?_, fun j hj => ?_, fun j hj => ?_⟩
  · have h1 := List.mem_filter.mp hw
    have h2 := h1.2
    exact va_tabs (by cases w <;> first | rfl | exact absurd h2 Bool.false_ne_true) rfl (hts w h1.1)
  · rcases (show j = 0 ∨ j = 1 ∨ j = 2 ∨ j = 3 by omega) with rfl | rfl | rfl | rfl
    · exact va_Zof (hts _ w1) (hts _ w5) e0 hA
    · exact va_Zof (hts _ w2) (hts _ w5) e1 hA
    · exact va_Zof (hts _ w3) (hts _ w5) e2 hA
    · exact va_Zof (hts _ w4) (hts _ w5) e3 hA
  · rcases (show j = 0 ∨ j = 1 ∨ j = 2 ∨ j = 3 ∨ j = 4 by omega) with rfl | rfl | rfl | rfl | rfl
    · exact T0
    · exact T1
    · exact T2
    · exact T3
    · obtain ⟨scr, h1, h2, h3, h4, h5⟩ := hX
      exact ⟨scr, h1, h2, h3, by show L ≤ _; omega, by rw [h4]; rfl, h5, hA b hbl⟩
end
section
set_option maxRecDepth 20000 in
/-- from the entry, whatever the script, the law comes to pc 16 with a new object and a new reference made -/
theorem stop_R {p : Program} {e : Env} {s : State} {m : MethodId} {below : List Frame} {meth : Method} {c : Code} {l : Launch} {b L : Nat} {xs : Nat → Int32} {R : Room} {Z : State → Prop} (hl : l.stackTraces = false) (hL : L ≤ 256) (hRf : 10 ≤ R.frames) (hRl : 342 ≤ R.locals) (hRc : 74 ≤ R.cells) (hRs : 15071 ≤ R.slots)
    (hx : p.tables.exec = Jvm.exec) (hb : c.code = code) (hr : meth.sig.returnType = some .boolean) (hml : c.maxLocals = 8) (hown : s.vm.findClass RL = some m.cls) (hts : ∀ w ∈ lw_tbl, w.before #[Value.ref b] s = true) (hX : va_X b L xs s s.heap) (hbl : b < s.heap.size) (hlocks : meth.locks = false) (hnm : meth.name = "law") (hgv : (Jvm.Cond.and given_1 narrow_1).before #[Value.ref b] s = true)
    (fin : ∀ (H' : Heap) (locs' : List Loc) (cells' slots' : Nat) (ls' : Array Slot), (∃ D Y σ, pwd D Y σ s.heap.size (kc10 ++ kc11) H') → W p l e R s m #[Value.ref b] below meth c H' locs' cells' slots' Z (F0 m 16 ls' [])) :
    W p l e R s m #[Value.ref b] below meth c s.heap [] 0 0 Z (entryFrame m ([Value.ref b] : List Value).toArray 8) := by
  obtain ⟨D, Y, σ, hσ, hE⟩ := st_env hts hgv hX hbl hL
  have hl8 := lv_entry ([Value.ref b]) (n := 8) (Nat.le_of_ble_eq_true rfl)
  rw [lg_entry_eq]
  generalize (lg_sl ([Value.ref b]) ++ List.replicate (8 - (lg_sl ([Value.ref b])).length) Slot.unset).toArray = ls at hl8 ⊢
  have hl0 : lv_has ls 8 [(0, .ref b)] := hl8
  have hpl : plv σ s.heap.size ls 8 [.retAddr 4, .float 0, .float 0, .float 0, .float 0, .float 0, .float 0, .float 0] := by
    refine ⟨hl0.1, hl0.2.1, fun i v hv hf => ?_⟩
    rcases (show i = 0 ∨ 0 < i by omega) with rfl | h1
    · cases hv
      show ls[0]? = some (.val (.ref (σ 4)))
      rw [hσ]
      exact hl0.2.2 (0, .ref b) List.mem_cons_self
    · exfalso
      rcases (show i = 1 ∨ i = 2 ∨ i = 3 ∨ i = 4 ∨ i = 5 ∨ i = 6 ∨ i = 7 ∨ 8 ≤ i by omega) with rfl | rfl | rfl | rfl | rfl | rfl | rfl | h8
      · cases hv; exact hf rfl
      · cases hv; exact hf rfl
      · cases hv; exact hf rfl
      · cases hv; exact hf rfl
      · cases hv; exact hf rfl
      · cases hv; exact hf rfl
      · cases hv; exact hf rfl
      · rw [List.getElem?_eq_none (by simpa using h8)] at hv
        cases hv
  have hPW : PW (L, xs) mL_law 0 [.retAddr 4, .float 0, .float 0, .float 0, .float 0, .float 0, .float 0, .float 0] [] [] 74 15071 (fun r h' => r = none ∧ h' = kc10 ++ kc11) := law_stop (Γ := (L, xs)) ⟨rfl, rfl⟩
  have hP0 : pwd D Y σ s.heap.size [] s.heap := ⟨rfl, fun i x hx => by cases hx⟩
  refine hPW p ⟨l, hl⟩ e R s m #[Value.ref b] below meth c D Y σ s.heap.size s.heap [] 0 0 ls Z ⟨hx, hb, hr, hml, hown, fun w hw => hts w (lw_good_in w hw), hlocks, hnm, hRf, hRl, hE⟩ hP0 va_S.rf hpl (by rw [Nat.zero_add]; exact hRc) (by rw [Nat.zero_add]; exact hRs) ?_
  intro r h' H' locs' cells' slots' ls' pc' hQ hP' hS' hc' hs' hret
  obtain ⟨hr1, hh⟩ := hQ
  rw [hh] at hP'
  subst hr1
  rcases hret with h9 | h9
  · exact absurd h9.2 (fun z => by cases z)
  · have h16 : pc' = 16 := h9.2
    subst h16
    exact fin H' locs' cells' slots' ls' ⟨D, Y, σ, hP'⟩
/-! what is made by then: more slots than the statement's room has -/
def asz (c : PE) : Nat := match c with
  | .inl (_, n, .inl _) => n
  | _ => 0
set_option maxRecDepth 20000 in
theorem asz_sum : ((kc10 ++ kc11).map asz).sum = 14951 := rfl
theorem sum_le9 : ∀ (ns : List Nat) (cs : List Cell), (∀ (i n : Nat), ns[i]? = some n → ∃ c, cs[i]? = some c ∧ n ≤ c.slots.size) → ns.sum ≤ (cs.map (·.slots.size)).sum
  | [], cs => fun _ => by rw [List.sum_nil]; exact Nat.zero_le _
  | n :: ns, cs => fun h => by
    obtain ⟨c, hc, hn⟩ := h 0 n rfl
    cases cs with
    | nil => cases hc
    | cons c' cs =>
      have e : c' = c := Option.some.inj hc
      subst e
      have ih := sum_le9 ns cs (fun i k hk => by
        obtain ⟨c2, h2, h3⟩ := h (i + 1) k hk
        exact ⟨c2, h2, h3⟩)
      rw [List.sum_cons, List.map_cons, List.sum_cons]
      omega
theorem asz_le {D : va_G} {Y : FieldType → ClassId} {σ : Nat → Nat} {base i : Nat} {w : PE} {H : Heap} (hp : pat D Y σ base i w H) (hlt : base + i < H.size) : ∃ c, H[base + i]? = some c ∧ asz w ≤ c.slots.size := by
  have h0 : ∃ c, H[base + i]? = some c ∧ 0 ≤ c.slots.size := ⟨H[base + i], Array.getElem?_eq_getElem hlt, Nat.zero_le _⟩
  rcases w with ⟨ty, k, f⟩ | o
  · rcases f with f | f
    · have hp' : H[base + i]? = some (vp_cell (Y ty) (k, .inl f)) := hp
      refine ⟨_, hp', ?_⟩
      rw [vp_cell_i, arrV_size]
      exact Nat.le_refl _
    · exact h0
  · exact h0
theorem big_stop {D : va_G} {Y : FieldType → ClassId} {σ : Nat → Nat} {base : Nat} {H : Heap} (hP : pwd D Y σ base (kc10 ++ kc11) H) : 12554 < ((H.toList.drop base).map (·.slots.size)).sum := by
  have key : ((kc10 ++ kc11).map asz).sum ≤ ((H.toList.drop base).map (·.slots.size)).sum := by
    refine sum_le9 _ _ (fun i n hi => ?_)
    rw [List.getElem?_map] at hi
    cases hs : (kc10 ++ kc11)[i]? with
    | none => rw [hs] at hi; cases hi
    | some w =>
      rw [hs] at hi
      have hn : asz w = n := Option.some.inj hi
      have hlt : base + i < H.size := by
        have h1 := (List.getElem?_eq_some_iff.mp hs).1
        rw [hP.1]
        omega
      rw [List.getElem?_drop, Array.getElem?_toList, ← hn]
      exact asz_le (hP.2 i w hs) hlt
  rw [asz_sum] at key
  omega
def room_B : Room := { frames := 10, cells := 74, slots := 15071, locals := 342 }
theorem lw_stop {p : Program} {l : Launch} {e : Env} {s : State} {m : MethodId} {below : List Frame} {meth : Method} {c : Code} {b : Nat} {H : Heap} {locs : List Loc} {ls : Array Slot} {cells slots : Nat} (hbig : 12554 < ((H.toList.drop s.heap.size).map (·.slots.size)).sum) : W p l e room_B s m #[Value.ref b] below meth c H locs cells slots (fun t => s.slotsUsed + 12554 < t.slotsUsed) (F0 m 16 ls []) := by
  intro T hT X
  refine ⟨_, Steps.refl _, ?_⟩
  have h4 : T.slotsUsed = s.slotsUsed + ((T.heap.toList.drop s.heap.size).map (·.slots.size)).sum := X.same.2.2.2.1
  rw [← hT] at hbig
  show s.slotsUsed + 12554 < T.slotsUsed
  omega
/-- the run from s ends, and within the room -/
def ends_in (p : Program) (e : Env) (below : List Frame) (s : State) : Prop := ∃ n o, (∀ k, k < n → Within (stepsAlone p.tables e k s) below) ∧ Ended (stepsAlone p.tables e n s) below o ∧ (stepsAlone p.tables e n s).slotsUsed ≤ s.slotsUsed + 12554
def lw_P (b : Addr) (xs : List Int32) (args : Array Value) (s : State) : Prop := args = #[.ref b] ∧ s.IntsAt b xs ∧ xs.length ≤ 256 ∧ (Jvm.Cond.and given_1 narrow_1).before args s = true
set_option maxHeartbeats 4000000 in
theorem lw_no (l : Launch) (hl : l.stackTraces = false) (b : Addr) (xs : List Int32) : MetFree l x (headSpec (Jvm.Cond.code x code maxLocals ret :: tables_1) room_B) (lw_P b xs) (fun p e below s _ => ends_in p e below s) (fun _ _ _ _ => False) := by
  refine MetFree.of_bodyR (code := code) (maxLocals := maxLocals) (ret := ret) (by decide) ?_ ?_
  · intro args s m h hn
    obtain ⟨meth, c, h1, h2, h3, h4, h5, h6, -, -⟩ := Cond.code_spec hn (atoms_spec (ws := Jvm.Cond.code x code maxLocals ret :: tables_1) h _ List.mem_cons_self)
    exact ⟨meth, c, h1, h2, h3, h4, h5, h6⟩
  · intro p e s m args below meth c s₁ B hml0 hP hK hS0
    obtain ⟨rfl, hx, hbd, hgv⟩ := hP
    obtain ⟨scr, harrAt, hlist, hof, hsmall⟩ := hx
    obtain ⟨hcb, hkn, -, -⟩ := State.arrayAt?_spec harrAt
    have hown : s.vm.findClass RL = some m.cls := findClass_of_methodNamed B.named
    have hts0 : ∀ c ∈ (Jvm.Cond.code x code maxLocals ret :: tables_1), c.before #[Value.ref b] s = true := atoms_spec (ws := Jvm.Cond.code x code maxLocals ret :: tables_1) B.pre
    have hts : ∀ w ∈ lw_tbl, w.before #[Value.ref b] s = true := k2_hts_sels lw_privs (fun w hw => hts0 w (List.mem_cons_of_mem _ hw)) lw_privs_ok
    have hml : c.maxLocals = 8 := B.maxLocals_eq (hts0 _ List.mem_cons_self)
    have X₀ : Stand p l e room_B s m #[Value.ref b] below meth c s₁ [] 0 0 := Stand.of_body B
    have hh0 : s₁.heap = s.heap := by rw [B.state]; rfl
    have hsz : scr.slots.size = xs.length := by rw [← Array.length_toList, hlist, List.length_map]
    have hval : ∀ j : Nat, j < xs.length → scr.slots[j]? = some (.int (xs.getD j 0)) := fun j hj => by
      rw [← Array.getElem?_toList, hlist]
      simp [hj]
    have hbl : b < s.heap.size := (Array.getElem?_eq_some_iff.mp hcb).1
    have hX : va_X b xs.length (fun j => xs.getD j 0) s s.heap := ⟨scr, hcb, hof, hkn, hsz, hval⟩
    have K : W p l e room_B s m #[Value.ref b] below meth c s₁.heap [] 0 0 (fun t => s.slotsUsed + 12554 < t.slotsUsed) (entryFrame m ([Value.ref b] : List Value).toArray 8) := by
      rw [hh0]
      refine stop_R hl (Nat.le_trans hbd (by decide)) (Nat.le_refl _) (Nat.le_refl _) (Nat.le_refl _) (Nat.le_refl _) B.exec B.bytes B.returns hml hown hts hX hbl B.notSynchronized (name_of_methodNamed B.named B.method).1 hgv ?_
      intro H' locs' cells' slots' ls' hw
      obtain ⟨D, Y, σ, hw⟩ := hw
      exact lw_stop (big_stop hw)
    obtain ⟨t, a1, b1⟩ := K s₁ rfl X₀
    obtain ⟨n, o, hw, he, hu⟩ := hK
    obtain ⟨k, hk, wk⟩ := hS0.trans a1
    exfalso
    rcases Nat.lt_or_ge n k with h | h
    · exact he.not_within (wk n h)
    · obtain ⟨j, rfl⟩ := Nat.exists_eq_add_of_le h
      have hg := (stepsAlone_heap_grows_add p.tables e k j s).2
      rw [hk] at hg
      omega
theorem lw_pre_spec {args : Array Value} {s : State} (h : (Jvm.Cond.and given_1 narrow_1).before args s = true) (hr : rest_1_c.before args s = true) : ∃ (b : Addr) (xs : List Int32), lw_P b xs args s := by
  have hs := flat_of_before _ h
  have hq := flat_of_before _ hr
  have hc : (Cond.count 1).before args s = true := hs _ (by decide +kernel)
  have harr : (Cond.arrayOf (.arg 0) .int).before args s = true := hs _ (by decide +kernel)
  have hle : (Cond.le (.length (.arg 0)) (.int 256)).before args s = true := hs _ (by decide +kernel)
  have hlen : (Cond.isInt (.length (.arg 0))).before args s = true := hq _ (by decide +kernel)
  have hall : (Cond.all (.arg 0) (.isInt (.elem (.arg 0) (.index 0)))).before args s = true := hq _ (by decide +kernel)
  obtain ⟨b, xs, hb, hx⟩ := State.ints_of_pre rfl harr hlen hall
  have hsm : xs.length < 2 ^ 31 := hx.choose_spec.2.2.2
  have hev : (Term.length (.arg 0)).eval args s none [] s = some (.int xs.length.toInt32) := hx.length_eval hb
  have hv := Cond.le_ints hev (show (Term.int 256).eval args s none [] s = some (.int 256) from rfl)
  have hd : xs.length.toInt32 ≤ 256 := by
    simpa [Cond.before, Cond.holds, hv] using hle
  have hN : xs.length ≤ 256 := (Int32.ofNat_le_ofNat hsm (by decide)).mp (show Int32.ofNat xs.length ≤ Int32.ofNat 256 from hd)
  exact ⟨b, xs, Cond.one_arg hc (show args[0]? = some (.ref b) from hb), hx, hN, h⟩
/-- wherever the premises hold and there is room for what the law makes at its start, the claim is false -/
theorem claim_falls {l : Launch} {p : Program} {e : Env} {s : State} {m : MethodId} {args : Array Value} {below : List Frame} (hfl : l.flags = flags0) (h : Jvm.D.AtStart classFile x code maxLocals ret World_1 tables_1 room_1 Calls_1 rest_1 Pre_1 l p e s m args below) (hbig : (headSpec (Jvm.Cond.code x code maxLocals ret :: tables_1) room_B).applies x e.platform s = true) : ¬ Claimed_1_1 := by
  intro hC
  obtain ⟨hLs, hW, ha, _, hc, hk, hf, hfit, hheap, happ, hcalls, hrest, hpre⟩ := h
  have hl : l.stackTraces = false := by unfold Launch.stackTraces; rw [hfl]; decide
  obtain ⟨n, o, h1, h2, h3, hpost⟩ := hC l hfl hLs hW p e ha hc hk s m args below hf hfit hheap happ ⟨hcalls, hrest, hpre⟩
  obtain ⟨b, xs, hP⟩ := lw_pre_spec hpre hrest
  have hu : (stepsAlone p.tables e n s).slotsUsed ≤ s.slotsUsed + 12554 := by
    have g1 : (stepsAlone p.tables e n s).slotsUsed = s.slotsUsed + (((stepsAlone p.tables e n s).heap.toList.drop s.heap.size).map (·.slots.size)).sum := hpost.2.2.2.2.2.2.1
    have g2 : (((stepsAlone p.tables e n s).heap.toList.drop s.heap.size).map (·.slots.size)).sum ≤ 12554 := hpost.2.2.2.2.2.2.2.1
    omega
  obtain ⟨_, _, _, _, _, hF⟩ := lw_no l hl b xs p e ha hc hk s m args below hf ((Spec.applies_iff_loose hf).mp hbig).1 hP ⟨n, o, h1, h3, hu⟩
  exact hF
end
