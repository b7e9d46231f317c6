/-! the law's start: its world, out of the premises; every script in a room that is large enough -/
theorem ev_of {args : Array Value} {s : State} {tm : Term} {x : Int32} (h : (Cond.eq tm (.int x)).before args s = true) : tm.eval args s none [] s = some (.int x) := by
  obtain ⟨y, h1, h2⟩ := Cond.eq_one (show (Cond.eq tm (.int x)).holds args s none s [] = true from h)
  have h3 : some (Value.int x) = some y := h2
  rw [h1, h3]
theorem tab_of {args : Array Value} {s : State} {tm : Term} {v0 v1 v2 v3 v4 : Int32} {A : Nat → Prop} (ha : (Cond.arrayOf tm .int).before args s = true) (hl : (Cond.eq (.length tm) (.int 5)).before args s = true) (h0 : (Cond.eq (.elem tm (.int 0)) (.int v0)).before args s = true) (h1 : (Cond.eq (.elem tm (.int 1)) (.int v1)).before args s = true) (h2 : (Cond.eq (.elem tm (.int 2)) (.int v2)).before args s = true) (h3 : (Cond.eq (.elem tm (.int 3)) (.int v3)).before args s = true) (h4 : (Cond.eq (.elem tm (.int 4)) (.int v4)).before args s = true) (hA : ∀ a : Nat, a < s.heap.size → ¬ A a) :
    ∃ t : Nat, tm.eval args s none [] s = some (.ref t) ∧ va_T .int t 5 (fun k => .int (([v0, v1, v2, v3, v4] : List Int32).getD k 0)) A s s.heap := by
  refine va_Tof (by decide) ha (ev_of hl) (fun j hj => ?_) hA
  rcases (show j = 0 ∨ j = 1 ∨ j = 2 ∨ j = 3 ∨ j = 4 by omega) with rfl | rfl | rfl | rfl | rfl
  · exact ev_of h0
  · exact ev_of h1
  · exact ev_of h2
  · exact ev_of h3
  · exact ev_of h4
set_option maxRecDepth 20000 in
theorem st_w : Cond.laysStatic "ChainChoice" "FILTER_STEPS" "[I" ∈ lw_tbl ∧ Cond.laysStatic "ChainChoice" "FILTER_MEMORY" "[I" ∈ lw_tbl ∧ Cond.laysStatic "ChainChoice" "PACKER_STEPS" "[I" ∈ lw_tbl ∧ Cond.laysStatic "ChainChoice" "PACKER_MEMORY" "[I" ∈ lw_tbl ∧ Cond.initialized "ChainChoice" ∈ lw_tbl ∧ Cond.laysStatic Bundle.tN "UNASSIGNED_STACK" Bundle.steD ∈ lw_tbl ∧ Cond.laysStatic Bundle.tN "SUPPRESSED_SENTINEL" Bundle.listD ∈ lw_tbl ∧ Cond.initialized Bundle.tN ∈ lw_tbl ∧ Cond.stringRef "ChainChoice" 183 "a share of 0" ∈ lw_tbl ∧ Cond.arrayClass .int ∈ lw_tbl ∧ Cond.arrayClass .long ∈ lw_tbl := by decide +kernel
set_option maxRecDepth 20000 in
theorem st_i : Cond.instantiable RX0 2 ∈ lw_tbl ∧ Cond.instantiable RX1 5 ∈ lw_tbl ∧ Cond.instantiable RX2 1 ∈ lw_tbl ∧ Cond.instantiable RX3 9 ∈ lw_tbl ∧ Cond.instantiable RX4 6 ∈ lw_tbl ∧ Cond.instantiable RX5 6 ∈ lw_tbl ∧ Cond.instantiable RX6 2 ∈ lw_tbl ∧ Cond.instantiable RX7 1 ∈ lw_tbl ∧ Cond.instantiable RX8 7 ∈ lw_tbl ∧ Cond.instantiable RX9 11 ∈ lw_tbl ∧ Cond.instantiable RX10 14 ∈ lw_tbl ∧ Cond.instantiable RX11 35 ∈ lw_tbl := by decide +kernel
theorem st_K {args : Array Value} {s : State} (hts : ∀ w ∈ lw_tbl, w.before args s = true) : ∃ (D : va_G) (Y : FieldType → ClassId), va_K D vwCl [(Y .int, .int), (Y .long, .long)] s := by
  have hg : ∀ w ∈ lw_good, w.before args s = true := fun w hw => hts w (lw_good_in w hw)
  obtain ⟨c0, i0, k0⟩ := u_known (C := RX0) (T := TX0) (N := 2) hg i_X0 (hts _ st_i.1)
  obtain ⟨c1, i1, k1⟩ := u_known (C := RX1) (T := TX1) (N := 5) hg i_X1 (hts _ st_i.2.1)
  obtain ⟨c2, i2, k2⟩ := u_known (C := RX2) (T := TX2) (N := 1) hg i_X2 (hts _ st_i.2.2.1)
  obtain ⟨c3, i3, k3⟩ := u_known (C := RX3) (T := TX3) (N := 9) hg i_X3 (hts _ st_i.2.2.2.1)
  obtain ⟨c4, i4, k4⟩ := u_known (C := RX4) (T := TX4) (N := 6) hg i_X4 (hts _ st_i.2.2.2.2.1)
  obtain ⟨c5, i5, k5⟩ := u_known (C := RX5) (T := TX5) (N := 6) hg i_X5 (hts _ st_i.2.2.2.2.2.1)
  obtain ⟨c6, i6, k6⟩ := u_known (C := RX6) (T := TX6) (N := 2) hg i_X6 (hts _ st_i.2.2.2.2.2.2.1)
  obtain ⟨c7, i7, k7⟩ := u_known (C := RX7) (T := TX7) (N := 1) hg i_X7 (hts _ st_i.2.2.2.2.2.2.2.1)
  obtain ⟨c8, i8, k8⟩ := u_known (C := RX8) (T := TX8) (N := 7) hg i_X8 (hts _ st_i.2.2.2.2.2.2.2.2.1)
  obtain ⟨c9, i9, k9⟩ := u_known (C := RX9) (T := TX9) (N := 11) hg i_X9 (hts _ st_i.2.2.2.2.2.2.2.2.2.1)
  obtain ⟨c10, i10, k10⟩ := u_known (C := RX10) (T := TX10) (N := 14) hg i_X10 (hts _ st_i.2.2.2.2.2.2.2.2.2.2.1)
  obtain ⟨c11, i11, k11⟩ := u_known (C := RX11) (T := TX11) (N := 35) hg i_X11 (hts _ st_i.2.2.2.2.2.2.2.2.2.2.2)
  obtain ⟨cI, kI, pI, nI', hI, dI⟩ := Cond.arrayClass_spec (hts _ st_w.2.2.2.2.2.2.2.2.2.1)
  obtain ⟨cJ, kJ, pJ, nJ, hJ, dJ⟩ := Cond.arrayClass_spec (hts _ st_w.2.2.2.2.2.2.2.2.2.2)
  refine ⟨(fun k => [c0, c1, c2, c3, c4, c5, c6, c7, c8, c9, c10, c11].getD k c0, fun k => [i0, i1, i2, i3, i4, i5, i6, i7, i8, i9, i10, i11].getD k i0), fun ty => if ty = .int then cI else cJ, fun k q hq => ?_, fun k q hq => ?_⟩
  · rcases (show k = 0 ∨ k = 1 ∨ k = 2 ∨ k = 3 ∨ k = 4 ∨ k = 5 ∨ k = 6 ∨ k = 7 ∨ k = 8 ∨ k = 9 ∨ k = 10 ∨ k = 11 ∨ 12 ≤ k by omega) with rfl | rfl | rfl | rfl | rfl | rfl | rfl | rfl | rfl | rfl | rfl | rfl | h12
    · cases hq; exact k0
    · cases hq; exact k1
    · cases hq; exact k2
    · cases hq; exact k3
    · cases hq; exact k4
    · cases hq; exact k5
    · cases hq; exact k6
    · cases hq; exact k7
    · cases hq; exact k8
    · cases hq; exact k9
    · cases hq; exact k10
    · cases hq; exact k11
    · rw [List.getElem?_eq_none (by simpa using h12)] at hq
      cases hq
  · rcases (show k = 0 ∨ k = 1 ∨ 2 ≤ k by omega) with rfl | rfl | h2
    · cases hq
      exact ⟨fun n z => ⟨fun k h => (by cases h), kI, hI, pI, dI⟩, nI'⟩
    · cases hq
      exact ⟨fun n z => ⟨fun k h => (by cases h), kJ, hJ, pJ, dJ⟩, nJ⟩
    · rw [List.getElem?_eq_none (by simpa using h2)] at hq
      cases hq
theorem st_env {args : Array Value} {s : State} {b L : Nat} {xs : Nat → Int32} (hts : ∀ w ∈ lw_tbl, w.before args s = true) (hgv : (Jvm.Cond.and given_1 narrow_1).before args s = true) (hX : va_X b L xs s s.heap) (hbl : b < s.heap.size) (hL : L ≤ 256) : ∃ (D : va_G) (Y : FieldType → ClassId) (σ : Nat → Nat), σ 4 = b ∧ penv (L, xs) s D Y σ s.heap.size := by
  obtain ⟨D, Y, hK⟩ := st_K hts
  have hn := flat_of_before _ hgv
  have hA : ∀ a : Nat, a < s.heap.size → ¬ pA s.heap.size a := fun a h1 h2 => absurd h1 (Nat.not_lt.mpr h2)
  obtain ⟨t0, e0, T0⟩ := tab_of (tm := .static "ChainChoice" "FILTER_STEPS" "[I") (v0 := 0) (v1 := 1) (v2 := 16) (v3 := 1) (v4 := 1) (hn _ (by decide +kernel)) (hn _ (by decide +kernel)) (hn _ (by decide +kernel)) (hn _ (by decide +kernel)) (hn _ (by decide +kernel)) (hn _ (by decide +kernel)) (hn _ (by decide +kernel)) hA
  obtain ⟨t1, e1, T1⟩ := tab_of (tm := .static "ChainChoice" "FILTER_MEMORY" "[I") (v0 := 0) (v1 := 0) (v2 := 256) (v3 := 0) (v4 := 0) (hn _ (by decide +kernel)) (hn _ (by decide +kernel)) (hn _ (by decide +kernel)) (hn _ (by decide +kernel)) (hn _ (by decide +kernel)) (hn _ (by decide +kernel)) (hn _ (by decide +kernel)) hA
  obtain ⟨t2, e2, T2⟩ := tab_of (tm := .static "ChainChoice" "PACKER_STEPS" "[I") (v0 := 1) (v1 := 2) (v2 := 2) (v3 := 4) (v4 := 64) (hn _ (by decide +kernel)) (hn _ (by decide +kernel)) (hn _ (by decide +kernel)) (hn _ (by decide +kernel)) (hn _ (by decide +kernel)) (hn _ (by decide +kernel)) (hn _ (by decide +kernel)) hA
  obtain ⟨t3, e3, T3⟩ := tab_of (tm := .static "ChainChoice" "PACKER_MEMORY" "[I") (v0 := 0) (v1 := 0) (v2 := 256) (v3 := 1024) (v4 := 512) (hn _ (by decide +kernel)) (hn _ (by decide +kernel)) (hn _ (by decide +kernel)) (hn _ (by decide +kernel)) (hn _ (by decide +kernel)) (hn _ (by decide +kernel)) (hn _ (by decide +kernel)) hA
  obtain ⟨sa, _, _, _, es, -⟩ := Cond.exactly_spec (hn (Cond.exactly (.string "ChainChoice" 183) "java/lang/String") (by decide +kernel))
  have hU : (Cond.isRef (.static Bundle.tN "UNASSIGNED_STACK" Bundle.steD)).before args s = true := hn _ (by decide +kernel)
  have hS : (Cond.isRef (.static Bundle.tN "SUPPRESSED_SENTINEL" Bundle.listD)).before args s = true := hn _ (by decide +kernel)
  obtain ⟨w1, w2, w3, w4, w5, w6, w7, w8, w9, -⟩ := st_w
  have hstr : vk_R "ChainChoice" 183 "a share of 0" sa s := vk_R.of (hts _ w9) es
  refine ⟨D, Y, fun j => [t0, t1, t2, t3].getD j b, rfl, ⟨Nat.le_refl _, ⟨sa, hstr⟩, vx_Zqof (hts _ w6) (hts _ w8) hU hA, vx_Zqof (hts _ w7) (hts _ w8) hS hA⟩, hK, fun w hw => ?_, fun j hj => ?_, fun j hj => ?_⟩
  · have h1 := List.mem_filter.mp hw
    have h2 := h1.2
    exact va_tabs (by cases w <;> first | rfl | exact absurd h2 Bool.false_ne_true) rfl (hts w h1.1)
  · rcases (show j = 0 ∨ j = 1 ∨ j = 2 ∨ j = 3 by omega) with rfl | rfl | rfl | rfl
    · exact va_Zof (hts _ w1) (hts _ w5) e0 hA
    · exact va_Zof (hts _ w2) (hts _ w5) e1 hA
    · exact va_Zof (hts _ w3) (hts _ w5) e2 hA
    · exact va_Zof (hts _ w4) (hts _ w5) e3 hA
  · rcases (show j = 0 ∨ j = 1 ∨ j = 2 ∨ j = 3 ∨ j = 4 by omega) with rfl | rfl | rfl | rfl | rfl
    · exact T0
    · exact T1
    · exact T2
    · exact T3
    · obtain ⟨scr, h1, h2, h3, h4, h5⟩ := hX
      exact ⟨scr, h1, h2, h3, by show L ≤ _; omega, by rw [h4]; rfl, h5, hA b hbl⟩
set_option maxRecDepth 20000 in
/-- from the entry, for every script of at most 256 ints, the law comes to its end with true, in a room of 139 cells and 15456 slots -/
theorem whole_R {p : Program} {e : Env} {s : State} {m : MethodId} {below : List Frame} {meth : Method} {c : Code} {l : Launch} {b L : Nat} {xs : Nat → Int32} {R : Room} {Z : State → Prop} (hl : l.stackTraces = false) (hL : L ≤ 256) (hRf : 10 ≤ R.frames) (hRl : 342 ≤ R.locals) (hRc : 139 ≤ R.cells) (hRs : 15456 ≤ R.slots)
    (hx : p.tables.exec = Jvm.exec) (hb : c.code = code) (hr : meth.sig.returnType = some .boolean) (hml : c.maxLocals = 8) (hown : s.vm.findClass RL = some m.cls) (hts : ∀ w ∈ lw_tbl, w.before #[Value.ref b] s = true) (hX : va_X b L xs s s.heap) (hbl : b < s.heap.size) (hlocks : meth.locks = false) (hnm : meth.name = "law") (hgv : (Jvm.Cond.and given_1 narrow_1).before #[Value.ref b] s = true)
    (fin : ∀ (H' : Heap) (cells' slots' : Nat) (ls' : Array Slot) (pc' : Nat), decode code pc' = .ok (.ireturn, 1) → cells' ≤ 139 → slots' ≤ 15456 → (∃ D Y σ F A rf lo X, pwd D Y σ s.heap.size (HS F A rf lo X) H') → W p l e R s m #[Value.ref b] below meth c H' [] cells' slots' Z (F0 m pc' ls' [.int 1])) :
    W p l e R s m #[Value.ref b] below meth c s.heap [] 0 0 Z (entryFrame m ([Value.ref b] : List Value).toArray 8) := by
  obtain ⟨D, Y, σ, hσ, hE⟩ := st_env hts hgv hX hbl hL
  have hl8 := lv_entry ([Value.ref b]) (n := 8) (Nat.le_of_ble_eq_true rfl)
  rw [lg_entry_eq]
  generalize (lg_sl ([Value.ref b]) ++ List.replicate (8 - (lg_sl ([Value.ref b])).length) Slot.unset).toArray = ls at hl8 ⊢
  have hl0 : lv_has ls 8 [(0, .ref b)] := hl8
  have hpl : plv σ s.heap.size ls 8 [.retAddr 4, .float 0, .float 0, .float 0, .float 0, .float 0, .float 0, .float 0] := by
    refine ⟨hl0.1, hl0.2.1, fun i v hv hf => ?_⟩
    rcases (show i = 0 ∨ 0 < i by omega) with rfl | h1
    · cases hv
      show ls[0]? = some (.val (.ref (σ 4)))
      rw [hσ]
      exact hl0.2.2 (0, .ref b) List.mem_cons_self
    · exfalso
      rcases (show i = 1 ∨ i = 2 ∨ i = 3 ∨ i = 4 ∨ i = 5 ∨ i = 6 ∨ i = 7 ∨ 8 ≤ i by omega) with rfl | rfl | rfl | rfl | rfl | rfl | rfl | h8
      · cases hv; exact hf rfl
      · cases hv; exact hf rfl
      · cases hv; exact hf rfl
      · cases hv; exact hf rfl
      · cases hv; exact hf rfl
      · cases hv; exact hf rfl
      · cases hv; exact hf rfl
      · rw [List.getElem?_eq_none (by simpa using h8)] at hv
        cases hv
  obtain ⟨K, hK⟩ : ∃ K, K = L / 4 := ⟨_, rfl⟩
  have hK64 : K ≤ 64 := by omega
  have hPW : PW (L, xs) mL_law 0 [.retAddr 4, .float 0, .float 0, .float 0, .float 0, .float 0, .float 0, .float 0] [] [] 139 15456 (fun r h' => r = some (.int 1) ∧ ∃ F A rf lo X, h' = HS F A rf lo X) := pw_weak (by omega) (by omega) (law_PW (Γ := (L, xs)) (K := K) hL hK (fun F A rf lo X => ⟨rfl, F, A, rf, lo, X, rfl⟩))
  have hP0 : pwd D Y σ s.heap.size [] s.heap := ⟨rfl, fun i x hx => by cases hx⟩
  refine hPW p ⟨l, hl⟩ e R s m #[Value.ref b] below meth c D Y σ s.heap.size s.heap [] 0 0 ls Z ⟨hx, hb, hr, hml, hown, fun w hw => hts w (lw_good_in w hw), hlocks, hnm, hRf, hRl, hE⟩ hP0 va_S.rf hpl (by rw [Nat.zero_add]; exact hRc) (by rw [Nat.zero_add]; exact hRs) ?_
  intro r h' H' locs' cells' slots' ls' pc' hQ hP' hS' hc' hs' hret
  obtain ⟨hr1, F, A, rf, lo, X, hh⟩ := hQ
  rw [hh] at hP'
  subst hr1
  refine va_forget (fun q hq => hS'.2.2 q hq) ?_
  rw [Nat.zero_add] at hc' hs'
  exact fin H' cells' slots' ls' pc' hret.1 hc' hs' ⟨D, Y, σ, F, A, rf, lo, X, hP'⟩
