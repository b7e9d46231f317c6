/-! the claim falls: wherever the premises hold and there is room for 139 cells and 15456 slots, the law's run makes more than 12554 slots -/
def ssz (s : Nat ⊕ (Nat × List (Option Nat))) : Nat := match s with
  | .inl n => n
  | .inr _ => 0
set_option maxRecDepth 20000 in
theorem ssz_sum : (shp.map ssz).sum = 14951 := rfl
theorem sum_le9 : ∀ (ns : List Nat) (cs : List Cell), (∀ (i n : Nat), ns[i]? = some n → ∃ c, cs[i]? = some c ∧ n ≤ c.slots.size) → ns.sum ≤ (cs.map (·.slots.size)).sum
  | [], cs => fun _ => by rw [List.sum_nil]; exact Nat.zero_le _
  | n :: ns, cs => fun h => by
    obtain ⟨c, hc, hn⟩ := h 0 n rfl
    cases cs with
    | nil => cases hc
    | cons c' cs =>
      have e : c' = c := Option.some.inj hc
      subst e
      have ih := sum_le9 ns cs (fun i k hk => by
        obtain ⟨c2, h2, h3⟩ := h (i + 1) k hk
        exact ⟨c2, h2, h3⟩)
      rw [List.sum_cons, List.map_cons, List.sum_cons]
      omega
theorem big_world {D : va_G} {Y : FieldType → ClassId} {σ : Nat → Nat} {base : Nat} {F A : Nat → Nat → Int32} {rf : Nat} {lo : Int64} {X : PH} {H : Heap} (hP : pwd D Y σ base (HS F A rf lo X) H) : 12554 < ((H.toList.drop base).map (·.slots.size)).sum := by
  have hl : 75 ≤ (HS F A rf lo X).length := by
    unfold HS HSg
    rw [List.length_append, List.length_mapIdx, shp_len, List.length_cons]
    omega
  have key : (shp.map ssz).sum ≤ ((H.toList.drop base).map (·.slots.size)).sum := by
    refine sum_le9 _ _ (fun i n hi => ?_)
    rw [List.getElem?_map] at hi
    cases hs : shp[i]? with
    | none => rw [hs] at hi; cases hi
    | some w =>
      rw [hs] at hi
      have hn : ssz w = n := Option.some.inj hi
      have hi74 : i < 74 := by
        have := (List.getElem?_eq_some_iff.mp hs).1
        rw [shp_len] at this
        exact this
      have hlt : base + i < H.size := by rw [hP.1]; omega
      have hd : (H.toList.drop base)[i]? = H[base + i]? := by rw [List.getElem?_drop, Array.getElem?_toList]
      rw [hd]
      cases w with
      | inl k =>
        have hp := hP.2 i _ (HS_get hs)
        have hp' : H[base + i]? = some (vp_cell (Y .int) (k, .inl (A i))) := hp
        refine ⟨_, hp', ?_⟩
        rw [vp_cell_i, arrV_size, ← hn]
        exact Nat.le_refl _
      | inr o =>
        refine ⟨H[base + i], Array.getElem?_eq_getElem hlt, ?_⟩
        rw [← hn]
        exact Nat.zero_le _
  rw [ssz_sum] at key
  omega
def room_B : Room := { frames := 10, cells := 139, slots := 15456, locals := 342 }
def lw_QB (_ : Array Value) (s : State) (o : Outcome) (t : State) : Prop := o = .returned (some (.int 1)) ∧ 12554 < ((t.heap.toList.drop s.heap.size).map (·.slots.size)).sum
theorem lw_retB {p : Program} {l : Launch} {e : Env} {s : State} {m : MethodId} {below : List Frame} {meth : Method} {c : Code} {b : Nat} (hx : p.tables.exec = Jvm.exec) (hb : c.code = code) (hr : meth.sig.returnType = ret) (hlocks : meth.locks = false) {pc : Nat} {H : Heap} {ls : Array Slot} {cells slots : Nat} (hdg : decode code pc = .ok (.ireturn, 1)) (hbig : 12554 < ((H.toList.drop s.heap.size).map (·.slots.size)).sum) : W p l e room_B s m #[Value.ref b] below meth c H [] cells slots (fun t => ∃ o, t.status = .running ∧ Ended t below o ∧ lw_QB #[Value.ref b] s o t) (F0 m pc ls [.int 1]) := by
  intro T hT X
  obtain ⟨fs, hret, hrun, hended, hW, hframe⟩ := X.leave (v := some (.int 1)) (hlocks := hlocks) (fun h => by rw [hr] at h; cases h)
  have hmeth' : T.vm.method? m = some meth := X.method'
  refine ⟨T.setFrames fs, ?_, .returned (some (.int 1)), hrun, hended, rfl, ?_⟩
  · jvm_step X.here [X.here.top, hx, hb, hdg, hmeth', hr, ret, narrow_b1]
    (try refine ⟨rfl, ?_⟩); (try refine ⟨rfl, ?_⟩)
    first | (intro acts; rw [hret _ acts rfl rfl rfl]) | rw [hret _ _ rfl rfl rfl]
    exact Steps.refl _
  · show 12554 < ((T.heap.toList.drop s.heap.size).map (·.slots.size)).sum
    rw [hT]
    exact hbig
set_option maxHeartbeats 4000000 in
theorem lw_walkB (l : Launch) (hl : l.stackTraces = false) (b : Addr) (xs : List Int32) : MetFree l x (headSpec (Jvm.Cond.code x code maxLocals ret :: tables_1) room_B) (lw_P b xs) (fun _ _ _ _ _ => True) lw_QB := by
  refine MetFree.of_bodyS (code := code) (maxLocals := maxLocals) (ret := ret) (by decide) ?_ ?_
  · intro args s m h hn
    obtain ⟨meth, c, h1, h2, h3, h4, h5, h6, -, -⟩ := Cond.code_spec hn (atoms_spec (ws := Jvm.Cond.code x code maxLocals ret :: tables_1) h _ List.mem_cons_self)
    exact ⟨meth, c, h1, h2, h3, h4, h5, h6⟩
  · intro p e s m args below meth c s₁ B hml0 hP _
    obtain ⟨rfl, hx, hbd, hgv⟩ := hP
    obtain ⟨scr, harrAt, hlist, hof, hsmall⟩ := hx
    obtain ⟨hcb, hkn, -, -⟩ := State.arrayAt?_spec harrAt
    have hown : s.vm.findClass RL = some m.cls := findClass_of_methodNamed B.named
    have hts0 : ∀ c ∈ (Jvm.Cond.code x code maxLocals ret :: tables_1), c.before #[Value.ref b] s = true := atoms_spec (ws := Jvm.Cond.code x code maxLocals ret :: tables_1) B.pre
    have hts : ∀ w ∈ lw_tbl, w.before #[Value.ref b] s = true := k2_hts_sels lw_privs (fun w hw => hts0 w (List.mem_cons_of_mem _ hw)) lw_privs_ok
    have hml : c.maxLocals = 8 := B.maxLocals_eq (hts0 _ List.mem_cons_self)
    have X₀ : Stand p l e room_B s m #[Value.ref b] below meth c s₁ [] 0 0 := Stand.of_body B
    have hh0 : s₁.heap = s.heap := by rw [B.state]; rfl
    have hsz : scr.slots.size = xs.length := by rw [← Array.length_toList, hlist, List.length_map]
    have hval : ∀ j : Nat, j < xs.length → scr.slots[j]? = some (.int (xs.getD j 0)) := fun j hj => by
      rw [← Array.getElem?_toList, hlist]
      simp [hj]
    have hbl : b < s.heap.size := (Array.getElem?_eq_some_iff.mp hcb).1
    have hX : va_X b xs.length (fun j => xs.getD j 0) s s.heap := ⟨scr, hcb, hof, hkn, hsz, hval⟩
    have K : W p l e room_B s m #[Value.ref b] below meth c s₁.heap [] 0 0 (fun t => ∃ o, t.status = .running ∧ Ended t below o ∧ lw_QB #[Value.ref b] s o t) (entryFrame m ([Value.ref b] : List Value).toArray 8) := by
      rw [hh0]
      refine whole_R hl hbd (Nat.le_refl _) (Nat.le_refl _) (Nat.le_refl _) (Nat.le_refl _) B.exec B.bytes B.returns hml hown hts hX hbl B.notSynchronized (name_of_methodNamed B.named B.method).1 hgv ?_
      intro H' cells' slots' ls' pc' hdg hc hs hw
      obtain ⟨D, Y, σ, F, A, rf, lo, Xx, hw⟩ := hw
      exact lw_retB B.exec B.bytes B.returns B.notSynchronized hdg (big_world hw)
    obtain ⟨t, a1, o, b1, b2, b3⟩ := K s₁ rfl X₀
    exact ⟨t, o, a1, b1, b2, b3⟩
/-- THE CLAIM IS FALSE: at any start that meets its premises and has that room -/
theorem claim_falls {l : Launch} {p : Program} {e : Env} {s : State} {m : MethodId} {args : Array Value} {below : List Frame} (hfl : l.flags = flags0) (h : Jvm.D.AtStart classFile x code maxLocals ret World_1 tables_1 room_1 Calls_1 rest_1 Pre_1 l p e s m args below) (hbig : (headSpec (Jvm.Cond.code x code maxLocals ret :: tables_1) room_B).applies x e.platform s = true) : ¬ Claimed_1_1 := by
  intro hC
  obtain ⟨hLs, hW, ha, _, hc, hk, hf, hfit, hheap, happ, hcalls, hrest, hpre⟩ := h
  have hl : l.stackTraces = false := by unfold Launch.stackTraces; rw [hfl]; decide
  obtain ⟨n, o, h1, h2, h3, hpost⟩ := hC l hfl hLs hW p e ha hc hk s m args below hf hfit hheap happ ⟨hcalls, hrest, hpre⟩
  obtain ⟨b, xs, hP⟩ := lw_pre_spec hpre hrest
  obtain ⟨n2, o2, g1, g2, g3, ho, hsum⟩ := lw_walkB l hl b xs p e ha hc hk s m args below hf ((Spec.applies_iff_loose hf).mp hbig).1 hP trivial
  have hn : n = n2 := by
    rcases Nat.lt_trichotomy n n2 with h9 | h9 | h9
    · exact absurd (g1 n h9) h3.not_within
    · exact h9
    · exact absurd (h1 n2 h9) g3.not_within
  subst hn
  have hb : (((stepsAlone p.tables e n s).heap.toList.drop s.heap.size).map (·.slots.size)).sum ≤ 12554 := hpost.2.2.2.2.2.2.2.1
  omega
