/-- System.arraycopy over two int rows of the world (or one) -/
theorem pw_copy {Γ : Nat × (Nat → Int32)} {M : MD} {pc : Nat} {l st : List Value} {h : PH} {bc bs : Nat} {Q : Option Value → PH → Prop} {idx i j n0 n1 : Nat} {f g : Nat → Int32} {sp dp n : Int32} (hdg : decode (mcode M) pc = .ok (.invokestatic idx, 3)) (hl : Cond.methodLink M.1.cls idx arraycopyName ∈ lw_good) (hnt : Cond.native arraycopyName ∈ lw_good) (hst : Cond.static arraycopyName ∈ lw_good) (hin : Cond.initialized "java/lang/System" ∈ lw_good)
    (he0 : h[i]? = some (.inl (.int, n0, .inl f))) (he1 : h[j]? = some (.inl (.int, n1, .inl g))) (h1 : ¬ sp < 0) (h2 : ¬ dp < 0) (h3 : ¬ n < 0) (h4 : sp.toNatClampNeg + n.toNatClampNeg ≤ n0) (h5 : dp.toNatClampNeg + n.toNatClampNeg ≤ n1)
    (hf : 1 ≤ mfr M) (ho : (st.map fun v => v.category).sum + (nativeFrameWords "java/lang/System" "arraycopy" 5 + 11) ≤ mlo M)
    (kk : PW Γ M (pc + 3) l st (h.set j (.inl (.int, n1, .inl (va_cpy f g sp.toNatClampNeg dp.toNatClampNeg n.toNatClampNeg)))) bc bs Q) : PW Γ M pc l (.int n :: .int dp :: .ref j :: .int sp :: .ref i :: st) h bc bs Q := by
  intro p lc e R s m args below meth c D Y σ base H locs cells slots ls Z C hP hS hL hc hs fin
  have hts := C.2.2.2.2.2.1
  have hK := C.2.2.2.2.2.2.2.2.2.2.2.1
  have nn : ∀ z : Int32, ¬ z < 0 → z.toInt = (z.toNatClampNeg : Int) := by
    intro z hz
    have hz0 : (0 : Int) ≤ z.toInt := by
      have := Int32.not_lt.mp hz
      simpa using Int32.le_iff_toInt_le.mp this
    show z.toInt = ((z.toInt.toNat : Nat) : Int)
    omega
  intro T hT X
  have hc0 : H[base + i]? = some (vp_cell (Y .int) (n0, .inl f)) := hP.2 i _ he0
  have hc1 : H[base + j]? = some (vp_cell (Y .int) (n1, .inl g)) := hP.2 j _ he1
  obtain ⟨-, k0, hk0, cm0, hkk0⟩ := (hK.2 0 _ rfl).1 n0 (fun j => .int (f j))
  obtain ⟨-, k1, hk1, cm1, hkk1⟩ := (hK.2 0 _ rfl).1 n1 (fun j => .int (g j))
  obtain ⟨vm', X', step⟩ := X.arraycopy C.1 C.2.2.2.2.1 (hts _ hl) (hts _ hnt) (hts _ hst) (hts _ hin) (src := base + i) (dst := base + j) (cs := vp_cell (Y .int) (n0, .inl f)) (cd := vp_cell (Y .int) (n1, .inl g)) (srcPos := sp) (destPos := dp) (n := n) (by rw [hT]; exact hc0) (by rw [hT]; exact hc1)
    (fun _ h => by cases h) (fun _ h => by cases h) (fun h => by cases h) (fun h => by cases h) hk0 hk1 hkk0 hkk1 (by simp [refKind]) h1 h2 h3
    (by rw [nn sp h1, nn n h3]; show ¬ _ > ((arrV _ n0 (fun j => .int (f j))).slots.size : Int); rw [arrV_size]; omega)
    (by rw [nn dp h2, nn n h3]; show ¬ _ > ((arrV _ n1 (fun j => .int (g j))).slots.size : Int); rw [arrV_size]; omega)
    (fun vm₁ _ i hi => by
      have e : (vp_cell (Y .int) (n0, .inl f)).slots.getD (sp.toNatClampNeg + i) .null = .int (f (sp.toNatClampNeg + i)) := by
        show (arrV _ n0 (fun j => .int (f j))).slots.getD _ _ = _
        rw [Array.getD_eq_getD_getElem?, arrV_read _ _ (by omega)]
        rfl
      refine ⟨?_, ?_⟩
      · rw [e]
        rfl
      · rw [e]
        exact trivial)
    (g := F0 m pc ls (.int n :: .int dp :: .ref (base + j) :: .int sp :: .ref (base + i) :: st.map (pv σ base))) rfl (by show ls.size = _; rw [hL.1, C.2.2.2.1]) (rest := st.map (pv σ base)) rfl (by rw [C.2.1]; exact hdg) (Nat.le_trans hf C.2.2.2.2.2.2.2.2.1) (by
      have h9 := pst_cat σ base st
      have h8 := C.2.2.2.2.2.2.2.2.2.1
      show 2 * 0 + ((st.map (pv σ base)).map fun v => v.category).sum + _ ≤ R.locals
      omega)
  have e1 : copied (vp_cell (Y .int) (n0, .inl f)) (vp_cell (Y .int) (n1, .inl g)) sp dp n = vp_cell (Y .int) (n1, .inl (va_cpy f g sp.toNatClampNeg dp.toNatClampNeg n.toNatClampNeg)) := va_copied (fun z => .int z) _ _ f g h4
  rw [e1] at X' step
  have hl2 : base + j < H.size := (Array.getElem?_eq_some_iff.mp hc1).1
  have hheap : ((T.setVm vm').setCell (base + j) (vp_cell (Y .int) (n1, .inl (va_cpy f g sp.toNatClampNeg dp.toNatClampNeg n.toNatClampNeg)))).heap = H.setIfInBounds (base + j) (vp_cell (Y .int) (n1, .inl (va_cpy f g sp.toNatClampNeg dp.toNatClampNeg n.toNatClampNeg))) := by rw [← hT]; rfl
  have oq : ∀ q : Nat, q ≠ base + j → (H.setIfInBounds (base + j) (vp_cell (Y .int) (n1, .inl (va_cpy f g sp.toNatClampNeg dp.toNatClampNeg n.toNatClampNeg))))[q]? = H[q]? := fun q hq => by simp [Array.getElem?_setIfInBounds, Ne.symm hq]
  obtain ⟨t, a1, b1⟩ := kk p lc e R s m args below meth c D Y σ base _ _ cells slots ls Z C (pwd_set (i := j) (e := .inl (.int, n1, .inl (va_cpy f g sp.toNatClampNeg dp.toNatClampNeg n.toNatClampNeg))) hP (by simp) oq (show (H.setIfInBounds (base + j) _)[base + j]? = some _ by simp [Array.getElem?_setIfInBounds, hl2])) ⟨by simp; exact hS.1, fun q g1 g2 => by
      rw [oq q (fun e => g2 (by rw [e]; exact Nat.le_add_right _ _))]
      exact hS.2.1 q g1 g2, fun q hq => by
      rcases List.mem_append.mp hq with h | h
      · exact hS.2.2 q h
      · obtain ⟨z, -, hz⟩ := List.mem_map.mp h
        rw [← hz]
        exact Nat.le_add_right _ _⟩ hL hc hs fin _ hheap X'
  exact ⟨t, step t a1, b1⟩
