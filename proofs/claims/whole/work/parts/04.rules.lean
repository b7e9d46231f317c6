theorem pw_iconst {Γ : Nat × (Nat → Int32)} {M : MD} {pc : Nat} {l st : List Value} {h : PH} {bc bs : Nat} {Q : Option Value → PH → Prop} (v : Int32) {n : Int} (hv : Int32.ofInt n = v) (hdg : decode (mcode M) pc = .ok (.iconst n, 1)) (k : PW Γ M (pc + 1) l (.int v :: st) h bc bs Q) : PW Γ M pc l (st) h bc bs Q := by
  intro p lc e R s m args below meth c D Y σ base H locs cells slots ls Z C hP hS hL hc hs fin
  exact lv_iconst C.1 C.2.1 hdg hv (k p lc e R s m args below meth c D Y σ base H locs cells slots ls Z C hP hS hL hc hs fin)
theorem pw_bipush {Γ : Nat × (Nat → Int32)} {M : MD} {pc : Nat} {l st : List Value} {h : PH} {bc bs : Nat} {Q : Option Value → PH → Prop} (v : Int32) {n : Int} (hv : (Int8.ofInt n).toInt32 = v) (hdg : decode (mcode M) pc = .ok (.bipush n, 2)) (k : PW Γ M (pc + 2) l (.int v :: st) h bc bs Q) : PW Γ M pc l (st) h bc bs Q := by
  intro p lc e R s m args below meth c D Y σ base H locs cells slots ls Z C hP hS hL hc hs fin
  exact lv_bipush C.1 C.2.1 hdg hv (k p lc e R s m args below meth c D Y σ base H locs cells slots ls Z C hP hS hL hc hs fin)
theorem pw_sipush {Γ : Nat × (Nat → Int32)} {M : MD} {pc : Nat} {l st : List Value} {h : PH} {bc bs : Nat} {Q : Option Value → PH → Prop} (v : Int32) {n : Int} (hv : (Int16.ofInt n).toInt32 = v) (hdg : decode (mcode M) pc = .ok (.sipush n, 3)) (k : PW Γ M (pc + 3) l (.int v :: st) h bc bs Q) : PW Γ M pc l (st) h bc bs Q := by
  intro p lc e R s m args below meth c D Y σ base H locs cells slots ls Z C hP hS hL hc hs fin
  exact lv_sipush C.1 C.2.1 hdg hv (k p lc e R s m args below meth c D Y σ base H locs cells slots ls Z C hP hS hL hc hs fin)
theorem pw_lconst {Γ : Nat × (Nat → Int32)} {M : MD} {pc : Nat} {l st : List Value} {h : PH} {bc bs : Nat} {Q : Option Value → PH → Prop} (v : Int64) {n : Fin 2} (hv : Int64.ofNat (n : Nat) = v) (hdg : decode (mcode M) pc = .ok (.lconst n, 1)) (k : PW Γ M (pc + 1) l (.long v :: st) h bc bs Q) : PW Γ M pc l (st) h bc bs Q := by
  intro p lc e R s m args below meth c D Y σ base H locs cells slots ls Z C hP hS hL hc hs fin
  exact lv_lconst C.1 C.2.1 hdg hv (k p lc e R s m args below meth c D Y σ base H locs cells slots ls Z C hP hS hL hc hs fin)
theorem pw_ldc {Γ : Nat × (Nat → Int32)} {M : MD} {pc : Nat} {l st : List Value} {h : PH} {bc bs : Nat} {Q : Option Value → PH → Prop} {v : Int32} {i : Nat} (hv : Cond.constant M.1.cls i v ∈ lw_good) (hdg : decode (mcode M) pc = .ok (.ldc i, 2)) (k : PW Γ M (pc + 2) l (.int v :: st) h bc bs Q) : PW Γ M pc l (st) h bc bs Q := by
  intro p lc e R s m args below meth c D Y σ base H locs cells slots ls Z C hP hS hL hc hs fin
  exact lv_ldc C.1 C.2.1 C.2.2.2.2.1 (C.2.2.2.2.2.1 _ hv) hdg (k p lc e R s m args below meth c D Y σ base H locs cells slots ls Z C hP hS hL hc hs fin)
theorem pw_ldc2 {Γ : Nat × (Nat → Int32)} {M : MD} {pc : Nat} {l st : List Value} {h : PH} {bc bs : Nat} {Q : Option Value → PH → Prop} {v : Int64} {i : Nat} (hv : Cond.constantLong M.1.cls i v ∈ lw_good) (hdg : decode (mcode M) pc = .ok (.ldc2_w i, 3)) (k : PW Γ M (pc + 3) l (.long v :: st) h bc bs Q) : PW Γ M pc l (st) h bc bs Q := by
  intro p lc e R s m args below meth c D Y σ base H locs cells slots ls Z C hP hS hL hc hs fin
  exact lv_ldc2 C.1 C.2.1 C.2.2.2.2.1 (C.2.2.2.2.2.1 _ hv) hdg (k p lc e R s m args below meth c D Y σ base H locs cells slots ls Z C hP hS hL hc hs fin)
theorem pw_iload {Γ : Nat × (Nat → Int32)} {M : MD} {pc : Nat} {l st : List Value} {h : PH} {bc bs : Nat} {Q : Option Value → PH → Prop} {i : Nat} {x : Int32} (hl : l[i]? = some (.int x)) (hdg : decode (mcode M) pc = .ok (.iload i, 2)) (k : PW Γ M (pc + 2) l (.int x :: st) h bc bs Q) : PW Γ M pc l (st) h bc bs Q := by
  intro p lc e R s m args below meth c D Y σ base H locs cells slots ls Z C hP hS hL hc hs fin
  exact lv_iload C.1 C.2.1 hdg (hL.2.2 _ _ hl (fun q => by cases q)) (k p lc e R s m args below meth c D Y σ base H locs cells slots ls Z C hP hS hL hc hs fin)
theorem pw_iload_n {Γ : Nat × (Nat → Int32)} {M : MD} {pc : Nat} {l st : List Value} {h : PH} {bc bs : Nat} {Q : Option Value → PH → Prop} {i : Fin 4} {x : Int32} (hl : l[(i : Nat)]? = some (.int x)) (hdg : decode (mcode M) pc = .ok (.iload_n i, 1)) (k : PW Γ M (pc + 1) l (.int x :: st) h bc bs Q) : PW Γ M pc l (st) h bc bs Q := by
  intro p lc e R s m args below meth c D Y σ base H locs cells slots ls Z C hP hS hL hc hs fin
  exact lv_iload_n C.1 C.2.1 hdg rfl (hL.2.2 _ _ hl (fun q => by cases q)) (k p lc e R s m args below meth c D Y σ base H locs cells slots ls Z C hP hS hL hc hs fin)
theorem pw_lload {Γ : Nat × (Nat → Int32)} {M : MD} {pc : Nat} {l st : List Value} {h : PH} {bc bs : Nat} {Q : Option Value → PH → Prop} {i : Nat} {x : Int64} (hl : l[i]? = some (.long x)) (hdg : decode (mcode M) pc = .ok (.lload i, 2)) (k : PW Γ M (pc + 2) l (.long x :: st) h bc bs Q) : PW Γ M pc l (st) h bc bs Q := by
  intro p lc e R s m args below meth c D Y σ base H locs cells slots ls Z C hP hS hL hc hs fin
  exact lv_lload C.1 C.2.1 hdg (hL.2.2 _ _ hl (fun q => by cases q)) (k p lc e R s m args below meth c D Y σ base H locs cells slots ls Z C hP hS hL hc hs fin)
theorem pw_lload_n {Γ : Nat × (Nat → Int32)} {M : MD} {pc : Nat} {l st : List Value} {h : PH} {bc bs : Nat} {Q : Option Value → PH → Prop} {i : Fin 4} {x : Int64} (hl : l[(i : Nat)]? = some (.long x)) (hdg : decode (mcode M) pc = .ok (.lload_n i, 1)) (k : PW Γ M (pc + 1) l (.long x :: st) h bc bs Q) : PW Γ M pc l (st) h bc bs Q := by
  intro p lc e R s m args below meth c D Y σ base H locs cells slots ls Z C hP hS hL hc hs fin
  exact lv_lload_n C.1 C.2.1 hdg rfl (hL.2.2 _ _ hl (fun q => by cases q)) (k p lc e R s m args below meth c D Y σ base H locs cells slots ls Z C hP hS hL hc hs fin)
theorem pw_aload {Γ : Nat × (Nat → Int32)} {M : MD} {pc : Nat} {l st : List Value} {h : PH} {bc bs : Nat} {Q : Option Value → PH → Prop} {i x : Nat} (hl : l[i]? = some (.ref x)) (hdg : decode (mcode M) pc = .ok (.aload i, 2)) (k : PW Γ M (pc + 2) l (.ref x :: st) h bc bs Q) : PW Γ M pc l (st) h bc bs Q := by
  intro p lc e R s m args below meth c D Y σ base H locs cells slots ls Z C hP hS hL hc hs fin
  exact lv_aload C.1 C.2.1 hdg (hL.2.2 _ _ hl (fun q => by cases q)) (k p lc e R s m args below meth c D Y σ base H locs cells slots ls Z C hP hS hL hc hs fin)
theorem pw_aload_n {Γ : Nat × (Nat → Int32)} {M : MD} {pc : Nat} {l st : List Value} {h : PH} {bc bs : Nat} {Q : Option Value → PH → Prop} {i : Fin 4} {x : Nat} (hl : l[(i : Nat)]? = some (.ref x)) (hdg : decode (mcode M) pc = .ok (.aload_n i, 1)) (k : PW Γ M (pc + 1) l (.ref x :: st) h bc bs Q) : PW Γ M pc l (st) h bc bs Q := by
  intro p lc e R s m args below meth c D Y σ base H locs cells slots ls Z C hP hS hL hc hs fin
  exact lv_aload_n C.1 C.2.1 hdg rfl (hL.2.2 _ _ hl (fun q => by cases q)) (k p lc e R s m args below meth c D Y σ base H locs cells slots ls Z C hP hS hL hc hs fin)
theorem pw_aloadS {Γ : Nat × (Nat → Int32)} {M : MD} {pc : Nat} {l st : List Value} {h : PH} {bc bs : Nat} {Q : Option Value → PH → Prop} {i x : Nat} (hl : l[i]? = some (.retAddr x)) (hdg : decode (mcode M) pc = .ok (.aload i, 2)) (k : PW Γ M (pc + 2) l (.retAddr x :: st) h bc bs Q) : PW Γ M pc l (st) h bc bs Q := by
  intro p lc e R s m args below meth c D Y σ base H locs cells slots ls Z C hP hS hL hc hs fin
  exact lv_aload C.1 C.2.1 hdg (hL.2.2 _ _ hl (fun q => by cases q)) (k p lc e R s m args below meth c D Y σ base H locs cells slots ls Z C hP hS hL hc hs fin)
theorem pw_aload_nS {Γ : Nat × (Nat → Int32)} {M : MD} {pc : Nat} {l st : List Value} {h : PH} {bc bs : Nat} {Q : Option Value → PH → Prop} {i : Fin 4} {x : Nat} (hl : l[(i : Nat)]? = some (.retAddr x)) (hdg : decode (mcode M) pc = .ok (.aload_n i, 1)) (k : PW Γ M (pc + 1) l (.retAddr x :: st) h bc bs Q) : PW Γ M pc l (st) h bc bs Q := by
  intro p lc e R s m args below meth c D Y σ base H locs cells slots ls Z C hP hS hL hc hs fin
  exact lv_aload_n C.1 C.2.1 hdg rfl (hL.2.2 _ _ hl (fun q => by cases q)) (k p lc e R s m args below meth c D Y σ base H locs cells slots ls Z C hP hS hL hc hs fin)
theorem pw_iadd {Γ : Nat × (Nat → Int32)} {M : MD} {pc : Nat} {l st : List Value} {h : PH} {bc bs : Nat} {Q : Option Value → PH → Prop} {x y : Int32} (hdg : decode (mcode M) pc = .ok (.iadd, 1)) (k : PW Γ M (pc + 1) l (.int (x + y) :: st) h bc bs Q) : PW Γ M pc l (.int y :: .int x :: st) h bc bs Q := by
  intro p lc e R s m args below meth c D Y σ base H locs cells slots ls Z C hP hS hL hc hs fin
  exact lv_iadd C.1 C.2.1 hdg (k p lc e R s m args below meth c D Y σ base H locs cells slots ls Z C hP hS hL hc hs fin)
theorem pw_isub {Γ : Nat × (Nat → Int32)} {M : MD} {pc : Nat} {l st : List Value} {h : PH} {bc bs : Nat} {Q : Option Value → PH → Prop} {x y : Int32} (hdg : decode (mcode M) pc = .ok (.isub, 1)) (k : PW Γ M (pc + 1) l (.int (x - y) :: st) h bc bs Q) : PW Γ M pc l (.int y :: .int x :: st) h bc bs Q := by
  intro p lc e R s m args below meth c D Y σ base H locs cells slots ls Z C hP hS hL hc hs fin
  exact lv_isub C.1 C.2.1 hdg (k p lc e R s m args below meth c D Y σ base H locs cells slots ls Z C hP hS hL hc hs fin)
theorem pw_imul {Γ : Nat × (Nat → Int32)} {M : MD} {pc : Nat} {l st : List Value} {h : PH} {bc bs : Nat} {Q : Option Value → PH → Prop} {x y : Int32} (hdg : decode (mcode M) pc = .ok (.imul, 1)) (k : PW Γ M (pc + 1) l (.int (x * y) :: st) h bc bs Q) : PW Γ M pc l (.int y :: .int x :: st) h bc bs Q := by
  intro p lc e R s m args below meth c D Y σ base H locs cells slots ls Z C hP hS hL hc hs fin
  exact lv_imul C.1 C.2.1 hdg (k p lc e R s m args below meth c D Y σ base H locs cells slots ls Z C hP hS hL hc hs fin)
theorem pw_iand {Γ : Nat × (Nat → Int32)} {M : MD} {pc : Nat} {l st : List Value} {h : PH} {bc bs : Nat} {Q : Option Value → PH → Prop} {x y : Int32} (hdg : decode (mcode M) pc = .ok (.iand, 1)) (k : PW Γ M (pc + 1) l (.int (x &&& y) :: st) h bc bs Q) : PW Γ M pc l (.int y :: .int x :: st) h bc bs Q := by
  intro p lc e R s m args below meth c D Y σ base H locs cells slots ls Z C hP hS hL hc hs fin
  exact lv_iand C.1 C.2.1 hdg (k p lc e R s m args below meth c D Y σ base H locs cells slots ls Z C hP hS hL hc hs fin)
theorem pw_ior {Γ : Nat × (Nat → Int32)} {M : MD} {pc : Nat} {l st : List Value} {h : PH} {bc bs : Nat} {Q : Option Value → PH → Prop} {x y : Int32} (hdg : decode (mcode M) pc = .ok (.ior, 1)) (k : PW Γ M (pc + 1) l (.int (x ||| y) :: st) h bc bs Q) : PW Γ M pc l (.int y :: .int x :: st) h bc bs Q := by
  intro p lc e R s m args below meth c D Y σ base H locs cells slots ls Z C hP hS hL hc hs fin
  exact lv_ior C.1 C.2.1 hdg (k p lc e R s m args below meth c D Y σ base H locs cells slots ls Z C hP hS hL hc hs fin)
theorem pw_ixor {Γ : Nat × (Nat → Int32)} {M : MD} {pc : Nat} {l st : List Value} {h : PH} {bc bs : Nat} {Q : Option Value → PH → Prop} {x y : Int32} (hdg : decode (mcode M) pc = .ok (.ixor, 1)) (k : PW Γ M (pc + 1) l (.int (x ^^^ y) :: st) h bc bs Q) : PW Γ M pc l (.int y :: .int x :: st) h bc bs Q := by
  intro p lc e R s m args below meth c D Y σ base H locs cells slots ls Z C hP hS hL hc hs fin
  exact lv_ixor C.1 C.2.1 hdg (k p lc e R s m args below meth c D Y σ base H locs cells slots ls Z C hP hS hL hc hs fin)
theorem pw_ishl {Γ : Nat × (Nat → Int32)} {M : MD} {pc : Nat} {l st : List Value} {h : PH} {bc bs : Nat} {Q : Option Value → PH → Prop} {x y : Int32} (hdg : decode (mcode M) pc = .ok (.ishl, 1)) (k : PW Γ M (pc + 1) l (.int (x <<< (y &&& 31)) :: st) h bc bs Q) : PW Γ M pc l (.int y :: .int x :: st) h bc bs Q := by
  intro p lc e R s m args below meth c D Y σ base H locs cells slots ls Z C hP hS hL hc hs fin
  exact lv_ishl C.1 C.2.1 hdg (k p lc e R s m args below meth c D Y σ base H locs cells slots ls Z C hP hS hL hc hs fin)
theorem pw_ishr {Γ : Nat × (Nat → Int32)} {M : MD} {pc : Nat} {l st : List Value} {h : PH} {bc bs : Nat} {Q : Option Value → PH → Prop} {x y : Int32} (hdg : decode (mcode M) pc = .ok (.ishr, 1)) (k : PW Γ M (pc + 1) l (.int (x >>> (y &&& 31)) :: st) h bc bs Q) : PW Γ M pc l (.int y :: .int x :: st) h bc bs Q := by
  intro p lc e R s m args below meth c D Y σ base H locs cells slots ls Z C hP hS hL hc hs fin
  exact lv_ishr C.1 C.2.1 hdg (k p lc e R s m args below meth c D Y σ base H locs cells slots ls Z C hP hS hL hc hs fin)
theorem pw_iushr {Γ : Nat × (Nat → Int32)} {M : MD} {pc : Nat} {l st : List Value} {h : PH} {bc bs : Nat} {Q : Option Value → PH → Prop} {x y : Int32} (hdg : decode (mcode M) pc = .ok (.iushr, 1)) (k : PW Γ M (pc + 1) l (.int ((x.toUInt32 >>> (y.toUInt32 &&& Int32.toUInt32 31)).toInt32) :: st) h bc bs Q) : PW Γ M pc l (.int y :: .int x :: st) h bc bs Q := by
  intro p lc e R s m args below meth c D Y σ base H locs cells slots ls Z C hP hS hL hc hs fin
  exact lv_iushr C.1 C.2.1 hdg rfl (k p lc e R s m args below meth c D Y σ base H locs cells slots ls Z C hP hS hL hc hs fin)
theorem pw_idiv {Γ : Nat × (Nat → Int32)} {M : MD} {pc : Nat} {l st : List Value} {h : PH} {bc bs : Nat} {Q : Option Value → PH → Prop} {x y : Int32} (hne : ¬ y = 0) (hdg : decode (mcode M) pc = .ok (.idiv, 1)) (k : PW Γ M (pc + 1) l (.int (x / y) :: st) h bc bs Q) : PW Γ M pc l (.int y :: .int x :: st) h bc bs Q := by
  intro p lc e R s m args below meth c D Y σ base H locs cells slots ls Z C hP hS hL hc hs fin
  exact lv_idiv C.1 C.2.1 hdg hne (k p lc e R s m args below meth c D Y σ base H locs cells slots ls Z C hP hS hL hc hs fin)
theorem pw_irem {Γ : Nat × (Nat → Int32)} {M : MD} {pc : Nat} {l st : List Value} {h : PH} {bc bs : Nat} {Q : Option Value → PH → Prop} {x y : Int32} (hne : ¬ y = 0) (hdg : decode (mcode M) pc = .ok (.irem, 1)) (k : PW Γ M (pc + 1) l (.int (x - x / y * y) :: st) h bc bs Q) : PW Γ M pc l (.int y :: .int x :: st) h bc bs Q := by
  intro p lc e R s m args below meth c D Y σ base H locs cells slots ls Z C hP hS hL hc hs fin
  exact lv_irem C.1 C.2.1 hdg hne (k p lc e R s m args below meth c D Y σ base H locs cells slots ls Z C hP hS hL hc hs fin)
theorem pw_ineg {Γ : Nat × (Nat → Int32)} {M : MD} {pc : Nat} {l st : List Value} {h : PH} {bc bs : Nat} {Q : Option Value → PH → Prop} {x : Int32} (hdg : decode (mcode M) pc = .ok (.ineg, 1)) (k : PW Γ M (pc + 1) l (.int (-x) :: st) h bc bs Q) : PW Γ M pc l (.int x :: st) h bc bs Q := by
  intro p lc e R s m args below meth c D Y σ base H locs cells slots ls Z C hP hS hL hc hs fin
  exact lv_ineg C.1 C.2.1 hdg (k p lc e R s m args below meth c D Y σ base H locs cells slots ls Z C hP hS hL hc hs fin)
theorem pw_i2l {Γ : Nat × (Nat → Int32)} {M : MD} {pc : Nat} {l st : List Value} {h : PH} {bc bs : Nat} {Q : Option Value → PH → Prop} {x : Int32} (hdg : decode (mcode M) pc = .ok (.i2l, 1)) (k : PW Γ M (pc + 1) l (.long x.toInt64 :: st) h bc bs Q) : PW Γ M pc l (.int x :: st) h bc bs Q := by
  intro p lc e R s m args below meth c D Y σ base H locs cells slots ls Z C hP hS hL hc hs fin
  exact lv_i2l C.1 C.2.1 hdg rfl (k p lc e R s m args below meth c D Y σ base H locs cells slots ls Z C hP hS hL hc hs fin)
theorem pw_lmul {Γ : Nat × (Nat → Int32)} {M : MD} {pc : Nat} {l st : List Value} {h : PH} {bc bs : Nat} {Q : Option Value → PH → Prop} {x y : Int64} (hdg : decode (mcode M) pc = .ok (.lmul, 1)) (k : PW Γ M (pc + 1) l (.long (x * y) :: st) h bc bs Q) : PW Γ M pc l (.long y :: .long x :: st) h bc bs Q := by
  intro p lc e R s m args below meth c D Y σ base H locs cells slots ls Z C hP hS hL hc hs fin
  exact lv_lmul C.1 C.2.1 hdg (k p lc e R s m args below meth c D Y σ base H locs cells slots ls Z C hP hS hL hc hs fin)
theorem pw_ldiv {Γ : Nat × (Nat → Int32)} {M : MD} {pc : Nat} {l st : List Value} {h : PH} {bc bs : Nat} {Q : Option Value → PH → Prop} {x y : Int64} (hne : ¬ y = 0) (hdg : decode (mcode M) pc = .ok (.ldiv, 1)) (k : PW Γ M (pc + 1) l (.long (x / y) :: st) h bc bs Q) : PW Γ M pc l (.long y :: .long x :: st) h bc bs Q := by
  intro p lc e R s m args below meth c D Y σ base H locs cells slots ls Z C hP hS hL hc hs fin
  exact lv_ldiv C.1 C.2.1 hdg hne (k p lc e R s m args below meth c D Y σ base H locs cells slots ls Z C hP hS hL hc hs fin)
theorem pw_lcmp {Γ : Nat × (Nat → Int32)} {M : MD} {pc : Nat} {l st : List Value} {h : PH} {bc bs : Nat} {Q : Option Value → PH → Prop} {x y : Int64} (hdg : decode (mcode M) pc = .ok (.lcmp, 1)) (k : PW Γ M (pc + 1) l (.int (lg_cmp x y) :: st) h bc bs Q) : PW Γ M pc l (.long y :: .long x :: st) h bc bs Q := by
  intro p lc e R s m args below meth c D Y σ base H locs cells slots ls Z C hP hS hL hc hs fin
  exact W.lcmp C.1 C.2.1 hdg (k p lc e R s m args below meth c D Y σ base H locs cells slots ls Z C hP hS hL hc hs fin)
theorem pw_dup {Γ : Nat × (Nat → Int32)} {M : MD} {pc : Nat} {l st : List Value} {h : PH} {bc bs : Nat} {Q : Option Value → PH → Prop} {v : Value} (hv : v.category = 1) (hdg : decode (mcode M) pc = .ok (.dup, 1)) (k : PW Γ M (pc + 1) l (v :: v :: st) h bc bs Q) : PW Γ M pc l (v :: st) h bc bs Q := by
  intro p lc e R s m args below meth c D Y σ base H locs cells slots ls Z C hP hS hL hc hs fin
  exact lv_dup C.1 C.2.1 hdg (by rw [pv_cat]; exact hv) (k p lc e R s m args below meth c D Y σ base H locs cells slots ls Z C hP hS hL hc hs fin)
theorem pw_pop {Γ : Nat × (Nat → Int32)} {M : MD} {pc : Nat} {l st : List Value} {h : PH} {bc bs : Nat} {Q : Option Value → PH → Prop} {v : Value} (hv : v.category = 1) (hdg : decode (mcode M) pc = .ok (.pop, 1)) (k : PW Γ M (pc + 1) l (st) h bc bs Q) : PW Γ M pc l (v :: st) h bc bs Q := by
  intro p lc e R s m args below meth c D Y σ base H locs cells slots ls Z C hP hS hL hc hs fin
  exact lv_pop C.1 C.2.1 hdg (by rw [pv_cat]; exact hv) (k p lc e R s m args below meth c D Y σ base H locs cells slots ls Z C hP hS hL hc hs fin)
theorem pw_dup2 {Γ : Nat × (Nat → Int32)} {M : MD} {pc : Nat} {l st : List Value} {h : PH} {bc bs : Nat} {Q : Option Value → PH → Prop} {v w : Value} (hv : v.category = 1) (hw : w.category = 1) (hdg : decode (mcode M) pc = .ok (.dup2, 1)) (k : PW Γ M (pc + 1) l (v :: w :: v :: w :: st) h bc bs Q) : PW Γ M pc l (v :: w :: st) h bc bs Q := by
  intro p lc e R s m args below meth c D Y σ base H locs cells slots ls Z C hP hS hL hc hs fin
  exact lv_dup2_11 C.1 C.2.1 hdg (by rw [pv_cat]; exact hv) (by rw [pv_cat]; exact hw) (k p lc e R s m args below meth c D Y σ base H locs cells slots ls Z C hP hS hL hc hs fin)
theorem pw_if_eq {Γ : Nat × (Nat → Int32)} {M : MD} {pc : Nat} {l st : List Value} {h : PH} {bc bs : Nat} {Q : Option Value → PH → Prop} {x : Int32} {off : Int} (tgt : Nat) (hdg : decode (mcode M) pc = .ok (.ifCond .eq off, 3)) (ht : (pc : Int) + off = (tgt : Int)) (kt : x = 0 → PW Γ M tgt l st h bc bs Q) (kf : ¬ x = 0 → PW Γ M (pc + 3) l st h bc bs Q) : PW Γ M pc l (.int x :: st) h bc bs Q := by
  intro p lc e R s m args below meth c D Y σ base H locs cells slots ls Z C hP hS hL hc hs fin
  exact lv_if_eq C.1 C.2.1 hdg ht (fun q => kt q p lc e R s m args below meth c D Y σ base H locs cells slots ls Z C hP hS hL hc hs fin) (fun q => kf q p lc e R s m args below meth c D Y σ base H locs cells slots ls Z C hP hS hL hc hs fin)
theorem pw_icmp_eq {Γ : Nat × (Nat → Int32)} {M : MD} {pc : Nat} {l st : List Value} {h : PH} {bc bs : Nat} {Q : Option Value → PH → Prop} {x y : Int32} {off : Int} (tgt : Nat) (hdg : decode (mcode M) pc = .ok (.if_icmp .eq off, 3)) (ht : (pc : Int) + off = (tgt : Int)) (kt : x = y → PW Γ M tgt l st h bc bs Q) (kf : ¬ x = y → PW Γ M (pc + 3) l st h bc bs Q) : PW Γ M pc l (.int y :: .int x :: st) h bc bs Q := by
  intro p lc e R s m args below meth c D Y σ base H locs cells slots ls Z C hP hS hL hc hs fin
  exact lv_icmp_eq C.1 C.2.1 hdg ht (fun q => kt q p lc e R s m args below meth c D Y σ base H locs cells slots ls Z C hP hS hL hc hs fin) (fun q => kf q p lc e R s m args below meth c D Y σ base H locs cells slots ls Z C hP hS hL hc hs fin)
theorem pw_if_ne {Γ : Nat × (Nat → Int32)} {M : MD} {pc : Nat} {l st : List Value} {h : PH} {bc bs : Nat} {Q : Option Value → PH → Prop} {x : Int32} {off : Int} (tgt : Nat) (hdg : decode (mcode M) pc = .ok (.ifCond .ne off, 3)) (ht : (pc : Int) + off = (tgt : Int)) (kt : ¬ x = 0 → PW Γ M tgt l st h bc bs Q) (kf : x = 0 → PW Γ M (pc + 3) l st h bc bs Q) : PW Γ M pc l (.int x :: st) h bc bs Q := by
  intro p lc e R s m args below meth c D Y σ base H locs cells slots ls Z C hP hS hL hc hs fin
  exact lv_if_ne C.1 C.2.1 hdg ht (fun q => kt q p lc e R s m args below meth c D Y σ base H locs cells slots ls Z C hP hS hL hc hs fin) (fun q => kf q p lc e R s m args below meth c D Y σ base H locs cells slots ls Z C hP hS hL hc hs fin)
theorem pw_icmp_ne {Γ : Nat × (Nat → Int32)} {M : MD} {pc : Nat} {l st : List Value} {h : PH} {bc bs : Nat} {Q : Option Value → PH → Prop} {x y : Int32} {off : Int} (tgt : Nat) (hdg : decode (mcode M) pc = .ok (.if_icmp .ne off, 3)) (ht : (pc : Int) + off = (tgt : Int)) (kt : ¬ x = y → PW Γ M tgt l st h bc bs Q) (kf : x = y → PW Γ M (pc + 3) l st h bc bs Q) : PW Γ M pc l (.int y :: .int x :: st) h bc bs Q := by
  intro p lc e R s m args below meth c D Y σ base H locs cells slots ls Z C hP hS hL hc hs fin
  exact lv_icmp_ne C.1 C.2.1 hdg ht (fun q => kt q p lc e R s m args below meth c D Y σ base H locs cells slots ls Z C hP hS hL hc hs fin) (fun q => kf q p lc e R s m args below meth c D Y σ base H locs cells slots ls Z C hP hS hL hc hs fin)
theorem pw_if_lt {Γ : Nat × (Nat → Int32)} {M : MD} {pc : Nat} {l st : List Value} {h : PH} {bc bs : Nat} {Q : Option Value → PH → Prop} {x : Int32} {off : Int} (tgt : Nat) (hdg : decode (mcode M) pc = .ok (.ifCond .lt off, 3)) (ht : (pc : Int) + off = (tgt : Int)) (kt : x < 0 → PW Γ M tgt l st h bc bs Q) (kf : ¬ x < 0 → PW Γ M (pc + 3) l st h bc bs Q) : PW Γ M pc l (.int x :: st) h bc bs Q := by
  intro p lc e R s m args below meth c D Y σ base H locs cells slots ls Z C hP hS hL hc hs fin
  exact lv_if_lt C.1 C.2.1 hdg ht (fun q => kt q p lc e R s m args below meth c D Y σ base H locs cells slots ls Z C hP hS hL hc hs fin) (fun q => kf q p lc e R s m args below meth c D Y σ base H locs cells slots ls Z C hP hS hL hc hs fin)
theorem pw_icmp_lt {Γ : Nat × (Nat → Int32)} {M : MD} {pc : Nat} {l st : List Value} {h : PH} {bc bs : Nat} {Q : Option Value → PH → Prop} {x y : Int32} {off : Int} (tgt : Nat) (hdg : decode (mcode M) pc = .ok (.if_icmp .lt off, 3)) (ht : (pc : Int) + off = (tgt : Int)) (kt : x < y → PW Γ M tgt l st h bc bs Q) (kf : ¬ x < y → PW Γ M (pc + 3) l st h bc bs Q) : PW Γ M pc l (.int y :: .int x :: st) h bc bs Q := by
  intro p lc e R s m args below meth c D Y σ base H locs cells slots ls Z C hP hS hL hc hs fin
  exact lv_icmp_lt C.1 C.2.1 hdg ht (fun q => kt q p lc e R s m args below meth c D Y σ base H locs cells slots ls Z C hP hS hL hc hs fin) (fun q => kf q p lc e R s m args below meth c D Y σ base H locs cells slots ls Z C hP hS hL hc hs fin)
theorem pw_if_ge {Γ : Nat × (Nat → Int32)} {M : MD} {pc : Nat} {l st : List Value} {h : PH} {bc bs : Nat} {Q : Option Value → PH → Prop} {x : Int32} {off : Int} (tgt : Nat) (hdg : decode (mcode M) pc = .ok (.ifCond .ge off, 3)) (ht : (pc : Int) + off = (tgt : Int)) (kt : 0 ≤ x → PW Γ M tgt l st h bc bs Q) (kf : ¬ 0 ≤ x → PW Γ M (pc + 3) l st h bc bs Q) : PW Γ M pc l (.int x :: st) h bc bs Q := by
  intro p lc e R s m args below meth c D Y σ base H locs cells slots ls Z C hP hS hL hc hs fin
  exact lv_if_ge C.1 C.2.1 hdg ht (fun q => kt q p lc e R s m args below meth c D Y σ base H locs cells slots ls Z C hP hS hL hc hs fin) (fun q => kf q p lc e R s m args below meth c D Y σ base H locs cells slots ls Z C hP hS hL hc hs fin)
theorem pw_icmp_ge {Γ : Nat × (Nat → Int32)} {M : MD} {pc : Nat} {l st : List Value} {h : PH} {bc bs : Nat} {Q : Option Value → PH → Prop} {x y : Int32} {off : Int} (tgt : Nat) (hdg : decode (mcode M) pc = .ok (.if_icmp .ge off, 3)) (ht : (pc : Int) + off = (tgt : Int)) (kt : y ≤ x → PW Γ M tgt l st h bc bs Q) (kf : ¬ y ≤ x → PW Γ M (pc + 3) l st h bc bs Q) : PW Γ M pc l (.int y :: .int x :: st) h bc bs Q := by
  intro p lc e R s m args below meth c D Y σ base H locs cells slots ls Z C hP hS hL hc hs fin
  exact lv_icmp_ge C.1 C.2.1 hdg ht (fun q => kt q p lc e R s m args below meth c D Y σ base H locs cells slots ls Z C hP hS hL hc hs fin) (fun q => kf q p lc e R s m args below meth c D Y σ base H locs cells slots ls Z C hP hS hL hc hs fin)
theorem pw_if_gt {Γ : Nat × (Nat → Int32)} {M : MD} {pc : Nat} {l st : List Value} {h : PH} {bc bs : Nat} {Q : Option Value → PH → Prop} {x : Int32} {off : Int} (tgt : Nat) (hdg : decode (mcode M) pc = .ok (.ifCond .gt off, 3)) (ht : (pc : Int) + off = (tgt : Int)) (kt : 0 < x → PW Γ M tgt l st h bc bs Q) (kf : ¬ 0 < x → PW Γ M (pc + 3) l st h bc bs Q) : PW Γ M pc l (.int x :: st) h bc bs Q := by
  intro p lc e R s m args below meth c D Y σ base H locs cells slots ls Z C hP hS hL hc hs fin
  exact lv_if_gt C.1 C.2.1 hdg ht (fun q => kt q p lc e R s m args below meth c D Y σ base H locs cells slots ls Z C hP hS hL hc hs fin) (fun q => kf q p lc e R s m args below meth c D Y σ base H locs cells slots ls Z C hP hS hL hc hs fin)
theorem pw_icmp_gt {Γ : Nat × (Nat → Int32)} {M : MD} {pc : Nat} {l st : List Value} {h : PH} {bc bs : Nat} {Q : Option Value → PH → Prop} {x y : Int32} {off : Int} (tgt : Nat) (hdg : decode (mcode M) pc = .ok (.if_icmp .gt off, 3)) (ht : (pc : Int) + off = (tgt : Int)) (kt : y < x → PW Γ M tgt l st h bc bs Q) (kf : ¬ y < x → PW Γ M (pc + 3) l st h bc bs Q) : PW Γ M pc l (.int y :: .int x :: st) h bc bs Q := by
  intro p lc e R s m args below meth c D Y σ base H locs cells slots ls Z C hP hS hL hc hs fin
  exact lv_icmp_gt C.1 C.2.1 hdg ht (fun q => kt q p lc e R s m args below meth c D Y σ base H locs cells slots ls Z C hP hS hL hc hs fin) (fun q => kf q p lc e R s m args below meth c D Y σ base H locs cells slots ls Z C hP hS hL hc hs fin)
theorem pw_if_le {Γ : Nat × (Nat → Int32)} {M : MD} {pc : Nat} {l st : List Value} {h : PH} {bc bs : Nat} {Q : Option Value → PH → Prop} {x : Int32} {off : Int} (tgt : Nat) (hdg : decode (mcode M) pc = .ok (.ifCond .le off, 3)) (ht : (pc : Int) + off = (tgt : Int)) (kt : x ≤ 0 → PW Γ M tgt l st h bc bs Q) (kf : ¬ x ≤ 0 → PW Γ M (pc + 3) l st h bc bs Q) : PW Γ M pc l (.int x :: st) h bc bs Q := by
  intro p lc e R s m args below meth c D Y σ base H locs cells slots ls Z C hP hS hL hc hs fin
  exact lv_if_le C.1 C.2.1 hdg ht (fun q => kt q p lc e R s m args below meth c D Y σ base H locs cells slots ls Z C hP hS hL hc hs fin) (fun q => kf q p lc e R s m args below meth c D Y σ base H locs cells slots ls Z C hP hS hL hc hs fin)
theorem pw_icmp_le {Γ : Nat × (Nat → Int32)} {M : MD} {pc : Nat} {l st : List Value} {h : PH} {bc bs : Nat} {Q : Option Value → PH → Prop} {x y : Int32} {off : Int} (tgt : Nat) (hdg : decode (mcode M) pc = .ok (.if_icmp .le off, 3)) (ht : (pc : Int) + off = (tgt : Int)) (kt : x ≤ y → PW Γ M tgt l st h bc bs Q) (kf : ¬ x ≤ y → PW Γ M (pc + 3) l st h bc bs Q) : PW Γ M pc l (.int y :: .int x :: st) h bc bs Q := by
  intro p lc e R s m args below meth c D Y σ base H locs cells slots ls Z C hP hS hL hc hs fin
  exact lv_icmp_le C.1 C.2.1 hdg ht (fun q => kt q p lc e R s m args below meth c D Y σ base H locs cells slots ls Z C hP hS hL hc hs fin) (fun q => kf q p lc e R s m args below meth c D Y σ base H locs cells slots ls Z C hP hS hL hc hs fin)
theorem pw_goto {Γ : Nat × (Nat → Int32)} {M : MD} {pc : Nat} {l st : List Value} {h : PH} {bc bs : Nat} {Q : Option Value → PH → Prop} {off : Int} (tgt : Nat) (hdg : decode (mcode M) pc = .ok (.goto off, 3)) (ht : (pc : Int) + off = (tgt : Int)) (k : PW Γ M tgt l st h bc bs Q) : PW Γ M pc l st h bc bs Q := by
  intro p lc e R s m args below meth c D Y σ base H locs cells slots ls Z C hP hS hL hc hs fin
  exact lv_goto C.1 C.2.1 hdg ht (k p lc e R s m args below meth c D Y σ base H locs cells slots ls Z C hP hS hL hc hs fin)
theorem pw_tout {Γ : Nat × (Nat → Int32)} {M : MD} {pc : Nat} {l st : List Value} {h : PH} {bc bs : Nat} {Q : Option Value → PH → Prop} {x : Int32} {dflt lo hi : Int} {offs : Array Int} {len : Nat} (tgt : Nat) (hdg : decode (mcode M) pc = .ok (.tableswitch dflt lo hi offs, len)) (hx : x.toInt < lo ∨ hi < x.toInt) (ht : (pc : Int) + dflt = (tgt : Int)) (k : PW Γ M tgt l st h bc bs Q) : PW Γ M pc l (.int x :: st) h bc bs Q := by
  intro p lc e R s m args below meth c D Y σ base H locs cells slots ls Z C hP hS hL hc hs fin
  exact lv_tableOut C.1 C.2.1 hdg hx ht (k p lc e R s m args below meth c D Y σ base H locs cells slots ls Z C hP hS hL hc hs fin)
theorem pw_tin {Γ : Nat × (Nat → Int32)} {M : MD} {pc : Nat} {l st : List Value} {h : PH} {bc bs : Nat} {Q : Option Value → PH → Prop} {x : Int32} {dflt lo hi off : Int} {offs : Array Int} {len : Nat} (tgt : Nat) (hdg : decode (mcode M) pc = .ok (.tableswitch dflt lo hi offs, len)) (h1 : ¬ x.toInt < lo) (h2 : ¬ hi < x.toInt) (ho : offs[(x.toInt - lo).toNat]? = some off) (ht : (pc : Int) + off = (tgt : Int)) (k : PW Γ M tgt l st h bc bs Q) : PW Γ M pc l (.int x :: st) h bc bs Q := by
  intro p lc e R s m args below meth c D Y σ base H locs cells slots ls Z C hP hS hL hc hs fin
  exact lv_tableIn C.1 C.2.1 hdg h1 h2 ho ht (k p lc e R s m args below meth c D Y σ base H locs cells slots ls Z C hP hS hL hc hs fin)
/-- no value of two slots stands just below place i -/
def pnl (l : List Value) (i : Nat) : Bool := match i with
  | 0 => true
  | j + 1 => match l[j]? with
    | some v => v.category == 1
    | none => true
def plv_list (σ : Nat → Nat) (base : Nat) (l : List Value) : List (Nat × Value) := (List.range l.length).filterMap (fun i => match l[i]? with
  | some v => if v = .float 0 then none else some (i, pv σ base v)
  | none => none)
theorem plv_mem {σ : Nat → Nat} {base : Nat} {l : List Value} {q : Nat × Value} : q ∈ plv_list σ base l ↔ ∃ v, l[q.1]? = some v ∧ ¬ v = .float 0 ∧ q.2 = pv σ base v := by
  unfold plv_list
  rw [List.mem_filterMap]
  constructor
  · rintro ⟨i, hi, h⟩
    cases hv : l[i]? with
    | none => simp [hv] at h
    | some v =>
      simp only [hv] at h
      by_cases hf : v = .float 0
      · simp [hf] at h
      · rw [if_neg hf] at h
        cases h
        exact ⟨v, hv, hf, rfl⟩
  · rintro ⟨v, hv, hf, h2⟩
    refine ⟨q.1, List.mem_range.mpr (List.getElem?_eq_some_iff.mp hv).1, ?_⟩
    simp only [hv, if_neg hf]
    rw [← h2]
theorem plv_has {σ : Nat → Nat} {base n : Nat} {ls : Array Slot} {l : List Value} (h : plv σ base ls n l) : lv_has ls n (plv_list σ base l) := by
  refine ⟨h.1, h.2.1, fun q hq => ?_⟩
  obtain ⟨v, hv, hf, h2⟩ := plv_mem.mp hq
  rw [h2]
  exact h.2.2 _ _ hv hf
theorem plv_store {σ : Nat → Nat} {base n i : Nat} {ls : Array Slot} {l : List Value} {v : Value} (hn : pnl l i = true) (h : lv_has ls n ((i, pv σ base v) :: (plv_list σ base l).filter (fun q => !(q.1 == i) && !(q.1 + 1 == i && q.2.category == 2)))) : plv σ base ls n (l.set i v) := by
  refine ⟨h.1, h.2.1, fun j w hw hf => ?_⟩
  by_cases hj : j = i
  · subst hj
    have hl : j < l.length := by
      have := (List.getElem?_eq_some_iff.mp hw).1
      simpa using this
    rw [List.getElem?_set_self hl] at hw
    cases hw
    exact h.2.2 _ List.mem_cons_self
  · rw [List.getElem?_set_ne (Ne.symm hj)] at hw
    refine h.2.2 (j, pv σ base w) (List.mem_cons_of_mem _ (List.mem_filter.mpr ⟨plv_mem.mpr ⟨w, hw, hf, rfl⟩, ?_⟩))
    have e1 : (j == i) = false := by simpa using hj
    simp only [e1, Bool.not_false, Bool.true_and, Bool.not_eq_true']
    by_cases h2 : j + 1 = i
    · subst h2
      have hc : w.category = 1 := by
        simp only [pnl, hw] at hn
        simpa using hn
      simp [pv_cat, hc]
    · simp [h2]
theorem pw_istore {Γ : Nat × (Nat → Int32)} {M : MD} {pc : Nat} {l st : List Value} {h : PH} {bc bs : Nat} {Q : Option Value → PH → Prop} {i : Nat} {x : Int32} (hdg : decode (mcode M) pc = .ok (.istore i, 2)) (hi : i < mxl M) (hn : pnl l i = true) (k : PW Γ M (pc + 2) (l.set i (.int x)) st h bc bs Q) : PW Γ M pc l (.int x :: st) h bc bs Q := by
  intro p lc e R s m args below meth c D Y σ base H locs cells slots ls Z C hP hS hL hc hs fin
  exact lv_istore C.1 C.2.1 hdg (plv_has hL) hi rfl (fun ls' h' => k p lc e R s m args below meth c D Y σ base H locs cells slots ls' Z C hP hS (plv_store hn h') hc hs fin)
theorem pw_istore_n {Γ : Nat × (Nat → Int32)} {M : MD} {pc : Nat} {l st : List Value} {h : PH} {bc bs : Nat} {Q : Option Value → PH → Prop} {i : Fin 4} {x : Int32} (hdg : decode (mcode M) pc = .ok (.istore_n i, 1)) (hi : (i : Nat) < mxl M) (hn : pnl l (i : Nat) = true) (k : PW Γ M (pc + 1) (l.set (i : Nat) (.int x)) st h bc bs Q) : PW Γ M pc l (.int x :: st) h bc bs Q := by
  intro p lc e R s m args below meth c D Y σ base H locs cells slots ls Z C hP hS hL hc hs fin
  exact lv_istore_n C.1 C.2.1 hdg rfl (plv_has hL) hi rfl (fun ls' h' => k p lc e R s m args below meth c D Y σ base H locs cells slots ls' Z C hP hS (plv_store hn h') hc hs fin)
theorem pw_astore {Γ : Nat × (Nat → Int32)} {M : MD} {pc : Nat} {l st : List Value} {h : PH} {bc bs : Nat} {Q : Option Value → PH → Prop} {i : Nat} {x : Nat} (hdg : decode (mcode M) pc = .ok (.astore i, 2)) (hi : i < mxl M) (hn : pnl l i = true) (k : PW Γ M (pc + 2) (l.set i (.ref x)) st h bc bs Q) : PW Γ M pc l (.ref x :: st) h bc bs Q := by
  intro p lc e R s m args below meth c D Y σ base H locs cells slots ls Z C hP hS hL hc hs fin
  exact lv_astore C.1 C.2.1 hdg (plv_has hL) hi rfl (fun ls' h' => k p lc e R s m args below meth c D Y σ base H locs cells slots ls' Z C hP hS (plv_store hn h') hc hs fin)
theorem pw_astore_n {Γ : Nat × (Nat → Int32)} {M : MD} {pc : Nat} {l st : List Value} {h : PH} {bc bs : Nat} {Q : Option Value → PH → Prop} {i : Fin 4} {x : Nat} (hdg : decode (mcode M) pc = .ok (.astore_n i, 1)) (hi : (i : Nat) < mxl M) (hn : pnl l (i : Nat) = true) (k : PW Γ M (pc + 1) (l.set (i : Nat) (.ref x)) st h bc bs Q) : PW Γ M pc l (.ref x :: st) h bc bs Q := by
  intro p lc e R s m args below meth c D Y σ base H locs cells slots ls Z C hP hS hL hc hs fin
  exact lv_astore_n C.1 C.2.1 hdg rfl (plv_has hL) hi rfl (fun ls' h' => k p lc e R s m args below meth c D Y σ base H locs cells slots ls' Z C hP hS (plv_store hn h') hc hs fin)
theorem pw_astoreS {Γ : Nat × (Nat → Int32)} {M : MD} {pc : Nat} {l st : List Value} {h : PH} {bc bs : Nat} {Q : Option Value → PH → Prop} {i : Nat} {x : Nat} (hdg : decode (mcode M) pc = .ok (.astore i, 2)) (hi : i < mxl M) (hn : pnl l i = true) (k : PW Γ M (pc + 2) (l.set i (.retAddr x)) st h bc bs Q) : PW Γ M pc l (.retAddr x :: st) h bc bs Q := by
  intro p lc e R s m args below meth c D Y σ base H locs cells slots ls Z C hP hS hL hc hs fin
  exact lv_astore C.1 C.2.1 hdg (plv_has hL) hi rfl (fun ls' h' => k p lc e R s m args below meth c D Y σ base H locs cells slots ls' Z C hP hS (plv_store hn h') hc hs fin)
theorem pw_astore_nS {Γ : Nat × (Nat → Int32)} {M : MD} {pc : Nat} {l st : List Value} {h : PH} {bc bs : Nat} {Q : Option Value → PH → Prop} {i : Fin 4} {x : Nat} (hdg : decode (mcode M) pc = .ok (.astore_n i, 1)) (hi : (i : Nat) < mxl M) (hn : pnl l (i : Nat) = true) (k : PW Γ M (pc + 1) (l.set (i : Nat) (.retAddr x)) st h bc bs Q) : PW Γ M pc l (.retAddr x :: st) h bc bs Q := by
  intro p lc e R s m args below meth c D Y σ base H locs cells slots ls Z C hP hS hL hc hs fin
  exact lv_astore_n C.1 C.2.1 hdg rfl (plv_has hL) hi rfl (fun ls' h' => k p lc e R s m args below meth c D Y σ base H locs cells slots ls' Z C hP hS (plv_store hn h') hc hs fin)
theorem pw_iinc {Γ : Nat × (Nat → Int32)} {M : MD} {pc : Nat} {l st : List Value} {h : PH} {bc bs : Nat} {Q : Option Value → PH → Prop} {i : Nat} {n : Int} {x : Int32} (d : Int32) (hdg : decode (mcode M) pc = .ok (.iinc i n, 3)) (hd : Int32.ofInt n = d) (hl : l[i]? = some (.int x)) (hi : i < mxl M) (hn : pnl l i = true) (k : PW Γ M (pc + 3) (l.set i (.int (x + d))) st h bc bs Q) : PW Γ M pc l st h bc bs Q := by
  intro p lc e R s m args below meth c D Y σ base H locs cells slots ls Z C hP hS hL hc hs fin
  obtain ⟨j, hj⟩ := List.getElem?_of_mem (plv_mem.mpr ⟨_, hl, (fun q => by cases q), rfl⟩ : (i, pv σ base (.int x)) ∈ plv_list σ base l)
  exact lv_iinc C.1 C.2.1 hdg (plv_has hL) hj (by rw [hd]) hi rfl (fun ls' h' => k p lc e R s m args below meth c D Y σ base H locs cells slots ls' Z C hP hS (plv_store hn h') hc hs fin)
theorem pw_iret {Γ : Nat × (Nat → Int32)} {M : MD} {pc : Nat} {l : List Value} {h : PH} {bc bs : Nat} {Q : Option Value → PH → Prop} {x : Int32} (hdg : decode (mcode M) pc = .ok (.ireturn, 1)) (hr : mret M = some .int ∨ (mret M = some .boolean ∧ narrow .boolean (.int x) = .int x)) (k : Q (some (.int x)) h) : PW Γ M pc l [.int x] h bc bs Q := by
  intro p lc e R s m args below meth c D Y σ base H locs cells slots ls Z C hP hS hL hc hs fin
  exact fin (some (.int x)) h H locs cells slots ls pc k hP hS (by omega) (by omega) ⟨hdg, hr⟩
theorem pw_lret {Γ : Nat × (Nat → Int32)} {M : MD} {pc : Nat} {l : List Value} {h : PH} {bc bs : Nat} {Q : Option Value → PH → Prop} {x : Int64} (hdg : decode (mcode M) pc = .ok (.lreturn, 1)) (hr : mret M = some .long) (k : Q (some (.long x)) h) : PW Γ M pc l [.long x] h bc bs Q := by
  intro p lc e R s m args below meth c D Y σ base H locs cells slots ls Z C hP hS hL hc hs fin
  exact fin (some (.long x)) h H locs cells slots ls pc k hP hS (by omega) (by omega) ⟨hdg, hr⟩
theorem pw_aret {Γ : Nat × (Nat → Int32)} {M : MD} {pc : Nat} {l : List Value} {h : PH} {bc bs : Nat} {Q : Option Value → PH → Prop} {x : Nat} {E : String} (hdg : decode (mcode M) pc = .ok (.areturn, 1)) (hr : mret M = some (.object E)) (k : Q (some (.ref x)) h) : PW Γ M pc l [.ref x] h bc bs Q := by
  intro p lc e R s m args below meth c D Y σ base H locs cells slots ls Z C hP hS hL hc hs fin
  exact fin (some (.ref x)) h H locs cells slots ls pc k hP hS (by omega) (by omega) ⟨hdg, _, hr⟩
theorem pw_vret {Γ : Nat × (Nat → Int32)} {M : MD} {pc : Nat} {l : List Value} {h : PH} {bc bs : Nat} {Q : Option Value → PH → Prop} (hdg : decode (mcode M) pc = .ok (.return_, 1)) (hr : mret M = none) (k : Q none h) : PW Γ M pc l [] h bc bs Q := by
  intro p lc e R s m args below meth c D Y σ base H locs cells slots ls Z C hP hS hL hc hs fin
  exact fin none h H locs cells slots ls pc k hP hS (by omega) (by omega) ⟨hdg, hr⟩
