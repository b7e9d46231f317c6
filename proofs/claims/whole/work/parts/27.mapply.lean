/-! the reference's apply -/
section
variable {Γ : Nat × (Nat → Int32)} {F A : Nat → Nat → Int32} {rf : Nat} {lo : Int64} {X : PH} {Q : Option Value → PH → Prop} {n v : Nat} {g o : Nat → Int32}
theorem mbl_loop {g : Nat → Int32} : ∀ (k i : Nat), i + k = 256 →
    PW Γ mX11_beginList 22 [.ref 57, .int (nI 256)] [] (HS F (stA A 71 (cpn (fun b => nI b) g 256)) rf lo X) 0 0 Q →
    PW Γ mX11_beginList 2 [.ref 57, .int (nI i)] [] (HS F (stA A 71 (cpn (fun b => nI b) g i)) rf lo X) 0 0 Q := by
  intro k
  induction k with
  | zero =>
    intro i hi hk
    have hi : i = 256 := by omega
    subst hi
    refine pw_iload_n rfl dX11_beginList_2 ?_
    refine pw_sipush 256 (by decide) dX11_beginList_3 ?_
    refine pw_icmp_ge 22 dX11_beginList_6 (by decide) (fun _ => ?_) (fun q => absurd (by decide) q)
    exact hk
  | succ k ih =>
    intro i hi hk
    refine pw_iload_n rfl dX11_beginList_2 ?_
    refine pw_sipush 256 (by decide) dX11_beginList_3 ?_
    refine pw_icmp_ge 22 dX11_beginList_6 (by decide) (fun q => absurd q (nI_ge (b := 256) (by omega) (by omega))) (fun _ => ?_)
    refine pw_aload_n rfl dX11_beginList_9 ?_
    refine pw_gC dX11_beginList_10 fX11_49 (by first | rfl | assumption) rfl (by first | rfl | assumption) ?_
    refine pw_iload_n rfl dX11_beginList_13 ?_
    refine pw_iload_n rfl dX11_beginList_14 ?_
    refine pw_sI dX11_beginList_15 (by first | rfl | assumption) (by first | assumption | exact vp_in_nI (by omega) (by omega)) ?_
    refine ps_iinc (l' := [_, _]) 1 dX11_beginList_16 (by decide) rfl (by decide) rfl rfl ?_
    refine pw_goto 2 dX11_beginList_19 (by decide) ?_
    rw [nI_clamp (by omega), stA_s, cpn_step rfl, stA_stA, nI_1]
    exact ih (i + 1) (by omega) hk
theorem m_beginList (hQ : Q none (HS F (stA A 71 (cpn (fun b => nI b) (A 71) 256)) rf lo X)) : PM Γ mX11_beginList [.ref 57] (HS F A rf lo X) 0 0 Q := by
  refine PM.go (l := [_, .float 0]) rfl rfl (Nat.le_of_ble_eq_true rfl) rfl ?_
  refine pw_iconst 0 (by decide) dX11_beginList_0 ?_
  refine ps_istore_n (l' := [_, _]) dX11_beginList_1 (by decide) rfl rfl ?_
  have e : HS F A rf lo X = HS F (stA A 71 (cpn (fun b => nI b) (A 71) 0)) rf lo X := by rw [stA_self cpn_0]
  rw [e]
  refine mbl_loop 256 0 (by omega) ?_
  refine pw_vret dX11_beginList_22 rfl ?_
  exact hQ
/-- while what stands below place a moves up, down to k -/
def shd (o : Nat → Int32) (a k : Nat) : Nat → Int32 := fun j => if k < j ∧ j ≤ a then o (j - 1) else o j
theorem shd_s {o : Nat → Int32} {a k : Nat} (h : k + 1 ≤ a) : upd (shd o a (k + 1)) (k + 1) (o k) = shd o a k := by
  funext j
  unfold upd shd
  by_cases h1 : j = k + 1
  · subst h1
    rw [if_pos rfl, if_pos ⟨by omega, h⟩]
    rfl
  · rw [if_neg h1]
    by_cases h2 : k + 1 < j ∧ j ≤ a
    · rw [if_pos h2, if_pos ⟨by omega, h2.2⟩]
    · rw [if_neg h2, if_neg (fun q => h2 ⟨by omega, q.2⟩)]
theorem shd_m {o : Nat → Int32} {a : Nat} : upd (shd o a 0) 0 (o a) = mtf o a := by
  funext j
  unfold upd shd mtf
  by_cases h : j = 0
  · rw [if_pos h, if_pos h]
  · rw [if_neg h, if_neg h]
    by_cases h2 : j ≤ a
    · rw [if_pos ⟨by omega, h2⟩, if_pos h2]
    · rw [if_neg (fun q => h2 q.2), if_neg h2]
theorem mfr_loop {a : Nat} {b : Int32} (ha : a < 256) : ∀ (k : Nat), k ≤ a →
    PW Γ mX11_front 33 [.ref 57, .int (nI a), .int b, .int (nI 0)] [] (HS F (stA A 71 (shd o a 0)) rf lo X) 0 0 Q →
    PW Γ mX11_front 9 [.ref 57, .int (nI a), .int b, .int (nI k)] [] (HS F (stA A 71 (shd o a k)) rf lo X) 0 0 Q := by
  intro k
  induction k with
  | zero =>
    intro hk2 hk
    refine pw_iload_n rfl dX11_front_9 ?_
    refine pw_if_le 33 dX11_front_10 (by decide) (fun _ => ?_) (fun q => absurd (by decide) q)
    exact hk
  | succ k ih =>
    intro hk2 hk
    refine pw_iload_n rfl dX11_front_9 ?_
    refine pw_if_le 33 dX11_front_10 (by decide) (fun q => absurd q (nI_ge (a := 0) (by omega) (by omega))) (fun _ => ?_)
    refine pw_aload_n rfl dX11_front_13 ?_
    refine pw_gC dX11_front_14 fX11_49 (by first | rfl | assumption) rfl (by first | rfl | assumption) ?_
    refine pw_iload_n rfl dX11_front_17 ?_
    refine pw_aload_n rfl dX11_front_18 ?_
    refine pw_gC dX11_front_19 fX11_49 (by first | rfl | assumption) rfl (by first | rfl | assumption) ?_
    refine pw_iload_n rfl dX11_front_22 ?_
    refine pw_iconst 1 (by decide) dX11_front_23 ?_
    refine pw_isub dX11_front_24 ?_
    rw [nI_pred]
    refine pw_aI dX11_front_25 (by first | rfl | assumption) (by first | assumption | exact vp_in_nI (by omega) (by omega)) ?_
    refine pw_sI dX11_front_26 (by first | rfl | assumption) (by first | assumption | exact vp_in_nI (by omega) (by omega)) ?_
    refine ps_iinc (l' := [_, _, _, _]) (-1) dX11_front_27 (by decide) rfl (by decide) rfl rfl ?_
    refine pw_goto 9 dX11_front_30 (by decide) ?_
    have e : shd o a (k + 1) k = o k := by
      unfold shd
      rw [if_neg (by omega)]
    rw [stA_s, nI_clamp (by omega), nI_clamp (by omega), e, shd_s hk2, stA_stA, pk_m1]
    exact ih (by omega) hk
theorem m_front {a : Nat} (ha : a < 256) (hQ : Q none (HS F (stA A 71 (mtf (A 71) a)) rf lo X)) : PM Γ mX11_front [.ref 57, .int (nI a)] (HS F A rf lo X) 0 0 Q := by
  refine PM.go (l := [_, _, .float 0, .float 0]) rfl rfl (Nat.le_of_ble_eq_true rfl) rfl ?_
  refine pw_aload_n rfl dX11_front_0 ?_
  refine pw_gC dX11_front_1 fX11_49 (by first | rfl | assumption) rfl (by first | rfl | assumption) ?_
  refine pw_iload_n rfl dX11_front_4 ?_
  refine pw_aI dX11_front_5 (by first | rfl | assumption) (by first | assumption | exact vp_in_nI (by omega) (by omega)) ?_
  refine ps_istore_n (l' := [_, _, _, _]) dX11_front_6 (by decide) rfl rfl ?_
  refine pw_iload_n rfl dX11_front_7 ?_
  refine ps_istore_n (l' := [_, _, _, _]) dX11_front_8 (by decide) rfl rfl ?_
  rw [nI_clamp (by omega)]
  have e : HS F A rf lo X = HS F (stA A 71 (shd (A 71) a a)) rf lo X := by
    rw [stA_self]
    funext j
    unfold shd
    rw [if_neg (by omega)]
  rw [e]
  refine mfr_loop ha a (Nat.le_refl _) ?_
  refine pw_aload_n rfl dX11_front_33 ?_
  refine pw_gC dX11_front_34 fX11_49 (by first | rfl | assumption) rfl (by first | rfl | assumption) ?_
  refine pw_iconst 0 (by decide) dX11_front_37 ?_
  refine pw_iload_n rfl dX11_front_38 ?_
  refine pw_sI dX11_front_39 (by first | rfl | assumption) (vp_in_nI (n := 0) (by decide) (by decide)) ?_
  refine pw_vret dX11_front_40 rfl ?_
  rw [stA_s, stA_stA, show (0 : Int32).toNatClampNeg = 0 from rfl, shd_m]
  exact hQ
theorem mpl_loop {b q : Nat} (hq : q < 256) (e : A 71 q = nI b) (hlt : ∀ j, j < q → ¬ A 71 j = nI b) : ∀ (k p : Nat), p + k = q →
    Q (some (.int (nI q))) (HS F A rf lo X) →
    PW Γ mX11_placeOf 2 [.ref 57, .int (nI b), .int (nI p)] [] (HS F A rf lo X) 0 0 Q := by
  intro k
  induction k with
  | zero =>
    intro p hp hk
    have hp : p = q := by omega
    subst hp
    refine pw_aload_n rfl dX11_placeOf_2 ?_
    refine pw_gC dX11_placeOf_3 fX11_49 (by first | rfl | assumption) rfl (by first | rfl | assumption) ?_
    refine pw_iload_n rfl dX11_placeOf_6 ?_
    refine pw_aI dX11_placeOf_7 (by first | rfl | assumption) (by first | assumption | exact vp_in_nI (by omega) (by omega)) ?_
    refine pw_iload_n rfl dX11_placeOf_8 ?_
    rw [nI_clamp (by omega)]
    refine pw_icmp_eq 18 dX11_placeOf_9 (by decide) (fun _ => ?_) (fun q => absurd (e) q)
    refine pw_iload_n rfl dX11_placeOf_18 ?_
    refine pw_iret dX11_placeOf_19 (Or.inl rfl) ?_
    exact hk
  | succ k ih =>
    intro p hp hk
    refine pw_aload_n rfl dX11_placeOf_2 ?_
    refine pw_gC dX11_placeOf_3 fX11_49 (by first | rfl | assumption) rfl (by first | rfl | assumption) ?_
    refine pw_iload_n rfl dX11_placeOf_6 ?_
    refine pw_aI dX11_placeOf_7 (by first | rfl | assumption) (by first | assumption | exact vp_in_nI (by omega) (by omega)) ?_
    refine pw_iload_n rfl dX11_placeOf_8 ?_
    rw [nI_clamp (by omega)]
    refine pw_icmp_eq 18 dX11_placeOf_9 (by decide) (fun q => absurd q (hlt p (by omega))) (fun _ => ?_)
    refine ps_iinc (l' := [_, _, _]) 1 dX11_placeOf_12 (by decide) rfl (by decide) rfl rfl ?_
    refine pw_goto 2 dX11_placeOf_15 (by decide) ?_
    rw [nI_1]
    exact ih (p + 1) (by omega) hk
theorem m_placeOf {b : Nat} (hb : b < 256) (ho : perm (A 71)) (hQ : Q (some (.int (nI (pos (A 71) (nI b) 256 0)))) (HS F A rf lo X)) : PM Γ mX11_placeOf [.ref 57, .int (nI b)] (HS F A rf lo X) 0 0 Q := by
  obtain ⟨p1, p2, p3⟩ := pos_perm ho hb
  refine PM.go (l := [_, _, .float 0]) rfl rfl (Nat.le_of_ble_eq_true rfl) rfl ?_
  refine pw_iconst 0 (by decide) dX11_placeOf_0 ?_
  refine ps_istore_n (l' := [_, _, _]) dX11_placeOf_1 (by decide) rfl rfl ?_
  exact mpl_loop p1 p2 p3 (pos (A 71) (nI b) 256 0) 0 (by omega) hQ
/-- the world in which the list is o, the other row g, the row f -/
def AS (F A : Nat → Nat → Int32) (o g f : Nat → Int32) (rf : Nat) (lo : Int64) (X : PH) : PH := HS F (stA (stA (stA A 71 o) 64 g) 63 f) rf lo X
theorem mcp_loop {g : Nat → Int32} {x1 x2 x4 x5 x6 : Int32} {y : Value} (hn : n ≤ 300) : ∀ (k i : Nat) (f : Nat → Int32), i + k = n → (∀ j, j < i → f j = g j) →
    (∀ f l, (∀ j, j < n → f j = g j) → PW Γ mX11_apply 283 l [] (AS F A o g f rf lo X) 0 0 Q) →
    PW Γ mX11_apply 257 [.ref 57, .int x1, .int x2, .int (nI n), .int x4, .int x5, .int x6, .int (nI i), y] [] (AS F A o g f rf lo X) 0 0 Q := by
  intro k
  induction k with
  | zero =>
    intro i f hi hf hk
    have hi : i = n := by omega
    subst hi
    refine pw_iload rfl dX11_apply_257 ?_
    refine pw_iload_n rfl dX11_apply_259 ?_
    refine pw_icmp_ge 283 dX11_apply_260 (by decide) (fun _ => ?_) (fun q => absurd (nI_le (Nat.le_refl _) (by omega)) q)
    exact hk f _ hf
  | succ k ih =>
    intro i f hi hf hk
    unfold AS
    refine pw_iload rfl dX11_apply_257 ?_
    refine pw_iload_n rfl dX11_apply_259 ?_
    refine pw_icmp_ge 283 dX11_apply_260 (by decide) (fun q => absurd q (nI_ge (by omega) (by omega))) (fun _ => ?_)
    refine pw_aload_n rfl dX11_apply_263 ?_
    refine pw_gC dX11_apply_264 fX11_25 (by first | rfl | assumption) rfl (by first | rfl | assumption) ?_
    refine pw_iload rfl dX11_apply_267 ?_
    refine pw_aload_n rfl dX11_apply_269 ?_
    refine pw_gC dX11_apply_270 fX11_28 (by first | rfl | assumption) rfl (by first | rfl | assumption) ?_
    refine pw_iload rfl dX11_apply_273 ?_
    refine pw_aI dX11_apply_275 (by first | rfl | assumption) (by first | assumption | exact vp_in_nI (by omega) (by omega)) ?_
    refine pw_sI dX11_apply_276 (by first | rfl | assumption) (by first | assumption | exact vp_in_nI (by omega) (by omega)) ?_
    refine ps_iinc (l' := [_, _, _, _, _, _, _, _, _]) 1 dX11_apply_277 (by decide) rfl (by decide) rfl rfl ?_
    refine pw_goto 257 dX11_apply_280 (by decide) ?_
    rw [stA_s, stA_stA, stA_n (by decide), stA_s, nI_clamp (by omega), nI_1]
    refine ih (i + 1) _ (by omega) (fun j hj => ?_) hk
    unfold upd
    split
    · rename_i z; rw [z]
    · exact hf j (by omega)
theorem rem256 {a : Nat} (h : a < 2 ^ 31) : nI a - nI a / 256 * 256 = nI (a % 256) := pk_rem (d := 256) h (by decide) (by decide)
theorem map1_loop {f : Nat → Int32} {x4 x5 x6 : Int32} (hn : n ≤ 300) (hB : isB f n) (hv : 1 ≤ v ∧ v ≤ 8) (bk : Bool) (hx4 : x4 = if bk then 1 else 0) : ∀ (k i : Nat) (g : Nat → Int32) (y : Value), i + k = n → (∀ j, j < i → g j = if bk then udel f v (j + 1) j else fdel f v j) →
    (∀ g y, (∀ j, j < n → g j = if bk then udel f v (j + 1) j else fdel f v j) → PW Γ mX11_apply 254 [.ref 57, .int 1, .int (nI v), .int (nI n), .int x4, .int x5, .int x6, .int (nI n), y] [] (AS F A o g f rf lo X) 0 0 Q) →
    PW Γ mX11_apply 13 [.ref 57, .int 1, .int (nI v), .int (nI n), .int x4, .int x5, .int x6, .int (nI i), y] [] (AS F A o g f rf lo X) 0 0 Q := by
  intro k
  induction k with
  | zero =>
    intro i g y hi hg hk
    have hi : i = n := by omega
    subst hi
    refine pw_iload rfl dX11_apply_13 ?_
    refine pw_iload_n rfl dX11_apply_15 ?_
    refine pw_icmp_ge 254 dX11_apply_16 (by decide) (fun _ => ?_) (fun q => absurd (nI_le (Nat.le_refl _) (by omega)) q)
    exact hk g _ hg
  | succ k ih =>
    intro i g y hi hg hk
    obtain ⟨ha, ha2⟩ := isB_bN hB (show i < n by omega)
    unfold AS
    refine pw_iload rfl dX11_apply_13 ?_
    refine pw_iload_n rfl dX11_apply_15 ?_
    refine pw_icmp_ge 254 dX11_apply_16 (by decide) (fun q => absurd q (nI_ge (by omega) (by omega))) (fun _ => ?_)
    refine pw_iload_n rfl dX11_apply_19 ?_
    refine pw_iconst 1 (by decide) dX11_apply_20 ?_
    refine pw_icmp_ne 100 dX11_apply_21 (by decide) (fun q => absurd (rfl) q) (fun _ => ?_)
    refine pw_iload rfl dX11_apply_24 ?_
    refine pw_iload_n rfl dX11_apply_26 ?_
    have key : ∀ (q : Nat), q < 256 → (if bk then udel f v (i + 1) i else fdel f v i) = nI ((bN (f i) + (if bk then q else 256 - q)) % 256) →
        PW Γ mX11_apply 60 [.ref 57, .int 1, .int (nI v), .int (nI n), .int x4, .int x5, .int x6, .int (nI i), y] [.int (nI q)] (AS F A o g f rf lo X) 0 0 Q := by
      intro q hq hs
      unfold AS
      refine ps_istore (l' := [_, _, _, _, _, _, _, _, _]) dX11_apply_60 (by decide) rfl rfl ?_
      refine pw_aload_n rfl dX11_apply_62 ?_
      refine pw_gC dX11_apply_63 fX11_28 (by first | rfl | assumption) rfl (by first | rfl | assumption) ?_
      refine pw_iload rfl dX11_apply_66 ?_
      refine pw_aload_n rfl dX11_apply_68 ?_
      refine pw_gC dX11_apply_69 fX11_25 (by first | rfl | assumption) rfl (by first | rfl | assumption) ?_
      refine pw_iload rfl dX11_apply_72 ?_
      refine pw_aI dX11_apply_74 (by first | rfl | assumption) (by first | assumption | exact vp_in_nI (by omega) (by omega)) ?_
      refine pw_iload rfl dX11_apply_75 ?_
      rw [stA_s, nI_clamp (by omega), ha]
      cases bk with
      | true =>
        subst hx4
        refine pw_if_eq 85 dX11_apply_77 (by decide) (fun q => absurd q (by decide)) (fun _ => ?_)
        refine pw_iload rfl dX11_apply_80 ?_
        refine pw_goto 91 dX11_apply_82 (by decide) ?_
        refine pw_iadd dX11_apply_91 ?_
        refine pw_sipush 256 (by decide) dX11_apply_92 ?_
        rw [nI_add]
        refine pw_irem (by decide) dX11_apply_95 ?_
        refine pw_sI dX11_apply_96 (by first | rfl | assumption) (by first | assumption | exact vp_in_nI (by omega) (by omega)) ?_
        refine pw_goto 248 dX11_apply_97 (by decide) ?_
        refine ps_iinc (l' := [_, _, _, _, _, _, _, _, _]) 1 dX11_apply_248 (by decide) rfl (by decide) rfl rfl ?_
        refine pw_goto 13 dX11_apply_251 (by decide) ?_
        rw [rem256 (by omega), nI_clamp (by omega), nI_1, stA_n (by decide), stA_s, stA_comm (i := 63) (j := 64) (by decide), stA_stA]
        refine ih (i + 1) _ _ (by omega) (fun j hj => ?_) hk
        unfold upd
        split
        · rename_i z
          rw [z, hs]
          rfl
        · exact hg j (by omega)
      | false =>
        subst hx4
        refine pw_if_eq 85 dX11_apply_77 (by decide) (fun _ => ?_) (fun q => absurd (by decide) q)
        refine pw_sipush 256 (by decide) dX11_apply_85 ?_
        refine pw_iload rfl dX11_apply_88 ?_
        refine pw_isub dX11_apply_90 ?_
        rw [show (256 : Int32) - nI q = nI (256 - q) from pk_sub (a := 256) (by omega)]
        refine pw_iadd dX11_apply_91 ?_
        refine pw_sipush 256 (by decide) dX11_apply_92 ?_
        rw [nI_add]
        refine pw_irem (by decide) dX11_apply_95 ?_
        refine pw_sI dX11_apply_96 (by first | rfl | assumption) (by first | assumption | exact vp_in_nI (by omega) (by omega)) ?_
        refine pw_goto 248 dX11_apply_97 (by decide) ?_
        refine ps_iinc (l' := [_, _, _, _, _, _, _, _, _]) 1 dX11_apply_248 (by decide) rfl (by decide) rfl rfl ?_
        refine pw_goto 13 dX11_apply_251 (by decide) ?_
        rw [rem256 (by omega), nI_clamp (by omega), nI_1, stA_n (by decide), stA_s, stA_comm (i := 63) (j := 64) (by decide), stA_stA]
        refine ih (i + 1) _ _ (by omega) (fun j hj => ?_) hk
        unfold upd
        split
        · rename_i z
          rw [z, hs]
          rfl
        · exact hg j (by omega)
    by_cases hiv : i < v
    · refine pw_icmp_ge 34 dX11_apply_27 (by decide) (fun q => absurd q (nI_ge hiv (by omega))) (fun _ => ?_)
      refine pw_iconst 0 (by decide) dX11_apply_30 ?_
      refine pw_goto 60 dX11_apply_31 (by decide) ?_
      refine key 0 (by omega) ?_
      cases bk with
      | true =>
        show (if i < v then f i else nI ((bN (f i) + bN (udel f v i (i - v))) % 256)) = nI ((bN (f i) + 0) % 256)
        rw [if_pos hiv, Nat.add_zero, Nat.mod_eq_of_lt ha2]
        exact ha
      | false =>
        show fdel f v i = nI ((bN (f i) + 256) % 256)
        unfold fdel
        rw [if_pos hiv, Nat.add_mod_right, Nat.mod_eq_of_lt ha2]
        exact ha
    · refine pw_icmp_ge 34 dX11_apply_27 (by decide) (fun _ => ?_) (fun q => absurd (nI_le (by omega) (by omega)) q)
      refine pw_iload rfl dX11_apply_34 ?_
      cases bk with
      | true =>
        subst hx4
        obtain ⟨b, hb2, hb⟩ := udel_B (v := v) hB (i - v + 1) (i - v) (by omega)
        refine pw_if_eq 51 dX11_apply_36 (by decide) (fun q => absurd q (by decide)) (fun _ => ?_)
        refine pw_aload_n rfl dX11_apply_39 ?_
        refine pw_gC dX11_apply_40 fX11_28 (by first | rfl | assumption) rfl (by first | rfl | assumption) ?_
        refine pw_iload rfl dX11_apply_43 ?_
        refine pw_iload_n rfl dX11_apply_45 ?_
        refine pw_isub dX11_apply_46 ?_
        rw [pk_sub (by omega)]
        refine pw_aI dX11_apply_47 (by first | rfl | assumption) (by first | assumption | exact vp_in_nI (by omega) (by omega)) ?_
        refine pw_goto 60 dX11_apply_48 (by decide) ?_
        rw [stA_n (by decide), stA_s, nI_clamp (by omega), hg (i - v) (by omega)]
        show PW Γ mX11_apply 60 _ [.int (udel f v (i - v + 1) (i - v))] _ 0 0 Q
        rw [hb]
        refine key b hb2 ?_
        show (if i < v then f i else nI ((bN (f i) + bN (udel f v i (i - v))) % 256)) = nI ((bN (f i) + b) % 256)
        rw [if_neg hiv, udel_k (by omega) i (i - v) (by omega), hb, bN_nI hb2]
      | false =>
        subst hx4
        obtain ⟨hb, hb2⟩ := isB_bN hB (show i - v < n by omega)
        refine pw_if_eq 51 dX11_apply_36 (by decide) (fun _ => ?_) (fun q => absurd (by decide) q)
        refine pw_aload_n rfl dX11_apply_51 ?_
        refine pw_gC dX11_apply_52 fX11_25 (by first | rfl | assumption) rfl (by first | rfl | assumption) ?_
        refine pw_iload rfl dX11_apply_55 ?_
        refine pw_iload_n rfl dX11_apply_57 ?_
        refine pw_isub dX11_apply_58 ?_
        rw [pk_sub (by omega)]
        refine pw_aI dX11_apply_59 (by first | rfl | assumption) (by first | assumption | exact vp_in_nI (by omega) (by omega)) ?_
        rw [stA_s, nI_clamp (by omega), hb]
        refine key (bN (f (i - v))) hb2 ?_
        show fdel f v i = nI ((bN (f i) + (256 - bN (f (i - v)))) % 256)
        unfold fdel
        rw [if_neg hiv]
theorem map2f_loop {f g0 : Nat → Int32} {x5 x6 : Int32} (hn : n ≤ 300) (hB : isB f n) : ∀ (k i : Nat) (g : Nat → Int32) (y : Value), i + k = n → (∀ j, j < i → g j = nI (pos (ofr f j) (f j) 256 0)) →
    (∀ g o y, (∀ j, j < n → g j = nI (pos (ofr f j) (f j) 256 0)) → PW Γ mX11_apply 254 [.ref 57, .int 2, .int (nI v), .int (nI n), .int 0, .int x5, .int x6, .int (nI n), y] [] (AS F A o g f rf lo X) 0 0 Q) →
    PW Γ mX11_apply 13 [.ref 57, .int 2, .int (nI v), .int (nI n), .int 0, .int x5, .int x6, .int (nI i), y] [] (AS F A (cpn (ofr f i) g0 256) g f rf lo X) 0 0 Q := by
  intro k
  induction k with
  | zero =>
    intro i g y hi hg hk
    have hi : i = n := by omega
    subst hi
    refine pw_iload rfl dX11_apply_13 ?_
    refine pw_iload_n rfl dX11_apply_15 ?_
    refine pw_icmp_ge 254 dX11_apply_16 (by decide) (fun _ => ?_) (fun q => absurd (nI_le (Nat.le_refl _) (by omega)) q)
    exact hk g _ _ hg
  | succ k ih =>
    intro i g y hi hg hk
    obtain ⟨b, hb, hfb⟩ := hB i (by omega)
    have hp := ofr_perm hB i (by omega)
    have hpp := (pos_perm hp hb).1
    unfold AS
    refine pw_iload rfl dX11_apply_13 ?_
    refine pw_iload_n rfl dX11_apply_15 ?_
    refine pw_icmp_ge 254 dX11_apply_16 (by decide) (fun q => absurd q (nI_ge (by omega) (by omega))) (fun _ => ?_)
    refine pw_iload_n rfl dX11_apply_19 ?_
    refine pw_iconst 1 (by decide) dX11_apply_20 ?_
    refine pw_icmp_ne 100 dX11_apply_21 (by decide) (fun _ => ?_) (fun q => absurd q (by decide))
    refine pw_iload_n rfl dX11_apply_100 ?_
    refine pw_iconst 2 (by decide) dX11_apply_101 ?_
    refine pw_icmp_ne 166 dX11_apply_102 (by decide) (fun q => absurd (rfl) q) (fun _ => ?_)
    refine pw_iload rfl dX11_apply_105 ?_
    refine pw_if_eq 120 dX11_apply_107 (by decide) (fun _ => ?_) (fun q => absurd (rfl) q)
    refine pw_aload_n rfl dX11_apply_120 ?_
    refine pw_aload_n rfl dX11_apply_121 ?_
    refine pw_gC dX11_apply_122 fX11_25 (by first | rfl | assumption) rfl (by first | rfl | assumption) ?_
    refine pw_iload rfl dX11_apply_125 ?_
    refine pw_aI dX11_apply_127 (by first | rfl | assumption) (by first | assumption | exact vp_in_nI (by omega) (by omega)) ?_
    rw [stA_s, nI_clamp (by omega), hfb]
    refine pc_V1 dX11_apply_128 lX11_109 rfl rfl (by decide) (Nat.le_of_ble_eq_true rfl) ?_
    have e71 : (stA (stA (stA A 71 (cpn (ofr f i) g0 256)) 64 g) 63 f) 71 = cpn (ofr f i) g0 256 := by rw [stA_n (by decide), stA_n (by decide), stA_s]
    refine m_placeOf hb (by rw [e71]; exact cpn_perm hp) ?_
    rw [e71, cpn_pos 256 0 (by omega)]
    refine ps_istore (l' := [_, _, _, _, _, _, _, _, _]) dX11_apply_131 (by decide) rfl rfl ?_
    refine pw_aload_n rfl dX11_apply_133 ?_
    refine pw_gC dX11_apply_134 fX11_28 (by first | rfl | assumption) rfl (by first | rfl | assumption) ?_
    refine pw_iload rfl dX11_apply_137 ?_
    refine pw_iload rfl dX11_apply_139 ?_
    refine pw_if_eq 154 dX11_apply_141 (by decide) (fun _ => ?_) (fun q => absurd (rfl) q)
    refine pw_iload rfl dX11_apply_154 ?_
    refine pw_sI dX11_apply_156 (by first | rfl | assumption) (by first | assumption | exact vp_in_nI (by omega) (by omega)) ?_
    refine pw_aload_n rfl dX11_apply_157 ?_
    refine pw_iload rfl dX11_apply_158 ?_
    rw [nI_clamp (by omega), stA_n (by decide), stA_s, stA_comm (i := 63) (j := 64) (by decide), stA_stA]
    refine pc_V1 dX11_apply_160 lX11_113 rfl rfl (by decide) (Nat.le_of_ble_eq_true rfl) ?_
    refine m_front hpp ?_
    rw [stA_n (i := 63) (by decide), stA_n (i := 64) (by decide), stA_s, cpn_mtf hpp, stA_comm (i := 63) (j := 71) (by decide), stA_comm (i := 64) (j := 71) (by decide), stA_stA]
    refine pw_goto 248 dX11_apply_163 (by decide) ?_
    refine ps_iinc (l' := [_, _, _, _, _, _, _, _, _]) 1 dX11_apply_248 (by decide) rfl (by decide) rfl rfl ?_
    refine pw_goto 13 dX11_apply_251 (by decide) ?_
    rw [nI_1]
    have e : mtf (ofr f i) (pos (ofr f i) (nI b) 256 0) = ofr f (i + 1) := by
      show _ = mtf (ofr f i) (pos (ofr f i) (f i) 256 0)
      rw [hfb]
    rw [e]
    refine ih (i + 1) _ _ (by omega) (fun j hj => ?_) hk
    unfold upd
    split
    · rename_i z
      rw [z, hfb]
    · exact hg j (by omega)
theorem map2b_loop {f g0 : Nat → Int32} {x5 x6 : Int32} (hn : n ≤ 300) (hB : isB f n) : ∀ (k i : Nat) (g : Nat → Int32) (y : Value), i + k = n → (∀ j, j < i → g j = obk f j (bN (f j))) →
    (∀ g o y, (∀ j, j < n → g j = obk f j (bN (f j))) → PW Γ mX11_apply 254 [.ref 57, .int 2, .int (nI v), .int (nI n), .int 1, .int x5, .int x6, .int (nI n), y] [] (AS F A o g f rf lo X) 0 0 Q) →
    PW Γ mX11_apply 13 [.ref 57, .int 2, .int (nI v), .int (nI n), .int 1, .int x5, .int x6, .int (nI i), y] [] (AS F A (cpn (obk f i) g0 256) g f rf lo X) 0 0 Q := by
  intro k
  induction k with
  | zero =>
    intro i g y hi hg hk
    have hi : i = n := by omega
    subst hi
    refine pw_iload rfl dX11_apply_13 ?_
    refine pw_iload_n rfl dX11_apply_15 ?_
    refine pw_icmp_ge 254 dX11_apply_16 (by decide) (fun _ => ?_) (fun q => absurd (nI_le (Nat.le_refl _) (by omega)) q)
    exact hk g _ _ hg
  | succ k ih =>
    intro i g y hi hg hk
    obtain ⟨b, hb, hfb⟩ := hB i (by omega)
    have hp := obk_perm hB i (by omega)
    unfold AS
    refine pw_iload rfl dX11_apply_13 ?_
    refine pw_iload_n rfl dX11_apply_15 ?_
    refine pw_icmp_ge 254 dX11_apply_16 (by decide) (fun q => absurd q (nI_ge (by omega) (by omega))) (fun _ => ?_)
    refine pw_iload_n rfl dX11_apply_19 ?_
    refine pw_iconst 1 (by decide) dX11_apply_20 ?_
    refine pw_icmp_ne 100 dX11_apply_21 (by decide) (fun _ => ?_) (fun q => absurd q (by decide))
    refine pw_iload_n rfl dX11_apply_100 ?_
    refine pw_iconst 2 (by decide) dX11_apply_101 ?_
    refine pw_icmp_ne 166 dX11_apply_102 (by decide) (fun q => absurd (rfl) q) (fun _ => ?_)
    refine pw_iload rfl dX11_apply_105 ?_
    refine pw_if_eq 120 dX11_apply_107 (by decide) (fun q => absurd q (by decide)) (fun _ => ?_)
    refine pw_aload_n rfl dX11_apply_110 ?_
    refine pw_gC dX11_apply_111 fX11_25 (by first | rfl | assumption) rfl (by first | rfl | assumption) ?_
    refine pw_iload rfl dX11_apply_114 ?_
    refine pw_aI dX11_apply_116 (by first | rfl | assumption) (by first | assumption | exact vp_in_nI (by omega) (by omega)) ?_
    rw [stA_s, nI_clamp (by omega), hfb]
    have e71 : (stA (stA (stA A 71 (cpn (obk f i) g0 256)) 64 g) 63 f) 71 = cpn (obk f i) g0 256 := by rw [stA_n (by decide), stA_n (by decide), stA_s]
    refine pw_goto 131 dX11_apply_117 (by decide) ?_
    refine ps_istore (l' := [_, _, _, _, _, _, _, _, _]) dX11_apply_131 (by decide) rfl rfl ?_
    refine pw_aload_n rfl dX11_apply_133 ?_
    refine pw_gC dX11_apply_134 fX11_28 (by first | rfl | assumption) rfl (by first | rfl | assumption) ?_
    refine pw_iload rfl dX11_apply_137 ?_
    refine pw_iload rfl dX11_apply_139 ?_
    refine pw_if_eq 154 dX11_apply_141 (by decide) (fun q => absurd q (by decide)) (fun _ => ?_)
    refine pw_aload_n rfl dX11_apply_144 ?_
    refine pw_gC dX11_apply_145 fX11_49 (by first | rfl | assumption) rfl (by first | rfl | assumption) ?_
    refine pw_iload rfl dX11_apply_148 ?_
    refine pw_aI dX11_apply_150 (by first | rfl | assumption) (by first | assumption | exact vp_in_nI (by omega) (by omega)) ?_
    refine pw_goto 156 dX11_apply_151 (by decide) ?_
    refine pw_sI dX11_apply_156 (by first | rfl | assumption) (by first | assumption | exact vp_in_nI (by omega) (by omega)) ?_
    refine pw_aload_n rfl dX11_apply_157 ?_
    refine pw_iload rfl dX11_apply_158 ?_
    rw [e71, nI_clamp (by omega), nI_clamp (by omega), cpn_lt hb, stA_n (by decide), stA_s, stA_comm (i := 63) (j := 64) (by decide), stA_stA]
    refine pc_V1 dX11_apply_160 lX11_113 rfl rfl (by decide) (Nat.le_of_ble_eq_true rfl) ?_
    refine m_front hb ?_
    rw [stA_n (i := 63) (by decide), stA_n (i := 64) (by decide), stA_s, cpn_mtf hb, stA_comm (i := 63) (j := 71) (by decide), stA_comm (i := 64) (j := 71) (by decide), stA_stA]
    refine pw_goto 248 dX11_apply_163 (by decide) ?_
    refine ps_iinc (l' := [_, _, _, _, _, _, _, _, _]) 1 dX11_apply_248 (by decide) rfl (by decide) rfl rfl ?_
    refine pw_goto 13 dX11_apply_251 (by decide) ?_
    rw [nI_1]
    have e : mtf (obk f i) b = obk f (i + 1) := by
      show _ = mtf (obk f i) (bN (f i))
      rw [hfb, bN_nI hb]
    rw [e]
    refine ih (i + 1) _ _ (by omega) (fun j hj => ?_) hk
    unfold upd
    split
    · rename_i z
      rw [z, hfb, bN_nI hb]
    · exact hg j (by omega)
theorem map4_loop {f : Nat → Int32} {x4 x5 x6 : Int32} (hn : n ≤ 300) : ∀ (k i : Nat) (g : Nat → Int32) (y : Value), i + k = n → (∀ j, j < i → g j = f j ^^^ nI v) →
    (∀ g y, (∀ j, j < n → g j = f j ^^^ nI v) → PW Γ mX11_apply 254 [.ref 57, .int 4, .int (nI v), .int (nI n), .int x4, .int x5, .int x6, .int (nI n), y] [] (AS F A o g f rf lo X) 0 0 Q) →
    PW Γ mX11_apply 13 [.ref 57, .int 4, .int (nI v), .int (nI n), .int x4, .int x5, .int x6, .int (nI i), y] [] (AS F A o g f rf lo X) 0 0 Q := by
  intro k
  induction k with
  | zero =>
    intro i g y hi hg hk
    have hi : i = n := by omega
    subst hi
    refine pw_iload rfl dX11_apply_13 ?_
    refine pw_iload_n rfl dX11_apply_15 ?_
    refine pw_icmp_ge 254 dX11_apply_16 (by decide) (fun _ => ?_) (fun q => absurd (nI_le (Nat.le_refl _) (by omega)) q)
    exact hk g _ hg
  | succ k ih =>
    intro i g y hi hg hk
    unfold AS
    refine pw_iload rfl dX11_apply_13 ?_
    refine pw_iload_n rfl dX11_apply_15 ?_
    refine pw_icmp_ge 254 dX11_apply_16 (by decide) (fun q => absurd q (nI_ge (by omega) (by omega))) (fun _ => ?_)
    refine pw_iload_n rfl dX11_apply_19 ?_
    refine pw_iconst 1 (by decide) dX11_apply_20 ?_
    refine pw_icmp_ne 100 dX11_apply_21 (by decide) (fun _ => ?_) (fun q => absurd q (by decide))
    refine pw_iload_n rfl dX11_apply_100 ?_
    refine pw_iconst 2 (by decide) dX11_apply_101 ?_
    refine pw_icmp_ne 166 dX11_apply_102 (by decide) (fun _ => ?_) (fun q => absurd q (by decide))
    refine pw_iload_n rfl dX11_apply_166 ?_
    refine pw_iconst 3 (by decide) dX11_apply_167 ?_
    refine pw_icmp_ne 232 dX11_apply_168 (by decide) (fun _ => ?_) (fun q => absurd q (by decide))
    refine pw_aload_n rfl dX11_apply_232 ?_
    refine pw_gC dX11_apply_233 fX11_28 (by first | rfl | assumption) rfl (by first | rfl | assumption) ?_
    refine pw_iload rfl dX11_apply_236 ?_
    refine pw_aload_n rfl dX11_apply_238 ?_
    refine pw_gC dX11_apply_239 fX11_25 (by first | rfl | assumption) rfl (by first | rfl | assumption) ?_
    refine pw_iload rfl dX11_apply_242 ?_
    refine pw_aI dX11_apply_244 (by first | rfl | assumption) (by first | assumption | exact vp_in_nI (by omega) (by omega)) ?_
    refine pw_iload_n rfl dX11_apply_245 ?_
    refine pw_ixor dX11_apply_246 ?_
    refine pw_sI dX11_apply_247 (by first | rfl | assumption) (by first | assumption | exact vp_in_nI (by omega) (by omega)) ?_
    refine ps_iinc (l' := [_, _, _, _, _, _, _, _, _]) 1 dX11_apply_248 (by decide) rfl (by decide) rfl rfl ?_
    refine pw_goto 13 dX11_apply_251 (by decide) ?_
    rw [stA_s, nI_clamp (by omega), nI_1, stA_n (by decide), stA_s, stA_comm (i := 63) (j := 64) (by decide), stA_stA]
    refine ih (i + 1) _ _ (by omega) (fun j hj => ?_) hk
    unfold upd
    split
    · rename_i z; rw [z]
    · exact hg j (by omega)
theorem map3_loop {f : Nat → Int32} {x4 : Int32} (hn : n ≤ 300) (hv : 2 ≤ v ∧ v ≤ 8) (bk : Bool) (hx4 : x4 = if bk then 1 else 0) : ∀ (k i p s : Nat) (g : Nat → Int32) (y : Value), i + k = n → p < v → p < n ∨ n = 0 → s ≤ plen n v p → i = plow n v p + s → (if bk then ∀ x, x < n → dst n v x < i → g x = f (dst n v x) else ∀ j, j < i → g j = f (src n v v 0 j)) →
    (∀ g y x5 x6, (if bk then ∀ x, x < n → g x = f (dst n v x) else ∀ j, j < n → g j = f (src n v v 0 j)) → PW Γ mX11_apply 254 [.ref 57, .int 3, .int (nI v), .int (nI n), .int x4, .int x5, .int x6, .int (nI n), y] [] (AS F A o g f rf lo X) 0 0 Q) →
    PW Γ mX11_apply 13 [.ref 57, .int 3, .int (nI v), .int (nI n), .int x4, .int (nI (p + s * v)), .int (nI p), .int (nI i), y] [] (AS F A o g f rf lo X) 0 0 Q := by
  have hall := plow_all n (by omega) v (by omega) hv.1
  intro k
  induction k with
  | zero =>
    intro i p s g y hi hpv hpn hs his hg hk
    have hi : i = n := by omega
    refine pw_iload rfl dX11_apply_13 ?_
    refine pw_iload_n rfl dX11_apply_15 ?_
    refine pw_icmp_ge 254 dX11_apply_16 (by decide) (fun _ => ?_) (fun q => absurd (nI_le (by omega) (by omega)) q)
    rw [hi]
    refine hk g _ _ _ ?_
    cases bk with
    | true =>
      intro x hx
      exact hg x hx (by rw [hi]; exact dst_lt hn hv hx)
    | false =>
      intro j hj
      exact hg j (by omega)
  | succ k ih =>
    intro i p s g y hi hpv hpn hs his hg hk
    have hpn : p < n := by omega
    have e1 : plow n v (p + 1) = plow n v p + plen n v p := by
      show plow n v p + (if p < n then plen n v p else 0) = _
      rw [if_pos hpn]
    -- one byte, at plane p, place s
    have step : ∀ (p s : Nat), p < v → p < n → s < plen n v p → i = plow n v p + s →
        PW Γ mX11_apply 187 [.ref 57, .int 3, .int (nI v), .int (nI n), .int x4, .int (nI (p + s * v)), .int (nI p), .int (nI i), y] [] (AS F A o g f rf lo X) 0 0 Q := by
      intro p s hpv hpn hs his
      have hlt : p + s * v < n := (plen_iff (by omega) hpv hpn).mp hs
      have hnx : p + s * v + v = p + (s + 1) * v := by rw [Nat.add_mul]; omega
      unfold AS
      cases bk with
      | true =>
        subst hx4
        refine pw_iload rfl dX11_apply_187 ?_
        refine pw_if_eq 209 dX11_apply_189 (by decide) (fun q => absurd q (by decide)) (fun _ => ?_)
        refine pw_aload_n rfl dX11_apply_192 ?_
        refine pw_gC dX11_apply_193 fX11_28 (by first | rfl | assumption) rfl (by first | rfl | assumption) ?_
        refine pw_iload rfl dX11_apply_196 ?_
        refine pw_aload_n rfl dX11_apply_198 ?_
        refine pw_gC dX11_apply_199 fX11_25 (by first | rfl | assumption) rfl (by first | rfl | assumption) ?_
        refine pw_iload rfl dX11_apply_202 ?_
        refine pw_aI dX11_apply_204 (by first | rfl | assumption) (by first | assumption | exact vp_in_nI (by omega) (by omega)) ?_
        refine pw_sI dX11_apply_205 (by first | rfl | assumption) (by first | assumption | exact vp_in_nI (by omega) (by omega)) ?_
        refine pw_goto 223 dX11_apply_206 (by decide) ?_
        refine pw_iload rfl dX11_apply_223 ?_
        refine pw_iload_n rfl dX11_apply_225 ?_
        refine pw_iadd dX11_apply_226 ?_
        refine ps_istore (l' := [_, _, _, _, _, _, _, _, _]) dX11_apply_227 (by decide) rfl rfl ?_
        refine pw_goto 248 dX11_apply_229 (by decide) ?_
        refine ps_iinc (l' := [_, _, _, _, _, _, _, _, _]) 1 dX11_apply_248 (by decide) rfl (by decide) rfl rfl ?_
        refine pw_goto 13 dX11_apply_251 (by decide) ?_
        rw [stA_s, nI_clamp (by omega), nI_clamp (by omega), nI_1, nI_add, hnx, stA_n (by decide), stA_s, stA_comm (i := 63) (j := 64) (by decide), stA_stA]
        refine ih (i + 1) p (s + 1) _ _ (by omega) hpv (Or.inl hpn) (by omega) (by omega) ?_ hk
        intro x hx hd
        unfold upd
        split
        · rename_i z
          rw [z, dst_at (by omega) hpv, his]
        · rename_i z
          refine hg x hx ?_
          apply Nat.lt_of_le_of_ne (by omega)
          intro q
          exact z (dst_inj (by omega) hpv hpn hs hx (by omega))
      | false =>
        subst hx4
        refine pw_iload rfl dX11_apply_187 ?_
        refine pw_if_eq 209 dX11_apply_189 (by decide) (fun _ => ?_) (fun q => absurd (rfl) q)
        refine pw_aload_n rfl dX11_apply_209 ?_
        refine pw_gC dX11_apply_210 fX11_28 (by first | rfl | assumption) rfl (by first | rfl | assumption) ?_
        refine pw_iload rfl dX11_apply_213 ?_
        refine pw_aload_n rfl dX11_apply_215 ?_
        refine pw_gC dX11_apply_216 fX11_25 (by first | rfl | assumption) rfl (by first | rfl | assumption) ?_
        refine pw_iload rfl dX11_apply_219 ?_
        refine pw_aI dX11_apply_221 (by first | rfl | assumption) (by first | assumption | exact vp_in_nI (by omega) (by omega)) ?_
        refine pw_sI dX11_apply_222 (by first | rfl | assumption) (by first | assumption | exact vp_in_nI (by omega) (by omega)) ?_
        refine pw_iload rfl dX11_apply_223 ?_
        refine pw_iload_n rfl dX11_apply_225 ?_
        refine pw_iadd dX11_apply_226 ?_
        refine ps_istore (l' := [_, _, _, _, _, _, _, _, _]) dX11_apply_227 (by decide) rfl rfl ?_
        refine pw_goto 248 dX11_apply_229 (by decide) ?_
        refine ps_iinc (l' := [_, _, _, _, _, _, _, _, _]) 1 dX11_apply_248 (by decide) rfl (by decide) rfl rfl ?_
        refine pw_goto 13 dX11_apply_251 (by decide) ?_
        rw [stA_s, nI_clamp (by omega), nI_clamp (by omega), nI_1, nI_add, hnx, stA_n (by decide), stA_s, stA_comm (i := 63) (j := 64) (by decide), stA_stA]
        refine ih (i + 1) p (s + 1) _ _ (by omega) hpv (Or.inl hpn) (by omega) (by omega) ?_ hk
        intro j hj
        unfold upd
        split
        · rename_i z
          rw [z, his, src_at hpv hpn hs v 0 (by omega) (by omega)]
        · exact hg j (by omega)
    have hlow : p + s * v ≤ 400 := by
      by_cases h0 : s = 0
      · subst h0; omega
      · have := (plen_iff (s := s - 1) (by omega) hpv hpn).mp (by omega)
        have e : s * v = (s - 1) * v + v := by
          rw [← Nat.succ_mul]
          congr 1
          omega
        omega
    refine pw_iload rfl dX11_apply_13 ?_
    refine pw_iload_n rfl dX11_apply_15 ?_
    refine pw_icmp_ge 254 dX11_apply_16 (by decide) (fun q => absurd q (nI_ge (by omega) (by omega))) (fun _ => ?_)
    refine pw_iload_n rfl dX11_apply_19 ?_
    refine pw_iconst 1 (by decide) dX11_apply_20 ?_
    refine pw_icmp_ne 100 dX11_apply_21 (by decide) (fun _ => ?_) (fun q => absurd q (by decide))
    refine pw_iload_n rfl dX11_apply_100 ?_
    refine pw_iconst 2 (by decide) dX11_apply_101 ?_
    refine pw_icmp_ne 166 dX11_apply_102 (by decide) (fun _ => ?_) (fun q => absurd q (by decide))
    refine pw_iload_n rfl dX11_apply_166 ?_
    refine pw_iconst 3 (by decide) dX11_apply_167 ?_
    refine pw_icmp_ne 232 dX11_apply_168 (by decide) (fun q => absurd (rfl) q) (fun _ => ?_)
    by_cases hs2 : s < plen n v p
    · have hlt : p + s * v < n := (plen_iff (by omega) hpv hpn).mp hs2
      refine pw_iload rfl dX11_apply_171 ?_
      refine pw_iload_n rfl dX11_apply_173 ?_
      refine pw_icmp_lt 187 dX11_apply_174 (by decide) (fun _ => ?_) (fun q => absurd (nI_lt hlt (by omega)) q)
      exact step p s hpv hpn hs2 his
    · have hge : n ≤ p + s * v := by
        apply Nat.not_lt.mp
        intro z
        exact hs2 ((plen_iff (by omega) hpv hpn).mpr z)
      have hp1 : p + 1 < v := by
        apply Nat.not_le.mp
        intro z
        have : p + 1 = v := by omega
        rw [this] at e1
        omega
      have hp1n : p + 1 < n := by
        apply Nat.not_le.mp
        intro z
        have hz : ∀ d, plow n v (p + 1 + d) = plow n v (p + 1) := by
          intro d
          induction d with
          | zero => rfl
          | succ d ihd =>
            show plow n v (p + 1 + d) + (if p + 1 + d < n then plen n v (p + 1 + d) else 0) = _
            rw [if_neg (by omega), ihd]
            rfl
        have := hz (v - (p + 1))
        rw [show p + 1 + (v - (p + 1)) = v by omega] at this
        omega
      have hl1 : 0 < plen n v (p + 1) := (plen_iff (by omega) hp1 hp1n).mpr (by omega)
      refine pw_iload rfl dX11_apply_171 ?_
      refine pw_iload_n rfl dX11_apply_173 ?_
      refine pw_icmp_lt 187 dX11_apply_174 (by decide) (fun q => absurd q (nI_nlt hge (by omega))) (fun _ => ?_)
      refine ps_iinc (l' := [_, _, _, _, _, _, _, _, _]) 1 dX11_apply_177 (by decide) rfl (by decide) rfl rfl ?_
      refine pw_iload rfl dX11_apply_180 ?_
      refine ps_istore (l' := [_, _, _, _, _, _, _, _, _]) dX11_apply_182 (by decide) rfl rfl ?_
      refine pw_goto 171 dX11_apply_184 (by decide) ?_
      rw [nI_1]
      have := step (p + 1) 0 hp1 hp1n hl1 (by omega)
      rw [Nat.zero_mul, Nat.add_zero] at this
      refine pw_iload rfl dX11_apply_171 ?_
      refine pw_iload_n rfl dX11_apply_173 ?_
      refine pw_icmp_lt 187 dX11_apply_174 (by decide) (fun _ => ?_) (fun q => absurd (nI_lt hp1n (by omega)) q)
      exact this
theorem m_apply {kind : Nat} (hn : n ≤ 300) (hB : isB (A 63) n) (hk : fok kind v) (bk : Bool)
    (hQ : ∀ o g f, (∀ j, j < n → f j = if bk then fun_ kind v (A 63) n j else fmk kind v (A 63) n j) → Q none (AS F A o g f rf lo X)) : PM Γ mX11_apply [.ref 57, .int (nI kind), .int (nI v), .int (nI n), .int (if bk then 1 else 0)] (HS F A rf lo X) 0 0 Q := by
  have fin : ∀ (x1 x4 x5 x6 : Int32) (y : Value) (o g : Nat → Int32), (∀ j, j < n → g j = if bk then fun_ kind v (A 63) n j else fmk kind v (A 63) n j) →
      PW Γ mX11_apply 254 [.ref 57, .int x1, .int (nI v), .int (nI n), .int x4, .int x5, .int x6, .int (nI n), y] [] (AS F A o g (A 63) rf lo X) 0 0 Q := by
    intro x1 x4 x5 x6 y o g hg
    refine pw_iconst 0 (by decide) dX11_apply_254 ?_
    refine ps_istore (l' := [_, _, _, _, _, _, _, _, _]) dX11_apply_255 (by decide) rfl rfl ?_
    refine mcp_loop hn n 0 (A 63) (by omega) (fun j hj => by omega) (fun f l hf => ?_)
    refine pw_vret dX11_apply_283 rfl ?_
    exact hQ o g f (fun j hj => by rw [hf j hj]; exact hg j hj)
  refine PM.go (l := [_, _, _, _, _, .float 0, .float 0, .float 0, .float 0]) rfl rfl (Nat.le_of_ble_eq_true rfl) rfl ?_
  refine pw_aload_n rfl dX11_apply_0 ?_
  refine pc_V0 dX11_apply_1 lX11_106 rfl (by first | rfl | assumption) (by decide) (Nat.le_of_ble_eq_true rfl) ?_
  refine m_beginList ?_
  refine pw_iconst 0 (by decide) dX11_apply_4 ?_
  refine ps_istore (l' := [_, _, _, _, _, _, _, _, _]) dX11_apply_5 (by decide) rfl rfl ?_
  refine pw_iconst 0 (by decide) dX11_apply_7 ?_
  refine ps_istore (l' := [_, _, _, _, _, _, _, _, _]) dX11_apply_8 (by decide) rfl rfl ?_
  refine pw_iconst 0 (by decide) dX11_apply_10 ?_
  refine ps_istore (l' := [_, _, _, _, _, _, _, _, _]) dX11_apply_11 (by decide) rfl rfl ?_
  have e0 : HS F (stA A 71 (cpn (fun b => nI b) (A 71) 256)) rf lo X = AS F A (cpn (fun b => nI b) (A 71) 256) (A 64) (A 63) rf lo X := by
    unfold AS
    rw [stA_self (i := 63) (by rw [stA_n (by decide), stA_n (by decide)]), stA_self (i := 64) (by rw [stA_n (by decide)])]
  rw [e0]
  rcases hk with ⟨rfl, hv⟩ | ⟨rfl, rfl⟩ | ⟨rfl, hv⟩ | ⟨rfl, hv⟩
  · refine map1_loop (x5 := 0) (x6 := 0) hn hB hv bk rfl n 0 (A 64) _ (by omega) (fun j hj => by omega) (fun g y hg => ?_)
    exact fin _ _ _ _ _ _ g hg
  · cases bk with
    | true =>
      refine map2b_loop (v := 0) (x5 := 0) (x6 := 0) (g0 := A 71) hn hB n 0 (A 64) _ (by omega) (fun j hj => by omega) (fun g o y hg => ?_)
      exact fin _ _ _ _ _ _ g hg
    | false =>
      refine map2f_loop (v := 0) (x5 := 0) (x6 := 0) (g0 := A 71) hn hB n 0 (A 64) _ (by omega) (fun j hj => by omega) (fun g o y hg => ?_)
      exact fin _ _ _ _ _ _ g hg
  · have hlow : n = 0 ∨ 0 < n := by omega
    have := map3_loop (Γ := Γ) (F := F) (A := A) (rf := rf) (lo := lo) (X := X) (Q := Q) (o := cpn (fun b => nI b) (A 71) 256) (f := A 63) (x4 := if bk then 1 else 0) hn hv bk rfl n 0 0 0 (A 64) (.float 0) (by omega) (by omega) (by omega) (Nat.zero_le _) rfl (by
      cases bk with
      | true => exact fun x hx hd => absurd hd (Nat.not_lt_zero _)
      | false => exact fun j hj => absurd hj (Nat.not_lt_zero _)) (fun g y x5 x6 hg => fin _ _ _ _ _ _ g (by
      cases bk with
      | true => exact hg
      | false => exact hg))
    rw [Nat.zero_mul, Nat.add_zero] at this
    exact this
  · refine map4_loop (x5 := 0) (x6 := 0) hn n 0 (A 64) _ (by omega) (fun j hj => by omega) (fun g y hg => ?_)
    refine fin _ _ _ _ _ _ g (fun j hj => ?_)
    rw [hg j hj]
    cases bk <;> rfl
end
