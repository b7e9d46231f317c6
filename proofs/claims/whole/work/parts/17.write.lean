/-! rows that are written: copy, writePlain; the reference's putRow; runs as they are -/
/-- the world in which row t (bytes in cell c) has, behind its first m, the bytes L -/
def WS (F A : Nat → Nat → Int32) (t c m : Nat) (f0 : Nat → Int32) (L : List Int32) (rf : Nat) (lo : Int64) (X : PH) : PH := HS (upF F t 1 (nI (m + L.length))) (stA A c (app f0 m L)) rf lo X
def slice (f : Nat → Int32) (a e : Nat) : List Int32 := (List.range (e - a)).map (fun j => f (a + j))
theorem slice_len (f : Nat → Int32) (a e : Nat) : (slice f a e).length = e - a := by simp [slice]
theorem slice_snoc {f : Nat → Int32} {a e : Nat} (h : a ≤ e) : slice f a (e + 1) = slice f a e ++ [f e] := by
  unfold slice
  rw [show e + 1 - a = (e - a) + 1 by omega, List.range_succ, List.map_append]
  simp [show a + (e - a) = e by omega]
theorem slice_nil {f : Nat → Int32} {a e : Nat} (h : e ≤ a) : slice f a e = [] := by
  unfold slice
  rw [show e - a = 0 by omega]
  rfl
theorem isB_and {f : Nat → Int32} {n j : Nat} (h : isB f n) (hj : j < n) : f j &&& 255 = f j := by
  obtain ⟨b, hb, e⟩ := h j hj
  rw [e, nI_and255s hb]
/-- rn f a e: the first place from j on (before e) whose byte isn't that at a -/
def rn (f : Nat → Int32) (a e : Nat) : Nat → Nat → Nat
  | 0, j => j
  | k + 1, j => if j < e ∧ f j = f a then rn f a e k (j + 1) else j
/-- how many like bytes stand at a (n bytes in all), m at most -/
def runl (f : Nat → Int32) (n a m : Nat) : Nat := rn f a (min n (a + m)) (min n (a + m) - (a + 1)) (a + 1) - a
theorem rn_ge (f : Nat → Int32) (a e : Nat) : ∀ k j, j ≤ rn f a e k j
  | 0, _ => Nat.le_refl _
  | k + 1, j => by
    show j ≤ if j < e ∧ f j = f a then rn f a e k (j + 1) else j
    split
    · exact Nat.le_trans (Nat.le_succ j) (rn_ge f a e k (j + 1))
    · exact Nat.le_refl _
theorem rn_le (f : Nat → Int32) (a e : Nat) : ∀ k j, j ≤ e → rn f a e k j ≤ e
  | 0, _, h => h
  | k + 1, j, h => by
    show (if j < e ∧ f j = f a then rn f a e k (j + 1) else j) ≤ e
    split
    · rename_i z
      exact rn_le f a e k (j + 1) z.1
    · exact h
theorem runl_1 {f : Nat → Int32} {n a m : Nat} : 1 ≤ runl f n a m := by
  unfold runl
  have := rn_ge f a (min n (a + m)) (min n (a + m) - (a + 1)) (a + 1)
  omega
theorem runl_le {f : Nat → Int32} {n a m : Nat} (h : a < n) (hm : 1 ≤ m) : a + runl f n a m ≤ n ∧ runl f n a m ≤ m := by
  unfold runl
  have := rn_le f a (min n (a + m)) (min n (a + m) - (a + 1)) (a + 1) (by omega)
  omega
/-- where the plain bytes from a end: at most z, or where three like ones begin -/
def pend (f : Nat → Int32) (n z : Nat) : Nat → Nat → Nat
  | 0, j => j
  | k + 1, j => if j < z ∧ runl f n j 3 < 3 then pend f n z k (j + 1) else j
theorem pend_ge (f : Nat → Int32) (n z : Nat) : ∀ k j, j ≤ pend f n z k j
  | 0, _ => Nat.le_refl _
  | k + 1, j => by
    show j ≤ if j < z ∧ runl f n j 3 < 3 then pend f n z k (j + 1) else j
    split
    · exact Nat.le_trans (Nat.le_succ j) (pend_ge f n z k (j + 1))
    · exact Nat.le_refl _
theorem pend_le (f : Nat → Int32) (n z : Nat) : ∀ k j, j ≤ z → pend f n z k j ≤ z
  | 0, _, h => h
  | k + 1, j, h => by
    show (if j < z ∧ runl f n j 3 < 3 then pend f n z k (j + 1) else j) ≤ z
    split
    · rename_i q
      exact pend_le f n z k (j + 1) q.1
    · exact h
/-- RUNS: what is made of the n bytes f from a on -/
def pruns (f : Nat → Int32) (n : Nat) : Nat → Nat → List Int32
  | 0, _ => []
  | k + 1, a => if a < n then
      (if 2 ≤ runl f n a 129 then [nI (runl f n a 129 + 126), f a] ++ pruns f n k (a + runl f n a 129)
       else (nI (pend f n (min n (a + 128)) n (a + 1) - a - 1) :: slice f a (pend f n (min n (a + 128)) n (a + 1))) ++ pruns f n k (pend f n (min n (a + 128)) n (a + 1)))
    else []
section
variable {Γ : Nat × (Nat → Int32)} {F A : Nat → Nat → Int32} {rf : Nat} {lo : Int64} {X : PH} {Q : Option Value → PH → Prop} {r c cap n t tc tcap m : Nat} {f0 : Nat → Int32} {L : List Int32}
theorem w_push {b : Int32} (ht : isRow t tc tcap) (hL : m + L.length < tcap) (hQ : Q none (WS F A t tc m f0 (L ++ [b &&& 255]) rf lo X)) : PM Γ mX6_push [.ref t, .int b] (WS F A t tc m f0 L rf lo X) 0 0 Q := by
  unfold WS
  refine c_push ht (n := m + L.length) upF_s hL ?_
  rw [upF_upF, stA_s, stA_stA, app_push _ _ _ _ _ rfl]
  unfold WS at hQ
  rw [List.length_append] at hQ
  exact hQ
theorem w_get {x : Int32} {i : Nat} (hr : isRow r c cap) (hrt : ¬ r = t) (hct : ¬ c = tc) (hn : F r 1 = nI n) (hN : n ≤ cap) (hx : x = nI i) (hi : i < n) (hQ : Q (some (.int (A c i))) (WS F A t tc m f0 L rf lo X)) : PM Γ mX6_get [.ref r, .int x] (WS F A t tc m f0 L rf lo X) 0 0 Q := by
  unfold WS
  refine c_get hr (n := n) (by rw [upF_n (by omega)]; exact hn) hN hx hi ?_
  rw [stA_n hct]
  exact hQ
theorem w_count (hr : isRow r c cap) (hrt : ¬ r = t) (hn : F r 1 = nI n) (hQ : Q (some (.int (nI n))) (WS F A t tc m f0 L rf lo X)) : PM Γ mX6_count [.ref r] (WS F A t tc m f0 L rf lo X) 0 0 Q := by
  unfold WS
  refine c_count hr ?_
  rw [upF_n (by omega), hn]
  exact hQ
theorem copy_loop (hr : isRow r c cap) (ht : isRow t tc tcap) (hrt : ¬ r = t) (hct : ¬ c = tc) (hn : F r 1 = nI n) (hN : n ≤ cap) (hB : isB (A c) n) {a e : Nat} (he : e ≤ n) : ∀ (k i : Nat), i + k = e → a ≤ i → m + L.length + (e - a) ≤ tcap →
    PW Γ mX3_copy 25 [.ref r, .int (nI a), .int (nI e), .ref t, .int (nI e)] [] (WS F A t tc m f0 (L ++ slice (A c) a e) rf lo X) 0 0 Q →
    PW Γ mX3_copy 3 [.ref r, .int (nI a), .int (nI e), .ref t, .int (nI i)] [] (WS F A t tc m f0 (L ++ slice (A c) a i) rf lo X) 0 0 Q := by
  have hr0 := hr
  have ht0 := ht
  obtain ⟨h1, h2, h9, hc⟩ := hr
  obtain ⟨g1, g2, g9, gc⟩ := ht
  intro k
  induction k with
  | zero =>
    intro i hi ha hcap hk
    have hi : i = e := by omega
    subst hi
    refine pw_iload rfl dX3_copy_3 ?_
    refine pw_iload_n rfl dX3_copy_5 ?_
    refine pw_icmp_ge 25 dX3_copy_6 (by decide) (fun _ => ?_) (fun q => absurd (nI_le (Nat.le_refl _) (by omega)) q)
    exact hk
  | succ k ih =>
    intro i hi ha hcap hk
    have hl := slice_len (A c) a i
    refine pw_iload rfl dX3_copy_3 ?_
    refine pw_iload_n rfl dX3_copy_5 ?_
    refine pw_icmp_ge 25 dX3_copy_6 (by decide) (fun q => absurd q (nI_ge (by omega) (by omega))) (fun _ => ?_)
    refine pw_aload_n rfl dX3_copy_9 ?_
    refine pw_aload_n rfl dX3_copy_10 ?_
    refine pw_iload rfl dX3_copy_11 ?_
    refine pc_V1 dX3_copy_13 lX3_75 rfl h1 (by decide) (Nat.le_of_ble_eq_true rfl) ?_
    refine w_get hr0 hrt hct hn hN rfl (by omega) ?_
    refine pc_V1 dX3_copy_16 lX3_79 rfl g1 (by decide) (Nat.le_of_ble_eq_true rfl) ?_
    refine w_push ht0 (by rw [List.length_append]; omega) ?_
    rw [isB_and hB (by omega), List.append_assoc, ← slice_snoc (by omega)]
    refine ps_iinc (l' := [_, _, _, _, _]) 1 dX3_copy_19 (by decide) rfl (by decide) rfl rfl ?_
    refine pw_goto 3 dX3_copy_22 (by decide) ?_
    rw [nI_1]
    exact ih (i + 1) (by omega) (by omega) hcap hk
theorem w_copy (hr : isRow r c cap) (ht : isRow t tc tcap) (hrt : ¬ r = t) (hct : ¬ c = tc) (hn : F r 1 = nI n) (hN : n ≤ cap) (hB : isB (A c) n) {a e : Nat} {x y : Int32} (hx : x = nI a) (hy : y = nI e) (hae : a ≤ e) (he : e ≤ n) (hcap : m + L.length + (e - a) ≤ tcap)
    (hQ : Q none (WS F A t tc m f0 (L ++ slice (A c) a e) rf lo X)) : PM Γ mX3_copy [.ref r, .int x, .int y, .ref t] (WS F A t tc m f0 L rf lo X) 0 0 Q := by
  subst hx; subst hy
  refine PM.go (l := [_, _, _, _, .float 0]) rfl rfl (Nat.le_of_ble_eq_true rfl) rfl ?_
  refine pw_iload_n rfl dX3_copy_0 ?_
  refine ps_istore (l' := [_, _, _, _, _]) dX3_copy_1 (by decide) rfl rfl ?_
  have e0 : WS F A t tc m f0 L rf lo X = WS F A t tc m f0 (L ++ slice (A c) a a) rf lo X := by rw [slice_nil (Nat.le_refl _), List.append_nil]
  rw [e0]
  refine copy_loop hr ht hrt hct hn hN hB he (e - a) a (by omega) (Nat.le_refl _) hcap ?_
  refine pw_vret dX3_copy_25 rfl ?_
  exact hQ
theorem w_plain (hr : isRow r c cap) (ht : isRow t tc tcap) (hrt : ¬ r = t) (hct : ¬ c = tc) (hn : F r 1 = nI n) (hN : n ≤ cap) (hB : isB (A c) n) {a e : Nat} {x y : Int32} (hx : x = nI a) (hy : y = nI e) (hae : a < e) (he : e ≤ n) (h128 : e - a ≤ 128) (hcap : m + L.length + (e - a) + 1 ≤ tcap)
    (hQ : Q none (WS F A t tc m f0 (L ++ (nI (e - a - 1) :: slice (A c) a e)) rf lo X)) : PM Γ mX3_writePlain [.ref r, .int x, .int y, .ref t] (WS F A t tc m f0 L rf lo X) 0 0 Q := by
  have ht0 := ht
  obtain ⟨g1, g2, g9, gc⟩ := ht
  obtain ⟨h1, h2, h9, hc⟩ := id hr
  subst hx; subst hy
  refine PM.go (l := [_, _, _, _]) rfl rfl (Nat.le_of_ble_eq_true rfl) rfl ?_
  refine pw_aload_n rfl dX3_writePlain_0 ?_
  refine pw_iload_n rfl dX3_writePlain_1 ?_
  refine pw_iload_n rfl dX3_writePlain_2 ?_
  refine pw_isub dX3_writePlain_3 ?_
  refine pw_iconst 1 (by decide) dX3_writePlain_4 ?_
  refine pw_isub dX3_writePlain_5 ?_
  rw [pk_sub (by omega), show nI (e - a) - 1 = nI (e - a - 1) from pk_sub (b := 1) (by omega)]
  refine pc_V1 dX3_writePlain_6 lX3_79 rfl g1 (by decide) (Nat.le_of_ble_eq_true rfl) ?_
  refine w_push ht0 (by omega) ?_
  rw [nI_and255s (by omega)]
  refine pw_aload_n rfl dX3_writePlain_9 ?_
  refine pw_iload_n rfl dX3_writePlain_10 ?_
  refine pw_iload_n rfl dX3_writePlain_11 ?_
  refine pw_aload_n rfl dX3_writePlain_12 ?_
  refine pc_S4 dX3_writePlain_13 lX3_71 (by decide) (Nat.le_of_ble_eq_true rfl) ?_
  refine w_copy hr ht0 hrt hct hn hN hB rfl rfl (by omega) he (by rw [List.length_append]; show m + (L.length + 1) + _ ≤ _; omega) ?_
  refine pw_vret dX3_writePlain_16 rfl ?_
  rw [List.append_assoc]
  exact hQ
theorem runAt_loop (hr : isRow r c cap) (hrt : ¬ r = t) (hct : ¬ c = tc) (hn : F r 1 = nI n) (hN : n ≤ cap) {a e : Nat} {x : Int32} (he : e ≤ n) (ha : a < n) : ∀ (k j : Nat), j + k = e → a < j →
    PW Γ mX3_runAt 42 [.ref r, .int (nI a), .int x, .int (nI e), .int (nI (rn (A c) a e k j))] [] (WS F A t tc m f0 L rf lo X) 0 0 Q →
    PW Γ mX3_runAt 16 [.ref r, .int (nI a), .int x, .int (nI e), .int (nI j)] [] (WS F A t tc m f0 L rf lo X) 0 0 Q := by
  have hr0 := hr
  obtain ⟨h1, h2, h9, hc⟩ := hr
  intro k
  induction k with
  | zero =>
    intro j hj haj hk
    have hj : j = e := by omega
    subst hj
    refine pw_iload rfl dX3_runAt_16 ?_
    refine pw_iload_n rfl dX3_runAt_18 ?_
    refine pw_icmp_ge 42 dX3_runAt_19 (by decide) (fun _ => ?_) (fun q => absurd (nI_le (Nat.le_refl _) (by omega)) q)
    exact hk
  | succ k ih =>
    intro j hj haj hk
    have e0 : rn (A c) a e (k + 1) j = if j < e ∧ A c j = A c a then rn (A c) a e k (j + 1) else j := rfl
    rw [e0] at hk
    refine pw_iload rfl dX3_runAt_16 ?_
    refine pw_iload_n rfl dX3_runAt_18 ?_
    refine pw_icmp_ge 42 dX3_runAt_19 (by decide) (fun q => absurd q (nI_ge (by omega) (by omega))) (fun _ => ?_)
    refine pw_aload_n rfl dX3_runAt_22 ?_
    refine pw_iload rfl dX3_runAt_23 ?_
    refine pc_V1 dX3_runAt_25 lX3_75 rfl h1 (by decide) (Nat.le_of_ble_eq_true rfl) ?_
    refine w_get hr0 hrt hct hn hN rfl (by omega) ?_
    refine pw_aload_n rfl dX3_runAt_28 ?_
    refine pw_iload_n rfl dX3_runAt_29 ?_
    refine pc_V1 dX3_runAt_30 lX3_75 rfl h1 (by decide) (Nat.le_of_ble_eq_true rfl) ?_
    refine w_get hr0 hrt hct hn hN rfl (by omega) ?_
    by_cases hq : A c j = A c a
    · rw [if_pos ⟨by omega, hq⟩] at hk
      refine pw_icmp_ne 42 dX3_runAt_33 (by decide) (fun q => absurd (hq) q) (fun _ => ?_)
      refine ps_iinc (l' := [_, _, _, _, _]) 1 dX3_runAt_36 (by decide) rfl (by decide) rfl rfl ?_
      refine pw_goto 16 dX3_runAt_39 (by decide) ?_
      rw [nI_1]
      exact ih (j + 1) (by omega) (by omega) hk
    · rw [if_neg (fun z => hq z.2)] at hk
      refine pw_icmp_ne 42 dX3_runAt_33 (by decide) (fun _ => ?_) (fun q => absurd q (hq))
      exact hk
theorem w_runAt (hr : isRow r c cap) (hrt : ¬ r = t) (hct : ¬ c = tc) (hn : F r 1 = nI n) (hN : n ≤ cap) {a z : Nat} {x y : Int32} (hx : x = nI a) (hy : y = nI z) (hz : 1 ≤ z ∧ z ≤ 1000) (ha : a < n)
    (hQ : Q (some (.int (nI (runl (A c) n a z)))) (WS F A t tc m f0 L rf lo X)) : PM Γ mX3_runAt [.ref r, .int x, .int y] (WS F A t tc m f0 L rf lo X) 0 0 Q := by
  obtain ⟨h1, h2, h9, hc⟩ := id hr
  subst hx; subst hy
  refine PM.go (l := [_, _, _, .float 0, .float 0]) rfl rfl (Nat.le_of_ble_eq_true rfl) rfl ?_
  refine pw_aload_n rfl dX3_runAt_0 ?_
  refine pc_V0 dX3_runAt_1 lX3_52 rfl h1 (by decide) (Nat.le_of_ble_eq_true rfl) ?_
  refine w_count hr hrt hn ?_
  refine pw_iload_n rfl dX3_runAt_4 ?_
  refine pw_iload_n rfl dX3_runAt_5 ?_
  refine pw_iadd dX3_runAt_6 ?_
  refine pw_minN n (a + z) rfl (nI_add a z) (by omega) (by omega) dX3_runAt_7 lX3_87 (by decide) (Nat.le_of_ble_eq_true rfl) ?_
  refine ps_istore_n (l' := [_, _, _, _, _]) dX3_runAt_10 (by decide) rfl rfl ?_
  refine pw_iload_n rfl dX3_runAt_11 ?_
  refine pw_iconst 1 (by decide) dX3_runAt_12 ?_
  refine pw_iadd dX3_runAt_13 ?_
  refine ps_istore (l' := [_, _, _, _, _]) dX3_runAt_14 (by decide) rfl rfl ?_
  rw [nI_1]
  refine runAt_loop hr hrt hct hn hN (e := min n (a + z)) (by omega) ha (min n (a + z) - (a + 1)) (a + 1) (by omega) (by omega) ?_
  have := rn_ge (A c) a (min n (a + z)) (min n (a + z) - (a + 1)) (a + 1)
  refine pw_iload rfl dX3_runAt_42 ?_
  refine pw_iload_n rfl dX3_runAt_44 ?_
  refine pw_isub dX3_runAt_45 ?_
  refine pw_iret dX3_runAt_46 (Or.inl rfl) ?_
  rw [pk_sub (by omega)]
  exact hQ
end
