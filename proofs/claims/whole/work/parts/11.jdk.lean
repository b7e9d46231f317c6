/-! the JDK's four, Row.become, Row.countInto -/
def cpn (f g : Nat → Int32) (n : Nat) : Nat → Int32 := fun j => if j < n then f j else g j
theorem cpn_va (f g : Nat → Int32) (n : Nat) : va_cpy f g 0 0 n = cpn f g n := by
  funext j
  simp [va_cpy, cpn]
theorem stA_self {A : Nat → Nat → Int32} {i : Nat} {f : Nat → Int32} (h : f = A i) : stA A i f = A := by
  funext a
  unfold stA
  split
  · rename_i z; rw [z, h]
  · rfl
theorem stA_stA {A : Nat → Nat → Int32} {i : Nat} {f g : Nat → Int32} : stA (stA A i f) i g = stA A i g := by
  funext a
  unfold stA
  split <;> rfl
theorem upF_self {F : Nat → Nat → Int32} {i k : Nat} {v : Int32} (h : v = F i k) : upF F i k v = F := by
  funext a b
  unfold upF
  split
  · rename_i z; rw [z.1, z.2, h]
  · rfl
theorem upF_upF {F : Nat → Nat → Int32} {i k : Nat} {v w : Int32} : upF (upF F i k v) i k w = upF F i k w := by
  funext a b
  unfold upF
  split <;> rfl
section
variable {Γ : Nat × (Nat → Int32)} {F A : Nat → Nat → Int32} {rf : Nat} {lo : Int64} {X h : PH} {Q : Option Value → PH → Prop} {r c cap n : Nat}
theorem pw_mmax {M : MD} {pc idx : Nat} {l st : List Value} {bc bs : Nat} {x y : Int32} (hdg : decode (mcode M) pc = .ok (.invokestatic idx, 3)) (hm : pmS M.1.cls idx mJ9_max_7cf53 2) (hf : 1 ≤ mfr M) (ho : (st.map fun v => v.category).sum + 13 ≤ mlo M) (k : PW Γ M (pc + 3) l (.int (if x < y then y else x) :: st) h bc bs Q) : PW Γ M pc l (.int y :: .int x :: st) h bc bs Q := by
  intro p lc e R s m args below meth c D Y σ base H locs cells slots ls Z C hP hS hL hc hs fin
  have hts := C.2.2.2.2.2.1
  have h9 := pst_cat σ base st
  have h8 := C.2.2.2.2.2.2.2.2.2.1
  exact va_mmax C.1 C.2.1 (C.2.2.2.1.trans hL.1.symm) C.2.2.2.2.1 (hts _ hm.2.1) (hts _ hm.2.2) (hts _ hm.1.1) (hts _ hm.1.2.1) (Nat.le_trans hf C.2.2.2.2.2.2.2.2.1) (by omega) (by omega) (by omega) hdg (k p lc e R s m args below meth c D Y σ base H locs cells slots ls Z C hP hS hL hc hs fin)
theorem pw_mmin {M : MD} {pc idx : Nat} {l st : List Value} {bc bs : Nat} {x y : Int32} (hdg : decode (mcode M) pc = .ok (.invokestatic idx, 3)) (hm : pmS M.1.cls idx mJ9_min_7cf53 2) (hf : 1 ≤ mfr M) (ho : (st.map fun v => v.category).sum + 13 ≤ mlo M) (k : PW Γ M (pc + 3) l (.int (if y < x then y else x) :: st) h bc bs Q) : PW Γ M pc l (.int y :: .int x :: st) h bc bs Q := by
  intro p lc e R s m args below meth c D Y σ base H locs cells slots ls Z C hP hS hL hc hs fin
  have hts := C.2.2.2.2.2.1
  have h9 := pst_cat σ base st
  have h8 := C.2.2.2.2.2.2.2.2.2.1
  exact va_mmin C.1 C.2.1 (C.2.2.2.1.trans hL.1.symm) C.2.2.2.2.1 (hts _ hm.2.1) (hts _ hm.2.2) (hts _ hm.1.1) (hts _ hm.1.2.1) (Nat.le_trans hf C.2.2.2.2.2.2.2.2.1) (by omega) (by omega) (by omega) hdg (k p lc e R s m args below meth c D Y σ base H locs cells slots ls Z C hP hS hL hc hs fin)
theorem pw_mabs {M : MD} {pc idx : Nat} {l st : List Value} {bc bs : Nat} {x : Int32} (hdg : decode (mcode M) pc = .ok (.invokestatic idx, 3)) (hm : pmS M.1.cls idx mJ9_abs_0f7a4 1) (hf : 1 ≤ mfr M) (ho : (st.map fun v => v.category).sum + 13 ≤ mlo M) (k : PW Γ M (pc + 3) l (.int (if 0 ≤ x then x else 0 - x) :: st) h bc bs Q) : PW Γ M pc l (.int x :: st) h bc bs Q := by
  intro p lc e R s m args below meth c D Y σ base H locs cells slots ls Z C hP hS hL hc hs fin
  have hts := C.2.2.2.2.2.1
  have h9 := pst_cat σ base st
  have h8 := C.2.2.2.2.2.2.2.2.2.1
  exact va_mabs C.1 C.2.1 (C.2.2.2.1.trans hL.1.symm) C.2.2.2.2.1 (hts _ hm.2.1) (hts _ hm.2.2) (hts _ hm.1.1) (hts _ hm.1.2.1) (Nat.le_trans hf C.2.2.2.2.2.2.2.2.1) (by omega) (by omega) (by omega) hdg (k p lc e R s m args below meth c D Y σ base H locs cells slots ls Z C hP hS hL hc hs fin)
theorem nI_min {a b : Nat} (ha : a < 2 ^ 31) (hb : b < 2 ^ 31) : (if nI b < nI a then nI b else nI a) = nI (min a b) := by
  split
  · rename_i z
    rw [nI_ltI hb ha] at z
    rw [Nat.min_eq_right (by omega)]
  · rename_i z
    rw [nI_ltI hb ha] at z
    rw [Nat.min_eq_left (by omega)]
theorem nI_max {a b : Nat} (ha : a < 2 ^ 31) (hb : b < 2 ^ 31) : (if nI a < nI b then nI b else nI a) = nI (max a b) := by
  split
  · rename_i z
    rw [nI_ltI ha hb] at z
    rw [Nat.max_eq_right (by omega)]
  · rename_i z
    rw [nI_ltI ha hb] at z
    rw [Nat.max_eq_left (by omega)]
/-- Math.min, max of two numbers from 0 on -/
theorem pw_minN {M : MD} {pc idx : Nat} {l st : List Value} {bc bs : Nat} {x y : Int32} (a b : Nat) (hx : x = nI a) (hy : y = nI b) (ha : a < 2 ^ 31) (hb : b < 2 ^ 31) (hdg : decode (mcode M) pc = .ok (.invokestatic idx, 3)) (hm : pmS M.1.cls idx mJ9_min_7cf53 2) (hf : 1 ≤ mfr M) (ho : (st.map fun v => v.category).sum + 13 ≤ mlo M) (k : PW Γ M (pc + 3) l (.int (nI (min a b)) :: st) h bc bs Q) : PW Γ M pc l (.int y :: .int x :: st) h bc bs Q := by
  subst hx; subst hy
  exact pw_mmin hdg hm hf ho (by rw [nI_min ha hb]; exact k)
theorem pw_maxN {M : MD} {pc idx : Nat} {l st : List Value} {bc bs : Nat} {x y : Int32} (a b : Nat) (hx : x = nI a) (hy : y = nI b) (ha : a < 2 ^ 31) (hb : b < 2 ^ 31) (hdg : decode (mcode M) pc = .ok (.invokestatic idx, 3)) (hm : pmS M.1.cls idx mJ9_max_7cf53 2) (hf : 1 ≤ mfr M) (ho : (st.map fun v => v.category).sum + 13 ≤ mlo M) (k : PW Γ M (pc + 3) l (.int (nI (max a b)) :: st) h bc bs Q) : PW Γ M pc l (.int y :: .int x :: st) h bc bs Q := by
  subst hx; subst hy
  exact pw_mmax hdg hm hf ho (by rw [nI_max ha hb]; exact k)
theorem nI_pos_0 : ¬ (0 : Int32) < 0 := by decide
theorem cpn_step {f g : Nat → Int32} {i : Nat} {v : Int32} (h : v = f i) : upd (cpn f g i) i v = cpn f g (i + 1) := by
  funext j
  unfold upd cpn
  by_cases h1 : j = i
  · subst h1
    simp [h]
  · by_cases h2 : j < i
    · simp [h1, h2, Nat.lt_succ_of_lt h2]
    · simp [h1, h2, show ¬ j < i + 1 by omega]
theorem cpn_0 {f g : Nat → Int32} : cpn f g 0 = g := by
  funext j
  simp [cpn]
theorem fill_loop {a : Nat} {v : Int32} (h1 : shp[a]? = some (.inl n)) (hn : n < 2000) (g : Nat → Int32) : ∀ (k i : Nat), i + k = n →
    (PW Γ mJ7_fill_53178 20 [.ref a, .int v, .int (nI n), .int (nI n)] [] (HS F (stA A a (cpn (fun _ => v) g n)) rf lo X) 0 0 Q) →
    PW Γ mJ7_fill_53178 5 [.ref a, .int v, .int (nI i), .int (nI n)] [] (HS F (stA A a (cpn (fun _ => v) g i)) rf lo X) 0 0 Q := by
  intro k
  induction k with
  | zero =>
    intro i hi hk
    have hi : i = n := by omega
    subst hi
    refine pw_iload_n rfl dJ7_fill_53178_5 ?_
    refine pw_iload_n rfl dJ7_fill_53178_6 ?_
    refine pw_icmp_ge 20 dJ7_fill_53178_7 (by decide) (fun _ => ?_) (fun q => absurd (nI_le (Nat.le_refl _) (by omega)) q)
    exact hk
  | succ k ih =>
    intro i hi hk
    refine pw_iload_n rfl dJ7_fill_53178_5 ?_
    refine pw_iload_n rfl dJ7_fill_53178_6 ?_
    refine pw_icmp_ge 20 dJ7_fill_53178_7 (by decide) (fun q => absurd q (nI_ge (by omega) (by omega))) (fun _ => ?_)
    refine pw_aload_n rfl dJ7_fill_53178_10 ?_
    refine pw_iload_n rfl dJ7_fill_53178_11 ?_
    refine pw_iload_n rfl dJ7_fill_53178_12 ?_
    refine pw_sI dJ7_fill_53178_13 (by first | rfl | assumption) (by first | assumption | exact vp_in_nI (by omega) (by omega)) ?_
    refine ps_iinc (l' := [_, _, _, _]) 1 dJ7_fill_53178_14 (by decide) rfl (by decide) rfl rfl ?_
    refine pw_goto 5 dJ7_fill_53178_17 (by decide) ?_
    rw [nI_clamp (by omega), stA_s, cpn_step rfl, stA_stA, nI_1]
    exact ih (i + 1) (by omega) hk
theorem c_fill {a : Nat} {v : Int32} (h1 : shp[a]? = some (.inl n)) (hn : n < 2000) (hQ : Q none (HS F (stA A a (cpn (fun _ => v) (A a) n)) rf lo X)) : PM Γ mJ7_fill_53178 [.ref a, .int v] (HS F A rf lo X) 0 0 Q := by
  refine PM.go (l := [_, _, .float 0, .float 0]) rfl rfl (Nat.le_of_ble_eq_true rfl) rfl ?_
  refine pw_iconst 0 (by decide) dJ7_fill_53178_0 ?_
  refine ps_istore_n (l' := [_, _, _, _]) dJ7_fill_53178_1 (by decide) rfl rfl ?_
  refine pw_aload_n rfl dJ7_fill_53178_2 ?_
  refine pw_lI (nI _) dJ7_fill_53178_3 (by first | rfl | assumption) rfl ?_
  refine ps_istore_n (l' := [_, _, _, _]) dJ7_fill_53178_4 (by decide) rfl rfl ?_
  have e : HS F A rf lo X = HS F (stA A a (cpn (fun _ => v) (A a) 0)) rf lo X := by rw [stA_self cpn_0]
  rw [e]
  refine fill_loop h1 hn (A a) n 0 (by omega) ?_
  refine pw_vret dJ7_fill_53178_20 rfl ?_
  exact hQ
/-- Row.become: its own room is enough -/
theorem c_become {r2 c2 cap2 : Nat} (hr : isRow r c cap) (hr2 : isRow r2 c2 cap2) (hn : F r2 1 = nI n) (hN : n ≤ cap) (hN2 : n ≤ cap2) (hQ : Q none (HS (upF F r 1 (nI n)) (stA A c (cpn (A c2) (A c) n)) rf lo X)) : PM Γ mX6_become [.ref r, .ref r2] (HS F A rf lo X) 0 0 Q := by
  obtain ⟨h1, h2, h9, hc⟩ := hr
  obtain ⟨g1, g2, g9, gc⟩ := hr2
  refine PM.go (l := [_, _]) rfl rfl (Nat.le_of_ble_eq_true rfl) rfl ?_
  refine pw_aload_n rfl dX6_become_0 ?_
  refine pw_aload_n rfl dX6_become_1 ?_
  refine pw_gI dX6_become_2 fX6_7 (by first | rfl | assumption) rfl ?_
  refine pw_aload_n rfl dX6_become_5 ?_
  refine pw_gC dX6_become_6 fX6_13 (by first | rfl | assumption) rfl (by first | rfl | assumption) ?_
  refine pw_lI (nI _) dX6_become_9 (by first | rfl | assumption) rfl ?_
  refine pw_minN n cap hn rfl (by omega) (by omega) dX6_become_10 lX6_17 (by decide) (Nat.le_of_ble_eq_true rfl) ?_
  rw [Nat.min_eq_left hN]
  refine pw_pI dX6_become_13 fX6_7 (by first | rfl | assumption) rfl ⟨rfl, rfl⟩ ?_
  refine pw_aload_n rfl dX6_become_16 ?_
  refine pw_gC dX6_become_17 fX6_13 (by first | rfl | assumption) rfl (by first | rfl | assumption) ?_
  refine pw_iconst 0 (by decide) dX6_become_20 ?_
  refine pw_aload_n rfl dX6_become_21 ?_
  refine pw_gC dX6_become_22 fX6_13 (by first | rfl | assumption) rfl (by first | rfl | assumption) ?_
  refine pw_iconst 0 (by decide) dX6_become_25 ?_
  refine pw_aload_n rfl dX6_become_26 ?_
  refine pw_gI dX6_become_27 fX6_7 (by first | rfl | assumption) rfl ?_
  rw [upF_s]
  refine pw_cp dX6_become_30 lX6_23 (by first | rfl | assumption) (by first | rfl | assumption) nI_pos_0 nI_pos_0 (nI_pos (by omega)) (by rw [nI_clamp (by omega)]; simpa using hN2) (by rw [nI_clamp (by omega)]; simpa using hN) (by decide) (Nat.le_of_ble_eq_true rfl) ?_
  refine pw_vret dX6_become_33 rfl ?_
  rw [nI_clamp (by omega)]
  have e : (0 : Int32).toNatClampNeg = 0 := rfl
  rw [e, cpn_va]
  exact hQ
end
