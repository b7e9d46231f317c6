/-! PREFIX read again: pure; the object's isWhole, readFrom -/
def kr (e : Nat → Nat) : Nat → Nat
  | 0 => 0
  | l + 1 => kr e l + (if l = 0 then 0 else nlz e l 256 * 2 ^ (15 - l))
theorem kr_upd {e : Nat → Nat} {b v : Nat} (h0 : e b = 0) (hb : b < 256) (hv : 0 < v) : ∀ L, kr (updN e b v) L = kr e L + (if v < L then 2 ^ (15 - v) else 0)
  | 0 => by rw [if_neg (by omega)]; rfl
  | L + 1 => by
    have ih := kr_upd h0 hb hv L
    show kr (updN e b v) L + (if L = 0 then 0 else nlz (updN e b v) L 256 * 2 ^ (15 - L)) = kr e L + (if L = 0 then 0 else nlz e L 256 * 2 ^ (15 - L)) + _
    rw [ih]
    by_cases hL : L = 0
    · subst hL
      rw [if_pos rfl, if_pos rfl, if_neg (by omega), if_neg (by omega)]
    · rw [if_neg hL, if_neg hL, nlz_upd h0 (by omega)]
      by_cases hvL : v = L
      · rw [hvL, if_neg (Nat.lt_irrefl L), if_pos ⟨hb, rfl⟩, if_pos (by omega), Nat.add_mul, Nat.one_mul]
        omega
      · rw [if_neg (show ¬ (b < 256 ∧ v = L) by omega), Nat.add_zero]
        by_cases h2 : v < L
        · rw [if_pos h2, if_pos (by omega)]; omega
        · rw [if_neg h2, if_neg (by omega)]; omega
theorem kr_s {e : Nat → Nat} {l : Nat} (h : 0 < l) : kr e (l + 1) = kr e l + nlz e l 256 * 2 ^ (15 - l) := by
  show kr e l + (if l = 0 then 0 else nlz e l 256 * 2 ^ (15 - l)) = _
  rw [if_neg (by omega)]
theorem kr_nc {e : Nat → Nat} : ∀ l, l + 1 ≤ 15 → nc e (l + 1) * 2 ^ (15 - (l + 1)) = kr e (l + 1)
  | 0 => fun _ => by
    show 2 * (0 + (if 0 = 0 then 0 else nlz e 0 256)) * _ = 0 + (if 0 = 0 then 0 else _)
    rw [if_pos rfl, if_pos rfl, Nat.add_zero, Nat.mul_zero, Nat.zero_mul]
  | l + 1 => fun h => by
    have ih := kr_nc (e := e) l (by omega)
    rw [nc_s (by omega), kr_s (by omega), ← ih, ← Nat.add_mul, show 15 - (l + 1) = 15 - (l + 1 + 1) + 1 by omega, Nat.pow_succ, Nat.mul_comm 2, Nat.mul_assoc, Nat.mul_comm 2]
theorem kr_16 {e : Nat → Nat} : kr e 16 = nc e 15 + nlz e 15 256 := by
  have h := kr_nc (e := e) 14 (by omega)
  rw [show (15 - (14 + 1)) = 0 from rfl, Nat.pow_zero, Nat.mul_one] at h
  rw [kr_s (l := 15) (by omega), ← h, show 15 - 15 = 0 from rfl, Nat.pow_zero, Nat.mul_one]
theorem kr_t {e : Nat → Nat} {l : Nat} (h : 0 < l) : nlz e l 256 * 2 ^ (15 - l) ≤ 4194304 := by
  have h1 := nlz_le e l 256
  have h2 : 2 ^ (15 - l) ≤ 2 ^ 14 := Nat.pow_le_pow_right (by omega) (by omega)
  exact Nat.mul_le_mul h1 h2
theorem kr_le {e : Nat → Nat} : ∀ L, kr e L ≤ L * 4194304
  | 0 => Nat.le_refl 0
  | L + 1 => by
    have ih := kr_le (e := e) L
    by_cases hL : L = 0
    · subst hL
      show 0 + (if 0 = 0 then 0 else _) ≤ _
      rw [if_pos rfl]; omega
    · rw [kr_s (by omega)]
      have := kr_t (e := e) (l := L) (by omega)
      omega
theorem kr_none : ∀ L, kr (fun _ => 0) L = 0
  | 0 => rfl
  | L + 1 => by
    show kr (fun _ => 0) L + (if L = 0 then 0 else nlz (fun _ => 0) L 256 * 2 ^ (15 - L)) = 0
    rw [kr_none L]
    by_cases hL : L = 0
    · rw [if_pos hL]
    · rw [if_neg hL, nlz_none L (by omega), Nat.zero_mul]
abbrev whl (e : Nat → Nat) : Prop := (knz e 256 = 1 ∧ nlz e 1 256 = 1) ∨ (¬ knz e 256 = 1 ∧ kr e 16 = 32768)
def wh1 (e : Nat → Nat) (r : RT) : RT := if whl e then r else blm 4 r
theorem wh1_0 {e : Nat → Nat} {r : RT} (h : (wh1 e r).1 = 0) : r.1 = 0 ∧ whl e ∧ wh1 e r = r := by
  unfold wh1 at h ⊢
  by_cases h1 : whl e
  · rw [if_pos h1] at h ⊢
    exact ⟨h, h1, rfl⟩
  · rw [if_neg h1] at h
    exact absurd h (blm_0 (by omega))
theorem wh1_f {e : Nat → Nat} {r : RT} (h : ¬ r.1 = 0) : wh1 e r = r := by
  unfold wh1
  rw [blm_f h]
  split <;> rfl
theorem wh1_ok {o : Nat} {e : Nat → Nat} {r : RT} (h : rok o r) : rok o (wh1 e r) := by
  unfold wh1
  split
  · exact h
  · exact blm_rok h (by omega)
/-- the byte of LENGTH l that is the j-th of them -/
def fb (e : Nat → Nat) (l j : Nat) : Nat → Nat
  | 0 => 0
  | z + 1 => if e z = l ∧ nlz e l z = j then z else fb e l j z
theorem fb_lt {e : Nat → Nat} {l j : Nat} : ∀ z, fb e l j (z + 1) < z + 1
  | 0 => by
    unfold fb
    split
    · omega
    · show 0 < 1; omega
  | z + 1 => by
    have ih := fb_lt (e := e) (l := l) (j := j) z
    unfold fb
    split <;> omega
theorem fb_ok {e : Nat → Nat} {l j : Nat} : ∀ z, j < nlz e l z → fb e l j z < z ∧ e (fb e l j z) = l ∧ nlz e l (fb e l j z) = j
  | 0 => fun h => absurd h (Nat.not_lt_zero _)
  | z + 1 => fun h => by
    have h2 : j < nlz e l z + (if e z = l then 1 else 0) := h
    unfold fb
    by_cases h1 : e z = l ∧ nlz e l z = j
    · rw [if_pos h1]
      exact ⟨by omega, h1.1, h1.2⟩
    · rw [if_neg h1]
      have h3 : j < nlz e l z := by
        by_cases h4 : e z = l
        · rw [if_pos h4] at h2
          have : ¬ nlz e l z = j := fun h5 => h1 ⟨h4, h5⟩
          omega
        · rw [if_neg h4] at h2
          exact h2
      have ih := fb_ok z h3
      exact ⟨by omega, ih.2⟩
def dcd (O : Nat → Int32) (o : Nat) (e : Nat → Nat) (on : Bool) : Nat → Nat → Nat → UT → UT × Nat
  | 0, _, _, s => (s, 0)
  | m + 1, l, v, s => if s.1.1 = 0 then (if (btS o s).1.1 = 0 then (if 2 * v + btV O o s < nc e l + nlz e l 256 then (btS o s, fb e l (2 * v + btV O o s - nc e l) 256) else if on = true then ((blm 4 (btS o s).1, (btS o s).2), 0) else dcd O o e on m (l + 1) (2 * v + btV O o s) (btS o s)) else (btS o s, 0)) else (s, 0)
theorem dcd_f {O : Nat → Int32} {o : Nat} {e : Nat → Nat} {on : Bool} {m l v : Nat} {s : UT} (h : ¬ s.1.1 = 0) : dcd O o e on m l v s = (s, 0) := by
  cases m with
  | zero => rfl
  | succ m => unfold dcd; rw [if_neg h]
theorem dcd_ok {O : Nat → Int32} {o : Nat} {e : Nat → Nat} {on : Bool} : ∀ (m l v : Nat) (s : UT), uok o s → (uok o (dcd O o e on m l v s).1 ∧ ((dcd O o e on m l v s).1.1.1 = 0 → s.1.1 = 0)) ∧ (dcd O o e on m l v s).2 < 256
  | 0, l, v, s => fun h => ⟨⟨h, fun h2 => h2⟩, by show 0 < 256; omega⟩
  | m + 1, l, v, s => fun h => by
    unfold dcd
    have hb := btS_ok h
    by_cases h0 : s.1.1 = 0
    · rw [if_pos h0]
      by_cases h1 : (btS o s).1.1 = 0
      · rw [if_pos h1]
        split
        · exact ⟨⟨hb, fun _ => h0⟩, fb_lt 255⟩
        · split
          · exact ⟨⟨⟨blm_rok hb.1 (by omega), hb.2.1, fun h2 => absurd h2 (blm_0 (by omega))⟩, fun _ => h0⟩, by show 0 < 256; omega⟩
          · have ih := dcd_ok (O := O) (e := e) (on := on) m (l + 1) (2 * v + btV O o s) (btS o s) hb
            exact ⟨⟨ih.1.1, fun _ => h0⟩, ih.2⟩
      · rw [if_neg h1]
        exact ⟨⟨hb, fun _ => h0⟩, by show 0 < 256; omega⟩
    · rw [if_neg h0]
      exact ⟨⟨h, fun h2 => absurd h2 h0⟩, by show 0 < 256; omega⟩
theorem isB_nI : isB (fun j => nI j) 256 := fun j hj => ⟨j, hj, rfl⟩
theorem stz_256 {e : Nat → Nat} (h : ∀ b, e b ≤ 15) {l : Nat} (hl : l ≤ 16) : stz e 256 l ≤ 256 := by
  have h1 := stz_mono e 256 hl
  rw [stz_16 h] at h1
  have := knz_le e 256
  omega
section
variable {Γ : Nat × (Nat → Int32)} {F A : Nat → Nat → Int32} {lo : Int64} {X : PH} {Q : Option Value → PH → Prop} {o n : Nat} {O : Nat → Int32} {rf : Nat} {e : Nat → Nat}
theorem ucw_loop (p3 : ∀ l, 0 < l → l < 16 → A 45 l = nI (nlz e l 256)) (hQ : PW Γ mX4_isWhole 54 [.ref 41, .int (nI (kr e 16)), .int (nI 16)] [] (HS F A rf lo X) 0 0 Q) : ∀ (m l : Nat), l + m = 16 → 0 < l → PW Γ mX4_isWhole 28 [.ref 41, .int (nI (kr e l)), .int (nI l)] [] (HS F A rf lo X) 0 0 Q := by
  intro m
  induction m with
  | zero =>
    intro l hl hl0
    rw [show l = 16 by omega]
    refine pw_iload_n rfl dX4_isWhole_28 ?_
    refine pw_bipush 15 (by decide) dX4_isWhole_29 ?_
    refine pw_icmp_gt 54 dX4_isWhole_31 (by decide) (fun _ => ?_) (fun q => absurd (by decide) q)
    exact hQ
  | succ m ih =>
    intro l hl hl0
    have ht := kr_t (e := e) hl0
    refine pw_iload_n rfl dX4_isWhole_28 ?_
    refine pw_bipush 15 (by decide) dX4_isWhole_29 ?_
    refine pw_icmp_gt 54 dX4_isWhole_31 (by decide) (fun q => absurd q (nI_nlt (a := 15) (by omega) (by omega))) (fun _ => ?_)
    refine pw_iload_n rfl dX4_isWhole_34 ?_
    refine pw_aload_n rfl dX4_isWhole_35 ?_
    refine pw_gC dX4_isWhole_36 fX4_21 (by first | rfl | assumption) rfl (by first | rfl | assumption) ?_
    refine pw_iload_n rfl dX4_isWhole_39 ?_
    refine pw_aI dX4_isWhole_40 (by first | rfl | assumption) (by first | assumption | exact vp_in_nI (by omega) (by omega)) ?_
    rw [nI_clamp (by omega), p3 l hl0 (by omega)]
    refine pw_bipush 15 (by decide) dX4_isWhole_41 ?_
    refine pw_iload_n rfl dX4_isWhole_43 ?_
    rw [show (15 : Int32) = nI 15 from rfl]
    refine pw_isub dX4_isWhole_44 ?_
    rw [pk_sub (by omega)]
    refine pw_ishl dX4_isWhole_45 ?_
    rw [nI_shl (by omega) (by omega)]
    refine pw_iadd dX4_isWhole_46 ?_
    rw [nI_add, ← kr_s hl0]
    refine ps_istore_n (l' := [_, _, _]) dX4_isWhole_47 (by decide) rfl rfl ?_
    refine ps_iinc (l' := [_, _, _]) 1 dX4_isWhole_48 (by decide) rfl (by decide) rfl rfl ?_
    refine pw_goto 28 dX4_isWhole_51 (by decide) ?_
    rw [nI_1]
    exact ih (l + 1) (by omega) (by omega)
theorem c_isWhole (hP : PC F A 41 e) (hQ : Q (some (.int (if whl e then 1 else 0))) (HS F A rf lo X)) : PM Γ mX4_isWhole [.ref 41] (HS F A rf lo X) 0 0 Q := by
  obtain ⟨p1, p2, p3, p4, p5⟩ := hP
  have p3' : ∀ l, 0 < l → l < 16 → A 45 l = nI (nlz e l 256) := p3
  have hkn := knz_le e 256
  have hn1 := nlz_le e 1 256
  have hkr := kr_le (e := e) 16
  refine PM.go (l := [_, .float 0, .float 0]) rfl rfl (Nat.le_of_ble_eq_true rfl) rfl ?_
  refine pw_aload_n rfl dX4_isWhole_0 ?_
  refine pw_gI dX4_isWhole_1 fX4_27 (by first | rfl | assumption) rfl ?_
  rw [p5]
  by_cases h1 : knz e 256 = 1
  · refine pw_iconst 1 (by decide) dX4_isWhole_4 ?_
    refine pw_icmp_ne 24 dX4_isWhole_5 (by decide) (fun q => absurd (by rw [h1]; rfl) q) (fun _ => ?_)
    refine pw_aload_n rfl dX4_isWhole_8 ?_
    refine pw_gC dX4_isWhole_9 fX4_21 (by first | rfl | assumption) rfl (by first | rfl | assumption) ?_
    refine pw_iconst 1 (by decide) dX4_isWhole_12 ?_
    refine pw_aI dX4_isWhole_13 (by first | rfl | assumption) (vp_in_nI (n := 1) (by decide) (by decide)) ?_
    rw [show Int32.toNatClampNeg 1 = 1 from rfl, p3' 1 (by omega) (by omega)]
    by_cases h2 : nlz e 1 256 = 1
    · rw [if_pos (Or.inl ⟨h1, h2⟩)] at hQ
      refine pw_iconst 1 (by decide) dX4_isWhole_14 ?_
      refine pw_icmp_ne 22 dX4_isWhole_15 (by decide) (fun q => absurd (by rw [h2]; rfl) q) (fun _ => ?_)
      refine pw_iconst 1 (by decide) dX4_isWhole_18 ?_
      refine pw_goto 23 dX4_isWhole_19 (by decide) ?_
      refine pw_iret dX4_isWhole_23 (Or.inr ⟨rfl, rfl⟩) ?_
      exact hQ
    · rw [if_neg (fun z => by rcases z with z | z; exact h2 z.2; exact z.1 h1)] at hQ
      refine pw_iconst 1 (by decide) dX4_isWhole_14 ?_
      refine pw_icmp_ne 22 dX4_isWhole_15 (by decide) (fun _ => ?_) (fun q => absurd q (fun h9 => h2 (nI_inj (b := 1) (by omega) (by omega) h9)))
      refine pw_iconst 0 (by decide) dX4_isWhole_22 ?_
      refine pw_iret dX4_isWhole_23 (Or.inr ⟨rfl, rfl⟩) ?_
      exact hQ
  · refine pw_iconst 1 (by decide) dX4_isWhole_4 ?_
    refine pw_icmp_ne 24 dX4_isWhole_5 (by decide) (fun _ => ?_) (fun q => absurd q (fun h9 => h1 (nI_inj (b := 1) (by omega) (by omega) h9)))
    refine pw_iconst 0 (by decide) dX4_isWhole_24 ?_
    refine ps_istore_n (l' := [_, _, _]) dX4_isWhole_25 (by decide) rfl rfl ?_
    refine pw_iconst 1 (by decide) dX4_isWhole_26 ?_
    refine ps_istore_n (l' := [_, _, _]) dX4_isWhole_27 (by decide) rfl rfl ?_
    refine ucw_loop (e := e) p3' ?_ 15 1 rfl (by omega)
    by_cases h2 : kr e 16 = 32768
    · rw [if_pos (Or.inr ⟨h1, h2⟩)] at hQ
      refine pw_iload_n rfl dX4_isWhole_54 ?_
      refine pw_ldc qX4_37 dX4_isWhole_55 ?_
      refine pw_icmp_ne 64 dX4_isWhole_57 (by decide) (fun q => absurd (by rw [h2]; rfl) q) (fun _ => ?_)
      refine pw_iconst 1 (by decide) dX4_isWhole_60 ?_
      refine pw_goto 65 dX4_isWhole_61 (by decide) ?_
      refine pw_iret dX4_isWhole_65 (Or.inr ⟨rfl, rfl⟩) ?_
      exact hQ
    · rw [if_neg (fun z => by rcases z with z | z; exact h1 z.1; exact h2 z.2)] at hQ
      refine pw_iload_n rfl dX4_isWhole_54 ?_
      refine pw_ldc qX4_37 dX4_isWhole_55 ?_
      refine pw_icmp_ne 64 dX4_isWhole_57 (by decide) (fun _ => ?_) (fun q => absurd q (fun h9 => h2 (nI_inj (b := 32768) (by omega) (by omega) h9)))
      refine pw_iconst 0 (by decide) dX4_isWhole_64 ?_
      refine pw_iret dX4_isWhole_65 (Or.inr ⟨rfl, rfl⟩) ?_
      exact hQ
theorem ucf_loop (hO : OX F A o O) (ho : o ≤ 1024) (hB : isB O o) (hP : PC F A 41 e) (hRk : ∀ x, x < 256 → 0 < e x → A 44 (rkp e x) = nI x) : ∀ (m p v x : Nat) (s : UT) (F' : Nat → Nat → Int32) (g6 : Value), g6.category = 1 → p + m = 15 → frS F F' → CU O F' s → uok o s → (s.1.1 = 0 → x = v) → nc e (p + 1) ≤ 2 * x → x < 2 ^ p →
    (∀ F' z, frS F F' → CU O F' (dcd O o e (decide (knz e 256 = 1)) m (p + 1) v s).1 → ((dcd O o e (decide (knz e 256 = 1)) m (p + 1) v s).1.1.1 = 0 → z = nI (dcd O o e (decide (knz e 256 = 1)) m (p + 1) v s).2) → Q (some (.int z)) (HS F' A 3 lo X)) →
    PW Γ mX4_readFrom 10 [.ref 41, .ref 35, .int (nI x), .int (nI (nc e (p + 1))), .int (nI (stz e 256 (p + 1))), .int (nI (p + 1)), g6] [] (HS F' A 3 lo X) 0 0 Q := by
  obtain ⟨p1, p2, p3, p4, p5⟩ := hP
  have p3' : ∀ l, 0 < l → l < 16 → A 45 l = nI (nlz e l 256) := p3
  have hkn := knz_le e 256
  intro m
  induction m with
  | zero =>
    intro p v x s F' g6 k6 hp hfr hC hk hxv hnc hx hq
    rw [show p = 15 by omega]
    refine pw_iload rfl dX4_readFrom_10 ?_
    refine pw_bipush 15 (by decide) dX4_readFrom_12 ?_
    refine pw_icmp_gt 108 dX4_readFrom_14 (by decide) (fun _ => ?_) (fun q => absurd (by decide) q)
    refine pw_iconst 0 (by decide) dX4_readFrom_108 ?_
    refine pw_iret dX4_readFrom_109 (Or.inl rfl) ?_
    exact hq F' 0 hfr hC (fun _ => rfl)
  | succ m ih =>
    intro p v x s F' g6 k6 hp hfr hC hk hxv hnc hx hq
    have hpw : 2 ^ p ≤ 2 ^ 14 := Nat.pow_le_pow_right (by omega) (by omega)
    have hst := stz_256 p2 (show p + 1 ≤ 16 by omega)
    have hnl := nlz_le e (p + 1) 256
    unfold dcd at hq
    refine pw_iload rfl dX4_readFrom_10 ?_
    refine pw_bipush 15 (by decide) dX4_readFrom_12 ?_
    refine pw_icmp_gt 108 dX4_readFrom_14 (by decide) (fun q => absurd q (nI_nlt (a := 15) (by omega) (by omega))) (fun _ => ?_)
    refine pw_aload_n rfl dX4_readFrom_17 ?_
    refine pc_V0 dX4_readFrom_18 lX4_47 rfl rfl (by decide) (Nat.le_of_ble_eq_true rfl) ?_
    refine c_isFine hC.1 hk.1.1 ?_
    by_cases h0 : s.1.1 = 0
    · rw [if_pos h0] at hq
      rw [if_pos h0]
      have hx0 := hxv h0
      refine pw_if_eq 108 dX4_readFrom_21 (by decide) (fun q => absurd q (by decide)) (fun _ => ?_)
      refine pw_iload_n rfl dX4_readFrom_24 ?_
      refine pw_iconst 1 (by decide) dX4_readFrom_25 ?_
      refine pw_ishl dX4_readFrom_26 ?_
      refine pw_aload_n rfl dX4_readFrom_27 ?_
      rw [nI_shl1 (by omega)]
      refine pc_V0 dX4_readFrom_28 lX4_53 rfl rfl (by decide) (Nat.le_of_ble_eq_true rfl) ?_
      refine c_bit (OX_fr hO (hfr _ _ (by omega)) rfl) ho hB hC hk ?_
      intro F1 b hf1 hC1 hb hbv
      have hkb := btS_ok hk
      have hfr1 := frS_t hfr hf1
      refine pw_ior dX4_readFrom_31 ?_
      rw [nI_or, or_bit hb]
      refine ps_istore_n (l' := [_, _, _, _, _, _, _]) dX4_readFrom_32 (by decide) rfl rfl ?_
      refine pw_iload_n rfl dX4_readFrom_33 ?_
      refine pw_iload_n rfl dX4_readFrom_34 ?_
      refine pw_isub dX4_readFrom_35 ?_
      rw [pk_sub (by omega)]
      refine ps_istore (l' := [_, _, _, _, _, _, _]) dX4_readFrom_36 (by decide) rfl rfl ?_
      refine pw_iload rfl dX4_readFrom_38 ?_
      refine pw_aload_n rfl dX4_readFrom_40 ?_
      refine pw_gC dX4_readFrom_41 fX4_21 (by first | rfl | assumption) rfl (by first | rfl | assumption) ?_
      refine pw_iload rfl dX4_readFrom_44 ?_
      refine pw_aI dX4_readFrom_46 (by first | rfl | assumption) (by first | assumption | exact vp_in_nI (by omega) (by omega)) ?_
      rw [nI_clamp (by omega), p3' (p + 1) (by omega) (by omega)]
      by_cases hw : 2 * x + b < nc e (p + 1) + nlz e (p + 1) 256
      · refine pw_icmp_ge 65 dX4_readFrom_47 (by decide) (fun q => absurd q (nI_ge (by omega) (by omega))) (fun _ => ?_)
        refine pw_aload_n rfl dX4_readFrom_50 ?_
        refine pw_gC dX4_readFrom_51 fX4_18 (by first | rfl | assumption) rfl (by first | rfl | assumption) ?_
        refine pw_iload rfl dX4_readFrom_54 ?_
        refine pw_iload rfl dX4_readFrom_56 ?_
        refine pw_iadd dX4_readFrom_58 ?_
        rw [nI_add]
        refine pw_sipush 255 (by decide) dX4_readFrom_59 ?_
        refine pw_iand dX4_readFrom_62 ?_
        rw [nI_and255 (by omega)]
        obtain ⟨q, hqd⟩ : ∃ q, q = (stz e 256 (p + 1) + (2 * x + b - nc e (p + 1))) % 256 := ⟨_, rfl⟩
        have hq2 : q < 256 := by rw [hqd]; exact Nat.mod_lt _ (by omega)
        rw [← hqd]
        refine pw_aI dX4_readFrom_63 (by first | rfl | assumption) (by first | assumption | exact vp_in_nI (by omega) (by omega)) ?_
        refine pw_iret dX4_readFrom_64 (Or.inl rfl) ?_
        rw [nI_clamp (by omega)]
        refine hq F1 _ hfr1 ?_ ?_
        · by_cases h1 : (btS o s).1.1 = 0
          · have e1 := hbv h1
            rw [if_pos h1, ← e1, ← hx0, if_pos hw]
            exact hC1
          · rw [if_neg h1]
            exact hC1
        · intro z
          by_cases h1 : (btS o s).1.1 = 0
          · have e1 := hbv h1
            rw [if_pos h1, ← e1, ← hx0, if_pos hw]
            have hfb := fb_ok (e := e) (l := p + 1) (j := 2 * x + b - nc e (p + 1)) 256 (by omega)
            have hrk : rkp e (fb e (p + 1) (2 * x + b - nc e (p + 1)) 256) = stz e 256 (p + 1) + (2 * x + b - nc e (p + 1)) := by
              unfold rkp
              rw [hfb.2.1, hfb.2.2]
            have hlt := rkp_lt p2 hfb.1 (by rw [hfb.2.1]; omega)
            rw [hrk] at hlt
            have hqq : q = rkp e (fb e (p + 1) (2 * x + b - nc e (p + 1)) 256) := by rw [hrk, hqd]; exact Nat.mod_eq_of_lt (by omega)
            rw [hqq]
            exact hRk _ hfb.1 (by rw [hfb.2.1]; omega)
          · rw [if_neg h1] at z
            exact absurd z h1
      · refine pw_icmp_ge 65 dX4_readFrom_47 (by decide) (fun _ => ?_) (fun q => absurd (nI_le (by omega) (by omega)) q)
        refine pw_aload_n rfl dX4_readFrom_65 ?_
        refine pw_gI dX4_readFrom_66 fX4_27 (by first | rfl | assumption) rfl ?_
        rw [hfr1 41 5 (by omega), p5]
        have hncs : nc e (p + 1 + 1) = 2 * (nc e (p + 1) + nlz e (p + 1) 256) := nc_s (by omega)
        have hlim := nc_lim (e := e) (show p + 1 + 1 ≤ 16 by omega)
        have hp2 : 2 ^ (p + 1) = 2 ^ p * 2 := Nat.pow_succ _ _
        -- the rest of the round
        have rest : ∀ (F2 : Nat → Nat → Int32) (s2 : UT) (v2 : Nat), frS F F2 → CU O F2 s2 → uok o s2 → (s2.1.1 = 0 → 2 * x + b = v2) → (∀ F' z, frS F F' → CU O F' (dcd O o e (decide (knz e 256 = 1)) m (p + 1 + 1) v2 s2).1 → ((dcd O o e (decide (knz e 256 = 1)) m (p + 1 + 1) v2 s2).1.1.1 = 0 → z = nI (dcd O o e (decide (knz e 256 = 1)) m (p + 1 + 1) v2 s2).2) → Q (some (.int z)) (HS F' A 3 lo X)) → PW Γ mX4_readFrom 78 [.ref 41, .ref 35, .int (nI (2 * x + b)), .int (nI (nc e (p + 1))), .int (nI (stz e 256 (p + 1))), .int (nI (p + 1)), .int (nI (2 * x + b - nc e (p + 1)))] [] (HS F2 A 3 lo X) 0 0 Q := by
          intro F2 s2 v2 hf2 hC2 hk2 hxv2 hq2
          refine pw_iload rfl dX4_readFrom_78 ?_
          refine pw_aload_n rfl dX4_readFrom_80 ?_
          refine pw_gC dX4_readFrom_81 fX4_21 (by first | rfl | assumption) rfl (by first | rfl | assumption) ?_
          refine pw_iload rfl dX4_readFrom_84 ?_
          refine pw_aI dX4_readFrom_86 (by first | rfl | assumption) (by first | assumption | exact vp_in_nI (by omega) (by omega)) ?_
          rw [nI_clamp (by omega), p3' (p + 1) (by omega) (by omega)]
          refine pw_iadd dX4_readFrom_87 ?_
          rw [nI_add, ← stz_s (by omega)]
          refine ps_istore (l' := [_, _, _, _, _, _, _]) dX4_readFrom_88 (by decide) rfl rfl ?_
          refine pw_iload_n rfl dX4_readFrom_90 ?_
          refine pw_aload_n rfl dX4_readFrom_91 ?_
          refine pw_gC dX4_readFrom_92 fX4_21 (by first | rfl | assumption) rfl (by first | rfl | assumption) ?_
          refine pw_iload rfl dX4_readFrom_95 ?_
          refine pw_aI dX4_readFrom_97 (by first | rfl | assumption) (by first | assumption | exact vp_in_nI (by omega) (by omega)) ?_
          rw [nI_clamp (by omega), p3' (p + 1) (by omega) (by omega)]
          refine pw_iadd dX4_readFrom_98 ?_
          rw [nI_add]
          refine pw_iconst 1 (by decide) dX4_readFrom_99 ?_
          refine pw_ishl dX4_readFrom_100 ?_
          rw [nI_shl1 (by omega), ← hncs]
          refine ps_istore_n (l' := [_, _, _, _, _, _, _]) dX4_readFrom_101 (by decide) rfl rfl ?_
          refine ps_iinc (l' := [_, _, _, _, _, _, _]) 1 dX4_readFrom_102 (by decide) rfl (by decide) rfl rfl ?_
          refine pw_goto 10 dX4_readFrom_105 (by decide) ?_
          rw [nI_1]
          exact ih (p + 1) v2 (2 * x + b) s2 F2 _ rfl (by omega) hf2 hC2 hk2 hxv2 (by omega) (by omega) hq2
        by_cases h1 : knz e 256 = 1
        · refine pw_iconst 1 (by decide) dX4_readFrom_69 ?_
          refine pw_icmp_ne 78 dX4_readFrom_70 (by decide) (fun q => absurd (by rw [h1]; rfl) q) (fun _ => ?_)
          refine pw_aload_n rfl dX4_readFrom_73 ?_
          refine pw_iconst 4 (by decide) dX4_readFrom_74 ?_
          refine pc_V1 dX4_readFrom_75 lX4_57 rfl rfl (by decide) (Nat.le_of_ble_eq_true rfl) ?_
          refine c_blame (w := 4) hC1.1 hkb.1.1 (by omega) hkb.2.2 ?_
          intro F2 hf2 hR2
          have hbl : ¬ (blm 4 (btS o s).1).1 = 0 := blm_0 (by omega)
          refine rest F2 (blm 4 (btS o s).1, (btS o s).2) 0 (frS_t hfr1 (frS_R hf2)) (CU_bl (by omega) hf2 hR2 hC1) ⟨blm_rok hkb.1 (by omega), hkb.2.1, fun z => absurd z hbl⟩ (fun z => absurd z hbl) ?_
          rw [dcd_f (s := (blm 4 (btS o s).1, (btS o s).2)) hbl]
          intro F3 z hf3 hC3 _
          refine hq F3 z hf3 ?_ ?_
          · by_cases h2 : (btS o s).1.1 = 0
            · have e1 := hbv h2
              rw [if_pos h2, ← e1, ← hx0, if_neg hw, if_pos (decide_eq_true h1)]
              exact hC3
            · rw [if_neg h2]
              rw [blm_f h2] at hC3
              exact hC3
          · intro z9
            by_cases h2 : (btS o s).1.1 = 0
            · have e1 := hbv h2
              rw [if_pos h2, ← e1, ← hx0, if_neg hw, if_pos (decide_eq_true h1)] at z9
              exact absurd z9 hbl
            · rw [if_neg h2] at z9
              exact absurd z9 h2
        · refine pw_iconst 1 (by decide) dX4_readFrom_69 ?_
          refine pw_icmp_ne 78 dX4_readFrom_70 (by decide) (fun _ => ?_) (fun q => absurd q (fun h9 => h1 (nI_inj (b := 1) (by omega) (by omega) h9)))
          have hde : ¬ decide (knz e 256 = 1) = true := fun h9 => h1 (of_decide_eq_true h9)
          by_cases h2 : (btS o s).1.1 = 0
          · have e1 := hbv h2
            rw [if_pos h2, ← e1, ← hx0, if_neg hw, if_neg hde] at hq
            exact rest F1 (btS o s) (2 * x + b) hfr1 hC1 hkb (fun _ => rfl) hq
          · rw [if_neg h2] at hq
            refine rest F1 (btS o s) (2 * x + b) hfr1 hC1 hkb (fun _ => rfl) ?_
            rw [dcd_f h2]
            exact hq
    · rw [if_neg h0] at hq
      rw [if_neg h0]
      refine pw_if_eq 108 dX4_readFrom_21 (by decide) (fun _ => ?_) (fun q => absurd (rfl) q)
      refine pw_iconst 0 (by decide) dX4_readFrom_108 ?_
      refine pw_iret dX4_readFrom_109 (Or.inl rfl) ?_
      exact hq F' 0 hfr hC (fun z => absurd z h0)
theorem c_readFrom {s : UT} (hO : OX F A o O) (ho : o ≤ 1024) (hB : isB O o) (hP : PC F A 41 e) (hRk : ∀ x, x < 256 → 0 < e x → A 44 (rkp e x) = nI x) (hC : CU O F s) (hk : uok o s)
    (hQ : ∀ F' z, frS F F' → CU O F' (dcd O o e (decide (knz e 256 = 1)) 15 1 0 s).1 → ((dcd O o e (decide (knz e 256 = 1)) 15 1 0 s).1.1.1 = 0 → z = nI (dcd O o e (decide (knz e 256 = 1)) 15 1 0 s).2) → Q (some (.int z)) (HS F' A 3 lo X)) : PM Γ mX4_readFrom [.ref 41, .ref 35] (HS F A 3 lo X) 0 0 Q := by
  refine PM.go (l := [_, _, .float 0, .float 0, .float 0, .float 0, .float 0]) rfl rfl (Nat.le_of_ble_eq_true rfl) rfl ?_
  refine pw_iconst 0 (by decide) dX4_readFrom_0 ?_
  refine ps_istore_n (l' := [_, _, _, _, _, _, _]) dX4_readFrom_1 (by decide) rfl rfl ?_
  refine pw_iconst 0 (by decide) dX4_readFrom_2 ?_
  refine ps_istore_n (l' := [_, _, _, _, _, _, _]) dX4_readFrom_3 (by decide) rfl rfl ?_
  refine pw_iconst 0 (by decide) dX4_readFrom_4 ?_
  refine ps_istore (l' := [_, _, _, _, _, _, _]) dX4_readFrom_5 (by decide) rfl rfl ?_
  refine pw_iconst 1 (by decide) dX4_readFrom_7 ?_
  refine ps_istore (l' := [_, _, _, _, _, _, _]) dX4_readFrom_8 (by decide) rfl rfl ?_
  exact ucf_loop hO ho hB hP hRk 15 0 0 0 s F _ rfl rfl frS_r hC hk (fun _ => rfl) (Nat.zero_le _) (by decide) hQ
end
