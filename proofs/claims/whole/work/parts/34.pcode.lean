/-! PREFIX's codes by LENGTHS: pure, and the class's PrefixCode -/
def nlz (e : Nat → Nat) (l : Nat) : Nat → Nat
  | 0 => 0
  | z + 1 => nlz e l z + (if e z = l then 1 else 0)
def knz (e : Nat → Nat) : Nat → Nat
  | 0 => 0
  | z + 1 => knz e z + (if 0 < e z then 1 else 0)
def stz (e : Nat → Nat) (z : Nat) : Nat → Nat
  | 0 => 0
  | l + 1 => stz e z l + (if l = 0 then 0 else nlz e l z)
theorem nlz_le (e : Nat → Nat) (l : Nat) : ∀ z, nlz e l z ≤ z
  | 0 => Nat.le_refl 0
  | z + 1 => by
    have := nlz_le e l z
    unfold nlz
    split <;> omega
theorem nlz_mono (e : Nat → Nat) (l : Nat) {a z : Nat} (h : a ≤ z) : nlz e l a ≤ nlz e l z := by
  induction h with
  | refl => exact Nat.le_refl _
  | step _ ih => exact Nat.le_trans ih (Nat.le_add_right _ _)
theorem nlz_lt {e : Nat → Nat} {l a z : Nat} (h : a < z) (he : e a = l) : nlz e l a < nlz e l z := by
  have h1 : nlz e l (a + 1) = nlz e l a + 1 := by
    show nlz e l a + (if e a = l then 1 else 0) = _
    rw [if_pos he]
  have := nlz_mono e l (show a + 1 ≤ z from h)
  omega
theorem knz_le (e : Nat → Nat) : ∀ z, knz e z ≤ z
  | 0 => Nat.le_refl 0
  | z + 1 => by
    have := knz_le e z
    unfold knz
    split <;> omega
theorem stz_step (e : Nat → Nat) (z : Nat) : ∀ l, stz e (z + 1) l = stz e z l + (if 0 < e z ∧ e z < l then 1 else 0)
  | 0 => by
    show 0 = 0 + _
    rw [if_neg (by omega)]
  | l + 1 => by
    have ih := stz_step e z l
    show stz e (z + 1) l + (if l = 0 then 0 else nlz e l z + (if e z = l then 1 else 0)) = stz e z l + (if l = 0 then 0 else nlz e l z) + _
    rw [ih]
    (repeat' split) <;> omega
theorem stz_0 (e : Nat → Nat) : ∀ l, stz e 0 l = 0
  | 0 => rfl
  | l + 1 => by
    show stz e 0 l + (if l = 0 then 0 else 0) = 0
    rw [stz_0 e l]
    split <;> rfl
theorem stz_16 {e : Nat → Nat} (h : ∀ b, e b ≤ 15) : ∀ z, stz e z 16 = knz e z
  | 0 => stz_0 e 16
  | z + 1 => by
    rw [stz_step, stz_16 h z]
    show _ = knz e z + (if 0 < e z then 1 else 0)
    have := h z
    by_cases h1 : 0 < e z
    · rw [if_pos h1, if_pos ⟨h1, by omega⟩]
    · rw [if_neg h1, if_neg (by omega)]
theorem stz_mono (e : Nat → Nat) (z : Nat) {a l : Nat} (h : a ≤ l) : stz e z a ≤ stz e z l := by
  induction h with
  | refl => exact Nat.le_refl _
  | step _ ih => exact Nat.le_trans ih (Nat.le_add_right _ _)
theorem stz_s {e : Nat → Nat} {z l : Nat} (h : 0 < l) : stz e z (l + 1) = stz e z l + nlz e l z := by
  show stz e z l + (if l = 0 then 0 else nlz e l z) = _
  rw [if_neg (by omega)]
/-- the place of byte b among the ranked -/
def rkp (e : Nat → Nat) (b : Nat) : Nat := stz e 256 (e b) + nlz e (e b) b
theorem rkp_lt {e : Nat → Nat} (h : ∀ b, e b ≤ 15) {b : Nat} (hb : b < 256) (h0 : 0 < e b) : rkp e b < knz e 256 := by
  have h1 := nlz_lt (e := e) hb rfl
  have h2 := stz_s (e := e) (z := 256) h0
  have h3 := stz_mono e 256 (show e b + 1 ≤ 16 by have := h b; omega)
  rw [stz_16 h] at h3
  unfold rkp
  omega
theorem rkp_inj {e : Nat → Nat} {a b : Nat} (ha : a < 256) (hb : b < 256) (h0 : 0 < e a) (h1 : 0 < e b) (h : rkp e a = rkp e b) : a = b := by
  unfold rkp at h
  have k1 := nlz_lt (e := e) ha rfl
  have k2 := nlz_lt (e := e) hb rfl
  have k3 := stz_s (e := e) (z := 256) h0
  have k4 := stz_s (e := e) (z := 256) h1
  rcases Nat.lt_trichotomy (e a) (e b) with hl | hl | hl
  · have := stz_mono e 256 (show e a + 1 ≤ e b from hl); omega
  · rw [hl] at h
    rcases Nat.lt_trichotomy a b with h2 | h2 | h2
    · have := nlz_lt (e := e) (l := e b) h2 hl; omega
    · exact h2
    · have := nlz_lt (e := e) (l := e b) h2 rfl; omega
  · have := stz_mono e 256 (show e b + 1 ≤ e a from hl); omega
/-- the first code of LENGTH l; the code of byte b -/
def nc (e : Nat → Nat) : Nat → Nat
  | 0 => 0
  | l + 1 => 2 * (nc e l + (if l = 0 then 0 else nlz e l 256))
def cod (e : Nat → Nat) (b : Nat) : Nat := nc e (e b) + nlz e (e b) b
theorem nc_le (e : Nat → Nat) : ∀ l, nc e l + 512 ≤ 512 * 2 ^ l
  | 0 => by show 0 + 512 ≤ 512 * 1; omega
  | l + 1 => by
    have ih := nc_le e l
    have := nlz_le e l 256
    have h2 : 2 ^ (l + 1) = 2 * 2 ^ l := by rw [Nat.pow_succ]; omega
    rw [h2]
    show 2 * (nc e l + (if l = 0 then 0 else nlz e l 256)) + 512 ≤ _
    split <;> omega
theorem nc_s {e : Nat → Nat} {l : Nat} (h : 0 < l) : nc e (l + 1) = 2 * (nc e l + nlz e l 256) := by
  show 2 * (nc e l + (if l = 0 then 0 else nlz e l 256)) = _
  rw [if_neg (by omega)]
theorem nc_lim {e : Nat → Nat} {l : Nat} (h : l ≤ 16) : nc e l ≤ 33554432 := by
  have h1 := nc_le e l
  have h2 : 2 ^ l ≤ 2 ^ 16 := Nat.pow_le_pow_right (by omega) h
  omega
theorem nlz_upd {e : Nat → Nat} {b l l' : Nat} (h0 : e b = 0) (hl : 0 < l') : ∀ z, nlz (updN e b l) l' z = nlz e l' z + (if b < z ∧ l = l' then 1 else 0)
  | 0 => by rw [if_neg (by omega)]; rfl
  | z + 1 => by
    have ih := nlz_upd (l := l) h0 hl z
    show nlz (updN e b l) l' z + (if updN e b l z = l' then 1 else 0) = nlz e l' z + (if e z = l' then 1 else 0) + _
    rw [ih]
    by_cases hz : z = b
    · subst hz
      rw [updN_s, if_neg (by omega), if_neg (show ¬ e z = l' by omega)]
      by_cases h2 : l = l'
      · rw [if_pos h2, if_pos (by omega)]
      · rw [if_neg h2, if_neg (by omega)]
    · rw [updN_n hz]
      (repeat' split) <;> omega
theorem knz_upd {e : Nat → Nat} {b l : Nat} (h0 : e b = 0) (hl : 0 < l) : ∀ z, knz (updN e b l) z = knz e z + (if b < z then 1 else 0)
  | 0 => by rw [if_neg (by omega)]; rfl
  | z + 1 => by
    have ih := knz_upd (l := l) h0 hl z
    show knz (updN e b l) z + (if 0 < updN e b l z then 1 else 0) = knz e z + (if 0 < e z then 1 else 0) + _
    rw [ih]
    by_cases hz : z = b
    · subst hz
      rw [updN_s, if_neg (by omega), if_pos hl, if_neg (by omega), if_pos (by omega)]
    · rw [updN_n hz]
      (repeat' split) <;> omega
theorem nlz_none (l : Nat) (hl : 0 < l) : ∀ z, nlz (fun _ => 0) l z = 0
  | 0 => rfl
  | z + 1 => by
    show nlz (fun _ => 0) l z + (if 0 = l then 1 else 0) = 0
    rw [nlz_none l hl z, if_neg (by omega)]
theorem knz_none : ∀ z, knz (fun _ => 0) z = 0
  | 0 => rfl
  | z + 1 => by
    show knz (fun _ => 0) z + (if 0 < 0 then 1 else 0) = 0
    rw [knz_none z]; rfl
theorem upd_s {f : Nat → Int32} {i : Nat} {v : Int32} : upd f i v i = v := by simp [upd]
theorem upd_n {f : Nat → Int32} {i j : Nat} {v : Int32} (h : ¬ j = i) : upd f i v j = f j := by simp [upd, h]
/-- an object with codes: cell o and the five rows behind it -/
def isPC (o : Nat) : Prop := shp[o]? = some (.inr (4, [some (o + 1), some (o + 2), some (o + 3), some (o + 4), some (o + 5), none])) ∧ shp[o + 1]? = some (.inl 256) ∧ shp[o + 2]? = some (.inl 256) ∧ shp[o + 3]? = some (.inl 256) ∧ shp[o + 4]? = some (.inl 16) ∧ shp[o + 5]? = some (.inl 17) ∧ (o + 1 == 999) = false ∧ (o + 2 == 999) = false ∧ (o + 3 == 999) = false ∧ (o + 4 == 999) = false ∧ (o + 5 == 999) = false
theorem pc28 : isPC 28 := ⟨rfl, rfl, rfl, rfl, rfl, rfl, rfl, rfl, rfl, rfl, rfl⟩
theorem pc41 : isPC 41 := ⟨rfl, rfl, rfl, rfl, rfl, rfl, rfl, rfl, rfl, rfl, rfl⟩
def PC (F A : Nat → Nat → Int32) (o : Nat) (e : Nat → Nat) : Prop := (∀ b, b < 256 → A (o + 1) b = nI (e b)) ∧ (∀ b, e b ≤ 15) ∧ (∀ l, 0 < l → l < 16 → A (o + 4) l = nI (nlz e l 256)) ∧ A (o + 4) 0 = 0 ∧ F o 5 = nI (knz e 256)
section
variable {Γ : Nat × (Nat → Int32)} {F A : Nat → Nat → Int32} {rf : Nat} {lo : Int64} {X : PH} {Q : Option Value → PH → Prop} {o : Nat} {e : Nat → Nat}
theorem c_pbegin (ho : isPC o) (hQ : ∀ A', (∀ i, ¬ i = o + 1 → ¬ i = o + 4 → A' i = A i) → PC (upF F o 5 0) A' o (fun _ => 0) → Q none (HS (upF F o 5 0) A' rf lo X)) : PM Γ mX4_begin [.ref o] (HS F A rf lo X) 0 0 Q := by
  obtain ⟨h0, h1, h2, h3, h4, h5, j1, j2, j3, j4, j5⟩ := ho
  refine PM.go (l := [_]) rfl rfl (Nat.le_of_ble_eq_true rfl) rfl ?_
  refine pw_aload_n rfl dX4_begin_0 ?_
  refine pw_gC dX4_begin_1 fX4_9 (by first | rfl | assumption) rfl (by first | rfl | assumption) ?_
  refine pw_iconst 0 (by decide) dX4_begin_4 ?_
  refine pc_S2 dX4_begin_5 lX4_31 (by decide) (Nat.le_of_ble_eq_true rfl) ?_
  refine c_fill h1 (by omega) ?_
  refine pw_aload_n rfl dX4_begin_8 ?_
  refine pw_gC dX4_begin_9 fX4_21 (by first | rfl | assumption) rfl (by first | rfl | assumption) ?_
  refine pw_iconst 0 (by decide) dX4_begin_12 ?_
  refine pc_S2 dX4_begin_13 lX4_31 (by decide) (Nat.le_of_ble_eq_true rfl) ?_
  refine c_fill h4 (by omega) ?_
  refine pw_aload_n rfl dX4_begin_16 ?_
  refine pw_iconst 0 (by decide) dX4_begin_17 ?_
  refine pw_pI dX4_begin_18 fX4_27 (by first | rfl | assumption) rfl ⟨rfl, rfl⟩ ?_
  refine pw_vret dX4_begin_21 rfl ?_
  refine hQ _ (fun i k1 k2 => by rw [stA_n k2, stA_n k1]) ⟨fun b hb => ?_, fun _ => Nat.zero_le _, fun l hl hl2 => ?_, ?_, ?_⟩
  · rw [stA_n (by omega), stA_s, cpn_lt hb]; rfl
  · rw [stA_s, cpn_lt hl2, nlz_none l hl]; rfl
  · rw [stA_s, cpn_lt (by omega)]
  · rw [upF_s, knz_none]; rfl
theorem c_give {b l : Nat} (ho : isPC o) (hP : PC F A o e) (hb : b < 256) (hl : l < 256)
    (hN : ¬ (1 ≤ l ∧ l ≤ 15 ∧ e b = 0) → Q none (HS F A rf lo X))
    (hQ : 1 ≤ l → l ≤ 15 → e b = 0 → ∀ F' A', (∀ i j, ¬ (i = o ∧ j = 5) → F' i j = F i j) → (∀ i, ¬ i = o + 1 → ¬ i = o + 4 → A' i = A i) → PC F' A' o (updN e b l) → Q none (HS F' A' rf lo X)) : PM Γ mX4_give [.ref o, .int (nI b), .int (nI l)] (HS F A rf lo X) 0 0 Q := by
  obtain ⟨h0, h1, h2, h3, h4, h5, j1, j2, j3, j4, j5⟩ := ho
  obtain ⟨p1, p2, p3, p4, p5⟩ := hP
  refine PM.go (l := [_, _, _]) rfl rfl (Nat.le_of_ble_eq_true rfl) rfl ?_
  refine pw_iload_n rfl dX4_give_0 ?_
  refine pw_if_lt 31 dX4_give_1 (by decide) (fun q => absurd q (nI_pos (by omega))) (fun _ => ?_)
  refine pw_iload_n rfl dX4_give_4 ?_
  refine pw_sipush 256 (by decide) dX4_give_5 ?_
  refine pw_icmp_ge 31 dX4_give_8 (by decide) (fun q => absurd q (nI_ge (b := 256) hb (by omega))) (fun _ => ?_)
  refine pw_iload_n rfl dX4_give_11 ?_
  refine pw_iconst 1 (by decide) dX4_give_12 ?_
  by_cases hl1 : 1 ≤ l
  · refine pw_icmp_lt 31 dX4_give_13 (by decide) (fun q => absurd q (nI_nlt (b := 1) hl1 (by omega))) (fun _ => ?_)
    refine pw_iload_n rfl dX4_give_16 ?_
    refine pw_bipush 15 (by decide) dX4_give_17 ?_
    by_cases hl2 : l ≤ 15
    · refine pw_icmp_gt 31 dX4_give_19 (by decide) (fun q => absurd q (nI_nlt (a := 15) hl2 (by omega))) (fun _ => ?_)
      refine pw_aload_n rfl dX4_give_22 ?_
      refine pw_gC dX4_give_23 fX4_9 (by first | rfl | assumption) rfl (by first | rfl | assumption) ?_
      refine pw_iload_n rfl dX4_give_26 ?_
      refine pw_aI dX4_give_27 (by first | rfl | assumption) (by first | assumption | exact vp_in_nI (by omega) (by omega)) ?_
      rw [nI_clamp (by omega), p1 b hb]
      by_cases he : e b = 0
      · rw [he]
        refine pw_if_le 32 dX4_give_28 (by decide) (fun _ => ?_) (fun q => absurd (by decide) q)
        refine pw_aload_n rfl dX4_give_32 ?_
        refine pw_gC dX4_give_33 fX4_9 (by first | rfl | assumption) rfl (by first | rfl | assumption) ?_
        refine pw_iload_n rfl dX4_give_36 ?_
        refine pw_iload_n rfl dX4_give_37 ?_
        refine pw_sI dX4_give_38 (by first | rfl | assumption) (by first | assumption | exact vp_in_nI (by omega) (by omega)) ?_
        refine pw_aload_n rfl dX4_give_39 ?_
        refine pw_gC dX4_give_40 fX4_21 (by first | rfl | assumption) rfl (by first | rfl | assumption) ?_
        refine pw_iload_n rfl dX4_give_43 ?_
        refine pw_dup2 rfl rfl dX4_give_44 ?_
        refine pw_aI dX4_give_45 (by first | rfl | assumption) (by first | assumption | exact vp_in_nI (by omega) (by omega)) ?_
        rw [stA_n (by omega), nI_clamp (by omega), nI_clamp (by omega), p3 l (by omega) (by omega)]
        refine pw_iconst 1 (by decide) dX4_give_46 ?_
        refine pw_iadd dX4_give_47 ?_
        refine pw_sI dX4_give_48 (by first | rfl | assumption) (by first | assumption | exact vp_in_nI (by omega) (by omega)) ?_
        refine pw_aload_n rfl dX4_give_49 ?_
        refine pw_dup rfl dX4_give_50 ?_
        refine pw_gI dX4_give_51 fX4_27 (by first | rfl | assumption) rfl ?_
        rw [p5]
        refine pw_iconst 1 (by decide) dX4_give_54 ?_
        refine pw_iadd dX4_give_55 ?_
        refine pw_pI dX4_give_56 fX4_27 (by first | rfl | assumption) rfl ⟨rfl, rfl⟩ ?_
        refine pw_vret dX4_give_59 rfl ?_
        rw [nI_clamp (by omega)]
        refine hQ hl1 hl2 he _ _ (fun i j h => upF_n h) (fun i k1 k2 => by rw [stA_n k2, stA_n k1]) ⟨fun x hx => ?_, fun x => ?_, fun x hx hx2 => ?_, ?_, ?_⟩
        · rw [stA_n (by omega), stA_s]
          by_cases hxb : x = b
          · rw [hxb, updN_s, upd_s]
          · rw [updN_n hxb, upd_n hxb]; exact p1 x hx
        · by_cases hxb : x = b
          · rw [hxb, updN_s]; exact hl2
          · rw [updN_n hxb]; exact p2 x
        · rw [stA_s, nlz_upd he hx]
          by_cases hxl : x = l
          · rw [hxl, upd_s, if_pos ⟨hb, rfl⟩, nI_1]
          · rw [upd_n hxl, stA_n (by omega), if_neg (by omega), p3 x hx hx2, Nat.add_zero]
        · rw [stA_s, upd_n (by omega), stA_n (by omega)]; exact p4
        · rw [upF_s, knz_upd he (by omega), if_pos hb, nI_1]
      · refine pw_if_le 32 dX4_give_28 (by decide) (fun q => absurd q (nI_ge (a := 0) (by omega) (by have := p2 b; omega))) (fun _ => ?_)
        refine pw_vret dX4_give_31 rfl ?_
        exact hN (by omega)
    · refine pw_icmp_gt 31 dX4_give_19 (by decide) (fun _ => ?_) (fun q => absurd (nI_lt (a := 15) (by omega) (by omega)) q)
      refine pw_vret dX4_give_31 rfl ?_
      exact hN (by omega)
  · refine pw_icmp_lt 31 dX4_give_13 (by decide) (fun _ => ?_) (fun q => absurd (nI_lt (b := 1) (by omega) (by omega)) q)
    refine pw_vret dX4_give_31 rfl ?_
    exact hN (by omega)
theorem c_lengthOf {b : Nat} (ho : isPC o) (hb : b < 256) (hQ : Q (some (.int (A (o + 1) b))) (HS F A rf lo X)) : PM Γ mX4_lengthOf [.ref o, .int (nI b)] (HS F A rf lo X) 0 0 Q := by
  obtain ⟨h0, h1, h2, h3, h4, h5, j1, j2, j3, j4, j5⟩ := ho
  refine PM.go (l := [_, _]) rfl rfl (Nat.le_of_ble_eq_true rfl) rfl ?_
  refine pw_aload_n rfl dX4_lengthOf_0 ?_
  refine pw_gC dX4_lengthOf_1 fX4_9 (by first | rfl | assumption) rfl (by first | rfl | assumption) ?_
  refine pw_iload_n rfl dX4_lengthOf_4 ?_
  refine pw_sipush 255 (by decide) dX4_lengthOf_5 ?_
  refine pw_iand dX4_lengthOf_8 ?_
  rw [nI_and255s hb]
  refine pw_aI dX4_lengthOf_9 (by first | rfl | assumption) (by first | assumption | exact vp_in_nI (by omega) (by omega)) ?_
  refine pw_iret dX4_lengthOf_10 (Or.inl rfl) ?_
  rw [nI_clamp (by omega)]
  exact hQ
theorem c_codeOf {b : Nat} (ho : isPC o) (hb : b < 256) (hQ : Q (some (.int (A (o + 2) b))) (HS F A rf lo X)) : PM Γ mX4_codeOf [.ref o, .int (nI b)] (HS F A rf lo X) 0 0 Q := by
  obtain ⟨h0, h1, h2, h3, h4, h5, j1, j2, j3, j4, j5⟩ := ho
  refine PM.go (l := [_, _]) rfl rfl (Nat.le_of_ble_eq_true rfl) rfl ?_
  refine pw_aload_n rfl dX4_codeOf_0 ?_
  refine pw_gC dX4_codeOf_1 fX4_15 (by first | rfl | assumption) rfl (by first | rfl | assumption) ?_
  refine pw_iload_n rfl dX4_codeOf_4 ?_
  refine pw_sipush 255 (by decide) dX4_codeOf_5 ?_
  refine pw_iand dX4_codeOf_8 ?_
  rw [nI_and255s hb]
  refine pw_aI dX4_codeOf_9 (by first | rfl | assumption) (by first | assumption | exact vp_in_nI (by omega) (by omega)) ?_
  refine pw_iret dX4_codeOf_10 (Or.inl rfl) ?_
  rw [nI_clamp (by omega)]
  exact hQ
theorem rank_l1 (ho : isPC o) (hP : PC F A o e) : ∀ (k l : Nat) (A' : Nat → Nat → Int32), l + k = 16 → (∀ i, ¬ i = o + 5 → A' i = A i) → (∀ j, j ≤ l → A' (o + 5) j = nI (stz e 256 j)) →
    (∀ A', (∀ i, ¬ i = o + 5 → A' i = A i) → (∀ j, j ≤ 16 → A' (o + 5) j = nI (stz e 256 j)) → PW Γ mX4_rank 42 [.ref o, .int (nI 16), .float 0] [] (HS F A' rf lo X) 0 0 Q) →
    PW Γ mX4_rank 9 [.ref o, .int (nI l), .float 0] [] (HS F A' rf lo X) 0 0 Q := by
  obtain ⟨h0, h1, h2, h3, h4, h5, j1, j2, j3, j4, j5⟩ := ho
  obtain ⟨p1, p2, p3, p4, p5⟩ := hP
  intro k
  induction k with
  | zero =>
    intro l A' hl hA hS hk
    rw [show l = 16 by omega] at hS ⊢
    refine pw_iload_n rfl dX4_rank_9 ?_
    refine pw_bipush 15 (by decide) dX4_rank_10 ?_
    refine pw_icmp_gt 42 dX4_rank_12 (by decide) (fun _ => ?_) (fun q => absurd (by decide) q)
    exact hk A' hA hS
  | succ k ih =>
    intro l A' hl hA hS hk
    refine pw_iload_n rfl dX4_rank_9 ?_
    refine pw_bipush 15 (by decide) dX4_rank_10 ?_
    refine pw_icmp_gt 42 dX4_rank_12 (by decide) (fun q => absurd q (nI_nlt (a := 15) (by omega) (by omega))) (fun _ => ?_)
    refine pw_aload_n rfl dX4_rank_15 ?_
    refine pw_gC dX4_rank_16 fX4_24 (by first | rfl | assumption) rfl (by first | rfl | assumption) ?_
    refine pw_iload_n rfl dX4_rank_19 ?_
    refine pw_iconst 1 (by decide) dX4_rank_20 ?_
    refine pw_iadd dX4_rank_21 ?_
    rw [nI_1]
    refine pw_aload_n rfl dX4_rank_22 ?_
    refine pw_gC dX4_rank_23 fX4_24 (by first | rfl | assumption) rfl (by first | rfl | assumption) ?_
    refine pw_iload_n rfl dX4_rank_26 ?_
    refine pw_aI dX4_rank_27 (by first | rfl | assumption) (by first | assumption | exact vp_in_nI (by omega) (by omega)) ?_
    rw [nI_clamp (by omega), hS l (Nat.le_refl _)]
    refine pw_aload_n rfl dX4_rank_28 ?_
    refine pw_gC dX4_rank_29 fX4_21 (by first | rfl | assumption) rfl (by first | rfl | assumption) ?_
    refine pw_iload_n rfl dX4_rank_32 ?_
    refine pw_aI dX4_rank_33 (by first | rfl | assumption) (by first | assumption | exact vp_in_nI (by omega) (by omega)) ?_
    have e1 : A' (o + 4) (nI l).toNatClampNeg = nI (if l = 0 then 0 else nlz e l 256) := by
      rw [nI_clamp (by omega), hA _ (by omega)]
      by_cases hl0 : l = 0
      · rw [if_pos hl0, hl0]; exact p4
      · rw [if_neg hl0]; exact p3 l (by omega) (by omega)
    rw [e1]
    refine pw_iadd dX4_rank_34 ?_
    refine pw_sI dX4_rank_35 (by first | rfl | assumption) (by first | assumption | exact vp_in_nI (by omega) (by omega)) ?_
    rw [nI_add, nI_clamp (by omega)]
    refine ps_iinc (l' := [_, _, _]) 1 dX4_rank_36 (by decide) rfl (by decide) rfl rfl ?_
    refine pw_goto 9 dX4_rank_39 (by decide) ?_
    rw [nI_1]
    refine ih (l + 1) _ (by omega) (fun i hi => by rw [stA_n hi]; exact hA i hi) (fun j hj => ?_) hk
    rw [stA_s]
    by_cases hj2 : j = l + 1
    · rw [hj2, upd_s]; rfl
    · rw [upd_n hj2]; exact hS j (by omega)
theorem rank_l2 (ho : isPC o) (hP : PC F A o e) : ∀ (k b : Nat) (A' : Nat → Nat → Int32) (g : Value), b + k = 256 → (∀ i, ¬ i = o + 5 → ¬ i = o + 3 → A' i = A i) → (∀ l, 0 < l → l ≤ 15 → A' (o + 5) l = nI (stz e 256 l + nlz e l b)) → (∀ x, x < b → 0 < e x → A' (o + 3) (rkp e x) = nI x) →
    (∀ A', (∀ i, ¬ i = o + 5 → ¬ i = o + 3 → A' i = A i) → (∀ x, x < 256 → 0 < e x → A' (o + 3) (rkp e x) = nI x) → Q none (HS F A' rf lo X)) →
    PW Γ mX4_rank 44 [.ref o, .int (nI b), g] [] (HS F A' rf lo X) 0 0 Q := by
  obtain ⟨h0, h1, h2, h3, h4, h5, j1, j2, j3, j4, j5⟩ := ho
  obtain ⟨p1, p2, p3, p4, p5⟩ := hP
  intro k
  induction k with
  | zero =>
    intro b A' g hb hA hS hR hk
    rw [show b = 256 by omega] at hR ⊢
    refine pw_iload_n rfl dX4_rank_44 ?_
    refine pw_sipush 256 (by decide) dX4_rank_45 ?_
    refine pw_icmp_ge 105 dX4_rank_48 (by decide) (fun _ => ?_) (fun q => absurd (by decide) q)
    refine pw_vret dX4_rank_105 rfl ?_
    exact hk A' hA hR
  | succ k ih =>
    intro b A' g hb hA hS hR hk
    have he := p2 b
    refine pw_iload_n rfl dX4_rank_44 ?_
    refine pw_sipush 256 (by decide) dX4_rank_45 ?_
    refine pw_icmp_ge 105 dX4_rank_48 (by decide) (fun q => absurd q (nI_ge (b := 256) (by omega) (by omega))) (fun _ => ?_)
    refine pw_aload_n rfl dX4_rank_51 ?_
    refine pw_gC dX4_rank_52 fX4_9 (by first | rfl | assumption) rfl (by first | rfl | assumption) ?_
    refine pw_iload_n rfl dX4_rank_55 ?_
    refine pw_aI dX4_rank_56 (by first | rfl | assumption) (by first | assumption | exact vp_in_nI (by omega) (by omega)) ?_
    refine pw_bipush 15 (by decide) dX4_rank_57 ?_
    refine pw_iand dX4_rank_59 ?_
    rw [nI_clamp (by omega), hA _ (by omega) (by omega), p1 b (by omega), pk_andN (m := 15) (by omega) 4 rfl, Nat.mod_eq_of_lt (show e b < 2 ^ 4 by omega)]
    refine ps_istore_n (l' := [_, _, _]) dX4_rank_60 (by decide) rfl rfl ?_
    refine pw_iload_n rfl dX4_rank_61 ?_
    by_cases h : 0 < e b
    · have hlt := rkp_lt p2 (show b < 256 by omega) h
      have hkn := knz_le e 256
      have hpos : stz e 256 (e b) + nlz e (e b) b = rkp e b := rfl
      refine pw_if_le 99 dX4_rank_62 (by decide) (fun q => absurd q (nI_ge (a := 0) h (by omega))) (fun _ => ?_)
      refine pw_aload_n rfl dX4_rank_65 ?_
      refine pw_gC dX4_rank_66 fX4_24 (by first | rfl | assumption) rfl (by first | rfl | assumption) ?_
      refine pw_iload_n rfl dX4_rank_69 ?_
      refine pw_aI dX4_rank_70 (by first | rfl | assumption) (by first | assumption | exact vp_in_nI (by omega) (by omega)) ?_
      rw [nI_clamp (by omega), hS _ h he, hpos]
      refine pw_sipush 256 (by decide) dX4_rank_71 ?_
      refine pw_icmp_ge 99 dX4_rank_74 (by decide) (fun q => absurd q (nI_ge (b := 256) (by omega) (by omega))) (fun _ => ?_)
      refine pw_aload_n rfl dX4_rank_77 ?_
      refine pw_gC dX4_rank_78 fX4_18 (by first | rfl | assumption) rfl (by first | rfl | assumption) ?_
      refine pw_aload_n rfl dX4_rank_81 ?_
      refine pw_gC dX4_rank_82 fX4_24 (by first | rfl | assumption) rfl (by first | rfl | assumption) ?_
      refine pw_iload_n rfl dX4_rank_85 ?_
      refine pw_aI dX4_rank_86 (by first | rfl | assumption) (by first | assumption | exact vp_in_nI (by omega) (by omega)) ?_
      rw [nI_clamp (by omega), hS _ h he, hpos]
      refine pw_iload_n rfl dX4_rank_87 ?_
      refine pw_sI dX4_rank_88 (by first | rfl | assumption) (by first | assumption | exact vp_in_nI (by omega) (by omega)) ?_
      refine pw_aload_n rfl dX4_rank_89 ?_
      refine pw_gC dX4_rank_90 fX4_24 (by first | rfl | assumption) rfl (by first | rfl | assumption) ?_
      refine pw_iload_n rfl dX4_rank_93 ?_
      refine pw_dup2 rfl rfl dX4_rank_94 ?_
      refine pw_aI dX4_rank_95 (by first | rfl | assumption) (by first | assumption | exact vp_in_nI (by omega) (by omega)) ?_
      rw [stA_n (by omega), nI_clamp (by omega), nI_clamp (by omega), hS _ h he, hpos]
      refine pw_iconst 1 (by decide) dX4_rank_96 ?_
      refine pw_iadd dX4_rank_97 ?_
      refine pw_sI dX4_rank_98 (by first | rfl | assumption) (by first | assumption | exact vp_in_nI (by omega) (by omega)) ?_
      refine ps_iinc (l' := [_, _, _]) 1 dX4_rank_99 (by decide) rfl (by decide) rfl rfl ?_
      refine pw_goto 44 dX4_rank_102 (by decide) ?_
      rw [nI_1, nI_1]
      rw [nI_clamp (by omega)]
      refine ih (b + 1) _ _ (by omega) (fun i k1 k2 => by rw [stA_n k1, stA_n k2]; exact hA i k1 k2) (fun l hl hl2 => ?_) (fun x hx hx0 => ?_) hk
      · rw [stA_s]
        show _ = nI (stz e 256 l + (nlz e l b + (if e b = l then 1 else 0)))
        by_cases hll : l = e b
        · rw [hll, upd_s, if_pos rfl]
          show nI (stz e 256 (e b) + nlz e (e b) b + 1) = _
          congr 1
        · rw [upd_n hll, stA_n (by omega), if_neg (by omega)]
          exact hS l hl hl2
      · rw [stA_n (by omega), stA_s]
        by_cases hxb : x = b
        · rw [hxb, upd_s]
        · rw [upd_n (fun h9 => hxb (rkp_inj (by omega) (by omega) hx0 h h9))]
          exact hR x (by omega) hx0
    · have e0 : e b = 0 := by omega
      rw [e0]
      refine pw_if_le 99 dX4_rank_62 (by decide) (fun _ => ?_) (fun q => absurd (by decide) q)
      refine ps_iinc (l' := [_, _, _]) 1 dX4_rank_99 (by decide) rfl (by decide) rfl rfl ?_
      refine pw_goto 44 dX4_rank_102 (by decide) ?_
      rw [nI_1]
      refine ih (b + 1) _ _ (by omega) hA (fun l hl hl2 => ?_) (fun x hx hx0 => ?_) hk
      · rw [hS l hl hl2]
        show _ = nI (stz e 256 l + (nlz e l b + (if e b = l then 1 else 0)))
        rw [if_neg (by omega), Nat.add_zero]
      · by_cases hxb : x = b
        · subst hxb; exact absurd hx0 h
        · exact hR x (by omega) hx0
theorem c_rank (ho : isPC o) (hP : PC F A o e) (hQ : ∀ A', (∀ i, ¬ i = o + 5 → ¬ i = o + 3 → A' i = A i) → (∀ x, x < 256 → 0 < e x → A' (o + 3) (rkp e x) = nI x) → Q none (HS F A' rf lo X)) : PM Γ mX4_rank [.ref o] (HS F A rf lo X) 0 0 Q := by
  obtain ⟨h0, h1, h2, h3, h4, h5, j1, j2, j3, j4, j5⟩ := id ho
  refine PM.go (l := [_, .float 0, .float 0]) rfl rfl (Nat.le_of_ble_eq_true rfl) rfl ?_
  refine pw_aload_n rfl dX4_rank_0 ?_
  refine pw_gC dX4_rank_1 fX4_24 (by first | rfl | assumption) rfl (by first | rfl | assumption) ?_
  refine pw_iconst 0 (by decide) dX4_rank_4 ?_
  refine pw_iconst 0 (by decide) dX4_rank_5 ?_
  refine pw_sI dX4_rank_6 (by first | rfl | assumption) (vp_in_nI (n := 0) (by decide) (by decide)) ?_
  refine pw_iconst 0 (by decide) dX4_rank_7 ?_
  refine ps_istore_n (l' := [_, _, _]) dX4_rank_8 (by decide) rfl rfl ?_
  refine rank_l1 ho hP 16 0 _ (by omega) (fun i hi => stA_n hi) (fun j hj => ?_) (fun A1 hA1 hS1 => ?_)
  · rw [show j = 0 by omega, stA_s]; rfl
  · refine pw_iconst 0 (by decide) dX4_rank_42 ?_
    refine ps_istore_n (l' := [_, _, _]) dX4_rank_43 (by decide) rfl rfl ?_
    refine rank_l2 ho hP 256 0 A1 _ (by omega) (fun i k1 k2 => hA1 i k1) (fun l hl hl2 => ?_) (fun x hx _ => by omega) hQ
    rw [hS1 l (by omega)]
    rfl
theorem as_loop (ho : isPC o) (hP : PC F A o e) (hR : ∀ x, x < 256 → 0 < e x → A (o + 3) (rkp e x) = nI x)
    (hQ : ∀ A', (∀ i, ¬ i = o + 2 → A' i = A i) → (∀ x, x < 256 → 0 < e x → A' (o + 2) x = nI (cod e x)) → Q none (HS F A' rf lo X)) :
    ∀ (j k l b nx la : Nat) (A' : Nat → Nat → Int32) (g : Value), l + j = 16 → 0 < l → b + k = 256 → (∀ i, ¬ i = o + 2 → A' i = A i) → (∀ x, x < 256 → 0 < e x → (e x < l ∨ (e x = l ∧ x < b)) → A' (o + 2) x = nI (cod e x)) → la ≤ l → nx * 2 ^ (l - la) = nc e l + nlz e l b →
    PW Γ mX4_assign 10 [.ref o, .int (nI nx), .int (nI la), .int (nI (stz e 256 l + nlz e l b)), g] [] (HS F A' rf lo X) 0 0 Q := by
  obtain ⟨h0, h1, h2, h3, h4, h5, j1, j2, j3, j4, j5⟩ := ho
  obtain ⟨p1, p2, p3, p4, p5⟩ := hP
  have hkn := knz_le e 256
  intro j
  induction j with
  | zero =>
    intro k l b nx la A' g hl hl0 hb hA hC hla hnx
    have hl16 : l = 16 := by omega
    subst hl16
    have hz : ∀ z, nlz e 16 z = 0 := by
      intro z
      induction z with
      | zero => rfl
      | succ z iz =>
        show nlz e 16 z + (if e z = 16 then 1 else 0) = 0
        have := p2 z
        rw [iz, if_neg (by omega)]
    rw [hz, stz_16 p2, Nat.add_zero]
    refine pw_iload_n rfl dX4_assign_10 ?_
    refine pw_aload_n rfl dX4_assign_11 ?_
    refine pw_gI dX4_assign_12 fX4_27 (by first | rfl | assumption) rfl ?_
    rw [p5]
    refine pw_icmp_ge 78 dX4_assign_15 (by decide) (fun _ => ?_) (fun q => absurd (nI_le (Nat.le_refl _) (by omega)) q)
    refine pw_vret dX4_assign_78 rfl ?_
    exact hQ A' hA (fun x hx hx0 => hC x hx hx0 (Or.inl (by have := p2 x; omega)))
  | succ j ij =>
    intro k
    induction k with
    | zero =>
      intro l b nx la A' g hl hl0 hb hA hC hla hnx
      have hb2 : b = 256 := by omega
      subst hb2
      have e1 : stz e 256 l + nlz e l 256 = stz e 256 (l + 1) + nlz e (l + 1) 0 := by rw [stz_s hl0]; rfl
      rw [e1]
      refine ij 256 (l + 1) 0 nx la A' g (by omega) (by omega) (by omega) hA (fun x hx hx0 h => hC x hx hx0 (by omega)) (by omega) ?_
      rw [show l + 1 - la = (l - la) + 1 by omega, Nat.pow_succ, ← Nat.mul_assoc, hnx, nc_s hl0]
      show _ = _ + 0
      omega
    | succ k ik =>
      intro l b nx la A' g hl hl0 hb hA hC hla hnx
      by_cases h : e b = l
      · have hlt := rkp_lt p2 (show b < 256 by omega) (by omega)
        have hrk : stz e 256 l + nlz e l b = rkp e b := by unfold rkp; rw [h]
        have hncl := nc_lim (e := e) (show l ≤ 16 by omega)
        have hnl := nlz_le e l b
        have hcod : nx * 2 ^ (l - la) = cod e b := by rw [hnx]; unfold cod; rw [h]
        have hcl : cod e b ≤ 33555000 := by rw [← hcod, hnx]; omega
        rw [hrk]
        refine pw_iload_n rfl dX4_assign_10 ?_
        refine pw_aload_n rfl dX4_assign_11 ?_
        refine pw_gI dX4_assign_12 fX4_27 (by first | rfl | assumption) rfl ?_
        rw [p5]
        refine pw_icmp_ge 78 dX4_assign_15 (by decide) (fun q => absurd q (nI_ge (by omega) (by omega))) (fun _ => ?_)
        refine pw_iload_n rfl dX4_assign_18 ?_
        refine pw_sipush 256 (by decide) dX4_assign_19 ?_
        refine pw_icmp_ge 78 dX4_assign_22 (by decide) (fun q => absurd q (nI_ge (b := 256) (by omega) (by omega))) (fun _ => ?_)
        refine pw_aload_n rfl dX4_assign_25 ?_
        refine pw_gC dX4_assign_26 fX4_18 (by first | rfl | assumption) rfl (by first | rfl | assumption) ?_
        refine pw_iload_n rfl dX4_assign_29 ?_
        refine pw_aI dX4_assign_30 (by first | rfl | assumption) (by first | assumption | exact vp_in_nI (by omega) (by omega)) ?_
        rw [nI_clamp (by omega), hA _ (by omega), hR b (by omega) (by omega)]
        refine pw_sipush 255 (by decide) dX4_assign_31 ?_
        refine pw_iand dX4_assign_34 ?_
        rw [nI_and255s (by omega)]
        refine ps_istore (l' := [_, _, _, _, _]) dX4_assign_35 (by decide) rfl rfl ?_
        refine pw_iload_n rfl dX4_assign_37 ?_
        refine pw_iconst 0 (by decide) dX4_assign_38 ?_
        refine pw_aload_n rfl dX4_assign_39 ?_
        refine pw_gC dX4_assign_40 fX4_9 (by first | rfl | assumption) rfl (by first | rfl | assumption) ?_
        refine pw_iload rfl dX4_assign_43 ?_
        refine pw_aI dX4_assign_45 (by first | rfl | assumption) (by first | assumption | exact vp_in_nI (by omega) (by omega)) ?_
        rw [nI_clamp (by omega), hA _ (by omega), p1 b (by omega), h]
        refine pw_iload_n rfl dX4_assign_46 ?_
        refine pw_isub dX4_assign_47 ?_
        rw [pk_sub hla]
        refine pw_maxN 0 (l - la) rfl rfl (by omega) (by omega) dX4_assign_48 lX4_41 (by decide) (Nat.le_of_ble_eq_true rfl) ?_
        rw [Nat.zero_max]
        refine pw_ishl dX4_assign_51 ?_
        rw [nI_shl (by omega) (by rw [hcod]; omega), hcod]
        refine ps_istore_n (l' := [_, _, _, _, _]) dX4_assign_52 (by decide) rfl rfl ?_
        refine pw_aload_n rfl dX4_assign_53 ?_
        refine pw_gC dX4_assign_54 fX4_15 (by first | rfl | assumption) rfl (by first | rfl | assumption) ?_
        refine pw_iload rfl dX4_assign_57 ?_
        refine pw_iload_n rfl dX4_assign_59 ?_
        refine pw_sI dX4_assign_60 (by first | rfl | assumption) (by first | assumption | exact vp_in_nI (by omega) (by omega)) ?_
        refine ps_iinc (l' := [_, _, _, _, _]) 1 dX4_assign_61 (by decide) rfl (by decide) rfl rfl ?_
        refine pw_aload_n rfl dX4_assign_64 ?_
        refine pw_gC dX4_assign_65 fX4_9 (by first | rfl | assumption) rfl (by first | rfl | assumption) ?_
        refine pw_iload rfl dX4_assign_68 ?_
        refine pw_aI dX4_assign_70 (by first | rfl | assumption) (by first | assumption | exact vp_in_nI (by omega) (by omega)) ?_
        rw [nI_clamp (by omega), stA_n (by omega), hA _ (by omega), p1 b (by omega), h, nI_1]
        refine ps_istore_n (l' := [_, _, _, _, _]) dX4_assign_71 (by decide) rfl rfl ?_
        refine ps_iinc (l' := [_, _, _, _, _]) 1 dX4_assign_72 (by decide) rfl (by decide) rfl rfl ?_
        refine pw_goto 10 dX4_assign_75 (by decide) ?_
        rw [nI_1, ← hrk]
        have e1 : stz e 256 l + nlz e l b + 1 = stz e 256 l + nlz e l (b + 1) := by
          show _ = stz e 256 l + (nlz e l b + (if e b = l then 1 else 0))
          rw [if_pos h]; omega
        rw [e1]
        refine ik l (b + 1) (cod e b + 1) l _ _ hl hl0 (by omega) (fun i hi => by rw [stA_n hi]; exact hA i hi) (fun x hx hx0 h9 => ?_) (Nat.le_refl _) ?_
        · rw [stA_s]
          by_cases hxb : x = b
          · rw [hxb, upd_s]
          · rw [upd_n hxb]; exact hC x hx hx0 (by omega)
        · rw [Nat.sub_self, Nat.pow_zero, Nat.mul_one, ← hcod, hnx]
          show _ = nc e l + (nlz e l b + (if e b = l then 1 else 0))
          rw [if_pos h]; omega
      · have e1 : nlz e l (b + 1) = nlz e l b := by
          show nlz e l b + (if e b = l then 1 else 0) = _
          rw [if_neg h]; omega
        rw [← e1]
        exact ik l (b + 1) nx la A' g hl hl0 (by omega) hA (fun x hx hx0 h9 => hC x hx hx0 (by
          by_cases hxb : x = b
          · subst hxb; omega
          · omega)) hla (by rw [e1]; exact hnx)
theorem c_assign (ho : isPC o) (hP : PC F A o e)
    (hQ : ∀ A', (∀ i, ¬ i = o + 2 → ¬ i = o + 3 → ¬ i = o + 5 → A' i = A i) → (∀ x, x < 256 → 0 < e x → A' (o + 2) x = nI (cod e x)) → (∀ x, x < 256 → 0 < e x → A' (o + 3) (rkp e x) = nI x) → Q none (HS F A' rf lo X)) : PM Γ mX4_assign [.ref o] (HS F A rf lo X) 0 0 Q := by
  obtain ⟨p1, p2, p3, p4, p5⟩ := id hP
  obtain ⟨h0, h1, h2, h3, h4, h5, j1, j2, j3, j4, j5⟩ := id ho
  refine PM.go (l := [_, .float 0, .float 0, .float 0, .float 0]) rfl rfl (Nat.le_of_ble_eq_true rfl) rfl ?_
  refine pw_aload_n rfl dX4_assign_0 ?_
  refine pc_V0 dX4_assign_1 lX4_38 rfl h0 (by decide) (Nat.le_of_ble_eq_true rfl) ?_
  refine c_rank ho hP ?_
  intro A1 hA1 hR1
  refine pw_iconst 0 (by decide) dX4_assign_4 ?_
  refine ps_istore_n (l' := [_, _, _, _, _]) dX4_assign_5 (by decide) rfl rfl ?_
  refine pw_iconst 0 (by decide) dX4_assign_6 ?_
  refine ps_istore_n (l' := [_, _, _, _, _]) dX4_assign_7 (by decide) rfl rfl ?_
  refine pw_iconst 0 (by decide) dX4_assign_8 ?_
  refine ps_istore_n (l' := [_, _, _, _, _]) dX4_assign_9 (by decide) rfl rfl ?_
  have hP1 : PC F A1 o e := ⟨fun b hb => by rw [hA1 _ (by omega) (by omega)]; exact p1 b hb, p2, fun l k1 k2 => by rw [hA1 _ (by omega) (by omega)]; exact p3 l k1 k2, by rw [hA1 _ (by omega) (by omega)]; exact p4, p5⟩
  exact as_loop ho hP1 hR1 (fun A' hA' hC' => hQ A' (fun i k1 k2 k3 => by rw [hA' i k1]; exact hA1 i k3 k2) hC' (fun x hx hx0 => by rw [hA' _ (by omega)]; exact hR1 x hx hx0)) 15 256 1 0 0 0 A1 _ rfl (by omega) (by omega) (fun i _ => rfl) (fun x hx hx0 h9 => by omega) (by omega) rfl
end
