/-! the reference's put and bits, widthOf of both -/
section
variable {Γ : Nat × (Nat → Int32)} {F A : Nat → Nat → Int32} {rf : Nat} {lo : Int64} {X : PH} {Q : Option Value → PH → Prop} {r c cap n : Nat}
/-- the reference's writer: k bytes are made, t bits are taken of the last -/
def umd (F : Nat → Nat → Int32) (k t : Nat) : Nat → Nat → Int32 := upF (upF F 57 15 (nI k)) 57 17 (nI t)
theorem umd_k (F : Nat → Nat → Int32) (k t : Nat) : umd F k t 57 15 = nI k := by
  unfold umd
  rw [upF_n (by omega), upF_s]
theorem umd_t (F : Nat → Nat → Int32) (k t : Nat) : umd F k t 57 17 = nI t := by
  unfold umd
  rw [upF_s]
theorem umd_sk {F : Nat → Nat → Int32} {k k2 t : Nat} : upF (umd F k t) 57 15 (nI k2) = umd F k2 t := by
  funext a b
  unfold umd upF
  by_cases h1 : a = 57 ∧ b = 15
  · rw [if_pos h1, if_neg (by omega), if_pos h1]
  · rw [if_neg h1]
    split
    · rfl
    · rfl
theorem umd_st {F : Nat → Nat → Int32} {k t t2 : Nat} : upF (umd F k t) 57 17 (nI t2) = umd F k t2 := by
  unfold umd
  rw [upF_upF]
theorem umd_of {F : Nat → Nat → Int32} {k t : Nat} (h1 : F 57 15 = nI k) (h2 : F 57 17 = nI t) : umd F k t = F := by
  unfold umd
  rw [upF_self (by rw [upF_n (by omega)]; exact h2.symm), upF_self h1.symm]
theorem m_put {b : Int32} {k t : Nat} (hk : k < 1400) (hQ : Q none (HS (umd F (k + 1) 8) (stA A 65 (upd (A 65) k b)) rf lo X)) : PM Γ mX11_put [.ref 57, .int b] (HS (umd F k t) A rf lo X) 0 0 Q := by
  refine PM.go (l := [_, _]) rfl rfl (Nat.le_of_ble_eq_true rfl) rfl ?_
  refine pw_aload_n rfl dX11_put_0 ?_
  refine pw_gC dX11_put_1 fX11_31 (by first | rfl | assumption) rfl (by first | rfl | assumption) ?_
  refine pw_aload_n rfl dX11_put_4 ?_
  refine pw_gI dX11_put_5 fX11_117 (by first | rfl | assumption) rfl ?_
  refine pw_iload_n rfl dX11_put_8 ?_
  rw [umd_k]
  refine pw_sI dX11_put_9 (by first | rfl | assumption) (by first | assumption | exact vp_in_nI (by omega) (by omega)) ?_
  refine pw_aload_n rfl dX11_put_10 ?_
  refine pw_dup rfl dX11_put_11 ?_
  refine pw_gI dX11_put_12 fX11_117 (by first | rfl | assumption) rfl ?_
  refine pw_iconst 1 (by decide) dX11_put_15 ?_
  refine pw_iadd dX11_put_16 ?_
  rw [umd_k, nI_clamp (by omega), nI_1]
  refine pw_pI dX11_put_17 fX11_117 (by first | rfl | assumption) rfl ⟨rfl, rfl⟩ ?_
  refine pw_aload_n rfl dX11_put_20 ?_
  refine pw_bipush 8 (by decide) dX11_put_21 ?_
  rw [umd_sk, show (8 : Int32) = nI 8 from rfl]
  refine pw_pI dX11_put_23 fX11_120 (by first | rfl | assumption) rfl ⟨rfl, rfl⟩ ?_
  refine pw_vret dX11_put_26 rfl ?_
  rw [umd_st]
  exact hQ
theorem app_set (f : Nat → Int32) (m k : Nat) (L : List Int32) (v w : Int32) (hk : k = m + L.length) : upd (app f m (L ++ [v])) k w = app f m (L ++ [w]) := by
  subst hk
  rw [← app_push _ _ _ _ _ rfl, ← app_push _ _ _ _ _ rfl]
  funext j
  unfold upd
  split <;> rfl
theorem app_last (f : Nat → Int32) (m k : Nat) (L : List Int32) (v : Int32) (hk : k = m + L.length) : app f m (L ++ [v]) k = v := by
  subst hk
  rw [← app_push _ _ _ _ _ rfl]
  simp [upd]
def tk (s : BS) : Nat := if s.2.2 = 0 then 8 else s.2.2
theorem mb_or {h u b : Nat} (hu : u < 8) (hh : h < 2 ^ u) (hb : b < 2) : nI (h * 2 ^ (8 - u)) ||| (nI b <<< ((7 - nI u) &&& 31)) = nI ((2 * h + b) * 2 ^ (7 - u)) := by
  rw [show (7 : Int32) - nI u = nI (7 - u) from pk_sub (a := 7) (by omega)]
  have hp : (2 : Nat) ^ (7 - u) ≤ 2 ^ 7 := Nat.pow_le_pow_right (by decide) (by omega)
  have hb2 : b * 2 ^ (7 - u) ≤ 1 * 2 ^ (7 - u) := Nat.mul_le_mul_right _ (by omega)
  rw [nI_shl (by omega) (by omega), nI_or]
  congr 1
  have e : h * 2 ^ (8 - u) = 2 ^ (7 - u) * (2 * h) := by
    rw [show 8 - u = (7 - u) + 1 by omega, Nat.pow_succ]
    generalize (2 : Nat) ^ (7 - u) = p
    rw [Nat.mul_comm h, Nat.mul_assoc, Nat.mul_comm 2 h]
  rw [e, Nat.add_mul, Nat.mul_comm (2 * h)]
  rcases (show b = 0 ∨ b = 1 by omega) with rfl | rfl
  · simp
  · rw [Nat.one_mul]
    have h3 : 2 ^ (7 - u) * (2 * h) = 2 ^ (7 - u + 1) * h := by
      rw [Nat.pow_succ, Nat.mul_assoc]
    rw [h3]
    exact (Nat.two_pow_add_eq_or_of_lt (i := 7 - u + 1) (b := 2 ^ (7 - u)) (by rw [Nat.pow_succ]; have := Nat.two_pow_pos (7 - u); omega) h).symm
theorem bits_loop {v m : Nat} {f0 : Nat → Int32} {w0 : Int32} (hv : v < 2 ^ 31) : ∀ (w : Nat) (s : BS), w ≤ 31 → bok s → 8 * (m + s.1.length) + s.2.2 + w ≤ 8 * 1400 →
    PW Γ mX11_bits 70 [.ref 57, .int (nI v), .int w0, .int (-1)] [] (HS (umd F (m + (bfin (bp s v w)).length) (tk (bp s v w))) (stA A 65 (app f0 m (bfin (bp s v w)))) rf lo X) 0 0 Q →
    PW Γ mX11_bits 4 [.ref 57, .int (nI v), .int w0, .int (nI w - 1)] [] (HS (umd F (m + (bfin s).length) (tk s)) (stA A 65 (app f0 m (bfin s))) rf lo X) 0 0 Q := by
  intro w
  induction w with
  | zero =>
    intro s _ _ _ hk
    refine pw_iload_n rfl dX11_bits_4 ?_
    refine pw_if_lt 70 dX11_bits_5 (by decide) (fun _ => ?_) (fun q => absurd (by decide) q)
    exact hk
  | succ w ih =>
    intro s hw hs hcap hk
    obtain ⟨L, h, u⟩ := s
    have hsu : u < 8 := hs.1
    have hsh : h < 2 ^ u := hs.2
    have hcap' : 8 * (m + L.length) + u + (w + 1) ≤ 8 * 1400 := hcap
    have hb : v / 2 ^ w % 2 < 2 := Nat.mod_lt _ (by decide)
    have hvw : v / 2 ^ w ≤ v := Nat.div_le_self _ _
    have hp : 2 ^ u ≤ 2 ^ 7 := Nat.pow_le_pow_right (by decide) (by omega)
    have key : ∀ (u' : Nat) (x : Int32), u' = u → x = nI (h * 2 ^ (8 - u)) → PW Γ mX11_bits 27 [.ref 57, .int (nI v), .int w0, .int (nI w)] [] (HS (umd F (m + L.length + 1) u') (stA A 65 (app f0 m (L ++ [x]))) rf lo X) 0 0 Q := by
      intro u' x hu' hx
      subst hu'; subst hx
      refine pw_aload_n rfl dX11_bits_27 ?_
      refine pw_gC dX11_bits_28 fX11_31 (by first | rfl | assumption) rfl (by first | rfl | assumption) ?_
      refine pw_aload_n rfl dX11_bits_31 ?_
      refine pw_gI dX11_bits_32 fX11_117 (by first | rfl | assumption) rfl ?_
      refine pw_iconst 1 (by decide) dX11_bits_35 ?_
      refine pw_isub dX11_bits_36 ?_
      rw [umd_k, show nI (m + L.length + 1) - 1 = nI (m + L.length) from nI_pred _]
      refine pw_dup2 rfl rfl dX11_bits_37 ?_
      refine pw_aI dX11_bits_38 (by first | rfl | assumption) (by first | assumption | exact vp_in_nI (by omega) (by omega)) ?_
      refine pw_iload_n rfl dX11_bits_39 ?_
      refine pw_iload_n rfl dX11_bits_40 ?_
      refine pw_ishr dX11_bits_41 ?_
      refine pw_iconst 1 (by decide) dX11_bits_42 ?_
      refine pw_iand dX11_bits_43 ?_
      refine pw_bipush 7 (by decide) dX11_bits_44 ?_
      refine pw_aload_n rfl dX11_bits_46 ?_
      refine pw_gI dX11_bits_47 fX11_120 (by first | rfl | assumption) rfl ?_
      refine pw_isub dX11_bits_50 ?_
      refine pw_ishl dX11_bits_51 ?_
      rw [umd_t, stA_s, nI_clamp (by omega), app_last _ _ _ _ _ rfl, nI_shr (by omega) hv, nI_and1 (by omega)]
      refine pw_ior dX11_bits_52 ?_
      refine pw_sI dX11_bits_53 (by first | rfl | assumption) (by first | assumption | exact vp_in_nI (by omega) (by omega)) ?_
      refine pw_aload_n rfl dX11_bits_54 ?_
      refine pw_dup rfl dX11_bits_55 ?_
      refine pw_gI dX11_bits_56 fX11_120 (by first | rfl | assumption) rfl ?_
      refine pw_iconst 1 (by decide) dX11_bits_59 ?_
      refine pw_iadd dX11_bits_60 ?_
      rw [mb_or hsu hsh hb, stA_s, nI_clamp (by omega), app_set _ _ _ _ _ _ rfl, stA_stA, umd_t, nI_1]
      refine pw_pI dX11_bits_61 fX11_120 (by first | rfl | assumption) rfl ⟨rfl, rfl⟩ ?_
      refine ps_iinc (l' := [_, _, _, _]) (-1) dX11_bits_64 (by decide) rfl (by decide) rfl rfl ?_
      refine pw_goto 4 dX11_bits_67 (by decide) ?_
      rw [umd_st, add_m1]
      have e0 : bp (L, h, u') v (w + 1) = bp (b1 (L, h, u') (v / 2 ^ w % 2)) v w := rfl
      rw [e0] at hk
      have e1 : bfin (b1 (L, h, u') (v / 2 ^ w % 2)) = L ++ [nI ((2 * h + v / 2 ^ w % 2) * 2 ^ (7 - u'))] := by
        unfold b1 bfin
        by_cases h8 : u' + 1 = 8
        · rw [if_pos h8]
          have : u' = 7 := by omega
          subst this
          simp
        · rw [if_neg h8]
          show (if 0 < u' + 1 then _ else _) = _
          rw [if_pos (by omega), show 8 - (u' + 1) = 7 - u' by omega]
      have e2 : tk (b1 (L, h, u') (v / 2 ^ w % 2)) = u' + 1 := by
        unfold b1 tk
        by_cases h8 : u' + 1 = 8
        · rw [if_pos h8, if_pos rfl]
          exact h8.symm
        · rw [if_neg h8]
          show (if u' + 1 = 0 then _ else _) = _
          rw [if_neg (by omega)]
      have := ih (b1 (L, h, u') (v / 2 ^ w % 2)) (by omega) (bok_1 hs hb) (by
        have := b1_len (s := (L, h, u')) (b := v / 2 ^ w % 2)
        have e5 : ((L, h, u') : BS).1.length * 8 + ((L, h, u') : BS).2.2 = L.length * 8 + u' := rfl
        omega) hk
      rw [e1, e2] at this
      have e3 : (L ++ [nI ((2 * h + v / 2 ^ w % 2) * 2 ^ (7 - u'))]).length = L.length + 1 := by simp
      rw [e3] at this
      exact this
    rw [nI_pred]
    by_cases h0 : u = 0
    · subst h0
      have hh : h = 0 := by omega
      subst hh
      have e1 : bfin (L, 0, 0) = L := rfl
      have e2 : tk (L, 0, 0) = 8 := rfl
      rw [e1, e2]
      refine pw_iload_n rfl dX11_bits_4 ?_
      refine pw_if_lt 70 dX11_bits_5 (by decide) (fun q => absurd q (nI_pos (by omega))) (fun _ => ?_)
      refine pw_aload_n rfl dX11_bits_8 ?_
      refine pw_gI dX11_bits_9 fX11_120 (by first | rfl | assumption) rfl ?_
      refine pw_bipush 8 (by decide) dX11_bits_12 ?_
      rw [umd_t]
      refine pw_icmp_ne 27 dX11_bits_14 (by decide) (fun q => absurd (by decide) q) (fun _ => ?_)
      refine pw_aload_n rfl dX11_bits_17 ?_
      refine pw_iconst 0 (by decide) dX11_bits_18 ?_
      refine pc_V1 dX11_bits_19 lX11_123 rfl (by first | rfl | assumption) (by decide) (Nat.le_of_ble_eq_true rfl) ?_
      refine m_put (by omega) ?_
      rw [stA_s, stA_stA, app_push _ _ _ _ _ rfl]
      refine pw_aload_n rfl dX11_bits_22 ?_
      refine pw_iconst 0 (by decide) dX11_bits_23 ?_
      rw [show (0 : Int32) = nI 0 from rfl]
      refine pw_pI dX11_bits_24 fX11_120 (by first | rfl | assumption) rfl ⟨rfl, rfl⟩ ?_
      rw [umd_st]
      exact key 0 _ rfl (by simp)
    · have e1 : bfin (L, h, u) = L ++ [nI (h * 2 ^ (8 - u))] := by
        unfold bfin
        rw [if_pos (by show 0 < u; omega)]
      have e2 : tk (L, h, u) = u := by
        unfold tk
        rw [if_neg h0]
      rw [e1, e2, show (L ++ [nI (h * 2 ^ (8 - u))]).length = L.length + 1 by simp]
      refine pw_iload_n rfl dX11_bits_4 ?_
      refine pw_if_lt 70 dX11_bits_5 (by decide) (fun q => absurd q (nI_pos (by omega))) (fun _ => ?_)
      refine pw_aload_n rfl dX11_bits_8 ?_
      refine pw_gI dX11_bits_9 fX11_120 (by first | rfl | assumption) rfl ?_
      refine pw_bipush 8 (by decide) dX11_bits_12 ?_
      rw [umd_t]
      refine pw_icmp_ne 27 dX11_bits_14 (by decide) (fun _ => ?_) (fun q => absurd q (by show ¬ nI u = nI 8; exact fun z => by have := nI_inj (by omega) (by omega) z; omega))
      exact key u _ rfl rfl
theorem m_bits {v w m k t : Nat} {s : BS} {f0 : Nat → Int32} (hv : v < 2 ^ 31) (hw : w ≤ 31) (hs : bok s) (hcap : 8 * (m + s.1.length) + s.2.2 + w ≤ 8 * 1400) (hk : k = m + (bfin s).length) (ht : t = tk s)
    (hQ : Q none (HS (umd F (m + (bfin (bp s v w)).length) (tk (bp s v w))) (stA A 65 (app f0 m (bfin (bp s v w)))) rf lo X)) : PM Γ mX11_bits [.ref 57, .int (nI v), .int (nI w)] (HS (umd F k t) (stA A 65 (app f0 m (bfin s))) rf lo X) 0 0 Q := by
  subst hk; subst ht
  refine PM.go (l := [_, _, _, .float 0]) rfl rfl (Nat.le_of_ble_eq_true rfl) rfl ?_
  refine pw_iload_n rfl dX11_bits_0 ?_
  refine pw_iconst 1 (by decide) dX11_bits_1 ?_
  refine pw_isub dX11_bits_2 ?_
  refine ps_istore_n (l' := [_, _, _, _]) dX11_bits_3 (by decide) rfl rfl ?_
  refine bits_loop hv w s hw hs hcap ?_
  refine pw_vret dX11_bits_70 rfl ?_
  exact hQ
theorem cw_loop {h : PH} {m : Nat} (hm : m < 256) : ∀ (k w : Nat), w + k = wid m → PW Γ mX3_widthOf 20 [.int (nI m), .int (nI (wid m))] [] h 0 0 Q → PW Γ mX3_widthOf 2 [.int (nI m), .int (nI w)] [] h 0 0 Q := by
  have hw8 := wid_8 m hm
  intro k
  induction k with
  | zero =>
    intro w hw hk
    have hw : w = wid m := by omega
    subst hw
    by_cases h8 : wid m = 8
    · refine pw_iload_n rfl dX3_widthOf_2 ?_
      refine pw_bipush 8 (by decide) dX3_widthOf_3 ?_
      refine pw_icmp_ge 20 dX3_widthOf_5 (by decide) (fun _ => ?_) (fun q => absurd (by rw [h8]; decide) q)
      exact hk
    · refine pw_iload_n rfl dX3_widthOf_2 ?_
      refine pw_bipush 8 (by decide) dX3_widthOf_3 ?_
      refine pw_icmp_ge 20 dX3_widthOf_5 (by decide) (fun q => absurd q (by show ¬ nI 8 ≤ nI (wid m); exact nI_ge (by omega) (by omega))) (fun _ => ?_)
      refine pw_iload_n rfl dX3_widthOf_8 ?_
      refine pw_iload_n rfl dX3_widthOf_9 ?_
      refine pw_ishr dX3_widthOf_10 ?_
      rw [nI_shr (by omega) (by omega)]
      refine pw_if_le 20 dX3_widthOf_11 (by decide) (fun _ => ?_) (fun q => absurd (by show nI (m / 2 ^ wid m) ≤ nI 0; have h0 := (wid_ok m hm (wid m) (by omega)); exact nI_le (by omega) (by omega)) q)
      exact hk
  | succ k ih =>
    intro w hw hk
    refine pw_iload_n rfl dX3_widthOf_2 ?_
    refine pw_bipush 8 (by decide) dX3_widthOf_3 ?_
    refine pw_icmp_ge 20 dX3_widthOf_5 (by decide) (fun q => absurd q (by show ¬ nI 8 ≤ nI w; exact nI_ge (by omega) (by omega))) (fun _ => ?_)
    refine pw_iload_n rfl dX3_widthOf_8 ?_
    refine pw_iload_n rfl dX3_widthOf_9 ?_
    refine pw_ishr dX3_widthOf_10 ?_
    rw [nI_shr (by omega) (by omega)]
    have h1 := (wid_ok m hm w (by omega)).mpr (by omega)
    have h2 : m / 2 ^ w ≤ m := Nat.div_le_self _ _
    refine pw_if_le 20 dX3_widthOf_11 (by decide) (fun q => absurd q (by show ¬ nI (m / 2 ^ w) ≤ nI 0; exact nI_ge h1 (by omega))) (fun _ => ?_)
    refine ps_iinc (l' := [_, _]) 1 dX3_widthOf_14 (by decide) rfl (by decide) rfl rfl ?_
    refine pw_goto 2 dX3_widthOf_17 (by decide) ?_
    rw [nI_1]
    exact ih (w + 1) (by omega) hk
theorem c_widthOf {h : PH} {m : Nat} (hm : m < 256) (hQ : Q (some (.int (nI (wid m)))) h) : PM Γ mX3_widthOf [.int (nI m)] h 0 0 Q := by
  refine PM.go (l := [_, .float 0]) rfl rfl (Nat.le_of_ble_eq_true rfl) rfl ?_
  refine pw_iconst 0 (by decide) dX3_widthOf_0 ?_
  refine ps_istore_n (l' := [_, _]) dX3_widthOf_1 (by decide) rfl rfl ?_
  refine cw_loop hm (wid m) 0 (by omega) ?_
  refine pw_iload_n rfl dX3_widthOf_20 ?_
  refine pw_iret dX3_widthOf_21 (Or.inl rfl) ?_
  exact hQ
theorem mw_loop {h : PH} {m : Nat} (hm : m < 256) : ∀ (k w : Nat), w + k = wid m → PW Γ mX11_widthOf 16 [.int (nI (m + 1)), .int (nI (wid m))] [] h 0 0 Q → PW Γ mX11_widthOf 2 [.int (nI (m + 1)), .int (nI w)] [] h 0 0 Q := by
  have hw8 := wid_8 m hm
  intro k
  induction k with
  | zero =>
    intro w hw hk
    have hw : w = wid m := by omega
    subst hw
    refine pw_iload_n rfl dX11_widthOf_2 ?_
    refine pw_iconst 1 (by decide) dX11_widthOf_3 ?_
    refine pw_isub dX11_widthOf_4 ?_
    refine pw_iload_n rfl dX11_widthOf_5 ?_
    refine pw_ishr dX11_widthOf_6 ?_
    rw [nI_pred, nI_shr (by omega) (by omega)]
    refine pw_if_le 16 dX11_widthOf_7 (by decide) (fun _ => ?_) (fun q => absurd (by show nI (m / 2 ^ wid m) ≤ nI 0; have h0 := (wid_ok m hm (wid m) (by omega)); exact nI_le (by omega) (by omega)) q)
    exact hk
  | succ k ih =>
    intro w hw hk
    have h1 := (wid_ok m hm w (by omega)).mpr (by omega)
    have h2 : m / 2 ^ w ≤ m := Nat.div_le_self _ _
    refine pw_iload_n rfl dX11_widthOf_2 ?_
    refine pw_iconst 1 (by decide) dX11_widthOf_3 ?_
    refine pw_isub dX11_widthOf_4 ?_
    refine pw_iload_n rfl dX11_widthOf_5 ?_
    refine pw_ishr dX11_widthOf_6 ?_
    rw [nI_pred, nI_shr (by omega) (by omega)]
    refine pw_if_le 16 dX11_widthOf_7 (by decide) (fun q => absurd q (by show ¬ nI (m / 2 ^ w) ≤ nI 0; exact nI_ge h1 (by omega))) (fun _ => ?_)
    refine ps_iinc (l' := [_, _]) 1 dX11_widthOf_10 (by decide) rfl (by decide) rfl rfl ?_
    refine pw_goto 2 dX11_widthOf_13 (by decide) ?_
    rw [nI_1]
    exact ih (w + 1) (by omega) hk
theorem m_widthOf {h : PH} {m : Nat} (hm : m < 256) (hQ : Q (some (.int (nI (wid m)))) h) : PM Γ mX11_widthOf [.int (nI (m + 1))] h 0 0 Q := by
  refine PM.go (l := [_, .float 0]) rfl rfl (Nat.le_of_ble_eq_true rfl) rfl ?_
  refine pw_iconst 0 (by decide) dX11_widthOf_0 ?_
  refine ps_istore_n (l' := [_, _]) dX11_widthOf_1 (by decide) rfl rfl ?_
  refine mw_loop hm (wid m) 0 (by omega) ?_
  refine pw_iload_n rfl dX11_widthOf_16 ?_
  refine pw_iret dX11_widthOf_17 (Or.inl rfl) ?_
  exact hQ
end
