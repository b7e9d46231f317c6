/-! BitWriter; the reference's put and bits -/
section
variable {Γ : Nat × (Nat → Int32)} {F A : Nat → Nat → Int32} {rf : Nat} {lo : Int64} {X : PH} {Q : Option Value → PH → Prop} {r c cap n : Nat}
/-- the writer's state s, the row r behind its m first bytes -/
def ubw (F : Nat → Nat → Int32) (r m : Nat) (s : BS) : Nat → Nat → Int32 := upF (upF (upF F r 1 (nI (m + s.1.length))) 22 0 (nI s.2.1)) 22 1 (nI s.2.2)
theorem ubw_0 (F : Nat → Nat → Int32) (r m : Nat) (s : BS) (hr : ¬ r = 22) : ubw F r m s 22 0 = nI s.2.1 := by
  unfold ubw
  rw [upF_n (by omega), upF_s]
theorem ubw_1 (F : Nat → Nat → Int32) (r m : Nat) (s : BS) : ubw F r m s 22 1 = nI s.2.2 := by
  unfold ubw
  rw [upF_s]
theorem ubw_r (F : Nat → Nat → Int32) (r m : Nat) (s : BS) (hr : ¬ r = 22) : ubw F r m s r 1 = nI (m + s.1.length) := by
  unfold ubw
  rw [upF_n (by omega), upF_n (by omega), upF_s]
theorem ubw_s0 {F : Nat → Nat → Int32} {r m : Nat} {L : List Int32} {h h2 u : Nat} : upF (ubw F r m (L, h, u)) 22 0 (nI h2) = ubw F r m (L, h2, u) := by
  funext a b
  unfold ubw upF
  by_cases h1 : a = 22 ∧ b = 0
  · rw [if_pos h1, if_neg (by omega), if_pos h1]
  · rw [if_neg h1]
    split
    · rfl
    · rfl
theorem ubw_s1 {F : Nat → Nat → Int32} {r m : Nat} {L : List Int32} {h u u2 : Nat} : upF (ubw F r m (L, h, u)) 22 1 (nI u2) = ubw F r m (L, h, u2) := by
  unfold ubw
  rw [upF_upF]
theorem ubw_sr {F : Nat → Nat → Int32} {r m k : Nat} {L K : List Int32} {h u : Nat} (hr : ¬ r = 22) (hk : k = m + K.length) : upF (ubw F r m (L, h, u)) r 1 (nI k) = ubw F r m (K, h, u) := by
  subst hk
  funext a b
  unfold ubw upF
  by_cases h1 : a = r ∧ b = 1
  · rw [if_pos h1, if_neg (by omega), if_neg (by omega), if_pos h1]
  · rw [if_neg h1]
    split
    · rfl
    · split
      · rfl
      · rfl
theorem add_m1 (x : Int32) : x + (-1) = x - 1 := by rw [Int32.sub_eq_add_neg]
theorem bw_loop {v : Nat} {m : Nat} {f0 : Nat → Int32} {w0 : Int32} (hr : isRow r c cap) (h22 : ¬ r = 22) (hv : v < 2 ^ 31) : ∀ (w : Nat) (s : BS), w ≤ 31 → bok s → 8 * (m + s.1.length) + s.2.2 + w ≤ 8 * cap →
    PW Γ mX0_put 70 [.ref 22, .int (nI v), .int w0, .ref r, .int (-1)] [] (HS (ubw F r m (bp s v w)) (stA A c (app f0 m (bp s v w).1)) rf lo X) 0 0 Q →
    PW Γ mX0_put 5 [.ref 22, .int (nI v), .int w0, .ref r, .int (nI w - 1)] [] (HS (ubw F r m s) (stA A c (app f0 m s.1)) rf lo X) 0 0 Q := by
  intro w
  induction w with
  | zero =>
    intro s _ _ _ hk
    refine pw_iload rfl dX0_put_5 ?_
    refine pw_if_lt 70 dX0_put_7 (by decide) (fun _ => ?_) (fun q => absurd (by decide) q)
    exact hk
  | succ w ih =>
    intro s hw hs hcap hk
    have hr0 := hr
    obtain ⟨h1, h2, h9, hc⟩ := hr
    obtain ⟨L, h, u⟩ := s
    have hsu : u < 8 := hs.1
    have hsh : h < 2 ^ u := hs.2
    have hp : 2 ^ u ≤ 2 ^ 7 := Nat.pow_le_pow_right (by decide) (by omega)
    rw [nI_pred]
    have hb : v / 2 ^ w % 2 < 2 := Nat.mod_lt _ (by decide)
    have hvw : v / 2 ^ w ≤ v := Nat.div_le_self _ _
    refine pw_iload rfl dX0_put_5 ?_
    refine pw_if_lt 70 dX0_put_7 (by decide) (fun q => absurd q (nI_pos (by omega))) (fun _ => ?_)
    refine pw_aload_n rfl dX0_put_10 ?_
    refine pw_aload_n rfl dX0_put_11 ?_
    refine pw_gI dX0_put_12 fX0_7 (by first | rfl | assumption) rfl ?_
    refine pw_iconst 1 (by decide) dX0_put_15 ?_
    refine pw_ishl dX0_put_16 ?_
    refine pw_iload_n rfl dX0_put_17 ?_
    refine pw_iload rfl dX0_put_18 ?_
    refine pw_ishr dX0_put_20 ?_
    refine pw_iconst 1 (by decide) dX0_put_21 ?_
    refine pw_iand dX0_put_22 ?_
    refine pw_ior dX0_put_23 ?_
    rw [ubw_0 _ _ _ _ h22, nI_shl1 (by show h * 2 < _; omega), nI_shr (by omega) hv, nI_and1 (by omega), nI_or, or_bit hb]
    refine pw_pI dX0_put_24 fX0_7 (by first | rfl | assumption) rfl ⟨rfl, rfl⟩ ?_
    refine pw_aload_n rfl dX0_put_27 ?_
    refine pw_dup rfl dX0_put_28 ?_
    refine pw_gI dX0_put_29 fX0_13 (by first | rfl | assumption) rfl ?_
    refine pw_iconst 1 (by decide) dX0_put_32 ?_
    refine pw_iadd dX0_put_33 ?_
    rw [ubw_s0, ubw_1, nI_1]
    refine pw_pI dX0_put_34 fX0_13 (by first | rfl | assumption) rfl ⟨rfl, rfl⟩ ?_
    refine pw_aload_n rfl dX0_put_37 ?_
    refine pw_gI dX0_put_38 fX0_13 (by first | rfl | assumption) rfl ?_
    refine pw_bipush 8 (by decide) dX0_put_41 ?_
    rw [ubw_s1, ubw_1]
    have e2 : nI (w + 1) - 1 = nI w := nI_pred w
    by_cases h8 : u + 1 = 8
    · refine pw_icmp_ne 64 dX0_put_43 (by decide) (fun q => absurd (by show nI (u + 1) = 8; rw [h8]; rfl) q) (fun _ => ?_)
      refine pw_aload_n rfl dX0_put_46 ?_
      refine pw_aload_n rfl dX0_put_47 ?_
      refine pw_gI dX0_put_48 fX0_7 (by first | rfl | assumption) rfl ?_
      rw [ubw_0 _ _ _ _ h22]
      refine pc_V1 dX0_put_51 lX0_16 rfl (by first | rfl | assumption) (by decide) (Nat.le_of_ble_eq_true rfl) ?_
      refine c_push hr0 (n := m + L.length) (ubw_r _ _ _ _ h22) (by have : 8 * (m + L.length) + u + (w + 1) ≤ 8 * cap := hcap; omega) ?_
      have hlt : 2 * h + v / 2 ^ w % 2 < 256 := by omega
      rw [stA_s, stA_stA, nI_and255s hlt, app_push _ _ _ _ _ rfl, ubw_sr h22 (K := L ++ [nI (2 * h + v / 2 ^ w % 2)]) (by simp; omega)]
      refine pw_aload_n rfl dX0_put_54 ?_
      refine pw_iconst 0 (by decide) dX0_put_55 ?_
      rw [show (0 : Int32) = nI 0 from rfl]
      refine pw_pI dX0_put_56 fX0_7 (by first | rfl | assumption) rfl ⟨rfl, rfl⟩ ?_
      refine pw_aload_n rfl dX0_put_59 ?_
      refine pw_iconst 0 (by decide) dX0_put_60 ?_
      rw [ubw_s0, show (0 : Int32) = nI 0 from rfl]
      refine pw_pI dX0_put_61 fX0_13 (by first | rfl | assumption) rfl ⟨rfl, rfl⟩ ?_
      refine ps_iinc (l' := [_, _, _, _, _]) (-1) dX0_put_64 (by decide) rfl (by decide) rfl rfl ?_
      refine pw_goto 5 dX0_put_67 (by decide) ?_
      rw [ubw_s1]
      have e : b1 (L, h, u) (v / 2 ^ w % 2) = (L ++ [nI (2 * h + v / 2 ^ w % 2)], 0, 0) := by
        unfold b1
        rw [if_pos h8]
      have hk' : bp (L, h, u) v (w + 1) = bp (L ++ [nI (2 * h + v / 2 ^ w % 2)], 0, 0) v w := by
        show bp (b1 (L, h, u) (v / 2 ^ w % 2)) v w = _
        rw [e]
      rw [hk'] at hk
      have hcap' : 8 * (m + L.length) + u + (w + 1) ≤ 8 * cap := hcap
      rw [add_m1]
      exact ih _ (by omega) ⟨by show 0 < 8; decide, by show 0 < 2 ^ 0; decide⟩ (by show 8 * (m + (L ++ [nI (2 * h + v / 2 ^ w % 2)]).length) + 0 + w ≤ 8 * cap; rw [List.length_append]; show 8 * (m + (L.length + 1)) + 0 + w ≤ 8 * cap; omega) hk
    · refine pw_icmp_ne 64 dX0_put_43 (by decide) (fun _ => ?_) (fun q => absurd q (by show ¬ nI (u + 1) = nI 8; exact fun z => h8 (nI_inj (by omega) (by omega) z)))
      refine ps_iinc (l' := [_, _, _, _, _]) (-1) dX0_put_64 (by decide) rfl (by decide) rfl rfl ?_
      refine pw_goto 5 dX0_put_67 (by decide) ?_
      have e : b1 (L, h, u) (v / 2 ^ w % 2) = (L, 2 * h + v / 2 ^ w % 2, u + 1) := by
        unfold b1
        rw [if_neg h8]
      have hk' : bp (L, h, u) v (w + 1) = bp (L, 2 * h + v / 2 ^ w % 2, u + 1) v w := by
        show bp (b1 (L, h, u) (v / 2 ^ w % 2)) v w = _
        rw [e]
      rw [hk'] at hk
      have hcap' : 8 * (m + L.length) + u + (w + 1) ≤ 8 * cap := hcap
      rw [add_m1]
      exact ih (L, 2 * h + v / 2 ^ w % 2, u + 1) (by omega) (by rw [← e]; exact bok_1 hs hb) (by show 8 * (m + L.length) + (u + 1) + w ≤ 8 * cap; omega) hk
/-- BitWriter.put: bits of v, w of them -/
theorem c_bput {v w : Nat} {m : Nat} {s : BS} {f0 : Nat → Int32} (hr : isRow r c cap) (h22 : ¬ r = 22) (hv : v < 2 ^ 31) (hw : w ≤ 31) (hs : bok s) (hcap : 8 * (m + s.1.length) + s.2.2 + w ≤ 8 * cap)
    (hQ : Q none (HS (ubw F r m (bp s v w)) (stA A c (app f0 m (bp s v w).1)) rf lo X)) : PM Γ mX0_put [.ref 22, .int (nI v), .int (nI w), .ref r] (HS (ubw F r m s) (stA A c (app f0 m s.1)) rf lo X) 0 0 Q := by
  refine PM.go (l := [_, _, _, _, .float 0]) rfl rfl (Nat.le_of_ble_eq_true rfl) rfl ?_
  refine pw_iload_n rfl dX0_put_0 ?_
  refine pw_iconst 1 (by decide) dX0_put_1 ?_
  refine pw_isub dX0_put_2 ?_
  refine ps_istore (l' := [_, _, _, _, _]) dX0_put_3 (by decide) rfl rfl ?_
  refine bw_loop hr h22 hv w s hw hs hcap ?_
  refine pw_vret dX0_put_70 rfl ?_
  exact hQ
/-- BitWriter.finish: what waits is filled with 0s -/
theorem c_bfin {m : Nat} {s : BS} {f0 : Nat → Int32} (hr : isRow r c cap) (h22 : ¬ r = 22) (hs : bok s) (hcap : m + s.1.length < cap)
    (hQ : Q none (HS (ubw F r m (bfin s, 0, 0)) (stA A c (app f0 m (bfin s))) rf lo X)) : PM Γ mX0_finish [.ref 22, .ref r] (HS (ubw F r m s) (stA A c (app f0 m s.1)) rf lo X) 0 0 Q := by
  have hr0 := hr
  obtain ⟨h1, h2, h9, hc⟩ := hr
  obtain ⟨L, h, u⟩ := s
  have hsu : u < 8 := hs.1
  have hsh : h < 2 ^ u := hs.2
  refine PM.go (l := [_, _]) rfl rfl (Nat.le_of_ble_eq_true rfl) rfl ?_
  refine pw_aload_n rfl dX0_finish_0 ?_
  refine pw_gI dX0_finish_1 fX0_13 (by first | rfl | assumption) rfl ?_
  rw [ubw_1]
  by_cases h0 : 0 < u
  · have e : bfin (L, h, u) = L ++ [nI (h * 2 ^ (8 - u))] := by
      unfold bfin
      rw [if_pos h0]
    rw [e] at hQ
    have hlt : h * 2 ^ (8 - u) < 256 := by
      have e1 : (2 : Nat) ^ u * 2 ^ (8 - u) = 2 ^ 8 := by rw [← Nat.pow_add]; congr 1; omega
      have := (Nat.mul_lt_mul_right (Nat.two_pow_pos (8 - u))).mpr hsh
      omega
    refine pw_if_le 23 dX0_finish_4 (by decide) (fun q => absurd q (by show ¬ nI u ≤ nI 0; exact nI_ge h0 (by omega))) (fun _ => ?_)
    refine pw_aload_n rfl dX0_finish_7 ?_
    refine pw_aload_n rfl dX0_finish_8 ?_
    refine pw_gI dX0_finish_9 fX0_7 (by first | rfl | assumption) rfl ?_
    refine pw_bipush 8 (by decide) dX0_finish_12 ?_
    refine pw_aload_n rfl dX0_finish_14 ?_
    refine pw_gI dX0_finish_15 fX0_13 (by first | rfl | assumption) rfl ?_
    refine pw_isub dX0_finish_18 ?_
    rw [ubw_1, ubw_0 _ _ _ _ h22, show (8 : Int32) - nI u = nI (8 - u) from pk_sub (a := 8) (by omega)]
    refine pw_ishl dX0_finish_19 ?_
    rw [nI_shl (by omega) (by show h * 2 ^ (8 - u) < _; omega)]
    refine pc_V1 dX0_finish_20 lX0_16 rfl (by first | rfl | assumption) (by decide) (Nat.le_of_ble_eq_true rfl) ?_
    refine c_push hr0 (n := m + L.length) (ubw_r _ _ _ _ h22) hcap ?_
    rw [stA_s, stA_stA, nI_and255s hlt, app_push _ _ _ _ _ rfl, ubw_sr h22 (K := L ++ [nI (h * 2 ^ (8 - u))]) (by simp; omega)]
    refine pw_aload_n rfl dX0_finish_23 ?_
    refine pw_iconst 0 (by decide) dX0_finish_24 ?_
    rw [show (0 : Int32) = nI 0 from rfl]
    refine pw_pI dX0_finish_25 fX0_7 (by first | rfl | assumption) rfl ⟨rfl, rfl⟩ ?_
    refine pw_aload_n rfl dX0_finish_28 ?_
    refine pw_iconst 0 (by decide) dX0_finish_29 ?_
    rw [ubw_s0, show (0 : Int32) = nI 0 from rfl]
    refine pw_pI dX0_finish_30 fX0_13 (by first | rfl | assumption) rfl ⟨rfl, rfl⟩ ?_
    refine pw_vret dX0_finish_33 rfl ?_
    rw [ubw_s1]
    exact hQ
  · have hu : u = 0 := by omega
    subst hu
    have hh : h = 0 := by omega
    subst hh
    have e : bfin (L, 0, 0) = L := rfl
    rw [e] at hQ
    refine pw_if_le 23 dX0_finish_4 (by decide) (fun _ => ?_) (fun q => absurd (by show nI 0 ≤ 0; decide) q)
    refine pw_aload_n rfl dX0_finish_23 ?_
    refine pw_iconst 0 (by decide) dX0_finish_24 ?_
    rw [show (0 : Int32) = nI 0 from rfl]
    refine pw_pI dX0_finish_25 fX0_7 (by first | rfl | assumption) rfl ⟨rfl, rfl⟩ ?_
    refine pw_aload_n rfl dX0_finish_28 ?_
    refine pw_iconst 0 (by decide) dX0_finish_29 ?_
    rw [ubw_s0, show (0 : Int32) = nI 0 from rfl]
    refine pw_pI dX0_finish_30 fX0_13 (by first | rfl | assumption) rfl ⟨rfl, rfl⟩ ?_
    refine pw_vret dX0_finish_33 rfl ?_
    rw [ubw_s1]
    exact hQ
end
