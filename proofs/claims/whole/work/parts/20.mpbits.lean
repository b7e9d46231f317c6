/-! BITS on the reference's side -/
section
variable {Γ : Nat × (Nat → Int32)} {F A : Nat → Nat → Int32} {rf : Nat} {lo : Int64} {X : PH} {Q : Option Value → PH → Prop} {n m : Nat} {f0 : Nat → Int32} {L : List Int32} {t : Nat}
theorem mb_loop {f g : Nat → Int32} (h66 : A 66 = cpn (tbl f n) (A 66) 256) (hn : n ≤ 300) {x1 x2 : Int32} : ∀ (k b t : Nat), b + k = 256 → m + L.length + 256 < 1400 →
    (∀ t, PW Γ mX11_packBits 59 [.ref 57, .int x1, .int x2, .int (nI (rk f n 256)), .int (nI 256)] [] (MT F (stA A 68 (rkT f n g 256)) m f0 (L ++ unls f n 256) (if 0 < rk f n 256 then 8 else t) rf lo X) 0 0 Q) →
    PW Γ mX11_packBits 18 [.ref 57, .int x1, .int x2, .int (nI (rk f n b)), .int (nI b)] [] (MT F (stA A 68 (rkT f n g b)) m f0 (L ++ unls f n b) (if 0 < rk f n b then 8 else t) rf lo X) 0 0 Q := by
  intro k
  induction k with
  | zero =>
    intro b t hb hcap hk
    have hb : b = 256 := by omega
    subst hb
    refine pw_iload rfl dX11_packBits_18 ?_
    refine pw_sipush 256 (by decide) dX11_packBits_20 ?_
    refine pw_icmp_ge 59 dX11_packBits_23 (by decide) (fun _ => ?_) (fun q => absurd (by decide) q)
    exact hk t
  | succ k ih =>
    intro b t hb hcap hk
    have hul := unls_le f n b
    have hcl := cnt_le f n b
    unfold MT
    refine pw_iload rfl dX11_packBits_18 ?_
    refine pw_sipush 256 (by decide) dX11_packBits_20 ?_
    refine pw_icmp_ge 59 dX11_packBits_23 (by decide) (fun q => absurd q (nI_ge (b := 256) (by omega) (by omega))) (fun _ => ?_)
    refine pw_aload_n rfl dX11_packBits_26 ?_
    refine pw_gC dX11_packBits_27 fX11_34 (by first | rfl | assumption) rfl (by first | rfl | assumption) ?_
    refine pw_iload rfl dX11_packBits_30 ?_
    refine pw_aI dX11_packBits_32 (by first | rfl | assumption) (by first | assumption | exact vp_in_nI (by omega) (by omega)) ?_
    rw [stA_n (by decide), stA_n (by decide), nI_clamp (by omega), h66, cpn_lt (by omega)]
    by_cases h0 : 0 < cnt f n b
    · refine pw_if_le 53 dX11_packBits_33 (by decide) (fun q => absurd q (nI_ge (a := 0) h0 (by omega))) (fun _ => ?_)
      refine pw_aload_n rfl dX11_packBits_36 ?_
      refine pw_iload rfl dX11_packBits_37 ?_
      refine pc_V1 dX11_packBits_39 lX11_123 rfl rfl (by decide) (Nat.le_of_ble_eq_true rfl) ?_
      refine mt_put (by rw [List.length_append]; omega) ?_
      rw [List.append_assoc, ← unls_s h0]
      unfold MT
      refine pw_aload_n rfl dX11_packBits_42 ?_
      refine pw_gC dX11_packBits_43 fX11_40 (by first | rfl | assumption) rfl (by first | rfl | assumption) ?_
      refine pw_iload rfl dX11_packBits_46 ?_
      refine pw_iload_n rfl dX11_packBits_48 ?_
      refine pw_sI dX11_packBits_49 (by first | rfl | assumption) (by first | assumption | exact vp_in_nI (by omega) (by omega)) ?_
      refine ps_iinc (l' := [_, _, _, _, _]) 1 dX11_packBits_50 (by decide) rfl (by decide) rfl rfl ?_
      refine ps_iinc (l' := [_, _, _, _, _]) 1 dX11_packBits_53 (by decide) rfl (by decide) rfl rfl ?_
      refine pw_goto 18 dX11_packBits_56 (by decide) ?_
      rw [nI_1, nI_1, ← rk_s h0, nI_clamp (by omega), stA_n (by decide), stA_s, rkT_y h0, stA_comm (by decide), stA_stA]
      have := ih (b + 1) t (by omega) hcap hk
      rw [if_pos (by rw [rk_s h0]; omega)] at this
      exact this
    · refine pw_if_le 53 dX11_packBits_33 (by decide) (fun _ => ?_) (fun q => absurd (nI_le (b := 0) (by omega) (by omega)) q)
      refine ps_iinc (l' := [_, _, _, _, _]) 1 dX11_packBits_53 (by decide) rfl (by decide) rfl rfl ?_
      refine pw_goto 18 dX11_packBits_56 (by decide) ?_
      rw [nI_1, ← rk_n h0, rkT_n h0, ← unls_n h0]
      exact ih (b + 1) t (by omega) hcap hk
theorem mb_codes {s : BS} {g : Nat → Int32} {q : Nat} {x3 : Int32} (hn9 : n ≤ 300) (hB : isB (A 63) n) (h68 : A 68 = rkT (A 63) n g 256) (hq : q < 256) (hs : bok s) (hcap : 8 * (m + s.1.length) + s.2.2 + n * wid q ≤ 8 * 1400) : ∀ (k i : Nat), i + k = n →
    PW Γ mX11_packBits 94 [.ref 57, .int (nI n), .int (nI (q + 1)), .int x3, .int (nI n)] [] (MT F A m f0 (bfin (cods (A 63) (rk (A 63) n) (fun _ => wid q) s n)) (tk (cods (A 63) (rk (A 63) n) (fun _ => wid q) s n)) rf lo X) 0 0 Q →
    PW Γ mX11_packBits 62 [.ref 57, .int (nI n), .int (nI (q + 1)), .int x3, .int (nI i)] [] (MT F A m f0 (bfin (cods (A 63) (rk (A 63) n) (fun _ => wid q) s i)) (tk (cods (A 63) (rk (A 63) n) (fun _ => wid q) s i)) rf lo X) 0 0 Q := by
  intro k
  induction k with
  | zero =>
    intro i hi hk
    have hi : i = n := by omega
    subst hi
    refine pw_iload rfl dX11_packBits_62 ?_
    refine pw_iload_n rfl dX11_packBits_64 ?_
    refine pw_icmp_ge 94 dX11_packBits_65 (by decide) (fun _ => ?_) (fun q => absurd (nI_le (Nat.le_refl _) (by omega)) q)
    exact hk
  | succ k ih =>
    intro i hi hk
    obtain ⟨b, hb, hfb⟩ := hB i (by omega)
    have hcp := cnt_pos (n := n) (by omega) hfb
    have hrk : rk (A 63) n b ≤ b := unls_le (A 63) n b
    unfold MT
    refine pw_iload rfl dX11_packBits_62 ?_
    refine pw_iload_n rfl dX11_packBits_64 ?_
    refine pw_icmp_ge 94 dX11_packBits_65 (by decide) (fun q => absurd q (nI_ge (by omega) (by omega))) (fun _ => ?_)
    refine pw_aload_n rfl dX11_packBits_68 ?_
    refine pw_aload_n rfl dX11_packBits_69 ?_
    refine pw_gC dX11_packBits_70 fX11_40 (by first | rfl | assumption) rfl (by first | rfl | assumption) ?_
    refine pw_aload_n rfl dX11_packBits_73 ?_
    refine pw_gC dX11_packBits_74 fX11_25 (by first | rfl | assumption) rfl (by first | rfl | assumption) ?_
    refine pw_iload rfl dX11_packBits_77 ?_
    refine pw_aI dX11_packBits_79 (by first | rfl | assumption) (by first | assumption | exact vp_in_nI (by omega) (by omega)) ?_
    rw [stA_n (by decide), nI_clamp (by omega), hfb]
    refine pw_aI dX11_packBits_80 (by first | rfl | assumption) (by first | assumption | exact vp_in_nI (by omega) (by omega)) ?_
    refine pw_iload_n rfl dX11_packBits_81 ?_
    refine pc_S1 dX11_packBits_82 lX11_146 (by decide) (Nat.le_of_ble_eq_true rfl) ?_
    refine m_widthOf hq ?_
    rw [stA_n (by decide), nI_clamp (by omega), h68, rkT_at hb hcp]
    refine pc_V2 dX11_packBits_85 lX11_149 rfl (by first | rfl | assumption) (by decide) (Nat.le_of_ble_eq_true rfl) ?_
    have hl := cods_len (f := A 63) (v := rk (A 63) n) (w := fun _ => wid q) (s := s) (W := wid q) (fun _ => Nat.le_refl _) i
    have hw8 := wid_8 q hq
    have him : i * wid q + wid q ≤ n * wid q := by
      have := Nat.mul_le_mul_right (wid q) (show i + 1 ≤ n by omega)
      rw [Nat.add_mul] at this
      omega
    refine m_bits (by omega) (by omega) (bok_c hs i) (by omega) rfl rfl ?_
    have e : cods (A 63) (rk (A 63) n) (fun _ => wid q) s (i + 1) = bp (cods (A 63) (rk (A 63) n) (fun _ => wid q) s i) (rk (A 63) n b) (wid q) := by
      show bp _ (rk (A 63) n (A 63 i).toNatClampNeg) (wid q) = _
      rw [hfb, nI_clamp (by omega)]
    rw [← e]
    refine ps_iinc (l' := [_, _, _, _, _]) 1 dX11_packBits_88 (by decide) rfl (by decide) rfl rfl ?_
    refine pw_goto 62 dX11_packBits_91 (by decide) ?_
    rw [nI_1]
    exact ih (i + 1) (by omega) hk
theorem mt_bits (hn9 : n ≤ 300) (hn0 : 0 < n) (hB : isB (A 63) n) (hcap : m + L.length + 600 ≤ 1400)
    (hQ : ∀ g t, Q none (MT F (stA (stA A 66 (cpn (tbl (A 63) n) (A 66) 256)) 68 g) m f0 (pbits (A 63) n L) t rf lo X)) : PM Γ mX11_packBits [.ref 57, .int (nI n)] (MT F A m f0 L t rf lo X) 0 0 Q := by
  have hu1 := unl_pos hB hn0
  have hu2 := unl_256 hB
  have hsl : (unls (A 63) n 256).length = unl (A 63) n := (unl_unls hB).symm
  obtain ⟨q, hq⟩ : ∃ q, unl (A 63) n = q + 1 := ⟨unl (A 63) n - 1, by omega⟩
  refine PM.go (l := [_, _, .float 0, .float 0, .float 0]) rfl rfl (Nat.le_of_ble_eq_true rfl) rfl ?_
  refine pw_aload_n rfl dX11_packBits_0 ?_
  refine pw_iload_n rfl dX11_packBits_1 ?_
  unfold MT
  refine pc_V1 dX11_packBits_2 lX11_143 rfl rfl (by decide) (Nat.le_of_ble_eq_true rfl) ?_
  refine m_countBytes hn9 (by rw [stA_n (by decide)]; exact hB) ?_
  rw [stA_n (by decide), stA_n (by decide), stA_comm (by decide)]
  refine ps_istore_n (l' := [_, _, _, _, _]) dX11_packBits_5 (by decide) rfl rfl ?_
  refine pw_aload_n rfl dX11_packBits_6 ?_
  refine pw_iload_n rfl dX11_packBits_7 ?_
  refine pw_iconst 1 (by decide) dX11_packBits_8 ?_
  refine pw_isub dX11_packBits_9 ?_
  rw [hq, nI_pred]
  refine pc_V1 dX11_packBits_10 lX11_123 rfl (by first | rfl | assumption) (by decide) (Nat.le_of_ble_eq_true rfl) ?_
  refine mt_put (L := L) (by omega) ?_
  refine pw_iconst 0 (by decide) dX11_packBits_13 ?_
  refine ps_istore_n (l' := [_, _, _, _, _]) dX11_packBits_14 (by decide) rfl rfl ?_
  refine pw_iconst 0 (by decide) dX11_packBits_15 ?_
  refine ps_istore (l' := [_, _, _, _, _]) dX11_packBits_16 (by decide) rfl rfl ?_
  generalize hA1 : stA A 66 (cpn (tbl (A 63) n) (A 66) 256) = A1 at hQ
  have hA1c : A1 63 = A 63 := by rw [← hA1, stA_n (by decide)]
  have e0 : MT F A1 m f0 (L ++ [nI q]) 8 rf lo X = MT F (stA A1 68 (rkT (A 63) n (A1 68) 0)) m f0 ((L ++ [nI q]) ++ unls (A 63) n 0) (if 0 < rk (A 63) n 0 then 8 else 8) rf lo X := by
    rw [rkT_0, stA_self rfl]
    show _ = MT F A1 m f0 ((L ++ [nI q]) ++ []) _ rf lo X
    rw [List.append_nil]
    rfl
  rw [e0]
  refine mb_loop (f := A 63) (by rw [← hA1, stA_s]; funext j; unfold cpn; split <;> rfl) hn9 256 0 8 (by omega) (by rw [List.length_append]; show m + (L.length + 1) + 256 < 1400; omega) (fun t => ?_)
  rw [if_pos (by show 0 < (unls (A 63) n 256).length; omega)]
  refine pw_iconst 0 (by decide) dX11_packBits_59 ?_
  refine ps_istore (l' := [_, _, _, _, _]) dX11_packBits_60 (by decide) rfl rfl ?_
  generalize hA2 : stA A1 68 (rkT (A 63) n (A1 68) 256) = A2
  have hA2c : A2 63 = A 63 := by rw [← hA2, stA_n (by decide), hA1c]
  have hll : (L ++ [nI q] ++ unls (A 63) n 256).length = L.length + 1 + unl (A 63) n := by rw [List.length_append, List.length_append, hsl]; rfl
  have hs0 : bok (L ++ [nI q] ++ unls (A 63) n 256, 0, 0) := ⟨by show 0 < 8; decide, by show 0 < 2 ^ 0; decide⟩
  have hw8 := wid_8 q (by omega)
  have hnw : n * wid q ≤ 300 * 8 := Nat.mul_le_mul hn9 hw8
  refine mb_codes (A := A2) (g := A1 68) (s := (L ++ [nI q] ++ unls (A 63) n 256, 0, 0)) hn9 (by rw [hA2c]; exact hB) (by rw [hA2c, ← hA2, stA_s]) (q := q) (by omega) hs0 (by show 8 * (m + (L ++ [nI q] ++ unls (A 63) n 256).length) + 0 + _ ≤ _; omega) n 0 (by omega) ?_
  rw [hA2c]
  refine pw_vret dX11_packBits_94 rfl ?_
  have h9 := hQ (rkT (A 63) n (A1 68) 256) (tk (cods (A 63) (rk (A 63) n) (fun _ => wid q) (L ++ [nI q] ++ unls (A 63) n 256, 0, 0) n))
  rw [hA2] at h9
  unfold pbits at h9
  rw [hq, show q + 1 - 1 = q by omega] at h9
  rw [show L ++ (nI q :: unls (A 63) n 256) = L ++ [nI q] ++ unls (A 63) n 256 by rw [List.append_assoc, List.singleton_append]] at h9
  exact h9
end
