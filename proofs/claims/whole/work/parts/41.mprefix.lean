/-! PREFIX: the reference's findCodes and packPrefix -/
section
variable {Γ : Nat × (Nat → Int32)} {F A : Nat → Nat → Int32} {rf : Nat} {lo : Int64} {X : PH} {Q : Option Value → PH → Prop} {n m : Nat} {f0 : Nat → Int32} {L : List Int32} {t : Nat} {e : Nat → Nat}
theorem fc_in {l : Nat} (h67 : ∀ b, b < 256 → A 67 b = nI (e b)) (he : ∀ b, e b ≤ 15) (hl : 0 < l) (hl2 : l ≤ 15) : ∀ (k b : Nat) (g : Nat → Int32), b + k = 256 → (∀ x, x < 256 → 0 < e x → (e x < l ∨ (e x = l ∧ x < b)) → g x = nI (cod e x)) →
    (∀ g, (∀ x, x < 256 → 0 < e x → e x < l + 1 → g x = nI (cod e x)) → PW Γ mX11_findCodes 49 [.ref 57, .int (nI (nc e l + nlz e l 256)), .int (nI l), .int (nI 256)] [] (HS F (stA A 68 g) rf lo X) 0 0 Q) →
    PW Γ mX11_findCodes 16 [.ref 57, .int (nI (nc e l + nlz e l b)), .int (nI l), .int (nI b)] [] (HS F (stA A 68 g) rf lo X) 0 0 Q := by
  intro k
  induction k with
  | zero =>
    intro b g hb hI hk
    have hb2 : b = 256 := by omega
    subst hb2
    refine pw_iload_n rfl dX11_findCodes_16 ?_
    refine pw_sipush 256 (by decide) dX11_findCodes_17 ?_
    refine pw_icmp_ge 49 dX11_findCodes_20 (by decide) (fun _ => ?_) (fun q => absurd (by decide) q)
    exact hk g (fun x k1 k2 k3 => hI x k1 k2 (by omega))
  | succ k ih =>
    intro b g hb hI hk
    have heb := he b
    refine pw_iload_n rfl dX11_findCodes_16 ?_
    refine pw_sipush 256 (by decide) dX11_findCodes_17 ?_
    refine pw_icmp_ge 49 dX11_findCodes_20 (by decide) (fun q => absurd q (nI_ge (b := 256) (by omega) (by omega))) (fun _ => ?_)
    refine pw_aload_n rfl dX11_findCodes_23 ?_
    refine pw_gC dX11_findCodes_24 fX11_37 (by first | rfl | assumption) rfl (by first | rfl | assumption) ?_
    refine pw_iload_n rfl dX11_findCodes_27 ?_
    refine pw_aI dX11_findCodes_28 (by first | rfl | assumption) (by first | assumption | exact vp_in_nI (by omega) (by omega)) ?_
    rw [stA_n (by decide), nI_clamp (by omega), h67 b (by omega)]
    by_cases h : e b = l
    · have e1 : nlz e l (b + 1) = nlz e l b + 1 := by
        show nlz e l b + (if e b = l then 1 else 0) = _
        rw [if_pos h]
      rw [h]
      refine pw_iload_n rfl dX11_findCodes_29 ?_
      refine pw_icmp_ne 43 dX11_findCodes_30 (by decide) (fun q => absurd (rfl) q) (fun _ => ?_)
      refine pw_aload_n rfl dX11_findCodes_33 ?_
      refine pw_gC dX11_findCodes_34 fX11_40 (by first | rfl | assumption) rfl (by first | rfl | assumption) ?_
      refine pw_iload_n rfl dX11_findCodes_37 ?_
      refine pw_iload_n rfl dX11_findCodes_38 ?_
      refine pw_sI dX11_findCodes_39 (by first | rfl | assumption) (by first | assumption | exact vp_in_nI (by omega) (by omega)) ?_
      refine ps_iinc (l' := [_, _, _, _]) 1 dX11_findCodes_40 (by decide) rfl (by decide) rfl rfl ?_
      refine ps_iinc (l' := [_, _, _, _]) 1 dX11_findCodes_43 (by decide) rfl (by decide) rfl rfl ?_
      refine pw_goto 16 dX11_findCodes_46 (by decide) ?_
      rw [nI_1, nI_1, stA_s, stA_stA, nI_clamp (by omega), Nat.add_assoc, ← e1]
      refine ih (b + 1) _ (by omega) (fun x k1 k2 k3 => ?_) hk
      by_cases hxb : x = b
      · rw [hxb, upd_s]
        unfold cod
        rw [h]
      · rw [upd_n hxb]
        exact hI x k1 k2 (by omega)
    · have e1 : nlz e l (b + 1) = nlz e l b := by
        show nlz e l b + (if e b = l then 1 else 0) = _
        rw [if_neg h, Nat.add_zero]
      refine pw_iload_n rfl dX11_findCodes_29 ?_
      refine pw_icmp_ne 43 dX11_findCodes_30 (by decide) (fun _ => ?_) (fun q => absurd q ((fun h9 => h (nI_inj (by omega) (by omega) h9))))
      refine ps_iinc (l' := [_, _, _, _]) 1 dX11_findCodes_43 (by decide) rfl (by decide) rfl rfl ?_
      refine pw_goto 16 dX11_findCodes_46 (by decide) ?_
      rw [nI_1, ← e1]
      refine ih (b + 1) _ (by omega) (fun x k1 k2 k3 => ?_) hk
      by_cases hxb : x = b
      · rw [hxb] at k3; exact hI x k1 k2 (by rw [hxb]; omega)
      · exact hI x k1 k2 (by omega)
theorem fc_out (h67 : ∀ b, b < 256 → A 67 b = nI (e b)) (he : ∀ b, e b ≤ 15) : ∀ (k l v : Nat) (g : Nat → Int32) (y : Value), y.category = 1 → l + k = 16 → 0 < l → 2 * v = nc e l → (∀ x, x < 256 → 0 < e x → e x < l → g x = nI (cod e x)) →
    (∀ g, (∀ x, x < 256 → 0 < e x → g x = nI (cod e x)) → Q none (HS F (stA A 68 g) rf lo X)) →
    PW Γ mX11_findCodes 4 [.ref 57, .int (nI v), .int (nI l), y] [] (HS F (stA A 68 g) rf lo X) 0 0 Q := by
  intro k
  induction k with
  | zero =>
    intro l v g y hy hl hl0 hv hI hq
    have hl2 : l = 16 := by omega
    subst hl2
    refine pw_iload_n rfl dX11_findCodes_4 ?_
    refine pw_bipush 16 (by decide) dX11_findCodes_5 ?_
    refine pw_icmp_ge 55 dX11_findCodes_7 (by decide) (fun _ => ?_) (fun q => absurd (by decide) q)
    refine pw_vret dX11_findCodes_55 rfl ?_
    exact hq g (fun x k1 k2 => hI x k1 k2 (by have := he x; omega))
  | succ k ih =>
    intro l v g y hy hl hl0 hv hI hq
    have hlim := nc_lim (e := e) (show l ≤ 16 by omega)
    refine pw_iload_n rfl dX11_findCodes_4 ?_
    refine pw_bipush 16 (by decide) dX11_findCodes_5 ?_
    refine pw_icmp_ge 55 dX11_findCodes_7 (by decide) (fun q => absurd q (nI_ge (b := 16) (by omega) (by omega))) (fun _ => ?_)
    refine pw_iload_n rfl dX11_findCodes_10 ?_
    refine pw_iconst 1 (by decide) dX11_findCodes_11 ?_
    refine pw_ishl dX11_findCodes_12 ?_
    rw [nI_shl1 (by omega), hv]
    refine ps_istore_n (l' := [_, _, _, _]) dX11_findCodes_13 (by decide) rfl rfl ?_
    refine pw_iconst 0 (by decide) dX11_findCodes_14 ?_
    refine ps_istore_n (l' := [_, _, _, _]) dX11_findCodes_15 (by decide) rfl rfl ?_
    have := fc_in (Q := Q) (Γ := Γ) (F := F) (A := A) (rf := rf) (lo := lo) (X := X) h67 he hl0 (show l ≤ 15 by omega) 256 0 g (by omega) (fun x k1 k2 k3 => hI x k1 k2 (by omega))
    refine this ?_
    intro g' hg'
    refine ps_iinc (l' := [_, _, _, _]) 1 dX11_findCodes_49 (by decide) rfl (by decide) rfl rfl ?_
    refine pw_goto 4 dX11_findCodes_52 (by decide) ?_
    rw [nI_1]
    exact ih (l + 1) _ g' _ rfl (by omega) (by omega) (by rw [nc_s hl0]) hg' hq
theorem m_findCodes (h67 : ∀ b, b < 256 → A 67 b = nI (e b)) (he : ∀ b, e b ≤ 15) (hQ : ∀ g, (∀ x, x < 256 → 0 < e x → g x = nI (cod e x)) → Q none (HS F (stA A 68 g) rf lo X)) : PM Γ mX11_findCodes [.ref 57] (HS F A rf lo X) 0 0 Q := by
  refine PM.go (l := [_, .float 0, .float 0, .float 0]) rfl rfl (Nat.le_of_ble_eq_true rfl) rfl ?_
  refine pw_iconst 0 (by decide) dX11_findCodes_0 ?_
  refine ps_istore_n (l' := [_, _, _, _]) dX11_findCodes_1 (by decide) rfl rfl ?_
  refine pw_iconst 1 (by decide) dX11_findCodes_2 ?_
  refine ps_istore_n (l' := [_, _, _, _]) dX11_findCodes_3 (by decide) rfl rfl ?_
  have e3 : HS F A rf lo X = HS F (stA A 68 (A 68)) rf lo X := by rw [stA_self rfl]
  rw [e3]
  exact fc_out h67 he 15 1 0 (A 68) _ rfl rfl (by omega) rfl (fun x _ k2 k3 => by omega) hQ
theorem mt_of (h1 : F 57 15 = nI (m + L.length)) (h3 : F 57 17 = nI t) (h2 : A 65 = app f0 m L) : HS F A rf lo X = MT F A m f0 L t rf lo X := by
  unfold MT
  rw [umd_of h1 h3, stA_self h2.symm]
theorem mp_tab {d : Nat → Nat} {x1 x2 : Int32} (h66 : ∀ b, b < 256 → A 66 b = nI (d b)) (hd : ∀ b, b < 256 → d b ≤ 300) (h67 : ∀ b, b < 256 → A 67 b = nI (e b)) : ∀ (k b t : Nat), b + k = 256 → m + L.length + 512 < 1400 → (0 < knz d b → t = 8) →
    (∀ t, (0 < knz d 256 → t = 8) → PW Γ mX11_packPrefix 61 [.ref 57, .int x1, .int x2, .int (nI 256)] [] (MT F A m f0 (L ++ ptb d e 256) t rf lo X) 0 0 Q) →
    PW Γ mX11_packPrefix 24 [.ref 57, .int x1, .int x2, .int (nI b)] [] (MT F A m f0 (L ++ ptb d e b) t rf lo X) 0 0 Q := by
  intro k
  induction k with
  | zero =>
    intro b t hb hcap ht hk
    have hb : b = 256 := by omega
    subst hb
    refine pw_iload_n rfl dX11_packPrefix_24 ?_
    refine pw_sipush 256 (by decide) dX11_packPrefix_25 ?_
    refine pw_icmp_ge 61 dX11_packPrefix_28 (by decide) (fun _ => ?_) (fun q => absurd (by decide) q)
    exact hk t ht
  | succ k ih =>
    intro b t hb hcap ht hk
    have hul := ptb_len d e b
    have hkl := knz_le d b
    have hdb := hd b (by omega)
    unfold MT
    refine pw_iload_n rfl dX11_packPrefix_24 ?_
    refine pw_sipush 256 (by decide) dX11_packPrefix_25 ?_
    refine pw_icmp_ge 61 dX11_packPrefix_28 (by decide) (fun q => absurd q (nI_ge (b := 256) (by omega) (by omega))) (fun _ => ?_)
    refine pw_aload_n rfl dX11_packPrefix_31 ?_
    refine pw_gC dX11_packPrefix_32 fX11_34 (by first | rfl | assumption) rfl (by first | rfl | assumption) ?_
    refine pw_iload_n rfl dX11_packPrefix_35 ?_
    refine pw_aI dX11_packPrefix_36 (by first | rfl | assumption) (by first | assumption | exact vp_in_nI (by omega) (by omega)) ?_
    rw [stA_n (by decide), nI_clamp (by omega), h66 b (by omega)]
    by_cases h0 : 0 < d b
    · refine pw_if_le 55 dX11_packPrefix_37 (by decide) (fun q => absurd q (nI_ge (a := 0) h0 (by omega))) (fun _ => ?_)
      refine pw_aload_n rfl dX11_packPrefix_40 ?_
      refine pw_iload_n rfl dX11_packPrefix_41 ?_
      refine pc_V1 dX11_packPrefix_42 lX11_123 rfl rfl (by decide) (Nat.le_of_ble_eq_true rfl) ?_
      refine mt_put (by rw [List.length_append]; omega) ?_
      unfold MT
      refine pw_aload_n rfl dX11_packPrefix_45 ?_
      refine pw_aload_n rfl dX11_packPrefix_46 ?_
      refine pw_gC dX11_packPrefix_47 fX11_37 (by first | rfl | assumption) rfl (by first | rfl | assumption) ?_
      refine pw_iload_n rfl dX11_packPrefix_50 ?_
      refine pw_aI dX11_packPrefix_51 (by first | rfl | assumption) (by first | assumption | exact vp_in_nI (by omega) (by omega)) ?_
      rw [stA_n (by decide), nI_clamp (by omega), h67 b (by omega)]
      refine pc_V1 dX11_packPrefix_52 lX11_123 rfl rfl (by decide) (Nat.le_of_ble_eq_true rfl) ?_
      refine mt_put (by rw [List.length_append, List.length_append]; show m + (L.length + (ptb d e b).length + 1) < 1400; omega) ?_
      rw [List.append_assoc, List.append_assoc, List.singleton_append, ← ptb_y h0]
      refine ps_iinc (l' := [_, _, _, _]) 1 dX11_packPrefix_55 (by decide) rfl (by decide) rfl rfl ?_
      refine pw_goto 24 dX11_packPrefix_58 (by decide) ?_
      rw [nI_1]
      exact ih (b + 1) 8 (by omega) hcap (fun _ => rfl) hk
    · refine pw_if_le 55 dX11_packPrefix_37 (by decide) (fun _ => ?_) (fun q => absurd (nI_le (b := 0) (by omega) (by omega)) q)
      refine ps_iinc (l' := [_, _, _, _]) 1 dX11_packPrefix_55 (by decide) rfl (by decide) rfl rfl ?_
      refine pw_goto 24 dX11_packPrefix_58 (by decide) ?_
      rw [nI_1, ← ptb_n h0]
      exact ih (b + 1) t (by omega) hcap (by rw [knz_n h0]; exact ht) hk
theorem mp_codes {s : BS} {x2 : Int32} (hn9 : n ≤ 300) (hB : isB (A 63) n) (he : ∀ b, e b ≤ 11) (h67 : ∀ b, b < 256 → A 67 b = nI (e b)) (h68 : ∀ b, b < 256 → 0 < e b → A 68 b = nI (cod e b)) (hpos : ∀ i b, i < n → A 63 i = nI b → b < 256 → 0 < e b) (hs : bok s) (hcap : 8 * (m + s.1.length) + s.2.2 + n * 11 ≤ 8 * 1400) : ∀ (k i : Nat), i + k = n →
    PW Γ mX11_packPrefix 100 [.ref 57, .int (nI n), .int x2, .int (nI n)] [] (MT F A m f0 (bfin (cods (A 63) (cod e) e s n)) (tk (cods (A 63) (cod e) e s n)) rf lo X) 0 0 Q →
    PW Γ mX11_packPrefix 63 [.ref 57, .int (nI n), .int x2, .int (nI i)] [] (MT F A m f0 (bfin (cods (A 63) (cod e) e s i)) (tk (cods (A 63) (cod e) e s i)) rf lo X) 0 0 Q := by
  intro k
  induction k with
  | zero =>
    intro i hi hk
    have hi : i = n := by omega
    subst hi
    refine pw_iload_n rfl dX11_packPrefix_63 ?_
    refine pw_iload_n rfl dX11_packPrefix_64 ?_
    refine pw_icmp_ge 100 dX11_packPrefix_65 (by decide) (fun _ => ?_) (fun q => absurd (nI_le (Nat.le_refl _) (by omega)) q)
    exact hk
  | succ k ih =>
    intro i hi hk
    obtain ⟨b, hb, hfb⟩ := hB i (by omega)
    have hpb := hpos i b (by omega) hfb hb
    have heb := he b
    unfold MT
    refine pw_iload_n rfl dX11_packPrefix_63 ?_
    refine pw_iload_n rfl dX11_packPrefix_64 ?_
    refine pw_icmp_ge 100 dX11_packPrefix_65 (by decide) (fun q => absurd q (nI_ge (by omega) (by omega))) (fun _ => ?_)
    refine pw_aload_n rfl dX11_packPrefix_68 ?_
    refine pw_aload_n rfl dX11_packPrefix_69 ?_
    refine pw_gC dX11_packPrefix_70 fX11_40 (by first | rfl | assumption) rfl (by first | rfl | assumption) ?_
    refine pw_aload_n rfl dX11_packPrefix_73 ?_
    refine pw_gC dX11_packPrefix_74 fX11_25 (by first | rfl | assumption) rfl (by first | rfl | assumption) ?_
    refine pw_iload_n rfl dX11_packPrefix_77 ?_
    refine pw_aI dX11_packPrefix_78 (by first | rfl | assumption) (by first | assumption | exact vp_in_nI (by omega) (by omega)) ?_
    rw [stA_n (by decide), nI_clamp (by omega), hfb]
    refine pw_aI dX11_packPrefix_79 (by first | rfl | assumption) (by first | assumption | exact vp_in_nI (by omega) (by omega)) ?_
    refine pw_aload_n rfl dX11_packPrefix_80 ?_
    refine pw_gC dX11_packPrefix_81 fX11_37 (by first | rfl | assumption) rfl (by first | rfl | assumption) ?_
    refine pw_aload_n rfl dX11_packPrefix_84 ?_
    refine pw_gC dX11_packPrefix_85 fX11_25 (by first | rfl | assumption) rfl (by first | rfl | assumption) ?_
    refine pw_iload_n rfl dX11_packPrefix_88 ?_
    refine pw_aI dX11_packPrefix_89 (by first | rfl | assumption) (by first | assumption | exact vp_in_nI (by omega) (by omega)) ?_
    rw [stA_n (by decide), stA_n (by decide), nI_clamp (by omega), nI_clamp (by omega), hfb, h68 b hb hpb]
    refine pw_aI dX11_packPrefix_90 (by first | rfl | assumption) (by first | assumption | exact vp_in_nI (by omega) (by omega)) ?_
    rw [stA_n (by decide), nI_clamp (by omega), h67 b hb]
    refine pc_V2 dX11_packPrefix_91 lX11_149 rfl (by first | rfl | assumption) (by decide) (Nat.le_of_ble_eq_true rfl) ?_
    have hl := cods_len (f := A 63) (v := cod e) (w := e) (s := s) (W := 11) he i
    have hcl := cod_lim (e := e) (fun b => by have := he b; omega) hb
    refine m_bits hcl (by omega) (bok_c hs i) (by omega) rfl rfl ?_
    have e1 : cods (A 63) (cod e) e s (i + 1) = bp (cods (A 63) (cod e) e s i) (cod e b) (e b) := by
      show bp _ (cod e (A 63 i).toNatClampNeg) (e (A 63 i).toNatClampNeg) = _
      rw [hfb, nI_clamp (by omega)]
    rw [← e1]
    refine ps_iinc (l' := [_, _, _, _]) 1 dX11_packPrefix_94 (by decide) rfl (by decide) rfl rfl ?_
    refine pw_goto 63 dX11_packPrefix_97 (by decide) ?_
    rw [nI_1]
    exact ih (i + 1) (by omega) hk
theorem mt_prefix (hn9 : n ≤ 300) (hn0 : 0 < n) (hB : isB (A 63) n) (hcap : m + L.length + 930 ≤ 1400)
    (hQ : ∀ A' t, (∀ i, ¬ (66 ≤ i ∧ i ≤ 70) → A' i = A i) → Q none (MT F A' m f0 (ppre (A 63) n L) t rf lo X)) : PM Γ mX11_packPrefix [.ref 57, .int (nI n)] (MT F A m f0 L t rf lo X) 0 0 Q := by
  have hu1 := unl_pos hB hn0
  have hu2 := unl_256 hB
  have hul := unl_lk hB
  have hHC : HC (cnt (A 63) n) n := cnt_sum hB
  have hkn := lk_knz (cnt (A 63) n)
  refine PM.go (l := [_, _, .float 0, .float 0]) rfl rfl (Nat.le_of_ble_eq_true rfl) rfl ?_
  refine pw_aload_n rfl dX11_packPrefix_0 ?_
  refine pw_iload_n rfl dX11_packPrefix_1 ?_
  unfold MT
  refine pc_V1 dX11_packPrefix_2 lX11_143 rfl rfl (by decide) (Nat.le_of_ble_eq_true rfl) ?_
  refine m_countBytes hn9 (by rw [stA_n (by decide)]; exact hB) ?_
  rw [stA_n (by decide), stA_n (by decide), stA_comm (by decide), hul]
  have hA66 : ∀ b, b < 256 → stA (stA A 66 (cpn (tbl (A 63) n) (A 66) 256)) 65 (app f0 m L) 66 b = nI (cnt (A 63) n b) := by
    intro b hb
    rw [stA_n (by decide), stA_s, cpn_lt hb]
    rfl
  have hA65 : stA (stA A 66 (cpn (tbl (A 63) n) (A 66) 256)) 65 (app f0 m L) 65 = app f0 m L := stA_s
  have hA0 : ∀ i, ¬ i = 66 → ¬ i = 65 → stA (stA A 66 (cpn (tbl (A 63) n) (A 66) 256)) 65 (app f0 m L) i = A i := fun i k1 k2 => by rw [stA_n k2, stA_n k1]
  generalize stA (stA A 66 (cpn (tbl (A 63) n) (A 66) 256)) 65 (app f0 m L) = A1 at *
  refine ps_istore_n (l' := [_, _, _, _]) dX11_packPrefix_5 (by decide) rfl rfl ?_
  refine pw_aload_n rfl dX11_packPrefix_6 ?_
  refine pw_iload_n rfl dX11_packPrefix_7 ?_
  refine pc_V1 dX11_packPrefix_8 lX11_155 rfl rfl (by decide) (Nat.le_of_ble_eq_true rfl) ?_
  refine m_findLengths hHC hn9 (by omega) hA66 ?_
  intro A2 hA2 h67
  refine pw_aload_n rfl dX11_packPrefix_11 ?_
  refine pc_V0 dX11_packPrefix_12 lX11_158 rfl rfl (by decide) (Nat.le_of_ble_eq_true rfl) ?_
  refine m_findCodes h67 (hl_15 hHC hn9) ?_
  intro g hg
  have hA3b : ∀ i, ¬ (65 ≤ i ∧ i ≤ 70) → stA A2 68 g i = A i := fun i k1 => by rw [stA_n (by omega), hA2 i (by omega) (by omega) (by omega), hA0 i (by omega) (by omega)]
  have hA3t : stA A2 68 g 65 = app f0 m L := by rw [stA_n (by decide), hA2 65 (by decide) (by decide) (by decide), hA65]
  have h66' : ∀ b, b < 256 → stA A2 68 g 66 b = nI (cnt (A 63) n b) := fun b hb => by rw [stA_n (by decide), hA2 66 (by decide) (by decide) (by decide)]; exact hA66 b hb
  have h67' : ∀ b, b < 256 → stA A2 68 g 67 b = nI (hl (cnt (A 63) n) b) := fun b hb => by rw [stA_n (by decide)]; exact h67 b hb
  have h68' : ∀ b, b < 256 → 0 < hl (cnt (A 63) n) b → stA A2 68 g 68 b = nI (cod (hl (cnt (A 63) n)) b) := fun b hb h0 => by rw [stA_s]; exact hg b hb h0
  generalize stA A2 68 g = A3 at *
  have hA3c : A3 63 = A 63 := hA3b 63 (by omega)
  have h11 := hl_11 hHC hn9
  have hpos : ∀ i b, i < n → A 63 i = nI b → b < 256 → 0 < hl (cnt (A 63) n) b := by
    intro i b k1 k2 k3
    have := (hl_ok hHC hn9 k3 (cnt_pos k1 k2)).1
    omega
  refine pw_aload_n rfl dX11_packPrefix_15 ?_
  refine pw_iload_n rfl dX11_packPrefix_16 ?_
  refine pw_iconst 1 (by decide) dX11_packPrefix_17 ?_
  refine pw_isub dX11_packPrefix_18 ?_
  rw [show nI (lk (cnt (A 63) n)) - 1 = nI (lk (cnt (A 63) n) - 1) from pk_sub (b := 1) (by omega)]
  refine pc_V1 dX11_packPrefix_19 lX11_123 rfl rfl (by decide) (Nat.le_of_ble_eq_true rfl) ?_
  have e0 : HS (umd F (m + L.length) t) A3 rf lo X = MT F A3 m f0 L t rf lo X := by
    unfold MT
    rw [stA_self hA3t.symm]
  rw [e0]
  refine mt_put (by omega) ?_
  refine pw_iconst 0 (by decide) dX11_packPrefix_22 ?_
  refine ps_istore_n (l' := [_, _, _, _]) dX11_packPrefix_23 (by decide) rfl rfl ?_
  generalize hL1 : L ++ [nI (lk (cnt (A 63) n) - 1)] = L1
  have hL1l : L1.length = L.length + 1 := by rw [← hL1, List.length_append]; rfl
  have e1 : MT F A3 m f0 L1 8 rf lo X = MT F A3 m f0 (L1 ++ ptb (cnt (A 63) n) (hl (cnt (A 63) n)) 0) 8 rf lo X := by
    show _ = MT F A3 m f0 (L1 ++ []) 8 rf lo X
    rw [List.append_nil]
  rw [e1]
  refine mp_tab h66' (fun b hb => Nat.le_trans (cnt_le _ _ _) hn9) h67' 256 0 8 (by omega) (by omega) (fun _ => rfl) ?_
  intro t2 ht2
  rw [ht2 (by omega)]
  refine pw_iconst 0 (by decide) dX11_packPrefix_61 ?_
  refine ps_istore_n (l' := [_, _, _, _]) dX11_packPrefix_62 (by decide) rfl rfl ?_
  generalize hL2 : L1 ++ ptb (cnt (A 63) n) (hl (cnt (A 63) n)) 256 = L2
  have hL2l : L2.length = L.length + 1 + 2 * lk (cnt (A 63) n) := by rw [← hL2, List.length_append, ptb_len, hL1l, hkn]
  have hs0 : bok (L2, 0, 0) := ⟨by show 0 < 8; decide, by show 0 < 2 ^ 0; decide⟩
  refine mp_codes (A := A3) (s := (L2, 0, 0)) hn9 (by rw [hA3c]; exact hB) h11 h67' h68' (by rw [hA3c]; exact hpos) hs0 (by show 8 * (m + L2.length) + 0 + n * 11 ≤ 8 * 1400; omega) n 0 (by omega) ?_
  rw [hA3c]
  refine pw_vret dX11_packPrefix_100 rfl ?_
  have hq := hQ (stA A3 65 (A 65)) (tk (cods (A 63) (cod (hl (cnt (A 63) n))) (hl (cnt (A 63) n)) (L2, 0, 0) n)) (fun i k1 => by
    by_cases k2 : i = 65
    · rw [k2, stA_s]
    · rw [stA_n k2, hA3b i (by omega)])
  unfold MT ppre at hq
  rw [stA_stA, hul] at hq
  rw [show L ++ (nI (lk (cnt (A 63) n) - 1) :: ptb (cnt (A 63) n) (hl (cnt (A 63) n)) 256) = L2 by rw [← hL2, ← hL1, List.append_assoc, List.singleton_append]] at hq
  exact hq
end
