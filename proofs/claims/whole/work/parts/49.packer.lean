/-! call: packer -/
def hasP (PK : Nat → Nat) (kd : Nat) : Nat → Bool
  | 0 => false
  | i + 1 => hasP PK kd i || PK i == kd
theorem hasP_iff (PK : Nat → Nat) (kd : Nat) : ∀ P, hasP PK kd P = true ↔ ∃ i, i < P ∧ PK i = kd
  | 0 => ⟨fun h => Bool.noConfusion (show false = true from h), fun ⟨i, h, _⟩ => absurd h (by omega)⟩
  | P + 1 => by
    have ih := hasP_iff PK kd P
    show (hasP PK kd P || PK P == kd) = true ↔ _
    rw [Bool.or_eq_true, ih, beq_iff_eq]
    constructor
    · rintro (⟨i, h1, h2⟩ | h)
      · exact ⟨i, by omega, h2⟩
      · exact ⟨P, by omega, h⟩
    · rintro ⟨i, h1, h2⟩
      by_cases h3 : i = P
      · exact Or.inr (by rw [← h3]; exact h2)
      · exact Or.inl ⟨i, by omega, h2⟩
/-- with all five told every kind is there -/
theorem five {PK : Nat → Nat} {P kd : Nat} (h0 : PK 0 = 0) (hP : P < 6) (hl : ∀ i, i < P → PK i < 5) (hd : ∀ i j, i < j → j < P → ¬ PK i = PK j) (h1 : 1 ≤ kd) (h4 : kd ≤ 4) (hn : ¬ ∃ i, i < P ∧ PK i = kd) : P < 5 := by
  rcases Nat.lt_or_ge P 5 with h | h
  · exact h
  · exfalso
    have e : P = 5 := by omega
    subst e
    have n1 : ¬ PK 1 = kd := fun h => hn ⟨1, by omega, h⟩
    have n2 : ¬ PK 2 = kd := fun h => hn ⟨2, by omega, h⟩
    have n3 : ¬ PK 3 = kd := fun h => hn ⟨3, by omega, h⟩
    have n4 : ¬ PK 4 = kd := fun h => hn ⟨4, by omega, h⟩
    have l1 := hl 1 (by omega)
    have l2 := hl 2 (by omega)
    have l3 := hl 3 (by omega)
    have l4 := hl 4 (by omega)
    have d1 := hd 0 1 (by omega) (by omega)
    have d2 := hd 0 2 (by omega) (by omega)
    have d3 := hd 0 3 (by omega) (by omega)
    have d4 := hd 0 4 (by omega) (by omega)
    have e12 := hd 1 2 (by omega) (by omega)
    have e13 := hd 1 3 (by omega) (by omega)
    have e14 := hd 1 4 (by omega) (by omega)
    have e23 := hd 2 3 (by omega) (by omega)
    have e24 := hd 2 4 (by omega) (by omega)
    have e34 := hd 3 4 (by omega) (by omega)
    rw [h0] at d1 d2 d3 d4
    omega
section
variable {Γ : Nat × (Nat → Int32)} {k P : Nat} {K V PK : Nat → Nat}
theorem hp_loop {F A : Nat → Nat → Int32} {rf : Nat} {lo : Int64} {X : PH} {Q : Option Value → PH → Prop} {kd : Nat} (hC : CH F A k P K V PK) (hkd : kd < 5) (h : hasP PK kd P = false → Q (some (.int 0)) (HS F A rf lo X)) (h' : hasP PK kd P = true → Q (some (.int 1)) (HS F A rf lo X)) : ∀ (j i : Nat), i + j = P → (∀ y, y < i → ¬ PK y = kd) → PW Γ mX1_hasPacker 2 [.ref 11, .int (nI kd), .int (nI i)] [] (HS F A rf lo X) 0 0 Q := by
  obtain ⟨p1, p2, p3, p4, p5, p6, p7, p8⟩ := id hC
  intro j
  induction j with
  | zero =>
    intro i hi hn
    have hi2 : i = P := by omega
    subst hi2
    refine pw_iload_n rfl dX1_hasPacker_2 ?_
    refine pw_aload_n rfl dX1_hasPacker_3 ?_
    refine pw_gI dX1_hasPacker_4 fX1_25 (by first | rfl | assumption) rfl ?_
    rw [p3]
    refine pw_icmp_ge 28 dX1_hasPacker_7 (by decide) (fun _ => ?_) (fun q => absurd (nI_le (Nat.le_refl _) (by omega)) q)
    refine pw_iconst 0 (by decide) dX1_hasPacker_28 ?_
    refine pw_iret dX1_hasPacker_29 (Or.inr ⟨rfl, rfl⟩) ?_
    refine h ?_
    apply Bool.eq_false_iff.mpr
    intro h9
    obtain ⟨y, h1, h2⟩ := (hasP_iff PK kd i).mp h9
    exact hn y h1 h2
  | succ j ih =>
    intro i hi hn
    have hp := p7 i (by omega)
    refine pw_iload_n rfl dX1_hasPacker_2 ?_
    refine pw_aload_n rfl dX1_hasPacker_3 ?_
    refine pw_gI dX1_hasPacker_4 fX1_25 (by first | rfl | assumption) rfl ?_
    rw [p3]
    refine pw_icmp_ge 28 dX1_hasPacker_7 (by decide) (fun q => absurd q (nI_ge (by omega) (by omega))) (fun _ => ?_)
    refine pw_aload_n rfl dX1_hasPacker_10 ?_
    refine pw_gC dX1_hasPacker_11 fX1_22 (by first | rfl | assumption) rfl (by first | rfl | assumption) ?_
    refine pw_iload_n rfl dX1_hasPacker_14 ?_
    refine pw_aI dX1_hasPacker_15 (by first | rfl | assumption) (by first | assumption | exact vp_in_nI (by omega) (by omega)) ?_
    rw [nI_clamp (by omega), hp.1]
    by_cases he : PK i = kd
    · refine pw_iload_n rfl dX1_hasPacker_16 ?_
      refine pw_icmp_ne 22 dX1_hasPacker_17 (by decide) (fun q => absurd (by rw [he]) q) (fun _ => ?_)
      refine pw_iconst 1 (by decide) dX1_hasPacker_20 ?_
      refine pw_iret dX1_hasPacker_21 (Or.inr ⟨rfl, rfl⟩) ?_
      exact h' ((hasP_iff PK kd P).mpr ⟨i, by omega, he⟩)
    · refine pw_iload_n rfl dX1_hasPacker_16 ?_
      refine pw_icmp_ne 22 dX1_hasPacker_17 (by decide) (fun _ => ?_) (fun q => absurd q ((fun h9 => he (nI_inj (by omega) (by omega) h9))))
      refine ps_iinc (l' := [_, _, _]) 1 dX1_hasPacker_22 (by decide) rfl (by decide) rfl rfl ?_
      refine pw_goto 2 dX1_hasPacker_25 (by decide) ?_
      rw [nI_1]
      refine ih (i + 1) (by omega) (fun y hy => ?_)
      by_cases hy2 : y = i
      · rw [hy2]; exact he
      · exact hn y (by omega)
theorem mp_loop9 {F A : Nat → Nat → Int32} {rf : Nat} {lo : Int64} {X : PH} {Q : Option Value → PH → Prop} {kd : Nat} (hC : CM F A k P K V PK) (hkd : kd < 5) (hkd0 : 0 < kd) (h : hasP PK kd P = false → PW Γ mX11_packer 45 [.ref 57, .int (nI kd), .int (nI (P - 1))] [] (HS F A rf lo X) 0 0 Q) (h' : hasP PK kd P = true → Q (some (.int (-3))) (HS F A rf lo X)) : ∀ (j i : Nat), i + j + 1 = P → (∀ y, y < i → ¬ PK (y + 1) = kd) → PW Γ mX11_packer 18 [.ref 57, .int (nI kd), .int (nI i)] [] (HS F A rf lo X) 0 0 Q := by
  obtain ⟨p1, p2, p3, p4, p5, p6, p7, p8, p9⟩ := id hC
  intro j
  induction j with
  | zero =>
    intro i hi hn
    have hi2 : i = P - 1 := by omega
    subst hi2
    refine pw_iload_n rfl dX11_packer_18 ?_
    refine pw_aload_n rfl dX11_packer_19 ?_
    refine pw_gI dX11_packer_20 fX11_90 (by first | rfl | assumption) rfl ?_
    rw [p3]
    refine pw_icmp_ge 45 dX11_packer_23 (by decide) (fun _ => ?_) (fun q => absurd (nI_le (Nat.le_refl _) (by omega)) q)
    refine h ?_
    apply Bool.eq_false_iff.mpr
    intro h9
    obtain ⟨y, h1, h2⟩ := (hasP_iff PK kd P).mp h9
    by_cases hy : y = 0
    · rw [hy, p9] at h2; omega
    · exact hn (y - 1) (by omega) (by rw [show y - 1 + 1 = y by omega]; exact h2)
  | succ j ih =>
    intro i hi hn
    have hp := p7 i (by omega)
    have hp8 := p8 (i + 1) (by omega)
    refine pw_iload_n rfl dX11_packer_18 ?_
    refine pw_aload_n rfl dX11_packer_19 ?_
    refine pw_gI dX11_packer_20 fX11_90 (by first | rfl | assumption) rfl ?_
    rw [p3]
    refine pw_icmp_ge 45 dX11_packer_23 (by decide) (fun q => absurd q (nI_ge (by omega) (by omega))) (fun _ => ?_)
    refine pw_aload_n rfl dX11_packer_26 ?_
    refine pw_gC dX11_packer_27 fX11_22 (by first | rfl | assumption) rfl (by first | rfl | assumption) ?_
    refine pw_iload_n rfl dX11_packer_30 ?_
    refine pw_aI dX11_packer_31 (by first | rfl | assumption) (by first | assumption | exact vp_in_nI (by omega) (by omega)) ?_
    rw [nI_clamp (by omega), hp]
    by_cases he : PK (i + 1) = kd
    · refine pw_iload_n rfl dX11_packer_32 ?_
      refine pw_icmp_ne 39 dX11_packer_33 (by decide) (fun q => absurd (by rw [he]) q) (fun _ => ?_)
      refine pw_bipush (-3) (by decide) dX11_packer_36 ?_
      refine pw_iret dX11_packer_38 (Or.inl rfl) ?_
      exact h' ((hasP_iff PK kd P).mpr ⟨i + 1, by omega, he⟩)
    · refine pw_iload_n rfl dX11_packer_32 ?_
      refine pw_icmp_ne 39 dX11_packer_33 (by decide) (fun _ => ?_) (fun q => absurd q ((fun h9 => he (nI_inj (by omega) (by omega) h9))))
      refine ps_iinc (l' := [_, _, _]) 1 dX11_packer_39 (by decide) rfl (by decide) rfl rfl ?_
      refine pw_goto 18 dX11_packer_42 (by decide) ?_
      rw [nI_1]
      refine ih (i + 1) (by omega) (fun y hy => ?_)
      by_cases hy2 : y = i
      · rw [hy2]; exact he
      · exact hn y (by omega)
theorem o_packer (kind : Int32) : OP Γ mX10_packer mX11_packer [.ref 0, .int kind] [.ref 57, .int kind] := by
  refine OP_of (fun s => if 1 ≤ kind ∧ kind ≤ 4 then (if hasP s.2.2.1.2.2.2.2 kind.toNatClampNeg s.2.2.1.2.1 = true then s else (s.1, s.2.1, (s.2.2.1.1, s.2.2.1.2.1 + 1, s.2.2.1.2.2.1, s.2.2.1.2.2.2.1, updN s.2.2.1.2.2.2.2 s.2.2.1.2.1 kind.toNatClampNeg), (false, s.2.2.2.1.2), (fun _ => -3), s.2.2.2.2.2)) else s) (fun s => if 1 ≤ kind ∧ kind ≤ 4 then (if hasP s.2.2.1.2.2.2.2 kind.toNatClampNeg s.2.2.1.2.1 = true then -3 else nI s.2.2.1.2.1) else -1) ?_ ?_ ?_
  · intro F A rf lo X Q s hO hI hQ
    obtain ⟨_, _, c, _⟩ := id hI
    obtain ⟨p1, p2, p3, p4, p5, p6, p7, p8⟩ := id c
    obtain ⟨o1, o2, o3, o4, o5⟩ := id hO
    refine PM.go (l := [_, _]) rfl rfl (Nat.le_of_ble_eq_true rfl) rfl ?_
    refine pw_iload_n rfl dX10_packer_0 ?_
    refine pw_iconst 1 (by decide) dX10_packer_1 ?_
    by_cases hk : 1 ≤ kind ∧ kind ≤ 4
    · rw [if_pos hk, if_pos hk] at hQ
      obtain ⟨kd, k1, k2, rfl⟩ := i32_le (a := 1) (b := 4) hk (by omega) (by omega)
      rw [nI_clamp (by omega)] at hQ
      refine pw_icmp_lt 10 dX10_packer_2 (by decide) (fun q => absurd q (Int32.not_lt.mpr hk.1)) (fun _ => ?_)
      refine pw_iload_n rfl dX10_packer_5 ?_
      refine pw_iconst 4 (by decide) dX10_packer_6 ?_
      refine pw_icmp_le 12 dX10_packer_7 (by decide) (fun _ => ?_) (fun q => absurd (hk.2) q)
      refine pw_aload_n rfl dX10_packer_12 ?_
      refine pw_gC dX10_packer_13 fX10_33 (by first | rfl | assumption) rfl (by first | rfl | assumption) ?_
      refine pw_iload_n rfl dX10_packer_16 ?_
      refine pc_V1 dX10_packer_17 lX10_130 rfl rfl (by decide) (Nat.le_of_ble_eq_true rfl) ?_
      refine PM.go (l := [_, _, .float 0]) rfl rfl (Nat.le_of_ble_eq_true rfl) rfl ?_
      refine pw_iconst 0 (by decide) dX1_hasPacker_0 ?_
      refine ps_istore_n (l' := [_, _, _]) dX1_hasPacker_1 (by decide) rfl rfl ?_
      refine hp_loop c (by omega) (fun hno => ?_) (fun hyes => ?_) s.2.2.1.2.1 0 (by omega) (fun y hy => by omega)
      · rw [hno, if_neg (by decide), if_neg (by decide)] at hQ
        have h5 := five p8 p5 (fun i hi => (p7 i hi).2) o5 k1 k2 (fun h9 => by rw [(hasP_iff _ _ _).mpr h9] at hno; exact absurd hno (by decide))
        refine pw_if_eq 26 dX10_packer_20 (by decide) (fun _ => ?_) (fun q => absurd (rfl) q)
        refine pw_aload_n rfl dX10_packer_26 ?_
        refine pw_gC dX10_packer_27 fX10_33 (by first | rfl | assumption) rfl (by first | rfl | assumption) ?_
        refine pw_iload_n rfl dX10_packer_30 ?_
        refine pc_V1 dX10_packer_31 lX10_133 rfl rfl (by decide) (Nat.le_of_ble_eq_true rfl) ?_
        refine PM.go (l := [_, _]) rfl rfl (Nat.le_of_ble_eq_true rfl) rfl ?_
        refine pw_aload_n rfl dX1_tellPacker_0 ?_
        refine pw_gI dX1_tellPacker_1 fX1_25 (by first | rfl | assumption) rfl ?_
        rw [p3]
        refine pw_aload_n rfl dX1_tellPacker_4 ?_
        refine pw_gC dX1_tellPacker_5 fX1_22 (by first | rfl | assumption) rfl (by first | rfl | assumption) ?_
        refine pw_lI (nI _) dX1_tellPacker_8 (by first | rfl | assumption) rfl ?_
        refine pw_icmp_ge 32 dX1_tellPacker_9 (by decide) (fun q => absurd q (nI_ge (b := 5) h5 (by omega))) (fun _ => ?_)
        refine pw_aload_n rfl dX1_tellPacker_12 ?_
        refine pw_gC dX1_tellPacker_13 fX1_22 (by first | rfl | assumption) rfl (by first | rfl | assumption) ?_
        refine pw_aload_n rfl dX1_tellPacker_16 ?_
        refine pw_gI dX1_tellPacker_17 fX1_25 (by first | rfl | assumption) rfl ?_
        rw [p3]
        refine pw_iload_n rfl dX1_tellPacker_20 ?_
        refine pw_sI dX1_tellPacker_21 (by first | rfl | assumption) (by first | assumption | exact vp_in_nI (by omega) (by omega)) ?_
        refine pw_aload_n rfl dX1_tellPacker_22 ?_
        refine pw_dup rfl dX1_tellPacker_23 ?_
        refine pw_gI dX1_tellPacker_24 fX1_25 (by first | rfl | assumption) rfl ?_
        rw [p3]
        refine pw_iconst 1 (by decide) dX1_tellPacker_27 ?_
        refine pw_iadd dX1_tellPacker_28 ?_
        refine pw_pI dX1_tellPacker_29 fX1_25 (by first | rfl | assumption) rfl ⟨rfl, rfl⟩ ?_
        refine pw_vret dX1_tellPacker_32 rfl ?_
        rw [nI_1, nI_clamp (by omega)]
        refine pw_aload_n rfl dX10_packer_34 ?_
        refine pc_V0 dX10_packer_35 lX10_127 rfl (by first | rfl | assumption) (by decide) (Nat.le_of_ble_eq_true rfl) ?_
        refine c_drop ?_
        refine pw_aload_n rfl dX10_packer_38 ?_
        refine pw_gC dX10_packer_39 fX10_33 (by first | rfl | assumption) rfl (by first | rfl | assumption) ?_
        refine pc_V0 dX10_packer_42 lX10_136 rfl rfl (by decide) (Nat.le_of_ble_eq_true rfl) ?_
        refine PM.go (l := [_]) rfl rfl (Nat.le_of_ble_eq_true rfl) rfl ?_
        refine pw_aload_n rfl dX1_packerCount_0 ?_
        refine pw_gI dX1_packerCount_1 fX1_25 (by first | rfl | assumption) rfl ?_
        refine pw_iret dX1_packerCount_4 (Or.inl rfl) ?_
        rw [upF_n (by omega), upF_s]
        refine pw_iconst 1 (by decide) dX10_packer_45 ?_
        refine pw_isub dX10_packer_46 ?_
        rw [show nI (s.2.2.1.2.1 + 1) - 1 = nI s.2.2.1.2.1 from pk_sub (a := s.2.2.1.2.1 + 1) (b := 1) (by omega)]
        refine pw_iret dX10_packer_47 (Or.inl rfl) ?_
        refine hQ _ _ _ ⟨fun i j h => by rw [upF_n (by omega), upF_n (by omega)], fun i h => by rw [stA_n (by omega), stA_n (by omega)]⟩ (CI_C hI (fun i j _ h1 h2 => by rw [upF_n (by omega), upF_n (by omega)]) (by rw [upF_n (by omega), upF_n (by omega)]) (fun i _ h1 h2 h3 h => by rw [stA_n h, stA_n h3]) ⟨?_, p2, ?_, by show 0 < s.2.2.1.2.1 + 1; omega, by show s.2.2.1.2.1 + 1 < 6; omega, fun i hi => ?_, fun i hi => ?_, ?_⟩ upF_s (fun j hj => by rw [stA_s, cpn_lt hj]))
        · rw [upF_n (by omega), upF_n (by omega)]; exact p1
        · rw [upF_n (by omega), upF_s]
        · rw [stA_n (by decide), stA_n (by decide), stA_n (by decide), stA_n (by decide)]
          exact p6 i hi
        · have hi2 : i < s.2.2.1.2.1 + 1 := hi
          rw [stA_n (by decide), stA_s]
          dsimp only
          by_cases h9 : i = s.2.2.1.2.1
          · rw [h9, upd_s, updN_s]
            exact ⟨rfl, by omega⟩
          · rw [upd_n h9, updN_n h9]
            exact p7 i (by omega)
        · show updN s.2.2.1.2.2.2.2 s.2.2.1.2.1 kd 0 = 0
          rw [updN_n (by omega)]
          exact p8
      · rw [hyes, if_pos rfl, if_pos rfl] at hQ
        refine pw_if_eq 26 dX10_packer_20 (by decide) (fun q => absurd q (by decide)) (fun _ => ?_)
        refine pw_bipush (-3) (by decide) dX10_packer_23 ?_
        refine pw_iret dX10_packer_25 (Or.inl rfl) ?_
        exact hQ _ _ _ frC_r hI
    · rw [if_neg hk, if_neg hk] at hQ
      refine pw_icmp_lt 10 dX10_packer_2 (by decide) (fun q2 => ?_) (fun q2 => ?_)
      · refine pw_iconst (-1) (by decide) dX10_packer_10 ?_
        refine pw_iret dX10_packer_11 (Or.inl rfl) ?_
        exact hQ _ _ _ frC_r hI
      · refine pw_iload_n rfl dX10_packer_5 ?_
        refine pw_iconst 4 (by decide) dX10_packer_6 ?_
        refine pw_icmp_le 12 dX10_packer_7 (by decide) (fun q => absurd q ((fun h9 => hk ⟨Int32.not_lt.mp q2, h9⟩))) (fun _ => ?_)
        refine pw_iconst (-1) (by decide) dX10_packer_10 ?_
        refine pw_iret dX10_packer_11 (Or.inl rfl) ?_
        exact hQ _ _ _ frC_r hI
  · intro F A rf lo X Q s hO hI hQ
    obtain ⟨_, _, c, _⟩ := id hI
    obtain ⟨p1, p2, p3, p4, p5, p6, p7, p8, p9⟩ := id c
    obtain ⟨o1, o2, o3, o4, o5⟩ := id hO
    refine PM.go (l := [_, _, .float 0]) rfl rfl (Nat.le_of_ble_eq_true rfl) rfl ?_
    refine pw_aload_n rfl dX11_packer_0 ?_
    refine pw_iconst 0 (by decide) dX11_packer_1 ?_
    refine pw_pI dX11_packer_2 fX11_65 (by first | rfl | assumption) rfl ⟨rfl, rfl⟩ ?_
    refine pw_iload_n rfl dX11_packer_5 ?_
    refine pw_iconst 1 (by decide) dX11_packer_6 ?_
    refine pw_iconst 4 (by decide) dX11_packer_7 ?_
    refine pc_S3 dX11_packer_8 lX11_75 (by decide) (Nat.le_of_ble_eq_true rfl) ?_
    refine m_in ?_
    by_cases hk : 1 ≤ kind ∧ kind ≤ 4
    · rw [if_pos hk, if_pos hk] at hQ
      rw [if_pos hk]
      obtain ⟨kd, k1, k2, rfl⟩ := i32_le (a := 1) (b := 4) hk (by omega) (by omega)
      rw [nI_clamp (by omega)] at hQ
      refine pw_if_ne 16 dX11_packer_11 (by decide) (fun _ => ?_) (fun q => absurd q (by decide))
      refine pw_iconst 0 (by decide) dX11_packer_16 ?_
      refine ps_istore_n (l' := [_, _, _]) dX11_packer_17 (by decide) rfl rfl ?_
      have c0 : CM (upF F 57 0 0) A s.2.2.1.1 s.2.2.1.2.1 s.2.2.1.2.2.1 s.2.2.1.2.2.2.1 s.2.2.1.2.2.2.2 := CM_fr (upF_n (by omega)) (upF_n (by omega)) rfl rfl rfl c
      refine mp_loop9 c0 (by omega) (by omega) (fun hno => ?_) (fun hyes => ?_) (s.2.2.1.2.1 - 1) 0 (by omega) (fun y hy => by omega)
      · rw [hno, if_neg (by decide), if_neg (by decide)] at hQ
        have h5 := five p9 p5 p8 o5 k1 k2 (fun h9 => by rw [(hasP_iff _ _ _).mpr h9] at hno; exact absurd hno (by decide))
        refine pw_aload_n rfl dX11_packer_45 ?_
        refine pw_gC dX11_packer_46 fX11_22 (by first | rfl | assumption) rfl (by first | rfl | assumption) ?_
        refine pw_aload_n rfl dX11_packer_49 ?_
        refine pw_gI dX11_packer_50 fX11_90 (by first | rfl | assumption) rfl ?_
        rw [upF_n (by omega), p3]
        refine pw_iload_n rfl dX11_packer_53 ?_
        refine pw_sI dX11_packer_54 (by first | rfl | assumption) (by first | assumption | exact vp_in_nI (by omega) (by omega)) ?_
        refine pw_aload_n rfl dX11_packer_55 ?_
        refine pw_dup rfl dX11_packer_56 ?_
        refine pw_gI dX11_packer_57 fX11_90 (by first | rfl | assumption) rfl ?_
        rw [upF_n (by omega), p3]
        refine pw_iconst 1 (by decide) dX11_packer_60 ?_
        refine pw_iadd dX11_packer_61 ?_
        refine pw_pI dX11_packer_62 fX11_90 (by first | rfl | assumption) rfl ⟨rfl, rfl⟩ ?_
        refine pw_aload_n rfl dX11_packer_65 ?_
        rw [nI_1, nI_clamp (by omega), show s.2.2.1.2.1 - 1 + 1 = s.2.2.1.2.1 by omega]
        refine pc_V0 dX11_packer_66 lX11_62 rfl rfl (by decide) (Nat.le_of_ble_eq_true rfl) ?_
        refine m_lose ?_
        intro g hg
        refine pw_aload_n rfl dX11_packer_69 ?_
        refine pw_gI dX11_packer_70 fX11_90 (by first | rfl | assumption) rfl ?_
        rw [upF_n (by omega), upF_s]
        refine pw_iret dX11_packer_73 (Or.inl rfl) ?_
        refine hQ _ _ ⟨fun i j h => by rw [upF_n (by omega), upF_n (by omega), upF_n (by omega)], fun i h => by rw [stA_n (by omega), stA_n (by omega)]⟩ (MI_C hI (fun j hj h1 h2 h3 => by rw [upF_n (by omega), upF_n (by omega), upF_n (by omega)]) (fun i _ h1 h2 h3 h => by rw [stA_n h, stA_n h3]) ⟨?_, p2, ?_, by show 0 < s.2.2.1.2.1 + 1; omega, by show s.2.2.1.2.1 + 1 < 6; omega, fun i hi => ?_, fun i hi => ?_, fun i hi => ?_, ?_⟩ upF_s (fun j hj => by rw [stA_s]; exact hg j hj))
        · rw [upF_n (by omega), upF_n (by omega), upF_n (by omega)]; exact p1
        · rw [upF_n (by omega), upF_s]; rfl
        · rw [stA_n (by decide), stA_n (by decide), stA_n (by decide), stA_n (by decide)]
          exact p6 i hi
        · have hi2 : i + 1 < s.2.2.1.2.1 + 1 := hi
          rw [stA_n (by decide), stA_s]
          dsimp only
          by_cases h9 : i = s.2.2.1.2.1 - 1
          · rw [h9, upd_s, show s.2.2.1.2.1 - 1 + 1 = s.2.2.1.2.1 by omega, updN_s]
          · rw [upd_n h9, updN_n (by omega)]
            exact p7 i (by omega)
        · have hi2 : i < s.2.2.1.2.1 + 1 := hi
          show updN s.2.2.1.2.2.2.2 s.2.2.1.2.1 kd i < 5
          by_cases h9 : i = s.2.2.1.2.1
          · rw [h9, updN_s]; omega
          · rw [updN_n h9]; exact p8 i (by omega)
        · show updN s.2.2.1.2.2.2.2 s.2.2.1.2.1 kd 0 = 0
          rw [updN_n (by omega)]
          exact p9
      · rw [hyes, if_pos rfl, if_pos rfl] at hQ
        exact hQ _ _ frM_0 (MI_0 hI)
    · rw [if_neg hk, if_neg hk] at hQ
      rw [if_neg hk]
      refine pw_if_ne 16 dX11_packer_11 (by decide) (fun q => absurd (rfl) q) (fun _ => ?_)
      refine pw_iconst (-1) (by decide) dX11_packer_14 ?_
      refine pw_iret dX11_packer_15 (Or.inl rfl) ?_
      exact hQ _ _ frM_0 (MI_0 hI)
  · intro s F A hO hI
    obtain ⟨o1, o2, o3, o4, o5⟩ := id hO
    by_cases hk : 1 ≤ kind ∧ kind ≤ 4
    · rw [if_pos hk]
      obtain ⟨kd, k1, k2, rfl⟩ := i32_le (a := 1) (b := 4) hk (by omega) (by omega)
      rw [nI_clamp (by omega)]
      by_cases h : hasP s.2.2.1.2.2.2.2 kd s.2.2.1.2.1 = true
      · rw [if_pos h]; exact hO
      · rw [if_neg h]
        refine ⟨o1, o2, o3, o4, fun i j h1 h2 => ?_⟩
        have h2' : j < s.2.2.1.2.1 + 1 := h2
        show ¬ updN s.2.2.1.2.2.2.2 s.2.2.1.2.1 kd i = updN s.2.2.1.2.2.2.2 s.2.2.1.2.1 kd j
        rw [updN_n (show ¬ i = s.2.2.1.2.1 by omega)]
        by_cases h9 : j = s.2.2.1.2.1
        · rw [h9, updN_s]
          exact fun h8 => h ((hasP_iff _ _ _).mpr ⟨i, by omega, h8⟩)
        · rw [updN_n h9]; exact o5 i j h1 (by omega)
    · rw [if_neg hk]; exact hO
end
