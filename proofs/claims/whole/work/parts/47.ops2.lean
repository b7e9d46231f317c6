/-! calls: size, octet, cut, alter, place, told, learned, chains -/
section
variable {Γ : Nat × (Nat → Int32)}
theorem c_rowOf0 {F A : Nat → Nat → Int32} {rf : Nat} {lo : Int64} {X : PH} {Q : Option Value → PH → Prop} (hQ : Q (some (.ref 1)) (HS F A rf lo X)) : PM Γ mX10_rowOf [.ref 0, .int 0] (HS F A rf lo X) 0 0 Q := by
  refine PM.go (l := [_, _]) rfl rfl (Nat.le_of_ble_eq_true rfl) rfl ?_
  refine pw_iload_n rfl dX10_rowOf_0 ?_
  refine pw_if_ne 11 dX10_rowOf_1 (by decide) (fun q => absurd (rfl) q) (fun _ => ?_)
  refine pw_aload_n rfl dX10_rowOf_4 ?_
  refine pw_gC dX10_rowOf_5 fX10_14 (by first | rfl | assumption) rfl (by first | rfl | assumption) ?_
  refine pw_goto 15 dX10_rowOf_8 (by decide) ?_
  refine pw_aret dX10_rowOf_15 rfl ?_
  exact hQ
theorem c_rowOf1 {F A : Nat → Nat → Int32} {rf : Nat} {lo : Int64} {X : PH} {Q : Option Value → PH → Prop} (hQ : Q (some (.ref 3)) (HS F A rf lo X)) : PM Γ mX10_rowOf [.ref 0, .int 1] (HS F A rf lo X) 0 0 Q := by
  refine PM.go (l := [_, _]) rfl rfl (Nat.le_of_ble_eq_true rfl) rfl ?_
  refine pw_iload_n rfl dX10_rowOf_0 ?_
  refine pw_if_ne 11 dX10_rowOf_1 (by decide) (fun _ => ?_) (fun q => absurd q (by decide))
  refine pw_aload_n rfl dX10_rowOf_11 ?_
  refine pw_gC dX10_rowOf_12 fX10_18 (by first | rfl | assumption) rfl (by first | rfl | assumption) ?_
  refine pw_aret dX10_rowOf_15 rfl ?_
  exact hQ
theorem o_size (w : Int32) : OP Γ mX10_size mX11_size [.ref 0, .int w] [.ref 57, .int w] := by
  refine OP_of (fun s => s) (fun s => if w = 0 then nI s.1.1 else if w = 1 then nI s.2.1.1 else -1) ?_ ?_ (fun s F A hO _ => hO)
  · intro F A rf lo X Q s hO hI hQ
    obtain ⟨⟨a1, a2⟩, ⟨b1, b2⟩, _⟩ := id hI
    refine PM.go (l := [_, _]) rfl rfl (Nat.le_of_ble_eq_true rfl) rfl ?_
    by_cases h0 : w = 0
    · subst h0
      rw [if_pos rfl] at hQ
      refine pw_iload_n rfl dX10_size_0 ?_
      refine pw_if_eq 11 dX10_size_1 (by decide) (fun _ => ?_) (fun q => absurd (rfl) q)
      refine pw_aload_n rfl dX10_size_11 ?_
      refine pw_iload_n rfl dX10_size_12 ?_
      refine pc_V1 dX10_size_13 lX10_105 rfl rfl (by decide) (Nat.le_of_ble_eq_true rfl) ?_
      refine c_rowOf0 ?_
      refine pc_V0 dX10_size_16 lX10_86 rfl rfl (by decide) (Nat.le_of_ble_eq_true rfl) ?_
      refine c_count row1 ?_
      refine pw_iret dX10_size_19 (Or.inl rfl) ?_
      rw [a1]
      exact hQ _ _ _ frC_r hI
    · rw [if_neg h0] at hQ
      by_cases h1 : w = 1
      · subst h1
        rw [if_pos rfl] at hQ
        refine pw_iload_n rfl dX10_size_0 ?_
        refine pw_if_eq 11 dX10_size_1 (by decide) (fun q => absurd q (by decide)) (fun _ => ?_)
        refine pw_iload_n rfl dX10_size_4 ?_
        refine pw_iconst 1 (by decide) dX10_size_5 ?_
        refine pw_icmp_eq 11 dX10_size_6 (by decide) (fun _ => ?_) (fun q => absurd (rfl) q)
        refine pw_aload_n rfl dX10_size_11 ?_
        refine pw_iload_n rfl dX10_size_12 ?_
        refine pc_V1 dX10_size_13 lX10_105 rfl rfl (by decide) (Nat.le_of_ble_eq_true rfl) ?_
        refine c_rowOf1 ?_
        refine pc_V0 dX10_size_16 lX10_86 rfl rfl (by decide) (Nat.le_of_ble_eq_true rfl) ?_
        refine c_count row3 ?_
        refine pw_iret dX10_size_19 (Or.inl rfl) ?_
        rw [b1]
        exact hQ _ _ _ frC_r hI
      · rw [if_neg h1] at hQ
        refine pw_iload_n rfl dX10_size_0 ?_
        refine pw_if_eq 11 dX10_size_1 (by decide) (fun q => absurd q (h0)) (fun _ => ?_)
        refine pw_iload_n rfl dX10_size_4 ?_
        refine pw_iconst 1 (by decide) dX10_size_5 ?_
        refine pw_icmp_eq 11 dX10_size_6 (by decide) (fun q => absurd q (h1)) (fun _ => ?_)
        refine pw_iconst (-1) (by decide) dX10_size_9 ?_
        refine pw_iret dX10_size_10 (Or.inl rfl) ?_
        exact hQ _ _ _ frC_r hI
  · intro F A rf lo X Q s hO hI hQ
    obtain ⟨⟨a1, a2⟩, ⟨b1, b2⟩, _⟩ := id hI
    refine PM.go (l := [_, _]) rfl rfl (Nat.le_of_ble_eq_true rfl) rfl ?_
    by_cases h0 : w = 0
    · subst h0
      rw [if_pos rfl] at hQ
      refine pw_aload_n rfl dX11_size_0 ?_
      refine pw_iconst 0 (by decide) dX11_size_1 ?_
      refine pw_pI dX11_size_2 fX11_65 (by first | rfl | assumption) rfl ⟨rfl, rfl⟩ ?_
      refine pw_iload_n rfl dX11_size_5 ?_
      refine pw_if_ne 16 dX11_size_6 (by decide) (fun q => absurd (rfl) q) (fun _ => ?_)
      refine pw_aload_n rfl dX11_size_9 ?_
      refine pw_gI dX11_size_10 fX11_72 (by first | rfl | assumption) rfl ?_
      refine pw_goto 29 dX11_size_13 (by decide) ?_
      refine pw_iret dX11_size_29 (Or.inl rfl) ?_
      rw [upF_n (by omega), a1]
      exact hQ _ _ frM_0 (MI_0 hI)
    · rw [if_neg h0] at hQ
      by_cases h1 : w = 1
      · subst h1
        rw [if_pos rfl] at hQ
        refine pw_aload_n rfl dX11_size_0 ?_
        refine pw_iconst 0 (by decide) dX11_size_1 ?_
        refine pw_pI dX11_size_2 fX11_65 (by first | rfl | assumption) rfl ⟨rfl, rfl⟩ ?_
        refine pw_iload_n rfl dX11_size_5 ?_
        refine pw_if_ne 16 dX11_size_6 (by decide) (fun _ => ?_) (fun q => absurd q (by decide))
        refine pw_iload_n rfl dX11_size_16 ?_
        refine pw_iconst 1 (by decide) dX11_size_17 ?_
        refine pw_icmp_ne 28 dX11_size_18 (by decide) (fun q => absurd (rfl) q) (fun _ => ?_)
        refine pw_aload_n rfl dX11_size_21 ?_
        refine pw_gI dX11_size_22 fX11_80 (by first | rfl | assumption) rfl ?_
        refine pw_goto 29 dX11_size_25 (by decide) ?_
        refine pw_iret dX11_size_29 (Or.inl rfl) ?_
        rw [upF_n (by omega), b1]
        exact hQ _ _ frM_0 (MI_0 hI)
      · rw [if_neg h1] at hQ
        refine pw_aload_n rfl dX11_size_0 ?_
        refine pw_iconst 0 (by decide) dX11_size_1 ?_
        refine pw_pI dX11_size_2 fX11_65 (by first | rfl | assumption) rfl ⟨rfl, rfl⟩ ?_
        refine pw_iload_n rfl dX11_size_5 ?_
        refine pw_if_ne 16 dX11_size_6 (by decide) (fun _ => ?_) (fun q => absurd q (h0))
        refine pw_iload_n rfl dX11_size_16 ?_
        refine pw_iconst 1 (by decide) dX11_size_17 ?_
        refine pw_icmp_ne 28 dX11_size_18 (by decide) (fun _ => ?_) (fun q => absurd q (h1))
        refine pw_iconst (-1) (by decide) dX11_size_28 ?_
        refine pw_iret dX11_size_29 (Or.inl rfl) ?_
        exact hQ _ _ frM_0 (MI_0 hI)
/-- within the first n -/
theorem in_n {i : Int32} {n : Nat} (hn : n < 2 ^ 30) : (0 ≤ i ∧ i ≤ nI n - 1) ↔ (0 ≤ i ∧ i < nI n) := by
  by_cases h0 : n = 0
  · subst h0
    constructor
    · intro h
      exact absurd (Int32.le_trans h.1 h.2) (by decide)
    · intro h
      exact absurd h.1 (Int32.not_le.mpr h.2)
  · rw [show nI n - 1 = nI (n - 1) from pk_sub (b := 1) (by omega)]
    constructor
    · intro h
      obtain ⟨k, hk, rfl⟩ := i32_nn h.1
      refine ⟨h.1, ?_⟩
      rcases Nat.lt_or_ge k n with h3 | h3
      · exact nI_lt h3 (by omega)
      · exact absurd h.2 (nI_ge (by omega) hk)
    · intro h
      obtain ⟨k, hk, rfl⟩ := i32_r h.1 h.2 (by omega)
      exact ⟨h.1, nI_le (by omega) (by omega)⟩
def getN (f : Nat → Int32) (n : Nat) (i : Int32) : Int32 := if 0 ≤ i ∧ i < nI n then f i.toNatClampNeg else -1
theorem o_octet (w i : Int32) : OP Γ mX10_octet mX11_octet [.ref 0, .int w, .int i] [.ref 57, .int w, .int i] := by
  refine OP_of (fun s => s) (fun s => if w = 0 then getN s.1.2 s.1.1 i else if w = 1 then getN s.2.1.2 s.2.1.1 i else -1) ?_ ?_ (fun s F A hO _ => hO)
  · intro F A rf lo X Q s hO hI hQ
    obtain ⟨⟨a1, a2⟩, ⟨b1, b2⟩, _⟩ := id hI
    obtain ⟨o1, o2, o3, o4, o5⟩ := id hO
    refine PM.go (l := [_, _, _, .float 0]) rfl rfl (Nat.le_of_ble_eq_true rfl) rfl ?_
    by_cases h0 : w = 0
    · subst h0
      rw [if_pos rfl] at hQ
      refine pw_iload_n rfl dX10_octet_0 ?_
      refine pw_if_eq 11 dX10_octet_1 (by decide) (fun _ => ?_) (fun q => absurd (rfl) q)
      refine pw_aload_n rfl dX10_octet_11 ?_
      refine pw_iload_n rfl dX10_octet_12 ?_
      refine pc_V1 dX10_octet_13 lX10_105 rfl rfl (by decide) (Nat.le_of_ble_eq_true rfl) ?_
      refine c_rowOf0 ?_
      refine ps_astore_n (l' := [_, _, _, _]) dX10_octet_16 (by decide) rfl rfl ?_
      refine pw_aload_n rfl dX10_octet_17 ?_
      refine pw_iload_n rfl dX10_octet_18 ?_
      refine pc_V1 dX10_octet_19 lX10_109 rfl (by first | rfl | assumption) (by decide) (Nat.le_of_ble_eq_true rfl) ?_
      refine c_has row1 ?_
      rw [a1]
      unfold getN at hQ
      by_cases hi : 0 ≤ i ∧ i < nI s.1.1
      · rw [if_pos hi] at hQ
        rw [if_pos hi]
        obtain ⟨k, hk, rfl⟩ := i32_r hi.1 hi.2 (by omega)
        refine pw_if_eq 33 dX10_octet_22 (by decide) (fun q => absurd q (by decide)) (fun _ => ?_)
        refine pw_aload_n rfl dX10_octet_25 ?_
        refine pw_iload_n rfl dX10_octet_26 ?_
        refine pc_V1 dX10_octet_27 lX10_112 rfl (by first | rfl | assumption) (by decide) (Nat.le_of_ble_eq_true rfl) ?_
        refine c_get row1 a1 o1 rfl hk ?_
        refine pw_goto 34 dX10_octet_30 (by decide) ?_
        refine pw_iret dX10_octet_34 (Or.inl rfl) ?_
        rw [nI_clamp (by omega), ← a2 k hk] at hQ
        exact hQ _ _ _ frC_r hI
      · rw [if_neg hi] at hQ
        rw [if_neg hi]
        refine pw_if_eq 33 dX10_octet_22 (by decide) (fun _ => ?_) (fun q => absurd (rfl) q)
        refine pw_iconst (-1) (by decide) dX10_octet_33 ?_
        refine pw_iret dX10_octet_34 (Or.inl rfl) ?_
        exact hQ _ _ _ frC_r hI
    · rw [if_neg h0] at hQ
      by_cases h1 : w = 1
      · subst h1
        rw [if_pos rfl] at hQ
        refine pw_iload_n rfl dX10_octet_0 ?_
        refine pw_if_eq 11 dX10_octet_1 (by decide) (fun q => absurd q (by decide)) (fun _ => ?_)
        refine pw_iload_n rfl dX10_octet_4 ?_
        refine pw_iconst 1 (by decide) dX10_octet_5 ?_
        refine pw_icmp_eq 11 dX10_octet_6 (by decide) (fun _ => ?_) (fun q => absurd (rfl) q)
        refine pw_aload_n rfl dX10_octet_11 ?_
        refine pw_iload_n rfl dX10_octet_12 ?_
        refine pc_V1 dX10_octet_13 lX10_105 rfl rfl (by decide) (Nat.le_of_ble_eq_true rfl) ?_
        refine c_rowOf1 ?_
        refine ps_astore_n (l' := [_, _, _, _]) dX10_octet_16 (by decide) rfl rfl ?_
        refine pw_aload_n rfl dX10_octet_17 ?_
        refine pw_iload_n rfl dX10_octet_18 ?_
        refine pc_V1 dX10_octet_19 lX10_109 rfl (by first | rfl | assumption) (by decide) (Nat.le_of_ble_eq_true rfl) ?_
        refine c_has row3 ?_
        rw [b1]
        unfold getN at hQ
        by_cases hi : 0 ≤ i ∧ i < nI s.2.1.1
        · rw [if_pos hi] at hQ
          rw [if_pos hi]
          obtain ⟨k, hk, rfl⟩ := i32_r hi.1 hi.2 (by omega)
          refine pw_if_eq 33 dX10_octet_22 (by decide) (fun q => absurd q (by decide)) (fun _ => ?_)
          refine pw_aload_n rfl dX10_octet_25 ?_
          refine pw_iload_n rfl dX10_octet_26 ?_
          refine pc_V1 dX10_octet_27 lX10_112 rfl (by first | rfl | assumption) (by decide) (Nat.le_of_ble_eq_true rfl) ?_
          refine c_get row3 b1 o3 rfl hk ?_
          refine pw_goto 34 dX10_octet_30 (by decide) ?_
          refine pw_iret dX10_octet_34 (Or.inl rfl) ?_
          rw [nI_clamp (by omega), ← b2 k hk] at hQ
          exact hQ _ _ _ frC_r hI
        · rw [if_neg hi] at hQ
          rw [if_neg hi]
          refine pw_if_eq 33 dX10_octet_22 (by decide) (fun _ => ?_) (fun q => absurd (rfl) q)
          refine pw_iconst (-1) (by decide) dX10_octet_33 ?_
          refine pw_iret dX10_octet_34 (Or.inl rfl) ?_
          exact hQ _ _ _ frC_r hI
      · rw [if_neg h1] at hQ
        refine pw_iload_n rfl dX10_octet_0 ?_
        refine pw_if_eq 11 dX10_octet_1 (by decide) (fun q => absurd q (h0)) (fun _ => ?_)
        refine pw_iload_n rfl dX10_octet_4 ?_
        refine pw_iconst 1 (by decide) dX10_octet_5 ?_
        refine pw_icmp_eq 11 dX10_octet_6 (by decide) (fun q => absurd q (h1)) (fun _ => ?_)
        refine pw_iconst (-1) (by decide) dX10_octet_9 ?_
        refine pw_iret dX10_octet_10 (Or.inl rfl) ?_
        exact hQ _ _ _ frC_r hI
  · intro F A rf lo X Q s hO hI hQ
    obtain ⟨⟨a1, a2⟩, ⟨b1, b2⟩, _⟩ := id hI
    obtain ⟨o1, o2, o3, o4, o5⟩ := id hO
    refine PM.go (l := [_, _, _]) rfl rfl (Nat.le_of_ble_eq_true rfl) rfl ?_
    by_cases h0 : w = 0
    · subst h0
      rw [if_pos rfl] at hQ
      refine pw_aload_n rfl dX11_octet_0 ?_
      refine pw_iconst 0 (by decide) dX11_octet_1 ?_
      refine pw_pI dX11_octet_2 fX11_65 (by first | rfl | assumption) rfl ⟨rfl, rfl⟩ ?_
      refine pw_iload_n rfl dX11_octet_5 ?_
      refine pw_if_ne 30 dX11_octet_6 (by decide) (fun q => absurd (rfl) q) (fun _ => ?_)
      refine pw_iload_n rfl dX11_octet_9 ?_
      refine pw_iconst 0 (by decide) dX11_octet_10 ?_
      refine pw_aload_n rfl dX11_octet_11 ?_
      refine pw_gI dX11_octet_12 fX11_72 (by first | rfl | assumption) rfl ?_
      rw [upF_n (by omega), a1]
      refine pw_iconst 1 (by decide) dX11_octet_15 ?_
      refine pw_isub dX11_octet_16 ?_
      refine pc_S3 dX11_octet_17 lX11_75 (by decide) (Nat.le_of_ble_eq_true rfl) ?_
      refine m_in ?_
      unfold getN at hQ
      by_cases hi : 0 ≤ i ∧ i < nI s.1.1
      · rw [if_pos hi] at hQ
        rw [if_pos ((in_n (by omega)).mpr hi)]
        obtain ⟨k, hk, rfl⟩ := i32_r hi.1 hi.2 (by omega)
        refine pw_if_eq 30 dX11_octet_20 (by decide) (fun q => absurd q (by decide)) (fun _ => ?_)
        refine pw_aload_n rfl dX11_octet_23 ?_
        refine pw_gC dX11_octet_24 fX11_7 (by first | rfl | assumption) rfl (by first | rfl | assumption) ?_
        refine pw_iload_n rfl dX11_octet_27 ?_
        refine pw_aI dX11_octet_28 (by first | rfl | assumption) (by first | assumption | exact vp_in_nI (by omega) (by omega)) ?_
        refine pw_iret dX11_octet_29 (Or.inl rfl) ?_
        rw [nI_clamp (by omega), ← a2 k hk] at hQ
        rw [nI_clamp (by omega)]
        exact hQ _ _ frM_0 (MI_0 hI)
      · rw [if_neg hi] at hQ
        rw [if_neg (fun z => hi ((in_n (by omega)).mp z))]
        refine pw_if_eq 30 dX11_octet_20 (by decide) (fun _ => ?_) (fun q => absurd (rfl) q)
        refine pw_iload_n rfl dX11_octet_30 ?_
        refine pw_iconst 1 (by decide) dX11_octet_31 ?_
        refine pw_icmp_ne 58 dX11_octet_32 (by decide) (fun _ => ?_) (fun q => absurd q (by decide))
        refine pw_iconst (-1) (by decide) dX11_octet_58 ?_
        refine pw_iret dX11_octet_59 (Or.inl rfl) ?_
        exact hQ _ _ frM_0 (MI_0 hI)
    · rw [if_neg h0] at hQ
      by_cases h1 : w = 1
      · subst h1
        rw [if_pos rfl] at hQ
        refine pw_aload_n rfl dX11_octet_0 ?_
        refine pw_iconst 0 (by decide) dX11_octet_1 ?_
        refine pw_pI dX11_octet_2 fX11_65 (by first | rfl | assumption) rfl ⟨rfl, rfl⟩ ?_
        refine pw_iload_n rfl dX11_octet_5 ?_
        refine pw_if_ne 30 dX11_octet_6 (by decide) (fun _ => ?_) (fun q => absurd q (by decide))
        refine pw_iload_n rfl dX11_octet_30 ?_
        refine pw_iconst 1 (by decide) dX11_octet_31 ?_
        refine pw_icmp_ne 58 dX11_octet_32 (by decide) (fun q => absurd (rfl) q) (fun _ => ?_)
        refine pw_iload_n rfl dX11_octet_35 ?_
        refine pw_iconst 0 (by decide) dX11_octet_36 ?_
        refine pw_aload_n rfl dX11_octet_37 ?_
        refine pw_gI dX11_octet_38 fX11_80 (by first | rfl | assumption) rfl ?_
        rw [upF_n (by omega), b1]
        refine pw_iconst 1 (by decide) dX11_octet_41 ?_
        refine pw_isub dX11_octet_42 ?_
        refine pc_S3 dX11_octet_43 lX11_75 (by decide) (Nat.le_of_ble_eq_true rfl) ?_
        refine m_in ?_
        unfold getN at hQ
        by_cases hi : 0 ≤ i ∧ i < nI s.2.1.1
        · rw [if_pos hi] at hQ
          rw [if_pos ((in_n (by omega)).mpr hi)]
          obtain ⟨k, hk, rfl⟩ := i32_r hi.1 hi.2 (by omega)
          refine pw_if_eq 58 dX11_octet_46 (by decide) (fun q => absurd q (by decide)) (fun _ => ?_)
          refine pw_aload_n rfl dX11_octet_49 ?_
          refine pw_gC dX11_octet_50 fX11_13 (by first | rfl | assumption) rfl (by first | rfl | assumption) ?_
          refine pw_iload_n rfl dX11_octet_53 ?_
          refine pw_aI dX11_octet_54 (by first | rfl | assumption) (by first | assumption | exact vp_in_nI (by omega) (by omega)) ?_
          refine pw_goto 59 dX11_octet_55 (by decide) ?_
          refine pw_iret dX11_octet_59 (Or.inl rfl) ?_
          rw [nI_clamp (by omega), ← b2 k hk] at hQ
          rw [nI_clamp (by omega)]
          exact hQ _ _ frM_0 (MI_0 hI)
        · rw [if_neg hi] at hQ
          rw [if_neg (fun z => hi ((in_n (by omega)).mp z))]
          refine pw_if_eq 58 dX11_octet_46 (by decide) (fun _ => ?_) (fun q => absurd (rfl) q)
          refine pw_iconst (-1) (by decide) dX11_octet_58 ?_
          refine pw_iret dX11_octet_59 (Or.inl rfl) ?_
          exact hQ _ _ frM_0 (MI_0 hI)
      · rw [if_neg h1] at hQ
        refine pw_aload_n rfl dX11_octet_0 ?_
        refine pw_iconst 0 (by decide) dX11_octet_1 ?_
        refine pw_pI dX11_octet_2 fX11_65 (by first | rfl | assumption) rfl ⟨rfl, rfl⟩ ?_
        refine pw_iload_n rfl dX11_octet_5 ?_
        refine pw_if_ne 30 dX11_octet_6 (by decide) (fun _ => ?_) (fun q => absurd q (h0))
        refine pw_iload_n rfl dX11_octet_30 ?_
        refine pw_iconst 1 (by decide) dX11_octet_31 ?_
        refine pw_icmp_ne 58 dX11_octet_32 (by decide) (fun _ => ?_) (fun q => absurd q (h1))
        refine pw_iconst (-1) (by decide) dX11_octet_58 ?_
        refine pw_iret dX11_octet_59 (Or.inl rfl) ?_
        exact hQ _ _ frM_0 (MI_0 hI)
theorem o_place : OP Γ mX10_place mX11_place [.ref 0] [.ref 57] := by
  refine OP_of (fun s => s) (fun s => s.2.2.2.2.2) ?_ ?_ (fun s F A hO _ => hO)
  · intro F A rf lo X Q s hO hI hQ
    obtain ⟨_, _, _, _, _, f, _⟩ := id hI
    refine PM.go (l := [_]) rfl rfl (Nat.le_of_ble_eq_true rfl) rfl ?_
    refine pw_aload_n rfl dX10_place_0 ?_
    refine pw_gI dX10_place_1 fX10_76 (by first | rfl | assumption) rfl ?_
    refine pw_iret dX10_place_4 (Or.inl rfl) ?_
    rw [f]
    exact hQ _ _ _ frC_r hI
  · intro F A rf lo X Q s hO hI hQ
    obtain ⟨_, _, _, _, _, f⟩ := id hI
    refine PM.go (l := [_]) rfl rfl (Nat.le_of_ble_eq_true rfl) rfl ?_
    refine pw_aload_n rfl dX11_place_0 ?_
    refine pw_iconst 0 (by decide) dX11_place_1 ?_
    refine pw_pI dX11_place_2 fX11_65 (by first | rfl | assumption) rfl ⟨rfl, rfl⟩ ?_
    refine pw_aload_n rfl dX11_place_5 ?_
    refine pw_gI dX11_place_6 fX11_58 (by first | rfl | assumption) rfl ?_
    refine pw_iret dX11_place_9 (Or.inl rfl) ?_
    rw [upF_n (by omega), f]
    exact hQ _ _ frM_0 (MI_0 hI)
theorem o_chains : OP Γ mX10_chains mX11_chains [.ref 0] [.ref 57] := by
  refine OP_of (fun s => s) (fun s => nI (nch s.2.2.1.1 s.2.2.1.2.1)) ?_ ?_ (fun s F A hO _ => hO)
  · intro F A rf lo X Q s hO hI hQ
    obtain ⟨_, _, c, _⟩ := id hI
    refine PM.go (l := [_]) rfl rfl (Nat.le_of_ble_eq_true rfl) rfl ?_
    refine pw_aload_n rfl dX10_chains_0 ?_
    refine pw_gC dX10_chains_1 fX10_33 (by first | rfl | assumption) rfl (by first | rfl | assumption) ?_
    refine pc_V0 dX10_chains_4 lX10_139 rfl (by first | rfl | assumption) (by decide) (Nat.le_of_ble_eq_true rfl) ?_
    refine c_many c ?_
    refine pw_iret dX10_chains_7 (Or.inl rfl) ?_
    exact hQ _ _ _ frC_r hI
  · intro F A rf lo X Q s hO hI hQ
    obtain ⟨_, _, c, _⟩ := id hI
    exact m_chains c (hQ _ _ frM_0 (MI_0 hI))
theorem o_told (w : Int32) : OP Γ mX10_told mX11_told [.ref 0, .int w] [.ref 57, .int w] := by
  refine OP_of (fun s => s) (fun s => if 0 ≤ w ∧ w < 6 then (if s.2.2.2.1.1 = true then s.2.2.2.1.2 w.toNatClampNeg else -3) else -1) ?_ ?_ (fun s F A hO _ => hO)
  · intro F A rf lo X Q s hO hI hQ
    obtain ⟨_, _, _, ⟨d1, d2⟩, _⟩ := id hI
    refine PM.go (l := [_, _]) rfl rfl (Nat.le_of_ble_eq_true rfl) rfl ?_
    refine pw_iload_n rfl dX10_told_0 ?_
    refine pw_if_lt 13 dX10_told_1 (by decide) (fun q1 => ?_) (fun q1 => ?_)
    · refine pw_iconst (-1) (by decide) dX10_told_13 ?_
      refine pw_iret dX10_told_14 (Or.inl rfl) ?_
      rw [if_neg (fun z => Int32.not_le.mpr q1 z.1)] at hQ
      exact hQ _ _ _ frC_r hI
    · refine pw_iload_n rfl dX10_told_4 ?_
      refine pw_aload_n rfl dX10_told_5 ?_
      refine pw_gC dX10_told_6 fX10_65 (by first | rfl | assumption) rfl (by first | rfl | assumption) ?_
      refine pw_lI (nI _) dX10_told_9 (by first | rfl | assumption) rfl ?_
      refine pw_icmp_lt 15 dX10_told_10 (by decide) (fun q10 => ?_) (fun q10 => ?_)
      · have hw : 0 ≤ w ∧ w < 6 := ⟨Int32.not_lt.mp q1, q10⟩
        rw [if_pos hw] at hQ
        obtain ⟨k, hk, rfl⟩ := i32_r (n := 6) hw.1 hw.2 (by omega)
        refine pw_aload_n rfl dX10_told_15 ?_
        refine pw_gI dX10_told_16 fX10_72 (by first | rfl | assumption) rfl ?_
        rw [d1]
        by_cases hc : s.2.2.2.1.1 = true
        · rw [if_pos hc] at hQ
          rw [hc]
          refine pw_if_eq 31 dX10_told_19 (by decide) (fun q => absurd q (by decide)) (fun _ => ?_)
          refine pw_aload_n rfl dX10_told_22 ?_
          refine pw_gC dX10_told_23 fX10_65 (by first | rfl | assumption) rfl (by first | rfl | assumption) ?_
          refine pw_iload_n rfl dX10_told_26 ?_
          refine pw_aI dX10_told_27 (by first | rfl | assumption) (by first | assumption | exact vp_in_nI (by omega) (by omega)) ?_
          refine pw_goto 33 dX10_told_28 (by decide) ?_
          refine pw_iret dX10_told_33 (Or.inl rfl) ?_
          rw [nI_clamp (by omega), d2 hc k hk]
          rw [nI_clamp (by omega)] at hQ
          exact hQ _ _ _ frC_r hI
        · rw [if_neg hc] at hQ
          rw [Bool.eq_false_iff.mpr hc]
          refine pw_if_eq 31 dX10_told_19 (by decide) (fun _ => ?_) (fun q => absurd (rfl) q)
          refine pw_bipush (-3) (by decide) dX10_told_31 ?_
          refine pw_iret dX10_told_33 (Or.inl rfl) ?_
          exact hQ _ _ _ frC_r hI
      · refine pw_iconst (-1) (by decide) dX10_told_13 ?_
        refine pw_iret dX10_told_14 (Or.inl rfl) ?_
        rw [if_neg (fun z => q10 z.2)] at hQ
        exact hQ _ _ _ frC_r hI
  · intro F A rf lo X Q s hO hI hQ
    obtain ⟨_, _, _, ⟨d1, d2⟩, _⟩ := id hI
    have hwe : (0 ≤ w ∧ w ≤ 5) ↔ (0 ≤ w ∧ w < 6) := in_n (n := 6) (by omega)
    refine PM.go (l := [_, _]) rfl rfl (Nat.le_of_ble_eq_true rfl) rfl ?_
    refine pw_aload_n rfl dX11_told_0 ?_
    refine pw_iconst 0 (by decide) dX11_told_1 ?_
    refine pw_pI dX11_told_2 fX11_65 (by first | rfl | assumption) rfl ⟨rfl, rfl⟩ ?_
    refine pw_iload_n rfl dX11_told_5 ?_
    refine pw_iconst 0 (by decide) dX11_told_6 ?_
    refine pw_iconst 5 (by decide) dX11_told_7 ?_
    refine pc_S3 dX11_told_8 lX11_75 (by decide) (Nat.le_of_ble_eq_true rfl) ?_
    refine m_in ?_
    by_cases hw : 0 ≤ w ∧ w < 6
    · rw [if_pos hw] at hQ
      rw [if_pos (hwe.mpr hw)]
      obtain ⟨k, hk, rfl⟩ := i32_r (n := 6) hw.1 hw.2 (by omega)
      refine pw_if_ne 18 dX11_told_11 (by decide) (fun _ => ?_) (fun q => absurd q (by decide))
      refine pw_aload_n rfl dX11_told_18 ?_
      refine pw_gI dX11_told_19 fX11_68 (by first | rfl | assumption) rfl ?_
      rw [upF_n (by omega), d1]
      by_cases hc : s.2.2.2.1.1 = true
      · rw [if_pos hc] at hQ
        rw [hc]
        refine pw_if_eq 34 dX11_told_22 (by decide) (fun q => absurd q (by decide)) (fun _ => ?_)
        refine pw_aload_n rfl dX11_told_25 ?_
        refine pw_gC dX11_told_26 fX11_52 (by first | rfl | assumption) rfl (by first | rfl | assumption) ?_
        refine pw_iload_n rfl dX11_told_29 ?_
        refine pw_aI dX11_told_30 (by first | rfl | assumption) (by first | assumption | exact vp_in_nI (by omega) (by omega)) ?_
        refine pw_goto 36 dX11_told_31 (by decide) ?_
        refine pw_iret dX11_told_36 (Or.inl rfl) ?_
        rw [nI_clamp (by omega), d2 hc k hk]
        rw [nI_clamp (by omega)] at hQ
        exact hQ _ _ frM_0 (MI_0 hI)
      · rw [if_neg hc] at hQ
        rw [Bool.eq_false_iff.mpr hc]
        refine pw_if_eq 34 dX11_told_22 (by decide) (fun _ => ?_) (fun q => absurd (rfl) q)
        refine pw_bipush (-3) (by decide) dX11_told_34 ?_
        refine pw_iret dX11_told_36 (Or.inl rfl) ?_
        exact hQ _ _ frM_0 (MI_0 hI)
    · rw [if_neg hw] at hQ
      rw [if_neg (fun z => hw (hwe.mp z))]
      refine pw_if_ne 18 dX11_told_11 (by decide) (fun q => absurd (rfl) q) (fun _ => ?_)
      refine pw_iconst (-1) (by decide) dX11_told_14 ?_
      refine pw_goto 36 dX11_told_15 (by decide) ?_
      refine pw_iret dX11_told_36 (Or.inl rfl) ?_
      exact hQ _ _ frM_0 (MI_0 hI)
theorem o_learned (w : Int32) : OP Γ mX10_learned mX11_learned [.ref 0, .int w] [.ref 57, .int w] := by
  refine OP_of (fun s => s) (fun s => if 0 ≤ w ∧ w < 64 then s.2.2.2.2.1 w.toNatClampNeg else -1) ?_ ?_ (fun s F A hO _ => hO)
  · intro F A rf lo X Q s hO hI hQ
    obtain ⟨_, _, _, _, e, _⟩ := id hI
    refine PM.go (l := [_, _]) rfl rfl (Nat.le_of_ble_eq_true rfl) rfl ?_
    refine pw_iload_n rfl dX10_learned_0 ?_
    refine pw_if_lt 13 dX10_learned_1 (by decide) (fun q1 => ?_) (fun q1 => ?_)
    · refine pw_iconst (-1) (by decide) dX10_learned_13 ?_
      refine pw_iret dX10_learned_14 (Or.inl rfl) ?_
      rw [if_neg (fun z => Int32.not_le.mpr q1 z.1)] at hQ
      exact hQ _ _ _ frC_r hI
    · refine pw_iload_n rfl dX10_learned_4 ?_
      refine pw_aload_n rfl dX10_learned_5 ?_
      refine pw_gC dX10_learned_6 fX10_69 (by first | rfl | assumption) rfl (by first | rfl | assumption) ?_
      refine pw_lI (nI _) dX10_learned_9 (by first | rfl | assumption) rfl ?_
      refine pw_icmp_lt 15 dX10_learned_10 (by decide) (fun q10 => ?_) (fun q10 => ?_)
      · have hw : 0 ≤ w ∧ w < 64 := ⟨Int32.not_lt.mp q1, q10⟩
        rw [if_pos hw] at hQ
        obtain ⟨k, hk, rfl⟩ := i32_r (n := 64) hw.1 hw.2 (by omega)
        refine pw_aload_n rfl dX10_learned_15 ?_
        refine pw_gC dX10_learned_16 fX10_69 (by first | rfl | assumption) rfl (by first | rfl | assumption) ?_
        refine pw_iload_n rfl dX10_learned_19 ?_
        refine pw_aI dX10_learned_20 (by first | rfl | assumption) (by first | assumption | exact vp_in_nI (by omega) (by omega)) ?_
        refine pw_iret dX10_learned_21 (Or.inl rfl) ?_
        rw [nI_clamp (by omega), e k hk]
        rw [nI_clamp (by omega)] at hQ
        exact hQ _ _ _ frC_r hI
      · refine pw_iconst (-1) (by decide) dX10_learned_13 ?_
        refine pw_iret dX10_learned_14 (Or.inl rfl) ?_
        rw [if_neg (fun z => q10 z.2)] at hQ
        exact hQ _ _ _ frC_r hI
  · intro F A rf lo X Q s hO hI hQ
    obtain ⟨_, _, _, _, e, _⟩ := id hI
    have hwe : (0 ≤ w ∧ w ≤ 63) ↔ (0 ≤ w ∧ w < 64) := in_n (n := 64) (by omega)
    refine PM.go (l := [_, _]) rfl rfl (Nat.le_of_ble_eq_true rfl) rfl ?_
    refine pw_aload_n rfl dX11_learned_0 ?_
    refine pw_iconst 0 (by decide) dX11_learned_1 ?_
    refine pw_pI dX11_learned_2 fX11_65 (by first | rfl | assumption) rfl ⟨rfl, rfl⟩ ?_
    refine pw_iload_n rfl dX11_learned_5 ?_
    refine pw_iconst 0 (by decide) dX11_learned_6 ?_
    refine pw_bipush 63 (by decide) dX11_learned_7 ?_
    refine pc_S3 dX11_learned_9 lX11_75 (by decide) (Nat.le_of_ble_eq_true rfl) ?_
    refine m_in ?_
    by_cases hw : 0 ≤ w ∧ w < 64
    · rw [if_pos hw] at hQ
      rw [if_pos (hwe.mpr hw)]
      obtain ⟨k, hk, rfl⟩ := i32_r (n := 64) hw.1 hw.2 (by omega)
      refine pw_if_eq 24 dX11_learned_12 (by decide) (fun q => absurd q (by decide)) (fun _ => ?_)
      refine pw_aload_n rfl dX11_learned_15 ?_
      refine pw_gC dX11_learned_16 fX11_55 (by first | rfl | assumption) rfl (by first | rfl | assumption) ?_
      refine pw_iload_n rfl dX11_learned_19 ?_
      refine pw_aI dX11_learned_20 (by first | rfl | assumption) (by first | assumption | exact vp_in_nI (by omega) (by omega)) ?_
      refine pw_goto 25 dX11_learned_21 (by decide) ?_
      refine pw_iret dX11_learned_25 (Or.inl rfl) ?_
      rw [nI_clamp (by omega), e k hk]
      rw [nI_clamp (by omega)] at hQ
      exact hQ _ _ frM_0 (MI_0 hI)
    · rw [if_neg hw] at hQ
      rw [if_neg (fun z => hw (hwe.mp z))]
      refine pw_if_eq 24 dX11_learned_12 (by decide) (fun _ => ?_) (fun q => absurd (rfl) q)
      refine pw_iconst (-1) (by decide) dX11_learned_24 ?_
      refine pw_iret dX11_learned_25 (Or.inl rfl) ?_
      exact hQ _ _ frM_0 (MI_0 hI)
theorem o_cut (m : Int32) : OP Γ mX10_cut mX11_cut [.ref 0, .int m] [.ref 57, .int m] := by
  refine OP_of (fun s => if 0 ≤ m ∧ m ≤ nI s.2.1.1 then (s.1, (m.toNatClampNeg, s.2.1.2), s.2.2) else s) (fun s => if 0 ≤ m ∧ m ≤ nI s.2.1.1 then nI s.2.1.1 - m else -1) ?_ ?_ ?_
  · intro F A rf lo X Q s hO hI hQ
    obtain ⟨_, ⟨b1, b2⟩, _⟩ := id hI
    obtain ⟨o1, o2, o3, o4, o5⟩ := id hO
    refine PM.go (l := [_, _, .float 0]) rfl rfl (Nat.le_of_ble_eq_true rfl) rfl ?_
    refine pw_iload_n rfl dX10_cut_0 ?_
    refine pw_if_lt 15 dX10_cut_1 (by decide) (fun q1 => ?_) (fun q1 => ?_)
    · refine pw_iconst (-1) (by decide) dX10_cut_15 ?_
      refine pw_iret dX10_cut_16 (Or.inl rfl) ?_
      rw [if_neg (fun z => Int32.not_le.mpr q1 z.1), if_neg (fun z => Int32.not_le.mpr q1 z.1)] at hQ
      exact hQ _ _ _ frC_r hI
    · refine pw_iload_n rfl dX10_cut_4 ?_
      refine pw_aload_n rfl dX10_cut_5 ?_
      refine pw_gC dX10_cut_6 fX10_18 (by first | rfl | assumption) rfl (by first | rfl | assumption) ?_
      refine pc_V0 dX10_cut_9 lX10_86 rfl (by first | rfl | assumption) (by decide) (Nat.le_of_ble_eq_true rfl) ?_
      refine c_count row3 ?_
      rw [b1]
      refine pw_icmp_le 17 dX10_cut_12 (by decide) (fun q12 => ?_) (fun q12 => ?_)
      · have hw : 0 ≤ m ∧ m ≤ nI s.2.1.1 := ⟨Int32.not_lt.mp q1, q12⟩
        rw [if_pos hw, if_pos hw] at hQ
        obtain ⟨k, hk, rfl⟩ := i32_nn hw.1
        have hk2 : k ≤ s.2.1.1 := by
          rcases Nat.lt_or_ge s.2.1.1 k with h3 | h3
          · exact absurd hw.2 (nI_ge h3 hk)
          · exact h3
        refine pw_aload_n rfl dX10_cut_17 ?_
        refine pw_gC dX10_cut_18 fX10_18 (by first | rfl | assumption) rfl (by first | rfl | assumption) ?_
        refine pc_V0 dX10_cut_21 lX10_86 rfl (by first | rfl | assumption) (by decide) (Nat.le_of_ble_eq_true rfl) ?_
        refine c_count row3 ?_
        rw [b1]
        refine pw_iload_n rfl dX10_cut_24 ?_
        refine pw_isub dX10_cut_25 ?_
        refine ps_istore_n (l' := [_, _, _]) dX10_cut_26 (by decide) rfl rfl ?_
        refine pw_aload_n rfl dX10_cut_27 ?_
        refine pw_gC dX10_cut_28 fX10_18 (by first | rfl | assumption) rfl (by first | rfl | assumption) ?_
        refine pw_iload_n rfl dX10_cut_31 ?_
        refine pc_V1 dX10_cut_32 lX10_193 rfl (by first | rfl | assumption) (by decide) (Nat.le_of_ble_eq_true rfl) ?_
        refine c_keep row3 b1 o3 rfl hk2 ?_
        refine pw_iload_n rfl dX10_cut_35 ?_
        refine pw_iret dX10_cut_36 (Or.inl rfl) ?_
        rw [nI_clamp (by omega)] at hQ
        exact hQ _ _ _ ⟨fun i j h => upF_n (by omega), fun i h => rfl⟩ (CI_O hI (fun i j _ h => upF_n (by omega)) (fun i _ _ => rfl) ⟨upF_s, same_le b2 hk2⟩)
      · refine pw_iconst (-1) (by decide) dX10_cut_15 ?_
        refine pw_iret dX10_cut_16 (Or.inl rfl) ?_
        rw [if_neg (fun z => q12 z.2), if_neg (fun z => q12 z.2)] at hQ
        exact hQ _ _ _ frC_r hI
  · intro F A rf lo X Q s hO hI hQ
    obtain ⟨_, ⟨b1, b2⟩, _⟩ := id hI
    obtain ⟨o1, o2, o3, o4, o5⟩ := id hO
    refine PM.go (l := [_, _, .float 0]) rfl rfl (Nat.le_of_ble_eq_true rfl) rfl ?_
    refine pw_aload_n rfl dX11_cut_0 ?_
    refine pw_iconst 0 (by decide) dX11_cut_1 ?_
    refine pw_pI dX11_cut_2 fX11_65 (by first | rfl | assumption) rfl ⟨rfl, rfl⟩ ?_
    refine pw_iload_n rfl dX11_cut_5 ?_
    refine pw_iconst 0 (by decide) dX11_cut_6 ?_
    refine pw_aload_n rfl dX11_cut_7 ?_
    refine pw_gI dX11_cut_8 fX11_80 (by first | rfl | assumption) rfl ?_
    rw [upF_n (by omega), b1]
    refine pc_S3 dX11_cut_11 lX11_75 (by decide) (Nat.le_of_ble_eq_true rfl) ?_
    refine m_in ?_
    by_cases hw : 0 ≤ m ∧ m ≤ nI s.2.1.1
    · rw [if_pos hw, if_pos hw] at hQ
      rw [if_pos hw]
      obtain ⟨k, hk, rfl⟩ := i32_nn hw.1
      have hk2 : k ≤ s.2.1.1 := by
        rcases Nat.lt_or_ge s.2.1.1 k with h3 | h3
        · exact absurd hw.2 (nI_ge h3 hk)
        · exact h3
      refine pw_if_ne 19 dX11_cut_14 (by decide) (fun _ => ?_) (fun q => absurd q (by decide))
      refine pw_aload_n rfl dX11_cut_19 ?_
      refine pw_gI dX11_cut_20 fX11_80 (by first | rfl | assumption) rfl ?_
      rw [upF_n (by omega), b1]
      refine pw_iload_n rfl dX11_cut_23 ?_
      refine pw_isub dX11_cut_24 ?_
      refine ps_istore_n (l' := [_, _, _]) dX11_cut_25 (by decide) rfl rfl ?_
      refine pw_aload_n rfl dX11_cut_26 ?_
      refine pw_iload_n rfl dX11_cut_27 ?_
      refine pw_pI dX11_cut_28 fX11_80 (by first | rfl | assumption) rfl ⟨rfl, rfl⟩ ?_
      refine pw_iload_n rfl dX11_cut_31 ?_
      refine pw_iret dX11_cut_32 (Or.inl rfl) ?_
      rw [nI_clamp (by omega)] at hQ
      exact hQ _ _ ⟨fun i j h => by rw [upF_n (by omega), upF_n (by omega)], fun i h => rfl⟩ (MI_O hI (fun j _ h => by rw [upF_n (by omega), upF_n (by omega)]) (fun i _ _ => rfl) ⟨upF_s, same_le b2 hk2⟩)
    · rw [if_neg hw, if_neg hw] at hQ
      rw [if_neg hw]
      refine pw_if_ne 19 dX11_cut_14 (by decide) (fun q => absurd (rfl) q) (fun _ => ?_)
      refine pw_iconst (-1) (by decide) dX11_cut_17 ?_
      refine pw_iret dX11_cut_18 (Or.inl rfl) ?_
      exact hQ _ _ frM_0 (MI_0 hI)
  · intro s F A hO hI
    obtain ⟨o1, o2, o3, o4, o5⟩ := id hO
    by_cases hw : 0 ≤ m ∧ m ≤ nI s.2.1.1
    · rw [if_pos hw]
      obtain ⟨k, hk, rfl⟩ := i32_nn hw.1
      have hk2 : k ≤ s.2.1.1 := by
        rcases Nat.lt_or_ge s.2.1.1 k with h3 | h3
        · exact absurd hw.2 (nI_ge h3 hk)
        · exact h3
      rw [nI_clamp (by omega)]
      exact ⟨o1, o2, by show k ≤ 1024; omega, fun j hj => o4 j (by have : j < k := hj; omega), o5⟩
    · rw [if_neg hw]
      exact hO
theorem o_alter (i b : Int32) : OP Γ mX10_alter mX11_alter [.ref 0, .int i, .int b] [.ref 57, .int i, .int b] := by
  refine OP_of (fun s => if (0 ≤ i ∧ i < nI s.2.1.1) ∧ (0 ≤ b ∧ b < 256) then (s.1, (s.2.1.1, upd s.2.1.2 i.toNatClampNeg b), s.2.2) else s) (fun s => if (0 ≤ i ∧ i < nI s.2.1.1) ∧ (0 ≤ b ∧ b < 256) then s.2.1.2 i.toNatClampNeg else -1) ?_ ?_ ?_
  · intro F A rf lo X Q s hO hI hQ
    obtain ⟨_, ⟨b1, b2⟩, _⟩ := id hI
    obtain ⟨o1, o2, o3, o4, o5⟩ := id hO
    refine PM.go (l := [_, _, _, .float 0]) rfl rfl (Nat.le_of_ble_eq_true rfl) rfl ?_
    refine pw_aload_n rfl dX10_alter_0 ?_
    refine pw_gC dX10_alter_1 fX10_18 (by first | rfl | assumption) rfl (by first | rfl | assumption) ?_
    refine pw_iload_n rfl dX10_alter_4 ?_
    refine pc_V1 dX10_alter_5 lX10_109 rfl (by first | rfl | assumption) (by decide) (Nat.le_of_ble_eq_true rfl) ?_
    refine c_has row3 ?_
    rw [b1]
    by_cases hi : 0 ≤ i ∧ i < nI s.2.1.1
    · rw [if_pos hi]
      refine pw_if_eq 18 dX10_alter_8 (by decide) (fun q => absurd q (by decide)) (fun _ => ?_)
      refine pw_iload_n rfl dX10_alter_11 ?_
      refine pc_S1 dX10_alter_12 lX10_93 (by decide) (Nat.le_of_ble_eq_true rfl) ?_
      refine c_isByte ?_
      by_cases hb : 0 ≤ b ∧ b < 256
      · rw [if_pos ⟨hi, hb⟩, if_pos ⟨hi, hb⟩] at hQ
        rw [if_pos hb]
        obtain ⟨k, hk, rfl⟩ := i32_r hi.1 hi.2 (by omega)
        obtain ⟨c, hc, rfl⟩ := byte_of hb
        refine pw_if_ne 20 dX10_alter_15 (by decide) (fun _ => ?_) (fun q => absurd q (by decide))
        refine pw_aload_n rfl dX10_alter_20 ?_
        refine pw_gC dX10_alter_21 fX10_18 (by first | rfl | assumption) rfl (by first | rfl | assumption) ?_
        refine pw_iload_n rfl dX10_alter_24 ?_
        refine pc_V1 dX10_alter_25 lX10_112 rfl (by first | rfl | assumption) (by decide) (Nat.le_of_ble_eq_true rfl) ?_
        refine c_get row3 b1 o3 rfl hk ?_
        refine ps_istore_n (l' := [_, _, _, _]) dX10_alter_28 (by decide) rfl rfl ?_
        refine pw_aload_n rfl dX10_alter_29 ?_
        refine pw_gC dX10_alter_30 fX10_18 (by first | rfl | assumption) rfl (by first | rfl | assumption) ?_
        refine pw_iload_n rfl dX10_alter_33 ?_
        refine pw_iload_n rfl dX10_alter_34 ?_
        refine pc_V2 dX10_alter_35 lX10_190 rfl (by first | rfl | assumption) (by decide) (Nat.le_of_ble_eq_true rfl) ?_
        refine c_set row3 b1 o3 rfl hk ?_
        refine pw_iload_n rfl dX10_alter_38 ?_
        refine pw_iret dX10_alter_39 (Or.inl rfl) ?_
        rw [nI_clamp (by omega), ← b2 k hk] at hQ
        rw [nI_and255s hc]
        refine hQ _ _ _ ⟨fun i j h => rfl, fun i h => stA_n (by omega)⟩ (CI_O hI (fun i j _ h => rfl) (fun i _ h => stA_n h) ⟨b1, fun j hj => ?_⟩)
        rw [stA_s]
        by_cases hj2 : j = k
        · rw [hj2, upd_s, upd_s]
        · rw [upd_n hj2, upd_n hj2]; exact b2 j hj
      · rw [if_neg (fun z => hb z.2), if_neg (fun z => hb z.2)] at hQ
        rw [if_neg hb]
        refine pw_if_ne 20 dX10_alter_15 (by decide) (fun q => absurd (rfl) q) (fun _ => ?_)
        refine pw_iconst (-1) (by decide) dX10_alter_18 ?_
        refine pw_iret dX10_alter_19 (Or.inl rfl) ?_
        exact hQ _ _ _ frC_r hI
    · rw [if_neg (fun z => hi z.1), if_neg (fun z => hi z.1)] at hQ
      rw [if_neg hi]
      refine pw_if_eq 18 dX10_alter_8 (by decide) (fun _ => ?_) (fun q => absurd (rfl) q)
      refine pw_iconst (-1) (by decide) dX10_alter_18 ?_
      refine pw_iret dX10_alter_19 (Or.inl rfl) ?_
      exact hQ _ _ _ frC_r hI
  · intro F A rf lo X Q s hO hI hQ
    obtain ⟨_, ⟨b1, b2⟩, _⟩ := id hI
    obtain ⟨o1, o2, o3, o4, o5⟩ := id hO
    have hbe : (0 ≤ b ∧ b ≤ 255) ↔ (0 ≤ b ∧ b < 256) := in_n (n := 256) (by omega)
    refine PM.go (l := [_, _, _, .float 0]) rfl rfl (Nat.le_of_ble_eq_true rfl) rfl ?_
    refine pw_aload_n rfl dX11_alter_0 ?_
    refine pw_iconst 0 (by decide) dX11_alter_1 ?_
    refine pw_pI dX11_alter_2 fX11_65 (by first | rfl | assumption) rfl ⟨rfl, rfl⟩ ?_
    refine pw_iload_n rfl dX11_alter_5 ?_
    refine pw_iconst 0 (by decide) dX11_alter_6 ?_
    refine pw_aload_n rfl dX11_alter_7 ?_
    refine pw_gI dX11_alter_8 fX11_80 (by first | rfl | assumption) rfl ?_
    rw [upF_n (by omega), b1]
    refine pw_iconst 1 (by decide) dX11_alter_11 ?_
    refine pw_isub dX11_alter_12 ?_
    refine pc_S3 dX11_alter_13 lX11_75 (by decide) (Nat.le_of_ble_eq_true rfl) ?_
    refine m_in ?_
    by_cases hi : 0 ≤ i ∧ i < nI s.2.1.1
    · rw [if_pos ((in_n (by omega)).mpr hi)]
      refine pw_if_eq 30 dX11_alter_16 (by decide) (fun q => absurd q (by decide)) (fun _ => ?_)
      refine pw_iload_n rfl dX11_alter_19 ?_
      refine pw_iconst 0 (by decide) dX11_alter_20 ?_
      refine pw_sipush 255 (by decide) dX11_alter_21 ?_
      refine pc_S3 dX11_alter_24 lX11_75 (by decide) (Nat.le_of_ble_eq_true rfl) ?_
      refine m_in ?_
      by_cases hb : 0 ≤ b ∧ b < 256
      · rw [if_pos ⟨hi, hb⟩, if_pos ⟨hi, hb⟩] at hQ
        rw [if_pos (hbe.mpr hb)]
        obtain ⟨k, hk, rfl⟩ := i32_r hi.1 hi.2 (by omega)
        refine pw_if_ne 32 dX11_alter_27 (by decide) (fun _ => ?_) (fun q => absurd q (by decide))
        refine pw_aload_n rfl dX11_alter_32 ?_
        refine pw_gC dX11_alter_33 fX11_13 (by first | rfl | assumption) rfl (by first | rfl | assumption) ?_
        refine pw_iload_n rfl dX11_alter_36 ?_
        refine pw_aI dX11_alter_37 (by first | rfl | assumption) (by first | assumption | exact vp_in_nI (by omega) (by omega)) ?_
        refine ps_istore_n (l' := [_, _, _, _]) dX11_alter_38 (by decide) rfl rfl ?_
        refine pw_aload_n rfl dX11_alter_39 ?_
        refine pw_gC dX11_alter_40 fX11_13 (by first | rfl | assumption) rfl (by first | rfl | assumption) ?_
        refine pw_iload_n rfl dX11_alter_43 ?_
        refine pw_iload_n rfl dX11_alter_44 ?_
        refine pw_sI dX11_alter_45 (by first | rfl | assumption) (by first | assumption | exact vp_in_nI (by omega) (by omega)) ?_
        refine pw_iload_n rfl dX11_alter_46 ?_
        refine pw_iret dX11_alter_47 (Or.inl rfl) ?_
        rw [nI_clamp (by omega), ← b2 k hk] at hQ
        rw [nI_clamp (by omega)]
        refine hQ _ _ ⟨fun i j h => upF_n (by omega), fun i h => stA_n (by omega)⟩ (MI_O hI (fun j hj _ => upF_n (by omega)) (fun i _ h => stA_n h) ⟨by rw [upF_n (by omega)]; exact b1, fun j hj => ?_⟩)
        rw [stA_s]
        by_cases hj2 : j = k
        · rw [hj2, upd_s, upd_s]
        · rw [upd_n hj2, upd_n hj2]; exact b2 j hj
      · rw [if_neg (fun z => hb z.2), if_neg (fun z => hb z.2)] at hQ
        rw [if_neg (fun z => hb (hbe.mp z))]
        refine pw_if_ne 32 dX11_alter_27 (by decide) (fun q => absurd (rfl) q) (fun _ => ?_)
        refine pw_iconst (-1) (by decide) dX11_alter_30 ?_
        refine pw_iret dX11_alter_31 (Or.inl rfl) ?_
        exact hQ _ _ frM_0 (MI_0 hI)
    · rw [if_neg (fun z => hi z.1), if_neg (fun z => hi z.1)] at hQ
      rw [if_neg (fun z => hi ((in_n (by omega)).mp z))]
      refine pw_if_eq 30 dX11_alter_16 (by decide) (fun _ => ?_) (fun q => absurd (rfl) q)
      refine pw_iconst (-1) (by decide) dX11_alter_30 ?_
      refine pw_iret dX11_alter_31 (Or.inl rfl) ?_
      exact hQ _ _ frM_0 (MI_0 hI)
  · intro s F A hO hI
    obtain ⟨o1, o2, o3, o4, o5⟩ := id hO
    by_cases h : (0 ≤ i ∧ i < nI s.2.1.1) ∧ (0 ≤ b ∧ b < 256)
    · rw [if_pos h]
      obtain ⟨k, hk, rfl⟩ := i32_r h.1.1 h.1.2 (by omega)
      obtain ⟨c, hc, rfl⟩ := byte_of h.2
      rw [nI_clamp (by omega)]
      refine ⟨o1, o2, o3, fun j hj => ?_, o5⟩
      show ∃ b, b < 256 ∧ upd s.2.1.2 k (nI c) j = nI b
      by_cases hj2 : j = k
      · exact ⟨c, hc, by rw [hj2, upd_s]⟩
      · rw [upd_n hj2]; exact o4 j hj
    · rw [if_neg h]
      exact hO
end
