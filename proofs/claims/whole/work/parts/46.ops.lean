/-! calls: clear, add, size, octet, cut, alter, place, told, learned, chains -/
theorem i32_nn {x : Int32} (h : 0 ≤ x) : ∃ k : Nat, k < 2 ^ 31 ∧ x = nI k := by
  have h1 : (0 : Int32).toInt ≤ x.toInt := Int32.le_iff_toInt_le.mp h
  have h2 : x.toInt < 2 ^ 31 := Int32.toInt_lt x
  have h0 : (0 : Int32).toInt = 0 := rfl
  refine ⟨x.toInt.toNat, by omega, ?_⟩
  apply Int32.toInt_inj.mp
  unfold nI
  rw [Int32.toInt_ofNat_of_lt (by omega)]
  omega
theorem i32_r {x : Int32} {n : Nat} (h : 0 ≤ x) (h2 : x < nI n) (hn : n < 2 ^ 31) : ∃ k : Nat, k < n ∧ x = nI k := by
  obtain ⟨k, hk, rfl⟩ := i32_nn h
  refine ⟨k, ?_, rfl⟩
  rcases Nat.lt_or_ge k n with h3 | h3
  · exact h3
  · exact absurd h2 (nI_nlt h3 hk)
abbrev rcF (i : Nat) : Prop := i = 0 ∨ i = 1 ∨ i = 3 ∨ i = 11 ∨ i = 22
abbrev rcA (i : Nat) : Prop := i = 2 ∨ i = 4 ∨ i = 12 ∨ i = 13 ∨ i = 14 ∨ i = 55 ∨ i = 56
abbrev rmF (j : Nat) : Prop := j = 1 ∨ j = 3 ∨ j = 5 ∨ j = 8 ∨ j = 24 ∨ j = 28
abbrev rmA (i : Nat) : Prop := i = 58 ∨ i = 59 ∨ i = 60 ∨ i = 61 ∨ i = 62 ∨ i = 72 ∨ i = 73
section
variable {F A F' A' : Nat → Nat → Int32} {n : Nat} {T : Nat → Int32} {s : ST}
theorem CI_T (h : CI F A s) (hF : ∀ i j, rcF i → ¬ i = 1 → F' i j = F i j) (hA : ∀ i, rcA i → ¬ i = 2 → A' i = A i) (hT : TX F' A' n T) : CI F' A' ((n, T), s.2) := by
  obtain ⟨a, b, c, d, e, f, g⟩ := h
  exact ⟨hT, OX_fr b (hF _ _ (by omega) (by omega)) (hA _ (by omega) (by omega)), CH_fr (hF _ _ (by omega) (by omega)) (hF _ _ (by omega) (by omega)) (hA _ (by omega) (by omega)) (hA _ (by omega) (by omega)) (hA _ (by omega) (by omega)) c, CX_fr d (hF _ _ (by omega) (by omega)) (hA _ (by omega) (by omega)), sm_fr e (hA _ (by omega) (by omega)), by rw [hF _ _ (by omega) (by omega)]; exact f, BX_fr g (hF _ _ (by omega) (by omega)) (hF _ _ (by omega) (by omega))⟩
theorem CI_O (h : CI F A s) (hF : ∀ i j, rcF i → ¬ i = 3 → F' i j = F i j) (hA : ∀ i, rcA i → ¬ i = 4 → A' i = A i) (hT : OX F' A' n T) : CI F' A' (s.1, (n, T), s.2.2) := by
  obtain ⟨a, b, c, d, e, f, g⟩ := h
  exact ⟨TX_fr a (hF _ _ (by omega) (by omega)) (hA _ (by omega) (by omega)), hT, CH_fr (hF _ _ (by omega) (by omega)) (hF _ _ (by omega) (by omega)) (hA _ (by omega) (by omega)) (hA _ (by omega) (by omega)) (hA _ (by omega) (by omega)) c, CX_fr d (hF _ _ (by omega) (by omega)) (hA _ (by omega) (by omega)), sm_fr e (hA _ (by omega) (by omega)), by rw [hF _ _ (by omega) (by omega)]; exact f, BX_fr g (hF _ _ (by omega) (by omega)) (hF _ _ (by omega) (by omega))⟩
theorem CI_S (h : CI F A s) (hF : ∀ i j, rcF i → F' i j = F i j) (hA : ∀ i, rcA i → A' i = A i) : CI F' A' s := by
  obtain ⟨a, b, c, d, e, f, g⟩ := h
  exact ⟨TX_fr a (hF _ _ (by omega)) (hA _ (by omega)), OX_fr b (hF _ _ (by omega)) (hA _ (by omega)), CH_fr (hF _ _ (by omega)) (hF _ _ (by omega)) (hA _ (by omega)) (hA _ (by omega)) (hA _ (by omega)) c, CX_fr d (hF _ _ (by omega)) (hA _ (by omega)), sm_fr e (hA _ (by omega)), by rw [hF _ _ (by omega)]; exact f, BX_fr g (hF _ _ (by omega)) (hF _ _ (by omega))⟩
theorem MI_T (h : MI F A s) (hF : ∀ j, rmF j → ¬ j = 1 → F' 57 j = F 57 j) (hA : ∀ i, rmA i → ¬ i = 58 → A' i = A i) (hT : TM F' A' n T) : MI F' A' ((n, T), s.2) := by
  obtain ⟨a, b, c, d, e, f⟩ := h
  exact ⟨hT, OM_fr b (hF _ (by omega) (by omega)) (hA _ (by omega) (by omega)), CM_fr (hF _ (by omega) (by omega)) (hF _ (by omega) (by omega)) (hA _ (by omega) (by omega)) (hA _ (by omega) (by omega)) (hA _ (by omega) (by omega)) c, XM_fr d (hF _ (by omega) (by omega)) (hA _ (by omega) (by omega)), sm_fr e (hA _ (by omega) (by omega)), by rw [hF _ (by omega) (by omega)]; exact f⟩
theorem MI_O (h : MI F A s) (hF : ∀ j, rmF j → ¬ j = 3 → F' 57 j = F 57 j) (hA : ∀ i, rmA i → ¬ i = 59 → A' i = A i) (hT : OM F' A' n T) : MI F' A' (s.1, (n, T), s.2.2) := by
  obtain ⟨a, b, c, d, e, f⟩ := h
  exact ⟨TM_fr a (hF _ (by omega) (by omega)) (hA _ (by omega) (by omega)), hT, CM_fr (hF _ (by omega) (by omega)) (hF _ (by omega) (by omega)) (hA _ (by omega) (by omega)) (hA _ (by omega) (by omega)) (hA _ (by omega) (by omega)) c, XM_fr d (hF _ (by omega) (by omega)) (hA _ (by omega) (by omega)), sm_fr e (hA _ (by omega) (by omega)), by rw [hF _ (by omega) (by omega)]; exact f⟩
theorem MI_S (h : MI F A s) (hF : ∀ j, rmF j → F' 57 j = F 57 j) (hA : ∀ i, rmA i → A' i = A i) : MI F' A' s := by
  obtain ⟨a, b, c, d, e, f⟩ := h
  exact ⟨TM_fr a (hF _ (by omega)) (hA _ (by omega)), OM_fr b (hF _ (by omega)) (hA _ (by omega)), CM_fr (hF _ (by omega)) (hF _ (by omega)) (hA _ (by omega)) (hA _ (by omega)) (hA _ (by omega)) c, XM_fr d (hF _ (by omega)) (hA _ (by omega)), sm_fr e (hA _ (by omega)), by rw [hF _ (by omega)]; exact f⟩
/-- the reference's thrown alone -/
theorem MI_0 (h : MI F A s) {v : Int32} : MI (upF F 57 0 v) A s := MI_S h (fun j hj => upF_n (by omega)) (fun i _ => rfl)
theorem frM_0 {v : Int32} : frM F (upF F 57 0 v) A A := ⟨fun i j h => upF_n (by omega), fun i _ => rfl⟩
theorem frC_r : frC F F A A := ⟨fun i j _ => rfl, fun i _ => rfl⟩
end
section
variable {Γ : Nat × (Nat → Int32)} {Q : Option Value → PH → Prop} {h : PH}
theorem m_in {x a b : Int32} (hQ : Q (some (.int (if a ≤ x ∧ x ≤ b then 1 else 0))) h) : PM Γ mX11_in [.int x, .int a, .int b] h 0 0 Q := by
  refine PM.go (l := [_, _, _]) rfl rfl (Nat.le_of_ble_eq_true rfl) rfl ?_
  refine pw_iload_n rfl dX11_in_0 ?_
  refine pw_iload_n rfl dX11_in_1 ?_
  refine pw_icmp_lt 14 dX11_in_2 (by decide) (fun q2 => ?_) (fun q2 => ?_)
  · refine pw_iconst 0 (by decide) dX11_in_14 ?_
    refine pw_iret dX11_in_15 (Or.inr ⟨rfl, rfl⟩) ?_
    rw [if_neg (fun z => Int32.not_le.mpr q2 z.1)] at hQ
    exact hQ
  · refine pw_iload_n rfl dX11_in_5 ?_
    refine pw_iload_n rfl dX11_in_6 ?_
    refine pw_icmp_gt 14 dX11_in_7 (by decide) (fun q7 => ?_) (fun q7 => ?_)
    · refine pw_iconst 0 (by decide) dX11_in_14 ?_
      refine pw_iret dX11_in_15 (Or.inr ⟨rfl, rfl⟩) ?_
      rw [if_neg (fun z => Int32.not_le.mpr q7 z.2)] at hQ
      exact hQ
    · refine pw_iconst 1 (by decide) dX11_in_10 ?_
      refine pw_goto 15 dX11_in_11 (by decide) ?_
      refine pw_iret dX11_in_15 (Or.inr ⟨rfl, rfl⟩) ?_
      rw [if_pos ⟨Int32.not_lt.mp q2, Int32.not_lt.mp q7⟩] at hQ
      exact hQ
theorem c_isByte {x : Int32} (hQ : Q (some (.int (if 0 ≤ x ∧ x < 256 then 1 else 0))) h) : PM Γ mX10_isByte [.int x] h 0 0 Q := by
  refine PM.go (l := [_]) rfl rfl (Nat.le_of_ble_eq_true rfl) rfl ?_
  refine pw_iload_n rfl dX10_isByte_0 ?_
  refine pw_if_lt 15 dX10_isByte_1 (by decide) (fun q1 => ?_) (fun q1 => ?_)
  · refine pw_iconst 0 (by decide) dX10_isByte_15 ?_
    refine pw_iret dX10_isByte_16 (Or.inr ⟨rfl, rfl⟩) ?_
    rw [if_neg (fun z => Int32.not_le.mpr q1 z.1)] at hQ
    exact hQ
  · refine pw_iload_n rfl dX10_isByte_4 ?_
    refine pw_sipush 256 (by decide) dX10_isByte_5 ?_
    refine pw_icmp_ge 15 dX10_isByte_8 (by decide) (fun q8 => ?_) (fun q8 => ?_)
    · refine pw_iconst 0 (by decide) dX10_isByte_15 ?_
      refine pw_iret dX10_isByte_16 (Or.inr ⟨rfl, rfl⟩) ?_
      rw [if_neg (fun z => Int32.not_lt.mpr q8 z.2)] at hQ
      exact hQ
    · refine pw_iconst 1 (by decide) dX10_isByte_11 ?_
      refine pw_goto 16 dX10_isByte_12 (by decide) ?_
      refine pw_iret dX10_isByte_16 (Or.inr ⟨rfl, rfl⟩) ?_
      rw [if_pos ⟨Int32.not_lt.mp q1, Int32.not_le.mp q8⟩] at hQ
      exact hQ
theorem row1 : isRow 1 2 300 := row_in (r := 1) (Or.inl rfl)
theorem row3 : isRow 3 4 1024 := row_to (t := 3) (Or.inl rfl)
theorem o_clear : OP Γ mX10_clear mX11_clear [.ref 0] [.ref 57] := by
  refine OP_of (fun s => ((0, s.1.2), s.2)) (fun s => nI s.1.1) ?_ ?_ ?_
  · intro F A rf lo X Q s hO hI hQ
    obtain ⟨⟨a1, a2⟩, _⟩ := id hI
    refine PM.go (l := [_, .float 0]) rfl rfl (Nat.le_of_ble_eq_true rfl) rfl ?_
    refine pw_aload_n rfl dX10_clear_0 ?_
    refine pw_gC dX10_clear_1 fX10_14 (by first | rfl | assumption) rfl (by first | rfl | assumption) ?_
    refine pc_V0 dX10_clear_4 lX10_86 rfl (by first | rfl | assumption) (by decide) (Nat.le_of_ble_eq_true rfl) ?_
    refine c_count row1 ?_
    refine ps_istore_n (l' := [_, _]) dX10_clear_7 (by decide) rfl rfl ?_
    refine pw_aload_n rfl dX10_clear_8 ?_
    refine pw_gC dX10_clear_9 fX10_14 (by first | rfl | assumption) rfl (by first | rfl | assumption) ?_
    refine pc_V0 dX10_clear_12 lX10_90 rfl (by first | rfl | assumption) (by decide) (Nat.le_of_ble_eq_true rfl) ?_
    refine c_empty row1 ?_
    refine pw_iload_n rfl dX10_clear_15 ?_
    refine pw_iret dX10_clear_16 (Or.inl rfl) ?_
    rw [a1]
    exact hQ _ _ _ ⟨fun i j h => upF_n (by omega), fun i _ => rfl⟩ (CI_T hI (fun i j _ h => upF_n (by omega)) (fun i _ _ => rfl) ⟨upF_s, fun j hj => absurd hj (by omega)⟩)
  · intro F A rf lo X Q s hO hI hQ
    obtain ⟨⟨a1, a2⟩, _⟩ := id hI
    refine PM.go (l := [_, .float 0]) rfl rfl (Nat.le_of_ble_eq_true rfl) rfl ?_
    refine pw_aload_n rfl dX11_clear_0 ?_
    refine pw_iconst 0 (by decide) dX11_clear_1 ?_
    refine pw_pI dX11_clear_2 fX11_65 (by first | rfl | assumption) rfl ⟨rfl, rfl⟩ ?_
    refine pw_aload_n rfl dX11_clear_5 ?_
    refine pw_gI dX11_clear_6 fX11_72 (by first | rfl | assumption) rfl ?_
    refine ps_istore_n (l' := [_, _]) dX11_clear_9 (by decide) rfl rfl ?_
    refine pw_aload_n rfl dX11_clear_10 ?_
    refine pw_iconst 0 (by decide) dX11_clear_11 ?_
    refine pw_pI dX11_clear_12 fX11_72 (by first | rfl | assumption) rfl ⟨rfl, rfl⟩ ?_
    refine pw_iload_n rfl dX11_clear_15 ?_
    refine pw_iret dX11_clear_16 (Or.inl rfl) ?_
    rw [upF_n (by omega), a1]
    exact hQ _ _ ⟨fun i j h => by rw [upF_n (by omega), upF_n (by omega)], fun i _ => rfl⟩ (MI_T hI (fun j hj h => by rw [upF_n (by omega), upF_n (by omega)]) (fun i _ _ => rfl) ⟨upF_s, fun j hj => absurd hj (by omega)⟩)
  · intro s F A hO hI
    exact ⟨by show 0 ≤ 300; omega, fun j hj => absurd hj (by show ¬ j < 0; omega), hO.2.2⟩
def dAdd (b : Int32) (s : ST) : Prop := (0 ≤ b ∧ b < 256) ∧ s.1.1 < 300
theorem byte_of {b : Int32} (h : 0 ≤ b ∧ b < 256) : ∃ k : Nat, k < 256 ∧ b = nI k := i32_r (n := 256) h.1 h.2 (by omega)
theorem o_add (b : Int32) : OP Γ mX10_add mX11_add [.ref 0, .int b] [.ref 57, .int b] := by
  refine OP_of (fun s => if (0 ≤ b ∧ b < 256) ∧ s.1.1 < 300 then ((s.1.1 + 1, upd s.1.2 s.1.1 b), s.2) else s) (fun s => if (0 ≤ b ∧ b < 256) then (if s.1.1 < 300 then nI (s.1.1 + 1) else -2) else -1) ?_ ?_ ?_
  · intro F A rf lo X Q s hO hI hQ
    obtain ⟨⟨a1, a2⟩, _⟩ := id hI
    refine PM.go (l := [_, _]) rfl rfl (Nat.le_of_ble_eq_true rfl) rfl ?_
    refine pw_iload_n rfl dX10_add_0 ?_
    refine pc_S1 dX10_add_1 lX10_93 (by decide) (Nat.le_of_ble_eq_true rfl) ?_
    refine c_isByte ?_
    by_cases hb : 0 ≤ b ∧ b < 256
    · rw [if_pos hb] at hQ
      rw [if_pos hb]
      refine pw_if_ne 9 dX10_add_4 (by decide) (fun _ => ?_) (fun q => absurd q (by decide))
      refine pw_aload_n rfl dX10_add_9 ?_
      refine pw_gC dX10_add_10 fX10_14 (by first | rfl | assumption) rfl (by first | rfl | assumption) ?_
      refine pc_V0 dX10_add_13 lX10_86 rfl (by first | rfl | assumption) (by decide) (Nat.le_of_ble_eq_true rfl) ?_
      refine c_count row1 ?_
      rw [a1]
      by_cases hn : s.1.1 < 300
      · rw [if_pos hn, if_pos ⟨hb, hn⟩] at hQ
        refine pw_sipush 300 (by decide) dX10_add_16 ?_
        refine pw_icmp_lt 25 dX10_add_19 (by decide) (fun _ => ?_) (fun q => absurd (nI_lt (b := 300) hn (by omega)) q)
        refine pw_aload_n rfl dX10_add_25 ?_
        refine pw_gC dX10_add_26 fX10_14 (by first | rfl | assumption) rfl (by first | rfl | assumption) ?_
        refine pw_iload_n rfl dX10_add_29 ?_
        refine pc_V1 dX10_add_30 lX10_97 rfl (by first | rfl | assumption) (by decide) (Nat.le_of_ble_eq_true rfl) ?_
        refine c_push row1 a1 hn ?_
        refine pw_aload_n rfl dX10_add_33 ?_
        refine pw_gC dX10_add_34 fX10_14 (by first | rfl | assumption) rfl (by first | rfl | assumption) ?_
        refine pc_V0 dX10_add_37 lX10_86 rfl (by first | rfl | assumption) (by decide) (Nat.le_of_ble_eq_true rfl) ?_
        refine c_count row1 ?_
        rw [upF_s]
        refine pw_iret dX10_add_40 (Or.inl rfl) ?_
        obtain ⟨k, hk, rfl⟩ := byte_of hb
        rw [nI_and255s hk]
        refine hQ _ _ _ ⟨fun i j h => upF_n (by omega), fun i h => stA_n (by omega)⟩ (CI_T hI (fun i j _ h => upF_n (by omega)) (fun i _ h => stA_n h) ⟨upF_s, fun j hj => ?_⟩)
        rw [stA_s]
        by_cases hj2 : j = s.1.1
        · rw [hj2, upd_s, upd_s]
        · rw [upd_n hj2, upd_n hj2]; exact a2 j (by omega)
      · rw [if_neg hn, if_neg (fun z => hn z.2)] at hQ
        refine pw_sipush 300 (by decide) dX10_add_16 ?_
        refine pw_icmp_lt 25 dX10_add_19 (by decide) (fun q => absurd q (nI_nlt (b := 300) (by omega) (by have := hO.1; omega))) (fun _ => ?_)
        refine pw_bipush (-2) (by decide) dX10_add_22 ?_
        refine pw_iret dX10_add_24 (Or.inl rfl) ?_
        exact hQ _ _ _ frC_r hI
    · rw [if_neg hb, if_neg (fun z => hb z.1)] at hQ
      rw [if_neg hb]
      refine pw_if_ne 9 dX10_add_4 (by decide) (fun q => absurd (rfl) q) (fun _ => ?_)
      refine pw_iconst (-1) (by decide) dX10_add_7 ?_
      refine pw_iret dX10_add_8 (Or.inl rfl) ?_
      exact hQ _ _ _ frC_r hI
  · intro F A rf lo X Q s hO hI hQ
    obtain ⟨⟨a1, a2⟩, _⟩ := id hI
    have hn3 := hO.1
    refine PM.go (l := [_, _]) rfl rfl (Nat.le_of_ble_eq_true rfl) rfl ?_
    refine pw_aload_n rfl dX11_add_0 ?_
    refine pw_iconst 0 (by decide) dX11_add_1 ?_
    refine pw_pI dX11_add_2 fX11_65 (by first | rfl | assumption) rfl ⟨rfl, rfl⟩ ?_
    refine pw_iload_n rfl dX11_add_5 ?_
    refine pw_iconst 0 (by decide) dX11_add_6 ?_
    refine pw_sipush 255 (by decide) dX11_add_7 ?_
    refine pc_S3 dX11_add_10 lX11_75 (by decide) (Nat.le_of_ble_eq_true rfl) ?_
    refine m_in ?_
    have hbe : (0 ≤ b ∧ b ≤ 255) ↔ (0 ≤ b ∧ b < 256) := by
      constructor
      · intro h
        obtain ⟨k, hk, rfl⟩ := i32_nn h.1
        refine ⟨h.1, ?_⟩
        rcases Nat.lt_or_ge k 256 with h3 | h3
        · exact nI_lt (b := 256) h3 (by omega)
        · exact absurd h.2 (nI_ge (a := 255) (by omega) hk)
      · intro h
        obtain ⟨k, hk, rfl⟩ := byte_of h
        exact ⟨h.1, nI_le (b := 255) (by omega) (by omega)⟩
    by_cases hb : 0 ≤ b ∧ b < 256
    · rw [if_pos hb] at hQ
      rw [if_pos (hbe.mpr hb)]
      refine pw_if_ne 18 dX11_add_13 (by decide) (fun _ => ?_) (fun q => absurd q (by decide))
      refine pw_aload_n rfl dX11_add_18 ?_
      refine pw_gI dX11_add_19 fX11_72 (by first | rfl | assumption) rfl ?_
      rw [upF_n (by omega), a1]
      by_cases hn : s.1.1 < 300
      · rw [if_pos hn, if_pos ⟨hb, hn⟩] at hQ
        refine pw_sipush 300 (by decide) dX11_add_22 ?_
        refine pw_icmp_ne 31 dX11_add_25 (by decide) (fun _ => ?_) (fun q => absurd q ((fun h9 => by have := nI_inj (b := 300) (by omega) (by omega) h9; omega)))
        refine pw_aload_n rfl dX11_add_31 ?_
        refine pw_gC dX11_add_32 fX11_7 (by first | rfl | assumption) rfl (by first | rfl | assumption) ?_
        refine pw_aload_n rfl dX11_add_35 ?_
        refine pw_gI dX11_add_36 fX11_72 (by first | rfl | assumption) rfl ?_
        rw [upF_n (by omega), a1]
        refine pw_iload_n rfl dX11_add_39 ?_
        refine pw_sI dX11_add_40 (by first | rfl | assumption) (by first | assumption | exact vp_in_nI (by omega) (by omega)) ?_
        refine pw_aload_n rfl dX11_add_41 ?_
        refine pw_dup rfl dX11_add_42 ?_
        refine pw_gI dX11_add_43 fX11_72 (by first | rfl | assumption) rfl ?_
        rw [upF_n (by omega), a1]
        refine pw_iconst 1 (by decide) dX11_add_46 ?_
        refine pw_iadd dX11_add_47 ?_
        refine pw_pI dX11_add_48 fX11_72 (by first | rfl | assumption) rfl ⟨rfl, rfl⟩ ?_
        refine pw_aload_n rfl dX11_add_51 ?_
        refine pw_gI dX11_add_52 fX11_72 (by first | rfl | assumption) rfl ?_
        refine pw_iret dX11_add_55 (Or.inl rfl) ?_
        rw [upF_s, nI_1, nI_clamp (by omega)]
        refine hQ _ _ ⟨fun i j h => by rw [upF_n (by omega), upF_n (by omega)], fun i h => stA_n (by omega)⟩ (MI_T hI (fun j _ h => by rw [upF_n (by omega), upF_n (by omega)]) (fun i _ h => stA_n h) ⟨upF_s, fun j hj => ?_⟩)
        rw [stA_s]
        by_cases hj2 : j = s.1.1
        · rw [hj2, upd_s, upd_s]
        · rw [upd_n hj2, upd_n hj2]; exact a2 j (by omega)
      · rw [if_neg hn, if_neg (fun z => hn z.2)] at hQ
        have h300 : s.1.1 = 300 := by omega
        refine pw_sipush 300 (by decide) dX11_add_22 ?_
        refine pw_icmp_ne 31 dX11_add_25 (by decide) (fun q => absurd (by rw [h300]; rfl) q) (fun _ => ?_)
        refine pw_bipush (-2) (by decide) dX11_add_28 ?_
        refine pw_iret dX11_add_30 (Or.inl rfl) ?_
        exact hQ _ _ frM_0 (MI_0 hI)
    · rw [if_neg hb, if_neg (fun z => hb z.1)] at hQ
      rw [if_neg (fun z => hb (hbe.mp z))]
      refine pw_if_ne 18 dX11_add_13 (by decide) (fun q => absurd (rfl) q) (fun _ => ?_)
      refine pw_iconst (-1) (by decide) dX11_add_16 ?_
      refine pw_iret dX11_add_17 (Or.inl rfl) ?_
      exact hQ _ _ frM_0 (MI_0 hI)
  · intro s F A hO hI
    obtain ⟨o1, o2, o3⟩ := id hO
    by_cases h : (0 ≤ b ∧ b < 256) ∧ s.1.1 < 300
    · rw [if_pos h]
      refine ⟨by show s.1.1 + 1 ≤ 300; omega, fun j hj => ?_, o3⟩
      have hj2 : j < s.1.1 + 1 := hj
      by_cases hj3 : j = s.1.1
      · obtain ⟨k, hk, e⟩ := byte_of h.1
        exact ⟨k, hk, by show upd s.1.2 s.1.1 b j = nI k; rw [hj3, upd_s, e]⟩
      · obtain ⟨k, hk, e⟩ := o2 j (by omega)
        exact ⟨k, hk, by show upd s.1.2 s.1.1 b j = nI k; rw [upd_n hj3, e]⟩
    · rw [if_neg h]
      exact hO
end
