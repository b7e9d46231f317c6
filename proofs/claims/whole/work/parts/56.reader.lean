/-! reading OUT: fault, its place, the place that is next; both sides' readers -/
abbrev RT : Type := Nat × Nat × Nat
def nxS (o : Nat) (r : RT) : RT := if r.1 = 0 then (if r.2.2 < o then (0, r.2.1, r.2.2 + 1) else (2, o, r.2.2)) else r
def nxV (O : Nat → Int32) (o : Nat) (r : RT) : Nat := if r.1 = 0 ∧ r.2.2 < o then bN (O r.2.2) else 0
def blm (w : Nat) (r : RT) : RT := if r.1 = 0 then (w, r.2.2 - 1, r.2.2) else r
/-- all that a reader's state may be -/
def rok (o : Nat) (r : RT) : Prop := r.1 ≤ 4 ∧ r.2.2 ≤ o ∧ r.2.1 ≤ o
theorem nxV_lt {O : Nat → Int32} {o : Nat} {r : RT} (hB : isB O o) : nxV O o r < 256 := by
  unfold nxV
  split
  · rename_i h
    exact (isB_bN hB h.2).2
  · omega
theorem nxS_rok {o : Nat} {r : RT} (h : rok o r) : rok o (nxS o r) := by
  obtain ⟨h1, h2, h3⟩ := h
  unfold nxS
  split
  · split
    · rename_i h5
      exact ⟨by show 0 ≤ 4; omega, h5, h3⟩
    · exact ⟨by show 2 ≤ 4; omega, h2, by show o ≤ o; omega⟩
  · exact ⟨h1, h2, h3⟩
theorem blm_rok {o w : Nat} {r : RT} (h : rok o r) (hw : w ≤ 4) : rok o (blm w r) := by
  obtain ⟨h1, h2, h3⟩ := h
  unfold blm
  split
  · exact ⟨hw, h2, by show r.2.2 - 1 ≤ o; omega⟩
  · exact ⟨h1, h2, h3⟩
theorem nxS_f {o : Nat} {r : RT} (h : ¬ r.1 = 0) : nxS o r = r := by unfold nxS; rw [if_neg h]
theorem blm_f {w : Nat} {r : RT} (h : ¬ r.1 = 0) : blm w r = r := by unfold blm; rw [if_neg h]
theorem nxV_f {O : Nat → Int32} {o : Nat} {r : RT} (h : ¬ r.1 = 0) : nxV O o r = 0 := by unfold nxV; rw [if_neg (fun z => h z.1)]
theorem nxS_0 {o : Nat} {r : RT} (h : (nxS o r).1 = 0) : r.1 = 0 ∧ r.2.2 < o ∧ nxS o r = (0, r.2.1, r.2.2 + 1) := by
  unfold nxS at h ⊢
  by_cases h1 : r.1 = 0
  · rw [if_pos h1] at h ⊢
    by_cases h2 : r.2.2 < o
    · rw [if_pos h2]; exact ⟨h1, h2, rfl⟩
    · rw [if_neg h2] at h
      exact absurd h (by show ¬ 2 = 0; omega)
  · rw [if_neg h1] at h
    exact absurd h h1
theorem blm_0 {w : Nat} {r : RT} (hw : 0 < w) : ¬ (blm w r).1 = 0 := by
  unfold blm
  split
  · show ¬ w = 0; omega
  · assumption
def RD (F : Nat → Nat → Int32) (r : RT) : Prop := F 35 4 = nI r.1 ∧ (r.1 = 0 → F 35 1 = nI r.2.2) ∧ (¬ r.1 = 0 → F 35 5 = nI r.2.1)
def RM (F : Nat → Nat → Int32) (r : RT) : Prop := F 57 27 = nI r.1 ∧ (r.1 = 0 → F 57 31 = nI r.2.2 ∧ F 57 28 = -3) ∧ (¬ r.1 = 0 → F 57 28 = nI r.2.1)
def frR (F F' : Nat → Nat → Int32) : Prop := ∀ i j, ¬ (i = 35 ∧ (j = 1 ∨ j = 4 ∨ j = 5)) → F' i j = F i j
def frN (F F' : Nat → Nat → Int32) : Prop := ∀ i j, ¬ (i = 57 ∧ (j = 27 ∨ j = 28 ∨ j = 31)) → F' i j = F i j
theorem frR_r {F : Nat → Nat → Int32} : frR F F := fun _ _ _ => rfl
theorem frN_r {F : Nat → Nat → Int32} : frN F F := fun _ _ _ => rfl
theorem frR_t {F F1 F2 : Nat → Nat → Int32} (h1 : frR F F1) (h2 : frR F1 F2) : frR F F2 := fun i j h => by rw [h2 i j h]; exact h1 i j h
theorem frN_t {F F1 F2 : Nat → Nat → Int32} (h1 : frN F F1) (h2 : frN F1 F2) : frN F F2 := fun i j h => by rw [h2 i j h]; exact h1 i j h
section
variable {Γ : Nat × (Nat → Int32)} {F A : Nat → Nat → Int32} {lo : Int64} {X : PH} {Q : Option Value → PH → Prop} {o : Nat} {O : Nat → Int32} {r : RT} {rf : Nat}
theorem c_isFine (hr : RD F r) (hk : r.1 ≤ 4) (hQ : Q (some (.int (if r.1 = 0 then 1 else 0))) (HS F A rf lo X)) : PM Γ mX5_isFine [.ref 35] (HS F A rf lo X) 0 0 Q := by
  refine PM.go (l := [_]) rfl rfl (Nat.le_of_ble_eq_true rfl) rfl ?_
  refine pw_aload_n rfl dX5_isFine_0 ?_
  refine pw_gI dX5_isFine_1 fX5_30 (by first | rfl | assumption) rfl ?_
  rw [hr.1]
  by_cases h : r.1 = 0
  · rw [if_pos h] at hQ
    refine pw_if_ne 11 dX5_isFine_4 (by decide) (fun q => absurd (by rw [h]; rfl) q) (fun _ => ?_)
    refine pw_iconst 1 (by decide) dX5_isFine_7 ?_
    refine pw_goto 12 dX5_isFine_8 (by decide) ?_
    refine pw_iret dX5_isFine_12 (Or.inr ⟨rfl, rfl⟩) ?_
    exact hQ
  · rw [if_neg h] at hQ
    refine pw_if_ne 11 dX5_isFine_4 (by decide) (fun _ => ?_) (fun q => absurd q (nI_ne0 (by omega) (by omega)))
    refine pw_iconst 0 (by decide) dX5_isFine_11 ?_
    refine pw_iret dX5_isFine_12 (Or.inr ⟨rfl, rfl⟩) ?_
    exact hQ
theorem c_blameAt {w p : Nat} (hr : RD F r) (hk : r.1 ≤ 4) (hw : 0 < w) (hQ : ∀ F', frR F F' → RD F' (if r.1 = 0 then (w, p, r.2.2) else r) → Q none (HS F' A rf lo X)) : PM Γ mX5_blameAt [.ref 35, .int (nI w), .int (nI p)] (HS F A rf lo X) 0 0 Q := by
  refine PM.go (l := [_, _, _]) rfl rfl (Nat.le_of_ble_eq_true rfl) rfl ?_
  refine pw_aload_n rfl dX5_blameAt_0 ?_
  refine pw_gI dX5_blameAt_1 fX5_30 (by first | rfl | assumption) rfl ?_
  rw [hr.1]
  by_cases h : r.1 = 0
  · refine pw_if_ne 17 dX5_blameAt_4 (by decide) (fun q => absurd (by rw [h]; rfl) q) (fun _ => ?_)
    refine pw_aload_n rfl dX5_blameAt_7 ?_
    refine pw_iload_n rfl dX5_blameAt_8 ?_
    refine pw_pI dX5_blameAt_9 fX5_30 (by first | rfl | assumption) rfl ⟨rfl, rfl⟩ ?_
    refine pw_aload_n rfl dX5_blameAt_12 ?_
    refine pw_iload_n rfl dX5_blameAt_13 ?_
    refine pw_pI dX5_blameAt_14 fX5_33 (by first | rfl | assumption) rfl ⟨rfl, rfl⟩ ?_
    refine pw_vret dX5_blameAt_17 rfl ?_
    refine hQ _ (fun i j hij => by rw [upF_n (by omega), upF_n (by omega)]) ?_
    rw [if_pos h]
    exact ⟨by rw [upF_n (by omega), upF_s], fun h9 => absurd h9 (by show ¬ w = 0; omega), fun _ => upF_s⟩
  · refine pw_if_ne 17 dX5_blameAt_4 (by decide) (fun _ => ?_) (fun q => absurd q (nI_ne0 (by omega) (by omega)))
    refine pw_vret dX5_blameAt_17 rfl ?_
    have := hQ F frR_r
    rw [if_neg h] at this
    exact this hr
theorem c_blame {w : Nat} (hr : RD F r) (hk : r.1 ≤ 4) (hw : 0 < w) (h1 : r.1 = 0 → 1 ≤ r.2.2) (hQ : ∀ F', frR F F' → RD F' (blm w r) → Q none (HS F' A rf lo X)) : PM Γ mX5_blame [.ref 35, .int (nI w)] (HS F A rf lo X) 0 0 Q := by
  refine PM.go (l := [_, _]) rfl rfl (Nat.le_of_ble_eq_true rfl) rfl ?_
  refine pw_aload_n rfl dX5_blame_0 ?_
  refine pw_iload_n rfl dX5_blame_1 ?_
  refine pw_aload_n rfl dX5_blame_2 ?_
  refine pw_gI dX5_blame_3 fX5_20 (by first | rfl | assumption) rfl ?_
  refine pw_iconst 1 (by decide) dX5_blame_6 ?_
  refine pw_isub dX5_blame_7 ?_
  by_cases h : r.1 = 0
  · have h2 := h1 h
    rw [hr.2.1 h, show nI r.2.2 - 1 = nI (r.2.2 - 1) from pk_sub (b := 1) h2]
    refine pc_V2 dX5_blame_8 lX5_44 rfl rfl (by decide) (Nat.le_of_ble_eq_true rfl) ?_
    refine c_blameAt hr hk hw ?_
    intro F' hf hR
    refine pw_vret dX5_blame_11 rfl ?_
    exact hQ F' hf hR
  · obtain ⟨p, hp⟩ := of_nI (F 35 1 - 1)
    rw [hp]
    refine pc_V2 dX5_blame_8 lX5_44 rfl rfl (by decide) (Nat.le_of_ble_eq_true rfl) ?_
    refine c_blameAt hr hk hw ?_
    intro F' hf hR
    refine pw_vret dX5_blame_11 rfl ?_
    rw [if_neg h] at hR
    refine hQ F' hf ?_
    rw [blm_f h]
    exact hR
theorem c_next (hO : OX F A o O) (ho : o ≤ 1024) (hB : isB O o) (hr : RD F r) (hk : rok o r) (hQ : ∀ F', frR F F' → RD F' (nxS o r) → Q (some (.int (nI (nxV O o r)))) (HS F' A 3 lo X)) : PM Γ mX5_next [.ref 35] (HS F A 3 lo X) 0 0 Q := by
  obtain ⟨k1, k2, k3⟩ := hk
  refine PM.go (l := [_]) rfl rfl (Nat.le_of_ble_eq_true rfl) rfl ?_
  refine pw_aload_n rfl dX5_next_0 ?_
  refine pw_gI dX5_next_1 fX5_30 (by first | rfl | assumption) rfl ?_
  rw [hr.1]
  by_cases h : r.1 = 0
  · unfold nxS nxV at hQ
    rw [if_pos h] at hQ
    refine pw_if_eq 9 dX5_next_4 (by decide) (fun _ => ?_) (fun q => absurd ((by rw [h]; rfl)) q)
    refine pw_aload_n rfl dX5_next_9 ?_
    refine pw_gR dX5_next_10 fX5_14 (by first | rfl | assumption) rfl ?_
    rw [show srf 3 999 = 3 from rfl]
    refine pw_aload_n rfl dX5_next_13 ?_
    refine pw_gI dX5_next_14 fX5_20 (by first | rfl | assumption) rfl ?_
    rw [hr.2.1 h]
    refine pc_V1 dX5_next_17 lX5_36 rfl (by first | rfl | assumption) (by decide) (Nat.le_of_ble_eq_true rfl) ?_
    refine c_has row3 ?_
    rw [hO.1]
    by_cases h2 : r.2.2 < o
    · rw [if_pos h2, if_pos ⟨h, h2⟩] at hQ
      rw [if_pos ⟨nI_pos' (by omega), nI_lt h2 (by omega)⟩]
      refine pw_if_ne 37 dX5_next_20 (by decide) (fun _ => ?_) (fun q => absurd q (by decide))
      refine pw_aload_n rfl dX5_next_37 ?_
      refine pw_dup rfl dX5_next_38 ?_
      refine pw_gI dX5_next_39 fX5_20 (by first | rfl | assumption) rfl ?_
      rw [hr.2.1 h]
      refine pw_iconst 1 (by decide) dX5_next_42 ?_
      refine pw_iadd dX5_next_43 ?_
      refine pw_pI dX5_next_44 fX5_20 (by first | rfl | assumption) rfl ⟨rfl, rfl⟩ ?_
      refine pw_aload_n rfl dX5_next_47 ?_
      refine pw_gR dX5_next_48 fX5_14 (by first | rfl | assumption) rfl ?_
      rw [nI_1, show srf 3 999 = 3 from rfl]
      refine pw_aload_n rfl dX5_next_51 ?_
      refine pw_gI dX5_next_52 fX5_20 (by first | rfl | assumption) rfl ?_
      rw [upF_s]
      refine pw_iconst 1 (by decide) dX5_next_55 ?_
      refine pw_isub dX5_next_56 ?_
      rw [show nI (r.2.2 + 1) - 1 = nI r.2.2 from pk_sub (a := r.2.2 + 1) (b := 1) (by omega)]
      refine pc_V1 dX5_next_57 lX5_48 rfl (by first | rfl | assumption) (by decide) (Nat.le_of_ble_eq_true rfl) ?_
      refine c_get row3 (by rw [upF_n (by omega)]; exact hO.1) ho rfl h2 ?_
      refine pw_iret dX5_next_60 (Or.inl rfl) ?_
      rw [hO.2 _ h2, (isB_bN hB h2).1]
      exact hQ _ (fun i j hij => upF_n (by omega)) ⟨by rw [upF_n (by omega), hr.1, h], fun _ => upF_s, fun h9 => absurd rfl h9⟩
    · rw [if_neg h2, if_neg (fun z => h2 z.2)] at hQ
      rw [if_neg (fun z => nI_nlt (by omega) (by omega) z.2)]
      refine pw_if_ne 37 dX5_next_20 (by decide) (fun q => absurd (rfl) q) (fun _ => ?_)
      refine pw_aload_n rfl dX5_next_23 ?_
      refine pw_iconst 2 (by decide) dX5_next_24 ?_
      refine pw_aload_n rfl dX5_next_25 ?_
      refine pw_gR dX5_next_26 fX5_14 (by first | rfl | assumption) rfl ?_
      rw [show srf 3 999 = 3 from rfl]
      refine pc_V0 dX5_next_29 lX5_40 rfl (by first | rfl | assumption) (by decide) (Nat.le_of_ble_eq_true rfl) ?_
      refine c_count row3 ?_
      rw [hO.1]
      refine pc_V2 dX5_next_32 lX5_44 rfl rfl (by decide) (Nat.le_of_ble_eq_true rfl) ?_
      refine c_blameAt (w := 2) hr k1 (by omega) ?_
      intro F' hf hR
      rw [if_pos h] at hR
      refine pw_iconst 0 (by decide) dX5_next_35 ?_
      refine pw_iret dX5_next_36 (Or.inl rfl) ?_
      exact hQ F' hf hR
  · refine pw_if_eq 9 dX5_next_4 (by decide) (fun q => absurd q (nI_ne0 (by omega) (by omega))) (fun _ => ?_)
    refine pw_iconst 0 (by decide) dX5_next_7 ?_
    refine pw_iret dX5_next_8 (Or.inl rfl) ?_
    have := hQ F frR_r
    rw [nxS_f h, nxV_f h] at this
    exact this hr
theorem m_fail {w p : Nat} (hr : RM F r) (hk : r.1 ≤ 4) (hw : 0 < w) (hQ : ∀ F', frN F F' → RM F' (if r.1 = 0 then (w, p, r.2.2) else r) → Q none (HS F' A rf lo X)) : PM Γ mX11_fail [.ref 57, .int (nI w), .int (nI p)] (HS F A rf lo X) 0 0 Q := by
  refine PM.go (l := [_, _, _]) rfl rfl (Nat.le_of_ble_eq_true rfl) rfl ?_
  refine pw_aload_n rfl dX11_fail_0 ?_
  refine pw_gI dX11_fail_1 fX11_201 (by first | rfl | assumption) rfl ?_
  rw [hr.1]
  by_cases h : r.1 = 0
  · refine pw_if_ne 17 dX11_fail_4 (by decide) (fun q => absurd (by rw [h]; rfl) q) (fun _ => ?_)
    refine pw_aload_n rfl dX11_fail_7 ?_
    refine pw_iload_n rfl dX11_fail_8 ?_
    refine pw_pI dX11_fail_9 fX11_201 (by first | rfl | assumption) rfl ⟨rfl, rfl⟩ ?_
    refine pw_aload_n rfl dX11_fail_12 ?_
    refine pw_iload_n rfl dX11_fail_13 ?_
    refine pw_pI dX11_fail_14 fX11_58 (by first | rfl | assumption) rfl ⟨rfl, rfl⟩ ?_
    refine pw_vret dX11_fail_17 rfl ?_
    refine hQ _ (fun i j hij => by rw [upF_n (by omega), upF_n (by omega)]) ?_
    rw [if_pos h]
    exact ⟨by rw [upF_n (by omega), upF_s], fun h9 => absurd h9 (by show ¬ w = 0; omega), fun _ => upF_s⟩
  · refine pw_if_ne 17 dX11_fail_4 (by decide) (fun _ => ?_) (fun q => absurd q (nI_ne0 (by omega) (by omega)))
    refine pw_vret dX11_fail_17 rfl ?_
    have := hQ F frN_r
    rw [if_neg h] at this
    exact this hr
theorem m_next (hO : OM F A o O) (ho : o ≤ 1024) (hB : isB O o) (hr : RM F r) (hk : rok o r) (hQ : ∀ F', frN F F' → RM F' (nxS o r) → Q (some (.int (nI (nxV O o r)))) (HS F' A rf lo X)) : PM Γ mX11_next [.ref 57] (HS F A rf lo X) 0 0 Q := by
  obtain ⟨k1, k2, k3⟩ := hk
  refine PM.go (l := [_]) rfl rfl (Nat.le_of_ble_eq_true rfl) rfl ?_
  refine pw_aload_n rfl dX11_next_0 ?_
  refine pw_gI dX11_next_1 fX11_201 (by first | rfl | assumption) rfl ?_
  rw [hr.1]
  by_cases h : r.1 = 0
  · unfold nxS nxV at hQ
    rw [if_pos h] at hQ
    refine pw_if_ne 18 dX11_next_4 (by decide) (fun q => absurd (by rw [h]; rfl) q) (fun _ => ?_)
    refine pw_aload_n rfl dX11_next_7 ?_
    refine pw_gI dX11_next_8 fX11_204 (by first | rfl | assumption) rfl ?_
    rw [(hr.2.1 h).1]
    refine pw_aload_n rfl dX11_next_11 ?_
    refine pw_gI dX11_next_12 fX11_80 (by first | rfl | assumption) rfl ?_
    rw [hO.1]
    by_cases h2 : r.2.2 < o
    · rw [if_pos h2, if_pos ⟨h, h2⟩] at hQ
      refine pw_icmp_lt 29 dX11_next_15 (by decide) (fun _ => ?_) (fun q => absurd (nI_lt h2 (by omega)) q)
      refine pw_aload_n rfl dX11_next_29 ?_
      refine pw_dup rfl dX11_next_30 ?_
      refine pw_gI dX11_next_31 fX11_204 (by first | rfl | assumption) rfl ?_
      rw [(hr.2.1 h).1]
      refine pw_iconst 1 (by decide) dX11_next_34 ?_
      refine pw_iadd dX11_next_35 ?_
      refine pw_pI dX11_next_36 fX11_204 (by first | rfl | assumption) rfl ⟨rfl, rfl⟩ ?_
      refine pw_aload_n rfl dX11_next_39 ?_
      refine pw_gC dX11_next_40 fX11_13 (by first | rfl | assumption) rfl (by first | rfl | assumption) ?_
      refine pw_aload_n rfl dX11_next_43 ?_
      refine pw_gI dX11_next_44 fX11_204 (by first | rfl | assumption) rfl ?_
      rw [upF_s, nI_1]
      refine pw_iconst 1 (by decide) dX11_next_47 ?_
      refine pw_isub dX11_next_48 ?_
      rw [show nI (r.2.2 + 1) - 1 = nI r.2.2 from pk_sub (a := r.2.2 + 1) (b := 1) (by omega)]
      refine pw_aI dX11_next_49 (by first | rfl | assumption) (by first | assumption | exact vp_in_nI (by omega) (by omega)) ?_
      refine pw_iret dX11_next_50 (Or.inl rfl) ?_
      rw [nI_clamp (by omega), hO.2 _ h2, (isB_bN hB h2).1]
      exact hQ _ (fun i j hij => upF_n (by omega)) ⟨by rw [upF_n (by omega), hr.1, h], fun _ => ⟨upF_s, by rw [upF_n (by omega)]; exact (hr.2.1 h).2⟩, fun h9 => absurd rfl h9⟩
    · rw [if_neg h2, if_neg (fun z => h2 z.2)] at hQ
      refine pw_icmp_lt 29 dX11_next_15 (by decide) (fun q => absurd q (nI_nlt (by omega) (by omega))) (fun _ => ?_)
      refine pw_aload_n rfl dX11_next_18 ?_
      refine pw_iconst 2 (by decide) dX11_next_19 ?_
      refine pw_aload_n rfl dX11_next_20 ?_
      refine pw_gI dX11_next_21 fX11_80 (by first | rfl | assumption) rfl ?_
      rw [hO.1]
      refine pc_V2 dX11_next_24 lX11_207 rfl rfl (by decide) (Nat.le_of_ble_eq_true rfl) ?_
      refine m_fail (w := 2) hr k1 (by omega) ?_
      intro F' hf hR
      rw [if_pos h] at hR
      refine pw_iconst 0 (by decide) dX11_next_27 ?_
      refine pw_iret dX11_next_28 (Or.inl rfl) ?_
      exact hQ F' hf hR
  · have hq := hQ
    rw [nxS_f h, nxV_f h] at hq
    refine pw_if_ne 18 dX11_next_4 (by decide) (fun _ => ?_) (fun q => absurd q (nI_ne0 (by omega) (by omega)))
    refine pw_aload_n rfl dX11_next_18 ?_
    refine pw_iconst 2 (by decide) dX11_next_19 ?_
    refine pw_aload_n rfl dX11_next_20 ?_
    refine pw_gI dX11_next_21 fX11_80 (by first | rfl | assumption) rfl ?_
    rw [hO.1]
    refine pc_V2 dX11_next_24 lX11_207 rfl rfl (by decide) (Nat.le_of_ble_eq_true rfl) ?_
    refine m_fail (w := 2) hr k1 (by omega) ?_
    intro F' hf hR
    rw [if_neg h] at hR
    refine pw_iconst 0 (by decide) dX11_next_27 ?_
    refine pw_iret dX11_next_28 (Or.inl rfl) ?_
    exact hq F' hf hR
/-- must: what is wrong is a fault of the byte that was read last -/
def mus (b : Prop) [Decidable b] (w : Nat) (r : RT) : RT := if b then r else blm w r
theorem m_must {w : Nat} {x : Int32} (hr : RM F r) (hk : r.1 ≤ 4) (hw : 0 < w) (h1 : r.1 = 0 → 1 ≤ r.2.2) (hQ : ∀ F', frN F F' → RM F' (if x = 0 then blm w r else r) → Q none (HS F' A rf lo X)) : PM Γ mX11_must [.ref 57, .int x, .int (nI w)] (HS F A rf lo X) 0 0 Q := by
  refine PM.go (l := [_, _, _]) rfl rfl (Nat.le_of_ble_eq_true rfl) rfl ?_
  refine pw_iload_n rfl dX11_must_0 ?_
  by_cases hx : x = 0
  · rw [if_pos hx] at hQ
    refine pw_if_ne 15 dX11_must_1 (by decide) (fun q => absurd (hx) q) (fun _ => ?_)
    refine pw_aload_n rfl dX11_must_4 ?_
    refine pw_iload_n rfl dX11_must_5 ?_
    refine pw_aload_n rfl dX11_must_6 ?_
    refine pw_gI dX11_must_7 fX11_204 (by first | rfl | assumption) rfl ?_
    refine pw_iconst 1 (by decide) dX11_must_10 ?_
    refine pw_isub dX11_must_11 ?_
    by_cases h : r.1 = 0
    · have h2 := h1 h
      rw [(hr.2.1 h).1, show nI r.2.2 - 1 = nI (r.2.2 - 1) from pk_sub (b := 1) h2]
      refine pc_V2 dX11_must_12 lX11_207 rfl rfl (by decide) (Nat.le_of_ble_eq_true rfl) ?_
      refine m_fail hr hk hw ?_
      intro F' hf hR
      refine pw_vret dX11_must_15 rfl ?_
      exact hQ F' hf hR
    · obtain ⟨p, hp⟩ := of_nI (F 57 31 - 1)
      rw [hp]
      refine pc_V2 dX11_must_12 lX11_207 rfl rfl (by decide) (Nat.le_of_ble_eq_true rfl) ?_
      refine m_fail hr hk hw ?_
      intro F' hf hR
      refine pw_vret dX11_must_15 rfl ?_
      rw [if_neg h] at hR
      refine hQ F' hf ?_
      rw [blm_f h]
      exact hR
  · rw [if_neg hx] at hQ
    refine pw_if_ne 15 dX11_must_1 (by decide) (fun _ => ?_) (fun q => absurd q (hx))
    refine pw_vret dX11_must_15 rfl ?_
    exact hQ F frN_r hr
end
