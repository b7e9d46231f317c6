/-! reading bits: pure; both sides' bit, endBits -/
abbrev UT : Type := RT × Nat
def btS (o : Nat) (s : UT) : UT := if s.2 = 0 then (nxS o s.1, 7) else (s.1, s.2 - 1)
def btV (O : Nat → Int32) (o : Nat) (s : UT) : Nat := if (btS o s).1.1 = 0 then bN (O ((btS o s).1.2.2 - 1)) / 2 ^ (btS o s).2 % 2 else 0
def uok (o : Nat) (s : UT) : Prop := rok o s.1 ∧ s.2 < 8 ∧ (s.1.1 = 0 → 1 ≤ s.1.2.2)
theorem btS_ok {o : Nat} {s : UT} (h : uok o s) : uok o (btS o s) := by
  obtain ⟨h1, h2, h3⟩ := h
  unfold btS
  split
  · exact ⟨nxS_rok h1, by show 7 < 8; omega, fun h => by
      have e := (nxS_0 h).2.2
      show 1 ≤ (nxS o s.1).2.2
      rw [e]
      show 1 ≤ s.1.2.2 + 1
      omega⟩
  · exact ⟨h1, by show s.2 - 1 < 8; omega, h3⟩
theorem btS_f {o : Nat} {s : UT} (h : ¬ s.1.1 = 0) : (btS o s).1 = s.1 := by
  unfold btS
  split
  · exact nxS_f h
  · rfl
theorem btS_0 {o : Nat} {s : UT} (h : (btS o s).1.1 = 0) : s.1.1 = 0 := by
  by_cases h1 : s.1.1 = 0
  · exact h1
  · rw [btS_f h1] at h; exact h
theorem btV_lt {O : Nat → Int32} {o : Nat} {s : UT} : btV O o s < 2 := by
  unfold btV
  split
  · exact Nat.mod_lt _ (by omega)
  · omega
def ebR (O : Nat → Int32) (s : UT) : RT := if s.1.1 = 0 ∧ ¬ bN (O (s.1.2.2 - 1)) % 2 ^ s.2 = 0 then blm 4 s.1 else s.1
theorem ebR_f {O : Nat → Int32} {s : UT} (h : ¬ s.1.1 = 0) : ebR O s = s.1 := by unfold ebR; rw [if_neg (fun z => h z.1)]
theorem ebR_0 {O : Nat → Int32} {s : UT} (h : (ebR O s).1 = 0) : s.1.1 = 0 ∧ ebR O s = s.1 := by
  unfold ebR at h ⊢
  by_cases h1 : s.1.1 = 0 ∧ ¬ bN (O (s.1.2.2 - 1)) % 2 ^ s.2 = 0
  · rw [if_pos h1] at h
    exact absurd h (blm_0 (by omega))
  · rw [if_neg h1] at h ⊢
    exact ⟨h, rfl⟩
theorem ebR_ok {O : Nat → Int32} {o : Nat} {s : UT} (h : rok o s.1) : rok o (ebR O s) := by
  unfold ebR
  split
  · exact blm_rok h (by omega)
  · exact h
/-- the object's side -/
def CU (O : Nat → Int32) (F : Nat → Nat → Int32) (s : UT) : Prop := RD F s.1 ∧ ∃ lf h, F 35 3 = nI lf ∧ lf < 8 ∧ F 35 2 = nI h ∧ h < 256 ∧ (s.1.1 = 0 → lf = s.2 ∧ (0 < lf → h = bN (O (s.1.2.2 - 1))))
def frS (F F' : Nat → Nat → Int32) : Prop := ∀ i j, ¬ i = 35 → F' i j = F i j
theorem frS_r {F : Nat → Nat → Int32} : frS F F := fun _ _ _ => rfl
theorem frS_t {F F1 F2 : Nat → Nat → Int32} (h1 : frS F F1) (h2 : frS F1 F2) : frS F F2 := fun i j h => by rw [h2 i j h]; exact h1 i j h
theorem frS_R {F F1 : Nat → Nat → Int32} (h : frR F F1) : frS F F1 := fun i j k => h i j (by omega)
theorem CU_f {O : Nat → Int32} {F : Nat → Nat → Int32} {s t : UT} (h : ¬ s.1.1 = 0) (e : t.1 = s.1) (hC : CU O F t) : CU O F s := by
  obtain ⟨hR, lf, k, c1, c2, c3, c4, c5⟩ := hC
  rw [e] at hR
  exact ⟨hR, lf, k, c1, c2, c3, c4, fun h9 => absurd h9 h⟩
theorem CU_bl {O : Nat → Int32} {F F' : Nat → Nat → Int32} {s : UT} {w : Nat} (hw : 0 < w) (hf : frR F F') (hR : RD F' (blm w s.1)) (hC : CU O F s) : CU O F' (blm w s.1, s.2) := by
  obtain ⟨_, lf, k, c1, c2, c3, c4, c5⟩ := hC
  exact ⟨hR, lf, k, by rw [hf 35 3 (by omega)]; exact c1, c2, by rw [hf 35 2 (by omega)]; exact c3, c4, fun h9 => absurd h9 (blm_0 hw)⟩
theorem CU_35 {O : Nat → Int32} {F F' : Nat → Nat → Int32} {s : UT} (h : ∀ j, F' 35 j = F 35 j) (hC : CU O F s) : CU O F' s := by
  obtain ⟨hR, lf, k, c1, c2, c3, c4, c5⟩ := hC
  exact ⟨⟨by rw [h]; exact hR.1, fun z => by rw [h]; exact hR.2.1 z, fun z => by rw [h]; exact hR.2.2 z⟩, lf, k, by rw [h]; exact c1, c2, by rw [h]; exact c3, c4, c5⟩
section
variable {Γ : Nat × (Nat → Int32)} {F A : Nat → Nat → Int32} {lo : Int64} {X : PH} {Q : Option Value → PH → Prop} {o : Nat} {O : Nat → Int32} {s : UT} {rf : Nat}
theorem c_bit (hO : OX F A o O) (ho : o ≤ 1024) (hB : isB O o) (hC : CU O F s) (hk : uok o s) (hQ : ∀ F' v, frS F F' → CU O F' (btS o s) → v < 2 → ((btS o s).1.1 = 0 → v = btV O o s) → Q (some (.int (nI v))) (HS F' A 3 lo X)) : PM Γ mX5_bit [.ref 35] (HS F A 3 lo X) 0 0 Q := by
  obtain ⟨hR, lf, h, c1, c2, c3, c4, c5⟩ := id hC
  have go : ∀ (F1 : Nat → Nat → Int32) (l1 h1 : Nat), frS F F1 → RD F1 (btS o s).1 → F1 35 3 = nI (l1 + 1) → l1 < 8 → F1 35 2 = nI h1 → h1 < 256 → ((btS o s).1.1 = 0 → l1 = (btS o s).2 ∧ h1 = bN (O ((btS o s).1.2.2 - 1))) → PW Γ mX5_bit 21 [.ref 35] [] (HS F1 A 3 lo X) 0 0 Q := by
    intro F1 l1 h1 hf r1 d1 d2 d3 d4 d5
    refine pw_aload_n rfl dX5_bit_21 ?_
    refine pw_dup rfl dX5_bit_22 ?_
    refine pw_gI dX5_bit_23 fX5_27 (by first | rfl | assumption) rfl ?_
    rw [d1]
    refine pw_iconst 1 (by decide) dX5_bit_26 ?_
    refine pw_isub dX5_bit_27 ?_
    rw [show nI (l1 + 1) - 1 = nI l1 from pk_sub (a := l1 + 1) (b := 1) (by omega)]
    refine pw_pI dX5_bit_28 fX5_27 (by first | rfl | assumption) rfl ⟨rfl, rfl⟩ ?_
    refine pw_aload_n rfl dX5_bit_31 ?_
    refine pw_gI dX5_bit_32 fX5_24 (by first | rfl | assumption) rfl ?_
    refine pw_aload_n rfl dX5_bit_35 ?_
    refine pw_gI dX5_bit_36 fX5_27 (by first | rfl | assumption) rfl ?_
    rw [upF_s, upF_n (by omega), d3]
    refine pw_ishr dX5_bit_39 ?_
    rw [nI_shr (by omega) (by omega)]
    refine pw_iconst 1 (by decide) dX5_bit_40 ?_
    refine pw_iand dX5_bit_41 ?_
    rw [nI_and1 (Nat.lt_of_le_of_lt (Nat.div_le_self _ _) (by omega))]
    refine pw_iret dX5_bit_42 (Or.inl rfl) ?_
    refine hQ _ _ (fun i j hi => by rw [upF_n (by omega)]; exact hf i j hi) ⟨⟨by rw [upF_n (by omega)]; exact r1.1, fun z => by rw [upF_n (by omega)]; exact r1.2.1 z, fun z => by rw [upF_n (by omega)]; exact r1.2.2 z⟩, l1, h1, upF_s, d2, by rw [upF_n (by omega)]; exact d3, d4, fun z => ⟨(d5 z).1, fun _ => (d5 z).2⟩⟩ (Nat.mod_lt _ (by omega)) (fun z => ?_)
    unfold btV
    rw [if_pos z, (d5 z).1, (d5 z).2]
  refine PM.go (l := [_]) rfl rfl (Nat.le_of_ble_eq_true rfl) rfl ?_
  refine pw_aload_n rfl dX5_bit_0 ?_
  refine pw_gI dX5_bit_1 fX5_27 (by first | rfl | assumption) rfl ?_
  rw [c1]
  by_cases h0 : lf = 0
  · have e1 : (btS o s).1 = nxS o s.1 := by
      by_cases hf : s.1.1 = 0
      · have := (c5 hf).1
        unfold btS
        rw [if_pos (by omega)]
      · rw [btS_f hf, nxS_f hf]
    refine pw_if_ne 21 dX5_bit_4 (by decide) (fun q => absurd (by rw [h0]; rfl) q) (fun _ => ?_)
    refine pw_aload_n rfl dX5_bit_7 ?_
    refine pw_aload_n rfl dX5_bit_8 ?_
    refine pc_V0 dX5_bit_9 lX5_52 rfl rfl (by decide) (Nat.le_of_ble_eq_true rfl) ?_
    refine c_next hO ho hB hR hk.1 ?_
    intro F1 hf1 hR1
    refine pw_pI dX5_bit_12 fX5_24 (by first | rfl | assumption) rfl ⟨rfl, rfl⟩ ?_
    refine pw_aload_n rfl dX5_bit_15 ?_
    refine pw_bipush 8 (by decide) dX5_bit_16 ?_
    refine pw_pI dX5_bit_18 fX5_27 (by first | rfl | assumption) rfl ⟨rfl, rfl⟩ ?_
    refine go _ 7 (nxV O o s.1) (fun i j hi => by rw [upF_n (by omega), upF_n (by omega)]; exact hf1 i j (by omega)) ?_ ?_ (by omega) ?_ (nxV_lt hB) ?_
    · rw [e1]
      exact ⟨by rw [upF_n (by omega), upF_n (by omega)]; exact hR1.1, fun z => by rw [upF_n (by omega), upF_n (by omega)]; exact hR1.2.1 z, fun z => by rw [upF_n (by omega), upF_n (by omega)]; exact hR1.2.2 z⟩
    · rw [upF_s]; rfl
    · rw [upF_n (by omega), upF_s]
    · intro z
      have z0 := z
      rw [e1] at z0
      obtain ⟨z1, z2, z3⟩ := nxS_0 z0
      have z4 := (c5 z1).1
      refine ⟨?_, ?_⟩
      · unfold btS
        rw [if_pos (by omega)]
      · rw [e1, z3]
        show nxV O o s.1 = bN (O (s.1.2.2 + 1 - 1))
        unfold nxV
        rw [if_pos ⟨z1, z2⟩, Nat.add_sub_cancel]
  · have e1 : (btS o s).1 = s.1 := by
      by_cases hf : s.1.1 = 0
      · have := (c5 hf).1
        unfold btS
        rw [if_neg (by omega)]
      · exact btS_f hf
    refine pw_if_ne 21 dX5_bit_4 (by decide) (fun _ => ?_) (fun q => absurd q (nI_ne0 (by omega) (by omega)))
    refine go F (lf - 1) h frS_r (by rw [e1]; exact hR) (by rw [c1, Nat.sub_add_cancel (by omega)]) (by omega) c3 c4 ?_
    intro z
    have z1 := btS_0 z
    have z4 := c5 z1
    rw [e1]
    refine ⟨?_, z4.2 (by omega)⟩
    unfold btS
    rw [if_neg (by omega)]
    show lf - 1 = s.2 - 1
    omega
theorem msk : ∀ lf : Fin 8, (nI (1 * 2 ^ lf.val - 1)).toBitVec.toNat = 2 ^ lf.val - 1 := by decide
theorem c_endBits (hC : CU O F s) (hk : uok o s) (hQ : ∀ F', frR F F' → RD F' (ebR O s) → Q none (HS F' A rf lo X)) : PM Γ mX5_endBits [.ref 35] (HS F A rf lo X) 0 0 Q := by
  obtain ⟨hR, lf, h, c1, c2, c3, c4, c5⟩ := id hC
  have hp : 2 ^ lf ≤ 2 ^ 7 := Nat.pow_le_pow_right (by omega) (by omega)
  have hp1 := Nat.two_pow_pos lf
  refine PM.go (l := [_]) rfl rfl (Nat.le_of_ble_eq_true rfl) rfl ?_
  refine pw_aload_n rfl dX5_endBits_0 ?_
  refine pw_gI dX5_endBits_1 fX5_24 (by first | rfl | assumption) rfl ?_
  refine pw_iconst 1 (by decide) dX5_endBits_4 ?_
  refine pw_aload_n rfl dX5_endBits_5 ?_
  refine pw_gI dX5_endBits_6 fX5_27 (by first | rfl | assumption) rfl ?_
  rw [c3, c1, show (1 : Int32) = nI 1 from rfl]
  refine pw_ishl dX5_endBits_9 ?_
  rw [nI_shl (by omega) (by omega)]
  refine pw_iconst 1 (by decide) dX5_endBits_10 ?_
  refine pw_isub dX5_endBits_11 ?_
  rw [show nI (1 * 2 ^ lf) - 1 = nI (1 * 2 ^ lf - 1) from pk_sub (b := 1) (by omega)]
  refine pw_iand dX5_endBits_12 ?_
  rw [pk_andN (by omega) lf (msk ⟨lf, c2⟩)]
  have hm : h % 2 ^ lf < 256 := Nat.lt_of_le_of_lt (Nat.mod_le _ _) c4
  by_cases hz : h % 2 ^ lf = 0
  · refine pw_if_eq 21 dX5_endBits_13 (by decide) (fun _ => ?_) (fun q => absurd (by rw [hz]; rfl) q)
    refine pw_vret dX5_endBits_21 rfl ?_
    have e : ebR O s = s.1 := by
      unfold ebR
      rw [if_neg]
      intro ⟨k1, k2⟩
      obtain ⟨e1, e2⟩ := c5 k1
      by_cases hl : lf = 0
      · rw [← e1, hl] at k2
        exact k2 (Nat.mod_one _)
      · rw [← e1, ← e2 (by omega)] at k2
        exact k2 hz
    refine hQ F frR_r ?_
    rw [e]
    exact hR
  · refine pw_if_eq 21 dX5_endBits_13 (by decide) (fun q => absurd q (nI_ne0 (by omega) (by omega))) (fun _ => ?_)
    refine pw_aload_n rfl dX5_endBits_16 ?_
    refine pw_iconst 4 (by decide) dX5_endBits_17 ?_
    refine pc_V1 dX5_endBits_18 lX5_55 rfl rfl (by decide) (Nat.le_of_ble_eq_true rfl) ?_
    refine c_blame (w := 4) hR hk.1.1 (by omega) hk.2.2 ?_
    intro F' hf' hR'
    refine pw_vret dX5_endBits_21 rfl ?_
    refine hQ F' hf' ?_
    by_cases k1 : s.1.1 = 0
    · obtain ⟨e1, e2⟩ := c5 k1
      have hl : 0 < lf := by
        rcases Nat.eq_zero_or_pos lf with h9 | h9
        · rw [h9] at hz
          exact absurd (Nat.mod_one _) hz
        · exact h9
      unfold ebR
      rw [if_pos ⟨k1, by rw [← e1, ← e2 hl]; exact hz⟩]
      exact hR'
    · rw [ebR_f k1]
      rw [blm_f k1] at hR'
      exact hR'
end
/-- the reference's side -/
def MU (F : Nat → Nat → Int32) (s : UT) : Prop := RM F s.1 ∧ ∃ u, F 57 34 = nI u ∧ u ≤ 8 ∧ (s.1.1 = 0 → u = 8 - s.2)
def frY (F F' : Nat → Nat → Int32) : Prop := ∀ i j, ¬ (i = 57 ∧ (j = 27 ∨ j = 28 ∨ j = 31 ∨ j = 34)) → F' i j = F i j
theorem frY_r {F : Nat → Nat → Int32} : frY F F := fun _ _ _ => rfl
theorem frY_t {F F1 F2 : Nat → Nat → Int32} (h1 : frY F F1) (h2 : frY F1 F2) : frY F F2 := fun i j h => by rw [h2 i j h]; exact h1 i j h
theorem frY_N {F F1 : Nat → Nat → Int32} (h : frN F F1) : frY F F1 := fun i j k => h i j (by omega)
theorem MU_bl {F F' : Nat → Nat → Int32} {s : UT} {r : RT} (hf : frN F F') (hR : RM F' r) (h : r.1 = 0 → s.1.1 = 0) (hC : MU F s) : MU F' (r, s.2) := by
  obtain ⟨_, u, c1, c2, c3⟩ := hC
  exact ⟨hR, u, by rw [hf 57 34 (by omega)]; exact c1, c2, fun z => c3 (h z)⟩
section
variable {Γ : Nat × (Nat → Int32)} {F A : Nat → Nat → Int32} {lo : Int64} {X : PH} {Q : Option Value → PH → Prop} {o : Nat} {O : Nat → Int32} {s : UT} {rf : Nat}
theorem m_bit (hO : OM F A o O) (ho : o ≤ 1024) (hB : isB O o) (hC : MU F s) (hk : uok o s) (hQ : ∀ F', frY F F' → MU F' (btS o s) → Q (some (.int (nI (btV O o s)))) (HS F' A rf lo X)) : PM Γ mX11_bit [.ref 57] (HS F A rf lo X) 0 0 Q := by
  obtain ⟨hR, u, c1, c2, c3⟩ := id hC
  have hkb := btS_ok hk
  have go : ∀ (F1 : Nat → Nat → Int32) (u1 : Nat) (g : Value), frY F F1 → RM F1 (btS o s).1 → F1 57 34 = nI u1 → u1 ≤ 7 → ((btS o s).1.1 = 0 → u1 + 1 = 8 - (btS o s).2) → PW Γ mX11_bit 19 [.ref 57, g] [] (HS F1 A rf lo X) 0 0 Q := by
    intro F1 u1 g hf r1 d1 d2 d3
    refine pw_aload_n rfl dX11_bit_19 ?_
    refine pw_dup rfl dX11_bit_20 ?_
    refine pw_gI dX11_bit_21 fX11_210 (by first | rfl | assumption) rfl ?_
    rw [d1]
    refine pw_iconst 1 (by decide) dX11_bit_24 ?_
    refine pw_iadd dX11_bit_25 ?_
    refine pw_pI dX11_bit_26 fX11_210 (by first | rfl | assumption) rfl ⟨rfl, rfl⟩ ?_
    refine pw_aload_n rfl dX11_bit_29 ?_
    refine pw_gI dX11_bit_30 fX11_201 (by first | rfl | assumption) rfl ?_
    rw [nI_1, upF_n (by omega), r1.1]
    have hM : MU (upF F1 57 34 (nI (u1 + 1))) (btS o s) := ⟨⟨by rw [upF_n (by omega)]; exact r1.1, fun z => by rw [upF_n (by omega), upF_n (by omega)]; exact r1.2.1 z, fun z => by rw [upF_n (by omega)]; exact r1.2.2 z⟩, u1 + 1, upF_s, by omega, d3⟩
    have hY : frY F (upF F1 57 34 (nI (u1 + 1))) := fun i j hi => by rw [upF_n (by omega)]; exact hf i j hi
    by_cases z : (btS o s).1.1 = 0
    · refine pw_if_eq 40 dX11_bit_33 (by decide) (fun _ => ?_) (fun q => absurd (by rw [z]; rfl) q)
      refine pw_aload_n rfl dX11_bit_40 ?_
      refine pw_gC dX11_bit_41 fX11_13 (by first | rfl | assumption) rfl (by first | rfl | assumption) ?_
      refine pw_aload_n rfl dX11_bit_44 ?_
      refine pw_gI dX11_bit_45 fX11_204 (by first | rfl | assumption) rfl ?_
      have k1 := hkb.2.2 z
      have k2 := hkb.1.2.1
      have k3 := hkb.2.1
      have d4 := d3 z
      rw [upF_n (by omega), (r1.2.1 z).1]
      refine pw_iconst 1 (by decide) dX11_bit_48 ?_
      refine pw_isub dX11_bit_49 ?_
      rw [show nI (btS o s).1.2.2 - 1 = nI ((btS o s).1.2.2 - 1) from pk_sub (b := 1) (by omega)]
      refine pw_aI dX11_bit_50 (by first | rfl | assumption) (by first | assumption | exact vp_in_nI (by omega) (by omega)) ?_
      refine pw_bipush 8 (by decide) dX11_bit_51 ?_
      refine pw_aload_n rfl dX11_bit_53 ?_
      refine pw_gI dX11_bit_54 fX11_210 (by first | rfl | assumption) rfl ?_
      rw [nI_clamp (by omega), hO.2 _ (by omega), (isB_bN hB (show (btS o s).1.2.2 - 1 < o by omega)).1, upF_s, show (8 : Int32) = nI 8 from rfl]
      have hb := (isB_bN hB (show (btS o s).1.2.2 - 1 < o by omega)).2
      refine pw_isub dX11_bit_57 ?_
      rw [pk_sub (by omega)]
      refine pw_ishr dX11_bit_58 ?_
      rw [nI_shr (by omega) (by omega)]
      refine pw_iconst 1 (by decide) dX11_bit_59 ?_
      refine pw_iand dX11_bit_60 ?_
      rw [nI_and1 (Nat.lt_of_le_of_lt (Nat.div_le_self _ _) (by omega))]
      refine pw_iret dX11_bit_61 (Or.inl rfl) ?_
      have := hQ _ hY hM
      unfold btV at this
      rw [if_pos z, show (btS o s).2 = 8 - (u1 + 1) by omega] at this
      exact this
    · have := hkb.1.1
      refine pw_if_eq 40 dX11_bit_33 (by decide) (fun q => absurd q (nI_ne0 (by omega) (by omega))) (fun _ => ?_)
      refine pw_iconst 0 (by decide) dX11_bit_36 ?_
      refine pw_goto 61 dX11_bit_37 (by decide) ?_
      refine pw_iret dX11_bit_61 (Or.inl rfl) ?_
      have := hQ _ hY hM
      unfold btV at this
      rw [if_neg z] at this
      exact this
  refine PM.go (l := [_, .float 0]) rfl rfl (Nat.le_of_ble_eq_true rfl) rfl ?_
  refine pw_aload_n rfl dX11_bit_0 ?_
  refine pw_gI dX11_bit_1 fX11_210 (by first | rfl | assumption) rfl ?_
  refine pw_bipush 8 (by decide) dX11_bit_4 ?_
  rw [c1]
  by_cases h8 : u = 8
  · have e1 : (btS o s).1 = nxS o s.1 := by
      by_cases hf : s.1.1 = 0
      · have := c3 hf
        have := hk.2.1
        unfold btS
        rw [if_pos (by omega)]
      · rw [btS_f hf, nxS_f hf]
    refine pw_icmp_ne 19 dX11_bit_6 (by decide) (fun q => absurd (by rw [h8]; rfl) q) (fun _ => ?_)
    refine pw_aload_n rfl dX11_bit_9 ?_
    refine pc_V0 dX11_bit_10 lX11_213 rfl rfl (by decide) (Nat.le_of_ble_eq_true rfl) ?_
    refine m_next hO ho hB hR hk.1 ?_
    intro F1 hf1 hR1
    refine ps_istore_n (l' := [_, _]) dX11_bit_13 (by decide) rfl rfl ?_
    refine pw_aload_n rfl dX11_bit_14 ?_
    refine pw_iconst 0 (by decide) dX11_bit_15 ?_
    refine pw_pI dX11_bit_16 fX11_210 (by first | rfl | assumption) rfl ⟨rfl, rfl⟩ ?_
    refine go _ 0 _ (fun i j hi => by rw [upF_n (by omega)]; exact hf1 i j (by omega)) ?_ upF_s (by omega) ?_
    · rw [e1]
      exact ⟨by rw [upF_n (by omega)]; exact hR1.1, fun z => by rw [upF_n (by omega), upF_n (by omega)]; exact hR1.2.1 z, fun z => by rw [upF_n (by omega)]; exact hR1.2.2 z⟩
    · intro z
      have z1 := btS_0 z
      have := c3 z1
      have := hk.2.1
      unfold btS
      rw [if_pos (by omega)]
      rfl
  · have e1 : (btS o s).1 = s.1 := by
      by_cases hf : s.1.1 = 0
      · have := c3 hf
        have := hk.2.1
        unfold btS
        rw [if_neg (by omega)]
      · exact btS_f hf
    refine pw_icmp_ne 19 dX11_bit_6 (by decide) (fun _ => ?_) (fun q => absurd q (fun h9 => h8 (nI_inj (b := 8) (by omega) (by omega) h9)))
    refine go F u _ frY_r (by rw [e1]; exact hR) c1 (by omega) ?_
    intro z
    have z1 := btS_0 z
    have z2 := c3 z1
    have z3 := hk.2.1
    unfold btS
    rw [if_neg (by omega)]
    show u + 1 = 8 - (s.2 - 1)
    omega
theorem me_loop (hO : OM F A o O) (ho : o ≤ 1024) (hB : isB O o) : ∀ (k : Nat) (s : UT) (F' : Nat → Nat → Int32), (s.1.1 = 0 → s.2 = k) → frY F F' → MU F' s → uok o s → (∀ F', frY F F' → RM F' (ebR O s) → Q none (HS F' A rf lo X)) → PW Γ mX11_endBits 0 [.ref 57] [] (HS F' A rf lo X) 0 0 Q := by
  have bad : ∀ (s : UT) (F' : Nat → Nat → Int32), ¬ s.1.1 = 0 → frY F F' → MU F' s → uok o s → (∀ F', frY F F' → RM F' (ebR O s) → Q none (HS F' A rf lo X)) → PW Γ mX11_endBits 0 [.ref 57] [] (HS F' A rf lo X) 0 0 Q := by
    intro s F' h hf hC hk hq
    have := hk.1.1
    refine pw_aload_n rfl dX11_endBits_0 ?_
    refine pw_gI dX11_endBits_1 fX11_201 (by first | rfl | assumption) rfl ?_
    rw [hC.1.1]
    refine pw_if_ne 36 dX11_endBits_4 (by decide) (fun _ => ?_) (fun q => absurd q (nI_ne0 (by omega) (by omega)))
    refine pw_vret dX11_endBits_36 rfl ?_
    refine hq F' hf ?_
    rw [ebR_f h]
    exact hC.1
  intro k
  induction k with
  | zero =>
    intro s F' hs hf hC hk hq
    by_cases h : s.1.1 = 0
    · obtain ⟨hR, u, c1, c2, c3⟩ := id hC
      have e1 := hs h
      have e2 := c3 h
      refine pw_aload_n rfl dX11_endBits_0 ?_
      refine pw_gI dX11_endBits_1 fX11_201 (by first | rfl | assumption) rfl ?_
      rw [hR.1]
      refine pw_if_ne 36 dX11_endBits_4 (by decide) (fun q => absurd (by rw [h]; rfl) q) (fun _ => ?_)
      refine pw_aload_n rfl dX11_endBits_7 ?_
      refine pw_gI dX11_endBits_8 fX11_210 (by first | rfl | assumption) rfl ?_
      refine pw_bipush 8 (by decide) dX11_endBits_11 ?_
      rw [c1]
      refine pw_icmp_ge 36 dX11_endBits_13 (by decide) (fun _ => ?_) (fun q => absurd (nI_le (a := 8) (by omega) (by omega)) q)
      refine pw_vret dX11_endBits_36 rfl ?_
      refine hq F' hf ?_
      have e : ebR O s = s.1 := by
        unfold ebR
        rw [if_neg]
        intro ⟨_, k2⟩
        rw [e1] at k2
        exact k2 (Nat.mod_one _)
      rw [e]
      exact hR
    · exact bad s F' h hf hC hk hq
  | succ k ih =>
    intro s F' hs hf hC hk hq
    by_cases h : s.1.1 = 0
    · obtain ⟨hR, u, c1, c2, c3⟩ := id hC
      have e1 := hs h
      have e2 := c3 h
      have e3 : btS o s = (s.1, k) := by
        unfold btS
        rw [if_neg (by omega), e1]
        rfl
      refine pw_aload_n rfl dX11_endBits_0 ?_
      refine pw_gI dX11_endBits_1 fX11_201 (by first | rfl | assumption) rfl ?_
      rw [hR.1]
      refine pw_if_ne 36 dX11_endBits_4 (by decide) (fun q => absurd (by rw [h]; rfl) q) (fun _ => ?_)
      refine pw_aload_n rfl dX11_endBits_7 ?_
      refine pw_gI dX11_endBits_8 fX11_210 (by first | rfl | assumption) rfl ?_
      refine pw_bipush 8 (by decide) dX11_endBits_11 ?_
      rw [c1]
      refine pw_icmp_ge 36 dX11_endBits_13 (by decide) (fun q => absurd q (nI_ge (b := 8) (by omega) (by omega))) (fun _ => ?_)
      refine pw_aload_n rfl dX11_endBits_16 ?_
      refine pw_aload_n rfl dX11_endBits_17 ?_
      refine pc_V0 dX11_endBits_18 lX11_219 rfl rfl (by decide) (Nat.le_of_ble_eq_true rfl) ?_
      refine m_bit (OM_fr hO (hf _ _ (by omega)) rfl) ho hB hC hk ?_
      intro F1 hf1 hM1
      have hv : btV O o s = bN (O (s.1.2.2 - 1)) / 2 ^ k % 2 := by
        unfold btV
        rw [e3, if_pos h]
      rw [e3] at hM1
      have hkk : uok o (s.1, k) := by rw [← e3]; exact btS_ok hk
      have hmod : bN (O (s.1.2.2 - 1)) % 2 ^ s.2 = bN (O (s.1.2.2 - 1)) % 2 ^ k + 2 ^ k * btV O o s := by rw [e1, hv]; exact Nat.mod_pow_succ
      have hv2 := btV_lt (O := O) (o := o) (s := s)
      have hp := Nat.two_pow_pos k
      by_cases hv0 : btV O o s = 0
      · rw [hv0]
        refine pw_if_ne 28 dX11_endBits_21 (by decide) (fun q => absurd (rfl) q) (fun _ => ?_)
        refine pw_iconst 1 (by decide) dX11_endBits_24 ?_
        refine pw_goto 29 dX11_endBits_25 (by decide) ?_
        refine pw_iconst 4 (by decide) dX11_endBits_29 ?_
        refine pc_V2 dX11_endBits_30 lX11_222 rfl rfl (by decide) (Nat.le_of_ble_eq_true rfl) ?_
        refine m_must (w := 4) hM1.1 hk.1.1 (by omega) hk.2.2 ?_
        intro F2 hf2 hR2
        rw [if_neg (by decide)] at hR2
        refine pw_goto 0 dX11_endBits_33 (by decide) ?_
        refine ih (s.1, k) F2 (fun _ => rfl) (frY_t (frY_t hf hf1) (frY_N hf2)) (MU_bl hf2 hR2 (fun z => z) hM1) hkk ?_
        have e : ebR O (s.1, k) = ebR O s := by
          unfold ebR
          rw [hmod, hv0, Nat.mul_zero, Nat.add_zero]
        rw [e]
        exact hq
      · have hv1 : btV O o s = 1 := by omega
        rw [hv1]
        refine pw_if_ne 28 dX11_endBits_21 (by decide) (fun _ => ?_) (fun q => absurd q (by decide))
        refine pw_iconst 0 (by decide) dX11_endBits_28 ?_
        refine pw_iconst 4 (by decide) dX11_endBits_29 ?_
        refine pc_V2 dX11_endBits_30 lX11_222 rfl rfl (by decide) (Nat.le_of_ble_eq_true rfl) ?_
        refine m_must (w := 4) hM1.1 hk.1.1 (by omega) hk.2.2 ?_
        intro F2 hf2 hR2
        rw [if_pos rfl] at hR2
        refine pw_goto 0 dX11_endBits_33 (by decide) ?_
        refine bad (blm 4 s.1, k) F2 (blm_0 (by omega)) (frY_t (frY_t hf hf1) (frY_N hf2)) (MU_bl hf2 hR2 (fun z => absurd z (blm_0 (by omega))) hM1) ⟨blm_rok hk.1 (by omega), hkk.2.1, fun z => absurd z (blm_0 (by omega))⟩ ?_
        have e : ebR O (blm 4 s.1, k) = ebR O s := by
          rw [ebR_f (blm_0 (by omega))]
          unfold ebR
          rw [if_pos ⟨h, by rw [hmod, hv1]; omega⟩]
        rw [e]
        exact hq
    · exact bad s F' h hf hC hk hq
theorem m_endBits (hO : OM F A o O) (ho : o ≤ 1024) (hB : isB O o) (hC : MU F s) (hk : uok o s) (hQ : ∀ F', frY F F' → RM F' (ebR O s) → Q none (HS F' A rf lo X)) : PM Γ mX11_endBits [.ref 57] (HS F A rf lo X) 0 0 Q := by
  refine PM.go (l := [_]) rfl rfl (Nat.le_of_ble_eq_true rfl) rfl ?_
  exact me_loop hO ho hB s.2 s F (fun _ => rfl) frY_r hC hk hQ
end
