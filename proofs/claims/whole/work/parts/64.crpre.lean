/-! PREFIX read again: the LENGTHS, pure; the object's readLengths, readPrefix -/
def pgR (O : Nat → Int32) (o : Nat) (r : RT) (l : Nat) : RT := if 1 ≤ nxV O o (rs1 O o r l) ∧ nxV O o (rs1 O o r l) ≤ 15 then nxS o (rs1 O o r l) else blm 4 (nxS o (rs1 O o r l))
def pgs (O : Nat → Int32) (o : Nat) : Nat → RT → Nat → (Nat → Nat) → RT × (Nat → Nat) × Nat
  | 0, r, l, e => (r, e, l)
  | m + 1, r, l, e => if r.1 = 0 then (if (pgR O o r l).1 = 0 then pgs O o m (pgR O o r l) (nxV O o r + 1) (updN e (nxV O o r) (nxV O o (rs1 O o r l))) else (pgR O o r l, e, nxV O o r + 1)) else (r, e, l)
theorem nxV_0 {O : Nat → Int32} {o : Nat} {r : RT} (h : 0 < nxV O o r) : (nxS o r).1 = 0 := by
  unfold nxV at h
  by_cases h1 : r.1 = 0 ∧ r.2.2 < o
  · unfold nxS
    rw [if_pos h1.1, if_pos h1.2]
  · rw [if_neg h1] at h
    omega
theorem pgR_ok {O : Nat → Int32} {o l : Nat} {r : RT} (h : rok o r) : rok o (pgR O o r l) ∧ ((pgR O o r l).1 = 0 → r.1 = 0 ∧ l ≤ nxV O o r ∧ (rs1 O o r l).1 = 0 ∧ 1 ≤ nxV O o (rs1 O o r l) ∧ nxV O o (rs1 O o r l) ≤ 15 ∧ pgR O o r l = nxS o (rs1 O o r l) ∧ 1 ≤ (pgR O o r l).2.2) := by
  have hs := rs1_ok (O := O) (l := l) h
  unfold pgR
  by_cases h1 : 1 ≤ nxV O o (rs1 O o r l) ∧ nxV O o (rs1 O o r l) ≤ 15
  · rw [if_pos h1]
    refine ⟨nxS_rok hs.1, fun h2 => ?_⟩
    obtain ⟨z1, z2, z3⟩ := nxS_0 h2
    have h3 := hs.2 z1
    exact ⟨h3.1, h3.2.1, z1, h1.1, h1.2, rfl, by rw [z3]; show 1 ≤ (rs1 O o r l).2.2 + 1; omega⟩
  · rw [if_neg h1]
    exact ⟨blm_rok (nxS_rok hs.1) (by omega), fun h2 => absurd h2 (blm_0 (by omega))⟩
theorem pgs_ok {O : Nat → Int32} {o : Nat} (hB : isB O o) : ∀ (m : Nat) (r : RT) (l : Nat) (e : Nat → Nat) (i : Nat), rok o r → (r.1 = 0 → 1 ≤ r.2.2 ∧ (∀ x, l ≤ x → e x = 0) ∧ knz e 256 = i) → (∀ x, e x ≤ 15) → rok o (pgs O o m r l e).1 ∧ (∀ x, (pgs O o m r l e).2.1 x ≤ 15) ∧ ((pgs O o m r l e).1.1 = 0 → r.1 = 0 ∧ 1 ≤ (pgs O o m r l e).1.2.2 ∧ knz (pgs O o m r l e).2.1 256 = i + m ∧ (0 < m → 0 < (pgs O o m r l e).2.2 ∧ (pgs O o m r l e).2.2 ≤ 256 ∧ 0 < (pgs O o m r l e).2.1 ((pgs O o m r l e).2.2 - 1)))
  | 0, r, l, e, i => fun h h1 h15 => ⟨h, h15, fun h2 => ⟨h2, (h1 h2).1, (h1 h2).2.2, fun h3 => absurd h3 (Nat.lt_irrefl 0)⟩⟩
  | m + 1, r, l, e, i => fun h h1 h15 => by
    have hg := pgR_ok (O := O) (l := l) h
    have hv := nxV_lt hB (o := o) (r := r)
    unfold pgs
    by_cases h0 : r.1 = 0
    · rw [if_pos h0]
      by_cases h2 : (pgR O o r l).1 = 0
      · rw [if_pos h2]
        obtain ⟨_, g1, g2, g3, g4, g5, g6⟩ := hg.2 h2
        obtain ⟨k1, k2, k3⟩ := h1 h0
        have eb : e (nxV O o r) = 0 := k2 _ g1
        have ih := pgs_ok hB m (pgR O o r l) (nxV O o r + 1) (updN e (nxV O o r) (nxV O o (rs1 O o r l))) (i + 1) hg.1 (fun _ => ⟨g6, fun x hx => by rw [updN_n (by omega)]; exact k2 x (by omega), by rw [knz_upd eb (by omega), if_pos hv, k3]⟩) (fun x => by
          by_cases hx : x = nxV O o r
          · rw [hx, updN_s]; exact g4
          · rw [updN_n hx]; exact h15 x)
        refine ⟨ih.1, ih.2.1, fun h3 => ?_⟩
        obtain ⟨i1, i2, i3, i4⟩ := ih.2.2 h3
        refine ⟨h0, i2, by omega, fun _ => ?_⟩
        by_cases hm : 0 < m
        · exact i4 hm
        · have hm0 : m = 0 := by omega
          subst hm0
          show 0 < nxV O o r + 1 ∧ nxV O o r + 1 ≤ 256 ∧ 0 < updN e (nxV O o r) (nxV O o (rs1 O o r l)) (nxV O o r + 1 - 1)
          rw [Nat.add_sub_cancel, updN_s]
          exact ⟨by omega, by omega, g3⟩
      · rw [if_neg h2]
        exact ⟨hg.1, h15, fun h3 => absurd h3 h2⟩
    · rw [if_neg h0]
      exact ⟨h, h15, fun h3 => absurd h3 h0⟩
def pg0 (O : Nat → Int32) (o : Nat) (b : BT) : RT × (Nat → Nat) × Nat := pgs O o (nxV O o b.1 + 1) (nxS o b.1) 0 (fun _ => 0)
theorem pg0_ok {O : Nat → Int32} {o n : Nat} (hB : isB O o) {b : BT} (h : bk o n b) : rok o (pg0 O o b).1 ∧ (∀ x, (pg0 O o b).2.1 x ≤ 15) ∧ ((pg0 O o b).1.1 = 0 → (nxS o b.1).1 = 0 ∧ 1 ≤ (pg0 O o b).1.2.2 ∧ knz (pg0 O o b).2.1 256 = nxV O o b.1 + 1 ∧ 0 < (pg0 O o b).2.2 ∧ (pg0 O o b).2.2 ≤ 256 ∧ 0 < (pg0 O o b).2.1 ((pg0 O o b).2.2 - 1)) := by
  have h1 := pgs_ok hB (nxV O o b.1 + 1) (nxS o b.1) 0 (fun _ => 0) 0 (nxS_rok h.1) (fun h2 => ⟨by rw [(nxS_0 h2).2.2]; show 1 ≤ b.1.2.2 + 1; omega, fun _ _ => rfl, knz_none 256⟩) (fun _ => Nat.zero_le _)
  refine ⟨h1.1, h1.2.1, fun h2 => ?_⟩
  obtain ⟨k1, k2, k3, k4⟩ := h1.2.2 h2
  rw [Nat.zero_add] at k3
  exact ⟨k1, k2, k3, k4 (by omega)⟩
/-- how a byte is read -/
def dc0 (O : Nat → Int32) (o : Nat) (e : Nat → Nat) (s : UT) : UT × Nat := dcd O o e (decide (knz e 256 = 1)) 15 1 0 s
theorem gok_dc0 {O : Nat → Int32} {o : Nat} {e : Nat → Nat} : gok o (dc0 O o e) := fun s h => (dcd_ok 15 1 0 s h).1
def rPre (O : Nat → Int32) (o n : Nat) (b : BT) : YT := rbs (dc0 O o (pg0 O o b).2.1) 256 (fun j => nI j) n ((wh1 (pg0 O o b).2.1 (pg0 O o b).1, b.2), 0)
theorem wh0_ok {O : Nat → Int32} {o n : Nat} (hB : isB O o) {b : BT} (h : bk o n b) : yok o n (((wh1 (pg0 O o b).2.1 (pg0 O o b).1, b.2), 0) : YT) := by
  have h1 := pg0_ok hB h
  exact ⟨⟨wh1_ok h1.1, fun h2 => h.2 (nxS_0 (h1.2.2 (wh1_0 h2).1).1).1⟩, by show 0 < 8; omega, fun h2 => by
    have h3 := wh1_0 h2
    show 1 ≤ (wh1 (pg0 O o b).2.1 (pg0 O o b).1).2.2
    rw [h3.2.2]
    exact (h1.2.2 h3.1).2.1⟩
theorem rPre_ok {O : Nat → Int32} {o n : Nat} (hB : isB O o) {b : BT} (h : bk o n b) (h0 : b.1.1 = 0 → b.2.1 = 0) : yok o n (rPre O o n b) ∧ ((rPre O o n b).1.1.1 = 0 → b.1.1 = 0 ∧ (rPre O o n b).1.2.1 = n) := by
  have h1 := wh0_ok hB h
  have hp := pg0_ok hB h
  have hb0 : (wh1 (pg0 O o b).2.1 (pg0 O o b).1).1 = 0 → b.1.1 = 0 := fun h2 => (nxS_0 (hp.2.2 (wh1_0 h2).1).1).1
  unfold rPre
  by_cases hf : (wh1 (pg0 O o b).2.1 (pg0 O o b).1).1 = 0
  · have h3 := rbs_ok (gok_dc0 (O := O) (e := (pg0 O o b).2.1)) isB_nI n _ h1 (fun _ => by show b.2.1 + n ≤ n; rw [h0 (hb0 hf)]; omega)
    refine ⟨h3.1, fun h4 => ⟨hb0 hf, ?_⟩⟩
    rw [(h3.2 h4).2]
    show b.2.1 + n = n
    rw [h0 (hb0 hf)]
    omega
  · rw [rbs_f (y := ((wh1 (pg0 O o b).2.1 (pg0 O o b).1, b.2), 0)) hf]
    exact ⟨h1, fun h2 => absurd h2 hf⟩
def frL (F F' A A' : Nat → Nat → Int32) : Prop := (∀ i j, ¬ (i = 35 ∧ (j = 1 ∨ j = 4 ∨ j = 5)) → ¬ (i = 41 ∧ j = 5) → F' i j = F i j) ∧ (∀ i, ¬ (42 ≤ i ∧ i ≤ 46) → A' i = A i)
theorem frL_r {F A : Nat → Nat → Int32} : frL F F A A := ⟨fun _ _ _ _ => rfl, fun _ _ => rfl⟩
theorem frL_t {F F1 F2 A A1 A2 : Nat → Nat → Int32} (h1 : frL F F1 A A1) (h2 : frL F1 F2 A1 A2) : frL F F2 A A2 := ⟨fun i j k1 k2 => by rw [h2.1 i j k1 k2]; exact h1.1 i j k1 k2, fun i k1 => by rw [h2.2 i k1]; exact h1.2 i k1⟩
theorem frL_R {F F1 A : Nat → Nat → Int32} (h : frR F F1) : frL F F1 A A := ⟨fun i j k1 _ => h i j k1, fun _ _ => rfl⟩
theorem frU_L {F F1 A A1 : Nat → Nat → Int32} (h : frL F F1 A A1) : frU F F1 A A1 := ⟨fun i j k1 k2 k3 => h.1 i j (by omega) k3, fun i k1 k2 k3 => h.2 i k3⟩
theorem PC_R {F F1 A : Nat → Nat → Int32} {e : Nat → Nat} (h : PC F A 41 e) (hf : frR F F1) : PC F1 A 41 e := ⟨h.1, h.2.1, h.2.2.1, h.2.2.2.1, by rw [hf 41 5 (by omega)]; exact h.2.2.2.2⟩
theorem PC_X {F F1 A A1 : Nat → Nat → Int32} {e : Nat → Nat} (h : PC F A 41 e) (hf : frX F F1 A A1) : PC F1 A1 41 e := ⟨fun b hb => by rw [hf.2 _ (by omega)]; exact h.1 b hb, h.2.1, fun l k1 k2 => by rw [hf.2 _ (by omega)]; exact h.2.2.1 l k1 k2, by rw [hf.2 _ (by omega)]; exact h.2.2.2.1, by rw [hf.1 41 5 (by omega) (by omega)]; exact h.2.2.2.2⟩
section
variable {Γ : Nat × (Nat → Int32)} {F A : Nat → Nat → Int32} {lo : Int64} {X : PH} {Q : Option Value → PH → Prop} {o n : Nat} {O : Nat → Int32} {rf : Nat}
theorem OX_L {F' A' : Nat → Nat → Int32} (h : OX F A o O) (hf : frL F F' A A') : OX F' A' o O := OX_fr h (hf.1 _ _ (by omega) (by omega)) (hf.2 _ (by omega))
theorem ucg_loop {K : Nat} (hK : K ≤ 256) (hO : OX F A o O) (ho : o ≤ 1024) (hB : isB O o) : ∀ (m i l : Nat) (r : RT) (e : Nat → Nat) (x : Int32) (F' A' : Nat → Nat → Int32) (g4 : Value), g4.category = 1 → i + m = K → x = nI l - 1 → l ≤ 256 → frL F F' A A' → RD F' r → rok o r → PC F' A' 41 e → (r.1 = 0 → ∀ x, l ≤ x → e x = 0) →
    (∀ F' A' x i g4, frL F F' A A' → RD F' (pgs O o m r l e).1 → PC F' A' 41 (pgs O o m r l e).2.1 → PW Γ mX9_readLengths 88 [.ref 34, .int (nI K), .int x, .int i, g4] [] (HS F' A' 3 lo X) 0 0 Q) →
    PW Γ mX9_readLengths 21 [.ref 34, .int (nI K), .int x, .int (nI i), g4] [] (HS F' A' 3 lo X) 0 0 Q := by
  intro m
  induction m with
  | zero =>
    intro i l r e x F' A' g4 k4 hi hx hl hfr hR hk hP he hq
    have hi2 : i = K := by omega
    subst hi2
    refine pw_iload_n rfl dX9_readLengths_21 ?_
    refine pw_iload_n rfl dX9_readLengths_22 ?_
    refine pw_icmp_ge 88 dX9_readLengths_23 (by decide) (fun _ => ?_) (fun q => absurd (nI_le (Nat.le_refl _) (by omega)) q)
    exact hq F' A' _ _ _ hfr hR hP
  | succ m ih =>
    intro i l r e x F' A' g4 k4 hi hx hl hfr hR hk hP he hq
    have hv := nxV_lt hB (o := o) (r := r)
    have hv2 := nxV_lt hB (o := o) (r := rs1 O o r l)
    have hs := rs1_ok (O := O) (l := l) hk
    have hg := pgR_ok (O := O) (l := l) hk
    unfold pgs at hq
    refine pw_iload_n rfl dX9_readLengths_21 ?_
    refine pw_iload_n rfl dX9_readLengths_22 ?_
    refine pw_icmp_ge 88 dX9_readLengths_23 (by decide) (fun q => absurd q (nI_ge (by omega) (by omega))) (fun _ => ?_)
    refine pw_aload_n rfl dX9_readLengths_26 ?_
    refine pw_gC dX9_readLengths_27 fX9_12 (by first | rfl | assumption) rfl (by first | rfl | assumption) ?_
    refine pc_V0 dX9_readLengths_30 lX9_92 rfl rfl (by decide) (Nat.le_of_ble_eq_true rfl) ?_
    refine c_isFine hR hk.1 ?_
    by_cases h0 : r.1 = 0
    · rw [if_pos h0] at hq
      rw [if_pos h0]
      have he0 := he h0
      refine pw_if_eq 88 dX9_readLengths_33 (by decide) (fun q => absurd q (by decide)) (fun _ => ?_)
      refine pw_aload_n rfl dX9_readLengths_36 ?_
      refine pw_iload_n rfl dX9_readLengths_37 ?_
      refine pc_V1 dX9_readLengths_38 lX9_135 rfl rfl (by decide) (Nat.le_of_ble_eq_true rfl) ?_
      refine c_readRising hx hl (OX_L hO hfr) ho hB hR hk ?_
      intro F1 hf1 hR1
      have hfr1 := frL_t hfr (frL_R (A := A') hf1)
      refine ps_istore_n (l' := [_, _, _, _, _]) dX9_readLengths_41 (by decide) rfl rfl ?_
      refine pw_aload_n rfl dX9_readLengths_42 ?_
      refine pw_gC dX9_readLengths_43 fX9_12 (by first | rfl | assumption) rfl (by first | rfl | assumption) ?_
      refine pc_V0 dX9_readLengths_46 lX9_78 rfl rfl (by decide) (Nat.le_of_ble_eq_true rfl) ?_
      refine c_next (OX_L hO hfr1) ho hB hR1 hs.1 ?_
      intro F2 hf2 hR2
      have hfr2 := frL_t hfr1 (frL_R (A := A') hf2)
      have hP2 := PC_R (PC_R hP hf1) hf2
      have hkn := nxS_rok hs.1
      obtain ⟨v, hvd⟩ : ∃ v, v = nxV O o (rs1 O o r l) := ⟨_, rfl⟩
      have hxl : nI (nxV O o r) = nI (nxV O o r + 1) - 1 := (pk_sub (a := nxV O o r + 1) (b := 1) (by omega)).symm
      have bad : ¬ (1 ≤ v ∧ v ≤ 15) → PW Γ mX9_readLengths 64 [.ref 34, .int (nI K), .int (nI (nxV O o r)), .int (nI i), .int (nI (nxV O o (rs1 O o r l)))] [] (HS F2 A' 3 lo X) 0 0 Q := by
        intro hn
        rw [hvd] at hn
        have hpg : pgR O o r l = blm 4 (nxS o (rs1 O o r l)) := by unfold pgR; rw [if_neg hn]
        have hbl : ¬ (pgR O o r l).1 = 0 := by rw [hpg]; exact blm_0 (by omega)
        rw [if_neg hbl] at hq
        refine pw_aload_n rfl dX9_readLengths_64 ?_
        refine pw_gC dX9_readLengths_65 fX9_12 (by first | rfl | assumption) rfl (by first | rfl | assumption) ?_
        refine pw_iconst 4 (by decide) dX9_readLengths_68 ?_
        refine pc_V1 dX9_readLengths_69 lX9_81 rfl rfl (by decide) (Nat.le_of_ble_eq_true rfl) ?_
        refine c_blame (w := 4) hR2 hkn.1 (by omega) (fun z => by rw [(nxS_0 z).2.2]; show 1 ≤ (rs1 O o r l).2.2 + 1; omega) ?_
        intro F3 hf3 hR3
        rw [← hpg] at hR3
        have hfr3 := frL_t hfr2 (frL_R (A := A') hf3)
        refine pw_aload_n rfl dX9_readLengths_72 ?_
        refine pw_gC dX9_readLengths_73 fX9_31 (by first | rfl | assumption) rfl (by first | rfl | assumption) ?_
        refine pw_iload_n rfl dX9_readLengths_76 ?_
        refine pw_iload rfl dX9_readLengths_77 ?_
        refine pc_V2 dX9_readLengths_79 lX9_158 rfl rfl (by decide) (Nat.le_of_ble_eq_true rfl) ?_
        refine c_give pc41 (PC_R hP2 hf3) hv hv2 (fun _ => ?_) (fun k1 k2 _ => absurd ⟨k1, k2⟩ hn)
        refine ps_iinc (l' := [_, _, _, _, _]) 1 dX9_readLengths_82 (by decide) rfl (by decide) rfl rfl ?_
        refine pw_goto 21 dX9_readLengths_85 (by decide) ?_
        rw [nI_1]
        refine ih (i + 1) (nxV O o r + 1) (pgR O o r l) e _ F3 A' _ rfl (by omega) hxl (by omega) hfr3 hR3 hg.1 (PC_R hP2 hf3) (fun z => absurd z hbl) ?_
        have e1 : pgs O o m (pgR O o r l) (nxV O o r + 1) e = (pgR O o r l, e, nxV O o r + 1) := by
          cases m with
          | zero => rfl
          | succ m => unfold pgs; rw [if_neg hbl]
        rw [e1]
        exact hq
      refine ps_istore (l' := [_, _, _, _, _]) dX9_readLengths_49 (by decide) rfl rfl ?_
      refine pw_iload rfl dX9_readLengths_51 ?_
      refine pw_iconst 1 (by decide) dX9_readLengths_53 ?_
      by_cases h1 : 1 ≤ v
      · refine pw_icmp_lt 64 dX9_readLengths_54 (by decide) (fun q => absurd q (nI_nlt (b := 1) (by omega) (by omega))) (fun _ => ?_)
        refine pw_iload rfl dX9_readLengths_57 ?_
        refine pw_bipush 15 (by decide) dX9_readLengths_59 ?_
        by_cases h15 : v ≤ 15
        · refine pw_icmp_le 72 dX9_readLengths_61 (by decide) (fun _ => ?_) (fun q => absurd (nI_le (b := 15) (by omega) (by omega)) q)
          refine pw_aload_n rfl dX9_readLengths_72 ?_
          refine pw_gC dX9_readLengths_73 fX9_31 (by first | rfl | assumption) rfl (by first | rfl | assumption) ?_
          refine pw_iload_n rfl dX9_readLengths_76 ?_
          refine pw_iload rfl dX9_readLengths_77 ?_
          have hcond : 1 ≤ nxV O o (rs1 O o r l) ∧ nxV O o (rs1 O o r l) ≤ 15 := ⟨by omega, by omega⟩
          have hpg : pgR O o r l = nxS o (rs1 O o r l) := by unfold pgR; rw [if_pos hcond]
          have hfine : (pgR O o r l).1 = 0 := by rw [hpg]; exact nxV_0 (O := O) hcond.1
          obtain ⟨_, g1, g2, g3, g4', g5, g6⟩ := hg.2 hfine
          have eb : e (nxV O o r) = 0 := he0 _ g1
          rw [if_pos hfine] at hq
          rw [← hpg] at hR2
          refine pc_V2 dX9_readLengths_79 lX9_158 rfl rfl (by decide) (Nat.le_of_ble_eq_true rfl) ?_
          refine c_give pc41 hP2 hv hv2 (fun hn => absurd ⟨hcond.1, hcond.2, eb⟩ hn) (fun k1 k2 k3 F3 A3 hf3 hA3 hP3 => ?_)
          refine ps_iinc (l' := [_, _, _, _, _]) 1 dX9_readLengths_82 (by decide) rfl (by decide) rfl rfl ?_
          refine pw_goto 21 dX9_readLengths_85 (by decide) ?_
          rw [nI_1]
          refine ih (i + 1) (nxV O o r + 1) (pgR O o r l) _ _ F3 A3 _ rfl (by omega) hxl (by omega) (frL_t hfr2 ⟨fun i j _ k2 => hf3 i j k2, fun i k1 => hA3 i (by omega) (by omega)⟩) ⟨by rw [hf3 _ _ (by omega)]; exact hR2.1, fun z => by rw [hf3 _ _ (by omega)]; exact hR2.2.1 z, fun z => by rw [hf3 _ _ (by omega)]; exact hR2.2.2 z⟩ hg.1 hP3 (fun _ y hy => by rw [updN_n (by omega)]; exact he0 y (by omega)) hq
        · refine pw_icmp_le 72 dX9_readLengths_61 (by decide) (fun q => absurd q (nI_ge (a := 15) (by omega) (by omega))) (fun _ => ?_)
          exact bad (by omega)
      · refine pw_icmp_lt 64 dX9_readLengths_54 (by decide) (fun _ => ?_) (fun q => absurd (nI_lt (b := 1) (by omega) (by omega)) q)
        exact bad (by omega)
    · rw [if_neg h0] at hq
      rw [if_neg h0]
      refine pw_if_eq 88 dX9_readLengths_33 (by decide) (fun _ => ?_) (fun q => absurd (rfl) q)
      exact hq F' A' _ _ _ hfr hR hP
theorem c_readLengths {b : BT} (hO : OX F A o O) (ho : o ≤ 1024) (hB : isB O o) (hR : RD F b.1) (hk : bk o n b)
    (hQ : ∀ F' A', frL F F' A A' → RD F' (wh1 (pg0 O o b).2.1 (pg0 O o b).1) → PC F' A' 41 (pg0 O o b).2.1 → (∀ x, x < 256 → 0 < (pg0 O o b).2.1 x → A' 44 (rkp (pg0 O o b).2.1 x) = nI x) → Q none (HS F' A' 3 lo X)) : PM Γ mX9_readLengths [.ref 34] (HS F A 3 lo X) 0 0 Q := by
  have hv := nxV_lt hB (o := o) (r := b.1)
  have hpk := pg0_ok hB hk
  refine PM.go (l := [_, .float 0, .float 0, .float 0, .float 0]) rfl rfl (Nat.le_of_ble_eq_true rfl) rfl ?_
  refine pw_aload_n rfl dX9_readLengths_0 ?_
  refine pw_gC dX9_readLengths_1 fX9_31 (by first | rfl | assumption) rfl (by first | rfl | assumption) ?_
  refine pc_V0 dX9_readLengths_4 lX9_156 rfl rfl (by decide) (Nat.le_of_ble_eq_true rfl) ?_
  refine c_pbegin pc41 ?_
  intro A1 hA1 hP1
  have hfr1 : frL F (upF F 41 5 0) A A1 := ⟨fun i j _ k2 => upF_n k2, fun i k1 => hA1 i (by omega) (by omega)⟩
  refine pw_aload_n rfl dX9_readLengths_7 ?_
  refine pw_gC dX9_readLengths_8 fX9_12 (by first | rfl | assumption) rfl (by first | rfl | assumption) ?_
  refine pc_V0 dX9_readLengths_11 lX9_78 rfl rfl (by decide) (Nat.le_of_ble_eq_true rfl) ?_
  refine c_next (OX_L hO hfr1) ho hB ⟨by rw [upF_n (by omega)]; exact hR.1, fun z => by rw [upF_n (by omega)]; exact hR.2.1 z, fun z => by rw [upF_n (by omega)]; exact hR.2.2 z⟩ hk.1 ?_
  intro F2 hf2 hR2
  refine pw_iconst 1 (by decide) dX9_readLengths_14 ?_
  refine pw_iadd dX9_readLengths_15 ?_
  refine ps_istore_n (l' := [_, _, _, _, _]) dX9_readLengths_16 (by decide) rfl rfl ?_
  refine pw_iconst (-1) (by decide) dX9_readLengths_17 ?_
  refine ps_istore_n (l' := [_, _, _, _, _]) dX9_readLengths_18 (by decide) rfl rfl ?_
  refine pw_iconst 0 (by decide) dX9_readLengths_19 ?_
  refine ps_istore_n (l' := [_, _, _, _, _]) dX9_readLengths_20 (by decide) rfl rfl ?_
  rw [nI_1]
  refine ucg_loop (F := F) (A := A) (K := nxV O o b.1 + 1) (by omega) hO ho hB (nxV O o b.1 + 1) 0 0 (nxS o b.1) (fun _ => 0) (-1) F2 A1 _ rfl (by omega) rfl (by omega) (frL_t hfr1 (frL_R hf2)) hR2 (nxS_rok hk.1) (PC_R hP1 hf2) (fun _ _ _ => rfl) ?_
  intro F3 A3 x3 i3 g4 hf3 hR3 hP3
  have hpd : pg0 O o b = pgs O o (nxV O o b.1 + 1) (nxS o b.1) 0 (fun _ => 0) := rfl
  rw [← hpd] at hR3 hP3
  obtain ⟨p, hp⟩ : ∃ p, p = pg0 O o b := ⟨_, rfl⟩
  rw [← hp] at hR3 hP3 hpk hQ
  refine pw_aload_n rfl dX9_readLengths_88 ?_
  refine pw_gC dX9_readLengths_89 fX9_31 (by first | rfl | assumption) rfl (by first | rfl | assumption) ?_
  refine pc_V0 dX9_readLengths_92 lX9_162 rfl rfl (by decide) (Nat.le_of_ble_eq_true rfl) ?_
  refine c_isWhole hP3 ?_
  have fin : ∀ F4, frR F3 F4 → RD F4 (wh1 p.2.1 p.1) → PW Γ mX9_readLengths 106 [.ref 34, .int (nI (nxV O o b.1 + 1)), .int x3, .int i3, g4] [] (HS F4 A3 3 lo X) 0 0 Q := by
    intro F4 hf4 hR4
    have hP4 := PC_R hP3 hf4
    refine pw_aload_n rfl dX9_readLengths_106 ?_
    refine pw_gC dX9_readLengths_107 fX9_31 (by first | rfl | assumption) rfl (by first | rfl | assumption) ?_
    refine pc_V0 dX9_readLengths_110 lX9_165 rfl rfl (by decide) (Nat.le_of_ble_eq_true rfl) ?_
    refine c_assign pc41 hP4 ?_
    intro A5 hA5 hC5 hK5
    refine pw_vret dX9_readLengths_113 rfl ?_
    refine hQ F4 A5 (frL_t (frL_t hf3 (frL_R (A := A3) hf4)) ⟨fun _ _ _ _ => rfl, fun i k1 => hA5 i (by omega) (by omega) (by omega)⟩) hR4 ?_ hK5
    obtain ⟨q1, q2, q3, q4, q5⟩ := hP4
    exact ⟨fun b hb => by rw [hA5 _ (by omega) (by omega) (by omega)]; exact q1 b hb, q2, fun l k1 k2 => by rw [hA5 _ (by omega) (by omega) (by omega)]; exact q3 l k1 k2, by rw [hA5 _ (by omega) (by omega) (by omega)]; exact q4, q5⟩
  by_cases hw : whl p.2.1
  · rw [if_pos hw]
    refine pw_if_ne 106 dX9_readLengths_95 (by decide) (fun _ => ?_) (fun q => absurd q (by decide))
    refine fin F3 frR_r ?_
    unfold wh1
    rw [if_pos hw]
    exact hR3
  · rw [if_neg hw]
    refine pw_if_ne 106 dX9_readLengths_95 (by decide) (fun q => absurd (rfl) q) (fun _ => ?_)
    refine pw_aload_n rfl dX9_readLengths_98 ?_
    refine pw_gC dX9_readLengths_99 fX9_12 (by first | rfl | assumption) rfl (by first | rfl | assumption) ?_
    refine pw_iconst 4 (by decide) dX9_readLengths_102 ?_
    refine pc_V1 dX9_readLengths_103 lX9_81 rfl rfl (by decide) (Nat.le_of_ble_eq_true rfl) ?_
    refine c_blame (w := 4) hR3 hpk.1.1 (by omega) (fun z => (hpk.2.2 z).2.1) ?_
    intro F4 hf4 hR4
    refine fin F4 hf4 ?_
    unfold wh1
    rw [if_neg hw]
    exact hR4
theorem ucp_loop {e : Nat → Nat} (hO : OX F A o O) (ho : o ≤ 1024) (hB : isB O o) (hn : n ≤ 300) (hn0 : F 34 10 = nI n) (hP : PC F A 41 e) (hRk : ∀ x, x < 256 → 0 < e x → A 44 (rkp e x) = nI x) : ∀ (m i : Nat) (y : YT) (F' A' : Nat → Nat → Int32), i + m = n → (y.1.1.1 = 0 → y.1.2.1 = i) → frX F F' A A' → CY O F' A' y → yok o n y →
    (∀ F' A' i, frX F F' A A' → CY O F' A' (rbs (dc0 O o e) 256 (fun j => nI j) m y) → PW Γ mX9_readPrefix 48 [.ref 34, .int i] [] (HS F' A' 3 lo X) 0 0 Q) →
    PW Γ mX9_readPrefix 6 [.ref 34, .int (nI i)] [] (HS F' A' 3 lo X) 0 0 Q := by
  intro m
  induction m with
  | zero =>
    intro i y F' A' hi hgi hfr hC hk hq
    have hi2 : i = n := by omega
    subst hi2
    refine pw_iload_n rfl dX9_readPrefix_6 ?_
    refine pw_aload_n rfl dX9_readPrefix_7 ?_
    refine pw_gI dX9_readPrefix_8 fX9_61 (by first | rfl | assumption) rfl ?_
    rw [hfr.1 34 10 (by omega) (by omega), hn0]
    refine pw_icmp_ge 48 dX9_readPrefix_11 (by decide) (fun _ => ?_) (fun q => absurd (nI_le (Nat.le_refl _) (by omega)) q)
    exact hq F' A' _ hfr hC
  | succ m ih =>
    intro i y F' A' hi hgi hfr hC hk hq
    obtain ⟨hCB, hCU⟩ := id hC
    obtain ⟨hR, g', c1, c2, c3⟩ := id hCB
    have hku := yok_u hk
    unfold rbs at hq
    refine pw_iload_n rfl dX9_readPrefix_6 ?_
    refine pw_aload_n rfl dX9_readPrefix_7 ?_
    refine pw_gI dX9_readPrefix_8 fX9_61 (by first | rfl | assumption) rfl ?_
    rw [hfr.1 34 10 (by omega) (by omega), hn0]
    refine pw_icmp_ge 48 dX9_readPrefix_11 (by decide) (fun q => absurd q (nI_ge (by omega) (by omega))) (fun _ => ?_)
    refine pw_aload_n rfl dX9_readPrefix_14 ?_
    refine pw_gC dX9_readPrefix_15 fX9_12 (by first | rfl | assumption) rfl (by first | rfl | assumption) ?_
    refine pc_V0 dX9_readPrefix_18 lX9_92 rfl rfl (by decide) (Nat.le_of_ble_eq_true rfl) ?_
    refine c_isFine hR hk.1.1.1 ?_
    by_cases h0 : y.1.1.1 = 0
    · rw [if_pos h0] at hq
      rw [if_pos h0]
      obtain ⟨e1, e2⟩ := c3 h0
      have e3 := hgi h0
      refine pw_if_eq 48 dX9_readPrefix_21 (by decide) (fun q => absurd q (by decide)) (fun _ => ?_)
      refine pw_aload_n rfl dX9_readPrefix_24 ?_
      refine pw_gC dX9_readPrefix_25 fX9_47 (by first | rfl | assumption) rfl (by first | rfl | assumption) ?_
      refine pw_aload_n rfl dX9_readPrefix_28 ?_
      refine pw_gC dX9_readPrefix_29 fX9_31 (by first | rfl | assumption) rfl (by first | rfl | assumption) ?_
      refine pw_aload_n rfl dX9_readPrefix_32 ?_
      refine pw_gC dX9_readPrefix_33 fX9_12 (by first | rfl | assumption) rfl (by first | rfl | assumption) ?_
      refine pc_V1 dX9_readPrefix_36 lX9_152 rfl rfl (by decide) (Nat.le_of_ble_eq_true rfl) ?_
      refine c_readFrom (s := (y.1.1, y.2)) (OX_X hO hfr) ho hB (PC_X hP hfr) (fun x k1 k2 => by rw [hfr.2 44 (by omega)]; exact hRk x k1 k2) hCU hku ?_
      intro F1 z hf1 hC1 hz
      have hdd : dcd O o e (decide (knz e 256 = 1)) 15 1 0 (y.1.1, y.2) = dc0 O o e (y.1.1, y.2) := rfl
      have ht := dcd_ok (O := O) (e := e) (on := decide (knz e 256 = 1)) 15 1 0 (y.1.1, y.2) hku
      rw [hdd] at hC1 hz ht
      obtain ⟨t, htd⟩ : ∃ t, t = dc0 O o e (y.1.1, y.2) := ⟨_, rfl⟩
      rw [← htd] at hC1 hz ht hq
      have hE := rbE_ok (t := t) isB_nI hk ht.1.1 ht.1.2 (fun _ => by omega)
      refine pc_V1 dX9_readPrefix_39 lX9_120 rfl rfl (by decide) (Nat.le_of_ble_eq_true rfl) ?_
      refine c_mpushx (g := g') (by rw [hf1 49 1 (by omega)]; exact c1) c2 ?_
      intro F3 A3 g3 hf3 h35 d2 d3 d4
      refine ps_iinc (l' := [_, _]) 1 dX9_readPrefix_42 (by decide) rfl (by decide) rfl rfl ?_
      refine pw_goto 6 dX9_readPrefix_45 (by decide) ?_
      rw [nI_1]
      refine ih (i + 1) _ F3 A3 (by omega) (fun z => by have := (hE.2 z).2; omega) (frX_t hfr (frX_t (frX_S hf1) (frX_B hf3))) ?_ hE.1 hq
      have hC3 := CU_35 h35 hC1
      unfold rbE
      by_cases z9 : t.1.1.1 = 0
      · rw [if_pos z9, if_pos ht.2]
        exact ⟨CB_pu (g := y.1.2.1) (f := y.1.2.2) (A := A') hC3.1 d2 d3 (fun _ => by rw [← e1]; exact d4 t.2 ht.2 (hz z9) (by omega)) (fun _ => e2), hC3⟩
      · rw [if_neg z9]
        exact ⟨CB_f hC3.1 z9 d2 d3, hC3⟩
    · rw [if_neg h0] at hq
      rw [if_neg h0]
      refine pw_if_eq 48 dX9_readPrefix_21 (by decide) (fun _ => ?_) (fun q => absurd (rfl) q)
      exact hq F' A' _ hfr hC
theorem c_readPrefix {b : BT} (hO : OX F A o O) (ho : o ≤ 1024) (hB : isB O o) (hn : n ≤ 300) (hn0 : F 34 10 = nI n) (h2 : F 35 2 = 0) (h3 : F 35 3 = 0) (hC : CB F A b) (hk : bk o n b) (hg : b.1.1 = 0 → b.2.1 = 0) (hQ : ∀ F' A', frU F F' A A' → CB F' A' (rEnd O (rPre O o n b)) → Q none (HS F' A' 3 lo X)) : PM Γ mX9_readPrefix [.ref 34] (HS F A 3 lo X) 0 0 Q := by
  obtain ⟨hR, g', c1, c2, c3⟩ := id hC
  have hw0 := wh0_ok hB hk
  have hpk := pg0_ok hB hk
  have hpre := rPre_ok hB hk hg
  unfold rPre at hQ hpre
  refine PM.go (l := [_, .float 0]) rfl rfl (Nat.le_of_ble_eq_true rfl) rfl ?_
  refine pw_aload_n rfl dX9_readPrefix_0 ?_
  refine pc_V0 dX9_readPrefix_1 lX9_149 rfl rfl (by decide) (Nat.le_of_ble_eq_true rfl) ?_
  refine c_readLengths hO ho hB hR hk ?_
  intro F1 A1 hf1 hR1 hP1 hK1
  obtain ⟨p, hp⟩ : ∃ p, p = pg0 O o b := ⟨_, rfl⟩
  rw [← hp] at hw0 hQ hR1 hP1 hK1 hpk hpre
  have hCY : CY O F1 A1 ((wh1 p.2.1 p.1, b.2), 0) := by
    refine ⟨⟨hR1, g', by rw [hf1.1 49 1 (by omega) (by omega)]; exact c1, c2, fun z => ?_⟩, hR1, 0, 0, by rw [hf1.1 35 3 (by omega) (by omega)]; exact h3, by omega, by rw [hf1.1 35 2 (by omega) (by omega)]; exact h2, by omega, fun _ => ⟨rfl, fun z => by omega⟩⟩
    rw [hf1.2 50 (by omega)]
    exact c3 (nxS_0 (hpk.2.2 (wh1_0 z).1).1).1
  refine pw_iconst 0 (by decide) dX9_readPrefix_4 ?_
  refine ps_istore_n (l' := [_, _]) dX9_readPrefix_5 (by decide) rfl rfl ?_
  refine ucp_loop (F := F1) (A := A1) (OX_L hO hf1) ho hB hn (by rw [hf1.1 34 10 (by omega) (by omega)]; exact hn0) hP1 hK1 n 0 ((wh1 p.2.1 p.1, b.2), 0) F1 A1 (by omega) (fun z => hg (nxS_0 (hpk.2.2 (wh1_0 z).1).1).1) frX_r hCY hw0 ?_
  intro F3 A3 i hf3 hC3
  obtain ⟨y, hy⟩ : ∃ y, y = rbs (dc0 O o p.2.1) 256 (fun j => nI j) n ((wh1 p.2.1 p.1, b.2), 0) := ⟨_, rfl⟩
  rw [← hy] at hC3 hQ hpre
  obtain ⟨hCB3, hCU3⟩ := id hC3
  obtain ⟨_, g3, d1, d2, d3⟩ := id hCB3
  refine pw_aload_n rfl dX9_readPrefix_48 ?_
  refine pw_gC dX9_readPrefix_49 fX9_12 (by first | rfl | assumption) rfl (by first | rfl | assumption) ?_
  refine pc_V0 dX9_readPrefix_52 lX9_146 rfl rfl (by decide) (Nat.le_of_ble_eq_true rfl) ?_
  refine c_endBits hCU3 (yok_u hpre.1) ?_
  intro F4 hf4 hR4
  refine pw_vret dX9_readPrefix_55 rfl ?_
  exact hQ F4 A3 (frU_t (frU_L hf1) (frU_t (frU_X hf3) (frU_B (frB_R hf4)))) ⟨hR4, g3, by rw [hf4 49 1 (by omega)]; exact d1, d2, fun h9 => d3 (ebR_0 h9).1⟩
end
