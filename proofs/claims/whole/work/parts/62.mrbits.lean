/-! BITS read again: the reference's readBits -/
theorem le_m1 {l v : Nat} (hl : l < 2 ^ 30) (hv : v < 2 ^ 30) : nI v ≤ nI l - 1 ↔ ¬ l ≤ v := by
  rw [Int32.le_iff_toInt_le, show (1 : Int32) = nI 1 from rfl, pk_sub_toInt hl (by omega), nI_toInt (by omega)]
  omega
theorem rdb_lt {O : Nat → Int32} {o : Nat} : ∀ (m j : Nat) (s : UT) (v : Nat), v < 2 ^ j → (rdb O o m s v).2 < 2 ^ (j + m)
  | 0, j, s, v => fun h => h
  | m + 1, j, s, v => fun h => by
    unfold rdb
    by_cases h0 : s.1.1 = 0
    · rw [if_pos h0]
      have hb := btV_lt (O := O) (o := o) (s := s)
      have := rdb_lt (O := O) (o := o) m (j + 1) (btS o s) (2 * v + btV O o s) (by rw [Nat.pow_succ]; omega)
      rw [show j + (m + 1) = j + 1 + m by omega]
      exact this
    · rw [if_neg h0]
      exact Nat.lt_of_lt_of_le h (Nat.pow_le_pow_right (by omega) (by omega))
def frZ (F F' A A' : Nat → Nat → Int32) : Prop := (∀ i j, ¬ (i = 57 ∧ (j = 27 ∨ j = 28 ∨ j = 31 ∨ j = 32 ∨ j = 34)) → F' i j = F i j) ∧ (∀ i, ¬ i = 63 → A' i = A i)
theorem frZ_r {F A : Nat → Nat → Int32} : frZ F F A A := ⟨fun _ _ _ => rfl, fun _ _ => rfl⟩
theorem frZ_t {F F1 F2 A A1 A2 : Nat → Nat → Int32} (h1 : frZ F F1 A A1) (h2 : frZ F1 F2 A1 A2) : frZ F F2 A A2 := ⟨fun i j k1 => by rw [h2.1 i j k1]; exact h1.1 i j k1, fun i k1 => by rw [h2.2 i k1]; exact h1.2 i k1⟩
theorem frZ_G {F F1 A A1 : Nat → Nat → Int32} (h : frG F F1 A A1) : frZ F F1 A A1 := ⟨fun i j k1 => h.1 i j (by omega), h.2⟩
theorem frZ_Y {F F1 A : Nat → Nat → Int32} (h : frY F F1) : frZ F F1 A A := ⟨fun i j k1 => h i j (by omega), fun _ _ => rfl⟩
theorem frZ_N {F F1 A : Nat → Nat → Int32} (h : frN F F1) : frZ F F1 A A := frZ_Y (frY_N h)
def frV (F F' A A' : Nat → Nat → Int32) : Prop := (∀ i j, ¬ (i = 57 ∧ (j = 27 ∨ j = 28 ∨ j = 31 ∨ j = 32 ∨ j = 34)) → F' i j = F i j) ∧ (∀ i, ¬ i = 63 → ¬ i = 71 → ¬ i = 67 → ¬ i = 68 → A' i = A i)
theorem frV_r {F A : Nat → Nat → Int32} : frV F F A A := ⟨fun _ _ _ => rfl, fun _ _ _ _ _ => rfl⟩
theorem frV_t {F F1 F2 A A1 A2 : Nat → Nat → Int32} (h1 : frV F F1 A A1) (h2 : frV F1 F2 A1 A2) : frV F F2 A A2 := ⟨fun i j k1 => by rw [h2.1 i j k1]; exact h1.1 i j k1, fun i k1 k2 k3 k4 => by rw [h2.2 i k1 k2 k3 k4]; exact h1.2 i k1 k2 k3 k4⟩
theorem frV_Z {F F1 A A1 : Nat → Nat → Int32} (h : frZ F F1 A A1) : frV F F1 A A1 := ⟨h.1, fun i k1 _ _ _ => h.2 i k1⟩
def MY (F A : Nat → Nat → Int32) (y : YT) : Prop := MB F A y.1 ∧ MU F (y.1.1, y.2)
theorem MB_Z {F F1 A : Nat → Nat → Int32} {b : BT} {r : RT} (hM : MB F A b) (hf : frY F F1) (hR : RM F1 r) (h : r.1 = 0 → b.1.1 = 0) : MB F1 A (r, b.2) := ⟨hR, fun h0 => ⟨by rw [hf 57 32 (by omega)]; exact (hM.2 (h h0)).1, (hM.2 (h h0)).2⟩⟩
section
variable {Γ : Nat × (Nat → Int32)} {F A : Nat → Nat → Int32} {lo : Int64} {X : PH} {Q : Option Value → PH → Prop} {o n : Nat} {O : Nat → Int32} {rf : Nat}
theorem OM_Z {F' A' : Nat → Nat → Int32} (h : OM F A o O) (hf : frZ F F' A A') : OM F' A' o O := OM_fr h (hf.1 _ _ (by omega)) (hf.2 _ (by omega))
theorem OM_V {F' A' : Nat → Nat → Int32} (h : OM F A o O) (hf : frV F F' A A') : OM F' A' o O := OM_fr h (hf.1 _ _ (by omega)) (hf.2 _ (by omega) (by omega) (by omega) (by omega))
theorem ums_loop {K : Nat} (hK : K ≤ 256) (hO : OM F A o O) (ho : o ≤ 1024) (hB : isB O o) {g4 g5 : Value} : ∀ (m i l : Nat) (r : RT) (f : Nat → Int32) (x : Int32) (F' A' : Nat → Nat → Int32), i + m = K → x = nI l - 1 → l ≤ 256 → frN F F' → (∀ i, ¬ i = 71 → A' i = A i) → RM F' r → rok o r → same (A' 71) f i →
    (∀ F' A' x i, frN F F' → (∀ i, ¬ i = 71 → A' i = A i) → RM F' (rsg O o m r l (K - m) f).1 → ((rsg O o m r l (K - m) f).1.1 = 0 → same (A' 71) (rsg O o m r l (K - m) f).2 K) → PW Γ mX11_readBits 73 [.ref 57, .int (nI K), .int x, .int i, g4, g5] [] (HS F' A' rf lo X) 0 0 Q) →
    PW Γ mX11_readBits 11 [.ref 57, .int (nI K), .int x, .int (nI i), g4, g5] [] (HS F' A' rf lo X) 0 0 Q := by
  intro m
  induction m with
  | zero =>
    intro i l r f x F' A' hi hx hl hfr hA hR hk hs hq
    have hi2 : i = K := by omega
    subst hi2
    refine pw_iload_n rfl dX11_readBits_11 ?_
    refine pw_iload_n rfl dX11_readBits_12 ?_
    refine pw_icmp_ge 73 dX11_readBits_13 (by decide) (fun _ => ?_) (fun q => absurd (nI_le (Nat.le_refl _) (by omega)) q)
    exact hq F' A' _ _ hfr hA hR (fun _ => hs)
  | succ m ih =>
    intro i l r f x F' A' hi hx hl hfr hA hR hk hs hq
    have hv := nxV_lt hB (o := o) (r := r)
    have hKm : K - (m + 1) = i := by omega
    rw [hKm] at hq
    unfold rsg at hq
    refine pw_iload_n rfl dX11_readBits_11 ?_
    refine pw_iload_n rfl dX11_readBits_12 ?_
    refine pw_icmp_ge 73 dX11_readBits_13 (by decide) (fun q => absurd q (nI_ge (by omega) (by omega))) (fun _ => ?_)
    refine pw_aload_n rfl dX11_readBits_16 ?_
    refine pw_gI dX11_readBits_17 fX11_201 (by first | rfl | assumption) rfl ?_
    rw [hR.1]
    by_cases h0 : r.1 = 0
    · rw [if_pos h0] at hq
      refine pw_if_ne 73 dX11_readBits_20 (by decide) (fun q => absurd (by rw [h0]; rfl) q) (fun _ => ?_)
      refine pw_aload_n rfl dX11_readBits_23 ?_
      refine pw_gC dX11_readBits_24 fX11_49 (by first | rfl | assumption) rfl (by first | rfl | assumption) ?_
      refine pw_iload_n rfl dX11_readBits_27 ?_
      refine pw_aload_n rfl dX11_readBits_28 ?_
      refine pc_V0 dX11_readBits_29 lX11_213 rfl rfl (by decide) (Nat.le_of_ble_eq_true rfl) ?_
      refine m_next (OM_fr hO (hfr _ _ (by omega)) (hA _ (by omega))) ho hB hR hk ?_
      intro F1 hf1 hR1
      have hkn := nxS_rok hk
      refine pw_sI dX11_readBits_32 (by first | rfl | assumption) (by first | assumption | exact vp_in_nI (by omega) (by omega)) ?_
      refine pw_aload_n rfl dX11_readBits_33 ?_
      refine pw_aload_n rfl dX11_readBits_34 ?_
      refine pw_gI dX11_readBits_35 fX11_201 (by first | rfl | assumption) rfl ?_
      rw [nI_clamp (by omega), hR1.1]
      have mus : ∀ z : Int32, (z = 0 → ¬ l ≤ nxV O o r) → (¬ z = 0 → l ≤ nxV O o r ∨ ¬ (nxS o r).1 = 0) → PW Γ mX11_readBits 56 [.ref 57, .int (nI K), .int x, .int (nI i), g4, g5] [.int z, .ref 57] (HS F1 (stA A' 71 (upd (A' 71) i (nI (nxV O o r)))) rf lo X) 0 0 Q := by
        intro z z1 z2
        refine pw_iconst 4 (by decide) dX11_readBits_56 ?_
        refine pc_V2 dX11_readBits_57 lX11_222 rfl rfl (by decide) (Nat.le_of_ble_eq_true rfl) ?_
        refine m_must (w := 4) hR1 hkn.1 (by omega) (fun h => by rw [(nxS_0 h).2.2]; show 1 ≤ r.2.2 + 1; omega) ?_
        intro F2 hf2 hR2
        have hR3 : RM F2 (rs1 O o r l) := by
          unfold rs1
          by_cases hz : z = 0
          · rw [if_neg (z1 hz)]
            rw [if_pos hz] at hR2
            exact hR2
          · rw [if_neg hz] at hR2
            rcases z2 hz with h | h
            · rw [if_pos h]; exact hR2
            · rw [blm_f h]
              split
              · exact hR2
              · exact hR2
        refine pw_aload_n rfl dX11_readBits_60 ?_
        refine pw_gC dX11_readBits_61 fX11_49 (by first | rfl | assumption) rfl (by first | rfl | assumption) ?_
        refine pw_iload_n rfl dX11_readBits_64 ?_
        refine pw_aI dX11_readBits_65 (by first | rfl | assumption) (by first | assumption | exact vp_in_nI (by omega) (by omega)) ?_
        refine ps_istore_n (l' := [_, _, _, _, _, _]) dX11_readBits_66 (by decide) rfl rfl ?_
        refine ps_iinc (l' := [_, _, _, _, _, _]) 1 dX11_readBits_67 (by decide) rfl (by decide) rfl rfl ?_
        refine pw_goto 11 dX11_readBits_70 (by decide) ?_
        rw [nI_1, stA_s, nI_clamp (by omega), upd_s]
        refine ih (i + 1) (nxV O o r + 1) (rs1 O o r l) (upd f i (nI (nxV O o r))) _ F2 _ (by omega) ?_ (by omega) (frN_t hfr (frN_t hf1 hf2)) (fun i hi => by rw [stA_n hi]; exact hA i hi) hR3 (rs1_ok hk).1 ?_ ?_
        · exact (pk_sub (a := nxV O o r + 1) (b := 1) (by omega)).symm
        · intro j hj
          rw [stA_s]
          by_cases h : j = i
          · rw [h, upd_s, upd_s]
          · rw [upd_n h, upd_n h]; exact hs j (by omega)
        · rw [show K - m = i + 1 by omega]
          exact hq
      have hle := le_m1 (l := l) (v := nxV O o r) (by omega) (by omega)
      by_cases hf0 : (nxS o r).1 = 0
      · refine pw_if_ne 51 dX11_readBits_38 (by decide) (fun q => absurd (by rw [hf0]; rfl) q) (fun _ => ?_)
        refine pw_aload_n rfl dX11_readBits_41 ?_
        refine pw_gC dX11_readBits_42 fX11_49 (by first | rfl | assumption) rfl (by first | rfl | assumption) ?_
        refine pw_iload_n rfl dX11_readBits_45 ?_
        refine pw_aI dX11_readBits_46 (by first | rfl | assumption) (by first | assumption | exact vp_in_nI (by omega) (by omega)) ?_
        refine pw_iload_n rfl dX11_readBits_47 ?_
        rw [stA_s, nI_clamp (by omega), upd_s]
        by_cases hll : l ≤ nxV O o r
        · refine pw_icmp_le 55 dX11_readBits_48 (by decide) (fun q => absurd q (by rw [hx, hle]; exact fun h9 => h9 hll)) (fun _ => ?_)
          refine pw_iconst 1 (by decide) dX11_readBits_51 ?_
          refine pw_goto 56 dX11_readBits_52 (by decide) ?_
          exact mus 1 (fun h => absurd h (by decide)) (fun _ => Or.inl hll)
        · refine pw_icmp_le 55 dX11_readBits_48 (by decide) (fun _ => ?_) (fun q => absurd (by rw [hx, hle]; exact hll) q)
          refine pw_iconst 0 (by decide) dX11_readBits_55 ?_
          exact mus 0 (fun _ => hll) (fun h => absurd rfl h)
      · have := hkn.1
        refine pw_if_ne 51 dX11_readBits_38 (by decide) (fun _ => ?_) (fun q => absurd q (nI_ne0 (by omega) (by omega)))
        refine pw_iconst 1 (by decide) dX11_readBits_51 ?_
        refine pw_goto 56 dX11_readBits_52 (by decide) ?_
        exact mus 1 (fun h => absurd h (by decide)) (fun _ => Or.inr hf0)
    · rw [if_neg h0] at hq
      have := hk.1
      refine pw_if_ne 73 dX11_readBits_20 (by decide) (fun _ => ?_) (fun q => absurd q (nI_ne0 (by omega) (by omega)))
      exact hq F' A' _ _ hfr hA hR (fun h9 => absurd h9 h0)
theorem umn_loop {W K : Nat} {x2 : Int32} (hW : W ≤ 8) (hO : OM F A o O) (ho : o ≤ 1024) (hB : isB O o) : ∀ (m j : Nat) (s : UT) (v : Nat) (F' : Nat → Nat → Int32), j + m = W → frY F F' → MU F' s → uok o s → v < 2 ^ j →
    (∀ F' x5, frY F F' → MU F' (rdb O o m s v).1 → PW Γ mX11_readBits 138 [.ref 57, .int (nI K), .int x2, .int (nI W), .int (nI (rdb O o m s v).2), .int x5] [] (HS F' A rf lo X) 0 0 Q) →
    PW Γ mX11_readBits 108 [.ref 57, .int (nI K), .int x2, .int (nI W), .int (nI v), .int (nI j)] [] (HS F' A rf lo X) 0 0 Q := by
  intro m
  induction m with
  | zero =>
    intro j s v F' hj hfr hC hk hv hq
    have hj2 : j = W := by omega
    subst hj2
    refine pw_iload rfl dX11_readBits_108 ?_
    refine pw_iload_n rfl dX11_readBits_110 ?_
    refine pw_icmp_ge 138 dX11_readBits_111 (by decide) (fun _ => ?_) (fun q => absurd (nI_le (Nat.le_refl _) (by omega)) q)
    exact hq F' _ hfr hC
  | succ m ih =>
    intro j s v F' hj hfr hC hk hv hq
    have hp : 2 ^ j ≤ 2 ^ 8 := Nat.pow_le_pow_right (by omega) (by omega)
    unfold rdb at hq
    refine pw_iload rfl dX11_readBits_108 ?_
    refine pw_iload_n rfl dX11_readBits_110 ?_
    refine pw_icmp_ge 138 dX11_readBits_111 (by decide) (fun q => absurd q (nI_ge (by omega) (by omega))) (fun _ => ?_)
    refine pw_aload_n rfl dX11_readBits_114 ?_
    refine pw_gI dX11_readBits_115 fX11_201 (by first | rfl | assumption) rfl ?_
    rw [hC.1.1]
    by_cases h0 : s.1.1 = 0
    · rw [if_pos h0] at hq
      refine pw_if_ne 138 dX11_readBits_118 (by decide) (fun q => absurd (by rw [h0]; rfl) q) (fun _ => ?_)
      refine pw_iconst 2 (by decide) dX11_readBits_121 ?_
      refine pw_iload rfl dX11_readBits_122 ?_
      rw [show (2 : Int32) = nI 2 from rfl]
      refine pw_imul dX11_readBits_124 ?_
      refine pw_aload_n rfl dX11_readBits_125 ?_
      rw [pk_mul]
      refine pc_V0 dX11_readBits_126 lX11_219 rfl rfl (by decide) (Nat.le_of_ble_eq_true rfl) ?_
      refine m_bit (OM_fr hO (hfr _ _ (by omega)) rfl) ho hB hC hk ?_
      intro F1 hf1 hM1
      have hb := btV_lt (O := O) (o := o) (s := s)
      refine pw_iadd dX11_readBits_129 ?_
      rw [nI_add]
      refine ps_istore (l' := [_, _, _, _, _, _]) dX11_readBits_130 (by decide) rfl rfl ?_
      refine ps_iinc (l' := [_, _, _, _, _, _]) 1 dX11_readBits_132 (by decide) rfl (by decide) rfl rfl ?_
      refine pw_goto 108 dX11_readBits_135 (by decide) ?_
      rw [nI_1]
      exact ih (j + 1) (btS o s) (2 * v + btV O o s) F1 (by omega) (frY_t hfr hf1) hM1 (btS_ok hk) (by rw [Nat.pow_succ]; omega) hq
    · rw [if_neg h0] at hq
      have := hk.1.1
      refine pw_if_ne 138 dX11_readBits_118 (by decide) (fun _ => ?_) (fun q => absurd q (nI_ne0 (by omega) (by omega)))
      exact hq F' _ hfr hC
theorem umb_loop {W K : Nat} {x2 : Int32} {f : Nat → Int32} (hW : W ≤ 8) (hK : K ≤ 256) (hO : OM F A o O) (ho : o ≤ 1024) (hB : isB O o) (hn : n ≤ 300) (hn0 : F 57 33 = nI n) (h71 : same (A 71) f K) (hf : isB f K) : ∀ (m : Nat) (y : YT) (F' A' : Nat → Nat → Int32) (g4 g5 : Value), g4.category = 1 → g5.category = 1 → (y.1.1.1 = 0 → y.1.2.1 + m = n) → frZ F F' A A' → MY F' A' y → yok o n y →
    (∀ F' A' g4 g5, frZ F F' A A' → MY F' A' (rbs (fun s => rdb O o W s 0) K f m y) → PW Γ mX11_readBits 182 [.ref 57, .int (nI K), .int x2, .int (nI W), g4, g5] [] (HS F' A' rf lo X) 0 0 Q) →
    PW Γ mX11_readBits 84 [.ref 57, .int (nI K), .int x2, .int (nI W), g4, g5] [] (HS F' A' rf lo X) 0 0 Q := by
  intro m
  induction m with
  | zero =>
    intro y F' A' g4 g5 k4 k5 hgi hfr hC hk hq
    obtain ⟨hMB, hMU⟩ := id hC
    refine pw_aload_n rfl dX11_readBits_84 ?_
    refine pw_gI dX11_readBits_85 fX11_201 (by first | rfl | assumption) rfl ?_
    rw [hMB.1.1]
    by_cases h0 : y.1.1.1 = 0
    · have e1 := hgi h0
      refine pw_if_ne 182 dX11_readBits_88 (by decide) (fun q => absurd (by rw [h0]; rfl) q) (fun _ => ?_)
      refine pw_aload_n rfl dX11_readBits_91 ?_
      refine pw_gI dX11_readBits_92 fX11_216 (by first | rfl | assumption) rfl ?_
      rw [(hMB.2 h0).1]
      refine pw_aload_n rfl dX11_readBits_95 ?_
      refine pw_gI dX11_readBits_96 fX11_226 (by first | rfl | assumption) rfl ?_
      rw [hfr.1 57 33 (by omega), hn0]
      refine pw_icmp_ge 182 dX11_readBits_99 (by decide) (fun _ => ?_) (fun q => absurd (nI_le (by omega) (by omega)) q)
      exact hq F' A' _ _ hfr hC
    · have := hk.1.1.1
      refine pw_if_ne 182 dX11_readBits_88 (by decide) (fun _ => ?_) (fun q => absurd q (nI_ne0 (by omega) (by omega)))
      exact hq F' A' _ _ hfr hC
  | succ m ih =>
    intro y F' A' g4 g5 k4 k5 hgi hfr hC hk hq
    obtain ⟨hMB, hMU⟩ := id hC
    have hku := yok_u hk
    unfold rbs at hq
    refine pw_aload_n rfl dX11_readBits_84 ?_
    refine pw_gI dX11_readBits_85 fX11_201 (by first | rfl | assumption) rfl ?_
    rw [hMB.1.1]
    by_cases h0 : y.1.1.1 = 0
    · rw [if_pos h0] at hq
      have e1 := hgi h0
      obtain ⟨e2, e3⟩ := hMB.2 h0
      refine pw_if_ne 182 dX11_readBits_88 (by decide) (fun q => absurd (by rw [h0]; rfl) q) (fun _ => ?_)
      refine pw_aload_n rfl dX11_readBits_91 ?_
      refine pw_gI dX11_readBits_92 fX11_216 (by first | rfl | assumption) rfl ?_
      rw [e2]
      refine pw_aload_n rfl dX11_readBits_95 ?_
      refine pw_gI dX11_readBits_96 fX11_226 (by first | rfl | assumption) rfl ?_
      rw [hfr.1 57 33 (by omega), hn0]
      refine pw_icmp_ge 182 dX11_readBits_99 (by decide) (fun q => absurd q (nI_ge (by omega) (by omega))) (fun _ => ?_)
      refine pw_iconst 0 (by decide) dX11_readBits_102 ?_
      refine ps_istore (l' := [_, _, _, _, _, _]) dX11_readBits_103 (by decide) rfl rfl ?_
      refine pw_iconst 0 (by decide) dX11_readBits_105 ?_
      refine ps_istore (l' := [_, _, _, _, _, _]) dX11_readBits_106 (by decide) rfl rfl ?_
      refine umn_loop (F := F') (A := A') hW (OM_Z hO hfr) ho hB W 0 (y.1.1, y.2) 0 F' (by omega) frY_r hMU hku (by decide) ?_
      intro F1 x5 hf1 hC1
      have ht := rdb_ok (O := O) W (y.1.1, y.2) 0 hku
      have htl := rdb_lt (O := O) (o := o) W 0 (y.1.1, y.2) 0 (by decide)
      have hE := rbE_ok (t := rdb O o W (y.1.1, y.2) 0) hf hk ht.1 ht.2 (fun _ => by omega)
      obtain ⟨t, htd⟩ : ∃ t, t = rdb O o W (y.1.1, y.2) 0 := ⟨_, rfl⟩
      rw [← htd] at hC1 ht hE htl
      rw [← htd]
      have hq2 : ∀ F' A' g4 g5, frZ F F' A A' → MY F' A' (rbs (fun s => rdb O o W s 0) K f m (rbE K f y t)) → PW Γ mX11_readBits 182 [.ref 57, .int (nI K), .int x2, .int (nI W), g4, g5] [] (HS F' A' rf lo X) 0 0 Q := by rw [htd]; exact hq
      have hp : 2 ^ (0 + W) ≤ 2 ^ 8 := Nat.pow_le_pow_right (by omega) (by omega)
      have hfr1 : frZ F F1 A A' := frZ_t hfr (frZ_Y hf1)
      have back : ∀ (F2 A2 : Nat → Nat → Int32), frZ F F2 A A2 → MY F2 A2 (rbE K f y t) → PW Γ mX11_readBits 84 [.ref 57, .int (nI K), .int x2, .int (nI W), .int (nI t.2), .int x5] [] (HS F2 A2 rf lo X) 0 0 Q := by
        intro F2 A2 hf2 hM2
        exact ih (rbE K f y t) F2 A2 _ _ rfl rfl (fun z => by have := (hE.2 z).2; omega) hf2 hM2 hE.1 hq2
      have mus : ∀ z : Int32, (z = 0 → ¬ t.2 < K ∧ t.1.1.1 = 0) → (¬ z = 0 → t.2 < K ∨ ¬ t.1.1.1 = 0) → PW Γ mX11_readBits 157 [.ref 57, .int (nI K), .int x2, .int (nI W), .int (nI t.2), .int x5] [.int z, .ref 57] (HS F1 A' rf lo X) 0 0 Q := by
        intro z z1 z2
        refine pw_iconst 4 (by decide) dX11_readBits_157 ?_
        refine pc_V2 dX11_readBits_158 lX11_222 rfl rfl (by decide) (Nat.le_of_ble_eq_true rfl) ?_
        refine m_must (w := 4) hC1.1 ht.1.1.1 (by omega) ht.1.2.2 ?_
        intro F2 hf2 hR2
        refine pw_aload_n rfl dX11_readBits_161 ?_
        refine pw_gI dX11_readBits_162 fX11_201 (by first | rfl | assumption) rfl ?_
        rw [hR2.1]
        have hf12 := frY_t hf1 (frY_N hf2)
        by_cases hz : z = 0
        · rw [if_pos hz] at hR2 ⊢
          have hbl : ¬ (blm 4 t.1.1).1 = 0 := blm_0 (by omega)
          have hbk := (blm_rok (w := 4) ht.1.1 (by omega)).1
          refine pw_if_ne 179 dX11_readBits_165 (by decide) (fun _ => ?_) (fun q => absurd q (nI_ne0 (by omega) (by omega)))
          refine pw_goto 84 dX11_readBits_179 (by decide) ?_
          refine back F2 A' (frZ_t hfr (frZ_Y hf12)) ?_
          unfold rbE
          rw [if_pos (z1 hz).2, if_neg (z1 hz).1]
          exact ⟨MB_Z hMB hf12 hR2 (fun h9 => absurd h9 hbl), MU_bl hf2 hR2 (fun h9 => absurd h9 hbl) hC1⟩
        · rw [if_neg hz] at hR2 ⊢
          by_cases ht0 : t.1.1.1 = 0
          · have hlt : t.2 < K := by
              rcases z2 hz with h | h
              · exact h
              · exact absurd ht0 h
            refine pw_if_ne 179 dX11_readBits_165 (by decide) (fun q => absurd (by rw [ht0]; rfl) q) (fun _ => ?_)
            refine pw_aload_n rfl dX11_readBits_168 ?_
            refine pw_aload_n rfl dX11_readBits_169 ?_
            refine pw_gC dX11_readBits_170 fX11_49 (by first | rfl | assumption) rfl (by first | rfl | assumption) ?_
            refine pw_iload rfl dX11_readBits_173 ?_
            refine pw_aI dX11_readBits_175 (by first | rfl | assumption) (by first | assumption | exact vp_in_nI (by omega) (by omega)) ?_
            rw [nI_clamp (by omega), hfr.2 71 (by omega), h71 _ hlt]
            refine pc_V1 dX11_readBits_176 lX11_229 rfl rfl (by decide) (Nat.le_of_ble_eq_true rfl) ?_
            refine m_come (o := o) (b := (t.1.1, y.1.2)) (MB_Z hMB hf12 hR2 ht.2) ht.1.1 (fun _ => by show y.1.2.1 < 300; omega) ?_
            intro F3 A3 hf3 h32 hM3
            rw [if_pos ht0] at hM3
            refine pw_goto 84 dX11_readBits_179 (by decide) ?_
            refine back F3 A3 (frZ_t (frZ_t hfr (frZ_Y hf12)) (frZ_G hf3)) ?_
            unfold rbE
            rw [if_pos ht0, if_pos hlt]
            obtain ⟨_, u, u1, u2, u3⟩ := hC1
            exact ⟨hM3, hM3.1, u, by rw [h32 34 (by omega), hf2 57 34 (by omega)]; exact u1, u2, u3⟩
          · have := ht.1.1.1
            refine pw_if_ne 179 dX11_readBits_165 (by decide) (fun _ => ?_) (fun q => absurd q (nI_ne0 (by omega) (by omega)))
            refine pw_goto 84 dX11_readBits_179 (by decide) ?_
            refine back F2 A' (frZ_t hfr (frZ_Y hf12)) ?_
            unfold rbE
            rw [if_neg ht0]
            exact ⟨MB_Z hMB hf12 hR2 (fun h9 => absurd h9 ht0), MU_bl hf2 hR2 (fun h9 => h9) hC1⟩
      refine pw_aload_n rfl dX11_readBits_138 ?_
      refine pw_aload_n rfl dX11_readBits_139 ?_
      refine pw_gI dX11_readBits_140 fX11_201 (by first | rfl | assumption) rfl ?_
      rw [hC1.1.1]
      by_cases ht0 : t.1.1.1 = 0
      · refine pw_if_ne 152 dX11_readBits_143 (by decide) (fun q => absurd (by rw [ht0]; rfl) q) (fun _ => ?_)
        refine pw_iload rfl dX11_readBits_146 ?_
        refine pw_iload_n rfl dX11_readBits_148 ?_
        by_cases hlt : t.2 < K
        · refine pw_icmp_ge 156 dX11_readBits_149 (by decide) (fun q => absurd q (nI_ge hlt (by omega))) (fun _ => ?_)
          refine pw_iconst 1 (by decide) dX11_readBits_152 ?_
          refine pw_goto 157 dX11_readBits_153 (by decide) ?_
          exact mus 1 (fun h => absurd h (by decide)) (fun _ => Or.inl hlt)
        · refine pw_icmp_ge 156 dX11_readBits_149 (by decide) (fun _ => ?_) (fun q => absurd (nI_le (by omega) (by omega)) q)
          refine pw_iconst 0 (by decide) dX11_readBits_156 ?_
          exact mus 0 (fun _ => ⟨hlt, ht0⟩) (fun h => absurd rfl h)
      · have := ht.1.1.1
        refine pw_if_ne 152 dX11_readBits_143 (by decide) (fun _ => ?_) (fun q => absurd q (nI_ne0 (by omega) (by omega)))
        refine pw_iconst 1 (by decide) dX11_readBits_152 ?_
        refine pw_goto 157 dX11_readBits_153 (by decide) ?_
        exact mus 1 (fun h => absurd h (by decide)) (fun _ => Or.inr ht0)
    · rw [if_neg h0] at hq
      have := hk.1.1.1
      refine pw_if_ne 182 dX11_readBits_88 (by decide) (fun _ => ?_) (fun q => absurd q (nI_ne0 (by omega) (by omega)))
      exact hq F' A' _ _ hfr hC
theorem m_readBits {b : BT} (hO : OM F A o O) (ho : o ≤ 1024) (hB : isB O o) (hn : n ≤ 300) (hn0 : F 57 33 = nI n) (hC : MB F A b) (hk : bk o n b) (hg : b.1.1 = 0 → b.2.1 = 0) (hQ : ∀ F' A', frV F F' A A' → MB F' A' (rEnd O (rBits O o n b)) → Q none (HS F' A' rf lo X)) : PM Γ mX11_readBits [.ref 57] (HS F A rf lo X) 0 0 Q := by
  obtain ⟨hR, hg2⟩ := id hC
  have hv := nxV_lt hB (o := o) (r := b.1)
  have hs := rsg0_ok hB hk
  refine PM.go (l := [_, .float 0, .float 0, .float 0, .float 0, .float 0]) rfl rfl (Nat.le_of_ble_eq_true rfl) rfl ?_
  refine pw_aload_n rfl dX11_readBits_0 ?_
  refine pc_V0 dX11_readBits_1 lX11_213 rfl rfl (by decide) (Nat.le_of_ble_eq_true rfl) ?_
  refine m_next hO ho hB hR hk.1 ?_
  intro F1 hf1 hR1
  refine pw_iconst 1 (by decide) dX11_readBits_4 ?_
  refine pw_iadd dX11_readBits_5 ?_
  refine ps_istore_n (l' := [_, _, _, _, _, _]) dX11_readBits_6 (by decide) rfl rfl ?_
  refine pw_iconst (-1) (by decide) dX11_readBits_7 ?_
  refine ps_istore_n (l' := [_, _, _, _, _, _]) dX11_readBits_8 (by decide) rfl rfl ?_
  refine pw_iconst 0 (by decide) dX11_readBits_9 ?_
  refine ps_istore_n (l' := [_, _, _, _, _, _]) dX11_readBits_10 (by decide) rfl rfl ?_
  rw [nI_1]
  refine ums_loop (F := F1) (A := A) (K := nxV O o b.1 + 1) (by omega) (OM_fr hO (hf1 _ _ (by omega)) rfl) ho hB (nxV O o b.1 + 1) 0 0 (nxS o b.1) (fun _ => 0) (-1) F1 A (by omega) rfl (by omega) frN_r (fun _ _ => rfl) hR1 (nxS_rok hk.1) (fun j hj => by omega) ?_
  intro F2 A2 x3 i3 hf2 hA2 hR2 hs2
  rw [Nat.sub_self] at hR2 hs2
  obtain ⟨sg, hsg⟩ : ∃ sg, sg = rsg O o (nxV O o b.1 + 1) (nxS o b.1) 0 0 (fun _ => 0) := ⟨_, rfl⟩
  rw [← hsg] at hR2 hs2 hs
  have hQ2 : ∀ F' A', frV F F' A A' → MB F' A' (rEnd O (rbs (fun s => rdb O o (wid (nxV O o b.1)) s 0) (nxV O o b.1 + 1) sg.2 n ((sg.1, b.2), 0))) → Q none (HS F' A' rf lo X) := by rw [hsg]; exact hQ
  refine pw_iload_n rfl dX11_readBits_73 ?_
  refine pc_S1 dX11_readBits_74 lX11_146 (by decide) (Nat.le_of_ble_eq_true rfl) ?_
  refine m_widthOf hv ?_
  have hw := wid_le hv
  refine ps_istore_n (l' := [_, _, _, _, _, _]) dX11_readBits_77 (by decide) rfl rfl ?_
  refine pw_aload_n rfl dX11_readBits_78 ?_
  refine pw_bipush 8 (by decide) dX11_readBits_79 ?_
  refine pw_pI dX11_readBits_81 fX11_210 (by first | rfl | assumption) rfl ⟨rfl, rfl⟩ ?_
  have hfV : frV F (upF F2 57 34 8) A A2 := ⟨fun i j k1 => by rw [upF_n (by omega), hf2 i j (by omega)]; exact hf1 i j (by omega), fun i k1 k2 k3 k4 => hA2 i k2⟩
  have hR3 : RM (upF F2 57 34 8) sg.1 := ⟨by rw [upF_n (by omega)]; exact hR2.1, fun z => by rw [upF_n (by omega), upF_n (by omega)]; exact hR2.2.1 z, fun z => by rw [upF_n (by omega)]; exact hR2.2.2 z⟩
  have hMY : MY (upF F2 57 34 8) A2 ((sg.1, b.2), 0) := by
    refine ⟨⟨hR3, fun z => ?_⟩, hR3, 8, upF_s, by omega, fun _ => rfl⟩
    rw [upF_n (by omega), hf2 57 32 (by omega), hf1 57 32 (by omega), hA2 63 (by omega)]
    exact hg2 (hs.2 z).1
  have fin : ∀ (F3 A3 : Nat → Nat → Int32) (y : YT) (g4 g5 : Value), frV F F3 A A3 → MY F3 A3 y → yok o n y → (∀ F' A', frV F F' A A' → MB F' A' (rEnd O y) → Q none (HS F' A' rf lo X)) → PW Γ mX11_readBits 182 [.ref 57, .int (nI (nxV O o b.1 + 1)), .int x3, .int (nI (wid (nxV O o b.1))), g4, g5] [] (HS F3 A3 rf lo X) 0 0 Q := by
    intro F3 A3 y g4 g5 hf3 hM3 hyk hq
    refine pw_aload_n rfl dX11_readBits_182 ?_
    refine pc_V0 dX11_readBits_183 lX11_232 rfl rfl (by decide) (Nat.le_of_ble_eq_true rfl) ?_
    refine m_endBits (OM_V hO hf3) ho hB hM3.2 (yok_u hyk) ?_
    intro F4 hf4 hR4
    refine pw_vret dX11_readBits_186 rfl ?_
    exact hq F4 A3 (frV_t hf3 (frV_Z (frZ_Y hf4))) (MB_Z hM3.1 hf4 hR4 (fun z => (ebR_0 z).1))
  by_cases z : sg.1.1 = 0
  · have e0 := hg (hs.2 z).1
    refine umb_loop (F := upF F2 57 34 8) (A := A2) hw (by omega) (OM_V hO hfV) ho hB hn (by rw [hfV.1 57 33 (by omega)]; exact hn0) (hs2 z) (hs.2 z).2 n ((sg.1, b.2), 0) _ A2 _ _ rfl rfl (fun _ => by show b.2.1 + n = n; omega) frZ_r hMY hs.1 ?_
    intro F3 A3 g4 g5 hf3 hC3
    refine fin F3 A3 _ g4 g5 (frV_t hfV (frV_Z hf3)) hC3 ?_ hQ2
    exact (rbs_ok gok_rdb (hs.2 z).2 n _ hs.1 (fun _ => by show b.2.1 + n ≤ n; omega)).1
  · have e : rbs (fun s => rdb O o (wid (nxV O o b.1)) s 0) (nxV O o b.1 + 1) sg.2 n ((sg.1, b.2), 0) = ((sg.1, b.2), 0) := rbs_f z
    rw [e] at hQ2
    have : sg.1.1 ≤ 4 := hs.1.1.1.1
    refine pw_aload_n rfl dX11_readBits_84 ?_
    refine pw_gI dX11_readBits_85 fX11_201 (by first | rfl | assumption) rfl ?_
    rw [hR3.1]
    refine pw_if_ne 182 dX11_readBits_88 (by decide) (fun _ => ?_) (fun q => absurd q (nI_ne0 (by omega) (by omega)))
    exact fin _ A2 _ _ _ hfV hMY hs.1 hQ2
end
