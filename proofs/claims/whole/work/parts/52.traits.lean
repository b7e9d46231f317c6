/-! FLAT and FEATURE -/
def flz (f : Nat → Int32) (n : Nat) : Nat → Bool
  | 0 => true
  | b + 1 => flz f n b && decide (cnt f n b ≤ 2 + n / 32)
def flat (f : Nat → Int32) (n : Nat) : Bool := decide (64 ≤ n) && flz f n 256
theorem flz_no {f : Nat → Int32} {n b : Nat} (h : ¬ cnt f n b ≤ 2 + n / 32) : ∀ k, flz f n (b + 1 + k) = false
  | 0 => by
    show (flz f n b && decide (cnt f n b ≤ 2 + n / 32)) = false
    rw [decide_eq_false h, Bool.and_false]
  | k + 1 => by
    show (flz f n (b + 1 + k) && decide (cnt f n (b + 1 + k) ≤ 2 + n / 32)) = false
    rw [flz_no h k, Bool.false_and]
theorem cg_flz {f g : Nat → Int32} {n : Nat} (h : same f g n) : ∀ b, flz f n b = flz g n b
  | 0 => rfl
  | b + 1 => by
    show (flz f n b && decide (cnt f n b ≤ 2 + n / 32)) = (flz g n b && decide (cnt g n b ≤ 2 + n / 32))
    rw [cg_flz h b, cg_cnt h b]
theorem cg_flat {f g : Nat → Int32} {n : Nat} (h : same f g n) : flat f n = flat g n := by
  unfold flat
  rw [cg_flz h]
/-- how far byte i is from the one before -/
def ad (f : Nat → Int32) (i : Nat) : Nat := (bN (f i) - bN (f (i - 1))) + (bN (f (i - 1)) - bN (f i))
def sml (f : Nat → Int32) : Nat → Nat
  | 0 => 0
  | i + 1 => sml f i + (if 1 ≤ i ∧ ad f i = 0 then 1 else 0)
def nea (f : Nat → Int32) : Nat → Nat
  | 0 => 0
  | i + 1 => nea f i + (if 1 ≤ i ∧ (ad f i = 1 ∨ ad f i = 2) then 1 else 0)
def qt (p n : Nat) : Nat := if n = 0 then 0 else min 3 (4 * p / n)
def vr (u : Nat) : Nat := if u ≤ 2 then 0 else if u ≤ 16 then 1 else if u ≤ 64 then 2 else 3
def feat (f : Nat → Int32) (n : Nat) : Nat := 16 * vr (unl f n) + 4 * qt (sml f n) n + qt (nea f n) n
theorem sml_le (f : Nat → Int32) : ∀ i, sml f i ≤ i ∧ nea f i ≤ i
  | 0 => ⟨Nat.le_refl _, Nat.le_refl _⟩
  | i + 1 => by
    have := sml_le f i
    unfold sml nea
    constructor
    · split <;> omega
    · split <;> omega
theorem qt_le (p n : Nat) : qt p n ≤ 3 := by
  unfold qt
  split
  · omega
  · exact Nat.min_le_left _ _
theorem vr_le (u : Nat) : vr u ≤ 3 := by
  unfold vr
  (repeat' split) <;> omega
theorem feat_lt (f : Nat → Int32) (n : Nat) : feat f n < 64 := by
  have h1 := qt_le (sml f n) n
  have h2 := qt_le (nea f n) n
  have h3 := vr_le (unl f n)
  unfold feat
  omega
theorem cg_ad {f g : Nat → Int32} {n i : Nat} (h : same f g n) (hi : i < n) : ad f i = ad g i := by
  unfold ad
  rw [h i hi, h (i - 1) (by omega)]
theorem cg_sml {f g : Nat → Int32} {n : Nat} (h : same f g n) : ∀ i, i ≤ n → sml f i = sml g i ∧ nea f i = nea g i
  | 0, _ => ⟨rfl, rfl⟩
  | i + 1, hi => by
    have ih := cg_sml h i (by omega)
    have ha := cg_ad h (show i < n by omega)
    unfold sml nea
    rw [ih.1, ih.2, ha]
    exact ⟨rfl, rfl⟩
theorem cg_feat {f g : Nat → Int32} {n : Nat} (h : same f g n) : feat f n = feat g n := by
  unfold feat
  rw [cg_unl h, (cg_sml h n (Nat.le_refl _)).1, (cg_sml h n (Nat.le_refl _)).2]
theorem neg_k : ∀ k, k < 256 → 0 < k → ¬ (0 : Int32) ≤ 0 - nI k := by decide +kernel
theorem abs_ok {a b : Nat} (ha : a < 256) (hb : b < 256) : (if 0 ≤ nI a - nI b then nI a - nI b else 0 - (nI a - nI b)) = nI ((a - b) + (b - a)) := by
  rcases Nat.lt_or_ge a b with h | h
  · have e1 : nI a - nI b = 0 - nI (b - a) := by
      rw [← pk_sub (Nat.le_of_lt h), Int32.zero_sub, Int32.neg_sub]
    rw [e1, if_neg (neg_k (b - a) (by omega) (by omega)), Int32.zero_sub, Int32.zero_sub, Int32.neg_neg, show a - b + (b - a) = b - a by omega]
  · rw [pk_sub h, if_pos (nI_pos' (by omega)), show a - b + (b - a) = a - b by omega]
section
variable {Γ : Nat × (Nat → Int32)} {F A : Nat → Nat → Int32} {rf : Nat} {lo : Int64} {X : PH} {Q : Option Value → PH → Prop} {n : Nat} {T : Nat → Int32}
theorem if_loop {f : Nat → Int32} (hn : n ≤ 300) (h54 : ∀ b, b < 256 → A 54 b = nI (cnt f n b)) (hQ : Q (some (.int (bI (flz f n 256)))) (HS F A rf lo X)) : ∀ (k b : Nat), b + k = 256 → flz f n b = true → PW Γ mX7_isFlat 24 [.ref 53, .ref 1, .int (nI n), .int (nI b)] [] (HS F A rf lo X) 0 0 Q := by
  intro k
  induction k with
  | zero =>
    intro b hb hI
    have hb2 : b = 256 := by omega
    subst hb2
    refine pw_iload_n rfl dX7_isFlat_24 ?_
    refine pw_sipush 256 (by decide) dX7_isFlat_25 ?_
    refine pw_icmp_ge 54 dX7_isFlat_28 (by decide) (fun _ => ?_) (fun q => absurd (by decide) q)
    refine pw_iconst 1 (by decide) dX7_isFlat_54 ?_
    refine pw_iret dX7_isFlat_55 (Or.inr ⟨rfl, rfl⟩) ?_
    rw [hI] at hQ
    exact hQ
  | succ k ih =>
    intro b hb hI
    have hcl := cnt_le f n b
    refine pw_iload_n rfl dX7_isFlat_24 ?_
    refine pw_sipush 256 (by decide) dX7_isFlat_25 ?_
    refine pw_icmp_ge 54 dX7_isFlat_28 (by decide) (fun q => absurd q (nI_ge (b := 256) (by omega) (by omega))) (fun _ => ?_)
    refine pw_aload_n rfl dX7_isFlat_31 ?_
    refine pw_gC dX7_isFlat_32 fX7_9 (by first | rfl | assumption) rfl (by first | rfl | assumption) ?_
    refine pw_iload_n rfl dX7_isFlat_35 ?_
    refine pw_aI dX7_isFlat_36 (by first | rfl | assumption) (by first | assumption | exact vp_in_nI (by omega) (by omega)) ?_
    rw [nI_clamp (by omega), h54 b (by omega)]
    refine pw_iconst 2 (by decide) dX7_isFlat_37 ?_
    refine pw_iload_n rfl dX7_isFlat_38 ?_
    refine pw_bipush 32 (by decide) dX7_isFlat_39 ?_
    rw [show (32 : Int32) = nI 32 from rfl, show (2 : Int32) = nI 2 from rfl]
    refine pw_idiv (by decide) dX7_isFlat_41 ?_
    rw [pk_div (by omega) (by omega) (by omega)]
    refine pw_iadd dX7_isFlat_42 ?_
    rw [nI_add]
    by_cases hc : cnt f n b ≤ 2 + n / 32
    · refine pw_icmp_le 48 dX7_isFlat_43 (by decide) (fun _ => ?_) (fun q => absurd (nI_le hc (by omega)) q)
      refine ps_iinc (l' := [_, _, _, _]) 1 dX7_isFlat_48 (by decide) rfl (by decide) rfl rfl ?_
      refine pw_goto 24 dX7_isFlat_51 (by decide) ?_
      rw [nI_1]
      refine ih (b + 1) (by omega) ?_
      show (flz f n b && decide (cnt f n b ≤ 2 + n / 32)) = true
      rw [hI, decide_eq_true hc]
      rfl
    · refine pw_icmp_le 48 dX7_isFlat_43 (by decide) (fun q => absurd q (nI_ge (by omega) (by omega))) (fun _ => ?_)
      refine pw_iconst 0 (by decide) dX7_isFlat_46 ?_
      refine pw_iret dX7_isFlat_47 (Or.inr ⟨rfl, rfl⟩) ?_
      have := flz_no hc (256 - (b + 1))
      rw [show b + 1 + (256 - (b + 1)) = 256 by omega] at this
      rw [this] at hQ
      exact hQ
theorem c_isFlat (hT : TX F A n T) (hn : n ≤ 300) (hB : isB T n) (hQ : ∀ A', (∀ i, ¬ i = 54 → A' i = A i) → Q (some (.int (bI (flat T n)))) (HS F A' rf lo X)) : PM Γ mX7_isFlat [.ref 53, .ref 1] (HS F A rf lo X) 0 0 Q := by
  obtain ⟨t1, t2⟩ := hT
  have hfl := cg_flat t2
  have hB2 : isB (A 2) n := same_B (same_sym t2) hB
  refine PM.go (l := [_, _, .float 0, .float 0]) rfl rfl (Nat.le_of_ble_eq_true rfl) rfl ?_
  refine pw_aload_n rfl dX7_isFlat_0 ?_
  refine pc_V0 dX7_isFlat_1 lX7_15 rfl (by first | rfl | assumption) (by decide) (Nat.le_of_ble_eq_true rfl) ?_
  refine c_count row1 ?_
  rw [t1]
  refine ps_istore_n (l' := [_, _, _, _]) dX7_isFlat_4 (by decide) rfl rfl ?_
  refine pw_iload_n rfl dX7_isFlat_5 ?_
  refine pw_bipush 64 (by decide) dX7_isFlat_6 ?_
  by_cases h64 : 64 ≤ n
  · refine pw_icmp_ge 13 dX7_isFlat_8 (by decide) (fun _ => ?_) (fun q => absurd (nI_le (a := 64) h64 (by omega)) q)
    refine pw_aload_n rfl dX7_isFlat_13 ?_
    refine pw_aload_n rfl dX7_isFlat_14 ?_
    refine pw_gC dX7_isFlat_15 fX7_9 (by first | rfl | assumption) rfl (by first | rfl | assumption) ?_
    refine pc_V1 dX7_isFlat_18 lX7_21 rfl rfl (by decide) (Nat.le_of_ble_eq_true rfl) ?_
    refine c_countInto row1 rfl (by omega) t1 hn hB2 ?_
    refine pw_pop rfl dX7_isFlat_21 ?_
    refine pw_iconst 0 (by decide) dX7_isFlat_22 ?_
    refine ps_istore_n (l' := [_, _, _, _]) dX7_isFlat_23 (by decide) rfl rfl ?_
    refine if_loop (f := A 2) hn (fun b hb => by rw [stA_s, cpn_lt hb]; rfl) ?_ 256 0 (by omega) rfl
    have := hQ (stA A 54 (cpn (tbl (A 2) n) (A 54) 256)) (fun i hi => stA_n hi)
    rw [← hfl] at this
    unfold flat at this
    rw [decide_eq_true h64, Bool.true_and] at this
    exact this
  · refine pw_icmp_ge 13 dX7_isFlat_8 (by decide) (fun q => absurd q (nI_ge (b := 64) (by omega) (by omega))) (fun _ => ?_)
    refine pw_iconst 0 (by decide) dX7_isFlat_11 ?_
    refine pw_iret dX7_isFlat_12 (Or.inr ⟨rfl, rfl⟩) ?_
    have := hQ A (fun i _ => rfl)
    unfold flat at this
    rw [decide_eq_false h64, Bool.false_and] at this
    exact this
theorem c_quarters {h : PH} {p : Nat} (hp : p ≤ 300) (hn : n ≤ 300) (hQ : Q (some (.int (nI (qt p n)))) h) : PM Γ mX7_quarters [.int (nI p), .int (nI n)] h 0 0 Q := by
  unfold qt at hQ
  refine PM.go (l := [_, _]) rfl rfl (Nat.le_of_ble_eq_true rfl) rfl ?_
  refine pw_iload_n rfl dX7_quarters_0 ?_
  by_cases h0 : n = 0
  · rw [if_pos h0] at hQ
    rw [h0]
    refine pw_if_gt 8 dX7_quarters_1 (by decide) (fun q => absurd q (by decide)) (fun _ => ?_)
    refine pw_iconst 0 (by decide) dX7_quarters_4 ?_
    refine pw_goto 17 dX7_quarters_5 (by decide) ?_
    refine pw_iret dX7_quarters_17 (Or.inl rfl) ?_
    exact hQ
  · rw [if_neg h0] at hQ
    have hd : 4 * p / n ≤ 4 * p := Nat.div_le_self _ _
    refine pw_if_gt 8 dX7_quarters_1 (by decide) (fun _ => ?_) (fun q => absurd (nI_lt (a := 0) (by omega) (by omega)) q)
    refine pw_iconst 3 (by decide) dX7_quarters_8 ?_
    refine pw_iconst 4 (by decide) dX7_quarters_9 ?_
    refine pw_iload_n rfl dX7_quarters_10 ?_
    rw [show (4 : Int32) = nI 4 from rfl]
    refine pw_imul dX7_quarters_11 ?_
    rw [pk_mul]
    refine pw_iload_n rfl dX7_quarters_12 ?_
    refine pw_idiv (nI_ne0 (by omega) (by omega)) dX7_quarters_13 ?_
    rw [pk_div (by omega) (by omega) (by omega)]
    have hd2 : 4 * p / n < 2 ^ 31 := Nat.lt_of_le_of_lt hd (by omega)
    generalize 4 * p / n = y at *
    refine pw_minN 3 y rfl rfl (by omega) hd2 dX7_quarters_14 lX7_42 (by decide) (Nat.le_of_ble_eq_true rfl) ?_
    refine pw_iret dX7_quarters_17 (Or.inl rfl) ?_
    exact hQ
theorem c_variety (hT : TX F A n T) (hn : n ≤ 300) (hB : isB T n) (hQ : ∀ A', (∀ i, ¬ i = 54 → A' i = A i) → Q (some (.int (nI (vr (unl T n))))) (HS F A' rf lo X)) : PM Γ mX7_variety [.ref 53, .ref 1] (HS F A rf lo X) 0 0 Q := by
  obtain ⟨t1, t2⟩ := hT
  have hB2 : isB (A 2) n := same_B (same_sym t2) hB
  have hu : unl (A 2) n = unl T n := cg_unl t2
  have hul := unl_le T n
  refine PM.go (l := [_, _, .float 0]) rfl rfl (Nat.le_of_ble_eq_true rfl) rfl ?_
  refine pw_aload_n rfl dX7_variety_0 ?_
  refine pw_aload_n rfl dX7_variety_1 ?_
  refine pw_gC dX7_variety_2 fX7_9 (by first | rfl | assumption) rfl (by first | rfl | assumption) ?_
  refine pc_V1 dX7_variety_5 lX7_21 rfl rfl (by decide) (Nat.le_of_ble_eq_true rfl) ?_
  refine c_countInto row1 rfl (by omega) t1 hn hB2 ?_
  rw [hu]
  have hq := hQ (stA A 54 (cpn (tbl (A 2) n) (A 54) 256)) (fun i hi => stA_n hi)
  unfold vr at hq
  refine ps_istore_n (l' := [_, _, _]) dX7_variety_8 (by decide) rfl rfl ?_
  refine pw_iload_n rfl dX7_variety_9 ?_
  refine pw_iconst 2 (by decide) dX7_variety_10 ?_
  by_cases h2 : unl T n ≤ 2
  · rw [if_pos h2] at hq
    refine pw_icmp_gt 16 dX7_variety_11 (by decide) (fun q => absurd q (nI_nlt (a := 2) h2 (by omega))) (fun _ => ?_)
    refine pw_iconst 0 (by decide) dX7_variety_14 ?_
    refine pw_iret dX7_variety_15 (Or.inl rfl) ?_
    exact hq
  · rw [if_neg h2] at hq
    refine pw_icmp_gt 16 dX7_variety_11 (by decide) (fun _ => ?_) (fun q => absurd (nI_lt (a := 2) (by omega) (by omega)) q)
    refine pw_iload_n rfl dX7_variety_16 ?_
    refine pw_bipush 16 (by decide) dX7_variety_17 ?_
    by_cases h16 : unl T n ≤ 16
    · rw [if_pos h16] at hq
      refine pw_icmp_gt 24 dX7_variety_19 (by decide) (fun q => absurd q (nI_nlt (a := 16) h16 (by omega))) (fun _ => ?_)
      refine pw_iconst 1 (by decide) dX7_variety_22 ?_
      refine pw_iret dX7_variety_23 (Or.inl rfl) ?_
      exact hq
    · rw [if_neg h16] at hq
      refine pw_icmp_gt 24 dX7_variety_19 (by decide) (fun _ => ?_) (fun q => absurd (nI_lt (a := 16) (by omega) (by omega)) q)
      refine pw_iload_n rfl dX7_variety_24 ?_
      refine pw_bipush 64 (by decide) dX7_variety_25 ?_
      by_cases h64 : unl T n ≤ 64
      · rw [if_pos h64] at hq
        refine pw_icmp_gt 34 dX7_variety_27 (by decide) (fun q => absurd q (nI_nlt (a := 64) h64 (by omega))) (fun _ => ?_)
        refine pw_iconst 2 (by decide) dX7_variety_30 ?_
        refine pw_goto 35 dX7_variety_31 (by decide) ?_
        refine pw_iret dX7_variety_35 (Or.inl rfl) ?_
        exact hq
      · rw [if_neg h64] at hq
        refine pw_icmp_gt 34 dX7_variety_27 (by decide) (fun _ => ?_) (fun q => absurd (nI_lt (a := 64) (by omega) (by omega)) q)
        refine pw_iconst 3 (by decide) dX7_variety_34 ?_
        refine pw_iret dX7_variety_35 (Or.inl rfl) ?_
        exact hq
theorem cf_loop (hT : TX F A n T) (hn : n ≤ 300) (hB : isB T n) (hq : ∀ i g, PW Γ mX7_featureOf 62 [.ref 53, .ref 1, .int (nI (sml T n)), .int (nI (nea T n)), .int i, g] [] (HS F A rf lo X) 0 0 Q) : ∀ (k i : Nat) (g : Value), g.category = 1 → n - i = k → 1 ≤ i → i ≤ n ∨ n = 0 ∧ i = 1 → PW Γ mX7_featureOf 7 [.ref 53, .ref 1, .int (nI (sml T i)), .int (nI (nea T i)), .int (nI i), g] [] (HS F A rf lo X) 0 0 Q := by
  obtain ⟨t1, t2⟩ := hT
  intro k
  induction k with
  | zero =>
    intro i g hg hk hi hin
    refine pw_iload rfl dX7_featureOf_7 ?_
    refine pw_aload_n rfl dX7_featureOf_9 ?_
    refine pc_V0 dX7_featureOf_10 lX7_15 rfl (by first | rfl | assumption) (by decide) (Nat.le_of_ble_eq_true rfl) ?_
    refine c_count row1 ?_
    rw [t1]
    refine pw_icmp_ge 62 dX7_featureOf_13 (by decide) (fun _ => ?_) (fun q => absurd (nI_le (by omega) (by omega)) q)
    have e : sml T i = sml T n ∧ nea T i = nea T n := by
      rcases hin with h | ⟨h1, h2⟩
      · rw [show i = n by omega]; exact ⟨rfl, rfl⟩
      · subst h1; subst h2
        exact ⟨rfl, rfl⟩
    rw [e.1, e.2]
    exact hq _ g
  | succ k ih =>
    intro i g hg hk hi hin
    obtain ⟨a, ha, ea⟩ := hB i (by omega)
    obtain ⟨b, hb, eb⟩ := hB (i - 1) (by omega)
    have hsl := sml_le T i
    have had : ad T i = (a - b) + (b - a) := by
      unfold ad
      rw [ea, eb, bN_nI ha, bN_nI hb]
    refine pw_iload rfl dX7_featureOf_7 ?_
    refine pw_aload_n rfl dX7_featureOf_9 ?_
    refine pc_V0 dX7_featureOf_10 lX7_15 rfl (by first | rfl | assumption) (by decide) (Nat.le_of_ble_eq_true rfl) ?_
    refine c_count row1 ?_
    rw [t1]
    refine pw_icmp_ge 62 dX7_featureOf_13 (by decide) (fun q => absurd q (nI_ge (by omega) (by omega))) (fun _ => ?_)
    refine pw_aload_n rfl dX7_featureOf_16 ?_
    refine pw_iload rfl dX7_featureOf_17 ?_
    refine pc_V1 dX7_featureOf_19 lX7_25 rfl (by first | rfl | assumption) (by decide) (Nat.le_of_ble_eq_true rfl) ?_
    refine c_get row1 t1 hn rfl (show i < n by omega) ?_
    refine pw_aload_n rfl dX7_featureOf_22 ?_
    refine pw_iload rfl dX7_featureOf_23 ?_
    refine pw_iconst 1 (by decide) dX7_featureOf_25 ?_
    refine pw_isub dX7_featureOf_26 ?_
    rw [show nI i - 1 = nI (i - 1) from pk_sub (b := 1) (by omega), t2 i (by omega), ea]
    refine pc_V1 dX7_featureOf_27 lX7_25 rfl (by first | rfl | assumption) (by decide) (Nat.le_of_ble_eq_true rfl) ?_
    refine c_get row1 t1 hn rfl (show i - 1 < n by omega) ?_
    rw [t2 (i - 1) (by omega), eb]
    refine pw_isub dX7_featureOf_30 ?_
    refine pw_mabs dX7_featureOf_31 lX7_29 (by decide) (Nat.le_of_ble_eq_true rfl) ?_
    rw [abs_ok ha hb, ← had]
    have hadl : ad T i < 256 := by rw [had]; omega
    refine ps_istore (l' := [_, _, _, _, _, _]) dX7_featureOf_34 (by decide) rfl rfl ?_
    refine pw_iload rfl dX7_featureOf_36 ?_
    have e1 : sml T (i + 1) = sml T i + (if 1 ≤ i ∧ ad T i = 0 then 1 else 0) := rfl
    have e2 : nea T (i + 1) = nea T i + (if 1 ≤ i ∧ (ad T i = 1 ∨ ad T i = 2) then 1 else 0) := rfl
    have go := ih (i + 1)
    by_cases h0 : ad T i = 0
    · rw [h0]
      rw [if_pos ⟨hi, h0⟩] at e1
      rw [if_neg (by omega), Nat.add_zero] at e2
      rw [e1, e2] at go
      refine pw_if_ne 47 dX7_featureOf_38 (by decide) (fun q => absurd (rfl) q) (fun _ => ?_)
      refine ps_iinc (l' := [_, _, _, _, _, _]) 1 dX7_featureOf_41 (by decide) rfl (by decide) rfl rfl ?_
      refine pw_goto 56 dX7_featureOf_44 (by decide) ?_
      refine ps_iinc (l' := [_, _, _, _, _, _]) 1 dX7_featureOf_56 (by decide) rfl (by decide) rfl rfl ?_
      refine pw_goto 7 dX7_featureOf_59 (by decide) ?_
      rw [nI_1, nI_1]
      exact go _ rfl (by omega) (by omega) (by omega)
    · rw [if_neg (by omega), Nat.add_zero] at e1
      refine pw_if_ne 47 dX7_featureOf_38 (by decide) (fun _ => ?_) (fun q => absurd q (nI_ne0 (by omega) (by omega)))
      refine pw_iload rfl dX7_featureOf_47 ?_
      refine pw_iconst 2 (by decide) dX7_featureOf_49 ?_
      by_cases h2 : ad T i ≤ 2
      · rw [if_pos ⟨hi, by omega⟩] at e2
        rw [e1, e2] at go
        refine pw_icmp_gt 56 dX7_featureOf_50 (by decide) (fun q => absurd q (nI_nlt (a := 2) h2 (by omega))) (fun _ => ?_)
        refine ps_iinc (l' := [_, _, _, _, _, _]) 1 dX7_featureOf_53 (by decide) rfl (by decide) rfl rfl ?_
        refine ps_iinc (l' := [_, _, _, _, _, _]) 1 dX7_featureOf_56 (by decide) rfl (by decide) rfl rfl ?_
        refine pw_goto 7 dX7_featureOf_59 (by decide) ?_
        rw [nI_1, nI_1]
        exact go _ rfl (by omega) (by omega) (by omega)
      · rw [if_neg (by omega), Nat.add_zero] at e2
        rw [e1, e2] at go
        refine pw_icmp_gt 56 dX7_featureOf_50 (by decide) (fun _ => ?_) (fun q => absurd (nI_lt (a := 2) (by omega) (by omega)) q)
        refine ps_iinc (l' := [_, _, _, _, _, _]) 1 dX7_featureOf_56 (by decide) rfl (by decide) rfl rfl ?_
        refine pw_goto 7 dX7_featureOf_59 (by decide) ?_
        rw [nI_1]
        exact go _ rfl (by omega) (by omega) (by omega)
theorem c_featureOf (hT : TX F A n T) (hn : n ≤ 300) (hB : isB T n) (hQ : ∀ A', (∀ i, ¬ i = 54 → A' i = A i) → Q (some (.int (nI (feat T n)))) (HS F A' rf lo X)) : PM Γ mX7_featureOf [.ref 53, .ref 1] (HS F A rf lo X) 0 0 Q := by
  have hsl := sml_le T n
  refine PM.go (l := [_, _, .float 0, .float 0, .float 0, .float 0]) rfl rfl (Nat.le_of_ble_eq_true rfl) rfl ?_
  refine pw_iconst 0 (by decide) dX7_featureOf_0 ?_
  refine ps_istore_n (l' := [_, _, _, _, _, _]) dX7_featureOf_1 (by decide) rfl rfl ?_
  refine pw_iconst 0 (by decide) dX7_featureOf_2 ?_
  refine ps_istore_n (l' := [_, _, _, _, _, _]) dX7_featureOf_3 (by decide) rfl rfl ?_
  refine pw_iconst 1 (by decide) dX7_featureOf_4 ?_
  refine ps_istore (l' := [_, _, _, _, _, _]) dX7_featureOf_5 (by decide) rfl rfl ?_
  refine cf_loop hT hn hB ?_ (n - 1) 1 _ rfl rfl (Nat.le_refl _) (by omega)
  intro i g
  refine pw_bipush 16 (by decide) dX7_featureOf_62 ?_
  refine pw_aload_n rfl dX7_featureOf_64 ?_
  refine pw_aload_n rfl dX7_featureOf_65 ?_
  refine pc_V1 dX7_featureOf_66 lX7_34 rfl rfl (by decide) (Nat.le_of_ble_eq_true rfl) ?_
  refine c_variety hT hn hB ?_
  intro A' hA'
  have hT' : TX F A' n T := TX_fr hT rfl (hA' 2 (by omega))
  rw [show (16 : Int32) = nI 16 from rfl]
  refine pw_imul dX7_featureOf_69 ?_
  rw [pk_mul]
  refine pw_iconst 4 (by decide) dX7_featureOf_70 ?_
  refine pw_iload_n rfl dX7_featureOf_71 ?_
  refine pw_aload_n rfl dX7_featureOf_72 ?_
  refine pc_V0 dX7_featureOf_73 lX7_15 rfl (by first | rfl | assumption) (by decide) (Nat.le_of_ble_eq_true rfl) ?_
  refine c_count row1 ?_
  rw [hT'.1]
  refine pc_S2 dX7_featureOf_76 lX7_38 (by decide) (Nat.le_of_ble_eq_true rfl) ?_
  refine c_quarters (Nat.le_trans hsl.1 hn) hn ?_
  rw [show (4 : Int32) = nI 4 from rfl]
  refine pw_imul dX7_featureOf_79 ?_
  rw [pk_mul]
  refine pw_iadd dX7_featureOf_80 ?_
  rw [nI_add]
  refine pw_iload_n rfl dX7_featureOf_81 ?_
  refine pw_aload_n rfl dX7_featureOf_82 ?_
  refine pc_V0 dX7_featureOf_83 lX7_15 rfl (by first | rfl | assumption) (by decide) (Nat.le_of_ble_eq_true rfl) ?_
  refine c_count row1 ?_
  rw [hT'.1]
  refine pc_S2 dX7_featureOf_86 lX7_38 (by decide) (Nat.le_of_ble_eq_true rfl) ?_
  refine c_quarters (Nat.le_trans hsl.2 hn) hn ?_
  refine pw_iadd dX7_featureOf_89 ?_
  rw [nI_add]
  refine pw_iret dX7_featureOf_90 (Or.inl rfl) ?_
  exact hQ A' hA'
/-- the reference's copy of its text -/
theorem mf_copy (hn : n ≤ 300) (hs : F 57 1 = nI n) : ∀ (j i : Nat) (A' : Nat → Nat → Int32), i + j = n → (∀ y, ¬ y = 63 → A' y = A y) → (∀ y, y < i → A' 63 y = A 58 y) →
    (∀ A', (∀ y, ¬ y = 63 → A' y = A y) → (∀ y, y < n → A' 63 y = A 58 y) → PW Γ mX11_isFlat 28 [.ref 57, .int (nI n), .float 0, .float 0] [] (HS F A' rf lo X) 0 0 Q) →
    PW Γ mX11_isFlat 2 [.ref 57, .int (nI i), .float 0, .float 0] [] (HS F A' rf lo X) 0 0 Q := by
  intro j
  induction j with
  | zero =>
    intro i A' hi hA hI hk
    have hi2 : i = n := by omega
    subst hi2
    refine pw_iload_n rfl dX11_isFlat_2 ?_
    refine pw_aload_n rfl dX11_isFlat_3 ?_
    refine pw_gI dX11_isFlat_4 fX11_72 (by first | rfl | assumption) rfl ?_
    rw [hs]
    refine pw_icmp_ge 28 dX11_isFlat_7 (by decide) (fun _ => ?_) (fun q => absurd (nI_le (Nat.le_refl _) (by omega)) q)
    exact hk A' hA hI
  | succ j ih =>
    intro i A' hi hA hI hk
    refine pw_iload_n rfl dX11_isFlat_2 ?_
    refine pw_aload_n rfl dX11_isFlat_3 ?_
    refine pw_gI dX11_isFlat_4 fX11_72 (by first | rfl | assumption) rfl ?_
    rw [hs]
    refine pw_icmp_ge 28 dX11_isFlat_7 (by decide) (fun q => absurd q (nI_ge (by omega) (by omega))) (fun _ => ?_)
    refine pw_aload_n rfl dX11_isFlat_10 ?_
    refine pw_gC dX11_isFlat_11 fX11_25 (by first | rfl | assumption) rfl (by first | rfl | assumption) ?_
    refine pw_iload_n rfl dX11_isFlat_14 ?_
    refine pw_aload_n rfl dX11_isFlat_15 ?_
    refine pw_gC dX11_isFlat_16 fX11_7 (by first | rfl | assumption) rfl (by first | rfl | assumption) ?_
    refine pw_iload_n rfl dX11_isFlat_19 ?_
    refine pw_aI dX11_isFlat_20 (by first | rfl | assumption) (by first | assumption | exact vp_in_nI (by omega) (by omega)) ?_
    refine pw_sI dX11_isFlat_21 (by first | rfl | assumption) (by first | assumption | exact vp_in_nI (by omega) (by omega)) ?_
    refine ps_iinc (l' := [_, _, _, _]) 1 dX11_isFlat_22 (by decide) rfl (by decide) rfl rfl ?_
    refine pw_goto 2 dX11_isFlat_25 (by decide) ?_
    rw [nI_1, nI_clamp (by omega)]
    refine ih (i + 1) _ (by omega) (fun y hy => by rw [stA_n hy]; exact hA y hy) (fun y hy => ?_) hk
    rw [stA_s]
    by_cases h : y = i
    · rw [h, upd_s, hA 58 (by decide)]
    · rw [upd_n h]; exact hI y (by omega)
theorem mi_loop {f : Nat → Int32} {x1 : Int32} (hn : n ≤ 300) (hs : F 57 1 = nI n) (h66 : ∀ b, b < 256 → A 66 b = nI (cnt f n b)) (hQ : Q (some (.int (bI (flat f n)))) (HS F A rf lo X)) : ∀ (k b : Nat), b + k = 256 → PW Γ mX11_isFlat 54 [.ref 57, .int x1, .int (bI (decide (64 ≤ n) && flz f n b)), .int (nI b)] [] (HS F A rf lo X) 0 0 Q := by
  intro k
  induction k with
  | zero =>
    intro b hb
    have hb2 : b = 256 := by omega
    subst hb2
    refine pw_iload_n rfl dX11_isFlat_54 ?_
    refine pw_sipush 256 (by decide) dX11_isFlat_55 ?_
    refine pw_icmp_ge 95 dX11_isFlat_58 (by decide) (fun _ => ?_) (fun q => absurd (by decide) q)
    refine pw_iload_n rfl dX11_isFlat_95 ?_
    refine pw_iret dX11_isFlat_96 (Or.inr ⟨rfl, ?_⟩) hQ
    unfold bI
    split <;> rfl
  | succ k ih =>
    intro b hb
    have hcl := cnt_le f n b
    have e1 : flz f n (b + 1) = (flz f n b && decide (cnt f n b ≤ 2 + n / 32)) := rfl
    have go := ih (b + 1) (by omega)
    rw [e1, ← Bool.and_assoc] at go
    refine pw_iload_n rfl dX11_isFlat_54 ?_
    refine pw_sipush 256 (by decide) dX11_isFlat_55 ?_
    refine pw_icmp_ge 95 dX11_isFlat_58 (by decide) (fun q => absurd q (nI_ge (b := 256) (by omega) (by omega))) (fun _ => ?_)
    refine pw_iload_n rfl dX11_isFlat_61 ?_
    cases hc0 : (decide (64 ≤ n) && flz f n b) with
    | false =>
      rw [hc0, Bool.false_and] at go
      refine pw_if_eq 87 dX11_isFlat_62 (by decide) (fun _ => ?_) (fun q => absurd (rfl) q)
      refine pw_iconst 0 (by decide) dX11_isFlat_87 ?_
      refine ps_istore_n (l' := [_, _, _, _]) dX11_isFlat_88 (by decide) rfl rfl ?_
      refine ps_iinc (l' := [_, _, _, _]) 1 dX11_isFlat_89 (by decide) rfl (by decide) rfl rfl ?_
      refine pw_goto 54 dX11_isFlat_92 (by decide) ?_
      rw [nI_1]
      exact go
    | true =>
      rw [hc0, Bool.true_and] at go
      refine pw_if_eq 87 dX11_isFlat_62 (by decide) (fun q => absurd q (by decide)) (fun _ => ?_)
      refine pw_aload_n rfl dX11_isFlat_65 ?_
      refine pw_gC dX11_isFlat_66 fX11_34 (by first | rfl | assumption) rfl (by first | rfl | assumption) ?_
      refine pw_iload_n rfl dX11_isFlat_69 ?_
      refine pw_aI dX11_isFlat_70 (by first | rfl | assumption) (by first | assumption | exact vp_in_nI (by omega) (by omega)) ?_
      rw [nI_clamp (by omega), h66 b (by omega)]
      refine pw_iconst 2 (by decide) dX11_isFlat_71 ?_
      refine pw_aload_n rfl dX11_isFlat_72 ?_
      refine pw_gI dX11_isFlat_73 fX11_72 (by first | rfl | assumption) rfl ?_
      rw [hs]
      refine pw_bipush 32 (by decide) dX11_isFlat_76 ?_
      rw [show (32 : Int32) = nI 32 from rfl, show (2 : Int32) = nI 2 from rfl]
      refine pw_idiv (by decide) dX11_isFlat_78 ?_
      rw [pk_div (by omega) (by omega) (by omega)]
      refine pw_iadd dX11_isFlat_79 ?_
      rw [nI_add]
      by_cases hc : cnt f n b ≤ 2 + n / 32
      · rw [decide_eq_true hc] at go
        refine pw_icmp_gt 87 dX11_isFlat_80 (by decide) (fun q => absurd q (nI_nlt hc (by omega))) (fun _ => ?_)
        refine pw_iconst 1 (by decide) dX11_isFlat_83 ?_
        refine pw_goto 88 dX11_isFlat_84 (by decide) ?_
        refine ps_istore_n (l' := [_, _, _, _]) dX11_isFlat_88 (by decide) rfl rfl ?_
        refine ps_iinc (l' := [_, _, _, _]) 1 dX11_isFlat_89 (by decide) rfl (by decide) rfl rfl ?_
        refine pw_goto 54 dX11_isFlat_92 (by decide) ?_
        rw [nI_1]
        exact go
      · rw [decide_eq_false hc] at go
        refine pw_icmp_gt 87 dX11_isFlat_80 (by decide) (fun _ => ?_) (fun q => absurd (nI_lt (by omega) (by omega)) q)
        refine pw_iconst 0 (by decide) dX11_isFlat_87 ?_
        refine ps_istore_n (l' := [_, _, _, _]) dX11_isFlat_88 (by decide) rfl rfl ?_
        refine ps_iinc (l' := [_, _, _, _]) 1 dX11_isFlat_89 (by decide) rfl (by decide) rfl rfl ?_
        refine pw_goto 54 dX11_isFlat_92 (by decide) ?_
        rw [nI_1]
        exact go
theorem m_isFlat (hT : TM F A n T) (hn : n ≤ 300) (hB : isB T n) (hQ : ∀ A', (∀ i, ¬ i = 63 → ¬ i = 66 → A' i = A i) → Q (some (.int (bI (flat T n)))) (HS F A' rf lo X)) : PM Γ mX11_isFlat [.ref 57] (HS F A rf lo X) 0 0 Q := by
  obtain ⟨t1, t2⟩ := hT
  refine PM.go (l := [_, .float 0, .float 0, .float 0]) rfl rfl (Nat.le_of_ble_eq_true rfl) rfl ?_
  refine pw_iconst 0 (by decide) dX11_isFlat_0 ?_
  refine ps_istore_n (l' := [_, _, _, _]) dX11_isFlat_1 (by decide) rfl rfl ?_
  refine mf_copy hn t1 n 0 A (by omega) (fun _ _ => rfl) (fun y hy => by omega) ?_
  intro A1 hA1 hR1
  have hR : same (A1 63) T n := fun j hj => by rw [hR1 j hj]; exact t2 j hj
  have hfl := cg_flat hR
  refine pw_aload_n rfl dX11_isFlat_28 ?_
  refine pw_aload_n rfl dX11_isFlat_29 ?_
  refine pw_gI dX11_isFlat_30 fX11_72 (by first | rfl | assumption) rfl ?_
  rw [t1]
  refine pc_V1 dX11_isFlat_33 lX11_143 rfl rfl (by decide) (Nat.le_of_ble_eq_true rfl) ?_
  refine m_countBytes hn (same_B (same_sym hR) hB) ?_
  refine ps_istore_n (l' := [_, _, _, _]) dX11_isFlat_36 (by decide) rfl rfl ?_
  refine pw_aload_n rfl dX11_isFlat_37 ?_
  refine pw_gI dX11_isFlat_38 fX11_72 (by first | rfl | assumption) rfl ?_
  rw [t1]
  have hq : Q (some (.int (bI (flat (A1 63) n)))) (HS F (stA A1 66 (cpn (tbl (A1 63) n) (A1 66) 256)) rf lo X) := by
    rw [hfl]
    exact hQ _ (fun i k1 k2 => by rw [stA_n k2]; exact hA1 i k1)
  have go := mi_loop (Γ := Γ) (A := stA A1 66 (cpn (tbl (A1 63) n) (A1 66) 256)) (f := A1 63) (x1 := nI (unl (A1 63) n)) hn t1 (fun b hb => by rw [stA_s, cpn_lt hb]; rfl) hq 256 0 (by omega)
  have e0 : flz (A1 63) n 0 = true := rfl
  rw [e0, Bool.and_true] at go
  by_cases h64 : 64 ≤ n
  · rw [decide_eq_true h64] at go
    refine pw_bipush 64 (by decide) dX11_isFlat_41 ?_
    refine pw_icmp_lt 50 dX11_isFlat_43 (by decide) (fun q => absurd q (nI_nlt (b := 64) h64 (by omega))) (fun _ => ?_)
    refine pw_iconst 1 (by decide) dX11_isFlat_46 ?_
    refine pw_goto 51 dX11_isFlat_47 (by decide) ?_
    refine ps_istore_n (l' := [_, _, _, _]) dX11_isFlat_51 (by decide) rfl rfl ?_
    refine pw_iconst 0 (by decide) dX11_isFlat_52 ?_
    refine ps_istore_n (l' := [_, _, _, _]) dX11_isFlat_53 (by decide) rfl rfl ?_
    exact go
  · rw [decide_eq_false h64] at go
    refine pw_bipush 64 (by decide) dX11_isFlat_41 ?_
    refine pw_icmp_lt 50 dX11_isFlat_43 (by decide) (fun _ => ?_) (fun q => absurd (nI_lt (b := 64) (by omega) (by omega)) q)
    refine pw_iconst 0 (by decide) dX11_isFlat_50 ?_
    refine ps_istore_n (l' := [_, _, _, _]) dX11_isFlat_51 (by decide) rfl rfl ?_
    refine pw_iconst 0 (by decide) dX11_isFlat_52 ?_
    refine ps_istore_n (l' := [_, _, _, _]) dX11_isFlat_53 (by decide) rfl rfl ?_
    exact go
theorem mff_copy (hn : n ≤ 300) (hs : F 57 1 = nI n) : ∀ (j i : Nat) (A' : Nat → Nat → Int32), i + j = n → (∀ y, ¬ y = 63 → A' y = A y) → (∀ y, y < i → A' 63 y = A 58 y) →
    (∀ A', (∀ y, ¬ y = 63 → A' y = A y) → (∀ y, y < n → A' 63 y = A 58 y) → PW Γ mX11_feature 33 [.ref 57, .int (nI n), .float 0, .float 0, .float 0, .float 0, .float 0] [] (HS F A' rf lo X) 0 0 Q) →
    PW Γ mX11_feature 7 [.ref 57, .int (nI i), .float 0, .float 0, .float 0, .float 0, .float 0] [] (HS F A' rf lo X) 0 0 Q := by
  intro j
  induction j with
  | zero =>
    intro i A' hi hA hI hk
    have hi2 : i = n := by omega
    subst hi2
    refine pw_iload_n rfl dX11_feature_7 ?_
    refine pw_aload_n rfl dX11_feature_8 ?_
    refine pw_gI dX11_feature_9 fX11_72 (by first | rfl | assumption) rfl ?_
    rw [hs]
    refine pw_icmp_ge 33 dX11_feature_12 (by decide) (fun _ => ?_) (fun q => absurd (nI_le (Nat.le_refl _) (by omega)) q)
    exact hk A' hA hI
  | succ j ih =>
    intro i A' hi hA hI hk
    refine pw_iload_n rfl dX11_feature_7 ?_
    refine pw_aload_n rfl dX11_feature_8 ?_
    refine pw_gI dX11_feature_9 fX11_72 (by first | rfl | assumption) rfl ?_
    rw [hs]
    refine pw_icmp_ge 33 dX11_feature_12 (by decide) (fun q => absurd q (nI_ge (by omega) (by omega))) (fun _ => ?_)
    refine pw_aload_n rfl dX11_feature_15 ?_
    refine pw_gC dX11_feature_16 fX11_25 (by first | rfl | assumption) rfl (by first | rfl | assumption) ?_
    refine pw_iload_n rfl dX11_feature_19 ?_
    refine pw_aload_n rfl dX11_feature_20 ?_
    refine pw_gC dX11_feature_21 fX11_7 (by first | rfl | assumption) rfl (by first | rfl | assumption) ?_
    refine pw_iload_n rfl dX11_feature_24 ?_
    refine pw_aI dX11_feature_25 (by first | rfl | assumption) (by first | assumption | exact vp_in_nI (by omega) (by omega)) ?_
    refine pw_sI dX11_feature_26 (by first | rfl | assumption) (by first | assumption | exact vp_in_nI (by omega) (by omega)) ?_
    refine ps_iinc (l' := [_, _, _, _, _, _, _]) 1 dX11_feature_27 (by decide) rfl (by decide) rfl rfl ?_
    refine pw_goto 7 dX11_feature_30 (by decide) ?_
    rw [nI_1, nI_clamp (by omega)]
    refine ih (i + 1) _ (by omega) (fun y hy => by rw [stA_n hy]; exact hA y hy) (fun y hy => ?_) hk
    rw [stA_s]
    by_cases h : y = i
    · rw [h, upd_s, hA 58 (by decide)]
    · rw [upd_n h]; exact hI y (by omega)
theorem mf_loop {x1 : Int32} (hs : F 57 1 = nI n) (hn : n ≤ 300) (hB : isB T n) (t2 : same (A 63) T n) (hq : ∀ i g, PW Γ mX11_feature 155 [.ref 57, .int x1, .int (nI (sml T n)), .int (nI (nea T n)), .int i, g, .float 0] [] (HS F A rf lo X) 0 0 Q) : ∀ (k i : Nat) (g : Value), g.category = 1 → n - i = k → 1 ≤ i → i ≤ n ∨ n = 0 ∧ i = 1 → PW Γ mX11_feature 49 [.ref 57, .int x1, .int (nI (sml T i)), .int (nI (nea T i)), .int (nI i), g, .float 0] [] (HS F A rf lo X) 0 0 Q := by
  intro k
  induction k with
  | zero =>
    intro i g hg hk hi hin
    refine pw_iload rfl dX11_feature_49 ?_
    refine pw_aload_n rfl dX11_feature_51 ?_
    refine pw_gI dX11_feature_52 fX11_72 (by first | rfl | assumption) rfl ?_
    rw [hs]
    refine pw_icmp_ge 155 dX11_feature_55 (by decide) (fun _ => ?_) (fun q => absurd (nI_le (by omega) (by omega)) q)
    have e : sml T i = sml T n ∧ nea T i = nea T n := by
      rcases hin with h | ⟨h1, h2⟩
      · rw [show i = n by omega]; exact ⟨rfl, rfl⟩
      · subst h1; subst h2
        exact ⟨rfl, rfl⟩
    rw [e.1, e.2]
    exact hq _ g
  | succ k ih =>
    intro i g hg hk hi hin
    obtain ⟨a, ha, ea⟩ := hB i (by omega)
    obtain ⟨b, hb, eb⟩ := hB (i - 1) (by omega)
    have hsl := sml_le T i
    have had : ad T i = (a - b) + (b - a) := by
      unfold ad
      rw [ea, eb, bN_nI ha, bN_nI hb]
    have hadl : ad T i < 256 := by rw [had]; omega
    have hpr : nI i - 1 = nI (i - 1) := pk_sub (b := 1) (by omega)
    have e1 : sml T (i + 1) = sml T i + (if 1 ≤ i ∧ ad T i = 0 then 1 else 0) := rfl
    have e2 : nea T (i + 1) = nea T i + (if 1 ≤ i ∧ (ad T i = 1 ∨ ad T i = 2) then 1 else 0) := rfl
    have go := ih (i + 1)
    rw [e1, e2] at go
    have tail : PW Γ mX11_feature 114 [.ref 57, .int x1, .int (nI (sml T i)), .int (nI (nea T i)), .int (nI i), g, .float 0] [.int (nI (ad T i))] (HS F A rf lo X) 0 0 Q := by
      have near : ∀ s1 : Nat, s1 = sml T i + (if 1 ≤ i ∧ ad T i = 0 then 1 else 0) → PW Γ mX11_feature 129 [.ref 57, .int x1, .int (nI s1), .int (nI (nea T i)), .int (nI i), .int (nI (ad T i)), .float 0] [] (HS F A rf lo X) 0 0 Q := by
        intro s1 hs1
        rw [← hs1] at go
        by_cases h1 : ad T i = 1
        · rw [if_pos ⟨hi, Or.inl h1⟩] at go
          refine pw_iload_n rfl dX11_feature_129 ?_
          refine pw_iload rfl dX11_feature_130 ?_
          refine pw_iconst 1 (by decide) dX11_feature_132 ?_
          refine pw_icmp_eq 142 dX11_feature_133 (by decide) (fun _ => ?_) (fun q => absurd (by rw [h1]; rfl) q)
          refine pw_iconst 1 (by decide) dX11_feature_142 ?_
          refine pw_goto 147 dX11_feature_143 (by decide) ?_
          rw [show (1 : Int32) = nI 1 from rfl]
          refine pw_iadd dX11_feature_147 ?_
          refine ps_istore_n (l' := [_, _, _, _, _, _, _]) dX11_feature_148 (by decide) rfl rfl ?_
          refine ps_iinc (l' := [_, _, _, _, _, _, _]) 1 dX11_feature_149 (by decide) rfl (by decide) rfl rfl ?_
          refine pw_goto 49 dX11_feature_152 (by decide) ?_
          rw [nI_add, nI_1]
          exact go _ rfl (by omega) (by omega) (by omega)
        · by_cases h2 : ad T i = 2
          · rw [if_pos ⟨hi, Or.inr h2⟩] at go
            refine pw_iload_n rfl dX11_feature_129 ?_
            refine pw_iload rfl dX11_feature_130 ?_
            refine pw_iconst 1 (by decide) dX11_feature_132 ?_
            refine pw_icmp_eq 142 dX11_feature_133 (by decide) (fun q => absurd q ((fun h9 => h1 (nI_inj (b := 1) (by omega) (by omega) h9)))) (fun _ => ?_)
            refine pw_iload rfl dX11_feature_136 ?_
            refine pw_iconst 2 (by decide) dX11_feature_138 ?_
            refine pw_icmp_ne 146 dX11_feature_139 (by decide) (fun q => absurd (by rw [h2]; rfl) q) (fun _ => ?_)
            refine pw_iconst 1 (by decide) dX11_feature_142 ?_
            refine pw_goto 147 dX11_feature_143 (by decide) ?_
            rw [show (1 : Int32) = nI 1 from rfl]
            refine pw_iadd dX11_feature_147 ?_
            refine ps_istore_n (l' := [_, _, _, _, _, _, _]) dX11_feature_148 (by decide) rfl rfl ?_
            refine ps_iinc (l' := [_, _, _, _, _, _, _]) 1 dX11_feature_149 (by decide) rfl (by decide) rfl rfl ?_
            refine pw_goto 49 dX11_feature_152 (by decide) ?_
            rw [nI_add, nI_1]
            exact go _ rfl (by omega) (by omega) (by omega)
          · rw [if_neg (by omega)] at go
            refine pw_iload_n rfl dX11_feature_129 ?_
            refine pw_iload rfl dX11_feature_130 ?_
            refine pw_iconst 1 (by decide) dX11_feature_132 ?_
            refine pw_icmp_eq 142 dX11_feature_133 (by decide) (fun q => absurd q ((fun h9 => h1 (nI_inj (b := 1) (by omega) (by omega) h9)))) (fun _ => ?_)
            refine pw_iload rfl dX11_feature_136 ?_
            refine pw_iconst 2 (by decide) dX11_feature_138 ?_
            refine pw_icmp_ne 146 dX11_feature_139 (by decide) (fun _ => ?_) (fun q => absurd q ((fun h9 => h2 (nI_inj (b := 2) (by omega) (by omega) h9))))
            refine pw_iconst 0 (by decide) dX11_feature_146 ?_
            rw [show (0 : Int32) = nI 0 from rfl]
            refine pw_iadd dX11_feature_147 ?_
            refine ps_istore_n (l' := [_, _, _, _, _, _, _]) dX11_feature_148 (by decide) rfl rfl ?_
            refine ps_iinc (l' := [_, _, _, _, _, _, _]) 1 dX11_feature_149 (by decide) rfl (by decide) rfl rfl ?_
            refine pw_goto 49 dX11_feature_152 (by decide) ?_
            rw [nI_add, nI_1]
            exact go _ rfl (by omega) (by omega) (by omega)
      by_cases h0 : ad T i = 0
      · refine ps_istore (l' := [_, _, _, _, _, _, _]) dX11_feature_114 (by decide) rfl rfl ?_
        refine pw_iload_n rfl dX11_feature_116 ?_
        refine pw_iload rfl dX11_feature_117 ?_
        refine pw_if_ne 126 dX11_feature_119 (by decide) (fun q => absurd (by rw [h0]; rfl) q) (fun _ => ?_)
        refine pw_iconst 1 (by decide) dX11_feature_122 ?_
        refine pw_goto 127 dX11_feature_123 (by decide) ?_
        rw [show (1 : Int32) = nI 1 from rfl]
        refine pw_iadd dX11_feature_127 ?_
        refine ps_istore_n (l' := [_, _, _, _, _, _, _]) dX11_feature_128 (by decide) rfl rfl ?_
        rw [nI_add]
        exact near _ (by rw [if_pos ⟨hi, h0⟩])
      · refine ps_istore (l' := [_, _, _, _, _, _, _]) dX11_feature_114 (by decide) rfl rfl ?_
        refine pw_iload_n rfl dX11_feature_116 ?_
        refine pw_iload rfl dX11_feature_117 ?_
        refine pw_if_ne 126 dX11_feature_119 (by decide) (fun _ => ?_) (fun q => absurd q (nI_ne0 (by omega) (by omega)))
        refine pw_iconst 0 (by decide) dX11_feature_126 ?_
        rw [show (0 : Int32) = nI 0 from rfl]
        refine pw_iadd dX11_feature_127 ?_
        refine ps_istore_n (l' := [_, _, _, _, _, _, _]) dX11_feature_128 (by decide) rfl rfl ?_
        rw [nI_add]
        exact near _ (by rw [if_neg (by omega)])
    refine pw_iload rfl dX11_feature_49 ?_
    refine pw_aload_n rfl dX11_feature_51 ?_
    refine pw_gI dX11_feature_52 fX11_72 (by first | rfl | assumption) rfl ?_
    rw [hs]
    refine pw_icmp_ge 155 dX11_feature_55 (by decide) (fun q => absurd q (nI_ge (by omega) (by omega))) (fun _ => ?_)
    refine pw_aload_n rfl dX11_feature_58 ?_
    refine pw_gC dX11_feature_59 fX11_25 (by first | rfl | assumption) rfl (by first | rfl | assumption) ?_
    refine pw_iload rfl dX11_feature_62 ?_
    refine pw_aI dX11_feature_64 (by first | rfl | assumption) (by first | assumption | exact vp_in_nI (by omega) (by omega)) ?_
    rw [nI_clamp (by omega), t2 i (by omega), ea]
    refine pw_aload_n rfl dX11_feature_65 ?_
    refine pw_gC dX11_feature_66 fX11_25 (by first | rfl | assumption) rfl (by first | rfl | assumption) ?_
    refine pw_iload rfl dX11_feature_69 ?_
    refine pw_iconst 1 (by decide) dX11_feature_71 ?_
    refine pw_isub dX11_feature_72 ?_
    rw [hpr]
    refine pw_aI dX11_feature_73 (by first | rfl | assumption) (by first | assumption | exact vp_in_nI (by omega) (by omega)) ?_
    rw [nI_clamp (by omega), t2 (i - 1) (by omega), eb]
    by_cases hlt : a < b
    · rw [show ad T i = b - a by omega] at tail
      refine pw_icmp_ge 97 dX11_feature_74 (by decide) (fun q => absurd q (nI_ge hlt (by omega))) (fun _ => ?_)
      refine pw_aload_n rfl dX11_feature_77 ?_
      refine pw_gC dX11_feature_78 fX11_25 (by first | rfl | assumption) rfl (by first | rfl | assumption) ?_
      refine pw_iload rfl dX11_feature_81 ?_
      refine pw_iconst 1 (by decide) dX11_feature_83 ?_
      refine pw_isub dX11_feature_84 ?_
      rw [hpr]
      refine pw_aI dX11_feature_85 (by first | rfl | assumption) (by first | assumption | exact vp_in_nI (by omega) (by omega)) ?_
      rw [nI_clamp (by omega), t2 (i - 1) (by omega), eb]
      refine pw_aload_n rfl dX11_feature_86 ?_
      refine pw_gC dX11_feature_87 fX11_25 (by first | rfl | assumption) rfl (by first | rfl | assumption) ?_
      refine pw_iload rfl dX11_feature_90 ?_
      refine pw_aI dX11_feature_92 (by first | rfl | assumption) (by first | assumption | exact vp_in_nI (by omega) (by omega)) ?_
      rw [nI_clamp (by omega), t2 i (by omega), ea]
      refine pw_isub dX11_feature_93 ?_
      refine pw_goto 114 dX11_feature_94 (by decide) ?_
      rw [pk_sub (by omega)]
      exact tail
    · rw [show ad T i = a - b by omega] at tail
      refine pw_icmp_ge 97 dX11_feature_74 (by decide) (fun _ => ?_) (fun q => absurd (nI_le (by omega) (by omega)) q)
      refine pw_aload_n rfl dX11_feature_97 ?_
      refine pw_gC dX11_feature_98 fX11_25 (by first | rfl | assumption) rfl (by first | rfl | assumption) ?_
      refine pw_iload rfl dX11_feature_101 ?_
      refine pw_aI dX11_feature_103 (by first | rfl | assumption) (by first | assumption | exact vp_in_nI (by omega) (by omega)) ?_
      rw [nI_clamp (by omega), t2 i (by omega), ea]
      refine pw_aload_n rfl dX11_feature_104 ?_
      refine pw_gC dX11_feature_105 fX11_25 (by first | rfl | assumption) rfl (by first | rfl | assumption) ?_
      refine pw_iload rfl dX11_feature_108 ?_
      refine pw_iconst 1 (by decide) dX11_feature_110 ?_
      refine pw_isub dX11_feature_111 ?_
      rw [hpr]
      refine pw_aI dX11_feature_112 (by first | rfl | assumption) (by first | assumption | exact vp_in_nI (by omega) (by omega)) ?_
      rw [nI_clamp (by omega), t2 (i - 1) (by omega), eb]
      refine pw_isub dX11_feature_113 ?_
      rw [pk_sub (by omega)]
      exact tail
theorem m_feature (hT : TM F A n T) (hn : n ≤ 300) (hB : isB T n) (hQ : ∀ A', (∀ i, ¬ i = 63 → ¬ i = 66 → A' i = A i) → Q (some (.int (nI (feat T n)))) (HS (upF F 57 0 0) A' rf lo X)) : PM Γ mX11_feature [.ref 57] (HS F A rf lo X) 0 0 Q := by
  obtain ⟨t1, t2⟩ := hT
  have hsl := sml_le T n
  have hul := unl_le T n
  have hs : upF F 57 0 0 57 1 = nI n := by rw [upF_n (by omega)]; exact t1
  refine PM.go (l := [_, .float 0, .float 0, .float 0, .float 0, .float 0, .float 0]) rfl rfl (Nat.le_of_ble_eq_true rfl) rfl ?_
  refine pw_aload_n rfl dX11_feature_0 ?_
  refine pw_iconst 0 (by decide) dX11_feature_1 ?_
  refine pw_pI dX11_feature_2 fX11_65 (by first | rfl | assumption) rfl ⟨rfl, rfl⟩ ?_
  refine pw_iconst 0 (by decide) dX11_feature_5 ?_
  refine ps_istore_n (l' := [_, _, _, _, _, _, _]) dX11_feature_6 (by decide) rfl rfl ?_
  refine mff_copy hn hs n 0 A (by omega) (fun _ _ => rfl) (fun y hy => by omega) ?_
  intro A1 hA1 hR1
  have hR : same (A1 63) T n := fun j hj => by rw [hR1 j hj]; exact t2 j hj
  have hu : unl (A1 63) n = unl T n := cg_unl hR
  refine pw_aload_n rfl dX11_feature_33 ?_
  refine pw_aload_n rfl dX11_feature_34 ?_
  refine pw_gI dX11_feature_35 fX11_72 (by first | rfl | assumption) rfl ?_
  rw [hs]
  refine pc_V1 dX11_feature_38 lX11_143 rfl rfl (by decide) (Nat.le_of_ble_eq_true rfl) ?_
  refine m_countBytes hn (same_B (same_sym hR) hB) ?_
  rw [hu]
  have hq := hQ (stA A1 66 (cpn (tbl (A1 63) n) (A1 66) 256)) (fun i k1 k2 => by rw [stA_n k2]; exact hA1 i k1)
  have hR2 : same (stA A1 66 (cpn (tbl (A1 63) n) (A1 66) 256) 63) T n := by rw [stA_n (by decide)]; exact hR
  generalize stA A1 66 (cpn (tbl (A1 63) n) (A1 66) 256) = A2 at *
  refine ps_istore_n (l' := [_, _, _, _, _, _, _]) dX11_feature_41 (by decide) rfl rfl ?_
  refine pw_iconst 0 (by decide) dX11_feature_42 ?_
  refine ps_istore_n (l' := [_, _, _, _, _, _, _]) dX11_feature_43 (by decide) rfl rfl ?_
  refine pw_iconst 0 (by decide) dX11_feature_44 ?_
  refine ps_istore_n (l' := [_, _, _, _, _, _, _]) dX11_feature_45 (by decide) rfl rfl ?_
  refine pw_iconst 1 (by decide) dX11_feature_46 ?_
  refine ps_istore (l' := [_, _, _, _, _, _, _]) dX11_feature_47 (by decide) rfl rfl ?_
  refine mf_loop hs hn hB hR2 ?_ (n - 1) 1 _ rfl rfl (Nat.le_refl _) (by omega)
  intro i g
  unfold feat at hq
  -- the last sum
  have last : ∀ (a b c : Nat) (x4 x5 x6 : Int32), a ≤ 3 → b < 2000 → c < 2000 → Q (some (.int (nI (16 * a + 4 * min 3 b + min 3 c)))) (HS (upF F 57 0 0) A2 rf lo X) →
      PW Γ mX11_feature 229 [.ref 57, .int (nI (unl T n)), .int (nI (sml T n)), .int (nI (nea T n)), .int (nI a), .int (nI b), .int (nI c)] [] (HS (upF F 57 0 0) A2 rf lo X) 0 0 Q := by
    intro a b c x4 x5 x6 ha hb hc hqq
    refine pw_bipush 16 (by decide) dX11_feature_229 ?_
    rw [show (16 : Int32) = nI 16 from rfl]
    refine pw_iload rfl dX11_feature_231 ?_
    refine pw_imul dX11_feature_233 ?_
    rw [pk_mul]
    have fin : ∀ y : Nat, y = 16 * a + 4 * min 3 b → PW Γ mX11_feature 249 [.ref 57, .int (nI (unl T n)), .int (nI (sml T n)), .int (nI (nea T n)), .int (nI a), .int (nI b), .int (nI c)] [.int (nI y)] (HS (upF F 57 0 0) A2 rf lo X) 0 0 Q := by
      intro y hy
      rw [← hy] at hqq
      by_cases h3 : c ≤ 3
      · rw [Nat.min_eq_right h3] at hqq
        refine pw_iload rfl dX11_feature_249 ?_
        refine pw_iconst 3 (by decide) dX11_feature_251 ?_
        refine pw_icmp_le 259 dX11_feature_252 (by decide) (fun _ => ?_) (fun q => absurd (nI_le (b := 3) h3 (by omega)) q)
        refine pw_iload rfl dX11_feature_259 ?_
        refine pw_iadd dX11_feature_261 ?_
        rw [nI_add]
        refine pw_iret dX11_feature_262 (Or.inl rfl) ?_
        exact hqq
      · rw [Nat.min_eq_left (by omega)] at hqq
        refine pw_iload rfl dX11_feature_249 ?_
        refine pw_iconst 3 (by decide) dX11_feature_251 ?_
        refine pw_icmp_le 259 dX11_feature_252 (by decide) (fun q => absurd q (nI_ge (a := 3) (by omega) (by omega))) (fun _ => ?_)
        refine pw_iconst 3 (by decide) dX11_feature_255 ?_
        refine pw_goto 261 dX11_feature_256 (by decide) ?_
        rw [show (3 : Int32) = nI 3 from rfl]
        refine pw_iadd dX11_feature_261 ?_
        rw [nI_add]
        refine pw_iret dX11_feature_262 (Or.inl rfl) ?_
        exact hqq
    by_cases h3 : b ≤ 3
    · refine pw_iconst 4 (by decide) dX11_feature_234 ?_
      refine pw_iload rfl dX11_feature_235 ?_
      refine pw_iconst 3 (by decide) dX11_feature_237 ?_
      refine pw_icmp_le 245 dX11_feature_238 (by decide) (fun _ => ?_) (fun q => absurd (nI_le (b := 3) h3 (by omega)) q)
      refine pw_iload rfl dX11_feature_245 ?_
      rw [show (4 : Int32) = nI 4 from rfl]
      refine pw_imul dX11_feature_247 ?_
      rw [pk_mul]
      refine pw_iadd dX11_feature_248 ?_
      rw [nI_add]
      exact fin _ (by rw [Nat.min_eq_right h3])
    · refine pw_iconst 4 (by decide) dX11_feature_234 ?_
      refine pw_iload rfl dX11_feature_235 ?_
      refine pw_iconst 3 (by decide) dX11_feature_237 ?_
      refine pw_icmp_le 245 dX11_feature_238 (by decide) (fun q => absurd q (nI_ge (a := 3) (by omega) (by omega))) (fun _ => ?_)
      refine pw_iconst 3 (by decide) dX11_feature_241 ?_
      refine pw_goto 247 dX11_feature_242 (by decide) ?_
      rw [show (4 : Int32) = nI 4 from rfl, show (3 : Int32) = nI 3 from rfl]
      refine pw_imul dX11_feature_247 ?_
      rw [pk_mul]
      refine pw_iadd dX11_feature_248 ?_
      rw [nI_add]
      exact fin _ (by rw [Nat.min_eq_left (by omega)])
  have mid : ∀ a : Nat, a = vr (unl T n) → PW Γ mX11_feature 185 [.ref 57, .int (nI (unl T n)), .int (nI (sml T n)), .int (nI (nea T n)), .int i, g, .float 0] [.int (nI a)] (HS (upF F 57 0 0) A2 rf lo X) 0 0 Q := by
    intro a ha
    have hv := vr_le (unl T n)
    rw [← ha] at hq hv
    unfold qt at hq
    refine ps_istore (l' := [_, _, _, _, _, _, _]) dX11_feature_185 (by decide) rfl rfl ?_
    refine pw_aload_n rfl dX11_feature_187 ?_
    refine pw_gI dX11_feature_188 fX11_72 (by first | rfl | assumption) rfl ?_
    rw [hs]
    by_cases hn0 : n = 0
    · rw [if_pos hn0, if_pos hn0] at hq
      refine pw_if_ne 198 dX11_feature_191 (by decide) (fun q => absurd (by rw [hn0]; rfl) q) (fun _ => ?_)
      refine pw_iconst 0 (by decide) dX11_feature_194 ?_
      refine pw_goto 206 dX11_feature_195 (by decide) ?_
      refine ps_istore (l' := [_, _, _, _, _, _, _]) dX11_feature_206 (by decide) rfl rfl ?_
      refine pw_aload_n rfl dX11_feature_208 ?_
      refine pw_gI dX11_feature_209 fX11_72 (by first | rfl | assumption) rfl ?_
      rw [hs]
      refine pw_if_ne 219 dX11_feature_212 (by decide) (fun q => absurd (by rw [hn0]; rfl) q) (fun _ => ?_)
      refine pw_iconst 0 (by decide) dX11_feature_215 ?_
      refine pw_goto 227 dX11_feature_216 (by decide) ?_
      refine ps_istore (l' := [_, _, _, _, _, _, _]) dX11_feature_227 (by decide) rfl rfl ?_
      exact last a 0 0 0 0 0 hv (by omega) (by omega) hq
    · rw [if_neg hn0, if_neg hn0] at hq
      have hd1 : 4 * sml T n / n < 2000 := Nat.lt_of_le_of_lt (Nat.div_le_self _ _) (by omega)
      have hd2 : 4 * nea T n / n < 2000 := Nat.lt_of_le_of_lt (Nat.div_le_self _ _) (by omega)
      refine pw_if_ne 198 dX11_feature_191 (by decide) (fun _ => ?_) (fun q => absurd q (nI_ne0 (by omega) (by omega)))
      refine pw_iconst 4 (by decide) dX11_feature_198 ?_
      refine pw_iload_n rfl dX11_feature_199 ?_
      rw [show (4 : Int32) = nI 4 from rfl]
      refine pw_imul dX11_feature_200 ?_
      refine pw_aload_n rfl dX11_feature_201 ?_
      refine pw_gI dX11_feature_202 fX11_72 (by first | rfl | assumption) rfl ?_
      rw [pk_mul, hs]
      refine pw_idiv (nI_ne0 (by omega) (by omega)) dX11_feature_205 ?_
      rw [pk_div (by omega) (by omega) (by omega)]
      refine ps_istore (l' := [_, _, _, _, _, _, _]) dX11_feature_206 (by decide) rfl rfl ?_
      refine pw_aload_n rfl dX11_feature_208 ?_
      refine pw_gI dX11_feature_209 fX11_72 (by first | rfl | assumption) rfl ?_
      rw [hs]
      refine pw_if_ne 219 dX11_feature_212 (by decide) (fun _ => ?_) (fun q => absurd q (nI_ne0 (by omega) (by omega)))
      refine pw_iconst 4 (by decide) dX11_feature_219 ?_
      refine pw_iload_n rfl dX11_feature_220 ?_
      rw [show (4 : Int32) = nI 4 from rfl]
      refine pw_imul dX11_feature_221 ?_
      refine pw_aload_n rfl dX11_feature_222 ?_
      refine pw_gI dX11_feature_223 fX11_72 (by first | rfl | assumption) rfl ?_
      rw [pk_mul, hs]
      refine pw_idiv (nI_ne0 (by omega) (by omega)) dX11_feature_226 ?_
      rw [pk_div (by omega) (by omega) (by omega)]
      refine ps_istore (l' := [_, _, _, _, _, _, _]) dX11_feature_227 (by decide) rfl rfl ?_
      exact last a _ _ 0 0 0 hv hd1 hd2 hq
  refine pw_iload_n rfl dX11_feature_155 ?_
  refine pw_iconst 3 (by decide) dX11_feature_156 ?_
  unfold vr at mid
  by_cases h2 : unl T n ≤ 2
  · rw [if_pos h2] at mid
    refine pw_icmp_ge 164 dX11_feature_157 (by decide) (fun q => absurd q (nI_ge (b := 3) (by omega) (by omega))) (fun _ => ?_)
    refine pw_iconst 0 (by decide) dX11_feature_160 ?_
    refine pw_goto 185 dX11_feature_161 (by decide) ?_
    exact mid 0 rfl
  · rw [if_neg h2] at mid
    refine pw_icmp_ge 164 dX11_feature_157 (by decide) (fun _ => ?_) (fun q => absurd (nI_le (a := 3) (by omega) (by omega)) q)
    refine pw_iload_n rfl dX11_feature_164 ?_
    refine pw_bipush 17 (by decide) dX11_feature_165 ?_
    by_cases h16 : unl T n ≤ 16
    · rw [if_pos h16] at mid
      refine pw_icmp_ge 174 dX11_feature_167 (by decide) (fun q => absurd q (nI_ge (b := 17) (by omega) (by omega))) (fun _ => ?_)
      refine pw_iconst 1 (by decide) dX11_feature_170 ?_
      refine pw_goto 185 dX11_feature_171 (by decide) ?_
      exact mid 1 rfl
    · rw [if_neg h16] at mid
      refine pw_icmp_ge 174 dX11_feature_167 (by decide) (fun _ => ?_) (fun q => absurd (nI_le (a := 17) (by omega) (by omega)) q)
      refine pw_iload_n rfl dX11_feature_174 ?_
      refine pw_bipush 65 (by decide) dX11_feature_175 ?_
      by_cases h64 : unl T n ≤ 64
      · rw [if_pos h64] at mid
        refine pw_icmp_ge 184 dX11_feature_177 (by decide) (fun q => absurd q (nI_ge (b := 65) (by omega) (by omega))) (fun _ => ?_)
        refine pw_iconst 2 (by decide) dX11_feature_180 ?_
        refine pw_goto 185 dX11_feature_181 (by decide) ?_
        exact mid 2 rfl
      · rw [if_neg h64] at mid
        refine pw_icmp_ge 184 dX11_feature_177 (by decide) (fun _ => ?_) (fun q => absurd (nI_le (a := 65) (by omega) (by omega)) q)
        refine pw_iconst 3 (by decide) dX11_feature_184 ?_
        exact mid 3 rfl
end
section
variable {Γ : Nat × (Nat → Int32)}
theorem o_feature : OP Γ mX10_feature mX11_feature [.ref 0] [.ref 57] := by
  refine OP_of (fun s => s) (fun s => nI (feat s.1.2 s.1.1)) ?_ ?_ (fun s F A hO _ => hO)
  · intro F A rf lo X Q s hO hI hQ
    obtain ⟨a, _⟩ := id hI
    refine PM.go (l := [_]) rfl rfl (Nat.le_of_ble_eq_true rfl) rfl ?_
    refine pw_aload_n rfl dX10_feature_0 ?_
    refine pw_gC dX10_feature_1 fX10_61 (by first | rfl | assumption) rfl (by first | rfl | assumption) ?_
    refine pw_aload_n rfl dX10_feature_4 ?_
    refine pw_gC dX10_feature_5 fX10_14 (by first | rfl | assumption) rfl (by first | rfl | assumption) ?_
    refine pc_V1 dX10_feature_8 lX10_177 rfl rfl (by decide) (Nat.le_of_ble_eq_true rfl) ?_
    refine c_featureOf a hO.1 hO.2.1 ?_
    intro A' hA'
    refine pw_iret dX10_feature_11 (Or.inl rfl) ?_
    exact hQ _ _ _ ⟨fun _ _ _ => rfl, fun i h => hA' i (by omega)⟩ (CI_S hI (fun _ _ _ => rfl) (fun i h => hA' i (by omega)))
  · intro F A rf lo X Q s hO hI hQ
    obtain ⟨a, _⟩ := id hI
    refine m_feature a hO.1 hO.2.1 ?_
    intro A' hA'
    exact hQ _ _ ⟨fun i j h => upF_n (by omega), fun i h => hA' i (by omega) (by omega)⟩ (MI_S hI (fun j h => upF_n (by omega)) (fun i h => hA' i (by omega) (by omega)))
theorem o_learn : OP Γ mX10_learn mX11_learn [.ref 0] [.ref 57] := by
  refine OP_of (fun s => if s.2.2.2.1.1 = true then (s.1, s.2.1, s.2.2.1, s.2.2.2.1, upd s.2.2.2.2.1 (feat s.1.2 s.1.1) (s.2.2.2.1.2 2), s.2.2.2.2.2) else s) (fun s => if s.2.2.2.1.1 = true then nI (feat s.1.2 s.1.1) else -3) ?_ ?_ ?_
  · intro F A rf lo X Q s hO hI hQ
    obtain ⟨a, b, c, d, e, f, g⟩ := id hI
    have hfl := feat_lt s.1.2 s.1.1
    refine PM.go (l := [_, .float 0]) rfl rfl (Nat.le_of_ble_eq_true rfl) rfl ?_
    refine pw_aload_n rfl dX10_learn_0 ?_
    refine pw_gI dX10_learn_1 fX10_72 (by first | rfl | assumption) rfl ?_
    rw [d.1]
    by_cases hc : s.2.2.2.1.1 = true
    · rw [if_pos hc, if_pos hc] at hQ
      rw [hc]
      refine pw_if_ne 10 dX10_learn_4 (by decide) (fun _ => ?_) (fun q => absurd q (by decide))
      refine pw_aload_n rfl dX10_learn_10 ?_
      refine pw_gC dX10_learn_11 fX10_61 (by first | rfl | assumption) rfl (by first | rfl | assumption) ?_
      refine pw_aload_n rfl dX10_learn_14 ?_
      refine pw_gC dX10_learn_15 fX10_14 (by first | rfl | assumption) rfl (by first | rfl | assumption) ?_
      refine pc_V1 dX10_learn_18 lX10_177 rfl rfl (by decide) (Nat.le_of_ble_eq_true rfl) ?_
      refine c_featureOf a hO.1 hO.2.1 ?_
      intro A' hA'
      refine ps_istore_n (l' := [_, _]) dX10_learn_21 (by decide) rfl rfl ?_
      refine pw_iload_n rfl dX10_learn_22 ?_
      refine pw_if_lt 47 dX10_learn_23 (by decide) (fun q => absurd q (nI_pos (by omega))) (fun _ => ?_)
      refine pw_iload_n rfl dX10_learn_26 ?_
      refine pw_aload_n rfl dX10_learn_27 ?_
      refine pw_gC dX10_learn_28 fX10_69 (by first | rfl | assumption) rfl (by first | rfl | assumption) ?_
      refine pw_lI (nI _) dX10_learn_31 (by first | rfl | assumption) rfl ?_
      refine pw_icmp_ge 47 dX10_learn_32 (by decide) (fun q => absurd q (nI_ge (b := 64) hfl (by omega))) (fun _ => ?_)
      refine pw_aload_n rfl dX10_learn_35 ?_
      refine pw_gC dX10_learn_36 fX10_69 (by first | rfl | assumption) rfl (by first | rfl | assumption) ?_
      refine pw_iload_n rfl dX10_learn_39 ?_
      refine pw_aload_n rfl dX10_learn_40 ?_
      refine pw_gC dX10_learn_41 fX10_65 (by first | rfl | assumption) rfl (by first | rfl | assumption) ?_
      refine pw_iconst 2 (by decide) dX10_learn_44 ?_
      refine pw_aI dX10_learn_45 (by first | rfl | assumption) (vp_in_nI (n := 2) (by decide) (by decide)) ?_
      refine pw_sI dX10_learn_46 (by first | rfl | assumption) (by first | assumption | exact vp_in_nI (by omega) (by omega)) ?_
      refine pw_iload_n rfl dX10_learn_47 ?_
      refine pw_iret dX10_learn_48 (Or.inl rfl) ?_
      rw [nI_clamp (by omega), show A' 55 (2 : Int32).toNatClampNeg = s.2.2.2.1.2 2 by rw [hA' 55 (by omega)]; exact d.2 hc 2 (by omega)]
      refine hQ _ _ _ ⟨fun _ _ _ => rfl, fun i h => by rw [stA_n (by omega)]; exact hA' i (by omega)⟩ ⟨TX_fr a rfl (by rw [stA_n (by decide)]; exact hA' _ (by omega)), OX_fr b rfl (by rw [stA_n (by decide)]; exact hA' _ (by omega)), CH_fr rfl rfl (by rw [stA_n (by decide)]; exact hA' _ (by omega)) (by rw [stA_n (by decide)]; exact hA' _ (by omega)) (by rw [stA_n (by decide)]; exact hA' _ (by omega)) c, CX_fr d rfl (by rw [stA_n (by decide)]; exact hA' _ (by omega)), ?_, f, g⟩
      intro j hj
      show stA A' 56 _ 56 j = upd s.2.2.2.2.1 (feat s.1.2 s.1.1) (s.2.2.2.1.2 2) j
      rw [stA_s, hA' 56 (by omega)]
      by_cases h9 : j = feat s.1.2 s.1.1
      · rw [h9, upd_s, upd_s]
      · rw [upd_n h9, upd_n h9]; exact e j hj
    · rw [if_neg hc, if_neg hc] at hQ
      rw [Bool.eq_false_iff.mpr hc]
      refine pw_if_ne 10 dX10_learn_4 (by decide) (fun q => absurd (rfl) q) (fun _ => ?_)
      refine pw_bipush (-3) (by decide) dX10_learn_7 ?_
      refine pw_iret dX10_learn_9 (Or.inl rfl) ?_
      exact hQ _ _ _ frC_r hI
  · intro F A rf lo X Q s hO hI hQ
    obtain ⟨a, b, c, d, e, f⟩ := id hI
    have hfl := feat_lt s.1.2 s.1.1
    refine PM.go (l := [_, .float 0]) rfl rfl (Nat.le_of_ble_eq_true rfl) rfl ?_
    refine pw_aload_n rfl dX11_learn_0 ?_
    refine pc_V0 dX11_learn_1 lX11_196 rfl rfl (by decide) (Nat.le_of_ble_eq_true rfl) ?_
    refine m_feature a hO.1 hO.2.1 ?_
    intro A' hA'
    refine ps_istore_n (l' := [_, _]) dX11_learn_4 (by decide) rfl rfl ?_
    refine pw_aload_n rfl dX11_learn_5 ?_
    refine pw_gI dX11_learn_6 fX11_68 (by first | rfl | assumption) rfl ?_
    rw [upF_n (by omega), d.1]
    by_cases hc : s.2.2.2.1.1 = true
    · rw [if_pos hc, if_pos hc] at hQ
      rw [hc]
      refine pw_if_ne 15 dX11_learn_9 (by decide) (fun _ => ?_) (fun q => absurd q (by decide))
      refine pw_aload_n rfl dX11_learn_15 ?_
      refine pw_gC dX11_learn_16 fX11_55 (by first | rfl | assumption) rfl (by first | rfl | assumption) ?_
      refine pw_iload_n rfl dX11_learn_19 ?_
      refine pw_aload_n rfl dX11_learn_20 ?_
      refine pw_gC dX11_learn_21 fX11_52 (by first | rfl | assumption) rfl (by first | rfl | assumption) ?_
      refine pw_iconst 2 (by decide) dX11_learn_24 ?_
      refine pw_aI dX11_learn_25 (by first | rfl | assumption) (vp_in_nI (n := 2) (by decide) (by decide)) ?_
      refine pw_sI dX11_learn_26 (by first | rfl | assumption) (by first | assumption | exact vp_in_nI (by omega) (by omega)) ?_
      refine pw_iload_n rfl dX11_learn_27 ?_
      refine pw_iret dX11_learn_28 (Or.inl rfl) ?_
      rw [nI_clamp (by omega), show A' 72 (2 : Int32).toNatClampNeg = s.2.2.2.1.2 2 by rw [hA' 72 (by omega) (by omega)]; exact d.2 hc 2 (by omega)]
      refine hQ _ _ ⟨fun i j h => upF_n (by omega), fun i h => by rw [stA_n (by omega)]; exact hA' i (by omega) (by omega)⟩ ⟨TM_fr a (upF_n (by omega)) (by rw [stA_n (by decide)]; exact hA' _ (by omega) (by omega)), OM_fr b (upF_n (by omega)) (by rw [stA_n (by decide)]; exact hA' _ (by omega) (by omega)), CM_fr (upF_n (by omega)) (upF_n (by omega)) (by rw [stA_n (by decide)]; exact hA' _ (by omega) (by omega)) (by rw [stA_n (by decide)]; exact hA' _ (by omega) (by omega)) (by rw [stA_n (by decide)]; exact hA' _ (by omega) (by omega)) c, XM_fr d (upF_n (by omega)) (by rw [stA_n (by decide)]; exact hA' _ (by omega) (by omega)), ?_, by rw [upF_n (by omega)]; exact f⟩
      intro j hj
      show stA A' 73 _ 73 j = upd s.2.2.2.2.1 (feat s.1.2 s.1.1) (s.2.2.2.1.2 2) j
      rw [stA_s, hA' 73 (by omega) (by omega)]
      by_cases h9 : j = feat s.1.2 s.1.1
      · rw [h9, upd_s, upd_s]
      · rw [upd_n h9, upd_n h9]; exact e j hj
    · rw [if_neg hc, if_neg hc] at hQ
      rw [Bool.eq_false_iff.mpr hc]
      refine pw_if_ne 15 dX11_learn_9 (by decide) (fun q => absurd (rfl) q) (fun _ => ?_)
      refine pw_bipush (-3) (by decide) dX11_learn_12 ?_
      refine pw_iret dX11_learn_14 (Or.inl rfl) ?_
      exact hQ _ _ ⟨fun i j h => upF_n (by omega), fun i h => hA' i (by omega) (by omega)⟩ (MI_S hI (fun j h => upF_n (by omega)) (fun i h => hA' i (by omega) (by omega)))
  · intro s F A hO hI
    obtain ⟨o1, o2, o3, o4, o5⟩ := id hO
    by_cases hc : s.2.2.2.1.1 = true
    · rw [if_pos hc]; exact ⟨o1, o2, o3, o4, o5⟩
    · rw [if_neg hc]; exact hO
end
