/-! PREFIX: the reference's least, findLengths, findCodes -/
theorem knz_mono (e : Nat → Nat) {a z : Nat} (h : a ≤ z) : knz e a ≤ knz e z := by
  induction h with
  | refl => exact Nat.le_refl _
  | step _ ih => exact Nat.le_trans ih (Nat.le_add_right _ _)
theorem knz_lt {e : Nat → Nat} {a z : Nat} (h : a < z) (he : 0 < e a) : knz e a < knz e z := by
  have h1 : knz e (a + 1) = knz e a + 1 := by
    show knz e a + (if 0 < e a then 1 else 0) = _
    rw [if_pos he]
  have := knz_mono e (show a + 1 ≤ z from h)
  omega
theorem knz_inj {e : Nat → Nat} {a b : Nat} (ha : 0 < e a) (hb : 0 < e b) (h : knz e a = knz e b) : a = b := by
  rcases Nat.lt_trichotomy a b with h1 | h1 | h1
  · have := knz_lt h1 ha; omega
  · exact h1
  · have := knz_lt h1 hb; omega
theorem knz_sur {e : Nat → Nat} {u : Nat} : ∀ z, u < knz e z → ∃ b, b < z ∧ 0 < e b ∧ knz e b = u
  | 0 => fun h => absurd h (by show ¬ u < 0; omega)
  | z + 1 => fun h => by
    by_cases h1 : u < knz e z
    · obtain ⟨b, h2, h3, h4⟩ := knz_sur z h1
      exact ⟨b, by omega, h3, h4⟩
    · have h2 : u < knz e z + (if 0 < e z then 1 else 0) := h
      by_cases h3 : 0 < e z
      · rw [if_pos h3] at h2
        exact ⟨z, by omega, h3, by omega⟩
      · rw [if_neg h3] at h2
        omega
theorem srt_knz (c : Nat → Nat) : ∀ z, (srt c z).length = knz c z
  | 0 => rfl
  | z + 1 => by
    have ih := srt_knz c z
    show (if 0 < c z then _ else _ : List Nat).length = knz c z + (if 0 < c z then 1 else 0)
    by_cases h : 0 < c z
    · rw [if_pos h, if_pos h, List.length_append, List.length_cons, List.length_take, List.length_drop, ← ih]
      have := ipd_le c (c z) (srt c z) (srt c z).length
      omega
    · rw [if_neg h, if_neg h, ih]
      omega
theorem lk_knz (c : Nat → Nat) : lk c = knz c 256 := srt_knz c 256
/-- the reference's number of a tree -/
def ph (c : Nat → Nat) (t : Nat) : Nat := if t < lk c then knz c (la c t) else t
theorem ph_lt {c : Nat → Nat} {t : Nat} (h : t < lk c) : ph c t < lk c := by
  unfold ph
  rw [if_pos h]
  have h1 := la_mem h
  have := knz_lt h1.1 h1.2
  rw [lk_knz]
  exact this
theorem ph_ge {c : Nat → Nat} {t : Nat} (h : lk c ≤ t) : ph c t = t := by
  unfold ph
  rw [if_neg (by omega)]
theorem ph_b {c : Nat → Nat} {t m : Nat} (h : t < lk c + m) : ph c t < lk c + m := by
  by_cases h1 : t < lk c
  · have := ph_lt h1; omega
  · rw [ph_ge (by omega)]; exact h
theorem ph_inj {c : Nat → Nat} {s t : Nat} (h : ph c s = ph c t) : s = t := by
  by_cases hs : s < lk c
  · have h1 := ph_lt hs
    by_cases ht : t < lk c
    · unfold ph at h
      rw [if_pos hs, if_pos ht] at h
      exact la_inj hs ht (knz_inj (la_mem hs).2 (la_mem ht).2 h)
    · rw [ph_ge (t := t) (by omega)] at h; omega
  · rw [ph_ge (t := s) (by omega)] at h
    by_cases ht : t < lk c
    · have := ph_lt ht; omega
    · rw [ph_ge (by omega)] at h; exact h
theorem ph_sur {c : Nat → Nat} {u m : Nat} (h : u < lk c + m) : ∃ t, t < lk c + m ∧ ph c t = u := by
  by_cases hu : u < lk c
  · rw [lk_knz] at hu
    obtain ⟨b, h1, h2, h3⟩ := knz_sur 256 hu
    obtain ⟨t, h4, h5⟩ := la_sur h1 h2
    refine ⟨t, by omega, ?_⟩
    unfold ph
    rw [if_pos h4, h5]
    exact h3
  · exact ⟨u, h, ph_ge (by omega)⟩
theorem ph_lx {c : Nat → Nat} : ∀ s t, s < t → t < lk c → lw c s < lw c t ∨ (lw c s = lw c t ∧ ph c s < ph c t) := by
  intro s t h1 h2
  rcases la_lx h1 h2 with h | h
  · exact Or.inl h
  · refine Or.inr ⟨h.1, ?_⟩
    unfold ph
    rw [if_pos (by omega), if_pos h2]
    exact knz_lt h.2 (la_mem (by omega)).2
section
variable {Γ : Nat × (Nat → Int32)} {F A : Nat → Nat → Int32} {rf : Nat} {lo : Int64} {X : PH} {Q : Option Value → PH → Prop} {c : Nat → Nat} {N : Nat}
theorem least_loop {n x : Nat} {bt : Int32} {w : Nat → Nat} {B : Nat → Prop} (hn : n ≤ 511) (hw : ∀ u, u < n → A 69 u = nI (w u) ∧ w u ≤ 300) (hB : ∀ u, u < n → (B u ↔ (A 70 u < 0 ∧ ¬ nI u = bt))) (hx : x < n) (hxB : B x) (hmin : ∀ u, u < n → B u → w x < w u ∨ (w x = w u ∧ x ≤ u)) (hQ : Q (some (.int (nI x))) (HS F A rf lo X)) :
    ∀ (k t : Nat) (fv : Int32) (g : Value), g.category = 1 → t + k = n → ((fv = -1 ∧ ∀ u, u < t → ¬ B u) ∨ ∃ y, y < t ∧ fv = nI y ∧ B y ∧ ∀ u, u < t → B u → w y < w u ∨ (w y = w u ∧ y ≤ u)) →
    PW Γ mX11_least 5 [.ref 57, .int (nI n), .int bt, .int fv, .int (nI t), g] [] (HS F A rf lo X) 0 0 Q := by
  intro k
  induction k with
  | zero =>
    intro t fv g hg ht hI
    have ht2 : t = n := by omega
    subst ht2
    refine pw_iload rfl dX11_least_5 ?_
    refine pw_iload_n rfl dX11_least_7 ?_
    refine pw_icmp_ge 72 dX11_least_8 (by decide) (fun _ => ?_) (fun q => absurd (nI_le (Nat.le_refl _) (by omega)) q)
    refine pw_iload_n rfl dX11_least_72 ?_
    refine pw_iret dX11_least_73 (Or.inl rfl) ?_
    rcases hI with ⟨_, hno⟩ | ⟨y, hy, rfl, hyB, hym⟩
    · exact absurd hxB (hno x hx)
    · have h1 := hmin y hy hyB
      have h2 := hym x hx hxB
      have : y = x := by omega
      subst this
      exact hQ
  | succ k ih =>
    intro t fv g hg ht hI
    have hwt := hw t (by omega)
    have hBt := hB t (by omega)
    refine pw_iload rfl dX11_least_5 ?_
    refine pw_iload_n rfl dX11_least_7 ?_
    refine pw_icmp_ge 72 dX11_least_8 (by decide) (fun q => absurd q (nI_ge (by omega) (by omega))) (fun _ => ?_)
    refine pw_aload_n rfl dX11_least_11 ?_
    refine pw_gC dX11_least_12 fX11_46 (by first | rfl | assumption) rfl (by first | rfl | assumption) ?_
    refine pw_iload rfl dX11_least_15 ?_
    refine pw_aI dX11_least_17 (by first | rfl | assumption) (by first | assumption | exact vp_in_nI (by omega) (by omega)) ?_
    rw [nI_clamp (by omega)]
    have no : ¬ B t → PW Γ mX11_least 34 [.ref 57, .int (nI n), .int bt, .int fv, .int (nI t), .int 0] [] (HS F A rf lo X) 0 0 Q := by
      intro hno
      refine pw_iload rfl dX11_least_34 ?_
      refine pw_if_eq 64 dX11_least_36 (by decide) (fun _ => ?_) (fun q => absurd (rfl) q)
      refine pw_iload_n rfl dX11_least_64 ?_
      refine ps_istore_n (l' := [_, _, _, _, _, _]) dX11_least_65 (by decide) rfl rfl ?_
      refine ps_iinc (l' := [_, _, _, _, _, _]) 1 dX11_least_66 (by decide) rfl (by decide) rfl rfl ?_
      refine pw_goto 5 dX11_least_69 (by decide) ?_
      rw [nI_1]
      refine ih (t + 1) fv _ rfl (by omega) ?_
      rcases hI with ⟨h1, h2⟩ | ⟨y, hy, h1, hyB, hym⟩
      · refine Or.inl ⟨h1, fun u hu => ?_⟩
        by_cases hut : u = t
        · rw [hut]; exact hno
        · exact h2 u (by omega)
      · refine Or.inr ⟨y, by omega, h1, hyB, fun u hu hBu => ?_⟩
        by_cases hut : u = t
        · rw [hut] at hBu; exact absurd hBu hno
        · exact hym u (by omega) hBu
    by_cases ha : A 70 t < 0
    · refine pw_if_ge 31 dX11_least_18 (by decide) (fun q => absurd q (Int32.not_le.mpr ha)) (fun _ => ?_)
      refine pw_iload rfl dX11_least_21 ?_
      refine pw_iload_n rfl dX11_least_23 ?_
      by_cases hb : nI t = bt
      · refine pw_icmp_eq 31 dX11_least_24 (by decide) (fun _ => ?_) (fun q => absurd (hb) q)
        refine pw_iconst 0 (by decide) dX11_least_31 ?_
        refine ps_istore (l' := [_, _, _, _, _, _]) dX11_least_32 (by decide) rfl rfl ?_
        exact no (fun h9 => (hBt.mp h9).2 hb)
      · have hyes : B t := hBt.mpr ⟨ha, hb⟩
        refine pw_icmp_eq 31 dX11_least_24 (by decide) (fun q => absurd q (hb)) (fun _ => ?_)
        refine pw_iconst 1 (by decide) dX11_least_27 ?_
        refine pw_goto 32 dX11_least_28 (by decide) ?_
        refine ps_istore (l' := [_, _, _, _, _, _]) dX11_least_32 (by decide) rfl rfl ?_
        refine pw_iload rfl dX11_least_34 ?_
        refine pw_if_eq 64 dX11_least_36 (by decide) (fun q => absurd q (by decide)) (fun _ => ?_)
        refine pw_iload_n rfl dX11_least_39 ?_
        have take : (∀ u, u < t → B u → w t < w u) → PW Γ mX11_least 59 [.ref 57, .int (nI n), .int bt, .int fv, .int (nI t), .int 1] [] (HS F A rf lo X) 0 0 Q := by
          intro hlt
          refine pw_iload rfl dX11_least_59 ?_
          refine pw_goto 65 dX11_least_61 (by decide) ?_
          refine ps_istore_n (l' := [_, _, _, _, _, _]) dX11_least_65 (by decide) rfl rfl ?_
          refine ps_iinc (l' := [_, _, _, _, _, _]) 1 dX11_least_66 (by decide) rfl (by decide) rfl rfl ?_
          refine pw_goto 5 dX11_least_69 (by decide) ?_
          rw [nI_1]
          refine ih (t + 1) _ _ rfl (by omega) (Or.inr ⟨t, by omega, rfl, hyes, fun u hu hBu => ?_⟩)
          by_cases hut : u = t
          · rw [hut]; exact Or.inr ⟨rfl, Nat.le_refl _⟩
          · exact Or.inl (hlt u (by omega) hBu)
        rcases hI with ⟨h1, h2⟩ | ⟨y, hy, h1, hyB, hym⟩
        · rw [h1]
          rw [h1] at take
          refine pw_if_lt 59 dX11_least_40 (by decide) (fun _ => ?_) (fun q => absurd (by decide) q)
          exact take (fun u hu hBu => absurd hBu (h2 u hu))
        · subst h1
          have hwy := hw y (by omega)
          refine pw_if_lt 59 dX11_least_40 (by decide) (fun q => absurd q (nI_pos (by omega))) (fun _ => ?_)
          refine pw_aload_n rfl dX11_least_43 ?_
          refine pw_gC dX11_least_44 fX11_43 (by first | rfl | assumption) rfl (by first | rfl | assumption) ?_
          refine pw_iload rfl dX11_least_47 ?_
          refine pw_aI dX11_least_49 (by first | rfl | assumption) (by first | assumption | exact vp_in_nI (by omega) (by omega)) ?_
          rw [nI_clamp (by omega), hwt.1]
          refine pw_aload_n rfl dX11_least_50 ?_
          refine pw_gC dX11_least_51 fX11_43 (by first | rfl | assumption) rfl (by first | rfl | assumption) ?_
          refine pw_iload_n rfl dX11_least_54 ?_
          refine pw_aI dX11_least_55 (by first | rfl | assumption) (by first | assumption | exact vp_in_nI (by omega) (by omega)) ?_
          rw [nI_clamp (by omega), hwy.1]
          by_cases hlt : w t < w y
          · refine pw_icmp_ge 64 dX11_least_56 (by decide) (fun q => absurd q (nI_ge hlt (by omega))) (fun _ => ?_)
            exact take (fun u hu hBu => by have := hym u hu hBu; omega)
          · refine pw_icmp_ge 64 dX11_least_56 (by decide) (fun _ => ?_) (fun q => absurd (nI_le (by omega) (by omega)) q)
            refine pw_iload_n rfl dX11_least_64 ?_
            refine ps_istore_n (l' := [_, _, _, _, _, _]) dX11_least_65 (by decide) rfl rfl ?_
            refine ps_iinc (l' := [_, _, _, _, _, _]) 1 dX11_least_66 (by decide) rfl (by decide) rfl rfl ?_
            refine pw_goto 5 dX11_least_69 (by decide) ?_
            rw [nI_1]
            refine ih (t + 1) _ _ rfl (by omega) (Or.inr ⟨y, by omega, rfl, hyB, fun u hu hBu => ?_⟩)
            by_cases hut : u = t
            · rw [hut]; omega
            · exact hym u (by omega) hBu
    · refine pw_if_ge 31 dX11_least_18 (by decide) (fun _ => ?_) (fun q => absurd (Int32.not_lt.mp ha) q)
      refine pw_iconst 0 (by decide) dX11_least_31 ?_
      refine ps_istore (l' := [_, _, _, _, _, _]) dX11_least_32 (by decide) rfl rfl ?_
      exact no (fun h9 => ha (hBt.mp h9).1)
theorem m_least {n x : Nat} {bt : Int32} {w : Nat → Nat} {B : Nat → Prop} (hn : n ≤ 511) (hw : ∀ u, u < n → A 69 u = nI (w u) ∧ w u ≤ 300) (hB : ∀ u, u < n → (B u ↔ (A 70 u < 0 ∧ ¬ nI u = bt))) (hx : x < n) (hxB : B x) (hmin : ∀ u, u < n → B u → w x < w u ∨ (w x = w u ∧ x ≤ u)) (hQ : Q (some (.int (nI x))) (HS F A rf lo X)) : PM Γ mX11_least [.ref 57, .int (nI n), .int bt] (HS F A rf lo X) 0 0 Q := by
  refine PM.go (l := [_, _, _, .float 0, .float 0, .float 0]) rfl rfl (Nat.le_of_ble_eq_true rfl) rfl ?_
  refine pw_iconst (-1) (by decide) dX11_least_0 ?_
  refine ps_istore_n (l' := [_, _, _, _, _, _]) dX11_least_1 (by decide) rfl rfl ?_
  refine pw_iconst 0 (by decide) dX11_least_2 ?_
  refine ps_istore (l' := [_, _, _, _, _, _]) dX11_least_3 (by decide) rfl rfl ?_
  exact least_loop hn hw hB hx hxB hmin hQ n 0 (-1) _ rfl (by omega) (Or.inl ⟨rfl, fun u hu => by omega⟩)
end
theorem nI_nm1 {a : Nat} (h : a < 2 ^ 31) : ¬ nI a = -1 := by
  intro h1
  have h2 := nI_pos h
  rw [h1] at h2
  exact h2 (by decide)
