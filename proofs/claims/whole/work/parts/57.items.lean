/-! reading items: what comes; the object's copy, repeat, copyBack, readItems -/
abbrev BT : Type := RT × Nat × (Nat → Int32)
def pu (v : Int32) (b : BT) : BT := (b.1, b.2.1 + 1, upd b.2.2 b.2.1 v)
def cpy (O : Nat → Int32) (o : Nat) : Nat → BT → BT
  | 0, b => b
  | m + 1, b => if b.1.1 = 0 then (if (nxS o b.1).1 = 0 then cpy O o m (pu (nI (nxV O o b.1)) (nxS o b.1, b.2)) else (nxS o b.1, b.2)) else b
def rpt (v : Nat) : Nat → BT → BT
  | 0, b => b
  | m + 1, b => if b.1.1 = 0 then rpt v m (pu (nI v) b) else b
def cbk (d : Nat) : Nat → BT → BT
  | 0, b => b
  | m + 1, b => if b.1.1 = 0 then cbk d m (pu (b.2.2 (b.2.1 - d)) b) else b
def itM (mt : Bool) (c : Nat) : Nat := if c < 128 then c + 1 else if mt = true then c - 125 else c - 126
def itR (O : Nat → Int32) (o n : Nat) (mt : Bool) (b : BT) : RT := if b.2.1 + itM mt (nxV O o b.1) ≤ n then nxS o b.1 else blm 4 (nxS o b.1)
def itD (O : Nat → Int32) (o n : Nat) (mt : Bool) (b : BT) : RT := if 0 < nxV O o (itR O o n mt b) ∧ nxV O o (itR O o n mt b) ≤ b.2.1 then nxS o (itR O o n mt b) else blm 4 (nxS o (itR O o n mt b))
def it1 (O : Nat → Int32) (o n : Nat) (mt : Bool) (b : BT) : BT := if nxV O o b.1 < 128 then cpy O o (itM mt (nxV O o b.1)) (itR O o n mt b, b.2) else if mt = true then cbk (nxV O o (itR O o n mt b)) (itM mt (nxV O o b.1)) (itD O o n mt b, b.2) else rpt (nxV O o (itR O o n mt b)) (itM mt (nxV O o b.1)) (nxS o (itR O o n mt b), b.2)
def its (O : Nat → Int32) (o n : Nat) (mt : Bool) : Nat → BT → BT
  | 0, b => b
  | k + 1, b => if b.1.1 = 0 ∧ b.2.1 < n then its O o n mt k (it1 O o n mt b) else b
/-- what holds of it -/
def bk (o n : Nat) (b : BT) : Prop := rok o b.1 ∧ (b.1.1 = 0 → b.2.1 ≤ n ∧ isB b.2.2 b.2.1)
theorem pu_B {f : Nat → Int32} {g v : Nat} (h : isB f g) (hv : v < 256) : isB (upd f g (nI v)) (g + 1) := by
  intro j hj
  by_cases h1 : j = g
  · exact ⟨v, hv, by rw [h1, upd_s]⟩
  · rw [upd_n h1]; exact h j (by omega)
theorem cpy_f {O : Nat → Int32} {o m : Nat} {b : BT} (h : ¬ b.1.1 = 0) : cpy O o m b = b := by
  cases m with
  | zero => rfl
  | succ m => unfold cpy; rw [if_neg h]
theorem rpt_f {v m : Nat} {b : BT} (h : ¬ b.1.1 = 0) : rpt v m b = b := by
  cases m with
  | zero => rfl
  | succ m => unfold rpt; rw [if_neg h]
theorem cbk_f {v m : Nat} {b : BT} (h : ¬ b.1.1 = 0) : cbk v m b = b := by
  cases m with
  | zero => rfl
  | succ m => unfold cbk; rw [if_neg h]
theorem cpy_ok {O : Nat → Int32} {o n : Nat} (hB : isB O o) : ∀ (m : Nat) (b : BT), bk o n b → (b.1.1 = 0 → b.2.1 + m ≤ n) → bk o n (cpy O o m b) ∧ ((cpy O o m b).1.1 = 0 → b.1.1 = 0 ∧ (cpy O o m b).2.1 = b.2.1 + m ∧ (b.1.2.2 ≤ (cpy O o m b).1.2.2))
  | 0, b => fun h _ => ⟨h, fun h0 => ⟨h0, rfl, Nat.le_refl _⟩⟩
  | m + 1, b => fun h hm => by
    unfold cpy
    by_cases h0 : b.1.1 = 0
    · rw [if_pos h0]
      have hm2 := hm h0
      by_cases h1 : (nxS o b.1).1 = 0
      · rw [if_pos h1]
        obtain ⟨z1, z2, z3⟩ := nxS_0 h1
        have ih := cpy_ok hB m (pu (nI (nxV O o b.1)) (nxS o b.1, b.2)) ⟨nxS_rok h.1, fun _ => ⟨by show b.2.1 + 1 ≤ n; omega, pu_B (h.2 h0).2 (nxV_lt hB)⟩⟩ (fun _ => by show b.2.1 + 1 + m ≤ n; omega)
        refine ⟨ih.1, fun h2 => ⟨h0, ?_, ?_⟩⟩
        · rw [(ih.2 h2).2.1]
          show b.2.1 + 1 + m = b.2.1 + (m + 1)
          omega
        · have := (ih.2 h2).2.2
          have e : (pu (nI (nxV O o b.1)) (nxS o b.1, b.2)).1.2.2 = b.1.2.2 + 1 := by show (nxS o b.1).2.2 = _; rw [z3]
          omega
      · rw [if_neg h1]
        exact ⟨⟨nxS_rok h.1, fun h2 => absurd h2 h1⟩, fun h2 => absurd h2 h1⟩
    · rw [if_neg h0]
      exact ⟨h, fun h2 => absurd h2 h0⟩
theorem rpt_ok {v n o : Nat} (hv : v < 256) : ∀ (m : Nat) (b : BT), bk o n b → (b.1.1 = 0 → b.2.1 + m ≤ n) → bk o n (rpt v m b) ∧ (rpt v m b).1 = b.1 ∧ (b.1.1 = 0 → (rpt v m b).2.1 = b.2.1 + m)
  | 0, b => fun h _ => ⟨h, rfl, fun _ => rfl⟩
  | m + 1, b => fun h hm => by
    unfold rpt
    by_cases h0 : b.1.1 = 0
    · rw [if_pos h0]
      have hm2 := hm h0
      have ih := rpt_ok hv m (pu (nI v) b) ⟨h.1, fun _ => ⟨by show b.2.1 + 1 ≤ n; omega, pu_B (h.2 h0).2 hv⟩⟩ (fun _ => by show b.2.1 + 1 + m ≤ n; omega)
      refine ⟨ih.1, ih.2.1, fun _ => ?_⟩
      rw [ih.2.2 h0]
      show b.2.1 + 1 + m = b.2.1 + (m + 1)
      omega
    · rw [if_neg h0]
      exact ⟨h, rfl, fun h2 => absurd h2 h0⟩
theorem cbk_ok {d n o : Nat} : ∀ (m : Nat) (b : BT), bk o n b → (b.1.1 = 0 → b.2.1 + m ≤ n ∧ 0 < d ∧ d ≤ b.2.1) → bk o n (cbk d m b) ∧ (cbk d m b).1 = b.1 ∧ (b.1.1 = 0 → (cbk d m b).2.1 = b.2.1 + m)
  | 0, b => fun h _ => ⟨h, rfl, fun _ => rfl⟩
  | m + 1, b => fun h hm => by
    unfold cbk
    by_cases h0 : b.1.1 = 0
    · rw [if_pos h0]
      obtain ⟨m1, m2, m3⟩ := hm h0
      obtain ⟨v, hv, e⟩ := (h.2 h0).2 (b.2.1 - d) (by omega)
      rw [e]
      have ih := cbk_ok (d := d) m (pu (nI v) b) ⟨h.1, fun _ => ⟨by show b.2.1 + 1 ≤ n; omega, pu_B (h.2 h0).2 hv⟩⟩ (fun _ => ⟨by show b.2.1 + 1 + m ≤ n; omega, m2, by show d ≤ b.2.1 + 1; omega⟩)
      refine ⟨ih.1, ih.2.1, fun _ => ?_⟩
      rw [ih.2.2 h0]
      show b.2.1 + 1 + m = b.2.1 + (m + 1)
      omega
    · rw [if_neg h0]
      exact ⟨h, rfl, fun h2 => absurd h2 h0⟩
theorem itM_ok {mt : Bool} {c : Nat} (hc : c < 256) : 1 ≤ itM mt c ∧ itM mt c ≤ 130 := by
  unfold itM
  (repeat' split) <;> omega
theorem itR_ok {O : Nat → Int32} {o n : Nat} {mt : Bool} {b : BT} (h : bk o n b) : rok o (itR O o n mt b) ∧ ((itR O o n mt b).1 = 0 → b.1.1 = 0 ∧ b.2.1 + itM mt (nxV O o b.1) ≤ n ∧ 1 ≤ (itR O o n mt b).2.2) := by
  unfold itR
  by_cases h1 : b.2.1 + itM mt (nxV O o b.1) ≤ n
  · rw [if_pos h1]
    refine ⟨nxS_rok h.1, fun h2 => ?_⟩
    obtain ⟨z1, z2, z3⟩ := nxS_0 h2
    exact ⟨z1, h1, by rw [z3]; show 1 ≤ b.1.2.2 + 1; omega⟩
  · rw [if_neg h1]
    exact ⟨blm_rok (nxS_rok h.1) (by omega), fun h2 => absurd h2 (blm_0 (by omega))⟩
theorem it1_ok {O : Nat → Int32} {o n : Nat} {mt : Bool} (hB : isB O o) {b : BT} (h : bk o n b) : bk o n (it1 O o n mt b) ∧ ((it1 O o n mt b).1.1 = 0 → b.1.1 = 0 ∧ b.2.1 < (it1 O o n mt b).2.1) := by
  have hm := itM_ok (mt := mt) (nxV_lt hB (o := o) (r := b.1))
  have hr := itR_ok (O := O) (mt := mt) h
  have hb2 : bk o n (itR O o n mt b, b.2) := ⟨hr.1, fun h2 => h.2 (hr.2 h2).1⟩
  unfold it1
  split
  · have := cpy_ok hB (itM mt (nxV O o b.1)) (itR O o n mt b, b.2) hb2 (fun h2 => (hr.2 h2).2.1)
    refine ⟨this.1, fun h2 => ?_⟩
    have h3 := this.2 h2
    refine ⟨(hr.2 h3.1).1, ?_⟩
    rw [h3.2.1]
    show b.2.1 < b.2.1 + _
    omega
  · split
    · have hD : bk o n (itD O o n mt b, b.2) ∧ ((itD O o n mt b).1 = 0 → (itR O o n mt b).1 = 0 ∧ 0 < nxV O o (itR O o n mt b) ∧ nxV O o (itR O o n mt b) ≤ b.2.1) := by
        unfold itD
        by_cases h1 : 0 < nxV O o (itR O o n mt b) ∧ nxV O o (itR O o n mt b) ≤ b.2.1
        · rw [if_pos h1]
          exact ⟨⟨nxS_rok hr.1, fun h2 => h.2 (hr.2 (nxS_0 h2).1).1⟩, fun h2 => ⟨(nxS_0 h2).1, h1⟩⟩
        · rw [if_neg h1]
          exact ⟨⟨blm_rok (nxS_rok hr.1) (by omega), fun h2 => absurd h2 (blm_0 (by omega))⟩, fun h2 => absurd h2 (blm_0 (by omega))⟩
      have := cbk_ok (d := nxV O o (itR O o n mt b)) (itM mt (nxV O o b.1)) (itD O o n mt b, b.2) hD.1 (fun h2 => ⟨(hr.2 (hD.2 h2).1).2.1, (hD.2 h2).2⟩)
      refine ⟨this.1, fun h2 => ?_⟩
      rw [this.2.1] at h2
      refine ⟨(hr.2 (hD.2 h2).1).1, ?_⟩
      rw [this.2.2 h2]
      show b.2.1 < b.2.1 + _
      omega
    · have := rpt_ok (v := nxV O o (itR O o n mt b)) (nxV_lt hB) (itM mt (nxV O o b.1)) (nxS o (itR O o n mt b), b.2) ⟨nxS_rok hr.1, fun h2 => h.2 (hr.2 (nxS_0 h2).1).1⟩ (fun h2 => (hr.2 (nxS_0 h2).1).2.1)
      refine ⟨this.1, fun h2 => ?_⟩
      rw [this.2.1] at h2
      refine ⟨(hr.2 (nxS_0 h2).1).1, ?_⟩
      rw [this.2.2 h2]
      show b.2.1 < b.2.1 + _
      omega
theorem its_ok {O : Nat → Int32} {o n : Nat} {mt : Bool} (hB : isB O o) : ∀ (k : Nat) (b : BT), bk o n b → (b.1.1 = 0 → n - b.2.1 ≤ k) → bk o n (its O o n mt k b) ∧ ((its O o n mt k b).1.1 = 0 → (its O o n mt k b).2.1 = n)
  | 0, b => fun h hk => ⟨h, fun h2 => by
    have h3 : b.1.1 = 0 := h2
    have := hk h3
    have := (h.2 h3).1
    show b.2.1 = n
    omega⟩
  | k + 1, b => fun h hk => by
    unfold its
    by_cases h1 : b.1.1 = 0 ∧ b.2.1 < n
    · rw [if_pos h1]
      have hi := it1_ok (mt := mt) hB h
      have hk2 := hk h1.1
      exact its_ok hB k _ hi.1 (fun h2 => by have := (hi.2 h2).2; omega)
    · rw [if_neg h1]
      refine ⟨h, fun h2 => ?_⟩
      have := (h.2 h2).1
      by_cases h3 : b.2.1 < n
      · exact absurd ⟨h2, h3⟩ h1
      · omega
/-- the object's side -/
def CB (F A : Nat → Nat → Int32) (b : BT) : Prop := RD F b.1 ∧ ∃ g', F 49 1 = nI g' ∧ g' ≤ 300 ∧ (b.1.1 = 0 → g' = b.2.1 ∧ same (A 50) b.2.2 b.2.1)
def frB (F F' A A' : Nat → Nat → Int32) : Prop := (∀ i j, ¬ (i = 35 ∧ (j = 1 ∨ j = 4 ∨ j = 5)) → ¬ (i = 49 ∧ j = 1) → F' i j = F i j) ∧ (∀ i, ¬ i = 50 → A' i = A i)
theorem frB_r {F A : Nat → Nat → Int32} : frB F F A A := ⟨fun _ _ _ _ => rfl, fun _ _ => rfl⟩
theorem frB_t {F F1 F2 A A1 A2 : Nat → Nat → Int32} (h1 : frB F F1 A A1) (h2 : frB F1 F2 A1 A2) : frB F F2 A A2 := ⟨fun i j k1 k2 => by rw [h2.1 i j k1 k2]; exact h1.1 i j k1 k2, fun i k1 => by rw [h2.2 i k1]; exact h1.2 i k1⟩
theorem frB_R {F F1 A : Nat → Nat → Int32} (h : frR F F1) : frB F F1 A A := ⟨fun i j k1 _ => h i j k1, fun _ _ => rfl⟩
section
variable {Γ : Nat × (Nat → Int32)} {F A : Nat → Nat → Int32} {lo : Int64} {X : PH} {Q : Option Value → PH → Prop} {o n : Nat} {O : Nat → Int32} {b : BT} {rf : Nat}
theorem row49 : isRow 49 50 300 := ⟨rfl, rfl, rfl, by decide⟩
theorem OX_B {F' A' : Nat → Nat → Int32} (h : OX F A o O) (hf : frB F F' A A') : OX F' A' o O := OX_fr h (hf.1 _ _ (by omega) (by omega)) (hf.2 _ (by omega))
theorem c_mpush {v g : Nat} (hv : v < 256) (hg : F 49 1 = nI g) (hg3 : g ≤ 300) (hQ : ∀ F' A' g', frB F F' A A' → (∀ j, F' 35 j = F 35 j) → F' 49 1 = nI g' → g' ≤ 300 → (g < 300 → g' = g + 1 ∧ A' 50 = upd (A 50) g (nI v)) → Q none (HS F' A' rf lo X)) : PM Γ mX6_push [.ref 49, .int (nI v)] (HS F A rf lo X) 0 0 Q := by
  by_cases h : g < 300
  · refine c_push row49 hg h ?_
    rw [nI_and255s hv]
    exact hQ _ _ (g + 1) ⟨fun i j _ k2 => upF_n k2, fun i k1 => stA_n k1⟩ (fun j => upF_n (by omega)) upF_s (by omega) (fun _ => ⟨rfl, stA_s⟩)
  · have hg2 : g = 300 := by omega
    refine PM.go (l := [_, _]) rfl rfl (Nat.le_of_ble_eq_true rfl) rfl ?_
    refine pw_aload_n rfl dX6_push_0 ?_
    refine pw_gI dX6_push_1 fX6_7 (by first | rfl | assumption) rfl ?_
    rw [hg]
    refine pw_aload_n rfl dX6_push_4 ?_
    refine pw_gC dX6_push_5 fX6_13 (by first | rfl | assumption) rfl (by first | rfl | assumption) ?_
    refine pw_lI (nI _) dX6_push_8 (by first | rfl | assumption) rfl ?_
    refine pw_icmp_ge 36 dX6_push_9 (by decide) (fun _ => ?_) (fun q => absurd (nI_le (a := 300) (by omega) (by omega)) q)
    refine pw_vret dX6_push_36 rfl ?_
    exact hQ F A g frB_r (fun _ => rfl) hg hg3 (fun h9 => absurd h9 h)
theorem CB_pu {F' A' : Nat → Nat → Int32} {r : RT} {g g' v : Nat} {f : Nat → Int32} (hr : RD F' r) (h1 : F' 49 1 = nI g') (h2 : g' ≤ 300) (h3 : r.1 = 0 → g' = g + 1 ∧ A' 50 = upd (A 50) g (nI v)) (h4 : r.1 = 0 → same (A 50) f g) : CB F' A' (pu (nI v) (r, g, f)) := by
  refine ⟨hr, g', h1, h2, fun h0 => ?_⟩
  have h5 := h3 h0
  refine ⟨h5.1, ?_⟩
  show same (A' 50) (upd f g (nI v)) (g + 1)
  rw [h5.2]
  intro j hj
  by_cases h : j = g
  · rw [h, upd_s, upd_s]
  · rw [upd_n h, upd_n h]; exact h4 h0 j (by omega)
theorem CB_f {F' A' : Nat → Nat → Int32} {r : RT} {g' : Nat} {y : Nat × (Nat → Int32)} (hr : RD F' r) (h : ¬ r.1 = 0) (h1 : F' 49 1 = nI g') (h2 : g' ≤ 300) : CB F' A' (r, y) := ⟨hr, g', h1, h2, fun h0 => absurd h0 h⟩
theorem cc_loop (hO : OX F A o O) (ho : o ≤ 1024) (hB : isB O o) (hn : n ≤ 300) {M : Nat} (hM : M < 2000) : ∀ (m i : Nat) (b : BT) (F' A' : Nat → Nat → Int32), i + m = M → frB F F' A A' → CB F' A' b → bk o n b → (b.1.1 = 0 → b.2.1 + m ≤ n) →
    (∀ F' A', frB F F' A A' → CB F' A' (cpy O o m b) → Q none (HS F' A' 3 lo X)) →
    PW Γ mX9_copy 2 [.ref 34, .int (nI M), .int (nI i)] [] (HS F' A' 3 lo X) 0 0 Q := by
  intro m
  induction m with
  | zero =>
    intro i b F' A' hi hfr hC hk hm hq
    have hi2 : i = M := by omega
    subst hi2
    refine pw_iload_n rfl dX9_copy_2 ?_
    refine pw_iload_n rfl dX9_copy_3 ?_
    refine pw_icmp_ge 37 dX9_copy_4 (by decide) (fun _ => ?_) (fun q => absurd (nI_le (Nat.le_refl _) (by omega)) q)
    refine pw_vret dX9_copy_37 rfl ?_
    exact hq F' A' hfr hC
  | succ m ih =>
    intro i b F' A' hi hfr hC hk hm hq
    obtain ⟨hR, g', c1, c2, c3⟩ := id hC
    unfold cpy at hq
    refine pw_iload_n rfl dX9_copy_2 ?_
    refine pw_iload_n rfl dX9_copy_3 ?_
    refine pw_icmp_ge 37 dX9_copy_4 (by decide) (fun q => absurd q (nI_ge (by omega) (by omega))) (fun _ => ?_)
    refine pw_aload_n rfl dX9_copy_7 ?_
    refine pw_gC dX9_copy_8 fX9_12 (by first | rfl | assumption) rfl (by first | rfl | assumption) ?_
    refine pc_V0 dX9_copy_11 lX9_92 rfl rfl (by decide) (Nat.le_of_ble_eq_true rfl) ?_
    refine c_isFine hR hk.1.1 ?_
    by_cases h0 : b.1.1 = 0
    · rw [if_pos h0] at hq
      rw [if_pos h0]
      obtain ⟨e1, e2⟩ := c3 h0
      have hm2 := hm h0
      refine pw_if_eq 37 dX9_copy_14 (by decide) (fun q => absurd q (by decide)) (fun _ => ?_)
      refine pw_aload_n rfl dX9_copy_17 ?_
      refine pw_gC dX9_copy_18 fX9_47 (by first | rfl | assumption) rfl (by first | rfl | assumption) ?_
      refine pw_aload_n rfl dX9_copy_21 ?_
      refine pw_gC dX9_copy_22 fX9_12 (by first | rfl | assumption) rfl (by first | rfl | assumption) ?_
      refine pc_V0 dX9_copy_25 lX9_78 rfl rfl (by decide) (Nat.le_of_ble_eq_true rfl) ?_
      refine c_next (OX_B hO hfr) ho hB hR hk.1 ?_
      intro F1 hf1 hR1
      refine pc_V1 dX9_copy_28 lX9_120 rfl rfl (by decide) (Nat.le_of_ble_eq_true rfl) ?_
      refine c_mpush (nxV_lt hB) (g := g') (by rw [hf1 _ _ (by omega)]; exact c1) c2 ?_
      intro F2 A2 g2 hf2 h35 d1 d2 d3
      have hR2 : RD F2 (nxS o b.1) := ⟨by rw [h35]; exact hR1.1, fun h => by rw [h35]; exact hR1.2.1 h, fun h => by rw [h35]; exact hR1.2.2 h⟩
      have hfr2 : frB F F2 A A2 := frB_t (frB_t hfr (frB_R hf1)) hf2
      refine ps_iinc (l' := [_, _, _]) 1 dX9_copy_31 (by decide) rfl (by decide) rfl rfl ?_
      refine pw_goto 2 dX9_copy_34 (by decide) ?_
      rw [nI_1]
      by_cases h1 : (nxS o b.1).1 = 0
      · rw [if_pos h1] at hq
        have hg3 : g' < 300 := by omega
        refine ih (i + 1) _ F2 A2 (by omega) hfr2 (CB_pu (g := b.2.1) (f := b.2.2) (A := A') hR2 d1 d2 (fun _ => by rw [← e1]; exact d3 hg3) (fun _ => e2)) ⟨nxS_rok hk.1, fun _ => ⟨by show b.2.1 + 1 ≤ n; omega, pu_B (hk.2 h0).2 (nxV_lt hB)⟩⟩ (fun _ => by show b.2.1 + 1 + m ≤ n; omega) hq
      · rw [if_neg h1] at hq
        refine ih (i + 1) (nxS o b.1, b.2) F2 A2 (by omega) hfr2 (CB_f hR2 h1 d1 d2) ⟨nxS_rok hk.1, fun h9 => absurd h9 h1⟩ (fun h9 => absurd h9 h1) ?_
        rw [cpy_f (b := (nxS o b.1, b.2)) h1]
        exact hq
    · rw [if_neg h0] at hq
      rw [if_neg h0]
      refine pw_if_eq 37 dX9_copy_14 (by decide) (fun _ => ?_) (fun q => absurd (rfl) q)
      refine pw_vret dX9_copy_37 rfl ?_
      exact hq F' A' hfr hC
theorem c_rcopy {m : Nat} (hO : OX F A o O) (ho : o ≤ 1024) (hB : isB O o) (hn : n ≤ 300) (hC : CB F A b) (hk : bk o n b) (hm : b.1.1 = 0 → b.2.1 + m ≤ n) (hm2 : m < 2000) (hQ : ∀ F' A', frB F F' A A' → CB F' A' (cpy O o m b) → Q none (HS F' A' 3 lo X)) : PM Γ mX9_copy [.ref 34, .int (nI m)] (HS F A 3 lo X) 0 0 Q := by
  refine PM.go (l := [_, _, .float 0]) rfl rfl (Nat.le_of_ble_eq_true rfl) rfl ?_
  refine pw_iconst 0 (by decide) dX9_copy_0 ?_
  refine ps_istore_n (l' := [_, _, _]) dX9_copy_1 (by decide) rfl rfl ?_
  exact cc_loop hO ho hB hn hm2 m 0 b F A (by omega) frB_r hC hk hm hQ
theorem cr_loop {v M : Nat} (hv : v < 256) (hn : n ≤ 300) (hM : M < 2000) : ∀ (m i : Nat) (b : BT) (F' A' : Nat → Nat → Int32), i + m = M → frB F F' A A' → CB F' A' b → bk o n b → (b.1.1 = 0 → b.2.1 + m ≤ n) →
    (∀ F' A', frB F F' A A' → CB F' A' (rpt v m b) → Q none (HS F' A' 3 lo X)) →
    PW Γ mX9_repeat 10 [.ref 34, .int (nI M), .int (nI v), .int (nI i)] [] (HS F' A' 3 lo X) 0 0 Q := by
  intro m
  induction m with
  | zero =>
    intro i b F' A' hi hfr hC hk hm hq
    have hi2 : i = M := by omega
    subst hi2
    refine pw_iload_n rfl dX9_repeat_10 ?_
    refine pw_iload_n rfl dX9_repeat_11 ?_
    refine pw_icmp_ge 39 dX9_repeat_12 (by decide) (fun _ => ?_) (fun q => absurd (nI_le (Nat.le_refl _) (by omega)) q)
    refine pw_vret dX9_repeat_39 rfl ?_
    exact hq F' A' hfr hC
  | succ m ih =>
    intro i b F' A' hi hfr hC hk hm hq
    obtain ⟨hR, g', c1, c2, c3⟩ := id hC
    unfold rpt at hq
    refine pw_iload_n rfl dX9_repeat_10 ?_
    refine pw_iload_n rfl dX9_repeat_11 ?_
    refine pw_icmp_ge 39 dX9_repeat_12 (by decide) (fun q => absurd q (nI_ge (by omega) (by omega))) (fun _ => ?_)
    refine pw_aload_n rfl dX9_repeat_15 ?_
    refine pw_gC dX9_repeat_16 fX9_12 (by first | rfl | assumption) rfl (by first | rfl | assumption) ?_
    refine pc_V0 dX9_repeat_19 lX9_92 rfl rfl (by decide) (Nat.le_of_ble_eq_true rfl) ?_
    refine c_isFine hR hk.1.1 ?_
    by_cases h0 : b.1.1 = 0
    · rw [if_pos h0] at hq
      rw [if_pos h0]
      obtain ⟨e1, e2⟩ := c3 h0
      have hm2 := hm h0
      refine pw_if_eq 39 dX9_repeat_22 (by decide) (fun q => absurd q (by decide)) (fun _ => ?_)
      refine pw_aload_n rfl dX9_repeat_25 ?_
      refine pw_gC dX9_repeat_26 fX9_47 (by first | rfl | assumption) rfl (by first | rfl | assumption) ?_
      refine pw_iload_n rfl dX9_repeat_29 ?_
      refine pc_V1 dX9_repeat_30 lX9_120 rfl rfl (by decide) (Nat.le_of_ble_eq_true rfl) ?_
      refine c_mpush hv c1 c2 ?_
      intro F2 A2 g2 hf2 h35 d1 d2 d3
      have hR2 : RD F2 b.1 := ⟨by rw [h35]; exact hR.1, fun h => by rw [h35]; exact hR.2.1 h, fun h => by rw [h35]; exact hR.2.2 h⟩
      refine ps_iinc (l' := [_, _, _, _]) 1 dX9_repeat_33 (by decide) rfl (by decide) rfl rfl ?_
      refine pw_goto 10 dX9_repeat_36 (by decide) ?_
      rw [nI_1]
      exact ih (i + 1) _ F2 A2 (by omega) (frB_t hfr hf2) (CB_pu (g := b.2.1) (f := b.2.2) (A := A') hR2 d1 d2 (fun _ => by rw [← e1]; exact d3 (by omega)) (fun _ => e2)) ⟨hk.1, fun _ => ⟨by show b.2.1 + 1 ≤ n; omega, pu_B (hk.2 h0).2 hv⟩⟩ (fun _ => by show b.2.1 + 1 + m ≤ n; omega) hq
    · rw [if_neg h0] at hq
      rw [if_neg h0]
      refine pw_if_eq 39 dX9_repeat_22 (by decide) (fun _ => ?_) (fun q => absurd (rfl) q)
      refine pw_vret dX9_repeat_39 rfl ?_
      exact hq F' A' hfr hC
theorem c_repeat {m : Nat} (hO : OX F A o O) (ho : o ≤ 1024) (hB : isB O o) (hn : n ≤ 300) (hC : CB F A b) (hk : bk o n b) (hm : b.1.1 = 0 → b.2.1 + m ≤ n) (hm2 : m < 2000) (hQ : ∀ F' A', frB F F' A A' → CB F' A' (rpt (nxV O o b.1) m (nxS o b.1, b.2)) → Q none (HS F' A' 3 lo X)) : PM Γ mX9_repeat [.ref 34, .int (nI m)] (HS F A 3 lo X) 0 0 Q := by
  obtain ⟨hR, g', c1, c2, c3⟩ := id hC
  refine PM.go (l := [_, _, .float 0, .float 0]) rfl rfl (Nat.le_of_ble_eq_true rfl) rfl ?_
  refine pw_aload_n rfl dX9_repeat_0 ?_
  refine pw_gC dX9_repeat_1 fX9_12 (by first | rfl | assumption) rfl (by first | rfl | assumption) ?_
  refine pc_V0 dX9_repeat_4 lX9_78 rfl rfl (by decide) (Nat.le_of_ble_eq_true rfl) ?_
  refine c_next hO ho hB hR hk.1 ?_
  intro F1 hf1 hR1
  refine ps_istore_n (l' := [_, _, _, _]) dX9_repeat_7 (by decide) rfl rfl ?_
  refine pw_iconst 0 (by decide) dX9_repeat_8 ?_
  refine ps_istore_n (l' := [_, _, _, _]) dX9_repeat_9 (by decide) rfl rfl ?_
  exact cr_loop (nxV_lt hB) hn hm2 m 0 (nxS o b.1, b.2) F1 A (by omega) (frB_R hf1) ⟨hR1, g', by rw [hf1 _ _ (by omega)]; exact c1, c2, fun h => c3 (nxS_0 h).1⟩ ⟨nxS_rok hk.1, fun h => hk.2 (nxS_0 h).1⟩ (fun h => hm (nxS_0 h).1) hQ
theorem cb_loop {d M : Nat} (hd : d < 256) (hn : n ≤ 300) (hM : M < 2000) : ∀ (m i : Nat) (b : BT) (F' A' : Nat → Nat → Int32), i + m = M → frB F F' A A' → CB F' A' b → bk o n b → (b.1.1 = 0 → b.2.1 + m ≤ n ∧ 0 < d ∧ d ≤ b.2.1) →
    (∀ F' A', frB F F' A A' → CB F' A' (cbk d m b) → Q none (HS F' A' 3 lo X)) →
    PW Γ mX9_copyBack 33 [.ref 34, .int (nI M), .int (nI d), .int (nI i)] [] (HS F' A' 3 lo X) 0 0 Q := by
  intro m
  induction m with
  | zero =>
    intro i b F' A' hi hfr hC hk hm hq
    have hi2 : i = M := by omega
    subst hi2
    refine pw_iload_n rfl dX9_copyBack_33 ?_
    refine pw_iload_n rfl dX9_copyBack_34 ?_
    refine pw_icmp_ge 77 dX9_copyBack_35 (by decide) (fun _ => ?_) (fun q => absurd (nI_le (Nat.le_refl _) (by omega)) q)
    refine pw_vret dX9_copyBack_77 rfl ?_
    exact hq F' A' hfr hC
  | succ m ih =>
    intro i b F' A' hi hfr hC hk hm hq
    obtain ⟨hR, g', c1, c2, c3⟩ := id hC
    unfold cbk at hq
    refine pw_iload_n rfl dX9_copyBack_33 ?_
    refine pw_iload_n rfl dX9_copyBack_34 ?_
    refine pw_icmp_ge 77 dX9_copyBack_35 (by decide) (fun q => absurd q (nI_ge (by omega) (by omega))) (fun _ => ?_)
    refine pw_aload_n rfl dX9_copyBack_38 ?_
    refine pw_gC dX9_copyBack_39 fX9_12 (by first | rfl | assumption) rfl (by first | rfl | assumption) ?_
    refine pc_V0 dX9_copyBack_42 lX9_92 rfl rfl (by decide) (Nat.le_of_ble_eq_true rfl) ?_
    refine c_isFine hR hk.1.1 ?_
    by_cases h0 : b.1.1 = 0
    · rw [if_pos h0] at hq
      rw [if_pos h0]
      obtain ⟨e1, e2⟩ := c3 h0
      obtain ⟨m1, m2, m3⟩ := hm h0
      obtain ⟨v, hv, ev⟩ := (hk.2 h0).2 (b.2.1 - d) (by omega)
      rw [ev] at hq
      refine pw_if_eq 77 dX9_copyBack_45 (by decide) (fun q => absurd q (by decide)) (fun _ => ?_)
      refine pw_aload_n rfl dX9_copyBack_48 ?_
      refine pw_gC dX9_copyBack_49 fX9_47 (by first | rfl | assumption) rfl (by first | rfl | assumption) ?_
      refine pw_aload_n rfl dX9_copyBack_52 ?_
      refine pw_gC dX9_copyBack_53 fX9_47 (by first | rfl | assumption) rfl (by first | rfl | assumption) ?_
      refine pw_aload_n rfl dX9_copyBack_56 ?_
      refine pw_gC dX9_copyBack_57 fX9_47 (by first | rfl | assumption) rfl (by first | rfl | assumption) ?_
      refine pc_V0 dX9_copyBack_60 lX9_123 rfl rfl (by decide) (Nat.le_of_ble_eq_true rfl) ?_
      refine c_count row49 ?_
      rw [c1]
      refine pw_iload_n rfl dX9_copyBack_63 ?_
      refine pw_isub dX9_copyBack_64 ?_
      rw [pk_sub (by omega)]
      refine pc_V1 dX9_copyBack_65 lX9_131 rfl rfl (by decide) (Nat.le_of_ble_eq_true rfl) ?_
      refine c_get row49 c1 c2 rfl (show g' - d < g' by omega) ?_
      rw [e1, e2 _ (by omega), ev]
      refine pc_V1 dX9_copyBack_68 lX9_120 rfl rfl (by decide) (Nat.le_of_ble_eq_true rfl) ?_
      refine c_mpush hv c1 c2 ?_
      intro F2 A2 g2 hf2 h35 d1 d2 d3
      have hR2 : RD F2 b.1 := ⟨by rw [h35]; exact hR.1, fun h => by rw [h35]; exact hR.2.1 h, fun h => by rw [h35]; exact hR.2.2 h⟩
      refine ps_iinc (l' := [_, _, _, _]) 1 dX9_copyBack_71 (by decide) rfl (by decide) rfl rfl ?_
      refine pw_goto 33 dX9_copyBack_74 (by decide) ?_
      rw [nI_1]
      exact ih (i + 1) _ F2 A2 (by omega) (frB_t hfr hf2) (CB_pu (g := b.2.1) (f := b.2.2) (A := A') hR2 d1 d2 (fun _ => by rw [← e1]; exact d3 (by omega)) (fun _ => e2)) ⟨hk.1, fun _ => ⟨by show b.2.1 + 1 ≤ n; omega, pu_B (hk.2 h0).2 hv⟩⟩ (fun _ => ⟨by show b.2.1 + 1 + m ≤ n; omega, m2, by show d ≤ b.2.1 + 1; omega⟩) hq
    · rw [if_neg h0] at hq
      rw [if_neg h0]
      refine pw_if_eq 77 dX9_copyBack_45 (by decide) (fun _ => ?_) (fun q => absurd (rfl) q)
      refine pw_vret dX9_copyBack_77 rfl ?_
      exact hq F' A' hfr hC
theorem c_copyBack {m : Nat} (hO : OX F A o O) (ho : o ≤ 1024) (hB : isB O o) (hn : n ≤ 300) (hC : CB F A b) (hk : bk o n b) (hm : b.1.1 = 0 → b.2.1 + m ≤ n) (hm2 : m < 2000) (hQ : ∀ F' A', frB F F' A A' → CB F' A' (cbk (nxV O o b.1) m ((if 0 < nxV O o b.1 ∧ nxV O o b.1 ≤ b.2.1 then nxS o b.1 else blm 4 (nxS o b.1)), b.2)) → Q none (HS F' A' 3 lo X)) : PM Γ mX9_copyBack [.ref 34, .int (nI m)] (HS F A 3 lo X) 0 0 Q := by
  obtain ⟨hR, g', c1, c2, c3⟩ := id hC
  have hv := nxV_lt hB (o := o) (r := b.1)
  refine PM.go (l := [_, _, .float 0, .float 0]) rfl rfl (Nat.le_of_ble_eq_true rfl) rfl ?_
  refine pw_aload_n rfl dX9_copyBack_0 ?_
  refine pw_gC dX9_copyBack_1 fX9_12 (by first | rfl | assumption) rfl (by first | rfl | assumption) ?_
  refine pc_V0 dX9_copyBack_4 lX9_78 rfl rfl (by decide) (Nat.le_of_ble_eq_true rfl) ?_
  refine c_next hO ho hB hR hk.1 ?_
  intro F1 hf1 hR1
  have hkn := nxS_rok hk.1
  have c11 : F1 49 1 = nI g' := by rw [hf1 _ _ (by omega)]; exact c1
  -- the loop
  have go : ∀ (F2 : Nat → Nat → Int32) (r : RT) (x : Value), frR F F2 → RD F2 r → rok o r → (r.1 = 0 → (nxS o b.1).1 = 0 ∧ 0 < nxV O o b.1 ∧ nxV O o b.1 ≤ b.2.1) → (∀ F' A', frB F F' A A' → CB F' A' (cbk (nxV O o b.1) m (r, b.2)) → Q none (HS F' A' 3 lo X)) →
      PW Γ mX9_copyBack 31 [.ref 34, .int (nI m), .int (nI (nxV O o b.1)), .float 0] [] (HS F2 A 3 lo X) 0 0 Q := by
    intro F2 r x hf2 hR2 hk2 hok hq
    refine pw_iconst 0 (by decide) dX9_copyBack_31 ?_
    refine ps_istore_n (l' := [_, _, _, _]) dX9_copyBack_32 (by decide) rfl rfl ?_
    exact cb_loop hv hn hm2 m 0 (r, b.2) F2 A (by omega) (frB_R hf2) ⟨hR2, g', by rw [hf2 _ _ (by omega)]; exact c1, c2, fun h => c3 (nxS_0 (hok h).1).1⟩ ⟨hk2, fun h => hk.2 (nxS_0 (hok h).1).1⟩ (fun h => ⟨hm (nxS_0 (hok h).1).1, (hok h).2⟩) hq
  have bad : ¬ (0 < nxV O o b.1 ∧ nxV O o b.1 ≤ b.2.1) ∨ ¬ (nxS o b.1).1 = 0 → PW Γ mX9_copyBack 23 [.ref 34, .int (nI m), .int (nI (nxV O o b.1)), .float 0] [] (HS F1 A 3 lo X) 0 0 Q := by
    intro hbad
    refine pw_aload_n rfl dX9_copyBack_23 ?_
    refine pw_gC dX9_copyBack_24 fX9_12 (by first | rfl | assumption) rfl (by first | rfl | assumption) ?_
    refine pw_iconst 4 (by decide) dX9_copyBack_27 ?_
    refine pc_V1 dX9_copyBack_28 lX9_81 rfl rfl (by decide) (Nat.le_of_ble_eq_true rfl) ?_
    refine c_blame (w := 4) hR1 hkn.1 (by omega) (fun h => by rw [(nxS_0 h).2.2]; show 1 ≤ b.1.2.2 + 1; omega) ?_
    intro F2 hf2 hR2
    refine go F2 (blm 4 (nxS o b.1)) (.float 0) (frR_t hf1 hf2) hR2 (blm_rok hkn (by omega)) (fun h => absurd h (blm_0 (by omega))) ?_
    rcases hbad with h | h
    · rw [if_neg h] at hQ
      exact hQ
    · rw [blm_f h]
      rw [blm_f h] at hQ
      have e : (if 0 < nxV O o b.1 ∧ nxV O o b.1 ≤ b.2.1 then nxS o b.1 else nxS o b.1) = nxS o b.1 := by split <;> rfl
      rw [e] at hQ
      exact hQ
  refine ps_istore_n (l' := [_, _, _, _]) dX9_copyBack_7 (by decide) rfl rfl ?_
  refine pw_iload_n rfl dX9_copyBack_8 ?_
  by_cases h0 : nxV O o b.1 = 0
  · refine pw_if_eq 23 dX9_copyBack_9 (by decide) (fun _ => ?_) (fun q => absurd (by rw [h0]; rfl) q)
    exact bad (Or.inl (by omega))
  · refine pw_if_eq 23 dX9_copyBack_9 (by decide) (fun q => absurd q (nI_ne0 (by omega) (by omega))) (fun _ => ?_)
    refine pw_iload_n rfl dX9_copyBack_12 ?_
    refine pw_aload_n rfl dX9_copyBack_13 ?_
    refine pw_gC dX9_copyBack_14 fX9_47 (by first | rfl | assumption) rfl (by first | rfl | assumption) ?_
    refine pc_V0 dX9_copyBack_17 lX9_123 rfl rfl (by decide) (Nat.le_of_ble_eq_true rfl) ?_
    refine c_count row49 ?_
    rw [c11]
    by_cases hle : nxV O o b.1 ≤ g'
    · refine pw_icmp_le 31 dX9_copyBack_20 (by decide) (fun _ => ?_) (fun q => absurd (nI_le hle (by omega)) q)
      by_cases hfine : (nxS o b.1).1 = 0
      · have hb0 := (nxS_0 hfine).1
        have he := (c3 hb0).1
        have hcond : 0 < nxV O o b.1 ∧ nxV O o b.1 ≤ b.2.1 := ⟨by omega, by omega⟩
        rw [if_pos hcond] at hQ
        exact go F1 (nxS o b.1) (.float 0) hf1 hR1 hkn (fun h => ⟨h, hcond⟩) hQ
      · have e : (if 0 < nxV O o b.1 ∧ nxV O o b.1 ≤ b.2.1 then nxS o b.1 else blm 4 (nxS o b.1)) = nxS o b.1 := by
          rw [blm_f hfine]
          split <;> rfl
        rw [e] at hQ
        exact go F1 (nxS o b.1) (.float 0) hf1 hR1 hkn (fun h => absurd h hfine) hQ
    · refine pw_icmp_le 31 dX9_copyBack_20 (by decide) (fun q => absurd q (nI_ge (by omega) (by omega))) (fun _ => ?_)
      refine bad ?_
      by_cases hfine : (nxS o b.1).1 = 0
      · have he := (c3 (nxS_0 hfine).1).1
        exact Or.inl (by omega)
      · exact Or.inr hfine
end
