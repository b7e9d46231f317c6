/-! BITS read again: pure; the object's readRising, readBits -/
theorem lt_m1 {l v : Nat} (hl : l < 2 ^ 30) (hv : v < 2 ^ 30) : nI l - 1 < nI v ↔ l ≤ v := by
  rw [Int32.lt_iff_toInt_lt, show (1 : Int32) = nI 1 from rfl, pk_sub_toInt hl (by omega), nI_toInt (by omega)]
  omega
def rs1 (O : Nat → Int32) (o : Nat) (r : RT) (l : Nat) : RT := if l ≤ nxV O o r then nxS o r else blm 4 (nxS o r)
theorem rs1_ok {O : Nat → Int32} {o l : Nat} {r : RT} (h : rok o r) : rok o (rs1 O o r l) ∧ ((rs1 O o r l).1 = 0 → r.1 = 0 ∧ l ≤ nxV O o r ∧ rs1 O o r l = nxS o r ∧ 1 ≤ (rs1 O o r l).2.2) := by
  unfold rs1
  by_cases h1 : l ≤ nxV O o r
  · rw [if_pos h1]
    refine ⟨nxS_rok h, fun h2 => ?_⟩
    obtain ⟨z1, z2, z3⟩ := nxS_0 h2
    exact ⟨z1, h1, rfl, by rw [z3]; show 1 ≤ r.2.2 + 1; omega⟩
  · rw [if_neg h1]
    exact ⟨blm_rok (nxS_rok h) (by omega), fun h2 => absurd h2 (blm_0 (by omega))⟩
def rsg (O : Nat → Int32) (o : Nat) : Nat → RT → Nat → Nat → (Nat → Int32) → RT × (Nat → Int32)
  | 0, r, _, _, f => (r, f)
  | m + 1, r, l, i, f => if r.1 = 0 then rsg O o m (rs1 O o r l) (nxV O o r + 1) (i + 1) (upd f i (nI (nxV O o r))) else (r, f)
theorem rsg_ok {O : Nat → Int32} {o : Nat} (hB : isB O o) : ∀ (m : Nat) (r : RT) (l i : Nat) (f : Nat → Int32), rok o r → (r.1 = 0 → isB f i ∧ 1 ≤ r.2.2) → rok o (rsg O o m r l i f).1 ∧ ((rsg O o m r l i f).1.1 = 0 → r.1 = 0 ∧ isB (rsg O o m r l i f).2 (i + m) ∧ 1 ≤ (rsg O o m r l i f).1.2.2)
  | 0, r, l, i, f => fun h h1 => ⟨h, fun h2 => ⟨h2, (h1 h2).1, (h1 h2).2⟩⟩
  | m + 1, r, l, i, f => fun h h1 => by
    unfold rsg
    by_cases h0 : r.1 = 0
    · rw [if_pos h0]
      have hs := rs1_ok (O := O) (l := l) h
      have ih := rsg_ok hB m (rs1 O o r l) (nxV O o r + 1) (i + 1) (upd f i (nI (nxV O o r))) hs.1 (fun h2 => ⟨pu_B (h1 h0).1 (nxV_lt hB), (hs.2 h2).2.2.2⟩)
      refine ⟨ih.1, fun h2 => ⟨h0, ?_, (ih.2 h2).2.2⟩⟩
      have := (ih.2 h2).2.1
      rw [show i + (m + 1) = i + 1 + m by omega]
      exact this
    · rw [if_neg h0]
      exact ⟨h, fun h2 => absurd h2 h0⟩
def rdb (O : Nat → Int32) (o : Nat) : Nat → UT → Nat → UT × Nat
  | 0, s, v => (s, v)
  | m + 1, s, v => if s.1.1 = 0 then rdb O o m (btS o s) (2 * v + btV O o s) else (s, v)
theorem rdb_f {O : Nat → Int32} {o m v : Nat} {s : UT} (h : ¬ s.1.1 = 0) : rdb O o m s v = (s, v) := by
  cases m with
  | zero => rfl
  | succ m => unfold rdb; rw [if_neg h]
theorem rdb_ok {O : Nat → Int32} {o : Nat} : ∀ (m : Nat) (s : UT) (v : Nat), uok o s → uok o (rdb O o m s v).1 ∧ ((rdb O o m s v).1.1.1 = 0 → s.1.1 = 0)
  | 0, s, v => fun h => ⟨h, fun h2 => h2⟩
  | m + 1, s, v => fun h => by
    unfold rdb
    by_cases h0 : s.1.1 = 0
    · rw [if_pos h0]
      have ih := rdb_ok (O := O) m (btS o s) (2 * v + btV O o s) (btS_ok h)
      exact ⟨ih.1, fun _ => h0⟩
    · rw [if_neg h0]
      exact ⟨h, fun h2 => absurd h2 h0⟩
/-- reading, one byte after the other, by a rule g -/
abbrev YT : Type := BT × Nat
def rbE (k : Nat) (f : Nat → Int32) (y : YT) (t : UT × Nat) : YT := if t.1.1.1 = 0 then (if t.2 < k then (pu (f t.2) (t.1.1, y.1.2), t.1.2) else ((blm 4 t.1.1, y.1.2), t.1.2)) else ((t.1.1, y.1.2), t.1.2)
def rbs (g : UT → UT × Nat) (k : Nat) (f : Nat → Int32) : Nat → YT → YT
  | 0, y => y
  | m + 1, y => if y.1.1.1 = 0 then rbs g k f m (rbE k f y (g (y.1.1, y.2))) else y
theorem rbs_f {g : UT → UT × Nat} {k m : Nat} {f : Nat → Int32} {y : YT} (h : ¬ y.1.1.1 = 0) : rbs g k f m y = y := by
  cases m with
  | zero => rfl
  | succ m => unfold rbs; rw [if_neg h]
def yok (o n : Nat) (y : YT) : Prop := bk o n y.1 ∧ y.2 < 8 ∧ (y.1.1.1 = 0 → 1 ≤ y.1.1.2.2)
def gok (o : Nat) (g : UT → UT × Nat) : Prop := ∀ s, uok o s → uok o (g s).1 ∧ ((g s).1.1.1 = 0 → s.1.1 = 0)
theorem yok_u {o n : Nat} {y : YT} (h : yok o n y) : uok o (y.1.1, y.2) := ⟨h.1.1, h.2.1, h.2.2⟩
theorem rbE_ok {o n k : Nat} {f : Nat → Int32} {y : YT} {t : UT × Nat} (hf : isB f k) (h : yok o n y) (ht : uok o t.1) (ht0 : t.1.1.1 = 0 → y.1.1.1 = 0) (hn : y.1.1.1 = 0 → y.1.2.1 < n) : yok o n (rbE k f y t) ∧ ((rbE k f y t).1.1.1 = 0 → y.1.1.1 = 0 ∧ (rbE k f y t).1.2.1 = y.1.2.1 + 1) := by
  unfold rbE
  by_cases h0 : t.1.1.1 = 0
  · rw [if_pos h0]
    have hy := ht0 h0
    have hb := h.1.2 hy
    have hn2 := hn hy
    by_cases h1 : t.2 < k
    · rw [if_pos h1]
      obtain ⟨v, hv, ev⟩ := hf _ h1
      refine ⟨⟨⟨ht.1, fun _ => ⟨by show y.1.2.1 + 1 ≤ n; omega, ?_⟩⟩, ht.2.1, fun _ => ht.2.2 h0⟩, fun _ => ⟨hy, rfl⟩⟩
      rw [ev]
      exact pu_B hb.2 hv
    · rw [if_neg h1]
      have hbl : ¬ (blm 4 t.1.1).1 = 0 := blm_0 (by omega)
      exact ⟨⟨⟨blm_rok ht.1 (by omega), fun h2 => absurd h2 hbl⟩, ht.2.1, fun h2 => absurd h2 hbl⟩, fun h2 => absurd h2 hbl⟩
  · rw [if_neg h0]
    exact ⟨⟨⟨ht.1, fun h2 => absurd h2 h0⟩, ht.2.1, fun h2 => absurd h2 h0⟩, fun h2 => absurd h2 h0⟩
theorem rbs_ok {o n k : Nat} {g : UT → UT × Nat} {f : Nat → Int32} (hg : gok o g) (hf : isB f k) : ∀ (m : Nat) (y : YT), yok o n y → (y.1.1.1 = 0 → y.1.2.1 + m ≤ n) → yok o n (rbs g k f m y) ∧ ((rbs g k f m y).1.1.1 = 0 → y.1.1.1 = 0 ∧ (rbs g k f m y).1.2.1 = y.1.2.1 + m)
  | 0, y => fun h _ => ⟨h, fun h2 => ⟨h2, rfl⟩⟩
  | m + 1, y => fun h hm => by
    unfold rbs
    by_cases h0 : y.1.1.1 = 0
    · rw [if_pos h0]
      have hm2 := hm h0
      have hg2 := hg _ (yok_u h)
      have he := rbE_ok hf h hg2.1 hg2.2 (fun _ => by omega)
      have ih := rbs_ok hg hf m _ he.1 (fun h2 => by have := (he.2 h2).2; omega)
      refine ⟨ih.1, fun h2 => ⟨h0, ?_⟩⟩
      have i2 := ih.2 h2
      have := (he.2 i2.1).2
      omega
    · rw [if_neg h0]
      exact ⟨h, fun h2 => absurd h2 h0⟩
def rBits (O : Nat → Int32) (o n : Nat) (b : BT) : YT := rbs (fun s => rdb O o (wid (nxV O o b.1)) s 0) (nxV O o b.1 + 1) (rsg O o (nxV O o b.1 + 1) (nxS o b.1) 0 0 (fun _ => 0)).2 n (((rsg O o (nxV O o b.1 + 1) (nxS o b.1) 0 0 (fun _ => 0)).1, b.2), 0)
def rEnd (O : Nat → Int32) (y : YT) : BT := (ebR O (y.1.1, y.2), y.1.2)
theorem rEnd_ok {O : Nat → Int32} {o n : Nat} {y : YT} (h : yok o n y) : bk o n (rEnd O y) ∧ ((rEnd O y).1.1 = 0 → y.1.1.1 = 0 ∧ (rEnd O y).2.1 = y.1.2.1) := ⟨⟨ebR_ok h.1.1, fun h2 => h.1.2 (ebR_0 h2).1⟩, fun h2 => ⟨(ebR_0 h2).1, rfl⟩⟩
theorem gok_rdb {O : Nat → Int32} {o w : Nat} : gok o (fun s => rdb O o w s 0) := fun s h => rdb_ok w s 0 h
theorem rsg0_ok {O : Nat → Int32} {o n : Nat} (hB : isB O o) {b : BT} (h : bk o n b) : yok o n ((((rsg O o (nxV O o b.1 + 1) (nxS o b.1) 0 0 (fun _ => 0)).1, b.2), 0) : YT) ∧ ((rsg O o (nxV O o b.1 + 1) (nxS o b.1) 0 0 (fun _ => 0)).1.1 = 0 → b.1.1 = 0 ∧ isB (rsg O o (nxV O o b.1 + 1) (nxS o b.1) 0 0 (fun _ => 0)).2 (nxV O o b.1 + 1)) := by
  have h1 := rsg_ok hB (nxV O o b.1 + 1) (nxS o b.1) 0 0 (fun _ => 0) (nxS_rok h.1) (fun h2 => ⟨fun j hj => by omega, by rw [(nxS_0 h2).2.2]; show 1 ≤ b.1.2.2 + 1; omega⟩)
  refine ⟨⟨⟨h1.1, fun h2 => h.2 (nxS_0 (h1.2 h2).1).1⟩, by show 0 < 8; omega, fun h2 => (h1.2 h2).2.2⟩, fun h2 => ⟨(nxS_0 (h1.2 h2).1).1, ?_⟩⟩
  have := (h1.2 h2).2.1
  rw [Nat.zero_add] at this
  exact this
theorem rBits_ok {O : Nat → Int32} {o n : Nat} (hB : isB O o) {b : BT} (h : bk o n b) (h0 : b.1.1 = 0 → b.2.1 = 0) : yok o n (rBits O o n b) ∧ ((rBits O o n b).1.1.1 = 0 → b.1.1 = 0 ∧ (rBits O o n b).1.2.1 = n) := by
  have h1 := rsg0_ok hB h
  unfold rBits
  by_cases hf : (rsg O o (nxV O o b.1 + 1) (nxS o b.1) 0 0 (fun _ => 0)).1.1 = 0
  · have h2 := h1.2 hf
    have h3 := rbs_ok (gok_rdb (O := O) (w := wid (nxV O o b.1))) h2.2 n _ h1.1 (fun _ => by show b.2.1 + n ≤ n; rw [h0 h2.1]; omega)
    refine ⟨h3.1, fun h4 => ⟨h2.1, ?_⟩⟩
    rw [(h3.2 h4).2]
    show b.2.1 + n = n
    rw [h0 h2.1]
    omega
  · rw [rbs_f (y := (((rsg O o (nxV O o b.1 + 1) (nxS o b.1) 0 0 (fun _ => 0)).1, b.2), 0)) hf]
    exact ⟨h1.1, fun h2 => absurd h2 hf⟩
/-- the object's side -/
def frX (F F' A A' : Nat → Nat → Int32) : Prop := (∀ i j, ¬ i = 35 → ¬ (i = 49 ∧ j = 1) → F' i j = F i j) ∧ (∀ i, ¬ i = 50 → A' i = A i)
theorem frX_r {F A : Nat → Nat → Int32} : frX F F A A := ⟨fun _ _ _ _ => rfl, fun _ _ => rfl⟩
theorem frX_t {F F1 F2 A A1 A2 : Nat → Nat → Int32} (h1 : frX F F1 A A1) (h2 : frX F1 F2 A1 A2) : frX F F2 A A2 := ⟨fun i j k1 k2 => by rw [h2.1 i j k1 k2]; exact h1.1 i j k1 k2, fun i k1 => by rw [h2.2 i k1]; exact h1.2 i k1⟩
theorem frX_B {F F1 A A1 : Nat → Nat → Int32} (h : frB F F1 A A1) : frX F F1 A A1 := ⟨fun i j k1 k2 => h.1 i j (by omega) k2, h.2⟩
theorem frX_S {F F1 A : Nat → Nat → Int32} (h : frS F F1) : frX F F1 A A := ⟨fun i j k1 _ => h i j k1, fun _ _ => rfl⟩
def frU (F F' A A' : Nat → Nat → Int32) : Prop := (∀ i j, ¬ i = 35 → ¬ (i = 49 ∧ j = 1) → ¬ (i = 41 ∧ j = 5) → F' i j = F i j) ∧ (∀ i, ¬ i = 50 → ¬ i = 40 → ¬ (42 ≤ i ∧ i ≤ 46) → A' i = A i)
theorem frU_r {F A : Nat → Nat → Int32} : frU F F A A := ⟨fun _ _ _ _ _ => rfl, fun _ _ _ _ => rfl⟩
theorem frU_t {F F1 F2 A A1 A2 : Nat → Nat → Int32} (h1 : frU F F1 A A1) (h2 : frU F1 F2 A1 A2) : frU F F2 A A2 := ⟨fun i j k1 k2 k3 => by rw [h2.1 i j k1 k2 k3]; exact h1.1 i j k1 k2 k3, fun i k1 k2 k3 => by rw [h2.2 i k1 k2 k3]; exact h1.2 i k1 k2 k3⟩
theorem frU_X {F F1 A A1 : Nat → Nat → Int32} (h : frX F F1 A A1) : frU F F1 A A1 := ⟨fun i j k1 k2 _ => h.1 i j k1 k2, fun i k1 _ _ => h.2 i k1⟩
theorem frU_B {F F1 A A1 : Nat → Nat → Int32} (h : frB F F1 A A1) : frU F F1 A A1 := frU_X (frX_B h)
def CY (O : Nat → Int32) (F A : Nat → Nat → Int32) (y : YT) : Prop := CB F A y.1 ∧ CU O F (y.1.1, y.2)
section
variable {Γ : Nat × (Nat → Int32)} {F A : Nat → Nat → Int32} {lo : Int64} {X : PH} {Q : Option Value → PH → Prop} {o n : Nat} {O : Nat → Int32} {rf : Nat}
theorem OX_X {F' A' : Nat → Nat → Int32} (h : OX F A o O) (hf : frX F F' A A') : OX F' A' o O := OX_fr h (hf.1 _ _ (by omega) (by omega)) (hf.2 _ (by omega))
theorem OX_U {F' A' : Nat → Nat → Int32} (h : OX F A o O) (hf : frU F F' A A') : OX F' A' o O := OX_fr h (hf.1 _ _ (by omega) (by omega) (by omega)) (hf.2 _ (by omega) (by omega) (by omega))
theorem c_mpushx {x : Int32} {g : Nat} (hg : F 49 1 = nI g) (hg3 : g ≤ 300) (hQ : ∀ F' A' g', frB F F' A A' → (∀ j, F' 35 j = F 35 j) → F' 49 1 = nI g' → g' ≤ 300 → (∀ v : Nat, v < 256 → x = nI v → g < 300 → g' = g + 1 ∧ A' 50 = upd (A 50) g (nI v)) → Q none (HS F' A' rf lo X)) : PM Γ mX6_push [.ref 49, .int x] (HS F A rf lo X) 0 0 Q := by
  by_cases h : g < 300
  · refine c_push row49 hg h ?_
    exact hQ _ _ (g + 1) ⟨fun i j _ k2 => upF_n k2, fun i k1 => stA_n k1⟩ (fun j => upF_n (by omega)) upF_s (by omega) (fun v hv e _ => ⟨rfl, by rw [stA_s, e, nI_and255s hv]⟩)
  · have hg2 : g = 300 := by omega
    refine PM.go (l := [_, _]) rfl rfl (Nat.le_of_ble_eq_true rfl) rfl ?_
    refine pw_aload_n rfl dX6_push_0 ?_
    refine pw_gI dX6_push_1 fX6_7 (by first | rfl | assumption) rfl ?_
    rw [hg]
    refine pw_aload_n rfl dX6_push_4 ?_
    refine pw_gC dX6_push_5 fX6_13 (by first | rfl | assumption) rfl (by first | rfl | assumption) ?_
    refine pw_lI (nI _) dX6_push_8 (by first | rfl | assumption) rfl ?_
    refine pw_icmp_ge 36 dX6_push_9 (by decide) (fun _ => ?_) (fun q => absurd (nI_le (a := 300) (by omega) (by omega)) q)
    refine pw_vret dX6_push_36 rfl ?_
    exact hQ F A g frB_r (fun _ => rfl) hg hg3 (fun _ _ _ h9 => absurd h9 h)
theorem c_readRising {r : RT} {l : Nat} {x : Int32} (hx : x = nI l - 1) (hl : l ≤ 256) (hO : OX F A o O) (ho : o ≤ 1024) (hB : isB O o) (hR : RD F r) (hk : rok o r) (hQ : ∀ F', frR F F' → RD F' (rs1 O o r l) → Q (some (.int (nI (nxV O o r)))) (HS F' A 3 lo X)) : PM Γ mX9_readRising [.ref 34, .int x] (HS F A 3 lo X) 0 0 Q := by
  have hv := nxV_lt hB (o := o) (r := r)
  refine PM.go (l := [_, _, .float 0]) rfl rfl (Nat.le_of_ble_eq_true rfl) rfl ?_
  refine pw_aload_n rfl dX9_readRising_0 ?_
  refine pw_gC dX9_readRising_1 fX9_12 (by first | rfl | assumption) rfl (by first | rfl | assumption) ?_
  refine pc_V0 dX9_readRising_4 lX9_78 rfl rfl (by decide) (Nat.le_of_ble_eq_true rfl) ?_
  refine c_next hO ho hB hR hk ?_
  intro F1 hf1 hR1
  refine ps_istore_n (l' := [_, _, _]) dX9_readRising_7 (by decide) rfl rfl ?_
  refine pw_iload_n rfl dX9_readRising_8 ?_
  refine pw_iload_n rfl dX9_readRising_9 ?_
  rw [hx]
  have hlt := lt_m1 (l := l) (v := nxV O o r) (by omega) (by omega)
  unfold rs1 at hQ
  by_cases h : l ≤ nxV O o r
  · rw [if_pos h] at hQ
    refine pw_icmp_gt 21 dX9_readRising_10 (by decide) (fun _ => ?_) (fun q => absurd (hlt.mpr h) q)
    refine pw_iload_n rfl dX9_readRising_21 ?_
    refine pw_iret dX9_readRising_22 (Or.inl rfl) ?_
    exact hQ F1 hf1 hR1
  · rw [if_neg h] at hQ
    refine pw_icmp_gt 21 dX9_readRising_10 (by decide) (fun q => absurd q (fun h9 => h (hlt.mp h9))) (fun _ => ?_)
    refine pw_aload_n rfl dX9_readRising_13 ?_
    refine pw_gC dX9_readRising_14 fX9_12 (by first | rfl | assumption) rfl (by first | rfl | assumption) ?_
    refine pw_iconst 4 (by decide) dX9_readRising_17 ?_
    refine pc_V1 dX9_readRising_18 lX9_81 rfl rfl (by decide) (Nat.le_of_ble_eq_true rfl) ?_
    refine c_blame (w := 4) hR1 (nxS_rok hk).1 (by omega) (fun z => by rw [(nxS_0 z).2.2]; show 1 ≤ r.2.2 + 1; omega) ?_
    intro F2 hf2 hR2
    refine pw_iload_n rfl dX9_readRising_21 ?_
    refine pw_iret dX9_readRising_22 (Or.inl rfl) ?_
    exact hQ F2 (frR_t hf1 hf2) hR2
theorem cs_loop {K : Nat} (hK : K ≤ 256) (hO : OX F A o O) (ho : o ≤ 1024) (hB : isB O o) {g4 g5 g6 : Value} : ∀ (m i l : Nat) (r : RT) (f : Nat → Int32) (x : Int32) (F' A' : Nat → Nat → Int32), i + m = K → x = nI l - 1 → l ≤ 256 → frR F F' → (∀ i, ¬ i = 40 → A' i = A i) → RD F' r → rok o r → same (A' 40) f i →
    (∀ F' A' x i, frR F F' → (∀ i, ¬ i = 40 → A' i = A i) → RD F' (rsg O o m r l (K - m) f).1 → ((rsg O o m r l (K - m) f).1.1 = 0 → same (A' 40) (rsg O o m r l (K - m) f).2 K) → PW Γ mX9_readBits 55 [.ref 34, .int (nI K), .int x, .int i, g4, g5, g6] [] (HS F' A' 3 lo X) 0 0 Q) →
    PW Γ mX9_readBits 14 [.ref 34, .int (nI K), .int x, .int (nI i), g4, g5, g6] [] (HS F' A' 3 lo X) 0 0 Q := by
  intro m
  induction m with
  | zero =>
    intro i l r f x F' A' hi hx hl hfr hA hR hk hs hq
    have hi2 : i = K := by omega
    subst hi2
    refine pw_iload_n rfl dX9_readBits_14 ?_
    refine pw_iload_n rfl dX9_readBits_15 ?_
    refine pw_icmp_ge 55 dX9_readBits_16 (by decide) (fun _ => ?_) (fun q => absurd (nI_le (Nat.le_refl _) (by omega)) q)
    exact hq F' A' _ _ hfr hA hR (fun _ => hs)
  | succ m ih =>
    intro i l r f x F' A' hi hx hl hfr hA hR hk hs hq
    have hv := nxV_lt hB (o := o) (r := r)
    have hKm : K - (m + 1) = i := by omega
    rw [hKm] at hq
    unfold rsg at hq
    refine pw_iload_n rfl dX9_readBits_14 ?_
    refine pw_iload_n rfl dX9_readBits_15 ?_
    refine pw_icmp_ge 55 dX9_readBits_16 (by decide) (fun q => absurd q (nI_ge (by omega) (by omega))) (fun _ => ?_)
    refine pw_iload_n rfl dX9_readBits_19 ?_
    refine pw_sipush 256 (by decide) dX9_readBits_20 ?_
    refine pw_icmp_ge 55 dX9_readBits_23 (by decide) (fun q => absurd q (nI_ge (b := 256) (by omega) (by omega))) (fun _ => ?_)
    refine pw_aload_n rfl dX9_readBits_26 ?_
    refine pw_gC dX9_readBits_27 fX9_12 (by first | rfl | assumption) rfl (by first | rfl | assumption) ?_
    refine pc_V0 dX9_readBits_30 lX9_92 rfl rfl (by decide) (Nat.le_of_ble_eq_true rfl) ?_
    refine c_isFine hR hk.1 ?_
    by_cases h0 : r.1 = 0
    · rw [if_pos h0] at hq
      rw [if_pos h0]
      refine pw_if_eq 55 dX9_readBits_33 (by decide) (fun q => absurd q (by decide)) (fun _ => ?_)
      refine pw_aload_n rfl dX9_readBits_36 ?_
      refine pw_iload_n rfl dX9_readBits_37 ?_
      refine pc_V1 dX9_readBits_38 lX9_135 rfl rfl (by decide) (Nat.le_of_ble_eq_true rfl) ?_
      refine c_readRising hx hl (OX_fr hO (hfr _ _ (by omega)) (hA _ (by omega))) ho hB hR hk ?_
      intro F1 hf1 hR1
      refine ps_istore_n (l' := [_, _, _, _, _, _, _]) dX9_readBits_41 (by decide) rfl rfl ?_
      refine pw_aload_n rfl dX9_readBits_42 ?_
      refine pw_gC dX9_readBits_43 fX9_25 (by first | rfl | assumption) rfl (by first | rfl | assumption) ?_
      refine pw_iload_n rfl dX9_readBits_46 ?_
      refine pw_iload_n rfl dX9_readBits_47 ?_
      refine pw_sI dX9_readBits_48 (by first | rfl | assumption) (by first | assumption | exact vp_in_nI (by omega) (by omega)) ?_
      refine ps_iinc (l' := [_, _, _, _, _, _, _]) 1 dX9_readBits_49 (by decide) rfl (by decide) rfl rfl ?_
      refine pw_goto 14 dX9_readBits_52 (by decide) ?_
      rw [nI_1, nI_clamp (by omega)]
      refine ih (i + 1) (nxV O o r + 1) (rs1 O o r l) (upd f i (nI (nxV O o r))) _ F1 _ (by omega) ?_ (by omega) (frR_t hfr hf1) (fun i hi => by rw [stA_n hi]; exact hA i hi) hR1 (rs1_ok hk).1 ?_ ?_
      · exact (pk_sub (a := nxV O o r + 1) (b := 1) (by omega)).symm
      · intro j hj
        rw [stA_s]
        by_cases h : j = i
        · rw [h, upd_s, upd_s]
        · rw [upd_n h, upd_n h]; exact hs j (by omega)
      · rw [show K - m = i + 1 by omega]
        exact hq
    · rw [if_neg h0] at hq
      rw [if_neg h0]
      refine pw_if_eq 55 dX9_readBits_33 (by decide) (fun _ => ?_) (fun q => absurd (rfl) q)
      exact hq F' A' _ _ hfr hA hR (fun h9 => absurd h9 h0)
theorem cn_loop {W K : Nat} {x2 x4 : Int32} (hW : W ≤ 8) (hO : OX F A o O) (ho : o ≤ 1024) (hB : isB O o) : ∀ (m j : Nat) (s : UT) (v x : Nat) (F' : Nat → Nat → Int32), j + m = W → frS F F' → CU O F' s → uok o s → x < 2 ^ j → (s.1.1 = 0 → x = v) →
    (∀ F' x, frS F F' → CU O F' (rdb O o m s v).1 → x < 2 ^ W → ((rdb O o m s v).1.1.1 = 0 → x = (rdb O o m s v).2) → PW Γ mX9_readBits 116 [.ref 34, .int (nI K), .int x2, .int (nI W), .int x4, .int (nI x), .int (nI W)] [] (HS F' A 3 lo X) 0 0 Q) →
    PW Γ mX9_readBits 90 [.ref 34, .int (nI K), .int x2, .int (nI W), .int x4, .int (nI x), .int (nI j)] [] (HS F' A 3 lo X) 0 0 Q := by
  intro m
  induction m with
  | zero =>
    intro j s v x F' hj hfr hC hk hx hxv hq
    have hj2 : j = W := by omega
    subst hj2
    refine pw_iload rfl dX9_readBits_90 ?_
    refine pw_iload_n rfl dX9_readBits_92 ?_
    refine pw_icmp_ge 116 dX9_readBits_93 (by decide) (fun _ => ?_) (fun q => absurd (nI_le (Nat.le_refl _) (by omega)) q)
    exact hq F' x hfr hC hx hxv
  | succ m ih =>
    intro j s v x F' hj hfr hC hk hx hxv hq
    have hp : 2 ^ j ≤ 2 ^ 8 := Nat.pow_le_pow_right (by omega) (by omega)
    unfold rdb at hq
    refine pw_iload rfl dX9_readBits_90 ?_
    refine pw_iload_n rfl dX9_readBits_92 ?_
    refine pw_icmp_ge 116 dX9_readBits_93 (by decide) (fun q => absurd q (nI_ge (by omega) (by omega))) (fun _ => ?_)
    refine pw_iload rfl dX9_readBits_96 ?_
    refine pw_iconst 1 (by decide) dX9_readBits_98 ?_
    refine pw_ishl dX9_readBits_99 ?_
    refine pw_aload_n rfl dX9_readBits_100 ?_
    refine pw_gC dX9_readBits_101 fX9_12 (by first | rfl | assumption) rfl (by first | rfl | assumption) ?_
    rw [nI_shl1 (by omega)]
    refine pc_V0 dX9_readBits_104 lX9_143 rfl rfl (by decide) (Nat.le_of_ble_eq_true rfl) ?_
    refine c_bit (OX_fr hO (hfr _ _ (by omega)) rfl) ho hB hC hk ?_
    intro F1 b hf1 hC1 hb hbv
    refine pw_ior dX9_readBits_107 ?_
    rw [nI_or, or_bit hb]
    refine ps_istore (l' := [_, _, _, _, _, _, _]) dX9_readBits_108 (by decide) rfl rfl ?_
    refine ps_iinc (l' := [_, _, _, _, _, _, _]) 1 dX9_readBits_110 (by decide) rfl (by decide) rfl rfl ?_
    refine pw_goto 90 dX9_readBits_113 (by decide) ?_
    rw [nI_1]
    have hx2 : 2 * x + b < 2 ^ (j + 1) := by rw [Nat.pow_succ]; omega
    by_cases h0 : s.1.1 = 0
    · rw [if_pos h0] at hq
      refine ih (j + 1) (btS o s) (2 * v + btV O o s) (2 * x + b) F1 (by omega) (frS_t hfr hf1) hC1 (btS_ok hk) hx2 (fun z => by rw [hbv z, hxv h0]) hq
    · rw [if_neg h0] at hq
      have hb0 : ¬ (btS o s).1.1 = 0 := by rw [btS_f h0]; exact h0
      refine ih (j + 1) (btS o s) v (2 * x + b) F1 (by omega) (frS_t hfr hf1) hC1 (btS_ok hk) hx2 (fun z => absurd z hb0) ?_
      rw [rdb_f hb0]
      intro F2 x2 hf2 hC2 hx3 _
      exact hq F2 x2 hf2 (CU_f h0 (btS_f h0) hC2) hx3 (fun z => absurd z h0)
theorem wid_le {m : Nat} (h : m < 256) : wid m ≤ 8 := by
  unfold wid
  split
  · omega
  · rename_i h0
    have : Nat.log2 m < 8 := (Nat.log2_lt h0).mpr h
    omega
theorem cb2_loop {W K : Nat} {x2 : Int32} {f : Nat → Int32} (hW : W ≤ 8) (hK : K ≤ 256) (hO : OX F A o O) (ho : o ≤ 1024) (hB : isB O o) (hn : n ≤ 300) (hn0 : F 34 10 = nI n) (h40 : same (A 40) f K) (hf : isB f K) : ∀ (m i : Nat) (y : YT) (F' A' : Nat → Nat → Int32) (g5 g6 : Value), g5.category = 1 → g6.category = 1 → i + m = n → (y.1.1.1 = 0 → y.1.2.1 = i) → frX F F' A A' → CY O F' A' y → yok o n y →
    (∀ F' A' x4 g5 g6, frX F F' A A' → CY O F' A' (rbs (fun s => rdb O o W s 0) K f m y) → PW Γ mX9_readBits 154 [.ref 34, .int (nI K), .int x2, .int (nI W), .int x4, g5, g6] [] (HS F' A' 3 lo X) 0 0 Q) →
    PW Γ mX9_readBits 65 [.ref 34, .int (nI K), .int x2, .int (nI W), .int (nI i), g5, g6] [] (HS F' A' 3 lo X) 0 0 Q := by
  intro m
  induction m with
  | zero =>
    intro i y F' A' g5 g6 k5 k6 hi hgi hfr hC hk hq
    have hi2 : i = n := by omega
    subst hi2
    refine pw_iload rfl dX9_readBits_65 ?_
    refine pw_aload_n rfl dX9_readBits_67 ?_
    refine pw_gI dX9_readBits_68 fX9_61 (by first | rfl | assumption) rfl ?_
    rw [hfr.1 34 10 (by omega) (by omega), hn0]
    refine pw_icmp_ge 154 dX9_readBits_71 (by decide) (fun _ => ?_) (fun q => absurd (nI_le (Nat.le_refl _) (by omega)) q)
    exact hq F' A' _ _ _ hfr hC
  | succ m ih =>
    intro i y F' A' g5 g6 k5 k6 hi hgi hfr hC hk hq
    obtain ⟨hCB, hCU⟩ := id hC
    obtain ⟨hR, g', c1, c2, c3⟩ := id hCB
    have hku := yok_u hk
    unfold rbs at hq
    refine pw_iload rfl dX9_readBits_65 ?_
    refine pw_aload_n rfl dX9_readBits_67 ?_
    refine pw_gI dX9_readBits_68 fX9_61 (by first | rfl | assumption) rfl ?_
    rw [hfr.1 34 10 (by omega) (by omega), hn0]
    refine pw_icmp_ge 154 dX9_readBits_71 (by decide) (fun q => absurd q (nI_ge (by omega) (by omega))) (fun _ => ?_)
    refine pw_aload_n rfl dX9_readBits_74 ?_
    refine pw_gC dX9_readBits_75 fX9_12 (by first | rfl | assumption) rfl (by first | rfl | assumption) ?_
    refine pc_V0 dX9_readBits_78 lX9_92 rfl rfl (by decide) (Nat.le_of_ble_eq_true rfl) ?_
    refine c_isFine hR hk.1.1.1 ?_
    by_cases h0 : y.1.1.1 = 0
    · rw [if_pos h0] at hq
      rw [if_pos h0]
      obtain ⟨e1, e2⟩ := c3 h0
      have e3 := hgi h0
      refine pw_if_eq 154 dX9_readBits_81 (by decide) (fun q => absurd q (by decide)) (fun _ => ?_)
      refine pw_iconst 0 (by decide) dX9_readBits_84 ?_
      refine ps_istore (l' := [_, _, _, _, _, _, _]) dX9_readBits_85 (by decide) rfl rfl ?_
      refine pw_iconst 0 (by decide) dX9_readBits_87 ?_
      refine ps_istore (l' := [_, _, _, _, _, _, _]) dX9_readBits_88 (by decide) rfl rfl ?_
      refine cn_loop (F := F') hW (OX_X hO hfr) ho hB W 0 (y.1.1, y.2) 0 0 F' (by omega) frS_r hCU hku (by decide) (fun _ => rfl) ?_
      intro F1 x hf1 hC1 hx hxt
      have ht := rdb_ok (O := O) W (y.1.1, y.2) 0 hku
      have hE := rbE_ok (t := rdb O o W (y.1.1, y.2) 0) hf hk ht.1 ht.2 (fun _ => by omega)
      obtain ⟨t, htd⟩ : ∃ t, t = rdb O o W (y.1.1, y.2) 0 := ⟨_, rfl⟩
      rw [← htd] at hC1 hxt ht hE
      have hq2 : ∀ F' A' x4 g5 g6, frX F F' A A' → CY O F' A' (rbs (fun s => rdb O o W s 0) K f m (rbE K f y t)) → PW Γ mX9_readBits 154 [.ref 34, .int (nI K), .int x2, .int (nI W), .int x4, g5, g6] [] (HS F' A' 3 lo X) 0 0 Q := by rw [htd]; exact hq
      have hp : 2 ^ W ≤ 2 ^ 8 := Nat.pow_le_pow_right (by omega) hW
      have hfr1 : frX F F1 A A' := frX_t hfr (frX_S hf1)
      -- what comes
      have last : ∀ (F2 : Nat → Nat → Int32) (r : RT), frX F F2 A A' → CU O F2 (r, t.1.2) → F2 49 1 = nI g' → (t.1.1.1 = 0 → x < K → r = t.1.1) → (t.1.1.1 = 0 → ¬ x < K → r = blm 4 t.1.1) → (¬ t.1.1.1 = 0 → r = t.1.1) → PW Γ mX9_readBits 130 [.ref 34, .int (nI K), .int x2, .int (nI W), .int (nI i), .int (nI x), .int (nI W)] [] (HS F2 A' 3 lo X) 0 0 Q := by
        intro F2 r hf2 hC2 d1 r1 r2 r3
        refine pw_aload_n rfl dX9_readBits_130 ?_
        refine pw_gC dX9_readBits_131 fX9_47 (by first | rfl | assumption) rfl (by first | rfl | assumption) ?_
        refine pw_aload_n rfl dX9_readBits_134 ?_
        refine pw_gC dX9_readBits_135 fX9_25 (by first | rfl | assumption) rfl (by first | rfl | assumption) ?_
        refine pw_iload rfl dX9_readBits_138 ?_
        refine pw_sipush 255 (by decide) dX9_readBits_140 ?_
        refine pw_iand dX9_readBits_143 ?_
        rw [nI_and255s (by omega)]
        refine pw_aI dX9_readBits_144 (by first | rfl | assumption) (by first | assumption | exact vp_in_nI (by omega) (by omega)) ?_
        rw [nI_clamp (by omega)]
        refine pc_V1 dX9_readBits_145 lX9_120 rfl rfl (by decide) (Nat.le_of_ble_eq_true rfl) ?_
        refine c_mpushx d1 c2 ?_
        intro F3 A3 g3 hf3 h35 d2 d3 d4
        refine ps_iinc (l' := [_, _, _, _, _, _, _]) 1 dX9_readBits_148 (by decide) rfl (by decide) rfl rfl ?_
        refine pw_goto 65 dX9_readBits_151 (by decide) ?_
        rw [nI_1]
        refine ih (i + 1) (rbE K f y t) F3 A3 _ _ rfl rfl (by omega) (fun z => by have := (hE.2 z).2; omega) (frX_t hf2 (frX_B hf3)) ?_ hE.1 hq2
        have hC3 := CU_35 h35 hC2
        unfold rbE
        by_cases z : t.1.1.1 = 0
        · have ex := hxt z
          rw [if_pos z, ← ex]
          by_cases zk : x < K
          · rw [if_pos zk]
            rw [r1 z zk] at hC3
            obtain ⟨v, hv, ev⟩ := hf x zk
            have ea : A' 40 x = nI v := by rw [hfr.2 40 (by omega), h40 x zk, ev]
            rw [ev]
            exact ⟨CB_pu (g := y.1.2.1) (f := y.1.2.2) (A := A') hC3.1 d2 d3 (fun _ => by rw [← e1]; exact d4 v hv ea (by omega)) (fun _ => e2), hC3⟩
          · rw [if_neg zk]
            rw [r2 z zk] at hC3
            exact ⟨CB_f hC3.1 (blm_0 (by omega)) d2 d3, hC3⟩
        · rw [if_neg z]
          rw [r3 z] at hC3
          exact ⟨CB_f hC3.1 z d2 d3, hC3⟩
      have d1 : F1 49 1 = nI g' := by rw [hf1 49 1 (by omega)]; exact c1
      by_cases zk : x < K
      · refine pw_iload rfl dX9_readBits_116 ?_
        refine pw_iload_n rfl dX9_readBits_118 ?_
        refine pw_icmp_lt 130 dX9_readBits_119 (by decide) (fun _ => ?_) (fun q => absurd (nI_lt zk (by omega)) q)
        exact last F1 t.1.1 hfr1 hC1 d1 (fun _ _ => rfl) (fun _ h9 => absurd zk h9) (fun _ => rfl)
      · refine pw_iload rfl dX9_readBits_116 ?_
        refine pw_iload_n rfl dX9_readBits_118 ?_
        refine pw_icmp_lt 130 dX9_readBits_119 (by decide) (fun q => absurd q (nI_nlt (by omega) (by omega))) (fun _ => ?_)
        refine pw_aload_n rfl dX9_readBits_122 ?_
        refine pw_gC dX9_readBits_123 fX9_12 (by first | rfl | assumption) rfl (by first | rfl | assumption) ?_
        refine pw_iconst 4 (by decide) dX9_readBits_126 ?_
        refine pc_V1 dX9_readBits_127 lX9_81 rfl rfl (by decide) (Nat.le_of_ble_eq_true rfl) ?_
        refine c_blame (w := 4) hC1.1 ht.1.1.1 (by omega) ht.1.2.2 ?_
        intro F2 hf2 hR2
        exact last F2 (blm 4 t.1.1) (frX_t hfr1 (frX_S (frS_R hf2))) (CU_bl (by omega) hf2 hR2 hC1) (by rw [hf2 49 1 (by omega)]; exact d1) (fun _ h9 => absurd h9 zk) (fun _ _ => rfl) (fun z => blm_f z)
    · rw [if_neg h0] at hq
      rw [if_neg h0]
      refine pw_if_eq 154 dX9_readBits_81 (by decide) (fun _ => ?_) (fun q => absurd (rfl) q)
      exact hq F' A' _ _ _ hfr hC
theorem c_readBits {b : BT} (hO : OX F A o O) (ho : o ≤ 1024) (hB : isB O o) (hn : n ≤ 300) (hn0 : F 34 10 = nI n) (h2 : F 35 2 = 0) (h3 : F 35 3 = 0) (hC : CB F A b) (hk : bk o n b) (hg : b.1.1 = 0 → b.2.1 = 0) (hQ : ∀ F' A', frU F F' A A' → CB F' A' (rEnd O (rBits O o n b)) → Q none (HS F' A' 3 lo X)) : PM Γ mX9_readBits [.ref 34] (HS F A 3 lo X) 0 0 Q := by
  obtain ⟨hR, g', c1, c2, c3⟩ := id hC
  have hv := nxV_lt hB (o := o) (r := b.1)
  have hs := rsg0_ok hB hk
  refine PM.go (l := [_, .float 0, .float 0, .float 0, .float 0, .float 0, .float 0]) rfl rfl (Nat.le_of_ble_eq_true rfl) rfl ?_
  refine pw_aload_n rfl dX9_readBits_0 ?_
  refine pw_gC dX9_readBits_1 fX9_12 (by first | rfl | assumption) rfl (by first | rfl | assumption) ?_
  refine pc_V0 dX9_readBits_4 lX9_78 rfl rfl (by decide) (Nat.le_of_ble_eq_true rfl) ?_
  refine c_next hO ho hB hR hk.1 ?_
  intro F1 hf1 hR1
  refine pw_iconst 1 (by decide) dX9_readBits_7 ?_
  refine pw_iadd dX9_readBits_8 ?_
  refine ps_istore_n (l' := [_, _, _, _, _, _, _]) dX9_readBits_9 (by decide) rfl rfl ?_
  refine pw_iconst (-1) (by decide) dX9_readBits_10 ?_
  refine ps_istore_n (l' := [_, _, _, _, _, _, _]) dX9_readBits_11 (by decide) rfl rfl ?_
  refine pw_iconst 0 (by decide) dX9_readBits_12 ?_
  refine ps_istore_n (l' := [_, _, _, _, _, _, _]) dX9_readBits_13 (by decide) rfl rfl ?_
  rw [nI_1]
  refine cs_loop (F := F1) (A := A) (K := nxV O o b.1 + 1) (by omega) (OX_fr hO (hf1 _ _ (by omega)) rfl) ho hB (nxV O o b.1 + 1) 0 0 (nxS o b.1) (fun _ => 0) (-1) F1 A (by omega) rfl (by omega) frR_r (fun _ _ => rfl) hR1 (nxS_rok hk.1) (fun j hj => by omega) ?_
  intro F2 A2 x3 i3 hf2 hA2 hR2 hs2
  rw [Nat.sub_self] at hR2 hs2
  obtain ⟨sg, hsg⟩ : ∃ sg, sg = rsg O o (nxV O o b.1 + 1) (nxS o b.1) 0 0 (fun _ => 0) := ⟨_, rfl⟩
  rw [← hsg] at hR2 hs2 hs
  have hQ2 : ∀ F' A', frU F F' A A' → CB F' A' (rEnd O (rbs (fun s => rdb O o (wid (nxV O o b.1)) s 0) (nxV O o b.1 + 1) sg.2 n ((sg.1, b.2), 0))) → Q none (HS F' A' 3 lo X) := by rw [hsg]; exact hQ
  have hfU : frU F F2 A A2 := ⟨fun i j k1 k2 k3 => by rw [hf2 i j (by omega)]; exact hf1 i j (by omega), fun i k1 k2 k3 => hA2 i k2⟩
  refine pw_iload_n rfl dX9_readBits_55 ?_
  refine pw_iconst 1 (by decide) dX9_readBits_56 ?_
  refine pw_isub dX9_readBits_57 ?_
  rw [show nI (nxV O o b.1 + 1) - 1 = nI (nxV O o b.1) from pk_sub (a := nxV O o b.1 + 1) (b := 1) (by omega)]
  refine pc_S1 dX9_readBits_58 lX9_138 (by decide) (Nat.le_of_ble_eq_true rfl) ?_
  refine c_widthOf hv ?_
  have hw := wid_le hv
  have h22 : F2 35 2 = 0 := by rw [hf2 35 2 (by omega), hf1 35 2 (by omega)]; exact h2
  have h23 : F2 35 3 = 0 := by rw [hf2 35 3 (by omega), hf1 35 3 (by omega)]; exact h3
  have hCY : CY O F2 A2 ((sg.1, b.2), 0) := by
    refine ⟨⟨hR2, g', by rw [hf2 49 1 (by omega), hf1 49 1 (by omega)]; exact c1, c2, fun z => ?_⟩, hR2, 0, 0, h23, by omega, h22, by omega, fun _ => ⟨rfl, fun z => by omega⟩⟩
    rw [hA2 50 (by omega)]
    exact c3 (hs.2 z).1
  refine ps_istore_n (l' := [_, _, _, _, _, _, _]) dX9_readBits_61 (by decide) rfl rfl ?_
  refine pw_iconst 0 (by decide) dX9_readBits_62 ?_
  refine ps_istore (l' := [_, _, _, _, _, _, _]) dX9_readBits_63 (by decide) rfl rfl ?_
  by_cases z : sg.1.1 = 0
  · refine cb2_loop (F := F2) (A := A2) hw (by omega) (OX_U hO hfU) ho hB hn (by rw [hfU.1 34 10 (by omega) (by omega) (by omega)]; exact hn0) (hs2 z) (hs.2 z).2 n 0 ((sg.1, b.2), 0) F2 A2 _ _ rfl rfl (by omega) (fun _ => hg (hs.2 z).1) frX_r hCY hs.1 ?_
    intro F3 A3 x4 g5 g6 hf3 hC3
    obtain ⟨y, hy⟩ : ∃ y, y = rbs (fun s => rdb O o (wid (nxV O o b.1)) s 0) (nxV O o b.1 + 1) sg.2 n ((sg.1, b.2), 0) := ⟨_, rfl⟩
    have hyk : yok o n y := by
      rw [hy]
      exact (rbs_ok gok_rdb (hs.2 z).2 n _ hs.1 (fun _ => by show b.2.1 + n ≤ n; rw [hg (hs.2 z).1]; omega)).1
    rw [← hy] at hC3 hQ2
    obtain ⟨hCB3, hCU3⟩ := id hC3
    obtain ⟨_, g3, d1, d2, d3⟩ := id hCB3
    refine pw_aload_n rfl dX9_readBits_154 ?_
    refine pw_gC dX9_readBits_155 fX9_12 (by first | rfl | assumption) rfl (by first | rfl | assumption) ?_
    refine pc_V0 dX9_readBits_158 lX9_146 rfl rfl (by decide) (Nat.le_of_ble_eq_true rfl) ?_
    refine c_endBits hCU3 (yok_u hyk) ?_
    intro F4 hf4 hR4
    refine pw_vret dX9_readBits_161 rfl ?_
    refine hQ2 F4 A3 (frU_t hfU (frU_t (frU_X hf3) (frU_B (frB_R hf4)))) ⟨hR4, g3, by rw [hf4 49 1 (by omega)]; exact d1, d2, fun h9 => d3 (ebR_0 h9).1⟩
  · have e : rbs (fun s => rdb O o (wid (nxV O o b.1)) s 0) (nxV O o b.1 + 1) sg.2 n ((sg.1, b.2), 0) = ((sg.1, b.2), 0) := rbs_f z
    rw [e] at hQ2
    have hn0' : F2 34 10 = nI n := by rw [hfU.1 34 10 (by omega) (by omega) (by omega)]; exact hn0
    have fin : ∀ g5 g6, PW Γ mX9_readBits 154 [.ref 34, .int (nI (nxV O o b.1 + 1)), .int x3, .int (nI (wid (nxV O o b.1))), .int (nI 0), g5, g6] [] (HS F2 A2 3 lo X) 0 0 Q := by
      intro g5 g6
      refine pw_aload_n rfl dX9_readBits_154 ?_
      refine pw_gC dX9_readBits_155 fX9_12 (by first | rfl | assumption) rfl (by first | rfl | assumption) ?_
      refine pc_V0 dX9_readBits_158 lX9_146 rfl rfl (by decide) (Nat.le_of_ble_eq_true rfl) ?_
      refine c_endBits hCY.2 (yok_u hs.1) ?_
      intro F4 hf4 hR4
      refine pw_vret dX9_readBits_161 rfl ?_
      exact hQ2 F4 A2 (frU_t hfU (frU_B (frB_R hf4))) ⟨hR4, g', by rw [hf4 49 1 (by omega), hf2 49 1 (by omega), hf1 49 1 (by omega)]; exact c1, c2, fun h9 => absurd (ebR_0 h9).1 z⟩
    refine pw_iload rfl dX9_readBits_65 ?_
    refine pw_aload_n rfl dX9_readBits_67 ?_
    refine pw_gI dX9_readBits_68 fX9_61 (by first | rfl | assumption) rfl ?_
    rw [hn0']
    by_cases hn1 : 0 < n
    · refine pw_icmp_ge 154 dX9_readBits_71 (by decide) (fun q => absurd q (nI_ge (a := 0) hn1 (by omega))) (fun _ => ?_)
      refine pw_aload_n rfl dX9_readBits_74 ?_
      refine pw_gC dX9_readBits_75 fX9_12 (by first | rfl | assumption) rfl (by first | rfl | assumption) ?_
      refine pc_V0 dX9_readBits_78 lX9_92 rfl rfl (by decide) (Nat.le_of_ble_eq_true rfl) ?_
      refine c_isFine hCY.1.1 hs.1.1.1.1 ?_
      rw [if_neg z]
      refine pw_if_eq 154 dX9_readBits_81 (by decide) (fun _ => ?_) (fun q => absurd (rfl) q)
      exact fin _ _
    · refine pw_icmp_ge 154 dX9_readBits_71 (by decide) (fun _ => ?_) (fun q => absurd (nI_le (b := 0) (by omega) (by omega)) q)
      exact fin _ _
end
