/-! PREFIX: sorted leaves, the two lines of trees, depths; pure -/
/-- where the loop that goes down puts a byte of weight v -/
def ipd (c : Nat → Nat) (v : Nat) (L : List Nat) : Nat → Nat
  | 0 => 0
  | a + 1 => if v < c (L.getD a 0) then ipd c v L a else a + 1
theorem ipd_le (c : Nat → Nat) (v : Nat) (L : List Nat) : ∀ a, ipd c v L a ≤ a
  | 0 => Nat.le_refl 0
  | a + 1 => by
    unfold ipd
    have := ipd_le c v L a
    split <;> omega
theorem ipd_hi (c : Nat → Nat) (v : Nat) (L : List Nat) : ∀ a j, ipd c v L a ≤ j → j < a → v < c (L.getD j 0)
  | 0, j => fun _ h => absurd h (by omega)
  | a + 1, j => by
    intro h1 h2
    unfold ipd at h1
    split at h1
    · rename_i hlt
      by_cases hj : j = a
      · rw [hj]; exact hlt
      · exact ipd_hi c v L a j h1 (by omega)
    · omega
theorem ipd_lo (c : Nat → Nat) (v : Nat) (L : List Nat) : ∀ a, 0 < ipd c v L a → c (L.getD (ipd c v L a - 1) 0) ≤ v
  | 0 => fun h => absurd h (by unfold ipd; omega)
  | a + 1 => by
    intro h
    unfold ipd at h ⊢
    split at h
    · rename_i hlt
      rw [if_pos hlt]
      exact ipd_lo c v L a h
    · rename_i hlt
      rw [if_neg hlt]
      simp only [Nat.add_sub_cancel]
      omega
def srt (c : Nat → Nat) : Nat → List Nat
  | 0 => []
  | z + 1 => if 0 < c z then (srt c z).take (ipd c (c z) (srt c z) (srt c z).length) ++ z :: (srt c z).drop (ipd c (c z) (srt c z) (srt c z).length) else srt c z
theorem srt_mem (c : Nat → Nat) (b : Nat) : ∀ z, b ∈ srt c z ↔ b < z ∧ 0 < c b
  | 0 => by simp [srt]
  | z + 1 => by
    have ih := srt_mem c b z
    unfold srt
    split
    · rename_i hz
      have hm : b ∈ (srt c z).take (ipd c (c z) (srt c z) (srt c z).length) ++ z :: (srt c z).drop (ipd c (c z) (srt c z) (srt c z).length) ↔ b = z ∨ b ∈ srt c z := by
        rw [List.mem_append, List.mem_cons]
        have := List.take_append_drop (ipd c (c z) (srt c z) (srt c z).length) (srt c z)
        constructor
        · rintro (h | h | h)
          · exact Or.inr (List.mem_of_mem_take h)
          · exact Or.inl h
          · exact Or.inr (List.mem_of_mem_drop h)
        · rintro (h | h)
          · exact Or.inr (Or.inl h)
          · rw [← this, List.mem_append] at h
            rcases h with h | h
            · exact Or.inl h
            · exact Or.inr (Or.inr h)
      rw [hm, ih]
      constructor
      · rintro (rfl | h)
        · exact ⟨by omega, hz⟩
        · exact ⟨by omega, h.2⟩
      · intro h
        by_cases hb : b = z
        · exact Or.inl hb
        · exact Or.inr ⟨by omega, h.2⟩
    · rename_i hz
      rw [ih]
      constructor
      · exact fun h => ⟨by omega, h.2⟩
      · intro h
        refine ⟨?_, h.2⟩
        by_cases hb : b = z
        · subst hb; exact absurd h.2 hz
        · omega
def lx (c : Nat → Nat) (x y : Nat) : Prop := c x < c y ∨ (c x = c y ∧ x < y)
theorem pw_get {R : Nat → Nat → Prop} {L : List Nat} (h : L.Pairwise R) {i j : Nat} (hij : i < j) (hj : j < L.length) : R (L.getD i 0) (L.getD j 0) := by
  rw [List.pairwise_iff_getElem] at h
  have := h i j (by omega) hj hij
  rw [List.getD_eq_getElem?_getD, List.getD_eq_getElem?_getD, List.getElem?_eq_getElem (by omega), List.getElem?_eq_getElem hj]
  exact this
theorem srt_pw (c : Nat → Nat) : ∀ z, (srt c z).Pairwise (lx c)
  | 0 => List.Pairwise.nil
  | z + 1 => by
    have ih := srt_pw c z
    unfold srt
    split
    · rename_i hz
      have lo := ipd_lo c (c z) (srt c z) (srt c z).length
      have hi := ipd_hi c (c z) (srt c z) (srt c z).length
      have hle := ipd_le c (c z) (srt c z) (srt c z).length
      have mem := fun b => srt_mem c b z
      generalize ipd c (c z) (srt c z) (srt c z).length = p at lo hi hle
      have hT : ∀ a ∈ (srt c z).take p, lx c a z := by
        intro a ha
        have hl := ((mem a).mp (List.mem_of_mem_take ha)).1
        obtain ⟨i, h1, h2⟩ := List.mem_take_iff_getElem.mp ha
        have h0 : 0 < p := by omega
        have hl1 := lo h0
        have hgi : (srt c z).getD i 0 = a := by
          rw [List.getD_eq_getElem?_getD, List.getElem?_eq_getElem (by omega)]
          exact h2
        have : c a ≤ c z := by
          by_cases he : i = p - 1
          · rw [← hgi, he]; exact hl1
          · have := pw_get ih (i := i) (j := p - 1) (by omega) (by omega)
            rw [hgi] at this
            rcases this with h | h
            · omega
            · omega
        rcases Nat.lt_or_ge (c a) (c z) with h | h
        · exact Or.inl h
        · exact Or.inr ⟨by omega, hl⟩
      have hD : ∀ b ∈ (srt c z).drop p, c z < c b := by
        intro b hb
        obtain ⟨i, h1, h2⟩ := List.mem_drop_iff_getElem.mp hb
        have := hi (i + p) (by omega) (by omega)
        rw [List.getD_eq_getElem?_getD, List.getElem?_eq_getElem (by omega)] at this
        simp only [Option.getD_some] at this
        have e : (srt c z)[i + p] = b := by rw [← h2]; congr 1; omega
        rw [e] at this
        exact this
      rw [List.pairwise_append, List.pairwise_cons]
      refine ⟨List.Pairwise.sublist (List.take_sublist _ _) ih, ⟨fun b hb => Or.inl (hD b hb), List.Pairwise.sublist (List.drop_sublist _ _) ih⟩, ?_⟩
      intro a ha b hb
      rcases List.mem_cons.mp hb with rfl | hb
      · exact hT a ha
      · have h1 := hT a ha
        have h2 := hD b hb
        rcases h1 with h | h
        · exact Or.inl (by omega)
        · exact Or.inl (by omega)
    · exact ih
theorem srt_sum (c : Nat → Nat) : ∀ z, ((srt c z).map c).sum = ((List.range z).map c).sum
  | 0 => rfl
  | z + 1 => by
    have ih := srt_sum c z
    rw [List.range_succ, List.map_append, List.sum_append]
    have hs : srt c (z + 1) = if 0 < c z then (srt c z).take (ipd c (c z) (srt c z) (srt c z).length) ++ z :: (srt c z).drop (ipd c (c z) (srt c z) (srt c z).length) else srt c z := rfl
    rw [hs]
    split
    · have e := congrArg (fun l => (List.map c l).sum) (List.take_append_drop (ipd c (c z) (srt c z) (srt c z).length) (srt c z))
      simp only [List.map_append, List.sum_append] at e
      simp only [List.map_append, List.sum_append, List.map_cons, List.sum_cons, List.map_nil, List.sum_nil]
      omega
    · simp only [List.map_cons, List.sum_cons, List.map_nil, List.sum_nil]
      omega
theorem srt_len (f : Nat → Int32) (n : Nat) : ∀ z, (srt (cnt f n) z).length = rk f n z
  | 0 => rfl
  | z + 1 => by
    have ih := srt_len f n z
    unfold srt
    split
    · rename_i h
      rw [rk_s h, List.length_append, List.length_cons, List.length_take, List.length_drop, ← ih]
      have := ipd_le (cnt f n) (cnt f n z) (srt (cnt f n) z) (srt (cnt f n) z).length
      omega
    · rename_i h
      rw [rk_n h, ih]
theorem cnt_sum {f : Nat → Int32} : ∀ {n : Nat}, isB f n → ((List.range 256).map (cnt f n)).sum = n
  | 0, _ => by
    have : (cnt f 0) = fun _ => 0 := rfl
    rw [this]
    have key : ∀ z, ((List.range z).map (fun _ => 0)).sum = 0 := by
      intro z
      induction z with
      | zero => rfl
      | succ z iz => rw [List.range_succ, List.map_append, List.sum_append, iz]; rfl
    exact key 256
  | n + 1, hB => by
    have ih := cnt_sum (f := f) (n := n) (fun j hj => hB j (by omega))
    obtain ⟨b, hb, e⟩ := hB n (by omega)
    have key : ∀ z, z ≤ 256 → ((List.range z).map (cnt f (n + 1))).sum = ((List.range z).map (cnt f n)).sum + (if b < z then 1 else 0) := by
      intro z
      induction z with
      | zero => intro _; rfl
      | succ z iz =>
        intro hz
        rw [List.range_succ, List.map_append, List.sum_append, List.map_append, List.sum_append, iz (by omega)]
        simp only [List.map_cons, List.sum_cons, List.map_nil, List.sum_nil]
        show _ + (cnt f n z + (if f n = nI z then 1 else 0) + 0) = _
        by_cases h : z = b
        · rw [h, if_pos e, if_neg (by omega), if_pos (by omega)]
          omega
        · rw [if_neg (show ¬ f n = nI z from fun h2 => h (nI_inj (by omega) (by omega) (by rw [← h2, e]))) ]
          by_cases h3 : b < z
          · rw [if_pos h3, if_pos (by omega)]; omega
          · rw [if_neg h3, if_neg (by omega)]; omega
    rw [key 256 (by omega), ih, if_pos hb]
/-! the two lines: W weights, par parents, p the next leaf, q the next joined one -/
def updN (f : Nat → Nat) (i v : Nat) : Nat → Nat := fun x => if x = i then v else f x
theorem updN_s {f : Nat → Nat} {i v : Nat} : updN f i v i = v := by simp [updN]
theorem updN_n {f : Nat → Nat} {i v x : Nat} (h : ¬ x = i) : updN f i v x = f x := by simp [updN, h]
abbrev TQ : Type := (Nat → Nat) × (Nat → Nat) × Nat × Nat
/-- whether the next leaf is the least -/
abbrev tqL (k : Nat) (W : Nat → Nat) (made p q : Nat) : Prop := p < k ∧ (¬ q < made ∨ W p ≤ W q)
def tqI (k : Nat) (W : Nat → Nat) (made p q : Nat) : Nat := if tqL k W made p q then p else q
def tqP (k : Nat) (W : Nat → Nat) (made p q : Nat) : Nat := if tqL k W made p q then p + 1 else p
def tqQ (k : Nat) (W : Nat → Nat) (made p q : Nat) : Nat := if tqL k W made p q then q else q + 1
def tqS (k made : Nat) (s : TQ) : TQ :=
  (updN s.1 made (s.1 (tqI k s.1 made s.2.2.1 s.2.2.2) + s.1 (tqI k s.1 made (tqP k s.1 made s.2.2.1 s.2.2.2) (tqQ k s.1 made s.2.2.1 s.2.2.2))),
   updN (updN s.2.1 (tqI k s.1 made s.2.2.1 s.2.2.2) made) (tqI k s.1 made (tqP k s.1 made s.2.2.1 s.2.2.2) (tqQ k s.1 made s.2.2.1 s.2.2.2)) made,
   tqP k s.1 made (tqP k s.1 made s.2.2.1 s.2.2.2) (tqQ k s.1 made s.2.2.1 s.2.2.2),
   tqQ k s.1 made (tqP k s.1 made s.2.2.1 s.2.2.2) (tqQ k s.1 made s.2.2.1 s.2.2.2))
def tq (k : Nat) (W0 : Nat → Nat) : Nat → TQ
  | 0 => (W0, fun _ => 0, 0, k)
  | m + 1 => tqS k (k + m) (tq k W0 m)
def fr (k made p q t : Nat) : Prop := (p ≤ t ∧ t < k) ∨ (q ≤ t ∧ t < made)
theorem tq_take {k made p q : Nat} {W : Nat → Nat} (hp : p ≤ k) (hq : k ≤ q) (hqm : q ≤ made) (hf : 0 < (k - p) + (made - q)) :
    fr k made p q (tqI k W made p q) ∧ tqP k W made p q ≤ k ∧ k ≤ tqQ k W made p q ∧ tqQ k W made p q ≤ made ∧ tqP k W made p q + tqQ k W made p q = p + q + 1 ∧ p ≤ tqP k W made p q ∧ q ≤ tqQ k W made p q ∧ (∀ t, fr k made (tqP k W made p q) (tqQ k W made p q) t ↔ fr k made p q t ∧ ¬ t = tqI k W made p q) := by
  unfold tqI tqP tqQ
  by_cases h : tqL k W made p q
  · rw [if_pos h, if_pos h, if_pos h]
    unfold tqL at h
    refine ⟨Or.inl ⟨by omega, by omega⟩, by omega, hq, hqm, by omega, by omega, by omega, fun t => ?_⟩
    unfold fr
    omega
  · rw [if_neg h, if_neg h, if_neg h]
    have : q < made := by
      unfold tqL at h
      by_cases hpk : p < k
      · by_cases hqm2 : q < made
        · exact hqm2
        · exact absurd ⟨hpk, Or.inl hqm2⟩ h
      · omega
    refine ⟨Or.inr ⟨by omega, by omega⟩, hp, by omega, by omega, by omega, by omega, by omega, fun t => ?_⟩
    unfold fr
    omega
/-- the tree that is taken is the least, of like ones the first -/
theorem tq_min {k made p q : Nat} {W φ : Nat → Nat} (hq : k ≤ q) (hf : 0 < (k - p) + (made - q)) (hL : ∀ s t, s < t → t < k → W s < W t ∨ (W s = W t ∧ φ s < φ t)) (hJ : ∀ s t, k ≤ s → s ≤ t → t < made → W s ≤ W t) (hφ1 : ∀ t, t < k → φ t < k) (hφ2 : ∀ t, k ≤ t → φ t = t) :
    ∀ t, fr k made p q t → W (tqI k W made p q) < W t ∨ (W (tqI k W made p q) = W t ∧ φ (tqI k W made p q) ≤ φ t) := by
  intro t ht
  have leaf : ∀ t, p ≤ t → t < k → W p < W t ∨ (W p = W t ∧ φ p ≤ φ t) := by
    intro t h1 h2
    by_cases he : t = p
    · rw [he]; exact Or.inr ⟨rfl, Nat.le_refl _⟩
    · rcases hL p t (by omega) h2 with h | h
      · exact Or.inl h
      · exact Or.inr ⟨h.1, by omega⟩
  have join : ∀ t, q ≤ t → t < made → W q < W t ∨ (W q = W t ∧ φ q ≤ φ t) := by
    intro t h1 h2
    rw [hφ2 q hq, hφ2 t (by omega)]
    have := hJ q t hq h1 h2
    omega
  unfold tqI
  by_cases h : tqL k W made p q
  · rw [if_pos h]
    unfold tqL at h
    rcases ht with ht | ht
    · exact leaf t ht.1 ht.2
    · have h1 : W p ≤ W q := by
        rcases h.2 with h2 | h2
        · omega
        · exact h2
      have h3 := join t ht.1 ht.2
      have h4 := hφ1 p h.1
      have h5 := hφ2 t (by omega)
      omega
  · rw [if_neg h]
    unfold tqL at h
    rcases ht with ht | ht
    · have h3 := leaf t ht.1 ht.2
      have h6 : ¬ (¬ q < made ∨ W p ≤ W q) := fun h7 => h ⟨by omega, h7⟩
      omega
    · exact join t ht.1 ht.2
def fib : Nat → Nat
  | 0 => 0
  | 1 => 1
  | n + 2 => fib n + fib (n + 1)
theorem fib_mono : ∀ {a b : Nat}, a ≤ b → fib a ≤ fib b := by
  have key : ∀ a, fib a ≤ fib (a + 1) := by
    intro a
    match a with
    | 0 => decide
    | a + 1 => show fib (a + 1) ≤ fib a + fib (a + 1); omega
  intro a b h
  induction h with
  | refl => exact Nat.le_refl _
  | step _ ih => exact Nat.le_trans ih (key _)
def sumR (W : Nat → Nat) (a : Nat) : Nat → Nat
  | 0 => 0
  | l + 1 => sumR W a l + W (a + l)
theorem sumR_front (W : Nat → Nat) (a : Nat) : ∀ l, sumR W a (l + 1) = W a + sumR W (a + 1) l
  | 0 => by simp [sumR]
  | l + 1 => by
    have ih := sumR_front W a l
    show sumR W a (l + 1) + W (a + (l + 1)) = W a + (sumR W (a + 1) l + W (a + 1 + l))
    rw [ih, show a + (l + 1) = a + 1 + l by omega]
    omega
theorem sumR_cg {W V : Nat → Nat} {a : Nat} : ∀ {l : Nat}, (∀ t, a ≤ t → t < a + l → W t = V t) → sumR W a l = sumR V a l
  | 0, _ => rfl
  | l + 1, h => by
    show sumR W a l + W (a + l) = sumR V a l + V (a + l)
    rw [sumR_cg (fun t h1 h2 => h t h1 (by omega)), h (a + l) (by omega) (by omega)]
/-- what holds when m trees are joined -/
def TI (k N : Nat) (W0 : Nat → Nat) (m : Nat) (s : TQ) (y : Nat) (H : Nat → Nat) : Prop :=
  (s.2.2.1 ≤ k ∧ k ≤ s.2.2.2 ∧ s.2.2.2 ≤ k + m ∧ s.2.2.1 + s.2.2.2 = k + 2 * m) ∧ (∀ t, t < k → s.1 t = W0 t) ∧ (∀ i j, k ≤ i → i ≤ j → j < k + m → s.1 i ≤ s.1 j) ∧
  (1 ≤ y ∧ (∀ t, fr k (k + m) s.2.2.1 s.2.2.2 t → y ≤ s.1 t) ∧ (0 < m → s.1 (k + m - 1) ≤ 2 * y)) ∧
  (∀ t, t < k + m → fib (H t + 2) ≤ s.1 t ∧ fib (H t + 1) ≤ y) ∧
  (∀ t, t < k + m → ¬ fr k (k + m) s.2.2.1 s.2.2.2 t → k ≤ s.2.1 t ∧ t < s.2.1 t ∧ s.2.1 t < k + m ∧ H t + 1 ≤ H (s.2.1 t)) ∧
  sumR s.1 s.2.2.1 (k - s.2.2.1) + sumR s.1 s.2.2.2 (k + m - s.2.2.2) = N
theorem sumR_take {k made p q : Nat} {W : Nat → Nat} (hp : p ≤ k) (hq : k ≤ q) (hqm : q ≤ made) (hf : 0 < (k - p) + (made - q)) :
    sumR W p (k - p) + sumR W q (made - q) = W (tqI k W made p q) + (sumR W (tqP k W made p q) (k - tqP k W made p q) + sumR W (tqQ k W made p q) (made - tqQ k W made p q)) := by
  unfold tqI tqP tqQ
  by_cases h : tqL k W made p q
  · rw [if_pos h, if_pos h, if_pos h]
    unfold tqL at h
    rw [show k - p = (k - (p + 1)) + 1 by omega, sumR_front]
    omega
  · rw [if_neg h, if_neg h, if_neg h]
    have : q < made := by
      unfold tqL at h
      by_cases hpk : p < k
      · by_cases hqm2 : q < made
        · exact hqm2
        · exact absurd ⟨hpk, Or.inl hqm2⟩ h
      · omega
    rw [show made - q = (made - (q + 1)) + 1 by omega, sumR_front]
    omega
theorem TI_step {k N : Nat} {W0 : Nat → Nat} (hW : ∀ s t, s < t → t < k → W0 s ≤ W0 t) {m : Nat} (hm : m + 1 < k) {s : TQ} {y : Nat} {H : Nat → Nat} (h : TI k N W0 m s y H) : ∃ y' H', TI k N W0 (m + 1) (tqS k (k + m) s) y' H' := by
  obtain ⟨W, par, p, q⟩ := s
  obtain ⟨⟨a1, a2, a3, a4⟩, b, c, ⟨d1, d2, d3⟩, e, f, g⟩ := h
  dsimp only at a1 a2 a3 a4 b c d1 d2 d3 e f g
  have hL : ∀ s t, s < t → t < k → W s < W t ∨ (W s = W t ∧ s < t) := by
    intro s t h1 h2
    rw [b s (by omega), b t h2]
    have := hW s t h1 h2
    omega
  obtain ⟨u1, u2, u3, u4, u5, u9, u10, u6⟩ := tq_take (W := W) a1 a2 a3 (by omega)
  have v1 := tq_min (W := W) (φ := fun t => t) a2 (by omega) hL c (fun t h => h) (fun t _ => rfl) (p := p)
  have w1 := sumR_take (W := W) a1 a2 a3 (by omega)
  unfold tqS
  dsimp only
  generalize hi : tqI k W (k + m) p q = i at *
  generalize hp1 : tqP k W (k + m) p q = p1 at *
  generalize hq1 : tqQ k W (k + m) p q = q1 at *
  obtain ⟨x1, x2, x3, x4, x5, x9, x10, x6⟩ := tq_take (W := W) u2 u3 u4 (by omega)
  have v2 := tq_min (W := W) (φ := fun t => t) u3 (by omega) hL c (fun t h => h) (fun t _ => rfl) (p := p1)
  have w2 := sumR_take (W := W) u2 u3 u4 (by omega)
  generalize hj : tqI k W (k + m) p1 q1 = j at *
  generalize hp2 : tqP k W (k + m) p1 q1 = p2 at *
  generalize hq2 : tqQ k W (k + m) p1 q1 = q2 at *
  clear hi hp1 hq1 hj hp2 hq2
  have frl : ∀ {p q t : Nat}, fr k (k + m) p q t → t < k + m := by
    intro p q t h
    unfold fr at h
    omega
  have hiM := frl u1
  have hjM := frl x1
  have hij : ¬ j = i := ((u6 j).mp x1).2
  have hjf : fr k (k + m) p q j := ((u6 j).mp x1).1
  have hyi := d2 i u1
  have hyj := d2 j hjf
  have hWij : W i ≤ W j := by
    have := v1 j hjf
    omega
  have hH : ∀ t, t < k + m → updN W (k + m) (W i + W j) t = W t := fun t ht => updN_n (by omega)
  refine ⟨W j, updN H (k + m) (1 + max (H i) (H j)), ⟨x2, x3, by show q2 ≤ k + (m + 1); omega, by show p2 + q2 = k + 2 * (m + 1); omega⟩, fun t ht => by show updN W (k + m) (W i + W j) t = W0 t; rw [hH t (by omega)]; exact b t ht, ?_, ⟨by omega, ?_, ?_⟩, ?_, ?_, ?_⟩
  · intro i1 j1 h1 h2 h3
    show updN W (k + m) (W i + W j) i1 ≤ updN W (k + m) (W i + W j) j1
    by_cases hj1 : j1 = k + m
    · rw [hj1, updN_s]
      by_cases hi1 : i1 = k + m
      · rw [hi1, updN_s]; exact Nat.le_refl _
      · rw [hH i1 (by omega)]
        have := c i1 (k + m - 1) h1 (by omega) (by omega)
        have := d3 (by omega)
        omega
    · rw [hH i1 (by omega), hH j1 (by omega)]
      exact c i1 j1 h1 h2 (by omega)
  · intro t ht
    show W j ≤ updN W (k + m) (W i + W j) t
    by_cases h1 : t = k + m
    · rw [h1, updN_s]; omega
    · have ht2 : fr k (k + m) p2 q2 t := by
        dsimp only [fr] at ht ⊢
        omega
      rw [hH t (frl ht2)]
      have := v2 t ((x6 t).mp ht2).1
      omega
  · intro _
    show updN W (k + m) (W i + W j) (k + (m + 1) - 1) ≤ 2 * W j
    rw [show k + (m + 1) - 1 = k + m by omega, updN_s]
    omega
  · intro t ht
    by_cases h1 : t = k + m
    · rw [h1, updN_s]
      have ei := e i hiM
      have ej := e j hjM
      show fib (1 + max (H i) (H j) + 2) ≤ updN W (k + m) (W i + W j) (k + m) ∧ fib (1 + max (H i) (H j) + 1) ≤ W j
      rw [updN_s]
      rcases Nat.le_total (H i) (H j) with hh | hh
      · rw [Nat.max_eq_right hh, show 1 + H j + 2 = H j + 1 + 2 by omega, show 1 + H j + 1 = H j + 2 by omega]
        refine ⟨?_, ej.1⟩
        show fib (H j + 1) + fib (H j + 1 + 1) ≤ W i + W j
        have := ej.1
        have := ej.2
        rw [show H j + 1 + 1 = H j + 2 by omega]
        omega
      · rw [Nat.max_eq_left hh, show 1 + H i + 2 = H i + 1 + 2 by omega, show 1 + H i + 1 = H i + 2 by omega]
        refine ⟨?_, by omega⟩
        show fib (H i + 1) + fib (H i + 1 + 1) ≤ W i + W j
        rw [show H i + 1 + 1 = H i + 2 by omega]
        omega
    · rw [updN_n h1]
      show fib (H t + 2) ≤ updN W (k + m) (W i + W j) t ∧ fib (H t + 1) ≤ W j
      rw [hH t (by omega)]
      have := e t (by omega)
      exact ⟨this.1, by omega⟩
  · intro t ht hnf
    show k ≤ updN (updN par i (k + m)) j (k + m) t ∧ t < updN (updN par i (k + m)) j (k + m) t ∧ updN (updN par i (k + m)) j (k + m) t < k + (m + 1) ∧ updN H (k + m) (1 + max (H i) (H j)) t + 1 ≤ updN H (k + m) (1 + max (H i) (H j)) (updN (updN par i (k + m)) j (k + m) t)
    have ht1 : ¬ t = k + m := by
      intro h1
      apply hnf
      dsimp only [fr]
      omega
    rw [updN_n (f := H) ht1]
    by_cases h2 : t = j
    · subst h2
      rw [updN_s, updN_s]
      omega
    · rw [updN_n (f := updN par i (k + m)) h2]
      by_cases h3 : t = i
      · subst h3
        rw [updN_s, updN_s]
        omega
      · rw [updN_n h3]
        have hnf2 : ¬ fr k (k + m) p q t := by
          intro h4
          apply hnf
          have h5 := (x6 t).mpr ⟨(u6 t).mpr ⟨h4, h3⟩, h2⟩
          dsimp only [fr] at h5 ⊢
          omega
        obtain ⟨k1, k2, k3, k4⟩ := f t (by omega) hnf2
        rw [updN_n (show ¬ par t = k + m by omega)]
        exact ⟨k1, k2, by omega, k4⟩
  · show sumR (updN W (k + m) (W i + W j)) p2 (k - p2) + sumR (updN W (k + m) (W i + W j)) q2 (k + (m + 1) - q2) = N
    rw [show k + (m + 1) - q2 = (k + m - q2) + 1 by omega]
    show sumR (updN W (k + m) (W i + W j)) p2 (k - p2) + (sumR (updN W (k + m) (W i + W j)) q2 (k + m - q2) + updN W (k + m) (W i + W j) (q2 + (k + m - q2))) = N
    rw [sumR_cg (V := W) (fun t h1 h2 => hH t (by omega)), sumR_cg (W := updN W (k + m) (W i + W j)) (V := W) (fun t h1 h2 => hH t (by omega)), show q2 + (k + m - q2) = k + m by omega, updN_s]
    omega
theorem TI_0 {k N : Nat} {W0 : Nat → Nat} (h1 : ∀ t, t < k → 1 ≤ W0 t) (hN : sumR W0 0 k = N) : TI k N W0 0 (tq k W0 0) 1 (fun _ => 0) := by
  refine ⟨⟨Nat.zero_le _, Nat.le_refl _, by show k ≤ k + 0; omega, by show 0 + k = k + 2 * 0; omega⟩, fun t _ => rfl, fun i j a b c => by omega, ⟨Nat.le_refl _, ?_, fun h => by omega⟩, ?_, ?_, ?_⟩
  · intro t ht
    refine h1 t ?_
    unfold fr tq at ht
    dsimp only at ht
    omega
  · intro t ht
    exact ⟨by show 1 ≤ W0 t; exact h1 t (by omega), by show 1 ≤ 1; omega⟩
  · intro t ht hf
    exfalso
    apply hf
    unfold fr tq
    dsimp only
    omega
  · show sumR W0 0 (k - 0) + sumR W0 k (k + 0 - k) = N
    rw [Nat.sub_zero, show k + 0 - k = 0 by omega]
    exact hN
theorem TI_all {k N : Nat} {W0 : Nat → Nat} (hW : ∀ s t, s < t → t < k → W0 s ≤ W0 t) (h1 : ∀ t, t < k → 1 ≤ W0 t) (hN : sumR W0 0 k = N) : ∀ m, m < k → ∃ y H, TI k N W0 m (tq k W0 m) y H
  | 0, _ => ⟨_, _, TI_0 h1 hN⟩
  | m + 1, hm => by
    obtain ⟨y, H, h⟩ := TI_all hW h1 hN m (by omega)
    exact TI_step hW hm h
/-! depths -/
def dpt (par : Nat → Nat) (root : Nat) : Nat → Nat → Nat
  | 0, _ => 0
  | n + 1, t => if root ≤ t then 0 else dpt par root n (par t) + 1
theorem dpt_fuel {par : Nat → Nat} {root : Nat} (hp : ∀ t, t < root → t < par t) : ∀ a b t, root - t ≤ a → root - t ≤ b → dpt par root a t = dpt par root b t
  | 0, 0, t => fun _ _ => rfl
  | 0, b + 1, t => fun h1 _ => by unfold dpt; rw [if_pos (by omega)]
  | a + 1, 0, t => fun _ h2 => by unfold dpt; rw [if_pos (by omega)]
  | a + 1, b + 1, t => fun h1 h2 => by
    unfold dpt
    by_cases h : root ≤ t
    · rw [if_pos h, if_pos h]
    · rw [if_neg h, if_neg h]
      have := hp t (by omega)
      rw [dpt_fuel hp a b (par t) (by omega) (by omega)]
def dep (par : Nat → Nat) (root t : Nat) : Nat := dpt par root root t
theorem dep_root {par : Nat → Nat} {root : Nat} : dep par root root = 0 := by
  unfold dep
  cases root with
  | zero => rfl
  | succ r => unfold dpt; rw [if_pos (Nat.le_refl _)]
theorem dep_step {par : Nat → Nat} {root t : Nat} (hp : ∀ t, t < root → t < par t) (ht : t < root) : dep par root t = dep par root (par t) + 1 := by
  have h := hp t ht
  have e : dep par root t = dpt par root (root + 1) t := dpt_fuel hp _ _ _ (by omega) (by omega)
  rw [e]
  show (if root ≤ t then 0 else dpt par root root (par t) + 1) = _
  rw [if_neg (by omega)]
  rfl
theorem dep_H {par H : Nat → Nat} {root : Nat} (hp : ∀ t, t < root → t < par t ∧ par t ≤ root ∧ H t + 1 ≤ H (par t)) : ∀ d t, root - t ≤ d → t ≤ root → dep par root t + H t ≤ H root := by
  intro d
  induction d with
  | zero =>
    intro t h1 h2
    rw [show t = root by omega, dep_root]
    omega
  | succ d ih =>
    intro t h1 h2
    by_cases h : t = root
    · rw [h, dep_root]; omega
    · obtain ⟨a, b, c⟩ := hp t (by omega)
      rw [dep_step (fun t ht => (hp t ht).1) (by omega)]
      have := ih (par t) (by omega) b
      omega
