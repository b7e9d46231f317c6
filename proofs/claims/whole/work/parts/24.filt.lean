/-! FILTERS: what they make of a row -/
/-- the number of a byte -/
def bN (x : Int32) : Nat := x.toNatClampNeg
theorem bN_nI {b : Nat} (h : b < 256) : bN (nI b) = b := nI_clamp (by omega)
theorem isB_bN {f : Nat → Int32} {n j : Nat} (h : isB f n) (hj : j < n) : f j = nI (bN (f j)) ∧ bN (f j) < 256 := by
  obtain ⟨b, hb, e⟩ := h j hj
  rw [e, bN_nI hb]
  exact ⟨rfl, hb⟩
/-- DELTA and back -/
def fdel (f : Nat → Int32) (v j : Nat) : Int32 := if j < v then f j else nI ((bN (f j) + (256 - bN (f (j - v)))) % 256)
def udel (f : Nat → Int32) (v : Nat) : Nat → Nat → Int32
  | 0, _ => 0
  | k + 1, j => if j < v then f j else nI ((bN (f j) + bN (udel f v k (j - v))) % 256)
/-- FRONT and back: the list, what comes to the front -/
def mtf (o : Nat → Int32) (p : Nat) : Nat → Int32 := fun j => if j = 0 then o p else if j ≤ p then o (j - 1) else o j
def pos (o : Nat → Int32) (b : Int32) : Nat → Nat → Nat
  | 0, p => p
  | k + 1, p => if o p = b then p else pos o b k (p + 1)
def ofr (f : Nat → Int32) : Nat → Nat → Int32
  | 0 => fun b => nI b
  | i + 1 => mtf (ofr f i) (pos (ofr f i) (f i) 256 0)
def obk (f : Nat → Int32) : Nat → Nat → Int32
  | 0 => fun b => nI b
  | i + 1 => mtf (obk f i) (bN (f i))
/-- every byte stands in the list, and nothing else -/
def perm (o : Nat → Int32) : Prop := isB o 256 ∧ ∀ b, b < 256 → ∃ p, p < 256 ∧ o p = nI b
theorem perm_0 : perm (fun b => nI b) := ⟨fun j hj => ⟨j, hj, rfl⟩, fun b hb => ⟨b, hb, rfl⟩⟩
theorem perm_mtf {o : Nat → Int32} {p : Nat} (h : perm o) (hp : p < 256) : perm (mtf o p) := by
  refine ⟨fun j hj => ?_, fun b hb => ?_⟩
  · unfold mtf
    split
    · exact h.1 p hp
    · split
      · exact h.1 (j - 1) (by omega)
      · exact h.1 j hj
  · obtain ⟨q, hq, e⟩ := h.2 b hb
    by_cases h1 : q = p
    · refine ⟨0, by omega, ?_⟩
      unfold mtf
      rw [if_pos rfl, ← h1, e]
    · by_cases h2 : q < p
      · refine ⟨q + 1, by omega, ?_⟩
        unfold mtf
        rw [if_neg (by omega), if_pos (by omega)]
        exact e
      · refine ⟨q, hq, ?_⟩
        unfold mtf
        rw [if_neg (by omega), if_neg (by omega), e]
theorem pos_ok {o : Nat → Int32} {b : Int32} : ∀ (k p : Nat), (∃ q, p ≤ q ∧ q < p + k ∧ o q = b) → p ≤ pos o b k p ∧ pos o b k p < p + k ∧ o (pos o b k p) = b ∧ ∀ q, p ≤ q → q < pos o b k p → ¬ o q = b
  | 0, p, h => by
    obtain ⟨q, h1, h2, -⟩ := h
    omega
  | k + 1, p, h => by
    show p ≤ (if o p = b then p else pos o b k (p + 1)) ∧ (if o p = b then p else pos o b k (p + 1)) < p + (k + 1) ∧ o (if o p = b then p else pos o b k (p + 1)) = b ∧ ∀ q, p ≤ q → q < (if o p = b then p else pos o b k (p + 1)) → ¬ o q = b
    by_cases hp : o p = b
    · rw [if_pos hp]
      exact ⟨Nat.le_refl _, by omega, hp, fun q h1 h2 => by omega⟩
    · rw [if_neg hp]
      obtain ⟨q, h1, h2, h3⟩ := h
      have := pos_ok (o := o) (b := b) k (p + 1) ⟨q, by
        by_cases hq : q = p
        · rw [hq] at h3; exact absurd h3 hp
        · omega, by omega, h3⟩
      refine ⟨by omega, by omega, this.2.2.1, fun q g1 g2 => ?_⟩
      by_cases hq : q = p
      · rw [hq]; exact hp
      · exact this.2.2.2 q (by omega) g2
theorem pos_perm {o : Nat → Int32} {b : Nat} (h : perm o) (hb : b < 256) : pos o (nI b) 256 0 < 256 ∧ o (pos o (nI b) 256 0) = nI b ∧ ∀ q, q < pos o (nI b) 256 0 → ¬ o q = nI b := by
  obtain ⟨q, hq, e⟩ := h.2 b hb
  have := pos_ok (o := o) (b := nI b) 256 0 ⟨q, by omega, by omega, e⟩
  exact ⟨by omega, this.2.2.1, fun q h => this.2.2.2 q (by omega) h⟩
theorem ofr_perm {f : Nat → Int32} {n : Nat} (hB : isB f n) : ∀ i, i ≤ n → perm (ofr f i)
  | 0, _ => perm_0
  | i + 1, h => by
    obtain ⟨b, hb, e⟩ := hB i (by omega)
    have ih := ofr_perm hB i (by omega)
    show perm (mtf (ofr f i) (pos (ofr f i) (f i) 256 0))
    rw [e]
    exact perm_mtf ih (pos_perm ih hb).1
theorem obk_perm {f : Nat → Int32} {n : Nat} (hB : isB f n) : ∀ i, i ≤ n → perm (obk f i)
  | 0, _ => perm_0
  | i + 1, h => perm_mtf (obk_perm hB i (by omega)) (isB_bN hB (by omega)).2
/-- PLANES: how many bytes plane p has; how many the planes below p have -/
def plen (n v p : Nat) : Nat := (n + v - 1 - p) / v
def plow (n v : Nat) : Nat → Nat
  | 0 => 0
  | p + 1 => plow n v p + (if p < n then plen n v p else 0)
theorem plow_all : ∀ n, n < 301 → ∀ v, v < 9 → 2 ≤ v → plow n v v = n := by decide +kernel
theorem plow_mono {n v : Nat} {p q : Nat} (h : p ≤ q) : plow n v p ≤ plow n v q := by
  induction q with
  | zero => rw [show p = 0 by omega]; exact Nat.le_refl _
  | succ q ih =>
    by_cases hp : p = q + 1
    · rw [hp]; exact Nat.le_refl _
    · have := ih (by omega)
      show _ ≤ plow n v q + (if q < n then plen n v q else 0)
      omega
theorem plen_iff {n v p s : Nat} (hv : 0 < v) (hpv : p < v) (hp : p < n) : s < plen n v p ↔ p + s * v < n := by
  unfold plen
  rw [Nat.lt_div_iff_mul_lt hv]
  constructor <;> intro h <;> omega
/-- where the byte at x of the row goes to -/
def dst (n v x : Nat) : Nat := plow n v (x % v) + x / v
/-- which byte of the row comes to place j -/
def src (n v : Nat) : Nat → Nat → Nat → Nat
  | 0, _, _ => 0
  | k + 1, p, j => if j < plow n v (p + 1) then p + (j - plow n v p) * v else src n v k (p + 1) j
theorem src_at {n v p s : Nat} (hpv : p < v) (hp : p < n) (hs : s < plen n v p) : ∀ (k q : Nat), q + k = v → q ≤ p → src n v k q (plow n v p + s) = p + s * v
  | 0, q, hk, hq => by omega
  | k + 1, q, hk, hq => by
    show (if plow n v p + s < plow n v (q + 1) then q + (plow n v p + s - plow n v q) * v else src n v k (q + 1) (plow n v p + s)) = _
    by_cases hqp : q = p
    · subst hqp
      have e : plow n v (q + 1) = plow n v q + plen n v q := by
        show plow n v q + (if q < n then plen n v q else 0) = _
        rw [if_pos hp]
      rw [if_pos (by omega), show plow n v q + s - plow n v q = s by omega]
    · have := plow_mono (n := n) (v := v) (p := q + 1) (q := p) (by omega)
      rw [if_neg (by omega)]
      exact src_at hpv hp hs k (q + 1) (by omega) (by omega)
theorem dst_at {n v p s : Nat} (hv : 0 < v) (hpv : p < v) : dst n v (p + s * v) = plow n v p + s := by
  unfold dst
  rw [Nat.add_mul_mod_self_right, Nat.mod_eq_of_lt hpv, Nat.add_mul_div_right _ _ hv, Nat.div_eq_of_lt hpv, Nat.zero_add]
theorem dst_inj {n v p s x : Nat} (hv : 0 < v) (hpv : p < v) (hp : p < n) (hs : s < plen n v p) (hx : x < n) (h : dst n v x = plow n v p + s) : x = p + s * v := by
  have hq : x % v < v := Nat.mod_lt _ hv
  have hxe : x = x % v + x / v * v := by
    have := Nat.mod_add_div x v
    rw [Nat.mul_comm] at this
    omega
  have hqn : x % v < n := Nat.lt_of_le_of_lt (Nat.mod_le _ _) hx
  have hs' : x / v < plen n v (x % v) := (plen_iff hv hq hqn).mpr (by omega)
  unfold dst at h
  have e1 : plow n v (p + 1) = plow n v p + plen n v p := by
    show plow n v p + (if p < n then plen n v p else 0) = _
    rw [if_pos hp]
  have e2 : plow n v (x % v + 1) = plow n v (x % v) + plen n v (x % v) := by
    show plow n v (x % v) + (if x % v < n then plen n v (x % v) else 0) = _
    rw [if_pos hqn]
  have hpq : x % v = p := by
    generalize x / v = y at h hs' hxe
    rcases Nat.lt_trichotomy (x % v) p with h1 | h1 | h1
    · have := plow_mono (n := n) (v := v) (p := x % v + 1) (q := p) (by omega)
      omega
    · exact h1
    · have := plow_mono (n := n) (v := v) (p := p + 1) (q := x % v) (by omega)
      omega
  rw [hpq] at h hxe
  have hss : x / v = s := by omega
  rw [hss] at hxe
  exact hxe
theorem dst_lt {n v x : Nat} (hn : n ≤ 300) (hv : 2 ≤ v ∧ v ≤ 8) (hx : x < n) : dst n v x < n := by
  have hq : x % v < v := Nat.mod_lt _ (by omega)
  have hqn : x % v < n := Nat.lt_of_le_of_lt (Nat.mod_le _ _) hx
  have hxe : x % v + x / v * v = x := by
    have := Nat.mod_add_div x v
    rw [Nat.mul_comm] at this
    exact this
  have hs' : x / v < plen n v (x % v) := (plen_iff (by omega) hq hqn).mpr (by omega)
  have e2 : plow n v (x % v + 1) = plow n v (x % v) + plen n v (x % v) := by
    show plow n v (x % v) + (if x % v < n then plen n v (x % v) else 0) = _
    rw [if_pos hqn]
  have h1 := plow_mono (n := n) (v := v) (p := x % v + 1) (q := v) (by omega)
  have h2 := plow_all n (by omega) v (by omega) hv.1
  unfold dst
  omega
/-- what FILTER kind by v makes of the n bytes f; and back -/
def fmk (kind v : Nat) (f : Nat → Int32) (n j : Nat) : Int32 := if kind = 1 then fdel f v j else if kind = 2 then nI (pos (ofr f j) (f j) 256 0) else if kind = 3 then f (src n v v 0 j) else f j ^^^ nI v
def fun_ (kind v : Nat) (f : Nat → Int32) (n j : Nat) : Int32 := if kind = 1 then udel f v (j + 1) j else if kind = 2 then obk f j (bN (f j)) else if kind = 3 then f (dst n v j) else f j ^^^ nI v
/-- a FILTER that can be -/
def fok (kind v : Nat) : Prop := (kind = 1 ∧ 1 ≤ v ∧ v ≤ 8) ∨ (kind = 2 ∧ v = 0) ∨ (kind = 3 ∧ 2 ≤ v ∧ v ≤ 8) ∨ (kind = 4 ∧ 1 ≤ v ∧ v ≤ 255)
theorem xor_lt {a b : Nat} (ha : a < 256) (hb : b < 256) : a ^^^ b < 256 := Nat.xor_lt_two_pow (n := 8) ha hb
theorem fdel_B {f : Nat → Int32} {v j n : Nat} (hB : isB f n) (hj : j < n) : ∃ b, b < 256 ∧ fdel f v j = nI b := by
  unfold fdel
  split
  · exact hB j hj
  · exact ⟨_, Nat.mod_lt _ (by decide), rfl⟩
theorem udel_B {f : Nat → Int32} {v n : Nat} (hB : isB f n) : ∀ k j, j < n → ∃ b, b < 256 ∧ udel f v k j = nI b
  | 0, _, _ => ⟨0, by decide, rfl⟩
  | k + 1, j, hj => by
    show ∃ b, b < 256 ∧ (if j < v then f j else nI ((bN (f j) + bN (udel f v k (j - v))) % 256)) = nI b
    split
    · exact hB j hj
    · exact ⟨_, Nat.mod_lt _ (by decide), rfl⟩
theorem udel_k {f : Nat → Int32} {v : Nat} (hv : 0 < v) : ∀ k j, j < k → udel f v k j = udel f v (j + 1) j
  | 0, j, h => by omega
  | k + 1, j, h => by
    show (if j < v then f j else nI ((bN (f j) + bN (udel f v k (j - v))) % 256)) = if j < v then f j else nI ((bN (f j) + bN (udel f v j (j - v))) % 256)
    by_cases hj : j < v
    · rw [if_pos hj, if_pos hj]
    · rw [if_neg hj, if_neg hj, udel_k hv k (j - v) (by omega), udel_k hv j (j - v) (by omega)]
