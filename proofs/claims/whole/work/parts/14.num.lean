/-! numbers: shifts, masks, joined rows -/
theorem nI_or (a b : Nat) : nI a ||| nI b = nI (a ||| b) := by
  apply Int32.toBitVec_inj.mp
  show (nI a).toBitVec ||| (nI b).toBitVec = (nI (a ||| b)).toBitVec
  show BitVec.ofNat 32 a ||| BitVec.ofNat 32 b = BitVec.ofNat 32 (a ||| b)
  apply BitVec.eq_of_toNat_eq
  simp [Nat.or_mod_two_pow]
theorem nI_xor (a b : Nat) : nI a ^^^ nI b = nI (a ^^^ b) := by
  apply Int32.toBitVec_inj.mp
  show BitVec.ofNat 32 a ^^^ BitVec.ofNat 32 b = BitVec.ofNat 32 (a ^^^ b)
  apply BitVec.eq_of_toNat_eq
  simp [Nat.xor_mod_two_pow]
theorem sh_l : ∀ n, n < 32 → ((nI n &&& 31).toBitVec.smod 32).toNat = n := by decide +kernel
theorem nI_shl {a k : Nat} (hk : k < 32) (h : a * 2 ^ k < 2 ^ 32) : nI a <<< (nI k &&& 31) = nI (a * 2 ^ k) := pk_shlN _ k (sh_l k hk) h
theorem nI_shr {a k : Nat} (hk : k < 32) (h : a < 2 ^ 31) : nI a >>> (nI k &&& 31) = nI (a / 2 ^ k) := pk_shrN h _ k (sh_l k hk)
theorem nI_shl1 {a : Nat} (h : a * 2 < 2 ^ 32) : nI a <<< ((1 : Int32) &&& 31) = nI (2 * a) := by
  have := nI_shl (a := a) (k := 1) (by decide) (by omega)
  rw [Nat.mul_comm 2 a]
  exact this
theorem nI_and1 {a : Nat} (h : a < 2 ^ 32) : nI a &&& 1 = nI (a % 2) := pk_andN h 1 rfl
theorem nI_and255 {a : Nat} (h : a < 2 ^ 32) : nI a &&& 255 = nI (a % 256) := pk_andN h 8 rfl
theorem nI_and255s {a : Nat} (h : a < 256) : nI a &&& 255 = nI a := by rw [nI_and255 (by omega), Nat.mod_eq_of_lt h]
theorem or_bit {h b : Nat} (hb : b < 2) : 2 * h ||| b = 2 * h + b := (Nat.two_pow_add_eq_or_of_lt (i := 1) (by omega) h).symm
/-- a row f, behind place m the list L -/
def app (f : Nat → Int32) (m : Nat) (L : List Int32) : Nat → Int32 := fun j => if m ≤ j then (L[j - m]?).getD (f j) else f j
theorem app_nil (f : Nat → Int32) (m : Nat) : app f m [] = f := by
  funext j
  unfold app
  split <;> simp
theorem app_push (f : Nat → Int32) (m k : Nat) (L : List Int32) (v : Int32) (hk : k = m + L.length) : upd (app f m L) k v = app f m (L ++ [v]) := by
  subst hk
  funext j
  unfold upd app
  by_cases h : j = m + L.length
  · subst h
    rw [if_pos rfl, if_pos (by omega)]
    simp
  · rw [if_neg h]
    by_cases h2 : m ≤ j
    · rw [if_pos h2, if_pos h2]
      by_cases h3 : j - m < L.length
      · rw [List.getElem?_append_left h3]
      · rw [List.getElem?_append_right (by omega), List.getElem?_eq_none (by omega : L.length ≤ j - m)]
        rw [List.getElem?_eq_none]
        simp
        omega
    · rw [if_neg h2, if_neg h2]
theorem app_app (f : Nat → Int32) (m : Nat) (L K : List Int32) : app (app f m L) (m + L.length) K = app f m (L ++ K) := by
  funext j
  unfold app
  by_cases h : m + L.length ≤ j
  · rw [if_pos h, if_pos (by omega), if_pos (by omega)]
    rw [List.getElem?_append_right (by omega), List.getElem?_eq_none (by omega : L.length ≤ j - m)]
    rw [show j - (m + L.length) = j - m - L.length by omega]
    simp
  · rw [if_neg h]
    by_cases h2 : m ≤ j
    · rw [if_pos h2, if_pos h2, List.getElem?_append_left (by omega)]
    · rw [if_neg h2, if_neg h2]
theorem app_lt {f : Nat → Int32} {m j : Nat} {L : List Int32} (h : j < m) : app f m L j = f j := by
  unfold app
  rw [if_neg (by omega)]
theorem app_at {f : Nat → Int32} {m j : Nat} {L : List Int32} (h : j < L.length) : app f m L (m + j) = L[j] := by
  unfold app
  rw [if_pos (by omega), show m + j - m = j by omega, List.getElem?_eq_getElem h]
  rfl
/-- bits laid one behind the other: full bytes, the bits that wait, how many -/
abbrev BS : Type := List Int32 × Nat × Nat
def b1 (s : BS) (b : Nat) : BS := if s.2.2 + 1 = 8 then (s.1 ++ [nI (2 * s.2.1 + b)], 0, 0) else (s.1, 2 * s.2.1 + b, s.2.2 + 1)
def bp (s : BS) (v : Nat) : Nat → BS
  | 0 => s
  | w + 1 => bp (b1 s (v / 2 ^ w % 2)) v w
def bfin (s : BS) : List Int32 := if 0 < s.2.2 then s.1 ++ [nI (s.2.1 * 2 ^ (8 - s.2.2))] else s.1
def bok (s : BS) : Prop := s.2.2 < 8 ∧ s.2.1 < 2 ^ s.2.2
theorem bok_1 {s : BS} {b : Nat} (h : bok s) (hb : b < 2) : bok (b1 s b) := by
  obtain ⟨h1, h2⟩ := h
  unfold b1 bok
  split
  · exact ⟨by show 0 < 8; decide, by show 0 < 2 ^ 0; decide⟩
  · refine ⟨by show s.2.2 + 1 < 8; omega, ?_⟩
    show 2 * s.2.1 + b < 2 ^ (s.2.2 + 1)
    rw [Nat.pow_succ]
    omega
theorem bok_p {v : Nat} : ∀ (w : Nat) {s : BS}, bok s → bok (bp s v w)
  | 0, _, h => h
  | w + 1, _, h => bok_p w (bok_1 h (Nat.mod_lt _ (by decide)))
theorem b1_len {s : BS} {b : Nat} : (b1 s b).1.length * 8 + (b1 s b).2.2 = s.1.length * 8 + s.2.2 + 1 := by
  unfold b1
  split
  · rename_i h
    simp
    omega
  · simp
    omega
theorem bp_len {v : Nat} : ∀ (w : Nat) (s : BS), (bp s v w).1.length * 8 + (bp s v w).2.2 = s.1.length * 8 + s.2.2 + w
  | 0, _ => rfl
  | w + 1, s => by
    show (bp (b1 s (v / 2 ^ w % 2)) v w).1.length * 8 + (bp (b1 s (v / 2 ^ w % 2)) v w).2.2 = _
    rw [bp_len w, b1_len]
    omega
