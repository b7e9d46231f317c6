/-! counting bytes, widths, bits: what they are -/
def isB (f : Nat → Int32) (n : Nat) : Prop := ∀ j, j < n → ∃ b : Nat, b < 256 ∧ f j = nI b
def cnt (f : Nat → Int32) : Nat → Nat → Nat
  | 0, _ => 0
  | n + 1, b => cnt f n b + (if f n = nI b then 1 else 0)
def unl (f : Nat → Int32) : Nat → Nat
  | 0 => 0
  | n + 1 => unl f n + (if cnt f n (f n).toNatClampNeg = 0 then 1 else 0)
theorem cnt_le (f : Nat → Int32) (n b : Nat) : cnt f n b ≤ n := by
  induction n with
  | zero => exact Nat.le_refl _
  | succ n ih =>
    show cnt f n b + (if f n = nI b then 1 else 0) ≤ n + 1
    split <;> omega
theorem unl_le (f : Nat → Int32) (n : Nat) : unl f n ≤ n := by
  induction n with
  | zero => exact Nat.le_refl _
  | succ n ih =>
    show unl f n + (if cnt f n (f n).toNatClampNeg = 0 then 1 else 0) ≤ n + 1
    split <;> omega
theorem nI_inj {a b : Nat} (ha : a < 2 ^ 31) (hb : b < 2 ^ 31) (h : nI a = nI b) : a = b := (nI_eq ha hb).mp h
def tbl (f : Nat → Int32) (n : Nat) : Nat → Int32 := fun b => nI (cnt f n b)
theorem tbl_0 (f : Nat → Int32) : tbl f 0 = fun _ => 0 := rfl
theorem tbl_step {f g : Nat → Int32} {n b : Nat} (hb : b < 256) (hf : f n = nI b) : upd (cpn (tbl f n) g 256) b (tbl f n b + 1) = cpn (tbl f (n + 1)) g 256 := by
  funext j
  unfold upd cpn
  by_cases h1 : j = b
  · subst h1
    simp only [if_pos rfl, if_pos hb]
    unfold tbl
    rw [nI_1]
    show nI (cnt f n j + 1) = nI (cnt f n j + (if f n = nI j then 1 else 0))
    rw [if_pos hf]
  · rw [if_neg h1]
    by_cases h2 : j < 256
    · rw [if_pos h2, if_pos h2]
      unfold tbl
      show nI (cnt f n j) = nI (cnt f n j + (if f n = nI j then 1 else 0))
      rw [if_neg (fun z => h1 (nI_inj (by omega) (by omega) (z.symm.trans hf))), Nat.add_zero]
    · rw [if_neg h2, if_neg h2]
theorem unl_step {f : Nat → Int32} {n b : Nat} (hb : b < 256) (hf : f n = nI b) : unl f (n + 1) = unl f n + (if cnt f n b = 0 then 1 else 0) := by
  show unl f n + (if cnt f n (f n).toNatClampNeg = 0 then 1 else 0) = _
  rw [hf, nI_clamp (by omega)]
/-- how many bits a number has -/
def wid (m : Nat) : Nat := if m = 0 then 0 else Nat.log2 m + 1
theorem wid_ok : ∀ m, m < 256 → ∀ w, w < 9 → (0 < m / 2 ^ w ↔ w < wid m) := by decide +kernel
theorem wid_8 : ∀ m, m < 256 → wid m ≤ 8 := by decide +kernel
