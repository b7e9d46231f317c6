/-! PREFIX's LENGTHS: pure -/
def lv (c : Nat → Nat) : List Nat := srt c 256
def lk (c : Nat → Nat) : Nat := (lv c).length
def la (c : Nat → Nat) (t : Nat) : Nat := (lv c).getD t 0
def lw (c : Nat → Nat) (t : Nat) : Nat := c (la c t)
def hT (c : Nat → Nat) : TQ := tq (lk c) (lw c) (lk c - 1)
def hD (c : Nat → Nat) (t : Nat) : Nat := dep (hT c).2.1 (2 * lk c - 2) t
def hl (c : Nat → Nat) (b : Nat) : Nat := if b ∈ lv c then (if lk c = 1 then 1 else hD c ((lv c).idxOf b)) else 0
/-- how often: N in all -/
def HC (c : Nat → Nat) (N : Nat) : Prop := ((List.range 256).map c).sum = N
theorem la_get {c : Nat → Nat} {t : Nat} (h : t < lk c) : la c t = (lv c)[t]'h := by
  unfold la
  rw [List.getD_eq_getElem?_getD, List.getElem?_eq_getElem h]
  rfl
theorem la_in {c : Nat → Nat} {t : Nat} (h : t < lk c) : la c t ∈ lv c := by
  rw [la_get h]
  exact List.getElem_mem h
theorem la_mem {c : Nat → Nat} {t : Nat} (h : t < lk c) : la c t < 256 ∧ 0 < c (la c t) := (srt_mem c _ 256).mp (la_in h)
theorem la_lx {c : Nat → Nat} {s t : Nat} (hs : s < t) (ht : t < lk c) : lx c (la c s) (la c t) := pw_get (srt_pw c 256) hs ht
theorem lv_nodup (c : Nat → Nat) : (lv c).Nodup := by
  have h := srt_pw c 256
  refine List.Pairwise.imp ?_ h
  intro a b hab hne
  subst hne
  unfold lx at hab
  omega
theorem la_ix {c : Nat → Nat} {t : Nat} (h : t < lk c) : (lv c).idxOf (la c t) = t := by
  rw [la_get h]
  exact (lv_nodup c).idxOf_getElem t h
theorem la_sur {c : Nat → Nat} {b : Nat} (hb : b < 256) (h : 0 < c b) : ∃ t, t < lk c ∧ la c t = b := by
  have hm : b ∈ lv c := (srt_mem c b 256).mpr ⟨hb, h⟩
  have hl : (lv c).idxOf b < (lv c).length := List.idxOf_lt_length_of_mem hm
  refine ⟨(lv c).idxOf b, hl, ?_⟩
  rw [la_get hl]
  exact List.getElem_idxOf hl
theorem la_inj {c : Nat → Nat} {s t : Nat} (hs : s < lk c) (ht : t < lk c) (h : la c s = la c t) : s = t := by
  rw [← la_ix hs, h, la_ix ht]
theorem srt_le (c : Nat → Nat) : ∀ z, (srt c z).length ≤ z
  | 0 => Nat.le_refl 0
  | z + 1 => by
    have ih := srt_le c z
    have := ipd_le c (c z) (srt c z) (srt c z).length
    unfold srt
    split
    · rw [List.length_append, List.length_cons, List.length_take, List.length_drop]
      omega
    · omega
theorem lk_le (c : Nat → Nat) : lk c ≤ 256 := srt_le c 256
theorem lw_le {c : Nat → Nat} : ∀ s t, s < t → t < lk c → lw c s ≤ lw c t := by
  intro s t h1 h2
  have := la_lx h1 h2
  unfold lx at this
  unfold lw
  omega
theorem lw_pos {c : Nat → Nat} : ∀ t, t < lk c → 1 ≤ lw c t := fun t h => (la_mem h).2
theorem sumR_list (c : Nat → Nat) : ∀ L : List Nat, sumR (fun t => c (L.getD t 0)) 0 L.length = (L.map c).sum
  | [] => rfl
  | x :: r => by
    have ih := sumR_list c r
    have sh : ∀ l, sumR (fun t => c ((x :: r).getD t 0)) 1 l = sumR (fun t => c (r.getD t 0)) 0 l := by
      intro l
      induction l with
      | zero => rfl
      | succ l il =>
        show sumR (fun t => c ((x :: r).getD t 0)) 1 l + c ((x :: r).getD (1 + l) 0) = sumR (fun t => c (r.getD t 0)) 0 l + c (r.getD (0 + l) 0)
        rw [il, show 1 + l = l + 1 by omega, Nat.zero_add]
        rfl
    show sumR (fun t => c ((x :: r).getD t 0)) 0 (r.length + 1) = c x + (r.map c).sum
    rw [sumR_front, sh, ih]
    rfl
theorem lw_sum {c : Nat → Nat} {N : Nat} (h : HC c N) : sumR (lw c) 0 (lk c) = N := by
  have h1 := sumR_list c (lv c)
  have h2 : sumR (lw c) 0 (lk c) = sumR (fun t => c ((lv c).getD t 0)) 0 (lv c).length := rfl
  rw [h2, h1]
  unfold lv
  rw [srt_sum]
  exact h
theorem sumR_in {W : Nat → Nat} {a : Nat} : ∀ {l t : Nat}, a ≤ t → t < a + l → W t ≤ sumR W a l
  | 0, t => fun h1 h2 => absurd h2 (by omega)
  | l + 1, t => fun h1 h2 => by
    show W t ≤ sumR W a l + W (a + l)
    by_cases h : t = a + l
    · rw [h]; omega
    · have := sumR_in (W := W) (a := a) (l := l) (t := t) h1 (by omega)
      omega
/-- no weight is above all of them -/
theorem tq_W {k N : Nat} {W0 : Nat → Nat} (hW : ∀ s t, s < t → t < k → W0 s ≤ W0 t) (h1 : ∀ t, t < k → 1 ≤ W0 t) (hN : sumR W0 0 k = N) : ∀ m, m < k → ∀ t, t < k + m → (tq k W0 m).1 t ≤ N
  | 0, _, t, ht => by
    show W0 t ≤ N
    rw [← hN]
    exact sumR_in (Nat.zero_le _) (by omega)
  | m + 1, hm, t, ht => by
    obtain ⟨y, H, ⟨⟨a1, a2, a3, a4⟩, _, _, _, _, _, g⟩⟩ := TI_all hW h1 hN m (by omega)
    have ih := tq_W hW h1 hN m (by omega)
    show updN (tq k W0 m).1 (k + m) _ t ≤ N
    by_cases h : t = k + m
    · rw [h, updN_s]
      obtain ⟨u1, u2, u3, u4, u5, u9, u10, u6⟩ := tq_take (W := (tq k W0 m).1) a1 a2 a3 (by omega)
      have w1 := sumR_take (W := (tq k W0 m).1) a1 a2 a3 (by omega)
      have w2 := sumR_take (W := (tq k W0 m).1) u2 u3 u4 (by omega)
      omega
    · rw [updN_n h]
      exact ih t (by omega)
theorem hT_par {c : Nat → Nat} {N : Nat} (h : HC c N) (hk : 1 < lk c) : ∃ H : Nat → Nat, (∀ t, t < 2 * lk c - 2 → lk c ≤ (hT c).2.1 t ∧ t < (hT c).2.1 t ∧ (hT c).2.1 t ≤ 2 * lk c - 2 ∧ H t + 1 ≤ H ((hT c).2.1 t)) ∧ fib (H (2 * lk c - 2) + 2) ≤ N ∧ (∀ t, fr (lk c) (lk c + (lk c - 1)) (hT c).2.2.1 (hT c).2.2.2 t ↔ t = 2 * lk c - 2) := by
  obtain ⟨y, H, ⟨⟨a1, a2, a3, a4⟩, b, c1, d, e, f, g⟩⟩ := TI_all lw_le lw_pos (lw_sum h) (lk c - 1) (by omega)
  have hW := tq_W lw_le lw_pos (lw_sum h) (lk c - 1) (by omega) (2 * lk c - 2) (by omega)
  have hw9 : 0 < (hT c).2.2.1 + 1 := by omega
  unfold hT
  generalize tq (lk c) (lw c) (lk c - 1) = s at *
  have hfree : ∀ t, t < lk c + (lk c - 1) → ¬ t = 2 * lk c - 2 → ¬ fr (lk c) (lk c + (lk c - 1)) s.2.2.1 s.2.2.2 t := by
    intro t h1 h2 h3
    -- the sum of the free ones: at the end one alone
    by_cases hq : s.2.2.2 = 2 * lk c - 2
    · unfold fr at h3
      omega
    · have hqq : s.2.2.2 = 2 * lk c - 1 := by omega
      -- then p < k: the last joined one is taken, its parent would be behind it
      have hlast := f (2 * lk c - 2) (by omega) (by unfold fr; omega)
      omega
  refine ⟨H, fun t ht => ?_, ?_, fun t => ⟨fun h3 => ?_, fun h3 => ?_⟩⟩
  · obtain ⟨f1, f2, f3, f4⟩ := f t (by omega) (hfree t (by omega) (by omega))
    exact ⟨f1, f2, by omega, f4⟩
  · have := (e (2 * lk c - 2) (by omega)).1
    omega
  · by_cases h4 : t = 2 * lk c - 2
    · exact h4
    · exact absurd h3 (hfree t (by unfold fr at h3; omega) h4)
  · by_cases hq : s.2.2.2 = 2 * lk c - 2
    · unfold fr
      omega
    · have hqq : s.2.2.2 = 2 * lk c - 1 := by omega
      have hlast := f (2 * lk c - 2) (by omega) (by unfold fr; omega)
      omega
theorem hD_step {c : Nat → Nat} {N : Nat} (h : HC c N) (hk : 1 < lk c) {t : Nat} (ht : t < 2 * lk c - 2) : hD c t = hD c ((hT c).2.1 t) + 1 := by
  obtain ⟨H, h1, _⟩ := hT_par h hk
  exact dep_step (fun t ht => (h1 t ht).2.1) ht
theorem hD_le {c : Nat → Nat} {N : Nat} (h : HC c N) (hN : N ≤ 300) (hk : 1 < lk c) {t : Nat} (ht : t ≤ 2 * lk c - 2) : hD c t ≤ 11 := by
  obtain ⟨H, h1, h2, _⟩ := hT_par h hk
  have h3 := dep_H (fun t ht => ⟨(h1 t ht).2.1, (h1 t ht).2.2.1, (h1 t ht).2.2.2⟩) (2 * lk c - 2) t (by omega) ht
  have h4 : ¬ 12 ≤ H (2 * lk c - 2) := by
    intro h5
    have := fib_mono (show 12 + 2 ≤ H (2 * lk c - 2) + 2 by omega)
    have h6 : fib (12 + 2) = 377 := by decide
    omega
  unfold hD
  omega
theorem hl_la {c : Nat → Nat} {t : Nat} (h : t < lk c) : hl c (la c t) = if lk c = 1 then 1 else hD c t := by
  unfold hl
  rw [if_pos (la_in h), la_ix h]
theorem hl_no {c : Nat → Nat} {b : Nat} (h : ¬ (b < 256 ∧ 0 < c b)) : hl c b = 0 := by
  unfold hl
  rw [if_neg (fun (hm : b ∈ lv c) => h ((srt_mem c b 256).mp hm))]
theorem hl_ok {c : Nat → Nat} {N : Nat} (h : HC c N) (hN : N ≤ 300) {b : Nat} (hb : b < 256) (hc : 0 < c b) : 1 ≤ hl c b ∧ hl c b ≤ 11 := by
  obtain ⟨t, ht, rfl⟩ := la_sur hb hc
  rw [hl_la ht]
  by_cases h1 : lk c = 1
  · rw [if_pos h1]; omega
  · rw [if_neg h1]
    have hk : 1 < lk c := by omega
    refine ⟨?_, hD_le h hN hk (by omega)⟩
    rw [hD_step h hk (by omega)]
    omega
theorem hl_15 {c : Nat → Nat} {N : Nat} (h : HC c N) (hN : N ≤ 300) (b : Nat) : hl c b ≤ 15 := by
  by_cases hb : b < 256 ∧ 0 < c b
  · have := hl_ok h hN hb.1 hb.2; omega
  · rw [hl_no hb]; omega
theorem getD_ins {L : List Nat} {p b j : Nat} (hp : p ≤ L.length) : (L.take p ++ b :: L.drop p).getD j 0 = if j < p then L.getD j 0 else if j = p then b else L.getD (j - 1) 0 := by
  rw [List.getD_eq_getElem?_getD, List.getElem?_append, List.length_take, Nat.min_eq_left hp, List.getElem?_take, List.getElem?_cons, List.getElem?_drop]
  by_cases h : j < p
  · rw [if_pos h, if_pos h, if_pos h, List.getD_eq_getElem?_getD]
  · rw [if_neg h, if_neg h]
    by_cases h2 : j = p
    · rw [if_pos (by omega), if_pos h2]; rfl
    · rw [if_neg (by omega), if_neg h2, List.getD_eq_getElem?_getD, show p + (j - p - 1) = j - 1 by omega]
