/-! what is made depends on the row's own bytes alone -/
def same (f g : Nat → Int32) (n : Nat) : Prop := ∀ j, j < n → f j = g j
theorem same_sym {f g : Nat → Int32} {n : Nat} (h : same f g n) : same g f n := fun j hj => (h j hj).symm
theorem same_le {f g : Nat → Int32} {n m : Nat} (h : same f g n) (hm : m ≤ n) : same f g m := fun j hj => h j (by omega)
theorem same_B {f g : Nat → Int32} {n : Nat} (h : same f g n) (hB : isB f n) : isB g n := fun j hj => by rw [← h j hj]; exact hB j hj
theorem cg_cnt {f g : Nat → Int32} : ∀ {n : Nat}, same f g n → ∀ b, cnt f n b = cnt g n b
  | 0, _, _ => rfl
  | n + 1, h, b => by
    show cnt f n b + (if f n = nI b then 1 else 0) = cnt g n b + (if g n = nI b then 1 else 0)
    rw [cg_cnt (same_le h (by omega)), h n (by omega)]
theorem cg_unl {f g : Nat → Int32} : ∀ {n : Nat}, same f g n → unl f n = unl g n
  | 0, _ => rfl
  | n + 1, h => by
    show unl f n + (if cnt f n (f n).toNatClampNeg = 0 then 1 else 0) = unl g n + (if cnt g n (g n).toNatClampNeg = 0 then 1 else 0)
    rw [cg_unl (same_le h (by omega)), cg_cnt (same_le h (by omega)), h n (by omega)]
theorem cg_unls {f g : Nat → Int32} {n : Nat} (h : same f g n) : ∀ z, unls f n z = unls g n z
  | 0 => rfl
  | z + 1 => by
    show unls f n z ++ (if 0 < cnt f n z then [nI z] else []) = unls g n z ++ (if 0 < cnt g n z then [nI z] else [])
    rw [cg_unls h z, cg_cnt h]
theorem cg_rk {f g : Nat → Int32} {n : Nat} (h : same f g n) : rk f n = rk g n := by
  funext b
  unfold rk
  rw [cg_unls h]
theorem cg_cods {f g : Nat → Int32} {v w : Nat → Nat} {s : BS} : ∀ {i : Nat}, same f g i → cods f v w s i = cods g v w s i
  | 0, _ => rfl
  | i + 1, h => by
    show bp (cods f v w s i) (v (f i).toNatClampNeg) (w (f i).toNatClampNeg) = bp (cods g v w s i) (v (g i).toNatClampNeg) (w (g i).toNatClampNeg)
    rw [cg_cods (same_le h (by omega)), h i (by omega)]
theorem cg_pbits {f g : Nat → Int32} {n : Nat} {L : List Int32} (h : same f g n) : pbits f n L = pbits g n L := by
  unfold pbits
  rw [cg_cods h, cg_rk h, cg_unl h, cg_unls h]
theorem cg_rn {f g : Nat → Int32} {n a e : Nat} (h : same f g n) (he : e ≤ n) (ha : a < n) : ∀ k j, rn f a e k j = rn g a e k j
  | 0, _ => rfl
  | k + 1, j => by
    show (if j < e ∧ f j = f a then rn f a e k (j + 1) else j) = if j < e ∧ g j = g a then rn g a e k (j + 1) else j
    rw [cg_rn h he ha k (j + 1)]
    by_cases hj : j < e
    · rw [h j (by omega), h a ha]
    · rw [if_neg (fun q => hj q.1), if_neg (fun q => hj q.1)]
theorem cg_runl {f g : Nat → Int32} {n a m : Nat} (h : same f g n) (ha : a < n) : runl f n a m = runl g n a m := by
  unfold runl
  rw [cg_rn h (by omega) ha]
theorem cg_pend {f g : Nat → Int32} {n z : Nat} (h : same f g n) (hz : z ≤ n) : ∀ k j, pend f n z k j = pend g n z k j
  | 0, _ => rfl
  | k + 1, j => by
    show (if j < z ∧ runl f n j 3 < 3 then pend f n z k (j + 1) else j) = if j < z ∧ runl g n j 3 < 3 then pend g n z k (j + 1) else j
    rw [cg_pend h hz k (j + 1)]
    by_cases hj : j < z
    · rw [cg_runl h (by omega)]
    · rw [if_neg (fun q => hj q.1), if_neg (fun q => hj q.1)]
theorem cg_slice {f g : Nat → Int32} {n a e : Nat} (h : same f g n) (he : e ≤ n) : slice f a e = slice g a e := by
  unfold slice
  apply List.map_congr_left
  intro j hj
  have := List.mem_range.mp hj
  exact h (a + j) (by omega)
theorem cg_pruns {f g : Nat → Int32} {n : Nat} (h : same f g n) : ∀ k a, pruns f n k a = pruns g n k a
  | 0, _ => rfl
  | k + 1, a => by
    by_cases ha : a < n
    · show (if a < n then (if 2 ≤ runl f n a 129 then [nI (runl f n a 129 + 126), f a] ++ pruns f n k (a + runl f n a 129) else (nI (pend f n (min n (a + 128)) n (a + 1) - a - 1) :: slice f a (pend f n (min n (a + 128)) n (a + 1))) ++ pruns f n k (pend f n (min n (a + 128)) n (a + 1))) else []) = (if a < n then (if 2 ≤ runl g n a 129 then [nI (runl g n a 129 + 126), g a] ++ pruns g n k (a + runl g n a 129) else (nI (pend g n (min n (a + 128)) n (a + 1) - a - 1) :: slice g a (pend g n (min n (a + 128)) n (a + 1))) ++ pruns g n k (pend g n (min n (a + 128)) n (a + 1))) else [])
      have hp := pend_le g n (min n (a + 128)) n (a + 1) (by omega)
      rw [cg_runl h ha, cg_pend h (by omega), cg_slice h (by omega), h a ha, cg_pruns h k, cg_pruns h k]
    · show (if a < n then _ else _) = (if a < n then _ else _)
      rw [if_neg ha, if_neg ha]
theorem cg_mlc {f g : Nat → Int32} {n a d : Nat} (h : same f g n) : ∀ k m, a + m + k ≤ n → mlc f a d k m = mlc g a d k m
  | 0, _, _ => rfl
  | k + 1, m, hm => by
    show (if f (a + m) = f (a + m - d) then mlc f a d k (m + 1) else m) = if g (a + m) = g (a + m - d) then mlc g a d k (m + 1) else m
    rw [cg_mlc h k (m + 1) (by omega), h (a + m) (by omega), h (a + m - d) (by omega)]
theorem cg_mlen {f g : Nat → Int32} {n a d : Nat} (h : same f g n) (ha : a ≤ n) : mlen f n a d = mlen g n a d := by
  unfold mlen
  exact cg_mlc h _ _ (by unfold most; omega)
theorem cg_mbest {f g : Nat → Int32} {n a : Nat} (h : same f g n) (ha : a ≤ n) : ∀ d, mbest f n a d = mbest g n a d
  | 0 => rfl
  | d + 1 => by
    show (if (mbest f n a d).1 < mlen f n a (d + 1) then (mlen f n a (d + 1), d + 1) else mbest f n a d) = if (mbest g n a d).1 < mlen g n a (d + 1) then (mlen g n a (d + 1), d + 1) else mbest g n a d
    rw [cg_mbest h ha d, cg_mlen h ha]
theorem cg_mend {f g : Nat → Int32} {n z : Nat} (h : same f g n) (hz : z ≤ n) : ∀ k j, mend f n z k j = mend g n z k j
  | 0, _ => rfl
  | k + 1, j => by
    show (if j < z ∧ (mbest f n j (min j 255)).1 < 3 then mend f n z k (j + 1) else j) = if j < z ∧ (mbest g n j (min j 255)).1 < 3 then mend g n z k (j + 1) else j
    rw [cg_mend h hz k (j + 1)]
    by_cases hj : j < z
    · rw [cg_mbest h (by omega)]
    · rw [if_neg (fun q => hj q.1), if_neg (fun q => hj q.1)]
theorem cg_pmat {f g : Nat → Int32} {n : Nat} (h : same f g n) : ∀ k a, pmat f n k a = pmat g n k a
  | 0, _ => rfl
  | k + 1, a => by
    by_cases ha : a < n
    · show (if a < n then (if 3 ≤ (mbest f n a (min a 255)).1 then [nI ((mbest f n a (min a 255)).1 + 125), nI (mbest f n a (min a 255)).2] ++ pmat f n k (a + (mbest f n a (min a 255)).1) else (nI (mend f n (min n (a + 128)) n (a + 1) - a - 1) :: slice f a (mend f n (min n (a + 128)) n (a + 1))) ++ pmat f n k (mend f n (min n (a + 128)) n (a + 1))) else []) = (if a < n then (if 3 ≤ (mbest g n a (min a 255)).1 then [nI ((mbest g n a (min a 255)).1 + 125), nI (mbest g n a (min a 255)).2] ++ pmat g n k (a + (mbest g n a (min a 255)).1) else (nI (mend g n (min n (a + 128)) n (a + 1) - a - 1) :: slice g a (mend g n (min n (a + 128)) n (a + 1))) ++ pmat g n k (mend g n (min n (a + 128)) n (a + 1))) else [])
      have hp := mend_le g n (min n (a + 128)) n (a + 1) (by omega)
      rw [cg_mbest h (by omega), cg_mend h (by omega), cg_slice h (by omega), cg_pmat h k, cg_pmat h k]
    · show (if a < n then _ else _) = (if a < n then _ else _)
      rw [if_neg ha, if_neg ha]
theorem cg_ofr {f g : Nat → Int32} : ∀ {i : Nat}, same f g i → ofr f i = ofr g i
  | 0, _ => rfl
  | i + 1, h => by
    show mtf (ofr f i) (pos (ofr f i) (f i) 256 0) = mtf (ofr g i) (pos (ofr g i) (g i) 256 0)
    rw [cg_ofr (same_le h (by omega)), h i (by omega)]
theorem src_lt {n v j : Nat} (hv : 0 < v) (hj : j < plow n v v) : ∀ (k p : Nat), p + k = v → plow n v p ≤ j → src n v k p j < n
  | 0, p, hk, hp => by
    rw [show p = v by omega] at hp
    omega
  | k + 1, p, hk, hp => by
    show (if j < plow n v (p + 1) then p + (j - plow n v p) * v else src n v k (p + 1) j) < n
    by_cases h : j < plow n v (p + 1)
    · rw [if_pos h]
      have e : plow n v (p + 1) = plow n v p + (if p < n then plen n v p else 0) := rfl
      by_cases hpn : p < n
      · rw [if_pos hpn] at e
        exact (plen_iff hv (by omega) hpn).mp (by omega)
      · rw [if_neg hpn] at e
        omega
    · rw [if_neg h]
      exact src_lt hv hj k (p + 1) (by omega) (by omega)
theorem cg_fmk {f g : Nat → Int32} {n kind v j : Nat} (hn : n ≤ 300) (h : same f g n) (hk : fok kind v) (hj : j < n) : fmk kind v f n j = fmk kind v g n j := by
  unfold fmk
  by_cases h1 : kind = 1
  · rw [if_pos h1, if_pos h1]
    unfold fdel
    rw [h j hj, h (j - v) (by omega)]
  · rw [if_neg h1, if_neg h1]
    by_cases h2 : kind = 2
    · rw [if_pos h2, if_pos h2, cg_ofr (same_le h (by omega)), h j hj]
    · rw [if_neg h2, if_neg h2]
      by_cases h3 : kind = 3
      · rw [if_pos h3, if_pos h3]
        have hv : 2 ≤ v ∧ v ≤ 8 := by
          rcases hk with q | q | q | q <;> omega
        have hall := plow_all n (by omega) v (by omega) hv.1
        exact h _ (src_lt (by omega) (by omega) v 0 (by omega) (Nat.zero_le _))
      · rw [if_neg h3, if_neg h3, h j hj]
theorem fmk_B {f : Nat → Int32} {n kind v j : Nat} (hn : n ≤ 300) (hB : isB f n) (hk : fok kind v) (hj : j < n) : ∃ b, b < 256 ∧ fmk kind v f n j = nI b := by
  unfold fmk
  split
  · exact fdel_B hB hj
  · split
    · obtain ⟨b, hb, e⟩ := hB j hj
      rw [e]
      exact ⟨_, (pos_perm (ofr_perm hB j (by omega)) hb).1, rfl⟩
    · split
      · have hv : 2 ≤ v ∧ v ≤ 8 := by
          rcases hk with q | q | q | q <;> omega
        have hall := plow_all n (by omega) v (by omega) hv.1
        exact hB _ (src_lt (by omega) (by omega) v 0 (by omega) (Nat.zero_le _))
      · obtain ⟨b, hb, e⟩ := hB j hj
        have hv : v < 256 := by
          rcases hk with q | q | q | q <;> omega
        exact ⟨b ^^^ v, xor_lt hb hv, by rw [e, nI_xor]⟩
theorem fun_B {f : Nat → Int32} {n kind v j : Nat} (hn : n ≤ 300) (hB : isB f n) (hk : fok kind v) (hj : j < n) : ∃ b, b < 256 ∧ fun_ kind v f n j = nI b := by
  unfold fun_
  split
  · exact udel_B hB _ _ hj
  · split
    · exact (obk_perm hB j (by omega)).1 _ (isB_bN hB hj).2
    · split
      · have hv : 2 ≤ v ∧ v ≤ 8 := by
          rcases hk with q | q | q | q <;> omega
        exact hB _ (dst_lt hn hv hj)
      · obtain ⟨b, hb, e⟩ := hB j hj
        have hv : v < 256 := by
          rcases hk with q | q | q | q <;> omega
        exact ⟨b ^^^ v, xor_lt hb hv, by rw [e, nI_xor]⟩
theorem cg_udel {f g : Nat → Int32} {n v : Nat} (h : same f g n) : ∀ k j, j < n → udel f v k j = udel g v k j
  | 0, _, _ => rfl
  | k + 1, j, hj => by
    show (if j < v then f j else nI ((bN (f j) + bN (udel f v k (j - v))) % 256)) = if j < v then g j else nI ((bN (g j) + bN (udel g v k (j - v))) % 256)
    rw [h j hj, cg_udel h k (j - v) (by omega)]
theorem cg_obk {f g : Nat → Int32} : ∀ {i : Nat}, same f g i → obk f i = obk g i
  | 0, _ => rfl
  | i + 1, h => by
    show mtf (obk f i) (bN (f i)) = mtf (obk g i) (bN (g i))
    rw [cg_obk (same_le h (by omega)), h i (by omega)]
theorem cg_fun {f g : Nat → Int32} {n kind v j : Nat} (hn : n ≤ 300) (h : same f g n) (hk : fok kind v) (hj : j < n) : fun_ kind v f n j = fun_ kind v g n j := by
  unfold fun_
  by_cases h1 : kind = 1
  · rw [if_pos h1, if_pos h1, cg_udel h _ _ hj]
  · rw [if_neg h1, if_neg h1]
    by_cases h2 : kind = 2
    · rw [if_pos h2, if_pos h2, cg_obk (same_le h (by omega)), h j hj]
    · rw [if_neg h2, if_neg h2]
      by_cases h3 : kind = 3
      · rw [if_pos h3, if_pos h3]
        have hv : 2 ≤ v ∧ v ≤ 8 := by
          rcases hk with q | q | q | q <;> omega
        exact h _ (dst_lt hn hv hj)
      · rw [if_neg h3, if_neg h3, h j hj]
