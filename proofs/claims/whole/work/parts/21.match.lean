/-! MATCHES: what they are; the class's search -/
/-- how far the bytes from a on are like those d places before; k places are left -/
def mlc (f : Nat → Int32) (a d : Nat) : Nat → Nat → Nat
  | 0, m => m
  | k + 1, m => if f (a + m) = f (a + m - d) then mlc f a d k (m + 1) else m
def most (n a : Nat) : Nat := min 130 (n - a)
def mlen (f : Nat → Int32) (n a d : Nat) : Nat := mlc f a d (most n a) 0
def mbest (f : Nat → Int32) (n a : Nat) : Nat → Nat × Nat
  | 0 => (0, 0)
  | d + 1 => if (mbest f n a d).1 < mlen f n a (d + 1) then (mlen f n a (d + 1), d + 1) else mbest f n a d
theorem mlc_le (f : Nat → Int32) (a d : Nat) : ∀ k m, mlc f a d k m ≤ m + k
  | 0, _ => Nat.le_refl _
  | k + 1, m => by
    show (if f (a + m) = f (a + m - d) then mlc f a d k (m + 1) else m) ≤ _
    split
    · have := mlc_le f a d k (m + 1)
      omega
    · omega
theorem mlc_ge (f : Nat → Int32) (a d : Nat) : ∀ k m, m ≤ mlc f a d k m
  | 0, _ => Nat.le_refl _
  | k + 1, m => by
    show m ≤ (if f (a + m) = f (a + m - d) then mlc f a d k (m + 1) else m)
    split
    · have := mlc_ge f a d k (m + 1)
      omega
    · omega
theorem mlen_le {f : Nat → Int32} {n a d : Nat} : mlen f n a d ≤ most n a := by
  have := mlc_le f a d (most n a) 0
  unfold mlen
  omega
theorem mbest_le {f : Nat → Int32} {n a : Nat} : ∀ d, (mbest f n a d).1 ≤ most n a
  | 0 => Nat.zero_le _
  | d + 1 => by
    show (if (mbest f n a d).1 < mlen f n a (d + 1) then (mlen f n a (d + 1), d + 1) else mbest f n a d).1 ≤ _
    split
    · exact mlen_le
    · exact mbest_le d
theorem mbest_d {f : Nat → Int32} {n a : Nat} : ∀ d, (mbest f n a d).2 ≤ d ∧ (0 < (mbest f n a d).1 → 0 < (mbest f n a d).2)
  | 0 => ⟨Nat.le_refl _, fun h => absurd h (Nat.lt_irrefl _)⟩
  | d + 1 => by
    have ih := mbest_d (f := f) (n := n) (a := a) d
    show (if (mbest f n a d).1 < mlen f n a (d + 1) then (mlen f n a (d + 1), d + 1) else mbest f n a d).2 ≤ d + 1 ∧ (0 < (if (mbest f n a d).1 < mlen f n a (d + 1) then (mlen f n a (d + 1), d + 1) else mbest f n a d).1 → 0 < (if (mbest f n a d).1 < mlen f n a (d + 1) then (mlen f n a (d + 1), d + 1) else mbest f n a d).2)
    split
    · exact ⟨Nat.le_refl _, fun _ => Nat.succ_pos _⟩
    · exact ⟨by omega, ih.2⟩
theorem mbest_skip {f : Nat → Int32} {n a d : Nat} (h : mlen f n a (d + 1) ≤ (mbest f n a d).1) : mbest f n a (d + 1) = mbest f n a d := by
  show (if (mbest f n a d).1 < mlen f n a (d + 1) then (mlen f n a (d + 1), d + 1) else mbest f n a d) = _
  rw [if_neg (by omega)]
theorem mbest_full {f : Nat → Int32} {n a d : Nat} (h : (mbest f n a d).1 = most n a) : ∀ e, mbest f n a (d + e) = mbest f n a d
  | 0 => rfl
  | e + 1 => by
    have ih := mbest_full h e
    show mbest f n a (d + e + 1) = _
    rw [mbest_skip (by rw [ih, h]; exact mlen_le), ih]
theorem mlen_0 {f : Nat → Int32} {n a d : Nat} (h : ¬ f a = f (a - d)) : mlen f n a d = 0 := by
  unfold mlen
  cases most n a with
  | zero => rfl
  | succ k =>
    show (if f (a + 0) = f (a + 0 - d) then mlc f a d k (0 + 1) else 0) = 0
    rw [Nat.add_zero, if_neg h]
theorem mlen_1 {f : Nat → Int32} {n a d : Nat} (h : f a = f (a - d)) (ha : a < n) : mlen f n a d = mlc f a d (most n a - 1) 1 := by
  unfold mlen
  obtain ⟨k, hk⟩ : ∃ k, most n a = k + 1 := ⟨most n a - 1, by unfold most; omega⟩
  rw [hk]
  show (if f (a + 0) = f (a + 0 - d) then mlc f a d k (0 + 1) else 0) = _
  rw [Nat.add_zero, if_pos h]
  rfl
theorem mbest_gap {f : Nat → Int32} {n a d : Nat} : ∀ e, (∀ x, d < x → x ≤ d + e → ¬ f a = f (a - x)) → mbest f n a (d + e) = mbest f n a d
  | 0, _ => rfl
  | e + 1, h => by
    have ih := mbest_gap (f := f) (n := n) (a := a) (d := d) e (fun x h1 h2 => h x h1 (by omega))
    show mbest f n a (d + e + 1) = _
    rw [mbest_skip (by rw [mlen_0 (h (d + e + 1) (by omega) (by omega))]; exact Nat.zero_le _), ih]
/-- what the class keeps of a best match: only such of 3 or more -/
def keep3 (x : Nat × Nat) : Nat × Nat := if 3 ≤ x.1 then x else (0, 0)
theorem keep3_step {f : Nat → Int32} {n a d : Nat} : keep3 (mbest f n a (d + 1)) = if 3 ≤ mlen f n a (d + 1) ∧ (keep3 (mbest f n a d)).1 < mlen f n a (d + 1) then (mlen f n a (d + 1), d + 1) else keep3 (mbest f n a d) := by
  have e : mbest f n a (d + 1) = if (mbest f n a d).1 < mlen f n a (d + 1) then (mlen f n a (d + 1), d + 1) else mbest f n a d := rfl
  rw [e]
  by_cases h1 : (mbest f n a d).1 < mlen f n a (d + 1)
  · rw [if_pos h1]
    by_cases h3 : 3 ≤ mlen f n a (d + 1)
    · have hk : (keep3 (mbest f n a d)).1 < mlen f n a (d + 1) := by
        unfold keep3
        split
        · exact h1
        · show 0 < _
          omega
      rw [if_pos ⟨h3, hk⟩]
      unfold keep3
      rw [if_pos h3]
    · rw [if_neg (fun q => h3 q.1)]
      unfold keep3
      rw [if_neg h3, if_neg (by omega)]
  · rw [if_neg h1, if_neg]
    rintro ⟨q1, q2⟩
    unfold keep3 at q2
    rw [if_pos (by omega)] at q2
    exact h1 q2
/-- the last place below i with byte b, or -1 -/
def lst (f : Nat → Int32) : Nat → Nat → Int32
  | 0, _ => -1
  | i + 1, b => if f i = nI b then nI i else lst f i b
theorem lst_or (f : Nat → Int32) (b : Nat) : ∀ i, (lst f i b = -1 ∧ ∀ j, j < i → ¬ f j = nI b) ∨ ∃ q, q < i ∧ lst f i b = nI q ∧ f q = nI b ∧ ∀ j, q < j → j < i → ¬ f j = nI b
  | 0 => Or.inl ⟨rfl, fun j h => absurd h (Nat.not_lt_zero _)⟩
  | i + 1 => by
    by_cases h : f i = nI b
    · refine Or.inr ⟨i, by omega, ?_, h, fun j h1 h2 => by omega⟩
      show (if f i = nI b then nI i else lst f i b) = nI i
      rw [if_pos h]
    · have e : lst f (i + 1) b = lst f i b := by
        show (if f i = nI b then nI i else lst f i b) = _
        rw [if_neg h]
      rw [e]
      rcases lst_or f b i with ⟨h1, h2⟩ | ⟨q, h1, h2, h3, h4⟩
      · refine Or.inl ⟨h1, fun j hj => ?_⟩
        by_cases hji : j = i
        · subst hji; exact h
        · exact h2 j (by omega)
      · refine Or.inr ⟨q, by omega, h2, h3, fun j g1 g2 => ?_⟩
        by_cases hji : j = i
        · subst hji; exact h
        · exact h4 j g1 (by omega)
def erl (f : Nat → Int32) : Nat → Int32 := fun j => lst f j (f j).toNatClampNeg
theorem lst_step {f g : Nat → Int32} {i b : Nat} (hb : b < 256) (hf : f i = nI b) : upd (cpn (lst f i) g 256) b (nI i) = cpn (lst f (i + 1)) g 256 := by
  funext j
  unfold upd cpn
  by_cases h1 : j = b
  · subst h1
    rw [if_pos rfl, if_pos hb]
    show nI i = if f i = nI j then nI i else lst f i j
    rw [if_pos hf]
  · rw [if_neg h1]
    by_cases h2 : j < 256
    · rw [if_pos h2, if_pos h2]
      show lst f i j = if f i = nI j then nI i else lst f i j
      rw [if_neg (fun z => h1 (nI_inj (by omega) (by omega) (z.symm.trans hf)))]
    · rw [if_neg h2, if_neg h2]
/-- the search's world: row t is being written, matches are linked, (x, y) is the match found -/
def MW (F A : Nat → Nat → Int32) (t c m : Nat) (f0 : Nat → Int32) (L : List Int32) (x : Nat × Nat) (rf : Nat) (lo : Int64) (X : PH) : PH := WS (upF (upF F 17 7 (nI x.1)) 17 8 (nI x.2)) A t c m f0 L rf lo X
section
variable {Γ : Nat × (Nat → Int32)} {F A : Nat → Nat → Int32} {rf : Nat} {lo : Int64} {X : PH} {Q : Option Value → PH → Prop} {r c cap n t tc tcap m : Nat} {f0 : Nat → Int32} {L : List Int32} {x : Nat × Nat}
theorem link_loop {g1 g2 : Nat → Int32} (hr : isRow r c cap) (hrt : ¬ r = t) (hct : ¬ c = tc) (htc : ¬ tc = 20 ∧ ¬ tc = 21) (hcc : ¬ c = 20 ∧ ¬ c = 21) (hn : F r 1 = nI n) (hN : n ≤ cap) (hn9 : n ≤ 300) (hB : isB (A c) n) : ∀ (k i : Nat) (g : Value), i + k = n →
    (∀ g, PW Γ mX3_linkLikeBytes 62 [.ref 17, .ref r, .int (nI n), g] [] (WS F (stA (stA A 20 (cpn (lst (A c) n) g1 256)) 21 (cpn (erl (A c)) g2 n)) t tc m f0 L rf lo X) 0 0 Q) →
    PW Γ mX3_linkLikeBytes 10 [.ref 17, .ref r, .int (nI i), g] [] (WS F (stA (stA A 20 (cpn (lst (A c) i) g1 256)) 21 (cpn (erl (A c)) g2 i)) t tc m f0 L rf lo X) 0 0 Q := by
  obtain ⟨h1, h2, h9, hc⟩ := id hr
  intro k
  induction k with
  | zero =>
    intro i g hi hk
    have hi : i = n := by omega
    subst hi
    refine pw_iload_n rfl dX3_linkLikeBytes_10 ?_
    refine pw_aload_n rfl dX3_linkLikeBytes_11 ?_
    refine pc_V0 dX3_linkLikeBytes_12 lX3_52 rfl (by first | rfl | assumption) (by decide) (Nat.le_of_ble_eq_true rfl) ?_
    refine w_count hr hrt hn ?_
    refine pw_icmp_ge 62 dX3_linkLikeBytes_15 (by decide) (fun _ => ?_) (fun q => absurd (nI_le (Nat.le_refl _) (by omega)) q)
    exact hk g
  | succ k ih =>
    intro i g hi hk
    obtain ⟨b, hb, hfb⟩ := hB i (by omega)
    refine pw_iload_n rfl dX3_linkLikeBytes_10 ?_
    refine pw_aload_n rfl dX3_linkLikeBytes_11 ?_
    refine pc_V0 dX3_linkLikeBytes_12 lX3_52 rfl (by first | rfl | assumption) (by decide) (Nat.le_of_ble_eq_true rfl) ?_
    refine w_count hr hrt hn ?_
    refine pw_icmp_ge 62 dX3_linkLikeBytes_15 (by decide) (fun q => absurd q (nI_ge (by omega) (by omega))) (fun _ => ?_)
    refine pw_iload_n rfl dX3_linkLikeBytes_18 ?_
    refine pw_aload_n rfl dX3_linkLikeBytes_19 ?_
    refine pw_gC dX3_linkLikeBytes_20 fX3_21 (by first | rfl | assumption) rfl (by first | rfl | assumption) ?_
    refine pw_lI (nI _) dX3_linkLikeBytes_23 (by first | rfl | assumption) rfl ?_
    refine pw_icmp_ge 62 dX3_linkLikeBytes_24 (by decide) (fun q => absurd q (nI_ge (b := 300) (by omega) (by omega))) (fun _ => ?_)
    refine pw_aload_n rfl dX3_linkLikeBytes_27 ?_
    refine pw_iload_n rfl dX3_linkLikeBytes_28 ?_
    refine pc_V1 dX3_linkLikeBytes_29 lX3_75 rfl h1 (by decide) (Nat.le_of_ble_eq_true rfl) ?_
    refine w_get hr hrt hct hn hN rfl (by omega) ?_
    rw [stA_n (by omega), stA_n (by omega), hfb]
    refine pw_sipush 255 (by decide) dX3_linkLikeBytes_32 ?_
    refine pw_iand dX3_linkLikeBytes_35 ?_
    rw [nI_and255s hb]
    refine ps_istore_n (l' := [_, _, _, _]) dX3_linkLikeBytes_36 (by decide) rfl rfl ?_
    refine pw_aload_n rfl dX3_linkLikeBytes_37 ?_
    refine pw_gC dX3_linkLikeBytes_38 fX3_21 (by first | rfl | assumption) rfl (by first | rfl | assumption) ?_
    refine pw_iload_n rfl dX3_linkLikeBytes_41 ?_
    refine pw_aload_n rfl dX3_linkLikeBytes_42 ?_
    refine pw_gC dX3_linkLikeBytes_43 fX3_18 (by first | rfl | assumption) rfl (by first | rfl | assumption) ?_
    refine pw_iload_n rfl dX3_linkLikeBytes_46 ?_
    refine pw_aI dX3_linkLikeBytes_47 (by first | rfl | assumption) (by first | assumption | exact vp_in_nI (by omega) (by omega)) ?_
    have e1 : (nI i).toNatClampNeg = i := nI_clamp (by omega)
    have e2 : (nI b).toNatClampNeg = b := nI_clamp (by omega)
    rw [e2, stA_n (by omega), stA_n (by decide), stA_s, cpn_lt hb]
    refine pw_sI dX3_linkLikeBytes_48 (by first | rfl | assumption) (by first | assumption | exact vp_in_nI (by omega) (by omega)) ?_
    refine pw_aload_n rfl dX3_linkLikeBytes_49 ?_
    refine pw_gC dX3_linkLikeBytes_50 fX3_18 (by first | rfl | assumption) rfl (by first | rfl | assumption) ?_
    refine pw_iload_n rfl dX3_linkLikeBytes_53 ?_
    refine pw_iload_n rfl dX3_linkLikeBytes_54 ?_
    rw [e1, stA_n (by omega), stA_s, cpn_step (show lst (A c) i b = erl (A c) i by unfold erl; rw [hfb, e2])]
    refine pw_sI dX3_linkLikeBytes_55 (by first | rfl | assumption) (by first | assumption | exact vp_in_nI (by omega) (by omega)) ?_
    refine ps_iinc (l' := [_, _, _, _]) 1 dX3_linkLikeBytes_56 (by decide) rfl (by decide) rfl rfl ?_
    refine pw_goto 10 dX3_linkLikeBytes_59 (by decide) ?_
    rw [e2, stA_n (by decide), stA_n (by omega), stA_n (by decide), stA_s, lst_step hb hfb, nI_1]
    have e3 : ∀ u v w z : Nat → Int32, stA (stA (stA (stA (stA A 20 u) 21 v) tc w) 21 z) 20 (cpn (lst (A c) (i + 1)) g1 256) = stA (stA (stA A 20 (cpn (lst (A c) (i + 1)) g1 256)) 21 z) tc w := by
      intro u v w z
      rw [stA_comm (i := tc) (j := 21) (by omega), stA_stA, stA_comm (i := tc) (j := 20) (by omega), stA_comm (i := 21) (j := 20) (by decide), stA_stA]
    rw [e3]
    exact ih (i + 1) _ (by omega) hk
theorem w_link (hr : isRow r c cap) (hrt : ¬ r = t) (hct : ¬ c = tc) (htc : ¬ tc = 20 ∧ ¬ tc = 21) (hcc : ¬ c = 20 ∧ ¬ c = 21) (hn : F r 1 = nI n) (hN : n ≤ cap) (hn9 : n ≤ 300) (hB : isB (A c) n)
    (hQ : Q none (WS F (stA (stA A 20 (cpn (lst (A c) n) (A 20) 256)) 21 (cpn (erl (A c)) (A 21) n)) t tc m f0 L rf lo X)) : PM Γ mX3_linkLikeBytes [.ref 17, .ref r] (WS F A t tc m f0 L rf lo X) 0 0 Q := by
  refine PM.go (l := [_, _, .float 0, .float 0]) rfl rfl (Nat.le_of_ble_eq_true rfl) rfl ?_
  refine pw_aload_n rfl dX3_linkLikeBytes_0 ?_
  refine pw_gC dX3_linkLikeBytes_1 fX3_18 (by first | rfl | assumption) rfl (by first | rfl | assumption) ?_
  refine pw_iconst (-1) (by decide) dX3_linkLikeBytes_4 ?_
  refine pc_S2 dX3_linkLikeBytes_5 lX3_138 (by decide) (Nat.le_of_ble_eq_true rfl) ?_
  refine c_fill rfl (by decide) ?_
  refine pw_iconst 0 (by decide) dX3_linkLikeBytes_8 ?_
  refine ps_istore_n (l' := [_, _, _, _]) dX3_linkLikeBytes_9 (by decide) rfl rfl ?_
  rw [stA_n (by omega), stA_comm (by omega)]
  have e0 : stA A 20 (cpn (fun _ => -1) (A 20) 256) = stA (stA A 20 (cpn (lst (A c) 0) (A 20) 256)) 21 (cpn (erl (A c)) (A 21) 0) := by
    rw [stA_self (i := 21) (by rw [stA_n (by decide)]; exact cpn_0)]
    rfl
  rw [e0]
  refine link_loop hr hrt hct htc hcc hn hN hn9 hB n 0 _ (by omega) (fun g => ?_)
  refine pw_vret dX3_linkLikeBytes_62 rfl ?_
  exact hQ
end
