/-! the class's Filters -/
/-- row t has n bytes, those of g -/
def TS (F A : Nat → Nat → Int32) (t tc n : Nat) (g : Nat → Int32) (rf : Nat) (lo : Int64) (X : PH) : PH := HS (upF F t 1 (nI n)) (stA A tc g) rf lo X
def isFil (fi oi : Nat) : Prop := shp[fi]? = some (.inr (2, [some oi])) ∧ shp[oi]? = some (.inl 256) ∧ (oi == 999) = false
section
variable {Γ : Nat × (Nat → Int32)} {F A : Nat → Nat → Int32} {rf : Nat} {lo : Int64} {X : PH} {Q : Option Value → PH → Prop} {r c cap n t tc tcap fi oi v : Nat} {g o : Nat → Int32}
theorem ts_set {x b : Int32} {i : Nat} (ht : isRow t tc tcap) (hN : n ≤ tcap) (hx : x = nI i) (hi : i < n) (hQ : Q none (TS F A t tc n (upd g i (b &&& 255)) rf lo X)) : PM Γ mX6_set [.ref t, .int x, .int b] (TS F A t tc n g rf lo X) 0 0 Q := by
  unfold TS
  refine c_set ht (n := n) upF_s hN hx hi ?_
  rw [stA_s, stA_stA]
  exact hQ
theorem ts_get {x : Int32} {i : Nat} (hr : isRow r c cap) (hrt : ¬ r = t) (hct : ¬ c = tc) (hn : F r 1 = nI n) (hN : n ≤ cap) (hx : x = nI i) (hi : i < n) (hQ : Q (some (.int (A c i))) (TS F A t tc n g rf lo X)) : PM Γ mX6_get [.ref r, .int x] (TS F A t tc n g rf lo X) 0 0 Q := by
  unfold TS
  refine c_get hr (n := n) (by rw [upF_n (by omega)]; exact hn) hN hx hi ?_
  rw [stA_n hct]
  exact hQ
theorem ts_gett {x : Int32} {i : Nat} (ht : isRow t tc tcap) (hN : n ≤ tcap) (hx : x = nI i) (hi : i < n) (hQ : Q (some (.int (g i))) (TS F A t tc n g rf lo X)) : PM Γ mX6_get [.ref t, .int x] (TS F A t tc n g rf lo X) 0 0 Q := by
  unfold TS
  refine c_get ht (n := n) upF_s hN hx hi ?_
  rw [stA_s]
  exact hQ
theorem ts_count (hr : isRow r c cap) (hrt : ¬ r = t) (hn : F r 1 = nI n) (hQ : Q (some (.int (nI n))) (TS F A t tc n g rf lo X)) : PM Γ mX6_count [.ref r] (TS F A t tc n g rf lo X) 0 0 Q := by
  unfold TS
  refine c_count hr ?_
  rw [upF_n (by omega), hn]
  exact hQ
theorem mask_loop (hr : isRow r c cap) (ht : isRow t tc tcap) (hrt : ¬ r = t) (hct : ¬ c = tc) (hn : F r 1 = nI n) (hN : n ≤ cap) (hN2 : n ≤ tcap) (hB : isB (A c) n) (hv : v < 256) : ∀ (k i : Nat) (g : Nat → Int32), i + k = n → (∀ j, j < i → g j = A c j ^^^ nI v) →
    (∀ g, (∀ j, j < n → g j = A c j ^^^ nI v) → PW Γ mX2_mask 28 [.int (nI v), .ref r, .ref t, .int (nI n)] [] (TS F A t tc n g rf lo X) 0 0 Q) →
    PW Γ mX2_mask 2 [.int (nI v), .ref r, .ref t, .int (nI i)] [] (TS F A t tc n g rf lo X) 0 0 Q := by
  obtain ⟨h1, h2, h9, hc⟩ := id hr
  obtain ⟨g1, g2, g9, gc⟩ := id ht
  intro k
  induction k with
  | zero =>
    intro i g hi hg hk
    have hi : i = n := by omega
    subst hi
    refine pw_iload_n rfl dX2_mask_2 ?_
    refine pw_aload_n rfl dX2_mask_3 ?_
    refine pc_V0 dX2_mask_4 lX2_27 rfl (by first | rfl | assumption) (by decide) (Nat.le_of_ble_eq_true rfl) ?_
    refine ts_count hr hrt hn ?_
    refine pw_icmp_ge 28 dX2_mask_7 (by decide) (fun _ => ?_) (fun q => absurd (nI_le (Nat.le_refl _) (by omega)) q)
    exact hk g hg
  | succ k ih =>
    intro i g hi hg hk
    obtain ⟨b, hb, hfb⟩ := hB i (by omega)
    refine pw_iload_n rfl dX2_mask_2 ?_
    refine pw_aload_n rfl dX2_mask_3 ?_
    refine pc_V0 dX2_mask_4 lX2_27 rfl (by first | rfl | assumption) (by decide) (Nat.le_of_ble_eq_true rfl) ?_
    refine ts_count hr hrt hn ?_
    refine pw_icmp_ge 28 dX2_mask_7 (by decide) (fun q => absurd q (nI_ge (by omega) (by omega))) (fun _ => ?_)
    refine pw_aload_n rfl dX2_mask_10 ?_
    refine pw_iload_n rfl dX2_mask_11 ?_
    refine pw_aload_n rfl dX2_mask_12 ?_
    refine pw_iload_n rfl dX2_mask_13 ?_
    refine pc_V1 dX2_mask_14 lX2_31 rfl (by first | rfl | assumption) (by decide) (Nat.le_of_ble_eq_true rfl) ?_
    refine ts_get hr hrt hct hn hN rfl (by omega) ?_
    refine pw_iload_n rfl dX2_mask_17 ?_
    refine pw_ixor dX2_mask_18 ?_
    refine pc_V2 dX2_mask_19 lX2_35 rfl (by first | rfl | assumption) (by decide) (Nat.le_of_ble_eq_true rfl) ?_
    refine ts_set ht hN2 rfl (by omega) ?_
    refine ps_iinc (l' := [_, _, _, _]) 1 dX2_mask_22 (by decide) rfl (by decide) rfl rfl ?_
    refine pw_goto 2 dX2_mask_25 (by decide) ?_
    rw [nI_1]
    refine ih (i + 1) _ (by omega) (fun j hj => ?_) hk
    unfold upd
    split
    · rename_i z
      rw [z, hfb, nI_xor, nI_and255s (xor_lt hb hv)]
    · exact hg j (by omega)
theorem c_mask (hr : isRow r c cap) (ht : isRow t tc tcap) (hrt : ¬ r = t) (hct : ¬ c = tc) (hn : F r 1 = nI n) (hN : n ≤ cap) (hN2 : n ≤ tcap) (hB : isB (A c) n) (hv : v < 256)
    (hQ : ∀ g, (∀ j, j < n → g j = A c j ^^^ nI v) → Q none (TS F A t tc n g rf lo X)) : PM Γ mX2_mask [.int (nI v), .ref r, .ref t] (TS F A t tc n g rf lo X) 0 0 Q := by
  refine PM.go (l := [_, _, _, .float 0]) rfl rfl (Nat.le_of_ble_eq_true rfl) rfl ?_
  refine pw_iconst 0 (by decide) dX2_mask_0 ?_
  refine ps_istore_n (l' := [_, _, _, _]) dX2_mask_1 (by decide) rfl rfl ?_
  refine mask_loop hr ht hrt hct hn hN hN2 hB hv n 0 g (by omega) (fun j hj => by omega) (fun g hg => ?_)
  refine pw_vret dX2_mask_28 rfl ?_
  exact hQ g hg
theorem gat_inner (hr : isRow r c cap) (ht : isRow t tc tcap) (hrt : ¬ r = t) (hct : ¬ c = tc) (hn : F r 1 = nI n) (hN : n ≤ cap) (hN2 : n ≤ tcap) (hn9 : n ≤ 300) (hB : isB (A c) n) (hv : 2 ≤ v ∧ v ≤ 8) {p : Nat} (hpv : p < v) : ∀ (k s : Nat) (g : Nat → Int32), s + k = (if p < n then plen n v p else 0) → (∀ j, j < plow n v p + s → g j = A c (src n v v 0 j)) →
    (∀ g x, (∀ j, j < plow n v (p + 1) → g j = A c (src n v v 0 j)) → PW Γ mX2_gatherPlanes 55 [.int (nI v), .ref r, .ref t, .int (nI v), .int (nI (plow n v (p + 1))), .int (nI p), x] [] (TS F A t tc n g rf lo X) 0 0 Q) →
    PW Γ mX2_gatherPlanes 22 [.int (nI v), .ref r, .ref t, .int (nI v), .int (nI (plow n v p + s)), .int (nI p), .int (nI (p + s * v))] [] (TS F A t tc n g rf lo X) 0 0 Q := by
  obtain ⟨h1, h2, h9, hc⟩ := id hr
  obtain ⟨g1, g2, g9, gc⟩ := id ht
  have hall := plow_all n (by omega) v (by omega) hv.1
  have e1 : plow n v (p + 1) = plow n v p + (if p < n then plen n v p else 0) := rfl
  have hmono := plow_mono (n := n) (v := v) (p := p + 1) (q := v) (by omega)
  have hsv : ∀ s, s ≤ (if p < n then plen n v p else 0) → p + s * v ≤ 400 := by
    intro s hs
    split at hs
    · rename_i hpn
      by_cases h0 : s = 0
      · subst h0; omega
      · have := (plen_iff (s := s - 1) (by omega) hpv hpn).mp (by omega)
        have e : s * v = (s - 1) * v + v := by
          rw [← Nat.succ_mul]
          congr 1
          omega
        omega
    · have : s = 0 := by omega
      subst this
      omega
  intro k
  induction k with
  | zero =>
    intro s g hs hg hk
    have hb4 := hsv s (by omega)
    have hge : n ≤ p + s * v := by
      by_cases hpn : p < n
      · rw [if_pos hpn] at hs
        apply Nat.not_lt.mp
        intro z
        have := (plen_iff (by omega) hpv hpn).mpr z
        omega
      · omega
    refine pw_iload rfl dX2_gatherPlanes_22 ?_
    refine pw_aload_n rfl dX2_gatherPlanes_24 ?_
    refine pc_V0 dX2_gatherPlanes_25 lX2_27 rfl (by first | rfl | assumption) (by decide) (Nat.le_of_ble_eq_true rfl) ?_
    refine ts_count hr hrt hn ?_
    refine pw_icmp_ge 55 dX2_gatherPlanes_28 (by decide) (fun _ => ?_) (fun q => absurd (nI_le hge (by omega)) q)
    rw [show plow n v p + s = plow n v (p + 1) by omega]
    exact hk g _ (fun j hj => hg j (by omega))
  | succ k ih =>
    intro s g hs hg hk
    have hpn : p < n := by
      apply Nat.not_le.mp
      intro z
      rw [if_neg (by omega)] at hs
      omega
    rw [if_pos hpn] at hs e1
    have hsp : s < plen n v p := by omega
    have hlt : p + s * v < n := (plen_iff (by omega) hpv hpn).mp hsp
    have hsrc := src_at hpv hpn hsp v 0 (by omega) (by omega)
    refine pw_iload rfl dX2_gatherPlanes_22 ?_
    refine pw_aload_n rfl dX2_gatherPlanes_24 ?_
    refine pc_V0 dX2_gatherPlanes_25 lX2_27 rfl (by first | rfl | assumption) (by decide) (Nat.le_of_ble_eq_true rfl) ?_
    refine ts_count hr hrt hn ?_
    refine pw_icmp_ge 55 dX2_gatherPlanes_28 (by decide) (fun q => absurd q (nI_ge hlt (by omega))) (fun _ => ?_)
    refine pw_aload_n rfl dX2_gatherPlanes_31 ?_
    refine pw_iload rfl dX2_gatherPlanes_32 ?_
    refine pw_aload_n rfl dX2_gatherPlanes_34 ?_
    refine pw_iload rfl dX2_gatherPlanes_35 ?_
    refine pc_V1 dX2_gatherPlanes_37 lX2_31 rfl (by first | rfl | assumption) (by decide) (Nat.le_of_ble_eq_true rfl) ?_
    refine ts_get hr hrt hct hn hN rfl hlt ?_
    refine pc_V2 dX2_gatherPlanes_40 lX2_35 rfl (by first | rfl | assumption) (by decide) (Nat.le_of_ble_eq_true rfl) ?_
    refine ts_set ht hN2 rfl (by omega) ?_
    rw [isB_and hB hlt]
    refine ps_iinc (l' := [_, _, _, _, _, _, _]) 1 dX2_gatherPlanes_43 (by decide) rfl (by decide) rfl rfl ?_
    refine pw_iload rfl dX2_gatherPlanes_46 ?_
    refine pw_iload_n rfl dX2_gatherPlanes_48 ?_
    refine pw_iadd dX2_gatherPlanes_49 ?_
    refine ps_istore (l' := [_, _, _, _, _, _, _]) dX2_gatherPlanes_50 (by decide) rfl rfl ?_
    refine pw_goto 22 dX2_gatherPlanes_52 (by decide) ?_
    rw [nI_1, nI_add, show p + s * v + v = p + (s + 1) * v by rw [Nat.add_mul]; omega]
    refine ih (s + 1) _ (by rw [if_pos hpn]; omega) (fun j hj => ?_) hk
    unfold upd
    split
    · rename_i z
      rw [z, hsrc]
    · exact hg j (by omega)
theorem gat_loop (hr : isRow r c cap) (ht : isRow t tc tcap) (hrt : ¬ r = t) (hct : ¬ c = tc) (hn : F r 1 = nI n) (hN : n ≤ cap) (hN2 : n ≤ tcap) (hn9 : n ≤ 300) (hB : isB (A c) n) (hv : 2 ≤ v ∧ v ≤ 8) : ∀ (k p : Nat) (g : Nat → Int32) (x : Value), p + k = v → (∀ j, j < plow n v p → g j = A c (src n v v 0 j)) →
    (∀ g l, (∀ j, j < n → g j = A c (src n v v 0 j)) → PW Γ mX2_gatherPlanes 61 l [] (TS F A t tc n g rf lo X) 0 0 Q) →
    PW Γ mX2_gatherPlanes 12 [.int (nI v), .ref r, .ref t, .int (nI v), .int (nI (plow n v p)), .int (nI p), x] [] (TS F A t tc n g rf lo X) 0 0 Q := by
  intro k
  induction k with
  | zero =>
    intro p g x hp hg hk
    have hp : p = v := by omega
    subst hp
    refine pw_iload rfl dX2_gatherPlanes_12 ?_
    refine pw_iload_n rfl dX2_gatherPlanes_14 ?_
    refine pw_icmp_ge 61 dX2_gatherPlanes_15 (by decide) (fun _ => ?_) (fun q => absurd (nI_le (Nat.le_refl _) (by omega)) q)
    exact hk g _ (fun j hj => hg j (by rw [plow_all n (by omega) p (by omega) hv.1]; exact hj))
  | succ k ih =>
    intro p g x hp hg hk
    refine pw_iload rfl dX2_gatherPlanes_12 ?_
    refine pw_iload_n rfl dX2_gatherPlanes_14 ?_
    refine pw_icmp_ge 61 dX2_gatherPlanes_15 (by decide) (fun q => absurd q (nI_ge (by omega) (by omega))) (fun _ => ?_)
    refine pw_iload rfl dX2_gatherPlanes_18 ?_
    refine ps_istore (l' := [_, _, _, _, _, _, _]) dX2_gatherPlanes_20 (by decide) rfl rfl ?_
    have := gat_inner (Γ := Γ) (F := F) (A := A) (rf := rf) (lo := lo) (X := X) (Q := Q) hr ht hrt hct hn hN hN2 hn9 hB hv (p := p) (by omega) (if p < n then plen n v p else 0) 0 g (by omega) (fun j hj => hg j (by omega)) (fun g x hg => ?_)
    · rw [Nat.zero_mul, Nat.add_zero, Nat.add_zero] at this
      exact this
    · refine ps_iinc (l' := [_, _, _, _, _, _, _]) 1 dX2_gatherPlanes_55 (by decide) rfl (by decide) rfl rfl ?_
      refine pw_goto 12 dX2_gatherPlanes_58 (by decide) ?_
      rw [nI_1]
      exact ih (p + 1) g x (by omega) hg hk
theorem c_gather (hr : isRow r c cap) (ht : isRow t tc tcap) (hrt : ¬ r = t) (hct : ¬ c = tc) (hn : F r 1 = nI n) (hN : n ≤ cap) (hN2 : n ≤ tcap) (hn9 : n ≤ 300) (hB : isB (A c) n) (hv : 2 ≤ v ∧ v ≤ 8)
    (hQ : ∀ g, (∀ j, j < n → g j = A c (src n v v 0 j)) → Q none (TS F A t tc n g rf lo X)) : PM Γ mX2_gatherPlanes [.int (nI v), .ref r, .ref t] (TS F A t tc n g rf lo X) 0 0 Q := by
  refine PM.go (l := [_, _, _, .float 0, .float 0, .float 0, .float 0]) rfl rfl (Nat.le_of_ble_eq_true rfl) rfl ?_
  refine pw_iload_n rfl dX2_gatherPlanes_0 ?_
  refine pw_iconst 1 (by decide) dX2_gatherPlanes_1 ?_
  refine pw_maxN v 1 rfl rfl (by omega) (by omega) dX2_gatherPlanes_2 lX2_21 (by decide) (Nat.le_of_ble_eq_true rfl) ?_
  refine ps_istore_n (l' := [_, _, _, _, _, _, _]) dX2_gatherPlanes_5 (by decide) rfl rfl ?_
  refine pw_iconst 0 (by decide) dX2_gatherPlanes_6 ?_
  refine ps_istore (l' := [_, _, _, _, _, _, _]) dX2_gatherPlanes_7 (by decide) rfl rfl ?_
  refine pw_iconst 0 (by decide) dX2_gatherPlanes_9 ?_
  refine ps_istore (l' := [_, _, _, _, _, _, _]) dX2_gatherPlanes_10 (by decide) rfl rfl ?_
  rw [show max v 1 = v by omega]
  refine gat_loop hr ht hrt hct hn hN hN2 hn9 hB hv v 0 g _ (by omega) (fun j hj => absurd hj (Nat.not_lt_zero _)) (fun g l hg => ?_)
  refine pw_vret dX2_gatherPlanes_61 rfl ?_
  exact hQ g hg
theorem spr_inner (hr : isRow r c cap) (ht : isRow t tc tcap) (hrt : ¬ r = t) (hct : ¬ c = tc) (hn : F r 1 = nI n) (hN : n ≤ cap) (hN2 : n ≤ tcap) (hn9 : n ≤ 300) (hB : isB (A c) n) (hv : 2 ≤ v ∧ v ≤ 8) {p : Nat} (hpv : p < v) : ∀ (k s : Nat) (g : Nat → Int32), s + k = (if p < n then plen n v p else 0) → (∀ x, x < n → dst n v x < plow n v p + s → g x = A c (dst n v x)) →
    (∀ g x, (∀ x, x < n → dst n v x < plow n v (p + 1) → g x = A c (dst n v x)) → PW Γ mX2_spreadPlanes 55 [.int (nI v), .ref r, .ref t, .int (nI v), .int (nI (plow n v (p + 1))), .int (nI p), x] [] (TS F A t tc n g rf lo X) 0 0 Q) →
    PW Γ mX2_spreadPlanes 22 [.int (nI v), .ref r, .ref t, .int (nI v), .int (nI (plow n v p + s)), .int (nI p), .int (nI (p + s * v))] [] (TS F A t tc n g rf lo X) 0 0 Q := by
  obtain ⟨h1, h2, h9, hc⟩ := id hr
  obtain ⟨g1, g2, g9, gc⟩ := id ht
  have hall := plow_all n (by omega) v (by omega) hv.1
  have e1 : plow n v (p + 1) = plow n v p + (if p < n then plen n v p else 0) := rfl
  have hmono := plow_mono (n := n) (v := v) (p := p + 1) (q := v) (by omega)
  have hsv : ∀ s, s ≤ (if p < n then plen n v p else 0) → p + s * v ≤ 400 := by
    intro s hs
    split at hs
    · rename_i hpn
      by_cases h0 : s = 0
      · subst h0; omega
      · have := (plen_iff (s := s - 1) (by omega) hpv hpn).mp (by omega)
        have e : s * v = (s - 1) * v + v := by
          rw [← Nat.succ_mul]
          congr 1
          omega
        omega
    · have : s = 0 := by omega
      subst this
      omega
  intro k
  induction k with
  | zero =>
    intro s g hs hg hk
    have hb4 := hsv s (by omega)
    have hge : n ≤ p + s * v := by
      by_cases hpn : p < n
      · rw [if_pos hpn] at hs
        apply Nat.not_lt.mp
        intro z
        have := (plen_iff (by omega) hpv hpn).mpr z
        omega
      · omega
    refine pw_iload rfl dX2_spreadPlanes_22 ?_
    refine pw_aload_n rfl dX2_spreadPlanes_24 ?_
    refine pc_V0 dX2_spreadPlanes_25 lX2_27 rfl (by first | rfl | assumption) (by decide) (Nat.le_of_ble_eq_true rfl) ?_
    refine ts_count hr hrt hn ?_
    refine pw_icmp_ge 55 dX2_spreadPlanes_28 (by decide) (fun _ => ?_) (fun q => absurd (nI_le hge (by omega)) q)
    rw [show plow n v p + s = plow n v (p + 1) by omega]
    exact hk g _ (fun x hx hj => hg x hx (by omega))
  | succ k ih =>
    intro s g hs hg hk
    have hpn : p < n := by
      apply Nat.not_le.mp
      intro z
      rw [if_neg (by omega)] at hs
      omega
    rw [if_pos hpn] at hs e1
    have hsp : s < plen n v p := by omega
    have hlt : p + s * v < n := (plen_iff (by omega) hpv hpn).mp hsp
    refine pw_iload rfl dX2_spreadPlanes_22 ?_
    refine pw_aload_n rfl dX2_spreadPlanes_24 ?_
    refine pc_V0 dX2_spreadPlanes_25 lX2_27 rfl (by first | rfl | assumption) (by decide) (Nat.le_of_ble_eq_true rfl) ?_
    refine ts_count hr hrt hn ?_
    refine pw_icmp_ge 55 dX2_spreadPlanes_28 (by decide) (fun q => absurd q (nI_ge hlt (by omega))) (fun _ => ?_)
    refine pw_aload_n rfl dX2_spreadPlanes_31 ?_
    refine pw_iload rfl dX2_spreadPlanes_32 ?_
    refine pw_aload_n rfl dX2_spreadPlanes_34 ?_
    refine pw_iload rfl dX2_spreadPlanes_35 ?_
    refine pc_V1 dX2_spreadPlanes_37 lX2_31 rfl (by first | rfl | assumption) (by decide) (Nat.le_of_ble_eq_true rfl) ?_
    refine ts_get hr hrt hct hn hN rfl (by omega) ?_
    refine pc_V2 dX2_spreadPlanes_40 lX2_35 rfl (by first | rfl | assumption) (by decide) (Nat.le_of_ble_eq_true rfl) ?_
    refine ts_set ht hN2 rfl hlt ?_
    rw [isB_and hB (by omega)]
    refine ps_iinc (l' := [_, _, _, _, _, _, _]) 1 dX2_spreadPlanes_43 (by decide) rfl (by decide) rfl rfl ?_
    refine pw_iload rfl dX2_spreadPlanes_46 ?_
    refine pw_iload_n rfl dX2_spreadPlanes_48 ?_
    refine pw_iadd dX2_spreadPlanes_49 ?_
    refine ps_istore (l' := [_, _, _, _, _, _, _]) dX2_spreadPlanes_50 (by decide) rfl rfl ?_
    refine pw_goto 22 dX2_spreadPlanes_52 (by decide) ?_
    rw [nI_1, nI_add, show p + s * v + v = p + (s + 1) * v by rw [Nat.add_mul]; omega]
    refine ih (s + 1) _ (by rw [if_pos hpn]; omega) (fun x hx hj => ?_) hk
    unfold upd
    split
    · rename_i z
      rw [z, dst_at (by omega) hpv]
    · rename_i z
      refine hg x hx ?_
      apply Nat.lt_of_le_of_ne (by omega)
      intro q
      exact z (dst_inj (by omega) hpv hpn hsp hx q)
theorem spr_loop (hr : isRow r c cap) (ht : isRow t tc tcap) (hrt : ¬ r = t) (hct : ¬ c = tc) (hn : F r 1 = nI n) (hN : n ≤ cap) (hN2 : n ≤ tcap) (hn9 : n ≤ 300) (hB : isB (A c) n) (hv : 2 ≤ v ∧ v ≤ 8) : ∀ (k p : Nat) (g : Nat → Int32) (x : Value), p + k = v → (∀ x, x < n → dst n v x < plow n v p → g x = A c (dst n v x)) →
    (∀ g l, (∀ j, j < n → g j = A c (dst n v j)) → PW Γ mX2_spreadPlanes 61 l [] (TS F A t tc n g rf lo X) 0 0 Q) →
    PW Γ mX2_spreadPlanes 12 [.int (nI v), .ref r, .ref t, .int (nI v), .int (nI (plow n v p)), .int (nI p), x] [] (TS F A t tc n g rf lo X) 0 0 Q := by
  intro k
  induction k with
  | zero =>
    intro p g x hp hg hk
    have hp : p = v := by omega
    subst hp
    refine pw_iload rfl dX2_spreadPlanes_12 ?_
    refine pw_iload_n rfl dX2_spreadPlanes_14 ?_
    refine pw_icmp_ge 61 dX2_spreadPlanes_15 (by decide) (fun _ => ?_) (fun q => absurd (nI_le (Nat.le_refl _) (by omega)) q)
    exact hk g _ (fun j hj => hg j hj (by rw [plow_all n (by omega) p (by omega) hv.1]; exact dst_lt hn9 hv hj))
  | succ k ih =>
    intro p g x hp hg hk
    refine pw_iload rfl dX2_spreadPlanes_12 ?_
    refine pw_iload_n rfl dX2_spreadPlanes_14 ?_
    refine pw_icmp_ge 61 dX2_spreadPlanes_15 (by decide) (fun q => absurd q (nI_ge (by omega) (by omega))) (fun _ => ?_)
    refine pw_iload rfl dX2_spreadPlanes_18 ?_
    refine ps_istore (l' := [_, _, _, _, _, _, _]) dX2_spreadPlanes_20 (by decide) rfl rfl ?_
    have := spr_inner (Γ := Γ) (F := F) (A := A) (rf := rf) (lo := lo) (X := X) (Q := Q) hr ht hrt hct hn hN hN2 hn9 hB hv (p := p) (by omega) (if p < n then plen n v p else 0) 0 g (by omega) (fun x hx hj => hg x hx (by omega)) (fun g x hg => ?_)
    · rw [Nat.zero_mul, Nat.add_zero, Nat.add_zero] at this
      exact this
    · refine ps_iinc (l' := [_, _, _, _, _, _, _]) 1 dX2_spreadPlanes_55 (by decide) rfl (by decide) rfl rfl ?_
      refine pw_goto 12 dX2_spreadPlanes_58 (by decide) ?_
      rw [nI_1]
      exact ih (p + 1) g x (by omega) hg hk
theorem c_spread (hr : isRow r c cap) (ht : isRow t tc tcap) (hrt : ¬ r = t) (hct : ¬ c = tc) (hn : F r 1 = nI n) (hN : n ≤ cap) (hN2 : n ≤ tcap) (hn9 : n ≤ 300) (hB : isB (A c) n) (hv : 2 ≤ v ∧ v ≤ 8)
    (hQ : ∀ g, (∀ j, j < n → g j = A c (dst n v j)) → Q none (TS F A t tc n g rf lo X)) : PM Γ mX2_spreadPlanes [.int (nI v), .ref r, .ref t] (TS F A t tc n g rf lo X) 0 0 Q := by
  refine PM.go (l := [_, _, _, .float 0, .float 0, .float 0, .float 0]) rfl rfl (Nat.le_of_ble_eq_true rfl) rfl ?_
  refine pw_iload_n rfl dX2_spreadPlanes_0 ?_
  refine pw_iconst 1 (by decide) dX2_spreadPlanes_1 ?_
  refine pw_maxN v 1 rfl rfl (by omega) (by omega) dX2_spreadPlanes_2 lX2_21 (by decide) (Nat.le_of_ble_eq_true rfl) ?_
  refine ps_istore_n (l' := [_, _, _, _, _, _, _]) dX2_spreadPlanes_5 (by decide) rfl rfl ?_
  refine pw_iconst 0 (by decide) dX2_spreadPlanes_6 ?_
  refine ps_istore (l' := [_, _, _, _, _, _, _]) dX2_spreadPlanes_7 (by decide) rfl rfl ?_
  refine pw_iconst 0 (by decide) dX2_spreadPlanes_9 ?_
  refine ps_istore (l' := [_, _, _, _, _, _, _]) dX2_spreadPlanes_10 (by decide) rfl rfl ?_
  rw [show max v 1 = v by omega]
  refine spr_loop hr ht hrt hct hn hN hN2 hn9 hB hv v 0 g _ (by omega) (fun x _ hj => absurd hj (Nat.not_lt_zero _)) (fun g l hg => ?_)
  refine pw_vret dX2_spreadPlanes_61 rfl ?_
  exact hQ g hg
theorem ord_loop {g : Nat → Int32} (hf : isFil fi oi) : ∀ (k i : Nat), i + k = 256 →
    PW Γ mX2_startOrder 22 [.ref fi, .int (nI 256)] [] (HS F (stA A oi (cpn (fun b => nI b) g 256)) rf lo X) 0 0 Q →
    PW Γ mX2_startOrder 2 [.ref fi, .int (nI i)] [] (HS F (stA A oi (cpn (fun b => nI b) g i)) rf lo X) 0 0 Q := by
  obtain ⟨h1, h2, h9⟩ := hf
  intro k
  induction k with
  | zero =>
    intro i hi hk
    have hi : i = 256 := by omega
    subst hi
    refine pw_iload_n rfl dX2_startOrder_2 ?_
    refine pw_sipush 256 (by decide) dX2_startOrder_3 ?_
    refine pw_icmp_ge 22 dX2_startOrder_6 (by decide) (fun _ => ?_) (fun q => absurd (by decide) q)
    exact hk
  | succ k ih =>
    intro i hi hk
    refine pw_iload_n rfl dX2_startOrder_2 ?_
    refine pw_sipush 256 (by decide) dX2_startOrder_3 ?_
    refine pw_icmp_ge 22 dX2_startOrder_6 (by decide) (fun q => absurd q (nI_ge (b := 256) (by omega) (by omega))) (fun _ => ?_)
    refine pw_aload_n rfl dX2_startOrder_9 ?_
    refine pw_gC dX2_startOrder_10 fX2_9 (by first | rfl | assumption) rfl (by first | rfl | assumption) ?_
    refine pw_iload_n rfl dX2_startOrder_13 ?_
    refine pw_iload_n rfl dX2_startOrder_14 ?_
    refine pw_sI dX2_startOrder_15 (by first | rfl | assumption) (by first | assumption | exact vp_in_nI (by omega) (by omega)) ?_
    refine ps_iinc (l' := [_, _]) 1 dX2_startOrder_16 (by decide) rfl (by decide) rfl rfl ?_
    refine pw_goto 2 dX2_startOrder_19 (by decide) ?_
    rw [nI_clamp (by omega), stA_s, cpn_step rfl, stA_stA, nI_1]
    exact ih (i + 1) (by omega) hk
theorem c_order (hf : isFil fi oi) (hQ : Q none (HS F (stA A oi (cpn (fun b => nI b) (A oi) 256)) rf lo X)) : PM Γ mX2_startOrder [.ref fi] (HS F A rf lo X) 0 0 Q := by
  refine PM.go (l := [_, .float 0]) rfl rfl (Nat.le_of_ble_eq_true rfl) rfl ?_
  refine pw_iconst 0 (by decide) dX2_startOrder_0 ?_
  refine ps_istore_n (l' := [_, _]) dX2_startOrder_1 (by decide) rfl rfl ?_
  have e : HS F A rf lo X = HS F (stA A oi (cpn (fun b => nI b) (A oi) 0)) rf lo X := by rw [stA_self cpn_0]
  rw [e]
  refine ord_loop hf 256 0 (by omega) ?_
  refine pw_vret dX2_startOrder_22 rfl ?_
  exact hQ
/-- while b is carried to the front -/
def shb (o : Nat → Int32) (b : Int32) (p : Nat) : Nat → Int32 := fun j => if j < p then (if j = 0 then b else o (j - 1)) else o j
theorem shb_s {o : Nat → Int32} {b : Int32} {p : Nat} : upd (shb o b p) p (if p = 0 then b else o (p - 1)) = shb o b (p + 1) := by
  funext j
  unfold upd shb
  by_cases h : j = p
  · subst h
    rw [if_pos rfl, if_pos (show j < j + 1 by omega)]
  · rw [if_neg h]
    by_cases h2 : j < p
    · rw [if_pos h2, if_pos (show j < p + 1 by omega)]
    · rw [if_neg h2, if_neg (show ¬ j < p + 1 by omega)]
theorem shb_m {o : Nat → Int32} {p : Nat} : shb o (o p) (p + 1) = mtf o p := by
  funext j
  unfold shb mtf
  by_cases h : j = 0
  · subst h
    rw [if_pos (by omega), if_pos rfl, if_pos rfl]
  · by_cases h2 : j ≤ p
    · rw [if_pos (by omega), if_neg h, if_neg h, if_pos h2]
    · rw [if_neg (by omega), if_neg h, if_neg h2]
theorem bring_loop {b q : Nat} (hf : isFil fi oi) (hb : b < 256) (hq : q < 256) (e : o q = nI b) (hlt : ∀ j, j < q → ¬ o j = nI b) : ∀ (k p : Nat) (g : Value), p + k = q →
    (Q (some (.int (nI q))) (HS F (stA A oi (mtf o q)) rf lo X)) →
    PW Γ mX2_bringToFront 4 [.ref fi, .int (nI b), .int (if p = 0 then nI b else o (p - 1)), .int (nI p), g] [] (HS F (stA A oi (shb o (nI b) p)) rf lo X) 0 0 Q := by
  obtain ⟨h1, h2, h9⟩ := hf
  have hat : ∀ p, shb o (nI b) p p = o p := fun p => by
    unfold shb
    rw [if_neg (Nat.lt_irrefl _)]
  intro k
  induction k with
  | zero =>
    intro p g hp hk
    have hp : p = q := by omega
    subst hp
    refine pw_iload_n rfl dX2_bringToFront_4 ?_
    refine pw_sipush 256 (by decide) dX2_bringToFront_5 ?_
    refine pw_icmp_ge 43 dX2_bringToFront_8 (by decide) (fun q => absurd q (nI_ge (b := 256) hq (by omega))) (fun _ => ?_)
    refine pw_aload_n rfl dX2_bringToFront_11 ?_
    refine pw_gC dX2_bringToFront_12 fX2_9 (by first | rfl | assumption) rfl (by first | rfl | assumption) ?_
    refine pw_iload_n rfl dX2_bringToFront_15 ?_
    refine pw_aI dX2_bringToFront_16 (by first | rfl | assumption) (by first | assumption | exact vp_in_nI (by omega) (by omega)) ?_
    rw [stA_s, nI_clamp (by omega), hat, e]
    refine ps_istore (l' := [_, _, _, _, _]) dX2_bringToFront_17 (by decide) rfl rfl ?_
    refine pw_aload_n rfl dX2_bringToFront_19 ?_
    refine pw_gC dX2_bringToFront_20 fX2_9 (by first | rfl | assumption) rfl (by first | rfl | assumption) ?_
    refine pw_iload_n rfl dX2_bringToFront_23 ?_
    refine pw_iload_n rfl dX2_bringToFront_24 ?_
    refine pw_sI dX2_bringToFront_25 (by first | rfl | assumption) (by first | assumption | exact vp_in_nI (by omega) (by omega)) ?_
    refine pw_iload rfl dX2_bringToFront_26 ?_
    refine pw_iload_n rfl dX2_bringToFront_28 ?_
    refine pw_icmp_ne 34 dX2_bringToFront_29 (by decide) (fun q => absurd (rfl) q) (fun _ => ?_)
    refine pw_iload_n rfl dX2_bringToFront_32 ?_
    refine pw_iret dX2_bringToFront_33 (Or.inl rfl) ?_
    rw [stA_s, nI_clamp (by omega), shb_s, stA_stA, ← e, shb_m]
    exact hk
  | succ k ih =>
    intro p g hp hk
    refine pw_iload_n rfl dX2_bringToFront_4 ?_
    refine pw_sipush 256 (by decide) dX2_bringToFront_5 ?_
    refine pw_icmp_ge 43 dX2_bringToFront_8 (by decide) (fun q => absurd q (nI_ge (b := 256) (by omega) (by omega))) (fun _ => ?_)
    refine pw_aload_n rfl dX2_bringToFront_11 ?_
    refine pw_gC dX2_bringToFront_12 fX2_9 (by first | rfl | assumption) rfl (by first | rfl | assumption) ?_
    refine pw_iload_n rfl dX2_bringToFront_15 ?_
    refine pw_aI dX2_bringToFront_16 (by first | rfl | assumption) (by first | assumption | exact vp_in_nI (by omega) (by omega)) ?_
    rw [stA_s, nI_clamp (by omega), hat]
    refine ps_istore (l' := [_, _, _, _, _]) dX2_bringToFront_17 (by decide) rfl rfl ?_
    refine pw_aload_n rfl dX2_bringToFront_19 ?_
    refine pw_gC dX2_bringToFront_20 fX2_9 (by first | rfl | assumption) rfl (by first | rfl | assumption) ?_
    refine pw_iload_n rfl dX2_bringToFront_23 ?_
    refine pw_iload_n rfl dX2_bringToFront_24 ?_
    refine pw_sI dX2_bringToFront_25 (by first | rfl | assumption) (by first | assumption | exact vp_in_nI (by omega) (by omega)) ?_
    refine pw_iload rfl dX2_bringToFront_26 ?_
    refine pw_iload_n rfl dX2_bringToFront_28 ?_
    refine pw_icmp_ne 34 dX2_bringToFront_29 (by decide) (fun _ => ?_) (fun q => absurd q (hlt p (by omega)))
    refine pw_iload rfl dX2_bringToFront_34 ?_
    refine ps_istore_n (l' := [_, _, _, _, _]) dX2_bringToFront_36 (by decide) rfl rfl ?_
    refine ps_iinc (l' := [_, _, _, _, _]) 1 dX2_bringToFront_37 (by decide) rfl (by decide) rfl rfl ?_
    refine pw_goto 4 dX2_bringToFront_40 (by decide) ?_
    rw [stA_s, nI_clamp (by omega), shb_s, stA_stA, nI_1]
    have := ih (p + 1) (.int (o p)) (by omega) hk
    rw [if_neg (by omega), show p + 1 - 1 = p by omega] at this
    exact this
theorem c_bring {b : Nat} (hf : isFil fi oi) (hb : b < 256) (ho : perm (A oi)) (hQ : Q (some (.int (nI (pos (A oi) (nI b) 256 0)))) (HS F (stA A oi (mtf (A oi) (pos (A oi) (nI b) 256 0))) rf lo X)) : PM Γ mX2_bringToFront [.ref fi, .int (nI b)] (HS F A rf lo X) 0 0 Q := by
  obtain ⟨p1, p2, p3⟩ := pos_perm ho hb
  refine PM.go (l := [_, _, .float 0, .float 0, .float 0]) rfl rfl (Nat.le_of_ble_eq_true rfl) rfl ?_
  refine pw_iload_n rfl dX2_bringToFront_0 ?_
  refine ps_istore_n (l' := [_, _, _, _, _]) dX2_bringToFront_1 (by decide) rfl rfl ?_
  refine pw_iconst 0 (by decide) dX2_bringToFront_2 ?_
  refine ps_istore_n (l' := [_, _, _, _, _]) dX2_bringToFront_3 (by decide) rfl rfl ?_
  have e : HS F A rf lo X = HS F (stA A oi (shb (A oi) (nI b) 0)) rf lo X := by
    rw [stA_self]
    funext j
    unfold shb
    rw [if_neg (Nat.not_lt_zero _)]
  rw [e]
  exact bring_loop hf hb p1 p2 p3 (pos (A oi) (nI b) 256 0) 0 _ (by omega) hQ
theorem c_take {b : Nat} (hf : isFil fi oi) (hb : b < 256) (hQ : Q (some (.int (A oi b))) (HS F (stA A oi (mtf (A oi) b)) rf lo X)) : PM Γ mX2_takeToFront [.ref fi, .int (nI b)] (HS F A rf lo X) 0 0 Q := by
  obtain ⟨h1, h2, h9⟩ := hf
  refine PM.go (l := [_, _, .float 0, .float 0]) rfl rfl (Nat.le_of_ble_eq_true rfl) rfl ?_
  refine pw_iload_n rfl dX2_takeToFront_0 ?_
  refine pw_sipush 255 (by decide) dX2_takeToFront_1 ?_
  refine pw_iand dX2_takeToFront_4 ?_
  rw [nI_and255s hb]
  refine ps_istore_n (l' := [_, _, _, _]) dX2_takeToFront_5 (by decide) rfl rfl ?_
  refine pw_aload_n rfl dX2_takeToFront_6 ?_
  refine pw_gC dX2_takeToFront_7 fX2_9 (by first | rfl | assumption) rfl (by first | rfl | assumption) ?_
  refine pw_iload_n rfl dX2_takeToFront_10 ?_
  refine pw_aI dX2_takeToFront_11 (by first | rfl | assumption) (by first | assumption | exact vp_in_nI (by omega) (by omega)) ?_
  refine ps_istore_n (l' := [_, _, _, _]) dX2_takeToFront_12 (by decide) rfl rfl ?_
  refine pw_aload_n rfl dX2_takeToFront_13 ?_
  refine pw_gC dX2_takeToFront_14 fX2_9 (by first | rfl | assumption) rfl (by first | rfl | assumption) ?_
  refine pw_iconst 0 (by decide) dX2_takeToFront_17 ?_
  refine pw_aload_n rfl dX2_takeToFront_18 ?_
  refine pw_gC dX2_takeToFront_19 fX2_9 (by first | rfl | assumption) rfl (by first | rfl | assumption) ?_
  refine pw_iconst 1 (by decide) dX2_takeToFront_22 ?_
  refine pw_iload_n rfl dX2_takeToFront_23 ?_
  rw [nI_clamp (by omega)]
  have e0 : (0 : Int32).toNatClampNeg = 0 := rfl
  have e1 : (1 : Int32).toNatClampNeg = 1 := rfl
  refine pw_cp dX2_takeToFront_24 lX2_58 (by first | rfl | assumption) (by first | rfl | assumption) (by decide) (by decide) (nI_pos (by omega)) (by rw [e0, nI_clamp (by omega)]; omega) (by rw [e1, nI_clamp (by omega)]; omega) (by decide) (Nat.le_of_ble_eq_true rfl) ?_
  refine pw_aload_n rfl dX2_takeToFront_27 ?_
  refine pw_gC dX2_takeToFront_28 fX2_9 (by first | rfl | assumption) rfl (by first | rfl | assumption) ?_
  refine pw_iconst 0 (by decide) dX2_takeToFront_31 ?_
  refine pw_iload_n rfl dX2_takeToFront_32 ?_
  refine pw_sI dX2_takeToFront_33 (by first | rfl | assumption) (vp_in_nI (n := 0) (by decide) (by decide)) ?_
  refine pw_iload_n rfl dX2_takeToFront_34 ?_
  refine pw_iret dX2_takeToFront_35 (Or.inl rfl) ?_
  rw [stA_s, stA_stA, e0, e1, nI_clamp (by omega)]
  have e2 : upd (va_cpy (A oi) (A oi) 0 1 b) 0 (A oi b) = mtf (A oi) b := by
    funext j
    unfold upd va_cpy mtf
    by_cases h : j = 0
    · rw [if_pos h, if_pos h]
    · rw [if_neg h, if_neg h]
      by_cases h2 : j ≤ b
      · rw [if_pos ⟨by omega, by omega⟩, if_pos h2]
        congr 1
        omega
      · rw [if_neg (by omega), if_neg h2]
  rw [e2]
  exact hQ
end
