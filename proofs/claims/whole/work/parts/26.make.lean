/-! Filters.make, Filters.undo -/
theorem sub255 {a b : Nat} (ha : a < 256) (hb : b < 256) : (nI a - nI b) &&& 255 = nI ((a + (256 - b)) % 256) := by
  rw [pk_and _ 8 rfl]
  congr 1
  show (BitVec.ofNat 32 a - BitVec.ofNat 32 b).toNat % 2 ^ 8 = _
  rw [BitVec.toNat_sub, BitVec.toNat_ofNat, BitVec.toNat_ofNat]
  omega
theorem add255 {a b : Nat} (ha : a < 256) (hb : b < 256) : (nI a + nI b) &&& 255 = nI ((a + b) % 256) := by
  rw [nI_add, nI_and255 (by omega)]
theorem cpn_mtf {o g : Nat → Int32} {p : Nat} (hp : p < 256) : mtf (cpn o g 256) p = cpn (mtf o p) g 256 := by
  funext j
  by_cases h : j < 256
  · rw [cpn_lt (f := mtf o p) h]
    unfold mtf
    by_cases h0 : j = 0
    · rw [if_pos h0, if_pos h0, cpn_lt hp]
    · rw [if_neg h0, if_neg h0]
      by_cases h1 : j ≤ p
      · rw [if_pos h1, if_pos h1, cpn_lt (by omega)]
      · rw [if_neg h1, if_neg h1, cpn_lt h]
  · rw [cpn_ge (f := mtf o p) h]
    unfold mtf
    rw [if_neg (by omega), if_neg (by omega), cpn_ge h]
theorem cpn_pos {o g : Nat → Int32} {b : Int32} : ∀ (k p : Nat), p + k ≤ 256 → pos (cpn o g 256) b k p = pos o b k p
  | 0, _, _ => rfl
  | k + 1, p, h => by
    show (if cpn o g 256 p = b then p else pos (cpn o g 256) b k (p + 1)) = if o p = b then p else pos o b k (p + 1)
    rw [cpn_lt (by omega), cpn_pos k (p + 1) (by omega)]
theorem cpn_perm {o g : Nat → Int32} (h : perm o) : perm (cpn o g 256) := by
  refine ⟨fun j hj => ?_, fun b hb => ?_⟩
  · rw [cpn_lt hj]; exact h.1 j hj
  · obtain ⟨p, hp, e⟩ := h.2 b hb
    exact ⟨p, hp, by rw [cpn_lt hp]; exact e⟩
section
variable {Γ : Nat × (Nat → Int32)} {F A : Nat → Nat → Int32} {rf : Nat} {lo : Int64} {X : PH} {Q : Option Value → PH → Prop} {r c cap n t tc tcap fi oi v : Nat} {g o : Nat → Int32}
theorem mkd_loop (hr : isRow r c cap) (ht : isRow t tc tcap) (hrt : ¬ r = t) (hct : ¬ c = tc) (hn : F r 1 = nI n) (hN : n ≤ cap) (hN2 : n ≤ tcap) (hB : isB (A c) n) (hv : 1 ≤ v ∧ v ≤ 8) {x1 : Int32} : ∀ (k i : Nat) (g : Nat → Int32), n - i = k → v ≤ i → i ≤ 2000 → (∀ j, j < i → j < n → g j = fdel (A c) v j) →
    (∀ g l, (∀ j, j < n → g j = fdel (A c) v j) → PW Γ mX2_make 138 l [] (TS F A t tc n g rf lo X) 0 0 Q) →
    PW Γ mX2_make 39 [.ref fi, .int x1, .int (nI v), .ref r, .ref t, .int (nI i)] [] (TS F A t tc n g rf lo X) 0 0 Q := by
  obtain ⟨h1, h2, h9, hc⟩ := id hr
  obtain ⟨g1, g2, g9, gc⟩ := id ht
  intro k
  induction k with
  | zero =>
    intro i g hi hvi hi2 hg hk
    refine pw_iload rfl dX2_make_39 ?_
    refine pw_aload_n rfl dX2_make_41 ?_
    refine pc_V0 dX2_make_42 lX2_27 rfl (by first | rfl | assumption) (by decide) (Nat.le_of_ble_eq_true rfl) ?_
    refine ts_count hr hrt hn ?_
    refine pw_icmp_ge 76 dX2_make_45 (by decide) (fun _ => ?_) (fun q => absurd (nI_le (by omega) (by omega)) q)
    refine pw_goto 138 dX2_make_76 (by decide) ?_
    exact hk g _ (fun j hj => hg j (by omega) hj)
  | succ k ih =>
    intro i g hi hvi hi2 hg hk
    obtain ⟨ha, ha2⟩ := isB_bN hB (show i < n by omega)
    obtain ⟨hb, hb2⟩ := isB_bN hB (show i - v < n by omega)
    refine pw_iload rfl dX2_make_39 ?_
    refine pw_aload_n rfl dX2_make_41 ?_
    refine pc_V0 dX2_make_42 lX2_27 rfl (by first | rfl | assumption) (by decide) (Nat.le_of_ble_eq_true rfl) ?_
    refine ts_count hr hrt hn ?_
    refine pw_icmp_ge 76 dX2_make_45 (by decide) (fun q => absurd q (nI_ge (by omega) (by omega))) (fun _ => ?_)
    refine pw_aload rfl dX2_make_48 ?_
    refine pw_iload rfl dX2_make_50 ?_
    refine pw_aload_n rfl dX2_make_52 ?_
    refine pw_iload rfl dX2_make_53 ?_
    refine pc_V1 dX2_make_55 lX2_31 rfl (by first | rfl | assumption) (by decide) (Nat.le_of_ble_eq_true rfl) ?_
    refine ts_get hr hrt hct hn hN rfl (by omega) ?_
    refine pw_aload_n rfl dX2_make_58 ?_
    refine pw_iload rfl dX2_make_59 ?_
    refine pw_iload_n rfl dX2_make_61 ?_
    refine pw_isub dX2_make_62 ?_
    rw [pk_sub (by omega)]
    refine pc_V1 dX2_make_63 lX2_31 rfl (by first | rfl | assumption) (by decide) (Nat.le_of_ble_eq_true rfl) ?_
    refine ts_get hr hrt hct hn hN rfl (by omega) ?_
    refine pw_isub dX2_make_66 ?_
    refine pc_V2 dX2_make_67 lX2_35 rfl (by first | rfl | assumption) (by decide) (Nat.le_of_ble_eq_true rfl) ?_
    refine ts_set ht hN2 rfl (by omega) ?_
    refine ps_iinc (l' := [_, _, _, _, _, _]) 1 dX2_make_70 (by decide) rfl (by decide) rfl rfl ?_
    refine pw_goto 39 dX2_make_73 (by decide) ?_
    rw [nI_1]
    refine ih (i + 1) _ (by omega) (by omega) (by omega) (fun j hj hjn => ?_) hk
    unfold upd
    split
    · rename_i z
      subst z
      unfold fdel
      rw [if_neg (by omega)]
      generalize bN (A c j) = a at ha ha2 ⊢
      generalize bN (A c (j - v)) = b at hb hb2 ⊢
      rw [ha, hb, sub255 ha2 hb2]
    · exact hg j (by omega) hjn
theorem mkf_loop {g0 : Nat → Int32} (hf : isFil fi oi) (hr : isRow r c cap) (ht : isRow t tc tcap) (hrt : ¬ r = t) (hct : ¬ c = tc) (hot : ¬ oi = tc) (hoc : ¬ c = oi) (hn : F r 1 = nI n) (hN : n ≤ cap) (hN2 : n ≤ tcap) (hB : isB (A c) n) {x1 x2 : Int32} : ∀ (k i : Nat) (g : Nat → Int32), i + k = n → (∀ j, j < i → g j = nI (pos (ofr (A c) j) (A c j) 256 0)) →
    (∀ g o l, (∀ j, j < n → g j = nI (pos (ofr (A c) j) (A c j) 256 0)) → PW Γ mX2_make 138 l [] (TS F (stA A oi o) t tc n g rf lo X) 0 0 Q) →
    PW Γ mX2_make 86 [.ref fi, .int x1, .int x2, .ref r, .ref t, .int (nI i)] [] (TS F (stA A oi (cpn (ofr (A c) i) g0 256)) t tc n g rf lo X) 0 0 Q := by
  obtain ⟨f1, f2, f9⟩ := id hf
  obtain ⟨h1, h2, h9, hc⟩ := id hr
  obtain ⟨g1, g2, g9, gc⟩ := id ht
  intro k
  induction k with
  | zero =>
    intro i g hi hg hk
    have hi : i = n := by omega
    subst hi
    refine pw_iload rfl dX2_make_86 ?_
    refine pw_aload_n rfl dX2_make_88 ?_
    refine pc_V0 dX2_make_89 lX2_27 rfl (by first | rfl | assumption) (by decide) (Nat.le_of_ble_eq_true rfl) ?_
    refine ts_count hr hrt hn ?_
    refine pw_icmp_ge 118 dX2_make_92 (by decide) (fun _ => ?_) (fun q => absurd (nI_le (Nat.le_refl _) (by omega)) q)
    refine pw_goto 138 dX2_make_118 (by decide) ?_
    exact hk g _ _ hg
  | succ k ih =>
    intro i g hi hg hk
    obtain ⟨b, hb, hfb⟩ := hB i (by omega)
    have hp := ofr_perm hB i (by omega)
    have hpp := (pos_perm hp hb).1
    refine pw_iload rfl dX2_make_86 ?_
    refine pw_aload_n rfl dX2_make_88 ?_
    refine pc_V0 dX2_make_89 lX2_27 rfl (by first | rfl | assumption) (by decide) (Nat.le_of_ble_eq_true rfl) ?_
    refine ts_count hr hrt hn ?_
    refine pw_icmp_ge 118 dX2_make_92 (by decide) (fun q => absurd q (nI_ge (by omega) (by omega))) (fun _ => ?_)
    refine pw_aload rfl dX2_make_95 ?_
    refine pw_iload rfl dX2_make_97 ?_
    refine pw_aload_n rfl dX2_make_99 ?_
    refine pw_aload_n rfl dX2_make_100 ?_
    refine pw_iload rfl dX2_make_101 ?_
    refine pc_V1 dX2_make_103 lX2_31 rfl (by first | rfl | assumption) (by decide) (Nat.le_of_ble_eq_true rfl) ?_
    refine ts_get hr hrt hct hn hN rfl (by omega) ?_
    rw [stA_n hoc, hfb]
    unfold TS
    refine pc_V1 dX2_make_106 lX2_42 rfl f1 (by decide) (Nat.le_of_ble_eq_true rfl) ?_
    refine c_bring hf hb (by rw [stA_n hot, stA_s]; exact cpn_perm hp) ?_
    rw [stA_n hot, stA_s, cpn_pos 256 0 (by omega), stA_comm (i := tc) (j := oi) (by omega), stA_stA, cpn_mtf hpp]
    refine pc_V2 dX2_make_109 lX2_35 rfl g1 (by decide) (Nat.le_of_ble_eq_true rfl) ?_
    refine ts_set (F := F) (A := stA A oi (cpn (mtf (ofr (A c) i) (pos (ofr (A c) i) (nI b) 256 0)) g0 256)) ht hN2 rfl (by omega) ?_
    refine ps_iinc (l' := [_, _, _, _, _, _]) 1 dX2_make_112 (by decide) rfl (by decide) rfl rfl ?_
    refine pw_goto 86 dX2_make_115 (by decide) ?_
    rw [nI_1]
    have e : mtf (ofr (A c) i) (pos (ofr (A c) i) (nI b) 256 0) = ofr (A c) (i + 1) := by
      show _ = mtf (ofr (A c) i) (pos (ofr (A c) i) (A c i) 256 0)
      rw [hfb]
    rw [e]
    refine ih (i + 1) _ (by omega) (fun j hj => ?_) hk
    unfold upd
    split
    · rename_i z
      rw [z, hfb, nI_and255s hpp]
    · exact hg j (by omega)
theorem c_make {kind : Nat} (hf : isFil fi oi) (hr : isRow r c cap) (ht : isRow t tc tcap) (hrt : ¬ r = t) (hct : ¬ c = tc) (hot : ¬ oi = tc) (hoc : ¬ c = oi) (hn : F r 1 = nI n) (hN : n ≤ cap) (hN2 : n ≤ tcap) (hn9 : n ≤ 300) (hB : isB (A c) n) (hk : fok kind v)
    (hQ : ∀ g o, (∀ j, j < n → g j = fmk kind v (A c) n j) → Q none (TS F (stA A oi o) t tc n g rf lo X)) : PM Γ mX2_make [.ref fi, .int (nI kind), .int (nI v), .ref r, .ref t] (HS F A rf lo X) 0 0 Q := by
  obtain ⟨f1, f2, f9⟩ := id hf
  obtain ⟨h1, h2, h9, hc⟩ := id hr
  obtain ⟨g1, g2, g9, gc⟩ := id ht
  have hself : ∀ g, TS F A t tc n g rf lo X = TS F (stA A oi (A oi)) t tc n g rf lo X := fun g => by rw [stA_self rfl]
  refine PM.go (l := [_, _, _, _, _, .float 0]) rfl rfl (Nat.le_of_ble_eq_true rfl) rfl ?_
  refine pw_aload rfl dX2_make_0 ?_
  refine pw_aload_n rfl dX2_make_2 ?_
  refine pc_V1 dX2_make_3 lX2_15 rfl (by first | rfl | assumption) (by decide) (Nat.le_of_ble_eq_true rfl) ?_
  refine c_become ht hr hn hN2 hN ?_
  have e0 : HS (upF F t 1 (nI n)) (stA A tc (cpn (A c) (A tc) n)) rf lo X = TS F A t tc n (cpn (A c) (A tc) n) rf lo X := rfl
  rw [e0]
  rcases hk with ⟨rfl, hv⟩ | ⟨rfl, rfl⟩ | ⟨rfl, hv⟩ | ⟨rfl, hv⟩
  · refine pw_iload_n rfl dX2_make_6 ?_
    refine pw_tin 32 dX2_make_7 (by decide) (by decide) rfl (by decide) ?_
    refine pw_iload_n rfl dX2_make_32 ?_
    refine pw_iconst 0 (by decide) dX2_make_33 ?_
    refine pw_maxN v 0 rfl rfl (by omega) (by omega) dX2_make_34 lX2_21 (by decide) (Nat.le_of_ble_eq_true rfl) ?_
    refine ps_istore (l' := [_, _, _, _, _, _]) dX2_make_37 (by decide) rfl rfl ?_
    rw [show max v 0 = v by omega]
    refine mkd_loop hr ht hrt hct hn hN hN2 hB hv (n - v) v _ rfl (Nat.le_refl _) (by omega) (fun j hj hjn => ?_) (fun g l hg => ?_)
    · unfold fdel
      rw [if_pos hj, cpn_lt hjn]
    · rw [hself]
      refine pw_vret dX2_make_138 rfl ?_
      exact hQ g _ hg
  · refine pw_iload_n rfl dX2_make_6 ?_
    refine pw_tin 79 dX2_make_7 (by decide) (by decide) rfl (by decide) ?_
    refine pw_aload_n rfl dX2_make_79 ?_
    unfold TS
    refine pc_V0 dX2_make_80 lX2_39 rfl f1 (by decide) (Nat.le_of_ble_eq_true rfl) ?_
    refine c_order hf ?_
    rw [stA_comm (i := tc) (j := oi) (by omega), stA_n hot]
    refine pw_iconst 0 (by decide) dX2_make_83 ?_
    refine ps_istore (l' := [_, _, _, _, _, _]) dX2_make_84 (by decide) rfl rfl ?_
    refine mkf_loop hf hr ht hrt hct hot hoc hn hN hN2 hB n 0 _ (by omega) (fun j hj => by omega) (fun g o l hg => ?_)
    refine pw_vret dX2_make_138 rfl ?_
    exact hQ g _ hg
  · refine pw_iload_n rfl dX2_make_6 ?_
    refine pw_tin 121 dX2_make_7 (by decide) (by decide) rfl (by decide) ?_
    refine pw_iload_n rfl dX2_make_121 ?_
    refine pw_aload_n rfl dX2_make_122 ?_
    refine pw_aload rfl dX2_make_123 ?_
    refine pc_S3 dX2_make_125 lX2_45 (by decide) (Nat.le_of_ble_eq_true rfl) ?_
    refine c_gather hr ht hrt hct hn hN hN2 hn9 hB hv (fun g hg => ?_)
    rw [hself]
    refine pw_goto 138 dX2_make_128 (by decide) ?_
    refine pw_vret dX2_make_138 rfl ?_
    exact hQ g _ hg
  · refine pw_iload_n rfl dX2_make_6 ?_
    refine pw_tout 131 dX2_make_7 (Or.inr (by decide)) (by decide) ?_
    refine pw_iload_n rfl dX2_make_131 ?_
    refine pw_aload_n rfl dX2_make_132 ?_
    refine pw_aload rfl dX2_make_133 ?_
    refine pc_S3 dX2_make_135 lX2_49 (by decide) (Nat.le_of_ble_eq_true rfl) ?_
    refine c_mask hr ht hrt hct hn hN hN2 hB (by omega) (fun g hg => ?_)
    rw [hself]
    refine pw_vret dX2_make_138 rfl ?_
    exact hQ g _ hg
theorem und_loop (hr : isRow r c cap) (ht : isRow t tc tcap) (hrt : ¬ r = t) (hct : ¬ c = tc) (hn : F r 1 = nI n) (hN : n ≤ cap) (hN2 : n ≤ tcap) (hB : isB (A c) n) (hv : 1 ≤ v ∧ v ≤ 8) {x1 : Int32} : ∀ (k i : Nat) (g : Nat → Int32), n - i = k → v ≤ i → i ≤ 2000 → (∀ j, j < i → j < n → g j = udel (A c) v (j + 1) j) →
    (∀ g l, (∀ j, j < n → g j = udel (A c) v (j + 1) j) → PW Γ mX2_undo 139 l [] (TS F A t tc n g rf lo X) 0 0 Q) →
    PW Γ mX2_undo 39 [.ref fi, .int x1, .int (nI v), .ref r, .ref t, .int (nI i)] [] (TS F A t tc n g rf lo X) 0 0 Q := by
  obtain ⟨h1, h2, h9, hc⟩ := id hr
  obtain ⟨g1, g2, g9, gc⟩ := id ht
  intro k
  induction k with
  | zero =>
    intro i g hi hvi hi2 hg hk
    refine pw_iload rfl dX2_undo_39 ?_
    refine pw_aload_n rfl dX2_undo_41 ?_
    refine pc_V0 dX2_undo_42 lX2_27 rfl (by first | rfl | assumption) (by decide) (Nat.le_of_ble_eq_true rfl) ?_
    refine ts_count hr hrt hn ?_
    refine pw_icmp_ge 77 dX2_undo_45 (by decide) (fun _ => ?_) (fun q => absurd (nI_le (by omega) (by omega)) q)
    refine pw_goto 139 dX2_undo_77 (by decide) ?_
    exact hk g _ (fun j hj => hg j (by omega) hj)
  | succ k ih =>
    intro i g hi hvi hi2 hg hk
    obtain ⟨ha, ha2⟩ := isB_bN hB (show i < n by omega)
    obtain ⟨b, hb2, hb⟩ := udel_B (v := v) hB (i - v + 1) (i - v) (by omega)
    refine pw_iload rfl dX2_undo_39 ?_
    refine pw_aload_n rfl dX2_undo_41 ?_
    refine pc_V0 dX2_undo_42 lX2_27 rfl (by first | rfl | assumption) (by decide) (Nat.le_of_ble_eq_true rfl) ?_
    refine ts_count hr hrt hn ?_
    refine pw_icmp_ge 77 dX2_undo_45 (by decide) (fun q => absurd q (nI_ge (by omega) (by omega))) (fun _ => ?_)
    refine pw_aload rfl dX2_undo_48 ?_
    refine pw_iload rfl dX2_undo_50 ?_
    refine pw_aload_n rfl dX2_undo_52 ?_
    refine pw_iload rfl dX2_undo_53 ?_
    refine pc_V1 dX2_undo_55 lX2_31 rfl (by first | rfl | assumption) (by decide) (Nat.le_of_ble_eq_true rfl) ?_
    refine ts_get hr hrt hct hn hN rfl (by omega) ?_
    refine pw_aload rfl dX2_undo_58 ?_
    refine pw_iload rfl dX2_undo_60 ?_
    refine pw_iload_n rfl dX2_undo_62 ?_
    refine pw_isub dX2_undo_63 ?_
    rw [pk_sub (by omega)]
    refine pc_V1 dX2_undo_64 lX2_31 rfl (by first | rfl | assumption) (by decide) (Nat.le_of_ble_eq_true rfl) ?_
    refine ts_gett ht hN2 rfl (by omega) ?_
    refine pw_iadd dX2_undo_67 ?_
    refine pc_V2 dX2_undo_68 lX2_35 rfl (by first | rfl | assumption) (by decide) (Nat.le_of_ble_eq_true rfl) ?_
    refine ts_set ht hN2 rfl (by omega) ?_
    refine ps_iinc (l' := [_, _, _, _, _, _]) 1 dX2_undo_71 (by decide) rfl (by decide) rfl rfl ?_
    refine pw_goto 39 dX2_undo_74 (by decide) ?_
    rw [nI_1]
    refine ih (i + 1) _ (by omega) (by omega) (by omega) (fun j hj hjn => ?_) hk
    unfold upd
    split
    · rename_i z
      subst z
      show _ = if j < v then A c j else nI ((bN (A c j) + bN (udel (A c) v j (j - v))) % 256)
      rw [if_neg (by omega), udel_k (by omega) j (j - v) (by omega), hg (j - v) (by omega) (by omega), hb, bN_nI hb2]
      generalize bN (A c j) = a at ha ha2 ⊢
      rw [ha, add255 ha2 hb2]
    · exact hg j (by omega) hjn
theorem unf_loop {g0 : Nat → Int32} (hf : isFil fi oi) (hr : isRow r c cap) (ht : isRow t tc tcap) (hrt : ¬ r = t) (hct : ¬ c = tc) (hot : ¬ oi = tc) (hoc : ¬ c = oi) (hn : F r 1 = nI n) (hN : n ≤ cap) (hN2 : n ≤ tcap) (hB : isB (A c) n) {x1 x2 : Int32} : ∀ (k i : Nat) (g : Nat → Int32), i + k = n → (∀ j, j < i → g j = obk (A c) j (bN (A c j))) →
    (∀ g o l, (∀ j, j < n → g j = obk (A c) j (bN (A c j))) → PW Γ mX2_undo 139 l [] (TS F (stA A oi o) t tc n g rf lo X) 0 0 Q) →
    PW Γ mX2_undo 87 [.ref fi, .int x1, .int x2, .ref r, .ref t, .int (nI i)] [] (TS F (stA A oi (cpn (obk (A c) i) g0 256)) t tc n g rf lo X) 0 0 Q := by
  obtain ⟨f1, f2, f9⟩ := id hf
  obtain ⟨h1, h2, h9, hc⟩ := id hr
  obtain ⟨g1, g2, g9, gc⟩ := id ht
  intro k
  induction k with
  | zero =>
    intro i g hi hg hk
    have hi : i = n := by omega
    subst hi
    refine pw_iload rfl dX2_undo_87 ?_
    refine pw_aload_n rfl dX2_undo_89 ?_
    refine pc_V0 dX2_undo_90 lX2_27 rfl (by first | rfl | assumption) (by decide) (Nat.le_of_ble_eq_true rfl) ?_
    refine ts_count hr hrt hn ?_
    refine pw_icmp_ge 119 dX2_undo_93 (by decide) (fun _ => ?_) (fun q => absurd (nI_le (Nat.le_refl _) (by omega)) q)
    refine pw_goto 139 dX2_undo_119 (by decide) ?_
    exact hk g _ _ hg
  | succ k ih =>
    intro i g hi hg hk
    obtain ⟨b, hb, hfb⟩ := hB i (by omega)
    have hp := obk_perm hB i (by omega)
    obtain ⟨y, hy, hye⟩ := hp.1 b hb
    refine pw_iload rfl dX2_undo_87 ?_
    refine pw_aload_n rfl dX2_undo_89 ?_
    refine pc_V0 dX2_undo_90 lX2_27 rfl (by first | rfl | assumption) (by decide) (Nat.le_of_ble_eq_true rfl) ?_
    refine ts_count hr hrt hn ?_
    refine pw_icmp_ge 119 dX2_undo_93 (by decide) (fun q => absurd q (nI_ge (by omega) (by omega))) (fun _ => ?_)
    refine pw_aload rfl dX2_undo_96 ?_
    refine pw_iload rfl dX2_undo_98 ?_
    refine pw_aload_n rfl dX2_undo_100 ?_
    refine pw_aload_n rfl dX2_undo_101 ?_
    refine pw_iload rfl dX2_undo_102 ?_
    refine pc_V1 dX2_undo_104 lX2_31 rfl (by first | rfl | assumption) (by decide) (Nat.le_of_ble_eq_true rfl) ?_
    refine ts_get hr hrt hct hn hN rfl (by omega) ?_
    rw [stA_n hoc, hfb]
    unfold TS
    refine pc_V1 dX2_undo_107 lX2_52 rfl f1 (by decide) (Nat.le_of_ble_eq_true rfl) ?_
    refine c_take hf hb ?_
    rw [stA_n hot, stA_s, cpn_lt hb, stA_comm (i := tc) (j := oi) (by omega), stA_stA, cpn_mtf hb]
    refine pc_V2 dX2_undo_110 lX2_35 rfl g1 (by decide) (Nat.le_of_ble_eq_true rfl) ?_
    refine ts_set (F := F) (A := stA A oi (cpn (mtf (obk (A c) i) b) g0 256)) ht hN2 rfl (by omega) ?_
    refine ps_iinc (l' := [_, _, _, _, _, _]) 1 dX2_undo_113 (by decide) rfl (by decide) rfl rfl ?_
    refine pw_goto 87 dX2_undo_116 (by decide) ?_
    rw [nI_1]
    have e : mtf (obk (A c) i) b = obk (A c) (i + 1) := by
      show _ = mtf (obk (A c) i) (bN (A c i))
      rw [hfb, bN_nI hb]
    rw [e]
    refine ih (i + 1) _ (by omega) (fun j hj => ?_) hk
    unfold upd
    split
    · rename_i z
      rw [z, hfb, bN_nI hb, hye, nI_and255s hy]
    · exact hg j (by omega)
theorem c_undo {kind : Nat} (hf : isFil fi oi) (hr : isRow r c cap) (ht : isRow t tc tcap) (hrt : ¬ r = t) (hct : ¬ c = tc) (hot : ¬ oi = tc) (hoc : ¬ c = oi) (hn : F r 1 = nI n) (hN : n ≤ cap) (hN2 : n ≤ tcap) (hn9 : n ≤ 300) (hB : isB (A c) n) (hk : fok kind v)
    (hQ : ∀ g o, (∀ j, j < n → g j = fun_ kind v (A c) n j) → Q none (TS F (stA A oi o) t tc n g rf lo X)) : PM Γ mX2_undo [.ref fi, .int (nI kind), .int (nI v), .ref r, .ref t] (HS F A rf lo X) 0 0 Q := by
  obtain ⟨f1, f2, f9⟩ := id hf
  obtain ⟨h1, h2, h9, hc⟩ := id hr
  obtain ⟨g1, g2, g9, gc⟩ := id ht
  have hself : ∀ g, TS F A t tc n g rf lo X = TS F (stA A oi (A oi)) t tc n g rf lo X := fun g => by rw [stA_self rfl]
  refine PM.go (l := [_, _, _, _, _, .float 0]) rfl rfl (Nat.le_of_ble_eq_true rfl) rfl ?_
  refine pw_aload rfl dX2_undo_0 ?_
  refine pw_aload_n rfl dX2_undo_2 ?_
  refine pc_V1 dX2_undo_3 lX2_15 rfl (by first | rfl | assumption) (by decide) (Nat.le_of_ble_eq_true rfl) ?_
  refine c_become ht hr hn hN2 hN ?_
  have e0 : HS (upF F t 1 (nI n)) (stA A tc (cpn (A c) (A tc) n)) rf lo X = TS F A t tc n (cpn (A c) (A tc) n) rf lo X := rfl
  rw [e0]
  rcases hk with ⟨rfl, hv⟩ | ⟨rfl, rfl⟩ | ⟨rfl, hv⟩ | ⟨rfl, hv⟩
  · refine pw_iload_n rfl dX2_undo_6 ?_
    refine pw_tin 32 dX2_undo_7 (by decide) (by decide) rfl (by decide) ?_
    refine pw_iload_n rfl dX2_undo_32 ?_
    refine pw_iconst 0 (by decide) dX2_undo_33 ?_
    refine pw_maxN v 0 rfl rfl (by omega) (by omega) dX2_undo_34 lX2_21 (by decide) (Nat.le_of_ble_eq_true rfl) ?_
    refine ps_istore (l' := [_, _, _, _, _, _]) dX2_undo_37 (by decide) rfl rfl ?_
    rw [show max v 0 = v by omega]
    refine und_loop hr ht hrt hct hn hN hN2 hB hv (n - v) v _ rfl (Nat.le_refl _) (by omega) (fun j hj hjn => ?_) (fun g l hg => ?_)
    · show _ = if j < v then A c j else nI ((bN (A c j) + bN (udel (A c) v j (j - v))) % 256)
      rw [if_pos hj, cpn_lt hjn]
    · rw [hself]
      refine pw_vret dX2_undo_139 rfl ?_
      exact hQ g _ hg
  · refine pw_iload_n rfl dX2_undo_6 ?_
    refine pw_tin 80 dX2_undo_7 (by decide) (by decide) rfl (by decide) ?_
    refine pw_aload_n rfl dX2_undo_80 ?_
    unfold TS
    refine pc_V0 dX2_undo_81 lX2_39 rfl f1 (by decide) (Nat.le_of_ble_eq_true rfl) ?_
    refine c_order hf ?_
    rw [stA_comm (i := tc) (j := oi) (by omega), stA_n hot]
    refine pw_iconst 0 (by decide) dX2_undo_84 ?_
    refine ps_istore (l' := [_, _, _, _, _, _]) dX2_undo_85 (by decide) rfl rfl ?_
    refine unf_loop hf hr ht hrt hct hot hoc hn hN hN2 hB n 0 _ (by omega) (fun j hj => by omega) (fun g o l hg => ?_)
    refine pw_vret dX2_undo_139 rfl ?_
    exact hQ g _ hg
  · refine pw_iload_n rfl dX2_undo_6 ?_
    refine pw_tin 122 dX2_undo_7 (by decide) (by decide) rfl (by decide) ?_
    refine pw_iload_n rfl dX2_undo_122 ?_
    refine pw_aload_n rfl dX2_undo_123 ?_
    refine pw_aload rfl dX2_undo_124 ?_
    refine pc_S3 dX2_undo_126 lX2_55 (by decide) (Nat.le_of_ble_eq_true rfl) ?_
    refine c_spread hr ht hrt hct hn hN hN2 hn9 hB hv (fun g hg => ?_)
    rw [hself]
    refine pw_goto 139 dX2_undo_129 (by decide) ?_
    refine pw_vret dX2_undo_139 rfl ?_
    exact hQ g _ hg
  · refine pw_iload_n rfl dX2_undo_6 ?_
    refine pw_tout 132 dX2_undo_7 (Or.inr (by decide)) (by decide) ?_
    refine pw_iload_n rfl dX2_undo_132 ?_
    refine pw_aload_n rfl dX2_undo_133 ?_
    refine pw_aload rfl dX2_undo_134 ?_
    refine pc_S3 dX2_undo_136 lX2_49 (by decide) (Nat.le_of_ble_eq_true rfl) ?_
    refine c_mask hr ht hrt hct hn hN hN2 hB (by omega) (fun g hg => ?_)
    rw [hself]
    refine pw_vret dX2_undo_139 rfl ?_
    exact hQ g _ hg
end
