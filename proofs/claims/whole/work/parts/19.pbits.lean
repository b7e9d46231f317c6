/-! BITS: the class's writeBits, the reference's packBits -/
theorem stA_comm {A : Nat → Nat → Int32} {i j : Nat} {f g : Nat → Int32} (h : ¬ i = j) : stA (stA A i f) j g = stA (stA A j g) i f := by
  funext a
  unfold stA
  by_cases h1 : a = i
  · rw [if_neg (by omega), if_pos h1, if_pos h1]
  · by_cases h2 : a = j
    · rw [if_pos h2, if_neg h1, if_pos h2]
    · rw [if_neg h2, if_neg h1, if_neg h1, if_neg h2]
/-- the bytes below z that stand in the n bytes f, rising -/
def unls (f : Nat → Int32) (n : Nat) : Nat → List Int32
  | 0 => []
  | z + 1 => unls f n z ++ (if 0 < cnt f n z then [nI z] else [])
theorem unls_le (f : Nat → Int32) (n z : Nat) : (unls f n z).length ≤ z := by
  induction z with
  | zero => exact Nat.le_refl _
  | succ z ih =>
    show (unls f n z ++ (if 0 < cnt f n z then [nI z] else [])).length ≤ z + 1
    rw [List.length_append]
    split <;> simp <;> omega
theorem unls_mono (f : Nat → Int32) (n : Nat) {y z : Nat} (h : y ≤ z) : (unls f n y).length ≤ (unls f n z).length := by
  induction z with
  | zero => rw [show y = 0 by omega]; exact Nat.le_refl _
  | succ z ih =>
    by_cases hy : y = z + 1
    · rw [hy]; exact Nat.le_refl _
    · have := ih (by omega)
      show _ ≤ (unls f n z ++ (if 0 < cnt f n z then [nI z] else [])).length
      rw [List.length_append]
      omega
theorem unls_step {f : Nat → Int32} {n b : Nat} (hb : b < 256) (hf : f n = nI b) (z : Nat) (hz : z ≤ 256) : (unls f (n + 1) z).length = (unls f n z).length + (if b < z ∧ cnt f n b = 0 then 1 else 0) := by
  induction z with
  | zero => rw [if_neg (by omega)]; rfl
  | succ z ih =>
    have ih := ih (by omega)
    show (unls f (n + 1) z ++ (if 0 < cnt f (n + 1) z then [nI z] else [])).length = (unls f n z ++ (if 0 < cnt f n z then [nI z] else [])).length + _
    rw [List.length_append, List.length_append, ih]
    have ec : cnt f (n + 1) z = cnt f n z + (if f n = nI z then 1 else 0) := rfl
    by_cases hbz : b = z
    · subst hbz
      rw [ec, if_pos hf, if_neg (by omega : ¬ (b < b ∧ _)), if_pos (by omega : 0 < cnt f n b + 1)]
      by_cases h0 : cnt f n b = 0
      · rw [if_neg (by omega : ¬ 0 < cnt f n b), if_pos ⟨by omega, h0⟩]
        rfl
      · rw [if_pos (by omega : 0 < cnt f n b), if_neg (fun q => h0 q.2)]
        rfl
    · rw [ec, if_neg (fun q => hbz (nI_inj (by omega) (by omega) (hf.symm.trans q))), Nat.add_zero]
      have e1 : (b < z + 1 ∧ cnt f n b = 0) ↔ (b < z ∧ cnt f n b = 0) := ⟨fun q => ⟨by omega, q.2⟩, fun q => ⟨by omega, q.2⟩⟩
      simp only [e1]
      omega
theorem unl_unls {f : Nat → Int32} {n : Nat} (hB : isB f n) : unl f n = (unls f n 256).length := by
  induction n with
  | zero =>
    have : ∀ z, unls f 0 z = [] := by
      intro z
      induction z with
      | zero => rfl
      | succ z ih =>
        show unls f 0 z ++ (if 0 < cnt f 0 z then [nI z] else []) = []
        rw [ih, if_neg (by show ¬ 0 < 0; omega)]
        rfl
    rw [this]
    rfl
  | succ n ih =>
    obtain ⟨b, hb, hf⟩ := hB n (by omega)
    rw [unl_step hb hf, ih (fun j hj => hB j (by omega)), unls_step hb hf 256 (by omega)]
    by_cases h0 : cnt f n b = 0
    · rw [if_pos h0, if_pos ⟨hb, h0⟩]
    · rw [if_neg h0, if_neg (fun q => h0 q.2)]
theorem unl_256 {f : Nat → Int32} {n : Nat} (hB : isB f n) : unl f n ≤ 256 := by
  rw [unl_unls hB]
  exact unls_le f n 256
theorem cnt_pos {f : Nat → Int32} {n j b : Nat} (hj : j < n) (hf : f j = nI b) : 0 < cnt f n b := by
  induction n with
  | zero => omega
  | succ n ih =>
    show 0 < cnt f n b + (if f n = nI b then 1 else 0)
    by_cases h : j = n
    · subst h
      rw [if_pos hf]
      omega
    · have := ih (by omega)
      omega
theorem unl_pos {f : Nat → Int32} {n : Nat} (hB : isB f n) (hn : 0 < n) : 0 < unl f n := by
  obtain ⟨b, hb, hf⟩ := hB 0 hn
  have h1 := cnt_pos (n := n) hn hf
  rw [unl_unls hB]
  have h2 := unls_mono f n (y := b + 1) (z := 256) (by omega)
  have h3 : (unls f n (b + 1)).length = (unls f n b).length + 1 := by
    show (unls f n b ++ (if 0 < cnt f n b then [nI b] else [])).length = _
    rw [if_pos h1, List.length_append]
    rfl
  omega
/-- which of the unlike bytes b is -/
def rk (f : Nat → Int32) (n b : Nat) : Nat := (unls f n b).length
/-- the row of ranks, filled up to z -/
def rkT (f : Nat → Int32) (n : Nat) (g : Nat → Int32) (z : Nat) : Nat → Int32 := fun b => if b < z ∧ 0 < cnt f n b then nI (rk f n b) else g b
theorem rkT_0 {f g : Nat → Int32} {n : Nat} : rkT f n g 0 = g := by
  funext b
  unfold rkT
  rw [if_neg (by omega)]
theorem rkT_y {f g : Nat → Int32} {n z : Nat} (h : 0 < cnt f n z) : upd (rkT f n g z) z (nI (rk f n z)) = rkT f n g (z + 1) := by
  funext b
  unfold upd rkT
  by_cases h1 : b = z
  · subst h1
    rw [if_pos rfl, if_pos ⟨by omega, h⟩]
  · rw [if_neg h1]
    by_cases h2 : b < z ∧ 0 < cnt f n b
    · rw [if_pos h2, if_pos ⟨by omega, h2.2⟩]
    · rw [if_neg h2, if_neg (fun q => h2 ⟨by omega, q.2⟩)]
theorem rkT_n {f g : Nat → Int32} {n z : Nat} (h : ¬ 0 < cnt f n z) : rkT f n g z = rkT f n g (z + 1) := by
  funext b
  unfold rkT
  by_cases h2 : b < z ∧ 0 < cnt f n b
  · rw [if_pos h2, if_pos ⟨by omega, h2.2⟩]
  · rw [if_neg h2, if_neg (fun q => by
      by_cases h1 : b = z
      · subst h1; exact h q.2
      · exact h2 ⟨by omega, q.2⟩)]
theorem rkT_at {f g : Nat → Int32} {n b : Nat} (hb : b < 256) (h : 0 < cnt f n b) : rkT f n g 256 b = nI (rk f n b) := by
  unfold rkT
  rw [if_pos ⟨hb, h⟩]
theorem rk_s {f : Nat → Int32} {n z : Nat} (h : 0 < cnt f n z) : rk f n (z + 1) = rk f n z + 1 := by
  show (unls f n z ++ (if 0 < cnt f n z then [nI z] else [])).length = _
  rw [if_pos h, List.length_append]
  rfl
theorem rk_n {f : Nat → Int32} {n z : Nat} (h : ¬ 0 < cnt f n z) : rk f n (z + 1) = rk f n z := by
  show (unls f n z ++ (if 0 < cnt f n z then [nI z] else [])).length = _
  rw [if_neg h, List.append_nil]
  rfl
theorem unls_s {f : Nat → Int32} {n z : Nat} (h : 0 < cnt f n z) : unls f n (z + 1) = unls f n z ++ [nI z] := by
  show unls f n z ++ (if 0 < cnt f n z then [nI z] else []) = _
  rw [if_pos h]
theorem unls_n {f : Nat → Int32} {n z : Nat} (h : ¬ 0 < cnt f n z) : unls f n (z + 1) = unls f n z := by
  show unls f n z ++ (if 0 < cnt f n z then [nI z] else []) = _
  rw [if_neg h, List.append_nil]
/-- the codes of the first i bytes, code v (w bits) of a byte -/
def cods (f : Nat → Int32) (v w : Nat → Nat) (s : BS) : Nat → BS
  | 0 => s
  | i + 1 => bp (cods f v w s i) (v (f i).toNatClampNeg) (w (f i).toNatClampNeg)
theorem bok_c {f : Nat → Int32} {v w : Nat → Nat} {s : BS} (h : bok s) : ∀ i, bok (cods f v w s i)
  | 0 => h
  | i + 1 => bok_p _ (bok_c h i)
theorem cods_len {f : Nat → Int32} {v w : Nat → Nat} {s : BS} {W : Nat} (hw : ∀ b, w b ≤ W) : ∀ i, (cods f v w s i).1.length * 8 + (cods f v w s i).2.2 ≤ s.1.length * 8 + s.2.2 + i * W
  | 0 => by show s.1.length * 8 + s.2.2 ≤ _; omega
  | i + 1 => by
    have h1 := cods_len (f := f) (v := v) (s := s) hw i
    have h2 := bp_len (v := v (f i).toNatClampNeg) (w (f i).toNatClampNeg) (cods f v w s i)
    have h3 := hw (f i).toNatClampNeg
    show (bp (cods f v w s i) (v (f i).toNatClampNeg) (w (f i).toNatClampNeg)).1.length * 8 + _ ≤ _
    rw [Nat.add_mul]
    have e : (cods f v w s (i + 1)).2.2 = (bp (cods f v w s i) (v (f i).toNatClampNeg) (w (f i).toNatClampNeg)).2.2 := rfl
    rw [e]
    omega
/-- BITS of the n bytes f, behind L -/
def pbits (f : Nat → Int32) (n : Nat) (L : List Int32) : List Int32 := bfin (cods f (rk f n) (fun _ => wid (unl f n - 1)) (L ++ (nI (unl f n - 1) :: unls f n 256), 0, 0) n)
section
variable {Γ : Nat × (Nat → Int32)} {F A : Nat → Nat → Int32} {rf : Nat} {lo : Int64} {X : PH} {Q : Option Value → PH → Prop} {r c cap n t tc tcap m : Nat} {f0 : Nat → Int32} {L : List Int32}
theorem ubw_of {s : BS} (ht : ¬ t = 22) (h0 : F 22 0 = nI s.2.1) (h1 : F 22 1 = nI s.2.2) : ubw F t m s = upF F t 1 (nI (m + s.1.length)) := by
  unfold ubw
  rw [upF_self (i := 22) (k := 1), upF_self (i := 22) (k := 0)]
  · rw [upF_n (by omega)]; exact h0.symm
  · rw [upF_n (by omega), upF_n (by omega)]; exact h1.symm
theorem wb_loop {f g : Nat → Int32} (ht : isRow t tc tcap) (h18 : A 18 = cpn (tbl f n) (A 18) 256) (hn : n ≤ 300) (htc : ¬ tc = 18 ∧ ¬ tc = 19) {x3 : Int32} {rr : Nat} {g6 : Value} : ∀ (k b : Nat), b + k = 256 → m + L.length + 256 < tcap →
    PW Γ mX3_writeBits 64 [.ref 17, .ref rr, .ref t, .int x3, .int (nI (rk f n 256)), .int (nI 256), g6] [] (WS F (stA A 19 (rkT f n g 256)) t tc m f0 (L ++ unls f n 256) rf lo X) 0 0 Q →
    PW Γ mX3_writeBits 22 [.ref 17, .ref rr, .ref t, .int x3, .int (nI (rk f n b)), .int (nI b), g6] [] (WS F (stA A 19 (rkT f n g b)) t tc m f0 (L ++ unls f n b) rf lo X) 0 0 Q := by
  obtain ⟨g1, g2, g9, gc⟩ := id ht
  intro k
  induction k with
  | zero =>
    intro b hb hcap hk
    have hb : b = 256 := by omega
    subst hb
    refine pw_iload rfl dX3_writeBits_22 ?_
    refine pw_sipush 256 (by decide) dX3_writeBits_24 ?_
    refine pw_icmp_ge 64 dX3_writeBits_27 (by decide) (fun _ => ?_) (fun q => absurd (by decide) q)
    exact hk
  | succ k ih =>
    intro b hb hcap hk
    have hul := unls_le f n b
    have hcl := cnt_le f n b
    unfold WS
    refine pw_iload rfl dX3_writeBits_22 ?_
    refine pw_sipush 256 (by decide) dX3_writeBits_24 ?_
    refine pw_icmp_ge 64 dX3_writeBits_27 (by decide) (fun q => absurd q (nI_ge (b := 256) (by omega) (by omega))) (fun _ => ?_)
    refine pw_aload_n rfl dX3_writeBits_30 ?_
    refine pw_gC dX3_writeBits_31 fX3_9 (by first | rfl | assumption) rfl (by first | rfl | assumption) ?_
    refine pw_iload rfl dX3_writeBits_34 ?_
    refine pw_aI dX3_writeBits_36 (by first | rfl | assumption) (by first | assumption | exact vp_in_nI (by omega) (by omega)) ?_
    rw [stA_n (by omega), stA_n (by decide), nI_clamp (by omega), h18, cpn_lt (by omega)]
    by_cases h0 : 0 < cnt f n b
    · refine pw_if_le 58 dX3_writeBits_37 (by decide) (fun q => absurd q (nI_ge (a := 0) h0 (by omega))) (fun _ => ?_)
      refine pw_aload_n rfl dX3_writeBits_40 ?_
      refine pw_iload rfl dX3_writeBits_41 ?_
      refine pc_V1 dX3_writeBits_43 lX3_79 rfl g1 (by decide) (Nat.le_of_ble_eq_true rfl) ?_
      refine w_push ht (by rw [List.length_append]; omega) ?_
      rw [nI_and255s (by omega), List.append_assoc, ← unls_s h0]
      unfold WS
      refine pw_aload_n rfl dX3_writeBits_46 ?_
      refine pw_gC dX3_writeBits_47 fX3_15 (by first | rfl | assumption) rfl (by first | rfl | assumption) ?_
      refine pw_iload rfl dX3_writeBits_50 ?_
      refine pw_iload rfl dX3_writeBits_52 ?_
      refine pw_sI dX3_writeBits_54 (by first | rfl | assumption) (by first | assumption | exact vp_in_nI (by omega) (by omega)) ?_
      refine ps_iinc (l' := [_, _, _, _, _, _, _]) 1 dX3_writeBits_55 (by decide) rfl (by decide) rfl rfl ?_
      refine ps_iinc (l' := [_, _, _, _, _, _, _]) 1 dX3_writeBits_58 (by decide) rfl (by decide) rfl rfl ?_
      refine pw_goto 22 dX3_writeBits_61 (by decide) ?_
      rw [nI_1, nI_1, ← rk_s h0, nI_clamp (by omega), stA_n (by omega), stA_s, rkT_y h0, stA_comm (by omega), stA_stA]
      exact ih (b + 1) (by omega) hcap hk
    · refine pw_if_le 58 dX3_writeBits_37 (by decide) (fun _ => ?_) (fun q => absurd (nI_le (b := 0) (by omega) (by omega)) q)
      refine ps_iinc (l' := [_, _, _, _, _, _, _]) 1 dX3_writeBits_58 (by decide) rfl (by decide) rfl rfl ?_
      refine pw_goto 22 dX3_writeBits_61 (by decide) ?_
      rw [nI_1, ← rk_n h0, rkT_n h0, ← unls_n h0]
      exact ih (b + 1) (by omega) hcap hk
theorem wb_codes {s : BS} {g : Nat → Int32} {w : Nat} {x3 x4 : Int32} (hr : isRow r c cap) (ht : isRow t tc tcap) (hrt : ¬ r = t) (hct : ¬ c = tc) (hrn : ¬ r = 22) (htn : ¬ t = 22) (hn : F r 1 = nI n) (hN : n ≤ cap) (hn9 : n ≤ 300) (hB : isB (A c) n) (h19 : A 19 = rkT (A c) n g 256) (htc : ¬ tc = 19) (hw : w ≤ 8) (hs : bok s) (hcap : 8 * (m + s.1.length) + s.2.2 + n * w ≤ 8 * tcap) : ∀ (k i : Nat), i + k = n →
    PW Γ mX3_writeBits 115 [.ref 17, .ref r, .ref t, .int x3, .int x4, .int (nI w), .int (nI n)] [] (HS (ubw F t m (cods (A c) (rk (A c) n) (fun _ => w) s n)) (stA A tc (app f0 m (cods (A c) (rk (A c) n) (fun _ => w) s n).1)) rf lo X) 0 0 Q →
    PW Γ mX3_writeBits 75 [.ref 17, .ref r, .ref t, .int x3, .int x4, .int (nI w), .int (nI i)] [] (HS (ubw F t m (cods (A c) (rk (A c) n) (fun _ => w) s i)) (stA A tc (app f0 m (cods (A c) (rk (A c) n) (fun _ => w) s i).1)) rf lo X) 0 0 Q := by
  obtain ⟨h1, h2, h9, hc⟩ := id hr
  obtain ⟨g1, g2, g9, gc⟩ := id ht
  have hrow : ∀ s, ubw F t m s r 1 = nI n := fun s => by
    unfold ubw
    rw [upF_n (by omega), upF_n (by omega), upF_n (by omega)]
    exact hn
  intro k
  induction k with
  | zero =>
    intro i hi hk
    have hi : i = n := by omega
    subst hi
    refine pw_iload rfl dX3_writeBits_75 ?_
    refine pw_aload_n rfl dX3_writeBits_77 ?_
    refine pc_V0 dX3_writeBits_78 lX3_52 rfl (by first | rfl | assumption) (by decide) (Nat.le_of_ble_eq_true rfl) ?_
    refine c_count hr ?_
    rw [hrow]
    refine pw_icmp_ge 115 dX3_writeBits_81 (by decide) (fun _ => ?_) (fun q => absurd (nI_le (Nat.le_refl _) (by omega)) q)
    exact hk
  | succ k ih =>
    intro i hi hk
    obtain ⟨b, hb, hfb⟩ := hB i (by omega)
    have hcp := cnt_pos (n := n) (by omega) hfb
    refine pw_iload rfl dX3_writeBits_75 ?_
    refine pw_aload_n rfl dX3_writeBits_77 ?_
    refine pc_V0 dX3_writeBits_78 lX3_52 rfl (by first | rfl | assumption) (by decide) (Nat.le_of_ble_eq_true rfl) ?_
    refine c_count hr ?_
    rw [hrow]
    refine pw_icmp_ge 115 dX3_writeBits_81 (by decide) (fun q => absurd q (nI_ge (by omega) (by omega))) (fun _ => ?_)
    refine pw_aload_n rfl dX3_writeBits_84 ?_
    refine pw_gC dX3_writeBits_85 fX3_27 (by first | rfl | assumption) rfl (by first | rfl | assumption) ?_
    refine pw_aload_n rfl dX3_writeBits_88 ?_
    refine pw_gC dX3_writeBits_89 fX3_15 (by first | rfl | assumption) rfl (by first | rfl | assumption) ?_
    refine pw_aload_n rfl dX3_writeBits_92 ?_
    refine pw_iload rfl dX3_writeBits_93 ?_
    refine pc_V1 dX3_writeBits_95 lX3_75 rfl (by first | rfl | assumption) (by decide) (Nat.le_of_ble_eq_true rfl) ?_
    refine c_get hr (hrow _) hN rfl (by omega) ?_
    rw [stA_n hct, hfb]
    refine pw_sipush 255 (by decide) dX3_writeBits_98 ?_
    refine pw_iand dX3_writeBits_101 ?_
    rw [nI_and255s hb]
    refine pw_aI dX3_writeBits_102 (by first | rfl | assumption) (by first | assumption | exact vp_in_nI (by omega) (by omega)) ?_
    refine pw_iload rfl dX3_writeBits_103 ?_
    refine pw_aload_n rfl dX3_writeBits_105 ?_
    have hrk : rk (A c) n b ≤ b := unls_le (A c) n b
    rw [stA_n (by omega), nI_clamp (by omega), h19, rkT_at hb hcp]
    refine pc_V3 dX3_writeBits_106 lX3_103 rfl rfl (by decide) (Nat.le_of_ble_eq_true rfl) ?_
    have hl := cods_len (f := A c) (v := rk (A c) n) (w := fun _ => w) (s := s) (W := w) (fun _ => Nat.le_refl _) i
    have him : i * w + w ≤ n * w := by
      have := Nat.mul_le_mul_right w (show i + 1 ≤ n by omega)
      rw [Nat.add_mul] at this
      omega
    refine c_bput ht htn (by omega) (by omega) (bok_c hs i) (by omega) ?_
    have e : cods (A c) (rk (A c) n) (fun _ => w) s (i + 1) = bp (cods (A c) (rk (A c) n) (fun _ => w) s i) (rk (A c) n b) w := by
      show bp _ (rk (A c) n (A c i).toNatClampNeg) w = _
      rw [hfb, nI_clamp (by omega)]
    rw [← e]
    refine ps_iinc (l' := [_, _, _, _, _, _, _]) 1 dX3_writeBits_109 (by decide) rfl (by decide) rfl rfl ?_
    refine pw_goto 75 dX3_writeBits_112 (by decide) ?_
    rw [nI_1]
    exact ih (i + 1) (by omega) hk
theorem w_bits (hr : isRow r c cap) (ht : isRow t tc tcap) (hrt : ¬ r = t) (hct : ¬ c = tc) (hrn : ¬ r = 22) (htn : ¬ t = 22) (hn : F r 1 = nI n) (hN : n ≤ cap) (hn9 : n ≤ 300) (hn0 : 0 < n) (hB : isB (A c) n) (htc : ¬ tc = 18 ∧ ¬ tc = 19) (hcc : ¬ c = 18 ∧ ¬ c = 19) (hz0 : F 22 0 = 0) (hz1 : F 22 1 = 0) (hcap : m + L.length + 600 ≤ tcap)
    (hQ : ∀ g, Q none (WS F (stA (stA A 18 (cpn (tbl (A c) n) (A 18) 256)) 19 g) t tc m f0 (pbits (A c) n L) rf lo X)) : PM Γ mX3_writeBits [.ref 17, .ref r, .ref t] (WS F A t tc m f0 L rf lo X) 0 0 Q := by
  obtain ⟨h1, h2, h9, hc⟩ := id hr
  obtain ⟨g1, g2, g9, gc⟩ := id ht
  have hu1 := unl_pos hB hn0
  have hu2 := unl_256 hB
  have hsl : (unls (A c) n 256).length = unl (A c) n := (unl_unls hB).symm
  refine PM.go (l := [_, _, _, .float 0, .float 0, .float 0, .float 0]) rfl rfl (Nat.le_of_ble_eq_true rfl) rfl ?_
  refine pw_aload_n rfl dX3_writeBits_0 ?_
  refine pw_aload_n rfl dX3_writeBits_1 ?_
  refine pw_gC dX3_writeBits_2 fX3_9 (by first | rfl | assumption) rfl (by first | rfl | assumption) ?_
  refine pc_V1 dX3_writeBits_5 lX3_96 rfl h1 (by decide) (Nat.le_of_ble_eq_true rfl) ?_
  refine c_countInto hr rfl (by omega) (n := n) (by rw [upF_n (by omega)]; exact hn) hN (by rw [stA_n hct]; exact hB) ?_
  rw [stA_n hct, stA_n (by omega), stA_comm (by omega)]
  refine ps_istore_n (l' := [_, _, _, _, _, _, _]) dX3_writeBits_8 (by decide) rfl rfl ?_
  refine pw_aload_n rfl dX3_writeBits_9 ?_
  refine pw_iload_n rfl dX3_writeBits_10 ?_
  refine pw_iconst 1 (by decide) dX3_writeBits_11 ?_
  refine pw_isub dX3_writeBits_12 ?_
  rw [show nI (unl (A c) n) - 1 = nI (unl (A c) n - 1) from pk_sub (b := 1) (by omega)]
  refine pc_V1 dX3_writeBits_13 lX3_79 rfl g1 (by decide) (Nat.le_of_ble_eq_true rfl) ?_
  refine w_push ht (by omega) ?_
  rw [nI_and255s (by omega)]
  refine pw_iconst 0 (by decide) dX3_writeBits_16 ?_
  refine ps_istore (l' := [_, _, _, _, _, _, _]) dX3_writeBits_17 (by decide) rfl rfl ?_
  refine pw_iconst 0 (by decide) dX3_writeBits_19 ?_
  refine ps_istore (l' := [_, _, _, _, _, _, _]) dX3_writeBits_20 (by decide) rfl rfl ?_
  generalize hA1 : stA A 18 (cpn (tbl (A c) n) (A 18) 256) = A1 at hQ
  have hA1c : A1 c = A c := by rw [← hA1, stA_n (by omega)]
  have e0 : WS F A1 t tc m f0 (L ++ [nI (unl (A c) n - 1)]) rf lo X = WS F (stA A1 19 (rkT (A c) n (A1 19) 0)) t tc m f0 ((L ++ [nI (unl (A c) n - 1)]) ++ unls (A c) n 0) rf lo X := by
    rw [rkT_0, stA_self rfl]
    show _ = WS F A1 t tc m f0 ((L ++ [nI (unl (A c) n - 1)]) ++ []) rf lo X
    rw [List.append_nil]
  rw [e0]
  refine wb_loop (f := A c) ht (by rw [← hA1, stA_s]; funext j; unfold cpn; split <;> rfl) hn9 htc 256 0 (by omega) (by rw [List.length_append]; show m + (L.length + 1) + 256 < tcap; omega) ?_
  refine pw_iload_n rfl dX3_writeBits_64 ?_
  refine pw_iconst 1 (by decide) dX3_writeBits_65 ?_
  refine pw_isub dX3_writeBits_66 ?_
  rw [show nI (unl (A c) n) - 1 = nI (unl (A c) n - 1) from pk_sub (b := 1) (by omega)]
  have hw8 := wid_8 (unl (A c) n - 1) (by omega)
  refine pc_S1 dX3_writeBits_67 lX3_100 (by decide) (Nat.le_of_ble_eq_true rfl) ?_
  refine c_widthOf (by omega) ?_
  refine ps_istore (l' := [_, _, _, _, _, _, _]) dX3_writeBits_70 (by decide) rfl rfl ?_
  refine pw_iconst 0 (by decide) dX3_writeBits_72 ?_
  refine ps_istore (l' := [_, _, _, _, _, _, _]) dX3_writeBits_73 (by decide) rfl rfl ?_
  generalize hA2 : stA A1 19 (rkT (A c) n (A1 19) 256) = A2
  have hA2c : A2 c = A c := by rw [← hA2, stA_n (by omega), hA1c]
  have e1 : WS F A2 t tc m f0 (L ++ [nI (unl (A c) n - 1)] ++ unls (A c) n 256) rf lo X = HS (ubw F t m (cods (A2 c) (rk (A2 c) n) (fun _ => wid (unl (A c) n - 1)) (L ++ [nI (unl (A c) n - 1)] ++ unls (A c) n 256, 0, 0) 0)) (stA A2 tc (app f0 m (cods (A2 c) (rk (A2 c) n) (fun _ => wid (unl (A c) n - 1)) (L ++ [nI (unl (A c) n - 1)] ++ unls (A c) n 256, 0, 0) 0).1)) rf lo X := by
    show _ = HS (ubw F t m (L ++ [nI (unl (A c) n - 1)] ++ unls (A c) n 256, 0, 0)) (stA A2 tc (app f0 m (L ++ [nI (unl (A c) n - 1)] ++ unls (A c) n 256))) rf lo X
    rw [ubw_of htn hz0 hz1]
    rfl
  rw [e1]
  have hll : (L ++ [nI (unl (A c) n - 1)] ++ unls (A c) n 256).length = L.length + 1 + unl (A c) n := by rw [List.length_append, List.length_append, hsl]; rfl
  have hs0 : bok (L ++ [nI (unl (A c) n - 1)] ++ unls (A c) n 256, 0, 0) := ⟨by show 0 < 8; decide, by show 0 < 2 ^ 0; decide⟩
  have hnw : n * wid (unl (A c) n - 1) ≤ 300 * 8 := Nat.mul_le_mul hn9 hw8
  refine wb_codes (A := A2) (g := A1 19) hr ht hrt hct hrn htn hn hN hn9 (by rw [hA2c]; exact hB) (by rw [hA2c, ← hA2, stA_s]) htc.2 hw8 hs0 (by show 8 * (m + (L ++ [nI (unl (A c) n - 1)] ++ unls (A c) n 256).length) + 0 + _ ≤ _; omega) n 0 (by omega) ?_
  rw [hA2c]
  refine pw_aload_n rfl dX3_writeBits_115 ?_
  refine pw_gC dX3_writeBits_116 fX3_27 (by first | rfl | assumption) rfl (by first | rfl | assumption) ?_
  refine pw_aload_n rfl dX3_writeBits_119 ?_
  refine pc_V1 dX3_writeBits_120 lX3_107 rfl rfl (by decide) (Nat.le_of_ble_eq_true rfl) ?_
  have hcl := cods_len (f := A c) (v := rk (A c) n) (w := fun _ => wid (unl (A c) n - 1)) (s := (L ++ [nI (unl (A c) n - 1)] ++ unls (A c) n 256, 0, 0)) (W := wid (unl (A c) n - 1)) (fun _ => Nat.le_refl _) n
  have hcl2 : (cods (A c) (rk (A c) n) (fun _ => wid (unl (A c) n - 1)) (L ++ [nI (unl (A c) n - 1)] ++ unls (A c) n 256, 0, 0) n).1.length * 8 ≤ (L ++ [nI (unl (A c) n - 1)] ++ unls (A c) n 256).length * 8 + 0 + n * wid (unl (A c) n - 1) := by
    have e9 : ((L ++ [nI (unl (A c) n - 1)] ++ unls (A c) n 256, 0, 0) : BS).1.length * 8 + ((L ++ [nI (unl (A c) n - 1)] ++ unls (A c) n 256, 0, 0) : BS).2.2 = (L ++ [nI (unl (A c) n - 1)] ++ unls (A c) n 256).length * 8 + 0 := rfl
    omega
  refine c_bfin ht htn (bok_c hs0 n) (by omega) ?_
  refine pw_vret dX3_writeBits_123 rfl ?_
  have hq := hQ (rkT (A c) n (A1 19) 256)
  rw [hA2] at hq
  unfold WS pbits at hq
  rw [ubw_of htn hz0 hz1]
  rw [show L ++ (nI (unl (A c) n - 1) :: unls (A c) n 256) = L ++ [nI (unl (A c) n - 1)] ++ unls (A c) n 256 by rw [List.append_assoc, List.singleton_append]] at hq
  exact hq
end
