/-! what a PACKER makes: pure, and the class's Packers.write -/
/-- what the PACKER of kind q makes of the n bytes f, behind L -/
def pbody (q : Nat) (f : Nat → Int32) (n : Nat) (L : List Int32) : List Int32 := if n = 0 then L else if q = 1 then L ++ pruns f n n 0 else if q = 2 then pbits f n L else if q = 3 then ppre f n L else if q = 4 then L ++ pmat f n n 0 else L ++ slice f 0 n
theorem cg_ppre {f g : Nat → Int32} {n : Nat} {L : List Int32} (h : same f g n) : ppre f n L = ppre g n L := by
  have h1 : cnt f n = cnt g n := funext (cg_cnt h)
  unfold ppre
  rw [h1, cg_unl h, cg_cods h]
theorem cg_pbody {q : Nat} {f g : Nat → Int32} {n : Nat} {L : List Int32} (h : same f g n) : pbody q f n L = pbody q g n L := by
  unfold pbody
  rw [cg_pruns h, cg_pbits h, cg_ppre h, cg_pmat h, cg_slice h (Nat.le_refl n)]
/-- a list of bytes -/
def lB (L : List Int32) : Prop := ∀ v ∈ L, ∃ b : Nat, b < 256 ∧ v = nI b
theorem lB_app {L K : List Int32} (h1 : lB L) (h2 : lB K) : lB (L ++ K) := by
  intro v hv
  rcases List.mem_append.mp hv with h | h
  · exact h1 v h
  · exact h2 v h
theorem lB_nil : lB [] := fun v hv => absurd hv (by simp)
theorem lB_cons {b : Nat} {L : List Int32} (hb : b < 256) (h : lB L) : lB (nI b :: L) := by
  intro v hv
  rcases List.mem_cons.mp hv with h1 | h1
  · exact ⟨b, hb, h1⟩
  · exact h v h1
theorem lB_slice {f : Nat → Int32} {n a e : Nat} (hB : isB f n) (he : e ≤ n) : lB (slice f a e) := by
  intro v hv
  unfold slice at hv
  obtain ⟨j, h1, h2⟩ := List.mem_map.mp hv
  have := List.mem_range.mp h1
  obtain ⟨b, h3, h4⟩ := hB (a + j) (by omega)
  exact ⟨b, h3, by rw [← h2, h4]⟩
theorem lB_runs {f : Nat → Int32} {n : Nat} (hB : isB f n) : ∀ k a, a ≤ n → lB (pruns f n k a) ∧ (pruns f n k a).length ≤ 2 * (n - a)
  | 0, a => fun _ => ⟨lB_nil, by show 0 ≤ _; omega⟩
  | k + 1, a => fun ha => by
    unfold pruns
    split
    · rename_i hlt
      have hr := runl_le (f := f) (n := n) (a := a) (m := 129) hlt (by omega)
      have hp1 := pend_ge f n (min n (a + 128)) n (a + 1)
      have hp2 := pend_le f n (min n (a + 128)) n (a + 1) (by omega)
      split
      · rename_i h2
        obtain ⟨b, hb, hfb⟩ := hB a hlt
        have ih := lB_runs hB k (a + runl f n a 129) hr.1
        refine ⟨lB_app (lB_cons (by omega) (by rw [hfb]; exact lB_cons hb lB_nil)) ih.1, ?_⟩
        rw [List.length_append]
        show 2 + _ ≤ _
        omega
      · have ih := lB_runs hB k (pend f n (min n (a + 128)) n (a + 1)) (by omega)
        refine ⟨lB_app (lB_cons (by omega) (lB_slice hB (by omega))) ih.1, ?_⟩
        rw [List.length_append, List.length_cons, slice_len]
        omega
    · exact ⟨lB_nil, by show 0 ≤ _; omega⟩
theorem lB_mat {f : Nat → Int32} {n : Nat} (hB : isB f n) : ∀ k a, a ≤ n → lB (pmat f n k a) ∧ (pmat f n k a).length ≤ 2 * (n - a)
  | 0, a => fun _ => ⟨lB_nil, by show 0 ≤ _; omega⟩
  | k + 1, a => fun ha => by
    unfold pmat
    split
    · rename_i hlt
      have hr := mbest_le (f := f) (n := n) (a := a) (min a 255)
      have hd := mbest_d (f := f) (n := n) (a := a) (min a 255)
      have hp1 := mend_ge f n (min n (a + 128)) n (a + 1)
      have hp2 := mend_le f n (min n (a + 128)) n (a + 1) (by omega)
      unfold most at hr
      split
      · rename_i h2
        have ih := lB_mat hB k (a + (mbest f n a (min a 255)).1) (by omega)
        refine ⟨lB_app (lB_cons (by omega) (lB_cons (by omega) lB_nil)) ih.1, ?_⟩
        rw [List.length_append]
        show 2 + _ ≤ _
        omega
      · have ih := lB_mat hB k (mend f n (min n (a + 128)) n (a + 1)) (by omega)
        refine ⟨lB_app (lB_cons (by omega) (lB_slice hB (by omega))) ih.1, ?_⟩
        rw [List.length_append, List.length_cons, slice_len]
        omega
    · exact ⟨lB_nil, by show 0 ≤ _; omega⟩
theorem lB_b1 {s : BS} {b : Nat} (h : bok s) (hb : b < 2) (hL : lB s.1) : lB (b1 s b).1 := by
  unfold b1
  split
  · rename_i h8
    refine lB_app hL (lB_cons ?_ lB_nil)
    have h2 : s.2.1 < 2 ^ s.2.2 := h.2
    have h3 : s.2.2 = 7 := by omega
    rw [h3] at h2
    omega
  · exact hL
theorem lB_bp {v : Nat} : ∀ (w : Nat) {s : BS}, bok s → lB s.1 → lB (bp s v w).1
  | 0, s, _, hL => hL
  | w + 1, s, h, hL => by
    show lB (bp (b1 s (v / 2 ^ w % 2)) v w).1
    exact lB_bp w (bok_1 h (by omega)) (lB_b1 h (by omega) hL)
theorem lB_cods {f : Nat → Int32} {v w : Nat → Nat} {s : BS} (h : bok s) (hL : lB s.1) : ∀ i, lB (cods f v w s i).1
  | 0 => hL
  | i + 1 => lB_bp _ (bok_c h i) (lB_cods h hL i)
theorem lB_bfin {s : BS} (h : bok s) (hL : lB s.1) : lB (bfin s) := by
  unfold bfin
  split
  · rename_i h0
    refine lB_app hL (lB_cons ?_ lB_nil)
    obtain ⟨h1, h2⟩ := h
    have h3 : s.2.1 * 2 ^ (8 - s.2.2) < 2 ^ s.2.2 * 2 ^ (8 - s.2.2) := Nat.mul_lt_mul_of_pos_right h2 (Nat.two_pow_pos _)
    rw [← Nat.pow_add, show s.2.2 + (8 - s.2.2) = 8 by omega] at h3
    exact h3
  · exact hL
theorem bfin_len {s : BS} : (bfin s).length ≤ s.1.length + 1 := by
  unfold bfin
  split
  · rw [List.length_append]; exact Nat.le_refl _
  · omega
theorem lB_unls (f : Nat → Int32) (n : Nat) : ∀ z, z ≤ 256 → lB (unls f n z)
  | 0, _ => lB_nil
  | z + 1, hz => by
    show lB (unls f n z ++ (if 0 < cnt f n z then [nI z] else []))
    refine lB_app (lB_unls f n z (by omega)) ?_
    split
    · exact lB_cons (by omega) lB_nil
    · exact lB_nil
theorem lB_ptb {c e : Nat → Nat} (he : ∀ b, e b ≤ 15) : ∀ z, z ≤ 256 → lB (ptb c e z)
  | 0, _ => lB_nil
  | z + 1, hz => by
    show lB (ptb c e z ++ (if 0 < c z then [nI z, nI (e z)] else []))
    refine lB_app (lB_ptb he z (by omega)) ?_
    split
    · exact lB_cons (by omega) (lB_cons (by have := he z; omega) lB_nil)
    · exact lB_nil
theorem lB_pbody {q : Nat} {f : Nat → Int32} {n : Nat} {L : List Int32} (hB : isB f n) (hn : n ≤ 300) (hL : lB L) : lB (pbody q f n L) ∧ (pbody q f n L).length ≤ L.length + 929 := by
  unfold pbody
  split
  · exact ⟨hL, by omega⟩
  · rename_i hn0
    have hu1 := unl_pos hB (by omega)
    have hu2 := unl_256 hB
    split
    · have h := lB_runs hB n 0 (Nat.zero_le _)
      exact ⟨lB_app hL h.1, by rw [List.length_append]; omega⟩
    · split
      · unfold pbits
        have hs : bok (L ++ (nI (unl f n - 1) :: unls f n 256), 0, 0) := ⟨by show 0 < 8; decide, by show 0 < 2 ^ 0; decide⟩
        have hl1 : lB (L ++ (nI (unl f n - 1) :: unls f n 256)) := lB_app hL (lB_cons (by omega) (lB_unls f n 256 (Nat.le_refl _)))
        refine ⟨lB_bfin (bok_c hs n) (lB_cods hs hl1 n), ?_⟩
        have h1 := bfin_len (s := cods f (rk f n) (fun _ => wid (unl f n - 1)) (L ++ (nI (unl f n - 1) :: unls f n 256), 0, 0) n)
        have h2 := cods_len (f := f) (v := rk f n) (w := fun _ => wid (unl f n - 1)) (s := (L ++ (nI (unl f n - 1) :: unls f n 256), 0, 0)) (W := 8) (fun _ => wid_8 _ (by omega)) n
        have h3 := unls_le f n 256
        have e9 : ((L ++ (nI (unl f n - 1) :: unls f n 256), 0, 0) : BS).1.length * 8 + ((L ++ (nI (unl f n - 1) :: unls f n 256), 0, 0) : BS).2.2 = (L.length + ((unls f n 256).length + 1)) * 8 + 0 := by
          show (L ++ (nI (unl f n - 1) :: unls f n 256)).length * 8 + 0 = _
          rw [List.length_append, List.length_cons]
        omega
      · split
        · have hHC : HC (cnt f n) n := cnt_sum hB
          have h11 := hl_11 hHC hn
          unfold ppre
          have hs : bok (L ++ (nI (unl f n - 1) :: ptb (cnt f n) (hl (cnt f n)) 256), 0, 0) := ⟨by show 0 < 8; decide, by show 0 < 2 ^ 0; decide⟩
          have hl1 : lB (L ++ (nI (unl f n - 1) :: ptb (cnt f n) (hl (cnt f n)) 256)) := lB_app hL (lB_cons (by omega) (lB_ptb (hl_15 hHC hn) 256 (Nat.le_refl _)))
          refine ⟨lB_bfin (bok_c hs n) (lB_cods hs hl1 n), ?_⟩
          have h1 := bfin_len (s := cods f (cod (hl (cnt f n))) (hl (cnt f n)) (L ++ (nI (unl f n - 1) :: ptb (cnt f n) (hl (cnt f n)) 256), 0, 0) n)
          have h2 := cods_len (f := f) (v := cod (hl (cnt f n))) (w := hl (cnt f n)) (s := (L ++ (nI (unl f n - 1) :: ptb (cnt f n) (hl (cnt f n)) 256), 0, 0)) (W := 11) h11 n
          have h3 := ptb_len (cnt f n) (hl (cnt f n)) 256
          have h4 := knz_le (cnt f n) 256
          have e9 : ((L ++ (nI (unl f n - 1) :: ptb (cnt f n) (hl (cnt f n)) 256), 0, 0) : BS).1.length * 8 + ((L ++ (nI (unl f n - 1) :: ptb (cnt f n) (hl (cnt f n)) 256), 0, 0) : BS).2.2 = (L.length + ((ptb (cnt f n) (hl (cnt f n)) 256).length + 1)) * 8 + 0 := by
            show (L ++ (nI (unl f n - 1) :: ptb (cnt f n) (hl (cnt f n)) 256)).length * 8 + 0 = _
            rw [List.length_append, List.length_cons]
          omega
        · split
          · have h := lB_mat hB n 0 (Nat.zero_le _)
            exact ⟨lB_app hL h.1, by rw [List.length_append]; omega⟩
          · exact ⟨lB_app hL (lB_slice hB (Nat.le_refl _)), by rw [List.length_append, slice_len]; omega⟩
section
variable {Γ : Nat × (Nat → Int32)} {F A : Nat → Nat → Int32} {rf : Nat} {lo : Int64} {X : PH} {Q : Option Value → PH → Prop} {r n t : Nat} {f0 : Nat → Int32} {L : List Int32}
theorem row_in (h : r = 1 ∨ r = 7 ∨ r = 9) : isRow r (r + 1) 300 := by
  rcases h with rfl | rfl | rfl
  · exact ⟨rfl, rfl, rfl, by decide⟩
  · exact ⟨rfl, rfl, rfl, by decide⟩
  · exact ⟨rfl, rfl, rfl, by decide⟩
theorem row_to (h : t = 3 ∨ t = 5) : isRow t (t + 1) 1024 := by
  rcases h with rfl | rfl
  · exact ⟨rfl, rfl, rfl, by decide⟩
  · exact ⟨rfl, rfl, rfl, by decide⟩
/-- what Packers.write changes beside the row -/
def frW (F F' A A' : Nat → Nat → Int32) : Prop := (∀ i j, ¬ (i = 28 ∧ j = 5) → ¬ i = 23 → ¬ (i = 17 ∧ (j = 7 ∨ j = 8)) → F' i j = F i j) ∧ (∀ i, ¬ (18 ≤ i ∧ i ≤ 21) → ¬ (24 ≤ i ∧ i ≤ 33) → A' i = A i)
theorem c_write {q : Nat} (hr : r = 1 ∨ r = 7 ∨ r = 9) (ht : t = 3 ∨ t = 5) (hq : q < 5) (hn : F r 1 = nI n) (hn9 : n ≤ 300) (hB : isB (A (r + 1)) n) (hz0 : F 22 0 = 0) (hz1 : F 22 1 = 0) (hL : L.length ≤ 90)
    (hQ : ∀ F' A', frW F F' A A' → Q none (WS F' A' t (t + 1) 0 f0 (pbody q (A (r + 1)) n L) rf lo X)) : PM Γ mX3_write [.ref 17, .int (nI q), .ref r, .ref t] (WS F A t (t + 1) 0 f0 L rf lo X) 0 0 Q := by
  have hr' := row_in hr
  have ht' := row_to ht
  obtain ⟨h1, h2, h9, hc⟩ := id hr'
  obtain ⟨g1, g2, g9, gc⟩ := id ht'
  have hself : frW F F A A := ⟨fun i j _ _ _ => rfl, fun i _ _ => rfl⟩
  refine PM.go (l := [_, _, _, _]) rfl rfl (Nat.le_of_ble_eq_true rfl) rfl ?_
  refine pw_aload_n rfl dX3_write_0 ?_
  refine pc_V0 dX3_write_1 lX3_52 rfl (by first | rfl | assumption) (by decide) (Nat.le_of_ble_eq_true rfl) ?_
  refine w_count hr' (by omega) hn ?_
  by_cases hn0 : n = 0
  · rw [hn0]
    refine pw_if_ne 8 dX3_write_4 (by decide) (fun q => absurd (rfl) q) (fun _ => ?_)
    refine pw_vret dX3_write_7 rfl ?_
    have := hQ F A hself
    unfold pbody at this
    rw [if_pos hn0] at this
    exact this
  · unfold pbody at hQ
    rw [if_neg hn0] at hQ
    refine pw_if_ne 8 dX3_write_4 (by decide) (fun _ => ?_) (fun q => absurd q (nI_ne0 (by omega) (by omega)))
    refine pw_iload_n rfl dX3_write_8 ?_
    rcases (show q = 0 ∨ q = 1 ∨ q = 2 ∨ q = 3 ∨ q = 4 by omega) with rfl | rfl | rfl | rfl | rfl
    · refine pw_tout 75 dX3_write_9 (Or.inl (by decide)) (by decide) ?_
      refine pw_aload_n rfl dX3_write_75 ?_
      refine pw_iconst 0 (by decide) dX3_write_76 ?_
      refine pw_aload_n rfl dX3_write_77 ?_
      refine pc_V0 dX3_write_78 lX3_52 rfl (by first | rfl | assumption) (by decide) (Nat.le_of_ble_eq_true rfl) ?_
      refine w_count hr' (by omega) hn ?_
      refine pw_aload_n rfl dX3_write_81 ?_
      refine pc_S4 dX3_write_82 lX3_71 (by decide) (Nat.le_of_ble_eq_true rfl) ?_
      refine w_copy hr' ht' (by omega) (by omega) hn hn9 hB (a := 0) rfl rfl (Nat.zero_le _) (Nat.le_refl _) (by omega) ?_
      refine pw_vret dX3_write_85 rfl ?_
      exact hQ F A hself
    · refine pw_tin 40 dX3_write_9 (by decide) (by decide) rfl (by decide) ?_
      refine pw_aload_n rfl dX3_write_40 ?_
      refine pw_aload_n rfl dX3_write_41 ?_
      refine pc_S2 dX3_write_42 lX3_58 (by decide) (Nat.le_of_ble_eq_true rfl) ?_
      refine w_runs hr' ht' (by omega) (by omega) hn hn9 hn9 hB (by omega) ?_
      refine pw_goto 85 dX3_write_45 (by decide) ?_
      refine pw_vret dX3_write_85 rfl ?_
      exact hQ F A hself
    · refine pw_tin 48 dX3_write_9 (by decide) (by decide) rfl (by decide) ?_
      refine pw_aload_n rfl dX3_write_48 ?_
      refine pw_aload_n rfl dX3_write_49 ?_
      refine pw_aload_n rfl dX3_write_50 ?_
      refine pc_V2 dX3_write_51 lX3_62 rfl rfl (by decide) (Nat.le_of_ble_eq_true rfl) ?_
      refine w_bits hr' ht' (by omega) (by omega) (by omega) (by omega) hn hn9 hn9 (by omega) hB ⟨by omega, by omega⟩ ⟨by omega, by omega⟩ hz0 hz1 (by omega) ?_
      intro g
      refine pw_goto 85 dX3_write_54 (by decide) ?_
      refine pw_vret dX3_write_85 rfl ?_
      exact hQ F _ ⟨fun i j _ _ _ => rfl, fun i k1 k2 => by rw [stA_n (by omega), stA_n (by omega)]⟩
    · refine pw_tin 57 dX3_write_9 (by decide) (by decide) rfl (by decide) ?_
      refine pw_aload_n rfl dX3_write_57 ?_
      refine pw_aload_n rfl dX3_write_58 ?_
      refine pw_aload_n rfl dX3_write_59 ?_
      refine pc_V2 dX3_write_60 lX3_65 rfl rfl (by decide) (Nat.le_of_ble_eq_true rfl) ?_
      refine w_prefix hr' ht' (by omega) (by omega) ⟨by omega, by omega, by omega⟩ ⟨by omega, by omega, by omega⟩ hn hn9 hn9 (by omega) hB ⟨by omega, by omega⟩ ⟨by omega, by omega⟩ hz0 hz1 (by omega) ?_
      intro F' A' hF hA
      refine pw_goto 85 dX3_write_63 (by decide) ?_
      refine pw_vret dX3_write_85 rfl ?_
      exact hQ F' A' ⟨fun i j k1 k2 _ => hF i j k1 k2, fun i k1 k2 => hA i (by omega) k2⟩
    · refine pw_tin 66 dX3_write_9 (by decide) (by decide) rfl (by decide) ?_
      refine pw_aload_n rfl dX3_write_66 ?_
      refine pw_aload_n rfl dX3_write_67 ?_
      refine pw_aload_n rfl dX3_write_68 ?_
      refine pc_V2 dX3_write_69 lX3_68 rfl rfl (by decide) (Nat.le_of_ble_eq_true rfl) ?_
      refine w_matches hr' (by omega) (by omega) ht' (by omega) (by omega) ⟨by omega, by omega⟩ ⟨by omega, by omega⟩ hn hn9 hn9 hB (by omega) ?_
      intro g1 g2 x
      refine pw_goto 85 dX3_write_72 (by decide) ?_
      refine pw_vret dX3_write_85 rfl ?_
      exact hQ _ _ ⟨fun i j _ _ k3 => by rw [upF_n (by omega), upF_n (by omega)], fun i k1 k2 => by rw [stA_n (by omega), stA_n (by omega)]⟩
end
