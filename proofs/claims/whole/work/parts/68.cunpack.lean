/-! unpack: pure; the object's readBody, endBytes, undoFilters, finish -/
def b00 (O : Nat → Int32) (o : Nat) : BT := (hd6 O o, 0, fun _ => 0)
def rbd (O : Nat → Int32) (o : Nat) : BT := if (hd6 O o).1 = 0 ∧ 0 < hdC O o then (if hdP O o = 1 then its O o (hdC O o) false (hdC O o) (b00 O o) else if hdP O o = 2 then rEnd O (rBits O o (hdC O o) (b00 O o)) else if hdP O o = 3 then rEnd O (rPre O o (hdC O o) (b00 O o)) else if hdP O o = 4 then its O o (hdC O o) true (hdC O o) (b00 O o) else cpy O o (hdC O o) (b00 O o)) else b00 O o
def ebd (O : Nat → Int32) (o : Nat) : RT := if (rbd O o).1.1 = 0 ∧ (rbd O o).1.2.2 < o then (3, (rbd O o).1.2.2, (rbd O o).1.2.2) else (rbd O o).1
def unf (K V : Nat → Nat) (n : Nat) : Nat → (Nat → Int32) → (Nat → Int32)
  | 0, f => f
  | j + 1, f => unf K V n j (fun_ (K j) (V j) f n)
theorem b00_ok {O : Nat → Int32} {o : Nat} (hB : isB O o) : bk o (hdC O o) (b00 O o) := ⟨(hd6_ok hB).1, fun _ => ⟨Nat.zero_le _, fun j hj => absurd hj (Nat.not_lt_zero _)⟩⟩
theorem rbd_ok {O : Nat → Int32} {o : Nat} (hB : isB O o) : bk o (hdC O o) (rbd O o) ∧ ((rbd O o).1.1 = 0 → (hd6 O o).1 = 0 ∧ (rbd O o).2.1 = hdC O o) := by
  have h0 := b00_ok hB
  unfold rbd
  by_cases h1 : (hd6 O o).1 = 0 ∧ 0 < hdC O o
  · rw [if_pos h1]
    have hit : ∀ mt, bk o (hdC O o) (its O o (hdC O o) mt (hdC O o) (b00 O o)) ∧ ((its O o (hdC O o) mt (hdC O o) (b00 O o)).1.1 = 0 → (its O o (hdC O o) mt (hdC O o) (b00 O o)).2.1 = hdC O o) := fun mt => its_ok hB (hdC O o) (b00 O o) h0 (fun _ => Nat.sub_le _ _)
    split
    · exact ⟨(hit false).1, fun h => ⟨h1.1, (hit false).2 h⟩⟩
    · split
      · have hr := rBits_ok hB h0 (fun _ => rfl)
        have he := rEnd_ok (O := O) hr.1
        exact ⟨he.1, fun h => ⟨h1.1, by have := he.2 h; rw [this.2]; exact (hr.2 this.1).2⟩⟩
      · split
        · have hr := rPre_ok hB h0 (fun _ => rfl)
          have he := rEnd_ok (O := O) hr.1
          exact ⟨he.1, fun h => ⟨h1.1, by have := he.2 h; rw [this.2]; exact (hr.2 this.1).2⟩⟩
        · split
          · exact ⟨(hit true).1, fun h => ⟨h1.1, (hit true).2 h⟩⟩
          · have hc := cpy_ok hB (hdC O o) (b00 O o) h0 (fun _ => by show 0 + hdC O o ≤ hdC O o; omega)
            exact ⟨hc.1, fun h => ⟨h1.1, by rw [(hc.2 h).2.1]; show 0 + hdC O o = hdC O o; omega⟩⟩
  · rw [if_neg h1]
    refine ⟨h0, fun h => ⟨h, ?_⟩⟩
    have h2 : (hd6 O o).1 = 0 := h
    have : ¬ 0 < hdC O o := fun z => h1 ⟨h2, z⟩
    show 0 = hdC O o
    omega
theorem ebd_ok {O : Nat → Int32} {o : Nat} (hB : isB O o) : rok o (ebd O o) ∧ ((ebd O o).1 = 0 → (rbd O o).1.1 = 0 ∧ ebd O o = (rbd O o).1) := by
  have h := (rbd_ok hB).1.1
  unfold ebd
  by_cases h1 : (rbd O o).1.1 = 0 ∧ (rbd O o).1.2.2 < o
  · rw [if_pos h1]
    exact ⟨⟨by show 3 ≤ 4; omega, h.2.1, h.2.1⟩, fun h2 => absurd h2 (by show ¬ 3 = 0; omega)⟩
  · rw [if_neg h1]
    exact ⟨h, fun h2 => ⟨h2, rfl⟩⟩
theorem fun_isB {f : Nat → Int32} {n k v : Nat} (hn : n ≤ 300) (hB : isB f n) (hk : fok k v) : isB (fun_ k v f n) n := fun j hj => fun_B hn hB hk hj
theorem unf_ok {K V : Nat → Nat} {n : Nat} (hn : n ≤ 300) : ∀ (m : Nat) (f g : Nat → Int32), (∀ j, j < m → fok (K j) (V j)) → isB f n → same f g n → isB (unf K V n m f) n ∧ same (unf K V n m f) (unf K V n m g) n
  | 0, f, g => fun _ hB hs => ⟨hB, hs⟩
  | m + 1, f, g => fun hk hB hs => unf_ok hn m _ _ (fun j hj => hk j (by omega)) (fun_isB hn hB (hk m (by omega))) (fun j hj => cg_fun hn hs (hk m (by omega)) hj)
theorem fil47 : isFil 47 48 := ⟨rfl, rfl, rfl⟩
theorem row51 : isRow 51 52 300 := ⟨rfl, rfl, rfl, by decide⟩
section
variable {Γ : Nat × (Nat → Int32)} {F A : Nat → Nat → Int32} {lo : Int64} {X : PH} {Q : Option Value → PH → Prop} {o : Nat} {O : Nat → Int32} {rf : Nat}
theorem c_readBody (hO : OX F A o O) (ho : o ≤ 1024) (hB : isB O o) (hR : RD F (hd6 O o)) (h9 : F 34 9 = nI (hdP O o)) (h10 : F 34 10 = nI (hdC O o)) (h2 : F 35 2 = 0) (h3 : F 35 3 = 0) (h49 : F 49 1 = 0) (hQ : ∀ F' A', frU F F' A A' → CB F' A' (rbd O o) → Q none (HS F' A' 3 lo X)) : PM Γ mX9_readBody [.ref 34] (HS F A 3 lo X) 0 0 Q := by
  have h6 := hd6_ok (O := O) hB
  have hk := b00_ok (O := O) hB
  have hC : CB F A (b00 O o) := ⟨hR, 0, h49, by omega, fun _ => ⟨rfl, fun j hj => absurd hj (Nat.not_lt_zero _)⟩⟩
  unfold rbd at hQ
  refine PM.go (l := [_]) rfl rfl (Nat.le_of_ble_eq_true rfl) rfl ?_
  refine pw_aload_n rfl dX9_readBody_0 ?_
  refine pw_gC dX9_readBody_1 fX9_12 (by first | rfl | assumption) rfl (by first | rfl | assumption) ?_
  refine pc_V0 dX9_readBody_4 lX9_92 rfl rfl (by decide) (Nat.le_of_ble_eq_true rfl) ?_
  refine c_isFine hR h6.1.1 ?_
  by_cases h0 : (hd6 O o).1 = 0
  · obtain ⟨q1, q2, q3, q4, q5⟩ := h6.2 h0
    rw [if_pos h0]
    refine pw_if_eq 17 dX9_readBody_7 (by decide) (fun q => absurd q (by decide)) (fun _ => ?_)
    refine pw_aload_n rfl dX9_readBody_10 ?_
    refine pw_gI dX9_readBody_11 fX9_61 (by first | rfl | assumption) rfl ?_
    rw [h10]
    by_cases hn : 0 < hdC O o
    · rw [if_pos ⟨h0, hn⟩] at hQ
      refine pw_if_ne 18 dX9_readBody_14 (by decide) (fun _ => ?_) (fun q => absurd q (nI_ne0 (by omega) (by omega)))
      refine pw_aload_n rfl dX9_readBody_18 ?_
      refine pw_gI dX9_readBody_19 fX9_58 (by first | rfl | assumption) rfl ?_
      rw [h9]
      rcases (show hdP O o = 0 ∨ hdP O o = 1 ∨ hdP O o = 2 ∨ hdP O o = 3 ∨ hdP O o = 4 by omega) with hp | hp | hp | hp | hp
      · rw [hp] at hQ h9 ⊢
        rw [if_neg (by decide), if_neg (by decide), if_neg (by decide), if_neg (by decide)] at hQ
        refine pw_tout 73 dX9_readBody_22 (Or.inl (by decide)) (by decide) ?_
        refine pw_aload_n rfl dX9_readBody_73 ?_
        refine pw_aload_n rfl dX9_readBody_74 ?_
        refine pw_gI dX9_readBody_75 fX9_61 (by first | rfl | assumption) rfl ?_
        rw [h10]
        refine pc_V1 dX9_readBody_78 lX9_105 rfl rfl (by decide) (Nat.le_of_ble_eq_true rfl) ?_
        refine c_rcopy hO ho hB q1 hC hk (fun _ => by show 0 + hdC O o ≤ hdC O o; omega) (by omega) ?_
        intro F' A' hf hC'
        refine pw_vret dX9_readBody_81 rfl ?_
        exact hQ F' A' (frU_B hf) hC'
      · rw [hp] at hQ h9 ⊢
        rw [if_pos rfl] at hQ
        refine pw_tin 52 dX9_readBody_22 (by decide) (by decide) rfl (by decide) ?_
        refine pw_aload_n rfl dX9_readBody_52 ?_
        refine pc_V0 dX9_readBody_53 lX9_96 rfl rfl (by decide) (Nat.le_of_ble_eq_true rfl) ?_
        refine c_readItems (mt := false) hO ho hB q1 h10 (by rw [h9]; rfl) hC hk ?_
        intro F' A' hf hC'
        refine pw_goto 81 dX9_readBody_56 (by decide) ?_
        refine pw_vret dX9_readBody_81 rfl ?_
        exact hQ F' A' (frU_B hf) hC'
      · rw [hp] at hQ h9 ⊢
        rw [if_neg (by decide), if_pos rfl] at hQ
        refine pw_tin 59 dX9_readBody_22 (by decide) (by decide) rfl (by decide) ?_
        refine pw_aload_n rfl dX9_readBody_59 ?_
        refine pc_V0 dX9_readBody_60 lX9_99 rfl rfl (by decide) (Nat.le_of_ble_eq_true rfl) ?_
        refine c_readBits hO ho hB q1 h10 h2 h3 hC hk (fun _ => rfl) ?_
        intro F' A' hf hC'
        refine pw_goto 81 dX9_readBody_63 (by decide) ?_
        refine pw_vret dX9_readBody_81 rfl ?_
        exact hQ F' A' hf hC'
      · rw [hp] at hQ h9 ⊢
        rw [if_neg (by decide), if_neg (by decide), if_pos rfl] at hQ
        refine pw_tin 66 dX9_readBody_22 (by decide) (by decide) rfl (by decide) ?_
        refine pw_aload_n rfl dX9_readBody_66 ?_
        refine pc_V0 dX9_readBody_67 lX9_102 rfl rfl (by decide) (Nat.le_of_ble_eq_true rfl) ?_
        refine c_readPrefix hO ho hB q1 h10 h2 h3 hC hk (fun _ => rfl) ?_
        intro F' A' hf hC'
        refine pw_goto 81 dX9_readBody_70 (by decide) ?_
        refine pw_vret dX9_readBody_81 rfl ?_
        exact hQ F' A' hf hC'
      · rw [hp] at hQ h9 ⊢
        rw [if_neg (by decide), if_neg (by decide), if_neg (by decide), if_pos rfl] at hQ
        refine pw_tin 52 dX9_readBody_22 (by decide) (by decide) rfl (by decide) ?_
        refine pw_aload_n rfl dX9_readBody_52 ?_
        refine pc_V0 dX9_readBody_53 lX9_96 rfl rfl (by decide) (Nat.le_of_ble_eq_true rfl) ?_
        refine c_readItems (mt := true) hO ho hB q1 h10 (by rw [h9]; rfl) hC hk ?_
        intro F' A' hf hC'
        refine pw_goto 81 dX9_readBody_56 (by decide) ?_
        refine pw_vret dX9_readBody_81 rfl ?_
        exact hQ F' A' (frU_B hf) hC'
    · rw [if_neg (fun z => hn z.2)] at hQ
      refine pw_if_ne 18 dX9_readBody_14 (by decide) (fun q => absurd (by rw [show hdC O o = 0 by omega]; rfl) q) (fun _ => ?_)
      refine pw_vret dX9_readBody_17 rfl ?_
      exact hQ F A frU_r hC
  · rw [if_neg (fun z => h0 z.1)] at hQ
    rw [if_neg h0]
    refine pw_if_eq 17 dX9_readBody_7 (by decide) (fun _ => ?_) (fun q => absurd (rfl) q)
    refine pw_vret dX9_readBody_17 rfl ?_
    exact hQ F A frU_r hC
theorem c_endBytes {r : RT} (hO : OX F A o O) (ho : o ≤ 1024) (hR : RD F r) (hk : rok o r) (hQ : ∀ F', frR F F' → RD F' (if r.1 = 0 ∧ r.2.2 < o then (3, r.2.2, r.2.2) else r) → Q none (HS F' A 3 lo X)) : PM Γ mX5_endBytes [.ref 35] (HS F A 3 lo X) 0 0 Q := by
  obtain ⟨k1, k2, k3⟩ := hk
  refine PM.go (l := [_]) rfl rfl (Nat.le_of_ble_eq_true rfl) rfl ?_
  refine pw_aload_n rfl dX5_endBytes_0 ?_
  refine pw_gR dX5_endBytes_1 fX5_14 (by first | rfl | assumption) rfl ?_
  rw [show srf 3 999 = 3 from rfl]
  refine pw_aload_n rfl dX5_endBytes_4 ?_
  refine pw_gI dX5_endBytes_5 fX5_20 (by first | rfl | assumption) rfl ?_
  refine pc_V1 dX5_endBytes_8 lX5_36 rfl (by first | rfl | assumption) (by decide) (Nat.le_of_ble_eq_true rfl) ?_
  refine c_has row3 ?_
  rw [hO.1]
  by_cases h0 : r.1 = 0
  · rw [hR.2.1 h0]
    by_cases h1 : r.2.2 < o
    · rw [if_pos ⟨h0, h1⟩] at hQ
      rw [if_pos ⟨nI_pos' (by omega), nI_lt h1 (by omega)⟩]
      refine pw_if_eq 23 dX5_endBytes_11 (by decide) (fun q => absurd q (by decide)) (fun _ => ?_)
      refine pw_aload_n rfl dX5_endBytes_14 ?_
      refine pw_iconst 3 (by decide) dX5_endBytes_15 ?_
      refine pw_aload_n rfl dX5_endBytes_16 ?_
      refine pw_gI dX5_endBytes_17 fX5_20 (by first | rfl | assumption) rfl ?_
      rw [hR.2.1 h0]
      refine pc_V2 dX5_endBytes_20 lX5_44 rfl rfl (by decide) (Nat.le_of_ble_eq_true rfl) ?_
      refine c_blameAt (w := 3) hR k1 (by omega) ?_
      intro F' hf hR'
      rw [if_pos h0] at hR'
      refine pw_vret dX5_endBytes_23 rfl ?_
      exact hQ F' hf hR'
    · rw [if_neg (fun z => h1 z.2)] at hQ
      rw [if_neg (fun z => nI_nlt (by omega) (by omega) z.2)]
      refine pw_if_eq 23 dX5_endBytes_11 (by decide) (fun _ => ?_) (fun q => absurd (rfl) q)
      refine pw_vret dX5_endBytes_23 rfl ?_
      exact hQ F frR_r hR
  · rw [if_neg (fun z => h0 z.1)] at hQ
    by_cases h1 : 0 ≤ F 35 1 ∧ F 35 1 < nI o
    · rw [if_pos h1]
      refine pw_if_eq 23 dX5_endBytes_11 (by decide) (fun q => absurd q (by decide)) (fun _ => ?_)
      refine pw_aload_n rfl dX5_endBytes_14 ?_
      refine pw_iconst 3 (by decide) dX5_endBytes_15 ?_
      refine pw_aload_n rfl dX5_endBytes_16 ?_
      refine pw_gI dX5_endBytes_17 fX5_20 (by first | rfl | assumption) rfl ?_
      obtain ⟨p, hp⟩ := of_nI (F 35 1)
      rw [hp]
      refine pc_V2 dX5_endBytes_20 lX5_44 rfl rfl (by decide) (Nat.le_of_ble_eq_true rfl) ?_
      refine c_blameAt (w := 3) hR k1 (by omega) ?_
      intro F' hf hR'
      rw [if_neg h0] at hR'
      refine pw_vret dX5_endBytes_23 rfl ?_
      exact hQ F' hf hR'
    · rw [if_neg h1]
      refine pw_if_eq 23 dX5_endBytes_11 (by decide) (fun _ => ?_) (fun q => absurd (rfl) q)
      refine pw_vret dX5_endBytes_23 rfl ?_
      exact hQ F frR_r hR
/-- what undoing changes -/
def frO (F F' A A' : Nat → Nat → Int32) : Prop := (∀ i j, ¬ (i = 49 ∧ j = 1) → ¬ (i = 51 ∧ j = 1) → F' i j = F i j) ∧ (∀ i, ¬ i = 48 → ¬ i = 50 → ¬ i = 52 → A' i = A i)
theorem uun_loop {K V : Nat → Nat} {n : Nat} (hn : n ≤ 300) : ∀ (m : Nat) (f : Nat → Int32) (F' A' : Nat → Nat → Int32), frO F F' A A' → (∀ j, j < m → fok (K j) (V j) ∧ A 38 j = nI (K j) ∧ A 39 j = nI (V j)) → m ≤ 2 → F' 49 1 = nI n → same (A' 50) f n → isB f n →
    (∀ F' A', frO F F' A A' → F' 49 1 = nI n → same (A' 50) (unf K V n m f) n → Q none (HS F' A' rf lo X)) →
    PW Γ mX9_undoFilters 11 [.ref 34, .int (nI m - 1)] [] (HS F' A' rf lo X) 0 0 Q := by
  intro m
  induction m with
  | zero =>
    intro f F' A' hfr hK hm h49 hs hB hq
    rw [show nI 0 - 1 = (-1 : Int32) from rfl]
    refine pw_iload_n rfl dX9_undoFilters_11 ?_
    refine pw_if_lt 59 dX9_undoFilters_12 (by decide) (fun _ => ?_) (fun q => absurd (by decide) q)
    refine pw_vret dX9_undoFilters_59 rfl ?_
    exact hq F' A' hfr h49 hs
  | succ m ih =>
    intro f F' A' hfr hK hm h49 hs hB hq
    obtain ⟨hk, e1, e2⟩ := hK m (by omega)
    have hB2 : isB (A' 50) n := same_B (same_sym hs) hB
    rw [show nI (m + 1) - 1 = nI m from pk_sub (a := m + 1) (b := 1) (by omega)]
    refine pw_iload_n rfl dX9_undoFilters_11 ?_
    refine pw_if_lt 59 dX9_undoFilters_12 (by decide) (fun q => absurd q (nI_pos (by omega))) (fun _ => ?_)
    refine pw_aload_n rfl dX9_undoFilters_15 ?_
    refine pw_gC dX9_undoFilters_16 fX9_38 (by first | rfl | assumption) rfl (by first | rfl | assumption) ?_
    refine pw_aload_n rfl dX9_undoFilters_19 ?_
    refine pw_gC dX9_undoFilters_20 fX9_18 (by first | rfl | assumption) rfl (by first | rfl | assumption) ?_
    refine pw_iload_n rfl dX9_undoFilters_23 ?_
    refine pw_aI dX9_undoFilters_24 (by first | rfl | assumption) (by first | assumption | exact vp_in_nI (by omega) (by omega)) ?_
    rw [nI_clamp (by omega), hfr.2 38 (by omega) (by omega) (by omega), e1]
    refine pw_aload_n rfl dX9_undoFilters_25 ?_
    refine pw_gC dX9_undoFilters_26 fX9_22 (by first | rfl | assumption) rfl (by first | rfl | assumption) ?_
    refine pw_iload_n rfl dX9_undoFilters_29 ?_
    refine pw_aI dX9_undoFilters_30 (by first | rfl | assumption) (by first | assumption | exact vp_in_nI (by omega) (by omega)) ?_
    refine pw_aload_n rfl dX9_undoFilters_31 ?_
    refine pw_gC dX9_undoFilters_32 fX9_47 (by first | rfl | assumption) rfl (by first | rfl | assumption) ?_
    refine pw_aload_n rfl dX9_undoFilters_35 ?_
    refine pw_gC dX9_undoFilters_36 fX9_51 (by first | rfl | assumption) rfl (by first | rfl | assumption) ?_
    rw [nI_clamp (by omega), hfr.2 39 (by omega) (by omega) (by omega), e2]
    refine pc_V4 dX9_undoFilters_39 lX9_174 rfl rfl (by decide) (Nat.le_of_ble_eq_true rfl) ?_
    refine c_undo fil47 row49 row51 (by omega) (by omega) (by omega) (by omega) h49 hn hn hn hB2 hk ?_
    intro g o hg
    unfold TS
    refine pw_aload_n rfl dX9_undoFilters_42 ?_
    refine pw_gC dX9_undoFilters_43 fX9_47 (by first | rfl | assumption) rfl (by first | rfl | assumption) ?_
    refine pw_aload_n rfl dX9_undoFilters_46 ?_
    refine pw_gC dX9_undoFilters_47 fX9_51 (by first | rfl | assumption) rfl (by first | rfl | assumption) ?_
    refine pc_V1 dX9_undoFilters_50 lX9_114 rfl rfl (by decide) (Nat.le_of_ble_eq_true rfl) ?_
    refine c_become row49 row51 (n := n) upF_s hn hn ?_
    refine ps_iinc (l' := [_, _]) (-1) dX9_undoFilters_53 (by decide) rfl (by decide) rfl rfl ?_
    refine pw_goto 11 dX9_undoFilters_56 (by decide) ?_
    rw [show nI m + (-1) = nI m - 1 from (Int32.sub_eq_add_neg (nI m) 1).symm]
    have hgs : same (stA (stA (stA A' 48 o) 52 g) 50 (cpn (stA (stA A' 48 o) 52 g 52) (stA (stA A' 48 o) 52 g 50) n) 50) (fun_ (K m) (V m) f n) n := by
      intro j hj
      rw [stA_s, cpn_lt hj, stA_s, hg j hj]
      exact cg_fun hn hs hk hj
    refine ih (fun_ (K m) (V m) f n) _ _ ⟨fun i j k1 k2 => by rw [upF_n k1, upF_n k2]; exact hfr.1 i j k1 k2, fun i k1 k2 k3 => by rw [stA_n k2, stA_n k3, stA_n k1]; exact hfr.2 i k1 k2 k3⟩ (fun j hj => hK j (by omega)) (by omega) upF_s hgs (fun_isB hn hB hk) hq
theorem c_undoFilters {K V f : Nat → Nat} {g : Nat → Int32} {n M : Nat} (hn : n ≤ 300) (hM : M ≤ 2) (h8 : F 34 8 = nI M) (hK : ∀ j, j < M → fok (K j) (V j) ∧ A 38 j = nI (K j) ∧ A 39 j = nI (V j)) (h49 : F 49 1 = nI n) (hs : same (A 50) g n) (hB : isB g n)
    (hQ : ∀ F' A', frO F F' A A' → F' 49 1 = nI n → same (A' 50) (unf K V n M g) n → Q none (HS F' A' rf lo X)) : PM Γ mX9_undoFilters [.ref 34] (HS F A rf lo X) 0 0 Q := by
  refine PM.go (l := [_, .float 0]) rfl rfl (Nat.le_of_ble_eq_true rfl) rfl ?_
  refine pw_aload_n rfl dX9_undoFilters_0 ?_
  refine pw_gI dX9_undoFilters_1 fX9_54 (by first | rfl | assumption) rfl ?_
  rw [h8]
  refine pw_iconst 2 (by decide) dX9_undoFilters_4 ?_
  refine pw_minN M 2 rfl rfl (by omega) (by omega) dX9_undoFilters_5 lX9_168 (by decide) (Nat.le_of_ble_eq_true rfl) ?_
  rw [show min M 2 = M by omega]
  refine pw_iconst 1 (by decide) dX9_undoFilters_8 ?_
  refine pw_isub dX9_undoFilters_9 ?_
  refine ps_istore_n (l' := [_, _]) dX9_undoFilters_10 (by decide) rfl rfl ?_
  exact uun_loop hn M g F A ⟨fun _ _ _ _ => rfl, fun _ _ _ _ => rfl⟩ hK hM h49 hs hB hQ
end
