/-! unpack: the object's finish; the reference's body -/
def frF (F F' A A' : Nat → Nat → Int32) : Prop := (∀ i j, ¬ i = 35 → ¬ (i = 49 ∧ j = 1) → ¬ (i = 51 ∧ j = 1) → ¬ (i = 1 ∧ j = 1) → F' i j = F i j) ∧ (∀ i, ¬ i = 48 → ¬ i = 50 → ¬ i = 52 → ¬ i = 2 → A' i = A i)
section
variable {Γ : Nat × (Nat → Int32)} {F A : Nat → Nat → Int32} {lo : Int64} {X : PH} {Q : Option Value → PH → Prop} {o : Nat} {O : Nat → Int32} {rf : Nat}
theorem c_finish (hO : OX F A o O) (ho : o ≤ 1024) (hB : isB O o) (hC : CB F A (rbd O o)) (h8 : F 34 8 = nI (hdM O o)) (hKV : (hd6 O o).1 = 0 → ∀ j, j < hdM O o → A 38 j = nI ((hdF O o).2.1 j) ∧ A 39 j = nI ((hdF O o).2.2 j))
    (hQ : ∀ F' A', frF F F' A A' → RD F' (ebd O o) → (¬ (ebd O o).1 = 0 → F' 1 1 = F 1 1 ∧ A' 2 = A 2) → ((ebd O o).1 = 0 → F' 1 1 = nI (hdC O o) ∧ same (A' 2) (unf (hdF O o).2.1 (hdF O o).2.2 (hdC O o) (hdM O o) (rbd O o).2.2) (hdC O o)) → Q (some (.int (nI (ebd O o).1))) (HS F' A' 3 lo X)) : PM Γ mX9_finish [.ref 34, .ref 1] (HS F A 3 lo X) 0 0 Q := by
  have hbk := rbd_ok (O := O) hB
  have hek := ebd_ok (O := O) hB
  obtain ⟨hR, g', c1, c2, c3⟩ := id hC
  refine PM.go (l := [_, _]) rfl rfl (Nat.le_of_ble_eq_true rfl) rfl ?_
  refine pw_aload_n rfl dX9_finish_0 ?_
  refine pw_gC dX9_finish_1 fX9_12 (by first | rfl | assumption) rfl (by first | rfl | assumption) ?_
  refine pc_V0 dX9_finish_4 lX9_108 rfl rfl (by decide) (Nat.le_of_ble_eq_true rfl) ?_
  refine c_endBytes hO ho hR hbk.1.1 ?_
  intro F1 hf1 hR1
  have hR1' : RD F1 (ebd O o) := hR1
  refine pw_aload_n rfl dX9_finish_7 ?_
  refine pw_gC dX9_finish_8 fX9_12 (by first | rfl | assumption) rfl (by first | rfl | assumption) ?_
  refine pc_V0 dX9_finish_11 lX9_92 rfl rfl (by decide) (Nat.le_of_ble_eq_true rfl) ?_
  refine c_isFine hR1' hek.1.1 ?_
  by_cases h0 : (ebd O o).1 = 0
  · rw [if_pos h0]
    have h1 := (hek.2 h0).1
    have h2 := hbk.2 h1
    obtain ⟨q1, q2, q3, q4, q5⟩ := (hd6_ok hB).2 h2.1
    obtain ⟨e1, e2⟩ := c3 h1
    have hfB := (hbk.1.2 h1).2
    rw [h2.2] at e1 e2 hfB
    have hKV2 := hKV h2.1
    refine pw_if_eq 29 dX9_finish_14 (by decide) (fun q => absurd q (by decide)) (fun _ => ?_)
    refine pw_aload_n rfl dX9_finish_17 ?_
    refine pc_V0 dX9_finish_18 lX9_111 rfl rfl (by decide) (Nat.le_of_ble_eq_true rfl) ?_
    refine c_undoFilters (K := (hdF O o).2.1) (V := (hdF O o).2.2) (f := fun _ => 0) (g := (rbd O o).2.2) q1 q3 (by rw [hf1 34 8 (by omega)]; exact h8) (fun j hj => ⟨q4 j hj, hKV2 j hj⟩) (by rw [hf1 49 1 (by omega), c1, e1]) e2 hfB ?_
    intro F2 A2 hf2 h49 hs2
    refine pw_aload_n rfl dX9_finish_21 ?_
    refine pw_aload_n rfl dX9_finish_22 ?_
    refine pw_gC dX9_finish_23 fX9_47 (by first | rfl | assumption) rfl (by first | rfl | assumption) ?_
    refine pc_V1 dX9_finish_26 lX9_114 rfl rfl (by decide) (Nat.le_of_ble_eq_true rfl) ?_
    refine c_become row1 row49 h49 q1 q1 ?_
    refine pw_aload_n rfl dX9_finish_29 ?_
    refine pw_gC dX9_finish_30 fX9_12 (by first | rfl | assumption) rfl (by first | rfl | assumption) ?_
    refine pc_V0 dX9_finish_33 lX9_117 rfl rfl (by decide) (Nat.le_of_ble_eq_true rfl) ?_
    have h354 : upF F2 1 1 (nI (hdC O o)) 35 4 = nI (ebd O o).1 := by rw [upF_n (by omega), hf2.1 35 4 (by omega) (by omega)]; exact hR1'.1
    refine PM.go (l := [_]) rfl rfl (Nat.le_of_ble_eq_true rfl) rfl ?_
    refine pw_aload_n rfl dX5_fault_0 ?_
    refine pw_gI dX5_fault_1 fX5_30 (by first | rfl | assumption) rfl ?_
    refine pw_iret dX5_fault_4 (Or.inl rfl) ?_
    rw [h354]
    refine pw_iret dX9_finish_36 (Or.inl rfl) ?_
    refine hQ _ _ ⟨fun i j k1 k2 k3 k4 => by rw [upF_n k4, hf2.1 i j k2 k3]; exact hf1 i j (by omega), fun i k1 k2 k3 k4 => by rw [stA_n k4]; exact hf2.2 i k1 k2 k3⟩ ⟨h354, fun z => by rw [upF_n (by omega), hf2.1 35 1 (by omega) (by omega)]; exact hR1'.2.1 z, fun z => absurd h0 z⟩ (fun z => absurd h0 z) (fun _ => ⟨upF_s, fun j hj => by rw [stA_s, cpn_lt hj]; exact hs2 j hj⟩)
  · rw [if_neg h0]
    refine pw_if_eq 29 dX9_finish_14 (by decide) (fun _ => ?_) (fun q => absurd (rfl) q)
    refine pw_aload_n rfl dX9_finish_29 ?_
    refine pw_gC dX9_finish_30 fX9_12 (by first | rfl | assumption) rfl (by first | rfl | assumption) ?_
    refine pc_V0 dX9_finish_33 lX9_117 rfl rfl (by decide) (Nat.le_of_ble_eq_true rfl) ?_
    refine PM.go (l := [_]) rfl rfl (Nat.le_of_ble_eq_true rfl) rfl ?_
    refine pw_aload_n rfl dX5_fault_0 ?_
    refine pw_gI dX5_fault_1 fX5_30 (by first | rfl | assumption) rfl ?_
    refine pw_iret dX5_fault_4 (Or.inl rfl) ?_
    rw [hR1'.1]
    refine pw_iret dX9_finish_36 (Or.inl rfl) ?_
    exact hQ F1 A ⟨fun i j k1 _ _ _ => hf1 i j (by omega), fun _ _ _ _ _ => rfl⟩ hR1' (fun _ => ⟨hf1 1 1 (by omega), rfl⟩) (fun z => absurd z h0)
theorem ums_copy {n : Nat} {x1 x2 x3 x4 x5 x6 x7 x8 : Int32} {g9 : Value} (hO : OM F A o O) (ho : o ≤ 1024) (hB : isB O o) (hn : n ≤ 300) (hn0 : F 57 33 = nI n) : ∀ (m : Nat) (b : BT) (F' A' : Nat → Nat → Int32), (b.1.1 = 0 → b.2.1 + m = n) → frG F F' A A' → MB F' A' b → bk o n b →
    (∀ F' A', frG F F' A A' → MB F' A' (cpy O o m b) → PW Γ mX11_unpack 419 [.ref 57, .int x1, .int x2, .int x3, .int x4, .int x5, .int x6, .int x7, .int x8, g9] [] (HS F' A' rf lo X) 0 0 Q) →
    PW Γ mX11_unpack 349 [.ref 57, .int x1, .int x2, .int x3, .int x4, .int x5, .int x6, .int x7, .int x8, g9] [] (HS F' A' rf lo X) 0 0 Q := by
  intro m
  induction m with
  | zero =>
    intro b F' A' hg hfr hM hk hq
    refine pw_aload_n rfl dX11_unpack_349 ?_
    refine pw_gI dX11_unpack_350 fX11_201 (by first | rfl | assumption) rfl ?_
    rw [hM.1.1]
    by_cases h0 : b.1.1 = 0
    · have := hg h0
      refine pw_if_ne 419 dX11_unpack_353 (by decide) (fun q => absurd (by rw [h0]; rfl) q) (fun _ => ?_)
      refine pw_aload_n rfl dX11_unpack_356 ?_
      refine pw_gI dX11_unpack_357 fX11_216 (by first | rfl | assumption) rfl ?_
      rw [(hM.2 h0).1]
      refine pw_aload_n rfl dX11_unpack_360 ?_
      refine pw_gI dX11_unpack_361 fX11_226 (by first | rfl | assumption) rfl ?_
      rw [hfr.1 57 33 (by omega), hn0]
      refine pw_icmp_ge 419 dX11_unpack_364 (by decide) (fun _ => ?_) (fun q => absurd (nI_le (by omega) (by omega)) q)
      exact hq F' A' hfr hM
    · have := hk.1.1
      refine pw_if_ne 419 dX11_unpack_353 (by decide) (fun _ => ?_) (fun q => absurd q (nI_ne0 (by omega) (by omega)))
      exact hq F' A' hfr hM
  | succ m ih =>
    intro b F' A' hg hfr hM hk hq
    unfold cpy at hq
    refine pw_aload_n rfl dX11_unpack_349 ?_
    refine pw_gI dX11_unpack_350 fX11_201 (by first | rfl | assumption) rfl ?_
    rw [hM.1.1]
    by_cases h0 : b.1.1 = 0
    · rw [if_pos h0] at hq
      have hg2 := hg h0
      refine pw_if_ne 419 dX11_unpack_353 (by decide) (fun q => absurd (by rw [h0]; rfl) q) (fun _ => ?_)
      refine pw_aload_n rfl dX11_unpack_356 ?_
      refine pw_gI dX11_unpack_357 fX11_216 (by first | rfl | assumption) rfl ?_
      rw [(hM.2 h0).1]
      refine pw_aload_n rfl dX11_unpack_360 ?_
      refine pw_gI dX11_unpack_361 fX11_226 (by first | rfl | assumption) rfl ?_
      rw [hfr.1 57 33 (by omega), hn0]
      refine pw_icmp_ge 419 dX11_unpack_364 (by decide) (fun q => absurd q (nI_ge (by omega) (by omega))) (fun _ => ?_)
      refine pw_aload_n rfl dX11_unpack_367 ?_
      refine pw_aload_n rfl dX11_unpack_368 ?_
      refine pc_V0 dX11_unpack_369 lX11_213 rfl rfl (by decide) (Nat.le_of_ble_eq_true rfl) ?_
      refine m_next (OM_G hO hfr) ho hB hM.1 hk.1 ?_
      intro F1 hf1 hR1
      have hfr1 := frG_t hfr (frG_N (A := A') hf1)
      refine pc_V1 dX11_unpack_372 lX11_229 rfl rfl (by decide) (Nat.le_of_ble_eq_true rfl) ?_
      refine m_come (b := (nxS o b.1, b.2)) (MB_R hM hf1 hR1 (fun h => (nxS_0 h).1)) (nxS_rok hk.1) (fun h => by show b.2.1 < 300; omega) ?_
      intro F2 A2 hf2 _ hM2
      refine pw_goto 349 dX11_unpack_375 (by decide) ?_
      by_cases h1 : (nxS o b.1).1 = 0
      · rw [if_pos h1] at hq
        rw [if_pos h1] at hM2
        exact ih _ F2 A2 (fun _ => by show b.2.1 + 1 + m = n; omega) (frG_t hfr1 hf2) hM2 ⟨nxS_rok hk.1, fun _ => ⟨by show b.2.1 + 1 ≤ n; omega, pu_B (hk.2 h0).2 (nxV_lt hB)⟩⟩ hq
      · rw [if_neg h1] at hq
        rw [if_neg h1] at hM2
        refine ih (nxS o b.1, b.2) F2 A2 (fun h9 => absurd h9 h1) (frG_t hfr1 hf2) hM2 ⟨nxS_rok hk.1, fun h9 => absurd h9 h1⟩ ?_
        rw [cpy_f (b := (nxS o b.1, b.2)) h1]
        exact hq
    · rw [if_neg h0] at hq
      have := hk.1.1
      refine pw_if_ne 419 dX11_unpack_353 (by decide) (fun _ => ?_) (fun q => absurd q (nI_ne0 (by omega) (by omega)))
      exact hq F' A' hfr hM
theorem um_body {x1 x2 x3 x4 x5 x7 x8 : Int32} {g9 : Value} (hO : OM F A o O) (ho : o ≤ 1024) (hB : isB O o) (hR : RM F (hd6 O o)) (hn0 : F 57 33 = nI (hdC O o)) (h32 : F 57 32 = 0)
    (hq : ∀ F' A' p, frV F F' A A' → MB F' A' (rbd O o) → PW Γ mX11_unpack 419 [.ref 57, .int x1, .int x2, .int x3, .int x4, .int x5, .int p, .int x7, .int x8, g9] [] (HS F' A' rf lo X) 0 0 Q) :
    PW Γ mX11_unpack 330 [.ref 57, .int x1, .int x2, .int x3, .int x4, .int x5, .int (nI (hdP O o)), .int x7, .int x8, g9] [] (HS F A rf lo X) 0 0 Q := by
  have h6 := hd6_ok (O := O) hB
  have hk := b00_ok (O := O) hB
  have hM : MB F A (b00 O o) := ⟨hR, fun _ => ⟨h32, fun j hj => absurd hj (Nat.not_lt_zero _)⟩⟩
  unfold rbd at hq
  refine pw_aload_n rfl dX11_unpack_330 ?_
  refine pw_gI dX11_unpack_331 fX11_201 (by first | rfl | assumption) rfl ?_
  rw [hR.1]
  by_cases h0 : (hd6 O o).1 = 0
  · obtain ⟨q1, q2, q3, q4, q5⟩ := h6.2 h0
    refine pw_if_ne 419 dX11_unpack_334 (by decide) (fun q => absurd (by rw [h0]; rfl) q) (fun _ => ?_)
    refine pw_aload_n rfl dX11_unpack_337 ?_
    refine pw_gI dX11_unpack_338 fX11_226 (by first | rfl | assumption) rfl ?_
    rw [hn0]
    by_cases hn : 0 < hdC O o
    · rw [if_pos ⟨h0, hn⟩] at hq
      refine pw_if_le 419 dX11_unpack_341 (by decide) (fun q => absurd q (nI_ge (a := 0) hn (by omega))) (fun _ => ?_)
      refine pw_iload rfl dX11_unpack_344 ?_
      rcases (show hdP O o = 0 ∨ hdP O o = 1 ∨ hdP O o = 2 ∨ hdP O o = 3 ∨ hdP O o = 4 by omega) with hp | hp | hp | hp | hp
      · rw [hp] at hq ⊢
        rw [if_neg (by decide), if_neg (by decide), if_neg (by decide), if_neg (by decide)] at hq
        refine pw_if_ne 378 dX11_unpack_346 (by decide) (fun q => absurd (rfl) q) (fun _ => ?_)
        refine ums_copy (F := F) (A := A) hO ho hB q1 hn0 (hdC O o) (b00 O o) F A (fun _ => by show 0 + hdC O o = hdC O o; omega) frG_r hM hk ?_
        intro F' A' hf hM'
        exact hq F' A' _ (frV_Z (frZ_G hf)) hM'
      · rw [hp] at hq ⊢
        rw [if_pos rfl] at hq
        refine pw_if_ne 378 dX11_unpack_346 (by decide) (fun _ => ?_) (fun q => absurd q ((by decide)))
        refine pw_iload rfl dX11_unpack_378 ?_
        refine pw_iconst 2 (by decide) dX11_unpack_380 ?_
        refine pw_icmp_ne 391 dX11_unpack_381 (by decide) (fun _ => ?_) (fun q => absurd q ((by decide)))
        refine pw_iload rfl dX11_unpack_391 ?_
        refine pw_iconst 3 (by decide) dX11_unpack_393 ?_
        refine pw_icmp_ne 404 dX11_unpack_394 (by decide) (fun _ => ?_) (fun q => absurd q ((by decide)))
        refine pw_aload_n rfl dX11_unpack_404 ?_
        refine pw_iload rfl dX11_unpack_405 ?_
        refine pw_iconst 4 (by decide) dX11_unpack_407 ?_
        refine pw_icmp_ne 415 dX11_unpack_408 (by decide) (fun _ => ?_) (fun q => absurd q (by decide))
        refine pw_iconst 0 (by decide) dX11_unpack_415 ?_
        refine pc_V1 dX11_unpack_416 lX11_245 rfl rfl (by decide) (Nat.le_of_ble_eq_true rfl) ?_
        refine m_readItems (mt := false) hO ho hB q1 hn0 hM hk ?_
        intro F' A' hf hM'
        exact hq F' A' _ (frV_Z (frZ_G hf)) hM'
      · rw [hp] at hq ⊢
        rw [if_neg (by decide), if_pos rfl] at hq
        refine pw_if_ne 378 dX11_unpack_346 (by decide) (fun _ => ?_) (fun q => absurd q ((by decide)))
        refine pw_iload rfl dX11_unpack_378 ?_
        refine pw_iconst 2 (by decide) dX11_unpack_380 ?_
        refine pw_icmp_ne 391 dX11_unpack_381 (by decide) (fun q => absurd (rfl) q) (fun _ => ?_)
        refine pw_aload_n rfl dX11_unpack_384 ?_
        refine pc_V0 dX11_unpack_385 lX11_239 rfl rfl (by decide) (Nat.le_of_ble_eq_true rfl) ?_
        refine m_readBits hO ho hB q1 hn0 hM hk (fun _ => rfl) ?_
        intro F' A' hf hM'
        refine pw_goto 419 dX11_unpack_388 (by decide) ?_
        exact hq F' A' _ hf hM'
      · rw [hp] at hq ⊢
        rw [if_neg (by decide), if_neg (by decide), if_pos rfl] at hq
        refine pw_if_ne 378 dX11_unpack_346 (by decide) (fun _ => ?_) (fun q => absurd q ((by decide)))
        refine pw_iload rfl dX11_unpack_378 ?_
        refine pw_iconst 2 (by decide) dX11_unpack_380 ?_
        refine pw_icmp_ne 391 dX11_unpack_381 (by decide) (fun _ => ?_) (fun q => absurd q ((by decide)))
        refine pw_iload rfl dX11_unpack_391 ?_
        refine pw_iconst 3 (by decide) dX11_unpack_393 ?_
        refine pw_icmp_ne 404 dX11_unpack_394 (by decide) (fun q => absurd (rfl) q) (fun _ => ?_)
        refine pw_aload_n rfl dX11_unpack_397 ?_
        refine pc_V0 dX11_unpack_398 lX11_242 rfl rfl (by decide) (Nat.le_of_ble_eq_true rfl) ?_
        refine m_readPrefix hO ho hB q1 hn0 hM hk (fun _ => rfl) ?_
        intro F' A' hf hM'
        refine pw_goto 419 dX11_unpack_401 (by decide) ?_
        exact hq F' A' _ hf hM'
      · rw [hp] at hq ⊢
        rw [if_neg (by decide), if_neg (by decide), if_neg (by decide), if_pos rfl] at hq
        refine pw_if_ne 378 dX11_unpack_346 (by decide) (fun _ => ?_) (fun q => absurd q ((by decide)))
        refine pw_iload rfl dX11_unpack_378 ?_
        refine pw_iconst 2 (by decide) dX11_unpack_380 ?_
        refine pw_icmp_ne 391 dX11_unpack_381 (by decide) (fun _ => ?_) (fun q => absurd q ((by decide)))
        refine pw_iload rfl dX11_unpack_391 ?_
        refine pw_iconst 3 (by decide) dX11_unpack_393 ?_
        refine pw_icmp_ne 404 dX11_unpack_394 (by decide) (fun _ => ?_) (fun q => absurd q ((by decide)))
        refine pw_aload_n rfl dX11_unpack_404 ?_
        refine pw_iload rfl dX11_unpack_405 ?_
        refine pw_iconst 4 (by decide) dX11_unpack_407 ?_
        refine pw_icmp_ne 415 dX11_unpack_408 (by decide) (fun q => absurd (rfl) q) (fun _ => ?_)
        refine pw_iconst 1 (by decide) dX11_unpack_411 ?_
        refine pw_goto 416 dX11_unpack_412 (by decide) ?_
        refine pc_V1 dX11_unpack_416 lX11_245 rfl rfl (by decide) (Nat.le_of_ble_eq_true rfl) ?_
        refine m_readItems (mt := true) hO ho hB q1 hn0 hM hk ?_
        intro F' A' hf hM'
        exact hq F' A' _ (frV_Z (frZ_G hf)) hM'
    · rw [if_neg (fun z => hn z.2)] at hq
      refine pw_if_le 419 dX11_unpack_341 (by decide) (fun _ => ?_) (fun q => absurd (nI_le (b := 0) (by omega) (by omega)) q)
      exact hq F A _ frV_r hM
  · rw [if_neg (fun z => h0 z.1)] at hq
    have := h6.1.1
    refine pw_if_ne 419 dX11_unpack_334 (by decide) (fun _ => ?_) (fun q => absurd q (nI_ne0 (by omega) (by omega)))
    exact hq F A _ frV_r hM
/-- the copy into the text -/
theorem umt_loop {n : Nat} {x1 x2 x3 x4 x5 x6 x7 x8 : Int32} {T : Nat → Int32} (hn : n ≤ 300) (hn0 : F 57 33 = nI n) (hT : same (A 63) T n) : ∀ (m i : Nat) (A' : Nat → Nat → Int32), i + m = n → (∀ y, ¬ y = 58 → A' y = A y) → same (A' 58) T i →
    (∀ A', (∀ y, ¬ y = 58 → A' y = A y) → same (A' 58) T n → Q (some (.int (nI n))) (HS F A' rf lo X)) →
    PW Γ mX11_unpack 505 [.ref 57, .int x1, .int x2, .int x3, .int x4, .int x5, .int x6, .int x7, .int x8, .int (nI i)] [] (HS F A' rf lo X) 0 0 Q := by
  intro m
  induction m with
  | zero =>
    intro i A' hi hA hs hq
    have hi2 : i = n := by omega
    subst hi2
    refine pw_iload rfl dX11_unpack_505 ?_
    refine pw_aload_n rfl dX11_unpack_507 ?_
    refine pw_gI dX11_unpack_508 fX11_226 (by first | rfl | assumption) rfl ?_
    rw [hn0]
    refine pw_icmp_ge 534 dX11_unpack_511 (by decide) (fun _ => ?_) (fun q => absurd (nI_le (Nat.le_refl _) (by omega)) q)
    refine pw_aload_n rfl dX11_unpack_534 ?_
    refine pw_gI dX11_unpack_535 fX11_226 (by first | rfl | assumption) rfl ?_
    rw [hn0]
    refine pw_iret dX11_unpack_538 (Or.inl rfl) ?_
    exact hq A' hA hs
  | succ m ih =>
    intro i A' hi hA hs hq
    refine pw_iload rfl dX11_unpack_505 ?_
    refine pw_aload_n rfl dX11_unpack_507 ?_
    refine pw_gI dX11_unpack_508 fX11_226 (by first | rfl | assumption) rfl ?_
    rw [hn0]
    refine pw_icmp_ge 534 dX11_unpack_511 (by decide) (fun q => absurd q (nI_ge (by omega) (by omega))) (fun _ => ?_)
    refine pw_aload_n rfl dX11_unpack_514 ?_
    refine pw_gC dX11_unpack_515 fX11_7 (by first | rfl | assumption) rfl (by first | rfl | assumption) ?_
    refine pw_iload rfl dX11_unpack_518 ?_
    refine pw_aload_n rfl dX11_unpack_520 ?_
    refine pw_gC dX11_unpack_521 fX11_25 (by first | rfl | assumption) rfl (by first | rfl | assumption) ?_
    refine pw_iload rfl dX11_unpack_524 ?_
    refine pw_aI dX11_unpack_526 (by first | rfl | assumption) (by first | assumption | exact vp_in_nI (by omega) (by omega)) ?_
    rw [nI_clamp (by omega), hA 63 (by omega), hT i (by omega)]
    refine pw_sI dX11_unpack_527 (by first | rfl | assumption) (by first | assumption | exact vp_in_nI (by omega) (by omega)) ?_
    refine ps_iinc (l' := [_, _, _, _, _, _, _, _, _, _]) 1 dX11_unpack_528 (by decide) rfl (by decide) rfl rfl ?_
    refine pw_goto 505 dX11_unpack_531 (by decide) ?_
    rw [nI_1, nI_clamp (by omega)]
    refine ih (i + 1) _ (by omega) (fun y hy => by rw [stA_n hy]; exact hA y hy) (fun j hj => ?_) hq
    rw [stA_s]
    by_cases h : j = i
    · rw [h, upd_s]
    · rw [upd_n h]; exact hs j (by omega)
end
