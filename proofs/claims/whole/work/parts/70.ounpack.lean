/-! the call unpack -/
theorem fls_z {O : Nat → Int32} {o : Nat} : ∀ (m : Nat) (r : RT) (i : Nat) (K V : Nat → Nat) (j : Nat), i + m ≤ j → (fls O o m r i K V).2.1 j = K j
  | 0, r, i, K, V, j => fun _ => rfl
  | m + 1, r, i, K, V, j => fun h => by
    unfold fls
    split
    · rw [fls_z m _ (i + 1) _ _ j (by omega), updN_n (by omega)]
    · rfl
theorem hdF_z {O : Nat → Int32} {o j : Nat} (h : hdM O o ≤ j) : (hdF O o).2.1 j = 0 := fls_z (O := O) (o := o) (min (hdM O o) 2) (hdA O o) 0 (fun _ => 0) (fun _ => 0) j (by omega)
theorem fok_pos {k v : Nat} (h : fok k v) : 0 < k ∧ k < 5 ∧ v < 256 := by unfold fok at h; omega
def unT (O : Nat → Int32) (o : Nat) : Nat → Int32 := unf (hdF O o).2.1 (hdF O o).2.2 (hdC O o) (hdM O o) (rbd O o).2.2
def unS (s : ST) : ST := ((if (ebd s.2.1.2 s.2.1.1).1 = 0 then (hdC s.2.1.2 s.2.1.1, unT s.2.1.2 s.2.1.1) else s.1), s.2.1, s.2.2.1, s.2.2.2.1, s.2.2.2.2.1, (if (ebd s.2.1.2 s.2.1.1).1 = 0 then -3 else nI (ebd s.2.1.2 s.2.1.1).2.1))
def unA (s : ST) : Int32 := if (ebd s.2.1.2 s.2.1.1).1 = 0 then nI (hdC s.2.1.2 s.2.1.1) else -10 - nI (ebd s.2.1.2 s.2.1.1).1
theorem CI_U {F A F' A' : Nat → Nat → Int32} {s : ST} {n : Nat} {T : Nat → Int32} {p : Int32} (h : CI F A s) (hF : ∀ i j, rcF i → ¬ i = 1 → ¬ (i = 0 ∧ j = 13) → F' i j = F i j) (hA : ∀ i, rcA i → ¬ i = 2 → A' i = A i) (hT : TX F' A' n T) (hp : F' 0 13 = p) : CI F' A' ((n, T), s.2.1, s.2.2.1, s.2.2.2.1, s.2.2.2.2.1, p) := by
  obtain ⟨a, b, c, d, e, f, g⟩ := h
  exact ⟨hT, OX_fr b (hF _ _ (by omega) (by omega) (by omega)) (hA _ (by omega) (by omega)), CH_fr (hF _ _ (by omega) (by omega) (by omega)) (hF _ _ (by omega) (by omega) (by omega)) (hA _ (by omega) (by omega)) (hA _ (by omega) (by omega)) (hA _ (by omega) (by omega)) c, CX_fr d (hF _ _ (by omega) (by omega) (by omega)) (hA _ (by omega) (by omega)), sm_fr e (hA _ (by omega) (by omega)), hp, BX_fr g (hF _ _ (by omega) (by omega) (by omega)) (hF _ _ (by omega) (by omega) (by omega))⟩
theorem MI_U {F A F' A' : Nat → Nat → Int32} {s : ST} {n : Nat} {T : Nat → Int32} {p : Int32} (h : MI F A s) (hF : ∀ j, rmF j → ¬ j = 1 → ¬ j = 28 → F' 57 j = F 57 j) (hA : ∀ i, rmA i → ¬ i = 58 → A' i = A i) (hT : TM F' A' n T) (hp : F' 57 28 = p) : MI F' A' ((n, T), s.2.1, s.2.2.1, s.2.2.2.1, s.2.2.2.2.1, p) := by
  obtain ⟨a, b, c, d, e, f⟩ := h
  exact ⟨hT, OM_fr b (hF _ (by omega) (by omega) (by omega)) (hA _ (by omega) (by omega)), CM_fr (hF _ (by omega) (by omega) (by omega)) (hF _ (by omega) (by omega) (by omega)) (hA _ (by omega) (by omega)) (hA _ (by omega) (by omega)) (hA _ (by omega) (by omega)) c, XM_fr d (hF _ (by omega) (by omega) (by omega)) (hA _ (by omega) (by omega)), sm_fr e (hA _ (by omega) (by omega)), hp⟩
section
variable {Γ : Nat × (Nat → Int32)} {F A : Nat → Nat → Int32} {lo : Int64} {X : PH} {Q : Option Value → PH → Prop} {o : Nat} {O : Nat → Int32} {rf : Nat}
theorem um_apply {n k v : Nat} {f : Nat → Int32} (hn : n ≤ 300) (hs : same (A 63) f n) (hB : isB f n) (hk : fok k v) (hQ : ∀ A', (∀ i, ¬ i = 63 → ¬ i = 64 → ¬ i = 71 → A' i = A i) → same (A' 63) (fun_ k v f n) n → Q none (HS F A' rf lo X)) : PM Γ mX11_apply [.ref 57, .int (nI k), .int (nI v), .int (nI n), .int 1] (HS F A rf lo X) 0 0 Q := by
  refine m_apply hn (same_B (same_sym hs) hB) hk true ?_
  intro o g f' hf'
  unfold AS
  refine hQ _ (fun i k1 k2 k3 => by rw [stA_n k1, stA_n k2, stA_n k3]) (fun j hj => ?_)
  rw [stA_s, hf' j hj, if_pos rfl]
  exact cg_fun hn hs hk hj
theorem um_end {x1 x6 x7 x8 : Int32} {g9 : Value} (hO : OM F A o O) (ho : o ≤ 1024) (hB : isB O o) (hn0 : F 57 33 = nI (hdC O o)) (hM : MB F A (rbd O o))
    (hbad : ∀ F', frN F F' → RM F' (ebd O o) → ¬ (ebd O o).1 = 0 → Q (some (.int (-10 - nI (ebd O o).1))) (HS F' A rf lo X))
    (hgood : ∀ F' A', (∀ i j, ¬ (i = 57 ∧ (j = 1 ∨ j = 27 ∨ j = 28 ∨ j = 31)) → F' i j = F i j) → (∀ i, ¬ i = 58 → ¬ i = 63 → ¬ i = 64 → ¬ i = 71 → A' i = A i) → RM F' (ebd O o) → (ebd O o).1 = 0 → F' 57 1 = nI (hdC O o) → same (A' 58) (unT O o) (hdC O o) → Q (some (.int (nI (hdC O o)))) (HS F' A' rf lo X)) :
    PW Γ mX11_unpack 419 [.ref 57, .int x1, .int (nI ((hdF O o).2.1 0)), .int (nI ((hdF O o).2.2 0)), .int (nI ((hdF O o).2.1 1)), .int (nI ((hdF O o).2.2 1)), .int x6, .int x7, .int x8, g9] [] (HS F A rf lo X) 0 0 Q := by
  have hbk := rbd_ok (O := O) hB
  have hek := ebd_ok (O := O) hB
  obtain ⟨hR, hg⟩ := id hM
  have fin : ∀ F1, frN F F1 → RM F1 (ebd O o) → PW Γ mX11_unpack 446 [.ref 57, .int x1, .int (nI ((hdF O o).2.1 0)), .int (nI ((hdF O o).2.2 0)), .int (nI ((hdF O o).2.1 1)), .int (nI ((hdF O o).2.2 1)), .int x6, .int x7, .int x8, g9] [] (HS F1 A rf lo X) 0 0 Q := by
    intro F1 hf1 hR1
    refine pw_aload_n rfl dX11_unpack_446 ?_
    refine pw_gI dX11_unpack_447 fX11_201 (by first | rfl | assumption) rfl ?_
    rw [hR1.1]
    by_cases h0 : (ebd O o).1 = 0
    · have h1 := (hek.2 h0).1
      have h2 := hbk.2 h1
      obtain ⟨q1, q2, q3, q4, q5⟩ := (hd6_ok hB).2 h2.1
      obtain ⟨e1, e2⟩ := hg h1
      have hfB := (hbk.1.2 h1).2
      rw [h2.2] at e1 e2 hfB
      have h33 : F1 57 33 = nI (hdC O o) := by rw [hf1 57 33 (by omega)]; exact hn0
      -- the text
      have text : ∀ (A3 : Nat → Nat → Int32), (∀ i, ¬ i = 63 → ¬ i = 64 → ¬ i = 71 → A3 i = A i) → same (A3 63) (unT O o) (hdC O o) → PW Γ mX11_unpack 494 [.ref 57, .int x1, .int (nI ((hdF O o).2.1 0)), .int (nI ((hdF O o).2.2 0)), .int (nI ((hdF O o).2.1 1)), .int (nI ((hdF O o).2.2 1)), .int x6, .int x7, .int x8, g9] [] (HS F1 A3 rf lo X) 0 0 Q := by
        intro A3 hA3 hs3
        refine pw_aload_n rfl dX11_unpack_494 ?_
        refine pw_aload_n rfl dX11_unpack_495 ?_
        refine pw_gI dX11_unpack_496 fX11_226 (by first | rfl | assumption) rfl ?_
        rw [h33]
        refine pw_pI dX11_unpack_499 fX11_72 (by first | rfl | assumption) rfl ⟨rfl, rfl⟩ ?_
        refine pw_iconst 0 (by decide) dX11_unpack_502 ?_
        refine ps_istore (l' := [_, _, _, _, _, _, _, _, _, _]) dX11_unpack_503 (by decide) rfl rfl ?_
        refine umt_loop (A := A3) q1 (by rw [upF_n (by omega)]; exact h33) hs3 (hdC O o) 0 A3 (by omega) (fun _ _ => rfl) (fun j hj => absurd hj (Nat.not_lt_zero _)) ?_
        intro A4 hA4 hs4
        refine hgood _ A4 (fun i j k => by rw [upF_n (by omega)]; exact hf1 i j (by omega)) (fun i k1 k2 k3 k4 => by rw [hA4 i k1]; exact hA3 i k2 k3 k4) (RM_up hR1 (by omega)) h0 upF_s hs4
      refine pw_if_eq 461 dX11_unpack_450 (by decide) (fun _ => ?_) (fun q => absurd (by rw [h0]; rfl) q)
      refine pw_iload rfl dX11_unpack_461 ?_
      have hu : unT O o = unf (hdF O o).2.1 (hdF O o).2.2 (hdC O o) (hdM O o) (rbd O o).2.2 := rfl
      rcases (show hdM O o = 0 ∨ hdM O o = 1 ∨ hdM O o = 2 by omega) with hm | hm | hm
      · rw [hm] at hu
        have z0 : nI ((hdF O o).2.1 0) = 0 := by rw [hdF_z (by omega)]; rfl
        have z1 : nI ((hdF O o).2.1 1) = 0 := by rw [hdF_z (by omega)]; rfl
        have key := text A (fun _ _ _ _ => rfl) (by rw [hu]; exact e2)
        rw [z0, z1] at key ⊢
        refine pw_if_le 479 dX11_unpack_463 (by decide) (fun _ => ?_) (fun q => absurd ((by decide)) q)
        refine pw_iload_n rfl dX11_unpack_479 ?_
        refine pw_if_le 494 dX11_unpack_480 (by decide) (fun _ => ?_) (fun q => absurd (by decide) q)
        exact key
      · rw [hm] at hu
        have z1 : nI ((hdF O o).2.1 1) = 0 := by rw [hdF_z (by omega)]; rfl
        have hk0 := q4 0 (by omega)
        have p0 := fok_pos hk0
        rw [z1] at text ⊢
        refine pw_if_le 479 dX11_unpack_463 (by decide) (fun _ => ?_) (fun q => absurd ((by decide)) q)
        refine pw_iload_n rfl dX11_unpack_479 ?_
        refine pw_if_le 494 dX11_unpack_480 (by decide) (fun q => absurd q (nI_ge (a := 0) p0.1 (by omega))) (fun _ => ?_)
        refine pw_aload_n rfl dX11_unpack_483 ?_
        refine pw_iload_n rfl dX11_unpack_484 ?_
        refine pw_iload_n rfl dX11_unpack_485 ?_
        refine pw_aload_n rfl dX11_unpack_486 ?_
        refine pw_gI dX11_unpack_487 fX11_226 (by first | rfl | assumption) rfl ?_
        rw [h33]
        refine pw_iconst 1 (by decide) dX11_unpack_490 ?_
        refine pc_V4 dX11_unpack_491 lX11_161 rfl rfl (by decide) (Nat.le_of_ble_eq_true rfl) ?_
        refine um_apply q1 e2 hfB hk0 ?_
        intro A3 hA3 hs3
        exact text A3 hA3 (by rw [hu]; exact hs3)
      · rw [hm] at hu
        have hk0 := q4 0 (by omega)
        have hk1 := q4 1 (by omega)
        have p0 := fok_pos hk0
        have p1 := fok_pos hk1
        refine pw_if_le 479 dX11_unpack_463 (by decide) (fun q => absurd q (nI_ge (a := 0) p1.1 (by omega))) (fun _ => ?_)
        refine pw_aload_n rfl dX11_unpack_466 ?_
        refine pw_iload rfl dX11_unpack_467 ?_
        refine pw_iload rfl dX11_unpack_469 ?_
        refine pw_aload_n rfl dX11_unpack_471 ?_
        refine pw_gI dX11_unpack_472 fX11_226 (by first | rfl | assumption) rfl ?_
        rw [h33]
        refine pw_iconst 1 (by decide) dX11_unpack_475 ?_
        refine pc_V4 dX11_unpack_476 lX11_161 rfl rfl (by decide) (Nat.le_of_ble_eq_true rfl) ?_
        refine um_apply q1 e2 hfB hk1 ?_
        intro A3 hA3 hs3
        refine pw_iload_n rfl dX11_unpack_479 ?_
        refine pw_if_le 494 dX11_unpack_480 (by decide) (fun q => absurd q (nI_ge (a := 0) p0.1 (by omega))) (fun _ => ?_)
        refine pw_aload_n rfl dX11_unpack_483 ?_
        refine pw_iload_n rfl dX11_unpack_484 ?_
        refine pw_iload_n rfl dX11_unpack_485 ?_
        refine pw_aload_n rfl dX11_unpack_486 ?_
        refine pw_gI dX11_unpack_487 fX11_226 (by first | rfl | assumption) rfl ?_
        rw [h33]
        refine pw_iconst 1 (by decide) dX11_unpack_490 ?_
        refine pc_V4 dX11_unpack_491 lX11_161 rfl rfl (by decide) (Nat.le_of_ble_eq_true rfl) ?_
        refine um_apply q1 hs3 (fun_isB q1 hfB hk1) hk0 ?_
        intro A4 hA4 hs4
        exact text A4 (fun i k1 k2 k3 => by rw [hA4 i k1 k2 k3]; exact hA3 i k1 k2 k3) (by rw [hu]; exact hs4)
    · have := hek.1.1
      refine pw_if_eq 461 dX11_unpack_450 (by decide) (fun q => absurd q (nI_ne0 (by omega) (by omega))) (fun _ => ?_)
      refine pw_bipush (-10) (by decide) dX11_unpack_453 ?_
      refine pw_aload_n rfl dX11_unpack_455 ?_
      refine pw_gI dX11_unpack_456 fX11_201 (by first | rfl | assumption) rfl ?_
      rw [hR1.1]
      refine pw_isub dX11_unpack_459 ?_
      refine pw_iret dX11_unpack_460 (Or.inl rfl) ?_
      exact hbad F1 hf1 hR1 h0
  refine pw_aload_n rfl dX11_unpack_419 ?_
  refine pw_gI dX11_unpack_420 fX11_201 (by first | rfl | assumption) rfl ?_
  rw [hR.1]
  by_cases h1 : (rbd O o).1.1 = 0
  · have hat := hbk.1.1.2.1
    refine pw_if_ne 446 dX11_unpack_423 (by decide) (fun q => absurd (by rw [h1]; rfl) q) (fun _ => ?_)
    refine pw_aload_n rfl dX11_unpack_426 ?_
    refine pw_gI dX11_unpack_427 fX11_204 (by first | rfl | assumption) rfl ?_
    rw [(hR.2.1 h1).1]
    refine pw_aload_n rfl dX11_unpack_430 ?_
    refine pw_gI dX11_unpack_431 fX11_80 (by first | rfl | assumption) rfl ?_
    rw [hO.1]
    by_cases h2 : (rbd O o).1.2.2 < o
    · refine pw_icmp_ge 446 dX11_unpack_434 (by decide) (fun q => absurd q (nI_ge h2 (by omega))) (fun _ => ?_)
      refine pw_aload_n rfl dX11_unpack_437 ?_
      refine pw_iconst 3 (by decide) dX11_unpack_438 ?_
      refine pw_aload_n rfl dX11_unpack_439 ?_
      refine pw_gI dX11_unpack_440 fX11_204 (by first | rfl | assumption) rfl ?_
      rw [(hR.2.1 h1).1]
      refine pc_V2 dX11_unpack_443 lX11_207 rfl rfl (by decide) (Nat.le_of_ble_eq_true rfl) ?_
      refine m_fail (w := 3) hR hbk.1.1.1 (by omega) ?_
      intro F1 hf1 hR1
      rw [if_pos h1] at hR1
      refine fin F1 hf1 ?_
      unfold ebd
      rw [if_pos ⟨h1, h2⟩]
      exact hR1
    · refine pw_icmp_ge 446 dX11_unpack_434 (by decide) (fun _ => ?_) (fun q => absurd (nI_le (by omega) (by omega)) q)
      refine fin F frN_r ?_
      unfold ebd
      rw [if_neg (fun z => h2 z.2)]
      exact hR
  · have := hbk.1.1.1
    refine pw_if_ne 446 dX11_unpack_423 (by decide) (fun _ => ?_) (fun q => absurd q (nI_ne0 (by omega) (by omega)))
    refine fin F frN_r ?_
    unfold ebd
    rw [if_neg (fun z => h1 z.1)]
    exact hR
theorem o_unpack : OP Γ mX10_unpack mX11_unpack [.ref 0] [.ref 57] := by
  refine OP_of unS unA ?_ ?_ ?_
  · intro F A rf lo X Q s hO hI hQ
    obtain ⟨t1, ox, c, _, _, _, g⟩ := id hI
    obtain ⟨_, _, ho, hB, _⟩ := id hO
    have hek := ebd_ok hB
    unfold unS unA at hQ
    obtain ⟨O, hOd⟩ : ∃ O, O = s.2.1.2 := ⟨_, rfl⟩
    obtain ⟨o, hod⟩ : ∃ o, o = s.2.1.1 := ⟨_, rfl⟩
    rw [← hOd, ← hod] at hQ ox hek hB
    rw [← hod] at ho
    refine PM.go (l := [_, .float 0]) rfl rfl (Nat.le_of_ble_eq_true rfl) rfl ?_
    refine pw_aload_n rfl dX10_unpack_0 ?_
    refine pw_gC dX10_unpack_1 fX10_54 (by first | rfl | assumption) rfl (by first | rfl | assumption) ?_
    refine pw_aload_n rfl dX10_unpack_4 ?_
    refine pw_gC dX10_unpack_5 fX10_18 (by first | rfl | assumption) rfl (by first | rfl | assumption) ?_
    refine pc_V1 dX10_unpack_8 lX10_196 rfl rfl (by decide) (Nat.le_of_ble_eq_true rfl) ?_
    refine c_readHead ox ho hB ?_
    intro F1 A1 hf1 hR1 h8 h9 h10 h2 h3 h49 hKV
    have ox1 : OX F1 A1 o O := OX_fr ox (hf1.1 3 1 (by omega) (by omega) (by omega)) (hf1.2 4 (by omega) (by omega))
    refine pw_aload_n rfl dX10_unpack_11 ?_
    refine pw_gC dX10_unpack_12 fX10_54 (by first | rfl | assumption) rfl (by first | rfl | assumption) ?_
    refine pc_V0 dX10_unpack_15 lX10_200 rfl rfl (by decide) (Nat.le_of_ble_eq_true rfl) ?_
    refine c_readBody ox1 ho hB hR1 h9 h10 h2 h3 h49 ?_
    intro F2 A2 hf2 hC2
    have ox2 := OX_U ox1 hf2
    refine pw_aload_n rfl dX10_unpack_18 ?_
    refine pw_gC dX10_unpack_19 fX10_54 (by first | rfl | assumption) rfl (by first | rfl | assumption) ?_
    refine pw_aload_n rfl dX10_unpack_22 ?_
    refine pw_gC dX10_unpack_23 fX10_14 (by first | rfl | assumption) rfl (by first | rfl | assumption) ?_
    refine pc_V1 dX10_unpack_26 lX10_203 rfl rfl (by decide) (Nat.le_of_ble_eq_true rfl) ?_
    refine c_finish ox2 ho hB hC2 (by rw [hf2.1 34 8 (by omega) (by omega) (by omega)]; exact h8) (fun z j hj => by rw [hf2.2 38 (by omega) (by omega) (by omega), hf2.2 39 (by omega) (by omega) (by omega)]; exact hKV z j hj) ?_
    intro F3 A3 hf3 hR3 hbad hgood
    have hall : ∀ i j, rcF i → ¬ i = 1 → F3 i j = F i j := fun i j k1 k2 => by rw [hf3.1 i j (by omega) (by omega) (by omega) (by omega), hf2.1 i j (by omega) (by omega) (by omega)]; exact hf1.1 i j (by omega) (by omega) (by omega)
    have hallA : ∀ i, rcA i → ¬ i = 2 → A3 i = A i := fun i k1 k2 => by rw [hf3.2 i (by omega) (by omega) (by omega) (by omega), hf2.2 i (by omega) (by omega) (by omega)]; exact hf1.2 i (by omega) (by omega)
    have hfC : frC F F3 A A3 := ⟨fun i j k => by rw [hf3.1 i j (by omega) (by omega) (by omega) (by omega), hf2.1 i j (by omega) (by omega) (by omega)]; exact hf1.1 i j (by omega) (by omega) (by omega), fun i k => by rw [hf3.2 i (by omega) (by omega) (by omega) (by omega), hf2.2 i (by omega) (by omega) (by omega)]; exact hf1.2 i (by omega) (by omega)⟩
    have hfC2 : ∀ v, frC F (upF F3 0 13 v) A A3 := fun v => ⟨fun i j k => by rw [upF_n (by omega)]; exact hfC.1 i j k, hfC.2⟩
    by_cases h0 : (ebd O o).1 = 0
    · obtain ⟨g1, g2⟩ := hgood h0
      rw [if_pos h0, if_pos h0, if_pos h0] at hQ
      refine ps_istore_n (l' := [_, _]) dX10_unpack_29 (by decide) rfl rfl ?_
      refine pw_aload_n rfl dX10_unpack_30 ?_
      refine pw_iload_n rfl dX10_unpack_31 ?_
      refine pw_if_ne 40 dX10_unpack_32 (by decide) (fun q => absurd ((by rw [h0]; rfl)) q) (fun _ => ?_)
      refine pw_bipush (-3) (by decide) dX10_unpack_35 ?_
      refine pw_goto 47 dX10_unpack_37 (by decide) ?_
      refine pw_pI dX10_unpack_47 fX10_76 (by first | rfl | assumption) rfl ⟨rfl, rfl⟩ ?_
      refine pw_iload_n rfl dX10_unpack_50 ?_
      refine pw_if_ne 64 dX10_unpack_51 (by decide) (fun q => absurd ((by rw [h0]; rfl)) q) (fun _ => ?_)
      refine pw_aload_n rfl dX10_unpack_54 ?_
      refine pw_gC dX10_unpack_55 fX10_14 (by first | rfl | assumption) rfl (by first | rfl | assumption) ?_
      refine pc_V0 dX10_unpack_58 lX10_86 rfl rfl (by decide) (Nat.le_of_ble_eq_true rfl) ?_
      refine c_count row1 ?_
      rw [upF_n (by omega), g1]
      refine pw_goto 68 dX10_unpack_61 (by decide) ?_
      refine pw_iret dX10_unpack_68 (Or.inl rfl) ?_
      refine hQ _ A3 3 (hfC2 _) (CI_U hI (fun i j k1 k2 k3 => by rw [upF_n k3]; exact hall i j k1 k2) hallA ⟨by rw [upF_n (by omega)]; exact g1, g2⟩ upF_s)
    · obtain ⟨g1, g2⟩ := hbad h0
      have h4 := hek.1.1
      rw [if_neg h0, if_neg h0, if_neg h0] at hQ
      refine ps_istore_n (l' := [_, _]) dX10_unpack_29 (by decide) rfl rfl ?_
      refine pw_aload_n rfl dX10_unpack_30 ?_
      refine pw_iload_n rfl dX10_unpack_31 ?_
      refine pw_if_ne 40 dX10_unpack_32 (by decide) (fun _ => ?_) (fun q => absurd q (nI_ne0 (by omega) (by omega)))
      refine pw_aload_n rfl dX10_unpack_40 ?_
      refine pw_gC dX10_unpack_41 fX10_54 (by first | rfl | assumption) rfl (by first | rfl | assumption) ?_
      refine pc_V0 dX10_unpack_44 lX10_206 rfl rfl (by decide) (Nat.le_of_ble_eq_true rfl) ?_
      refine PM.go (l := [_]) rfl rfl (Nat.le_of_ble_eq_true rfl) rfl ?_
      refine pw_aload_n rfl dX9_faultPlace_0 ?_
      refine pw_gC dX9_faultPlace_1 fX9_12 (by first | rfl | assumption) rfl (by first | rfl | assumption) ?_
      refine pc_V0 dX9_faultPlace_4 lX9_64 rfl rfl (by decide) (Nat.le_of_ble_eq_true rfl) ?_
      refine PM.go (l := [_]) rfl rfl (Nat.le_of_ble_eq_true rfl) rfl ?_
      refine pw_aload_n rfl dX5_faultPlace_0 ?_
      refine pw_gI dX5_faultPlace_1 fX5_33 (by first | rfl | assumption) rfl ?_
      refine pw_iret dX5_faultPlace_4 (Or.inl rfl) ?_
      rw [hR3.2.2 h0]
      refine pw_iret dX9_faultPlace_7 (Or.inl rfl) ?_
      refine pw_pI dX10_unpack_47 fX10_76 (by first | rfl | assumption) rfl ⟨rfl, rfl⟩ ?_
      refine pw_iload_n rfl dX10_unpack_50 ?_
      refine pw_if_ne 64 dX10_unpack_51 (by decide) (fun _ => ?_) (fun q => absurd q (nI_ne0 (by omega) (by omega)))
      refine pw_bipush (-10) (by decide) dX10_unpack_64 ?_
      refine pw_iload_n rfl dX10_unpack_66 ?_
      refine pw_isub dX10_unpack_67 ?_
      refine pw_iret dX10_unpack_68 (Or.inl rfl) ?_
      refine hQ _ A3 3 (hfC2 _) (CI_U hI (fun i j k1 k2 k3 => by rw [upF_n k3]; exact hall i j k1 k2) hallA ?_ upF_s)
      exact TX_fr t1 (by rw [upF_n (by omega), g1, hf2.1 1 1 (by omega) (by omega) (by omega)]; exact hf1.1 1 1 (by omega) (by omega) (by omega)) (by rw [g2, hf2.2 2 (by omega) (by omega) (by omega)]; exact hf1.2 2 (by omega) (by omega))
  · intro F A rf lo X Q s hO hI hQ
    obtain ⟨t1, om, c, _⟩ := id hI
    obtain ⟨_, _, ho, hB, _⟩ := id hO
    have hek := ebd_ok hB
    unfold unS unA at hQ
    obtain ⟨O, hOd⟩ : ∃ O, O = s.2.1.2 := ⟨_, rfl⟩
    obtain ⟨o, hod⟩ : ∃ o, o = s.2.1.1 := ⟨_, rfl⟩
    rw [← hOd, ← hod] at hQ om hek hB
    rw [← hod] at ho
    refine PM.go (l := [_, .float 0, .float 0, .float 0, .float 0, .float 0, .float 0, .float 0, .float 0, .float 0]) rfl rfl (Nat.le_of_ble_eq_true rfl) rfl ?_
    refine pw_aload_n rfl dX11_unpack_0 ?_
    refine pw_iconst 0 (by decide) dX11_unpack_1 ?_
    refine pw_pI dX11_unpack_2 fX11_65 (by first | rfl | assumption) rfl ⟨rfl, rfl⟩ ?_
    refine pw_aload_n rfl dX11_unpack_5 ?_
    refine pw_iconst 0 (by decide) dX11_unpack_6 ?_
    refine pw_pI dX11_unpack_7 fX11_201 (by first | rfl | assumption) rfl ⟨rfl, rfl⟩ ?_
    refine pw_aload_n rfl dX11_unpack_10 ?_
    refine pw_bipush (-3) (by decide) dX11_unpack_11 ?_
    refine pw_pI dX11_unpack_13 fX11_58 (by first | rfl | assumption) rfl ⟨rfl, rfl⟩ ?_
    refine pw_aload_n rfl dX11_unpack_16 ?_
    refine pw_iconst 0 (by decide) dX11_unpack_17 ?_
    refine pw_pI dX11_unpack_18 fX11_204 (by first | rfl | assumption) rfl ⟨rfl, rfl⟩ ?_
    refine pw_aload_n rfl dX11_unpack_21 ?_
    refine pw_iconst 0 (by decide) dX11_unpack_22 ?_
    refine pw_pI dX11_unpack_23 fX11_216 (by first | rfl | assumption) rfl ⟨rfl, rfl⟩ ?_
    obtain ⟨F1, hF1⟩ : ∃ F1, F1 = upF (upF (upF (upF (upF F 57 0 0) 57 27 0) 57 28 (-3)) 57 31 0) 57 32 0 := ⟨_, rfl⟩
    rw [← hF1]
    have hf1 : ∀ i j, ¬ (i = 57 ∧ (j = 0 ∨ j = 27 ∨ j = 28 ∨ j = 31 ∨ j = 32)) → F1 i j = F i j := fun i j k => by rw [hF1, upF_n (by omega), upF_n (by omega), upF_n (by omega), upF_n (by omega), upF_n (by omega)]
    have h32 : F1 57 32 = 0 := by rw [hF1, upF_s]
    have hR1 : RM F1 hd0 := ⟨by rw [hF1, upF_n (by omega), upF_n (by omega), upF_n (by omega), upF_s]; rfl, fun _ => ⟨by rw [hF1, upF_n (by omega), upF_s]; rfl, by rw [hF1, upF_n (by omega), upF_n (by omega), upF_s]⟩, fun z => absurd rfl z⟩
    have om1 : OM F1 A o O := OM_fr om (hf1 57 3 (by omega)) rfl
    refine um_head rfl rfl om1 ho hB hR1 ?_
    intro F2 x7 x8 hf2 hR2 h33
    have om2 : OM F2 A o O := OM_fr om1 (hf2 57 3 (by omega)) rfl
    refine um_body om2 ho hB hR2 h33 (by rw [hf2 57 32 (by omega)]; exact h32) ?_
    intro F3 A3 p hf3 hM3
    refine um_end (OM_V om2 hf3) ho hB (by rw [hf3.1 57 33 (by omega)]; exact h33) hM3 ?_ ?_
    · intro F4 hf4 hR4 h0
      rw [if_neg h0, if_neg h0, if_neg h0] at hQ
      have hall : ∀ i j, ¬ (i = 57 ∧ (j = 0 ∨ j = 27 ∨ j = 28 ∨ j = 31 ∨ j = 32 ∨ j = 33 ∨ j = 34)) → F4 i j = F i j := fun i j k => by rw [hf4 i j (by omega), hf3.1 i j (by omega), hf2 i j (by omega)]; exact hf1 i j (by omega)
      refine hQ F4 A3 ⟨fun i j k => hall i j (by omega), fun i k => hf3.2 i (by omega) (by omega) (by omega) (by omega)⟩ (MI_U hI (fun j k1 k2 k3 => hall 57 j (by omega)) (fun i k1 k2 => hf3.2 i (by omega) (by omega) (by omega) (by omega)) ?_ (hR4.2.2 h0))
      exact TM_fr t1 (hall 57 1 (by omega)) (hf3.2 58 (by omega) (by omega) (by omega) (by omega))
    · intro F4 A4 hf4 hA4 hR4 h0 h1 hs4
      rw [if_pos h0, if_pos h0, if_pos h0] at hQ
      have hall : ∀ i j, ¬ (i = 57 ∧ (j = 0 ∨ j = 1 ∨ j = 27 ∨ j = 28 ∨ j = 31 ∨ j = 32 ∨ j = 33 ∨ j = 34)) → F4 i j = F i j := fun i j k => by rw [hf4 i j (by omega), hf3.1 i j (by omega), hf2 i j (by omega)]; exact hf1 i j (by omega)
      refine hQ F4 A4 ⟨fun i j k => hall i j (by omega), fun i k => by rw [hA4 i (by omega) (by omega) (by omega) (by omega)]; exact hf3.2 i (by omega) (by omega) (by omega) (by omega)⟩ (MI_U hI (fun j k1 k2 k3 => hall 57 j (by omega)) (fun i k1 k2 => by rw [hA4 i (by omega) (by omega) (by omega) (by omega)]; exact hf3.2 i (by omega) (by omega) (by omega) (by omega)) ⟨h1, hs4⟩ (hR4.2.1 h0).2)
  · intro s F A hO _
    obtain ⟨k1, k2, ho, hB, k5⟩ := hO
    have hek := ebd_ok hB
    have hbk := rbd_ok hB
    refine ⟨?_, ?_, ho, hB, k5⟩
    · show (if (ebd s.2.1.2 s.2.1.1).1 = 0 then (hdC s.2.1.2 s.2.1.1, unT s.2.1.2 s.2.1.1) else s.1).1 ≤ 300
      by_cases h0 : (ebd s.2.1.2 s.2.1.1).1 = 0
      · rw [if_pos h0]
        exact ((hd6_ok hB).2 (hbk.2 (hek.2 h0).1).1).1
      · rw [if_neg h0]; exact k1
    · show isB (if (ebd s.2.1.2 s.2.1.1).1 = 0 then (hdC s.2.1.2 s.2.1.1, unT s.2.1.2 s.2.1.1) else s.1).2 (if (ebd s.2.1.2 s.2.1.1).1 = 0 then (hdC s.2.1.2 s.2.1.1, unT s.2.1.2 s.2.1.1) else s.1).1
      by_cases h0 : (ebd s.2.1.2 s.2.1.1).1 = 0
      · rw [if_pos h0]
        have h1 := (hek.2 h0).1
        have h2 := hbk.2 h1
        obtain ⟨q1, q2, q3, q4, q5⟩ := (hd6_ok hB).2 h2.1
        have hfB := (hbk.1.2 h1).2
        rw [h2.2] at hfB
        exact (unf_ok q1 (hdM s.2.1.2 s.2.1.1) _ _ q4 hfB (fun _ _ => rfl)).1
      · rw [if_neg h0]; exact k2
end
