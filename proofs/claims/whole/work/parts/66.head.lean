/-! what stands before the packed bytes: pure; the object's begin, readFilters, readHead -/
def no9 (t : Nat ⊕ (Nat × List (Option Nat))) : Bool := match t with
  | .inl _ => true
  | .inr o => o.2.all (fun x => x != some 999)
theorem no9_all : (List.range 74).all (fun j => j == 35 || (match shp[j]? with | some t => no9 t | none => true)) = true := by decide
theorem shp_len : shp.length = 74 := rfl
theorem no9_at {j : Nat} {t : Nat ⊕ (Nat × List (Option Nat))} (h : ¬ j = 35) (ht : shp[j]? = some t) : no9 t = true := by
  have hl : j < 74 := by have := (List.getElem?_eq_some_iff.mp ht).1; rw [shp_len] at this; exact this
  have h1 := List.all_eq_true.mp no9_all j (List.mem_range.mpr hl)
  rw [ht] at h1
  have h2 : (j == 35) = false := by simp [h]
  rw [h2] at h1
  exact h1
theorem sc_rf {F A : Nat → Nat → Int32} {rf rf' j : Nat} (t : Nat ⊕ (Nat × List (Option Nat))) (h : no9 t = true) : scell F A rf' j t = scell F A rf j t := by
  cases t with
  | inl n => rfl
  | inr o =>
    have key : o.2.mapIdx (fun k x => sval F rf' j k x) = o.2.mapIdx (fun k x => sval F rf j k x) := by
      apply List.ext_getElem?
      intro k
      rw [List.getElem?_mapIdx, List.getElem?_mapIdx]
      cases hk : o.2[k]? with
      | none => rfl
      | some x =>
        have hx : (x != some 999) = true := List.all_eq_true.mp h x (List.mem_of_getElem? hk)
        cases x with
        | none => rfl
        | some y =>
          have hy : (y == 999) = false := by
            cases hb : (y == 999) with
            | false => rfl
            | true =>
              rw [beq_iff_eq.mp hb] at hx
              exact absurd hx (by decide)
          show some (Value.ref (if y == 999 then rf' else y)) = some (Value.ref (if y == 999 then rf else y))
          rw [hy]; rfl
    show Sum.inr (o.1, o.2.mapIdx (fun k x => sval F rf' j k x)) = Sum.inr (o.1, o.2.mapIdx (fun k x => sval F rf j k x))
    rw [key]
theorem HS_setw {F A F' A' : Nat → Nat → Int32} {rf rf' : Nat} {lo : Int64} {X : PH} {i : Nat} {s : Nat ⊕ (Nat × List (Option Nat))} {e : PE} (h : shp[i]? = some s) (he : e = scell F' A' rf' i s) (ho : ∀ j t, ¬ j = i → shp[j]? = some t → scell F' A' rf' j t = scell F A rf j t) : (HS F A rf lo X).set i e = HS F' A' rf' lo X := HSg_set h he ho
def fkR (O : Nat → Int32) (o : Nat) (r : RT) : RT := if 1 ≤ nxV O o r ∧ nxV O o r ≤ 4 then nxS o r else blm 1 (nxS o r)
def fvR (O : Nat → Int32) (o : Nat) (r : RT) : RT := if tkI (nI (nxV O o r)) (nI (nxV O o (fkR O o r))) = 0 then blm 1 (nxS o (fkR O o r)) else nxS o (fkR O o r)
def fls (O : Nat → Int32) (o : Nat) : Nat → RT → Nat → (Nat → Nat) → (Nat → Nat) → RT × (Nat → Nat) × (Nat → Nat)
  | 0, r, _, K, V => (r, K, V)
  | m + 1, r, i, K, V => if r.1 = 0 then fls O o m (fvR O o r) (i + 1) (updN K i (nxV O o r)) (updN V i (nxV O o (fkR O o r))) else (r, K, V)
theorem fls_f {O : Nat → Int32} {o m i : Nat} {r : RT} {K V : Nat → Nat} (h : ¬ r.1 = 0) : fls O o m r i K V = (r, K, V) := by
  cases m with
  | zero => rfl
  | succ m => unfold fls; rw [if_neg h]
theorem fkR_f {O : Nat → Int32} {o : Nat} {r : RT} (h : ¬ r.1 = 0) : fkR O o r = r := by
  unfold fkR
  rw [nxS_f h, blm_f h]
  split <;> rfl
theorem fvR_f {O : Nat → Int32} {o : Nat} {r : RT} (h : ¬ r.1 = 0) : fvR O o r = r := by
  unfold fvR
  rw [fkR_f h, nxS_f h, blm_f h]
  split <;> rfl
theorem fkR_ok {O : Nat → Int32} {o : Nat} {r : RT} (h : rok o r) : rok o (fkR O o r) ∧ ((fkR O o r).1 = 0 → r.1 = 0) := by
  unfold fkR
  split
  · exact ⟨nxS_rok h, fun h2 => (nxS_0 h2).1⟩
  · exact ⟨blm_rok (nxS_rok h) (by omega), fun h2 => absurd h2 (blm_0 (by omega))⟩
theorem fvR_ok {O : Nat → Int32} {o : Nat} {r : RT} (hB : isB O o) (h : rok o r) : rok o (fvR O o r) ∧ ((fvR O o r).1 = 0 → r.1 = 0 ∧ fok (nxV O o r) (nxV O o (fkR O o r)) ∧ 1 ≤ (fvR O o r).2.2) := by
  have hk := fkR_ok (O := O) h
  unfold fvR
  by_cases h1 : tkI (nI (nxV O o r)) (nI (nxV O o (fkR O o r))) = 0
  · rw [if_pos h1]
    exact ⟨blm_rok (nxS_rok hk.1) (by omega), fun h2 => absurd h2 (blm_0 (by omega))⟩
  · rw [if_neg h1]
    refine ⟨nxS_rok hk.1, fun h2 => ?_⟩
    obtain ⟨z1, z2, z3⟩ := nxS_0 h2
    obtain ⟨a, b, e1, e2, hf⟩ := tkI_ok h1
    have v1 := nxV_lt hB (o := o) (r := r)
    have v2 := nxV_lt hB (o := o) (r := fkR O o r)
    have ha : a < 5 := by unfold fok at hf; omega
    have hb : b < 256 := by unfold fok at hf; omega
    have k1 := nI_inj (by omega) (by omega) e1
    have k2 := nI_inj (by omega) (by omega) e2
    refine ⟨hk.2 z1, by rw [k1, k2]; exact hf, by rw [z3]; show 1 ≤ (fkR O o r).2.2 + 1; omega⟩
theorem fls_ok {O : Nat → Int32} {o : Nat} (hB : isB O o) : ∀ (m : Nat) (r : RT) (i : Nat) (K V : Nat → Nat), rok o r → (r.1 = 0 → ∀ j, j < i → fok (K j) (V j)) → rok o (fls O o m r i K V).1 ∧ ((fls O o m r i K V).1.1 = 0 → r.1 = 0 ∧ ∀ j, j < i + m → fok ((fls O o m r i K V).2.1 j) ((fls O o m r i K V).2.2 j))
  | 0, r, i, K, V => fun h h1 => ⟨h, fun h2 => ⟨h2, h1 h2⟩⟩
  | m + 1, r, i, K, V => fun h h1 => by
    have hv := fvR_ok hB h
    unfold fls
    by_cases h0 : r.1 = 0
    · rw [if_pos h0]
      have ih := fls_ok hB m (fvR O o r) (i + 1) (updN K i (nxV O o r)) (updN V i (nxV O o (fkR O o r))) hv.1 (fun h2 j hj => by
        by_cases hji : j = i
        · rw [hji, updN_s, updN_s]; exact (hv.2 h2).2.1
        · rw [updN_n hji, updN_n hji]; exact h1 h0 j (by omega))
      refine ⟨ih.1, fun h2 => ⟨h0, fun j hj => (ih.2 h2).2 j (by omega)⟩⟩
    · rw [if_neg h0]
      exact ⟨h, fun h2 => absurd h2 h0⟩
/-- the head -/
def hd0 : RT := (0, 0, 0)
def hdM (O : Nat → Int32) (o : Nat) : Nat := nxV O o hd0
def hdA (O : Nat → Int32) (o : Nat) : RT := if hdM O o ≤ 2 then nxS o hd0 else blm 1 (nxS o hd0)
def hdF (O : Nat → Int32) (o : Nat) : RT × (Nat → Nat) × (Nat → Nat) := fls O o (min (hdM O o) 2) (hdA O o) 0 (fun _ => 0) (fun _ => 0)
def hdP (O : Nat → Int32) (o : Nat) : Nat := nxV O o (hdF O o).1
def hd3 (O : Nat → Int32) (o : Nat) : RT := if hdP O o ≤ 4 then nxS o (hdF O o).1 else blm 1 (nxS o (hdF O o).1)
def hdC (O : Nat → Int32) (o : Nat) : Nat := 256 * nxV O o (hd3 O o) + nxV O o (nxS o (hd3 O o))
def hd6 (O : Nat → Int32) (o : Nat) : RT := if hdC O o ≤ 300 then nxS o (nxS o (hd3 O o)) else blm 1 (nxS o (nxS o (hd3 O o)))
theorem hd0_ok {o : Nat} : rok o hd0 := ⟨Nat.zero_le _, Nat.zero_le _, Nat.zero_le _⟩
theorem hdA_ok {O : Nat → Int32} {o : Nat} : rok o (hdA O o) ∧ ((hdA O o).1 = 0 → hdM O o ≤ 2) := by
  unfold hdA
  by_cases h : hdM O o ≤ 2
  · rw [if_pos h]; exact ⟨nxS_rok hd0_ok, fun _ => h⟩
  · rw [if_neg h]; exact ⟨blm_rok (nxS_rok hd0_ok) (by omega), fun h2 => absurd h2 (blm_0 (by omega))⟩
theorem hdF_ok {O : Nat → Int32} {o : Nat} (hB : isB O o) : rok o (hdF O o).1 ∧ ((hdF O o).1.1 = 0 → hdM O o ≤ 2 ∧ ∀ j, j < hdM O o → fok ((hdF O o).2.1 j) ((hdF O o).2.2 j)) := by
  have h := fls_ok hB (min (hdM O o) 2) (hdA O o) 0 (fun _ => 0) (fun _ => 0) hdA_ok.1 (fun _ j hj => by omega)
  refine ⟨h.1, fun h2 => ?_⟩
  have h3 := h.2 h2
  have h4 := hdA_ok.2 h3.1
  exact ⟨h4, fun j hj => h3.2 j (by omega)⟩
theorem hd3_ok {O : Nat → Int32} {o : Nat} (hB : isB O o) : rok o (hd3 O o) ∧ ((hd3 O o).1 = 0 → (hdF O o).1.1 = 0 ∧ hdP O o ≤ 4) := by
  unfold hd3
  by_cases h : hdP O o ≤ 4
  · rw [if_pos h]; exact ⟨nxS_rok (hdF_ok hB).1, fun h2 => ⟨(nxS_0 h2).1, h⟩⟩
  · rw [if_neg h]; exact ⟨blm_rok (nxS_rok (hdF_ok hB).1) (by omega), fun h2 => absurd h2 (blm_0 (by omega))⟩
theorem hd6_ok {O : Nat → Int32} {o : Nat} (hB : isB O o) : rok o (hd6 O o) ∧ ((hd6 O o).1 = 0 → hdC O o ≤ 300 ∧ hdP O o ≤ 4 ∧ hdM O o ≤ 2 ∧ (∀ j, j < hdM O o → fok ((hdF O o).2.1 j) ((hdF O o).2.2 j)) ∧ 1 ≤ (hd6 O o).2.2) := by
  have h3 := hd3_ok hB
  unfold hd6
  by_cases h : hdC O o ≤ 300
  · rw [if_pos h]
    refine ⟨nxS_rok (nxS_rok h3.1), fun h2 => ?_⟩
    obtain ⟨z1, z2, z3⟩ := nxS_0 h2
    have h4 := h3.2 (nxS_0 z1).1
    have h5 := (hdF_ok hB).2 h4.1
    exact ⟨h, h4.2, h5.1, h5.2, by rw [z3]; show 1 ≤ (nxS o (hd3 O o)).2.2 + 1; omega⟩
  · rw [if_neg h]
    exact ⟨blm_rok (nxS_rok (nxS_rok h3.1)) (by omega), fun h2 => absurd h2 (blm_0 (by omega))⟩
def frJ (F F' A A' : Nat → Nat → Int32) : Prop := (∀ i j, ¬ i = 35 → ¬ (i = 34 ∧ (j = 8 ∨ j = 9 ∨ j = 10)) → ¬ (i = 49 ∧ j = 1) → F' i j = F i j) ∧ (∀ i, ¬ i = 38 → ¬ i = 39 → A' i = A i)
section
variable {Γ : Nat × (Nat → Int32)} {F A : Nat → Nat → Int32} {lo : Int64} {X : PH} {Q : Option Value → PH → Prop} {o : Nat} {O : Nat → Int32} {rf : Nat}
theorem pw_pR35 {M : MD} {pc : Nat} {l st : List Value} {bc bs idx : Nat} {ty : FieldType} (v : Nat) (hdg : decode (mcode M) pc = .ok (.putfield idx, 3)) (hf : pfl M.1.cls idx 5 0 false ty) (hn : ∀ i : Nat, narrow ty (.ref i) = .ref i ∧ fits ty (.ref i) = true) (kk : PW Γ M (pc + 3) l st (HS F A v lo X) bc bs Q) : PW Γ M pc l (.ref v :: .ref 35 :: st) (HS F A rf lo X) bc bs Q := by
  have he : shp[35]? = some (.inr (5, [some 999, none, none, none, none, none])) := rfl
  refine pw_putf hdg hf (HS_get he) (by rw [List.length_mapIdx]; decide) (hn v).1 (hn v).2 (fun σ base => hn (base + v)) ?_
  rw [HS_setw (F' := F) (A' := A) (rf' := v) he (by rfl) (fun j t hj ht => sc_rf t (no9_at hj ht))]
  exact kk
theorem c_begin (hQ : ∀ F', (∀ i j, ¬ i = 35 → F' i j = F i j) → RD F' hd0 → F' 35 2 = 0 → F' 35 3 = 0 → Q none (HS F' A 3 lo X)) : PM Γ mX5_begin [.ref 35, .ref 3] (HS F A rf lo X) 0 0 Q := by
  refine PM.go (l := [_, _]) rfl rfl (Nat.le_of_ble_eq_true rfl) rfl ?_
  refine pw_aload_n rfl dX5_begin_0 ?_
  refine pw_aload_n rfl dX5_begin_1 ?_
  refine pw_pR35 3 dX5_begin_2 fX5_14 (fun i => ⟨rfl, rfl⟩) ?_
  refine pw_aload_n rfl dX5_begin_5 ?_
  refine pw_iconst 0 (by decide) dX5_begin_6 ?_
  refine pw_pI dX5_begin_7 fX5_20 (by first | rfl | assumption) rfl ⟨rfl, rfl⟩ ?_
  refine pw_aload_n rfl dX5_begin_10 ?_
  refine pw_iconst 0 (by decide) dX5_begin_11 ?_
  refine pw_pI dX5_begin_12 fX5_24 (by first | rfl | assumption) rfl ⟨rfl, rfl⟩ ?_
  refine pw_aload_n rfl dX5_begin_15 ?_
  refine pw_iconst 0 (by decide) dX5_begin_16 ?_
  refine pw_pI dX5_begin_17 fX5_27 (by first | rfl | assumption) rfl ⟨rfl, rfl⟩ ?_
  refine pw_aload_n rfl dX5_begin_20 ?_
  refine pw_iconst 0 (by decide) dX5_begin_21 ?_
  refine pw_pI dX5_begin_22 fX5_30 (by first | rfl | assumption) rfl ⟨rfl, rfl⟩ ?_
  refine pw_aload_n rfl dX5_begin_25 ?_
  refine pw_iconst 0 (by decide) dX5_begin_26 ?_
  refine pw_pI dX5_begin_27 fX5_33 (by first | rfl | assumption) rfl ⟨rfl, rfl⟩ ?_
  refine pw_vret dX5_begin_30 rfl ?_
  refine hQ _ (fun i j hi => by rw [upF_n (by omega), upF_n (by omega), upF_n (by omega), upF_n (by omega), upF_n (by omega)]) ⟨?_, fun _ => ?_, fun z => absurd rfl z⟩ ?_ ?_
  · rw [upF_n (by omega), upF_s]; rfl
  · rw [upF_n (by omega), upF_n (by omega), upF_n (by omega), upF_n (by omega), upF_s]; rfl
  · rw [upF_n (by omega), upF_n (by omega), upF_n (by omega), upF_s]
  · rw [upF_n (by omega), upF_n (by omega), upF_s]
theorem c_isKind {h : PH} {k : Nat} (hk : k < 256) (hQ : Q (some (.int (if 1 ≤ k ∧ k ≤ 4 then 1 else 0))) h) : PM Γ mX2_isKind [.int (nI k)] h 0 0 Q := by
  refine PM.go (l := [_]) rfl rfl (Nat.le_of_ble_eq_true rfl) rfl ?_
  refine pw_iload_n rfl dX2_isKind_0 ?_
  refine pw_iconst 1 (by decide) dX2_isKind_1 ?_
  by_cases h1 : 1 ≤ k
  · refine pw_icmp_lt 14 dX2_isKind_2 (by decide) (fun q => absurd q (nI_nlt (b := 1) h1 (by omega))) (fun _ => ?_)
    refine pw_iload_n rfl dX2_isKind_5 ?_
    refine pw_iconst 4 (by decide) dX2_isKind_6 ?_
    by_cases h4 : k ≤ 4
    · rw [if_pos ⟨h1, h4⟩] at hQ
      refine pw_icmp_gt 14 dX2_isKind_7 (by decide) (fun q => absurd q (nI_nlt (a := 4) h4 (by omega))) (fun _ => ?_)
      refine pw_iconst 1 (by decide) dX2_isKind_10 ?_
      refine pw_goto 15 dX2_isKind_11 (by decide) ?_
      refine pw_iret dX2_isKind_15 (Or.inr ⟨rfl, rfl⟩) ?_
      exact hQ
    · rw [if_neg (fun z => h4 z.2)] at hQ
      refine pw_icmp_gt 14 dX2_isKind_7 (by decide) (fun _ => ?_) (fun q => absurd (nI_lt (a := 4) (by omega) (by omega)) q)
      refine pw_iconst 0 (by decide) dX2_isKind_14 ?_
      refine pw_iret dX2_isKind_15 (Or.inr ⟨rfl, rfl⟩) ?_
      exact hQ
  · rw [if_neg (fun z => h1 z.1)] at hQ
    refine pw_icmp_lt 14 dX2_isKind_2 (by decide) (fun _ => ?_) (fun q => absurd (nI_lt (b := 1) (by omega) (by omega)) q)
    refine pw_iconst 0 (by decide) dX2_isKind_14 ?_
    refine pw_iret dX2_isKind_15 (Or.inr ⟨rfl, rfl⟩) ?_
    exact hQ
theorem uch_loop {M : Nat} (hM : M < 256) (hO : OX F A o O) (ho : o ≤ 1024) (hB : isB O o) (h8 : F 34 8 = nI M) : ∀ (m i : Nat) (r : RT) (K V : Nat → Nat) (F' A' : Nat → Nat → Int32), i + m = min M 2 → frR F F' → (∀ i, ¬ i = 38 → ¬ i = 39 → A' i = A i) → RD F' r → rok o r → (r.1 = 0 → ∀ j, j < i → A' 38 j = nI (K j) ∧ A' 39 j = nI (V j)) →
    (∀ F' A' x, frR F F' → (∀ i, ¬ i = 38 → ¬ i = 39 → A' i = A i) → RD F' (fls O o m r i K V).1 → ((fls O o m r i K V).1.1 = 0 → ∀ j, j < min M 2 → A' 38 j = nI ((fls O o m r i K V).2.1 j) ∧ A' 39 j = nI ((fls O o m r i K V).2.2 j)) → PW Γ mX9_readFilters 120 [.ref 34, .int x] [] (HS F' A' 3 lo X) 0 0 Q) →
    PW Γ mX9_readFilters 29 [.ref 34, .int (nI i)] [] (HS F' A' 3 lo X) 0 0 Q := by
  intro m
  induction m with
  | zero =>
    intro i r K V F' A' hi hfr hA hR hk hKV hq
    have hKV2 : r.1 = 0 → ∀ j, j < min M 2 → A' 38 j = nI (K j) ∧ A' 39 j = nI (V j) := fun h j hj => hKV h j (by omega)
    refine pw_iload_n rfl dX9_readFilters_29 ?_
    refine pw_aload_n rfl dX9_readFilters_30 ?_
    refine pw_gI dX9_readFilters_31 fX9_54 (by first | rfl | assumption) rfl ?_
    rw [hfr 34 8 (by omega), h8]
    by_cases hiM : i < M
    · refine pw_icmp_ge 120 dX9_readFilters_34 (by decide) (fun q => absurd q (nI_ge hiM (by omega))) (fun _ => ?_)
      refine pw_iload_n rfl dX9_readFilters_37 ?_
      refine pw_iconst 2 (by decide) dX9_readFilters_38 ?_
      refine pw_icmp_ge 120 dX9_readFilters_39 (by decide) (fun _ => ?_) (fun q => absurd (nI_le (a := 2) (by omega) (by omega)) q)
      exact hq F' A' _ hfr hA hR hKV2
    · refine pw_icmp_ge 120 dX9_readFilters_34 (by decide) (fun _ => ?_) (fun q => absurd (nI_le (by omega) (by omega)) q)
      exact hq F' A' _ hfr hA hR hKV2
  | succ m ih =>
    intro i r K V F' A' hi hfr hA hR hk hKV hq
    have hv := nxV_lt hB (o := o) (r := r)
    have hkk := fkR_ok (O := O) hk
    have hvk := fvR_ok hB hk
    have hv2 := nxV_lt hB (o := o) (r := fkR O o r)
    refine pw_iload_n rfl dX9_readFilters_29 ?_
    refine pw_aload_n rfl dX9_readFilters_30 ?_
    refine pw_gI dX9_readFilters_31 fX9_54 (by first | rfl | assumption) rfl ?_
    rw [hfr 34 8 (by omega), h8]
    refine pw_icmp_ge 120 dX9_readFilters_34 (by decide) (fun q => absurd q (nI_ge (by omega) (by omega))) (fun _ => ?_)
    refine pw_iload_n rfl dX9_readFilters_37 ?_
    refine pw_iconst 2 (by decide) dX9_readFilters_38 ?_
    refine pw_icmp_ge 120 dX9_readFilters_39 (by decide) (fun q => absurd q (nI_ge (b := 2) (by omega) (by omega))) (fun _ => ?_)
    refine pw_aload_n rfl dX9_readFilters_42 ?_
    refine pw_gC dX9_readFilters_43 fX9_18 (by first | rfl | assumption) rfl (by first | rfl | assumption) ?_
    refine pw_iload_n rfl dX9_readFilters_46 ?_
    refine pw_aload_n rfl dX9_readFilters_47 ?_
    refine pw_gC dX9_readFilters_48 fX9_12 (by first | rfl | assumption) rfl (by first | rfl | assumption) ?_
    refine pc_V0 dX9_readFilters_51 lX9_78 rfl rfl (by decide) (Nat.le_of_ble_eq_true rfl) ?_
    refine c_next (OX_fr hO (hfr _ _ (by omega)) (hA _ (by omega) (by omega))) ho hB hR hk ?_
    intro F1 hf1 hR1
    have hkn := nxS_rok hk
    refine pw_sI dX9_readFilters_54 (by first | rfl | assumption) (by first | assumption | exact vp_in_nI (by omega) (by omega)) ?_
    refine pw_aload_n rfl dX9_readFilters_55 ?_
    refine pw_gC dX9_readFilters_56 fX9_18 (by first | rfl | assumption) rfl (by first | rfl | assumption) ?_
    refine pw_iload_n rfl dX9_readFilters_59 ?_
    refine pw_aI dX9_readFilters_60 (by first | rfl | assumption) (by first | assumption | exact vp_in_nI (by omega) (by omega)) ?_
    rw [nI_clamp (by omega), stA_s, upd_s]
    refine pc_S1 dX9_readFilters_61 lX9_84 (by decide) (Nat.le_of_ble_eq_true rfl) ?_
    refine c_isKind hv ?_
    -- the value
    have value : ∀ (F2 : Nat → Nat → Int32), frR F F2 → RD F2 (fkR O o r) → PW Γ mX9_readFilters 75 [.ref 34, .int (nI i)] [] (HS F2 (stA A' 38 (upd (A' 38) i (nI (nxV O o r)))) 3 lo X) 0 0 Q := by
      intro F2 hf2 hR2
      refine pw_aload_n rfl dX9_readFilters_75 ?_
      refine pw_gC dX9_readFilters_76 fX9_22 (by first | rfl | assumption) rfl (by first | rfl | assumption) ?_
      refine pw_iload_n rfl dX9_readFilters_79 ?_
      refine pw_aload_n rfl dX9_readFilters_80 ?_
      refine pw_gC dX9_readFilters_81 fX9_12 (by first | rfl | assumption) rfl (by first | rfl | assumption) ?_
      refine pc_V0 dX9_readFilters_84 lX9_78 rfl rfl (by decide) (Nat.le_of_ble_eq_true rfl) ?_
      refine c_next (OX_fr hO (hf2 _ _ (by omega)) (by rw [stA_n (by omega)]; exact hA _ (by omega) (by omega))) ho hB hR2 hkk.1 ?_
      intro F3 hf3 hR3
      refine pw_sI dX9_readFilters_87 (by first | rfl | assumption) (by first | assumption | exact vp_in_nI (by omega) (by omega)) ?_
      refine pw_aload_n rfl dX9_readFilters_88 ?_
      refine pw_gC dX9_readFilters_89 fX9_18 (by first | rfl | assumption) rfl (by first | rfl | assumption) ?_
      refine pw_iload_n rfl dX9_readFilters_92 ?_
      refine pw_aI dX9_readFilters_93 (by first | rfl | assumption) (by first | assumption | exact vp_in_nI (by omega) (by omega)) ?_
      refine pw_aload_n rfl dX9_readFilters_94 ?_
      refine pw_gC dX9_readFilters_95 fX9_22 (by first | rfl | assumption) rfl (by first | rfl | assumption) ?_
      refine pw_iload_n rfl dX9_readFilters_98 ?_
      refine pw_aI dX9_readFilters_99 (by first | rfl | assumption) (by first | assumption | exact vp_in_nI (by omega) (by omega)) ?_
      rw [nI_clamp (by omega), stA_s, upd_s, stA_n (by omega), stA_s, upd_s]
      refine pc_S2 dX9_readFilters_100 lX9_88 (by decide) (Nat.le_of_ble_eq_true rfl) ?_
      refine c_takes ?_
      have hf03 := frR_t hf2 hf3
      have fin : ∀ (F4 : Nat → Nat → Int32), frR F F4 → RD F4 (fvR O o r) → PW Γ mX9_readFilters 114 [.ref 34, .int (nI i)] [] (HS F4 (stA (stA A' 38 (upd (A' 38) i (nI (nxV O o r)))) 39 (upd (stA A' 38 (upd (A' 38) i (nI (nxV O o r))) 39) i (nI (nxV O o (fkR O o r))))) 3 lo X) 0 0 Q := by
        intro F4 hf4 hR4
        refine ps_iinc (l' := [_, _]) 1 dX9_readFilters_114 (by decide) rfl (by decide) rfl rfl ?_
        refine pw_goto 29 dX9_readFilters_117 (by decide) ?_
        rw [nI_1]
        have hA2 : ∀ i2, ¬ i2 = 38 → ¬ i2 = 39 → stA (stA A' 38 (upd (A' 38) i (nI (nxV O o r)))) 39 (upd (stA A' 38 (upd (A' 38) i (nI (nxV O o r))) 39) i (nI (nxV O o (fkR O o r)))) i2 = A i2 := fun i2 k1 k2 => by rw [stA_n k2, stA_n k1]; exact hA i2 k1 k2
        by_cases h0 : r.1 = 0
        · unfold fls at hq
          rw [if_pos h0] at hq
          refine ih (i + 1) (fvR O o r) _ _ F4 _ (by omega) hf4 hA2 hR4 hvk.1 (fun _ j hj => ?_) hq
          rw [stA_s, stA_n (by omega), stA_s, stA_n (by omega)]
          by_cases hji : j = i
          · rw [hji, upd_s, upd_s, updN_s, updN_s]
            exact ⟨rfl, rfl⟩
          · rw [upd_n hji, upd_n hji, updN_n hji, updN_n hji]
            exact hKV h0 j (by omega)
        · rw [fls_f h0] at hq
          rw [fvR_f h0] at hR4
          refine ih (i + 1) r K V F4 _ (by omega) hf4 hA2 hR4 hk (fun z => absurd z h0) ?_
          rw [fls_f h0]
          intro F5 A5 x k1 k2 k3 _
          exact hq F5 A5 x k1 k2 k3 (fun z => absurd z h0)
      by_cases ht : tkI (nI (nxV O o r)) (nI (nxV O o (fkR O o r))) = 0
      · rw [ht]
        refine pw_if_ne 114 dX9_readFilters_103 (by decide) (fun q => absurd (rfl) q) (fun _ => ?_)
        refine pw_aload_n rfl dX9_readFilters_106 ?_
        refine pw_gC dX9_readFilters_107 fX9_12 (by first | rfl | assumption) rfl (by first | rfl | assumption) ?_
        refine pw_iconst 1 (by decide) dX9_readFilters_110 ?_
        refine pc_V1 dX9_readFilters_111 lX9_81 rfl rfl (by decide) (Nat.le_of_ble_eq_true rfl) ?_
        refine c_blame (w := 1) hR3 (nxS_rok hkk.1).1 (by omega) (fun z => by rw [(nxS_0 z).2.2]; show 1 ≤ (fkR O o r).2.2 + 1; omega) ?_
        intro F4 hf4 hR4
        refine fin F4 (frR_t hf03 hf4) ?_
        unfold fvR
        rw [if_pos ht]
        exact hR4
      · refine pw_if_ne 114 dX9_readFilters_103 (by decide) (fun _ => ?_) (fun q => absurd q (ht))
        refine fin F3 hf03 ?_
        unfold fvR
        rw [if_neg ht]
        exact hR3
    by_cases h4 : 1 ≤ nxV O o r ∧ nxV O o r ≤ 4
    · rw [if_pos h4]
      refine pw_if_ne 75 dX9_readFilters_64 (by decide) (fun _ => ?_) (fun q => absurd q (by decide))
      refine value F1 (frR_t hfr hf1) ?_
      unfold fkR
      rw [if_pos h4]
      exact hR1
    · rw [if_neg h4]
      refine pw_if_ne 75 dX9_readFilters_64 (by decide) (fun q => absurd (rfl) q) (fun _ => ?_)
      refine pw_aload_n rfl dX9_readFilters_67 ?_
      refine pw_gC dX9_readFilters_68 fX9_12 (by first | rfl | assumption) rfl (by first | rfl | assumption) ?_
      refine pw_iconst 1 (by decide) dX9_readFilters_71 ?_
      refine pc_V1 dX9_readFilters_72 lX9_81 rfl rfl (by decide) (Nat.le_of_ble_eq_true rfl) ?_
      refine c_blame (w := 1) hR1 hkn.1 (by omega) (fun z => by rw [(nxS_0 z).2.2]; show 1 ≤ r.2.2 + 1; omega) ?_
      intro F2 hf2 hR2
      refine value F2 (frR_t hfr (frR_t hf1 hf2)) ?_
      unfold fkR
      rw [if_neg h4]
      exact hR2
theorem c_readFilters (hO : OX F A o O) (ho : o ≤ 1024) (hB : isB O o) (hR : RD F hd0) (hQ : ∀ F' A', (∀ i j, ¬ (i = 35 ∧ (j = 1 ∨ j = 4 ∨ j = 5)) → ¬ (i = 34 ∧ j = 8) → F' i j = F i j) → (∀ i, ¬ i = 38 → ¬ i = 39 → A' i = A i) → RD F' (hdF O o).1 → F' 34 8 = nI (hdM O o) → ((hdF O o).1.1 = 0 → ∀ j, j < hdM O o → A' 38 j = nI ((hdF O o).2.1 j) ∧ A' 39 j = nI ((hdF O o).2.2 j)) → Q none (HS F' A' 3 lo X)) : PM Γ mX9_readFilters [.ref 34] (HS F A 3 lo X) 0 0 Q := by
  have hv := nxV_lt hB (o := o) (r := hd0)
  have hMv : nxV O o hd0 = hdM O o := rfl
  rw [hMv] at hv
  refine PM.go (l := [_, .float 0]) rfl rfl (Nat.le_of_ble_eq_true rfl) rfl ?_
  refine pw_aload_n rfl dX9_readFilters_0 ?_
  refine pw_aload_n rfl dX9_readFilters_1 ?_
  refine pw_gC dX9_readFilters_2 fX9_12 (by first | rfl | assumption) rfl (by first | rfl | assumption) ?_
  refine pc_V0 dX9_readFilters_5 lX9_78 rfl rfl (by decide) (Nat.le_of_ble_eq_true rfl) ?_
  refine c_next hO ho hB hR hd0_ok ?_
  intro F1 hf1 hR1
  rw [hMv]
  refine pw_pI dX9_readFilters_8 fX9_54 (by first | rfl | assumption) rfl ⟨rfl, rfl⟩ ?_
  refine pw_aload_n rfl dX9_readFilters_11 ?_
  refine pw_gI dX9_readFilters_12 fX9_54 (by first | rfl | assumption) rfl ?_
  rw [upF_s]
  have hR2 : RD (upF F1 34 8 (nI (hdM O o))) (nxS o hd0) := ⟨by rw [upF_n (by omega)]; exact hR1.1, fun z => by rw [upF_n (by omega)]; exact hR1.2.1 z, fun z => by rw [upF_n (by omega)]; exact hR1.2.2 z⟩
  have go : ∀ F2, frR (upF F1 34 8 (nI (hdM O o))) F2 → RD F2 (hdA O o) → PW Γ mX9_readFilters 27 [.ref 34, .float 0] [] (HS F2 A 3 lo X) 0 0 Q := by
    intro F2 hf2 hR3
    have h8 : F2 34 8 = nI (hdM O o) := by rw [hf2 34 8 (by omega), upF_s]
    refine pw_iconst 0 (by decide) dX9_readFilters_27 ?_
    refine ps_istore_n (l' := [_, _]) dX9_readFilters_28 (by decide) rfl rfl ?_
    refine uch_loop (F := F2) (A := A) (M := hdM O o) hv (OX_fr hO (by rw [hf2 3 1 (by omega), upF_n (by omega)]; exact hf1 3 1 (by omega)) rfl) ho hB h8 (min (hdM O o) 2) 0 (hdA O o) (fun _ => 0) (fun _ => 0) F2 A (by omega) frR_r (fun _ _ _ => rfl) hR3 hdA_ok.1 (fun _ j hj => by omega) ?_
    intro F3 A3 x hf3 hA3 hR4 hKV
    refine pw_vret dX9_readFilters_120 rfl ?_
    refine hQ F3 A3 (fun i j k1 k2 => by rw [hf3 i j k1, hf2 i j k1, upF_n k2]; exact hf1 i j k1) hA3 hR4 (by rw [hf3 34 8 (by omega)]; exact h8) (fun z j hj => ?_)
    have hle := ((hdF_ok hB).2 z).1
    exact hKV z j (by omega)
  by_cases h2 : hdM O o ≤ 2
  · refine pw_iconst 2 (by decide) dX9_readFilters_15 ?_
    refine pw_icmp_le 27 dX9_readFilters_16 (by decide) (fun _ => ?_) (fun q => absurd (nI_le (b := 2) h2 (by omega)) q)
    refine go _ frR_r ?_
    unfold hdA
    rw [if_pos h2]
    exact hR2
  · refine pw_iconst 2 (by decide) dX9_readFilters_15 ?_
    refine pw_icmp_le 27 dX9_readFilters_16 (by decide) (fun q => absurd q (nI_ge (a := 2) (by omega) (by omega))) (fun _ => ?_)
    refine pw_aload_n rfl dX9_readFilters_19 ?_
    refine pw_gC dX9_readFilters_20 fX9_12 (by first | rfl | assumption) rfl (by first | rfl | assumption) ?_
    refine pw_iconst 1 (by decide) dX9_readFilters_23 ?_
    refine pc_V1 dX9_readFilters_24 lX9_81 rfl rfl (by decide) (Nat.le_of_ble_eq_true rfl) ?_
    refine c_blame (w := 1) hR2 (nxS_rok hd0_ok).1 (by omega) (fun z => by rw [(nxS_0 z).2.2]; show 1 ≤ 0 + 1; omega) ?_
    intro F2 hf2 hR3
    refine go F2 hf2 ?_
    unfold hdA
    rw [if_neg h2]
    exact hR3
theorem RD_up {F : Nat → Nat → Int32} {r : RT} {i k : Nat} {v : Int32} (h : RD F r) (hi : ¬ i = 35) : RD (upF F i k v) r := ⟨by rw [upF_n (by omega)]; exact h.1, fun z => by rw [upF_n (by omega)]; exact h.2.1 z, fun z => by rw [upF_n (by omega)]; exact h.2.2 z⟩
theorem c_readHead (hO : OX F A o O) (ho : o ≤ 1024) (hB : isB O o) (hQ : ∀ F' A', frJ F F' A A' → RD F' (hd6 O o) → F' 34 8 = nI (hdM O o) → F' 34 9 = nI (hdP O o) → F' 34 10 = nI (hdC O o) → F' 35 2 = 0 → F' 35 3 = 0 → F' 49 1 = 0 → ((hd6 O o).1 = 0 → ∀ j, j < hdM O o → A' 38 j = nI ((hdF O o).2.1 j) ∧ A' 39 j = nI ((hdF O o).2.2 j)) → Q none (HS F' A' 3 lo X)) : PM Γ mX9_readHead [.ref 34, .ref 3] (HS F A rf lo X) 0 0 Q := by
  have hF0 := hdF_ok (O := O) hB
  have h30 := hd3_ok (O := O) hB
  have hvp := nxV_lt hB (o := o) (r := (hdF O o).1)
  have hP : nxV O o (hdF O o).1 = hdP O o := rfl
  rw [hP] at hvp
  have hv3 := nxV_lt hB (o := o) (r := hd3 O o)
  have hv4 := nxV_lt hB (o := o) (r := nxS o (hd3 O o))
  refine PM.go (l := [_, _, .float 0]) rfl rfl (Nat.le_of_ble_eq_true rfl) rfl ?_
  refine pw_aload_n rfl dX9_readHead_0 ?_
  refine pw_gC dX9_readHead_1 fX9_12 (by first | rfl | assumption) rfl (by first | rfl | assumption) ?_
  refine pw_aload_n rfl dX9_readHead_4 ?_
  refine pc_V1 dX9_readHead_5 lX9_68 rfl rfl (by decide) (Nat.le_of_ble_eq_true rfl) ?_
  refine c_begin ?_
  intro F1 hf1 hR1 h12 h13
  refine pw_aload_n rfl dX9_readHead_8 ?_
  refine pw_gC dX9_readHead_9 fX9_47 (by first | rfl | assumption) rfl (by first | rfl | assumption) ?_
  refine pc_V0 dX9_readHead_12 lX9_72 rfl rfl (by decide) (Nat.le_of_ble_eq_true rfl) ?_
  refine c_empty row49 ?_
  refine pw_aload_n rfl dX9_readHead_15 ?_
  refine pc_V0 dX9_readHead_16 lX9_75 rfl rfl (by decide) (Nat.le_of_ble_eq_true rfl) ?_
  refine c_readFilters (OX_fr hO (by rw [upF_n (by omega)]; exact hf1 3 1 (by omega)) rfl) ho hB (RD_up hR1 (by omega)) ?_
  intro F2 A2 hf2 hA2 hR2 h28 hKV
  have hO2 : OX F2 A2 o O := OX_fr hO (by rw [hf2 3 1 (by omega) (by omega), upF_n (by omega)]; exact hf1 3 1 (by omega)) (hA2 4 (by omega) (by omega))
  refine pw_aload_n rfl dX9_readHead_19 ?_
  refine pw_aload_n rfl dX9_readHead_20 ?_
  refine pw_gC dX9_readHead_21 fX9_12 (by first | rfl | assumption) rfl (by first | rfl | assumption) ?_
  refine pc_V0 dX9_readHead_24 lX9_78 rfl rfl (by decide) (Nat.le_of_ble_eq_true rfl) ?_
  refine c_next hO2 ho hB hR2 hF0.1 ?_
  intro F3 hf3 hR3
  rw [hP]
  refine pw_pI dX9_readHead_27 fX9_58 (by first | rfl | assumption) rfl ⟨rfl, rfl⟩ ?_
  refine pw_aload_n rfl dX9_readHead_30 ?_
  refine pw_gI dX9_readHead_31 fX9_58 (by first | rfl | assumption) rfl ?_
  rw [upF_s]
  have hR3' := RD_up (i := 34) (k := 9) (v := nI (hdP O o)) hR3 (by omega)
  have go : ∀ F4, frR (upF F3 34 9 (nI (hdP O o))) F4 → RD F4 (hd3 O o) → PW Γ mX9_readHead 46 [.ref 34, .ref 3, .float 0] [] (HS F4 A2 3 lo X) 0 0 Q := by
    intro F4 hf4 hR4
    have hO4 : OX F4 A2 o O := OX_fr hO2 (by rw [hf4 3 1 (by omega), upF_n (by omega)]; exact hf3 3 1 (by omega)) rfl
    refine pw_aload_n rfl dX9_readHead_46 ?_
    refine pw_gC dX9_readHead_47 fX9_12 (by first | rfl | assumption) rfl (by first | rfl | assumption) ?_
    refine pc_V0 dX9_readHead_50 lX9_78 rfl rfl (by decide) (Nat.le_of_ble_eq_true rfl) ?_
    refine c_next hO4 ho hB hR4 h30.1 ?_
    intro F5 hf5 hR5
    have hO5 : OX F5 A2 o O := OX_fr hO4 (hf5 3 1 (by omega)) rfl
    refine ps_istore_n (l' := [_, _, _]) dX9_readHead_53 (by decide) rfl rfl ?_
    refine pw_aload_n rfl dX9_readHead_54 ?_
    refine pw_iload_n rfl dX9_readHead_55 ?_
    refine pw_bipush 8 (by decide) dX9_readHead_56 ?_
    refine pw_ishl dX9_readHead_58 ?_
    refine pw_aload_n rfl dX9_readHead_59 ?_
    refine pw_gC dX9_readHead_60 fX9_12 (by first | rfl | assumption) rfl (by first | rfl | assumption) ?_
    rw [show nI (nxV O o (hd3 O o)) <<< ((8 : Int32) &&& 31) = nI (nxV O o (hd3 O o) * 2 ^ 8) from nI_shl (k := 8) (by omega) (by omega)]
    refine pc_V0 dX9_readHead_63 lX9_78 rfl rfl (by decide) (Nat.le_of_ble_eq_true rfl) ?_
    refine c_next hO5 ho hB hR5 (nxS_rok h30.1) ?_
    intro F6 hf6 hR6
    have hor : nxV O o (hd3 O o) * 2 ^ 8 ||| nxV O o (nxS o (hd3 O o)) = hdC O o := by
      rw [Nat.mul_comm]
      exact (Nat.two_pow_add_eq_or_of_lt (i := 8) hv4 (nxV O o (hd3 O o))).symm
    refine pw_ior dX9_readHead_66 ?_
    rw [nI_or, hor]
    refine pw_pI dX9_readHead_67 fX9_61 (by first | rfl | assumption) rfl ⟨rfl, rfl⟩ ?_
    refine pw_aload_n rfl dX9_readHead_70 ?_
    refine pw_gI dX9_readHead_71 fX9_61 (by first | rfl | assumption) rfl ?_
    rw [upF_s]
    have hc : hdC O o < 70000 := by unfold hdC; omega
    have hR6' := RD_up (i := 34) (k := 10) (v := nI (hdC O o)) hR6 (by omega)
    have hall : ∀ i j, ¬ i = 35 → ¬ (i = 34 ∧ (j = 8 ∨ j = 9 ∨ j = 10)) → ¬ (i = 49 ∧ j = 1) → F6 i j = F i j := by
      intro i j k1 k2 k3
      rw [hf6 i j (by omega), hf5 i j (by omega), hf4 i j (by omega), upF_n (by omega), hf3 i j (by omega), hf2 i j (by omega) (by omega), upF_n k3]
      exact hf1 i j k1
    have h35 : ∀ j, ¬ (j = 1 ∨ j = 4 ∨ j = 5) → F6 35 j = F1 35 j := by
      intro j hj
      rw [hf6 35 j (by omega), hf5 35 j (by omega), hf4 35 j (by omega), upF_n (by omega), hf3 35 j (by omega), hf2 35 j (by omega) (by omega), upF_n (by omega)]
    have h49 : F6 49 1 = 0 := by rw [hf6 49 1 (by omega), hf5 49 1 (by omega), hf4 49 1 (by omega), upF_n (by omega), hf3 49 1 (by omega), hf2 49 1 (by omega) (by omega), upF_s]
    have h8 : F6 34 8 = nI (hdM O o) := by rw [hf6 34 8 (by omega), hf5 34 8 (by omega), hf4 34 8 (by omega), upF_n (by omega), hf3 34 8 (by omega)]; exact h28
    have h9 : F6 34 9 = nI (hdP O o) := by rw [hf6 34 9 (by omega), hf5 34 9 (by omega), hf4 34 9 (by omega), upF_s]
    have fin : ∀ F7, frR (upF F6 34 10 (nI (hdC O o))) F7 → RD F7 (hd6 O o) → Q none (HS F7 A2 3 lo X) := by
      intro F7 hf7 hR7
      refine hQ F7 A2 ⟨fun i j k1 k2 k3 => by rw [hf7 i j (by omega), upF_n (by omega)]; exact hall i j k1 k2 k3, hA2⟩ hR7 (by rw [hf7 34 8 (by omega), upF_n (by omega)]; exact h8) (by rw [hf7 34 9 (by omega), upF_n (by omega)]; exact h9) (by rw [hf7 34 10 (by omega), upF_s]) (by rw [hf7 35 2 (by omega), upF_n (by omega), h35 2 (by omega)]; exact h12) (by rw [hf7 35 3 (by omega), upF_n (by omega), h35 3 (by omega)]; exact h13) (by rw [hf7 49 1 (by omega), upF_n (by omega)]; exact h49) (fun z j hj => hKV ?_ j hj)
      have z1 : (nxS o (nxS o (hd3 O o))).1 = 0 := by
        unfold hd6 at z
        by_cases h : hdC O o ≤ 300
        · rw [if_pos h] at z; exact z
        · rw [if_neg h] at z; exact absurd z (blm_0 (by omega))
      exact (h30.2 (nxS_0 (nxS_0 z1).1).1).1
    by_cases hc3 : hdC O o ≤ 300
    · refine pw_sipush 300 (by decide) dX9_readHead_74 ?_
      refine pw_icmp_le 88 dX9_readHead_77 (by decide) (fun _ => ?_) (fun q => absurd (nI_le (b := 300) hc3 (by omega)) q)
      refine pw_vret dX9_readHead_88 rfl ?_
      refine fin _ frR_r ?_
      unfold hd6
      rw [if_pos hc3]
      exact hR6'
    · refine pw_sipush 300 (by decide) dX9_readHead_74 ?_
      refine pw_icmp_le 88 dX9_readHead_77 (by decide) (fun q => absurd q (nI_ge (a := 300) (by omega) (by omega))) (fun _ => ?_)
      refine pw_aload_n rfl dX9_readHead_80 ?_
      refine pw_gC dX9_readHead_81 fX9_12 (by first | rfl | assumption) rfl (by first | rfl | assumption) ?_
      refine pw_iconst 1 (by decide) dX9_readHead_84 ?_
      refine pc_V1 dX9_readHead_85 lX9_81 rfl rfl (by decide) (Nat.le_of_ble_eq_true rfl) ?_
      refine c_blame (w := 1) hR6' (nxS_rok (nxS_rok h30.1)).1 (by omega) (fun z => by rw [(nxS_0 z).2.2]; show 1 ≤ (nxS o (hd3 O o)).2.2 + 1; omega) ?_
      intro F7 hf7 hR7
      refine pw_vret dX9_readHead_88 rfl ?_
      refine fin F7 hf7 ?_
      unfold hd6
      rw [if_neg hc3]
      exact hR7
  by_cases h4 : hdP O o ≤ 4
  · refine pw_iconst 4 (by decide) dX9_readHead_34 ?_
    refine pw_icmp_le 46 dX9_readHead_35 (by decide) (fun _ => ?_) (fun q => absurd (nI_le (b := 4) h4 (by omega)) q)
    refine go _ frR_r ?_
    unfold hd3
    rw [if_pos h4]
    exact hR3'
  · refine pw_iconst 4 (by decide) dX9_readHead_34 ?_
    refine pw_icmp_le 46 dX9_readHead_35 (by decide) (fun q => absurd q (nI_ge (a := 4) (by omega) (by omega))) (fun _ => ?_)
    refine pw_aload_n rfl dX9_readHead_38 ?_
    refine pw_gC dX9_readHead_39 fX9_12 (by first | rfl | assumption) rfl (by first | rfl | assumption) ?_
    refine pw_iconst 1 (by decide) dX9_readHead_42 ?_
    refine pc_V1 dX9_readHead_43 lX9_81 rfl rfl (by decide) (Nat.le_of_ble_eq_true rfl) ?_
    refine c_blame (w := 1) hR3' (nxS_rok hF0.1).1 (by omega) (fun z => by rw [(nxS_0 z).2.2]; show 1 ≤ (hdF O o).1.2.2 + 1; omega) ?_
    intro F4 hf4 hR4
    refine go F4 hf4 ?_
    unfold hd3
    rw [if_neg h4]
    exact hR4
end
