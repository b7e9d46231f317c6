/-! a text packed by CHAIN x: pure; the object's filtered and writeHead -/
def flt1 (k g : Nat) (K V : Nat → Nat) (T : Nat → Int32) (n : Nat) : Nat → Int32 := if 0 < g then fmk (K (f1 k g)) (V (f1 k g)) T n else T
def flt (k g : Nat) (K V : Nat → Nat) (T : Nat → Int32) (n : Nat) : Nat → Int32 := if k < g then fmk (K (f2 k g)) (V (f2 k g)) (flt1 k g K V T n) n else flt1 k g K V T n
def hd1 (k g : Nat) (K V : Nat → Nat) : List Int32 := if 0 < g then [nI (K (f1 k g)), nI (V (f1 k g))] else []
def hd2 (k g : Nat) (K V : Nat → Nat) : List Int32 := if k < g then [nI (K (f2 k g)), nI (V (f2 k g))] else []
/-- the head -/
def hdl (n k P : Nat) (K V PK : Nat → Nat) (x : Nat) : List Int32 := nI (nfi k (x / P)) :: (hd1 k (x / P) K V ++ (hd2 k (x / P) K V ++ [nI (PK (x % P)), nI (n / 256), nI (n % 256)]))
/-- all of it -/
def pkl (n : Nat) (T : Nat → Int32) (k P : Nat) (K V PK : Nat → Nat) (x : Nat) : List Int32 := pbody (PK (x % P)) (flt k (x / P) K V T n) n (hdl n k P K V PK x)
theorem hdl_len {n k P : Nat} {K V PK : Nat → Nat} {x : Nat} : (hdl n k P K V PK x).length ≤ 8 := by
  unfold hdl hd1 hd2
  rw [List.length_cons, List.length_append, List.length_append]
  (repeat' split) <;> simp
section
variable {Γ : Nat × (Nat → Int32)} {F A : Nat → Nat → Int32} {rf : Nat} {lo : Int64} {X : PH} {Q : Option Value → PH → Prop} {k P n x t : Nat} {K V PK : Nat → Nat} {T : Nat → Int32}
theorem flt1_B {g : Nat} (hn : n ≤ 300) (hB : isB T n) (hk : k < 5) (hg : g < 1 + k + k * (k - 1)) (hf : ∀ i, i < k → fok (K i) (V i)) : isB (flt1 k g K V T n) n := by
  unfold flt1
  split
  · rename_i h0
    intro j hj
    exact fmk_B hn hB (hf _ ((f_ok k hk g hg).1 h0).1) hj
  · exact hB
theorem flt_B {g : Nat} (hn : n ≤ 300) (hB : isB T n) (hk : k < 5) (hg : g < 1 + k + k * (k - 1)) (hf : ∀ i, i < k → fok (K i) (V i)) : isB (flt k g K V T n) n := by
  unfold flt
  split
  · rename_i h0
    intro j hj
    exact fmk_B hn (flt1_B hn hB hk hg hf) (hf _ ((f_ok k hk g hg).2.1 h0).2.1) hj
  · exact flt1_B hn hB hk hg hf
theorem pkl_ok (hn : n ≤ 300) (hB : isB T n) (hk : k < 5) (hP : 0 < P) (hf : ∀ i, i < k → fok (K i) (V i)) (hpk : ∀ i, i < P → PK i < 5) (hx : x < nch k P) : lB (pkl n T k P K V PK x) ∧ (pkl n T k P K V PK x).length ≤ 1000 := by
  have hg := grp_lt hP hx
  have hl := hdl_len (n := n) (k := k) (P := P) (K := K) (V := V) (PK := PK) (x := x)
  have hm := hpk _ (Nat.mod_lt x hP)
  have hhd : lB (hdl n k P K V PK x) := by
    unfold hdl hd1 hd2
    refine lB_cons (by unfold nfi; (repeat' split) <;> omega) (lB_app ?_ (lB_app ?_ (lB_cons (by omega) (lB_cons (by omega) (lB_cons (by omega) lB_nil)))))
    · split
      · rename_i h0
        have := fok_lt (hf _ ((f_ok k hk _ hg).1 h0).1)
        exact lB_cons (by omega) (lB_cons this.2 lB_nil)
      · exact lB_nil
    · split
      · rename_i h0
        have := fok_lt (hf _ ((f_ok k hk _ hg).2.1 h0).2.1)
        exact lB_cons (by omega) (lB_cons this.2 lB_nil)
      · exact lB_nil
  have h := lB_pbody (q := PK (x % P)) (flt_B hn hB hk hg hf) hn hhd
  exact ⟨h.1, by unfold pkl; omega⟩
def TX (F A : Nat → Nat → Int32) (n : Nat) (T : Nat → Int32) : Prop := F 1 1 = nI n ∧ same (A 2) T n
theorem CH_fr {F' A' : Nat → Nat → Int32} (h2 : F' 11 2 = F 11 2) (h4 : F' 11 4 = F 11 4) (a12 : A' 12 = A 12) (a13 : A' 13 = A 13) (a14 : A' 14 = A 14) (h : CH F A k P K V PK) : CH F' A' k P K V PK := by
  obtain ⟨p1, p2, p3, p4, p5, p6, p7, p8⟩ := h
  refine ⟨by rw [h2]; exact p1, p2, by rw [h4]; exact p3, p4, p5, ?_, ?_, p8⟩
  · rw [a12, a13]; exact p6
  · rw [a14]; exact p7
theorem fil15 : isFil 15 16 := ⟨rfl, rfl, rfl⟩
theorem c_filtered (hT : TX F A n T) (hn : n ≤ 300) (hB : isB T n) (hC : CH F A k P K V PK) (hx : x < nch k P)
    (hQ : ∀ r F' A', (r = 1 ∨ r = 7 ∨ r = 9) → F' r 1 = nI n → same (A' (r + 1)) (flt k (x / P) K V T n) n → (∀ i j, ¬ (i = 7 ∧ j = 1) → ¬ (i = 9 ∧ j = 1) → F' i j = F i j) → (∀ i, ¬ i = 8 → ¬ i = 10 → ¬ i = 16 → A' i = A i) → Q (some (.ref r)) (HS F' A' rf lo X)) : PM Γ mX10_filtered [.ref 0, .int (nI x)] (HS F A rf lo X) 0 0 Q := by
  obtain ⟨t1, t2⟩ := hT
  obtain ⟨p1, p2, p3, p4, p5, p6, p7, p8⟩ := id hC
  have hg := grp_lt p4 hx
  have hok := f_ok k p2 (x / P) hg
  have hfk : ∀ i, i < k → fok (K i) (V i) := fun i hi => (p6 i hi).2.2
  have hfB := flt1_B hn hB p2 hg hfk
  clear hg p1 p3 p5 p6 p7 p8
  obtain ⟨g, hgd⟩ : ∃ g, g = x / P := ⟨_, rfl⟩
  rw [← hgd] at hQ hok hfB
  -- the second FILTER
  have second : ∀ (r : Nat) (x3 : Int32) (F1 A1 : Nat → Nat → Int32), (r = 1 ∨ r = 7) → F1 r 1 = nI n → same (A1 (r + 1)) (flt1 k g K V T n) n → (∀ i j, ¬ (i = 7 ∧ j = 1) → F1 i j = F i j) → (∀ i, ¬ i = 8 → ¬ i = 16 → A1 i = A i) →
      PW Γ mX10_filtered 54 [.ref 0, .int (nI x), .ref r, .int x3, .float 0] [] (HS F1 A1 rf lo X) 0 0 Q := by
    intro r x3 F1 A1 hr hF1 hA1 hFf hAf
    have hC1 : CH F1 A1 k P K V PK := CH_fr (hFf _ _ (by omega)) (hFf _ _ (by omega)) (hAf _ (by omega) (by omega)) (hAf _ (by omega) (by omega)) (hAf _ (by omega) (by omega)) hC
    have hB1 : isB (A1 (r + 1)) n := same_B (same_sym hA1) hfB
    have hr3 : r = 1 ∨ r = 7 ∨ r = 9 := hr.elim Or.inl (fun h => Or.inr (Or.inl h))
    have hr' : isRow r (r + 1) 300 := row_in hr3
    refine pw_aload_n rfl dX10_filtered_54 ?_
    refine pw_gC dX10_filtered_55 fX10_33 (by first | rfl | assumption) rfl (by first | rfl | assumption) ?_
    refine pw_iload_n rfl dX10_filtered_58 ?_
    refine pw_iconst 1 (by decide) dX10_filtered_59 ?_
    refine pc_V2 dX10_filtered_60 lX10_146 rfl rfl (by decide) (Nat.le_of_ble_eq_true rfl) ?_
    refine c_filterOf1 hC1 hx ?_
    rw [← hgd]
    clear hgd hx
    by_cases hgk : k < g
    · obtain ⟨o1, o2, o3⟩ := hok.2.1 hgk
      have hfl : flt k g K V T n = fmk (K (f2 k g)) (V (f2 k g)) (flt1 k g K V T n) n := by
        unfold flt
        rw [if_pos hgk]
      rw [o3]
      refine ps_istore (l' := [_, _, _, _, _]) dX10_filtered_63 (by decide) rfl rfl ?_
      refine pw_iload rfl dX10_filtered_65 ?_
      refine pw_bipush (-3) (by decide) dX10_filtered_67 ?_
      refine pw_icmp_eq 107 dX10_filtered_69 (by decide) (fun q => absurd q (nI_ne3 (by omega))) (fun _ => ?_)
      refine pw_aload_n rfl dX10_filtered_72 ?_
      refine pw_gC dX10_filtered_73 fX10_40 (by first | rfl | assumption) rfl (by first | rfl | assumption) ?_
      refine pw_aload_n rfl dX10_filtered_76 ?_
      refine pw_gC dX10_filtered_77 fX10_33 (by first | rfl | assumption) rfl (by first | rfl | assumption) ?_
      refine pw_iload rfl dX10_filtered_80 ?_
      refine pc_V1 dX10_filtered_82 lX10_208 rfl rfl (by decide) (Nat.le_of_ble_eq_true rfl) ?_
      refine c_kindOf hC1 o2 ?_
      refine pw_aload_n rfl dX10_filtered_85 ?_
      refine pw_gC dX10_filtered_86 fX10_33 (by first | rfl | assumption) rfl (by first | rfl | assumption) ?_
      refine pw_iload rfl dX10_filtered_89 ?_
      refine pc_V1 dX10_filtered_91 lX10_211 rfl rfl (by decide) (Nat.le_of_ble_eq_true rfl) ?_
      refine c_valueOf hC1 o2 ?_
      refine pw_aload_n rfl dX10_filtered_94 ?_
      refine pw_aload_n rfl dX10_filtered_95 ?_
      refine pw_gC dX10_filtered_96 fX10_27 (by first | rfl | assumption) rfl (by first | rfl | assumption) ?_
      refine pc_V4 dX10_filtered_99 lX10_214 rfl rfl (by decide) (Nat.le_of_ble_eq_true rfl) ?_
      refine c_make fil15 hr' (row_in (r := 9) (Or.inr (Or.inr rfl))) (by omega) (by omega) (by omega) (by omega) hF1 hn hn hn hB1 (hfk _ o2) ?_
      intro g' o hgo
      unfold TS
      refine pw_aload_n rfl dX10_filtered_102 ?_
      refine pw_gC dX10_filtered_103 fX10_27 (by first | rfl | assumption) rfl (by first | rfl | assumption) ?_
      refine ps_astore_n (l' := [_, _, _, _, _]) dX10_filtered_106 (by decide) rfl rfl ?_
      refine pw_aload_n rfl dX10_filtered_107 ?_
      refine pw_aret dX10_filtered_108 rfl ?_
      refine hQ 9 _ _ (Or.inr (Or.inr rfl)) upF_s (fun j hj => ?_) (fun i j k1 k2 => by rw [upF_n k2]; exact hFf i j k1) (fun i k1 k2 k3 => by rw [stA_n k2, stA_n k3]; exact hAf i k1 k3)
      show stA (stA A1 16 o) 10 g' 10 j = _
      rw [stA_s, hgo j hj, hfl]
      exact cg_fmk hn hA1 (hfk _ o2) hj
    · have hfl : flt k g K V T n = flt1 k g K V T n := by
        unfold flt
        rw [if_neg hgk]
      rw [hok.2.2.2 (by omega)]
      refine ps_istore (l' := [_, _, _, _, _]) dX10_filtered_63 (by decide) rfl rfl ?_
      refine pw_iload rfl dX10_filtered_65 ?_
      refine pw_bipush (-3) (by decide) dX10_filtered_67 ?_
      refine pw_icmp_eq 107 dX10_filtered_69 (by decide) (fun _ => ?_) (fun q => absurd (rfl) q)
      refine pw_aload_n rfl dX10_filtered_107 ?_
      refine pw_aret dX10_filtered_108 rfl ?_
      refine hQ r F1 A1 hr3 hF1 (by rw [hfl]; exact hA1) (fun i j k1 _ => hFf i j k1) (fun i k1 _ k3 => hAf i k1 k3)
  refine PM.go (l := [_, _, .float 0, .float 0, .float 0]) rfl rfl (Nat.le_of_ble_eq_true rfl) rfl ?_
  refine pw_aload_n rfl dX10_filtered_0 ?_
  refine pw_gC dX10_filtered_1 fX10_14 (by first | rfl | assumption) rfl (by first | rfl | assumption) ?_
  refine ps_astore_n (l' := [_, _, _, _, _]) dX10_filtered_4 (by decide) rfl rfl ?_
  refine pw_aload_n rfl dX10_filtered_5 ?_
  refine pw_gC dX10_filtered_6 fX10_33 (by first | rfl | assumption) rfl (by first | rfl | assumption) ?_
  refine pw_iload_n rfl dX10_filtered_9 ?_
  refine pw_iconst 0 (by decide) dX10_filtered_10 ?_
  refine pc_V2 dX10_filtered_11 lX10_146 rfl rfl (by decide) (Nat.le_of_ble_eq_true rfl) ?_
  refine c_filterOf0 hC hx ?_
  rw [← hgd]
  by_cases hg0 : 0 < g
  · obtain ⟨o1, o2⟩ := hok.1 hg0
    have hk5 := p2
    have hfl : flt1 k g K V T n = fmk (K (f1 k g)) (V (f1 k g)) T n := by
      unfold flt1
      rw [if_pos hg0]
    rw [o2]
    refine ps_istore_n (l' := [_, _, _, _, _]) dX10_filtered_14 (by decide) rfl rfl ?_
    refine pw_iload_n rfl dX10_filtered_15 ?_
    refine pw_bipush (-3) (by decide) dX10_filtered_16 ?_
    refine pw_icmp_eq 54 dX10_filtered_18 (by decide) (fun q => absurd q (nI_ne3 (by omega))) (fun _ => ?_)
    refine pw_aload_n rfl dX10_filtered_21 ?_
    refine pw_gC dX10_filtered_22 fX10_40 (by first | rfl | assumption) rfl (by first | rfl | assumption) ?_
    refine pw_aload_n rfl dX10_filtered_25 ?_
    refine pw_gC dX10_filtered_26 fX10_33 (by first | rfl | assumption) rfl (by first | rfl | assumption) ?_
    refine pw_iload_n rfl dX10_filtered_29 ?_
    refine pc_V1 dX10_filtered_30 lX10_208 rfl rfl (by decide) (Nat.le_of_ble_eq_true rfl) ?_
    refine c_kindOf hC o1 ?_
    refine pw_aload_n rfl dX10_filtered_33 ?_
    refine pw_gC dX10_filtered_34 fX10_33 (by first | rfl | assumption) rfl (by first | rfl | assumption) ?_
    refine pw_iload_n rfl dX10_filtered_37 ?_
    refine pc_V1 dX10_filtered_38 lX10_211 rfl rfl (by decide) (Nat.le_of_ble_eq_true rfl) ?_
    refine c_valueOf hC o1 ?_
    refine pw_aload_n rfl dX10_filtered_41 ?_
    refine pw_aload_n rfl dX10_filtered_42 ?_
    refine pw_gC dX10_filtered_43 fX10_24 (by first | rfl | assumption) rfl (by first | rfl | assumption) ?_
    refine pc_V4 dX10_filtered_46 lX10_214 rfl rfl (by decide) (Nat.le_of_ble_eq_true rfl) ?_
    refine c_make fil15 (row_in (r := 1) (Or.inl rfl)) (row_in (r := 7) (Or.inr (Or.inl rfl))) (by omega) (by omega) (by omega) (by omega) t1 hn hn hn (same_B (same_sym t2) hB) (hfk _ o1) ?_
    intro g' o hgo
    unfold TS
    refine pw_aload_n rfl dX10_filtered_49 ?_
    refine pw_gC dX10_filtered_50 fX10_24 (by first | rfl | assumption) rfl (by first | rfl | assumption) ?_
    refine ps_astore_n (l' := [_, _, _, _, _]) dX10_filtered_53 (by decide) rfl rfl ?_
    refine second 7 _ _ _ (Or.inr rfl) upF_s (fun j hj => ?_) (fun i j k1 => upF_n k1) (fun i k1 k2 => by rw [stA_n k1, stA_n k2])
    show stA (stA A 16 o) 8 g' 8 j = _
    rw [stA_s, hgo j hj, hfl]
    exact cg_fmk hn t2 (hfk _ o1) hj
  · rw [hok.2.2.1 (by omega)]
    refine ps_istore_n (l' := [_, _, _, _, _]) dX10_filtered_14 (by decide) rfl rfl ?_
    refine pw_iload_n rfl dX10_filtered_15 ?_
    refine pw_bipush (-3) (by decide) dX10_filtered_16 ?_
    refine pw_icmp_eq 54 dX10_filtered_18 (by decide) (fun _ => ?_) (fun q => absurd (rfl) q)
    refine second 1 _ F A (Or.inl rfl) t1 ?_ (fun i j _ => rfl) (fun i _ _ => rfl)
    unfold flt1
    rw [if_neg hg0]
    exact t2
theorem c_writeHead (ht : t = 3 ∨ t = 5) (hT : TX F A n T) (hn : n ≤ 300) (hC : CH F A k P K V PK) (hx : x < nch k P)
    (hQ : Q none (WS F A t (t + 1) 0 (A (t + 1)) (hdl n k P K V PK x) rf lo X)) : PM Γ mX10_writeHead [.ref 0, .int (nI x), .ref t] (HS F A rf lo X) 0 0 Q := by
  obtain ⟨t1, t2⟩ := hT
  obtain ⟨p1, p2, p3, p4, p5, p6, p7, p8⟩ := id hC
  have ht' := row_to ht
  obtain ⟨g1, g2, g9, gc⟩ := id ht'
  have hok := f_ok k p2 (x / P) (grp_lt p4 hx)
  have hCw : ∀ f0 L, CH (upF F t 1 (nI (0 + (L : List Int32).length))) (stA A (t + 1) (app f0 0 L)) k P K V PK := fun f0 L => CH_fr (upF_n (by omega)) (upF_n (by omega)) (stA_n (by omega)) (stA_n (by omega)) (stA_n (by omega)) hC
  have hpk := (p7 _ (Nat.mod_lt x p4)).2
  have hfk : ∀ i, i < k → K i < 256 ∧ V i < 256 := fun i hi => by
    have := fok_lt (p6 i hi).2.2
    omega
  unfold hdl at hQ
  obtain ⟨g, hgd⟩ : ∃ g, g = x / P := ⟨_, rfl⟩
  rw [← hgd] at hQ hok
  obtain ⟨q, hqd⟩ : ∃ q, q = PK (x % P) := ⟨_, rfl⟩
  rw [← hqd] at hQ hpk
  clear p1 p3 p5 p6 p7 p8
  have hnf : nfi k g ≤ 2 := by unfold nfi; (repeat' split) <;> omega
  -- the tail: PACKER and how many
  have tail : ∀ (L : List Int32) (x3 x4 : Int32) (y : Value), L.length ≤ 5 → Q none (WS F A t (t + 1) 0 (A (t + 1)) (L ++ [nI q, nI (n / 256), nI (n % 256)]) rf lo X) →
      PW Γ mX10_writeHead 71 [.ref 0, .int (nI x), .ref t, .int x3, .int x4, y] [] (WS F A t (t + 1) 0 (A (t + 1)) L rf lo X) 0 0 Q := by
    intro L x3 x4 y hL hq
    unfold WS
    refine pw_aload_n rfl dX10_writeHead_71 ?_
    refine pw_aload_n rfl dX10_writeHead_72 ?_
    refine pw_gC dX10_writeHead_73 fX10_33 (by first | rfl | assumption) rfl (by first | rfl | assumption) ?_
    refine pw_iload_n rfl dX10_writeHead_76 ?_
    refine pc_V1 dX10_writeHead_77 lX10_150 rfl rfl (by decide) (Nat.le_of_ble_eq_true rfl) ?_
    refine c_packerOf (hCw _ _) hx ?_
    rw [← hqd]
    refine pc_V1 dX10_writeHead_80 lX10_97 rfl g1 (by decide) (Nat.le_of_ble_eq_true rfl) ?_
    refine w_push ht' (by omega) ?_
    rw [nI_and255s (by omega)]
    unfold WS
    refine pw_aload_n rfl dX10_writeHead_83 ?_
    refine pw_aload_n rfl dX10_writeHead_84 ?_
    refine pw_gC dX10_writeHead_85 fX10_14 (by first | rfl | assumption) rfl (by first | rfl | assumption) ?_
    refine pc_V0 dX10_writeHead_88 lX10_86 rfl rfl (by decide) (Nat.le_of_ble_eq_true rfl) ?_
    refine c_count (row_in (r := 1) (Or.inl rfl)) ?_
    rw [upF_n (by omega), t1]
    refine pw_bipush 8 (by decide) dX10_writeHead_91 ?_
    rw [show (8 : Int32) = nI 8 from rfl]
    refine pw_ishr dX10_writeHead_93 ?_
    rw [nI_shr (by omega) (by omega)]
    refine pc_V1 dX10_writeHead_94 lX10_97 rfl g1 (by decide) (Nat.le_of_ble_eq_true rfl) ?_
    refine w_push ht' (by rw [List.length_append]; show 0 + (L.length + 1) < 1024; omega) ?_
    rw [nI_and255s (show n / 2 ^ 8 < 256 by omega)]
    unfold WS
    refine pw_aload_n rfl dX10_writeHead_97 ?_
    refine pw_aload_n rfl dX10_writeHead_98 ?_
    refine pw_gC dX10_writeHead_99 fX10_14 (by first | rfl | assumption) rfl (by first | rfl | assumption) ?_
    refine pc_V0 dX10_writeHead_102 lX10_86 rfl rfl (by decide) (Nat.le_of_ble_eq_true rfl) ?_
    refine c_count (row_in (r := 1) (Or.inl rfl)) ?_
    rw [upF_n (by omega), t1]
    refine pc_V1 dX10_writeHead_105 lX10_97 rfl g1 (by decide) (Nat.le_of_ble_eq_true rfl) ?_
    refine w_push ht' (by rw [List.length_append, List.length_append]; show 0 + (L.length + 1 + 1) < 1024; omega) ?_
    rw [nI_and255 (by omega), List.append_assoc, List.append_assoc, List.singleton_append, List.singleton_append]
    refine pw_vret dX10_writeHead_108 rfl ?_
    exact hq
  -- one FILTER's kind and value
  have one : ∀ (L : List Int32) (x3 : Int32) (w i : Nat) (y : Value), y.category = 1 → i < k → L.length ≤ 3 → (∀ Q' : Option Value → PH → Prop, Q' (some (.int (nI i))) (WS F A t (t + 1) 0 (A (t + 1)) L rf lo X) → PM Γ mX1_filterOf [.ref 11, .int (nI x), .int (nI w)] (WS F A t (t + 1) 0 (A (t + 1)) L rf lo X) 0 0 Q') →
      PW Γ mX10_writeHead 65 [.ref 0, .int (nI x), .ref t, .int x3, .int (nI w), .int (nI i)] [] (WS F A t (t + 1) 0 (A (t + 1)) (L ++ [nI (K i), nI (V i)]) rf lo X) 0 0 Q →
      PW Γ mX10_writeHead 27 [.ref 0, .int (nI x), .ref t, .int x3, .int (nI w), y] [] (WS F A t (t + 1) 0 (A (t + 1)) L rf lo X) 0 0 Q := by
    intro L x3 w i y hy hi hL hfo hk
    have hkv := hfk i hi
    unfold WS
    refine pw_aload_n rfl dX10_writeHead_27 ?_
    refine pw_gC dX10_writeHead_28 fX10_33 (by first | rfl | assumption) rfl (by first | rfl | assumption) ?_
    refine pw_iload_n rfl dX10_writeHead_31 ?_
    refine pw_iload rfl dX10_writeHead_32 ?_
    refine pc_V2 dX10_writeHead_34 lX10_146 rfl rfl (by decide) (Nat.le_of_ble_eq_true rfl) ?_
    refine hfo _ ?_
    unfold WS
    refine ps_istore (l' := [_, _, _, _, _, _]) dX10_writeHead_37 (by decide) rfl rfl ?_
    refine pw_aload_n rfl dX10_writeHead_39 ?_
    refine pw_aload_n rfl dX10_writeHead_40 ?_
    refine pw_gC dX10_writeHead_41 fX10_33 (by first | rfl | assumption) rfl (by first | rfl | assumption) ?_
    refine pw_iload rfl dX10_writeHead_44 ?_
    refine pc_V1 dX10_writeHead_46 lX10_208 rfl rfl (by decide) (Nat.le_of_ble_eq_true rfl) ?_
    refine c_kindOf (hCw _ _) hi ?_
    refine pc_V1 dX10_writeHead_49 lX10_97 rfl g1 (by decide) (Nat.le_of_ble_eq_true rfl) ?_
    refine w_push ht' (by omega) ?_
    rw [nI_and255s hkv.1]
    unfold WS
    refine pw_aload_n rfl dX10_writeHead_52 ?_
    refine pw_aload_n rfl dX10_writeHead_53 ?_
    refine pw_gC dX10_writeHead_54 fX10_33 (by first | rfl | assumption) rfl (by first | rfl | assumption) ?_
    refine pw_iload rfl dX10_writeHead_57 ?_
    refine pc_V1 dX10_writeHead_59 lX10_211 rfl rfl (by decide) (Nat.le_of_ble_eq_true rfl) ?_
    refine c_valueOf (hCw _ _) hi ?_
    refine pc_V1 dX10_writeHead_62 lX10_97 rfl g1 (by decide) (Nat.le_of_ble_eq_true rfl) ?_
    refine w_push ht' (by rw [List.length_append]; show 0 + (L.length + 1) < 1024; omega) ?_
    rw [nI_and255s hkv.2, List.append_assoc, List.singleton_append]
    exact hk
  refine PM.go (l := [_, _, _, .float 0, .float 0, .float 0]) rfl rfl (Nat.le_of_ble_eq_true rfl) rfl ?_
  refine pw_aload_n rfl dX10_writeHead_0 ?_
  refine pw_gC dX10_writeHead_1 fX10_33 (by first | rfl | assumption) rfl (by first | rfl | assumption) ?_
  refine pw_iload_n rfl dX10_writeHead_4 ?_
  refine pc_V1 dX10_writeHead_5 lX10_218 rfl rfl (by decide) (Nat.le_of_ble_eq_true rfl) ?_
  refine c_filtersIn hC hx ?_
  rw [← hgd]
  refine ps_istore_n (l' := [_, _, _, _, _, _]) dX10_writeHead_8 (by decide) rfl rfl ?_
  refine pw_aload_n rfl dX10_writeHead_9 ?_
  refine pc_V0 dX10_writeHead_10 lX10_90 rfl g1 (by decide) (Nat.le_of_ble_eq_true rfl) ?_
  refine c_empty ht' ?_
  refine pw_aload_n rfl dX10_writeHead_13 ?_
  refine pw_iload_n rfl dX10_writeHead_14 ?_
  refine pc_V1 dX10_writeHead_15 lX10_97 rfl g1 (by decide) (Nat.le_of_ble_eq_true rfl) ?_
  have e0 : HS (upF F t 1 0) A rf lo X = WS F A t (t + 1) 0 (A (t + 1)) [] rf lo X := by
    unfold WS
    rw [app_nil, stA_self rfl]
    rfl
  rw [e0]
  refine w_push ht' (by show 0 + 0 < 1024; omega) ?_
  rw [nI_and255s (by omega), List.nil_append]
  refine pw_iconst 0 (by decide) dX10_writeHead_18 ?_
  refine ps_istore (l' := [_, _, _, _, _, _]) dX10_writeHead_19 (by decide) rfl rfl ?_
  by_cases hg0 : 0 < g
  · obtain ⟨o1, o2⟩ := hok.1 hg0
    have h1 : hd1 k g K V = [nI (K (f1 k g)), nI (V (f1 k g))] := by unfold hd1; rw [if_pos hg0]
    rw [h1] at hQ
    refine pw_iload rfl dX10_writeHead_21 ?_
    refine pw_iload_n rfl dX10_writeHead_23 ?_
    refine pw_icmp_ge 71 dX10_writeHead_24 (by decide) (fun q => absurd q (nI_ge (a := 0) (show 0 < nfi k g by unfold nfi; (repeat' split) <;> omega) (by omega))) (fun _ => ?_)
    refine one _ _ 0 (f1 k g) _ rfl o1 (by show 1 ≤ 3; omega) (fun Q' hQ' => ?_) ?_
    · refine c_filterOf0 (hCw _ _) hx ?_
      rw [← hgd, o2]
      exact hQ'
    refine ps_iinc (l' := [_, _, _, _, _, _]) 1 dX10_writeHead_65 (by decide) rfl (by decide) rfl rfl ?_
    refine pw_goto 21 dX10_writeHead_68 (by decide) ?_
    by_cases hgk : k < g
    · obtain ⟨q1, q2, q3⟩ := hok.2.1 hgk
      have hn2 : nfi k g = 2 := by unfold nfi; rw [if_neg (by omega), if_neg (by omega)]
      have h2 : hd2 k g K V = [nI (K (f2 k g)), nI (V (f2 k g))] := by unfold hd2; rw [if_pos hgk]
      rw [h2, hn2] at hQ
      rw [hn2]
      refine pw_iload rfl dX10_writeHead_21 ?_
      refine pw_iload_n rfl dX10_writeHead_23 ?_
      refine pw_icmp_ge 71 dX10_writeHead_24 (by decide) (fun q => absurd q (by decide)) (fun _ => ?_)
      refine one _ _ 1 (f2 k g) _ rfl q2 (by show 3 ≤ 3; omega) (fun Q' hQ' => ?_) ?_
      · refine c_filterOf1 (hCw _ _) hx ?_
        rw [← hgd, q3]
        exact hQ'
      refine ps_iinc (l' := [_, _, _, _, _, _]) 1 dX10_writeHead_65 (by decide) rfl (by decide) rfl rfl ?_
      refine pw_goto 21 dX10_writeHead_68 (by decide) ?_
      refine pw_iload rfl dX10_writeHead_21 ?_
      refine pw_iload_n rfl dX10_writeHead_23 ?_
      refine pw_icmp_ge 71 dX10_writeHead_24 (by decide) (fun _ => ?_) (fun q => absurd (by decide) q)
      refine tail _ _ _ _ (by show 5 ≤ 5; omega) ?_
      exact hQ
    · have hn1 : nfi k g = 1 := by unfold nfi; rw [if_neg (by omega), if_pos (by omega)]
      have h2 : hd2 k g K V = [] := by unfold hd2; rw [if_neg hgk]
      rw [h2, hn1] at hQ
      rw [hn1]
      refine pw_iload rfl dX10_writeHead_21 ?_
      refine pw_iload_n rfl dX10_writeHead_23 ?_
      refine pw_icmp_ge 71 dX10_writeHead_24 (by decide) (fun _ => ?_) (fun q => absurd (by decide) q)
      refine tail _ _ _ _ (by show 3 ≤ 5; omega) ?_
      exact hQ
  · have hn0 : nfi k g = 0 := by unfold nfi; rw [if_pos (by omega)]
    have h1 : hd1 k g K V = [] := by unfold hd1; rw [if_neg hg0]
    have h2 : hd2 k g K V = [] := by unfold hd2; rw [if_neg (by omega)]
    rw [h1, h2, hn0] at hQ
    rw [hn0]
    refine pw_iload rfl dX10_writeHead_21 ?_
    refine pw_iload_n rfl dX10_writeHead_23 ?_
    refine pw_icmp_ge 71 dX10_writeHead_24 (by decide) (fun _ => ?_) (fun q => absurd (by decide) q)
    refine tail _ _ _ _ (by show 1 ≤ 5; omega) ?_
    exact hQ
end
