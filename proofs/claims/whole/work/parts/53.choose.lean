/-! call: choose -/
abbrev CA : Type := Nat × Nat × Nat × Nat × Nat
abbrev btr (sz st : Nat → Nat) (x : Nat) (a : CA) : Prop := sz x < a.2.2.2.1 ∨ (sz x = a.2.2.2.1 ∧ st x < st a.2.2.1)
def chL (co me sz st : Nat → Nat) (S M : Nat) : Nat → Nat → CA → CA
  | 0, _, a => a
  | k + 1, x, a => if M < me x then chL co me sz st S M k (x + 1) (a.1, a.2.1, a.2.2.1, a.2.2.2.1, a.2.2.2.2 + 1) else if S - a.2.1 < co x then a else chL co me sz st S M k (x + 1) (a.1 + 1, a.2.1 + co x, (if btr sz st x a then x else a.2.2.1), (if btr sz st x a then sz x else a.2.2.2.1), a.2.2.2.2)
def cArr (a : CA) (fl : Bool) : Nat → Int32 := fun j => if j = 0 then nI a.1 else if j = 1 then nI a.2.1 else if j = 2 then nI a.2.2.1 else if j = 3 then nI a.2.2.2.1 else if j = 4 then nI a.2.2.2.2 else bI fl
def sSt (s : ST) (x : Nat) : Nat := stp s.2.2.1.1 s.2.2.1.2.1 s.2.2.1.2.2.1 s.2.2.1.2.2.2.2 x
def sMe (s : ST) (x : Nat) : Nat := mem_ s.2.2.1.1 s.2.2.1.2.1 s.2.2.1.2.2.1 s.2.2.1.2.2.2.2 x
def sSz (s : ST) (x : Nat) : Nat := (sPk s x).length
def choR (s : ST) (S M : Nat) : CA := if flat s.1.2 s.1.1 = true then (0, 0, 0, s.1.1 + 4, 0) else chL (fun x => sSt s x * s.1.1) (sMe s) (sSz s) (sSt s) S M (nch s.2.2.1.1 s.2.2.1.2.1) 0 (0, 0, 0, s.1.1 + 4, 0)
theorem stp_le {k P : Nat} {K V PK : Nat → Nat} {x : Nat} (hk : k < 5) (hP : 0 < P) (hf : ∀ i, i < k → fok (K i) (V i)) (hp : ∀ i, i < P → PK i < 5) (hx : x < nch k P) : stp k P K PK x ≤ 96 := by
  have h1 := (tb_le _ (hp _ (Nat.mod_lt x hP))).1
  have hok := f_ok k hk _ (grp_lt hP hx)
  unfold stp
  have a1 : (if 0 < x / P then fst_ (K (f1 k (x / P))) else 0) ≤ 16 := by
    split
    · rename_i h
      exact (tb_le _ (fok_lt (hf _ (hok.1 h).1)).1).2.1
    · omega
  have a2 : (if k < x / P then fst_ (K (f2 k (x / P))) else 0) ≤ 16 := by
    split
    · rename_i h
      exact (tb_le _ (fok_lt (hf _ (hok.2.1 h).2.1)).1).2.1
    · omega
  omega
theorem mem_le {k P : Nat} {K V PK : Nat → Nat} {x : Nat} (hk : k < 5) (hP : 0 < P) (hf : ∀ i, i < k → fok (K i) (V i)) (hp : ∀ i, i < P → PK i < 5) (hx : x < nch k P) : mem_ k P K PK x ≤ 1024 := by
  have h1 := (tb_le _ (hp _ (Nat.mod_lt x hP))).2.2.1
  have hok := f_ok k hk _ (grp_lt hP hx)
  unfold mem_
  have a1 : (if 0 < x / P then fme (K (f1 k (x / P))) else 0) ≤ 256 := by
    split
    · rename_i h
      exact (tb_le _ (fok_lt (hf _ (hok.1 h).1)).1).2.2.2
    · omega
  have a2 : (if k < x / P then fme (K (f2 k (x / P))) else 0) ≤ 256 := by
    split
    · rename_i h
      exact (tb_le _ (fok_lt (hf _ (hok.2.1 h).2.1)).1).2.2.2
    · omega
  omega
theorem mem_0 {k P : Nat} {K PK : Nat → Nat} (hP : 0 < P) (h0 : PK 0 = 0) : mem_ k P K PK 0 = 0 := by
  unfold mem_
  rw [Nat.zero_mod, Nat.zero_div, h0, if_neg (by omega), if_neg (by omega)]
  rfl
theorem pkl_0 {n : Nat} {T : Nat → Int32} {k P : Nat} {K V PK : Nat → Nat} (h0 : PK 0 = 0) : (pkl n T k P K V PK 0).length = n + 4 := by
  unfold pkl hdl
  rw [Nat.zero_mod, Nat.zero_div, h0]
  have e1 : hd1 k 0 K V = [] := by unfold hd1; rw [if_neg (by omega)]
  have e2 : hd2 k 0 K V = [] := by unfold hd2; rw [if_neg (by omega)]
  rw [e1, e2]
  unfold pbody
  by_cases hn : n = 0
  · rw [if_pos hn, hn]; rfl
  · rw [if_neg hn, if_neg (by omega), if_neg (by omega), if_neg (by omega), if_neg (by omega), List.length_append, slice_len]
    show 4 + (n - 0) = n + 4
    omega
section
variable {Γ : Nat × (Nat → Int32)} {F A : Nat → Nat → Int32} {rf : Nat} {lo : Int64} {X : PH} {Q : Option Value → PH → Prop} {k P n : Nat} {K V PK : Nat → Nat} {T : Nat → Int32}
theorem c_isBetter {x b be by_ : Nat} (hC : CH F A k P K V PK) (hx : x < nch k P) (hbe : be < nch k P) (hb : b ≤ 2000) (hby : by_ ≤ 2000) (h2 : A 55 2 = nI be) (h3 : A 55 3 = nI by_) (hQ : Q (some (.int (if b < by_ ∨ (b = by_ ∧ stp k P K PK x < stp k P K PK be) then 1 else 0))) (HS F A rf lo X)) : PM Γ mX10_isBetter [.ref 0, .int (nI x), .int (nI b)] (HS F A rf lo X) 0 0 Q := by
  obtain ⟨p1, p2, p3, p4, p5, p6, p7, p8⟩ := id hC
  have s1 := stp_le p2 p4 (fun i hi => (p6 i hi).2.2) (fun i hi => (p7 i hi).2) hx
  have s2 := stp_le p2 p4 (fun i hi => (p6 i hi).2.2) (fun i hi => (p7 i hi).2) hbe
  refine PM.go (l := [_, _, _]) rfl rfl (Nat.le_of_ble_eq_true rfl) rfl ?_
  refine pw_iload_n rfl dX10_isBetter_0 ?_
  refine pw_aload_n rfl dX10_isBetter_1 ?_
  refine pw_gC dX10_isBetter_2 fX10_65 (by first | rfl | assumption) rfl (by first | rfl | assumption) ?_
  refine pw_iconst 3 (by decide) dX10_isBetter_5 ?_
  refine pw_aI dX10_isBetter_6 (by first | rfl | assumption) (vp_in_nI (n := 3) (by decide) (by decide)) ?_
  rw [show A 55 (3 : Int32).toNatClampNeg = nI by_ from h3]
  by_cases he : b = by_
  · refine pw_icmp_eq 26 dX10_isBetter_7 (by decide) (fun _ => ?_) (fun q => absurd (by rw [he]) q)
    refine pw_aload_n rfl dX10_isBetter_26 ?_
    refine pw_gC dX10_isBetter_27 fX10_33 (by first | rfl | assumption) rfl (by first | rfl | assumption) ?_
    refine pw_iload_n rfl dX10_isBetter_30 ?_
    refine pc_V1 dX10_isBetter_31 lX10_153 rfl rfl (by decide) (Nat.le_of_ble_eq_true rfl) ?_
    refine c_stepsOf hC hx ?_
    refine pw_aload_n rfl dX10_isBetter_34 ?_
    refine pw_gC dX10_isBetter_35 fX10_33 (by first | rfl | assumption) rfl (by first | rfl | assumption) ?_
    refine pw_aload_n rfl dX10_isBetter_38 ?_
    refine pw_gC dX10_isBetter_39 fX10_65 (by first | rfl | assumption) rfl (by first | rfl | assumption) ?_
    refine pw_iconst 2 (by decide) dX10_isBetter_42 ?_
    refine pw_aI dX10_isBetter_43 (by first | rfl | assumption) (vp_in_nI (n := 2) (by decide) (by decide)) ?_
    rw [show A 55 (2 : Int32).toNatClampNeg = nI be from h2]
    refine pc_V1 dX10_isBetter_44 lX10_153 rfl rfl (by decide) (Nat.le_of_ble_eq_true rfl) ?_
    refine c_stepsOf hC hbe ?_
    by_cases hs : stp k P K PK x < stp k P K PK be
    · rw [if_pos (Or.inr ⟨he, hs⟩)] at hQ
      refine pw_icmp_ge 54 dX10_isBetter_47 (by decide) (fun q => absurd q (nI_ge hs (by omega))) (fun _ => ?_)
      refine pw_iconst 1 (by decide) dX10_isBetter_50 ?_
      refine pw_goto 55 dX10_isBetter_51 (by decide) ?_
      refine pw_iret dX10_isBetter_55 (Or.inr ⟨rfl, rfl⟩) ?_
      exact hQ
    · rw [if_neg (by omega)] at hQ
      refine pw_icmp_ge 54 dX10_isBetter_47 (by decide) (fun _ => ?_) (fun q => absurd (nI_le (by omega) (by omega)) q)
      refine pw_iconst 0 (by decide) dX10_isBetter_54 ?_
      refine pw_iret dX10_isBetter_55 (Or.inr ⟨rfl, rfl⟩) ?_
      exact hQ
  · refine pw_icmp_eq 26 dX10_isBetter_7 (by decide) (fun q => absurd q ((fun h9 => he (nI_inj (by omega) (by omega) h9)))) (fun _ => ?_)
    refine pw_iload_n rfl dX10_isBetter_10 ?_
    refine pw_aload_n rfl dX10_isBetter_11 ?_
    refine pw_gC dX10_isBetter_12 fX10_65 (by first | rfl | assumption) rfl (by first | rfl | assumption) ?_
    refine pw_iconst 3 (by decide) dX10_isBetter_15 ?_
    refine pw_aI dX10_isBetter_16 (by first | rfl | assumption) (vp_in_nI (n := 3) (by decide) (by decide)) ?_
    rw [show A 55 (3 : Int32).toNatClampNeg = nI by_ from h3]
    by_cases hl : b < by_
    · rw [if_pos (Or.inl hl)] at hQ
      refine pw_icmp_ge 24 dX10_isBetter_17 (by decide) (fun q => absurd q (nI_ge hl (by omega))) (fun _ => ?_)
      refine pw_iconst 1 (by decide) dX10_isBetter_20 ?_
      refine pw_goto 25 dX10_isBetter_21 (by decide) ?_
      refine pw_iret dX10_isBetter_25 (Or.inr ⟨rfl, rfl⟩) ?_
      exact hQ
    · rw [if_neg (by omega)] at hQ
      refine pw_icmp_ge 24 dX10_isBetter_17 (by decide) (fun _ => ?_) (fun q => absurd (nI_le (by omega) (by omega)) q)
      refine pw_iconst 0 (by decide) dX10_isBetter_24 ?_
      refine pw_iret dX10_isBetter_25 (Or.inr ⟨rfl, rfl⟩) ?_
      exact hQ
/-- the choice row holds a -/
def CR (A : Nat → Nat → Int32) (a : CA) : Prop := A 55 0 = nI a.1 ∧ A 55 1 = nI a.2.1 ∧ A 55 2 = nI a.2.2.1 ∧ A 55 3 = nI a.2.2.2.1 ∧ A 55 4 = nI a.2.2.2.2 ∧ A 55 5 = 0
/-- what tryChains changes -/
def frT (F F' A A' : Nat → Nat → Int32) : Prop := (∀ i j, ¬ (i = 5 ∧ j = 1) → ¬ (i = 7 ∧ j = 1) → ¬ (i = 9 ∧ j = 1) → ¬ (i = 28 ∧ j = 5) → ¬ i = 23 → ¬ (i = 17 ∧ (j = 7 ∨ j = 8)) → F' i j = F i j) ∧ (∀ i, ¬ i = 55 → ¬ i = 6 → ¬ i = 8 → ¬ i = 10 → ¬ i = 16 → ¬ (18 ≤ i ∧ i ≤ 21) → ¬ (24 ≤ i ∧ i ≤ 33) → A' i = A i)
theorem tc_loop {S M : Nat} (hT : TX F A n T) (hn : n ≤ 300) (hB : isB T n) (hC : CH F A k P K V PK) (hz : BX F) (hS : S < 2 ^ 31) (hM : M < 2 ^ 31) :
    ∀ (j x : Nat) (a : CA) (F' A' : Nat → Nat → Int32) (grp : Int32) (r : Nat) (g8 : Value), g8.category = 1 → x + j = nch k P → frT F F' A A' → CR A' a → a.2.1 ≤ S → a.1 ≤ 100 → a.2.2.2.2 ≤ 100 → a.1 + a.2.2.2.2 ≤ x → a.2.2.1 < nch k P → a.2.2.2.1 ≤ 2000 →
      (r = 1 ∨ r = 7 ∨ r = 9) → (grp = -1 ∨ ∃ g, g < 2 ^ 31 ∧ grp = nI g ∧ F' r 1 = nI n ∧ same (A' (r + 1)) (flt k g K V T n) n) →
      (∀ F' A', frT F F' A A' → CR A' (chL (fun x => stp k P K PK x * n) (mem_ k P K PK) (fun x => (pkl n T k P K V PK x).length) (stp k P K PK) S M j x a) → Q none (HS F' A' rf lo X)) →
      PW Γ mX10_tryChains 23 [.ref 0, .int (nI S), .int (nI M), .int (nI (nch k P)), .int (nI (S - a.2.1)), .int grp, .ref r, .int (nI x), g8] [] (HS F' A' rf lo X) 0 0 Q := by
  obtain ⟨p1, p2, p3, p4, p5, p6, p7, p8⟩ := id hC
  have hle := nch_le _ p2 _ p5
  intro j
  induction j with
  | zero =>
    intro x a F' A' grp r g8 hg8 hx hfr hcr ha1 ha2 ha3 ha4 ha5 ha6 hr hgrp hq
    have hx2 : x = nch k P := by omega
    subst hx2
    refine pw_iload rfl dX10_tryChains_23 ?_
    refine pw_iload_n rfl dX10_tryChains_25 ?_
    refine pw_icmp_ge 220 dX10_tryChains_26 (by decide) (fun _ => ?_) (fun q => absurd (nI_le (Nat.le_refl _) (by omega)) q)
    refine pw_vret dX10_tryChains_220 rfl ?_
    exact hq F' A' hfr hcr
  | succ j ih =>
    intro x a F' A' grp r g8 hg8 hx hfr hcr ha1 ha2 ha3 ha4 ha5 ha6 hr hgrp hq
    obtain ⟨tr, tk, be, by_, rfu⟩ := a
    dsimp only at ha1 ha2 ha3 ha4 ha5 ha6 ⊢
    obtain ⟨c0, c1, c2, c3, c4, c5⟩ := id hcr
    dsimp only at c0 c1 c2 c3 c4 c5
    have hxn : x < nch k P := by omega
    have hC' : CH F' A' k P K V PK := CH_fr (hfr.1 _ _ (by omega) (by omega) (by omega) (by omega) (by omega) (by omega)) (hfr.1 _ _ (by omega) (by omega) (by omega) (by omega) (by omega) (by omega)) (hfr.2 _ (by omega) (by omega) (by omega) (by omega) (by omega) (by omega) (by omega)) (hfr.2 _ (by omega) (by omega) (by omega) (by omega) (by omega) (by omega) (by omega)) (hfr.2 _ (by omega) (by omega) (by omega) (by omega) (by omega) (by omega) (by omega)) hC
    have hT' : TX F' A' n T := TX_fr hT (hfr.1 _ _ (by omega) (by omega) (by omega) (by omega) (by omega) (by omega)) (hfr.2 _ (by omega) (by omega) (by omega) (by omega) (by omega) (by omega) (by omega))
    have hsl := stp_le p2 p4 (fun i hi => (p6 i hi).2.2) (fun i hi => (p7 i hi).2) hxn
    have hml := mem_le p2 p4 (fun i hi => (p6 i hi).2.2) (fun i hi => (p7 i hi).2) hxn
    have hpl := (pkl_ok hn hB p2 p4 (fun i hi => (p6 i hi).2.2) (fun i hi => (p7 i hi).2) hxn).2
    have hcost : stp k P K PK x * n ≤ 96 * 300 := Nat.mul_le_mul hsl hn
    have hfB : isB (flt k (x / P) K V T n) n := flt_B hn hB p2 (grp_lt p4 hxn) (fun i hi => (p6 i hi).2.2)
    have hpk := (p7 _ (Nat.mod_lt x p4)).2
    have hgl : x / P ≤ x := Nat.div_le_self _ _
    unfold chL at hq
    dsimp only at hq
    refine pw_iload rfl dX10_tryChains_23 ?_
    refine pw_iload_n rfl dX10_tryChains_25 ?_
    refine pw_icmp_ge 220 dX10_tryChains_26 (by decide) (fun q => absurd q (nI_ge hxn (by omega))) (fun _ => ?_)
    refine pw_aload_n rfl dX10_tryChains_29 ?_
    refine pw_gC dX10_tryChains_30 fX10_33 (by first | rfl | assumption) rfl (by first | rfl | assumption) ?_
    refine pw_iload rfl dX10_tryChains_33 ?_
    refine pc_V1 dX10_tryChains_35 lX10_156 rfl (by first | rfl | assumption) (by decide) (Nat.le_of_ble_eq_true rfl) ?_
    refine c_memoryOf hC' hxn ?_
    by_cases hmem : M < mem_ k P K PK x
    · rw [if_pos hmem] at hq
      refine pw_iload_n rfl dX10_tryChains_38 ?_
      refine pw_icmp_le 55 dX10_tryChains_39 (by decide) (fun q => absurd q (nI_ge hmem (by omega))) (fun _ => ?_)
      refine pw_aload_n rfl dX10_tryChains_42 ?_
      refine pw_gC dX10_tryChains_43 fX10_65 (by first | rfl | assumption) rfl (by first | rfl | assumption) ?_
      refine pw_iconst 4 (by decide) dX10_tryChains_46 ?_
      refine pw_dup2 rfl rfl dX10_tryChains_47 ?_
      refine pw_aI dX10_tryChains_48 (by first | rfl | assumption) (vp_in_nI (n := 4) (by decide) (by decide)) ?_
      rw [show A' 55 (4 : Int32).toNatClampNeg = nI rfu from c4]
      refine pw_iconst 1 (by decide) dX10_tryChains_49 ?_
      refine pw_iadd dX10_tryChains_50 ?_
      rw [nI_1]
      refine pw_sI dX10_tryChains_51 (by first | rfl | assumption) (vp_in_nI (n := 4) (by decide) (by decide)) ?_
      refine pw_goto 214 dX10_tryChains_52 (by decide) ?_
      refine ps_iinc (l' := [_, _, _, _, _, _, _, _, _]) 1 dX10_tryChains_214 (by decide) rfl (by decide) rfl rfl ?_
      refine pw_goto 23 dX10_tryChains_217 (by decide) ?_
      rw [nI_1]
      refine ih (x + 1) (tr, tk, be, by_, rfu + 1) F' _ grp r g8 hg8 (by omega) ⟨hfr.1, fun i h1 h2 h3 h4 h5 h6 h7 => by rw [stA_n h1]; exact hfr.2 i h1 h2 h3 h4 h5 h6 h7⟩ ⟨?_, ?_, ?_, ?_, ?_, ?_⟩ ha1 ha2 (by show rfu + 1 ≤ 100; omega) (by show tr + (rfu + 1) ≤ x + 1; omega) ha5 ha6 hr ?_ hq
      · rw [stA_s]; exact (upd_n (by decide)).trans c0
      · rw [stA_s]; exact (upd_n (by decide)).trans c1
      · rw [stA_s]; exact (upd_n (by decide)).trans c2
      · rw [stA_s]; exact (upd_n (by decide)).trans c3
      · rw [stA_s]; exact upd_s
      · rw [stA_s]; exact (upd_n (by decide)).trans c5
      · rcases hgrp with h | ⟨g, h1, h2, h3, h4⟩
        · exact Or.inl h
        · exact Or.inr ⟨g, h1, h2, h3, by rw [stA_n (by omega)]; exact h4⟩
    · rw [if_neg hmem] at hq
      refine pw_iload_n rfl dX10_tryChains_38 ?_
      refine pw_icmp_le 55 dX10_tryChains_39 (by decide) (fun _ => ?_) (fun q => absurd (nI_le (by omega) (by omega)) q)
      refine pw_aload_n rfl dX10_tryChains_55 ?_
      refine pw_gC dX10_tryChains_56 fX10_33 (by first | rfl | assumption) rfl (by first | rfl | assumption) ?_
      refine pw_iload rfl dX10_tryChains_59 ?_
      refine pc_V1 dX10_tryChains_61 lX10_153 rfl rfl (by decide) (Nat.le_of_ble_eq_true rfl) ?_
      refine c_stepsOf hC' hxn ?_
      refine pw_aload_n rfl dX10_tryChains_64 ?_
      refine pw_gC dX10_tryChains_65 fX10_14 (by first | rfl | assumption) rfl (by first | rfl | assumption) ?_
      refine pc_V0 dX10_tryChains_68 lX10_86 rfl (by first | rfl | assumption) (by decide) (Nat.le_of_ble_eq_true rfl) ?_
      refine c_count row1 ?_
      rw [hT'.1]
      refine pw_imul dX10_tryChains_71 ?_
      refine ps_istore (l' := [_, _, _, _, _, _, _, _, _]) dX10_tryChains_72 (by decide) rfl rfl ?_
      refine pw_iload rfl dX10_tryChains_74 ?_
      refine pw_iload rfl dX10_tryChains_76 ?_
      rw [pk_mul]
      by_cases hco : S - tk < stp k P K PK x * n
      · rw [if_pos hco] at hq
        refine pw_icmp_le 84 dX10_tryChains_78 (by decide) (fun q => absurd q (nI_ge hco (by omega))) (fun _ => ?_)
        refine pw_goto 220 dX10_tryChains_81 (by decide) ?_
        refine pw_vret dX10_tryChains_220 rfl ?_
        exact hq F' A' hfr hcr
      · rw [if_neg hco] at hq
        refine pw_icmp_le 84 dX10_tryChains_78 (by decide) (fun _ => ?_) (fun q => absurd (nI_le (by omega) (by omega)) q)
        refine pw_iload rfl dX10_tryChains_84 ?_
        refine pw_iload rfl dX10_tryChains_86 ?_
        refine pw_isub dX10_tryChains_88 ?_
        rw [pk_sub (by omega), show S - tk - stp k P K PK x * n = S - (tk + stp k P K PK x * n) by omega]
        refine ps_istore (l' := [_, _, _, _, _, _, _, _, _]) dX10_tryChains_89 (by decide) rfl rfl ?_
        refine pw_aload_n rfl dX10_tryChains_91 ?_
        refine pw_gC dX10_tryChains_92 fX10_33 (by first | rfl | assumption) rfl (by first | rfl | assumption) ?_
        refine pw_iload rfl dX10_tryChains_95 ?_
        refine pc_V1 dX10_tryChains_97 lX10_221 rfl rfl (by decide) (Nat.le_of_ble_eq_true rfl) ?_
        refine c_group hC' (by omega) ?_
        -- from the head on, with the body's row
        have go : ∀ (F1 A1 : Nat → Nat → Int32) (r : Nat), (r = 1 ∨ r = 7 ∨ r = 9) → frT F F1 A A1 → CR A1 (tr, tk, be, by_, rfu) → F1 r 1 = nI n → same (A1 (r + 1)) (flt k (x / P) K V T n) n →
            PW Γ mX10_tryChains 124 [.ref 0, .int (nI S), .int (nI M), .int (nI (nch k P)), .int (nI (S - (tk + stp k P K PK x * n))), .int (nI (x / P)), .ref r, .int (nI x), .int (nI (stp k P K PK x * n))] [] (HS F1 A1 rf lo X) 0 0 Q := by
          intro F1 A1 r hr hfr1 hcr1 hr1 hfl
          obtain ⟨c0, c1, c2, c3, c4, c5⟩ := hcr1
          dsimp only at c0 c1 c2 c3 c4 c5
          have hC1 : CH F1 A1 k P K V PK := CH_fr (hfr1.1 _ _ (by omega) (by omega) (by omega) (by omega) (by omega) (by omega)) (hfr1.1 _ _ (by omega) (by omega) (by omega) (by omega) (by omega) (by omega)) (hfr1.2 _ (by omega) (by omega) (by omega) (by omega) (by omega) (by omega) (by omega)) (hfr1.2 _ (by omega) (by omega) (by omega) (by omega) (by omega) (by omega) (by omega)) (hfr1.2 _ (by omega) (by omega) (by omega) (by omega) (by omega) (by omega) (by omega)) hC
          have hT1 : TX F1 A1 n T := TX_fr hT (hfr1.1 _ _ (by omega) (by omega) (by omega) (by omega) (by omega) (by omega)) (hfr1.2 _ (by omega) (by omega) (by omega) (by omega) (by omega) (by omega) (by omega))
          have hz1 : BX F1 := BX_fr hz (hfr1.1 _ _ (by omega) (by omega) (by omega) (by omega) (by omega) (by omega)) (hfr1.1 _ _ (by omega) (by omega) (by omega) (by omega) (by omega) (by omega))
          refine pw_aload_n rfl dX10_tryChains_124 ?_
          refine pw_iload rfl dX10_tryChains_125 ?_
          refine pw_aload_n rfl dX10_tryChains_127 ?_
          refine pw_gC dX10_tryChains_128 fX10_21 (by first | rfl | assumption) rfl (by first | rfl | assumption) ?_
          refine pc_V2 dX10_tryChains_131 lX10_159 rfl rfl (by decide) (Nat.le_of_ble_eq_true rfl) ?_
          refine c_writeHead (t := 5) (Or.inr rfl) hT1 hn hC1 hxn ?_
          unfold WS
          refine pw_aload_n rfl dX10_tryChains_134 ?_
          refine pw_gC dX10_tryChains_135 fX10_47 (by first | rfl | assumption) rfl (by first | rfl | assumption) ?_
          refine pw_aload_n rfl dX10_tryChains_138 ?_
          refine pw_gC dX10_tryChains_139 fX10_33 (by first | rfl | assumption) rfl (by first | rfl | assumption) ?_
          refine pw_iload rfl dX10_tryChains_142 ?_
          refine pc_V1 dX10_tryChains_144 lX10_150 rfl rfl (by decide) (Nat.le_of_ble_eq_true rfl) ?_
          refine c_packerOf (CH_fr (upF_n (by omega)) (upF_n (by omega)) (stA_n (by omega)) (stA_n (by omega)) (stA_n (by omega)) hC1) hxn ?_
          refine pw_aload rfl dX10_tryChains_147 ?_
          refine pw_aload_n rfl dX10_tryChains_149 ?_
          refine pw_gC dX10_tryChains_150 fX10_21 (by first | rfl | assumption) rfl (by first | rfl | assumption) ?_
          refine pc_V3 dX10_tryChains_153 lX10_166 rfl rfl (by decide) (Nat.le_of_ble_eq_true rfl) ?_
          have hl8 := hdl_len (n := n) (k := k) (P := P) (K := K) (V := V) (PK := PK) (x := x)
          refine c_write (F := F1) (A := A1) hr (t := 5) (Or.inr rfl) hpk hr1 hn (same_B (same_sym hfl) hfB) hz1.1 hz1.2 (by omega) ?_
          intro F2 A2 hW
          rw [cg_pbody hfl, show pbody (PK (x % P)) (flt k (x / P) K V T n) n (hdl n k P K V PK x) = pkl n T k P K V PK x from rfl]
          unfold WS
          have h51 : upF F2 5 1 (nI (0 + (pkl n T k P K V PK x).length)) 5 1 = nI (pkl n T k P K V PK x).length := by rw [upF_s, Nat.zero_add]
          have hfr3 : frT F (upF F2 5 1 (nI (0 + (pkl n T k P K V PK x).length))) A (stA A2 (5 + 1) (app (A1 (5 + 1)) 0 (pkl n T k P K V PK x))) := ⟨fun i j h1 h2 h3 h4 h5 h6 => by rw [upF_n h1, hW.1 i j h4 h5 h6]; exact hfr1.1 i j h1 h2 h3 h4 h5 h6, fun i h0 h1 h2 h3 h4 h5 h6 => by rw [stA_n h1, hW.2 i h5 h6]; exact hfr1.2 i h0 h1 h2 h3 h4 h5 h6⟩
          have h55 : stA A2 (5 + 1) (app (A1 (5 + 1)) 0 (pkl n T k P K V PK x)) 55 = A1 55 := by rw [stA_n (by decide)]; exact hW.2 55 (by omega) (by omega)
          have hrr : upF F2 5 1 (nI (0 + (pkl n T k P K V PK x).length)) r 1 = nI n := by rw [upF_n (by omega), hW.1 r 1 (by omega) (by omega) (by omega)]; exact hr1
          have hra : stA A2 (5 + 1) (app (A1 (5 + 1)) 0 (pkl n T k P K V PK x)) (r + 1) = A1 (r + 1) := by rw [stA_n (by omega)]; exact hW.2 _ (by omega) (by omega)
          generalize upF F2 5 1 (nI (0 + (pkl n T k P K V PK x).length)) = F3 at *
          generalize stA A2 (5 + 1) (app (A1 (5 + 1)) 0 (pkl n T k P K V PK x)) = A3 at *
          have hC3 : CH F3 A3 k P K V PK := CH_fr (hfr3.1 _ _ (by omega) (by omega) (by omega) (by omega) (by omega) (by omega)) (hfr3.1 _ _ (by omega) (by omega) (by omega) (by omega) (by omega) (by omega)) (hfr3.2 _ (by omega) (by omega) (by omega) (by omega) (by omega) (by omega) (by omega)) (hfr3.2 _ (by omega) (by omega) (by omega) (by omega) (by omega) (by omega) (by omega)) (hfr3.2 _ (by omega) (by omega) (by omega) (by omega) (by omega) (by omega) (by omega)) hC
          refine pw_aload_n rfl dX10_tryChains_156 ?_
          refine pw_gC dX10_tryChains_157 fX10_65 (by first | rfl | assumption) rfl (by first | rfl | assumption) ?_
          refine pw_iconst 0 (by decide) dX10_tryChains_160 ?_
          refine pw_dup2 rfl rfl dX10_tryChains_161 ?_
          refine pw_aI dX10_tryChains_162 (by first | rfl | assumption) (vp_in_nI (n := 0) (by decide) (by decide)) ?_
          rw [h55, show A1 55 (0 : Int32).toNatClampNeg = nI tr from c0]
          refine pw_iconst 1 (by decide) dX10_tryChains_163 ?_
          refine pw_iadd dX10_tryChains_164 ?_
          refine pw_sI dX10_tryChains_165 (by first | rfl | assumption) (vp_in_nI (n := 0) (by decide) (by decide)) ?_
          refine pw_aload_n rfl dX10_tryChains_166 ?_
          refine pw_gC dX10_tryChains_167 fX10_65 (by first | rfl | assumption) rfl (by first | rfl | assumption) ?_
          refine pw_iconst 1 (by decide) dX10_tryChains_170 ?_
          refine pw_dup2 rfl rfl dX10_tryChains_171 ?_
          refine pw_aI dX10_tryChains_172 (by first | rfl | assumption) (vp_in_nI (n := 1) (by decide) (by decide)) ?_
          rw [nI_1, stA_s, h55, show upd (A1 55) (0 : Int32).toNatClampNeg (nI (tr + 1)) (1 : Int32).toNatClampNeg = nI tk from (upd_n (by decide)).trans c1]
          refine pw_iload rfl dX10_tryChains_173 ?_
          refine pw_iadd dX10_tryChains_175 ?_
          rw [nI_add]
          refine pw_sI dX10_tryChains_176 (by first | rfl | assumption) (vp_in_nI (n := 1) (by decide) (by decide)) ?_
          refine pw_aload_n rfl dX10_tryChains_177 ?_
          refine pw_iload rfl dX10_tryChains_178 ?_
          refine pw_aload_n rfl dX10_tryChains_180 ?_
          refine pw_gC dX10_tryChains_181 fX10_21 (by first | rfl | assumption) rfl (by first | rfl | assumption) ?_
          rw [stA_s, stA_stA]
          have k0 : upd (upd (A1 55) (0 : Int32).toNatClampNeg (nI (tr + 1))) (1 : Int32).toNatClampNeg (nI (tk + stp k P K PK x * n)) 0 = nI (tr + 1) := (upd_n (by decide)).trans upd_s
          have k1 : upd (upd (A1 55) (0 : Int32).toNatClampNeg (nI (tr + 1))) (1 : Int32).toNatClampNeg (nI (tk + stp k P K PK x * n)) 1 = nI (tk + stp k P K PK x * n) := upd_s
          have k2 : upd (upd (A1 55) (0 : Int32).toNatClampNeg (nI (tr + 1))) (1 : Int32).toNatClampNeg (nI (tk + stp k P K PK x * n)) 2 = nI be := (upd_n (by decide)).trans ((upd_n (by decide)).trans c2)
          have k3 : upd (upd (A1 55) (0 : Int32).toNatClampNeg (nI (tr + 1))) (1 : Int32).toNatClampNeg (nI (tk + stp k P K PK x * n)) 3 = nI by_ := (upd_n (by decide)).trans ((upd_n (by decide)).trans c3)
          have k4 : upd (upd (A1 55) (0 : Int32).toNatClampNeg (nI (tr + 1))) (1 : Int32).toNatClampNeg (nI (tk + stp k P K PK x * n)) 4 = nI rfu := (upd_n (by decide)).trans ((upd_n (by decide)).trans c4)
          have k5 : upd (upd (A1 55) (0 : Int32).toNatClampNeg (nI (tr + 1))) (1 : Int32).toNatClampNeg (nI (tk + stp k P K PK x * n)) 5 = 0 := (upd_n (by decide)).trans ((upd_n (by decide)).trans c5)
          generalize upd (upd (A1 55) (0 : Int32).toNatClampNeg (nI (tr + 1))) (1 : Int32).toNatClampNeg (nI (tk + stp k P K PK x * n)) = g55 at *
          refine pc_V0 dX10_tryChains_184 lX10_86 rfl rfl (by decide) (Nat.le_of_ble_eq_true rfl) ?_
          refine c_count (row_to (t := 5) (Or.inr rfl)) ?_
          rw [h51]
          refine pc_V2 dX10_tryChains_187 lX10_224 rfl rfl (by decide) (Nat.le_of_ble_eq_true rfl) ?_
          refine c_isBetter (be := be) (by_ := by_) (CH_fr rfl rfl (stA_n (by decide)) (stA_n (by decide)) (stA_n (by decide)) hC3) hxn ha5 (by omega) ha6 (by rw [stA_s]; exact k2) (by rw [stA_s]; exact k3) ?_
          have hgr : nI (x / P) = -1 ∨ ∃ g, g < 2 ^ 31 ∧ nI (x / P) = nI g ∧ F3 r 1 = nI n ∧ same (A3 (r + 1)) (flt k g K V T n) n := Or.inr ⟨x / P, by omega, rfl, hrr, by rw [hra]; exact hfl⟩
          have hnx : (nI x + 1 : Int32) = nI (x + 1) := nI_1 x
          by_cases hbt : (pkl n T k P K V PK x).length < by_ ∨ ((pkl n T k P K V PK x).length = by_ ∧ stp k P K PK x < stp k P K PK be)
          · rw [if_pos hbt, if_pos hbt] at hq
            rw [if_pos hbt]
            refine pw_if_eq 214 dX10_tryChains_190 (by decide) (fun q => absurd q (by decide)) (fun _ => ?_)
            refine pw_aload_n rfl dX10_tryChains_193 ?_
            refine pw_gC dX10_tryChains_194 fX10_65 (by first | rfl | assumption) rfl (by first | rfl | assumption) ?_
            refine pw_iconst 2 (by decide) dX10_tryChains_197 ?_
            refine pw_iload rfl dX10_tryChains_198 ?_
            refine pw_sI dX10_tryChains_200 (by first | rfl | assumption) (vp_in_nI (n := 2) (by decide) (by decide)) ?_
            refine pw_aload_n rfl dX10_tryChains_201 ?_
            refine pw_gC dX10_tryChains_202 fX10_65 (by first | rfl | assumption) rfl (by first | rfl | assumption) ?_
            refine pw_iconst 3 (by decide) dX10_tryChains_205 ?_
            refine pw_aload_n rfl dX10_tryChains_206 ?_
            refine pw_gC dX10_tryChains_207 fX10_21 (by first | rfl | assumption) rfl (by first | rfl | assumption) ?_
            refine pc_V0 dX10_tryChains_210 lX10_86 rfl rfl (by decide) (Nat.le_of_ble_eq_true rfl) ?_
            refine c_count (row_to (t := 5) (Or.inr rfl)) ?_
            rw [h51]
            refine pw_sI dX10_tryChains_213 (by first | rfl | assumption) (vp_in_nI (n := 3) (by decide) (by decide)) ?_
            refine ps_iinc (l' := [_, _, _, _, _, _, _, _, _]) 1 dX10_tryChains_214 (by decide) rfl (by decide) rfl rfl ?_
            refine pw_goto 23 dX10_tryChains_217 (by decide) ?_
            rw [stA_s, stA_stA, stA_s, stA_stA, hnx]
            refine ih (x + 1) (tr + 1, tk + stp k P K PK x * n, x, (pkl n T k P K V PK x).length, rfu) F3 _ (nI (x / P)) r _ rfl (by omega) ⟨hfr3.1, fun i h1 h2 h3 h4 h5 h6 h7 => by rw [stA_n h1]; exact hfr3.2 i h1 h2 h3 h4 h5 h6 h7⟩ ⟨?_, ?_, ?_, ?_, ?_, ?_⟩ (by show tk + stp k P K PK x * n ≤ S; omega) (by show tr + 1 ≤ 100; omega) ha3 (by show tr + 1 + rfu ≤ x + 1; omega) hxn (by show (pkl n T k P K V PK x).length ≤ 2000; omega) hr ?_ hq
            · rw [stA_s]; exact (upd_n (by decide)).trans ((upd_n (by decide)).trans k0)
            · rw [stA_s]; exact (upd_n (by decide)).trans ((upd_n (by decide)).trans k1)
            · rw [stA_s]; exact (upd_n (by decide)).trans upd_s
            · rw [stA_s]; exact upd_s
            · rw [stA_s]; exact (upd_n (by decide)).trans ((upd_n (by decide)).trans k4)
            · rw [stA_s]; exact (upd_n (by decide)).trans ((upd_n (by decide)).trans k5)
            · rcases hgr with h | ⟨g, h1, h2, h3, h4⟩
              · exact Or.inl h
              · exact Or.inr ⟨g, h1, h2, h3, by rw [stA_n (by omega)]; exact h4⟩
          · rw [if_neg hbt, if_neg hbt] at hq
            rw [if_neg hbt]
            refine pw_if_eq 214 dX10_tryChains_190 (by decide) (fun _ => ?_) (fun q => absurd (rfl) q)
            refine ps_iinc (l' := [_, _, _, _, _, _, _, _, _]) 1 dX10_tryChains_214 (by decide) rfl (by decide) rfl rfl ?_
            refine pw_goto 23 dX10_tryChains_217 (by decide) ?_
            rw [hnx]
            refine ih (x + 1) (tr + 1, tk + stp k P K PK x * n, be, by_, rfu) F3 _ (nI (x / P)) r _ rfl (by omega) ⟨hfr3.1, fun i h1 h2 h3 h4 h5 h6 h7 => by rw [stA_n h1]; exact hfr3.2 i h1 h2 h3 h4 h5 h6 h7⟩ ⟨?_, ?_, ?_, ?_, ?_, ?_⟩ (by show tk + stp k P K PK x * n ≤ S; omega) (by show tr + 1 ≤ 100; omega) ha3 (by show tr + 1 + rfu ≤ x + 1; omega) ha5 ha6 hr ?_ hq
            · rw [stA_s]; exact k0
            · rw [stA_s]; exact k1
            · rw [stA_s]; exact k2
            · rw [stA_s]; exact k3
            · rw [stA_s]; exact k4
            · rw [stA_s]; exact k5
            · rcases hgr with h | ⟨g, h1, h2, h3, h4⟩
              · exact Or.inl h
              · exact Or.inr ⟨g, h1, h2, h3, by rw [stA_n (by omega)]; exact h4⟩
        by_cases hgg : nI (x / P) = grp
        · refine pw_iload rfl dX10_tryChains_100 ?_
          refine pw_icmp_eq 124 dX10_tryChains_102 (by decide) (fun _ => ?_) (fun q => absurd (hgg) q)
          rcases hgrp with h | ⟨g, h1, h2, h3, h4⟩
          · rw [h] at hgg
            exact absurd hgg (nI_nm1 (by omega))
          · have e : x / P = g := nI_inj (by omega) h1 (by rw [hgg, h2])
            rw [← hgg]
            exact go F' A' r hr hfr hcr h3 (by rw [e]; exact h4)
        · refine pw_iload rfl dX10_tryChains_100 ?_
          refine pw_icmp_eq 124 dX10_tryChains_102 (by decide) (fun q => absurd q (hgg)) (fun _ => ?_)
          refine pw_aload_n rfl dX10_tryChains_105 ?_
          refine pw_gC dX10_tryChains_106 fX10_33 (by first | rfl | assumption) rfl (by first | rfl | assumption) ?_
          refine pw_iload rfl dX10_tryChains_109 ?_
          refine pc_V1 dX10_tryChains_111 lX10_221 rfl rfl (by decide) (Nat.le_of_ble_eq_true rfl) ?_
          refine c_group hC' (by omega) ?_
          refine ps_istore (l' := [_, _, _, _, _, _, _, _, _]) dX10_tryChains_114 (by decide) rfl rfl ?_
          refine pw_aload_n rfl dX10_tryChains_116 ?_
          refine pw_iload rfl dX10_tryChains_117 ?_
          refine pc_V1 dX10_tryChains_119 lX10_163 rfl rfl (by decide) (Nat.le_of_ble_eq_true rfl) ?_
          refine c_filtered hT' hn hB hC' hxn ?_
          intro r2 F1 A1 hr2 hF1 hfl hFf hAf
          refine ps_astore (l' := [_, _, _, _, _, _, _, _, _]) dX10_tryChains_122 (by decide) rfl rfl ?_
          refine go F1 A1 r2 hr2 ⟨fun i j h1 h2 h3 h4 h5 h6 => by rw [hFf i j h2 h3]; exact hfr.1 i j h1 h2 h3 h4 h5 h6, fun i h1 h2 h3 h4 h5 h6 h7 => by rw [hAf i h3 h4 h5]; exact hfr.2 i h1 h2 h3 h4 h5 h6 h7⟩ ?_ hF1 hfl
          have e55 : A1 55 = A' 55 := hAf 55 (by omega) (by omega) (by omega)
          exact ⟨by rw [e55]; exact c0, by rw [e55]; exact c1, by rw [e55]; exact c2, by rw [e55]; exact c3, by rw [e55]; exact c4, by rw [e55]; exact c5⟩
end
