/-! the reference's chains, part, stepsOf, memoryOf -/
/-- the reference's parts of a CHAIN: PACKER's kind, first, second FILTER -/
def upP (F : Nat → Nat → Int32) (l o t : Int32) : Nat → Nat → Int32 := upF (upF (upF F 57 12 l) 57 10 o) 57 11 t
theorem upP_l {F : Nat → Nat → Int32} {l o t : Int32} : upP F l o t 57 12 = l := by
  unfold upP
  rw [upF_n (by omega), upF_n (by omega), upF_s]
theorem upP_o {F : Nat → Nat → Int32} {l o t : Int32} : upP F l o t 57 10 = o := by
  unfold upP
  rw [upF_n (by omega), upF_s]
theorem upP_t {F : Nat → Nat → Int32} {l o t : Int32} : upP F l o t 57 11 = t := by
  unfold upP
  rw [upF_s]
theorem upP_n {F : Nat → Nat → Int32} {l o t : Int32} {b : Nat} (h : ¬ b = 10 ∧ ¬ b = 11 ∧ ¬ b = 12) : upP F l o t 57 b = F 57 b := by
  unfold upP
  rw [upF_n (by omega), upF_n (by omega), upF_n (by omega)]
theorem upP_sl {F : Nat → Nat → Int32} {l o t x : Int32} : upF (upP F l o t) 57 12 x = upP F x o t := by
  funext a b
  unfold upP upF
  by_cases h1 : a = 57 ∧ b = 12
  · rw [if_pos h1, if_neg (by omega), if_neg (by omega), if_pos h1]
  · rw [if_neg h1]
    split
    · rfl
    · split
      · rfl
      · rfl
theorem upP_so {F : Nat → Nat → Int32} {l o t x : Int32} : upF (upP F l o t) 57 10 x = upP F l x t := by
  funext a b
  unfold upP upF
  by_cases h1 : a = 57 ∧ b = 10
  · rw [if_pos h1, if_neg (by omega), if_pos h1]
  · rw [if_neg h1]
    split
    · rfl
    · rfl
theorem upP_st {F : Nat → Nat → Int32} {l o t x : Int32} : upF (upP F l o t) 57 11 x = upP F l o x := by
  unfold upP
  rw [upF_upF]
theorem upP_self (F : Nat → Nat → Int32) : upP F (F 57 12) (F 57 10) (F 57 11) = F := by
  unfold upP
  rw [upF_self (i := 57) (k := 11) (by rw [upF_n (by omega), upF_n (by omega)]), upF_self (i := 57) (k := 10) (by rw [upF_n (by omega)]), upF_self (i := 57) (k := 12) rfl]
section
variable {Γ : Nat × (Nat → Int32)} {F A : Nat → Nat → Int32} {rf : Nat} {lo : Int64} {X : PH} {Q : Option Value → PH → Prop} {k P : Nat} {K V PK : Nat → Nat}
theorem m_chains (hC : CM F A k P K V PK) (hQ : Q (some (.int (nI (nch k P)))) (HS (upF F 57 0 0) A rf lo X)) : PM Γ mX11_chains [.ref 57] (HS F A rf lo X) 0 0 Q := by
  obtain ⟨h1, h2, h3, h4, h5, h6, h7, h8⟩ := hC
  refine PM.go (l := [_]) rfl rfl (Nat.le_of_ble_eq_true rfl) rfl ?_
  refine pw_aload_n rfl dX11_chains_0 ?_
  refine pw_iconst 0 (by decide) dX11_chains_1 ?_
  refine pw_pI dX11_chains_2 fX11_65 (by first | rfl | assumption) rfl ⟨rfl, rfl⟩ ?_
  refine pw_iconst 1 (by decide) dX11_chains_5 ?_
  refine pw_aload_n rfl dX11_chains_6 ?_
  refine pw_gI dX11_chains_7 fX11_87 (by first | rfl | assumption) rfl ?_
  refine pw_iadd dX11_chains_10 ?_
  refine pw_aload_n rfl dX11_chains_11 ?_
  refine pw_gI dX11_chains_12 fX11_87 (by first | rfl | assumption) rfl ?_
  refine pw_aload_n rfl dX11_chains_15 ?_
  refine pw_gI dX11_chains_16 fX11_87 (by first | rfl | assumption) rfl ?_
  refine pw_iconst 1 (by decide) dX11_chains_19 ?_
  refine pw_isub dX11_chains_20 ?_
  refine pw_imul dX11_chains_21 ?_
  refine pw_iadd dX11_chains_22 ?_
  refine pw_iconst 1 (by decide) dX11_chains_23 ?_
  refine pw_aload_n rfl dX11_chains_24 ?_
  refine pw_gI dX11_chains_25 fX11_90 (by first | rfl | assumption) rfl ?_
  refine pw_iadd dX11_chains_28 ?_
  refine pw_imul dX11_chains_29 ?_
  refine pw_iret dX11_chains_30 (Or.inl rfl) ?_
  rw [upF_n (by omega), upF_n (by omega), h1, h3, show (1 : Int32) + nI (P - 1) = nI P by rw [show (1 : Int32) = nI 1 from rfl, nI_add]; congr 1; omega, nch_ok k h2 P h5]
  exact hQ
theorem m_part {x : Nat} (hC : CM F A k P K V PK) (hx : x < nch k P) (hQ : Q none (HS (upP F (nI (PK (x % P))) (fo k (x / P)) (ft k (x / P))) A rf lo X)) : PM Γ mX11_part [.ref 57, .int (nI x)] (HS F A rf lo X) 0 0 Q := by
  obtain ⟨h1, h2, h3, h4, h5, h6, h7, h8, h9⟩ := hC
  have hle := nch_le k h2 P h5
  have hg := grp_lt h4 hx
  have hgl : x / P ≤ x := Nat.div_le_self _ _
  have hok := f_ok k h2 (x / P) hg
  have hm := Nat.mod_lt x h4
  have e1 : (1 : Int32) + nI (P - 1) = nI P := by
    rw [show (1 : Int32) = nI 1 from rfl, nI_add]
    congr 1
    omega
  have hne : ¬ (1 : Int32) + F 57 8 = 0 := by
    rw [h3, e1]
    exact nI_ne0 h4 (by omega)
  refine PM.go (l := [_, _, .float 0, .float 0, .float 0]) rfl rfl (Nat.le_of_ble_eq_true rfl) rfl ?_
  refine pw_iload_n rfl dX11_part_0 ?_
  refine pw_iconst 1 (by decide) dX11_part_1 ?_
  refine pw_aload_n rfl dX11_part_2 ?_
  refine pw_gI dX11_part_3 fX11_90 (by first | rfl | assumption) rfl ?_
  refine pw_iadd dX11_part_6 ?_
  refine pw_irem hne dX11_part_7 ?_
  rw [h3, e1, pk_rem (by omega) h4 (by omega)]
  refine ps_istore_n (l' := [_, _, _, _, _]) dX11_part_8 (by decide) rfl rfl ?_
  refine pw_iload_n rfl dX11_part_9 ?_
  refine pw_iconst 1 (by decide) dX11_part_10 ?_
  refine pw_aload_n rfl dX11_part_11 ?_
  refine pw_gI dX11_part_12 fX11_90 (by first | rfl | assumption) rfl ?_
  refine pw_iadd dX11_part_15 ?_
  refine pw_idiv hne dX11_part_16 ?_
  rw [h3, e1, pk_div (by omega) h4 (by omega)]
  have rest : ∀ (x2 x4 : Value), x2.category = 1 → PW Γ mX11_part 38 [.ref 57, .int (nI x), x2, .int (nI (x / P)), x4] [] (HS (upP F (nI (PK (x % P))) (F 57 10) (F 57 11)) A rf lo X) 0 0 Q := by
    intro x2 x4 hx2
    refine pw_aload_n rfl dX11_part_38 ?_
    refine pw_bipush (-3) (by decide) dX11_part_39 ?_
    refine pw_pI dX11_part_41 fX11_100 (by first | rfl | assumption) rfl ⟨rfl, rfl⟩ ?_
    refine pw_aload_n rfl dX11_part_44 ?_
    refine pw_bipush (-3) (by decide) dX11_part_45 ?_
    rw [upP_so]
    refine pw_pI dX11_part_47 fX11_103 (by first | rfl | assumption) rfl ⟨rfl, rfl⟩ ?_
    refine pw_iload_n rfl dX11_part_50 ?_
    refine pw_aload_n rfl dX11_part_51 ?_
    refine pw_gI dX11_part_52 fX11_87 (by first | rfl | assumption) rfl ?_
    rw [upP_st, upP_n (by omega), h1]
    unfold fo ft at hQ
    generalize x / P = g at hQ hg hgl hok
    by_cases hgk : g ≤ k
    · rw [if_pos hgk, if_pos hgk] at hQ
      refine pw_icmp_le 122 dX11_part_55 (by decide) (fun _ => ?_) (fun q => absurd (nI_le hgk (by omega)) q)
      refine pw_iload_n rfl dX11_part_122 ?_
      by_cases hg0 : 0 < g
      · rw [if_pos hg0] at hQ
        refine pw_if_le 133 dX11_part_123 (by decide) (fun q => absurd q (nI_ge (a := 0) hg0 (by omega))) (fun _ => ?_)
        refine pw_aload_n rfl dX11_part_126 ?_
        refine pw_iload_n rfl dX11_part_127 ?_
        refine pw_iconst 1 (by decide) dX11_part_128 ?_
        refine pw_isub dX11_part_129 ?_
        refine pw_pI dX11_part_130 fX11_100 (by first | rfl | assumption) rfl ⟨rfl, rfl⟩ ?_
        refine pw_vret dX11_part_133 rfl ?_
        rw [upP_so, show nI g - 1 = nI (g - 1) from pk_sub (b := 1) (by omega)]
        exact hQ
      · rw [if_neg hg0] at hQ
        refine pw_if_le 133 dX11_part_123 (by decide) (fun _ => ?_) (fun q => absurd (nI_le (b := 0) (by omega) (by omega)) q)
        refine pw_vret dX11_part_133 rfl ?_
        exact hQ
    · rw [if_neg hgk, if_neg hgk] at hQ
      have hk2 := (hok.2.1 (by omega)).1
      have e2 : nI k - 1 = nI (k - 1) := pk_sub (b := 1) (by omega)
      have d1 : (g - (k + 1)) / (k - 1) ≤ g - (k + 1) := Nat.div_le_self _ _
      have d2 : (g - (k + 1)) % (k - 1) ≤ g - (k + 1) := Nat.mod_le _ _
      have hn1 : ¬ nI k - 1 = 0 := by
        rw [e2]
        exact nI_ne0 (by omega) (by omega)
      refine pw_icmp_le 122 dX11_part_55 (by decide) (fun q => absurd q (nI_ge (by omega) (by omega))) (fun _ => ?_)
      refine pw_iload_n rfl dX11_part_58 ?_
      refine pw_aload_n rfl dX11_part_59 ?_
      refine pw_gI dX11_part_60 fX11_87 (by first | rfl | assumption) rfl ?_
      refine pw_isub dX11_part_63 ?_
      refine pw_iconst 1 (by decide) dX11_part_64 ?_
      refine pw_isub dX11_part_65 ?_
      rw [upP_n (by omega), h1, pk_sub (by omega), show nI (g - k) - 1 = nI (g - (k + 1)) from pk_sub (a := g - k) (b := 1) (by omega)]
      refine ps_istore (l' := [_, _, _, _, _]) dX11_part_66 (by decide) rfl rfl ?_
      refine pw_aload_n rfl dX11_part_68 ?_
      refine pw_iload rfl dX11_part_69 ?_
      refine pw_aload_n rfl dX11_part_71 ?_
      refine pw_gI dX11_part_72 fX11_87 (by first | rfl | assumption) rfl ?_
      refine pw_iconst 1 (by decide) dX11_part_75 ?_
      refine pw_isub dX11_part_76 ?_
      rw [upP_n (by omega), h1]
      refine pw_idiv hn1 dX11_part_77 ?_
      refine pw_pI dX11_part_78 fX11_100 (by first | rfl | assumption) rfl ⟨rfl, rfl⟩ ?_
      refine pw_aload_n rfl dX11_part_81 ?_
      refine pw_iload rfl dX11_part_82 ?_
      refine pw_aload_n rfl dX11_part_84 ?_
      refine pw_gI dX11_part_85 fX11_87 (by first | rfl | assumption) rfl ?_
      refine pw_iconst 1 (by decide) dX11_part_88 ?_
      refine pw_isub dX11_part_89 ?_
      rw [upP_so, upP_n (by omega), h1]
      refine pw_irem hn1 dX11_part_90 ?_
      refine pw_pI dX11_part_91 fX11_103 (by first | rfl | assumption) rfl ⟨rfl, rfl⟩ ?_
      refine pw_aload_n rfl dX11_part_94 ?_
      refine pw_dup rfl dX11_part_95 ?_
      refine pw_gI dX11_part_96 fX11_103 (by first | rfl | assumption) rfl ?_
      refine pw_aload_n rfl dX11_part_99 ?_
      refine pw_gI dX11_part_100 fX11_103 (by first | rfl | assumption) rfl ?_
      refine pw_aload_n rfl dX11_part_103 ?_
      refine pw_gI dX11_part_104 fX11_100 (by first | rfl | assumption) rfl ?_
      rw [upP_st, upP_t, upP_o, e2, pk_rem (by omega) (by omega) (by omega), pk_div (by omega) (by omega) (by omega)]
      by_cases hlt : (g - (k + 1)) % (k - 1) < (g - (k + 1)) / (k - 1)
      · rw [if_pos hlt] at hQ
        refine pw_icmp_lt 114 dX11_part_107 (by decide) (fun _ => ?_) (fun q => absurd (nI_lt hlt (by omega)) q)
        refine pw_iconst 0 (by decide) dX11_part_114 ?_
        refine pw_iadd dX11_part_115 ?_
        refine pw_pI dX11_part_116 fX11_103 (by first | rfl | assumption) rfl ⟨rfl, rfl⟩ ?_
        refine pw_goto 133 dX11_part_119 (by decide) ?_
        refine pw_vret dX11_part_133 rfl ?_
        rw [upP_st, show (0 : Int32) = nI 0 from rfl, nI_add, Nat.add_zero]
        exact hQ
      · rw [if_neg hlt] at hQ
        refine pw_icmp_lt 114 dX11_part_107 (by decide) (fun q => absurd q (nI_nlt (by omega) (by omega))) (fun _ => ?_)
        refine pw_iconst 1 (by decide) dX11_part_110 ?_
        refine pw_goto 115 dX11_part_111 (by decide) ?_
        refine pw_iadd dX11_part_115 ?_
        refine pw_pI dX11_part_116 fX11_103 (by first | rfl | assumption) rfl ⟨rfl, rfl⟩ ?_
        refine pw_goto 133 dX11_part_119 (by decide) ?_
        refine pw_vret dX11_part_133 rfl ?_
        rw [upP_st, nI_1]
        exact hQ
  have e0 : HS F A rf lo X = HS (upP F (F 57 12) (F 57 10) (F 57 11)) A rf lo X := by rw [upP_self]
  rw [e0]
  refine ps_istore_n (l' := [_, _, _, _, _]) dX11_part_17 (by decide) rfl rfl ?_
  refine pw_aload_n rfl dX11_part_18 ?_
  refine pw_iload_n rfl dX11_part_19 ?_
  by_cases hp0 : x % P = 0
  · rw [hp0]
    refine pw_if_ne 27 dX11_part_20 (by decide) (fun q => absurd (rfl) q) (fun _ => ?_)
    refine pw_iconst 0 (by decide) dX11_part_23 ?_
    refine pw_goto 35 dX11_part_24 (by decide) ?_
    refine pw_pI dX11_part_35 fX11_97 (by first | rfl | assumption) rfl ⟨rfl, rfl⟩ ?_
    rw [upP_sl]
    have := rest (.int (nI 0)) (.float 0) rfl
    rw [hp0, h9] at this
    exact this
  · refine pw_if_ne 27 dX11_part_20 (by decide) (fun _ => ?_) (fun q => absurd q (nI_ne0 (by omega) (by omega)))
    refine pw_aload_n rfl dX11_part_27 ?_
    refine pw_gC dX11_part_28 fX11_22 (by first | rfl | assumption) rfl (by first | rfl | assumption) ?_
    refine pw_iload_n rfl dX11_part_31 ?_
    refine pw_iconst 1 (by decide) dX11_part_32 ?_
    refine pw_isub dX11_part_33 ?_
    rw [show nI (x % P) - 1 = nI (x % P - 1) from pk_sub (b := 1) (by omega)]
    refine pw_aI dX11_part_34 (by first | rfl | assumption) (by first | assumption | exact vp_in_nI (by omega) (by omega)) ?_
    refine pw_pI dX11_part_35 fX11_97 (by first | rfl | assumption) rfl ⟨rfl, rfl⟩ ?_
    rw [upP_sl, nI_clamp (by omega), h7 (x % P - 1) (by omega), show x % P - 1 + 1 = x % P by omega]
    exact rest (.int (nI (x % P))) (.float 0) rfl
end
