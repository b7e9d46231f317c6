/-! call: choose, the reference's side and both -/
section
variable {Γ : Nat × (Nat → Int32)} {F A : Nat → Nat → Int32} {rf : Nat} {lo : Int64} {X : PH} {Q : Option Value → PH → Prop} {k P n : Nat} {K V PK : Nat → Nat} {T : Nat → Int32}
/-- what the reference's choose changes before its end -/
def frH (F F' A A' : Nat → Nat → Int32) : Prop := (∀ i j, ¬ (i = 57 ∧ (j = 0 ∨ j = 10 ∨ j = 11 ∨ j = 12 ∨ j = 15 ∨ j = 17 ∨ j = 29 ∨ j = 30)) → F' i j = F i j) ∧ (∀ i, ¬ (63 ≤ i ∧ i ≤ 71) → A' i = A i)
theorem mc_loop {S M : Nat} {x3 : Int32} (hT : TM F A n T) (hn : n ≤ 300) (hB : isB T n) (hC : CM F A k P K V PK) (hS : S < 2 ^ 31) (hM : M < 2 ^ 31) :
    ∀ (j x : Nat) (a : CA) (F' A' : Nat → Nat → Int32) (v6 v7 v8 : Int32) (g12 g13 : Value), g12.category = 1 → g13.category = 1 → x + j = nch k P → frH F F' A A' → a.2.1 ≤ S → a.1 + a.2.2.2.2 ≤ x → a.2.2.1 < nch k P → a.2.2.2.1 ≤ 2000 →
      ((x = 0 ∧ a = (0, 0, 0, n + 4, 0) ∧ v6 = 0) ∨ (0 < a.1 ∧ v6 = nI a.2.2.1 ∧ v7 = nI a.2.2.2.1 ∧ v8 = nI (stp k P K PK a.2.2.1))) →
      (∀ F' A' a' v6 v7 v8 g10 g11 g12 g13, frH F F' A A' → a' = chL (fun x => stp k P K PK x * n) (mem_ k P K PK) (fun x => (pkl n T k P K V PK x).length) (stp k P K PK) S M j x a → a'.1 ≤ 100 → ((a' = (0, 0, 0, n + 4, 0) ∧ v6 = 0) ∨ (0 < a'.1 ∧ v6 = nI a'.2.2.1 ∧ v7 = nI a'.2.2.2.1)) → PW Γ mX11_choose 220 [.ref 57, .int (nI S), .int (nI M), .int x3, .int (nI a'.1), .int (nI a'.2.1), .int v6, .int v7, .int v8, .int (nI a'.2.2.2.2), .int g10, .int g11, g12, g13] [] (HS F' A' rf lo X) 0 0 Q) →
      PW Γ mX11_choose 52 [.ref 57, .int (nI S), .int (nI M), .int x3, .int (nI a.1), .int (nI a.2.1), .int v6, .int v7, .int v8, .int (nI a.2.2.2.2), .int 1, .int (nI x), g12, g13] [] (HS F' A' rf lo X) 0 0 Q := by
  obtain ⟨p1, p2, p3, p4, p5, p6, p7, p8, p9⟩ := id hC
  have hle := nch_le _ p2 _ p5
  have hfrC : ∀ F' A', frH F F' A A' → CM F' A' k P K V PK := fun F' A' h => CM_fr (h.1 _ _ (by omega)) (h.1 _ _ (by omega)) (h.2 _ (by omega)) (h.2 _ (by omega)) (h.2 _ (by omega)) hC
  have fr0 : ∀ F' A', frH F F' A A' → frH F (upF F' 57 0 0) A A' := fun F' A' h => ⟨fun i j h1 => by rw [upF_n (by omega)]; exact h.1 i j h1, h.2⟩
  intro j
  induction j with
  | zero =>
    intro x a F' A' v6 v7 v8 g12 g13 h12 h13 hx hfr ha1 ha4 ha5 ha6 hv hq
    have hx2 : x = nch k P := by omega
    subst hx2
    refine pw_iload rfl dX11_choose_52 ?_
    refine pw_aload_n rfl dX11_choose_54 ?_
    refine pc_V0 dX11_choose_55 lX11_93 rfl (by first | rfl | assumption) (by decide) (Nat.le_of_ble_eq_true rfl) ?_
    refine m_chains (hfrC F' A' hfr) ?_
    refine pw_icmp_ge 220 dX11_choose_58 (by decide) (fun _ => ?_) (fun q => absurd (nI_le (Nat.le_refl _) (by omega)) q)
    refine hq _ A' a v6 v7 v8 _ _ g12 g13 (fr0 F' A' hfr) rfl (by omega) ?_
    rcases hv with ⟨h1, h2, h3⟩ | ⟨h1, h2, h3, h4⟩
    · exact Or.inl ⟨h2, h3⟩
    · exact Or.inr ⟨h1, h2, h3⟩
  | succ j ih =>
    intro x a F' A' v6 v7 v8 g12 g13 h12 h13 hx hfr ha1 ha4 ha5 ha6 hv hq
    obtain ⟨tr, tk, be, by_, rfu⟩ := a
    dsimp only at ha1 ha4 ha5 ha6 hv ⊢
    have hxn : x < nch k P := by omega
    have hsl := stp_le p2 p4 (fun i hi => (p6 i hi).2.2) p8 hxn
    have hml := mem_le p2 p4 (fun i hi => (p6 i hi).2.2) p8 hxn
    have hpl := (pkl_ok hn hB p2 p4 (fun i hi => (p6 i hi).2.2) p8 hxn).2
    have hcost : stp k P K PK x * n ≤ 96 * 300 := Nat.mul_le_mul hsl hn
    have h1f := fr0 F' A' hfr
    have hC1 := hfrC _ A' h1f
    have hfr2 : frH F (upP (upF F' 57 0 0) (nI (PK (x % P))) (fo k (x / P)) (ft k (x / P))) A A' := ⟨fun i j h1 => by
      unfold upP
      rw [upF_n (by omega), upF_n (by omega), upF_n (by omega)]
      exact h1f.1 i j h1, hfr.2⟩
    unfold chL at hq
    dsimp only at hq
    refine pw_iload rfl dX11_choose_52 ?_
    refine pw_aload_n rfl dX11_choose_54 ?_
    refine pc_V0 dX11_choose_55 lX11_93 rfl (by first | rfl | assumption) (by decide) (Nat.le_of_ble_eq_true rfl) ?_
    refine m_chains (hfrC F' A' hfr) ?_
    refine pw_icmp_ge 220 dX11_choose_58 (by decide) (fun q => absurd q (nI_ge hxn (by omega))) (fun _ => ?_)
    refine pw_iload rfl dX11_choose_61 ?_
    refine pw_if_eq 220 dX11_choose_63 (by decide) (fun q => absurd q (by decide)) (fun _ => ?_)
    refine pw_aload_n rfl dX11_choose_66 ?_
    refine pw_iload rfl dX11_choose_67 ?_
    refine pc_V1 dX11_choose_69 lX11_165 rfl rfl (by decide) (Nat.le_of_ble_eq_true rfl) ?_
    refine m_part hC1 hxn ?_
    refine pw_aload_n rfl dX11_choose_72 ?_
    refine pc_V0 dX11_choose_73 lX11_183 rfl (by first | rfl | assumption) (by decide) (Nat.le_of_ble_eq_true rfl) ?_
    refine m_stepsOf hC1 hxn ?_
    refine ps_istore (l' := [_, _, _, _, _, _, _, _, _, _, _, _, _, _]) dX11_choose_76 (by decide) rfl rfl ?_
    refine pw_aload_n rfl dX11_choose_78 ?_
    refine pc_V0 dX11_choose_79 lX11_186 rfl (by first | rfl | assumption) (by decide) (Nat.le_of_ble_eq_true rfl) ?_
    refine m_memoryOf hC1 hxn ?_
    generalize upP (upF F' 57 0 0) (nI (PK (x % P))) (fo k (x / P)) (ft k (x / P)) = F2 at *
    have hs2 : F2 57 1 = nI n := by rw [hfr2.1 _ _ (by omega)]; exact hT.1
    by_cases hmem : M < mem_ k P K PK x
    · rw [if_pos hmem] at hq
      refine pw_iload_n rfl dX11_choose_82 ?_
      refine pw_icmp_le 92 dX11_choose_83 (by decide) (fun q => absurd q (nI_ge hmem (by omega))) (fun _ => ?_)
      refine ps_iinc (l' := [_, _, _, _, _, _, _, _, _, _, _, _, _, _]) 1 dX11_choose_86 (by decide) rfl (by decide) rfl rfl ?_
      refine pw_goto 214 dX11_choose_89 (by decide) ?_
      refine ps_iinc (l' := [_, _, _, _, _, _, _, _, _, _, _, _, _, _]) 1 dX11_choose_214 (by decide) rfl (by decide) rfl rfl ?_
      refine pw_goto 52 dX11_choose_217 (by decide) ?_
      rw [nI_1, nI_1]
      refine ih (x + 1) (tr, tk, be, by_, rfu + 1) F2 A' v6 v7 v8 _ _ rfl h13 (by omega) hfr2 ha1 (by show tr + (rfu + 1) ≤ x + 1; omega) ha5 ha6 ?_ hq
      rcases hv with ⟨h1, h2, h3⟩ | h1
      · exfalso
        subst h1
        rw [mem_0 p4 p9] at hmem
        omega
      · exact Or.inr h1
    · rw [if_neg hmem] at hq
      refine pw_iload_n rfl dX11_choose_82 ?_
      refine pw_icmp_le 92 dX11_choose_83 (by decide) (fun _ => ?_) (fun q => absurd (nI_le (by omega) (by omega)) q)
      refine pw_iload rfl dX11_choose_92 ?_
      refine pw_aload_n rfl dX11_choose_94 ?_
      refine pw_gI dX11_choose_95 fX11_72 (by first | rfl | assumption) rfl ?_
      rw [hs2]
      refine pw_imul dX11_choose_98 ?_
      refine pw_iload_n rfl dX11_choose_99 ?_
      refine pw_iload rfl dX11_choose_100 ?_
      refine pw_isub dX11_choose_102 ?_
      rw [pk_mul, pk_sub (by omega)]
      by_cases hco : S - tk < stp k P K PK x * n
      · rw [if_pos hco] at hq
        refine pw_icmp_le 112 dX11_choose_103 (by decide) (fun q => absurd q (nI_ge hco (by omega))) (fun _ => ?_)
        refine pw_iconst 0 (by decide) dX11_choose_106 ?_
        refine ps_istore (l' := [_, _, _, _, _, _, _, _, _, _, _, _, _, _]) dX11_choose_107 (by decide) rfl rfl ?_
        refine pw_goto 214 dX11_choose_109 (by decide) ?_
        refine ps_iinc (l' := [_, _, _, _, _, _, _, _, _, _, _, _, _, _]) 1 dX11_choose_214 (by decide) rfl (by decide) rfl rfl ?_
        refine pw_goto 52 dX11_choose_217 (by decide) ?_
        refine pw_iload rfl dX11_choose_52 ?_
        refine pw_aload_n rfl dX11_choose_54 ?_
        refine pc_V0 dX11_choose_55 lX11_93 rfl rfl (by decide) (Nat.le_of_ble_eq_true rfl) ?_
        refine m_chains (hfrC F2 A' hfr2) ?_
        have hv' : ((tr, tk, be, by_, rfu) = ((0, 0, 0, n + 4, 0) : CA) ∧ v6 = 0) ∨ (0 < tr ∧ v6 = nI be ∧ v7 = nI by_) := by
          rcases hv with ⟨h1, h2, h3⟩ | ⟨h1, h2, h3, h4⟩
          · exact Or.inl ⟨h2, h3⟩
          · exact Or.inr ⟨h1, h2, h3⟩
        have := hq _ A' (tr, tk, be, by_, rfu) v6 v7 v8 0 (nI x + 1) (.int (nI (stp k P K PK x))) g13 (fr0 F2 A' hfr2) rfl (by show tr ≤ 100; omega) hv'
        by_cases hx1 : x + 1 < nch k P
        · refine pw_icmp_ge 220 dX11_choose_58 (by decide) (fun q => absurd q ((by rw [nI_1]; exact nI_ge hx1 (by omega)))) (fun _ => ?_)
          refine pw_iload rfl dX11_choose_61 ?_
          refine pw_if_eq 220 dX11_choose_63 (by decide) (fun _ => ?_) (fun q => absurd (rfl) q)
          exact this
        · refine pw_icmp_ge 220 dX11_choose_58 (by decide) (fun _ => ?_) (fun q => absurd ((by rw [nI_1]; exact nI_le (by omega) (by omega))) q)
          exact this
      · rw [if_neg hco] at hq
        refine pw_icmp_le 112 dX11_choose_103 (by decide) (fun _ => ?_) (fun q => absurd (nI_le (by omega) (by omega)) q)
        refine pw_iload rfl dX11_choose_112 ?_
        refine pw_iload rfl dX11_choose_114 ?_
        refine pw_aload_n rfl dX11_choose_116 ?_
        refine pw_gI dX11_choose_117 fX11_72 (by first | rfl | assumption) rfl ?_
        rw [hs2]
        refine pw_imul dX11_choose_120 ?_
        refine pw_iadd dX11_choose_121 ?_
        rw [pk_mul, nI_add]
        refine ps_istore (l' := [_, _, _, _, _, _, _, _, _, _, _, _, _, _]) dX11_choose_122 (by decide) rfl rfl ?_
        refine pw_aload_n rfl dX11_choose_124 ?_
        refine pw_iload rfl dX11_choose_125 ?_
        refine pc_V1 dX11_choose_127 lX11_189 rfl rfl (by decide) (Nat.le_of_ble_eq_true rfl) ?_
        refine m_packAll (hfrC F2 A' hfr2) hxn hs2 hn hB (by rw [hfr2.2 58 (by omega)]; exact hT.2) ?_
        intro F3 A3 f0 hP h15 h65
        have hfr3 : frH F F3 A A3 := ⟨fun i j h1 => by rw [hP.1 i j (by omega)]; exact hfr2.1 i j h1, fun i h1 => by rw [hP.2 i h1]; exact hfr2.2 i h1⟩
        have yes : ((pkl n T k P K V PK x).length < by_ ∨ ((pkl n T k P K V PK x).length = by_ ∧ stp k P K PK x < stp k P K PK be)) ∨ (tr = 0 ∧ x = 0 ∧ be = 0 ∧ by_ = n + 4) → PW Γ mX11_choose 165 [.ref 57, .int (nI S), .int (nI M), .int x3, .int (nI tr), .int (nI (tk + stp k P K PK x * n)), .int v6, .int v7, .int v8, .int (nI rfu), .int 1, .int (nI x), .int (nI (stp k P K PK x)), g13] [.int 1] (HS F3 A3 rf lo X) 0 0 Q := by
          intro hbt
          refine ps_istore (l' := [_, _, _, _, _, _, _, _, _, _, _, _, _, _]) dX11_choose_165 (by decide) rfl rfl ?_
          refine pw_iload rfl dX11_choose_167 ?_
          refine pw_if_eq 177 dX11_choose_169 (by decide) (fun q => absurd q (by decide)) (fun _ => ?_)
          refine pw_iload rfl dX11_choose_172 ?_
          refine pw_goto 179 dX11_choose_174 (by decide) ?_
          refine ps_istore (l' := [_, _, _, _, _, _, _, _, _, _, _, _, _, _]) dX11_choose_179 (by decide) rfl rfl ?_
          refine pw_iload rfl dX11_choose_181 ?_
          refine pw_if_eq 193 dX11_choose_183 (by decide) (fun q => absurd q (by decide)) (fun _ => ?_)
          refine pw_aload_n rfl dX11_choose_186 ?_
          refine pw_gI dX11_choose_187 fX11_117 (by first | rfl | assumption) rfl ?_
          rw [h15]
          refine pw_goto 195 dX11_choose_190 (by decide) ?_
          refine ps_istore (l' := [_, _, _, _, _, _, _, _, _, _, _, _, _, _]) dX11_choose_195 (by decide) rfl rfl ?_
          refine pw_iload rfl dX11_choose_197 ?_
          refine pw_if_eq 207 dX11_choose_199 (by decide) (fun q => absurd q (by decide)) (fun _ => ?_)
          refine pw_iload rfl dX11_choose_202 ?_
          refine pw_goto 209 dX11_choose_204 (by decide) ?_
          refine ps_istore (l' := [_, _, _, _, _, _, _, _, _, _, _, _, _, _]) dX11_choose_209 (by decide) rfl rfl ?_
          refine ps_iinc (l' := [_, _, _, _, _, _, _, _, _, _, _, _, _, _]) 1 dX11_choose_211 (by decide) rfl (by decide) rfl rfl ?_
          refine ps_iinc (l' := [_, _, _, _, _, _, _, _, _, _, _, _, _, _]) 1 dX11_choose_214 (by decide) rfl (by decide) rfl rfl ?_
          refine pw_goto 52 dX11_choose_217 (by decide) ?_
          rw [nI_1, nI_1]
          by_cases hb2 : (pkl n T k P K V PK x).length < by_ ∨ ((pkl n T k P K V PK x).length = by_ ∧ stp k P K PK x < stp k P K PK be)
          · rw [if_pos hb2, if_pos hb2] at hq
            refine ih (x + 1) (tr + 1, tk + stp k P K PK x * n, x, (pkl n T k P K V PK x).length, rfu) F3 A3 _ _ _ _ _ rfl rfl (by omega) hfr3 (by show tk + stp k P K PK x * n ≤ S; omega) (by show tr + 1 + rfu ≤ x + 1; omega) hxn (by show (pkl n T k P K V PK x).length ≤ 2000; omega) (Or.inr ⟨by show 0 < tr + 1; omega, rfl, rfl, rfl⟩) hq
          · rw [if_neg hb2, if_neg hb2] at hq
            obtain ⟨z1, z2, z3, z4⟩ := hbt.resolve_left hb2
            subst z2
            have e0 : (pkl n T k P K V PK 0).length = by_ := by rw [pkl_0 p9, z4]
            rw [e0]
            subst z3
            refine ih (0 + 1) (tr + 1, tk + stp k P K PK 0 * n, 0, by_, rfu) F3 A3 _ _ _ _ _ rfl rfl (by omega) hfr3 (by show tk + stp k P K PK 0 * n ≤ S; omega) (by show tr + 1 + rfu ≤ 0 + 1; omega) hxn ha6 (Or.inr ⟨by show 0 < tr + 1; omega, rfl, rfl, rfl⟩) hq
        refine pw_iload rfl dX11_choose_130 ?_
        rcases hv with ⟨h1, h2, h3⟩ | ⟨h1, h2, h3, h4⟩
        · have ht0 : tr = 0 := congrArg (fun z : CA => z.1) h2
          have hbe0 : be = 0 := congrArg (fun z : CA => z.2.2.1) h2
          have hby0 : by_ = n + 4 := congrArg (fun z : CA => z.2.2.2.1) h2
          refine pw_if_eq 160 dX11_choose_132 (by decide) (fun _ => ?_) (fun q => absurd (by rw [ht0]; rfl) q)
          refine pw_iconst 1 (by decide) dX11_choose_160 ?_
          refine pw_goto 165 dX11_choose_161 (by decide) ?_
          exact yes (Or.inr ⟨ht0, h1, hbe0, hby0⟩)
        · have no : ¬ ((pkl n T k P K V PK x).length < by_ ∨ ((pkl n T k P K V PK x).length = by_ ∧ stp k P K PK x < stp k P K PK be)) → PW Γ mX11_choose 165 [.ref 57, .int (nI S), .int (nI M), .int x3, .int (nI tr), .int (nI (tk + stp k P K PK x * n)), .int v6, .int v7, .int v8, .int (nI rfu), .int 1, .int (nI x), .int (nI (stp k P K PK x)), g13] [.int 0] (HS F3 A3 rf lo X) 0 0 Q := by
            intro hb2
            rw [if_neg hb2, if_neg hb2] at hq
            refine ps_istore (l' := [_, _, _, _, _, _, _, _, _, _, _, _, _, _]) dX11_choose_165 (by decide) rfl rfl ?_
            refine pw_iload rfl dX11_choose_167 ?_
            refine pw_if_eq 177 dX11_choose_169 (by decide) (fun _ => ?_) (fun q => absurd (rfl) q)
            refine pw_iload rfl dX11_choose_177 ?_
            refine ps_istore (l' := [_, _, _, _, _, _, _, _, _, _, _, _, _, _]) dX11_choose_179 (by decide) rfl rfl ?_
            refine pw_iload rfl dX11_choose_181 ?_
            refine pw_if_eq 193 dX11_choose_183 (by decide) (fun _ => ?_) (fun q => absurd (rfl) q)
            refine pw_iload rfl dX11_choose_193 ?_
            refine ps_istore (l' := [_, _, _, _, _, _, _, _, _, _, _, _, _, _]) dX11_choose_195 (by decide) rfl rfl ?_
            refine pw_iload rfl dX11_choose_197 ?_
            refine pw_if_eq 207 dX11_choose_199 (by decide) (fun _ => ?_) (fun q => absurd (rfl) q)
            refine pw_iload rfl dX11_choose_207 ?_
            refine ps_istore (l' := [_, _, _, _, _, _, _, _, _, _, _, _, _, _]) dX11_choose_209 (by decide) rfl rfl ?_
            refine ps_iinc (l' := [_, _, _, _, _, _, _, _, _, _, _, _, _, _]) 1 dX11_choose_211 (by decide) rfl (by decide) rfl rfl ?_
            refine ps_iinc (l' := [_, _, _, _, _, _, _, _, _, _, _, _, _, _]) 1 dX11_choose_214 (by decide) rfl (by decide) rfl rfl ?_
            refine pw_goto 52 dX11_choose_217 (by decide) ?_
            rw [nI_1, nI_1]
            refine ih (x + 1) (tr + 1, tk + stp k P K PK x * n, be, by_, rfu) F3 A3 _ _ _ _ _ rfl rfl (by omega) hfr3 (by show tk + stp k P K PK x * n ≤ S; omega) (by show tr + 1 + rfu ≤ x + 1; omega) ha5 ha6 (Or.inr ⟨by show 0 < tr + 1; omega, h2, h3, h4⟩) hq
          have hsb := stp_le p2 p4 (fun i hi => (p6 i hi).2.2) p8 ha5
          subst h3
          subst h4
          refine pw_if_eq 160 dX11_choose_132 (by decide) (fun q => absurd q (nI_ne0 (by omega) (by omega))) (fun _ => ?_)
          refine pw_aload_n rfl dX11_choose_135 ?_
          refine pw_gI dX11_choose_136 fX11_117 (by first | rfl | assumption) rfl ?_
          rw [h15]
          by_cases hb1 : (pkl n T k P K V PK x).length < by_
          · refine pw_iload rfl dX11_choose_139 ?_
            refine pw_icmp_lt 160 dX11_choose_141 (by decide) (fun _ => ?_) (fun q => absurd (nI_lt hb1 (by omega)) q)
            refine pw_iconst 1 (by decide) dX11_choose_160 ?_
            refine pw_goto 165 dX11_choose_161 (by decide) ?_
            exact yes (Or.inl (Or.inl hb1))
          · refine pw_iload rfl dX11_choose_139 ?_
            refine pw_icmp_lt 160 dX11_choose_141 (by decide) (fun q => absurd q (nI_nlt (by omega) (by omega))) (fun _ => ?_)
            refine pw_aload_n rfl dX11_choose_144 ?_
            refine pw_gI dX11_choose_145 fX11_117 (by first | rfl | assumption) rfl ?_
            rw [h15]
            by_cases hb2 : (pkl n T k P K V PK x).length = by_
            · by_cases hb3 : stp k P K PK x < stp k P K PK be
              · refine pw_iload rfl dX11_choose_148 ?_
                refine pw_icmp_ne 164 dX11_choose_150 (by decide) (fun q => absurd (by rw [hb2]) q) (fun _ => ?_)
                refine pw_iload rfl dX11_choose_153 ?_
                refine pw_iload rfl dX11_choose_155 ?_
                refine pw_icmp_ge 164 dX11_choose_157 (by decide) (fun q => absurd q (nI_ge hb3 (by omega))) (fun _ => ?_)
                refine pw_iconst 1 (by decide) dX11_choose_160 ?_
                refine pw_goto 165 dX11_choose_161 (by decide) ?_
                exact yes (Or.inl (Or.inr ⟨hb2, hb3⟩))
              · refine pw_iload rfl dX11_choose_148 ?_
                refine pw_icmp_ne 164 dX11_choose_150 (by decide) (fun q => absurd (by rw [hb2]) q) (fun _ => ?_)
                refine pw_iload rfl dX11_choose_153 ?_
                refine pw_iload rfl dX11_choose_155 ?_
                refine pw_icmp_ge 164 dX11_choose_157 (by decide) (fun _ => ?_) (fun q => absurd (nI_le (by omega) (by omega)) q)
                refine pw_iconst 0 (by decide) dX11_choose_164 ?_
                exact no (by omega)
            · refine pw_iload rfl dX11_choose_148 ?_
              refine pw_icmp_ne 164 dX11_choose_150 (by decide) (fun _ => ?_) (fun q => absurd q ((fun h9 => hb2 (nI_inj (by omega) (by omega) h9))))
              refine pw_iconst 0 (by decide) dX11_choose_164 ?_
              exact no (by omega)
end
