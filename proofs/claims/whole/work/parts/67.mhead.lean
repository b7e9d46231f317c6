/-! what stands before the packed bytes: the reference -/
section
variable {Γ : Nat × (Nat → Int32)} {F A : Nat → Nat → Int32} {lo : Int64} {X : PH} {Q : Option Value → PH → Prop} {o : Nat} {O : Nat → Int32} {rf : Nat}
theorem RM_up {F : Nat → Nat → Int32} {r : RT} {k : Nat} {v : Int32} (h : RM F r) (hi : ¬ k = 27 ∧ ¬ k = 28 ∧ ¬ k = 31) : RM (upF F 57 k v) r := ⟨by rw [upF_n (by omega)]; exact h.1, fun z => by rw [upF_n (by omega), upF_n (by omega)]; exact h.2.1 z, fun z => by rw [upF_n (by omega)]; exact h.2.2 z⟩
theorem nx1 {o : Nat} {r : RT} (z : (nxS o r).1 = 0) : 1 ≤ (nxS o r).2.2 := by
  rw [(nxS_0 z).2.2]
  show 1 ≤ r.2.2 + 1
  omega
theorem uml_loop {M : Nat} {g9 : Value} (hM : M < 256) (hO : OM F A o O) (ho : o ≤ 1024) (hB : isB O o) : ∀ (m i : Nat) (r : RT) (K V : Nat → Nat) (F' : Nat → Nat → Int32) (g7 g8 : Value), g7.category = 1 → g8.category = 1 → i + m = min M 2 → (r.1 = 0 → M ≤ 2) → frN F F' → RM F' r → rok o r →
    (∀ F' x g7 g8, g7.category = 1 → g8.category = 1 → frN F F' → RM F' (fls O o m r i K V).1 → PW Γ mX11_unpack 216 [.ref 57, .int (nI M), .int (nI ((fls O o m r i K V).2.1 0)), .int (nI ((fls O o m r i K V).2.2 0)), .int (nI ((fls O o m r i K V).2.1 1)), .int (nI ((fls O o m r i K V).2.2 1)), .int x, g7, g8, g9] [] (HS F' A rf lo X) 0 0 Q) →
    PW Γ mX11_unpack 66 [.ref 57, .int (nI M), .int (nI (K 0)), .int (nI (V 0)), .int (nI (K 1)), .int (nI (V 1)), .int (nI i), g7, g8, g9] [] (HS F' A rf lo X) 0 0 Q := by
  have bad : ∀ (i : Nat) (r : RT) (K V : Nat → Nat) (F' : Nat → Nat → Int32) (g7 g8 : Value), ¬ r.1 = 0 → i ≤ 2 → RM F' r → rok o r → (∀ x, PW Γ mX11_unpack 216 [.ref 57, .int (nI M), .int (nI (K 0)), .int (nI (V 0)), .int (nI (K 1)), .int (nI (V 1)), .int x, g7, g8, g9] [] (HS F' A rf lo X) 0 0 Q) →
      PW Γ mX11_unpack 66 [.ref 57, .int (nI M), .int (nI (K 0)), .int (nI (V 0)), .int (nI (K 1)), .int (nI (V 1)), .int (nI i), g7, g8, g9] [] (HS F' A rf lo X) 0 0 Q := by
    intro i r K V F' g7 g8 h hi hR hk hq
    by_cases hiM : i < M
    · refine pw_iload rfl dX11_unpack_66 ?_
      refine pw_iload_n rfl dX11_unpack_68 ?_
      refine pw_icmp_ge 216 dX11_unpack_69 (by decide) (fun q => absurd q (nI_ge hiM (by omega))) (fun _ => ?_)
      refine pw_aload_n rfl dX11_unpack_72 ?_
      refine pw_gI dX11_unpack_73 fX11_201 (by first | rfl | assumption) rfl ?_
      rw [hR.1]
      have := hk.1
      refine pw_if_ne 216 dX11_unpack_76 (by decide) (fun _ => ?_) (fun q => absurd q (nI_ne0 (by omega) (by omega)))
      exact hq _
    · refine pw_iload rfl dX11_unpack_66 ?_
      refine pw_iload_n rfl dX11_unpack_68 ?_
      refine pw_icmp_ge 216 dX11_unpack_69 (by decide) (fun _ => ?_) (fun q => absurd (nI_le (by omega) (by omega)) q)
      exact hq _
  intro m
  induction m with
  | zero =>
    intro i r K V F' g7 g8 k7 k8 hi hM2 hfr hR hk hq
    by_cases h0 : r.1 = 0
    · have := hM2 h0
      refine pw_iload rfl dX11_unpack_66 ?_
      refine pw_iload_n rfl dX11_unpack_68 ?_
      refine pw_icmp_ge 216 dX11_unpack_69 (by decide) (fun _ => ?_) (fun q => absurd (nI_le (by omega) (by omega)) q)
      exact hq F' _ _ _ k7 k8 hfr hR
    · exact bad i r K V F' g7 g8 h0 (by omega) hR hk (fun x => hq F' x g7 g8 k7 k8 hfr hR)
  | succ m ih =>
    intro i r K V F' g7 g8 k7 k8 hi hM2 hfr hR hk hq
    by_cases h0 : r.1 = 0
    · have hM3 := hM2 h0
      have hv := nxV_lt hB (o := o) (r := r)
      have hkk := fkR_ok (O := O) hk
      have hvk := fvR_ok hB hk
      have hv2 := nxV_lt hB (o := o) (r := fkR O o r)
      have hkn := nxS_rok hk
      unfold fls at hq
      rw [if_pos h0] at hq
      refine pw_iload rfl dX11_unpack_66 ?_
      refine pw_iload_n rfl dX11_unpack_68 ?_
      refine pw_icmp_ge 216 dX11_unpack_69 (by decide) (fun q => absurd q (nI_ge (by omega) (by omega))) (fun _ => ?_)
      refine pw_aload_n rfl dX11_unpack_72 ?_
      refine pw_gI dX11_unpack_73 fX11_201 (by first | rfl | assumption) rfl ?_
      rw [hR.1]
      refine pw_if_ne 216 dX11_unpack_76 (by decide) (fun q => absurd (by rw [h0]; rfl) q) (fun _ => ?_)
      refine pw_aload_n rfl dX11_unpack_79 ?_
      refine pc_V0 dX11_unpack_80 lX11_213 rfl rfl (by decide) (Nat.le_of_ble_eq_true rfl) ?_
      refine m_next (OM_fr hO (hfr _ _ (by omega)) rfl) ho hB hR hk ?_
      intro F1 hf1 hR1
      -- behind both
      have tail : ∀ F2, frN F F2 → RM F2 (fvR O o r) → PW Γ mX11_unpack 156 [.ref 57, .int (nI M), .int (nI (K 0)), .int (nI (V 0)), .int (nI (K 1)), .int (nI (V 1)), .int (nI i), .int (nI (nxV O o r)), .int (nI (nxV O o (fkR O o r))), g9] [] (HS F2 A rf lo X) 0 0 Q := by
        intro F2 hf2 hR2
        have key := ih (i + 1) (fvR O o r) (updN K i (nxV O o r)) (updN V i (nxV O o (fkR O o r))) F2 (.int (nI (nxV O o r))) (.int (nI (nxV O o (fkR O o r)))) rfl rfl (by omega) (fun _ => hM3) hf2 hR2 hvk.1 hq
        rcases (show i = 0 ∨ i = 1 by omega) with hi0 | hi1
        · subst hi0
          rw [updN_s, updN_s, updN_n (by omega), updN_n (by omega)] at key
          refine pw_iload rfl dX11_unpack_156 ?_
          refine pw_if_ne 166 dX11_unpack_158 (by decide) (fun q => absurd (rfl) q) (fun _ => ?_)
          refine pw_iload rfl dX11_unpack_161 ?_
          refine pw_goto 167 dX11_unpack_163 (by decide) ?_
          refine ps_istore_n (l' := [_, _, _, _, _, _, _, _, _, _]) dX11_unpack_167 (by decide) rfl rfl ?_
          refine pw_iload rfl dX11_unpack_168 ?_
          refine pw_if_ne 178 dX11_unpack_170 (by decide) (fun q => absurd (rfl) q) (fun _ => ?_)
          refine pw_iload rfl dX11_unpack_173 ?_
          refine pw_goto 179 dX11_unpack_175 (by decide) ?_
          refine ps_istore_n (l' := [_, _, _, _, _, _, _, _, _, _]) dX11_unpack_179 (by decide) rfl rfl ?_
          refine pw_iload rfl dX11_unpack_180 ?_
          refine pw_iconst 1 (by decide) dX11_unpack_182 ?_
          refine pw_icmp_ne 191 dX11_unpack_183 (by decide) (fun _ => ?_) (fun q => absurd q ((by decide)))
          refine pw_iload rfl dX11_unpack_191 ?_
          refine ps_istore (l' := [_, _, _, _, _, _, _, _, _, _]) dX11_unpack_193 (by decide) rfl rfl ?_
          refine pw_iload rfl dX11_unpack_195 ?_
          refine pw_iconst 1 (by decide) dX11_unpack_197 ?_
          refine pw_icmp_ne 206 dX11_unpack_198 (by decide) (fun _ => ?_) (fun q => absurd q (by decide))
          refine pw_iload rfl dX11_unpack_206 ?_
          refine ps_istore (l' := [_, _, _, _, _, _, _, _, _, _]) dX11_unpack_208 (by decide) rfl rfl ?_
          refine ps_iinc (l' := [_, _, _, _, _, _, _, _, _, _]) 1 dX11_unpack_210 (by decide) rfl (by decide) rfl rfl ?_
          refine pw_goto 66 dX11_unpack_213 (by decide) ?_
          exact key
        · subst hi1
          rw [updN_s, updN_s, updN_n (by omega), updN_n (by omega)] at key
          refine pw_iload rfl dX11_unpack_156 ?_
          refine pw_if_ne 166 dX11_unpack_158 (by decide) (fun _ => ?_) (fun q => absurd q ((by decide)))
          refine pw_iload_n rfl dX11_unpack_166 ?_
          refine ps_istore_n (l' := [_, _, _, _, _, _, _, _, _, _]) dX11_unpack_167 (by decide) rfl rfl ?_
          refine pw_iload rfl dX11_unpack_168 ?_
          refine pw_if_ne 178 dX11_unpack_170 (by decide) (fun _ => ?_) (fun q => absurd q ((by decide)))
          refine pw_iload_n rfl dX11_unpack_178 ?_
          refine ps_istore_n (l' := [_, _, _, _, _, _, _, _, _, _]) dX11_unpack_179 (by decide) rfl rfl ?_
          refine pw_iload rfl dX11_unpack_180 ?_
          refine pw_iconst 1 (by decide) dX11_unpack_182 ?_
          refine pw_icmp_ne 191 dX11_unpack_183 (by decide) (fun q => absurd (rfl) q) (fun _ => ?_)
          refine pw_iload rfl dX11_unpack_186 ?_
          refine pw_goto 193 dX11_unpack_188 (by decide) ?_
          refine ps_istore (l' := [_, _, _, _, _, _, _, _, _, _]) dX11_unpack_193 (by decide) rfl rfl ?_
          refine pw_iload rfl dX11_unpack_195 ?_
          refine pw_iconst 1 (by decide) dX11_unpack_197 ?_
          refine pw_icmp_ne 206 dX11_unpack_198 (by decide) (fun q => absurd (rfl) q) (fun _ => ?_)
          refine pw_iload rfl dX11_unpack_201 ?_
          refine pw_goto 208 dX11_unpack_203 (by decide) ?_
          refine ps_istore (l' := [_, _, _, _, _, _, _, _, _, _]) dX11_unpack_208 (by decide) rfl rfl ?_
          refine ps_iinc (l' := [_, _, _, _, _, _, _, _, _, _]) 1 dX11_unpack_210 (by decide) rfl (by decide) rfl rfl ?_
          refine pw_goto 66 dX11_unpack_213 (by decide) ?_
          exact key
      -- the second must
      have must2 : ∀ (F2 : Nat → Nat → Int32) (z : Int32), frN F F2 → RM F2 (nxS o (fkR O o r)) → ((if z = 0 then blm 1 (nxS o (fkR O o r)) else nxS o (fkR O o r)) = fvR O o r) → PW Γ mX11_unpack 152 [.ref 57, .int (nI M), .int (nI (K 0)), .int (nI (V 0)), .int (nI (K 1)), .int (nI (V 1)), .int (nI i), .int (nI (nxV O o r)), .int (nI (nxV O o (fkR O o r))), g9] [.int z, .ref 57] (HS F2 A rf lo X) 0 0 Q := by
        intro F2 z hf2 hR2 hz
        refine pw_iconst 1 (by decide) dX11_unpack_152 ?_
        refine pc_V2 dX11_unpack_153 lX11_222 rfl rfl (by decide) (Nat.le_of_ble_eq_true rfl) ?_
        refine m_must (w := 1) hR2 (nxS_rok hkk.1).1 (by omega) nx1 ?_
        intro F3 hf3 hR3
        rw [hz] at hR3
        exact tail F3 (frN_t hf2 hf3) hR3
      have value : ∀ F2, frN F F2 → RM F2 (nxS o (fkR O o r)) → PW Γ mX11_unpack 127 [.ref 57, .int (nI M), .int (nI (K 0)), .int (nI (V 0)), .int (nI (K 1)), .int (nI (V 1)), .int (nI i), .int (nI (nxV O o r)), g8, g9] [.int (nI (nxV O o (fkR O o r)))] (HS F2 A rf lo X) 0 0 Q := by
        intro F2 hf2 hR2
        refine ps_istore (l' := [_, _, _, _, _, _, _, _, _, _]) dX11_unpack_127 (by decide) rfl rfl ?_
        refine pw_aload_n rfl dX11_unpack_129 ?_
        refine pw_aload_n rfl dX11_unpack_130 ?_
        refine pw_gI dX11_unpack_131 fX11_201 (by first | rfl | assumption) rfl ?_
        rw [hR2.1]
        by_cases h2 : (nxS o (fkR O o r)).1 = 0
        · refine pw_if_ne 147 dX11_unpack_134 (by decide) (fun q => absurd (by rw [h2]; rfl) q) (fun _ => ?_)
          refine pw_iload rfl dX11_unpack_137 ?_
          refine pw_iload rfl dX11_unpack_139 ?_
          refine pc_S2 dX11_unpack_141 lX11_83 (by decide) (Nat.le_of_ble_eq_true rfl) ?_
          refine m_isFilter ?_
          by_cases ht : tkI (nI (nxV O o r)) (nI (nxV O o (fkR O o r))) = 0
          · rw [ht]
            refine pw_if_eq 151 dX11_unpack_144 (by decide) (fun _ => ?_) (fun q => absurd (rfl) q)
            refine pw_iconst 0 (by decide) dX11_unpack_151 ?_
            refine must2 F2 0 hf2 hR2 ?_
            unfold fvR
            rw [if_pos rfl, if_pos ht]
          · refine pw_if_eq 151 dX11_unpack_144 (by decide) (fun q => absurd q (ht)) (fun _ => ?_)
            refine pw_iconst 1 (by decide) dX11_unpack_147 ?_
            refine pw_goto 152 dX11_unpack_148 (by decide) ?_
            refine must2 F2 1 hf2 hR2 ?_
            unfold fvR
            rw [if_neg (by decide), if_neg ht]
        · have := (nxS_rok hkk.1).1
          refine pw_if_ne 147 dX11_unpack_134 (by decide) (fun _ => ?_) (fun q => absurd q (nI_ne0 (by omega) (by omega)))
          refine pw_iconst 1 (by decide) dX11_unpack_147 ?_
          refine pw_goto 152 dX11_unpack_148 (by decide) ?_
          refine must2 F2 1 hf2 hR2 ?_
          unfold fvR
          rw [if_neg (by decide), blm_f h2]
          split <;> rfl
      -- the first must
      have must1 : ∀ z : Int32, ((if z = 0 then blm 1 (nxS o r) else nxS o r) = fkR O o r) → PW Γ mX11_unpack 108 [.ref 57, .int (nI M), .int (nI (K 0)), .int (nI (V 0)), .int (nI (K 1)), .int (nI (V 1)), .int (nI i), .int (nI (nxV O o r)), g8, g9] [.int z, .ref 57] (HS F1 A rf lo X) 0 0 Q := by
        intro z hz
        refine pw_iconst 1 (by decide) dX11_unpack_108 ?_
        refine pc_V2 dX11_unpack_109 lX11_222 rfl rfl (by decide) (Nat.le_of_ble_eq_true rfl) ?_
        refine m_must (w := 1) hR1 hkn.1 (by omega) nx1 ?_
        intro F2 hf2 hR2
        rw [hz] at hR2
        have hf02 := frN_t hfr (frN_t hf1 hf2)
        refine pw_aload_n rfl dX11_unpack_112 ?_
        refine pw_gI dX11_unpack_113 fX11_201 (by first | rfl | assumption) rfl ?_
        rw [hR2.1]
        by_cases h2 : (fkR O o r).1 = 0
        · refine pw_if_ne 126 dX11_unpack_116 (by decide) (fun q => absurd (by rw [h2]; rfl) q) (fun _ => ?_)
          refine pw_aload_n rfl dX11_unpack_119 ?_
          refine pc_V0 dX11_unpack_120 lX11_213 rfl rfl (by decide) (Nat.le_of_ble_eq_true rfl) ?_
          refine m_next (OM_fr hO (hf02 _ _ (by omega)) rfl) ho hB hR2 hkk.1 ?_
          intro F3 hf3 hR3
          refine pw_goto 127 dX11_unpack_123 (by decide) ?_
          exact value F3 (frN_t hf02 hf3) hR3
        · have := hkk.1.1
          refine pw_if_ne 126 dX11_unpack_116 (by decide) (fun _ => ?_) (fun q => absurd q (nI_ne0 (by omega) (by omega)))
          refine pw_iconst 0 (by decide) dX11_unpack_126 ?_
          have key := value F2 hf02 (by rw [nxS_f h2]; exact hR2)
          rw [show nI (nxV O o (fkR O o r)) = 0 by rw [nxV_f h2]; rfl] at key
          exact key
      refine ps_istore (l' := [_, _, _, _, _, _, _, _, _, _]) dX11_unpack_83 (by decide) rfl rfl ?_
      refine pw_aload_n rfl dX11_unpack_85 ?_
      refine pw_aload_n rfl dX11_unpack_86 ?_
      refine pw_gI dX11_unpack_87 fX11_201 (by first | rfl | assumption) rfl ?_
      rw [hR1.1]
      by_cases h1 : (nxS o r).1 = 0
      · refine pw_if_ne 103 dX11_unpack_90 (by decide) (fun q => absurd (by rw [h1]; rfl) q) (fun _ => ?_)
        refine pw_iload rfl dX11_unpack_93 ?_
        refine pw_iconst 1 (by decide) dX11_unpack_95 ?_
        refine pw_iconst 4 (by decide) dX11_unpack_96 ?_
        refine pc_S3 dX11_unpack_97 lX11_75 (by decide) (Nat.le_of_ble_eq_true rfl) ?_
        refine m_in ?_
        by_cases hin : 1 ≤ nxV O o r ∧ nxV O o r ≤ 4
        · rw [if_pos ⟨nI_le (a := 1) hin.1 (by omega), nI_le (b := 4) hin.2 (by omega)⟩]
          refine pw_if_eq 107 dX11_unpack_100 (by decide) (fun q => absurd q (by decide)) (fun _ => ?_)
          refine pw_iconst 1 (by decide) dX11_unpack_103 ?_
          refine pw_goto 108 dX11_unpack_104 (by decide) ?_
          refine must1 1 ?_
          unfold fkR
          rw [if_neg (by decide), if_pos hin]
        · rw [if_neg (fun z => hin ⟨by
            by_cases h9 : 1 ≤ nxV O o r
            · exact h9
            · exact absurd z.1 (nI_ge (b := 1) (by omega) (by omega)), by
            by_cases h9 : nxV O o r ≤ 4
            · exact h9
            · exact absurd z.2 (nI_ge (a := 4) (by omega) (by omega))⟩)]
          refine pw_if_eq 107 dX11_unpack_100 (by decide) (fun _ => ?_) (fun q => absurd (rfl) q)
          refine pw_iconst 0 (by decide) dX11_unpack_107 ?_
          refine must1 0 ?_
          unfold fkR
          rw [if_pos rfl, if_neg hin]
      · have := hkn.1
        refine pw_if_ne 103 dX11_unpack_90 (by decide) (fun _ => ?_) (fun q => absurd q (nI_ne0 (by omega) (by omega)))
        refine pw_iconst 1 (by decide) dX11_unpack_103 ?_
        refine pw_goto 108 dX11_unpack_104 (by decide) ?_
        refine must1 1 ?_
        unfold fkR
        rw [if_neg (by decide), blm_f h1]
        split <;> rfl
    · rw [fls_f h0] at hq
      exact bad i r K V F' g7 g8 h0 (by omega) hR hk (fun x => hq F' x g7 g8 k7 k8 hfr hR)
theorem um_head {g1 g2 g3 g4 g5 g6 g7 g8 g9 : Value} (k7 : g7.category = 1) (k8 : g8.category = 1) (hO : OM F A o O) (ho : o ≤ 1024) (hB : isB O o) (hR : RM F hd0)
    (hq : ∀ F' x7 x8, (∀ i j, ¬ (i = 57 ∧ (j = 27 ∨ j = 28 ∨ j = 31 ∨ j = 33)) → F' i j = F i j) → RM F' (hd6 O o) → F' 57 33 = nI (hdC O o) → PW Γ mX11_unpack 330 [.ref 57, .int (nI (hdM O o)), .int (nI ((hdF O o).2.1 0)), .int (nI ((hdF O o).2.2 0)), .int (nI ((hdF O o).2.1 1)), .int (nI ((hdF O o).2.2 1)), .int (nI (hdP O o)), .int x7, .int x8, g9] [] (HS F' A rf lo X) 0 0 Q) :
    PW Γ mX11_unpack 26 [.ref 57, g1, g2, g3, g4, g5, g6, g7, g8, g9] [] (HS F A rf lo X) 0 0 Q := by
  have hF0 := hdF_ok (O := O) hB
  have h30 := hd3_ok (O := O) hB
  have hvm := nxV_lt hB (o := o) (r := hd0)
  have hMe : nxV O o hd0 = hdM O o := rfl
  rw [hMe] at hvm
  have hvp := nxV_lt hB (o := o) (r := (hdF O o).1)
  have hP : nxV O o (hdF O o).1 = hdP O o := rfl
  have hv3 := nxV_lt hB (o := o) (r := hd3 O o)
  have hv4 := nxV_lt hB (o := o) (r := nxS o (hd3 O o))
  have hc : hdC O o < 70000 := by unfold hdC; omega
  refine pw_aload_n rfl dX11_unpack_26 ?_
  refine pc_V0 dX11_unpack_27 lX11_213 rfl rfl (by decide) (Nat.le_of_ble_eq_true rfl) ?_
  refine m_next hO ho hB hR hd0_ok ?_
  intro F1 hf1 hR1
  rw [hMe]
  -- the last must
  have must4 : ∀ (F7 : Nat → Nat → Int32) (K0 V0 K1 V1 p x7 x8 z : Int32), K0 = nI ((hdF O o).2.1 0) → V0 = nI ((hdF O o).2.2 0) → K1 = nI ((hdF O o).2.1 1) → V1 = nI ((hdF O o).2.2 1) → p = nI (hdP O o) → (∀ i j, ¬ (i = 57 ∧ (j = 27 ∨ j = 28 ∨ j = 31 ∨ j = 33)) → F7 i j = F i j) → RM F7 (nxS o (nxS o (hd3 O o))) → F7 57 33 = nI (hdC O o) → ((if z = 0 then blm 1 (nxS o (nxS o (hd3 O o))) else nxS o (nxS o (hd3 O o))) = hd6 O o) → PW Γ mX11_unpack 326 [.ref 57, .int (nI (hdM O o)), .int K0, .int V0, .int K1, .int V1, .int p, .int x7, .int x8, g9] [.int z, .ref 57] (HS F7 A rf lo X) 0 0 Q := by
    intro F7 K0 V0 K1 V1 p x7 x8 z e1 e2 e3 e4 e5 hf7 hR7 h33 hz
    refine pw_iconst 1 (by decide) dX11_unpack_326 ?_
    refine pc_V2 dX11_unpack_327 lX11_222 rfl rfl (by decide) (Nat.le_of_ble_eq_true rfl) ?_
    refine m_must (w := 1) hR7 (nxS_rok (nxS_rok h30.1)).1 (by omega) nx1 ?_
    intro F8 hf8 hR8
    rw [hz] at hR8
    rw [e1, e2, e3, e4, e5]
    exact hq F8 x7 x8 (fun i j k => by rw [hf8 i j (by omega)]; exact hf7 i j k) hR8 (by rw [hf8 57 33 (by omega)]; exact h33)
  have low : ∀ (F6 : Nat → Nat → Int32) (K0 V0 K1 V1 p : Int32) (y8 : Value), K0 = nI ((hdF O o).2.1 0) → V0 = nI ((hdF O o).2.2 0) → K1 = nI ((hdF O o).2.1 1) → V1 = nI ((hdF O o).2.2 1) → p = nI (hdP O o) → frN F F6 → RM F6 (nxS o (nxS o (hd3 O o))) → PW Γ mX11_unpack 288 [.ref 57, .int (nI (hdM O o)), .int K0, .int V0, .int K1, .int V1, .int p, .int (nI (nxV O o (hd3 O o))), y8, g9] [.int (nI (nxV O o (nxS o (hd3 O o))))] (HS F6 A rf lo X) 0 0 Q := by
    intro F6 K0 V0 K1 V1 p y8 e1 e2 e3 e4 e5 hf6 hR6
    refine ps_istore (l' := [_, _, _, _, _, _, _, _, _, _]) dX11_unpack_288 (by decide) rfl rfl ?_
    refine pw_aload_n rfl dX11_unpack_290 ?_
    refine pw_sipush 256 (by decide) dX11_unpack_291 ?_
    refine pw_iload rfl dX11_unpack_294 ?_
    rw [show (256 : Int32) = nI 256 from rfl]
    refine pw_imul dX11_unpack_296 ?_
    refine pw_iload rfl dX11_unpack_297 ?_
    rw [pk_mul]
    refine pw_iadd dX11_unpack_299 ?_
    rw [nI_add, show 256 * nxV O o (hd3 O o) + nxV O o (nxS o (hd3 O o)) = hdC O o from rfl]
    refine pw_pI dX11_unpack_300 fX11_226 (by first | rfl | assumption) rfl ⟨rfl, rfl⟩ ?_
    refine pw_aload_n rfl dX11_unpack_303 ?_
    refine pw_aload_n rfl dX11_unpack_304 ?_
    refine pw_gI dX11_unpack_305 fX11_201 (by first | rfl | assumption) rfl ?_
    rw [upF_n (by omega), hR6.1]
    have hR7 := RM_up (k := 33) (v := nI (hdC O o)) hR6 (by omega)
    have hf7 : ∀ i j, ¬ (i = 57 ∧ (j = 27 ∨ j = 28 ∨ j = 31 ∨ j = 33)) → upF F6 57 33 (nI (hdC O o)) i j = F i j := fun i j k => by rw [upF_n (by omega)]; exact hf6 i j (by omega)
    by_cases h1 : (nxS o (nxS o (hd3 O o))).1 = 0
    · refine pw_if_ne 321 dX11_unpack_308 (by decide) (fun q => absurd (by rw [h1]; rfl) q) (fun _ => ?_)
      refine pw_aload_n rfl dX11_unpack_311 ?_
      refine pw_gI dX11_unpack_312 fX11_226 (by first | rfl | assumption) rfl ?_
      rw [upF_s]
      by_cases hc3 : hdC O o ≤ 300
      · refine pw_sipush 300 (by decide) dX11_unpack_315 ?_
        refine pw_icmp_gt 325 dX11_unpack_318 (by decide) (fun q => absurd q (nI_nlt (a := 300) hc3 (by omega))) (fun _ => ?_)
        refine pw_iconst 1 (by decide) dX11_unpack_321 ?_
        refine pw_goto 326 dX11_unpack_322 (by decide) ?_
        refine must4 _ K0 V0 K1 V1 p _ _ 1 e1 e2 e3 e4 e5 hf7 hR7 upF_s ?_
        unfold hd6
        rw [if_neg (by decide), if_pos hc3]
      · refine pw_sipush 300 (by decide) dX11_unpack_315 ?_
        refine pw_icmp_gt 325 dX11_unpack_318 (by decide) (fun _ => ?_) (fun q => absurd (nI_lt (a := 300) (by omega) (by omega)) q)
        refine pw_iconst 0 (by decide) dX11_unpack_325 ?_
        refine must4 _ K0 V0 K1 V1 p _ _ 0 e1 e2 e3 e4 e5 hf7 hR7 upF_s ?_
        unfold hd6
        rw [if_pos rfl, if_neg hc3]
    · have := (nxS_rok (nxS_rok h30.1)).1
      refine pw_if_ne 321 dX11_unpack_308 (by decide) (fun _ => ?_) (fun q => absurd q (nI_ne0 (by omega) (by omega)))
      refine pw_iconst 1 (by decide) dX11_unpack_321 ?_
      refine pw_goto 326 dX11_unpack_322 (by decide) ?_
      refine must4 _ K0 V0 K1 V1 p _ _ 1 e1 e2 e3 e4 e5 hf7 hR7 upF_s ?_
      unfold hd6
      rw [if_neg (by decide), blm_f h1]
      split <;> rfl
  have high : ∀ (F5 : Nat → Nat → Int32) (K0 V0 K1 V1 p : Int32) (y7 y8 : Value), K0 = nI ((hdF O o).2.1 0) → V0 = nI ((hdF O o).2.2 0) → K1 = nI ((hdF O o).2.1 1) → V1 = nI ((hdF O o).2.2 1) → p = nI (hdP O o) → frN F F5 → RM F5 (nxS o (hd3 O o)) → PW Γ mX11_unpack 271 [.ref 57, .int (nI (hdM O o)), .int K0, .int V0, .int K1, .int V1, .int p, y7, y8, g9] [.int (nI (nxV O o (hd3 O o)))] (HS F5 A rf lo X) 0 0 Q := by
    intro F5 K0 V0 K1 V1 p y7 y8 e1 e2 e3 e4 e5 hf5 hR5
    refine ps_istore (l' := [_, _, _, _, _, _, _, _, _, _]) dX11_unpack_271 (by decide) rfl rfl ?_
    refine pw_aload_n rfl dX11_unpack_273 ?_
    refine pw_gI dX11_unpack_274 fX11_201 (by first | rfl | assumption) rfl ?_
    rw [hR5.1]
    by_cases h1 : (nxS o (hd3 O o)).1 = 0
    · refine pw_if_ne 287 dX11_unpack_277 (by decide) (fun q => absurd (by rw [h1]; rfl) q) (fun _ => ?_)
      refine pw_aload_n rfl dX11_unpack_280 ?_
      refine pc_V0 dX11_unpack_281 lX11_213 rfl rfl (by decide) (Nat.le_of_ble_eq_true rfl) ?_
      refine m_next (OM_fr hO (hf5 _ _ (by omega)) rfl) ho hB hR5 (nxS_rok h30.1) ?_
      intro F6 hf6 hR6
      refine pw_goto 288 dX11_unpack_284 (by decide) ?_
      exact low F6 K0 V0 K1 V1 p y8 e1 e2 e3 e4 e5 (frN_t hf5 hf6) hR6
    · have := (nxS_rok h30.1).1
      refine pw_if_ne 287 dX11_unpack_277 (by decide) (fun _ => ?_) (fun q => absurd q (nI_ne0 (by omega) (by omega)))
      refine pw_iconst 0 (by decide) dX11_unpack_287 ?_
      have key := low F5 K0 V0 K1 V1 p y8 e1 e2 e3 e4 e5 hf5 (by rw [nxS_f (r := nxS o (hd3 O o)) h1]; exact hR5)
      rw [show nI (nxV O o (nxS o (hd3 O o))) = 0 by rw [nxV_f h1]; rfl] at key
      exact key
  have must3 : ∀ (F4 : Nat → Nat → Int32) (K0 V0 K1 V1 p : Int32) (y7 y8 : Value) (z : Int32), K0 = nI ((hdF O o).2.1 0) → V0 = nI ((hdF O o).2.2 0) → K1 = nI ((hdF O o).2.1 1) → V1 = nI ((hdF O o).2.2 1) → p = nI (hdP O o) → frN F F4 → RM F4 (nxS o (hdF O o).1) → ((if z = 0 then blm 1 (nxS o (hdF O o).1) else nxS o (hdF O o).1) = hd3 O o) → PW Γ mX11_unpack 252 [.ref 57, .int (nI (hdM O o)), .int K0, .int V0, .int K1, .int V1, .int p, y7, y8, g9] [.int z, .ref 57] (HS F4 A rf lo X) 0 0 Q := by
    intro F4 K0 V0 K1 V1 p y7 y8 z e1 e2 e3 e4 e5 hf4 hR4 hz
    refine pw_iconst 1 (by decide) dX11_unpack_252 ?_
    refine pc_V2 dX11_unpack_253 lX11_222 rfl rfl (by decide) (Nat.le_of_ble_eq_true rfl) ?_
    refine m_must (w := 1) hR4 (nxS_rok hF0.1).1 (by omega) nx1 ?_
    intro F5 hf5 hR5
    rw [hz] at hR5
    have hf05 := frN_t hf4 hf5
    refine pw_aload_n rfl dX11_unpack_256 ?_
    refine pw_gI dX11_unpack_257 fX11_201 (by first | rfl | assumption) rfl ?_
    rw [hR5.1]
    by_cases h1 : (hd3 O o).1 = 0
    · refine pw_if_ne 270 dX11_unpack_260 (by decide) (fun q => absurd (by rw [h1]; rfl) q) (fun _ => ?_)
      refine pw_aload_n rfl dX11_unpack_263 ?_
      refine pc_V0 dX11_unpack_264 lX11_213 rfl rfl (by decide) (Nat.le_of_ble_eq_true rfl) ?_
      refine m_next (OM_fr hO (hf05 _ _ (by omega)) rfl) ho hB hR5 h30.1 ?_
      intro F6 hf6 hR6
      refine pw_goto 271 dX11_unpack_267 (by decide) ?_
      exact high F6 K0 V0 K1 V1 p y7 y8 e1 e2 e3 e4 e5 (frN_t hf05 hf6) hR6
    · have := h30.1.1
      refine pw_if_ne 270 dX11_unpack_260 (by decide) (fun _ => ?_) (fun q => absurd q (nI_ne0 (by omega) (by omega)))
      refine pw_iconst 0 (by decide) dX11_unpack_270 ?_
      have key := high F5 K0 V0 K1 V1 p y7 y8 e1 e2 e3 e4 e5 hf05 (by rw [nxS_f (r := hd3 O o) h1]; exact hR5)
      rw [show nI (nxV O o (hd3 O o)) = 0 by rw [nxV_f h1]; rfl] at key
      exact key
  have pack : ∀ (F3 : Nat → Nat → Int32) (K0 V0 K1 V1 : Int32) (y6 y7 y8 : Value), K0 = nI ((hdF O o).2.1 0) → V0 = nI ((hdF O o).2.2 0) → K1 = nI ((hdF O o).2.1 1) → V1 = nI ((hdF O o).2.2 1) → frN F F3 → RM F3 (nxS o (hdF O o).1) → PW Γ mX11_unpack 231 [.ref 57, .int (nI (hdM O o)), .int K0, .int V0, .int K1, .int V1, y6, y7, y8, g9] [.int (nI (hdP O o))] (HS F3 A rf lo X) 0 0 Q := by
    intro F3 K0 V0 K1 V1 y6 y7 y8 e1 e2 e3 e4 hf3 hR3
    rw [hP] at hvp
    refine ps_istore (l' := [_, _, _, _, _, _, _, _, _, _]) dX11_unpack_231 (by decide) rfl rfl ?_
    refine pw_aload_n rfl dX11_unpack_233 ?_
    refine pw_aload_n rfl dX11_unpack_234 ?_
    refine pw_gI dX11_unpack_235 fX11_201 (by first | rfl | assumption) rfl ?_
    rw [hR3.1]
    by_cases h1 : (nxS o (hdF O o).1).1 = 0
    · refine pw_if_ne 247 dX11_unpack_238 (by decide) (fun q => absurd (by rw [h1]; rfl) q) (fun _ => ?_)
      refine pw_iload rfl dX11_unpack_241 ?_
      refine pw_iconst 5 (by decide) dX11_unpack_243 ?_
      by_cases h4 : hdP O o ≤ 4
      · refine pw_icmp_ge 251 dX11_unpack_244 (by decide) (fun q => absurd q (nI_ge (b := 5) (by omega) (by omega))) (fun _ => ?_)
        refine pw_iconst 1 (by decide) dX11_unpack_247 ?_
        refine pw_goto 252 dX11_unpack_248 (by decide) ?_
        refine must3 F3 K0 V0 K1 V1 _ y7 y8 1 e1 e2 e3 e4 rfl hf3 hR3 ?_
        unfold hd3
        rw [if_neg (by decide), if_pos h4]
      · refine pw_icmp_ge 251 dX11_unpack_244 (by decide) (fun _ => ?_) (fun q => absurd (nI_le (a := 5) (by omega) (by omega)) q)
        refine pw_iconst 0 (by decide) dX11_unpack_251 ?_
        refine must3 F3 K0 V0 K1 V1 _ y7 y8 0 e1 e2 e3 e4 rfl hf3 hR3 ?_
        unfold hd3
        rw [if_pos rfl, if_neg h4]
    · have := (nxS_rok hF0.1).1
      refine pw_if_ne 247 dX11_unpack_238 (by decide) (fun _ => ?_) (fun q => absurd q (nI_ne0 (by omega) (by omega)))
      refine pw_iconst 1 (by decide) dX11_unpack_247 ?_
      refine pw_goto 252 dX11_unpack_248 (by decide) ?_
      refine must3 F3 K0 V0 K1 V1 _ y7 y8 1 e1 e2 e3 e4 rfl hf3 hR3 ?_
      unfold hd3
      rw [if_neg (by decide), blm_f h1]
      split <;> rfl
  have must0 : ∀ z : Int32, ((if z = 0 then blm 1 (nxS o hd0) else nxS o hd0) = hdA O o) → PW Γ mX11_unpack 49 [.ref 57, .int (nI (hdM O o)), g2, g3, g4, g5, g6, g7, g8, g9] [.int z, .ref 57] (HS F1 A rf lo X) 0 0 Q := by
    intro z hz
    refine pw_iconst 1 (by decide) dX11_unpack_49 ?_
    refine pc_V2 dX11_unpack_50 lX11_222 rfl rfl (by decide) (Nat.le_of_ble_eq_true rfl) ?_
    refine m_must (w := 1) hR1 (nxS_rok hd0_ok).1 (by omega) nx1 ?_
    intro F2 hf2 hR2
    rw [hz] at hR2
    have hf02 := frN_t hf1 hf2
    refine pw_iconst 0 (by decide) dX11_unpack_53 ?_
    refine ps_istore_n (l' := [_, _, _, _, _, _, _, _, _, _]) dX11_unpack_54 (by decide) rfl rfl ?_
    refine pw_iconst 0 (by decide) dX11_unpack_55 ?_
    refine ps_istore_n (l' := [_, _, _, _, _, _, _, _, _, _]) dX11_unpack_56 (by decide) rfl rfl ?_
    refine pw_iconst 0 (by decide) dX11_unpack_57 ?_
    refine ps_istore (l' := [_, _, _, _, _, _, _, _, _, _]) dX11_unpack_58 (by decide) rfl rfl ?_
    refine pw_iconst 0 (by decide) dX11_unpack_60 ?_
    refine ps_istore (l' := [_, _, _, _, _, _, _, _, _, _]) dX11_unpack_61 (by decide) rfl rfl ?_
    refine pw_iconst 0 (by decide) dX11_unpack_63 ?_
    refine ps_istore (l' := [_, _, _, _, _, _, _, _, _, _]) dX11_unpack_64 (by decide) rfl rfl ?_
    refine uml_loop (F := F) (A := A) (M := hdM O o) hvm hO ho hB (min (hdM O o) 2) 0 (hdA O o) (fun _ => 0) (fun _ => 0) F2 g7 g8 k7 k8 (by omega) hdA_ok.2 hf02 hR2 hdA_ok.1 ?_
    intro F3 x y7 y8 _ _ hf3 hR3
    have hd : fls O o (min (hdM O o) 2) (hdA O o) 0 (fun _ => 0) (fun _ => 0) = hdF O o := rfl
    rw [hd] at hR3 ⊢
    refine pw_aload_n rfl dX11_unpack_216 ?_
    refine pw_gI dX11_unpack_217 fX11_201 (by first | rfl | assumption) rfl ?_
    rw [hR3.1]
    by_cases h1 : (hdF O o).1.1 = 0
    · refine pw_if_ne 230 dX11_unpack_220 (by decide) (fun q => absurd (by rw [h1]; rfl) q) (fun _ => ?_)
      refine pw_aload_n rfl dX11_unpack_223 ?_
      refine pc_V0 dX11_unpack_224 lX11_213 rfl rfl (by decide) (Nat.le_of_ble_eq_true rfl) ?_
      refine m_next (OM_fr hO (hf3 _ _ (by omega)) rfl) ho hB hR3 hF0.1 ?_
      intro F4 hf4 hR4
      rw [hP]
      refine pw_goto 231 dX11_unpack_227 (by decide) ?_
      exact pack F4 _ _ _ _ _ y7 y8 rfl rfl rfl rfl (frN_t hf3 hf4) hR4
    · have := hF0.1.1
      refine pw_if_ne 230 dX11_unpack_220 (by decide) (fun _ => ?_) (fun q => absurd q (nI_ne0 (by omega) (by omega)))
      refine pw_iconst 0 (by decide) dX11_unpack_230 ?_
      have key := pack F3 _ _ _ _ (.int x) y7 y8 rfl rfl rfl rfl hf3 (by rw [nxS_f h1]; exact hR3)
      rw [show nI (hdP O o) = 0 by rw [← hP, nxV_f h1]; rfl] at key
      exact key
  refine ps_istore_n (l' := [_, _, _, _, _, _, _, _, _, _]) dX11_unpack_30 (by decide) rfl rfl ?_
  refine pw_aload_n rfl dX11_unpack_31 ?_
  refine pw_aload_n rfl dX11_unpack_32 ?_
  refine pw_gI dX11_unpack_33 fX11_201 (by first | rfl | assumption) rfl ?_
  rw [hR1.1]
  by_cases h1 : (nxS o hd0).1 = 0
  · refine pw_if_ne 44 dX11_unpack_36 (by decide) (fun q => absurd (by rw [h1]; rfl) q) (fun _ => ?_)
    refine pw_iload_n rfl dX11_unpack_39 ?_
    refine pw_iconst 3 (by decide) dX11_unpack_40 ?_
    by_cases h2 : hdM O o ≤ 2
    · refine pw_icmp_ge 48 dX11_unpack_41 (by decide) (fun q => absurd q (nI_ge (b := 3) (by omega) (by omega))) (fun _ => ?_)
      refine pw_iconst 1 (by decide) dX11_unpack_44 ?_
      refine pw_goto 49 dX11_unpack_45 (by decide) ?_
      refine must0 1 ?_
      unfold hdA
      rw [if_neg (by decide), if_pos h2]
    · refine pw_icmp_ge 48 dX11_unpack_41 (by decide) (fun _ => ?_) (fun q => absurd (nI_le (a := 3) (by omega) (by omega)) q)
      refine pw_iconst 0 (by decide) dX11_unpack_48 ?_
      refine must0 0 ?_
      unfold hdA
      rw [if_pos rfl, if_neg h2]
  · have := (nxS_rok (o := o) hd0_ok).1
    refine pw_if_ne 44 dX11_unpack_36 (by decide) (fun _ => ?_) (fun q => absurd q (nI_ne0 (by omega) (by omega)))
    refine pw_iconst 1 (by decide) dX11_unpack_44 ?_
    refine pw_goto 49 dX11_unpack_45 (by decide) ?_
    refine must0 1 ?_
    unfold hdA
    rw [if_neg (by decide), blm_f h1]
    split <;> rfl
end
