/-! PREFIX read again: the reference's readPrefix, readCode -/
theorem nlz_knz {e : Nat → Nat} {l : Nat} (hl : 0 < l) : ∀ z, nlz e l z ≤ knz e z
  | 0 => Nat.le_refl 0
  | z + 1 => by
    have ih := nlz_knz (e := e) hl z
    show nlz e l z + (if e z = l then 1 else 0) ≤ knz e z + (if 0 < e z then 1 else 0)
    by_cases h : e z = l
    · rw [if_pos h, if_pos (by omega)]; omega
    · rw [if_neg h]; omega
theorem fb_one {e : Nat → Nat} {c : Nat} (h15 : ∀ x, e x ≤ 15) (h1 : knz e 256 = 1) (h2 : nlz e 1 256 = 1) (hc : c < 256) (hc0 : 0 < e c) : fb e 1 0 256 = c := by
  have hf := fb_ok (e := e) (l := 1) (j := 0) 256 (by omega)
  have k1 := rkp_lt h15 hf.1 (by omega)
  have k2 := rkp_lt h15 hc hc0
  exact rkp_inj hf.1 hc (by omega) hc0 (by omega)
section
variable {Γ : Nat × (Nat → Int32)} {F A : Nat → Nat → Int32} {lo : Int64} {X : PH} {Q : Option Value → PH → Prop} {o n : Nat} {O : Nat → Int32} {rf : Nat}
theorem umz_loop {K : Nat} {x2 x3 : Int32} {g5 g6 : Value} : ∀ (m j : Nat) (A' : Nat → Nat → Int32), j + m = 256 → (∀ i, ¬ i = 67 → A' i = A i) → (∀ b, b < j → A' 67 b = 0) →
    (∀ A', (∀ i, ¬ i = 67 → A' i = A i) → (∀ b, b < 256 → A' 67 b = 0) → PW Γ mX11_readPrefix 36 [.ref 57, .int (nI K), .int x2, .int x3, .int (nI 256), g5, g6] [] (HS F A' rf lo X) 0 0 Q) →
    PW Γ mX11_readPrefix 14 [.ref 57, .int (nI K), .int x2, .int x3, .int (nI j), g5, g6] [] (HS F A' rf lo X) 0 0 Q := by
  intro m
  induction m with
  | zero =>
    intro j A' hj hA h0 hq
    rw [show j = 256 by omega] at h0 ⊢
    refine pw_iload rfl dX11_readPrefix_14 ?_
    refine pw_sipush 256 (by decide) dX11_readPrefix_16 ?_
    refine pw_icmp_ge 36 dX11_readPrefix_19 (by decide) (fun _ => ?_) (fun q => absurd (by decide) q)
    exact hq A' hA h0
  | succ m ih =>
    intro j A' hj hA h0 hq
    refine pw_iload rfl dX11_readPrefix_14 ?_
    refine pw_sipush 256 (by decide) dX11_readPrefix_16 ?_
    refine pw_icmp_ge 36 dX11_readPrefix_19 (by decide) (fun q => absurd q (nI_ge (b := 256) (by omega) (by omega))) (fun _ => ?_)
    refine pw_aload_n rfl dX11_readPrefix_22 ?_
    refine pw_gC dX11_readPrefix_23 fX11_37 (by first | rfl | assumption) rfl (by first | rfl | assumption) ?_
    refine pw_iload rfl dX11_readPrefix_26 ?_
    refine pw_iconst 0 (by decide) dX11_readPrefix_28 ?_
    refine pw_sI dX11_readPrefix_29 (by first | rfl | assumption) (by first | assumption | exact vp_in_nI (by omega) (by omega)) ?_
    refine ps_iinc (l' := [_, _, _, _, _, _, _]) 1 dX11_readPrefix_30 (by decide) rfl (by decide) rfl rfl ?_
    refine pw_goto 14 dX11_readPrefix_33 (by decide) ?_
    rw [nI_1, nI_clamp (by omega)]
    refine ih (j + 1) _ (by omega) (fun i hi => by rw [stA_n hi]; exact hA i hi) (fun b hb => ?_) hq
    rw [stA_s]
    by_cases h : b = j
    · rw [h, upd_s]
    · rw [upd_n h]; exact h0 b (by omega)
def pgF (O : Nat → Int32) (o m : Nat) (r : RT) (l : Nat) (e : Nat → Nat) : RT := if m = 0 then r else wh1 (pgs O o m r l e).2.1 (pgs O o m r l e).1
theorem umg_loop {K : Nat} (hK : K ≤ 256) (hO : OM F A o O) (ho : o ≤ 1024) (hB : isB O o) : ∀ (m i l : Nat) (r : RT) (e : Nat → Nat) (x : Int32) (F' A' : Nat → Nat → Int32) (g5 g6 : Value), g5.category = 1 → g6.category = 1 → i + m = K → x = nI l - 1 → l ≤ 256 → frN F F' → (∀ i, ¬ i = 67 → A' i = A i) → RM F' r → rok o r → (∀ b, b < 256 → A' 67 b = nI (e b)) → (r.1 = 0 → (∀ x, l ≤ x → e x = 0) ∧ knz e 256 = i) →
    (∀ F' A' x s i g5 g6, frN F F' → (∀ i, ¬ i = 67 → A' i = A i) → RM F' (pgF O o m r l e) → ((pgF O o m r l e).1 = 0 → (∀ b, b < 256 → A' 67 b = nI ((pgs O o m r l e).2.1 b)) ∧ x = nI (pgs O o m r l e).2.2 - 1) → PW Γ mX11_readPrefix 199 [.ref 57, .int (nI K), .int x, .int s, .int i, g5, g6] [] (HS F' A' rf lo X) 0 0 Q) →
    PW Γ mX11_readPrefix 39 [.ref 57, .int (nI K), .int x, .int (nI (kr e 16)), .int (nI i), g5, g6] [] (HS F' A' rf lo X) 0 0 Q := by
  intro m
  induction m with
  | zero =>
    intro i l r e x F' A' g5 g6 k5 k6 hi hx hl hfr hA hR hk h67 he hq
    have hi2 : i = K := by omega
    subst hi2
    refine pw_iload rfl dX11_readPrefix_39 ?_
    refine pw_iload_n rfl dX11_readPrefix_41 ?_
    refine pw_icmp_ge 199 dX11_readPrefix_42 (by decide) (fun _ => ?_) (fun q => absurd (nI_le (Nat.le_refl _) (by omega)) q)
    refine hq F' A' _ _ _ _ _ hfr hA ?_ (fun _ => ⟨h67, hx⟩)
    unfold pgF
    rw [if_pos rfl]
    exact hR
  | succ m ih =>
    intro i l r e x F' A' g5 g6 k5 k6 hi hx hl hfr hA hR hk h67 he hq
    have hv := nxV_lt hB (o := o) (r := r)
    have hv2 := nxV_lt hB (o := o) (r := rs1 O o r l)
    have hs := rs1_ok (O := O) (l := l) hk
    have hg := pgR_ok (O := O) (l := l) hk
    have hkrl := kr_le (e := e) 16
    unfold pgF at hq
    rw [if_neg (Nat.succ_ne_zero m)] at hq
    unfold pgs at hq
    refine pw_iload rfl dX11_readPrefix_39 ?_
    refine pw_iload_n rfl dX11_readPrefix_41 ?_
    refine pw_icmp_ge 199 dX11_readPrefix_42 (by decide) (fun q => absurd q (nI_ge (by omega) (by omega))) (fun _ => ?_)
    refine pw_aload_n rfl dX11_readPrefix_45 ?_
    refine pw_gI dX11_readPrefix_46 fX11_201 (by first | rfl | assumption) rfl ?_
    rw [hR.1]
    by_cases h0 : r.1 = 0
    · rw [if_pos h0] at hq
      obtain ⟨he0, hke⟩ := he h0
      refine pw_if_ne 199 dX11_readPrefix_49 (by decide) (fun q => absurd (by rw [h0]; rfl) q) (fun _ => ?_)
      refine pw_aload_n rfl dX11_readPrefix_52 ?_
      refine pc_V0 dX11_readPrefix_53 lX11_213 rfl rfl (by decide) (Nat.le_of_ble_eq_true rfl) ?_
      refine m_next (OM_fr hO (hfr _ _ (by omega)) (hA _ (by omega))) ho hB hR hk ?_
      intro F1 hf1 hR1
      have hkn := nxS_rok hk
      have hxl : nI (nxV O o r) = nI (nxV O o r + 1) - 1 := (pk_sub (a := nxV O o r + 1) (b := 1) (by omega)).symm
      -- behind the LENGTH
      have tail : ∀ (F2 : Nat → Nat → Int32) (z6 : Int32), frN F F2 → RM F2 (pgR O o r l) → ((pgR O o r l).1 = 0 → z6 = nI (nxV O o (rs1 O o r l))) → PW Γ mX11_readPrefix 129 [.ref 57, .int (nI K), .int (nI (nxV O o r)), .int (nI (kr e 16)), .int (nI i), .int (nI (nxV O o r)), .int z6] [] (HS F2 A' rf lo X) 0 0 Q := by
        intro F2 z6 hf2 hR2 hz
        refine pw_aload_n rfl dX11_readPrefix_129 ?_
        refine pw_gI dX11_readPrefix_130 fX11_201 (by first | rfl | assumption) rfl ?_
        rw [hR2.1]
        by_cases h2 : (pgR O o r l).1 = 0
        · rw [if_pos h2] at hq
          obtain ⟨_, g1, g2, g3, g4, g5', g6'⟩ := hg.2 h2
          have eb : e (nxV O o r) = 0 := he0 _ g1
          rw [hz h2]
          obtain ⟨v, hvd⟩ : ∃ v, v = nxV O o (rs1 O o r l) := ⟨_, rfl⟩
          obtain ⟨b, hbd⟩ : ∃ b, b = nxV O o r := ⟨_, rfl⟩
          rw [← hvd] at g3 g4 hv2 hq ⊢
          rw [← hbd] at eb hv hq hxl g1 ⊢
          have hp : 2 ^ (15 - v) ≤ 2 ^ 14 := Nat.pow_le_pow_right (by omega) (by omega)
          have hkr : kr (updN e b v) 16 = kr e 16 + 2 ^ (15 - v) := by rw [kr_upd eb hv (by omega), if_pos (by omega)]
          have hkn2 : knz (updN e b v) 256 = i + 1 := by rw [knz_upd eb (by omega), if_pos hv, hke]
          have hnl2 : nlz (updN e b v) 1 256 = nlz e 1 256 + (if b < 256 ∧ v = 1 then 1 else 0) := nlz_upd eb (by omega) 256
          have hn1 := nlz_knz (e := e) (l := 1) (by omega) 256
          have hkrl2 := kr_le (e := updN e b v) 16
          have h67' : ∀ y, y < 256 → stA A' 67 (upd (A' 67) b (nI v)) 67 y = nI (updN e b v y) := by
            intro y hy
            rw [stA_s]
            by_cases hyb : y = b
            · rw [hyb, upd_s, updN_s]
            · rw [upd_n hyb, updN_n hyb]; exact h67 y hy
          have mus : ∀ z : Int32, (z = 0 → m = 0 ∧ ¬ whl (updN e b v)) → (¬ z = 0 → m = 0 → whl (updN e b v)) → PW Γ mX11_readPrefix 189 [.ref 57, .int (nI K), .int (nI b), .int (nI (kr (updN e b v) 16)), .int (nI i), .int (nI b), .int (nI v)] [.int z, .ref 57] (HS F2 (stA A' 67 (upd (A' 67) b (nI v))) rf lo X) 0 0 Q := by
            intro z z1 z2
            refine pw_iconst 4 (by decide) dX11_readPrefix_189 ?_
            refine pc_V2 dX11_readPrefix_190 lX11_222 rfl rfl (by decide) (Nat.le_of_ble_eq_true rfl) ?_
            refine m_must (w := 4) hR2 hg.1.1 (by omega) (fun _ => g6') ?_
            intro F3 hf3 hR3
            refine ps_iinc (l' := [_, _, _, _, _, _, _]) 1 dX11_readPrefix_193 (by decide) rfl (by decide) rfl rfl ?_
            refine pw_goto 39 dX11_readPrefix_196 (by decide) ?_
            rw [nI_1]
            by_cases hm : m = 0
            · have hR4 : RM F3 (wh1 (updN e b v) (pgR O o r l)) := by
                unfold wh1
                by_cases hz : z = 0
                · rw [if_pos hz] at hR3
                  rw [if_neg (z1 hz).2]
                  exact hR3
                · rw [if_neg hz] at hR3
                  rw [if_pos (z2 hz hm)]
                  exact hR3
              refine ih (i + 1) (b + 1) (wh1 (updN e b v) (pgR O o r l)) (updN e b v) _ F3 _ _ _ rfl rfl (by omega) hxl (by omega) (frN_t hf2 hf3) (fun i hi => by rw [stA_n hi]; exact hA i hi) hR4 (wh1_ok hg.1) h67' (fun _ => ⟨fun y hy => by rw [updN_n (by omega)]; exact he0 y (by omega), hkn2⟩) ?_
              subst hm
              exact hq
            · have hz : ¬ z = 0 := fun h9 => hm (z1 h9).1
              rw [if_neg hz] at hR3
              refine ih (i + 1) (b + 1) (pgR O o r l) (updN e b v) _ F3 _ _ _ rfl rfl (by omega) hxl (by omega) (frN_t hf2 hf3) (fun i hi => by rw [stA_n hi]; exact hA i hi) hR3 hg.1 h67' (fun _ => ⟨fun y hy => by rw [updN_n (by omega)]; exact he0 y (by omega), hkn2⟩) ?_
              unfold pgF
              rw [if_neg hm]
              exact hq
          refine pw_if_ne 193 dX11_readPrefix_133 (by decide) (fun q => absurd (by rw [h2]; rfl) q) (fun _ => ?_)
          refine pw_aload_n rfl dX11_readPrefix_136 ?_
          refine pw_gC dX11_readPrefix_137 fX11_37 (by first | rfl | assumption) rfl (by first | rfl | assumption) ?_
          refine pw_iload rfl dX11_readPrefix_140 ?_
          refine pw_iload rfl dX11_readPrefix_142 ?_
          refine pw_sI dX11_readPrefix_144 (by first | rfl | assumption) (by first | assumption | exact vp_in_nI (by omega) (by omega)) ?_
          refine pw_iload_n rfl dX11_readPrefix_145 ?_
          refine pw_iconst 1 (by decide) dX11_readPrefix_146 ?_
          refine pw_bipush 15 (by decide) dX11_readPrefix_147 ?_
          refine pw_iload rfl dX11_readPrefix_149 ?_
          rw [nI_clamp (by omega), show (15 : Int32) = nI 15 from rfl, show (1 : Int32) = nI 1 from rfl]
          refine pw_isub dX11_readPrefix_151 ?_
          rw [pk_sub (by omega)]
          refine pw_ishl dX11_readPrefix_152 ?_
          rw [nI_shl (by omega) (by omega), Nat.one_mul]
          refine pw_iadd dX11_readPrefix_153 ?_
          rw [nI_add, ← hkr]
          refine ps_istore_n (l' := [_, _, _, _, _, _, _]) dX11_readPrefix_154 (by decide) rfl rfl ?_
          refine pw_aload_n rfl dX11_readPrefix_155 ?_
          refine pw_iload rfl dX11_readPrefix_156 ?_
          refine pw_iload_n rfl dX11_readPrefix_158 ?_
          refine pw_iconst 1 (by decide) dX11_readPrefix_159 ?_
          refine pw_isub dX11_readPrefix_160 ?_
          rw [show nI K - 1 = nI (K - 1) from pk_sub (b := 1) (by omega)]
          by_cases hm : m = 0
          · refine pw_icmp_lt 184 dX11_readPrefix_161 (by decide) (fun q => absurd q (nI_nlt (by omega) (by omega))) (fun _ => ?_)
            refine pw_iload_n rfl dX11_readPrefix_164 ?_
            refine pw_iconst 1 (by decide) dX11_readPrefix_165 ?_
            by_cases hK1 : K = 1
            · have hi0 : i = 0 := by omega
              refine pw_icmp_ne 178 dX11_readPrefix_166 (by decide) (fun q => absurd (by rw [hK1]; rfl) q) (fun _ => ?_)
              refine pw_iload rfl dX11_readPrefix_169 ?_
              refine pw_iconst 1 (by decide) dX11_readPrefix_171 ?_
              by_cases hv1 : v = 1
              · refine pw_icmp_ne 188 dX11_readPrefix_172 (by decide) (fun q => absurd (by rw [hv1]; rfl) q) (fun _ => ?_)
                refine pw_goto 184 dX11_readPrefix_175 (by decide) ?_
                refine pw_iconst 1 (by decide) dX11_readPrefix_184 ?_
                refine pw_goto 189 dX11_readPrefix_185 (by decide) ?_
                exact mus 1 (fun h => absurd h (by decide)) (fun _ _ => Or.inl ⟨by omega, by rw [hnl2, if_pos ⟨hv, hv1⟩]; omega⟩)
              · refine pw_icmp_ne 188 dX11_readPrefix_172 (by decide) (fun _ => ?_) (fun q => absurd q (fun h9 => hv1 (nI_inj (b := 1) (by omega) (by omega) h9)))
                refine pw_iconst 0 (by decide) dX11_readPrefix_188 ?_
                refine mus 0 (fun _ => ⟨hm, ?_⟩) (fun h => absurd rfl h)
                rw [if_neg (fun z => hv1 z.2)] at hnl2
                intro h9
                rcases h9 with h9 | h9
                · omega
                · omega
            · refine pw_icmp_ne 178 dX11_readPrefix_166 (by decide) (fun _ => ?_) (fun q => absurd q (fun h9 => hK1 (nI_inj (b := 1) (by omega) (by omega) h9)))
              refine pw_iload_n rfl dX11_readPrefix_178 ?_
              by_cases hkk : kr (updN e b v) 16 = 32768
              · refine pw_ldc qX11_235 dX11_readPrefix_179 ?_
                refine pw_icmp_ne 188 dX11_readPrefix_181 (by decide) (fun q => absurd (by rw [hkk]; rfl) q) (fun _ => ?_)
                refine pw_iconst 1 (by decide) dX11_readPrefix_184 ?_
                refine pw_goto 189 dX11_readPrefix_185 (by decide) ?_
                exact mus 1 (fun h => absurd h (by decide)) (fun _ _ => Or.inr ⟨by omega, hkk⟩)
              · refine pw_ldc qX11_235 dX11_readPrefix_179 ?_
                refine pw_icmp_ne 188 dX11_readPrefix_181 (by decide) (fun _ => ?_) (fun q => absurd q (fun h9 => hkk (nI_inj (b := 32768) (by omega) (by omega) h9)))
                refine pw_iconst 0 (by decide) dX11_readPrefix_188 ?_
                refine mus 0 (fun _ => ⟨hm, ?_⟩) (fun h => absurd rfl h)
                intro h9
                rcases h9 with h9 | h9
                · omega
                · exact hkk h9.2
          · refine pw_icmp_lt 184 dX11_readPrefix_161 (by decide) (fun _ => ?_) (fun q => absurd (nI_lt (by omega) (by omega)) q)
            refine pw_iconst 1 (by decide) dX11_readPrefix_184 ?_
            refine pw_goto 189 dX11_readPrefix_185 (by decide) ?_
            exact mus 1 (fun h => absurd h (by decide)) (fun _ h => absurd h hm)
        · rw [if_neg h2, wh1_f h2] at hq
          have := hg.1.1
          refine pw_if_ne 193 dX11_readPrefix_133 (by decide) (fun _ => ?_) (fun q => absurd q (nI_ne0 (by omega) (by omega)))
          refine ps_iinc (l' := [_, _, _, _, _, _, _]) 1 dX11_readPrefix_193 (by decide) rfl (by decide) rfl rfl ?_
          refine pw_goto 39 dX11_readPrefix_196 (by decide) ?_
          rw [nI_1]
          have e1 : pgs O o m (pgR O o r l) (nxV O o r + 1) e = (pgR O o r l, e, nxV O o r + 1) := by
            cases m with
            | zero => rfl
            | succ m => unfold pgs; rw [if_neg h2]
          refine ih (i + 1) (nxV O o r + 1) (pgR O o r l) e _ F2 A' _ _ rfl rfl (by omega) hxl (by omega) hf2 hA hR2 hg.1 h67 (fun z => absurd z h2) ?_
          have e2 : pgF O o m (pgR O o r l) (nxV O o r + 1) e = pgR O o r l := by
            unfold pgF
            rw [e1, wh1_f h2]
            split <;> rfl
          rw [e2]
          intro F3 A3 x s i g5 g6 k1 k2 k3 _
          exact hq F3 A3 x s i g5 g6 k1 k2 k3 (fun z => absurd z h2)
      -- the second must
      have must2 : ∀ (F2 : Nat → Nat → Int32) (r2 : RT) (z6 z : Int32), frN F F2 → RM F2 r2 → rok o r2 → (r2.1 = 0 → 1 ≤ r2.2.2) → ((if z = 0 then blm 4 r2 else r2) = pgR O o r l) → ((pgR O o r l).1 = 0 → z6 = nI (nxV O o (rs1 O o r l))) → PW Γ mX11_readPrefix 125 [.ref 57, .int (nI K), .int (nI (nxV O o r)), .int (nI (kr e 16)), .int (nI i), .int (nI (nxV O o r)), .int z6] [.int z, .ref 57] (HS F2 A' rf lo X) 0 0 Q := by
        intro F2 r2 z6 z hf2 hR2 hk2 ha2 hpg hz
        refine pw_iconst 4 (by decide) dX11_readPrefix_125 ?_
        refine pc_V2 dX11_readPrefix_126 lX11_222 rfl rfl (by decide) (Nat.le_of_ble_eq_true rfl) ?_
        refine m_must (w := 4) hR2 hk2.1 (by omega) ha2 ?_
        intro F3 hf3 hR3
        rw [hpg] at hR3
        exact tail F3 z6 (frN_t hf2 hf3) hR3 hz
      -- the first must
      have mus : ∀ z : Int32, (z = 0 → ¬ l ≤ nxV O o r) → (¬ z = 0 → l ≤ nxV O o r ∨ ¬ (nxS o r).1 = 0) → PW Γ mX11_readPrefix 77 [.ref 57, .int (nI K), .int x, .int (nI (kr e 16)), .int (nI i), .int (nI (nxV O o r)), g6] [.int z, .ref 57] (HS F1 A' rf lo X) 0 0 Q := by
        intro z z1 z2
        refine pw_iconst 4 (by decide) dX11_readPrefix_77 ?_
        refine pc_V2 dX11_readPrefix_78 lX11_222 rfl rfl (by decide) (Nat.le_of_ble_eq_true rfl) ?_
        refine m_must (w := 4) hR1 hkn.1 (by omega) (fun h => by rw [(nxS_0 h).2.2]; show 1 ≤ r.2.2 + 1; omega) ?_
        intro F2 hf2 hR2
        have hR3 : RM F2 (rs1 O o r l) := by
          unfold rs1
          by_cases hz : z = 0
          · rw [if_neg (z1 hz)]
            rw [if_pos hz] at hR2
            exact hR2
          · rw [if_neg hz] at hR2
            rcases z2 hz with h | h
            · rw [if_pos h]; exact hR2
            · rw [blm_f h]
              split
              · exact hR2
              · exact hR2
        have hf02 := frN_t hfr (frN_t hf1 hf2)
        refine pw_iload rfl dX11_readPrefix_81 ?_
        refine ps_istore_n (l' := [_, _, _, _, _, _, _]) dX11_readPrefix_83 (by decide) rfl rfl ?_
        refine pw_aload_n rfl dX11_readPrefix_84 ?_
        refine pw_gI dX11_readPrefix_85 fX11_201 (by first | rfl | assumption) rfl ?_
        rw [hR3.1]
        by_cases h3 : (rs1 O o r l).1 = 0
        · refine pw_if_ne 98 dX11_readPrefix_88 (by decide) (fun q => absurd (by rw [h3]; rfl) q) (fun _ => ?_)
          refine pw_aload_n rfl dX11_readPrefix_91 ?_
          refine pc_V0 dX11_readPrefix_92 lX11_213 rfl rfl (by decide) (Nat.le_of_ble_eq_true rfl) ?_
          refine m_next (OM_fr hO (hf02 _ _ (by omega)) (hA _ (by omega))) ho hB hR3 hs.1 ?_
          intro F3 hf3 hR4
          have hkn3 := nxS_rok hs.1
          have ha3 : (nxS o (rs1 O o r l)).1 = 0 → 1 ≤ (nxS o (rs1 O o r l)).2.2 := fun h => by rw [(nxS_0 h).2.2]; show 1 ≤ (rs1 O o r l).2.2 + 1; omega
          refine pw_goto 99 dX11_readPrefix_95 (by decide) ?_
          refine ps_istore (l' := [_, _, _, _, _, _, _]) dX11_readPrefix_99 (by decide) rfl rfl ?_
          refine pw_aload_n rfl dX11_readPrefix_101 ?_
          refine pw_aload_n rfl dX11_readPrefix_102 ?_
          refine pw_gI dX11_readPrefix_103 fX11_201 (by first | rfl | assumption) rfl ?_
          rw [hR4.1]
          by_cases h4 : (nxS o (rs1 O o r l)).1 = 0
          · refine pw_if_ne 120 dX11_readPrefix_106 (by decide) (fun q => absurd (by rw [h4]; rfl) q) (fun _ => ?_)
            refine pw_iload rfl dX11_readPrefix_109 ?_
            refine pw_iconst 1 (by decide) dX11_readPrefix_111 ?_
            refine pw_bipush 15 (by decide) dX11_readPrefix_112 ?_
            refine pc_S3 dX11_readPrefix_114 lX11_75 (by decide) (Nat.le_of_ble_eq_true rfl) ?_
            refine m_in ?_
            by_cases hin : 1 ≤ nxV O o (rs1 O o r l) ∧ nxV O o (rs1 O o r l) ≤ 15
            · rw [if_pos ⟨nI_le (a := 1) hin.1 (by omega), nI_le (b := 15) hin.2 (by omega)⟩]
              refine pw_if_eq 124 dX11_readPrefix_117 (by decide) (fun q => absurd q (by decide)) (fun _ => ?_)
              refine pw_iconst 1 (by decide) dX11_readPrefix_120 ?_
              refine pw_goto 125 dX11_readPrefix_121 (by decide) ?_
              refine must2 F3 _ _ 1 (frN_t hf02 hf3) hR4 hkn3 ha3 ?_ (fun _ => rfl)
              unfold pgR
              rw [if_neg (by decide), if_pos hin]
            · rw [if_neg (fun z => hin ⟨by
                by_cases h9 : 1 ≤ nxV O o (rs1 O o r l)
                · exact h9
                · exact absurd z.1 (nI_ge (b := 1) (by omega) (by omega)), by
                by_cases h9 : nxV O o (rs1 O o r l) ≤ 15
                · exact h9
                · exact absurd z.2 (nI_ge (a := 15) (by omega) (by omega))⟩)]
              refine pw_if_eq 124 dX11_readPrefix_117 (by decide) (fun _ => ?_) (fun q => absurd (rfl) q)
              refine pw_iconst 0 (by decide) dX11_readPrefix_124 ?_
              refine must2 F3 _ _ 0 (frN_t hf02 hf3) hR4 hkn3 ha3 ?_ (fun _ => rfl)
              unfold pgR
              rw [if_pos rfl, if_neg hin]
          · have := hkn3.1
            refine pw_if_ne 120 dX11_readPrefix_106 (by decide) (fun _ => ?_) (fun q => absurd q (nI_ne0 (by omega) (by omega)))
            refine pw_iconst 1 (by decide) dX11_readPrefix_120 ?_
            refine pw_goto 125 dX11_readPrefix_121 (by decide) ?_
            refine must2 F3 _ _ 1 (frN_t hf02 hf3) hR4 hkn3 ha3 ?_ (fun _ => rfl)
            unfold pgR
            rw [if_neg (by decide), blm_f h4]
            split <;> rfl
        · have := hs.1.1
          refine pw_if_ne 98 dX11_readPrefix_88 (by decide) (fun _ => ?_) (fun q => absurd q (nI_ne0 (by omega) (by omega)))
          refine pw_iconst 1 (by decide) dX11_readPrefix_98 ?_
          refine ps_istore (l' := [_, _, _, _, _, _, _]) dX11_readPrefix_99 (by decide) rfl rfl ?_
          refine pw_aload_n rfl dX11_readPrefix_101 ?_
          refine pw_aload_n rfl dX11_readPrefix_102 ?_
          refine pw_gI dX11_readPrefix_103 fX11_201 (by first | rfl | assumption) rfl ?_
          rw [hR3.1]
          refine pw_if_ne 120 dX11_readPrefix_106 (by decide) (fun _ => ?_) (fun q => absurd q (nI_ne0 (by omega) (by omega)))
          refine pw_iconst 1 (by decide) dX11_readPrefix_120 ?_
          refine pw_goto 125 dX11_readPrefix_121 (by decide) ?_
          have hpg : pgR O o r l = rs1 O o r l := by
            unfold pgR
            rw [nxS_f h3, blm_f h3]
            split <;> rfl
          refine must2 F2 _ _ 1 hf02 hR3 hs.1 (fun z => absurd z h3) ?_ (fun z => by rw [hpg] at z; exact absurd z h3)
          rw [if_neg (by decide), hpg]
      have hle := le_m1 (l := l) (v := nxV O o r) (by omega) (by omega)
      refine ps_istore (l' := [_, _, _, _, _, _, _]) dX11_readPrefix_56 (by decide) rfl rfl ?_
      refine pw_aload_n rfl dX11_readPrefix_58 ?_
      refine pw_aload_n rfl dX11_readPrefix_59 ?_
      refine pw_gI dX11_readPrefix_60 fX11_201 (by first | rfl | assumption) rfl ?_
      rw [hR1.1]
      by_cases hf0 : (nxS o r).1 = 0
      · refine pw_if_ne 72 dX11_readPrefix_63 (by decide) (fun q => absurd (by rw [hf0]; rfl) q) (fun _ => ?_)
        refine pw_iload rfl dX11_readPrefix_66 ?_
        refine pw_iload_n rfl dX11_readPrefix_68 ?_
        by_cases hll : l ≤ nxV O o r
        · refine pw_icmp_le 76 dX11_readPrefix_69 (by decide) (fun q => absurd q (by rw [hx, hle]; exact fun h9 => h9 hll)) (fun _ => ?_)
          refine pw_iconst 1 (by decide) dX11_readPrefix_72 ?_
          refine pw_goto 77 dX11_readPrefix_73 (by decide) ?_
          exact mus 1 (fun h => absurd h (by decide)) (fun _ => Or.inl hll)
        · refine pw_icmp_le 76 dX11_readPrefix_69 (by decide) (fun _ => ?_) (fun q => absurd (by rw [hx, hle]; exact hll) q)
          refine pw_iconst 0 (by decide) dX11_readPrefix_76 ?_
          exact mus 0 (fun _ => hll) (fun h => absurd rfl h)
      · have := hkn.1
        refine pw_if_ne 72 dX11_readPrefix_63 (by decide) (fun _ => ?_) (fun q => absurd q (nI_ne0 (by omega) (by omega)))
        refine pw_iconst 1 (by decide) dX11_readPrefix_72 ?_
        refine pw_goto 77 dX11_readPrefix_73 (by decide) ?_
        exact mus 1 (fun h => absurd h (by decide)) (fun _ => Or.inr hf0)
    · rw [if_neg h0, wh1_f h0] at hq
      have := hk.1
      refine pw_if_ne 199 dX11_readPrefix_49 (by decide) (fun _ => ?_) (fun q => absurd q (nI_ne0 (by omega) (by omega)))
      exact hq F' A' _ _ _ _ _ hfr hA hR (fun h9 => absurd h9 h0)
/-- the search for the byte -/
theorem umf_loop {e : Nat → Nat} {l v z r0 : Nat} {x1 x2 : Int32} (h67 : ∀ b, b < 256 → A 67 b = nI (e b)) (h15 : ∀ b, e b ≤ 15) (h68 : ∀ b, b < 256 → 0 < e b → A 68 b = nI (cod e b)) (hl : 0 < l) (hl2 : l < 16) (hv : v < 2 ^ 20) (hz : z ≤ 256) (hno : ∀ b, b < z → e b = l → ¬ cod e b = v) (hF : F 57 27 = 0)
    (hq : PW Γ mX11_readCode 63 [.ref 57, .int x1, .int x2, .int (nI v), .int (nI l), .int (nI z)] [] (HS F A rf lo X) 0 0 Q) : ∀ (m b : Nat), b + m = z → PW Γ mX11_readCode 63 [.ref 57, .int x1, .int x2, .int (nI v), .int (nI l), .int (nI b)] [] (HS F A rf lo X) 0 0 Q := by
  intro m
  induction m with
  | zero =>
    intro b hb
    rw [show b = z by omega]
    exact hq
  | succ m ih =>
    intro b hb
    have hb5 := h15 b
    have hn := ih (b + 1) (by omega)
    refine pw_iload rfl dX11_readCode_63 ?_
    refine pw_sipush 256 (by decide) dX11_readCode_65 ?_
    refine pw_icmp_ge 114 dX11_readCode_68 (by decide) (fun q => absurd q (nI_ge (b := 256) (by omega) (by omega))) (fun _ => ?_)
    refine pw_aload_n rfl dX11_readCode_71 ?_
    refine pw_gI dX11_readCode_72 fX11_201 (by first | rfl | assumption) rfl ?_
    rw [hF]
    refine pw_if_ne 114 dX11_readCode_75 (by decide) (fun q => absurd (rfl) q) (fun _ => ?_)
    refine pw_aload_n rfl dX11_readCode_78 ?_
    refine pw_gC dX11_readCode_79 fX11_37 (by first | rfl | assumption) rfl (by first | rfl | assumption) ?_
    refine pw_iload rfl dX11_readCode_82 ?_
    refine pw_aI dX11_readCode_84 (by first | rfl | assumption) (by first | assumption | exact vp_in_nI (by omega) (by omega)) ?_
    rw [nI_clamp (by omega), h67 b (by omega)]
    by_cases hel : e b = l
    · have hc := hno b (by omega) hel
      have hcl := nc_lim (e := e) (show e b ≤ 16 by omega)
      have hnl := nlz_le e (e b) b
      have hcod : cod e b < 2 ^ 31 := by unfold cod; omega
      refine pw_iload rfl dX11_readCode_85 ?_
      refine pw_icmp_ne 108 dX11_readCode_87 (by decide) (fun q => absurd (by rw [hel]) q) (fun _ => ?_)
      refine pw_aload_n rfl dX11_readCode_90 ?_
      refine pw_gC dX11_readCode_91 fX11_40 (by first | rfl | assumption) rfl (by first | rfl | assumption) ?_
      refine pw_iload rfl dX11_readCode_94 ?_
      refine pw_aI dX11_readCode_96 (by first | rfl | assumption) (by first | assumption | exact vp_in_nI (by omega) (by omega)) ?_
      rw [nI_clamp (by omega), h68 b (by omega) (by omega)]
      refine pw_iload_n rfl dX11_readCode_97 ?_
      refine pw_icmp_ne 108 dX11_readCode_98 (by decide) (fun _ => ?_) (fun q => absurd q (fun h9 => hc (nI_inj hcod (by omega) h9)))
      refine ps_iinc (l' := [_, _, _, _, _, _]) 1 dX11_readCode_108 (by decide) rfl (by decide) rfl rfl ?_
      refine pw_goto 63 dX11_readCode_111 (by decide) ?_
      rw [nI_1]
      exact hn
    · refine pw_iload rfl dX11_readCode_85 ?_
      refine pw_icmp_ne 108 dX11_readCode_87 (by decide) (fun _ => ?_) (fun q => absurd q (fun h9 => hel (nI_inj (by omega) (by omega) h9)))
      refine ps_iinc (l' := [_, _, _, _, _, _]) 1 dX11_readCode_108 (by decide) rfl (by decide) rfl rfl ?_
      refine pw_goto 63 dX11_readCode_111 (by decide) ?_
      rw [nI_1]
      exact hn
theorem umc_loop {e : Nat → Nat} {y : YT} {K : Nat} {x2 : Int32} (hO : OM F A o O) (ho : o ≤ 1024) (hB : isB O o) (hn : n ≤ 300) (h67 : ∀ b, b < 256 → A 67 b = nI (e b)) (h15 : ∀ b, e b ≤ 15) (h68 : ∀ b, b < 256 → 0 < e b → A 68 b = nI (cod e b)) (hK : K ≤ 256) (hK1 : ¬ K = 1) (hkz : knz e 256 = K) (hkr : kr e 16 = 32768) (hM : MB F A y.1) (h0 : y.1.1.1 = 0) (hgn : y.1.2.1 < n)
    (hQ : ∀ (F' A' : Nat → Nat → Int32) (t : UT × Nat), frZ F F' A A' → t = dc0 O o e (y.1.1, y.2) → MY F' A' (rbE 256 (fun j => nI j) y t) → Q none (HS F' A' rf lo X)) : ∀ (m p v : Nat) (s : UT) (F' : Nat → Nat → Int32) (g5 : Value), g5.category = 1 → p + m = 15 → frY F F' → MU F' s → uok o s → nc e (p + 1) ≤ 2 * v → v < 2 ^ p → dcd O o e false m (p + 1) v s = dc0 O o e (y.1.1, y.2) →
    PW Γ mX11_readCode 5 [.ref 57, .int (nI K), .int x2, .int (nI v), .int (nI (p + 1)), g5] [] (HS F' A rf lo X) 0 0 Q := by
  have hE : ∀ (s : UT), ¬ s.1.1 = 0 → rbE 256 (fun j => nI j) y (s, 0) = ((s.1, y.1.2), s.2) := by
    intro s hs
    unfold rbE
    rw [if_neg hs]
  have out : ∀ (s : UT) (F' : Nat → Nat → Int32), ¬ s.1.1 = 0 → frY F F' → MU F' s → (s, 0) = dc0 O o e (y.1.1, y.2) → Q none (HS F' A rf lo X) := by
    intro s F' hs hf hMU hd
    refine hQ F' A (s, 0) (frZ_Y hf) hd ?_
    rw [hE s hs]
    exact ⟨MB_Z hM hf hMU.1 (fun z => absurd z hs), hMU⟩
  intro m
  induction m with
  | zero =>
    intro p v s F' g5 k5 hp hfr hC hk hnc hv hd
    have hp15 : p = 15 := by omega
    subst hp15
    refine pw_iload rfl dX11_readCode_5 ?_
    refine pw_bipush 16 (by decide) dX11_readCode_7 ?_
    refine pw_icmp_ge 120 dX11_readCode_9 (by decide) (fun _ => ?_) (fun q => absurd (by decide) q)
    refine pw_vret dX11_readCode_120 rfl ?_
    by_cases hs : s.1.1 = 0
    · have h16 : nc e 16 = 2 * (nc e 15 + nlz e 15 256) := nc_s (by omega)
      have hk16 := kr_16 (e := e)
      have hv2 : v < 32768 := hv
      have hnc2 : nc e 16 ≤ 2 * v := hnc
      omega
    · exact out s F' hs hfr hC hd
  | succ m ih =>
    intro p v s F' g5 k5 hp hfr hC hk hnc hv hd
    have hpw : 2 ^ p ≤ 2 ^ 14 := Nat.pow_le_pow_right (by omega) (by omega)
    have hp2 : 2 ^ (p + 1) = 2 ^ p * 2 := Nat.pow_succ _ _
    have hkb := btS_ok hk
    refine pw_iload rfl dX11_readCode_5 ?_
    refine pw_bipush 16 (by decide) dX11_readCode_7 ?_
    refine pw_icmp_ge 120 dX11_readCode_9 (by decide) (fun q => absurd q (nI_ge (b := 16) (by omega) (by omega))) (fun _ => ?_)
    refine pw_aload_n rfl dX11_readCode_12 ?_
    refine pw_gI dX11_readCode_13 fX11_201 (by first | rfl | assumption) rfl ?_
    rw [hC.1.1]
    by_cases hs : s.1.1 = 0
    · unfold dcd at hd
      rw [if_pos hs] at hd
      refine pw_if_ne 120 dX11_readCode_16 (by decide) (fun q => absurd (by rw [hs]; rfl) q) (fun _ => ?_)
      refine pw_iconst 2 (by decide) dX11_readCode_19 ?_
      refine pw_iload_n rfl dX11_readCode_20 ?_
      rw [show (2 : Int32) = nI 2 from rfl]
      refine pw_imul dX11_readCode_21 ?_
      refine pw_aload_n rfl dX11_readCode_22 ?_
      rw [pk_mul]
      refine pc_V0 dX11_readCode_23 lX11_219 rfl rfl (by decide) (Nat.le_of_ble_eq_true rfl) ?_
      refine m_bit (OM_fr hO (hfr _ _ (by omega)) rfl) ho hB hC hk ?_
      intro F1 hf1 hM1
      have hb := btV_lt (O := O) (o := o) (s := s)
      have hfr1 := frY_t hfr hf1
      refine pw_iadd dX11_readCode_26 ?_
      rw [nI_add]
      obtain ⟨w, hw⟩ : ∃ w, w = 2 * v + btV O o s := ⟨_, rfl⟩
      rw [← hw] at hd ⊢
      refine ps_istore_n (l' := [_, _, _, _, _, _]) dX11_readCode_27 (by decide) rfl rfl ?_
      refine pw_iload_n rfl dX11_readCode_28 ?_
      refine pw_iconst 1 (by decide) dX11_readCode_29 ?_
      refine pw_icmp_ne 60 dX11_readCode_30 (by decide) (fun _ => ?_) (fun q => absurd q (fun h9 => hK1 (nI_inj (b := 1) (by omega) (by omega) h9)))
      refine pw_iconst 0 (by decide) dX11_readCode_60 ?_
      refine ps_istore (l' := [_, _, _, _, _, _]) dX11_readCode_61 (by decide) rfl rfl ?_
      have next : ∀ b : Nat, (dcd O o e false m (p + 1 + 1) w (btS o s) = dc0 O o e (y.1.1, y.2)) → ((btS o s).1.1 = 0 → nc e (p + 1 + 1) ≤ 2 * w) → PW Γ mX11_readCode 114 [.ref 57, .int (nI K), .int x2, .int (nI w), .int (nI (p + 1)), .int (nI b)] [] (HS F1 A rf lo X) 0 0 Q := by
        intro b hd2 hnc2
        by_cases hs2 : (btS o s).1.1 = 0
        · refine ps_iinc (l' := [_, _, _, _, _, _]) 1 dX11_readCode_114 (by decide) rfl (by decide) rfl rfl ?_
          refine pw_goto 5 dX11_readCode_117 (by decide) ?_
          rw [nI_1]
          exact ih (p + 1) w (btS o s) F1 _ rfl (by omega) hfr1 hM1 hkb (hnc2 hs2) (by omega) hd2
        · rw [dcd_f hs2] at hd2
          have h4 := hkb.1.1
          refine ps_iinc (l' := [_, _, _, _, _, _]) 1 dX11_readCode_114 (by decide) rfl (by decide) rfl rfl ?_
          refine pw_goto 5 dX11_readCode_117 (by decide) ?_
          refine pw_iload rfl dX11_readCode_5 ?_
          rw [nI_1]
          by_cases hl : p + 1 + 1 < 16
          · refine pw_bipush 16 (by decide) dX11_readCode_7 ?_
            refine pw_icmp_ge 120 dX11_readCode_9 (by decide) (fun q => absurd q (nI_ge (b := 16) hl (by omega))) (fun _ => ?_)
            refine pw_aload_n rfl dX11_readCode_12 ?_
            refine pw_gI dX11_readCode_13 fX11_201 (by first | rfl | assumption) rfl ?_
            rw [hM1.1.1]
            refine pw_if_ne 120 dX11_readCode_16 (by decide) (fun _ => ?_) (fun q => absurd q (nI_ne0 (by omega) (by omega)))
            refine pw_vret dX11_readCode_120 rfl ?_
            exact out _ F1 hs2 hfr1 hM1 hd2
          · refine pw_bipush 16 (by decide) dX11_readCode_7 ?_
            refine pw_icmp_ge 120 dX11_readCode_9 (by decide) (fun _ => ?_) (fun q => absurd (nI_le (a := 16) (by omega) (by omega)) q)
            refine pw_vret dX11_readCode_120 rfl ?_
            exact out _ F1 hs2 hfr1 hM1 hd2
      by_cases hs2 : (btS o s).1.1 = 0
      · rw [if_pos hs2] at hd
        have hF27 : F1 57 27 = 0 := by rw [hM1.1.1, hs2]; rfl
        by_cases hlt : w < nc e (p + 1) + nlz e (p + 1) 256
        · rw [if_pos hlt] at hd
          have hfb := fb_ok (e := e) (l := p + 1) (j := w - nc e (p + 1)) 256 (by omega)
          obtain ⟨c, hcd⟩ : ∃ c, c = fb e (p + 1) (w - nc e (p + 1)) 256 := ⟨_, rfl⟩
          rw [← hcd] at hfb hd
          have hcc : cod e c = w := by unfold cod; rw [hfb.2.1, hfb.2.2]; omega
          refine umf_loop (e := e) (z := c) (r0 := 0) h67 h15 h68 (by omega) (by omega) (by omega) (by omega) ?_ hF27 ?_ c 0 (by omega)
          · intro b hbc hel hco
            have h1 := nlz_lt (e := e) hbc hel
            unfold cod at hco
            rw [hel] at hco
            omega
          · refine pw_iload rfl dX11_readCode_63 ?_
            refine pw_sipush 256 (by decide) dX11_readCode_65 ?_
            refine pw_icmp_ge 114 dX11_readCode_68 (by decide) (fun q => absurd q (nI_ge (b := 256) (by omega) (by omega))) (fun _ => ?_)
            refine pw_aload_n rfl dX11_readCode_71 ?_
            refine pw_gI dX11_readCode_72 fX11_201 (by first | rfl | assumption) rfl ?_
            rw [hF27]
            refine pw_if_ne 114 dX11_readCode_75 (by decide) (fun q => absurd (rfl) q) (fun _ => ?_)
            refine pw_aload_n rfl dX11_readCode_78 ?_
            refine pw_gC dX11_readCode_79 fX11_37 (by first | rfl | assumption) rfl (by first | rfl | assumption) ?_
            refine pw_iload rfl dX11_readCode_82 ?_
            refine pw_aI dX11_readCode_84 (by first | rfl | assumption) (by first | assumption | exact vp_in_nI (by omega) (by omega)) ?_
            rw [nI_clamp (by omega), h67 c hfb.1]
            refine pw_iload rfl dX11_readCode_85 ?_
            refine pw_icmp_ne 108 dX11_readCode_87 (by decide) (fun q => absurd (by rw [hfb.2.1]) q) (fun _ => ?_)
            refine pw_aload_n rfl dX11_readCode_90 ?_
            refine pw_gC dX11_readCode_91 fX11_40 (by first | rfl | assumption) rfl (by first | rfl | assumption) ?_
            refine pw_iload rfl dX11_readCode_94 ?_
            refine pw_aI dX11_readCode_96 (by first | rfl | assumption) (by first | assumption | exact vp_in_nI (by omega) (by omega)) ?_
            rw [nI_clamp (by omega), h68 c hfb.1 (by omega)]
            refine pw_iload_n rfl dX11_readCode_97 ?_
            refine pw_icmp_ne 108 dX11_readCode_98 (by decide) (fun q => absurd (by rw [hcc]) q) (fun _ => ?_)
            refine pw_aload_n rfl dX11_readCode_101 ?_
            refine pw_iload rfl dX11_readCode_102 ?_
            refine pc_V1 dX11_readCode_104 lX11_229 rfl rfl (by decide) (Nat.le_of_ble_eq_true rfl) ?_
            refine m_come (o := o) (b := ((btS o s).1, y.1.2)) (MB_Z hM hfr1 hM1.1 (fun _ => h0)) hkb.1 (fun _ => by show y.1.2.1 < 300; omega) ?_
            intro F3 A3 hf3 h32 hM3
            rw [if_pos hs2] at hM3
            refine pw_vret dX11_readCode_107 rfl ?_
            refine hQ F3 A3 _ (frZ_t (frZ_Y hfr1) (frZ_G hf3)) hd ?_
            unfold rbE
            rw [if_pos hs2, if_pos hfb.1]
            obtain ⟨_, u, u1, u2, u3⟩ := hM1
            exact ⟨hM3, hM3.1, u, by rw [h32 34 (by omega)]; exact u1, u2, u3⟩
        · rw [if_neg hlt, if_neg (by decide)] at hd
          have hncs : nc e (p + 1 + 1) = 2 * (nc e (p + 1) + nlz e (p + 1) 256) := nc_s (by omega)
          refine umf_loop (e := e) (z := 256) (r0 := 0) h67 h15 h68 (by omega) (by omega) (by omega) (Nat.le_refl _) ?_ hF27 ?_ 256 0 (by omega)
          · intro b hbc hel hco
            have h1 := nlz_lt (e := e) hbc hel
            unfold cod at hco
            rw [hel] at hco
            omega
          · refine pw_iload rfl dX11_readCode_63 ?_
            refine pw_sipush 256 (by decide) dX11_readCode_65 ?_
            refine pw_icmp_ge 114 dX11_readCode_68 (by decide) (fun _ => ?_) (fun q => absurd (by decide) q)
            exact next 256 hd (fun _ => by omega)
      · rw [if_neg hs2] at hd
        have h4 := hkb.1.1
        refine pw_iload rfl dX11_readCode_63 ?_
        refine pw_sipush 256 (by decide) dX11_readCode_65 ?_
        refine pw_icmp_ge 114 dX11_readCode_68 (by decide) (fun q => absurd q (by decide)) (fun _ => ?_)
        refine pw_aload_n rfl dX11_readCode_71 ?_
        refine pw_gI dX11_readCode_72 fX11_201 (by first | rfl | assumption) rfl ?_
        rw [hM1.1.1]
        refine pw_if_ne 114 dX11_readCode_75 (by decide) (fun _ => ?_) (fun q => absurd q (nI_ne0 (by omega) (by omega)))
        exact next 0 (by rw [dcd_f hs2]; exact hd) (fun z => absurd z hs2)
    · have h4 := hk.1.1
      rw [dcd_f hs] at hd
      refine pw_if_ne 120 dX11_readCode_16 (by decide) (fun _ => ?_) (fun q => absurd q (nI_ne0 (by omega) (by omega)))
      refine pw_vret dX11_readCode_120 rfl ?_
      exact out s F' hs hfr hC hd
theorem m_readCode {e : Nat → Nat} {y : YT} {K c : Nat} (hO : OM F A o O) (ho : o ≤ 1024) (hB : isB O o) (hn : n ≤ 300) (h67 : ∀ b, b < 256 → A 67 b = nI (e b)) (h15 : ∀ b, e b ≤ 15) (h68 : ∀ b, b < 256 → 0 < e b → A 68 b = nI (cod e b)) (hK : K ≤ 256) (hkz : knz e 256 = K) (hw : whl e) (hc : c < 256) (hc0 : 0 < e c) (hM : MY F A y) (hk : yok o n y) (h0 : y.1.1.1 = 0) (hgn : y.1.2.1 < n)
    (hQ : ∀ (F' A' : Nat → Nat → Int32), frZ F F' A A' → MY F' A' (rbE 256 (fun j => nI j) y (dc0 O o e (y.1.1, y.2))) → Q none (HS F' A' rf lo X)) : PM Γ mX11_readCode [.ref 57, .int (nI K), .int (nI c)] (HS F A rf lo X) 0 0 Q := by
  have hku := yok_u hk
  by_cases hK1 : K = 1
  · have hone : nlz e 1 256 = 1 := by
      rcases hw with h | h
      · exact h.2
      · exact absurd (hkz.trans hK1) h.1
    have hfb := fb_one h15 (hkz.trans hK1) hone hc hc0
    have hkb := btS_ok hku
    have hnc : nc e 1 = 0 := by show 2 * (0 + (if 0 = 0 then 0 else _)) = 0; rw [if_pos rfl]
    have hd : dc0 O o e (y.1.1, y.2) = (if (btS o (y.1.1, y.2)).1.1 = 0 then (if btV O o (y.1.1, y.2) = 0 then (btS o (y.1.1, y.2), c) else ((blm 4 (btS o (y.1.1, y.2)).1, (btS o (y.1.1, y.2)).2), 0)) else (btS o (y.1.1, y.2), 0)) := by
      unfold dc0
      unfold dcd
      rw [if_pos h0, Nat.mul_zero, Nat.zero_add, hnc, hone, Nat.zero_add, Nat.sub_zero]
      by_cases hb : btV O o (y.1.1, y.2) = 0
      · rw [if_pos (show btV O o (y.1.1, y.2) < 1 by omega), if_pos hb, hb, hfb]
      · rw [if_neg (show ¬ btV O o (y.1.1, y.2) < 1 by omega), if_neg hb, if_pos (decide_eq_true (hkz.trans hK1))]
    obtain ⟨s, hsd⟩ : ∃ s, s = btS o (y.1.1, y.2) := ⟨_, rfl⟩
    obtain ⟨b, hbd⟩ : ∃ b, b = btV O o (y.1.1, y.2) := ⟨_, rfl⟩
    rw [← hsd, ← hbd] at hd
    rw [← hsd] at hkb
    rw [hd] at hQ
    have hb2 := btV_lt (O := O) (o := o) (s := (y.1.1, y.2))
    rw [← hbd] at hb2
    refine PM.go (l := [_, _, _, .float 0, .float 0, .float 0]) rfl rfl (Nat.le_of_ble_eq_true rfl) rfl ?_
    refine pw_iconst 0 (by decide) dX11_readCode_0 ?_
    refine ps_istore_n (l' := [_, _, _, _, _, _]) dX11_readCode_1 (by decide) rfl rfl ?_
    refine pw_iconst 1 (by decide) dX11_readCode_2 ?_
    refine ps_istore (l' := [_, _, _, _, _, _]) dX11_readCode_3 (by decide) rfl rfl ?_
    refine pw_iload rfl dX11_readCode_5 ?_
    refine pw_bipush 16 (by decide) dX11_readCode_7 ?_
    refine pw_icmp_ge 120 dX11_readCode_9 (by decide) (fun q => absurd q (by decide)) (fun _ => ?_)
    refine pw_aload_n rfl dX11_readCode_12 ?_
    refine pw_gI dX11_readCode_13 fX11_201 (by first | rfl | assumption) rfl ?_
    rw [hM.1.1.1]
    refine pw_if_ne 120 dX11_readCode_16 (by decide) (fun q => absurd (by rw [h0]; rfl) q) (fun _ => ?_)
    refine pw_iconst 2 (by decide) dX11_readCode_19 ?_
    refine pw_iload_n rfl dX11_readCode_20 ?_
    refine pw_imul dX11_readCode_21 ?_
    refine pw_aload_n rfl dX11_readCode_22 ?_
    refine pc_V0 dX11_readCode_23 lX11_219 rfl rfl (by decide) (Nat.le_of_ble_eq_true rfl) ?_
    refine m_bit hO ho hB hM.2 hku ?_
    intro F1 hf1 hM1
    rw [← hsd] at hM1
    rw [← hbd]
    refine pw_iadd dX11_readCode_26 ?_
    rw [show (2 : Int32) * 0 + nI b = nI b by rw [show (2 : Int32) * 0 = nI 0 from rfl, nI_add, Nat.zero_add]]
    refine ps_istore_n (l' := [_, _, _, _, _, _]) dX11_readCode_27 (by decide) rfl rfl ?_
    refine pw_iload_n rfl dX11_readCode_28 ?_
    refine pw_iconst 1 (by decide) dX11_readCode_29 ?_
    refine pw_icmp_ne 60 dX11_readCode_30 (by decide) (fun q => absurd (by rw [hK1]; rfl) q) (fun _ => ?_)
    refine pw_aload_n rfl dX11_readCode_33 ?_
    refine pw_aload_n rfl dX11_readCode_34 ?_
    refine pw_gI dX11_readCode_35 fX11_201 (by first | rfl | assumption) rfl ?_
    rw [hM1.1.1]
    have mus : ∀ z : Int32, (z = 0 → ¬ b = 0 ∧ s.1.1 = 0) → (¬ z = 0 → b = 0 ∨ ¬ s.1.1 = 0) → PW Γ mX11_readCode 50 [.ref 57, .int (nI K), .int (nI c), .int (nI b), .int (nI 1), .float 0] [.int z, .ref 57] (HS F1 A rf lo X) 0 0 Q := by
      intro z z1 z2
      refine pw_iconst 4 (by decide) dX11_readCode_50 ?_
      refine pc_V2 dX11_readCode_51 lX11_222 rfl rfl (by decide) (Nat.le_of_ble_eq_true rfl) ?_
      refine m_must (w := 4) hM1.1 hkb.1.1 (by omega) hkb.2.2 ?_
      intro F2 hf2 hR2
      have hf12 := frY_t hf1 (frY_N hf2)
      obtain ⟨r2, hr2⟩ : ∃ r2, r2 = (if z = 0 then blm 4 s.1 else s.1) := ⟨_, rfl⟩
      rw [← hr2] at hR2
      have hr2k : rok o r2 := by
        rw [hr2]
        split
        · exact blm_rok hkb.1 (by omega)
        · exact hkb.1
      refine pw_aload_n rfl dX11_readCode_54 ?_
      refine pw_iload_n rfl dX11_readCode_55 ?_
      refine pc_V1 dX11_readCode_56 lX11_229 rfl rfl (by decide) (Nat.le_of_ble_eq_true rfl) ?_
      refine m_come (o := o) (b := (r2, y.1.2)) (MB_Z hM.1 hf12 hR2 (fun _ => h0)) hr2k (fun _ => by show y.1.2.1 < 300; omega) ?_
      intro F3 A3 hf3 h32 hM3
      refine pw_vret dX11_readCode_59 rfl ?_
      refine hQ F3 A3 (frZ_t (frZ_Y hf12) (frZ_G hf3)) ?_
      obtain ⟨_, u, u1, u2, u3⟩ := hM1
      have hu : F3 57 34 = nI u := by rw [h32 34 (by omega), hf2 57 34 (by omega)]; exact u1
      by_cases hz : z = 0
      · obtain ⟨q1, q2⟩ := z1 hz
        rw [if_pos hz] at hr2
        rw [hr2] at hM3
        have hbl : ¬ (blm 4 s.1).1 = 0 := blm_0 (by omega)
        rw [if_neg hbl] at hM3
        rw [if_pos q2, if_neg q1]
        unfold rbE
        rw [if_neg hbl]
        exact ⟨hM3, hM3.1, u, hu, u2, fun h9 => absurd h9 hbl⟩
      · rw [if_neg hz] at hr2
        rw [hr2] at hM3
        by_cases hs : s.1.1 = 0
        · have hb0 : b = 0 := by
            rcases z2 hz with h | h
            · exact h
            · exact absurd hs h
          rw [if_pos hs] at hM3
          rw [if_pos hs, if_pos hb0]
          unfold rbE
          rw [if_pos hs, if_pos hc]
          exact ⟨hM3, hM3.1, u, hu, u2, u3⟩
        · rw [if_neg hs] at hM3
          rw [if_neg hs]
          unfold rbE
          rw [if_neg hs]
          exact ⟨hM3, hM3.1, u, hu, u2, fun h9 => absurd h9 hs⟩
    by_cases hs : s.1.1 = 0
    · refine pw_if_ne 45 dX11_readCode_38 (by decide) (fun q => absurd (by rw [hs]; rfl) q) (fun _ => ?_)
      refine pw_iload_n rfl dX11_readCode_41 ?_
      by_cases hb0 : b = 0
      · refine pw_if_ne 49 dX11_readCode_42 (by decide) (fun q => absurd (by rw [hb0]; rfl) q) (fun _ => ?_)
        refine pw_iconst 1 (by decide) dX11_readCode_45 ?_
        refine pw_goto 50 dX11_readCode_46 (by decide) ?_
        exact mus 1 (fun h => absurd h (by decide)) (fun _ => Or.inl hb0)
      · refine pw_if_ne 49 dX11_readCode_42 (by decide) (fun _ => ?_) (fun q => absurd q (nI_ne0 (by omega) (by omega)))
        refine pw_iconst 0 (by decide) dX11_readCode_49 ?_
        exact mus 0 (fun _ => ⟨hb0, hs⟩) (fun h => absurd rfl h)
    · have := hkb.1.1
      refine pw_if_ne 45 dX11_readCode_38 (by decide) (fun _ => ?_) (fun q => absurd q (nI_ne0 (by omega) (by omega)))
      refine pw_iconst 1 (by decide) dX11_readCode_45 ?_
      refine pw_goto 50 dX11_readCode_46 (by decide) ?_
      exact mus 1 (fun h => absurd h (by decide)) (fun _ => Or.inr hs)
  · have hkr : kr e 16 = 32768 := by
      rcases hw with h | h
      · exact absurd (hkz.symm.trans h.1) hK1
      · exact h.2
    refine PM.go (l := [_, _, _, .float 0, .float 0, .float 0]) rfl rfl (Nat.le_of_ble_eq_true rfl) rfl ?_
    refine pw_iconst 0 (by decide) dX11_readCode_0 ?_
    refine ps_istore_n (l' := [_, _, _, _, _, _]) dX11_readCode_1 (by decide) rfl rfl ?_
    refine pw_iconst 1 (by decide) dX11_readCode_2 ?_
    refine ps_istore (l' := [_, _, _, _, _, _]) dX11_readCode_3 (by decide) rfl rfl ?_
    refine umc_loop (F := F) (A := A) (y := y) hO ho hB hn h67 h15 h68 hK hK1 hkz hkr hM.1 h0 hgn ?_ 15 0 0 (y.1.1, y.2) F _ rfl rfl frY_r hM.2 hku (Nat.zero_le _) (by decide) ?_
    · intro F' A' t hf ht hMY
      rw [ht] at hMY
      exact hQ F' A' hf hMY
    · unfold dc0
      rw [show decide (knz e 256 = 1) = false from decide_eq_false (by omega)]
theorem umr_loop {e : Nat → Nat} {K c : Nat} {s3 x4 : Int32} {g5 g6 : Value} (hO : OM F A o O) (ho : o ≤ 1024) (hB : isB O o) (hn : n ≤ 300) (hn0 : F 57 33 = nI n) (h67 : ∀ b, b < 256 → A 67 b = nI (e b)) (h15 : ∀ b, e b ≤ 15) (h68 : ∀ b, b < 256 → 0 < e b → A 68 b = nI (cod e b)) (hK : K ≤ 256) (hkz : knz e 256 = K) (hw : whl e) (hc : c < 256) (hc0 : 0 < e c) : ∀ (m : Nat) (y : YT) (F' A' : Nat → Nat → Int32), (y.1.1.1 = 0 → y.1.2.1 + m = n) → frZ F F' A A' → MY F' A' y → yok o n y →
    (∀ F' A', frZ F F' A A' → MY F' A' (rbs (dc0 O o e) 256 (fun j => nI j) m y) → PW Γ mX11_readPrefix 244 [.ref 57, .int (nI K), .int (nI c), .int s3, .int x4, g5, g6] [] (HS F' A' rf lo X) 0 0 Q) →
    PW Γ mX11_readPrefix 217 [.ref 57, .int (nI K), .int (nI c), .int s3, .int x4, g5, g6] [] (HS F' A' rf lo X) 0 0 Q := by
  intro m
  induction m with
  | zero =>
    intro y F' A' hgi hfr hC hk hq
    obtain ⟨hMB, hMU⟩ := id hC
    refine pw_aload_n rfl dX11_readPrefix_217 ?_
    refine pw_gI dX11_readPrefix_218 fX11_201 (by first | rfl | assumption) rfl ?_
    rw [hMB.1.1]
    by_cases h0 : y.1.1.1 = 0
    · have e1 := hgi h0
      refine pw_if_ne 244 dX11_readPrefix_221 (by decide) (fun q => absurd (by rw [h0]; rfl) q) (fun _ => ?_)
      refine pw_aload_n rfl dX11_readPrefix_224 ?_
      refine pw_gI dX11_readPrefix_225 fX11_216 (by first | rfl | assumption) rfl ?_
      rw [(hMB.2 h0).1]
      refine pw_aload_n rfl dX11_readPrefix_228 ?_
      refine pw_gI dX11_readPrefix_229 fX11_226 (by first | rfl | assumption) rfl ?_
      rw [hfr.1 57 33 (by omega), hn0]
      refine pw_icmp_ge 244 dX11_readPrefix_232 (by decide) (fun _ => ?_) (fun q => absurd (nI_le (by omega) (by omega)) q)
      exact hq F' A' hfr hC
    · have := hk.1.1.1
      refine pw_if_ne 244 dX11_readPrefix_221 (by decide) (fun _ => ?_) (fun q => absurd q (nI_ne0 (by omega) (by omega)))
      exact hq F' A' hfr hC
  | succ m ih =>
    intro y F' A' hgi hfr hC hk hq
    obtain ⟨hMB, hMU⟩ := id hC
    unfold rbs at hq
    refine pw_aload_n rfl dX11_readPrefix_217 ?_
    refine pw_gI dX11_readPrefix_218 fX11_201 (by first | rfl | assumption) rfl ?_
    rw [hMB.1.1]
    by_cases h0 : y.1.1.1 = 0
    · rw [if_pos h0] at hq
      have e1 := hgi h0
      have hg := gok_dc0 (O := O) (e := e) _ (yok_u hk)
      have hE := rbE_ok (t := dc0 O o e (y.1.1, y.2)) isB_nI hk hg.1 hg.2 (fun _ => by omega)
      refine pw_if_ne 244 dX11_readPrefix_221 (by decide) (fun q => absurd (by rw [h0]; rfl) q) (fun _ => ?_)
      refine pw_aload_n rfl dX11_readPrefix_224 ?_
      refine pw_gI dX11_readPrefix_225 fX11_216 (by first | rfl | assumption) rfl ?_
      rw [(hMB.2 h0).1]
      refine pw_aload_n rfl dX11_readPrefix_228 ?_
      refine pw_gI dX11_readPrefix_229 fX11_226 (by first | rfl | assumption) rfl ?_
      rw [hfr.1 57 33 (by omega), hn0]
      refine pw_icmp_ge 244 dX11_readPrefix_232 (by decide) (fun q => absurd q (nI_ge (by omega) (by omega))) (fun _ => ?_)
      refine pw_aload_n rfl dX11_readPrefix_235 ?_
      refine pw_iload_n rfl dX11_readPrefix_236 ?_
      refine pw_iload_n rfl dX11_readPrefix_237 ?_
      refine pc_V2 dX11_readPrefix_238 lX11_236 rfl rfl (by decide) (Nat.le_of_ble_eq_true rfl) ?_
      refine m_readCode (OM_Z hO hfr) ho hB hn (fun b hb => by rw [hfr.2 67 (by omega)]; exact h67 b hb) h15 (fun b hb hb0 => by rw [hfr.2 68 (by omega)]; exact h68 b hb hb0) hK hkz hw hc hc0 hC hk h0 (by omega) ?_
      intro F2 A2 hf2 hM2
      refine pw_goto 217 dX11_readPrefix_241 (by decide) ?_
      exact ih _ F2 A2 (fun z => by have := (hE.2 z).2; omega) (frZ_t hfr hf2) hM2 hE.1 hq
    · rw [if_neg h0] at hq
      have := hk.1.1.1
      refine pw_if_ne 244 dX11_readPrefix_221 (by decide) (fun _ => ?_) (fun q => absurd q (nI_ne0 (by omega) (by omega)))
      exact hq F' A' hfr hC
theorem m_readPrefix {b : BT} (hO : OM F A o O) (ho : o ≤ 1024) (hB : isB O o) (hn : n ≤ 300) (hn0 : F 57 33 = nI n) (hC : MB F A b) (hk : bk o n b) (hg : b.1.1 = 0 → b.2.1 = 0) (hQ : ∀ F' A', frV F F' A A' → MB F' A' (rEnd O (rPre O o n b)) → Q none (HS F' A' rf lo X)) : PM Γ mX11_readPrefix [.ref 57] (HS F A rf lo X) 0 0 Q := by
  obtain ⟨hR, hg2⟩ := id hC
  have hv := nxV_lt hB (o := o) (r := b.1)
  have hw0 := wh0_ok hB hk
  have hpk := pg0_ok hB hk
  have hpre := rPre_ok hB hk hg
  unfold rPre at hQ hpre
  refine PM.go (l := [_, .float 0, .float 0, .float 0, .float 0, .float 0, .float 0]) rfl rfl (Nat.le_of_ble_eq_true rfl) rfl ?_
  refine pw_aload_n rfl dX11_readPrefix_0 ?_
  refine pc_V0 dX11_readPrefix_1 lX11_213 rfl rfl (by decide) (Nat.le_of_ble_eq_true rfl) ?_
  refine m_next hO ho hB hR hk.1 ?_
  intro F1 hf1 hR1
  refine pw_iconst 1 (by decide) dX11_readPrefix_4 ?_
  refine pw_iadd dX11_readPrefix_5 ?_
  refine ps_istore_n (l' := [_, _, _, _, _, _, _]) dX11_readPrefix_6 (by decide) rfl rfl ?_
  refine pw_iconst (-1) (by decide) dX11_readPrefix_7 ?_
  refine ps_istore_n (l' := [_, _, _, _, _, _, _]) dX11_readPrefix_8 (by decide) rfl rfl ?_
  refine pw_iconst 0 (by decide) dX11_readPrefix_9 ?_
  refine ps_istore_n (l' := [_, _, _, _, _, _, _]) dX11_readPrefix_10 (by decide) rfl rfl ?_
  refine pw_iconst 0 (by decide) dX11_readPrefix_11 ?_
  refine ps_istore (l' := [_, _, _, _, _, _, _]) dX11_readPrefix_12 (by decide) rfl rfl ?_
  rw [nI_1]
  refine umz_loop (A := A) 256 0 A (by omega) (fun _ _ => rfl) (fun b hb => by omega) ?_
  intro A1 hA1 h671
  refine pw_iconst 0 (by decide) dX11_readPrefix_36 ?_
  refine ps_istore (l' := [_, _, _, _, _, _, _]) dX11_readPrefix_37 (by decide) rfl rfl ?_
  have hz := umg_loop (Γ := Γ) (Q := Q) (rf := rf) (lo := lo) (X := X) (F := F) (A := A) (K := nxV O o b.1 + 1) (by omega) hO ho hB (nxV O o b.1 + 1) 0 0 (nxS o b.1) (fun _ => 0) (-1) F1 A1 (.float 0) (.float 0) rfl rfl (by omega) rfl (by omega) hf1 hA1 hR1 (nxS_rok hk.1) h671 (fun _ => ⟨fun _ _ => rfl, knz_none 256⟩)
  rw [kr_none] at hz
  refine hz ?_
  intro F2 A2 x2 s3 i4 g5 g6 hf2 hA2 hR2 hx2
  have hpd : pgs O o (nxV O o b.1 + 1) (nxS o b.1) 0 (fun _ => 0) = pg0 O o b := rfl
  have hpF : pgF O o (nxV O o b.1 + 1) (nxS o b.1) 0 (fun _ => 0) = wh1 (pg0 O o b).2.1 (pg0 O o b).1 := by
    unfold pgF
    rw [if_neg (by omega), hpd]
  rw [hpF] at hR2 hx2
  rw [hpd] at hx2
  obtain ⟨p, hp⟩ : ∃ p, p = pg0 O o b := ⟨_, rfl⟩
  rw [← hp] at hw0 hQ hR2 hx2 hpk hpre
  have hfV2 : frV F F2 A A2 := ⟨fun i j k1 => hf2 i j (by omega), fun i k1 k2 k3 k4 => hA2 i k3⟩
  refine pw_aload_n rfl dX11_readPrefix_199 ?_
  refine pw_gI dX11_readPrefix_200 fX11_201 (by first | rfl | assumption) rfl ?_
  rw [hR2.1]
  by_cases h0 : (wh1 p.2.1 p.1).1 = 0
  · obtain ⟨z1, z2, z3⟩ := wh1_0 h0
    obtain ⟨h67, hx⟩ := hx2 h0
    obtain ⟨q1, q2, q3, q4, q5, q6⟩ := hpk.2.2 z1
    have hb0 := (nxS_0 q1).1
    have hc : x2 = nI (p.2.2 - 1) := by rw [hx]; exact pk_sub (b := 1) (by omega)
    rw [hc]
    refine pw_if_eq 207 dX11_readPrefix_203 (by decide) (fun _ => ?_) (fun q => absurd (by rw [h0]; rfl) q)
    refine pw_aload_n rfl dX11_readPrefix_207 ?_
    refine pc_V0 dX11_readPrefix_208 lX11_158 rfl rfl (by decide) (Nat.le_of_ble_eq_true rfl) ?_
    refine m_findCodes h67 hpk.2.1 ?_
    intro g hgc
    refine pw_aload_n rfl dX11_readPrefix_211 ?_
    refine pw_bipush 8 (by decide) dX11_readPrefix_212 ?_
    refine pw_pI dX11_readPrefix_214 fX11_210 (by first | rfl | assumption) rfl ⟨rfl, rfl⟩ ?_
    have hfV : frV F (upF F2 57 34 8) A (stA A2 68 g) := ⟨fun i j k1 => by rw [upF_n (by omega)]; exact hf2 i j (by omega), fun i k1 k2 k3 k4 => by rw [stA_n k4]; exact hA2 i k3⟩
    have hR3 : RM (upF F2 57 34 8) (wh1 p.2.1 p.1) := ⟨by rw [upF_n (by omega)]; exact hR2.1, fun z => by rw [upF_n (by omega), upF_n (by omega)]; exact hR2.2.1 z, fun z => by rw [upF_n (by omega)]; exact hR2.2.2 z⟩
    have hMY : MY (upF F2 57 34 8) (stA A2 68 g) ((wh1 p.2.1 p.1, b.2), 0) := by
      refine ⟨⟨hR3, fun z => ?_⟩, hR3, 8, upF_s, by omega, fun _ => rfl⟩
      rw [upF_n (by omega), hf2 57 32 (by omega), stA_n (by omega), hA2 63 (by omega)]
      exact hg2 hb0
    have e0 := hg hb0
    refine umr_loop (F := upF F2 57 34 8) (A := stA A2 68 g) (e := p.2.1) (OM_V hO hfV) ho hB hn (by rw [hfV.1 57 33 (by omega)]; exact hn0) (fun x hx => by rw [stA_n (by omega)]; exact h67 x hx) hpk.2.1 (fun x hx hx0 => by rw [stA_s]; exact hgc x hx hx0) (by omega) q3 z2 (by omega) q6 n ((wh1 p.2.1 p.1, b.2), 0) _ _ (fun _ => by show b.2.1 + n = n; omega) frZ_r hMY hw0 ?_
    intro F3 A3 hf3 hC3
    obtain ⟨y, hy⟩ : ∃ y, y = rbs (dc0 O o p.2.1) 256 (fun j => nI j) n ((wh1 p.2.1 p.1, b.2), 0) := ⟨_, rfl⟩
    rw [← hy] at hC3 hQ hpre
    have hfV3 := frV_t hfV (frV_Z hf3)
    refine pw_aload_n rfl dX11_readPrefix_244 ?_
    refine pc_V0 dX11_readPrefix_245 lX11_232 rfl rfl (by decide) (Nat.le_of_ble_eq_true rfl) ?_
    refine m_endBits (OM_V hO hfV3) ho hB hC3.2 (yok_u hpre.1) ?_
    intro F4 hf4 hR4
    refine pw_vret dX11_readPrefix_248 rfl ?_
    exact hQ F4 A3 (frV_t hfV3 (frV_Z (frZ_Y hf4))) (MB_Z hC3.1 hf4 hR4 (fun z => (ebR_0 z).1))
  · have := hw0.1.1.1
    have h4 : (wh1 p.2.1 p.1).1 ≤ 4 := hw0.1.1.1
    refine pw_if_eq 207 dX11_readPrefix_203 (by decide) (fun q => absurd q (nI_ne0 (by omega) (by omega))) (fun _ => ?_)
    refine pw_vret dX11_readPrefix_206 rfl ?_
    rw [rbs_f (y := ((wh1 p.2.1 p.1, b.2), 0)) h0] at hQ
    refine hQ F2 A2 hfV2 ?_
    have e1 : rEnd O ((wh1 p.2.1 p.1, b.2), 0) = (wh1 p.2.1 p.1, b.2) := by
      unfold rEnd
      rw [ebR_f (s := (wh1 p.2.1 p.1, 0)) h0]
    rw [e1]
    exact ⟨hR2, fun z => absurd z h0⟩
end
