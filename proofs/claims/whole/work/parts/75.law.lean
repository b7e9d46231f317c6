/-! the law: its start, its loop (written by wip/gen/lawgen.py) -/
abbrev mL_law : MD := (yL_law, cL_law, 8, some .boolean, 10, 342)
abbrev lw_l (x : Int32) : List Value := [.retAddr 4, .ref 0, .ref 57, .ref 74, .int x, .float 0, .float 0, .float 0]
theorem nI_4 {i : Nat} : nI i + 4 = nI (i + 4) := nI_add i 4
theorem sc_in {Γ : Nat × (Nat → Int32)} {i k : Nat} (h : i + k < Γ.1) (hL : Γ.1 ≤ 256) : vp_in (nI i + nI k) (ptab Γ 4).1 := by
  rw [nI_add]
  exact vp_in_nI (show i + k < Γ.1 from h) (show Γ.1 < 2 ^ 31 by omega)
theorem sc_i0 {Γ : Nat × (Nat → Int32)} {i : Nat} (h : i < Γ.1) (hL : Γ.1 ≤ 256) : vp_in (nI i) (ptab Γ 4).1 := vp_in_nI (show i < Γ.1 from h) (show Γ.1 < 2 ^ 31 by omega)
theorem gt_4 {i L : Nat} (hL : L ≤ 256) (hi : i < 1000) : nI L - 4 < nI i ↔ L < i + 4 := by
  rw [Int32.lt_iff_toInt_lt, show (4 : Int32) = nI 4 from rfl, pk_sub_toInt (by omega) (by omega), nI_toInt (by omega)]
  omega
theorem and31 (x : Int32) : ∃ j : Nat, j < 32 ∧ x &&& 31 = nI j := by
  have hx : x = nI x.toBitVec.toNat := by
    apply Int32.toBitVec_inj.mp
    show x.toBitVec = (Int32.ofNat x.toBitVec.toNat).toBitVec
    rw [Int32.toBitVec_ofNat', BitVec.ofNat_toNat, BitVec.setWidth_eq]
  refine ⟨x.toBitVec.toNat % 32, Nat.mod_lt _ (by decide), ?_⟩
  have h := pk_andN (n := x.toBitVec.toNat) x.toBitVec.isLt (m := 31) 5 rfl
  rw [← hx] at h
  exact h
section
variable {Γ : Nat × (Nat → Int32)} {M : MD} {pc : Nat} {l l' st : List Value} {h : PH} {bc bs bc' bs' : Nat} {Q : Option Value → PH → Prop} {F A : Nat → Nat → Int32} {rf : Nat} {lo : Int64} {X : PH}
theorem pw_weak (h1 : bc ≤ bc') (h2 : bs ≤ bs') (k : PW Γ M pc l st h bc bs Q) : PW Γ M pc l st h bc' bs' Q := by
  intro p lc e R s m args below meth c D Y σ base H locs cells slots ls Z C hP hS hL hc hs fin
  exact k p lc e R s m args below meth c D Y σ base H locs cells slots ls Z C hP hS hL (by omega) (by omega) (fun r h' H' locs' cells' slots' ls' pc' a1 a2 a3 a4 a5 a6 => fin r h' H' locs' cells' slots' ls' pc' a1 a2 a3 (by omega) (by omega) a6)
/-- less is told of the locals -/
theorem pw_less (hl : ∀ (i : Nat) (v : Value), l'[i]? = some v → ¬ v = .float 0 → l[i]? = some v) (k : PW Γ M pc l' st h bc bs Q) : PW Γ M pc l st h bc bs Q := by
  intro p lc e R s m args below meth c D Y σ base H locs cells slots ls Z C hP hS hL hc hs fin
  exact k p lc e R s m args below meth c D Y σ base H locs cells slots ls Z C hP hS ⟨hL.1, hL.2.1, fun i v hv hf => hL.2.2 i v (hl i v hv hf) hf⟩ hc hs fin
theorem pw_lstore {i : Nat} {x : Int64} (hdg : decode (mcode M) pc = .ok (.lstore i, 2)) (hi : i + 1 < mxl M) (hn : pnl l i = true) (h1 : l[i + 1]? = some (.float 0)) (hl : l.set i (.long x) = l') (k : PW Γ M (pc + 2) l' st h bc bs Q) : PW Γ M pc l (.long x :: st) h bc bs Q := by
  intro p lc e R s m args below meth c D Y σ base H locs cells slots ls Z C hP hS hL hc hs fin
  refine lv_lstore C.1 C.2.1 hdg (plv_has hL) hi rfl (fun ls' h' => ?_)
  refine k p lc e R s m args below meth c D Y σ base H locs cells slots ls' Z C hP hS ?_ hc hs fin
  rw [← hl]
  refine ⟨h'.1, h'.2.1, fun j w hw hf => ?_⟩
  by_cases hj : j = i
  · subst hj
    have hlt : j < l.length := by
      have := (List.getElem?_eq_some_iff.mp hw).1
      simpa using this
    rw [List.getElem?_set_self hlt] at hw
    cases hw
    exact h'.2.2 _ List.mem_cons_self
  · rw [List.getElem?_set_ne (Ne.symm hj)] at hw
    refine h'.2.2 (j, pv σ base w) (List.mem_cons_of_mem _ (List.mem_filter.mpr ⟨plv_mem.mpr ⟨w, hw, hf, rfl⟩, ?_⟩))
    have e1 : (j == i) = false := by simpa using hj
    have e2 : (j == i + 1) = false := by
      by_cases h2 : j = i + 1
      · subst h2
        rw [h1] at hw
        cases hw
        exact absurd rfl hf
      · simpa using h2
    simp only [e1, e2, Bool.not_false, Bool.true_and, Bool.not_eq_true']
    by_cases h2 : j + 1 = i
    · subst h2
      have hc : w.category = 1 := by
        simp only [pnl, hw] at hn
        simpa using hn
      simp [pv_cat, hc]
    · simp [h2]
theorem op_run {C M' : MD} {cs ms : List Value} (h : OP Γ C M' cs ms) (hI : INV F A) (k : ∀ v F' A' rf', NXT Γ M' ms lo X v F' A' rf' → Q (some (.int v)) (HS F' A' rf' lo X)) : PM Γ C cs (HS F A rf lo X) 0 0 Q := h F A rf lo X Q hI k
theorem nx_run {M' : MD} {ms : List Value} {v : Int32} (h : NXT Γ M' ms lo X v F A rf) (k : ∀ F' A', INV F' A' → Q (some (.int v)) (HS F' A' rf lo X)) : PM Γ M' ms (HS F A rf lo X) 0 0 Q := h Q k
theorem INV_0 {v : Int32} (hI : INV F A) : INV (upF F 57 0 v) A := by
  obtain ⟨s, h1, h2, h3⟩ := hI
  exact ⟨s, h1, CI_fr h2 frM_0, MI_0 h3⟩
end

def kc10 : PH := [.inr (10, [.ref 1, .ref 3, .ref 5, .ref 7, .ref 9, .ref 11, .ref 15, .ref 17, .ref 34, .ref 53, .ref 55, .ref 56, .int 0, .int (-3)]), .inr (6, [.ref 2, .int 0]), .inl (.int, 300, .inl (fun _ => 0)), .inr (6, [.ref 4, .int 0]), .inl (.int, 1024, .inl (fun _ => 0)), .inr (6, [.ref 6, .int 0]), .inl (.int, 1024, .inl (fun _ => 0)), .inr (6, [.ref 8, .int 0]), .inl (.int, 300, .inl (fun _ => 0)), .inr (6, [.ref 10, .int 0]), .inl (.int, 300, .inl (fun _ => 0)), .inr (1, [.ref 12, .ref 13, .int 0, .ref 14, .int 1]), .inl (.int, 4, .inl (fun _ => 0)), .inl (.int, 4, .inl (fun _ => 0)), .inl (.int, 5, .inl (fun _ => 0)), .inr (2, [.ref 16]), .inl (.int, 256, .inl (fun _ => 0)), .inr (3, [.ref 18, .ref 19, .ref 20, .ref 21, .ref 22, .ref 23, .ref 28, .int 0, .int 0]), .inl (.int, 256, .inl (fun _ => 0)), .inl (.int, 256, .inl (fun _ => 0)), .inl (.int, 256, .inl (fun _ => 0)), .inl (.int, 300, .inl (fun _ => 0)), .inr (0, [.int 0, .int 0]), .inr (8, [.ref 24, .ref 25, .ref 26, .ref 27, .int 0, .int 0, .int 0]), .inl (.int, 512, .inl (fun _ => 0)), .inl (.int, 512, .inl (fun _ => 0)), .inl (.int, 512, .inl (fun _ => 0)), .inl (.int, 256, .inl (fun _ => 0)), .inr (4, [.ref 29, .ref 30, .ref 31, .ref 32, .ref 33, .int 0]), .inl (.int, 256, .inl (fun _ => 0)), .inl (.int, 256, .inl (fun _ => 0)), .inl (.int, 256, .inl (fun _ => 0)), .inl (.int, 16, .inl (fun _ => 0)), .inl (.int, 17, .inl (fun _ => 0)), .inr (9, [.ref 35, .ref 38, .ref 39, .ref 40, .ref 41, .ref 47, .ref 49, .ref 51, .int 0, .int 0, .int 0]), .inr (5, [.ref 36, .int 0, .int 0, .int 0, .int 0, .int 0]), .inr (6, [.ref 37, .int 0]), .inl (.int, 0, .inl (fun _ => 0)), .inl (.int, 2, .inl (fun _ => 0)), .inl (.int, 2, .inl (fun _ => 0)), .inl (.int, 256, .inl (fun _ => 0)), .inr (4, [.ref 42, .ref 43, .ref 44, .ref 45, .ref 46, .int 0]), .inl (.int, 256, .inl (fun _ => 0)), .inl (.int, 256, .inl (fun _ => 0)), .inl (.int, 256, .inl (fun _ => 0)), .inl (.int, 16, .inl (fun _ => 0)), .inl (.int, 17, .inl (fun _ => 0)), .inr (2, [.ref 48]), .inl (.int, 256, .inl (fun _ => 0)), .inr (6, [.ref 50, .int 0]), .inl (.int, 300, .inl (fun _ => 0)), .inr (6, [.ref 52, .int 0]), .inl (.int, 300, .inl (fun _ => 0)), .inr (7, [.ref 54]), .inl (.int, 256, .inl (fun _ => 0)), .inl (.int, 6, .inl (fun _ => 0)), .inl (.int, 64, .inl (cpn (fun _ => -3) (fun _ => 0) 64))]
def kc11 : PH := [.inr (11, [.int 0, .int 0, .ref 58, .int 0, .ref 59, .int 0, .ref 60, .ref 61, .int 0, .ref 62, .int 0, .int 0, .int 0, .ref 63, .ref 64, .int 0, .ref 65, .int 0, .ref 66, .ref 67, .ref 68, .ref 69, .ref 70, .ref 71, .int 0, .ref 72, .ref 73, .int 0, .int (-3), .int 0, .int 0, .int 0, .int 0, .int 0, .int 0]), .inl (.int, 300, .inl (fun _ => 0)), .inl (.int, 1400, .inl (fun _ => 0)), .inl (.int, 4, .inl (fun _ => 0)), .inl (.int, 4, .inl (fun _ => 0)), .inl (.int, 4, .inl (fun _ => 0)), .inl (.int, 300, .inl (fun _ => 0)), .inl (.int, 300, .inl (fun _ => 0)), .inl (.int, 1400, .inl (fun _ => 0)), .inl (.int, 256, .inl (fun _ => 0)), .inl (.int, 256, .inl (fun _ => 0)), .inl (.int, 256, .inl (fun _ => 0)), .inl (.int, 512, .inl (fun _ => 0)), .inl (.int, 512, .inl (fun _ => 0)), .inl (.int, 256, .inl (fun _ => 0)), .inl (.int, 6, .inl (fun _ => 0)), .inl (.int, 64, .inl (cpn (fun _ => -3) (fun _ => 0) 64))]
def lF0 : Nat → Nat → Int32 := fun i k => if i = 11 ∧ k = 4 then 1 else if i = 0 ∧ k = 13 then -3 else if i = 57 ∧ k = 28 then -3 else 0
def lA0 : Nat → Nat → Int32 := fun i => if i = 56 ∨ i = 73 then cpn (fun _ => -3) (fun _ => 0) 64 else fun _ => 0
set_option maxRecDepth 20000 in
theorem world0 : (kc10 ++ kc11) ++ [.inl (.long, 1, .inr (.inl (fun _ => 0)))] = HS lF0 lA0 36 0 [] := rfl
theorem inv0 : INV lF0 lA0 := by
  refine ⟨((0, fun _ => 0), (0, fun _ => 0), (0, 1, fun _ => 0, fun _ => 0, fun _ => 0), (false, fun _ => 0), fun _ => -3, -3), ⟨Nat.zero_le _, fun j hj => absurd hj (Nat.not_lt_zero _), Nat.zero_le _, fun j hj => absurd hj (Nat.not_lt_zero _), fun i j h1 h2 => ?_⟩, ⟨⟨rfl, fun j hj => absurd hj (Nat.not_lt_zero _)⟩, ⟨rfl, fun j hj => absurd hj (Nat.not_lt_zero _)⟩, ⟨rfl, by decide, rfl, by decide, by decide, fun i hi => absurd hi (Nat.not_lt_zero _), fun i _ => ⟨rfl, by show 0 < 5; omega⟩, rfl⟩, ⟨rfl, fun h => absurd h (by decide)⟩, fun j hj => ?_, rfl, rfl, rfl⟩, ⟨rfl, fun j hj => absurd hj (Nat.not_lt_zero _)⟩, ⟨rfl, fun j hj => absurd hj (Nat.not_lt_zero _)⟩, ⟨rfl, by decide, rfl, by decide, by decide, fun i hi => absurd hi (Nat.not_lt_zero _), fun i hi => ?_, fun i _ => by show 0 < 5; omega, rfl⟩, ⟨rfl, fun h => absurd h (by decide)⟩, fun j hj => ?_, rfl⟩
  · have h3 : j < 1 := h2
    omega
  · show cpn (fun _ => -3) (fun _ => 0) 64 j = -3
    rw [cpn_lt hj]
  · have h3 : i + 1 < 1 := hi
    omega
  · show cpn (fun _ => -3) (fun _ => 0) 64 j = -3
    rw [cpn_lt hj]
/-- what a new object, a new reference and the law's row of one long take: 75 cells, 15072 slots -/
def csz (c : PE) : Nat := match c with
  | .inl a => a.2.1
  | .inr o => o.2.length
set_option maxRecDepth 20000 in
theorem slots0 : (List.map csz (kc10 ++ kc11 ++ ([.inl (.long, 1, .inr (.inl (fun _ => 0)))] : PH))).sum = 15072 := rfl

section
variable {Γ : Nat × (Nat → Int32)} {F A : Nat → Nat → Int32} {rf i bc bs : Nat} {lo : Int64} {X : PH} {Q : Option Value → PH → Prop}
theorem law_0 (hI : INV F A) (hi : i + 4 ≤ Γ.1) (hL : Γ.1 ≤ 256) (back : ∀ F A rf lo X, INV F A → PW Γ mL_law 23 (lw_l (nI (i + 4))) [] (HS F A rf lo X) bc bs Q) : PW Γ mL_law 136 (lw_l (nI i)) [] (HS F A rf lo X) bc bs Q := by
  refine pw_aload_n rfl dL_law_136 ?_
  refine pc_V0 dL_law_137 lL_19 rfl (by first | rfl | assumption) (by decide) (Nat.le_of_ble_eq_true rfl) ?_
  refine op_run (o_clear) hI ?_
  intro v F1 A1 rf1 hN
  refine pw_aload_n rfl dL_law_140 ?_
  refine pc_V0 dL_law_141 lL_23 rfl (by first | rfl | assumption) (by decide) (Nat.le_of_ble_eq_true rfl) ?_
  refine nx_run hN ?_
  intro F2 A2 hI2
  refine pw_icmp_eq 703 dL_law_144 (by decide) (fun _ => ?_) (fun q => absurd (rfl) q)
  refine ps_iinc (l' := [_, _, _, _, _, _, _, _]) 4 dL_law_703 (by decide) rfl (by decide) rfl rfl ?_
  refine pw_goto 23 dL_law_706 (by decide) ?_
  rw [nI_4]
  exact back F2 A2 rf1 lo X hI2
theorem law_1 (hI : INV F A) (hi : i + 4 ≤ Γ.1) (hL : Γ.1 ≤ 256) (back : ∀ F A rf lo X, INV F A → PW Γ mL_law 23 (lw_l (nI (i + 4))) [] (HS F A rf lo X) bc bs Q) : PW Γ mL_law 149 (lw_l (nI i)) [] (HS F A rf lo X) bc bs Q := by
  refine pw_aload_n rfl dL_law_149 ?_
  refine pw_aload_nS rfl dL_law_150 ?_
  refine pw_iload rfl dL_law_151 ?_
  refine pw_iconst 1 (by decide) dL_law_153 ?_
  refine pw_iadd dL_law_154 ?_
  refine pw_saload (by decide) dL_law_155 (sc_in (k := 1) (by omega) (by omega)) ?_
  refine pc_V1 dL_law_156 lL_24 rfl (by first | rfl | assumption) (by decide) (Nat.le_of_ble_eq_true rfl) ?_
  refine op_run (o_add _) hI ?_
  intro v F1 A1 rf1 hN
  refine pw_aload_n rfl dL_law_159 ?_
  refine pw_aload_nS rfl dL_law_160 ?_
  refine pw_iload rfl dL_law_161 ?_
  refine pw_iconst 1 (by decide) dL_law_163 ?_
  refine pw_iadd dL_law_164 ?_
  refine pw_saload (by decide) dL_law_165 (sc_in (k := 1) (by omega) (by omega)) ?_
  refine pc_V1 dL_law_166 lL_28 rfl (by first | rfl | assumption) (by decide) (Nat.le_of_ble_eq_true rfl) ?_
  refine nx_run hN ?_
  intro F2 A2 hI2
  refine pw_icmp_eq 703 dL_law_169 (by decide) (fun _ => ?_) (fun q => absurd (rfl) q)
  refine ps_iinc (l' := [_, _, _, _, _, _, _, _]) 4 dL_law_703 (by decide) rfl (by decide) rfl rfl ?_
  refine pw_goto 23 dL_law_706 (by decide) ?_
  rw [nI_4]
  exact back F2 A2 rf1 lo X hI2
theorem law_2 (hI : INV F A) (hi : i + 4 ≤ Γ.1) (hL : Γ.1 ≤ 256) (back : ∀ F A rf lo X, INV F A → PW Γ mL_law 23 (lw_l (nI (i + 4))) [] (HS F A rf lo X) bc bs Q) : PW Γ mL_law 174 (lw_l (nI i)) [] (HS F A rf lo X) bc bs Q := by
  refine pw_aload_n rfl dL_law_174 ?_
  refine pw_aload_nS rfl dL_law_175 ?_
  refine pw_iload rfl dL_law_176 ?_
  refine pw_iconst 1 (by decide) dL_law_178 ?_
  refine pw_iadd dL_law_179 ?_
  refine pw_saload (by decide) dL_law_180 (sc_in (k := 1) (by omega) (by omega)) ?_
  refine pw_aload_nS rfl dL_law_181 ?_
  refine pw_iload rfl dL_law_182 ?_
  refine pw_iconst 2 (by decide) dL_law_184 ?_
  refine pw_iadd dL_law_185 ?_
  refine pw_saload (by decide) dL_law_186 (sc_in (k := 2) (by omega) (by omega)) ?_
  refine pw_aload_nS rfl dL_law_187 ?_
  refine pw_iload rfl dL_law_188 ?_
  refine pw_iconst 3 (by decide) dL_law_190 ?_
  refine pw_iadd dL_law_191 ?_
  refine pw_saload (by decide) dL_law_192 (sc_in (k := 3) (by omega) (by omega)) ?_
  refine pc_V3 dL_law_193 lL_29 rfl (by first | rfl | assumption) (by decide) (Nat.le_of_ble_eq_true rfl) ?_
  refine op_run (o_fill _ _ _) hI ?_
  intro v F1 A1 rf1 hN
  refine pw_aload_n rfl dL_law_196 ?_
  refine pw_aload_nS rfl dL_law_197 ?_
  refine pw_iload rfl dL_law_198 ?_
  refine pw_iconst 1 (by decide) dL_law_200 ?_
  refine pw_iadd dL_law_201 ?_
  refine pw_saload (by decide) dL_law_202 (sc_in (k := 1) (by omega) (by omega)) ?_
  refine pw_aload_nS rfl dL_law_203 ?_
  refine pw_iload rfl dL_law_204 ?_
  refine pw_iconst 2 (by decide) dL_law_206 ?_
  refine pw_iadd dL_law_207 ?_
  refine pw_saload (by decide) dL_law_208 (sc_in (k := 2) (by omega) (by omega)) ?_
  refine pw_aload_nS rfl dL_law_209 ?_
  refine pw_iload rfl dL_law_210 ?_
  refine pw_iconst 3 (by decide) dL_law_212 ?_
  refine pw_iadd dL_law_213 ?_
  refine pw_saload (by decide) dL_law_214 (sc_in (k := 3) (by omega) (by omega)) ?_
  refine pc_V3 dL_law_215 lL_33 rfl (by first | rfl | assumption) (by decide) (Nat.le_of_ble_eq_true rfl) ?_
  refine nx_run hN ?_
  intro F2 A2 hI2
  refine pw_icmp_eq 703 dL_law_218 (by decide) (fun _ => ?_) (fun q => absurd (rfl) q)
  refine ps_iinc (l' := [_, _, _, _, _, _, _, _]) 4 dL_law_703 (by decide) rfl (by decide) rfl rfl ?_
  refine pw_goto 23 dL_law_706 (by decide) ?_
  rw [nI_4]
  exact back F2 A2 rf1 lo X hI2
theorem law_3 (hI : INV F A) (hi : i + 4 ≤ Γ.1) (hL : Γ.1 ≤ 256) (back : ∀ F A rf lo X, INV F A → PW Γ mL_law 23 (lw_l (nI (i + 4))) [] (HS F A rf lo X) bc bs Q) : PW Γ mL_law 223 (lw_l (nI i)) [] (HS F A rf lo X) bc bs Q := by
  refine pw_aload_n rfl dL_law_223 ?_
  refine pw_aload_nS rfl dL_law_224 ?_
  refine pw_iload rfl dL_law_225 ?_
  refine pw_iconst 1 (by decide) dL_law_227 ?_
  refine pw_iadd dL_law_228 ?_
  refine pw_saload (by decide) dL_law_229 (sc_in (k := 1) (by omega) (by omega)) ?_
  refine pc_V1 dL_law_230 lL_34 rfl (by first | rfl | assumption) (by decide) (Nat.le_of_ble_eq_true rfl) ?_
  refine op_run (o_size _) hI ?_
  intro v F1 A1 rf1 hN
  refine pw_aload_n rfl dL_law_233 ?_
  refine pw_aload_nS rfl dL_law_234 ?_
  refine pw_iload rfl dL_law_235 ?_
  refine pw_iconst 1 (by decide) dL_law_237 ?_
  refine pw_iadd dL_law_238 ?_
  refine pw_saload (by decide) dL_law_239 (sc_in (k := 1) (by omega) (by omega)) ?_
  refine pc_V1 dL_law_240 lL_37 rfl (by first | rfl | assumption) (by decide) (Nat.le_of_ble_eq_true rfl) ?_
  refine nx_run hN ?_
  intro F2 A2 hI2
  refine pw_icmp_eq 703 dL_law_243 (by decide) (fun _ => ?_) (fun q => absurd (rfl) q)
  refine ps_iinc (l' := [_, _, _, _, _, _, _, _]) 4 dL_law_703 (by decide) rfl (by decide) rfl rfl ?_
  refine pw_goto 23 dL_law_706 (by decide) ?_
  rw [nI_4]
  exact back F2 A2 rf1 lo X hI2
theorem law_4 (hI : INV F A) (hi : i + 4 ≤ Γ.1) (hL : Γ.1 ≤ 256) (back : ∀ F A rf lo X, INV F A → PW Γ mL_law 23 (lw_l (nI (i + 4))) [] (HS F A rf lo X) bc bs Q) : PW Γ mL_law 248 (lw_l (nI i)) [] (HS F A rf lo X) bc bs Q := by
  refine pw_aload_n rfl dL_law_248 ?_
  refine pw_aload_nS rfl dL_law_249 ?_
  refine pw_iload rfl dL_law_250 ?_
  refine pw_iconst 1 (by decide) dL_law_252 ?_
  refine pw_iadd dL_law_253 ?_
  refine pw_saload (by decide) dL_law_254 (sc_in (k := 1) (by omega) (by omega)) ?_
  refine pw_aload_nS rfl dL_law_255 ?_
  refine pw_iload rfl dL_law_256 ?_
  refine pw_iconst 2 (by decide) dL_law_258 ?_
  refine pw_iadd dL_law_259 ?_
  refine pw_saload (by decide) dL_law_260 (sc_in (k := 2) (by omega) (by omega)) ?_
  refine pc_V2 dL_law_261 lL_38 rfl (by first | rfl | assumption) (by decide) (Nat.le_of_ble_eq_true rfl) ?_
  refine op_run (o_octet _ _) hI ?_
  intro v F1 A1 rf1 hN
  refine pw_aload_n rfl dL_law_264 ?_
  refine pw_aload_nS rfl dL_law_265 ?_
  refine pw_iload rfl dL_law_266 ?_
  refine pw_iconst 1 (by decide) dL_law_268 ?_
  refine pw_iadd dL_law_269 ?_
  refine pw_saload (by decide) dL_law_270 (sc_in (k := 1) (by omega) (by omega)) ?_
  refine pw_aload_nS rfl dL_law_271 ?_
  refine pw_iload rfl dL_law_272 ?_
  refine pw_iconst 2 (by decide) dL_law_274 ?_
  refine pw_iadd dL_law_275 ?_
  refine pw_saload (by decide) dL_law_276 (sc_in (k := 2) (by omega) (by omega)) ?_
  refine pc_V2 dL_law_277 lL_42 rfl (by first | rfl | assumption) (by decide) (Nat.le_of_ble_eq_true rfl) ?_
  refine nx_run hN ?_
  intro F2 A2 hI2
  refine pw_icmp_eq 703 dL_law_280 (by decide) (fun _ => ?_) (fun q => absurd (rfl) q)
  refine ps_iinc (l' := [_, _, _, _, _, _, _, _]) 4 dL_law_703 (by decide) rfl (by decide) rfl rfl ?_
  refine pw_goto 23 dL_law_706 (by decide) ?_
  rw [nI_4]
  exact back F2 A2 rf1 lo X hI2
theorem law_5 (hI : INV F A) (hi : i + 4 ≤ Γ.1) (hL : Γ.1 ≤ 256) (back : ∀ F A rf lo X, INV F A → PW Γ mL_law 23 (lw_l (nI (i + 4))) [] (HS F A rf lo X) bc bs Q) : PW Γ mL_law 285 (lw_l (nI i)) [] (HS F A rf lo X) bc bs Q := by
  refine pw_aload_n rfl dL_law_285 ?_
  refine pw_aload_nS rfl dL_law_286 ?_
  refine pw_iload rfl dL_law_287 ?_
  refine pw_iconst 1 (by decide) dL_law_289 ?_
  refine pw_iadd dL_law_290 ?_
  refine pw_saload (by decide) dL_law_291 (sc_in (k := 1) (by omega) (by omega)) ?_
  refine pw_aload_nS rfl dL_law_292 ?_
  refine pw_iload rfl dL_law_293 ?_
  refine pw_iconst 2 (by decide) dL_law_295 ?_
  refine pw_iadd dL_law_296 ?_
  refine pw_saload (by decide) dL_law_297 (sc_in (k := 2) (by omega) (by omega)) ?_
  refine pc_V2 dL_law_298 lL_43 rfl (by first | rfl | assumption) (by decide) (Nat.le_of_ble_eq_true rfl) ?_
  refine op_run (o_filter _ _) hI ?_
  intro v F1 A1 rf1 hN
  refine pw_aload_n rfl dL_law_301 ?_
  refine pw_aload_nS rfl dL_law_302 ?_
  refine pw_iload rfl dL_law_303 ?_
  refine pw_iconst 1 (by decide) dL_law_305 ?_
  refine pw_iadd dL_law_306 ?_
  refine pw_saload (by decide) dL_law_307 (sc_in (k := 1) (by omega) (by omega)) ?_
  refine pw_aload_nS rfl dL_law_308 ?_
  refine pw_iload rfl dL_law_309 ?_
  refine pw_iconst 2 (by decide) dL_law_311 ?_
  refine pw_iadd dL_law_312 ?_
  refine pw_saload (by decide) dL_law_313 (sc_in (k := 2) (by omega) (by omega)) ?_
  refine pc_V2 dL_law_314 lL_46 rfl (by first | rfl | assumption) (by decide) (Nat.le_of_ble_eq_true rfl) ?_
  refine nx_run hN ?_
  intro F2 A2 hI2
  refine pw_icmp_eq 703 dL_law_317 (by decide) (fun _ => ?_) (fun q => absurd (rfl) q)
  refine ps_iinc (l' := [_, _, _, _, _, _, _, _]) 4 dL_law_703 (by decide) rfl (by decide) rfl rfl ?_
  refine pw_goto 23 dL_law_706 (by decide) ?_
  rw [nI_4]
  exact back F2 A2 rf1 lo X hI2
theorem law_6 (hI : INV F A) (hi : i + 4 ≤ Γ.1) (hL : Γ.1 ≤ 256) (back : ∀ F A rf lo X, INV F A → PW Γ mL_law 23 (lw_l (nI (i + 4))) [] (HS F A rf lo X) bc bs Q) : PW Γ mL_law 322 (lw_l (nI i)) [] (HS F A rf lo X) bc bs Q := by
  refine pw_aload_n rfl dL_law_322 ?_
  refine pw_aload_nS rfl dL_law_323 ?_
  refine pw_iload rfl dL_law_324 ?_
  refine pw_iconst 1 (by decide) dL_law_326 ?_
  refine pw_iadd dL_law_327 ?_
  refine pw_saload (by decide) dL_law_328 (sc_in (k := 1) (by omega) (by omega)) ?_
  refine pc_V1 dL_law_329 lL_47 rfl (by first | rfl | assumption) (by decide) (Nat.le_of_ble_eq_true rfl) ?_
  refine op_run (o_packer _) hI ?_
  intro v F1 A1 rf1 hN
  refine pw_aload_n rfl dL_law_332 ?_
  refine pw_aload_nS rfl dL_law_333 ?_
  refine pw_iload rfl dL_law_334 ?_
  refine pw_iconst 1 (by decide) dL_law_336 ?_
  refine pw_iadd dL_law_337 ?_
  refine pw_saload (by decide) dL_law_338 (sc_in (k := 1) (by omega) (by omega)) ?_
  refine pc_V1 dL_law_339 lL_50 rfl (by first | rfl | assumption) (by decide) (Nat.le_of_ble_eq_true rfl) ?_
  refine nx_run hN ?_
  intro F2 A2 hI2
  refine pw_icmp_eq 703 dL_law_342 (by decide) (fun _ => ?_) (fun q => absurd (rfl) q)
  refine ps_iinc (l' := [_, _, _, _, _, _, _, _]) 4 dL_law_703 (by decide) rfl (by decide) rfl rfl ?_
  refine pw_goto 23 dL_law_706 (by decide) ?_
  rw [nI_4]
  exact back F2 A2 rf1 lo X hI2
theorem law_7 (hI : INV F A) (hi : i + 4 ≤ Γ.1) (hL : Γ.1 ≤ 256) (back : ∀ F A rf lo X, INV F A → PW Γ mL_law 23 (lw_l (nI (i + 4))) [] (HS F A rf lo X) bc bs Q) : PW Γ mL_law 347 (lw_l (nI i)) [] (HS F A rf lo X) bc bs Q := by
  refine pw_aload_n rfl dL_law_347 ?_
  refine pc_V0 dL_law_348 lL_51 rfl (by first | rfl | assumption) (by decide) (Nat.le_of_ble_eq_true rfl) ?_
  refine op_run (o_forget) hI ?_
  intro v F1 A1 rf1 hN
  refine pw_aload_n rfl dL_law_351 ?_
  refine pc_V0 dL_law_352 lL_54 rfl (by first | rfl | assumption) (by decide) (Nat.le_of_ble_eq_true rfl) ?_
  refine nx_run hN ?_
  intro F2 A2 hI2
  refine pw_icmp_eq 703 dL_law_355 (by decide) (fun _ => ?_) (fun q => absurd (rfl) q)
  refine ps_iinc (l' := [_, _, _, _, _, _, _, _]) 4 dL_law_703 (by decide) rfl (by decide) rfl rfl ?_
  refine pw_goto 23 dL_law_706 (by decide) ?_
  rw [nI_4]
  exact back F2 A2 rf1 lo X hI2
theorem law_8 (hI : INV F A) (hi : i + 4 ≤ Γ.1) (hL : Γ.1 ≤ 256) (back : ∀ F A rf lo X, INV F A → PW Γ mL_law 23 (lw_l (nI (i + 4))) [] (HS F A rf lo X) bc bs Q) : PW Γ mL_law 360 (lw_l (nI i)) [] (HS F A rf lo X) bc bs Q := by
  refine pw_aload_n rfl dL_law_360 ?_
  refine pc_V0 dL_law_361 lL_55 rfl (by first | rfl | assumption) (by decide) (Nat.le_of_ble_eq_true rfl) ?_
  refine op_run (o_chains) hI ?_
  intro v F1 A1 rf1 hN
  refine pw_aload_n rfl dL_law_364 ?_
  refine pc_V0 dL_law_365 lL_58 rfl (by first | rfl | assumption) (by decide) (Nat.le_of_ble_eq_true rfl) ?_
  refine nx_run hN ?_
  intro F2 A2 hI2
  refine pw_icmp_eq 703 dL_law_368 (by decide) (fun _ => ?_) (fun q => absurd (rfl) q)
  refine ps_iinc (l' := [_, _, _, _, _, _, _, _]) 4 dL_law_703 (by decide) rfl (by decide) rfl rfl ?_
  refine pw_goto 23 dL_law_706 (by decide) ?_
  rw [nI_4]
  exact back F2 A2 rf1 lo X hI2
theorem law_9 (hI : INV F A) (hi : i + 4 ≤ Γ.1) (hL : Γ.1 ≤ 256) (back : ∀ F A rf lo X, INV F A → PW Γ mL_law 23 (lw_l (nI (i + 4))) [] (HS F A rf lo X) bc bs Q) : PW Γ mL_law 373 (lw_l (nI i)) [] (HS F A rf lo X) bc bs Q := by
  refine pw_aload_n rfl dL_law_373 ?_
  refine pw_aload_nS rfl dL_law_374 ?_
  refine pw_iload rfl dL_law_375 ?_
  refine pw_iconst 1 (by decide) dL_law_377 ?_
  refine pw_iadd dL_law_378 ?_
  refine pw_saload (by decide) dL_law_379 (sc_in (k := 1) (by omega) (by omega)) ?_
  refine pw_aload_nS rfl dL_law_380 ?_
  refine pw_iload rfl dL_law_381 ?_
  refine pw_iconst 2 (by decide) dL_law_383 ?_
  refine pw_iadd dL_law_384 ?_
  refine pw_saload (by decide) dL_law_385 (sc_in (k := 2) (by omega) (by omega)) ?_
  refine pc_V2 dL_law_386 lL_59 rfl (by first | rfl | assumption) (by decide) (Nat.le_of_ble_eq_true rfl) ?_
  refine op_run (o_chain _ _) hI ?_
  intro v F1 A1 rf1 hN
  refine pw_aload_n rfl dL_law_389 ?_
  refine pw_aload_nS rfl dL_law_390 ?_
  refine pw_iload rfl dL_law_391 ?_
  refine pw_iconst 1 (by decide) dL_law_393 ?_
  refine pw_iadd dL_law_394 ?_
  refine pw_saload (by decide) dL_law_395 (sc_in (k := 1) (by omega) (by omega)) ?_
  refine pw_aload_nS rfl dL_law_396 ?_
  refine pw_iload rfl dL_law_397 ?_
  refine pw_iconst 2 (by decide) dL_law_399 ?_
  refine pw_iadd dL_law_400 ?_
  refine pw_saload (by decide) dL_law_401 (sc_in (k := 2) (by omega) (by omega)) ?_
  refine pc_V2 dL_law_402 lL_62 rfl (by first | rfl | assumption) (by decide) (Nat.le_of_ble_eq_true rfl) ?_
  refine nx_run hN ?_
  intro F2 A2 hI2
  refine pw_icmp_eq 703 dL_law_405 (by decide) (fun _ => ?_) (fun q => absurd (rfl) q)
  refine ps_iinc (l' := [_, _, _, _, _, _, _, _]) 4 dL_law_703 (by decide) rfl (by decide) rfl rfl ?_
  refine pw_goto 23 dL_law_706 (by decide) ?_
  rw [nI_4]
  exact back F2 A2 rf1 lo X hI2
theorem law_10 (hI : INV F A) (hi : i + 4 ≤ Γ.1) (hL : Γ.1 ≤ 256) (back : ∀ F A rf lo X, INV F A → PW Γ mL_law 23 (lw_l (nI (i + 4))) [] (HS F A rf lo X) bc bs Q) : PW Γ mL_law 410 (lw_l (nI i)) [] (HS F A rf lo X) bc bs Q := by
  refine pw_aload_n rfl dL_law_410 ?_
  refine pw_aload_nS rfl dL_law_411 ?_
  refine pw_iload rfl dL_law_412 ?_
  refine pw_iconst 1 (by decide) dL_law_414 ?_
  refine pw_iadd dL_law_415 ?_
  refine pw_saload (by decide) dL_law_416 (sc_in (k := 1) (by omega) (by omega)) ?_
  refine pw_aload_nS rfl dL_law_417 ?_
  refine pw_iload rfl dL_law_418 ?_
  refine pw_iconst 2 (by decide) dL_law_420 ?_
  refine pw_iadd dL_law_421 ?_
  refine pw_saload (by decide) dL_law_422 (sc_in (k := 2) (by omega) (by omega)) ?_
  refine pc_V2 dL_law_423 lL_63 rfl (by first | rfl | assumption) (by decide) (Nat.le_of_ble_eq_true rfl) ?_
  refine op_run (o_choose _ _) hI ?_
  intro v F1 A1 rf1 hN
  refine pw_aload_n rfl dL_law_426 ?_
  refine pw_aload_nS rfl dL_law_427 ?_
  refine pw_iload rfl dL_law_428 ?_
  refine pw_iconst 1 (by decide) dL_law_430 ?_
  refine pw_iadd dL_law_431 ?_
  refine pw_saload (by decide) dL_law_432 (sc_in (k := 1) (by omega) (by omega)) ?_
  refine pw_aload_nS rfl dL_law_433 ?_
  refine pw_iload rfl dL_law_434 ?_
  refine pw_iconst 2 (by decide) dL_law_436 ?_
  refine pw_iadd dL_law_437 ?_
  refine pw_saload (by decide) dL_law_438 (sc_in (k := 2) (by omega) (by omega)) ?_
  refine pc_V2 dL_law_439 lL_66 rfl (by first | rfl | assumption) (by decide) (Nat.le_of_ble_eq_true rfl) ?_
  refine nx_run hN ?_
  intro F2 A2 hI2
  refine pw_icmp_eq 703 dL_law_442 (by decide) (fun _ => ?_) (fun q => absurd (rfl) q)
  refine ps_iinc (l' := [_, _, _, _, _, _, _, _]) 4 dL_law_703 (by decide) rfl (by decide) rfl rfl ?_
  refine pw_goto 23 dL_law_706 (by decide) ?_
  rw [nI_4]
  exact back F2 A2 rf1 lo X hI2
theorem law_11 (hI : INV F A) (hi : i + 4 ≤ Γ.1) (hL : Γ.1 ≤ 256) (back : ∀ F A rf lo X, INV F A → PW Γ mL_law 23 (lw_l (nI (i + 4))) [] (HS F A rf lo X) bc bs Q) : PW Γ mL_law 447 (lw_l (nI i)) [] (HS F A rf lo X) bc bs Q := by
  refine pw_aload_n rfl dL_law_447 ?_
  refine pw_aload_nS rfl dL_law_448 ?_
  refine pw_iload rfl dL_law_449 ?_
  refine pw_iconst 1 (by decide) dL_law_451 ?_
  refine pw_iadd dL_law_452 ?_
  refine pw_saload (by decide) dL_law_453 (sc_in (k := 1) (by omega) (by omega)) ?_
  refine pc_V1 dL_law_454 lL_67 rfl (by first | rfl | assumption) (by decide) (Nat.le_of_ble_eq_true rfl) ?_
  refine op_run (o_told _) hI ?_
  intro v F1 A1 rf1 hN
  refine pw_aload_n rfl dL_law_457 ?_
  refine pw_aload_nS rfl dL_law_458 ?_
  refine pw_iload rfl dL_law_459 ?_
  refine pw_iconst 1 (by decide) dL_law_461 ?_
  refine pw_iadd dL_law_462 ?_
  refine pw_saload (by decide) dL_law_463 (sc_in (k := 1) (by omega) (by omega)) ?_
  refine pc_V1 dL_law_464 lL_70 rfl (by first | rfl | assumption) (by decide) (Nat.le_of_ble_eq_true rfl) ?_
  refine nx_run hN ?_
  intro F2 A2 hI2
  refine pw_icmp_eq 703 dL_law_467 (by decide) (fun _ => ?_) (fun q => absurd (rfl) q)
  refine ps_iinc (l' := [_, _, _, _, _, _, _, _]) 4 dL_law_703 (by decide) rfl (by decide) rfl rfl ?_
  refine pw_goto 23 dL_law_706 (by decide) ?_
  rw [nI_4]
  exact back F2 A2 rf1 lo X hI2
theorem law_12 (hI : INV F A) (hi : i + 4 ≤ Γ.1) (hL : Γ.1 ≤ 256) (back : ∀ F A rf lo X, INV F A → PW Γ mL_law 23 (lw_l (nI (i + 4))) [] (HS F A rf lo X) bc bs Q) : PW Γ mL_law 472 (lw_l (nI i)) [] (HS F A rf lo X) bc bs Q := by
  refine pw_aload_n rfl dL_law_472 ?_
  refine pc_V0 dL_law_473 lL_71 rfl (by first | rfl | assumption) (by decide) (Nat.le_of_ble_eq_true rfl) ?_
  refine op_run (o_learn) hI ?_
  intro v F1 A1 rf1 hN
  refine pw_aload_n rfl dL_law_476 ?_
  refine pc_V0 dL_law_477 lL_74 rfl (by first | rfl | assumption) (by decide) (Nat.le_of_ble_eq_true rfl) ?_
  refine nx_run hN ?_
  intro F2 A2 hI2
  refine pw_icmp_eq 703 dL_law_480 (by decide) (fun _ => ?_) (fun q => absurd (rfl) q)
  refine ps_iinc (l' := [_, _, _, _, _, _, _, _]) 4 dL_law_703 (by decide) rfl (by decide) rfl rfl ?_
  refine pw_goto 23 dL_law_706 (by decide) ?_
  rw [nI_4]
  exact back F2 A2 rf1 lo X hI2
theorem law_13 (hI : INV F A) (hi : i + 4 ≤ Γ.1) (hL : Γ.1 ≤ 256) (back : ∀ F A rf lo X, INV F A → PW Γ mL_law 23 (lw_l (nI (i + 4))) [] (HS F A rf lo X) bc bs Q) : PW Γ mL_law 485 (lw_l (nI i)) [] (HS F A rf lo X) bc bs Q := by
  refine pw_aload_n rfl dL_law_485 ?_
  refine pc_V0 dL_law_486 lL_75 rfl (by first | rfl | assumption) (by decide) (Nat.le_of_ble_eq_true rfl) ?_
  refine op_run (o_feature) hI ?_
  intro v F1 A1 rf1 hN
  refine pw_aload_n rfl dL_law_489 ?_
  refine pc_V0 dL_law_490 lL_78 rfl (by first | rfl | assumption) (by decide) (Nat.le_of_ble_eq_true rfl) ?_
  refine nx_run hN ?_
  intro F2 A2 hI2
  refine pw_icmp_eq 703 dL_law_493 (by decide) (fun _ => ?_) (fun q => absurd (rfl) q)
  refine ps_iinc (l' := [_, _, _, _, _, _, _, _]) 4 dL_law_703 (by decide) rfl (by decide) rfl rfl ?_
  refine pw_goto 23 dL_law_706 (by decide) ?_
  rw [nI_4]
  exact back F2 A2 rf1 lo X hI2
theorem law_14 (hI : INV F A) (hi : i + 4 ≤ Γ.1) (hL : Γ.1 ≤ 256) (back : ∀ F A rf lo X, INV F A → PW Γ mL_law 23 (lw_l (nI (i + 4))) [] (HS F A rf lo X) bc bs Q) : PW Γ mL_law 498 (lw_l (nI i)) [] (HS F A rf lo X) bc bs Q := by
  refine pw_aload_n rfl dL_law_498 ?_
  refine pw_aload_nS rfl dL_law_499 ?_
  refine pw_iload rfl dL_law_500 ?_
  refine pw_iconst 1 (by decide) dL_law_502 ?_
  refine pw_iadd dL_law_503 ?_
  refine pw_saload (by decide) dL_law_504 (sc_in (k := 1) (by omega) (by omega)) ?_
  refine pc_V1 dL_law_505 lL_79 rfl (by first | rfl | assumption) (by decide) (Nat.le_of_ble_eq_true rfl) ?_
  refine op_run (o_learned _) hI ?_
  intro v F1 A1 rf1 hN
  refine pw_aload_n rfl dL_law_508 ?_
  refine pw_aload_nS rfl dL_law_509 ?_
  refine pw_iload rfl dL_law_510 ?_
  refine pw_iconst 1 (by decide) dL_law_512 ?_
  refine pw_iadd dL_law_513 ?_
  refine pw_saload (by decide) dL_law_514 (sc_in (k := 1) (by omega) (by omega)) ?_
  refine pc_V1 dL_law_515 lL_82 rfl (by first | rfl | assumption) (by decide) (Nat.le_of_ble_eq_true rfl) ?_
  refine nx_run hN ?_
  intro F2 A2 hI2
  refine pw_icmp_eq 703 dL_law_518 (by decide) (fun _ => ?_) (fun q => absurd (rfl) q)
  refine ps_iinc (l' := [_, _, _, _, _, _, _, _]) 4 dL_law_703 (by decide) rfl (by decide) rfl rfl ?_
  refine pw_goto 23 dL_law_706 (by decide) ?_
  rw [nI_4]
  exact back F2 A2 rf1 lo X hI2
theorem law_16 (hI : INV F A) (hi : i + 4 ≤ Γ.1) (hL : Γ.1 ≤ 256) (back : ∀ F A rf lo X, INV F A → PW Γ mL_law 23 (lw_l (nI (i + 4))) [] (HS F A rf lo X) bc bs Q) : PW Γ mL_law 590 (lw_l (nI i)) [] (HS F A rf lo X) bc bs Q := by
  refine pw_aload_n rfl dL_law_590 ?_
  refine pw_aload_nS rfl dL_law_591 ?_
  refine pw_iload rfl dL_law_592 ?_
  refine pw_iconst 1 (by decide) dL_law_594 ?_
  refine pw_iadd dL_law_595 ?_
  refine pw_saload (by decide) dL_law_596 (sc_in (k := 1) (by omega) (by omega)) ?_
  refine pc_V1 dL_law_597 lL_92 rfl (by first | rfl | assumption) (by decide) (Nat.le_of_ble_eq_true rfl) ?_
  refine op_run (o_pack _) hI ?_
  intro v F1 A1 rf1 hN
  refine pw_aload_n rfl dL_law_600 ?_
  refine pw_aload_nS rfl dL_law_601 ?_
  refine pw_iload rfl dL_law_602 ?_
  refine pw_iconst 1 (by decide) dL_law_604 ?_
  refine pw_iadd dL_law_605 ?_
  refine pw_saload (by decide) dL_law_606 (sc_in (k := 1) (by omega) (by omega)) ?_
  refine pc_V1 dL_law_607 lL_95 rfl (by first | rfl | assumption) (by decide) (Nat.le_of_ble_eq_true rfl) ?_
  refine nx_run hN ?_
  intro F2 A2 hI2
  refine pw_icmp_eq 703 dL_law_610 (by decide) (fun _ => ?_) (fun q => absurd (rfl) q)
  refine ps_iinc (l' := [_, _, _, _, _, _, _, _]) 4 dL_law_703 (by decide) rfl (by decide) rfl rfl ?_
  refine pw_goto 23 dL_law_706 (by decide) ?_
  rw [nI_4]
  exact back F2 A2 rf1 lo X hI2
theorem law_17 (hI : INV F A) (hi : i + 4 ≤ Γ.1) (hL : Γ.1 ≤ 256) (back : ∀ F A rf lo X, INV F A → PW Γ mL_law 23 (lw_l (nI (i + 4))) [] (HS F A rf lo X) bc bs Q) : PW Γ mL_law 615 (lw_l (nI i)) [] (HS F A rf lo X) bc bs Q := by
  refine pw_aload_n rfl dL_law_615 ?_
  refine pw_aload_nS rfl dL_law_616 ?_
  refine pw_iload rfl dL_law_617 ?_
  refine pw_iconst 1 (by decide) dL_law_619 ?_
  refine pw_iadd dL_law_620 ?_
  refine pw_saload (by decide) dL_law_621 (sc_in (k := 1) (by omega) (by omega)) ?_
  refine pw_aload_nS rfl dL_law_622 ?_
  refine pw_iload rfl dL_law_623 ?_
  refine pw_iconst 2 (by decide) dL_law_625 ?_
  refine pw_iadd dL_law_626 ?_
  refine pw_saload (by decide) dL_law_627 (sc_in (k := 2) (by omega) (by omega)) ?_
  refine pc_V2 dL_law_628 lL_96 rfl (by first | rfl | assumption) (by decide) (Nat.le_of_ble_eq_true rfl) ?_
  refine op_run (o_alter _ _) hI ?_
  intro v F1 A1 rf1 hN
  refine pw_aload_n rfl dL_law_631 ?_
  refine pw_aload_nS rfl dL_law_632 ?_
  refine pw_iload rfl dL_law_633 ?_
  refine pw_iconst 1 (by decide) dL_law_635 ?_
  refine pw_iadd dL_law_636 ?_
  refine pw_saload (by decide) dL_law_637 (sc_in (k := 1) (by omega) (by omega)) ?_
  refine pw_aload_nS rfl dL_law_638 ?_
  refine pw_iload rfl dL_law_639 ?_
  refine pw_iconst 2 (by decide) dL_law_641 ?_
  refine pw_iadd dL_law_642 ?_
  refine pw_saload (by decide) dL_law_643 (sc_in (k := 2) (by omega) (by omega)) ?_
  refine pc_V2 dL_law_644 lL_99 rfl (by first | rfl | assumption) (by decide) (Nat.le_of_ble_eq_true rfl) ?_
  refine nx_run hN ?_
  intro F2 A2 hI2
  refine pw_icmp_eq 703 dL_law_647 (by decide) (fun _ => ?_) (fun q => absurd (rfl) q)
  refine ps_iinc (l' := [_, _, _, _, _, _, _, _]) 4 dL_law_703 (by decide) rfl (by decide) rfl rfl ?_
  refine pw_goto 23 dL_law_706 (by decide) ?_
  rw [nI_4]
  exact back F2 A2 rf1 lo X hI2
theorem law_18 (hI : INV F A) (hi : i + 4 ≤ Γ.1) (hL : Γ.1 ≤ 256) (back : ∀ F A rf lo X, INV F A → PW Γ mL_law 23 (lw_l (nI (i + 4))) [] (HS F A rf lo X) bc bs Q) : PW Γ mL_law 652 (lw_l (nI i)) [] (HS F A rf lo X) bc bs Q := by
  refine pw_aload_n rfl dL_law_652 ?_
  refine pw_aload_nS rfl dL_law_653 ?_
  refine pw_iload rfl dL_law_654 ?_
  refine pw_iconst 1 (by decide) dL_law_656 ?_
  refine pw_iadd dL_law_657 ?_
  refine pw_saload (by decide) dL_law_658 (sc_in (k := 1) (by omega) (by omega)) ?_
  refine pc_V1 dL_law_659 lL_100 rfl (by first | rfl | assumption) (by decide) (Nat.le_of_ble_eq_true rfl) ?_
  refine op_run (o_cut _) hI ?_
  intro v F1 A1 rf1 hN
  refine pw_aload_n rfl dL_law_662 ?_
  refine pw_aload_nS rfl dL_law_663 ?_
  refine pw_iload rfl dL_law_664 ?_
  refine pw_iconst 1 (by decide) dL_law_666 ?_
  refine pw_iadd dL_law_667 ?_
  refine pw_saload (by decide) dL_law_668 (sc_in (k := 1) (by omega) (by omega)) ?_
  refine pc_V1 dL_law_669 lL_103 rfl (by first | rfl | assumption) (by decide) (Nat.le_of_ble_eq_true rfl) ?_
  refine nx_run hN ?_
  intro F2 A2 hI2
  refine pw_icmp_eq 703 dL_law_672 (by decide) (fun _ => ?_) (fun q => absurd (rfl) q)
  refine ps_iinc (l' := [_, _, _, _, _, _, _, _]) 4 dL_law_703 (by decide) rfl (by decide) rfl rfl ?_
  refine pw_goto 23 dL_law_706 (by decide) ?_
  rw [nI_4]
  exact back F2 A2 rf1 lo X hI2
theorem law_19 (hI : INV F A) (hi : i + 4 ≤ Γ.1) (hL : Γ.1 ≤ 256) (back : ∀ F A rf lo X, INV F A → PW Γ mL_law 23 (lw_l (nI (i + 4))) [] (HS F A rf lo X) bc bs Q) : PW Γ mL_law 677 (lw_l (nI i)) [] (HS F A rf lo X) bc bs Q := by
  refine pw_aload_n rfl dL_law_677 ?_
  refine pc_V0 dL_law_678 lL_104 rfl (by first | rfl | assumption) (by decide) (Nat.le_of_ble_eq_true rfl) ?_
  refine op_run (o_unpack) hI ?_
  intro v F1 A1 rf1 hN
  refine pw_aload_n rfl dL_law_681 ?_
  refine pc_V0 dL_law_682 lL_107 rfl (by first | rfl | assumption) (by decide) (Nat.le_of_ble_eq_true rfl) ?_
  refine nx_run hN ?_
  intro F2 A2 hI2
  refine pw_icmp_eq 703 dL_law_685 (by decide) (fun _ => ?_) (fun q => absurd (rfl) q)
  refine ps_iinc (l' := [_, _, _, _, _, _, _, _]) 4 dL_law_703 (by decide) rfl (by decide) rfl rfl ?_
  refine pw_goto 23 dL_law_706 (by decide) ?_
  rw [nI_4]
  exact back F2 A2 rf1 lo X hI2
theorem law_20 (hI : INV F A) (hi : i + 4 ≤ Γ.1) (hL : Γ.1 ≤ 256) (back : ∀ F A rf lo X, INV F A → PW Γ mL_law 23 (lw_l (nI (i + 4))) [] (HS F A rf lo X) bc bs Q) : PW Γ mL_law 690 (lw_l (nI i)) [] (HS F A rf lo X) bc bs Q := by
  refine pw_aload_n rfl dL_law_690 ?_
  refine pc_V0 dL_law_691 lL_108 rfl (by first | rfl | assumption) (by decide) (Nat.le_of_ble_eq_true rfl) ?_
  refine op_run (o_place) hI ?_
  intro v F1 A1 rf1 hN
  refine pw_aload_n rfl dL_law_694 ?_
  refine pc_V0 dL_law_695 lL_111 rfl (by first | rfl | assumption) (by decide) (Nat.le_of_ble_eq_true rfl) ?_
  refine nx_run hN ?_
  intro F2 A2 hI2
  refine pw_icmp_eq 703 dL_law_698 (by decide) (fun _ => ?_) (fun q => absurd (rfl) q)
  refine ps_iinc (l' := [_, _, _, _, _, _, _, _]) 4 dL_law_703 (by decide) rfl (by decide) rfl rfl ?_
  refine pw_goto 23 dL_law_706 (by decide) ?_
  rw [nI_4]
  exact back F2 A2 rf1 lo X hI2

theorem law_15 (hI : INV F A) (hi : i + 4 ≤ Γ.1) (hL : Γ.1 ≤ 256) (back : ∀ F A rf lo X, INV F A → PW Γ mL_law 23 (lw_l (nI (i + 4))) [] (HS F A rf lo X) bc bs Q) : PW Γ mL_law 523 (lw_l (nI i)) [] (HS F A rf lo X) (bc + 1) (bs + 6) Q := by
  refine pw_aload_n rfl dL_law_523 ?_
  refine pw_aload_nS rfl dL_law_524 ?_
  refine pw_iload rfl dL_law_525 ?_
  refine pw_iconst 1 (by decide) dL_law_527 ?_
  refine pw_iadd dL_law_528 ?_
  refine pw_saload (by decide) dL_law_529 (sc_in (k := 1) (by omega) (by omega)) ?_
  refine pw_aload_nS rfl dL_law_530 ?_
  refine pw_iload rfl dL_law_531 ?_
  refine pw_iconst 2 (by decide) dL_law_533 ?_
  refine pw_iadd dL_law_534 ?_
  refine pw_saload (by decide) dL_law_535 (sc_in (k := 2) (by omega) (by omega)) ?_
  refine pw_aload_n rfl dL_law_536 ?_
  obtain ⟨p0, hp0⟩ : ∃ p0, p0 = (ptab Γ 4).2 (nI i + 1).toNatClampNeg := ⟨_, rfl⟩
  obtain ⟨a, ha⟩ : ∃ a, a = (ptab Γ 4).2 (nI i + 2).toNatClampNeg := ⟨_, rfl⟩
  rw [← hp0, ← ha]
  have fin : ∀ (k : Int32) (F' A' : Nat → Nat → Int32) (b lo' : Int64) (X' : PH), INV F' A' → PW Γ mL_law 703 [.retAddr 4, .ref 0, .ref 57, .ref 74, .int (nI i), .int k, .long b, .float 0] [] (HS F' A' rf lo' X') bc bs Q := by
    intro k F' A' b lo' X' hI'
    refine pw_less (l' := lw_l (nI i)) (fun j v hv hf => ?_) ?_
    · rcases (show j = 0 ∨ j = 1 ∨ j = 2 ∨ j = 3 ∨ j = 4 ∨ j = 5 ∨ j = 6 ∨ j = 7 ∨ 8 ≤ j by omega) with rfl | rfl | rfl | rfl | rfl | rfl | rfl | rfl | h8
      · exact hv
      · exact hv
      · exact hv
      · exact hv
      · exact hv
      · cases hv; exact absurd rfl hf
      · cases hv; exact absurd rfl hf
      · cases hv; exact absurd rfl hf
      · rw [List.getElem?_eq_none (by simpa using h8)] at hv
        cases hv
    · refine ps_iinc (l' := [_, _, _, _, _, _, _, _]) 4 dL_law_703 (by decide) rfl (by decide) rfl rfl ?_
      refine pw_goto 23 dL_law_706 (by decide) ?_
      rw [nI_4]
      exact back F' A' rf lo' X' hI'
  by_cases h0 : a = 0
  · rw [h0]
    refine pw_callSH (As := [.ref 0, .int p0, .int 0, .ref 74]) (Q' := fun r h' => r = some (.int 1) ∧ ∃ X', h' = HS F A rf lo X') dL_law_537 rfl rfl (by decide) (by decide) ⟨by omega, by omega⟩ (s_share0 (fun X' => ⟨rfl, X', rfl⟩)) ?_
    intro r h' hr
    obtain ⟨hr1, X', hr2⟩ := hr
    rw [hr1, hr2, Nat.add_sub_cancel, Nat.add_sub_cancel]
    refine ps_istore (l' := [_, _, _, _, _, _, _, _]) dL_law_540 (by decide) rfl rfl ?_
    refine pw_aload_n rfl dL_law_542 ?_
    refine pw_aload_nS rfl dL_law_543 ?_
    refine pw_iload rfl dL_law_544 ?_
    refine pw_iconst 1 (by decide) dL_law_546 ?_
    refine pw_iadd dL_law_547 ?_
    refine pw_saload (by decide) dL_law_548 (sc_in (k := 1) (by omega) (by omega)) ?_
    refine pw_aload_nS rfl dL_law_549 ?_
    refine pw_iload rfl dL_law_550 ?_
    refine pw_iconst 2 (by decide) dL_law_552 ?_
    refine pw_iadd dL_law_553 ?_
    refine pw_saload (by decide) dL_law_554 (sc_in (k := 2) (by omega) (by omega)) ?_
    rw [← hp0, ← ha, h0]
    refine pc_V2 dL_law_555 lL_88 rfl rfl (by decide) (Nat.le_of_ble_eq_true rfl) ?_
    refine m_share ?_
    rw [if_pos rfl, if_pos rfl]
    refine pw_lstore (l' := [_, _, _, _, _, _, _, _]) dL_law_558 (by decide) rfl rfl rfl ?_
    refine pw_aload_n rfl dL_law_560 ?_
    refine pc_V0 dL_law_561 lL_89 rfl rfl (by decide) (Nat.le_of_ble_eq_true rfl) ?_
    refine m_thrown ?_
    rw [upF_s]
    refine pw_iload rfl dL_law_564 ?_
    refine pw_icmp_eq 571 dL_law_566 (by decide) (fun _ => ?_) (fun q => absurd (rfl) q)
    refine pw_iload rfl dL_law_571 ?_
    refine pw_if_ne 587 dL_law_573 (by decide) (fun _ => ?_) (fun q => absurd q (by decide))
    refine pw_goto 703 dL_law_587 (by decide) ?_
    exact fin 1 _ A 0 lo X' (INV_0 hI)
  · refine pw_callSH (As := [.ref 0, .int p0, .int a, .ref 74]) (Q' := fun r h' => r = some (.int 0) ∧ h' = HS F A rf (shv p0 a) X) dL_law_537 rfl rfl (by decide) (by decide) ⟨by omega, by omega⟩ (s_share1 h0 ⟨rfl, rfl⟩) ?_
    intro r h' hr
    obtain ⟨hr1, hr2⟩ := hr
    rw [hr1, hr2, Nat.add_sub_cancel, Nat.add_sub_cancel]
    refine ps_istore (l' := [_, _, _, _, _, _, _, _]) dL_law_540 (by decide) rfl rfl ?_
    refine pw_aload_n rfl dL_law_542 ?_
    refine pw_aload_nS rfl dL_law_543 ?_
    refine pw_iload rfl dL_law_544 ?_
    refine pw_iconst 1 (by decide) dL_law_546 ?_
    refine pw_iadd dL_law_547 ?_
    refine pw_saload (by decide) dL_law_548 (sc_in (k := 1) (by omega) (by omega)) ?_
    refine pw_aload_nS rfl dL_law_549 ?_
    refine pw_iload rfl dL_law_550 ?_
    refine pw_iconst 2 (by decide) dL_law_552 ?_
    refine pw_iadd dL_law_553 ?_
    refine pw_saload (by decide) dL_law_554 (sc_in (k := 2) (by omega) (by omega)) ?_
    rw [← hp0, ← ha]
    refine pc_V2 dL_law_555 lL_88 rfl rfl (by decide) (Nat.le_of_ble_eq_true rfl) ?_
    refine m_share ?_
    rw [if_neg h0, if_neg h0]
    refine pw_lstore (l' := [_, _, _, _, _, _, _, _]) dL_law_558 (by decide) rfl rfl rfl ?_
    refine pw_aload_n rfl dL_law_560 ?_
    refine pc_V0 dL_law_561 lL_89 rfl rfl (by decide) (Nat.le_of_ble_eq_true rfl) ?_
    refine m_thrown ?_
    rw [upF_s]
    refine pw_iload rfl dL_law_564 ?_
    refine pw_icmp_eq 571 dL_law_566 (by decide) (fun _ => ?_) (fun q => absurd (rfl) q)
    refine pw_iload rfl dL_law_571 ?_
    refine pw_if_ne 587 dL_law_573 (by decide) (fun q => absurd (rfl) q) (fun _ => ?_)
    refine pw_aload_n rfl dL_law_576 ?_
    refine pw_iconst 0 (by decide) dL_law_577 ?_
    refine pw_lald dL_law_578 HS_ln (vp_in_nI (n := 0) (by decide) (by decide)) ?_
    refine pw_lload rfl dL_law_579 ?_
    refine pw_lcmp dL_law_581 ?_
    have hcm : lg_cmp (shv p0 a) (shv p0 a) = 0 := by
      unfold lg_cmp
      rw [if_neg (fun h => Int64.lt_irrefl h), if_pos rfl]
    rw [hcm]
    refine pw_if_eq 587 dL_law_582 (by decide) (fun _ => ?_) (fun q => absurd (rfl) q)
    refine pw_goto 703 dL_law_587 (by decide) ?_
    exact fin 0 _ A _ _ X (INV_0 hI)
theorem law_loop (hL : Γ.1 ≤ 256) (hQ : ∀ F A rf lo X, Q (some (.int 1)) (HS F A rf lo X)) : ∀ (k i : Nat) (F A : Nat → Nat → Int32) (rf : Nat) (lo : Int64) (X : PH), i + 4 * k ≤ Γ.1 → Γ.1 < i + 4 * k + 4 → INV F A →
    PW Γ mL_law 23 (lw_l (nI i)) [] (HS F A rf lo X) k (6 * k) Q := by
  intro k
  induction k with
  | zero =>
    intro i F A rf lo X h1 h2 hI
    refine pw_iload rfl dL_law_23 ?_
    refine pw_aload_nS rfl dL_law_25 ?_
    refine pw_salen (by decide) dL_law_26 ?_
    refine pw_iconst 4 (by decide) dL_law_27 ?_
    refine pw_isub dL_law_28 ?_
    refine pw_icmp_gt 709 dL_law_29 (by decide) (fun _ => ?_) (fun q => absurd ((gt_4 (L := Γ.1) hL (by omega)).mpr (by omega)) q)
    refine pw_iconst 1 (by decide) dL_law_709 ?_
    refine pw_iret dL_law_710 (Or.inr ⟨rfl, rfl⟩) ?_
    exact hQ _ _ _ _ _
  | succ k ih =>
    intro i F A rf lo X h1 h2 hI
    have back0 : ∀ F A rf lo X, INV F A → PW Γ mL_law 23 (lw_l (nI (i + 4))) [] (HS F A rf lo X) k (6 * k) Q := fun F A rf lo X hI => ih (i + 4) F A rf lo X (by omega) (by omega) hI
    have back : ∀ F A rf lo X, INV F A → PW Γ mL_law 23 (lw_l (nI (i + 4))) [] (HS F A rf lo X) (k + 1) (6 * (k + 1)) Q := fun F A rf lo X hI => pw_weak (by omega) (by omega) (back0 F A rf lo X hI)
    refine pw_iload rfl dL_law_23 ?_
    refine pw_aload_nS rfl dL_law_25 ?_
    refine pw_salen (by decide) dL_law_26 ?_
    refine pw_iconst 4 (by decide) dL_law_27 ?_
    refine pw_isub dL_law_28 ?_
    refine pw_icmp_gt 709 dL_law_29 (by decide) (fun q => absurd q ((fun q9 => absurd ((gt_4 (L := Γ.1) hL (by omega)).mp q9) (by omega)))) (fun _ => ?_)
    refine pw_aload_nS rfl dL_law_32 ?_
    refine pw_iload rfl dL_law_33 ?_
    refine pw_saload (by decide) dL_law_35 (sc_i0 (by omega) (by omega)) ?_
    refine pw_bipush 31 (by decide) dL_law_36 ?_
    refine pw_iand dL_law_38 ?_
    obtain ⟨j, hj32, he⟩ := and31 ((ptab Γ 4).2 (nI i).toNatClampNeg)
    rw [he]
    rcases (show j = 0 ∨ j = 1 ∨ j = 2 ∨ j = 3 ∨ j = 4 ∨ j = 5 ∨ j = 6 ∨ j = 7 ∨ j = 8 ∨ j = 9 ∨ j = 10 ∨ j = 11 ∨ j = 12 ∨ j = 13 ∨ j = 14 ∨ j = 15 ∨ j = 16 ∨ j = 17 ∨ j = 18 ∨ j = 19 ∨ j = 20 ∨ 20 < j by omega) with hj | hj | hj | hj | hj | hj | hj | hj | hj | hj | hj | hj | hj | hj | hj | hj | hj | hj | hj | hj | hj | hj
    · rw [hj]
      refine pw_tin 136 dL_law_39 (by decide) (by decide) rfl (by decide) ?_
      exact law_0 hI (by omega) hL back
    · rw [hj]
      refine pw_tin 149 dL_law_39 (by decide) (by decide) rfl (by decide) ?_
      exact law_1 hI (by omega) hL back
    · rw [hj]
      refine pw_tin 174 dL_law_39 (by decide) (by decide) rfl (by decide) ?_
      exact law_2 hI (by omega) hL back
    · rw [hj]
      refine pw_tin 223 dL_law_39 (by decide) (by decide) rfl (by decide) ?_
      exact law_3 hI (by omega) hL back
    · rw [hj]
      refine pw_tin 248 dL_law_39 (by decide) (by decide) rfl (by decide) ?_
      exact law_4 hI (by omega) hL back
    · rw [hj]
      refine pw_tin 285 dL_law_39 (by decide) (by decide) rfl (by decide) ?_
      exact law_5 hI (by omega) hL back
    · rw [hj]
      refine pw_tin 322 dL_law_39 (by decide) (by decide) rfl (by decide) ?_
      exact law_6 hI (by omega) hL back
    · rw [hj]
      refine pw_tin 347 dL_law_39 (by decide) (by decide) rfl (by decide) ?_
      exact law_7 hI (by omega) hL back
    · rw [hj]
      refine pw_tin 360 dL_law_39 (by decide) (by decide) rfl (by decide) ?_
      exact law_8 hI (by omega) hL back
    · rw [hj]
      refine pw_tin 373 dL_law_39 (by decide) (by decide) rfl (by decide) ?_
      exact law_9 hI (by omega) hL back
    · rw [hj]
      refine pw_tin 410 dL_law_39 (by decide) (by decide) rfl (by decide) ?_
      exact law_10 hI (by omega) hL back
    · rw [hj]
      refine pw_tin 447 dL_law_39 (by decide) (by decide) rfl (by decide) ?_
      exact law_11 hI (by omega) hL back
    · rw [hj]
      refine pw_tin 472 dL_law_39 (by decide) (by decide) rfl (by decide) ?_
      exact law_12 hI (by omega) hL back
    · rw [hj]
      refine pw_tin 485 dL_law_39 (by decide) (by decide) rfl (by decide) ?_
      exact law_13 hI (by omega) hL back
    · rw [hj]
      refine pw_tin 498 dL_law_39 (by decide) (by decide) rfl (by decide) ?_
      exact law_14 hI (by omega) hL back
    · rw [hj]
      refine pw_tin 523 dL_law_39 (by decide) (by decide) rfl (by decide) ?_
      exact law_15 hI (by omega) hL back0
    · rw [hj]
      refine pw_tin 590 dL_law_39 (by decide) (by decide) rfl (by decide) ?_
      exact law_16 hI (by omega) hL back
    · rw [hj]
      refine pw_tin 615 dL_law_39 (by decide) (by decide) rfl (by decide) ?_
      exact law_17 hI (by omega) hL back
    · rw [hj]
      refine pw_tin 652 dL_law_39 (by decide) (by decide) rfl (by decide) ?_
      exact law_18 hI (by omega) hL back
    · rw [hj]
      refine pw_tin 677 dL_law_39 (by decide) (by decide) rfl (by decide) ?_
      exact law_19 hI (by omega) hL back
    · rw [hj]
      refine pw_tin 690 dL_law_39 (by decide) (by decide) rfl (by decide) ?_
      exact law_20 hI (by omega) hL back
    · refine pw_tout 703 dL_law_39 (Or.inr (by rw [nI_toInt (by omega)]; omega)) (by decide) ?_
      refine ps_iinc (l' := [_, _, _, _, _, _, _, _]) 4 dL_law_703 (by decide) rfl (by decide) rfl rfl ?_
      refine pw_goto 23 dL_law_706 (by decide) ?_
      rw [nI_4]
      exact back F A rf lo X hI
theorem k10 : PM Γ mX10_init [.ref 0] [.inr (10, zL_8)] 56 9192 (fun r h' => r = none ∧ h' = kc10) := k_X10_init [] 0 rfl
theorem k11 : PM Γ mX11_init [.ref 57] (kc10 ++ [.inr (11, zL_16)]) 16 5830 (fun r h' => r = none ∧ h' = kc10 ++ kc11) := k_X11_init kc10 57 rfl
set_option maxRecDepth 20000 in
theorem law_PW {K : Nat} (hL : Γ.1 ≤ 256) (hK : K = Γ.1 / 4) (hQ : ∀ F A rf lo X, Q (some (.int 1)) (HS F A rf lo X)) : PW Γ mL_law 0 [.retAddr 4, .float 0, .float 0, .float 0, .float 0, .float 0, .float 0, .float 0] [] [] (K + 1 + 16 + 1 + 56 + 1) (6 * K + 1 + 5830 + 35 + 9192 + 14) Q := by
  refine pw_new dL_law_0 kL_8 ?_
  refine pw_dup rfl dL_law_3 ?_
  refine pw_callI (As := []) (b := 0) (mc := 56) (ms := 9192) dL_law_4 lL_15 rfl (by decide) (by decide) ⟨Nat.le_add_left _ _, Nat.le_add_left _ _⟩ k10 ?_
  intro r h' hr
  rw [hr.1, hr.2]
  refine pw_weak (bc := K + 17 + 1) (bs := 6 * K + 1 + 5830 + 35) (by omega) (by omega) ?_
  refine ps_astore_n (l' := [_, _, _, _, _, _, _, _]) dL_law_7 (by decide) rfl rfl ?_
  refine pw_new dL_law_8 kL_16 ?_
  rw [show kc10.length = 57 from rfl]
  refine pw_dup rfl dL_law_11 ?_
  refine pw_callI (As := []) (b := 57) (mc := 16) (ms := 5830) dL_law_12 lL_18 rfl (by decide) (by decide) ⟨Nat.le_add_left _ _, Nat.le_add_left _ _⟩ k11 ?_
  intro r2 h2 hr2
  rw [hr2.1, hr2.2]
  refine pw_weak (bc := K + 1) (bs := 6 * K + 1) (by omega) (by omega) ?_
  refine ps_astore_n (l' := [_, _, _, _, _, _, _, _]) dL_law_15 (by decide) rfl rfl ?_
  refine pw_iconst 1 (by decide) dL_law_16 ?_
  refine pw_newl (N := 1) dL_law_17 ar_long (by decide) rfl (by decide) ?_
  rw [show (kc10 ++ kc11).length = 74 from rfl, world0]
  refine ps_astore_n (l' := [_, _, _, _, _, _, _, _]) dL_law_19 (by decide) rfl rfl ?_
  refine pw_iconst 0 (by decide) dL_law_20 ?_
  refine ps_istore (l' := [_, _, _, _, _, _, _, _]) dL_law_21 (by decide) rfl rfl ?_
  exact law_loop hL hQ K 0 lF0 lA0 36 0 [] (by omega) (by omega) inv0
end
