/-! call: fill -/
def nxR (x : Int32) : Int32 := x * 1103515245 + 12345
def zR (x : Int32) : Nat := x.toBitVec.toNat / 65536
def drw (z hw bf : Nat) : Nat := if hw = 0 then z % 256 else if hw = 1 then z % 4 else if hw = 2 then z % 8 else (bf + z % 4) % 256
def tms (z hw : Nat) : Nat := if hw = 2 then 1 + z / 8 % 8 else 1
def rep (T : Nat → Int32) (c d b : Nat) : Nat → Int32 := fun j => if c ≤ j ∧ j < d then nI b else T j
def fil (hw e : Nat) : Nat → Int32 → Nat → Nat → (Nat → Int32) → (Nat → Int32)
  | 0, _, _, _, T => T
  | m + 1, x, bf, c, T => if c < e then fil hw e m (nxR x) (drw (zR (nxR x)) hw bf) (min e (c + tms (zR (nxR x)) hw)) (rep T c (min e (c + tms (zR (nxR x)) hw)) (drw (zR (nxR x)) hw bf)) else T
theorem zR_lt (x : Int32) : zR x < 65536 := by
  unfold zR
  have := x.toBitVec.isLt
  omega
theorem drw_lt {z hw bf : Nat} : drw z hw bf < 256 := by
  unfold drw
  (repeat' split) <;> omega
theorem tms_ok {z hw : Nat} : 1 ≤ tms z hw ∧ tms z hw ≤ 8 := by
  unfold tms
  split <;> omega
theorem ushr16 (x : Int32) : (x.toUInt32 >>> ((16 : Int32).toUInt32 &&& Int32.toUInt32 31)).toInt32 = nI (zR x) := by
  have e : x = nI x.toBitVec.toNat := by
    unfold nI
    apply Int32.toBitVec_inj.mp
    simp
  have h := pk_ushrN (n := x.toBitVec.toNat) x.toBitVec.isLt 16 16 rfl
  rw [← e] at h
  exact h
theorem rep_B {T : Nat → Int32} {c d b : Nat} (h : isB T c) (hb : b < 256) : isB (rep T c d b) d := by
  intro j hj
  unfold rep
  by_cases h1 : c ≤ j ∧ j < d
  · rw [if_pos h1]; exact ⟨b, hb, rfl⟩
  · rw [if_neg h1]; exact h j (by omega)
theorem fil_B {hw e : Nat} : ∀ (m : Nat) (x : Int32) (bf c : Nat) (T : Nat → Int32), isB T c → c ≤ e → e - c ≤ m → isB (fil hw e m x bf c T) e
  | 0, x, bf, c, T => fun h h1 h2 => by
    rw [show e = c by omega]
    exact h
  | m + 1, x, bf, c, T => fun h h1 h2 => by
    unfold fil
    have ht := tms_ok (z := zR (nxR x)) (hw := hw)
    split
    · rename_i hlt
      exact fil_B m _ _ _ _ (rep_B h drw_lt) (Nat.min_le_left _ _) (by omega)
    · rw [show e = c by omega]
      exact h
theorem drw_0 {z bf : Nat} : drw z 0 bf = z % 256 := by
  unfold drw
  rw [if_pos rfl]
theorem drw_1 {z bf : Nat} : drw z 1 bf = z % 4 := by
  unfold drw
  rw [if_neg (by omega), if_pos rfl]
theorem drw_2 {z bf : Nat} : drw z 2 bf = z % 8 := by
  unfold drw
  rw [if_neg (by omega), if_neg (by omega), if_pos rfl]
theorem drw_3 {z bf : Nat} : drw z 3 bf = (bf + z % 4) % 256 := by
  unfold drw
  rw [if_neg (by omega), if_neg (by omega), if_neg (by omega)]
section
variable {Γ : Nat × (Nat → Int32)} {F A : Nat → Nat → Int32} {rf : Nat} {lo : Int64} {X : PH} {Q : Option Value → PH → Prop}
theorem c_drawn {h : PH} {z hw bf : Nat} (hz : z < 65536) (hh : hw < 4) (hb : bf < 256) (hQ : Q (some (.int (nI (drw z hw bf)))) h) : PM Γ mX10_drawn [.int (nI z), .int (nI hw), .int (nI bf)] h 0 0 Q := by
  refine PM.go (l := [_, _, _]) rfl rfl (Nat.le_of_ble_eq_true rfl) rfl ?_
  refine pw_iload_n rfl dX10_drawn_0 ?_
  rcases (show hw = 0 ∨ hw = 1 ∨ hw = 2 ∨ hw = 3 by omega) with rfl | rfl | rfl | rfl
  · refine pw_tin 28 dX10_drawn_1 (by decide) (by decide) rfl (by decide) ?_
    refine pw_iload_n rfl dX10_drawn_28 ?_
    refine pw_sipush 256 (by decide) dX10_drawn_29 ?_
    rw [show (256 : Int32) = nI 256 from rfl]
    refine pw_irem (by decide) dX10_drawn_32 ?_
    rw [pk_rem (by omega) (by omega) (by omega)]
    refine pw_iret dX10_drawn_33 (Or.inl rfl) ?_
    rw [drw_0] at hQ
    exact hQ
  · refine pw_tin 34 dX10_drawn_1 (by decide) (by decide) rfl (by decide) ?_
    refine pw_iload_n rfl dX10_drawn_34 ?_
    refine pw_iconst 4 (by decide) dX10_drawn_35 ?_
    rw [show (4 : Int32) = nI 4 from rfl]
    refine pw_irem (by decide) dX10_drawn_36 ?_
    rw [pk_rem (by omega) (by omega) (by omega)]
    refine pw_iret dX10_drawn_37 (Or.inl rfl) ?_
    rw [drw_1] at hQ
    exact hQ
  · refine pw_tin 38 dX10_drawn_1 (by decide) (by decide) rfl (by decide) ?_
    refine pw_iload_n rfl dX10_drawn_38 ?_
    refine pw_bipush 8 (by decide) dX10_drawn_39 ?_
    rw [show (8 : Int32) = nI 8 from rfl]
    refine pw_irem (by decide) dX10_drawn_41 ?_
    rw [pk_rem (by omega) (by omega) (by omega)]
    refine pw_iret dX10_drawn_42 (Or.inl rfl) ?_
    rw [drw_2] at hQ
    exact hQ
  · refine pw_tout 43 dX10_drawn_1 (Or.inr (by decide)) (by decide) ?_
    refine pw_iload_n rfl dX10_drawn_43 ?_
    refine pw_iload_n rfl dX10_drawn_44 ?_
    refine pw_iconst 4 (by decide) dX10_drawn_45 ?_
    rw [show (4 : Int32) = nI 4 from rfl]
    refine pw_irem (by decide) dX10_drawn_46 ?_
    rw [pk_rem (by omega) (by omega) (by omega)]
    refine pw_iadd dX10_drawn_47 ?_
    refine pw_sipush 256 (by decide) dX10_drawn_48 ?_
    rw [nI_add, show (256 : Int32) = nI 256 from rfl]
    refine pw_irem (by decide) dX10_drawn_51 ?_
    rw [pk_rem (by omega) (by omega) (by omega)]
    refine pw_iret dX10_drawn_52 (Or.inl rfl) ?_
    rw [drw_3] at hQ
    exact hQ
theorem rep_s {T g : Nat → Int32} {c i b : Nat} (h : same g (rep T c (c + i) b) (c + i)) : same (upd g (c + i) (nI b)) (rep T c (c + (i + 1)) b) (c + (i + 1)) := by
  intro j hj
  by_cases h1 : j = c + i
  · rw [h1, upd_s]
    unfold rep
    rw [if_pos (by omega)]
  · rw [upd_n h1, h j (by omega)]
    unfold rep
    by_cases h2 : c ≤ j ∧ j < c + i
    · rw [if_pos h2, if_pos (by omega)]
    · rw [if_neg h2, if_neg (by omega)]
theorem fc_inner {x1 x2 x3 x5 x6 x7 x8 : Int32} {e b t c : Nat} {T : Nat → Int32} (he : e ≤ 300) (hb : b < 256) (ht : t ≤ 8) : ∀ (k i : Nat) (F' A' : Nat → Nat → Int32), min e (c + t) - (c + i) = k → c + i ≤ min e (c + t) → (∀ i j, ¬ (i = 1 ∧ j = 1) → F' i j = F i j) → (∀ i, ¬ i = 2 → A' i = A i) → F' 1 1 = nI (c + i) → same (A' 2) (rep T c (c + i) b) (c + i) →
    (∀ i F' A', (∀ i j, ¬ (i = 1 ∧ j = 1) → F' i j = F i j) → (∀ i, ¬ i = 2 → A' i = A i) → F' 1 1 = nI (min e (c + t)) → same (A' 2) (rep T c (min e (c + t)) b) (min e (c + t)) → PW Γ mX10_fill 165 [.ref 0, .int x1, .int x2, .int x3, .int (nI e), .int x5, .int x6, .int x7, .int x8, .int (nI b), .int (nI t), .int i] [] (HS F' A' rf lo X) 0 0 Q) →
    PW Γ mX10_fill 131 [.ref 0, .int x1, .int x2, .int x3, .int (nI e), .int x5, .int x6, .int x7, .int x8, .int (nI b), .int (nI t), .int (nI i)] [] (HS F' A' rf lo X) 0 0 Q := by
  intro k
  induction k with
  | zero =>
    intro i F' A' hk hle hF hA h1 hS hq
    have hm : c + i = min e (c + t) := by omega
    by_cases hit : t ≤ i
    · refine pw_iload rfl dX10_fill_131 ?_
      refine pw_iload rfl dX10_fill_133 ?_
      refine pw_icmp_ge 165 dX10_fill_135 (by decide) (fun _ => ?_) (fun q => absurd (nI_le hit (by omega)) q)
      refine hq _ F' A' hF hA (by rw [← hm]; exact h1) (by rw [← hm]; exact hS)
    · refine pw_iload rfl dX10_fill_131 ?_
      refine pw_iload rfl dX10_fill_133 ?_
      refine pw_icmp_ge 165 dX10_fill_135 (by decide) (fun q => absurd q (nI_ge (by omega) (by omega))) (fun _ => ?_)
      refine pw_aload_n rfl dX10_fill_138 ?_
      refine pw_gC dX10_fill_139 fX10_14 (by first | rfl | assumption) rfl (by first | rfl | assumption) ?_
      refine pc_V0 dX10_fill_142 lX10_86 rfl (by first | rfl | assumption) (by decide) (Nat.le_of_ble_eq_true rfl) ?_
      refine c_count row1 ?_
      rw [h1]
      refine pw_iload rfl dX10_fill_145 ?_
      refine pw_icmp_ge 165 dX10_fill_147 (by decide) (fun _ => ?_) (fun q => absurd (nI_le (by omega) (by omega)) q)
      refine hq _ F' A' hF hA (by rw [← hm]; exact h1) (by rw [← hm]; exact hS)
  | succ k ih =>
    intro i F' A' hk hle hF hA h1 hS hq
    refine pw_iload rfl dX10_fill_131 ?_
    refine pw_iload rfl dX10_fill_133 ?_
    refine pw_icmp_ge 165 dX10_fill_135 (by decide) (fun q => absurd q (nI_ge (by omega) (by omega))) (fun _ => ?_)
    refine pw_aload_n rfl dX10_fill_138 ?_
    refine pw_gC dX10_fill_139 fX10_14 (by first | rfl | assumption) rfl (by first | rfl | assumption) ?_
    refine pc_V0 dX10_fill_142 lX10_86 rfl (by first | rfl | assumption) (by decide) (Nat.le_of_ble_eq_true rfl) ?_
    refine c_count row1 ?_
    rw [h1]
    refine pw_iload rfl dX10_fill_145 ?_
    refine pw_icmp_ge 165 dX10_fill_147 (by decide) (fun q => absurd q (nI_ge (by omega) (by omega))) (fun _ => ?_)
    refine pw_aload_n rfl dX10_fill_150 ?_
    refine pw_gC dX10_fill_151 fX10_14 (by first | rfl | assumption) rfl (by first | rfl | assumption) ?_
    refine pw_iload rfl dX10_fill_154 ?_
    refine pc_V1 dX10_fill_156 lX10_97 rfl (by first | rfl | assumption) (by decide) (Nat.le_of_ble_eq_true rfl) ?_
    refine c_push row1 h1 (by omega) ?_
    refine ps_iinc (l' := [_, _, _, _, _, _, _, _, _, _, _, _]) 1 dX10_fill_159 (by decide) rfl (by decide) rfl rfl ?_
    refine pw_goto 131 dX10_fill_162 (by decide) ?_
    rw [nI_1, nI_and255s hb]
    exact ih (i + 1) _ _ (by omega) (by omega) (fun i j hij => by rw [upF_n hij]; exact hF i j hij) (fun i hi => by rw [stA_n hi]; exact hA i hi) upF_s (by rw [stA_s]; exact rep_s hS) hq
theorem fc_loop {x2 : Int32} {e hw n : Nat} (he : e ≤ 300) (hh : hw < 4) (hn : n ≤ e) : ∀ (m d c bf : Nat) (x : Int32) (T : Nat → Int32) (F' A' : Nat → Nat → Int32) (g8 g9 g10 g11 : Value), g8.category = 1 → g9.category = 1 → g10.category = 1 → g11.category = 1 → e - c ≤ m → c ≤ e → d + (e - n) ≤ c → bf < 256 → (∀ i j, ¬ (i = 1 ∧ j = 1) → F' i j = F i j) → (∀ i, ¬ i = 2 → A' i = A i) → F' 1 1 = nI c → same (A' 2) T c →
    (∀ F' A', (∀ i j, ¬ (i = 1 ∧ j = 1) → F' i j = F i j) → (∀ i, ¬ i = 2 → A' i = A i) → F' 1 1 = nI e → same (A' 2) (fil hw e m x bf c T) e → Q (some (.int (nI e))) (HS F' A' rf lo X)) →
    PW Γ mX10_fill 61 [.ref 0, .int (nI n), .int x2, .int (nI hw), .int (nI e), .int x, .int (nI bf), .int (nI d), g8, g9, g10, g11] [] (HS F' A' rf lo X) 0 0 Q := by
  intro m
  induction m with
  | zero =>
    intro d c bf x T F' A' g8 g9 g10 g11 k8 k9 k10 k11 hm hc hd hbf hF hA h1 hS hq
    have hce : c = e := by omega
    subst hce
    have fin : PW Γ mX10_fill 175 [.ref 0, .int (nI n), .int x2, .int (nI hw), .int (nI c), .int x, .int (nI bf), .int (nI d), g8, g9, g10, g11] [] (HS F' A' rf lo X) 0 0 Q := by
      refine pw_aload_n rfl dX10_fill_175 ?_
      refine pw_gC dX10_fill_176 fX10_14 (by first | rfl | assumption) rfl (by first | rfl | assumption) ?_
      refine pc_V0 dX10_fill_179 lX10_86 rfl (by first | rfl | assumption) (by decide) (Nat.le_of_ble_eq_true rfl) ?_
      refine c_count row1 ?_
      rw [h1]
      refine pw_iret dX10_fill_182 (Or.inl rfl) ?_
      exact hq F' A' hF hA h1 hS
    by_cases hdn : n ≤ d
    · refine pw_iload rfl dX10_fill_61 ?_
      refine pw_iload_n rfl dX10_fill_63 ?_
      refine pw_icmp_ge 175 dX10_fill_64 (by decide) (fun _ => ?_) (fun q => absurd (nI_le hdn (by omega)) q)
      exact fin
    · refine pw_iload rfl dX10_fill_61 ?_
      refine pw_iload_n rfl dX10_fill_63 ?_
      refine pw_icmp_ge 175 dX10_fill_64 (by decide) (fun q => absurd q (nI_ge (by omega) (by omega))) (fun _ => ?_)
      refine pw_aload_n rfl dX10_fill_67 ?_
      refine pw_gC dX10_fill_68 fX10_14 (by first | rfl | assumption) rfl (by first | rfl | assumption) ?_
      refine pc_V0 dX10_fill_71 lX10_86 rfl (by first | rfl | assumption) (by decide) (Nat.le_of_ble_eq_true rfl) ?_
      refine c_count row1 ?_
      rw [h1]
      refine pw_iload rfl dX10_fill_74 ?_
      refine pw_icmp_ge 175 dX10_fill_76 (by decide) (fun _ => ?_) (fun q => absurd (nI_le (Nat.le_refl _) (by omega)) q)
      exact fin
  | succ m ih =>
    intro d c bf x T F' A' g8 g9 g10 g11 k8 k9 k10 k11 hm hc hd hbf hF hA h1 hS hq
    unfold fil at hq
    by_cases hce : c < e
    · rw [if_pos hce] at hq
      have hz := zR_lt (nxR x)
      have ht := tms_ok (z := zR (nxR x)) (hw := hw)
      have hb := drw_lt (z := zR (nxR x)) (hw := hw) (bf := bf)
      refine pw_iload rfl dX10_fill_61 ?_
      refine pw_iload_n rfl dX10_fill_63 ?_
      refine pw_icmp_ge 175 dX10_fill_64 (by decide) (fun q => absurd q (nI_ge (by omega) (by omega))) (fun _ => ?_)
      refine pw_aload_n rfl dX10_fill_67 ?_
      refine pw_gC dX10_fill_68 fX10_14 (by first | rfl | assumption) rfl (by first | rfl | assumption) ?_
      refine pc_V0 dX10_fill_71 lX10_86 rfl (by first | rfl | assumption) (by decide) (Nat.le_of_ble_eq_true rfl) ?_
      refine c_count row1 ?_
      rw [h1]
      refine pw_iload rfl dX10_fill_74 ?_
      refine pw_icmp_ge 175 dX10_fill_76 (by decide) (fun q => absurd q (nI_ge hce (by omega))) (fun _ => ?_)
      refine pw_iload rfl dX10_fill_79 ?_
      refine pw_ldc qX10_100 dX10_fill_81 ?_
      refine pw_imul dX10_fill_83 ?_
      refine pw_sipush 12345 (by decide) dX10_fill_84 ?_
      refine pw_iadd dX10_fill_87 ?_
      refine ps_istore (l' := [_, _, _, _, _, _, _, _, _, _, _, _]) dX10_fill_88 (by decide) rfl rfl ?_
      refine pw_iload rfl dX10_fill_90 ?_
      refine pw_bipush 16 (by decide) dX10_fill_92 ?_
      refine pw_iushr dX10_fill_94 ?_
      rw [show x * 1103515245 + 12345 = nxR x from rfl, ushr16]
      refine ps_istore (l' := [_, _, _, _, _, _, _, _, _, _, _, _]) dX10_fill_95 (by decide) rfl rfl ?_
      refine pw_iload rfl dX10_fill_97 ?_
      refine pw_iload_n rfl dX10_fill_99 ?_
      refine pw_iload rfl dX10_fill_100 ?_
      refine pc_S3 dX10_fill_102 lX10_101 (by decide) (Nat.le_of_ble_eq_true rfl) ?_
      refine c_drawn hz hh hbf ?_
      have go : PW Γ mX10_fill 126 [.ref 0, .int (nI n), .int x2, .int (nI hw), .int (nI e), .int (nxR x), .int (nI bf), .int (nI d), .int (nI (zR (nxR x))), .int (nI (drw (zR (nxR x)) hw bf)), g10, g11] [.int (nI (tms (zR (nxR x)) hw))] (HS F' A' rf lo X) 0 0 Q := by
        refine ps_istore (l' := [_, _, _, _, _, _, _, _, _, _, _, _]) dX10_fill_126 (by decide) rfl rfl ?_
        refine pw_iconst 0 (by decide) dX10_fill_128 ?_
        refine ps_istore (l' := [_, _, _, _, _, _, _, _, _, _, _, _]) dX10_fill_129 (by decide) rfl rfl ?_
        refine fc_inner (F := F) (A := A) (T := T) (c := c) he hb ht.2 _ 0 F' A' rfl (by omega) hF hA h1 (by
          intro j hj
          rw [hS j hj]
          unfold rep
          rw [if_neg (by omega)]) ?_
        intro i F2 A2 hF2 hA2 h2 hS2
        refine pw_iload rfl dX10_fill_165 ?_
        refine ps_istore (l' := [_, _, _, _, _, _, _, _, _, _, _, _]) dX10_fill_167 (by decide) rfl rfl ?_
        refine ps_iinc (l' := [_, _, _, _, _, _, _, _, _, _, _, _]) 1 dX10_fill_169 (by decide) rfl (by decide) rfl rfl ?_
        refine pw_goto 61 dX10_fill_172 (by decide) ?_
        rw [nI_1]
        exact ih (d + 1) (min e (c + tms (zR (nxR x)) hw)) (drw (zR (nxR x)) hw bf) (nxR x) _ F2 A2 _ _ _ _ rfl rfl rfl rfl (by omega) (by omega) (by omega) hb hF2 hA2 h2 hS2 hq
      by_cases hw2 : hw = 2
      · have e1 : tms (zR (nxR x)) hw = 1 + zR (nxR x) / 8 % 8 := by unfold tms; rw [if_pos hw2]
        rw [e1] at go
        have hwI : nI hw = 2 := by rw [hw2]; rfl
        refine ps_istore (l' := [_, _, _, _, _, _, _, _, _, _, _, _]) dX10_fill_105 (by decide) rfl rfl ?_
        refine pw_iload_n rfl dX10_fill_107 ?_
        refine pw_iconst 2 (by decide) dX10_fill_108 ?_
        refine pw_icmp_ne 125 dX10_fill_109 (by decide) (fun q => absurd (hwI) q) (fun _ => ?_)
        refine pw_iconst 1 (by decide) dX10_fill_112 ?_
        refine pw_iload rfl dX10_fill_113 ?_
        refine pw_bipush 8 (by decide) dX10_fill_115 ?_
        rw [show (8 : Int32) = nI 8 from rfl]
        refine pw_idiv (by decide) dX10_fill_117 ?_
        refine pw_bipush 8 (by decide) dX10_fill_118 ?_
        rw [pk_div (by omega) (by omega) (by omega), show (8 : Int32) = nI 8 from rfl]
        refine pw_irem (by decide) dX10_fill_120 ?_
        rw [pk_rem (by omega) (by omega) (by omega), show (1 : Int32) = nI 1 from rfl]
        refine pw_iadd dX10_fill_121 ?_
        refine pw_goto 126 dX10_fill_122 (by decide) ?_
        rw [nI_add]
        exact go
      · have e1 : tms (zR (nxR x)) hw = 1 := by unfold tms; rw [if_neg hw2]
        rw [e1] at go
        refine ps_istore (l' := [_, _, _, _, _, _, _, _, _, _, _, _]) dX10_fill_105 (by decide) rfl rfl ?_
        refine pw_iload_n rfl dX10_fill_107 ?_
        refine pw_iconst 2 (by decide) dX10_fill_108 ?_
        refine pw_icmp_ne 125 dX10_fill_109 (by decide) (fun _ => ?_) (fun q => absurd q ((fun h9 => hw2 (nI_inj (b := 2) (by omega) (by omega) h9))))
        refine pw_iconst 1 (by decide) dX10_fill_125 ?_
        exact go
    · rw [if_neg hce] at hq
      have hce2 : c = e := by omega
      subst hce2
      have fin : PW Γ mX10_fill 175 [.ref 0, .int (nI n), .int x2, .int (nI hw), .int (nI c), .int x, .int (nI bf), .int (nI d), g8, g9, g10, g11] [] (HS F' A' rf lo X) 0 0 Q := by
        refine pw_aload_n rfl dX10_fill_175 ?_
        refine pw_gC dX10_fill_176 fX10_14 (by first | rfl | assumption) rfl (by first | rfl | assumption) ?_
        refine pc_V0 dX10_fill_179 lX10_86 rfl (by first | rfl | assumption) (by decide) (Nat.le_of_ble_eq_true rfl) ?_
        refine c_count row1 ?_
        rw [h1]
        refine pw_iret dX10_fill_182 (Or.inl rfl) ?_
        exact hq F' A' hF hA h1 hS
      by_cases hdn : n ≤ d
      · refine pw_iload rfl dX10_fill_61 ?_
        refine pw_iload_n rfl dX10_fill_63 ?_
        refine pw_icmp_ge 175 dX10_fill_64 (by decide) (fun _ => ?_) (fun q => absurd (nI_le hdn (by omega)) q)
        exact fin
      · refine pw_iload rfl dX10_fill_61 ?_
        refine pw_iload_n rfl dX10_fill_63 ?_
        refine pw_icmp_ge 175 dX10_fill_64 (by decide) (fun q => absurd q (nI_ge (by omega) (by omega))) (fun _ => ?_)
        refine pw_aload_n rfl dX10_fill_67 ?_
        refine pw_gC dX10_fill_68 fX10_14 (by first | rfl | assumption) rfl (by first | rfl | assumption) ?_
        refine pc_V0 dX10_fill_71 lX10_86 rfl (by first | rfl | assumption) (by decide) (Nat.le_of_ble_eq_true rfl) ?_
        refine c_count row1 ?_
        rw [h1]
        refine pw_iload rfl dX10_fill_74 ?_
        refine pw_icmp_ge 175 dX10_fill_76 (by decide) (fun _ => ?_) (fun q => absurd (nI_le (Nat.le_refl _) (by omega)) q)
        exact fin
theorem fm_inner9 {x1 x2 x3 x4 x5 x7 : Int32} {e b t c : Nat} {T : Nat → Int32} (he : e ≤ 300) (ht : t ≤ 8) : ∀ (k i : Nat) (F' A' : Nat → Nat → Int32), min e (c + t) - (c + i) = k → c + i ≤ min e (c + t) → (∀ i j, ¬ (i = 57 ∧ j = 1) → F' i j = F i j) → (∀ i, ¬ i = 58 → A' i = A i) → F' 57 1 = nI (c + i) → same (A' 58) (rep T c (c + i) b) (c + i) →
    (∀ i F' A', (∀ i j, ¬ (i = 57 ∧ j = 1) → F' i j = F i j) → (∀ i, ¬ i = 58 → A' i = A i) → F' 57 1 = nI (min e (c + t)) → same (A' 58) (rep T c (min e (c + t)) b) (min e (c + t)) → PW Γ mX11_fill 201 [.ref 57, .int x1, .int x2, .int x3, .int x4, .int x5, .int (nI e), .int x7, .int (nI b), .int (nI t), .int i] [] (HS F' A' rf lo X) 0 0 Q) →
    PW Γ mX11_fill 158 [.ref 57, .int x1, .int x2, .int x3, .int x4, .int x5, .int (nI e), .int x7, .int (nI b), .int (nI t), .int (nI i)] [] (HS F' A' rf lo X) 0 0 Q := by
  intro k
  induction k with
  | zero =>
    intro i F' A' hk hle hF hA h1 hS hq
    have hm : c + i = min e (c + t) := by omega
    by_cases hit : t ≤ i
    · refine pw_iload rfl dX11_fill_158 ?_
      refine pw_iload rfl dX11_fill_160 ?_
      refine pw_icmp_ge 201 dX11_fill_162 (by decide) (fun _ => ?_) (fun q => absurd (nI_le hit (by omega)) q)
      refine hq _ F' A' hF hA (by rw [← hm]; exact h1) (by rw [← hm]; exact hS)
    · refine pw_iload rfl dX11_fill_158 ?_
      refine pw_iload rfl dX11_fill_160 ?_
      refine pw_icmp_ge 201 dX11_fill_162 (by decide) (fun q => absurd q (nI_ge (by omega) (by omega))) (fun _ => ?_)
      refine pw_aload_n rfl dX11_fill_165 ?_
      refine pw_gI dX11_fill_166 fX11_72 (by first | rfl | assumption) rfl ?_
      rw [h1]
      refine pw_iload rfl dX11_fill_169 ?_
      refine pw_icmp_ge 201 dX11_fill_171 (by decide) (fun _ => ?_) (fun q => absurd (nI_le (by omega) (by omega)) q)
      refine hq _ F' A' hF hA (by rw [← hm]; exact h1) (by rw [← hm]; exact hS)
  | succ k ih =>
    intro i F' A' hk hle hF hA h1 hS hq
    refine pw_iload rfl dX11_fill_158 ?_
    refine pw_iload rfl dX11_fill_160 ?_
    refine pw_icmp_ge 201 dX11_fill_162 (by decide) (fun q => absurd q (nI_ge (by omega) (by omega))) (fun _ => ?_)
    refine pw_aload_n rfl dX11_fill_165 ?_
    refine pw_gI dX11_fill_166 fX11_72 (by first | rfl | assumption) rfl ?_
    rw [h1]
    refine pw_iload rfl dX11_fill_169 ?_
    refine pw_icmp_ge 201 dX11_fill_171 (by decide) (fun q => absurd q (nI_ge (by omega) (by omega))) (fun _ => ?_)
    refine pw_aload_n rfl dX11_fill_174 ?_
    refine pw_gC dX11_fill_175 fX11_7 (by first | rfl | assumption) rfl (by first | rfl | assumption) ?_
    refine pw_aload_n rfl dX11_fill_178 ?_
    refine pw_gI dX11_fill_179 fX11_72 (by first | rfl | assumption) rfl ?_
    rw [h1]
    refine pw_iload rfl dX11_fill_182 ?_
    refine pw_sI dX11_fill_184 (by first | rfl | assumption) (by first | assumption | exact vp_in_nI (by omega) (by omega)) ?_
    refine pw_aload_n rfl dX11_fill_185 ?_
    refine pw_dup rfl dX11_fill_186 ?_
    refine pw_gI dX11_fill_187 fX11_72 (by first | rfl | assumption) rfl ?_
    rw [h1]
    refine pw_iconst 1 (by decide) dX11_fill_190 ?_
    refine pw_iadd dX11_fill_191 ?_
    refine pw_pI dX11_fill_192 fX11_72 (by first | rfl | assumption) rfl ⟨rfl, rfl⟩ ?_
    refine ps_iinc (l' := [_, _, _, _, _, _, _, _, _, _, _]) 1 dX11_fill_195 (by decide) rfl (by decide) rfl rfl ?_
    refine pw_goto 158 dX11_fill_198 (by decide) ?_
    rw [nI_1, nI_1, nI_clamp (by omega)]
    exact ih (i + 1) _ _ (by omega) (by omega) (fun i j hij => by rw [upF_n hij]; exact hF i j hij) (fun i hi => by rw [stA_n hi]; exact hA i hi) upF_s (by rw [stA_s]; exact rep_s hS) hq
theorem fm_loop9 {x1 x2 : Int32} {e hw : Nat} (he : e ≤ 300) (hh : hw < 4) : ∀ (m c bf : Nat) (x : Int32) (T : Nat → Int32) (F' A' : Nat → Nat → Int32) (g8 g9 g10 g11 : Value), g8.category = 1 → g9.category = 1 → g10.category = 1 → g11.category = 1 → e - c ≤ m → c ≤ e → bf < 256 → (∀ i j, ¬ (i = 57 ∧ j = 1) → F' i j = F i j) → (∀ i, ¬ i = 58 → A' i = A i) → F' 57 1 = nI c → same (A' 58) T c →
    (∀ F' A', (∀ i j, ¬ (i = 57 ∧ j = 1) → F' i j = F i j) → (∀ i, ¬ i = 58 → A' i = A i) → F' 57 1 = nI e → same (A' 58) (fil hw e m x bf c T) e → Q (some (.int (nI e))) (HS F' A' rf lo X)) →
    PW Γ mX11_fill 56 [.ref 57, .int x1, .int x2, .int (nI hw), .int x, .int (nI bf), .int (nI e), g8, g9, g10, g11] [] (HS F' A' rf lo X) 0 0 Q := by
  intro m
  induction m with
  | zero =>
    intro c bf x T F' A' g8 g9 g10 g11 k8 k9 k10 k11 hm hc hbf hF hA h1 hS hq
    have hce : c = e := by omega
    subst hce
    refine pw_aload_n rfl dX11_fill_56 ?_
    refine pw_gI dX11_fill_57 fX11_72 (by first | rfl | assumption) rfl ?_
    rw [h1]
    refine pw_iload rfl dX11_fill_60 ?_
    refine pw_icmp_ge 208 dX11_fill_62 (by decide) (fun _ => ?_) (fun q => absurd (nI_le (Nat.le_refl _) (by omega)) q)
    refine pw_aload_n rfl dX11_fill_208 ?_
    refine pw_gI dX11_fill_209 fX11_72 (by first | rfl | assumption) rfl ?_
    rw [h1]
    refine pw_iret dX11_fill_212 (Or.inl rfl) ?_
    exact hq F' A' hF hA h1 hS
  | succ m ih =>
    intro c bf x T F' A' g8 g9 g10 g11 k8 k9 k10 k11 hm hc hbf hF hA h1 hS hq
    unfold fil at hq
    by_cases hce : c < e
    · rw [if_pos hce] at hq
      have hz := zR_lt (nxR x)
      have ht := tms_ok (z := zR (nxR x)) (hw := hw)
      have hb := drw_lt (z := zR (nxR x)) (hw := hw) (bf := bf)
      refine pw_aload_n rfl dX11_fill_56 ?_
      refine pw_gI dX11_fill_57 fX11_72 (by first | rfl | assumption) rfl ?_
      rw [h1]
      refine pw_iload rfl dX11_fill_60 ?_
      refine pw_icmp_ge 208 dX11_fill_62 (by decide) (fun q => absurd q (nI_ge hce (by omega))) (fun _ => ?_)
      refine pw_iload rfl dX11_fill_65 ?_
      refine pw_ldc qX11_79 dX11_fill_67 ?_
      refine pw_imul dX11_fill_69 ?_
      refine pw_sipush 12345 (by decide) dX11_fill_70 ?_
      refine pw_iadd dX11_fill_73 ?_
      refine ps_istore (l' := [_, _, _, _, _, _, _, _, _, _, _]) dX11_fill_74 (by decide) rfl rfl ?_
      refine pw_iload rfl dX11_fill_76 ?_
      refine pw_bipush 16 (by decide) dX11_fill_78 ?_
      refine pw_iushr dX11_fill_80 ?_
      rw [show x * 1103515245 + 12345 = nxR x from rfl, ushr16]
      refine ps_istore (l' := [_, _, _, _, _, _, _, _, _, _, _]) dX11_fill_81 (by decide) rfl rfl ?_
      refine pw_iload_n rfl dX11_fill_83 ?_
      have go2 : PW Γ mX11_fill 153 [.ref 57, .int x1, .int x2, .int (nI hw), .int (nxR x), .int (nI bf), .int (nI e), .int (nI (zR (nxR x))), .int (nI (drw (zR (nxR x)) hw bf)), g10, g11] [.int (nI (tms (zR (nxR x)) hw))] (HS F' A' rf lo X) 0 0 Q := by
        refine ps_istore (l' := [_, _, _, _, _, _, _, _, _, _, _]) dX11_fill_153 (by decide) rfl rfl ?_
        refine pw_iconst 0 (by decide) dX11_fill_155 ?_
        refine ps_istore (l' := [_, _, _, _, _, _, _, _, _, _, _]) dX11_fill_156 (by decide) rfl rfl ?_
        refine fm_inner9 (F := F) (A := A) (T := T) (c := c) he ht.2 _ 0 F' A' rfl (by omega) hF hA h1 (by
          intro j hj
          rw [hS j hj]
          unfold rep
          rw [if_neg (by omega)]) ?_
        intro i F2 A2 hF2 hA2 h2 hS2
        refine pw_iload rfl dX11_fill_201 ?_
        refine ps_istore (l' := [_, _, _, _, _, _, _, _, _, _, _]) dX11_fill_203 (by decide) rfl rfl ?_
        refine pw_goto 56 dX11_fill_205 (by decide) ?_
        exact ih (min e (c + tms (zR (nxR x)) hw)) (drw (zR (nxR x)) hw bf) (nxR x) _ F2 A2 _ _ _ _ rfl rfl rfl rfl (by omega) (by omega) hb hF2 hA2 h2 hS2 hq
      have go : PW Γ mX11_fill 132 [.ref 57, .int x1, .int x2, .int (nI hw), .int (nxR x), .int (nI bf), .int (nI e), .int (nI (zR (nxR x))), g9, g10, g11] [.int (nI (drw (zR (nxR x)) hw bf))] (HS F' A' rf lo X) 0 0 Q := by
        by_cases hw2 : hw = 2
        · have e1 : tms (zR (nxR x)) hw = 1 + zR (nxR x) / 8 % 8 := by unfold tms; rw [if_pos hw2]
          rw [e1] at go2
          have hwI : nI hw = 2 := by rw [hw2]; rfl
          refine ps_istore (l' := [_, _, _, _, _, _, _, _, _, _, _]) dX11_fill_132 (by decide) rfl rfl ?_
          refine pw_iload_n rfl dX11_fill_134 ?_
          refine pw_iconst 2 (by decide) dX11_fill_135 ?_
          refine pw_icmp_ne 152 dX11_fill_136 (by decide) (fun q => absurd (hwI) q) (fun _ => ?_)
          refine pw_iconst 1 (by decide) dX11_fill_139 ?_
          refine pw_iload rfl dX11_fill_140 ?_
          refine pw_bipush 8 (by decide) dX11_fill_142 ?_
          rw [show (8 : Int32) = nI 8 from rfl]
          refine pw_idiv (by decide) dX11_fill_144 ?_
          refine pw_bipush 8 (by decide) dX11_fill_145 ?_
          rw [pk_div (by omega) (by omega) (by omega), show (8 : Int32) = nI 8 from rfl]
          refine pw_irem (by decide) dX11_fill_147 ?_
          rw [pk_rem (by omega) (by omega) (by omega), show (1 : Int32) = nI 1 from rfl]
          refine pw_iadd dX11_fill_148 ?_
          refine pw_goto 153 dX11_fill_149 (by decide) ?_
          rw [nI_add]
          exact go2
        · have e1 : tms (zR (nxR x)) hw = 1 := by unfold tms; rw [if_neg hw2]
          rw [e1] at go2
          refine ps_istore (l' := [_, _, _, _, _, _, _, _, _, _, _]) dX11_fill_132 (by decide) rfl rfl ?_
          refine pw_iload_n rfl dX11_fill_134 ?_
          refine pw_iconst 2 (by decide) dX11_fill_135 ?_
          refine pw_icmp_ne 152 dX11_fill_136 (by decide) (fun _ => ?_) (fun q => absurd q ((fun h9 => hw2 (nI_inj (b := 2) (by omega) (by omega) h9))))
          refine pw_iconst 1 (by decide) dX11_fill_152 ?_
          exact go2
      rcases (show hw = 0 ∨ hw = 1 ∨ hw = 2 ∨ hw = 3 by omega) with rfl | rfl | rfl | rfl
      · refine pw_if_ne 96 dX11_fill_84 (by decide) (fun q => absurd (rfl) q) (fun _ => ?_)
        refine pw_iload rfl dX11_fill_87 ?_
        refine pw_sipush 256 (by decide) dX11_fill_89 ?_
        rw [show (256 : Int32) = nI 256 from rfl]
        refine pw_irem (by decide) dX11_fill_92 ?_
        refine pw_goto 132 dX11_fill_93 (by decide) ?_
        rw [pk_rem (by omega) (by omega) (by omega)]
        rw [drw_0] at go
        exact go
      · refine pw_if_ne 96 dX11_fill_84 (by decide) (fun _ => ?_) (fun q => absurd q (by decide))
        refine pw_iload_n rfl dX11_fill_96 ?_
        refine pw_iconst 1 (by decide) dX11_fill_97 ?_
        refine pw_icmp_ne 108 dX11_fill_98 (by decide) (fun q => absurd (rfl) q) (fun _ => ?_)
        refine pw_iload rfl dX11_fill_101 ?_
        refine pw_iconst 4 (by decide) dX11_fill_103 ?_
        rw [show (4 : Int32) = nI 4 from rfl]
        refine pw_irem (by decide) dX11_fill_104 ?_
        refine pw_goto 132 dX11_fill_105 (by decide) ?_
        rw [pk_rem (by omega) (by omega) (by omega)]
        rw [drw_1] at go
        exact go
      · refine pw_if_ne 96 dX11_fill_84 (by decide) (fun _ => ?_) (fun q => absurd q (by decide))
        refine pw_iload_n rfl dX11_fill_96 ?_
        refine pw_iconst 1 (by decide) dX11_fill_97 ?_
        refine pw_icmp_ne 108 dX11_fill_98 (by decide) (fun _ => ?_) (fun q => absurd q (by decide))
        refine pw_iload_n rfl dX11_fill_108 ?_
        refine pw_iconst 2 (by decide) dX11_fill_109 ?_
        refine pw_icmp_ne 121 dX11_fill_110 (by decide) (fun q => absurd (rfl) q) (fun _ => ?_)
        refine pw_iload rfl dX11_fill_113 ?_
        refine pw_bipush 8 (by decide) dX11_fill_115 ?_
        rw [show (8 : Int32) = nI 8 from rfl]
        refine pw_irem (by decide) dX11_fill_117 ?_
        refine pw_goto 132 dX11_fill_118 (by decide) ?_
        rw [pk_rem (by omega) (by omega) (by omega)]
        rw [drw_2] at go
        exact go
      · refine pw_if_ne 96 dX11_fill_84 (by decide) (fun _ => ?_) (fun q => absurd q (by decide))
        refine pw_iload_n rfl dX11_fill_96 ?_
        refine pw_iconst 1 (by decide) dX11_fill_97 ?_
        refine pw_icmp_ne 108 dX11_fill_98 (by decide) (fun _ => ?_) (fun q => absurd q (by decide))
        refine pw_iload_n rfl dX11_fill_108 ?_
        refine pw_iconst 2 (by decide) dX11_fill_109 ?_
        refine pw_icmp_ne 121 dX11_fill_110 (by decide) (fun _ => ?_) (fun q => absurd q (by decide))
        refine pw_iload rfl dX11_fill_121 ?_
        refine pw_iload rfl dX11_fill_123 ?_
        refine pw_iconst 4 (by decide) dX11_fill_125 ?_
        rw [show (4 : Int32) = nI 4 from rfl]
        refine pw_irem (by decide) dX11_fill_126 ?_
        rw [pk_rem (by omega) (by omega) (by omega)]
        refine pw_iadd dX11_fill_127 ?_
        refine pw_sipush 256 (by decide) dX11_fill_128 ?_
        rw [nI_add, show (256 : Int32) = nI 256 from rfl]
        refine pw_irem (by decide) dX11_fill_131 ?_
        rw [pk_rem (by omega) (by omega) (by omega)]
        rw [drw_3] at go
        exact go
    · rw [if_neg hce] at hq
      have hce2 : c = e := by omega
      subst hce2
      refine pw_aload_n rfl dX11_fill_56 ?_
      refine pw_gI dX11_fill_57 fX11_72 (by first | rfl | assumption) rfl ?_
      rw [h1]
      refine pw_iload rfl dX11_fill_60 ?_
      refine pw_icmp_ge 208 dX11_fill_62 (by decide) (fun _ => ?_) (fun q => absurd (nI_le (Nat.le_refl _) (by omega)) q)
      refine pw_aload_n rfl dX11_fill_208 ?_
      refine pw_gI dX11_fill_209 fX11_72 (by first | rfl | assumption) rfl ?_
      rw [h1]
      refine pw_iret dX11_fill_212 (Or.inl rfl) ?_
      exact hq F' A' hF hA h1 hS
theorem o_fill (n sd hw : Int32) : OP Γ mX10_fill mX11_fill [.ref 0, .int n, .int sd, .int hw] [.ref 57, .int n, .int sd, .int hw] := by
  refine OP_of (fun s => if ((1 ≤ n ∧ n ≤ 300) ∧ (0 ≤ hw ∧ hw ≤ 3)) ∧ s.1.1 + n.toNatClampNeg ≤ 300 then ((s.1.1 + n.toNatClampNeg, fil hw.toNatClampNeg (s.1.1 + n.toNatClampNeg) n.toNatClampNeg sd 0 s.1.1 s.1.2), s.2) else s) (fun s => if (1 ≤ n ∧ n ≤ 300) ∧ (0 ≤ hw ∧ hw ≤ 3) then (if s.1.1 + n.toNatClampNeg ≤ 300 then nI (s.1.1 + n.toNatClampNeg) else -2) else -1) ?_ ?_ ?_
  · intro F A rf lo X Q s hO hI hQ
    obtain ⟨⟨a1, a2⟩, _⟩ := id hI
    have hn3 := hO.1
    refine PM.go (l := [_, _, _, _, .float 0, .float 0, .float 0, .float 0, .float 0, .float 0, .float 0, .float 0]) rfl rfl (Nat.le_of_ble_eq_true rfl) rfl ?_
    refine pw_iload_n rfl dX10_fill_0 ?_
    refine pw_iconst 1 (by decide) dX10_fill_1 ?_
    by_cases hv : (1 ≤ n ∧ n ≤ 300) ∧ (0 ≤ hw ∧ hw ≤ 3)
    · rw [if_pos hv] at hQ
      obtain ⟨k, k1, k2, rfl⟩ := i32_le (a := 1) (b := 300) hv.1 (by omega) (by omega)
      obtain ⟨w, w1, w2, rfl⟩ := i32_le (a := 0) (b := 3) hv.2 (by omega) (by omega)
      rw [nI_clamp (by omega), nI_clamp (by omega)] at hQ
      refine pw_icmp_lt 21 dX10_fill_2 (by decide) (fun q => absurd q (Int32.not_lt.mpr hv.1.1)) (fun _ => ?_)
      refine pw_iload_n rfl dX10_fill_5 ?_
      refine pw_sipush 300 (by decide) dX10_fill_6 ?_
      refine pw_icmp_gt 21 dX10_fill_9 (by decide) (fun q => absurd q (Int32.not_lt.mpr hv.1.2)) (fun _ => ?_)
      refine pw_iload_n rfl dX10_fill_12 ?_
      refine pw_if_lt 21 dX10_fill_13 (by decide) (fun q => absurd q (Int32.not_lt.mpr hv.2.1)) (fun _ => ?_)
      refine pw_iload_n rfl dX10_fill_16 ?_
      refine pw_iconst 3 (by decide) dX10_fill_17 ?_
      refine pw_icmp_le 23 dX10_fill_18 (by decide) (fun _ => ?_) (fun q => absurd (hv.2.2) q)
      refine pw_iload_n rfl dX10_fill_23 ?_
      refine pw_sipush 300 (by decide) dX10_fill_24 ?_
      refine pw_aload_n rfl dX10_fill_27 ?_
      refine pw_gC dX10_fill_28 fX10_14 (by first | rfl | assumption) rfl (by first | rfl | assumption) ?_
      refine pc_V0 dX10_fill_31 lX10_86 rfl (by first | rfl | assumption) (by decide) (Nat.le_of_ble_eq_true rfl) ?_
      refine c_count row1 ?_
      rw [a1]
      refine pw_isub dX10_fill_34 ?_
      rw [show (300 : Int32) - nI s.1.1 = nI (300 - s.1.1) from pk_sub (a := 300) (by omega)]
      by_cases hf : s.1.1 + k ≤ 300
      · rw [if_pos hf, if_pos ⟨hv, hf⟩] at hQ
        refine pw_icmp_le 41 dX10_fill_35 (by decide) (fun _ => ?_) (fun q => absurd (nI_le (by omega) (by omega)) q)
        refine pw_aload_n rfl dX10_fill_41 ?_
        refine pw_gC dX10_fill_42 fX10_14 (by first | rfl | assumption) rfl (by first | rfl | assumption) ?_
        refine pc_V0 dX10_fill_45 lX10_86 rfl (by first | rfl | assumption) (by decide) (Nat.le_of_ble_eq_true rfl) ?_
        refine c_count row1 ?_
        rw [a1]
        refine pw_iload_n rfl dX10_fill_48 ?_
        refine pw_iadd dX10_fill_49 ?_
        rw [nI_add]
        refine ps_istore (l' := [_, _, _, _, _, _, _, _, _, _, _, _]) dX10_fill_50 (by decide) rfl rfl ?_
        refine pw_iload_n rfl dX10_fill_52 ?_
        refine ps_istore (l' := [_, _, _, _, _, _, _, _, _, _, _, _]) dX10_fill_53 (by decide) rfl rfl ?_
        refine pw_iconst 0 (by decide) dX10_fill_55 ?_
        refine ps_istore (l' := [_, _, _, _, _, _, _, _, _, _, _, _]) dX10_fill_56 (by decide) rfl rfl ?_
        refine pw_iconst 0 (by decide) dX10_fill_58 ?_
        refine ps_istore (l' := [_, _, _, _, _, _, _, _, _, _, _, _]) dX10_fill_59 (by decide) rfl rfl ?_
        refine fc_loop (F := F) (A := A) hf (by omega) (by omega) k 0 s.1.1 0 sd s.1.2 F A _ _ _ _ rfl rfl rfl rfl (by omega) (by omega) (by omega) (by omega) (fun i j _ => rfl) (fun i _ => rfl) a1 a2 ?_
        intro F2 A2 hF2 hA2 h2 hS2
        exact hQ F2 A2 _ ⟨fun i j h => hF2 i j (by omega), fun i h => hA2 i (by omega)⟩ (CI_T hI (fun i j _ h => hF2 i j (by omega)) (fun i _ h => hA2 i h) ⟨h2, hS2⟩)
      · rw [if_neg hf, if_neg (fun z => hf z.2)] at hQ
        refine pw_icmp_le 41 dX10_fill_35 (by decide) (fun q => absurd q (nI_ge (by omega) (by omega))) (fun _ => ?_)
        refine pw_bipush (-2) (by decide) dX10_fill_38 ?_
        refine pw_iret dX10_fill_40 (Or.inl rfl) ?_
        exact hQ _ _ _ frC_r hI
    · rw [if_neg hv, if_neg (fun z => hv z.1)] at hQ
      have fin : PW Γ mX10_fill 21 [.ref 0, .int n, .int sd, .int hw, .float 0, .float 0, .float 0, .float 0, .float 0, .float 0, .float 0, .float 0] [] (HS F A rf lo X) 0 0 Q := by
        refine pw_iconst (-1) (by decide) dX10_fill_21 ?_
        refine pw_iret dX10_fill_22 (Or.inl rfl) ?_
        exact hQ _ _ _ frC_r hI
      refine pw_icmp_lt 21 dX10_fill_2 (by decide) (fun q2 => ?_) (fun q2 => ?_)
      · exact fin
      · refine pw_iload_n rfl dX10_fill_5 ?_
        refine pw_sipush 300 (by decide) dX10_fill_6 ?_
        refine pw_icmp_gt 21 dX10_fill_9 (by decide) (fun q9 => ?_) (fun q9 => ?_)
        · exact fin
        · refine pw_iload_n rfl dX10_fill_12 ?_
          refine pw_if_lt 21 dX10_fill_13 (by decide) (fun q13 => ?_) (fun q13 => ?_)
          · exact fin
          · refine pw_iload_n rfl dX10_fill_16 ?_
            refine pw_iconst 3 (by decide) dX10_fill_17 ?_
            refine pw_icmp_le 23 dX10_fill_18 (by decide) (fun q => absurd q ((fun h9 => hv ⟨⟨Int32.not_lt.mp q2, Int32.not_lt.mp q9⟩, Int32.not_lt.mp q13, h9⟩))) (fun _ => ?_)
            exact fin
  · intro F A rf lo X Q s hO hI hQ
    obtain ⟨⟨a1, a2⟩, _⟩ := id hI
    have hn3 := hO.1
    refine PM.go (l := [_, _, _, _, .float 0, .float 0, .float 0, .float 0, .float 0, .float 0, .float 0]) rfl rfl (Nat.le_of_ble_eq_true rfl) rfl ?_
    refine pw_aload_n rfl dX11_fill_0 ?_
    refine pw_iconst 0 (by decide) dX11_fill_1 ?_
    refine pw_pI dX11_fill_2 fX11_65 (by first | rfl | assumption) rfl ⟨rfl, rfl⟩ ?_
    refine pw_iload_n rfl dX11_fill_5 ?_
    refine pw_iconst 1 (by decide) dX11_fill_6 ?_
    refine pw_sipush 300 (by decide) dX11_fill_7 ?_
    refine pc_S3 dX11_fill_10 lX11_75 (by decide) (Nat.le_of_ble_eq_true rfl) ?_
    refine m_in ?_
    by_cases hv1 : 1 ≤ n ∧ n ≤ 300
    · rw [if_pos hv1]
      refine pw_if_eq 25 dX11_fill_13 (by decide) (fun q => absurd q (by decide)) (fun _ => ?_)
      refine pw_iload_n rfl dX11_fill_16 ?_
      refine pw_iconst 0 (by decide) dX11_fill_17 ?_
      refine pw_iconst 3 (by decide) dX11_fill_18 ?_
      refine pc_S3 dX11_fill_19 lX11_75 (by decide) (Nat.le_of_ble_eq_true rfl) ?_
      refine m_in ?_
      by_cases hv2 : 0 ≤ hw ∧ hw ≤ 3
      · have hv : (1 ≤ n ∧ n ≤ 300) ∧ (0 ≤ hw ∧ hw ≤ 3) := ⟨hv1, hv2⟩
        rw [if_pos hv] at hQ
        rw [if_pos hv2]
        obtain ⟨k, k1, k2, rfl⟩ := i32_le (a := 1) (b := 300) hv1 (by omega) (by omega)
        obtain ⟨w, w1, w2, rfl⟩ := i32_le (a := 0) (b := 3) hv2 (by omega) (by omega)
        rw [nI_clamp (by omega), nI_clamp (by omega)] at hQ
        refine pw_if_ne 27 dX11_fill_22 (by decide) (fun _ => ?_) (fun q => absurd q (by decide))
        refine pw_aload_n rfl dX11_fill_27 ?_
        refine pw_gI dX11_fill_28 fX11_72 (by first | rfl | assumption) rfl ?_
        rw [upF_n (by omega), a1]
        refine pw_iload_n rfl dX11_fill_31 ?_
        refine pw_iadd dX11_fill_32 ?_
        rw [nI_add]
        by_cases hf : s.1.1 + k ≤ 300
        · rw [if_pos hf, if_pos ⟨hv, hf⟩] at hQ
          refine pw_sipush 300 (by decide) dX11_fill_33 ?_
          refine pw_icmp_le 42 dX11_fill_36 (by decide) (fun _ => ?_) (fun q => absurd (nI_le (b := 300) hf (by omega)) q)
          refine pw_iload_n rfl dX11_fill_42 ?_
          refine ps_istore (l' := [_, _, _, _, _, _, _, _, _, _, _]) dX11_fill_43 (by decide) rfl rfl ?_
          refine pw_iconst 0 (by decide) dX11_fill_45 ?_
          refine ps_istore (l' := [_, _, _, _, _, _, _, _, _, _, _]) dX11_fill_46 (by decide) rfl rfl ?_
          refine pw_aload_n rfl dX11_fill_48 ?_
          refine pw_gI dX11_fill_49 fX11_72 (by first | rfl | assumption) rfl ?_
          rw [upF_n (by omega), a1]
          refine pw_iload_n rfl dX11_fill_52 ?_
          refine pw_iadd dX11_fill_53 ?_
          rw [nI_add]
          refine ps_istore (l' := [_, _, _, _, _, _, _, _, _, _, _]) dX11_fill_54 (by decide) rfl rfl ?_
          refine fm_loop9 (F := upF F 57 0 0) (A := A) hf (by omega) k s.1.1 0 sd s.1.2 _ A _ _ _ _ rfl rfl rfl rfl (by omega) (by omega) (by omega) (fun i j _ => rfl) (fun i _ => rfl) (by rw [upF_n (by omega)]; exact a1) a2 ?_
          intro F2 A2 hF2 hA2 h2 hS2
          exact hQ F2 A2 ⟨fun i j h => by rw [hF2 i j (by omega), upF_n (by omega)], fun i h => hA2 i (by omega)⟩ (MI_T hI (fun j hj h => by rw [hF2 57 j (by omega), upF_n (by omega)]) (fun i _ h => hA2 i h) ⟨h2, hS2⟩)
        · rw [if_neg hf, if_neg (fun z => hf z.2)] at hQ
          refine pw_sipush 300 (by decide) dX11_fill_33 ?_
          refine pw_icmp_le 42 dX11_fill_36 (by decide) (fun q => absurd q (nI_ge (a := 300) (by omega) (by omega))) (fun _ => ?_)
          refine pw_bipush (-2) (by decide) dX11_fill_39 ?_
          refine pw_iret dX11_fill_41 (Or.inl rfl) ?_
          exact hQ _ _ frM_0 (MI_0 hI)
      · have hv : ¬ ((1 ≤ n ∧ n ≤ 300) ∧ (0 ≤ hw ∧ hw ≤ 3)) := fun z => hv2 z.2
        rw [if_neg hv, if_neg (fun z => hv z.1)] at hQ
        rw [if_neg hv2]
        refine pw_if_ne 27 dX11_fill_22 (by decide) (fun q => absurd (rfl) q) (fun _ => ?_)
        refine pw_iconst (-1) (by decide) dX11_fill_25 ?_
        refine pw_iret dX11_fill_26 (Or.inl rfl) ?_
        exact hQ _ _ frM_0 (MI_0 hI)
    · have hv : ¬ ((1 ≤ n ∧ n ≤ 300) ∧ (0 ≤ hw ∧ hw ≤ 3)) := fun z => hv1 z.1
      rw [if_neg hv, if_neg (fun z => hv z.1)] at hQ
      rw [if_neg hv1]
      refine pw_if_eq 25 dX11_fill_13 (by decide) (fun _ => ?_) (fun q => absurd (rfl) q)
      refine pw_iconst (-1) (by decide) dX11_fill_25 ?_
      refine pw_iret dX11_fill_26 (Or.inl rfl) ?_
      exact hQ _ _ frM_0 (MI_0 hI)
  · intro s F A hO hI
    obtain ⟨o1, o2, o3⟩ := id hO
    by_cases h : ((1 ≤ n ∧ n ≤ 300) ∧ (0 ≤ hw ∧ hw ≤ 3)) ∧ s.1.1 + n.toNatClampNeg ≤ 300
    · rw [if_pos h]
      exact ⟨h.2, fil_B _ _ _ _ _ o2 (by omega) (by omega), o3⟩
    · rw [if_neg h]
      exact hO
end
