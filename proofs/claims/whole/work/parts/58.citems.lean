/-! the object's readItems -/
section
variable {Γ : Nat × (Nat → Int32)} {F A : Nat → Nat → Int32} {lo : Int64} {X : PH} {Q : Option Value → PH → Prop} {o n : Nat} {O : Nat → Int32}
theorem ci_loop {mt : Bool} {x1 : Int32} (hx1 : x1 = if mt = true then 125 else 126) (hO : OX F A o O) (ho : o ≤ 1024) (hB : isB O o) (hn : n ≤ 300) (hn0 : F 34 10 = nI n) (hp : F 34 9 = if mt = true then 4 else 1) : ∀ (k it : Nat) (b : BT) (F' A' : Nat → Nat → Int32) (g3 g4 : Value), g3.category = 1 → g4.category = 1 → it + k = n → frB F F' A A' → CB F' A' b → bk o n b →
    (∀ F' A', frB F F' A A' → CB F' A' (its O o n mt k b) → Q none (HS F' A' 3 lo X)) →
    PW Γ mX9_readItems 18 [.ref 34, .int x1, .int (nI it), g3, g4] [] (HS F' A' 3 lo X) 0 0 Q := by
  intro k
  induction k with
  | zero =>
    intro it b F' A' g3 g4 k3 k4 hit hfr hC hk hq
    have hi2 : it = n := by omega
    subst hi2
    refine pw_iload_n rfl dX9_readItems_18 ?_
    refine pw_aload_n rfl dX9_readItems_19 ?_
    refine pw_gI dX9_readItems_20 fX9_61 (by first | rfl | assumption) rfl ?_
    rw [hfr.1 34 10 (by omega) (by omega), hn0]
    refine pw_icmp_ge 146 dX9_readItems_23 (by decide) (fun _ => ?_) (fun q => absurd (nI_le (Nat.le_refl _) (by omega)) q)
    refine pw_vret dX9_readItems_146 rfl ?_
    exact hq F' A' hfr hC
  | succ k ih =>
    intro it b F' A' g3 g4 k3 k4 hit hfr hC hk hq
    obtain ⟨hR, g', c1, c2, c3⟩ := id hC
    have h34 : F' 34 10 = nI n := by rw [hfr.1 34 10 (by omega) (by omega)]; exact hn0
    have h349 : F' 34 9 = if mt = true then 4 else 1 := by rw [hfr.1 34 9 (by omega) (by omega)]; exact hp
    unfold its at hq
    refine pw_iload_n rfl dX9_readItems_18 ?_
    refine pw_aload_n rfl dX9_readItems_19 ?_
    refine pw_gI dX9_readItems_20 fX9_61 (by first | rfl | assumption) rfl ?_
    rw [h34]
    refine pw_icmp_ge 146 dX9_readItems_23 (by decide) (fun q => absurd q (nI_ge (by omega) (by omega))) (fun _ => ?_)
    refine pw_aload_n rfl dX9_readItems_26 ?_
    refine pw_gC dX9_readItems_27 fX9_47 (by first | rfl | assumption) rfl (by first | rfl | assumption) ?_
    refine pc_V0 dX9_readItems_30 lX9_123 rfl rfl (by decide) (Nat.le_of_ble_eq_true rfl) ?_
    refine c_count row49 ?_
    rw [c1]
    refine pw_aload_n rfl dX9_readItems_33 ?_
    refine pw_gI dX9_readItems_34 fX9_61 (by first | rfl | assumption) rfl ?_
    rw [h34]
    by_cases hg : g' < n
    · refine pw_icmp_ge 146 dX9_readItems_37 (by decide) (fun q => absurd q (nI_ge hg (by omega))) (fun _ => ?_)
      refine pw_aload_n rfl dX9_readItems_40 ?_
      refine pw_gC dX9_readItems_41 fX9_12 (by first | rfl | assumption) rfl (by first | rfl | assumption) ?_
      refine pc_V0 dX9_readItems_44 lX9_92 rfl rfl (by decide) (Nat.le_of_ble_eq_true rfl) ?_
      refine c_isFine hR hk.1.1 ?_
      by_cases h0 : b.1.1 = 0
      · obtain ⟨e1, e2⟩ := c3 h0
        rw [if_pos ⟨h0, by omega⟩] at hq
        rw [if_pos h0]
        have hv := nxV_lt hB (o := o) (r := b.1)
        have hmk := itM_ok (mt := mt) hv
        have hit1 := it1_ok (mt := mt) hB hk
        refine pw_if_eq 146 dX9_readItems_47 (by decide) (fun q => absurd q (by decide)) (fun _ => ?_)
        refine pw_aload_n rfl dX9_readItems_50 ?_
        refine pw_gC dX9_readItems_51 fX9_12 (by first | rfl | assumption) rfl (by first | rfl | assumption) ?_
        refine pc_V0 dX9_readItems_54 lX9_78 rfl rfl (by decide) (Nat.le_of_ble_eq_true rfl) ?_
        refine c_next (OX_B hO hfr) ho hB hR hk.1 ?_
        intro F1 hf1 hR1
        have hfr1 : frB F F1 A A' := frB_t hfr (frB_R hf1)
        have c11 : F1 49 1 = nI g' := by rw [hf1 _ _ (by omega)]; exact c1
        have h341 : F1 34 10 = nI n := by rw [hf1 _ _ (by omega)]; exact h34
        -- behind the item
        have back : ∀ (F2 A2 : Nat → Nat → Int32) (y4 : Value), y4.category = 1 → frB F F2 A A2 → CB F2 A2 (it1 O o n mt b) → PW Γ mX9_readItems 140 [.ref 34, .int x1, .int (nI it), .int (nI (nxV O o b.1)), y4] [] (HS F2 A2 3 lo X) 0 0 Q := by
          intro F2 A2 y4 hy4 hf2 hC2
          refine ps_iinc (l' := [_, _, _, _, _]) 1 dX9_readItems_140 (by decide) rfl (by decide) rfl rfl ?_
          refine pw_goto 18 dX9_readItems_143 (by decide) ?_
          rw [nI_1]
          exact ih (it + 1) _ F2 A2 _ _ rfl hy4 (by omega) hf2 hC2 hit1.1 hq
        -- the item's kind
        have kind : ∀ (F2 : Nat → Nat → Int32), frB F F2 A A' → RD F2 (itR O o n mt b) → F2 49 1 = nI g' → PW Γ mX9_readItems 101 [.ref 34, .int x1, .int (nI it), .int (nI (nxV O o b.1)), .int (nI (itM mt (nxV O o b.1)))] [] (HS F2 A' 3 lo X) 0 0 Q := by
          intro F2 hf2 hR2 c12
          have hro := itR_ok (O := O) (mt := mt) hk
          have hC2 : CB F2 A' (itR O o n mt b, b.2) := ⟨hR2, g', c12, c2, fun h => c3 (hro.2 h).1⟩
          have hk2 : bk o n (itR O o n mt b, b.2) := ⟨hro.1, fun h => hk.2 (hro.2 h).1⟩
          refine pw_iload_n rfl dX9_readItems_101 ?_
          refine pw_sipush 128 (by decide) dX9_readItems_102 ?_
          by_cases h128 : nxV O o b.1 < 128
          · refine pw_icmp_ge 117 dX9_readItems_105 (by decide) (fun q => absurd q (nI_ge (b := 128) h128 (by omega))) (fun _ => ?_)
            refine pw_aload_n rfl dX9_readItems_108 ?_
            refine pw_iload rfl dX9_readItems_109 ?_
            refine pc_V1 dX9_readItems_111 lX9_105 rfl rfl (by decide) (Nat.le_of_ble_eq_true rfl) ?_
            refine c_rcopy (b := (itR O o n mt b, b.2)) (OX_B hO hf2) ho hB hn hC2 hk2 (fun h => (hro.2 h).2.1) (by omega) ?_
            intro F3 A3 hf3 hC3
            refine pw_goto 140 dX9_readItems_114 (by decide) ?_
            refine back F3 A3 _ rfl (frB_t hf2 hf3) ?_
            unfold it1
            rw [if_pos h128]
            exact hC3
          · refine pw_icmp_ge 117 dX9_readItems_105 (by decide) (fun _ => ?_) (fun q => absurd (nI_le (a := 128) (by omega) (by omega)) q)
            refine pw_aload_n rfl dX9_readItems_117 ?_
            refine pw_gI dX9_readItems_118 fX9_58 (by first | rfl | assumption) rfl ?_
            rw [show F2 34 9 = if mt = true then 4 else 1 by rw [hf2.1 34 9 (by omega) (by omega)]; exact hp]
            cases mt with
            | false =>
              refine pw_iconst 1 (by decide) dX9_readItems_121 ?_
              refine pw_icmp_ne 134 dX9_readItems_122 (by decide) (fun q => absurd (rfl) q) (fun _ => ?_)
              refine pw_aload_n rfl dX9_readItems_125 ?_
              refine pw_iload rfl dX9_readItems_126 ?_
              refine pc_V1 dX9_readItems_128 lX9_125 rfl rfl (by decide) (Nat.le_of_ble_eq_true rfl) ?_
              refine c_repeat (b := (itR O o n false b, b.2)) (OX_B hO hf2) ho hB hn hC2 hk2 (fun h => (hro.2 h).2.1) (by omega) ?_
              intro F3 A3 hf3 hC3
              refine pw_goto 140 dX9_readItems_131 (by decide) ?_
              refine back F3 A3 _ rfl (frB_t hf2 hf3) ?_
              unfold it1
              rw [if_neg h128, if_neg (by decide)]
              exact hC3
            | true =>
              refine pw_iconst 1 (by decide) dX9_readItems_121 ?_
              refine pw_icmp_ne 134 dX9_readItems_122 (by decide) (fun _ => ?_) (fun q => absurd q (by decide))
              refine pw_aload_n rfl dX9_readItems_134 ?_
              refine pw_iload rfl dX9_readItems_135 ?_
              refine pc_V1 dX9_readItems_137 lX9_128 rfl rfl (by decide) (Nat.le_of_ble_eq_true rfl) ?_
              refine c_copyBack (b := (itR O o n true b, b.2)) (OX_B hO hf2) ho hB hn hC2 hk2 (fun h => (hro.2 h).2.1) (by omega) ?_
              intro F3 A3 hf3 hC3
              refine back F3 A3 _ rfl (frB_t hf2 hf3) ?_
              unfold it1
              rw [if_neg h128, if_pos rfl]
              exact hC3
        -- how many
        have many : PW Γ mX9_readItems 74 [.ref 34, .int x1, .int (nI it), .int (nI (nxV O o b.1)), g4] [.int (nI (itM mt (nxV O o b.1)))] (HS F1 A' 3 lo X) 0 0 Q := by
          refine ps_istore (l' := [_, _, _, _, _]) dX9_readItems_74 (by decide) rfl rfl ?_
          refine pw_iload rfl dX9_readItems_76 ?_
          refine pw_aload_n rfl dX9_readItems_78 ?_
          refine pw_gI dX9_readItems_79 fX9_61 (by first | rfl | assumption) rfl ?_
          rw [h341]
          refine pw_aload_n rfl dX9_readItems_82 ?_
          refine pw_gC dX9_readItems_83 fX9_47 (by first | rfl | assumption) rfl (by first | rfl | assumption) ?_
          refine pc_V0 dX9_readItems_86 lX9_123 rfl rfl (by decide) (Nat.le_of_ble_eq_true rfl) ?_
          refine c_count row49 ?_
          rw [c11]
          refine pw_isub dX9_readItems_89 ?_
          rw [pk_sub (by omega)]
          by_cases hfit : b.2.1 + itM mt (nxV O o b.1) ≤ n
          · refine pw_icmp_le 101 dX9_readItems_90 (by decide) (fun _ => ?_) (fun q => absurd (nI_le (by omega) (by omega)) q)
            refine kind F1 hfr1 ?_ c11
            unfold itR
            rw [if_pos hfit]
            exact hR1
          · refine pw_icmp_le 101 dX9_readItems_90 (by decide) (fun q => absurd q (nI_ge (by omega) (by omega))) (fun _ => ?_)
            refine pw_aload_n rfl dX9_readItems_93 ?_
            refine pw_gC dX9_readItems_94 fX9_12 (by first | rfl | assumption) rfl (by first | rfl | assumption) ?_
            refine pw_iconst 4 (by decide) dX9_readItems_97 ?_
            refine pc_V1 dX9_readItems_98 lX9_81 rfl rfl (by decide) (Nat.le_of_ble_eq_true rfl) ?_
            refine c_blame (w := 4) hR1 (nxS_rok hk.1).1 (by omega) (fun h => by rw [(nxS_0 h).2.2]; show 1 ≤ b.1.2.2 + 1; omega) ?_
            intro F2 hf2 hR2
            refine kind F2 (frB_t hfr1 (frB_R hf2)) ?_ (by rw [hf2 _ _ (by omega)]; exact c11)
            unfold itR
            rw [if_neg hfit]
            exact hR2
        refine ps_istore_n (l' := [_, _, _, _, _]) dX9_readItems_57 (by decide) rfl rfl ?_
        refine pw_iload_n rfl dX9_readItems_58 ?_
        refine pw_sipush 128 (by decide) dX9_readItems_59 ?_
        unfold itM at many
        by_cases h128 : nxV O o b.1 < 128
        · rw [if_pos h128] at many
          refine pw_icmp_ge 71 dX9_readItems_62 (by decide) (fun q => absurd q (nI_ge (b := 128) h128 (by omega))) (fun _ => ?_)
          refine pw_iload_n rfl dX9_readItems_65 ?_
          refine pw_iconst 1 (by decide) dX9_readItems_66 ?_
          refine pw_iadd dX9_readItems_67 ?_
          rw [nI_1]
          refine pw_goto 74 dX9_readItems_68 (by decide) ?_
          exact many
        · rw [if_neg h128] at many
          refine pw_icmp_ge 71 dX9_readItems_62 (by decide) (fun _ => ?_) (fun q => absurd (nI_le (a := 128) (by omega) (by omega)) q)
          refine pw_iload_n rfl dX9_readItems_71 ?_
          refine pw_iload_n rfl dX9_readItems_72 ?_
          cases mt with
          | false =>
            rw [if_neg (by decide)] at hx1 many
            rw [hx1, show (126 : Int32) = nI 126 from rfl]
            refine pw_isub dX9_readItems_73 ?_
            rw [pk_sub (by omega)]
            rw [hx1] at many
            exact many
          | true =>
            rw [if_pos rfl] at hx1 many
            rw [hx1, show (125 : Int32) = nI 125 from rfl]
            refine pw_isub dX9_readItems_73 ?_
            rw [pk_sub (by omega)]
            rw [hx1] at many
            exact many
      · rw [if_neg (fun z => h0 z.1)] at hq
        rw [if_neg h0]
        refine pw_if_eq 146 dX9_readItems_47 (by decide) (fun _ => ?_) (fun q => absurd (rfl) q)
        refine pw_vret dX9_readItems_146 rfl ?_
        exact hq F' A' hfr hC
    · refine pw_icmp_ge 146 dX9_readItems_37 (by decide) (fun _ => ?_) (fun q => absurd (nI_le (by omega) (by omega)) q)
      refine pw_vret dX9_readItems_146 rfl ?_
      rw [if_neg (fun z => by have := (c3 z.1).1; omega)] at hq
      exact hq F' A' hfr hC
theorem c_readItems {mt : Bool} {b : BT} (hO : OX F A o O) (ho : o ≤ 1024) (hB : isB O o) (hn : n ≤ 300) (hn0 : F 34 10 = nI n) (hp : F 34 9 = if mt = true then 4 else 1) (hC : CB F A b) (hk : bk o n b) (hQ : ∀ F' A', frB F F' A A' → CB F' A' (its O o n mt n b) → Q none (HS F' A' 3 lo X)) : PM Γ mX9_readItems [.ref 34] (HS F A 3 lo X) 0 0 Q := by
  refine PM.go (l := [_, .float 0, .float 0, .float 0, .float 0]) rfl rfl (Nat.le_of_ble_eq_true rfl) rfl ?_
  refine pw_aload_n rfl dX9_readItems_0 ?_
  refine pw_gI dX9_readItems_1 fX9_58 (by first | rfl | assumption) rfl ?_
  rw [hp]
  cases mt with
  | false =>
    refine pw_iconst 1 (by decide) dX9_readItems_4 ?_
    refine pw_icmp_ne 13 dX9_readItems_5 (by decide) (fun q => absurd (rfl) q) (fun _ => ?_)
    refine pw_bipush 126 (by decide) dX9_readItems_8 ?_
    refine pw_goto 15 dX9_readItems_10 (by decide) ?_
    refine ps_istore_n (l' := [_, _, _, _, _]) dX9_readItems_15 (by decide) rfl rfl ?_
    refine pw_iconst 0 (by decide) dX9_readItems_16 ?_
    refine ps_istore_n (l' := [_, _, _, _, _]) dX9_readItems_17 (by decide) rfl rfl ?_
    exact ci_loop (mt := false) (by rw [if_neg (by decide)]) hO ho hB hn hn0 hp n 0 b F A _ _ rfl rfl (by omega) frB_r hC hk hQ
  | true =>
    refine pw_iconst 1 (by decide) dX9_readItems_4 ?_
    refine pw_icmp_ne 13 dX9_readItems_5 (by decide) (fun _ => ?_) (fun q => absurd q (by decide))
    refine pw_bipush 125 (by decide) dX9_readItems_13 ?_
    refine ps_istore_n (l' := [_, _, _, _, _]) dX9_readItems_15 (by decide) rfl rfl ?_
    refine pw_iconst 0 (by decide) dX9_readItems_16 ?_
    refine ps_istore_n (l' := [_, _, _, _, _]) dX9_readItems_17 (by decide) rfl rfl ?_
    exact ci_loop (mt := true) (by rw [if_pos rfl]) hO ho hB hn hn0 hp n 0 b F A _ _ rfl rfl (by omega) frB_r hC hk hQ
end
