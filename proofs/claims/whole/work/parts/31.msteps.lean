/-! the reference's stepsOf -/
section
variable {Γ : Nat × (Nat → Int32)} {F A : Nat → Nat → Int32} {rf : Nat} {lo : Int64} {X : PH} {Q : Option Value → PH → Prop} {k P : Nat} {K V PK : Nat → Nat}
theorem m_stepsOf {x : Nat} (hC : CM F A k P K V PK) (hx : x < nch k P) (hQ : Q (some (.int (nI (stp k P K PK x)))) (HS (upP F (nI (PK (x % P))) (fo k (x / P)) (ft k (x / P))) A rf lo X)) : PM Γ mX11_stepsOf [.ref 57] (HS (upP F (nI (PK (x % P))) (fo k (x / P)) (ft k (x / P))) A rf lo X) 0 0 Q := by
  obtain ⟨h1, h2, h3, h4, h5, h6, h7, h8, h9⟩ := hC
  have hg := grp_lt h4 hx
  have hok := f_ok k h2 (x / P) hg
  have hpk := h8 _ (Nat.mod_lt x h4)
  unfold stp at hQ
  generalize x / P = g at hQ hg hok ⊢
  generalize PK (x % P) = q at hQ hpk ⊢
  have htp := tb_le q hpk
  -- the second FILTER
  have second : ∀ s (o : Int32), s ≤ 200 → Q (some (.int (nI (s + (if k < g then fst_ (K (f2 k g)) else 0))))) (HS (upP F (nI q) o (ft k g)) A rf lo X) →
      PW Γ mX11_stepsOf 71 [.ref 57, .int (nI s)] [] (HS (upP F (nI q) o (ft k g)) A rf lo X) 0 0 Q := by
    intro s o hs hq
    by_cases hgk : k < g
    · rw [if_pos hgk] at hq
      obtain ⟨p1, p2, p3⟩ := hok.2.1 hgk
      obtain ⟨r1, r2, r3⟩ := h6 _ p2
      rw [p3] at hq ⊢
      refine pw_iload_n rfl dX11_stepsOf_71 ?_
      refine pw_aload_n rfl dX11_stepsOf_72 ?_
      refine pw_gI dX11_stepsOf_73 fX11_103 (by first | rfl | assumption) rfl ?_
      rw [upP_t]
      refine pw_if_ge 83 dX11_stepsOf_76 (by decide) (fun _ => ?_) (fun q => absurd (nI_pos' (by omega)) q)
      refine pw_aload_n rfl dX11_stepsOf_83 ?_
      refine pw_gC dX11_stepsOf_84 fX11_16 (by first | rfl | assumption) rfl (by first | rfl | assumption) ?_
      refine pw_aload_n rfl dX11_stepsOf_87 ?_
      refine pw_gI dX11_stepsOf_88 fX11_103 (by first | rfl | assumption) rfl ?_
      rw [upP_t]
      refine pw_aI dX11_stepsOf_91 (by first | rfl | assumption) (by first | assumption | exact vp_in_nI (by omega) (by omega)) ?_
      refine pw_iconst 2 (by decide) dX11_stepsOf_92 ?_
      rw [nI_clamp (by omega), r1]
      generalize K (f2 k g) = kd at r3 hq ⊢
      rcases r3 with ⟨rfl, _⟩ | ⟨rfl, _⟩ | ⟨rfl, _⟩ | ⟨rfl, _⟩
      · rw [show fst_ 1 = 1 from rfl] at hq
        refine pw_icmp_ne 101 dX11_stepsOf_93 (by decide) (fun _ => ?_) (fun q => absurd q (by decide))
        refine pw_iconst 1 (by decide) dX11_stepsOf_101 ?_
        refine pw_iadd dX11_stepsOf_102 ?_
        refine pw_iret dX11_stepsOf_103 (Or.inl rfl) ?_
        rw [nI_1]
        exact hq
      · rw [show fst_ 2 = 16 from rfl] at hq
        refine pw_icmp_ne 101 dX11_stepsOf_93 (by decide) (fun q => absurd (rfl) q) (fun _ => ?_)
        refine pw_bipush 16 (by decide) dX11_stepsOf_96 ?_
        refine pw_goto 102 dX11_stepsOf_98 (by decide) ?_
        rw [show (16 : Int32) = nI 16 from rfl]
        refine pw_iadd dX11_stepsOf_102 ?_
        refine pw_iret dX11_stepsOf_103 (Or.inl rfl) ?_
        rw [nI_add]
        exact hq
      · rw [show fst_ 3 = 1 from rfl] at hq
        refine pw_icmp_ne 101 dX11_stepsOf_93 (by decide) (fun _ => ?_) (fun q => absurd q (by decide))
        refine pw_iconst 1 (by decide) dX11_stepsOf_101 ?_
        refine pw_iadd dX11_stepsOf_102 ?_
        refine pw_iret dX11_stepsOf_103 (Or.inl rfl) ?_
        rw [nI_1]
        exact hq
      · rw [show fst_ 4 = 1 from rfl] at hq
        refine pw_icmp_ne 101 dX11_stepsOf_93 (by decide) (fun _ => ?_) (fun q => absurd q (by decide))
        refine pw_iconst 1 (by decide) dX11_stepsOf_101 ?_
        refine pw_iadd dX11_stepsOf_102 ?_
        refine pw_iret dX11_stepsOf_103 (Or.inl rfl) ?_
        rw [nI_1]
        exact hq
    · rw [if_neg hgk] at hq
      rw [hok.2.2.2 (by omega)] at hq ⊢
      refine pw_iload_n rfl dX11_stepsOf_71 ?_
      refine pw_aload_n rfl dX11_stepsOf_72 ?_
      refine pw_gI dX11_stepsOf_73 fX11_103 (by first | rfl | assumption) rfl ?_
      rw [upP_t]
      refine pw_if_ge 83 dX11_stepsOf_76 (by decide) (fun q => absurd q (by decide)) (fun _ => ?_)
      refine pw_iconst 0 (by decide) dX11_stepsOf_79 ?_
      refine pw_goto 102 dX11_stepsOf_80 (by decide) ?_
      rw [show (0 : Int32) = nI 0 from rfl]
      refine pw_iadd dX11_stepsOf_102 ?_
      refine pw_iret dX11_stepsOf_103 (Or.inl rfl) ?_
      rw [nI_add]
      exact hq
  have first : ∀ s, s ≤ 100 → Q (some (.int (nI (s + (if 0 < g then fst_ (K (f1 k g)) else 0) + (if k < g then fst_ (K (f2 k g)) else 0))))) (HS (upP F (nI q) (fo k g) (ft k g)) A rf lo X) →
      PW Γ mX11_stepsOf 38 [.ref 57, .int (nI s)] [] (HS (upP F (nI q) (fo k g) (ft k g)) A rf lo X) 0 0 Q := by
    intro s hs hq
    by_cases hg0 : 0 < g
    · rw [if_pos hg0] at hq
      obtain ⟨o1, o2⟩ := hok.1 hg0
      obtain ⟨r1, r2, r3⟩ := h6 _ o1
      rw [o2] at hq ⊢
      refine pw_iload_n rfl dX11_stepsOf_38 ?_
      refine pw_aload_n rfl dX11_stepsOf_39 ?_
      refine pw_gI dX11_stepsOf_40 fX11_100 (by first | rfl | assumption) rfl ?_
      rw [upP_o]
      refine pw_if_ge 50 dX11_stepsOf_43 (by decide) (fun _ => ?_) (fun q => absurd (nI_pos' (by omega)) q)
      refine pw_aload_n rfl dX11_stepsOf_50 ?_
      refine pw_gC dX11_stepsOf_51 fX11_16 (by first | rfl | assumption) rfl (by first | rfl | assumption) ?_
      refine pw_aload_n rfl dX11_stepsOf_54 ?_
      refine pw_gI dX11_stepsOf_55 fX11_100 (by first | rfl | assumption) rfl ?_
      rw [upP_o]
      refine pw_aI dX11_stepsOf_58 (by first | rfl | assumption) (by first | assumption | exact vp_in_nI (by omega) (by omega)) ?_
      refine pw_iconst 2 (by decide) dX11_stepsOf_59 ?_
      rw [nI_clamp (by omega), r1]
      generalize K (f1 k g) = kd at r3 hq ⊢
      rcases r3 with ⟨rfl, _⟩ | ⟨rfl, _⟩ | ⟨rfl, _⟩ | ⟨rfl, _⟩
      · rw [show fst_ 1 = 1 from rfl] at hq
        refine pw_icmp_ne 68 dX11_stepsOf_60 (by decide) (fun _ => ?_) (fun q => absurd q (by decide))
        refine pw_iconst 1 (by decide) dX11_stepsOf_68 ?_
        refine pw_iadd dX11_stepsOf_69 ?_
        refine ps_istore_n (l' := [_, _]) dX11_stepsOf_70 (by decide) rfl rfl ?_
        rw [nI_1]
        exact second _ _ (by omega) hq
      · rw [show fst_ 2 = 16 from rfl] at hq
        refine pw_icmp_ne 68 dX11_stepsOf_60 (by decide) (fun q => absurd (rfl) q) (fun _ => ?_)
        refine pw_bipush 16 (by decide) dX11_stepsOf_63 ?_
        refine pw_goto 69 dX11_stepsOf_65 (by decide) ?_
        rw [show (16 : Int32) = nI 16 from rfl]
        refine pw_iadd dX11_stepsOf_69 ?_
        refine ps_istore_n (l' := [_, _]) dX11_stepsOf_70 (by decide) rfl rfl ?_
        rw [nI_add]
        exact second _ _ (by omega) hq
      · rw [show fst_ 3 = 1 from rfl] at hq
        refine pw_icmp_ne 68 dX11_stepsOf_60 (by decide) (fun _ => ?_) (fun q => absurd q (by decide))
        refine pw_iconst 1 (by decide) dX11_stepsOf_68 ?_
        refine pw_iadd dX11_stepsOf_69 ?_
        refine ps_istore_n (l' := [_, _]) dX11_stepsOf_70 (by decide) rfl rfl ?_
        rw [nI_1]
        exact second _ _ (by omega) hq
      · rw [show fst_ 4 = 1 from rfl] at hq
        refine pw_icmp_ne 68 dX11_stepsOf_60 (by decide) (fun _ => ?_) (fun q => absurd q (by decide))
        refine pw_iconst 1 (by decide) dX11_stepsOf_68 ?_
        refine pw_iadd dX11_stepsOf_69 ?_
        refine ps_istore_n (l' := [_, _]) dX11_stepsOf_70 (by decide) rfl rfl ?_
        rw [nI_1]
        exact second _ _ (by omega) hq
    · rw [if_neg hg0] at hq
      rw [hok.2.2.1 (by omega)] at hq ⊢
      refine pw_iload_n rfl dX11_stepsOf_38 ?_
      refine pw_aload_n rfl dX11_stepsOf_39 ?_
      refine pw_gI dX11_stepsOf_40 fX11_100 (by first | rfl | assumption) rfl ?_
      rw [upP_o]
      refine pw_if_ge 50 dX11_stepsOf_43 (by decide) (fun q => absurd q (by decide)) (fun _ => ?_)
      refine pw_iconst 0 (by decide) dX11_stepsOf_46 ?_
      refine pw_goto 69 dX11_stepsOf_47 (by decide) ?_
      rw [show (0 : Int32) = nI 0 from rfl]
      refine pw_iadd dX11_stepsOf_69 ?_
      refine ps_istore_n (l' := [_, _]) dX11_stepsOf_70 (by decide) rfl rfl ?_
      rw [nI_add]
      exact second _ _ (by omega) hq
  refine PM.go (l := [_, .float 0]) rfl rfl (Nat.le_of_ble_eq_true rfl) rfl ?_
  refine pw_aload_n rfl dX11_stepsOf_0 ?_
  refine pw_gI dX11_stepsOf_1 fX11_97 (by first | rfl | assumption) rfl ?_
  rw [upP_l]
  rcases (show q = 0 ∨ q = 1 ∨ q = 2 ∨ q = 3 ∨ q = 4 by omega) with rfl | rfl | rfl | rfl | rfl
  · refine pw_if_ne 11 dX11_stepsOf_4 (by decide) (fun q => absurd (rfl) q) (fun _ => ?_)
    refine pw_iconst 1 (by decide) dX11_stepsOf_7 ?_
    refine pw_goto 37 dX11_stepsOf_8 (by decide) ?_
    refine ps_istore_n (l' := [_, _]) dX11_stepsOf_37 (by decide) rfl rfl ?_
    rw [show pst 0 = 1 from rfl] at hQ
    exact first 1 (by omega) hQ
  · refine pw_if_ne 11 dX11_stepsOf_4 (by decide) (fun _ => ?_) (fun q => absurd q (by decide))
    refine pw_aload_n rfl dX11_stepsOf_11 ?_
    refine pw_gI dX11_stepsOf_12 fX11_97 (by first | rfl | assumption) rfl ?_
    rw [upP_l]
    refine pw_iconst 3 (by decide) dX11_stepsOf_15 ?_
    refine pw_icmp_ge 23 dX11_stepsOf_16 (by decide) (fun q => absurd q (by decide)) (fun _ => ?_)
    refine pw_iconst 2 (by decide) dX11_stepsOf_19 ?_
    refine pw_goto 37 dX11_stepsOf_20 (by decide) ?_
    refine ps_istore_n (l' := [_, _]) dX11_stepsOf_37 (by decide) rfl rfl ?_
    rw [show pst 1 = 2 from rfl] at hQ
    exact first 2 (by omega) hQ
  · refine pw_if_ne 11 dX11_stepsOf_4 (by decide) (fun _ => ?_) (fun q => absurd q (by decide))
    refine pw_aload_n rfl dX11_stepsOf_11 ?_
    refine pw_gI dX11_stepsOf_12 fX11_97 (by first | rfl | assumption) rfl ?_
    rw [upP_l]
    refine pw_iconst 3 (by decide) dX11_stepsOf_15 ?_
    refine pw_icmp_ge 23 dX11_stepsOf_16 (by decide) (fun q => absurd q (by decide)) (fun _ => ?_)
    refine pw_iconst 2 (by decide) dX11_stepsOf_19 ?_
    refine pw_goto 37 dX11_stepsOf_20 (by decide) ?_
    refine ps_istore_n (l' := [_, _]) dX11_stepsOf_37 (by decide) rfl rfl ?_
    rw [show pst 2 = 2 from rfl] at hQ
    exact first 2 (by omega) hQ
  · refine pw_if_ne 11 dX11_stepsOf_4 (by decide) (fun _ => ?_) (fun q => absurd q (by decide))
    refine pw_aload_n rfl dX11_stepsOf_11 ?_
    refine pw_gI dX11_stepsOf_12 fX11_97 (by first | rfl | assumption) rfl ?_
    rw [upP_l]
    refine pw_iconst 3 (by decide) dX11_stepsOf_15 ?_
    refine pw_icmp_ge 23 dX11_stepsOf_16 (by decide) (fun _ => ?_) (fun q => absurd (by decide) q)
    refine pw_aload_n rfl dX11_stepsOf_23 ?_
    refine pw_gI dX11_stepsOf_24 fX11_97 (by first | rfl | assumption) rfl ?_
    rw [upP_l]
    refine pw_iconst 3 (by decide) dX11_stepsOf_27 ?_
    refine pw_icmp_ne 35 dX11_stepsOf_28 (by decide) (fun q => absurd (rfl) q) (fun _ => ?_)
    refine pw_iconst 4 (by decide) dX11_stepsOf_31 ?_
    refine pw_goto 37 dX11_stepsOf_32 (by decide) ?_
    refine ps_istore_n (l' := [_, _]) dX11_stepsOf_37 (by decide) rfl rfl ?_
    rw [show pst 3 = 4 from rfl] at hQ
    exact first 4 (by omega) hQ
  · refine pw_if_ne 11 dX11_stepsOf_4 (by decide) (fun _ => ?_) (fun q => absurd q (by decide))
    refine pw_aload_n rfl dX11_stepsOf_11 ?_
    refine pw_gI dX11_stepsOf_12 fX11_97 (by first | rfl | assumption) rfl ?_
    rw [upP_l]
    refine pw_iconst 3 (by decide) dX11_stepsOf_15 ?_
    refine pw_icmp_ge 23 dX11_stepsOf_16 (by decide) (fun _ => ?_) (fun q => absurd (by decide) q)
    refine pw_aload_n rfl dX11_stepsOf_23 ?_
    refine pw_gI dX11_stepsOf_24 fX11_97 (by first | rfl | assumption) rfl ?_
    rw [upP_l]
    refine pw_iconst 3 (by decide) dX11_stepsOf_27 ?_
    refine pw_icmp_ne 35 dX11_stepsOf_28 (by decide) (fun _ => ?_) (fun q => absurd q (by decide))
    refine pw_bipush 64 (by decide) dX11_stepsOf_35 ?_
    refine ps_istore_n (l' := [_, _]) dX11_stepsOf_37 (by decide) rfl rfl ?_
    rw [show pst 4 = 64 from rfl] at hQ
    exact first 64 (by omega) hQ
end
