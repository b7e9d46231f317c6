/-! the reference's memoryOf -/
section
variable {Γ : Nat × (Nat → Int32)} {F A : Nat → Nat → Int32} {rf : Nat} {lo : Int64} {X : PH} {Q : Option Value → PH → Prop} {k P : Nat} {K V PK : Nat → Nat}
theorem m_memoryOf {x : Nat} (hC : CM F A k P K V PK) (hx : x < nch k P) (hQ : Q (some (.int (nI (mem_ k P K PK x)))) (HS (upP F (nI (PK (x % P))) (fo k (x / P)) (ft k (x / P))) A rf lo X)) : PM Γ mX11_memoryOf [.ref 57] (HS (upP F (nI (PK (x % P))) (fo k (x / P)) (ft k (x / P))) A rf lo X) 0 0 Q := by
  obtain ⟨h1, h2, h3, h4, h5, h6, h7, h8, h9⟩ := hC
  have hg := grp_lt h4 hx
  have hok := f_ok k h2 (x / P) hg
  have hpk := h8 _ (Nat.mod_lt x h4)
  unfold mem_ at hQ
  generalize x / P = g at hQ hg hok ⊢
  generalize PK (x % P) = q at hQ hpk ⊢
  have htp := tb_le q hpk
  -- the end: is FRONT among them
  have fin : ∀ (s fr : Nat) (o t : Int32), s ≤ 1024 → fr < 2 → Q (some (.int (nI (max s (256 * fr))))) (HS (upP F (nI q) o t) A rf lo X) →
      PW Γ mX11_memoryOf 89 [.ref 57, .int (nI s), .float 0] [.int (nI fr)] (HS (upP F (nI q) o t) A rf lo X) 0 0 Q := by
    intro s fr o t hs hfr hq
    rcases (show fr = 0 ∨ fr = 1 by omega) with rfl | rfl
    · refine ps_istore_n (l' := [_, _, _]) dX11_memoryOf_89 (by decide) rfl rfl ?_
      refine pw_iload_n rfl dX11_memoryOf_90 ?_
      refine pw_if_eq 107 dX11_memoryOf_91 (by decide) (fun _ => ?_) (fun q => absurd (rfl) q)
      refine pw_iload_n rfl dX11_memoryOf_107 ?_
      refine pw_iret dX11_memoryOf_108 (Or.inl rfl) ?_
      rw [Nat.mul_zero, Nat.max_zero] at hq
      exact hq
    · by_cases h256 : s < 256
      · refine ps_istore_n (l' := [_, _, _]) dX11_memoryOf_89 (by decide) rfl rfl ?_
        refine pw_iload_n rfl dX11_memoryOf_90 ?_
        refine pw_if_eq 107 dX11_memoryOf_91 (by decide) (fun q => absurd q (by decide)) (fun _ => ?_)
        refine pw_iload_n rfl dX11_memoryOf_94 ?_
        refine pw_sipush 256 (by decide) dX11_memoryOf_95 ?_
        refine pw_icmp_ge 107 dX11_memoryOf_98 (by decide) (fun q => absurd q (nI_ge (b := 256) h256 (by omega))) (fun _ => ?_)
        refine pw_sipush 256 (by decide) dX11_memoryOf_101 ?_
        refine pw_goto 108 dX11_memoryOf_104 (by decide) ?_
        refine pw_iret dX11_memoryOf_108 (Or.inl rfl) ?_
        rw [Nat.mul_one, Nat.max_eq_right (by omega)] at hq
        exact hq
      · refine ps_istore_n (l' := [_, _, _]) dX11_memoryOf_89 (by decide) rfl rfl ?_
        refine pw_iload_n rfl dX11_memoryOf_90 ?_
        refine pw_if_eq 107 dX11_memoryOf_91 (by decide) (fun q => absurd q (by decide)) (fun _ => ?_)
        refine pw_iload_n rfl dX11_memoryOf_94 ?_
        refine pw_sipush 256 (by decide) dX11_memoryOf_95 ?_
        refine pw_icmp_ge 107 dX11_memoryOf_98 (by decide) (fun _ => ?_) (fun q => absurd (nI_le (a := 256) (by omega) (by omega)) q)
        refine pw_iload_n rfl dX11_memoryOf_107 ?_
        refine pw_iret dX11_memoryOf_108 (Or.inl rfl) ?_
        rw [Nat.mul_one, Nat.max_eq_left (by omega)] at hq
        exact hq
  have second : ∀ s (o : Int32), s ≤ 1024 → Q (some (.int (nI (max s (if k < g then fme (K (f2 k g)) else 0))))) (HS (upP F (nI q) o (ft k g)) A rf lo X) →
      PW Γ mX11_memoryOf 64 [.ref 57, .int (nI s), .float 0] [] (HS (upP F (nI q) o (ft k g)) A rf lo X) 0 0 Q := by
    intro s o hs hq
    by_cases hgk : k < g
    · rw [if_pos hgk] at hq
      obtain ⟨p1, p2, p3⟩ := hok.2.1 hgk
      obtain ⟨r1, r2, r3⟩ := h6 _ p2
      rw [p3] at hq ⊢
      refine pw_aload_n rfl dX11_memoryOf_64 ?_
      refine pw_gI dX11_memoryOf_65 fX11_103 (by first | rfl | assumption) rfl ?_
      rw [upP_t]
      refine pw_if_lt 88 dX11_memoryOf_68 (by decide) (fun q => absurd q (nI_pos (by omega))) (fun _ => ?_)
      refine pw_aload_n rfl dX11_memoryOf_71 ?_
      refine pw_gC dX11_memoryOf_72 fX11_16 (by first | rfl | assumption) rfl (by first | rfl | assumption) ?_
      refine pw_aload_n rfl dX11_memoryOf_75 ?_
      refine pw_gI dX11_memoryOf_76 fX11_103 (by first | rfl | assumption) rfl ?_
      rw [upP_t]
      refine pw_aI dX11_memoryOf_79 (by first | rfl | assumption) (by first | assumption | exact vp_in_nI (by omega) (by omega)) ?_
      refine pw_iconst 2 (by decide) dX11_memoryOf_80 ?_
      rw [nI_clamp (by omega), r1]
      generalize K (f2 k g) = kd at r3 hq ⊢
      rcases r3 with ⟨rfl, _⟩ | ⟨rfl, _⟩ | ⟨rfl, _⟩ | ⟨rfl, _⟩
      · rw [show fme 1 = 0 from rfl] at hq
        refine pw_icmp_ne 88 dX11_memoryOf_81 (by decide) (fun _ => ?_) (fun q => absurd q (by decide))
        refine pw_iconst 0 (by decide) dX11_memoryOf_88 ?_
        exact fin s 0 _ _ hs (by omega) hq
      · rw [show fme 2 = 256 from rfl] at hq
        refine pw_icmp_ne 88 dX11_memoryOf_81 (by decide) (fun q => absurd (rfl) q) (fun _ => ?_)
        refine pw_iconst 1 (by decide) dX11_memoryOf_84 ?_
        refine pw_goto 89 dX11_memoryOf_85 (by decide) ?_
        exact fin s 1 _ _ hs (by omega) hq
      · rw [show fme 3 = 0 from rfl] at hq
        refine pw_icmp_ne 88 dX11_memoryOf_81 (by decide) (fun _ => ?_) (fun q => absurd q (by decide))
        refine pw_iconst 0 (by decide) dX11_memoryOf_88 ?_
        exact fin s 0 _ _ hs (by omega) hq
      · rw [show fme 4 = 0 from rfl] at hq
        refine pw_icmp_ne 88 dX11_memoryOf_81 (by decide) (fun _ => ?_) (fun q => absurd q (by decide))
        refine pw_iconst 0 (by decide) dX11_memoryOf_88 ?_
        exact fin s 0 _ _ hs (by omega) hq
    · rw [if_neg hgk] at hq
      rw [hok.2.2.2 (by omega)] at hq ⊢
      refine pw_aload_n rfl dX11_memoryOf_64 ?_
      refine pw_gI dX11_memoryOf_65 fX11_103 (by first | rfl | assumption) rfl ?_
      rw [upP_t]
      refine pw_if_lt 88 dX11_memoryOf_68 (by decide) (fun _ => ?_) (fun q => absurd (by decide) q)
      refine pw_iconst 0 (by decide) dX11_memoryOf_88 ?_
      exact fin s 0 _ _ hs (by omega) hq
  have first : ∀ s, s ≤ 1024 → Q (some (.int (nI (max (max s (if 0 < g then fme (K (f1 k g)) else 0)) (if k < g then fme (K (f2 k g)) else 0))))) (HS (upP F (nI q) (fo k g) (ft k g)) A rf lo X) →
      PW Γ mX11_memoryOf 44 [.ref 57, .int (nI s), .float 0] [] (HS (upP F (nI q) (fo k g) (ft k g)) A rf lo X) 0 0 Q := by
    intro s hs hq
    by_cases hg0 : 0 < g
    · rw [if_pos hg0] at hq
      obtain ⟨o1, o2⟩ := hok.1 hg0
      obtain ⟨r1, r2, r3⟩ := h6 _ o1
      rw [o2] at hq ⊢
      refine pw_aload_n rfl dX11_memoryOf_44 ?_
      refine pw_gI dX11_memoryOf_45 fX11_100 (by first | rfl | assumption) rfl ?_
      rw [upP_o]
      refine pw_if_lt 64 dX11_memoryOf_48 (by decide) (fun q => absurd q (nI_pos (by omega))) (fun _ => ?_)
      refine pw_aload_n rfl dX11_memoryOf_51 ?_
      refine pw_gC dX11_memoryOf_52 fX11_16 (by first | rfl | assumption) rfl (by first | rfl | assumption) ?_
      refine pw_aload_n rfl dX11_memoryOf_55 ?_
      refine pw_gI dX11_memoryOf_56 fX11_100 (by first | rfl | assumption) rfl ?_
      rw [upP_o]
      refine pw_aI dX11_memoryOf_59 (by first | rfl | assumption) (by first | assumption | exact vp_in_nI (by omega) (by omega)) ?_
      refine pw_iconst 2 (by decide) dX11_memoryOf_60 ?_
      rw [nI_clamp (by omega), r1]
      generalize K (f1 k g) = kd at r3 hq ⊢
      have m0 : ∀ z, max (max s 0) z = max s z := fun z => by rw [Nat.max_zero]
      rcases r3 with ⟨rfl, _⟩ | ⟨rfl, _⟩ | ⟨rfl, _⟩ | ⟨rfl, _⟩
      · rw [show fme 1 = 0 from rfl] at hq
        refine pw_icmp_eq 84 dX11_memoryOf_61 (by decide) (fun q => absurd q (by decide)) (fun _ => ?_)
        rw [m0] at hq
        exact second _ _ hs hq
      · rw [show fme 2 = 256 from rfl] at hq
        refine pw_icmp_eq 84 dX11_memoryOf_61 (by decide) (fun _ => ?_) (fun q => absurd (rfl) q)
        refine pw_iconst 1 (by decide) dX11_memoryOf_84 ?_
        refine pw_goto 89 dX11_memoryOf_85 (by decide) ?_
        refine fin s 1 _ _ hs (by omega) ?_
        have hb : (if k < g then fme (K (f2 k g)) else 0) ≤ 256 := by
          split
          · rename_i hgk
            obtain ⟨p1, p2, p3⟩ := hok.2.1 hgk
            exact (tb_le _ (fok_lt (h6 _ p2).2.2).1).2.2.2
          · omega
        have e : max (max s 256) (if k < g then fme (K (f2 k g)) else 0) = max s (256 * 1) := by
          omega
        rw [e] at hq
        exact hq
      · rw [show fme 3 = 0 from rfl] at hq
        refine pw_icmp_eq 84 dX11_memoryOf_61 (by decide) (fun q => absurd q (by decide)) (fun _ => ?_)
        rw [m0] at hq
        exact second _ _ hs hq
      · rw [show fme 4 = 0 from rfl] at hq
        refine pw_icmp_eq 84 dX11_memoryOf_61 (by decide) (fun q => absurd q (by decide)) (fun _ => ?_)
        rw [m0] at hq
        exact second _ _ hs hq
    · rw [if_neg hg0, Nat.max_zero] at hq
      rw [hok.2.2.1 (by omega)] at hq ⊢
      refine pw_aload_n rfl dX11_memoryOf_44 ?_
      refine pw_gI dX11_memoryOf_45 fX11_100 (by first | rfl | assumption) rfl ?_
      rw [upP_o]
      refine pw_if_lt 64 dX11_memoryOf_48 (by decide) (fun _ => ?_) (fun q => absurd (by decide) q)
      exact second _ _ hs hq
  refine PM.go (l := [_, .float 0, .float 0]) rfl rfl (Nat.le_of_ble_eq_true rfl) rfl ?_
  refine pw_aload_n rfl dX11_memoryOf_0 ?_
  refine pw_gI dX11_memoryOf_1 fX11_97 (by first | rfl | assumption) rfl ?_
  refine pw_iconst 2 (by decide) dX11_memoryOf_4 ?_
  rw [upP_l]
  rcases (show q = 0 ∨ q = 1 ∨ q = 2 ∨ q = 3 ∨ q = 4 by omega) with rfl | rfl | rfl | rfl | rfl
  · refine pw_icmp_ne 14 dX11_memoryOf_5 (by decide) (fun _ => ?_) (fun q => absurd q (by decide))
    refine pw_aload_n rfl dX11_memoryOf_14 ?_
    refine pw_gI dX11_memoryOf_15 fX11_97 (by first | rfl | assumption) rfl ?_
    rw [upP_l]
    refine pw_iconst 3 (by decide) dX11_memoryOf_18 ?_
    refine pw_icmp_ne 28 dX11_memoryOf_19 (by decide) (fun _ => ?_) (fun q => absurd q (by decide))
    refine pw_aload_n rfl dX11_memoryOf_28 ?_
    refine pw_gI dX11_memoryOf_29 fX11_97 (by first | rfl | assumption) rfl ?_
    rw [upP_l]
    refine pw_iconst 4 (by decide) dX11_memoryOf_32 ?_
    refine pw_icmp_ne 42 dX11_memoryOf_33 (by decide) (fun _ => ?_) (fun q => absurd q (by decide))
    refine pw_iconst 0 (by decide) dX11_memoryOf_42 ?_
    refine ps_istore_n (l' := [_, _, _]) dX11_memoryOf_43 (by decide) rfl rfl ?_
    rw [show pme 0 = 0 from rfl] at hQ
    exact first 0 (by omega) hQ
  · refine pw_icmp_ne 14 dX11_memoryOf_5 (by decide) (fun _ => ?_) (fun q => absurd q (by decide))
    refine pw_aload_n rfl dX11_memoryOf_14 ?_
    refine pw_gI dX11_memoryOf_15 fX11_97 (by first | rfl | assumption) rfl ?_
    rw [upP_l]
    refine pw_iconst 3 (by decide) dX11_memoryOf_18 ?_
    refine pw_icmp_ne 28 dX11_memoryOf_19 (by decide) (fun _ => ?_) (fun q => absurd q (by decide))
    refine pw_aload_n rfl dX11_memoryOf_28 ?_
    refine pw_gI dX11_memoryOf_29 fX11_97 (by first | rfl | assumption) rfl ?_
    rw [upP_l]
    refine pw_iconst 4 (by decide) dX11_memoryOf_32 ?_
    refine pw_icmp_ne 42 dX11_memoryOf_33 (by decide) (fun _ => ?_) (fun q => absurd q (by decide))
    refine pw_iconst 0 (by decide) dX11_memoryOf_42 ?_
    refine ps_istore_n (l' := [_, _, _]) dX11_memoryOf_43 (by decide) rfl rfl ?_
    rw [show pme 1 = 0 from rfl] at hQ
    exact first 0 (by omega) hQ
  · refine pw_icmp_ne 14 dX11_memoryOf_5 (by decide) (fun q => absurd (rfl) q) (fun _ => ?_)
    refine pw_sipush 256 (by decide) dX11_memoryOf_8 ?_
    refine pw_goto 43 dX11_memoryOf_11 (by decide) ?_
    refine ps_istore_n (l' := [_, _, _]) dX11_memoryOf_43 (by decide) rfl rfl ?_
    rw [show pme 2 = 256 from rfl] at hQ
    exact first 256 (by omega) hQ
  · refine pw_icmp_ne 14 dX11_memoryOf_5 (by decide) (fun _ => ?_) (fun q => absurd q (by decide))
    refine pw_aload_n rfl dX11_memoryOf_14 ?_
    refine pw_gI dX11_memoryOf_15 fX11_97 (by first | rfl | assumption) rfl ?_
    rw [upP_l]
    refine pw_iconst 3 (by decide) dX11_memoryOf_18 ?_
    refine pw_icmp_ne 28 dX11_memoryOf_19 (by decide) (fun q => absurd (rfl) q) (fun _ => ?_)
    refine pw_sipush 1024 (by decide) dX11_memoryOf_22 ?_
    refine pw_goto 43 dX11_memoryOf_25 (by decide) ?_
    refine ps_istore_n (l' := [_, _, _]) dX11_memoryOf_43 (by decide) rfl rfl ?_
    rw [show pme 3 = 1024 from rfl] at hQ
    exact first 1024 (by omega) hQ
  · refine pw_icmp_ne 14 dX11_memoryOf_5 (by decide) (fun _ => ?_) (fun q => absurd q (by decide))
    refine pw_aload_n rfl dX11_memoryOf_14 ?_
    refine pw_gI dX11_memoryOf_15 fX11_97 (by first | rfl | assumption) rfl ?_
    rw [upP_l]
    refine pw_iconst 3 (by decide) dX11_memoryOf_18 ?_
    refine pw_icmp_ne 28 dX11_memoryOf_19 (by decide) (fun _ => ?_) (fun q => absurd q (by decide))
    refine pw_aload_n rfl dX11_memoryOf_28 ?_
    refine pw_gI dX11_memoryOf_29 fX11_97 (by first | rfl | assumption) rfl ?_
    rw [upP_l]
    refine pw_iconst 4 (by decide) dX11_memoryOf_32 ?_
    refine pw_icmp_ne 42 dX11_memoryOf_33 (by decide) (fun q => absurd (rfl) q) (fun _ => ?_)
    refine pw_sipush 512 (by decide) dX11_memoryOf_36 ?_
    refine pw_goto 43 dX11_memoryOf_39 (by decide) ?_
    refine ps_istore_n (l' := [_, _, _]) dX11_memoryOf_43 (by decide) rfl rfl ?_
    rw [show pme 4 = 512 from rfl] at hQ
    exact first 512 (by omega) hQ
end
