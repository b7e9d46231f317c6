/-! how often each byte stands in a row: Row.countInto, the reference's countBytes; widths -/
section
variable {Γ : Nat × (Nat → Int32)} {F A : Nat → Nat → Int32} {rf : Nat} {lo : Int64} {X : PH} {Q : Option Value → PH → Prop} {r c cap n : Nat}
theorem cpn_lt {f g : Nat → Int32} {m j : Nat} (h : j < m) : cpn f g m j = f j := by simp [cpn, h]
theorem cpn_ge {f g : Nat → Int32} {m j : Nat} (h : ¬ j < m) : cpn f g m j = g j := by simp [cpn, h]
theorem cin_loop {a : Nat} {g0 : Nat → Int32} (hr : isRow r c cap) (ha : shp[a]? = some (.inl 256)) (hac : ¬ c = a) (hn : F r 1 = nI n) (hN : n ≤ cap) (hB : isB (A c) n) : ∀ (k i : Nat) (g : Value), i + k = n →
    (∀ g, PW Γ mX6_countInto 64 [.ref r, .ref a, .int (nI (unl (A c) n)), .int (nI n), g] [] (HS F (stA A a (cpn (tbl (A c) n) g0 256)) rf lo X) 0 0 Q) →
    PW Γ mX6_countInto 9 [.ref r, .ref a, .int (nI (unl (A c) i)), .int (nI i), g] [] (HS F (stA A a (cpn (tbl (A c) i) g0 256)) rf lo X) 0 0 Q := by
  obtain ⟨h1, h2, h9, hc⟩ := hr
  intro k
  induction k with
  | zero =>
    intro i g hi hk
    have hi : i = n := by omega
    subst hi
    refine pw_iload_n rfl dX6_countInto_9 ?_
    refine pw_aload_n rfl dX6_countInto_10 ?_
    refine pw_gI dX6_countInto_11 fX6_7 (by first | rfl | assumption) rfl ?_
    refine pw_icmp_ge 64 dX6_countInto_14 (by decide) (fun _ => ?_) (fun q => absurd (by rw [hn]; exact nI_le (Nat.le_refl _) (by omega)) q)
    exact hk g
  | succ k ih =>
    intro i g hi hk
    obtain ⟨b, hb, hfb⟩ := hB i (by omega)
    have hle := cnt_le (A c) i b
    have hun := unl_le (A c) i
    refine pw_iload_n rfl dX6_countInto_9 ?_
    refine pw_aload_n rfl dX6_countInto_10 ?_
    refine pw_gI dX6_countInto_11 fX6_7 (by first | rfl | assumption) rfl ?_
    refine pw_icmp_ge 64 dX6_countInto_14 (by decide) (fun q => absurd q (by rw [hn]; exact nI_ge (by omega) (by omega))) (fun _ => ?_)
    refine pw_aload_n rfl dX6_countInto_17 ?_
    refine pw_gC dX6_countInto_18 fX6_13 (by first | rfl | assumption) rfl (by first | rfl | assumption) ?_
    refine pw_iload_n rfl dX6_countInto_21 ?_
    refine pw_aI dX6_countInto_22 (by first | rfl | assumption) (by first | assumption | exact vp_in_nI (by omega) (by omega)) ?_
    rw [stA_n hac, nI_clamp (by omega), hfb]
    refine ps_istore (l' := [_, _, _, _, _]) dX6_countInto_23 (by decide) rfl rfl ?_
    refine pw_iload rfl dX6_countInto_25 ?_
    refine pw_if_lt 58 dX6_countInto_27 (by decide) (fun q => absurd q (nI_pos (by omega))) (fun _ => ?_)
    refine pw_iload rfl dX6_countInto_30 ?_
    refine pw_aload_n rfl dX6_countInto_32 ?_
    refine pw_lI (nI _) dX6_countInto_33 (by first | rfl | assumption) rfl ?_
    refine pw_icmp_lt 40 dX6_countInto_34 (by decide) (fun _ => ?_) (fun q => absurd (nI_lt hb (by omega)) q)
    refine pw_aload_n rfl dX6_countInto_40 ?_
    refine pw_iload rfl dX6_countInto_41 ?_
    refine pw_aI dX6_countInto_43 (by first | rfl | assumption) (by first | assumption | exact vp_in_nI (by omega) (by omega)) ?_
    rw [stA_s, nI_clamp (by omega), cpn_lt hb]
    have key : PW Γ mX6_countInto 50 [.ref r, .ref a, .int (nI (unl (A c) (i + 1))), .int (nI i), .int (nI b)] [] (HS F (stA A a (cpn (tbl (A c) i) g0 256)) rf lo X) 0 0 Q := by
      refine pw_aload_n rfl dX6_countInto_50 ?_
      refine pw_iload rfl dX6_countInto_51 ?_
      refine pw_dup2 rfl rfl dX6_countInto_53 ?_
      refine pw_aI dX6_countInto_54 (by first | rfl | assumption) (by first | assumption | exact vp_in_nI (by omega) (by omega)) ?_
      refine pw_iconst 1 (by decide) dX6_countInto_55 ?_
      refine pw_iadd dX6_countInto_56 ?_
      refine pw_sI dX6_countInto_57 (by first | rfl | assumption) (by first | assumption | exact vp_in_nI (by omega) (by omega)) ?_
      refine ps_iinc (l' := [_, _, _, _, _]) 1 dX6_countInto_58 (by decide) rfl (by decide) rfl rfl ?_
      refine pw_goto 9 dX6_countInto_61 (by decide) ?_
      rw [stA_s, nI_clamp (by omega), cpn_lt hb, tbl_step hb hfb, stA_stA, nI_1]
      exact ih (i + 1) _ (by omega) hk
    rw [unl_step hb hfb] at key
    by_cases h0 : cnt (A c) i b = 0
    · refine pw_if_ne 50 dX6_countInto_44 (by decide) (fun q => absurd (by unfold tbl; rw [h0]; rfl) q) (fun _ => ?_)
      refine ps_iinc (l' := [_, _, _, _, _]) 1 dX6_countInto_47 (by decide) rfl (by decide) rfl rfl ?_
      rw [nI_1]
      rw [if_pos h0] at key
      exact key
    · refine pw_if_ne 50 dX6_countInto_44 (by decide) (fun _ => ?_) (fun q => absurd q (nI_ne0 (n := cnt (A c) i b) (by omega) (by omega)))
      rw [if_neg h0, Nat.add_zero] at key
      exact key
theorem c_countInto {a : Nat} (hr : isRow r c cap) (ha : shp[a]? = some (.inl 256)) (hac : ¬ c = a) (hn : F r 1 = nI n) (hN : n ≤ cap) (hB : isB (A c) n) (hQ : Q (some (.int (nI (unl (A c) n)))) (HS F (stA A a (cpn (tbl (A c) n) (A a) 256)) rf lo X)) : PM Γ mX6_countInto [.ref r, .ref a] (HS F A rf lo X) 0 0 Q := by
  refine PM.go (l := [_, _, .float 0, .float 0, .float 0]) rfl rfl (Nat.le_of_ble_eq_true rfl) rfl ?_
  refine pw_aload_n rfl dX6_countInto_0 ?_
  refine pw_iconst 0 (by decide) dX6_countInto_1 ?_
  refine pc_S2 dX6_countInto_2 lX6_29 (by decide) (Nat.le_of_ble_eq_true rfl) ?_
  refine c_fill ha (by omega) ?_
  refine pw_iconst 0 (by decide) dX6_countInto_5 ?_
  refine ps_istore_n (l' := [_, _, _, _, _]) dX6_countInto_6 (by decide) rfl rfl ?_
  refine pw_iconst 0 (by decide) dX6_countInto_7 ?_
  refine ps_istore_n (l' := [_, _, _, _, _]) dX6_countInto_8 (by decide) rfl rfl ?_
  have e : cpn (fun _ => 0) (A a) 256 = cpn (tbl (A c) 0) (A a) 256 := rfl
  rw [e]
  refine cin_loop hr ha hac hn hN hB n 0 _ (by omega) (fun g => ?_)
  refine pw_iload_n rfl dX6_countInto_64 ?_
  refine pw_iret dX6_countInto_65 (Or.inl rfl) ?_
  exact hQ
theorem cby_fill {u : Int32} {n : Int32} : ∀ (k i : Nat), i + k = 256 →
    PW Γ mX11_countBytes 24 [.ref 57, .int n, .int u, .int (nI 256)] [] (HS F (stA A 66 (cpn (fun _ => 0) (A 66) 256)) rf lo X) 0 0 Q →
    PW Γ mX11_countBytes 4 [.ref 57, .int n, .int u, .int (nI i)] [] (HS F (stA A 66 (cpn (fun _ => 0) (A 66) i)) rf lo X) 0 0 Q := by
  intro k
  induction k with
  | zero =>
    intro i hi hk
    have hi : i = 256 := by omega
    subst hi
    refine pw_iload_n rfl dX11_countBytes_4 ?_
    refine pw_sipush 256 (by decide) dX11_countBytes_5 ?_
    refine pw_icmp_ge 24 dX11_countBytes_8 (by decide) (fun _ => ?_) (fun q => absurd (by decide) q)
    exact hk
  | succ k ih =>
    intro i hi hk
    refine pw_iload_n rfl dX11_countBytes_4 ?_
    refine pw_sipush 256 (by decide) dX11_countBytes_5 ?_
    refine pw_icmp_ge 24 dX11_countBytes_8 (by decide) (fun q => absurd q (nI_ge (b := 256) (by omega) (by omega))) (fun _ => ?_)
    refine pw_aload_n rfl dX11_countBytes_11 ?_
    refine pw_gC dX11_countBytes_12 fX11_34 (by first | rfl | assumption) rfl (by first | rfl | assumption) ?_
    refine pw_iload_n rfl dX11_countBytes_15 ?_
    refine pw_iconst 0 (by decide) dX11_countBytes_16 ?_
    refine pw_sI dX11_countBytes_17 (by first | rfl | assumption) (by first | assumption | exact vp_in_nI (by omega) (by omega)) ?_
    refine ps_iinc (l' := [_, _, _, _]) 1 dX11_countBytes_18 (by decide) rfl (by decide) rfl rfl ?_
    refine pw_goto 4 dX11_countBytes_21 (by decide) ?_
    rw [nI_clamp (by omega), stA_s, cpn_step rfl, stA_stA, nI_1]
    exact ih (i + 1) (by omega) hk
theorem cby_loop {g0 : Nat → Int32} (hN : n ≤ 300) (hB : isB (A 63) n) : ∀ (k i : Nat), i + k = n →
    PW Γ mX11_countBytes 74 [.ref 57, .int (nI n), .int (nI (unl (A 63) n)), .int (nI n)] [] (HS F (stA A 66 (cpn (tbl (A 63) n) g0 256)) rf lo X) 0 0 Q →
    PW Γ mX11_countBytes 26 [.ref 57, .int (nI n), .int (nI (unl (A 63) i)), .int (nI i)] [] (HS F (stA A 66 (cpn (tbl (A 63) i) g0 256)) rf lo X) 0 0 Q := by
  intro k
  induction k with
  | zero =>
    intro i hi hk
    have hi : i = n := by omega
    subst hi
    refine pw_iload_n rfl dX11_countBytes_26 ?_
    refine pw_iload_n rfl dX11_countBytes_27 ?_
    refine pw_icmp_ge 74 dX11_countBytes_28 (by decide) (fun _ => ?_) (fun q => absurd (nI_le (Nat.le_refl _) (by omega)) q)
    exact hk
  | succ k ih =>
    intro i hi hk
    obtain ⟨b, hb, hfb⟩ := hB i (by omega)
    have hle := cnt_le (A 63) i b
    have hun := unl_le (A 63) i
    refine pw_iload_n rfl dX11_countBytes_26 ?_
    refine pw_iload_n rfl dX11_countBytes_27 ?_
    refine pw_icmp_ge 74 dX11_countBytes_28 (by decide) (fun q => absurd q (nI_ge (by omega) (by omega))) (fun _ => ?_)
    refine pw_iload_n rfl dX11_countBytes_31 ?_
    refine pw_aload_n rfl dX11_countBytes_32 ?_
    refine pw_gC dX11_countBytes_33 fX11_34 (by first | rfl | assumption) rfl (by first | rfl | assumption) ?_
    refine pw_aload_n rfl dX11_countBytes_36 ?_
    refine pw_gC dX11_countBytes_37 fX11_25 (by first | rfl | assumption) rfl (by first | rfl | assumption) ?_
    refine pw_iload_n rfl dX11_countBytes_40 ?_
    refine pw_aI dX11_countBytes_41 (by first | rfl | assumption) (by first | assumption | exact vp_in_nI (by omega) (by omega)) ?_
    rw [stA_n (by decide), nI_clamp (by omega), hfb]
    refine pw_aI dX11_countBytes_42 (by first | rfl | assumption) (by first | assumption | exact vp_in_nI (by omega) (by omega)) ?_
    rw [stA_s, nI_clamp (by omega), cpn_lt hb]
    have key : PW Γ mX11_countBytes 53 [.ref 57, .int (nI n), .int (nI (unl (A 63) (i + 1))), .int (nI i)] [] (HS F (stA A 66 (cpn (tbl (A 63) i) g0 256)) rf lo X) 0 0 Q := by
      refine pw_aload_n rfl dX11_countBytes_53 ?_
      refine pw_gC dX11_countBytes_54 fX11_34 (by first | rfl | assumption) rfl (by first | rfl | assumption) ?_
      refine pw_aload_n rfl dX11_countBytes_57 ?_
      refine pw_gC dX11_countBytes_58 fX11_25 (by first | rfl | assumption) rfl (by first | rfl | assumption) ?_
      refine pw_iload_n rfl dX11_countBytes_61 ?_
      refine pw_aI dX11_countBytes_62 (by first | rfl | assumption) (by first | assumption | exact vp_in_nI (by omega) (by omega)) ?_
      rw [stA_n (by decide), nI_clamp (by omega), hfb]
      refine pw_dup2 rfl rfl dX11_countBytes_63 ?_
      refine pw_aI dX11_countBytes_64 (by first | rfl | assumption) (by first | assumption | exact vp_in_nI (by omega) (by omega)) ?_
      refine pw_iconst 1 (by decide) dX11_countBytes_65 ?_
      refine pw_iadd dX11_countBytes_66 ?_
      refine pw_sI dX11_countBytes_67 (by first | rfl | assumption) (by first | assumption | exact vp_in_nI (by omega) (by omega)) ?_
      refine ps_iinc (l' := [_, _, _, _]) 1 dX11_countBytes_68 (by decide) rfl (by decide) rfl rfl ?_
      refine pw_goto 26 dX11_countBytes_71 (by decide) ?_
      rw [stA_s, nI_clamp (by omega), cpn_lt hb, tbl_step hb hfb, stA_stA, nI_1]
      exact ih (i + 1) (by omega) hk
    rw [unl_step hb hfb] at key
    by_cases h0 : cnt (A 63) i b = 0
    · refine pw_if_ne 50 dX11_countBytes_43 (by decide) (fun q => absurd (by unfold tbl; rw [h0]; rfl) q) (fun _ => ?_)
      refine pw_iconst 1 (by decide) dX11_countBytes_46 ?_
      refine pw_goto 51 dX11_countBytes_47 (by decide) ?_
      refine pw_iadd dX11_countBytes_51 ?_
      refine ps_istore_n (l' := [_, _, _, _]) dX11_countBytes_52 (by decide) rfl rfl ?_
      rw [nI_1]
      rw [if_pos h0] at key
      exact key
    · refine pw_if_ne 50 dX11_countBytes_43 (by decide) (fun _ => ?_) (fun q => absurd q (nI_ne0 (n := cnt (A 63) i b) (by omega) (by omega)))
      refine pw_iconst 0 (by decide) dX11_countBytes_50 ?_
      refine pw_iadd dX11_countBytes_51 ?_
      refine ps_istore_n (l' := [_, _, _, _]) dX11_countBytes_52 (by decide) rfl rfl ?_
      rw [if_neg h0, Nat.add_zero] at key
      rw [show nI (unl (A 63) i) + 0 = nI (unl (A 63) i) from nI_add _ 0]
      exact key
theorem m_countBytes (hN : n ≤ 300) (hB : isB (A 63) n) (hQ : Q (some (.int (nI (unl (A 63) n)))) (HS F (stA A 66 (cpn (tbl (A 63) n) (A 66) 256)) rf lo X)) : PM Γ mX11_countBytes [.ref 57, .int (nI n)] (HS F A rf lo X) 0 0 Q := by
  refine PM.go (l := [_, _, .float 0, .float 0]) rfl rfl (Nat.le_of_ble_eq_true rfl) rfl ?_
  refine pw_iconst 0 (by decide) dX11_countBytes_0 ?_
  refine ps_istore_n (l' := [_, _, _, _]) dX11_countBytes_1 (by decide) rfl rfl ?_
  refine pw_iconst 0 (by decide) dX11_countBytes_2 ?_
  refine ps_istore_n (l' := [_, _, _, _]) dX11_countBytes_3 (by decide) rfl rfl ?_
  have e : HS F A rf lo X = HS F (stA A 66 (cpn (fun _ => 0) (A 66) 0)) rf lo X := by rw [stA_self cpn_0]
  rw [e]
  refine cby_fill 256 0 (by omega) ?_
  refine pw_iconst 0 (by decide) dX11_countBytes_24 ?_
  refine ps_istore_n (l' := [_, _, _, _]) dX11_countBytes_25 (by decide) rfl rfl ?_
  have e : cpn (fun _ => 0) (A 66) 256 = cpn (tbl (A 63) 0) (A 66) 256 := rfl
  rw [e]
  refine cby_loop hN hB n 0 (by omega) ?_
  refine pw_iload_n rfl dX11_countBytes_74 ?_
  refine pw_iret dX11_countBytes_75 (Or.inl rfl) ?_
  exact hQ
end
