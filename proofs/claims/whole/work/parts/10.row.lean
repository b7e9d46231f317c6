/-! Row: r its cell, c its row of ints, cap how many places it has -/
def isRow (r c cap : Nat) : Prop := shp[r]? = some (.inr (6, [some c, none])) ∧ shp[c]? = some (.inl cap) ∧ (c == 999) = false ∧ cap < 2000
section
variable {Γ : Nat × (Nat → Int32)} {F A : Nat → Nat → Int32} {rf : Nat} {lo : Int64} {X : PH} {Q : Option Value → PH → Prop} {r c cap n : Nat}
theorem c_count (hr : isRow r c cap) (hQ : Q (some (.int (F r 1))) (HS F A rf lo X)) : PM Γ mX6_count [.ref r] (HS F A rf lo X) 0 0 Q := by
  obtain ⟨h1, h2, h9, hc⟩ := hr
  refine PM.go (l := [_]) rfl rfl (Nat.le_of_ble_eq_true rfl) rfl ?_
  refine pw_aload_n rfl dX6_count_0 ?_
  refine pw_gI dX6_count_1 fX6_7 (by first | rfl | assumption) rfl ?_
  refine pw_iret dX6_count_4 (Or.inl rfl) ?_
  exact hQ
theorem c_has {x : Int32} (hr : isRow r c cap) (hQ : Q (some (.int (if 0 ≤ x ∧ x < F r 1 then 1 else 0))) (HS F A rf lo X)) : PM Γ mX6_has [.ref r, .int x] (HS F A rf lo X) 0 0 Q := by
  obtain ⟨h1, h2, h9, hc⟩ := hr
  refine PM.go (l := [_, _]) rfl rfl (Nat.le_of_ble_eq_true rfl) rfl ?_
  refine pw_iload_n rfl dX6_has_0 ?_
  refine pw_if_lt 16 dX6_has_1 (by decide) (fun q1 => ?_) (fun q1 => ?_)
  · refine pw_iconst 0 (by decide) dX6_has_16 ?_
    refine pw_iret dX6_has_17 (Or.inr ⟨rfl, rfl⟩) ?_
    rw [if_neg (fun z => Int32.not_le.mpr q1 z.1)] at hQ
    exact hQ
  · refine pw_iload_n rfl dX6_has_4 ?_
    refine pw_aload_n rfl dX6_has_5 ?_
    refine pw_gI dX6_has_6 fX6_7 (by first | rfl | assumption) rfl ?_
    refine pw_icmp_ge 16 dX6_has_9 (by decide) (fun q9 => ?_) (fun q9 => ?_)
    · refine pw_iconst 0 (by decide) dX6_has_16 ?_
      refine pw_iret dX6_has_17 (Or.inr ⟨rfl, rfl⟩) ?_
      rw [if_neg (fun z => Int32.not_lt.mpr q9 z.2)] at hQ
      exact hQ
    · refine pw_iconst 1 (by decide) dX6_has_12 ?_
      refine pw_goto 17 dX6_has_13 (by decide) ?_
      refine pw_iret dX6_has_17 (Or.inr ⟨rfl, rfl⟩) ?_
      rw [if_pos ⟨Int32.not_lt.mp q1, Int32.not_le.mp q9⟩] at hQ
      exact hQ
theorem c_get {x : Int32} {i : Nat} (hr : isRow r c cap) (hn : F r 1 = nI n) (hN : n ≤ cap) (hx : x = nI i) (hi : i < n) (hQ : Q (some (.int (A c i))) (HS F A rf lo X)) : PM Γ mX6_get [.ref r, .int x] (HS F A rf lo X) 0 0 Q := by
  obtain ⟨h1, h2, h9, hc⟩ := hr
  subst hx
  refine PM.go (l := [_, _]) rfl rfl (Nat.le_of_ble_eq_true rfl) rfl ?_
  refine pw_iload_n rfl dX6_get_0 ?_
  refine pw_if_lt 21 dX6_get_1 (by decide) (fun q => absurd q (nI_pos (by omega))) (fun _ => ?_)
  refine pw_iload_n rfl dX6_get_4 ?_
  refine pw_aload_n rfl dX6_get_5 ?_
  refine pw_gI dX6_get_6 fX6_7 (by first | rfl | assumption) rfl ?_
  refine pw_icmp_ge 21 dX6_get_9 (by decide) (fun q => absurd q (by rw [hn]; exact nI_ge hi (by omega))) (fun _ => ?_)
  refine pw_aload_n rfl dX6_get_12 ?_
  refine pw_gC dX6_get_13 fX6_13 (by first | rfl | assumption) rfl (by first | rfl | assumption) ?_
  refine pw_iload_n rfl dX6_get_16 ?_
  refine pw_aI dX6_get_17 (by first | rfl | assumption) (by first | assumption | exact vp_in_nI (by omega) (by omega)) ?_
  refine pw_goto 22 dX6_get_18 (by decide) ?_
  refine pw_iret dX6_get_22 (Or.inl rfl) ?_
  rw [nI_clamp (by omega)]
  exact hQ
theorem c_set {x b : Int32} {i : Nat} (hr : isRow r c cap) (hn : F r 1 = nI n) (hN : n ≤ cap) (hx : x = nI i) (hi : i < n) (hQ : Q none (HS F (stA A c (upd (A c) i (b &&& 255))) rf lo X)) : PM Γ mX6_set [.ref r, .int x, .int b] (HS F A rf lo X) 0 0 Q := by
  obtain ⟨h1, h2, h9, hc⟩ := hr
  subst hx
  refine PM.go (l := [_, _, _]) rfl rfl (Nat.le_of_ble_eq_true rfl) rfl ?_
  refine pw_iload_n rfl dX6_set_0 ?_
  refine pw_if_lt 23 dX6_set_1 (by decide) (fun q => absurd q (nI_pos (by omega))) (fun _ => ?_)
  refine pw_iload_n rfl dX6_set_4 ?_
  refine pw_aload_n rfl dX6_set_5 ?_
  refine pw_gI dX6_set_6 fX6_7 (by first | rfl | assumption) rfl ?_
  refine pw_icmp_ge 23 dX6_set_9 (by decide) (fun q => absurd q (by rw [hn]; exact nI_ge hi (by omega))) (fun _ => ?_)
  refine pw_aload_n rfl dX6_set_12 ?_
  refine pw_gC dX6_set_13 fX6_13 (by first | rfl | assumption) rfl (by first | rfl | assumption) ?_
  refine pw_iload_n rfl dX6_set_16 ?_
  refine pw_iload_n rfl dX6_set_17 ?_
  refine pw_sipush 255 (by decide) dX6_set_18 ?_
  refine pw_iand dX6_set_21 ?_
  refine pw_sI dX6_set_22 (by first | rfl | assumption) (by first | assumption | exact vp_in_nI (by omega) (by omega)) ?_
  refine pw_vret dX6_set_23 rfl ?_
  rw [nI_clamp (by omega)]
  exact hQ
theorem c_push {b : Int32} (hr : isRow r c cap) (hn : F r 1 = nI n) (hN : n < cap) (hQ : Q none (HS (upF F r 1 (nI (n + 1))) (stA A c (upd (A c) n (b &&& 255))) rf lo X)) : PM Γ mX6_push [.ref r, .int b] (HS F A rf lo X) 0 0 Q := by
  obtain ⟨h1, h2, h9, hc⟩ := hr
  have hin : vp_in (F r 1) cap := by rw [hn]; exact vp_in_nI hN (by omega)
  refine PM.go (l := [_, _]) rfl rfl (Nat.le_of_ble_eq_true rfl) rfl ?_
  refine pw_aload_n rfl dX6_push_0 ?_
  refine pw_gI dX6_push_1 fX6_7 (by first | rfl | assumption) rfl ?_
  refine pw_aload_n rfl dX6_push_4 ?_
  refine pw_gC dX6_push_5 fX6_13 (by first | rfl | assumption) rfl (by first | rfl | assumption) ?_
  refine pw_lI (nI _) dX6_push_8 (by first | rfl | assumption) rfl ?_
  refine pw_icmp_ge 36 dX6_push_9 (by decide) (fun q => absurd q (by rw [hn]; exact nI_ge hN (by omega))) (fun _ => ?_)
  refine pw_aload_n rfl dX6_push_12 ?_
  refine pw_gC dX6_push_13 fX6_13 (by first | rfl | assumption) rfl (by first | rfl | assumption) ?_
  refine pw_aload_n rfl dX6_push_16 ?_
  refine pw_gI dX6_push_17 fX6_7 (by first | rfl | assumption) rfl ?_
  refine pw_iload_n rfl dX6_push_20 ?_
  refine pw_sipush 255 (by decide) dX6_push_21 ?_
  refine pw_iand dX6_push_24 ?_
  refine pw_sI dX6_push_25 (by first | rfl | assumption) (by first | assumption | exact vp_in_nI (by omega) (by omega)) ?_
  refine pw_aload_n rfl dX6_push_26 ?_
  refine pw_dup rfl dX6_push_27 ?_
  refine pw_gI dX6_push_28 fX6_7 (by first | rfl | assumption) rfl ?_
  refine pw_iconst 1 (by decide) dX6_push_31 ?_
  refine pw_iadd dX6_push_32 ?_
  refine pw_pI dX6_push_33 fX6_7 (by first | rfl | assumption) rfl ⟨rfl, rfl⟩ ?_
  refine pw_vret dX6_push_36 rfl ?_
  rw [hn, nI_clamp (by omega), nI_1]
  exact hQ
theorem c_empty (hr : isRow r c cap) (hQ : Q none (HS (upF F r 1 0) A rf lo X)) : PM Γ mX6_empty [.ref r] (HS F A rf lo X) 0 0 Q := by
  obtain ⟨h1, h2, h9, hc⟩ := hr
  refine PM.go (l := [_]) rfl rfl (Nat.le_of_ble_eq_true rfl) rfl ?_
  refine pw_aload_n rfl dX6_empty_0 ?_
  refine pw_iconst 0 (by decide) dX6_empty_1 ?_
  refine pw_pI dX6_empty_2 fX6_7 (by first | rfl | assumption) rfl ⟨rfl, rfl⟩ ?_
  refine pw_vret dX6_empty_5 rfl ?_
  exact hQ
theorem c_keep {x : Int32} {i : Nat} (hr : isRow r c cap) (hn : F r 1 = nI n) (hN : n ≤ cap) (hx : x = nI i) (hi : i ≤ n) (hQ : Q none (HS (upF F r 1 (nI i)) A rf lo X)) : PM Γ mX6_keep [.ref r, .int x] (HS F A rf lo X) 0 0 Q := by
  obtain ⟨h1, h2, h9, hc⟩ := hr
  subst hx
  refine PM.go (l := [_, _]) rfl rfl (Nat.le_of_ble_eq_true rfl) rfl ?_
  refine pw_iload_n rfl dX6_keep_0 ?_
  refine pw_if_lt 17 dX6_keep_1 (by decide) (fun q => absurd q (nI_pos (by omega))) (fun _ => ?_)
  refine pw_iload_n rfl dX6_keep_4 ?_
  refine pw_aload_n rfl dX6_keep_5 ?_
  refine pw_gI dX6_keep_6 fX6_7 (by first | rfl | assumption) rfl ?_
  refine pw_icmp_ge 17 dX6_keep_9 (by decide) (fun q9 => ?_) (fun q9 => ?_)
  · refine pw_vret dX6_keep_17 rfl ?_
    rw [hn] at q9
    have hin : i = n := by
      rcases Nat.lt_or_ge i n with z | z
      · exact absurd q9 (nI_ge z (by omega))
      · omega
    have e : upF F r 1 (nI i) = F := by
      funext a b
      unfold upF
      split
      · rename_i z
        rw [z.1, z.2, hn, hin]
      · rfl
    rw [e] at hQ
    exact hQ
  · refine pw_aload_n rfl dX6_keep_12 ?_
    refine pw_iload_n rfl dX6_keep_13 ?_
    refine pw_pI dX6_keep_14 fX6_7 (by first | rfl | assumption) rfl ⟨rfl, rfl⟩ ?_
    refine pw_vret dX6_keep_17 rfl ?_
    exact hQ
end
