/-! list heaps: rows for constructors; cells t stand behind a heap h of b cells -/
section
variable {Γ : Nat × (Nat → Int32)} {M : MD} {pc : Nat} {l st : List Value} {h t t' t0 : PH} {b bc bs : Nat} {Q : Option Value → PH → Prop}
theorem pk_get {k : Nat} {e : PE} (hb : h.length = b) (ht : t[k]? = some e) : (h ++ t)[b + k]? = some e := by
  rw [List.getElem?_append_right (by omega), show b + k - h.length = k by omega]
  exact ht
theorem pk_set {k : Nat} {e : PE} (hb : h.length = b) : (h ++ t).set (b + k) e = h ++ t.set k e := by
  rw [List.set_append_right _ _ (by omega), show b + k - h.length = k by omega]
theorem pb_putF {idx ci k k0 : Nat} {ty : FieldType} {fs : List Value} {v : Value} (hdg : decode (mcode M) pc = .ok (.putfield idx, 3)) (hf : pfl M.1.cls idx ci k true ty) (hin : M.1.name = "<init>") (hb : h.length = b) (ht : t[k0]? = some (.inr (ci, fs))) (hl : k < fs.length) (hpv : ∀ σ base, narrow ty (pv σ base v) = pv σ base v ∧ fits ty (pv σ base v) = true) (ht' : t.set k0 (.inr (ci, fs.set k v)) = t') (kk : PW Γ M (pc + 3) l st (h ++ t') bc bs Q) : PW Γ M pc l (v :: .ref (b + k0) :: st) (h ++ t) bc bs Q := by
  refine pw_putF hdg hf hin (pk_get hb ht) hl hpv ?_
  rw [pk_set hb, ht']
  exact kk
theorem pb_putf {idx ci k k0 : Nat} {ty : FieldType} {fs : List Value} {v : Value} (hdg : decode (mcode M) pc = .ok (.putfield idx, 3)) (hf : pfl M.1.cls idx ci k false ty) (hb : h.length = b) (ht : t[k0]? = some (.inr (ci, fs))) (hl : k < fs.length) (hn : narrow ty v = v) (hfit : fits ty v = true) (hpv : ∀ σ base, narrow ty (pv σ base v) = pv σ base v ∧ fits ty (pv σ base v) = true) (ht' : t.set k0 (.inr (ci, fs.set k v)) = t') (kk : PW Γ M (pc + 3) l st (h ++ t') bc bs Q) : PW Γ M pc l (v :: .ref (b + k0) :: st) (h ++ t) bc bs Q := by
  refine pw_putf hdg hf (pk_get hb ht) hl hn hfit hpv ?_
  rw [pk_set hb, ht']
  exact kk
theorem pb_get {idx ci k k0 : Nat} {fn : Bool} {ty : FieldType} {fs : List Value} {v : Value} (hdg : decode (mcode M) pc = .ok (.getfield idx, 3)) (hf : pfl M.1.cls idx ci k fn ty) (hb : h.length = b) (ht : t[k0]? = some (.inr (ci, fs))) (hv : fs[k]? = some v) (kk : PW Γ M (pc + 3) l (v :: st) (h ++ t) bc bs Q) : PW Γ M pc l (.ref (b + k0) :: st) (h ++ t) bc bs Q :=
  pw_getf hdg hf (pk_get hb ht) hv kk
theorem pb_newi {N k1 : Nat} {x : Int32} (hdg : decode (mcode M) pc = .ok (.newarray .int, 2)) (hw : Cond.arrayClass .int ∈ lw_good) (hn : ¬ x < 0) (hN : x.toNatClampNeg = N) (h4 : N * 4 ≤ 536870912) (hb : h.length = b) (hk : t.length = k1) (ht' : t ++ [.inl (.int, N, .inl (fun _ => 0))] = t') (kk : PW Γ M (pc + 2) l (.ref (b + k1) :: st) (h ++ t') bc bs Q) : PW Γ M pc l (.int x :: st) (h ++ t) (bc + 1) (bs + N) Q := by
  refine pw_newi hdg hw hn hN h4 ?_
  rw [List.length_append, hb, hk, List.append_assoc, ht']
  exact kk
theorem pb_new {idx ci N k1 : Nat} {fs : List Value} (hdg : decode (mcode M) pc = .ok (.new idx, 3)) (hf : pcl M.1.cls idx ci N fs) (hb : h.length = b) (hk : t.length = k1) (ht' : t ++ [.inr (ci, fs)] = t') (kk : PW Γ M (pc + 3) l (.ref (b + k1) :: st) (h ++ t') bc bs Q) : PW Γ M pc l st (h ++ t) (bc + 1) (bs + N) Q := by
  refine pw_new hdg hf ?_
  rw [List.length_append, hb, hk, List.append_assoc, ht']
  exact kk
theorem pb_callI {M' : MD} {n idx k1 mc ms : Nat} {As : List Value} {o : PE} {cs : Nat → PH} (hdg : decode (mcode M) pc = .ok (.invokespecial idx, 3)) (hm : pmI M.1.cls idx M' n) (hn : As.length = n) (hR : mfr M' + 1 ≤ mfr M ∧ 8 + (mxl M' + 11) + mlo M' ≤ mlo M) (hst : (st.map fun v => v.category).sum ≤ 8) (hb : h.length = b) (hk : t0.length = k1) (ht : t0 ++ [o] = t)
    (hp : ∀ (h0 : PH) (b0 : Nat), h0.length = b0 → PM Γ M' (.ref b0 :: As) (h0 ++ [o]) mc ms (fun r h' => r = none ∧ h' = h0 ++ cs b0)) (ht' : t0 ++ cs (b + k1) = t') (kk : PW Γ M (pc + 3) l st (h ++ t') bc bs Q) : PW Γ M pc l (As.reverse ++ .ref (b + k1) :: st) (h ++ t) (bc + mc) (bs + ms) Q := by
  have hp2 := hp (h ++ t0) (b + k1) (by rw [List.length_append, hb, hk])
  rw [List.append_assoc, ht] at hp2
  refine pw_callI hdg hm hn hR hst ⟨Nat.le_add_left _ _, Nat.le_add_left _ _⟩ hp2 ?_
  intro r h' hr
  rw [hr.1, hr.2, List.append_assoc, ht', Nat.add_sub_cancel, Nat.add_sub_cancel]
  exact kk
theorem pb_callN {M' : MD} {n idx k1 mc ms : Nat} {As : List Value} {o : PE} {cs : Nat → PH} (hdg : decode (mcode M) pc = .ok (.invokespecial idx, 3)) (hm : pmN M.1.cls idx M' n) (hn : As.length = n) (hR : mfr M' + 1 ≤ mfr M ∧ 8 + (mxl M' + 11) + mlo M' ≤ mlo M) (hst : (st.map fun v => v.category).sum ≤ 8) (hb : h.length = b) (hk : t0.length = k1) (ht : t0 ++ [o] = t)
    (hp : ∀ (h0 : PH) (b0 : Nat), h0.length = b0 → PM Γ M' (.ref b0 :: As) (h0 ++ [o]) mc ms (fun r h' => r = none ∧ h' = h0 ++ cs b0)) (ht' : t0 ++ cs (b + k1) = t') (kk : PW Γ M (pc + 3) l st (h ++ t') bc bs Q) : PW Γ M pc l (As.reverse ++ .ref (b + k1) :: st) (h ++ t) (bc + mc) (bs + ms) Q := by
  have hp2 := hp (h ++ t0) (b + k1) (by rw [List.length_append, hb, hk])
  rw [List.append_assoc, ht] at hp2
  refine pw_callN hdg hm hn hR hst ⟨Nat.le_add_left _ _, Nat.le_add_left _ _⟩ hp2 ?_
  intro r h' hr
  rw [hr.1, hr.2, List.append_assoc, ht', Nat.add_sub_cancel, Nat.add_sub_cancel]
  exact kk
theorem ls_self {H : PH} {i : Nat} {e : PE} (he : H[i]? = some e) : H.set i e = H := by
  apply List.ext_getElem?
  intro j
  have hl := (List.getElem?_eq_some_iff.mp he).1
  by_cases hj : j = i
  · subst hj
    rw [List.getElem?_set_self hl, he]
  · rw [List.getElem?_set_ne (Ne.symm hj)]
theorem ls_at {H : PH} {i : Nat} {e e2 : PE} (he : H[i]? = some e) : (H.set i e2)[i]? = some e2 := List.getElem?_set_self (List.getElem?_eq_some_iff.mp he).1
theorem gf_loop {H : PH} {i n : Nat} {f : Nat → Int32} {v : Int32} {Q : Option Value → PH → Prop} (he : H[i]? = some (.inl (.int, n, .inl f))) (hn : n < 2000) (hQ : Q none (H.set i (.inl (.int, n, .inl (cpn (fun _ => v) f n))))) : ∀ (k j : Nat), j + k = n →
    PW Γ mJ7_fill_53178 5 [.ref i, .int v, .int (nI j), .int (nI n)] [] (H.set i (.inl (.int, n, .inl (cpn (fun _ => v) f j)))) 0 0 Q := by
  intro k
  induction k with
  | zero =>
    intro j hj
    have hj2 : j = n := by omega
    subst hj2
    refine pw_iload_n rfl dJ7_fill_53178_5 ?_
    refine pw_iload_n rfl dJ7_fill_53178_6 ?_
    refine pw_icmp_ge 20 dJ7_fill_53178_7 (by decide) (fun _ => ?_) (fun q => absurd (nI_le (Nat.le_refl _) (by omega)) q)
    refine pw_vret dJ7_fill_53178_20 rfl ?_
    exact hQ
  | succ k ih =>
    intro j hj
    refine pw_iload_n rfl dJ7_fill_53178_5 ?_
    refine pw_iload_n rfl dJ7_fill_53178_6 ?_
    refine pw_icmp_ge 20 dJ7_fill_53178_7 (by decide) (fun q => absurd q (nI_ge (by omega) (by omega))) (fun _ => ?_)
    refine pw_aload_n rfl dJ7_fill_53178_10 ?_
    refine pw_iload_n rfl dJ7_fill_53178_11 ?_
    refine pw_iload_n rfl dJ7_fill_53178_12 ?_
    refine pw_iast dJ7_fill_53178_13 (ls_at he) (vp_in_nI (by omega) (by omega)) ?_
    rw [List.set_set, nI_clamp (by omega)]
    refine ps_iinc (l' := [_, _, _, _]) 1 dJ7_fill_53178_14 (by decide) rfl (by decide) rfl rfl ?_
    refine pw_goto 5 dJ7_fill_53178_17 (by decide) ?_
    rw [nI_1, cpn_step rfl]
    exact ih (j + 1) (by omega)
theorem g_fill {H : PH} {i n : Nat} {f : Nat → Int32} {v : Int32} (he : H[i]? = some (.inl (.int, n, .inl f))) (hn : n < 2000) : PM Γ mJ7_fill_53178 [.ref i, .int v] H 0 0 (fun r h' => r = none ∧ h' = H.set i (.inl (.int, n, .inl (cpn (fun _ => v) f n)))) := by
  refine PM.go (l := [_, _, .float 0, .float 0]) rfl rfl (Nat.le_of_ble_eq_true rfl) rfl ?_
  refine pw_iconst 0 (by decide) dJ7_fill_53178_0 ?_
  refine ps_istore_n (l' := [_, _, _, _]) dJ7_fill_53178_1 (by decide) rfl rfl ?_
  refine pw_aload_n rfl dJ7_fill_53178_2 ?_
  refine pw_alen (nI n) dJ7_fill_53178_3 he rfl ?_
  refine ps_istore_n (l' := [_, _, _, _]) dJ7_fill_53178_4 (by decide) rfl rfl ?_
  have key := gf_loop (Γ := Γ) (v := v) (Q := fun r h' => r = none ∧ h' = H.set i (.inl (.int, n, .inl (cpn (fun _ => v) f n)))) he hn ⟨rfl, rfl⟩ n 0 (by omega)
  rw [cpn_0, ls_self he] at key
  exact key
theorem pb_fill {idx k0 n : Nat} {f : Nat → Int32} {v : Int32} (hdg : decode (mcode M) pc = .ok (.invokestatic idx, 3)) (hm : pmS M.1.cls idx mJ7_fill_53178 2) (hR : mfr mJ7_fill_53178 + 1 ≤ mfr M ∧ 8 + (mxl mJ7_fill_53178 + 11) + mlo mJ7_fill_53178 ≤ mlo M) (hst : (st.map fun v => v.category).sum ≤ 8) (hb : h.length = b) (ht : t[k0]? = some (.inl (.int, n, .inl f))) (hn : n < 2000) (ht' : t.set k0 (.inl (.int, n, .inl (cpn (fun _ => v) f n))) = t') (kk : PW Γ M (pc + 3) l st (h ++ t') bc bs Q) : PW Γ M pc l (.int v :: .ref (b + k0) :: st) (h ++ t) bc bs Q := by
  refine pw_callS (As := [.ref (b + k0), .int v]) (mc := 0) (ms := 0) hdg hm rfl hR hst ⟨Nat.zero_le _, Nat.zero_le _⟩ (g_fill (pk_get hb ht) hn) ?_
  intro r h' hr
  rw [hr.1, hr.2, pk_set hb, ht']
  exact kk
theorem gl_loop {t : PH} {fs : List Value} {Q : Option Value → PH → Prop} (hb : h.length = b) (h0 : t[0]? = some (.inr (11, fs))) (h26 : fs[26]? = some (.ref (b + 16))) (h16 : t[16]? = some (.inl (.int, 64, .inl (fun _ => 0)))) (hQ : Q none (h ++ t.set 16 (.inl (.int, 64, .inl (cpn (fun _ => -3) (fun _ => 0) 64))))) : ∀ (k j : Nat), j + k = 64 →
    PW Γ mX11_lose 7 [.ref b, .int (nI j)] [] (h ++ t.set 16 (.inl (.int, 64, .inl (cpn (fun _ => -3) (fun _ => 0) j)))) 0 0 Q := by
  intro k
  induction k with
  | zero =>
    intro j hj
    rw [show j = 64 by omega]
    refine pw_iload_n rfl dX11_lose_7 ?_
    refine pw_bipush 64 (by decide) dX11_lose_8 ?_
    refine pw_icmp_ge 27 dX11_lose_10 (by decide) (fun _ => ?_) (fun q => absurd (by decide) q)
    refine pw_vret dX11_lose_27 rfl ?_
    exact hQ
  | succ k ih =>
    intro j hj
    refine pw_iload_n rfl dX11_lose_7 ?_
    refine pw_bipush 64 (by decide) dX11_lose_8 ?_
    refine pw_icmp_ge 27 dX11_lose_10 (by decide) (fun q => absurd q (nI_ge (b := 64) (by omega) (by omega))) (fun _ => ?_)
    refine pw_aload_n rfl dX11_lose_13 ?_
    refine pb_get (k0 := 0) dX11_lose_14 fX11_55 hb (by rw [List.getElem?_set_ne (by decide)]; exact h0) h26 ?_
    refine pw_iload_n rfl dX11_lose_17 ?_
    refine pw_bipush (-3) (by decide) dX11_lose_18 ?_
    refine pw_iast (i := b + 16) dX11_lose_20 (pk_get hb (ls_at h16)) (vp_in_nI (by omega) (by omega)) ?_
    rw [pk_set hb, List.set_set, nI_clamp (by omega)]
    refine ps_iinc (l' := [_, _]) 1 dX11_lose_21 (by decide) rfl (by decide) rfl rfl ?_
    refine pw_goto 7 dX11_lose_24 (by decide) ?_
    rw [nI_1, cpn_step rfl]
    exact ih (j + 1) (by omega)
theorem g_lose {t : PH} {fs : List Value} (hb : h.length = b) (h0 : t[0]? = some (.inr (11, fs))) (h24 : fs.set 24 (.int 0) = fs) (hl : 24 < fs.length) (h26 : fs[26]? = some (.ref (b + 16))) (h16 : t[16]? = some (.inl (.int, 64, .inl (fun _ => 0)))) : PM Γ mX11_lose [.ref b] (h ++ t) 0 0 (fun r h' => r = none ∧ h' = h ++ t.set 16 (.inl (.int, 64, .inl (cpn (fun _ => -3) (fun _ => 0) 64)))) := by
  refine PM.go (l := [_, .float 0]) rfl rfl (Nat.le_of_ble_eq_true rfl) rfl ?_
  refine pw_aload_n rfl dX11_lose_0 ?_
  refine pw_iconst 0 (by decide) dX11_lose_1 ?_
  refine pb_putf (k0 := 0) (t' := t) dX11_lose_2 fX11_68 hb h0 hl rfl rfl (fun _ _ => ⟨rfl, rfl⟩) (by rw [h24, ls_self h0]) ?_
  refine pw_iconst 0 (by decide) dX11_lose_5 ?_
  refine ps_istore_n (l' := [_, _]) dX11_lose_6 (by decide) rfl rfl ?_
  have key := gl_loop (Γ := Γ) (Q := fun r h' => r = none ∧ h' = h ++ t.set 16 (.inl (.int, 64, .inl (cpn (fun _ => -3) (fun _ => 0) 64)))) hb h0 h26 h16 ⟨rfl, rfl⟩ 64 0 (by omega)
  rw [cpn_0, ls_self h16] at key
  exact key
theorem pb_lose {idx : Nat} {fs : List Value} (hdg : decode (mcode M) pc = .ok (.invokevirtual idx, 3)) (hm : pmV M.1.cls idx mX11_lose 0) (hR : mfr mX11_lose + 1 ≤ mfr M ∧ 8 + (mxl mX11_lose + 11) + mlo mX11_lose ≤ mlo M) (hst : (st.map fun v => v.category).sum ≤ 8) (hb : h.length = b) (h0 : t[0]? = some (.inr (11, fs))) (h24 : fs.set 24 (.int 0) = fs) (hl : 24 < fs.length) (h26 : fs[26]? = some (.ref (b + 16))) (h16 : t[16]? = some (.inl (.int, 64, .inl (fun _ => 0)))) (ht' : t.set 16 (.inl (.int, 64, .inl (cpn (fun _ => -3) (fun _ => 0) 64))) = t') (kk : PW Γ M (pc + 3) l st (h ++ t') bc bs Q) : PW Γ M pc l (.ref b :: st) (h ++ t) bc bs Q := by
  refine pw_callV (As := []) (b := b) (ci := 11) (mc := 0) (ms := 0) hdg hm rfl rfl (pk_get (k := 0) hb h0) hR hst ⟨Nat.zero_le _, Nat.zero_le _⟩ (g_lose hb h0 h24 hl h26 h16) ?_
  intro r h' hr
  rw [hr.1, hr.2, ht']
  exact kk
end
