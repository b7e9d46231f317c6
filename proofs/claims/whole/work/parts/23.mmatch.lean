/-! MATCHES on the reference's side -/
/-- the reference's world with what match() has found -/
def MX (F A : Nat → Nat → Int32) (m : Nat) (f0 : Nat → Int32) (L : List Int32) (t : Nat) (x : Nat × Nat) (rf : Nat) (lo : Int64) (X : PH) : PH := MT (upF (upF F 57 29 (nI x.1)) 57 30 (nI x.2)) A m f0 L t rf lo X
def mxF (F : Nat → Nat → Int32) (k t : Nat) (x : Nat × Nat) : Nat → Nat → Int32 := umd (upF (upF F 57 29 (nI x.1)) 57 30 (nI x.2)) k t
theorem mxF_1 {F : Nat → Nat → Int32} {k t : Nat} {x : Nat × Nat} : mxF F k t x 57 29 = nI x.1 := by
  unfold mxF umd
  rw [upF_n (by omega), upF_n (by omega), upF_n (by omega), upF_s]
theorem mxF_2 {F : Nat → Nat → Int32} {k t : Nat} {x : Nat × Nat} : mxF F k t x 57 30 = nI x.2 := by
  unfold mxF umd
  rw [upF_n (by omega), upF_n (by omega), upF_s]
theorem mxF_s1 {F : Nat → Nat → Int32} {k t u : Nat} {x : Nat × Nat} : upF (mxF F k t x) 57 29 (nI u) = mxF F k t (u, x.2) := by
  funext a b
  unfold mxF umd upF
  by_cases h1 : a = 57 ∧ b = 29
  · rw [if_pos h1, if_neg (by omega), if_neg (by omega), if_neg (by omega), if_pos h1]
  · rw [if_neg h1]
    split
    · rfl
    · split
      · rfl
      · split
        · rfl
        · rfl
theorem mxF_s2 {F : Nat → Nat → Int32} {k t u : Nat} {x : Nat × Nat} : upF (mxF F k t x) 57 30 (nI u) = mxF F k t (x.1, u) := by
  funext a b
  unfold mxF umd upF
  by_cases h1 : a = 57 ∧ b = 30
  · rw [if_pos h1, if_neg (by omega), if_neg (by omega), if_pos h1]
  · rw [if_neg h1]
    split
    · rfl
    · split
      · rfl
      · rfl
section
variable {Γ : Nat × (Nat → Int32)} {F A : Nat → Nat → Int32} {rf : Nat} {lo : Int64} {X : PH} {Q : Option Value → PH → Prop} {n m : Nat} {f0 : Nat → Int32} {L : List Int32} {t : Nat} {x : Nat × Nat}
theorem mm_inner {a d : Nat} (hn : n ≤ 300) (ha : a ≤ n) (hd : d ≤ a) (hd1 : 0 < d) : ∀ (k u : Nat), u + k = most n a →
    PW Γ mX11_match 67 [.ref 57, .int (nI a), .int (nI n), .int (nI d), .int (nI (mlc (A 63) a d k u))] [] (MX F A m f0 L t x rf lo X) 0 0 Q →
    PW Γ mX11_match 22 [.ref 57, .int (nI a), .int (nI n), .int (nI d), .int (nI u)] [] (MX F A m f0 L t x rf lo X) 0 0 Q := by
  have hm : most n a ≤ n - a ∧ most n a ≤ 130 ∧ (most n a = n - a ∨ most n a = 130) := by unfold most; omega
  intro k
  induction k with
  | zero =>
    intro u hu hk
    have e0 : mlc (A 63) a d 0 u = u := rfl
    rw [e0] at hk
    refine pw_iload_n rfl dX11_match_22 ?_
    refine pw_iload rfl dX11_match_23 ?_
    refine pw_iadd dX11_match_25 ?_
    refine pw_iload_n rfl dX11_match_26 ?_
    rw [nI_add]
    by_cases h1 : n ≤ a + u
    · refine pw_icmp_ge 67 dX11_match_27 (by decide) (fun _ => ?_) (fun q => absurd (nI_le h1 (by omega)) q)
      exact hk
    · refine pw_icmp_ge 67 dX11_match_27 (by decide) (fun q => absurd q (nI_ge (by omega) (by omega))) (fun _ => ?_)
      refine pw_iload rfl dX11_match_30 ?_
      refine pw_sipush 130 (by decide) dX11_match_32 ?_
      refine pw_icmp_ge 67 dX11_match_35 (by decide) (fun _ => ?_) (fun q => absurd (nI_le (a := 130) (by omega) (by omega)) q)
      exact hk
  | succ k ih =>
    intro u hu hk
    have e0 : mlc (A 63) a d (k + 1) u = if A 63 (a + u) = A 63 (a + u - d) then mlc (A 63) a d k (u + 1) else u := rfl
    rw [e0] at hk
    unfold MX MT at hk ⊢
    refine pw_iload_n rfl dX11_match_22 ?_
    refine pw_iload rfl dX11_match_23 ?_
    refine pw_iadd dX11_match_25 ?_
    refine pw_iload_n rfl dX11_match_26 ?_
    rw [nI_add]
    refine pw_icmp_ge 67 dX11_match_27 (by decide) (fun q => absurd q (nI_ge (by omega) (by omega))) (fun _ => ?_)
    refine pw_iload rfl dX11_match_30 ?_
    refine pw_sipush 130 (by decide) dX11_match_32 ?_
    refine pw_icmp_ge 67 dX11_match_35 (by decide) (fun q => absurd q (nI_ge (b := 130) (by omega) (by omega))) (fun _ => ?_)
    refine pw_aload_n rfl dX11_match_38 ?_
    refine pw_gC dX11_match_39 fX11_25 (by first | rfl | assumption) rfl (by first | rfl | assumption) ?_
    refine pw_iload_n rfl dX11_match_42 ?_
    refine pw_iload rfl dX11_match_43 ?_
    refine pw_iadd dX11_match_45 ?_
    rw [nI_add]
    refine pw_aI dX11_match_46 (by first | rfl | assumption) (by first | assumption | exact vp_in_nI (by omega) (by omega)) ?_
    refine pw_aload_n rfl dX11_match_47 ?_
    refine pw_gC dX11_match_48 fX11_25 (by first | rfl | assumption) rfl (by first | rfl | assumption) ?_
    refine pw_iload_n rfl dX11_match_51 ?_
    refine pw_iload rfl dX11_match_52 ?_
    refine pw_iadd dX11_match_54 ?_
    refine pw_iload_n rfl dX11_match_55 ?_
    rw [nI_add]
    refine pw_isub dX11_match_56 ?_
    rw [pk_sub (by omega)]
    refine pw_aI dX11_match_57 (by first | rfl | assumption) (by first | assumption | exact vp_in_nI (by omega) (by omega)) ?_
    rw [stA_n (by decide), nI_clamp (by omega), nI_clamp (by omega)]
    by_cases hq : A 63 (a + u) = A 63 (a + u - d)
    · rw [if_pos hq] at hk
      refine pw_icmp_ne 67 dX11_match_58 (by decide) (fun q => absurd (hq) q) (fun _ => ?_)
      refine ps_iinc (l' := [_, _, _, _, _]) 1 dX11_match_61 (by decide) rfl (by decide) rfl rfl ?_
      refine pw_goto 22 dX11_match_64 (by decide) ?_
      rw [nI_1]
      exact ih (u + 1) (by omega) hk
    · rw [if_neg hq] at hk
      refine pw_icmp_ne 67 dX11_match_58 (by decide) (fun _ => ?_) (fun q => absurd q (hq))
      exact hk
theorem mm_loop {a : Nat} (hn : n ≤ 300) (ha : a ≤ n) : ∀ (k d : Nat) (x : Nat × Nat) (g : Value), d + k = min a 255 → x.1 = (mbest (A 63) n a d).1 → (0 < x.1 → x.2 = (mbest (A 63) n a d).2) →
    (∀ l x, x.1 = (mbest (A 63) n a (min a 255)).1 → (0 < x.1 → x.2 = (mbest (A 63) n a (min a 255)).2) → PW Γ mX11_match 93 l [] (MX F A m f0 L t x rf lo X) 0 0 Q) →
    PW Γ mX11_match 7 [.ref 57, .int (nI a), .int (nI n), .int (nI (d + 1)), g] [] (MX F A m f0 L t x rf lo X) 0 0 Q := by
  intro k
  induction k with
  | zero =>
    intro d x g hd hx1 hx2 hk
    have hd : d = min a 255 := by omega
    have hfin := hk [.ref 57, .int (nI a), .int (nI n), .int (nI (d + 1)), g] x (by rw [hx1, hd]) (fun h => by rw [hx2 h, hd])
    by_cases h1 : a < d + 1
    · refine pw_iload_n rfl dX11_match_7 ?_
      refine pw_iload_n rfl dX11_match_8 ?_
      refine pw_icmp_gt 93 dX11_match_9 (by decide) (fun _ => ?_) (fun q => absurd (nI_lt h1 (by omega)) q)
      exact hfin
    · refine pw_iload_n rfl dX11_match_7 ?_
      refine pw_iload_n rfl dX11_match_8 ?_
      refine pw_icmp_gt 93 dX11_match_9 (by decide) (fun q => absurd q (nI_nlt (by omega) (by omega))) (fun _ => ?_)
      refine pw_iload_n rfl dX11_match_12 ?_
      refine pw_sipush 256 (by decide) dX11_match_13 ?_
      refine pw_icmp_ge 93 dX11_match_16 (by decide) (fun _ => ?_) (fun q => absurd (nI_le (a := 256) (by omega) (by omega)) q)
      exact hfin
  | succ k ih =>
    intro d x g hd hx1 hx2 hk
    have hml := mlen_le (f := A 63) (n := n) (a := a) (d := d + 1)
    have hbl := mbest_le (f := A 63) (n := n) (a := a) d
    have hm : most n a ≤ 130 := by unfold most; omega
    refine pw_iload_n rfl dX11_match_7 ?_
    refine pw_iload_n rfl dX11_match_8 ?_
    refine pw_icmp_gt 93 dX11_match_9 (by decide) (fun q => absurd q (nI_nlt (by omega) (by omega))) (fun _ => ?_)
    refine pw_iload_n rfl dX11_match_12 ?_
    refine pw_sipush 256 (by decide) dX11_match_13 ?_
    refine pw_icmp_ge 93 dX11_match_16 (by decide) (fun q => absurd q (nI_ge (b := 256) (by omega) (by omega))) (fun _ => ?_)
    refine pw_iconst 0 (by decide) dX11_match_19 ?_
    refine ps_istore (l' := [_, _, _, _, _]) dX11_match_20 (by decide) rfl rfl ?_
    refine mm_inner hn ha (by omega) (by omega) (most n a) 0 (by omega) ?_
    have e0 : mlc (A 63) a (d + 1) (most n a) 0 = mlen (A 63) n a (d + 1) := rfl
    rw [e0]
    have e1 : mbest (A 63) n a (d + 1) = if (mbest (A 63) n a d).1 < mlen (A 63) n a (d + 1) then (mlen (A 63) n a (d + 1), d + 1) else mbest (A 63) n a d := rfl
    have e7 : mxF F (m + L.length) t x 57 29 = nI x.1 := mxF_1
    have hu : MX F A m f0 L t x rf lo X = HS (mxF F (m + L.length) t x) (stA A 65 (app f0 m L)) rf lo X := rfl
    rw [hu]
    refine pw_iload rfl dX11_match_67 ?_
    refine pw_aload_n rfl dX11_match_69 ?_
    refine pw_gI dX11_match_70 fX11_134 (by first | rfl | assumption) rfl ?_
    rw [e7, hx1]
    by_cases hq : (mbest (A 63) n a d).1 < mlen (A 63) n a (d + 1)
    · rw [if_pos hq] at e1
      refine pw_icmp_le 87 dX11_match_73 (by decide) (fun q => absurd q (nI_ge hq (by omega))) (fun _ => ?_)
      refine pw_aload_n rfl dX11_match_76 ?_
      refine pw_iload rfl dX11_match_77 ?_
      refine pw_pI dX11_match_79 fX11_134 (by first | rfl | assumption) rfl ⟨rfl, rfl⟩ ?_
      rw [mxF_s1]
      refine pw_aload_n rfl dX11_match_82 ?_
      refine pw_iload_n rfl dX11_match_83 ?_
      refine pw_pI dX11_match_84 fX11_137 (by first | rfl | assumption) rfl ⟨rfl, rfl⟩ ?_
      refine ps_iinc (l' := [_, _, _, _, _]) 1 dX11_match_87 (by decide) rfl (by decide) rfl rfl ?_
      refine pw_goto 7 dX11_match_90 (by decide) ?_
      rw [mxF_s2, nI_1]
      exact ih (d + 1) (mlen (A 63) n a (d + 1), d + 1) _ (by omega) (by rw [e1]) (fun _ => by rw [e1]) hk
    · rw [if_neg hq] at e1
      refine pw_icmp_le 87 dX11_match_73 (by decide) (fun _ => ?_) (fun q => absurd (nI_le (by omega) (by omega)) q)
      refine ps_iinc (l' := [_, _, _, _, _]) 1 dX11_match_87 (by decide) rfl (by decide) rfl rfl ?_
      refine pw_goto 7 dX11_match_90 (by decide) ?_
      rw [nI_1]
      exact ih (d + 1) x _ (by omega) (by rw [e1]; exact hx1) (fun h => by rw [e1]; exact hx2 h) hk
theorem mt_match {a : Nat} (hn : n ≤ 300) (ha : a ≤ n) (hQ : ∀ x, x.1 = (mbest (A 63) n a (min a 255)).1 → (0 < x.1 → x.2 = (mbest (A 63) n a (min a 255)).2) → Q none (MX F A m f0 L t x rf lo X)) : PM Γ mX11_match [.ref 57, .int (nI a), .int (nI n)] (MX F A m f0 L t x rf lo X) 0 0 Q := by
  have hu : MX F A m f0 L t x rf lo X = HS (mxF F (m + L.length) t x) (stA A 65 (app f0 m L)) rf lo X := rfl
  rw [hu]
  refine PM.go (l := [_, _, _, .float 0, .float 0]) rfl rfl (Nat.le_of_ble_eq_true rfl) rfl ?_
  refine pw_aload_n rfl dX11_match_0 ?_
  refine pw_iconst 0 (by decide) dX11_match_1 ?_
  rw [show (0 : Int32) = nI 0 from rfl]
  refine pw_pI dX11_match_2 fX11_134 (by first | rfl | assumption) rfl ⟨rfl, rfl⟩ ?_
  refine pw_iconst 1 (by decide) dX11_match_5 ?_
  refine ps_istore_n (l' := [_, _, _, _, _]) dX11_match_6 (by decide) rfl rfl ?_
  rw [mxF_s1]
  refine mm_loop (x := (0, x.2)) hn ha (min a 255) 0 _ (by omega) rfl (fun h => absurd h (Nat.lt_irrefl _)) (fun l x h1 h2 => ?_)
  refine pw_vret dX11_match_93 rfl ?_
  exact hQ x h1 h2
theorem mx_put {b : Int32} (hL : m + L.length < 1400) (hQ : Q none (MX F A m f0 (L ++ [b]) 8 x rf lo X)) : PM Γ mX11_put [.ref 57, .int b] (MX F A m f0 L t x rf lo X) 0 0 Q := by
  unfold MX
  exact mt_put hL hQ
theorem mx_putRow {a e : Nat} (hae : a < e) (he : e ≤ 300) (hcap : m + L.length + (e - a) + 1 ≤ 1400)
    (hQ : ∀ t, Q none (MX F A m f0 (L ++ (nI (e - a - 1) :: slice (A 63) a e)) t x rf lo X)) : PM Γ mX11_putRow [.ref 57, .int (nI a), .int (nI e)] (MX F A m f0 L t x rf lo X) 0 0 Q := by
  unfold MX
  exact mt_putRow hae he hcap hQ
/-- the plain bytes: at e (above a) matched is that of e; at a it is below 3 -/
theorem mp_loop {a : Nat} (hn : n ≤ 300) (ha : a < n) : ∀ (k e : Nat) (x : Nat × Nat), e + k = min n (a + 128) → a ≤ e → (e = a → x.1 < 3) → (¬ e = a → x.1 = (mbest (A 63) n e (min e 255)).1) →
    (∀ x, PW Γ mX11_packMatches 86 [.ref 57, .int (nI n), .int (nI a), .int (nI (if e = a then mend (A 63) n (min n (a + 128)) (k - 1) (a + 1) else mend (A 63) n (min n (a + 128)) k e))] [] (MX F A m f0 L t x rf lo X) 0 0 Q) →
    PW Γ mX11_packMatches 52 [.ref 57, .int (nI n), .int (nI a), .int (nI e)] [] (MX F A m f0 L t x rf lo X) 0 0 Q := by
  intro k
  induction k with
  | zero =>
    intro e x he hae hx1 hx2 hk
    rw [if_neg (by omega), show mend (A 63) n (min n (a + 128)) 0 e = e from rfl] at hk
    by_cases h1 : n ≤ e
    · refine pw_iload_n rfl dX11_packMatches_52 ?_
      refine pw_iload_n rfl dX11_packMatches_53 ?_
      refine pw_icmp_ge 86 dX11_packMatches_54 (by decide) (fun _ => ?_) (fun q => absurd (nI_le h1 (by omega)) q)
      exact hk x
    · refine pw_iload_n rfl dX11_packMatches_52 ?_
      refine pw_iload_n rfl dX11_packMatches_53 ?_
      refine pw_icmp_ge 86 dX11_packMatches_54 (by decide) (fun q => absurd q (nI_ge (by omega) (by omega))) (fun _ => ?_)
      refine pw_iload_n rfl dX11_packMatches_57 ?_
      refine pw_iload_n rfl dX11_packMatches_58 ?_
      refine pw_isub dX11_packMatches_59 ?_
      rw [pk_sub (by omega)]
      refine pw_sipush 128 (by decide) dX11_packMatches_60 ?_
      refine pw_icmp_ge 86 dX11_packMatches_63 (by decide) (fun _ => ?_) (fun q => absurd (nI_le (a := 128) (by omega) (by omega)) q)
      exact hk x
  | succ k ih =>
    intro e x he hae hx1 hx2 hk
    have hu : MX F A m f0 L t x rf lo X = HS (mxF F (m + L.length) t x) (stA A 65 (app f0 m L)) rf lo X := rfl
    have hbl := mbest_le (f := A 63) (n := n) (a := e) (min e 255)
    have hm : most n e ≤ 130 := by unfold most; omega
    rw [hu]
    refine pw_iload_n rfl dX11_packMatches_52 ?_
    refine pw_iload_n rfl dX11_packMatches_53 ?_
    refine pw_icmp_ge 86 dX11_packMatches_54 (by decide) (fun q => absurd q (nI_ge (by omega) (by omega))) (fun _ => ?_)
    refine pw_iload_n rfl dX11_packMatches_57 ?_
    refine pw_iload_n rfl dX11_packMatches_58 ?_
    refine pw_isub dX11_packMatches_59 ?_
    rw [pk_sub (by omega)]
    refine pw_sipush 128 (by decide) dX11_packMatches_60 ?_
    refine pw_icmp_ge 86 dX11_packMatches_63 (by decide) (fun q => absurd q (nI_ge (b := 128) (by omega) (by omega))) (fun _ => ?_)
    refine pw_aload_n rfl dX11_packMatches_66 ?_
    refine pw_gI dX11_packMatches_67 fX11_134 (by first | rfl | assumption) rfl ?_
    refine pw_iconst 3 (by decide) dX11_packMatches_70 ?_
    rw [mxF_1]
    have hx9 : x.1 ≤ 130 := by
      by_cases h : e = a
      · have := hx1 h; omega
      · rw [hx2 h]; omega
    by_cases hq : x.1 < 3
    · have hnext : (if e = a then mend (A 63) n (min n (a + 128)) (k + 1 - 1) (a + 1) else mend (A 63) n (min n (a + 128)) (k + 1) e) = (if e + 1 = a then mend (A 63) n (min n (a + 128)) (k - 1) (a + 1) else mend (A 63) n (min n (a + 128)) k (e + 1)) := by
        rw [if_neg (by omega : ¬ e + 1 = a)]
        by_cases h : e = a
        · rw [if_pos h, h]; rfl
        · rw [if_neg h]
          show (if e < min n (a + 128) ∧ (mbest (A 63) n e (min e 255)).1 < 3 then mend (A 63) n (min n (a + 128)) k (e + 1) else e) = _
          rw [if_pos ⟨by omega, by rw [← hx2 h]; exact hq⟩]
      rw [hnext] at hk
      refine pw_icmp_ge 86 dX11_packMatches_71 (by decide) (fun q => absurd q (nI_ge (b := 3) hq (by omega))) (fun _ => ?_)
      refine ps_iinc (l' := [_, _, _, _]) 1 dX11_packMatches_74 (by decide) rfl (by decide) rfl rfl ?_
      refine pw_aload_n rfl dX11_packMatches_77 ?_
      refine pw_iload_n rfl dX11_packMatches_78 ?_
      refine pw_iload_n rfl dX11_packMatches_79 ?_
      rw [nI_1]
      refine pc_V2 dX11_packMatches_80 lX11_140 rfl rfl (by decide) (Nat.le_of_ble_eq_true rfl) ?_
      rw [← hu]
      refine mt_match hn (by omega) (fun x h1 h2 => ?_)
      refine pw_goto 52 dX11_packMatches_83 (by decide) ?_
      exact ih (e + 1) x (by omega) (by omega) (by omega) (fun _ => h1) hk
    · have hne : ¬ e = a := fun h => hq (hx1 h)
      have hnext : (if e = a then mend (A 63) n (min n (a + 128)) (k + 1 - 1) (a + 1) else mend (A 63) n (min n (a + 128)) (k + 1) e) = e := by
        rw [if_neg hne]
        show (if e < min n (a + 128) ∧ (mbest (A 63) n e (min e 255)).1 < 3 then mend (A 63) n (min n (a + 128)) k (e + 1) else e) = _
        rw [if_neg (fun z => hq (by rw [hx2 hne]; exact z.2))]
      rw [hnext] at hk
      refine pw_icmp_ge 86 dX11_packMatches_71 (by decide) (fun _ => ?_) (fun q => absurd (nI_le (a := 3) (by omega) (by omega)) q)
      exact hk x
theorem mpm_loop (hn : n ≤ 300) : ∀ (k a : Nat) (L : List Int32) (t : Nat) (x : Nat × Nat) (g3 : Value), n - a ≤ k → a ≤ n → m + L.length + 2 * (n - a) ≤ 1400 →
    (∀ l t x, PW Γ mX11_packMatches 97 l [] (MX F A m f0 (L ++ pmat (A 63) n k a) t x rf lo X) 0 0 Q) →
    PW Γ mX11_packMatches 2 [.ref 57, .int (nI n), .int (nI a), g3] [] (MX F A m f0 L t x rf lo X) 0 0 Q := by
  intro k
  induction k with
  | zero =>
    intro a L t x g3 hka ha hcap hk
    refine pw_iload_n rfl dX11_packMatches_2 ?_
    refine pw_iload_n rfl dX11_packMatches_3 ?_
    refine pw_icmp_ge 97 dX11_packMatches_4 (by decide) (fun _ => ?_) (fun q => absurd (nI_le (by omega) (by omega)) q)
    have := hk [.ref 57, .int (nI n), .int (nI a), g3] t x
    rw [show pmat (A 63) n 0 a = [] from rfl, List.append_nil] at this
    exact this
  | succ k ih =>
    intro a L t x g3 hka ha hcap hk
    by_cases han : a < n
    · have e0 : pmat (A 63) n (k + 1) a = (if 3 ≤ (mbest (A 63) n a (min a 255)).1 then [nI ((mbest (A 63) n a (min a 255)).1 + 125), nI (mbest (A 63) n a (min a 255)).2] ++ pmat (A 63) n k (a + (mbest (A 63) n a (min a 255)).1)
         else (nI (mend (A 63) n (min n (a + 128)) n (a + 1) - a - 1) :: slice (A 63) a (mend (A 63) n (min n (a + 128)) n (a + 1))) ++ pmat (A 63) n k (mend (A 63) n (min n (a + 128)) n (a + 1))) := by
        show (if a < n then _ else _) = _
        rw [if_pos han]
      rw [e0] at hk
      have hbl := mbest_le (f := A 63) (n := n) (a := a) (min a 255)
      have hbd := (mbest_d (f := A 63) (n := n) (a := a) (min a 255)).1
      have hm : most n a ≤ 130 ∧ most n a ≤ n - a := by unfold most; omega
      refine pw_iload_n rfl dX11_packMatches_2 ?_
      refine pw_iload_n rfl dX11_packMatches_3 ?_
      refine pw_icmp_ge 97 dX11_packMatches_4 (by decide) (fun q => absurd q (nI_ge (by omega) (by omega))) (fun _ => ?_)
      refine pw_aload_n rfl dX11_packMatches_7 ?_
      refine pw_iload_n rfl dX11_packMatches_8 ?_
      refine pw_iload_n rfl dX11_packMatches_9 ?_
      refine pc_V2 dX11_packMatches_10 lX11_140 rfl rfl (by decide) (Nat.le_of_ble_eq_true rfl) ?_
      refine mt_match hn (by omega) (fun x h1 h2 => ?_)
      generalize hM : mbest (A 63) n a (min a 255) = M at hk hbl hbd h1 h2
      have hu : MX F A m f0 L t x rf lo X = HS (mxF F (m + L.length) t x) (stA A 65 (app f0 m L)) rf lo X := rfl
      rw [hu]
      refine pw_aload_n rfl dX11_packMatches_13 ?_
      refine pw_gI dX11_packMatches_14 fX11_134 (by first | rfl | assumption) rfl ?_
      refine pw_iconst 2 (by decide) dX11_packMatches_17 ?_
      rw [mxF_1, h1]
      by_cases hq : 3 ≤ M.1
      · rw [if_pos hq] at hk
        refine pw_icmp_le 50 dX11_packMatches_18 (by decide) (fun q => absurd q (nI_ge (a := 2) (by omega) (by omega))) (fun _ => ?_)
        refine pw_aload_n rfl dX11_packMatches_21 ?_
        refine pw_bipush 125 (by decide) dX11_packMatches_22 ?_
        refine pw_aload_n rfl dX11_packMatches_24 ?_
        refine pw_gI dX11_packMatches_25 fX11_134 (by first | rfl | assumption) rfl ?_
        rw [mxF_1, h1, show (125 : Int32) = nI 125 from rfl]
        refine pw_iadd dX11_packMatches_28 ?_
        rw [nI_add, Nat.add_comm 125]
        refine pc_V1 dX11_packMatches_29 lX11_123 rfl rfl (by decide) (Nat.le_of_ble_eq_true rfl) ?_
        rw [← hu]
        refine mx_put (by omega) ?_
        have hu2 : MX F A m f0 (L ++ [nI (M.1 + 125)]) 8 x rf lo X = HS (mxF F (m + (L ++ [nI (M.1 + 125)]).length) 8 x) (stA A 65 (app f0 m (L ++ [nI (M.1 + 125)]))) rf lo X := rfl
        rw [hu2]
        refine pw_aload_n rfl dX11_packMatches_32 ?_
        refine pw_aload_n rfl dX11_packMatches_33 ?_
        refine pw_gI dX11_packMatches_34 fX11_137 (by first | rfl | assumption) rfl ?_
        rw [mxF_2, h2 (by omega), ← hu2]
        refine pc_V1 dX11_packMatches_37 lX11_123 rfl (by first | rfl | assumption) (by decide) (Nat.le_of_ble_eq_true rfl) ?_
        refine mx_put (by rw [List.length_append]; show m + (L.length + 1) < 1400; omega) ?_
        rw [List.append_assoc]
        have hu3 : MX F A m f0 (L ++ ([nI (M.1 + 125)] ++ [nI M.2])) 8 x rf lo X = HS (mxF F (m + (L ++ ([nI (M.1 + 125)] ++ [nI M.2])).length) 8 x) (stA A 65 (app f0 m (L ++ ([nI (M.1 + 125)] ++ [nI M.2])))) rf lo X := rfl
        rw [hu3]
        refine pw_iload_n rfl dX11_packMatches_40 ?_
        refine pw_aload_n rfl dX11_packMatches_41 ?_
        refine pw_gI dX11_packMatches_42 fX11_134 (by first | rfl | assumption) rfl ?_
        rw [mxF_1, h1, ← hu3]
        refine pw_iadd dX11_packMatches_45 ?_
        refine ps_istore_n (l' := [_, _, _, _]) dX11_packMatches_46 (by decide) rfl rfl ?_
        refine pw_goto 2 dX11_packMatches_47 (by decide) ?_
        rw [nI_add]
        refine ih _ _ _ _ _ (by omega) (by omega) (by rw [List.length_append]; show m + (L.length + 2) + _ ≤ 1400; omega) ?_
        rw [List.append_assoc]
        exact hk
      · rw [if_neg hq] at hk
        rw [← hu]
        refine pw_icmp_le 50 dX11_packMatches_18 (by decide) (fun _ => ?_) (fun q => absurd (nI_le (b := 2) (by omega) (by omega)) q)
        refine pw_iload_n rfl dX11_packMatches_50 ?_
        refine ps_istore_n (l' := [_, _, _, _]) dX11_packMatches_51 (by decide) rfl rfl ?_
        refine mp_loop hn han (min n (a + 128) - a) a x (by omega) (Nat.le_refl _) (fun _ => by omega) (fun h => absurd rfl h) (fun x => ?_)
        rw [if_pos rfl, show min n (a + 128) - a - 1 = min n (a + 128) - (a + 1) by omega, ← mend_fuel (A 63) n (min n (a + 128)) n (a + 1) (by omega)]
        have p1 := mend_ge (A 63) n (min n (a + 128)) n (a + 1)
        have p2 := mend_le (A 63) n (min n (a + 128)) n (a + 1) (by omega)
        generalize mend (A 63) n (min n (a + 128)) n (a + 1) = e at hk p1 p2
        have hsl := slice_len (A 63) a e
        refine pw_aload_n rfl dX11_packMatches_86 ?_
        refine pw_iload_n rfl dX11_packMatches_87 ?_
        refine pw_iload_n rfl dX11_packMatches_88 ?_
        refine pc_V2 dX11_packMatches_89 lX11_130 rfl (by first | rfl | assumption) (by decide) (Nat.le_of_ble_eq_true rfl) ?_
        refine mx_putRow (by omega) (by omega) (by omega) (fun t => ?_)
        refine pw_iload_n rfl dX11_packMatches_92 ?_
        refine ps_istore_n (l' := [_, _, _, _]) dX11_packMatches_93 (by decide) rfl rfl ?_
        refine pw_goto 2 dX11_packMatches_94 (by decide) ?_
        refine ih _ _ _ _ _ (by omega) (by omega) (by rw [List.length_append, List.length_cons]; omega) ?_
        rw [List.append_assoc]
        exact hk
    · have e0 : pmat (A 63) n (k + 1) a = [] := by
        show (if a < n then _ else _) = _
        rw [if_neg han]
      rw [e0, List.append_nil] at hk
      refine pw_iload_n rfl dX11_packMatches_2 ?_
      refine pw_iload_n rfl dX11_packMatches_3 ?_
      refine pw_icmp_ge 97 dX11_packMatches_4 (by decide) (fun _ => ?_) (fun q => absurd (nI_le (by omega) (by omega)) q)
      exact hk _ _ _
theorem mt_matches (hn : n ≤ 300) (hcap : m + L.length + 2 * n ≤ 1400) (hQ : ∀ t x, Q none (MX F A m f0 (L ++ pmat (A 63) n n 0) t x rf lo X)) : PM Γ mX11_packMatches [.ref 57, .int (nI n)] (MT F A m f0 L t rf lo X) 0 0 Q := by
  obtain ⟨u, hu⟩ := of_nI (F 57 29)
  obtain ⟨v, hv⟩ := of_nI (F 57 30)
  have e0 : MT F A m f0 L t rf lo X = MX F A m f0 L t (u, v) rf lo X := by
    unfold MX
    rw [upF_self (i := 57) (k := 30) (by rw [upF_n (by decide)]; exact hv.symm), upF_self (i := 57) (k := 29) hu.symm]
  rw [e0]
  refine PM.go (l := [_, _, .float 0, .float 0]) rfl rfl (Nat.le_of_ble_eq_true rfl) rfl ?_
  refine pw_iconst 0 (by decide) dX11_packMatches_0 ?_
  refine ps_istore_n (l' := [_, _, _, _]) dX11_packMatches_1 (by decide) rfl rfl ?_
  refine mpm_loop hn n 0 L t (u, v) _ (by omega) (by omega) (by omega) (fun l t x => ?_)
  refine pw_vret dX11_packMatches_97 rfl ?_
  exact hQ t x
end
