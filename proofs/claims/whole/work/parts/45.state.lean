/-! the state of both: text, OUT, FILTERS and PACKERS, choice, lessons, place -/
abbrev CT : Type := Nat × Nat × (Nat → Nat) × (Nat → Nat) × (Nat → Nat)
abbrev ST : Type := (Nat × (Nat → Int32)) × (Nat × (Nat → Int32)) × CT × (Bool × (Nat → Int32)) × (Nat → Int32) × Int32
def bI (b : Bool) : Int32 := if b = true then 1 else 0
def OX (F A : Nat → Nat → Int32) (n : Nat) (T : Nat → Int32) : Prop := F 3 1 = nI n ∧ same (A 4) T n
def TM (F A : Nat → Nat → Int32) (n : Nat) (T : Nat → Int32) : Prop := F 57 1 = nI n ∧ same (A 58) T n
def OM (F A : Nat → Nat → Int32) (n : Nat) (T : Nat → Int32) : Prop := F 57 3 = nI n ∧ same (A 59) T n
def CX (F A : Nat → Nat → Int32) (c : Bool × (Nat → Int32)) : Prop := F 0 12 = bI c.1 ∧ (c.1 = true → same (A 55) c.2 6)
def XM (F A : Nat → Nat → Int32) (c : Bool × (Nat → Int32)) : Prop := F 57 24 = bI c.1 ∧ (c.1 = true → same (A 72) c.2 6)
def BX (F : Nat → Nat → Int32) : Prop := F 22 0 = 0 ∧ F 22 1 = 0
def CI (F A : Nat → Nat → Int32) (s : ST) : Prop := TX F A s.1.1 s.1.2 ∧ OX F A s.2.1.1 s.2.1.2 ∧ CH F A s.2.2.1.1 s.2.2.1.2.1 s.2.2.1.2.2.1 s.2.2.1.2.2.2.1 s.2.2.1.2.2.2.2 ∧ CX F A s.2.2.2.1 ∧ same (A 56) s.2.2.2.2.1 64 ∧ F 0 13 = s.2.2.2.2.2 ∧ BX F
def MI (F A : Nat → Nat → Int32) (s : ST) : Prop := TM F A s.1.1 s.1.2 ∧ OM F A s.2.1.1 s.2.1.2 ∧ CM F A s.2.2.1.1 s.2.2.1.2.1 s.2.2.1.2.2.1 s.2.2.1.2.2.2.1 s.2.2.1.2.2.2.2 ∧ XM F A s.2.2.2.1 ∧ same (A 73) s.2.2.2.2.1 64 ∧ F 57 28 = s.2.2.2.2.2
/-- what holds of a state -/
def OK (s : ST) : Prop := s.1.1 ≤ 300 ∧ isB s.1.2 s.1.1 ∧ s.2.1.1 ≤ 1024 ∧ isB s.2.1.2 s.2.1.1 ∧ (∀ i j, i < j → j < s.2.2.1.2.1 → ¬ s.2.2.1.2.2.2.2 i = s.2.2.1.2.2.2.2 j)
def INV (F A : Nat → Nat → Int32) : Prop := ∃ s : ST, OK s ∧ CI F A s ∧ MI F A s
def frC (F F' A A' : Nat → Nat → Int32) : Prop := (∀ i j, 57 ≤ i → F' i j = F i j) ∧ (∀ i, 57 ≤ i → A' i = A i)
def frM (F F' A A' : Nat → Nat → Int32) : Prop := (∀ i j, i < 57 → F' i j = F i j) ∧ (∀ i, i < 57 → A' i = A i)
section
variable {F A F' A' : Nat → Nat → Int32} {n : Nat} {T : Nat → Int32} {s : ST}
theorem TX_fr (h : TX F A n T) (h1 : F' 1 1 = F 1 1) (h2 : A' 2 = A 2) : TX F' A' n T := ⟨by rw [h1]; exact h.1, by rw [h2]; exact h.2⟩
theorem OX_fr (h : OX F A n T) (h1 : F' 3 1 = F 3 1) (h2 : A' 4 = A 4) : OX F' A' n T := ⟨by rw [h1]; exact h.1, by rw [h2]; exact h.2⟩
theorem TM_fr (h : TM F A n T) (h1 : F' 57 1 = F 57 1) (h2 : A' 58 = A 58) : TM F' A' n T := ⟨by rw [h1]; exact h.1, by rw [h2]; exact h.2⟩
theorem OM_fr (h : OM F A n T) (h1 : F' 57 3 = F 57 3) (h2 : A' 59 = A 59) : OM F' A' n T := ⟨by rw [h1]; exact h.1, by rw [h2]; exact h.2⟩
theorem CX_fr {c : Bool × (Nat → Int32)} (h : CX F A c) (h1 : F' 0 12 = F 0 12) (h2 : A' 55 = A 55) : CX F' A' c := ⟨by rw [h1]; exact h.1, by rw [h2]; exact h.2⟩
theorem XM_fr {c : Bool × (Nat → Int32)} (h : XM F A c) (h1 : F' 57 24 = F 57 24) (h2 : A' 72 = A 72) : XM F' A' c := ⟨by rw [h1]; exact h.1, by rw [h2]; exact h.2⟩
theorem BX_fr (h : BX F) (h1 : F' 22 0 = F 22 0) (h2 : F' 22 1 = F 22 1) : BX F' := ⟨by rw [h1]; exact h.1, by rw [h2]; exact h.2⟩
theorem sm_fr {f g : Nat → Int32} (h : same f T n) (h2 : g = f) : same g T n := by rw [h2]; exact h
theorem CI_fr (h : CI F A s) (hf : frM F F' A A') : CI F' A' s := by
  obtain ⟨a, b, c, d, e, f, g⟩ := h
  obtain ⟨hF, hA⟩ := hf
  exact ⟨TX_fr a (hF _ _ (by omega)) (hA _ (by omega)), OX_fr b (hF _ _ (by omega)) (hA _ (by omega)), CH_fr (hF _ _ (by omega)) (hF _ _ (by omega)) (hA _ (by omega)) (hA _ (by omega)) (hA _ (by omega)) c, CX_fr d (hF _ _ (by omega)) (hA _ (by omega)), sm_fr e (hA _ (by omega)), by rw [hF _ _ (by omega)]; exact f, BX_fr g (hF _ _ (by omega)) (hF _ _ (by omega))⟩
theorem MI_fr (h : MI F A s) (hf : frC F F' A A') : MI F' A' s := by
  obtain ⟨a, b, c, d, e, f⟩ := h
  obtain ⟨hF, hA⟩ := hf
  exact ⟨TM_fr a (hF _ _ (by omega)) (hA _ (by omega)), OM_fr b (hF _ _ (by omega)) (hA _ (by omega)), CM_fr (hF _ _ (by omega)) (hF _ _ (by omega)) (hA _ (by omega)) (hA _ (by omega)) (hA _ (by omega)) c, XM_fr d (hF _ _ (by omega)) (hA _ (by omega)), sm_fr e (hA _ (by omega)), by rw [hF _ _ (by omega)]; exact f⟩
end
/-- the reference's call that follows -/
def NXT (Γ : Nat × (Nat → Int32)) (M : MD) (ms : List Value) (lo : Int64) (X : PH) (v : Int32) (F A : Nat → Nat → Int32) (rf : Nat) : Prop :=
  ∀ Q : Option Value → PH → Prop, (∀ F' A', INV F' A' → Q (some (.int v)) (HS F' A' rf lo X)) → PM Γ M ms (HS F A rf lo X) 0 0 Q
/-- a call of the object, then the reference's: like answers, and both states go on alike -/
def OP (Γ : Nat × (Nat → Int32)) (C M : MD) (cs ms : List Value) : Prop :=
  ∀ (F A : Nat → Nat → Int32) (rf : Nat) (lo : Int64) (X : PH) (Q : Option Value → PH → Prop), INV F A → (∀ v F' A' rf', NXT Γ M ms lo X v F' A' rf' → Q (some (.int v)) (HS F' A' rf' lo X)) → PM Γ C cs (HS F A rf lo X) 0 0 Q
theorem OP_of {Γ : Nat × (Nat → Int32)} {C M : MD} {cs ms : List Value} (sp : ST → ST) (an : ST → Int32)
    (hc : ∀ (F A : Nat → Nat → Int32) (rf : Nat) (lo : Int64) (X : PH) (Q : Option Value → PH → Prop) (s : ST), OK s → CI F A s → (∀ F' A' rf', frC F F' A A' → CI F' A' (sp s) → Q (some (.int (an s))) (HS F' A' rf' lo X)) → PM Γ C cs (HS F A rf lo X) 0 0 Q)
    (hm : ∀ (F A : Nat → Nat → Int32) (rf : Nat) (lo : Int64) (X : PH) (Q : Option Value → PH → Prop) (s : ST), OK s → MI F A s → (∀ F' A', frM F F' A A' → MI F' A' (sp s) → Q (some (.int (an s))) (HS F' A' rf lo X)) → PM Γ M ms (HS F A rf lo X) 0 0 Q)
    (ho : ∀ s F A, OK s → CI F A s → OK (sp s)) : OP Γ C M cs ms := by
  intro F A rf lo X Q hI hQ
  obtain ⟨s, h1, h2, h3⟩ := hI
  refine hc F A rf lo X Q s h1 h2 ?_
  intro F1 A1 rf1 hf1 h4
  refine hQ _ _ _ _ ?_
  intro Q' hQ'
  refine hm F1 A1 rf1 lo X Q' s h1 (MI_fr h3 hf1) ?_
  intro F2 A2 hf2 h5
  exact hQ' F2 A2 ⟨sp s, ho s F A h1 h2, CI_fr h4 hf2, h5⟩
