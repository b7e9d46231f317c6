section
/-! THE CLAIM IS FALSE: at the printed witness's own start (witness_1's), which has the larger room too -/
set_option maxRecDepth 16384 in
theorem claim_false : ¬ Claimed_1_1 := claim_falls (l := launch0) rfl start1.atStart
  ((Spec.applies_iff rfl).mpr ⟨rfl, rfl, rfl, by decide +kernel, by decide +kernel, by decide +kernel, launch0.hasRoom_least _ room_B (by decide +kernel) (by decide +kernel) (by decide +kernel) (by decide +kernel) (by decide +kernel) (by decide +kernel), atoms_intro start1.words⟩)
theorem whole_false : ¬ (Claimed_1_1 ∧ Claimed_1_2) := fun h => claim_false h.1
end
