/-! THE REFERENCE reckons single tests -/
theorem pSg_b {K : Nat → Nat} {sm : Nat → PR} {s : Option (Nat → PR)} (hs : ∀ w, s = some w → ∀ p e F, w p = some (e, F) → isB F) : ∀ p e F, pSg K sm s p = some (e, F) → isB F := by
  intro p e F h
  unfold pSg at h
  split at h
  · cases s with
    | none => cases h
    | some w =>
      cases hw : w (p + 1) with
      | none => simp only [hw] at h; cases h
      | some r =>
        obtain ⟨e1, G⟩ := r
        simp only [hw] at h
        cases h
        intro kn
        rcases hs w rfl _ _ _ hw kn with h1 | h1
        · right; show 1 - G kn = 1; rw [h1]; decide
        · left; show 1 - G kn = 0; rw [h1]; decide
  · split at h
    · cases s with
      | none => cases h
      | some w =>
        cases hw : pTs K w (p + 1) with
        | none => simp only [hw] at h; cases h
        | some r =>
          obtain ⟨e1, G⟩ := r
          simp only [hw] at h
          split at h
          · cases h
            exact pJn_b (Or.inr rfl) (pJn_b (Or.inl rfl) (hs w rfl)) _ _ _ hw
          · cases h
    · cases hw : sm p with
      | none => simp only [hw] at h; cases h
      | some r =>
        obtain ⟨e1, G⟩ := r
        simp only [hw] at h
        split at h
        · rename_i hk
          cases hw2 : sm (e1 + 1) with
          | none => simp only [hw2] at h; cases h
          | some r2 =>
            obtain ⟨e2, G2⟩ := r2
            simp only [hw2] at h
            cases h
            exact fun kn => ejoin_b hk
        · cases h
theorem pSg_le {K : Nat → Nat} (hK : ∀ p, 400 ≤ p → K p = 0 ∨ K p = 1 ∨ K p = 5) {sm : Nat → PR} {s : Option (Nat → PR)} (hsm : ∀ p e F, sm p = some (e, F) → p < e ∧ e ≤ 400) (hs : ∀ w, s = some w → ∀ p e F, w p = some (e, F) → p < e ∧ e ≤ 400) : ∀ p e F, pSg K sm s p = some (e, F) → p < e ∧ e ≤ 400 := by
  intro p e F h
  unfold pSg at h
  split at h
  · cases s with
    | none => cases h
    | some w =>
      cases hw : w (p + 1) with
      | none => simp only [hw] at h; cases h
      | some r =>
        obtain ⟨e1, G⟩ := r
        simp only [hw] at h
        have := hs w rfl _ _ _ hw
        cases h
        omega
  · split at h
    · cases s with
      | none => cases h
      | some w =>
        cases hw : pTs K w (p + 1) with
        | none => simp only [hw] at h; cases h
        | some r =>
          obtain ⟨e1, G⟩ := r
          simp only [hw] at h
          have := pJn_le (pJn_le (hs w rfl)) _ _ _ hw
          split at h
          · rename_i h34
            have h4 : e1 < 400 := by
              by_cases h2 : 400 ≤ e1
              · have := hK _ h2; omega
              · omega
            cases h
            omega
          · cases h
    · cases hw : sm p with
      | none => simp only [hw] at h; cases h
      | some r =>
        obtain ⟨e1, G⟩ := r
        simp only [hw] at h
        have := hsm _ _ _ hw
        split at h
        · cases hw2 : sm (e1 + 1) with
          | none => simp only [hw2] at h; cases h
          | some r2 =>
            obtain ⟨e2, G2⟩ := r2
            simp only [hw2] at h
            have := hsm _ _ _ hw2
            cases h
            omega
        · cases h
