/-! WHERE A TOKEN STANDS -/
def alT (o : Nat) : Prop := o = 2 ∨ o = 3 ∨ o = 8 ∨ o = 10 ∨ 20 ≤ o ∧ o ≠ 35
/-- what may stand in a sum or a test -/
def rOk (K : Nat → Nat) (p e : Nat) : Prop := ∀ k, p ≤ k → k < e → alT (K k) ∧ (K k = 2 → 22 ≤ K (k - 1) ∧ K (k - 1) ≤ 24)
theorem rOk.tr {K : Nat → Nat} {p q e : Nat} (h1 : rOk K p q) (h2 : rOk K q e) : rOk K p e := fun k g1 g2 => by
  by_cases h : k < q
  · exact h1 k g1 h
  · exact h2 k (by omega) g2
theorem rOk.one {K : Nat → Nat} {p : Nat} (h : alT (K p)) (h2 : K p ≠ 2) : rOk K p (p + 1) := fun k g1 g2 => by
  have e : k = p := by omega
  subst e
  exact ⟨h, fun q => absurd q h2⟩
theorem rOk.z {K : Nat → Nat} {p : Nat} : rOk K p p := fun k g1 g2 => by omega
theorem al_n {o : Nat} (h : 20 ≤ o) (h2 : o ≠ 35 := by omega) : alT o := by unfold alT; omega
def vR (K : Nat → Nat) (f : Nat → QR) : Prop := ∀ p, rOk K p (f p).1
theorem vR_Lp {K : Nat → Nat} {a b : Nat} {item : Nat → QR} (ha : 20 ≤ a ∧ a ≠ 35) (hb : 20 ≤ b ∧ b ≠ 35) (hi : vR K item) : ∀ {q p : Nat} {F : FM}, rOk K p (qLp K a b item q p F).1
  | 0, p, F => rOk.z
  | q + 1, p, F => by
    unfold qLp
    split
    · rename_i h
      have h1 : rOk K p (p + 1) := rOk.one (al_n (by omega) (by omega)) (by omega)
      cases h2 : (item (p + 1)).2 with
      | none => exact h1.tr (hi (p + 1))
      | some G => exact (h1.tr (hi (p + 1))).tr (vR_Lp ha hb hi)
    · exact rOk.z
theorem vR_Jn {K : Nat → Nat} {a b : Nat} {item : Nat → QR} (ha : 20 ≤ a ∧ a ≠ 35) (hb : 20 ≤ b ∧ b ≠ 35) (hi : vR K item) : vR K (qJn K a b item) := by
  intro p
  unfold qJn
  cases h2 : (item p).2 with
  | none => exact hi p
  | some F => exact (hi p).tr (vR_Lp ha hb hi)
theorem vR_Sm {K : Nat → Nat} {v : Nat → QR} (hi : vR K v) : vR K (qSm K v) := vR_Jn (by omega) (by omega) (vR_Jn (by omega) (by omega) hi)
theorem vR_Vl {K : Nat → Nat} {X : Nat → Int32} {v : Option (Nat → QR)} (hi : ∀ w, v = some w → vR K w) : vR K (qVl K X v) := by
  intro p
  unfold qVl
  split
  · rename_i hk
    have h1 : rOk K p (p + 1) := rOk.one (al_n (by omega) (by omega)) (by omega)
    cases v with
    | none => exact rOk.z
    | some w =>
      have h3 := h1.tr (hi w rfl (p + 1))
      cases h2 : (w (p + 1)).2 with
      | none => simp only [h2]; exact h3
      | some F => simp only [h2]; exact h3
  · split
    · rename_i hk
      exact rOk.one (by unfold alT; omega) (by omega)
    · split
      · rename_i hk
        have h1 : rOk K p (p + 1) := rOk.one (al_n (by omega) (by omega)) (by omega)
        split
        · rename_i hk2
          intro k g1 g2
          by_cases e : k < p + 1
          · exact h1 k g1 e
          · have e2 : k = p + 1 := by simp only at g2; omega
            subst e2
            exact ⟨Or.inl hk2, fun _ => by rw [show p + 1 - 1 = p by omega]; omega⟩
        · exact h1
      · split
        · rename_i hk
          have h1 : rOk K p (p + 1) := rOk.one (al_n (by omega) (by omega)) (by omega)
          cases v with
          | none => exact h1
          | some w =>
            have hw := vR_Sm (hi w rfl)
            simp only
            split
            · rename_i hk2
              have h2 : rOk K p (qSm K w (p + 2)).1 := (h1.tr (rOk.one (al_n (by omega) (by omega)) (by omega))).tr (hw (p + 2))
              cases h3 : (qSm K w (p + 2)).2 with
              | none => simp only; exact h2
              | some F =>
                simp only
                split
                · rename_i hk3
                  have h4 : rOk K p (qSm K w ((qSm K w (p + 2)).1 + 1)).1 := (h2.tr (rOk.one (al_n (by omega) (by omega)) (by omega))).tr (hw ((qSm K w (p + 2)).1 + 1))
                  cases h6 : (qSm K w ((qSm K w (p + 2)).1 + 1)).2 with
                  | none => simp only; exact h4
                  | some G =>
                    simp only
                    split
                    · rename_i hk4
                      exact h4.tr (rOk.one (al_n (by omega) (by omega)) (by omega))
                    · exact h4
                · exact h2
            · exact h1
        · split
          · rename_i hk
            have h1 : rOk K p (p + 1) := rOk.one (al_n (by omega) (by omega)) (by omega)
            cases v with
            | none => exact rOk.z
            | some w =>
              have h2 := h1.tr (vR_Sm (hi w rfl) (p + 1))
              cases h3 : (qSm K w (p + 1)).2 with
              | none => simp only [h3]; exact h2
              | some F =>
                simp only [h3]
                split
                · rename_i hk3
                  exact h2.tr (rOk.one (al_n (by omega) (by omega)) (by omega))
                · exact h2
          · exact rOk.z
theorem vR_V {K : Nat → Nat} {X : Nat → Int32} : ∀ r, vR K (qV K X r)
  | 0 => vR_Vl (fun w h => by cases h)
  | r + 1 => vR_Vl (fun w h => by cases h; exact vR_V r)
theorem vR_S {K : Nat → Nat} {X : Nat → Int32} (r : Nat) : vR K (qS K X r) := vR_Sm (vR_V r)
theorem vR_Ts {K : Nat → Nat} {s : Nat → QR} (hi : vR K s) : vR K (qTs K s) := vR_Jn (by omega) (by omega) (vR_Jn (by omega) (by omega) hi)
theorem vR_Sg {K : Nat → Nat} {sm : Nat → QR} {s : Option (Nat → QR)} (hm : vR K sm) (hi : ∀ w, s = some w → vR K w) : vR K (qSg K sm s) := by
  intro p
  unfold qSg
  split
  · rename_i hk
    have h1 : rOk K p (p + 1) := rOk.one (al_n (by omega) (by omega)) (by omega)
    cases s with
    | none => exact rOk.z
    | some w =>
      have h3 := h1.tr (hi w rfl (p + 1))
      cases h2 : (w (p + 1)).2 with
      | none => simp only [h2]; exact h3
      | some F => simp only [h2]; exact h3
  · split
    · rename_i hk
      have h1 : rOk K p (p + 1) := rOk.one (al_n (by omega) (by omega)) (by omega)
      cases s with
      | none => exact rOk.z
      | some w =>
        have h2 := h1.tr (vR_Ts (hi w rfl) (p + 1))
        cases h3 : (qTs K w (p + 1)).2 with
        | none => simp only [h3]; exact h2
        | some F =>
          simp only [h3]
          split
          · rename_i hk3
            exact h2.tr (rOk.one (al_n (by omega) (by omega)) (by omega))
          · exact h2
    · have h2 := hm p
      cases h3 : (sm p).2 with
      | none => simp only; exact h2
      | some F =>
        simp only
        split
        · rename_i hk3
          have h5 := (h2.tr (rOk.one (al_n (by omega) (by omega)) (by omega))).tr (hm ((sm p).1 + 1))
          cases h6 : (sm ((sm p).1 + 1)).2 with
          | none => simp only; exact h5
          | some G => simp only; exact h5
        · exact h2
theorem vR_G {K : Nat → Nat} {X : Nat → Int32} : ∀ r, vR K (qG K X r)
  | 0 => vR_Sg (vR_S 0) (fun w h => by cases h)
  | r + 1 => vR_Sg (vR_S (r + 1)) (fun w h => by cases h; exact vR_G r)
theorem vR_T {K : Nat → Nat} {X : Nat → Int32} (r : Nat) : vR K (qT K X r) := vR_Ts (vR_G r)
/-! each token of a list -/
def hC (K : Nat → Nat) (k : Nat) : Prop := ∃ j, j + 2 ≤ k ∧ K j = 5 ∧ K (j + 1) = 2
def hO (K : Nat → Nat) (k : Nat) : Prop := ∃ j, j < k ∧ K j = 17
theorem hC.up {K : Nat → Nat} {k k' : Nat} (h : hC K k) (hk : k ≤ k') : hC K k' := by
  obtain ⟨j, h1, h2⟩ := h
  exact ⟨j, by omega, h2⟩
def cxT (K : Nat → Nat) (M : Nat → Prop) (k : Nat) : Prop :=
  (M k → 8 ≤ K k ∧ K k ≤ 12 ∧ hC K k) ∧
  (K k = 2 → K (k - 1) = 5 ∨ K (k - 1) = 16 ∨ K (k - 1) = 17 ∨ (K (k - 1) = 18 ∧ hO K k) ∨ (K (k - 1) = 14 ∧ 3 ≤ k ∧ K (k - 2) = 3 ∧ (K (k - 3) = 13 ∨ K (k - 3) = 15)) ∨ ((K (k - 1) = 11 ∨ K (k - 1) = 12) ∧ 1 ≤ k ∧ M (k - 1)) ∨ (22 ≤ K (k - 1) ∧ K (k - 1) ≤ 24)) ∧
  (K k = 3 → 1 ≤ k ∧ (K (k - 1) = 6 ∨ K (k - 1) = 7 → hC K k)) ∧ (K k = 19 → 4 ≤ k ∧ K (k - 4) = 17)
theorem cx_r {K : Nat → Nat} {M : Nat → Prop} {p e : Nat} (h : rOk K p e) (hp1 : 1 ≤ p) (hp : K (p - 1) ≠ 6 ∧ K (p - 1) ≠ 7) (hM : ∀ k, p ≤ k → k < e → ¬ M k) : ∀ k, p ≤ k → k < e → cxT K M k ∧ K k ≠ 17 := by
  intro k g1 g2
  have h1 := h k g1 g2
  refine ⟨⟨fun q => absurd q (hM k g1 g2), fun q => ?_, fun q1 => ⟨by omega, fun q2 => ?_⟩, fun q => ?_⟩, fun q => ?_⟩
  · have := h1.2 q
    exact Or.inr (Or.inr (Or.inr (Or.inr (Or.inr (Or.inr this)))))
  · exfalso
    by_cases e : k = p
    · subst e; omega
    · have := (h (k - 1) (by omega) (by omega)).1
      unfold alT at this
      omega
  · have := h1.1; unfold alT at this; omega
  · have := h1.1; unfold alT at this; omega
/-- a token of which nothing is asked -/
theorem cx_0 {K : Nat → Nat} {M : Nat → Prop} {k : Nat} (hM : ¬ M k) (h2 : K k ≠ 2) (h3 : K k ≠ 3) (h19 : K k ≠ 19) : cxT K M k := ⟨fun q => absurd q hM, fun q => absurd q h2, fun q => absurd q h3, fun q => absurd q h19⟩
theorem cx_Dd {K : Nat → Nat} {X : Nat → Int32} {M : Nat → Prop} {p : Nat} (hC0 : hC K p) (h8 : 8 ≤ K p ∧ K p ≤ 12) (hM : M p) (hN : ∀ k, p < k → k < (qDd K X p).1 → ¬ M k) : ∀ k, p ≤ k → k < (qDd K X p).1 → cxT K M k ∧ K k ≠ 17 := by
  intro k g1 g2
  by_cases e : k = p
  · subst e
    exact ⟨⟨fun _ => ⟨h8.1, h8.2, hC0⟩, fun q => by omega, fun q => by omega, fun q => by omega⟩, by omega⟩
  · have hn : K (k - 1) = 11 ∨ K (k - 1) = 12 → k = p + 1 → K k = 2 → cxT K M k ∧ K k ≠ 17 := by
      intro q1 q2 q3
      refine ⟨⟨fun q => absurd q (hN k (by omega) g2), fun _ => ?_, fun q => by omega, fun q => by omega⟩, by omega⟩
      have e1 : k - 1 = p := by omega
      exact Or.inr (Or.inr (Or.inr (Or.inr (Or.inr (Or.inl ⟨q1, by omega, by rw [e1]; exact hM⟩)))))
    unfold qDd at hN g2
    by_cases h11 : 11 ≤ K p
    · rw [if_pos h11] at hN g2
      by_cases h2 : K (p + 1) = 2
      · rw [if_pos h2] at hN g2
        by_cases e1 : k = p + 1
        · exact hn (by rw [e1, show p + 1 - 1 = p by omega]; omega) e1 (by rw [e1]; exact h2)
        · by_cases h12 : K p = 12
          · rw [if_pos h12] at hN g2
            exact cx_r (p := p + 2) (vR_S (X := X) 8 (p + 2)) (by omega) (by rw [show p + 2 - 1 = p + 1 by omega]; omega) (fun j j1 j2 => hN j (by omega) j2) k (by omega) g2
          · rw [if_neg h12] at hN g2
            simp only at g2
            omega
      · rw [if_neg h2] at hN g2
        simp only at g2
        omega
    · rw [if_neg h11] at hN g2
      exact cx_r (p := p + 1) (vR_S (X := X) 8 (p + 1)) (by omega) (by rw [show p + 1 - 1 = p by omega]; omega) (fun j j1 j2 => hN j (by omega) j2) k (by omega) g2
theorem cx_Ds {K : Nat → Nat} {X : Nat → Int32} {N : Nat} {M : Nat → Prop} (hK : K N ≤ 1) : ∀ {q p : Nat}, p ≤ N → hC K p → (∀ k, p ≤ k → k < (qDs K X q p).1 → (M k ↔ k ∈ (qDs K X q p).2.2)) → ∀ k, p ≤ k → k < (qDs K X q p).1 → cxT K M k ∧ K k ≠ 17
  | 0, p, hp, hc, hM, k, g1, g2 => by
    have : k < p := g2
    omega
  | q + 1, p, hp, hc, hM, k, g1, g2 => by
    unfold qDs at hM g2
    by_cases h8 : 8 ≤ K p ∧ K p ≤ 12
    · rw [if_pos h8] at hM g2
      have hb := qDd_b (X := X) hK hp h8.1
      by_cases hd : (qDd K X p).2 = true
      · rw [if_pos hd] at hM g2
        have hr := dOk_Ds (X := X) hK (q := q) hb.2
        have g2' : k < (qDs K X q (qDd K X p).1).1 := g2
        by_cases h : k < (qDd K X p).1
        · refine cx_Dd hc h8 ?_ ?_ k g1 h
          · exact (hM p (Nat.le_refl _) (by show p < (qDs K X q (qDd K X p).1).1; have := hr.1; omega)).mpr (List.mem_cons_self ..)
          · intro j j1 j2 jm
            have := (hM j (by omega) (by show j < (qDs K X q (qDd K X p).1).1; have := hr.1; omega)).mp jm
            rcases List.mem_cons.mp this with z | z
            · omega
            · have := (hr.2.2 j z).1
              omega
        · refine cx_Ds hK hb.2 (hc.up (by omega)) (fun j j1 j2 => ?_) k (by omega) g2'
          rw [hM j (by omega) j2]
          constructor
          · intro z
            rcases List.mem_cons.mp z with y | y
            · omega
            · exact y
          · intro z
            exact List.mem_cons_of_mem _ z
      · rw [if_neg hd] at hM g2
        refine cx_Dd hc h8 ?_ ?_ k g1 g2
        · exact (hM p (Nat.le_refl _) (by show p < (qDd K X p).1; omega)).mpr (List.mem_cons_self ..)
        · intro j j1 j2 jm
          have := (hM j (by omega) j2).mp jm
          rcases List.mem_cons.mp this with z | z
          · omega
          · cases z
    · rw [if_neg h8] at g2
      have : k < p := g2
      omega
theorem cx_5 {K : Nat → Nat} {M : Nat → Prop} {p n : Nat} (hM : ∀ k, p ≤ k → k < p + n → ¬ M k) (h0 : K p = 5) (h1 : 2 ≤ n → K (p + 1) = 2) (h2 : 3 ≤ n → K (p + 2) = 6) (h3 : 4 ≤ n → K (p + 3) = 3) (h4 : 5 ≤ n → K (p + 4) = 7) (h5 : 6 ≤ n → K (p + 5) = 3) (hn : n ≤ 6) : ∀ k, p ≤ k → k < p + n → cxT K M k ∧ (K k = 17 → k = p) := by
  intro k g1 g2
  have hm := hM k g1 g2
  have hk : k = p ∨ k = p + 1 ∨ k = p + 2 ∨ k = p + 3 ∨ k = p + 4 ∨ k = p + 5 := by omega
  rcases hk with e | e | e | e | e | e <;> subst e
  · exact ⟨cx_0 hm (by omega) (by omega) (by omega), fun _ => rfl⟩
  · have := h1 (by omega)
    exact ⟨⟨fun q => absurd q hm, fun _ => Or.inl (by rw [show p + 1 - 1 = p by omega]; exact h0), fun q => by omega, fun q => by omega⟩, fun q => by omega⟩
  · have := h2 (by omega)
    exact ⟨cx_0 hm (by omega) (by omega) (by omega), fun q => by omega⟩
  · have := h3 (by omega)
    exact ⟨⟨fun q => absurd q hm, fun q => by omega, fun _ => ⟨by omega, fun _ => ⟨p, by omega, h0, h1 (by omega)⟩⟩, fun q => by omega⟩, fun q => by omega⟩
  · have := h4 (by omega)
    exact ⟨cx_0 hm (by omega) (by omega) (by omega), fun q => by omega⟩
  · have := h5 (by omega)
    exact ⟨⟨fun q => absurd q hm, fun q => by omega, fun _ => ⟨by omega, fun _ => ⟨p, by omega, h0, h1 (by omega)⟩⟩, fun q => by omega⟩, fun q => by omega⟩
theorem cx_13 {K : Nat → Nat} {M : Nat → Prop} {p n : Nat} (hM : ∀ k, p ≤ k → k < p + n → ¬ M k) (h0 : K p = 13 ∨ K p = 15) (h1 : 2 ≤ n → K (p + 1) = 3) (h2 : 3 ≤ n → K (p + 2) = 14) (h3 : 4 ≤ n → K (p + 3) = 2) (hn : n ≤ 4) : ∀ k, p ≤ k → k < p + n → cxT K M k ∧ (K k = 17 → k = p) := by
  intro k g1 g2
  have hm := hM k g1 g2
  have hk : k = p ∨ k = p + 1 ∨ k = p + 2 ∨ k = p + 3 := by omega
  rcases hk with e | e | e | e <;> subst e
  · exact ⟨cx_0 hm (by omega) (by omega) (by omega), fun _ => rfl⟩
  · have := h1 (by omega)
    exact ⟨⟨fun q => absurd q hm, fun q => by omega, fun _ => ⟨by omega, fun q => by rw [show p + 1 - 1 = p by omega] at q; omega⟩, fun q => by omega⟩, fun q => by omega⟩
  · have := h2 (by omega)
    exact ⟨cx_0 hm (by omega) (by omega) (by omega), fun q => by omega⟩
  · have a := h3 (by omega)
    have b := h2 (by omega)
    have c := h1 (by omega)
    refine ⟨⟨fun q => absurd q hm, fun _ => ?_, fun q => by omega, fun q => by omega⟩, fun q => by omega⟩
    rw [show p + 3 - 1 = p + 2 by omega, show p + 3 - 2 = p + 1 by omega, show p + 3 - 3 = p by omega]
    exact Or.inr (Or.inr (Or.inr (Or.inr (Or.inl ⟨b, by omega, c, h0⟩))))
theorem cx_16 {K : Nat → Nat} {M : Nat → Prop} {p n : Nat} (hM : ∀ k, p ≤ k → k < p + n → ¬ M k) (h0 : K p = 16) (h1 : 2 ≤ n → K (p + 1) = 2) (hn : n ≤ 2) : ∀ k, p ≤ k → k < p + n → cxT K M k ∧ (K k = 17 → k = p) := by
  intro k g1 g2
  have hm := hM k g1 g2
  have hk : k = p ∨ k = p + 1 := by omega
  rcases hk with e | e <;> subst e
  · exact ⟨cx_0 hm (by omega) (by omega) (by omega), fun _ => rfl⟩
  · have := h1 (by omega)
    exact ⟨⟨fun q => absurd q hm, fun _ => Or.inr (Or.inl (by rw [show p + 1 - 1 = p by omega]; exact h0)), fun q => by omega, fun q => by omega⟩, fun q => by omega⟩
theorem cx_17 {K : Nat → Nat} {M : Nat → Prop} {p n : Nat} (hM : ∀ k, p ≤ k → k < p + n → ¬ M k) (h0 : K p = 17) (h1 : 2 ≤ n → K (p + 1) = 2) (h2 : 3 ≤ n → K (p + 2) = 18) (h3 : 4 ≤ n → K (p + 3) = 2) (h4 : 5 ≤ n → K (p + 4) = 19) (hn : n ≤ 5) : ∀ k, p ≤ k → k < p + n → cxT K M k ∧ (K k = 17 → k = p) := by
  intro k g1 g2
  have hm := hM k g1 g2
  have hk : k = p ∨ k = p + 1 ∨ k = p + 2 ∨ k = p + 3 ∨ k = p + 4 := by omega
  rcases hk with e | e | e | e | e <;> subst e
  · exact ⟨cx_0 hm (by omega) (by omega) (by omega), fun _ => rfl⟩
  · have := h1 (by omega)
    exact ⟨⟨fun q => absurd q hm, fun _ => Or.inr (Or.inr (Or.inl (by rw [show p + 1 - 1 = p by omega]; exact h0))), fun q => by omega, fun q => by omega⟩, fun q => by omega⟩
  · have := h2 (by omega)
    exact ⟨cx_0 hm (by omega) (by omega) (by omega), fun q => by omega⟩
  · have a := h3 (by omega)
    have b := h2 (by omega)
    refine ⟨⟨fun q => absurd q hm, fun _ => ?_, fun q => by omega, fun q => by omega⟩, fun q => by omega⟩
    rw [show p + 3 - 1 = p + 2 by omega]
    exact Or.inr (Or.inr (Or.inr (Or.inl ⟨b, p, by omega, h0⟩)))
  · have a := h4 (by omega)
    exact ⟨⟨fun q => absurd q hm, fun q => by omega, fun q => by omega, fun _ => ⟨by omega, by rw [show p + 4 - 4 = p by omega]; exact h0⟩⟩, fun q => by omega⟩
theorem cx_Ln {K : Nat → Nat} {X : Nat → Int32} {N p : Nat} {M : Nat → Prop} (hK : K N ≤ 1) (hp : p ≤ N) (hM : ∀ k, p ≤ k → k < (qLn K X p).1 → (M k ↔ k ∈ (qLn K X p).2.2)) : ∀ k, p ≤ k → k < (qLn K X p).1 → cxT K M k ∧ (K k = 17 → k = p) := by
  have hlt : ∀ p, p ≤ N → 2 ≤ K p → p < N := fun p h1 h2 => by
    by_cases e : p = N
    · subst e; omega
    · omega
  obtain ⟨r, hr⟩ : ∃ r, r = qLn K X p := ⟨_, rfl⟩
  rw [← hr] at hM ⊢
  have none : r.2.2 = [] → ∀ k, p ≤ k → k < r.1 → ¬ M k := fun h k g1 g2 gm => by
    have := (hM k g1 g2).mp gm
    rw [h] at this
    cases this
  unfold qLn at hr
  by_cases k5 : K p = 5
  · rw [if_pos k5] at hr
    by_cases k1 : K (p + 1) = 2
    · rw [if_pos k1] at hr
      by_cases k2 : K (p + 2) = 6
      · rw [if_pos k2] at hr
        by_cases k3 : K (p + 3) = 3
        · rw [if_pos k3] at hr
          by_cases k4 : K (p + 4) = 7
          · rw [if_pos k4] at hr
            by_cases k5' : K (p + 5) = 3
            · rw [if_pos k5'] at hr
              have n0 := hlt p hp (by omega)
              have n1 := hlt (p + 1) (by omega) (by omega)
              have n2 := hlt (p + 2) (by omega) (by omega)
              have n3 := hlt (p + 3) (by omega) (by omega)
              have n4 := hlt (p + 4) (by omega) (by omega)
              have n5 := hlt (p + 5) (by omega) (by omega)
              subst hr
              have hb := dOk_Ds (X := X) hK (q := 400) (p := p + 6) (by omega)
              intro k g1 g2
              by_cases h : k < p + 6
              · refine cx_5 (n := 6) ?_ k5 (fun _ => k1) (fun _ => k2) (fun _ => k3) (fun _ => k4) (fun _ => k5') (by omega) k g1 h
                intro j j1 j2 jm
                have := (hM j j1 (by have := hb.1; omega)).mp jm
                have := (hb.2.2 j this).1
                omega
              · have z := cx_Ds (X := X) hK (q := 400) (p := p + 6) (by omega) ⟨p, by omega, k5, k1⟩ (fun j j1 j2 => hM j (by omega) j2) k (by omega) g2
                exact ⟨z.1, fun q => absurd q z.2⟩
            · rw [if_neg k5'] at hr
              subst hr
              exact cx_5 (none rfl) k5 (fun _ => k1) (fun _ => k2) (fun _ => k3) (fun _ => k4) (fun _ => by omega) (by omega)
          · rw [if_neg k4] at hr
            subst hr
            exact cx_5 (none rfl) k5 (fun _ => k1) (fun _ => k2) (fun _ => k3) (fun _ => by omega) (fun _ => by omega) (by omega)
        · rw [if_neg k3] at hr
          subst hr
          exact cx_5 (none rfl) k5 (fun _ => k1) (fun _ => k2) (fun _ => by omega) (fun _ => by omega) (fun _ => by omega) (by omega)
      · rw [if_neg k2] at hr
        subst hr
        exact cx_5 (none rfl) k5 (fun _ => k1) (fun _ => by omega) (fun _ => by omega) (fun _ => by omega) (fun _ => by omega) (by omega)
    · rw [if_neg k1] at hr
      subst hr
      exact cx_5 (none rfl) k5 (fun _ => by omega) (fun _ => by omega) (fun _ => by omega) (fun _ => by omega) (fun _ => by omega) (by omega)
  · rw [if_neg k5] at hr
    by_cases k13 : K p = 13 ∨ K p = 15
    · rw [if_pos k13] at hr
      by_cases k1 : K (p + 1) = 3
      · rw [if_pos k1] at hr
        by_cases k2 : K (p + 2) = 14
        · rw [if_pos k2] at hr
          by_cases k3 : K (p + 3) = 2
          · rw [if_pos k3] at hr
            subst hr
            exact cx_13 (none rfl) k13 (fun _ => k1) (fun _ => k2) (fun _ => k3) (by omega)
          · rw [if_neg k3] at hr
            subst hr
            exact cx_13 (none rfl) k13 (fun _ => k1) (fun _ => k2) (fun _ => by omega) (by omega)
        · rw [if_neg k2] at hr
          subst hr
          exact cx_13 (none rfl) k13 (fun _ => k1) (fun _ => by omega) (fun _ => by omega) (by omega)
      · rw [if_neg k1] at hr
        subst hr
        exact cx_13 (none rfl) k13 (fun _ => by omega) (fun _ => by omega) (fun _ => by omega) (by omega)
    · rw [if_neg k13] at hr
      by_cases k16 : K p = 16
      · rw [if_pos k16] at hr
        by_cases k1 : K (p + 1) = 2
        · rw [if_pos k1] at hr
          subst hr
          exact cx_16 (none rfl) k16 (fun _ => k1) (by omega)
        · rw [if_neg k1] at hr
          subst hr
          exact cx_16 (none rfl) k16 (fun _ => by omega) (by omega)
      · rw [if_neg k16] at hr
        by_cases k17 : K p = 17
        · rw [if_pos k17] at hr
          by_cases k1 : K (p + 1) = 2
          · rw [if_pos k1] at hr
            by_cases k2 : K (p + 2) = 18
            · rw [if_pos k2] at hr
              by_cases k3 : K (p + 3) = 2
              · rw [if_pos k3] at hr
                by_cases k4 : K (p + 4) = 19
                · rw [if_pos k4] at hr
                  subst hr
                  have hn := none rfl
                  intro k g1 g2
                  by_cases h : k < p + 5
                  · exact cx_17 (n := 5) (fun j j1 j2 => hn j j1 (by
                      have n0 := hlt p hp (by omega)
                      have n1 := hlt (p + 1) (by omega) (by omega)
                      have n2 := hlt (p + 2) (by omega) (by omega)
                      have n3 := hlt (p + 3) (by omega) (by omega)
                      have n4 := hlt (p + 4) (by omega) (by omega)
                      have hq := qOk_T (X := X) hK 8 (p + 5) (by omega)
                      have g2' : k < (qT K X 8 (p + 5)).1 := g2
                      show j < (qT K X 8 (p + 5)).1
                      omega)) k17 (fun _ => k1) (fun _ => k2) (fun _ => k3) (fun _ => k4) (by omega) k g1 h
                  · have z := cx_r (p := p + 5) (vR_T (X := X) 8 (p + 5)) (by omega) (by rw [show p + 5 - 1 = p + 4 by omega]; omega) (fun j j1 j2 => hn j (by omega) j2) k (by omega) g2
                    exact ⟨z.1, fun q => absurd q z.2⟩
                · rw [if_neg k4] at hr
                  subst hr
                  exact cx_17 (none rfl) k17 (fun _ => k1) (fun _ => k2) (fun _ => k3) (fun _ => by omega) (by omega)
              · rw [if_neg k3] at hr
                subst hr
                exact cx_17 (none rfl) k17 (fun _ => k1) (fun _ => k2) (fun _ => by omega) (fun _ => by omega) (by omega)
            · rw [if_neg k2] at hr
              subst hr
              exact cx_17 (none rfl) k17 (fun _ => k1) (fun _ => by omega) (fun _ => by omega) (fun _ => by omega) (by omega)
          · rw [if_neg k1] at hr
            subst hr
            exact cx_17 (none rfl) k17 (fun _ => by omega) (fun _ => by omega) (fun _ => by omega) (fun _ => by omega) (by omega)
        · rw [if_neg k17] at hr
          subst hr
          intro k g1 g2
          have : k < p := g2
          omega
theorem buy_Ln {K : Nat → Nat} {X : Nat → Int32} {N p : Nat} (hK : K N ≤ 1) (hp : p ≤ N) (h17 : K p = 17) (hok : (qLn K X p).2.1 = true) : p + 4 ≤ (qLn K X p).1 ∧ K (p + 1) = 2 ∧ K (p + 2) = 18 ∧ K (p + 3) = 2 ∧ (K (p + 4) = 19 → (qT K X 8 (p + 5)).2.isSome = true) := by
  have hlt : ∀ p, p ≤ N → 2 ≤ K p → p < N := fun p h1 h2 => by
    by_cases e : p = N
    · subst e; omega
    · omega
  obtain ⟨r, hr⟩ : ∃ r, r = qLn K X p := ⟨_, rfl⟩
  rw [← hr] at hok ⊢
  unfold qLn at hr
  rw [if_neg (by omega), if_neg (by omega), if_neg (by omega), if_pos h17] at hr
  have n0 := hlt p hp (by omega)
  by_cases k1 : K (p + 1) = 2
  · rw [if_pos k1] at hr
    by_cases k2 : K (p + 2) = 18
    · rw [if_pos k2] at hr
      by_cases k3 : K (p + 3) = 2
      · rw [if_pos k3] at hr
        refine ⟨?_, k1, k2, k3, fun k4 => by rw [if_pos k4] at hr; subst hr; exact hok⟩
        by_cases k4 : K (p + 4) = 19
        · rw [if_pos k4] at hr
          have n1 := hlt (p + 1) (by omega) (by omega)
          have n2 := hlt (p + 2) (by omega) (by omega)
          have n3 := hlt (p + 3) (by omega) (by omega)
          have n4 := hlt (p + 4) (by omega) (by omega)
          have hq := qOk_T (X := X) hK 8 (p + 5) (by omega)
          subst hr
          show p + 4 ≤ (qT K X 8 (p + 5)).1
          omega
        · rw [if_neg k4] at hr
          subst hr
          exact Nat.le_refl _
      · rw [if_neg k3] at hr
        subst hr
        cases hok
    · rw [if_neg k2] at hr
      subst hr
      cases hok
  · rw [if_neg k1] at hr
    subst hr
    cases hok
theorem cx_Ls {K : Nat → Nat} {X : Nat → Int32} {N : Nat} {M : Nat → Prop} (hK : K N ≤ 1) : ∀ {q p : Nat}, p ≤ N → (∀ k, p ≤ k → k < (qLs K X q p).1 → (M k ↔ k ∈ (qLs K X q p).2.2)) → ∀ k, p ≤ k → k < (qLs K X q p).1 → cxT K M k ∧ ((qLs K X q p).2.1 = true → K k = 17 → k + 4 ≤ (qLs K X q p).1 ∧ K (k + 1) = 2 ∧ K (k + 2) = 18 ∧ K (k + 3) = 2 ∧ (K (k + 4) = 19 → (qT K X 8 (k + 5)).2.isSome = true))
  | 0, p, hp, hM, k, g1, g2 => by
    have : k < p := g2
    omega
  | q + 1, p, hp, hM, k, g1, g2 => by
    have hlt : ∀ p, p ≤ N → 2 ≤ K p → p < N := fun p h1 h2 => by
      by_cases e : p = N
      · subst e; omega
      · omega
    unfold qLs at hM g2 ⊢
    by_cases k1 : K p = 1
    · rw [if_pos k1] at g2
      have : k < p := g2
      omega
    · rw [if_neg k1] at hM g2 ⊢
      have hl := dOk_Ln (X := X) hK hp
      by_cases hb : (qLn K X p).2.1 = true
      · rw [if_pos hb] at hM g2 ⊢
        by_cases k35 : K (qLn K X p).1 = 35
        · rw [if_pos k35] at hM g2 ⊢
          have hn := hlt _ hl.2.1 (by omega)
          have hs := dOk_Ls (X := X) hK (q := q) (p := (qLn K X p).1 + 1) hn
          have g2' : k < (qLs K X q ((qLn K X p).1 + 1)).1 := g2
          have nm : ¬ M (qLn K X p).1 := fun z => by
            have := (hM (qLn K X p).1 hl.1 (by show (qLn K X p).1 < (qLs K X q ((qLn K X p).1 + 1)).1; have := hs.1; omega)).mp z
            rcases List.mem_append.mp this with y | y
            · have := (hl.2.2 _ y).2
              omega
            · have := (hs.2.2 _ y).1
              omega
          by_cases c1 : k < (qLn K X p).1
          · have z := cx_Ln (M := M) hK hp (fun j j1 j2 => by
              rw [hM j j1 (by show j < (qLs K X q ((qLn K X p).1 + 1)).1; have := hs.1; omega)]
              constructor
              · intro y
                rcases List.mem_append.mp y with w | w
                · exact w
                · have := (hs.2.2 _ w).1
                  omega
              · intro y
                exact List.mem_append_left _ y) k g1 c1
            refine ⟨z.1, fun _ h17 => ?_⟩
            have e := z.2 h17
            subst e
            have y := buy_Ln hK hp h17 hb
            exact ⟨by show k + 4 ≤ (qLs K X q ((qLn K X k).1 + 1)).1; have := hs.1; omega, y.2⟩
          · by_cases c2 : k = (qLn K X p).1
            · subst c2
              exact ⟨cx_0 nm (by omega) (by omega) (by omega), fun _ h17 => by omega⟩
            · exact cx_Ls hK hn (fun j j1 j2 => by
                rw [hM j (by have := hl.1; omega) j2]
                constructor
                · intro y
                  rcases List.mem_append.mp y with w | w
                  · have := (hl.2.2 _ w).2
                    omega
                  · exact w
                · intro y
                  exact List.mem_append_right _ y) k (by omega) g2'
        · rw [if_neg k35] at hM g2 ⊢
          exact ⟨(cx_Ln (M := M) hK hp hM k g1 g2).1, fun h => by cases h⟩
      · rw [if_neg hb] at hM g2 ⊢
        exact ⟨(cx_Ln (M := M) hK hp hM k g1 g2).1, fun h => by cases h⟩
/-- the deeds of a list that is right are right -/
theorem dd_Ds {K : Nat → Nat} {X : Nat → Int32} {N : Nat} (hK : K N ≤ 1) : ∀ {q p : Nat}, p ≤ N → (qDs K X q p).2.1 = true → ∀ k, k ∈ (qDs K X q p).2.2 → (8 ≤ K k ∧ K k ≤ 12) ∧ (qDd K X k).2 = true ∧ (qDd K X k).1 ≤ (qDs K X q p).1
  | 0, p, hp, h, k, hk => by cases hk
  | q + 1, p, hp, h, k, hk => by
    unfold qDs at h hk ⊢
    by_cases h8 : 8 ≤ K p ∧ K p ≤ 12
    · rw [if_pos h8] at h hk ⊢
      have hb := qDd_b (X := X) hK hp h8.1
      by_cases hd : (qDd K X p).2 = true
      · rw [if_pos hd] at h hk ⊢
        rcases List.mem_cons.mp hk with z | z
        · subst z
          exact ⟨h8, hd, (dOk_Ds (X := X) hK (q := q) hb.2).1⟩
        · exact dd_Ds hK hb.2 h k z
      · rw [if_neg hd] at h; cases h
    · rw [if_neg h8] at hk; cases hk
theorem dd_Ln {K : Nat → Nat} {X : Nat → Int32} {N p : Nat} (hK : K N ≤ 1) (hp : p ≤ N) (hok : (qLn K X p).2.1 = true) : ∀ k, k ∈ (qLn K X p).2.2 → (8 ≤ K k ∧ K k ≤ 12) ∧ (qDd K X k).2 = true ∧ (qDd K X k).1 ≤ (qLn K X p).1 := by
  have hlt : ∀ p, p ≤ N → 2 ≤ K p → p < N := fun p h1 h2 => by
    by_cases e : p = N
    · subst e; omega
    · omega
  intro k hk
  unfold qLn at hok hk ⊢
  by_cases k5 : K p = 5
  · rw [if_pos k5] at hok hk ⊢
    by_cases k1 : K (p + 1) = 2
    · rw [if_pos k1] at hok hk ⊢
      by_cases k2 : K (p + 2) = 6
      · rw [if_pos k2] at hok hk ⊢
        by_cases k3 : K (p + 3) = 3
        · rw [if_pos k3] at hok hk ⊢
          by_cases k4 : K (p + 4) = 7
          · rw [if_pos k4] at hok hk ⊢
            by_cases k5' : K (p + 5) = 3
            · rw [if_pos k5'] at hok hk ⊢
              have n0 := hlt p hp (by omega)
              have n1 := hlt (p + 1) (by omega) (by omega)
              have n2 := hlt (p + 2) (by omega) (by omega)
              have n3 := hlt (p + 3) (by omega) (by omega)
              have n4 := hlt (p + 4) (by omega) (by omega)
              have n5 := hlt (p + 5) (by omega) (by omega)
              exact dd_Ds hK (by omega) hok k hk
            · rw [if_neg k5'] at hk; cases hk
          · rw [if_neg k4] at hk; cases hk
        · rw [if_neg k3] at hk; cases hk
      · rw [if_neg k2] at hk; cases hk
    · rw [if_neg k1] at hk; cases hk
  · exfalso
    rw [if_neg k5] at hk
    repeat' (first | (cases hk; done) | split at hk)
theorem dd_Ls {K : Nat → Nat} {X : Nat → Int32} {N : Nat} (hK : K N ≤ 1) : ∀ {q p : Nat}, p ≤ N → (qLs K X q p).2.1 = true → K (qLs K X q p).1 = 1 ∧ ∀ k, k ∈ (qLs K X q p).2.2 → (8 ≤ K k ∧ K k ≤ 12) ∧ (qDd K X k).2 = true ∧ (qDd K X k).1 ≤ (qLs K X q p).1
  | 0, p, hp, h => by cases h
  | q + 1, p, hp, h => by
    have hlt : ∀ p, p ≤ N → 2 ≤ K p → p < N := fun p h1 h2 => by
      by_cases e : p = N
      · subst e; omega
      · omega
    unfold qLs at h ⊢
    by_cases k1 : K p = 1
    · rw [if_pos k1]
      exact ⟨k1, fun k hk => by cases hk⟩
    · rw [if_neg k1] at h ⊢
      have hl := dOk_Ln (X := X) hK hp
      by_cases hb : (qLn K X p).2.1 = true
      · rw [if_pos hb] at h ⊢
        by_cases k35 : K (qLn K X p).1 = 35
        · rw [if_pos k35] at h ⊢
          have hn := hlt _ hl.2.1 (by omega)
          have hs := dOk_Ls (X := X) hK (q := q) (p := (qLn K X p).1 + 1) hn
          have ih := dd_Ls hK hn h
          refine ⟨ih.1, fun k hk => ?_⟩
          rcases List.mem_append.mp hk with z | z
          · have y := dd_Ln hK hp hb k z
            exact ⟨y.1, y.2.1, by show (qDd K X k).1 ≤ (qLs K X q ((qLn K X p).1 + 1)).1; have := hs.1; omega⟩
          · exact ih.2 k z
        · rw [if_neg k35] at h; cases h
      · rw [if_neg hb] at h; cases h
