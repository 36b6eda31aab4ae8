/-! WHAT IS KEPT while a list is told -/
section
variable {mk : Nat → Bool} {K V : Nat → Nat} {S : SA} {k : Nat}
theorem name_nc {b c v : Nat} : anc S ≤ anc (nameA S b c v k) ∧ ano (nameA S b c v k) = ano S := by
  unfold nameA
  repeat' (first | exact ⟨Nat.le_refl _, rfl⟩ | exact ⟨Nat.le_succ _, rfl⟩ | split)
theorem numb_nc {b v : Nat} : anc (numbA S b v k) = anc S ∧ ano (numbA S b v k) = ano S := by
  unfold numbA
  repeat' (first | exact ⟨rfl, rfl⟩ | split)
theorem act_nc : anc S ≤ anc (actA mk K V S k) ∧ ano S ≤ ano (actA mk K V S k) := by
  unfold actA
  split
  · exact ⟨Nat.le_refl _, Nat.le_refl _⟩
  · split
    · split <;> exact ⟨Nat.le_refl _, Nat.le_refl _⟩
    · split
      · exact ⟨name_nc.1, by rw [name_nc.2]; exact Nat.le_refl _⟩
      · split
        · rw [numb_nc.1, numb_nc.2]; exact ⟨Nat.le_refl _, Nat.le_refl _⟩
        · split
          · split
            · exact ⟨Nat.le_refl _, Nat.le_refl _⟩
            · exact ⟨Nat.le_refl _, Nat.le_succ _⟩
          · split <;> exact ⟨Nat.le_refl _, Nat.le_refl _⟩
theorem actF_nc : ∀ j, anc (actF mk K V k) ≤ anc (actF mk K V (k + j)) ∧ ano (actF mk K V k) ≤ ano (actF mk K V (k + j))
  | 0 => ⟨Nat.le_refl _, Nat.le_refl _⟩
  | j + 1 => ⟨Nat.le_trans (actF_nc j).1 act_nc.1, Nat.le_trans (actF_nc j).2 act_nc.2⟩
theorem act_0 (h : aer S = 0) : actA mk K V S k = if mk k = true then (if ade S (anc S - 1) = 4 then fltA S 4 k else deedA S k)
  else if K k = 2 then nameA S (K (k - 1)) (K (k - 3)) (V k) k
  else if K k = 3 then numbA S (K (k - 1)) (V k) k
  else if K k = 17 then (if ano S = 16 then fltA S 4 k else orderA S)
  else if K k = 19 then whenA S k
  else S := if_neg (fun q => q h)
theorem actF_s : actF mk K V (k + 1) = actA mk K V (actF mk K V k) k := rfl
theorem anc_ge (hmk : ∀ k, mk k = true → 8 ≤ K k ∧ K k ≤ 12) (hc : hC K k) (h : aer (actF mk K V k) = 0) : 1 ≤ anc (actF mk K V k) := by
  obtain ⟨j, h1, h2, h3⟩ := hc
  have g := (actF_nc (mk := mk) (K := K) (V := V) (k := j + 2) (k - (j + 2))).1
  rw [show j + 2 + (k - (j + 2)) = k by omega] at g
  have e2 : aer (actF mk K V (j + 2)) = 0 := actF_0 h h1
  have e1 : aer (actF mk K V (j + 1)) = 0 := actF_0 h (by omega)
  refine Nat.le_trans ?_ g
  rw [show j + 2 = j + 1 + 1 from rfl, actF_s, act_0 e1] at e2 ⊢
  rw [if_neg (fun q => by have := hmk _ q; omega), if_pos h3, show j + 1 - 1 = j from rfl, h2] at e2 ⊢
  unfold nameA at e2 ⊢
  rw [if_pos rfl] at e2 ⊢
  cases hf : fdA (acn (actF mk K V (j + 1))) (V (j + 1)) (anc (actF mk K V (j + 1))) 0 with
  | some p => rw [hf] at e2; cases e2
  | none =>
    rw [hf] at e2
    dsimp only at e2 ⊢
    by_cases h10 : anc (actF mk K V (j + 1)) = 10
    · rw [if_pos h10] at e2; cases e2
    · rw [if_neg h10]
      exact Nat.succ_le_succ (Nat.zero_le _)
theorem ano_ge (hmk : ∀ k, mk k = true → 8 ≤ K k ∧ K k ≤ 12) (hc : hO K k) (h : aer (actF mk K V k) = 0) : 1 ≤ ano (actF mk K V k) := by
  obtain ⟨j, h1, h2⟩ := hc
  have g := (actF_nc (mk := mk) (K := K) (V := V) (k := j + 1) (k - (j + 1))).2
  rw [show j + 1 + (k - (j + 1)) = k by omega] at g
  have e1 : aer (actF mk K V j) = 0 := actF_0 h (by omega)
  have e2 : aer (actF mk K V (j + 1)) = 0 := actF_0 h h1
  refine Nat.le_trans ?_ g
  rw [actF_s, act_0 e1] at e2 ⊢
  rw [if_neg (fun q => by have := hmk _ q; omega), if_neg (by omega), if_neg (by omega), if_pos h2] at e2 ⊢
  by_cases h16 : ano (actF mk K V j) = 16
  · rw [if_pos h16] at e2; cases e2
  · rw [if_neg h16]
    exact Nat.succ_le_succ (Nat.zero_le _)
/-- behind the token of a deed -/
theorem ade_ge (hk : mk k = true) (h : aer (actF mk K V (k + 1)) = 0) : 1 ≤ ade (actF mk K V (k + 1)) (anc (actF mk K V (k + 1)) - 1) ∧ adt (actF mk K V (k + 1)) (4 * (anc (actF mk K V (k + 1)) - 1) + ade (actF mk K V (k + 1)) (anc (actF mk K V (k + 1)) - 1) - 1) = k := by
  have e1 : aer (actF mk K V k) = 0 := actF_0 h (by omega)
  rw [actF_s, act_0 e1, if_pos hk] at h ⊢
  by_cases h4 : ade (actF mk K V k) (anc (actF mk K V k) - 1) = 4
  · rw [if_pos h4] at h; cases h
  · rw [if_neg h4]
    generalize actF mk K V k = S
    have e : ade (deedA S k) (anc S - 1) = ade S (anc S - 1) + 1 := upn_s
    show 1 ≤ ade (deedA S k) (anc S - 1) ∧ adt (deedA S k) (4 * (anc S - 1) + ade (deedA S k) (anc S - 1) - 1) = k
    rw [e]
    refine ⟨Nat.succ_le_succ (Nat.zero_le _), ?_⟩
    exact upn_s
/-- behind START or PILE, a number and OF -/
theorem num_ge (hmk : ∀ k, mk k = true → 8 ≤ K k ∧ K k ≤ 12) (h3 : 3 ≤ k) (a1 : K (k - 1) = 14) (a2 : K (k - 2) = 3) (a3 : K (k - 3) = 13 ∨ K (k - 3) = 15) (h : aer (actF mk K V k) = 0) : anu (actF mk K V k) = V (k - 2) ∧ (K (k - 3) = 13 → 1 ≤ V (k - 2) ∧ ans (actF mk K V k) + V (k - 2) ≤ 20) ∧ (K (k - 3) = 15 → V (k - 2) ≤ 30) := by
  obtain ⟨j, rfl⟩ : ∃ j, k = j + 3 := ⟨k - 3, by omega⟩
  rw [show j + 3 - 1 = j + 2 from rfl] at a1
  rw [show j + 3 - 2 = j + 1 from rfl] at a2 ⊢
  rw [show j + 3 - 3 = j from rfl] at a3 ⊢
  have e3 : actF mk K V (j + 3) = actF mk K V (j + 2) := actF_n (k := j + 2) (fun q => by have := hmk _ q; omega) (by omega) (Or.inl (by omega)) (by omega) (by omega)
  rw [e3] at h ⊢
  have e1 : aer (actF mk K V (j + 1)) = 0 := actF_0 h (by omega)
  have e2 : actF mk K V (j + 2) = numbA (actF mk K V (j + 1)) (K j) (V (j + 1)) (j + 1) := by
    rw [show j + 2 = j + 1 + 1 from rfl, actF_s, act_0 e1, if_neg (fun q => by have := hmk _ q; omega), if_neg (by omega), if_pos a2]
    rfl
  rw [e2] at h ⊢
  generalize actF mk K V (j + 1) = S at h ⊢
  unfold numbA at h ⊢
  rcases a3 with a3 | a3
  · rw [a3] at h ⊢
    rw [if_neg (by omega), if_neg (by omega), if_pos rfl] at h ⊢
    by_cases c1 : 20 < ans S + V (j + 1)
    · rw [if_pos c1] at h; cases h
    · rw [if_neg c1] at h ⊢
      by_cases c2 : V (j + 1) < 1 ∨ 20 < V (j + 1)
      · rw [if_pos c2] at h; cases h
      · rw [if_neg c2]
        exact ⟨rfl, fun _ => ⟨by omega, by show ans S + V (j + 1) ≤ 20; omega⟩, fun q => by omega⟩
  · rw [a3] at h ⊢
    rw [if_neg (by omega), if_neg (by omega), if_neg (by omega), if_pos rfl] at h ⊢
    by_cases c1 : 30 < V (j + 1)
    · rw [if_pos c1] at h; cases h
    · rw [if_neg c1]
      exact ⟨rfl, fun q => by omega, fun _ => by omega⟩
end
/-- the bounds of what is told -/
def okA (S : SA) : Prop := (anc S ≤ 10 ∧ anm S ≤ 4 ∧ ano S ≤ 16 ∧ ans S ≤ 20) ∧ (∀ i, i < ans S → ast S i < anc S) ∧ (∀ c, ade S c ≤ 4 ∧ (anc S ≤ c → ade S c = 0)) ∧ (∀ c, aco S c ≤ 99 ∧ awo S c ≤ 99) ∧ (∀ c, api S c ≤ 30) ∧ (∀ d, adc S d < anc S ∨ adc S d = 0) ∧ (∀ o, aoc S o < anc S ∨ aoc S o = 0) ∧ (∀ o, aom S o < anm S ∨ aom S o = 0) ∧ ∀ c, anc S ≤ c → api S c = 0
theorem okA_0 : okA zeroA := ⟨by decide, fun i hi => absurd hi (Nat.not_lt_zero i), fun c => ⟨Nat.zero_le _, fun _ => rfl⟩, fun c => ⟨Nat.zero_le _, Nat.zero_le _⟩, fun c => Nat.zero_le _, fun d => Or.inr rfl, fun d => Or.inr rfl, fun d => Or.inr rfl, fun c _ => rfl⟩
theorem upn_c {f : Nat → Nat} {k x : Nat} {P : Nat → Nat → Prop} (h : ∀ j, P j (f j)) (hx : P k x) : ∀ j, P j (upn f k x j) := fun j => by
  by_cases e : j = k
  · subst e; rw [upn_s]; exact hx
  · rw [upn_n e]; exact h j
theorem okA_act {mk : Nat → Bool} {K V : Nat → Nat} {k : Nat} (hmk : ∀ k, mk k = true → 8 ≤ K k ∧ K k ≤ 12) (hx : cxT K (fun k => mk k = true) k) (ho : okA (actF mk K V k)) (h : aer (actF mk K V (k + 1)) = 0) : okA (actF mk K V (k + 1)) := by
  have h0 : aer (actF mk K V k) = 0 := actF_0 h (Nat.le_succ k)
  have hA := anc_ge (V := V) hmk (k := k)
  have hN := num_ge (V := V) hmk (k := k)
  obtain ⟨x1, x2, x3, x4⟩ := hx
  obtain ⟨⟨b1, b2, b3, b4⟩, b5, b6, b7, b8, b9, b10, b11, b12⟩ := id ho
  rw [actF_s, act_0 h0] at h ⊢
  generalize actF mk K V k = S at *
  by_cases hm : mk k = true
  · rw [if_pos hm] at h ⊢
    have h1 := hA (x1 hm).2.2 h0
    by_cases h4 : ade S (anc S - 1) = 4
    · rw [if_pos h4] at h; cases h
    · rw [if_neg h4]
      have := (b6 (anc S - 1)).1
      exact ⟨⟨b1, b2, b3, b4⟩, b5, upn_c (P := fun j x => x ≤ 4 ∧ (anc S ≤ j → x = 0)) b6 ⟨by omega, fun q => by omega⟩, b7, b8, upn_c (P := fun j x => x < anc S ∨ x = 0) b9 (Or.inr rfl), b10, b11, b12⟩
  · rw [if_neg hm] at h ⊢
    by_cases h2 : K k = 2
    · rw [if_pos h2] at h ⊢
      unfold nameA at h ⊢
      by_cases c5 : K (k - 1) = 5
      · rw [if_pos c5] at h ⊢
        cases hf : fdA (acn S) (V k) (anc S) 0 with
        | some j => rw [hf] at h; cases h
        | none =>
          rw [hf] at h
          dsimp only at h ⊢
          by_cases h10 : anc S = 10
          · rw [if_pos h10] at h; cases h
          · rw [if_neg h10]
            exact ⟨⟨show anc S + 1 ≤ 10 by omega, b2, b3, b4⟩, fun i hi => Nat.lt_succ_of_lt (b5 i hi), fun c => ⟨(b6 c).1, fun q => (b6 c).2 (Nat.le_of_succ_le q)⟩, b7, b8, fun d => (b9 d).imp Nat.lt_succ_of_lt id, fun d => (b10 d).imp Nat.lt_succ_of_lt id, b11, fun c q => b12 c (Nat.le_of_succ_le q)⟩
      · rw [if_neg c5] at h ⊢
        by_cases c16 : K (k - 1) = 16
        · rw [if_pos c16] at h ⊢
          cases hf : fdA (amn S) (V k) (anm S) 0 with
          | some j => rw [hf] at h; cases h
          | none =>
            rw [hf] at h
            dsimp only at h ⊢
            by_cases h10 : anm S = 4
            · rw [if_pos h10] at h; cases h
            · rw [if_neg h10]
              exact ⟨⟨b1, show anm S + 1 ≤ 4 by omega, b3, b4⟩, b5, b6, b7, b8, b9, b10, fun d => (b11 d).imp Nat.lt_succ_of_lt id, b12⟩
        · rw [if_neg c16] at h ⊢
          by_cases c18 : K (k - 1) = 18
          · rw [if_pos c18] at h ⊢
            cases hf : fdA (amn S) (V k) (anm S) 0 with
            | none => rw [hf] at h; cases h
            | some j =>
              have hj := fdA_in hf
              exact ⟨⟨b1, b2, b3, b4⟩, b5, b6, b7, b8, b9, b10, upn_c (P := fun _ x => x < anm S ∨ x = 0) b11 (Or.inl (by omega)), b12⟩
          · rw [if_neg c18] at h ⊢
            cases hf : fdA (acn S) (V k) (anc S) 0 with
            | none => rw [hf] at h; cases h
            | some j =>
              have hj := fdA_in hf
              have hj2 : j < anc S := by omega
              dsimp only
              by_cases c14 : K (k - 1) = 14
              · rw [if_pos c14]
                have y : 3 ≤ k ∧ K (k - 2) = 3 ∧ (K (k - 3) = 13 ∨ K (k - 3) = 15) := by
                  rcases x2 h2 with q | q | q | q | q | q | q
                  · omega
                  · omega
                  · omega
                  · omega
                  · exact q.2
                  · omega
                  · omega
                obtain ⟨z1, z2, z3⟩ := hN y.1 c14 y.2.1 y.2.2 h0
                by_cases c15 : K (k - 3) = 15
                · rw [if_pos c15]
                  have := z3 c15
                  exact ⟨⟨b1, b2, b3, b4⟩, b5, b6, b7, upn_c (P := fun _ x => x ≤ 30) b8 (by omega), b9, b10, b11, upn_c (P := fun c x => anc S ≤ c → x = 0) b12 (fun q => by omega)⟩
                · rw [if_neg c15]
                  have := z2 (by omega)
                  refine ⟨⟨b1, b2, b3, show ans S + anu S ≤ 20 by omega⟩, fun i hi => ?_, b6, b7, b8, b9, b10, b11, b12⟩
                  show (if ans S ≤ i ∧ i < ans S + anu S then j else ast S i) < anc S
                  by_cases q : ans S ≤ i ∧ i < ans S + anu S
                  · rw [if_pos q]; exact hj2
                  · rw [if_neg q]
                    have hi' : i < ans S + anu S := hi
                    exact b5 i (by omega)
              · rw [if_neg c14]
                by_cases c17 : K (k - 1) = 17
                · rw [if_pos c17]
                  exact ⟨⟨b1, b2, b3, b4⟩, b5, b6, b7, b8, b9, upn_c (P := fun _ x => x < anc S ∨ x = 0) b10 (Or.inl hj2), b11, b12⟩
                · rw [if_neg c17]
                  by_cases c11 : K (k - 1) = 11 ∨ K (k - 1) = 12
                  · rw [if_pos c11]
                    exact ⟨⟨b1, b2, b3, b4⟩, b5, b6, b7, b8, upn_c (P := fun _ x => x < anc S ∨ x = 0) b9 (Or.inl hj2), b10, b11, b12⟩
                  · rw [if_neg c11]
                    exact ho
    · rw [if_neg h2] at h ⊢
      by_cases h3 : K k = 3
      · rw [if_pos h3] at h ⊢
        unfold numbA at h ⊢
        by_cases c6 : K (k - 1) = 6
        · rw [if_pos c6] at h ⊢
          by_cases c : 99 < V k
          · rw [if_pos c] at h; cases h
          · rw [if_neg c]
            exact ⟨⟨b1, b2, b3, b4⟩, b5, b6, fun x => ⟨upn_c (P := fun _ x => x ≤ 99) (fun j => (b7 j).1) (by omega) x, (b7 x).2⟩, b8, b9, b10, b11, b12⟩
        · rw [if_neg c6] at h ⊢
          by_cases c7 : K (k - 1) = 7
          · rw [if_pos c7] at h ⊢
            by_cases c : 99 < V k
            · rw [if_pos c] at h; cases h
            · rw [if_neg c]
              exact ⟨⟨b1, b2, b3, b4⟩, b5, b6, fun x => ⟨(b7 x).1, upn_c (P := fun _ x => x ≤ 99) (fun j => (b7 j).2) (by omega) x⟩, b8, b9, b10, b11, b12⟩
          · rw [if_neg c7]
            repeat' (first | exact ho | split)
      · rw [if_neg h3] at h ⊢
        by_cases h17 : K k = 17
        · rw [if_pos h17] at h ⊢
          by_cases c : ano S = 16
          · rw [if_pos c] at h; cases h
          · rw [if_neg c]
            exact ⟨⟨b1, b2, show ano S + 1 ≤ 16 by omega, b4⟩, b5, b6, b7, b8, b9, b10, b11, b12⟩
        · rw [if_neg h17]
          split
          · exact ho
          · exact ho
