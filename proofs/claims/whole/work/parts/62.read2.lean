/-! A LIST, read whole -/
def ruA (K : Nat → Nat) (X : Nat → Int32) (S : SA) : RU := (anc S, anm S, ano S, fun c => nI (aco S c), fun c => nI (awo S c), ade S, fun d => K (adt S d), adc S, fun d => ((qS K X 8 (if K (adt S d) = 12 then adt S d + 2 else adt S d + 1)).2).getD (fun _ => 0), aom S, aoc S, fun o => (aot S o).bind (fun t => (qT K X 8 t).2), fun c => nI (api S c), ans S, ast S)
def lsR (tb : Nat → Nat) (tl : Nat) : QD := qLs (lxK tb tl) (cX (lxK tb tl) (lxV tb tl)) 400 0
def lsM (tb : Nat → Nat) (tl : Nat) : Nat → Bool := fun k => decide (k ∈ (lsR tb tl).2.2)
def lsS (tb : Nat → Nat) (tl : Nat) : SA := actF (lsM tb tl) (lxK tb tl) (lxV tb tl) (lsR tb tl).1
/-- the error of a list, its place, the rules -/
def lsE (tb : Nat → Nat) (tl : Nat) : Nat := if (lsR tb tl).2.1 = true then aer (lsS tb tl) else 1
def lsP (tb : Nat → Nat) (tl : Nat) : Nat := lxP tb tl (if (lsR tb tl).2.1 = true then aep (lsS tb tl) else (lsR tb tl).1)
def lsU (tb : Nat → Nat) (tl : Nat) : RU := ruA (lxK tb tl) (cX (lxK tb tl) (lxV tb tl)) (lsS tb tl)
theorem lxK_N {tb : Nat → Nat} {tl : Nat} : lxK tb tl (eN tb tl) ≤ 1 := by
  unfold lxK
  rw [if_pos (Nat.le_refl _)]
  exact eN_b.2.2
theorem ls_b {tb : Nat → Nat} {tl : Nat} : dOk (eN tb tl) 0 (lsR tb tl) := dOk_Ls lxK_N (Nat.zero_le _)
theorem lsM_i {tb : Nat → Nat} {tl k : Nat} : lsM tb tl k = true ↔ k ∈ (lsR tb tl).2.2 := by unfold lsM; exact decide_eq_true_iff
theorem ls_cx {tb : Nat → Nat} {tl k : Nat} (hk : k < (lsR tb tl).1) : cxT (lxK tb tl) (fun k => lsM tb tl k = true) k ∧ ((lsR tb tl).2.1 = true → lxK tb tl k = 17 → k + 4 ≤ (lsR tb tl).1 ∧ lxK tb tl (k + 1) = 2 ∧ lxK tb tl (k + 2) = 18 ∧ lxK tb tl (k + 3) = 2 ∧ (lxK tb tl (k + 4) = 19 → (qT (lxK tb tl) (cX (lxK tb tl) (lxV tb tl)) 8 (k + 5)).2.isSome = true)) := cx_Ls lxK_N (Nat.zero_le _) (fun k _ _ => lsM_i) k (Nat.zero_le _) hk
theorem lsM_8 {tb : Nat → Nat} {tl k : Nat} (h : lsM tb tl k = true) : 8 ≤ lxK tb tl k ∧ lxK tb tl k ≤ 12 := by
  have z := (ls_cx (ls_b.2.2 k (lsM_i.mp h)).2).1.1 h
  exact ⟨z.1, z.2.1⟩
theorem ls_okA {tb : Nat → Nat} {tl : Nat} : ∀ {k : Nat}, k ≤ (lsR tb tl).1 → aer (actF (lsM tb tl) (lxK tb tl) (lxV tb tl) k) = 0 → okA (actF (lsM tb tl) (lxK tb tl) (lxV tb tl) k)
  | 0, _, _ => okA_0
  | k + 1, hk, h => okA_act (fun k h => lsM_8 h) (ls_cx hk).1 (ls_okA (Nat.le_of_succ_le hk) (actF_0 h (Nat.le_succ k))) h
theorem ls_end {tb : Nat → Nat} {tl : Nat} (hok : (lsR tb tl).2.1 = true) : lxK tb tl (lsR tb tl).1 = 1 ∧ (lsR tb tl).1 = eN tb tl ∧ ∀ k, lsM tb tl k = true → (8 ≤ lxK tb tl k ∧ lxK tb tl k ≤ 12) ∧ (qDd (lxK tb tl) (cX (lxK tb tl) (lxV tb tl)) k).2 = true ∧ (qDd (lxK tb tl) (cX (lxK tb tl) (lxV tb tl)) k).1 ≤ (lsR tb tl).1 := by
  have z := dd_Ls (X := cX (lxK tb tl) (lxV tb tl)) (lxK_N (tb := tb) (tl := tl)) (q := 400) (Nat.zero_le _) hok
  have b := ls_b (tb := tb) (tl := tl)
  refine ⟨z.1, ?_, fun k hk => z.2 k (lsM_i.mp hk)⟩
  by_cases e : (lsR tb tl).1 = eN tb tl
  · exact e
  · exfalso
    have h1 := (eN_b (tb := tb) (tl := tl)).2.1 (lsR tb tl).1 (by have := b.2.1; omega)
    have h2 : lxK tb tl (lsR tb tl).1 = 1 := z.1
    unfold lxK at h2
    rw [if_pos b.2.1] at h2
    omega
theorem qDd_ok {K : Nat → Nat} {X : Nat → Int32} {p : Nat} (h8 : 8 ≤ K p ∧ K p ≤ 12) (h : (qDd K X p).2 = true) : (K p = 11 ∨ K p = 12 → K (p + 1) = 2 ∧ p + 2 ≤ (qDd K X p).1 ∨ K (p + 1) = 2 ∧ K p = 12) ∧ (K p ≠ 11 → (qS K X 8 (if K p = 12 then p + 2 else p + 1)).2.isSome = true) := by
  unfold qDd at h ⊢
  by_cases h11 : 11 ≤ K p
  · rw [if_pos h11] at h ⊢
    by_cases h2 : K (p + 1) = 2
    · rw [if_pos h2] at h ⊢
      by_cases h12 : K p = 12
      · rw [if_pos h12] at h
        exact ⟨fun _ => Or.inr ⟨h2, h12⟩, fun _ => by rw [if_pos h12]; exact h⟩
      · rw [if_neg h12]
        exact ⟨fun _ => Or.inl ⟨h2, Nat.le_refl _⟩, fun q => by omega⟩
    · rw [if_neg h2] at h
      cases h
  · rw [if_neg h11] at h
    exact ⟨fun q => by omega, fun _ => by rw [if_neg (by omega)]; exact h⟩
theorem ls_okR {tb : Nat → Nat} {tl : Nat} (hok : (lsR tb tl).2.1 = true) (h0 : aer (lsS tb tl) = 0) (hd : ∀ c d, c < anc (lsS tb tl) → d < ade (lsS tb tl) c → lsM tb tl (adt (lsS tb tl) (4 * c + d)) = true) : okR (lsU tb tl) := by
  have ho := ls_okA (Nat.le_refl _) h0
  obtain ⟨⟨b1, b2, b3, b4⟩, b5, b6, b7, b8, b9, b10, b11, b12⟩ := ho
  refine ⟨b1, b2, b3, b4, b5, fun c hc => ⟨(b6 c).1, fun d hd' => ⟨fun _ => ?_, ?_⟩⟩, fun o hoo => ?_⟩
  · rcases b9 (c * 4 + d) with z | z
    · exact z
    · show adc (lsS tb tl) (c * 4 + d) < anc (lsS tb tl)
      have hc' : c < anc (lsS tb tl) := hc
      have z' : adc (lsS tb tl) (c * 4 + d) = 0 := z
      omega
  · have := lsM_8 (hd c d hc hd')
    rw [Nat.mul_comm 4 c] at this
    exact this
  · have hoo' : o < ano (lsS tb tl) := hoo
    obtain ⟨j, j1, j2⟩ := ano_k (mk := lsM tb tl) (K := lxK tb tl) (V := lxV tb tl) (k := (lsR tb tl).1) (show 1 ≤ ano (lsS tb tl) by omega)
    obtain ⟨y1, y2, y3, y4, y5⟩ := (ls_cx j1).2 hok j2
    have n1 := (name_ok (mk := lsM tb tl) (K := lxK tb tl) (V := lxV tb tl) (k := j + 1) (actF_0 h0 (by omega)) (fun q => by have := lsM_8 q; omega) y2).1 (by rw [show j + 1 - 1 = j by omega]; exact j2)
    have n2 := (name_ok (mk := lsM tb tl) (K := lxK tb tl) (V := lxV tb tl) (k := j + 3) (actF_0 h0 (by omega)) (fun q => by have := lsM_8 q; omega) y4).2 (by rw [show j + 3 - 1 = j + 2 by omega]; exact y3)
    have m1 := (actF_nc (mk := lsM tb tl) (K := lxK tb tl) (V := lxV tb tl) (k := j + 1) ((lsR tb tl).1 - (j + 1))).1
    have m2 := actF_nm (mk := lsM tb tl) (K := lxK tb tl) (V := lxV tb tl) (k := j + 3) ((lsR tb tl).1 - (j + 3))
    rw [show j + 1 + ((lsR tb tl).1 - (j + 1)) = (lsR tb tl).1 by omega] at m1
    rw [show j + 3 + ((lsR tb tl).1 - (j + 3)) = (lsR tb tl).1 by omega] at m2
    have e1 : 1 ≤ anc (lsS tb tl) := Nat.le_trans n1 m1
    have e2 : 1 ≤ anm (lsS tb tl) := Nat.le_trans n2 m2
    constructor
    · rcases b11 o with z | z
      · exact z
      · show aom (lsS tb tl) o < anm (lsS tb tl)
        have z' : aom (lsS tb tl) o = 0 := z
        omega
    · rcases b10 o with z | z
      · exact z
      · show aoc (lsS tb tl) o < anc (lsS tb tl)
        have z' : aoc (lsS tb tl) o = 0 := z
        omega
theorem ls_SHs {E : ZEX} {σ : ZHp} {y tl : Nat} {tb : Nat → Nat} (hb : ∀ i, i < tl → tb i < 256) (hok : (lsR tb tl).2.1 = true) (h0 : aer (lsS tb tl) = 0) (h : SHa E σ y tb tl (lsM tb tl) (lsS tb tl) (lsR tb tl).1) : SHs E σ y (lxK tb tl) (cX (lxK tb tl) (lxV tb tl)) (lsU tb tl) := by
  have hKc := lxK_c (tl := tl) hb
  have hN := (eN_b (tb := tb) (tl := tl)).1
  obtain ⟨z1, z2, z3⟩ := ls_end hok
  have ho := ls_okA (Nat.le_refl _) h0
  have hat := fun o t => aot_k (mk := lsM tb tl) (K := lxK tb tl) (V := lxV tb tl) (k := (lsR tb tl).1) (o := o) (t := t)
  obtain ⟨G, g0, hB, q1, q2, q3, q4, q5, q6, q7, q8, q9, q10, q11⟩ := h
  have hR := ls_okR hok h0 (fun c d hc hd => (q11.2.2 c d hc hd).2.1)
  have hin : ∀ i, lxK tb tl i = 2 ∨ lxK tb tl i = 3 → i < (lsR tb tl).1 := by
    intro i hi
    by_cases c : i ≤ eN tb tl
    · by_cases e : i = eN tb tl
      · rw [e, ← z2, z1] at hi; omega
      · omega
    · exfalso
      unfold lxK at hi
      rw [if_neg c] at hi
      split at hi <;> omega
  refine ⟨nI (anu (lsS tb tl)), G 1, G 4, G 7, G 8, G 9, G 10, G 11, G 13, G 14, G 15, G 16, g0, hB 1 (by omega) (by omega), hB 4 (by omega) (by omega), hB 7 (by omega) (by omega), hB 8 (by omega) (by omega), hB 9 (by omega) (by omega), hB 10 (by omega) (by omega), hB 11 (by omega) (by omega), hB 13 (by omega) (by omega), hB 14 (by omega) (by omega), hB 15 (by omega) (by omega), hB 16 (by omega) (by omega), q1, fun i hi h3 => ?_, fun i hi h22 h2 => ?_, hR, hKc.2.2, hKc.1, hKc.2.1, fun c hc => ?_, fun c hc => (q5 c hc).2.2.1, fun i hi => q8 i (Nat.lt_of_lt_of_le hi ho.1.2.2.2), fun o hoo => ?_⟩
  · rw [q11.1 i (hin i (Or.inr h3)) h3]
    unfold cX
    rw [if_neg (by omega), lN_i]
  · obtain ⟨j, j1, j2, j3⟩ := q11.2.1 (i + 1) (hin _ (Or.inl h2)) h2 (by rw [show i + 1 - 1 = i by omega]; omega)
    exact ⟨j3.trans j2.symm, j, j1, j2⟩
  · have hc' : c < anc (lsS tb tl) := hc
    have c10 : c < 10 := Nat.lt_of_lt_of_le hc' ho.1.1
    refine ⟨(q5 c c10).1, (q5 c c10).2.1, (q5 c c10).2.2.2, fun d hd => ?_⟩
    have hd' : d < ade (lsS tb tl) c := hd
    have hd4 := (ho.2.2.1 c).1
    have hd5 : ade (lsS tb tl) c ≤ 4 := hd4
    obtain ⟨n1, n2, n3, n4⟩ := q11.2.2 c d hc' hd'
    obtain ⟨k8, kd, ke⟩ := z3 _ n2
    have ho2 := qDd_ok k8 kd
    have hb2 := qDd_b (X := cX (lxK tb tl) (lxV tb tl)) (lxK_N (tb := tb) (tl := tl)) (p := adt (lsS tb tl) (4 * c + d)) (by omega) k8.1
    refine ⟨adt (lsS tb tl) (4 * c + d), q6 _ (by omega), by omega, ?_, fun q => ?_, fun q => ?_⟩
    · show lxK tb tl (adt (lsS tb tl) (4 * c + d)) = lxK tb tl (adt (lsS tb tl) (c * 4 + d))
      rw [Nat.mul_comm]
    · have k2 : lxK tb tl (adt (lsS tb tl) (4 * c + d) + 1) = 2 := by
        rcases ho2.1 q with w | w
        · exact w.1
        · exact w.1
      have := n4 (hin _ (Or.inl k2)) q k2
      rw [this]
      show nI (adc (lsS tb tl) (4 * c + d)) = nI (adc (lsS tb tl) (c * 4 + d))
      rw [Nat.mul_comm]
    · have hs := ho2.2 q
      show ∃ e, pS (lxK tb tl) (cX (lxK tb tl) (lxV tb tl)) 8 (if lxK tb tl (adt (lsS tb tl) (4 * c + d)) = 12 then adt (lsS tb tl) (4 * c + d) + 2 else adt (lsS tb tl) (4 * c + d) + 1) = some (e, ((qS (lxK tb tl) (cX (lxK tb tl) (lxV tb tl)) 8 (if lxK tb tl (adt (lsS tb tl) (c * 4 + d)) = 12 then adt (lsS tb tl) (c * 4 + d) + 2 else adt (lsS tb tl) (c * 4 + d) + 1)).2).getD (fun _ => 0))
      rw [Nat.mul_comm c 4, cv_S]
      generalize (if lxK tb tl (adt (lsS tb tl) (4 * c + d)) = 12 then adt (lsS tb tl) (4 * c + d) + 2 else adt (lsS tb tl) (4 * c + d) + 1) = p at *
      dsimp only
      cases hF : (qS (lxK tb tl) (cX (lxK tb tl) (lxV tb tl)) 8 p).2 with
      | none => rw [hF] at hs; cases hs
      | some F => exact ⟨_, cv_s hF⟩
  · have hoo' : o < ano (lsS tb tl) := hoo
    have o16 : o < 16 := Nat.lt_of_lt_of_le hoo' ho.1.2.2.1
    refine ⟨(q9 o o16).1, (q9 o o16).2, ?_⟩
    rcases q10 o hoo' with ⟨w1, w2⟩ | ⟨t, w1, w2, w3⟩
    · refine Or.inl ⟨?_, w2⟩
      show (aot (lsS tb tl) o).bind _ = none
      rw [w1]
      rfl
    · obtain ⟨t1, t2, t3⟩ := hat o t w2
      have x4 := (ls_cx (tb := tb) (tl := tl) (k := t - 1) (by omega)).1.2.2.2 t3
      have y5 := (ls_cx (tb := tb) (tl := tl) (k := t - 1 - 4) (by omega)).2 hok x4.2
      have y6 := y5.2.2.2.2 (by rw [show t - 1 - 4 + 4 = t - 1 by omega]; exact t3)
      rw [show t - 1 - 4 + 5 = t by omega] at y6
      cases hF : (qT (lxK tb tl) (cX (lxK tb tl) (lxV tb tl)) 8 t).2 with
      | none => rw [hF] at y6; cases y6
      | some F =>
        refine Or.inr ⟨t, (qT (lxK tb tl) (cX (lxK tb tl) (lxV tb tl)) 8 t).1, F, w1, w3, ?_, ?_⟩
        · show (aot (lsS tb tl) o).bind _ = some F
          rw [w2]
          exact hF
        · rw [cv_T]
          exact cv_s hF
