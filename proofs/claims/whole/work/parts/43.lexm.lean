/-! THE LEXER: bytes, blanks, words, numbers, signs; kinds, places, values of the tokens -/
def isLe (b : Nat) : Bool := decide (97 ≤ b) && decide (b ≤ 122)
def isDi (b : Nat) : Bool := decide (48 ≤ b) && decide (b ≤ 57)
theorem isLe_i {b : Nat} : isLe b = true ↔ 97 ≤ b ∧ b ≤ 122 := by unfold isLe; simp
theorem isDi_i {b : Nat} : isDi b = true ↔ 48 ≤ b ∧ b ≤ 57 := by unfold isDi; simp
def skB (tb : Nat → Nat) (tl : Nat) : Nat → Nat → Nat
  | 0, p => p
  | q + 1, p => if p < tl ∧ (tb p = 32 ∨ tb p = 10) then skB tb tl q (p + 1) else p
def rnW (tb : Nat → Nat) (tl : Nat) : Nat → Nat → Nat
  | 0, p => p
  | q + 1, p => if p < tl ∧ (isLe (tb p) = true ∨ isDi (tb p) = true) then rnW tb tl q (p + 1) else p
def rnD (tb : Nat → Nat) (tl : Nat) : Nat → Nat → Nat
  | 0, p => p
  | q + 1, p => if p < tl ∧ isDi (tb p) = true then rnD tb tl q (p + 1) else p
def behB (tb : Nat → Nat) (tl p : Nat) : Nat := skB tb tl (tl - p) p
def endW (tb : Nat → Nat) (tl p : Nat) : Nat := rnW tb tl (tl - p) p
def endD (tb : Nat → Nat) (tl p : Nat) : Nat := rnD tb tl (tl - p) p
section
variable {tb : Nat → Nat} {tl : Nat}
theorem behB_s {p : Nat} (h : p < tl ∧ (tb p = 32 ∨ tb p = 10)) : behB tb tl p = behB tb tl (p + 1) := by
  unfold behB
  rw [show tl - p = (tl - (p + 1)) + 1 by omega]
  show (if _ then _ else _) = _
  rw [if_pos h]
theorem behB_0 {p : Nat} (h : ¬ (p < tl ∧ (tb p = 32 ∨ tb p = 10))) : behB tb tl p = p := by
  unfold behB
  cases tl - p with
  | zero => rfl
  | succ q => exact if_neg h
theorem endW_s {p : Nat} (h : p < tl ∧ (isLe (tb p) = true ∨ isDi (tb p) = true)) : endW tb tl p = endW tb tl (p + 1) := by
  unfold endW
  rw [show tl - p = (tl - (p + 1)) + 1 by omega]
  show (if _ then _ else _) = _
  rw [if_pos h]
theorem endW_0 {p : Nat} (h : ¬ (p < tl ∧ (isLe (tb p) = true ∨ isDi (tb p) = true))) : endW tb tl p = p := by
  unfold endW
  cases tl - p with
  | zero => rfl
  | succ q => exact if_neg h
theorem endD_s {p : Nat} (h : p < tl ∧ isDi (tb p) = true) : endD tb tl p = endD tb tl (p + 1) := by
  unfold endD
  rw [show tl - p = (tl - (p + 1)) + 1 by omega]
  show (if _ then _ else _) = _
  rw [if_pos h]
theorem endD_0 {p : Nat} (h : ¬ (p < tl ∧ isDi (tb p) = true)) : endD tb tl p = p := by
  unfold endD
  cases tl - p with
  | zero => rfl
  | succ q => exact if_neg h
theorem skB_b : ∀ {q p : Nat}, p ≤ skB tb tl q p ∧ (p ≤ tl → skB tb tl q p ≤ tl)
  | 0, _ => ⟨Nat.le_refl _, id⟩
  | q + 1, p => by
    unfold skB
    split
    · rename_i h
      have := skB_b (q := q) (p := p + 1)
      exact ⟨by omega, fun _ => this.2 (by omega)⟩
    · exact ⟨Nat.le_refl _, id⟩
theorem rnW_b : ∀ {q p : Nat}, p ≤ rnW tb tl q p ∧ (p ≤ tl → rnW tb tl q p ≤ tl) ∧ ∀ i, p ≤ i → i < rnW tb tl q p → i < tl ∧ (isLe (tb i) = true ∨ isDi (tb i) = true)
  | 0, p => ⟨Nat.le_refl _, id, fun i h1 h2 => absurd h2 (by show ¬ i < p; omega)⟩
  | q + 1, p => by
    unfold rnW
    split
    · rename_i h
      have := rnW_b (q := q) (p := p + 1)
      refine ⟨by omega, fun _ => this.2.1 (by omega), fun i h1 h2 => ?_⟩
      by_cases e : i = p
      · rw [e]; exact h
      · exact this.2.2 i (by omega) h2
    · exact ⟨Nat.le_refl _, id, fun i h1 h2 => absurd h2 (by omega)⟩
theorem rnD_b : ∀ {q p : Nat}, p ≤ rnD tb tl q p ∧ (p ≤ tl → rnD tb tl q p ≤ tl) ∧ ∀ i, p ≤ i → i < rnD tb tl q p → i < tl ∧ isDi (tb i) = true
  | 0, p => ⟨Nat.le_refl _, id, fun i h1 h2 => absurd h2 (by show ¬ i < p; omega)⟩
  | q + 1, p => by
    unfold rnD
    split
    · rename_i h
      have := rnD_b (q := q) (p := p + 1)
      refine ⟨by omega, fun _ => this.2.1 (by omega), fun i h1 h2 => ?_⟩
      by_cases e : i = p
      · rw [e]; exact h
      · exact this.2.2 i (by omega) h2
    · exact ⟨Nat.le_refl _, id, fun i h1 h2 => absurd h2 (by omega)⟩
theorem behB_b (p : Nat) : p ≤ behB tb tl p ∧ (p ≤ tl → behB tb tl p ≤ tl) := skB_b
theorem endW_b (p : Nat) : p ≤ endW tb tl p ∧ (p ≤ tl → endW tb tl p ≤ tl) ∧ ∀ i, p ≤ i → i < endW tb tl p → i < tl ∧ (isLe (tb i) = true ∨ isDi (tb i) = true) := rnW_b
theorem endD_b (p : Nat) : p ≤ endD tb tl p ∧ (p ≤ tl → endD tb tl p ≤ tl) ∧ ∀ i, p ≤ i → i < endD tb tl p → i < tl ∧ isDi (tb i) = true := rnD_b
end
/-- values: words to the base 37, numbers to the base 10 -/
def dgW (b : Nat) : Nat := if isDi b = true then b - 48 + 1 else b - 97 + 11
def vlW (tb : Nat → Nat) (p : Nat) : Nat → Nat
  | 0 => 0
  | q + 1 => vlW tb p q * 37 + dgW (tb (p + q))
def vlD (tb : Nat → Nat) (p : Nat) : Nat → Nat
  | 0 => 0
  | q + 1 => vlD tb p q * 10 + (tb (p + q) - 48)
/-- a byte, as the class has it -/
def bI (tb : Nat → Nat) (tl p : Nat) : Int32 := if p < tl then (nI (tb p)).toInt8.toInt32 else 0
theorem bI_sm : ∀ b, b < 256 → (b < 128 → (nI b).toInt8.toInt32 = nI b) ∧ (128 ≤ b → (nI b).toInt8.toInt32 < 0) := by decide +kernel
theorem bI_eq {tb : Nat → Nat} {tl p c : Nat} (hb : ∀ i, i < tl → tb i < 256) (hc : 0 < c) (hc2 : c < 128) : bI tb tl p = nI c ↔ p < tl ∧ tb p = c := by
  unfold bI
  by_cases h : p < tl
  · rw [if_pos h]
    have h1 := bI_sm (tb p) (hb p h)
    by_cases h2 : tb p < 128
    · rw [h1.1 h2, nI_eq (by omega) (by omega)]
      exact ⟨fun e => ⟨h, e⟩, fun e => e.2⟩
    · have h3 := h1.2 (by omega)
      refine ⟨fun e => ?_, fun e => absurd e.2 (by omega)⟩
      rw [e] at h3
      exact absurd h3 (nI_pos (by omega))
  · rw [if_neg h]
    refine ⟨fun e => ?_, fun e => absurd e.1 h⟩
    exact absurd e.symm (nI_ne0 hc (by omega))
theorem bI_n {tb : Nat → Nat} {tl p : Nat} (h : p < tl) (h2 : tb p < 128) : bI tb tl p = nI (tb p) := by
  unfold bI
  rw [if_pos h, (bI_sm (tb p) (by omega)).1 h2]
/-- does sign j stand there -/
def mtc (f : Nat → Int32) (j len : Nat) : Bool := decide (zlen.getD j 0 = len) && (List.range len).all (fun i => decide (f i = zch j i))
theorem mtc_i {f : Nat → Int32} {j len : Nat} : mtc f j len = true ↔ zlen.getD j 0 = len ∧ ∀ i, i < len → f i = zch j i := by
  unfold mtc
  simp
/-- the first of q signs from j on that stands there, 0 without one -/
def spF (f : Nat → Int32) (len : Nat) : Nat → Nat → Nat
  | 0, _ => 0
  | q + 1, j => if mtc f j len = true then j else spF f len q (j + 1)
theorem spF_0 {f : Nat → Int32} {len : Nat} : ∀ {q j : Nat}, (∀ i, j ≤ i → i < j + q → ¬ mtc f i len = true) → spF f len q j = 0
  | 0, _, _ => rfl
  | q + 1, j, h => by
    unfold spF
    rw [if_neg (h j (Nat.le_refl _) (by omega))]
    exact spF_0 (fun i h1 h2 => h i (by omega) (by omega))
theorem spF_t {f : Nat → Int32} {len t : Nat} (ht : mtc f t len = true) : ∀ {q j : Nat}, j ≤ t → t < j + q → (∀ i, j ≤ i → i < t → ¬ mtc f i len = true) → spF f len q j = t
  | 0, j, h1, h2, _ => by omega
  | q + 1, j, h1, h2, h => by
    unfold spF
    by_cases e : j = t
    · subst e; rw [if_pos ht]
    · rw [if_neg (h j (Nat.le_refl _) (by omega))]
      exact spF_t ht (by omega) (by omega) (fun i h3 h4 => h i (by omega) h4)
theorem spF_lt {f : Nat → Int32} {len : Nat} : ∀ {q j : Nat}, spF f len q j = 0 ∨ (j ≤ spF f len q j ∧ spF f len q j < j + q ∧ mtc f (spF f len q j) len = true)
  | 0, _ => Or.inl rfl
  | q + 1, j => by
    unfold spF
    split
    · exact Or.inr ⟨Nat.le_refl _, by omega, ‹_›⟩
    · rcases spF_lt (f := f) (len := len) (q := q) (j := j + 1) with h | h
      · exact Or.inl h
      · exact Or.inr ⟨by omega, by omega, h.2.2⟩
def sy2 (tb : Nat → Nat) (tl p : Nat) : Nat := if tb p = 60 ∧ p + 1 < tl ∧ tb (p + 1) = 61 then 44 else if tb p = 62 ∧ p + 1 < tl ∧ tb (p + 1) = 61 then 45 else 0
def sy1 (b : Nat) : Nat := if b = 40 then 31 else if b = 41 then 32 else if b = 91 then 33 else if b = 93 then 34 else if b = 59 then 35 else if b = 44 then 36 else if b = 43 then 37 else if b = 45 then 38 else if b = 42 then 39 else if b = 47 then 40 else if b = 60 then 41 else if b = 62 then 42 else if b = 61 then 43 else 0
def sgc (i : Nat) : Nat := [40, 41, 91, 93, 59, 44, 43, 45, 42, 47, 60, 62, 61].getD (i - 31) 0
theorem zlen_2 : ∀ i, i < 46 → zlen.getD i 0 = 2 → i = 14 ∨ i = 28 ∨ i = 44 ∨ i = 45 := by decide +kernel
theorem zlen_1 : ∀ i, i < 46 → zlen.getD i 0 = 1 → 31 ≤ i ∧ i ≤ 43 := by decide +kernel
theorem zch_1 : ∀ i, i < 44 → 31 ≤ i → zlen.getD i 0 = 1 ∧ zch i 0 = nI (sgc i) ∧ sy1 (sgc i) = i ∧ 0 < sgc i ∧ sgc i < 128 := by decide +kernel
theorem sy1_r : ∀ b, b < 256 → sy1 b ≠ 0 → sgc (sy1 b) = b ∧ 31 ≤ sy1 b ∧ sy1 b ≤ 43 := by decide +kernel
theorem sy1_ix : ∀ b, b < 256 → (if ixS b < 0 then (71 : Int32) else 40 + ixS b) = nI (rkc (sy1 b)) := by decide +kernel
theorem zch_sy : ∀ i, i < 46 → 31 ≤ i → 0 < zlen.getD i 0 ∧ ∃ c, c < 128 ∧ 0 < c ∧ ¬ (97 ≤ c ∧ c ≤ 122) ∧ zch i 0 = nI c := by
  intro i h1 h2
  have key : ∀ i, i < 46 → 31 ≤ i → 0 < zlen.getD i 0 ∧ (zch i 0).toNatClampNeg < 128 ∧ 0 < (zch i 0).toNatClampNeg ∧ ¬ (97 ≤ (zch i 0).toNatClampNeg ∧ (zch i 0).toNatClampNeg ≤ 122) ∧ zch i 0 = nI (zch i 0).toNatClampNeg := by decide +kernel
  have := key i h1 h2
  exact ⟨this.1, _, this.2.1, this.2.2.1, this.2.2.2.1, this.2.2.2.2⟩
theorem zch_kw : ∀ w, w < 26 → zlen.getD (46 + w) 0 = zlen.getD (5 + w) 0 ∧ ∀ k, k < zlen.getD (5 + w) 0 → zch (46 + w) k = zch (5 + w) k ∧ (zch (5 + w) k).toNatClampNeg < 128 ∧ 0 < (zch (5 + w) k).toNatClampNeg ∧ zch (5 + w) k = nI (zch (5 + w) k).toNatClampNeg := by decide +kernel
theorem zlen_0 : ∀ i, i < 5 → zlen.getD i 0 = 0 := by decide +kernel
theorem sy2_spF {tb : Nat → Nat} {tl p : Nat} (hb : ∀ i, i < tl → tb i < 256) (hp : p < tl) (hl : ¬ isLe (tb p) = true) : spF (fun i => bI tb tl (p + i)) 2 46 0 = sy2 tb tl p := by
  have m14 : ¬ mtc (fun i => bI tb tl (p + i)) 14 2 = true := fun h => by
    have h1 := (mtc_i.mp h).2 0 (by omega)
    rw [show zch 14 0 = nI 111 by decide, bI_eq hb (by omega) (by omega)] at h1
    exact hl (isLe_i.mpr (by have := h1.2; simp only [Nat.add_zero] at this; omega))
  have m28 : ¬ mtc (fun i => bI tb tl (p + i)) 28 2 = true := fun h => by
    have h1 := (mtc_i.mp h).2 0 (by omega)
    rw [show zch 28 0 = nI 111 by decide, bI_eq hb (by omega) (by omega)] at h1
    exact hl (isLe_i.mpr (by have := h1.2; simp only [Nat.add_zero] at this; omega))
  have m44 : mtc (fun i => bI tb tl (p + i)) 44 2 = true ↔ tb p = 60 ∧ p + 1 < tl ∧ tb (p + 1) = 61 := by
    rw [mtc_i]
    refine ⟨fun h => ?_, fun h => ⟨by decide, fun i hi => ?_⟩⟩
    · have h1 := h.2 0 (by omega)
      have h2 := h.2 1 (by omega)
      rw [show zch 44 0 = nI 60 by decide, bI_eq hb (by omega) (by omega)] at h1
      rw [show zch 44 1 = nI 61 by decide, bI_eq hb (by omega) (by omega)] at h2
      exact ⟨h1.2, h2.1, h2.2⟩
    · have : i = 0 ∨ i = 1 := by omega
      rcases this with rfl | rfl
      · rw [show zch 44 0 = nI 60 by decide, bI_eq hb (by omega) (by omega)]
        exact ⟨hp, h.1⟩
      · rw [show zch 44 1 = nI 61 by decide, bI_eq hb (by omega) (by omega)]
        exact h.2
  have m45 : mtc (fun i => bI tb tl (p + i)) 45 2 = true ↔ tb p = 62 ∧ p + 1 < tl ∧ tb (p + 1) = 61 := by
    rw [mtc_i]
    refine ⟨fun h => ?_, fun h => ⟨by decide, fun i hi => ?_⟩⟩
    · have h1 := h.2 0 (by omega)
      have h2 := h.2 1 (by omega)
      rw [show zch 45 0 = nI 62 by decide, bI_eq hb (by omega) (by omega)] at h1
      rw [show zch 45 1 = nI 61 by decide, bI_eq hb (by omega) (by omega)] at h2
      exact ⟨h1.2, h2.1, h2.2⟩
    · have : i = 0 ∨ i = 1 := by omega
      rcases this with rfl | rfl
      · rw [show zch 45 0 = nI 62 by decide, bI_eq hb (by omega) (by omega)]
        exact ⟨hp, h.1⟩
      · rw [show zch 45 1 = nI 61 by decide, bI_eq hb (by omega) (by omega)]
        exact h.2
  have out : ∀ i, i < 46 → i ≠ 44 → i ≠ 45 → ¬ mtc (fun i => bI tb tl (p + i)) i 2 = true := fun i hi n1 n2 h => by
    rcases zlen_2 i hi (mtc_i.mp h).1 with rfl | rfl | rfl | rfl
    · exact m14 h
    · exact m28 h
    · exact n1 rfl
    · exact n2 rfl
  unfold sy2
  by_cases h1 : tb p = 60 ∧ p + 1 < tl ∧ tb (p + 1) = 61
  · rw [if_pos h1]
    exact spF_t (m44.mpr h1) (by omega) (by omega) (fun i _ h3 => out i (by omega) (by omega) (by omega))
  · rw [if_neg h1]
    by_cases h2 : tb p = 62 ∧ p + 1 < tl ∧ tb (p + 1) = 61
    · rw [if_pos h2]
      refine spF_t (m45.mpr h2) (by omega) (by omega) (fun i _ h3 => ?_)
      by_cases e : i = 44
      · subst e; exact fun h => h1 (m44.mp h)
      · exact out i (by omega) e (by omega)
    · rw [if_neg h2]
      refine spF_0 (fun i _ h3 => ?_)
      by_cases e : i = 44
      · subst e; exact fun h => h1 (m44.mp h)
      · by_cases e2 : i = 45
        · subst e2; exact fun h => h2 (m45.mp h)
        · exact out i (by omega) e e2
theorem sy1_spF {tb : Nat → Nat} {tl p : Nat} (hb : ∀ i, i < tl → tb i < 256) (hp : p < tl) : spF (fun i => bI tb tl (p + i)) 1 46 0 = sy1 (tb p) := by
  have m1 : ∀ i, 31 ≤ i → i < 44 → (mtc (fun i => bI tb tl (p + i)) i 1 = true ↔ tb p = sgc i) := fun i h1 h2 => by
    obtain ⟨e1, e2, e3, e4, e5⟩ := zch_1 i h2 h1
    rw [mtc_i]
    refine ⟨fun h => ?_, fun h => ⟨e1, fun k hk => ?_⟩⟩
    · have h3 := h.2 0 (by omega)
      rw [e2, bI_eq hb e4 e5] at h3
      exact h3.2
    · obtain rfl : k = 0 := by omega
      rw [e2, bI_eq hb e4 e5]
      exact ⟨hp, h⟩
  have out : ∀ i, i < 46 → sy1 (tb p) ≠ i → ¬ mtc (fun i => bI tb tl (p + i)) i 1 = true := fun i hi hn h => by
    have h1 := zlen_1 i hi (mtc_i.mp h).1
    have h2 := (m1 i h1.1 (by omega)).mp h
    exact hn (by rw [h2]; exact (zch_1 i (by omega) h1.1).2.2.1)
  by_cases h0 : sy1 (tb p) = 0
  · rw [h0]
    refine spF_0 (fun i _ hi => ?_)
    by_cases e : i = 0
    · subst e
      intro h
      have := zlen_1 0 (by omega) (mtc_i.mp h).1
      omega
    · exact out i (by omega) (by omega)
  · have h1 := sy1_r (tb p) (hb p hp) h0
    exact spF_t ((m1 _ h1.2.1 (by omega)).mpr h1.1.symm) (by omega) (by omega) (fun i _ hi => out i (by omega) (by omega))
/-- the word's kind -/
def kdW (tb : Nat → Nat) (tl p : Nat) : Nat := if 10 < endW tb tl p - p then 0 else if spF (fun i => bI tb tl (p + i)) (endW tb tl p - p) 46 0 = 0 then 2 else spF (fun i => bI tb tl (p + i)) (endW tb tl p - p) 46 0
def kdA (tb : Nat → Nat) (tl p : Nat) : Nat := if tl ≤ p then 1 else if isLe (tb p) = true then kdW tb tl p else if isDi (tb p) = true then (if 6 < endD tb tl p - p then 0 else 3) else if sy2 tb tl p ≠ 0 then sy2 tb tl p else sy1 (tb p)
def enA (tb : Nat → Nat) (tl p : Nat) : Nat := if tl ≤ p then p else if isLe (tb p) = true then endW tb tl p else if isDi (tb p) = true then endD tb tl p else if sy2 tb tl p ≠ 0 then p + 2 else p + 1
def vlA (tb : Nat → Nat) (tl p : Nat) : Nat := if tl ≤ p then 0 else if isLe (tb p) = true then vlW tb p (endW tb tl p - p) else if isDi (tb p) = true then vlD tb p (endD tb tl p - p) else 0
theorem sy2_c (tb : Nat → Nat) (tl p : Nat) : (sy2 tb tl p = 44 ∧ p + 1 < tl) ∨ (sy2 tb tl p = 45 ∧ p + 1 < tl) ∨ sy2 tb tl p = 0 := by
  unfold sy2
  split
  · exact Or.inl ⟨rfl, by omega⟩
  · split
    · exact Or.inr (Or.inl ⟨rfl, by omega⟩)
    · exact Or.inr (Or.inr rfl)
theorem sy1_c (b : Nat) : sy1 b = 0 ∨ (31 ≤ sy1 b ∧ sy1 b ≤ 43) := by
  unfold sy1
  repeat' (first | omega | split)
theorem enA_b {tb : Nat → Nat} {tl p : Nat} : p ≤ enA tb tl p ∧ (p ≤ tl → enA tb tl p ≤ tl) := by
  have h1 := endW_b (tb := tb) (tl := tl) p
  have h2 := endD_b (tb := tb) (tl := tl) p
  have h3 := sy2_c tb tl p
  unfold enA
  split
  · exact ⟨Nat.le_refl _, id⟩
  · split
    · exact ⟨h1.1, h1.2.1⟩
    · split
      · exact ⟨h2.1, h2.2.1⟩
      · split
        · exact ⟨by omega, fun _ => by omega⟩
        · exact ⟨by omega, fun _ => by omega⟩
/-- a word's first sign -/
theorem kdW_c {tb : Nat → Nat} {tl p : Nat} (hb : ∀ i, i < tl → tb i < 256) (hp : p < tl) (hl : isLe (tb p) = true) : kdW tb tl p = 0 ∨ kdW tb tl p = 2 ∨ (5 ≤ kdW tb tl p ∧ kdW tb tl p < 31) := by
  have h1 : p + 1 ≤ endW tb tl p := by
    rw [endW_s ⟨hp, Or.inl hl⟩]
    exact (endW_b (p + 1)).1
  unfold kdW
  split
  · exact Or.inl rfl
  · split
    · exact Or.inr (Or.inl rfl)
    · rename_i h2 h3
      right; right
      rcases spF_lt (f := fun i => bI tb tl (p + i)) (len := endW tb tl p - p) (q := 46) (j := 0) with h | ⟨-, h4, h5⟩
      · exact absurd h h3
      · generalize spF (fun i => bI tb tl (p + i)) (endW tb tl p - p) 46 0 = t at *
        have h6 := mtc_i.mp h5
        refine ⟨?_, ?_⟩
        · by_cases h7 : 5 ≤ t
          · exact h7
          · have := zlen_0 t (by omega)
            omega
        · by_cases h7 : t < 31
          · exact h7
          · obtain ⟨-, c, c1, c2, c3, c4⟩ := zch_sy t (by omega) (by omega)
            have h8 := h6.2 0 (by omega)
            rw [c4, bI_eq hb c2 c1] at h8
            have h9 := h8.2
            simp only [Nat.add_zero] at h9
            rw [h9] at hl
            exact absurd (isLe_i.mp hl) c3
theorem kdA_c {tb : Nat → Nat} {tl p : Nat} (hb : ∀ i, i < tl → tb i < 256) : kdA tb tl p < 46 ∧ kdA tb tl p ≠ 4 ∧ (kdA tb tl p = 1 ↔ tl ≤ p) := by
  have h2 := sy2_c tb tl p
  have h3 := sy1_c (tb p)
  unfold kdA
  split
  · exact ⟨by omega, by omega, iff_of_true rfl ‹_›⟩
  · rename_i hp
    split
    · rename_i hl
      have h1 := kdW_c hb (by omega) hl
      refine ⟨by omega, by omega, iff_of_false (by omega) hp⟩
    · split
      · split
        · exact ⟨by omega, by omega, iff_of_false (by omega) hp⟩
        · exact ⟨by omega, by omega, iff_of_false (by omega) hp⟩
      · split
        · exact ⟨by omega, by omega, iff_of_false (by omega) hp⟩
        · exact ⟨by omega, by omega, iff_of_false (by omega) hp⟩
/-- where token k begins -/
def lxP (tb : Nat → Nat) (tl : Nat) : Nat → Nat
  | 0 => behB tb tl 0
  | k + 1 => behB tb tl (enA tb tl (lxP tb tl k))
theorem lxP_le {tb : Nat → Nat} {tl : Nat} : ∀ k, lxP tb tl k ≤ tl
  | 0 => (behB_b 0).2 (by omega)
  | k + 1 => (behB_b _).2 (enA_b.2 (lxP_le k))
def kdE (tb : Nat → Nat) (tl i : Nat) : Nat := if i = 400 ∧ kdA tb tl (lxP tb tl i) ≠ 1 then 0 else kdA tb tl (lxP tb tl i)
/-- the token that ends the reading: q more at most from i on -/
def eNf (tb : Nat → Nat) (tl : Nat) : Nat → Nat → Nat
  | 0, i => i
  | q + 1, i => if kdE tb tl i ≤ 1 then i else eNf tb tl q (i + 1)
def eN (tb : Nat → Nat) (tl : Nat) : Nat := eNf tb tl 400 0
theorem eNf_b {tb : Nat → Nat} {tl : Nat} : ∀ {q i : Nat}, i ≤ eNf tb tl q i ∧ eNf tb tl q i ≤ i + q ∧ (∀ j, i ≤ j → j < eNf tb tl q i → ¬ kdE tb tl j ≤ 1) ∧ (eNf tb tl q i < i + q → kdE tb tl (eNf tb tl q i) ≤ 1)
  | 0, i => ⟨Nat.le_refl _, Nat.le_refl _, fun j h1 h2 => absurd h2 (by show ¬ j < i; omega), fun h => absurd h (by show ¬ i < i + 0; omega)⟩
  | q + 1, i => by
    unfold eNf
    split
    · exact ⟨Nat.le_refl _, by omega, fun j h1 h2 => absurd h2 (by omega), fun _ => ‹_›⟩
    · rename_i h0
      obtain ⟨h1, h2, h3, h4⟩ := eNf_b (tb := tb) (tl := tl) (q := q) (i := i + 1)
      refine ⟨by omega, by omega, fun j g1 g2 => ?_, fun g => h4 (by omega)⟩
      by_cases e : j = i
      · rw [e]; exact h0
      · exact h3 j (by omega) g2
theorem eN_b {tb : Nat → Nat} {tl : Nat} : eN tb tl ≤ 400 ∧ (∀ j, j < eN tb tl → ¬ kdE tb tl j ≤ 1) ∧ kdE tb tl (eN tb tl) ≤ 1 := by
  obtain ⟨h1, h2, h3, h4⟩ := eNf_b (tb := tb) (tl := tl) (q := 400) (i := 0)
  refine ⟨by unfold eN; omega, fun j hj => h3 j (Nat.zero_le _) hj, ?_⟩
  by_cases h : eNf tb tl 400 0 < 0 + 400
  · exact h4 h
  · have e : eN tb tl = 400 := by unfold eN; omega
    rw [e]
    unfold kdE
    split
    · omega
    · omega
/-- the kind of token k, as the reference's row has it: 0 (5, a card) behind the end -/
def lxK (tb : Nat → Nat) (tl i : Nat) : Nat := if i ≤ eN tb tl then kdE tb tl i else if i ≤ 400 then 5 else 1
theorem lxK_c {tb : Nat → Nat} {tl : Nat} (hb : ∀ i, i < tl → tb i < 256) : (∀ p, lxK tb tl p < 46) ∧ (∀ p, lxK tb tl p ≠ 4) ∧ (∀ p, 400 ≤ p → lxK tb tl p = 0 ∨ lxK tb tl p = 1 ∨ lxK tb tl p = 5) := by
  have h := eN_b (tb := tb) (tl := tl)
  refine ⟨fun p => ?_, fun p => ?_, fun p hp => ?_⟩
  · have := kdA_c (tl := tl) (p := lxP tb tl p) hb
    unfold lxK kdE
    repeat' (first | omega | split)
  · have := kdA_c (tl := tl) (p := lxP tb tl p) hb
    unfold lxK kdE
    repeat' (first | omega | split)
  · unfold lxK
    split
    · rename_i h1
      have e : p = eN tb tl := by omega
      have := h.2.2
      rw [← e] at this
      omega
    · split
      · exact Or.inr (Or.inr rfl)
      · exact Or.inr (Or.inl rfl)
