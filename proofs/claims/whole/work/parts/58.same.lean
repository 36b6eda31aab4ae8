/-! THE REFERENCE: words and numbers of the tape -/
theorem sy_31 {tb : Nat → Nat} {tl p : Nat} : (if sy2 tb tl p ≠ 0 then sy2 tb tl p else sy1 (tb p)) = 0 ∨ 31 ≤ (if sy2 tb tl p ≠ 0 then sy2 tb tl p else sy1 (tb p)) := by
  have h2 : sy2 tb tl p = 0 ∨ 31 ≤ sy2 tb tl p := by
    unfold sy2
    split
    · omega
    · split <;> omega
  have h1 : ∀ b, sy1 b = 0 ∨ 31 ≤ sy1 b := by
    intro b
    unfold sy1
    repeat' (first | omega | split)
  split
  · exact h2
  · exact h1 _
theorem tk_wd {tb : Nat → Nat} {tl i : Nat} (hi : i ≤ eN tb tl) (h : lxK tb tl i = 2) : lxP tb tl i < tl ∧ isLe (tb (lxP tb tl i)) = true ∧ lnA tb tl (lxP tb tl i) = endW tb tl (lxP tb tl i) - lxP tb tl i ∧ endW tb tl (lxP tb tl i) - lxP tb tl i ≤ 10 ∧ vlA tb tl (lxP tb tl i) = vlW tb (lxP tb tl i) (endW tb tl (lxP tb tl i) - lxP tb tl i) := by
  unfold lxK kdE at h
  rw [if_pos hi] at h
  have h2 : kdA tb tl (lxP tb tl i) = 2 := by
    by_cases c : i = 400 ∧ kdA tb tl (lxP tb tl i) ≠ 1
    · rw [if_pos c] at h; cases h
    · rw [if_neg c] at h; exact h
  generalize lxP tb tl i = p at *
  unfold kdA at h2
  by_cases c1 : tl ≤ p
  · rw [if_pos c1] at h2; cases h2
  · rw [if_neg c1] at h2
    by_cases c2 : isLe (tb p) = true
    · rw [if_pos c2] at h2
      unfold kdW at h2
      by_cases c3 : 10 < endW tb tl p - p
      · rw [if_pos c3] at h2; cases h2
      · unfold lnA enA vlA
        rw [if_neg c1, if_neg c1, if_pos c2, if_neg c1, if_pos c2]
        exact ⟨by omega, c2, rfl, by omega, rfl⟩
    · rw [if_neg c2] at h2
      exfalso
      by_cases c3 : isDi (tb p) = true
      · rw [if_pos c3] at h2
        split at h2 <;> cases h2
      · rw [if_neg c3] at h2
        have := sy_31 (tb := tb) (tl := tl) (p := p)
        omega
theorem tk_nm {tb : Nat → Nat} {tl i : Nat} (hb : ∀ i, i < tl → tb i < 256) (hi : i ≤ eN tb tl) (h : lxK tb tl i = 3) : lxP tb tl i < tl ∧ lnA tb tl (lxP tb tl i) = endD tb tl (lxP tb tl i) - lxP tb tl i ∧ endD tb tl (lxP tb tl i) - lxP tb tl i ≤ 6 ∧ vlA tb tl (lxP tb tl i) = vlD tb (lxP tb tl i) (endD tb tl (lxP tb tl i) - lxP tb tl i) := by
  unfold lxK kdE at h
  rw [if_pos hi] at h
  have h2 : kdA tb tl (lxP tb tl i) = 3 := by
    by_cases c : i = 400 ∧ kdA tb tl (lxP tb tl i) ≠ 1
    · rw [if_pos c] at h; cases h
    · rw [if_neg c] at h; exact h
  generalize lxP tb tl i = p at *
  unfold kdA at h2
  by_cases c1 : tl ≤ p
  · rw [if_pos c1] at h2; cases h2
  · rw [if_neg c1] at h2
    by_cases c2 : isLe (tb p) = true
    · rw [if_pos c2] at h2
      exfalso
      have := kdW_c hb (by omega) c2
      omega
    · rw [if_neg c2] at h2
      by_cases c3 : isDi (tb p) = true
      · rw [if_pos c3] at h2
        unfold lnA enA vlA
        rw [if_neg c1, if_neg c1, if_neg c2, if_pos c3, if_neg c1, if_neg c2, if_pos c3]
        by_cases c4 : 6 < endD tb tl p - p
        · rw [if_pos c4] at h2; cases h2
        · exact ⟨by omega, rfl, by omega, rfl⟩
      · rw [if_neg c3] at h2
        exfalso
        have := sy_31 (tb := tb) (tl := tl) (p := p)
        omega
theorem dgW_b {b : Nat} (h : isLe b = true ∨ isDi b = true) : 1 ≤ dgW b ∧ dgW b < 37 := by
  unfold dgW isLe isDi at *
  simp only [Bool.and_eq_true, decide_eq_true_eq] at *
  split <;> omega
theorem dgW_i {a b : Nat} (ha : isLe a = true ∨ isDi a = true) (hb : isLe b = true ∨ isDi b = true) (h : dgW a = dgW b) : a = b := by
  unfold dgW isLe isDi at *
  simp only [Bool.and_eq_true, decide_eq_true_eq] at *
  split at h <;> split at h <;> omega
/-- the first n bytes at p and at q are the same -/
def smB (tb : Nat → Nat) (p q : Nat) : Nat → Bool
  | 0 => true
  | n + 1 => smB tb p q n && decide (tb (p + n) = tb (q + n))
theorem vlW_sm {tb : Nat → Nat} {p q : Nat} : ∀ {n m : Nat}, (∀ i, i < n → isLe (tb (p + i)) = true ∨ isDi (tb (p + i)) = true) → (∀ i, i < m → isLe (tb (q + i)) = true ∨ isDi (tb (q + i)) = true) → (vlW tb p n = vlW tb q m ↔ n = m ∧ smB tb p q n = true)
  | 0, 0, _, _ => by simp [vlW, smB]
  | 0, m + 1, _, h2 => by
    have := dgW_b (h2 m (Nat.lt_succ_self m))
    constructor
    · intro h
      have h' : 0 = vlW tb q m * 37 + dgW (tb (q + m)) := h
      omega
    · intro h; omega
  | n + 1, 0, h1, _ => by
    have := dgW_b (h1 n (Nat.lt_succ_self n))
    constructor
    · intro h
      have h' : vlW tb p n * 37 + dgW (tb (p + n)) = 0 := h
      omega
    · intro h; omega
  | n + 1, m + 1, h1, h2 => by
    have a1 := dgW_b (h1 n (Nat.lt_succ_self n))
    have a2 := dgW_b (h2 m (Nat.lt_succ_self m))
    have ih := vlW_sm (n := n) (m := m) (fun i hi => h1 i (Nat.lt_succ_of_lt hi)) (fun i hi => h2 i (Nat.lt_succ_of_lt hi))
    show vlW tb p n * 37 + dgW (tb (p + n)) = vlW tb q m * 37 + dgW (tb (q + m)) ↔ n + 1 = m + 1 ∧ (smB tb p q n && decide (tb (p + n) = tb (q + n))) = true
    rw [Bool.and_eq_true, decide_eq_true_eq]
    constructor
    · intro h
      have e1 : vlW tb p n = vlW tb q m := by omega
      have e2 : dgW (tb (p + n)) = dgW (tb (q + m)) := by omega
      have e3 := ih.mp e1
      have e4 := e3.1
      subst e4
      exact ⟨rfl, e3.2, dgW_i (h1 n (Nat.lt_succ_self n)) (h2 n (Nat.lt_succ_self n)) e2⟩
    · intro h
      have e4 : n = m := by omega
      subst e4
      rw [ih.mpr ⟨rfl, h.2.1⟩, h.2.2]
theorem vlW_lt {tb : Nat → Nat} {p : Nat} : ∀ {n : Nat}, (∀ i, i < n → isLe (tb (p + i)) = true ∨ isDi (tb (p + i)) = true) → vlW tb p n < 37 ^ n
  | 0, _ => by show 0 < 1; omega
  | n + 1, h => by
    have a1 := dgW_b (h n (Nat.lt_succ_self n))
    have ih := vlW_lt (n := n) (fun i hi => h i (Nat.lt_succ_of_lt hi))
    show vlW tb p n * 37 + dgW (tb (p + n)) < 37 ^ n * 37
    omega
theorem vlD_lt {tb : Nat → Nat} {p : Nat} : ∀ {n : Nat}, (∀ i, i < n → isDi (tb (p + i)) = true) → vlD tb p n < 10 ^ n
  | 0, _ => by show 0 < 1; omega
  | n + 1, h => by
    have a1 := h n (Nat.lt_succ_self n)
    unfold isDi at a1
    simp only [Bool.and_eq_true, decide_eq_true_eq] at a1
    have ih := vlD_lt (n := n) (fun i hi => h i (Nat.lt_succ_of_lt hi))
    show vlD tb p n * 10 + (tb (p + n) - 48) < 10 ^ n * 10
    omega
/-- a word -/
theorem tk_w {tb : Nat → Nat} {tl i : Nat} (hi : i ≤ eN tb tl) (h : lxK tb tl i = 2) : lxP tb tl i + lnA tb tl (lxP tb tl i) ≤ tl ∧ lnA tb tl (lxP tb tl i) ≤ 10 ∧ vlA tb tl (lxP tb tl i) = vlW tb (lxP tb tl i) (lnA tb tl (lxP tb tl i)) ∧ ∀ j, j < lnA tb tl (lxP tb tl i) → isLe (tb (lxP tb tl i + j)) = true ∨ isDi (tb (lxP tb tl i + j)) = true := by
  obtain ⟨h1, h2, h3, h4, h5⟩ := tk_wd hi h
  rw [h3]
  generalize lxP tb tl i = p at *
  have b := endW_b (tb := tb) (tl := tl) p
  have := b.2.1 (by omega)
  have b2 := b.2.2
  exact ⟨by omega, h4, h5, fun j hj => (b2 (p + j) (by omega) (by omega)).2⟩
/-- a number -/
theorem tk_n {tb : Nat → Nat} {tl i : Nat} (hb : ∀ i, i < tl → tb i < 256) (hi : i ≤ eN tb tl) (h : lxK tb tl i = 3) : lxP tb tl i + lnA tb tl (lxP tb tl i) ≤ tl ∧ lnA tb tl (lxP tb tl i) ≤ 6 ∧ vlA tb tl (lxP tb tl i) = vlD tb (lxP tb tl i) (lnA tb tl (lxP tb tl i)) ∧ ∀ j, j < lnA tb tl (lxP tb tl i) → isDi (tb (lxP tb tl i + j)) = true := by
  obtain ⟨h1, h3, h4, h5⟩ := tk_nm hb hi h
  rw [h3]
  generalize lxP tb tl i = p at *
  have b := endD_b (tb := tb) (tl := tl) p
  have := b.2.1 (by omega)
  have b2 := b.2.2
  exact ⟨by omega, h4, h5, fun j hj => (b2 (p + j) (by omega) (by omega)).2⟩
/-- tokens as a sheet has them -/
def FLs (E : ZEX) (σ : ZHp) (y : Nat) (tb : Nat → Nat) (tl : Nat) : Prop := ∃ (vs : List Value) (ff fm : Nat → Int32), σ y = some (.inr (12, vs)) ∧ vs[1]? = some (.ref (y + 2)) ∧ vs[2]? = some (.ref (y + 3)) ∧ iar E σ (y + 2) 401 ff ∧ iar E σ (y + 3) 401 fm ∧ ∀ i, i ≤ eN tb tl → ff i = nI (lxP tb tl i) ∧ fm i = nI (lnA tb tl (lxP tb tl i))
section
variable {E : ZEX} {σ : ZHp} {n x y tl : Nat} {tb : Nat → Nat}
theorem sp_numberR (hE : ZEOK E) (h : RPs E σ x tb tl) (hf : FLs E σ y tb tl) {k : Nat} (hk : k ≤ eN tb tl) (hK : lxK tb tl k = 3) : ZSpec E MX15_number 4 0 0 [.ref x, .ref y, .int (nI k)] σ n (zp (.int (nI (vlA tb tl (lxP tb tl k)))) σ n) := by
  have hb := h.b.2
  obtain ⟨t1, t2, t3, t4⟩ := tk_n hb hk hK
  have hN := (eN_b (tb := tb) (tl := tl)).1
  obtain ⟨vs, ft, g1, g2, g3, g4, g5, g6⟩ := h
  obtain ⟨ws, ff, fm, f1, f2, f3, f4, f5, f6⟩ := hf
  obtain ⟨e1, e2⟩ := f6 k hk
  rw [t3]
  generalize hL : lnA tb tl (lxP tb tl k) = len at *
  generalize lxP tb tl k = p at *
  unfold iar at g4 f4 f5
  refine ZSpec_of hE (by decide +kernel) (Nat.le_of_ble_eq_true rfl) [some (.ref x), some (.ref y), some (.int (nI k)), none, none] rfl (fun X hX => ?_)
  have loop : ∀ (q i : Nat), i + q = len → ZG E X MX15_number 5 [some (.ref x), some (.ref y), some (.int (nI k)), some (.int (nI (vlD tb p i))), some (.int (nI i))] [] σ n 0 0 := by
    intro q
    induction q with
    | zero =>
      intro i hi
      obtain rfl : i = len := by omega
      refine zrun_okZ (ok_X15_number hX) (fun q => q == 5) 32 _ _ _ _ _ _ _ (fun Z hZ => ?_)
      simp (disch := omega) only [f_X15_number_0 hZ, f_X15_number_1 hZ, f_X15_number_2 hZ, f_X15_number_3 hZ, f_X15_number_5 hZ, f_X15_number_7 hZ, f_X15_number_8 hZ, f_X15_number_11 hZ, f_X15_number_12 hZ, f_X15_number_13 hZ, f_X15_number_16 hZ, f_X15_number_18 hZ, f_X15_number_19 hZ, f_X15_number_20 hZ, f_X15_number_21 hZ, f_X15_number_24 hZ, f_X15_number_25 hZ, f_X15_number_28 hZ, f_X15_number_29 hZ, f_X15_number_30 hZ, f_X15_number_32 hZ, f_X15_number_33 hZ, f_X15_number_34 hZ, f_X15_number_35 hZ, f_X15_number_37 hZ, f_X15_number_38 hZ, f_X15_number_39 hZ, f_X15_number_42 hZ, f_X15_number_45 hZ, f_X15_number_46 hZ, s_const, s_istore, s_iload, s_aload, s_getf, s_iaload, s_icmp_ge, s_imul, s_iadd, s_isub, s_iinc, s_goto, s_ireturn, zk1, ZRt, zp, zp0, Option.some.injEq, Value.int.injEq, Value.long.injEq, Value.ref.injEq, and_self, cond_true, cond_false, zget, zkd, zc_lt, zc_le, zc_0, zc_m, zc_m0, zc_10, zk0_n, zk0_i, zk0_r, zk0_0, zk0_l, zk0_d, zs1_0, zs1_1, zs1_s, zs2_0, zs2_1, zs2_s, zcs, List.getElem?_cons_zero, List.getElem?_cons_succ, List.set_cons_zero, List.set_cons_succ, List.drop_zero, List.drop_succ_cons, List.take_zero, List.take_succ_cons, List.reverse_cons, List.reverse_nil, List.nil_append, List.cons_append, List.length_cons, List.length_nil, List.map_cons, List.map_nil, List.sum_cons, List.sum_nil, Value.category, Option.toList_some, Option.toList_none, List.append_nil, nI_leI, nI_ltI, nI_eq, nI_add, pk_sub, Nat.add_sub_cancel, vp_in_nI, nI_clamp, true_implies, false_implies, implies_true, not_true_eq_false, not_false_eq_true, Nat.not_lt, Nat.not_le, if_true, if_false, eq_self, true_and, and_true, true_or, or_true, false_or, or_false, Nat.zero_add, Nat.add_zero, ↓reduceIte, Nat.reduceAdd, Nat.reduceSub, Nat.reduceLeDiff, Nat.reduceLT, Nat.reduceBEq, Nat.reduceEqDiff, reduceCtorEq, Nat.lt_add_one, Nat.le_refl, zv_cat, Bool.or_true, Bool.or_false, Bool.true_or, Bool.false_or, zk_m1, zk_1m, zk_gt_0, zk_le_0, zk_eq_0, zk_qe_0, zk_lt_0, zk_ge_0, zk_lt_10, zk_le_10, zk_gt_10, zk_ge_10, zk_eq_10, zk_qe_10, zk_ad_10, zk_da_10, zk_sb_10, zk_mu_10, zk_um_10, zk_lt_48, zk_le_48, zk_gt_48, zk_ge_48, zk_eq_48, zk_qe_48, zk_ad_48, zk_da_48, zk_sb_48, zk_mu_48, zk_um_48, zk_lt_1, zk_le_1, zk_gt_1, zk_ge_1, zk_eq_1, zk_qe_1, zk_ad_1, zk_da_1, zk_sb_1, zk_mu_1, zk_um_1, f1, f3, f5, e2]
    | succ q ih =>
      intro i hi
      have e3 := g6 (p + i) (by omega)
      have e4 := t4 i (by omega)
      have ih2 := ih (i + 1) (by omega)
      unfold isDi at e4
      simp only [Bool.and_eq_true, decide_eq_true_eq] at e4
      have ev : nI (10 * vlD tb p i + tb (p + i) - 48) = nI (vlD tb p (i + 1)) := congrArg nI (by show _ = vlD tb p i * 10 + (tb (p + i) - 48); omega)
      rw [← ev] at ih2
      have e5 := e3.2
      refine zrun_okZ (ok_X15_number hX) (fun q => q == 5) 32 _ _ _ _ _ _ _ (fun Z hZ => ?_)
      simp (disch := omega) only [f_X15_number_0 hZ, f_X15_number_1 hZ, f_X15_number_2 hZ, f_X15_number_3 hZ, f_X15_number_5 hZ, f_X15_number_7 hZ, f_X15_number_8 hZ, f_X15_number_11 hZ, f_X15_number_12 hZ, f_X15_number_13 hZ, f_X15_number_16 hZ, f_X15_number_18 hZ, f_X15_number_19 hZ, f_X15_number_20 hZ, f_X15_number_21 hZ, f_X15_number_24 hZ, f_X15_number_25 hZ, f_X15_number_28 hZ, f_X15_number_29 hZ, f_X15_number_30 hZ, f_X15_number_32 hZ, f_X15_number_33 hZ, f_X15_number_34 hZ, f_X15_number_35 hZ, f_X15_number_37 hZ, f_X15_number_38 hZ, f_X15_number_39 hZ, f_X15_number_42 hZ, f_X15_number_45 hZ, f_X15_number_46 hZ, s_const, s_istore, s_iload, s_aload, s_getf, s_iaload, s_icmp_ge, s_imul, s_iadd, s_isub, s_iinc, s_goto, s_ireturn, zk1, ZRt, zp, zp0, Option.some.injEq, Value.int.injEq, Value.long.injEq, Value.ref.injEq, and_self, cond_true, cond_false, zget, zkd, zc_lt, zc_le, zc_0, zc_m, zc_m0, zc_10, zk0_n, zk0_i, zk0_r, zk0_0, zk0_l, zk0_d, zs1_0, zs1_1, zs1_s, zs2_0, zs2_1, zs2_s, zcs, List.getElem?_cons_zero, List.getElem?_cons_succ, List.set_cons_zero, List.set_cons_succ, List.drop_zero, List.drop_succ_cons, List.take_zero, List.take_succ_cons, List.reverse_cons, List.reverse_nil, List.nil_append, List.cons_append, List.length_cons, List.length_nil, List.map_cons, List.map_nil, List.sum_cons, List.sum_nil, Value.category, Option.toList_some, Option.toList_none, List.append_nil, nI_leI, nI_ltI, nI_eq, nI_add, pk_sub, Nat.add_sub_cancel, vp_in_nI, nI_clamp, true_implies, false_implies, implies_true, not_true_eq_false, not_false_eq_true, Nat.not_lt, Nat.not_le, if_true, if_false, eq_self, true_and, and_true, true_or, or_true, false_or, or_false, Nat.zero_add, Nat.add_zero, ↓reduceIte, Nat.reduceAdd, Nat.reduceSub, Nat.reduceLeDiff, Nat.reduceLT, Nat.reduceBEq, Nat.reduceEqDiff, reduceCtorEq, Nat.lt_add_one, Nat.le_refl, zv_cat, Bool.or_true, Bool.or_false, Bool.true_or, Bool.false_or, zk_m1, zk_1m, zk_gt_0, zk_le_0, zk_eq_0, zk_qe_0, zk_lt_0, zk_ge_0, zk_lt_10, zk_le_10, zk_gt_10, zk_ge_10, zk_eq_10, zk_qe_10, zk_ad_10, zk_da_10, zk_sb_10, zk_mu_10, zk_um_10, zk_lt_48, zk_le_48, zk_gt_48, zk_ge_48, zk_eq_48, zk_qe_48, zk_ad_48, zk_da_48, zk_sb_48, zk_mu_48, zk_um_48, zk_lt_1, zk_le_1, zk_gt_1, zk_ge_1, zk_eq_1, zk_qe_1, zk_ad_1, zk_da_1, zk_sb_1, zk_mu_1, zk_um_1, f1, f2, f3, f4, f5, e1, e2, e5, g1, g2, g4]
      exact ⟨fun h => absurd h (by omega), fun _ => ih2⟩
  refine zrun_okZ (ok_X15_number hX) (fun q => q == 5) 32 _ _ _ _ _ _ _ (fun Z hZ => ?_)
  simp (disch := omega) only [f_X15_number_0 hZ, f_X15_number_1 hZ, f_X15_number_2 hZ, f_X15_number_3 hZ, f_X15_number_5 hZ, f_X15_number_7 hZ, f_X15_number_8 hZ, f_X15_number_11 hZ, f_X15_number_12 hZ, f_X15_number_13 hZ, f_X15_number_16 hZ, f_X15_number_18 hZ, f_X15_number_19 hZ, f_X15_number_20 hZ, f_X15_number_21 hZ, f_X15_number_24 hZ, f_X15_number_25 hZ, f_X15_number_28 hZ, f_X15_number_29 hZ, f_X15_number_30 hZ, f_X15_number_32 hZ, f_X15_number_33 hZ, f_X15_number_34 hZ, f_X15_number_35 hZ, f_X15_number_37 hZ, f_X15_number_38 hZ, f_X15_number_39 hZ, f_X15_number_42 hZ, f_X15_number_45 hZ, f_X15_number_46 hZ, s_const, s_istore, s_iload, s_aload, s_getf, s_iaload, s_icmp_ge, s_imul, s_iadd, s_isub, s_iinc, s_goto, s_ireturn, zk1, ZRt, zp, zp0, Option.some.injEq, Value.int.injEq, Value.long.injEq, Value.ref.injEq, and_self, cond_true, cond_false, zget, zkd, zc_lt, zc_le, zc_0, zc_m, zc_m0, zc_10, zk0_n, zk0_i, zk0_r, zk0_0, zk0_l, zk0_d, zs1_0, zs1_1, zs1_s, zs2_0, zs2_1, zs2_s, zcs, List.getElem?_cons_zero, List.getElem?_cons_succ, List.set_cons_zero, List.set_cons_succ, List.drop_zero, List.drop_succ_cons, List.take_zero, List.take_succ_cons, List.reverse_cons, List.reverse_nil, List.nil_append, List.cons_append, List.length_cons, List.length_nil, List.map_cons, List.map_nil, List.sum_cons, List.sum_nil, Value.category, Option.toList_some, Option.toList_none, List.append_nil, nI_leI, nI_ltI, nI_eq, nI_add, pk_sub, Nat.add_sub_cancel, vp_in_nI, nI_clamp, true_implies, false_implies, implies_true, not_true_eq_false, not_false_eq_true, Nat.not_lt, Nat.not_le, if_true, if_false, eq_self, true_and, and_true, true_or, or_true, false_or, or_false, Nat.zero_add, Nat.add_zero, ↓reduceIte, Nat.reduceAdd, Nat.reduceSub, Nat.reduceLeDiff, Nat.reduceLT, Nat.reduceBEq, Nat.reduceEqDiff, reduceCtorEq, Nat.lt_add_one, Nat.le_refl, zv_cat, Bool.or_true, Bool.or_false, Bool.true_or, Bool.false_or, zk_m1, zk_1m, zk_gt_0, zk_le_0, zk_eq_0, zk_qe_0, zk_lt_0, zk_ge_0, zk_lt_10, zk_le_10, zk_gt_10, zk_ge_10, zk_eq_10, zk_qe_10, zk_ad_10, zk_da_10, zk_sb_10, zk_mu_10, zk_um_10, zk_lt_48, zk_le_48, zk_gt_48, zk_ge_48, zk_eq_48, zk_qe_48, zk_ad_48, zk_da_48, zk_sb_48, zk_mu_48, zk_um_48, zk_lt_1, zk_le_1, zk_gt_1, zk_ge_1, zk_eq_1, zk_qe_1, zk_ad_1, zk_da_1, zk_sb_1, zk_mu_1, zk_um_1]
  exact loop len 0 (by omega)
theorem sp_areSame (hE : ZEOK E) (h : RPs E σ x tb tl) (hf : FLs E σ y tb tl) {k t : Nat} (hk : k ≤ eN tb tl) (hK : lxK tb tl k = 2) (ht : t ≤ eN tb tl) (hT : lxK tb tl t = 2) : ZSpec E MX15_areSame 4 0 0 [.ref x, .ref y, .int (nI t), .int (nI k)] σ n (zp (.int (if vlA tb tl (lxP tb tl t) = vlA tb tl (lxP tb tl k) then 1 else 0)) σ n) := by
  have hb := h.b.2
  obtain ⟨t1, t2, t3, t4⟩ := tk_w hk hK
  obtain ⟨s1, s2, s3, s4⟩ := tk_w ht hT
  have hN := (eN_b (tb := tb) (tl := tl)).1
  obtain ⟨vs, ft, g1, g2, g3, g4, g5, g6⟩ := h
  obtain ⟨ws, ff, fm, f1, f2, f3, f4, f5, f6⟩ := hf
  obtain ⟨e1, e2⟩ := f6 k hk
  obtain ⟨d1, d2⟩ := f6 t ht
  have hsm := vlW_sm s4 t4
  rw [s3, t3]
  generalize lnA tb tl (lxP tb tl k) = m at *
  generalize lxP tb tl k = q at *
  generalize lnA tb tl (lxP tb tl t) = len at *
  generalize lxP tb tl t = p at *
  unfold iar at g4 f4 f5
  have ebool : ∀ b : Bool, zIf b = if b = true then 1 else 0 := fun b => by cases b <;> rfl
  refine ZSpec_of hE (by decide +kernel) (Nat.le_of_ble_eq_true rfl) [some (.ref x), some (.ref y), some (.int (nI t)), some (.int (nI k)), none, none] rfl (fun X hX => ?_)
  have no : ∀ {u : Option Value}, ¬ vlW tb p len = vlW tb q m → ZG E X MX15_areSame 25 [some (.ref x), some (.ref y), some (.int (nI t)), some (.int (nI k)), some (.int 0), u] [] σ n 0 0 := by
    intro u hn
    refine zrun_okZ (ok_X15_areSame hX) (fun q => q == 25) 52 _ _ _ _ _ _ _ (fun Z hZ => ?_)
    simp (disch := omega) only [f_X15_areSame_0 hZ, f_X15_areSame_1 hZ, f_X15_areSame_4 hZ, f_X15_areSame_5 hZ, f_X15_areSame_6 hZ, f_X15_areSame_7 hZ, f_X15_areSame_10 hZ, f_X15_areSame_11 hZ, f_X15_areSame_12 hZ, f_X15_areSame_15 hZ, f_X15_areSame_16 hZ, f_X15_areSame_19 hZ, f_X15_areSame_20 hZ, f_X15_areSame_22 hZ, f_X15_areSame_23 hZ, f_X15_areSame_25 hZ, f_X15_areSame_27 hZ, f_X15_areSame_30 hZ, f_X15_areSame_32 hZ, f_X15_areSame_33 hZ, f_X15_areSame_36 hZ, f_X15_areSame_37 hZ, f_X15_areSame_38 hZ, f_X15_areSame_41 hZ, f_X15_areSame_42 hZ, f_X15_areSame_45 hZ, f_X15_areSame_46 hZ, f_X15_areSame_49 hZ, f_X15_areSame_50 hZ, f_X15_areSame_51 hZ, f_X15_areSame_53 hZ, f_X15_areSame_54 hZ, f_X15_areSame_55 hZ, f_X15_areSame_56 hZ, f_X15_areSame_59 hZ, f_X15_areSame_60 hZ, f_X15_areSame_63 hZ, f_X15_areSame_64 hZ, f_X15_areSame_65 hZ, f_X15_areSame_67 hZ, f_X15_areSame_68 hZ, f_X15_areSame_69 hZ, f_X15_areSame_72 hZ, f_X15_areSame_73 hZ, f_X15_areSame_76 hZ, f_X15_areSame_77 hZ, f_X15_areSame_79 hZ, f_X15_areSame_82 hZ, f_X15_areSame_85 hZ, f_X15_areSame_87 hZ, s_aload, s_getf, s_iload, s_iaload, s_icmp_ne, s_const, s_goto, s_istore, s_if_eq, s_icmp_ge, s_iadd, s_iinc, s_zreturn, zk1, ZRt, zp, zp0, Option.some.injEq, Value.int.injEq, Value.long.injEq, Value.ref.injEq, and_self, cond_true, cond_false, zget, zkd, zc_lt, zc_le, zc_0, zc_m, zc_m0, zc_10, zk0_n, zk0_i, zk0_r, zk0_0, zk0_l, zk0_d, zs1_0, zs1_1, zs1_s, zs2_0, zs2_1, zs2_s, zcs, List.getElem?_cons_zero, List.getElem?_cons_succ, List.set_cons_zero, List.set_cons_succ, List.drop_zero, List.drop_succ_cons, List.take_zero, List.take_succ_cons, List.reverse_cons, List.reverse_nil, List.nil_append, List.cons_append, List.length_cons, List.length_nil, List.map_cons, List.map_nil, List.sum_cons, List.sum_nil, Value.category, Option.toList_some, Option.toList_none, List.append_nil, nI_leI, nI_ltI, nI_eq, nI_add, pk_sub, Nat.add_sub_cancel, vp_in_nI, nI_clamp, true_implies, false_implies, implies_true, not_true_eq_false, not_false_eq_true, Nat.not_lt, Nat.not_le, if_true, if_false, eq_self, true_and, and_true, true_or, or_true, false_or, or_false, Nat.zero_add, Nat.add_zero, ↓reduceIte, Nat.reduceAdd, Nat.reduceSub, Nat.reduceLeDiff, Nat.reduceLT, Nat.reduceBEq, Nat.reduceEqDiff, reduceCtorEq, Nat.lt_add_one, Nat.le_refl, zv_cat, Bool.or_true, Bool.or_false, Bool.true_or, Bool.false_or, zk_m1, zk_1m, zk_lt_1, zk_le_1, zk_gt_1, zk_ge_1, zk_eq_1, zk_qe_1, zk_ad_1, zk_da_1, zk_sb_1, zk_mu_1, zk_um_1, zk_gt_0, zk_le_0, zk_eq_0, zk_qe_0, zk_lt_0, zk_ge_0]
    rw [if_neg hn]
  have loop : ∀ (r i : Nat), i + r = len → len = m → smB tb p q i = true → ZG E X MX15_areSame 25 [some (.ref x), some (.ref y), some (.int (nI t)), some (.int (nI k)), some (.int 1), some (.int (nI i))] [] σ n 0 0 := by
    intro r
    induction r with
    | zero =>
      intro i hi hm hs
      obtain rfl : i = len := by omega
      have ev := hsm.mpr ⟨hm, hs⟩
      refine zrun_okZ (ok_X15_areSame hX) (fun q => q == 25) 52 _ _ _ _ _ _ _ (fun Z hZ => ?_)
      simp (disch := omega) only [f_X15_areSame_0 hZ, f_X15_areSame_1 hZ, f_X15_areSame_4 hZ, f_X15_areSame_5 hZ, f_X15_areSame_6 hZ, f_X15_areSame_7 hZ, f_X15_areSame_10 hZ, f_X15_areSame_11 hZ, f_X15_areSame_12 hZ, f_X15_areSame_15 hZ, f_X15_areSame_16 hZ, f_X15_areSame_19 hZ, f_X15_areSame_20 hZ, f_X15_areSame_22 hZ, f_X15_areSame_23 hZ, f_X15_areSame_25 hZ, f_X15_areSame_27 hZ, f_X15_areSame_30 hZ, f_X15_areSame_32 hZ, f_X15_areSame_33 hZ, f_X15_areSame_36 hZ, f_X15_areSame_37 hZ, f_X15_areSame_38 hZ, f_X15_areSame_41 hZ, f_X15_areSame_42 hZ, f_X15_areSame_45 hZ, f_X15_areSame_46 hZ, f_X15_areSame_49 hZ, f_X15_areSame_50 hZ, f_X15_areSame_51 hZ, f_X15_areSame_53 hZ, f_X15_areSame_54 hZ, f_X15_areSame_55 hZ, f_X15_areSame_56 hZ, f_X15_areSame_59 hZ, f_X15_areSame_60 hZ, f_X15_areSame_63 hZ, f_X15_areSame_64 hZ, f_X15_areSame_65 hZ, f_X15_areSame_67 hZ, f_X15_areSame_68 hZ, f_X15_areSame_69 hZ, f_X15_areSame_72 hZ, f_X15_areSame_73 hZ, f_X15_areSame_76 hZ, f_X15_areSame_77 hZ, f_X15_areSame_79 hZ, f_X15_areSame_82 hZ, f_X15_areSame_85 hZ, f_X15_areSame_87 hZ, s_aload, s_getf, s_iload, s_iaload, s_icmp_ne, s_const, s_goto, s_istore, s_if_eq, s_icmp_ge, s_iadd, s_iinc, s_zreturn, zk1, ZRt, zp, zp0, Option.some.injEq, Value.int.injEq, Value.long.injEq, Value.ref.injEq, and_self, cond_true, cond_false, zget, zkd, zc_lt, zc_le, zc_0, zc_m, zc_m0, zc_10, zk0_n, zk0_i, zk0_r, zk0_0, zk0_l, zk0_d, zs1_0, zs1_1, zs1_s, zs2_0, zs2_1, zs2_s, zcs, List.getElem?_cons_zero, List.getElem?_cons_succ, List.set_cons_zero, List.set_cons_succ, List.drop_zero, List.drop_succ_cons, List.take_zero, List.take_succ_cons, List.reverse_cons, List.reverse_nil, List.nil_append, List.cons_append, List.length_cons, List.length_nil, List.map_cons, List.map_nil, List.sum_cons, List.sum_nil, Value.category, Option.toList_some, Option.toList_none, List.append_nil, nI_leI, nI_ltI, nI_eq, nI_add, pk_sub, Nat.add_sub_cancel, vp_in_nI, nI_clamp, true_implies, false_implies, implies_true, not_true_eq_false, not_false_eq_true, Nat.not_lt, Nat.not_le, if_true, if_false, eq_self, true_and, and_true, true_or, or_true, false_or, or_false, Nat.zero_add, Nat.add_zero, ↓reduceIte, Nat.reduceAdd, Nat.reduceSub, Nat.reduceLeDiff, Nat.reduceLT, Nat.reduceBEq, Nat.reduceEqDiff, reduceCtorEq, Nat.lt_add_one, Nat.le_refl, zv_cat, Bool.or_true, Bool.or_false, Bool.true_or, Bool.false_or, zk_m1, zk_1m, zk_lt_1, zk_le_1, zk_gt_1, zk_ge_1, zk_eq_1, zk_qe_1, zk_ad_1, zk_da_1, zk_sb_1, zk_mu_1, zk_um_1, zk_gt_0, zk_le_0, zk_eq_0, zk_qe_0, zk_lt_0, zk_ge_0, f1, f3, f5, d2]
      rw [if_pos ev]
    | succ r ih =>
      intro i hi hm hs
      have e3 := g6 (p + i) (by omega)
      have e4 := g6 (q + i) (by omega)
      have e5 := e3.2
      have e6 := e4.2
      have z77 : ∀ (v : Int32), v = (if tb (p + i) = tb (q + i) then 1 else 0) → ZG E X MX15_areSame 77 [some (.ref x), some (.ref y), some (.int (nI t)), some (.int (nI k)), some (.int 1), some (.int (nI i))] [.int v] σ n 0 0 := by
        intro v hv
        by_cases c : tb (p + i) = tb (q + i)
        · rw [if_pos c] at hv
          subst hv
          have ih2 := ih (i + 1) (by omega) hm (by show (smB tb p q i && decide (tb (p + i) = tb (q + i))) = true; rw [hs, decide_eq_true c]; rfl)
          refine zrun_okZ (ok_X15_areSame hX) (fun q => q == 25) 52 _ _ _ _ _ _ _ (fun Z hZ => ?_)
          simp (disch := omega) only [f_X15_areSame_0 hZ, f_X15_areSame_1 hZ, f_X15_areSame_4 hZ, f_X15_areSame_5 hZ, f_X15_areSame_6 hZ, f_X15_areSame_7 hZ, f_X15_areSame_10 hZ, f_X15_areSame_11 hZ, f_X15_areSame_12 hZ, f_X15_areSame_15 hZ, f_X15_areSame_16 hZ, f_X15_areSame_19 hZ, f_X15_areSame_20 hZ, f_X15_areSame_22 hZ, f_X15_areSame_23 hZ, f_X15_areSame_25 hZ, f_X15_areSame_27 hZ, f_X15_areSame_30 hZ, f_X15_areSame_32 hZ, f_X15_areSame_33 hZ, f_X15_areSame_36 hZ, f_X15_areSame_37 hZ, f_X15_areSame_38 hZ, f_X15_areSame_41 hZ, f_X15_areSame_42 hZ, f_X15_areSame_45 hZ, f_X15_areSame_46 hZ, f_X15_areSame_49 hZ, f_X15_areSame_50 hZ, f_X15_areSame_51 hZ, f_X15_areSame_53 hZ, f_X15_areSame_54 hZ, f_X15_areSame_55 hZ, f_X15_areSame_56 hZ, f_X15_areSame_59 hZ, f_X15_areSame_60 hZ, f_X15_areSame_63 hZ, f_X15_areSame_64 hZ, f_X15_areSame_65 hZ, f_X15_areSame_67 hZ, f_X15_areSame_68 hZ, f_X15_areSame_69 hZ, f_X15_areSame_72 hZ, f_X15_areSame_73 hZ, f_X15_areSame_76 hZ, f_X15_areSame_77 hZ, f_X15_areSame_79 hZ, f_X15_areSame_82 hZ, f_X15_areSame_85 hZ, f_X15_areSame_87 hZ, s_aload, s_getf, s_iload, s_iaload, s_icmp_ne, s_const, s_goto, s_istore, s_if_eq, s_icmp_ge, s_iadd, s_iinc, s_zreturn, zk1, ZRt, zp, zp0, Option.some.injEq, Value.int.injEq, Value.long.injEq, Value.ref.injEq, and_self, cond_true, cond_false, zget, zkd, zc_lt, zc_le, zc_0, zc_m, zc_m0, zc_10, zk0_n, zk0_i, zk0_r, zk0_0, zk0_l, zk0_d, zs1_0, zs1_1, zs1_s, zs2_0, zs2_1, zs2_s, zcs, List.getElem?_cons_zero, List.getElem?_cons_succ, List.set_cons_zero, List.set_cons_succ, List.drop_zero, List.drop_succ_cons, List.take_zero, List.take_succ_cons, List.reverse_cons, List.reverse_nil, List.nil_append, List.cons_append, List.length_cons, List.length_nil, List.map_cons, List.map_nil, List.sum_cons, List.sum_nil, Value.category, Option.toList_some, Option.toList_none, List.append_nil, nI_leI, nI_ltI, nI_eq, nI_add, pk_sub, Nat.add_sub_cancel, vp_in_nI, nI_clamp, true_implies, false_implies, implies_true, not_true_eq_false, not_false_eq_true, Nat.not_lt, Nat.not_le, if_true, if_false, eq_self, true_and, and_true, true_or, or_true, false_or, or_false, Nat.zero_add, Nat.add_zero, ↓reduceIte, Nat.reduceAdd, Nat.reduceSub, Nat.reduceLeDiff, Nat.reduceLT, Nat.reduceBEq, Nat.reduceEqDiff, reduceCtorEq, Nat.lt_add_one, Nat.le_refl, zv_cat, Bool.or_true, Bool.or_false, Bool.true_or, Bool.false_or, zk_m1, zk_1m, zk_lt_1, zk_le_1, zk_gt_1, zk_ge_1, zk_eq_1, zk_qe_1, zk_ad_1, zk_da_1, zk_sb_1, zk_mu_1, zk_um_1, zk_gt_0, zk_le_0, zk_eq_0, zk_qe_0, zk_lt_0, zk_ge_0]
          exact ih2
        · rw [if_neg c] at hv
          subst hv
          have hn : ¬ vlW tb p len = vlW tb q m := fun z => by
            have z2 := (hsm.mp z).2
            have z3 : ∀ (d : Nat), smB tb p q (i + 1 + d) = true → False := by
              intro d
              induction d with
              | zero =>
                intro w
                have w' : (smB tb p q i && decide (tb (p + i) = tb (q + i))) = true := w
                rw [Bool.and_eq_true, decide_eq_true_eq] at w'
                exact c w'.2
              | succ d ihd =>
                intro w
                have w' : (smB tb p q (i + 1 + d) && decide (tb (p + (i + 1 + d)) = tb (q + (i + 1 + d)))) = true := w
                rw [Bool.and_eq_true] at w'
                exact ihd w'.1
            exact z3 (len - (i + 1)) (by rw [show i + 1 + (len - (i + 1)) = len by omega]; exact z2)
          have z := no (u := some (.int (nI (i + 1)))) hn
          refine zrun_okZ (ok_X15_areSame hX) (fun q => q == 25) 52 _ _ _ _ _ _ _ (fun Z hZ => ?_)
          simp (disch := omega) only [f_X15_areSame_0 hZ, f_X15_areSame_1 hZ, f_X15_areSame_4 hZ, f_X15_areSame_5 hZ, f_X15_areSame_6 hZ, f_X15_areSame_7 hZ, f_X15_areSame_10 hZ, f_X15_areSame_11 hZ, f_X15_areSame_12 hZ, f_X15_areSame_15 hZ, f_X15_areSame_16 hZ, f_X15_areSame_19 hZ, f_X15_areSame_20 hZ, f_X15_areSame_22 hZ, f_X15_areSame_23 hZ, f_X15_areSame_25 hZ, f_X15_areSame_27 hZ, f_X15_areSame_30 hZ, f_X15_areSame_32 hZ, f_X15_areSame_33 hZ, f_X15_areSame_36 hZ, f_X15_areSame_37 hZ, f_X15_areSame_38 hZ, f_X15_areSame_41 hZ, f_X15_areSame_42 hZ, f_X15_areSame_45 hZ, f_X15_areSame_46 hZ, f_X15_areSame_49 hZ, f_X15_areSame_50 hZ, f_X15_areSame_51 hZ, f_X15_areSame_53 hZ, f_X15_areSame_54 hZ, f_X15_areSame_55 hZ, f_X15_areSame_56 hZ, f_X15_areSame_59 hZ, f_X15_areSame_60 hZ, f_X15_areSame_63 hZ, f_X15_areSame_64 hZ, f_X15_areSame_65 hZ, f_X15_areSame_67 hZ, f_X15_areSame_68 hZ, f_X15_areSame_69 hZ, f_X15_areSame_72 hZ, f_X15_areSame_73 hZ, f_X15_areSame_76 hZ, f_X15_areSame_77 hZ, f_X15_areSame_79 hZ, f_X15_areSame_82 hZ, f_X15_areSame_85 hZ, f_X15_areSame_87 hZ, s_aload, s_getf, s_iload, s_iaload, s_icmp_ne, s_const, s_goto, s_istore, s_if_eq, s_icmp_ge, s_iadd, s_iinc, s_zreturn, zk1, ZRt, zp, zp0, Option.some.injEq, Value.int.injEq, Value.long.injEq, Value.ref.injEq, and_self, cond_true, cond_false, zget, zkd, zc_lt, zc_le, zc_0, zc_m, zc_m0, zc_10, zk0_n, zk0_i, zk0_r, zk0_0, zk0_l, zk0_d, zs1_0, zs1_1, zs1_s, zs2_0, zs2_1, zs2_s, zcs, List.getElem?_cons_zero, List.getElem?_cons_succ, List.set_cons_zero, List.set_cons_succ, List.drop_zero, List.drop_succ_cons, List.take_zero, List.take_succ_cons, List.reverse_cons, List.reverse_nil, List.nil_append, List.cons_append, List.length_cons, List.length_nil, List.map_cons, List.map_nil, List.sum_cons, List.sum_nil, Value.category, Option.toList_some, Option.toList_none, List.append_nil, nI_leI, nI_ltI, nI_eq, nI_add, pk_sub, Nat.add_sub_cancel, vp_in_nI, nI_clamp, true_implies, false_implies, implies_true, not_true_eq_false, not_false_eq_true, Nat.not_lt, Nat.not_le, if_true, if_false, eq_self, true_and, and_true, true_or, or_true, false_or, or_false, Nat.zero_add, Nat.add_zero, ↓reduceIte, Nat.reduceAdd, Nat.reduceSub, Nat.reduceLeDiff, Nat.reduceLT, Nat.reduceBEq, Nat.reduceEqDiff, reduceCtorEq, Nat.lt_add_one, Nat.le_refl, zv_cat, Bool.or_true, Bool.or_false, Bool.true_or, Bool.false_or, zk_m1, zk_1m, zk_lt_1, zk_le_1, zk_gt_1, zk_ge_1, zk_eq_1, zk_qe_1, zk_ad_1, zk_da_1, zk_sb_1, zk_mu_1, zk_um_1, zk_gt_0, zk_le_0, zk_eq_0, zk_qe_0, zk_lt_0, zk_ge_0]
          exact z
      refine zrun_okZ (ok_X15_areSame hX) (fun q => q == 25 || q == 77) 52 _ _ _ _ _ _ _ (fun Z hZ => ?_)
      simp (disch := omega) only [f_X15_areSame_0 hZ, f_X15_areSame_1 hZ, f_X15_areSame_4 hZ, f_X15_areSame_5 hZ, f_X15_areSame_6 hZ, f_X15_areSame_7 hZ, f_X15_areSame_10 hZ, f_X15_areSame_11 hZ, f_X15_areSame_12 hZ, f_X15_areSame_15 hZ, f_X15_areSame_16 hZ, f_X15_areSame_19 hZ, f_X15_areSame_20 hZ, f_X15_areSame_22 hZ, f_X15_areSame_23 hZ, f_X15_areSame_25 hZ, f_X15_areSame_27 hZ, f_X15_areSame_30 hZ, f_X15_areSame_32 hZ, f_X15_areSame_33 hZ, f_X15_areSame_36 hZ, f_X15_areSame_37 hZ, f_X15_areSame_38 hZ, f_X15_areSame_41 hZ, f_X15_areSame_42 hZ, f_X15_areSame_45 hZ, f_X15_areSame_46 hZ, f_X15_areSame_49 hZ, f_X15_areSame_50 hZ, f_X15_areSame_51 hZ, f_X15_areSame_53 hZ, f_X15_areSame_54 hZ, f_X15_areSame_55 hZ, f_X15_areSame_56 hZ, f_X15_areSame_59 hZ, f_X15_areSame_60 hZ, f_X15_areSame_63 hZ, f_X15_areSame_64 hZ, f_X15_areSame_65 hZ, f_X15_areSame_67 hZ, f_X15_areSame_68 hZ, f_X15_areSame_69 hZ, f_X15_areSame_72 hZ, f_X15_areSame_73 hZ, f_X15_areSame_76 hZ, f_X15_areSame_77 hZ, f_X15_areSame_79 hZ, f_X15_areSame_82 hZ, f_X15_areSame_85 hZ, f_X15_areSame_87 hZ, s_aload, s_getf, s_iload, s_iaload, s_icmp_ne, s_const, s_goto, s_istore, s_if_eq, s_icmp_ge, s_iadd, s_iinc, s_zreturn, zk1, ZRt, zp, zp0, Option.some.injEq, Value.int.injEq, Value.long.injEq, Value.ref.injEq, and_self, cond_true, cond_false, zget, zkd, zc_lt, zc_le, zc_0, zc_m, zc_m0, zc_10, zk0_n, zk0_i, zk0_r, zk0_0, zk0_l, zk0_d, zs1_0, zs1_1, zs1_s, zs2_0, zs2_1, zs2_s, zcs, List.getElem?_cons_zero, List.getElem?_cons_succ, List.set_cons_zero, List.set_cons_succ, List.drop_zero, List.drop_succ_cons, List.take_zero, List.take_succ_cons, List.reverse_cons, List.reverse_nil, List.nil_append, List.cons_append, List.length_cons, List.length_nil, List.map_cons, List.map_nil, List.sum_cons, List.sum_nil, Value.category, Option.toList_some, Option.toList_none, List.append_nil, nI_leI, nI_ltI, nI_eq, nI_add, pk_sub, Nat.add_sub_cancel, vp_in_nI, nI_clamp, true_implies, false_implies, implies_true, not_true_eq_false, not_false_eq_true, Nat.not_lt, Nat.not_le, if_true, if_false, eq_self, true_and, and_true, true_or, or_true, false_or, or_false, Nat.zero_add, Nat.add_zero, ↓reduceIte, Nat.reduceAdd, Nat.reduceSub, Nat.reduceLeDiff, Nat.reduceLT, Nat.reduceBEq, Nat.reduceEqDiff, reduceCtorEq, Nat.lt_add_one, Nat.le_refl, zv_cat, Bool.or_true, Bool.or_false, Bool.true_or, Bool.false_or, zk_m1, zk_1m, zk_lt_1, zk_le_1, zk_gt_1, zk_ge_1, zk_eq_1, zk_qe_1, zk_ad_1, zk_da_1, zk_sb_1, zk_mu_1, zk_um_1, zk_gt_0, zk_le_0, zk_eq_0, zk_qe_0, zk_lt_0, zk_ge_0, f1, f2, f3, f4, f5, d1, d2, e1, e2, e5, e6, g1, g2, g4]
      exact ⟨fun h => absurd h (by omega), fun _ => ⟨fun c => z77 _ (by rw [if_pos c]), fun c => z77 _ (by rw [if_neg c])⟩⟩
  by_cases hm : len = m
  · have z := loop len 0 (by omega) hm rfl
    refine zrun_okZ (ok_X15_areSame hX) (fun q => q == 25) 52 _ _ _ _ _ _ _ (fun Z hZ => ?_)
    simp (disch := omega) only [f_X15_areSame_0 hZ, f_X15_areSame_1 hZ, f_X15_areSame_4 hZ, f_X15_areSame_5 hZ, f_X15_areSame_6 hZ, f_X15_areSame_7 hZ, f_X15_areSame_10 hZ, f_X15_areSame_11 hZ, f_X15_areSame_12 hZ, f_X15_areSame_15 hZ, f_X15_areSame_16 hZ, f_X15_areSame_19 hZ, f_X15_areSame_20 hZ, f_X15_areSame_22 hZ, f_X15_areSame_23 hZ, f_X15_areSame_25 hZ, f_X15_areSame_27 hZ, f_X15_areSame_30 hZ, f_X15_areSame_32 hZ, f_X15_areSame_33 hZ, f_X15_areSame_36 hZ, f_X15_areSame_37 hZ, f_X15_areSame_38 hZ, f_X15_areSame_41 hZ, f_X15_areSame_42 hZ, f_X15_areSame_45 hZ, f_X15_areSame_46 hZ, f_X15_areSame_49 hZ, f_X15_areSame_50 hZ, f_X15_areSame_51 hZ, f_X15_areSame_53 hZ, f_X15_areSame_54 hZ, f_X15_areSame_55 hZ, f_X15_areSame_56 hZ, f_X15_areSame_59 hZ, f_X15_areSame_60 hZ, f_X15_areSame_63 hZ, f_X15_areSame_64 hZ, f_X15_areSame_65 hZ, f_X15_areSame_67 hZ, f_X15_areSame_68 hZ, f_X15_areSame_69 hZ, f_X15_areSame_72 hZ, f_X15_areSame_73 hZ, f_X15_areSame_76 hZ, f_X15_areSame_77 hZ, f_X15_areSame_79 hZ, f_X15_areSame_82 hZ, f_X15_areSame_85 hZ, f_X15_areSame_87 hZ, s_aload, s_getf, s_iload, s_iaload, s_icmp_ne, s_const, s_goto, s_istore, s_if_eq, s_icmp_ge, s_iadd, s_iinc, s_zreturn, zk1, ZRt, zp, zp0, Option.some.injEq, Value.int.injEq, Value.long.injEq, Value.ref.injEq, and_self, cond_true, cond_false, zget, zkd, zc_lt, zc_le, zc_0, zc_m, zc_m0, zc_10, zk0_n, zk0_i, zk0_r, zk0_0, zk0_l, zk0_d, zs1_0, zs1_1, zs1_s, zs2_0, zs2_1, zs2_s, zcs, List.getElem?_cons_zero, List.getElem?_cons_succ, List.set_cons_zero, List.set_cons_succ, List.drop_zero, List.drop_succ_cons, List.take_zero, List.take_succ_cons, List.reverse_cons, List.reverse_nil, List.nil_append, List.cons_append, List.length_cons, List.length_nil, List.map_cons, List.map_nil, List.sum_cons, List.sum_nil, Value.category, Option.toList_some, Option.toList_none, List.append_nil, nI_leI, nI_ltI, nI_eq, nI_add, pk_sub, Nat.add_sub_cancel, vp_in_nI, nI_clamp, true_implies, false_implies, implies_true, not_true_eq_false, not_false_eq_true, Nat.not_lt, Nat.not_le, if_true, if_false, eq_self, true_and, and_true, true_or, or_true, false_or, or_false, Nat.zero_add, Nat.add_zero, ↓reduceIte, Nat.reduceAdd, Nat.reduceSub, Nat.reduceLeDiff, Nat.reduceLT, Nat.reduceBEq, Nat.reduceEqDiff, reduceCtorEq, Nat.lt_add_one, Nat.le_refl, zv_cat, Bool.or_true, Bool.or_false, Bool.true_or, Bool.false_or, zk_m1, zk_1m, zk_lt_1, zk_le_1, zk_gt_1, zk_ge_1, zk_eq_1, zk_qe_1, zk_ad_1, zk_da_1, zk_sb_1, zk_mu_1, zk_um_1, zk_gt_0, zk_le_0, zk_eq_0, zk_qe_0, zk_lt_0, zk_ge_0, f1, f3, f5, d2, e2, hm]
    exact z
  · have z := no (u := some (.int (nI 0))) (fun w => hm (hsm.mp w).1)
    refine zrun_okZ (ok_X15_areSame hX) (fun q => q == 25) 52 _ _ _ _ _ _ _ (fun Z hZ => ?_)
    simp (disch := omega) only [f_X15_areSame_0 hZ, f_X15_areSame_1 hZ, f_X15_areSame_4 hZ, f_X15_areSame_5 hZ, f_X15_areSame_6 hZ, f_X15_areSame_7 hZ, f_X15_areSame_10 hZ, f_X15_areSame_11 hZ, f_X15_areSame_12 hZ, f_X15_areSame_15 hZ, f_X15_areSame_16 hZ, f_X15_areSame_19 hZ, f_X15_areSame_20 hZ, f_X15_areSame_22 hZ, f_X15_areSame_23 hZ, f_X15_areSame_25 hZ, f_X15_areSame_27 hZ, f_X15_areSame_30 hZ, f_X15_areSame_32 hZ, f_X15_areSame_33 hZ, f_X15_areSame_36 hZ, f_X15_areSame_37 hZ, f_X15_areSame_38 hZ, f_X15_areSame_41 hZ, f_X15_areSame_42 hZ, f_X15_areSame_45 hZ, f_X15_areSame_46 hZ, f_X15_areSame_49 hZ, f_X15_areSame_50 hZ, f_X15_areSame_51 hZ, f_X15_areSame_53 hZ, f_X15_areSame_54 hZ, f_X15_areSame_55 hZ, f_X15_areSame_56 hZ, f_X15_areSame_59 hZ, f_X15_areSame_60 hZ, f_X15_areSame_63 hZ, f_X15_areSame_64 hZ, f_X15_areSame_65 hZ, f_X15_areSame_67 hZ, f_X15_areSame_68 hZ, f_X15_areSame_69 hZ, f_X15_areSame_72 hZ, f_X15_areSame_73 hZ, f_X15_areSame_76 hZ, f_X15_areSame_77 hZ, f_X15_areSame_79 hZ, f_X15_areSame_82 hZ, f_X15_areSame_85 hZ, f_X15_areSame_87 hZ, s_aload, s_getf, s_iload, s_iaload, s_icmp_ne, s_const, s_goto, s_istore, s_if_eq, s_icmp_ge, s_iadd, s_iinc, s_zreturn, zk1, ZRt, zp, zp0, Option.some.injEq, Value.int.injEq, Value.long.injEq, Value.ref.injEq, and_self, cond_true, cond_false, zget, zkd, zc_lt, zc_le, zc_0, zc_m, zc_m0, zc_10, zk0_n, zk0_i, zk0_r, zk0_0, zk0_l, zk0_d, zs1_0, zs1_1, zs1_s, zs2_0, zs2_1, zs2_s, zcs, List.getElem?_cons_zero, List.getElem?_cons_succ, List.set_cons_zero, List.set_cons_succ, List.drop_zero, List.drop_succ_cons, List.take_zero, List.take_succ_cons, List.reverse_cons, List.reverse_nil, List.nil_append, List.cons_append, List.length_cons, List.length_nil, List.map_cons, List.map_nil, List.sum_cons, List.sum_nil, Value.category, Option.toList_some, Option.toList_none, List.append_nil, nI_leI, nI_ltI, nI_eq, nI_add, pk_sub, Nat.add_sub_cancel, vp_in_nI, nI_clamp, true_implies, false_implies, implies_true, not_true_eq_false, not_false_eq_true, Nat.not_lt, Nat.not_le, if_true, if_false, eq_self, true_and, and_true, true_or, or_true, false_or, or_false, Nat.zero_add, Nat.add_zero, ↓reduceIte, Nat.reduceAdd, Nat.reduceSub, Nat.reduceLeDiff, Nat.reduceLT, Nat.reduceBEq, Nat.reduceEqDiff, reduceCtorEq, Nat.lt_add_one, Nat.le_refl, zv_cat, Bool.or_true, Bool.or_false, Bool.true_or, Bool.false_or, zk_m1, zk_1m, zk_lt_1, zk_le_1, zk_gt_1, zk_ge_1, zk_eq_1, zk_qe_1, zk_ad_1, zk_da_1, zk_sb_1, zk_mu_1, zk_um_1, zk_gt_0, zk_le_0, zk_eq_0, zk_qe_0, zk_lt_0, zk_ge_0, f1, f3, f5, d2, e2, hm]
    exact z
theorem sp_findR (hE : ZEOK E) (h : RPs E σ x tb tl) (hf : FLs E σ y tb tl) {k a M N : Nat} {g : Nat → Int32} {f : Nat → Nat} (hk : k ≤ eN tb tl) (hK : lxK tb tl k = 2) (ha : iar E σ a M g) (hM : M < 2 ^ 31) (hN : N ≤ M) (hg : ∀ i, i < N → ∃ t, t ≤ eN tb tl ∧ lxK tb tl t = 2 ∧ g i = nI t ∧ f i = vlA tb tl (lxP tb tl t)) : ZSpec E MX15_find 5 0 0 [.ref x, .ref y, .ref a, .int (nI N), .int (nI k)] σ n (zp (.int (oI (fdA f (vlA tb tl (lxP tb tl k)) N 0))) σ n) := by
  have ha' := ha
  unfold iar at ha'
  obtain ⟨vx, hvx⟩ := h.o
  obtain ⟨r, hr⟩ : ∃ r, r = fdA f (vlA tb tl (lxP tb tl k)) N 0 := ⟨_, rfl⟩
  rw [← hr]
  refine ZSpec_of hE (by decide +kernel) (Nat.le_of_ble_eq_true rfl) [some (.ref x), some (.ref y), some (.ref a), some (.int (nI N)), some (.int (nI k)), none] rfl (fun X hX => ?_)
  have loop : ∀ (q i : Nat), i + q = N → fdA f (vlA tb tl (lxP tb tl k)) q i = r → ZG E X MX15_find 3 [some (.ref x), some (.ref y), some (.ref a), some (.int (nI N)), some (.int (nI k)), some (.int (nI i))] [] σ n 0 0 := by
    intro q
    induction q with
    | zero =>
      intro i hi he
      obtain rfl : i = N := by omega
      refine zrun_okZ (ok_X15_find hX) (fun q => q == 3) 21 _ _ _ _ _ _ _ (fun Z hZ => ?_)
      simp (disch := omega) only [f_X15_find_0 hZ, f_X15_find_1 hZ, f_X15_find_3 hZ, f_X15_find_5 hZ, f_X15_find_6 hZ, f_X15_find_9 hZ, f_X15_find_10 hZ, f_X15_find_11 hZ, f_X15_find_12 hZ, f_X15_find_14 hZ, f_X15_find_15 hZ, f_X15_find_17 hZ, f_X15_find_20 hZ, f_X15_find_23 hZ, f_X15_find_25 hZ, f_X15_find_26 hZ, f_X15_find_29 hZ, f_X15_find_32 hZ, f_X15_find_33 hZ, s_const, s_istore, s_iload, s_icmp_ge, s_aload, s_iaload, s_callV, s_if_eq, s_ireturn, s_iinc, s_goto, zobj, zk1, ZRt, zp, zp0, Option.some.injEq, Value.int.injEq, Value.long.injEq, Value.ref.injEq, and_self, cond_true, cond_false, zget, zkd, zc_lt, zc_le, zc_0, zc_m, zc_m0, zc_10, zk0_n, zk0_i, zk0_r, zk0_0, zk0_l, zk0_d, zs1_0, zs1_1, zs1_s, zs2_0, zs2_1, zs2_s, zcs, List.getElem?_cons_zero, List.getElem?_cons_succ, List.set_cons_zero, List.set_cons_succ, List.drop_zero, List.drop_succ_cons, List.take_zero, List.take_succ_cons, List.reverse_cons, List.reverse_nil, List.nil_append, List.cons_append, List.length_cons, List.length_nil, List.map_cons, List.map_nil, List.sum_cons, List.sum_nil, Value.category, Option.toList_some, Option.toList_none, List.append_nil, nI_leI, nI_ltI, nI_eq, nI_add, pk_sub, Nat.add_sub_cancel, vp_in_nI, nI_clamp, true_implies, false_implies, implies_true, not_true_eq_false, not_false_eq_true, Nat.not_lt, Nat.not_le, if_true, if_false, eq_self, true_and, and_true, true_or, or_true, false_or, or_false, Nat.zero_add, Nat.add_zero, ↓reduceIte, Nat.reduceAdd, Nat.reduceSub, Nat.reduceLeDiff, Nat.reduceLT, Nat.reduceBEq, Nat.reduceEqDiff, reduceCtorEq, Nat.lt_add_one, Nat.le_refl, zv_cat, Bool.or_true, Bool.or_false, Bool.true_or, Bool.false_or, zk_m1, zk_1m, zk_gt_0, zk_le_0, zk_eq_0, zk_qe_0, zk_lt_0, zk_ge_0, zk_lt_1, zk_le_1, zk_gt_1, zk_ge_1, zk_eq_1, zk_qe_1, zk_ad_1, zk_da_1, zk_sb_1, zk_mu_1, zk_um_1]
      rw [← he]
      rfl
    | succ q ih =>
      intro i hi he
      obtain ⟨t, t1, t2, t3, t4⟩ := hg i (by omega)
      unfold fdA at he
      rw [t4] at he
      refine zrun_okZ (ok_X15_find hX) (fun q => q == 3) 21 _ _ _ _ _ _ _ (fun Z hZ => ?_)
      simp (disch := omega) only [f_X15_find_0 hZ, f_X15_find_1 hZ, f_X15_find_3 hZ, f_X15_find_5 hZ, f_X15_find_6 hZ, f_X15_find_9 hZ, f_X15_find_10 hZ, f_X15_find_11 hZ, f_X15_find_12 hZ, f_X15_find_14 hZ, f_X15_find_15 hZ, f_X15_find_17 hZ, f_X15_find_20 hZ, f_X15_find_23 hZ, f_X15_find_25 hZ, f_X15_find_26 hZ, f_X15_find_29 hZ, f_X15_find_32 hZ, f_X15_find_33 hZ, s_const, s_istore, s_iload, s_icmp_ge, s_aload, s_iaload, s_callV, s_if_eq, s_ireturn, s_iinc, s_goto, zobj, zk1, ZRt, zp, zp0, Option.some.injEq, Value.int.injEq, Value.long.injEq, Value.ref.injEq, and_self, cond_true, cond_false, zget, zkd, zc_lt, zc_le, zc_0, zc_m, zc_m0, zc_10, zk0_n, zk0_i, zk0_r, zk0_0, zk0_l, zk0_d, zs1_0, zs1_1, zs1_s, zs2_0, zs2_1, zs2_s, zcs, List.getElem?_cons_zero, List.getElem?_cons_succ, List.set_cons_zero, List.set_cons_succ, List.drop_zero, List.drop_succ_cons, List.take_zero, List.take_succ_cons, List.reverse_cons, List.reverse_nil, List.nil_append, List.cons_append, List.length_cons, List.length_nil, List.map_cons, List.map_nil, List.sum_cons, List.sum_nil, Value.category, Option.toList_some, Option.toList_none, List.append_nil, nI_leI, nI_ltI, nI_eq, nI_add, pk_sub, Nat.add_sub_cancel, vp_in_nI, nI_clamp, true_implies, false_implies, implies_true, not_true_eq_false, not_false_eq_true, Nat.not_lt, Nat.not_le, if_true, if_false, eq_self, true_and, and_true, true_or, or_true, false_or, or_false, Nat.zero_add, Nat.add_zero, ↓reduceIte, Nat.reduceAdd, Nat.reduceSub, Nat.reduceLeDiff, Nat.reduceLT, Nat.reduceBEq, Nat.reduceEqDiff, reduceCtorEq, Nat.lt_add_one, Nat.le_refl, zv_cat, Bool.or_true, Bool.or_false, Bool.true_or, Bool.false_or, zk_m1, zk_1m, zk_gt_0, zk_le_0, zk_eq_0, zk_qe_0, zk_lt_0, zk_ge_0, zk_lt_1, zk_le_1, zk_gt_1, zk_ge_1, zk_eq_1, zk_qe_1, zk_ad_1, zk_da_1, zk_sb_1, zk_mu_1, zk_um_1, ha', t3, hvx]
      refine ⟨fun h => absurd h (by omega), fun _ => zcall_p (sp_areSame hE h hf hk hK t1 t2) ?_⟩
      by_cases c : vlA tb tl (lxP tb tl t) = vlA tb tl (lxP tb tl k)
      · rw [if_pos c]
        rw [if_pos c] at he
        refine zrun_okZ (ok_X15_find hX) (fun q => q == 3) 21 _ _ _ _ _ _ _ (fun Z hZ => ?_)
        simp (disch := omega) only [f_X15_find_0 hZ, f_X15_find_1 hZ, f_X15_find_3 hZ, f_X15_find_5 hZ, f_X15_find_6 hZ, f_X15_find_9 hZ, f_X15_find_10 hZ, f_X15_find_11 hZ, f_X15_find_12 hZ, f_X15_find_14 hZ, f_X15_find_15 hZ, f_X15_find_17 hZ, f_X15_find_20 hZ, f_X15_find_23 hZ, f_X15_find_25 hZ, f_X15_find_26 hZ, f_X15_find_29 hZ, f_X15_find_32 hZ, f_X15_find_33 hZ, s_const, s_istore, s_iload, s_icmp_ge, s_aload, s_iaload, s_callV, s_if_eq, s_ireturn, s_iinc, s_goto, zobj, zk1, ZRt, zp, zp0, Option.some.injEq, Value.int.injEq, Value.long.injEq, Value.ref.injEq, and_self, cond_true, cond_false, zget, zkd, zc_lt, zc_le, zc_0, zc_m, zc_m0, zc_10, zk0_n, zk0_i, zk0_r, zk0_0, zk0_l, zk0_d, zs1_0, zs1_1, zs1_s, zs2_0, zs2_1, zs2_s, zcs, List.getElem?_cons_zero, List.getElem?_cons_succ, List.set_cons_zero, List.set_cons_succ, List.drop_zero, List.drop_succ_cons, List.take_zero, List.take_succ_cons, List.reverse_cons, List.reverse_nil, List.nil_append, List.cons_append, List.length_cons, List.length_nil, List.map_cons, List.map_nil, List.sum_cons, List.sum_nil, Value.category, Option.toList_some, Option.toList_none, List.append_nil, nI_leI, nI_ltI, nI_eq, nI_add, pk_sub, Nat.add_sub_cancel, vp_in_nI, nI_clamp, true_implies, false_implies, implies_true, not_true_eq_false, not_false_eq_true, Nat.not_lt, Nat.not_le, if_true, if_false, eq_self, true_and, and_true, true_or, or_true, false_or, or_false, Nat.zero_add, Nat.add_zero, ↓reduceIte, Nat.reduceAdd, Nat.reduceSub, Nat.reduceLeDiff, Nat.reduceLT, Nat.reduceBEq, Nat.reduceEqDiff, reduceCtorEq, Nat.lt_add_one, Nat.le_refl, zv_cat, Bool.or_true, Bool.or_false, Bool.true_or, Bool.false_or, zk_m1, zk_1m, zk_gt_0, zk_le_0, zk_eq_0, zk_qe_0, zk_lt_0, zk_ge_0, zk_lt_1, zk_le_1, zk_gt_1, zk_ge_1, zk_eq_1, zk_qe_1, zk_ad_1, zk_da_1, zk_sb_1, zk_mu_1, zk_um_1]
        rw [← he]
        rfl
      · rw [if_neg c]
        rw [if_neg c] at he
        have ih2 := ih (i + 1) (by omega) he
        refine zrun_okZ (ok_X15_find hX) (fun q => q == 3) 21 _ _ _ _ _ _ _ (fun Z hZ => ?_)
        simp (disch := omega) only [f_X15_find_0 hZ, f_X15_find_1 hZ, f_X15_find_3 hZ, f_X15_find_5 hZ, f_X15_find_6 hZ, f_X15_find_9 hZ, f_X15_find_10 hZ, f_X15_find_11 hZ, f_X15_find_12 hZ, f_X15_find_14 hZ, f_X15_find_15 hZ, f_X15_find_17 hZ, f_X15_find_20 hZ, f_X15_find_23 hZ, f_X15_find_25 hZ, f_X15_find_26 hZ, f_X15_find_29 hZ, f_X15_find_32 hZ, f_X15_find_33 hZ, s_const, s_istore, s_iload, s_icmp_ge, s_aload, s_iaload, s_callV, s_if_eq, s_ireturn, s_iinc, s_goto, zobj, zk1, ZRt, zp, zp0, Option.some.injEq, Value.int.injEq, Value.long.injEq, Value.ref.injEq, and_self, cond_true, cond_false, zget, zkd, zc_lt, zc_le, zc_0, zc_m, zc_m0, zc_10, zk0_n, zk0_i, zk0_r, zk0_0, zk0_l, zk0_d, zs1_0, zs1_1, zs1_s, zs2_0, zs2_1, zs2_s, zcs, List.getElem?_cons_zero, List.getElem?_cons_succ, List.set_cons_zero, List.set_cons_succ, List.drop_zero, List.drop_succ_cons, List.take_zero, List.take_succ_cons, List.reverse_cons, List.reverse_nil, List.nil_append, List.cons_append, List.length_cons, List.length_nil, List.map_cons, List.map_nil, List.sum_cons, List.sum_nil, Value.category, Option.toList_some, Option.toList_none, List.append_nil, nI_leI, nI_ltI, nI_eq, nI_add, pk_sub, Nat.add_sub_cancel, vp_in_nI, nI_clamp, true_implies, false_implies, implies_true, not_true_eq_false, not_false_eq_true, Nat.not_lt, Nat.not_le, if_true, if_false, eq_self, true_and, and_true, true_or, or_true, false_or, or_false, Nat.zero_add, Nat.add_zero, ↓reduceIte, Nat.reduceAdd, Nat.reduceSub, Nat.reduceLeDiff, Nat.reduceLT, Nat.reduceBEq, Nat.reduceEqDiff, reduceCtorEq, Nat.lt_add_one, Nat.le_refl, zv_cat, Bool.or_true, Bool.or_false, Bool.true_or, Bool.false_or, zk_m1, zk_1m, zk_gt_0, zk_le_0, zk_eq_0, zk_qe_0, zk_lt_0, zk_ge_0, zk_lt_1, zk_le_1, zk_gt_1, zk_ge_1, zk_eq_1, zk_qe_1, zk_ad_1, zk_da_1, zk_sb_1, zk_mu_1, zk_um_1]
        exact ih2
  refine zrun_okZ (ok_X15_find hX) (fun q => q == 3) 21 _ _ _ _ _ _ _ (fun Z hZ => ?_)
  simp (disch := omega) only [f_X15_find_0 hZ, f_X15_find_1 hZ, f_X15_find_3 hZ, f_X15_find_5 hZ, f_X15_find_6 hZ, f_X15_find_9 hZ, f_X15_find_10 hZ, f_X15_find_11 hZ, f_X15_find_12 hZ, f_X15_find_14 hZ, f_X15_find_15 hZ, f_X15_find_17 hZ, f_X15_find_20 hZ, f_X15_find_23 hZ, f_X15_find_25 hZ, f_X15_find_26 hZ, f_X15_find_29 hZ, f_X15_find_32 hZ, f_X15_find_33 hZ, s_const, s_istore, s_iload, s_icmp_ge, s_aload, s_iaload, s_callV, s_if_eq, s_ireturn, s_iinc, s_goto, zobj, zk1, ZRt, zp, zp0, Option.some.injEq, Value.int.injEq, Value.long.injEq, Value.ref.injEq, and_self, cond_true, cond_false, zget, zkd, zc_lt, zc_le, zc_0, zc_m, zc_m0, zc_10, zk0_n, zk0_i, zk0_r, zk0_0, zk0_l, zk0_d, zs1_0, zs1_1, zs1_s, zs2_0, zs2_1, zs2_s, zcs, List.getElem?_cons_zero, List.getElem?_cons_succ, List.set_cons_zero, List.set_cons_succ, List.drop_zero, List.drop_succ_cons, List.take_zero, List.take_succ_cons, List.reverse_cons, List.reverse_nil, List.nil_append, List.cons_append, List.length_cons, List.length_nil, List.map_cons, List.map_nil, List.sum_cons, List.sum_nil, Value.category, Option.toList_some, Option.toList_none, List.append_nil, nI_leI, nI_ltI, nI_eq, nI_add, pk_sub, Nat.add_sub_cancel, vp_in_nI, nI_clamp, true_implies, false_implies, implies_true, not_true_eq_false, not_false_eq_true, Nat.not_lt, Nat.not_le, if_true, if_false, eq_self, true_and, and_true, true_or, or_true, false_or, or_false, Nat.zero_add, Nat.add_zero, ↓reduceIte, Nat.reduceAdd, Nat.reduceSub, Nat.reduceLeDiff, Nat.reduceLT, Nat.reduceBEq, Nat.reduceEqDiff, reduceCtorEq, Nat.lt_add_one, Nat.le_refl, zv_cat, Bool.or_true, Bool.or_false, Bool.true_or, Bool.false_or, zk_m1, zk_1m, zk_gt_0, zk_le_0, zk_eq_0, zk_qe_0, zk_lt_0, zk_ge_0, zk_lt_1, zk_le_1, zk_gt_1, zk_ge_1, zk_eq_1, zk_qe_1, zk_ad_1, zk_da_1, zk_sb_1, zk_mu_1, zk_um_1]
  exact loop N 0 (by omega) hr.symm
end
