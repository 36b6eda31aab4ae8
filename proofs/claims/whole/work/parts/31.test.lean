/-! THE REFERENCE reckons tests -/
def isB (F : FM) : Prop := ∀ kn, F kn = 0 ∨ F kn = 1
theorem ejoin_b {o : Nat} {l r : Int32} (h : 41 ≤ o ∧ o ≤ 45) : ejoin o l r = 0 ∨ ejoin o l r = 1 := by
  have h2 : o = 41 ∨ o = 42 ∨ o = 43 ∨ o = 44 ∨ o = 45 := by omega
  rcases h2 with rfl | rfl | rfl | rfl | rfl
  · show (if l < r then (1 : Int32) else 0) = 0 ∨ (if l < r then (1 : Int32) else 0) = 1
    split <;> simp
  · show (if r < l then (1 : Int32) else 0) = 0 ∨ (if r < l then (1 : Int32) else 0) = 1
    split <;> simp
  · show (if l = r then (1 : Int32) else 0) = 0 ∨ (if l = r then (1 : Int32) else 0) = 1
    split <;> simp
  · show (if l ≤ r then (1 : Int32) else 0) = 0 ∨ (if l ≤ r then (1 : Int32) else 0) = 1
    split <;> simp
  · show (if r ≤ l then (1 : Int32) else 0) = 0 ∨ (if r ≤ l then (1 : Int32) else 0) = 1
    split <;> simp
theorem ejoin_ao {o : Nat} {l r : Int32} (h : o = 27 ∨ o = 28) (hl : l = 0 ∨ l = 1) (hr : r = 0 ∨ r = 1) : ejoin o l r = 0 ∨ ejoin o l r = 1 := by
  rcases h with rfl | rfl
  · show l &&& r = 0 ∨ l &&& r = 1
    rcases hl with rfl | rfl <;> rcases hr with rfl | rfl <;> decide
  · show l ||| r = 0 ∨ l ||| r = 1
    rcases hl with rfl | rfl <;> rcases hr with rfl | rfl <;> decide
theorem pLp_b {K : Nat → Nat} {a : Nat} {item : Nat → PR} (ha : a = 27 ∨ a = 28) (hi : ∀ p e F, item p = some (e, F) → isB F) : ∀ {q p : Nat} {F : FM} {e : Nat} {G : FM}, isB F → pLp K a a item q p F = some (e, G) → isB G
  | 0, _, _, _, _, _, h => by cases h
  | q + 1, p, F, e, G, hF, h => by
    unfold pLp at h
    split at h
    · rename_i hk
      split at h
      · cases h
      · rename_i e1 G1 h1
        exact pLp_b ha hi (fun kn => ejoin_ao (by omega) (hF kn) (hi _ _ _ h1 kn)) h
    · cases h; exact hF
theorem pJn_b {K : Nat → Nat} {a : Nat} {item : Nat → PR} (ha : a = 27 ∨ a = 28) (hi : ∀ p e F, item p = some (e, F) → isB F) : ∀ p e F, pJn K a a item p = some (e, F) → isB F := by
  intro p e F h
  unfold pJn at h
  split at h
  · cases h
  · rename_i e1 G1 h1
    exact pLp_b ha hi (hi _ _ _ h1) h
section
variable {E : ZEX} {σ σ' : ZHp} {n x sh so nm m : Nat} {Q : Nat → Int32} {rd : Int32} {tr : Nat → TM} {K : Nat → Nat} {XO : Nat → Int32} {pl : Int32} {S : GS}
theorem sp_Mo_goesBy (hE : ZEOK E) {p a : Nat} (h : RTs E σ x sh so nm m Q rd tr K XO (nI p) pl S) (hl : lay x sh so) (hp : p ≤ 400) (hK46 : ∀ p, K p < 46) (hK4 : ∀ p, K p ≠ 4) (ha : a < 46) (ha4 : a ≠ 4) : ZSpec E MX15_goesBy 1 0 0 [.ref x, .int (nI (rkc a))] σ n (fun v σ' n' => v = some (.int (if K p = a then 1 else 0)) ∧ n' = n ∧ RTs E σ' x sh so nm m Q rd tr K XO (nI (if K p = a then p + 1 else p)) pl S ∧ zfr x 1 σ σ') := by
  obtain ⟨h0, h1, h2, h4, ⟨vs, fk, fm, k0, k1, k2, k3, k4, k5, k6, k7⟩⟩ := id h
  unfold moO at h0
  unfold iar at k3
  have ek := k5 p (by omega)
  have e48 := rkc_eq (hK46 p) ha (hK4 p) ha4
  refine ZSpec_of hE (by decide +kernel) (Nat.le_of_ble_eq_true rfl) [some (.ref x), some (.int (nI (rkc a)))] rfl (fun X hX => ?_)
  refine zrun_okZ (ok_X15_goesBy hX) (fun _ => false) 20 _ _ _ _ _ _ _ (fun Z hZ => ?_)
  simp (disch := omega) only [f_X15_goesBy_0 hZ, f_X15_goesBy_1 hZ, f_X15_goesBy_4 hZ, f_X15_goesBy_7 hZ, f_X15_goesBy_8 hZ, f_X15_goesBy_11 hZ, f_X15_goesBy_12 hZ, f_X15_goesBy_13 hZ, f_X15_goesBy_16 hZ, f_X15_goesBy_17 hZ, f_X15_goesBy_18 hZ, f_X15_goesBy_19 hZ, f_X15_goesBy_20 hZ, f_X15_goesBy_23 hZ, f_X15_goesBy_24 hZ, f_X15_goesBy_25 hZ, f_X15_goesBy_28 hZ, f_X15_goesBy_29 hZ, s_aload, s_getf, s_iaload, s_iload, s_icmp_eq, s_const, s_zreturn, s_dup, s_iadd, s_putf, zk1, ZRt, zp, zp0, Option.some.injEq, Value.int.injEq, Value.long.injEq, Value.ref.injEq, and_self, cond_true, cond_false, zget, zkd, zc_lt, zc_le, zc_0, zc_m, zc_m0, zc_10, zk0_n, zk0_i, zk0_r, zk0_0, zk0_l, zk0_d, zs1_0, zs1_1, zs1_s, zs2_0, zs2_1, zs2_s, zcs, List.getElem?_cons_zero, List.getElem?_cons_succ, List.set_cons_zero, List.set_cons_succ, List.drop_zero, List.drop_succ_cons, List.take_zero, List.take_succ_cons, List.reverse_cons, List.reverse_nil, List.nil_append, List.cons_append, List.length_cons, List.length_nil, List.map_cons, List.map_nil, List.sum_cons, List.sum_nil, Value.category, Option.toList_some, Option.toList_none, List.append_nil, nI_leI, nI_ltI, nI_eq, nI_add, pk_sub, Nat.add_sub_cancel, vp_in_nI, nI_clamp, true_implies, false_implies, implies_true, not_true_eq_false, not_false_eq_true, Nat.not_lt, Nat.not_le, if_true, if_false, eq_self, true_and, and_true, true_or, or_true, false_or, or_false, Nat.zero_add, Nat.add_zero, ↓reduceIte, Nat.reduceAdd, Nat.reduceSub, Nat.reduceLeDiff, Nat.reduceLT, Nat.reduceBEq, Nat.reduceEqDiff, reduceCtorEq, Nat.lt_add_one, Nat.le_refl, zv_cat, Bool.or_true, Bool.or_false, Bool.true_or, Bool.false_or, zk_m1, zk_1m, zk_gt_0, zk_le_0, zk_eq_0, zk_qe_0, zk_lt_0, zk_ge_0, zk_lt_1, zk_le_1, zk_gt_1, zk_ge_1, zk_eq_1, zk_qe_1, zk_ad_1, zk_da_1, zk_sb_1, zk_mu_1, zk_um_1, h0, k0, k1, k3, ek, e48, zup_s, zup_n]
  refine ⟨fun he => ?_, fun he => ?_⟩
  · rw [if_pos he, if_pos he]
    exact ⟨rfl, h.walk hl (nI (p + 1)), zfr.rf.up⟩
  · rw [if_neg he, if_neg he]
    exact ⟨rfl, h, zfr.rf⟩
theorem zev_both (hE : ZEOK E) {d : Nat} {v : Nat → PR} (hl : lay x sh so) (hK46 : ∀ p, K p < 46) (hK4 : ∀ p, K p ≠ 4) (hle : ∀ p e F, v p = some (e, F) → p < e ∧ e ≤ 400) (hb : ∀ p e F, v p = some (e, F) → isB F) (hv : zev E MX15_single d x sh so nm m Q rd tr K XO pl S v) (hd1 : 1 ≤ d) : zev E MX15_both (d + 1) x sh so nm m Q rd tr K XO pl S (pJn K 27 27 v) := by
  intro σ n p e F hp h
  have hBF : isB F := pJn_b (Or.inl rfl) hb _ _ _ hp
  unfold pJn at hp
  cases hv0 : v p with
  | none => rw [hv0] at hp; cases hp
  | some r0 =>
  obtain ⟨e0, F0⟩ := r0
  rw [hv0] at hp
  refine ZSpec_of hE (by decide +kernel) (Nat.le_of_ble_eq_true rfl) [some (.ref x), none] rfl (fun X hX => ?_)
  have loop : ∀ (q p1 : Nat) (F1 : FM) (H : ZHp), p1 ≤ 400 → pLp K 27 27 v q p1 F1 = some (e, F) → RTs E H x sh so nm m Q rd tr K XO (nI p1) pl S → zfr x 1 σ H → ZG E X MX15_both 5 [some (.ref x), some (.int (F1 (knG rd S)))] [] H n 0 0 := by
    intro q
    induction q with
    | zero => intro p1 F1 H h4 hq; cases hq
    | succ q ih =>
      intro p1 F1 H h4 hq hR hf
      unfold pLp at hq
      have h0 := hR.1
      unfold moO at h0
      refine zrun_okZ (ok_X15_both hX) (fun q => q == 5) 17 _ _ _ _ _ _ _ (fun Z hZ => ?_)
      simp (disch := omega) only [f_X15_both_0 hZ, f_X15_both_1 hZ, f_X15_both_4 hZ, f_X15_both_5 hZ, f_X15_both_6 hZ, f_X15_both_8 hZ, f_X15_both_11 hZ, f_X15_both_14 hZ, f_X15_both_15 hZ, f_X15_both_16 hZ, f_X15_both_19 hZ, f_X15_both_20 hZ, f_X15_both_21 hZ, f_X15_both_24 hZ, f_X15_both_25 hZ, s_aload, s_callV, s_istore, s_const, s_if_eq, s_iload, s_iand, s_goto, s_zreturn, zobj, zk1, ZRt, zp, zp0, Option.some.injEq, Value.int.injEq, Value.long.injEq, Value.ref.injEq, and_self, cond_true, cond_false, zget, zkd, zc_lt, zc_le, zc_0, zc_m, zc_m0, zc_10, zk0_n, zk0_i, zk0_r, zk0_0, zk0_l, zk0_d, zs1_0, zs1_1, zs1_s, zs2_0, zs2_1, zs2_s, zcs, List.getElem?_cons_zero, List.getElem?_cons_succ, List.set_cons_zero, List.set_cons_succ, List.drop_zero, List.drop_succ_cons, List.take_zero, List.take_succ_cons, List.reverse_cons, List.reverse_nil, List.nil_append, List.cons_append, List.length_cons, List.length_nil, List.map_cons, List.map_nil, List.sum_cons, List.sum_nil, Value.category, Option.toList_some, Option.toList_none, List.append_nil, nI_leI, nI_ltI, nI_eq, nI_add, pk_sub, Nat.add_sub_cancel, vp_in_nI, nI_clamp, true_implies, false_implies, implies_true, not_true_eq_false, not_false_eq_true, Nat.not_lt, Nat.not_le, if_true, if_false, eq_self, true_and, and_true, true_or, or_true, false_or, or_false, Nat.zero_add, Nat.add_zero, ↓reduceIte, Nat.reduceAdd, Nat.reduceSub, Nat.reduceLeDiff, Nat.reduceLT, Nat.reduceBEq, Nat.reduceEqDiff, reduceCtorEq, Nat.lt_add_one, Nat.le_refl, zv_cat, Bool.or_true, Bool.or_false, Bool.true_or, Bool.false_or, zk_m1, zk_1m, zk_gt_0, zk_le_0, zk_eq_0, zk_qe_0, zk_lt_0, zk_ge_0, h0]
      rw [show (22 : Int32) = nI (rkc 27) by decide]
      refine zcall_q (sp_Mo_goesBy hE (p := p1) hR hl h4 hK46 hK4 (by omega) (by omega)) ?_
      by_cases hop : K p1 = 27
      · rw [if_pos (Or.inl hop)] at hq
        rw [if_pos hop, if_pos hop]
        rintro vv σ2 n2 ⟨rfl, rfl, hR2, hf2⟩
        cases hv1 : v (p1 + 1) with
        | none => rw [hv1] at hq; cases hq
        | some r1 =>
        obtain ⟨e1, G1⟩ := r1
        rw [hv1] at hq
        have hle1 := hle _ _ _ hv1
        have g0 := hR2.1
        unfold moO at g0
        refine zrun_okZ (ok_X15_both hX) (fun q => q == 5) 17 _ _ _ _ _ _ _ (fun Z hZ => ?_)
        simp (disch := omega) only [f_X15_both_0 hZ, f_X15_both_1 hZ, f_X15_both_4 hZ, f_X15_both_5 hZ, f_X15_both_6 hZ, f_X15_both_8 hZ, f_X15_both_11 hZ, f_X15_both_14 hZ, f_X15_both_15 hZ, f_X15_both_16 hZ, f_X15_both_19 hZ, f_X15_both_20 hZ, f_X15_both_21 hZ, f_X15_both_24 hZ, f_X15_both_25 hZ, s_aload, s_callV, s_istore, s_const, s_if_eq, s_iload, s_iand, s_goto, s_zreturn, zobj, zk1, ZRt, zp, zp0, Option.some.injEq, Value.int.injEq, Value.long.injEq, Value.ref.injEq, and_self, cond_true, cond_false, zget, zkd, zc_lt, zc_le, zc_0, zc_m, zc_m0, zc_10, zk0_n, zk0_i, zk0_r, zk0_0, zk0_l, zk0_d, zs1_0, zs1_1, zs1_s, zs2_0, zs2_1, zs2_s, zcs, List.getElem?_cons_zero, List.getElem?_cons_succ, List.set_cons_zero, List.set_cons_succ, List.drop_zero, List.drop_succ_cons, List.take_zero, List.take_succ_cons, List.reverse_cons, List.reverse_nil, List.nil_append, List.cons_append, List.length_cons, List.length_nil, List.map_cons, List.map_nil, List.sum_cons, List.sum_nil, Value.category, Option.toList_some, Option.toList_none, List.append_nil, nI_leI, nI_ltI, nI_eq, nI_add, pk_sub, Nat.add_sub_cancel, vp_in_nI, nI_clamp, true_implies, false_implies, implies_true, not_true_eq_false, not_false_eq_true, Nat.not_lt, Nat.not_le, if_true, if_false, eq_self, true_and, and_true, true_or, or_true, false_or, or_false, Nat.zero_add, Nat.add_zero, ↓reduceIte, Nat.reduceAdd, Nat.reduceSub, Nat.reduceLeDiff, Nat.reduceLT, Nat.reduceBEq, Nat.reduceEqDiff, reduceCtorEq, Nat.lt_add_one, Nat.le_refl, zv_cat, Bool.or_true, Bool.or_false, Bool.true_or, Bool.false_or, zk_m1, zk_1m, zk_gt_0, zk_le_0, zk_eq_0, zk_qe_0, zk_lt_0, zk_ge_0, g0]
        refine zcall_q (hv σ2 _ (p1 + 1) e1 G1 hv1 hR2) ?_
        rintro vv σ3 n3 ⟨rfl, rfl, hR3, hf3⟩
        refine zrun_okZ (ok_X15_both hX) (fun q => q == 5) 17 _ _ _ _ _ _ _ (fun Z hZ => ?_)
        simp (disch := omega) only [f_X15_both_0 hZ, f_X15_both_1 hZ, f_X15_both_4 hZ, f_X15_both_5 hZ, f_X15_both_6 hZ, f_X15_both_8 hZ, f_X15_both_11 hZ, f_X15_both_14 hZ, f_X15_both_15 hZ, f_X15_both_16 hZ, f_X15_both_19 hZ, f_X15_both_20 hZ, f_X15_both_21 hZ, f_X15_both_24 hZ, f_X15_both_25 hZ, s_aload, s_callV, s_istore, s_const, s_if_eq, s_iload, s_iand, s_goto, s_zreturn, zobj, zk1, ZRt, zp, zp0, Option.some.injEq, Value.int.injEq, Value.long.injEq, Value.ref.injEq, and_self, cond_true, cond_false, zget, zkd, zc_lt, zc_le, zc_0, zc_m, zc_m0, zc_10, zk0_n, zk0_i, zk0_r, zk0_0, zk0_l, zk0_d, zs1_0, zs1_1, zs1_s, zs2_0, zs2_1, zs2_s, zcs, List.getElem?_cons_zero, List.getElem?_cons_succ, List.set_cons_zero, List.set_cons_succ, List.drop_zero, List.drop_succ_cons, List.take_zero, List.take_succ_cons, List.reverse_cons, List.reverse_nil, List.nil_append, List.cons_append, List.length_cons, List.length_nil, List.map_cons, List.map_nil, List.sum_cons, List.sum_nil, Value.category, Option.toList_some, Option.toList_none, List.append_nil, nI_leI, nI_ltI, nI_eq, nI_add, pk_sub, Nat.add_sub_cancel, vp_in_nI, nI_clamp, true_implies, false_implies, implies_true, not_true_eq_false, not_false_eq_true, Nat.not_lt, Nat.not_le, if_true, if_false, eq_self, true_and, and_true, true_or, or_true, false_or, or_false, Nat.zero_add, Nat.add_zero, ↓reduceIte, Nat.reduceAdd, Nat.reduceSub, Nat.reduceLeDiff, Nat.reduceLT, Nat.reduceBEq, Nat.reduceEqDiff, reduceCtorEq, Nat.lt_add_one, Nat.le_refl, zv_cat, Bool.or_true, Bool.or_false, Bool.true_or, Bool.false_or, zk_m1, zk_1m, zk_gt_0, zk_le_0, zk_eq_0, zk_qe_0, zk_lt_0, zk_ge_0]
        have ih2 := ih e1 (fun kn => ejoin (K p1) (F1 kn) (G1 kn)) σ3 hle1.2 hq hR3 ((hf.tr hf2).tr hf3)
        rw [hop] at ih2
        exact ih2
      · rw [if_neg (fun q => hop (by omega))] at hq
        rw [if_neg hop, if_neg hop]
        rintro vv σ2 n2 ⟨rfl, rfl, hR2, hf2⟩
        cases hq
        refine zrun_okZ (ok_X15_both hX) (fun q => q == 5) 17 _ _ _ _ _ _ _ (fun Z hZ => ?_)
        simp (disch := omega) only [f_X15_both_0 hZ, f_X15_both_1 hZ, f_X15_both_4 hZ, f_X15_both_5 hZ, f_X15_both_6 hZ, f_X15_both_8 hZ, f_X15_both_11 hZ, f_X15_both_14 hZ, f_X15_both_15 hZ, f_X15_both_16 hZ, f_X15_both_19 hZ, f_X15_both_20 hZ, f_X15_both_21 hZ, f_X15_both_24 hZ, f_X15_both_25 hZ, s_aload, s_callV, s_istore, s_const, s_if_eq, s_iload, s_iand, s_goto, s_zreturn, zobj, zk1, ZRt, zp, zp0, Option.some.injEq, Value.int.injEq, Value.long.injEq, Value.ref.injEq, and_self, cond_true, cond_false, zget, zkd, zc_lt, zc_le, zc_0, zc_m, zc_m0, zc_10, zk0_n, zk0_i, zk0_r, zk0_0, zk0_l, zk0_d, zs1_0, zs1_1, zs1_s, zs2_0, zs2_1, zs2_s, zcs, List.getElem?_cons_zero, List.getElem?_cons_succ, List.set_cons_zero, List.set_cons_succ, List.drop_zero, List.drop_succ_cons, List.take_zero, List.take_succ_cons, List.reverse_cons, List.reverse_nil, List.nil_append, List.cons_append, List.length_cons, List.length_nil, List.map_cons, List.map_nil, List.sum_cons, List.sum_nil, Value.category, Option.toList_some, Option.toList_none, List.append_nil, nI_leI, nI_ltI, nI_eq, nI_add, pk_sub, Nat.add_sub_cancel, vp_in_nI, nI_clamp, true_implies, false_implies, implies_true, not_true_eq_false, not_false_eq_true, Nat.not_lt, Nat.not_le, if_true, if_false, eq_self, true_and, and_true, true_or, or_true, false_or, or_false, Nat.zero_add, Nat.add_zero, ↓reduceIte, Nat.reduceAdd, Nat.reduceSub, Nat.reduceLeDiff, Nat.reduceLT, Nat.reduceBEq, Nat.reduceEqDiff, reduceCtorEq, Nat.lt_add_one, Nat.le_refl, zv_cat, Bool.or_true, Bool.or_false, Bool.true_or, Bool.false_or, zk_m1, zk_1m, zk_gt_0, zk_le_0, zk_eq_0, zk_qe_0, zk_lt_0, zk_ge_0]
        exact ⟨hBF _, hR2, hf.tr hf2⟩
  obtain ⟨h0, -⟩ := id h
  unfold moO at h0
  have hle0 := hle _ _ _ hv0
  refine zrun_okZ (ok_X15_both hX) (fun q => q == 5) 17 _ _ _ _ _ _ _ (fun Z hZ => ?_)
  simp (disch := omega) only [f_X15_both_0 hZ, f_X15_both_1 hZ, f_X15_both_4 hZ, f_X15_both_5 hZ, f_X15_both_6 hZ, f_X15_both_8 hZ, f_X15_both_11 hZ, f_X15_both_14 hZ, f_X15_both_15 hZ, f_X15_both_16 hZ, f_X15_both_19 hZ, f_X15_both_20 hZ, f_X15_both_21 hZ, f_X15_both_24 hZ, f_X15_both_25 hZ, s_aload, s_callV, s_istore, s_const, s_if_eq, s_iload, s_iand, s_goto, s_zreturn, zobj, zk1, ZRt, zp, zp0, Option.some.injEq, Value.int.injEq, Value.long.injEq, Value.ref.injEq, and_self, cond_true, cond_false, zget, zkd, zc_lt, zc_le, zc_0, zc_m, zc_m0, zc_10, zk0_n, zk0_i, zk0_r, zk0_0, zk0_l, zk0_d, zs1_0, zs1_1, zs1_s, zs2_0, zs2_1, zs2_s, zcs, List.getElem?_cons_zero, List.getElem?_cons_succ, List.set_cons_zero, List.set_cons_succ, List.drop_zero, List.drop_succ_cons, List.take_zero, List.take_succ_cons, List.reverse_cons, List.reverse_nil, List.nil_append, List.cons_append, List.length_cons, List.length_nil, List.map_cons, List.map_nil, List.sum_cons, List.sum_nil, Value.category, Option.toList_some, Option.toList_none, List.append_nil, nI_leI, nI_ltI, nI_eq, nI_add, pk_sub, Nat.add_sub_cancel, vp_in_nI, nI_clamp, true_implies, false_implies, implies_true, not_true_eq_false, not_false_eq_true, Nat.not_lt, Nat.not_le, if_true, if_false, eq_self, true_and, and_true, true_or, or_true, false_or, or_false, Nat.zero_add, Nat.add_zero, ↓reduceIte, Nat.reduceAdd, Nat.reduceSub, Nat.reduceLeDiff, Nat.reduceLT, Nat.reduceBEq, Nat.reduceEqDiff, reduceCtorEq, Nat.lt_add_one, Nat.le_refl, zv_cat, Bool.or_true, Bool.or_false, Bool.true_or, Bool.false_or, zk_m1, zk_1m, zk_gt_0, zk_le_0, zk_eq_0, zk_qe_0, zk_lt_0, zk_ge_0, h0]
  refine zcall_q (hv σ n p e0 F0 hv0 h) ?_
  rintro vv σ2 n2 ⟨rfl, rfl, hR3, hf3⟩
  refine zrun_okZ (ok_X15_both hX) (fun q => q == 5) 17 _ _ _ _ _ _ _ (fun Z hZ => ?_)
  simp (disch := omega) only [f_X15_both_0 hZ, f_X15_both_1 hZ, f_X15_both_4 hZ, f_X15_both_5 hZ, f_X15_both_6 hZ, f_X15_both_8 hZ, f_X15_both_11 hZ, f_X15_both_14 hZ, f_X15_both_15 hZ, f_X15_both_16 hZ, f_X15_both_19 hZ, f_X15_both_20 hZ, f_X15_both_21 hZ, f_X15_both_24 hZ, f_X15_both_25 hZ, s_aload, s_callV, s_istore, s_const, s_if_eq, s_iload, s_iand, s_goto, s_zreturn, zobj, zk1, ZRt, zp, zp0, Option.some.injEq, Value.int.injEq, Value.long.injEq, Value.ref.injEq, and_self, cond_true, cond_false, zget, zkd, zc_lt, zc_le, zc_0, zc_m, zc_m0, zc_10, zk0_n, zk0_i, zk0_r, zk0_0, zk0_l, zk0_d, zs1_0, zs1_1, zs1_s, zs2_0, zs2_1, zs2_s, zcs, List.getElem?_cons_zero, List.getElem?_cons_succ, List.set_cons_zero, List.set_cons_succ, List.drop_zero, List.drop_succ_cons, List.take_zero, List.take_succ_cons, List.reverse_cons, List.reverse_nil, List.nil_append, List.cons_append, List.length_cons, List.length_nil, List.map_cons, List.map_nil, List.sum_cons, List.sum_nil, Value.category, Option.toList_some, Option.toList_none, List.append_nil, nI_leI, nI_ltI, nI_eq, nI_add, pk_sub, Nat.add_sub_cancel, vp_in_nI, nI_clamp, true_implies, false_implies, implies_true, not_true_eq_false, not_false_eq_true, Nat.not_lt, Nat.not_le, if_true, if_false, eq_self, true_and, and_true, true_or, or_true, false_or, or_false, Nat.zero_add, Nat.add_zero, ↓reduceIte, Nat.reduceAdd, Nat.reduceSub, Nat.reduceLeDiff, Nat.reduceLT, Nat.reduceBEq, Nat.reduceEqDiff, reduceCtorEq, Nat.lt_add_one, Nat.le_refl, zv_cat, Bool.or_true, Bool.or_false, Bool.true_or, Bool.false_or, zk_m1, zk_1m, zk_gt_0, zk_le_0, zk_eq_0, zk_qe_0, zk_lt_0, zk_ge_0]
  exact loop 400 e0 F0 σ2 hle0.2 hp hR3 hf3
theorem zev_test (hE : ZEOK E) {d : Nat} {v : Nat → PR} (hl : lay x sh so) (hK46 : ∀ p, K p < 46) (hK4 : ∀ p, K p ≠ 4) (hle : ∀ p e F, v p = some (e, F) → p < e ∧ e ≤ 400) (hb : ∀ p e F, v p = some (e, F) → isB F) (hv : zev E MX15_both d x sh so nm m Q rd tr K XO pl S v) (hd1 : 1 ≤ d) : zev E MX15_test (d + 1) x sh so nm m Q rd tr K XO pl S (pJn K 28 28 v) := by
  intro σ n p e F hp h
  have hBF : isB F := pJn_b (Or.inr rfl) hb _ _ _ hp
  unfold pJn at hp
  cases hv0 : v p with
  | none => rw [hv0] at hp; cases hp
  | some r0 =>
  obtain ⟨e0, F0⟩ := r0
  rw [hv0] at hp
  refine ZSpec_of hE (by decide +kernel) (Nat.le_of_ble_eq_true rfl) [some (.ref x), none] rfl (fun X hX => ?_)
  have loop : ∀ (q p1 : Nat) (F1 : FM) (H : ZHp), p1 ≤ 400 → pLp K 28 28 v q p1 F1 = some (e, F) → RTs E H x sh so nm m Q rd tr K XO (nI p1) pl S → zfr x 1 σ H → ZG E X MX15_test 5 [some (.ref x), some (.int (F1 (knG rd S)))] [] H n 0 0 := by
    intro q
    induction q with
    | zero => intro p1 F1 H h4 hq; cases hq
    | succ q ih =>
      intro p1 F1 H h4 hq hR hf
      unfold pLp at hq
      have h0 := hR.1
      unfold moO at h0
      refine zrun_okZ (ok_X15_test hX) (fun q => q == 5) 17 _ _ _ _ _ _ _ (fun Z hZ => ?_)
      simp (disch := omega) only [f_X15_test_0 hZ, f_X15_test_1 hZ, f_X15_test_4 hZ, f_X15_test_5 hZ, f_X15_test_6 hZ, f_X15_test_8 hZ, f_X15_test_11 hZ, f_X15_test_14 hZ, f_X15_test_15 hZ, f_X15_test_16 hZ, f_X15_test_19 hZ, f_X15_test_20 hZ, f_X15_test_21 hZ, f_X15_test_24 hZ, f_X15_test_25 hZ, s_aload, s_callV, s_istore, s_const, s_if_eq, s_iload, s_ior, s_goto, s_zreturn, zobj, zk1, ZRt, zp, zp0, Option.some.injEq, Value.int.injEq, Value.long.injEq, Value.ref.injEq, and_self, cond_true, cond_false, zget, zkd, zc_lt, zc_le, zc_0, zc_m, zc_m0, zc_10, zk0_n, zk0_i, zk0_r, zk0_0, zk0_l, zk0_d, zs1_0, zs1_1, zs1_s, zs2_0, zs2_1, zs2_s, zcs, List.getElem?_cons_zero, List.getElem?_cons_succ, List.set_cons_zero, List.set_cons_succ, List.drop_zero, List.drop_succ_cons, List.take_zero, List.take_succ_cons, List.reverse_cons, List.reverse_nil, List.nil_append, List.cons_append, List.length_cons, List.length_nil, List.map_cons, List.map_nil, List.sum_cons, List.sum_nil, Value.category, Option.toList_some, Option.toList_none, List.append_nil, nI_leI, nI_ltI, nI_eq, nI_add, pk_sub, Nat.add_sub_cancel, vp_in_nI, nI_clamp, true_implies, false_implies, implies_true, not_true_eq_false, not_false_eq_true, Nat.not_lt, Nat.not_le, if_true, if_false, eq_self, true_and, and_true, true_or, or_true, false_or, or_false, Nat.zero_add, Nat.add_zero, ↓reduceIte, Nat.reduceAdd, Nat.reduceSub, Nat.reduceLeDiff, Nat.reduceLT, Nat.reduceBEq, Nat.reduceEqDiff, reduceCtorEq, Nat.lt_add_one, Nat.le_refl, zv_cat, Bool.or_true, Bool.or_false, Bool.true_or, Bool.false_or, zk_m1, zk_1m, zk_gt_0, zk_le_0, zk_eq_0, zk_qe_0, zk_lt_0, zk_ge_0, h0]
      rw [show (23 : Int32) = nI (rkc 28) by decide]
      refine zcall_q (sp_Mo_goesBy hE (p := p1) hR hl h4 hK46 hK4 (by omega) (by omega)) ?_
      by_cases hop : K p1 = 28
      · rw [if_pos (Or.inl hop)] at hq
        rw [if_pos hop, if_pos hop]
        rintro vv σ2 n2 ⟨rfl, rfl, hR2, hf2⟩
        cases hv1 : v (p1 + 1) with
        | none => rw [hv1] at hq; cases hq
        | some r1 =>
        obtain ⟨e1, G1⟩ := r1
        rw [hv1] at hq
        have hle1 := hle _ _ _ hv1
        have g0 := hR2.1
        unfold moO at g0
        refine zrun_okZ (ok_X15_test hX) (fun q => q == 5) 17 _ _ _ _ _ _ _ (fun Z hZ => ?_)
        simp (disch := omega) only [f_X15_test_0 hZ, f_X15_test_1 hZ, f_X15_test_4 hZ, f_X15_test_5 hZ, f_X15_test_6 hZ, f_X15_test_8 hZ, f_X15_test_11 hZ, f_X15_test_14 hZ, f_X15_test_15 hZ, f_X15_test_16 hZ, f_X15_test_19 hZ, f_X15_test_20 hZ, f_X15_test_21 hZ, f_X15_test_24 hZ, f_X15_test_25 hZ, s_aload, s_callV, s_istore, s_const, s_if_eq, s_iload, s_ior, s_goto, s_zreturn, zobj, zk1, ZRt, zp, zp0, Option.some.injEq, Value.int.injEq, Value.long.injEq, Value.ref.injEq, and_self, cond_true, cond_false, zget, zkd, zc_lt, zc_le, zc_0, zc_m, zc_m0, zc_10, zk0_n, zk0_i, zk0_r, zk0_0, zk0_l, zk0_d, zs1_0, zs1_1, zs1_s, zs2_0, zs2_1, zs2_s, zcs, List.getElem?_cons_zero, List.getElem?_cons_succ, List.set_cons_zero, List.set_cons_succ, List.drop_zero, List.drop_succ_cons, List.take_zero, List.take_succ_cons, List.reverse_cons, List.reverse_nil, List.nil_append, List.cons_append, List.length_cons, List.length_nil, List.map_cons, List.map_nil, List.sum_cons, List.sum_nil, Value.category, Option.toList_some, Option.toList_none, List.append_nil, nI_leI, nI_ltI, nI_eq, nI_add, pk_sub, Nat.add_sub_cancel, vp_in_nI, nI_clamp, true_implies, false_implies, implies_true, not_true_eq_false, not_false_eq_true, Nat.not_lt, Nat.not_le, if_true, if_false, eq_self, true_and, and_true, true_or, or_true, false_or, or_false, Nat.zero_add, Nat.add_zero, ↓reduceIte, Nat.reduceAdd, Nat.reduceSub, Nat.reduceLeDiff, Nat.reduceLT, Nat.reduceBEq, Nat.reduceEqDiff, reduceCtorEq, Nat.lt_add_one, Nat.le_refl, zv_cat, Bool.or_true, Bool.or_false, Bool.true_or, Bool.false_or, zk_m1, zk_1m, zk_gt_0, zk_le_0, zk_eq_0, zk_qe_0, zk_lt_0, zk_ge_0, g0]
        refine zcall_q (hv σ2 _ (p1 + 1) e1 G1 hv1 hR2) ?_
        rintro vv σ3 n3 ⟨rfl, rfl, hR3, hf3⟩
        refine zrun_okZ (ok_X15_test hX) (fun q => q == 5) 17 _ _ _ _ _ _ _ (fun Z hZ => ?_)
        simp (disch := omega) only [f_X15_test_0 hZ, f_X15_test_1 hZ, f_X15_test_4 hZ, f_X15_test_5 hZ, f_X15_test_6 hZ, f_X15_test_8 hZ, f_X15_test_11 hZ, f_X15_test_14 hZ, f_X15_test_15 hZ, f_X15_test_16 hZ, f_X15_test_19 hZ, f_X15_test_20 hZ, f_X15_test_21 hZ, f_X15_test_24 hZ, f_X15_test_25 hZ, s_aload, s_callV, s_istore, s_const, s_if_eq, s_iload, s_ior, s_goto, s_zreturn, zobj, zk1, ZRt, zp, zp0, Option.some.injEq, Value.int.injEq, Value.long.injEq, Value.ref.injEq, and_self, cond_true, cond_false, zget, zkd, zc_lt, zc_le, zc_0, zc_m, zc_m0, zc_10, zk0_n, zk0_i, zk0_r, zk0_0, zk0_l, zk0_d, zs1_0, zs1_1, zs1_s, zs2_0, zs2_1, zs2_s, zcs, List.getElem?_cons_zero, List.getElem?_cons_succ, List.set_cons_zero, List.set_cons_succ, List.drop_zero, List.drop_succ_cons, List.take_zero, List.take_succ_cons, List.reverse_cons, List.reverse_nil, List.nil_append, List.cons_append, List.length_cons, List.length_nil, List.map_cons, List.map_nil, List.sum_cons, List.sum_nil, Value.category, Option.toList_some, Option.toList_none, List.append_nil, nI_leI, nI_ltI, nI_eq, nI_add, pk_sub, Nat.add_sub_cancel, vp_in_nI, nI_clamp, true_implies, false_implies, implies_true, not_true_eq_false, not_false_eq_true, Nat.not_lt, Nat.not_le, if_true, if_false, eq_self, true_and, and_true, true_or, or_true, false_or, or_false, Nat.zero_add, Nat.add_zero, ↓reduceIte, Nat.reduceAdd, Nat.reduceSub, Nat.reduceLeDiff, Nat.reduceLT, Nat.reduceBEq, Nat.reduceEqDiff, reduceCtorEq, Nat.lt_add_one, Nat.le_refl, zv_cat, Bool.or_true, Bool.or_false, Bool.true_or, Bool.false_or, zk_m1, zk_1m, zk_gt_0, zk_le_0, zk_eq_0, zk_qe_0, zk_lt_0, zk_ge_0]
        have ih2 := ih e1 (fun kn => ejoin (K p1) (F1 kn) (G1 kn)) σ3 hle1.2 hq hR3 ((hf.tr hf2).tr hf3)
        rw [hop] at ih2
        exact ih2
      · rw [if_neg (fun q => hop (by omega))] at hq
        rw [if_neg hop, if_neg hop]
        rintro vv σ2 n2 ⟨rfl, rfl, hR2, hf2⟩
        cases hq
        refine zrun_okZ (ok_X15_test hX) (fun q => q == 5) 17 _ _ _ _ _ _ _ (fun Z hZ => ?_)
        simp (disch := omega) only [f_X15_test_0 hZ, f_X15_test_1 hZ, f_X15_test_4 hZ, f_X15_test_5 hZ, f_X15_test_6 hZ, f_X15_test_8 hZ, f_X15_test_11 hZ, f_X15_test_14 hZ, f_X15_test_15 hZ, f_X15_test_16 hZ, f_X15_test_19 hZ, f_X15_test_20 hZ, f_X15_test_21 hZ, f_X15_test_24 hZ, f_X15_test_25 hZ, s_aload, s_callV, s_istore, s_const, s_if_eq, s_iload, s_ior, s_goto, s_zreturn, zobj, zk1, ZRt, zp, zp0, Option.some.injEq, Value.int.injEq, Value.long.injEq, Value.ref.injEq, and_self, cond_true, cond_false, zget, zkd, zc_lt, zc_le, zc_0, zc_m, zc_m0, zc_10, zk0_n, zk0_i, zk0_r, zk0_0, zk0_l, zk0_d, zs1_0, zs1_1, zs1_s, zs2_0, zs2_1, zs2_s, zcs, List.getElem?_cons_zero, List.getElem?_cons_succ, List.set_cons_zero, List.set_cons_succ, List.drop_zero, List.drop_succ_cons, List.take_zero, List.take_succ_cons, List.reverse_cons, List.reverse_nil, List.nil_append, List.cons_append, List.length_cons, List.length_nil, List.map_cons, List.map_nil, List.sum_cons, List.sum_nil, Value.category, Option.toList_some, Option.toList_none, List.append_nil, nI_leI, nI_ltI, nI_eq, nI_add, pk_sub, Nat.add_sub_cancel, vp_in_nI, nI_clamp, true_implies, false_implies, implies_true, not_true_eq_false, not_false_eq_true, Nat.not_lt, Nat.not_le, if_true, if_false, eq_self, true_and, and_true, true_or, or_true, false_or, or_false, Nat.zero_add, Nat.add_zero, ↓reduceIte, Nat.reduceAdd, Nat.reduceSub, Nat.reduceLeDiff, Nat.reduceLT, Nat.reduceBEq, Nat.reduceEqDiff, reduceCtorEq, Nat.lt_add_one, Nat.le_refl, zv_cat, Bool.or_true, Bool.or_false, Bool.true_or, Bool.false_or, zk_m1, zk_1m, zk_gt_0, zk_le_0, zk_eq_0, zk_qe_0, zk_lt_0, zk_ge_0]
        exact ⟨hBF _, hR2, hf.tr hf2⟩
  obtain ⟨h0, -⟩ := id h
  unfold moO at h0
  have hle0 := hle _ _ _ hv0
  refine zrun_okZ (ok_X15_test hX) (fun q => q == 5) 17 _ _ _ _ _ _ _ (fun Z hZ => ?_)
  simp (disch := omega) only [f_X15_test_0 hZ, f_X15_test_1 hZ, f_X15_test_4 hZ, f_X15_test_5 hZ, f_X15_test_6 hZ, f_X15_test_8 hZ, f_X15_test_11 hZ, f_X15_test_14 hZ, f_X15_test_15 hZ, f_X15_test_16 hZ, f_X15_test_19 hZ, f_X15_test_20 hZ, f_X15_test_21 hZ, f_X15_test_24 hZ, f_X15_test_25 hZ, s_aload, s_callV, s_istore, s_const, s_if_eq, s_iload, s_ior, s_goto, s_zreturn, zobj, zk1, ZRt, zp, zp0, Option.some.injEq, Value.int.injEq, Value.long.injEq, Value.ref.injEq, and_self, cond_true, cond_false, zget, zkd, zc_lt, zc_le, zc_0, zc_m, zc_m0, zc_10, zk0_n, zk0_i, zk0_r, zk0_0, zk0_l, zk0_d, zs1_0, zs1_1, zs1_s, zs2_0, zs2_1, zs2_s, zcs, List.getElem?_cons_zero, List.getElem?_cons_succ, List.set_cons_zero, List.set_cons_succ, List.drop_zero, List.drop_succ_cons, List.take_zero, List.take_succ_cons, List.reverse_cons, List.reverse_nil, List.nil_append, List.cons_append, List.length_cons, List.length_nil, List.map_cons, List.map_nil, List.sum_cons, List.sum_nil, Value.category, Option.toList_some, Option.toList_none, List.append_nil, nI_leI, nI_ltI, nI_eq, nI_add, pk_sub, Nat.add_sub_cancel, vp_in_nI, nI_clamp, true_implies, false_implies, implies_true, not_true_eq_false, not_false_eq_true, Nat.not_lt, Nat.not_le, if_true, if_false, eq_self, true_and, and_true, true_or, or_true, false_or, or_false, Nat.zero_add, Nat.add_zero, ↓reduceIte, Nat.reduceAdd, Nat.reduceSub, Nat.reduceLeDiff, Nat.reduceLT, Nat.reduceBEq, Nat.reduceEqDiff, reduceCtorEq, Nat.lt_add_one, Nat.le_refl, zv_cat, Bool.or_true, Bool.or_false, Bool.true_or, Bool.false_or, zk_m1, zk_1m, zk_gt_0, zk_le_0, zk_eq_0, zk_qe_0, zk_lt_0, zk_ge_0, h0]
  refine zcall_q (hv σ n p e0 F0 hv0 h) ?_
  rintro vv σ2 n2 ⟨rfl, rfl, hR3, hf3⟩
  refine zrun_okZ (ok_X15_test hX) (fun q => q == 5) 17 _ _ _ _ _ _ _ (fun Z hZ => ?_)
  simp (disch := omega) only [f_X15_test_0 hZ, f_X15_test_1 hZ, f_X15_test_4 hZ, f_X15_test_5 hZ, f_X15_test_6 hZ, f_X15_test_8 hZ, f_X15_test_11 hZ, f_X15_test_14 hZ, f_X15_test_15 hZ, f_X15_test_16 hZ, f_X15_test_19 hZ, f_X15_test_20 hZ, f_X15_test_21 hZ, f_X15_test_24 hZ, f_X15_test_25 hZ, s_aload, s_callV, s_istore, s_const, s_if_eq, s_iload, s_ior, s_goto, s_zreturn, zobj, zk1, ZRt, zp, zp0, Option.some.injEq, Value.int.injEq, Value.long.injEq, Value.ref.injEq, and_self, cond_true, cond_false, zget, zkd, zc_lt, zc_le, zc_0, zc_m, zc_m0, zc_10, zk0_n, zk0_i, zk0_r, zk0_0, zk0_l, zk0_d, zs1_0, zs1_1, zs1_s, zs2_0, zs2_1, zs2_s, zcs, List.getElem?_cons_zero, List.getElem?_cons_succ, List.set_cons_zero, List.set_cons_succ, List.drop_zero, List.drop_succ_cons, List.take_zero, List.take_succ_cons, List.reverse_cons, List.reverse_nil, List.nil_append, List.cons_append, List.length_cons, List.length_nil, List.map_cons, List.map_nil, List.sum_cons, List.sum_nil, Value.category, Option.toList_some, Option.toList_none, List.append_nil, nI_leI, nI_ltI, nI_eq, nI_add, pk_sub, Nat.add_sub_cancel, vp_in_nI, nI_clamp, true_implies, false_implies, implies_true, not_true_eq_false, not_false_eq_true, Nat.not_lt, Nat.not_le, if_true, if_false, eq_self, true_and, and_true, true_or, or_true, false_or, or_false, Nat.zero_add, Nat.add_zero, ↓reduceIte, Nat.reduceAdd, Nat.reduceSub, Nat.reduceLeDiff, Nat.reduceLT, Nat.reduceBEq, Nat.reduceEqDiff, reduceCtorEq, Nat.lt_add_one, Nat.le_refl, zv_cat, Bool.or_true, Bool.or_false, Bool.true_or, Bool.false_or, zk_m1, zk_1m, zk_gt_0, zk_le_0, zk_eq_0, zk_qe_0, zk_lt_0, zk_ge_0]
  exact loop 400 e0 F0 σ2 hle0.2 hp hR3 hf3
end
