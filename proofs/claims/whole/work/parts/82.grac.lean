/-! THE CLASS: its grammar, where its tokens stand -/
def fTk (mk : Nat → Bool) (K : Nat → Nat) (j : Nat) : Prop := ¬ mk j = true ∧ (K j = 3 → ¬ (K (j - 1) = 6 ∨ K (j - 1) = 7 ∨ K (j - 1) = 13 ∨ K (j - 1) = 15))
def GC2 (tb : Nat → Nat) (tl : Nat) (mk : Nat → Bool) (K V : Nat → Nat) (Y : Nat → Int32) (e0 : Nat) : Prop :=
  GCx tb tl K V Y (actF mk K V) (fTk mk K) ∧ (∀ k, mk k = true → 8 ≤ K k ∧ K k ≤ 12) ∧ e0 ≤ eN tb tl ∧ (∀ k, k ≤ e0 → aer (actF mk K V k) = 0 → okA (actF mk K V k)) ∧ (∀ k, k < e0 → cxT K (fun k => mk k = true) k) ∧ (∀ k, k ≤ eN tb tl → K k = 3 → V k < 1000000)
theorem act_c {mk : Nat → Bool} {K V : Nat → Nat} {S : SA} {k : Nat} (h : anc S ≤ 10) : anc (actA mk K V S k) ≤ 10 := by
  unfold actA nameA numbA
  repeat' (first | exact h | (show anc S + 1 ≤ 10; omega) | split)
theorem anc_10 {mk : Nat → Bool} {K V : Nat → Nat} : ∀ k, anc (actF mk K V k) ≤ 10
  | 0 => Nat.zero_le _
  | k + 1 => act_c (anc_10 k)
theorem act_f {mk : Nat → Bool} {K V : Nat → Nat} {S : SA} {k : Nat} (h0 : aer S = 0) : aer (actA mk K V S k) ≠ 0 → anm (actA mk K V S k) = anm S ∧ ans (actA mk K V S k) = ans S ∧ ano (actA mk K V S k) = ano S := by
  rw [act_0 h0]
  unfold nameA numbA
  repeat' (first | exact fun _ => ⟨rfl, rfl, rfl⟩ | exact fun h => absurd h0 h | split)
theorem bnd_F {mk : Nat → Bool} {K V : Nat → Nat} {e0 : Nat} (ho : ∀ k, k ≤ e0 → aer (actF mk K V k) = 0 → okA (actF mk K V k)) : ∀ {k : Nat}, k ≤ e0 → anm (actF mk K V k) ≤ 4 ∧ ans (actF mk K V k) ≤ 20 ∧ ano (actF mk K V k) ≤ 16
  | 0, _ => ⟨Nat.zero_le _, Nat.zero_le _, Nat.zero_le _⟩
  | k + 1, hk => by
    by_cases h : aer (actF mk K V (k + 1)) = 0
    · have z := (ho _ hk h).1
      exact ⟨z.2.1, z.2.2.2, z.2.2.1⟩
    · have ih := bnd_F ho (Nat.le_of_succ_le hk)
      by_cases h0 : aer (actF mk K V k) = 0
      · have z := act_f (mk := mk) (K := K) (V := V) (k := k) h0 h
        rw [actF_s, z.1, z.2.1, z.2.2]
        exact ih
      · rw [show actF mk K V (k + 1) = actF mk K V k from actF_e h0 1]
        exact ih
/-- the tokens of a formula -/
theorem fT_of {mk : Nat → Bool} {K : Nat → Nat} {p e : Nat} (h : rOk K p e) (hp : K (p - 1) ≠ 6 ∧ K (p - 1) ≠ 7 ∧ K (p - 1) ≠ 13 ∧ K (p - 1) ≠ 15) (hm : ∀ j, p ≤ j → j < e → ¬ mk j = true) : ∀ j, p ≤ j → j < e → fTk mk K j := fun j j1 j2 => by
  refine ⟨hm j j1 j2, fun _ => ?_⟩
  by_cases e1 : j = p
  · subst e1; omega
  · have := (h (j - 1) (by omega) (by omega)).1
    unfold alT at this
    omega
/-- behind a formula that is right nothing has been told -/
theorem act_fm {tb : Nat → Nat} {tl : Nat} {K V : Nat → Nat} {Y : Nat → Int32} {A : Nat → SA} {fT : Nat → Prop} (hC : GCx tb tl K V Y A fT) {p : Nat} (hp : 1 ≤ p) : ∀ {q : Nat}, rOk K p (p + q) → (∀ j, p ≤ j → j < p + q → fT j) → aer (A (p + q)) = 0 → A (p + q) = A p
  | 0, _, _, _ => rfl
  | q + 1, hr, hf, h0 => by
    have h1 : aer (A (p + q)) = 0 := hC.m _ _ h0 (Nat.le_succ _)
    have ih := act_fm hC hp (fun j j1 j2 => hr j j1 (by omega)) (fun j j1 j2 => hf j j1 (by omega)) h1
    have hk := hr (p + q) (by omega) (by omega)
    have ht := hf (p + q) (by omega) (by omega)
    rw [← ih]
    by_cases k2 : K (p + q) = 2
    · obtain ⟨c1, c2⟩ := hC.c (p + q) (by omega) ht k2 (hk.2 k2).1 (hk.2 k2).2
      obtain ⟨c, -, y, -⟩ := c2 h0
      show A (p + q + 1) = A (p + q)
      rw [c1, if_neg (by rw [y]; exact fun q => by cases q)]
    · have hk1 := hk.1
      unfold alT at hk1
      exact hC.n (p + q) ht k2 (by omega) (by omega)
theorem act_nm2 {mk : Nat → Bool} {K V : Nat → Nat} {k : Nat} (hm : ¬ mk k = true) (h2 : K k = 2) : actF mk K V (k + 1) = if aer (actF mk K V k) ≠ 0 then actF mk K V k else nameA (actF mk K V k) (K (k - 1)) (K (k - 3)) (V k) k := by
  rw [actF_s]
  unfold actA
  rw [if_neg hm, if_pos h2]
theorem act_nu2 {mk : Nat → Bool} {K V : Nat → Nat} {k : Nat} (hm : ¬ mk k = true) (h3 : K k = 3) : actF mk K V (k + 1) = if aer (actF mk K V k) ≠ 0 then actF mk K V k else numbA (actF mk K V k) (K (k - 1)) (V k) k := by
  rw [actF_s]
  unfold actA
  rw [if_neg hm, if_neg (show ¬ K k = 2 by omega), if_pos h3]
theorem GCx_F {tb : Nat → Nat} {tl : Nat} {mk : Nat → Bool} (hb : ∀ i, i < tl → tb i < 256) (hmk : ∀ k, mk k = true → 8 ≤ lxK tb tl k ∧ lxK tb tl k ≤ 12) : GCx tb tl (lxK tb tl) (lxV tb tl) (cX (lxK tb tl) (lxV tb tl)) (actF mk (lxK tb tl) (lxV tb tl)) (fTk mk (lxK tb tl)) := by
  refine ⟨hb, rfl, rfl, (lxK_c hb).1, lxK_N, fun j => ⟨er_F j, anc_10 j⟩, fun i j h hi => actF_0 h hi, fun j hf h2 h17 h19 => actF_n hf.1 h2 ?_ h17 h19, fun j j1 hf h2 h22 h24 => ?_, fun j hj h2 => ?_, fun j h2 => if_neg h2⟩
  · by_cases h3 : lxK tb tl j = 3
    · exact Or.inr (hf.2 h3)
    · exact Or.inl h3
  · have e1 := act_nm2 (V := lxV tb tl) hf.1 h2
    have hcn := fun h => cn_ok (mk := mk) (K := lxK tb tl) (V := lxV tb tl) (fun k q z => by have := hmk k q; omega) (k := j) h
    have h10 := anc_10 (mk := mk) (K := lxK tb tl) (V := lxV tb tl) j
    have ev : cX (lxK tb tl) (lxV tb tl) j = oI (fdA (cnF (lxK tb tl) (lxV tb tl) j).1 (lxV tb tl j) (cnF (lxK tb tl) (lxV tb tl) j).2 0) := if_pos h2
    rw [e1, ev]
    generalize actF mk (lxK tb tl) (lxV tb tl) j = S at hcn h10 ⊢
    by_cases h0 : aer S ≠ 0
    · rw [if_pos h0]
      refine ⟨?_, fun q => absurd q h0⟩
      split
      · exact (if_pos h0).symm
      · rfl
    · rw [if_neg h0]
      have hc2 := hcn (Decidable.not_not.mp h0)
      rw [← hc2.1, ← hc2.2]
      unfold nameA fltE
      rw [if_neg (by omega), if_neg (by omega), if_neg (by omega), if_neg h0]
      cases hf : fdA (acn S) (lxV tb tl j) (anc S) 0 with
      | none =>
        dsimp only
        rw [if_pos rfl]
        exact ⟨rfl, fun q => by cases q⟩
      | some c =>
        have hj := fdA_in hf
        dsimp only
        rw [if_neg (by omega), if_neg (by omega), if_neg (by omega), if_neg (fun q => by cases q)]
        exact ⟨rfl, fun _ => ⟨c, by omega, rfl, rfl⟩⟩
  · have t := tk_w hj h2
    have e : lxV tb tl j = vlW tb (lxP tb tl j) (lnA tb tl (lxP tb tl j)) := t.2.2.1
    rw [e]
    refine Nat.lt_of_lt_of_le (vlW_lt t.2.2.2) ?_
    exact Nat.le_trans (Nat.pow_le_pow_right (by omega) t.2.1) (by decide)
section
variable {E : ZEX} {σ : ZHp} {n gr u tl k sz e0 : Nat} {tb : Nat → Nat} {mk : Nat → Bool} {K V : Nat → Nat} {Y : Nat → Int32} {S S' : SA} {num : Int32} {off oof : Nat → Nat} {a b a' b' : Bool} {og : Nat → Nat} {xg : Nat → Int32}
theorem sp_Gr_name (hE : ZEOK E) (hd : gr + 9 ≤ u ∨ u + 26 ≤ gr) (hC : GC2 tb tl mk K V Y e0) {o z : Nat} (hk : k ≤ eN tb tl) (h : GRh E σ gr u tb tl k S off oof a b num sz og xg) (hz : 2 ≤ z) (hW : K k = 2 → ∃ z', z' ≤ z ∧ ZSpec E MX7_writeName z' 0 0 [.ref (gr + 6), .ref (zeK E o), .long (lN (V k)), .int (nI (lxP tb tl k))] σ n (fun w σ' n' => w = none ∧ n' = n ∧ SCs E σ' (gr + 6) u tb tl S' off oof a' b' num ∧ scf (gr + 6) u σ σ')) : ZSpec E MX3_name (z + 1) 0 0 [.ref gr, .ref (zeK E o)] σ n (fun w σ' n' => w = some (.int (if K k = 2 then 1 else 0)) ∧ n' = n ∧ grf gr u σ σ' ∧ (K k = 2 → GRh E σ' gr u tb tl (k + 1) S' off oof a' b' num sz og xg) ∧ (K k ≠ 2 → GRh E σ' gr u tb tl k S off oof a b num sz og xg)) := by
  obtain ⟨g0, ⟨vt, t0⟩, ⟨vs, s0⟩, -⟩ := h.o
  have hk46 := hC.1.l k
  by_cases k2 : K k = 2
  · obtain ⟨z', hz', hW'⟩ := hW k2
    rw [if_pos k2]
    refine ZSpec_of hE (by decide +kernel) (Nat.le_of_ble_eq_true rfl) [some (.ref gr), some (.ref (zeK E o))] rfl (fun X hX => ?_)
    refine zrun_okZ (ok_X3_name hX) (fun _ => false) 24 _ _ _ _ _ _ _ (fun Z hZ => ?_)
    simp (disch := omega) only [f_X3_name_0 hZ, f_X3_name_1 hZ, f_X3_name_4 hZ, f_X3_name_7 hZ, f_X3_name_10 hZ, f_X3_name_13 hZ, f_X3_name_14 hZ, f_X3_name_15 hZ, f_X3_name_16 hZ, f_X3_name_19 hZ, f_X3_name_20 hZ, f_X3_name_21 hZ, f_X3_name_24 hZ, f_X3_name_27 hZ, f_X3_name_28 hZ, f_X3_name_31 hZ, f_X3_name_34 hZ, f_X3_name_37 hZ, f_X3_name_38 hZ, f_X3_name_41 hZ, f_X3_name_44 hZ, f_X3_name_45 hZ, s_aload, s_getf, s_callV, s_const, s_acmp_eq, s_zreturn, zobj, zk1, ZRt, zp, zp0, Option.some.injEq, Value.int.injEq, Value.long.injEq, Value.ref.injEq, and_self, cond_true, cond_false, zget, zkd, zc_lt, zc_le, zc_0, zc_m, zc_m0, zc_10, zk0_n, zk0_i, zk0_r, zk0_0, zk0_l, zk0_d, zs1_0, zs1_1, zs1_s, zs2_0, zs2_1, zs2_s, zcs, List.getElem?_cons_zero, List.getElem?_cons_succ, List.set_cons_zero, List.set_cons_succ, List.drop_zero, List.drop_succ_cons, List.take_zero, List.take_succ_cons, List.reverse_cons, List.reverse_nil, List.nil_append, List.cons_append, List.length_cons, List.length_nil, List.map_cons, List.map_nil, List.sum_cons, List.sum_nil, Value.category, Option.toList_some, Option.toList_none, List.append_nil, nI_leI, nI_ltI, nI_eq, nI_add, pk_sub, Nat.add_sub_cancel, vp_in_nI, nI_clamp, true_implies, false_implies, implies_true, not_true_eq_false, not_false_eq_true, Nat.not_lt, Nat.not_le, if_true, if_false, eq_self, true_and, and_true, true_or, or_true, false_or, or_false, Nat.zero_add, Nat.add_zero, ↓reduceIte, Nat.reduceAdd, Nat.reduceSub, Nat.reduceLeDiff, Nat.reduceLT, Nat.reduceBEq, Nat.reduceEqDiff, reduceCtorEq, Nat.lt_add_one, Nat.le_refl, zv_cat, Bool.or_true, Bool.or_false, Bool.true_or, Bool.false_or, zk_m1, zk_1m, zk_gt_0, zk_le_0, zk_eq_0, zk_qe_0, zk_lt_0, zk_ge_0, zk_lt_1, zk_le_1, zk_gt_1, zk_ge_1, zk_eq_1, zk_qe_1, zk_ad_1, zk_da_1, zk_sb_1, zk_mu_1, zk_um_1, g0, t0]
    refine zcall_p (sp_g_sign hE hC.1 h hk) ?_
    rw [k2]
    refine zrun_okZ (ok_X3_name hX) (fun _ => false) 24 _ _ _ _ _ _ _ (fun Z hZ => ?_)
    simp (disch := omega) only [f_X3_name_0 hZ, f_X3_name_1 hZ, f_X3_name_4 hZ, f_X3_name_7 hZ, f_X3_name_10 hZ, f_X3_name_13 hZ, f_X3_name_14 hZ, f_X3_name_15 hZ, f_X3_name_16 hZ, f_X3_name_19 hZ, f_X3_name_20 hZ, f_X3_name_21 hZ, f_X3_name_24 hZ, f_X3_name_27 hZ, f_X3_name_28 hZ, f_X3_name_31 hZ, f_X3_name_34 hZ, f_X3_name_37 hZ, f_X3_name_38 hZ, f_X3_name_41 hZ, f_X3_name_44 hZ, f_X3_name_45 hZ, s_aload, s_getf, s_callV, s_const, s_acmp_eq, s_zreturn, zobj, zk1, ZRt, zp, zp0, Option.some.injEq, Value.int.injEq, Value.long.injEq, Value.ref.injEq, and_self, cond_true, cond_false, zget, zkd, zc_lt, zc_le, zc_0, zc_m, zc_m0, zc_10, zk0_n, zk0_i, zk0_r, zk0_0, zk0_l, zk0_d, zs1_0, zs1_1, zs1_s, zs2_0, zs2_1, zs2_s, zcs, List.getElem?_cons_zero, List.getElem?_cons_succ, List.set_cons_zero, List.set_cons_succ, List.drop_zero, List.drop_succ_cons, List.take_zero, List.take_succ_cons, List.reverse_cons, List.reverse_nil, List.nil_append, List.cons_append, List.length_cons, List.length_nil, List.map_cons, List.map_nil, List.sum_cons, List.sum_nil, Value.category, Option.toList_some, Option.toList_none, List.append_nil, nI_leI, nI_ltI, nI_eq, nI_add, pk_sub, Nat.add_sub_cancel, vp_in_nI, nI_clamp, true_implies, false_implies, implies_true, not_true_eq_false, not_false_eq_true, Nat.not_lt, Nat.not_le, if_true, if_false, eq_self, true_and, and_true, true_or, or_true, false_or, or_false, Nat.zero_add, Nat.add_zero, ↓reduceIte, Nat.reduceAdd, Nat.reduceSub, Nat.reduceLeDiff, Nat.reduceLT, Nat.reduceBEq, Nat.reduceEqDiff, reduceCtorEq, Nat.lt_add_one, Nat.le_refl, zv_cat, Bool.or_true, Bool.or_false, Bool.true_or, Bool.false_or, zk_m1, zk_1m, zk_gt_0, zk_le_0, zk_eq_0, zk_qe_0, zk_lt_0, zk_ge_0, zk_lt_1, zk_le_1, zk_gt_1, zk_ge_1, zk_eq_1, zk_qe_1, zk_ad_1, zk_da_1, zk_sb_1, zk_mu_1, zk_um_1, g0, t0, s0]
    refine zcall_p (sp_g_value hE hC.1 h hk) ?_
    refine zrun_okZ (ok_X3_name hX) (fun _ => false) 24 _ _ _ _ _ _ _ (fun Z hZ => ?_)
    simp (disch := omega) only [f_X3_name_0 hZ, f_X3_name_1 hZ, f_X3_name_4 hZ, f_X3_name_7 hZ, f_X3_name_10 hZ, f_X3_name_13 hZ, f_X3_name_14 hZ, f_X3_name_15 hZ, f_X3_name_16 hZ, f_X3_name_19 hZ, f_X3_name_20 hZ, f_X3_name_21 hZ, f_X3_name_24 hZ, f_X3_name_27 hZ, f_X3_name_28 hZ, f_X3_name_31 hZ, f_X3_name_34 hZ, f_X3_name_37 hZ, f_X3_name_38 hZ, f_X3_name_41 hZ, f_X3_name_44 hZ, f_X3_name_45 hZ, s_aload, s_getf, s_callV, s_const, s_acmp_eq, s_zreturn, zobj, zk1, ZRt, zp, zp0, Option.some.injEq, Value.int.injEq, Value.long.injEq, Value.ref.injEq, and_self, cond_true, cond_false, zget, zkd, zc_lt, zc_le, zc_0, zc_m, zc_m0, zc_10, zk0_n, zk0_i, zk0_r, zk0_0, zk0_l, zk0_d, zs1_0, zs1_1, zs1_s, zs2_0, zs2_1, zs2_s, zcs, List.getElem?_cons_zero, List.getElem?_cons_succ, List.set_cons_zero, List.set_cons_succ, List.drop_zero, List.drop_succ_cons, List.take_zero, List.take_succ_cons, List.reverse_cons, List.reverse_nil, List.nil_append, List.cons_append, List.length_cons, List.length_nil, List.map_cons, List.map_nil, List.sum_cons, List.sum_nil, Value.category, Option.toList_some, Option.toList_none, List.append_nil, nI_leI, nI_ltI, nI_eq, nI_add, pk_sub, Nat.add_sub_cancel, vp_in_nI, nI_clamp, true_implies, false_implies, implies_true, not_true_eq_false, not_false_eq_true, Nat.not_lt, Nat.not_le, if_true, if_false, eq_self, true_and, and_true, true_or, or_true, false_or, or_false, Nat.zero_add, Nat.add_zero, ↓reduceIte, Nat.reduceAdd, Nat.reduceSub, Nat.reduceLeDiff, Nat.reduceLT, Nat.reduceBEq, Nat.reduceEqDiff, reduceCtorEq, Nat.lt_add_one, Nat.le_refl, zv_cat, Bool.or_true, Bool.or_false, Bool.true_or, Bool.false_or, zk_m1, zk_1m, zk_gt_0, zk_le_0, zk_eq_0, zk_qe_0, zk_lt_0, zk_ge_0, zk_lt_1, zk_le_1, zk_gt_1, zk_ge_1, zk_eq_1, zk_qe_1, zk_ad_1, zk_da_1, zk_sb_1, zk_mu_1, zk_um_1, g0, t0, s0]
    refine zcall_p (sp_g_place hE h hk) ?_
    refine zrun_okZ (ok_X3_name hX) (fun _ => false) 24 _ _ _ _ _ _ _ (fun Z hZ => ?_)
    simp (disch := omega) only [f_X3_name_0 hZ, f_X3_name_1 hZ, f_X3_name_4 hZ, f_X3_name_7 hZ, f_X3_name_10 hZ, f_X3_name_13 hZ, f_X3_name_14 hZ, f_X3_name_15 hZ, f_X3_name_16 hZ, f_X3_name_19 hZ, f_X3_name_20 hZ, f_X3_name_21 hZ, f_X3_name_24 hZ, f_X3_name_27 hZ, f_X3_name_28 hZ, f_X3_name_31 hZ, f_X3_name_34 hZ, f_X3_name_37 hZ, f_X3_name_38 hZ, f_X3_name_41 hZ, f_X3_name_44 hZ, f_X3_name_45 hZ, s_aload, s_getf, s_callV, s_const, s_acmp_eq, s_zreturn, zobj, zk1, ZRt, zp, zp0, Option.some.injEq, Value.int.injEq, Value.long.injEq, Value.ref.injEq, and_self, cond_true, cond_false, zget, zkd, zc_lt, zc_le, zc_0, zc_m, zc_m0, zc_10, zk0_n, zk0_i, zk0_r, zk0_0, zk0_l, zk0_d, zs1_0, zs1_1, zs1_s, zs2_0, zs2_1, zs2_s, zcs, List.getElem?_cons_zero, List.getElem?_cons_succ, List.set_cons_zero, List.set_cons_succ, List.drop_zero, List.drop_succ_cons, List.take_zero, List.take_succ_cons, List.reverse_cons, List.reverse_nil, List.nil_append, List.cons_append, List.length_cons, List.length_nil, List.map_cons, List.map_nil, List.sum_cons, List.sum_nil, Value.category, Option.toList_some, Option.toList_none, List.append_nil, nI_leI, nI_ltI, nI_eq, nI_add, pk_sub, Nat.add_sub_cancel, vp_in_nI, nI_clamp, true_implies, false_implies, implies_true, not_true_eq_false, not_false_eq_true, Nat.not_lt, Nat.not_le, if_true, if_false, eq_self, true_and, and_true, true_or, or_true, false_or, or_false, Nat.zero_add, Nat.add_zero, ↓reduceIte, Nat.reduceAdd, Nat.reduceSub, Nat.reduceLeDiff, Nat.reduceLT, Nat.reduceBEq, Nat.reduceEqDiff, reduceCtorEq, Nat.lt_add_one, Nat.le_refl, zv_cat, Bool.or_true, Bool.or_false, Bool.true_or, Bool.false_or, zk_m1, zk_1m, zk_gt_0, zk_le_0, zk_eq_0, zk_qe_0, zk_lt_0, zk_ge_0, zk_lt_1, zk_le_1, zk_gt_1, zk_ge_1, zk_eq_1, zk_qe_1, zk_ad_1, zk_da_1, zk_sb_1, zk_mu_1, zk_um_1, g0, t0, s0]
    refine zcall_q hW' ?_
    rintro w2 s2 n2 ⟨rfl, rfl, p2, f2⟩
    have h2 := h.sc hd p2 f2
    obtain ⟨g2, ⟨vt2, t2⟩, -, -⟩ := h2.o
    refine zrun_okZ (ok_X3_name hX) (fun _ => false) 24 _ _ _ _ _ _ _ (fun Z hZ => ?_)
    simp (disch := omega) only [f_X3_name_0 hZ, f_X3_name_1 hZ, f_X3_name_4 hZ, f_X3_name_7 hZ, f_X3_name_10 hZ, f_X3_name_13 hZ, f_X3_name_14 hZ, f_X3_name_15 hZ, f_X3_name_16 hZ, f_X3_name_19 hZ, f_X3_name_20 hZ, f_X3_name_21 hZ, f_X3_name_24 hZ, f_X3_name_27 hZ, f_X3_name_28 hZ, f_X3_name_31 hZ, f_X3_name_34 hZ, f_X3_name_37 hZ, f_X3_name_38 hZ, f_X3_name_41 hZ, f_X3_name_44 hZ, f_X3_name_45 hZ, s_aload, s_getf, s_callV, s_const, s_acmp_eq, s_zreturn, zobj, zk1, ZRt, zp, zp0, Option.some.injEq, Value.int.injEq, Value.long.injEq, Value.ref.injEq, and_self, cond_true, cond_false, zget, zkd, zc_lt, zc_le, zc_0, zc_m, zc_m0, zc_10, zk0_n, zk0_i, zk0_r, zk0_0, zk0_l, zk0_d, zs1_0, zs1_1, zs1_s, zs2_0, zs2_1, zs2_s, zcs, List.getElem?_cons_zero, List.getElem?_cons_succ, List.set_cons_zero, List.set_cons_succ, List.drop_zero, List.drop_succ_cons, List.take_zero, List.take_succ_cons, List.reverse_cons, List.reverse_nil, List.nil_append, List.cons_append, List.length_cons, List.length_nil, List.map_cons, List.map_nil, List.sum_cons, List.sum_nil, Value.category, Option.toList_some, Option.toList_none, List.append_nil, nI_leI, nI_ltI, nI_eq, nI_add, pk_sub, Nat.add_sub_cancel, vp_in_nI, nI_clamp, true_implies, false_implies, implies_true, not_true_eq_false, not_false_eq_true, Nat.not_lt, Nat.not_le, if_true, if_false, eq_self, true_and, and_true, true_or, or_true, false_or, or_false, Nat.zero_add, Nat.add_zero, ↓reduceIte, Nat.reduceAdd, Nat.reduceSub, Nat.reduceLeDiff, Nat.reduceLT, Nat.reduceBEq, Nat.reduceEqDiff, reduceCtorEq, Nat.lt_add_one, Nat.le_refl, zv_cat, Bool.or_true, Bool.or_false, Bool.true_or, Bool.false_or, zk_m1, zk_1m, zk_gt_0, zk_le_0, zk_eq_0, zk_qe_0, zk_lt_0, zk_ge_0, zk_lt_1, zk_le_1, zk_gt_1, zk_ge_1, zk_eq_1, zk_qe_1, zk_ad_1, zk_da_1, zk_sb_1, zk_mu_1, zk_um_1, g2, t2]
    refine zcall_q (sp_advance hE h2.2.1) ?_
    rintro w3 s3 n3 ⟨rfl, rfl, k3, f3⟩
    have h3 := h2.tk hd k3 f3
    refine zrun_okZ (ok_X3_name hX) (fun _ => false) 24 _ _ _ _ _ _ _ (fun Z hZ => ?_)
    simp (disch := omega) only [f_X3_name_0 hZ, f_X3_name_1 hZ, f_X3_name_4 hZ, f_X3_name_7 hZ, f_X3_name_10 hZ, f_X3_name_13 hZ, f_X3_name_14 hZ, f_X3_name_15 hZ, f_X3_name_16 hZ, f_X3_name_19 hZ, f_X3_name_20 hZ, f_X3_name_21 hZ, f_X3_name_24 hZ, f_X3_name_27 hZ, f_X3_name_28 hZ, f_X3_name_31 hZ, f_X3_name_34 hZ, f_X3_name_37 hZ, f_X3_name_38 hZ, f_X3_name_41 hZ, f_X3_name_44 hZ, f_X3_name_45 hZ, s_aload, s_getf, s_callV, s_const, s_acmp_eq, s_zreturn, zobj, zk1, ZRt, zp, zp0, Option.some.injEq, Value.int.injEq, Value.long.injEq, Value.ref.injEq, and_self, cond_true, cond_false, zget, zkd, zc_lt, zc_le, zc_0, zc_m, zc_m0, zc_10, zk0_n, zk0_i, zk0_r, zk0_0, zk0_l, zk0_d, zs1_0, zs1_1, zs1_s, zs2_0, zs2_1, zs2_s, zcs, List.getElem?_cons_zero, List.getElem?_cons_succ, List.set_cons_zero, List.set_cons_succ, List.drop_zero, List.drop_succ_cons, List.take_zero, List.take_succ_cons, List.reverse_cons, List.reverse_nil, List.nil_append, List.cons_append, List.length_cons, List.length_nil, List.map_cons, List.map_nil, List.sum_cons, List.sum_nil, Value.category, Option.toList_some, Option.toList_none, List.append_nil, nI_leI, nI_ltI, nI_eq, nI_add, pk_sub, Nat.add_sub_cancel, vp_in_nI, nI_clamp, true_implies, false_implies, implies_true, not_true_eq_false, not_false_eq_true, Nat.not_lt, Nat.not_le, if_true, if_false, eq_self, true_and, and_true, true_or, or_true, false_or, or_false, Nat.zero_add, Nat.add_zero, ↓reduceIte, Nat.reduceAdd, Nat.reduceSub, Nat.reduceLeDiff, Nat.reduceLT, Nat.reduceBEq, Nat.reduceEqDiff, reduceCtorEq, Nat.lt_add_one, Nat.le_refl, zv_cat, Bool.or_true, Bool.or_false, Bool.true_or, Bool.false_or, zk_m1, zk_1m, zk_gt_0, zk_le_0, zk_eq_0, zk_qe_0, zk_lt_0, zk_ge_0, zk_lt_1, zk_le_1, zk_gt_1, zk_ge_1, zk_eq_1, zk_qe_1, zk_ad_1, zk_da_1, zk_sb_1, zk_mu_1, zk_um_1]
    exact ⟨(grf.s f2).tr (grf.z f3), fun _ => h3, fun q => absurd k2 q⟩
  · rw [if_neg k2]
    refine ZSpec_of hE (by decide +kernel) (Nat.le_of_ble_eq_true rfl) [some (.ref gr), some (.ref (zeK E o))] rfl (fun X hX => ?_)
    refine zrun_okZ (ok_X3_name hX) (fun _ => false) 24 _ _ _ _ _ _ _ (fun Z hZ => ?_)
    simp (disch := omega) only [f_X3_name_0 hZ, f_X3_name_1 hZ, f_X3_name_4 hZ, f_X3_name_7 hZ, f_X3_name_10 hZ, f_X3_name_13 hZ, f_X3_name_14 hZ, f_X3_name_15 hZ, f_X3_name_16 hZ, f_X3_name_19 hZ, f_X3_name_20 hZ, f_X3_name_21 hZ, f_X3_name_24 hZ, f_X3_name_27 hZ, f_X3_name_28 hZ, f_X3_name_31 hZ, f_X3_name_34 hZ, f_X3_name_37 hZ, f_X3_name_38 hZ, f_X3_name_41 hZ, f_X3_name_44 hZ, f_X3_name_45 hZ, s_aload, s_getf, s_callV, s_const, s_acmp_eq, s_zreturn, zobj, zk1, ZRt, zp, zp0, Option.some.injEq, Value.int.injEq, Value.long.injEq, Value.ref.injEq, and_self, cond_true, cond_false, zget, zkd, zc_lt, zc_le, zc_0, zc_m, zc_m0, zc_10, zk0_n, zk0_i, zk0_r, zk0_0, zk0_l, zk0_d, zs1_0, zs1_1, zs1_s, zs2_0, zs2_1, zs2_s, zcs, List.getElem?_cons_zero, List.getElem?_cons_succ, List.set_cons_zero, List.set_cons_succ, List.drop_zero, List.drop_succ_cons, List.take_zero, List.take_succ_cons, List.reverse_cons, List.reverse_nil, List.nil_append, List.cons_append, List.length_cons, List.length_nil, List.map_cons, List.map_nil, List.sum_cons, List.sum_nil, Value.category, Option.toList_some, Option.toList_none, List.append_nil, nI_leI, nI_ltI, nI_eq, nI_add, pk_sub, Nat.add_sub_cancel, vp_in_nI, nI_clamp, true_implies, false_implies, implies_true, not_true_eq_false, not_false_eq_true, Nat.not_lt, Nat.not_le, if_true, if_false, eq_self, true_and, and_true, true_or, or_true, false_or, or_false, Nat.zero_add, Nat.add_zero, ↓reduceIte, Nat.reduceAdd, Nat.reduceSub, Nat.reduceLeDiff, Nat.reduceLT, Nat.reduceBEq, Nat.reduceEqDiff, reduceCtorEq, Nat.lt_add_one, Nat.le_refl, zv_cat, Bool.or_true, Bool.or_false, Bool.true_or, Bool.false_or, zk_m1, zk_1m, zk_gt_0, zk_le_0, zk_eq_0, zk_qe_0, zk_lt_0, zk_ge_0, zk_lt_1, zk_le_1, zk_gt_1, zk_ge_1, zk_eq_1, zk_qe_1, zk_ad_1, zk_da_1, zk_sb_1, zk_mu_1, zk_um_1, g0, t0]
    refine zcall_p (sp_g_sign hE hC.1 h hk) ?_
    refine zrun_okZ (ok_X3_name hX) (fun _ => false) 24 _ _ _ _ _ _ _ (fun Z hZ => ?_)
    simp (disch := omega) only [f_X3_name_0 hZ, f_X3_name_1 hZ, f_X3_name_4 hZ, f_X3_name_7 hZ, f_X3_name_10 hZ, f_X3_name_13 hZ, f_X3_name_14 hZ, f_X3_name_15 hZ, f_X3_name_16 hZ, f_X3_name_19 hZ, f_X3_name_20 hZ, f_X3_name_21 hZ, f_X3_name_24 hZ, f_X3_name_27 hZ, f_X3_name_28 hZ, f_X3_name_31 hZ, f_X3_name_34 hZ, f_X3_name_37 hZ, f_X3_name_38 hZ, f_X3_name_41 hZ, f_X3_name_44 hZ, f_X3_name_45 hZ, s_aload, s_getf, s_callV, s_const, s_acmp_eq, s_zreturn, zobj, zk1, ZRt, zp, zp0, Option.some.injEq, Value.int.injEq, Value.long.injEq, Value.ref.injEq, and_self, cond_true, cond_false, zget, zkd, zc_lt, zc_le, zc_0, zc_m, zc_m0, zc_10, zk0_n, zk0_i, zk0_r, zk0_0, zk0_l, zk0_d, zs1_0, zs1_1, zs1_s, zs2_0, zs2_1, zs2_s, zcs, List.getElem?_cons_zero, List.getElem?_cons_succ, List.set_cons_zero, List.set_cons_succ, List.drop_zero, List.drop_succ_cons, List.take_zero, List.take_succ_cons, List.reverse_cons, List.reverse_nil, List.nil_append, List.cons_append, List.length_cons, List.length_nil, List.map_cons, List.map_nil, List.sum_cons, List.sum_nil, Value.category, Option.toList_some, Option.toList_none, List.append_nil, nI_leI, nI_ltI, nI_eq, nI_add, pk_sub, Nat.add_sub_cancel, vp_in_nI, nI_clamp, true_implies, false_implies, implies_true, not_true_eq_false, not_false_eq_true, Nat.not_lt, Nat.not_le, if_true, if_false, eq_self, true_and, and_true, true_or, or_true, false_or, or_false, Nat.zero_add, Nat.add_zero, ↓reduceIte, Nat.reduceAdd, Nat.reduceSub, Nat.reduceLeDiff, Nat.reduceLT, Nat.reduceBEq, Nat.reduceEqDiff, reduceCtorEq, Nat.lt_add_one, Nat.le_refl, zv_cat, Bool.or_true, Bool.or_false, Bool.true_or, Bool.false_or, zk_m1, zk_1m, zk_gt_0, zk_le_0, zk_eq_0, zk_qe_0, zk_lt_0, zk_ge_0, zk_lt_1, zk_le_1, zk_gt_1, zk_ge_1, zk_eq_1, zk_qe_1, zk_ad_1, zk_da_1, zk_sb_1, zk_mu_1, zk_um_1, g0, t0, zeK_i hE]
    exact ⟨fun q => absurd q k2, fun _ => ⟨grf.rf, fun q => absurd q k2, fun _ => h⟩⟩
/-- a name is written as it is meant -/
def gwP (E : ZEX) (σ : ZHp) (n gr u : Nat) (tb : Nat → Nat) (tl k : Nat) (V : Nat → Nat) (o : Nat) (S' : SA) (off oof : Nat → Nat) (a b : Bool) (num : Int32) : Prop := ∃ z', z' ≤ 10 ∧ ZSpec E MX7_writeName z' 0 0 [.ref (gr + 6), .ref (zeK E o), .long (lN (V k)), .int (nI (lxP tb tl k))] σ n (fun w σ' n' => w = none ∧ n' = n ∧ SCs E σ' (gr + 6) u tb tl S' off oof a b num ∧ scf (gr + 6) u σ σ')
theorem gw_e (hE : ZEOK E) (hC : GC2 tb tl mk K V Y e0) {o : Nat} (h : SCs E σ (gr + 6) u tb tl (actF mk K V k) off oof a b num) (e : aer (actF mk K V k) ≠ 0) : gwP E σ n gr u tb tl k V o (actF mk K V (k + 1)) off oof true true num := by
  rw [show actF mk K V (k + 1) = actF mk K V k from actF_e e 1]
  exact ⟨8, by omega, sp_Sc_writeName_e hE h (hC.1.r k).1 e⟩
theorem gw_5 (hE : ZEOK E) (hd : gr + 9 ≤ u ∨ u + 26 ≤ gr) (hC : GC2 tb tl mk K V Y e0) (hk : k ≤ eN tb tl) (hk0 : k ≤ e0) (h : SCs E σ (gr + 6) u tb tl (actF mk K V k) off oof true true num) (h2 : K k = 2) (h5 : K (k - 1) = 5) : gwP E σ n gr u tb tl k V 5 (actF mk K V (k + 1)) off oof true true num := by
  by_cases e : aer (actF mk K V k) ≠ 0
  · exact gw_e hE hC h e
  · have e0 := Decidable.not_not.mp e
    rw [act_nm2 (fun q => by have := hC.2.1 k q; omega) h2, if_neg e, h5]
    exact ⟨8, by omega, sp_Sc_writeName_c hE h (by omega) e0 (hC.2.2.2.1 k hk0 e0) (hC.1.w k hk h2)⟩
theorem gw_16 (hE : ZEOK E) (hd : gr + 9 ≤ u ∨ u + 26 ≤ gr) (hC : GC2 tb tl mk K V Y e0) (hk : k ≤ eN tb tl) (hk0 : k ≤ e0) (h : SCs E σ (gr + 6) u tb tl (actF mk K V k) off oof true true num) (h2 : K k = 2) (h5 : K (k - 1) = 16) : gwP E σ n gr u tb tl k V 16 (actF mk K V (k + 1)) off oof true true num := by
  by_cases e : aer (actF mk K V k) ≠ 0
  · exact gw_e hE hC h e
  · have e0 := Decidable.not_not.mp e
    rw [act_nm2 (fun q => by have := hC.2.1 k q; omega) h2, if_neg e, h5]
    exact ⟨8, by omega, sp_Sc_writeName_m hE h (by omega) e0 (hC.2.2.2.1 k hk0 e0) (hC.1.w k hk h2)⟩
theorem nameA_c {S : SA} {b c v k j : Nat} (h5 : b ≠ 5) (h16 : b ≠ 16) (h18 : b ≠ 18) : (fdA (acn S) v (anc S) 0 = none → nameA S b c v k = fltA S 3 k) ∧ (fdA (acn S) v (anc S) 0 = some j → nameA S b c v k = if b = 14 then (if c = 15 then pileA S j else startA S j) else if b = 17 then ocA S j else if b = 11 ∨ b = 12 then dcA S j else S) := by
  unfold nameA
  rw [if_neg h5, if_neg h16, if_neg h18]
  refine ⟨fun q => by rw [q], fun q => by rw [q]⟩
theorem gw_13 (hE : ZEOK E) (hd : gr + 9 ≤ u ∨ u + 26 ≤ gr) (hC : GC2 tb tl mk K V Y e0) (hk : k ≤ eN tb tl) (hk0 : k ≤ e0) (h : SCs E σ (gr + 6) u tb tl (actF mk K V k) off oof true true num) (h2 : K k = 2) (h3k : 3 ≤ k) (h14 : K (k - 1) = 14) (h3 : K (k - 2) = 3) {o : Nat} (h13 : K (k - 3) = o) (ho : o = 13 ∨ o = 15) (hn : num = nI (V (k - 2))) : gwP E σ n gr u tb tl k V o (actF mk K V (k + 1)) off oof true true num := by
  by_cases e : aer (actF mk K V k) ≠ 0
  · exact gw_e hE hC h e
  · have e0' := Decidable.not_not.mp e
    have hN := num_ge (V := V) hC.2.1 h3k h14 h3 (by omega) e0'
    have ok := hC.2.2.2.1 k hk0 e0'
    have h10 := (hC.1.r k).2
    rw [act_nm2 (fun q => by have := hC.2.1 k q; omega) h2, if_neg e, h14]
    have hd' : gr + 6 + 3 ≤ u ∨ u + 26 ≤ gr + 6 := by omega
    have hcw := hC.1.w k hk h2
    generalize actF mk K V k = S at *
    have hNn := (nameA_c (S := S) (b := 14) (c := K (k - 3)) (v := V k) (k := k) (j := 0) (by omega) (by omega) (by omega)).1
    refine ⟨10, Nat.le_refl _, sp_Sc_writeName_n hE h hd' e0' ok hcw (by omega) (by omega) (by omega) (by omega) (fun j H hf hS => ?_) hNn⟩
    have hj := fdA_in hf
    rw [(nameA_c (S := S) (b := 14) (c := K (k - 3)) (v := V k) (k := k) (j := j) (by omega) (by omega) (by omega)).2 hf, if_pos rfl]
    rcases ho with ho | ho
    · subst ho
      rw [if_neg (by omega)]
      exact sp_Sc_writeNamed_s hE hS (by rw [hN.1]; exact hn) (by have := (hN.2.1 h13).2; rw [hN.1]; omega) hd' (by omega)
    · subst ho
      rw [if_pos h13]
      exact sp_Sc_writeNamed_p hE hS (by rw [hN.1]; exact hn) hd' (by omega)
theorem gw_11 (hE : ZEOK E) (hd : gr + 9 ≤ u ∨ u + 26 ≤ gr) (hG : GC2 tb tl mk K V Y e0) (hk : k ≤ eN tb tl) (hk0 : k ≤ e0) (hk1 : 1 ≤ k) (h : SCs E σ (gr + 6) u tb tl (actF mk K V k) off oof true true num) (h2 : K k = 2) {o : Nat} (ho : o = 11 ∨ o = 12) (h11 : K (k - 1) = o) (hm : mk (k - 1) = true) (hc : hC K (k - 1)) : gwP E σ n gr u tb tl k V o (actF mk K V (k + 1)) off oof true true num := by
  by_cases e : aer (actF mk K V k) ≠ 0
  · exact gw_e hE hG h e
  · have e0' := Decidable.not_not.mp e
    have h10 := (hG.1.r k).2
    have hA := anc_ge (V := V) hG.2.1 (hc.up (Nat.sub_le k 1)) e0'
    have hD := (ade_ge (K := K) (V := V) hm (by rw [show k - 1 + 1 = k by omega]; exact e0')).1
    rw [show k - 1 + 1 = k by omega] at hD
    have ok := hG.2.2.2.1 k hk0 e0'
    have hcw := hG.1.w k hk h2
    rw [act_nm2 (fun q => by have := hG.2.1 k q; omega) h2, if_neg e, h11]
    have hd' : gr + 6 + 3 ≤ u ∨ u + 26 ≤ gr + 6 := by omega
    generalize actF mk K V k = S at *
    refine ⟨10, Nat.le_refl _, sp_Sc_writeName_n hE h hd' e0' ok hcw (by omega) (by omega) (by omega) (by omega) (fun j H hf hS => ?_) (nameA_c (j := 0) (by omega) (by omega) (by omega)).1⟩
    have hj := fdA_in hf
    rw [(nameA_c (S := S) (b := o) (c := K (k - 3)) (v := V k) (k := k) (j := j) (by omega) (by omega) (by omega)).2 hf, if_neg (by omega), if_neg (by omega), if_pos (by omega)]
    exact sp_Sc_writeNamed_d hE hS ok ⟨hA, hD⟩ hd' (by omega) ho
theorem gw_17 (hE : ZEOK E) (hd : gr + 9 ≤ u ∨ u + 26 ≤ gr) (hC : GC2 tb tl mk K V Y e0) (hk : k ≤ eN tb tl) (hk0 : k ≤ e0) (hk1 : 1 ≤ k) (h : SCs E σ (gr + 6) u tb tl (actF mk K V k) off oof false false num) (h2 : K k = 2) (h17 : K (k - 1) = 17) : gwP E σ n gr u tb tl k V 17 (actF mk K V (k + 1)) off oof true false num := by
  by_cases e : aer (actF mk K V k) ≠ 0
  · obtain ⟨z', y1, y2⟩ := gw_e (n := n) (o := 17) hE hC h e
    rw [show actF mk K V (k + 1) = actF mk K V k from actF_e e 1] at y2 ⊢
    exact ⟨z', y1, ZSpec.mo y2 (fun w σ' n' q => ⟨q.1, q.2.1, q.2.2.1.fg _ _ (fun y => absurd y e) (fun y => absurd y e), q.2.2.2⟩)⟩
  · have e0' := Decidable.not_not.mp e
    have hA := ano_ge (V := V) hC.2.1 (k := k) ⟨k - 1, by omega, h17⟩ e0'
    have h16 := (bnd_F hC.2.2.2.1 hk0).2.2
    have ok := hC.2.2.2.1 k hk0 e0'
    have hcw := hC.1.w k hk h2
    have h10 := (hC.1.r k).2
    rw [act_nm2 (fun q => by have := hC.2.1 k q; omega) h2, if_neg e, h17]
    have hd' : gr + 6 + 3 ≤ u ∨ u + 26 ≤ gr + 6 := by omega
    generalize actF mk K V k = S at *
    refine ⟨10, Nat.le_refl _, sp_Sc_writeName_n hE h hd' e0' ok hcw (by omega) (by omega) (by omega) (by omega) (fun j H hf hS => ?_) (nameA_c (j := 0) (by omega) (by omega) (by omega)).1⟩
    have hj := fdA_in hf
    rw [(nameA_c (S := S) (b := 17) (c := K (k - 3)) (v := V k) (k := k) (j := j) (by omega) (by omega) (by omega)).2 hf, if_neg (by omega), if_pos rfl]
    exact sp_Sc_writeNamed_b hE hS e0' ⟨hA, h16⟩ hd' (by omega)
theorem gw_18 (hE : ZEOK E) (hd : gr + 9 ≤ u ∨ u + 26 ≤ gr) (hC : GC2 tb tl mk K V Y e0) (hk : k ≤ eN tb tl) (hk0 : k ≤ e0) (h : SCs E σ (gr + 6) u tb tl (actF mk K V k) off oof true false num) (h2 : K k = 2) (h18 : K (k - 1) = 18) (ho : hO K k) : gwP E σ n gr u tb tl k V 18 (actF mk K V (k + 1)) off oof true true num := by
  by_cases e : aer (actF mk K V k) ≠ 0
  · exact gw_e hE hC h e
  · have e0' := Decidable.not_not.mp e
    have hA := ano_ge (V := V) hC.2.1 (k := k) ho e0'
    have hB := bnd_F hC.2.2.2.1 hk0
    have ok := hC.2.2.2.1 k hk0 e0'
    have hcw := hC.1.w k hk h2
    rw [act_nm2 (fun q => by have := hC.2.1 k q; omega) h2, if_neg e, h18]
    have hd' : gr + 6 + 3 ≤ u ∨ u + 26 ≤ gr + 6 := by omega
    generalize actF mk K V k = S at *
    have e18 : nameA S 18 (K (k - 3)) (V k) k = (match fdA (amn S) (V k) (anm S) 0 with
      | none => fltA S 3 k
      | some j => omA S j) := by
      unfold nameA
      rw [if_neg (by omega), if_neg (by omega), if_pos rfl]
      cases fdA (amn S) (V k) (anm S) 0 with
      | none => rfl
      | some j => rfl
    refine ⟨10, Nat.le_refl _, sp_Sc_writeName_f hE h hd' e0' ok hcw (by omega) (by omega) (by omega) rfl (fun j H hf hS => ?_) (fun q => by rw [e18, q])⟩
    have hj := fdA_in hf
    rw [e18, hf]
    exact sp_Sc_writeNamed_f hE hS e0' ⟨hA, hB.2.2⟩ hd' (by omega)
end
