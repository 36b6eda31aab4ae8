/-! THE REFERENCE reads its tape -/
section
variable {E : ZEX} {σ : ZHp} {n x sh on y tl : Nat} {tb : Nat → Nat} {B : Nat → Int32} {t0 d0 : Int32}
theorem RPs.up {E : ZEX} {σ : ZHp} {x sh on tl : Nat} {B : Nat → Int32} {t0 d0 : Int32} {tb : Nat → Nat} (h : RPs E σ x tb tl) (h0 : σ x = some (rkO x sh on B t0 d0)) (B' : Nat → Int32) (hB : B' 1 = B 1) (t d : Int32) {σ' : ZHp} (h1 : σ' x = some (rkO x sh on B' t d)) (h2 : σ' (x + 1) = σ (x + 1)) : RPs E σ' x tb tl := by
  obtain ⟨vs, ft, g1, g2, g3, g4, g5⟩ := h
  rw [h0] at g1
  unfold rkO at g1
  injection g1 with g1
  injection g1 with g1
  injection g1 with _ g1
  subst g1
  refine ⟨_, ft, h1, rfl, ?_, h2.trans g4, g5⟩
  rw [← g3]
  show some (Value.int (B' 1)) = some (Value.int (B 1))
  rw [hB]
theorem upd_rk {B : Nat → Int32} {v t d : Int32} {x sh on : Nat} : rkO x sh on (upd B 2 v) t d = .inr (14, [.int (B 0), .ref (x + 1), .int (B 1), .int v, .int t, .int d, .ref sh, .ref (x + 19), .ref (x + 32), .int (B 3), .ref on, .int (B 4), .ref (x + 45), .int (B 5), .int (B 6), .ref (x + 46), .int (B 7), .int (B 8), .int (B 9), .int (B 10), .int (B 11), .int (B 12), .int (B 13)]) := rfl
def g0G (fk ff fm fd : Nat → Int32) (j : Nat) : Nat → Int32 := if j = 1 then fk else if j = 2 then ff else if j = 3 then fm else if j = 5 then fd else fun _ => 0
theorem g0G_0 {fk ff fm fd : Nat → Int32} {j i : Nat} (h : j = 4 ∨ 6 ≤ j) : g0G fk ff fm fd j i = nI 0 := by
  unfold g0G
  rw [if_neg (by omega), if_neg (by omega), if_neg (by omega), if_neg (by omega)]
  rfl
theorem SHa_0 {E : ZEX} {σ : ZHp} {y tl : Nat} {tb : Nat → Nat} {M : Nat → Bool} {fk ff fm fd : Nat → Int32} (g0 : σ y = some (shO y (nI 0) (nI 0) (nI 0) (nI 0) (nI 0))) (h1 : iar E σ (y + 1) 401 fk) (h2 : iar E σ (y + 2) 401 ff) (h3 : iar E σ (y + 3) 401 fm) (h4 : iar E σ (y + 4) 401 (fun _ => 0)) (h5 : iar E σ (y + 5) 401 fd) (h6 : ∀ j, 6 ≤ j → j ≤ 16 → iar E σ (y + j) (szA j) (fun _ => 0)) (c4 : ∀ i, i < 401 → fk i = nI (rkc (lxK tb tl i))) (c5 : ∀ i, i ≤ eN tb tl → ff i = nI (lxP tb tl i) ∧ fm i = nI (lnA tb tl (lxP tb tl i))) (c6 : ∀ i, i < 401 → fd i = if M i = true then 1 else 0) : SHa E σ y tb tl M zeroA 0 := by
  refine ⟨g0G fk ff fm fd, g0, fun j j1 j2 => ?_, c4, c5, c6, fun i hi => absurd hi (Nat.not_lt_zero i), fun c hc => ⟨g0G_0 (by omega), g0G_0 (by omega), g0G_0 (by omega), g0G_0 (by omega)⟩, fun d hd => g0G_0 (by omega), fun i hi => absurd hi (Nat.not_lt_zero i), fun i hi => g0G_0 (by omega), fun o ho => ⟨g0G_0 (by omega), g0G_0 (by omega)⟩, fun o ho => absurd ho (Nat.not_lt_zero o), fun t ht => absurd ht (Nat.not_lt_zero t), fun t ht => absurd ht (Nat.not_lt_zero t), fun c d hc => absurd hc (Nat.not_lt_zero c)⟩
  have hj : j = 1 ∨ j = 2 ∨ j = 3 ∨ j = 4 ∨ j = 5 ∨ 6 ≤ j := by omega
  rcases hj with e | e | e | e | e | e
  · subst e; exact h1
  · subst e; exact h2
  · subst e; exact h3
  · subst e; exact h4
  · subst e; exact h5
  · have eg : g0G fk ff fm fd j = fun _ => 0 := by
      unfold g0G
      rw [if_neg (by omega), if_neg (by omega), if_neg (by omega), if_neg (by omega)]
    rw [eg]
    exact h6 j e j2
theorem sp_read_g (hE : ZEOK E) (hY : ZEY E) (h : RPs E σ x tb tl) (h0 : σ x = some (rkO x sh on B t0 d0)) (g0 : σ y = some (shO y (nI 0) (nI 0) (nI 0) (nI 0) (nI 0))) (hB : SHb E σ y (fun _ _ => 0)) (hxy : x + 2 ≤ y ∨ y + 17 ≤ x) {L : QD} {A : Nat → SA} {M : Nat → Bool} {XO : Nat → Int32} {U : RU} {rE rP : Nat}
    (sL : ∀ H, RK E H x sh on y B (lxK tb tl) 0 0 → iar E H (y + 5) 401 (fun _ => 0) → ZSpec E MX15_isList 35 0 0 [.ref x, .ref y] H n (fun v σ' n' => v = some (.int (zIf L.2.1)) ∧ n' = n ∧ dPost E H σ' x sh on y B (lxK tb tl) (fun _ => 0) L))
    (sE : ∀ H k, k < L.1 → L.2.1 = true → RPs E H x tb tl → SHa E H y tb tl M (A k) k → aer (A k) = 0 → ZSpec E MX15_errorOf 15 0 0 [.ref x, .ref y, .int (nI k)] H n (fun v σ' n' => ∃ z, v = some (.int z) ∧ n' = n ∧ EPs E σ' H y tb tl M (A (k + 1)) k z))
    (hA0 : A 0 = zeroA) (hLe : L.1 ≤ eN tb tl) (hM : ∀ i, M i = true ↔ i ∈ L.2.2) (hA : ∀ k, k < L.1 → aer (A k) = 0 → aer (A (k + 1)) ≠ 0 → aep (A L.1) = k ∧ aer (A L.1) = aer (A (k + 1)))
    (hU : ∀ H, L.2.1 = true → aer (A L.1) = 0 → SHa E H y tb tl M (A L.1) L.1 → SHs E H y (lxK tb tl) XO U)
    (hrE : rE = if L.2.1 = true then aer (A L.1) else 1) (hrP : rP = lxP tb tl (if L.2.1 = true then aep (A L.1) else L.1)) (hA5 : ∀ k, aer (A k) < 100) : ZSpec E MX15_read 40 0 0 [.ref x, .ref y] σ n (fun v σ' n' => v = some (.int (nI rE)) ∧ n' = n ∧ (∃ t d, σ' x = some (rkO x sh on (if rE = 0 then B else upd B 2 (nI rP)) t d)) ∧ (rE = 0 → SHs E σ' y (lxK tb tl) XO U) ∧ ∀ a, a ≠ x → (a < y ∨ y + 17 ≤ a) → σ' a = σ a) := by
  have hN := (eN_b (tb := tb) (tl := tl)).1
  have sC := sp_cut (n := n) hE hY h g0 rfl rfl rfl (hB 1 (by omega) (by omega)) (hB 2 (by omega) (by omega)) (hB 3 (by omega) (by omega)) (by omega)
  have h0' := h0
  unfold rkO at h0'
  refine ZSpec_of hE (by decide +kernel) (Nat.le_of_ble_eq_true rfl) [some (.ref x), some (.ref y), none, none] rfl (fun X hX => ?_)
  refine zrun_okZ (ok_X15_read hX) (fun _ => false) 50 _ _ _ _ _ _ _ (fun Z hZ => ?_)
  simp (disch := omega) only [f_X15_read_0 hZ, f_X15_read_1 hZ, f_X15_read_2 hZ, f_X15_read_5 hZ, f_X15_read_6 hZ, f_X15_read_7 hZ, f_X15_read_10 hZ, f_X15_read_11 hZ, f_X15_read_12 hZ, f_X15_read_15 hZ, f_X15_read_16 hZ, f_X15_read_17 hZ, f_X15_read_20 hZ, f_X15_read_23 hZ, f_X15_read_24 hZ, f_X15_read_25 hZ, f_X15_read_28 hZ, f_X15_read_29 hZ, f_X15_read_32 hZ, f_X15_read_33 hZ, f_X15_read_36 hZ, f_X15_read_37 hZ, f_X15_read_38 hZ, f_X15_read_39 hZ, f_X15_read_40 hZ, f_X15_read_41 hZ, f_X15_read_42 hZ, f_X15_read_45 hZ, f_X15_read_48 hZ, f_X15_read_49 hZ, f_X15_read_50 hZ, f_X15_read_51 hZ, f_X15_read_54 hZ, f_X15_read_55 hZ, f_X15_read_56 hZ, f_X15_read_59 hZ, f_X15_read_62 hZ, f_X15_read_63 hZ, f_X15_read_64 hZ, f_X15_read_67 hZ, f_X15_read_68 hZ, f_X15_read_69 hZ, f_X15_read_72 hZ, f_X15_read_73 hZ, f_X15_read_74 hZ, f_X15_read_77 hZ, f_X15_read_80 hZ, f_X15_read_81 hZ, s_aload, s_callV, s_const, s_putf, s_if_ne, s_getf, s_iaload, s_ireturn, s_istore, s_iload, s_icmp_ge, s_goto, s_iinc, zobj, zk1, ZRt, zp, zp0, Option.some.injEq, Value.int.injEq, Value.long.injEq, Value.ref.injEq, and_self, cond_true, cond_false, zget, zkd, zc_lt, zc_le, zc_0, zc_m, zc_m0, zc_10, zk0_n, zk0_i, zk0_r, zk0_0, zk0_l, zk0_d, zs1_0, zs1_1, zs1_s, zs2_0, zs2_1, zs2_s, zcs, List.getElem?_cons_zero, List.getElem?_cons_succ, List.set_cons_zero, List.set_cons_succ, List.drop_zero, List.drop_succ_cons, List.take_zero, List.take_succ_cons, List.reverse_cons, List.reverse_nil, List.nil_append, List.cons_append, List.length_cons, List.length_nil, List.map_cons, List.map_nil, List.sum_cons, List.sum_nil, Value.category, Option.toList_some, Option.toList_none, List.append_nil, nI_leI, nI_ltI, nI_eq, nI_add, pk_sub, Nat.add_sub_cancel, vp_in_nI, nI_clamp, true_implies, false_implies, implies_true, not_true_eq_false, not_false_eq_true, Nat.not_lt, Nat.not_le, if_true, if_false, eq_self, true_and, and_true, true_or, or_true, false_or, or_false, Nat.zero_add, Nat.add_zero, ↓reduceIte, Nat.reduceAdd, Nat.reduceSub, Nat.reduceLeDiff, Nat.reduceLT, Nat.reduceBEq, Nat.reduceEqDiff, reduceCtorEq, Nat.lt_add_one, Nat.le_refl, zv_cat, Bool.or_true, Bool.or_false, Bool.true_or, Bool.false_or, zk_m1, zk_1m, zk_gt_0, zk_le_0, zk_eq_0, zk_qe_0, zk_lt_0, zk_ge_0, zk_lt_1, zk_le_1, zk_gt_1, zk_ge_1, zk_eq_1, zk_qe_1, zk_ad_1, zk_da_1, zk_sb_1, zk_mu_1, zk_um_1, h0']
  refine zcall_q sC ?_
  rintro v s1 m1 ⟨rfl, rfl, hCT, f1⟩
  obtain ⟨fk, ff, fm, c1, c2, c3, c4, c5⟩ := hCT
  have o1 : s1 x = some (rkO x sh on B t0 d0) := (f1 x (by omega)).trans h0
  have o1' := o1
  unfold rkO at o1'
  have o2 : s1 y = some (shO y (nI 0) (nI 0) (nI 0) (nI 0) (nI 0)) := (f1 y (by omega)).trans g0
  have o5 : iar E s1 (y + 5) 401 (fun _ => 0) := (f1 (y + 5) (by omega)).trans (hB 5 (by omega) (by omega))
  refine zrun_okZ (ok_X15_read hX) (fun _ => false) 50 _ _ _ _ _ _ _ (fun Z hZ => ?_)
  simp (disch := omega) only [f_X15_read_0 hZ, f_X15_read_1 hZ, f_X15_read_2 hZ, f_X15_read_5 hZ, f_X15_read_6 hZ, f_X15_read_7 hZ, f_X15_read_10 hZ, f_X15_read_11 hZ, f_X15_read_12 hZ, f_X15_read_15 hZ, f_X15_read_16 hZ, f_X15_read_17 hZ, f_X15_read_20 hZ, f_X15_read_23 hZ, f_X15_read_24 hZ, f_X15_read_25 hZ, f_X15_read_28 hZ, f_X15_read_29 hZ, f_X15_read_32 hZ, f_X15_read_33 hZ, f_X15_read_36 hZ, f_X15_read_37 hZ, f_X15_read_38 hZ, f_X15_read_39 hZ, f_X15_read_40 hZ, f_X15_read_41 hZ, f_X15_read_42 hZ, f_X15_read_45 hZ, f_X15_read_48 hZ, f_X15_read_49 hZ, f_X15_read_50 hZ, f_X15_read_51 hZ, f_X15_read_54 hZ, f_X15_read_55 hZ, f_X15_read_56 hZ, f_X15_read_59 hZ, f_X15_read_62 hZ, f_X15_read_63 hZ, f_X15_read_64 hZ, f_X15_read_67 hZ, f_X15_read_68 hZ, f_X15_read_69 hZ, f_X15_read_72 hZ, f_X15_read_73 hZ, f_X15_read_74 hZ, f_X15_read_77 hZ, f_X15_read_80 hZ, f_X15_read_81 hZ, s_aload, s_callV, s_const, s_putf, s_if_ne, s_getf, s_iaload, s_ireturn, s_istore, s_iload, s_icmp_ge, s_goto, s_iinc, zobj, zk1, ZRt, zp, zp0, Option.some.injEq, Value.int.injEq, Value.long.injEq, Value.ref.injEq, and_self, cond_true, cond_false, zget, zkd, zc_lt, zc_le, zc_0, zc_m, zc_m0, zc_10, zk0_n, zk0_i, zk0_r, zk0_0, zk0_l, zk0_d, zs1_0, zs1_1, zs1_s, zs2_0, zs2_1, zs2_s, zcs, List.getElem?_cons_zero, List.getElem?_cons_succ, List.set_cons_zero, List.set_cons_succ, List.drop_zero, List.drop_succ_cons, List.take_zero, List.take_succ_cons, List.reverse_cons, List.reverse_nil, List.nil_append, List.cons_append, List.length_cons, List.length_nil, List.map_cons, List.map_nil, List.sum_cons, List.sum_nil, Value.category, Option.toList_some, Option.toList_none, List.append_nil, nI_leI, nI_ltI, nI_eq, nI_add, pk_sub, Nat.add_sub_cancel, vp_in_nI, nI_clamp, true_implies, false_implies, implies_true, not_true_eq_false, not_false_eq_true, Nat.not_lt, Nat.not_le, if_true, if_false, eq_self, true_and, and_true, true_or, or_true, false_or, or_false, Nat.zero_add, Nat.add_zero, ↓reduceIte, Nat.reduceAdd, Nat.reduceSub, Nat.reduceLeDiff, Nat.reduceLT, Nat.reduceBEq, Nat.reduceEqDiff, reduceCtorEq, Nat.lt_add_one, Nat.le_refl, zv_cat, Bool.or_true, Bool.or_false, Bool.true_or, Bool.false_or, zk_m1, zk_1m, zk_gt_0, zk_le_0, zk_eq_0, zk_qe_0, zk_lt_0, zk_ge_0, zk_lt_1, zk_le_1, zk_gt_1, zk_ge_1, zk_eq_1, zk_qe_1, zk_ad_1, zk_da_1, zk_sb_1, zk_mu_1, zk_um_1, o1', zup_s]
  obtain ⟨H2, hH2⟩ : ∃ H2, H2 = zup (zup s1 x (rkO x sh on B 0 d0)) x (rkO x sh on B 0 0) := ⟨_, rfl⟩
  have p1 : H2 x = some (rkO x sh on B (nI 0) (nI 0)) := by rw [hH2]; exact zup_s _ _ _
  have p2 : ∀ a, a ≠ x → H2 a = s1 a := fun a ha => by rw [hH2, zup_n ha, zup_n ha]
  unfold rkO at hH2
  rw [← hH2]
  have hRK : RK E H2 x sh on y B (lxK tb tl) 0 0 := ⟨p1, _, fk, (p2 y (by omega)).trans o2, rfl, rfl, (p2 (y + 1) (by omega)).trans c1, c4⟩
  refine zcall_q (sL H2 hRK ((p2 (y + 5) (by omega)).trans o5)) ?_
  rintro v s3 m3 ⟨rfl, rfl, f3, d', fd', r3, i3, e3, b3⟩
  have q0 := r3.1
  have q0' := q0
  unfold rkO at q0'
  have q2 : s3 (y + 2) = s1 (y + 2) := (f3 (y + 2) (by omega) (by omega)).trans (p2 (y + 2) (by omega))
  have qy : s3 y = some (shO y (nI 0) (nI 0) (nI 0) (nI 0) (nI 0)) := (f3 y (by omega) (by omega)).trans ((p2 y (by omega)).trans o2)
  have qf : ∀ a, a ≠ x → (a < y ∨ y + 17 ≤ a) → s3 a = σ a := fun a a1 a2 => (f3 a a1 (by omega)).trans ((p2 a a1).trans (f1 a (by omega)))
  have qg : ∀ j, 6 ≤ j → j ≤ 16 → s3 (y + j) = σ (y + j) := fun j j1 j2 => (f3 _ (by omega) (by omega)).trans ((p2 _ (by omega)).trans (f1 _ (by omega)))
  have qy' := qy
  unfold shO at qy'
  have q2' : s3 (y + 2) = some (.inl (zeA E 0, (401, .inl ff))) := q2.trans c2
  have hRP : ∀ {H : ZHp} {B' : Nat → Int32} {t d : Int32}, B' 1 = B 1 → H x = some (rkO x sh on B' t d) → H (x + 1) = σ (x + 1) → RPs E H x tb tl := fun e1 e2 e3 => h.up h0 _ e1 _ _ e2 e3
  cases hok : L.2.1 with
  | false =>
    rw [hok] at hrE hrP
    rw [if_neg (by decide)] at hrE hrP
    have hff := (c5 L.1 hLe).1
    rw [← hrP] at hff
    rw [show zIf false = 0 from rfl]
    subst hrE
    have fin : (∃ t d, zup s3 x (rkO x sh on (upd B 2 (nI rP)) (nI L.1) (nI d')) x = some (rkO x sh on (upd B 2 (nI rP)) t d)) ∧ ∀ a, a ≠ x → (a < y ∨ y + 17 ≤ a) → zup s3 x (rkO x sh on (upd B 2 (nI rP)) (nI L.1) (nI d')) a = σ a := ⟨⟨_, _, zup_s _ _ _⟩, fun a a1 a2 => (zup_n a1).trans (qf a a1 a2)⟩
    rw [upd_rk] at fin
    refine zrun_okZ (ok_X15_read hX) (fun _ => false) 50 _ _ _ _ _ _ _ (fun Z hZ => ?_)
    simp (disch := omega) only [f_X15_read_0 hZ, f_X15_read_1 hZ, f_X15_read_2 hZ, f_X15_read_5 hZ, f_X15_read_6 hZ, f_X15_read_7 hZ, f_X15_read_10 hZ, f_X15_read_11 hZ, f_X15_read_12 hZ, f_X15_read_15 hZ, f_X15_read_16 hZ, f_X15_read_17 hZ, f_X15_read_20 hZ, f_X15_read_23 hZ, f_X15_read_24 hZ, f_X15_read_25 hZ, f_X15_read_28 hZ, f_X15_read_29 hZ, f_X15_read_32 hZ, f_X15_read_33 hZ, f_X15_read_36 hZ, f_X15_read_37 hZ, f_X15_read_38 hZ, f_X15_read_39 hZ, f_X15_read_40 hZ, f_X15_read_41 hZ, f_X15_read_42 hZ, f_X15_read_45 hZ, f_X15_read_48 hZ, f_X15_read_49 hZ, f_X15_read_50 hZ, f_X15_read_51 hZ, f_X15_read_54 hZ, f_X15_read_55 hZ, f_X15_read_56 hZ, f_X15_read_59 hZ, f_X15_read_62 hZ, f_X15_read_63 hZ, f_X15_read_64 hZ, f_X15_read_67 hZ, f_X15_read_68 hZ, f_X15_read_69 hZ, f_X15_read_72 hZ, f_X15_read_73 hZ, f_X15_read_74 hZ, f_X15_read_77 hZ, f_X15_read_80 hZ, f_X15_read_81 hZ, s_aload, s_callV, s_const, s_putf, s_if_ne, s_getf, s_iaload, s_ireturn, s_istore, s_iload, s_icmp_ge, s_goto, s_iinc, zobj, zk1, ZRt, zp, zp0, Option.some.injEq, Value.int.injEq, Value.long.injEq, Value.ref.injEq, and_self, cond_true, cond_false, zget, zkd, zc_lt, zc_le, zc_0, zc_m, zc_m0, zc_10, zk0_n, zk0_i, zk0_r, zk0_0, zk0_l, zk0_d, zs1_0, zs1_1, zs1_s, zs2_0, zs2_1, zs2_s, zcs, List.getElem?_cons_zero, List.getElem?_cons_succ, List.set_cons_zero, List.set_cons_succ, List.drop_zero, List.drop_succ_cons, List.take_zero, List.take_succ_cons, List.reverse_cons, List.reverse_nil, List.nil_append, List.cons_append, List.length_cons, List.length_nil, List.map_cons, List.map_nil, List.sum_cons, List.sum_nil, Value.category, Option.toList_some, Option.toList_none, List.append_nil, nI_leI, nI_ltI, nI_eq, nI_add, pk_sub, Nat.add_sub_cancel, vp_in_nI, nI_clamp, true_implies, false_implies, implies_true, not_true_eq_false, not_false_eq_true, Nat.not_lt, Nat.not_le, if_true, if_false, eq_self, true_and, and_true, true_or, or_true, false_or, or_false, Nat.zero_add, Nat.add_zero, ↓reduceIte, Nat.reduceAdd, Nat.reduceSub, Nat.reduceLeDiff, Nat.reduceLT, Nat.reduceBEq, Nat.reduceEqDiff, reduceCtorEq, Nat.lt_add_one, Nat.le_refl, zv_cat, Bool.or_true, Bool.or_false, Bool.true_or, Bool.false_or, zk_m1, zk_1m, zk_gt_0, zk_le_0, zk_eq_0, zk_qe_0, zk_lt_0, zk_ge_0, zk_lt_1, zk_le_1, zk_gt_1, zk_ge_1, zk_eq_1, zk_qe_1, zk_ad_1, zk_da_1, zk_sb_1, zk_mu_1, zk_um_1, q0', qy', q2', hff]
    exact fin
  | true =>
    have ed := b3 hok
    subst ed
    rw [hok] at hrE hrP
    rw [if_pos rfl] at hrE hrP
    rw [show zIf true = 1 from rfl]
    have loop : ∀ (q k : Nat) (H : ZHp) (u : Option Value), k + q = L.1 → H x = some (rkO x sh on B (nI L.1) (nI 0)) → SHa E H y tb tl M (A k) k → aer (A k) = 0 → (∀ a, a ≠ x → (a < y ∨ y + 17 ≤ a) → H a = σ a) → ZG E X MX15_read 40 [some (.ref x), some (.ref y), some (.int (nI k)), u] [] H m3 0 0 := by
      intro q
      induction q with
      | zero =>
        intro k H u hk l1 l2 l3 l4
        obtain rfl : k = L.1 := by omega
        rw [l3] at hrE
        subst hrE
        have l1' := l1
        unfold rkO at l1'
        refine zrun_okZ (ok_X15_read hX) (fun q => q == 40) 50 _ _ _ _ _ _ _ (fun Z hZ => ?_)
        simp (disch := omega) only [f_X15_read_0 hZ, f_X15_read_1 hZ, f_X15_read_2 hZ, f_X15_read_5 hZ, f_X15_read_6 hZ, f_X15_read_7 hZ, f_X15_read_10 hZ, f_X15_read_11 hZ, f_X15_read_12 hZ, f_X15_read_15 hZ, f_X15_read_16 hZ, f_X15_read_17 hZ, f_X15_read_20 hZ, f_X15_read_23 hZ, f_X15_read_24 hZ, f_X15_read_25 hZ, f_X15_read_28 hZ, f_X15_read_29 hZ, f_X15_read_32 hZ, f_X15_read_33 hZ, f_X15_read_36 hZ, f_X15_read_37 hZ, f_X15_read_38 hZ, f_X15_read_39 hZ, f_X15_read_40 hZ, f_X15_read_41 hZ, f_X15_read_42 hZ, f_X15_read_45 hZ, f_X15_read_48 hZ, f_X15_read_49 hZ, f_X15_read_50 hZ, f_X15_read_51 hZ, f_X15_read_54 hZ, f_X15_read_55 hZ, f_X15_read_56 hZ, f_X15_read_59 hZ, f_X15_read_62 hZ, f_X15_read_63 hZ, f_X15_read_64 hZ, f_X15_read_67 hZ, f_X15_read_68 hZ, f_X15_read_69 hZ, f_X15_read_72 hZ, f_X15_read_73 hZ, f_X15_read_74 hZ, f_X15_read_77 hZ, f_X15_read_80 hZ, f_X15_read_81 hZ, s_aload, s_callV, s_const, s_putf, s_if_ne, s_getf, s_iaload, s_ireturn, s_istore, s_iload, s_icmp_ge, s_goto, s_iinc, zobj, zk1, ZRt, zp, zp0, Option.some.injEq, Value.int.injEq, Value.long.injEq, Value.ref.injEq, and_self, cond_true, cond_false, zget, zkd, zc_lt, zc_le, zc_0, zc_m, zc_m0, zc_10, zk0_n, zk0_i, zk0_r, zk0_0, zk0_l, zk0_d, zs1_0, zs1_1, zs1_s, zs2_0, zs2_1, zs2_s, zcs, List.getElem?_cons_zero, List.getElem?_cons_succ, List.set_cons_zero, List.set_cons_succ, List.drop_zero, List.drop_succ_cons, List.take_zero, List.take_succ_cons, List.reverse_cons, List.reverse_nil, List.nil_append, List.cons_append, List.length_cons, List.length_nil, List.map_cons, List.map_nil, List.sum_cons, List.sum_nil, Value.category, Option.toList_some, Option.toList_none, List.append_nil, nI_leI, nI_ltI, nI_eq, nI_add, pk_sub, Nat.add_sub_cancel, vp_in_nI, nI_clamp, true_implies, false_implies, implies_true, not_true_eq_false, not_false_eq_true, Nat.not_lt, Nat.not_le, if_true, if_false, eq_self, true_and, and_true, true_or, or_true, false_or, or_false, Nat.zero_add, Nat.add_zero, ↓reduceIte, Nat.reduceAdd, Nat.reduceSub, Nat.reduceLeDiff, Nat.reduceLT, Nat.reduceBEq, Nat.reduceEqDiff, reduceCtorEq, Nat.lt_add_one, Nat.le_refl, zv_cat, Bool.or_true, Bool.or_false, Bool.true_or, Bool.false_or, zk_m1, zk_1m, zk_gt_0, zk_le_0, zk_eq_0, zk_qe_0, zk_lt_0, zk_ge_0, zk_lt_1, zk_le_1, zk_gt_1, zk_ge_1, zk_eq_1, zk_qe_1, zk_ad_1, zk_da_1, zk_sb_1, zk_mu_1, zk_um_1, l1']
        exact ⟨⟨_, _, rfl⟩, hU H hok l3 l2, l4⟩
      | succ q ih =>
        intro k H u hk l1 l2 l3 l4
        have l1' := l1
        unfold rkO at l1'
        have sk := sE H k (by omega) hok (hRP rfl l1 (l4 (x + 1) (by omega) (by omega))) l2 l3
        have hF := l2.fl
        refine zrun_okZ (ok_X15_read hX) (fun q => q == 40) 50 _ _ _ _ _ _ _ (fun Z hZ => ?_)
        simp (disch := omega) only [f_X15_read_0 hZ, f_X15_read_1 hZ, f_X15_read_2 hZ, f_X15_read_5 hZ, f_X15_read_6 hZ, f_X15_read_7 hZ, f_X15_read_10 hZ, f_X15_read_11 hZ, f_X15_read_12 hZ, f_X15_read_15 hZ, f_X15_read_16 hZ, f_X15_read_17 hZ, f_X15_read_20 hZ, f_X15_read_23 hZ, f_X15_read_24 hZ, f_X15_read_25 hZ, f_X15_read_28 hZ, f_X15_read_29 hZ, f_X15_read_32 hZ, f_X15_read_33 hZ, f_X15_read_36 hZ, f_X15_read_37 hZ, f_X15_read_38 hZ, f_X15_read_39 hZ, f_X15_read_40 hZ, f_X15_read_41 hZ, f_X15_read_42 hZ, f_X15_read_45 hZ, f_X15_read_48 hZ, f_X15_read_49 hZ, f_X15_read_50 hZ, f_X15_read_51 hZ, f_X15_read_54 hZ, f_X15_read_55 hZ, f_X15_read_56 hZ, f_X15_read_59 hZ, f_X15_read_62 hZ, f_X15_read_63 hZ, f_X15_read_64 hZ, f_X15_read_67 hZ, f_X15_read_68 hZ, f_X15_read_69 hZ, f_X15_read_72 hZ, f_X15_read_73 hZ, f_X15_read_74 hZ, f_X15_read_77 hZ, f_X15_read_80 hZ, f_X15_read_81 hZ, s_aload, s_callV, s_const, s_putf, s_if_ne, s_getf, s_iaload, s_ireturn, s_istore, s_iload, s_icmp_ge, s_goto, s_iinc, zobj, zk1, ZRt, zp, zp0, Option.some.injEq, Value.int.injEq, Value.long.injEq, Value.ref.injEq, and_self, cond_true, cond_false, zget, zkd, zc_lt, zc_le, zc_0, zc_m, zc_m0, zc_10, zk0_n, zk0_i, zk0_r, zk0_0, zk0_l, zk0_d, zs1_0, zs1_1, zs1_s, zs2_0, zs2_1, zs2_s, zcs, List.getElem?_cons_zero, List.getElem?_cons_succ, List.set_cons_zero, List.set_cons_succ, List.drop_zero, List.drop_succ_cons, List.take_zero, List.take_succ_cons, List.reverse_cons, List.reverse_nil, List.nil_append, List.cons_append, List.length_cons, List.length_nil, List.map_cons, List.map_nil, List.sum_cons, List.sum_nil, Value.category, Option.toList_some, Option.toList_none, List.append_nil, nI_leI, nI_ltI, nI_eq, nI_add, pk_sub, Nat.add_sub_cancel, vp_in_nI, nI_clamp, true_implies, false_implies, implies_true, not_true_eq_false, not_false_eq_true, Nat.not_lt, Nat.not_le, if_true, if_false, eq_self, true_and, and_true, true_or, or_true, false_or, or_false, Nat.zero_add, Nat.add_zero, ↓reduceIte, Nat.reduceAdd, Nat.reduceSub, Nat.reduceLeDiff, Nat.reduceLT, Nat.reduceBEq, Nat.reduceEqDiff, reduceCtorEq, Nat.lt_add_one, Nat.le_refl, zv_cat, Bool.or_true, Bool.or_false, Bool.true_or, Bool.false_or, zk_m1, zk_1m, zk_gt_0, zk_le_0, zk_eq_0, zk_qe_0, zk_lt_0, zk_ge_0, zk_lt_1, zk_le_1, zk_gt_1, zk_ge_1, zk_eq_1, zk_qe_1, zk_ad_1, zk_da_1, zk_sb_1, zk_mu_1, zk_um_1, l1']
        refine ⟨fun q => absurd q (by omega), fun _ => zcall_q sk ?_⟩
        rintro v s4 m4 ⟨z, rfl, rfl, ez, e0, ef, eo⟩
        have a5 := hA5 (k + 1)
        have l1s : s4 x = some (rkO x sh on B (nI L.1) (nI 0)) := (ef x (by omega) (by omega) (by omega)).trans l1
        have l4s : ∀ a, a ≠ x → (a < y ∨ y + 17 ≤ a) → s4 a = σ a := fun a a1 a2 => (ef a (by omega) (by omega) (by omega)).trans (l4 a a1 a2)
        subst ez
        by_cases c : aer (A (k + 1)) = 0
        · have nx := fun u => ih (k + 1) s4 u (by omega) l1s (e0 c) c l4s
          rw [c]
          refine zrun_okZ (ok_X15_read hX) (fun q => q == 40) 50 _ _ _ _ _ _ _ (fun Z hZ => ?_)
          simp (disch := omega) only [f_X15_read_0 hZ, f_X15_read_1 hZ, f_X15_read_2 hZ, f_X15_read_5 hZ, f_X15_read_6 hZ, f_X15_read_7 hZ, f_X15_read_10 hZ, f_X15_read_11 hZ, f_X15_read_12 hZ, f_X15_read_15 hZ, f_X15_read_16 hZ, f_X15_read_17 hZ, f_X15_read_20 hZ, f_X15_read_23 hZ, f_X15_read_24 hZ, f_X15_read_25 hZ, f_X15_read_28 hZ, f_X15_read_29 hZ, f_X15_read_32 hZ, f_X15_read_33 hZ, f_X15_read_36 hZ, f_X15_read_37 hZ, f_X15_read_38 hZ, f_X15_read_39 hZ, f_X15_read_40 hZ, f_X15_read_41 hZ, f_X15_read_42 hZ, f_X15_read_45 hZ, f_X15_read_48 hZ, f_X15_read_49 hZ, f_X15_read_50 hZ, f_X15_read_51 hZ, f_X15_read_54 hZ, f_X15_read_55 hZ, f_X15_read_56 hZ, f_X15_read_59 hZ, f_X15_read_62 hZ, f_X15_read_63 hZ, f_X15_read_64 hZ, f_X15_read_67 hZ, f_X15_read_68 hZ, f_X15_read_69 hZ, f_X15_read_72 hZ, f_X15_read_73 hZ, f_X15_read_74 hZ, f_X15_read_77 hZ, f_X15_read_80 hZ, f_X15_read_81 hZ, s_aload, s_callV, s_const, s_putf, s_if_ne, s_getf, s_iaload, s_ireturn, s_istore, s_iload, s_icmp_ge, s_goto, s_iinc, zobj, zk1, ZRt, zp, zp0, Option.some.injEq, Value.int.injEq, Value.long.injEq, Value.ref.injEq, and_self, cond_true, cond_false, zget, zkd, zc_lt, zc_le, zc_0, zc_m, zc_m0, zc_10, zk0_n, zk0_i, zk0_r, zk0_0, zk0_l, zk0_d, zs1_0, zs1_1, zs1_s, zs2_0, zs2_1, zs2_s, zcs, List.getElem?_cons_zero, List.getElem?_cons_succ, List.set_cons_zero, List.set_cons_succ, List.drop_zero, List.drop_succ_cons, List.take_zero, List.take_succ_cons, List.reverse_cons, List.reverse_nil, List.nil_append, List.cons_append, List.length_cons, List.length_nil, List.map_cons, List.map_nil, List.sum_cons, List.sum_nil, Value.category, Option.toList_some, Option.toList_none, List.append_nil, nI_leI, nI_ltI, nI_eq, nI_add, pk_sub, Nat.add_sub_cancel, vp_in_nI, nI_clamp, true_implies, false_implies, implies_true, not_true_eq_false, not_false_eq_true, Nat.not_lt, Nat.not_le, if_true, if_false, eq_self, true_and, and_true, true_or, or_true, false_or, or_false, Nat.zero_add, Nat.add_zero, ↓reduceIte, Nat.reduceAdd, Nat.reduceSub, Nat.reduceLeDiff, Nat.reduceLT, Nat.reduceBEq, Nat.reduceEqDiff, reduceCtorEq, Nat.lt_add_one, Nat.le_refl, zv_cat, Bool.or_true, Bool.or_false, Bool.true_or, Bool.false_or, zk_m1, zk_1m, zk_gt_0, zk_le_0, zk_eq_0, zk_qe_0, zk_lt_0, zk_ge_0, zk_lt_1, zk_le_1, zk_gt_1, zk_ge_1, zk_eq_1, zk_qe_1, zk_ad_1, zk_da_1, zk_sb_1, zk_mu_1, zk_um_1]
          exact nx _
        · obtain ⟨y1, y2⟩ := hA k (by omega) l3 c
          rw [y2] at hrE
          rw [y1] at hrP
          obtain ⟨a1, a2, a3, a4, a5, oy⟩ := eo c
          obtain ⟨vs, ff', fm', f1', f2', f3', f4', f5', f6'⟩ := hF
          have w2 : s4 (y + 2) = some (.inl (zeA E 0, (401, .inl ff'))) := (ef (y + 2) (by omega) (by omega) (by omega)).trans f4'
          have w3 := (f6' k (by omega)).1
          rw [← hrP] at w3
          have l1s' := l1s
          unfold rkO at l1s'
          unfold shO at oy
          have fin : (∃ t d, zup s4 x (rkO x sh on (upd B 2 (nI rP)) (nI L.1) (nI 0)) x = some (rkO x sh on (upd B 2 (nI rP)) t d)) ∧ ∀ a, a ≠ x → (a < y ∨ y + 17 ≤ a) → zup s4 x (rkO x sh on (upd B 2 (nI rP)) (nI L.1) (nI 0)) a = σ a := ⟨⟨_, _, zup_s _ _ _⟩, fun a a1 a2 => (zup_n a1).trans (l4s a a1 a2)⟩
          rw [upd_rk] at fin
          rw [← hrE] at c ⊢
          refine zrun_okZ (ok_X15_read hX) (fun q => q == 40) 50 _ _ _ _ _ _ _ (fun Z hZ => ?_)
          simp (disch := omega) only [f_X15_read_0 hZ, f_X15_read_1 hZ, f_X15_read_2 hZ, f_X15_read_5 hZ, f_X15_read_6 hZ, f_X15_read_7 hZ, f_X15_read_10 hZ, f_X15_read_11 hZ, f_X15_read_12 hZ, f_X15_read_15 hZ, f_X15_read_16 hZ, f_X15_read_17 hZ, f_X15_read_20 hZ, f_X15_read_23 hZ, f_X15_read_24 hZ, f_X15_read_25 hZ, f_X15_read_28 hZ, f_X15_read_29 hZ, f_X15_read_32 hZ, f_X15_read_33 hZ, f_X15_read_36 hZ, f_X15_read_37 hZ, f_X15_read_38 hZ, f_X15_read_39 hZ, f_X15_read_40 hZ, f_X15_read_41 hZ, f_X15_read_42 hZ, f_X15_read_45 hZ, f_X15_read_48 hZ, f_X15_read_49 hZ, f_X15_read_50 hZ, f_X15_read_51 hZ, f_X15_read_54 hZ, f_X15_read_55 hZ, f_X15_read_56 hZ, f_X15_read_59 hZ, f_X15_read_62 hZ, f_X15_read_63 hZ, f_X15_read_64 hZ, f_X15_read_67 hZ, f_X15_read_68 hZ, f_X15_read_69 hZ, f_X15_read_72 hZ, f_X15_read_73 hZ, f_X15_read_74 hZ, f_X15_read_77 hZ, f_X15_read_80 hZ, f_X15_read_81 hZ, s_aload, s_callV, s_const, s_putf, s_if_ne, s_getf, s_iaload, s_ireturn, s_istore, s_iload, s_icmp_ge, s_goto, s_iinc, zobj, zk1, ZRt, zp, zp0, Option.some.injEq, Value.int.injEq, Value.long.injEq, Value.ref.injEq, and_self, cond_true, cond_false, zget, zkd, zc_lt, zc_le, zc_0, zc_m, zc_m0, zc_10, zk0_n, zk0_i, zk0_r, zk0_0, zk0_l, zk0_d, zs1_0, zs1_1, zs1_s, zs2_0, zs2_1, zs2_s, zcs, List.getElem?_cons_zero, List.getElem?_cons_succ, List.set_cons_zero, List.set_cons_succ, List.drop_zero, List.drop_succ_cons, List.take_zero, List.take_succ_cons, List.reverse_cons, List.reverse_nil, List.nil_append, List.cons_append, List.length_cons, List.length_nil, List.map_cons, List.map_nil, List.sum_cons, List.sum_nil, Value.category, Option.toList_some, Option.toList_none, List.append_nil, nI_leI, nI_ltI, nI_eq, nI_add, pk_sub, Nat.add_sub_cancel, vp_in_nI, nI_clamp, true_implies, false_implies, implies_true, not_true_eq_false, not_false_eq_true, Nat.not_lt, Nat.not_le, if_true, if_false, eq_self, true_and, and_true, true_or, or_true, false_or, or_false, Nat.zero_add, Nat.add_zero, ↓reduceIte, Nat.reduceAdd, Nat.reduceSub, Nat.reduceLeDiff, Nat.reduceLT, Nat.reduceBEq, Nat.reduceEqDiff, reduceCtorEq, Nat.lt_add_one, Nat.le_refl, zv_cat, Bool.or_true, Bool.or_false, Bool.true_or, Bool.false_or, zk_m1, zk_1m, zk_gt_0, zk_le_0, zk_eq_0, zk_qe_0, zk_lt_0, zk_ge_0, zk_lt_1, zk_le_1, zk_gt_1, zk_ge_1, zk_eq_1, zk_qe_1, zk_ad_1, zk_da_1, zk_sb_1, zk_mu_1, zk_um_1, l1s', oy, w2, w3, c]
          exact fin
    have h00 : SHa E s3 y tb tl M zeroA 0 := SHa_0 qy ((f3 _ (by omega) (by omega)).trans ((p2 _ (by omega)).trans c1)) q2' ((f3 _ (by omega) (by omega)).trans ((p2 _ (by omega)).trans c3)) ((f3 _ (by omega) (by omega)).trans ((p2 _ (by omega)).trans ((f1 _ (by omega)).trans (hB 4 (by omega) (by omega))))) i3 (fun j e j2 => (qg j e j2).trans (hB j (by omega) j2)) c4 c5 (fun i hi => by
          rw [e3 i hi]
          by_cases c : i ∈ L.2.2
          · rw [if_pos c, if_pos ((hM i).mpr c)]
          · rw [if_neg c, if_neg (fun q => c ((hM i).mp q))])
    have st := fun u => loop L.1 0 s3 u (by omega) q0 (by rw [hA0]; exact h00) (by rw [hA0]; rfl) qf
    refine zrun_okZ (ok_X15_read hX) (fun q => q == 40) 50 _ _ _ _ _ _ _ (fun Z hZ => ?_)
    simp (disch := omega) only [f_X15_read_0 hZ, f_X15_read_1 hZ, f_X15_read_2 hZ, f_X15_read_5 hZ, f_X15_read_6 hZ, f_X15_read_7 hZ, f_X15_read_10 hZ, f_X15_read_11 hZ, f_X15_read_12 hZ, f_X15_read_15 hZ, f_X15_read_16 hZ, f_X15_read_17 hZ, f_X15_read_20 hZ, f_X15_read_23 hZ, f_X15_read_24 hZ, f_X15_read_25 hZ, f_X15_read_28 hZ, f_X15_read_29 hZ, f_X15_read_32 hZ, f_X15_read_33 hZ, f_X15_read_36 hZ, f_X15_read_37 hZ, f_X15_read_38 hZ, f_X15_read_39 hZ, f_X15_read_40 hZ, f_X15_read_41 hZ, f_X15_read_42 hZ, f_X15_read_45 hZ, f_X15_read_48 hZ, f_X15_read_49 hZ, f_X15_read_50 hZ, f_X15_read_51 hZ, f_X15_read_54 hZ, f_X15_read_55 hZ, f_X15_read_56 hZ, f_X15_read_59 hZ, f_X15_read_62 hZ, f_X15_read_63 hZ, f_X15_read_64 hZ, f_X15_read_67 hZ, f_X15_read_68 hZ, f_X15_read_69 hZ, f_X15_read_72 hZ, f_X15_read_73 hZ, f_X15_read_74 hZ, f_X15_read_77 hZ, f_X15_read_80 hZ, f_X15_read_81 hZ, s_aload, s_callV, s_const, s_putf, s_if_ne, s_getf, s_iaload, s_ireturn, s_istore, s_iload, s_icmp_ge, s_goto, s_iinc, zobj, zk1, ZRt, zp, zp0, Option.some.injEq, Value.int.injEq, Value.long.injEq, Value.ref.injEq, and_self, cond_true, cond_false, zget, zkd, zc_lt, zc_le, zc_0, zc_m, zc_m0, zc_10, zk0_n, zk0_i, zk0_r, zk0_0, zk0_l, zk0_d, zs1_0, zs1_1, zs1_s, zs2_0, zs2_1, zs2_s, zcs, List.getElem?_cons_zero, List.getElem?_cons_succ, List.set_cons_zero, List.set_cons_succ, List.drop_zero, List.drop_succ_cons, List.take_zero, List.take_succ_cons, List.reverse_cons, List.reverse_nil, List.nil_append, List.cons_append, List.length_cons, List.length_nil, List.map_cons, List.map_nil, List.sum_cons, List.sum_nil, Value.category, Option.toList_some, Option.toList_none, List.append_nil, nI_leI, nI_ltI, nI_eq, nI_add, pk_sub, Nat.add_sub_cancel, vp_in_nI, nI_clamp, true_implies, false_implies, implies_true, not_true_eq_false, not_false_eq_true, Nat.not_lt, Nat.not_le, if_true, if_false, eq_self, true_and, and_true, true_or, or_true, false_or, or_false, Nat.zero_add, Nat.add_zero, ↓reduceIte, Nat.reduceAdd, Nat.reduceSub, Nat.reduceLeDiff, Nat.reduceLT, Nat.reduceBEq, Nat.reduceEqDiff, reduceCtorEq, Nat.lt_add_one, Nat.le_refl, zv_cat, Bool.or_true, Bool.or_false, Bool.true_or, Bool.false_or, zk_m1, zk_1m, zk_gt_0, zk_le_0, zk_eq_0, zk_qe_0, zk_lt_0, zk_ge_0, zk_lt_1, zk_le_1, zk_gt_1, zk_ge_1, zk_eq_1, zk_qe_1, zk_ad_1, zk_da_1, zk_sb_1, zk_mu_1, zk_um_1]
    exact st _
end
