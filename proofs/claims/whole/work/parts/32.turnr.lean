/-! THE REFERENCE: drawing, deeds -/
theorem sumT_up {f : TM → Int32} {tr : Nat → TM} {m : Nat} {A B : TM} (h : f A = f B) : ∀ q, sumT f (updT tr m A) q = sumT f (updT tr m B) q
  | 0 => rfl
  | q + 1 => by
    show sumT f (updT tr m A) q + f (updT tr m A q) = sumT f (updT tr m B) q + f (updT tr m B q)
    rw [sumT_up h q]
    unfold updT
    split
    · rw [h]
    · rfl
theorem sumT_in {f : TM → Int32} {tr : Nat → TM} {m : Nat} {A B : TM} (h : f A = f B + 1) : ∀ q, (m < q → sumT f (updT tr m A) q = sumT f (updT tr m B) q + 1) ∧ (¬ m < q → sumT f (updT tr m A) q = sumT f (updT tr m B) q)
  | 0 => ⟨fun h => absurd h (Nat.not_lt_zero _), fun _ => rfl⟩
  | q + 1 => by
    have ih := sumT_in (tr := tr) (m := m) h q
    refine ⟨fun hm => ?_, fun hm => ?_⟩
    · show sumT f (updT tr m A) q + f (updT tr m A q) = sumT f (updT tr m B) q + f (updT tr m B q) + 1
      by_cases e : q = m
      · subst e
        rw [ih.2 (by omega), updT_s, updT_s, h]
        exact (Int32.add_assoc ..).symm
      · rw [ih.1 (by omega), show updT tr m A q = updT tr m B q by unfold updT; rw [if_neg e, if_neg e]]
        rw [Int32.add_assoc, Int32.add_comm 1, ← Int32.add_assoc]
    · show sumT f (updT tr m A) q + f (updT tr m A q) = sumT f (updT tr m B) q + f (updT tr m B q)
      rw [ih.2 (by omega), show updT tr m A q = updT tr m B q by unfold updT; rw [if_neg (by omega), if_neg (by omega)]]
def rfr (x so : Nat) (σ σ' : ZHp) : Prop := ∀ a, (a ≠ x ∧ (a < so ∨ so + 13 ≤ a) ∧ a ≠ x + 45 ∧ a ≠ x + 46) → σ' a = σ a
theorem rfr.rf {x so : Nat} {σ : ZHp} : rfr x so σ σ := fun _ _ => rfl
theorem rfr.tr {x so : Nat} {σ σ1 σ2 : ZHp} (h1 : rfr x so σ σ1) (h2 : rfr x so σ1 σ2) : rfr x so σ σ2 := fun a ha => (h2 a ha).trans (h1 a ha)
theorem rfr.up {x so a : Nat} {e : va_E} {σ σ' : ZHp} (h : rfr x so σ σ') (d : a = x ∨ a = x + 45 ∨ a = x + 46 := by omega) : rfr x so σ (zup σ' a e) := fun b hb => by rw [zup_n (by omega)]; exact h b hb
theorem rfr.z {x so : Nat} {σ σ' : ZHp} (h : zfr so 13 σ σ') : rfr x so σ σ' := fun a ha => h a (by omega)
theorem rfr.x {x so : Nat} {σ σ' : ZHp} (h : zfr x 1 σ σ') : rfr x so σ σ' := fun a ha => h a (by omega)
theorem rfr.sh {E : ZEX} {σ σ' : ZHp} {x sh so : Nat} {K : Nat → Nat} {X : Nat → Int32} (h : rfr x so σ σ') (hl : lay x sh so) (hs : SHe E σ sh K X) : SHe E σ' sh K X := hs.q (fun a g1 g2 => h a (by unfold lay at hl; omega))
theorem drwT_tt (M : TM) : ttr (drwT M) = ttr M ∧ tbo (drwT M) = tbo M := by
  unfold drwT rdyT mixT
  repeat' (first | exact ⟨rfl, rfl⟩ | split)
section
variable {E : ZEX} {σ σ' : ZHp} {n x sh so nm m : Nat} {Q : Nat → Int32} {rd : Int32} {tr : Nat → TM} {K : Nat → Nat} {XO : Nat → Int32} {wk pl : Int32} {S : GS}
theorem sp_Mo_held (hE : ZEOK E) {a b c : Int32} (hc : ¬ c.toInt64 < 0) : ZSpec E MX15_held 2 0 0 [.int a, .int b, .int c] σ n (zp (.int (heldL (a.toInt64 + b.toInt64) c)) σ n) := by
  refine ZSpec_of hE (by decide +kernel) (Nat.le_of_ble_eq_true rfl) [some (.int a), some (.int b), some (.int c)] rfl (fun X hX => ?_)
  refine zrun_okZ (ok_X15_held hX) (fun _ => false) 14 _ _ _ _ _ _ _ (fun Z hZ => ?_)
  simp (disch := omega) only [f_X15_held_0 hZ, f_X15_held_1 hZ, f_X15_held_2 hZ, f_X15_held_3 hZ, f_X15_held_4 hZ, f_X15_held_5 hZ, f_X15_held_6 hZ, f_X15_held_7 hZ, f_X15_held_8 hZ, f_X15_held_11 hZ, f_X15_held_14 hZ, f_X15_held_15 hZ, s_const, s_iload, s_i2l, s_ladd, s_mminL, s_mmaxL, s_l2i, s_ireturn, zk1, ZRt, zp, zp0, Option.some.injEq, Value.int.injEq, Value.long.injEq, Value.ref.injEq, and_self, cond_true, cond_false, zget, zkd, zc_lt, zc_le, zc_0, zc_m, zc_m0, zc_10, zk0_n, zk0_i, zk0_r, zk0_0, zk0_l, zk0_d, zs1_0, zs1_1, zs1_s, zs2_0, zs2_1, zs2_s, zcs, List.getElem?_cons_zero, List.getElem?_cons_succ, List.set_cons_zero, List.set_cons_succ, List.drop_zero, List.drop_succ_cons, List.take_zero, List.take_succ_cons, List.reverse_cons, List.reverse_nil, List.nil_append, List.cons_append, List.length_cons, List.length_nil, List.map_cons, List.map_nil, List.sum_cons, List.sum_nil, Value.category, Option.toList_some, Option.toList_none, List.append_nil, nI_leI, nI_ltI, nI_eq, nI_add, pk_sub, Nat.add_sub_cancel, vp_in_nI, nI_clamp, true_implies, false_implies, implies_true, not_true_eq_false, not_false_eq_true, Nat.not_lt, Nat.not_le, if_true, if_false, eq_self, true_and, and_true, true_or, or_true, false_or, or_false, Nat.zero_add, Nat.add_zero, ↓reduceIte, Nat.reduceAdd, Nat.reduceSub, Nat.reduceLeDiff, Nat.reduceLT, Nat.reduceBEq, Nat.reduceEqDiff, reduceCtorEq, Nat.lt_add_one, Nat.le_refl, zv_cat, Bool.or_true, Bool.or_false, Bool.true_or, Bool.false_or, zk_m1, zk_1m, zk_gt_0, zk_le_0, zk_eq_0, zk_qe_0, zk_lt_0, zk_ge_0]
  unfold heldL
  generalize a.toInt64 + b.toInt64 = z
  by_cases h1 : z < c.toInt64
  · have h3 : ¬ c.toInt64 < z := by
      simp only [Int64.lt_iff_toInt_lt] at h1 ⊢
      omega
    simp only [if_pos h1, if_neg h3]
    by_cases h2 : z < 0
    · simp only [if_pos h2]
      decide
    · simp only [if_neg h2]
  · simp only [if_neg h1, if_neg hc]
    have h2 : ¬ z < 0 := by
      simp only [Int64.lt_iff_toInt_lt] at h1 hc ⊢
      omega
    rw [if_neg h2, Int32.toInt32_toInt64]
    by_cases h3 : c.toInt64 < z
    · rw [if_pos h3]
    · rw [if_neg h3]
      have h4 : z = c.toInt64 := by
        apply Int64.toInt_inj.mp
        simp only [Int64.lt_iff_toInt_lt] at h1 h3
        omega
      rw [h4, Int32.toInt32_toInt64]
theorem sp_Mo_drawOne (hE : ZEOK E) {nc : Nat} (h : RTs E σ x sh so nm m Q rd tr K XO wk pl S) (hl : lay x sh so) (hm : m < nm) (hn : nm ≤ 4) (hk : okS nc S) (hnc : nc ≤ 10) : ZSpec E MX15_drawOne 4 0 0 [.ref x] σ n (fun v σ' n' => v = none ∧ n' = n ∧ RTs E σ' x sh so nm m Q rd tr K XO wk pl (setH S (draw1 (gTH S))) ∧ rfr x so σ σ') := by
  have hA : tdl (gtr S) + tal (gtr S) + ghl S ≤ 60 := hk.1.2.2
  have hok : okT nc (rdyT (gtr S)) := rdyT_ok hk.1.1
  have hall : tdl (rdyT (gtr S)) + tal (rdyT (gtr S)) = tdl (gtr S) + tal (gtr S) := rdyT_all (gtr S)
  have hl' := hl
  unfold lay at hl
  obtain ⟨h0, h1, ⟨fh, h2, h3, h3'⟩, ⟨ft, h4, h5⟩, h6⟩ := h
  have o0 : ∃ y, σ so = some (.inr (13, y)) := by
    obtain ⟨fpi, fpl, fbo, fdk, fdl, faw, fal, fsd, ftr, fbu, fla, fsh, o0, a1, a2, a3, a4, a5, a6, a7, a8, a9, a10, a11, a12, oc, om⟩ := id h1
    exact ⟨_, o0⟩
  obtain ⟨y, o0⟩ := o0
  unfold moO at h0
  refine ZSpec_of hE (by decide +kernel) (Nat.le_of_ble_eq_true rfl) [some (.ref x), none] rfl (fun X hX => ?_)
  refine zrun_okZ (ok_X15_drawOne hX) (fun _ => false) 25 _ _ _ _ _ _ _ (fun Z hZ => ?_)
  simp (disch := omega) only [f_X15_drawOne_0 hZ, f_X15_drawOne_1 hZ, f_X15_drawOne_4 hZ, f_X15_drawOne_5 hZ, f_X15_drawOne_8 hZ, f_X15_drawOne_11 hZ, f_X15_drawOne_12 hZ, f_X15_drawOne_13 hZ, f_X15_drawOne_14 hZ, f_X15_drawOne_17 hZ, f_X15_drawOne_18 hZ, f_X15_drawOne_19 hZ, f_X15_drawOne_22 hZ, f_X15_drawOne_23 hZ, f_X15_drawOne_26 hZ, f_X15_drawOne_27 hZ, f_X15_drawOne_28 hZ, f_X15_drawOne_29 hZ, f_X15_drawOne_30 hZ, f_X15_drawOne_33 hZ, f_X15_drawOne_34 hZ, f_X15_drawOne_35 hZ, f_X15_drawOne_38 hZ, s_aload, s_getf, s_callV, s_istore, s_iload, s_const, s_icmp_ne, s_return, s_iastore, s_dup, s_iadd, s_putf, zobj, zk1, ZRt, zp, zp0, Option.some.injEq, Value.int.injEq, Value.long.injEq, Value.ref.injEq, and_self, cond_true, cond_false, zget, zkd, zc_lt, zc_le, zc_0, zc_m, zc_m0, zc_10, zk0_n, zk0_i, zk0_r, zk0_0, zk0_l, zk0_d, zs1_0, zs1_1, zs1_s, zs2_0, zs2_1, zs2_s, zcs, List.getElem?_cons_zero, List.getElem?_cons_succ, List.set_cons_zero, List.set_cons_succ, List.drop_zero, List.drop_succ_cons, List.take_zero, List.take_succ_cons, List.reverse_cons, List.reverse_nil, List.nil_append, List.cons_append, List.length_cons, List.length_nil, List.map_cons, List.map_nil, List.sum_cons, List.sum_nil, Value.category, Option.toList_some, Option.toList_none, List.append_nil, nI_leI, nI_ltI, nI_eq, nI_add, pk_sub, Nat.add_sub_cancel, vp_in_nI, nI_clamp, true_implies, false_implies, implies_true, not_true_eq_false, not_false_eq_true, Nat.not_lt, Nat.not_le, if_true, if_false, eq_self, true_and, and_true, true_or, or_true, false_or, or_false, Nat.zero_add, Nat.add_zero, ↓reduceIte, Nat.reduceAdd, Nat.reduceSub, Nat.reduceLeDiff, Nat.reduceLT, Nat.reduceBEq, Nat.reduceEqDiff, reduceCtorEq, Nat.lt_add_one, Nat.le_refl, zv_cat, Bool.or_true, Bool.or_false, Bool.true_or, Bool.false_or, zk_m1, zk_1m, zk_lt_1, zk_le_1, zk_gt_1, zk_ge_1, zk_eq_1, zk_qe_1, zk_ad_1, zk_da_1, zk_sb_1, zk_mu_1, zk_um_1, zk_gt_0, zk_le_0, zk_eq_0, zk_qe_0, zk_lt_0, zk_ge_0, h0, o0]
  have eT : wtr (gW rd tr m S) m = gtr S := updT_s
  refine zcall_q (sp_St_draw hE h1 hm hn (by rw [eT]; omega)) ?_
  rw [eT]
  rintro v σ1 n1 ⟨rfl, rfl, hS, hf⟩
  have b0 := (hf x (by omega)).trans h0
  have b2 : iar E σ1 (x + 45) 60 fh := (hf (x + 45) (by omega)).trans h2
  have b4 : iar E σ1 (x + 46) 10 ft := (hf (x + 46) (by omega)).trans h4
  have hS2 : SRs E σ1 so nm (sumT ttr (updT tr m (drwT (gtr S))) nm) (sumT tbo (updT tr m (drwT (gtr S))) nm) (rd, gpi S, gpa S, gbo S, updT tr m (drwT (gtr S))) := by
    rw [sumT_up (drwT_tt (gtr S)).1, sumT_up (drwT_tt (gtr S)).2]
    have e : updT (wtr (gW rd tr m S)) m (drwT (gtr S)) = updT tr m (drwT (gtr S)) := updT2
    rw [e] at hS
    exact hS
  by_cases h00 : tdl (rdyT (gtr S)) = 0
  · have e1 : drwV (gtr S) = -1 := if_pos h00
    have e2 : drwT (gtr S) = rdyT (gtr S) := if_pos h00
    have e3 : draw1 (gTH S) = (rdyT (gtr S), ghl S, ghd S) := if_pos h00
    rw [e1]
    rw [e2] at hS2
    refine zrun_okZ (ok_X15_drawOne hX) (fun _ => false) 25 _ _ _ _ _ _ _ (fun Z hZ => ?_)
    simp (disch := omega) only [f_X15_drawOne_0 hZ, f_X15_drawOne_1 hZ, f_X15_drawOne_4 hZ, f_X15_drawOne_5 hZ, f_X15_drawOne_8 hZ, f_X15_drawOne_11 hZ, f_X15_drawOne_12 hZ, f_X15_drawOne_13 hZ, f_X15_drawOne_14 hZ, f_X15_drawOne_17 hZ, f_X15_drawOne_18 hZ, f_X15_drawOne_19 hZ, f_X15_drawOne_22 hZ, f_X15_drawOne_23 hZ, f_X15_drawOne_26 hZ, f_X15_drawOne_27 hZ, f_X15_drawOne_28 hZ, f_X15_drawOne_29 hZ, f_X15_drawOne_30 hZ, f_X15_drawOne_33 hZ, f_X15_drawOne_34 hZ, f_X15_drawOne_35 hZ, f_X15_drawOne_38 hZ, s_aload, s_getf, s_callV, s_istore, s_iload, s_const, s_icmp_ne, s_return, s_iastore, s_dup, s_iadd, s_putf, zobj, zk1, ZRt, zp, zp0, Option.some.injEq, Value.int.injEq, Value.long.injEq, Value.ref.injEq, and_self, cond_true, cond_false, zget, zkd, zc_lt, zc_le, zc_0, zc_m, zc_m0, zc_10, zk0_n, zk0_i, zk0_r, zk0_0, zk0_l, zk0_d, zs1_0, zs1_1, zs1_s, zs2_0, zs2_1, zs2_s, zcs, List.getElem?_cons_zero, List.getElem?_cons_succ, List.set_cons_zero, List.set_cons_succ, List.drop_zero, List.drop_succ_cons, List.take_zero, List.take_succ_cons, List.reverse_cons, List.reverse_nil, List.nil_append, List.cons_append, List.length_cons, List.length_nil, List.map_cons, List.map_nil, List.sum_cons, List.sum_nil, Value.category, Option.toList_some, Option.toList_none, List.append_nil, nI_leI, nI_ltI, nI_eq, nI_add, pk_sub, Nat.add_sub_cancel, vp_in_nI, nI_clamp, true_implies, false_implies, implies_true, not_true_eq_false, not_false_eq_true, Nat.not_lt, Nat.not_le, if_true, if_false, eq_self, true_and, and_true, true_or, or_true, false_or, or_false, Nat.zero_add, Nat.add_zero, ↓reduceIte, Nat.reduceAdd, Nat.reduceSub, Nat.reduceLeDiff, Nat.reduceLT, Nat.reduceBEq, Nat.reduceEqDiff, reduceCtorEq, Nat.lt_add_one, Nat.le_refl, zv_cat, Bool.or_true, Bool.or_false, Bool.true_or, Bool.false_or, zk_m1, zk_1m, zk_lt_1, zk_le_1, zk_gt_1, zk_ge_1, zk_eq_1, zk_qe_1, zk_ad_1, zk_da_1, zk_sb_1, zk_mu_1, zk_um_1, zk_gt_0, zk_le_0, zk_eq_0, zk_qe_0, zk_lt_0, zk_ge_0, b0]
    rw [e3]
    exact ⟨⟨b0, hS2, ⟨fh, b2, h3, h3'⟩, ⟨ft, b4, h5⟩, (rfr.z (x := x) hf).sh hl' h6⟩, rfr.z hf⟩
  · have e1 : drwV (gtr S) = tdk (rdyT (gtr S)) 0 := if_neg h00
    have e2 : drwT (gtr S) = topT (rdyT (gtr S)) := if_neg h00
    have e3 : draw1 (gTH S) = (topT (rdyT (gtr S)), ghl S + 1, upd (ghd S) (ghl S) (tdk (rdyT (gtr S)) 0)) := if_neg h00
    obtain ⟨c, hc, ec⟩ := hok.1 0 (by omega)
    rw [e1, ec]
    rw [e2] at hS2
    unfold iar at b2
    refine zrun_okZ (ok_X15_drawOne hX) (fun _ => false) 25 _ _ _ _ _ _ _ (fun Z hZ => ?_)
    simp (disch := omega) only [f_X15_drawOne_0 hZ, f_X15_drawOne_1 hZ, f_X15_drawOne_4 hZ, f_X15_drawOne_5 hZ, f_X15_drawOne_8 hZ, f_X15_drawOne_11 hZ, f_X15_drawOne_12 hZ, f_X15_drawOne_13 hZ, f_X15_drawOne_14 hZ, f_X15_drawOne_17 hZ, f_X15_drawOne_18 hZ, f_X15_drawOne_19 hZ, f_X15_drawOne_22 hZ, f_X15_drawOne_23 hZ, f_X15_drawOne_26 hZ, f_X15_drawOne_27 hZ, f_X15_drawOne_28 hZ, f_X15_drawOne_29 hZ, f_X15_drawOne_30 hZ, f_X15_drawOne_33 hZ, f_X15_drawOne_34 hZ, f_X15_drawOne_35 hZ, f_X15_drawOne_38 hZ, s_aload, s_getf, s_callV, s_istore, s_iload, s_const, s_icmp_ne, s_return, s_iastore, s_dup, s_iadd, s_putf, zobj, zk1, ZRt, zp, zp0, Option.some.injEq, Value.int.injEq, Value.long.injEq, Value.ref.injEq, and_self, cond_true, cond_false, zget, zkd, zc_lt, zc_le, zc_0, zc_m, zc_m0, zc_10, zk0_n, zk0_i, zk0_r, zk0_0, zk0_l, zk0_d, zs1_0, zs1_1, zs1_s, zs2_0, zs2_1, zs2_s, zcs, List.getElem?_cons_zero, List.getElem?_cons_succ, List.set_cons_zero, List.set_cons_succ, List.drop_zero, List.drop_succ_cons, List.take_zero, List.take_succ_cons, List.reverse_cons, List.reverse_nil, List.nil_append, List.cons_append, List.length_cons, List.length_nil, List.map_cons, List.map_nil, List.sum_cons, List.sum_nil, Value.category, Option.toList_some, Option.toList_none, List.append_nil, nI_leI, nI_ltI, nI_eq, nI_add, pk_sub, Nat.add_sub_cancel, vp_in_nI, nI_clamp, true_implies, false_implies, implies_true, not_true_eq_false, not_false_eq_true, Nat.not_lt, Nat.not_le, if_true, if_false, eq_self, true_and, and_true, true_or, or_true, false_or, or_false, Nat.zero_add, Nat.add_zero, ↓reduceIte, Nat.reduceAdd, Nat.reduceSub, Nat.reduceLeDiff, Nat.reduceLT, Nat.reduceBEq, Nat.reduceEqDiff, reduceCtorEq, Nat.lt_add_one, Nat.le_refl, zv_cat, Bool.or_true, Bool.or_false, Bool.true_or, Bool.false_or, zk_m1, zk_1m, zk_lt_1, zk_le_1, zk_gt_1, zk_ge_1, zk_eq_1, zk_qe_1, zk_ad_1, zk_da_1, zk_sb_1, zk_mu_1, zk_um_1, zk_gt_0, zk_le_0, zk_eq_0, zk_qe_0, zk_lt_0, zk_ge_0, b0, b2, zup_s, zup_n]
    rw [e3, ec]
    have hfr : rfr x so σ (zup (zup σ1 (x + 45) (.inl (zeA E 0, (60, .inl (upd fh (ghl S) (nI c)))))) x (moO x sh so m Q wk pl (setH S (topT (rdyT (gtr S)), ghl S + 1, upd (ghd S) (ghl S) (nI c))))) := ((rfr.z (x := x) hf).up).up
    refine ⟨⟨zup_s _ _ _, hS2.q (lo := so) (n := 13) (fun a g1 g2 => by simp (disch := omega) only [zup_n]), ⟨upd fh (ghl S) (nI c), by simp (disch := omega) only [iar, zup_n, zup_s], by show ghl S + 1 ≤ 60; omega, fun i hi => ?_⟩, ⟨ft, by unfold iar at b4 ⊢; simp (disch := omega) only [zup_n, b4], h5⟩, hfr.sh hl' h6⟩, hfr⟩
    have hi2 : i < ghl S + 1 := hi
    show _ = upd (ghd S) (ghl S) (nI c) i
    unfold upd
    split
    · rfl
    · exact h3' i (by omega)
end
