/-! THE TAPE grows and is cut -/
def byt (a : Int32) (s : Nat) : Nat := (a.toBitVec.extractLsb' s 8).toNat
theorem byt_lt (a : Int32) (s : Nat) : byt a s < 256 := (a.toBitVec.extractLsb' s 8).isLt
theorem i8_n {v : Nat} : ((nI v).toInt8.toInt32).toInt8 = (nI v).toInt8 := by simp
theorem byt_e {a w : Int32} {s : Nat} (hw : (w.toBitVec.smod 32).toNat = s) (hs : s ≤ 24) : (a >>> w).toInt8 = (nI (byt a s)).toInt8 := by
  apply Int8.toBitVec_inj.mp
  have h1 : (a >>> w).toInt8.toBitVec = (a.toBitVec.sshiftRight s).setWidth 8 := by
    rw [Int32.toBitVec_toInt8, Int32.toBitVec_shiftRight, BitVec.sshiftRight', hw, BitVec.signExtend_eq_setWidth_of_le _ (by omega)]
  have h2 : (nI (byt a s)).toInt8.toBitVec = (BitVec.ofNat 32 (byt a s)).setWidth 8 := by
    rw [Int32.toBitVec_toInt8, BitVec.signExtend_eq_setWidth_of_le _ (by omega)]
    rfl
  rw [h1, h2]
  have h3 : (BitVec.ofNat 32 (byt a s)).setWidth 8 = a.toBitVec.extractLsb' s 8 := by
    apply BitVec.eq_of_toNat_eq
    have := byt_lt a s
    rw [BitVec.toNat_setWidth, BitVec.toNat_ofNat, Nat.mod_eq_of_lt (a := byt a s) (by omega), Nat.mod_eq_of_lt (by omega)]
    rfl
  rw [h3]
  ext i hi
  rw [BitVec.getElem_setWidth, BitVec.getElem_extractLsb', BitVec.getLsbD_sshiftRight]
  have : ¬ 32 ≤ i := by omega
  have h4 : s + i < 32 := by omega
  simp [this, h4]
def tpw (tb : Nat → Nat) (tl v : Nat) : Nat → Nat := fun i => if i = tl then v else tb i
def tp4 (tb : Nat → Nat) (tl : Nat) (a : Int32) : Nat → Nat := tpw (tpw (tpw (tpw tb tl (byt a 24)) (tl + 1) (byt a 16)) (tl + 2) (byt a 8)) (tl + 3) (byt a 0)
section
variable {E : ZEX} {σ σ' : ZHp} {n t tl : Nat} {tb : Nat → Nat}
theorem sp_Tp_append (hE : ZEOK E) (h : TPs E σ t tb tl) (hl : tl + 4 ≤ 2000) (a : Int32) : ZSpec E MX9_append 1 0 0 [.ref t, .int a] σ n (fun v σ' n' => v = none ∧ n' = n ∧ TPs E σ' t (tp4 tb tl a) (tl + 4) ∧ zfr t 2 σ σ') := by
  refine ZSpec_of hE (by decide +kernel) (Nat.le_of_ble_eq_true rfl) [some (.ref t), some (.int a), none] rfl (fun X hX => ?_)
  have step : ∀ (H : ZHp) (sh : Int32) (tb' : Nat → Nat) (tl' v : Nat), ¬ sh < 0 → v < 256 → (a >>> (sh &&& 31)).toInt8 = (nI v).toInt8 → TPs E H t tb' tl' → tl' < 2000 → zfr t 2 σ H → (∀ H', TPs E H' t (tpw tb' tl' v) (tl' + 1) → zfr t 2 σ H' → ZG E X MX9_append 3 [some (.ref t), some (.int a), some (.int (sh + -8))] [] H' n 0 0) → ZG E X MX9_append 3 [some (.ref t), some (.int a), some (.int sh)] [] H n 0 0 := by
    intro H sh tb' tl' v hsh hv hb hT hlt hf hK
    obtain ⟨fb, g1, g2, g3, g4⟩ := hT
    refine zrun_okZ (ok_X9_append hX) (fun q => q == 3) 33 _ _ _ _ _ _ _ (fun Z hZ => ?_)
    simp (disch := omega) only [f_X9_append_0 hZ, f_X9_append_2 hZ, f_X9_append_3 hZ, f_X9_append_4 hZ, f_X9_append_7 hZ, f_X9_append_8 hZ, f_X9_append_11 hZ, f_X9_append_14 hZ, f_X9_append_15 hZ, f_X9_append_18 hZ, f_X9_append_19 hZ, f_X9_append_22 hZ, f_X9_append_23 hZ, f_X9_append_26 hZ, f_X9_append_27 hZ, f_X9_append_30 hZ, f_X9_append_31 hZ, f_X9_append_34 hZ, f_X9_append_35 hZ, f_X9_append_36 hZ, f_X9_append_37 hZ, f_X9_append_38 hZ, f_X9_append_39 hZ, f_X9_append_40 hZ, f_X9_append_41 hZ, f_X9_append_44 hZ, f_X9_append_45 hZ, f_X9_append_46 hZ, f_X9_append_49 hZ, f_X9_append_52 hZ, f_X9_append_55 hZ, s_const, s_istore, s_iload, s_if_lt, s_aload, s_getf, s_alen, s_icmp_ge, s_ishr, s_i2b, s_bastore, s_dup, s_iadd, s_putf, s_iinc, s_goto, s_return, zk1, ZRt, zp, zp0, Option.some.injEq, Value.int.injEq, Value.long.injEq, Value.ref.injEq, and_self, cond_true, cond_false, zget, zkd, zc_lt, zc_le, zc_0, zc_m, zc_m0, zc_10, zk0_n, zk0_i, zk0_r, zk0_0, zk0_l, zk0_d, zs1_0, zs1_1, zs1_s, zs2_0, zs2_1, zs2_s, zcs, List.getElem?_cons_zero, List.getElem?_cons_succ, List.set_cons_zero, List.set_cons_succ, List.drop_zero, List.drop_succ_cons, List.take_zero, List.take_succ_cons, List.reverse_cons, List.reverse_nil, List.nil_append, List.cons_append, List.length_cons, List.length_nil, List.map_cons, List.map_nil, List.sum_cons, List.sum_nil, Value.category, Option.toList_some, Option.toList_none, List.append_nil, nI_leI, nI_ltI, nI_eq, nI_add, pk_sub, Nat.add_sub_cancel, vp_in_nI, nI_clamp, true_implies, false_implies, implies_true, not_true_eq_false, not_false_eq_true, Nat.not_lt, Nat.not_le, if_true, if_false, eq_self, true_and, and_true, true_or, or_true, false_or, or_false, Nat.zero_add, Nat.add_zero, ↓reduceIte, Nat.reduceAdd, Nat.reduceSub, Nat.reduceLeDiff, Nat.reduceLT, Nat.reduceBEq, Nat.reduceEqDiff, reduceCtorEq, Nat.lt_add_one, Nat.le_refl, zv_cat, Bool.or_true, Bool.or_false, Bool.true_or, Bool.false_or, zk_m1, zk_1m, zk_lt_24, zk_le_24, zk_gt_24, zk_ge_24, zk_eq_24, zk_qe_24, zk_ad_24, zk_da_24, zk_sb_24, zk_mu_24, zk_um_24, zk_lt_1, zk_le_1, zk_gt_1, zk_ge_1, zk_eq_1, zk_qe_1, zk_ad_1, zk_da_1, zk_sb_1, zk_mu_1, zk_um_1, zk_gt_0, zk_le_0, zk_eq_0, zk_qe_0, zk_lt_0, zk_ge_0, g1, g2, zup_s, zup_n]
    refine ⟨fun q => absurd q hsh, fun _ => ⟨fun q => absurd q (by omega), fun _ => ?_⟩⟩
    refine hK _ ⟨upd fb tl' (vp_nar .byte (a >>> (sh &&& 31)).toInt8.toInt32), zup_s _ _ _, (zup_n (by omega)).trans (zup_s _ _ _), by omega, fun i hi => ?_⟩ (hf.up.up)
    unfold tpw upd
    by_cases e : i = tl'
    · rw [if_pos e, if_pos e]
      refine ⟨hv, ?_⟩
      unfold vp_nar narrow
      rw [hb]
      simp
    · rw [if_neg e, if_neg e]
      exact g4 i (by omega)
  have hl1 : tl < 2000 := by omega
  have hl2 : tl + 1 < 2000 := by omega
  have hl3 : tl + 1 + 1 < 2000 := by omega
  have hl4 : tl + 1 + 1 + 1 < 2000 := by omega
  refine zrun_okZ (ok_X9_append hX) (fun q => q == 3) 33 _ _ _ _ _ _ _ (fun Z hZ => ?_)
  simp (disch := omega) only [f_X9_append_0 hZ, f_X9_append_2 hZ, f_X9_append_3 hZ, f_X9_append_4 hZ, f_X9_append_7 hZ, f_X9_append_8 hZ, f_X9_append_11 hZ, f_X9_append_14 hZ, f_X9_append_15 hZ, f_X9_append_18 hZ, f_X9_append_19 hZ, f_X9_append_22 hZ, f_X9_append_23 hZ, f_X9_append_26 hZ, f_X9_append_27 hZ, f_X9_append_30 hZ, f_X9_append_31 hZ, f_X9_append_34 hZ, f_X9_append_35 hZ, f_X9_append_36 hZ, f_X9_append_37 hZ, f_X9_append_38 hZ, f_X9_append_39 hZ, f_X9_append_40 hZ, f_X9_append_41 hZ, f_X9_append_44 hZ, f_X9_append_45 hZ, f_X9_append_46 hZ, f_X9_append_49 hZ, f_X9_append_52 hZ, f_X9_append_55 hZ, s_const, s_istore, s_iload, s_if_lt, s_aload, s_getf, s_alen, s_icmp_ge, s_ishr, s_i2b, s_bastore, s_dup, s_iadd, s_putf, s_iinc, s_goto, s_return, zk1, ZRt, zp, zp0, Option.some.injEq, Value.int.injEq, Value.long.injEq, Value.ref.injEq, and_self, cond_true, cond_false, zget, zkd, zc_lt, zc_le, zc_0, zc_m, zc_m0, zc_10, zk0_n, zk0_i, zk0_r, zk0_0, zk0_l, zk0_d, zs1_0, zs1_1, zs1_s, zs2_0, zs2_1, zs2_s, zcs, List.getElem?_cons_zero, List.getElem?_cons_succ, List.set_cons_zero, List.set_cons_succ, List.drop_zero, List.drop_succ_cons, List.take_zero, List.take_succ_cons, List.reverse_cons, List.reverse_nil, List.nil_append, List.cons_append, List.length_cons, List.length_nil, List.map_cons, List.map_nil, List.sum_cons, List.sum_nil, Value.category, Option.toList_some, Option.toList_none, List.append_nil, nI_leI, nI_ltI, nI_eq, nI_add, pk_sub, Nat.add_sub_cancel, vp_in_nI, nI_clamp, true_implies, false_implies, implies_true, not_true_eq_false, not_false_eq_true, Nat.not_lt, Nat.not_le, if_true, if_false, eq_self, true_and, and_true, true_or, or_true, false_or, or_false, Nat.zero_add, Nat.add_zero, ↓reduceIte, Nat.reduceAdd, Nat.reduceSub, Nat.reduceLeDiff, Nat.reduceLT, Nat.reduceBEq, Nat.reduceEqDiff, reduceCtorEq, Nat.lt_add_one, Nat.le_refl, zv_cat, Bool.or_true, Bool.or_false, Bool.true_or, Bool.false_or, zk_m1, zk_1m, zk_lt_24, zk_le_24, zk_gt_24, zk_ge_24, zk_eq_24, zk_qe_24, zk_ad_24, zk_da_24, zk_sb_24, zk_mu_24, zk_um_24, zk_lt_1, zk_le_1, zk_gt_1, zk_ge_1, zk_eq_1, zk_qe_1, zk_ad_1, zk_da_1, zk_sb_1, zk_mu_1, zk_um_1, zk_gt_0, zk_le_0, zk_eq_0, zk_qe_0, zk_lt_0, zk_ge_0]
  refine step σ 24 tb tl (byt a 24) (by decide) (byt_lt _ _) (byt_e (by decide) (by omega)) h hl1 zfr.rf (fun H1 h1 f1 => ?_)
  refine step H1 16 _ (tl + 1) (byt a 16) (by decide) (byt_lt _ _) (byt_e (by decide) (by omega)) h1 hl2 f1 (fun H2 h2 f2 => ?_)
  refine step H2 8 _ (tl + 1 + 1) (byt a 8) (by decide) (byt_lt _ _) (byt_e (by decide) (by omega)) h2 hl3 f2 (fun H3 h3 f3 => ?_)
  refine step H3 0 _ (tl + 1 + 1 + 1) (byt a 0) (by decide) (byt_lt _ _) (byt_e (by decide) (by omega)) h3 hl4 f3 (fun H4 h4 f4 => ?_)
  refine zrun_okZ (ok_X9_append hX) (fun _ => false) 33 _ _ _ _ _ _ _ (fun Z hZ => ?_)
  simp (disch := omega) only [f_X9_append_0 hZ, f_X9_append_2 hZ, f_X9_append_3 hZ, f_X9_append_4 hZ, f_X9_append_7 hZ, f_X9_append_8 hZ, f_X9_append_11 hZ, f_X9_append_14 hZ, f_X9_append_15 hZ, f_X9_append_18 hZ, f_X9_append_19 hZ, f_X9_append_22 hZ, f_X9_append_23 hZ, f_X9_append_26 hZ, f_X9_append_27 hZ, f_X9_append_30 hZ, f_X9_append_31 hZ, f_X9_append_34 hZ, f_X9_append_35 hZ, f_X9_append_36 hZ, f_X9_append_37 hZ, f_X9_append_38 hZ, f_X9_append_39 hZ, f_X9_append_40 hZ, f_X9_append_41 hZ, f_X9_append_44 hZ, f_X9_append_45 hZ, f_X9_append_46 hZ, f_X9_append_49 hZ, f_X9_append_52 hZ, f_X9_append_55 hZ, s_const, s_istore, s_iload, s_if_lt, s_aload, s_getf, s_alen, s_icmp_ge, s_ishr, s_i2b, s_bastore, s_dup, s_iadd, s_putf, s_iinc, s_goto, s_return, zk1, ZRt, zp, zp0, Option.some.injEq, Value.int.injEq, Value.long.injEq, Value.ref.injEq, and_self, cond_true, cond_false, zget, zkd, zc_lt, zc_le, zc_0, zc_m, zc_m0, zc_10, zk0_n, zk0_i, zk0_r, zk0_0, zk0_l, zk0_d, zs1_0, zs1_1, zs1_s, zs2_0, zs2_1, zs2_s, zcs, List.getElem?_cons_zero, List.getElem?_cons_succ, List.set_cons_zero, List.set_cons_succ, List.drop_zero, List.drop_succ_cons, List.take_zero, List.take_succ_cons, List.reverse_cons, List.reverse_nil, List.nil_append, List.cons_append, List.length_cons, List.length_nil, List.map_cons, List.map_nil, List.sum_cons, List.sum_nil, Value.category, Option.toList_some, Option.toList_none, List.append_nil, nI_leI, nI_ltI, nI_eq, nI_add, pk_sub, Nat.add_sub_cancel, vp_in_nI, nI_clamp, true_implies, false_implies, implies_true, not_true_eq_false, not_false_eq_true, Nat.not_lt, Nat.not_le, if_true, if_false, eq_self, true_and, and_true, true_or, or_true, false_or, or_false, Nat.zero_add, Nat.add_zero, ↓reduceIte, Nat.reduceAdd, Nat.reduceSub, Nat.reduceLeDiff, Nat.reduceLT, Nat.reduceBEq, Nat.reduceEqDiff, reduceCtorEq, Nat.lt_add_one, Nat.le_refl, zv_cat, Bool.or_true, Bool.or_false, Bool.true_or, Bool.false_or, zk_m1, zk_1m, zk_lt_24, zk_le_24, zk_gt_24, zk_ge_24, zk_eq_24, zk_qe_24, zk_ad_24, zk_da_24, zk_sb_24, zk_mu_24, zk_um_24, zk_lt_1, zk_le_1, zk_gt_1, zk_ge_1, zk_eq_1, zk_qe_1, zk_ad_1, zk_da_1, zk_sb_1, zk_mu_1, zk_um_1, zk_gt_0, zk_le_0, zk_eq_0, zk_qe_0, zk_lt_0, zk_ge_0]
  exact ⟨fun _ => ⟨h4, f4⟩, fun q => absurd (by decide) q⟩
theorem sp_Tp_shorten (hE : ZEOK E) (h : TPs E σ t tb tl) {k : Nat} (hk : k ≤ tl) : ZSpec E MX9_shorten 1 0 0 [.ref t, .int (nI k)] σ n (fun v σ' n' => v = none ∧ n' = n ∧ TPs E σ' t tb k ∧ zfr t 2 σ σ') := by
  obtain ⟨fb, g1, g2, g3, g4⟩ := h
  refine ZSpec_of hE (by decide +kernel) (Nat.le_of_ble_eq_true rfl) [some (.ref t), some (.int (nI k))] rfl (fun X hX => ?_)
  refine zrun_okZ (ok_X9_shorten hX) (fun _ => false) 12 _ _ _ _ _ _ _ (fun Z hZ => ?_)
  simp (disch := omega) only [f_X9_shorten_0 hZ, f_X9_shorten_1 hZ, f_X9_shorten_4 hZ, f_X9_shorten_5 hZ, f_X9_shorten_6 hZ, f_X9_shorten_9 hZ, f_X9_shorten_12 hZ, f_X9_shorten_13 hZ, f_X9_shorten_14 hZ, f_X9_shorten_17 hZ, s_iload, s_if_lt, s_aload, s_getf, s_icmp_ge, s_putf, s_return, zk1, ZRt, zp, zp0, Option.some.injEq, Value.int.injEq, Value.long.injEq, Value.ref.injEq, and_self, cond_true, cond_false, zget, zkd, zc_lt, zc_le, zc_0, zc_m, zc_m0, zc_10, zk0_n, zk0_i, zk0_r, zk0_0, zk0_l, zk0_d, zs1_0, zs1_1, zs1_s, zs2_0, zs2_1, zs2_s, zcs, List.getElem?_cons_zero, List.getElem?_cons_succ, List.set_cons_zero, List.set_cons_succ, List.drop_zero, List.drop_succ_cons, List.take_zero, List.take_succ_cons, List.reverse_cons, List.reverse_nil, List.nil_append, List.cons_append, List.length_cons, List.length_nil, List.map_cons, List.map_nil, List.sum_cons, List.sum_nil, Value.category, Option.toList_some, Option.toList_none, List.append_nil, nI_leI, nI_ltI, nI_eq, nI_add, pk_sub, Nat.add_sub_cancel, vp_in_nI, nI_clamp, true_implies, false_implies, implies_true, not_true_eq_false, not_false_eq_true, Nat.not_lt, Nat.not_le, if_true, if_false, eq_self, true_and, and_true, true_or, or_true, false_or, or_false, Nat.zero_add, Nat.add_zero, ↓reduceIte, Nat.reduceAdd, Nat.reduceSub, Nat.reduceLeDiff, Nat.reduceLT, Nat.reduceBEq, Nat.reduceEqDiff, reduceCtorEq, Nat.lt_add_one, Nat.le_refl, zv_cat, Bool.or_true, Bool.or_false, Bool.true_or, Bool.false_or, zk_m1, zk_1m, zk_gt_0, zk_le_0, zk_eq_0, zk_qe_0, zk_lt_0, zk_ge_0, g1, g2]
  refine ⟨fun q => ?_, fun q => ⟨⟨fb, zup_s _ _ _, (zup_n (by omega)).trans g2, by omega, fun i hi => g4 i (by omega)⟩, zfr.rf.up⟩⟩
  have e : k = tl := by omega
  rw [e]
  exact ⟨⟨fb, g1, g2, g3, g4⟩, zfr.rf⟩
end
