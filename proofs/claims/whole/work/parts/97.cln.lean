/-! THE CLASS: what would be -/
theorem okM_gain {nc c : Nat} {W : WM} {m : Nat} (hc : c < nc) (hn : nc ≤ 10) (ht : ttt (wtr W m) < 60) (h : okM nc (wtr W m)) : okM nc (gainT (wtr W m) c) := okM_put (S := buyG (startG W m) c 0) (okS_buy (S := startG W m) (x := 0) hc hn ht (okS_start h))
theorem okWM_gain {R : RU} {W : WM} {m c : Nat} (hc : c < rnc R) (hn : rnc R ≤ 10) (hm : m < 4) (ht : ttt (wtr W m) < 60) (h : okWM R W) : okWM R (gainW W m c) := fun i hi => by
  show okM (rnc R) (updT (wtr W) m (gainT (wtr W m) c) i)
  unfold updT
  split
  · exact okM_gain hc hn ht (h m hm)
  · exact h i hi
theorem tco_ord {R : RU} {rd : Int32} {m : Nat} {skip : Int32} : ∀ {q o : Nat} {S : GS}, tco (gtr (ordersG R rd m skip q o S)) = tco (gtr S)
  | 0, _, _ => rfl
  | q + 1, o, S => by
    show tco (gtr (ordersG R rd m skip q (o + 1) (orderG R rd m skip o S))) = _
    rw [tco_ord]
    unfold orderG
    split
    · rfl
    · rfl
theorem tco_turn {R : RU} {W : WM} {m : Nat} {skip : Int32} : tco (wtr (turnW R W m skip) m) = gco (handG R W m) := by
  have e : wtr (turnW R W m skip) m = putT (gtr (turnG R W m skip)) (ghl (turnG R W m skip)) (ghd (turnG R W m skip)) := updT_s
  rw [e]
  show tco (gtr (turnG R W m skip)) = _
  unfold turnG
  rw [tco_ord]
  generalize handG R W m = S
  rfl
theorem nextG_if {R : RU} {W : WM} {m : Nat} {s : Int32} : ∀ {j : Nat}, j < 5 → nextG R W m s j = (if j = 0 then gco (handG R W m) else if j = 1 then gbu (handG R W m) else if j = 2 then nI (gcp (turnG R W m s)) else if j = 3 then gct (turnG R W m s) else gcb (turnG R W m s))
  | 0, _ => by unfold nextG; rw [if_pos rfl]; generalize handG R W m = A; generalize turnG R W m s = B; rfl
  | 1, _ => by unfold nextG; rw [if_neg (by omega), if_pos rfl]; generalize handG R W m = A; generalize turnG R W m s = B; rfl
  | 2, _ => by unfold nextG; rw [if_neg (by omega), if_neg (by omega), if_pos rfl]; generalize handG R W m = A; generalize turnG R W m s = B; rfl
  | 3, _ => by unfold nextG; rw [if_neg (by omega), if_neg (by omega), if_neg (by omega), if_pos rfl]; generalize handG R W m = A; generalize turnG R W m s = B; rfl
  | 4, _ => by unfold nextG; rw [if_neg (by omega), if_neg (by omega), if_neg (by omega), if_neg (by omega)]; generalize handG R W m = A; generalize turnG R W m s = B; rfl
  | j + 5, h => absurd h (by omega)
def nextR (R : RU) (W : WM) (a b : Int32) : RS := ix2 a b (rnm R) 5 (fun m w => nextG R W m (-1) w)
/-- what is foreseen: 0, or 4 to 7 -/
def ixF (b : Int32) : Option Nat := if b = 0 then some 0 else if b < 4 ∨ 7 < b then none else some b.toNatClampNeg
def forV (R : RU) (V : WM) (w : Nat) : Int32 := if w = 0 then oI (leadW R V (rnm R) 0 none) else countW R V 0 w
def forR (R : RU) (W : WM) (a b : Int32) : RS := match ixR a 40 with
  | none => (1, 0)
  | some K => match ixF b with
    | none => (2, 0)
    | some w => (0, forV R (roundsW R (-1) K (W, 0)).1 w)
def misS (b : Option (Nat × Int32)) (o : Nat) (w : Int32) : Option (Nat × Int32) := match b with
  | none => some (o, w)
  | some (f, l) => if w < l then some (o, w) else some (f, l)
def advS (b : Option (Nat × Int32)) (o : Nat) (w : Int32) : Option (Nat × Int32) := match b with
  | none => some (o, w)
  | some (f, l) => if l < w then some (o, w) else some (f, l)
/-- the order that was missed least, of q orders from o on -/
def misL (R : RU) (W : WM) (m K : Nat) : Nat → Nat → Option (Nat × Int32) → Option (Nat × Int32)
  | 0, _, b => b
  | q + 1, o, b => misL R W m K q (o + 1) (if rom R o = m then misS b o (worthT R (wtr (roundsW R (nI o) K (W, 0)).1 m) (rnc R)) else b)
/-- the card that is best to be had, of q cards from c on -/
def advL (R : RU) (W : WM) (m K : Nat) : Nat → Nat → Option (Nat × Int32) → Option (Nat × Int32)
  | 0, _, b => b
  | q + 1, c, b => advL R W m K q (c + 1) (if 0 < wpi W c ∧ ttt (wtr W m) < 60 then advS b c (worthT R (wtr (roundsW R (-1) K (gainW W m c, 0)).1 m) (rnc R)) else b)
def o1I (b : Option (Nat × Int32)) : Int32 := match b with
  | none => -1
  | some q => nI q.1
def o2I (b : Option (Nat × Int32)) : Int32 := match b with
  | none => 0
  | some q => q.2
def ixM (a b : Int32) (m : Nat) (f : Nat → Nat → Int32) : RS := match ixB a m with
  | none => (1, 0)
  | some i => match ixR b 20 with
    | none => (2, 0)
    | some K => (0, f i K)
def missR (R : RU) (W : WM) (a b : Int32) : RS := ixM a b (rnm R) (fun m K => o1I (misL R W m K (rno R) 0 none))
def adviR (R : RU) (W : WM) (a b : Int32) : RS := ixM a b (rnm R) (fun m K => o1I (advL R W m K (rnc R) 0 none))
theorem ixM_s {i j m : Nat} {f : Nat → Nat → Int32} (hi : i < m) (hm : m < 2 ^ 31) (hj : 1 ≤ j) (hj2 : j ≤ 20) : ixM (nI i) (nI j) m f = (0, f i j) := by
  unfold ixM
  rw [ix_s hi hm]
  dsimp only
  rw [ixR_s hj hj2 (by omega)]
theorem ixM_a {a b : Int32} {m : Nat} {f : Nat → Nat → Int32} (hm : m < 2 ^ 31) (h : ∀ j, j < m → a ≠ nI j) : ixM a b m f = (1, 0) := by
  unfold ixM
  rw [ix_n hm h]
theorem ixM_b {b : Int32} {i m : Nat} {f : Nat → Nat → Int32} (hi : i < m) (hm : m < 2 ^ 31) (h : ∀ j, 1 ≤ j → j ≤ 20 → b ≠ nI j) : ixM (nI i) b m f = (2, 0) := by
  unfold ixM
  rw [ix_s hi hm]
  dsimp only
  rw [ixR_n (by omega) h]
section
variable {E : ZEX} {σ σ' : ZHp} {n x u tl ur du g : Nat} {R : RU} {W W' : WM} {tb : Nat → Nat} {ep : Int32}
theorem sp_Ga_turnNumber (hE : ZEOK E) {m w : Nat} {x0 x1 x2 x3 x4 x5 : Int32} (h : GBo E σ g ur W (g + 42 + 7 * m) x0 x1 x2 x3 x4 x5) (hm : m < 4) (hw : w < 5) : ZSpec E MX2_turnNumber 1 0 0 [.ref g, .int (nI w)] σ n (zp (.int (if w = 0 then tco (wtr W m) else if w = 1 then x2 else if w = 2 then x3 else if w = 3 then x4 else x5)) σ n) := by
  have h0 := h.1
  have hT := h.2.1.2.2.2.2.2.2 m hm
  rw [show g + 1 + 41 + 7 * m = g + 42 + 7 * m by omega] at hT
  obtain ⟨dn, fd, fa, fo, s, o1, -⟩ := hT
  unfold trO at o1
  refine ZSpec_of hE (by decide +kernel) (Nat.le_of_ble_eq_true rfl) [some (.ref g), some (.int (nI w))] rfl (fun X hX => ?_)
  refine zrun_okZ (ok_X2_turnNumber hX) (fun _ => false) 20 _ _ _ _ _ _ _ (fun Z hZ => ?_)
  simp (disch := omega) only [f_X2_turnNumber_0 hZ, f_X2_turnNumber_1 hZ, f_X2_turnNumber_32 hZ, f_X2_turnNumber_33 hZ, f_X2_turnNumber_36 hZ, f_X2_turnNumber_39 hZ, f_X2_turnNumber_40 hZ, f_X2_turnNumber_41 hZ, f_X2_turnNumber_44 hZ, f_X2_turnNumber_45 hZ, f_X2_turnNumber_46 hZ, f_X2_turnNumber_49 hZ, f_X2_turnNumber_50 hZ, f_X2_turnNumber_51 hZ, f_X2_turnNumber_54 hZ, f_X2_turnNumber_55 hZ, f_X2_turnNumber_56 hZ, f_X2_turnNumber_59 hZ, s_iload, s_tsw, s_aload, s_getf, s_ireturn, zk1, ZRt, zp, zp0, Option.some.injEq, Value.int.injEq, Value.long.injEq, Value.ref.injEq, and_self, cond_true, cond_false, zget, zkd, zc_lt, zc_le, zc_0, zc_m, zc_m0, zc_10, zk0_n, zk0_i, zk0_r, zk0_0, zk0_l, zk0_d, zs1_0, zs1_1, zs1_s, zs2_0, zs2_1, zs2_s, zcs, List.getElem?_cons_zero, List.getElem?_cons_succ, List.set_cons_zero, List.set_cons_succ, List.drop_zero, List.drop_succ_cons, List.take_zero, List.take_succ_cons, List.reverse_cons, List.reverse_nil, List.nil_append, List.cons_append, List.length_cons, List.length_nil, List.map_cons, List.map_nil, List.sum_cons, List.sum_nil, Value.category, Option.toList_some, Option.toList_none, List.append_nil, nI_leI, nI_ltI, nI_eq, nI_add, pk_sub, Nat.add_sub_cancel, vp_in_nI, nI_clamp, true_implies, false_implies, implies_true, not_true_eq_false, not_false_eq_true, Nat.not_lt, Nat.not_le, if_true, if_false, eq_self, true_and, and_true, true_or, or_true, false_or, or_false, Nat.zero_add, Nat.add_zero, ↓reduceIte, Nat.reduceAdd, Nat.reduceSub, Nat.reduceLeDiff, Nat.reduceLT, Nat.reduceBEq, Nat.reduceEqDiff, reduceCtorEq, Nat.lt_add_one, Nat.le_refl, zv_cat, Bool.or_true, Bool.or_false, Bool.true_or, Bool.false_or, zk_m1, zk_1m, zk_gt_0, zk_le_0, zk_eq_0, zk_qe_0, zk_lt_0, zk_ge_0]
  have h5 : w = 0 ∨ w = 1 ∨ w = 2 ∨ w = 3 ∨ w = 4 := by omega
  rcases h5 with rfl | rfl | rfl | rfl | rfl
  · show ZG E X MX2_turnNumber 32 _ _ _ _ _ _
    refine zrun_okZ (ok_X2_turnNumber hX) (fun _ => false) 20 _ _ _ _ _ _ _ (fun Z hZ => ?_)
    simp (disch := omega) only [f_X2_turnNumber_0 hZ, f_X2_turnNumber_1 hZ, f_X2_turnNumber_32 hZ, f_X2_turnNumber_33 hZ, f_X2_turnNumber_36 hZ, f_X2_turnNumber_39 hZ, f_X2_turnNumber_40 hZ, f_X2_turnNumber_41 hZ, f_X2_turnNumber_44 hZ, f_X2_turnNumber_45 hZ, f_X2_turnNumber_46 hZ, f_X2_turnNumber_49 hZ, f_X2_turnNumber_50 hZ, f_X2_turnNumber_51 hZ, f_X2_turnNumber_54 hZ, f_X2_turnNumber_55 hZ, f_X2_turnNumber_56 hZ, f_X2_turnNumber_59 hZ, s_iload, s_tsw, s_aload, s_getf, s_ireturn, zk1, ZRt, zp, zp0, Option.some.injEq, Value.int.injEq, Value.long.injEq, Value.ref.injEq, and_self, cond_true, cond_false, zget, zkd, zc_lt, zc_le, zc_0, zc_m, zc_m0, zc_10, zk0_n, zk0_i, zk0_r, zk0_0, zk0_l, zk0_d, zs1_0, zs1_1, zs1_s, zs2_0, zs2_1, zs2_s, zcs, List.getElem?_cons_zero, List.getElem?_cons_succ, List.set_cons_zero, List.set_cons_succ, List.drop_zero, List.drop_succ_cons, List.take_zero, List.take_succ_cons, List.reverse_cons, List.reverse_nil, List.nil_append, List.cons_append, List.length_cons, List.length_nil, List.map_cons, List.map_nil, List.sum_cons, List.sum_nil, Value.category, Option.toList_some, Option.toList_none, List.append_nil, nI_leI, nI_ltI, nI_eq, nI_add, pk_sub, Nat.add_sub_cancel, vp_in_nI, nI_clamp, true_implies, false_implies, implies_true, not_true_eq_false, not_false_eq_true, Nat.not_lt, Nat.not_le, if_true, if_false, eq_self, true_and, and_true, true_or, or_true, false_or, or_false, Nat.zero_add, Nat.add_zero, ↓reduceIte, Nat.reduceAdd, Nat.reduceSub, Nat.reduceLeDiff, Nat.reduceLT, Nat.reduceBEq, Nat.reduceEqDiff, reduceCtorEq, Nat.lt_add_one, Nat.le_refl, zv_cat, Bool.or_true, Bool.or_false, Bool.true_or, Bool.false_or, zk_m1, zk_1m, zk_gt_0, zk_le_0, zk_eq_0, zk_qe_0, zk_lt_0, zk_ge_0, h0, o1]
  · show ZG E X MX2_turnNumber 40 _ _ _ _ _ _
    refine zrun_okZ (ok_X2_turnNumber hX) (fun _ => false) 20 _ _ _ _ _ _ _ (fun Z hZ => ?_)
    simp (disch := omega) only [f_X2_turnNumber_0 hZ, f_X2_turnNumber_1 hZ, f_X2_turnNumber_32 hZ, f_X2_turnNumber_33 hZ, f_X2_turnNumber_36 hZ, f_X2_turnNumber_39 hZ, f_X2_turnNumber_40 hZ, f_X2_turnNumber_41 hZ, f_X2_turnNumber_44 hZ, f_X2_turnNumber_45 hZ, f_X2_turnNumber_46 hZ, f_X2_turnNumber_49 hZ, f_X2_turnNumber_50 hZ, f_X2_turnNumber_51 hZ, f_X2_turnNumber_54 hZ, f_X2_turnNumber_55 hZ, f_X2_turnNumber_56 hZ, f_X2_turnNumber_59 hZ, s_iload, s_tsw, s_aload, s_getf, s_ireturn, zk1, ZRt, zp, zp0, Option.some.injEq, Value.int.injEq, Value.long.injEq, Value.ref.injEq, and_self, cond_true, cond_false, zget, zkd, zc_lt, zc_le, zc_0, zc_m, zc_m0, zc_10, zk0_n, zk0_i, zk0_r, zk0_0, zk0_l, zk0_d, zs1_0, zs1_1, zs1_s, zs2_0, zs2_1, zs2_s, zcs, List.getElem?_cons_zero, List.getElem?_cons_succ, List.set_cons_zero, List.set_cons_succ, List.drop_zero, List.drop_succ_cons, List.take_zero, List.take_succ_cons, List.reverse_cons, List.reverse_nil, List.nil_append, List.cons_append, List.length_cons, List.length_nil, List.map_cons, List.map_nil, List.sum_cons, List.sum_nil, Value.category, Option.toList_some, Option.toList_none, List.append_nil, nI_leI, nI_ltI, nI_eq, nI_add, pk_sub, Nat.add_sub_cancel, vp_in_nI, nI_clamp, true_implies, false_implies, implies_true, not_true_eq_false, not_false_eq_true, Nat.not_lt, Nat.not_le, if_true, if_false, eq_self, true_and, and_true, true_or, or_true, false_or, or_false, Nat.zero_add, Nat.add_zero, ↓reduceIte, Nat.reduceAdd, Nat.reduceSub, Nat.reduceLeDiff, Nat.reduceLT, Nat.reduceBEq, Nat.reduceEqDiff, reduceCtorEq, Nat.lt_add_one, Nat.le_refl, zv_cat, Bool.or_true, Bool.or_false, Bool.true_or, Bool.false_or, zk_m1, zk_1m, zk_gt_0, zk_le_0, zk_eq_0, zk_qe_0, zk_lt_0, zk_ge_0, h0, o1]
  · show ZG E X MX2_turnNumber 45 _ _ _ _ _ _
    refine zrun_okZ (ok_X2_turnNumber hX) (fun _ => false) 20 _ _ _ _ _ _ _ (fun Z hZ => ?_)
    simp (disch := omega) only [f_X2_turnNumber_0 hZ, f_X2_turnNumber_1 hZ, f_X2_turnNumber_32 hZ, f_X2_turnNumber_33 hZ, f_X2_turnNumber_36 hZ, f_X2_turnNumber_39 hZ, f_X2_turnNumber_40 hZ, f_X2_turnNumber_41 hZ, f_X2_turnNumber_44 hZ, f_X2_turnNumber_45 hZ, f_X2_turnNumber_46 hZ, f_X2_turnNumber_49 hZ, f_X2_turnNumber_50 hZ, f_X2_turnNumber_51 hZ, f_X2_turnNumber_54 hZ, f_X2_turnNumber_55 hZ, f_X2_turnNumber_56 hZ, f_X2_turnNumber_59 hZ, s_iload, s_tsw, s_aload, s_getf, s_ireturn, zk1, ZRt, zp, zp0, Option.some.injEq, Value.int.injEq, Value.long.injEq, Value.ref.injEq, and_self, cond_true, cond_false, zget, zkd, zc_lt, zc_le, zc_0, zc_m, zc_m0, zc_10, zk0_n, zk0_i, zk0_r, zk0_0, zk0_l, zk0_d, zs1_0, zs1_1, zs1_s, zs2_0, zs2_1, zs2_s, zcs, List.getElem?_cons_zero, List.getElem?_cons_succ, List.set_cons_zero, List.set_cons_succ, List.drop_zero, List.drop_succ_cons, List.take_zero, List.take_succ_cons, List.reverse_cons, List.reverse_nil, List.nil_append, List.cons_append, List.length_cons, List.length_nil, List.map_cons, List.map_nil, List.sum_cons, List.sum_nil, Value.category, Option.toList_some, Option.toList_none, List.append_nil, nI_leI, nI_ltI, nI_eq, nI_add, pk_sub, Nat.add_sub_cancel, vp_in_nI, nI_clamp, true_implies, false_implies, implies_true, not_true_eq_false, not_false_eq_true, Nat.not_lt, Nat.not_le, if_true, if_false, eq_self, true_and, and_true, true_or, or_true, false_or, or_false, Nat.zero_add, Nat.add_zero, ↓reduceIte, Nat.reduceAdd, Nat.reduceSub, Nat.reduceLeDiff, Nat.reduceLT, Nat.reduceBEq, Nat.reduceEqDiff, reduceCtorEq, Nat.lt_add_one, Nat.le_refl, zv_cat, Bool.or_true, Bool.or_false, Bool.true_or, Bool.false_or, zk_m1, zk_1m, zk_gt_0, zk_le_0, zk_eq_0, zk_qe_0, zk_lt_0, zk_ge_0, h0, o1]
  · show ZG E X MX2_turnNumber 50 _ _ _ _ _ _
    refine zrun_okZ (ok_X2_turnNumber hX) (fun _ => false) 20 _ _ _ _ _ _ _ (fun Z hZ => ?_)
    simp (disch := omega) only [f_X2_turnNumber_0 hZ, f_X2_turnNumber_1 hZ, f_X2_turnNumber_32 hZ, f_X2_turnNumber_33 hZ, f_X2_turnNumber_36 hZ, f_X2_turnNumber_39 hZ, f_X2_turnNumber_40 hZ, f_X2_turnNumber_41 hZ, f_X2_turnNumber_44 hZ, f_X2_turnNumber_45 hZ, f_X2_turnNumber_46 hZ, f_X2_turnNumber_49 hZ, f_X2_turnNumber_50 hZ, f_X2_turnNumber_51 hZ, f_X2_turnNumber_54 hZ, f_X2_turnNumber_55 hZ, f_X2_turnNumber_56 hZ, f_X2_turnNumber_59 hZ, s_iload, s_tsw, s_aload, s_getf, s_ireturn, zk1, ZRt, zp, zp0, Option.some.injEq, Value.int.injEq, Value.long.injEq, Value.ref.injEq, and_self, cond_true, cond_false, zget, zkd, zc_lt, zc_le, zc_0, zc_m, zc_m0, zc_10, zk0_n, zk0_i, zk0_r, zk0_0, zk0_l, zk0_d, zs1_0, zs1_1, zs1_s, zs2_0, zs2_1, zs2_s, zcs, List.getElem?_cons_zero, List.getElem?_cons_succ, List.set_cons_zero, List.set_cons_succ, List.drop_zero, List.drop_succ_cons, List.take_zero, List.take_succ_cons, List.reverse_cons, List.reverse_nil, List.nil_append, List.cons_append, List.length_cons, List.length_nil, List.map_cons, List.map_nil, List.sum_cons, List.sum_nil, Value.category, Option.toList_some, Option.toList_none, List.append_nil, nI_leI, nI_ltI, nI_eq, nI_add, pk_sub, Nat.add_sub_cancel, vp_in_nI, nI_clamp, true_implies, false_implies, implies_true, not_true_eq_false, not_false_eq_true, Nat.not_lt, Nat.not_le, if_true, if_false, eq_self, true_and, and_true, true_or, or_true, false_or, or_false, Nat.zero_add, Nat.add_zero, ↓reduceIte, Nat.reduceAdd, Nat.reduceSub, Nat.reduceLeDiff, Nat.reduceLT, Nat.reduceBEq, Nat.reduceEqDiff, reduceCtorEq, Nat.lt_add_one, Nat.le_refl, zv_cat, Bool.or_true, Bool.or_false, Bool.true_or, Bool.false_or, zk_m1, zk_1m, zk_gt_0, zk_le_0, zk_eq_0, zk_qe_0, zk_lt_0, zk_ge_0, h0, o1]
  · show ZG E X MX2_turnNumber 55 _ _ _ _ _ _
    refine zrun_okZ (ok_X2_turnNumber hX) (fun _ => false) 20 _ _ _ _ _ _ _ (fun Z hZ => ?_)
    simp (disch := omega) only [f_X2_turnNumber_0 hZ, f_X2_turnNumber_1 hZ, f_X2_turnNumber_32 hZ, f_X2_turnNumber_33 hZ, f_X2_turnNumber_36 hZ, f_X2_turnNumber_39 hZ, f_X2_turnNumber_40 hZ, f_X2_turnNumber_41 hZ, f_X2_turnNumber_44 hZ, f_X2_turnNumber_45 hZ, f_X2_turnNumber_46 hZ, f_X2_turnNumber_49 hZ, f_X2_turnNumber_50 hZ, f_X2_turnNumber_51 hZ, f_X2_turnNumber_54 hZ, f_X2_turnNumber_55 hZ, f_X2_turnNumber_56 hZ, f_X2_turnNumber_59 hZ, s_iload, s_tsw, s_aload, s_getf, s_ireturn, zk1, ZRt, zp, zp0, Option.some.injEq, Value.int.injEq, Value.long.injEq, Value.ref.injEq, and_self, cond_true, cond_false, zget, zkd, zc_lt, zc_le, zc_0, zc_m, zc_m0, zc_10, zk0_n, zk0_i, zk0_r, zk0_0, zk0_l, zk0_d, zs1_0, zs1_1, zs1_s, zs2_0, zs2_1, zs2_s, zcs, List.getElem?_cons_zero, List.getElem?_cons_succ, List.set_cons_zero, List.set_cons_succ, List.drop_zero, List.drop_succ_cons, List.take_zero, List.take_succ_cons, List.reverse_cons, List.reverse_nil, List.nil_append, List.cons_append, List.length_cons, List.length_nil, List.map_cons, List.map_nil, List.sum_cons, List.sum_nil, Value.category, Option.toList_some, Option.toList_none, List.append_nil, nI_leI, nI_ltI, nI_eq, nI_add, pk_sub, Nat.add_sub_cancel, vp_in_nI, nI_clamp, true_implies, false_implies, implies_true, not_true_eq_false, not_false_eq_true, Nat.not_lt, Nat.not_le, if_true, if_false, eq_self, true_and, and_true, true_or, or_true, false_or, or_false, Nat.zero_add, Nat.add_zero, ↓reduceIte, Nat.reduceAdd, Nat.reduceSub, Nat.reduceLeDiff, Nat.reduceLT, Nat.reduceBEq, Nat.reduceEqDiff, reduceCtorEq, Nat.lt_add_one, Nat.le_refl, zv_cat, Bool.or_true, Bool.or_false, Bool.true_or, Bool.false_or, zk_m1, zk_1m, zk_gt_0, zk_le_0, zk_eq_0, zk_qe_0, zk_lt_0, zk_ge_0, h0, o1]
/-- the trial's market becomes the game's -/
theorem CLg.cp {rt : Nat} {V V' : WM} (h : CLg E σ x ur du R W tb tl ep) (c7 : GBs E σ (x + 125) rt V) (hM : MKs E σ' (x + 125 + 1) ur V') (hf : mfr (x + 125 + 1) σ σ') : CLg E σ' x ur du R W tb tl ep ∧ zfr x 234 σ σ' ∧ GBs E σ' (x + 125) ur V' := by
  have hB := c7.mk hM hf
  obtain ⟨q1, q2⟩ := h.tr hB (gfr.m hf)
  exact ⟨q1, q2, hB⟩
theorem sp_Cl_next (hE : ZEOK E) (hTH : ZTH E) (h : CLs E σ x R W tb tl ep) (hk : okWM R W) (a b : Int32) : ZSpecX E MX12_next 10 2 12 [.ref x, .int a, .int b] σ n (stP E σ n x R W tb tl ep (nextR R W a b)) (raT σ n (nextR R W a b) iobN iobN) := by
  have h' := h
  have hR := h.b
  have b5 := hR.2.1
  obtain ⟨ur, du, hg⟩ := h'
  obtain ⟨hd, c1, c2, c3, c4, c5, c6, ⟨rt, V, c7⟩⟩ := id hg
  obtain ⟨⟨vs, g0⟩, hK, m0⟩ := c4.o
  obtain ⟨⟨vt, t0⟩, tK, tm⟩ := c7.o
  unfold mkO at m0 tm
  unfold stP
  refine ZSpecX_of hE (by decide +kernel) (Nat.le_of_ble_eq_true rfl) [some (.ref x), some (.int a), some (.int b)] rfl (fun X hM hX => ?_)
  refine zrun_okZ (ok_X12_next hM hTH (by omega) hX) (fun _ => false) 26 _ _ _ _ _ _ _ (fun Z hZ => ?_)
  simp (disch := omega) only [f_X12_next_0 hZ, f_X12_next_1 hZ, f_X12_next_2 hZ, f_X12_next_5 hZ, f_X12_next_6 hZ, f_X12_next_7 hZ, f_X12_next_8 hZ, f_X12_next_11 hZ, f_X12_next_12 hZ, f_X12_next_15 hZ, f_X12_next_18 hZ, f_X12_next_19 hZ, f_X12_next_22 hZ, f_X12_next_25 hZ, f_X12_next_28 hZ, f_X12_next_29 hZ, f_X12_next_32 hZ, f_X12_next_33 hZ, f_X12_next_34 hZ, f_X12_next_37 hZ, f_X12_next_38 hZ, f_X12_next_41 hZ, f_X12_next_42 hZ, f_X12_next_45 hZ, s_aload, s_iload, s_callVT, s_const, s_getf, s_callV, s_ireturn, zobj, zTX, zk1, ZRt, zp, zp0, Option.some.injEq, Value.int.injEq, Value.long.injEq, Value.ref.injEq, and_self, cond_true, cond_false, zget, zkd, zc_lt, zc_le, zc_0, zc_m, zc_m0, zc_10, zk0_n, zk0_i, zk0_r, zk0_0, zk0_l, zk0_d, zs1_0, zs1_1, zs1_s, zs2_0, zs2_1, zs2_s, zcs, List.getElem?_cons_zero, List.getElem?_cons_succ, List.set_cons_zero, List.set_cons_succ, List.drop_zero, List.drop_succ_cons, List.take_zero, List.take_succ_cons, List.reverse_cons, List.reverse_nil, List.nil_append, List.cons_append, List.length_cons, List.length_nil, List.map_cons, List.map_nil, List.sum_cons, List.sum_nil, Value.category, Option.toList_some, Option.toList_none, List.append_nil, nI_leI, nI_ltI, nI_eq, nI_add, pk_sub, Nat.add_sub_cancel, vp_in_nI, nI_clamp, true_implies, false_implies, implies_true, not_true_eq_false, not_false_eq_true, Nat.not_lt, Nat.not_le, if_true, if_false, eq_self, true_and, and_true, true_or, or_true, false_or, or_false, Nat.zero_add, Nat.add_zero, ↓reduceIte, Nat.reduceAdd, Nat.reduceSub, Nat.reduceLeDiff, Nat.reduceLT, Nat.reduceBEq, Nat.reduceEqDiff, reduceCtorEq, Nat.lt_add_one, Nat.le_refl, zv_cat, Bool.or_true, Bool.or_false, Bool.true_or, Bool.false_or, zk_m1, zk_1m, zk_lt_4, zk_le_4, zk_gt_4, zk_ge_4, zk_eq_4, zk_qe_4, zk_ad_4, zk_da_4, zk_sb_4, zk_mu_4, zk_um_4, zk_gt_0, zk_le_0, zk_eq_0, zk_qe_0, zk_lt_0, zk_ge_0, c1]
  refine zcallT_q (sp_checkMerchant hE hTH h a) ?_ ?_
  · rintro v s2 n2 ⟨rfl, rfl, rfl, i, hi, rfl⟩
    have hi4 : i < 4 := by omega
    refine zrun_okZ (ok_X12_next hM hTH (by omega) hX) (fun _ => false) 26 _ _ _ _ _ _ _ (fun Z hZ => ?_)
    simp (disch := omega) only [f_X12_next_0 hZ, f_X12_next_1 hZ, f_X12_next_2 hZ, f_X12_next_5 hZ, f_X12_next_6 hZ, f_X12_next_7 hZ, f_X12_next_8 hZ, f_X12_next_11 hZ, f_X12_next_12 hZ, f_X12_next_15 hZ, f_X12_next_18 hZ, f_X12_next_19 hZ, f_X12_next_22 hZ, f_X12_next_25 hZ, f_X12_next_28 hZ, f_X12_next_29 hZ, f_X12_next_32 hZ, f_X12_next_33 hZ, f_X12_next_34 hZ, f_X12_next_37 hZ, f_X12_next_38 hZ, f_X12_next_41 hZ, f_X12_next_42 hZ, f_X12_next_45 hZ, s_aload, s_iload, s_callVT, s_const, s_getf, s_callV, s_ireturn, zobj, zTX, zk1, ZRt, zp, zp0, Option.some.injEq, Value.int.injEq, Value.long.injEq, Value.ref.injEq, and_self, cond_true, cond_false, zget, zkd, zc_lt, zc_le, zc_0, zc_m, zc_m0, zc_10, zk0_n, zk0_i, zk0_r, zk0_0, zk0_l, zk0_d, zs1_0, zs1_1, zs1_s, zs2_0, zs2_1, zs2_s, zcs, List.getElem?_cons_zero, List.getElem?_cons_succ, List.set_cons_zero, List.set_cons_succ, List.drop_zero, List.drop_succ_cons, List.take_zero, List.take_succ_cons, List.reverse_cons, List.reverse_nil, List.nil_append, List.cons_append, List.length_cons, List.length_nil, List.map_cons, List.map_nil, List.sum_cons, List.sum_nil, Value.category, Option.toList_some, Option.toList_none, List.append_nil, nI_leI, nI_ltI, nI_eq, nI_add, pk_sub, Nat.add_sub_cancel, vp_in_nI, nI_clamp, true_implies, false_implies, implies_true, not_true_eq_false, not_false_eq_true, Nat.not_lt, Nat.not_le, if_true, if_false, eq_self, true_and, and_true, true_or, or_true, false_or, or_false, Nat.zero_add, Nat.add_zero, ↓reduceIte, Nat.reduceAdd, Nat.reduceSub, Nat.reduceLeDiff, Nat.reduceLT, Nat.reduceBEq, Nat.reduceEqDiff, reduceCtorEq, Nat.lt_add_one, Nat.le_refl, zv_cat, Bool.or_true, Bool.or_false, Bool.true_or, Bool.false_or, zk_m1, zk_1m, zk_lt_4, zk_le_4, zk_gt_4, zk_ge_4, zk_eq_4, zk_qe_4, zk_ad_4, zk_da_4, zk_sb_4, zk_mu_4, zk_um_4, zk_gt_0, zk_le_0, zk_eq_0, zk_qe_0, zk_lt_0, zk_ge_0, c1]
    refine zcallT_q (sp_checkWhat hE hTH b (s := 4) (by omega)) ?_ ?_
    · rintro v s3 n3 ⟨rfl, rfl, rfl, j, hj, rfl⟩
      refine zrun_okZ (ok_X12_next hM hTH (by omega) hX) (fun _ => false) 26 _ _ _ _ _ _ _ (fun Z hZ => ?_)
      simp (disch := omega) only [f_X12_next_0 hZ, f_X12_next_1 hZ, f_X12_next_2 hZ, f_X12_next_5 hZ, f_X12_next_6 hZ, f_X12_next_7 hZ, f_X12_next_8 hZ, f_X12_next_11 hZ, f_X12_next_12 hZ, f_X12_next_15 hZ, f_X12_next_18 hZ, f_X12_next_19 hZ, f_X12_next_22 hZ, f_X12_next_25 hZ, f_X12_next_28 hZ, f_X12_next_29 hZ, f_X12_next_32 hZ, f_X12_next_33 hZ, f_X12_next_34 hZ, f_X12_next_37 hZ, f_X12_next_38 hZ, f_X12_next_41 hZ, f_X12_next_42 hZ, f_X12_next_45 hZ, s_aload, s_iload, s_callVT, s_const, s_getf, s_callV, s_ireturn, zobj, zTX, zk1, ZRt, zp, zp0, Option.some.injEq, Value.int.injEq, Value.long.injEq, Value.ref.injEq, and_self, cond_true, cond_false, zget, zkd, zc_lt, zc_le, zc_0, zc_m, zc_m0, zc_10, zk0_n, zk0_i, zk0_r, zk0_0, zk0_l, zk0_d, zs1_0, zs1_1, zs1_s, zs2_0, zs2_1, zs2_s, zcs, List.getElem?_cons_zero, List.getElem?_cons_succ, List.set_cons_zero, List.set_cons_succ, List.drop_zero, List.drop_succ_cons, List.take_zero, List.take_succ_cons, List.reverse_cons, List.reverse_nil, List.nil_append, List.cons_append, List.length_cons, List.length_nil, List.map_cons, List.map_nil, List.sum_cons, List.sum_nil, Value.category, Option.toList_some, Option.toList_none, List.append_nil, nI_leI, nI_ltI, nI_eq, nI_add, pk_sub, Nat.add_sub_cancel, vp_in_nI, nI_clamp, true_implies, false_implies, implies_true, not_true_eq_false, not_false_eq_true, Nat.not_lt, Nat.not_le, if_true, if_false, eq_self, true_and, and_true, true_or, or_true, false_or, or_false, Nat.zero_add, Nat.add_zero, ↓reduceIte, Nat.reduceAdd, Nat.reduceSub, Nat.reduceLeDiff, Nat.reduceLT, Nat.reduceBEq, Nat.reduceEqDiff, reduceCtorEq, Nat.lt_add_one, Nat.le_refl, zv_cat, Bool.or_true, Bool.or_false, Bool.true_or, Bool.false_or, zk_m1, zk_1m, zk_lt_4, zk_le_4, zk_gt_4, zk_ge_4, zk_eq_4, zk_qe_4, zk_ad_4, zk_da_4, zk_sb_4, zk_mu_4, zk_um_4, zk_gt_0, zk_le_0, zk_eq_0, zk_qe_0, zk_lt_0, zk_ge_0, c1, g0, t0, tm]
      refine zcall_q (sp_Mk_copy hE tK hK (by omega)) ?_
      rintro v s4 n4 ⟨rfl, rfl, p1, p2⟩
      obtain ⟨q1, q2, q3⟩ := hg.cp c7 p1 p2
      obtain ⟨-, d1, -, -, d4, d5, -⟩ := id q1
      obtain ⟨t, y0, y1, y2, y3, y4, y5, hBo⟩ := q3
      obtain ⟨⟨vt4, t4⟩, -, -⟩ := GBs.o (h := ⟨t, y0, y1, y2, y3, y4, y5, hBo⟩)
      refine zrun_okZ (ok_X12_next hM hTH (by omega) hX) (fun _ => false) 26 _ _ _ _ _ _ _ (fun Z hZ => ?_)
      simp (disch := omega) only [f_X12_next_0 hZ, f_X12_next_1 hZ, f_X12_next_2 hZ, f_X12_next_5 hZ, f_X12_next_6 hZ, f_X12_next_7 hZ, f_X12_next_8 hZ, f_X12_next_11 hZ, f_X12_next_12 hZ, f_X12_next_15 hZ, f_X12_next_18 hZ, f_X12_next_19 hZ, f_X12_next_22 hZ, f_X12_next_25 hZ, f_X12_next_28 hZ, f_X12_next_29 hZ, f_X12_next_32 hZ, f_X12_next_33 hZ, f_X12_next_34 hZ, f_X12_next_37 hZ, f_X12_next_38 hZ, f_X12_next_41 hZ, f_X12_next_42 hZ, f_X12_next_45 hZ, s_aload, s_iload, s_callVT, s_const, s_getf, s_callV, s_ireturn, zobj, zTX, zk1, ZRt, zp, zp0, Option.some.injEq, Value.int.injEq, Value.long.injEq, Value.ref.injEq, and_self, cond_true, cond_false, zget, zkd, zc_lt, zc_le, zc_0, zc_m, zc_m0, zc_10, zk0_n, zk0_i, zk0_r, zk0_0, zk0_l, zk0_d, zs1_0, zs1_1, zs1_s, zs2_0, zs2_1, zs2_s, zcs, List.getElem?_cons_zero, List.getElem?_cons_succ, List.set_cons_zero, List.set_cons_succ, List.drop_zero, List.drop_succ_cons, List.take_zero, List.take_succ_cons, List.reverse_cons, List.reverse_nil, List.nil_append, List.cons_append, List.length_cons, List.length_nil, List.map_cons, List.map_nil, List.sum_cons, List.sum_nil, Value.category, Option.toList_some, Option.toList_none, List.append_nil, nI_leI, nI_ltI, nI_eq, nI_add, pk_sub, Nat.add_sub_cancel, vp_in_nI, nI_clamp, true_implies, false_implies, implies_true, not_true_eq_false, not_false_eq_true, Nat.not_lt, Nat.not_le, if_true, if_false, eq_self, true_and, and_true, true_or, or_true, false_or, or_false, Nat.zero_add, Nat.add_zero, ↓reduceIte, Nat.reduceAdd, Nat.reduceSub, Nat.reduceLeDiff, Nat.reduceLT, Nat.reduceBEq, Nat.reduceEqDiff, reduceCtorEq, Nat.lt_add_one, Nat.le_refl, zv_cat, Bool.or_true, Bool.or_false, Bool.true_or, Bool.false_or, zk_m1, zk_1m, zk_lt_4, zk_le_4, zk_gt_4, zk_ge_4, zk_eq_4, zk_qe_4, zk_ad_4, zk_da_4, zk_sb_4, zk_mu_4, zk_um_4, zk_gt_0, zk_le_0, zk_eq_0, zk_qe_0, zk_lt_0, zk_ge_0, d1, t4]
      refine zcall_q (sp_Ga_turn hE hBo hi4 d5 (by unfold dsg; omega) (hk i hi4)) ?_
      rintro v s5 n5 ⟨rfl, rfl, p3, p4⟩
      obtain ⟨q4, q5⟩ := q1.tr ⟨_, _, _, _, _, _, _, p3⟩ p4
      obtain ⟨-, e1, -⟩ := id q4
      obtain ⟨⟨vt5, t5⟩, -, -⟩ := GBs.o (h := ⟨_, _, _, _, _, _, _, p3⟩)
      refine zrun_okZ (ok_X12_next hM hTH (by omega) hX) (fun _ => false) 26 _ _ _ _ _ _ _ (fun Z hZ => ?_)
      simp (disch := omega) only [f_X12_next_0 hZ, f_X12_next_1 hZ, f_X12_next_2 hZ, f_X12_next_5 hZ, f_X12_next_6 hZ, f_X12_next_7 hZ, f_X12_next_8 hZ, f_X12_next_11 hZ, f_X12_next_12 hZ, f_X12_next_15 hZ, f_X12_next_18 hZ, f_X12_next_19 hZ, f_X12_next_22 hZ, f_X12_next_25 hZ, f_X12_next_28 hZ, f_X12_next_29 hZ, f_X12_next_32 hZ, f_X12_next_33 hZ, f_X12_next_34 hZ, f_X12_next_37 hZ, f_X12_next_38 hZ, f_X12_next_41 hZ, f_X12_next_42 hZ, f_X12_next_45 hZ, s_aload, s_iload, s_callVT, s_const, s_getf, s_callV, s_ireturn, zobj, zTX, zk1, ZRt, zp, zp0, Option.some.injEq, Value.int.injEq, Value.long.injEq, Value.ref.injEq, and_self, cond_true, cond_false, zget, zkd, zc_lt, zc_le, zc_0, zc_m, zc_m0, zc_10, zk0_n, zk0_i, zk0_r, zk0_0, zk0_l, zk0_d, zs1_0, zs1_1, zs1_s, zs2_0, zs2_1, zs2_s, zcs, List.getElem?_cons_zero, List.getElem?_cons_succ, List.set_cons_zero, List.set_cons_succ, List.drop_zero, List.drop_succ_cons, List.take_zero, List.take_succ_cons, List.reverse_cons, List.reverse_nil, List.nil_append, List.cons_append, List.length_cons, List.length_nil, List.map_cons, List.map_nil, List.sum_cons, List.sum_nil, Value.category, Option.toList_some, Option.toList_none, List.append_nil, nI_leI, nI_ltI, nI_eq, nI_add, pk_sub, Nat.add_sub_cancel, vp_in_nI, nI_clamp, true_implies, false_implies, implies_true, not_true_eq_false, not_false_eq_true, Nat.not_lt, Nat.not_le, if_true, if_false, eq_self, true_and, and_true, true_or, or_true, false_or, or_false, Nat.zero_add, Nat.add_zero, ↓reduceIte, Nat.reduceAdd, Nat.reduceSub, Nat.reduceLeDiff, Nat.reduceLT, Nat.reduceBEq, Nat.reduceEqDiff, reduceCtorEq, Nat.lt_add_one, Nat.le_refl, zv_cat, Bool.or_true, Bool.or_false, Bool.true_or, Bool.false_or, zk_m1, zk_1m, zk_lt_4, zk_le_4, zk_gt_4, zk_ge_4, zk_eq_4, zk_qe_4, zk_ad_4, zk_da_4, zk_sb_4, zk_mu_4, zk_um_4, zk_gt_0, zk_le_0, zk_eq_0, zk_qe_0, zk_lt_0, zk_ge_0, e1, t5]
      refine zcall_p (sp_Ga_turnNumber hE p3 hi4 (w := j) (by omega)) ?_
      refine zrun_okZ (ok_X12_next hM hTH (by omega) hX) (fun _ => false) 26 _ _ _ _ _ _ _ (fun Z hZ => ?_)
      simp (disch := omega) only [f_X12_next_0 hZ, f_X12_next_1 hZ, f_X12_next_2 hZ, f_X12_next_5 hZ, f_X12_next_6 hZ, f_X12_next_7 hZ, f_X12_next_8 hZ, f_X12_next_11 hZ, f_X12_next_12 hZ, f_X12_next_15 hZ, f_X12_next_18 hZ, f_X12_next_19 hZ, f_X12_next_22 hZ, f_X12_next_25 hZ, f_X12_next_28 hZ, f_X12_next_29 hZ, f_X12_next_32 hZ, f_X12_next_33 hZ, f_X12_next_34 hZ, f_X12_next_37 hZ, f_X12_next_38 hZ, f_X12_next_41 hZ, f_X12_next_42 hZ, f_X12_next_45 hZ, s_aload, s_iload, s_callVT, s_const, s_getf, s_callV, s_ireturn, zobj, zTX, zk1, ZRt, zp, zp0, Option.some.injEq, Value.int.injEq, Value.long.injEq, Value.ref.injEq, and_self, cond_true, cond_false, zget, zkd, zc_lt, zc_le, zc_0, zc_m, zc_m0, zc_10, zk0_n, zk0_i, zk0_r, zk0_0, zk0_l, zk0_d, zs1_0, zs1_1, zs1_s, zs2_0, zs2_1, zs2_s, zcs, List.getElem?_cons_zero, List.getElem?_cons_succ, List.set_cons_zero, List.set_cons_succ, List.drop_zero, List.drop_succ_cons, List.take_zero, List.take_succ_cons, List.reverse_cons, List.reverse_nil, List.nil_append, List.cons_append, List.length_cons, List.length_nil, List.map_cons, List.map_nil, List.sum_cons, List.sum_nil, Value.category, Option.toList_some, Option.toList_none, List.append_nil, nI_leI, nI_ltI, nI_eq, nI_add, pk_sub, Nat.add_sub_cancel, vp_in_nI, nI_clamp, true_implies, false_implies, implies_true, not_true_eq_false, not_false_eq_true, Nat.not_lt, Nat.not_le, if_true, if_false, eq_self, true_and, and_true, true_or, or_true, false_or, or_false, Nat.zero_add, Nat.add_zero, ↓reduceIte, Nat.reduceAdd, Nat.reduceSub, Nat.reduceLeDiff, Nat.reduceLT, Nat.reduceBEq, Nat.reduceEqDiff, reduceCtorEq, Nat.lt_add_one, Nat.le_refl, zv_cat, Bool.or_true, Bool.or_false, Bool.true_or, Bool.false_or, zk_m1, zk_1m, zk_lt_4, zk_le_4, zk_gt_4, zk_ge_4, zk_eq_4, zk_qe_4, zk_ad_4, zk_da_4, zk_sb_4, zk_mu_4, zk_um_4, zk_gt_0, zk_le_0, zk_eq_0, zk_qe_0, zk_lt_0, zk_ge_0]
      rw [nextR, ix2_s hi (by omega) (by omega) (by omega)]
      refine ⟨?_, rfl, ⟨ur, du, q4⟩, q2.tr q5⟩
      rw [tco_turn]
      exact (nextG_if (by omega)).symm
    · rintro cls s3 n3 ⟨rfl, rfl, hn, hw⟩
      exact zTX_i (raT_1 (by rw [nextR, ix2_b hi (by omega) (by omega) (fun j hj => hw j (by omega))]) hn) (by omega) (by omega)
  · rintro cls s2 n2 ⟨rfl, rfl, hn, hc⟩
    exact zTX_i (raT_1 (by rw [nextR, ix2_a (by omega) hc]) hn) (by omega) (by omega)
end
