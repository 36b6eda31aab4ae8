/-! THE CLASS: its cells, its checks -/
theorem ni_no1 {a : Int32} {m : Nat} (h : a < 0) (hm : m < 2 ^ 31) : a ≠ nI m := fun e => nI_pos hm (by rw [← e]; exact h)
theorem ni_yes {a : Int32} {m : Nat} (hm : m < 2 ^ 31) (h0 : ¬ a < 0) (h1 : a < nI m) : ∃ j, j < m ∧ a = nI j := zlt_of hm h0 (Int32.not_le.mpr h1)
theorem ni_no2 {a : Int32} {m k : Nat} (h1 : ¬ a < nI k) (hm : m < k) (hk : k < 2 ^ 31) : a ≠ nI m := fun e => h1 (by rw [e]; exact (nI_ltI (by omega) hk).mpr hm)
theorem ni_yes2 {a : Int32} {m : Nat} (hm : m + 1 < 2 ^ 31) (h0 : ¬ a < 0) (h1 : a ≤ nI m) : ∃ j, j ≤ m ∧ a = nI j := by
  rcases pk_ix a (show m + 1 < 2 ^ 31 by omega) with h | h | ⟨j, hj, rfl⟩
  · exact absurd h h0
  · exact absurd (Int32.le_trans h h1) (fun q => by have := (nI_leI (a := m + 1) (b := m) (by omega) (by omega)).mp q; omega)
  · exact ⟨j, by omega, rfl⟩
theorem ni_no3 {a : Int32} {m k : Nat} (h1 : ¬ a ≤ nI k) (hm : m ≤ k) (hk : k < 2 ^ 31) : a ≠ nI m := fun e => h1 (by rw [e]; exact (nI_leI (by omega) hk).mpr hm)
theorem one_0 {a : Int32} (h : ¬ a < 1) : ¬ a < 0 := fun q => h (Int32.lt_trans q (by decide))
theorem zcallT_q {E : ZEX} {d mc ms : Nat} {Mc : ZMY} {av : List Value} {σ : ZHp} {n k w d' mc' ms' : Nat} {P' : ZPT} {PX' : String → ZHp → Nat → Prop} {Kn : Option Value → ZHp → Nat → Nat → Nat → Prop} {KT : String → ZHp → Nat → Nat → Nat → Prop} (hs : ZSpecX E Mc d' mc' ms' av σ n P' PX') (hk : ∀ v σ' n', P' v σ' n' → Kn v σ' n' (k + mc') (w + ms')) (hx : ∀ cls σ' n', PX' cls σ' n' → KT cls σ' n' (k + mc') (w + ms')) (h1 : d' < d := by omega) (h2 : k + mc' ≤ mc := by omega) (h3 : w + ms' ≤ ms := by omega) : zcallT E d mc ms Mc av σ n k w Kn KT := ⟨d', mc', ms', P', PX', hs, h1, h2, h3, hk, hx⟩
def iobN : String := "java/lang/IndexOutOfBoundsException"
def iseN : String := "java/lang/IllegalStateException"
def iaeN : String := "java/lang/IllegalArgumentException"
def RUg (E : ZEX) (σ : ZHp) (u : Nat) : Prop := (∃ nc nm no, σ u = some (ruO u nc nm no)) ∧ (∀ r, rR r → ∃ f s, rwA E σ (u + r) (u + r + 1) (szR r) f s) ∧ (∃ kd, σ (u + 11) = some (.inl (zeA E 3, (40, .inr (.inr (.inr (.inr kd))))))) ∧ ∃ sz og xg, FMs E σ (u + 22) sz og xg
section
variable {E : ZEX} {σ σ' : ZHp} {n x u tl : Nat} {R : RU} {W : WM} {tb : Nat → Nat} {ep : Int32}
theorem RUg.q {lo m : Nat} (h : RUg E σ u) (hq : zeq lo m σ σ') (h1 : lo ≤ u := by omega) (h2 : u + 26 ≤ lo + m := by omega) : RUg E σ' u := by
  obtain ⟨⟨a, b, c, c1⟩, c2, ⟨kd, c3⟩, ⟨sz, og, xg, c4⟩⟩ := h
  refine ⟨⟨a, b, c, hq.a.trans c1⟩, fun r hr => ?_, ⟨kd, hq.a.trans c3⟩, ⟨sz, og, xg, c4.q hq⟩⟩
  obtain ⟨f, s, c5⟩ := c2 r hr
  unfold rR at hr
  exact ⟨f, s, c5.q hq⟩
theorem RUg.b (h : RUg E σ u) : ∃ F s, RUb E σ u F s := by
  have hh : ∀ r, ∃ p : (Nat → Int32) × Int32, rR r → rwA E σ (u + r) (u + r + 1) (szR r) p.1 p.2 := fun r => by
    by_cases hr : rR r
    · obtain ⟨f, s, h5⟩ := h.2.1 r hr
      exact ⟨(f, s), fun _ => h5⟩
    · exact ⟨(fun _ => 0, 0), fun q => absurd q hr⟩
  obtain ⟨G, hG⟩ := Classical.axiomOfChoice hh
  exact ⟨fun r => (G r).1, fun r => (G r).2, fun r hr => hG r hr⟩
theorem RUz.g (h : RUz E σ u) : RUg E σ u := ⟨⟨0, 0, 0, h.1⟩, fun r hr => ⟨_, _, h.2.1 r hr⟩, ⟨_, h.2.2.1⟩, ⟨0, fun _ => 0, fun _ => 0, h.2.2.2 _ _⟩⟩
theorem RLs.g (h : RLs E σ u R) : RUg E σ u := by
  obtain ⟨fco, fwo, fpi, fst, fde, fdc, fds, fom, foc, fot, kd, sz, og, xg, sc, sw, sp, sd, s1, s2, s3, s4, s5, r0, rc, rw_, rp, rs_, rd_, rk, r1, r2, r3, r4, r5, rf, rl⟩ := id h
  refine ⟨⟨_, _, _, r0⟩, fun r hr => ?_, ⟨_, rk⟩, ⟨_, _, _, rf⟩⟩
  unfold rR at hr
  rcases hr with rfl | rfl | rfl | rfl | rfl | rfl | rfl | rfl | rfl | rfl
  · exact ⟨_, _, rc⟩
  · exact ⟨_, _, rw_⟩
  · exact ⟨_, _, rp⟩
  · exact ⟨_, _, rs_⟩
  · exact ⟨_, _, rd_⟩
  · exact ⟨_, _, r1⟩
  · exact ⟨_, _, r2⟩
  · exact ⟨_, _, r3⟩
  · exact ⟨_, _, r4⟩
  · exact ⟨_, _, r5⟩
theorem RLs.ok (h : RLs E σ u R) : okR R ∧ σ u = some (rlO u R) := by
  obtain ⟨fco, fwo, fpi, fst, fde, fdc, fds, fom, foc, fot, kd, sz, og, xg, sc, sw, sp, sd, s1, s2, s3, s4, s5, r0, rc, rw_, rp, rs_, rd_, rk, r1, r2, r3, r4, r5, rf, rl⟩ := id h
  exact ⟨rl.1, r0⟩
/-- the class: tape x + 1, grammar x + 3, game x + 42, trial x + 125; the rules in force, those that are written next -/
def CLg (E : ZEX) (σ : ZHp) (x ur du : Nat) (R : RU) (W : WM) (tb : Nat → Nat) (tl : Nat) (ep : Int32) : Prop := ((ur = x + 58 ∧ du = x + 208) ∨ (ur = x + 208 ∧ du = x + 58)) ∧ σ x = some (.inr (11, [.ref (x + 1), .ref (x + 3), .ref (x + 42), .ref (x + 125), .ref du, .int ep])) ∧ TPs E σ (x + 1) tb tl ∧ GRz E σ (x + 3) ∧ GBs E σ (x + 42) ur W ∧ RLs E σ ur R ∧ RUg E σ du ∧ ∃ rt W', GBs E σ (x + 125) rt W'
def CLs (E : ZEX) (σ : ZHp) (x : Nat) (R : RU) (W : WM) (tb : Nat → Nat) (tl : Nat) (ep : Int32) : Prop := ∃ ur du, CLg E σ x ur du R W tb tl ep
theorem CLs.q {lo m : Nat} (h : CLs E σ x R W tb tl ep) (hq : zeq lo m σ σ') (h1 : lo ≤ x := by omega) (h2 : x + 234 ≤ lo + m := by omega) : CLs E σ' x R W tb tl ep := by
  obtain ⟨ur, du, hd, c1, c2, c3, c4, c5, c6, ⟨rt, W', c7⟩⟩ := h
  exact ⟨ur, du, hd, hq.a.trans c1, c2.a hq.a hq.a, c3.q hq, c4.q hq, c5.q hq, c6.q hq, ⟨rt, W', c7.q hq⟩⟩
/-- the market of a game, its cell, its rules -/
theorem GBs.o {g ur : Nat} (h : GBs E σ g ur W) : (∃ vs, σ g = some (.inr (1, .ref (g + 1) :: vs))) ∧ MKs E σ (g + 1) ur W ∧ σ (g + 1) = some (mkO (g + 1) ur (wrd W)) := by
  obtain ⟨t, x0, x1, x2, x3, x4, x5, c0, c1, -⟩ := h
  exact ⟨⟨_, c0⟩, c1, c1.1⟩
theorem sp_checkMerchant (hE : ZEOK E) (hTH : ZTH E) (h : CLs E σ x R W tb tl ep) (a : Int32) : ZSpecX E MX12_checkMerchant 8 1 6 [.ref x, .int a] σ n (fun v σ' n' => v = none ∧ n' = n ∧ σ' = σ ∧ ∃ m, m < rnm R ∧ a = nI m) (fun cls σ' n' => cls = iobN ∧ σ' = σ ∧ n ≤ n' ∧ ∀ m, m < rnm R → a ≠ nI m) := by
  obtain ⟨ur, du, hd, c1, c2, c3, c4, c5, c6, c7⟩ := h
  obtain ⟨⟨vs, g0⟩, -, m0⟩ := c4.o
  obtain ⟨hR, r0⟩ := c5.ok
  have b4 := hR.2.1
  unfold mkO at m0
  unfold rlO at r0
  refine ZSpecX_of hE (by decide +kernel) (Nat.le_of_ble_eq_true rfl) [some (.ref x), some (.int a)] rfl (fun X hM hX => ?_)
  refine zrun_okZ (ok_X12_checkMerchant hM hTH (by omega) hX) (fun _ => false) 13 _ _ _ _ _ _ _ (fun Z hZ => ?_)
  simp (disch := omega) only [f_X12_checkMerchant_0 hZ, f_X12_checkMerchant_1 hZ, f_X12_checkMerchant_4 hZ, f_X12_checkMerchant_5 hZ, f_X12_checkMerchant_6 hZ, f_X12_checkMerchant_9 hZ, f_X12_checkMerchant_12 hZ, f_X12_checkMerchant_15 hZ, f_X12_checkMerchant_18 hZ, f_X12_checkMerchant_21 hZ, f_X12_checkMerchant_31 hZ, s_iload, s_if_lt, s_aload, s_getf, s_icmp_lt, s_throw, s_return, zTX, zk1, ZRt, zp, zp0, Option.some.injEq, Value.int.injEq, Value.long.injEq, Value.ref.injEq, and_self, cond_true, cond_false, zget, zkd, zc_lt, zc_le, zc_0, zc_m, zc_m0, zc_10, zk0_n, zk0_i, zk0_r, zk0_0, zk0_l, zk0_d, zs1_0, zs1_1, zs1_s, zs2_0, zs2_1, zs2_s, zcs, List.getElem?_cons_zero, List.getElem?_cons_succ, List.set_cons_zero, List.set_cons_succ, List.drop_zero, List.drop_succ_cons, List.take_zero, List.take_succ_cons, List.reverse_cons, List.reverse_nil, List.nil_append, List.cons_append, List.length_cons, List.length_nil, List.map_cons, List.map_nil, List.sum_cons, List.sum_nil, Value.category, Option.toList_some, Option.toList_none, List.append_nil, nI_leI, nI_ltI, nI_eq, nI_add, pk_sub, Nat.add_sub_cancel, vp_in_nI, nI_clamp, true_implies, false_implies, implies_true, not_true_eq_false, not_false_eq_true, Nat.not_lt, Nat.not_le, if_true, if_false, eq_self, true_and, and_true, true_or, or_true, false_or, or_false, Nat.zero_add, Nat.add_zero, ↓reduceIte, Nat.reduceAdd, Nat.reduceSub, Nat.reduceLeDiff, Nat.reduceLT, Nat.reduceBEq, Nat.reduceEqDiff, reduceCtorEq, Nat.lt_add_one, Nat.le_refl, zv_cat, Bool.or_true, Bool.or_false, Bool.true_or, Bool.false_or, zk_m1, zk_1m, zk_gt_0, zk_le_0, zk_eq_0, zk_qe_0, zk_lt_0, zk_ge_0, c1, g0, m0, r0]
  exact ⟨fun h1 n' hn => ⟨rfl, hn, fun m hm => ni_no1 h1 (by omega)⟩, fun h1 => ⟨fun h2 => ni_yes (by omega) h1 h2, fun h2 n' hn => ⟨rfl, hn, fun m hm => ni_no2 h2 hm (by omega)⟩⟩⟩
theorem sp_checkCard (hE : ZEOK E) (hTH : ZTH E) (h : CLs E σ x R W tb tl ep) (a : Int32) : ZSpecX E MX12_checkCard 8 1 6 [.ref x, .int a] σ n (fun v σ' n' => v = none ∧ n' = n ∧ σ' = σ ∧ ∃ m, m < rnc R ∧ a = nI m) (fun cls σ' n' => cls = iobN ∧ σ' = σ ∧ n ≤ n' ∧ ∀ m, m < rnc R → a ≠ nI m) := by
  obtain ⟨ur, du, hd, c1, c2, c3, c4, c5, c6, c7⟩ := h
  obtain ⟨⟨vs, g0⟩, -, m0⟩ := c4.o
  obtain ⟨hR, r0⟩ := c5.ok
  have b4 := hR.1
  unfold mkO at m0
  unfold rlO at r0
  refine ZSpecX_of hE (by decide +kernel) (Nat.le_of_ble_eq_true rfl) [some (.ref x), some (.int a)] rfl (fun X hM hX => ?_)
  refine zrun_okZ (ok_X12_checkCard hM hTH (by omega) hX) (fun _ => false) 13 _ _ _ _ _ _ _ (fun Z hZ => ?_)
  simp (disch := omega) only [f_X12_checkCard_0 hZ, f_X12_checkCard_1 hZ, f_X12_checkCard_4 hZ, f_X12_checkCard_5 hZ, f_X12_checkCard_6 hZ, f_X12_checkCard_9 hZ, f_X12_checkCard_12 hZ, f_X12_checkCard_15 hZ, f_X12_checkCard_18 hZ, f_X12_checkCard_21 hZ, f_X12_checkCard_31 hZ, s_iload, s_if_lt, s_aload, s_getf, s_icmp_lt, s_throw, s_return, zTX, zk1, ZRt, zp, zp0, Option.some.injEq, Value.int.injEq, Value.long.injEq, Value.ref.injEq, and_self, cond_true, cond_false, zget, zkd, zc_lt, zc_le, zc_0, zc_m, zc_m0, zc_10, zk0_n, zk0_i, zk0_r, zk0_0, zk0_l, zk0_d, zs1_0, zs1_1, zs1_s, zs2_0, zs2_1, zs2_s, zcs, List.getElem?_cons_zero, List.getElem?_cons_succ, List.set_cons_zero, List.set_cons_succ, List.drop_zero, List.drop_succ_cons, List.take_zero, List.take_succ_cons, List.reverse_cons, List.reverse_nil, List.nil_append, List.cons_append, List.length_cons, List.length_nil, List.map_cons, List.map_nil, List.sum_cons, List.sum_nil, Value.category, Option.toList_some, Option.toList_none, List.append_nil, nI_leI, nI_ltI, nI_eq, nI_add, pk_sub, Nat.add_sub_cancel, vp_in_nI, nI_clamp, true_implies, false_implies, implies_true, not_true_eq_false, not_false_eq_true, Nat.not_lt, Nat.not_le, if_true, if_false, eq_self, true_and, and_true, true_or, or_true, false_or, or_false, Nat.zero_add, Nat.add_zero, ↓reduceIte, Nat.reduceAdd, Nat.reduceSub, Nat.reduceLeDiff, Nat.reduceLT, Nat.reduceBEq, Nat.reduceEqDiff, reduceCtorEq, Nat.lt_add_one, Nat.le_refl, zv_cat, Bool.or_true, Bool.or_false, Bool.true_or, Bool.false_or, zk_m1, zk_1m, zk_gt_0, zk_le_0, zk_eq_0, zk_qe_0, zk_lt_0, zk_ge_0, c1, g0, m0, r0]
  exact ⟨fun h1 n' hn => ⟨rfl, hn, fun m hm => ni_no1 h1 (by omega)⟩, fun h1 => ⟨fun h2 => ni_yes (by omega) h1 h2, fun h2 n' hn => ⟨rfl, hn, fun m hm => ni_no2 h2 hm (by omega)⟩⟩⟩
theorem sp_checkPlace (hE : ZEOK E) (hTH : ZTH E) (a : Int32) {s : Nat} (hs : s < 2 ^ 31) : ZSpecX E MX12_checkPlace 8 1 6 [.ref x, .int a, .int (nI s)] σ n (fun v σ' n' => v = none ∧ n' = n ∧ σ' = σ ∧ ∃ m, m < s ∧ a = nI m) (fun cls σ' n' => cls = iobN ∧ σ' = σ ∧ n ≤ n' ∧ ∀ m, m < s → a ≠ nI m) := by
  refine ZSpecX_of hE (by decide +kernel) (Nat.le_of_ble_eq_true rfl) [some (.ref x), some (.int a), some (.int (nI s))] rfl (fun X hM hX => ?_)
  refine zrun_okZ (ok_X12_checkPlace hM hTH (by omega) hX) (fun _ => false) 9 _ _ _ _ _ _ _ (fun Z hZ => ?_)
  simp (disch := omega) only [f_X12_checkPlace_0 hZ, f_X12_checkPlace_1 hZ, f_X12_checkPlace_4 hZ, f_X12_checkPlace_5 hZ, f_X12_checkPlace_6 hZ, f_X12_checkPlace_9 hZ, f_X12_checkPlace_19 hZ, s_iload, s_if_lt, s_icmp_lt, s_throw, s_return, zTX, zk1, ZRt, zp, zp0, Option.some.injEq, Value.int.injEq, Value.long.injEq, Value.ref.injEq, and_self, cond_true, cond_false, zget, zkd, zc_lt, zc_le, zc_0, zc_m, zc_m0, zc_10, zk0_n, zk0_i, zk0_r, zk0_0, zk0_l, zk0_d, zs1_0, zs1_1, zs1_s, zs2_0, zs2_1, zs2_s, zcs, List.getElem?_cons_zero, List.getElem?_cons_succ, List.set_cons_zero, List.set_cons_succ, List.drop_zero, List.drop_succ_cons, List.take_zero, List.take_succ_cons, List.reverse_cons, List.reverse_nil, List.nil_append, List.cons_append, List.length_cons, List.length_nil, List.map_cons, List.map_nil, List.sum_cons, List.sum_nil, Value.category, Option.toList_some, Option.toList_none, List.append_nil, nI_leI, nI_ltI, nI_eq, nI_add, pk_sub, Nat.add_sub_cancel, vp_in_nI, nI_clamp, true_implies, false_implies, implies_true, not_true_eq_false, not_false_eq_true, Nat.not_lt, Nat.not_le, if_true, if_false, eq_self, true_and, and_true, true_or, or_true, false_or, or_false, Nat.zero_add, Nat.add_zero, ↓reduceIte, Nat.reduceAdd, Nat.reduceSub, Nat.reduceLeDiff, Nat.reduceLT, Nat.reduceBEq, Nat.reduceEqDiff, reduceCtorEq, Nat.lt_add_one, Nat.le_refl, zv_cat, Bool.or_true, Bool.or_false, Bool.true_or, Bool.false_or, zk_m1, zk_1m, zk_gt_0, zk_le_0, zk_eq_0, zk_qe_0, zk_lt_0, zk_ge_0]
  exact ⟨fun h1 n' hn => ⟨rfl, hn, fun m hm => ni_no1 h1 (by omega)⟩, fun h1 => ⟨fun h2 => ni_yes (by omega) h1 h2, fun h2 n' hn => ⟨rfl, hn, fun m hm => ni_no2 h2 hm (by omega)⟩⟩⟩
theorem sp_checkWhat (hE : ZEOK E) (hTH : ZTH E) (a : Int32) {s : Nat} (hs : s < 2 ^ 30) : ZSpecX E MX12_checkWhat 8 1 6 [.ref x, .int a, .int (nI s)] σ n (fun v σ' n' => v = none ∧ n' = n ∧ σ' = σ ∧ ∃ m, m ≤ s ∧ a = nI m) (fun cls σ' n' => cls = iobN ∧ σ' = σ ∧ n ≤ n' ∧ ∀ m, m ≤ s → a ≠ nI m) := by
  refine ZSpecX_of hE (by decide +kernel) (Nat.le_of_ble_eq_true rfl) [some (.ref x), some (.int a), some (.int (nI s))] rfl (fun X hM hX => ?_)
  refine zrun_okZ (ok_X12_checkWhat hM hTH (by omega) hX) (fun _ => false) 9 _ _ _ _ _ _ _ (fun Z hZ => ?_)
  simp (disch := omega) only [f_X12_checkWhat_0 hZ, f_X12_checkWhat_1 hZ, f_X12_checkWhat_4 hZ, f_X12_checkWhat_5 hZ, f_X12_checkWhat_6 hZ, f_X12_checkWhat_9 hZ, f_X12_checkWhat_19 hZ, s_iload, s_if_lt, s_icmp_le, s_throw, s_return, zTX, zk1, ZRt, zp, zp0, Option.some.injEq, Value.int.injEq, Value.long.injEq, Value.ref.injEq, and_self, cond_true, cond_false, zget, zkd, zc_lt, zc_le, zc_0, zc_m, zc_m0, zc_10, zk0_n, zk0_i, zk0_r, zk0_0, zk0_l, zk0_d, zs1_0, zs1_1, zs1_s, zs2_0, zs2_1, zs2_s, zcs, List.getElem?_cons_zero, List.getElem?_cons_succ, List.set_cons_zero, List.set_cons_succ, List.drop_zero, List.drop_succ_cons, List.take_zero, List.take_succ_cons, List.reverse_cons, List.reverse_nil, List.nil_append, List.cons_append, List.length_cons, List.length_nil, List.map_cons, List.map_nil, List.sum_cons, List.sum_nil, Value.category, Option.toList_some, Option.toList_none, List.append_nil, nI_leI, nI_ltI, nI_eq, nI_add, pk_sub, Nat.add_sub_cancel, vp_in_nI, nI_clamp, true_implies, false_implies, implies_true, not_true_eq_false, not_false_eq_true, Nat.not_lt, Nat.not_le, if_true, if_false, eq_self, true_and, and_true, true_or, or_true, false_or, or_false, Nat.zero_add, Nat.add_zero, ↓reduceIte, Nat.reduceAdd, Nat.reduceSub, Nat.reduceLeDiff, Nat.reduceLT, Nat.reduceBEq, Nat.reduceEqDiff, reduceCtorEq, Nat.lt_add_one, Nat.le_refl, zv_cat, Bool.or_true, Bool.or_false, Bool.true_or, Bool.false_or, zk_m1, zk_1m, zk_gt_0, zk_le_0, zk_eq_0, zk_qe_0, zk_lt_0, zk_ge_0]
  exact ⟨fun h1 n' hn => ⟨rfl, hn, fun m hm => ni_no1 h1 (by omega)⟩, fun h1 => ⟨fun h2 => ni_yes2 (by omega) h1 h2, fun h2 n' hn => ⟨rfl, hn, fun m hm => ni_no3 h2 hm (by omega)⟩⟩⟩
theorem sp_checkRounds (hE : ZEOK E) (hTH : ZTH E) (a : Int32) {s : Nat} (hs : s < 2 ^ 30) : ZSpecX E MX12_checkRounds 8 1 6 [.ref x, .int a, .int (nI s)] σ n (fun v σ' n' => v = none ∧ n' = n ∧ σ' = σ ∧ ∃ m, 1 ≤ m ∧ m ≤ s ∧ a = nI m) (fun cls σ' n' => cls = iaeN ∧ σ' = σ ∧ n ≤ n' ∧ ∀ m, 1 ≤ m → m ≤ s → a ≠ nI m) := by
  refine ZSpecX_of hE (by decide +kernel) (Nat.le_of_ble_eq_true rfl) [some (.ref x), some (.int a), some (.int (nI s))] rfl (fun X hM hX => ?_)
  refine zrun_okZ (ok_X12_checkRounds hM hTH (by omega) hX) (fun _ => false) 10 _ _ _ _ _ _ _ (fun Z hZ => ?_)
  simp (disch := omega) only [f_X12_checkRounds_0 hZ, f_X12_checkRounds_1 hZ, f_X12_checkRounds_2 hZ, f_X12_checkRounds_5 hZ, f_X12_checkRounds_6 hZ, f_X12_checkRounds_7 hZ, f_X12_checkRounds_10 hZ, f_X12_checkRounds_20 hZ, s_iload, s_const, s_icmp_lt, s_icmp_le, s_throw, s_return, zTX, zk1, ZRt, zp, zp0, Option.some.injEq, Value.int.injEq, Value.long.injEq, Value.ref.injEq, and_self, cond_true, cond_false, zget, zkd, zc_lt, zc_le, zc_0, zc_m, zc_m0, zc_10, zk0_n, zk0_i, zk0_r, zk0_0, zk0_l, zk0_d, zs1_0, zs1_1, zs1_s, zs2_0, zs2_1, zs2_s, zcs, List.getElem?_cons_zero, List.getElem?_cons_succ, List.set_cons_zero, List.set_cons_succ, List.drop_zero, List.drop_succ_cons, List.take_zero, List.take_succ_cons, List.reverse_cons, List.reverse_nil, List.nil_append, List.cons_append, List.length_cons, List.length_nil, List.map_cons, List.map_nil, List.sum_cons, List.sum_nil, Value.category, Option.toList_some, Option.toList_none, List.append_nil, nI_leI, nI_ltI, nI_eq, nI_add, pk_sub, Nat.add_sub_cancel, vp_in_nI, nI_clamp, true_implies, false_implies, implies_true, not_true_eq_false, not_false_eq_true, Nat.not_lt, Nat.not_le, if_true, if_false, eq_self, true_and, and_true, true_or, or_true, false_or, or_false, Nat.zero_add, Nat.add_zero, ↓reduceIte, Nat.reduceAdd, Nat.reduceSub, Nat.reduceLeDiff, Nat.reduceLT, Nat.reduceBEq, Nat.reduceEqDiff, reduceCtorEq, Nat.lt_add_one, Nat.le_refl, zv_cat, Bool.or_true, Bool.or_false, Bool.true_or, Bool.false_or, zk_m1, zk_1m, zk_lt_1, zk_le_1, zk_gt_1, zk_ge_1, zk_eq_1, zk_qe_1, zk_ad_1, zk_da_1, zk_sb_1, zk_mu_1, zk_um_1, zk_gt_0, zk_le_0, zk_eq_0, zk_qe_0, zk_lt_0, zk_ge_0]
  refine ⟨fun h1 n' hn => ⟨rfl, hn, fun m hm1 hm e => ?_⟩, fun h1 => ⟨fun h2 => ?_, fun h2 n' hn => ⟨rfl, hn, fun m hm1 hm => ni_no3 h2 hm (by omega)⟩⟩⟩
  · rw [e] at h1
    have := (zk_lt_1 (n := m) (by omega)).mp h1
    omega
  · obtain ⟨j, hj, rfl⟩ := ni_yes2 (by omega) (one_0 h1) h2
    exact ⟨j, Nat.not_lt.mp (fun q => h1 ((zk_lt_1 (n := j) (by omega)).mpr q)), hj, rfl⟩
end
