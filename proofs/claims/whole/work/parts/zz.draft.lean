/-! THE CLASS: the scribe begins -/
section
variable {E : ZEX} {σ σ' : ZHp} {n sc u tl k sz : Nat} {tb : Nat → Nat} {S : SA} {num : Int32} {off oof : Nat → Nat} {a b : Bool}
theorem sp_Sc_begin (hE : ZEOK E) {u0 : Nat} {er ep : Int32} {fn fm : Nat → Int64} {F : Nat → Nat → Int32} {s : Nat → Int32} {kd : Nat → Option Nat} (c1 : σ sc = some (scO sc u0 er ep num)) (c2 : laR E σ (sc + 1) 10 fn) (c3 : laR E σ (sc + 2) 4 fm) (c4 : σ u = some (ruO u 0 0 0)) (c5 : RUb E σ u F s) (c6 : σ (u + 11) = some (.inl (zeA E 3, (40, .inr (.inr (.inr (.inr kd))))))) (hs : s 7 = 0) (hz : ∀ r i, (r = 1 ∨ r = 3 ∨ r = 5 ∨ r = 9) → i < 10 → F r i = 0) (hd : sc + 3 ≤ u ∨ u + 26 ≤ sc) : ZSpec E MX7_begin 1 0 0 [.ref sc, .ref u] σ n (fun w σ' n' => w = none ∧ n' = n ∧ SCs E σ' sc u tb tl zeroA off oof true true num ∧ zfr sc 1 σ σ') := by
  have c1' := c1
  unfold scO at c1'
  have n00 : (0 : Int32) = nI 0 := rfl
  obtain ⟨H, hH⟩ : ∃ H, H = zup (zup (zup σ sc (scO sc u er ep num)) sc (scO sc u 0 ep num)) sc (scO sc u 0 (-1) num) := ⟨_, rfl⟩
  have g : ∀ x, x ≠ sc → H x = σ x := fun x hx => by rw [hH, zup_n hx, zup_n hx, zup_n hx]
  have h1 : H sc = some (scO sc u 0 (-1) num) := by rw [hH]; exact zup_s _ _ _
  have fin : SCs E H sc u tb tl zeroA off oof true true num ∧ zfr sc 1 σ H := by
    refine ⟨⟨F, kd, s, fn, fm, h1, (g _ (by omega)).trans c2, (g _ (by omega)).trans c3, (g _ (by omega)).trans c4, c5.f (fun x h1 h2 => g x (by omega)), (g _ (by omega)).trans c6, ⟨hs, fun c hc => ⟨hz 1 c (by omega) hc, hz 3 c (by omega) hc, hz 5 c (by omega) hc, hz 9 c (by omega) hc⟩, fun i hi => absurd hi (Nat.not_lt_zero i), fun c d hc => absurd hc (Nat.not_lt_zero c), fun o ho => absurd ho (Nat.not_lt_zero o), fun o ho => ?_, fun o ho => ?_⟩, fun i hi => absurd hi (Nat.not_lt_zero i), fun i hi => absurd hi (Nat.not_lt_zero i)⟩, fun x hx => g x (by omega)⟩
    · have ho' : o + 1 < 0 ∨ (o < 0 ∧ aer zeroA = 0 ∧ true = true) := ho
      omega
    · have ho' : o + 1 < 0 ∨ (o < 0 ∧ aer zeroA = 0 ∧ true = true) := ho
      omega
  rw [hH] at fin
  unfold scO at fin
  refine ZSpec_of hE (by decide +kernel) (Nat.le_of_ble_eq_true rfl) [some (.ref sc), some (.ref u)] rfl (fun X hX => ?_)
  refine zrun_okZ (ok_X7_begin hX) (fun _ => false) 12 _ _ _ _ _ _ _ (fun Z hZ => ?_)
  simp (disch := omega) only [f_X7_begin_0 hZ, f_X7_begin_1 hZ, f_X7_begin_2 hZ, f_X7_begin_5 hZ, f_X7_begin_6 hZ, f_X7_begin_7 hZ, f_X7_begin_10 hZ, f_X7_begin_11 hZ, f_X7_begin_12 hZ, f_X7_begin_15 hZ, s_aload, s_putf, s_const, s_return, zk1, ZRt, zp, zp0, Option.some.injEq, Value.int.injEq, Value.long.injEq, Value.ref.injEq, and_self, cond_true, cond_false, zget, zkd, zc_lt, zc_le, zc_0, zc_m, zc_m0, zc_10, zk0_n, zk0_i, zk0_r, zk0_0, zk0_l, zk0_d, zs1_0, zs1_1, zs1_s, zs2_0, zs2_1, zs2_s, zcs, List.getElem?_cons_zero, List.getElem?_cons_succ, List.set_cons_zero, List.set_cons_succ, List.drop_zero, List.drop_succ_cons, List.take_zero, List.take_succ_cons, List.reverse_cons, List.reverse_nil, List.nil_append, List.cons_append, List.length_cons, List.length_nil, List.map_cons, List.map_nil, List.sum_cons, List.sum_nil, Value.category, Option.toList_some, Option.toList_none, List.append_nil, nI_leI, nI_ltI, nI_eq, nI_add, pk_sub, Nat.add_sub_cancel, vp_in_nI, nI_clamp, true_implies, false_implies, implies_true, not_true_eq_false, not_false_eq_true, Nat.not_lt, Nat.not_le, if_true, if_false, eq_self, true_and, and_true, true_or, or_true, false_or, or_false, Nat.zero_add, Nat.add_zero, ↓reduceIte, Nat.reduceAdd, Nat.reduceSub, Nat.reduceLeDiff, Nat.reduceLT, Nat.reduceBEq, Nat.reduceEqDiff, reduceCtorEq, Nat.lt_add_one, Nat.le_refl, zv_cat, Bool.or_true, Bool.or_false, Bool.true_or, Bool.false_or, zk_m1, zk_1m, zk_gt_0, zk_le_0, zk_eq_0, zk_qe_0, zk_lt_0, zk_ge_0, c1', c4, zup_s]
  exact fin
end
