/-! THE REFERENCE reckons -/
theorem pLp_le {K : Nat → Nat} {a b : Nat} {item : Nat → PR} (hi : ∀ p e F, item p = some (e, F) → p < e ∧ e ≤ 400) : ∀ {q p : Nat} {F : FM} {e : Nat} {G : FM}, p ≤ 400 → pLp K a b item q p F = some (e, G) → p ≤ e ∧ e ≤ 400
  | 0, _, _, _, _, _, h => by cases h
  | q + 1, p, F, e, G, hp, h => by
    unfold pLp at h
    split at h
    · split at h
      · cases h
      · rename_i e1 G1 h1
        have := hi _ _ _ h1
        have h2 := pLp_le hi (by omega) h
        omega
    · cases h; exact ⟨Nat.le_refl _, hp⟩
theorem pJn_le {K : Nat → Nat} {a b : Nat} {item : Nat → PR} (hi : ∀ p e F, item p = some (e, F) → p < e ∧ e ≤ 400) : ∀ p e F, pJn K a b item p = some (e, F) → p < e ∧ e ≤ 400 := by
  intro p e F h
  unfold pJn at h
  split at h
  · cases h
  · rename_i e1 G1 h1
    have := hi _ _ _ h1
    have h2 := pLp_le hi (by omega) h
    omega
theorem pVl_le {K : Nat → Nat} {X : Nat → Int32} (hK : ∀ p, 400 ≤ p → K p = 0 ∨ K p = 1 ∨ K p = 5) {v : Option (Nat → PR)} (hv : ∀ w, v = some w → ∀ p e F, w p = some (e, F) → p < e ∧ e ≤ 400) : ∀ p e F, pVl K X v p = some (e, F) → p < e ∧ e ≤ 400 := by
  intro p e F h
  have h400 : ¬ (K p = 0 ∨ K p = 1 ∨ K p = 5) → p < 400 := fun h => by
    by_cases h2 : 400 ≤ p
    · exact absurd (hK p h2) h
    · omega
  have h401 : ¬ (K (p + 1) = 0 ∨ K (p + 1) = 1 ∨ K (p + 1) = 5) → p + 1 < 400 := fun h => by
    by_cases h2 : 400 ≤ p + 1
    · exact absurd (hK _ h2) h
    · omega
  have hC : ∀ e, K e = 32 → e < 400 := fun e h => by
    by_cases h2 : 400 ≤ e
    · have := hK _ h2; omega
    · omega
  unfold pVl at h
  split at h
  · cases v with
    | none => cases h
    | some w =>
      simp only at h
      split at h
      · cases h
      · rename_i e1 G1 h1
        have := hv w rfl _ _ _ h1
        cases h
        omega
  · split at h
    · cases h
      have := h400 (by omega)
      omega
    · split at h
      · split at h
        · cases h
          have := h401 (by omega)
          omega
        · cases h
      · split at h
        · cases v with
          | none => cases h
          | some w =>
            have hs : ∀ p e F, pSm K w p = some (e, F) → p < e ∧ e ≤ 400 := pJn_le (pJn_le (hv w rfl))
            simp only at h
            split at h
            · split at h
              · cases h
              · rename_i e1 G1 h1
                have := hs _ _ _ h1
                split at h
                · split at h
                  · cases h
                  · rename_i e2 G2 h2
                    have := hs _ _ _ h2
                    split at h
                    · rename_i h3
                      have := hC _ h3
                      cases h
                      omega
                    · cases h
                · cases h
            · cases h
        · split at h
          · cases v with
            | none => cases h
            | some w =>
              have hs : ∀ p e F, pSm K w p = some (e, F) → p < e ∧ e ≤ 400 := pJn_le (pJn_le (hv w rfl))
              simp only at h
              split at h
              · cases h
              · rename_i e1 G1 h1
                have := hs _ _ _ h1
                split at h
                · rename_i h3
                  have := hC _ h3
                  cases h
                  omega
                · cases h
          · cases h
theorem pV_le {K : Nat → Nat} {X : Nat → Int32} (hK : ∀ p, 400 ≤ p → K p = 0 ∨ K p = 1 ∨ K p = 5) : ∀ r p e F, pV K X r p = some (e, F) → p < e ∧ e ≤ 400
  | 0 => pVl_le hK (fun w h => by cases h)
  | r + 1 => pVl_le hK (fun w h => by cases h; exact pV_le hK r)
theorem pS_le {K : Nat → Nat} {X : Nat → Int32} (hK : ∀ p, 400 ≤ p → K p = 0 ∨ K p = 1 ∨ K p = 5) (r : Nat) : ∀ p e F, pS K X r p = some (e, F) → p < e ∧ e ≤ 400 := pJn_le (pJn_le (pV_le hK r))
def moO (x sh so m : Nat) (Q : Nat → Int32) (wk pl : Int32) (S : GS) : va_E := .inr (14, [.int (Q 0), .ref (x + 1), .int (Q 1), .int (Q 2), .int (Q 3), .int (Q 4), .ref sh, .ref (x + 19), .ref (x + 32), .int wk, .ref so, .int (nI m), .ref (x + 45), .int (nI (ghl S)), .int pl, .ref (x + 46), .int (gco S), .int (gbu S), .int (Q 5), .int (Q 6), .int (gct S), .int (gcb S), .int (Q 7)])
/-- the tokens of a list that was read, as they are reckoned -/
def SHe (E : ZEX) (σ : ZHp) (sh : Nat) (K : Nat → Nat) (X : Nat → Int32) : Prop := ∃ (vs : List Value) (fk fm : Nat → Int32), σ sh = some (.inr (12, vs)) ∧ vs[0]? = some (.ref (sh + 1)) ∧ vs[3]? = some (.ref (sh + 4)) ∧ iar E σ (sh + 1) 401 fk ∧ iar E σ (sh + 4) 401 fm ∧ (∀ i, i < 401 → fk i = nI (rkc (K i))) ∧ (∀ i, i < 401 → K i = 3 → fm i = X i) ∧ (∀ i, i < 400 → K i = 22 ∨ K i = 23 ∨ K i = 24 → K (i + 1) = 2 → fm (i + 1) = X (i + 1) ∧ ∃ j, j < 10 ∧ X (i + 1) = nI j)
theorem SHe.q {E : ZEX} {σ σ' : ZHp} {sh : Nat} {K : Nat → Nat} {X : Nat → Int32} (h : SHe E σ sh K X) (hq : zeq sh 17 σ σ') : SHe E σ' sh K X := by
  obtain ⟨vs, fk, fm, h0, h1, h2, h3, h4, h5⟩ := h
  exact ⟨vs, fk, fm, hq.a.trans h0, h1, h2, hq.a.trans h3, hq.a.trans h4, h5⟩
def RTs (E : ZEX) (σ : ZHp) (x sh so nm m : Nat) (Q : Nat → Int32) (rd : Int32) (tr : Nat → TM) (K : Nat → Nat) (X : Nat → Int32) (wk pl : Int32) (S : GS) : Prop := σ x = some (moO x sh so m Q wk pl S) ∧ SRs E σ so nm (sumT ttr (updT tr m (gtr S)) nm) (sumT tbo (updT tr m (gtr S)) nm) (gW rd tr m S) ∧ (∃ fh : Nat → Int32, iar E σ (x + 45) 60 fh ∧ ghl S ≤ 60 ∧ ∀ i, i < ghl S → fh i = ghd S i) ∧ (∃ ft : Nat → Int32, iar E σ (x + 46) 10 ft ∧ ∀ c, c < 10 → ft c = gpl S c) ∧ SHe E σ sh K X
/-- where things lie -/
def lay (x sh so : Nat) : Prop := (so = x + 19 ∨ so = x + 32) ∧ (sh + 17 ≤ x ∨ x + 47 ≤ sh ∨ sh = x + 2)
section
variable {E : ZEX} {σ σ' : ZHp} {n x sh so nm m : Nat} {Q : Nat → Int32} {rd : Int32} {tr : Nat → TM} {K : Nat → Nat} {XO : Nat → Int32} {wk pl : Int32} {S : GS}
theorem RTs.walk (h : RTs E σ x sh so nm m Q rd tr K XO wk pl S) (hl : lay x sh so) (wk' : Int32) : RTs E (zup σ x (moO x sh so m Q wk' pl S)) x sh so nm m Q rd tr K XO wk' pl S := by
  obtain ⟨h0, h1, ⟨fh, h2, h3⟩, ⟨ft, h4, h5⟩, h6⟩ := h
  unfold lay at hl
  exact ⟨zup_s _ _ _, h1.q (lo := so) (n := 13) zeq.up, ⟨fh, (zup_n (by omega)).trans h2, h3⟩, ⟨ft, (zup_n (by omega)).trans h4, h5⟩, h6.q zeq.up⟩
theorem sp_Mo_isIn (hE : ZEOK E) {a b c : Int32} : ZSpec E MX15_isIn 1 0 0 [.int a, .int b, .int c] σ n (zp (.int (if b ≤ a ∧ a ≤ c then 1 else 0)) σ n) := by
  refine ZSpec_of hE (by decide +kernel) (Nat.le_of_ble_eq_true rfl) [some (.int a), some (.int b), some (.int c)] rfl (fun X hX => ?_)
  refine zrun_okZ (ok_X15_isIn hX) (fun _ => false) 12 _ _ _ _ _ _ _ (fun Z hZ => ?_)
  simp (disch := omega) only [f_X15_isIn_0 hZ, f_X15_isIn_1 hZ, f_X15_isIn_2 hZ, f_X15_isIn_5 hZ, f_X15_isIn_6 hZ, f_X15_isIn_7 hZ, f_X15_isIn_10 hZ, f_X15_isIn_11 hZ, f_X15_isIn_14 hZ, f_X15_isIn_15 hZ, s_iload, s_icmp_lt, s_icmp_gt, s_const, s_goto, s_zreturn, zk1, ZRt, zp, zp0, Option.some.injEq, Value.int.injEq, Value.long.injEq, Value.ref.injEq, and_self, cond_true, cond_false, zget, zkd, zc_lt, zc_le, zc_0, zc_m, zc_m0, zc_10, zk0_n, zk0_i, zk0_r, zk0_0, zk0_l, zk0_d, zs1_0, zs1_1, zs1_s, zs2_0, zs2_1, zs2_s, zcs, List.getElem?_cons_zero, List.getElem?_cons_succ, List.set_cons_zero, List.set_cons_succ, List.drop_zero, List.drop_succ_cons, List.take_zero, List.take_succ_cons, List.reverse_cons, List.reverse_nil, List.nil_append, List.cons_append, List.length_cons, List.length_nil, List.map_cons, List.map_nil, List.sum_cons, List.sum_nil, Value.category, Option.toList_some, Option.toList_none, List.append_nil, nI_leI, nI_ltI, nI_eq, nI_add, pk_sub, Nat.add_sub_cancel, vp_in_nI, nI_clamp, true_implies, false_implies, implies_true, not_true_eq_false, not_false_eq_true, Nat.not_lt, Nat.not_le, if_true, if_false, eq_self, true_and, and_true, true_or, or_true, false_or, or_false, Nat.zero_add, Nat.add_zero, ↓reduceIte, Nat.reduceAdd, Nat.reduceSub, Nat.reduceLeDiff, Nat.reduceLT, Nat.reduceBEq, Nat.reduceEqDiff, reduceCtorEq, Nat.lt_add_one, Nat.le_refl, zv_cat, Bool.or_true, Bool.or_false, Bool.true_or, Bool.false_or, zk_m1, zk_1m, zk_lt_1, zk_le_1, zk_gt_1, zk_ge_1, zk_eq_1, zk_qe_1, zk_ad_1, zk_da_1, zk_sb_1, zk_mu_1, zk_um_1, zk_gt_0, zk_le_0, zk_eq_0, zk_qe_0, zk_lt_0, zk_ge_0]
  refine ⟨fun h => ?_, fun h => ⟨fun h2 => ?_, fun h2 => ?_⟩⟩
  · rw [if_neg (fun q => absurd q.1 (Int32.not_le.mpr h))]
  · rw [if_neg (fun q => absurd q.2 (Int32.not_le.mpr h2))]
  · rw [if_pos ⟨Int32.not_lt.mp h, Int32.not_lt.mp h2⟩]
theorem sp_Mo_owned (hE : ZEOK E) {nc j : Nat} (h : RTs E σ x sh so nm m Q rd tr K XO wk pl S) (hm : m < nm) (hn : nm ≤ 4) (hk : okS nc S) (hj : j < 10) : ZSpec E MX15_owned 2 0 0 [.ref x, .int (nI j)] σ n (zp (.int (tow (gtr S) j)) σ n) := by
  obtain ⟨h0, h1, ⟨fh, h2, h3, h3'⟩, ⟨ft, h4, h5⟩, h6⟩ := h
  have o0 : ∃ y, σ so = some (.inr (13, y)) := by
    obtain ⟨fpi, fpl, fbo, fdk, fdl, faw, fal, fsd, ftr, fbu, fla, fsh, o0, a1, a2, a3, a4, a5, a6, a7, a8, a9, a10, a11, a12, oc, om⟩ := id h1
    exact ⟨_, o0⟩
  obtain ⟨y, o0⟩ := o0
  unfold moO at h0
  unfold iar at h2
  rw [hk.2.2.2 j hj]
  refine ZSpec_of hE (by decide +kernel) (Nat.le_of_ble_eq_true rfl) [some (.ref x), some (.int (nI j)), none, none] rfl (fun X hX => ?_)
  have loop : ∀ (q i : Nat), i + q = ghl S → ZG E X MX15_owned 15 [some (.ref x), some (.int (nI j)), some (.int (nI (cntT (gtr S) (nI j) + cntW (ghd S) (nI j) i))), some (.int (nI i))] [] σ n 0 0 := by
    intro q
    induction q with
    | zero =>
      intro i hi
      obtain rfl : i = ghl S := by omega
      refine zrun_okZ (ok_X15_owned hX) (fun q => q == 15) 31 _ _ _ _ _ _ _ (fun Z hZ => ?_)
      simp (disch := omega) only [f_X15_owned_0 hZ, f_X15_owned_1 hZ, f_X15_owned_4 hZ, f_X15_owned_5 hZ, f_X15_owned_8 hZ, f_X15_owned_9 hZ, f_X15_owned_12 hZ, f_X15_owned_13 hZ, f_X15_owned_14 hZ, f_X15_owned_15 hZ, f_X15_owned_16 hZ, f_X15_owned_17 hZ, f_X15_owned_20 hZ, f_X15_owned_23 hZ, f_X15_owned_24 hZ, f_X15_owned_25 hZ, f_X15_owned_28 hZ, f_X15_owned_29 hZ, f_X15_owned_30 hZ, f_X15_owned_31 hZ, f_X15_owned_34 hZ, f_X15_owned_35 hZ, f_X15_owned_38 hZ, f_X15_owned_39 hZ, f_X15_owned_40 hZ, f_X15_owned_41 hZ, f_X15_owned_44 hZ, f_X15_owned_47 hZ, f_X15_owned_48 hZ, s_aload, s_getf, s_iload, s_callV, s_istore, s_const, s_icmp_ge, s_iaload, s_icmp_ne, s_goto, s_iadd, s_iinc, s_ireturn, zobj, zk1, ZRt, zp, zp0, Option.some.injEq, Value.int.injEq, Value.long.injEq, Value.ref.injEq, and_self, cond_true, cond_false, zget, zkd, zc_lt, zc_le, zc_0, zc_m, zc_m0, zc_10, zk0_n, zk0_i, zk0_r, zk0_0, zk0_l, zk0_d, zs1_0, zs1_1, zs1_s, zs2_0, zs2_1, zs2_s, zcs, List.getElem?_cons_zero, List.getElem?_cons_succ, List.set_cons_zero, List.set_cons_succ, List.drop_zero, List.drop_succ_cons, List.take_zero, List.take_succ_cons, List.reverse_cons, List.reverse_nil, List.nil_append, List.cons_append, List.length_cons, List.length_nil, List.map_cons, List.map_nil, List.sum_cons, List.sum_nil, Value.category, Option.toList_some, Option.toList_none, List.append_nil, nI_leI, nI_ltI, nI_eq, nI_add, pk_sub, Nat.add_sub_cancel, vp_in_nI, nI_clamp, true_implies, false_implies, implies_true, not_true_eq_false, not_false_eq_true, Nat.not_lt, Nat.not_le, if_true, if_false, eq_self, true_and, and_true, true_or, or_true, false_or, or_false, Nat.zero_add, Nat.add_zero, ↓reduceIte, Nat.reduceAdd, Nat.reduceSub, Nat.reduceLeDiff, Nat.reduceLT, Nat.reduceBEq, Nat.reduceEqDiff, reduceCtorEq, Nat.lt_add_one, Nat.le_refl, zv_cat, Bool.or_true, Bool.or_false, Bool.true_or, Bool.false_or, zk_m1, zk_1m, zk_gt_0, zk_le_0, zk_eq_0, zk_qe_0, zk_lt_0, zk_ge_0, zk_lt_1, zk_le_1, zk_gt_1, zk_ge_1, zk_eq_1, zk_qe_1, zk_ad_1, zk_da_1, zk_sb_1, zk_mu_1, zk_um_1, h0]
      rfl
    | succ q ih =>
      intro i hi
      have e := h3' i (by omega)
      have ih2 := ih (i + 1) (by omega)
      have ec : cntW (ghd S) (nI j) (i + 1) = cntW (ghd S) (nI j) i + (if ghd S i = nI j then 1 else 0) := rfl
      rw [ec, ← Nat.add_assoc] at ih2
      refine zrun_okZ (ok_X15_owned hX) (fun q => q == 15) 31 _ _ _ _ _ _ _ (fun Z hZ => ?_)
      simp (disch := omega) only [f_X15_owned_0 hZ, f_X15_owned_1 hZ, f_X15_owned_4 hZ, f_X15_owned_5 hZ, f_X15_owned_8 hZ, f_X15_owned_9 hZ, f_X15_owned_12 hZ, f_X15_owned_13 hZ, f_X15_owned_14 hZ, f_X15_owned_15 hZ, f_X15_owned_16 hZ, f_X15_owned_17 hZ, f_X15_owned_20 hZ, f_X15_owned_23 hZ, f_X15_owned_24 hZ, f_X15_owned_25 hZ, f_X15_owned_28 hZ, f_X15_owned_29 hZ, f_X15_owned_30 hZ, f_X15_owned_31 hZ, f_X15_owned_34 hZ, f_X15_owned_35 hZ, f_X15_owned_38 hZ, f_X15_owned_39 hZ, f_X15_owned_40 hZ, f_X15_owned_41 hZ, f_X15_owned_44 hZ, f_X15_owned_47 hZ, f_X15_owned_48 hZ, s_aload, s_getf, s_iload, s_callV, s_istore, s_const, s_icmp_ge, s_iaload, s_icmp_ne, s_goto, s_iadd, s_iinc, s_ireturn, zobj, zk1, ZRt, zp, zp0, Option.some.injEq, Value.int.injEq, Value.long.injEq, Value.ref.injEq, and_self, cond_true, cond_false, zget, zkd, zc_lt, zc_le, zc_0, zc_m, zc_m0, zc_10, zk0_n, zk0_i, zk0_r, zk0_0, zk0_l, zk0_d, zs1_0, zs1_1, zs1_s, zs2_0, zs2_1, zs2_s, zcs, List.getElem?_cons_zero, List.getElem?_cons_succ, List.set_cons_zero, List.set_cons_succ, List.drop_zero, List.drop_succ_cons, List.take_zero, List.take_succ_cons, List.reverse_cons, List.reverse_nil, List.nil_append, List.cons_append, List.length_cons, List.length_nil, List.map_cons, List.map_nil, List.sum_cons, List.sum_nil, Value.category, Option.toList_some, Option.toList_none, List.append_nil, nI_leI, nI_ltI, nI_eq, nI_add, pk_sub, Nat.add_sub_cancel, vp_in_nI, nI_clamp, true_implies, false_implies, implies_true, not_true_eq_false, not_false_eq_true, Nat.not_lt, Nat.not_le, if_true, if_false, eq_self, true_and, and_true, true_or, or_true, false_or, or_false, Nat.zero_add, Nat.add_zero, ↓reduceIte, Nat.reduceAdd, Nat.reduceSub, Nat.reduceLeDiff, Nat.reduceLT, Nat.reduceBEq, Nat.reduceEqDiff, reduceCtorEq, Nat.lt_add_one, Nat.le_refl, zv_cat, Bool.or_true, Bool.or_false, Bool.true_or, Bool.false_or, zk_m1, zk_1m, zk_gt_0, zk_le_0, zk_eq_0, zk_qe_0, zk_lt_0, zk_ge_0, zk_lt_1, zk_le_1, zk_gt_1, zk_ge_1, zk_eq_1, zk_qe_1, zk_ad_1, zk_da_1, zk_sb_1, zk_mu_1, zk_um_1, h0, h2, e, zadd0]
      refine ⟨fun h => absurd h (by omega), fun _ => ⟨fun he => ?_, fun he => ?_⟩⟩
      · rw [if_pos he] at ih2; exact ih2
      · rw [if_neg he] at ih2; exact ih2
  refine zrun_okZ (ok_X15_owned hX) (fun q => q == 15) 31 _ _ _ _ _ _ _ (fun Z hZ => ?_)
  simp (disch := omega) only [f_X15_owned_0 hZ, f_X15_owned_1 hZ, f_X15_owned_4 hZ, f_X15_owned_5 hZ, f_X15_owned_8 hZ, f_X15_owned_9 hZ, f_X15_owned_12 hZ, f_X15_owned_13 hZ, f_X15_owned_14 hZ, f_X15_owned_15 hZ, f_X15_owned_16 hZ, f_X15_owned_17 hZ, f_X15_owned_20 hZ, f_X15_owned_23 hZ, f_X15_owned_24 hZ, f_X15_owned_25 hZ, f_X15_owned_28 hZ, f_X15_owned_29 hZ, f_X15_owned_30 hZ, f_X15_owned_31 hZ, f_X15_owned_34 hZ, f_X15_owned_35 hZ, f_X15_owned_38 hZ, f_X15_owned_39 hZ, f_X15_owned_40 hZ, f_X15_owned_41 hZ, f_X15_owned_44 hZ, f_X15_owned_47 hZ, f_X15_owned_48 hZ, s_aload, s_getf, s_iload, s_callV, s_istore, s_const, s_icmp_ge, s_iaload, s_icmp_ne, s_goto, s_iadd, s_iinc, s_ireturn, zobj, zk1, ZRt, zp, zp0, Option.some.injEq, Value.int.injEq, Value.long.injEq, Value.ref.injEq, and_self, cond_true, cond_false, zget, zkd, zc_lt, zc_le, zc_0, zc_m, zc_m0, zc_10, zk0_n, zk0_i, zk0_r, zk0_0, zk0_l, zk0_d, zs1_0, zs1_1, zs1_s, zs2_0, zs2_1, zs2_s, zcs, List.getElem?_cons_zero, List.getElem?_cons_succ, List.set_cons_zero, List.set_cons_succ, List.drop_zero, List.drop_succ_cons, List.take_zero, List.take_succ_cons, List.reverse_cons, List.reverse_nil, List.nil_append, List.cons_append, List.length_cons, List.length_nil, List.map_cons, List.map_nil, List.sum_cons, List.sum_nil, Value.category, Option.toList_some, Option.toList_none, List.append_nil, nI_leI, nI_ltI, nI_eq, nI_add, pk_sub, Nat.add_sub_cancel, vp_in_nI, nI_clamp, true_implies, false_implies, implies_true, not_true_eq_false, not_false_eq_true, Nat.not_lt, Nat.not_le, if_true, if_false, eq_self, true_and, and_true, true_or, or_true, false_or, or_false, Nat.zero_add, Nat.add_zero, ↓reduceIte, Nat.reduceAdd, Nat.reduceSub, Nat.reduceLeDiff, Nat.reduceLT, Nat.reduceBEq, Nat.reduceEqDiff, reduceCtorEq, Nat.lt_add_one, Nat.le_refl, zv_cat, Bool.or_true, Bool.or_false, Bool.true_or, Bool.false_or, zk_m1, zk_1m, zk_gt_0, zk_le_0, zk_eq_0, zk_qe_0, zk_lt_0, zk_ge_0, zk_lt_1, zk_le_1, zk_gt_1, zk_ge_1, zk_eq_1, zk_qe_1, zk_ad_1, zk_da_1, zk_sb_1, zk_mu_1, zk_um_1, h0, o0]
  have eT : wtr (gW rd tr m S) m = gtr S := updT_s
  refine zcall_p (sp_St_has hE h1 hm hn _) ?_
  rw [eT]
  refine zrun_okZ (ok_X15_owned hX) (fun q => q == 15) 31 _ _ _ _ _ _ _ (fun Z hZ => ?_)
  simp (disch := omega) only [f_X15_owned_0 hZ, f_X15_owned_1 hZ, f_X15_owned_4 hZ, f_X15_owned_5 hZ, f_X15_owned_8 hZ, f_X15_owned_9 hZ, f_X15_owned_12 hZ, f_X15_owned_13 hZ, f_X15_owned_14 hZ, f_X15_owned_15 hZ, f_X15_owned_16 hZ, f_X15_owned_17 hZ, f_X15_owned_20 hZ, f_X15_owned_23 hZ, f_X15_owned_24 hZ, f_X15_owned_25 hZ, f_X15_owned_28 hZ, f_X15_owned_29 hZ, f_X15_owned_30 hZ, f_X15_owned_31 hZ, f_X15_owned_34 hZ, f_X15_owned_35 hZ, f_X15_owned_38 hZ, f_X15_owned_39 hZ, f_X15_owned_40 hZ, f_X15_owned_41 hZ, f_X15_owned_44 hZ, f_X15_owned_47 hZ, f_X15_owned_48 hZ, s_aload, s_getf, s_iload, s_callV, s_istore, s_const, s_icmp_ge, s_iaload, s_icmp_ne, s_goto, s_iadd, s_iinc, s_ireturn, zobj, zk1, ZRt, zp, zp0, Option.some.injEq, Value.int.injEq, Value.long.injEq, Value.ref.injEq, and_self, cond_true, cond_false, zget, zkd, zc_lt, zc_le, zc_0, zc_m, zc_m0, zc_10, zk0_n, zk0_i, zk0_r, zk0_0, zk0_l, zk0_d, zs1_0, zs1_1, zs1_s, zs2_0, zs2_1, zs2_s, zcs, List.getElem?_cons_zero, List.getElem?_cons_succ, List.set_cons_zero, List.set_cons_succ, List.drop_zero, List.drop_succ_cons, List.take_zero, List.take_succ_cons, List.reverse_cons, List.reverse_nil, List.nil_append, List.cons_append, List.length_cons, List.length_nil, List.map_cons, List.map_nil, List.sum_cons, List.sum_nil, Value.category, Option.toList_some, Option.toList_none, List.append_nil, nI_leI, nI_ltI, nI_eq, nI_add, pk_sub, Nat.add_sub_cancel, vp_in_nI, nI_clamp, true_implies, false_implies, implies_true, not_true_eq_false, not_false_eq_true, Nat.not_lt, Nat.not_le, if_true, if_false, eq_self, true_and, and_true, true_or, or_true, false_or, or_false, Nat.zero_add, Nat.add_zero, ↓reduceIte, Nat.reduceAdd, Nat.reduceSub, Nat.reduceLeDiff, Nat.reduceLT, Nat.reduceBEq, Nat.reduceEqDiff, reduceCtorEq, Nat.lt_add_one, Nat.le_refl, zv_cat, Bool.or_true, Bool.or_false, Bool.true_or, Bool.false_or, zk_m1, zk_1m, zk_gt_0, zk_le_0, zk_eq_0, zk_qe_0, zk_lt_0, zk_ge_0, zk_lt_1, zk_le_1, zk_gt_1, zk_ge_1, zk_eq_1, zk_qe_1, zk_ad_1, zk_da_1, zk_sb_1, zk_mu_1, zk_um_1, h0]
  exact loop (ghl S) 0 (by omega)
end
