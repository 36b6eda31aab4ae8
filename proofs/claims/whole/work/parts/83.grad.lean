/-! THE CLASS: its grammar's numbers, deeds -/
/-- a formula with END behind it -/
def fmE (sz : Nat) (og : Nat → Nat) (xg : Nat → Int32) (p : Nat) (F : FM) : Prop := ∃ b, b < sz ∧ og b = 1 ∧ psh p b og xg F
theorem fmE.k {sz sz' p : Nat} {og og1 : Nat → Nat} {xg xg1 : Nat → Int32} {F : FM} (h : fmE sz og xg p F) (hp : pfx sz og og1 xg xg1) (hs : sz ≤ sz') : fmE sz' og1 xg1 p F := by
  obtain ⟨b, h1, h2, h3⟩ := h
  exact ⟨b, by omega, (hp b h1).1.trans h2, h3.k (fun i hi => hp i (by omega))⟩
theorem fmE.fm {sz p : Nat} {og : Nat → Nat} {xg : Nat → Int32} {F : FM} (h : fmE sz og xg p F) : fmlAt sz og xg p F := by
  obtain ⟨b, h1, h2, h3⟩ := h
  exact h3.fm h1 h2
/-- what is told so far has its formulas -/
def GOK (mk : Nat → Bool) (K : Nat → Nat) (Y : Nat → Int32) (S : SA) (sz : Nat) (og : Nat → Nat) (xg : Nat → Int32) (off oof : Nat → Nat) : Prop := aer S = 0 →
  (∀ c d, c < anc S → d < ade S c → mk (adt S (4 * c + d)) = true ∧ (K (adt S (4 * c + d)) ≠ 11 → ∃ F, (qS K Y 8 (if K (adt S (4 * c + d)) = 12 then adt S (4 * c + d) + 2 else adt S (4 * c + d) + 1)).2 = some F ∧ fmE sz og xg (off (4 * c + d)) F)) ∧
  (∀ o t, o < ano S → aot S o = some t → ∃ F, (qT K Y 8 t).2 = some F ∧ fmE sz og xg (oof o) F)
section
variable {mk : Nat → Bool} {K V : Nat → Nat} {Y : Nat → Int32} {S S' : SA} {k sz sz' : Nat} {og og1 : Nat → Nat} {xg xg1 : Nat → Int32} {off oof : Nat → Nat}
theorem GOK.kp (h : GOK mk K Y S sz og xg off oof) (hp : pfx sz og og1 xg xg1) (hs : sz ≤ sz') : GOK mk K Y S sz' og1 xg1 off oof := fun h0 => by
  obtain ⟨h1, h2⟩ := h h0
  refine ⟨fun c d hc hd => ⟨(h1 c d hc hd).1, fun q => ?_⟩, fun o t ho ht => ?_⟩
  · obtain ⟨F, e1, e2⟩ := (h1 c d hc hd).2 q
    exact ⟨F, e1, e2.k hp hs⟩
  · obtain ⟨F, e1, e2⟩ := h2 o t ho ht
    exact ⟨F, e1, e2.k hp hs⟩
theorem act_g (hm : ¬ mk k = true) (h19 : K k ≠ 19) (h0 : aer S = 0) : (ade (actA mk K V S k) = ade S ∧ adt (actA mk K V S k) = adt S) ∧ (anc S ≤ anc (actA mk K V S k)) ∧ (∀ o t, o < ano (actA mk K V S k) → aot (actA mk K V S k) o = some t → o < ano S ∧ aot S o = some t) := by
  rw [act_0 h0, if_neg hm]
  by_cases h2 : K k = 2
  · rw [if_pos h2]
    unfold nameA
    repeat' (first | exact ⟨⟨rfl, rfl⟩, Nat.le_refl _, fun o t g1 g2 => ⟨g1, g2⟩⟩ | exact ⟨⟨rfl, rfl⟩, Nat.le_succ _, fun o t g1 g2 => ⟨g1, g2⟩⟩ | split)
  · rw [if_neg h2]
    by_cases h3 : K k = 3
    · rw [if_pos h3]
      unfold numbA
      repeat' (first | exact ⟨⟨rfl, rfl⟩, Nat.le_refl _, fun o t g1 g2 => ⟨g1, g2⟩⟩ | split)
    · rw [if_neg h3]
      by_cases h17 : K k = 17
      · rw [if_pos h17]
        split
        · exact ⟨⟨rfl, rfl⟩, Nat.le_refl _, fun o t g1 g2 => ⟨g1, g2⟩⟩
        · refine ⟨⟨rfl, rfl⟩, Nat.le_refl _, fun o t g1 g2 => ?_⟩
          have g1' : o < ano S + 1 := g1
          have g2' : upo (aot S) (ano S) none o = some t := g2
          unfold upo at g2'
          by_cases e : o = ano S
          · rw [if_pos e] at g2'; cases g2'
          · rw [if_neg e] at g2'; exact ⟨by omega, g2'⟩
      · rw [if_neg h17, if_neg h19]
        exact ⟨⟨rfl, rfl⟩, Nat.le_refl _, fun o t g1 g2 => ⟨g1, g2⟩⟩
/-- a token that is no deed and no WHEN -/
theorem GOK.t (h : GOK mk K Y (actF mk K V k) sz og xg off oof) (hm : ¬ mk k = true) (h19 : K k ≠ 19) (ho : aer (actF mk K V k) = 0 → okA (actF mk K V k)) : GOK mk K Y (actF mk K V (k + 1)) sz og xg off oof := fun h1 => by
  have h0 : aer (actF mk K V k) = 0 := actF_0 h1 (Nat.le_succ k)
  obtain ⟨⟨g1, g2⟩, g3, g4⟩ := act_g (S := actF mk K V k) (V := V) hm h19 h0
  obtain ⟨q1, q2⟩ := h h0
  have hz := (ho h0).2.2.1
  rw [actF_s, g1, g2]
  refine ⟨fun c d hc hd => ?_, fun o t ho ht => ?_⟩
  · have hcc : c < anc (actF mk K V k) := by
      by_cases e : c < anc (actF mk K V k)
      · exact e
      · have := (hz c).2 (by omega); omega
    exact q1 c d hcc hd
  · obtain ⟨y1, y2⟩ := g4 o t ho ht
    exact q2 o t y1 y2
/-- a deed has been told, its formula lies behind what was there -/
theorem GOK.d {p sz3 : Nat} {og3 : Nat → Nat} {xg3 : Nat → Int32} (h : GOK mk K Y S sz og xg off oof) (hp : pfx sz og og3 xg xg3) (hs : sz ≤ sz3) (hm : mk p = true) (h1 : aer S = 0 → 1 ≤ anc S ∧ okA S) (hS : aer S' = 0 → aer S = 0 ∧ ade S (anc S - 1) ≠ 4 ∧ anc S' = anc S ∧ ade S' = ade (deedA S p) ∧ adt S' = adt (deedA S p) ∧ ano S' = ano S ∧ aot S' = aot S) (hF : aer S' = 0 → K p ≠ 11 → ∃ F, (qS K Y 8 (if K p = 12 then p + 2 else p + 1)).2 = some F ∧ fmE sz3 og3 xg3 sz F) : GOK mk K Y S' sz3 og3 xg3 (if aer S ≠ 0 then off else if ade S (anc S - 1) = 4 then off else upn off (4 * (anc S - 1) + ade S (anc S - 1)) sz) oof := fun h0 => by
  obtain ⟨e0, e1, e2, e3, e4, e5, e6⟩ := hS h0
  obtain ⟨n1, ok⟩ := h1 e0
  obtain ⟨q1, q2⟩ := h e0
  have b4 := ok.2.2.1
  rw [if_neg (fun z => z e0), if_neg e1, e2, e3, e4, e5, e6]
  refine ⟨fun c d hc hd => ?_, fun o t ho ht => ?_⟩
  · have hd' : d < upn (ade S) (anc S - 1) (ade S (anc S - 1) + 1) c := hd
    show mk (upn (adt S) (4 * (anc S - 1) + ade S (anc S - 1)) p (4 * c + d)) = true ∧ (K (upn (adt S) (4 * (anc S - 1) + ade S (anc S - 1)) p (4 * c + d)) ≠ 11 → ∃ F, (qS K Y 8 (if K (upn (adt S) (4 * (anc S - 1) + ade S (anc S - 1)) p (4 * c + d)) = 12 then upn (adt S) (4 * (anc S - 1) + ade S (anc S - 1)) p (4 * c + d) + 2 else upn (adt S) (4 * (anc S - 1) + ade S (anc S - 1)) p (4 * c + d) + 1)).2 = some F ∧ fmE sz3 og3 xg3 (upn off (4 * (anc S - 1) + ade S (anc S - 1)) sz (4 * c + d)) F)
    have b41 := (b4 c).1
    have b42 := (b4 (anc S - 1)).1
    by_cases e : 4 * c + d = 4 * (anc S - 1) + ade S (anc S - 1)
    · rw [e, upn_s, upn_s]
      exact ⟨hm, hF h0⟩
    · rw [upn_n e, upn_n e]
      have hd2 : d < ade S c := by
        by_cases ec : c = anc S - 1
        · subst ec
          rw [upn_s] at hd'
          omega
        · rw [upn_n ec] at hd'
          exact hd'
      obtain ⟨y1, y2⟩ := q1 c d hc hd2
      refine ⟨y1, fun q => ?_⟩
      obtain ⟨F, y3, y4⟩ := y2 q
      exact ⟨F, y3, y4.k hp hs⟩
  · obtain ⟨F, y3, y4⟩ := q2 o t ho ht
    exact ⟨F, y3, y4.k hp hs⟩
end
/-- what a line, or deeds, leave behind -/
def glP (E : ZEX) (σ : ZHp) (n gr u : Nat) (tb : Nat → Nat) (tl : Nat) (mk : Nat → Bool) (K V : Nat → Nat) (Y : Nat → Int32) (p sz r1 : Nat) (r2 : Bool) : ZPT := fun v σ' n' => v = some (.int (if r2 = true then 1 else 0)) ∧ n' = n ∧ grf gr u σ σ' ∧ ∃ (S' : SA) (off' oof' : Nat → Nat) (a' b' : Bool) (num' : Int32) (sz' : Nat) (og' : Nat → Nat) (xg' : Nat → Int32), GRh E σ' gr u tb tl r1 S' off' oof' a' b' num' sz' og' xg' ∧ (r2 = true → S' = actF mk K V r1 ∧ a' = true ∧ b' = true ∧ sz' + p ≤ sz + r1 ∧ GOK mk K Y S' sz' og' xg' off' oof')
section
variable {E : ZEX} {σ : ZHp} {n gr u tl k sz e0 : Nat} {tb : Nat → Nat} {mk : Nat → Bool} {K V : Nat → Nat} {Y : Nat → Int32} {S S' : SA} {num : Int32} {off oof : Nat → Nat} {a b a' b' : Bool} {og : Nat → Nat} {xg : Nat → Int32}
theorem sp_Gr_number (hE : ZEOK E) (hd : gr + 9 ≤ u ∨ u + 26 ≤ gr) (hG : GC2 tb tl mk K V Y e0) {o : Nat} (hk : k ≤ eN tb tl) (hk0 : k ≤ e0) (h : GRh E σ gr u tb tl k (actF mk K V k) off oof a b num sz og xg) (ho : o = 6 ∨ o = 7 ∨ o = 13 ∨ o = 15) (hKo : K (k - 1) = o) (hcK : o = 6 ∨ o = 7 → hC K k) : ZSpec E MX3_number 7 0 0 [.ref gr, .ref (zeK E o)] σ n (fun w σ' n' => w = some (.int (if K k = 3 then 1 else 0)) ∧ n' = n ∧ grf gr u σ σ' ∧ (K k = 3 → GRh E σ' gr u tb tl (k + 1) (actF mk K V (k + 1)) off oof a b (nI (V k)) sz og xg) ∧ (K k ≠ 3 → GRh E σ' gr u tb tl k (actF mk K V k) off oof a b num sz og xg)) := by
  obtain ⟨g0, ⟨vt, t0⟩, ⟨vs, s0⟩, -⟩ := h.o
  have hk46 := hG.1.l k
  by_cases k3 : K k = 3
  · rw [if_pos k3]
    have hW := sp_Sc_writeNumber (n := n) (k := k) hE h.2.2.1 (by omega) (hG.1.r k).1 (bnd_F hG.2.2.2.1 hk0).2.1 ho (hG.2.2.2.2.2 k hk k3) (fun e q => ⟨anc_ge hG.2.1 (hcK q) e, (hG.1.r k).2⟩)
    rw [← hKo, ← act_nu2 (fun q => by have := hG.2.1 k q; omega) k3] at hW
    refine ZSpec_of hE (by decide +kernel) (Nat.le_of_ble_eq_true rfl) [some (.ref gr), some (.ref (zeK E o))] rfl (fun X hX => ?_)
    refine zrun_okZ (ok_X3_number hX) (fun _ => false) 25 _ _ _ _ _ _ _ (fun Z hZ => ?_)
    simp (disch := omega) only [f_X3_number_0 hZ, f_X3_number_1 hZ, f_X3_number_4 hZ, f_X3_number_7 hZ, f_X3_number_10 hZ, f_X3_number_13 hZ, f_X3_number_14 hZ, f_X3_number_15 hZ, f_X3_number_16 hZ, f_X3_number_19 hZ, f_X3_number_20 hZ, f_X3_number_21 hZ, f_X3_number_24 hZ, f_X3_number_27 hZ, f_X3_number_28 hZ, f_X3_number_29 hZ, f_X3_number_32 hZ, f_X3_number_35 hZ, f_X3_number_38 hZ, f_X3_number_39 hZ, f_X3_number_42 hZ, f_X3_number_45 hZ, f_X3_number_46 hZ, s_aload, s_getf, s_callV, s_const, s_acmp_eq, s_zreturn, s_l2i, zobj, zk1, ZRt, zp, zp0, Option.some.injEq, Value.int.injEq, Value.long.injEq, Value.ref.injEq, and_self, cond_true, cond_false, zget, zkd, zc_lt, zc_le, zc_0, zc_m, zc_m0, zc_10, zk0_n, zk0_i, zk0_r, zk0_0, zk0_l, zk0_d, zs1_0, zs1_1, zs1_s, zs2_0, zs2_1, zs2_s, zcs, List.getElem?_cons_zero, List.getElem?_cons_succ, List.set_cons_zero, List.set_cons_succ, List.drop_zero, List.drop_succ_cons, List.take_zero, List.take_succ_cons, List.reverse_cons, List.reverse_nil, List.nil_append, List.cons_append, List.length_cons, List.length_nil, List.map_cons, List.map_nil, List.sum_cons, List.sum_nil, Value.category, Option.toList_some, Option.toList_none, List.append_nil, nI_leI, nI_ltI, nI_eq, nI_add, pk_sub, Nat.add_sub_cancel, vp_in_nI, nI_clamp, true_implies, false_implies, implies_true, not_true_eq_false, not_false_eq_true, Nat.not_lt, Nat.not_le, if_true, if_false, eq_self, true_and, and_true, true_or, or_true, false_or, or_false, Nat.zero_add, Nat.add_zero, ↓reduceIte, Nat.reduceAdd, Nat.reduceSub, Nat.reduceLeDiff, Nat.reduceLT, Nat.reduceBEq, Nat.reduceEqDiff, reduceCtorEq, Nat.lt_add_one, Nat.le_refl, zv_cat, Bool.or_true, Bool.or_false, Bool.true_or, Bool.false_or, zk_m1, zk_1m, zk_gt_0, zk_le_0, zk_eq_0, zk_qe_0, zk_lt_0, zk_ge_0, zk_lt_1, zk_le_1, zk_gt_1, zk_ge_1, zk_eq_1, zk_qe_1, zk_ad_1, zk_da_1, zk_sb_1, zk_mu_1, zk_um_1, g0, t0]
    refine zcall_p (sp_g_sign hE hG.1 h hk) ?_
    rw [k3]
    refine zrun_okZ (ok_X3_number hX) (fun _ => false) 25 _ _ _ _ _ _ _ (fun Z hZ => ?_)
    simp (disch := omega) only [f_X3_number_0 hZ, f_X3_number_1 hZ, f_X3_number_4 hZ, f_X3_number_7 hZ, f_X3_number_10 hZ, f_X3_number_13 hZ, f_X3_number_14 hZ, f_X3_number_15 hZ, f_X3_number_16 hZ, f_X3_number_19 hZ, f_X3_number_20 hZ, f_X3_number_21 hZ, f_X3_number_24 hZ, f_X3_number_27 hZ, f_X3_number_28 hZ, f_X3_number_29 hZ, f_X3_number_32 hZ, f_X3_number_35 hZ, f_X3_number_38 hZ, f_X3_number_39 hZ, f_X3_number_42 hZ, f_X3_number_45 hZ, f_X3_number_46 hZ, s_aload, s_getf, s_callV, s_const, s_acmp_eq, s_zreturn, s_l2i, zobj, zk1, ZRt, zp, zp0, Option.some.injEq, Value.int.injEq, Value.long.injEq, Value.ref.injEq, and_self, cond_true, cond_false, zget, zkd, zc_lt, zc_le, zc_0, zc_m, zc_m0, zc_10, zk0_n, zk0_i, zk0_r, zk0_0, zk0_l, zk0_d, zs1_0, zs1_1, zs1_s, zs2_0, zs2_1, zs2_s, zcs, List.getElem?_cons_zero, List.getElem?_cons_succ, List.set_cons_zero, List.set_cons_succ, List.drop_zero, List.drop_succ_cons, List.take_zero, List.take_succ_cons, List.reverse_cons, List.reverse_nil, List.nil_append, List.cons_append, List.length_cons, List.length_nil, List.map_cons, List.map_nil, List.sum_cons, List.sum_nil, Value.category, Option.toList_some, Option.toList_none, List.append_nil, nI_leI, nI_ltI, nI_eq, nI_add, pk_sub, Nat.add_sub_cancel, vp_in_nI, nI_clamp, true_implies, false_implies, implies_true, not_true_eq_false, not_false_eq_true, Nat.not_lt, Nat.not_le, if_true, if_false, eq_self, true_and, and_true, true_or, or_true, false_or, or_false, Nat.zero_add, Nat.add_zero, ↓reduceIte, Nat.reduceAdd, Nat.reduceSub, Nat.reduceLeDiff, Nat.reduceLT, Nat.reduceBEq, Nat.reduceEqDiff, reduceCtorEq, Nat.lt_add_one, Nat.le_refl, zv_cat, Bool.or_true, Bool.or_false, Bool.true_or, Bool.false_or, zk_m1, zk_1m, zk_gt_0, zk_le_0, zk_eq_0, zk_qe_0, zk_lt_0, zk_ge_0, zk_lt_1, zk_le_1, zk_gt_1, zk_ge_1, zk_eq_1, zk_qe_1, zk_ad_1, zk_da_1, zk_sb_1, zk_mu_1, zk_um_1, g0, t0, s0]
    refine zcall_p (sp_g_value hE hG.1 h hk) ?_
    refine zrun_okZ (ok_X3_number hX) (fun _ => false) 25 _ _ _ _ _ _ _ (fun Z hZ => ?_)
    simp (disch := omega) only [f_X3_number_0 hZ, f_X3_number_1 hZ, f_X3_number_4 hZ, f_X3_number_7 hZ, f_X3_number_10 hZ, f_X3_number_13 hZ, f_X3_number_14 hZ, f_X3_number_15 hZ, f_X3_number_16 hZ, f_X3_number_19 hZ, f_X3_number_20 hZ, f_X3_number_21 hZ, f_X3_number_24 hZ, f_X3_number_27 hZ, f_X3_number_28 hZ, f_X3_number_29 hZ, f_X3_number_32 hZ, f_X3_number_35 hZ, f_X3_number_38 hZ, f_X3_number_39 hZ, f_X3_number_42 hZ, f_X3_number_45 hZ, f_X3_number_46 hZ, s_aload, s_getf, s_callV, s_const, s_acmp_eq, s_zreturn, s_l2i, zobj, zk1, ZRt, zp, zp0, Option.some.injEq, Value.int.injEq, Value.long.injEq, Value.ref.injEq, and_self, cond_true, cond_false, zget, zkd, zc_lt, zc_le, zc_0, zc_m, zc_m0, zc_10, zk0_n, zk0_i, zk0_r, zk0_0, zk0_l, zk0_d, zs1_0, zs1_1, zs1_s, zs2_0, zs2_1, zs2_s, zcs, List.getElem?_cons_zero, List.getElem?_cons_succ, List.set_cons_zero, List.set_cons_succ, List.drop_zero, List.drop_succ_cons, List.take_zero, List.take_succ_cons, List.reverse_cons, List.reverse_nil, List.nil_append, List.cons_append, List.length_cons, List.length_nil, List.map_cons, List.map_nil, List.sum_cons, List.sum_nil, Value.category, Option.toList_some, Option.toList_none, List.append_nil, nI_leI, nI_ltI, nI_eq, nI_add, pk_sub, Nat.add_sub_cancel, vp_in_nI, nI_clamp, true_implies, false_implies, implies_true, not_true_eq_false, not_false_eq_true, Nat.not_lt, Nat.not_le, if_true, if_false, eq_self, true_and, and_true, true_or, or_true, false_or, or_false, Nat.zero_add, Nat.add_zero, ↓reduceIte, Nat.reduceAdd, Nat.reduceSub, Nat.reduceLeDiff, Nat.reduceLT, Nat.reduceBEq, Nat.reduceEqDiff, reduceCtorEq, Nat.lt_add_one, Nat.le_refl, zv_cat, Bool.or_true, Bool.or_false, Bool.true_or, Bool.false_or, zk_m1, zk_1m, zk_gt_0, zk_le_0, zk_eq_0, zk_qe_0, zk_lt_0, zk_ge_0, zk_lt_1, zk_le_1, zk_gt_1, zk_ge_1, zk_eq_1, zk_qe_1, zk_ad_1, zk_da_1, zk_sb_1, zk_mu_1, zk_um_1, g0, t0, s0, lN_i]
    refine zcall_p (sp_g_place hE h hk) ?_
    refine zrun_okZ (ok_X3_number hX) (fun _ => false) 25 _ _ _ _ _ _ _ (fun Z hZ => ?_)
    simp (disch := omega) only [f_X3_number_0 hZ, f_X3_number_1 hZ, f_X3_number_4 hZ, f_X3_number_7 hZ, f_X3_number_10 hZ, f_X3_number_13 hZ, f_X3_number_14 hZ, f_X3_number_15 hZ, f_X3_number_16 hZ, f_X3_number_19 hZ, f_X3_number_20 hZ, f_X3_number_21 hZ, f_X3_number_24 hZ, f_X3_number_27 hZ, f_X3_number_28 hZ, f_X3_number_29 hZ, f_X3_number_32 hZ, f_X3_number_35 hZ, f_X3_number_38 hZ, f_X3_number_39 hZ, f_X3_number_42 hZ, f_X3_number_45 hZ, f_X3_number_46 hZ, s_aload, s_getf, s_callV, s_const, s_acmp_eq, s_zreturn, s_l2i, zobj, zk1, ZRt, zp, zp0, Option.some.injEq, Value.int.injEq, Value.long.injEq, Value.ref.injEq, and_self, cond_true, cond_false, zget, zkd, zc_lt, zc_le, zc_0, zc_m, zc_m0, zc_10, zk0_n, zk0_i, zk0_r, zk0_0, zk0_l, zk0_d, zs1_0, zs1_1, zs1_s, zs2_0, zs2_1, zs2_s, zcs, List.getElem?_cons_zero, List.getElem?_cons_succ, List.set_cons_zero, List.set_cons_succ, List.drop_zero, List.drop_succ_cons, List.take_zero, List.take_succ_cons, List.reverse_cons, List.reverse_nil, List.nil_append, List.cons_append, List.length_cons, List.length_nil, List.map_cons, List.map_nil, List.sum_cons, List.sum_nil, Value.category, Option.toList_some, Option.toList_none, List.append_nil, nI_leI, nI_ltI, nI_eq, nI_add, pk_sub, Nat.add_sub_cancel, vp_in_nI, nI_clamp, true_implies, false_implies, implies_true, not_true_eq_false, not_false_eq_true, Nat.not_lt, Nat.not_le, if_true, if_false, eq_self, true_and, and_true, true_or, or_true, false_or, or_false, Nat.zero_add, Nat.add_zero, ↓reduceIte, Nat.reduceAdd, Nat.reduceSub, Nat.reduceLeDiff, Nat.reduceLT, Nat.reduceBEq, Nat.reduceEqDiff, reduceCtorEq, Nat.lt_add_one, Nat.le_refl, zv_cat, Bool.or_true, Bool.or_false, Bool.true_or, Bool.false_or, zk_m1, zk_1m, zk_gt_0, zk_le_0, zk_eq_0, zk_qe_0, zk_lt_0, zk_ge_0, zk_lt_1, zk_le_1, zk_gt_1, zk_ge_1, zk_eq_1, zk_qe_1, zk_ad_1, zk_da_1, zk_sb_1, zk_mu_1, zk_um_1, g0, t0, s0, lN_i]
    rw [← hKo]
    refine zcall_q hW ?_
    rintro w2 s2 n2 ⟨rfl, rfl, p2, f2⟩
    have h2 := h.sc hd p2 f2
    obtain ⟨g2, ⟨vt2, t2⟩, -, -⟩ := h2.o
    refine zrun_okZ (ok_X3_number hX) (fun _ => false) 25 _ _ _ _ _ _ _ (fun Z hZ => ?_)
    simp (disch := omega) only [f_X3_number_0 hZ, f_X3_number_1 hZ, f_X3_number_4 hZ, f_X3_number_7 hZ, f_X3_number_10 hZ, f_X3_number_13 hZ, f_X3_number_14 hZ, f_X3_number_15 hZ, f_X3_number_16 hZ, f_X3_number_19 hZ, f_X3_number_20 hZ, f_X3_number_21 hZ, f_X3_number_24 hZ, f_X3_number_27 hZ, f_X3_number_28 hZ, f_X3_number_29 hZ, f_X3_number_32 hZ, f_X3_number_35 hZ, f_X3_number_38 hZ, f_X3_number_39 hZ, f_X3_number_42 hZ, f_X3_number_45 hZ, f_X3_number_46 hZ, s_aload, s_getf, s_callV, s_const, s_acmp_eq, s_zreturn, s_l2i, zobj, zk1, ZRt, zp, zp0, Option.some.injEq, Value.int.injEq, Value.long.injEq, Value.ref.injEq, and_self, cond_true, cond_false, zget, zkd, zc_lt, zc_le, zc_0, zc_m, zc_m0, zc_10, zk0_n, zk0_i, zk0_r, zk0_0, zk0_l, zk0_d, zs1_0, zs1_1, zs1_s, zs2_0, zs2_1, zs2_s, zcs, List.getElem?_cons_zero, List.getElem?_cons_succ, List.set_cons_zero, List.set_cons_succ, List.drop_zero, List.drop_succ_cons, List.take_zero, List.take_succ_cons, List.reverse_cons, List.reverse_nil, List.nil_append, List.cons_append, List.length_cons, List.length_nil, List.map_cons, List.map_nil, List.sum_cons, List.sum_nil, Value.category, Option.toList_some, Option.toList_none, List.append_nil, nI_leI, nI_ltI, nI_eq, nI_add, pk_sub, Nat.add_sub_cancel, vp_in_nI, nI_clamp, true_implies, false_implies, implies_true, not_true_eq_false, not_false_eq_true, Nat.not_lt, Nat.not_le, if_true, if_false, eq_self, true_and, and_true, true_or, or_true, false_or, or_false, Nat.zero_add, Nat.add_zero, ↓reduceIte, Nat.reduceAdd, Nat.reduceSub, Nat.reduceLeDiff, Nat.reduceLT, Nat.reduceBEq, Nat.reduceEqDiff, reduceCtorEq, Nat.lt_add_one, Nat.le_refl, zv_cat, Bool.or_true, Bool.or_false, Bool.true_or, Bool.false_or, zk_m1, zk_1m, zk_gt_0, zk_le_0, zk_eq_0, zk_qe_0, zk_lt_0, zk_ge_0, zk_lt_1, zk_le_1, zk_gt_1, zk_ge_1, zk_eq_1, zk_qe_1, zk_ad_1, zk_da_1, zk_sb_1, zk_mu_1, zk_um_1, g2, t2]
    refine zcall_q (sp_advance hE h2.2.1) ?_
    rintro w3 s3 n3 ⟨rfl, rfl, k3', f3⟩
    have h3 := h2.tk hd k3' f3
    refine zrun_okZ (ok_X3_number hX) (fun _ => false) 25 _ _ _ _ _ _ _ (fun Z hZ => ?_)
    simp (disch := omega) only [f_X3_number_0 hZ, f_X3_number_1 hZ, f_X3_number_4 hZ, f_X3_number_7 hZ, f_X3_number_10 hZ, f_X3_number_13 hZ, f_X3_number_14 hZ, f_X3_number_15 hZ, f_X3_number_16 hZ, f_X3_number_19 hZ, f_X3_number_20 hZ, f_X3_number_21 hZ, f_X3_number_24 hZ, f_X3_number_27 hZ, f_X3_number_28 hZ, f_X3_number_29 hZ, f_X3_number_32 hZ, f_X3_number_35 hZ, f_X3_number_38 hZ, f_X3_number_39 hZ, f_X3_number_42 hZ, f_X3_number_45 hZ, f_X3_number_46 hZ, s_aload, s_getf, s_callV, s_const, s_acmp_eq, s_zreturn, s_l2i, zobj, zk1, ZRt, zp, zp0, Option.some.injEq, Value.int.injEq, Value.long.injEq, Value.ref.injEq, and_self, cond_true, cond_false, zget, zkd, zc_lt, zc_le, zc_0, zc_m, zc_m0, zc_10, zk0_n, zk0_i, zk0_r, zk0_0, zk0_l, zk0_d, zs1_0, zs1_1, zs1_s, zs2_0, zs2_1, zs2_s, zcs, List.getElem?_cons_zero, List.getElem?_cons_succ, List.set_cons_zero, List.set_cons_succ, List.drop_zero, List.drop_succ_cons, List.take_zero, List.take_succ_cons, List.reverse_cons, List.reverse_nil, List.nil_append, List.cons_append, List.length_cons, List.length_nil, List.map_cons, List.map_nil, List.sum_cons, List.sum_nil, Value.category, Option.toList_some, Option.toList_none, List.append_nil, nI_leI, nI_ltI, nI_eq, nI_add, pk_sub, Nat.add_sub_cancel, vp_in_nI, nI_clamp, true_implies, false_implies, implies_true, not_true_eq_false, not_false_eq_true, Nat.not_lt, Nat.not_le, if_true, if_false, eq_self, true_and, and_true, true_or, or_true, false_or, or_false, Nat.zero_add, Nat.add_zero, ↓reduceIte, Nat.reduceAdd, Nat.reduceSub, Nat.reduceLeDiff, Nat.reduceLT, Nat.reduceBEq, Nat.reduceEqDiff, reduceCtorEq, Nat.lt_add_one, Nat.le_refl, zv_cat, Bool.or_true, Bool.or_false, Bool.true_or, Bool.false_or, zk_m1, zk_1m, zk_gt_0, zk_le_0, zk_eq_0, zk_qe_0, zk_lt_0, zk_ge_0, zk_lt_1, zk_le_1, zk_gt_1, zk_ge_1, zk_eq_1, zk_qe_1, zk_ad_1, zk_da_1, zk_sb_1, zk_mu_1, zk_um_1]
    exact ⟨(grf.s f2).tr (grf.z f3), fun _ => h3, fun q => absurd k3 q⟩
  · rw [if_neg k3]
    refine ZSpec_of hE (by decide +kernel) (Nat.le_of_ble_eq_true rfl) [some (.ref gr), some (.ref (zeK E o))] rfl (fun X hX => ?_)
    refine zrun_okZ (ok_X3_number hX) (fun _ => false) 25 _ _ _ _ _ _ _ (fun Z hZ => ?_)
    simp (disch := omega) only [f_X3_number_0 hZ, f_X3_number_1 hZ, f_X3_number_4 hZ, f_X3_number_7 hZ, f_X3_number_10 hZ, f_X3_number_13 hZ, f_X3_number_14 hZ, f_X3_number_15 hZ, f_X3_number_16 hZ, f_X3_number_19 hZ, f_X3_number_20 hZ, f_X3_number_21 hZ, f_X3_number_24 hZ, f_X3_number_27 hZ, f_X3_number_28 hZ, f_X3_number_29 hZ, f_X3_number_32 hZ, f_X3_number_35 hZ, f_X3_number_38 hZ, f_X3_number_39 hZ, f_X3_number_42 hZ, f_X3_number_45 hZ, f_X3_number_46 hZ, s_aload, s_getf, s_callV, s_const, s_acmp_eq, s_zreturn, s_l2i, zobj, zk1, ZRt, zp, zp0, Option.some.injEq, Value.int.injEq, Value.long.injEq, Value.ref.injEq, and_self, cond_true, cond_false, zget, zkd, zc_lt, zc_le, zc_0, zc_m, zc_m0, zc_10, zk0_n, zk0_i, zk0_r, zk0_0, zk0_l, zk0_d, zs1_0, zs1_1, zs1_s, zs2_0, zs2_1, zs2_s, zcs, List.getElem?_cons_zero, List.getElem?_cons_succ, List.set_cons_zero, List.set_cons_succ, List.drop_zero, List.drop_succ_cons, List.take_zero, List.take_succ_cons, List.reverse_cons, List.reverse_nil, List.nil_append, List.cons_append, List.length_cons, List.length_nil, List.map_cons, List.map_nil, List.sum_cons, List.sum_nil, Value.category, Option.toList_some, Option.toList_none, List.append_nil, nI_leI, nI_ltI, nI_eq, nI_add, pk_sub, Nat.add_sub_cancel, vp_in_nI, nI_clamp, true_implies, false_implies, implies_true, not_true_eq_false, not_false_eq_true, Nat.not_lt, Nat.not_le, if_true, if_false, eq_self, true_and, and_true, true_or, or_true, false_or, or_false, Nat.zero_add, Nat.add_zero, ↓reduceIte, Nat.reduceAdd, Nat.reduceSub, Nat.reduceLeDiff, Nat.reduceLT, Nat.reduceBEq, Nat.reduceEqDiff, reduceCtorEq, Nat.lt_add_one, Nat.le_refl, zv_cat, Bool.or_true, Bool.or_false, Bool.true_or, Bool.false_or, zk_m1, zk_1m, zk_gt_0, zk_le_0, zk_eq_0, zk_qe_0, zk_lt_0, zk_ge_0, zk_lt_1, zk_le_1, zk_gt_1, zk_ge_1, zk_eq_1, zk_qe_1, zk_ad_1, zk_da_1, zk_sb_1, zk_mu_1, zk_um_1, g0, t0]
    refine zcall_p (sp_g_sign hE hG.1 h hk) ?_
    refine zrun_okZ (ok_X3_number hX) (fun _ => false) 25 _ _ _ _ _ _ _ (fun Z hZ => ?_)
    simp (disch := omega) only [f_X3_number_0 hZ, f_X3_number_1 hZ, f_X3_number_4 hZ, f_X3_number_7 hZ, f_X3_number_10 hZ, f_X3_number_13 hZ, f_X3_number_14 hZ, f_X3_number_15 hZ, f_X3_number_16 hZ, f_X3_number_19 hZ, f_X3_number_20 hZ, f_X3_number_21 hZ, f_X3_number_24 hZ, f_X3_number_27 hZ, f_X3_number_28 hZ, f_X3_number_29 hZ, f_X3_number_32 hZ, f_X3_number_35 hZ, f_X3_number_38 hZ, f_X3_number_39 hZ, f_X3_number_42 hZ, f_X3_number_45 hZ, f_X3_number_46 hZ, s_aload, s_getf, s_callV, s_const, s_acmp_eq, s_zreturn, s_l2i, zobj, zk1, ZRt, zp, zp0, Option.some.injEq, Value.int.injEq, Value.long.injEq, Value.ref.injEq, and_self, cond_true, cond_false, zget, zkd, zc_lt, zc_le, zc_0, zc_m, zc_m0, zc_10, zk0_n, zk0_i, zk0_r, zk0_0, zk0_l, zk0_d, zs1_0, zs1_1, zs1_s, zs2_0, zs2_1, zs2_s, zcs, List.getElem?_cons_zero, List.getElem?_cons_succ, List.set_cons_zero, List.set_cons_succ, List.drop_zero, List.drop_succ_cons, List.take_zero, List.take_succ_cons, List.reverse_cons, List.reverse_nil, List.nil_append, List.cons_append, List.length_cons, List.length_nil, List.map_cons, List.map_nil, List.sum_cons, List.sum_nil, Value.category, Option.toList_some, Option.toList_none, List.append_nil, nI_leI, nI_ltI, nI_eq, nI_add, pk_sub, Nat.add_sub_cancel, vp_in_nI, nI_clamp, true_implies, false_implies, implies_true, not_true_eq_false, not_false_eq_true, Nat.not_lt, Nat.not_le, if_true, if_false, eq_self, true_and, and_true, true_or, or_true, false_or, or_false, Nat.zero_add, Nat.add_zero, ↓reduceIte, Nat.reduceAdd, Nat.reduceSub, Nat.reduceLeDiff, Nat.reduceLT, Nat.reduceBEq, Nat.reduceEqDiff, reduceCtorEq, Nat.lt_add_one, Nat.le_refl, zv_cat, Bool.or_true, Bool.or_false, Bool.true_or, Bool.false_or, zk_m1, zk_1m, zk_gt_0, zk_le_0, zk_eq_0, zk_qe_0, zk_lt_0, zk_ge_0, zk_lt_1, zk_le_1, zk_gt_1, zk_ge_1, zk_eq_1, zk_qe_1, zk_ad_1, zk_da_1, zk_sb_1, zk_mu_1, zk_um_1, g0, t0, zeK_i hE]
    exact ⟨fun q => absurd q k3, fun _ => ⟨grf.rf, fun q => absurd q k3, fun _ => h⟩⟩
theorem sp_isDeed (hE : ZEOK E) {o : Nat} (ho : o < 46) : ZSpec E MX3_isDeed 1 0 0 [.ref (zeK E o)] σ n (zp (.int (if 8 ≤ o ∧ o ≤ 12 then 1 else 0)) σ n) := by
  refine ZSpec_of hE (by decide +kernel) (Nat.le_of_ble_eq_true rfl) [some (.ref (zeK E o))] rfl (fun X hX => ?_)
  have z35 : 8 ≤ o ∧ o ≤ 12 → ZG E X MX3_isDeed 35 [some (.ref (zeK E o))] [] σ n 0 0 := by
    intro q
    refine zrun_okZ (ok_X3_isDeed hX) (fun _ => false) 21 _ _ _ _ _ _ _ (fun Z hZ => ?_)
    simp (disch := omega) only [f_X3_isDeed_0 hZ, f_X3_isDeed_1 hZ, f_X3_isDeed_4 hZ, f_X3_isDeed_7 hZ, f_X3_isDeed_8 hZ, f_X3_isDeed_11 hZ, f_X3_isDeed_14 hZ, f_X3_isDeed_15 hZ, f_X3_isDeed_18 hZ, f_X3_isDeed_21 hZ, f_X3_isDeed_22 hZ, f_X3_isDeed_25 hZ, f_X3_isDeed_28 hZ, f_X3_isDeed_29 hZ, f_X3_isDeed_32 hZ, f_X3_isDeed_35 hZ, f_X3_isDeed_36 hZ, f_X3_isDeed_39 hZ, f_X3_isDeed_40 hZ, s_aload, s_const, s_acmp_eq, s_acmp_ne, s_goto, s_zreturn, zk1, ZRt, zp, zp0, Option.some.injEq, Value.int.injEq, Value.long.injEq, Value.ref.injEq, and_self, cond_true, cond_false, zget, zkd, zc_lt, zc_le, zc_0, zc_m, zc_m0, zc_10, zk0_n, zk0_i, zk0_r, zk0_0, zk0_l, zk0_d, zs1_0, zs1_1, zs1_s, zs2_0, zs2_1, zs2_s, zcs, List.getElem?_cons_zero, List.getElem?_cons_succ, List.set_cons_zero, List.set_cons_succ, List.drop_zero, List.drop_succ_cons, List.take_zero, List.take_succ_cons, List.reverse_cons, List.reverse_nil, List.nil_append, List.cons_append, List.length_cons, List.length_nil, List.map_cons, List.map_nil, List.sum_cons, List.sum_nil, Value.category, Option.toList_some, Option.toList_none, List.append_nil, nI_leI, nI_ltI, nI_eq, nI_add, pk_sub, Nat.add_sub_cancel, vp_in_nI, nI_clamp, true_implies, false_implies, implies_true, not_true_eq_false, not_false_eq_true, Nat.not_lt, Nat.not_le, if_true, if_false, eq_self, true_and, and_true, true_or, or_true, false_or, or_false, Nat.zero_add, Nat.add_zero, ↓reduceIte, Nat.reduceAdd, Nat.reduceSub, Nat.reduceLeDiff, Nat.reduceLT, Nat.reduceBEq, Nat.reduceEqDiff, reduceCtorEq, Nat.lt_add_one, Nat.le_refl, zv_cat, Bool.or_true, Bool.or_false, Bool.true_or, Bool.false_or, zk_m1, zk_1m, zk_lt_1, zk_le_1, zk_gt_1, zk_ge_1, zk_eq_1, zk_qe_1, zk_ad_1, zk_da_1, zk_sb_1, zk_mu_1, zk_um_1, zk_gt_0, zk_le_0, zk_eq_0, zk_qe_0, zk_lt_0, zk_ge_0]
    rw [if_pos q]
  have z39 : ¬ (8 ≤ o ∧ o ≤ 12) → ZG E X MX3_isDeed 39 [some (.ref (zeK E o))] [] σ n 0 0 := by
    intro q
    refine zrun_okZ (ok_X3_isDeed hX) (fun _ => false) 21 _ _ _ _ _ _ _ (fun Z hZ => ?_)
    simp (disch := omega) only [f_X3_isDeed_0 hZ, f_X3_isDeed_1 hZ, f_X3_isDeed_4 hZ, f_X3_isDeed_7 hZ, f_X3_isDeed_8 hZ, f_X3_isDeed_11 hZ, f_X3_isDeed_14 hZ, f_X3_isDeed_15 hZ, f_X3_isDeed_18 hZ, f_X3_isDeed_21 hZ, f_X3_isDeed_22 hZ, f_X3_isDeed_25 hZ, f_X3_isDeed_28 hZ, f_X3_isDeed_29 hZ, f_X3_isDeed_32 hZ, f_X3_isDeed_35 hZ, f_X3_isDeed_36 hZ, f_X3_isDeed_39 hZ, f_X3_isDeed_40 hZ, s_aload, s_const, s_acmp_eq, s_acmp_ne, s_goto, s_zreturn, zk1, ZRt, zp, zp0, Option.some.injEq, Value.int.injEq, Value.long.injEq, Value.ref.injEq, and_self, cond_true, cond_false, zget, zkd, zc_lt, zc_le, zc_0, zc_m, zc_m0, zc_10, zk0_n, zk0_i, zk0_r, zk0_0, zk0_l, zk0_d, zs1_0, zs1_1, zs1_s, zs2_0, zs2_1, zs2_s, zcs, List.getElem?_cons_zero, List.getElem?_cons_succ, List.set_cons_zero, List.set_cons_succ, List.drop_zero, List.drop_succ_cons, List.take_zero, List.take_succ_cons, List.reverse_cons, List.reverse_nil, List.nil_append, List.cons_append, List.length_cons, List.length_nil, List.map_cons, List.map_nil, List.sum_cons, List.sum_nil, Value.category, Option.toList_some, Option.toList_none, List.append_nil, nI_leI, nI_ltI, nI_eq, nI_add, pk_sub, Nat.add_sub_cancel, vp_in_nI, nI_clamp, true_implies, false_implies, implies_true, not_true_eq_false, not_false_eq_true, Nat.not_lt, Nat.not_le, if_true, if_false, eq_self, true_and, and_true, true_or, or_true, false_or, or_false, Nat.zero_add, Nat.add_zero, ↓reduceIte, Nat.reduceAdd, Nat.reduceSub, Nat.reduceLeDiff, Nat.reduceLT, Nat.reduceBEq, Nat.reduceEqDiff, reduceCtorEq, Nat.lt_add_one, Nat.le_refl, zv_cat, Bool.or_true, Bool.or_false, Bool.true_or, Bool.false_or, zk_m1, zk_1m, zk_lt_1, zk_le_1, zk_gt_1, zk_ge_1, zk_eq_1, zk_qe_1, zk_ad_1, zk_da_1, zk_sb_1, zk_mu_1, zk_um_1, zk_gt_0, zk_le_0, zk_eq_0, zk_qe_0, zk_lt_0, zk_ge_0]
    rw [if_neg q]
  refine zrun_okZ (ok_X3_isDeed hX) (fun q => q == 35 || q == 39) 21 _ _ _ _ _ _ _ (fun Z hZ => ?_)
  simp (disch := omega) only [f_X3_isDeed_0 hZ, f_X3_isDeed_1 hZ, f_X3_isDeed_4 hZ, f_X3_isDeed_7 hZ, f_X3_isDeed_8 hZ, f_X3_isDeed_11 hZ, f_X3_isDeed_14 hZ, f_X3_isDeed_15 hZ, f_X3_isDeed_18 hZ, f_X3_isDeed_21 hZ, f_X3_isDeed_22 hZ, f_X3_isDeed_25 hZ, f_X3_isDeed_28 hZ, f_X3_isDeed_29 hZ, f_X3_isDeed_32 hZ, f_X3_isDeed_35 hZ, f_X3_isDeed_36 hZ, f_X3_isDeed_39 hZ, f_X3_isDeed_40 hZ, s_aload, s_const, s_acmp_eq, s_acmp_ne, s_goto, s_zreturn, zk1, ZRt, zp, zp0, Option.some.injEq, Value.int.injEq, Value.long.injEq, Value.ref.injEq, and_self, cond_true, cond_false, zget, zkd, zc_lt, zc_le, zc_0, zc_m, zc_m0, zc_10, zk0_n, zk0_i, zk0_r, zk0_0, zk0_l, zk0_d, zs1_0, zs1_1, zs1_s, zs2_0, zs2_1, zs2_s, zcs, List.getElem?_cons_zero, List.getElem?_cons_succ, List.set_cons_zero, List.set_cons_succ, List.drop_zero, List.drop_succ_cons, List.take_zero, List.take_succ_cons, List.reverse_cons, List.reverse_nil, List.nil_append, List.cons_append, List.length_cons, List.length_nil, List.map_cons, List.map_nil, List.sum_cons, List.sum_nil, Value.category, Option.toList_some, Option.toList_none, List.append_nil, nI_leI, nI_ltI, nI_eq, nI_add, pk_sub, Nat.add_sub_cancel, vp_in_nI, nI_clamp, true_implies, false_implies, implies_true, not_true_eq_false, not_false_eq_true, Nat.not_lt, Nat.not_le, if_true, if_false, eq_self, true_and, and_true, true_or, or_true, false_or, or_false, Nat.zero_add, Nat.add_zero, ↓reduceIte, Nat.reduceAdd, Nat.reduceSub, Nat.reduceLeDiff, Nat.reduceLT, Nat.reduceBEq, Nat.reduceEqDiff, reduceCtorEq, Nat.lt_add_one, Nat.le_refl, zv_cat, Bool.or_true, Bool.or_false, Bool.true_or, Bool.false_or, zk_m1, zk_1m, zk_lt_1, zk_le_1, zk_gt_1, zk_ge_1, zk_eq_1, zk_qe_1, zk_ad_1, zk_da_1, zk_sb_1, zk_mu_1, zk_um_1, zk_gt_0, zk_le_0, zk_eq_0, zk_qe_0, zk_lt_0, zk_ge_0, zeK_i hE]
  refine ⟨fun q => z35 (by omega), fun q1 => ⟨fun q => z35 (by omega), fun q2 => ⟨fun q => z35 (by omega), fun q3 => ⟨fun q => z35 (by omega), fun q4 => ⟨fun q => z35 (by omega), fun q => z39 (by omega)⟩⟩⟩⟩⟩
theorem act_d2 (hm : mk k = true) : actF mk K V (k + 1) = if aer (actF mk K V k) ≠ 0 then actF mk K V k else if ade (actF mk K V k) (anc (actF mk K V k) - 1) = 4 then fltA (actF mk K V k) 4 k else deedA (actF mk K V k) k := by
  rw [actF_s]
  unfold actA
  rw [if_pos hm]
end
