/-! THE REFERENCE reads a list -/
theorem name_nm {S : SA} {b c v k : Nat} : anm S ≤ anm (nameA S b c v k) ∧ aot (nameA S b c v k) = aot S := by
  unfold nameA
  repeat' (first | exact ⟨Nat.le_refl _, rfl⟩ | exact ⟨Nat.le_succ _, rfl⟩ | split)
theorem numb_nm {S : SA} {b v k : Nat} : anm (numbA S b v k) = anm S ∧ aot (numbA S b v k) = aot S := by
  unfold numbA
  repeat' (first | exact ⟨rfl, rfl⟩ | split)
theorem act_nm {mk : Nat → Bool} {K V : Nat → Nat} {S : SA} {k : Nat} : anm S ≤ anm (actA mk K V S k) := by
  unfold actA
  split
  · exact Nat.le_refl _
  · split
    · split <;> exact Nat.le_refl _
    · split
      · exact name_nm.1
      · split
        · rw [numb_nm.1]; exact Nat.le_refl _
        · split
          · split <;> exact Nat.le_refl _
          · split <;> exact Nat.le_refl _
theorem actF_nm {mk : Nat → Bool} {K V : Nat → Nat} {k : Nat} : ∀ j, anm (actF mk K V k) ≤ anm (actF mk K V (k + j))
  | 0 => Nat.le_refl _
  | j + 1 => Nat.le_trans (actF_nm j) act_nm
/-- the tests told -/
theorem aot_k {mk : Nat → Bool} {K V : Nat → Nat} : ∀ {k o t : Nat}, aot (actF mk K V k) o = some t → 1 ≤ t ∧ t ≤ k ∧ K (t - 1) = 19
  | 0, o, t, h => by cases h
  | k + 1, o, t, h => by
    have ih : aot (actF mk K V k) o = some t → 1 ≤ t ∧ t ≤ k + 1 ∧ K (t - 1) = 19 := fun q => by
      have := aot_k q
      exact ⟨this.1, by omega, this.2.2⟩
    rw [actF_s] at h
    unfold actA at h
    split at h
    · exact ih h
    · split at h
      · split at h <;> exact ih h
      · split at h
        · rw [name_nm.2] at h; exact ih h
        · split at h
          · rw [numb_nm.2] at h; exact ih h
          · split at h
            · split at h
              · exact ih h
              · have h' : (if o = ano (actF mk K V k) then none else aot (actF mk K V k) o) = some t := h
                split at h'
                · cases h'
                · exact ih h'
            · split at h
              · have h' : (if o = ano (actF mk K V k) - 1 then some (k + 1) else aot (actF mk K V k) o) = some t := h
                split at h'
                · cases h'
                  exact ⟨by omega, by omega, ‹K k = 19›⟩
                · exact ih h'
              · exact ih h
/-- an order has been told -/
theorem ano_k {mk : Nat → Bool} {K V : Nat → Nat} : ∀ {k : Nat}, 1 ≤ ano (actF mk K V k) → ∃ j, j < k ∧ K j = 17
  | 0, h => by
    have h' : 1 ≤ 0 := h
    omega
  | k + 1, h => by
    have ih : 1 ≤ ano (actF mk K V k) → ∃ j, j < k + 1 ∧ K j = 17 := fun q => by
      obtain ⟨j, h1, h2⟩ := ano_k q
      exact ⟨j, by omega, h2⟩
    by_cases e : K k = 17
    · exact ⟨k, by omega, e⟩
    · rw [actF_s] at h
      unfold actA at h
      split at h
      · exact ih h
      · split at h
        · split at h <;> exact ih h
        · split at h
          · rw [name_nc.2] at h; exact ih h
          · split at h
            · rw [numb_nc.2] at h; exact ih h
            · split at h <;> exact ih h
/-- a name that has been found -/
theorem name_ok {mk : Nat → Bool} {K V : Nat → Nat} {k : Nat} (h : aer (actF mk K V (k + 1)) = 0) (hm : ¬ mk k = true) (h2 : K k = 2) : (K (k - 1) = 17 → 1 ≤ anc (actF mk K V k)) ∧ (K (k - 1) = 18 → 1 ≤ anm (actF mk K V k)) := by
  have h0 : aer (actF mk K V k) = 0 := actF_0 h (Nat.le_succ k)
  rw [actF_s, act_0 h0, if_neg hm, if_pos h2] at h
  generalize actF mk K V k = S at *
  unfold nameA at h
  refine ⟨fun q => ?_, fun q => ?_⟩
  · rw [q, if_neg (by omega), if_neg (by omega), if_neg (by omega)] at h
    cases hf : fdA (acn S) (V k) (anc S) 0 with
    | none => rw [hf] at h; cases h
    | some j => have := fdA_in hf; omega
  · rw [q, if_neg (by omega), if_neg (by omega), if_pos rfl] at h
    cases hf : fdA (amn S) (V k) (anm S) 0 with
    | none => rw [hf] at h; cases h
    | some j => have := fdA_in hf; omega
theorem flt_ep {S : SA} {n k : Nat} : aep (fltA S n k) = k := rfl
/-- the place of the error -/
theorem act_ep0 {mk : Nat → Bool} {K V : Nat → Nat} {S : SA} {k : Nat} (h0 : aer S = 0) : aer (actA mk K V S k) = 0 ∨ aep (actA mk K V S k) = k := by
  rw [act_0 h0]
  unfold nameA numbA
  repeat' (first | exact Or.inl h0 | exact Or.inr rfl | split)
theorem act_ep {mk : Nat → Bool} {K V : Nat → Nat} {S : SA} {k : Nat} (h0 : aer S = 0) (h : aer (actA mk K V S k) ≠ 0) : aep (actA mk K V S k) = k := (act_ep0 h0).resolve_left h
section
variable {E : ZEX} {σ : ZHp} {n x y tl k : Nat} {tb : Nat → Nat} {mk : Nat → Bool}
theorem rkc_lswE : ∀ o, o < 46 → (o ≠ 4 ∧ o ≠ 2 ∧ o ≠ 3 ∧ o ≠ 17 ∧ o ≠ 19) → zlsw (nI (rkc o)) [(12, 78), (14, 84), (30, 64), (31, 71)] 100 = 100 := by decide +kernel
theorem sp_errorOf (hE : ZEOK E) (hR : RPs E σ x tb tl) (hxy : x < y ∨ y + 17 ≤ x) (h : SHa E σ y tb tl mk (actF mk (lxK tb tl) (lxV tb tl) k) k) (ho : okA (actF mk (lxK tb tl) (lxV tb tl) k)) (h0 : aer (actF mk (lxK tb tl) (lxV tb tl) k) = 0) (hmk : ∀ k, mk k = true → 8 ≤ lxK tb tl k ∧ lxK tb tl k ≤ 12) (hx : cxT (lxK tb tl) (fun k => mk k = true) k) (hk : k < eN tb tl) : ZSpec E MX15_errorOf 15 0 0 [.ref x, .ref y, .int (nI k)] σ n (fun v σ' n' => ∃ z, v = some (.int z) ∧ n' = n ∧ EPs E σ' σ y tb tl mk (actF mk (lxK tb tl) (lxV tb tl) (k + 1)) k z) := by
  have hb := hR.b.2
  have hN := (eN_b (tb := tb) (tl := tl)).1
  have hKc := lxK_c (tl := tl) hb
  obtain ⟨vx, hvx⟩ := hR.o
  obtain ⟨x1, x2, x3, x4⟩ := hx
  have hA := fun q => anc_ge (V := lxV tb tl) (mk := mk) hmk (k := k) q h0
  have hO := fun q => ano_ge (V := lxV tb tl) (mk := mk) hmk (k := k) q h0
  have hU := fun q1 q2 q3 q4 => num_ge (V := lxV tb tl) (mk := mk) hmk (k := k) q1 q2 q3 q4 h0
  have hcn := cn_ok (mk := mk) (V := lxV tb tl) (fun k q => by have := hmk k q; omega) h0
  have hD : 1 ≤ k → mk (k - 1) = true → 1 ≤ ade (actF mk (lxK tb tl) (lxV tb tl) k) (anc (actF mk (lxK tb tl) (lxV tb tl) k) - 1) ∧ adt (actF mk (lxK tb tl) (lxV tb tl) k) (4 * (anc (actF mk (lxK tb tl) (lxV tb tl) k) - 1) + ade (actF mk (lxK tb tl) (lxV tb tl) k) (anc (actF mk (lxK tb tl) (lxV tb tl) k) - 1) - 1) = k - 1 := fun q1 q2 => by
    have z := ade_ge (V := lxV tb tl) (K := lxK tb tl) q2 (by rw [show k - 1 + 1 = k by omega]; exact h0)
    rw [show k - 1 + 1 = k by omega] at z
    exact z
  rw [actF_s]
  generalize hSS : actF mk (lxK tb tl) (lxV tb tl) k = S at *
  obtain ⟨S', hS'⟩ : ∃ S', S' = actA mk (lxK tb tl) (lxV tb tl) S k := ⟨_, rfl⟩
  rw [← hS']
  rw [act_0 h0] at hS'
  obtain ⟨G, g0, hB, q1, q2, q3, q4⟩ := id h
  have a1 := hB 1 (by omega) (by omega)
  have a5 := hB 5 (by omega) (by omega)
  have b1 := q1 k (by omega)
  have b5 := q3 k (by omega)
  unfold iar at a1 a5
  rw [show szA 1 = 401 from rfl] at a1
  rw [show szA 5 = 401 from rfl] at a5
  have g0' := g0
  unfold shO at g0'
  by_cases hm : mk k = true
  · rw [if_pos hm] at hS' b5
    have y1 := x1 hm
    have sD : ZSpec E MX15_errorOfDeed 7 0 0 [.ref x, .ref y, .int (nI k)] σ n (fun v σ' n' => ∃ z, v = some (.int z) ∧ n' = n ∧ EPs E σ' σ y tb tl mk S' k z) := by
      rw [hS']
      exact sp_errorOfDeed hE h ho h0 (hA y1.2.2) (by omega) hm y1.1
    refine ZSpec_of hE (by decide +kernel) (Nat.le_of_ble_eq_true rfl) [some (.ref x), some (.ref y), some (.int (nI k))] rfl (fun X hX => ?_)
    refine zrun_okZ (ok_X15_errorOf hX) (fun _ => false) 46 _ _ _ _ _ _ _ (fun Z hZ => ?_)
    simp (disch := omega) only [f_X15_errorOf_0 hZ, f_X15_errorOf_1 hZ, f_X15_errorOf_4 hZ, f_X15_errorOf_5 hZ, f_X15_errorOf_6 hZ, f_X15_errorOf_7 hZ, f_X15_errorOf_10 hZ, f_X15_errorOf_11 hZ, f_X15_errorOf_12 hZ, f_X15_errorOf_13 hZ, f_X15_errorOf_16 hZ, f_X15_errorOf_17 hZ, f_X15_errorOf_18 hZ, f_X15_errorOf_21 hZ, f_X15_errorOf_22 hZ, f_X15_errorOf_23 hZ, f_X15_errorOf_64 hZ, f_X15_errorOf_65 hZ, f_X15_errorOf_66 hZ, f_X15_errorOf_67 hZ, f_X15_errorOf_70 hZ, f_X15_errorOf_71 hZ, f_X15_errorOf_72 hZ, f_X15_errorOf_73 hZ, f_X15_errorOf_74 hZ, f_X15_errorOf_77 hZ, f_X15_errorOf_78 hZ, f_X15_errorOf_79 hZ, f_X15_errorOf_80 hZ, f_X15_errorOf_83 hZ, f_X15_errorOf_84 hZ, f_X15_errorOf_85 hZ, f_X15_errorOf_88 hZ, f_X15_errorOf_89 hZ, f_X15_errorOf_92 hZ, f_X15_errorOf_93 hZ, f_X15_errorOf_94 hZ, f_X15_errorOf_95 hZ, f_X15_errorOf_96 hZ, f_X15_errorOf_97 hZ, f_X15_errorOf_98 hZ, f_X15_errorOf_99 hZ, f_X15_errorOf_100 hZ, f_X15_errorOf_101 hZ, s_aload, s_getf, s_iload, s_iaload, s_const, s_icmp_ne, s_callV, s_ireturn, s_lsw, s_isub, s_iadd, s_iastore, zobj, zk1, ZRt, zp, zp0, Option.some.injEq, Value.int.injEq, Value.long.injEq, Value.ref.injEq, and_self, cond_true, cond_false, zget, zkd, zc_lt, zc_le, zc_0, zc_m, zc_m0, zc_10, zk0_n, zk0_i, zk0_r, zk0_0, zk0_l, zk0_d, zs1_0, zs1_1, zs1_s, zs2_0, zs2_1, zs2_s, zcs, List.getElem?_cons_zero, List.getElem?_cons_succ, List.set_cons_zero, List.set_cons_succ, List.drop_zero, List.drop_succ_cons, List.take_zero, List.take_succ_cons, List.reverse_cons, List.reverse_nil, List.nil_append, List.cons_append, List.length_cons, List.length_nil, List.map_cons, List.map_nil, List.sum_cons, List.sum_nil, Value.category, Option.toList_some, Option.toList_none, List.append_nil, nI_leI, nI_ltI, nI_eq, nI_add, pk_sub, Nat.add_sub_cancel, vp_in_nI, nI_clamp, true_implies, false_implies, implies_true, not_true_eq_false, not_false_eq_true, Nat.not_lt, Nat.not_le, if_true, if_false, eq_self, true_and, and_true, true_or, or_true, false_or, or_false, Nat.zero_add, Nat.add_zero, ↓reduceIte, Nat.reduceAdd, Nat.reduceSub, Nat.reduceLeDiff, Nat.reduceLT, Nat.reduceBEq, Nat.reduceEqDiff, reduceCtorEq, Nat.lt_add_one, Nat.le_refl, zv_cat, Bool.or_true, Bool.or_false, Bool.true_or, Bool.false_or, zk_m1, zk_1m, zk_lt_1, zk_le_1, zk_gt_1, zk_ge_1, zk_eq_1, zk_qe_1, zk_ad_1, zk_da_1, zk_sb_1, zk_mu_1, zk_um_1, zk_gt_0, zk_le_0, zk_eq_0, zk_qe_0, zk_lt_0, zk_ge_0, g0', a5, b5, hvx]
    refine zcall_q sD ?_
    rintro v s2 m2 ⟨z, rfl, rfl, hp⟩
    refine zrun_okZ (ok_X15_errorOf hX) (fun _ => false) 46 _ _ _ _ _ _ _ (fun Z hZ => ?_)
    simp (disch := omega) only [f_X15_errorOf_0 hZ, f_X15_errorOf_1 hZ, f_X15_errorOf_4 hZ, f_X15_errorOf_5 hZ, f_X15_errorOf_6 hZ, f_X15_errorOf_7 hZ, f_X15_errorOf_10 hZ, f_X15_errorOf_11 hZ, f_X15_errorOf_12 hZ, f_X15_errorOf_13 hZ, f_X15_errorOf_16 hZ, f_X15_errorOf_17 hZ, f_X15_errorOf_18 hZ, f_X15_errorOf_21 hZ, f_X15_errorOf_22 hZ, f_X15_errorOf_23 hZ, f_X15_errorOf_64 hZ, f_X15_errorOf_65 hZ, f_X15_errorOf_66 hZ, f_X15_errorOf_67 hZ, f_X15_errorOf_70 hZ, f_X15_errorOf_71 hZ, f_X15_errorOf_72 hZ, f_X15_errorOf_73 hZ, f_X15_errorOf_74 hZ, f_X15_errorOf_77 hZ, f_X15_errorOf_78 hZ, f_X15_errorOf_79 hZ, f_X15_errorOf_80 hZ, f_X15_errorOf_83 hZ, f_X15_errorOf_84 hZ, f_X15_errorOf_85 hZ, f_X15_errorOf_88 hZ, f_X15_errorOf_89 hZ, f_X15_errorOf_92 hZ, f_X15_errorOf_93 hZ, f_X15_errorOf_94 hZ, f_X15_errorOf_95 hZ, f_X15_errorOf_96 hZ, f_X15_errorOf_97 hZ, f_X15_errorOf_98 hZ, f_X15_errorOf_99 hZ, f_X15_errorOf_100 hZ, f_X15_errorOf_101 hZ, s_aload, s_getf, s_iload, s_iaload, s_const, s_icmp_ne, s_callV, s_ireturn, s_lsw, s_isub, s_iadd, s_iastore, zobj, zk1, ZRt, zp, zp0, Option.some.injEq, Value.int.injEq, Value.long.injEq, Value.ref.injEq, and_self, cond_true, cond_false, zget, zkd, zc_lt, zc_le, zc_0, zc_m, zc_m0, zc_10, zk0_n, zk0_i, zk0_r, zk0_0, zk0_l, zk0_d, zs1_0, zs1_1, zs1_s, zs2_0, zs2_1, zs2_s, zcs, List.getElem?_cons_zero, List.getElem?_cons_succ, List.set_cons_zero, List.set_cons_succ, List.drop_zero, List.drop_succ_cons, List.take_zero, List.take_succ_cons, List.reverse_cons, List.reverse_nil, List.nil_append, List.cons_append, List.length_cons, List.length_nil, List.map_cons, List.map_nil, List.sum_cons, List.sum_nil, Value.category, Option.toList_some, Option.toList_none, List.append_nil, nI_leI, nI_ltI, nI_eq, nI_add, pk_sub, Nat.add_sub_cancel, vp_in_nI, nI_clamp, true_implies, false_implies, implies_true, not_true_eq_false, not_false_eq_true, Nat.not_lt, Nat.not_le, if_true, if_false, eq_self, true_and, and_true, true_or, or_true, false_or, or_false, Nat.zero_add, Nat.add_zero, ↓reduceIte, Nat.reduceAdd, Nat.reduceSub, Nat.reduceLeDiff, Nat.reduceLT, Nat.reduceBEq, Nat.reduceEqDiff, reduceCtorEq, Nat.lt_add_one, Nat.le_refl, zv_cat, Bool.or_true, Bool.or_false, Bool.true_or, Bool.false_or, zk_m1, zk_1m, zk_lt_1, zk_le_1, zk_gt_1, zk_ge_1, zk_eq_1, zk_qe_1, zk_ad_1, zk_da_1, zk_sb_1, zk_mu_1, zk_um_1, zk_gt_0, zk_le_0, zk_eq_0, zk_qe_0, zk_lt_0, zk_ge_0]
    exact ⟨_, rfl, hp⟩
  · rw [if_neg hm] at hS' b5
    have e01 : ¬ (0 : Int32) = 1 := by decide
    by_cases h2 : lxK tb tl k = 2
    · rw [if_pos h2] at hS'
      have hk1 : 1 ≤ k := by
        by_cases e : k = 0
        · subst e
          have := x2 h2
          rw [show 0 - 1 = 0 from rfl] at this
          omega
        · omega
      have sN : ZSpec E MX15_errorOfName 12 0 0 [.ref x, .ref y, .int (nI k)] σ n (fun v σ' n' => ∃ z, v = some (.int z) ∧ n' = n ∧ EPs E σ' σ y tb tl mk S' k z) := by
        rw [hS']
        refine sp_errorOfName hE hR hxy h ho h0 (by omega) hk1 h2 hcn ?_
        rcases x2 h2 with c | c | c | c | c | c | c
        · exact Or.inl c
        · exact Or.inr (Or.inl c)
        · exact Or.inr (Or.inr (Or.inl ⟨Or.inl c, hO ⟨k - 1, by omega, c⟩⟩))
        · exact Or.inr (Or.inr (Or.inl ⟨Or.inr c.1, hO c.2⟩))
        · refine Or.inr (Or.inr (Or.inr (Or.inl ⟨c.1, c.2.1, ?_⟩)))
          have u := hU c.2.1 c.1 c.2.2.1 c.2.2.2
          rcases c.2.2.2 with d | d
          · refine Or.inl ⟨d, ?_⟩
            have := u.2.1 d
            have := u.1
            omega
          · exact Or.inr d
        · exact Or.inr (Or.inr (Or.inr (Or.inr (Or.inl ⟨c.1, hD c.2.1 c.2.2⟩))))
        · exact Or.inr (Or.inr (Or.inr (Or.inr (Or.inr c))))
      rw [h2] at b1
      refine ZSpec_of hE (by decide +kernel) (Nat.le_of_ble_eq_true rfl) [some (.ref x), some (.ref y), some (.int (nI k))] rfl (fun X hX => ?_)
      refine zrun_okZ (ok_X15_errorOf hX) (fun _ => false) 46 _ _ _ _ _ _ _ (fun Z hZ => ?_)
      simp (disch := omega) only [f_X15_errorOf_0 hZ, f_X15_errorOf_1 hZ, f_X15_errorOf_4 hZ, f_X15_errorOf_5 hZ, f_X15_errorOf_6 hZ, f_X15_errorOf_7 hZ, f_X15_errorOf_10 hZ, f_X15_errorOf_11 hZ, f_X15_errorOf_12 hZ, f_X15_errorOf_13 hZ, f_X15_errorOf_16 hZ, f_X15_errorOf_17 hZ, f_X15_errorOf_18 hZ, f_X15_errorOf_21 hZ, f_X15_errorOf_22 hZ, f_X15_errorOf_23 hZ, f_X15_errorOf_64 hZ, f_X15_errorOf_65 hZ, f_X15_errorOf_66 hZ, f_X15_errorOf_67 hZ, f_X15_errorOf_70 hZ, f_X15_errorOf_71 hZ, f_X15_errorOf_72 hZ, f_X15_errorOf_73 hZ, f_X15_errorOf_74 hZ, f_X15_errorOf_77 hZ, f_X15_errorOf_78 hZ, f_X15_errorOf_79 hZ, f_X15_errorOf_80 hZ, f_X15_errorOf_83 hZ, f_X15_errorOf_84 hZ, f_X15_errorOf_85 hZ, f_X15_errorOf_88 hZ, f_X15_errorOf_89 hZ, f_X15_errorOf_92 hZ, f_X15_errorOf_93 hZ, f_X15_errorOf_94 hZ, f_X15_errorOf_95 hZ, f_X15_errorOf_96 hZ, f_X15_errorOf_97 hZ, f_X15_errorOf_98 hZ, f_X15_errorOf_99 hZ, f_X15_errorOf_100 hZ, f_X15_errorOf_101 hZ, s_aload, s_getf, s_iload, s_iaload, s_const, s_icmp_ne, s_callV, s_ireturn, s_lsw, s_isub, s_iadd, s_iastore, zobj, zk1, ZRt, zp, zp0, Option.some.injEq, Value.int.injEq, Value.long.injEq, Value.ref.injEq, and_self, cond_true, cond_false, zget, zkd, zc_lt, zc_le, zc_0, zc_m, zc_m0, zc_10, zk0_n, zk0_i, zk0_r, zk0_0, zk0_l, zk0_d, zs1_0, zs1_1, zs1_s, zs2_0, zs2_1, zs2_s, zcs, List.getElem?_cons_zero, List.getElem?_cons_succ, List.set_cons_zero, List.set_cons_succ, List.drop_zero, List.drop_succ_cons, List.take_zero, List.take_succ_cons, List.reverse_cons, List.reverse_nil, List.nil_append, List.cons_append, List.length_cons, List.length_nil, List.map_cons, List.map_nil, List.sum_cons, List.sum_nil, Value.category, Option.toList_some, Option.toList_none, List.append_nil, nI_leI, nI_ltI, nI_eq, nI_add, pk_sub, Nat.add_sub_cancel, vp_in_nI, nI_clamp, true_implies, false_implies, implies_true, not_true_eq_false, not_false_eq_true, Nat.not_lt, Nat.not_le, if_true, if_false, eq_self, true_and, and_true, true_or, or_true, false_or, or_false, Nat.zero_add, Nat.add_zero, ↓reduceIte, Nat.reduceAdd, Nat.reduceSub, Nat.reduceLeDiff, Nat.reduceLT, Nat.reduceBEq, Nat.reduceEqDiff, reduceCtorEq, Nat.lt_add_one, Nat.le_refl, zv_cat, Bool.or_true, Bool.or_false, Bool.true_or, Bool.false_or, zk_m1, zk_1m, zk_lt_1, zk_le_1, zk_gt_1, zk_ge_1, zk_eq_1, zk_qe_1, zk_ad_1, zk_da_1, zk_sb_1, zk_mu_1, zk_um_1, zk_gt_0, zk_le_0, zk_eq_0, zk_qe_0, zk_lt_0, zk_ge_0, g0', a5, b5, a1, b1, hvx, e01]
      rw [show zlsw (nI (rkc 2)) [(12, 78), (14, 84), (30, 64), (31, 71)] 100 = 64 by decide +kernel]
      refine zrun_okZ (ok_X15_errorOf hX) (fun _ => false) 46 _ _ _ _ _ _ _ (fun Z hZ => ?_)
      simp (disch := omega) only [f_X15_errorOf_0 hZ, f_X15_errorOf_1 hZ, f_X15_errorOf_4 hZ, f_X15_errorOf_5 hZ, f_X15_errorOf_6 hZ, f_X15_errorOf_7 hZ, f_X15_errorOf_10 hZ, f_X15_errorOf_11 hZ, f_X15_errorOf_12 hZ, f_X15_errorOf_13 hZ, f_X15_errorOf_16 hZ, f_X15_errorOf_17 hZ, f_X15_errorOf_18 hZ, f_X15_errorOf_21 hZ, f_X15_errorOf_22 hZ, f_X15_errorOf_23 hZ, f_X15_errorOf_64 hZ, f_X15_errorOf_65 hZ, f_X15_errorOf_66 hZ, f_X15_errorOf_67 hZ, f_X15_errorOf_70 hZ, f_X15_errorOf_71 hZ, f_X15_errorOf_72 hZ, f_X15_errorOf_73 hZ, f_X15_errorOf_74 hZ, f_X15_errorOf_77 hZ, f_X15_errorOf_78 hZ, f_X15_errorOf_79 hZ, f_X15_errorOf_80 hZ, f_X15_errorOf_83 hZ, f_X15_errorOf_84 hZ, f_X15_errorOf_85 hZ, f_X15_errorOf_88 hZ, f_X15_errorOf_89 hZ, f_X15_errorOf_92 hZ, f_X15_errorOf_93 hZ, f_X15_errorOf_94 hZ, f_X15_errorOf_95 hZ, f_X15_errorOf_96 hZ, f_X15_errorOf_97 hZ, f_X15_errorOf_98 hZ, f_X15_errorOf_99 hZ, f_X15_errorOf_100 hZ, f_X15_errorOf_101 hZ, s_aload, s_getf, s_iload, s_iaload, s_const, s_icmp_ne, s_callV, s_ireturn, s_lsw, s_isub, s_iadd, s_iastore, zobj, zk1, ZRt, zp, zp0, Option.some.injEq, Value.int.injEq, Value.long.injEq, Value.ref.injEq, and_self, cond_true, cond_false, zget, zkd, zc_lt, zc_le, zc_0, zc_m, zc_m0, zc_10, zk0_n, zk0_i, zk0_r, zk0_0, zk0_l, zk0_d, zs1_0, zs1_1, zs1_s, zs2_0, zs2_1, zs2_s, zcs, List.getElem?_cons_zero, List.getElem?_cons_succ, List.set_cons_zero, List.set_cons_succ, List.drop_zero, List.drop_succ_cons, List.take_zero, List.take_succ_cons, List.reverse_cons, List.reverse_nil, List.nil_append, List.cons_append, List.length_cons, List.length_nil, List.map_cons, List.map_nil, List.sum_cons, List.sum_nil, Value.category, Option.toList_some, Option.toList_none, List.append_nil, nI_leI, nI_ltI, nI_eq, nI_add, pk_sub, Nat.add_sub_cancel, vp_in_nI, nI_clamp, true_implies, false_implies, implies_true, not_true_eq_false, not_false_eq_true, Nat.not_lt, Nat.not_le, if_true, if_false, eq_self, true_and, and_true, true_or, or_true, false_or, or_false, Nat.zero_add, Nat.add_zero, ↓reduceIte, Nat.reduceAdd, Nat.reduceSub, Nat.reduceLeDiff, Nat.reduceLT, Nat.reduceBEq, Nat.reduceEqDiff, reduceCtorEq, Nat.lt_add_one, Nat.le_refl, zv_cat, Bool.or_true, Bool.or_false, Bool.true_or, Bool.false_or, zk_m1, zk_1m, zk_lt_1, zk_le_1, zk_gt_1, zk_ge_1, zk_eq_1, zk_qe_1, zk_ad_1, zk_da_1, zk_sb_1, zk_mu_1, zk_um_1, zk_gt_0, zk_le_0, zk_eq_0, zk_qe_0, zk_lt_0, zk_ge_0, hvx]
      refine zcall_q sN ?_
      rintro v s2 m2 ⟨z, rfl, rfl, hp⟩
      refine zrun_okZ (ok_X15_errorOf hX) (fun _ => false) 46 _ _ _ _ _ _ _ (fun Z hZ => ?_)
      simp (disch := omega) only [f_X15_errorOf_0 hZ, f_X15_errorOf_1 hZ, f_X15_errorOf_4 hZ, f_X15_errorOf_5 hZ, f_X15_errorOf_6 hZ, f_X15_errorOf_7 hZ, f_X15_errorOf_10 hZ, f_X15_errorOf_11 hZ, f_X15_errorOf_12 hZ, f_X15_errorOf_13 hZ, f_X15_errorOf_16 hZ, f_X15_errorOf_17 hZ, f_X15_errorOf_18 hZ, f_X15_errorOf_21 hZ, f_X15_errorOf_22 hZ, f_X15_errorOf_23 hZ, f_X15_errorOf_64 hZ, f_X15_errorOf_65 hZ, f_X15_errorOf_66 hZ, f_X15_errorOf_67 hZ, f_X15_errorOf_70 hZ, f_X15_errorOf_71 hZ, f_X15_errorOf_72 hZ, f_X15_errorOf_73 hZ, f_X15_errorOf_74 hZ, f_X15_errorOf_77 hZ, f_X15_errorOf_78 hZ, f_X15_errorOf_79 hZ, f_X15_errorOf_80 hZ, f_X15_errorOf_83 hZ, f_X15_errorOf_84 hZ, f_X15_errorOf_85 hZ, f_X15_errorOf_88 hZ, f_X15_errorOf_89 hZ, f_X15_errorOf_92 hZ, f_X15_errorOf_93 hZ, f_X15_errorOf_94 hZ, f_X15_errorOf_95 hZ, f_X15_errorOf_96 hZ, f_X15_errorOf_97 hZ, f_X15_errorOf_98 hZ, f_X15_errorOf_99 hZ, f_X15_errorOf_100 hZ, f_X15_errorOf_101 hZ, s_aload, s_getf, s_iload, s_iaload, s_const, s_icmp_ne, s_callV, s_ireturn, s_lsw, s_isub, s_iadd, s_iastore, zobj, zk1, ZRt, zp, zp0, Option.some.injEq, Value.int.injEq, Value.long.injEq, Value.ref.injEq, and_self, cond_true, cond_false, zget, zkd, zc_lt, zc_le, zc_0, zc_m, zc_m0, zc_10, zk0_n, zk0_i, zk0_r, zk0_0, zk0_l, zk0_d, zs1_0, zs1_1, zs1_s, zs2_0, zs2_1, zs2_s, zcs, List.getElem?_cons_zero, List.getElem?_cons_succ, List.set_cons_zero, List.set_cons_succ, List.drop_zero, List.drop_succ_cons, List.take_zero, List.take_succ_cons, List.reverse_cons, List.reverse_nil, List.nil_append, List.cons_append, List.length_cons, List.length_nil, List.map_cons, List.map_nil, List.sum_cons, List.sum_nil, Value.category, Option.toList_some, Option.toList_none, List.append_nil, nI_leI, nI_ltI, nI_eq, nI_add, pk_sub, Nat.add_sub_cancel, vp_in_nI, nI_clamp, true_implies, false_implies, implies_true, not_true_eq_false, not_false_eq_true, Nat.not_lt, Nat.not_le, if_true, if_false, eq_self, true_and, and_true, true_or, or_true, false_or, or_false, Nat.zero_add, Nat.add_zero, ↓reduceIte, Nat.reduceAdd, Nat.reduceSub, Nat.reduceLeDiff, Nat.reduceLT, Nat.reduceBEq, Nat.reduceEqDiff, reduceCtorEq, Nat.lt_add_one, Nat.le_refl, zv_cat, Bool.or_true, Bool.or_false, Bool.true_or, Bool.false_or, zk_m1, zk_1m, zk_lt_1, zk_le_1, zk_gt_1, zk_ge_1, zk_eq_1, zk_qe_1, zk_ad_1, zk_da_1, zk_sb_1, zk_mu_1, zk_um_1, zk_gt_0, zk_le_0, zk_eq_0, zk_qe_0, zk_lt_0, zk_ge_0]
      exact ⟨_, rfl, hp⟩
    · rw [if_neg h2] at hS'
      by_cases h3 : lxK tb tl k = 3
      · rw [if_pos h3] at hS'
        have y3 := x3 h3
        have sN : ZSpec E MX15_errorOfNumber 9 0 0 [.ref x, .ref y, .int (nI k)] σ n (fun v σ' n' => ∃ z, v = some (.int z) ∧ n' = n ∧ EPs E σ' σ y tb tl mk S' k z) := by
          rw [hS']
          exact sp_errorOfNumber hE hR h ho h0 (by omega) y3.1 h3 (fun q => hA (y3.2 q))
        rw [h3] at b1
        refine ZSpec_of hE (by decide +kernel) (Nat.le_of_ble_eq_true rfl) [some (.ref x), some (.ref y), some (.int (nI k))] rfl (fun X hX => ?_)
        refine zrun_okZ (ok_X15_errorOf hX) (fun _ => false) 46 _ _ _ _ _ _ _ (fun Z hZ => ?_)
        simp (disch := omega) only [f_X15_errorOf_0 hZ, f_X15_errorOf_1 hZ, f_X15_errorOf_4 hZ, f_X15_errorOf_5 hZ, f_X15_errorOf_6 hZ, f_X15_errorOf_7 hZ, f_X15_errorOf_10 hZ, f_X15_errorOf_11 hZ, f_X15_errorOf_12 hZ, f_X15_errorOf_13 hZ, f_X15_errorOf_16 hZ, f_X15_errorOf_17 hZ, f_X15_errorOf_18 hZ, f_X15_errorOf_21 hZ, f_X15_errorOf_22 hZ, f_X15_errorOf_23 hZ, f_X15_errorOf_64 hZ, f_X15_errorOf_65 hZ, f_X15_errorOf_66 hZ, f_X15_errorOf_67 hZ, f_X15_errorOf_70 hZ, f_X15_errorOf_71 hZ, f_X15_errorOf_72 hZ, f_X15_errorOf_73 hZ, f_X15_errorOf_74 hZ, f_X15_errorOf_77 hZ, f_X15_errorOf_78 hZ, f_X15_errorOf_79 hZ, f_X15_errorOf_80 hZ, f_X15_errorOf_83 hZ, f_X15_errorOf_84 hZ, f_X15_errorOf_85 hZ, f_X15_errorOf_88 hZ, f_X15_errorOf_89 hZ, f_X15_errorOf_92 hZ, f_X15_errorOf_93 hZ, f_X15_errorOf_94 hZ, f_X15_errorOf_95 hZ, f_X15_errorOf_96 hZ, f_X15_errorOf_97 hZ, f_X15_errorOf_98 hZ, f_X15_errorOf_99 hZ, f_X15_errorOf_100 hZ, f_X15_errorOf_101 hZ, s_aload, s_getf, s_iload, s_iaload, s_const, s_icmp_ne, s_callV, s_ireturn, s_lsw, s_isub, s_iadd, s_iastore, zobj, zk1, ZRt, zp, zp0, Option.some.injEq, Value.int.injEq, Value.long.injEq, Value.ref.injEq, and_self, cond_true, cond_false, zget, zkd, zc_lt, zc_le, zc_0, zc_m, zc_m0, zc_10, zk0_n, zk0_i, zk0_r, zk0_0, zk0_l, zk0_d, zs1_0, zs1_1, zs1_s, zs2_0, zs2_1, zs2_s, zcs, List.getElem?_cons_zero, List.getElem?_cons_succ, List.set_cons_zero, List.set_cons_succ, List.drop_zero, List.drop_succ_cons, List.take_zero, List.take_succ_cons, List.reverse_cons, List.reverse_nil, List.nil_append, List.cons_append, List.length_cons, List.length_nil, List.map_cons, List.map_nil, List.sum_cons, List.sum_nil, Value.category, Option.toList_some, Option.toList_none, List.append_nil, nI_leI, nI_ltI, nI_eq, nI_add, pk_sub, Nat.add_sub_cancel, vp_in_nI, nI_clamp, true_implies, false_implies, implies_true, not_true_eq_false, not_false_eq_true, Nat.not_lt, Nat.not_le, if_true, if_false, eq_self, true_and, and_true, true_or, or_true, false_or, or_false, Nat.zero_add, Nat.add_zero, ↓reduceIte, Nat.reduceAdd, Nat.reduceSub, Nat.reduceLeDiff, Nat.reduceLT, Nat.reduceBEq, Nat.reduceEqDiff, reduceCtorEq, Nat.lt_add_one, Nat.le_refl, zv_cat, Bool.or_true, Bool.or_false, Bool.true_or, Bool.false_or, zk_m1, zk_1m, zk_lt_1, zk_le_1, zk_gt_1, zk_ge_1, zk_eq_1, zk_qe_1, zk_ad_1, zk_da_1, zk_sb_1, zk_mu_1, zk_um_1, zk_gt_0, zk_le_0, zk_eq_0, zk_qe_0, zk_lt_0, zk_ge_0, g0', a5, b5, a1, b1, hvx, e01]
        rw [show zlsw (nI (rkc 3)) [(12, 78), (14, 84), (30, 64), (31, 71)] 100 = 71 by decide +kernel]
        refine zrun_okZ (ok_X15_errorOf hX) (fun _ => false) 46 _ _ _ _ _ _ _ (fun Z hZ => ?_)
        simp (disch := omega) only [f_X15_errorOf_0 hZ, f_X15_errorOf_1 hZ, f_X15_errorOf_4 hZ, f_X15_errorOf_5 hZ, f_X15_errorOf_6 hZ, f_X15_errorOf_7 hZ, f_X15_errorOf_10 hZ, f_X15_errorOf_11 hZ, f_X15_errorOf_12 hZ, f_X15_errorOf_13 hZ, f_X15_errorOf_16 hZ, f_X15_errorOf_17 hZ, f_X15_errorOf_18 hZ, f_X15_errorOf_21 hZ, f_X15_errorOf_22 hZ, f_X15_errorOf_23 hZ, f_X15_errorOf_64 hZ, f_X15_errorOf_65 hZ, f_X15_errorOf_66 hZ, f_X15_errorOf_67 hZ, f_X15_errorOf_70 hZ, f_X15_errorOf_71 hZ, f_X15_errorOf_72 hZ, f_X15_errorOf_73 hZ, f_X15_errorOf_74 hZ, f_X15_errorOf_77 hZ, f_X15_errorOf_78 hZ, f_X15_errorOf_79 hZ, f_X15_errorOf_80 hZ, f_X15_errorOf_83 hZ, f_X15_errorOf_84 hZ, f_X15_errorOf_85 hZ, f_X15_errorOf_88 hZ, f_X15_errorOf_89 hZ, f_X15_errorOf_92 hZ, f_X15_errorOf_93 hZ, f_X15_errorOf_94 hZ, f_X15_errorOf_95 hZ, f_X15_errorOf_96 hZ, f_X15_errorOf_97 hZ, f_X15_errorOf_98 hZ, f_X15_errorOf_99 hZ, f_X15_errorOf_100 hZ, f_X15_errorOf_101 hZ, s_aload, s_getf, s_iload, s_iaload, s_const, s_icmp_ne, s_callV, s_ireturn, s_lsw, s_isub, s_iadd, s_iastore, zobj, zk1, ZRt, zp, zp0, Option.some.injEq, Value.int.injEq, Value.long.injEq, Value.ref.injEq, and_self, cond_true, cond_false, zget, zkd, zc_lt, zc_le, zc_0, zc_m, zc_m0, zc_10, zk0_n, zk0_i, zk0_r, zk0_0, zk0_l, zk0_d, zs1_0, zs1_1, zs1_s, zs2_0, zs2_1, zs2_s, zcs, List.getElem?_cons_zero, List.getElem?_cons_succ, List.set_cons_zero, List.set_cons_succ, List.drop_zero, List.drop_succ_cons, List.take_zero, List.take_succ_cons, List.reverse_cons, List.reverse_nil, List.nil_append, List.cons_append, List.length_cons, List.length_nil, List.map_cons, List.map_nil, List.sum_cons, List.sum_nil, Value.category, Option.toList_some, Option.toList_none, List.append_nil, nI_leI, nI_ltI, nI_eq, nI_add, pk_sub, Nat.add_sub_cancel, vp_in_nI, nI_clamp, true_implies, false_implies, implies_true, not_true_eq_false, not_false_eq_true, Nat.not_lt, Nat.not_le, if_true, if_false, eq_self, true_and, and_true, true_or, or_true, false_or, or_false, Nat.zero_add, Nat.add_zero, ↓reduceIte, Nat.reduceAdd, Nat.reduceSub, Nat.reduceLeDiff, Nat.reduceLT, Nat.reduceBEq, Nat.reduceEqDiff, reduceCtorEq, Nat.lt_add_one, Nat.le_refl, zv_cat, Bool.or_true, Bool.or_false, Bool.true_or, Bool.false_or, zk_m1, zk_1m, zk_lt_1, zk_le_1, zk_gt_1, zk_ge_1, zk_eq_1, zk_qe_1, zk_ad_1, zk_da_1, zk_sb_1, zk_mu_1, zk_um_1, zk_gt_0, zk_le_0, zk_eq_0, zk_qe_0, zk_lt_0, zk_ge_0, hvx]
        refine zcall_q sN ?_
        rintro v s2 m2 ⟨z, rfl, rfl, hp⟩
        refine zrun_okZ (ok_X15_errorOf hX) (fun _ => false) 46 _ _ _ _ _ _ _ (fun Z hZ => ?_)
        simp (disch := omega) only [f_X15_errorOf_0 hZ, f_X15_errorOf_1 hZ, f_X15_errorOf_4 hZ, f_X15_errorOf_5 hZ, f_X15_errorOf_6 hZ, f_X15_errorOf_7 hZ, f_X15_errorOf_10 hZ, f_X15_errorOf_11 hZ, f_X15_errorOf_12 hZ, f_X15_errorOf_13 hZ, f_X15_errorOf_16 hZ, f_X15_errorOf_17 hZ, f_X15_errorOf_18 hZ, f_X15_errorOf_21 hZ, f_X15_errorOf_22 hZ, f_X15_errorOf_23 hZ, f_X15_errorOf_64 hZ, f_X15_errorOf_65 hZ, f_X15_errorOf_66 hZ, f_X15_errorOf_67 hZ, f_X15_errorOf_70 hZ, f_X15_errorOf_71 hZ, f_X15_errorOf_72 hZ, f_X15_errorOf_73 hZ, f_X15_errorOf_74 hZ, f_X15_errorOf_77 hZ, f_X15_errorOf_78 hZ, f_X15_errorOf_79 hZ, f_X15_errorOf_80 hZ, f_X15_errorOf_83 hZ, f_X15_errorOf_84 hZ, f_X15_errorOf_85 hZ, f_X15_errorOf_88 hZ, f_X15_errorOf_89 hZ, f_X15_errorOf_92 hZ, f_X15_errorOf_93 hZ, f_X15_errorOf_94 hZ, f_X15_errorOf_95 hZ, f_X15_errorOf_96 hZ, f_X15_errorOf_97 hZ, f_X15_errorOf_98 hZ, f_X15_errorOf_99 hZ, f_X15_errorOf_100 hZ, f_X15_errorOf_101 hZ, s_aload, s_getf, s_iload, s_iaload, s_const, s_icmp_ne, s_callV, s_ireturn, s_lsw, s_isub, s_iadd, s_iastore, zobj, zk1, ZRt, zp, zp0, Option.some.injEq, Value.int.injEq, Value.long.injEq, Value.ref.injEq, and_self, cond_true, cond_false, zget, zkd, zc_lt, zc_le, zc_0, zc_m, zc_m0, zc_10, zk0_n, zk0_i, zk0_r, zk0_0, zk0_l, zk0_d, zs1_0, zs1_1, zs1_s, zs2_0, zs2_1, zs2_s, zcs, List.getElem?_cons_zero, List.getElem?_cons_succ, List.set_cons_zero, List.set_cons_succ, List.drop_zero, List.drop_succ_cons, List.take_zero, List.take_succ_cons, List.reverse_cons, List.reverse_nil, List.nil_append, List.cons_append, List.length_cons, List.length_nil, List.map_cons, List.map_nil, List.sum_cons, List.sum_nil, Value.category, Option.toList_some, Option.toList_none, List.append_nil, nI_leI, nI_ltI, nI_eq, nI_add, pk_sub, Nat.add_sub_cancel, vp_in_nI, nI_clamp, true_implies, false_implies, implies_true, not_true_eq_false, not_false_eq_true, Nat.not_lt, Nat.not_le, if_true, if_false, eq_self, true_and, and_true, true_or, or_true, false_or, or_false, Nat.zero_add, Nat.add_zero, ↓reduceIte, Nat.reduceAdd, Nat.reduceSub, Nat.reduceLeDiff, Nat.reduceLT, Nat.reduceBEq, Nat.reduceEqDiff, reduceCtorEq, Nat.lt_add_one, Nat.le_refl, zv_cat, Bool.or_true, Bool.or_false, Bool.true_or, Bool.false_or, zk_m1, zk_1m, zk_lt_1, zk_le_1, zk_gt_1, zk_ge_1, zk_eq_1, zk_qe_1, zk_ad_1, zk_da_1, zk_sb_1, zk_mu_1, zk_um_1, zk_gt_0, zk_le_0, zk_eq_0, zk_qe_0, zk_lt_0, zk_ge_0]
        exact ⟨_, rfl, hp⟩
      · rw [if_neg h3] at hS'
        by_cases h17 : lxK tb tl k = 17
        · rw [if_pos h17] at hS'
          have sO : ZSpec E MX15_errorOfOrder 4 0 0 [.ref x, .ref y] σ n (fun v σ' n' => ∃ z, v = some (.int z) ∧ n' = n ∧ EPs E σ' σ y tb tl mk S' k z) := by
            rw [hS']
            exact sp_errorOfOrder hE h ho h0 h17
          rw [h17] at b1
          refine ZSpec_of hE (by decide +kernel) (Nat.le_of_ble_eq_true rfl) [some (.ref x), some (.ref y), some (.int (nI k))] rfl (fun X hX => ?_)
          refine zrun_okZ (ok_X15_errorOf hX) (fun _ => false) 46 _ _ _ _ _ _ _ (fun Z hZ => ?_)
          simp (disch := omega) only [f_X15_errorOf_0 hZ, f_X15_errorOf_1 hZ, f_X15_errorOf_4 hZ, f_X15_errorOf_5 hZ, f_X15_errorOf_6 hZ, f_X15_errorOf_7 hZ, f_X15_errorOf_10 hZ, f_X15_errorOf_11 hZ, f_X15_errorOf_12 hZ, f_X15_errorOf_13 hZ, f_X15_errorOf_16 hZ, f_X15_errorOf_17 hZ, f_X15_errorOf_18 hZ, f_X15_errorOf_21 hZ, f_X15_errorOf_22 hZ, f_X15_errorOf_23 hZ, f_X15_errorOf_64 hZ, f_X15_errorOf_65 hZ, f_X15_errorOf_66 hZ, f_X15_errorOf_67 hZ, f_X15_errorOf_70 hZ, f_X15_errorOf_71 hZ, f_X15_errorOf_72 hZ, f_X15_errorOf_73 hZ, f_X15_errorOf_74 hZ, f_X15_errorOf_77 hZ, f_X15_errorOf_78 hZ, f_X15_errorOf_79 hZ, f_X15_errorOf_80 hZ, f_X15_errorOf_83 hZ, f_X15_errorOf_84 hZ, f_X15_errorOf_85 hZ, f_X15_errorOf_88 hZ, f_X15_errorOf_89 hZ, f_X15_errorOf_92 hZ, f_X15_errorOf_93 hZ, f_X15_errorOf_94 hZ, f_X15_errorOf_95 hZ, f_X15_errorOf_96 hZ, f_X15_errorOf_97 hZ, f_X15_errorOf_98 hZ, f_X15_errorOf_99 hZ, f_X15_errorOf_100 hZ, f_X15_errorOf_101 hZ, s_aload, s_getf, s_iload, s_iaload, s_const, s_icmp_ne, s_callV, s_ireturn, s_lsw, s_isub, s_iadd, s_iastore, zobj, zk1, ZRt, zp, zp0, Option.some.injEq, Value.int.injEq, Value.long.injEq, Value.ref.injEq, and_self, cond_true, cond_false, zget, zkd, zc_lt, zc_le, zc_0, zc_m, zc_m0, zc_10, zk0_n, zk0_i, zk0_r, zk0_0, zk0_l, zk0_d, zs1_0, zs1_1, zs1_s, zs2_0, zs2_1, zs2_s, zcs, List.getElem?_cons_zero, List.getElem?_cons_succ, List.set_cons_zero, List.set_cons_succ, List.drop_zero, List.drop_succ_cons, List.take_zero, List.take_succ_cons, List.reverse_cons, List.reverse_nil, List.nil_append, List.cons_append, List.length_cons, List.length_nil, List.map_cons, List.map_nil, List.sum_cons, List.sum_nil, Value.category, Option.toList_some, Option.toList_none, List.append_nil, nI_leI, nI_ltI, nI_eq, nI_add, pk_sub, Nat.add_sub_cancel, vp_in_nI, nI_clamp, true_implies, false_implies, implies_true, not_true_eq_false, not_false_eq_true, Nat.not_lt, Nat.not_le, if_true, if_false, eq_self, true_and, and_true, true_or, or_true, false_or, or_false, Nat.zero_add, Nat.add_zero, ↓reduceIte, Nat.reduceAdd, Nat.reduceSub, Nat.reduceLeDiff, Nat.reduceLT, Nat.reduceBEq, Nat.reduceEqDiff, reduceCtorEq, Nat.lt_add_one, Nat.le_refl, zv_cat, Bool.or_true, Bool.or_false, Bool.true_or, Bool.false_or, zk_m1, zk_1m, zk_lt_1, zk_le_1, zk_gt_1, zk_ge_1, zk_eq_1, zk_qe_1, zk_ad_1, zk_da_1, zk_sb_1, zk_mu_1, zk_um_1, zk_gt_0, zk_le_0, zk_eq_0, zk_qe_0, zk_lt_0, zk_ge_0, g0', a5, b5, a1, b1, hvx, e01]
          rw [show zlsw (nI (rkc 17)) [(12, 78), (14, 84), (30, 64), (31, 71)] 100 = 78 by decide +kernel]
          refine zrun_okZ (ok_X15_errorOf hX) (fun _ => false) 46 _ _ _ _ _ _ _ (fun Z hZ => ?_)
          simp (disch := omega) only [f_X15_errorOf_0 hZ, f_X15_errorOf_1 hZ, f_X15_errorOf_4 hZ, f_X15_errorOf_5 hZ, f_X15_errorOf_6 hZ, f_X15_errorOf_7 hZ, f_X15_errorOf_10 hZ, f_X15_errorOf_11 hZ, f_X15_errorOf_12 hZ, f_X15_errorOf_13 hZ, f_X15_errorOf_16 hZ, f_X15_errorOf_17 hZ, f_X15_errorOf_18 hZ, f_X15_errorOf_21 hZ, f_X15_errorOf_22 hZ, f_X15_errorOf_23 hZ, f_X15_errorOf_64 hZ, f_X15_errorOf_65 hZ, f_X15_errorOf_66 hZ, f_X15_errorOf_67 hZ, f_X15_errorOf_70 hZ, f_X15_errorOf_71 hZ, f_X15_errorOf_72 hZ, f_X15_errorOf_73 hZ, f_X15_errorOf_74 hZ, f_X15_errorOf_77 hZ, f_X15_errorOf_78 hZ, f_X15_errorOf_79 hZ, f_X15_errorOf_80 hZ, f_X15_errorOf_83 hZ, f_X15_errorOf_84 hZ, f_X15_errorOf_85 hZ, f_X15_errorOf_88 hZ, f_X15_errorOf_89 hZ, f_X15_errorOf_92 hZ, f_X15_errorOf_93 hZ, f_X15_errorOf_94 hZ, f_X15_errorOf_95 hZ, f_X15_errorOf_96 hZ, f_X15_errorOf_97 hZ, f_X15_errorOf_98 hZ, f_X15_errorOf_99 hZ, f_X15_errorOf_100 hZ, f_X15_errorOf_101 hZ, s_aload, s_getf, s_iload, s_iaload, s_const, s_icmp_ne, s_callV, s_ireturn, s_lsw, s_isub, s_iadd, s_iastore, zobj, zk1, ZRt, zp, zp0, Option.some.injEq, Value.int.injEq, Value.long.injEq, Value.ref.injEq, and_self, cond_true, cond_false, zget, zkd, zc_lt, zc_le, zc_0, zc_m, zc_m0, zc_10, zk0_n, zk0_i, zk0_r, zk0_0, zk0_l, zk0_d, zs1_0, zs1_1, zs1_s, zs2_0, zs2_1, zs2_s, zcs, List.getElem?_cons_zero, List.getElem?_cons_succ, List.set_cons_zero, List.set_cons_succ, List.drop_zero, List.drop_succ_cons, List.take_zero, List.take_succ_cons, List.reverse_cons, List.reverse_nil, List.nil_append, List.cons_append, List.length_cons, List.length_nil, List.map_cons, List.map_nil, List.sum_cons, List.sum_nil, Value.category, Option.toList_some, Option.toList_none, List.append_nil, nI_leI, nI_ltI, nI_eq, nI_add, pk_sub, Nat.add_sub_cancel, vp_in_nI, nI_clamp, true_implies, false_implies, implies_true, not_true_eq_false, not_false_eq_true, Nat.not_lt, Nat.not_le, if_true, if_false, eq_self, true_and, and_true, true_or, or_true, false_or, or_false, Nat.zero_add, Nat.add_zero, ↓reduceIte, Nat.reduceAdd, Nat.reduceSub, Nat.reduceLeDiff, Nat.reduceLT, Nat.reduceBEq, Nat.reduceEqDiff, reduceCtorEq, Nat.lt_add_one, Nat.le_refl, zv_cat, Bool.or_true, Bool.or_false, Bool.true_or, Bool.false_or, zk_m1, zk_1m, zk_lt_1, zk_le_1, zk_gt_1, zk_ge_1, zk_eq_1, zk_qe_1, zk_ad_1, zk_da_1, zk_sb_1, zk_mu_1, zk_um_1, zk_gt_0, zk_le_0, zk_eq_0, zk_qe_0, zk_lt_0, zk_ge_0, hvx]
          refine zcall_q sO ?_
          rintro v s2 m2 ⟨z, rfl, rfl, hp⟩
          refine zrun_okZ (ok_X15_errorOf hX) (fun _ => false) 46 _ _ _ _ _ _ _ (fun Z hZ => ?_)
          simp (disch := omega) only [f_X15_errorOf_0 hZ, f_X15_errorOf_1 hZ, f_X15_errorOf_4 hZ, f_X15_errorOf_5 hZ, f_X15_errorOf_6 hZ, f_X15_errorOf_7 hZ, f_X15_errorOf_10 hZ, f_X15_errorOf_11 hZ, f_X15_errorOf_12 hZ, f_X15_errorOf_13 hZ, f_X15_errorOf_16 hZ, f_X15_errorOf_17 hZ, f_X15_errorOf_18 hZ, f_X15_errorOf_21 hZ, f_X15_errorOf_22 hZ, f_X15_errorOf_23 hZ, f_X15_errorOf_64 hZ, f_X15_errorOf_65 hZ, f_X15_errorOf_66 hZ, f_X15_errorOf_67 hZ, f_X15_errorOf_70 hZ, f_X15_errorOf_71 hZ, f_X15_errorOf_72 hZ, f_X15_errorOf_73 hZ, f_X15_errorOf_74 hZ, f_X15_errorOf_77 hZ, f_X15_errorOf_78 hZ, f_X15_errorOf_79 hZ, f_X15_errorOf_80 hZ, f_X15_errorOf_83 hZ, f_X15_errorOf_84 hZ, f_X15_errorOf_85 hZ, f_X15_errorOf_88 hZ, f_X15_errorOf_89 hZ, f_X15_errorOf_92 hZ, f_X15_errorOf_93 hZ, f_X15_errorOf_94 hZ, f_X15_errorOf_95 hZ, f_X15_errorOf_96 hZ, f_X15_errorOf_97 hZ, f_X15_errorOf_98 hZ, f_X15_errorOf_99 hZ, f_X15_errorOf_100 hZ, f_X15_errorOf_101 hZ, s_aload, s_getf, s_iload, s_iaload, s_const, s_icmp_ne, s_callV, s_ireturn, s_lsw, s_isub, s_iadd, s_iastore, zobj, zk1, ZRt, zp, zp0, Option.some.injEq, Value.int.injEq, Value.long.injEq, Value.ref.injEq, and_self, cond_true, cond_false, zget, zkd, zc_lt, zc_le, zc_0, zc_m, zc_m0, zc_10, zk0_n, zk0_i, zk0_r, zk0_0, zk0_l, zk0_d, zs1_0, zs1_1, zs1_s, zs2_0, zs2_1, zs2_s, zcs, List.getElem?_cons_zero, List.getElem?_cons_succ, List.set_cons_zero, List.set_cons_succ, List.drop_zero, List.drop_succ_cons, List.take_zero, List.take_succ_cons, List.reverse_cons, List.reverse_nil, List.nil_append, List.cons_append, List.length_cons, List.length_nil, List.map_cons, List.map_nil, List.sum_cons, List.sum_nil, Value.category, Option.toList_some, Option.toList_none, List.append_nil, nI_leI, nI_ltI, nI_eq, nI_add, pk_sub, Nat.add_sub_cancel, vp_in_nI, nI_clamp, true_implies, false_implies, implies_true, not_true_eq_false, not_false_eq_true, Nat.not_lt, Nat.not_le, if_true, if_false, eq_self, true_and, and_true, true_or, or_true, false_or, or_false, Nat.zero_add, Nat.add_zero, ↓reduceIte, Nat.reduceAdd, Nat.reduceSub, Nat.reduceLeDiff, Nat.reduceLT, Nat.reduceBEq, Nat.reduceEqDiff, reduceCtorEq, Nat.lt_add_one, Nat.le_refl, zv_cat, Bool.or_true, Bool.or_false, Bool.true_or, Bool.false_or, zk_m1, zk_1m, zk_lt_1, zk_le_1, zk_gt_1, zk_ge_1, zk_eq_1, zk_qe_1, zk_ad_1, zk_da_1, zk_sb_1, zk_mu_1, zk_um_1, zk_gt_0, zk_le_0, zk_eq_0, zk_qe_0, zk_lt_0, zk_ge_0]
          exact ⟨_, rfl, hp⟩
        · rw [if_neg h17] at hS'
          obtain ⟨q4a, q5, q6, q7, q8, q9, q10, q11⟩ := q4
          by_cases h19 : lxK tb tl k = 19
          · rw [if_pos h19] at hS'
            subst hS'
            have y4 := x4 h19
            have hano := hO ⟨k - 4, by omega, y4.2⟩
            have hano2 := ho.1.2.2.1
            have a16 := hB 16 (by omega) (by omega)
            unfold iar at a16
            rw [show szA 16 = 16 from rfl] at a16
            rw [h19] at b1
            refine ZSpec_of hE (by decide +kernel) (Nat.le_of_ble_eq_true rfl) [some (.ref x), some (.ref y), some (.int (nI k))] rfl (fun X hX => ?_)
            refine zrun_okZ (ok_X15_errorOf hX) (fun _ => false) 46 _ _ _ _ _ _ _ (fun Z hZ => ?_)
            simp (disch := omega) only [f_X15_errorOf_0 hZ, f_X15_errorOf_1 hZ, f_X15_errorOf_4 hZ, f_X15_errorOf_5 hZ, f_X15_errorOf_6 hZ, f_X15_errorOf_7 hZ, f_X15_errorOf_10 hZ, f_X15_errorOf_11 hZ, f_X15_errorOf_12 hZ, f_X15_errorOf_13 hZ, f_X15_errorOf_16 hZ, f_X15_errorOf_17 hZ, f_X15_errorOf_18 hZ, f_X15_errorOf_21 hZ, f_X15_errorOf_22 hZ, f_X15_errorOf_23 hZ, f_X15_errorOf_64 hZ, f_X15_errorOf_65 hZ, f_X15_errorOf_66 hZ, f_X15_errorOf_67 hZ, f_X15_errorOf_70 hZ, f_X15_errorOf_71 hZ, f_X15_errorOf_72 hZ, f_X15_errorOf_73 hZ, f_X15_errorOf_74 hZ, f_X15_errorOf_77 hZ, f_X15_errorOf_78 hZ, f_X15_errorOf_79 hZ, f_X15_errorOf_80 hZ, f_X15_errorOf_83 hZ, f_X15_errorOf_84 hZ, f_X15_errorOf_85 hZ, f_X15_errorOf_88 hZ, f_X15_errorOf_89 hZ, f_X15_errorOf_92 hZ, f_X15_errorOf_93 hZ, f_X15_errorOf_94 hZ, f_X15_errorOf_95 hZ, f_X15_errorOf_96 hZ, f_X15_errorOf_97 hZ, f_X15_errorOf_98 hZ, f_X15_errorOf_99 hZ, f_X15_errorOf_100 hZ, f_X15_errorOf_101 hZ, s_aload, s_getf, s_iload, s_iaload, s_const, s_icmp_ne, s_callV, s_ireturn, s_lsw, s_isub, s_iadd, s_iastore, zobj, zk1, ZRt, zp, zp0, Option.some.injEq, Value.int.injEq, Value.long.injEq, Value.ref.injEq, and_self, cond_true, cond_false, zget, zkd, zc_lt, zc_le, zc_0, zc_m, zc_m0, zc_10, zk0_n, zk0_i, zk0_r, zk0_0, zk0_l, zk0_d, zs1_0, zs1_1, zs1_s, zs2_0, zs2_1, zs2_s, zcs, List.getElem?_cons_zero, List.getElem?_cons_succ, List.set_cons_zero, List.set_cons_succ, List.drop_zero, List.drop_succ_cons, List.take_zero, List.take_succ_cons, List.reverse_cons, List.reverse_nil, List.nil_append, List.cons_append, List.length_cons, List.length_nil, List.map_cons, List.map_nil, List.sum_cons, List.sum_nil, Value.category, Option.toList_some, Option.toList_none, List.append_nil, nI_leI, nI_ltI, nI_eq, nI_add, pk_sub, Nat.add_sub_cancel, vp_in_nI, nI_clamp, true_implies, false_implies, implies_true, not_true_eq_false, not_false_eq_true, Nat.not_lt, Nat.not_le, if_true, if_false, eq_self, true_and, and_true, true_or, or_true, false_or, or_false, Nat.zero_add, Nat.add_zero, ↓reduceIte, Nat.reduceAdd, Nat.reduceSub, Nat.reduceLeDiff, Nat.reduceLT, Nat.reduceBEq, Nat.reduceEqDiff, reduceCtorEq, Nat.lt_add_one, Nat.le_refl, zv_cat, Bool.or_true, Bool.or_false, Bool.true_or, Bool.false_or, zk_m1, zk_1m, zk_lt_1, zk_le_1, zk_gt_1, zk_ge_1, zk_eq_1, zk_qe_1, zk_ad_1, zk_da_1, zk_sb_1, zk_mu_1, zk_um_1, zk_gt_0, zk_le_0, zk_eq_0, zk_qe_0, zk_lt_0, zk_ge_0, g0', a5, b5, a1, b1, hvx, e01]
            rw [show zlsw (nI (rkc 19)) [(12, 78), (14, 84), (30, 64), (31, 71)] 100 = 84 by decide +kernel]
            refine zrun_okZ (ok_X15_errorOf hX) (fun _ => false) 46 _ _ _ _ _ _ _ (fun Z hZ => ?_)
            simp (disch := omega) only [f_X15_errorOf_0 hZ, f_X15_errorOf_1 hZ, f_X15_errorOf_4 hZ, f_X15_errorOf_5 hZ, f_X15_errorOf_6 hZ, f_X15_errorOf_7 hZ, f_X15_errorOf_10 hZ, f_X15_errorOf_11 hZ, f_X15_errorOf_12 hZ, f_X15_errorOf_13 hZ, f_X15_errorOf_16 hZ, f_X15_errorOf_17 hZ, f_X15_errorOf_18 hZ, f_X15_errorOf_21 hZ, f_X15_errorOf_22 hZ, f_X15_errorOf_23 hZ, f_X15_errorOf_64 hZ, f_X15_errorOf_65 hZ, f_X15_errorOf_66 hZ, f_X15_errorOf_67 hZ, f_X15_errorOf_70 hZ, f_X15_errorOf_71 hZ, f_X15_errorOf_72 hZ, f_X15_errorOf_73 hZ, f_X15_errorOf_74 hZ, f_X15_errorOf_77 hZ, f_X15_errorOf_78 hZ, f_X15_errorOf_79 hZ, f_X15_errorOf_80 hZ, f_X15_errorOf_83 hZ, f_X15_errorOf_84 hZ, f_X15_errorOf_85 hZ, f_X15_errorOf_88 hZ, f_X15_errorOf_89 hZ, f_X15_errorOf_92 hZ, f_X15_errorOf_93 hZ, f_X15_errorOf_94 hZ, f_X15_errorOf_95 hZ, f_X15_errorOf_96 hZ, f_X15_errorOf_97 hZ, f_X15_errorOf_98 hZ, f_X15_errorOf_99 hZ, f_X15_errorOf_100 hZ, f_X15_errorOf_101 hZ, s_aload, s_getf, s_iload, s_iaload, s_const, s_icmp_ne, s_callV, s_ireturn, s_lsw, s_isub, s_iadd, s_iastore, zobj, zk1, ZRt, zp, zp0, Option.some.injEq, Value.int.injEq, Value.long.injEq, Value.ref.injEq, and_self, cond_true, cond_false, zget, zkd, zc_lt, zc_le, zc_0, zc_m, zc_m0, zc_10, zk0_n, zk0_i, zk0_r, zk0_0, zk0_l, zk0_d, zs1_0, zs1_1, zs1_s, zs2_0, zs2_1, zs2_s, zcs, List.getElem?_cons_zero, List.getElem?_cons_succ, List.set_cons_zero, List.set_cons_succ, List.drop_zero, List.drop_succ_cons, List.take_zero, List.take_succ_cons, List.reverse_cons, List.reverse_nil, List.nil_append, List.cons_append, List.length_cons, List.length_nil, List.map_cons, List.map_nil, List.sum_cons, List.sum_nil, Value.category, Option.toList_some, Option.toList_none, List.append_nil, nI_leI, nI_ltI, nI_eq, nI_add, pk_sub, Nat.add_sub_cancel, vp_in_nI, nI_clamp, true_implies, false_implies, implies_true, not_true_eq_false, not_false_eq_true, Nat.not_lt, Nat.not_le, if_true, if_false, eq_self, true_and, and_true, true_or, or_true, false_or, or_false, Nat.zero_add, Nat.add_zero, ↓reduceIte, Nat.reduceAdd, Nat.reduceSub, Nat.reduceLeDiff, Nat.reduceLT, Nat.reduceBEq, Nat.reduceEqDiff, reduceCtorEq, Nat.lt_add_one, Nat.le_refl, zv_cat, Bool.or_true, Bool.or_false, Bool.true_or, Bool.false_or, zk_m1, zk_1m, zk_lt_1, zk_le_1, zk_gt_1, zk_ge_1, zk_eq_1, zk_qe_1, zk_ad_1, zk_da_1, zk_sb_1, zk_mu_1, zk_um_1, zk_gt_0, zk_le_0, zk_eq_0, zk_qe_0, zk_lt_0, zk_ge_0, g0', a16]
            refine ⟨_, rfl, h0 ▸ rfl, fun _ => ⟨_, (zup_n (by omega)).trans g0, hB.up (j := 16) (m := 16) rfl, q1, q2, q3, q4a, q5, q6, q7, q8, q9, fun o hoo => ?_, MN_0 q11 rfl rfl rfl rfl h3 h2⟩, efr.rf.up, fun q => absurd h0 q⟩
            show (upo (aot S) (ano S - 1) (some (k + 1)) o = none ∧ upd (G 16) (ano S - 1) (nI (k + 1)) o = -1) ∨ ∃ t, t ≤ 400 ∧ upo (aot S) (ano S - 1) (some (k + 1)) o = some t ∧ upd (G 16) (ano S - 1) (nI (k + 1)) o = nI t
            by_cases e : o = ano S - 1
            · subst e
              exact Or.inr ⟨k + 1, by omega, if_pos rfl, pk_us⟩
            · rw [pk_un e, show upo (aot S) (ano S - 1) (some (k + 1)) o = aot S o from if_neg e]
              exact q10 o hoo
          · rw [if_neg h19] at hS'
            subst hS'
            refine ZSpec_of hE (by decide +kernel) (Nat.le_of_ble_eq_true rfl) [some (.ref x), some (.ref y), some (.int (nI k))] rfl (fun X hX => ?_)
            refine zrun_okZ (ok_X15_errorOf hX) (fun _ => false) 46 _ _ _ _ _ _ _ (fun Z hZ => ?_)
            simp (disch := omega) only [f_X15_errorOf_0 hZ, f_X15_errorOf_1 hZ, f_X15_errorOf_4 hZ, f_X15_errorOf_5 hZ, f_X15_errorOf_6 hZ, f_X15_errorOf_7 hZ, f_X15_errorOf_10 hZ, f_X15_errorOf_11 hZ, f_X15_errorOf_12 hZ, f_X15_errorOf_13 hZ, f_X15_errorOf_16 hZ, f_X15_errorOf_17 hZ, f_X15_errorOf_18 hZ, f_X15_errorOf_21 hZ, f_X15_errorOf_22 hZ, f_X15_errorOf_23 hZ, f_X15_errorOf_64 hZ, f_X15_errorOf_65 hZ, f_X15_errorOf_66 hZ, f_X15_errorOf_67 hZ, f_X15_errorOf_70 hZ, f_X15_errorOf_71 hZ, f_X15_errorOf_72 hZ, f_X15_errorOf_73 hZ, f_X15_errorOf_74 hZ, f_X15_errorOf_77 hZ, f_X15_errorOf_78 hZ, f_X15_errorOf_79 hZ, f_X15_errorOf_80 hZ, f_X15_errorOf_83 hZ, f_X15_errorOf_84 hZ, f_X15_errorOf_85 hZ, f_X15_errorOf_88 hZ, f_X15_errorOf_89 hZ, f_X15_errorOf_92 hZ, f_X15_errorOf_93 hZ, f_X15_errorOf_94 hZ, f_X15_errorOf_95 hZ, f_X15_errorOf_96 hZ, f_X15_errorOf_97 hZ, f_X15_errorOf_98 hZ, f_X15_errorOf_99 hZ, f_X15_errorOf_100 hZ, f_X15_errorOf_101 hZ, s_aload, s_getf, s_iload, s_iaload, s_const, s_icmp_ne, s_callV, s_ireturn, s_lsw, s_isub, s_iadd, s_iastore, zobj, zk1, ZRt, zp, zp0, Option.some.injEq, Value.int.injEq, Value.long.injEq, Value.ref.injEq, and_self, cond_true, cond_false, zget, zkd, zc_lt, zc_le, zc_0, zc_m, zc_m0, zc_10, zk0_n, zk0_i, zk0_r, zk0_0, zk0_l, zk0_d, zs1_0, zs1_1, zs1_s, zs2_0, zs2_1, zs2_s, zcs, List.getElem?_cons_zero, List.getElem?_cons_succ, List.set_cons_zero, List.set_cons_succ, List.drop_zero, List.drop_succ_cons, List.take_zero, List.take_succ_cons, List.reverse_cons, List.reverse_nil, List.nil_append, List.cons_append, List.length_cons, List.length_nil, List.map_cons, List.map_nil, List.sum_cons, List.sum_nil, Value.category, Option.toList_some, Option.toList_none, List.append_nil, nI_leI, nI_ltI, nI_eq, nI_add, pk_sub, Nat.add_sub_cancel, vp_in_nI, nI_clamp, true_implies, false_implies, implies_true, not_true_eq_false, not_false_eq_true, Nat.not_lt, Nat.not_le, if_true, if_false, eq_self, true_and, and_true, true_or, or_true, false_or, or_false, Nat.zero_add, Nat.add_zero, ↓reduceIte, Nat.reduceAdd, Nat.reduceSub, Nat.reduceLeDiff, Nat.reduceLT, Nat.reduceBEq, Nat.reduceEqDiff, reduceCtorEq, Nat.lt_add_one, Nat.le_refl, zv_cat, Bool.or_true, Bool.or_false, Bool.true_or, Bool.false_or, zk_m1, zk_1m, zk_lt_1, zk_le_1, zk_gt_1, zk_ge_1, zk_eq_1, zk_qe_1, zk_ad_1, zk_da_1, zk_sb_1, zk_mu_1, zk_um_1, zk_gt_0, zk_le_0, zk_eq_0, zk_qe_0, zk_lt_0, zk_ge_0, g0', a5, b5, a1, b1, hvx, e01]
            rw [rkc_lswE _ (hKc.1 k) ⟨hKc.2.1 k, h2, h3, h17, h19⟩]
            refine zrun_okZ (ok_X15_errorOf hX) (fun _ => false) 46 _ _ _ _ _ _ _ (fun Z hZ => ?_)
            simp (disch := omega) only [f_X15_errorOf_0 hZ, f_X15_errorOf_1 hZ, f_X15_errorOf_4 hZ, f_X15_errorOf_5 hZ, f_X15_errorOf_6 hZ, f_X15_errorOf_7 hZ, f_X15_errorOf_10 hZ, f_X15_errorOf_11 hZ, f_X15_errorOf_12 hZ, f_X15_errorOf_13 hZ, f_X15_errorOf_16 hZ, f_X15_errorOf_17 hZ, f_X15_errorOf_18 hZ, f_X15_errorOf_21 hZ, f_X15_errorOf_22 hZ, f_X15_errorOf_23 hZ, f_X15_errorOf_64 hZ, f_X15_errorOf_65 hZ, f_X15_errorOf_66 hZ, f_X15_errorOf_67 hZ, f_X15_errorOf_70 hZ, f_X15_errorOf_71 hZ, f_X15_errorOf_72 hZ, f_X15_errorOf_73 hZ, f_X15_errorOf_74 hZ, f_X15_errorOf_77 hZ, f_X15_errorOf_78 hZ, f_X15_errorOf_79 hZ, f_X15_errorOf_80 hZ, f_X15_errorOf_83 hZ, f_X15_errorOf_84 hZ, f_X15_errorOf_85 hZ, f_X15_errorOf_88 hZ, f_X15_errorOf_89 hZ, f_X15_errorOf_92 hZ, f_X15_errorOf_93 hZ, f_X15_errorOf_94 hZ, f_X15_errorOf_95 hZ, f_X15_errorOf_96 hZ, f_X15_errorOf_97 hZ, f_X15_errorOf_98 hZ, f_X15_errorOf_99 hZ, f_X15_errorOf_100 hZ, f_X15_errorOf_101 hZ, s_aload, s_getf, s_iload, s_iaload, s_const, s_icmp_ne, s_callV, s_ireturn, s_lsw, s_isub, s_iadd, s_iastore, zobj, zk1, ZRt, zp, zp0, Option.some.injEq, Value.int.injEq, Value.long.injEq, Value.ref.injEq, and_self, cond_true, cond_false, zget, zkd, zc_lt, zc_le, zc_0, zc_m, zc_m0, zc_10, zk0_n, zk0_i, zk0_r, zk0_0, zk0_l, zk0_d, zs1_0, zs1_1, zs1_s, zs2_0, zs2_1, zs2_s, zcs, List.getElem?_cons_zero, List.getElem?_cons_succ, List.set_cons_zero, List.set_cons_succ, List.drop_zero, List.drop_succ_cons, List.take_zero, List.take_succ_cons, List.reverse_cons, List.reverse_nil, List.nil_append, List.cons_append, List.length_cons, List.length_nil, List.map_cons, List.map_nil, List.sum_cons, List.sum_nil, Value.category, Option.toList_some, Option.toList_none, List.append_nil, nI_leI, nI_ltI, nI_eq, nI_add, pk_sub, Nat.add_sub_cancel, vp_in_nI, nI_clamp, true_implies, false_implies, implies_true, not_true_eq_false, not_false_eq_true, Nat.not_lt, Nat.not_le, if_true, if_false, eq_self, true_and, and_true, true_or, or_true, false_or, or_false, Nat.zero_add, Nat.add_zero, ↓reduceIte, Nat.reduceAdd, Nat.reduceSub, Nat.reduceLeDiff, Nat.reduceLT, Nat.reduceBEq, Nat.reduceEqDiff, reduceCtorEq, Nat.lt_add_one, Nat.le_refl, zv_cat, Bool.or_true, Bool.or_false, Bool.true_or, Bool.false_or, zk_m1, zk_1m, zk_lt_1, zk_le_1, zk_gt_1, zk_ge_1, zk_eq_1, zk_qe_1, zk_ad_1, zk_da_1, zk_sb_1, zk_mu_1, zk_um_1, zk_gt_0, zk_le_0, zk_eq_0, zk_qe_0, zk_lt_0, zk_ge_0]
            exact ⟨_, rfl, h0 ▸ rfl, fun _ => ⟨_, g0, hB, q1, q2, q3, q4a, q5, q6, q7, q8, q9, q10, MN_0 q11 rfl rfl rfl rfl h3 h2⟩, efr.rf, fun q => absurd h0 q⟩
end
