theorem lsR_e {tb : Nat → Nat} {tl : Nat} : lsR tb tl = qLs (lxK tb tl) (cX (lxK tb tl) (lxV tb tl)) 400 0 := rfl
theorem er_5 {S : SA} {b c v k : Nat} (h : aer S ≤ 5) : aer (nameA S b c v k) ≤ 5 := by
  unfold nameA
  repeat' (first | exact h | exact Nat.le_of_ble_eq_true rfl | split)
theorem er_6 {S : SA} {b v k : Nat} (h : aer S ≤ 5) : aer (numbA S b v k) ≤ 5 := by
  unfold numbA
  repeat' (first | exact h | exact Nat.le_of_ble_eq_true rfl | split)
theorem er_a {mk : Nat → Bool} {K V : Nat → Nat} {S : SA} {k : Nat} (h : aer S ≤ 5) : aer (actA mk K V S k) ≤ 5 := by
  unfold actA
  split
  · exact h
  · split
    · split
      · exact Nat.le_of_ble_eq_true rfl
      · exact h
    · split
      · exact er_5 h
      · split
        · exact er_6 h
        · split
          · split
            · exact Nat.le_of_ble_eq_true rfl
            · exact h
          · split <;> exact h
theorem er_F {mk : Nat → Bool} {K V : Nat → Nat} : ∀ k, aer (actF mk K V k) ≤ 5
  | 0 => Nat.zero_le _
  | k + 1 => er_a (er_F k)
section
variable {E : ZEX} {σ : ZHp} {n x sh on y tl : Nat} {tb : Nat → Nat} {B : Nat → Int32} {t0 d0 : Int32}
theorem sp_read (hE : ZEOK E) (hY : ZEY E) (h : RPs E σ x tb tl) (h0 : σ x = some (rkO x sh on B t0 d0)) (g0 : σ y = some (shO y (nI 0) (nI 0) (nI 0) (nI 0) (nI 0))) (hB : SHb E σ y (fun _ _ => 0)) (hxy : x + 2 ≤ y ∨ y + 17 ≤ x) : ZSpec E MX15_read 40 0 0 [.ref x, .ref y] σ n (fun v σ' n' => v = some (.int (nI (lsE tb tl))) ∧ n' = n ∧ (∃ t d, σ' x = some (rkO x sh on (if lsE tb tl = 0 then B else upd B 2 (nI (lsP tb tl))) t d)) ∧ (lsE tb tl = 0 → SHs E σ' y (lxK tb tl) (cX (lxK tb tl) (lxV tb tl)) (lsU tb tl)) ∧ ∀ a, a ≠ x → (a < y ∨ y + 17 ≤ a) → σ' a = σ a) := by
  have hb := h.b.2
  have hN := (eN_b (tb := tb) (tl := tl)).1
  have hKc := lxK_c (tl := tl) hb
  have hbd := ls_b (tb := tb) (tl := tl)
  refine sp_read_g (L := lsR tb tl) (A := actF (lsM tb tl) (lxK tb tl) (lxV tb tl)) (M := lsM tb tl) hE hY h h0 g0 hB hxy ?_ ?_ rfl hbd.2.1 (fun i => lsM_i) (fun k hk h1 h2 => ?_) (fun H h1 h2 h3 => ls_SHs hb h1 h2 h3) rfl rfl (fun k => Nat.lt_of_le_of_lt (er_F k) (by omega))
  · intro H h1 h2
    rw [lsR_e]
    exact sp_isList hE h1 h2 (by omega) hN lxK_N hKc.1 hKc.2.1
  · intro H k hk hok hR hS h3
    have hcx := (ls_cx (tb := tb) (tl := tl) hk).1
    have ho := ls_okA (tb := tb) (tl := tl) (k := k) (by omega) h3
    exact sp_errorOf hE hR (by omega) hS ho h3 (fun k q => lsM_8 q) hcx (by have := hbd.2.1; omega)
  · have e := actF_e h2 ((lsR tb tl).1 - (k + 1))
    rw [show k + 1 + ((lsR tb tl).1 - (k + 1)) = (lsR tb tl).1 by omega] at e
    rw [e]
    exact ⟨act_ep h1 h2, rfl⟩
end
