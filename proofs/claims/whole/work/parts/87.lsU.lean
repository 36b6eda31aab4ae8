/-! THE CLASS: what it has read are the rules of the list -/
section
variable {E : ZEX} {σ σ' : ZHp} {n gr u t tl k sz e0 q0 sc : Nat} {tb : Nat → Nat} {mk : Nat → Bool} {K V : Nat → Nat} {Y : Nat → Int32} {S S' : SA} {num : Int32} {off oof : Nat → Nat} {a b a' b' : Bool} {og : Nat → Nat} {xg : Nat → Int32}
theorem SC_RLs (h : SCs E σ sc u tb tl S off oof true true num) (hF : FMs E σ (u + 22) sz og xg) (hG : GOK mk K Y S sz og xg off oof) (h0 : aer S = 0) (ho : okA S) (hK : lxK tb tl = K) (hR : okR (ruA K Y S)) : RLs E σ u (ruA K Y S) := by
  obtain ⟨F, kd, s, fn, fm, c1, c2, c3, c4, c5, c6, ⟨d1, d2, d3, d4, d5, d6, d7⟩, c8, c9⟩ := h
  obtain ⟨q1, q2⟩ := hG h0
  have r : ∀ {r m : Nat}, rR r → m = szR r → rwA E σ (u + r) (u + r + 1) m (F r) (s r) := fun hr hm => by rw [hm]; exact c5 _ hr
  have r7 : rwA E σ (u + 7) (u + 8) 20 (F 7) (nI (ans S)) := by rw [← d1]; exact r (r := 7) (by unfold rR; omega) rfl
  refine ⟨F 1, F 3, F 5, F 7, F 9, F 12, F 14, F 16, F 18, F 20, kd, sz, og, xg, s 1, s 3, s 5, s 9, s 12, s 14, s 16, s 18, s 20, c4, r (r := 1) (by unfold rR; omega) rfl, r (r := 3) (by unfold rR; omega) rfl, r (r := 5) (by unfold rR; omega) rfl, r7, r (r := 9) (by unfold rR; omega) rfl, c6, r (r := 12) (by unfold rR; omega) rfl, r (r := 14) (by unfold rR; omega) rfl, r (r := 16) (by unfold rR; omega) rfl, r (r := 18) (by unfold rR; omega) rfl, r (r := 20) (by unfold rR; omega) rfl, hF, hR, fun c hc => ?_, fun c hc => (d2 c hc).2.2.1, fun i hi => d3 i hi, fun o hoo => ?_⟩
  · have hc' : c < anc S := hc
    have c10 : c < 10 := Nat.lt_of_lt_of_le hc' ho.1.1
    refine ⟨(d2 c c10).1, (d2 c c10).2.1, (d2 c c10).2.2.2, fun d hd => ?_⟩
    have hd' : d < ade S c := hd
    obtain ⟨x1, x2, x3⟩ := d4 c d hc' hd'
    obtain ⟨y1, y2⟩ := q1 c d hc' hd'
    rw [hK] at x1
    rw [Nat.mul_comm c 4]
    refine ⟨x1, fun _ => x2, fun q => ?_⟩
    obtain ⟨G, z1, z2⟩ := y2 q
    refine ⟨_, x3, ?_⟩
    have e : rds (ruA K Y S) (4 * c + d) = ((qS K Y 8 (if K (adt S (4 * c + d)) = 12 then adt S (4 * c + d) + 2 else adt S (4 * c + d) + 1)).2).getD (fun _ => 0) := rfl
    rw [e, z1]
    exact z2.fm
  · have hoo' : o < ano S := hoo
    refine ⟨d7 o (Or.inr ⟨hoo', h0, rfl⟩), d6 o (Or.inr ⟨hoo', h0, rfl⟩), ?_⟩
    have e : rot (ruA K Y S) o = (aot S o).bind (fun t => (qT K Y 8 t).2) := rfl
    rw [e]
    rcases d5 o hoo' with ⟨x1, x2⟩ | ⟨t, x1, x2⟩
    · rw [x1]
      exact Or.inl ⟨rfl, x2⟩
    · obtain ⟨G, y1, y2⟩ := q2 o t hoo' x1
      refine Or.inr ⟨_, G, x2, ?_, y2.fm⟩
      rw [x1]
      exact y1
theorem GC2_ls (hb : ∀ i, i < tl → tb i < 256) : GC2 tb tl (lsM tb tl) (lxK tb tl) (lxV tb tl) (cX (lxK tb tl) (lxV tb tl)) (lsR tb tl).1 :=
  ⟨GCx_F hb (fun k h => lsM_8 h), fun k h => lsM_8 h, ls_b.2.1, fun k hk h => ls_okA hk h, fun k hk => (ls_cx hk).1, fun k hk h => lxV_n hb hk h⟩
def lsD (E : ZEX) (σ : ZHp) (gr u : Nat) (tb : Nat → Nat) (tl : Nat) : Prop := rdP E σ gr u tb tl (lsM tb tl) (lxK tb tl) (lxV tb tl) (cX (lxK tb tl) (lxV tb tl)) (lsR tb tl).1 (lsR tb tl).2.1
theorem lsE_v : (if (lsR tb tl).2.1 = true then nI (aer (actF (lsM tb tl) (lxK tb tl) (lxV tb tl) (lsR tb tl).1)) else 1) = nI (lsE tb tl) := by
  unfold lsE lsS
  cases (lsR tb tl).2.1 with
  | false => rfl
  | true => rfl
theorem lsE_0 (h : lsE tb tl = 0) : (lsR tb tl).2.1 = true ∧ aer (lsS tb tl) = 0 := by
  unfold lsE at h
  cases hb : (lsR tb tl).2.1 with
  | false => rw [hb] at h; cases h
  | true => rw [hb] at h; exact ⟨rfl, h⟩
theorem sp_Gr_read (hE : ZEOK E) (hY : ZEY E) (hd : gr + 9 ≤ u ∨ u + 26 ≤ gr) (hT : TPs E σ t tb tl) (htd : (t < gr ∨ gr + 9 ≤ t) ∧ (t + 1 < gr ∨ gr + 9 ≤ t + 1)) {fs : Nat → Option Nat} {fp : Nat → Int32} {fv : Nat → Int64} {now : Int32} {rs : Nat} {rv : Int64} (hk : TKg E σ (gr + 1) fs fp fv now rs rv) {fm0 : Nat} {w0 : Int32} (h0 : σ gr = some (.inr (2, [.ref (gr + 1), .ref (gr + 6), .ref fm0, .int w0]))) {u0 : Nat} {er ep : Int32} {fn fm : Nat → Int64} {F : Nat → Nat → Int32} {s : Nat → Int32} {kd : Nat → Option Nat} (c1 : σ (gr + 6) = some (scO (gr + 6) u0 er ep num)) (c2 : laR E σ (gr + 7) 10 fn) (c3 : laR E σ (gr + 8) 4 fm) (c4 : σ u = some (ruO u 0 0 0)) (c5 : RUb E σ u F s) (c6 : σ (u + 11) = some (.inl (zeA E 3, (40, .inr (.inr (.inr (.inr kd))))))) (hs : s 7 = 0) (hz : ∀ r i, (r = 1 ∨ r = 3 ∨ r = 5 ∨ r = 9) → i < 10 → F r i = 0) (hF : FMs E σ (u + 22) 0 og xg) : ZSpec E MX3_read 70 0 0 [.ref gr, .ref t, .ref u] σ n (fun v σ' n' => v = some (.int (nI (lsE tb tl))) ∧ n' = n ∧ gRf gr u σ σ' ∧ lsD E σ' gr u tb tl) := by
  have z := sp_Gr_read_g (n := n) hE hY hd (GC2_ls hT.b.2) (q0 := 400) rfl lsR_e.symm rfl (fun k => lsM_i) hT htd hk h0 c1 c2 c3 c4 c5 c6 hs hz hF
  rw [lsE_v] at z
  exact z
theorem sp_Gr_errorPlace (hE : ZEOK E) (h : lsD E σ gr u tb tl) (he : lsE tb tl ≠ 0) : ZSpec E MX3_errorPlace 3 0 0 [.ref gr] σ n (zp (.int (nI (lsP tb tl))) σ n) := by
  have h5 : aer (actF (lsM tb tl) (lxK tb tl) (lxV tb tl) (lsR tb tl).1) ≠ 0 ∨ (lsR tb tl).2.1 = false := by
    cases hb : (lsR tb tl).2.1 with
    | false => exact Or.inr rfl
    | true =>
      refine Or.inl (fun q => he ?_)
      unfold lsE lsS
      rw [hb, if_pos rfl]
      exact q
  exact sp_Gr_place hE h ls_b.2.1 h5
theorem lsD_RLs (hb : ∀ i, i < tl → tb i < 256) (h : lsD E σ gr u tb tl) (he : lsE tb tl = 0) : RLs E σ u (lsU tb tl) := by
  obtain ⟨hok, h0⟩ := lsE_0 he
  obtain ⟨S', off, oof, a, b, num, sz, og, xg, w, h1, h2, h3, h4, h6, -⟩ := h
  obtain ⟨-, e1, e2, e3, hG⟩ := h6 hok
  subst e2
  subst e3
  rw [show actF (lsM tb tl) (lxK tb tl) (lxV tb tl) (lsR tb tl).1 = lsS tb tl from rfl] at e1
  subst e1
  exact SC_RLs h3 h4 hG h0 (ls_okA (Nat.le_refl _) h0) rfl (ls_okR hok h0 (fun c d hc hd => ((hG h0).1 c d hc hd).1))
end
