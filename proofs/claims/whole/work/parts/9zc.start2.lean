/-! THE START: E, what holds of it -/
def zthL : List (Nat × String × Nat × Nat × String) := [(50, "the tape would be too long", 48, 52, "java/lang/IllegalStateException"), (61, "the tape has not so many bytes", 59, 63, "java/lang/IllegalArgumentException"), (148, "the pile is empty, or the merchant owns too many cards", 48, 52, "java/lang/IllegalStateException"), (159, "there is no such card among the discards", 48, 52, "java/lang/IllegalStateException"), (188, "there is no such thing to foresee", 186, 190, "java/lang/IndexOutOfBoundsException"), (220, "there is no such thing to tell", 186, 190, "java/lang/IndexOutOfBoundsException"), (222, "there is no such card", 186, 190, "java/lang/IndexOutOfBoundsException"), (224, "there is no such merchant", 186, 190, "java/lang/IndexOutOfBoundsException"), (226, "there is no such place", 186, 190, "java/lang/IndexOutOfBoundsException"), (228, "not so many rounds", 59, 63, "java/lang/IllegalArgumentException")]
theorem sth_ex : ∀ k, k < 10 → stF[([455, 485, 545, 603, 669, 367, 401, 426, 519, 647] : List Nat).getD k 0]? = some (.exactly (.string RX12 (zthL.getD k (0, "", 0, 0, "")).1) "java/lang/String") := by decide +kernel
theorem sth_sr : ∀ k, k < 10 → tables_1[([1027, 1055, 1112, 1131, 1298, 925, 972, 994, 1093, 1167] : List Nat).getD k 0]? = some (.stringRef RX12 (zthL.getD k (0, "", 0, 0, "")).1 (zthL.getD k (0, "", 0, 0, "")).2.1) := by decide +kernel
def zwm (w : Cond) : Bool := goodWord w || (match w with
  | .declares _ => true
  | .castable _ _ => true
  | _ => false)
theorem zwm_S : ∀ w ∈ zatL RX12 48 52 "java/lang/IllegalStateException", zwm w = true := by decide +kernel
theorem zwm_A : ∀ w ∈ zatL RX12 59 63 "java/lang/IllegalArgumentException", zwm w = true := by decide +kernel
theorem zwm_I : ∀ w ∈ zatL RX12 186 190 "java/lang/IndexOutOfBoundsException", zwm w = true := by decide +kernel
theorem zwt_S : ∀ w ∈ zatL RX12 48 52 "java/lang/IllegalStateException", w ∈ lw_tbl := by decide +kernel
theorem zwt_A : ∀ w ∈ zatL RX12 59 63 "java/lang/IllegalArgumentException", w ∈ lw_tbl := by decide +kernel
theorem zwt_I : ∀ w ∈ zatL RX12 186 190 "java/lang/IndexOutOfBoundsException", w ∈ lw_tbl := by decide +kernel
theorem zth_w : ∀ q ∈ zthL, (q.2.2.1 = 48 ∧ q.2.2.2.1 = 52 ∧ q.2.2.2.2 = "java/lang/IllegalStateException") ∨ (q.2.2.1 = 59 ∧ q.2.2.2.1 = 63 ∧ q.2.2.2.2 = "java/lang/IllegalArgumentException") ∨ (q.2.2.1 = 186 ∧ q.2.2.2.1 = 190 ∧ q.2.2.2.2 = "java/lang/IndexOutOfBoundsException") := by decide +kernel
theorem zth_3 {P : Cond → Prop} {q : Nat × String × Nat × Nat × String} (hq : q ∈ zthL) (h1 : ∀ w ∈ zatL RX12 48 52 "java/lang/IllegalStateException", P w) (h2 : ∀ w ∈ zatL RX12 59 63 "java/lang/IllegalArgumentException", P w) (h3 : ∀ w ∈ zatL RX12 186 190 "java/lang/IndexOutOfBoundsException", P w) : ∀ w ∈ zatL RX12 q.2.2.1 q.2.2.2.1 q.2.2.2.2, P w := by
  rcases zth_w q hq with ⟨e1, e2, e3⟩ | ⟨e1, e2, e3⟩ | ⟨e1, e2, e3⟩
  · rw [e1, e2, e3]; exact h1
  · rw [e1, e2, e3]; exact h2
  · rw [e1, e2, e3]; exact h3
theorem zwm_at {u U : State} (hW : u.WarmedH U.vm) {w : Cond} (hg : zwm w = true) (h : va_Nw w u) : va_Nw w U := by
  unfold zwm at hg
  rw [Bool.or_eq_true] at hg
  rcases hg with hg | hg
  · exact word_at hW (good_of_word hg) h
  · cases w <;> first | exact va_Nw.warmD hW h | exact va_Nw.warmC hW h | cases hg
def zXt (K : Nat → Nat) (A : Nat → Prop) (N : Nat) (xs : Nat → Int32) (U : State) (H : Heap) : Prop :=
  (va_Zq "jdk/internal/util/Preconditions" "SIOOBE_FORMATTER" "Ljava/util/function/BiFunction;" A U H ∧ vx_Zq Bundle.tN "UNASSIGNED_STACK" Bundle.steD A U H ∧ vx_Zq Bundle.tN "SUPPRESSED_SENTINEL" Bundle.listD A U H) ∧
  (∀ q ∈ zthL, ∃ sa, vk_R RX12 q.1 q.2.1 sa U) ∧
  (∀ q ∈ zthL, ∀ w ∈ zatL RX12 q.2.2.1 q.2.2.2.1 q.2.2.2.2, va_Nw w U) ∧
  (va_Nc "java/lang/IllegalStateException" "java/lang/IndexOutOfBoundsException" U ∧ va_Nc "java/lang/IllegalArgumentException" "java/lang/IndexOutOfBoundsException" U ∧ va_Nc "java/lang/IndexOutOfBoundsException" "java/lang/IllegalArgumentException" U ∧ va_Nw (.castable "java/lang/IllegalStateException" "java/lang/IllegalStateException") U ∧ va_Nw (.castable "java/lang/IllegalArgumentException" "java/lang/IllegalArgumentException") U ∧ va_Nw (.castable "java/lang/IndexOutOfBoundsException" "java/lang/IndexOutOfBoundsException") U) ∧
  va_T .int (K 300) N (fun j => .int (xs j)) A U H
theorem zXt.moved {K : Nat → Nat} {A : Nat → Prop} {N : Nat} {xs : Nat → Int32} {u U : State} {H : Heap} (hW : u.WarmedH U.vm) (h : zXt K A N xs u H) : zXt K A N xs U H := by
  obtain ⟨⟨a1, a2, a3⟩, b, c, ⟨d1, d2, d3, d4, d5, d6⟩, e⟩ := h
  have hv := hW.alike
  exact ⟨⟨va_Zq.moved hv a1, vx_Zq.moved hv a2, vx_Zq.moved hv a3⟩, fun q hq => by obtain ⟨sa, g⟩ := b q hq; exact ⟨sa, vk_R.warm hW g⟩, fun q hq w hw => zwm_at hW (zth_3 (P := fun w => zwm w = true) hq zwm_S zwm_A zwm_I w hw) (c q hq w hw), ⟨va_Nc.moved hv d1, va_Nc.moved hv d2, va_Nc.moved hv d3, va_Nw.warmC hW d4, va_Nw.warmC hW d5, va_Nw.warmC hW d6⟩, va_T.moved hv e⟩
theorem zXt.kept {K : Nat → Nat} {A : Nat → Prop} {N : Nat} {xs : Nat → Int32} {U : State} {H H1 : Heap} (h : zXt K A N xs U H) (hq : ∀ a : Nat, a < H.size → ¬ A a → H1[a]? = H[a]?) : zXt K A N xs U H1 := by
  obtain ⟨⟨a1, a2, a3⟩, b, c, d, e⟩ := h
  exact ⟨⟨va_Zq.kept a1 hq, vx_Zq.kept a2 hq, vx_Zq.kept a3 hq⟩, b, c, d, va_T.kept e hq⟩
theorem zFy.moved {K : Nat → Nat} {A : Nat → Prop} {u U : State} {H : Heap} (hW : u.WarmedH U.vm) (h : zFy K A u H) : zFy K A U H := by
  obtain ⟨h1, h2, h3, h4, h5, h6, h7, h8, h9, h10, h11, h12, h13, h14, h15, h16, h17⟩ := h
  have hv := hW.alike
  refine ⟨fun j hj => va_Z.moved hv (h1 j hj), va_Z.moved hv h2, va_Z.moved hv h3, va_Z.moved hv h4, fun j hj => va_O.moved hv (h5 j hj), fun j hj => va_OF.moved hv (h6 j hj), fun j hj => va_OF.moved hv (h7 j hj), va_T.moved hv h8, va_T.moved hv h9, va_T.moved hv h10, fun i hi => ⟨va_O.moved hv (h11 i hi).1, va_OF.moved hv (h11 i hi).2.1, va_OF.moved hv (h11 i hi).2.2.1, va_T.moved hv (h11 i hi).2.2.2⟩, vk_R.warm hW h12, va_AO.moved hv h13, va_AO.moved hv h14, arrayOver_alikeB hv h15, va_Z.moved hv h16, fun w hw => ?_⟩
  have hg := h17 w hw
  obtain ⟨-, k2⟩ := List.mem_filter.mp hw
  cases w <;> first | exact va_Nw.warmF hW hg | exact va_Nw.warmM hW hg | cases k2
theorem zFy.kept {K : Nat → Nat} {A : Nat → Prop} {U : State} {H H1 : Heap} (h : zFy K A U H) (hq : ∀ a : Nat, a < H.size → ¬ A a → H1[a]? = H[a]?) : zFy K A U H1 := by
  obtain ⟨h1, h2, h3, h4, h5, h6, h7, h8, h9, h10, h11, h12, h13, h14, h15, h16, h17⟩ := h
  exact ⟨fun j hj => va_Z.kept (h1 j hj) hq, va_Z.kept h2 hq, va_Z.kept h3 hq, va_Z.kept h4 hq, fun j hj => va_O.kept (h5 j hj) hq, fun j hj => va_OF.kept (h6 j hj) hq, fun j hj => va_OF.kept (h7 j hj) hq, va_T.kept h8 hq, va_T.kept h9 hq, va_T.kept h10 hq, fun i hi => ⟨va_O.kept (h11 i hi).1 hq, va_OF.kept (h11 i hi).2.1 hq, va_OF.kept (h11 i hi).2.2.1 hq, va_T.kept (h11 i hi).2.2.2 hq⟩, h12, h13, h14, h15, va_Z.kept h16 hq, h17⟩
section
variable {args : Array Value} {s : State} {b N : Nat} {A : Nat → Prop} {xs : Nat → Int32}
theorem zst_X (h : (Cond.and given_1 narrow_1).before args s = true) (hL : ∀ w ∈ lw_tbl, w.before args s = true) (hA : ∀ a : Nat, a < s.heap.size → ¬ A a) (hN : N ≤ 3072) (hX : va_X b N xs s s.heap) : zXt (zsK args s b) A N xs s s.heap := by
  have tb : ∀ {i : Nat} {c : Cond}, tables_1[i]? = some c → c.before args s = true := fun hi => hL _ (List.mem_append_right _ (List.mem_of_getElem? hi))
  refine ⟨⟨va_Zqof (tb sl_sio) (tb sl_ip) (st_at h sf_sio) hA, vx_Zqof (tb sl_una) (tb sl_it) (st_at h sf_una) hA, vx_Zqof (tb sl_sup) (tb sl_it) (st_at h sf_sup) hA⟩, fun q hq => ?_, fun q hq w hw => ?_, ⟨va_Nc.of (st_at h sf_n1), va_Nc.of (st_at h sf_n2), va_Nc.of (st_at h sf_n3), va_Nw.of rfl (hL _ (zwt_S _ (by decide +kernel))), va_Nw.of rfl (hL _ (zwt_A _ (by decide +kernel))), va_Nw.of rfl (hL _ (zwt_I _ (by decide +kernel)))⟩, ?_⟩
  · obtain ⟨k, hk⟩ := List.mem_iff_getElem?.mp hq
    have hk10 : k < 10 := (List.getElem?_eq_some_iff.mp hk).1
    have e : zthL.getD k (0, "", 0, 0, "") = q := by rw [List.getD_eq_getElem?_getD, hk]; rfl
    have e1 := sth_ex k hk10
    have e2 := sth_sr k hk10
    rw [e] at e1 e2
    exact ⟨_, vk_R.of (A := args) (tb e2) (st_ref (st_at h e1))⟩
  · exact vx_ot_at (State.WarmedH.refl s) rfl (zth_3 (P := fun w => vx_ot w = true) hq zot_S zot_A zot_I w hw) (hL w (zth_3 (P := fun w => w ∈ lw_tbl) hq zwt_S zwt_A zwt_I w hw))
  · show va_T .int b N (fun j => .int (xs j)) A s s.heap
    obtain ⟨scr, g1, g2, g3, g4, g5⟩ := hX
    exact ⟨scr, g1, g2, g3, by omega, by rw [g4], fun j hj => g5 j hj, hA b (Array.getElem?_eq_some_iff.mp g1).1⟩
theorem zcls (hL : ∀ w ∈ lw_tbl, w.before args s = true) : ∃ (dC : Nat → ClassId) (dI : Nat → Nat → Nat), ∀ (c : Nat) (q : vw_C), vwCl[c]? = some q → u_Kn s q.1 q.2.1 q.2.2 (dC c) (dI c) := by
  have tb : ∀ {i : Nat} {c : Cond}, tables_1[i]? = some c → c.before args s = true := fun hi => hL _ (List.mem_append_right _ (List.mem_of_getElem? hi))
  have one : ∀ {ci : Nat} {C : String} {Tb : u_T} {N n : Nat}, ZCK ci C Tb N → (Cond.instantiable C n).before args s = true → ∃ p : ClassId × (Nat → Nat), ∀ q, vwCl[ci]? = some q → u_Kn s q.1 q.2.1 q.2.2 p.1 p.2 := by
    intro ci C Tb N n h hi
    obtain ⟨cC, iS, hk⟩ := u_known (n := n) hL (fun w hw => (h.2.1 w hw).1) hi
    refine ⟨(cC, iS), fun q hq => ?_⟩
    have e := hq.symm.trans h.1
    cases e
    exact hk
  have all : ∀ c : Nat, ∃ p : ClassId × (Nat → Nat), ∀ q : vw_C, vwCl[c]? = some q → u_Kn s q.1 q.2.1 q.2.2 p.1 p.2 := by
    intro c
    by_cases hc : c < 15
    · have h15 : c = 0 ∨ c = 1 ∨ c = 2 ∨ c = 3 ∨ c = 4 ∨ c = 5 ∨ c = 6 ∨ c = 7 ∨ c = 8 ∨ c = 9 ∨ c = 10 ∨ c = 11 ∨ c = 12 ∨ c = 13 ∨ c = 14 := by omega
      rcases h15 with rfl | rfl | rfl | rfl | rfl | rfl | rfl | rfl | rfl | rfl | rfl | rfl | rfl | rfl | rfl
      · exact one ckX1 (n := 2) (tb (i := 120) (by decide +kernel))
      · exact one ckX2 (n := 11) (tb (i := 252) (by decide +kernel))
      · exact one ckX3 (n := 4) (tb (i := 55) (by decide +kernel))
      · exact one ckX4 (n := 7) (tb (i := 258) (by decide +kernel))
      · exact one ckX5 (n := 2) (tb (i := 69) (by decide +kernel))
      · exact one ckX6 (n := 15) (tb (i := 111) (by decide +kernel))
      · exact one ckX7 (n := 6) (tb (i := 105) (by decide +kernel))
      · exact one ckX8 (n := 4) (tb (i := 471) (by decide +kernel))
      · exact one ckX9 (n := 2) (tb (i := 41) (by decide +kernel))
      · exact one ckX10 (n := 6) (tb (i := 61) (by decide +kernel))
      · exact one ckX11 (n := 10) (tb (i := 267) (by decide +kernel))
      · exact one ckX12 (n := 6) (tb (i := 33) (by decide +kernel))
      · exact one ckX13 (n := 21) (tb (i := 1320) (by decide +kernel))
      · exact one ckX14 (n := 15) (tb (i := 1406) (by decide +kernel))
      · exact one ckX15 (n := 23) (tb (i := 1314) (by decide +kernel))
    · exact ⟨(0, fun _ => 0), fun q hq => absurd (List.getElem?_eq_some_iff.mp hq).1 (by show ¬ c < 15; exact hc)⟩
  obtain ⟨f, hf⟩ := Classical.axiomOfChoice all
  exact ⟨fun c => (f c).1, fun c => (f c).2, fun c q hq => hf c q hq⟩
theorem zarr (hL : ∀ w ∈ lw_tbl, w.before args s = true) : ∃ cA : Nat → ClassId, ∀ (k : Nat) (q : ClassId × FieldType), [(cA 0, FieldType.int), (cA 1, .byte), (cA 2, .long), (cA 3, .object RX8), (cA 4, .object RX11), (cA 5, .array .int)][k]? = some q → ArrOfT s q.1 q.2 ∧ va_RA s q.1 q.2 := by
  have tb : ∀ {i : Nat} {c : Cond}, tables_1[i]? = some c → c.before args s = true := fun hi => hL _ (List.mem_append_right _ (List.mem_of_getElem? hi))
  obtain ⟨c0, k0, p0, a0, b0, d0⟩ := Cond.arrayClass_spec (args := args) (first := s) (o := none) (s := s) (idx := []) (tb sl_ai)
  obtain ⟨c1, k1, p1, a1, b1, d1⟩ := Cond.arrayClass_spec (args := args) (first := s) (o := none) (s := s) (idx := []) (tb sl_ab)
  obtain ⟨c2, k2, p2, a2, b2, d2⟩ := Cond.arrayClass_spec (args := args) (first := s) (o := none) (s := s) (idx := []) (tb sl_aj)
  obtain ⟨p3, c3, k3, e3, f3, b3, d3, a3⟩ := Cond.arrayOver_spec (args := args) (first := s) (o := none) (s := s) (idx := []) (tb sl_o8)
  obtain ⟨p4, c4, k4, e4, f4, b4, d4, a4⟩ := Cond.arrayOver_spec (args := args) (first := s) (o := none) (s := s) (idx := []) (tb sl_o11)
  obtain ⟨p5, c5, k5, e5, f5, b5, d5, a5⟩ := arrayOver_specB (args := args) (first := s) (o := none) (s := s) (idx := []) (t := .int) (tb sl_oa)
  refine ⟨fun k => if k = 0 then c0 else if k = 1 then c1 else if k = 2 then c2 else if k = 3 then c3 else if k = 4 then c4 else c5, fun k q hq => ?_⟩
  match k, hq with
  | 0, hq => cases hq; exact ⟨fun n z => ⟨fun k h => (by cases h), k0, b0, p0, d0⟩, a0⟩
  | 1, hq => cases hq; exact ⟨fun n z => ⟨fun k h => (by cases h), k1, b1, p1, d1⟩, a1⟩
  | 2, hq => cases hq; exact ⟨fun n z => ⟨fun k h => (by cases h), k2, b2, p2, d2⟩, a2⟩
  | 3, hq => cases hq; exact ⟨fun n z => ⟨fun k h => (by cases h), k3, b3, p3, d3⟩, k3, p3, b3, d3, e3, a3⟩
  | 4, hq => cases hq; exact ⟨fun n z => ⟨fun k h => (by cases h), k4, b4, p4, d4⟩, k4, p4, b4, d4, e4, a4⟩
  | 5, hq => cases hq; exact ⟨fun n z => ⟨fun k h => (by cases h), k5, b5, p5, d5⟩, a5⟩
  | k + 6, hq => simp at hq
/-- E exists, and all that was taken of it holds -/
theorem zstart (h : (Cond.and given_1 narrow_1).before args s = true) (hL : ∀ w ∈ lw_tbl, w.before args s = true) (hN : N ≤ 3072) (hX : va_X b N xs s s.heap) : ∃ E : ZEX, ZEOK E ∧ ZTH E ∧ ZNC E ∧ ZEY E ∧ ZSC E N xs ∧ ZENV E s s.heap ∧ zeK E 300 = b ∧ zeB E = s.heap.size := by
  have hA : ∀ a : Nat, a < s.heap.size → ¬ (fun q : Nat => s.heap.size ≤ q) a := fun a ha => Nat.not_le.mpr ha
  obtain ⟨f1, f2⟩ := zst_F (b := b) h (fun w hw => hL w (List.mem_append_right _ hw)) hA
  have f3 := zst_X (b := b) h hL hA hN hX
  have f4 : zsK args s b 300 = b := rfl
  obtain ⟨dC, dI, hcls⟩ := zcls hL
  obtain ⟨cA, harr⟩ := zarr hL
  generalize zsK args s b = K at f1 f2 f3 f4
  refine ⟨(dC, dI, cA, s.heap.size, K, fun U H => zFy K (fun q : Nat => s.heap.size ≤ q) U H ∧ zXt K (fun q : Nat => s.heap.size ≤ q) N xs U H), ⟨fun U H hF => hF.1, f2, fun u U H hW hF => ⟨hF.1.moved hW, hF.2.moved hW⟩, fun U H H1 hF hq => ⟨hF.1.kept hq, hF.2.kept hq⟩⟩, fun q hq U H hF => ⟨hF.2.1.2.1, hF.2.1.2.2, hF.2.2.1 q hq, fun w hw => hF.2.2.2.1 q hq w hw⟩, fun U H hF => hF.2.2.2.2.1, fun U H hF => hF.2.1, fun U H hF => hF.2.2.2.2.2, ⟨⟨hcls, harr⟩, ⟨f1, f3⟩, Nat.le_refl _⟩, f4, rfl⟩
end
