/-! EXCEPTIONS: contracts of methods that return or throw; the rows of a throw and of a call of such a method -/
def zup6 : List String := ["java/lang/RuntimeException", "java/lang/Exception"]
def zXg (E : ZEX) (PX : String → ZHp → Nat → Prop) : String → State → State → Prop := fun cls st t => (∃ (σ : ZHp) (n : Nat), PX cls σ n ∧ t.heap.size = n ∧ ZHP E σ t.heap) ∧ va_F (zAB E) st t
def ZSpecX (E : ZEX) (M : ZMY) (d mc ms : Nat) (av : List Value) (σ : ZHp) (n : Nat) (P : ZPT) (PX : String → ZHp → Nat → Prop) : Prop := ∀ l : Launch, l.stackTraces = false → vx_Met l M.1 (zwsM M) (zrmD d mc ms) (zPg E av σ n) (zQg E P) (zXg E PX) mc ms (zAB E)
def zTX (mc ms : Nat) (PX : String → ZHp → Nat → Prop) : ZTT := fun cls σ n k w => PX cls σ n ∧ k ≤ mc ∧ w ≤ ms
/-- a body that may throw -/
def zMX (E : ZEX) (X : ZMX) (mc ms : Nat) (P : ZPT) (PX : String → ZHp → Nat → Prop) : Prop :=
  match X with
  | (_, l, _, _, s, _, args, below, _, c, Q) => l.stackTraces = false ∧ Q = vx_MQ below (zQg E P) (zXg E PX) args s mc ms (zAB E) ∧ ∀ x ∈ c.exceptionTable.toList, False
/-- what a throw takes of the JDK -/
def zatL (own : String) (ik ic : Nat) (cls : String) : List Cond := Cond.classLink own ik cls :: Cond.initialized cls :: vx_atS own ic cls zup6
def ZET (E : ZEX) (own : String) (is : Nat) (text : String) (ik ic : Nat) (cls : String) : Prop := ∀ (U : State) (H : Heap), zeF E U H → vx_Zq Bundle.tN "UNASSIGNED_STACK" Bundle.steD (zAB E) U H ∧ vx_Zq Bundle.tN "SUPPRESSED_SENTINEL" Bundle.listD (zAB E) U H ∧ (∃ sa, vk_R own is text sa U) ∧ ∀ w ∈ zatL own ik ic cls, w.before #[] U = true
set_option maxHeartbeats 4000000 in
theorem ZSpecX_of {E : ZEX} {M : ZMY} {d mc ms : Nat} {av : List Value} {σ : ZHp} {n : Nat} {P : ZPT} {PX : String → ZHp → Nat → Prop} (hE : ZEOK E) (hy : plainName M.1.cls = true) (hlen : (lg_sl av).length ≤ M.2.2.1) (L : ZLV) (hL : zent av M.2.2.1 = L)
    (h : ∀ X : ZMX, zMX E X mc ms P PX → ZCX E X M d mc ms P (zTX mc ms PX) → ZG E X M 0 L [] σ n 0 0) : ZSpecX E M d mc ms av σ n P PX := by
  intro l hl
  obtain ⟨y, cc, nL, ret⟩ := M
  refine vx_ofW (cc := cc) (maxL := nL) (ret := ret) (ws' := zallW) hy rfl ?_
  intro p e s m args below meth c s₁ B hml htab hv
  obtain ⟨rfl, hsz, hP, hENV⟩ := hv
  have hts := atoms_spec (ws := zwsM (y, cc, nL, ret)) B.pre
  have hown : s.vm.findClass y.cls = some m.cls := findClass_of_methodNamed B.named
  have hnm : meth.name = y.name := (name_of_methodNamed B.named B.method).1
  rw [lg_entry_eq]
  have hl9 := lv_entry av (n := nL) hlen
  subst hL
  refine h (p, l, e, (headSpec (zwsM (y, cc, nL, ret)) (zrmD d mc ms)).room, s, m, av.toArray, below, meth, c, _) ⟨hl, rfl, htab⟩ ⟨hE, B.exec, B.bytes, hml, B.returns, B.notSynchronized, hown, fun w hw => hts w (List.mem_cons_of_mem _ hw.all), hENV, Nat.le_refl _, Nat.le_refl _, Nat.le_refl _, Nat.le_refl _, hnm, fun H locs k w g hg => vx_ret hg, fun cls σ1 n1 k w hT H locs ls rest pc q ce h1 h2 h3 h4 h5 h6 h7 => ?_⟩ s.heap [] _ hsz hP va_S.rf ?_
  · obtain ⟨t1, t2, t3⟩ := hT
    exact vx_out (fun x hx => (htab x hx).elim) B.notSynchronized h5 h6 h7 (fun t ht hA => ⟨⟨σ1, n1, t1, by rw [ht]; exact h1, by rw [ht]; exact h2⟩, h3.F ht⟩) h3.2.2 t2 t3
  · refine ZL.of hl9 (zent_len av nL hlen) (fun i v hv => ?_)
    have := zent_get av nL 0 i v hv
    rwa [Nat.zero_add] at this
/-- a callee that returns or throws -/
def zcallT (E : ZEX) (d mc ms : Nat) (Mc : ZMY) (av : List Value) (σ : ZHp) (n k w : Nat) (Kn : Option Value → ZHp → Nat → Nat → Nat → Prop) (KT : String → ZHp → Nat → Nat → Nat → Prop) : Prop :=
  ∃ (d' mc' ms' : Nat) (P' : ZPT) (PX' : String → ZHp → Nat → Prop), ZSpecX E Mc d' mc' ms' av σ n P' PX' ∧ d' < d ∧ k + mc' ≤ mc ∧ w + ms' ≤ ms ∧ (∀ v σ' n', P' v σ' n' → Kn v σ' n' (k + mc') (w + ms')) ∧ ∀ cls σ' n', PX' cls σ' n' → KT cls σ' n' (k + mc') (w + ms')
section ZT
variable {p : Program} {l : Launch} {e : Env} {R : Room} {s : State} {m : MethodId} {args : Array Value} {below : List Frame} {meth : Method} {c : Code} {H : Heap} {locs : List Loc} {Q : State → Prop}
theorem zgoT {E : ZEX} {P' : ZPT} {PX' : String → ZHp → Nat → Prop} {k w mc' ms' pc : Nat} {ls : Array Slot} {rest st0 : List Value} {a : Array Value} (hr : vx_Run p l e R s m args below meth c H locs k w mc' ms' (F0 m pc ls st0) rest (zQg E P' a) (zXg E PX') (zAB E)) (hV : va_S (zAB E) s.heap H locs)
    (kk : ∀ (v : Option Value) (σ' : ZHp) (n' : Nat) (H1 : Heap) (locs1 : List Loc), P' v σ' n' → H1.size = n' → ZHP E σ' H1 → va_S (zAB E) s.heap H1 locs1 → W p l e R s m args below meth c H1 locs1 (k + mc') (w + ms') Q (F0 m (pc + 3) ls (v.toList ++ rest)))
    (kx : ∀ (cls : String) (σ' : ZHp) (n' : Nat) (H1 : Heap) (locs1 : List Loc) (q : Addr) (ce : Cell), PX' cls σ' n' → H1.size = n' → ZHP E σ' H1 → va_S (zAB E) s.heap H1 locs1 → H1[q]? = some ce → ce.vm = .none → s.vm.findClass cls = some ce.cls → vx_W p l e R s m args below meth c H1 locs1 (k + mc') (w + ms') Q (F0 m pc ls rest) q) : W p l e R s m args below meth c H locs k w Q (F0 m pc ls st0) := by
  have keep : ∀ {st₀ t T' : State} {L : List Loc}, st₀.heap = H → T'.heap = t.heap → va_F (zAB E) st₀ t → (∀ q ∈ L, zAB E q.base) → va_S (zAB E) s.heap T'.heap (locs ++ L) := by
    intro st₀ t T' L h0 e1 hF hL
    obtain ⟨hz, hk⟩ := hF
    rw [h0] at hz hk
    exact ⟨Nat.le_trans hV.1 (by rw [e1]; exact hz), fun q h1 h2 => by rw [e1, hk q (Nat.lt_of_lt_of_le h1 hV.1) h2]; exact hV.2.1 q h1 h2, fun q hq => by
      rcases List.mem_append.mp hq with h | h
      · exact hV.2.2 q h
      · exact hL q h⟩
  intro T hT X
  rcases hr T hT X with ⟨v, st₀, t, T', L, h0, X', hL, e1, e2, ⟨⟨v', σ', n', hv, hp, hn, hP⟩, hF⟩, st⟩ | ⟨q, st₀, t, T', L, cls, ce, h0, X', hL, e1, e2, ⟨⟨σ', n', hp, hn, hP⟩, hF⟩, hce, hcv, hcl, st⟩
  · cases hv
    obtain ⟨t2, a1, b1⟩ := kk v σ' n' T'.heap (locs ++ L) hp (by rw [e1]; exact hn) (by rw [e1]; exact hP) (keep h0 e1 hF hL) T' rfl X'
    exact ⟨t2, st t2 a1, b1⟩
  · obtain ⟨t2, a1, b1⟩ := kx cls σ' n' T'.heap (locs ++ L) q ce hp (by rw [e1]; exact hn) (by rw [e1]; exact hP) (keep h0 e1 hF hL) (by rw [e1]; exact hce) hcv hcl T' rfl X'
    exact ⟨t2, st.trans a1, b1⟩
end ZT
def s_callVT (E : ZEX) (d mc ms ci : Nat) (Mc : ZMY) (na nx : Nat) : ZStep := fun L st σ n k w K G R T => match st.drop na with
  | .ref a :: rest => zobj σ a ci ∧ zcs rest ≤ 8 ∧ (st.take na).length = na ∧ zcallT E d mc ms Mc (.ref a :: (st.take na).reverse) σ n k w (fun v σ' n' k' w' => G nx L (v.toList ++ rest) σ' n' k' w') T
  | _ => False
set_option maxHeartbeats 4000000 in
theorem r_callVT {E : ZEX} {X : ZMX} {M : ZMY} {d mc ms : Nat} {P : ZPT} {T : ZTT} (h : ZCX E X M d mc ms P T) (hl : X.2.1.stackTraces = false) {pc : Nat} {ix : Nat} (hd : decode M.2.1 pc = .ok (.invokevirtual ix, 3)) {ci : Nat} {C : String} {Tb : u_T} {N : Nat} (hC : ZCK ci C Tb N) {Mc : ZMY} (na : Nat) (hM : ZMC Mc na) (hin : ZWd (.instanceMethod Mc.1)) (hlk9 : ZWd (.methodLink M.1.cls ix Mc.1)) (hse : ZWd (.selects C Mc.1 Mc.1)) (hcl9 : Mc.1.cls = C) : ZRow E X M mc ms P T pc (s_callVT E d mc ms ci Mc na (pc + 3)) := by
  obtain ⟨p, l, e, R, s, m, args, below, meth, c, Q⟩ := X
  obtain ⟨hE, hx, hb, hml, hr, hlk, hown, hts, hENV, hfr, hlo, hce, hsl, hnm, hQ, hT⟩ := h
  intro K hK L st σ n k w hS H locs ls hsz hP hV hL
  unfold s_callVT at hS
  split at hS
  · rename_i a rest hdr
    obtain ⟨ho, hcs, hna, d', mc', ms', P', PX', hsp, hd', hmc', hms', hgo, hgx⟩ := hS
    have hst : st = ((st.take na).reverse).reverse ++ .ref a :: rest := by rw [List.reverse_reverse, ← hdr]; exact (List.take_append_drop na st).symm
    have htsA : ∀ w ∈ zallW, w.before args s = true := fun w hw => hts w (List.mem_filter.mp hw)
    have hl9 : ((st.take na).reverse).length = na := by rw [List.length_reverse]; exact hna
    unfold zcs at hcs
    have hRm := zRm (mL := Mc.2.2.1) hd' hfr hlo hM.2.2.2
    obtain ⟨fs, hg⟩ := zobj_at ho
    have hrc := va_recv hENV.1 (hP.one hg) hC.1 (q0 := 0) rfl
    have hini9 : ZWd (.initialized C) := by rw [← hcl9]; exact hM.2.1
    refine zgoT (vx_runV (As := (st.take na).reverse) (rest := rest) ⟨hx, hb, hml, hown, htsA⟩ (hsp l hl) (cwV na htsA (fun w hw => by simp only [wsV, List.mem_append, List.mem_cons, List.not_mem_nil, or_false] at hw; rcases hw with (rfl | rfl | rfl | rfl) | hw <;> first | exact ⟨hlk9.all, good_of_word hlk9.2⟩ | exact ⟨hin.all, good_of_word hin.2⟩ | exact ⟨hse.all, good_of_word hse.2⟩ | exact ⟨hini9.all, good_of_word hini9.2⟩ | exact zgood hM w hw) rfl rfl rfl ⟨hcl9, hM.2.2.1⟩ hRm) ⟨zFB hE, hrc, zPS hE hENV hV hsz hP⟩ rfl hl9 hL.1 hst (by show 2 * 0 + _ ≤ 8; omega) hd ⟨by omega, by omega⟩) hV (fun v σ' n' H1 locs1 hp1 hn1 hP1 hV1 => hgo v σ' n' hp1 H1 locs1 ls hn1 hP1 hV1 hL) (fun cls σ' n' H1 locs1 q ce hp1 hn1 hP1 hV1 h5 h6 h7 => hT cls σ' n' _ _ (hgx cls σ' n' hp1) H1 locs1 ls rest pc q ce hn1 hP1 hV1 (Or.inr hL.1) h5 h6 h7)
  · exact hS.elim
/-- new, dup, ldc, invokespecial, athrow: the heap as it was, and some cells more -/
def s_throw (cls : String) : ZStep := fun L st σ n k w K G R T => zcs st ≤ 8 ∧ ∀ n', n ≤ n' → T cls σ n' (k + 1) (w + 6)
theorem ZHP.grow {E : ZEX} {σ : ZHp} {H H1 : Heap} (h : ZHP E σ H) (hz : H.size ≤ H1.size) (hq : ∀ q : Nat, q < H.size → H1[q]? = H[q]?) : ZHP E σ H1 := fun a e ha => ⟨(h a e ha).1, (h a e ha).2.kept (hq a (h.lt ha))⟩
set_option maxHeartbeats 4000000 in
theorem r_throw {E : ZEX} {X : ZMX} {M : ZMY} {d mc ms : Nat} {P : ZPT} {PX : String → ZHp → Nat → Prop} (h : ZCX E X M d mc ms P (zTX mc ms PX)) (hX : zMX E X mc ms P PX) {cls text : String} {pc ik is ic : Nat} (hET : ZET E M.1.cls is text ik ic cls) (hd7 : 7 ≤ d) (hcls : Bundle.fit cls = true)
    (hgood : ∀ w ∈ zatL M.1.cls ik ic cls, vx_ot w = true)
    (d0 : decode M.2.1 pc = .ok (.new ik, 3)) (d3 : decode M.2.1 (pc + 3) = .ok (.dup, 1)) (d4 : decode M.2.1 (pc + 4) = .ok (.ldc is, 2)) (d6 : decode M.2.1 (pc + 6) = .ok (.invokespecial ic, 3)) (d9 : decode M.2.1 (pc + 9) = .ok (.athrow, 1)) : ZRow E X M mc ms P (zTX mc ms PX) pc (s_throw cls) := by
  obtain ⟨p, l, e, R, s, m, args, below, meth, c, Q⟩ := X
  obtain ⟨hE, hx, hb, hml, hr, hlk, hown, hts, hENV, hfr, hlo, hce, hsl, hnm, hQ, hT⟩ := h
  obtain ⟨hl, hQ9, htab⟩ := hX
  intro K hK L st σ n k w hS H locs ls hsz hP hV hL
  obtain ⟨hcs, hS⟩ := hS
  have hS0 := hS n (Nat.le_refl _)
  obtain ⟨hU, hN, ⟨sa, hstr⟩, hws⟩ := hET s s.heap hENV.2.1
  have hat : ∀ w ∈ zatL M.1.cls ik ic cls, w.before args s = true := fun w hw => vx_ot_at (State.WarmedH.refl s) rfl (hgood w hw) (hws w hw)
  subst hQ9
  unfold zcs at hcs
  refine vx_throwS (own := M.1.cls) (cls := cls) (text := text) (names := zup6) (sa := sa) (A := zAB E) hx hb hl hown hcls (by decide) (hat _ List.mem_cons_self) (hat _ (List.mem_cons_of_mem _ List.mem_cons_self)) hstr (fun w hw => hat _ (List.mem_cons_of_mem _ (List.mem_cons_of_mem _ hw))) hgood hU hN hV (hL.1.trans hml.symm) d0 d3 d4 d6 d9 (fun x hx => (htab x hx).elim) (by show 2 + 3 < R.frames; omega) (by show _ + (13 * (2 + 1) + 43) ≤ R.locals; omega) (by have := hS0.2.1; omega) (by have := hS0.2.2; omega) hlk (fun t hA hz hq => ⟨⟨σ, t.heap.size, (hS t.heap.size (by omega)).1, rfl, hP.grow hz hq⟩, ⟨Nat.le_trans hV.1 hz, fun q h1 h2 => by rw [hq q (Nat.lt_of_lt_of_le h1 hV.1)]; exact hV.2.1 q h1 h2⟩⟩) hV.2.2 hS0.2.1 hS0.2.2

/-- the throws of the class -/
def ZTH (E : ZEX) : Prop := ∀ q ∈ [(50, "the tape would be too long", 48, 52, "java/lang/IllegalStateException"), (61, "the tape has not so many bytes", 59, 63, "java/lang/IllegalArgumentException"), (148, "the pile is empty, or the merchant owns too many cards", 48, 52, "java/lang/IllegalStateException"), (159, "there is no such card among the discards", 48, 52, "java/lang/IllegalStateException"), (188, "there is no such thing to foresee", 186, 190, "java/lang/IndexOutOfBoundsException"), (220, "there is no such thing to tell", 186, 190, "java/lang/IndexOutOfBoundsException"), (222, "there is no such card", 186, 190, "java/lang/IndexOutOfBoundsException"), (224, "there is no such merchant", 186, 190, "java/lang/IndexOutOfBoundsException"), (226, "there is no such place", 186, 190, "java/lang/IndexOutOfBoundsException"), (228, "not so many rounds", 59, 63, "java/lang/IllegalArgumentException")], ZET E RX12 q.1 q.2.1 q.2.2.1 q.2.2.2.1 q.2.2.2.2
theorem zot_S : ∀ w ∈ zatL RX12 48 52 "java/lang/IllegalStateException", vx_ot w = true := by decide +kernel
theorem zot_A : ∀ w ∈ zatL RX12 59 63 "java/lang/IllegalArgumentException", vx_ot w = true := by decide +kernel
theorem zot_I : ∀ w ∈ zatL RX12 186 190 "java/lang/IndexOutOfBoundsException", vx_ot w = true := by decide +kernel
