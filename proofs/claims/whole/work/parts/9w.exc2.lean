/-! CATCHES: methods with a table of catches; a call of a method that may throw, under such a table; a static call of a method with such a table -/
abbrev ZHH : Type := List (Nat × Nat × Nat × Nat)
def zwsH (M : ZMY) (hh : ZHH) : List Cond := .codeWith M.1 M.2.1 M.2.2.1 M.2.2.2 hh :: zallW
def ZSpecH (E : ZEX) (M : ZMY) (hh : ZHH) (d mc ms : Nat) (av : List Value) (σ : ZHp) (n : Nat) (P : ZPT) : Prop := ∀ l : Launch, l.stackTraces = false → vx_Met l M.1 (zwsH M hh) (zrmD d mc ms) (zPg E av σ n) (zQg E P) (zXg E (fun _ _ _ => False)) mc ms (zAB E)
/-- a body with a table of catches, that lets nothing out -/
def zMH (X : ZMX) (hh : ZHH) : Prop :=
  match X with
  | (_, l, _, _, _, _, _, _, _, c, _) => l.stackTraces = false ∧ c.exceptionTable.toList = tableOf hh
set_option maxHeartbeats 4000000 in
theorem ZSpecH_of {E : ZEX} {M : ZMY} {hh : ZHH} {d mc ms : Nat} {av : List Value} {σ : ZHp} {n : Nat} {P : ZPT} (hE : ZEOK E) (hy : plainName M.1.cls = true) (hlen : (lg_sl av).length ≤ M.2.2.1) (L : ZLV) (hL : zent av M.2.2.1 = L)
    (h : ∀ X : ZMX, zMH X hh → ZCX E X M d mc ms P (fun _ _ _ _ _ => False) → ZG E X M 0 L [] σ n 0 0) : ZSpecH E M hh d mc ms av σ n P := by
  intro l hl
  obtain ⟨y, cc, nL, ret⟩ := M
  refine vx_ofWH (cc := cc) (maxL := nL) (ret := ret) (hh := hh) (ws' := zallW) hy rfl ?_
  intro p e s m args below meth c s₁ B hml hv
  obtain ⟨rfl, hsz, hP, hENV⟩ := hv
  have hts := atoms_spec (ws := zwsH (y, cc, nL, ret) hh) B.pre
  have htab := vx_table (x := y) B (hts _ List.mem_cons_self)
  have hown : s.vm.findClass y.cls = some m.cls := findClass_of_methodNamed B.named
  have hnm : meth.name = y.name := (name_of_methodNamed B.named B.method).1
  rw [lg_entry_eq]
  have hl9 := lv_entry av (n := nL) hlen
  subst hL
  refine h (p, l, e, (headSpec (zwsH (y, cc, nL, ret) hh) (zrmD d mc ms)).room, s, m, av.toArray, below, meth, c, _) ⟨hl, htab⟩ ⟨hE, B.exec, B.bytes, hml, B.returns, B.notSynchronized, hown, fun w hw => hts w (List.mem_cons_of_mem _ hw.all), hENV, Nat.le_refl _, Nat.le_refl _, Nat.le_refl _, Nat.le_refl _, hnm, fun H locs k w g hg => vx_ret hg, fun _ _ _ _ _ hf => hf.elim⟩ s.heap [] _ hsz hP va_S.rf ?_
  refine ZL.of hl9 (zent_len av nL hlen) (fun i v hv => ?_)
  have := zent_get av nL 0 i v hv
  rwa [Nat.zero_add] at this
/-- what is thrown at pc as cls is caught at t -/
def zCAT (X : ZMX) (pc : Nat) (cls : String) (t : Nat) : Prop :=
  match X with
  | (p, l, e, R, s, m, args, below, meth, c, Q) => ∀ (H : Heap) (locs : List Loc) (k w : Nat) (ls : Array Slot) (rest : List Value) (q : Addr) (ce : Cell), H[q]? = some ce → ce.vm = .none → s.vm.findClass cls = some ce.cls → W p l e R s m args below meth c H locs k w Q (F0 m t ls [.ref q]) → vx_W p l e R s m args below meth c H locs k w Q (F0 m pc ls rest) q
theorem zcat1 {E : ZEX} {X : ZMX} {M : ZMY} {d mc ms : Nat} {P : ZPT} {T : ZTT} (h : ZCX E X M d mc ms P T) {a b t ix : Nat} {hs : ZHH} (hX : zMH X ((a, b, t, ix) :: hs)) {pc : Nat} {cls : String} (h1 : a ≤ pc) (h2 : pc < b) (h0 : ix ≠ 0) (hlink : ZWd (.classLink M.1.cls ix cls)) (hcast : ∀ U H, zeF E U H → va_Nw (.castable cls cls) U) : zCAT X pc cls t := by
  obtain ⟨p, l, e, R, s, m, args, below, meth, c, Q⟩ := X
  obtain ⟨hE, hx, hb, hml, hr, hlk, hown, hts, hENV, hfr, hlo, hce, hsl, hnm, hQ, hT⟩ := h
  obtain ⟨-, htab⟩ := hX
  intro H locs k w ls rest q ce g1 g2 g3 kk
  exact vx_catch hown [] ⟨a, b, t, ix⟩ (tableOf hs) htab (fun z hz => absurd hz List.not_mem_nil) (by simp [covers, h1, h2]) h0 (hts _ hlink) ((hcast _ _ hENV.2.1).use rfl) g1 g2 g3 kk
theorem zcat2 {E : ZEX} {X : ZMX} {M : ZMY} {d mc ms : Nat} {P : ZPT} {T : ZTT} (h : ZCX E X M d mc ms P T) {a b t ix a2 b2 t2 ix2 : Nat} {hs : ZHH} (hX : zMH X ((a2, b2, t2, ix2) :: (a, b, t, ix) :: hs)) {pc : Nat} {cls cl2 : String} (h1 : a ≤ pc) (h2 : pc < b) (h0 : ix ≠ 0) (h02 : ix2 ≠ 0) (hlink : ZWd (.classLink M.1.cls ix cls)) (hcast : ∀ U H, zeF E U H → va_Nw (.castable cls cls) U) (hlink2 : ZWd (.classLink M.1.cls ix2 cl2)) (hno : ∀ U H, zeF E U H → va_Nc cls cl2 U) : zCAT X pc cls t := by
  obtain ⟨p, l, e, R, s, m, args, below, meth, c, Q⟩ := X
  obtain ⟨hE, hx, hb, hml, hr, hlk, hown, hts, hENV, hfr, hlo, hce, hsl, hnm, hQ, hT⟩ := h
  obtain ⟨-, htab⟩ := hX
  intro H locs k w ls rest q ce g1 g2 g3 kk
  refine vx_catch hown [⟨a2, b2, t2, ix2⟩] ⟨a, b, t, ix⟩ (tableOf hs) htab (fun z hz => ?_) (by simp [covers, h1, h2]) h0 (hts _ hlink) ((hcast _ _ hENV.2.1).use rfl) g1 g2 g3 kk
  obtain rfl := List.mem_singleton.mp hz
  exact Or.inr ⟨h02, cl2, hts _ hlink2, hno _ _ hENV.2.1⟩
def s_callVC (E : ZEX) (d mc ms ci : Nat) (Mc : ZMY) (na nx : Nat) (hd : List (String × Nat)) : ZStep := fun L st σ n k w K G R T => match st.drop na with
  | .ref a :: rest => zobj σ a ci ∧ zcs rest ≤ 8 ∧ (st.take na).length = na ∧ zcallT E d mc ms Mc (.ref a :: (st.take na).reverse) σ n k w (fun v σ' n' k' w' => G nx L (v.toList ++ rest) σ' n' k' w') (fun cls σ' n' k' w' => ∃ t, (cls, t) ∈ hd ∧ ∀ q, G t L [.ref q] σ' n' k' w')
  | _ => False
set_option maxHeartbeats 4000000 in
theorem r_callVC {E : ZEX} {X : ZMX} {M : ZMY} {d mc ms : Nat} {P : ZPT} {T : ZTT} (h : ZCX E X M d mc ms P T) (hl : X.2.1.stackTraces = false) {pc : Nat} {ix : Nat} (hd : decode M.2.1 pc = .ok (.invokevirtual ix, 3)) {ci : Nat} {C : String} {Tb : u_T} {N : Nat} (hC : ZCK ci C Tb N) {Mc : ZMY} (na : Nat) (hM : ZMC Mc na) (hin : ZWd (.instanceMethod Mc.1)) (hlk9 : ZWd (.methodLink M.1.cls ix Mc.1)) (hse : ZWd (.selects C Mc.1 Mc.1)) (hcl9 : Mc.1.cls = C) {hcs9 : List (String × Nat)} (hcat : ∀ q ∈ hcs9, zCAT X pc q.1 q.2) : ZRow E X M mc ms P T pc (s_callVC E d mc ms ci Mc na (pc + 3) hcs9) := by
  obtain ⟨p, l, e, R, s, m, args, below, meth, c, Q⟩ := X
  obtain ⟨hE, hx, hb, hml, hr, hlk, hown, hts, hENV, hfr, hlo, hce, hsl, hnm, hQ, hT⟩ := h
  intro K hK L st σ n k w hS H locs ls hsz hP hV hL
  unfold s_callVC at hS
  split at hS
  · rename_i a rest hdr
    obtain ⟨ho, hcs, hna, d', mc', ms', P', PX', hsp, hd', hmc', hms', hgo, hgx⟩ := hS
    have hst : st = ((st.take na).reverse).reverse ++ .ref a :: rest := by rw [List.reverse_reverse, ← hdr]; exact (List.take_append_drop na st).symm
    have htsA : ∀ w ∈ zallW, w.before args s = true := fun w hw => hts w (List.mem_filter.mp hw)
    have hl9 : ((st.take na).reverse).length = na := by rw [List.length_reverse]; exact hna
    unfold zcs at hcs
    have hRm := zRm (mL := Mc.2.2.1) hd' hfr hlo hM.2.2.2
    obtain ⟨fs, hg⟩ := zobj_at ho
    have hrc := va_recv hENV.1 (hP.one hg) hC.1 (q0 := 0) rfl
    have hini9 : ZWd (.initialized C) := by rw [← hcl9]; exact hM.2.1
    refine zgoT (vx_runV (As := (st.take na).reverse) (rest := rest) ⟨hx, hb, hml, hown, htsA⟩ (hsp l hl) (cwV na htsA (fun w hw => by simp only [wsV, List.mem_append, List.mem_cons, List.not_mem_nil, or_false] at hw; rcases hw with (rfl | rfl | rfl | rfl) | hw <;> first | exact ⟨hlk9.all, good_of_word hlk9.2⟩ | exact ⟨hin.all, good_of_word hin.2⟩ | exact ⟨hse.all, good_of_word hse.2⟩ | exact ⟨hini9.all, good_of_word hini9.2⟩ | exact zgood hM w hw) rfl rfl rfl ⟨hcl9, hM.2.2.1⟩ hRm) ⟨zFB hE, hrc, zPS hE hENV hV hsz hP⟩ rfl hl9 hL.1 hst (by show 2 * 0 + _ ≤ 8; omega) hd ⟨by omega, by omega⟩) hV (fun v σ' n' H1 locs1 hp1 hn1 hP1 hV1 => hgo v σ' n' hp1 H1 locs1 ls hn1 hP1 hV1 hL) (fun cls σ' n' H1 locs1 q ce hp1 hn1 hP1 hV1 h5 h6 h7 => ?_)
    obtain ⟨t, hmem, hgt⟩ := hgx cls σ' n' hp1
    exact hcat (cls, t) hmem H1 locs1 _ _ ls rest q ce h5 h6 h7 (hgt q H1 locs1 ls hn1 hP1 hV1 hL)
  · exact hS.elim
/-- a static call of a method with a table of catches -/
def zcallH (E : ZEX) (d mc ms : Nat) (Mc : ZMY) (hh : ZHH) (av : List Value) (σ : ZHp) (n k w : Nat) (Kn : Option Value → ZHp → Nat → Nat → Nat → Prop) : Prop :=
  ∃ (d' mc' ms' : Nat) (P' : ZPT), ZSpecH E Mc hh d' mc' ms' av σ n P' ∧ d' < d ∧ k + mc' ≤ mc ∧ w + ms' ≤ ms ∧ ∀ v σ' n', P' v σ' n' → Kn v σ' n' (k + mc') (w + ms')
theorem zcallH_q {E : ZEX} {d mc ms : Nat} {Mc : ZMY} {hh : ZHH} {av : List Value} {σ : ZHp} {n k w d' mc' ms' : Nat} {P' : ZPT} {Kn : Option Value → ZHp → Nat → Nat → Nat → Prop} (hs : ZSpecH E Mc hh d' mc' ms' av σ n P') (hk : ∀ v σ' n', P' v σ' n' → Kn v σ' n' (k + mc') (w + ms')) (h1 : d' < d := by omega) (h2 : k + mc' ≤ mc := by omega) (h3 : w + ms' ≤ ms := by omega) : zcallH E d mc ms Mc hh av σ n k w Kn := ⟨d', mc', ms', P', hs, h1, h2, h3, hk⟩
def ZMCH (Mc : ZMY) (hh : ZHH) (na : Nat) : Prop := ZWd (.codeWith Mc.1 Mc.2.1 Mc.2.2.1 Mc.2.2.2 hh) ∧ ZWd (.initialized Mc.1.cls) ∧ (Mc.1.cls ≠ "java/lang/invoke/MethodHandle" ∧ Mc.1.cls ≠ "java/lang/invoke/VarHandle" ∧ (parseMethodDescriptor Mc.1.desc).map (fun d => d.parameters.length) = some na) ∧ Mc.2.2.1 ≤ 45
theorem zgoodH {Mc : ZMY} {hh : ZHH} {na : Nat} (h : ZMCH Mc hh na) : GoodIn zallW (zwsH Mc hh) := fun w hw => by
  rcases List.mem_cons.mp hw with e | e
  · subst e
    exact ⟨h.1.all, good_of_word h.1.2⟩
  · exact ⟨e, good_of_word (List.mem_filter.mp e).2⟩
def s_callSH (E : ZEX) (d mc ms : Nat) (Mc : ZMY) (hh : ZHH) (na nx : Nat) : ZStep := fun L st σ n k w K G R T => zcs (st.drop na) ≤ 8 ∧ (st.take na).length = na ∧ zcallH E d mc ms Mc hh ((st.take na).reverse) σ n k w (fun v σ' n' k' w' => G nx L (v.toList ++ st.drop na) σ' n' k' w')
set_option maxHeartbeats 4000000 in
theorem r_callSH {E : ZEX} {X : ZMX} {M : ZMY} {d mc ms : Nat} {P : ZPT} {T : ZTT} (h : ZCX E X M d mc ms P T) (hl : X.2.1.stackTraces = false) {pc : Nat} {ix : Nat} (hd : decode M.2.1 pc = .ok (.invokestatic ix, 3)) {Mc : ZMY} {hh : ZHH} (na : Nat) (hM : ZMCH Mc hh na) (hstt : ZWd (.static Mc.1)) (hlk9 : ZWd (.methodLink M.1.cls ix Mc.1)) : ZRow E X M mc ms P T pc (s_callSH E d mc ms Mc hh na (pc + 3)) := by
  obtain ⟨p, l, e, R, s, m, args, below, meth, c, Q⟩ := X
  obtain ⟨hE, hx, hb, hml, hr, hlk, hown, hts, hENV, hfr, hlo, hce, hsl, hnm, hQ, hT⟩ := h
  intro K hK L st σ n k w hS H locs ls hsz hP hV hL
  unfold s_callSH at hS
  obtain ⟨hcs, hna, d', mc', ms', P', hsp, hd', hmc', hms', hgo⟩ := hS
  have hst : st = ((st.take na).reverse).reverse ++ st.drop na := by rw [List.reverse_reverse]; exact (List.take_append_drop na st).symm
  have htsA : ∀ w ∈ zallW, w.before args s = true := fun w hw => hts w (List.mem_filter.mp hw)
  have hl9 : ((st.take na).reverse).length = na := by rw [List.length_reverse]; exact hna
  unfold zcs at hcs
  have hRm := zRm (mL := Mc.2.2.1) hd' hfr hlo hM.2.2.2
  exact zgoT (vx_runSX (As := (st.take na).reverse) (rest := st.drop na) ⟨hx, hb, hml, hown, htsA⟩ (hsp l hl) (vx_cwSW na htsA (fun w hw => by simp only [va_wsS, List.mem_append, List.mem_cons, List.not_mem_nil, or_false] at hw; rcases hw with (rfl | rfl | rfl) | hw <;> first | exact ⟨hlk9.all, good_of_word hlk9.2⟩ | exact ⟨hstt.all, good_of_word hstt.2⟩ | exact ⟨hM.2.1.all, good_of_word hM.2.1.2⟩ | exact zgoodH hM w hw) rfl rfl rfl hM.2.2.1 hRm) ⟨zFB hE, zPS hE hENV hV hsz hP⟩ rfl hl9 hL.1 hst (by show 2 * 0 + _ ≤ 8; omega) hd ⟨by omega, by omega⟩) hV (fun v σ' n' H1 locs1 hp1 hn1 hP1 hV1 => hgo v σ' n' hp1 H1 locs1 ls hn1 hP1 hV1 hL) (fun cls σ' n' H1 locs1 q ce hp1 hn1 hP1 hV1 h5 h6 h7 => hp1.elim)
/-- what the catches of the law pass over -/
def ZNC (E : ZEX) : Prop := ∀ U H, zeF E U H → va_Nc "java/lang/IllegalStateException" "java/lang/IndexOutOfBoundsException" U ∧ va_Nc "java/lang/IllegalArgumentException" "java/lang/IndexOutOfBoundsException" U ∧ va_Nc "java/lang/IndexOutOfBoundsException" "java/lang/IllegalArgumentException" U ∧ va_Nw (.castable "java/lang/IllegalStateException" "java/lang/IllegalStateException") U ∧ va_Nw (.castable "java/lang/IllegalArgumentException" "java/lang/IllegalArgumentException") U ∧ va_Nw (.castable "java/lang/IndexOutOfBoundsException" "java/lang/IndexOutOfBoundsException") U
/-- the script -/
def ZSC (E : ZEX) (N : Nat) (f : Nat → Int32) : Prop := ∀ U H, zeF E U H → va_T .int (zeK E 300) N (fun j => .int (f j)) (zAB E) U H
def s_ialdQ (E : ZEX) (b N : Nat) (f : Nat → Int32) (nx : Nat) : ZStep := fun L st σ n k w K G R T => match st with
  | .int i :: .ref a :: st => a = zeK E b ∧ vp_in i N ∧ K nx L (.int (f i.toNatClampNeg) :: st) σ n k w
  | _ => False
theorem r_ialdQ {E : ZEX} {X : ZMX} {M : ZMY} {d mc ms : Nat} {P : ZPT} {T : ZTT} (h : ZCX E X M d mc ms P T) {pc : Nat} (hd : decode M.2.1 pc = .ok (.iaload, 1)) {b N : Nat} {f : Nat → Int32} (hT9 : ∀ U H, zeF E U H → va_T .int (zeK E b) N (fun j => .int (f j)) (zAB E) U H) : ZRow E X M mc ms P T pc (s_ialdQ E b N f (pc + 1)) := by
  obtain ⟨p, l, e, R, s, m, args, below, meth, c, Q⟩ := X
  obtain ⟨hE, hx, hb, hml, hr, hlk, hown, hts, hENV, hfr, hlo, hce, hsl, hnm, hQ, hT⟩ := h
  intro K hK L st σ n k w hS H locs ls hsz hP hV hL
  unfold s_ialdQ at hS
  split at hS
  · obtain ⟨rfl, hin, hS⟩ := hS
    exact va_ti hx hb (hT9 _ _ hENV.2.1) hV hin rfl hd (hK _ _ _ _ _ _ _ hS H locs ls hsz hP hV hL)
  · exact hS.elim
