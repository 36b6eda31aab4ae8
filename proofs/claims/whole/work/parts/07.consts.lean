theorem ZCX.ok {E : ZEX} {X : ZMX} {M : ZMY} {d mc ms : Nat} {P : ZPT} {T : ZTT} (h : ZCX E X M d mc ms P T) : ZEOK E := by
  obtain ⟨p, l, e, R, s, m, args, below, meth, c, Q⟩ := X
  exact h.1
theorem zx_sg {E : ZEX} (hE : ZEOK E) (j : Nat) (hj : j < 46) : ∀ U H, zeF E U H → va_Z RX8 (zsgN.getD j "") "LTarotMerchants$Sign;" (.ref (zeK E j)) (zAB E) U H := fun U H h => (hE.1 U H h).1 j hj
theorem zx_all {E : ZEX} (hE : ZEOK E) : ∀ U H, zeF E U H → va_Z RX8 "ALL" "[LTarotMerchants$Sign;" (.ref (zeK E 46)) (zAB E) U H := fun U H h => (hE.1 U H h).2.1
theorem zx_sw {E : ZEX} (hE : ZEOK E) : ∀ U H, zeF E U H → va_Z RX0 "$SwitchMap$TarotMerchants$Sign" "[I" (.ref (zeK E 47)) (zAB E) U H := fun U H h => (hE.1 U H h).2.2.1
theorem zx_words {E : ZEX} (hE : ZEOK E) : ∀ U H, zeF E U H → va_Z RX15 "WORDS" "[Ljava/lang/String;" (.ref (zeK E 48)) (zAB E) U H := fun U H h => (hE.1 U H h).2.2.2.1
theorem zx_sgO {E : ZEX} (hE : ZEOK E) : ∀ j, j < 46 → ∀ U H, zeF E U H → va_O RX8 (zeK E j) (zAB E) U H := fun j hj U H h => (hE.1 U H h).2.2.2.2.1 j hj
theorem zx_sgO2 {E : ZEX} (hE : ZEOK E) : ∀ j, 0 ≤ j → j < 46 → ∀ U H, zeF E U H → va_O RX8 (zeK E j) (zAB E) U H := fun j _ hj U H h => (hE.1 U H h).2.2.2.2.1 j hj
theorem zx_ord {E : ZEX} (hE : ZEOK E) : ∀ j, j < 46 → ∀ U H, zeF E U H → va_OF "java/lang/Enum" "ordinal" "I" (.int (nI j)) (zeK E j) (zAB E) U H := fun j hj U H h => (hE.1 U H h).2.2.2.2.2.1 j hj
theorem zx_text {E : ZEX} (hE : ZEOK E) : ∀ j, j < 46 → ∀ U H, zeF E U H → va_OF RX8 "text" "Ljava/lang/String;" (.ref (zeK E (50 + j))) (zeK E j) (zAB E) U H := fun j hj U H h => (hE.1 U H h).2.2.2.2.2.2.1 j hj
theorem zx_allT {E : ZEX} (hE : ZEOK E) : ∀ U H, zeF E U H → va_T (.object RX8) (zeK E 46) 46 (fun j => .ref (zeK E j)) (zAB E) U H := fun U H h => (hE.1 U H h).2.2.2.2.2.2.2.1
theorem zx_swT {E : ZEX} (hE : ZEOK E) : ∀ U H, zeF E U H → va_T .int (zeK E 47) 46 (fun j => .int (zswm.getD j 0)) (zAB E) U H := fun U H h => (hE.1 U H h).2.2.2.2.2.2.2.2.1
theorem zx_wordsT {E : ZEX} (hE : ZEOK E) : ∀ U H, zeF E U H → va_T (.object "java/lang/String") (zeK E 48) 26 (fun j => .ref (zeK E (96 + j))) (zAB E) U H := fun U H h => (hE.1 U H h).2.2.2.2.2.2.2.2.2.1
theorem zx_S {E : ZEX} (hE : ZEOK E) : ∀ U H, zeF E U H → (∀ i : Nat, i < 73 → va_O "java/lang/String" (zeK E (50 + i)) (zAB E) U H ∧ va_OF "java/lang/String" "coder" "B" (.int 0) (zeK E (50 + i)) (zAB E) U H ∧ va_OF "java/lang/String" "value" "[B" (.ref (zeK E (200 + i))) (zeK E (50 + i)) (zAB E) U H ∧ va_T .byte (zeK E (200 + i)) (zlen.getD i 0) (fun j => .int ((zbyt.getD i []).getD j 0)) (zAB E) U H) ∧ True := fun U H h => ⟨(hE.1 U H h).2.2.2.2.2.2.2.2.2.2.1, trivial⟩
theorem zx_sgs {E : ZEX} (hE : ZEOK E) : ∀ U H, zeF E U H → vk_R RX15 77 "()[];,+-*/<>=" (zeK E 122) U := fun U H h => (hE.1 U H h).2.2.2.2.2.2.2.2.2.2.2.1
theorem zx_aoS {E : ZEX} (hE : ZEOK E) : ∀ U H, zeF E U H → va_AO RX8 U := fun U H h => (hE.1 U H h).2.2.2.2.2.2.2.2.2.2.2.2.1
theorem zx_aoT {E : ZEX} (hE : ZEOK E) : ∀ U H, zeF E U H → va_AO RX11 U := fun U H h => (hE.1 U H h).2.2.2.2.2.2.2.2.2.2.2.2.2.1
theorem zx_aoA {E : ZEX} (hE : ZEOK E) : ∀ U H, zeF E U H → (Cond.arrayOver (.array .int)).before #[] U = true := fun U H h => (hE.1 U H h).2.2.2.2.2.2.2.2.2.2.2.2.2.2.1
theorem zx_cs {E : ZEX} (hE : ZEOK E) : ∀ U H, zeF E U H → va_Z "java/lang/String" "COMPACT_STRINGS" "Z" (.int 1) (zAB E) U H := fun U H h => (hE.1 U H h).2.2.2.2.2.2.2.2.2.2.2.2.2.2.2.1
theorem zx_inj {E : ZEX} (hE : ZEOK E) {i j : Nat} (hi : i < 46) (hj : j < 46) : zeK E i = zeK E j ↔ i = j := ⟨hE.2.1 i j hi hj, fun e => by rw [e]⟩
def s_ialdK (E : ZEX) (nx : Nat) : ZStep := fun L st σ n k w K G R T => match st with
  | .int i :: .ref a :: st => a = zeK E 47 ∧ vp_in i 46 ∧ K nx L (.int (zswm.getD i.toNatClampNeg 0) :: st) σ n k w
  | _ => False
theorem r_ialdK {E : ZEX} {X : ZMX} {M : ZMY} {d mc ms : Nat} {P : ZPT} {T : ZTT} (h : ZCX E X M d mc ms P T) {pc : Nat} (hd : decode M.2.1 pc = .ok (.iaload, 1)) : ZRow E X M mc ms P T pc (s_ialdK E (pc + 1)) := by
  obtain ⟨p, l, e, R, s, m, args, below, meth, c, Q⟩ := X
  obtain ⟨hE, hx, hb, hml, hr, hlk, hown, hts, hENV, hfr, hlo, hce, hsl, hnm, hQ, hT⟩ := h
  intro K hK L st σ n k w hS H locs ls hsz hP hV hL
  unfold s_ialdK at hS
  split at hS
  · obtain ⟨rfl, hin, hS⟩ := hS
    exact va_ti hx hb (zx_swT hE _ _ hENV.2.1) hV hin rfl hd (hK _ _ _ _ _ _ _ hS H locs ls hsz hP hV hL)
  · exact hS.elim
def s_aaldK (E : ZEX) (b N : Nat) (f : Nat → Nat) (nx : Nat) : ZStep := fun L st σ n k w K G R T => match st with
  | .int i :: .ref a :: st => a = zeK E b ∧ vp_in i N ∧ K nx L (.ref (zeK E (f i.toNatClampNeg)) :: st) σ n k w
  | _ => False
theorem r_aaldK {E : ZEX} {X : ZMX} {M : ZMY} {d mc ms : Nat} {P : ZPT} {T : ZTT} (h : ZCX E X M d mc ms P T) {pc : Nat} (hd : decode M.2.1 pc = .ok (.aaload, 1)) {b N : Nat} {f : Nat → Nat} {C : String} (hT9 : ∀ U H, zeF E U H → va_T (.object C) (zeK E b) N (fun j => .ref (zeK E (f j))) (zAB E) U H) : ZRow E X M mc ms P T pc (s_aaldK E b N f (pc + 1)) := by
  obtain ⟨p, l, e, R, s, m, args, below, meth, c, Q⟩ := X
  obtain ⟨hE, hx, hb, hml, hr, hlk, hown, hts, hENV, hfr, hlo, hce, hsl, hnm, hQ, hT⟩ := h
  intro K hK L st σ n k w hS H locs ls hsz hP hV hL
  unfold s_aaldK at hS
  split at hS
  · obtain ⟨rfl, hin, hS⟩ := hS
    exact vb_tq hx hb (hT9 _ _ hENV.2.1) hV hin rfl hd (hK _ _ _ _ _ _ _ hS H locs ls hsz hP hV hL)
  · exact hS.elim
def s_alenK (E : ZEX) (b N nx : Nat) : ZStep := fun L st σ n k w K G R T => match st with
  | .ref a :: st => a = zeK E b ∧ K nx L (.int (nI N) :: st) σ n k w
  | _ => False
theorem r_alenK {E : ZEX} {X : ZMX} {M : ZMY} {d mc ms : Nat} {P : ZPT} {T : ZTT} (h : ZCX E X M d mc ms P T) {pc : Nat} (hd : decode M.2.1 pc = .ok (.arraylength, 1)) {b N : Nat} {ty : FieldType} {f : Nat → Value} (hT9 : ∀ U H, zeF E U H → va_T ty (zeK E b) N f (zAB E) U H) : ZRow E X M mc ms P T pc (s_alenK E b N (pc + 1)) := by
  obtain ⟨p, l, e, R, s, m, args, below, meth, c, Q⟩ := X
  obtain ⟨hE, hx, hb, hml, hr, hlk, hown, hts, hENV, hfr, hlo, hce, hsl, hnm, hQ, hT⟩ := h
  intro K hK L st σ n k w hS H locs ls hsz hP hV hL
  unfold s_alenK at hS
  split at hS
  · obtain ⟨rfl, hS⟩ := hS
    exact va_tlen hx hb (hT9 _ _ hENV.2.1) hV rfl hd (hK _ _ _ _ _ _ _ hS H locs ls hsz hP hV hL)
  · exact hS.elim
def s_getfK (E : ZEX) (lo hi : Nat) (v : Nat → Value) (nx : Nat) : ZStep := fun L st σ n k w K G R T => match st with
  | .ref a :: st => ∃ j, lo ≤ j ∧ j < hi ∧ a = zeK E j ∧ G nx L (v j :: st) σ n k w
  | _ => False
theorem r_getfK {E : ZEX} {X : ZMX} {M : ZMY} {d mc ms : Nat} {P : ZPT} {T : ZTT} (h : ZCX E X M d mc ms P T) {pc : Nat} {ix : Nat} (hd : decode M.2.1 pc = .ok (.getfield ix, 3)) {lo hi : Nat} {v : Nat → Value} {o9 n9 d9 : String} (hF : ∀ j, lo ≤ j → j < hi → ∀ U H, zeF E U H → va_OF o9 n9 d9 (v j) (zeK E j) (zAB E) U H) (hw : ZWd (.fieldLink M.1.cls ix o9 n9 d9)) : ZRow E X M mc ms P T pc (s_getfK E lo hi v (pc + 3)) := by
  obtain ⟨p, l, e, R, s, m, args, below, meth, c, Q⟩ := X
  obtain ⟨hE, hx, hb, hml, hr, hlk, hown, hts, hENV, hfr, hlo, hce, hsl, hnm, hQ, hT⟩ := h
  intro K hK L st σ n k w hS H locs ls hsz hP hV hL
  unfold s_getfK at hS
  split at hS
  · obtain ⟨j, hj1, hj2, rfl, hS⟩ := hS
    exact vk_getf hx hb (hF j hj1 hj2 _ _ hENV.2.1) hV hown (hts _ hw) (fun _ h9 => h9) hd (hS H locs ls hsz hP hV hL)
  · exact hS.elim
theorem r_callU {E : ZEX} {X : ZMX} {M : ZMY} {d mc ms : Nat} {P : ZPT} {T : ZTT} (h : ZCX E X M d mc ms P T) {pc : Nat} {ix : Nat} (hd : decode M.2.1 pc = .ok (.invokevirtual ix, 3)) {lo hi : Nat} {C : String} (hO : ∀ j, lo ≤ j → j < hi → ∀ U H, zeF E U H → va_O C (zeK E j) (zAB E) U H) {Mc : ZMY} (na : Nat) (hM : ZMC Mc na) (hin : ZWd (.instanceMethod Mc.1)) (x9 : MethodName) (hlk9 : ZWd (.methodLink M.1.cls ix x9)) (hsm : ZWd (.sameMethod x9.cls Mc.1.cls x9.name x9.desc)) (hse : ZWd (.selects C x9 Mc.1)) (hxy : Mc.1 = ⟨Mc.1.cls, x9.name, x9.desc⟩) : ZRow E X M mc ms P T pc (s_callK E d mc ms lo hi Mc na (pc + 3)) := by
  obtain ⟨p, l, e, R, s, m, args, below, meth, c, Q⟩ := X
  obtain ⟨hE, hx, hb, hml, hr, hlk, hown, hts, hENV, hfr, hlo, hce, hsl, hnm, hQ, hT⟩ := h
  intro K hK L st σ n k w hS H locs ls hsz hP hV hL
  unfold s_callK at hS
  split at hS
  · rename_i a rest hdr
    obtain ⟨ho, hcs, hna, d', mc', ms', P', hsp, hd', hmc', hms', hgo⟩ := hS
    have hst : st = ((st.take na).reverse).reverse ++ .ref a :: rest := by rw [List.reverse_reverse, ← hdr]; exact (List.take_append_drop na st).symm
    have htsA : ∀ w ∈ zallW, w.before args s = true := fun w hw => hts w (List.mem_filter.mp hw)
    have hl9 : ((st.take na).reverse).length = na := by rw [List.length_reverse]; exact hna
    unfold zcs at hcs
    have hRm := zRm (mL := Mc.2.2.1) hd' hfr hlo hM.2.2.2
    obtain ⟨j9, hj1, hj2, hv9⟩ := ho
    have hrc : ∃ cellB : Cell, H[a]? = some cellB ∧ cellB.vm.isStatics = false ∧ s.vm.findClass C = some cellB.cls := by
      rw [hv9]
      obtain ⟨cellV, g0, g3, g2, g4⟩ := hO j9 hj1 hj2 _ _ hENV.2.1
      exact ⟨cellV, by rw [hV.2.1 _ (Array.getElem?_eq_some_iff.mp g0).1 g4]; exact g0, g3, g2⟩
    have hdsc : x9.desc = Mc.1.desc := by rw [hxy]
    refine zgo (va_runU (As := (st.take na).reverse) (rest := rest) ⟨hx, hb, hml, hown, htsA⟩ (hsp l) (va_cwU na htsA (fun w hw => by simp only [va_wsU, List.mem_append, List.mem_cons, List.not_mem_nil, or_false] at hw; rcases hw with (rfl | rfl | rfl | rfl | rfl) | hw <;> first | exact ⟨hlk9.all, good_of_word hlk9.2⟩ | exact ⟨hsm.all, good_of_word hsm.2⟩ | exact ⟨hse.all, good_of_word hse.2⟩ | exact ⟨hin.all, good_of_word hin.2⟩ | exact ⟨hM.2.1.all, good_of_word hM.2.1.2⟩ | exact zgood hM w hw) rfl rfl rfl hxy ⟨hM.2.2.1.1, hM.2.2.1.2.1, by rw [hdsc]; exact hM.2.2.1.2.2⟩ hRm) ⟨zFB hE, hrc, zPS hE hENV hV hsz hP⟩ rfl hl9 hL.1 hst (by show 2 * 0 + _ ≤ 8; omega) hd ⟨by omega, by omega⟩) hV (fun v σ' n' H1 locs1 hp1 hn1 hP1 hV1 => hgo v σ' n' hp1 H1 locs1 ls hn1 hP1 hV1 hL)
  · exact hS.elim
/-- the class of int[][]'s components is that of int[] -/
theorem zcmp {E : ZEX} {s : State} {H : Heap} {comp : ClassId} {kA : Class} (hE : ZEOK E) (hF : zeF E s H) (h5 : s.vm.findClass ("[" ++ (FieldType.array .int).toString) = some (zeA E 5)) (k1 : s.vm.classes[zeA E 5]? = some kA) (k2 : kA.kind = .array comp (.array .int)) (h0 : s.vm.findClass ("[" ++ (FieldType.int).toString) = some (zeA E 0)) : comp = zeA E 0 := by
  obtain ⟨comp2, c, k, q1, q2, q3, q4, q5⟩ := arrayOverA_spec (args := #[]) (first := s) (s := s) (o := none) (idx := []) (t := .int) (zx_aoA hE _ _ hF)
  have e1 : c = zeA E 5 := Option.some.inj (q5.symm.trans h5)
  subst e1
  have e2 : k = kA := Option.some.inj (q3.symm.trans k1)
  subst e2
  have e3 : comp2 = comp := by rw [q4] at k2; cases k2; rfl
  rw [← e3]
  exact Option.some.inj (q1.symm.trans h0)
theorem zasgA {s : State} {c cm : ClassId} {k : Class} (hk : s.vm.classes[c]? = some k) (hkk : k.kind = .array cm .int) : s.vm.assignable c c = true := by
  show s.vm.assignableAux (255 + 1) c c = true
  rw [Vm.assignableAux]
  simp
def s_aastoreA (E : ZEX) (nx : Nat) : ZStep := fun L st σ n k w K G R T => match st with
  | .ref v :: .int i :: .ref a :: st => match σ a with
    | some (.inl (c0, (m0, .inr (.inr (.inr (.inr f)))))) => c0 = zeA E 5 ∧ vp_in i m0 ∧ zint E σ v ∧ K nx L st (zup σ a (.inl (c0, (m0, .inr (.inr (.inr (.inr (va_up f i.toNatClampNeg (some v))))))))) n k w
    | _ => False
  | _ => False
theorem r_aastoreA {E : ZEX} {X : ZMX} {M : ZMY} {d mc ms : Nat} {P : ZPT} {T : ZTT} (h : ZCX E X M d mc ms P T) {pc : Nat} (hd : decode M.2.1 pc = .ok (.aastore, 1))  : ZRow E X M mc ms P T pc (s_aastoreA E (pc + 1)) := by
  obtain ⟨p, l, e, R, s, m, args, below, meth, c, Q⟩ := X
  obtain ⟨hE, hx, hb, hml, hr, hlk, hown, hts, hENV, hfr, hlo, hce, hsl, hnm, hQ, hT⟩ := h
  intro K hK L st σ n k w hS H locs ls hsz hP hV hL
  unfold s_aastoreA at hS
  split at hS
  · split at hS
    · rename_i v i a st9 _ c0 m0 f hg
      obtain ⟨rfl, hin, hcond, hS⟩ := hS
      have hlt : i.toNatClampNeg < m0 := Nat.not_le.mp fun q => hin (Or.inr q)
      have h0 : ¬ i < 0 := fun q => hin (Or.inl q)
      obtain ⟨m9, f9, hv⟩ := zint_at hcond
      have g1 : H[v]? = some (vp_cell (zeA E 0) (m9, .inl f9)) := hP.one hv 0 _ rfl
      have g3 : (vp_cell (zeA E 0) (m9, .inl f9)).vm.isStatics = false := rfl
      obtain ⟨-, kA, k1, comp, k2⟩ := (hENV.1.2 5 _ rfl).1 m0 (fun j => va_rf (f j))
      obtain ⟨-, kE9, hkE9, cm9, hkk9⟩ := (hENV.1.2 0 _ rfl).1 m9 (fun j => .int (f9 j))
      have hcompI : comp = zeA E 0 := zcmp hE hENV.2.1 (hENV.1.2 5 _ rfl).2 k1 k2 (hENV.1.2 0 _ rfl).2
      subst hcompI
      have hkE : s.vm.classes[zeA E 0]? = some kE9 := hkE9
      have hkC : s.vm.classes[(vp_cell (zeA E 0) (m9, .inl f9)).cls]? = some kE9 := hkE9
      have hasg : s.vm.assignable (vp_cell (zeA E 0) (m9, .inl f9)).cls (zeA E 0) = true := zasgA hkE9 hkk9
      refine W.aast hx hb (hP.one hg 0 _ rfl) (fun q h => by cases h) (fun h => by cases h) k1 k2 rfl hkE ⟨h0, by show _ < (arrV _ _ _).slots.size; rw [arrV_size]; exact hlt⟩ g1 (fun q h => by rw [h] at g3; cases g3) hkC hasg rfl rfl hd fun H1 e z oq => ?_
      refine hK _ _ _ _ _ _ _ hS H1 _ ls (z.trans hsz) (hP.put hg ?_ oq) (hV.put z oq (hP a _ hg).1) hL
      show H1[a]? = some (vp_cell _ _)
      rw [e]
      rw [vp_cell_q, vp_cell_q, arrV_store]
      congr 2
      funext q
      by_cases hq : q = i.toNatClampNeg
      · subst hq
        simp [updV, va_up, va_rf]
      · simp [updV, va_up, hq]
    · exact hS.elim
  · exact hS.elim
