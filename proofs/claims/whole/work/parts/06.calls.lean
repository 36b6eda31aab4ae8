def s_iaload (E : ZEX) (nx : Nat) : ZStep := fun L st σ n k w K G R T => match st with
  | .int i :: .ref a :: st => match σ a with
    | some (.inl (c0, (m0, .inl f))) => c0 = zeA E 0 ∧ vp_in i m0 ∧ K nx L (.int (f i.toNatClampNeg) :: st) σ n k w
    | _ => False
  | _ => False
theorem r_iaload {E : ZEX} {X : ZMX} {M : ZMY} {d mc ms : Nat} {P : ZPT} {T : ZTT} (h : ZCX E X M d mc ms P T) {pc : Nat} (hd : decode M.2.1 pc = .ok (.iaload, 1)) : ZRow E X M mc ms P T pc (s_iaload E (pc + 1)) := by
  obtain ⟨p, l, e, R, s, m, args, below, meth, c, Q⟩ := X
  obtain ⟨hE, hx, hb, hml, hr, hlk, hown, hts, hENV, hfr, hlo, hce, hsl, hnm, hQ, hT⟩ := h
  intro K hK L st σ n k w hS H locs ls hsz hP hV hL
  unfold s_iaload at hS
  split at hS
  · split at hS
    · rename_i hg
      obtain ⟨rfl, hin, hS⟩ := hS
      exact va_iald hx hb hENV.1 (hP.one hg) 0 0 rfl rfl hin hd (hK _ _ _ _ _ _ _ hS H locs ls hsz hP hV hL)
    · exact hS.elim
  · exact hS.elim
def s_baload (E : ZEX) (nx : Nat) : ZStep := fun L st σ n k w K G R T => match st with
  | .int i :: .ref a :: st => match σ a with
    | some (.inl (c0, (m0, .inl f))) => c0 = zeA E 1 ∧ vp_in i m0 ∧ K nx L (.int (f i.toNatClampNeg) :: st) σ n k w
    | _ => False
  | _ => False
theorem r_baload {E : ZEX} {X : ZMX} {M : ZMY} {d mc ms : Nat} {P : ZPT} {T : ZTT} (h : ZCX E X M d mc ms P T) {pc : Nat} (hd : decode M.2.1 pc = .ok (.baload, 1)) : ZRow E X M mc ms P T pc (s_baload E (pc + 1)) := by
  obtain ⟨p, l, e, R, s, m, args, below, meth, c, Q⟩ := X
  obtain ⟨hE, hx, hb, hml, hr, hlk, hown, hts, hENV, hfr, hlo, hce, hsl, hnm, hQ, hT⟩ := h
  intro K hK L st σ n k w hS H locs ls hsz hP hV hL
  unfold s_baload at hS
  split at hS
  · split at hS
    · rename_i hg
      obtain ⟨rfl, hin, hS⟩ := hS
      exact va_bald hx hb hENV.1 (hP.one hg) 0 1 rfl rfl hin hd (hK _ _ _ _ _ _ _ hS H locs ls hsz hP hV hL)
    · exact hS.elim
  · exact hS.elim
def s_laload (E : ZEX) (nx : Nat) : ZStep := fun L st σ n k w K G R T => match st with
  | .int i :: .ref a :: st => match σ a with
    | some (.inl (c0, (m0, .inr (.inl f)))) => c0 = zeA E 2 ∧ vp_in i m0 ∧ K nx L (.long (f i.toNatClampNeg) :: st) σ n k w
    | _ => False
  | _ => False
theorem r_laload {E : ZEX} {X : ZMX} {M : ZMY} {d mc ms : Nat} {P : ZPT} {T : ZTT} (h : ZCX E X M d mc ms P T) {pc : Nat} (hd : decode M.2.1 pc = .ok (.laload, 1)) : ZRow E X M mc ms P T pc (s_laload E (pc + 1)) := by
  obtain ⟨p, l, e, R, s, m, args, below, meth, c, Q⟩ := X
  obtain ⟨hE, hx, hb, hml, hr, hlk, hown, hts, hENV, hfr, hlo, hce, hsl, hnm, hQ, hT⟩ := h
  intro K hK L st σ n k w hS H locs ls hsz hP hV hL
  unfold s_laload at hS
  split at hS
  · split at hS
    · rename_i hg
      obtain ⟨rfl, hin, hS⟩ := hS
      exact va_lald hx hb hENV.1 (hP.one hg) 0 2 rfl rfl hin hd (hK _ _ _ _ _ _ _ hS H locs ls hsz hP hV hL)
    · exact hS.elim
  · exact hS.elim
def s_aaload (E : ZEX) (nx : Nat) : ZStep := fun L st σ n k w K G R T => match st with
  | .int i :: .ref a :: st => match σ a with
    | some (.inl (c0, (m0, .inr (.inr (.inr (.inr f)))))) => (c0 = zeA E 3 ∨ c0 = zeA E 4 ∨ c0 = zeA E 5) ∧ vp_in i m0 ∧ K nx L (va_rf (f i.toNatClampNeg) :: st) σ n k w
    | _ => False
  | _ => False
theorem r_aaload {E : ZEX} {X : ZMX} {M : ZMY} {d mc ms : Nat} {P : ZPT} {T : ZTT} (h : ZCX E X M d mc ms P T) {pc : Nat} (hd : decode M.2.1 pc = .ok (.aaload, 1)) : ZRow E X M mc ms P T pc (s_aaload E (pc + 1)) := by
  obtain ⟨p, l, e, R, s, m, args, below, meth, c, Q⟩ := X
  obtain ⟨hE, hx, hb, hml, hr, hlk, hown, hts, hENV, hfr, hlo, hce, hsl, hnm, hQ, hT⟩ := h
  intro K hK L st σ n k w hS H locs ls hsz hP hV hL
  unfold s_aaload at hS
  split at hS
  · split at hS
    · rename_i i a st9 _ c0 m0 f hg
      obtain ⟨h3, hin, hS⟩ := hS
      rcases h3 with rfl | rfl | rfl
      · exact va_aldq hx hb hENV.1 (hP.one hg) 0 3 rfl rfl hin hd (hK _ _ _ _ _ _ _ hS H locs ls hsz hP hV hL)
      · exact va_aldq hx hb hENV.1 (hP.one hg) 0 4 rfl rfl hin hd (hK _ _ _ _ _ _ _ hS H locs ls hsz hP hV hL)
      · have hlt : i.toNatClampNeg < m0 := Nat.not_le.mp fun q => hin (Or.inr q)
        exact W.aald (v := va_rf (f i.toNatClampNeg)) (ty := .array .int) hx hb (hP.one hg 0 _ rfl) ((hENV.1.2 5 _ rfl).1 m0 (fun j => va_rf (f j))) rfl (fun q => by cases q) (by show ¬ (i < 0 ∨ (arrV _ _ _).slots.size ≤ _); rw [arrV_size]; exact hin) (by show (arrV _ _ _).slots[_]? = _; rw [arrV_read _ _ hlt]) rfl rfl hd (hK _ _ _ _ _ _ _ hS H locs ls hsz hP hV hL)
    · exact hS.elim
  · exact hS.elim
def s_alen (E : ZEX) (nx : Nat) : ZStep := fun L st σ n k w K G R T => match st with
  | .ref a :: st => match σ a with
    | some (.inl (c0, x)) => (c0 = zeA E 0 ∨ c0 = zeA E 1 ∨ c0 = zeA E 2 ∨ c0 = zeA E 3 ∨ c0 = zeA E 4 ∨ c0 = zeA E 5) ∧ K nx L (.int (nI x.1) :: st) σ n k w
    | _ => False
  | _ => False
theorem r_alen {E : ZEX} {X : ZMX} {M : ZMY} {d mc ms : Nat} {P : ZPT} {T : ZTT} (h : ZCX E X M d mc ms P T) {pc : Nat} (hd : decode M.2.1 pc = .ok (.arraylength, 1)) : ZRow E X M mc ms P T pc (s_alen E (pc + 1)) := by
  obtain ⟨p, l, e, R, s, m, args, below, meth, c, Q⟩ := X
  obtain ⟨hE, hx, hb, hml, hr, hlk, hown, hts, hENV, hfr, hlo, hce, hsl, hnm, hQ, hT⟩ := h
  intro K hK L st σ n k w hS H locs ls hsz hP hV hL
  unfold s_alen at hS
  split at hS
  · split at hS
    · rename_i hg
      obtain ⟨h3, hS⟩ := hS
      rcases h3 with rfl | rfl | rfl | rfl | rfl | rfl
      · exact va_alen hx hb hENV.1 (hP.one hg) 0 0 rfl rfl rfl hd (hK _ _ _ _ _ _ _ hS H locs ls hsz hP hV hL)
      · exact va_alen hx hb hENV.1 (hP.one hg) 0 1 rfl rfl rfl hd (hK _ _ _ _ _ _ _ hS H locs ls hsz hP hV hL)
      · exact va_alen hx hb hENV.1 (hP.one hg) 0 2 rfl rfl rfl hd (hK _ _ _ _ _ _ _ hS H locs ls hsz hP hV hL)
      · exact va_alen hx hb hENV.1 (hP.one hg) 0 3 rfl rfl rfl hd (hK _ _ _ _ _ _ _ hS H locs ls hsz hP hV hL)
      · exact va_alen hx hb hENV.1 (hP.one hg) 0 4 rfl rfl rfl hd (hK _ _ _ _ _ _ _ hS H locs ls hsz hP hV hL)
      · exact va_alen hx hb hENV.1 (hP.one hg) 0 5 rfl rfl rfl hd (hK _ _ _ _ _ _ _ hS H locs ls hsz hP hV hL)
    · exact hS.elim
  · exact hS.elim
def s_iastore (E : ZEX) (nx : Nat) : ZStep := fun L st σ n k w K G R T => match st with
  | .int x :: .int i :: .ref a :: st => match σ a with
    | some (.inl (c0, (m0, .inl f))) => c0 = zeA E 0 ∧ vp_in i m0 ∧ K nx L st (zup σ a (.inl (c0, (m0, .inl (upd f i.toNatClampNeg x))))) n k w
    | _ => False
  | _ => False
theorem r_iastore {E : ZEX} {X : ZMX} {M : ZMY} {d mc ms : Nat} {P : ZPT} {T : ZTT} (h : ZCX E X M d mc ms P T) {pc : Nat} (hd : decode M.2.1 pc = .ok (.iastore, 1)) : ZRow E X M mc ms P T pc (s_iastore E (pc + 1)) := by
  obtain ⟨p, l, e, R, s, m, args, below, meth, c, Q⟩ := X
  obtain ⟨hE, hx, hb, hml, hr, hlk, hown, hts, hENV, hfr, hlo, hce, hsl, hnm, hQ, hT⟩ := h
  intro K hK L st σ n k w hS H locs ls hsz hP hV hL
  unfold s_iastore at hS
  split at hS
  · split at hS
    · rename_i x i a st9 _ c0 m0 f hg
      obtain ⟨rfl, hin, hS⟩ := hS
      refine W.iast hx hb (hP.one hg 0 _ rfl) ((hENV.1.2 0 _ rfl).1 m0 (fun j => .int (f j))) (fun q => by cases q) (by show ¬ (i < 0 ∨ (arrV _ _ _).slots.size ≤ _); rw [arrV_size]; exact hin) rfl rfl hd fun H1 e z oq => ?_
      refine hK _ _ _ _ _ _ _ hS H1 _ ls (z.trans hsz) (hP.put hg ?_ oq) (hV.put z oq (hP a _ hg).1) hL
      show H1[a]? = some (vp_cell _ _)
      rw [e]
      rw [vp_cell_i, vp_cell_i, arrV_store]
      congr 2
      funext q
      by_cases hq : q = i.toNatClampNeg
      · subst hq
        simp [updV, upd]
      · simp [updV, upd, hq]
    · exact hS.elim
  · exact hS.elim
def s_lastore (E : ZEX) (nx : Nat) : ZStep := fun L st σ n k w K G R T => match st with
  | .long x :: .int i :: .ref a :: st => match σ a with
    | some (.inl (c0, (m0, .inr (.inl f)))) => c0 = zeA E 2 ∧ vp_in i m0 ∧ K nx L st (zup σ a (.inl (c0, (m0, .inr (.inl (vp_updL f i.toNatClampNeg x)))))) n k w
    | _ => False
  | _ => False
theorem r_lastore {E : ZEX} {X : ZMX} {M : ZMY} {d mc ms : Nat} {P : ZPT} {T : ZTT} (h : ZCX E X M d mc ms P T) {pc : Nat} (hd : decode M.2.1 pc = .ok (.lastore, 1)) : ZRow E X M mc ms P T pc (s_lastore E (pc + 1)) := by
  obtain ⟨p, l, e, R, s, m, args, below, meth, c, Q⟩ := X
  obtain ⟨hE, hx, hb, hml, hr, hlk, hown, hts, hENV, hfr, hlo, hce, hsl, hnm, hQ, hT⟩ := h
  intro K hK L st σ n k w hS H locs ls hsz hP hV hL
  unfold s_lastore at hS
  split at hS
  · split at hS
    · rename_i x i a st9 _ c0 m0 f hg
      obtain ⟨rfl, hin, hS⟩ := hS
      refine W.last hx hb (hP.one hg 0 _ rfl) ((hENV.1.2 2 _ rfl).1 m0 (fun j => .long (f j))) (fun q => by cases q) (by show ¬ (i < 0 ∨ (arrV _ _ _).slots.size ≤ _); rw [arrV_size]; exact hin) rfl rfl hd fun H1 e z oq => ?_
      refine hK _ _ _ _ _ _ _ hS H1 _ ls (z.trans hsz) (hP.put hg ?_ oq) (hV.put z oq (hP a _ hg).1) hL
      show H1[a]? = some (vp_cell _ _)
      rw [e]
      rw [vp_cell_l, vp_cell_l, arrV_store]
      congr 2
      funext q
      by_cases hq : q = i.toNatClampNeg
      · subst hq
        simp [updV, vp_updL]
      · simp [updV, vp_updL, hq]
    · exact hS.elim
  · exact hS.elim
def s_bastore (E : ZEX) (nx : Nat) : ZStep := fun L st σ n k w K G R T => match st with
  | .int x :: .int i :: .ref a :: st => match σ a with
    | some (.inl (c0, (m0, .inl f))) => c0 = zeA E 1 ∧ vp_in i m0 ∧ K nx L st (zup σ a (.inl (c0, (m0, .inl (upd f i.toNatClampNeg (vp_nar .byte x)))))) n k w
    | _ => False
  | _ => False
theorem r_bastore {E : ZEX} {X : ZMX} {M : ZMY} {d mc ms : Nat} {P : ZPT} {T : ZTT} (h : ZCX E X M d mc ms P T) {pc : Nat} (hd : decode M.2.1 pc = .ok (.bastore, 1)) : ZRow E X M mc ms P T pc (s_bastore E (pc + 1)) := by
  obtain ⟨p, l, e, R, s, m, args, below, meth, c, Q⟩ := X
  obtain ⟨hE, hx, hb, hml, hr, hlk, hown, hts, hENV, hfr, hlo, hce, hsl, hnm, hQ, hT⟩ := h
  intro K hK L st σ n k w hS H locs ls hsz hP hV hL
  unfold s_bastore at hS
  split at hS
  · split at hS
    · rename_i x i a st9 _ c0 m0 f hg
      obtain ⟨rfl, hin, hS⟩ := hS
      refine W.bast hx hb (hP.one hg 0 _ rfl) ((hENV.1.2 1 _ rfl).1 m0 (fun j => .int (f j))) (fun q => by cases q) (by show ¬ (i < 0 ∨ (arrV _ _ _).slots.size ≤ _); rw [arrV_size]; exact hin) rfl rfl hd fun H1 e z oq => ?_
      refine hK _ _ _ _ _ _ _ hS H1 _ ls (z.trans hsz) (hP.put hg ?_ oq) (hV.put z oq (hP a _ hg).1) hL
      show H1[a]? = some (vp_cell _ _)
      rw [e]
      rw [vp_cell_i, vp_cell_i, arrV_store]
      congr 2
      funext q
      by_cases hq : q = i.toNatClampNeg
      · subst hq
        simp [updV, upd, vp_nar, narrow]
      · simp [updV, upd, hq]
    · exact hS.elim
  · exact hS.elim
def zobj (σ : ZHp) (a ci : Nat) : Prop := match σ a with
  | some (.inr (c, _)) => c = ci
  | _ => False
theorem zobj_at {σ : ZHp} {a ci : Nat} (h : zobj σ a ci) : ∃ fs, σ a = some (.inr (ci, fs)) := by
  unfold zobj at h
  split at h
  · rename_i c fs hg
    subst h
    exact ⟨fs, hg⟩
  · exact h.elim
def zint (E : ZEX) (σ : ZHp) (a : Nat) : Prop := match σ a with
  | some (.inl (c, (_, .inl _))) => c = zeA E 0
  | _ => False
theorem zint_at {E : ZEX} {σ : ZHp} {a : Nat} (h : zint E σ a) : ∃ m f, σ a = some (.inl (zeA E 0, (m, .inl f))) := by
  unfold zint at h
  split at h
  · rename_i c m f hg
    subst h
    exact ⟨m, f, hg⟩
  · exact h.elim
/-- one of the constant objects from place lo to place hi -/
def zisK (E : ZEX) (lo hi a : Nat) : Prop := ∃ j, lo ≤ j ∧ j < hi ∧ a = zeK E j
def s_aastoreT (E : ZEX) (nx : Nat) : ZStep := fun L st σ n k w K G R T => match st with
  | .ref v :: .int i :: .ref a :: st => match σ a with
    | some (.inl (c0, (m0, .inr (.inr (.inr (.inr f)))))) => c0 = zeA E 4 ∧ vp_in i m0 ∧ zobj σ v 10 ∧ K nx L st (zup σ a (.inl (c0, (m0, .inr (.inr (.inr (.inr (va_up f i.toNatClampNeg (some v))))))))) n k w
    | _ => False
  | _ => False
theorem r_aastoreT {E : ZEX} {X : ZMX} {M : ZMY} {d mc ms : Nat} {P : ZPT} {T : ZTT} (h : ZCX E X M d mc ms P T) {pc : Nat} (hd : decode M.2.1 pc = .ok (.aastore, 1))  : ZRow E X M mc ms P T pc (s_aastoreT E (pc + 1)) := by
  obtain ⟨p, l, e, R, s, m, args, below, meth, c, Q⟩ := X
  obtain ⟨hE, hx, hb, hml, hr, hlk, hown, hts, hENV, hfr, hlo, hce, hsl, hnm, hQ, hT⟩ := h
  intro K hK L st σ n k w hS H locs ls hsz hP hV hL
  unfold s_aastoreT at hS
  split at hS
  · split at hS
    · rename_i v i a st9 _ c0 m0 f hg
      obtain ⟨rfl, hin, hcond, hS⟩ := hS
      have hlt : i.toNatClampNeg < m0 := Nat.not_le.mp fun q => hin (Or.inr q)
      have h0 : ¬ i < 0 := fun q => hin (Or.inl q)
      obtain ⟨vs, hv⟩ := zobj_at hcond
      obtain ⟨r', hr', cellV, g1, g2, g3', -⟩ := hP.one hv 0 _ rfl
      have hcls := (hENV.1.1 10 _ hr').2
      obtain ⟨kA, comp, k1, k2, k3, -⟩ := (hENV.1.2 4 _ rfl).2
      cases hr'
      have hcomp : comp = (zeD E).1 10 := Option.some.inj (k3.symm.trans hcls.1)
      obtain ⟨kE, hkE, hkind⟩ := hcls.2
      have hkC : s.vm.classes[cellV.cls]? = some kE := by rw [g2]; exact hkE
      have hasg : s.vm.assignable cellV.cls comp = true := by rw [g2, hcomp]; exact va_assign hcls
      rw [← hcomp] at hkE
      have g3 : cellV.vm.isStatics = false := by rw [g3']; rfl
      refine W.aast hx hb (hP.one hg 0 _ rfl) (fun q h => by cases h) (fun h => by cases h) k1 k2 rfl hkE ⟨h0, by show _ < (arrV _ _ _).slots.size; rw [arrV_size]; exact hlt⟩ g1 (fun q h => by rw [h] at g3; cases g3) hkC hasg rfl rfl hd fun H1 e z oq => ?_
      refine hK _ _ _ _ _ _ _ hS H1 _ ls (z.trans hsz) (hP.put hg ?_ oq) (hV.put z oq (hP a _ hg).1) hL
      show H1[a]? = some (vp_cell _ _)
      rw [e]
      rw [vp_cell_q, vp_cell_q, arrV_store]
      congr 2
      funext q
      by_cases hq : q = i.toNatClampNeg
      · subst hq
        simp [updV, va_up, va_rf]
      · simp [updV, va_up, hq]
    · exact hS.elim
  · exact hS.elim
def s_aastoreS (E : ZEX) (nx : Nat) : ZStep := fun L st σ n k w K G R T => match st with
  | .ref v :: .int i :: .ref a :: st => match σ a with
    | some (.inl (c0, (m0, .inr (.inr (.inr (.inr f)))))) => c0 = zeA E 3 ∧ vp_in i m0 ∧ zisK E 0 46 v ∧ K nx L st (zup σ a (.inl (c0, (m0, .inr (.inr (.inr (.inr (va_up f i.toNatClampNeg (some v))))))))) n k w
    | _ => False
  | _ => False
theorem r_aastoreS {E : ZEX} {X : ZMX} {M : ZMY} {d mc ms : Nat} {P : ZPT} {T : ZTT} (h : ZCX E X M d mc ms P T) {pc : Nat} (hd : decode M.2.1 pc = .ok (.aastore, 1)) (hO : ∀ j, j < 46 → ∀ U H, zeF E U H → va_O RX8 (zeK E j) (zAB E) U H) : ZRow E X M mc ms P T pc (s_aastoreS E (pc + 1)) := by
  obtain ⟨p, l, e, R, s, m, args, below, meth, c, Q⟩ := X
  obtain ⟨hE, hx, hb, hml, hr, hlk, hown, hts, hENV, hfr, hlo, hce, hsl, hnm, hQ, hT⟩ := h
  intro K hK L st σ n k w hS H locs ls hsz hP hV hL
  unfold s_aastoreS at hS
  split at hS
  · split at hS
    · rename_i v i a st9 _ c0 m0 f hg
      obtain ⟨rfl, hin, hcond, hS⟩ := hS
      have hlt : i.toNatClampNeg < m0 := Nat.not_le.mp fun q => hin (Or.inr q)
      have h0 : ¬ i < 0 := fun q => hin (Or.inl q)
      obtain ⟨j9, -, hj9, hv9⟩ := hcond
      subst hv9
      obtain ⟨cellV, g0, g3, g2, g4⟩ := hO j9 hj9 _ _ hENV.2.1
      have g1 : H[zeK E j9]? = some cellV := by rw [hV.2.1 _ (Array.getElem?_eq_some_iff.mp g0).1 g4]; exact g0
      obtain ⟨kA, comp, k1, k2, k3, -⟩ := (hENV.1.2 3 _ rfl).2
      have hcomp : comp = cellV.cls := Option.some.inj (k3.symm.trans g2)
      have hclsA := (hENV.1.1 7 _ rfl).2
      have hcomp2 : comp = (zeD E).1 7 := Option.some.inj (k3.symm.trans hclsA.1)
      obtain ⟨kE, hkE, hkind⟩ := hclsA.2
      have hkC : s.vm.classes[cellV.cls]? = some kE := by rw [← hcomp, hcomp2]; exact hkE
      have hasg : s.vm.assignable cellV.cls comp = true := by rw [← hcomp, hcomp2]; exact va_assign hclsA
      rw [← hcomp2] at hkE
      refine W.aast hx hb (hP.one hg 0 _ rfl) (fun q h => by cases h) (fun h => by cases h) k1 k2 rfl hkE ⟨h0, by show _ < (arrV _ _ _).slots.size; rw [arrV_size]; exact hlt⟩ g1 (fun q h => by rw [h] at g3; cases g3) hkC hasg rfl rfl hd fun H1 e z oq => ?_
      refine hK _ _ _ _ _ _ _ hS H1 _ ls (z.trans hsz) (hP.put hg ?_ oq) (hV.put z oq (hP a _ hg).1) hL
      show H1[a]? = some (vp_cell _ _)
      rw [e]
      rw [vp_cell_q, vp_cell_q, arrV_store]
      congr 2
      funext q
      by_cases hq : q = i.toNatClampNeg
      · subst hq
        simp [updV, va_up, va_rf]
      · simp [updV, va_up, hq]
    · exact hS.elim
  · exact hS.elim
theorem zlt9 {A : Type} {a : Array A} {i : Nat} {x : A} (h : a[i]? = some x) : i < a.size := (Array.getElem?_eq_some_iff.mp h).1
def s_new (ci N : Nat) (fs : List Value) (mc ms nx : Nat) : ZStep := fun L st σ n k w K G R T => k + 1 ≤ mc ∧ w + N ≤ ms ∧ K nx L (.ref n :: st) (zup σ n (.inr (ci, fs))) (n + 1) (k + 1) (w + N)
theorem r_new {E : ZEX} {X : ZMX} {M : ZMY} {d mc ms : Nat} {P : ZPT} {T : ZTT} (h : ZCX E X M d mc ms P T) {pc : Nat} {ix : Nat} (hd : decode M.2.1 pc = .ok (.new ix, 3)) {ci : Nat} {C : String} {Tb : u_T} {N : Nat} (hC : ZCK ci C Tb N) (fs : List Value) (ty : Nat → FieldType) (hty : ∀ k, k < N → parseFieldDescriptor (Tb k).2.2.1 = some (ty k)) (hfs : ∀ j, j < N → defaultValue (ty j) = vp_V fs j) (hw : ZWd (.classLink M.1.cls ix C)) (hi : ZWd (.instantiable C N)) (hi2 : ZWd (.initialized C)) : ZRow E X M mc ms P T pc (s_new ci N fs mc ms (pc + 3)) := by
  obtain ⟨p, l, e, R, s, m, args, below, meth, c, Q⟩ := X
  obtain ⟨hE, hx, hb, hml, hr, hlk, hown, hts, hENV, hfr, hlo, hce, hsl, hnm, hQ, hT⟩ := h
  intro K hK L st σ n k w hS H locs ls hsz hP hV hL
  unfold s_new at hS
  obtain ⟨hk1, hw1, hS⟩ := hS
  have htsA : ∀ w ∈ zallW, w.before args s = true := fun w hw => hts w (List.mem_filter.mp hw)
  have hin : ∀ w ∈ u_ws C Tb N, w ∈ zallW := fun w hw => (hC.2.1 w hw).all
  have hKn := hENV.1.1 ci _ hC.1
  refine W.newcK hx hb hown (hts _ hw) (hts _ hi) (hts _ hi2) rfl hd (by omega) (by omega) hKn.2.1 hsz fun H1 kC hkC e1 z1 o1 => ?_
  refine hK _ _ _ _ _ _ _ hS H1 locs ls z1 (hP.new hsz (by have := hENV.2.2; have := hV.1; omega) ⟨_, hC.1, (u_born ty htsA hin hKn hkC e1 hty).to hfs⟩ o1) ⟨Nat.le_trans hV.1 (by omega), fun x h1 h2 => (o1 x (by have := hV.1; omega)).trans (hV.2.1 x h1 h2), hV.2.2⟩ hL
def s_newI (E : ZEX) (mc ms nx : Nat) : ZStep := fun L st σ n k w K G R T => match st with
  | .int z :: st => ¬ z < 0 ∧ z.toNatClampNeg ≤ 60000000 ∧ k + 1 ≤ mc ∧ w + z.toNatClampNeg ≤ ms ∧ K nx L (.ref n :: st) (zup σ n (.inl (zeA E 0, (z.toNatClampNeg, .inl (fun _ => 0))))) (n + 1) (k + 1) (w + z.toNatClampNeg)
  | _ => False
theorem r_newI {E : ZEX} {X : ZMX} {M : ZMY} {d mc ms : Nat} {P : ZPT} {T : ZTT} (h : ZCX E X M d mc ms P T) {pc : Nat} (hd : decode M.2.1 pc = .ok (.newarray .int, 2)) (hw : ZWd (.arrayClass .int)) : ZRow E X M mc ms P T pc (s_newI E mc ms (pc + 2)) := by
  obtain ⟨p, l, e, R, s, m, args, below, meth, c, Q⟩ := X
  obtain ⟨hE, hx, hb, hml, hr, hlk, hown, hts, hENV, hfr, hlo, hce, hsl, hnm, hQ, hT⟩ := h
  intro K hK L st σ n k w hS H locs ls hsz hP hV hL
  unfold s_newI at hS
  split at hS
  · rename_i z st9
    obtain ⟨hz0, hz1, hk1, hw1, hS⟩ := hS
    refine va_newaK hx hb (atype := .int) (hts _ hw) rfl hd rfl hz0 rfl (by show _ * 4 ≤ _; omega) (by omega) (by omega) hsz fun H1 cA e1 z1 o1 hAr hNm => ?_
    have hcA : cA = zeA E 0 := Option.some.inj (hNm.symm.trans (hENV.1.2 0 _ rfl).2)
    subst hcA
    exact hK _ _ _ _ _ _ _ hS H1 locs ls z1 (hP.new hsz (by have := hENV.2.2; have := hV.1; omega) e1 o1) ⟨Nat.le_trans hV.1 (by omega), fun x h1 h2 => (o1 x (by have := hV.1; omega)).trans (hV.2.1 x h1 h2), hV.2.2⟩ hL
  · exact hS.elim
def s_newB (E : ZEX) (mc ms nx : Nat) : ZStep := fun L st σ n k w K G R T => match st with
  | .int z :: st => ¬ z < 0 ∧ z.toNatClampNeg ≤ 60000000 ∧ k + 1 ≤ mc ∧ w + z.toNatClampNeg ≤ ms ∧ K nx L (.ref n :: st) (zup σ n (.inl (zeA E 1, (z.toNatClampNeg, .inl (fun _ => 0))))) (n + 1) (k + 1) (w + z.toNatClampNeg)
  | _ => False
theorem r_newB {E : ZEX} {X : ZMX} {M : ZMY} {d mc ms : Nat} {P : ZPT} {T : ZTT} (h : ZCX E X M d mc ms P T) {pc : Nat} (hd : decode M.2.1 pc = .ok (.newarray .byte, 2)) (hw : ZWd (.arrayClass .byte)) : ZRow E X M mc ms P T pc (s_newB E mc ms (pc + 2)) := by
  obtain ⟨p, l, e, R, s, m, args, below, meth, c, Q⟩ := X
  obtain ⟨hE, hx, hb, hml, hr, hlk, hown, hts, hENV, hfr, hlo, hce, hsl, hnm, hQ, hT⟩ := h
  intro K hK L st σ n k w hS H locs ls hsz hP hV hL
  unfold s_newB at hS
  split at hS
  · rename_i z st9
    obtain ⟨hz0, hz1, hk1, hw1, hS⟩ := hS
    refine va_newaK hx hb (atype := .byte) (hts _ hw) rfl hd rfl hz0 rfl (by show _ * 1 ≤ _; omega) (by omega) (by omega) hsz fun H1 cA e1 z1 o1 hAr hNm => ?_
    have hcA : cA = zeA E 1 := Option.some.inj (hNm.symm.trans (hENV.1.2 1 _ rfl).2)
    subst hcA
    exact hK _ _ _ _ _ _ _ hS H1 locs ls z1 (hP.new hsz (by have := hENV.2.2; have := hV.1; omega) e1 o1) ⟨Nat.le_trans hV.1 (by omega), fun x h1 h2 => (o1 x (by have := hV.1; omega)).trans (hV.2.1 x h1 h2), hV.2.2⟩ hL
  · exact hS.elim
def s_newL (E : ZEX) (mc ms nx : Nat) : ZStep := fun L st σ n k w K G R T => match st with
  | .int z :: st => ¬ z < 0 ∧ z.toNatClampNeg ≤ 60000000 ∧ k + 1 ≤ mc ∧ w + z.toNatClampNeg ≤ ms ∧ K nx L (.ref n :: st) (zup σ n (.inl (zeA E 2, (z.toNatClampNeg, .inr (.inl (fun _ => 0)))))) (n + 1) (k + 1) (w + z.toNatClampNeg)
  | _ => False
theorem r_newL {E : ZEX} {X : ZMX} {M : ZMY} {d mc ms : Nat} {P : ZPT} {T : ZTT} (h : ZCX E X M d mc ms P T) {pc : Nat} (hd : decode M.2.1 pc = .ok (.newarray .long, 2)) (hw : ZWd (.arrayClass .long)) : ZRow E X M mc ms P T pc (s_newL E mc ms (pc + 2)) := by
  obtain ⟨p, l, e, R, s, m, args, below, meth, c, Q⟩ := X
  obtain ⟨hE, hx, hb, hml, hr, hlk, hown, hts, hENV, hfr, hlo, hce, hsl, hnm, hQ, hT⟩ := h
  intro K hK L st σ n k w hS H locs ls hsz hP hV hL
  unfold s_newL at hS
  split at hS
  · rename_i z st9
    obtain ⟨hz0, hz1, hk1, hw1, hS⟩ := hS
    refine va_newaK hx hb (atype := .long) (hts _ hw) rfl hd rfl hz0 rfl (by show _ * 8 ≤ _; omega) (by omega) (by omega) hsz fun H1 cA e1 z1 o1 hAr hNm => ?_
    have hcA : cA = zeA E 2 := Option.some.inj (hNm.symm.trans (hENV.1.2 2 _ rfl).2)
    subst hcA
    exact hK _ _ _ _ _ _ _ hS H1 locs ls z1 (hP.new hsz (by have := hENV.2.2; have := hV.1; omega) e1 o1) ⟨Nat.le_trans hV.1 (by omega), fun x h1 h2 => (o1 x (by have := hV.1; omega)).trans (hV.2.1 x h1 h2), hV.2.2⟩ hL
  · exact hS.elim
def s_anewS (E : ZEX) (mc ms nx : Nat) : ZStep := fun L st σ n k w K G R T => match st with
  | .int z :: st => ¬ z < 0 ∧ z.toNatClampNeg ≤ 60000000 ∧ k + 1 ≤ mc ∧ w + z.toNatClampNeg ≤ ms ∧ K nx L (.ref n :: st) (zup σ n (.inl (zeA E 3, (z.toNatClampNeg, .inr (.inr (.inr (.inr (fun _ => none)))))))) (n + 1) (k + 1) (w + z.toNatClampNeg)
  | _ => False
theorem r_anewS {E : ZEX} {X : ZMX} {M : ZMY} {d mc ms : Nat} {P : ZPT} {T : ZTT} (h : ZCX E X M d mc ms P T) {pc : Nat} {ix : Nat} (hd : decode M.2.1 pc = .ok (.anewarray ix, 3)) (hw : ZWd (.classLink M.1.cls ix RX8)) (hw2 : ∀ U H, zeF E U H → va_AO RX8 U) : ZRow E X M mc ms P T pc (s_anewS E mc ms (pc + 3)) := by
  obtain ⟨p, l, e, R, s, m, args, below, meth, c, Q⟩ := X
  obtain ⟨hE, hx, hb, hml, hr, hlk, hown, hts, hENV, hfr, hlo, hce, hsl, hnm, hQ, hT⟩ := h
  intro K hK L st σ n k w hS H locs ls hsz hP hV hL
  unfold s_anewS at hS
  split at hS
  · rename_i z st9
    obtain ⟨hz0, hz1, hk1, hw1, hS⟩ := hS
    refine W.anew hx hb hown (hts _ hw) (va_AO.use (hw2 _ _ hENV.2.1)) rfl hd rfl hz0 (by omega) (by omega) (by omega) fun cA kA comp f1 f2 f3 f4 => ?_
    have hcA : cA = zeA E 3 := Option.some.inj (f1.symm.trans (hENV.1.2 3 _ rfl).2.choose_spec.choose_spec.2.2.2)
    subst hcA
    generalize hH1 : H.push ({ cls := zeA E 3, slots := Array.replicate z.toNatClampNeg .null, vm := .none } : Cell) = H1
    have z1 : H1.size = n + 1 := by rw [← hH1, Array.size_push, hsz]
    have e1 : H1[n]? = some (arrV (zeA E 3) z.toNatClampNeg (fun _ => .null)) := by rw [← hH1, ← hsz, Array.getElem?_push_size, ← arrV_new]
    have o1 : ∀ q : Nat, q < n → H1[q]? = H[q]? := fun q hq => by rw [← hH1, Array.getElem?_push, if_neg (by omega)]
    rw [hsz]
    exact hK _ _ _ _ _ _ _ hS H1 locs ls z1 (hP.new hsz (by have := hENV.2.2; have := hV.1; omega) (show H1[n]? = some (vp_cell _ _) by rw [vp_cell_q]; exact e1) o1) ⟨Nat.le_trans hV.1 (by omega), fun x h1 h2 => (o1 x (by have := hV.1; omega)).trans (hV.2.1 x h1 h2), hV.2.2⟩ hL
  · exact hS.elim
def s_anewT (E : ZEX) (mc ms nx : Nat) : ZStep := fun L st σ n k w K G R T => match st with
  | .int z :: st => ¬ z < 0 ∧ z.toNatClampNeg ≤ 60000000 ∧ k + 1 ≤ mc ∧ w + z.toNatClampNeg ≤ ms ∧ K nx L (.ref n :: st) (zup σ n (.inl (zeA E 4, (z.toNatClampNeg, .inr (.inr (.inr (.inr (fun _ => none)))))))) (n + 1) (k + 1) (w + z.toNatClampNeg)
  | _ => False
theorem r_anewT {E : ZEX} {X : ZMX} {M : ZMY} {d mc ms : Nat} {P : ZPT} {T : ZTT} (h : ZCX E X M d mc ms P T) {pc : Nat} {ix : Nat} (hd : decode M.2.1 pc = .ok (.anewarray ix, 3)) (hw : ZWd (.classLink M.1.cls ix RX11)) (hw2 : ∀ U H, zeF E U H → va_AO RX11 U) : ZRow E X M mc ms P T pc (s_anewT E mc ms (pc + 3)) := by
  obtain ⟨p, l, e, R, s, m, args, below, meth, c, Q⟩ := X
  obtain ⟨hE, hx, hb, hml, hr, hlk, hown, hts, hENV, hfr, hlo, hce, hsl, hnm, hQ, hT⟩ := h
  intro K hK L st σ n k w hS H locs ls hsz hP hV hL
  unfold s_anewT at hS
  split at hS
  · rename_i z st9
    obtain ⟨hz0, hz1, hk1, hw1, hS⟩ := hS
    refine W.anew hx hb hown (hts _ hw) (va_AO.use (hw2 _ _ hENV.2.1)) rfl hd rfl hz0 (by omega) (by omega) (by omega) fun cA kA comp f1 f2 f3 f4 => ?_
    have hcA : cA = zeA E 4 := Option.some.inj (f1.symm.trans (hENV.1.2 4 _ rfl).2.choose_spec.choose_spec.2.2.2)
    subst hcA
    generalize hH1 : H.push ({ cls := zeA E 4, slots := Array.replicate z.toNatClampNeg .null, vm := .none } : Cell) = H1
    have z1 : H1.size = n + 1 := by rw [← hH1, Array.size_push, hsz]
    have e1 : H1[n]? = some (arrV (zeA E 4) z.toNatClampNeg (fun _ => .null)) := by rw [← hH1, ← hsz, Array.getElem?_push_size, ← arrV_new]
    have o1 : ∀ q : Nat, q < n → H1[q]? = H[q]? := fun q hq => by rw [← hH1, Array.getElem?_push, if_neg (by omega)]
    rw [hsz]
    exact hK _ _ _ _ _ _ _ hS H1 locs ls z1 (hP.new hsz (by have := hENV.2.2; have := hV.1; omega) (show H1[n]? = some (vp_cell _ _) by rw [vp_cell_q]; exact e1) o1) ⟨Nat.le_trans hV.1 (by omega), fun x h1 h2 => (o1 x (by have := hV.1; omega)).trans (hV.2.1 x h1 h2), hV.2.2⟩ hL
  · exact hS.elim
def s_anewA (E : ZEX) (mc ms nx : Nat) : ZStep := fun L st σ n k w K G R T => match st with
  | .int z :: st => ¬ z < 0 ∧ z.toNatClampNeg ≤ 60000000 ∧ k + 1 ≤ mc ∧ w + z.toNatClampNeg ≤ ms ∧ K nx L (.ref n :: st) (zup σ n (.inl (zeA E 5, (z.toNatClampNeg, .inr (.inr (.inr (.inr (fun _ => none)))))))) (n + 1) (k + 1) (w + z.toNatClampNeg)
  | _ => False
theorem r_anewA {E : ZEX} {X : ZMX} {M : ZMY} {d mc ms : Nat} {P : ZPT} {T : ZTT} (h : ZCX E X M d mc ms P T) {pc : Nat} {ix : Nat} (hd : decode M.2.1 pc = .ok (.anewarray ix, 3)) (hw : ZWd (.classLink M.1.cls ix (FieldType.array .int).toString)) (hw2 : ∀ U H, zeF E U H → (Cond.arrayOver (.array .int)).before #[] U = true) : ZRow E X M mc ms P T pc (s_anewA E mc ms (pc + 3)) := by
  obtain ⟨p, l, e, R, s, m, args, below, meth, c, Q⟩ := X
  obtain ⟨hE, hx, hb, hml, hr, hlk, hown, hts, hENV, hfr, hlo, hce, hsl, hnm, hQ, hT⟩ := h
  intro K hK L st σ n k w hS H locs ls hsz hP hV hL
  unfold s_anewA at hS
  split at hS
  · rename_i z st9
    obtain ⟨hz0, hz1, hk1, hw1, hS⟩ := hS
    refine W.anewA (t := .int) hx hb hown (hts _ hw) (hw2 _ _ hENV.2.1) rfl hd rfl hz0 (by omega) (by omega) (by omega) fun cA kA comp f1 f2 f3 f4 => ?_
    have hcA : cA = zeA E 5 := Option.some.inj (f1.symm.trans (hENV.1.2 5 _ rfl).2)
    subst hcA
    generalize hH1 : H.push ({ cls := zeA E 5, slots := Array.replicate z.toNatClampNeg .null, vm := .none } : Cell) = H1
    have z1 : H1.size = n + 1 := by rw [← hH1, Array.size_push, hsz]
    have e1 : H1[n]? = some (arrV (zeA E 5) z.toNatClampNeg (fun _ => .null)) := by rw [← hH1, ← hsz, Array.getElem?_push_size, ← arrV_new]
    have o1 : ∀ q : Nat, q < n → H1[q]? = H[q]? := fun q hq => by rw [← hH1, Array.getElem?_push, if_neg (by omega)]
    rw [hsz]
    exact hK _ _ _ _ _ _ _ hS H1 locs ls z1 (hP.new hsz (by have := hENV.2.2; have := hV.1; omega) (show H1[n]? = some (vp_cell _ _) by rw [vp_cell_q]; exact e1) o1) ⟨Nat.le_trans hV.1 (by omega), fun x h1 h2 => (o1 x (by have := hV.1; omega)).trans (hV.2.1 x h1 h2), hV.2.2⟩ hL
  · exact hS.elim
def zcs (st : List Value) : Nat := (st.map fun v => v.category).sum
def s_objinit (d nx : Nat) : ZStep := fun L st σ n k w K G R T => match st with
  | .ref _ :: st => 1 ≤ d ∧ zcs st ≤ 40 ∧ K nx L st σ n k w
  | _ => False
theorem r_objinit {E : ZEX} {X : ZMX} {M : ZMY} {d mc ms : Nat} {P : ZPT} {T : ZTT} (h : ZCX E X M d mc ms P T) {pc : Nat} {ix : Nat} (hd : decode M.2.1 pc = .ok (.invokespecial ix, 3)) (hw : ZWd (.methodLink M.1.cls ix Lib.objectInit)) (hw2 : ZWd (.instanceMethod Lib.objectInit)) (hw3 : ZWd (.code Lib.objectInit ⟨#[0xb1]⟩ 1 none)) : ZRow E X M mc ms P T pc (s_objinit d (pc + 3)) := by
  obtain ⟨p, l, e, R, s, m, args, below, meth, c, Q⟩ := X
  obtain ⟨hE, hx, hb, hml, hr, hlk, hown, hts, hENV, hfr, hlo, hce, hsl, hnm, hQ, hT⟩ := h
  intro K hK L st σ n k w hS H locs ls hsz hP hV hL
  unfold s_objinit at hS
  split at hS
  · obtain ⟨h1, h2, hS⟩ := hS
    unfold zcs at h2
    exact W.objInit hx hb hown (hts _ hw) (hts _ hw2) (hts _ hw3) rfl (hL.1.trans hml.symm) rfl hd (by omega) (by show 2 * 0 + _ + _ ≤ _; omega) (hK _ _ _ _ _ _ _ hS H locs ls hsz hP hV hL)
  · exact hS.elim
def s_mmax (d mc ms nx : Nat) : ZStep := fun L st σ n k w K G R T => match st with
  | .int y :: .int x :: st => 1 ≤ d ∧ zcs st ≤ 40 ∧ k ≤ mc ∧ w ≤ ms ∧ K nx L (.int (if x < y then y else x) :: st) σ n k w
  | _ => False
theorem r_mmax {E : ZEX} {X : ZMX} {M : ZMY} {d mc ms : Nat} {P : ZPT} {T : ZTT} (h : ZCX E X M d mc ms P T) {pc : Nat} {ix : Nat} (hd : decode M.2.1 pc = .ok (.invokestatic ix, 3)) (hw : ZWd (.methodLink M.1.cls ix Lib.Math.max.name)) (hw2 : ZWd (.static Lib.Math.max.name)) (hw3 : ZWd (.initialized "java/lang/Math")) (hw4 : ZWd (.code Lib.Math.max.name Lib.Math.max.code 2 (some .int))) : ZRow E X M mc ms P T pc (s_mmax d mc ms (pc + 3)) := by
  obtain ⟨p, l, e, R, s, m, args, below, meth, c, Q⟩ := X
  obtain ⟨hE, hx, hb, hml, hr, hlk, hown, hts, hENV, hfr, hlo, hce, hsl, hnm, hQ, hT⟩ := h
  intro K hK L st σ n k w hS H locs ls hsz hP hV hL
  unfold s_mmax at hS
  split at hS
  · obtain ⟨h1, h2, h3, h4, hS⟩ := hS
    unfold zcs at h2
    exact va_mmax hx hb (hml.trans hL.1.symm) hown (hts _ hw) (hts _ hw2) (hts _ hw3) (hts _ hw4) (by omega) (by omega) (by omega) (by omega) hd (hK _ _ _ _ _ _ _ hS H locs ls hsz hP hV hL)
  · exact hS.elim
def s_mmin (d mc ms nx : Nat) : ZStep := fun L st σ n k w K G R T => match st with
  | .int y :: .int x :: st => 1 ≤ d ∧ zcs st ≤ 40 ∧ k ≤ mc ∧ w ≤ ms ∧ K nx L (.int (if y < x then y else x) :: st) σ n k w
  | _ => False
theorem r_mmin {E : ZEX} {X : ZMX} {M : ZMY} {d mc ms : Nat} {P : ZPT} {T : ZTT} (h : ZCX E X M d mc ms P T) {pc : Nat} {ix : Nat} (hd : decode M.2.1 pc = .ok (.invokestatic ix, 3)) (hw : ZWd (.methodLink M.1.cls ix Lib.Math.min.name)) (hw2 : ZWd (.static Lib.Math.min.name)) (hw3 : ZWd (.initialized "java/lang/Math")) (hw4 : ZWd (.code Lib.Math.min.name Lib.Math.min.code 2 (some .int))) : ZRow E X M mc ms P T pc (s_mmin d mc ms (pc + 3)) := by
  obtain ⟨p, l, e, R, s, m, args, below, meth, c, Q⟩ := X
  obtain ⟨hE, hx, hb, hml, hr, hlk, hown, hts, hENV, hfr, hlo, hce, hsl, hnm, hQ, hT⟩ := h
  intro K hK L st σ n k w hS H locs ls hsz hP hV hL
  unfold s_mmin at hS
  split at hS
  · obtain ⟨h1, h2, h3, h4, hS⟩ := hS
    unfold zcs at h2
    exact va_mmin hx hb (hml.trans hL.1.symm) hown (hts _ hw) (hts _ hw2) (hts _ hw3) (hts _ hw4) (by omega) (by omega) (by omega) (by omega) hd (hK _ _ _ _ _ _ _ hS H locs ls hsz hP hV hL)
  · exact hS.elim
def s_mmaxL (d mc ms nx : Nat) : ZStep := fun L st σ n k w K G R T => match st with
  | .long y :: .long x :: st => 1 ≤ d ∧ zcs st ≤ 40 ∧ k ≤ mc ∧ w ≤ ms ∧ K nx L (.long (if y < x then x else y) :: st) σ n k w
  | _ => False
theorem r_mmaxL {E : ZEX} {X : ZMX} {M : ZMY} {d mc ms : Nat} {P : ZPT} {T : ZTT} (h : ZCX E X M d mc ms P T) {pc : Nat} {ix : Nat} (hd : decode M.2.1 pc = .ok (.invokestatic ix, 3)) (hw : ZWd (.methodLink M.1.cls ix Lib.MathLoose.max_long.x)) (hw2 : ZWd (.static Lib.MathLoose.max_long.x)) (hw3 : ZWd (.initialized "java/lang/Math")) (hw4 : ZWd (.code Lib.MathLoose.max_long.x Lib.MathLoose.max_long.code 4 (some .long))) : ZRow E X M mc ms P T pc (s_mmaxL d mc ms (pc + 3)) := by
  obtain ⟨p, l, e, R, s, m, args, below, meth, c, Q⟩ := X
  obtain ⟨hE, hx, hb, hml, hr, hlk, hown, hts, hENV, hfr, hlo, hce, hsl, hnm, hQ, hT⟩ := h
  intro K hK L st σ n k w hS H locs ls hsz hP hV hL
  unfold s_mmaxL at hS
  split at hS
  · obtain ⟨h1, h2, h3, h4, hS⟩ := hS
    unfold zcs at h2
    exact va_mmax_long hx hb (hml.trans hL.1.symm) hown (hts _ hw) (hts _ hw2) (hts _ hw3) (hts _ hw4) (by omega) (by omega) (by omega) (by omega) hd (hK _ _ _ _ _ _ _ hS H locs ls hsz hP hV hL)
  · exact hS.elim
def s_mminL (d mc ms nx : Nat) : ZStep := fun L st σ n k w K G R T => match st with
  | .long y :: .long x :: st => 1 ≤ d ∧ zcs st ≤ 40 ∧ k ≤ mc ∧ w ≤ ms ∧ K nx L (.long (if y < x then y else x) :: st) σ n k w
  | _ => False
theorem r_mminL {E : ZEX} {X : ZMX} {M : ZMY} {d mc ms : Nat} {P : ZPT} {T : ZTT} (h : ZCX E X M d mc ms P T) {pc : Nat} {ix : Nat} (hd : decode M.2.1 pc = .ok (.invokestatic ix, 3)) (hw : ZWd (.methodLink M.1.cls ix Lib.MathLoose.min_long.x)) (hw2 : ZWd (.static Lib.MathLoose.min_long.x)) (hw3 : ZWd (.initialized "java/lang/Math")) (hw4 : ZWd (.code Lib.MathLoose.min_long.x Lib.MathLoose.min_long.code 4 (some .long))) : ZRow E X M mc ms P T pc (s_mminL d mc ms (pc + 3)) := by
  obtain ⟨p, l, e, R, s, m, args, below, meth, c, Q⟩ := X
  obtain ⟨hE, hx, hb, hml, hr, hlk, hown, hts, hENV, hfr, hlo, hce, hsl, hnm, hQ, hT⟩ := h
  intro K hK L st σ n k w hS H locs ls hsz hP hV hL
  unfold s_mminL at hS
  split at hS
  · obtain ⟨h1, h2, h3, h4, hS⟩ := hS
    unfold zcs at h2
    exact va_mmin_long hx hb (hml.trans hL.1.symm) hown (hts _ hw) (hts _ hw2) (hts _ hw3) (hts _ hw4) (by omega) (by omega) (by omega) (by omega) hd (hK _ _ _ _ _ _ _ hS H locs ls hsz hP hV hL)
  · exact hS.elim
def s_acopy (E : ZEX) (d nx : Nat) : ZStep := fun L st σ n k w K G R T => match st with
  | .int z :: .int dp :: .ref b :: .int sp :: .ref a :: st => match σ a, σ b with
    | some (.inl (c0, (n0, .inl f))), some (.inl (c1, (n1, .inl g))) => c0 = zeA E 0 ∧ c1 = zeA E 0 ∧ ¬ sp < 0 ∧ ¬ dp < 0 ∧ ¬ z < 0 ∧ sp.toNatClampNeg + z.toNatClampNeg ≤ n0 ∧ dp.toNatClampNeg + z.toNatClampNeg ≤ n1 ∧ 1 ≤ d ∧ zcs st ≤ 20 ∧ K nx L st (zup σ b (.inl (c1, (n1, .inl (va_cpy f g sp.toNatClampNeg dp.toNatClampNeg z.toNatClampNeg))))) n k w
    | _, _ => False
  | _ => False
theorem r_acopy {E : ZEX} {X : ZMX} {M : ZMY} {d mc ms : Nat} {P : ZPT} {T : ZTT} (h : ZCX E X M d mc ms P T) {pc : Nat} {ix : Nat} (hd : decode M.2.1 pc = .ok (.invokestatic ix, 3)) (hw : ZWd (.methodLink M.1.cls ix arraycopyName)) (hw2 : ZWd (.native arraycopyName)) (hw3 : ZWd (.static arraycopyName)) (hw4 : ZWd (.initialized "java/lang/System")) : ZRow E X M mc ms P T pc (s_acopy E d (pc + 3)) := by
  obtain ⟨p, l, e, R, s, m, args, below, meth, c, Q⟩ := X
  obtain ⟨hE, hx, hb, hml, hr, hlk, hown, hts, hENV, hfr, hlo, hce, hsl, hnm, hQ, hT⟩ := h
  intro K hK L st σ n k w hS H locs ls hsz hP hV hL
  unfold s_acopy at hS
  split at hS
  · split at hS
    · rename_i z dp a sp a0 st9 _ _ c0 n0 f c1 n1 g hg0 hg1
      obtain ⟨rfl, rfl, h1, h2, h3, h4, h5, hd1, hst9, hS⟩ := hS
      unfold zcs at hst9
      have nn : ∀ z : Int32, ¬ z < 0 → z.toInt = (z.toNatClampNeg : Int) := by
        intro z hz
        have hz0 : (0 : Int) ≤ z.toInt := by
          have := Int32.not_lt.mp hz
          simpa using Int32.le_iff_toInt_le.mp this
        show z.toInt = ((z.toInt.toNat : Nat) : Int)
        omega
      intro T9 hT9 X9
      have hc0 : H[a0]? = some (vp_cell (zeA E 0) (n0, .inl f)) := hP.one hg0 0 _ rfl
      have hc1 : H[a]? = some (vp_cell (zeA E 0) (n1, .inl g)) := hP.one hg1 0 _ rfl
      obtain ⟨-, k0, hk0, cm0, hkk0⟩ := (hENV.1.2 0 _ rfl).1 n0 (fun j => .int (f j))
      obtain ⟨-, k1, hk1, cm1, hkk1⟩ := (hENV.1.2 0 _ rfl).1 n1 (fun j => .int (g j))
      obtain ⟨vm9, X8, step⟩ := X9.arraycopy hx hown (hts _ hw) (hts _ hw2) (hts _ hw3) (hts _ hw4) (src := a0) (dst := a) (cs := vp_cell (zeA E 0) (n0, .inl f)) (cd := vp_cell (zeA E 0) (n1, .inl g)) (srcPos := sp) (destPos := dp) (n := z) (by rw [hT9]; exact hc0) (by rw [hT9]; exact hc1)
        (fun _ h => by cases h) (fun _ h => by cases h) (fun h => by cases h) (fun h => by cases h) hk0 hk1 hkk0 hkk1 (show (refKind .int != refKind .int || !refKind .int && FieldType.int != FieldType.int) = false by decide) h1 h2 h3
        (by rw [nn sp h1, nn z h3]; show ¬ _ > ((arrV _ n0 (fun j => .int (f j))).slots.size : Int); rw [arrV_size]; omega)
        (by rw [nn dp h2, nn z h3]; show ¬ _ > ((arrV _ n1 (fun j => .int (g j))).slots.size : Int); rw [arrV_size]; omega)
        (fun vm₁ _ i hi => by
          have e : (vp_cell (zeA E 0) (n0, .inl f)).slots.getD (sp.toNatClampNeg + i) .null = .int (f (sp.toNatClampNeg + i)) := by
            show (arrV _ n0 (fun j => .int (f j))).slots.getD _ _ = _
            rw [Array.getD_eq_getD_getElem?, arrV_read _ _ (by omega)]
            rfl
          refine ⟨?_, ?_⟩
          · rw [e]
            rfl
          · rw [e]
            exact trivial)
        (g := F0 m pc ls (.int z :: .int dp :: .ref a :: .int sp :: .ref a0 :: st9)) rfl (hL.1.trans hml.symm) (rest := st9) rfl (by rw [hb]; exact hd) (by omega) (by have e9 : nativeFrameWords "java/lang/System" "arraycopy" 5 + 11 ≤ 44 := (by decide); show 2 * 0 + (st9.map fun v => v.category).sum + (nativeFrameWords "java/lang/System" "arraycopy" 5 + 11) ≤ R.locals; omega)
      have e1 : copied (vp_cell (zeA E 0) (n0, .inl f)) (vp_cell (zeA E 0) (n1, .inl g)) sp dp z = vp_cell (zeA E 0) (n1, .inl (va_cpy f g sp.toNatClampNeg dp.toNatClampNeg z.toNatClampNeg)) := va_copied (fun z => .int z) (zeA E 0) (zeA E 0) f g h4
      rw [e1] at X8 step
      have hl : a < H.size := (Array.getElem?_eq_some_iff.mp hc1).1
      generalize hcell : vp_cell (zeA E 0) (n1, .inl (va_cpy f g sp.toNatClampNeg dp.toNatClampNeg z.toNatClampNeg)) = cell9 at X8 step
      have hheap : ((T9.setVm vm9).setCell a cell9).heap = H.setIfInBounds a cell9 := by rw [← hT9]; rfl
      have oq : ∀ q : Nat, q ≠ a → (H.setIfInBounds a cell9)[q]? = H[q]? := fun q hq => by simp [Array.getElem?_setIfInBounds, Ne.symm hq]
      have he9 : (H.setIfInBounds a cell9)[a]? = some cell9 := by simp [Array.getElem?_setIfInBounds, hl]
      have hA9 := (hP a _ hg1).1
      obtain ⟨t, a1, b1⟩ := hK _ _ _ _ _ _ _ hS _ _ ls (by rw [Array.size_setIfInBounds]; exact hsz) (hP.put hg1 (show (H.setIfInBounds a cell9)[a]? = some (vp_cell _ _) by rw [he9, hcell]) oq) ⟨by rw [Array.size_setIfInBounds]; exact hV.1, fun q g1 g2 => by
          rw [oq q (fun e => g2 (by rw [e]; exact hA9))]
          exact hV.2.1 q g1 g2, fun q hq => by
          rcases List.mem_append.mp hq with h | h
          · exact hV.2.2 q h
          · obtain ⟨z, -, hz⟩ := List.mem_map.mp h
            rw [← hz]
            exact hA9⟩ hL _ hheap X8
      exact ⟨t, step t a1, b1⟩
    · exact hS.elim
  · exact hS.elim
/-- a callee that returns: its contract, the room, and how it goes on -/
def zcall (E : ZEX) (d mc ms : Nat) (Mc : ZMY) (av : List Value) (σ : ZHp) (n k w : Nat) (Kn : Option Value → ZHp → Nat → Nat → Nat → Prop) : Prop :=
  ∃ (d' mc' ms' : Nat) (P' : ZPT), ZSpec E Mc d' mc' ms' av σ n P' ∧ d' < d ∧ k + mc' ≤ mc ∧ w + ms' ≤ ms ∧ ∀ v σ' n', P' v σ' n' → Kn v σ' n' (k + mc') (w + ms')
theorem zcall_of {E : ZEX} {d mc ms : Nat} {Mc : ZMY} {av : List Value} {σ : ZHp} {n k w : Nat} {Kn : Option Value → ZHp → Nat → Nat → Nat → Prop} {d' mc' ms' : Nat} {P' : ZPT} (hs : ZSpec E Mc d' mc' ms' av σ n P') (h1 : d' < d) (h2 : k + mc' ≤ mc) (h3 : w + ms' ≤ ms) (hk : ∀ v σ' n', P' v σ' n' → Kn v σ' n' (k + mc') (w + ms')) : zcall E d mc ms Mc av σ n k w Kn := ⟨d', mc', ms', P', hs, h1, h2, h3, hk⟩
section ZC
variable {p : Program} {l : Launch} {e : Env} {R : Room} {s : State} {m : MethodId} {args : Array Value} {below : List Frame} {meth : Method} {c : Code} {H : Heap} {locs : List Loc} {Q : State → Prop}
theorem zgo {E : ZEX} {P' : ZPT} {k w mc' ms' pc : Nat} {ls : Array Slot} {rest st0 : List Value} {a : Array Value} (hr : va_Run p l e R s m args below meth c H locs k w mc' ms' (F0 m pc ls st0) rest (zQg E P' a) (zAB E)) (hV : va_S (zAB E) s.heap H locs)
    (kk : ∀ (v : Option Value) (σ' : ZHp) (n' : Nat) (H1 : Heap) (locs1 : List Loc), P' v σ' n' → H1.size = n' → ZHP E σ' H1 → va_S (zAB E) s.heap H1 locs1 → W p l e R s m args below meth c H1 locs1 (k + mc') (w + ms') Q (F0 m (pc + 3) ls (v.toList ++ rest))) : W p l e R s m args below meth c H locs k w Q (F0 m pc ls st0) := by
  intro T hT X
  obtain ⟨v, st₀, t, T', L, h0, X', hL, e1, e2, ⟨⟨v', σ', n', hv, hp, hn, hP⟩, hz, hk⟩, st⟩ := hr T hT X
  cases hv
  rw [h0] at hz hk
  obtain ⟨t2, a1, b1⟩ := kk v σ' n' T'.heap (locs ++ L) hp (by rw [e1]; exact hn) (by rw [e1]; exact hP)
    ⟨Nat.le_trans hV.1 (by rw [e1]; exact hz), fun q h1 h2 => by rw [e1, hk q (Nat.lt_of_lt_of_le h1 hV.1) h2]; exact hV.2.1 q h1 h2, fun q hq => by
      rcases List.mem_append.mp hq with h | h
      · exact hV.2.2 q h
      · exact hL q h⟩ T' rfl X'
  exact ⟨t2, st t2 a1, b1⟩
end ZC
theorem zFB {E : ZEX} {av : List Value} {σ : ZHp} {n : Nat} (hE : ZEOK E) : FrameBlind (zPg E av σ n) := fun a U g mk q => ⟨q.1, q.2.1, q.2.2.1, ZENV.go (u := U) (U := U.calling g mk a) hE q.2.2.2 (State.WarmedH.refl U) (Nat.le_refl _) (fun _ _ _ => rfl)⟩
theorem zPS {E : ZEX} {av : List Value} {σ : ZHp} {n : Nat} {s : State} {H : Heap} {locs : List Loc} (hE : ZEOK E) (hENV : ZENV E s s.heap) (hV : va_S (zAB E) s.heap H locs) (hsz : H.size = n) (hP : ZHP E σ H) : ∀ U : State, U.heap = H → s.WarmedH U.vm → zPg E av σ n av.toArray U := fun U hU hW => ⟨rfl, by rw [hU]; exact hsz, by rw [hU]; exact hP, ZENV.go hE hENV hW (by rw [hU]; exact hV.1) (fun a h1 h2 => by rw [hU]; exact hV.2.1 a h1 h2)⟩
/-- what a call needs of the callee, whoever calls -/
def ZMC (Mc : ZMY) (na : Nat) : Prop := ZWd (.code Mc.1 Mc.2.1 Mc.2.2.1 Mc.2.2.2) ∧ ZWd (.initialized Mc.1.cls) ∧ (Mc.1.cls ≠ "java/lang/invoke/MethodHandle" ∧ Mc.1.cls ≠ "java/lang/invoke/VarHandle" ∧ (parseMethodDescriptor Mc.1.desc).map (fun d => d.parameters.length) = some na) ∧ Mc.2.2.1 ≤ 45
theorem zgood {Mc : ZMY} {na : Nat} (h : ZMC Mc na) : GoodIn zallW (zwsM Mc) := fun w hw => by
  rcases List.mem_cons.mp hw with e | e
  · subst e
    exact ⟨h.1.all, good_of_word h.1.2⟩
  · exact ⟨e, good_of_word (List.mem_filter.mp e).2⟩
theorem zRm {d d' mL R1 R2 : Nat} (h : d' < d) (h1 : d ≤ R1) (h2 : 64 * d ≤ R2) (h3 : mL ≤ 45) : d' + 1 ≤ R1 ∧ 8 + (mL + 11) + 64 * d' ≤ R2 := by omega
def s_callV (E : ZEX) (d mc ms ci : Nat) (Mc : ZMY) (na nx : Nat) : ZStep := fun L st σ n k w K G R T => match st.drop na with
  | .ref a :: rest => zobj σ a ci ∧ zcs rest ≤ 8 ∧ (st.take na).length = na ∧ zcall E d mc ms Mc (.ref a :: (st.take na).reverse) σ n k w (fun v σ' n' k' w' => G nx L (v.toList ++ rest) σ' n' k' w')
  | _ => False
theorem r_callV {E : ZEX} {X : ZMX} {M : ZMY} {d mc ms : Nat} {P : ZPT} {T : ZTT} (h : ZCX E X M d mc ms P T) {pc : Nat} {ix : Nat} (hd : decode M.2.1 pc = .ok (.invokevirtual ix, 3)) {ci : Nat} {C : String} {Tb : u_T} {N : Nat} (hC : ZCK ci C Tb N) {Mc : ZMY} (na : Nat) (hM : ZMC Mc na) (hin : ZWd (.instanceMethod Mc.1)) (hlk9 : ZWd (.methodLink M.1.cls ix Mc.1)) (hse : ZWd (.selects C Mc.1 Mc.1)) (hcl9 : Mc.1.cls = C) : ZRow E X M mc ms P T pc (s_callV E d mc ms ci Mc na (pc + 3)) := by
  obtain ⟨p, l, e, R, s, m, args, below, meth, c, Q⟩ := X
  obtain ⟨hE, hx, hb, hml, hr, hlk, hown, hts, hENV, hfr, hlo, hce, hsl, hnm, hQ, hT⟩ := h
  intro K hK L st σ n k w hS H locs ls hsz hP hV hL
  unfold s_callV at hS
  split at hS
  · rename_i a rest hdr
    obtain ⟨ho, hcs, hna, d', mc', ms', P', hsp, hd', hmc', hms', hgo⟩ := hS
    have hst : st = ((st.take na).reverse).reverse ++ .ref a :: rest := by rw [List.reverse_reverse, ← hdr]; exact (List.take_append_drop na st).symm
    have htsA : ∀ w ∈ zallW, w.before args s = true := fun w hw => hts w (List.mem_filter.mp hw)
    have hl9 : ((st.take na).reverse).length = na := by rw [List.length_reverse]; exact hna
    unfold zcs at hcs
    have hRm := zRm (mL := Mc.2.2.1) hd' hfr hlo hM.2.2.2
    obtain ⟨fs, hg⟩ := zobj_at ho
    have hrc := va_recv hENV.1 (hP.one hg) hC.1 (q0 := 0) rfl
    have hini9 : ZWd (.initialized C) := by rw [← hcl9]; exact hM.2.1
    refine zgo (va_runV (As := (st.take na).reverse) (rest := rest) ⟨hx, hb, hml, hown, htsA⟩ (hsp l) (cwV na htsA (fun w hw => by simp only [wsV, List.mem_append, List.mem_cons, List.not_mem_nil, or_false] at hw; rcases hw with (rfl | rfl | rfl | rfl) | hw <;> first | exact ⟨hlk9.all, good_of_word hlk9.2⟩ | exact ⟨hin.all, good_of_word hin.2⟩ | exact ⟨hse.all, good_of_word hse.2⟩ | exact ⟨hini9.all, good_of_word hini9.2⟩ | exact zgood hM w hw) rfl rfl rfl ⟨hcl9, hM.2.2.1⟩ hRm) ⟨zFB hE, hrc, zPS hE hENV hV hsz hP⟩ rfl hl9 hL.1 hst (by show 2 * 0 + _ ≤ 8; omega) hd ⟨by omega, by omega⟩) hV (fun v σ' n' H1 locs1 hp1 hn1 hP1 hV1 => hgo v σ' n' hp1 H1 locs1 ls hn1 hP1 hV1 hL)
  · exact hS.elim
theorem hlkT (i : Nat) (y : MethodName) {own host : String} : (Cond.methodLinkNest own i y host).onTables = true := by first | rfl | simp [Cond.onTables]
theorem r_callVN {E : ZEX} {X : ZMX} {M : ZMY} {d mc ms : Nat} {P : ZPT} {T : ZTT} (h : ZCX E X M d mc ms P T) {pc : Nat} {ix : Nat} (hd : decode M.2.1 pc = .ok (.invokevirtual ix, 3)) {ci : Nat} {C : String} {Tb : u_T} {N : Nat} (hC : ZCK ci C Tb N) {Mc : ZMY} (na : Nat) (hM : ZMC Mc na) (hin : ZWd (.instanceMethod Mc.1)) {host : String} (hlk9 : ZWn (.methodLinkNest M.1.cls ix Mc.1 host)) (hse : ZWd (.selects C Mc.1 Mc.1)) : ZRow E X M mc ms P T pc (s_callV E d mc ms ci Mc na (pc + 3)) := by
  obtain ⟨p, l, e, R, s, m, args, below, meth, c, Q⟩ := X
  obtain ⟨hE, hx, hb, hml, hr, hlk, hown, hts, hENV, hfr, hlo, hce, hsl, hnm, hQ, hT⟩ := h
  intro K hK L st σ n k w hS H locs ls hsz hP hV hL
  unfold s_callV at hS
  split at hS
  · rename_i a rest hdr
    obtain ⟨ho, hcs, hna, d', mc', ms', P', hsp, hd', hmc', hms', hgo⟩ := hS
    have hst : st = ((st.take na).reverse).reverse ++ .ref a :: rest := by rw [List.reverse_reverse, ← hdr]; exact (List.take_append_drop na st).symm
    have htsA : ∀ w ∈ zallW, w.before args s = true := fun w hw => hts w (List.mem_filter.mp hw)
    have hl9 : ((st.take na).reverse).length = na := by rw [List.length_reverse]; exact hna
    unfold zcs at hcs
    have hRm := zRm (mL := Mc.2.2.1) hd' hfr hlo hM.2.2.2
    obtain ⟨fs, hg⟩ := zobj_at ho
    have hrc := va_recv hENV.1 (hP.one hg) hC.1 (q0 := 0) rfl
    refine zgo (va_runVN (As := (st.take na).reverse) (rest := rest) ⟨hx, hb, hml, hown, htsA⟩ (hsp l) ⟨va_cnB na htsA (zgood hM) rfl rfl rfl (zx_nst hE hENV.2.1 hlk9) (hts _ hM.2.1) hM.2.2.1 hRm, hts _ hin, hts _ hse⟩ ⟨zFB hE, hrc, zPS hE hENV hV hsz hP⟩ rfl hl9 hL.1 hst (by show 2 * 0 + _ ≤ 8; omega) hd ⟨by omega, by omega⟩) hV (fun v σ' n' H1 locs1 hp1 hn1 hP1 hV1 => hgo v σ' n' hp1 H1 locs1 ls hn1 hP1 hV1 hL)
  · exact hS.elim
def s_callK (E : ZEX) (d mc ms lo hi : Nat) (Mc : ZMY) (na nx : Nat) : ZStep := fun L st σ n k w K G R T => match st.drop na with
  | .ref a :: rest => zisK E lo hi a ∧ zcs rest ≤ 8 ∧ (st.take na).length = na ∧ zcall E d mc ms Mc (.ref a :: (st.take na).reverse) σ n k w (fun v σ' n' k' w' => G nx L (v.toList ++ rest) σ' n' k' w')
  | _ => False
theorem r_callK {E : ZEX} {X : ZMX} {M : ZMY} {d mc ms : Nat} {P : ZPT} {T : ZTT} (h : ZCX E X M d mc ms P T) {pc : Nat} {ix : Nat} (hd : decode M.2.1 pc = .ok (.invokevirtual ix, 3)) {lo hi : Nat} {C : String} (hO : ∀ j, lo ≤ j → j < hi → ∀ U H, zeF E U H → va_O C (zeK E j) (zAB E) U H) {Mc : ZMY} (na : Nat) (hM : ZMC Mc na) (hin : ZWd (.instanceMethod Mc.1)) (hlk9 : ZWd (.methodLink M.1.cls ix Mc.1)) (hse : ZWd (.selects C Mc.1 Mc.1)) (hcl9 : Mc.1.cls = C) : ZRow E X M mc ms P T pc (s_callK E d mc ms lo hi Mc na (pc + 3)) := by
  obtain ⟨p, l, e, R, s, m, args, below, meth, c, Q⟩ := X
  obtain ⟨hE, hx, hb, hml, hr, hlk, hown, hts, hENV, hfr, hlo, hce, hsl, hnm, hQ, hT⟩ := h
  intro K hK L st σ n k w hS H locs ls hsz hP hV hL
  unfold s_callK at hS
  split at hS
  · rename_i a rest hdr
    obtain ⟨ho, hcs, hna, d', mc', ms', P', hsp, hd', hmc', hms', hgo⟩ := hS
    have hst : st = ((st.take na).reverse).reverse ++ .ref a :: rest := by rw [List.reverse_reverse, ← hdr]; exact (List.take_append_drop na st).symm
    have htsA : ∀ w ∈ zallW, w.before args s = true := fun w hw => hts w (List.mem_filter.mp hw)
    have hl9 : ((st.take na).reverse).length = na := by rw [List.length_reverse]; exact hna
    unfold zcs at hcs
    have hRm := zRm (mL := Mc.2.2.1) hd' hfr hlo hM.2.2.2
    obtain ⟨j9, hj1, hj2, hv9⟩ := ho
    have hrc : ∃ cellB : Cell, H[a]? = some cellB ∧ cellB.vm.isStatics = false ∧ s.vm.findClass C = some cellB.cls := by
      rw [hv9]
      obtain ⟨cellV, g0, g3, g2, g4⟩ := hO j9 hj1 hj2 _ _ hENV.2.1
      exact ⟨cellV, by rw [hV.2.1 _ (Array.getElem?_eq_some_iff.mp g0).1 g4]; exact g0, g3, g2⟩
    have hini9 : ZWd (.initialized C) := by rw [← hcl9]; exact hM.2.1
    refine zgo (va_runV (As := (st.take na).reverse) (rest := rest) ⟨hx, hb, hml, hown, htsA⟩ (hsp l) (cwV na htsA (fun w hw => by simp only [wsV, List.mem_append, List.mem_cons, List.not_mem_nil, or_false] at hw; rcases hw with (rfl | rfl | rfl | rfl) | hw <;> first | exact ⟨hlk9.all, good_of_word hlk9.2⟩ | exact ⟨hin.all, good_of_word hin.2⟩ | exact ⟨hse.all, good_of_word hse.2⟩ | exact ⟨hini9.all, good_of_word hini9.2⟩ | exact zgood hM w hw) rfl rfl rfl ⟨hcl9, hM.2.2.1⟩ hRm) ⟨zFB hE, hrc, zPS hE hENV hV hsz hP⟩ rfl hl9 hL.1 hst (by show 2 * 0 + _ ≤ 8; omega) hd ⟨by omega, by omega⟩) hV (fun v σ' n' H1 locs1 hp1 hn1 hP1 hV1 => hgo v σ' n' hp1 H1 locs1 ls hn1 hP1 hV1 hL)
  · exact hS.elim
theorem r_callKN {E : ZEX} {X : ZMX} {M : ZMY} {d mc ms : Nat} {P : ZPT} {T : ZTT} (h : ZCX E X M d mc ms P T) {pc : Nat} {ix : Nat} (hd : decode M.2.1 pc = .ok (.invokevirtual ix, 3)) {lo hi : Nat} {C : String} (hO : ∀ j, lo ≤ j → j < hi → ∀ U H, zeF E U H → va_O C (zeK E j) (zAB E) U H) {Mc : ZMY} (na : Nat) (hM : ZMC Mc na) (hin : ZWd (.instanceMethod Mc.1)) {host : String} (hlk9 : ZWn (.methodLinkNest M.1.cls ix Mc.1 host)) (hse : ZWd (.selects C Mc.1 Mc.1)) : ZRow E X M mc ms P T pc (s_callK E d mc ms lo hi Mc na (pc + 3)) := by
  obtain ⟨p, l, e, R, s, m, args, below, meth, c, Q⟩ := X
  obtain ⟨hE, hx, hb, hml, hr, hlk, hown, hts, hENV, hfr, hlo, hce, hsl, hnm, hQ, hT⟩ := h
  intro K hK L st σ n k w hS H locs ls hsz hP hV hL
  unfold s_callK at hS
  split at hS
  · rename_i a rest hdr
    obtain ⟨ho, hcs, hna, d', mc', ms', P', hsp, hd', hmc', hms', hgo⟩ := hS
    have hst : st = ((st.take na).reverse).reverse ++ .ref a :: rest := by rw [List.reverse_reverse, ← hdr]; exact (List.take_append_drop na st).symm
    have htsA : ∀ w ∈ zallW, w.before args s = true := fun w hw => hts w (List.mem_filter.mp hw)
    have hl9 : ((st.take na).reverse).length = na := by rw [List.length_reverse]; exact hna
    unfold zcs at hcs
    have hRm := zRm (mL := Mc.2.2.1) hd' hfr hlo hM.2.2.2
    obtain ⟨j9, hj1, hj2, hv9⟩ := ho
    have hrc : ∃ cellB : Cell, H[a]? = some cellB ∧ cellB.vm.isStatics = false ∧ s.vm.findClass C = some cellB.cls := by
      rw [hv9]
      obtain ⟨cellV, g0, g3, g2, g4⟩ := hO j9 hj1 hj2 _ _ hENV.2.1
      exact ⟨cellV, by rw [hV.2.1 _ (Array.getElem?_eq_some_iff.mp g0).1 g4]; exact g0, g3, g2⟩
    refine zgo (va_runVN (As := (st.take na).reverse) (rest := rest) ⟨hx, hb, hml, hown, htsA⟩ (hsp l) ⟨va_cnB na htsA (zgood hM) rfl rfl rfl (zx_nst hE hENV.2.1 hlk9) (hts _ hM.2.1) hM.2.2.1 hRm, hts _ hin, hts _ hse⟩ ⟨zFB hE, hrc, zPS hE hENV hV hsz hP⟩ rfl hl9 hL.1 hst (by show 2 * 0 + _ ≤ 8; omega) hd ⟨by omega, by omega⟩) hV (fun v σ' n' H1 locs1 hp1 hn1 hP1 hV1 => hgo v σ' n' hp1 H1 locs1 ls hn1 hP1 hV1 hL)
  · exact hS.elim
def s_callS (E : ZEX) (d mc ms : Nat) (Mc : ZMY) (na nx : Nat) : ZStep := fun L st σ n k w K G R T => zcs (st.drop na) ≤ 8 ∧ (st.take na).length = na ∧ zcall E d mc ms Mc ((st.take na).reverse) σ n k w (fun v σ' n' k' w' => G nx L (v.toList ++ st.drop na) σ' n' k' w')
theorem r_callS {E : ZEX} {X : ZMX} {M : ZMY} {d mc ms : Nat} {P : ZPT} {T : ZTT} (h : ZCX E X M d mc ms P T) {pc : Nat} {ix : Nat} (hd : decode M.2.1 pc = .ok (.invokestatic ix, 3)) {Mc : ZMY} (na : Nat) (hM : ZMC Mc na) (hstt : ZWd (.static Mc.1)) (hlk9 : ZWd (.methodLink M.1.cls ix Mc.1)) : ZRow E X M mc ms P T pc (s_callS E d mc ms Mc na (pc + 3)) := by
  obtain ⟨p, l, e, R, s, m, args, below, meth, c, Q⟩ := X
  obtain ⟨hE, hx, hb, hml, hr, hlk, hown, hts, hENV, hfr, hlo, hce, hsl, hnm, hQ, hT⟩ := h
  intro K hK L st σ n k w hS H locs ls hsz hP hV hL
  unfold s_callS at hS
  obtain ⟨hcs, hna, d', mc', ms', P', hsp, hd', hmc', hms', hgo⟩ := hS
  have hst : st = ((st.take na).reverse).reverse ++ st.drop na := by rw [List.reverse_reverse]; exact (List.take_append_drop na st).symm
  have htsA : ∀ w ∈ zallW, w.before args s = true := fun w hw => hts w (List.mem_filter.mp hw)
  have hl9 : ((st.take na).reverse).length = na := by rw [List.length_reverse]; exact hna
  unfold zcs at hcs
  have hRm := zRm (mL := Mc.2.2.1) hd' hfr hlo hM.2.2.2
  exact zgo (va_runS (As := (st.take na).reverse) (rest := st.drop na) ⟨hx, hb, hml, hown, htsA⟩ (hsp l) (va_cwS na htsA (fun w hw => by simp only [va_wsS, List.mem_append, List.mem_cons, List.not_mem_nil, or_false] at hw; rcases hw with (rfl | rfl | rfl) | hw <;> first | exact ⟨hlk9.all, good_of_word hlk9.2⟩ | exact ⟨hstt.all, good_of_word hstt.2⟩ | exact ⟨hM.2.1.all, good_of_word hM.2.1.2⟩ | exact zgood hM w hw) rfl rfl rfl hM.2.2.1 hRm) ⟨zFB hE, zPS hE hENV hV hsz hP⟩ rfl hl9 hL.1 hst (by show 2 * 0 + _ ≤ 8; omega) hd ⟨by omega, by omega⟩) hV (fun v σ' n' H1 locs1 hp1 hn1 hP1 hV1 => hgo v σ' n' hp1 H1 locs1 ls hn1 hP1 hV1 hL)
theorem r_callSN {E : ZEX} {X : ZMX} {M : ZMY} {d mc ms : Nat} {P : ZPT} {T : ZTT} (h : ZCX E X M d mc ms P T) {pc : Nat} {ix : Nat} (hd : decode M.2.1 pc = .ok (.invokestatic ix, 3)) {Mc : ZMY} (na : Nat) (hM : ZMC Mc na) (hstt : ZWd (.static Mc.1)) {host : String} (hlk9 : ZWn (.methodLinkNest M.1.cls ix Mc.1 host)) : ZRow E X M mc ms P T pc (s_callS E d mc ms Mc na (pc + 3)) := by
  obtain ⟨p, l, e, R, s, m, args, below, meth, c, Q⟩ := X
  obtain ⟨hE, hx, hb, hml, hr, hlk, hown, hts, hENV, hfr, hlo, hce, hsl, hnm, hQ, hT⟩ := h
  intro K hK L st σ n k w hS H locs ls hsz hP hV hL
  unfold s_callS at hS
  obtain ⟨hcs, hna, d', mc', ms', P', hsp, hd', hmc', hms', hgo⟩ := hS
  have hst : st = ((st.take na).reverse).reverse ++ st.drop na := by rw [List.reverse_reverse]; exact (List.take_append_drop na st).symm
  have htsA : ∀ w ∈ zallW, w.before args s = true := fun w hw => hts w (List.mem_filter.mp hw)
  have hl9 : ((st.take na).reverse).length = na := by rw [List.length_reverse]; exact hna
  unfold zcs at hcs
  have hRm := zRm (mL := Mc.2.2.1) hd' hfr hlo hM.2.2.2
  exact zgo (va_runSN (As := (st.take na).reverse) (rest := st.drop na) ⟨hx, hb, hml, hown, htsA⟩ (hsp l) ⟨va_cnB na htsA (zgood hM) rfl rfl rfl (zx_nst hE hENV.2.1 hlk9) (hts _ hM.2.1) hM.2.2.1 hRm, hts _ hstt, trivial⟩ ⟨zFB hE, zPS hE hENV hV hsz hP⟩ rfl hl9 hL.1 hst (by show 2 * 0 + _ ≤ 8; omega) hd ⟨by omega, by omega⟩) hV (fun v σ' n' H1 locs1 hp1 hn1 hP1 hV1 => hgo v σ' n' hp1 H1 locs1 ls hn1 hP1 hV1 hL)
def s_callI (E : ZEX) (d mc ms : Nat) (Mc : ZMY) (na nx : Nat) : ZStep := fun L st σ n k w K G R T => match st.drop na with
  | .ref a :: rest => zcs rest ≤ 8 ∧ (st.take na).length = na ∧ zcall E d mc ms Mc (.ref a :: (st.take na).reverse) σ n k w (fun v σ' n' k' w' => G nx L (v.toList ++ rest) σ' n' k' w')
  | _ => False
theorem r_callI {E : ZEX} {X : ZMX} {M : ZMY} {d mc ms : Nat} {P : ZPT} {T : ZTT} (h : ZCX E X M d mc ms P T) {pc : Nat} {ix : Nat} (hd : decode M.2.1 pc = .ok (.invokespecial ix, 3)) {Mc : ZMY} (na : Nat) (hM : ZMC Mc na) (hin : ZWd (.instanceMethod Mc.1)) (hin9 : Mc.1.name = "<init>") (hrt9 : Mc.2.2.2 = none) (hlk9 : ZWd (.methodLink M.1.cls ix Mc.1)) : ZRow E X M mc ms P T pc (s_callI E d mc ms Mc na (pc + 3)) := by
  obtain ⟨p, l, e, R, s, m, args, below, meth, c, Q⟩ := X
  obtain ⟨hE, hx, hb, hml, hr, hlk, hown, hts, hENV, hfr, hlo, hce, hsl, hnm, hQ, hT⟩ := h
  intro K hK L st σ n k w hS H locs ls hsz hP hV hL
  unfold s_callI at hS
  split at hS
  · rename_i a rest hdr
    obtain ⟨hcs, hna, d', mc', ms', P', hsp, hd', hmc', hms', hgo⟩ := hS
    have hst : st = ((st.take na).reverse).reverse ++ .ref a :: rest := by rw [List.reverse_reverse, ← hdr]; exact (List.take_append_drop na st).symm
    have htsA : ∀ w ∈ zallW, w.before args s = true := fun w hw => hts w (List.mem_filter.mp hw)
    have hl9 : ((st.take na).reverse).length = na := by rw [List.length_reverse]; exact hna
    unfold zcs at hcs
    have hRm := zRm (mL := Mc.2.2.1) hd' hfr hlo hM.2.2.2
    refine zgo (va_runI (As := (st.take na).reverse) (rest := rest) ⟨hx, hb, hml, hown, htsA⟩ (hsp l) (cwI na htsA (zgood hM) (by show _ = Cond.code _ _ _ none :: zallW; rw [← hrt9]; rfl) rfl rfl (hts _ hM.2.1) (hts _ hlk9) (hts _ hin) hin9 hM.2.2.1 hRm) ⟨zFB hE, zPS hE hENV hV hsz hP⟩ rfl hl9 hL.1 hst (by show 2 * 0 + _ ≤ 8; omega) hd ⟨by omega, by omega⟩) hV (fun v σ' n' H1 locs1 hp1 hn1 hP1 hV1 => hgo v σ' n' hp1 H1 locs1 ls hn1 hP1 hV1 hL)
  · exact hS.elim
theorem r_callIN {E : ZEX} {X : ZMX} {M : ZMY} {d mc ms : Nat} {P : ZPT} {T : ZTT} (h : ZCX E X M d mc ms P T) {pc : Nat} {ix : Nat} (hd : decode M.2.1 pc = .ok (.invokespecial ix, 3)) {Mc : ZMY} (na : Nat) (hM : ZMC Mc na) (hin : ZWd (.instanceMethod Mc.1)) (hin9 : Mc.1.name = "<init>") (hrt9 : Mc.2.2.2 = none) {host : String} (hlk9 : ZWn (.methodLinkNest M.1.cls ix Mc.1 host)) : ZRow E X M mc ms P T pc (s_callI E d mc ms Mc na (pc + 3)) := by
  obtain ⟨p, l, e, R, s, m, args, below, meth, c, Q⟩ := X
  obtain ⟨hE, hx, hb, hml, hr, hlk, hown, hts, hENV, hfr, hlo, hce, hsl, hnm, hQ, hT⟩ := h
  intro K hK L st σ n k w hS H locs ls hsz hP hV hL
  unfold s_callI at hS
  split at hS
  · rename_i a rest hdr
    obtain ⟨hcs, hna, d', mc', ms', P', hsp, hd', hmc', hms', hgo⟩ := hS
    have hst : st = ((st.take na).reverse).reverse ++ .ref a :: rest := by rw [List.reverse_reverse, ← hdr]; exact (List.take_append_drop na st).symm
    have htsA : ∀ w ∈ zallW, w.before args s = true := fun w hw => hts w (List.mem_filter.mp hw)
    have hl9 : ((st.take na).reverse).length = na := by rw [List.length_reverse]; exact hna
    unfold zcs at hcs
    have hRm := zRm (mL := Mc.2.2.1) hd' hfr hlo hM.2.2.2
    refine zgo (va_runIN (As := (st.take na).reverse) (rest := rest) ⟨hx, hb, hml, hown, htsA⟩ (hsp l) ⟨va_cnB na htsA (zgood hM) (by show _ = Cond.code _ _ _ none :: zallW; rw [← hrt9]; rfl) rfl rfl (zx_nst hE hENV.2.1 hlk9) (hts _ hM.2.1) hM.2.2.1 hRm, hin9, hts _ hin⟩ ⟨zFB hE, zPS hE hENV hV hsz hP⟩ rfl hl9 hL.1 hst (by show 2 * 0 + _ ≤ 8; omega) hd ⟨by omega, by omega⟩) hV (fun v σ' n' H1 locs1 hp1 hn1 hP1 hV1 => hgo v σ' n' hp1 H1 locs1 ls hn1 hP1 hV1 hL)
  · exact hS.elim
