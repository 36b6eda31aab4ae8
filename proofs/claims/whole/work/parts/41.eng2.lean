/-! MORE OF THE ENGINE: String constants, a reference of which nothing is known -/
/-- what is taken of the JDK's own statics -/
def ZEY (E : ZEX) : Prop := ∀ (U : State) (H : Heap), zeF E U H → va_Zq "jdk/internal/util/Preconditions" "SIOOBE_FORMATTER" "Ljava/util/function/BiFunction;" (zAB E) U H ∧ vx_Zq Bundle.tN "UNASSIGNED_STACK" Bundle.steD (zAB E) U H ∧ vx_Zq Bundle.tN "SUPPRESSED_SENTINEL" Bundle.listD (zAB E) U H
theorem zx_strV {E : ZEX} (hE : ZEOK E) : ∀ j, 50 ≤ j → j < 123 → ∀ U H, zeF E U H → va_OF "java/lang/String" "value" "[B" (.ref (zeK E (150 + j))) (zeK E j) (zAB E) U H := fun j h1 h2 U H h => by
  have h3 := ((zx_S hE U H h).1 (j - 50) (by omega)).2.2.1
  try dsimp only at h3
  rw [show 50 + (j - 50) = j by omega, show 200 + (j - 50) = 150 + j by omega] at h3
  exact h3
theorem zx_strC {E : ZEX} (hE : ZEOK E) : ∀ j, 50 ≤ j → j < 123 → ∀ U H, zeF E U H → va_OF "java/lang/String" "coder" "B" (.int 0) (zeK E j) (zAB E) U H := fun j h1 h2 U H h => by
  have h3 := ((zx_S hE U H h).1 (j - 50) (by omega)).2.1
  try dsimp only at h3
  rw [show 50 + (j - 50) = j by omega] at h3
  exact h3
def s_alenB (E : ZEX) (nx : Nat) : ZStep := fun L st σ n k w K G R T => match st with
  | .ref a :: st => ∃ i, i < 73 ∧ a = zeK E (200 + i) ∧ G nx L (.int (nI (zlen.getD i 0)) :: st) σ n k w
  | _ => False
theorem r_alenB {E : ZEX} {X : ZMX} {M : ZMY} {d mc ms : Nat} {P : ZPT} {T : ZTT} (h : ZCX E X M d mc ms P T) {pc : Nat} (hd : decode M.2.1 pc = .ok (.arraylength, 1)) : ZRow E X M mc ms P T pc (s_alenB E (pc + 1)) := by
  obtain ⟨p, l, e, R, s, m, args, below, meth, c, Q⟩ := X
  obtain ⟨hE, hx, hb, hml, hr, hlk, hown, hts, hENV, hfr, hlo, hce, hsl, hnm, hQ, hT⟩ := h
  intro K hK L st σ n k w hS H locs ls hsz hP hV hL
  unfold s_alenB at hS
  split at hS
  · obtain ⟨i, hi, rfl, hS⟩ := hS
    exact va_tlen hx hb ((zx_S hE _ _ hENV.2.1).1 i hi).2.2.2 hV rfl hd (hS H locs ls hsz hP hV hL)
  · exact hS.elim
def s_baldB (E : ZEX) (nx : Nat) : ZStep := fun L st σ n k w K G R T => match st with
  | .int x :: .ref a :: st => ∃ i, i < 73 ∧ a = zeK E (200 + i) ∧ vp_in x (zlen.getD i 0) ∧ G nx L (.int ((zbyt.getD i []).getD x.toNatClampNeg 0) :: st) σ n k w
  | _ => False
theorem r_baldB {E : ZEX} {X : ZMX} {M : ZMY} {d mc ms : Nat} {P : ZPT} {T : ZTT} (h : ZCX E X M d mc ms P T) {pc : Nat} (hd : decode M.2.1 pc = .ok (.baload, 1)) : ZRow E X M mc ms P T pc (s_baldB E (pc + 1)) := by
  obtain ⟨p, l, e, R, s, m, args, below, meth, c, Q⟩ := X
  obtain ⟨hE, hx, hb, hml, hr, hlk, hown, hts, hENV, hfr, hlo, hce, hsl, hnm, hQ, hT⟩ := h
  intro K hK L st σ n k w hS H locs ls hsz hP hV hL
  unfold s_baldB at hS
  split at hS
  · obtain ⟨i, hi, rfl, hin, hS⟩ := hS
    exact va_tb hx hb ((zx_S hE _ _ hENV.2.1).1 i hi).2.2.2 hV hin rfl hd (hS H locs ls hsz hP hV hL)
  · exact hS.elim
def s_i2c (nx : Nat) : ZStep := fun L st σ n k w K G R T => match st with
  | .int x :: st => K nx L (.int (x.toUInt32 % 65536).toInt32 :: st) σ n k w
  | _ => False
theorem r_i2c {E : ZEX} {X : ZMX} {M : ZMY} {d mc ms : Nat} {P : ZPT} {T : ZTT} (h : ZCX E X M d mc ms P T) {pc : Nat} (hd : decode M.2.1 pc = .ok (.i2c, 1)) : ZRow E X M mc ms P T pc (s_i2c (pc + 1)) := by
  obtain ⟨p, l, e, R, s, m, args, below, meth, c, Q⟩ := X
  obtain ⟨hE, hx, hb, hml, hr, hlk, hown, hts, hENV, hfr, hlo, hce, hsl, hnm, hQ, hT⟩ := h
  intro K hK L st σ n k w hS H locs ls hsz hP hV hL
  unfold s_i2c at hS
  split at hS
  · exact lv_i2c hx hb hd rfl (hK _ _ _ _ _ _ _ hS H locs ls hsz hP hV hL)
  · exact hS.elim
def s_nreturn (ty : FieldType) : ZStep := fun L st σ n k w K G R T => match st with
  | [.int x] => narrow ty (.int x) = .int x ∧ R (some (.int x)) σ n k w
  | _ => False
theorem r_nreturn {E : ZEX} {X : ZMX} {M : ZMY} {d mc ms : Nat} {P : ZPT} {T : ZTT} (h : ZCX E X M d mc ms P T) {pc : Nat} {ty : FieldType} (hd : decode M.2.1 pc = .ok (.ireturn, 1)) (hrt : M.2.2.2 = some ty) : ZRow E X M mc ms P T pc (s_nreturn ty) := by
  obtain ⟨p, l, e, R, s, m, args, below, meth, c, Q⟩ := X
  obtain ⟨hE, hx, hb, hml, hr, hlk, hown, hts, hENV, hfr, hlo, hce, hsl, hnm, hQ, hT⟩ := h
  intro K hK L st σ n k w hS H locs ls hsz hP hV hL
  unfold s_nreturn at hS
  split at hS
  · obtain ⟨h0, h1, h2, h3⟩ := hS
    refine hQ _ _ _ _ _ (W.widen h2 h3 ?_)
    exact W.zret hx hb (by rw [hr, hrt]) h0 (fun t ht hW => ⟨⟨_, _, _, rfl, h1, by rw [ht]; exact hsz, by rw [ht]; exact hP⟩, hV.F ht⟩) hV.2.2 hd hlk
  · exact hS.elim
def s_anyref (nx : Nat) : ZStep := fun L st σ n k w K G R T => (∀ a, K nx L (.ref a :: st) σ n k w) ∧ K nx L (.null :: st) σ n k w
theorem r_anyref {E : ZEX} {X : ZMX} {M : ZMY} {d mc ms : Nat} {P : ZPT} {T : ZTT} (h : ZCX E X M d mc ms P T) {pc : Nat} {ix : Nat} (hd : decode M.2.1 pc = .ok (.getstatic ix, 3)) {C nm dd : String} (hZ : ∀ U H, zeF E U H → va_Zq C nm dd (zAB E) U H) (hw : ZWd (.fieldLink M.1.cls ix C nm dd)) : ZRow E X M mc ms P T pc (s_anyref (pc + 3)) := by
  obtain ⟨p, l, e, R, s, m, args, below, meth, c, Q⟩ := X
  obtain ⟨hE, hx, hb, hml, hr, hlk, hown, hts, hENV, hfr, hlo, hce, hsl, hnm, hQ, hT⟩ := h
  intro K hK L st σ n k w hS H locs ls hsz hP hV hL
  unfold s_anyref at hS
  rcases hZ _ _ hENV.2.1 with h9 | ⟨t9, h9⟩
  · exact va_gets hx hb h9 hV hown (hts _ hw) (fun _ h8 => h8) hd (hK _ _ _ _ _ _ _ hS.2 H locs ls hsz hP hV hL)
  · exact va_gets hx hb h9 hV hown (hts _ hw) (fun _ h8 => h8) hd (hK _ _ _ _ _ _ _ (hS.1 t9) H locs ls hsz hP hV hL)
