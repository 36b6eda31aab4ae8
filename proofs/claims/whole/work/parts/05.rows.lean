def s_const (v : Value) (nx : Nat) : ZStep := fun L st σ n k w K G R T => K nx L (v :: st) σ n k w
theorem r_iconst {E : ZEX} {X : ZMX} {M : ZMY} {d mc ms : Nat} {P : ZPT} {T : ZTT} (h : ZCX E X M d mc ms P T) {pc : Nat} {z : Int} (hd : decode M.2.1 pc = .ok (.iconst z, 1)) (v : Int32) (hv : Int32.ofInt z = v) : ZRow E X M mc ms P T pc (s_const (.int v) (pc + 1)) := by
  obtain ⟨p, l, e, R, s, m, args, below, meth, c, Q⟩ := X
  obtain ⟨hE, hx, hb, hml, hr, hlk, hown, hts, hENV, hfr, hlo, hce, hsl, hnm, hQ, hT⟩ := h
  intro K hK L st σ n k w hS H locs ls hsz hP hV hL
  exact lv_iconst hx hb hd hv (hK _ _ _ _ _ _ _ hS H locs ls hsz hP hV hL)
theorem r_bipush {E : ZEX} {X : ZMX} {M : ZMY} {d mc ms : Nat} {P : ZPT} {T : ZTT} (h : ZCX E X M d mc ms P T) {pc : Nat} {z : Int} (hd : decode M.2.1 pc = .ok (.bipush z, 2)) (v : Int32) (hv : (Int8.ofInt z).toInt32 = v) : ZRow E X M mc ms P T pc (s_const (.int v) (pc + 2)) := by
  obtain ⟨p, l, e, R, s, m, args, below, meth, c, Q⟩ := X
  obtain ⟨hE, hx, hb, hml, hr, hlk, hown, hts, hENV, hfr, hlo, hce, hsl, hnm, hQ, hT⟩ := h
  intro K hK L st σ n k w hS H locs ls hsz hP hV hL
  exact lv_bipush hx hb hd hv (hK _ _ _ _ _ _ _ hS H locs ls hsz hP hV hL)
theorem r_sipush {E : ZEX} {X : ZMX} {M : ZMY} {d mc ms : Nat} {P : ZPT} {T : ZTT} (h : ZCX E X M d mc ms P T) {pc : Nat} {z : Int} (hd : decode M.2.1 pc = .ok (.sipush z, 3)) (v : Int32) (hv : (Int16.ofInt z).toInt32 = v) : ZRow E X M mc ms P T pc (s_const (.int v) (pc + 3)) := by
  obtain ⟨p, l, e, R, s, m, args, below, meth, c, Q⟩ := X
  obtain ⟨hE, hx, hb, hml, hr, hlk, hown, hts, hENV, hfr, hlo, hce, hsl, hnm, hQ, hT⟩ := h
  intro K hK L st σ n k w hS H locs ls hsz hP hV hL
  exact lv_sipush hx hb hd hv (hK _ _ _ _ _ _ _ hS H locs ls hsz hP hV hL)
theorem r_lconst {E : ZEX} {X : ZMX} {M : ZMY} {d mc ms : Nat} {P : ZPT} {T : ZTT} (h : ZCX E X M d mc ms P T) {pc : Nat} {z : Fin 2} (hd : decode M.2.1 pc = .ok (.lconst z, 1)) (v : Int64) (hv : Int64.ofNat (z : Nat) = v) : ZRow E X M mc ms P T pc (s_const (.long v) (pc + 1)) := by
  obtain ⟨p, l, e, R, s, m, args, below, meth, c, Q⟩ := X
  obtain ⟨hE, hx, hb, hml, hr, hlk, hown, hts, hENV, hfr, hlo, hce, hsl, hnm, hQ, hT⟩ := h
  intro K hK L st σ n k w hS H locs ls hsz hP hV hL
  exact lv_lconst hx hb hd hv (hK _ _ _ _ _ _ _ hS H locs ls hsz hP hV hL)
theorem r_dconst0 {E : ZEX} {X : ZMX} {M : ZMY} {d mc ms : Nat} {P : ZPT} {T : ZTT} (h : ZCX E X M d mc ms P T) {pc : Nat} (hd : decode M.2.1 pc = .ok (.dconst 0, 1)) : ZRow E X M mc ms P T pc (s_const (.double FP.dconst0) (pc + 1)) := by
  obtain ⟨p, l, e, R, s, m, args, below, meth, c, Q⟩ := X
  obtain ⟨hE, hx, hb, hml, hr, hlk, hown, hts, hENV, hfr, hlo, hce, hsl, hnm, hQ, hT⟩ := h
  intro K hK L st σ n k w hS H locs ls hsz hP hV hL
  exact lv_dconst0 hx hb hd (hK _ _ _ _ _ _ _ hS H locs ls hsz hP hV hL)
theorem r_null {E : ZEX} {X : ZMX} {M : ZMY} {d mc ms : Nat} {P : ZPT} {T : ZTT} (h : ZCX E X M d mc ms P T) {pc : Nat} (hd : decode M.2.1 pc = .ok (.aconst_null, 1)) : ZRow E X M mc ms P T pc (s_const .null (pc + 1)) := by
  obtain ⟨p, l, e, R, s, m, args, below, meth, c, Q⟩ := X
  obtain ⟨hE, hx, hb, hml, hr, hlk, hown, hts, hENV, hfr, hlo, hce, hsl, hnm, hQ, hT⟩ := h
  intro K hK L st σ n k w hS H locs ls hsz hP hV hL
  exact lv_null hx hb hd (hK _ _ _ _ _ _ _ hS H locs ls hsz hP hV hL)
theorem r_ldcI {E : ZEX} {X : ZMX} {M : ZMY} {d mc ms : Nat} {P : ZPT} {T : ZTT} (h : ZCX E X M d mc ms P T) {pc : Nat} {ix : Nat} (hd : decode M.2.1 pc = .ok (.ldc ix, 2)) (v : Int32) (hw : ZWd (.constant M.1.cls ix v)) : ZRow E X M mc ms P T pc (s_const (.int v) (pc + 2)) := by
  obtain ⟨p, l, e, R, s, m, args, below, meth, c, Q⟩ := X
  obtain ⟨hE, hx, hb, hml, hr, hlk, hown, hts, hENV, hfr, hlo, hce, hsl, hnm, hQ, hT⟩ := h
  intro K hK L st σ n k w hS H locs ls hsz hP hV hL
  exact lv_ldc hx hb hown (hts _ hw) hd (hK _ _ _ _ _ _ _ hS H locs ls hsz hP hV hL)
theorem r_ldc2L {E : ZEX} {X : ZMX} {M : ZMY} {d mc ms : Nat} {P : ZPT} {T : ZTT} (h : ZCX E X M d mc ms P T) {pc : Nat} {ix : Nat} (hd : decode M.2.1 pc = .ok (.ldc2_w ix, 3)) (v : Int64) (hw : ZWd (.constantLong M.1.cls ix v)) : ZRow E X M mc ms P T pc (s_const (.long v) (pc + 3)) := by
  obtain ⟨p, l, e, R, s, m, args, below, meth, c, Q⟩ := X
  obtain ⟨hE, hx, hb, hml, hr, hlk, hown, hts, hENV, hfr, hlo, hce, hsl, hnm, hQ, hT⟩ := h
  intro K hK L st σ n k w hS H locs ls hsz hP hV hL
  exact lv_ldc2 hx hb hown (hts _ hw) hd (hK _ _ _ _ _ _ _ hS H locs ls hsz hP hV hL)
theorem r_getstatic {E : ZEX} {X : ZMX} {M : ZMY} {d mc ms : Nat} {P : ZPT} {T : ZTT} (h : ZCX E X M d mc ms P T) {pc : Nat} {ix : Nat} (hd : decode M.2.1 pc = .ok (.getstatic ix, 3)) (v : Value) {C nm dd : String} (hZ : ∀ U H, zeF E U H → va_Z C nm dd v (zAB E) U H) (hw : ZWd (.fieldLink M.1.cls ix C nm dd)) : ZRow E X M mc ms P T pc (s_const v (pc + 3)) := by
  obtain ⟨p, l, e, R, s, m, args, below, meth, c, Q⟩ := X
  obtain ⟨hE, hx, hb, hml, hr, hlk, hown, hts, hENV, hfr, hlo, hce, hsl, hnm, hQ, hT⟩ := h
  intro K hK L st σ n k w hS H locs ls hsz hP hV hL
  exact va_gets hx hb (hZ _ _ hENV.2.1) hV hown (hts _ hw) (fun _ h9 => h9) hd (hK _ _ _ _ _ _ _ hS H locs ls hsz hP hV hL)
theorem r_getstaticN {E : ZEX} {X : ZMX} {M : ZMY} {d mc ms : Nat} {P : ZPT} {T : ZTT} (h : ZCX E X M d mc ms P T) {pc : Nat} {ix : Nat} (hd : decode M.2.1 pc = .ok (.getstatic ix, 3)) (v : Value) {C nm dd host : String} (hZ : ∀ U H, zeF E U H → va_Z C nm dd v (zAB E) U H) (hw : ZWn (.fieldLinkNest M.1.cls ix C nm dd host)) : ZRow E X M mc ms P T pc (s_const v (pc + 3)) := by
  obtain ⟨p, l, e, R, s, m, args, below, meth, c, Q⟩ := X
  obtain ⟨hE, hx, hb, hml, hr, hlk, hown, hts, hENV, hfr, hlo, hce, hsl, hnm, hQ, hT⟩ := h
  intro K hK L st σ n k w hS H locs ls hsz hP hV hL
  exact va_getsN hx hb (hZ _ _ hENV.2.1) hV hown (va_Nw.use rfl (zx_nst hE hENV.2.1 hw)) (fun _ h9 => h9) hd (hK _ _ _ _ _ _ _ hS H locs ls hsz hP hV hL)
theorem r_ldcS {E : ZEX} {X : ZMX} {M : ZMY} {d mc ms : Nat} {P : ZPT} {T : ZTT} (h : ZCX E X M d mc ms P T) {pc : Nat} {ix : Nat} (hd : decode M.2.1 pc = .ok (.ldc ix, 2)) (a : Nat) {tx : String} (hZ : ∀ U H, zeF E U H → vk_R M.1.cls ix tx a U) : ZRow E X M mc ms P T pc (s_const (.ref a) (pc + 2)) := by
  obtain ⟨p, l, e, R, s, m, args, below, meth, c, Q⟩ := X
  obtain ⟨hE, hx, hb, hml, hr, hlk, hown, hts, hENV, hfr, hlo, hce, hsl, hnm, hQ, hT⟩ := h
  intro K hK L st σ n k w hS H locs ls hsz hP hV hL
  exact va_ldcS hx hb hown (hZ _ _ hENV.2.1) hd (hK _ _ _ _ _ _ _ hS H locs ls hsz hP hV hL)
def s_iload (i nx : Nat) : ZStep := fun L st σ n k w K G R T => match L[i]? with
  | some (some (.int x)) => K nx L (.int x :: st) σ n k w
  | _ => False
theorem r_iload_n {E : ZEX} {X : ZMX} {M : ZMY} {d mc ms : Nat} {P : ZPT} {T : ZTT} (h : ZCX E X M d mc ms P T) {pc : Nat} {kf : Fin 4} (i : Nat) (hd : decode M.2.1 pc = .ok (.iload_n kf, 1)) (hi : (kf : Nat) = i) : ZRow E X M mc ms P T pc (s_iload i (pc + 1)) := by
  obtain ⟨p, l, e, R, s, m, args, below, meth, c, Q⟩ := X
  obtain ⟨hE, hx, hb, hml, hr, hlk, hown, hts, hENV, hfr, hlo, hce, hsl, hnm, hQ, hT⟩ := h
  intro K hK L st σ n k w hS H locs ls hsz hP hV hL
  unfold s_iload at hS
  split at hS
  · rename_i x hg
    exact lv_iload_n hx hb hd hi (hL.get hg) (hK _ _ _ _ _ _ _ hS H locs ls hsz hP hV hL)
  · exact hS.elim
theorem r_iload {E : ZEX} {X : ZMX} {M : ZMY} {d mc ms : Nat} {P : ZPT} {T : ZTT} (h : ZCX E X M d mc ms P T) {pc : Nat} (i : Nat) (hd : decode M.2.1 pc = .ok (.iload i, 2)) : ZRow E X M mc ms P T pc (s_iload i (pc + 2)) := by
  obtain ⟨p, l, e, R, s, m, args, below, meth, c, Q⟩ := X
  obtain ⟨hE, hx, hb, hml, hr, hlk, hown, hts, hENV, hfr, hlo, hce, hsl, hnm, hQ, hT⟩ := h
  intro K hK L st σ n k w hS H locs ls hsz hP hV hL
  unfold s_iload at hS
  split at hS
  · rename_i x hg
    exact lv_iload hx hb hd (hL.get hg) (hK _ _ _ _ _ _ _ hS H locs ls hsz hP hV hL)
  · exact hS.elim
def s_lload (i nx : Nat) : ZStep := fun L st σ n k w K G R T => match L[i]? with
  | some (some (.long x)) => K nx L (.long x :: st) σ n k w
  | _ => False
theorem r_lload_n {E : ZEX} {X : ZMX} {M : ZMY} {d mc ms : Nat} {P : ZPT} {T : ZTT} (h : ZCX E X M d mc ms P T) {pc : Nat} {kf : Fin 4} (i : Nat) (hd : decode M.2.1 pc = .ok (.lload_n kf, 1)) (hi : (kf : Nat) = i) : ZRow E X M mc ms P T pc (s_lload i (pc + 1)) := by
  obtain ⟨p, l, e, R, s, m, args, below, meth, c, Q⟩ := X
  obtain ⟨hE, hx, hb, hml, hr, hlk, hown, hts, hENV, hfr, hlo, hce, hsl, hnm, hQ, hT⟩ := h
  intro K hK L st σ n k w hS H locs ls hsz hP hV hL
  unfold s_lload at hS
  split at hS
  · rename_i x hg
    exact lv_lload_n hx hb hd hi (hL.get hg) (hK _ _ _ _ _ _ _ hS H locs ls hsz hP hV hL)
  · exact hS.elim
theorem r_lload {E : ZEX} {X : ZMX} {M : ZMY} {d mc ms : Nat} {P : ZPT} {T : ZTT} (h : ZCX E X M d mc ms P T) {pc : Nat} (i : Nat) (hd : decode M.2.1 pc = .ok (.lload i, 2)) : ZRow E X M mc ms P T pc (s_lload i (pc + 2)) := by
  obtain ⟨p, l, e, R, s, m, args, below, meth, c, Q⟩ := X
  obtain ⟨hE, hx, hb, hml, hr, hlk, hown, hts, hENV, hfr, hlo, hce, hsl, hnm, hQ, hT⟩ := h
  intro K hK L st σ n k w hS H locs ls hsz hP hV hL
  unfold s_lload at hS
  split at hS
  · rename_i x hg
    exact lv_lload hx hb hd (hL.get hg) (hK _ _ _ _ _ _ _ hS H locs ls hsz hP hV hL)
  · exact hS.elim
def s_dload (i nx : Nat) : ZStep := fun L st σ n k w K G R T => match L[i]? with
  | some (some (.double x)) => K nx L (.double x :: st) σ n k w
  | _ => False
theorem r_dload_n {E : ZEX} {X : ZMX} {M : ZMY} {d mc ms : Nat} {P : ZPT} {T : ZTT} (h : ZCX E X M d mc ms P T) {pc : Nat} {kf : Fin 4} (i : Nat) (hd : decode M.2.1 pc = .ok (.dload_n kf, 1)) (hi : (kf : Nat) = i) : ZRow E X M mc ms P T pc (s_dload i (pc + 1)) := by
  obtain ⟨p, l, e, R, s, m, args, below, meth, c, Q⟩ := X
  obtain ⟨hE, hx, hb, hml, hr, hlk, hown, hts, hENV, hfr, hlo, hce, hsl, hnm, hQ, hT⟩ := h
  intro K hK L st σ n k w hS H locs ls hsz hP hV hL
  unfold s_dload at hS
  split at hS
  · rename_i x hg
    exact lv_dload_n hx hb hd hi (hL.get hg) (hK _ _ _ _ _ _ _ hS H locs ls hsz hP hV hL)
  · exact hS.elim
theorem r_dload {E : ZEX} {X : ZMX} {M : ZMY} {d mc ms : Nat} {P : ZPT} {T : ZTT} (h : ZCX E X M d mc ms P T) {pc : Nat} (i : Nat) (hd : decode M.2.1 pc = .ok (.dload i, 2)) : ZRow E X M mc ms P T pc (s_dload i (pc + 2)) := by
  obtain ⟨p, l, e, R, s, m, args, below, meth, c, Q⟩ := X
  obtain ⟨hE, hx, hb, hml, hr, hlk, hown, hts, hENV, hfr, hlo, hce, hsl, hnm, hQ, hT⟩ := h
  intro K hK L st σ n k w hS H locs ls hsz hP hV hL
  unfold s_dload at hS
  split at hS
  · rename_i x hg
    exact lv_dload hx hb hd (hL.get hg) (hK _ _ _ _ _ _ _ hS H locs ls hsz hP hV hL)
  · exact hS.elim
def s_aload (i nx : Nat) : ZStep := fun L st σ n k w K G R T => match L[i]? with
  | some (some (.ref x)) => K nx L (.ref x :: st) σ n k w
  | some (some .null) => K nx L (.null :: st) σ n k w
  | _ => False
theorem r_aload_n {E : ZEX} {X : ZMX} {M : ZMY} {d mc ms : Nat} {P : ZPT} {T : ZTT} (h : ZCX E X M d mc ms P T) {pc : Nat} {kf : Fin 4} (i : Nat) (hd : decode M.2.1 pc = .ok (.aload_n kf, 1)) (hi : (kf : Nat) = i) : ZRow E X M mc ms P T pc (s_aload i (pc + 1)) := by
  obtain ⟨p, l, e, R, s, m, args, below, meth, c, Q⟩ := X
  obtain ⟨hE, hx, hb, hml, hr, hlk, hown, hts, hENV, hfr, hlo, hce, hsl, hnm, hQ, hT⟩ := h
  intro K hK L st σ n k w hS H locs ls hsz hP hV hL
  unfold s_aload at hS
  split at hS
  · rename_i x hg
    exact lv_aload_n hx hb hd hi (hL.get hg) (hK _ _ _ _ _ _ _ hS H locs ls hsz hP hV hL)
  · rename_i hg
    exact lv_aload_nN hx hb hd hi (hL.get hg) (hK _ _ _ _ _ _ _ hS H locs ls hsz hP hV hL)
  · exact hS.elim
theorem r_aload {E : ZEX} {X : ZMX} {M : ZMY} {d mc ms : Nat} {P : ZPT} {T : ZTT} (h : ZCX E X M d mc ms P T) {pc : Nat} (i : Nat) (hd : decode M.2.1 pc = .ok (.aload i, 2)) : ZRow E X M mc ms P T pc (s_aload i (pc + 2)) := by
  obtain ⟨p, l, e, R, s, m, args, below, meth, c, Q⟩ := X
  obtain ⟨hE, hx, hb, hml, hr, hlk, hown, hts, hENV, hfr, hlo, hce, hsl, hnm, hQ, hT⟩ := h
  intro K hK L st σ n k w hS H locs ls hsz hP hV hL
  unfold s_aload at hS
  split at hS
  · rename_i x hg
    exact lv_aload hx hb hd (hL.get hg) (hK _ _ _ _ _ _ _ hS H locs ls hsz hP hV hL)
  · rename_i hg
    exact lv_aloadN hx hb hd (hL.get hg) (hK _ _ _ _ _ _ _ hS H locs ls hsz hP hV hL)
  · exact hS.elim
def s_istore (i nx : Nat) : ZStep := fun L st σ n k w K G R T => match st with
  | .int x :: st => K nx (zs1 L i (.int x)) st σ n k w
  | _ => False
theorem r_istore_n {E : ZEX} {X : ZMX} {M : ZMY} {d mc ms : Nat} {P : ZPT} {T : ZTT} (h : ZCX E X M d mc ms P T) {pc : Nat} {kf : Fin 4} (i : Nat) (hd : decode M.2.1 pc = .ok (.istore_n kf, 1)) (hi : (kf : Nat) = i) (hn : i < M.2.2.1) : ZRow E X M mc ms P T pc (s_istore i (pc + 1)) := by
  obtain ⟨p, l, e, R, s, m, args, below, meth, c, Q⟩ := X
  obtain ⟨hE, hx, hb, hml, hr, hlk, hown, hts, hENV, hfr, hlo, hce, hsl, hnm, hQ, hT⟩ := h
  intro K hK L st σ n k w hS H locs ls hsz hP hV hL
  unfold s_istore at hS
  split at hS
  · exact lv_istore_n hx hb hd hi hL.has hn rfl (fun ls1 hL1 => hK _ _ _ _ _ _ _ hS H locs ls1 hsz hP hV (ZL.put1 hL.2.2.1 hL1))
  · exact hS.elim
theorem r_istore {E : ZEX} {X : ZMX} {M : ZMY} {d mc ms : Nat} {P : ZPT} {T : ZTT} (h : ZCX E X M d mc ms P T) {pc : Nat} (i : Nat) (hd : decode M.2.1 pc = .ok (.istore i, 2)) (hn : i < M.2.2.1) : ZRow E X M mc ms P T pc (s_istore i (pc + 2)) := by
  obtain ⟨p, l, e, R, s, m, args, below, meth, c, Q⟩ := X
  obtain ⟨hE, hx, hb, hml, hr, hlk, hown, hts, hENV, hfr, hlo, hce, hsl, hnm, hQ, hT⟩ := h
  intro K hK L st σ n k w hS H locs ls hsz hP hV hL
  unfold s_istore at hS
  split at hS
  · exact lv_istore hx hb hd hL.has hn rfl (fun ls1 hL1 => hK _ _ _ _ _ _ _ hS H locs ls1 hsz hP hV (ZL.put1 hL.2.2.1 hL1))
  · exact hS.elim
def s_lstore (i nx : Nat) : ZStep := fun L st σ n k w K G R T => match st with
  | .long x :: st => K nx (zs2 L i (.long x)) st σ n k w
  | _ => False
theorem r_lstore_n {E : ZEX} {X : ZMX} {M : ZMY} {d mc ms : Nat} {P : ZPT} {T : ZTT} (h : ZCX E X M d mc ms P T) {pc : Nat} {kf : Fin 4} (i : Nat) (hd : decode M.2.1 pc = .ok (.lstore_n kf, 1)) (hi : (kf : Nat) = i) (hn : i + 1 < M.2.2.1) : ZRow E X M mc ms P T pc (s_lstore i (pc + 1)) := by
  obtain ⟨p, l, e, R, s, m, args, below, meth, c, Q⟩ := X
  obtain ⟨hE, hx, hb, hml, hr, hlk, hown, hts, hENV, hfr, hlo, hce, hsl, hnm, hQ, hT⟩ := h
  intro K hK L st σ n k w hS H locs ls hsz hP hV hL
  unfold s_lstore at hS
  split at hS
  · exact lv_lstore_n hx hb hd hi hL.has hn rfl (fun ls1 hL1 => hK _ _ _ _ _ _ _ hS H locs ls1 hsz hP hV (ZL.put2 hL.2.2.1 hL1))
  · exact hS.elim
theorem r_lstore {E : ZEX} {X : ZMX} {M : ZMY} {d mc ms : Nat} {P : ZPT} {T : ZTT} (h : ZCX E X M d mc ms P T) {pc : Nat} (i : Nat) (hd : decode M.2.1 pc = .ok (.lstore i, 2)) (hn : i + 1 < M.2.2.1) : ZRow E X M mc ms P T pc (s_lstore i (pc + 2)) := by
  obtain ⟨p, l, e, R, s, m, args, below, meth, c, Q⟩ := X
  obtain ⟨hE, hx, hb, hml, hr, hlk, hown, hts, hENV, hfr, hlo, hce, hsl, hnm, hQ, hT⟩ := h
  intro K hK L st σ n k w hS H locs ls hsz hP hV hL
  unfold s_lstore at hS
  split at hS
  · exact lv_lstore hx hb hd hL.has hn rfl (fun ls1 hL1 => hK _ _ _ _ _ _ _ hS H locs ls1 hsz hP hV (ZL.put2 hL.2.2.1 hL1))
  · exact hS.elim
def s_dstore (i nx : Nat) : ZStep := fun L st σ n k w K G R T => match st with
  | .double x :: st => K nx (zs2 L i (.double x)) st σ n k w
  | _ => False
theorem r_dstore_n {E : ZEX} {X : ZMX} {M : ZMY} {d mc ms : Nat} {P : ZPT} {T : ZTT} (h : ZCX E X M d mc ms P T) {pc : Nat} {kf : Fin 4} (i : Nat) (hd : decode M.2.1 pc = .ok (.dstore_n kf, 1)) (hi : (kf : Nat) = i) (hn : i + 1 < M.2.2.1) : ZRow E X M mc ms P T pc (s_dstore i (pc + 1)) := by
  obtain ⟨p, l, e, R, s, m, args, below, meth, c, Q⟩ := X
  obtain ⟨hE, hx, hb, hml, hr, hlk, hown, hts, hENV, hfr, hlo, hce, hsl, hnm, hQ, hT⟩ := h
  intro K hK L st σ n k w hS H locs ls hsz hP hV hL
  unfold s_dstore at hS
  split at hS
  · exact lv_dstore_n hx hb hd hi hL.has hn rfl (fun ls1 hL1 => hK _ _ _ _ _ _ _ hS H locs ls1 hsz hP hV (ZL.put2 hL.2.2.1 hL1))
  · exact hS.elim
theorem r_dstore {E : ZEX} {X : ZMX} {M : ZMY} {d mc ms : Nat} {P : ZPT} {T : ZTT} (h : ZCX E X M d mc ms P T) {pc : Nat} (i : Nat) (hd : decode M.2.1 pc = .ok (.dstore i, 2)) (hn : i + 1 < M.2.2.1) : ZRow E X M mc ms P T pc (s_dstore i (pc + 2)) := by
  obtain ⟨p, l, e, R, s, m, args, below, meth, c, Q⟩ := X
  obtain ⟨hE, hx, hb, hml, hr, hlk, hown, hts, hENV, hfr, hlo, hce, hsl, hnm, hQ, hT⟩ := h
  intro K hK L st σ n k w hS H locs ls hsz hP hV hL
  unfold s_dstore at hS
  split at hS
  · exact lv_dstore hx hb hd hL.has hn rfl (fun ls1 hL1 => hK _ _ _ _ _ _ _ hS H locs ls1 hsz hP hV (ZL.put2 hL.2.2.1 hL1))
  · exact hS.elim
def s_astore (i nx : Nat) : ZStep := fun L st σ n k w K G R T => match st with
  | .ref x :: st => K nx (zs1 L i (.ref x)) st σ n k w
  | .null :: st => K nx (zs1 L i .null) st σ n k w
  | _ => False
theorem r_astore_n {E : ZEX} {X : ZMX} {M : ZMY} {d mc ms : Nat} {P : ZPT} {T : ZTT} (h : ZCX E X M d mc ms P T) {pc : Nat} {kf : Fin 4} (i : Nat) (hd : decode M.2.1 pc = .ok (.astore_n kf, 1)) (hi : (kf : Nat) = i) (hn : i < M.2.2.1) : ZRow E X M mc ms P T pc (s_astore i (pc + 1)) := by
  obtain ⟨p, l, e, R, s, m, args, below, meth, c, Q⟩ := X
  obtain ⟨hE, hx, hb, hml, hr, hlk, hown, hts, hENV, hfr, hlo, hce, hsl, hnm, hQ, hT⟩ := h
  intro K hK L st σ n k w hS H locs ls hsz hP hV hL
  unfold s_astore at hS
  split at hS
  · exact lv_astore_n hx hb hd hi hL.has hn rfl (fun ls1 hL1 => hK _ _ _ _ _ _ _ hS H locs ls1 hsz hP hV (ZL.put1 hL.2.2.1 hL1))
  · exact lv_astore_nN hx hb hd hi hL.has hn rfl (fun ls1 hL1 => hK _ _ _ _ _ _ _ hS H locs ls1 hsz hP hV (ZL.put1 hL.2.2.1 hL1))
  · exact hS.elim
theorem r_astore {E : ZEX} {X : ZMX} {M : ZMY} {d mc ms : Nat} {P : ZPT} {T : ZTT} (h : ZCX E X M d mc ms P T) {pc : Nat} (i : Nat) (hd : decode M.2.1 pc = .ok (.astore i, 2)) (hn : i < M.2.2.1) : ZRow E X M mc ms P T pc (s_astore i (pc + 2)) := by
  obtain ⟨p, l, e, R, s, m, args, below, meth, c, Q⟩ := X
  obtain ⟨hE, hx, hb, hml, hr, hlk, hown, hts, hENV, hfr, hlo, hce, hsl, hnm, hQ, hT⟩ := h
  intro K hK L st σ n k w hS H locs ls hsz hP hV hL
  unfold s_astore at hS
  split at hS
  · exact lv_astore hx hb hd hL.has hn rfl (fun ls1 hL1 => hK _ _ _ _ _ _ _ hS H locs ls1 hsz hP hV (ZL.put1 hL.2.2.1 hL1))
  · exact lv_astoreN hx hb hd hL.has hn rfl (fun ls1 hL1 => hK _ _ _ _ _ _ _ hS H locs ls1 hsz hP hV (ZL.put1 hL.2.2.1 hL1))
  · exact hS.elim
def s_iinc (i : Nat) (z : Int32) (nx : Nat) : ZStep := fun L st σ n k w K G R T => match L[i]? with
  | some (some (.int x)) => K nx (zs1 L i (.int (x + z))) st σ n k w
  | _ => False
theorem r_iinc {E : ZEX} {X : ZMX} {M : ZMY} {d mc ms : Nat} {P : ZPT} {T : ZTT} (h : ZCX E X M d mc ms P T) {pc : Nat} (i : Nat) {z : Int} (hd : decode M.2.1 pc = .ok (.iinc i z, 3)) (v : Int32) (hv : Int32.ofInt z = v) (hn : i < M.2.2.1) : ZRow E X M mc ms P T pc (s_iinc i v (pc + 3)) := by
  obtain ⟨p, l, e, R, s, m, args, below, meth, c, Q⟩ := X
  obtain ⟨hE, hx, hb, hml, hr, hlk, hown, hts, hENV, hfr, hlo, hce, hsl, hnm, hQ, hT⟩ := h
  intro K hK L st σ n k w hS H locs ls hsz hP hV hL
  unfold s_iinc at hS
  split at hS
  · rename_i x hg
    subst hv
    obtain ⟨j, hj⟩ := List.getElem?_of_mem (mem_zlvl.mpr hg)
    exact lv_iinc hx hb hd hL.has hj rfl hn rfl (fun ls1 hL1 => hK _ _ _ _ _ _ _ hS H locs ls1 hsz hP hV (ZL.put1 hL.2.2.1 hL1))
  · exact hS.elim
def s_iadd (nx : Nat) : ZStep := fun L st σ n k w K G R T => match st with
  | .int y :: .int x :: st => K nx L (.int (x + y) :: st) σ n k w
  | _ => False
theorem r_iadd {E : ZEX} {X : ZMX} {M : ZMY} {d mc ms : Nat} {P : ZPT} {T : ZTT} (h : ZCX E X M d mc ms P T) {pc : Nat} (hd : decode M.2.1 pc = .ok (.iadd, 1)) : ZRow E X M mc ms P T pc (s_iadd (pc + 1)) := by
  obtain ⟨p, l, e, R, s, m, args, below, meth, c, Q⟩ := X
  obtain ⟨hE, hx, hb, hml, hr, hlk, hown, hts, hENV, hfr, hlo, hce, hsl, hnm, hQ, hT⟩ := h
  intro K hK L st σ n k w hS H locs ls hsz hP hV hL
  unfold s_iadd at hS
  split at hS
  · exact lv_iadd hx hb hd (hK _ _ _ _ _ _ _ hS H locs ls hsz hP hV hL)
  · exact hS.elim
def s_isub (nx : Nat) : ZStep := fun L st σ n k w K G R T => match st with
  | .int y :: .int x :: st => K nx L (.int (x - y) :: st) σ n k w
  | _ => False
theorem r_isub {E : ZEX} {X : ZMX} {M : ZMY} {d mc ms : Nat} {P : ZPT} {T : ZTT} (h : ZCX E X M d mc ms P T) {pc : Nat} (hd : decode M.2.1 pc = .ok (.isub, 1)) : ZRow E X M mc ms P T pc (s_isub (pc + 1)) := by
  obtain ⟨p, l, e, R, s, m, args, below, meth, c, Q⟩ := X
  obtain ⟨hE, hx, hb, hml, hr, hlk, hown, hts, hENV, hfr, hlo, hce, hsl, hnm, hQ, hT⟩ := h
  intro K hK L st σ n k w hS H locs ls hsz hP hV hL
  unfold s_isub at hS
  split at hS
  · exact lv_isub hx hb hd (hK _ _ _ _ _ _ _ hS H locs ls hsz hP hV hL)
  · exact hS.elim
def s_imul (nx : Nat) : ZStep := fun L st σ n k w K G R T => match st with
  | .int y :: .int x :: st => K nx L (.int (x * y) :: st) σ n k w
  | _ => False
theorem r_imul {E : ZEX} {X : ZMX} {M : ZMY} {d mc ms : Nat} {P : ZPT} {T : ZTT} (h : ZCX E X M d mc ms P T) {pc : Nat} (hd : decode M.2.1 pc = .ok (.imul, 1)) : ZRow E X M mc ms P T pc (s_imul (pc + 1)) := by
  obtain ⟨p, l, e, R, s, m, args, below, meth, c, Q⟩ := X
  obtain ⟨hE, hx, hb, hml, hr, hlk, hown, hts, hENV, hfr, hlo, hce, hsl, hnm, hQ, hT⟩ := h
  intro K hK L st σ n k w hS H locs ls hsz hP hV hL
  unfold s_imul at hS
  split at hS
  · exact lv_imul hx hb hd (hK _ _ _ _ _ _ _ hS H locs ls hsz hP hV hL)
  · exact hS.elim
def s_iand (nx : Nat) : ZStep := fun L st σ n k w K G R T => match st with
  | .int y :: .int x :: st => K nx L (.int (x &&& y) :: st) σ n k w
  | _ => False
theorem r_iand {E : ZEX} {X : ZMX} {M : ZMY} {d mc ms : Nat} {P : ZPT} {T : ZTT} (h : ZCX E X M d mc ms P T) {pc : Nat} (hd : decode M.2.1 pc = .ok (.iand, 1)) : ZRow E X M mc ms P T pc (s_iand (pc + 1)) := by
  obtain ⟨p, l, e, R, s, m, args, below, meth, c, Q⟩ := X
  obtain ⟨hE, hx, hb, hml, hr, hlk, hown, hts, hENV, hfr, hlo, hce, hsl, hnm, hQ, hT⟩ := h
  intro K hK L st σ n k w hS H locs ls hsz hP hV hL
  unfold s_iand at hS
  split at hS
  · exact lv_iand hx hb hd (hK _ _ _ _ _ _ _ hS H locs ls hsz hP hV hL)
  · exact hS.elim
def s_ior (nx : Nat) : ZStep := fun L st σ n k w K G R T => match st with
  | .int y :: .int x :: st => K nx L (.int (x ||| y) :: st) σ n k w
  | _ => False
theorem r_ior {E : ZEX} {X : ZMX} {M : ZMY} {d mc ms : Nat} {P : ZPT} {T : ZTT} (h : ZCX E X M d mc ms P T) {pc : Nat} (hd : decode M.2.1 pc = .ok (.ior, 1)) : ZRow E X M mc ms P T pc (s_ior (pc + 1)) := by
  obtain ⟨p, l, e, R, s, m, args, below, meth, c, Q⟩ := X
  obtain ⟨hE, hx, hb, hml, hr, hlk, hown, hts, hENV, hfr, hlo, hce, hsl, hnm, hQ, hT⟩ := h
  intro K hK L st σ n k w hS H locs ls hsz hP hV hL
  unfold s_ior at hS
  split at hS
  · exact lv_ior hx hb hd (hK _ _ _ _ _ _ _ hS H locs ls hsz hP hV hL)
  · exact hS.elim
def s_idiv (nx : Nat) : ZStep := fun L st σ n k w K G R T => match st with
  | .int y :: .int x :: st => (¬ y = 0) ∧ K nx L (.int (x / y) :: st) σ n k w
  | _ => False
theorem r_idiv {E : ZEX} {X : ZMX} {M : ZMY} {d mc ms : Nat} {P : ZPT} {T : ZTT} (h : ZCX E X M d mc ms P T) {pc : Nat} (hd : decode M.2.1 pc = .ok (.idiv, 1)) : ZRow E X M mc ms P T pc (s_idiv (pc + 1)) := by
  obtain ⟨p, l, e, R, s, m, args, below, meth, c, Q⟩ := X
  obtain ⟨hE, hx, hb, hml, hr, hlk, hown, hts, hENV, hfr, hlo, hce, hsl, hnm, hQ, hT⟩ := h
  intro K hK L st σ n k w hS H locs ls hsz hP hV hL
  unfold s_idiv at hS
  split at hS
  · exact lv_idiv hx hb hd hS.1 (hK _ _ _ _ _ _ _ hS.2 H locs ls hsz hP hV hL)
  · exact hS.elim
def s_irem (nx : Nat) : ZStep := fun L st σ n k w K G R T => match st with
  | .int y :: .int x :: st => (¬ y = 0) ∧ K nx L (.int (x - x / y * y) :: st) σ n k w
  | _ => False
theorem r_irem {E : ZEX} {X : ZMX} {M : ZMY} {d mc ms : Nat} {P : ZPT} {T : ZTT} (h : ZCX E X M d mc ms P T) {pc : Nat} (hd : decode M.2.1 pc = .ok (.irem, 1)) : ZRow E X M mc ms P T pc (s_irem (pc + 1)) := by
  obtain ⟨p, l, e, R, s, m, args, below, meth, c, Q⟩ := X
  obtain ⟨hE, hx, hb, hml, hr, hlk, hown, hts, hENV, hfr, hlo, hce, hsl, hnm, hQ, hT⟩ := h
  intro K hK L st σ n k w hS H locs ls hsz hP hV hL
  unfold s_irem at hS
  split at hS
  · exact lv_irem hx hb hd hS.1 (hK _ _ _ _ _ _ _ hS.2 H locs ls hsz hP hV hL)
  · exact hS.elim
def s_ishr (nx : Nat) : ZStep := fun L st σ n k w K G R T => match st with
  | .int y :: .int x :: st => K nx L (.int (x >>> (y &&& 31)) :: st) σ n k w
  | _ => False
theorem r_ishr {E : ZEX} {X : ZMX} {M : ZMY} {d mc ms : Nat} {P : ZPT} {T : ZTT} (h : ZCX E X M d mc ms P T) {pc : Nat} (hd : decode M.2.1 pc = .ok (.ishr, 1)) : ZRow E X M mc ms P T pc (s_ishr (pc + 1)) := by
  obtain ⟨p, l, e, R, s, m, args, below, meth, c, Q⟩ := X
  obtain ⟨hE, hx, hb, hml, hr, hlk, hown, hts, hENV, hfr, hlo, hce, hsl, hnm, hQ, hT⟩ := h
  intro K hK L st σ n k w hS H locs ls hsz hP hV hL
  unfold s_ishr at hS
  split at hS
  · exact lv_ishr hx hb hd (hK _ _ _ _ _ _ _ hS H locs ls hsz hP hV hL)
  · exact hS.elim
def s_ladd (nx : Nat) : ZStep := fun L st σ n k w K G R T => match st with
  | .long y :: .long x :: st => K nx L (.long (x + y) :: st) σ n k w
  | _ => False
theorem r_ladd {E : ZEX} {X : ZMX} {M : ZMY} {d mc ms : Nat} {P : ZPT} {T : ZTT} (h : ZCX E X M d mc ms P T) {pc : Nat} (hd : decode M.2.1 pc = .ok (.ladd, 1)) : ZRow E X M mc ms P T pc (s_ladd (pc + 1)) := by
  obtain ⟨p, l, e, R, s, m, args, below, meth, c, Q⟩ := X
  obtain ⟨hE, hx, hb, hml, hr, hlk, hown, hts, hENV, hfr, hlo, hce, hsl, hnm, hQ, hT⟩ := h
  intro K hK L st σ n k w hS H locs ls hsz hP hV hL
  unfold s_ladd at hS
  split at hS
  · exact lv_ladd hx hb hd (hK _ _ _ _ _ _ _ hS H locs ls hsz hP hV hL)
  · exact hS.elim
def s_lmul (nx : Nat) : ZStep := fun L st σ n k w K G R T => match st with
  | .long y :: .long x :: st => K nx L (.long (x * y) :: st) σ n k w
  | _ => False
theorem r_lmul {E : ZEX} {X : ZMX} {M : ZMY} {d mc ms : Nat} {P : ZPT} {T : ZTT} (h : ZCX E X M d mc ms P T) {pc : Nat} (hd : decode M.2.1 pc = .ok (.lmul, 1)) : ZRow E X M mc ms P T pc (s_lmul (pc + 1)) := by
  obtain ⟨p, l, e, R, s, m, args, below, meth, c, Q⟩ := X
  obtain ⟨hE, hx, hb, hml, hr, hlk, hown, hts, hENV, hfr, hlo, hce, hsl, hnm, hQ, hT⟩ := h
  intro K hK L st σ n k w hS H locs ls hsz hP hV hL
  unfold s_lmul at hS
  split at hS
  · exact lv_lmul hx hb hd (hK _ _ _ _ _ _ _ hS H locs ls hsz hP hV hL)
  · exact hS.elim
def s_lcmp (nx : Nat) : ZStep := fun L st σ n k w K G R T => match st with
  | .long y :: .long x :: st => K nx L (.int (lg_cmp x y) :: st) σ n k w
  | _ => False
theorem r_lcmp {E : ZEX} {X : ZMX} {M : ZMY} {d mc ms : Nat} {P : ZPT} {T : ZTT} (h : ZCX E X M d mc ms P T) {pc : Nat} (hd : decode M.2.1 pc = .ok (.lcmp, 1)) : ZRow E X M mc ms P T pc (s_lcmp (pc + 1)) := by
  obtain ⟨p, l, e, R, s, m, args, below, meth, c, Q⟩ := X
  obtain ⟨hE, hx, hb, hml, hr, hlk, hown, hts, hENV, hfr, hlo, hce, hsl, hnm, hQ, hT⟩ := h
  intro K hK L st σ n k w hS H locs ls hsz hP hV hL
  unfold s_lcmp at hS
  split at hS
  · exact W.lcmp hx hb hd (hK _ _ _ _ _ _ _ hS H locs ls hsz hP hV hL)
  · exact hS.elim
def s_iushr (nx : Nat) : ZStep := fun L st σ n k w K G R T => match st with
  | .int y :: .int x :: st => K nx L (.int ((x.toUInt32 >>> (y.toUInt32 &&& Int32.toUInt32 31)).toInt32) :: st) σ n k w
  | _ => False
theorem r_iushr {E : ZEX} {X : ZMX} {M : ZMY} {d mc ms : Nat} {P : ZPT} {T : ZTT} (h : ZCX E X M d mc ms P T) {pc : Nat} (hd : decode M.2.1 pc = .ok (.iushr, 1)) : ZRow E X M mc ms P T pc (s_iushr (pc + 1)) := by
  obtain ⟨p, l, e, R, s, m, args, below, meth, c, Q⟩ := X
  obtain ⟨hE, hx, hb, hml, hr, hlk, hown, hts, hENV, hfr, hlo, hce, hsl, hnm, hQ, hT⟩ := h
  intro K hK L st σ n k w hS H locs ls hsz hP hV hL
  unfold s_iushr at hS
  split at hS
  · exact lv_iushr hx hb hd rfl (hK _ _ _ _ _ _ _ hS H locs ls hsz hP hV hL)
  · exact hS.elim
def s_ineg (nx : Nat) : ZStep := fun L st σ n k w K G R T => match st with
  | .int x :: st => K nx L (.int (-x) :: st) σ n k w
  | _ => False
theorem r_ineg {E : ZEX} {X : ZMX} {M : ZMY} {d mc ms : Nat} {P : ZPT} {T : ZTT} (h : ZCX E X M d mc ms P T) {pc : Nat} (hd : decode M.2.1 pc = .ok (.ineg, 1)) : ZRow E X M mc ms P T pc (s_ineg (pc + 1)) := by
  obtain ⟨p, l, e, R, s, m, args, below, meth, c, Q⟩ := X
  obtain ⟨hE, hx, hb, hml, hr, hlk, hown, hts, hENV, hfr, hlo, hce, hsl, hnm, hQ, hT⟩ := h
  intro K hK L st σ n k w hS H locs ls hsz hP hV hL
  unfold s_ineg at hS
  split at hS
  · exact lv_ineg hx hb hd (hK _ _ _ _ _ _ _ hS H locs ls hsz hP hV hL)
  · exact hS.elim
def s_i2l (nx : Nat) : ZStep := fun L st σ n k w K G R T => match st with
  | .int x :: st => K nx L (.long (x.toInt64) :: st) σ n k w
  | _ => False
theorem r_i2l {E : ZEX} {X : ZMX} {M : ZMY} {d mc ms : Nat} {P : ZPT} {T : ZTT} (h : ZCX E X M d mc ms P T) {pc : Nat} (hd : decode M.2.1 pc = .ok (.i2l, 1)) : ZRow E X M mc ms P T pc (s_i2l (pc + 1)) := by
  obtain ⟨p, l, e, R, s, m, args, below, meth, c, Q⟩ := X
  obtain ⟨hE, hx, hb, hml, hr, hlk, hown, hts, hENV, hfr, hlo, hce, hsl, hnm, hQ, hT⟩ := h
  intro K hK L st σ n k w hS H locs ls hsz hP hV hL
  unfold s_i2l at hS
  split at hS
  · exact lv_i2l hx hb hd rfl (hK _ _ _ _ _ _ _ hS H locs ls hsz hP hV hL)
  · exact hS.elim
def s_l2i (nx : Nat) : ZStep := fun L st σ n k w K G R T => match st with
  | .long x :: st => K nx L (.int (x.toInt32) :: st) σ n k w
  | _ => False
theorem r_l2i {E : ZEX} {X : ZMX} {M : ZMY} {d mc ms : Nat} {P : ZPT} {T : ZTT} (h : ZCX E X M d mc ms P T) {pc : Nat} (hd : decode M.2.1 pc = .ok (.l2i, 1)) : ZRow E X M mc ms P T pc (s_l2i (pc + 1)) := by
  obtain ⟨p, l, e, R, s, m, args, below, meth, c, Q⟩ := X
  obtain ⟨hE, hx, hb, hml, hr, hlk, hown, hts, hENV, hfr, hlo, hce, hsl, hnm, hQ, hT⟩ := h
  intro K hK L st σ n k w hS H locs ls hsz hP hV hL
  unfold s_l2i at hS
  split at hS
  · exact lv_l2i hx hb hd rfl (hK _ _ _ _ _ _ _ hS H locs ls hsz hP hV hL)
  · exact hS.elim
def s_i2b (nx : Nat) : ZStep := fun L st σ n k w K G R T => match st with
  | .int x :: st => K nx L (.int (x.toInt8.toInt32) :: st) σ n k w
  | _ => False
theorem r_i2b {E : ZEX} {X : ZMX} {M : ZMY} {d mc ms : Nat} {P : ZPT} {T : ZTT} (h : ZCX E X M d mc ms P T) {pc : Nat} (hd : decode M.2.1 pc = .ok (.i2b, 1)) : ZRow E X M mc ms P T pc (s_i2b (pc + 1)) := by
  obtain ⟨p, l, e, R, s, m, args, below, meth, c, Q⟩ := X
  obtain ⟨hE, hx, hb, hml, hr, hlk, hown, hts, hENV, hfr, hlo, hce, hsl, hnm, hQ, hT⟩ := h
  intro K hK L st σ n k w hS H locs ls hsz hP hV hL
  unfold s_i2b at hS
  split at hS
  · exact lv_i2b hx hb hd rfl (hK _ _ _ _ _ _ _ hS H locs ls hsz hP hV hL)
  · exact hS.elim
def s_i2d (nx : Nat) : ZStep := fun L st σ n k w K G R T => match st with
  | .int x :: st => K nx L (.double (FP.i2d x) :: st) σ n k w
  | _ => False
theorem r_i2d {E : ZEX} {X : ZMX} {M : ZMY} {d mc ms : Nat} {P : ZPT} {T : ZTT} (h : ZCX E X M d mc ms P T) {pc : Nat} (hd : decode M.2.1 pc = .ok (.i2d, 1)) : ZRow E X M mc ms P T pc (s_i2d (pc + 1)) := by
  obtain ⟨p, l, e, R, s, m, args, below, meth, c, Q⟩ := X
  obtain ⟨hE, hx, hb, hml, hr, hlk, hown, hts, hENV, hfr, hlo, hce, hsl, hnm, hQ, hT⟩ := h
  intro K hK L st σ n k w hS H locs ls hsz hP hV hL
  unfold s_i2d at hS
  split at hS
  · exact lv_i2d hx hb hd (hK _ _ _ _ _ _ _ hS H locs ls hsz hP hV hL)
  · exact hS.elim
def s_ddiv (nx : Nat) : ZStep := fun L st σ n k w K G R T => match st with
  | .double y :: .double x :: st => vf_n64 (FP.ddiv x y) ∧ K nx L (.double (FP.ddiv x y) :: st) σ n k w
  | _ => False
theorem r_ddiv {E : ZEX} {X : ZMX} {M : ZMY} {d mc ms : Nat} {P : ZPT} {T : ZTT} (h : ZCX E X M d mc ms P T) {pc : Nat} (hd : decode M.2.1 pc = .ok (.ddiv, 1)) : ZRow E X M mc ms P T pc (s_ddiv (pc + 1)) := by
  obtain ⟨p, l, e, R, s, m, args, below, meth, c, Q⟩ := X
  obtain ⟨hE, hx, hb, hml, hr, hlk, hown, hts, hENV, hfr, hlo, hce, hsl, hnm, hQ, hT⟩ := h
  intro K hK L st σ n k w hS H locs ls hsz hP hV hL
  unfold s_ddiv at hS
  split at hS
  · exact lv_ddiv hx hb hd hS.1 (hK _ _ _ _ _ _ _ hS.2 H locs ls hsz hP hV hL)
  · exact hS.elim
def s_dcmp (op : CmpOp) (nx : Nat) : ZStep := fun L st σ n k w K G R T => match st with
  | .double y :: .double x :: st => K nx L (.int (Op.cmpValue (FP.dcmp x y) op) :: st) σ n k w
  | _ => False
theorem r_dcmp {E : ZEX} {X : ZMX} {M : ZMY} {d mc ms : Nat} {P : ZPT} {T : ZTT} (h : ZCX E X M d mc ms P T) {pc : Nat} {op : CmpOp} (hd : decode M.2.1 pc = .ok (.dcmp op, 1)) : ZRow E X M mc ms P T pc (s_dcmp op (pc + 1)) := by
  obtain ⟨p, l, e, R, s, m, args, below, meth, c, Q⟩ := X
  obtain ⟨hE, hx, hb, hml, hr, hlk, hown, hts, hENV, hfr, hlo, hce, hsl, hnm, hQ, hT⟩ := h
  intro K hK L st σ n k w hS H locs ls hsz hP hV hL
  unfold s_dcmp at hS
  split at hS
  · exact lv_dcmp hx hb hd (hK _ _ _ _ _ _ _ hS H locs ls hsz hP hV hL)
  · exact hS.elim
def s_dup (nx : Nat) : ZStep := fun L st σ n k w K G R T => match st with
  | v :: st => v.category = 1 ∧ K nx L (v :: v :: st) σ n k w
  | _ => False
theorem r_dup {E : ZEX} {X : ZMX} {M : ZMY} {d mc ms : Nat} {P : ZPT} {T : ZTT} (h : ZCX E X M d mc ms P T) {pc : Nat} (hd : decode M.2.1 pc = .ok (.dup, 1)) : ZRow E X M mc ms P T pc (s_dup (pc + 1)) := by
  obtain ⟨p, l, e, R, s, m, args, below, meth, c, Q⟩ := X
  obtain ⟨hE, hx, hb, hml, hr, hlk, hown, hts, hENV, hfr, hlo, hce, hsl, hnm, hQ, hT⟩ := h
  intro K hK L st σ n k w hS H locs ls hsz hP hV hL
  unfold s_dup at hS
  split at hS
  · exact lv_dup hx hb hd hS.1 (hK _ _ _ _ _ _ _ hS.2 H locs ls hsz hP hV hL)
  · exact hS.elim
def s_dup2 (nx : Nat) : ZStep := fun L st σ n k w K G R T => match st with
  | v :: u :: st => v.category = 1 ∧ u.category = 1 ∧ K nx L (v :: u :: v :: u :: st) σ n k w
  | _ => False
theorem r_dup2 {E : ZEX} {X : ZMX} {M : ZMY} {d mc ms : Nat} {P : ZPT} {T : ZTT} (h : ZCX E X M d mc ms P T) {pc : Nat} (hd : decode M.2.1 pc = .ok (.dup2, 1)) : ZRow E X M mc ms P T pc (s_dup2 (pc + 1)) := by
  obtain ⟨p, l, e, R, s, m, args, below, meth, c, Q⟩ := X
  obtain ⟨hE, hx, hb, hml, hr, hlk, hown, hts, hENV, hfr, hlo, hce, hsl, hnm, hQ, hT⟩ := h
  intro K hK L st σ n k w hS H locs ls hsz hP hV hL
  unfold s_dup2 at hS
  split at hS
  · exact lv_dup2_11 hx hb hd hS.1 hS.2.1 (hK _ _ _ _ _ _ _ hS.2.2 H locs ls hsz hP hV hL)
  · exact hS.elim
def s_pop (nx : Nat) : ZStep := fun L st σ n k w K G R T => match st with
  | v :: st => v.category = 1 ∧ K nx L st σ n k w
  | _ => False
theorem r_pop {E : ZEX} {X : ZMX} {M : ZMY} {d mc ms : Nat} {P : ZPT} {T : ZTT} (h : ZCX E X M d mc ms P T) {pc : Nat} (hd : decode M.2.1 pc = .ok (.pop, 1)) : ZRow E X M mc ms P T pc (s_pop (pc + 1)) := by
  obtain ⟨p, l, e, R, s, m, args, below, meth, c, Q⟩ := X
  obtain ⟨hE, hx, hb, hml, hr, hlk, hown, hts, hENV, hfr, hlo, hce, hsl, hnm, hQ, hT⟩ := h
  intro K hK L st σ n k w hS H locs ls hsz hP hV hL
  unfold s_pop at hS
  split at hS
  · exact lv_pop hx hb hd hS.1 (hK _ _ _ _ _ _ _ hS.2 H locs ls hsz hP hV hL)
  · exact hS.elim
def s_if_eq (tg nx : Nat) : ZStep := fun L st σ n k w K G R T => match st with
  | .int x :: st => (x = 0 → K tg L st σ n k w) ∧ (¬ x = 0 → K nx L st σ n k w)
  | _ => False
theorem r_if_eq {E : ZEX} {X : ZMX} {M : ZMY} {d mc ms : Nat} {P : ZPT} {T : ZTT} (h : ZCX E X M d mc ms P T) {pc : Nat} {off : Int} (hd : decode M.2.1 pc = .ok (.ifCond .eq off, 3)) (tg : Nat) (ht : (pc : Int) + off = (tg : Int)) : ZRow E X M mc ms P T pc (s_if_eq tg (pc + 3)) := by
  obtain ⟨p, l, e, R, s, m, args, below, meth, c, Q⟩ := X
  obtain ⟨hE, hx, hb, hml, hr, hlk, hown, hts, hENV, hfr, hlo, hce, hsl, hnm, hQ, hT⟩ := h
  intro K hK L st σ n k w hS H locs ls hsz hP hV hL
  unfold s_if_eq at hS
  split at hS
  · exact lv_if_eq hx hb hd ht (fun hc => hK _ _ _ _ _ _ _ (hS.1 hc) H locs ls hsz hP hV hL) (fun hc => hK _ _ _ _ _ _ _ (hS.2 hc) H locs ls hsz hP hV hL)
  · exact hS.elim
def s_if_ne (tg nx : Nat) : ZStep := fun L st σ n k w K G R T => match st with
  | .int x :: st => (x = 0 → K nx L st σ n k w) ∧ (¬ x = 0 → K tg L st σ n k w)
  | _ => False
theorem r_if_ne {E : ZEX} {X : ZMX} {M : ZMY} {d mc ms : Nat} {P : ZPT} {T : ZTT} (h : ZCX E X M d mc ms P T) {pc : Nat} {off : Int} (hd : decode M.2.1 pc = .ok (.ifCond .ne off, 3)) (tg : Nat) (ht : (pc : Int) + off = (tg : Int)) : ZRow E X M mc ms P T pc (s_if_ne tg (pc + 3)) := by
  obtain ⟨p, l, e, R, s, m, args, below, meth, c, Q⟩ := X
  obtain ⟨hE, hx, hb, hml, hr, hlk, hown, hts, hENV, hfr, hlo, hce, hsl, hnm, hQ, hT⟩ := h
  intro K hK L st σ n k w hS H locs ls hsz hP hV hL
  unfold s_if_ne at hS
  split at hS
  · exact lv_if_ne hx hb hd ht (fun hc => hK _ _ _ _ _ _ _ (hS.2 hc) H locs ls hsz hP hV hL) (fun hc => hK _ _ _ _ _ _ _ (hS.1 hc) H locs ls hsz hP hV hL)
  · exact hS.elim
def s_if_lt (tg nx : Nat) : ZStep := fun L st σ n k w K G R T => match st with
  | .int x :: st => (x < 0 → K tg L st σ n k w) ∧ (¬ x < 0 → K nx L st σ n k w)
  | _ => False
theorem r_if_lt {E : ZEX} {X : ZMX} {M : ZMY} {d mc ms : Nat} {P : ZPT} {T : ZTT} (h : ZCX E X M d mc ms P T) {pc : Nat} {off : Int} (hd : decode M.2.1 pc = .ok (.ifCond .lt off, 3)) (tg : Nat) (ht : (pc : Int) + off = (tg : Int)) : ZRow E X M mc ms P T pc (s_if_lt tg (pc + 3)) := by
  obtain ⟨p, l, e, R, s, m, args, below, meth, c, Q⟩ := X
  obtain ⟨hE, hx, hb, hml, hr, hlk, hown, hts, hENV, hfr, hlo, hce, hsl, hnm, hQ, hT⟩ := h
  intro K hK L st σ n k w hS H locs ls hsz hP hV hL
  unfold s_if_lt at hS
  split at hS
  · exact lv_if_lt hx hb hd ht (fun hc => hK _ _ _ _ _ _ _ (hS.1 hc) H locs ls hsz hP hV hL) (fun hc => hK _ _ _ _ _ _ _ (hS.2 hc) H locs ls hsz hP hV hL)
  · exact hS.elim
def s_if_ge (tg nx : Nat) : ZStep := fun L st σ n k w K G R T => match st with
  | .int x :: st => (0 ≤ x → K tg L st σ n k w) ∧ (¬ 0 ≤ x → K nx L st σ n k w)
  | _ => False
theorem r_if_ge {E : ZEX} {X : ZMX} {M : ZMY} {d mc ms : Nat} {P : ZPT} {T : ZTT} (h : ZCX E X M d mc ms P T) {pc : Nat} {off : Int} (hd : decode M.2.1 pc = .ok (.ifCond .ge off, 3)) (tg : Nat) (ht : (pc : Int) + off = (tg : Int)) : ZRow E X M mc ms P T pc (s_if_ge tg (pc + 3)) := by
  obtain ⟨p, l, e, R, s, m, args, below, meth, c, Q⟩ := X
  obtain ⟨hE, hx, hb, hml, hr, hlk, hown, hts, hENV, hfr, hlo, hce, hsl, hnm, hQ, hT⟩ := h
  intro K hK L st σ n k w hS H locs ls hsz hP hV hL
  unfold s_if_ge at hS
  split at hS
  · exact lv_if_ge hx hb hd ht (fun hc => hK _ _ _ _ _ _ _ (hS.1 hc) H locs ls hsz hP hV hL) (fun hc => hK _ _ _ _ _ _ _ (hS.2 hc) H locs ls hsz hP hV hL)
  · exact hS.elim
def s_if_gt (tg nx : Nat) : ZStep := fun L st σ n k w K G R T => match st with
  | .int x :: st => (0 < x → K tg L st σ n k w) ∧ (¬ 0 < x → K nx L st σ n k w)
  | _ => False
theorem r_if_gt {E : ZEX} {X : ZMX} {M : ZMY} {d mc ms : Nat} {P : ZPT} {T : ZTT} (h : ZCX E X M d mc ms P T) {pc : Nat} {off : Int} (hd : decode M.2.1 pc = .ok (.ifCond .gt off, 3)) (tg : Nat) (ht : (pc : Int) + off = (tg : Int)) : ZRow E X M mc ms P T pc (s_if_gt tg (pc + 3)) := by
  obtain ⟨p, l, e, R, s, m, args, below, meth, c, Q⟩ := X
  obtain ⟨hE, hx, hb, hml, hr, hlk, hown, hts, hENV, hfr, hlo, hce, hsl, hnm, hQ, hT⟩ := h
  intro K hK L st σ n k w hS H locs ls hsz hP hV hL
  unfold s_if_gt at hS
  split at hS
  · exact lv_if_gt hx hb hd ht (fun hc => hK _ _ _ _ _ _ _ (hS.1 hc) H locs ls hsz hP hV hL) (fun hc => hK _ _ _ _ _ _ _ (hS.2 hc) H locs ls hsz hP hV hL)
  · exact hS.elim
def s_if_le (tg nx : Nat) : ZStep := fun L st σ n k w K G R T => match st with
  | .int x :: st => (x ≤ 0 → K tg L st σ n k w) ∧ (¬ x ≤ 0 → K nx L st σ n k w)
  | _ => False
theorem r_if_le {E : ZEX} {X : ZMX} {M : ZMY} {d mc ms : Nat} {P : ZPT} {T : ZTT} (h : ZCX E X M d mc ms P T) {pc : Nat} {off : Int} (hd : decode M.2.1 pc = .ok (.ifCond .le off, 3)) (tg : Nat) (ht : (pc : Int) + off = (tg : Int)) : ZRow E X M mc ms P T pc (s_if_le tg (pc + 3)) := by
  obtain ⟨p, l, e, R, s, m, args, below, meth, c, Q⟩ := X
  obtain ⟨hE, hx, hb, hml, hr, hlk, hown, hts, hENV, hfr, hlo, hce, hsl, hnm, hQ, hT⟩ := h
  intro K hK L st σ n k w hS H locs ls hsz hP hV hL
  unfold s_if_le at hS
  split at hS
  · exact lv_if_le hx hb hd ht (fun hc => hK _ _ _ _ _ _ _ (hS.1 hc) H locs ls hsz hP hV hL) (fun hc => hK _ _ _ _ _ _ _ (hS.2 hc) H locs ls hsz hP hV hL)
  · exact hS.elim
def s_icmp_eq (tg nx : Nat) : ZStep := fun L st σ n k w K G R T => match st with
  | .int y :: .int x :: st => (x = y → K tg L st σ n k w) ∧ (¬ x = y → K nx L st σ n k w)
  | _ => False
theorem r_icmp_eq {E : ZEX} {X : ZMX} {M : ZMY} {d mc ms : Nat} {P : ZPT} {T : ZTT} (h : ZCX E X M d mc ms P T) {pc : Nat} {off : Int} (hd : decode M.2.1 pc = .ok (.if_icmp .eq off, 3)) (tg : Nat) (ht : (pc : Int) + off = (tg : Int)) : ZRow E X M mc ms P T pc (s_icmp_eq tg (pc + 3)) := by
  obtain ⟨p, l, e, R, s, m, args, below, meth, c, Q⟩ := X
  obtain ⟨hE, hx, hb, hml, hr, hlk, hown, hts, hENV, hfr, hlo, hce, hsl, hnm, hQ, hT⟩ := h
  intro K hK L st σ n k w hS H locs ls hsz hP hV hL
  unfold s_icmp_eq at hS
  split at hS
  · exact lv_icmp_eq hx hb hd ht (fun hc => hK _ _ _ _ _ _ _ (hS.1 hc) H locs ls hsz hP hV hL) (fun hc => hK _ _ _ _ _ _ _ (hS.2 hc) H locs ls hsz hP hV hL)
  · exact hS.elim
def s_icmp_ne (tg nx : Nat) : ZStep := fun L st σ n k w K G R T => match st with
  | .int y :: .int x :: st => (x = y → K nx L st σ n k w) ∧ (¬ x = y → K tg L st σ n k w)
  | _ => False
theorem r_icmp_ne {E : ZEX} {X : ZMX} {M : ZMY} {d mc ms : Nat} {P : ZPT} {T : ZTT} (h : ZCX E X M d mc ms P T) {pc : Nat} {off : Int} (hd : decode M.2.1 pc = .ok (.if_icmp .ne off, 3)) (tg : Nat) (ht : (pc : Int) + off = (tg : Int)) : ZRow E X M mc ms P T pc (s_icmp_ne tg (pc + 3)) := by
  obtain ⟨p, l, e, R, s, m, args, below, meth, c, Q⟩ := X
  obtain ⟨hE, hx, hb, hml, hr, hlk, hown, hts, hENV, hfr, hlo, hce, hsl, hnm, hQ, hT⟩ := h
  intro K hK L st σ n k w hS H locs ls hsz hP hV hL
  unfold s_icmp_ne at hS
  split at hS
  · exact lv_icmp_ne hx hb hd ht (fun hc => hK _ _ _ _ _ _ _ (hS.2 hc) H locs ls hsz hP hV hL) (fun hc => hK _ _ _ _ _ _ _ (hS.1 hc) H locs ls hsz hP hV hL)
  · exact hS.elim
def s_icmp_lt (tg nx : Nat) : ZStep := fun L st σ n k w K G R T => match st with
  | .int y :: .int x :: st => (x < y → K tg L st σ n k w) ∧ (¬ x < y → K nx L st σ n k w)
  | _ => False
theorem r_icmp_lt {E : ZEX} {X : ZMX} {M : ZMY} {d mc ms : Nat} {P : ZPT} {T : ZTT} (h : ZCX E X M d mc ms P T) {pc : Nat} {off : Int} (hd : decode M.2.1 pc = .ok (.if_icmp .lt off, 3)) (tg : Nat) (ht : (pc : Int) + off = (tg : Int)) : ZRow E X M mc ms P T pc (s_icmp_lt tg (pc + 3)) := by
  obtain ⟨p, l, e, R, s, m, args, below, meth, c, Q⟩ := X
  obtain ⟨hE, hx, hb, hml, hr, hlk, hown, hts, hENV, hfr, hlo, hce, hsl, hnm, hQ, hT⟩ := h
  intro K hK L st σ n k w hS H locs ls hsz hP hV hL
  unfold s_icmp_lt at hS
  split at hS
  · exact lv_icmp_lt hx hb hd ht (fun hc => hK _ _ _ _ _ _ _ (hS.1 hc) H locs ls hsz hP hV hL) (fun hc => hK _ _ _ _ _ _ _ (hS.2 hc) H locs ls hsz hP hV hL)
  · exact hS.elim
def s_icmp_ge (tg nx : Nat) : ZStep := fun L st σ n k w K G R T => match st with
  | .int y :: .int x :: st => (y ≤ x → K tg L st σ n k w) ∧ (¬ y ≤ x → K nx L st σ n k w)
  | _ => False
theorem r_icmp_ge {E : ZEX} {X : ZMX} {M : ZMY} {d mc ms : Nat} {P : ZPT} {T : ZTT} (h : ZCX E X M d mc ms P T) {pc : Nat} {off : Int} (hd : decode M.2.1 pc = .ok (.if_icmp .ge off, 3)) (tg : Nat) (ht : (pc : Int) + off = (tg : Int)) : ZRow E X M mc ms P T pc (s_icmp_ge tg (pc + 3)) := by
  obtain ⟨p, l, e, R, s, m, args, below, meth, c, Q⟩ := X
  obtain ⟨hE, hx, hb, hml, hr, hlk, hown, hts, hENV, hfr, hlo, hce, hsl, hnm, hQ, hT⟩ := h
  intro K hK L st σ n k w hS H locs ls hsz hP hV hL
  unfold s_icmp_ge at hS
  split at hS
  · exact lv_icmp_ge hx hb hd ht (fun hc => hK _ _ _ _ _ _ _ (hS.1 hc) H locs ls hsz hP hV hL) (fun hc => hK _ _ _ _ _ _ _ (hS.2 hc) H locs ls hsz hP hV hL)
  · exact hS.elim
def s_icmp_gt (tg nx : Nat) : ZStep := fun L st σ n k w K G R T => match st with
  | .int y :: .int x :: st => (y < x → K tg L st σ n k w) ∧ (¬ y < x → K nx L st σ n k w)
  | _ => False
theorem r_icmp_gt {E : ZEX} {X : ZMX} {M : ZMY} {d mc ms : Nat} {P : ZPT} {T : ZTT} (h : ZCX E X M d mc ms P T) {pc : Nat} {off : Int} (hd : decode M.2.1 pc = .ok (.if_icmp .gt off, 3)) (tg : Nat) (ht : (pc : Int) + off = (tg : Int)) : ZRow E X M mc ms P T pc (s_icmp_gt tg (pc + 3)) := by
  obtain ⟨p, l, e, R, s, m, args, below, meth, c, Q⟩ := X
  obtain ⟨hE, hx, hb, hml, hr, hlk, hown, hts, hENV, hfr, hlo, hce, hsl, hnm, hQ, hT⟩ := h
  intro K hK L st σ n k w hS H locs ls hsz hP hV hL
  unfold s_icmp_gt at hS
  split at hS
  · exact lv_icmp_gt hx hb hd ht (fun hc => hK _ _ _ _ _ _ _ (hS.1 hc) H locs ls hsz hP hV hL) (fun hc => hK _ _ _ _ _ _ _ (hS.2 hc) H locs ls hsz hP hV hL)
  · exact hS.elim
def s_icmp_le (tg nx : Nat) : ZStep := fun L st σ n k w K G R T => match st with
  | .int y :: .int x :: st => (x ≤ y → K tg L st σ n k w) ∧ (¬ x ≤ y → K nx L st σ n k w)
  | _ => False
theorem r_icmp_le {E : ZEX} {X : ZMX} {M : ZMY} {d mc ms : Nat} {P : ZPT} {T : ZTT} (h : ZCX E X M d mc ms P T) {pc : Nat} {off : Int} (hd : decode M.2.1 pc = .ok (.if_icmp .le off, 3)) (tg : Nat) (ht : (pc : Int) + off = (tg : Int)) : ZRow E X M mc ms P T pc (s_icmp_le tg (pc + 3)) := by
  obtain ⟨p, l, e, R, s, m, args, below, meth, c, Q⟩ := X
  obtain ⟨hE, hx, hb, hml, hr, hlk, hown, hts, hENV, hfr, hlo, hce, hsl, hnm, hQ, hT⟩ := h
  intro K hK L st σ n k w hS H locs ls hsz hP hV hL
  unfold s_icmp_le at hS
  split at hS
  · exact lv_icmp_le hx hb hd ht (fun hc => hK _ _ _ _ _ _ _ (hS.1 hc) H locs ls hsz hP hV hL) (fun hc => hK _ _ _ _ _ _ _ (hS.2 hc) H locs ls hsz hP hV hL)
  · exact hS.elim
def s_goto (tg : Nat) : ZStep := fun L st σ n k w K G R T => K tg L st σ n k w
theorem r_goto {E : ZEX} {X : ZMX} {M : ZMY} {d mc ms : Nat} {P : ZPT} {T : ZTT} (h : ZCX E X M d mc ms P T) {pc : Nat} {off : Int} (hd : decode M.2.1 pc = .ok (.goto off, 3)) (tg : Nat) (ht : (pc : Int) + off = (tg : Int)) : ZRow E X M mc ms P T pc (s_goto tg) := by
  obtain ⟨p, l, e, R, s, m, args, below, meth, c, Q⟩ := X
  obtain ⟨hE, hx, hb, hml, hr, hlk, hown, hts, hENV, hfr, hlo, hce, hsl, hnm, hQ, hT⟩ := h
  intro K hK L st σ n k w hS H locs ls hsz hP hV hL
  exact lv_goto hx hb hd ht (hK _ _ _ _ _ _ _ hS H locs ls hsz hP hV hL)
def s_ifnonnull (tg nx : Nat) : ZStep := fun L st σ n k w K G R T => match st with
  | .ref _ :: st => K tg L st σ n k w
  | .null :: st => K nx L st σ n k w
  | _ => False
theorem r_ifnonnull {E : ZEX} {X : ZMX} {M : ZMY} {d mc ms : Nat} {P : ZPT} {T : ZTT} (h : ZCX E X M d mc ms P T) {pc : Nat} {off : Int} (hd : decode M.2.1 pc = .ok (.ifnonnull off, 3)) (tg : Nat) (ht : (pc : Int) + off = (tg : Int)) : ZRow E X M mc ms P T pc (s_ifnonnull tg (pc + 3)) := by
  obtain ⟨p, l, e, R, s, m, args, below, meth, c, Q⟩ := X
  obtain ⟨hE, hx, hb, hml, hr, hlk, hown, hts, hENV, hfr, hlo, hce, hsl, hnm, hQ, hT⟩ := h
  intro K hK L st σ n k w hS H locs ls hsz hP hV hL
  unfold s_ifnonnull at hS
  split at hS
  · exact lv_ifnonnull hx hb hd ht (hK _ _ _ _ _ _ _ hS H locs ls hsz hP hV hL)
  · exact lv_ifnonnullN hx hb hd (hK _ _ _ _ _ _ _ hS H locs ls hsz hP hV hL)
  · exact hS.elim
def s_ifnull (tg nx : Nat) : ZStep := fun L st σ n k w K G R T => match st with
  | .ref _ :: st => K nx L st σ n k w
  | .null :: st => K tg L st σ n k w
  | _ => False
theorem r_ifnull {E : ZEX} {X : ZMX} {M : ZMY} {d mc ms : Nat} {P : ZPT} {T : ZTT} (h : ZCX E X M d mc ms P T) {pc : Nat} {off : Int} (hd : decode M.2.1 pc = .ok (.ifnull off, 3)) (tg : Nat) (ht : (pc : Int) + off = (tg : Int)) : ZRow E X M mc ms P T pc (s_ifnull tg (pc + 3)) := by
  obtain ⟨p, l, e, R, s, m, args, below, meth, c, Q⟩ := X
  obtain ⟨hE, hx, hb, hml, hr, hlk, hown, hts, hENV, hfr, hlo, hce, hsl, hnm, hQ, hT⟩ := h
  intro K hK L st σ n k w hS H locs ls hsz hP hV hL
  unfold s_ifnull at hS
  split at hS
  · exact lv_ifnull hx hb hd (hK _ _ _ _ _ _ _ hS H locs ls hsz hP hV hL)
  · exact lv_ifnullN hx hb hd ht (hK _ _ _ _ _ _ _ hS H locs ls hsz hP hV hL)
  · exact hS.elim
def s_acmp_eq (tg nx : Nat) : ZStep := fun L st σ n k w K G R T => match st with
  | .ref y :: .ref x :: st => (x = y → K tg L st σ n k w) ∧ (¬ x = y → K nx L st σ n k w)
  | .null :: .ref _ :: st => K nx L st σ n k w
  | .ref _ :: .null :: st => K nx L st σ n k w
  | .null :: .null :: st => K tg L st σ n k w
  | _ => False
theorem r_acmp_eq {E : ZEX} {X : ZMX} {M : ZMY} {d mc ms : Nat} {P : ZPT} {T : ZTT} (h : ZCX E X M d mc ms P T) {pc : Nat} {off : Int} (hd : decode M.2.1 pc = .ok (.if_acmp .eq off, 3)) (tg : Nat) (ht : (pc : Int) + off = (tg : Int)) : ZRow E X M mc ms P T pc (s_acmp_eq tg (pc + 3)) := by
  obtain ⟨p, l, e, R, s, m, args, below, meth, c, Q⟩ := X
  obtain ⟨hE, hx, hb, hml, hr, hlk, hown, hts, hENV, hfr, hlo, hce, hsl, hnm, hQ, hT⟩ := h
  intro K hK L st σ n k w hS H locs ls hsz hP hV hL
  unfold s_acmp_eq at hS
  split at hS
  · rename_i y x st
    exact lv_acmp_eq (rx := some x) (ry := some y) hx hb hd ht (fun hc => hK _ _ _ _ _ _ _ (hS.1 (Option.some.inj hc)) H locs ls hsz hP hV hL) (fun hc => hK _ _ _ _ _ _ _ (hS.2 (fun e9 => hc (congrArg some e9))) H locs ls hsz hP hV hL)
  · rename_i x st
    exact lv_acmp_eq (rx := some x) (ry := none) hx hb hd ht (fun hc => nomatch hc) (fun _ => hK _ _ _ _ _ _ _ hS H locs ls hsz hP hV hL)
  · rename_i y st
    exact lv_acmp_eq (rx := none) (ry := some y) hx hb hd ht (fun hc => nomatch hc) (fun _ => hK _ _ _ _ _ _ _ hS H locs ls hsz hP hV hL)
  · rename_i st
    exact lv_acmp_eq (rx := none) (ry := none) hx hb hd ht (fun _ => hK _ _ _ _ _ _ _ hS H locs ls hsz hP hV hL) (fun hc => absurd rfl hc)
  · exact hS.elim
def s_acmp_ne (tg nx : Nat) : ZStep := fun L st σ n k w K G R T => match st with
  | .ref y :: .ref x :: st => (x = y → K nx L st σ n k w) ∧ (¬ x = y → K tg L st σ n k w)
  | .null :: .ref _ :: st => K tg L st σ n k w
  | .ref _ :: .null :: st => K tg L st σ n k w
  | .null :: .null :: st => K nx L st σ n k w
  | _ => False
theorem r_acmp_ne {E : ZEX} {X : ZMX} {M : ZMY} {d mc ms : Nat} {P : ZPT} {T : ZTT} (h : ZCX E X M d mc ms P T) {pc : Nat} {off : Int} (hd : decode M.2.1 pc = .ok (.if_acmp .ne off, 3)) (tg : Nat) (ht : (pc : Int) + off = (tg : Int)) : ZRow E X M mc ms P T pc (s_acmp_ne tg (pc + 3)) := by
  obtain ⟨p, l, e, R, s, m, args, below, meth, c, Q⟩ := X
  obtain ⟨hE, hx, hb, hml, hr, hlk, hown, hts, hENV, hfr, hlo, hce, hsl, hnm, hQ, hT⟩ := h
  intro K hK L st σ n k w hS H locs ls hsz hP hV hL
  unfold s_acmp_ne at hS
  split at hS
  · rename_i y x st
    exact lv_acmp_ne (rx := some x) (ry := some y) hx hb hd ht (fun hc => hK _ _ _ _ _ _ _ (hS.2 (fun e9 => hc (congrArg some e9))) H locs ls hsz hP hV hL) (fun hc => hK _ _ _ _ _ _ _ (hS.1 (Option.some.inj hc)) H locs ls hsz hP hV hL)
  · rename_i x st
    exact lv_acmp_ne (rx := some x) (ry := none) hx hb hd ht (fun _ => hK _ _ _ _ _ _ _ hS H locs ls hsz hP hV hL) (fun hc => nomatch hc)
  · rename_i y st
    exact lv_acmp_ne (rx := none) (ry := some y) hx hb hd ht (fun _ => hK _ _ _ _ _ _ _ hS H locs ls hsz hP hV hL) (fun hc => nomatch hc)
  · rename_i st
    exact lv_acmp_ne (rx := none) (ry := none) hx hb hd ht (fun hc => absurd rfl hc) (fun _ => hK _ _ _ _ _ _ _ hS H locs ls hsz hP hV hL)
  · exact hS.elim
def ztsw (x : Int32) (lo : Int) (tgs : List Nat) (df : Nat) : Nat := if x.toInt < lo then df else (tgs[(x.toInt - lo).toNat]?).getD df
def zlsw (x : Int32) (ps : List (Int × Nat)) (df : Nat) : Nat := ((ps.find? (fun q => q.1 == x.toInt)).map Prod.snd).getD df
def s_tsw (lo : Int) (tgs : List Nat) (df : Nat) : ZStep := fun L st σ n k w K G R T => match st with
  | .int x :: st => G (ztsw x lo tgs df) L st σ n k w
  | _ => False
theorem r_tsw {E : ZEX} {X : ZMX} {M : ZMY} {d mc ms : Nat} {P : ZPT} {T : ZTT} (h : ZCX E X M d mc ms P T) {pc : Nat} {dflt lo hi : Int} {offs : Array Int} {len : Nat} (hd : decode M.2.1 pc = .ok (.tableswitch dflt lo hi offs, len)) (tgs : List Nat) (df : Nat) (hdf : (pc : Int) + dflt = (df : Int)) (htg : offs.toList.map (fun z => (pc : Int) + z) = tgs.map (fun z : Nat => (z : Int))) (hlen : (hi - lo + 1 : Int) = (tgs.length : Int)) : ZRow E X M mc ms P T pc (s_tsw lo tgs df) := by
  obtain ⟨p, l, e, R, s, m, args, below, meth, c, Q⟩ := X
  obtain ⟨hE, hx, hb, hml, hr, hlk, hown, hts, hENV, hfr, hlo, hce, hsl, hnm, hQ, hT⟩ := h
  intro K hK L st σ n k w hS H locs ls hsz hP hV hL
  unfold s_tsw at hS
  split at hS
  · rename_i x st
    unfold ztsw at hS
    by_cases h1 : x.toInt < lo
    · rw [if_pos h1] at hS
      exact lv_tableOut hx hb hd (Or.inl h1) hdf (hS H locs ls hsz hP hV hL)
    · rw [if_neg h1] at hS
      have hl : offs.size = tgs.length := by
        have := congrArg List.length htg
        simpa using this
      by_cases h2 : hi < x.toInt
      · rw [List.getElem?_eq_none (by omega)] at hS
        exact lv_tableOut hx hb hd (Or.inr h2) hdf (hS H locs ls hsz hP hV hL)
      · have hlt : (x.toInt - lo).toNat < tgs.length := by omega
        rw [List.getElem?_eq_getElem hlt] at hS
        have hlt2 : (x.toInt - lo).toNat < offs.size := by omega
        have e := congrArg (fun l => l[(x.toInt - lo).toNat]?) htg
        simp only [List.getElem?_map, List.getElem?_eq_getElem hlt, Array.getElem?_toList, Array.getElem?_eq_getElem hlt2, Option.map_some, Option.some.injEq] at e
        exact lv_tableIn hx hb hd h1 h2 (Array.getElem?_eq_getElem hlt2) e (hS H locs ls hsz hP hV hL)
  · exact hS.elim
def s_lsw (ps : List (Int × Nat)) (df : Nat) : ZStep := fun L st σ n k w K G R T => match st with
  | .int x :: st => G (zlsw x ps df) L st σ n k w
  | _ => False
theorem zlsw_ok {pc : Nat} {dflt : Int} {df : Nat} (hdf : (pc : Int) + dflt = (df : Int)) (x : Int32) : ∀ (qs : List (Int × Int)) (ps : List (Int × Nat)), qs.map (fun z => (z.1, (pc : Int) + z.2)) = ps.map (fun z => (z.1, (z.2 : Int))) → (pc : Int) + (Op.lookupswitch.offset qs dflt x.toInt) = ((zlsw x ps df : Nat) : Int)
  | [], [], _ => by simpa [zlsw, Op.lookupswitch.offset] using hdf
  | [], _ :: _, h => by simp at h
  | _ :: _, [], h => by simp at h
  | q :: qs, r :: ps, h => by
    simp only [List.map_cons, List.cons.injEq, Prod.mk.injEq] at h
    have ih := zlsw_ok hdf x qs ps h.2
    by_cases hq : q.1 = x.toInt
    · have hr : r.1 = x.toInt := by rw [← h.1.1]; exact hq
      simp [zlsw, Op.lookupswitch.offset, hq, hr, h.1.2]
    · have hr : ¬ r.1 = x.toInt := by rw [← h.1.1]; exact hq
      have e1 : Op.lookupswitch.offset (q :: qs) dflt x.toInt = Op.lookupswitch.offset qs dflt x.toInt := by simp [Op.lookupswitch.offset, hq]
      have e2 : zlsw x (r :: ps) df = zlsw x ps df := by simp [zlsw, hr]
      rw [e1, e2]
      exact ih
theorem r_lsw {E : ZEX} {X : ZMX} {M : ZMY} {d mc ms : Nat} {P : ZPT} {T : ZTT} (h : ZCX E X M d mc ms P T) {pc : Nat} {dflt : Int} {qs : Array (Int × Int)} {len : Nat} (hd : decode M.2.1 pc = .ok (.lookupswitch dflt qs, len)) (ps : List (Int × Nat)) (df : Nat) (hdf : (pc : Int) + dflt = (df : Int)) (hqs : (qs.toList.zip (qs.toList.drop 1)).all (fun (a, next) => a.1 < next.1) = true) (htg : qs.toList.map (fun z => (z.1, (pc : Int) + z.2)) = ps.map (fun z => (z.1, (z.2 : Int)))) : ZRow E X M mc ms P T pc (s_lsw ps df) := by
  obtain ⟨p, l, e, R, s, m, args, below, meth, c, Q⟩ := X
  obtain ⟨hE, hx, hb, hml, hr, hlk, hown, hts, hENV, hfr, hlo, hce, hsl, hnm, hQ, hT⟩ := h
  intro K hK L st σ n k w hS H locs ls hsz hP hV hL
  unfold s_lsw at hS
  split at hS
  · rename_i x st
    exact lv_lookup hx hb hd hqs rfl (zlsw_ok hdf x _ _ htg) (hS H locs ls hsz hP hV hL)
  · exact hS.elim
def s_ireturn  : ZStep := fun L st σ n k w K G R T => match st with
  | [.int x] => R (some (.int x)) σ n k w
  | _ => False
theorem r_ireturn {E : ZEX} {X : ZMX} {M : ZMY} {d mc ms : Nat} {P : ZPT} {T : ZTT} (h : ZCX E X M d mc ms P T) {pc : Nat} (hd : decode M.2.1 pc = .ok (.ireturn, 1)) (hrt : M.2.2.2 = some .int) : ZRow E X M mc ms P T pc (s_ireturn) := by
  obtain ⟨p, l, e, R, s, m, args, below, meth, c, Q⟩ := X
  obtain ⟨hE, hx, hb, hml, hr, hlk, hown, hts, hENV, hfr, hlo, hce, hsl, hnm, hQ, hT⟩ := h
  intro K hK L st σ n k w hS H locs ls hsz hP hV hL
  unfold s_ireturn at hS
  split at hS
  · obtain ⟨h1, h2, h3⟩ := hS
    refine hQ _ _ _ _ _ (W.widen h2 h3 ?_)
    exact W.iret hx hb (by rw [hr, hrt]) (fun t ht hW => ⟨⟨_, _, _, rfl, h1, by rw [ht]; exact hsz, by rw [ht]; exact hP⟩, hV.F ht⟩) hV.2.2 hd hlk
  · exact hS.elim
def s_lreturn  : ZStep := fun L st σ n k w K G R T => match st with
  | [.long x] => R (some (.long x)) σ n k w
  | _ => False
theorem r_lreturn {E : ZEX} {X : ZMX} {M : ZMY} {d mc ms : Nat} {P : ZPT} {T : ZTT} (h : ZCX E X M d mc ms P T) {pc : Nat} (hd : decode M.2.1 pc = .ok (.lreturn, 1)) (hrt : M.2.2.2 = some .long) : ZRow E X M mc ms P T pc (s_lreturn) := by
  obtain ⟨p, l, e, R, s, m, args, below, meth, c, Q⟩ := X
  obtain ⟨hE, hx, hb, hml, hr, hlk, hown, hts, hENV, hfr, hlo, hce, hsl, hnm, hQ, hT⟩ := h
  intro K hK L st σ n k w hS H locs ls hsz hP hV hL
  unfold s_lreturn at hS
  split at hS
  · obtain ⟨h1, h2, h3⟩ := hS
    refine hQ _ _ _ _ _ (W.widen h2 h3 ?_)
    exact W.lret hx hb (by rw [hr, hrt]) (fun t ht hW => ⟨⟨_, _, _, rfl, h1, by rw [ht]; exact hsz, by rw [ht]; exact hP⟩, hV.F ht⟩) hV.2.2 hd hlk
  · exact hS.elim
def s_dreturn  : ZStep := fun L st σ n k w K G R T => match st with
  | [.double x] => R (some (.double x)) σ n k w
  | _ => False
theorem r_dreturn {E : ZEX} {X : ZMX} {M : ZMY} {d mc ms : Nat} {P : ZPT} {T : ZTT} (h : ZCX E X M d mc ms P T) {pc : Nat} (hd : decode M.2.1 pc = .ok (.dreturn, 1)) (hrt : M.2.2.2 = some .double) : ZRow E X M mc ms P T pc (s_dreturn) := by
  obtain ⟨p, l, e, R, s, m, args, below, meth, c, Q⟩ := X
  obtain ⟨hE, hx, hb, hml, hr, hlk, hown, hts, hENV, hfr, hlo, hce, hsl, hnm, hQ, hT⟩ := h
  intro K hK L st σ n k w hS H locs ls hsz hP hV hL
  unfold s_dreturn at hS
  split at hS
  · obtain ⟨h1, h2, h3⟩ := hS
    refine hQ _ _ _ _ _ (W.widen h2 h3 ?_)
    exact W.dret hx hb (by rw [hr, hrt]) (fun t ht hW => ⟨⟨_, _, _, rfl, h1, by rw [ht]; exact hsz, by rw [ht]; exact hP⟩, hV.F ht⟩) hV.2.2 hd hlk
  · exact hS.elim
def s_zreturn  : ZStep := fun L st σ n k w K G R T => match st with
  | [.int x] => (x = 0 ∨ x = 1) ∧ R (some (.int x)) σ n k w
  | _ => False
theorem r_zreturn {E : ZEX} {X : ZMX} {M : ZMY} {d mc ms : Nat} {P : ZPT} {T : ZTT} (h : ZCX E X M d mc ms P T) {pc : Nat} (hd : decode M.2.1 pc = .ok (.ireturn, 1)) (hrt : M.2.2.2 = some .boolean) : ZRow E X M mc ms P T pc (s_zreturn) := by
  obtain ⟨p, l, e, R, s, m, args, below, meth, c, Q⟩ := X
  obtain ⟨hE, hx, hb, hml, hr, hlk, hown, hts, hENV, hfr, hlo, hce, hsl, hnm, hQ, hT⟩ := h
  intro K hK L st σ n k w hS H locs ls hsz hP hV hL
  unfold s_zreturn at hS
  split at hS
  · obtain ⟨h0, h1, h2, h3⟩ := hS
    refine hQ _ _ _ _ _ (W.widen h2 h3 ?_)
    exact W.zret hx hb (by rw [hr, hrt]) (by rcases h0 with h0 | h0 <;> subst h0 <;> rfl) (fun t ht hW => ⟨⟨_, _, _, rfl, h1, by rw [ht]; exact hsz, by rw [ht]; exact hP⟩, hV.F ht⟩) hV.2.2 hd hlk
  · exact hS.elim
def s_return  : ZStep := fun L st σ n k w K G R T => match st with
  | [] => R none σ n k w
  | _ => False
theorem r_return {E : ZEX} {X : ZMX} {M : ZMY} {d mc ms : Nat} {P : ZPT} {T : ZTT} (h : ZCX E X M d mc ms P T) {pc : Nat} (hd : decode M.2.1 pc = .ok (.return_, 1)) (hrt : M.2.2.2 = none) : ZRow E X M mc ms P T pc (s_return) := by
  obtain ⟨p, l, e, R, s, m, args, below, meth, c, Q⟩ := X
  obtain ⟨hE, hx, hb, hml, hr, hlk, hown, hts, hENV, hfr, hlo, hce, hsl, hnm, hQ, hT⟩ := h
  intro K hK L st σ n k w hS H locs ls hsz hP hV hL
  unfold s_return at hS
  split at hS
  · obtain ⟨h1, h2, h3⟩ := hS
    refine hQ _ _ _ _ _ (W.widen h2 h3 ?_)
    exact W.vret hx hb (by rw [hr, hrt]) (fun t ht hW => ⟨⟨_, _, _, rfl, h1, by rw [ht]; exact hsz, by rw [ht]; exact hP⟩, hV.F ht⟩) hV.2.2 hd hlk
  · exact hS.elim
def s_areturn  : ZStep := fun L st σ n k w K G R T => match st with
  | [.ref x] => R (some (.ref x)) σ n k w
  | [.null] => R (some .null) σ n k w
  | _ => False
theorem r_areturn {E : ZEX} {X : ZMX} {M : ZMY} {d mc ms : Nat} {P : ZPT} {T : ZTT} (h : ZCX E X M d mc ms P T) {pc : Nat} (hd : decode M.2.1 pc = .ok (.areturn, 1)) {cn : String} (hrt : M.2.2.2 = some (.object cn)) : ZRow E X M mc ms P T pc (s_areturn) := by
  obtain ⟨p, l, e, R, s, m, args, below, meth, c, Q⟩ := X
  obtain ⟨hE, hx, hb, hml, hr, hlk, hown, hts, hENV, hfr, hlo, hce, hsl, hnm, hQ, hT⟩ := h
  intro K hK L st σ n k w hS H locs ls hsz hP hV hL
  unfold s_areturn at hS
  split at hS
  · obtain ⟨h1, h2, h3⟩ := hS
    refine hQ _ _ _ _ _ (W.widen h2 h3 ?_)
    exact W.aret hx hb (by rw [hr, hrt]) (Or.inl ⟨_, rfl⟩) (Or.inr ⟨_, rfl⟩) (fun t ht hW => ⟨⟨_, _, _, rfl, h1, by rw [ht]; exact hsz, by rw [ht]; exact hP⟩, hV.F ht⟩) hV.2.2 hd hlk
  · obtain ⟨h1, h2, h3⟩ := hS
    refine hQ _ _ _ _ _ (W.widen h2 h3 ?_)
    exact W.aret hx hb (by rw [hr, hrt]) (Or.inl ⟨_, rfl⟩) (Or.inl rfl) (fun t ht hW => ⟨⟨_, _, _, rfl, h1, by rw [ht]; exact hsz, by rw [ht]; exact hP⟩, hV.F ht⟩) hV.2.2 hd hlk
  · exact hS.elim
def zget (σ : ZHp) (a ci j : Nat) : Option Value := match σ a with
  | some (.inr (c, fs)) => if c = ci then fs[j]? else none
  | _ => none
/-- a class of ours: its row of vwCl, its words, its types -/
def ZCK (ci : Nat) (C : String) (Tb : u_T) (N : Nat) : Prop := vwCl[ci]? = some (C, Tb, N) ∧ (∀ w ∈ u_ws C Tb N, ZWd w) ∧ (∀ a, a < N → ∀ b, b < N → a ≠ b → (Tb a).2.1 ≠ (Tb b).2.1) ∧ ∃ ty : Nat → FieldType, ∀ k, k < N → parseFieldDescriptor (Tb k).2.2.1 = some (ty k)
/-- kinds of fields: 0 int, 1 boolean, 2 long, 3 a reference -/
def zkd : Nat → Value → Prop
  | 0, .int _ => True
  | 1, .int x => x = 0 ∨ x = 1
  | 2, .long _ => True
  | 3, .ref _ => True
  | 3, .null => True
  | _, _ => False
def zkt : Nat → FieldType → Bool
  | 0, .int => true
  | 1, .boolean => true
  | 2, .long => true
  | 3, .object _ => true
  | 3, .array _ => true
  | _, _ => false
theorem zkd_ok {kd : Nat} {ty : FieldType} {v : Value} (h : zkt kd ty = true) (hv : zkd kd v) : narrow ty v = v ∧ fits ty v = true := by
  unfold zkt at h
  split at h
  · cases v <;> simp [zkd] at hv <;> exact ⟨rfl, rfl⟩
  · cases v <;> simp [zkd] at hv
    rcases hv with hv | hv <;> subst hv <;> exact ⟨rfl, rfl⟩
  · cases v <;> simp [zkd] at hv <;> exact ⟨rfl, rfl⟩
  · cases v <;> simp [zkd] at hv <;> exact ⟨rfl, rfl⟩
  · cases v <;> simp [zkd] at hv <;> exact ⟨rfl, rfl⟩
  · cases h
def s_getf (ci j nx : Nat) : ZStep := fun L st σ n k w K G R T => match st with
  | .ref a :: st => match zget σ a ci j with
    | some v => K nx L (v :: st) σ n k w
    | none => False
  | _ => False
theorem r_getf {E : ZEX} {X : ZMX} {M : ZMY} {d mc ms : Nat} {P : ZPT} {T : ZTT} (h : ZCX E X M d mc ms P T) {pc : Nat} {ix : Nat} (hd : decode M.2.1 pc = .ok (.getfield ix, 3)) {ci : Nat} {C : String} {Tb : u_T} {N : Nat} (hC : ZCK ci C Tb N) (j : Nat) (hj : j < N) (hw : ZWd (.fieldLink M.1.cls ix (Tb j).1 (Tb j).2.1 (Tb j).2.2.1)) : ZRow E X M mc ms P T pc (s_getf ci j (pc + 3)) := by
  obtain ⟨p, l, e, R, s, m, args, below, meth, c, Q⟩ := X
  obtain ⟨hE, hx, hb, hml, hr, hlk, hown, hts, hENV, hfr, hlo, hce, hsl, hnm, hQ, hT⟩ := h
  intro K hK L st σ n k w hS H locs ls hsz hP hV hL
  unfold s_getf at hS
  split at hS
  · rename_i a st
    split at hS
    · rename_i v hv
      unfold zget at hv
      split at hv
      · rename_i c0 fs hg
        by_cases hc0 : c0 = ci
        · rw [if_pos hc0] at hv
          subst hc0
          exact va_get (Ts := zallW) hx hb (fun w hw => hts w (List.mem_filter.mp hw)) (fun w hw => (hC.2.1 w hw).all) hown hENV.1 (hP.one hg) 0 rfl hC.1 j hj (hts _ hw) (fun _ h9 => h9) hv hd (hK _ _ _ _ _ _ _ hS H locs ls hsz hP hV hL)
        · rw [if_neg hc0] at hv; cases hv
      · cases hv
    · exact hS.elim
  · exact hS.elim
theorem r_getfN {E : ZEX} {X : ZMX} {M : ZMY} {d mc ms : Nat} {P : ZPT} {T : ZTT} (h : ZCX E X M d mc ms P T) {pc : Nat} {ix : Nat} (hd : decode M.2.1 pc = .ok (.getfield ix, 3)) {ci : Nat} {C : String} {Tb : u_T} {N : Nat} (hC : ZCK ci C Tb N) (j : Nat) (hj : j < N) {host : String} (hw : ZWn (.fieldLinkNest M.1.cls ix (Tb j).1 (Tb j).2.1 (Tb j).2.2.1 host)) : ZRow E X M mc ms P T pc (s_getf ci j (pc + 3)) := by
  obtain ⟨p, l, e, R, s, m, args, below, meth, c, Q⟩ := X
  obtain ⟨hE, hx, hb, hml, hr, hlk, hown, hts, hENV, hfr, hlo, hce, hsl, hnm, hQ, hT⟩ := h
  intro K hK L st σ n k w hS H locs ls hsz hP hV hL
  unfold s_getf at hS
  split at hS
  · rename_i a st
    split at hS
    · rename_i v hv
      unfold zget at hv
      split at hv
      · rename_i c0 fs hg
        by_cases hc0 : c0 = ci
        · rw [if_pos hc0] at hv
          subst hc0
          exact va_getN (Ts := zallW) hx hb (fun w hw => hts w (List.mem_filter.mp hw)) (fun w hw => (hC.2.1 w hw).all) hown hENV.1 (hP.one hg) 0 rfl hC.1 j hj (va_Nw.use rfl (zx_nst hE hENV.2.1 hw)) (fun _ h9 => h9) hv hd (hK _ _ _ _ _ _ _ hS H locs ls hsz hP hV hL)
        · rw [if_neg hc0] at hv; cases hv
      · cases hv
    · exact hS.elim
  · exact hS.elim
def s_putf (ci j kd nx : Nat) : ZStep := fun L st σ n k w K G R T => match st with
  | v :: .ref a :: st => match σ a with
    | some (.inr (c, fs)) => c = ci ∧ j < fs.length ∧ zkd kd v ∧ K nx L st (zup σ a (.inr (ci, fs.set j v))) n k w
    | _ => False
  | _ => False
theorem r_putf {E : ZEX} {X : ZMX} {M : ZMY} {d mc ms : Nat} {P : ZPT} {T : ZTT} (h : ZCX E X M d mc ms P T) {pc : Nat} {ix : Nat} (hd : decode M.2.1 pc = .ok (.putfield ix, 3)) {ci : Nat} {C : String} {Tb : u_T} {N : Nat} (hC : ZCK ci C Tb N) (j : Nat) (hj : j < N) (kd : Nat) {fty : FieldType} (hfd : parseFieldDescriptor (Tb j).2.2.1 = some fty) (hkt : zkt kd fty = true) (hfin : (Tb j).2.2.2 = false) (hw : ZWd (.fieldLink M.1.cls ix (Tb j).1 (Tb j).2.1 (Tb j).2.2.1)) : ZRow E X M mc ms P T pc (s_putf ci j kd (pc + 3)) := by
  obtain ⟨p, l, e, R, s, m, args, below, meth, c, Q⟩ := X
  obtain ⟨hE, hx, hb, hml, hr, hlk, hown, hts, hENV, hfr, hlo, hce, hsl, hnm, hQ, hT⟩ := h
  intro K hK L st σ n k w hS H locs ls hsz hP hV hL
  unfold s_putf at hS
  split at hS
  · rename_i v a st
    split at hS
    · rename_i c0 fs hg
      obtain ⟨rfl, hjl, hkd, hS⟩ := hS
      obtain ⟨hcl, hCw, hnmm, ty, hty⟩ := hC
      have htsA : ∀ w ∈ zallW, w.before args s = true := fun w hw => hts w (List.mem_filter.mp hw)
      have hin : ∀ w ∈ u_ws C Tb N, w ∈ zallW := fun w hw => (hCw w hw).all
      have hap := va_apart (own := M.1.cls) htsA hin ty hty hnmm hENV.1 hcl
      obtain ⟨r, h1, cell, q1, q2, q3, q4⟩ := hP.one hg 0 _ rfl
      have hr9 : r = (C, Tb, N) := Option.some.inj (h1.symm.trans hcl)
      subst hr9
      obtain ⟨hSl, hfc, kC, hkC, hkind⟩ := hENV.1.1 c0 _ hcl
      obtain ⟨cf, kf, fi, f, hi, hsl9⟩ := hSl j hj
      obtain ⟨hn9, hf9⟩ := zkd_ok hkt hkd
      have hlay := htsA _ (hin _ (u_in_lay hj))
      unfold u_lay at hlay
      have hst := (u_facts hfc hkC (u_lays htsA hin hj) hi).1
      rw [if_neg (by rw [hfin]; decide)] at hlay
      have h6 := u_store hfc hkC hkind hlay hi hfd hn9 hf9
      refine W.putK hx hb (f := f) ⟨hown, hts _ hw, ⟨_, _, _, hi⟩, hst⟩ (by rw [q2]; exact h6) q1 q3 (by rw [hsl9]; exact k2_hasslot (q4 j hj)) rfl rfl hd fun H1 e1 e2 e3 => ?_
      rw [hsl9] at e1 ⊢
      exact hK _ _ _ _ _ _ _ hS H1 _ ls (e2.trans hsz) (hP.put hg ⟨_, hcl, t_OB.to (V := updV (vp_V fs) j v) ⟨_, e1, q2, q3, t_set q4 hap hj v⟩ (fun b9 _ => vp_updV_set hjl v b9)⟩ e3) (hV.put e2 e3 (hP a _ hg).1) hL
    · exact hS.elim
  · exact hS.elim
theorem r_putfN {E : ZEX} {X : ZMX} {M : ZMY} {d mc ms : Nat} {P : ZPT} {T : ZTT} (h : ZCX E X M d mc ms P T) {pc : Nat} {ix : Nat} (hd : decode M.2.1 pc = .ok (.putfield ix, 3)) {ci : Nat} {C : String} {Tb : u_T} {N : Nat} (hC : ZCK ci C Tb N) (j : Nat) (hj : j < N) (kd : Nat) {fty : FieldType} (hfd : parseFieldDescriptor (Tb j).2.2.1 = some fty) (hkt : zkt kd fty = true) (hfin : (Tb j).2.2.2 = false) {host : String} (hw : ZWn (.fieldLinkNest M.1.cls ix (Tb j).1 (Tb j).2.1 (Tb j).2.2.1 host)) : ZRow E X M mc ms P T pc (s_putf ci j kd (pc + 3)) := by
  obtain ⟨p, l, e, R, s, m, args, below, meth, c, Q⟩ := X
  obtain ⟨hE, hx, hb, hml, hr, hlk, hown, hts, hENV, hfr, hlo, hce, hsl, hnm, hQ, hT⟩ := h
  intro K hK L st σ n k w hS H locs ls hsz hP hV hL
  unfold s_putf at hS
  split at hS
  · rename_i v a st
    split at hS
    · rename_i c0 fs hg
      obtain ⟨rfl, hjl, hkd, hS⟩ := hS
      obtain ⟨hcl, hCw, hnmm, ty, hty⟩ := hC
      have htsA : ∀ w ∈ zallW, w.before args s = true := fun w hw => hts w (List.mem_filter.mp hw)
      have hin : ∀ w ∈ u_ws C Tb N, w ∈ zallW := fun w hw => (hCw w hw).all
      have hap := va_apart (own := M.1.cls) htsA hin ty hty hnmm hENV.1 hcl
      obtain ⟨r, h1, cell, q1, q2, q3, q4⟩ := hP.one hg 0 _ rfl
      have hr9 : r = (C, Tb, N) := Option.some.inj (h1.symm.trans hcl)
      subst hr9
      obtain ⟨hSl, hfc, kC, hkC, hkind⟩ := hENV.1.1 c0 _ hcl
      obtain ⟨cf, kf, fi, f, hi, hsl9⟩ := hSl j hj
      obtain ⟨hn9, hf9⟩ := zkd_ok hkt hkd
      have hlay := htsA _ (hin _ (u_in_lay hj))
      unfold u_lay at hlay
      have hst := (u_facts hfc hkC (u_lays htsA hin hj) hi).1
      rw [if_neg (by rw [hfin]; decide)] at hlay
      have h6 := u_store hfc hkC hkind hlay hi hfd hn9 hf9
      refine va_WputK hx hb (f := f) hown (va_Nw.use rfl (zx_nst hE hENV.2.1 hw)) hi hst (by rw [q2]; exact h6) q1 q3 (by rw [hsl9]; exact k2_hasslot (q4 j hj)) rfl rfl hd fun H1 e1 e2 e3 => ?_
      rw [hsl9] at e1 ⊢
      exact hK _ _ _ _ _ _ _ hS H1 _ ls (e2.trans hsz) (hP.put hg ⟨_, hcl, t_OB.to (V := updV (vp_V fs) j v) ⟨_, e1, q2, q3, t_set q4 hap hj v⟩ (fun b9 _ => vp_updV_set hjl v b9)⟩ e3) (hV.put e2 e3 (hP a _ hg).1) hL
    · exact hS.elim
  · exact hS.elim
theorem r_putfF {E : ZEX} {X : ZMX} {M : ZMY} {d mc ms : Nat} {P : ZPT} {T : ZTT} (h : ZCX E X M d mc ms P T) {pc : Nat} {ix : Nat} (hd : decode M.2.1 pc = .ok (.putfield ix, 3)) {ci : Nat} {C : String} {Tb : u_T} {N : Nat} (hC : ZCK ci C Tb N) (j : Nat) (hj : j < N) (kd : Nat) {fty : FieldType} (hfd : parseFieldDescriptor (Tb j).2.2.1 = some fty) (hkt : zkt kd fty = true) (hfin : (Tb j).2.2.2 = true) (hin2 : M.1.name = "<init>") (hdecl : (Tb j).1 = M.1.cls) (hw : ZWd (.fieldLink M.1.cls ix (Tb j).1 (Tb j).2.1 (Tb j).2.2.1)) : ZRow E X M mc ms P T pc (s_putf ci j kd (pc + 3)) := by
  obtain ⟨p, l, e, R, s, m, args, below, meth, c, Q⟩ := X
  obtain ⟨hE, hx, hb, hml, hr, hlk, hown, hts, hENV, hfr, hlo, hce, hsl, hnm, hQ, hT⟩ := h
  intro K hK L st σ n k w hS H locs ls hsz hP hV hL
  unfold s_putf at hS
  split at hS
  · rename_i v a st
    split at hS
    · rename_i c0 fs hg
      obtain ⟨rfl, hjl, hkd, hS⟩ := hS
      obtain ⟨hcl, hCw, hnmm, ty, hty⟩ := hC
      have htsA : ∀ w ∈ zallW, w.before args s = true := fun w hw => hts w (List.mem_filter.mp hw)
      have hin : ∀ w ∈ u_ws C Tb N, w ∈ zallW := fun w hw => (hCw w hw).all
      have hap := va_apart (own := M.1.cls) htsA hin ty hty hnmm hENV.1 hcl
      obtain ⟨r, h1, cell, q1, q2, q3, q4⟩ := hP.one hg 0 _ rfl
      have hr9 : r = (C, Tb, N) := Option.some.inj (h1.symm.trans hcl)
      subst hr9
      obtain ⟨hSl, hfc, kC, hkC, hkind⟩ := hENV.1.1 c0 _ hcl
      obtain ⟨cf, kf, fi, f, hi, hsl9⟩ := hSl j hj
      obtain ⟨hn9, hf9⟩ := zkd_ok hkt hkd
      have hlay := htsA _ (hin _ (u_in_lay hj))
      unfold u_lay at hlay
      have hst := (u_facts hfc hkC (u_lays htsA hin hj) hi).1
      rw [if_pos hfin] at hlay
      have hcf : m.cls = cf := by
        obtain ⟨_, _, c', _, _, _, -, -, hf', -, -, -, hown2, -⟩ := Cond.laysFinal_spec hlay
        have e1 : c' = cf := by have := hi.symm.trans hf'; simp at this; exact this.1.symm
        rw [hdecl] at hown2
        rw [← e1]; exact Option.some.inj (hown.symm.trans hown2)
      have h6 := u_fits hfc hkC hkind (Or.inr hlay) hi hfd hn9 hf9
      refine W.putFinK hx hb hown (hts _ hw) hi hst hcf (hnm.trans hin2) (by rw [q2]; exact h6) q1 q3 (by rw [hsl9]; exact k2_hasslot (q4 j hj)) rfl rfl hd fun H1 e1 e2 e3 => ?_
      rw [hsl9] at e1 ⊢
      exact hK _ _ _ _ _ _ _ hS H1 _ ls (e2.trans hsz) (hP.put hg ⟨_, hcl, t_OB.to (V := updV (vp_V fs) j v) ⟨_, e1, q2, q3, t_set q4 hap hj v⟩ (fun b9 _ => vp_updV_set hjl v b9)⟩ e3) (hV.put e2 e3 (hP a _ hg).1) hL
    · exact hS.elim
  · exact hS.elim
