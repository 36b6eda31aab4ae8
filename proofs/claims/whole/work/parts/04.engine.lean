/-! THE ENGINE: a method's instructions as transformers of conditions over a pure heap (a map from addresses to cells); ZRow: an instruction of the bytecode obeys its transformer; zrun: many in one go -/
abbrev ZEX : Type := (Nat → ClassId) × (Nat → Nat → Nat) × (Nat → ClassId) × Nat × (Nat → Nat) × (State → Heap → Prop)
def zeD (E : ZEX) : va_G := (E.1, E.2.1)
def zeA (E : ZEX) (k : Nat) : ClassId := E.2.2.1 k
def zeB (E : ZEX) : Nat := E.2.2.2.1
def zeK (E : ZEX) (k : Nat) : Nat := E.2.2.2.2.1 k
def zeF (E : ZEX) : State → Heap → Prop := E.2.2.2.2.2
def zAB (E : ZEX) : Nat → Prop := fun q => zeB E ≤ q
def zeT (E : ZEX) : List (ClassId × FieldType) := [(zeA E 0, .int), (zeA E 1, .byte), (zeA E 2, .long), (zeA E 3, .object RX8), (zeA E 4, .object RX11), (zeA E 5, .array .int)]
abbrev ZHp : Type := Nat → Option va_E
def ZHP (E : ZEX) (σ : ZHp) (H : Heap) : Prop := ∀ a e, σ a = some e → zeB E ≤ a ∧ va_at (zeD E) vwCl (a, e) H
def zup (σ : ZHp) (a : Nat) (e : va_E) : ZHp := fun b => if b = a then some e else σ b
theorem zup_s (σ : ZHp) (a : Nat) (e : va_E) : zup σ a e a = some e := by simp [zup]
theorem zup_n {σ : ZHp} {a b : Nat} {e : va_E} (h : b ≠ a) : zup σ a e b = σ b := by simp [zup, h]
theorem ZHP.one {E : ZEX} {σ : ZHp} {H : Heap} {a : Nat} {e : va_E} (h : ZHP E σ H) (ha : σ a = some e) : va_P (zeD E) vwCl [(a, e)] H := by
  intro k q hq
  cases k with
  | zero => cases hq; exact (h a e ha).2
  | succ k => simp at hq
theorem ZHP.lt {E : ZEX} {σ : ZHp} {H : Heap} {a : Nat} {e : va_E} (h : ZHP E σ H) (ha : σ a = some e) : a < H.size := (h a e ha).2.lt
theorem ZHP.put {E : ZEX} {σ : ZHp} {H H1 : Heap} {a : Nat} {e0 e : va_E} (h : ZHP E σ H) (ha : σ a = some e0) (he : va_at (zeD E) vwCl (a, e) H1) (oq : ∀ q : Nat, q ≠ a → H1[q]? = H[q]?) : ZHP E (zup σ a e) H1 := by
  intro b f hb
  by_cases hba : b = a
  · subst hba
    rw [zup_s] at hb
    cases hb
    exact ⟨(h b e0 ha).1, he⟩
  · rw [zup_n hba] at hb
    exact ⟨(h b f hb).1, (h b f hb).2.kept (oq b hba)⟩
theorem ZHP.new {E : ZEX} {σ : ZHp} {H H1 : Heap} {n : Nat} {e : va_E} (h : ZHP E σ H) (hn : H.size = n) (hB : zeB E ≤ n) (he : va_at (zeD E) vwCl (n, e) H1) (oq : ∀ q : Nat, q < n → H1[q]? = H[q]?) : ZHP E (zup σ n e) H1 := by
  intro b f hb
  by_cases hba : b = n
  · subst hba
    rw [zup_s] at hb
    cases hb
    exact ⟨hB, he⟩
  · rw [zup_n hba] at hb
    exact ⟨(h b f hb).1, (h b f hb).2.kept (oq b (by have := h.lt hb; omega))⟩
def ZENV (E : ZEX) (U : State) (H : Heap) : Prop := va_K (zeD E) vwCl (zeT E) U ∧ zeF E U H ∧ zeB E ≤ H.size
def zsgN : List String := ["BAD", "END", "NAME", "NUMBER", "NEGATE", "CARD", "COST", "WORTH", "COINS", "DRAWS", "BUYS", "TRASH", "COMBO", "START", "OF", "PILE", "MERCHANT", "BUY", "FOR", "WHEN", "ROUND", "HAND", "PLAYED", "OWNED", "LEFT", "TRASHED", "NOT", "AND", "OR", "MIN", "MAX", "OPEN", "CLOSE", "OPEN_TEST", "CLOSE_TEST", "SEMICOLON", "COMMA", "PLUS", "MINUS", "TIMES", "DIVIDED", "LESS", "MORE", "EQUAL", "AT_MOST", "AT_LEAST"]
def zlen : List Nat := [0, 0, 0, 0, 0, 4, 4, 5, 5, 5, 4, 5, 5, 5, 2, 4, 8, 3, 3, 4, 5, 4, 6, 5, 4, 7, 3, 3, 2, 3, 3, 1, 1, 1, 1, 1, 1, 1, 1, 1, 1, 1, 1, 1, 2, 2, 4, 4, 5, 5, 5, 4, 5, 5, 5, 2, 4, 8, 3, 3, 4, 5, 4, 6, 5, 4, 7, 3, 3, 2, 3, 3, 13]
def zbyt : List (List Int32) := [[], [], [], [], [], [99, 97, 114, 100], [99, 111, 115, 116], [119, 111, 114, 116, 104], [99, 111, 105, 110, 115], [100, 114, 97, 119, 115], [98, 117, 121, 115], [116, 114, 97, 115, 104], [99, 111, 109, 98, 111], [115, 116, 97, 114, 116], [111, 102], [112, 105, 108, 101], [109, 101, 114, 99, 104, 97, 110, 116], [98, 117, 121], [102, 111, 114], [119, 104, 101, 110], [114, 111, 117, 110, 100], [104, 97, 110, 100], [112, 108, 97, 121, 101, 100], [111, 119, 110, 101, 100], [108, 101, 102, 116], [116, 114, 97, 115, 104, 101, 100], [110, 111, 116], [97, 110, 100], [111, 114], [109, 105, 110], [109, 97, 120], [40], [41], [91], [93], [59], [44], [43], [45], [42], [47], [60], [62], [61], [60, 61], [62, 61], [99, 97, 114, 100], [99, 111, 115, 116], [119, 111, 114, 116, 104], [99, 111, 105, 110, 115], [100, 114, 97, 119, 115], [98, 117, 121, 115], [116, 114, 97, 115, 104], [99, 111, 109, 98, 111], [115, 116, 97, 114, 116], [111, 102], [112, 105, 108, 101], [109, 101, 114, 99, 104, 97, 110, 116], [98, 117, 121], [102, 111, 114], [119, 104, 101, 110], [114, 111, 117, 110, 100], [104, 97, 110, 100], [112, 108, 97, 121, 101, 100], [111, 119, 110, 101, 100], [108, 101, 102, 116], [116, 114, 97, 115, 104, 101, 100], [110, 111, 116], [97, 110, 100], [111, 114], [109, 105, 110], [109, 97, 120], [40, 41, 91, 93, 59, 44, 43, 45, 42, 47, 60, 62, 61]]
def zswm : List Int32 := [0, 0, 0, 9, 0, 7, 0, 0, 11, 22, 12, 5, 6, 1, 0, 2, 8, 3, 4, 0, 10, 13, 15, 16, 17, 14, 0, 31, 32, 18, 19, 21, 0, 0, 0, 0, 0, 23, 20, 24, 25, 26, 27, 28, 29, 30]
def zisNest : Cond → Bool
  | .fieldLinkNest .. => true
  | .methodLinkNest .. => true
  | _ => false
/-- links to private members of nest mates -/
def zNst : List Cond := tables_1.filter zisNest
def ZWn (w : Cond) : Prop := w ∈ zNst
theorem zwn_t {w : Cond} (i : Nat) (h : tables_1[i]? = some w) (g : zisNest w = true) : ZWn w := List.mem_filter.mpr ⟨List.mem_of_getElem? h, g⟩
/-- what is taken of the constant objects: Sign's constants at zeK 0 .. 45, Sign.ALL 46, the switch map 47, WORDS 48, their texts from 50 on, the texts' bytes from 200 on -/
def zFx (E : ZEX) (U : State) (H : Heap) : Prop :=
  (∀ j, j < 46 → va_Z RX8 (zsgN.getD j "") "LTarotMerchants$Sign;" (.ref (zeK E j)) (zAB E) U H) ∧
  va_Z RX8 "ALL" "[LTarotMerchants$Sign;" (.ref (zeK E 46)) (zAB E) U H ∧
  va_Z RX0 "$SwitchMap$TarotMerchants$Sign" "[I" (.ref (zeK E 47)) (zAB E) U H ∧
  va_Z RX15 "WORDS" "[Ljava/lang/String;" (.ref (zeK E 48)) (zAB E) U H ∧
  (∀ j, j < 46 → va_O RX8 (zeK E j) (zAB E) U H) ∧
  (∀ j, j < 46 → va_OF "java/lang/Enum" "ordinal" "I" (.int (nI j)) (zeK E j) (zAB E) U H) ∧
  (∀ j, j < 46 → va_OF RX8 "text" "Ljava/lang/String;" (.ref (zeK E (50 + j))) (zeK E j) (zAB E) U H) ∧
  va_T (.object RX8) (zeK E 46) 46 (fun j => .ref (zeK E j)) (zAB E) U H ∧
  va_T .int (zeK E 47) 46 (fun j => .int (zswm.getD j 0)) (zAB E) U H ∧
  va_T (.object "java/lang/String") (zeK E 48) 26 (fun j => .ref (zeK E (96 + j))) (zAB E) U H ∧
  (∀ i : Nat, i < 73 → va_O "java/lang/String" (zeK E (50 + i)) (zAB E) U H ∧ va_OF "java/lang/String" "coder" "B" (.int 0) (zeK E (50 + i)) (zAB E) U H ∧ va_OF "java/lang/String" "value" "[B" (.ref (zeK E (200 + i))) (zeK E (50 + i)) (zAB E) U H ∧ va_T .byte (zeK E (200 + i)) (zlen.getD i 0) (fun j => .int ((zbyt.getD i []).getD j 0)) (zAB E) U H) ∧
  vk_R RX15 77 "()[];,+-*/<>=" (zeK E 122) U ∧
  va_AO RX8 U ∧ va_AO RX11 U ∧ (Cond.arrayOver (.array .int)).before #[] U = true ∧
  va_Z "java/lang/String" "COMPACT_STRINGS" "Z" (.int 1) (zAB E) U H ∧
  (∀ w, ZWn w → va_Nw w U)
def ZEOK (E : ZEX) : Prop := (∀ (U : State) (H : Heap), zeF E U H → zFx E U H) ∧ (∀ i j, i < 46 → j < 46 → zeK E i = zeK E j → i = j) ∧ (∀ (u U : State) (H : Heap), u.WarmedH U.vm → zeF E u H → zeF E U H) ∧ (∀ (U : State) (H H1 : Heap), zeF E U H → (∀ a : Nat, a < H.size → ¬ zAB E a → H1[a]? = H[a]?) → zeF E U H1)
theorem ZENV.go {E : ZEX} {u U : State} {H H1 : Heap} (hE : ZEOK E) (h : ZENV E u H) (hvm : u.WarmedH U.vm) (hz : H.size ≤ H1.size) (hq : ∀ a : Nat, a < H.size → ¬ zAB E a → H1[a]? = H[a]?) : ZENV E U H1 :=
  ⟨va_K.moved hvm.alike h.1, hE.2.2.1 _ _ _ hvm (hE.2.2.2 _ _ _ h.2.1 hq), Nat.le_trans h.2.2 hz⟩
theorem zx_nst {E : ZEX} (hE : ZEOK E) {U : State} {H : Heap} (h : zeF E U H) {w : Cond} (hw : ZWn w) : va_Nw w U := (hE.1 U H h).2.2.2.2.2.2.2.2.2.2.2.2.2.2.2.2 w hw
/-- a word of the tables that stays -/
def ZWd (w : Cond) : Prop := w ∈ lw_tbl ∧ goodWord w = true
def zallW : List Cond := lw_tbl.filter goodWord
theorem ZWd.all {w : Cond} (h : ZWd w) : w ∈ zallW := List.mem_filter.mpr h
theorem zwd_t {w : Cond} (i : Nat) (h : tables_1[i]? = some w) (g : goodWord w = true) : ZWd w := ⟨List.mem_append_right _ (List.mem_of_getElem? h), g⟩
theorem zwd_p {w : Cond} (i : Nat) (h : (k2_sels lw_privs)[i]? = some w) (g : goodWord w = true) : ZWd w := ⟨List.mem_append_left _ (List.mem_of_getElem? h), g⟩
abbrev ZMY : Type := MethodName × ByteArray × Nat × Option FieldType
def zwsM (M : ZMY) : List Cond := .code M.1 M.2.1 M.2.2.1 M.2.2.2 :: zallW
def zrmD (d mc ms : Nat) : Room := { frames := d, cells := mc, slots := ms, locals := 64 * d }
abbrev ZPT : Type := Option Value → ZHp → Nat → Prop
abbrev ZTT : Type := String → ZHp → Nat → Nat → Nat → Prop
def zQg (E : ZEX) (P : ZPT) : Array Value → State → Outcome → State → Prop := fun _ st oc t => (∃ (v : Option Value) (σ : ZHp) (n : Nat), oc = .returned v ∧ P v σ n ∧ t.heap.size = n ∧ ZHP E σ t.heap) ∧ va_F (zAB E) st t
def zPg (E : ZEX) (av : List Value) (σ : ZHp) (n : Nat) : Array Value → State → Prop := va_Pc av (fun U => U.heap.size = n ∧ ZHP E σ U.heap ∧ ZENV E U U.heap)
def ZSpec (E : ZEX) (M : ZMY) (d mc ms : Nat) (av : List Value) (σ : ZHp) (n : Nat) (P : ZPT) : Prop := ∀ l : Launch, Met l M.1 (zwsM M) (zrmD d mc ms) (zPg E av σ n) (zQg E P) mc ms (zAB E)
abbrev ZMX : Type := Program × Launch × Env × Room × State × MethodId × Array Value × List Frame × Method × Code × (State → Prop)
abbrev ZLV : Type := List (Option Value)
def ZL (ls : Array Slot) (nL : Nat) (L : ZLV) : Prop := ls.size = nL ∧ lv_wf ls ∧ L.length = nL ∧ ∀ (i : Nat) (v : Value), L[i]? = some (some v) → ls[i]? = some (.val v)
abbrev ZCont : Type := Nat → ZLV → List Value → ZHp → Nat → Nat → Nat → Prop
abbrev ZRtn : Type := Option Value → ZHp → Nat → Nat → Nat → Prop
abbrev ZStep : Type := ZLV → List Value → ZHp → Nat → Nat → Nat → ZCont → ZCont → ZRtn → ZTT → Prop
def ZG (E : ZEX) (X : ZMX) (M : ZMY) : ZCont := fun pc L st σ n k w =>
  match X with
  | (p, l, e, R, s, m, args, below, meth, c, Q) => ∀ (H : Heap) (locs : List Loc) (ls : Array Slot), H.size = n → ZHP E σ H → va_S (zAB E) s.heap H locs → ZL ls M.2.2.1 L → W p l e R s m args below meth c H locs k w Q (F0 m pc ls st)
def ZCX (E : ZEX) (X : ZMX) (M : ZMY) (d mc ms : Nat) (P : ZPT) (T : ZTT) : Prop :=
  match X with
  | (p, l, e, R, s, m, args, below, meth, c, Q) =>
    ZEOK E ∧ p.tables.exec = Jvm.exec ∧ c.code = M.2.1 ∧ c.maxLocals = M.2.2.1 ∧ meth.sig.returnType = M.2.2.2 ∧ meth.locks = false ∧ s.vm.findClass M.1.cls = some m.cls ∧ (∀ w : Cond, ZWd w → w.before args s = true) ∧ ZENV E s s.heap ∧ d ≤ R.frames ∧ 64 * d ≤ R.locals ∧ mc ≤ R.cells ∧ ms ≤ R.slots ∧ meth.name = M.1.name ∧
    (∀ (H : Heap) (locs : List Loc) (k w : Nat) (g : JFrame), W p l e R s m args below meth c H locs k w (MQ below (zQg E P) args s mc ms (zAB E)) g → W p l e R s m args below meth c H locs k w Q g) ∧
    (∀ (cls : String) (σ : ZHp) (n k w : Nat), T cls σ n k w → ∀ (H : Heap) (locs : List Loc) (ls : Array Slot) (rest : List Value) (pc : Nat) (q : Addr) (ce : Cell), H.size = n → ZHP E σ H → va_S (zAB E) s.heap H locs → ZL ls M.2.2.1 [] ∨ ls.size = M.2.2.1 → H[q]? = some ce → ce.vm = .none → s.vm.findClass cls = some ce.cls → vx_W p l e R s m args below meth c H locs k w Q (F0 m pc ls rest) q)
def ZRt (P : ZPT) (mc ms : Nat) : ZRtn := fun v σ n k w => P v σ n ∧ k ≤ mc ∧ w ≤ ms
def ZRow (E : ZEX) (X : ZMX) (M : ZMY) (mc ms : Nat) (P : ZPT) (T : ZTT) (pc : Nat) (S : ZStep) : Prop :=
  ∀ K : ZCont, (∀ pc' L st σ n k w, K pc' L st σ n k w → ZG E X M pc' L st σ n k w) → ∀ L st σ n k w, S L st σ n k w K (ZG E X M) (ZRt P mc ms) T → ZG E X M pc L st σ n k w
def zrun (tb : Nat → ZStep) (cut : Nat → Bool) (ZG0 : ZCont) (R : ZRtn) (T : ZTT) : Nat → ZCont
  | 0 => ZG0
  | f + 1 => fun pc L st σ n k w => tb pc L st σ n k w (fun pc' L' st' σ' n' k' w' => bif cut pc' then ZG0 pc' L' st' σ' n' k' w' else zrun tb cut ZG0 R T f pc' L' st' σ' n' k' w') ZG0 R T
theorem zrun_ok {E : ZEX} {X : ZMX} {M : ZMY} {mc ms : Nat} {P : ZPT} {T : ZTT} {tb : Nat → ZStep} (hrow : ∀ pc, ZRow E X M mc ms P T pc (tb pc)) (cut : Nat → Bool) : ∀ (f pc : Nat) (L : ZLV) (st : List Value) (σ : ZHp) (n k w : Nat), zrun tb cut (ZG E X M) (ZRt P mc ms) T f pc L st σ n k w → ZG E X M pc L st σ n k w := by
  intro f
  induction f with
  | zero => intro pc L st σ n k w h; exact h
  | succ f ih =>
    intro pc L st σ n k w h
    refine hrow pc _ (fun pc' L' st' σ' n' k' w' h2 => ?_) L st σ n k w h
    cases hc : cut pc' with
    | true => rw [hc] at h2; exact h2
    | false => rw [hc] at h2; exact ih _ _ _ _ _ _ _ h2
def ztb (tb : List (Nat × ZStep)) (pc : Nat) : ZStep := match tb.find? (fun q => q.1 == pc) with
  | some q => q.2
  | none => fun _ _ _ _ _ _ _ _ _ _ => False
theorem ztb_ok {E : ZEX} {X : ZMX} {M : ZMY} {mc ms : Nat} {P : ZPT} {T : ZTT} {tb : List (Nat × ZStep)} (h : ∀ q ∈ tb, ZRow E X M mc ms P T q.1 q.2) : ∀ pc, ZRow E X M mc ms P T pc (ztb tb pc) := by
  intro pc
  unfold ztb
  cases hq : tb.find? (fun q => q.1 == pc) with
  | none => intro K hK L st σ n k w hS; exact hS.elim
  | some q =>
    have h1 := List.mem_of_find?_eq_some hq
    have h2 := List.find?_some hq
    have h3 : q.1 = pc := by simpa using h2
    rw [← h3]
    exact h q h1
theorem zfm0 {α : Type} {p : α → Prop} : ∀ x ∈ ([] : List α), p x := fun _ h => absurd h List.not_mem_nil
theorem zfmc {α : Type} {p : α → Prop} {a : α} {l : List α} (h : p a) (t : ∀ x ∈ l, p x) : ∀ x ∈ a :: l, p x := List.forall_mem_cons.mpr ⟨h, t⟩
-- ===== locals
theorem ZL.get {ls : Array Slot} {nL : Nat} {L : ZLV} (h : ZL ls nL L) {i : Nat} {v : Value} (hi : L[i]? = some (some v)) : ls[i]? = some (.val v) := h.2.2.2 i v hi
/-- all that is listed, as the kit lists it -/
def zlvl (L : ZLV) : List (Nat × Value) := (List.range L.length).filterMap (fun i => match L[i]? with | some (some v) => some (i, v) | _ => none)
theorem mem_zlvl {L : ZLV} {i : Nat} {v : Value} : (i, v) ∈ zlvl L ↔ L[i]? = some (some v) := by
  unfold zlvl
  rw [List.mem_filterMap]
  constructor
  · rintro ⟨j, hj, h⟩
    cases hL : L[j]? with
    | none => rw [hL] at h; cases h
    | some x =>
      cases x with
      | none => rw [hL] at h; cases h
      | some u => rw [hL] at h; cases h; exact hL
  · intro h
    refine ⟨i, List.mem_range.mpr (List.getElem?_eq_some_iff.mp h).1, ?_⟩
    rw [h]
theorem ZL.has {ls : Array Slot} {nL : Nat} {L : ZLV} (h : ZL ls nL L) : lv_has ls nL (zlvl L) := ⟨h.1, h.2.1, fun q hq => h.2.2.2 q.1 q.2 (mem_zlvl.mp hq)⟩
theorem ZL.of {ls : Array Slot} {nL : Nat} {L : ZLV} {l : List (Nat × Value)} (h : lv_has ls nL l) (hn : L.length = nL) (hi : ∀ (i : Nat) (v : Value), L[i]? = some (some v) → (i, v) ∈ l) : ZL ls nL L := ⟨h.1, h.2.1, hn, fun i v hv => h.2.2 (i, v) (hi i v hv)⟩
/-- a long or double that begins one place ahead is lost -/
def zkl (L : ZLV) (i : Nat) : ZLV := match L[i - 1]? with
  | some (some (.long _)) => L.set (i - 1) none
  | some (some (.double _)) => L.set (i - 1) none
  | _ => L
theorem zkl_len (L : ZLV) (i : Nat) : (zkl L i).length = L.length := by unfold zkl; split <;> simp
theorem zkl_get {L : ZLV} {i j : Nat} {v : Value} (h : (zkl L i)[j]? = some (some v)) : L[j]? = some (some v) ∧ (j + 1 = i → v.category ≠ 2) := by
  unfold zkl at h
  split at h
  · rename_i x hx
    by_cases hj : j = i - 1
    · subst hj
      rw [List.getElem?_set_self (List.getElem?_eq_some_iff.mp hx).1] at h
      cases h
    · rw [List.getElem?_set_ne (fun e => hj e.symm)] at h
      exact ⟨h, fun e => absurd (by omega) hj⟩
  · rename_i x hx
    by_cases hj : j = i - 1
    · subst hj
      rw [List.getElem?_set_self (List.getElem?_eq_some_iff.mp hx).1] at h
      cases h
    · rw [List.getElem?_set_ne (fun e => hj e.symm)] at h
      exact ⟨h, fun e => absurd (by omega) hj⟩
  · rename_i h1 h2
    refine ⟨h, fun e => ?_⟩
    have e2 : i - 1 = j := by omega
    rw [e2] at h1 h2
    cases v with
    | long x => exact absurd h (h1 x)
    | double x => exact absurd h (h2 x)
    | _ => simp [Value.category]
def zs1 (L : ZLV) (i : Nat) (v : Value) : ZLV := (zkl L i).set i (some v)
def zs2 (L : ZLV) (i : Nat) (v : Value) : ZLV := ((zkl L i).set (i + 1) none).set i (some v)
theorem ZL.put1 {ls : Array Slot} {nL : Nat} {L : ZLV} {i : Nat} {v : Value} (hn : L.length = nL) (h : lv_has ls nL ((i, v) :: (zlvl L).filter (fun q => !(q.1 == i) && !(q.1 + 1 == i && q.2.category == 2)))) : ZL ls nL (zs1 L i v) := by
  refine ZL.of h (by simp [zs1, zkl_len, hn]) (fun j u hu => ?_)
  unfold zs1 at hu
  by_cases hj : j = i
  · subst hj
    have hl := (List.getElem?_eq_some_iff.mp hu).1
    rw [List.getElem?_set_self (by simpa using hl)] at hu
    cases hu
    exact List.mem_cons_self
  · rw [List.getElem?_set_ne (fun e => hj e.symm)] at hu
    obtain ⟨g1, g2⟩ := zkl_get hu
    refine List.mem_cons_of_mem _ (List.mem_filter.mpr ⟨mem_zlvl.mpr g1, ?_⟩)
    simp only [Bool.and_eq_true, Bool.not_eq_true', beq_eq_false_iff_ne, ne_eq, hj, not_false_eq_true, true_and, Bool.and_eq_false_imp, beq_iff_eq]
    exact g2
theorem ZL.put2 {ls : Array Slot} {nL : Nat} {L : ZLV} {i : Nat} {v : Value} (hn : L.length = nL) (h : lv_has ls nL ((i, v) :: (zlvl L).filter (fun q => !(q.1 == i) && (!(q.1 == i + 1) && !(q.1 + 1 == i && q.2.category == 2))))) : ZL ls nL (zs2 L i v) := by
  refine ZL.of h (by simp [zs2, zkl_len, hn]) (fun j u hu => ?_)
  unfold zs2 at hu
  by_cases hj : j = i
  · subst hj
    have hl := (List.getElem?_eq_some_iff.mp hu).1
    rw [List.getElem?_set_self (by simpa using hl)] at hu
    cases hu
    exact List.mem_cons_self
  · rw [List.getElem?_set_ne (fun e => hj e.symm)] at hu
    by_cases hj1 : j = i + 1
    · subst hj1
      have hl := (List.getElem?_eq_some_iff.mp hu).1
      rw [List.getElem?_set_self (by simpa using hl)] at hu
      cases hu
    rw [List.getElem?_set_ne (fun e => hj1 e.symm)] at hu
    obtain ⟨g1, g2⟩ := zkl_get hu
    refine List.mem_cons_of_mem _ (List.mem_filter.mpr ⟨mem_zlvl.mpr g1, ?_⟩)
    simp only [Bool.and_eq_true, Bool.not_eq_true', beq_eq_false_iff_ne, ne_eq, hj, hj1, not_false_eq_true, true_and, Bool.and_eq_false_imp, beq_iff_eq]
    exact g2
def zent : List Value → Nat → ZLV
  | [], n => List.replicate n none
  | v :: vs, n => if v.category = 2 then some v :: none :: zent vs (n - 2) else some v :: zent vs (n - 1)
theorem zent_len : ∀ (vs : List Value) (n : Nat), (lg_sl vs).length ≤ n → (zent vs n).length = n
  | [], n, _ => by simp [zent]
  | v :: vs, n, h => by
    unfold zent
    by_cases hv : v.category = 2
    · have e : lg_sl (v :: vs) = .val v :: .second :: lg_sl vs := by simp [lg_sl, hv]
      rw [e] at h
      simp only [List.length_cons] at h
      rw [if_pos hv]
      simp only [List.length_cons]
      rw [zent_len vs (n - 2) (by omega)]
      omega
    · have e : lg_sl (v :: vs) = .val v :: lg_sl vs := by simp [lg_sl, hv]
      rw [e] at h
      simp only [List.length_cons] at h
      rw [if_neg hv]
      simp only [List.length_cons]
      rw [zent_len vs (n - 1) (by omega)]
      omega
theorem zent_get : ∀ (vs : List Value) (n b i : Nat) (v : Value), (zent vs n)[i]? = some (some v) → (b + i, v) ∈ lv_args b vs
  | [], n, b, i, v, h => by
    simp only [zent, List.getElem?_replicate] at h
    split at h <;> cases h
  | u :: vs, n, b, i, v, h => by
    unfold zent at h
    unfold lv_args
    by_cases hv : u.category = 2
    · rw [if_pos hv] at h
      rw [if_pos hv]
      match i, h with
      | 0, h => simp only [List.getElem?_cons_zero, Option.some.injEq] at h; subst h; exact List.mem_cons_self
      | 1, h => simp at h
      | i + 2, h =>
        simp only [List.getElem?_cons_succ] at h
        have := zent_get vs (n - 2) (b + 2) i v h
        rw [show b + (i + 2) = b + 2 + i by omega]
        exact List.mem_cons_of_mem _ this
    · rw [if_neg hv] at h
      rw [if_neg hv]
      match i, h with
      | 0, h => simp only [List.getElem?_cons_zero, Option.some.injEq] at h; subst h; exact List.mem_cons_self
      | i + 1, h =>
        simp only [List.getElem?_cons_succ] at h
        have := zent_get vs (n - 1) (b + 1) i v h
        rw [show b + (i + 1) = b + 1 + i by omega]
        exact List.mem_cons_of_mem _ this
set_option maxHeartbeats 4000000 in
theorem ZSpec_of {E : ZEX} {M : ZMY} {d mc ms : Nat} {av : List Value} {σ : ZHp} {n : Nat} {P : ZPT} (hE : ZEOK E) (hy : plainName M.1.cls = true) (hlen : (lg_sl av).length ≤ M.2.2.1) (L : ZLV) (hL : zent av M.2.2.1 = L)
    (h : ∀ X : ZMX, ZCX E X M d mc ms P (fun _ _ _ _ _ => False) → ZG E X M 0 L [] σ n 0 0) : ZSpec E M d mc ms av σ n P := by
  intro l
  obtain ⟨y, cc, nL, ret⟩ := M
  refine Met.ofW (cc := cc) (maxL := nL) (ret := ret) (ws' := zallW) hy rfl ?_
  intro p e s m args below meth c s₁ B hml hv
  obtain ⟨rfl, hsz, hP, hENV⟩ := hv
  have hts := atoms_spec (ws := zwsM (y, cc, nL, ret)) B.pre
  have hown : s.vm.findClass y.cls = some m.cls := findClass_of_methodNamed B.named
  have hnm : meth.name = y.name := (name_of_methodNamed B.named B.method).1
  rw [lg_entry_eq]
  have hl := lv_entry av (n := nL) hlen
  subst hL
  refine h (p, l, e, (headSpec (zwsM (y, cc, nL, ret)) (zrmD d mc ms)).room, s, m, av.toArray, below, meth, c, _) ⟨hE, B.exec, B.bytes, hml, B.returns, B.notSynchronized, hown, fun w hw => hts w (List.mem_cons_of_mem _ hw.all), hENV, Nat.le_refl _, Nat.le_refl _, Nat.le_refl _, Nat.le_refl _, hnm, fun H locs k w g hg => hg, fun _ _ _ _ _ hf => hf.elim⟩ s.heap [] _ hsz hP va_S.rf ?_
  refine ZL.of hl (zent_len av nL hlen) (fun i v hv => ?_)
  have := zent_get av nL 0 i v hv
  rwa [Nat.zero_add] at this
