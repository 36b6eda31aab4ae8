/-! LOCALS, place by place -/
def zk0 (v : Option Value) : Option Value := match v with
  | some (.long _) => none
  | some (.double _) => none
  | v => v
theorem zk0_n : zk0 none = none := rfl
theorem zk0_i {x : Int32} : zk0 (some (.int x)) = some (.int x) := rfl
theorem zk0_r {x : Nat} : zk0 (some (.ref x)) = some (.ref x) := rfl
theorem zk0_0 : zk0 (some .null) = some .null := rfl
theorem zk0_l {x : Int64} : zk0 (some (.long x)) = none := rfl
theorem zk0_d {x : UInt64} : zk0 (some (.double x)) = none := rfl
theorem zkl_s (L : ZLV) (a : Option Value) (i : Nat) : zkl (a :: L) (i + 2) = a :: zkl L (i + 1) := by
  show (match (a :: L)[i + 1]? with | some (some (.long _)) => (a :: L).set (i + 1) none | some (some (.double _)) => (a :: L).set (i + 1) none | _ => a :: L) = a :: (match L[i]? with | some (some (.long _)) => L.set i none | some (some (.double _)) => L.set i none | _ => L)
  rw [List.getElem?_cons_succ]
  cases L[i]? with
  | none => rfl
  | some u =>
    cases u with
    | none => rfl
    | some v => cases v <;> rfl
theorem zkl_1 (L : ZLV) (a : Option Value) : zkl (a :: L) 1 = zk0 a :: L := by
  cases a with
  | none => rfl
  | some v => cases v <;> rfl
theorem zs1_0 (L : ZLV) (a : Option Value) (v : Value) : zs1 (a :: L) 0 v = some v :: L := by
  cases a with
  | none => rfl
  | some v => cases v <;> rfl
theorem zs1_1 (L : ZLV) (a b : Option Value) (v : Value) : zs1 (a :: b :: L) 1 v = zk0 a :: some v :: L := by
  unfold zs1
  rw [zkl_1]
  rfl
theorem zs1_s (L : ZLV) (a : Option Value) (i : Nat) (v : Value) : zs1 (a :: L) (i + 2) v = a :: zs1 L (i + 1) v := by
  unfold zs1
  rw [zkl_s]
  rfl
theorem zs2_0 (L : ZLV) (a b : Option Value) (v : Value) : zs2 (a :: b :: L) 0 v = some v :: none :: L := by
  cases a with
  | none => rfl
  | some v => cases v <;> rfl
theorem zs2_1 (L : ZLV) (a b c : Option Value) (v : Value) : zs2 (a :: b :: c :: L) 1 v = zk0 a :: some v :: none :: L := by
  unfold zs2
  rw [zkl_1]
  rfl
theorem zs2_s (L : ZLV) (a : Option Value) (i : Nat) (v : Value) : zs2 (a :: L) (i + 2) v = a :: zs2 L (i + 1) v := by
  unfold zs2
  rw [zkl_s]
  rfl
theorem zc_lt : ((0 : Int32) < 0) ↔ False := iff_of_false (by decide) id
theorem zc_le : ((0 : Int32) ≤ 0) ↔ True := iff_of_true (by decide) trivial
theorem zc_0 : Int32.toNatClampNeg 0 = 0 := by decide
theorem zc_m : ((-1 : Int32) < 0) ↔ True := iff_of_true (by decide) trivial
theorem zc_m0 : ((-1 : Int32) = 0) ↔ False := iff_of_false (by decide) id
theorem zc_10 : ((1 : Int32) = 0) ↔ False := iff_of_false (by decide) id
