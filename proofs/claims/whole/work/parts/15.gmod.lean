/-! MODEL: the rules, the market, a turn, rounds -/
/-- cards, merchants, orders; cost, worth, deeds of a card; kind, card, sum of a deed; merchant, card, test of an order; the piles at first, how many cards of the start, which -/
abbrev RU : Type := Nat × Nat × Nat × (Nat → Int32) × (Nat → Int32) × (Nat → Nat) × (Nat → Nat) × (Nat → Nat) × (Nat → FM) × (Nat → Nat) × (Nat → Nat) × (Nat → Option FM) × (Nat → Int32) × Nat × (Nat → Nat)
def rnc (R : RU) : Nat := R.1
def rnm (R : RU) : Nat := R.2.1
def rno (R : RU) : Nat := R.2.2.1
def rco (R : RU) : Nat → Int32 := R.2.2.2.1
def rwo (R : RU) : Nat → Int32 := R.2.2.2.2.1
def rde (R : RU) : Nat → Nat := R.2.2.2.2.2.1
def rdk (R : RU) : Nat → Nat := R.2.2.2.2.2.2.1
def rdc (R : RU) : Nat → Nat := R.2.2.2.2.2.2.2.1
def rds (R : RU) : Nat → FM := R.2.2.2.2.2.2.2.2.1
def rom (R : RU) : Nat → Nat := R.2.2.2.2.2.2.2.2.2.1
def roc (R : RU) : Nat → Nat := R.2.2.2.2.2.2.2.2.2.2.1
def rot (R : RU) : Nat → Option FM := R.2.2.2.2.2.2.2.2.2.2.2.1
def rpi (R : RU) : Nat → Int32 := R.2.2.2.2.2.2.2.2.2.2.2.2.1
def rns (R : RU) : Nat := R.2.2.2.2.2.2.2.2.2.2.2.2.2.1
def rst (R : RU) : Nat → Nat := R.2.2.2.2.2.2.2.2.2.2.2.2.2.2
def okR (R : RU) : Prop := rnc R ≤ 10 ∧ rnm R ≤ 4 ∧ rno R ≤ 16 ∧ rns R ≤ 20 ∧ (∀ i, i < rns R → rst R i < rnc R) ∧ (∀ c, c < rnc R → rde R c ≤ 4 ∧ ∀ d, d < rde R c → (rdk R (c * 4 + d) = 11 ∨ rdk R (c * 4 + d) = 12 → rdc R (c * 4 + d) < rnc R) ∧ 8 ≤ rdk R (c * 4 + d) ∧ rdk R (c * 4 + d) ≤ 12) ∧ (∀ o, o < rno R → rom R o < rnm R ∧ roc R o < rnc R)
/-- the round; piles, played, bought of the cards; the merchants -/
abbrev WM : Type := Int32 × (Nat → Int32) × (Nat → Int32) × (Nat → Int32) × (Nat → TM)
def wrd (W : WM) : Int32 := W.1
def wpi (W : WM) : Nat → Int32 := W.2.1
def wpl (W : WM) : Nat → Int32 := W.2.2.1
def wbo (W : WM) : Nat → Int32 := W.2.2.2.1
def wtr (W : WM) : Nat → TM := W.2.2.2.2
/-- a turn: merchant, hand, times played, piles, played, bought, coins, buys, cards played, trashed, bought -/
abbrev GS : Type := TM × Nat × (Nat → Int32) × (Nat → Int32) × (Nat → Int32) × (Nat → Int32) × (Nat → Int32) × Int32 × Int32 × Nat × Int32 × Int32
def mkG (tr : TM) (hl : Nat) (hd pl pi pa bo : Nat → Int32) (co bu : Int32) (cp : Nat) (ct cb : Int32) : GS := (tr, hl, hd, pl, pi, pa, bo, co, bu, cp, ct, cb)
def gtr (S : GS) : TM := S.1
def ghl (S : GS) : Nat := S.2.1
def ghd (S : GS) : Nat → Int32 := S.2.2.1
def gpl (S : GS) : Nat → Int32 := S.2.2.2.1
def gpi (S : GS) : Nat → Int32 := S.2.2.2.2.1
def gpa (S : GS) : Nat → Int32 := S.2.2.2.2.2.1
def gbo (S : GS) : Nat → Int32 := S.2.2.2.2.2.2.1
def gco (S : GS) : Int32 := S.2.2.2.2.2.2.2.1
def gbu (S : GS) : Int32 := S.2.2.2.2.2.2.2.2.1
def gcp (S : GS) : Nat := S.2.2.2.2.2.2.2.2.2.1
def gct (S : GS) : Int32 := S.2.2.2.2.2.2.2.2.2.2.1
def gcb (S : GS) : Int32 := S.2.2.2.2.2.2.2.2.2.2.2
def gTH (S : GS) : TH := (gtr S, ghl S, ghd S)
/-- what a formula knows -/
def knG (rd : Int32) (S : GS) (op : Nat) (x : Int32) : Int32 :=
  if op = 20 then rd else if op = 8 then gco S else if op = 10 then gbu S else if op = 21 then nI (ghl S) else if op = 25 then ttr (gtr S) else if op = 22 then gpl S x.toNatClampNeg else if op = 23 then tow (gtr S) x.toNatClampNeg else if op = 24 then gpi S x.toNatClampNeg else x
def heldL (z : Int64) (m : Int32) : Int32 := if z < 0 then 0 else if m.toInt64 < z then m else z.toInt32
def heldN (x : Int32) (m : Nat) : Nat := (heldL x.toInt64 (nI m)).toNatClampNeg
def setH (S : GS) (X : TH) : GS := mkG X.1 X.2.1 X.2.2 (gpl S) (gpi S) (gpa S) (gbo S) (gco S) (gbu S) (gcp S) (gct S) (gcb S)
def setC (S : GS) (x : Int32) : GS := mkG (gtr S) (ghl S) (ghd S) (gpl S) (gpi S) (gpa S) (gbo S) x (gbu S) (gcp S) (gct S) (gcb S)
def setB (S : GS) (x : Int32) : GS := mkG (gtr S) (ghl S) (ghd S) (gpl S) (gpi S) (gpa S) (gbo S) (gco S) x (gcp S) (gct S) (gcb S)
/-- the first of q places from j on that has v -/
def zfn (f : Nat → Int32) (v : Int32) : Nat → Nat → Option Nat
  | 0, _ => none
  | q + 1, j => if f j = v then some j else zfn f v q (j + 1)
def trashG (S : GS) (c : Nat) : GS := match zfn (ghd S) (nI c) (ghl S - gcp S) (gcp S) with
  | none => S
  | some p => mkG (loseT (gtr S) c) (ghl S - 1) (outW p (ghd S)) (gpl S) (gpi S) (gpa S) (gbo S) (gco S) (gbu S) (gcp S) (gct S + 1) (gcb S)
def deedG (R : RU) (rd : Int32) (card d : Nat) (S : GS) : GS :=
  if rdk R d = 8 then setC S (heldL ((gco S).toInt64 + (rds R d (knG rd S)).toInt64) 999)
  else if rdk R d = 9 then setH S (drawN (heldN (rds R d (knG rd S)) 9) (gTH S))
  else if rdk R d = 10 then setB S (heldL ((gbu S).toInt64 + (rds R d (knG rd S)).toInt64) 9)
  else if rdk R d = 11 then trashG S (rdc R d)
  else if (if rdc R d = card then (1 : Int32) else 0) < gpl S (rdc R d) then setC S (heldL ((gco S).toInt64 + (rds R d (knG rd S)).toInt64) 999)
  else S
/-- q deeds from d on -/
def deedsG (R : RU) (rd : Int32) (card : Nat) : Nat → Nat → GS → GS
  | 0, _, S => S
  | q + 1, d, S => deedsG R rd card q (d + 1) (deedG R rd card d S)
def cardG (R : RU) (rd : Int32) (S : GS) : GS :=
  deedsG R rd (ghd S (gcp S)).toNatClampNeg (rde R (ghd S (gcp S)).toNatClampNeg) ((ghd S (gcp S)).toNatClampNeg * 4)
    (mkG (gtr S) (ghl S) (ghd S) (upd (gpl S) (ghd S (gcp S)).toNatClampNeg (gpl S (ghd S (gcp S)).toNatClampNeg + 1)) (gpi S) (upd (gpa S) (ghd S (gcp S)).toNatClampNeg (gpa S (ghd S (gcp S)).toNatClampNeg + 1)) (gbo S) (gco S) (gbu S) (gcp S + 1) (gct S) (gcb S))
/-- q cards at most are played -/
def playG (R : RU) (rd : Int32) : Nat → GS → GS
  | 0, S => S
  | q + 1, S => if gcp S < ghl S then playG R rd q (cardG R rd S) else S
def testG (o : Option FM) (kn : Nat → Int32 → Int32) : Bool := match o with
  | none => true
  | some F => !(F kn == 0)
def buyG (S : GS) (c : Nat) (cost : Int32) : GS := mkG (boT (gainT (gtr S) c)) (ghl S) (ghd S) (gpl S) (upd (gpi S) c (gpi S c - 1)) (gpa S) (upd (gbo S) c (gbo S c + 1)) (gco S - cost) (gbu S - 1) (gcp S) (gct S) (gcb S + 1)
def orderG (R : RU) (rd : Int32) (m : Nat) (skip : Int32) (o : Nat) (S : GS) : GS :=
  if nI o ≠ skip ∧ rom R o = m ∧ 0 < gbu S ∧ rco R (roc R o) ≤ gco S ∧ 0 < gpi S (roc R o) ∧ ttt (gtr S) < 60 ∧ testG (rot R o) (knG rd S) = true then buyG S (roc R o) (rco R (roc R o)) else S
/-- q orders from o on -/
def ordersG (R : RU) (rd : Int32) (m : Nat) (skip : Int32) : Nat → Nat → GS → GS
  | 0, _, S => S
  | q + 1, o, S => ordersG R rd m skip q (o + 1) (orderG R rd m skip o S)
def startG (W : WM) (m : Nat) : GS := mkG (wtr W m) 0 (fun _ => 0) (fun _ => 0) (wpi W) (wpl W) (wbo W) 0 1 0 0 0
def drawnG (W : WM) (m : Nat) : GS := setH (startG W m) (drawN 5 (gTH (startG W m)))
def handG (R : RU) (W : WM) (m : Nat) : GS := playG R (wrd W) 30 (drawnG W m)
def latestG (S : GS) : GS := mkG (coT (gtr S) (gco S)) (ghl S) (ghd S) (gpl S) (gpi S) (gpa S) (gbo S) (gco S) (gbu S) (gcp S) (gct S) (gcb S)
def turnG (R : RU) (W : WM) (m : Nat) (skip : Int32) : GS := ordersG R (wrd W) m skip (rno R) 0 (latestG (handG R W m))
def updT (f : Nat → TM) (k : Nat) (x : TM) : Nat → TM := fun j => if j = k then x else f j
def turnW (R : RU) (W : WM) (m : Nat) (skip : Int32) : WM :=
  (wrd W, gpi (turnG R W m skip), gpa (turnG R W m skip), gbo (turnG R W m skip), updT (wtr W) m (putT (gtr (turnG R W m skip)) (ghl (turnG R W m skip)) (ghd (turnG R W m skip))))
/-- q merchants from m on have their turns: the market, and how many cards they buy -/
def roundW (R : RU) (skip : Int32) : Nat → Nat → WM × Int32 → WM × Int32
  | 0, _, X => X
  | q + 1, m, X => roundW R skip q (m + 1) (turnW R X.1 m skip, X.2 + gcb (turnG R X.1 m skip))
def nextW (W : WM) : WM := (wrd W + 1, wpi W, wpl W, wbo W, wtr W)
def roundsW (R : RU) (skip : Int32) : Nat → WM × Int32 → WM × Int32
  | 0, X => X
  | q + 1, X => roundsW R skip q (nextW (roundW R skip (rnm R) 0 X).1, (roundW R skip (rnm R) 0 X).2)
/-- worth of a merchant's cards; the leader among q merchants from m on, b the best so far -/
def worthT (R : RU) (M : TM) : Nat → Int32
  | 0 => 0
  | q + 1 => worthT R M q + tow M q * rwo R q
def isAhd (R : RU) (W : WM) (a b : Nat) : Bool := if worthT R (wtr W a) (rnc R) = worthT R (wtr W b) (rnc R) then decide (ttt (wtr W a) < ttt (wtr W b)) else decide (worthT R (wtr W b) (rnc R) < worthT R (wtr W a) (rnc R))
def leadW (R : RU) (W : WM) : Nat → Nat → Option Nat → Option Nat
  | 0, _, b => b
  | q + 1, m, none => leadW R W q (m + 1) (some m)
  | q + 1, m, some b => leadW R W q (m + 1) (some (if isAhd R W m b = true then m else b))
def oI : Option Nat → Int32
  | none => -1
  | some j => nI j
/-- what count() tells of all merchants, q from m on -/
def sumT (f : TM → Int32) (tr : Nat → TM) : Nat → Int32
  | 0 => 0
  | q + 1 => sumT f tr q + f (tr q)
def countW (R : RU) (W : WM) (tape : Int32) : Nat → Int32
  | 0 => wrd W
  | 1 => nI (rnc R)
  | 2 => nI (rnm R)
  | 3 => nI (rno R)
  | 4 => zsm (wpi W) 10
  | 5 => sumT (fun M => nI (ttt M)) (wtr W) (rnm R)
  | 6 => sumT ttr (wtr W) (rnm R)
  | 7 => sumT tbo (wtr W) (rnm R)
  | _ => tape
