/-! SUMS AND TESTS of tokens: kinds (as the signs of the class), what they mean, where they end -/
/-- the reference's number of a kind -/
def rkc (o : Nat) : Nat := if o = 0 then 71 else if o = 1 then 70 else if o = 2 then 30 else if o = 3 then 31 else if o = 4 then 99 else if o < 31 then o - 5 else o + 9
abbrev PR : Type := Option (Nat × FM)
/-- items joined by one of two signs, from left to right: q more at most -/
def pLp (K : Nat → Nat) (a b : Nat) (item : Nat → PR) : Nat → Nat → FM → PR
  | 0, _, _ => none
  | q + 1, p, F => if K p = a ∨ K p = b then (match item (p + 1) with
      | none => none
      | some (e, G) => pLp K a b item q e (fun kn => ejoin (K p) (F kn) (G kn)))
    else some (p, F)
def pJn (K : Nat → Nat) (a b : Nat) (item : Nat → PR) (p : Nat) : PR := match item p with
  | none => none
  | some (e, F) => pLp K a b item 400 e F
def pSm (K : Nat → Nat) (v : Nat → PR) : Nat → PR := pJn K 37 38 (pJn K 39 40 v)
/-- a value; v: a value one deeper, if it may be -/
def pVl (K : Nat → Nat) (X : Nat → Int32) (v : Option (Nat → PR)) (p : Nat) : PR :=
  if K p = 38 then (match v with
    | none => none
    | some v => match v (p + 1) with
      | none => none
      | some (e, F) => some (e, fun kn => -F kn))
  else if K p = 3 ∨ K p = 8 ∨ K p = 10 ∨ K p = 20 ∨ K p = 21 ∨ K p = 25 then some (p + 1, fun kn => kn (K p) (X p))
  else if K p = 22 ∨ K p = 23 ∨ K p = 24 then (if K (p + 1) = 2 then some (p + 2, fun kn => kn (K p) (X (p + 1))) else none)
  else if K p = 29 ∨ K p = 30 then (match v with
    | none => none
    | some v => if K (p + 1) = 31 then (match pSm K v (p + 2) with
      | none => none
      | some (e, F) => if K e = 36 then (match pSm K v (e + 1) with
        | none => none
        | some (e2, G) => if K e2 = 32 then some (e2 + 1, fun kn => ejoin (K p) (F kn) (G kn)) else none) else none) else none)
  else if K p = 31 then (match v with
    | none => none
    | some v => match pSm K v (p + 1) with
      | none => none
      | some (e, F) => if K e = 32 then some (e + 1, F) else none)
  else none
def pV (K : Nat → Nat) (X : Nat → Int32) : Nat → Nat → PR
  | 0 => pVl K X none
  | r + 1 => pVl K X (some (pV K X r))
def pS (K : Nat → Nat) (X : Nat → Int32) (r : Nat) : Nat → PR := pSm K (pV K X r)
def pTs (K : Nat → Nat) (s : Nat → PR) : Nat → PR := pJn K 28 28 (pJn K 27 27 s)
/-- a single test; sm: a sum, s: a single test one deeper -/
def pSg (K : Nat → Nat) (sm : Nat → PR) (s : Option (Nat → PR)) (p : Nat) : PR :=
  if K p = 26 then (match s with
    | none => none
    | some s => match s (p + 1) with
      | none => none
      | some (e, F) => some (e, fun kn => 1 - F kn))
  else if K p = 33 then (match s with
    | none => none
    | some s => match pTs K s (p + 1) with
      | none => none
      | some (e, F) => if K e = 34 then some (e + 1, F) else none)
  else match sm p with
    | none => none
    | some (e, F) => if 41 ≤ K e ∧ K e ≤ 45 then (match sm (e + 1) with
      | none => none
      | some (e2, G) => some (e2, fun kn => ejoin (K e) (F kn) (G kn))) else none
def pG (K : Nat → Nat) (X : Nat → Int32) : Nat → Nat → PR
  | 0 => pSg K (pS K X 0) none
  | r + 1 => pSg K (pS K X (r + 1)) (some (pG K X r))
def pT (K : Nat → Nat) (X : Nat → Int32) (r : Nat) : Nat → PR := pTs K (pG K X r)
