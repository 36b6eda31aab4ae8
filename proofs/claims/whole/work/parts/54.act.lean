/-! WHAT A LIST TELLS, token by token -/
/-- the error, its token; the number told last; cards: how many, names, cost, worth, pile, deeds, their tokens, the cards that they name; merchants, names; the start; orders: how many, card, merchant, test -/
abbrev SA : Type := Nat × Nat × Nat × Nat × (Nat → Nat) × (Nat → Nat) × (Nat → Nat) × (Nat → Nat) × (Nat → Nat) × (Nat → Nat) × (Nat → Nat) × Nat × (Nat → Nat) × Nat × (Nat → Nat) × Nat × (Nat → Nat) × (Nat → Nat) × (Nat → Option Nat)
def aer (S : SA) : Nat := S.1
def aep (S : SA) : Nat := S.2.1
def anu (S : SA) : Nat := S.2.2.1
def anc (S : SA) : Nat := S.2.2.2.1
def acn (S : SA) : Nat → Nat := S.2.2.2.2.1
def aco (S : SA) : Nat → Nat := S.2.2.2.2.2.1
def awo (S : SA) : Nat → Nat := S.2.2.2.2.2.2.1
def api (S : SA) : Nat → Nat := S.2.2.2.2.2.2.2.1
def ade (S : SA) : Nat → Nat := S.2.2.2.2.2.2.2.2.1
def adt (S : SA) : Nat → Nat := S.2.2.2.2.2.2.2.2.2.1
def adc (S : SA) : Nat → Nat := S.2.2.2.2.2.2.2.2.2.2.1
def anm (S : SA) : Nat := S.2.2.2.2.2.2.2.2.2.2.2.1
def amn (S : SA) : Nat → Nat := S.2.2.2.2.2.2.2.2.2.2.2.2.1
def ans (S : SA) : Nat := S.2.2.2.2.2.2.2.2.2.2.2.2.2.1
def ast (S : SA) : Nat → Nat := S.2.2.2.2.2.2.2.2.2.2.2.2.2.2.1
def ano (S : SA) : Nat := S.2.2.2.2.2.2.2.2.2.2.2.2.2.2.2.1
def aoc (S : SA) : Nat → Nat := S.2.2.2.2.2.2.2.2.2.2.2.2.2.2.2.2.1
def aom (S : SA) : Nat → Nat := S.2.2.2.2.2.2.2.2.2.2.2.2.2.2.2.2.2.1
def aot (S : SA) : Nat → Option Nat := S.2.2.2.2.2.2.2.2.2.2.2.2.2.2.2.2.2.2
def mkA (xer : Nat) (xep : Nat) (xnu : Nat) (xnc : Nat) (xcn : Nat → Nat) (xco : Nat → Nat) (xwo : Nat → Nat) (xpi : Nat → Nat) (xde : Nat → Nat) (xdt : Nat → Nat) (xdc : Nat → Nat) (xnm : Nat) (xmn : Nat → Nat) (xns : Nat) (xst : Nat → Nat) (xno : Nat) (xoc : Nat → Nat) (xom : Nat → Nat) (xot : Nat → Option Nat) : SA := (xer, xep, xnu, xnc, xcn, xco, xwo, xpi, xde, xdt, xdc, xnm, xmn, xns, xst, xno, xoc, xom, xot)
theorem mk_aer {xer : Nat} {xep : Nat} {xnu : Nat} {xnc : Nat} {xcn : Nat → Nat} {xco : Nat → Nat} {xwo : Nat → Nat} {xpi : Nat → Nat} {xde : Nat → Nat} {xdt : Nat → Nat} {xdc : Nat → Nat} {xnm : Nat} {xmn : Nat → Nat} {xns : Nat} {xst : Nat → Nat} {xno : Nat} {xoc : Nat → Nat} {xom : Nat → Nat} {xot : Nat → Option Nat} : aer (mkA xer xep xnu xnc xcn xco xwo xpi xde xdt xdc xnm xmn xns xst xno xoc xom xot) = xer := rfl
theorem mk_aep {xer : Nat} {xep : Nat} {xnu : Nat} {xnc : Nat} {xcn : Nat → Nat} {xco : Nat → Nat} {xwo : Nat → Nat} {xpi : Nat → Nat} {xde : Nat → Nat} {xdt : Nat → Nat} {xdc : Nat → Nat} {xnm : Nat} {xmn : Nat → Nat} {xns : Nat} {xst : Nat → Nat} {xno : Nat} {xoc : Nat → Nat} {xom : Nat → Nat} {xot : Nat → Option Nat} : aep (mkA xer xep xnu xnc xcn xco xwo xpi xde xdt xdc xnm xmn xns xst xno xoc xom xot) = xep := rfl
theorem mk_anu {xer : Nat} {xep : Nat} {xnu : Nat} {xnc : Nat} {xcn : Nat → Nat} {xco : Nat → Nat} {xwo : Nat → Nat} {xpi : Nat → Nat} {xde : Nat → Nat} {xdt : Nat → Nat} {xdc : Nat → Nat} {xnm : Nat} {xmn : Nat → Nat} {xns : Nat} {xst : Nat → Nat} {xno : Nat} {xoc : Nat → Nat} {xom : Nat → Nat} {xot : Nat → Option Nat} : anu (mkA xer xep xnu xnc xcn xco xwo xpi xde xdt xdc xnm xmn xns xst xno xoc xom xot) = xnu := rfl
theorem mk_anc {xer : Nat} {xep : Nat} {xnu : Nat} {xnc : Nat} {xcn : Nat → Nat} {xco : Nat → Nat} {xwo : Nat → Nat} {xpi : Nat → Nat} {xde : Nat → Nat} {xdt : Nat → Nat} {xdc : Nat → Nat} {xnm : Nat} {xmn : Nat → Nat} {xns : Nat} {xst : Nat → Nat} {xno : Nat} {xoc : Nat → Nat} {xom : Nat → Nat} {xot : Nat → Option Nat} : anc (mkA xer xep xnu xnc xcn xco xwo xpi xde xdt xdc xnm xmn xns xst xno xoc xom xot) = xnc := rfl
theorem mk_acn {xer : Nat} {xep : Nat} {xnu : Nat} {xnc : Nat} {xcn : Nat → Nat} {xco : Nat → Nat} {xwo : Nat → Nat} {xpi : Nat → Nat} {xde : Nat → Nat} {xdt : Nat → Nat} {xdc : Nat → Nat} {xnm : Nat} {xmn : Nat → Nat} {xns : Nat} {xst : Nat → Nat} {xno : Nat} {xoc : Nat → Nat} {xom : Nat → Nat} {xot : Nat → Option Nat} : acn (mkA xer xep xnu xnc xcn xco xwo xpi xde xdt xdc xnm xmn xns xst xno xoc xom xot) = xcn := rfl
theorem mk_aco {xer : Nat} {xep : Nat} {xnu : Nat} {xnc : Nat} {xcn : Nat → Nat} {xco : Nat → Nat} {xwo : Nat → Nat} {xpi : Nat → Nat} {xde : Nat → Nat} {xdt : Nat → Nat} {xdc : Nat → Nat} {xnm : Nat} {xmn : Nat → Nat} {xns : Nat} {xst : Nat → Nat} {xno : Nat} {xoc : Nat → Nat} {xom : Nat → Nat} {xot : Nat → Option Nat} : aco (mkA xer xep xnu xnc xcn xco xwo xpi xde xdt xdc xnm xmn xns xst xno xoc xom xot) = xco := rfl
theorem mk_awo {xer : Nat} {xep : Nat} {xnu : Nat} {xnc : Nat} {xcn : Nat → Nat} {xco : Nat → Nat} {xwo : Nat → Nat} {xpi : Nat → Nat} {xde : Nat → Nat} {xdt : Nat → Nat} {xdc : Nat → Nat} {xnm : Nat} {xmn : Nat → Nat} {xns : Nat} {xst : Nat → Nat} {xno : Nat} {xoc : Nat → Nat} {xom : Nat → Nat} {xot : Nat → Option Nat} : awo (mkA xer xep xnu xnc xcn xco xwo xpi xde xdt xdc xnm xmn xns xst xno xoc xom xot) = xwo := rfl
theorem mk_api {xer : Nat} {xep : Nat} {xnu : Nat} {xnc : Nat} {xcn : Nat → Nat} {xco : Nat → Nat} {xwo : Nat → Nat} {xpi : Nat → Nat} {xde : Nat → Nat} {xdt : Nat → Nat} {xdc : Nat → Nat} {xnm : Nat} {xmn : Nat → Nat} {xns : Nat} {xst : Nat → Nat} {xno : Nat} {xoc : Nat → Nat} {xom : Nat → Nat} {xot : Nat → Option Nat} : api (mkA xer xep xnu xnc xcn xco xwo xpi xde xdt xdc xnm xmn xns xst xno xoc xom xot) = xpi := rfl
theorem mk_ade {xer : Nat} {xep : Nat} {xnu : Nat} {xnc : Nat} {xcn : Nat → Nat} {xco : Nat → Nat} {xwo : Nat → Nat} {xpi : Nat → Nat} {xde : Nat → Nat} {xdt : Nat → Nat} {xdc : Nat → Nat} {xnm : Nat} {xmn : Nat → Nat} {xns : Nat} {xst : Nat → Nat} {xno : Nat} {xoc : Nat → Nat} {xom : Nat → Nat} {xot : Nat → Option Nat} : ade (mkA xer xep xnu xnc xcn xco xwo xpi xde xdt xdc xnm xmn xns xst xno xoc xom xot) = xde := rfl
theorem mk_adt {xer : Nat} {xep : Nat} {xnu : Nat} {xnc : Nat} {xcn : Nat → Nat} {xco : Nat → Nat} {xwo : Nat → Nat} {xpi : Nat → Nat} {xde : Nat → Nat} {xdt : Nat → Nat} {xdc : Nat → Nat} {xnm : Nat} {xmn : Nat → Nat} {xns : Nat} {xst : Nat → Nat} {xno : Nat} {xoc : Nat → Nat} {xom : Nat → Nat} {xot : Nat → Option Nat} : adt (mkA xer xep xnu xnc xcn xco xwo xpi xde xdt xdc xnm xmn xns xst xno xoc xom xot) = xdt := rfl
theorem mk_adc {xer : Nat} {xep : Nat} {xnu : Nat} {xnc : Nat} {xcn : Nat → Nat} {xco : Nat → Nat} {xwo : Nat → Nat} {xpi : Nat → Nat} {xde : Nat → Nat} {xdt : Nat → Nat} {xdc : Nat → Nat} {xnm : Nat} {xmn : Nat → Nat} {xns : Nat} {xst : Nat → Nat} {xno : Nat} {xoc : Nat → Nat} {xom : Nat → Nat} {xot : Nat → Option Nat} : adc (mkA xer xep xnu xnc xcn xco xwo xpi xde xdt xdc xnm xmn xns xst xno xoc xom xot) = xdc := rfl
theorem mk_anm {xer : Nat} {xep : Nat} {xnu : Nat} {xnc : Nat} {xcn : Nat → Nat} {xco : Nat → Nat} {xwo : Nat → Nat} {xpi : Nat → Nat} {xde : Nat → Nat} {xdt : Nat → Nat} {xdc : Nat → Nat} {xnm : Nat} {xmn : Nat → Nat} {xns : Nat} {xst : Nat → Nat} {xno : Nat} {xoc : Nat → Nat} {xom : Nat → Nat} {xot : Nat → Option Nat} : anm (mkA xer xep xnu xnc xcn xco xwo xpi xde xdt xdc xnm xmn xns xst xno xoc xom xot) = xnm := rfl
theorem mk_amn {xer : Nat} {xep : Nat} {xnu : Nat} {xnc : Nat} {xcn : Nat → Nat} {xco : Nat → Nat} {xwo : Nat → Nat} {xpi : Nat → Nat} {xde : Nat → Nat} {xdt : Nat → Nat} {xdc : Nat → Nat} {xnm : Nat} {xmn : Nat → Nat} {xns : Nat} {xst : Nat → Nat} {xno : Nat} {xoc : Nat → Nat} {xom : Nat → Nat} {xot : Nat → Option Nat} : amn (mkA xer xep xnu xnc xcn xco xwo xpi xde xdt xdc xnm xmn xns xst xno xoc xom xot) = xmn := rfl
theorem mk_ans {xer : Nat} {xep : Nat} {xnu : Nat} {xnc : Nat} {xcn : Nat → Nat} {xco : Nat → Nat} {xwo : Nat → Nat} {xpi : Nat → Nat} {xde : Nat → Nat} {xdt : Nat → Nat} {xdc : Nat → Nat} {xnm : Nat} {xmn : Nat → Nat} {xns : Nat} {xst : Nat → Nat} {xno : Nat} {xoc : Nat → Nat} {xom : Nat → Nat} {xot : Nat → Option Nat} : ans (mkA xer xep xnu xnc xcn xco xwo xpi xde xdt xdc xnm xmn xns xst xno xoc xom xot) = xns := rfl
theorem mk_ast {xer : Nat} {xep : Nat} {xnu : Nat} {xnc : Nat} {xcn : Nat → Nat} {xco : Nat → Nat} {xwo : Nat → Nat} {xpi : Nat → Nat} {xde : Nat → Nat} {xdt : Nat → Nat} {xdc : Nat → Nat} {xnm : Nat} {xmn : Nat → Nat} {xns : Nat} {xst : Nat → Nat} {xno : Nat} {xoc : Nat → Nat} {xom : Nat → Nat} {xot : Nat → Option Nat} : ast (mkA xer xep xnu xnc xcn xco xwo xpi xde xdt xdc xnm xmn xns xst xno xoc xom xot) = xst := rfl
theorem mk_ano {xer : Nat} {xep : Nat} {xnu : Nat} {xnc : Nat} {xcn : Nat → Nat} {xco : Nat → Nat} {xwo : Nat → Nat} {xpi : Nat → Nat} {xde : Nat → Nat} {xdt : Nat → Nat} {xdc : Nat → Nat} {xnm : Nat} {xmn : Nat → Nat} {xns : Nat} {xst : Nat → Nat} {xno : Nat} {xoc : Nat → Nat} {xom : Nat → Nat} {xot : Nat → Option Nat} : ano (mkA xer xep xnu xnc xcn xco xwo xpi xde xdt xdc xnm xmn xns xst xno xoc xom xot) = xno := rfl
theorem mk_aoc {xer : Nat} {xep : Nat} {xnu : Nat} {xnc : Nat} {xcn : Nat → Nat} {xco : Nat → Nat} {xwo : Nat → Nat} {xpi : Nat → Nat} {xde : Nat → Nat} {xdt : Nat → Nat} {xdc : Nat → Nat} {xnm : Nat} {xmn : Nat → Nat} {xns : Nat} {xst : Nat → Nat} {xno : Nat} {xoc : Nat → Nat} {xom : Nat → Nat} {xot : Nat → Option Nat} : aoc (mkA xer xep xnu xnc xcn xco xwo xpi xde xdt xdc xnm xmn xns xst xno xoc xom xot) = xoc := rfl
theorem mk_aom {xer : Nat} {xep : Nat} {xnu : Nat} {xnc : Nat} {xcn : Nat → Nat} {xco : Nat → Nat} {xwo : Nat → Nat} {xpi : Nat → Nat} {xde : Nat → Nat} {xdt : Nat → Nat} {xdc : Nat → Nat} {xnm : Nat} {xmn : Nat → Nat} {xns : Nat} {xst : Nat → Nat} {xno : Nat} {xoc : Nat → Nat} {xom : Nat → Nat} {xot : Nat → Option Nat} : aom (mkA xer xep xnu xnc xcn xco xwo xpi xde xdt xdc xnm xmn xns xst xno xoc xom xot) = xom := rfl
theorem mk_aot {xer : Nat} {xep : Nat} {xnu : Nat} {xnc : Nat} {xcn : Nat → Nat} {xco : Nat → Nat} {xwo : Nat → Nat} {xpi : Nat → Nat} {xde : Nat → Nat} {xdt : Nat → Nat} {xdc : Nat → Nat} {xnm : Nat} {xmn : Nat → Nat} {xns : Nat} {xst : Nat → Nat} {xno : Nat} {xoc : Nat → Nat} {xom : Nat → Nat} {xot : Nat → Option Nat} : aot (mkA xer xep xnu xnc xcn xco xwo xpi xde xdt xdc xnm xmn xns xst xno xoc xom xot) = xot := rfl
def upn (f : Nat → Nat) (k x : Nat) : Nat → Nat := fun j => if j = k then x else f j
theorem upn_s {f : Nat → Nat} {k x : Nat} : upn f k x k = x := if_pos rfl
theorem upn_n {f : Nat → Nat} {k x j : Nat} (h : j ≠ k) : upn f k x j = f j := if_neg h
def upo (f : Nat → Option Nat) (k : Nat) (x : Option Nat) : Nat → Option Nat := fun j => if j = k then x else f j
def fltA (S : SA) (n k : Nat) : SA := mkA (n) (k) (anu S) (anc S) (acn S) (aco S) (awo S) (api S) (ade S) (adt S) (adc S) (anm S) (amn S) (ans S) (ast S) (ano S) (aoc S) (aom S) (aot S)
def cardA (S : SA) (v : Nat) : SA := mkA (aer S) (aep S) (anu S) (anc S + 1) (upn (acn S) (anc S) v) (aco S) (awo S) (api S) (ade S) (adt S) (adc S) (anm S) (amn S) (ans S) (ast S) (ano S) (aoc S) (aom S) (aot S)
def mercA (S : SA) (v : Nat) : SA := mkA (aer S) (aep S) (anu S) (anc S) (acn S) (aco S) (awo S) (api S) (ade S) (adt S) (adc S) (anm S + 1) (upn (amn S) (anm S) v) (ans S) (ast S) (ano S) (aoc S) (aom S) (aot S)
def pileA (S : SA) (j : Nat) : SA := mkA (aer S) (aep S) (anu S) (anc S) (acn S) (aco S) (awo S) (upn (api S) j (anu S)) (ade S) (adt S) (adc S) (anm S) (amn S) (ans S) (ast S) (ano S) (aoc S) (aom S) (aot S)
def startA (S : SA) (j : Nat) : SA := mkA (aer S) (aep S) (anu S) (anc S) (acn S) (aco S) (awo S) (api S) (ade S) (adt S) (adc S) (anm S) (amn S) (ans S + anu S) (fun i => if ans S ≤ i ∧ i < ans S + anu S then j else ast S i) (ano S) (aoc S) (aom S) (aot S)
def ocA (S : SA) (j : Nat) : SA := mkA (aer S) (aep S) (anu S) (anc S) (acn S) (aco S) (awo S) (api S) (ade S) (adt S) (adc S) (anm S) (amn S) (ans S) (ast S) (ano S) (upn (aoc S) (ano S - 1) j) (aom S) (aot S)
def omA (S : SA) (j : Nat) : SA := mkA (aer S) (aep S) (anu S) (anc S) (acn S) (aco S) (awo S) (api S) (ade S) (adt S) (adc S) (anm S) (amn S) (ans S) (ast S) (ano S) (aoc S) (upn (aom S) (ano S - 1) j) (aot S)
def dcA (S : SA) (j : Nat) : SA := mkA (aer S) (aep S) (anu S) (anc S) (acn S) (aco S) (awo S) (api S) (ade S) (adt S) (upn (adc S) (4 * (anc S - 1) + ade S (anc S - 1) - 1) j) (anm S) (amn S) (ans S) (ast S) (ano S) (aoc S) (aom S) (aot S)
def costA (S : SA) (v : Nat) : SA := mkA (aer S) (aep S) (anu S) (anc S) (acn S) (upn (aco S) (anc S - 1) v) (awo S) (api S) (ade S) (adt S) (adc S) (anm S) (amn S) (ans S) (ast S) (ano S) (aoc S) (aom S) (aot S)
def worthA (S : SA) (v : Nat) : SA := mkA (aer S) (aep S) (anu S) (anc S) (acn S) (aco S) (upn (awo S) (anc S - 1) v) (api S) (ade S) (adt S) (adc S) (anm S) (amn S) (ans S) (ast S) (ano S) (aoc S) (aom S) (aot S)
def numA (S : SA) (v : Nat) : SA := mkA (aer S) (aep S) (v) (anc S) (acn S) (aco S) (awo S) (api S) (ade S) (adt S) (adc S) (anm S) (amn S) (ans S) (ast S) (ano S) (aoc S) (aom S) (aot S)
def deedA (S : SA) (k : Nat) : SA := mkA (aer S) (aep S) (anu S) (anc S) (acn S) (aco S) (awo S) (api S) (upn (ade S) (anc S - 1) (ade S (anc S - 1) + 1)) (upn (adt S) (4 * (anc S - 1) + ade S (anc S - 1)) k) (upn (adc S) (4 * (anc S - 1) + ade S (anc S - 1)) 0) (anm S) (amn S) (ans S) (ast S) (ano S) (aoc S) (aom S) (aot S)
def orderA (S : SA)  : SA := mkA (aer S) (aep S) (anu S) (anc S) (acn S) (aco S) (awo S) (api S) (ade S) (adt S) (adc S) (anm S) (amn S) (ans S) (ast S) (ano S + 1) (aoc S) (aom S) (upo (aot S) (ano S) none)
def whenA (S : SA) (k : Nat) : SA := mkA (aer S) (aep S) (anu S) (anc S) (acn S) (aco S) (awo S) (api S) (ade S) (adt S) (adc S) (anm S) (amn S) (ans S) (ast S) (ano S) (aoc S) (aom S) (upo (aot S) (ano S - 1) (some (k + 1)))
def zeroA : SA := mkA 0 0 0 0 (fun _ => 0) (fun _ => 0) (fun _ => 0) (fun _ => 0) (fun _ => 0) (fun _ => 0) (fun _ => 0) 0 (fun _ => 0) 0 (fun _ => 0) 0 (fun _ => 0) (fun _ => 0) (fun _ => none)
/-- the first of q places from j on where v stands -/
def fdA (f : Nat → Nat) (v : Nat) : Nat → Nat → Option Nat
  | 0, _ => none
  | q + 1, j => if f j = v then some j else fdA f v q (j + 1)
theorem fdA_in {f : Nat → Nat} {v p : Nat} : ∀ {q j : Nat}, fdA f v q j = some p → j ≤ p ∧ p < j + q ∧ f p = v
  | 0, _, h => by cases h
  | q + 1, j, h => by
    unfold fdA at h
    split at h
    · cases h; exact ⟨Nat.le_refl _, by omega, ‹_›⟩
    · have := fdA_in h
      exact ⟨by omega, by omega, this.2.2⟩
/-- a name, behind the token of kind b; c: the kind three tokens ahead of it -/
def nameA (S : SA) (b c v k : Nat) : SA :=
  if b = 5 then (match fdA (acn S) v (anc S) 0 with
    | some _ => fltA S 2 k
    | none => if anc S = 10 then fltA S 4 k else cardA S v)
  else if b = 16 then (match fdA (amn S) v (anm S) 0 with
    | some _ => fltA S 2 k
    | none => if anm S = 4 then fltA S 4 k else mercA S v)
  else if b = 18 then (match fdA (amn S) v (anm S) 0 with
    | none => fltA S 3 k
    | some j => omA S j)
  else (match fdA (acn S) v (anc S) 0 with
    | none => fltA S 3 k
    | some j => if b = 14 then (if c = 15 then pileA S j else startA S j) else if b = 17 then ocA S j else if b = 11 ∨ b = 12 then dcA S j else S)
/-- a number -/
def numbA (S : SA) (b v k : Nat) : SA :=
  if b = 6 then (if 99 < v then fltA S 5 k else costA S v)
  else if b = 7 then (if 99 < v then fltA S 5 k else worthA S v)
  else if b = 13 then (if 20 < ans S + v then fltA (numA S v) 4 k else if v < 1 ∨ 20 < v then fltA (numA S v) 5 k else numA S v)
  else if b = 15 then (if 30 < v then fltA (numA S v) 5 k else numA S v)
  else S
/-- one token; mk: whether it begins a deed -/
def actA (mk : Nat → Bool) (K V : Nat → Nat) (S : SA) (k : Nat) : SA :=
  if aer S ≠ 0 then S
  else if mk k = true then (if ade S (anc S - 1) = 4 then fltA S 4 k else deedA S k)
  else if K k = 2 then nameA S (K (k - 1)) (K (k - 3)) (V k) k
  else if K k = 3 then numbA S (K (k - 1)) (V k) k
  else if K k = 17 then (if ano S = 16 then fltA S 4 k else orderA S)
  else if K k = 19 then whenA S k
  else S
def actF (mk : Nat → Bool) (K V : Nat → Nat) : Nat → SA
  | 0 => zeroA
  | k + 1 => actA mk K V (actF mk K V k) k
/-- the names of the cards that are told ahead of token k, and how many -/
def cnF (K V : Nat → Nat) : Nat → (Nat → Nat) × Nat
  | 0 => (fun _ => 0, 0)
  | k + 1 => if K k = 2 ∧ K (k - 1) = 5 ∧ fdA (cnF K V k).1 (V k) (cnF K V k).2 0 = none ∧ (cnF K V k).2 ≠ 10 then (upn (cnF K V k).1 (cnF K V k).2 (V k), (cnF K V k).2 + 1) else cnF K V k
/-- what a token means in a sum: a name the card, any other one its value -/
def cX (K V : Nat → Nat) (k : Nat) : Int32 := if K k = 2 then oI (fdA (cnF K V k).1 (V k) (cnF K V k).2 0) else (lN (V k)).toInt32
theorem actF_e {mk : Nat → Bool} {K V : Nat → Nat} {k : Nat} (h : aer (actF mk K V k) ≠ 0) : ∀ j, actF mk K V (k + j) = actF mk K V k
  | 0 => rfl
  | j + 1 => by
    have ih := actF_e h j
    show actA mk K V (actF mk K V (k + j)) (k + j) = _
    rw [ih]
    exact if_pos h
/-- a token that tells nothing by itself -/
theorem actF_n {mk : Nat → Bool} {K V : Nat → Nat} {k : Nat} (h1 : ¬ mk k = true) (h2 : K k ≠ 2) (h3 : K k ≠ 3 ∨ ¬ (K (k - 1) = 6 ∨ K (k - 1) = 7 ∨ K (k - 1) = 13 ∨ K (k - 1) = 15)) (h4 : K k ≠ 17) (h5 : K k ≠ 19) : actF mk K V (k + 1) = actF mk K V k := by
  show actA mk K V (actF mk K V k) k = _
  unfold actA
  by_cases h0 : aer (actF mk K V k) ≠ 0
  · exact if_pos h0
  · rw [if_neg h0, if_neg h1, if_neg h2]
    by_cases h : K k = 3
    · rw [if_pos h]
      unfold numbA
      have := h3.resolve_left (fun q => q h)
      rw [if_neg (by omega), if_neg (by omega), if_neg (by omega), if_neg (by omega)]
    · rw [if_neg h, if_neg h4, if_neg h5]
theorem actA_0 {mk : Nat → Bool} {K V : Nat → Nat} {S : SA} {k : Nat} (h : aer (actA mk K V S k) = 0) : aer S = 0 := by
  by_cases e : aer S = 0
  · exact e
  · have e2 : actA mk K V S k = S := if_pos e
    rw [e2] at h
    exact h
theorem actF_0 {mk : Nat → Bool} {K V : Nat → Nat} {k j : Nat} (h : aer (actF mk K V j) = 0) (hk : k ≤ j) : aer (actF mk K V k) = 0 := by
  by_cases e : aer (actF mk K V k) = 0
  · exact e
  · have := actF_e e (j - k)
    rw [show k + (j - k) = j by omega] at this
    rw [this] at h
    exact absurd h e
theorem flt_er {S : SA} {n k : Nat} : aer (fltA S n k) = n := rfl
theorem cn_ok {mk : Nat → Bool} {K V : Nat → Nat} (hmk : ∀ k, mk k = true → K k ≠ 2) : ∀ {k : Nat}, aer (actF mk K V k) = 0 → acn (actF mk K V k) = (cnF K V k).1 ∧ anc (actF mk K V k) = (cnF K V k).2
  | 0, _ => ⟨rfl, rfl⟩
  | k + 1, h => by
    have h0 : aer (actF mk K V k) = 0 := actF_0 h (Nat.le_succ k)
    obtain ⟨i1, i2⟩ := cn_ok hmk h0
    generalize hS : actF mk K V k = S at *
    have hF : actF mk K V (k + 1) = actA mk K V S k := by rw [← hS]; rfl
    rw [hF] at h ⊢
    have hC : cnF K V (k + 1) = if K k = 2 ∧ K (k - 1) = 5 ∧ fdA (cnF K V k).1 (V k) (cnF K V k).2 0 = none ∧ (cnF K V k).2 ≠ 10 then (upn (cnF K V k).1 (cnF K V k).2 (V k), (cnF K V k).2 + 1) else cnF K V k := rfl
    rw [hC, ← i1, ← i2]
    clear hC hF hS
    have hn : ¬ (K k = 2 ∧ K (k - 1) = 5) → (if K k = 2 ∧ K (k - 1) = 5 ∧ fdA (acn S) (V k) (anc S) 0 = none ∧ anc S ≠ 10 then (upn (acn S) (anc S) (V k), anc S + 1) else cnF K V k) = cnF K V k := fun q => if_neg (fun z => q ⟨z.1, z.2.1⟩)
    have hy : (K k = 2 ∧ K (k - 1) = 5 ∧ fdA (acn S) (V k) (anc S) 0 = none ∧ anc S ≠ 10) → (if K k = 2 ∧ K (k - 1) = 5 ∧ fdA (acn S) (V k) (anc S) 0 = none ∧ anc S ≠ 10 then (upn (acn S) (anc S) (V k), anc S + 1) else cnF K V k) = (upn (acn S) (anc S) (V k), anc S + 1) := fun q => if_pos q
    generalize hW : (if K k = 2 ∧ K (k - 1) = 5 ∧ fdA (acn S) (V k) (anc S) 0 = none ∧ anc S ≠ 10 then (upn (acn S) (anc S) (V k), anc S + 1) else cnF K V k) = W at hn hy ⊢
    have e0 : ¬ aer S ≠ 0 := fun q => q h0
    unfold actA at h ⊢
    rw [if_neg e0] at h ⊢
    by_cases hm : mk k = true
    · rw [if_pos hm] at h ⊢
      rw [hn (fun q => hmk k hm q.1)]
      split
      · exact ⟨i1, i2⟩
      · exact ⟨i1, i2⟩
    · rw [if_neg hm] at h ⊢
      by_cases h2 : K k = 2
      · rw [if_pos h2] at h ⊢
        unfold nameA at h ⊢
        by_cases h5 : K (k - 1) = 5
        · rw [if_pos h5] at h ⊢
          cases hf : fdA (acn S) (V k) (anc S) 0 with
          | some j =>
            rw [hf] at h
            cases h
          | none =>
            rw [hf] at h
            dsimp only at h ⊢
            by_cases h10 : anc S = 10
            · rw [if_pos h10] at h
              cases h
            · rw [if_neg h10, hy ⟨h2, h5, hf, h10⟩]
              exact ⟨rfl, rfl⟩
        · rw [if_neg h5] at h ⊢
          rw [hn (fun q => h5 q.2)]
          repeat' (first | exact ⟨i1, i2⟩ | split)
      · rw [if_neg h2]
        rw [hn (fun q => h2 q.1)]
        unfold numbA
        repeat' (first | exact ⟨i1, i2⟩ | split)
