/-! THE CLASS: its grammar; what the code of a formula pushes -/
def pfx (sz : Nat) (og og' : Nat → Nat) (xg xg' : Nat → Int32) : Prop := ∀ i, i < sz → og' i = og i ∧ xg' i = xg i
def oga (og : Nat → Nat) (sz o : Nat) : Nat → Nat := fun i => if i = sz then o else og i
section
variable {a b c sz : Nat} {og og1 og2 : Nat → Nat} {xg xg1 xg2 : Nat → Int32} {kn : Nat → Int32 → Int32} {F G : FM}
theorem pfx.rf : pfx sz og og xg xg := fun _ _ => ⟨rfl, rfl⟩
theorem pfx.tr (h1 : pfx a og og1 xg xg1) (h2 : pfx b og1 og2 xg1 xg2) (hab : a ≤ b) : pfx a og og2 xg xg2 := fun i hi => ⟨(h2 i (by omega)).1.trans (h1 i hi).1, (h2 i (by omega)).2.trans (h1 i hi).2⟩
theorem pfx.ad {o : Nat} {x : Int32} : pfx sz og (oga og sz o) xg (upd xg sz x) := fun i hi => ⟨if_neg (by omega), pk_un (by omega)⟩
theorem oga_s {o : Nat} : oga og sz o sz = o := if_pos rfl
theorem evS_c : ∀ {q p : Nat} {st : List Int32}, (∀ i, p ≤ i → i < p + q → og1 i = og i ∧ xg1 i = xg i) → evS og1 xg1 kn q p st = evS og xg kn q p st
  | 0, _, _, _ => rfl
  | q + 1, p, st, h => by
    show evS og1 xg1 kn q (p + 1) (estep kn (og1 p) (xg1 p) st) = evS og xg kn q (p + 1) (estep kn (og p) (xg p) st)
    rw [(h p (Nat.le_refl _) (by omega)).1, (h p (Nat.le_refl _) (by omega)).2]
    exact evS_c (fun i h1 h2 => h i (by omega) (by omega))
theorem evS_a {r : Nat} : ∀ {q p : Nat} {st : List Int32}, evS og xg kn (q + r) p st = evS og xg kn r (p + q) (evS og xg kn q p st)
  | 0, p, st => by rw [Nat.zero_add]; rfl
  | q + 1, p, st => by
    rw [show q + 1 + r = q + r + 1 by omega]
    show evS og xg kn (q + r) (p + 1) (estep kn (og p) (xg p) st) = evS og xg kn r (p + (q + 1)) (evS og xg kn q (p + 1) (estep kn (og p) (xg p) st))
    rw [evS_a, show p + 1 + q = p + (q + 1) by omega]
/-- the code from a on, ahead of b, pushes F -/
def psh (a b : Nat) (og : Nat → Nat) (xg : Nat → Int32) (F : FM) : Prop := a ≤ b ∧ (∀ i, a ≤ i → i < b → eop (og i) (xg i)) ∧ ∀ kn st, evS og xg kn (b - a) a st = F kn :: st
theorem psh.k (h : psh a b og xg F) (hp : pfx b og og1 xg xg1) : psh a b og1 xg1 F := by
  obtain ⟨h1, h2, h3⟩ := h
  refine ⟨h1, fun i hi hi2 => ?_, fun kn st => ?_⟩
  · rw [(hp i hi2).1, (hp i hi2).2]; exact h2 i hi hi2
  · rw [evS_c (og := og) (xg := xg) (fun i g1 g2 => hp i (by omega))]; exact h3 kn st
theorem evS_1 (hab : a ≤ b) {st : List Int32} : evS og xg kn (b + 1 - a) a st = estep kn (og b) (xg b) (evS og xg kn (b - a) a st) := by
  rw [show b + 1 - a = (b - a) + 1 by omega, evS_a, show a + (b - a) = b by omega]
  rfl
theorem evS_2 (hab : a ≤ b) (hbc : b ≤ c) {st : List Int32} : evS og xg kn (c - a) a st = evS og xg kn (c - b) b (evS og xg kn (b - a) a st) := by
  rw [show c - a = (b - a) + (c - b) by omega, evS_a, show a + (b - a) = b by omega]
theorem psh.jn (h1 : psh a b og xg F) (h2 : psh b c og xg G) (ho : ejn (og c)) : psh a (c + 1) og xg (fun kn => ejoin (og c) (F kn) (G kn)) := by
  obtain ⟨p1, p2, p3⟩ := h1
  obtain ⟨q1, q2, q3⟩ := h2
  refine ⟨by omega, fun i hi hi2 => ?_, fun kn st => ?_⟩
  · by_cases e : i < b
    · exact p2 i hi e
    · by_cases e2 : i < c
      · exact q2 i (by omega) e2
      · have : i = c := by omega
        subst this
        exact Or.inr (Or.inr (Or.inr ho))
  · rw [evS_1 (by omega), evS_2 p1 q1, p3, q3]
    unfold ejn at ho
    unfold estep
    rw [if_neg (by omega), if_neg (by omega), if_neg (by omega)]
    rfl
theorem psh.ng (h1 : psh a b og xg F) (ho : og b = 4) : psh a (b + 1) og xg (fun kn => -F kn) := by
  obtain ⟨p1, p2, p3⟩ := h1
  refine ⟨by omega, fun i hi hi2 => ?_, fun kn st => ?_⟩
  · by_cases e : i < b
    · exact p2 i hi e
    · have : i = b := by omega
      subst this
      exact Or.inl ho
  · rw [evS_1 (by omega), p3]
    unfold estep
    rw [if_pos ho]
    rfl
theorem psh.nt (h1 : psh a b og xg F) (ho : og b = 26) : psh a (b + 1) og xg (fun kn => 1 - F kn) := by
  obtain ⟨p1, p2, p3⟩ := h1
  refine ⟨by omega, fun i hi hi2 => ?_, fun kn st => ?_⟩
  · by_cases e : i < b
    · exact p2 i hi e
    · have : i = b := by omega
      subst this
      exact Or.inr (Or.inl ho)
  · rw [evS_1 (by omega), p3]
    unfold estep
    rw [if_neg (by omega), if_pos ho]
    rfl
theorem psh_1 {o : Nat} {x : Int32} (h1 : og a = o) (h2 : xg a = x) (ho : eknw o) (hx : o = 22 ∨ o = 23 ∨ o = 24 → ∃ j, j < 10 ∧ x = nI j) : psh a (a + 1) og xg (fun kn => kn o x) := by
  refine ⟨by omega, fun i hi hi2 => ?_, fun kn st => ?_⟩
  · have : i = a := by omega
    subst this
    rw [h1, h2]
    exact Or.inr (Or.inr (Or.inl ⟨ho, hx⟩))
  · rw [evS_1 (Nat.le_refl _), Nat.sub_self]
    show estep kn (og a) (xg a) st = _
    rw [h1, h2]
    unfold eknw at ho
    unfold estep
    rw [if_neg (by omega), if_neg (by omega), if_pos ho]
/-- with END behind it: a formula -/
theorem psh.fm (h : psh a b og xg F) (hb : b < sz) (h1 : og b = 1) : fmlAt sz og xg a F := by
  obtain ⟨p1, p2, p3⟩ := h
  refine ⟨b - a, by omega, Or.inr (by rw [show a + (b - a) = b by omega]; exact h1), fun i hi => p2 _ (by omega) (by omega), fun kn => p3 kn []⟩
end
theorem ZSpec.mo {E : ZEX} {M : ZMY} {d mc ms : Nat} {av : List Value} {σ : ZHp} {n : Nat} {P P' : ZPT} (h : ZSpec E M d mc ms av σ n P) (hq : ∀ v σ' n', P v σ' n' → P' v σ' n') : ZSpec E M d mc ms av σ n P' := by
  intro l p e ha hc hk s m args below hf happ hP hK
  obtain ⟨n1, o, h1, h2, h3, h4⟩ := h l p e ha hc hk s m args below hf happ hP hK
  refine ⟨n1, o, h1, h2, h3, ?_⟩
  obtain ⟨⟨⟨v, σ', n', e1, e2, e3⟩, e4⟩, e5⟩ := h4
  exact ⟨⟨⟨v, σ', n', e1, hq _ _ _ e2, e3⟩, e4⟩, e5⟩
/-! the grammar's cells: object, tokens gr + 1, scribe gr + 6; rules u, their formulas u + 22 -/
def GRh (E : ZEX) (σ : ZHp) (gr u : Nat) (tb : Nat → Nat) (tl i : Nat) (S : SA) (off oof : Nat → Nat) (a b : Bool) (num : Int32) (sz : Nat) (og : Nat → Nat) (xg : Nat → Int32) : Prop := σ gr = some (.inr (2, [.ref (gr + 1), .ref (gr + 6), .ref (u + 22), .int 1])) ∧ TKf E σ (gr + 1) tb tl i ∧ SCs E σ (gr + 6) u tb tl S off oof a b num ∧ FMs E σ (u + 22) sz og xg
def grf (gr u : Nat) (σ σ' : ZHp) : Prop := ∀ x, (x < gr + 1 ∨ gr + 9 ≤ x) → (x < u ∨ u + 26 ≤ x) → σ' x = σ x
section
variable {E : ZEX} {σ σ' σ2 : ZHp} {n gr u tl i sz k : Nat} {tb : Nat → Nat} {S S' : SA} {num num' : Int32} {off oof off' oof' : Nat → Nat} {a b a' b' : Bool} {og : Nat → Nat} {xg : Nat → Int32}
theorem grf.rf : grf gr u σ σ := fun _ _ _ => rfl
theorem grf.tr (h1 : grf gr u σ σ') (h2 : grf gr u σ' σ2) : grf gr u σ σ2 := fun x g1 g2 => (h2 x g1 g2).trans (h1 x g1 g2)
theorem grf.z {t m : Nat} (h : zfr t m σ σ') (d : (gr + 1 ≤ t ∧ t + m ≤ gr + 9) ∨ (u ≤ t ∧ t + m ≤ u + 26) := by omega) : grf gr u σ σ' := fun x g1 g2 => h x (by omega)
theorem grf.s (h : scf (gr + 6) u σ σ') : grf gr u σ σ' := fun x g1 g2 => h x (by omega) (by omega)
theorem SCs.kp {sc : Nat} (h : SCs E σ sc u tb tl S off oof a b num) (hf : ∀ x, (sc ≤ x ∧ x < sc + 3) ∨ (u ≤ x ∧ x < u + 22) → σ' x = σ x) : SCs E σ' sc u tb tl S off oof a b num := by
  obtain ⟨F, kd, s, fn, fm, c1, c2, c3, c4, c5, c6, c7⟩ := h
  exact ⟨F, kd, s, fn, fm, (hf _ (by omega)).trans c1, (hf _ (by omega)).trans c2, (hf _ (by omega)).trans c3, (hf _ (by omega)).trans c4, c5.f (fun x h1 h2 => hf x (by omega)), (hf _ (by omega)).trans c6, c7⟩
theorem GRh.o (h : GRh E σ gr u tb tl i S off oof a b num sz og xg) : σ gr = some (.inr (2, [.ref (gr + 1), .ref (gr + 6), .ref (u + 22), .int 1])) ∧ (∃ vs, σ (gr + 1) = some (.inr (9, vs))) ∧ (∃ vs, σ (gr + 6) = some (.inr (6, vs))) ∧ ∃ vs, σ (u + 22) = some (.inr (0, vs)) := by
  obtain ⟨h1, h2, h3, h4⟩ := h
  have c1 := h3.o.1
  unfold scO at c1
  obtain ⟨fs, fx, f1, -⟩ := h4
  exact ⟨h1, h2.o, ⟨_, c1⟩, ⟨_, f1⟩⟩
/-- the tokens go on -/
theorem GRh.tk {j : Nat} (h : GRh E σ gr u tb tl i S off oof a b num sz og xg) (hd : gr + 9 ≤ u ∨ u + 26 ≤ gr) (h2 : TKf E σ' (gr + 1) tb tl j) (hf : zfr (gr + 1) 1 σ σ') : GRh E σ' gr u tb tl j S off oof a b num sz og xg := by
  obtain ⟨g1, g2, g3, g4⟩ := h
  exact ⟨(hf _ (by omega)).trans g1, h2, g3.kp (fun x hx => hf x (by omega)), g4.f hf⟩
/-- the scribe writes -/
theorem GRh.sc (h : GRh E σ gr u tb tl i S off oof a b num sz og xg) (hd : gr + 9 ≤ u ∨ u + 26 ≤ gr) (h3 : SCs E σ' (gr + 6) u tb tl S' off' oof' a' b' num') (hf : scf (gr + 6) u σ σ') : GRh E σ' gr u tb tl i S' off' oof' a' b' num' sz og xg := by
  obtain ⟨g1, g2, g3, g4⟩ := h
  exact ⟨(hf _ (by omega) (by omega)).trans g1, g2.q (fun x h1 h2 => hf x (by omega) (by omega)), h3, g4.q (lo := u + 22) (n := 4) (fun x h1 h2 => hf x (by omega) (by omega))⟩
/-- the formulas grow -/
theorem GRh.fm {sz' : Nat} {og' : Nat → Nat} {xg' : Nat → Int32} (h : GRh E σ gr u tb tl i S off oof a b num sz og xg) (hd : gr + 9 ≤ u ∨ u + 26 ≤ gr) (h4 : FMs E σ' (u + 22) sz' og' xg') (hf : zfr (u + 22) 4 σ σ') : GRh E σ' gr u tb tl i S off oof a b num sz' og' xg' := by
  obtain ⟨g1, g2, g3, g4⟩ := h
  exact ⟨(hf _ (by omega)).trans g1, g2.q (fun x h1 h2 => hf x (by omega)), g3.kp (fun x hx => hf x (by omega)), h4⟩
end
