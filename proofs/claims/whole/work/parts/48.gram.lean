/-! THE GRAMMAR: how far it is kept, and what is meant -/
abbrev QR : Type := Nat × Option FM
def cvR (r : QR) : PR := match r.2 with
  | none => none
  | some F => some (r.1, F)
def qLp (K : Nat → Nat) (a b : Nat) (item : Nat → QR) : Nat → Nat → FM → QR
  | 0, p, _ => (p, none)
  | q + 1, p, F => if K p = a ∨ K p = b then (match (item (p + 1)).2 with
      | none => ((item (p + 1)).1, none)
      | some G => qLp K a b item q (item (p + 1)).1 (fun kn => ejoin (K p) (F kn) (G kn)))
    else (p, some F)
def qJn (K : Nat → Nat) (a b : Nat) (item : Nat → QR) (p : Nat) : QR := match (item p).2 with
  | none => ((item p).1, none)
  | some F => qLp K a b item 400 (item p).1 F
def qSm (K : Nat → Nat) (v : Nat → QR) : Nat → QR := qJn K 37 38 (qJn K 39 40 v)
def qVl (K : Nat → Nat) (X : Nat → Int32) (v : Option (Nat → QR)) (p : Nat) : QR :=
  if K p = 38 then (match v with
    | none => (p, none)
    | some v => match (v (p + 1)).2 with
      | none => ((v (p + 1)).1, none)
      | some F => ((v (p + 1)).1, some (fun kn => -F kn)))
  else if K p = 3 ∨ K p = 8 ∨ K p = 10 ∨ K p = 20 ∨ K p = 21 ∨ K p = 25 then (p + 1, some (fun kn => kn (K p) (X p)))
  else if K p = 22 ∨ K p = 23 ∨ K p = 24 then (if K (p + 1) = 2 then (p + 2, some (fun kn => kn (K p) (X (p + 1)))) else (p + 1, none))
  else if K p = 29 ∨ K p = 30 then (match v with
    | none => (p + 1, none)
    | some v => if K (p + 1) = 31 then (match (qSm K v (p + 2)).2 with
      | none => ((qSm K v (p + 2)).1, none)
      | some F => if K (qSm K v (p + 2)).1 = 36 then (match (qSm K v ((qSm K v (p + 2)).1 + 1)).2 with
        | none => ((qSm K v ((qSm K v (p + 2)).1 + 1)).1, none)
        | some G => if K (qSm K v ((qSm K v (p + 2)).1 + 1)).1 = 32 then ((qSm K v ((qSm K v (p + 2)).1 + 1)).1 + 1, some (fun kn => ejoin (K p) (F kn) (G kn))) else ((qSm K v ((qSm K v (p + 2)).1 + 1)).1, none)) else ((qSm K v (p + 2)).1, none)) else (p + 1, none))
  else if K p = 31 then (match v with
    | none => (p, none)
    | some v => match (qSm K v (p + 1)).2 with
      | none => ((qSm K v (p + 1)).1, none)
      | some F => if K (qSm K v (p + 1)).1 = 32 then ((qSm K v (p + 1)).1 + 1, some F) else ((qSm K v (p + 1)).1, none))
  else (p, none)
def qV (K : Nat → Nat) (X : Nat → Int32) : Nat → Nat → QR
  | 0 => qVl K X none
  | r + 1 => qVl K X (some (qV K X r))
def qS (K : Nat → Nat) (X : Nat → Int32) (r : Nat) : Nat → QR := qSm K (qV K X r)
def qTs (K : Nat → Nat) (s : Nat → QR) : Nat → QR := qJn K 28 28 (qJn K 27 27 s)
def qSg (K : Nat → Nat) (sm : Nat → QR) (s : Option (Nat → QR)) (p : Nat) : QR :=
  if K p = 26 then (match s with
    | none => (p, none)
    | some s => match (s (p + 1)).2 with
      | none => ((s (p + 1)).1, none)
      | some F => ((s (p + 1)).1, some (fun kn => 1 - F kn)))
  else if K p = 33 then (match s with
    | none => (p, none)
    | some s => match (qTs K s (p + 1)).2 with
      | none => ((qTs K s (p + 1)).1, none)
      | some F => if K (qTs K s (p + 1)).1 = 34 then ((qTs K s (p + 1)).1 + 1, some F) else ((qTs K s (p + 1)).1, none))
  else match (sm p).2 with
    | none => ((sm p).1, none)
    | some F => if 41 ≤ K (sm p).1 ∧ K (sm p).1 ≤ 45 then (match (sm ((sm p).1 + 1)).2 with
      | none => ((sm ((sm p).1 + 1)).1, none)
      | some G => ((sm ((sm p).1 + 1)).1, some (fun kn => ejoin (K (sm p).1) (F kn) (G kn)))) else ((sm p).1, none)
def qG (K : Nat → Nat) (X : Nat → Int32) : Nat → Nat → QR
  | 0 => qSg K (qS K X 0) none
  | r + 1 => qSg K (qS K X (r + 1)) (some (qG K X r))
def qT (K : Nat → Nat) (X : Nat → Int32) (r : Nat) : Nat → QR := qTs K (qG K X r)
/-! both say the same of what is right -/
theorem cv_n {r : QR} (h : r.2 = none) : cvR r = none := by unfold cvR; rw [h]
theorem cv_s {r : QR} {F : FM} (h : r.2 = some F) : cvR r = some (r.1, F) := by unfold cvR; rw [h]
theorem cv_Lp {K : Nat → Nat} {a b : Nat} {item : Nat → QR} : ∀ {q p : Nat} {F : FM}, pLp K a b (fun p => cvR (item p)) q p F = cvR (qLp K a b item q p F)
  | 0, _, _ => rfl
  | q + 1, p, F => by
    unfold pLp qLp
    split
    · cases h : (item (p + 1)).2 with
      | none => rw [cv_n h]; rfl
      | some G =>
        rw [cv_s h]
        exact cv_Lp
    · rfl
theorem cv_Jn {K : Nat → Nat} {a b : Nat} {item : Nat → QR} : pJn K a b (fun p => cvR (item p)) = fun p => cvR (qJn K a b item p) := by
  funext p
  unfold pJn qJn
  dsimp only
  cases h : (item p).2 with
  | none => rw [cv_n h]; rfl
  | some G =>
    rw [cv_s h]
    exact cv_Lp
theorem cv_Sm {K : Nat → Nat} {v : Nat → QR} : pSm K (fun p => cvR (v p)) = fun p => cvR (qSm K v p) := by
  unfold pSm qSm
  rw [cv_Jn, cv_Jn]
theorem cv_Vl {K : Nat → Nat} {X : Nat → Int32} {v : Option (Nat → QR)} : pVl K X (v.map (fun w p => cvR (w p))) = fun p => cvR (qVl K X v p) := by
  funext p
  unfold pVl qVl
  split
  · cases v with
    | none => rfl
    | some w =>
      show (match cvR (w (p + 1)) with | none => none | some (e, F) => some (e, fun kn => -F kn)) = _
      cases h : (w (p + 1)).2 with
      | none => rw [cv_n h]; simp only [h]; rfl
      | some F => rw [cv_s h]; simp only [h]; rfl
  · split
    · rfl
    · split
      · split
        · rfl
        · rfl
      · split
        · cases v with
          | none => rfl
          | some w =>
            show (if K (p + 1) = 31 then (match pSm K (fun p => cvR (w p)) (p + 2) with
              | none => none
              | some (e, F) => if K e = 36 then (match pSm K (fun p => cvR (w p)) (e + 1) with
                | none => none
                | some (e2, G) => if K e2 = 32 then some (e2 + 1, fun kn => ejoin (K p) (F kn) (G kn)) else none) else none) else none) = _
            rw [cv_Sm]
            by_cases h31 : K (p + 1) = 31
            · rw [if_pos h31]
              simp only [if_pos h31]
              cases h : (qSm K w (p + 2)).2 with
              | none => rw [cv_n h]; rfl
              | some F =>
                rw [cv_s h]
                simp only []
                by_cases h36 : K (qSm K w (p + 2)).1 = 36
                · rw [if_pos h36, if_pos h36]
                  cases h2 : (qSm K w ((qSm K w (p + 2)).1 + 1)).2 with
                  | none => rw [cv_n h2]; rfl
                  | some G =>
                    rw [cv_s h2]
                    simp only []
                    by_cases h32 : K (qSm K w ((qSm K w (p + 2)).1 + 1)).1 = 32
                    · rw [if_pos h32, if_pos h32]; rfl
                    · rw [if_neg h32, if_neg h32]; rfl
                · rw [if_neg h36, if_neg h36]; rfl
            · rw [if_neg h31]
              simp only [if_neg h31]
              rfl
        · split
          · cases v with
            | none => rfl
            | some w =>
              show (match pSm K (fun p => cvR (w p)) (p + 1) with
                | none => none
                | some (e, F) => if K e = 32 then some (e + 1, F) else none) = _
              rw [cv_Sm]
              dsimp only
              cases h : (qSm K w (p + 1)).2 with
              | none => rw [cv_n h]; simp only [h]; rfl
              | some F =>
                rw [cv_s h]
                simp only [h]
                by_cases h32 : K (qSm K w (p + 1)).1 = 32
                · rw [if_pos h32, if_pos h32]; rfl
                · rw [if_neg h32, if_neg h32]; rfl
          · rfl
theorem cv_V {K : Nat → Nat} {X : Nat → Int32} : ∀ r, pV K X r = fun p => cvR (qV K X r p)
  | 0 => cv_Vl (v := none)
  | r + 1 => by
    show pVl K X (some (pV K X r)) = _
    rw [cv_V r]
    exact cv_Vl (v := some (qV K X r))
theorem cv_S {K : Nat → Nat} {X : Nat → Int32} (r : Nat) : pS K X r = fun p => cvR (qS K X r p) := by
  unfold pS qS
  rw [cv_V, cv_Sm]
theorem cv_Ts {K : Nat → Nat} {s : Nat → QR} : pTs K (fun p => cvR (s p)) = fun p => cvR (qTs K s p) := by
  unfold pTs qTs
  rw [cv_Jn, cv_Jn]
theorem cv_Sg {K : Nat → Nat} {sm : Nat → QR} {s : Option (Nat → QR)} : pSg K (fun p => cvR (sm p)) (s.map (fun w p => cvR (w p))) = fun p => cvR (qSg K sm s p) := by
  funext p
  unfold pSg qSg
  split
  · cases s with
    | none => rfl
    | some w =>
      show (match cvR (w (p + 1)) with | none => none | some (e, F) => some (e, fun kn => 1 - F kn)) = _
      cases h : (w (p + 1)).2 with
      | none => rw [cv_n h]; simp only [h]; rfl
      | some F => rw [cv_s h]; simp only [h]; rfl
  · split
    · cases s with
      | none => rfl
      | some w =>
        show (match pTs K (fun p => cvR (w p)) (p + 1) with
          | none => none
          | some (e, F) => if K e = 34 then some (e + 1, F) else none) = _
        rw [cv_Ts]
        dsimp only
        cases h : (qTs K w (p + 1)).2 with
        | none => rw [cv_n h]; simp only [h]; rfl
        | some F =>
          rw [cv_s h]
          simp only [h]
          by_cases h34 : K (qTs K w (p + 1)).1 = 34
          · rw [if_pos h34, if_pos h34]; rfl
          · rw [if_neg h34, if_neg h34]; rfl
    · dsimp only
      cases h : (sm p).2 with
      | none => rw [cv_n h]; rfl
      | some F =>
        rw [cv_s h]
        simp only []
        by_cases h41 : 41 ≤ K (sm p).1 ∧ K (sm p).1 ≤ 45
        · rw [if_pos h41, if_pos h41]
          cases h2 : (sm ((sm p).1 + 1)).2 with
          | none => rw [cv_n h2]; rfl
          | some G => rw [cv_s h2]; rfl
        · rw [if_neg h41, if_neg h41]; rfl
theorem cv_G {K : Nat → Nat} {X : Nat → Int32} : ∀ r, pG K X r = fun p => cvR (qG K X r p)
  | 0 => by
    show pSg K (pS K X 0) none = _
    rw [cv_S]
    exact cv_Sg (s := none)
  | r + 1 => by
    show pSg K (pS K X (r + 1)) (some (pG K X r)) = _
    rw [cv_S, cv_G r]
    exact cv_Sg (s := some (qG K X r))
theorem cv_T {K : Nat → Nat} {X : Nat → Int32} (r : Nat) : pT K X r = fun p => cvR (qT K X r p) := by
  unfold pT qT
  rw [cv_G, cv_Ts]
/-! where it comes to -/
/-- from p on to N at most, and beyond p if it is right -/
def qOk (N : Nat) (f : Nat → QR) : Prop := ∀ p, p ≤ N → p ≤ (f p).1 ∧ (f p).1 ≤ N ∧ ((f p).2 ≠ none → p < (f p).1)
theorem qOk_Lp {K : Nat → Nat} {N a b : Nat} {item : Nat → QR} (hK : K N ≤ 1) (ha : 2 ≤ a) (hb : 2 ≤ b) (hi : qOk N item) : ∀ {q p : Nat} {F : FM}, p ≤ N → p ≤ (qLp K a b item q p F).1 ∧ (qLp K a b item q p F).1 ≤ N
  | 0, p, _, h => ⟨Nat.le_refl _, h⟩
  | q + 1, p, F, h => by
    unfold qLp
    split
    · rename_i hk
      have hpN : p < N := by
        by_cases e : p = N
        · subst e; omega
        · omega
      have h1 := hi (p + 1) (by omega)
      cases h2 : (item (p + 1)).2 with
      | none => exact ⟨by show p ≤ (item (p + 1)).1; omega, h1.2.1⟩
      | some G =>
        have h3 := qOk_Lp (K := K) (a := a) (b := b) hK ha hb hi (q := q) (p := (item (p + 1)).1) (F := fun kn => ejoin (K p) (F kn) (G kn)) h1.2.1
        exact ⟨by show p ≤ (qLp K a b item q (item (p + 1)).1 _).1; omega, h3.2⟩
    · exact ⟨Nat.le_refl _, h⟩
theorem qOk_Jn {K : Nat → Nat} {N a b : Nat} {item : Nat → QR} (hK : K N ≤ 1) (ha : 2 ≤ a) (hb : 2 ≤ b) (hi : qOk N item) : qOk N (qJn K a b item) := by
  intro p hp
  have h1 := hi p hp
  unfold qJn
  cases h2 : (item p).2 with
  | none => exact ⟨h1.1, h1.2.1, fun h => absurd rfl h⟩
  | some F =>
    have h3 := qOk_Lp (K := K) (a := a) (b := b) hK ha hb hi (q := 400) (p := (item p).1) (F := F) h1.2.1
    have h4 := h1.2.2 (by rw [h2]; exact fun h => by cases h)
    exact ⟨by show p ≤ (qLp K a b item 400 (item p).1 F).1; omega, h3.2, fun _ => by show p < (qLp K a b item 400 (item p).1 F).1; omega⟩
theorem qOk_Sm {K : Nat → Nat} {N : Nat} {v : Nat → QR} (hK : K N ≤ 1) (hi : qOk N v) : qOk N (qSm K v) := qOk_Jn hK (by omega) (by omega) (qOk_Jn hK (by omega) (by omega) hi)
theorem qOk_Vl {K : Nat → Nat} {X : Nat → Int32} {N : Nat} {v : Option (Nat → QR)} (hK : K N ≤ 1) (hi : ∀ w, v = some w → qOk N w) : qOk N (qVl K X v) := by
  intro p hp
  have hlt : ∀ p, p ≤ N → 2 ≤ K p → p < N := fun p h1 h2 => by
    by_cases e : p = N
    · subst e; omega
    · omega
  unfold qVl
  split
  · rename_i hk
    have := hlt p hp (by omega)
    cases v with
    | none => exact ⟨Nat.le_refl _, hp, fun h => absurd rfl h⟩
    | some w =>
      have h1 := hi w rfl (p + 1) (by omega)
      cases h2 : (w (p + 1)).2 with
      | none => simp only [h2]; exact ⟨by omega, h1.2.1, fun h => absurd rfl h⟩
      | some F => simp only [h2]; exact ⟨by omega, h1.2.1, fun _ => by omega⟩
  · split
    · rename_i hk
      have := hlt p hp (by omega)
      exact ⟨Nat.le_succ _, this, fun _ => Nat.lt_succ_self _⟩
    · split
      · rename_i hk
        have := hlt p hp (by omega)
        split
        · rename_i hk2
          have := hlt (p + 1) (by omega) (by omega)
          exact ⟨by show p ≤ p + 2; omega, by show p + 2 ≤ N; omega, fun _ => by show p < p + 2; omega⟩
        · exact ⟨Nat.le_succ _, this, fun h => absurd rfl h⟩
      · split
        · rename_i hk
          have h0 := hlt p hp (by omega)
          cases v with
          | none => exact ⟨Nat.le_succ _, h0, fun h => absurd rfl h⟩
          | some w =>
            have hw := qOk_Sm hK (hi w rfl)
            simp only
            split
            · rename_i hk2
              have h1 := hlt (p + 1) (by omega) (by omega)
              have h2 := hw (p + 2) (by omega)
              cases h3 : (qSm K w (p + 2)).2 with
              | none => simp only; exact ⟨by omega, h2.2.1, fun h => absurd rfl h⟩
              | some F =>
                simp only
                split
                · rename_i hk3
                  have h4 := hlt _ h2.2.1 (by omega)
                  have h5 := hw ((qSm K w (p + 2)).1 + 1) (by omega)
                  cases h6 : (qSm K w ((qSm K w (p + 2)).1 + 1)).2 with
                  | none => simp only; exact ⟨by omega, h5.2.1, fun h => absurd rfl h⟩
                  | some G =>
                    simp only
                    split
                    · rename_i hk4
                      have h7 := hlt _ h5.2.1 (by omega)
                      exact ⟨by simp only; omega, by simp only; omega, fun _ => by simp only; omega⟩
                    · exact ⟨by simp only; omega, h5.2.1, fun h => absurd rfl h⟩
                · exact ⟨by simp only; omega, h2.2.1, fun h => absurd rfl h⟩
            · exact ⟨Nat.le_succ _, h0, fun h => absurd rfl h⟩
        · split
          · rename_i hk
            have h0 := hlt p hp (by omega)
            cases v with
            | none => exact ⟨Nat.le_refl _, hp, fun h => absurd rfl h⟩
            | some w =>
              have hw := qOk_Sm hK (hi w rfl)
              have h2 := hw (p + 1) (by omega)
              cases h3 : (qSm K w (p + 1)).2 with
              | none => simp only [h3]; exact ⟨by omega, h2.2.1, fun h => absurd rfl h⟩
              | some F =>
                simp only [h3]
                split
                · rename_i hk3
                  have h4 := hlt _ h2.2.1 (by omega)
                  exact ⟨by simp only; omega, by simp only; omega, fun _ => by simp only; omega⟩
                · exact ⟨by simp only; omega, h2.2.1, fun h => absurd rfl h⟩
          · exact ⟨Nat.le_refl _, hp, fun h => absurd rfl h⟩
theorem qOk_V {K : Nat → Nat} {X : Nat → Int32} {N : Nat} (hK : K N ≤ 1) : ∀ r, qOk N (qV K X r)
  | 0 => qOk_Vl hK (fun w h => by cases h)
  | r + 1 => qOk_Vl hK (fun w h => by cases h; exact qOk_V hK r)
theorem qOk_S {K : Nat → Nat} {X : Nat → Int32} {N : Nat} (hK : K N ≤ 1) (r : Nat) : qOk N (qS K X r) := qOk_Sm hK (qOk_V hK r)
theorem qOk_Ts {K : Nat → Nat} {N : Nat} {s : Nat → QR} (hK : K N ≤ 1) (hi : qOk N s) : qOk N (qTs K s) := qOk_Jn hK (by omega) (by omega) (qOk_Jn hK (by omega) (by omega) hi)
theorem qOk_Sg {K : Nat → Nat} {N : Nat} {sm : Nat → QR} {s : Option (Nat → QR)} (hK : K N ≤ 1) (hm : qOk N sm) (hi : ∀ w, s = some w → qOk N w) : qOk N (qSg K sm s) := by
  intro p hp
  have hlt : ∀ p, p ≤ N → 2 ≤ K p → p < N := fun p h1 h2 => by
    by_cases e : p = N
    · subst e; omega
    · omega
  unfold qSg
  split
  · rename_i hk
    have := hlt p hp (by omega)
    cases s with
    | none => exact ⟨Nat.le_refl _, hp, fun h => absurd rfl h⟩
    | some w =>
      have h1 := hi w rfl (p + 1) (by omega)
      cases h2 : (w (p + 1)).2 with
      | none => simp only [h2]; exact ⟨by omega, h1.2.1, fun h => absurd rfl h⟩
      | some F => simp only [h2]; exact ⟨by omega, h1.2.1, fun _ => by omega⟩
  · split
    · rename_i hk
      have h0 := hlt p hp (by omega)
      cases s with
      | none => exact ⟨Nat.le_refl _, hp, fun h => absurd rfl h⟩
      | some w =>
        have hw := qOk_Ts hK (hi w rfl)
        have h2 := hw (p + 1) (by omega)
        cases h3 : (qTs K w (p + 1)).2 with
        | none => simp only [h3]; exact ⟨by omega, h2.2.1, fun h => absurd rfl h⟩
        | some F =>
          simp only [h3]
          split
          · rename_i hk3
            have h4 := hlt _ h2.2.1 (by omega)
            exact ⟨by simp only; omega, by simp only; omega, fun _ => by simp only; omega⟩
          · exact ⟨by simp only; omega, h2.2.1, fun h => absurd rfl h⟩
    · have h2 := hm p hp
      cases h3 : (sm p).2 with
      | none => simp only; exact ⟨h2.1, h2.2.1, fun h => absurd rfl h⟩
      | some F =>
        simp only
        split
        · rename_i hk3
          have h4 := hlt _ h2.2.1 (by omega)
          have h5 := hm ((sm p).1 + 1) (by omega)
          cases h6 : (sm ((sm p).1 + 1)).2 with
          | none => simp only; exact ⟨by omega, h5.2.1, fun h => absurd rfl h⟩
          | some G => simp only; exact ⟨by omega, h5.2.1, fun _ => by omega⟩
        · exact ⟨h2.1, h2.2.1, fun h => absurd rfl h⟩
theorem qOk_G {K : Nat → Nat} {X : Nat → Int32} {N : Nat} (hK : K N ≤ 1) : ∀ r, qOk N (qG K X r)
  | 0 => qOk_Sg hK (qOk_S hK 0) (fun w h => by cases h)
  | r + 1 => qOk_Sg hK (qOk_S hK (r + 1)) (fun w h => by cases h; exact qOk_G hK r)
theorem qOk_T {K : Nat → Nat} {X : Nat → Int32} {N : Nat} (hK : K N ≤ 1) (r : Nat) : qOk N (qT K X r) := qOk_Ts hK (qOk_G hK r)
/-! deeds, lines, the list: how far, whether right, which tokens are deeds -/
abbrev QD : Type := Nat × Bool × List Nat
def qDd (K : Nat → Nat) (X : Nat → Int32) (p : Nat) : Nat × Bool :=
  if 11 ≤ K p then (if K (p + 1) = 2 then (if K p = 12 then ((qS K X 8 (p + 2)).1, (qS K X 8 (p + 2)).2.isSome) else (p + 2, true)) else (p + 1, false))
  else ((qS K X 8 (p + 1)).1, (qS K X 8 (p + 1)).2.isSome)
def qDs (K : Nat → Nat) (X : Nat → Int32) : Nat → Nat → QD
  | 0, p => (p, false, [])
  | q + 1, p => if 8 ≤ K p ∧ K p ≤ 12 then (if (qDd K X p).2 = true then ((qDs K X q (qDd K X p).1).1, (qDs K X q (qDd K X p).1).2.1, p :: (qDs K X q (qDd K X p).1).2.2) else ((qDd K X p).1, false, [p])) else (p, true, [])
def qLn (K : Nat → Nat) (X : Nat → Int32) (p : Nat) : QD :=
  if K p = 5 then (if K (p + 1) = 2 then (if K (p + 2) = 6 then (if K (p + 3) = 3 then (if K (p + 4) = 7 then (if K (p + 5) = 3 then qDs K X 400 (p + 6) else (p + 5, false, [])) else (p + 4, false, [])) else (p + 3, false, [])) else (p + 2, false, [])) else (p + 1, false, []))
  else if K p = 13 ∨ K p = 15 then (if K (p + 1) = 3 then (if K (p + 2) = 14 then (if K (p + 3) = 2 then (p + 4, true, []) else (p + 3, false, [])) else (p + 2, false, [])) else (p + 1, false, []))
  else if K p = 16 then (if K (p + 1) = 2 then (p + 2, true, []) else (p + 1, false, []))
  else if K p = 17 then (if K (p + 1) = 2 then (if K (p + 2) = 18 then (if K (p + 3) = 2 then (if K (p + 4) = 19 then ((qT K X 8 (p + 5)).1, (qT K X 8 (p + 5)).2.isSome, []) else (p + 4, true, [])) else (p + 3, false, [])) else (p + 2, false, [])) else (p + 1, false, []))
  else (p, false, [])
def qLs (K : Nat → Nat) (X : Nat → Int32) : Nat → Nat → QD
  | 0, p => (p, false, [])
  | q + 1, p => if K p = 1 then (p, true, []) else if (qLn K X p).2.1 = true then (if K (qLn K X p).1 = 35 then ((qLs K X q ((qLn K X p).1 + 1)).1, (qLs K X q ((qLn K X p).1 + 1)).2.1, (qLn K X p).2.2 ++ (qLs K X q ((qLn K X p).1 + 1)).2.2) else ((qLn K X p).1, false, (qLn K X p).2.2)) else ((qLn K X p).1, false, (qLn K X p).2.2)
/-- from p on to N at most, beyond p if it is right; the deeds lie between -/
def dOk (N p : Nat) (r : QD) : Prop := p ≤ r.1 ∧ r.1 ≤ N ∧ ∀ k, k ∈ r.2.2 → p ≤ k ∧ k < r.1
theorem qDd_b {K : Nat → Nat} {X : Nat → Int32} {N p : Nat} (hK : K N ≤ 1) (hp : p ≤ N) (h8 : 8 ≤ K p) : p < (qDd K X p).1 ∧ (qDd K X p).1 ≤ N := by
  have hlt : ∀ p, p ≤ N → 2 ≤ K p → p < N := fun p h1 h2 => by
    by_cases e : p = N
    · subst e; omega
    · omega
  have h0 := hlt p hp (by omega)
  unfold qDd
  split
  · split
    · rename_i h1 h2
      have h3 := hlt (p + 1) (by omega) (by omega)
      have h4 := qOk_S (X := X) hK 8 (p + 2) (by omega)
      split
      · exact ⟨by show p < (qS K X 8 (p + 2)).1; omega, h4.2.1⟩
      · exact ⟨by show p < p + 2; omega, by show p + 2 ≤ N; omega⟩
    · exact ⟨Nat.lt_succ_self _, h0⟩
  · have h4 := qOk_S (X := X) hK 8 (p + 1) (by omega)
    exact ⟨by show p < (qS K X 8 (p + 1)).1; omega, h4.2.1⟩
theorem dOk_Ds {K : Nat → Nat} {X : Nat → Int32} {N : Nat} (hK : K N ≤ 1) : ∀ {q p : Nat}, p ≤ N → dOk N p (qDs K X q p)
  | 0, p, h => ⟨Nat.le_refl _, h, fun k hk => by cases hk⟩
  | q + 1, p, h => by
    unfold qDs
    split
    · rename_i hk
      have h1 := qDd_b (X := X) hK h hk.1
      split
      · have h2 := dOk_Ds (X := X) hK (q := q) (p := (qDd K X p).1) h1.2
        refine ⟨by have := h2.1; simp only; omega, h2.2.1, fun k hk => ?_⟩
        rcases List.mem_cons.mp hk with e | hk
        · subst e
          have := h2.1
          exact ⟨Nat.le_refl _, by simp only; omega⟩
        · have := h2.2.2 k hk
          exact ⟨by omega, this.2⟩
      · refine ⟨by simp only; omega, h1.2, fun k hk => ?_⟩
        rcases List.mem_cons.mp hk with e | hk
        · subst e
          exact ⟨Nat.le_refl _, h1.1⟩
        · cases hk
    · exact ⟨Nat.le_refl _, h, fun k hk => by cases hk⟩
theorem dOk_Ln {K : Nat → Nat} {X : Nat → Int32} {N p : Nat} (hK : K N ≤ 1) (hp : p ≤ N) : dOk N p (qLn K X p) := by
  have hlt : ∀ p, p ≤ N → 2 ≤ K p → p < N := fun p h1 h2 => by
    by_cases e : p = N
    · subst e; omega
    · omega
  have st : ∀ (j : Nat) (b : Bool), p + j ≤ N → dOk N p (p + j, b, []) := fun j b h => ⟨by show p ≤ p + j; omega, h, fun k hk => by cases hk⟩
  unfold qLn
  split
  · have a0 := hlt p hp (by omega)
    split
    · have a1 := hlt (p + 1) (by omega) (by omega)
      split
      · have a2 := hlt (p + 2) (by omega) (by omega)
        split
        · have a3 := hlt (p + 3) (by omega) (by omega)
          split
          · have a4 := hlt (p + 4) (by omega) (by omega)
            split
            · have a5 := hlt (p + 5) (by omega) (by omega)
              have h2 := dOk_Ds (X := X) hK (q := 400) (p := p + 6) (by omega)
              exact ⟨by have := h2.1; omega, h2.2.1, fun k hk => by have := h2.2.2 k hk; exact ⟨by omega, this.2⟩⟩
            · exact st 5 _ (by omega)
          · exact st 4 _ (by omega)
        · exact st 3 _ (by omega)
      · exact st 2 _ (by omega)
    · exact st 1 _ (by omega)
  · split
    · have a0 := hlt p hp (by omega)
      split
      · have a1 := hlt (p + 1) (by omega) (by omega)
        split
        · have a2 := hlt (p + 2) (by omega) (by omega)
          split
          · have a3 := hlt (p + 3) (by omega) (by omega)
            exact st 4 _ (by omega)
          · exact st 3 _ (by omega)
        · exact st 2 _ (by omega)
      · exact st 1 _ (by omega)
    · split
      · have a0 := hlt p hp (by omega)
        split
        · have a1 := hlt (p + 1) (by omega) (by omega)
          exact st 2 _ (by omega)
        · exact st 1 _ (by omega)
      · split
        · have a0 := hlt p hp (by omega)
          split
          · have a1 := hlt (p + 1) (by omega) (by omega)
            split
            · have a2 := hlt (p + 2) (by omega) (by omega)
              split
              · have a3 := hlt (p + 3) (by omega) (by omega)
                split
                · have a4 := hlt (p + 4) (by omega) (by omega)
                  have h2 := qOk_T (X := X) hK 8 (p + 5) (by omega)
                  exact ⟨by have := h2.1; simp only; omega, h2.2.1, fun k hk => by cases hk⟩
                · exact st 4 _ (by omega)
              · exact st 3 _ (by omega)
            · exact st 2 _ (by omega)
          · exact st 1 _ (by omega)
        · exact st 0 _ hp
theorem qLn_lt {K : Nat → Nat} {X : Nat → Int32} {N p : Nat} (hK : K N ≤ 1) (hp : p ≤ N) (h : (qLn K X p).2.1 = true) : p < (qLn K X p).1 := by
  have hlt : ∀ p, p ≤ N → 2 ≤ K p → p < N := fun p h1 h2 => by
    by_cases e : p = N
    · subst e; omega
    · omega
  revert h
  unfold qLn
  split
  · have a0 := hlt p hp (by omega)
    split
    · have a1 := hlt (p + 1) (by omega) (by omega)
      split
      · have a2 := hlt (p + 2) (by omega) (by omega)
        split
        · have a3 := hlt (p + 3) (by omega) (by omega)
          split
          · have a4 := hlt (p + 4) (by omega) (by omega)
            split
            · have a5 := hlt (p + 5) (by omega) (by omega)
              have h2 := dOk_Ds (X := X) hK (q := 400) (p := p + 6) (by omega)
              intro _
              have := h2.1
              omega
            · intro h; cases h
          · intro h; cases h
        · intro h; cases h
      · intro h; cases h
    · intro h; cases h
  · split
    · split
      · split
        · split
          · intro _; show p < p + 4; omega
          · intro h; cases h
        · intro h; cases h
      · intro h; cases h
    · split
      · split
        · intro _; show p < p + 2; omega
        · intro h; cases h
      · split
        · have a0 := hlt p hp (by omega)
          split
          · have a1 := hlt (p + 1) (by omega) (by omega)
            split
            · have a2 := hlt (p + 2) (by omega) (by omega)
              split
              · have a3 := hlt (p + 3) (by omega) (by omega)
                split
                · have a4 := hlt (p + 4) (by omega) (by omega)
                  have h2 := qOk_T (X := X) hK 8 (p + 5) (by omega)
                  intro _
                  show p < (qT K X 8 (p + 5)).1
                  have := h2.1
                  omega
                · intro _; show p < p + 4; omega
              · intro h; cases h
            · intro h; cases h
          · intro h; cases h
        · intro h; cases h
theorem dOk_Ls {K : Nat → Nat} {X : Nat → Int32} {N : Nat} (hK : K N ≤ 1) : ∀ {q p : Nat}, p ≤ N → dOk N p (qLs K X q p)
  | 0, p, h => ⟨Nat.le_refl _, h, fun k hk => by cases hk⟩
  | q + 1, p, h => by
    have h1 := dOk_Ln (X := X) hK h
    unfold qLs
    split
    · exact ⟨Nat.le_refl _, h, fun k hk => by cases hk⟩
    · split
      · split
        · rename_i h35
          have hpN : (qLn K X p).1 < N := by
            have := h1.2.1
            by_cases e : (qLn K X p).1 = N
            · rw [e] at h35; omega
            · omega
          have h2 := dOk_Ls (X := X) hK (q := q) (p := (qLn K X p).1 + 1) (by omega)
          have := h1.1
          have := h2.1
          refine ⟨by simp only; omega, h2.2.1, fun k hk => ?_⟩
          rcases List.mem_append.mp hk with hk | hk
          · have := h1.2.2 k hk
            exact ⟨this.1, by simp only; omega⟩
          · have := h2.2.2 k hk
            exact ⟨by omega, this.2⟩
        · exact h1
      · exact h1
