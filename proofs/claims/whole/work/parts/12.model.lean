/-! MODEL: a merchant (cards in the deck, the deck, discards, these, seed, trashed, bought, coins, shuffles), drawing and shuffling -/
abbrev TM : Type := Nat × (Nat → Int32) × Nat × (Nat → Int32) × Nat × Int32 × Int32 × Int32 × Int32 × (Nat → Int32) × Nat
def mkT (dl : Nat) (dk : Nat → Int32) (al : Nat) (aw : Nat → Int32) (sd : Nat) (tr bo co sh : Int32) (ow : Nat → Int32) (tot : Nat) : TM := (dl, dk, al, aw, sd, tr, bo, co, sh, ow, tot)
def tdl (M : TM) : Nat := M.1
def tdk (M : TM) : Nat → Int32 := M.2.1
def tal (M : TM) : Nat := M.2.2.1
def taw (M : TM) : Nat → Int32 := M.2.2.2.1
def tsd (M : TM) : Nat := M.2.2.2.2.1
def ttr (M : TM) : Int32 := M.2.2.2.2.2.1
def tbo (M : TM) : Int32 := M.2.2.2.2.2.2.1
def tco (M : TM) : Int32 := M.2.2.2.2.2.2.2.1
def tsh (M : TM) : Int32 := M.2.2.2.2.2.2.2.2.1
def tow (M : TM) : Nat → Int32 := M.2.2.2.2.2.2.2.2.2.1
def ttt (M : TM) : Nat := M.2.2.2.2.2.2.2.2.2.2
theorem mk_tdl {dl : Nat} {dk : Nat → Int32} {al : Nat} {aw : Nat → Int32} {sd : Nat} {tr bo co sh : Int32} {ow : Nat → Int32} {tot : Nat} : tdl (mkT dl dk al aw sd tr bo co sh ow tot) = dl := rfl
theorem mk_tdk {dl : Nat} {dk : Nat → Int32} {al : Nat} {aw : Nat → Int32} {sd : Nat} {tr bo co sh : Int32} {ow : Nat → Int32} {tot : Nat} : tdk (mkT dl dk al aw sd tr bo co sh ow tot) = dk := rfl
theorem mk_tal {dl : Nat} {dk : Nat → Int32} {al : Nat} {aw : Nat → Int32} {sd : Nat} {tr bo co sh : Int32} {ow : Nat → Int32} {tot : Nat} : tal (mkT dl dk al aw sd tr bo co sh ow tot) = al := rfl
theorem mk_taw {dl : Nat} {dk : Nat → Int32} {al : Nat} {aw : Nat → Int32} {sd : Nat} {tr bo co sh : Int32} {ow : Nat → Int32} {tot : Nat} : taw (mkT dl dk al aw sd tr bo co sh ow tot) = aw := rfl
theorem mk_tsd {dl : Nat} {dk : Nat → Int32} {al : Nat} {aw : Nat → Int32} {sd : Nat} {tr bo co sh : Int32} {ow : Nat → Int32} {tot : Nat} : tsd (mkT dl dk al aw sd tr bo co sh ow tot) = sd := rfl
theorem mk_ttr {dl : Nat} {dk : Nat → Int32} {al : Nat} {aw : Nat → Int32} {sd : Nat} {tr bo co sh : Int32} {ow : Nat → Int32} {tot : Nat} : ttr (mkT dl dk al aw sd tr bo co sh ow tot) = tr := rfl
theorem mk_tbo {dl : Nat} {dk : Nat → Int32} {al : Nat} {aw : Nat → Int32} {sd : Nat} {tr bo co sh : Int32} {ow : Nat → Int32} {tot : Nat} : tbo (mkT dl dk al aw sd tr bo co sh ow tot) = bo := rfl
theorem mk_tco {dl : Nat} {dk : Nat → Int32} {al : Nat} {aw : Nat → Int32} {sd : Nat} {tr bo co sh : Int32} {ow : Nat → Int32} {tot : Nat} : tco (mkT dl dk al aw sd tr bo co sh ow tot) = co := rfl
theorem mk_tsh {dl : Nat} {dk : Nat → Int32} {al : Nat} {aw : Nat → Int32} {sd : Nat} {tr bo co sh : Int32} {ow : Nat → Int32} {tot : Nat} : tsh (mkT dl dk al aw sd tr bo co sh ow tot) = sh := rfl
theorem mk_tow {dl : Nat} {dk : Nat → Int32} {al : Nat} {aw : Nat → Int32} {sd : Nat} {tr bo co sh : Int32} {ow : Nat → Int32} {tot : Nat} : tow (mkT dl dk al aw sd tr bo co sh ow tot) = ow := rfl
theorem mk_ttt {dl : Nat} {dk : Nat → Int32} {al : Nat} {aw : Nat → Int32} {sd : Nat} {tr bo co sh : Int32} {ow : Nat → Int32} {tot : Nat} : ttt (mkT dl dk al aw sd tr bo co sh ow tot) = tot := rfl
/-- one place of the shuffling, and all from place q down to 1 -/
def mixW : Nat → Nat → (Nat → Int32) → Nat × (Nat → Int32)
  | 0, sd, w => (sd, w)
  | q + 1, sd, w => mixW q ((sd * 193 + 71) % 1021) (upd (upd w (q + 1) (w (((sd * 193 + 71) % 1021) % (q + 2)))) (((sd * 193 + 71) % 1021) % (q + 2)) (w (q + 1)))
def appW (n : Nat) (d w : Nat → Int32) : Nat → Int32 := fun i => if i < n then d i else w (i - n)
def mixT (M : TM) : TM := if tal M = 0 then M else
  mkT (tdl M + tal M) (appW (tdl M) (tdk M) (mixW (tal M - 1) (tsd M) (taw M)).2) 0 (mixW (tal M - 1) (tsd M) (taw M)).2 (mixW (tal M - 1) (tsd M) (taw M)).1 (ttr M) (tbo M) (tco M) (tsh M + 1) (tow M) (ttt M)
/-- the deck as it is drawn from -/
def rdyT (M : TM) : TM := if tdl M = 0 then mixT M else M
def topT (M : TM) : TM := mkT (tdl M - 1) (fun i => tdk M (i + 1)) (tal M) (taw M) (tsd M) (ttr M) (tbo M) (tco M) (tsh M) (tow M) (ttt M)
/-- a card is gained, lost, coins, bought, a new one, one with a hand put away -/
def gainT (M : TM) (c : Nat) : TM := mkT (tdl M) (tdk M) (tal M + 1) (upd (taw M) (tal M) (nI c)) (tsd M) (ttr M) (tbo M) (tco M) (tsh M) (upd (tow M) c (tow M c + 1)) (ttt M + 1)
def loseT (M : TM) (c : Nat) : TM := mkT (tdl M) (tdk M) (tal M) (taw M) (tsd M) (ttr M + 1) (tbo M) (tco M) (tsh M) (upd (tow M) c (tow M c - 1)) (ttt M - 1)
def coT (M : TM) (x : Int32) : TM := mkT (tdl M) (tdk M) (tal M) (taw M) (tsd M) (ttr M) (tbo M) x (tsh M) (tow M) (ttt M)
def boT (M : TM) : TM := mkT (tdl M) (tdk M) (tal M) (taw M) (tsd M) (ttr M) (tbo M + 1) (tco M) (tsh M) (tow M) (ttt M)
def putT (M : TM) (n : Nat) (h : Nat → Int32) : TM := mkT (tdl M) (tdk M) (tal M + n) (zad (taw M) h (tal M) n) (tsd M) (ttr M) (tbo M) (tco M) (tsh M) (tow M) (ttt M)
/-- one of the discards is taken out, from place p on the next ones come nearer -/
def outW (p : Nat) (w : Nat → Int32) : Nat → Int32 := fun i => if i < p then w i else w (i + 1)
def cutT (M : TM) (p : Nat) : TM := mkT (tdl M) (tdk M) (tal M - 1) (outW p (taw M)) (tsd M) (ttr M) (tbo M) (tco M) (tsh M) (tow M) (ttt M)
def newT (m : Nat) : TM := mkT 0 (fun _ => 0) 0 (fun _ => 0) (7 * m + 1) 0 0 0 0 (fun _ => 0) 0
def begT (m : Nat) (st : Nat → Nat) : Nat → TM
  | 0 => newT m
  | q + 1 => gainT (begT m st q) (st q)
/-- a merchant and a hand -/
abbrev TH : Type := TM × Nat × (Nat → Int32)
def draw1 (X : TH) : TH := if tdl (rdyT X.1) = 0 then (rdyT X.1, X.2.1, X.2.2) else (topT (rdyT X.1), X.2.1 + 1, upd X.2.2 X.2.1 (tdk (rdyT X.1) 0))
def drawN : Nat → TH → TH
  | 0, X => X
  | q + 1, X => drawN q (draw1 X)
/-- how many of the first n are c -/
def cntW (w : Nat → Int32) (c : Int32) : Nat → Nat
  | 0 => 0
  | n + 1 => cntW w c n + (if w n = c then 1 else 0)
def cntT (M : TM) (c : Int32) : Nat := cntW (tdk M) c (tdl M) + cntW (taw M) c (tal M)
def cntH (X : TH) (c : Int32) : Nat := cntT X.1 c + cntW X.2.2 c X.2.1
def allT (M : TM) : Nat := tdl M + tal M
def allH (X : TH) : Nat := allT X.1 + X.2.1
/-- all cards are of the first nc sorts -/
def okW (nc : Nat) (w : Nat → Int32) (n : Nat) : Prop := ∀ i, i < n → ∃ c, c < nc ∧ w i = nI c
def okT (nc : Nat) (M : TM) : Prop := okW nc (tdk M) (tdl M) ∧ okW nc (taw M) (tal M) ∧ tsd M < 1021
def okH (nc : Nat) (X : TH) : Prop := okT nc X.1 ∧ okW nc X.2.2 X.2.1 ∧ allH X ≤ 60
theorem cntW_congr {w v : Nat → Int32} {c : Int32} : ∀ {n : Nat}, (∀ i, i < n → w i = v i) → cntW w c n = cntW v c n
  | 0, _ => rfl
  | n + 1, h => by
    unfold cntW
    rw [cntW_congr (n := n) (fun i hi => h i (by omega)), h n (by omega)]
theorem cntW_le {w : Nat → Int32} {c : Int32} : ∀ {n : Nat}, cntW w c n ≤ n
  | 0 => Nat.le_refl _
  | n + 1 => by
    unfold cntW
    have := cntW_le (w := w) (c := c) (n := n)
    split <;> omega
theorem cntW_up {w : Nat → Int32} {c x : Int32} : ∀ {n i : Nat}, i < n → cntW (upd w i x) c n + (if w i = c then 1 else 0) = cntW w c n + (if x = c then 1 else 0)
  | 0, _, h => absurd h (Nat.not_lt_zero _)
  | n + 1, i, h => by
    unfold cntW
    by_cases hi : i = n
    · subst hi
      have e : cntW (upd w i x) c i = cntW w c i := cntW_congr (fun j hj => by simp [upd, Nat.ne_of_lt hj])
      have e2 : upd w i x i = x := by simp [upd]
      rw [e, e2]; omega
    · have := cntW_up (w := w) (c := c) (x := x) (n := n) (i := i) (by omega)
      have e2 : upd w i x n = w n := by simp [upd, Ne.symm hi]
      rw [e2]; omega
theorem cntW_sw {w : Nat → Int32} {c : Int32} {n i j : Nat} (hi : i < n) (hj : j < n) : cntW (upd (upd w i (w j)) j (w i)) c n = cntW w c n := by
  have h1 := cntW_up (w := upd w i (w j)) (c := c) (x := w i) hj
  have h2 := cntW_up (w := w) (c := c) (x := w j) hi
  by_cases hij : j = i
  · subst hij
    have e : upd w j (w j) j = w j := by simp [upd]
    rw [e] at h1
    omega
  · have e : upd w i (w j) j = w j := by simp [upd, hij]
    rw [e] at h1
    omega
theorem mixW_cnt {c : Int32} {n : Nat} : ∀ {q sd : Nat} {w : Nat → Int32}, q < n → cntW (mixW q sd w).2 c n = cntW w c n
  | 0, _, _, _ => rfl
  | q + 1, sd, w, h => by
    unfold mixW
    rw [mixW_cnt (q := q) (by omega)]
    exact cntW_sw h (Nat.lt_of_lt_of_le (Nat.mod_lt _ (by omega)) (by omega))
theorem mixW_ok {nc n : Nat} : ∀ {q sd : Nat} {w : Nat → Int32}, q < n → okW nc w n → okW nc (mixW q sd w).2 n
  | 0, _, _, _, h => h
  | q + 1, sd, w, hq, h => by
    unfold mixW
    have ho : ((sd * 193 + 71) % 1021) % (q + 2) < n := Nat.lt_of_lt_of_le (Nat.mod_lt _ (by omega)) (by omega)
    refine mixW_ok (q := q) (by omega) (fun i hi => ?_)
    unfold upd
    split
    · exact h _ hq
    · split
      · exact h _ ho
      · exact h i hi
theorem mixW_sd : ∀ {q sd : Nat} {w : Nat → Int32}, sd < 1021 → (mixW q sd w).1 < 1021
  | 0, _, _, h => h
  | q + 1, sd, w, h => by
    unfold mixW
    exact mixW_sd (q := q) (Nat.mod_lt _ (by omega))
theorem cntW_app {d w : Nat → Int32} {c : Int32} {n : Nat} : ∀ {k : Nat}, cntW (appW n d w) c (n + k) = cntW d c n + cntW w c k
  | 0 => cntW_congr (fun i hi => by simp only [Nat.add_zero] at hi; simp [appW, hi])
  | k + 1 => by
    have e : appW n d w (n + k) = w k := by
      unfold appW
      rw [if_neg (by omega), Nat.add_sub_cancel_left]
    show cntW (appW n d w) c (n + k) + (if appW n d w (n + k) = c then 1 else 0) = cntW d c n + (cntW w c k + (if w k = c then 1 else 0))
    rw [cntW_app (k := k), e]
    omega
theorem cntW_sh {w : Nat → Int32} {c : Int32} : ∀ {n : Nat}, cntW w c (n + 1) = (if w 0 = c then 1 else 0) + cntW (fun i => w (i + 1)) c n
  | 0 => by simp [cntW]
  | n + 1 => by
    have := cntW_sh (w := w) (c := c) (n := n)
    rw [cntW, this]
    conv => rhs; rw [cntW]
    omega
theorem cntW_0 {w : Nat → Int32} {c : Int32} {n : Nat} {m : Nat} (h : okW m w n) (hc : ∀ j, j < m → nI j ≠ c) : cntW w c n = 0 := by
  induction n with
  | zero => rfl
  | succ n ih =>
    unfold cntW
    rw [ih (fun i hi => h i (by omega))]
    obtain ⟨j, hj, e⟩ := h n (by omega)
    rw [if_neg (by rw [e]; exact hc j hj)]
theorem mixT_cnt (M : TM) (c : Int32) : cntT (mixT M) c = cntT M c := by
  unfold mixT
  split
  · rfl
  · rename_i h
    show cntW (appW _ _ _) c (tdl M + tal M) + cntW _ c 0 = _
    rw [cntW_app, mixW_cnt (by omega)]
    rfl
theorem mixT_all (M : TM) : allT (mixT M) = allT M := by
  unfold mixT
  split
  · rfl
  · show tdl M + tal M + 0 = _
    rfl
theorem mixT_ok {nc : Nat} {M : TM} (h : okT nc M) : okT nc (mixT M) := by
  unfold mixT
  split
  · exact h
  · rename_i h0
    have h2 := mixW_ok (sd := tsd M) (q := tal M - 1) (by omega) h.2.1
    refine ⟨fun i hi => ?_, fun i hi => absurd hi (Nat.not_lt_zero _), mixW_sd h.2.2⟩
    show ∃ c, c < nc ∧ appW _ _ _ i = nI c
    unfold appW
    split
    · exact h.1 i ‹_›
    · exact h2 _ (by have : i < tdl M + tal M := hi; omega)
theorem rdyT_cnt (M : TM) (c : Int32) : cntT (rdyT M) c = cntT M c := by
  unfold rdyT
  split
  · exact mixT_cnt M c
  · rfl
theorem rdyT_all (M : TM) : allT (rdyT M) = allT M := by
  unfold rdyT
  split
  · exact mixT_all M
  · rfl
theorem rdyT_ok {nc : Nat} {M : TM} (h : okT nc M) : okT nc (rdyT M) := by
  unfold rdyT
  split
  · exact mixT_ok h
  · exact h
theorem draw1_cnt (X : TH) (c : Int32) : cntH (draw1 X) c = cntH X c := by
  unfold draw1
  split
  · show cntT (rdyT X.1) c + _ = _
    rw [rdyT_cnt]; rfl
  · rename_i h
    show cntW (fun i => tdk (rdyT X.1) (i + 1)) c (tdl (rdyT X.1) - 1) + cntW (taw (rdyT X.1)) c (tal (rdyT X.1)) + (cntW (upd X.2.2 X.2.1 (tdk (rdyT X.1) 0)) c X.2.1 + (if upd X.2.2 X.2.1 (tdk (rdyT X.1) 0) X.2.1 = c then 1 else 0)) = cntT X.1 c + cntW X.2.2 c X.2.1
    have e1 : cntW (upd X.2.2 X.2.1 (tdk (rdyT X.1) 0)) c X.2.1 = cntW X.2.2 c X.2.1 := cntW_congr (fun i hi => by simp [upd, Nat.ne_of_lt hi])
    have e2 : upd X.2.2 X.2.1 (tdk (rdyT X.1) 0) X.2.1 = tdk (rdyT X.1) 0 := by simp [upd]
    have e3 := cntW_sh (w := tdk (rdyT X.1)) (c := c) (n := tdl (rdyT X.1) - 1)
    rw [show tdl (rdyT X.1) - 1 + 1 = tdl (rdyT X.1) by omega] at e3
    have e4 := rdyT_cnt X.1 c
    unfold cntT at e4 ⊢
    rw [e1, e2]
    omega
theorem draw1_all (X : TH) : allH (draw1 X) = allH X := by
  unfold draw1
  split
  · show allT (rdyT X.1) + _ = _
    rw [rdyT_all]; rfl
  · rename_i h
    show tdl (rdyT X.1) - 1 + tal (rdyT X.1) + (X.2.1 + 1) = allT X.1 + X.2.1
    have := rdyT_all X.1
    unfold allT at this ⊢
    omega
theorem draw1_ok {nc : Nat} {X : TH} (h : okH nc X) : okH nc (draw1 X) := by
  have ha := draw1_all X
  have h1 := rdyT_ok h.1
  refine ⟨?_, ?_, by rw [ha]; exact h.2.2⟩
  · unfold draw1
    split
    · exact h1
    · rename_i h0
      exact ⟨fun i hi => h1.1 (i + 1) (by have : i < tdl (rdyT X.1) - 1 := hi; omega), h1.2.1, h1.2.2⟩
  · unfold draw1
    split
    · exact h.2.1
    · rename_i h0
      intro i hi
      show ∃ c, c < nc ∧ upd X.2.2 X.2.1 _ i = nI c
      unfold upd
      split
      · exact h1.1 0 (by omega)
      · exact h.2.1 i (by have : i < X.2.1 + 1 := hi; omega)
theorem drawN_cnt (c : Int32) : ∀ (q : Nat) (X : TH), cntH (drawN q X) c = cntH X c
  | 0, _ => rfl
  | q + 1, X => by unfold drawN; rw [drawN_cnt c q, draw1_cnt]
theorem drawN_all : ∀ (q : Nat) (X : TH), allH (drawN q X) = allH X
  | 0, _ => rfl
  | q + 1, X => by unfold drawN; rw [drawN_all q, draw1_all]
theorem drawN_ok {nc : Nat} : ∀ (q : Nat) {X : TH}, okH nc X → okH nc (drawN q X)
  | 0, _, h => h
  | q + 1, X, h => by unfold drawN; exact drawN_ok q (draw1_ok h)
