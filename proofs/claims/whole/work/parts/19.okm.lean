/-! MODEL: what holds all through a turn -/
theorem rdyT_tt (M : TM) : ttt (rdyT M) = ttt M ∧ tow (rdyT M) = tow M := by
  unfold rdyT
  split
  · unfold mixT
    split
    · exact ⟨rfl, rfl⟩
    · exact ⟨rfl, rfl⟩
  · exact ⟨rfl, rfl⟩
theorem draw1_tt (X : TH) : ttt (draw1 X).1 = ttt X.1 ∧ tow (draw1 X).1 = tow X.1 ∧ X.2.1 ≤ (draw1 X).2.1 := by
  have h := rdyT_tt X.1
  unfold draw1
  split
  · exact ⟨h.1, h.2, Nat.le_refl _⟩
  · exact ⟨h.1, h.2, Nat.le_succ _⟩
theorem drawN_tt : ∀ (q : Nat) (X : TH), ttt (drawN q X).1 = ttt X.1 ∧ tow (drawN q X).1 = tow X.1 ∧ X.2.1 ≤ (drawN q X).2.1
  | 0, _ => ⟨rfl, rfl, Nat.le_refl _⟩
  | q + 1, X => by
    have h1 := draw1_tt X
    have h2 := drawN_tt q (draw1 X)
    unfold drawN
    exact ⟨h2.1.trans h1.1, h2.2.1.trans h1.2.1, Nat.le_trans h1.2.2 h2.2.2⟩
def okS (nc : Nat) (S : GS) : Prop := okH nc (gTH S) ∧ ttt (gtr S) = allH (gTH S) ∧ gcp S ≤ ghl S ∧ ∀ c, c < 10 → tow (gtr S) c = nI (cntH (gTH S) (nI c))
theorem okS_draw {nc q : Nat} {S : GS} (h : okS nc S) : okS nc (setH S (drawN q (gTH S))) := by
  have h2 := drawN_tt q (gTH S)
  refine ⟨drawN_ok q h.1, ?_, Nat.le_trans h.2.2.1 h2.2.2, fun c hc => ?_⟩
  · show ttt (drawN q (gTH S)).1 = allH (drawN q (gTH S))
    rw [h2.1, drawN_all]
    exact h.2.1
  · show tow (drawN q (gTH S)).1 c = nI (cntH (drawN q (gTH S)) (nI c))
    rw [h2.2.1, drawN_cnt]
    exact h.2.2.2 c hc
theorem cntW_out {w : Nat → Int32} {c : Int32} {p : Nat} : ∀ {n : Nat}, p < n + 1 → cntW (outW p w) c n + (if w p = c then 1 else 0) = cntW w c (n + 1)
  | 0, h => by
    obtain rfl : p = 0 := by omega
    rfl
  | n + 1, h => by
    by_cases hp : p = n + 1
    · subst hp
      have e : cntW (outW (n + 1) w) c (n + 1) = cntW w c (n + 1) := cntW_congr (fun i hi => if_pos hi)
      rw [e]
      rfl
    · have ih := cntW_out (w := w) (c := c) (p := p) (n := n) (by omega)
      have e : outW p w n = w (n + 1) := if_neg (by omega)
      show cntW (outW p w) c n + (if outW p w n = c then 1 else 0) + _ = cntW w c (n + 1) + (if w (n + 1) = c then 1 else 0)
      rw [e]
      omega
theorem cntW_push {w : Nat → Int32} {c x : Int32} {n : Nat} : cntW (upd w n x) c (n + 1) = cntW w c n + (if x = c then 1 else 0) := by
  show cntW (upd w n x) c n + (if upd w n x n = c then 1 else 0) = _
  rw [cntW_congr (v := w) (fun i hi => pk_un (by omega)), pk_us]
theorem zfn_in {f : Nat → Int32} {v : Int32} {p : Nat} : ∀ {q j : Nat}, zfn f v q j = some p → j ≤ p ∧ p < j + q ∧ f p = v
  | 0, _, h => by cases h
  | q + 1, j, h => by
    unfold zfn at h
    split at h
    · cases h; exact ⟨Nat.le_refl _, by omega, ‹_›⟩
    · have := zfn_in h
      exact ⟨by omega, by omega, this.2.2⟩
theorem zfi_zfn {f g : Nat → Int32} {v : Int32} : ∀ {q j : Nat}, (∀ i, j ≤ i → i < j + q → f i = g i) → zfi f v q j = oI (zfn g v q j)
  | 0, _, _ => rfl
  | q + 1, j, h => by
    unfold zfi zfn
    rw [h j (Nat.le_refl _) (by omega)]
    split
    · rfl
    · exact zfi_zfn (fun i h1 h2 => h i (by omega) (by omega))
theorem okS_trash {nc c : Nat} {S : GS} (hc : c < 10) (h : okS nc S) : okS nc (trashG S c) := by
  unfold trashG
  split
  · exact h
  · rename_i p hp
    obtain ⟨a1, a2, a3⟩ := zfn_in hp
    obtain ⟨⟨hT, hH, hA⟩, ht, hcp, ho⟩ := h
    have hA' : tdl (gtr S) + tal (gtr S) + ghl S ≤ 60 := hA
    have ht' : ttt (gtr S) = tdl (gtr S) + tal (gtr S) + ghl S := ht
    have hc1 : ∀ x : Int32, cntW (outW p (ghd S)) x (ghl S - 1) + (if ghd S p = x then 1 else 0) = cntW (ghd S) x (ghl S) := by
      intro x
      have := cntW_out (w := ghd S) (c := x) (p := p) (n := ghl S - 1) (by omega)
      rwa [show ghl S - 1 + 1 = ghl S by omega] at this
    refine ⟨⟨hT, fun i hi => ?_, ?_⟩, ?_, ?_, fun x hx => ?_⟩
    · have hi2 : i < ghl S - 1 := hi
      show ∃ c, c < nc ∧ outW p (ghd S) i = nI c
      unfold outW
      split
      · exact hH i (by show i < ghl S; omega)
      · exact hH (i + 1) (by show i + 1 < ghl S; omega)
    · show tdl (gtr S) + tal (gtr S) + (ghl S - 1) ≤ 60; omega
    · show ttt (gtr S) - 1 = tdl (gtr S) + tal (gtr S) + (ghl S - 1); omega
    · show gcp S ≤ ghl S - 1; omega
    · have h1 := hc1 (nI x)
      have h2 := ho x hx
      have h2' : tow (gtr S) x = nI (cntT (gtr S) (nI x) + cntW (ghd S) (nI x) (ghl S)) := h2
      show upd (tow (gtr S)) c (tow (gtr S) c - 1) x = nI (cntT (gtr S) (nI x) + cntW (outW p (ghd S)) (nI x) (ghl S - 1))
      rw [a3] at h1
      by_cases e : x = c
      · subst e
        rw [pk_us, h2']
        rw [if_pos rfl] at h1
        rw [← h1, show (1 : Int32) = nI 1 from rfl, pk_sub (by omega)]
        congr 1
      · rw [pk_un e, h2']
        rw [if_neg (fun q => e ((nI_eq (by omega) (by omega)).mp q).symm)] at h1
        rw [← h1]
        rfl
theorem okS_deed {R : RU} {rd : Int32} {card d nc : Nat} {S : GS} (hd : rdk R d = 11 → rdc R d < 10) (h : okS nc S) : okS nc (deedG R rd card d S) := by
  unfold deedG
  split
  · exact h
  · split
    · exact okS_draw h
    · split
      · exact h
      · split
        · exact okS_trash (hd ‹_›) h
        · split <;> (first | exact h | (split <;> exact h))
theorem okS_deeds {R : RU} {rd : Int32} {card nc : Nat} : ∀ {q d : Nat} {S : GS}, (∀ j, d ≤ j → j < d + q → rdk R j = 11 → rdc R j < 10) → okS nc S → okS nc (deedsG R rd card q d S)
  | 0, _, _, _, h => h
  | q + 1, d, S, hd, h => okS_deeds (q := q) (d := d + 1) (fun j h1 h2 => hd j (by omega) (by omega)) (okS_deed (hd d (Nat.le_refl _) (by omega)) h)
theorem okS_card {R : RU} {rd : Int32} {S : GS} (hR : okR R) (hc : gcp S < ghl S) (h : okS (rnc R) S) : okS (rnc R) (cardG R rd S) := by
  obtain ⟨c, hc2, e⟩ := h.1.2.1 (gcp S) hc
  have e' : ghd S (gcp S) = nI c := e
  have hn := hR.1
  unfold cardG
  rw [e', nI_clamp (by omega)]
  refine okS_deeds (fun j h1 h2 h3 => ?_) ⟨h.1, h.2.1, hc, h.2.2.2⟩
  have := (hR.2.2.2.2.2.1 c hc2).2 (j - c * 4) (by omega)
  rw [show c * 4 + (j - c * 4) = j by omega] at this
  have := this.1 (Or.inl h3)
  omega
theorem okS_play {R : RU} {rd : Int32} (hR : okR R) : ∀ {q : Nat} {S : GS}, okS (rnc R) S → okS (rnc R) (playG R rd q S)
  | 0, _, h => h
  | q + 1, S, h => by
    unfold playG
    split
    · exact okS_play hR (okS_card hR ‹_› h)
    · exact h
theorem okS_buy {nc c : Nat} {x : Int32} {S : GS} (hc : c < nc) (hn : nc ≤ 10) (ht : ttt (gtr S) < 60) (h : okS nc S) : okS nc (buyG S c x) := by
  obtain ⟨⟨hT, hH, hA⟩, htt, hcp, ho⟩ := h
  have ht' : ttt (gtr S) = tdl (gtr S) + tal (gtr S) + ghl S := htt
  refine ⟨⟨⟨hT.1, fun i hi => ?_, hT.2.2⟩, hH, ?_⟩, ?_, hcp, fun y hy => ?_⟩
  · have hi2 : i < tal (gtr S) + 1 := hi
    show ∃ c', c' < nc ∧ upd (taw (gtr S)) (tal (gtr S)) (nI c) i = nI c'
    by_cases e : i = tal (gtr S)
    · subst e; exact ⟨c, hc, pk_us⟩
    · rw [pk_un e]; exact hT.2.1 i (by show i < tal (gtr S); omega)
  · show tdl (gtr S) + (tal (gtr S) + 1) + ghl S ≤ 60; omega
  · show ttt (gtr S) + 1 = tdl (gtr S) + (tal (gtr S) + 1) + ghl S; omega
  · have h2 : tow (gtr S) y = nI (cntW (tdk (gtr S)) (nI y) (tdl (gtr S)) + cntW (taw (gtr S)) (nI y) (tal (gtr S)) + cntW (ghd S) (nI y) (ghl S)) := ho y hy
    show upd (tow (gtr S)) c (tow (gtr S) c + 1) y = nI (cntW (tdk (gtr S)) (nI y) (tdl (gtr S)) + cntW (upd (taw (gtr S)) (tal (gtr S)) (nI c)) (nI y) (tal (gtr S) + 1) + cntW (ghd S) (nI y) (ghl S))
    rw [cntW_push]
    by_cases e : y = c
    · subst e
      rw [pk_us, h2, if_pos rfl, nI_1]
      congr 1; omega
    · rw [pk_un e, h2, if_neg (fun q => e ((nI_eq (by omega) (by omega)).mp q).symm)]
      rfl
theorem okS_order {R : RU} {rd : Int32} {m o : Nat} {skip : Int32} {S : GS} (hR : okR R) (ho : o < rno R) (h : okS (rnc R) S) : okS (rnc R) (orderG R rd m skip o S) := by
  unfold orderG
  split
  · rename_i hc
    exact okS_buy (hR.2.2.2.2.2.2 o ho).2 hR.1 hc.2.2.2.2.2.1 h
  · exact h
theorem okS_orders {R : RU} {rd : Int32} {m : Nat} {skip : Int32} (hR : okR R) : ∀ {q o : Nat} {S : GS}, o + q ≤ rno R → okS (rnc R) S → okS (rnc R) (ordersG R rd m skip q o S)
  | 0, _, _, _, h => h
  | q + 1, o, S, ho, h => okS_orders hR (q := q) (o := o + 1) (by omega) (okS_order hR (by omega) h)
/-- a merchant between turns -/
def okM (nc : Nat) (M : TM) : Prop := okT nc M ∧ allT M ≤ 60 ∧ ttt M = allT M ∧ ∀ c, c < 10 → tow M c = nI (cntT M (nI c))
theorem okS_start {nc m : Nat} {W : WM} (h : okM nc (wtr W m)) : okS nc (startG W m) := by
  refine ⟨⟨h.1, fun i hi => absurd hi (Nat.not_lt_zero _), h.2.1⟩, h.2.2.1, Nat.le_refl _, fun c hc => ?_⟩
  show tow (wtr W m) c = nI (cntT (wtr W m) (nI c) + 0)
  rw [h.2.2.2 c hc]
  rfl
theorem okS_hand {R : RU} {m : Nat} {W : WM} (hR : okR R) (h : okM (rnc R) (wtr W m)) : okS (rnc R) (handG R W m) := okS_play hR (okS_draw (okS_start h))
theorem okS_latest {nc : Nat} {S : GS} (h : okS nc S) : okS nc (latestG S) := ⟨⟨h.1.1, h.1.2.1, h.1.2.2⟩, h.2.1, h.2.2.1, h.2.2.2⟩
theorem okS_turn {R : RU} {m : Nat} {skip : Int32} {W : WM} (hR : okR R) (h : okM (rnc R) (wtr W m)) : okS (rnc R) (turnG R W m skip) := okS_orders (q := rno R) (o := 0) (S := latestG (handG R W m)) hR (by omega) (okS_latest (okS_hand hR h))
theorem cntW_zad {w h : Nat → Int32} {c : Int32} {n : Nat} : ∀ {k : Nat}, cntW (zad w h n k) c (n + k) = cntW w c n + cntW h c k
  | 0 => rfl
  | k + 1 => by
    have ih := cntW_zad (w := w) (h := h) (c := c) (n := n) (k := k)
    show cntW (upd (zad w h n k) (n + k) (h k)) c (n + k + 1) = cntW w c n + (cntW h c k + (if h k = c then 1 else 0))
    rw [cntW_push, ih]
    omega
theorem okM_put {nc : Nat} {S : GS} (h : okS nc S) : okM nc (putT (gtr S) (ghl S) (ghd S)) := by
  obtain ⟨⟨hT, hH, hA⟩, htt, hcp, ho⟩ := h
  have hA' : tdl (gtr S) + tal (gtr S) + ghl S ≤ 60 := hA
  have ht' : ttt (gtr S) = tdl (gtr S) + tal (gtr S) + ghl S := htt
  refine ⟨⟨hT.1, fun i hi => ?_, hT.2.2⟩, ?_, ?_, fun c hc => ?_⟩
  · have hi2 : i < tal (gtr S) + ghl S := hi
    show ∃ c, c < nc ∧ zad (taw (gtr S)) (ghd S) (tal (gtr S)) (ghl S) i = nI c
    rw [zad_at]
    split
    · exact hH _ (by show i - tal (gtr S) < ghl S; omega)
    · exact hT.2.1 i (by show i < tal (gtr S); omega)
  · show tdl (gtr S) + (tal (gtr S) + ghl S) ≤ 60; omega
  · show ttt (gtr S) = tdl (gtr S) + (tal (gtr S) + ghl S); omega
  · have h2 : tow (gtr S) c = nI (cntW (tdk (gtr S)) (nI c) (tdl (gtr S)) + cntW (taw (gtr S)) (nI c) (tal (gtr S)) + cntW (ghd S) (nI c) (ghl S)) := ho c hc
    show tow (gtr S) c = nI (cntW (tdk (gtr S)) (nI c) (tdl (gtr S)) + cntW (zad (taw (gtr S)) (ghd S) (tal (gtr S)) (ghl S)) (nI c) (tal (gtr S) + ghl S))
    rw [h2, cntW_zad]
    congr 1; omega
