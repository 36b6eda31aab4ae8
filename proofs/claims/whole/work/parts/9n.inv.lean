/-! WHAT STAYS TRUE of the state, call by call -/
theorem gpi_trash {S : GS} {c : Nat} : gpi (trashG S c) = gpi S := by
  unfold trashG
  split <;> rfl
theorem gpi_deed {R : RU} {rd : Int32} {card d : Nat} {S : GS} : gpi (deedG R rd card d S) = gpi S := by
  unfold deedG
  split
  · rfl
  · split
    · rfl
    · split
      · rfl
      · split
        · exact gpi_trash
        · split <;> (first | rfl | (split <;> rfl))
theorem gpi_deeds {R : RU} {rd : Int32} {card : Nat} : ∀ {q d : Nat} {S : GS}, gpi (deedsG R rd card q d S) = gpi S
  | 0, _, _ => rfl
  | q + 1, d, S => (gpi_deeds (q := q) (d := d + 1) (S := deedG R rd card d S)).trans gpi_deed
theorem gpi_card {R : RU} {rd : Int32} {S : GS} : gpi (cardG R rd S) = gpi S := by
  unfold cardG
  rw [gpi_deeds]
  rfl
theorem gpi_play {R : RU} {rd : Int32} : ∀ {q : Nat} {S : GS}, gpi (playG R rd q S) = gpi S
  | 0, _ => rfl
  | q + 1, S => by
    unfold playG
    split
    · rw [gpi_play, gpi_card]
    · rfl
theorem gpi_order {R : RU} {rd : Int32} {m o : Nat} {skip : Int32} {S : GS} (hR : okR R) (ho : o < rno R) {c : Nat} (hc : rnc R ≤ c) : gpi (orderG R rd m skip o S) c = gpi S c := by
  unfold orderG
  split
  · have := (hR.2.2.2.2.2.2 o ho).2
    exact pk_un (by omega)
  · rfl
theorem gpi_orders {R : RU} {rd : Int32} {m : Nat} {skip : Int32} (hR : okR R) {c : Nat} (hc : rnc R ≤ c) : ∀ {q o : Nat} {S : GS}, o + q ≤ rno R → gpi (ordersG R rd m skip q o S) c = gpi S c
  | 0, _, _, _ => rfl
  | q + 1, o, S, ho => (gpi_orders hR hc (q := q) (o := o + 1) (S := orderG R rd m skip o S) (by omega)).trans (gpi_order hR (by omega) hc)
theorem gpi_hand {R : RU} {W : WM} {m : Nat} : gpi (handG R W m) = wpi W := by
  unfold handG
  rw [gpi_play]
  rfl
theorem gpi_latest (S : GS) : gpi (latestG S) = gpi S := rfl
theorem wpi_turn {R : RU} {W : WM} {m : Nat} {skip : Int32} : wpi (turnW R W m skip) = gpi (turnG R W m skip) := by
  unfold turnW
  generalize turnG R W m skip = S
  rfl
theorem okP_turn {R : RU} {W : WM} {m : Nat} {skip : Int32} (hR : okR R) (h : okP R W) : okP R (turnW R W m skip) := fun c hc h10 => by
  rw [wpi_turn]
  unfold turnG
  rw [gpi_orders hR hc (by omega), gpi_latest, gpi_hand]
  exact h c hc h10
theorem okP_round {R : RU} {skip : Int32} (hR : okR R) : ∀ {q m : Nat} {X : WM × Int32}, okP R X.1 → okP R (roundW R skip q m X).1
  | 0, _, _, h => h
  | q + 1, m, X, h => okP_round hR (q := q) (m := m + 1) (X := (turnW R X.1 m skip, _)) (okP_turn hR h)
theorem okP_rounds {R : RU} {skip : Int32} (hR : okR R) : ∀ {q : Nat} {X : WM × Int32}, okP R X.1 → okP R (roundsW R skip q X).1
  | 0, _, h => h
  | q + 1, X, h => okP_rounds hR (q := q) (X := (nextW (roundW R skip (rnm R) 0 X).1, _)) (show okP R (nextW (roundW R skip (rnm R) 0 X).1) from okP_round hR h)
theorem okI_rounds {R : RU} {W : WM} {skip : Int32} {q : Nat} {a : Int32} (hR : okR R) (h : okI R W) : okI R (roundsW R skip q (W, a)).1 := ⟨okWM_rounds hR h.1, h.2.1, okP_rounds hR h.2.2⟩
theorem okM_mix {nc : Nat} {M : TM} (h : okM nc M) : okM nc (mixT M) := by
  have e : ttt (mixT M) = ttt M ∧ tow (mixT M) = tow M := by
    unfold mixT
    split
    · exact ⟨rfl, rfl⟩
    · exact ⟨rfl, rfl⟩
  refine ⟨mixT_ok h.1, ?_, ?_, fun c hc => ?_⟩
  · rw [mixT_all]; exact h.2.1
  · rw [e.1, mixT_all]; exact h.2.2.1
  · rw [e.2, mixT_cnt]; exact h.2.2.2 c hc
theorem okM_cut {nc c p : Nat} {M : TM} (hc : c < 10) (h : okM nc M) (hp : zfn (taw M) (nI c) (tal M) 0 = some p) : okM nc (loseT (cutT M p) c) := by
  obtain ⟨a1, a2, a3⟩ := zfn_in hp
  obtain ⟨hT, hA, ht, ho⟩ := h
  have hA' : tdl M + tal M ≤ 60 := hA
  have ht' : ttt M = tdl M + tal M := ht
  have hc1 : ∀ x : Int32, cntW (outW p (taw M)) x (tal M - 1) + (if taw M p = x then 1 else 0) = cntW (taw M) x (tal M) := by
    intro x
    have := cntW_out (w := taw M) (c := x) (p := p) (n := tal M - 1) (by omega)
    rwa [show tal M - 1 + 1 = tal M by omega] at this
  refine ⟨⟨hT.1, fun i hi => ?_, hT.2.2⟩, ?_, ?_, fun x hx => ?_⟩
  · have hi2 : i < tal M - 1 := hi
    show ∃ c, c < nc ∧ outW p (taw M) i = nI c
    unfold outW
    split
    · exact hT.2.1 i (by omega)
    · exact hT.2.1 (i + 1) (by omega)
  · show tdl M + (tal M - 1) ≤ 60; omega
  · show ttt M - 1 = tdl M + (tal M - 1); omega
  · have h1 := hc1 (nI x)
    have h2 : tow M x = nI (cntW (tdk M) (nI x) (tdl M) + cntW (taw M) (nI x) (tal M)) := ho x hx
    show upd (tow M) c (tow M c - 1) x = nI (cntW (tdk M) (nI x) (tdl M) + cntW (outW p (taw M)) (nI x) (tal M - 1))
    rw [a3] at h1
    by_cases e : x = c
    · subst e
      rw [pk_us, h2]
      rw [if_pos rfl] at h1
      rw [← h1, show (1 : Int32) = nI 1 from rfl, pk_sub (by omega)]
      congr 1
    · rw [pk_un e, h2]
      rw [if_neg (fun q => e ((nI_eq (by omega) (by omega)).mp q).symm)] at h1
      rw [← h1]
      rfl
theorem okWM_set {R : RU} {W : WM} {m : Nat} {M : TM} (h : okWM R W) (hM : okM (rnc R) M) : okWM R (setT W m M) := fun i hi => by
  show okM (rnc R) (updT (wtr W) m M i)
  unfold updT
  split
  · exact hM
  · exact h i hi
theorem ix_i {a : Int32} {m i : Nat} (hm : m < 2 ^ 31) (h : ixB a m = some i) : i < m ∧ a = nI i := by
  by_cases hh : ∃ j, j < m ∧ a = nI j
  · obtain ⟨j, hj, rfl⟩ := hh
    rw [ix_s hj hm] at h
    cases h
    exact ⟨hj, rfl⟩
  · rw [ix_n hm (fun j h1 h2 => hh ⟨j, h1, h2⟩)] at h
    cases h
theorem okI_shuf {R : RU} {W : WM} {a : Int32} (hR : okR R) (h : okI R W) : okI R (shufW R W a) := by
  have b5 := hR.2.1
  unfold shufW
  split
  · exact h
  · rename_i m hm
    obtain ⟨h1, -⟩ := ix_i (by omega) hm
    exact ⟨okWM_set h.1 (okM_mix (h.1 m (by omega))), h.2.1, h.2.2⟩
theorem okI_give {R : RU} {W : WM} {a b : Int32} (hR : okR R) (h : okI R W) : okI R (giveW R W a b) := by
  have b4 := hR.1
  have b5 := hR.2.1
  unfold giveW
  split
  · exact h
  · rename_i m hm
    obtain ⟨h1, -⟩ := ix_i (by omega) hm
    split
    · exact h
    · rename_i c hc
      obtain ⟨h2, -⟩ := ix_i (by omega) hc
      split
      · rename_i q
        refine ⟨okWM_gain h2 (by omega) (by omega) q.2 h.1, h.2.1, fun j hj h10 => ?_⟩
        show upd (wpi W) c (wpi W c - 1) j = 0
        rw [pk_un (by omega)]
        exact h.2.2 j hj h10
      · exact h
theorem okI_trash {R : RU} {W : WM} {a b : Int32} (hR : okR R) (h : okI R W) : okI R (trashW R W a b) := by
  have b4 := hR.1
  have b5 := hR.2.1
  unfold trashW
  split
  · exact h
  · rename_i m hm
    obtain ⟨h1, -⟩ := ix_i (by omega) hm
    split
    · exact h
    · rename_i c hc
      obtain ⟨h2, -⟩ := ix_i (by omega) hc
      split
      · exact h
      · rename_i p hp
        exact ⟨okWM_set h.1 (okM_cut (by omega) (h.1 m (by omega)) hp), h.2.1, h.2.2⟩
theorem okI_play {R : RU} {W : WM} {a : Int32} (hR : okR R) (h : okI R W) : okI R (playW R W a) := by
  unfold playW
  split
  · exact h
  · exact okI_rounds hR h
theorem okM_g {nc c : Nat} {M : TM} (hc : c < nc) (hn : nc ≤ 10) (ht : ttt M < 60) (h : okM nc M) : okM nc (gainT M c) := okM_gain (W := (0, fun _ => 0, fun _ => 0, fun _ => 0, fun _ => M)) (m := 0) hc hn ht h
theorem okM_new {nc m : Nat} (hm : m < 4) : okM nc (newT m) := ⟨⟨fun i hi => absurd hi (Nat.not_lt_zero _), fun i hi => absurd hi (Nat.not_lt_zero _), by show 7 * m + 1 < 1021; omega⟩, Nat.zero_le _, rfl, fun c hc => rfl⟩
theorem okM_beg {nc m : Nat} {st : Nat → Nat} (hn : nc ≤ 10) (hm : m < 4) : ∀ {q : Nat}, q ≤ 20 → (∀ i, i < q → st i < nc) → okM nc (begT m st q) ∧ ttt (begT m st q) = q
  | 0, _, _ => ⟨okM_new hm, rfl⟩
  | q + 1, hq, hs => by
    obtain ⟨h1, h2⟩ := okM_beg hn hm (q := q) (by omega) (fun i hi => hs i (by omega))
    refine ⟨okM_g (hs q (by omega)) hn (by omega) h1, ?_⟩
    show ttt (begT m st q) + 1 = q + 1
    rw [h2]
theorem okI_beg {tb : Nat → Nat} {tl : Nat} (h0 : aer (lsS tb tl) = 0) (hR : okR (lsU tb tl)) : okI (lsU tb tl) (begW (lsU tb tl)) := by
  have ho := ls_okA (Nat.le_refl _) h0
  obtain ⟨⟨b1, b2, b3, b4⟩, b5, b6, b7, b8, b9, b10, b11, b12⟩ := ho
  refine ⟨fun i hi => (okM_beg hR.1 hi hR.2.2.2.1 (fun j hj => hR.2.2.2.2.1 j hj)).1, fun c hc => ⟨awo (lsS tb tl) c, (b7 c).2, rfl⟩, fun c hc h10 => ?_⟩
  show nI (api (lsS tb tl) c) = 0
  have e : api (lsS tb tl) c = 0 := b12 c hc
  rw [e]
  rfl
theorem okI_0 : okI R0 W0 := ⟨fun i hi => okM_new (m := 0) (by omega), fun c hc => absurd hc (Nat.not_lt_zero _), fun c hc h10 => rfl⟩
