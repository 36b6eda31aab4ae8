/-! RUNNING: one step at a time; answers that are one value; calls of such -/
def zk1 (cut : Nat → Bool) (G Zf : ZCont) (pc : Nat) (L : ZLV) (st : List Value) (σ : ZHp) (n k w : Nat) : Prop := if cut pc = true then G pc L st σ n k w else Zf pc L st σ n k w
theorem zk1_f (tb : Nat → ZStep) (cut : Nat → Bool) (G : ZCont) (R : ZRtn) (T : ZTT) (f : Nat) : (fun pc' L' st' σ' n' k' w' => bif cut pc' then G pc' L' st' σ' n' k' w' else zrun tb cut G R T f pc' L' st' σ' n' k' w') = zk1 cut G (zrun tb cut G R T f) := by
  funext pc' L' st' σ' n' k' w'
  unfold zk1
  cases h : cut pc' <;> rfl
/-- something that runs as zrun does (a variable in its place keeps its text from being opened) -/
def ZRN (tb : Nat → ZStep) (cut : Nat → Bool) (G : ZCont) (R : ZRtn) (T : ZTT) (Z : Nat → ZCont) : Prop := ∀ (f pc : Nat) (L : ZLV) (st : List Value) (σ : ZHp) (n k w : Nat), Z (f + 1) pc L st σ n k w = tb pc L st σ n k w (zk1 cut G (Z f)) G R T
theorem zrs {tb : Nat → ZStep} {cut : Nat → Bool} {G : ZCont} {R : ZRtn} {T : ZTT} {Z : Nat → ZCont} {pc : Nat} {S : ZStep} (hZ : ZRN tb cut G R T Z) (h : tb pc = S) : ∀ (f : Nat) (L : ZLV) (st : List Value) (σ : ZHp) (n k w : Nat), Z (f + 1) pc L st σ n k w = S L st σ n k w (zk1 cut G (Z f)) G R T := by
  subst h
  intro f L st σ n k w
  exact hZ f pc L st σ n k w
theorem zrun_okZ {E : ZEX} {X : ZMX} {M : ZMY} {mc ms : Nat} {P : ZPT} {T : ZTT} {tb : Nat → ZStep} (hrow : ∀ pc, ZRow E X M mc ms P T pc (tb pc)) (cut : Nat → Bool) (f pc : Nat) (L : ZLV) (st : List Value) (σ : ZHp) (n k w : Nat) (h : ∀ Z : Nat → ZCont, ZRN tb cut (ZG E X M) (ZRt P mc ms) T Z → Z f pc L st σ n k w) : ZG E X M pc L st σ n k w :=
  zrun_ok hrow cut f pc L st σ n k w (h (zrun tb cut (ZG E X M) (ZRt P mc ms) T) (fun f pc L st σ n k w => by rw [← zk1_f]; rfl))
theorem zv_cat (x : Int32) : (Value.int x).category = 1 := rfl
/-- the answer is v, the heap is σ, of n cells -/
def zp (v : Value) (σ : ZHp) (n : Nat) : ZPT := fun v' σ' n' => v' = some v ∧ σ' = σ ∧ n' = n
def zp0 (σ : ZHp) (n : Nat) : ZPT := fun v' σ' n' => v' = none ∧ σ' = σ ∧ n' = n
theorem zcall_p {E : ZEX} {d mc ms : Nat} {Mc : ZMY} {av : List Value} {σ σ1 : ZHp} {n n1 k w d' mc' ms' : Nat} {v : Value} {Kn : Option Value → ZHp → Nat → Nat → Nat → Prop} (hs : ZSpec E Mc d' mc' ms' av σ n (zp v σ1 n1)) (hk : Kn (some v) σ1 n1 (k + mc') (w + ms')) (h1 : d' < d := by omega) (h2 : k + mc' ≤ mc := by omega) (h3 : w + ms' ≤ ms := by omega) : zcall E d mc ms Mc av σ n k w Kn := ⟨d', mc', ms', _, hs, h1, h2, h3, fun v' σ' n' ⟨e1, e2, e3⟩ => by subst e1 e2 e3; exact hk⟩
theorem zcall_0 {E : ZEX} {d mc ms : Nat} {Mc : ZMY} {av : List Value} {σ σ1 : ZHp} {n n1 k w d' mc' ms' : Nat} {Kn : Option Value → ZHp → Nat → Nat → Nat → Prop} (hs : ZSpec E Mc d' mc' ms' av σ n (zp0 σ1 n1)) (hk : Kn none σ1 n1 (k + mc') (w + ms')) (h1 : d' < d := by omega) (h2 : k + mc' ≤ mc := by omega) (h3 : w + ms' ≤ ms := by omega) : zcall E d mc ms Mc av σ n k w Kn := ⟨d', mc', ms', _, hs, h1, h2, h3, fun v' σ' n' ⟨e1, e2, e3⟩ => by subst e1 e2 e3; exact hk⟩
/-- a contract of any post -/
theorem zcall_q {E : ZEX} {d mc ms : Nat} {Mc : ZMY} {av : List Value} {σ : ZHp} {n k w d' mc' ms' : Nat} {P' : ZPT} {Kn : Option Value → ZHp → Nat → Nat → Nat → Prop} (hs : ZSpec E Mc d' mc' ms' av σ n P') (hk : ∀ v σ' n', P' v σ' n' → Kn v σ' n' (k + mc') (w + ms')) (h1 : d' < d := by omega) (h2 : k + mc' ≤ mc := by omega) (h3 : w + ms' ≤ ms := by omega) : zcall E d mc ms Mc av σ n k w Kn := ⟨d', mc', ms', P', hs, h1, h2, h3, hk⟩
theorem zlt_of {x : Int32} {m : Nat} (hm : m < 2 ^ 31) (h0 : ¬ x < 0) (h1 : ¬ nI m ≤ x) : ∃ j : Nat, j < m ∧ x = nI j := by
  rcases pk_ix x hm with h | h | h
  · exact absurd h h0
  · exact absurd h h1
  · exact h
theorem zin_of {x : Int32} {m : Nat} (hm : m < 2 ^ 31) (h0 : ¬ x < 0) (h1 : ¬ nI m ≤ x) : vp_in x m := by
  obtain ⟨j, hj, rfl⟩ := zlt_of hm h0 h1
  exact vp_in_nI hj hm
theorem zin_neg {x : Int32} {m : Nat} (h : x < 0) : ¬ vp_in x m := fun q => q (Or.inl h)
theorem zin_big {x : Int32} {m : Nat} (hm : m < 2 ^ 31) (h : nI m ≤ x) : ¬ vp_in x m := fun q => by
  obtain ⟨j, hj, rfl⟩ := vp_in_of q hm
  rw [nI_leI hm (by omega)] at h
  omega
theorem zup_id {σ : ZHp} {a : Nat} {e : va_E} (h : σ a = some e) : zup σ a e = σ := by
  funext b
  by_cases hb : b = a
  · subst hb; rw [zup_s, h]
  · rw [zup_n hb]
theorem zup_up {σ : ZHp} {a : Nat} {e f : va_E} : zup (zup σ a e) a f = zup σ a f := by
  funext b
  by_cases hb : b = a
  · subst hb; rw [zup_s, zup_s]
  · rw [zup_n hb, zup_n hb, zup_n hb]
theorem zup_cm {σ : ZHp} {a b : Nat} {e f : va_E} (h : a ≠ b) : zup (zup σ a e) b f = zup (zup σ b f) a e := by
  funext c
  by_cases hc : c = b
  · subst hc; rw [zup_s, zup_n (fun e => h e.symm), zup_s]
  · rw [zup_n hc]
    by_cases hc2 : c = a
    · subst hc2; rw [zup_s, zup_s]
    · rw [zup_n hc2, zup_n hc2, zup_n hc]
