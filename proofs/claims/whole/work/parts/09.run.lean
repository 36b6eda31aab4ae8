/-! RUNNING: one step at a time; answers that are one value; calls of such -/
def zk1 (tb : Nat → ZStep) (cut : Nat → Bool) (G : ZCont) (R : ZRtn) (T : ZTT) (f : Nat) (pc : Nat) (L : ZLV) (st : List Value) (σ : ZHp) (n k w : Nat) : Prop := bif cut pc then G pc L st σ n k w else zrun tb cut G R T f pc L st σ n k w
theorem zrs {tb : Nat → ZStep} {cut : Nat → Bool} {G : ZCont} {R : ZRtn} {T : ZTT} {f pc : Nat} {L : ZLV} {st : List Value} {σ : ZHp} {n k w : Nat} {S : ZStep} (h : tb pc = S) : zrun tb cut G R T (f + 1) pc L st σ n k w = S L st σ n k w (zk1 tb cut G R T f) G R T := by subst h; rfl
theorem zv_cat (x : Int32) : (Value.int x).category = 1 := rfl
/-- the answer is v, the heap is σ, of n cells -/
def zp (v : Value) (σ : ZHp) (n : Nat) : ZPT := fun v' σ' n' => v' = some v ∧ σ' = σ ∧ n' = n
def zp0 (σ : ZHp) (n : Nat) : ZPT := fun v' σ' n' => v' = none ∧ σ' = σ ∧ n' = n
theorem zcall_p {E : ZEX} {d mc ms : Nat} {Mc : ZMY} {av : List Value} {σ σ1 : ZHp} {n n1 k w d' mc' ms' : Nat} {v : Value} {Kn : Option Value → ZHp → Nat → Nat → Nat → Prop} (hs : ZSpec E Mc d' mc' ms' av σ n (zp v σ1 n1)) (hk : Kn (some v) σ1 n1 (k + mc') (w + ms')) (h1 : d' < d := by omega) (h2 : k + mc' ≤ mc := by omega) (h3 : w + ms' ≤ ms := by omega) : zcall E d mc ms Mc av σ n k w Kn := ⟨d', mc', ms', _, hs, h1, h2, h3, fun v' σ' n' ⟨e1, e2, e3⟩ => by subst e1 e2 e3; exact hk⟩
theorem zcall_0 {E : ZEX} {d mc ms : Nat} {Mc : ZMY} {av : List Value} {σ σ1 : ZHp} {n n1 k w d' mc' ms' : Nat} {Kn : Option Value → ZHp → Nat → Nat → Nat → Prop} (hs : ZSpec E Mc d' mc' ms' av σ n (zp0 σ1 n1)) (hk : Kn none σ1 n1 (k + mc') (w + ms')) (h1 : d' < d := by omega) (h2 : k + mc' ≤ mc := by omega) (h3 : w + ms' ≤ ms := by omega) : zcall E d mc ms Mc av σ n k w Kn := ⟨d', mc', ms', _, hs, h1, h2, h3, fun v' σ' n' ⟨e1, e2, e3⟩ => by subst e1 e2 e3; exact hk⟩
/-- a contract of any post -/
theorem zcall_q {E : ZEX} {d mc ms : Nat} {Mc : ZMY} {av : List Value} {σ : ZHp} {n k w d' mc' ms' : Nat} {P' : ZPT} {Kn : Option Value → ZHp → Nat → Nat → Nat → Prop} (hs : ZSpec E Mc d' mc' ms' av σ n P') (hk : ∀ v σ' n', P' v σ' n' → Kn v σ' n' (k + mc') (w + ms')) (h1 : d' < d := by omega) (h2 : k + mc' ≤ mc := by omega) (h3 : w + ms' ≤ ms := by omega) : zcall E d mc ms Mc av σ n k w Kn := ⟨d', mc', ms', P', hs, h1, h2, h3, hk⟩
theorem zlt_of {x : Int32} {m : Nat} (hm : m < 2 ^ 31) (h0 : ¬ x < 0) (h1 : ¬ nI m ≤ x) : ∃ j : Nat, j < m ∧ x = nI j := by
  rcases pk_ix x hm with h | h | h
  · exact absurd h h0
  · exact absurd h h1
  · exact h
theorem zin_of {x : Int32} {m : Nat} (hm : m < 2 ^ 31) (h0 : ¬ x < 0) (h1 : ¬ nI m ≤ x) : vp_in x m := by
  obtain ⟨j, hj, rfl⟩ := zlt_of hm h0 h1
  exact vp_in_nI hj hm
theorem zin_neg {x : Int32} {m : Nat} (h : x < 0) : ¬ vp_in x m := fun q => q (Or.inl h)
theorem zin_big {x : Int32} {m : Nat} (hm : m < 2 ^ 31) (h : nI m ≤ x) : ¬ vp_in x m := fun q => by
  obtain ⟨j, hj, rfl⟩ := vp_in_of q hm
  rw [nI_leI hm (by omega)] at h
  omega
theorem zup_id {σ : ZHp} {a : Nat} {e : va_E} (h : σ a = some e) : zup σ a e = σ := by
  funext b
  by_cases hb : b = a
  · subst hb; rw [zup_s, h]
  · rw [zup_n hb]
theorem zup_up {σ : ZHp} {a : Nat} {e f : va_E} : zup (zup σ a e) a f = zup σ a f := by
  funext b
  by_cases hb : b = a
  · subst hb; rw [zup_s, zup_s]
  · rw [zup_n hb, zup_n hb, zup_n hb]
theorem zup_cm {σ : ZHp} {a b : Nat} {e f : va_E} (h : a ≠ b) : zup (zup σ a e) b f = zup (zup σ b f) a e := by
  funext c
  by_cases hc : c = b
  · subst hc; rw [zup_s, zup_n (fun e => h e.symm), zup_s]
  · rw [zup_n hc]
    by_cases hc2 : c = a
    · subst hc2; rw [zup_s, zup_s]
    · rw [zup_n hc2, zup_n hc2, zup_n hc]
