/-! a day: whole rounds in the class -/
theorem dOk_p {σ : pS} (C : RCro σ) {p : Int} (hp : 0 ≤ p ∧ p < 10) : rd σ 48 p = rd σ 121 p ∧ 0 ≤ rd σ 121 p ∧ rd σ 121 p ≤ 6 ∧ ∀ j : Int, 0 ≤ j → j < rd σ 121 p → rd σ 47 (p * 6 + j) = vOuter (rV σ p j) ∧ wyS σ (rV σ p j) = true ∧ rd σ 77 (rV σ p j) = p := C.2.2.2.2.1 p hp.1 hp.2
/-- snow is in range -/
def dSn (σ : pS) (S : Int → Int → Int) : Prop := ∀ w : Int, 6 ≤ w → wyS σ w = true → 0 ≤ S 127 (w - 6) ∧ S 127 (w - 6) ≤ 400000
theorem tk_C {d : Nat} {σ τ : pS} (hd : 2 ≤ d) (S : Stat σ) (L : RSlo σ) (C : RCro σ) {k m p j : Int} {D : Int → Int → Int} (h : CX σ k τ) (hp : 0 ≤ p ∧ p < 10) (hm : 0 ≤ m ∧ m < 480) (hD : DRow σ m D τ) (hS : dSn σ D) (hj : 0 ≤ j ∧ j < rd σ 121 p) : rd τ 47 (p * 6 + j) = vOuter (rV σ p j) ∧ pC mX1_isTakeable d [(2, 50), (0, vOuter (rV σ p j)), (0, m)] τ (fun r υ => r = some (0, b2i (vTk τ (vOuter (rV σ p j)) m)) ∧ υ = τ) ∧ vTk τ (vOuter (rV σ p j)) m = rC σ k m p D j := by
  have c := (dOk_p C hp).2.2.2 j hj.1 hj.2
  have t := isTakeable_C hd S L h c.2.1 hm hD (fun w6 => by have := hS _ w6 c.2.1; unfold inR; omega)
  exact ⟨(h.2 _ _ (by omega) (by omega)).trans c.1, t.1, t.2⟩
def kSeek (σ : pS) (k m p : Int) (D : Int → Int → Int) (fr st : Int) : Int := match dSeek (fun n => rC σ k m p D ((fr + n * st) % rd σ 121 p)) (rd σ 121 p).toNat 0 with
  | none => -1
  | some n => (fr + n * st) % rd σ 121 p
theorem takeable_C {d : Nat} {σ τ : pS} (hd : 3 ≤ d) (S : Stat σ) (L : RSlo σ) (C : RCro σ) {k m p fr st : Int} {D : Int → Int → Int} (h : CX σ k τ) (hp : 0 ≤ p ∧ p < 10) (hm : 0 ≤ m ∧ m < 480) (hD : DRow σ m D τ) (hS : dSn σ D) (hf : 0 ≤ fr ∧ fr < 1000) (hst : 0 ≤ st ∧ st < 1000 ∨ rd σ 121 p = 0) : pC mX1_takeable d [(2, 50), (0, p), (0, fr), (0, st), (0, m)] τ (fun r υ => r = some (0, kSeek σ k m p D fr st) ∧ υ = τ) := by
  have S2 := h.1.st S
  have cp := dOk_p C hp
  have e48 : rd τ 48 p = rd σ 121 p := (h.2 _ _ (by omega) (by omega)).trans cp.1
  refine g_X1_takeable_0 hd S2 p fr st m hp ?_
  rw [e48]
  have loop : ∀ (n : Nat) (x : Int) (u7 : pV), u7.1 ≠ 1 → 0 ≤ x → x + n = rd σ 121 p → pR mX1_takeable d 14 [(2, 50), (0, p), (0, fr), (0, st), (0, m), (0, rd σ 121 p), (0, x), u7] [] τ (fun r υ => r = some (0, match dSeek (fun n => rC σ k m p D ((fr + n * st) % rd σ 121 p)) n x with | none => -1 | some n => (fr + n * st) % rd σ 121 p) ∧ υ = τ) := fun n => by
    induction n with
    | zero =>
      intro x u7 hu x0 x1
      exact g_X1_takeable_14 hd S2 p fr st m (rd σ 121 p) x u7 hu (by unfold inR; omega) (by unfold inR; omega) (fun _ => ⟨rfl, rfl⟩) (fun c => by omega) (fun c => by omega) (fun c => by omega) (fun c => by omega) (fun c => by omega) (fun c => by omega)
    | succ n ih =>
      intro x u7 hu x0 x1
      have pos : 0 < rd σ 121 p := by omega
      have st0 : 0 ≤ st ∧ st < 1000 := by omega
      have m0 := Int.emod_nonneg (fr + x * st) (b := rd σ 121 p) (by omega)
      have m1 := Int.emod_lt_of_pos (fr + x * st) pos
      have pr : 0 ≤ x * st ∧ x * st ≤ 6 * 1000 := ⟨Int.mul_nonneg x0 st0.1, Int.mul_le_mul (by omega) (by omega) st0.1 (by omega)⟩
      have t := tk_C (Nat.le_refl 2) S L C h hp hm hD hS ⟨m0, m1⟩
      refine g_X1_takeable_14 hd S2 p fr st m (rd σ 121 p) x u7 hu (by unfold inR; omega) (by unfold inR; omega) (fun c => by omega) (fun _ => by omega) (fun _ => by omega) (fun _ => by omega) (fun _ => by rw [t.1]; exact t.2.1) (fun _ c3 => ?_) (fun _ c4 => ?_)
      · rw [t.1, t.2.2] at c3
        have := ih (x + 1) (0, (fr + x * st) % rd σ 121 p) (show (0 : Nat) ≠ 1 by decide) (by omega) (by omega)
        unfold dSeek
        rw [if_neg (by rw [c3]; decide)]
        exact this
      · rw [t.1, t.2.2] at c4
        refine ⟨?_, rfl⟩
        unfold dSeek
        rw [if_pos c4]
  exact loop (rd σ 121 p).toNat 0 (9, 0) (by decide) (by omega) (by omega)
/-- how many rounds a way lasts -/
def rLast (σ : pS) (p : Int) (D : Int → Int → Int) (w : Int) : Int := if w < 6 then 1000000 else if rTimes σ p (rd σ 121 p).toNat w = 0 then 1000000 else (D 127 (w - 6) - 10 + 1) / rTimes σ p (rd σ 121 p).toNat w
theorem rTimes_R {σ : pS} {p w : Int} : ∀ s : Nat, 0 ≤ rTimes σ p s w ∧ rTimes σ p s w ≤ s
  | 0 => ⟨Int.le_refl _, Int.le_refl _⟩
  | s + 1 => by
    have := rTimes_R (σ := σ) (p := p) (w := w) s
    have e : rTimes σ p (s + 1) w = rTimes σ p s w + (if rV σ p (s : Int) = w then 1 else 0) := rfl
    rw [e]
    split <;> omega
theorem roundsOf_C {d : Nat} {σ τ : pS} (S : Stat σ) (L : RSlo σ) (C : RCro σ) {k m p j : Int} {D : Int → Int → Int} (h : CX σ k τ) (hp : 0 ≤ p ∧ p < 10) (hm : 0 ≤ m ∧ m < 480) (hD : DRow σ m D τ) (hS : dSn σ D) (hj : 0 ≤ j ∧ j < rd σ 121 p) (hc : rC σ k m p D j = true) : pC mX1_roundsOf d [(2, 50), (0, p), (0, vOuter (rV σ p j))] τ (fun r υ => r = some (0, rLast σ p D (rV σ p j)) ∧ υ = τ) := by
  have S2 := h.1.st S
  have cp := dOk_p C hp
  have c := cp.2.2.2 j hj.1 hj.2
  have b1 := L.2.2.2.1.2
  have b2 := L.2.2.2.2.2.1.2
  have o := vOuter_of c.2.1 b1 b2
  have tw := vWay_t c.2.1
  have e48 : rd τ 48 p = rd σ 121 p := (h.2 _ _ (by omega) (by omega)).trans cp.1
  have loop : 6 ≤ rV σ p j → ∀ (n t : Nat), (t : Int) + n = rd σ 121 p → pR mX1_roundsOf d 14 [(2, 50), (0, p), (0, vOuter (rV σ p j)), (0, rTimes σ p t (rV σ p j)), (0, (t : Int))] [] τ (fun r υ => r = some (0, rLast σ p D (rV σ p j)) ∧ υ = τ) := fun w6 n => by
    have e60 : rd τ 60 (vOuter (rV σ p j)) = D 127 (rV σ p j - 6) := by
      rw [show vOuter (rV σ p j) = 10 + (rV σ p j - 6) by unfold vOuter; rw [if_neg (by omega)]; omega]
      exact (hD.2.1 _ (by omega) (by omega)).1
    have sn : 10 ≤ D 127 (rV σ p j - 6) := by
      unfold rC dCan at hc
      simp only [Bool.and_eq_true, decide_eq_true_eq] at hc
      omega
    have sr := hS _ w6 c.2.1
    induction n with
    | zero =>
      intro t ht
      have rt := rTimes_R (σ := σ) (p := p) (w := rV σ p j) t
      have et : (rd σ 121 p).toNat = t := by omega
      refine g_X1_roundsOf_14 (Nat.zero_le d) S2 p _ _ _ hp (by unfold inR; omega) (by rw [e48]; unfold inR; omega) (fun _ => by unfold inR; omega) (fun _ _ => ⟨o.1, o.2.1⟩) (fun _ _ => by rw [e60]; omega) (fun _ _ => by omega) (fun _ c3 => ⟨?_, rfl⟩) (fun _ c4 => ⟨?_, rfl⟩) (fun c2 => by rw [e48] at c2; omega) (fun c2 => by rw [e48] at c2; omega) (fun c2 => by rw [e48] at c2; omega) (fun c2 => by rw [e48] at c2; omega) (fun c2 => by rw [e48] at c2; omega)
      · unfold rLast
        rw [if_neg (by omega), et, if_neg c3, e60]
      · unfold rLast
        rw [if_neg (by omega), et, if_pos c4]
    | succ n ih =>
      intro t ht
      have rt := rTimes_R (σ := σ) (p := p) (w := rV σ p j) t
      have ct := cp.2.2.2 t (by omega) (by omega)
      have ot := vOuter_of ct.2.1 b1 b2
      have tt := vWay_t ct.2.1
      have e47 : rd τ 47 (p * 6 + (t : Int)) = vOuter (rV σ p t) := (h.2 _ _ (by omega) (by omega)).trans ct.1
      have nx := ih (t + 1) (by omega)
      have es : rTimes σ p (t + 1) (rV σ p j) = rTimes σ p t (rV σ p j) + (if rV σ p (t : Int) = rV σ p j then 1 else 0) := rfl
      refine g_X1_roundsOf_14 (Nat.zero_le d) S2 p _ _ _ hp (by unfold inR; omega) (by rw [e48]; unfold inR; omega) (fun c => by rw [e48] at c; omega) (fun c => by rw [e48] at c; omega) (fun c => by rw [e48] at c; omega) (fun c => by rw [e48] at c; omega) (fun c => by rw [e48] at c; omega) (fun c => by rw [e48] at c; omega) (fun _ => by omega) (fun _ => by rw [e47]; unfold inR; omega) (fun _ => by unfold inR; omega) (fun _ c5 => ?_) (fun _ c6 => ?_)
      · rw [e47] at c5
        rw [es, if_neg (fun z => c5 (by rw [z]))] at nx
        exact nx
      · rw [e47] at c6
        rw [es, if_pos (vOuter_inj c6 (by omega) (by omega))] at nx
        exact nx
  refine g_X1_roundsOf_0 (Nat.zero_le d) S2 p _ (by unfold inR; omega) (fun c1 => ?_) (fun c2 => ⟨?_, rfl⟩)
  · have := loop (by have := o.2.2.2; omega) (rd σ 121 p).toNat 0 (by omega)
    exact this
  · unfold rLast
    rw [if_pos (o.2.2.2.mpr c2)]
