/-! the class's ways: rounds of bettering; the soonest minute, the last minutes -/
theorem CV.q {σ τ υ : pS} {k a : Int} (h : CV σ k τ) (L : RSlo σ) (q : qRow τ υ a) (ha : 40 ≤ a ∧ a ≤ 67) : CV σ k υ := by
  have l0 := L.1
  exact ⟨q.1.trans h.1, fun b j b0 b1 => (q.2 b j (by omega)).trans (h.2.1 b j b0 b1), h.2.2.at (q.2 _ _ (by omega)) (fun b j b0 b1 => q.2 _ _ (by omega))⟩
theorem CV.ends {σ τ : pS} {k w : Int} (h : CV σ k τ) (L : RSlo σ) (hw : wyS σ w = true) : rd τ (rd τ 35 4 + 2) (vOuter w) = rd σ 77 w ∧ rd τ (rd τ 35 4 + 3) (vOuter w) = rd σ 78 w ∧ 0 ≤ rd σ 77 w ∧ rd σ 77 w < 10 ∧ 0 ≤ rd σ 78 w ∧ rd σ 78 w < 10 := by
  have m := L.2.2.2.2.2.2.2.2.2.1 w hw
  rw [h.row (by omega), h.row (by omega)]
  exact ⟨m.1, m.2.2.2.1, m.2.1, m.2.2.1, m.2.2.2.2.1, m.2.2.2.2.2.1⟩
theorem qRow.rf (σ : pS) (a : Int) : qRow σ σ a := ⟨rfl, fun _ _ _ => rfl⟩
theorem i_or_b0 (b : Bool) : i_or (b2i b) 0 = b2i b := by cases b <;> decide
theorem i_or_b1 (b : Bool) : i_or (b2i b) 1 = b2i true := by cases b <;> decide
/-- how many ways stand ahead of an outer number -/
def cw (j : Nat) : Nat := if j < 6 then j else if j < 10 then 6 else j - 4
theorem cw_eq (j : Nat) : (j < 6 → cw j = j) ∧ (6 ≤ j ∧ j < 10 → cw j = 6) ∧ (10 ≤ j → cw j = j - 4) := by
  unfold cw
  refine ⟨fun h => if_pos h, fun h => ?_, fun h => ?_⟩
  · rw [if_neg (by omega), if_pos h.2]
  · rw [if_neg (by omega), if_neg (by omega)]
theorem cw_no {a b : Int} (ha : a ≤ 6) (hb : b ≤ 7) {j : Nat} (hj : j < 17) (h : vHas a b (j : Int) = false) : cw (j + 1) = cw j ∨ (cw (j + 1) = cw j + 1 ∧ vWay a b ((cw j : Nat) : Int) = false) := by
  have h := vHas_f h
  have e1 := cw_eq j
  have e2 := cw_eq (j + 1)
  by_cases c : 6 ≤ j ∧ j < 10
  · left; omega
  · right
    refine ⟨by omega, ?_⟩
    unfold vWay
    exact decide_eq_false (by omega)
theorem cw_yes {a b : Int} (ha : a ≤ 6) (hb : b ≤ 7) {j : Nat} (h : vHas a b (j : Int) = true) : cw (j + 1) = cw j + 1 ∧ vWay a b ((cw j : Nat) : Int) = true ∧ vOuter ((cw j : Nat) : Int) = (j : Int) ∧ cw j < 13 := by
  have h := vHas_t h
  have e1 := cw_eq j
  have e2 := cw_eq (j + 1)
  refine ⟨by omega, ?_, ?_, by omega⟩
  · unfold vWay; exact decide_eq_true (by omega)
  · unfold vOuter; split <;> omega
theorem b2i_t' {v : Int} {b : Bool} (h : v = b2i b) (c : v ≠ 0) : b = true := b2i_ne0.mp (h ▸ c)
theorem b2i_f' {v : Int} {b : Bool} (h : v = b2i b) (c : v = 0) : b = false := b2i_eq0.mp (h ▸ c)
theorem vHas_lt {a b w : Int} (ha : a ≤ 6) (hb : b ≤ 7) (h : vHas a b w = true) : 0 ≤ w ∧ w < 17 := by have := vHas_t h; omega
section
variable {wy : Int → Bool} {fr to : Int → Int} {F G : Int → Int → Int}
theorem rlx_no {A : Int → Int} {w : Int} (h : ¬ (A (fr w) ≠ 1000000 ∧ F w (A (fr w)) ≠ -1 ∧ F w (A (fr w)) < A (to w))) : rCond wy fr to F A w = false ∧ ∀ q, rlx wy fr to F A w q = A q := by
  have e : rCond wy fr to F A w = false := by unfold rCond; rw [decide_eq_false h, Bool.and_false]
  refine ⟨e, fun q => ?_⟩
  unfold rlx
  rw [if_neg (fun z => by rw [e] at z; cases z.1)]
theorem rlx_yes {A : Int → Int} {w : Int} (hw : wy w = true) (h : A (fr w) ≠ 1000000 ∧ F w (A (fr w)) ≠ -1 ∧ F w (A (fr w)) < A (to w)) : rCond wy fr to F A w = true ∧ ∀ q, rlx wy fr to F A w q = if q = to w then F w (A (fr w)) else A q := by
  have e : rCond wy fr to F A w = true := by unfold rCond; rw [decide_eq_true h, hw]; rfl
  refine ⟨e, fun q => ?_⟩
  unfold rlx
  by_cases c : q = to w
  · rw [if_pos ⟨e, c⟩, if_pos c]
  · rw [if_neg (fun z => c z.2), if_neg c]
theorem rPass_skip {A : Int → Int} {n : Nat} (h : wy (n : Int) = false) : rPass wy fr to F A (n + 1) = rPass wy fr to F A n ∧ rCh wy fr to F A (n + 1) = rCh wy fr to F A n := by
  have e : rCond wy fr to F (rPass wy fr to F A n) (n : Int) = false := by unfold rCond; rw [h, Bool.false_and]
  constructor
  · funext q
    show rlx wy fr to F (rPass wy fr to F A n) (n : Int) q = _
    unfold rlx
    rw [if_neg (fun z => by rw [e] at z; cases z.1)]
  · show (rCh wy fr to F A n || rCond wy fr to F (rPass wy fr to F A n) (n : Int)) = _
    rw [e, Bool.or_false]
theorem rAtt0 (p m : Int) : rAtt wy fr to F p m (fun q => if q = p then m else 1000000) := fun q => by
  by_cases c : q = p
  · subst c; exact Or.inr ⟨[], rfl, (if_pos rfl).symm⟩
  · exact Or.inl (if_neg c)
theorem blx_no {A : Int → Int} {w : Int} (h : ¬ (A (to w) ≠ -1 ∧ A (fr w) < G w (A (to w)))) : bCond wy fr to G A w = false ∧ ∀ q, blx wy fr to G A w q = A q := by
  have e : bCond wy fr to G A w = false := by unfold bCond; rw [decide_eq_false h, Bool.and_false]
  refine ⟨e, fun q => ?_⟩
  unfold blx
  rw [if_neg (fun z => by rw [e] at z; cases z.1)]
theorem blx_yes {A : Int → Int} {w : Int} (hw : wy w = true) (h : A (to w) ≠ -1 ∧ A (fr w) < G w (A (to w))) : bCond wy fr to G A w = true ∧ ∀ q, blx wy fr to G A w q = if q = fr w then G w (A (to w)) else A q := by
  have e : bCond wy fr to G A w = true := by unfold bCond; rw [decide_eq_true h, hw]; rfl
  refine ⟨e, fun q => ?_⟩
  unfold blx
  by_cases c : q = fr w
  · rw [if_pos ⟨e, c⟩, if_pos c]
  · rw [if_neg (fun z => c z.2), if_neg c]
theorem bPass_skip {A : Int → Int} {n : Nat} (h : wy (n : Int) = false) : bPass wy fr to G A (n + 1) = bPass wy fr to G A n ∧ bCh wy fr to G A (n + 1) = bCh wy fr to G A n := by
  have e : bCond wy fr to G (bPass wy fr to G A n) (n : Int) = false := by unfold bCond; rw [h, Bool.false_and]
  constructor
  · funext q
    show blx wy fr to G (bPass wy fr to G A n) (n : Int) q = _
    unfold blx
    rw [if_neg (fun z => by rw [e] at z; cases z.1)]
  · show (bCh wy fr to G A n || bCond wy fr to G (bPass wy fr to G A n) (n : Int)) = _
    rw [e, Bool.or_false]
theorem bAtt.pos (g : gOk wy fr to F) {t b : Int} {a : Int → Int} (h : bAtt wy fr to F t b a) (q : Int) : -1 ≤ a q ∧ (a q ≤ b ∨ a q = -1) := by
  rcases h q with e | ⟨e, ws, s, e1, e2⟩
  · omega
  · have := tRun_le g e e2
    omega
end
def rowIs (τ : pS) (a : Int) (A : Int → Int) : Prop := ∀ q : Int, 0 ≤ q → q < 10 → rd τ a q = A q
theorem earl_C {d : Nat} {σ τ : pS} (hd : 4 ≤ d) (S : Stat σ) (L : RSlo σ) {k : Int} (h : CV σ k τ) {w sk : Int} (hw : wyS σ w = true) (hs : 0 ≤ sk ∧ sk < 4) {A : Int → Int} (hA : rowIs τ 41 A) (hB : ∀ q : Int, 0 ≤ A q ∧ (A q ≤ 540 ∨ A q = 1000000)) : pC mX4_comesEarlier d [(2, 40), (0, vOuter w), (0, sk)] τ (fun r υ => r = some (0, b2i (rCond (wyS σ) (rd σ 77) (rd σ 78) (FS σ k sk) A w)) ∧ qRow τ υ 41 ∧ rowIs υ 41 (rlx (wyS σ) (rd σ 77) (rd σ 78) (FS σ k sk) A w)) := by
  have o := vOuter_of hw L.2.2.2.1.2 L.2.2.2.2.2.1.2
  obtain ⟨e1, e2, e3, e4, e5, e6⟩ := h.ends L hw
  have S2 := h.st S
  have a1 := hA (rd σ 77 w) e3 e4
  have a2 := hA (rd σ 78 w) e5 e6
  have b1 := hB (rd σ 77 w)
  have b2 := hB (rd σ 78 w)
  have bh : vBehind τ (vOuter w) sk (A (rd σ 77 w)) = FS σ k sk w (A (rd σ 77 w)) := h.behind L hw hs b1.1
  have fR := FS_R L (k := k) (m := A (rd σ 77 w)) hw hs b1.1
  have l0 := L.1
  have no : ¬ (A (rd σ 77 w) ≠ 1000000 ∧ FS σ k sk w (A (rd σ 77 w)) ≠ -1 ∧ FS σ k sk w (A (rd σ 77 w)) < A (rd σ 78 w)) → some ((0 : Nat), (0 : Int)) = some (0, b2i (rCond (wyS σ) (rd σ 77) (rd σ 78) (FS σ k sk) A w)) ∧ qRow τ τ 41 ∧ rowIs τ 41 (rlx (wyS σ) (rd σ 77) (rd σ 78) (FS σ k sk) A w) := fun c => by
    obtain ⟨y1, y2⟩ := rlx_no (wy := wyS σ) c
    exact ⟨by rw [y1]; rfl, qRow.rf τ 41, fun q q0 q1 => by rw [y2, hA q q0 q1]⟩
  refine g_X4_comesEarlier_0 hd S2 (vOuter w) sk (by rw [h.s4]; omega) (h.i6 L) ⟨o.1, o.2.1⟩ (by rw [e1]; exact ⟨e3, e4⟩) (by rw [e1, a1]; unfold inR; omega) (fun c => ?_) (fun c => ?_) (fun c c3 => ?_) (fun _ _ => by rw [e2]; exact ⟨e5, e6⟩) (fun _ _ => by rw [e2, a2]; unfold inR; omega) (fun c c4 c5 => ?_) (fun c c4 c6 => ?_) (fun c => ?_)
  · rw [e1, a1]
    refine behind_C (Nat.le_refl 3) S L h ⟨o.1, o.2.1⟩ hs ⟨b1.1, by omega⟩ ?_
    rw [h.fo L hw b1.1]
    have := nextOpen_spec L (k := k) hw b1.1
    unfold inR; omega
  · rw [e1, a1, bh]; unfold inR; omega
  · rw [e1, a1, bh] at c3
    exact no (fun z => z.2.1 c3)
  · rw [e1, a1, bh] at c4
    rw [e1, e2, a1, a2, bh] at c5
    rw [e1, a1] at c
    rw [e1, e2, a1, bh]
    obtain ⟨y1, y2⟩ := rlx_yes (A := A) hw ⟨c, c4, c5⟩
    refine ⟨by rw [y1]; rfl, (qRow.rf τ 41).wr, fun q q0 q1 => ?_⟩
    rw [y2]
    by_cases z : q = rd σ 78 w
    · rw [if_pos z, z, rd_wr_same]
    · rw [if_neg z, rd_wr_i _ z, hA q q0 q1]
  · rw [e1, e2, a1, a2, bh] at c6
    exact no (fun z => by omega)
  · rw [e1, a1] at c
    exact no (fun z => z.1 c)
theorem fst_in {d : Nat} {σ τ0 : pS} {Q : Option pV → pS → Prop} (hd : 5 ≤ d) (S : Stat σ) (L : RSlo σ) {k sk : Int} (hs : 0 ≤ sk ∧ sk < 4) {x2 x3 x4 x6 p m : Int} {B : Int → Int} (hm : 0 ≤ m ∧ m ≤ 540) (hB : rAtt (wyS σ) (rd σ 77) (rd σ 78) (FS σ k sk) p m B)
    (K : ∀ υ : pS, CV σ k υ → qRow τ0 υ 41 → rowIs υ 41 (rPass (wyS σ) (rd σ 77) (rd σ 78) (FS σ k sk) B 13) → pR mX4_firstMinuteAt d 22 [(2, 40), (0, sk), (0, x2), (0, x3), (0, x4), (0, b2i (rCh (wyS σ) (rd σ 77) (rd σ 78) (FS σ k sk) B 13)), (0, x6 + 1), (0, 17)] [] υ Q) :
    ∀ (n j : Nat) (τ : pS), j + n = 17 → CV σ k τ → qRow τ0 τ 41 → rowIs τ 41 (rPass (wyS σ) (rd σ 77) (rd σ 78) (FS σ k sk) B (cw j)) → pR mX4_firstMinuteAt d 40 [(2, 40), (0, sk), (0, x2), (0, x3), (0, x4), (0, b2i (rCh (wyS σ) (rd σ 77) (rd σ 78) (FS σ k sk) B (cw j))), (0, x6), (0, (j : Int))] [] τ Q := by
  have ok := FS_ok L k hs
  intro n
  induction n with
  | zero =>
    intro j τ hj h q i
    have e : j = 17 := by omega
    subst e
    exact g_X4_firstMinuteAt_40 (Q1 := fun _ _ => True) hd (h.st S) sk x2 x3 x4 _ x6 _ (by decide) (fun _ => K τ h q i) (fun c => by omega) (fun c => by omega) (fun c => by omega) (fun c => by omega) (fun c => by omega) (fun c => by omega) (fun c => by omega)
  | succ n ih =>
    intro j τ hj h q i
    have l3 := L.2.2.2.1
    have l5 := L.2.2.2.2.2.1
    refine g_X4_firstMinuteAt_40 (Q1 := fun r υ => r = some (0, b2i (rCond (wyS σ) (rd σ 77) (rd σ 78) (FS σ k sk) (rPass (wyS σ) (rd σ 77) (rd σ 78) (FS σ k sk) B (cw j)) ((cw j : Nat) : Int))) ∧ qRow τ υ 41 ∧ rowIs υ 41 (rlx (wyS σ) (rd σ 77) (rd σ 78) (FS σ k sk) (rPass (wyS σ) (rd σ 77) (rd σ 78) (FS σ k sk) B (cw j)) ((cw j : Nat) : Int))) hd (h.st S) sk x2 x3 x4 _ x6 _ (by omega) (fun c => by omega) (fun _ => h.has_C S L (by omega) (by omega)) (fun _ => h.i6 L) (fun _ c => ?_) (fun _ c => ?_) (fun _ _ v b _ _ _ => by omega) (fun _ c v b υ e y c5 => ?_) (fun _ c v b υ e y c6 => ?_)
    · rw [h.has L] at c
      rw [i_or_b0, show (j : Int) + 1 = ((j + 1 : Nat) : Int) by omega]
      have e : rPass (wyS σ) (rd σ 77) (rd σ 78) (FS σ k sk) B (cw (j + 1)) = rPass (wyS σ) (rd σ 77) (rd σ 78) (FS σ k sk) B (cw j) ∧ rCh (wyS σ) (rd σ 77) (rd σ 78) (FS σ k sk) B (cw (j + 1)) = rCh (wyS σ) (rd σ 77) (rd σ 78) (FS σ k sk) B (cw j) := by
        rcases cw_no l3.2 l5.2 (by omega) c with e | ⟨e, e2⟩
        · rw [e]; exact ⟨rfl, rfl⟩
        · rw [e]; exact rPass_skip e2
      have := ih (j + 1) τ (by omega) h q (by rw [e.1]; exact i)
      rw [e.2] at this
      exact this
    · rw [h.has L] at c
      obtain ⟨y1, y2, y3, y4⟩ := cw_yes l3.2 l5.2 c
      have := earl_C (Nat.le_refl 4) S L h y2 hs i ((hB.pass (cw j) (by omega)).pos ok hm.1 hm.2)
      rw [y3] at this
      exact this
    · rw [h.has L] at c
      obtain ⟨y1, y2, y3, y4⟩ := cw_yes l3.2 l5.2 c
      obtain ⟨z1, z2, z3⟩ := y
      have z1 := so_inj z1
      rw [c5] at z1
      rw [i_or_b0, show (j : Int) + 1 = ((j + 1 : Nat) : Int) by omega]
      have := ih (j + 1) υ (by omega) (h.q L z2 (by omega)) (q.tr z2) (by rw [y1]; exact z3)
      rw [y1] at this
      have e2 : rCh (wyS σ) (rd σ 77) (rd σ 78) (FS σ k sk) B (cw j + 1) = rCh (wyS σ) (rd σ 77) (rd σ 78) (FS σ k sk) B (cw j) := by
        show (rCh (wyS σ) (rd σ 77) (rd σ 78) (FS σ k sk) B (cw j) || rCond (wyS σ) (rd σ 77) (rd σ 78) (FS σ k sk) (rPass (wyS σ) (rd σ 77) (rd σ 78) (FS σ k sk) B (cw j)) ((cw j : Nat) : Int)) = _
        rw [b2i_eq0.mp z1.symm, Bool.or_false]
      rw [e2] at this
      exact this
    · rw [h.has L] at c
      obtain ⟨y1, y2, y3, y4⟩ := cw_yes l3.2 l5.2 c
      obtain ⟨z1, z2, z3⟩ := y
      have z1 := so_inj z1
      rw [i_or_b1, show (j : Int) + 1 = ((j + 1 : Nat) : Int) by omega]
      have := ih (j + 1) υ (by omega) (h.q L z2 (by omega)) (q.tr z2) (by rw [y1]; exact z3)
      rw [y1] at this
      have e2 : rCh (wyS σ) (rd σ 77) (rd σ 78) (FS σ k sk) B (cw j + 1) = true := by
        show (rCh (wyS σ) (rd σ 77) (rd σ 78) (FS σ k sk) B (cw j) || rCond (wyS σ) (rd σ 77) (rd σ 78) (FS σ k sk) (rPass (wyS σ) (rd σ 77) (rd σ 78) (FS σ k sk) B (cw j)) ((cw j : Nat) : Int)) = _
        rw [b2i_t' z1 c6, Bool.or_true]
      rw [e2] at this
      exact this
def soonA (v : Int) : Int := if v = 1000000 then -1 else v
theorem first_C {d : Nat} {σ τ : pS} (hd : 5 ≤ d) (S : Stat σ) (L : RSlo σ) {k : Int} (h : CV σ k τ) {sk p m t : Int} (hs : 0 ≤ sk ∧ sk < 4) (hp : 0 ≤ p ∧ p < 10) (hm : 0 ≤ m ∧ m ≤ 540) (ht : 0 ≤ t ∧ t < 10) : pC mX4_firstMinuteAt d [(2, 40), (0, sk), (0, p), (0, m), (0, t)] τ (fun r υ => ∃ v, isSoon (wyS σ) (rd σ 77) (rd σ 78) (FS σ k sk) p m t v ∧ r = some (0, soonA v) ∧ qRow τ υ 41) := by
  have ok := FS_ok L k hs
  have S2 := h.st S
  have out : ∀ (n r : Nat) (A : Int → Int) (υ : pS) (x5 : Int) (u7 : pV), r + n = 10 → A = rIter (wyS σ) (rd σ 77) (rd σ 78) (FS σ k sk) (fun q => if q = p then m else 1000000) r → rAtt (wyS σ) (rd σ 77) (rd σ 78) (FS σ k sk) p m A → A p ≤ m → CV σ k υ → qRow τ υ 41 → rowIs υ 41 A → (x5 = 0 → rCh (wyS σ) (rd σ 77) (rd σ 78) (FS σ k sk) A 13 = false) → (x5 = 0 ∨ x5 = 1) → u7.1 ≠ 1 → pR mX4_firstMinuteAt d 22 [(2, 40), (0, sk), (0, p), (0, m), (0, t), (0, x5), (0, (r : Int)), u7] [] υ (fun r υ => ∃ v, isSoon (wyS σ) (rd σ 77) (rd σ 78) (FS σ k sk) p m t v ∧ r = some (0, soonA v) ∧ qRow τ υ 41) := by
    intro n
    induction n with
    | zero =>
      intro r A υ x5 u7 hr eA at1 hA h q i h5 h5' hu
      have b := at1.pos ok hm.1 hm.2 t
      have v := i t ht.1 ht.2
      have e : r = 10 := by omega
      subst e
      have fin : isSoon (wyS σ) (rd σ 77) (rd σ 78) (FS σ k sk) p m t (A t) := by
        rw [eA]
        exact rTen ok hm.1 hm.2 (rAtt0 p m) (by simp) hp t
      refine g_X4_firstMinuteAt_22 hd (h.st S) sk p m t x5 _ u7 hu (by omega) (fun _ => ht) (fun _ => by rw [v]; unfold inR; omega) (fun _ c => ⟨A t, fin, ?_, q⟩) (fun _ c => ⟨A t, fin, ?_, q⟩) (fun c => by omega) (fun c => by omega) (fun c => by omega) (fun c => by omega) (fun c => by omega) (fun c => by omega)
      · rw [v] at c ⊢; unfold soonA; rw [if_neg c]
      · rw [v] at c; unfold soonA; rw [if_pos c]
    | succ n ih =>
      intro r A υ x5 u7 hr eA at1 hA h q i h5 h5' hu
      have b := at1.pos ok hm.1 hm.2 t
      have v := i t ht.1 ht.2
      refine g_X4_firstMinuteAt_22 hd (h.st S) sk p m t x5 _ u7 hu (by omega) (fun c => by omega) (fun c => by omega) (fun c => by omega) (fun c => by omega) (fun _ => by omega) (fun _ _ => ht) (fun _ _ => by rw [v]; unfold inR; omega) (fun _ c5 c => ⟨A t, rClosed ok hm.1 hm.2 at1 hA (h5 c5) t, ?_, q⟩) (fun _ c5 c => ⟨A t, rClosed ok hm.1 hm.2 at1 hA (h5 c5) t, ?_, q⟩) (fun _ c5 => ?_)
      · rw [v] at c ⊢; unfold soonA; rw [if_neg c]
      · rw [v] at c; unfold soonA; rw [if_pos c]
      · refine fst_in (B := A) hd S L hs hm at1 (fun υ' h' q' i' => ?_) 17 0 υ (by omega) h q i
        rw [show (r : Int) + 1 = ((r + 1 : Nat) : Int) by omega]
        refine ih (r + 1) (rPass (wyS σ) (rd σ 77) (rd σ 78) (FS σ k sk) A 13) υ' _ _ (by omega) (by rw [eA]; rfl) (at1.pass 13 (Nat.le_refl _)) (Int.le_trans (rPass_le _ _ _) hA) h' q' i' (fun z => ?_) (b2i_01 _) (show (0 : Nat) ≠ 1 by decide)
        have z := b2i_eq0.mp z
        rw [rCh_false z]
        exact z
  refine g_X4_firstMinuteAt_0 (Q1 := fun r υ => r = none ∧ υ = fl τ 41 (10 : Nat) 1000000) hd S2 sk p m t (fill_C S2 (ob_41 S2) (by decide)) (fun _ _ _ => hp) (fun τ1 e1 q1 => ?_)
  rw [q1.2]
  refine out 10 0 (fun q => if q = p then m else 1000000) _ 1 (9, 0) (by omega) rfl (rAtt0 p m) (by simp) ((h.fl L (by omega)).wr L (by omega)) ⟨rfl, fun b j hb => by rw [rd_wr_n (by omega), rd_fl, if_neg (by omega)]⟩ (fun q q0 q1 => ?_) (fun z => by omega) (Or.inr rfl) (by decide)
  rw [rd_wr, rd_fl]
  by_cases c : q = p
  · subst c; rw [if_pos ⟨rfl, rfl⟩]; exact (if_pos rfl).symm
  · rw [if_neg (fun z => c z.2), if_pos ⟨rfl, q0, q1⟩]; exact (if_neg c).symm
theorem later_C {d : Nat} {σ τ : pS} (hd : 3 ≤ d) (S : Stat σ) (L : RSlo σ) {k : Int} (h : CV σ k τ) {w sk : Int} (hw : wyS σ w = true) (hs : 0 ≤ sk ∧ sk < 4) {A : Int → Int} (hA : rowIs τ 42 A) (hB : ∀ q : Int, -1 ≤ A q ∧ A q ≤ 1000000) : pC mX4_goesLater d [(2, 40), (0, vOuter w), (0, sk)] τ (fun r υ => r = some (0, b2i (bCond (wyS σ) (rd σ 77) (rd σ 78) (GS σ k sk) A w)) ∧ qRow τ υ 42 ∧ rowIs υ 42 (blx (wyS σ) (rd σ 77) (rd σ 78) (GS σ k sk) A w)) := by
  have o := vOuter_of hw L.2.2.2.1.2 L.2.2.2.2.2.1.2
  obtain ⟨e1, e2, e3, e4, e5, e6⟩ := h.ends L hw
  have S2 := h.st S
  have a1 := hA (rd σ 77 w) e3 e4
  have a2 := hA (rd σ 78 w) e5 e6
  have b1 := hB (rd σ 77 w)
  have b2 := hB (rd σ 78 w)
  obtain ⟨n1, n2⟩ := h.mins L hw hs
  have bd := h.bounds L ⟨o.1, o.2.1⟩
  have mR := minS_R L hw hs
  have gl : ∀ t : Int, vLO τ (vOuter w) t = lastOpenS σ k w t := fun t => h.lo L hw
  have sp := lastOpenS_spec L (k := k) (t := A (rd σ 78 w) - minS σ sk w) hw
  have l0 := L.1
  have no : ¬ (A (rd σ 78 w) ≠ -1 ∧ A (rd σ 77 w) < GS σ k sk w (A (rd σ 78 w))) → some ((0 : Nat), (0 : Int)) = some (0, b2i (bCond (wyS σ) (rd σ 77) (rd σ 78) (GS σ k sk) A w)) ∧ qRow τ τ 42 ∧ rowIs τ 42 (blx (wyS σ) (rd σ 77) (rd σ 78) (GS σ k sk) A w) := fun c => by
    obtain ⟨y1, y2⟩ := blx_no (wy := wyS σ) c
    exact ⟨by rw [y1]; rfl, qRow.rf τ 42, fun q q0 q1 => by rw [y2, hA q q0 q1]⟩
  have gy : goS σ sk w = true → GS σ k sk w (A (rd σ 78 w)) = lastOpenS σ k w (A (rd σ 78 w) - minS σ sk w) := fun c => by unfold GS; rw [if_neg (by rw [c]; simp)]
  refine g_X4_goesLater_0 hd S2 (vOuter w) sk (by rw [h.s4]; omega) (h.i6 L) ⟨o.1, o.2.1⟩ (by rw [e2]; exact ⟨e5, e6⟩) (by rw [e2, a2]; unfold inR; omega) (fun c => ?_) (fun _ => fits_C S2 (h.i6 L) ⟨o.1, o.2.1⟩ (by omega) hs) (fun _ _ => minutes_C (Nat.le_refl 1) S2 (h.i6 L) ⟨o.1, o.2.1⟩ (by omega) (by omega) hs) (fun c c3 => ?_) (fun _ _ => by rw [e1]; exact ⟨e3, e4⟩) (fun _ c3 => ?_) (fun _ _ => by rw [e1, a1]; unfold inR; omega) (fun c c3 c5 => ?_) (fun c c3 c6 => ?_) (fun c c4 => ?_)
  · rw [e2, a2] at c
    exact no (fun z => z.1 c)
  · rw [e2, a2, n1]
    exact lastOpen_C (Nat.le_refl 2) S L h ⟨o.1, o.2.1⟩ (by unfold inR; omega)
  · rw [e2, a2, n1, gl]
    unfold inR; omega
  · rw [n2] at c3
    rw [e2, a2] at c
    rw [e1, e2, a1, a2, n1, gl] at c5
    rw [e1, e2, a2, n1, gl]
    obtain ⟨y1, y2⟩ := blx_yes (A := A) (wy := wyS σ) (fr := rd σ 77) (to := rd σ 78) (G := GS σ k sk) hw ⟨c, by rw [gy c3]; exact c5⟩
    refine ⟨by rw [y1]; rfl, (qRow.rf τ 42).wr, fun q q0 q1 => ?_⟩
    rw [y2, gy c3]
    by_cases z : q = rd σ 77 w
    · rw [if_pos z, z, rd_wr_same]
    · rw [if_neg z, rd_wr_i _ z, hA q q0 q1]
  · rw [n2] at c3
    rw [e1, e2, a1, a2, n1, gl] at c6
    exact no (fun z => by rw [gy c3] at z; omega)
  · rw [n2] at c4
    exact no (fun z => by
      have : GS σ k sk w (A (rd σ 78 w)) = -1 := by unfold GS; rw [if_pos c4]
      omega)
theorem lat_in {d : Nat} {σ τ0 : pS} {Q : Option pV → pS → Prop} (hd : 4 ≤ d) (S : Stat σ) (L : RSlo σ) {k sk : Int} (hs : 0 ≤ sk ∧ sk < 4) {x2 x3 x5 g b : Int} {B : Int → Int} (hb : 0 ≤ b ∧ b ≤ 1000000) (hB : bAtt (wyS σ) (rd σ 77) (rd σ 78) (FS σ k sk) g b B)
    (K : ∀ υ : pS, CV σ k υ → qRow τ0 υ 42 → rowIs υ 42 (bPass (wyS σ) (rd σ 77) (rd σ 78) (GS σ k sk) B 13) → pR mX4_findLatest d 21 [(2, 40), (0, sk), (0, x2), (0, x3), (0, b2i (bCh (wyS σ) (rd σ 77) (rd σ 78) (GS σ k sk) B 13)), (0, x5 + 1), (0, 17)] [] υ Q) :
    ∀ (n j : Nat) (τ : pS), j + n = 17 → CV σ k τ → qRow τ0 τ 42 → rowIs τ 42 (bPass (wyS σ) (rd σ 77) (rd σ 78) (GS σ k sk) B (cw j)) → pR mX4_findLatest d 39 [(2, 40), (0, sk), (0, x2), (0, x3), (0, b2i (bCh (wyS σ) (rd σ 77) (rd σ 78) (GS σ k sk) B (cw j))), (0, x5), (0, (j : Int))] [] τ Q := by
  have ok := FS_ok L k hs
  have ga := GS_ok L k hs
  intro n
  induction n with
  | zero =>
    intro j τ hj h q i
    have e : j = 17 := by omega
    subst e
    exact g_X4_findLatest_39 (Q1 := fun _ _ => True) hd (h.st S) sk x2 x3 _ x5 _ (by decide) (fun _ => K τ h q i) (fun c => by omega) (fun c => by omega) (fun c => by omega) (fun c => by omega) (fun c => by omega) (fun c => by omega) (fun c => by omega)
  | succ n ih =>
    intro j τ hj h q i
    have l3 := L.2.2.2.1
    have l5 := L.2.2.2.2.2.1
    refine g_X4_findLatest_39 (Q1 := fun r υ => r = some (0, b2i (bCond (wyS σ) (rd σ 77) (rd σ 78) (GS σ k sk) (bPass (wyS σ) (rd σ 77) (rd σ 78) (GS σ k sk) B (cw j)) ((cw j : Nat) : Int))) ∧ qRow τ υ 42 ∧ rowIs υ 42 (blx (wyS σ) (rd σ 77) (rd σ 78) (GS σ k sk) (bPass (wyS σ) (rd σ 77) (rd σ 78) (GS σ k sk) B (cw j)) ((cw j : Nat) : Int))) hd (h.st S) sk x2 x3 _ x5 _ (by omega) (fun c => by omega) (fun _ => h.has_C S L (by omega) (by omega)) (fun _ => h.i6 L) (fun _ c => ?_) (fun _ c => ?_) (fun _ _ v b _ _ _ => by omega) (fun _ c v b υ e y c5 => ?_) (fun _ c v b υ e y c6 => ?_)
    · rw [h.has L] at c
      rw [i_or_b0, show (j : Int) + 1 = ((j + 1 : Nat) : Int) by omega]
      have e : bPass (wyS σ) (rd σ 77) (rd σ 78) (GS σ k sk) B (cw (j + 1)) = bPass (wyS σ) (rd σ 77) (rd σ 78) (GS σ k sk) B (cw j) ∧ bCh (wyS σ) (rd σ 77) (rd σ 78) (GS σ k sk) B (cw (j + 1)) = bCh (wyS σ) (rd σ 77) (rd σ 78) (GS σ k sk) B (cw j) := by
        rcases cw_no l3.2 l5.2 (by omega) c with e | ⟨e, e2⟩
        · rw [e]; exact ⟨rfl, rfl⟩
        · rw [e]; exact bPass_skip e2
      have := ih (j + 1) τ (by omega) h q (by rw [e.1]; exact i)
      rw [e.2] at this
      exact this
    · rw [h.has L] at c
      obtain ⟨y1, y2, y3, y4⟩ := cw_yes l3.2 l5.2 c
      have := later_C (Nat.le_refl 3) S L h y2 hs i (fun q => by have := (bAtt.pass ok ga hB (cw j) (by omega)).pos ok q; omega)
      rw [y3] at this
      exact this
    · rw [h.has L] at c
      obtain ⟨y1, y2, y3, y4⟩ := cw_yes l3.2 l5.2 c
      obtain ⟨z1, z2, z3⟩ := y
      have z1 := so_inj z1
      rw [c5] at z1
      rw [i_or_b0, show (j : Int) + 1 = ((j + 1 : Nat) : Int) by omega]
      have := ih (j + 1) υ (by omega) (h.q L z2 (by omega)) (q.tr z2) (by rw [y1]; exact z3)
      rw [y1] at this
      have e2 : bCh (wyS σ) (rd σ 77) (rd σ 78) (GS σ k sk) B (cw j + 1) = bCh (wyS σ) (rd σ 77) (rd σ 78) (GS σ k sk) B (cw j) := by
        show (bCh (wyS σ) (rd σ 77) (rd σ 78) (GS σ k sk) B (cw j) || bCond (wyS σ) (rd σ 77) (rd σ 78) (GS σ k sk) (bPass (wyS σ) (rd σ 77) (rd σ 78) (GS σ k sk) B (cw j)) ((cw j : Nat) : Int)) = _
        rw [b2i_eq0.mp z1.symm, Bool.or_false]
      rw [e2] at this
      exact this
    · rw [h.has L] at c
      obtain ⟨y1, y2, y3, y4⟩ := cw_yes l3.2 l5.2 c
      obtain ⟨z1, z2, z3⟩ := y
      have z1 := so_inj z1
      rw [i_or_b1, show (j : Int) + 1 = ((j + 1 : Nat) : Int) by omega]
      have := ih (j + 1) υ (by omega) (h.q L z2 (by omega)) (q.tr z2) (by rw [y1]; exact z3)
      rw [y1] at this
      have e2 : bCh (wyS σ) (rd σ 77) (rd σ 78) (GS σ k sk) B (cw j + 1) = true := by
        show (bCh (wyS σ) (rd σ 77) (rd σ 78) (GS σ k sk) B (cw j) || bCond (wyS σ) (rd σ 77) (rd σ 78) (GS σ k sk) (bPass (wyS σ) (rd σ 77) (rd σ 78) (GS σ k sk) B (cw j)) ((cw j : Nat) : Int)) = _
        rw [b2i_t' z1 c6, Bool.or_true]
      rw [e2] at this
      exact this
theorem latest_C {d : Nat} {σ τ : pS} (hd : 4 ≤ d) (S : Stat σ) (L : RSlo σ) {k : Int} (h : CV σ k τ) {sk g b : Int} (hs : 0 ≤ sk ∧ sk < 4) (hg : 0 ≤ g ∧ g < 10) (hb : 0 ≤ b ∧ b ≤ 1000000) : pC mX4_findLatest d [(2, 40), (0, sk), (0, g), (0, b)] τ (fun r υ => r = none ∧ qRow τ υ 42 ∧ ∀ q : Int, 0 ≤ q → q < 10 → isLast (wyS σ) (rd σ 77) (rd σ 78) (FS σ k sk) g b q (rd υ 42 q)) := by
  have ok := FS_ok L k hs
  have ga := GS_ok L k hs
  have S2 := h.st S
  have at0 : bAtt (wyS σ) (rd σ 77) (rd σ 78) (FS σ k sk) g b (fun q => if q = g then b else -1) := fun q => by
    by_cases c : q = g
    · subst c; right
      show 0 ≤ (if q = q then b else -1) ∧ ∃ ws t, t ≤ b ∧ tRun (wyS σ) (rd σ 77) (rd σ 78) (FS σ k sk) ws q (if q = q then b else -1) q t
      rw [if_pos rfl]
      exact ⟨hb.1, [], b, Int.le_refl _, rfl, rfl⟩
    · left
      show (if q = g then b else -1) = -1
      rw [if_neg c]
  have out : ∀ (n r : Nat) (A : Int → Int) (υ : pS) (x4 : Int) (u6 : pV), r + n = 10 → A = bIter (wyS σ) (rd σ 77) (rd σ 78) (GS σ k sk) (fun q => if q = g then b else -1) r → bAtt (wyS σ) (rd σ 77) (rd σ 78) (FS σ k sk) g b A → b ≤ A g → CV σ k υ → qRow τ υ 42 → rowIs υ 42 A → (x4 = 0 → bCh (wyS σ) (rd σ 77) (rd σ 78) (GS σ k sk) A 13 = false) → (x4 = 0 ∨ x4 = 1) → u6.1 ≠ 1 → pR mX4_findLatest d 21 [(2, 40), (0, sk), (0, g), (0, b), (0, x4), (0, (r : Int)), u6] [] υ (fun r υ => r = none ∧ qRow τ υ 42 ∧ ∀ q : Int, 0 ≤ q → q < 10 → isLast (wyS σ) (rd σ 77) (rd σ 78) (FS σ k sk) g b q (rd υ 42 q)) := by
    intro n
    induction n with
    | zero =>
      intro r A υ x4 u6 hr eA at1 hA h q i h4 h4' hu
      have e : r = 10 := by omega
      subst e
      refine g_X4_findLatest_21 hd (h.st S) sk g b x4 _ u6 hu (by omega) (fun _ => ⟨rfl, q, fun q q0 q1 => ?_⟩) (fun c => by omega) (fun c => by omega) (fun c => by omega)
      rw [i q q0 q1, eA]
      exact bTen ok ga at0 (by simp) ⟨q0, q1⟩
    | succ n ih =>
      intro r A υ x4 u6 hr eA at1 hA h q i h4 h4' hu
      refine g_X4_findLatest_21 hd (h.st S) sk g b x4 _ u6 hu (by omega) (fun c => by omega) (fun _ => by omega) (fun _ c5 => ⟨rfl, q, fun q q0 q1 => ?_⟩) (fun _ c5 => ?_)
      · rw [i q q0 q1]
        exact bClosed ok ga at1 hA (h4 c5) q
      · refine lat_in (B := A) hd S L hs hb at1 (fun υ' h' q' i' => ?_) 17 0 υ (by omega) h q i
        rw [show (r : Int) + 1 = ((r + 1 : Nat) : Int) by omega]
        refine ih (r + 1) (bPass (wyS σ) (rd σ 77) (rd σ 78) (GS σ k sk) A 13) υ' _ _ (by omega) (by rw [eA]; rfl) (bAtt.pass ok ga at1 13 (Nat.le_refl _)) (Int.le_trans hA (bPass_le _ _ _)) h' q' i' (fun z => ?_) (b2i_01 _) (show (0 : Nat) ≠ 1 by decide)
        have z := b2i_eq0.mp z
        rw [bCh_false z]
        exact z
  refine g_X4_findLatest_0 (Q1 := fun r υ => r = none ∧ υ = fl τ 42 (10 : Nat) (-1)) hd S2 sk g b (fill_C S2 (ob_42 S2) (by decide)) (fun _ _ _ => hg) (fun τ1 e1 q1 => ?_)
  rw [q1.2]
  refine out 10 0 (fun q => if q = g then b else -1) _ 1 (9, 0) (by omega) rfl at0 (by simp) ((h.fl L (by omega)).wr L (by omega)) ⟨rfl, fun b j hb => by rw [rd_wr_n (by omega), rd_fl, if_neg (by omega)]⟩ (fun q q0 q1 => ?_) (fun z => by omega) (Or.inr rfl) (by decide)
  rw [rd_wr, rd_fl]
  by_cases c : q = g
  · subst c; rw [if_pos ⟨rfl, rfl⟩]; exact (if_pos rfl).symm
  · rw [if_neg (fun z => c z.2), if_pos ⟨rfl, q0, q1⟩]; exact (if_neg c).symm
