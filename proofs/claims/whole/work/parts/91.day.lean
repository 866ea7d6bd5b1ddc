/-! a day: the class runs it through -/
theorem dTurns_124 {σ : pS} {k m p q : Int} (hq : q ≠ p) : ∀ (n : Nat) (S : Int → Int → Int), dTurns σ k m p n S 124 q = S 124 q
  | 0, _ => rfl
  | n + 1, S => by
    cases h : dOne σ k m p S with
    | none => rw [dTurns_none h]
    | some T =>
      rw [dTurns_s h, dTurns_124 hq n T]
      obtain ⟨j, j0, j1, jc, e⟩ := dOne_spec h
      rw [e]
      show (if q = p then _ else _) = _
      rw [if_neg hq]
theorem dAll_124 {σ : pS} {k m q : Int} {S : Int → Int → Int} : ∀ n : Nat, (n : Int) ≤ q → dAll σ k m S n 124 q = S 124 q
  | 0, _ => rfl
  | n + 1, h => by
    show dTurns _ _ _ _ _ _ 124 q = _
    rw [dTurns_124 (by omega)]
    exact dAll_124 n (by omega)
theorem arC_at {σ : pS} (L : RSlo σ) {m q : Int} (hq : 0 ≤ q ∧ q < 10) : arC σ (10 * m + q) = if q = rd σ 68 32 then arS σ m else 0 := by
  have hh := L.2.2.2.2.2.2.2.2.1
  have z : ∀ n : Nat, sumF (fun _ => (0 : Int)) n = 0 := fun n => by
    induction n with
    | zero => rfl
    | succ n ih => show sumF _ n + (0 : Int) = 0; rw [ih]; rfl
  unfold arC arS
  split
  · rename_i e
    refine sumF_cg (fun i _ _ => ?_)
    show (if _ then _ else _) = (if _ then _ else _)
    by_cases c : rd σ 118 i = m
    · rw [if_pos (by omega), if_pos c]
    · rw [if_neg (by omega), if_neg c]
  · rename_i e
    refine (sumF_cg (g := fun _ => 0) (fun i _ _ => ?_)).trans (z _)
    show (if _ then _ else _) = (0 : Int)
    rw [if_neg (by omega)]
def LogC (σ : pS) (k : Int) (m : Nat) (τ : pS) : Prop := ∀ t : Nat, t < m → (∀ p : Int, 0 ≤ p → p < 10 → rd τ 51 (10 * (t : Int) + p) = dDay σ k (t + 1) 124 p ∧ rd τ 52 (10 * (t : Int) + p) = qS σ (dDay σ k (t + 1)) p (rd σ 68 30).toNat) ∧ ∀ r : Int, 0 ≤ r → r < rd σ 68 31 → rd τ 53 (7 * (t : Int) + r) = dDay σ k (t + 1) 127 r
theorem LogC.fr {σ τ υ : pS} {k : Int} {m : Nat} (h : LogC σ k m τ) (q : ∀ a i : Int, a = 51 ∨ a = 52 ∨ a = 53 → rd υ a i = rd τ a i) : LogC σ k m υ := fun t ht => ⟨fun p p0 p1 => by rw [q 51 _ (by decide), q 52 _ (by decide)]; exact (h t ht).1 p p0 p1, fun r r0 r1 => by rw [q 53 _ (by decide)]; exact (h t ht).2 r r0 r1⟩
theorem DRow.up {σ τ : pS} {m m2 : Int} {D T : Int → Int → Int} (h : DRow σ m D τ) (hm : m ≤ m2) (q : ∀ a i : Int, a = 122 ∨ a = 125 ∨ (a = 126 ∧ 10 * (m2 + 1) ≤ i) ∨ a = 127 ∨ a = 128 ∨ a = 129 → T a i = D a i) : DRow σ m2 T τ := ⟨fun l l0 l1 => by rw [q 125 _ (by omega), q 129 _ (by omega)]; exact h.1 l l0 l1, fun r r0 r1 => by rw [q 127 _ (by omega)]; exact h.2.1 r r0 r1, fun w hw => by rw [q 128 _ (by omega)]; exact h.2.2.1 w hw, fun p p0 p1 => by rw [q 122 _ (by omega)]; exact h.2.2.2.1 p p0 p1, fun c c0 c1 => by rw [q 126 _ (by omega)]; exact h.2.2.2.2 c (by omega) c1⟩
theorem DRow.fr {σ τ υ : pS} {m : Int} {D : Int → Int → Int} (h : DRow σ m D τ) (q : ∀ a i : Int, a = 54 ∨ a = 55 ∨ a = 56 ∨ a = 58 ∨ a = 59 ∨ a = 60 → rd υ a i = rd τ a i) : DRow σ m D υ := ⟨fun l l0 l1 => by rw [q 59 _ (by decide), q 55 _ (by decide)]; exact h.1 l l0 l1, fun r r0 r1 => by rw [q 60 _ (by decide), q 55 _ (by decide)]; exact h.2.1 r r0 r1, fun w hw => by rw [q 54 _ (by decide)]; exact h.2.2.1 w hw, fun p p0 p1 => by rw [q 58 _ (by decide)]; exact h.2.2.2.1 p p0 p1, fun c c0 c1 => by rw [q 56 _ (by decide)]; exact h.2.2.2.2 c c0 c1⟩
def dayC (σ : pS) (k : Int) (τ : pS) (r : Option pV) (υ : pS) : Prop := r = none ∧ (υ.1 = τ.1 ∧ ∀ a i : Int, ¬ (51 ≤ a ∧ a ≤ 60) → ¬ (a = 50 ∧ i = 2) → rd υ a i = rd τ a i) ∧ rd υ 50 2 = 1 ∧ DRU σ 479 (dDay σ k 480) υ ∧ LogC σ k 480 υ
theorem runThrough_C {d : Nat} {σ τ : pS} (hd : 6 ≤ d) (S : Stat σ) (L : RSlo σ) (W : RWin σ) (C : RCro σ) {k : Int} (h : CX σ k τ) : pC mX1_runThrough d [(2, 50)] τ (dayC σ k τ) := by
  have S2 := h.1.st S
  have b1 := L.2.2.2.1.2
  have b0 := L.2.2.2.1.1
  obtain ⟨Z, hZ⟩ : ∃ Z : Nat, Z = 5410 := ⟨_, rfl⟩
  have loop : ∀ (n i : Nat) (u2 : pV) (υ : pS), u2.1 ≠ 1 → i + n = 480 → (υ.1 = τ.1 ∧ ∀ a i : Int, ¬ (51 ≤ a ∧ a ≤ 60) → rd υ a i = rd τ a i) → DRU σ ((i : Int) - 1) (dDay σ k i) υ → LogC σ k i υ → pR mX1_runThrough d 6 [(2, 50), (0, (i : Int)), u2] [] υ (dayC σ k τ) := fun n => by
    induction n with
    | zero =>
      intro i u2 υ hu hi F DU LG
      have e480 : i = 480 := by omega
      subst e480
      refine g_X1_runThrough_6 (Q1 := fun _ _ => True) hd (S2.eq F.1) _ u2 hu (by decide) (fun _ => ⟨rfl, ⟨F.1, fun a i p1 p2 => by rw [rd_wr_n p2]; exact F.2 a i p1⟩, rd_wr_same _ _ _ _, ⟨DU.1.fr (fun a i p => rd_wr_n (by omega)), fun p p0 p1 => by rw [rd_wr_n (by omega)]; exact DU.2 p p0 p1⟩, LG.fr (fun a i p => rd_wr_n (by omega))⟩) (fun c => absurd c (by decide)) (fun c => absurd c (by decide))
    | succ n ih =>
      intro i u2 υ hu hi F DU LG
      have cx := h.fr L F.1 F.2
      have hm : 0 ≤ (i : Int) ∧ (i : Int) < 480 := by omega
      have t := totA_R C (i : Int)
      have t1 := totA_R C ((i : Int) + 1)
      have ok0 := ((dDay_ok hZ W C L (k := k) i (by omega)).snow W C L (k := k)).come hZ C L hm
      rw [← t.2.2.1] at ok0
      have okA := fun j hj => dAll_ok hZ C L (k := k) hm (by omega) (by omega) ok0 j hj
      generalize hB : dCome σ (i : Int) (dSnow σ k (i : Int) (dDay σ k i)) = B at ok0 okA
      have okL := fun l hl => dLifts_ok hZ L (k := k) hm t1.2.1 (okA 10 (Nat.le_refl _)) l hl
      have eMin : dDay σ k (i + 1) = dLifts σ k (i : Int) (dAll σ k (i : Int) B 10) (rd σ 68 30).toNat := by rw [← hB]; rfl
      have B124 : ∀ q : Int, 0 ≤ q → q < 10 → B 124 q = dDay σ k i 124 q + arC σ (10 * (i : Int) + q) + dDay σ k i 126 (10 * (i : Int) + q) := fun q q0 q1 => by
        rw [arC_at L ⟨q0, q1⟩, ← hB]; rfl
      have lifts : ∀ (n l : Nat) (φ : pS), (l : Int) + n = rd σ 68 30 → (φ.1 = τ.1 ∧ ∀ a i : Int, ¬ (51 ≤ a ∧ a ≤ 60) → rd φ a i = rd τ a i) → DRU σ (i : Int) (dLifts σ k (i : Int) (dAll σ k (i : Int) B 10) l) φ → LogC σ k i φ → pR mX1_runThrough d 72 [(2, 50), (0, (i : Int)), (0, (l : Int))] [] φ (dayC σ k τ) := fun n => by
        induction n with
        | zero =>
          intro l φ hl F2 DU2 LG2
          have cx2 := h.fr L F2.1 F2.2
          have el : (rd σ 68 30).toNat = l := by omega
          rw [el] at eMin
          rw [← eMin] at DU2
          have er : rd φ (rd φ 35 4) 0 = rd σ 68 30 := by
            have := cx2.1.row (a := 0) (i := 0) (by omega)
            rw [Int.add_zero, Int.add_zero] at this
            rw [this]; exact L.2.2.1
          refine g_X1_runThrough_72 (Q1 := fun r ψ => r = none ∧ (ψ.1 = φ.1 ∧ (∀ a x : Int, a ≠ 51 → a ≠ 52 → a ≠ 53 → rd ψ a x = rd φ a x) ∧ (∀ a x : Int, a = 51 ∨ a = 52 → ¬ (10 * (i : Int) ≤ x ∧ x < 10 * (i : Int) + 10) → rd ψ a x = rd φ a x) ∧ ∀ x : Int, ¬ (7 * (i : Int) ≤ x ∧ x < 7 * (i : Int) + 7) → rd ψ 53 x = rd φ 53 x) ∧ (∀ p : Int, 0 ≤ p → p < 10 → rd ψ 51 (10 * (i : Int) + p) = dDay σ k (i + 1) 124 p ∧ rd ψ 52 (10 * (i : Int) + p) = qS σ (dDay σ k (i + 1)) p (rd σ 68 30).toNat) ∧ ∀ r : Int, 0 ≤ r → r < rd σ 68 31 → rd ψ 53 (7 * (i : Int) + r) = dDay σ k (i + 1) 127 r) (Q2 := fun _ _ => True) hd (S2.eq F2.1) (i : Int) (l : Int) (cx2.1.i6 L) (by unfold inR; omega) (by rw [er]; unfold inR; omega) (fun _ => keep_C S L cx2 hm DU2) (fun _ τ1 _ q1 => ?_) (fun c => by rw [er] at c; omega) (fun c => by rw [er] at c; omega)
          rw [show (i : Int) + 1 = ((i + 1 : Nat) : Int) by omega]
          obtain ⟨-, ⟨f1, f2, f3, f4⟩, k1, k2⟩ := q1
          refine ih (i + 1) (0, _) τ1 (show (0 : Nat) ≠ 1 by decide) (by omega) ⟨f1.trans F2.1, fun a x p => (f2 a x (by omega) (by omega) (by omega)).trans (F2.2 a x p)⟩ ?_ (fun t ht => ?_)
          · rw [show ((i + 1 : Nat) : Int) - 1 = (i : Int) by omega]
            exact ⟨DU2.1.fr (fun a x p => f2 a x (by omega) (by omega) (by omega)), fun p p0 p1 => by rw [f2 57 p (by decide) (by decide) (by decide)]; exact DU2.2 p p0 p1⟩
          · by_cases z : t = i
            · subst z; exact ⟨k1, k2⟩
            · have lt := LG2 t (by omega)
              have b2 := L.2.2.2.2.2.1.2
              exact ⟨fun p p0 p1 => by rw [f3 51 _ (Or.inl rfl) (by omega), f3 52 _ (Or.inr rfl) (by omega)]; exact lt.1 p p0 p1, fun r r0 r1 => by rw [f4 _ (by omega)]; exact lt.2 r r0 r1⟩
        | succ n ih2 =>
          intro l φ hl F2 DU2 LG2
          have cx2 := h.fr L F2.1 F2.2
          have er : rd φ (rd φ 35 4) 0 = rd σ 68 30 := by
            have := cx2.1.row (a := 0) (i := 0) (by omega)
            rw [Int.add_zero, Int.add_zero] at this
            rw [this]; exact L.2.2.1
          refine g_X1_runThrough_72 (Q1 := fun _ _ => True) (Q2 := fun r ψ => r = none ∧ (ψ.1 = φ.1 ∧ ∀ a i : Int, ¬ (54 ≤ a ∧ a ≤ 59) → rd ψ a i = rd φ a i) ∧ DRU σ (i : Int) (dLift σ k (i : Int) (l : Int) (dLifts σ k (i : Int) (dAll σ k (i : Int) B 10) l)) ψ) hd (S2.eq F2.1) (i : Int) (l : Int) (cx2.1.i6 L) (by unfold inR; omega) (by rw [er]; unfold inR; omega) (fun c => by rw [er] at c; omega) (fun c => by rw [er] at c; omega) (fun _ => letOn_C (Nat.le_refl 3) S L hZ cx2 ⟨by omega, by omega⟩ hm DU2 (okL l (by omega)) t1.2.1) (fun _ τ2 _ q2 => ?_)
          rw [show (l : Int) + 1 = ((l + 1 : Nat) : Int) by omega]
          exact ih2 (l + 1) τ2 (by omega) ⟨q2.2.1.1.trans F2.1, fun a x p => (q2.2.1.2 a x (by omega)).trans (F2.2 a x p)⟩ q2.2.2 (LG2.fr (fun a x p => q2.2.1.2 a x (by omega)))
      have places : ∀ (n j : Nat) (φ : pS), j + n = 10 → (φ.1 = τ.1 ∧ ∀ a i : Int, ¬ (51 ≤ a ∧ a ≤ 60) → rd φ a i = rd τ a i) → DRow σ (i : Int) (dAll σ k (i : Int) B j) φ → (∀ q : Int, 0 ≤ q → q < (j : Int) → rd φ 57 q = dAll σ k (i : Int) B j 124 q) → (∀ q : Int, (j : Int) ≤ q → q < 10 → rd φ 57 q = dDay σ k i 124 q ∧ rd φ 56 (10 * (i : Int) + q) = dDay σ k i 126 (10 * (i : Int) + q) + arC σ (10 * (i : Int) + q)) → LogC σ k i φ → pR mX1_runThrough d 20 [(2, 50), (0, (i : Int)), (0, (j : Int))] [] φ (dayC σ k τ) := fun n => by
        induction n with
        | zero =>
          intro j φ hj F2 DR2 e57 _ LG2
          have e10 : j = 10 := by omega
          subst e10
          exact g_X1_runThrough_20 (Q1 := fun _ _ => True) hd (S2.eq F2.1) (i : Int) _ (by decide) (fun _ => lifts (rd σ 68 30).toNat 0 φ (by omega) F2 ⟨DR2, fun p p0 p1 => e57 p p0 p1⟩ LG2) (fun c => absurd c (by decide)) (fun c => absurd c (by decide)) (fun c => absurd c (by decide)) (fun c => absurd c (by decide))
        | succ n ih2 =>
          intro j φ hj F2 DR2 e57 e56 LG2
          have cx2 := h.fr L F2.1 F2.2
          have ok := okA j (by omega)
          have ej := e56 (j : Int) (Int.le_refl _) (by omega)
          have em : rd φ 57 (j : Int) + rd φ 56 ((i : Int) * 10 + (j : Int)) = dAll σ k (i : Int) B j 124 (j : Int) := by
            rw [show (i : Int) * 10 + (j : Int) = 10 * (i : Int) + (j : Int) by omega, dAll_124 j (Int.le_refl _), B124 _ (by omega) (by omega), ej.1, ej.2]
            omega
          have m0 := ok.1.1 (j : Int) (by omega) (by omega)
          have m1 := (ok.1.le hZ).1 (j : Int) (by omega) (by omega)
          rw [ok.2.1] at m1
          have cx3 : CX σ k (wr φ 57 (j : Int) (dAll σ k (i : Int) B j 124 (j : Int))) := cx2.fr L rfl (fun a x p => rd_wr_n (by omega))
          refine g_X1_runThrough_20 (Q1 := fun r ψ => r = some (0, dTurns σ k (i : Int) (j : Int) (dAll σ k (i : Int) B j 124 (j : Int)).toNat (dAll σ k (i : Int) B j) 124 (j : Int)) ∧ tkFr (i : Int) (wr φ 57 (j : Int) (dAll σ k (i : Int) B j 124 (j : Int))) ψ ∧ DRow σ (i : Int) (dTurns σ k (i : Int) (j : Int) (dAll σ k (i : Int) B j 124 (j : Int)).toNat (dAll σ k (i : Int) B j)) ψ) hd (S2.eq F2.1) (i : Int) (j : Int) (by unfold inR; omega) (fun c => by omega) (fun _ => by omega) (fun _ => by omega) (fun _ => ?_) (fun _ v1 τ1 _ q1 => ?_)
          · rw [em]
            exact takeTurns_C (Nat.le_refl 5) S L C cx3 ⟨by omega, by omega⟩ hm (DR2.fr (fun a x p => rd_wr_n (by omega))) (ok.sn L (by omega)) ok.2.2.1 ⟨m0, by omega⟩ rfl
          · have ev : v1 = dAll σ k (i : Int) B (j + 1) 124 (j : Int) := congrArg (fun o => (o.getD (0, 0)).2) q1.1
            have fr : ∀ a x : Int, ¬ (a = 54 ∨ (a = 56 ∧ 10 * ((i : Int) + 1) ≤ x) ∨ a = 57 ∨ a = 58 ∨ a = 59 ∨ a = 60) → rd (wr τ1 57 (j : Int) v1) a x = rd φ a x := fun a x p => by
              rw [rd_wr_n (by omega), q1.2.1.2 a x (by omega), rd_wr_n (by omega)]
            have f57 : ∀ q : Int, q ≠ (j : Int) → rd (wr τ1 57 (j : Int) v1) 57 q = rd φ 57 q := fun q hq => by
              rw [rd_wr_n (by omega), q1.2.1.2 57 q (by omega), rd_wr_n (by omega)]
            rw [show (j : Int) + 1 = ((j + 1 : Nat) : Int) by omega]
            refine ih2 (j + 1) _ (by omega) ⟨q1.2.1.1.trans F2.1, fun a x p => (fr a x (by omega)).trans (F2.2 a x p)⟩ (DRow.fr q1.2.2 (fun a x p => rd_wr_n (by omega))) (fun q q0 q1' => ?_) (fun q q0 q1' => ?_) (LG2.fr (fun a x p => fr a x (by omega)))
            · by_cases z : q = (j : Int)
              · rw [z, rd_wr_same]; exact ev
              · rw [f57 q z, e57 q q0 (by omega)]
                exact (dTurns_124 z _ _).symm
            · rw [f57 q (by omega), fr 56 _ (by omega)]
              exact e56 q (by omega) q1'
      refine g_X1_runThrough_6 (Q1 := fun r φ => r = none ∧ (φ.1 = υ.1 ∧ ∀ a i : Int, a ≠ 60 → rd φ a i = rd υ a i) ∧ DRow σ ((i : Int) - 1) (dSnow σ k (i : Int) (dDay σ k i)) φ) hd (S2.eq F.1) (i : Int) u2 hu (by unfold inR; omega) (fun c => by omega) (fun _ => letSnow_C (Nat.le_refl 1) S L W C cx hm DU.1) (fun _ τ1 _ q1 => ?_)
      refine places 10 0 τ1 rfl ⟨q1.2.1.1.trans F.1, fun a x p => (q1.2.1.2 a x (by omega)).trans (F.2 a x p)⟩ ?_ (fun q q0 q1 => by omega) (fun q q0 q1' => ?_) (LG.fr (fun a x p => q1.2.1.2 a x (by omega)))
      · refine q1.2.2.up (by omega) (fun a x p => ?_)
        show B a x = _
        rw [← hB]
        show (if a = 124 then _ else if a = 126 ∧ 10 * (i : Int) ≤ x ∧ x < 10 * (i : Int) + 10 then _ else _) = _
        rw [if_neg (by omega), if_neg (by omega)]
      · rw [q1.2.1.2 57 q (by decide), q1.2.1.2 56 _ (by decide)]
        exact ⟨DU.2 q q0 q1', DU.1.2.2.2.2 _ (by omega) (by omega)⟩
  refine g_X1_runThrough_0 (Q1 := fun r υ => r = none ∧ (υ.1 = τ.1 ∧ ∀ a i : Int, ¬ (54 ≤ a ∧ a ≤ 60) → rd υ a i = rd τ a i) ∧ DRU σ (-1) (dInit σ) υ) hd S2 (dBegin_C (Nat.le_refl 1) S L C h) (fun τ1 e1 q1 => ?_)
  exact loop 480 0 (9, 0) τ1 (by decide) rfl ⟨q1.2.1.1, fun a i p => q1.2.1.2 a i (by omega)⟩ q1.2.2 (fun t ht => by omega)
/-- the answer of a day -/
def dAns (σ : pS) (k : Int) : Int := dDay σ k 480 124 (rd σ 68 32) + qS σ (dDay σ k 480) (rd σ 68 32) (rd σ 68 30).toNat
