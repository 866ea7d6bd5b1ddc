/-! the reference reads a mountain's lines -/
theorem readLine_M {σ : pS} {n : Int} {K P V E : Nat → Int} {c d : Nat} {φ : pS} {s : mdS} (hd : 4 ≤ d) (S : Stat φ) (T : TK σ n K P V E c) (I : mInv K P V c s) (B : mOB K V s φ) (H : mSt σ n K P V E c none (mAt s) φ) : pC mX11_readLine d [(2, 68)] φ (rlQ σ n K P V E c s φ) := by
  have R := T.R
  have hc := (H.2.1 rfl).2.2
  have so := hc.sort R
  have wd := hc.word R
  have i1 := I.1
  have i2 := I.2.1
  have h6 : inR (rd φ 68 6) := by unfold inR; omega
  have w0 : vIsW φ 1818846836 = decide (K (mAt s) = 0) := wd.1 0 (by decide)
  have w1 : vIsW φ 7501166 = decide (K (mAt s) = 1) := wd.1 1 (by decide)
  have w2 : vIsW φ 1752132965 = decide (K (mAt s) = 2) := wd.1 2 (by decide)
  have good : lnB K s = true → pR mX11_readLine d 70 [(2, 68), (0, (b2i (vIsW φ 1818846836))), (0, (b2i (vIsW φ 7501166)))] [] φ (rlQ σ n K P V E c s φ) := fun z =>
    line70 hd S T I B (H.to (by rw [ck_t z]) (fun _ => rfl)) (mFr.rf φ) (by rw [w0]) (by rw [w1])
  have bad : lnB K s = false → pC mX11_wrong 0 [(2, 68), (0, 2)] φ (fun r τ => r = none ∧ mFr φ τ ∧ mSt σ n K P V E c (ck K P (lnB K s) 2 (mAt s)) (mAt s) τ) := fun z =>
    (wrong_M S R H (w := 2) (by decide) (mAt s)).mono fun r τ _ q => ⟨q.1, q.2.1, mSt.ck z q.2.2⟩
  have go : ∀ τ : pS, mFr φ τ → mSt σ n K P V E c (ck K P (lnB K s) 2 (mAt s)) (mAt s) τ → pR mX11_readLine d 70 [(2, 68), (0, (b2i (vIsW φ 1818846836))), (0, (b2i (vIsW φ 7501166)))] [] τ (rlQ σ n K P V E c s φ) := fun τ f h =>
    line70 hd S T I B h f (by rw [w0]) (by rw [w1])
  have t1 : ∀ {q : Prop} [Decidable q] {b : Bool}, b = decide q → b = true → q := fun e h => of_decide_eq_true (e.symm.trans h)
  have f1 : ∀ {q : Prop} [Decidable q] {b : Bool}, b = decide q → b = false → ¬ q := fun e h => of_decide_eq_false (e.symm.trans h)
  have L0 := B.1
  have R0 := B.2.1
  have T0 := B.2.2.2.1
  refine g_X11_readLine_0 (Q1 := fun r τ => r = none ∧ mFr φ τ ∧ mSt σ n K P V E c (ck K P (lnB K s) 2 (mAt s)) (mAt s) τ) (Q2 := fun r τ => r = none ∧ mFr φ τ ∧ mSt σ n K P V E c (ck K P (lnB K s) 2 (mAt s)) (mAt s) τ) (Q3 := fun r τ => r = none ∧ mFr φ τ ∧ mSt σ n K P V E c (ck K P (lnB K s) 2 (mAt s)) (mAt s) τ) (Q4 := fun r τ => r = none ∧ mFr φ τ ∧ mSt σ n K P V E c (ck K P (lnB K s) 2 (mAt s)) (mAt s) τ) hd S (isWord_C S h6 (fun z => (wd.2.2 z).2.1) (by decide)) (isWord_C S h6 (fun z => (wd.2.2 z).2.1) (by decide)) (fun _ _ => isWord_C S h6 (fun z => (wd.2.2 z).2.1) (by decide)) (fun c1 c3 c5 => bad (decide_eq_false ?_)) (fun _ _ _ τ4 _ q => go τ4 q.2.1 q.2.2) (fun _ _ _ => by rw [T0]; exact b2i_Ri _) (fun c1 c3 c6 c7 => good (decide_eq_true ?_)) (fun c1 c3 c6 c8 => bad (decide_eq_false ?_)) (fun _ _ _ _ τ5 _ q => go τ5 q.2.1 q.2.2) (fun _ _ => by rw [R0]; unfold inR; omega) (fun c1 c4 c9 => good (decide_eq_true ?_)) (fun c1 c4 c10 => bad (decide_eq_false ?_)) (fun _ _ _ τ6 _ q => go τ6 q.2.1 q.2.2) (fun _ => by rw [L0]; unfold inR; omega) (fun c2 c11 => good (decide_eq_true ?_)) (fun c2 c12 => bad (decide_eq_false ?_)) (fun _ _ τ7 _ q => go τ7 q.2.1 q.2.2)
  · have a := f1 w0 c1; have b := f1 w1 c3; have e := f1 w2 c5
    omega
  · have a := t1 w2 c6
    rw [T0] at c7
    exact Or.inr (Or.inr ⟨a, b2i_0 c7⟩)
  · have a := t1 w2 c6
    rw [T0] at c8
    have := b2i_n c8
    intro z
    rcases z with y | y | y
    · omega
    · omega
    · rw [this] at y; cases y.2
  · have a := t1 w1 c4
    exact Or.inr (Or.inl ⟨a, by omega⟩)
  · have a := t1 w1 c4
    omega
  · have a := t1 w0 c2
    exact Or.inl ⟨a, by omega⟩
  · have a := t1 w0 c2
    omega
/-- the reference goes through all lines, as the class did -/
theorem mountLoop {σ : pS} {n : Int} {K P V E : Nat → Int} {c d : Nat} {φ0 : pS} {t : mdS} {Q : Option pV → pS → Prop} (hd : 5 ≤ d) (S : Stat φ0) (T : TK σ n K P V E c)
    (hEnd : K (mAt t) = 21 → ∀ φ : pS, mInv K P V c t → mSt σ n K P V E c none (mAt t) φ → mOB K V t φ → rlFr φ0 φ → rd φ 68 20 = mN t → pR mX11_mountain d 61 [(2, 68), (0, 0)] [] φ Q)
    (hBad : ∀ x, lineO K P V t = some x → K (mAt t) ≠ 21 → ∀ φ : pS, mSt σ n K P V E c (some x) 0 φ → rlFr φ0 φ → Q (some (0, -1)) φ)
    (fin : K (mAt t) = 21 ∨ (K (mAt t) ≠ 21 ∧ ∃ x, lineO K P V t = some x)) :
    ∀ (m : Nat) (s : mdS) (φ : pS) (u1 : pV), u1.1 ≠ 1 → runs K P V m s t → mInv K P V c s → mSt σ n K P V E c none (mAt s) φ → mOB K V s φ → rlFr φ0 φ → rd φ 68 20 = mN s → pR mX11_mountain d 29 [(2, 68), u1] [] φ Q := by
  have R := T.R
  intro m
  induction m with
  | zero =>
    intro s φ u1 hu run I H B F e20
    have est : s = t := run
    subst est
    have hc := (H.2.1 rfl).2.2
    have so := hc.sort R
    have z2 := (H.2.1 rfl).1
    rcases fin with k21 | ⟨k21, x, hx⟩
    · exact g_X11_mountain_29 (Q1 := fun _ _ => True) hd (S.eq F.1) u1 hu (by unfold inR; omega) (fun c1 => absurd z2 c1) (fun c1 => absurd z2 c1) (fun _ => by unfold inR; omega) (fun _ _ _ => hEnd k21 φ I H B F e20) (fun _ _ c8 => by omega) (fun _ c6 => absurd (so.2.2.2.2.1.mp k21) c6) (fun _ c6 => absurd (so.2.2.2.2.1.mp k21) c6)
    · refine g_X11_mountain_29 (Q1 := rlQ σ n K P V E c s φ) hd (S.eq F.1) u1 hu (by unfold inR; omega) (fun c1 => absurd z2 c1) (fun c1 => absurd z2 c1) (fun _ => by unfold inR; omega) (fun _ c5 => absurd (so.2.2.2.2.1.mpr c5) k21) (fun _ c5 => absurd (so.2.2.2.2.1.mpr c5) k21) (fun _ _ => readLine_M (Nat.le_refl 4) (S.eq F.1) T I B H) (fun _ _ τ1 _ q => ?_)
      obtain ⟨q1, q2, q3, q4⟩ := q
      rw [hx] at q2
      have f := q2.fault
      have ne : rd τ1 68 2 ≠ 0 := fun y => (by cases f.2.2.2.mp y)
      refine g_X11_mountain_29 (Q1 := fun _ _ => True) hd (S.eq (F.tr q3).1) u1 hu f.1 (fun _ c3 => (by cases f.2.1 c3)) (fun _ _ => hBad x hx k21 τ1 (q2.to rfl (fun y => (by cases y))) (F.tr q3)) (fun c2 => absurd c2 ne) (fun c2 => absurd c2 ne) (fun c2 => absurd c2 ne) (fun c2 => absurd c2 ne) (fun c2 => absurd c2 ne)
  | succ m ih =>
    intro s φ u1 hu run I H B F e20
    obtain ⟨k21, ho, run⟩ := run
    have hc := (H.2.1 rfl).2.2
    have so := hc.sort R
    have z2 := (H.2.1 rfl).1
    refine g_X11_mountain_29 (Q1 := rlQ σ n K P V E c s φ) hd (S.eq F.1) u1 hu (by unfold inR; omega) (fun c1 => absurd z2 c1) (fun c1 => absurd z2 c1) (fun _ => by unfold inR; omega) (fun _ c5 => absurd (so.2.2.2.2.1.mpr c5) k21) (fun _ c5 => absurd (so.2.2.2.2.1.mpr c5) k21) (fun _ _ => readLine_M (Nat.le_refl 4) (S.eq F.1) T I B H) (fun _ _ τ1 _ q => ?_)
    obtain ⟨q1, q2, q3, q4⟩ := q
    rw [ho] at q2
    have N := lineN_inv R I (R.lt hc.1 k21) ho
    exact ih (lineN K V s) τ1 u1 hu run N.1 q2 (q4 ho).1 (F.tr q3) (by rw [(q4 ho).2, e20, N.2.2]; omega)
