/-! the reference reads a line -/
def rlQ (σ : pS) (n : Int) (K P V E : Nat → Int) (c : Nat) (s : mdS) (φ : pS) (r : Option pV) (τ : pS) : Prop := r = none ∧ mSt σ n K P V E c (lineO K P V s) (mAt (lineN K V s)) τ ∧ rlFr φ τ ∧ (lineO K P V s = none → mOB K V (lineN K V s) τ ∧ rd τ 68 20 = rd φ 68 20 + 1)
theorem mOB_w20 {K V : Nat → Int} {s : mdS} {φ : pS} {v : Int} (h : mOB K V s φ) : mOB K V s (wr φ 68 20 v) := by
  obtain ⟨h1, h2, h3, h4, h5, h6⟩ := h
  refine ⟨by rw [rd_wr_n (by omega)]; exact h1, by rw [rd_wr_n (by omega)]; exact h2, by rw [rd_wr_n (by omega)]; exact h3, by rw [rd_wr_n (by omega)]; exact h4, fun w hw => ?_, fun r hr => ?_⟩
  · obtain ⟨a1, a2, a3⟩ := h5 w hw
    exact ⟨by rw [rd_wr_n (by omega)]; exact a1, fun a a0 a1 => by rw [rd_wr_n (by omega)]; exact a2 a a0 a1, by rw [rd_wr_n (by omega)]; exact a3⟩
  · obtain ⟨a1, a2⟩ := h6 r hr
    exact ⟨by rw [rd_wr_n (by omega)]; exact a1, fun a a0 a1 => by rw [rd_wr_n (by omega)]; exact a2 a a0 a1⟩
theorem line133 {σ : pS} {n : Int} {K P V E : Nat → Int} {c d : Nat} {φ ψ : pS} {s : mdS} {k : Nat} (hd : 4 ≤ d) (S : Stat φ) (T : TK σ n K P V E c) (h : mSt σ n K P V E c (lineO K P V s) k ψ) (hk : lineO K P V s = none → K k = 59 ∧ k + 1 = mAt (lineN K V s)) (F : rlFr φ ψ) (e20 : rd ψ 68 20 = rd φ 68 20) (B : lineO K P V s = none → mOB K V (lineN K V s) ψ) (x1 x2 : Int) : pR mX11_readLine d 133 [(2, 68), (0, x1), (0, x2)] [] ψ (rlQ σ n K P V E c s φ) := by
  have R := T.R
  have f := h.fault
  refine g_X11_readLine_133 (Q1 := fun r τ => r = none ∧ nxFr ψ τ ∧ lineO K P V s = none ∧ mSt σ n K P V E c none (k + 1) τ) hd (S.eq F.1) x1 x2 f.1 (fun c1 => ?_) (fun c1 τ1 _ q1 => ?_) (fun c2 => ⟨rfl, h.to rfl (fun y => absurd y (f.2.2.1 c2)), F, fun y => absurd y (f.2.2.1 c2)⟩)
  · have o := f.2.1 c1
    have h' := h
    rw [o] at h'
    have hc := (h'.2.1 rfl).2.2
    have k59 := (hk o).1
    exact (next_M (Nat.le_refl 1) (S.eq F.1) T h' (R.lt hc.1 (by omega)) (by omega)).mono fun r τ _ q => ⟨q.1, q.2.1, o, q.2.2⟩
  · obtain ⟨y1, y2, o, y3⟩ := q1
    refine ⟨rfl, ?_, F.tr ((y2.m.rl).tr ⟨rfl, fun a i z1 z2 z3 => rd_wr_n (by omega)⟩), fun _ => ⟨mOB_w20 ((B o).mF y2.m), ?_⟩⟩
    · rw [o, ← (hk o).2]; exact y3.wr (by omega)
    · rw [rd_wr_same, y2.2 _ _ (by omega), e20]
theorem line112 {σ : pS} {n : Int} {K P V E : Nat → Int} {c d : Nat} {φ ψ : pS} {s : mdS} {k : Nat} {o : pO} (hd : 4 ≤ d) (S : Stat φ) (T : TK σ n K P V E c) (h : mSt σ n K P V E c o k ψ) (eo : lineO K P V s = oo o (ck K P (decide (K k = 59)) 2 k)) (hk : lineO K P V s = none → k + 1 = mAt (lineN K V s)) (F : rlFr φ ψ) (e20 : rd ψ 68 20 = rd φ 68 20) (B : o = none → mOB K V (lineN K V s) ψ) (x1 x2 : Int) : pR mX11_readLine d 112 [(2, 68), (0, x1), (0, x2)] [] ψ (rlQ σ n K P V E c s φ) := by
  have R := T.R
  have f := h.fault
  have k59 : lineO K P V s = none → K k = 59 := fun y => by
    rw [eo] at y
    exact of_decide_eq_true (ck_none.mp (oo_none_iff.mp y).2)
  have on : lineO K P V s = none → o = none := fun y => by
    rw [eo] at y
    exact (oo_none_iff.mp y).1
  refine g_X11_readLine_112 (Q1 := fun r τ => r = none ∧ mFr ψ τ ∧ o = none ∧ mSt σ n K P V E c (oo none (some (if K k = 22 then 1 else 2, P k))) k τ) hd (S.eq F.1) x1 x2 f.1 (fun c1 => ?_) (fun c2 => ?_) (fun c2 c3 => ?_) (fun c2 c4 => ?_) (fun c2 c4 τ1 _ q1 => ?_)
  · have no : o ≠ none := fun y => c1 (f.2.2.2.mpr y)
    have e : lineO K P V s = o := by
      rw [eo]
      cases ho : o with
      | none => exact absurd ho no
      | some y => rfl
    exact line133 hd S T (h.to e.symm (fun y => absurd y no)) (fun y => ⟨k59 y, hk y⟩) F e20 (fun y => B (on y)) x1 x2
  · have o0 := f.2.2.2.mp c2
    have so := (h.2.1 o0).2.2.sort R
    unfold inR; omega
  · have o0 := f.2.2.2.mp c2
    have so := (h.2.1 o0).2.2.sort R
    have e59 : K k = 59 := (so.2.2.2.2.2.1 59 (by decide)).mpr c3
    have e : lineO K P V s = o := by rw [eo, ck_t (decide_eq_true e59), oo_n]
    exact line133 hd S T (h.to e.symm (fun _ => rfl)) (fun y => ⟨k59 y, hk y⟩) F e20 (fun y => B (on y)) x1 x2
  · have o0 := f.2.2.2.mp c2
    have h' := h
    rw [o0] at h'
    exact (wrong_M (S.eq F.1) R h' (w := 2) (by decide) k).mono fun r τ _ q => ⟨q.1, q.2.1, o0, q.2.2⟩
  · obtain ⟨y1, y2, o0, y3⟩ := q1
    have so := (h.2.1 o0).2.2.sort R
    have e59 : K k ≠ 59 := fun y => c4 ((so.2.2.2.2.2.1 59 (by decide)).mp y)
    have e : lineO K P V s = some (if K k = 22 then 1 else 2, P k) := by rw [eo, o0, ck_f (decide_eq_false e59)]; rfl
    exact line133 hd S T (y3.to e.symm (fun _ => rfl)) (fun y => ⟨k59 y, hk y⟩) (F.tr y2.rl) ((y2.2 _ _ (by omega)).trans e20) (fun y => (B (on y)).mF y2) x1 x2
def lnB (K : Nat → Int) (s : mdS) : Bool := decide ((K (mAt s) = 0 ∧ mL s < 6) ∨ (K (mAt s) = 1 ∧ mR s < 7) ∨ (K (mAt s) = 2 ∧ mTd s = false))
theorem lnB_f {K P V : Nat → Int} {s : mdS} (h : lnB K s = false) : lineO K P V s = ck K P (lnB K s) 2 (mAt s) := by
  have h0 := h
  unfold lnB at h
  have h := of_decide_eq_false h
  rw [ck_f h0]
  unfold lineO
  rw [if_neg (fun z => h (Or.inl z)), if_neg (fun z => h (Or.inr (Or.inl z))), if_neg (fun z => h (Or.inr (Or.inr z)))]
theorem line70 {σ : pS} {n : Int} {K P V E : Nat → Int} {c d : Nat} {φ ψ : pS} {s : mdS} (hd : 4 ≤ d) (S : Stat φ) (T : TK σ n K P V E c) (I : mInv K P V c s) (B : mOB K V s φ) (h : mSt σ n K P V E c (ck K P (lnB K s) 2 (mAt s)) (mAt s) ψ) (F : mFr φ ψ) {x1 x2 : Int} (h1 : x1 = b2i (decide (K (mAt s) = 0))) (h2 : x2 = b2i (decide (K (mAt s) = 1))) : pR mX11_readLine d 70 [(2, 68), (0, x1), (0, x2)] [] ψ (rlQ σ n K P V E c s φ) := by
  have R := T.R
  have f := h.fault
  by_cases z : lnB K s = true
  · have z0 := z
    unfold lnB at z
    have z := of_decide_eq_true z
    rw [ck_t z0] at h
    have hc := (h.2.1 rfl).2.2
    have i1 := I.1
    have i2 := I.2.1
    have jc : mAt s < c := R.lt hc.1 (by omega)
    have lift : K (mAt s) = 0 → ∀ τ1 : pS, nxFr ψ τ1 → mSt σ n K P V E c none (mAt s + 1) τ1 → pC mX11_readWay 3 [(2, 68), (0, 1)] τ1 (liftM σ n K P V E c (mL s : Int) τ1 (ntS V s (V (mAt s + 1))) (mAt s)) := fun k0 τ1 F1 H1 =>
      readWayL_C (Nat.le_refl 3) (S.eq (F1.1.trans F.1)) T I ((B.mF F).mF F1.m) H1 (by omega)
    have run : K (mAt s) = 1 → ∀ τ1 : pS, nxFr ψ τ1 → mSt σ n K P V E c none (mAt s + 1) τ1 → pC mX11_readWay 3 [(2, 68), (0, 0)] τ1 (runM σ n K P V E c ((6 + mR s : Nat) : Int) τ1 (ntS V s (V (mAt s + 1))) (mAt s)) := fun k0 τ1 F1 H1 =>
      readWayR_C (Nat.le_refl 3) (S.eq (F1.1.trans F.1)) T I ((B.mF F).mF F1.m) H1 (by omega)
    refine g_X11_readLine_70 (Q1 := fun r τ => r = none ∧ nxFr ψ τ ∧ mSt σ n K P V E c none (mAt s + 1) τ)
      (Q2 := fun r τ => K (mAt s) = 0 ∧ ∃ τ1, nxFr ψ τ1 ∧ liftM σ n K P V E c (mL s : Int) τ1 (ntS V s (V (mAt s + 1))) (mAt s) r τ)
      (Q3 := fun r τ => K (mAt s) = 2 ∧ ∃ v τ1, nxFr ψ τ1 ∧ r = some (0, v) ∧ mFr τ1 τ ∧ mSt σ n K P V E c (ck K P (decide (K (mAt s + 1) = 20)) 2 (mAt s + 1)) (mAt s + 2) τ ∧ (ck K P (decide (K (mAt s + 1) = 20)) 2 (mAt s + 1) = none → v = V (mAt s + 1)))
      (Q4 := fun r τ => K (mAt s) = 1 ∧ ∃ τ1, nxFr ψ τ1 ∧ runM σ n K P V E c ((6 + mR s : Nat) : Int) τ1 (ntS V s (V (mAt s + 1))) (mAt s) r τ)
      hd (S.eq F.1) x1 x2 f.1 (fun _ => next_M (Nat.le_refl 1) (S.eq F.1) T h jc (by omega)) (fun _ τ1 _ q1 => by rw [h1]; exact b2i_Ri _) (fun _ τ1 _ q1 c3 => ?_) (fun _ τ1 _ q1 c3 τ2 _ q2 => ?_) (fun _ τ1 _ q1 c4 => by rw [h2]; exact b2i_Ri _) (fun _ τ1 _ q1 c4 c5 => ?_) (fun _ τ1 _ q1 c4 c5 v3 τ3 _ q3 => ?_) (fun _ τ1 _ q1 c4 c6 => ?_) (fun _ τ1 _ q1 c4 c6 τ4 _ q4 => ?_) (fun c2 => by have := (h.2.1 rfl).1; omega)
    · rw [h1] at c3
      have k0 := of_decide_eq_true (b2i_n c3)
      rw [h1, decide_eq_true k0]
      exact (lift k0 τ1 q1.2.1 q1.2.2).mono fun r τ _ q => ⟨k0, τ1, q1.2.1, q⟩
    · obtain ⟨k0, τ1', F1, q⟩ := q2
      have l6 : mL s < 6 := by omega
      have e : lineO K P V s = liftO K P V (ntS V s (V (mAt s + 1))) (mAt s) := if_pos ⟨k0, l6⟩
      have en : lineN K V s = ((mL s + 1, mR s), mN s + 1, (mTd s, mHm s), (fun w => if w = mL s then mAt s else mB s w), lsc K (mAt s) + 1) := if_pos k0
      have B1 := (B.mF F).mF F1.m
      have W := q.2.2.1
      refine line112 hd S T q.2.1 (by rw [e, liftO_W]) (fun _ => by rw [en]; rfl) ((F.tr F1.m).rl.tr W.rl) (by rw [W.2 _ _ (by omega) (by omega) (by omega), F1.2 _ _ (by omega), F.2 _ _ (by omega)]) (fun o => ?_) x1 x2
      obtain ⟨g1, g2, g3, g4, g5⟩ := q.2.2.2 o
      rw [en]
      refine ⟨?_, ?_, ?_, ?_, fun w hw => ?_, fun r hr => ?_⟩
      · rw [g1, B1.1]; rfl
      · rw [g2]; exact B1.2.1
      · rw [W.2 _ _ (by omega) (by omega) (by omega)]; exact B1.2.2.1
      · rw [W.2 _ _ (by omega) (by omega) (by omega)]; exact B1.2.2.2.1
      · have hw : w < mL s + 1 := hw
        show rd τ2 70 (w : Int) = cd (V ((if w = mL s then mAt s else mB s w) + 1)) ∧ (∀ a : Int, 71 ≤ a → a ≤ 76 → rd τ2 a (w : Int) = liftG V (if w = mL s then mAt s else mB s w) a) ∧ rd τ2 83 (w : Int) = b2i (decide (K ((if w = mL s then mAt s else mB s w) + 12) = 7))
        by_cases y : w = mL s
        · rw [if_pos y, y]; exact ⟨g3, g4, g5⟩
        · rw [if_neg y]
          obtain ⟨b1, b2, b3⟩ := B1.2.2.2.2.1 w (by omega)
          exact ⟨by rw [W.2 _ _ (by omega) (by omega) (by omega)]; exact b1, fun a a0 a1 => by rw [W.2 _ _ (by omega) (by omega) (by omega)]; exact b2 a a0 a1, by rw [W.2 _ _ (by omega) (by omega) (by omega)]; exact b3⟩
      · have hr : r < mR s := hr
        show rd τ2 70 ((6 + r : Nat) : Int) = cd (V ((if 10 + r = mL s then mAt s else mB s (10 + r)) + 1)) ∧ ∀ a : Int, 71 ≤ a → a ≤ 75 → rd τ2 a ((6 + r : Nat) : Int) = runG V (if 10 + r = mL s then mAt s else mB s (10 + r)) a
        rw [if_neg (by omega)]
        obtain ⟨b1, b2⟩ := B1.2.2.2.2.2 r hr
        exact ⟨by rw [W.2 _ _ (by omega) (by omega) (by omega)]; exact b1, fun a a0 a1 => by rw [W.2 _ _ (by omega) (by omega) (by omega)]; exact b2 a a0 a1⟩
    · rw [h1] at c4
      rw [h2] at c5
      have k0 := of_decide_eq_false (b2i_0 c4)
      have k1 := of_decide_eq_false (b2i_0 c5)
      have k2 : K (mAt s) = 2 := by omega
      refine (point_M (Nat.le_refl 2) (S.eq (q1.2.1.1.trans F.1)) T q1.2.2 (x := -1) (fun _ => by decide)).mono fun r τ _ ⟨v, y1, y2, y3, y4⟩ => ?_
      have e : oo none (oo (ck K P (decide (K (mAt s + 1) = 20)) 2 (mAt s + 1)) (ck K P (decide (V (mAt s + 1) ≠ -1)) 5 (mAt s + 1))) = ck K P (decide (K (mAt s + 1) = 20)) 2 (mAt s + 1) := pt_neg R (by omega)
      rw [e] at y3 y4
      exact ⟨k2, v, τ1, q1.2.1, y1, y2, y3, y4⟩
    · obtain ⟨k2, v, τ1', F1, y1, F2, y3, y4⟩ := q3
      have ev := so_inj y1
      have td : mTd s = false := by
        rcases z with y | y | y
        · omega
        · omega
        · exact y.2
      have e : lineO K P V s = homeO K P (mAt s) := (if_neg (fun y => by omega)).trans ((if_neg (fun y => by omega)).trans (if_pos ⟨k2, td⟩))
      have en : lineN K V s = ((mL s, mR s), mN s + 1, (true, V (mAt s + 1)), mB s, mAt s + 3) := (if_neg (by omega)).trans (if_neg (by omega))
      have B1 := ((B.mF F).mF F1.m).mF F2
      refine line112 (o := ck K P (decide (K (mAt s + 1) = 20)) 2 (mAt s + 1)) (k := mAt s + 2) hd S T ((y3.wr (by omega)).wr (by omega)) (by rw [e]; rfl) (fun _ => by rw [en]; rfl) (((F.tr F1.m).tr F2).rl.tr ⟨rfl, fun a i w1 w2 w3 => by rw [rd_wr_n (by omega), rd_wr_n (by omega)]⟩) (by rw [rd_wr_n (by omega), rd_wr_n (by omega), F2.2 _ _ (by omega), F1.2 _ _ (by omega), F.2 _ _ (by omega)]) (fun o => ?_) x1 x2
      rw [en]
      refine ⟨?_, ?_, ?_, ?_, fun w hw => ?_, fun r hr => ?_⟩
      · rw [rd_wr_n (by omega), rd_wr_n (by omega)]; exact B1.1
      · rw [rd_wr_n (by omega), rd_wr_n (by omega)]; exact B1.2.1
      · rw [rd_wr_n (by omega), rd_wr_same, ev, y4 o]; rfl
      · rw [rd_wr_same]; rfl
      · obtain ⟨b1, b2, b3⟩ := B1.2.2.2.2.1 w hw
        exact ⟨by rw [rd_wr_n (by omega), rd_wr_n (by omega)]; exact b1, fun a a0 a1 => by rw [rd_wr_n (by omega), rd_wr_n (by omega)]; exact b2 a a0 a1, by rw [rd_wr_n (by omega), rd_wr_n (by omega)]; exact b3⟩
      · obtain ⟨b1, b2⟩ := B1.2.2.2.2.2 r hr
        exact ⟨by rw [rd_wr_n (by omega), rd_wr_n (by omega)]; exact b1, fun a a0 a1 => by rw [rd_wr_n (by omega), rd_wr_n (by omega)]; exact b2 a a0 a1⟩
    · rw [h2] at c6
      have k1 := of_decide_eq_true (b2i_n c6)
      rw [c4]
      exact (run k1 τ1 q1.2.1 q1.2.2).mono fun r τ _ q => ⟨k1, τ1, q1.2.1, q⟩
    · obtain ⟨k1, τ1', F1, q⟩ := q4
      have r7 : mR s < 7 := by omega
      have e : lineO K P V s = runO K P V (ntS V s (V (mAt s + 1))) (mAt s) := (if_neg (fun y => by omega)).trans (if_pos ⟨k1, r7⟩)
      have en : lineN K V s = ((mL s, mR s + 1), mN s + 1, (mTd s, mHm s), (fun w => if w = 10 + mR s then mAt s else mB s w), mAt s + 11) := (if_neg (by omega)).trans (if_pos k1)
      have B1 := (B.mF F).mF F1.m
      have W := q.2.2.1
      refine line112 hd S T q.2.1 (by rw [e, runO_W]) (fun _ => by rw [en]; rfl) ((F.tr F1.m).rl.tr W.rl) (by rw [W.2 _ _ (by omega) (by omega) (by omega), F1.2 _ _ (by omega), F.2 _ _ (by omega)]) (fun o => ?_) x1 x2
      obtain ⟨g1, g2, g3, g4⟩ := q.2.2.2 o
      rw [en]
      refine ⟨?_, ?_, ?_, ?_, fun w hw => ?_, fun r hr => ?_⟩
      · rw [g1]; exact B1.1
      · rw [g2, B1.2.1]; rfl
      · rw [W.2 _ _ (by omega) (by omega) (by omega)]; exact B1.2.2.1
      · rw [W.2 _ _ (by omega) (by omega) (by omega)]; exact B1.2.2.2.1
      · have hw : w < mL s := hw
        show rd τ4 70 (w : Int) = cd (V ((if w = 10 + mR s then mAt s else mB s w) + 1)) ∧ (∀ a : Int, 71 ≤ a → a ≤ 76 → rd τ4 a (w : Int) = liftG V (if w = 10 + mR s then mAt s else mB s w) a) ∧ rd τ4 83 (w : Int) = b2i (decide (K ((if w = 10 + mR s then mAt s else mB s w) + 12) = 7))
        rw [if_neg (by omega)]
        obtain ⟨b1, b2, b3⟩ := B1.2.2.2.2.1 w hw
        exact ⟨by rw [W.2 _ _ (by omega) (by omega) (by omega)]; exact b1, fun a a0 a1 => by rw [W.2 _ _ (by omega) (by omega) (by omega)]; exact b2 a a0 a1, by rw [W.2 _ _ (by omega) (by omega) (by omega)]; exact b3⟩
      · have hr : r < mR s + 1 := hr
        show rd τ4 70 ((6 + r : Nat) : Int) = cd (V ((if 10 + r = 10 + mR s then mAt s else mB s (10 + r)) + 1)) ∧ ∀ a : Int, 71 ≤ a → a ≤ 75 → rd τ4 a ((6 + r : Nat) : Int) = runG V (if 10 + r = 10 + mR s then mAt s else mB s (10 + r)) a
        by_cases y : r = mR s
        · rw [if_pos (by omega), y]; exact ⟨g3, g4⟩
        · rw [if_neg (by omega)]
          obtain ⟨b1, b2⟩ := B1.2.2.2.2.2 r (by omega)
          exact ⟨by rw [W.2 _ _ (by omega) (by omega) (by omega)]; exact b1, fun a a0 a1 => by rw [W.2 _ _ (by omega) (by omega) (by omega)]; exact b2 a a0 a1⟩
  · have zf : lnB K s = false := by cases y : lnB K s; rfl; exact absurd y z
    have e := lnB_f (P := P) (V := V) zf
    have no : lineO K P V s ≠ none := by rw [e, ck_f zf]; exact fun y => (by cases y)
    have c1 : ¬ (rd ψ 68 2 ≤ 0) := fun y => no (by rw [e]; exact f.2.1 y)
    exact g_X11_readLine_70 (Q1 := fun _ _ => True) (Q2 := fun _ _ => True) (Q3 := fun _ _ => True) (Q4 := fun _ _ => True) hd (S.eq F.1) x1 x2 f.1 (fun y => absurd y c1) (fun y => absurd y c1) (fun y => absurd y c1) (fun y => absurd y c1) (fun y => absurd y c1) (fun y => absurd y c1) (fun y => absurd y c1) (fun y => absurd y c1) (fun y => absurd y c1) (fun _ => ⟨rfl, h.to e.symm (fun y => absurd (e.trans y) no), F.rl, fun y => absurd y no⟩)
