/-! the class reckons a skier: passes, beginnings -/
def skF (a : Int) (τ υ : pS) : Prop := υ.1 = τ.1 ∧ ∀ b i : Int, ¬ (a + 1 ≤ b ∧ b ≤ a + 5) → rd υ b i = rd τ b i
/-- a skier under reckoning: where it stands, what it reads -/
def SKH (σ : pS) (k sk a : Int) (τ : pS) : Prop := CV σ k τ ∧ Inst5 τ a ∧ (141 ≤ a ∧ (a + 5 < rd σ 0 7 ∨ rd σ 0 7 + 10 < a)) ∧ rd τ a 0 = sk ∧ rd τ a 6 = rd σ 0 7 ∧ rd τ a 8 = k ∧ ∀ b i : Int, 29 ≤ b → b ≤ 34 → rd τ b i = rd σ b i
theorem qRow.skf {τ υ : pS} {a b : Int} (q : qRow τ υ b) (hb : a + 1 ≤ b ∧ b ≤ a + 5) : skF a τ υ := ⟨q.1, fun x i p => q.2 x i (fun z => p (by omega))⟩
theorem SKH.fr {σ τ υ : pS} {k sk a : Int} (h : SKH σ k sk a τ) (L : RSlo σ) (q : skF a τ υ) : SKH σ k sk a υ := by
  obtain ⟨⟨h1, h2, h3⟩, h4, h5, h6, h7, h8, h9⟩ := h
  have l0 := L.1
  exact ⟨⟨q.1.trans h1, fun b i b0 b1 => (q.2 b i (by omega)).trans (h2 b i b0 b1), h3.at (q.2 _ _ (by omega)) (fun b i b0 b1 => q.2 _ _ (by omega))⟩, ⟨(ob_eq q.1 _).trans h4.1, (ob_eq q.1 _).trans h4.2.1, (ob_eq q.1 _).trans h4.2.2.1, (ob_eq q.1 _).trans h4.2.2.2.1, (ob_eq q.1 _).trans h4.2.2.2.2.1, (ob_eq q.1 _).trans h4.2.2.2.2.2⟩, h5, (q.2 _ _ (by omega)).trans h6, (q.2 _ _ (by omega)).trans h7, (q.2 _ _ (by omega)).trans h8, fun b i b0 b1 => (q.2 _ _ (by omega)).trans (h9 b i b0 b1)⟩
theorem SKH.s6 {σ τ : pS} {k sk a : Int} (h : SKH σ k sk a τ) : rd τ a 6 = rd τ 35 4 := h.2.2.2.2.1.trans h.1.s4.symm
theorem SKH.st {σ τ : pS} {k sk a : Int} (h : SKH σ k sk a τ) (S : Stat σ) : Stat τ := h.1.st S
theorem passes_C {d : Nat} {σ τ : pS} (hd : 1 ≤ d) (S : Stat σ) (L : RSlo σ) (P : RPas σ) {k s sk a : Int} (h : SKH σ k sk a τ) (hk : inR k) (hs : inR s) : pC mX5_findPasses d [(2, a), (2, 29), (0, s)] τ (fun r υ => r = none ∧ qRow τ υ (a + 1) ∧ ∀ m : Int, 0 ≤ m → m < 480 → rd υ (a + 1) m = pAt σ k s m) := by
  have S2 := h.st S
  have loop : ∀ (n x : Nat) (υ : pS) (u4 u5 u6 : pV), x + n = (rd σ 68 65).toNat → u4.1 ≠ 1 → u5.1 ≠ 1 → u6.1 ≠ 1 → qRow τ υ (a + 1) → (∀ m : Int, 0 ≤ m → m < 480 → rd υ (a + 1) m = pAtN σ k s m x) → pR mX5_findPasses d 10 [(2, a), (2, 29), (0, s), (0, (x : Int)), u4, u5, u6] [] υ (fun r υ => r = none ∧ qRow τ υ (a + 1) ∧ ∀ m : Int, 0 ≤ m → m < 480 → rd υ (a + 1) m = pAt σ k s m) := by
    intro n
    induction n with
    | zero =>
      intro x υ u4 u5 u6 hx h4 h5 h6 q i
      have h' := h.fr L (q.skf (by omega))
      have S3 := h'.st S
      have e5 : rd υ 29 5 = rd σ 68 65 := (h'.2.2.2.2.2.2 _ _ (by omega) (by omega)).trans P.1
      have p1 := P.2.1
      have p2 := P.2.2.1
      refine g_X5_findPasses_10 hd S3 a s _ u4 u5 u6 h'.2.1 h4 h5 h6 (by omega) (by rw [e5]; unfold inR; omega) (fun _ => ⟨rfl, q, fun m m0 m1 => ?_⟩) (fun c => by omega) (fun c => by omega) (fun c => by omega) (fun c => by omega) (fun c => by omega) (fun c => by omega) (fun c => by omega) (fun c => by omega) (fun c => by omega) (fun c => by omega) (fun c => by omega) (fun c => by omega)
      rw [i m m0 m1, show x = (rd σ 68 65).toNat by omega]
      rfl
    | succ n ih =>
      intro x υ u4 u5 u6 hx h4 h5 h6 q i
      have h' := h.fr L (q.skf (by omega))
      have S3 := h'.st S
      have pr := h'.2.2.2.2.2.2
      have e5 : rd υ 29 5 = rd σ 68 65 := (pr _ _ (by omega) (by omega)).trans P.1
      have e8 : rd υ a 8 = k := h'.2.2.2.2.2.1
      have p1 := P.2.1
      have p2 := P.2.2.1
      obtain ⟨y1, y2, y3, y4, y5, y6, y7, y8, y9, y10, y11, y12, y13, y14, y15, y16⟩ := P.2.2.2 (x : Int) (by omega) (by omega)
      have f30 : rd υ 30 (x : Int) = rd σ 111 (x : Int) := (pr _ _ (by omega) (by omega)).trans y1
      have f31 : rd υ 31 (x : Int) = rd σ 112 (x : Int) := (pr _ _ (by omega) (by omega)).trans y4
      have f32 : rd υ 32 (x : Int) = rd σ 108 (x : Int) := (pr _ _ (by omega) (by omega)).trans y7
      have f33 : rd υ 33 (x : Int) = rd σ 109 (x : Int) := (pr _ _ (by omega) (by omega)).trans y10
      have f34 : rd υ 34 (x : Int) = rd σ 110 (x : Int) := (pr _ _ (by omega) (by omega)).trans y14
      have l3 := L.2.2.2.1
      have vc : vCounts (rd υ (29 + 1) (x : Int)) (rd υ (29 + 2) (x : Int)) (rd υ a 8) = vCounts (rd σ 111 (x : Int)) (rd σ 112 (x : Int)) k := by
        rw [e8, show (29 : Int) + 1 = 30 by omega, show (29 : Int) + 2 = 31 by omega, f30, f31]
      have no : ∀ u4 u5 u6 : pV, u4.1 ≠ 1 → u5.1 ≠ 1 → u6.1 ≠ 1 → ¬ (rd σ 108 (x : Int) = s ∧ vCounts (rd σ 111 (x : Int)) (rd σ 112 (x : Int)) k = true) → pR mX5_findPasses d 10 [(2, a), (2, 29), (0, s), (0, (x : Int) + 1), u4, u5, u6] [] υ (fun r υ => r = none ∧ qRow τ υ (a + 1) ∧ ∀ m : Int, 0 ≤ m → m < 480 → rd υ (a + 1) m = pAt σ k s m) := fun u4 u5 u6 h4 h5 h6 c => by
        rw [show (x : Int) + 1 = ((x + 1 : Nat) : Int) by omega]
        refine ih (x + 1) υ u4 u5 u6 (by omega) h4 h5 h6 q (fun m m0 m1 => ?_)
        rw [i m m0 m1, pAtN_s, if_neg]
        intro z
        have := pHit_t z
        exact c ⟨this.1, this.2.1⟩
      have go : ∀ (v : Int) (u4 u5 u6 : pV), u4.1 ≠ 1 → u5.1 ≠ 1 → u6.1 ≠ 1 → rd σ 108 (x : Int) = s → vCounts (rd σ 111 (x : Int)) (rd σ 112 (x : Int)) k = true → v = (if pAtN σ k s (rd σ 110 (x : Int)) x = -1 ∨ pAtN σ k s (rd σ 110 (x : Int)) x = rd σ 109 (x : Int) then rd σ 109 (x : Int) else -2) → pR mX5_findPasses d 10 [(2, a), (2, 29), (0, s), (0, (x : Int) + 1), u4, u5, u6] [] (wr υ (a + 1) (rd σ 110 (x : Int)) v) (fun r υ => r = none ∧ qRow τ υ (a + 1) ∧ ∀ m : Int, 0 ≤ m → m < 480 → rd υ (a + 1) m = pAt σ k s m) := fun v u4 u5 u6 h4 h5 h6 c1 c2 hv => by
        rw [show (x : Int) + 1 = ((x + 1 : Nat) : Int) by omega]
        refine ih (x + 1) _ u4 u5 u6 (by omega) h4 h5 h6 q.wr (fun m m0 m1 => ?_)
        rw [pAtN_s]
        by_cases z : m = rd σ 110 (x : Int)
        · subst z
          rw [rd_wr_same, if_pos (show pHit σ k s (rd σ 110 (x : Int)) (x : Int) = true from decide_eq_true ⟨c1, c2, rfl⟩), hv]
        · rw [rd_wr_i _ z, i m m0 m1, if_neg]
          intro z2
          exact z (pHit_t z2).2.2.symm
      have i0 := i (rd σ 110 (x : Int)) y15 (by omega)
      have pNR := (pAtN_R P (k := k) (s := s) (m := rd σ 110 (x : Int)) x (by omega)).2
      refine g_X5_findPasses_10 hd S3 a s _ u4 u5 u6 h'.2.1 h4 h5 h6 (by omega) (by rw [e5]; unfold inR; omega) (fun c => by omega) (fun _ => by omega) (fun _ => by rw [f32]; unfold inR; omega) (fun _ => hs) (fun _ c => ?_) (fun _ c => ?_) (fun _ c c5 => ?_) (fun _ _ _ => by rw [f34]; omega) (fun _ _ _ => ?_) (fun _ c c6 c7 => ?_) (fun _ _ _ _ => by rw [f33]; unfold inR; omega) (fun _ c c6 c8 c9 => ?_) (fun _ c c6 c8 c10 => ?_)
      · rw [f32] at c
        exact no _ _ _ h4 h5 h6 (fun z => c z.1)
      · exact counts_CX S3 (inst8_29 S3) (by omega) (by rw [show (29 : Int) + 1 = 30 by omega, f30]; unfold inR; omega) (by rw [show (29 : Int) + 2 = 31 by omega, f31]; omega) (by rw [e8]; exact hk)
      · rw [vc] at c5
        exact no _ _ _ h4 h5 h6 (fun z => by rw [z.2] at c5; cases c5)
      · rw [f34, i0]; unfold inR; omega
      · rw [f34, i0] at c7
        rw [f32] at c
        rw [vc] at c6
        rw [f33, f34]
        exact go _ _ _ _ (show (0 : Nat) ≠ 1 by decide) (show (0 : Nat) ≠ 1 by decide) (show (0 : Nat) ≠ 1 by decide) c c6 (by rw [if_pos (Or.inl c7)])
      · rw [f34, i0] at c8
        rw [f34, f33, i0] at c9
        rw [f32] at c
        rw [vc] at c6
        rw [f33, f34]
        exact go _ _ _ _ (show (0 : Nat) ≠ 1 by decide) (show (0 : Nat) ≠ 1 by decide) (show (0 : Nat) ≠ 1 by decide) c c6 (by rw [if_neg (by omega)])
      · rw [f34, f33, i0] at c10
        rw [f32] at c
        rw [vc] at c6
        rw [f33, f34]
        exact go _ _ _ _ (show (0 : Nat) ≠ 1 by decide) (show (0 : Nat) ≠ 1 by decide) (show (0 : Nat) ≠ 1 by decide) c c6 (by rw [if_pos (Or.inr c10)])
  refine g_X5_findPasses_0 (Q1 := fun r υ => r = none ∧ υ = fl τ (a + 1) (480 : Nat) (-1)) hd S2 a s h.2.1 (fill_C S2 h.2.1.o1 (by decide)) (fun τ1 e1 q1 => ?_)
  rw [q1.2]
  exact loop (rd σ 68 65).toNat 0 _ (9, 0) (9, 0) (9, 0) (by omega) (by decide) (by decide) (by decide) ⟨rfl, fun b i hb => by rw [rd_fl, if_neg (fun z => hb z.1)]⟩ (fun m m0 m1 => by rw [rd_fl, if_pos ⟨rfl, m0, m1⟩]; rfl)
/-- whether the class has a way of this number -/
def hasS (σ : pS) (j : Nat) : Bool := vHas (rd σ 68 30) (rd σ 68 31) (j : Int)
theorem hasS_t {σ : pS} (L : RSlo σ) {j : Nat} (h : hasS σ j = true) : cw (j + 1) = cw j + 1 ∧ wyS σ ((cw j : Nat) : Int) = true ∧ vOuter ((cw j : Nat) : Int) = (j : Int) ∧ cw j < 13 ∧ j < 17 := by
  have y := cw_yes L.2.2.2.1.2 L.2.2.2.2.2.1.2 h
  have z := vHas_lt L.2.2.2.1.2 L.2.2.2.2.2.1.2 h
  exact ⟨y.1, y.2.1, y.2.2.1, y.2.2.2, by omega⟩
theorem SKH.has {σ τ : pS} {k sk a : Int} (h : SKH σ k sk a τ) (L : RSlo σ) (j : Nat) : vHas (rd τ (rd τ a 6) 0) (rd τ (rd τ a 6) 1) (j : Int) = hasS σ j := by rw [h.s6]; exact h.1.has L _
theorem SKH.row {σ τ : pS} {k sk a : Int} (h : SKH σ k sk a τ) (L : RSlo σ) {j : Nat} (hj : hasS σ j = true) : rd τ (rd τ a 6 + 2) (j : Int) = rd σ 77 ((cw j : Nat) : Int) ∧ rd τ (rd τ a 6 + 3) (j : Int) = rd σ 78 ((cw j : Nat) : Int) ∧ 0 ≤ rd σ 77 ((cw j : Nat) : Int) ∧ rd σ 77 ((cw j : Nat) : Int) < 10 ∧ 0 ≤ rd σ 78 ((cw j : Nat) : Int) ∧ rd σ 78 ((cw j : Nat) : Int) < 10 := by
  obtain ⟨y1, y2, y3, y4, y5⟩ := hasS_t L hj
  have := h.1.ends L y2
  rw [y3] at this
  rw [h.s6]
  exact this
/-- the skier's minutes -/
def mnO (σ : pS) (sk a : Int) (τ : pS) : Prop := (∀ j : Int, 0 ≤ j → j < 17 → 0 ≤ rd τ (a + 5) j ∧ rd τ (a + 5) j ≤ 105) ∧ ∀ w : Int, wyS σ w = true → rd τ (a + 5) (vOuter w) = minS σ sk w
theorem mnO.at {σ τ : pS} {sk a : Int} (h : mnO σ sk a τ) (L : RSlo σ) {j : Nat} (hj : hasS σ j = true) : rd τ (a + 5) (j : Int) = minS σ sk ((cw j : Nat) : Int) := by
  obtain ⟨y1, y2, y3, y4, y5⟩ := hasS_t L hj
  rw [← y3]; exact h.2 _ y2
theorem may_C {d : Nat} {σ τ : pS} (hd : 3 ≤ d) (S : Stat σ) (L : RSlo σ) {k sk a : Int} (h : SKH σ k sk a τ) (hs : 0 ≤ sk ∧ sk < 4) {j : Int} {m : Int} (hj : 0 ≤ j ∧ j < 17) (hm : 0 ≤ m ∧ m < 480) (hR : inR (rd τ (a + 1) m)) : pC mX5_mayBegin d [(2, a), (2, 35), (0, j), (0, m)] τ (fun r υ => r = some (0, b2i (vMay τ a j m)) ∧ υ = τ) := by
  have S2 := h.st S
  have I6 : Inst6 τ (rd τ a 6) := by rw [h.s6]; exact h.1.i6 L
  have b := h.1.bounds L hj
  have I6' := h.1.i6 L
  refine g_X5_mayBegin_0 hd S2 a j m h.2.1 I6 hj (by rw [h.s6]; unfold inR; omega) (fun _ => hm) (fun _ => hR) (fun c c3 => ⟨?_, rfl⟩) (fun _ _ => fits_C S2 I6 hj (by rw [h.s6]; omega) (by rw [h.2.2.2.1]; exact hs)) (fun c c4 c5 => ⟨?_, rfl⟩) (fun _ _ _ => isOpenX_C (Nat.le_refl 2) S2 I6' hj (by omega) (by unfold inR; omega) (by unfold inR; omega)) (fun c c4 c6 c7 => ⟨?_, rfl⟩) (fun c c4 c6 c8 => ⟨?_, rfl⟩) (fun _ => hm) (fun _ => hR) (fun _ => by omega) (fun c c9 => ⟨?_, rfl⟩) (fun c c10 => ⟨?_, rfl⟩)
  · unfold vMay; rw [if_neg (by omega)]; exact b2i_zero (fun z => c3 z.1)
  · unfold vMay; rw [if_neg (by omega)]; exact b2i_zero (fun z => by rw [c5] at z; cases z.2.1)
  · unfold vMay; rw [if_neg (by omega)]; exact b2i_zero (fun z => by rw [c7] at z; cases z.2.2)
  · unfold vMay; rw [if_neg (by omega)]; exact b2i_one ⟨c4, c6, c8⟩
  · unfold vMay; rw [if_pos c]; exact b2i_zero c9
  · unfold vMay; rw [if_pos c]; exact b2i_one c10
theorem may_eq {σ τ : pS} (L : RSlo σ) {k s sk a : Int} (h : SKH σ k sk a τ) (hs : 0 ≤ sk ∧ sk < 4) {j : Nat} (hj : hasS σ j = true) {m : Int} (hm : 0 ≤ m ∧ m < 480) (hA : rd τ (a + 1) m = pAt σ k s m) : vMay τ a (j : Int) m = (if ((cw j : Nat) : Int) < 6 ∧ rd σ 84 ((cw j : Nat) : Int) ≠ 0 then decide (pAt σ k s m = ((cw j : Nat) : Int)) else decide (pAt σ k s m = -1 ∧ goS σ sk ((cw j : Nat) : Int) = true ∧ openS σ k ((cw j : Nat) : Int) m = true)) := by
  obtain ⟨y1, y2, y3, y4, y5⟩ := hasS_t L hj
  obtain ⟨l0, l1, l2, l3, l4, l5, l6, l7, l8, l9, l10, l11, l12⟩ := id L
  have t := vWay_t y2
  have e1 := (openX_eq L h.1.2.2 h.1.2.1 y2 hm.1).1
  have e2 := (h.1.mins L y2 hs).2
  rw [y3] at e1 e2
  have g : rd τ (rd τ a 6 + 8) (j : Int) ≠ 0 ↔ (((cw j : Nat) : Int) < 6 ∧ rd σ 84 ((cw j : Nat) : Int) ≠ 0) := by
    rw [h.s6, h.1.row (by omega)]
    unfold vOuter at y3
    by_cases c : ((cw j : Nat) : Int) < 6
    · rw [if_pos c] at y3
      have := l10 ((cw j : Nat) : Int) (by omega) (by omega)
      rw [← y3, this.2.2.2.2.2.2.2.2.1]
      exact ⟨fun z => ⟨c, z⟩, fun z => z.2⟩
    · rw [if_neg c] at y3
      have := l11 (((cw j : Nat) : Int) - 6) (by omega) (by omega)
      rw [show (10 : Int) + (((cw j : Nat) : Int) - 6) = (j : Int) by omega] at this
      rw [this.2.2.2.2.2.2.2.2]
      exact ⟨fun z => absurd rfl z, fun z => absurd z.1 c⟩
  unfold vMay
  rw [hA, h.s6, h.2.2.2.1, e1, e2]
  rw [h.s6] at g
  by_cases c : rd τ (rd τ 35 4 + 8) (j : Int) ≠ 0
  · rw [if_pos c, if_pos (g.mp c)]
    have c6 := (g.mp c).1
    unfold vOuter at y3
    rw [if_pos c6] at y3
    rw [y3]
  · rw [if_neg c, if_neg (fun z => c (g.mpr z))]
/-- which ways may be begun in each minute: a bit each -/
def bgO (σ : pS) (k s sk a : Int) (τ : pS) : Prop := ∀ m : Int, 0 ≤ m → m < 480 → ∀ j : Nat, j < 32 → bq (rd τ (a + 2) m) j = (hasS σ j && stS σ k s sk ((cw j : Nat) : Int) m)
def paO (σ : pS) (k s a : Int) (τ : pS) : Prop := ∀ m : Int, 0 ≤ m → m < 480 → rd τ (a + 1) m = pAt σ k s m
theorem begin_C {d : Nat} {σ τ : pS} (hd : 4 ≤ d) (S : Stat σ) (L : RSlo σ) (P : RPas σ) {k s sk a : Int} (h : SKH σ k sk a τ) (hs : 0 ≤ sk ∧ sk < 4) (hA : paO σ k s a τ) (hM : mnO σ sk a τ) : pC mX5_findBeginnings d [(2, a), (2, 35)] τ (fun r υ => r = none ∧ qRow τ υ (a + 2) ∧ bgO σ k s sk a υ) := by
  have S2 := h.st S
  have l3 := L.2.2.2.1
  have l5 := L.2.2.2.2.2.1
  have pAR := fun m => pAt_R P k s m
  have h84 : ∀ w : Int, wyS σ w = true → (w < 6 → rd σ 84 w = 0 ∨ rd σ 84 w = 1) := fun w hw c => by
    have t := vWay_t hw
    have g := L.2.2.2.2.2.2.2.2.2.2.1 w (by omega) (by omega)
    have b := L.2.2.2.2.2.2.2.2.2.2.2.2 w (by omega) (by omega)
    rw [← g.2.2.2.2.2.2.2.2.1]
    exact b.2.2.2.2.2.2.2.2.2.2.1
  have outer : ∀ (n : Nat) (υ : pS) (x2 : Int) (u4 u5 u6 : pV), n ≤ 480 → x2 = nextS σ k s (n : Int) → u4.1 ≠ 1 → u5.1 ≠ 1 → u6.1 ≠ 1 → qRow τ υ (a + 2) → (∀ m : Int, (n : Int) ≤ m → m < 480 → ∀ j : Nat, j < 32 → bq (rd υ (a + 2) m) j = (hasS σ j && stS σ k s sk ((cw j : Nat) : Int) m)) → pR mX5_findBeginnings d 7 [(2, a), (2, 35), (0, x2), (0, (n : Int) - 1), u4, u5, u6] [] υ (fun r υ => r = none ∧ qRow τ υ (a + 2) ∧ bgO σ k s sk a υ) := by
    intro n
    induction n with
    | zero =>
      intro υ x2 u4 u5 u6 hn hx h4 h5 h6 q i
      have h' := h.fr L (q.skf (by omega))
      exact g_X5_findBeginnings_7 hd (h'.st S) a x2 _ u4 u5 u6 h'.2.1 h4 h5 h6 (by decide) (fun _ => ⟨rfl, q, fun m m0 m1 => i m (by omega) m1⟩) (fun c => by omega)
    | succ n ih =>
      intro υ x2 u4 u5 u6 hn hx h4 h5 h6 q i
      have en : (((n + 1 : Nat) : Int) - 1) = (n : Int) := by omega
      rw [en]
      have h' := h.fr L (q.skf (by omega))
      have S3 := h'.st S
      have nx := next_R (σ := σ) (k := k) (s := s) (m := ((n + 1 : Nat) : Int)) (by omega)
      have A' : rd υ (a + 1) (n : Int) = pAt σ k s (n : Int) := (q.2 _ _ (by omega)).trans (hA _ (by omega) (by omega))
      have pn := pAR (n : Int)
      have M' : ∀ j : Nat, rd υ (a + 5) (j : Int) = rd τ (a + 5) (j : Int) := fun j => q.2 _ _ (by omega)
      have inner : ∀ (r j : Nat) (x4 : Int) (u6 : pV), j + r = 17 → u6.1 ≠ 1 → (∀ t : Nat, t < 32 → bq x4 t = (decide (t < j) && (hasS σ t && stS σ k s sk ((cw t : Nat) : Int) (n : Int)))) → pR mX5_findBeginnings d 17 [(2, a), (2, 35), (0, x2), (0, (n : Int)), (0, x4), (0, (j : Int)), u6] [] υ (fun r υ => r = none ∧ qRow τ υ (a + 2) ∧ bgO σ k s sk a υ) := by
        intro r
        induction r with
        | zero =>
          intro j x4 u6 hj hu hb
          have e : j = 17 := by omega
          subst e
          have fin : ∀ (x2' : Int) (u6 : pV), u6.1 ≠ 1 → x2' = nextS σ k s (n : Int) → pR mX5_findBeginnings d 7 [(2, a), (2, 35), (0, x2'), (0, (n : Int) + (-1)), (0, x4), (0, ((17 : Nat) : Int)), u6] [] (wr υ (a + 2) (n : Int) x4) (fun r υ => r = none ∧ qRow τ υ (a + 2) ∧ bgO σ k s sk a υ) := fun x2' u6 hu hx' => by
            rw [show (n : Int) + (-1) = (n : Int) - 1 by omega]
            refine ih _ x2' _ _ u6 (by omega) hx' (show (0 : Nat) ≠ 1 by decide) (show (0 : Nat) ≠ 1 by decide) hu q.wr (fun m m0 m1 t ht => ?_)
            by_cases c : m = (n : Int)
            · subst c
              rw [rd_wr_same, hb t ht]
              by_cases c2 : t < 17
              · rw [decide_eq_true c2, Bool.true_and]
              · have : hasS σ t = false := by
                  cases z : hasS σ t
                  · rfl
                  · exact absurd (hasS_t L z).2.2.2.2 c2
                rw [this]; simp
            · rw [rd_wr_i _ c]; exact i m (by omega) m1 t ht
          refine g_X5_findBeginnings_17 hd S3 a x2 _ x4 _ u6 h'.2.1 hu (by decide) (fun _ => by omega) (fun _ => by rw [A']; unfold inR; omega) (fun _ c3 => fin _ u6 hu ?_) (fun _ c4 => fin _ u6 hu ?_) (fun c => by omega) (fun c => by omega) (fun c => by omega) (fun c => by omega) (fun c => by omega) (fun c => by omega) (fun c => by omega) (fun c => by omega) (fun c => by omega) (fun c => by omega)
          · rw [A'] at c3
            rw [next_rec (by omega), if_neg c3]
          · rw [A'] at c4
            rw [next_rec (by omega), if_pos c4, hx]
            rfl
        | succ r ihr =>
          intro j x4 u6 hj hu hb
          have mb := hM.1 (j : Int) (by omega) (by omega)
          have go : ∀ (x4' : Int) (u6 : pV), u6.1 ≠ 1 → (∀ t : Nat, t < 32 → bq x4' t = (bq x4 t || (decide (t = j) && (hasS σ t && stS σ k s sk ((cw t : Nat) : Int) (n : Int))))) → pR mX5_findBeginnings d 17 [(2, a), (2, 35), (0, x2), (0, (n : Int)), (0, x4'), (0, (j : Int) + 1), u6] [] υ (fun r υ => r = none ∧ qRow τ υ (a + 2) ∧ bgO σ k s sk a υ) := fun x4' u6 hu hb' => by
            rw [show (j : Int) + 1 = ((j + 1 : Nat) : Int) by omega]
            refine ihr (j + 1) x4' u6 (by omega) hu (fun t ht => ?_)
            rw [hb' t ht, hb t ht]
            by_cases c : t = j
            · subst c; simp
            · by_cases c2 : t < j
              · rw [decide_eq_true c2, decide_eq_false c, decide_eq_true (by omega : t < j + 1)]; simp
              · rw [decide_eq_false c2, decide_eq_false c, decide_eq_false (by omega : ¬ t < j + 1)]; simp
          have stay : ∀ u6 : pV, u6.1 ≠ 1 → (hasS σ j && stS σ k s sk ((cw j : Nat) : Int) (n : Int)) = false → pR mX5_findBeginnings d 17 [(2, a), (2, 35), (0, x2), (0, (n : Int)), (0, x4), (0, (j : Int) + 1), u6] [] υ (fun r υ => r = none ∧ qRow τ υ (a + 2) ∧ bgO σ k s sk a υ) := fun u6 hu c => go x4 u6 hu (fun t ht => by
            by_cases e : t = j
            · subst e; rw [c]; simp
            · rw [decide_eq_false e]; simp)
          have steq : hasS σ j = true → stS σ k s sk ((cw j : Nat) : Int) (n : Int) = (decide ((n : Int) + rd υ (a + 5) (j : Int) ≤ x2) && vMay υ a (j : Int) (n : Int)) := fun c => by
            obtain ⟨y1, y2, y3, y4, y5⟩ := hasS_t L c
            rw [may_eq L h' hs c (by omega) A', M', hM.at L c, hx]
            by_cases c6 : ((cw j : Nat) : Int) < 6
            · exact st_eq L P y2 (by omega) (h84 _ y2 c6)
            · rw [if_neg (fun z => c6 z.1)]
              apply Bool.eq_iff_iff.mpr
              rw [Bool.and_eq_true, decide_eq_true_eq, decide_eq_true_eq]
              constructor
              · intro z
                obtain ⟨z1, z2, z3, z4, z5⟩ := st_t z
                rcases z5 with e | ⟨e1, e2, e3⟩
                · omega
                · exact ⟨z4, by omega, e1, e3⟩
              · rintro ⟨z4, e1, e2, e3⟩
                exact decide_eq_true ⟨by omega, y2, by omega, z4, Or.inr ⟨e2, fun z => c6 z.1, e3⟩⟩
          refine g_X5_findBeginnings_17 hd S3 a x2 _ x4 _ u6 h'.2.1 hu (by omega) (fun c => by omega) (fun c => by omega) (fun c => by omega) (fun c => by omega) (fun _ => by omega) (fun _ => by rw [M']; unfold inR; omega) (fun _ => by rw [hx]; unfold inR; omega) (fun _ c5 => ?_) (fun _ _ => ?_) (fun _ _ => by rw [h'.s6]; exact h'.1.i6 L) (fun _ c6 c7 => ?_) (fun _ _ _ => may_C (Nat.le_refl 3) S L h' hs (by omega) (by omega) (by rw [A']; unfold inR; omega)) (fun _ c6 c8 c9 => ?_) (fun _ c6 c8 c10 => ?_)
          · refine stay _ (show (0 : Nat) ≠ 1 by decide) ?_
            cases z : hasS σ j
            · rfl
            · rw [steq z, decide_eq_false (by omega)]; rfl
          · rw [h'.s6]; exact h'.1.has_C S L (by omega) (by omega)
          · rw [h'.has L] at c7
            exact stay _ (show (0 : Nat) ≠ 1 by decide) (by rw [c7]; rfl)
          · rw [h'.has L] at c8
            exact stay _ (show (0 : Nat) ≠ 1 by decide) (by rw [steq c8, c9]; simp)
          · rw [h'.has L] at c8
            refine go _ _ (show (0 : Nat) ≠ 1 by decide) (fun t ht => ?_)
            rw [bq_set (by omega) ht]
            by_cases e : t = j
            · subst e
              rw [steq c8, c10, c8, decide_eq_true c6]; simp
            · rw [decide_eq_false e, decide_eq_false (by omega)]; simp
      refine g_X5_findBeginnings_7 hd S3 a x2 _ u4 u5 u6 h'.2.1 h4 h5 h6 (by omega) (fun c => by omega) (fun _ => ?_)
      exact inner 17 0 0 u6 rfl h6 (fun t ht => by rw [bq_0]; simp)
  refine g_X5_findBeginnings_0 hd S2 a h.2.1 ?_
  exact outer 480 τ 1000000 (9, 0) (9, 0) (9, 0) (Nat.le_refl _) (next_hi P (by omega)).symm (by decide) (by decide) (by decide) (qRow.rf τ _) (fun m m0 m1 => by omega)
