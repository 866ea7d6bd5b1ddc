/-! minutes of ways: the travel function out of what is told; contracts of the small functions -/
def wyS (σ : pS) (w : Int) : Bool := vWay (rd σ 68 30) (rd σ 68 31) w
def FS (σ : pS) (k sk w m : Int) : Int := if 480 < m ∨ goS σ sk w = false ∨ nextOpen σ k w m < 0 then -1 else nextOpen σ k w m + minS σ sk w
def laN (σ : pS) (k w : Int) : Nat → Int
  | 0 => -1
  | n + 1 => if openS σ k w (n : Int) = true then (n : Int) else laN σ k w n
/-- the last minute up to t at which a way is open; -1 -/
def lastOpenS (σ : pS) (k w t : Int) : Int := laN σ k w (min t 479 + 1).toNat
def GS (σ : pS) (k sk w t : Int) : Int := if goS σ sk w = false then -1 else lastOpenS σ k w (t - minS σ sk w)
theorem openS_lt {σ : pS} (L : RSlo σ) {k w m : Int} (hw : wyS σ w = true) (h : openS σ k w m = true) : m < 480 := by
  have t := vWay_t hw
  unfold openS at h
  rw [Bool.and_eq_true] at h
  have h1 := h.1
  unfold vOn at h1
  simp only [decide_eq_true_eq] at h1
  by_cases c : w < 6
  · have := L.2.2.2.2.2.2.2.2.2.2.1 w (by omega) (by omega)
    omega
  · omega
theorem opN_spec {σ : pS} (L : RSlo σ) {k w : Int} (hw : wyS σ w = true) : ∀ j : Nat, j ≤ 481 → (opN σ k w j = -1 ∧ ∀ b : Int, 481 - (j : Int) ≤ b → openS σ k w b = false) ∨ (481 - (j : Int) ≤ opN σ k w j ∧ opN σ k w j < 480 ∧ openS σ k w (opN σ k w j) = true ∧ ∀ b : Int, 481 - (j : Int) ≤ b → b < opN σ k w j → openS σ k w b = false) := by
  intro j
  induction j with
  | zero =>
    intro _
    refine Or.inl ⟨rfl, fun b hb => ?_⟩
    cases e : openS σ k w b
    · rfl
    · have := openS_lt L hw e; omega
  | succ j ih =>
    intro hj
    have ih := ih (by omega)
    unfold opN
    by_cases c : openS σ k w (480 - (j : Int)) = true
    · have := openS_lt L hw c
      rw [if_pos ⟨hw, c⟩]
      exact Or.inr ⟨by omega, this, c, fun b b0 b1 => by omega⟩
    · rw [if_neg (fun q => c q.2)]
      have c : openS σ k w (480 - (j : Int)) = false := by simpa using c
      rcases ih with ⟨a1, a2⟩ | ⟨a1, a2, a3, a4⟩
      · refine Or.inl ⟨a1, fun b hb => ?_⟩
        by_cases e : b = 480 - (j : Int)
        · rw [e]; exact c
        · exact a2 b (by omega)
      · refine Or.inr ⟨by omega, a2, a3, fun b b0 b1 => ?_⟩
        by_cases e : b = 480 - (j : Int)
        · rw [e]; exact c
        · exact a4 b (by omega) b1
theorem nextOpen_spec {σ : pS} (L : RSlo σ) {k w m : Int} (hw : wyS σ w = true) (h0 : 0 ≤ m) : (nextOpen σ k w m = -1 ∧ ∀ b : Int, m ≤ b → openS σ k w b = false) ∨ (m ≤ nextOpen σ k w m ∧ nextOpen σ k w m < 480 ∧ openS σ k w (nextOpen σ k w m) = true ∧ ∀ b : Int, m ≤ b → b < nextOpen σ k w m → openS σ k w b = false) := by
  have s := opN_spec L (k := k) hw (481 - m).toNat (by omega)
  unfold nextOpen
  by_cases c : m ≤ 481
  · rw [show (481 : Int) - ((481 - m).toNat : Int) = m by omega] at s
    exact s
  · rw [show (481 - m).toNat = 0 by omega] at s ⊢
    refine Or.inl ⟨rfl, fun b hb => ?_⟩
    cases e : openS σ k w b
    · rfl
    · have := openS_lt L hw e; omega
theorem laN_spec {σ : pS} {k w : Int} : ∀ n : Nat, (laN σ k w n = -1 ∧ ∀ b : Int, 0 ≤ b → b < (n : Int) → openS σ k w b = false) ∨ (0 ≤ laN σ k w n ∧ laN σ k w n < (n : Int) ∧ openS σ k w (laN σ k w n) = true ∧ ∀ b : Int, laN σ k w n < b → b < (n : Int) → openS σ k w b = false) := by
  intro n
  induction n with
  | zero => exact Or.inl ⟨rfl, fun b b0 b1 => by omega⟩
  | succ n ih =>
    unfold laN
    by_cases c : openS σ k w (n : Int) = true
    · rw [if_pos c]
      exact Or.inr ⟨by omega, by omega, c, fun b b0 b1 => by omega⟩
    · rw [if_neg c]
      have c : openS σ k w (n : Int) = false := by simpa using c
      rcases ih with ⟨a1, a2⟩ | ⟨a1, a2, a3, a4⟩
      · refine Or.inl ⟨a1, fun b b0 b1 => ?_⟩
        by_cases e : b = (n : Int)
        · rw [e]; exact c
        · exact a2 b b0 (by omega)
      · refine Or.inr ⟨a1, by omega, a3, fun b b0 b1 => ?_⟩
        by_cases e : b = (n : Int)
        · rw [e]; exact c
        · exact a4 b b0 (by omega)
theorem lastOpenS_spec {σ : pS} (L : RSlo σ) {k w t : Int} (hw : wyS σ w = true) : (lastOpenS σ k w t = -1 ∧ ∀ b : Int, 0 ≤ b → b ≤ t → openS σ k w b = false) ∨ (0 ≤ lastOpenS σ k w t ∧ lastOpenS σ k w t ≤ t ∧ lastOpenS σ k w t < 480 ∧ openS σ k w (lastOpenS σ k w t) = true ∧ ∀ b : Int, lastOpenS σ k w t < b → b ≤ t → openS σ k w b = false) := by
  have s := laN_spec (σ := σ) (k := k) (w := w) (min t 479 + 1).toNat
  have nope : ∀ b : Int, 480 ≤ b → openS σ k w b = false := fun b hb => by
    cases e : openS σ k w b
    · rfl
    · have := openS_lt L hw e; omega
  unfold lastOpenS
  rcases s with ⟨a1, a2⟩ | ⟨a1, a2, a3, a4⟩
  · refine Or.inl ⟨a1, fun b b0 b1 => ?_⟩
    by_cases e : b < 480
    · exact a2 b b0 (by omega)
    · exact nope b (by omega)
  · refine Or.inr ⟨a1, by omega, by omega, a3, fun b b0 b1 => ?_⟩
    by_cases e : b < 480
    · exact a4 b b0 (by omega)
    · exact nope b (by omega)
theorem prod_R {a b : Int} (ha : 0 ≤ a ∧ a ≤ 60) (hb : -3 ≤ b ∧ b ≤ 3) : -180 ≤ a * b ∧ a * b ≤ 180 ∧ (a * b).tdiv 4 ≤ 45 ∧ -45 ≤ (a * b).tdiv 4 ∧ (0 ≤ b → 4 * (a * b).tdiv 4 ≤ 3 * a ∧ 0 ≤ (a * b).tdiv 4) := by
  have e : ((a * b).tdiv 4).natAbs = (a * b).natAbs / 4 := Int.natAbs_tdiv (a * b) 4
  have c : b = -3 ∨ b = -2 ∨ b = -1 ∨ b = 0 ∨ b = 1 ∨ b = 2 ∨ b = 3 := by omega
  have p : -180 ≤ a * b ∧ a * b ≤ 180 ∧ (0 ≤ b → 0 ≤ a * b ∧ a * b ≤ 3 * a) := by
    rcases c with rfl | rfl | rfl | rfl | rfl | rfl | rfl <;> omega
  refine ⟨p.1, p.2.1, by omega, by omega, fun q => ?_⟩
  obtain ⟨q1, q2⟩ := p.2.2 q
  rw [Int.tdiv_eq_ediv_of_nonneg q1]
  omega
theorem minS_R {σ : pS} (L : RSlo σ) {sk w : Int} (hw : wyS σ w = true) (hs : 0 ≤ sk ∧ sk < 4) : 1 ≤ minS σ sk w ∧ minS σ sk w ≤ 105 ∧ (goS σ sk w = true → minS σ sk w ≤ 60) := by
  obtain ⟨l0, l1, l2, l3, l4, l5, l6, l7, l8, l9, l10, l11, l12⟩ := id L
  have t := vWay_t hw
  have m := l9 w hw
  unfold minS goS
  by_cases c : w < 6
  · rw [if_pos c]
    omega
  · have r := l11 (w - 6) (by omega) (by omega)
    rw [show 6 + (w - 6) = w by omega] at r
    rw [if_neg c]
    have p := prod_R (a := rd σ 79 w) (b := sk - rd σ 80 w) (by omega) (by omega)
    simp only [decide_eq_true_eq]
    by_cases c2 : rd σ 79 w - (rd σ 79 w * (sk - rd σ 80 w)).tdiv 4 < 1
    · rw [if_pos c2]; omega
    · rw [if_neg c2]; omega
theorem FS_ok {σ : pS} (L : RSlo σ) (k : Int) {sk : Int} (hs : 0 ≤ sk ∧ sk < 4) : gOk (wyS σ) (rd σ 77) (rd σ 78) (FS σ k sk) := by
  refine ⟨fun w hw => ?_, fun w m hw h0 => ?_, fun w m m' hw h0 hm hF => ?_⟩
  · have := L.2.2.2.2.2.2.2.2.2.1 w hw
    omega
  · have r := minS_R L hw hs
    have s := nextOpen_spec L (k := k) hw h0
    unfold FS
    by_cases c : 480 < m ∨ goS σ sk w = false ∨ nextOpen σ k w m < 0
    · rw [if_pos c]; exact Or.inl rfl
    · rw [if_neg c]
      have g : goS σ sk w = true := by simpa using (fun q => c (Or.inr (Or.inl q)))
      have := r.2.2 g
      omega
  · have s := nextOpen_spec L (k := k) hw h0
    have s' := nextOpen_spec L (k := k) (m := m') hw (by omega)
    have r := minS_R L hw hs
    unfold FS at hF ⊢
    by_cases c : 480 < m' ∨ goS σ sk w = false ∨ nextOpen σ k w m' < 0
    · rw [if_pos c] at hF; exact absurd rfl hF
    · rw [if_neg c] at hF ⊢
      have g : goS σ sk w = true := by simpa using (fun q => c (Or.inr (Or.inl q)))
      rcases s' with ⟨a1, a2⟩ | ⟨a1, a2, a3, a4⟩
      · omega
      · rcases s with ⟨b1, b2⟩ | ⟨b1, b2, b3, b4⟩
        · have := b2 (nextOpen σ k w m') (by omega)
          rw [a3] at this; cases this
        · have le : nextOpen σ k w m ≤ nextOpen σ k w m' := by
            by_cases q : nextOpen σ k w m' < nextOpen σ k w m
            · have := b4 _ (by omega) q
              rw [a3] at this; cases this
            · omega
          rw [if_neg (by rw [g]; simp; omega)]
          omega
theorem GS_ok {σ : pS} (L : RSlo σ) (k : Int) {sk : Int} (hs : 0 ≤ sk ∧ sk < 4) : galois (wyS σ) (FS σ k sk) (GS σ k sk) := by
  intro w m t hw h0
  have r := minS_R L hw hs
  have s := nextOpen_spec L (k := k) hw h0
  unfold FS GS
  cases g : goS σ sk w
  · rw [if_pos rfl, if_pos (Or.inr (Or.inl rfl))]
    constructor
    · intro q; omega
    · intro q; exact absurd rfl q.1
  · rw [if_neg (by simp)]
    have ls := lastOpenS_spec L (k := k) (t := t - minS σ sk w) hw
    rcases s with ⟨b1, b2⟩ | ⟨b1, b2, b3, b4⟩
    · rw [if_pos (Or.inr (Or.inr (by omega)))]
      constructor
      · intro q
        rcases ls with ⟨a1, a2⟩ | ⟨a1, a2, a3, a4, a5⟩
        · omega
        · have := b2 _ q
          rw [a4] at this; cases this
      · intro q; exact absurd rfl q.1
    · rw [if_neg (by simp; omega)]
      constructor
      · intro q
        rcases ls with ⟨a1, a2⟩ | ⟨a1, a2, a3, a4, a5⟩
        · omega
        · refine ⟨by omega, ?_⟩
          by_cases z : lastOpenS σ k w (t - minS σ sk w) < nextOpen σ k w m
          · have := b4 _ q z
            rw [a4] at this; cases this
          · omega
      · intro q
        rcases ls with ⟨a1, a2⟩ | ⟨a1, a2, a3, a4, a5⟩
        · have := a2 (nextOpen σ k w m) (by omega) (by omega)
          rw [b3] at this; cases this
        · by_cases z : lastOpenS σ k w (t - minS σ sk w) < nextOpen σ k w m
          · have := a5 _ z (by omega)
            rw [b3] at this; cases this
          · omega
/-! the class's side -/
def CV (σ : pS) (k : Int) (τ : pS) : Prop := τ.1 = σ.1 ∧ (∀ b i : Int, rd σ 0 7 ≤ b → b ≤ rd σ 0 7 + 10 → rd τ b i = rd σ b i) ∧ KLook σ k τ
theorem CV.wr {σ τ : pS} {k a i v : Int} (h : CV σ k τ) (L : RSlo σ) (ha : 40 ≤ a ∧ a ≤ 67) : CV σ k (wr τ a i v) := by
  have l0 := L.1
  exact ⟨h.1, fun b j b0 b1 => by rw [rd_wr_n (by omega)]; exact h.2.1 b j b0 b1, h.2.2.at (rd_wr_n (by omega)) (fun b j b0 b1 => rd_wr_n (by omega))⟩
theorem CV.fl {σ τ : pS} {k a n v : Int} (h : CV σ k τ) (L : RSlo σ) (ha : 40 ≤ a ∧ a ≤ 67) : CV σ k (fl τ a n v) := by
  have l0 := L.1
  exact ⟨h.1, fun b j b0 b1 => by rw [rd_fl, if_neg (by omega)]; exact h.2.1 b j b0 b1, h.2.2.at (by rw [rd_fl, if_neg (by omega)]) (fun b j b0 b1 => by rw [rd_fl, if_neg (by omega)])⟩
theorem lookD.cv {σ τ : pS} {k : Int} (h : lookD σ k τ) (L : RSlo σ) (A : RLaw σ) : CV σ k τ := ⟨h.1, h.slo L A, h.2.2.1⟩
theorem CV.s4 {σ τ : pS} {k : Int} (h : CV σ k τ) : rd τ 35 4 = rd σ 0 7 := h.2.2.1
theorem CV.st {σ τ : pS} {k : Int} (h : CV σ k τ) (S : Stat σ) : Stat τ := S.eq h.1
theorem CV.i6 {σ τ : pS} {k : Int} (h : CV σ k τ) (L : RSlo σ) : Inst6 τ (rd τ 35 4) := by rw [h.s4]; exact L.2.1.eq h.1
theorem CV.has {σ τ : pS} {k : Int} (h : CV σ k τ) (L : RSlo σ) (j : Int) : vHas (rd τ (rd τ 35 4) 0) (rd τ (rd τ 35 4) 1) j = vHas (rd σ 68 30) (rd σ 68 31) j := by
  rw [h.s4, h.2.1 _ _ (by omega) (by omega), h.2.1 _ _ (by omega) (by omega), L.2.2.1, L.2.2.2.2.1]
theorem CV.has_C {σ τ : pS} {k : Int} (h : CV σ k τ) (S : Stat σ) (L : RSlo σ) {d : Nat} (hd : 1 ≤ d) {j : Int} (hj : inR j) : pC mX6_has d [(2, rd τ 35 4), (0, j)] τ (fun r υ => r = some (0, b2i (vHas (rd τ (rd τ 35 4) 0) (rd τ (rd τ 35 4) 1) j)) ∧ υ = τ) := by
  refine Jvm.Pilot.@@N@@.has_C hd (h.st S) (h.i6 L) hj ?_ ?_
  · rw [h.s4, h.2.1 _ _ (by omega) (by omega), L.2.2.1]; exact L.2.2.2.1
  · rw [h.s4, h.2.1 _ _ (by omega) (by omega), L.2.2.2.2.1]; exact L.2.2.2.2.2.1
theorem CV.row {σ τ : pS} {k : Int} (h : CV σ k τ) {a i : Int} (ha : 0 ≤ a ∧ a ≤ 10) : rd τ (rd τ 35 4 + a) i = rd σ (rd σ 0 7 + a) i := by
  rw [h.s4, h.2.1 _ _ (by omega) (by omega)]
theorem CV.opn {σ τ : pS} {k w m : Int} (h : CV σ k τ) (L : RSlo σ) (hw : wyS σ w = true) (hm : 0 ≤ m) : openS σ k w m = decide (rd τ (rd τ 35 4 + 6) (vOuter w) ≤ m ∧ m < rd τ (rd τ 35 4 + 7) (vOuter w) ∧ vShutAt τ (vOuter w) m = false) := (openX_eq L h.2.2 h.2.1 hw hm).1.symm
theorem CV.bounds {σ τ : pS} {k w : Int} (h : CV σ k τ) (L : RSlo σ) (hw : 0 ≤ w ∧ w < 17) : 0 ≤ rd τ (rd τ 35 4 + 2) w ∧ rd τ (rd τ 35 4 + 2) w < 10 ∧ 0 ≤ rd τ (rd τ 35 4 + 3) w ∧ rd τ (rd τ 35 4 + 3) w < 10 ∧ 0 ≤ rd τ (rd τ 35 4 + 4) w ∧ rd τ (rd τ 35 4 + 4) w ≤ 60 ∧ 0 ≤ rd τ (rd τ 35 4 + 6) w ∧ rd τ (rd τ 35 4 + 6) w ≤ 480 ∧ 0 ≤ rd τ (rd τ 35 4 + 7) w ∧ rd τ (rd τ 35 4 + 7) w ≤ 480 ∧ (rd τ (rd τ 35 4 + 8) w = 0 ∨ rd τ (rd τ 35 4 + 8) w = 1) ∧ 0 ≤ rd τ (rd τ 35 4 + 9) w ∧ rd τ (rd τ 35 4 + 9) w ≤ 3 := by
  rw [h.row (by omega), h.row (by omega), h.row (by omega), h.row (by omega), h.row (by omega), h.row (by omega), h.row (by omega)]
  exact L.2.2.2.2.2.2.2.2.2.2.2.2 w hw.1 hw.2
theorem fits_C {d : Nat} {τ : pS} (S : Stat τ) {a w sk : Int} (I : Inst6 τ a) (hw : 0 ≤ w ∧ w < 17) (h9 : 0 ≤ rd τ (a + 9) w ∧ rd τ (a + 9) w ≤ 3) (hs : 0 ≤ sk ∧ sk < 4) : pC mX6_fits d [(2, a), (0, w), (0, sk)] τ (fun r υ => r = some (0, b2i (vFits τ a w sk)) ∧ υ = τ) := by
  refine g_X6_fits_0 (Nat.zero_le d) S a w sk I hw (by unfold inR; omega) (by unfold inR; omega) (fun c => ⟨?_, rfl⟩) (fun c => ⟨?_, rfl⟩)
  · unfold vFits; exact b2i_zero (by omega)
  · unfold vFits; exact b2i_one c
theorem minutes_C {d : Nat} {τ : pS} (hd : 1 ≤ d) (S : Stat τ) {a w sk : Int} (I : Inst6 τ a) (hw : 0 ≤ w ∧ w < 17) (h4 : 0 ≤ rd τ (a + 4) w ∧ rd τ (a + 4) w ≤ 60) (h9 : 0 ≤ rd τ (a + 9) w ∧ rd τ (a + 9) w ≤ 3) (hs : 0 ≤ sk ∧ sk < 4) : pC mX6_minutes d [(2, a), (0, w), (0, sk)] τ (fun r υ => r = some (0, vMinX τ a w sk) ∧ υ = τ) := by
  have p := prod_R (a := rd τ (a + 4) w) (b := sk - rd τ (a + 9) w) h4 (by omega)
  refine g_X6_minutes_0 hd S a w sk I (by omega) (fun _ => hw) (fun _ => by unfold inR; omega) (fun _ => by unfold inR; omega) (fun c => ⟨?_, rfl⟩) (fun _ => hw) (fun c => ⟨?_, rfl⟩)
  · unfold vMinX; rw [if_neg (by omega)]
  · unfold vMinX; rw [if_pos c]
theorem CV.mins {σ τ : pS} {k w sk : Int} (h : CV σ k τ) (L : RSlo σ) (hw : wyS σ w = true) (hs : 0 ≤ sk ∧ sk < 4) : vMinX τ (rd τ 35 4) (vOuter w) sk = minS σ sk w ∧ vFits τ (rd τ 35 4) (vOuter w) sk = goS σ sk w := by
  obtain ⟨l0, l1, l2, l3, l4, l5, l6, l7, l8, l9, l10, l11, l12⟩ := id L
  have t := vWay_t hw
  have m := l9 w hw
  have hw' : vWay (rd σ 68 30) (rd σ 68 31) w = true := hw
  unfold vMinX vFits minS goS
  rw [h.row (by omega), h.row (by omega), m.2.2.2.2.2.2.1]
  by_cases c : w < 6
  · have r := l10 w (by omega) (by omega)
    rw [show vOuter w = w by unfold vOuter; rw [if_pos c], if_pos (by omega), if_pos c]
    refine ⟨rfl, decide_eq_decide.mpr ?_⟩
    simp only [hw', true_and]
    omega
  · have r := l11 (w - 6) (by omega) (by omega)
    rw [show 6 + (w - 6) = w by omega] at r
    rw [show vOuter w = 10 + (w - 6) by unfold vOuter; rw [if_neg c]; omega, if_neg (by omega), if_neg c, r.1]
    refine ⟨?_, decide_eq_decide.mpr ?_⟩
    · split <;> omega
    · simp only [hw', true_and]
      omega
theorem firstOpen_C {d : Nat} {σ τ : pS} (hd : 2 ≤ d) (S : Stat σ) (L : RSlo σ) {k : Int} (h : CV σ k τ) {w m : Int} (hw : 0 ≤ w ∧ w < 17) (hm : 0 ≤ m ∧ m < 2147483648) : pC mX3_firstOpen d [(2, 35), (0, w), (0, m)] τ (fun r υ => r = some (0, vFO τ w m) ∧ υ = τ) := by
  have S2 := h.st S
  have I := h.i6 L
  have b := h.bounds L hw
  have loop : ∀ (n i : Nat) (t : Int), i + n = 9 → 0 ≤ t → t < 2147483648 → pR mX3_firstOpen d 17 [(2, 35), (0, w), (0, m), (0, t), (0, (i : Int))] [] τ (fun r υ => r = some (0, foN τ w n t) ∧ υ = τ) := by
    intro n
    induction n with
    | zero =>
      intro i t hi t0 t1
      exact g_X3_firstOpen_17 hd S2 w m t (i : Int) (by omega) (fun _ => ⟨rfl, rfl⟩) (fun c => by omega) (fun c => by omega) (fun c => by omega) (fun c => by omega) (fun c => by omega) (fun c => by omega) (fun c => by omega) (fun c => by omega) (fun c => by omega)
    | succ n ih =>
      intro i t hi t0 t1
      refine g_X3_firstOpen_17 hd S2 w m t (i : Int) (by omega) (fun c => by omega) (fun _ => I) (fun _ => hw) (fun _ => by unfold inR; omega) (fun _ => by unfold inR; omega) (fun _ c => ⟨?_, rfl⟩) (fun _ _ => isShut_C (by omega) S2 ⟨t0, t1⟩) (fun _ _ _ => hourOf_CX S2 ⟨t0, t1⟩) (fun _ c c2 => ?_) (fun _ c c2 => ⟨?_, rfl⟩)
      · unfold foN; rw [if_pos c]
      · have hr := vHour_R t0
        have := ih (i + 1) ((vHour t + 1) * 60) (by omega) (by omega) (by omega)
        unfold foN
        rw [if_neg (by omega), if_pos c2]
        simpa using this
      · unfold foN
        rw [if_neg (by omega), if_neg (by rw [c2]; simp)]
  refine g_X3_firstOpen_0 hd S2 w m I hw (by unfold inR; omega) (by unfold inR; omega) ?_
  exact loop 9 0 _ rfl (by omega) (by omega)
theorem lastOpen_C {d : Nat} {σ τ : pS} (hd : 2 ≤ d) (S : Stat σ) (L : RSlo σ) {k : Int} (h : CV σ k τ) {w m : Int} (hw : 0 ≤ w ∧ w < 17) (hm : inR m) : pC mX3_lastOpen d [(2, 35), (0, w), (0, m)] τ (fun r υ => r = some (0, vLO τ w m) ∧ υ = τ) := by
  have S2 := h.st S
  have I := h.i6 L
  have b := h.bounds L hw
  have loop : ∀ (n i : Nat) (t : Int), i + n = 9 → inR t → pR mX3_lastOpen d 19 [(2, 35), (0, w), (0, m), (0, t), (0, (i : Int))] [] τ (fun r υ => r = some (0, loN τ w n t) ∧ υ = τ) := by
    intro n
    induction n with
    | zero =>
      intro i t hi t0
      exact g_X3_lastOpen_19 hd S2 w m t (i : Int) (by omega) (fun _ => ⟨rfl, rfl⟩) (fun c => by omega) (fun c => by omega) (fun c => by omega) (fun c => by omega) (fun c => by omega) (fun c => by omega) (fun c => by omega) (fun c => by omega) (fun c => by omega)
    | succ n ih =>
      intro i t hi t0
      refine g_X3_lastOpen_19 hd S2 w m t (i : Int) (by omega) (fun c => by omega) (fun _ => I) (fun _ => hw) (fun _ => t0) (fun _ => by unfold inR; omega) (fun _ c => ⟨?_, rfl⟩) (fun _ c => isShut_C (by omega) S2 (by unfold inR at t0; omega)) (fun _ c _ => hourOf_CX S2 (by unfold inR at t0; omega)) (fun _ c c2 => ?_) (fun _ c c2 => ⟨?_, rfl⟩)
      · unfold loN; rw [if_pos c]
      · have hr := vHour_R (m := t) (by omega)
        have := ih (i + 1) (vHour t * 60 - 1) (by omega) (by unfold inR; omega)
        unfold loN
        rw [if_neg (by omega), if_pos c2]
        simpa using this
      · unfold loN
        rw [if_neg (by omega), if_neg (by rw [c2]; simp)]
  refine g_X3_lastOpen_0 hd S2 w m I hw hm (by unfold inR; omega) ?_
  exact loop 9 0 _ rfl (by unfold inR at *; omega)
theorem CV.shut {σ τ : pS} {k w t b : Int} (h : CV σ k τ) (L : RSlo σ) (hw : wyS σ w = true) (t0 : 0 ≤ t) (hs : vShutAt τ (vOuter w) t = true) (hb : 0 ≤ b) (e : vHour b = vHour t) : openS σ k w b = false := by
  rw [h.opn L hw hb]
  have : vShutAt τ (vOuter w) b = vShutAt τ (vOuter w) t := by unfold vShutAt; rw [e]
  rw [this, hs]
  simp
theorem foN_spec {σ τ : pS} (L : RSlo σ) {k w : Int} (h : CV σ k τ) (hw : wyS σ w = true) : ∀ (n : Nat) (t : Int), 0 ≤ t → rd τ (rd τ 35 4 + 6) (vOuter w) ≤ t → (t < 480 → 9 - vHour t ≤ (n : Int)) → 1 ≤ n → (foN τ (vOuter w) n t = -1 ∧ ∀ b : Int, t ≤ b → openS σ k w b = false) ∨ (t ≤ foN τ (vOuter w) n t ∧ openS σ k w (foN τ (vOuter w) n t) = true ∧ ∀ b : Int, t ≤ b → b < foN τ (vOuter w) n t → openS σ k w b = false) := by
  have o := vOuter_of hw L.2.2.2.1.2 L.2.2.2.2.2.1.2
  have bd := h.bounds L ⟨o.1, o.2.1⟩
  intro n
  induction n with
  | zero => intro t _ _ _ h1; omega
  | succ n ih =>
    intro t t0 td tn _
    unfold foN
    by_cases c : rd τ (rd τ 35 4 + 7) (vOuter w) ≤ t
    · rw [if_pos c]
      refine Or.inl ⟨rfl, fun b hb => ?_⟩
      rw [h.opn L hw (by omega)]
      exact decide_eq_false (fun q => by omega)
    · rw [if_neg c]
      by_cases c2 : vShutAt τ (vOuter w) t = true
      · rw [if_pos c2]
        have hr := vHour_R t0
        have e : vHour t = t / 60 := by unfold vHour; rw [if_pos (by omega)]
        have same : ∀ b : Int, t ≤ b → b < (vHour t + 1) * 60 → openS σ k w b = false := fun b b0 b1 => h.shut L hw t0 c2 (by omega) (by unfold vHour; rw [if_pos (by omega), if_pos (by omega)]; omega)
        have h2 : (vHour t + 1) * 60 < 480 → vHour ((vHour t + 1) * 60) = vHour t + 1 := fun q => by
          unfold vHour at *
          rw [if_pos q]
          omega
        have := ih ((vHour t + 1) * 60) (by omega) (by omega) (fun q => by have := h2 q; omega) (by omega)
        rcases this with ⟨a1, a2⟩ | ⟨a1, a2, a3⟩
        · refine Or.inl ⟨a1, fun b hb => ?_⟩
          by_cases q : b < (vHour t + 1) * 60
          · exact same b hb q
          · exact a2 b (by omega)
        · refine Or.inr ⟨by omega, a2, fun b b0 b1 => ?_⟩
          by_cases q : b < (vHour t + 1) * 60
          · exact same b b0 q
          · exact a3 b (by omega) b1
      · rw [if_neg c2]
        refine Or.inr ⟨Int.le_refl _, ?_, fun b b0 b1 => by omega⟩
        rw [h.opn L hw t0]
        exact decide_eq_true ⟨td, by omega, by simpa using c2⟩
theorem CV.fo {σ τ : pS} (L : RSlo σ) {k w m : Int} (h : CV σ k τ) (hw : wyS σ w = true) (h0 : 0 ≤ m) : vFO τ (vOuter w) m = nextOpen σ k w m := by
  have o := vOuter_of hw L.2.2.2.1.2 L.2.2.2.2.2.1.2
  have bd := h.bounds L ⟨o.1, o.2.1⟩
  have s := nextOpen_spec L (k := k) hw h0
  have f := foN_spec L h hw 9 (max m (rd τ (rd τ 35 4 + 6) (vOuter w))) (by omega) (by omega) (fun _ => by have := vHour_R (m := max m (rd τ (rd τ 35 4 + 6) (vOuter w))) (by omega); omega) (by omega)
  have bef : ∀ b : Int, m ≤ b → b < max m (rd τ (rd τ 35 4 + 6) (vOuter w)) → openS σ k w b = false := fun b b0 b1 => by
    rw [h.opn L hw (by omega)]
    exact decide_eq_false (fun q => by omega)
  unfold vFO
  generalize foN τ (vOuter w) 9 (max m (rd τ (rd τ 35 4 + 6) (vOuter w))) = x at f ⊢
  rcases f with ⟨a1, a2⟩ | ⟨a1, a2, a3⟩
  · rcases s with ⟨b1, b2⟩ | ⟨b1, b2, b3, b4⟩
    · omega
    · by_cases q : nextOpen σ k w m < max m (rd τ (rd τ 35 4 + 6) (vOuter w))
      · have := bef _ b1 q; rw [b3] at this; cases this
      · have := a2 (nextOpen σ k w m) (by omega); rw [b3] at this; cases this
  · rcases s with ⟨b1, b2⟩ | ⟨b1, b2, b3, b4⟩
    · have := b2 x (by omega); rw [a2] at this; cases this
    · by_cases q : nextOpen σ k w m < x
      · by_cases q2 : nextOpen σ k w m < max m (rd τ (rd τ 35 4 + 6) (vOuter w))
        · have := bef _ b1 q2; rw [b3] at this; cases this
        · have := a3 (nextOpen σ k w m) (by omega) q; rw [b3] at this; cases this
      · by_cases q3 : x < nextOpen σ k w m
        · have := b4 x (by omega) q3; rw [a2] at this; cases this
        · omega
theorem loN_spec {σ τ : pS} (L : RSlo σ) {k w : Int} (h : CV σ k τ) (hw : wyS σ w = true) : ∀ (n : Nat) (t : Int), t < rd τ (rd τ 35 4 + 7) (vOuter w) → (0 ≤ t → vHour t + 2 ≤ (n : Int)) → 1 ≤ n → (loN τ (vOuter w) n t = -1 ∧ ∀ b : Int, 0 ≤ b → b ≤ t → openS σ k w b = false) ∨ (0 ≤ loN τ (vOuter w) n t ∧ loN τ (vOuter w) n t ≤ t ∧ openS σ k w (loN τ (vOuter w) n t) = true ∧ ∀ b : Int, loN τ (vOuter w) n t < b → b ≤ t → openS σ k w b = false) := by
  have o := vOuter_of hw L.2.2.2.1.2 L.2.2.2.2.2.1.2
  have bd := h.bounds L ⟨o.1, o.2.1⟩
  intro n
  induction n with
  | zero => intro t _ _ h1; omega
  | succ n ih =>
    intro t td tn _
    unfold loN
    by_cases c : t < rd τ (rd τ 35 4 + 6) (vOuter w)
    · rw [if_pos c]
      refine Or.inl ⟨rfl, fun b b0 hb => ?_⟩
      rw [h.opn L hw b0]
      exact decide_eq_false (fun q => by omega)
    · rw [if_neg c]
      by_cases c2 : vShutAt τ (vOuter w) t = true
      · rw [if_pos c2]
        have hr := vHour_R (m := t) (by omega)
        have e : vHour t = t / 60 := by unfold vHour; rw [if_pos (by omega)]
        have same : ∀ b : Int, vHour t * 60 - 1 < b → b ≤ t → openS σ k w b = false := fun b b0 b1 => h.shut L hw (by omega) c2 (by omega) (by unfold vHour; rw [if_pos (by omega), if_pos (by omega)]; omega)
        have h2 : 0 ≤ vHour t * 60 - 1 → vHour (vHour t * 60 - 1) = vHour t - 1 := fun q => by
          unfold vHour at *
          rw [if_pos (by omega)]
          omega
        have := ih (vHour t * 60 - 1) (by omega) (fun q => by have := h2 q; have := tn (by omega); omega) (by have := tn (by omega); omega)
        rcases this with ⟨a1, a2⟩ | ⟨a0, a1, a2, a3⟩
        · refine Or.inl ⟨a1, fun b b0 hb => ?_⟩
          by_cases q : vHour t * 60 - 1 < b
          · exact same b q hb
          · exact a2 b b0 (by omega)
        · refine Or.inr ⟨a0, by omega, a2, fun b b0 b1 => ?_⟩
          by_cases q : vHour t * 60 - 1 < b
          · exact same b q b1
          · exact a3 b b0 (by omega)
      · rw [if_neg c2]
        refine Or.inr ⟨by omega, Int.le_refl _, ?_, fun b b0 b1 => by omega⟩
        rw [h.opn L hw (by omega)]
        exact decide_eq_true ⟨by omega, by omega, by simpa using c2⟩
theorem CV.lo {σ τ : pS} (L : RSlo σ) {k w t : Int} (h : CV σ k τ) (hw : wyS σ w = true) : vLO τ (vOuter w) t = lastOpenS σ k w t := by
  have o := vOuter_of hw L.2.2.2.1.2 L.2.2.2.2.2.1.2
  have bd := h.bounds L ⟨o.1, o.2.1⟩
  have s := lastOpenS_spec L (k := k) (t := t) hw
  have f := loN_spec L h hw 9 (min t (rd τ (rd τ 35 4 + 7) (vOuter w) - 1)) (by omega) (fun q => by have := vHour_R q; omega) (by omega)
  have beh : ∀ b : Int, 0 ≤ b → min t (rd τ (rd τ 35 4 + 7) (vOuter w) - 1) < b → b ≤ t → openS σ k w b = false := fun b b0 b1 b2 => by
    rw [h.opn L hw (by omega)]
    exact decide_eq_false (fun q => by omega)
  unfold vLO
  generalize loN τ (vOuter w) 9 (min t (rd τ (rd τ 35 4 + 7) (vOuter w) - 1)) = x at f ⊢
  rcases f with ⟨a1, a2⟩ | ⟨a0, a1, a2, a3⟩
  · rcases s with ⟨b1, b2⟩ | ⟨b0, b1, b2, b3, b4⟩
    · omega
    · by_cases q : min t (rd τ (rd τ 35 4 + 7) (vOuter w) - 1) < lastOpenS σ k w t
      · have := beh _ b0 q b1; rw [b3] at this; cases this
      · have := a2 (lastOpenS σ k w t) b0 (by omega); rw [b3] at this; cases this
  · rcases s with ⟨b1, b2⟩ | ⟨b0, b1, b2, b3, b4⟩
    · have := b2 x a0 (by omega); rw [a2] at this; cases this
    · by_cases q : x < lastOpenS σ k w t
      · by_cases q2 : min t (rd τ (rd τ 35 4 + 7) (vOuter w) - 1) < lastOpenS σ k w t
        · have := beh _ b0 q2 b1; rw [b3] at this; cases this
        · have := a3 (lastOpenS σ k w t) q (by omega); rw [b3] at this; cases this
      · by_cases q3 : lastOpenS σ k w t < x
        · have := b4 x q3 (by omega); rw [a2] at this; cases this
        · omega
theorem CV.behind {σ τ : pS} (L : RSlo σ) {k w sk m : Int} (h : CV σ k τ) (hw : wyS σ w = true) (hs : 0 ≤ sk ∧ sk < 4) (h0 : 0 ≤ m) : vBehind τ (vOuter w) sk m = FS σ k sk w m := by
  obtain ⟨e1, e2⟩ := h.mins L hw hs
  have s := nextOpen_spec L (k := k) hw h0
  unfold vBehind FS
  rw [e1, e2, h.fo L hw h0]
  cases g : goS σ sk w
  · rw [if_pos rfl, if_pos (Or.inr (Or.inl rfl))]
  · rw [if_neg (by simp)]
    by_cases c : nextOpen σ k w m = -1
    · rw [if_pos c, if_pos (Or.inr (Or.inr (by omega)))]
    · rw [if_neg c, if_neg (by simp; omega)]
theorem FS_R {σ : pS} (L : RSlo σ) {k sk w m : Int} (hw : wyS σ w = true) (hs : 0 ≤ sk ∧ sk < 4) (h0 : 0 ≤ m) : -1 ≤ FS σ k sk w m ∧ FS σ k sk w m ≤ 540 := by
  have := (FS_ok L k hs).2.1 w m hw h0
  omega
theorem behind_C {d : Nat} {σ τ : pS} (hd : 3 ≤ d) (S : Stat σ) (L : RSlo σ) {k : Int} (h : CV σ k τ) {w sk m : Int} (hw : 0 ≤ w ∧ w < 17) (hs : 0 ≤ sk ∧ sk < 4) (hm : 0 ≤ m ∧ m < 2147483648) (hf : inR (vFO τ w m)) : pC mX4_behind d [(2, 40), (0, w), (0, sk), (0, m)] τ (fun r υ => r = some (0, vBehind τ w sk m) ∧ υ = τ) := by
  have S2 := h.st S
  have b := h.bounds L hw
  refine g_X4_behind_0 hd S2 w sk m (fits_C S2 (h.i6 L) hw (by omega) hs) (h.i6 L) (fun _ => firstOpen_C (by omega) S L h hw hm) (fun _ => hf) (fun _ _ => minutes_C (by omega) S2 (h.i6 L) hw (by omega) (by omega) hs) (fun c c2 => ⟨?_, rfl⟩) (fun c c2 => ⟨?_, rfl⟩) (fun c => ⟨?_, rfl⟩)
  · unfold vBehind; rw [if_neg (by rw [c]; simp), if_neg c2]
  · unfold vBehind; rw [if_neg (by rw [c]; simp), if_pos c2]
  · unfold vBehind; rw [if_pos c]
/-! the reference's side -/
def RV (σ : pS) (k : Int) (τ : pS) : Prop := τ.1 = σ.1 ∧ (∀ a i : Int, ¬ (101 ≤ a ∧ a ≤ 106) → rd τ a i = rd σ a i) ∧ ∀ w : Int, 0 ≤ w → w < 13 → knS σ k w 8 τ ∧ knO σ k w 481 τ
theorem RV.wr {σ τ : pS} {k i v : Int} (h : RV σ k τ) : RV σ k (wr τ 106 i v) := ⟨h.1, fun a j p => by rw [rd_wr_n (by omega)]; exact h.2.1 a j p, fun w w0 w1 => ⟨fun r r0 r1 => by rw [rd_wr_n (by omega)]; exact (h.2.2 w w0 w1).1 r r0 r1, fun m m0 m1 => by rw [rd_wr_n (by omega)]; exact (h.2.2 w w0 w1).2 m m0 m1⟩⟩
theorem knowD.rv {σ τ : pS} {k : Int} (h : knowD σ k τ) : RV σ k τ := ⟨h.1.1.1, fun a i p => h.1.1.2 a i (by omega), fun w w0 w1 => h.2 w w0 w1⟩
theorem RV.st {σ τ : pS} {k : Int} (h : RV σ k τ) (S : Stat σ) : Stat τ := S.eq h.1
theorem RV.eq {σ τ : pS} {k : Int} (h : RV σ k τ) {a i : Int} (ha : a < 101 ∨ 106 < a) : rd τ a i = rd σ a i := h.2.1 a i (by omega)
theorem RV.go {σ τ : pS} {k : Int} (h : RV σ k τ) (sk w : Int) : goS τ sk w = goS σ sk w ∧ minS τ sk w = minS σ sk w := by
  unfold goS minS
  rw [h.eq (by omega), h.eq (by omega), h.eq (by omega), h.eq (by omega)]
  exact ⟨rfl, rfl⟩
theorem RV.by {σ τ : pS} {k sk w m : Int} (h : RV σ k τ) (hw : 0 ≤ w ∧ w < 13) (h0 : 0 ≤ m) : vBy τ sk w m = FS σ k sk w m := by
  unfold vBy FS
  rw [(h.go sk w).1, (h.go sk w).2]
  by_cases c : 480 < m
  · rw [if_pos (Or.inl c), if_pos (Or.inl c)]
  · rw [(h.2.2 w hw.1 hw.2).2 m (by omega) (by omega)]
theorem RV.isWay_C {σ τ : pS} {k : Int} (h : RV σ k τ) (S : Stat σ) (L : RSlo σ) {d : Nat} {w : Int} (hw : inR w) : pC mX11_isWay d [(2, 68), (0, w)] τ (fun r υ => r = some (0, b2i (vWay (rd τ 68 30) (rd τ 68 31) w)) ∧ υ = τ) := Jvm.Pilot.@@N@@.isWay_C (h.st S) hw (by rw [h.eq (by omega)]; exact L.2.2.2.1) (by rw [h.eq (by omega)]; exact L.2.2.2.2.2.1)
theorem RV.wy {σ τ : pS} {k : Int} (h : RV σ k τ) (w : Int) : vWay (rd τ 68 30) (rd τ 68 31) w = wyS σ w := by rw [h.eq (by omega), h.eq (by omega)]; rfl
theorem minutesOf_C {d : Nat} {σ τ : pS} (S : Stat σ) (L : RSlo σ) {k : Int} (h : RV σ k τ) {sk w : Int} (hw : wyS σ w = true) (hs : 0 ≤ sk ∧ sk < 4) : pC mX11_minutesOf d [(2, 68), (0, sk), (0, w)] τ (fun r υ => r = some (0, minS τ sk w) ∧ υ = τ) := by
  have t := vWay_t hw
  have m := L.2.2.2.2.2.2.2.2.2.1 w hw
  obtain ⟨l0, l1, l2, l3, l4, l5, l6, l7, l8, l9, l10, l11, l12⟩ := id L
  have e79 : rd τ 79 w = rd σ 79 w := h.eq (by omega)
  have e80 : rd τ 80 w = rd σ 80 w := h.eq (by omega)
  have p : 6 ≤ w → inR (rd τ 79 w * (sk - rd τ 80 w)) ∧ inR (rd τ 79 w - (rd τ 79 w * (sk - rd τ 80 w)).tdiv 4) := fun c => by
    have r := l11 (w - 6) (by omega) (by omega)
    rw [show 6 + (w - 6) = w by omega] at r
    have p := prod_R (a := rd τ 79 w) (b := sk - rd τ 80 w) (by omega) (by omega)
    unfold inR
    omega
  refine g_X11_minutesOf_0 (Nat.zero_le d) (h.st S) sk w (by omega) (fun _ => by omega) (fun c => (p c).1) (fun c => (p c).2) (fun c c2 => ⟨?_, rfl⟩) (fun c c2 => ⟨?_, rfl⟩) (fun _ => by omega) (fun c => ⟨?_, rfl⟩)
  · unfold minS; rw [if_neg (by omega), if_neg (by omega)]
  · unfold minS; rw [if_neg (by omega), if_pos c2]
  · unfold minS; rw [if_pos c]
theorem canGo_C {d : Nat} {σ τ : pS} (hd : 1 ≤ d) (S : Stat σ) (L : RSlo σ) {k : Int} (h : RV σ k τ) {sk w : Int} (hw : 0 ≤ w ∧ w < 13) (hs : 0 ≤ sk ∧ sk < 4) : pC mX11_canGo d [(2, 68), (0, sk), (0, w)] τ (fun r υ => r = some (0, b2i (goS τ sk w)) ∧ υ = τ) := by
  obtain ⟨l0, l1, l2, l3, l4, l5, l6, l7, l8, l9, l10, l11, l12⟩ := id L
  refine g_X11_canGo_0 hd (h.st S) sk w (h.isWay_C S L (by omega)) (fun c => ⟨?_, rfl⟩) (fun _ => by omega) (fun c c2 => ⟨?_, rfl⟩) (fun _ _ => hw) (fun c c2 => ?_) (fun _ _ => by omega) (fun c c2 c3 => ⟨?_, rfl⟩) (fun c c2 c3 => ⟨?_, rfl⟩)
  · unfold goS; exact b2i_zero (fun q => by rw [c] at q; cases q.1)
  · unfold goS; exact b2i_one ⟨c, Or.inl c2⟩
  · rw [h.wy] at c
    have t := vWay_t c
    have r := l11 (w - 6) (by omega) (by omega)
    rw [show 6 + (w - 6) = w by omega] at r
    rw [h.eq (by omega)]
    unfold inR; omega
  · unfold goS; exact b2i_zero (by omega)
  · unfold goS; exact b2i_one ⟨c, Or.inr c3⟩
theorem by_C {d : Nat} {σ τ : pS} (hd : 2 ≤ d) (S : Stat σ) (L : RSlo σ) {k : Int} (h : RV σ k τ) {sk w m : Int} (hw : wyS σ w = true) (hs : 0 ≤ sk ∧ sk < 4) (hm : 0 ≤ m ∧ m < 2147483648) : pC mX11_by d [(2, 68), (0, sk), (0, w), (0, m)] τ (fun r υ => r = some (0, vBy τ sk w m) ∧ υ = τ) := by
  have t := vWay_t hw
  have a1 := L.2.2.2.1
  have a2 := L.2.2.2.2.2.1
  refine g_X11_by_0 hd (h.st S) sk w m (by omega) (fun c => ⟨?_, rfl⟩) (fun _ => canGo_C (by omega) S L h (by omega) hs) (fun c c2 => ⟨?_, rfl⟩) (fun _ _ => by omega) (fun c c2 => ?_) (fun _ _ _ => minutesOf_C S L h hw hs) (fun c c2 c3 => ⟨?_, rfl⟩) (fun c c2 c3 => ⟨?_, rfl⟩)
  · unfold vBy; rw [if_pos (Or.inl c)]
  · unfold vBy; rw [if_pos (Or.inr (Or.inl c2))]
  · rw [(h.2.2 w (by omega) (by omega)).2 m (by omega) (by omega)]
    have := nextOpen_spec L (k := k) hw hm.1
    unfold inR; omega
  · unfold vBy; rw [if_neg (by rw [c2]; simp; omega)]
  · unfold vBy; rw [if_pos (Or.inr (Or.inr c3))]
