/-! lines of a mountain: the model; the class reads them all -/
/-- what is told so far: (lifts, runs), lines, (home told, home), where each way's line begins, the next token -/
abbrev mdS : Type := (Nat × Nat) × Nat × (Bool × Int) × (Nat → Nat) × Nat
def mL (s : mdS) : Nat := s.1.1
def mR (s : mdS) : Nat := s.1.2
def mN (s : mdS) : Nat := s.2.1
def mTd (s : mdS) : Bool := s.2.2.1.1
def mHm (s : mdS) : Int := s.2.2.1.2
def mB (s : mdS) (w : Nat) : Nat := s.2.2.2.1 w
def mAt (s : mdS) : Nat := s.2.2.2.2
def mTold (s : mdS) (w : Nat) : Bool := decide (w < mL s ∨ (10 ≤ w ∧ w < 10 + mR s))
def ntS (V : Nat → Int) (s : mdS) (v : Int) : Bool := decide (∀ w : Nat, w < 17 → mTold s w = true → V (mB s w + 1) ≠ v)
def lineO (K P V : Nat → Int) (s : mdS) : pO := if K (mAt s) = 0 ∧ mL s < 6 then liftO K P V (ntS V s (V (mAt s + 1))) (mAt s) else if K (mAt s) = 1 ∧ mR s < 7 then runO K P V (ntS V s (V (mAt s + 1))) (mAt s) else if K (mAt s) = 2 ∧ mTd s = false then homeO K P (mAt s) else some (if K (mAt s) = 22 then 1 else 2, P (mAt s))
def lineN (K V : Nat → Int) (s : mdS) : mdS := if K (mAt s) = 0 then ((mL s + 1, mR s), mN s + 1, (mTd s, mHm s), (fun w => if w = mL s then mAt s else mB s w), lsc K (mAt s) + 1) else if K (mAt s) = 1 then ((mL s, mR s + 1), mN s + 1, (mTd s, mHm s), (fun w => if w = 10 + mR s then mAt s else mB s w), mAt s + 11) else ((mL s, mR s), mN s + 1, (true, V (mAt s + 1)), mB s, mAt s + 3)
def liftV (K V : Nat → Int) (b : Nat) (m : Int) : Int := if m = 1 then V (b + 1) else if m = 2 then V (b + 2) else if m = 3 then V (b + 3) else if m = 4 then V (b + 5) else if m = 5 then V (b + 7) else if m = 6 then V (b + 9) else if m = 7 then V (b + 11) else if m = 8 then b2i (decide (K (b + 12) = 7)) else 0
def runV (V : Nat → Int) (b : Nat) (m : Int) : Int := if m = 1 then V (b + 1) else if m = 2 then V (b + 2) else if m = 3 then V (b + 3) else if m = 4 then V (b + 7) else if m = 7 then 480 else if m = 9 then V (b + 5) else if m = 10 then V (b + 9) else 0
def wayV (K V : Nat → Int) (s : mdS) (w : Nat) (m : Int) : Int := if w < mL s then liftV K V (mB s w) m else if 10 ≤ w ∧ w < 10 + mR s then runV V (mB s w) m else 0
/-- the new object holds what is told -/
def cOB (K V : Nat → Int) (a0 : Int) (s : mdS) (τ : pS) : Prop := rd τ a0 0 = mL s ∧ rd τ a0 1 = mR s ∧ rd τ a0 3 = mHm s ∧ rd τ a0 4 = b2i (mTd s) ∧ ∀ w : Nat, w < 17 → ∀ m : Int, 1 ≤ m → m ≤ 10 → rd τ (a0 + m) w = wayV K V s w m
def mInv (K P V : Nat → Int) (c : Nat) (s : mdS) : Prop := mL s ≤ 6 ∧ mR s ≤ 7 ∧ (0 ≤ mHm s ∧ mHm s ≤ 9) ∧ mN s ≤ mAt s ∧ mAt s ≤ c ∧ (∀ w : Nat, w < mL s → mB s w < c ∧ ∃ nt, liftO K P V nt (mB s w) = none) ∧ ∀ w : Nat, 10 ≤ w → w < 10 + mR s → mB s w < c ∧ ∃ nt, runO K P V nt (mB s w) = none
theorem ends_none {K P V : Nat → Int} {c : Nat} (R : tkR K V c) {nt : Bool} {j : Nat} (hj : j ≤ c) (h : endsO K P V nt j = none) : K j = 18 ∧ (0 < V j ∧ V j < 1099511627776) ∧ nt = true ∧ (0 ≤ V (j + 1) ∧ V (j + 1) ≤ 9) ∧ (0 ≤ V (j + 2) ∧ V (j + 2) ≤ 9) ∧ V (j + 2) ≠ V (j + 1) ∧ j + 3 ≤ c := by
  unfold endsO at h
  simp only [oo_none_iff, ck_none, decide_eq_true_eq] at h
  obtain ⟨h1, h2, h3, h4, h5⟩ := h
  have c1 : j < c := R.lt hj (by omega)
  have c2 : j + 1 < c := R.lt (by omega) (by omega)
  have c3 : j + 2 < c := R.lt (by omega) (by omega)
  exact ⟨h1, (R.2.2 j c1).2.2.2 (by omega), h2, (R.2.2 _ c2).2.1 h3, (R.2.2 _ c3).2.1 h4, h5, by omega⟩
theorem num_none {K P V : Nat → Int} {c : Nat} (R : tkR K V c) {k lo hi : Int} {j : Nat} (hk : k ≠ 21) (hj : j ≤ c) (h : numO K P V k lo hi j = none) : (lo ≤ V (j + 1) ∧ V (j + 1) ≤ hi) ∧ (0 ≤ V (j + 1) ∧ V (j + 1) ≤ 9999) ∧ j + 2 ≤ c := by
  unfold numO at h
  simp only [oo_none_iff, ck_none, decide_eq_true_eq] at h
  obtain ⟨h1, h2, h3⟩ := h
  have c1 : j < c := R.lt hj (by omega)
  have c2 : j + 1 < c := R.lt (by omega) (by omega)
  exact ⟨h3, (R.2.2 _ c2).2.2.1 h2, by omega⟩
theorem lift_none {K P V : Nat → Int} {c : Nat} (R : tkR K V c) {nt : Bool} {b : Nat} (hb : b < c) (h : liftO K P V nt b = none) : K (b + 1) = 18 ∧ (0 < V (b + 1) ∧ V (b + 1) < 1099511627776) ∧ nt = true ∧ (0 ≤ V (b + 2) ∧ V (b + 2) ≤ 9) ∧ (0 ≤ V (b + 3) ∧ V (b + 3) ≤ 9) ∧ (1 ≤ V (b + 5) ∧ V (b + 5) ≤ 30) ∧ (1 ≤ V (b + 7) ∧ V (b + 7) ≤ 99) ∧ (0 ≤ V (b + 9) ∧ V (b + 9) ≤ 480) ∧ (V (b + 9) < V (b + 11) ∧ V (b + 11) ≤ 480) ∧ lsc K b + 1 ≤ c := by
  unfold liftO at h
  simp only [oo_none_iff] at h
  obtain ⟨h1, h2, h3, h4, h5, h6⟩ := h
  have e := ends_none R (by omega) h1
  have n2 := num_none R (by decide) (by omega) h2
  have n3 := num_none R (by decide) (by omega) h3
  have n4 := num_none R (by decide) (by omega) h4
  have n5 := num_none R (by decide) (by omega) h5
  simp only [ck_none, decide_eq_true_eq] at h6
  have l : lsc K b < c := by
    unfold lsc at h6 ⊢
    by_cases z : K (b + 12) = 7
    · rw [if_pos z] at h6 ⊢
      have : b + 12 < c := R.lt (by omega) (by omega)
      exact R.lt (by omega) (by omega)
    · rw [if_neg z] at h6 ⊢
      exact R.lt (by omega) (by omega)
  exact ⟨e.1, e.2.1, e.2.2.1, e.2.2.2.1, e.2.2.2.2.1, n2.1, n3.1, n4.1, ⟨by have y : V (b + 9) + 1 ≤ V (b + 11) := n5.1.1; omega, n5.1.2⟩, by omega⟩
theorem run_none {K P V : Nat → Int} {c : Nat} (R : tkR K V c) {nt : Bool} {b : Nat} (hb : b < c) (h : runO K P V nt b = none) : K (b + 1) = 18 ∧ (0 < V (b + 1) ∧ V (b + 1) < 1099511627776) ∧ nt = true ∧ (0 ≤ V (b + 2) ∧ V (b + 2) ≤ 9) ∧ (0 ≤ V (b + 3) ∧ V (b + 3) ≤ 9) ∧ (0 ≤ V (b + 5) ∧ V (b + 5) ≤ 3) ∧ (1 ≤ V (b + 7) ∧ V (b + 7) ≤ 60) ∧ (0 ≤ V (b + 9) ∧ V (b + 9) ≤ 300) ∧ b + 11 ≤ c := by
  unfold runO at h
  simp only [oo_none_iff] at h
  obtain ⟨h1, h2, h3, h4, h6⟩ := h
  have e := ends_none R (by omega) h1
  have n2 := num_none R (by decide) (by omega) h2
  have n3 := num_none R (by decide) (by omega) h3
  have n4 := num_none R (by decide) (by omega) h4
  simp only [ck_none, decide_eq_true_eq] at h6
  have l : b + 10 < c := R.lt (by omega) (by omega)
  exact ⟨e.1, e.2.1, e.2.2.1, e.2.2.2.1, e.2.2.2.2.1, n2.1, n3.1, n4.1, by omega⟩
theorem home_none {K P V : Nat → Int} {c : Nat} (R : tkR K V c) {b : Nat} (hb : b < c) (h : homeO K P b = none) : (0 ≤ V (b + 1) ∧ V (b + 1) ≤ 9) ∧ b + 3 ≤ c := by
  unfold homeO at h
  simp only [oo_none_iff, ck_none, decide_eq_true_eq] at h
  have c1 : b + 1 < c := R.lt (by omega) (by omega)
  have c2 : b + 2 < c := R.lt (by omega) (by omega)
  exact ⟨(R.2.2 _ c1).2.1 h.1, by omega⟩
theorem endsO_nt {K P V : Nat → Int} {nt nt' : Bool} {j : Nat} (h : K j = 18 → nt = nt') : endsO K P V nt j = endsO K P V nt' j := by
  unfold endsO
  refine oo_cg (fun z => ?_)
  rw [h (of_decide_eq_true (ck_none.mp z))]
theorem liftO_nt {K P V : Nat → Int} {nt nt' : Bool} {j : Nat} (h : K (j + 1) = 18 → nt = nt') : liftO K P V nt j = liftO K P V nt' j := by
  unfold liftO
  rw [endsO_nt h]
theorem runO_nt {K P V : Nat → Int} {nt nt' : Bool} {j : Nat} (h : K (j + 1) = 18 → nt = nt') : runO K P V nt j = runO K P V nt' j := by
  unfold runO
  rw [endsO_nt h]
theorem lineN_inv {K P V : Nat → Int} {c : Nat} (R : tkR K V c) {s : mdS} (I : mInv K P V c s) (hc : mAt s < c) (h : lineO K P V s = none) : mInv K P V c (lineN K V s) ∧ mAt s < mAt (lineN K V s) ∧ mN (lineN K V s) = mN s + 1 := by
  obtain ⟨i1, i2, i3, i4, i5, i6, i7⟩ := I
  unfold lineO at h
  by_cases k0 : K (mAt s) = 0
  · have e : lineN K V s = ((mL s + 1, mR s), mN s + 1, (mTd s, mHm s), (fun w => if w = mL s then mAt s else mB s w), lsc K (mAt s) + 1) := if_pos k0
    rw [e]
    by_cases l6 : mL s < 6
    · rw [if_pos ⟨k0, l6⟩] at h
      have q := lift_none R hc h
      have lq : mAt s + 12 ≤ lsc K (mAt s) := by unfold lsc; split <;> omega
      refine ⟨⟨show mL s + 1 ≤ 6 by omega, i2, i3, show mN s + 1 ≤ lsc K (mAt s) + 1 by omega, q.2.2.2.2.2.2.2.2.2, fun w hw => ?_, fun w w0 w1 => ?_⟩, show mAt s < lsc K (mAt s) + 1 by omega, rfl⟩
      · show (if w = mL s then mAt s else mB s w) < c ∧ ∃ nt, liftO K P V nt (if w = mL s then mAt s else mB s w) = none
        have hw : w < mL s + 1 := hw
        by_cases z : w = mL s
        · rw [if_pos z]; exact ⟨hc, _, h⟩
        · rw [if_neg z]; exact i6 w (by omega)
      · show (if w = mL s then mAt s else mB s w) < c ∧ ∃ nt, runO K P V nt (if w = mL s then mAt s else mB s w) = none
        rw [if_neg (by omega)]
        exact i7 w w0 w1
    · rw [if_neg (fun z => l6 z.2), if_neg (fun z => by omega), if_neg (fun z => by omega)] at h
      exact absurd h (fun z => (by cases z))
  · rw [if_neg (fun z => k0 z.1)] at h
    by_cases k1 : K (mAt s) = 1
    · have e : lineN K V s = ((mL s, mR s + 1), mN s + 1, (mTd s, mHm s), (fun w => if w = 10 + mR s then mAt s else mB s w), mAt s + 11) := (if_neg k0).trans (if_pos k1)
      rw [e]
      by_cases r7 : mR s < 7
      · rw [if_pos ⟨k1, r7⟩] at h
        have q := run_none R hc h
        refine ⟨⟨i1, show mR s + 1 ≤ 7 by omega, i3, show mN s + 1 ≤ mAt s + 11 by omega, q.2.2.2.2.2.2.2.2, fun w hw => ?_, fun w w0 w1 => ?_⟩, show mAt s < mAt s + 11 by omega, rfl⟩
        · show (if w = 10 + mR s then mAt s else mB s w) < c ∧ ∃ nt, liftO K P V nt (if w = 10 + mR s then mAt s else mB s w) = none
          have hw : w < mL s := hw
          rw [if_neg (by omega)]
          exact i6 w hw
        · show (if w = 10 + mR s then mAt s else mB s w) < c ∧ ∃ nt, runO K P V nt (if w = 10 + mR s then mAt s else mB s w) = none
          have w1 : w < 10 + (mR s + 1) := w1
          by_cases z : w = 10 + mR s
          · rw [if_pos z]; exact ⟨hc, _, h⟩
          · rw [if_neg z]; exact i7 w w0 (by omega)
      · rw [if_neg (fun z => r7 z.2), if_neg (fun z => by omega)] at h
        exact absurd h (fun z => (by cases z))
    · rw [if_neg (fun z => k1 z.1)] at h
      have e : lineN K V s = ((mL s, mR s), mN s + 1, (true, V (mAt s + 1)), mB s, mAt s + 3) := (if_neg k0).trans (if_neg k1)
      rw [e]
      by_cases k2 : K (mAt s) = 2 ∧ mTd s = false
      · rw [if_pos k2] at h
        have q := home_none (V := V) R hc h
        exact ⟨⟨i1, i2, q.1, show mN s + 1 ≤ mAt s + 3 by omega, q.2, i6, i7⟩, show mAt s < mAt s + 3 by omega, rfl⟩
      · rw [if_neg k2] at h
        exact absurd h (fun z => (by cases z))
theorem cOB.nt {K P V : Nat → Int} {c : Nat} (R : tkR K V c) {a0 : Int} {s : mdS} {τ : pS} (I : mInv K P V c s) (B : cOB K V a0 s τ) {v : Int} (hv : 0 < v) : nmF τ a0 v = ntS V s v := by
  unfold nmF ntS
  rw [← decide_not]
  refine decide_eq_decide.mpr ⟨fun h w hw ht e => h ⟨w, hw, ?_⟩, fun h ⟨w, hw, e⟩ => ?_⟩
  · rw [B.2.2.2.2 w hw 1 (by decide) (by decide)]
    unfold mTold at ht
    have ht := of_decide_eq_true ht
    unfold wayV
    rcases ht with z | z
    · rw [if_pos z]; exact e
    · rw [if_neg (by have := I.1; omega), if_pos z]; exact e
  · rw [B.2.2.2.2 w hw 1 (by decide) (by decide)] at e
    unfold wayV at e
    by_cases z : w < mL s
    · rw [if_pos z] at e
      exact h w hw (decide_eq_true (Or.inl z)) e
    · rw [if_neg z] at e
      by_cases z2 : 10 ≤ w ∧ w < 10 + mR s
      · rw [if_pos z2] at e
        exact h w hw (decide_eq_true (Or.inr z2)) e
      · rw [if_neg z2] at e
        omega
theorem cOB.nR {K P V : Nat → Int} {c : Nat} (R : tkR K V c) {a0 : Int} {s : mdS} {τ : pS} (I : mInv K P V c s) (B : cOB K V a0 s τ) (i : Nat) (hi : i < 17) : inL (rd τ (a0 + 1) (i : Int)) := by
  rw [B.2.2.2.2 i hi 1 (by decide) (by decide)]
  unfold wayV
  obtain ⟨i1, i2, i3, i4, i5, i6, i7⟩ := I
  split
  · rename_i z
    obtain ⟨b, nt, h⟩ := i6 i z
    have := (lift_none R b h).2.1
    show inL (V (mB s i + 1))
    unfold inL; omega
  · split
    · rename_i z
      obtain ⟨b, nt, h⟩ := i7 i z.1 z.2
      have := (run_none R b h).2.1
      show inL (V (mB s i + 1))
      unfold inL; omega
    · decide
