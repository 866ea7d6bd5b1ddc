/-! a day: the class takes turns -/
def CX (σ : pS) (k : Int) (τ : pS) : Prop := CV σ k τ ∧ ∀ a i : Int, 44 ≤ a → a ≤ 49 → rd τ a i = rd σ a i
theorem CX.fr {σ τ υ : pS} {k : Int} (h : CX σ k τ) (L : RSlo σ) (q1 : υ.1 = τ.1) (q2 : ∀ a i : Int, ¬ (51 ≤ a ∧ a ≤ 60) → rd υ a i = rd τ a i) : CX σ k υ := by
  have l := L.1
  refine ⟨⟨q1.trans h.1.1, fun b i b0 b1 => (q2 b i (by omega)).trans (h.1.2.1 b i b0 b1), (q2 _ _ (by omega)).trans h.1.2.2.1, fun r r0 r1 => ?_⟩, fun a i a0 a1 => (q2 a i (by omega)).trans (h.2 a i a0 a1)⟩
  have e := h.1.2.2.2 r r0 r1
  rw [q2 36 r (by omega), q2 37 r (by omega), q2 38 r (by omega), q2 39 r (by omega)]
  exact e
/-- the people who arrive, by minute and place as the class keeps them -/
def arC (σ : pS) (c : Int) : Int := sumF (fun n => if rd σ 118 n * 10 + rd σ 68 32 = c then rd σ 119 n else 0) (rd σ 68 77).toNat
/-- the class's rows of a day against the model's -/
def DRow (σ : pS) (m : Int) (S : Int → Int → Int) (τ : pS) : Prop := (∀ l : Int, 0 ≤ l → l < rd σ 68 30 → rd τ 59 l = S 125 l ∧ rd τ 55 l = S 129 l) ∧ (∀ r : Int, 0 ≤ r → r < rd σ 68 31 → rd τ 60 (10 + r) = S 127 r ∧ rd τ 55 (10 + r) = 0) ∧ (∀ w : Int, wyS σ w = true → rd τ 54 (vOuter w) = S 128 w) ∧ (∀ p : Int, 0 ≤ p → p < 10 → rd τ 58 p = S 122 p) ∧ ∀ c : Int, 10 * (m + 1) ≤ c → c < 4800 → rd τ 56 c = S 126 c + arC σ c
/-- what taking changes in the class -/
def cl (σ : pS) (m w a i : Int) : Int := if a = 59 then (if i = w ∧ w < 6 then 1 else 0) else if a = 54 then (if i = vOuter w ∧ 6 ≤ w then 1 else 0) else if a = 60 then (if i = vOuter w ∧ 6 ≤ w then -1 else 0) else if a = 56 then (if i = 10 * (m + rd σ 79 w) + rd σ 78 w ∧ m + rd σ 79 w < 480 ∧ 6 ≤ w then 1 else 0) else 0
theorem vOuter_inj {a b : Int} (h : vOuter a = vOuter b) (ha : 0 ≤ a ∧ a < 13) (hb : 0 ≤ b ∧ b < 13) : a = b := by unfold vOuter at h; split at h <;> split at h <;> omega
theorem cl_dl {σ : pS} (L : RSlo σ) {m w : Int} (hw : wyS σ w = true) : (∀ l : Int, cl σ m w 59 l = dl σ m w 125 l) ∧ (∀ r : Int, cl σ m w 60 (10 + r) = dl σ m w 127 r) ∧ (∀ v : Int, wyS σ v = true → cl σ m w 54 (vOuter v) = dl σ m w 128 v) ∧ (∀ c : Int, c < 4800 → cl σ m w 56 c = dl σ m w 126 c) ∧ (∀ a i : Int, a ≠ 54 → a ≠ 56 → a ≠ 59 → a ≠ 60 → cl σ m w a i = 0) := by
  have e := L.2.2.2.2.2.2.2.2.2.1 w hw
  have b1 := L.2.2.2.1.2
  have b2 := L.2.2.2.2.2.1.2
  have t := vWay_t hw
  refine ⟨fun l => rfl, fun r => ?_, fun v hv => ?_, fun c hc => ?_, fun a i h1 h2 h3 h4 => ?_⟩
  · unfold cl dl
    simp only [show ¬ ((60 : Int) = 59) by decide, show ¬ ((60 : Int) = 54) by decide, show ¬ ((127 : Int) = 125) by decide, show ¬ ((127 : Int) = 128) by decide, if_false, if_true]
    by_cases c : 6 ≤ w
    · by_cases d : r = w - 6
      · rw [if_pos ⟨by unfold vOuter; rw [if_neg (by omega)]; omega, c⟩, if_pos ⟨d, c⟩]
      · rw [if_neg (fun z => d (by have := z.1; unfold vOuter at this; rw [if_neg (by omega)] at this; omega)), if_neg (fun z => d z.1)]
    · rw [if_neg (fun z => c z.2), if_neg (fun z => c z.2)]
  · have tv := vWay_t hv
    unfold cl dl
    simp only [show ¬ ((54 : Int) = 59) by decide, show ¬ ((128 : Int) = 125) by decide, if_false, if_true]
    by_cases d : v = w
    · subst d
      simp
    · rw [if_neg (fun z => d (vOuter_inj z.1 (by omega) (by omega))), if_neg (fun z => d z.1)]
  · unfold cl dl
    simp only [show ¬ ((56 : Int) = 59) by decide, show ¬ ((56 : Int) = 54) by decide, show ¬ ((56 : Int) = 60) by decide, show ¬ ((126 : Int) = 125) by decide, show ¬ ((126 : Int) = 128) by decide, show ¬ ((126 : Int) = 127) by decide, if_false, if_true]
    by_cases d : c = 10 * (m + rd σ 79 w) + rd σ 78 w
    · by_cases f : 6 ≤ w
      · rw [if_pos ⟨d, by omega, f⟩, if_pos ⟨d, f⟩]
      · rw [if_neg (fun z => f z.2.2), if_neg (fun z => f z.2)]
    · rw [if_neg (fun z => d z.1), if_neg (fun z => d z.1)]
  · unfold cl
    rw [if_neg h3, if_neg h1, if_neg h4, if_neg h2]
theorem DRow.add {σ τ υ : pS} {m : Int} {S T : Int → Int → Int} (h : DRow σ m S τ) {E : Int → Int → Int} {D : Int → Int → Int} (q : ∀ a i : Int, rd υ a i = rd τ a i + E a i) (t : ∀ a i : Int, a ≠ 122 → a ≠ 124 → T a i = S a i + D a i) (e1 : ∀ l : Int, E 59 l = D 125 l) (e2 : ∀ r : Int, E 60 (10 + r) = D 127 r) (e3 : ∀ v : Int, wyS σ v = true → E 54 (vOuter v) = D 128 v) (e4 : ∀ c : Int, c < 4800 → E 56 c = D 126 c) (e5 : ∀ i : Int, E 55 i = 0) (e6 : ∀ i : Int, D 129 i = 0) (n : ∀ p : Int, 0 ≤ p → p < 10 → rd υ 58 p = T 122 p) : DRow σ m T υ := by
  refine ⟨fun l l0 l1 => ⟨?_, ?_⟩, fun r r0 r1 => ⟨?_, ?_⟩, fun w hw => ?_, n, fun c c0 c1 => ?_⟩
  · rw [q, t _ _ (by decide) (by decide), (h.1 l l0 l1).1, e1]
  · rw [q, t _ _ (by decide) (by decide), (h.1 l l0 l1).2, e5, e6]
  · rw [q, t _ _ (by decide) (by decide), (h.2.1 r r0 r1).1, e2]
  · rw [q, (h.2.1 r r0 r1).2, e5]; rfl
  · rw [q, t _ _ (by decide) (by decide), h.2.2.1 w hw, e3 w hw]
  · rw [q, t _ _ (by decide) (by decide), h.2.2.2.2 c c0 c1, e4 c c1]
    omega
theorem start_C {d : Nat} {σ τ : pS} (S : Stat σ) (L : RSlo σ) {k m w c : Int} (h : CX σ k τ) (hw : wyS σ w = true) (hm : 0 ≤ m ∧ m < 480) : pC mX1_start d [(2, 50), (0, vOuter w), (0, c), (0, m)] τ (fun r υ => r = none ∧ υ.1 = τ.1 ∧ ∀ a i : Int, rd υ a i = rd τ a i + (if a = 54 ∧ i = vOuter w then c else 0) + (if a = 56 ∧ i = 10 * (m + rd σ 79 w) + rd σ 78 w ∧ m + rd σ 79 w < 480 then c else 0)) := by
  have S2 := h.1.st S
  have e := L.2.2.2.2.2.2.2.2.2.1 w hw
  have o := vOuter_of hw L.2.2.2.1.2 L.2.2.2.2.2.1.2
  have l := L.1
  have r4 : rd (wr τ 54 (vOuter w) (rd τ 54 (vOuter w) + c)) (rd τ 35 4 + 4) (vOuter w) = rd σ 79 w := by
    rw [rd_wr_n (by rw [h.1.s4]; omega), h.1.row (by omega), e.2.2.2.2.2.2.1]
  have r3 : rd (wr τ 54 (vOuter w) (rd τ 54 (vOuter w) + c)) (rd τ 35 4 + 3) (vOuter w) = rd σ 78 w := by
    rw [rd_wr_n (by rw [h.1.s4]; omega), h.1.row (by omega), e.2.2.2.1]
  refine g_X1_start_0 (Nat.zero_le d) S2 (vOuter w) c m ⟨o.1, o.2.1⟩ (h.1.i6 L) (by rw [r4]; unfold inR; omega) (fun c1 => ?_) (fun c2 => by rw [r4] at *; rw [r3]; omega) (fun c2 => ?_)
  · rw [r4] at c1
    refine ⟨rfl, rfl, fun a i => ?_⟩
    rw [rd_wr, if_neg (fun (z : a = 56 ∧ _) => by omega)]
    split
    · rename_i z; rw [z.1, z.2]; omega
    · omega
  · rw [r4] at c2
    rw [r4, r3]
    refine ⟨rfl, rfl, fun a i => ?_⟩
    rw [rd_wr, rd_wr]
    by_cases z : a = 56 ∧ i = (m + rd σ 79 w) * 10 + rd σ 78 w
    · rw [if_pos z, if_neg (by omega), if_pos ⟨z.1, by omega, c2⟩, z.1, z.2]
      omega
    · rw [if_neg z, if_neg (fun (y : a = 56 ∧ _) => z ⟨y.1, by omega⟩)]
      split
      · rename_i y; rw [y.1, y.2]; omega
      · omega
theorem take_C {d : Nat} {σ τ : pS} (hd : 1 ≤ d) (S : Stat σ) (L : RSlo σ) {k m w c : Int} (h : CX σ k τ) (hw : wyS σ w = true) (hm : 0 ≤ m ∧ m < 480) : pC mX1_take d [(2, 50), (0, vOuter w), (0, c), (0, m)] τ (fun r υ => r = none ∧ υ.1 = τ.1 ∧ ∀ a i : Int, rd υ a i = rd τ a i + c * cl σ m w a i) := by
  have S2 := h.1.st S
  have o := vOuter_of hw L.2.2.2.1.2 L.2.2.2.2.2.1.2
  have h2 : CX σ k (wr τ 60 (vOuter w) (rd τ 60 (vOuter w) - c)) := h.fr L rfl (fun a i p => rd_wr_n (by omega))
  have mulif : ∀ (P : Prop) [Decidable P] (x : Int), c * (if P then x else 0) = if P then c * x else 0 := fun P _ x => by split <;> simp
  refine g_X1_take_0 (Q1 := fun r υ => r = none ∧ υ.1 = τ.1 ∧ ∀ a i : Int, rd υ a i = rd (wr τ 60 (vOuter w) (rd τ 60 (vOuter w) - c)) a i + (if a = 54 ∧ i = vOuter w then c else 0) + (if a = 56 ∧ i = 10 * (m + rd σ 79 w) + rd σ 78 w ∧ m + rd σ 79 w < 480 then c else 0)) hd S2 (vOuter w) c m (by unfold inR; omega) (fun _ => ⟨o.1, o.2.1⟩) (fun _ => start_C S L h2 hw hm) (fun c1 τ1 e1 q1 => ⟨rfl, q1.2.1, fun a i => ?_⟩) (fun c2 => ⟨o.1, o.2.1⟩) (fun c2 => ⟨rfl, rfl, fun a i => ?_⟩)
  · have w6 : 6 ≤ w := by have := o.2.2.2; omega
    rw [q1.2.2, rd_wr]
    unfold cl
    by_cases a1 : a = 59
    · rw [if_pos a1, if_neg (by omega), if_neg (by omega), if_neg (by omega), if_neg (by omega)]; simp
    rw [if_neg a1]
    by_cases a2 : a = 54
    · rw [if_pos a2, if_neg (show ¬ (a = 60 ∧ _) by omega), if_neg (show ¬ (a = 56 ∧ _) by omega)]
      by_cases z : i = vOuter w
      · rw [if_pos ⟨a2, z⟩, if_pos ⟨z, w6⟩]; simp
      · rw [if_neg (fun y => z y.2), if_neg (fun y => z y.1)]; simp
    rw [if_neg a2, if_neg (show ¬ (a = 54 ∧ _) from fun y => a2 y.1)]
    by_cases a3 : a = 60
    · rw [if_pos a3, if_neg (show ¬ (a = 56 ∧ _) by omega)]
      by_cases z : i = vOuter w
      · rw [if_pos ⟨a3, z⟩, if_pos ⟨z, w6⟩, a3, z]; omega
      · rw [if_neg (fun y => z y.2), if_neg (fun y => z y.1)]; simp
    rw [if_neg a3, if_neg (show ¬ (a = 60 ∧ _) from fun y => a3 y.1)]
    by_cases a4 : a = 56
    · rw [if_pos a4]
      by_cases z : i = 10 * (m + rd σ 79 w) + rd σ 78 w ∧ m + rd σ 79 w < 480
      · rw [if_pos ⟨a4, z⟩, if_pos ⟨z.1, z.2, w6⟩]; omega
      · rw [if_neg (fun y => z y.2), if_neg (fun y => z ⟨y.1, y.2.1⟩)]; omega
    · rw [if_neg a4, if_neg (fun y => a4 y.1)]; omega
  · have w6 : w < 6 := o.2.2.2.mpr c2
    have ow : vOuter w = w := by unfold vOuter; rw [if_pos w6]
    rw [rd_wr]
    unfold cl
    by_cases a1 : a = 59
    · rw [if_pos a1]
      by_cases z : i = w
      · rw [if_pos ⟨a1, by omega⟩, if_pos ⟨z, w6⟩, a1, z, ow]; omega
      · rw [if_neg (by omega), if_neg (fun y => z y.1)]; omega
    rw [if_neg a1, if_neg (show ¬ (a = 59 ∧ _) from fun y => a1 y.1), if_neg (show ¬ (i = vOuter w ∧ 6 ≤ w) by omega), if_neg (show ¬ (i = vOuter w ∧ 6 ≤ w) by omega), if_neg (show ¬ (i = 10 * (m + rd σ 79 w) + rd σ 78 w ∧ m + rd σ 79 w < 480 ∧ 6 ≤ w) by omega)]
    simp
theorem isTakeable_C {d : Nat} {σ τ : pS} (hd : 2 ≤ d) (S : Stat σ) (L : RSlo σ) {k m w : Int} {D : Int → Int → Int} (h : CX σ k τ) (hw : wyS σ w = true) (hm : 0 ≤ m ∧ m < 480) (hD : DRow σ m D τ) (hR : 6 ≤ w → inR (D 127 (w - 6))) : pC mX1_isTakeable d [(2, 50), (0, vOuter w), (0, m)] τ (fun r υ => r = some (0, b2i (vTk τ (vOuter w) m)) ∧ υ = τ) ∧ vTk τ (vOuter w) m = dCan σ k m D w := by
  have S2 := h.1.st S
  have o := vOuter_of hw L.2.2.2.1.2 L.2.2.2.2.2.1.2
  have b := h.1.bounds L ⟨o.1, o.2.1⟩
  have t := vWay_t hw
  have b1 := L.2.2.2.1.2
  have e60 : 6 ≤ w → rd τ 60 (vOuter w) = D 127 (w - 6) := fun w6 => by
    rw [show vOuter w = 10 + (w - 6) by unfold vOuter; rw [if_neg (by omega)]; omega]
    exact (hD.2.1 (w - 6) (by omega) (by omega)).1
  constructor
  · refine g_X1_isTakeable_0 hd S2 (vOuter w) m (isShut_C (Nat.le_refl 1) S2 (by omega)) (fun _ => by unfold inR; omega) (fun _ _ => ⟨o.1, o.2.1⟩) (fun _ c => by rw [e60 (by omega)]; exact hR (by omega)) (fun c1 c3 c5 => ⟨?_, rfl⟩) (fun c1 c3 c6 => ⟨?_, rfl⟩) (fun _ _ => h.1.i6 L) (fun _ _ => ⟨o.1, o.2.1⟩) (fun _ _ => by unfold inR; omega) (fun _ _ => by unfold inR; omega) (fun c1 c4 c7 => ⟨?_, rfl⟩) (fun c1 c4 c8 => ⟨?_, rfl⟩) (fun c2 => ⟨?_, rfl⟩)
    · unfold vTk; exact b2i_zero (by omega)
    · unfold vTk; exact b2i_one ⟨c1, Or.inr ⟨c3, c6⟩⟩
    · unfold vTk; exact b2i_zero (by omega)
    · unfold vTk; exact b2i_one ⟨c1, Or.inl ⟨c4, c8⟩⟩
    · unfold vTk; exact b2i_zero (fun z => by rw [c2] at z; cases z.1)
  · have sh : vShutAt τ (vOuter w) m = shutS σ k w (m / 60) := by
      have := (openX_eq L h.1.2.2 h.1.2.1 hw hm.1).2
      rw [this]
      unfold vHour
      rw [if_pos hm.2]
    have e7 : w < 6 → rd τ (rd τ 35 4 + 7) (vOuter w) = rd σ 82 w := fun w6 => by
      rw [h.1.row (by omega), show vOuter w = w by unfold vOuter; rw [if_pos w6]]
      exact (L.2.2.2.2.2.2.2.2.2.2.1 w (by omega) (by omega)).2.2.2.2.2.1
    unfold vTk dCan
    rw [sh]
    cases shutS σ k w (m / 60)
    · show decide _ = (true && decide _)
      rw [Bool.true_and]
      by_cases w6 : w < 6
      · have := e7 w6
        rw [this]
        have : vOuter w < 10 := o.2.2.2.mp w6
        congr 1
        apply propext
        constructor
        · intro z; exact Or.inl ⟨w6, by rcases z.2 with y | y <;> omega⟩
        · intro z; exact ⟨rfl, Or.inl ⟨this, by rcases z with y | y <;> omega⟩⟩
      · have := e60 (by omega)
        rw [this]
        have : ¬ vOuter w < 10 := fun z => w6 (o.2.2.2.mpr z)
        congr 1
        apply propext
        constructor
        · intro z; exact Or.inr ⟨by omega, by rcases z.2 with y | y <;> omega⟩
        · intro z; exact ⟨rfl, Or.inr ⟨by omega, by rcases z with y | y <;> omega⟩⟩
    · simp
