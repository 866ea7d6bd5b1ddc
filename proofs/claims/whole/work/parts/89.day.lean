/-! a day: the class's snow, lifts and notes -/
theorem letSnow_C {d : Nat} {σ τ : pS} (hd : 1 ≤ d) (S : Stat σ) (L : RSlo σ) (W : RWin σ) (C : RCro σ) {k m M : Int} {D : Int → Int → Int} (h : CX σ k τ) (hm : 0 ≤ m ∧ m < 480) (hD : DRow σ M D τ) : pC mX1_letSnow d [(2, 50), (0, m)] τ (fun r υ => r = none ∧ (υ.1 = τ.1 ∧ ∀ a i : Int, a ≠ 60 → rd υ a i = rd τ a i) ∧ DRow σ M (dSnow σ k m D) υ) := by
  have S2 := h.1.st S
  have b2 := L.2.2.2.2.2.1.2
  have b0 := L.2.2.2.2.2.1.1
  have hh : vHour m = m / 60 := by unfold vHour; rw [if_pos hm.2]
  have loop : ∀ (n i : Nat) (υ : pS), (i : Int) + n = rd σ 68 31 → (υ.1 = τ.1 ∧ ∀ a i : Int, a ≠ 60 → rd υ a i = rd τ a i) → (∀ r : Int, 0 ≤ r → r < rd σ 68 31 → rd υ 60 (10 + r) = if r < (i : Int) then dSnow σ k m D 127 r else D 127 r) → pR mX1_letSnow d 21 [(2, 50), (0, m), (0, m / 60), (0, if m % 60 = 0 then 1 else 0), (0, (i : Int))] [] υ (fun r υ => r = none ∧ (υ.1 = τ.1 ∧ ∀ a i : Int, a ≠ 60 → rd υ a i = rd τ a i) ∧ DRow σ M (dSnow σ k m D) υ) := fun n => by
    induction n with
    | zero =>
      intro i υ hi F e60
      have cx : CX σ k υ := h.fr L F.1 (fun a i p => F.2 a i (by omega))
      have er : rd υ (rd υ 35 4) 1 = rd σ 68 31 := by
        have := cx.1.row (a := 0) (i := 1) (by omega)
        rw [Int.add_zero, Int.add_zero] at this
        rw [this]; exact L.2.2.2.2.1
      refine g_X1_letSnow_21 hd (S2.eq F.1) m (m / 60) _ (i : Int) (cx.1.i6 L) (by unfold inR; omega) (by rw [er]; unfold inR; omega) (fun _ => ⟨rfl, F, ?_⟩) (fun c => by rw [er] at c; omega) (fun c => by rw [er] at c; omega) (fun c => by rw [er] at c; omega) (fun c => by rw [er] at c; omega) (fun c => by rw [er] at c; omega) (fun c => by rw [er] at c; omega) (fun c => by rw [er] at c; omega) (fun c => by rw [er] at c; omega) (fun c => by rw [er] at c; omega) (fun c => by rw [er] at c; omega) (fun c => by rw [er] at c; omega) (fun c => by rw [er] at c; omega) (fun c => by rw [er] at c; omega)
      refine ⟨fun l l0 l1 => ⟨?_, ?_⟩, fun r r0 r1 => ⟨?_, ?_⟩, fun w hw => ?_, fun p p0 p1 => ?_, fun c c0 c1 => ?_⟩
      · rw [F.2 _ _ (by decide)]; exact (hD.1 l l0 l1).1
      · rw [F.2 _ _ (by decide)]; exact (hD.1 l l0 l1).2
      · rw [e60 r r0 r1, if_pos (by omega)]
      · rw [F.2 _ _ (by decide)]; exact (hD.2.1 r r0 r1).2
      · rw [F.2 _ _ (by decide)]; exact hD.2.2.1 w hw
      · rw [F.2 _ _ (by decide)]; exact hD.2.2.2.1 p p0 p1
      · rw [F.2 _ _ (by decide)]; exact hD.2.2.2.2 c c0 c1
    | succ n ih =>
      intro i υ hi F e60
      have cx : CX σ k υ := h.fr L F.1 (fun a i p => F.2 a i (by omega))
      have er : rd υ (rd υ 35 4) 1 = rd σ 68 31 := by
        have := cx.1.row (a := 0) (i := 1) (by omega)
        rw [Int.add_zero, Int.add_zero] at this
        rw [this]; exact L.2.2.2.2.1
      have kl := cx.1.2.2.2 (m / 60) (by omega) (by omega)
      have wr0 := wWind_R W k (m / 60).toNat
      have e49 : rd υ 49 (i : Int) = rd σ 123 (i : Int) := (cx.2 _ _ (by omega) (by omega)).trans (C.2.2.2.2.2 i (by omega) (by omega)).1
      have ei := e60 (i : Int) (by omega) (by omega)
      rw [if_neg (by omega)] at ei
      have sn : dSnow σ k m D 127 (i : Int) = D 127 (i : Int) + (if m % 60 = 0 then 10 * wFresh σ k (m / 60) else 0) + (if wWind σ k (m / 60).toNat < 30 then rd σ 123 (i : Int) else 0) := rfl
      have nx : ∀ φ : pS, (φ.1 = υ.1 ∧ ∀ a x : Int, ¬ (a = 60 ∧ x = 10 + (i : Int)) → rd φ a x = rd υ a x) → rd φ 60 (10 + (i : Int)) = dSnow σ k m D 127 (i : Int) → pR mX1_letSnow d 21 [(2, 50), (0, m), (0, m / 60), (0, if m % 60 = 0 then 1 else 0), (0, (i : Int) + 1)] [] φ (fun r υ => r = none ∧ (υ.1 = τ.1 ∧ ∀ a i : Int, a ≠ 60 → rd υ a i = rd τ a i) ∧ DRow σ M (dSnow σ k m D) υ) := fun φ q e => by
        rw [show (i : Int) + 1 = ((i + 1 : Nat) : Int) by omega]
        refine ih (i + 1) φ (by omega) ⟨q.1.trans F.1, fun a x c => (q.2 a x (fun z => c z.1)).trans (F.2 a x c)⟩ (fun r r0 r1 => ?_)
        by_cases z : r = (i : Int)
        · rw [z, e, if_pos (by omega)]
        · rw [q.2 _ _ (by omega), e60 r r0 r1]
          by_cases y : r < (i : Int)
          · rw [if_pos y, if_pos (by omega)]
          · rw [if_neg y, if_neg (by omega)]
      refine g_X1_letSnow_21 hd (S2.eq F.1) m (m / 60) _ (i : Int) (cx.1.i6 L) (by unfold inR; omega) (by rw [er]; unfold inR; omega) (fun c => by rw [er] at c; omega) (fun _ => by split <;> decide) (fun _ _ => by omega) (fun _ _ => by rw [kl.1]; unfold inR; omega) (fun _ c3 c5 => nx _ ⟨rfl, fun _ _ _ => rfl⟩ ?_) (fun _ _ _ => by omega) (fun _ _ _ => by omega) (fun _ c3 c6 => nx _ ⟨rfl, fun a x p => rd_wr_n p⟩ ?_) (fun _ _ => by omega) (fun _ _ => by omega) (fun _ _ => by rw [kl.1]; unfold inR; omega) (fun _ c4 c7 => nx _ ⟨rfl, fun a x p => rd_wr_n p⟩ ?_) (fun _ _ _ => by omega) (fun _ c4 c8 => nx _ ⟨rfl, fun a x p => by rw [rd_wr_n p, rd_wr_n p]⟩ ?_)
      · have : ¬ m % 60 = 0 := fun z => by rw [if_pos z] at c3; omega
        rw [kl.1] at c5
        rw [sn, if_neg this, if_neg (by omega), ei]; omega
      · have : ¬ m % 60 = 0 := fun z => by rw [if_pos z] at c3; omega
        rw [kl.1] at c6
        rw [sn, if_neg this, if_pos c6, rd_wr_same, ei, e49]; omega
      · have : m % 60 = 0 := by by_cases z : m % 60 = 0; exact z; exact absurd (if_neg z) c4
        rw [kl.1] at c7
        rw [sn, if_pos this, if_neg (by omega), rd_wr_same, ei, kl.2.1]; omega
      · have : m % 60 = 0 := by by_cases z : m % 60 = 0; exact z; exact absurd (if_neg z) c4
        rw [kl.1] at c8
        rw [sn, if_pos this, if_pos c8, rd_wr_same, ei, kl.2.1, e49]; omega
  have fin := loop (rd σ 68 31).toNat 0 τ (by omega) ⟨rfl, fun _ _ _ => rfl⟩ (fun r r0 r1 => by rw [if_neg (by omega)]; exact (hD.2.1 r r0 r1).1)
  refine g_X1_letSnow_0 hd S2 m (hourOf_CX S2 (by omega)) (by omega) (by unfold inR; omega) (fun c1 => ?_) (fun c2 => ?_)
  · rw [hh]
    rw [if_neg c1] at fin
    exact fin
  · rw [hh]
    rw [if_pos c2] at fin
    exact fin
theorem dOpen_eq {σ τ : pS} (L : RSlo σ) {k m w : Int} (h : CX σ k τ) (hw : wyS σ w = true) (hm : 0 ≤ m) : vOpenX τ (vOuter w) m = openS σ k w m := (openX_eq L h.1.2.2 h.1.2.1 hw hm).1
/-- rows of the lifts, and the undecided -/
def DRU (σ : pS) (m : Int) (D : Int → Int → Int) (τ : pS) : Prop := DRow σ m D τ ∧ ∀ p : Int, 0 ≤ p → p < 10 → rd τ 57 p = D 124 p
theorem DRU.l3 {σ τ : pS} {m l : Int} {D : Int → Int → Int} (h : DRU σ m D τ) (hl : 0 ≤ l ∧ l < rd σ 68 30) (b1 : rd σ 68 30 ≤ 6) {v : Int} (hv : v = max (rd τ 55 l) (rd τ 59 l)) : DRU σ m (dL3 l D) (wr τ 55 l v) := by
  refine ⟨⟨fun x x0 x1 => ⟨?_, ?_⟩, fun r r0 r1 => ⟨?_, ?_⟩, fun w hw => ?_, fun p p0 p1 => ?_, fun c c0 c1 => ?_⟩, fun p p0 p1 => ?_⟩
  · rw [rd_wr_n (by omega)]; exact (h.1.1 x x0 x1).1
  · show _ = (if (129 : Int) = 129 then _ else _)
    rw [if_pos rfl, rd_wr]
    by_cases z : x = l
    · rw [if_pos ⟨rfl, z⟩, if_pos z, hv, z, (h.1.1 l hl.1 hl.2).1, (h.1.1 l hl.1 hl.2).2]
    · rw [if_neg (fun y => z y.2), if_neg z]; exact (h.1.1 x x0 x1).2
  · rw [rd_wr_n (by omega)]; exact (h.1.2.1 r r0 r1).1
  · rw [rd_wr_n (by omega)]; exact (h.1.2.1 r r0 r1).2
  · rw [rd_wr_n (by omega)]; exact h.1.2.2.1 w hw
  · rw [rd_wr_n (by omega)]; exact h.1.2.2.2.1 p p0 p1
  · rw [rd_wr_n (by omega)]; exact h.1.2.2.2.2 c c0 c1
  · rw [rd_wr_n (by omega)]; exact h.2 p p0 p1
theorem DRU.l2 {σ τ : pS} {m l : Int} {D : Int → Int → Int} (h : DRU σ m D τ) (hl : 0 ≤ l ∧ l < rd σ 68 30) (b1 : rd σ 68 30 ≤ 6) (c : m + 1 = rd σ 82 l) {v : Int} (hv : v = rd τ 57 (rd σ 77 l) + rd τ 59 l) (hf : 0 ≤ rd σ 77 l ∧ rd σ 77 l < 10) : DRU σ m (dL2 σ m l D) (wr (wr τ 57 (rd σ 77 l) v) 59 l 0) := by
  have e1 : ∀ i : Int, dL2 σ m l D 124 i = if i = rd σ 77 l then D 124 i + D 125 l else D 124 i := fun i => by show (if _ then _ else _) = _; rw [if_pos c, if_pos rfl]
  have e2 : ∀ i : Int, dL2 σ m l D 125 i = if i = l then 0 else D 125 i := fun i => by show (if _ then _ else _) = _; rw [if_pos c, if_neg (by decide), if_pos rfl]
  have e3 : ∀ a i : Int, a ≠ 124 → a ≠ 125 → dL2 σ m l D a i = D a i := fun a i a1 a2 => by show (if _ then _ else _) = _; rw [if_pos c, if_neg a1, if_neg a2]
  refine ⟨⟨fun x x0 x1 => ⟨?_, ?_⟩, fun r r0 r1 => ⟨?_, ?_⟩, fun w hw => ?_, fun p p0 p1 => ?_, fun c c0 c1 => ?_⟩, fun p p0 p1 => ?_⟩
  · rw [e2, rd_wr]
    by_cases z : x = l
    · rw [if_pos ⟨rfl, z⟩, if_pos z]
    · rw [if_neg (fun y => z y.2), if_neg z, rd_wr_n (by omega)]; exact (h.1.1 x x0 x1).1
  · rw [e3 _ _ (by decide) (by decide), rd_wr_n (by omega), rd_wr_n (by omega)]; exact (h.1.1 x x0 x1).2
  · rw [e3 _ _ (by decide) (by decide), rd_wr_n (by omega), rd_wr_n (by omega)]; exact (h.1.2.1 r r0 r1).1
  · rw [rd_wr_n (by omega), rd_wr_n (by omega)]; exact (h.1.2.1 r r0 r1).2
  · rw [e3 _ _ (by decide) (by decide), rd_wr_n (by omega), rd_wr_n (by omega)]; exact h.1.2.2.1 w hw
  · rw [e3 _ _ (by decide) (by decide), rd_wr_n (by omega), rd_wr_n (by omega)]; exact h.1.2.2.2.1 p p0 p1
  · rw [e3 _ _ (by decide) (by decide), rd_wr_n (by omega), rd_wr_n (by omega)]; exact h.1.2.2.2.2 c c0 c1
  · rw [e1, rd_wr_n (by omega), rd_wr]
    by_cases z : p = rd σ 77 l
    · rw [if_pos ⟨rfl, z⟩, if_pos z, hv, z, h.2 _ hf.1 hf.2, (h.1.1 l hl.1 hl.2).1]
    · rw [if_neg (fun y => z y.2), if_neg z]; exact h.2 p p0 p1
theorem DRU.l1 {σ τ υ : pS} (L : RSlo σ) {k m l n : Int} {D : Int → Int → Int} (h : DRU σ m D τ) (hl : 0 ≤ l ∧ l < rd σ 68 30) (hn : dOn σ k m l D = n) (q : ∀ a i : Int, rd υ a i = rd (wr τ 59 l (rd τ 59 l - n)) a i + (if a = 54 ∧ i = vOuter l then n else 0) + (if a = 56 ∧ i = 10 * (m + rd σ 79 l) + rd σ 78 l ∧ m + rd σ 79 l < 480 then n else 0)) : DRU σ m (dL1 σ k m l D) υ := by
  have b1 := L.2.2.2.1.2
  have b2 := L.2.2.2.2.2.1.2
  have hw : wyS σ l = true := by unfold wyS vWay; exact decide_eq_true (Or.inl hl)
  have lw := L.2.2.2.2.2.2.2.2.2.1 l hw
  have ow : vOuter l = l := by unfold vOuter; rw [if_pos (by omega)]
  have e1 : ∀ i : Int, dL1 σ k m l D 125 i = if i = l then D 125 i - n else D 125 i := fun i => by rw [← hn]; rfl
  have e2 : ∀ i : Int, dL1 σ k m l D 128 i = if i = l then D 128 i + n else D 128 i := fun i => by rw [← hn]; rfl
  have e3 : ∀ i : Int, dL1 σ k m l D 126 i = if i = 10 * (m + rd σ 79 l) + rd σ 78 l then D 126 i + n else D 126 i := fun i => by rw [← hn]; rfl
  have same : ∀ a i : Int, a ≠ 54 → a ≠ 56 → a ≠ 59 → rd υ a i = rd τ a i := fun a i a1 a2 a3 => by
    rw [q, rd_wr_n (fun z => a3 z.1), if_neg (fun z => a1 z.1), if_neg (fun z => a2 z.1)]; omega
  refine ⟨⟨fun x x0 x1 => ⟨?_, ?_⟩, fun r r0 r1 => ⟨?_, ?_⟩, fun w hw2 => ?_, fun p p0 p1 => ?_, fun c c0 c1 => ?_⟩, fun p p0 p1 => ?_⟩
  · rw [q, rd_wr, if_neg (show ¬ ((59 : Int) = 54 ∧ _) from fun z => by omega), if_neg (show ¬ ((59 : Int) = 56 ∧ _) from fun z => by omega), e1]
    have := (h.1.1 x x0 x1).1
    by_cases z : x = l
    · rw [if_pos ⟨rfl, z⟩, if_pos z, ← z, this]; omega
    · rw [if_neg (fun y => z y.2), if_neg z, this]; omega
  · rw [same _ _ (by decide) (by decide) (by decide)]; exact (h.1.1 x x0 x1).2
  · rw [same _ _ (by decide) (by decide) (by decide)]; exact (h.1.2.1 r r0 r1).1
  · rw [same _ _ (by decide) (by decide) (by decide)]; exact (h.1.2.1 r r0 r1).2
  · have tw := vWay_t hw2
    have := h.1.2.2.1 w hw2
    rw [q, rd_wr_n (show ¬ ((54 : Int) = 59 ∧ _) from fun z => by omega), if_neg (show ¬ ((54 : Int) = 56 ∧ _) from fun z => by omega), e2, this]
    by_cases z : w = l
    · rw [if_pos ⟨rfl, by rw [z]⟩, if_pos z]; omega
    · rw [if_neg (fun y => z (vOuter_inj y.2 (by omega) (by omega))), if_neg z]; omega
  · rw [same _ _ (by decide) (by decide) (by decide)]; exact h.1.2.2.2.1 p p0 p1
  · have := h.1.2.2.2.2 c c0 c1
    rw [q, rd_wr_n (show ¬ ((56 : Int) = 59 ∧ _) from fun z => by omega), if_neg (show ¬ ((56 : Int) = 54 ∧ _) from fun z => by omega), e3, this]
    by_cases z : c = 10 * (m + rd σ 79 l) + rd σ 78 l
    · rw [if_pos ⟨rfl, z, by omega⟩, if_pos z]; omega
    · rw [if_neg (fun y => z y.2.1), if_neg z]; omega
  · rw [same _ _ (by decide) (by decide) (by decide)]; exact h.2 p p0 p1
theorem dL2_no {σ : pS} {m l : Int} {D : Int → Int → Int} (c : m + 1 ≠ rd σ 82 l) : dL2 σ m l D = D := by
  funext a i
  show (if _ then _ else _) = _
  rw [if_neg c]
theorem dL1_no {σ : pS} {k m l : Int} {D : Int → Int → Int} (c : openS σ k l m = false) : dL1 σ k m l D = D := by
  have z : dOn σ k m l D = 0 := by unfold dOn; rw [if_neg (by rw [c]; decide)]
  funext a i
  unfold dL1
  rw [z]
  split
  · split <;> omega
  · split
    · split <;> omega
    · split
      · split <;> omega
      · rfl
theorem letOn_C {d : Nat} {σ τ : pS} (hd : 3 ≤ d) (S : Stat σ) (L : RSlo σ) {Z : Nat} (hZ : Z = 5410) {k m l M N : Int} {D : Int → Int → Int} (h : CX σ k τ) (hl : 0 ≤ l ∧ l < rd σ 68 30) (hm : 0 ≤ m ∧ m < 480) (hD : DRU σ m D τ) (o : dOk σ Z M N D) (hN : N ≤ 10000) : pC mX1_letOn d [(2, 50), (0, l), (0, m)] τ (fun r υ => r = none ∧ (υ.1 = τ.1 ∧ ∀ a i : Int, ¬ (54 ≤ a ∧ a ≤ 59) → rd υ a i = rd τ a i) ∧ DRU σ m (dLift σ k m l D) υ) := by
  have S2 := h.1.st S
  have b1 := L.2.2.2.1.2
  have hw : wyS σ l = true := by unfold wyS vWay; exact decide_eq_true (Or.inl hl)
  have lw := L.2.2.2.2.2.2.2.2.2.1 l hw
  have ll := L.2.2.2.2.2.2.2.2.2.2.1 l hl.1 hl.2
  have ow : vOuter l = l := by unfold vOuter; rw [if_pos (by omega)]
  have bd := h.1.bounds L (w := l) ⟨hl.1, by omega⟩
  have op : vOpenX τ l m = openS σ k l m := by have := dOpen_eq L h hw hm.1; rw [ow] at this; exact this
  have i6 := h.1.i6 L
  have e7 : rd τ (rd τ 35 4 + 7) l = rd σ 82 l := by rw [h.1.row (by omega)]; exact ll.2.2.2.2.2.1
  have e2 : rd τ (rd τ 35 4 + 2) l = rd σ 77 l := by rw [h.1.row (by omega)]; have := lw.1; rw [ow] at this; exact this
  have e5 : rd τ (rd τ 35 4 + 5) l = rd σ 80 l := by rw [h.1.row (by omega)]; exact ll.1
  have q0 := o.1.2.1 l hl.1 (by omega)
  have q1 := (o.1.le hZ).2.1 l hl.1 (by omega)
  rw [o.2.1] at q1
  have g0 := o.2.2.2.2 l hl.1 (by omega)
  have r59 := (hD.1.1 l hl.1 hl.2).1
  have r55 := (hD.1.1 l hl.1 hl.2).2
  have on : openS σ k l m = true → dOn σ k m l D = min (rd τ 59 l) (rd τ (rd τ 35 4 + 5) l) := fun c => by unfold dOn; rw [if_pos c, r59, e5]
  have h2 : CX σ k (wr τ 59 l (rd τ 59 l - min (rd τ 59 l) (rd τ (rd τ 35 4 + 5) l))) := h.fr L rfl (fun a i p => rd_wr_n (by omega))
  have sC := start_C (d := 0) (c := min (rd τ 59 l) (rd τ (rd τ 35 4 + 5) l)) S L h2 hw hm
  rw [ow] at sC
  refine g_X1_letOn_0 (Q1 := fun r υ => r = none ∧ υ.1 = (wr τ 59 l (rd τ 59 l - min (rd τ 59 l) (rd τ (rd τ 35 4 + 5) l))).1 ∧ ∀ a i : Int, rd υ a i = rd (wr τ 59 l (rd τ 59 l - min (rd τ 59 l) (rd τ (rd τ 35 4 + 5) l))) a i + (if a = 54 ∧ i = l then min (rd τ 59 l) (rd τ (rd τ 35 4 + 5) l) else 0) + (if a = 56 ∧ i = 10 * (m + rd σ 79 l) + rd σ 78 l ∧ m + rd σ 79 l < 480 then min (rd τ 59 l) (rd τ (rd τ 35 4 + 5) l) else 0)) hd S2 l m (isOpenX_C (Nat.le_refl 2) S2 i6 ⟨hl.1, by omega⟩ (by omega) (by unfold inR; omega) (by unfold inR; omega)) (fun _ => i6) (fun _ => ⟨hl.1, by omega⟩) (fun _ => by unfold inR; omega) (fun _ => by unfold inR; omega) (fun _ _ => by unfold inR; omega) (fun _ _ => by unfold inR; omega) (fun c1 c3 => ⟨rfl, ⟨rfl, fun a i p => rd_wr_n (by omega)⟩, ?_⟩) (fun _ _ => by omega) (fun _ _ => by unfold inR; omega) (fun c1 c4 => ⟨rfl, ⟨rfl, fun a i p => by rw [rd_wr_n (by omega), rd_wr_n (by omega), rd_wr_n (by omega)]⟩, ?_⟩) (fun _ => ⟨hl.1, by omega⟩) (fun _ => i6) (fun _ => ⟨hl.1, by omega⟩) (fun _ => by unfold inR; omega) (fun _ => by unfold inR; omega) (fun _ => sC) (fun c2 τ2 x2 q2 => ?_) (fun _ _ _ _ => by unfold inR; omega) (fun c2 τ2 x2 q2 => ?_) (fun c2 τ2 x2 q2 c5 => ?_) (fun c2 τ2 x2 q2 c5 => ?_) (fun c2 τ2 x2 q2 c5 => ?_) (fun c2 τ2 x2 q2 c6 => ?_) (fun c2 τ2 x2 q2 c6 => ?_) (fun c2 τ2 x2 q2 c6 => ?_)
  · rw [e7] at c3
    rw [op] at c1
    unfold dLift
    rw [dL1_no c1, dL2_no c3]
    exact hD.l3 hl b1 rfl
  · rw [e7] at c4
    rw [op] at c1
    unfold dLift
    rw [dL1_no c1, e2]
    refine (hD.l2 hl b1 c4 rfl (by omega)).l3 hl b1 ?_
    rw [rd_wr_same, rd_wr_n (by omega), rd_wr_n (by omega)]
  all_goals
    rw [op] at c2
    have D1 := hD.l1 (k := k) (υ := τ2) L hl (on c2) (by rw [ow]; exact q2.2.2)
    have F2 : τ2.1 = τ.1 ∧ ∀ a i : Int, ¬ (54 ≤ a ∧ a ≤ 59) → rd τ2 a i = rd τ a i := ⟨q2.2.1, fun a i p => by rw [q2.2.2, rd_wr_n (by omega), if_neg (by omega), if_neg (by omega)]; omega⟩
    have cx2 := h.fr L F2.1 (fun a i p => F2.2 a i (by omega))
    have f7 : rd τ2 (rd τ2 35 4 + 7) l = rd σ 82 l := by rw [cx2.1.row (by omega)]; exact ll.2.2.2.2.2.1
    have f2 : rd τ2 (rd τ2 35 4 + 2) l = rd σ 77 l := by rw [cx2.1.row (by omega)]; have := lw.1; rw [ow] at this; exact this
    have n0 : 0 ≤ dOn σ k m l D ∧ dOn σ k m l D ≤ D 125 l := by rw [on c2]; omega
    have s59 : rd τ2 59 l = D 125 l - dOn σ k m l D := by
      rw [(D1.1.1 l hl.1 hl.2).1]
      show (if (125 : Int) = 125 then (if l = l then _ else _) else _) = _
      rw [if_pos rfl, if_pos rfl]
    have s55 : rd τ2 55 l = D 129 l := by
      rw [(D1.1.1 l hl.1 hl.2).2]
      rfl
  · exact cx2.1.i6 L
  · rw [f7]; unfold inR; omega
  · rw [s55]; unfold inR; omega
  · rw [s59]; unfold inR; omega
  · rw [f7] at c5
    refine ⟨rfl, ⟨F2.1, fun a i p => by rw [rd_wr_n (by omega)]; exact F2.2 a i p⟩, ?_⟩
    unfold dLift
    rw [dL2_no c5]
    exact D1.l3 hl b1 rfl
  · rw [f2]; omega
  · rw [s55]; unfold inR; omega
  · rw [f7] at c6
    refine ⟨rfl, ⟨F2.1, fun a i p => by rw [rd_wr_n (by omega), rd_wr_n (by omega), rd_wr_n (by omega)]; exact F2.2 a i p⟩, ?_⟩
    unfold dLift
    rw [f2]
    refine (D1.l2 hl b1 c6 rfl (by omega)).l3 hl b1 ?_
    rw [rd_wr_same, rd_wr_n (by omega), rd_wr_n (by omega)]
