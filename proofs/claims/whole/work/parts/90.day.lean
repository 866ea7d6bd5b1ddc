/-! a day: the class begins, keeps -/
def qS (σ : pS) (D : Int → Int → Int) (p : Int) (n : Nat) : Int := sumF (fun l => if rd σ 77 l = p then D 125 l else 0) n
theorem keep_C {d : Nat} {σ τ : pS} (S : Stat σ) (L : RSlo σ) {k m M : Int} {D : Int → Int → Int} (h : CX σ k τ) (hm : 0 ≤ m ∧ m < 480) (hD : DRU σ M D τ) : pC mX1_keep d [(2, 50), (0, m)] τ (fun r υ => r = none ∧ (υ.1 = τ.1 ∧ (∀ a i : Int, a ≠ 51 → a ≠ 52 → a ≠ 53 → rd υ a i = rd τ a i) ∧ (∀ a i : Int, a = 51 ∨ a = 52 → ¬ (10 * m ≤ i ∧ i < 10 * m + 10) → rd υ a i = rd τ a i) ∧ ∀ i : Int, ¬ (7 * m ≤ i ∧ i < 7 * m + 7) → rd υ 53 i = rd τ 53 i) ∧ (∀ p : Int, 0 ≤ p → p < 10 → rd υ 51 (10 * m + p) = D 124 p ∧ rd υ 52 (10 * m + p) = qS σ D p (rd σ 68 30).toNat) ∧ ∀ r : Int, 0 ≤ r → r < rd σ 68 31 → rd υ 53 (7 * m + r) = D 127 r) := by
  have S2 := h.1.st S
  have b1 := L.2.2.2.1.2
  have b0 := L.2.2.2.1.1
  have b2 := L.2.2.2.2.2.1.2
  have snow : ∀ (n i : Nat) (υ : pS), i + n = 7 → (υ.1 = τ.1 ∧ (∀ a i : Int, a ≠ 51 → a ≠ 52 → a ≠ 53 → rd υ a i = rd τ a i) ∧ (∀ a i : Int, a = 51 ∨ a = 52 → ¬ (10 * m ≤ i ∧ i < 10 * m + 10) → rd υ a i = rd τ a i) ∧ ∀ i : Int, ¬ (7 * m ≤ i ∧ i < 7 * m + 7) → rd υ 53 i = rd τ 53 i) → (∀ p : Int, 0 ≤ p → p < 10 → rd υ 51 (10 * m + p) = D 124 p ∧ rd υ 52 (10 * m + p) = qS σ D p (rd σ 68 30).toNat) → (∀ r : Int, 0 ≤ r → r < (i : Int) → rd υ 53 (7 * m + r) = rd τ 60 (10 + r)) → pR mX1_keep d 94 [(2, 50), (0, m), (0, m * 10), (0, (i : Int))] [] υ (fun r υ => r = none ∧ (υ.1 = τ.1 ∧ (∀ a i : Int, a ≠ 51 → a ≠ 52 → a ≠ 53 → rd υ a i = rd τ a i) ∧ (∀ a i : Int, a = 51 ∨ a = 52 → ¬ (10 * m ≤ i ∧ i < 10 * m + 10) → rd υ a i = rd τ a i) ∧ ∀ i : Int, ¬ (7 * m ≤ i ∧ i < 7 * m + 7) → rd υ 53 i = rd τ 53 i) ∧ (∀ p : Int, 0 ≤ p → p < 10 → rd υ 51 (10 * m + p) = D 124 p ∧ rd υ 52 (10 * m + p) = qS σ D p (rd σ 68 30).toNat) ∧ ∀ r : Int, 0 ≤ r → r < rd σ 68 31 → rd υ 53 (7 * m + r) = D 127 r) := fun n => by
    induction n with
    | zero =>
      intro i υ hi F e1 e2
      exact g_X1_keep_94 (Nat.zero_le d) (S2.eq F.1) m (m * 10) (i : Int) (by unfold inR; omega) (fun _ => ⟨rfl, F, e1, fun r r0 r1 => (e2 r r0 (by omega)).trans (hD.1.2.1 r r0 r1).1⟩) (fun c => by omega) (fun c => by omega) (fun c => by omega)
    | succ n ih =>
      intro i υ hi F e1 e2
      refine g_X1_keep_94 (Nat.zero_le d) (S2.eq F.1) m (m * 10) (i : Int) (by unfold inR; omega) (fun c => by omega) (fun _ => by omega) (fun _ => by omega) (fun _ => ?_)
      rw [show (i : Int) + 1 = ((i + 1 : Nat) : Int) by omega]
      refine ih (i + 1) _ (by omega) ⟨F.1, fun a x a1 a2 a3 => by rw [rd_wr_n (by omega)]; exact F.2.1 a x a1 a2 a3, fun a x a1 a2 => by rw [rd_wr_n (by omega)]; exact F.2.2.1 a x a1 a2, fun x x0 => by rw [rd_wr_n (by omega)]; exact F.2.2.2 x x0⟩ (fun p p0 p1 => by rw [rd_wr_n (by omega), rd_wr_n (by omega)]; exact e1 p p0 p1) (fun r r0 r1 => ?_)
      rw [rd_wr]
      by_cases z : r = (i : Int)
      · rw [if_pos ⟨rfl, by omega⟩, z]; exact F.2.1 60 _ (by decide) (by decide) (by decide)
      · rw [if_neg (by omega)]; exact e2 r r0 (by omega)
  have lifts : ∀ (n i : Nat) (υ : pS), (i : Int) + n = rd σ 68 30 → (υ.1 = τ.1 ∧ (∀ a i : Int, a ≠ 51 → a ≠ 52 → rd υ a i = rd τ a i) ∧ (∀ a i : Int, a = 51 ∨ a = 52 → ¬ (10 * m ≤ i ∧ i < 10 * m + 10) → rd υ a i = rd τ a i)) → (∀ p : Int, 0 ≤ p → p < 10 → rd υ 51 (10 * m + p) = D 124 p ∧ rd υ 52 (10 * m + p) = qS σ D p i) → pR mX1_keep d 44 [(2, 50), (0, m), (0, m * 10), (0, (i : Int))] [] υ (fun r υ => r = none ∧ (υ.1 = τ.1 ∧ (∀ a i : Int, a ≠ 51 → a ≠ 52 → a ≠ 53 → rd υ a i = rd τ a i) ∧ (∀ a i : Int, a = 51 ∨ a = 52 → ¬ (10 * m ≤ i ∧ i < 10 * m + 10) → rd υ a i = rd τ a i) ∧ ∀ i : Int, ¬ (7 * m ≤ i ∧ i < 7 * m + 7) → rd υ 53 i = rd τ 53 i) ∧ (∀ p : Int, 0 ≤ p → p < 10 → rd υ 51 (10 * m + p) = D 124 p ∧ rd υ 52 (10 * m + p) = qS σ D p (rd σ 68 30).toNat) ∧ ∀ r : Int, 0 ≤ r → r < rd σ 68 31 → rd υ 53 (7 * m + r) = D 127 r) := fun n => by
    induction n with
    | zero =>
      intro i υ hi F e1
      have cx : CX σ k υ := h.fr L F.1 (fun a i p => F.2.1 a i (by omega) (by omega))
      have er : rd υ (rd υ 35 4) 0 = rd σ 68 30 := by
        have := cx.1.row (a := 0) (i := 0) (by omega)
        rw [Int.add_zero, Int.add_zero] at this
        rw [this]; exact L.2.2.1
      refine g_X1_keep_44 (Nat.zero_le d) (S2.eq F.1) m (m * 10) (i : Int) (cx.1.i6 L) (by unfold inR; omega) (by rw [er]; unfold inR; omega) (fun _ => ?_) (fun c => by rw [er] at c; omega) (fun c => by rw [er] at c; omega) (fun c => by rw [er] at c; omega)
      have ei : (rd σ 68 30).toNat = i := by omega
      exact snow 7 0 υ rfl ⟨F.1, fun a x a1 a2 _ => F.2.1 a x a1 a2, F.2.2, fun x _ => F.2.1 53 x (by decide) (by decide)⟩ (by rw [ei]; exact e1) (fun r r0 r1 => by omega)
    | succ n ih =>
      intro i υ hi F e1
      have cx : CX σ k υ := h.fr L F.1 (fun a i p => F.2.1 a i (by omega) (by omega))
      have er : rd υ (rd υ 35 4) 0 = rd σ 68 30 := by
        have := cx.1.row (a := 0) (i := 0) (by omega)
        rw [Int.add_zero, Int.add_zero] at this
        rw [this]; exact L.2.2.1
      have hw : wyS σ (i : Int) = true := by unfold wyS vWay; exact decide_eq_true (Or.inl ⟨by omega, by omega⟩)
      have lw := L.2.2.2.2.2.2.2.2.2.1 (i : Int) hw
      have ow : vOuter (i : Int) = (i : Int) := by unfold vOuter; rw [if_pos (by omega)]
      have e2 : rd υ (rd υ 35 4 + 2) (i : Int) = rd σ 77 (i : Int) := by rw [cx.1.row (by omega)]; have := lw.1; rw [ow] at this; exact this
      refine g_X1_keep_44 (Nat.zero_le d) (S2.eq F.1) m (m * 10) (i : Int) (cx.1.i6 L) (by unfold inR; omega) (by rw [er]; unfold inR; omega) (fun c => by rw [er] at c; omega) (fun _ => by omega) (fun _ => by rw [e2]; omega) (fun _ => ?_)
      rw [show (i : Int) + 1 = ((i + 1 : Nat) : Int) by omega, e2]
      refine ih (i + 1) _ (by omega) ⟨F.1, fun a x a1 a2 => by rw [rd_wr_n (by omega)]; exact F.2.1 a x a1 a2, fun a x a1 a2 => by rw [rd_wr_n (by omega)]; exact F.2.2 a x a1 a2⟩ (fun p p0 p1 => ⟨by rw [rd_wr_n (by omega)]; exact (e1 p p0 p1).1, ?_⟩)
      have es : qS σ D p (i + 1) = qS σ D p i + (if rd σ 77 (i : Int) = p then D 125 (i : Int) else 0) := rfl
      rw [rd_wr, es]
      by_cases z : rd σ 77 (i : Int) = p
      · have y := (e1 p p0 p1).2
        have u : rd υ 59 (i : Int) = D 125 (i : Int) := (F.2.1 59 _ (by decide) (by decide)).trans (hD.1.1 i (by omega) (by omega)).1
        rw [if_pos ⟨rfl, by omega⟩, if_pos z, u, show m * 10 + rd σ 77 (i : Int) = 10 * m + p by omega, y]
      · rw [if_neg (by omega), if_neg z, (e1 p p0 p1).2]; omega
  have places : ∀ (n i : Nat) (υ : pS), i + n = 10 → (υ.1 = τ.1 ∧ (∀ a i : Int, a ≠ 51 → a ≠ 52 → rd υ a i = rd τ a i) ∧ (∀ a i : Int, a = 51 ∨ a = 52 → ¬ (10 * m ≤ i ∧ i < 10 * m + 10) → rd υ a i = rd τ a i)) → (∀ p : Int, 0 ≤ p → p < (i : Int) → rd υ 51 (10 * m + p) = D 124 p ∧ rd υ 52 (10 * m + p) = qS σ D p 0) → pR mX1_keep d 7 [(2, 50), (0, m), (0, m * 10), (0, (i : Int))] [] υ (fun r υ => r = none ∧ (υ.1 = τ.1 ∧ (∀ a i : Int, a ≠ 51 → a ≠ 52 → a ≠ 53 → rd υ a i = rd τ a i) ∧ (∀ a i : Int, a = 51 ∨ a = 52 → ¬ (10 * m ≤ i ∧ i < 10 * m + 10) → rd υ a i = rd τ a i) ∧ ∀ i : Int, ¬ (7 * m ≤ i ∧ i < 7 * m + 7) → rd υ 53 i = rd τ 53 i) ∧ (∀ p : Int, 0 ≤ p → p < 10 → rd υ 51 (10 * m + p) = D 124 p ∧ rd υ 52 (10 * m + p) = qS σ D p (rd σ 68 30).toNat) ∧ ∀ r : Int, 0 ≤ r → r < rd σ 68 31 → rd υ 53 (7 * m + r) = D 127 r) := fun n => by
    induction n with
    | zero =>
      intro i υ hi F e1
      exact g_X1_keep_7 (Nat.zero_le d) (S2.eq F.1) m (m * 10) (i : Int) (by unfold inR; omega) (fun _ => lifts (rd σ 68 30).toNat 0 υ (by omega) F (fun p p0 p1 => e1 p p0 (by omega))) (fun c => by omega) (fun c => by omega) (fun c => by omega)
    | succ n ih =>
      intro i υ hi F e1
      refine g_X1_keep_7 (Nat.zero_le d) (S2.eq F.1) m (m * 10) (i : Int) (by unfold inR; omega) (fun c => by omega) (fun _ => by omega) (fun _ => by omega) (fun _ => ?_)
      rw [show (i : Int) + 1 = ((i + 1 : Nat) : Int) by omega]
      refine ih (i + 1) _ (by omega) ⟨F.1, fun a x a1 a2 => by rw [rd_wr_n (by omega), rd_wr_n (by omega)]; exact F.2.1 a x a1 a2, fun a x a1 a2 => by rw [rd_wr_n (by omega), rd_wr_n (by omega)]; exact F.2.2 a x a1 a2⟩ (fun p p0 p1 => ?_)
      by_cases z : p = (i : Int)
      · constructor
        · rw [rd_wr_n (by omega), rd_wr, if_pos ⟨rfl, by omega⟩, z]
          exact (F.2.1 57 _ (by decide) (by decide)).trans (hD.2 i (by omega) (by omega))
        · rw [rd_wr, if_pos ⟨rfl, by omega⟩]; rfl
      · constructor
        · rw [rd_wr_n (by omega), rd_wr_n (by omega)]; exact (e1 p p0 (by omega)).1
        · rw [rd_wr_n (by omega), rd_wr_n (by omega)]; exact (e1 p p0 (by omega)).2
  exact g_X1_keep_0 (Nat.zero_le d) S2 m (places 10 0 τ rfl ⟨rfl, fun _ _ _ _ => rfl, fun _ _ _ _ => rfl⟩ (fun p p0 p1 => by omega))
theorem dBegin_C {d : Nat} {σ τ : pS} (hd : 1 ≤ d) (S : Stat σ) (L : RSlo σ) (C : RCro σ) {k : Int} (h : CX σ k τ) : pC mX1_begin d [(2, 50)] τ (fun r υ => r = none ∧ (υ.1 = τ.1 ∧ ∀ a i : Int, ¬ (54 ≤ a ∧ a ≤ 60) → rd υ a i = rd τ a i) ∧ DRU σ (-1) (dInit σ) υ) := by
  have S2 := h.1.st S
  have b1 := L.2.2.2.1.2
  have b2 := L.2.2.2.2.2.1.2
  have hh := L.2.2.2.2.2.2.2.2.1
  have arr : ∀ (n i : Nat) (u2 : pV) (υ : pS), u2.1 ≠ 1 → (i : Int) + n = rd σ 68 77 → (υ.1 = τ.1 ∧ ∀ a i : Int, ¬ (54 ≤ a ∧ a ≤ 60) → rd υ a i = rd τ a i) → (∀ a i : Int, a = 54 ∨ a = 55 ∨ a = 57 ∨ a = 58 ∨ a = 59 → 0 ≤ i → i < 17 → (a = 57 ∨ a = 58 → i < 10) → rd υ a i = 0) → (∀ w : Int, 0 ≤ w → w < 17 → rd υ 60 w = rd σ (rd σ 0 7 + 10) w * 10) → (∀ c : Int, 0 ≤ c → c < 4800 → rd υ 56 c = sumF (fun n => if rd σ 118 n * 10 + rd σ 68 32 = c then rd σ 119 n else 0) i) → pR mX1_begin d 85 [(2, 50), (0, (i : Int)), u2] [] υ (fun r υ => r = none ∧ (υ.1 = τ.1 ∧ ∀ a i : Int, ¬ (54 ≤ a ∧ a ≤ 60) → rd υ a i = rd τ a i) ∧ DRU σ (-1) (dInit σ) υ) := fun n => by
    induction n with
    | zero =>
      intro i u2 υ hu hi F e0 e60 e56
      have cx : CX σ k υ := h.fr L F.1 (fun a i p => F.2 a i (by omega))
      have e44 : rd υ 44 2 = rd σ 68 77 := (cx.2 _ _ (by omega) (by omega)).trans C.1
      have c2 := C.2.2.1
      have ei : (rd σ 68 77).toNat = i := by omega
      refine g_X1_begin_85 hd (S2.eq F.1) (i : Int) u2 hu (by unfold inR; omega) (by rw [e44]; unfold inR; omega) (fun _ => ⟨rfl, F, ⟨fun l l0 l1 => ⟨?_, ?_⟩, fun r r0 r1 => ⟨?_, ?_⟩, fun w hw => ?_, fun p p0 p1 => ?_, fun c c0 c1 => ?_⟩, fun p p0 p1 => ?_⟩) (fun c => by rw [e44] at c; omega) (fun c => by rw [e44] at c; omega) (fun c => by rw [e44] at c; omega) (fun c => by rw [e44] at c; omega)
      · exact e0 59 l (by omega) (by omega) (by omega) (by omega)
      · exact e0 55 l (by omega) (by omega) (by omega) (by omega)
      · rw [e60 _ (by omega) (by omega)]
        have := (L.2.2.2.2.2.2.2.2.2.2.2.1 r r0 r1).2.2.2.1
        rw [this]
        show _ = 10 * rd σ 81 (6 + r)
        omega
      · exact e0 55 _ (by omega) (by omega) (by omega) (by omega)
      · have o := vOuter_of hw b1 b2
        exact e0 54 _ (by omega) (by omega) (by omega) (by omega)
      · exact e0 58 _ (by omega) (by omega) (by omega) (by omega)
      · rw [e56 c (by omega) c1]
        show _ = (0 : Int) + arC σ c
        unfold arC
        rw [ei]; omega
      · exact e0 57 _ (by omega) (by omega) (by omega) (by omega)
    | succ n ih =>
      intro i u2 υ hu hi F e0 e60 e56
      have cx : CX σ k υ := h.fr L F.1 (fun a i p => F.2 a i (by omega))
      have e44 : rd υ 44 2 = rd σ 68 77 := (cx.2 _ _ (by omega) (by omega)).trans C.1
      have c2 := C.2.2.1
      have c3 := C.2.2.2.1 (i : Int) (by omega) (by omega)
      have e45 : rd υ 45 (i : Int) = rd σ 118 (i : Int) := (cx.2 _ _ (by omega) (by omega)).trans c3.1
      have e46 : rd υ 46 (i : Int) = rd σ 119 (i : Int) := (cx.2 _ _ (by omega) (by omega)).trans c3.2.2.2.1
      have e3 : rd υ (rd υ 35 4) 3 = rd σ 68 32 := by
        have := cx.1.row (a := 0) (i := 3) (by omega)
        rw [Int.add_zero, Int.add_zero] at this
        rw [this]; exact L.2.2.2.2.2.2.2.1
      refine g_X1_begin_85 hd (S2.eq F.1) (i : Int) u2 hu (by unfold inR; omega) (by rw [e44]; unfold inR; omega) (fun c => by rw [e44] at c; omega) (fun _ => by omega) (fun _ => cx.1.i6 L) (fun _ => by rw [e45, e3]; omega) (fun _ => ?_)
      rw [show (i : Int) + 1 = ((i + 1 : Nat) : Int) by omega, e45, e3, e46]
      refine ih (i + 1) (0, _) _ (show (0 : Nat) ≠ 1 by decide) (by omega) ⟨F.1, fun a x p => by rw [rd_wr_n (by omega)]; exact F.2 a x p⟩ (fun a x a1 x0 x1 x2 => by rw [rd_wr_n (by omega)]; exact e0 a x a1 x0 x1 x2) (fun w w0 w1 => by rw [rd_wr_n (by omega)]; exact e60 w w0 w1) (fun c c0 c1 => ?_)
      show _ = sumF _ i + (if _ then _ else _)
      rw [rd_wr, ← e56 c c0 c1]
      by_cases z : rd σ 118 (i : Int) * 10 + rd σ 68 32 = c
      · rw [if_pos ⟨rfl, z.symm⟩, if_pos z, z]
      · rw [if_neg (fun y => z y.2.symm), if_neg z]; omega
  have sno : ∀ (n i : Nat) (u2 : pV) (υ : pS), u2.1 ≠ 1 → i + n = 17 → (υ.1 = τ.1 ∧ ∀ a i : Int, ¬ (54 ≤ a ∧ a ≤ 60) → rd υ a i = rd τ a i) → (∀ a i : Int, a = 54 ∨ a = 55 ∨ a = 57 ∨ a = 58 ∨ a = 59 → 0 ≤ i → i < 17 → (a = 57 ∨ a = 58 → i < 10) → rd υ a i = 0) → (∀ w : Int, 0 ≤ w → w < (i : Int) → rd υ 60 w = rd σ (rd σ 0 7 + 10) w * 10) → (∀ c : Int, 0 ≤ c → c < 4800 → rd υ 56 c = 0) → pR mX1_begin d 50 [(2, 50), (0, (i : Int)), u2] [] υ (fun r υ => r = none ∧ (υ.1 = τ.1 ∧ ∀ a i : Int, ¬ (54 ≤ a ∧ a ≤ 60) → rd υ a i = rd τ a i) ∧ DRU σ (-1) (dInit σ) υ) := fun n => by
    induction n with
    | zero =>
      intro i u2 υ hu hi F e0 e60 e56
      exact g_X1_begin_50 hd (S2.eq F.1) (i : Int) u2 hu (by unfold inR; omega) (fun _ => arr (rd σ 68 77).toNat 0 u2 υ hu (by have := C.2.1; omega) F e0 (fun w w0 w1 => e60 w w0 (by omega)) e56) (fun c => by omega) (fun c => by omega) (fun c => by omega)
    | succ n ih =>
      intro i u2 υ hu hi F e0 e60 e56
      have cx : CX σ k υ := h.fr L F.1 (fun a i p => F.2 a i (by omega))
      refine g_X1_begin_50 hd (S2.eq F.1) (i : Int) u2 hu (by unfold inR; omega) (fun c => by omega) (fun _ => cx.1.i6 L) (fun _ => by omega) (fun _ => ?_)
      rw [show (i : Int) + 1 = ((i + 1 : Nat) : Int) by omega, cx.1.row (by omega)]
      refine ih (i + 1) u2 _ hu (by omega) ⟨F.1, fun a x p => by rw [rd_wr_n (by omega)]; exact F.2 a x p⟩ (fun a x a1 x0 x1 x2 => by rw [rd_wr_n (by omega)]; exact e0 a x a1 x0 x1 x2) (fun w w0 w1 => ?_) (fun c c0 c1 => by rw [rd_wr_n (by omega)]; exact e56 c c0 c1)
      rw [rd_wr]
      by_cases z : w = (i : Int)
      · rw [if_pos ⟨rfl, z⟩, z]
      · rw [if_neg (fun y => z y.2)]; exact e60 w w0 (by omega)
  have fC : ∀ υ : pS, υ.1 = τ.1 → ∀ (a v : Int) (n : Nat), ob τ a = some (50, n) → n < 2147483648 → pC mJ7_fill_53178 0 [(2, a), (0, v)] υ (fun r φ => r = none ∧ φ = fl υ a n v) := fun υ e a v n ho hn => fill_C (S2.eq e) (by rw [ob_eq e]; exact ho) hn
  refine g_X1_begin_0 (Q1 := fun r υ => r = none ∧ υ = fl τ 54 (17 : Nat) 0) (Q2 := fun r υ => r = none ∧ υ = fl (fl τ 54 (17 : Nat) 0) 55 (17 : Nat) 0) (Q3 := fun r υ => r = none ∧ υ = fl (fl (fl τ 54 (17 : Nat) 0) 55 (17 : Nat) 0) 56 (4800 : Nat) 0) (Q4 := fun r υ => r = none ∧ υ = fl (fl (fl (fl τ 54 (17 : Nat) 0) 55 (17 : Nat) 0) 56 (4800 : Nat) 0) 57 (10 : Nat) 0) (Q5 := fun r υ => r = none ∧ υ = fl (fl (fl (fl (fl τ 54 (17 : Nat) 0) 55 (17 : Nat) 0) 56 (4800 : Nat) 0) 57 (10 : Nat) 0) 58 (10 : Nat) 0) (Q6 := fun r υ => r = none ∧ υ = fl (fl (fl (fl (fl (fl τ 54 (17 : Nat) 0) 55 (17 : Nat) 0) 56 (4800 : Nat) 0) 57 (10 : Nat) 0) 58 (10 : Nat) 0) 59 (17 : Nat) 0) hd S2 (fill_C S2 (ob_54 S2) (by decide)) (fun τ1 e1 q1 => by rw [q1.2]; refine fC _ ?_ 55 0 17 (ob_55 S2) (by decide); rfl) (fun τ1 e1 q1 τ2 e2 q2 => by rw [q2.2]; refine fC _ ?_ 56 0 4800 (ob_56 S2) (by decide); rfl) (fun τ1 e1 q1 τ2 e2 q2 τ3 e3 q3 => by rw [q3.2]; refine fC _ ?_ 57 0 10 (ob_57 S2) (by decide); rfl) (fun τ1 e1 q1 τ2 e2 q2 τ3 e3 q3 τ4 e4 q4 => by rw [q4.2]; refine fC _ ?_ 58 0 10 (ob_58 S2) (by decide); rfl) (fun τ1 e1 q1 τ2 e2 q2 τ3 e3 q3 τ4 e4 q4 τ5 e5 q5 => by rw [q5.2]; refine fC _ ?_ 59 0 17 (ob_59 S2) (by decide); rfl) (fun τ1 e1 q1 τ2 e2 q2 τ3 e3 q3 τ4 e4 q4 τ5 e5 q5 τ6 e6 q6 => ?_)
  rw [q6.2]
  refine sno 17 0 (9, 0) _ (by decide) rfl ⟨rfl, fun a i p => ?_⟩ (fun a i a1 i0 i1 i2 => ?_) (fun w w0 w1 => by omega) (fun c c0 c1 => ?_)
  · rw [rd_fl, if_neg (by omega), rd_fl, if_neg (by omega), rd_fl, if_neg (by omega), rd_fl, if_neg (by omega), rd_fl, if_neg (by omega), rd_fl, if_neg (by omega)]
  · simp only [rd_fl]
    rcases a1 with z | z | z | z | z <;> subst z <;> simp <;> omega
  · rw [rd_fl, if_neg (by omega), rd_fl, if_neg (by omega), rd_fl, if_neg (by omega), rd_fl, if_pos (by omega)]
