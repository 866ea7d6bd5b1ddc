/-! a day: the reference's lifts and notes -/
theorem DM.l3 {σ φ : pS} {M l : Int} {D : Int → Int → Int} (h : DM σ M D φ) (hl : 0 ≤ l ∧ l < 6) {v : Int} (hv : v = max (rd φ 129 l) (rd φ 125 l)) : DM σ M (dL3 l D) (wr φ 129 l v) := by
  refine ⟨fun p p0 p1 => ?_, fun x x0 x1 => ⟨?_, ?_⟩, fun r r0 r1 => ?_, fun w w0 w1 => ?_, fun c c0 c1 => ?_⟩
  · rw [rd_wr_n (by omega), rd_wr_n (by omega)]; exact h.1 p p0 p1
  · rw [rd_wr_n (by omega)]; exact (h.2.1 x x0 x1).1
  · show _ = (if (129 : Int) = 129 then _ else _)
    rw [if_pos rfl, rd_wr]
    by_cases z : x = l
    · rw [if_pos ⟨rfl, z⟩, if_pos z, hv, z, (h.2.1 l hl.1 hl.2).1, (h.2.1 l hl.1 hl.2).2]
    · rw [if_neg (fun y => z y.2), if_neg z]; exact (h.2.1 x x0 x1).2
  · rw [rd_wr_n (by omega)]; exact h.2.2.1 r r0 r1
  · rw [rd_wr_n (by omega)]; exact h.2.2.2.1 w w0 w1
  · rw [rd_wr_n (by omega)]; exact h.2.2.2.2 c c0 c1
theorem DM.l2 {σ φ : pS} {m M l : Int} {D : Int → Int → Int} (h : DM σ M D φ) (hl : 0 ≤ l ∧ l < 6) (c : m + 1 = rd σ 82 l) {v : Int} (hv : v = rd φ 124 (rd σ 77 l) + rd φ 125 l) (hf : 0 ≤ rd σ 77 l ∧ rd σ 77 l < 10) : DM σ M (dL2 σ m l D) (wr (wr φ 124 (rd σ 77 l) v) 125 l 0) := by
  have e1 : ∀ i : Int, dL2 σ m l D 124 i = if i = rd σ 77 l then D 124 i + D 125 l else D 124 i := fun i => by show (if _ then _ else _) = _; rw [if_pos c, if_pos rfl]
  have e2 : ∀ i : Int, dL2 σ m l D 125 i = if i = l then 0 else D 125 i := fun i => by show (if _ then _ else _) = _; rw [if_pos c, if_neg (by decide), if_pos rfl]
  have e3 : ∀ a i : Int, a ≠ 124 → a ≠ 125 → dL2 σ m l D a i = D a i := fun a i a1 a2 => by show (if _ then _ else _) = _; rw [if_pos c, if_neg a1, if_neg a2]
  refine ⟨fun p p0 p1 => ⟨?_, ?_⟩, fun x x0 x1 => ⟨?_, ?_⟩, fun r r0 r1 => ?_, fun w w0 w1 => ?_, fun c c0 c1 => ?_⟩
  · rw [e1, rd_wr_n (by omega), rd_wr]
    by_cases z : p = rd σ 77 l
    · rw [if_pos ⟨rfl, z⟩, if_pos z, hv, z, (h.1 _ hf.1 hf.2).1, (h.2.1 l hl.1 hl.2).1]
    · rw [if_neg (fun y => z y.2), if_neg z]; exact (h.1 p p0 p1).1
  · rw [e3 _ _ (by decide) (by decide), rd_wr_n (by omega), rd_wr_n (by omega)]; exact (h.1 p p0 p1).2
  · rw [e2, rd_wr]
    by_cases z : x = l
    · rw [if_pos ⟨rfl, z⟩, if_pos z]
    · rw [if_neg (fun y => z y.2), if_neg z, rd_wr_n (by omega)]; exact (h.2.1 x x0 x1).1
  · rw [e3 _ _ (by decide) (by decide), rd_wr_n (by omega), rd_wr_n (by omega)]; exact (h.2.1 x x0 x1).2
  · rw [e3 _ _ (by decide) (by decide), rd_wr_n (by omega), rd_wr_n (by omega)]; exact h.2.2.1 r r0 r1
  · rw [e3 _ _ (by decide) (by decide), rd_wr_n (by omega), rd_wr_n (by omega)]; exact h.2.2.2.1 w w0 w1
  · rw [e3 _ _ (by decide) (by decide), rd_wr_n (by omega), rd_wr_n (by omega)]; exact h.2.2.2.2 c c0 c1
theorem DM.l1 {σ φ : pS} {k m M l n : Int} {D : Int → Int → Int} (h : DM σ M D φ) (hl : 0 ≤ l ∧ l < 6) (hn : dOn σ k m l D = n) : DM σ M (dL1 σ k m l D) (wr (wr (wr φ 125 l (rd φ 125 l - n)) 128 l (rd φ 128 l + n)) 126 (10 * (m + rd σ 79 l) + rd σ 78 l) (rd φ 126 (10 * (m + rd σ 79 l) + rd σ 78 l) + n)) := by
  have e1 : ∀ i : Int, dL1 σ k m l D 125 i = if i = l then D 125 i - n else D 125 i := fun i => by rw [← hn]; rfl
  have e2 : ∀ i : Int, dL1 σ k m l D 128 i = if i = l then D 128 i + n else D 128 i := fun i => by rw [← hn]; rfl
  have e3 : ∀ i : Int, dL1 σ k m l D 126 i = if i = 10 * (m + rd σ 79 l) + rd σ 78 l then D 126 i + n else D 126 i := fun i => by rw [← hn]; rfl
  refine ⟨fun p p0 p1 => ?_, fun x x0 x1 => ⟨?_, ?_⟩, fun r r0 r1 => ?_, fun w w0 w1 => ?_, fun c c0 c1 => ?_⟩
  · rw [rd_wr_n (by omega), rd_wr_n (by omega), rd_wr_n (by omega), rd_wr_n (by omega), rd_wr_n (by omega), rd_wr_n (by omega)]; exact h.1 p p0 p1
  · have := (h.2.1 x x0 x1).1
    rw [e1, rd_wr_n (by omega), rd_wr_n (by omega), rd_wr]
    by_cases z : x = l
    · rw [if_pos ⟨rfl, z⟩, if_pos z, ← z, this]
    · rw [if_neg (fun y => z y.2), if_neg z, this]
  · rw [rd_wr_n (by omega), rd_wr_n (by omega), rd_wr_n (by omega)]; exact (h.2.1 x x0 x1).2
  · rw [rd_wr_n (by omega), rd_wr_n (by omega), rd_wr_n (by omega)]; exact h.2.2.1 r r0 r1
  · have := h.2.2.2.1 w w0 w1
    rw [e2, rd_wr_n (by omega), rd_wr]
    by_cases z : w = l
    · rw [if_pos ⟨rfl, z⟩, if_pos z, ← z, this]
    · rw [if_neg (fun y => z y.2), if_neg z, rd_wr_n (by omega), this]
  · have := h.2.2.2.2 c c0 c1
    rw [e3, rd_wr]
    by_cases z : c = 10 * (m + rd σ 79 l) + rd σ 78 l
    · rw [if_pos ⟨rfl, z⟩, if_pos z, ← z, this]
    · rw [if_neg (fun y => z y.2), if_neg z, rd_wr_n (by omega), rd_wr_n (by omega), this]
theorem mLift_C {d : Nat} {σ φ : pS} (hd : 2 ≤ d) (S : Stat σ) (L : RSlo σ) {Z : Nat} (hZ : Z = 5410) {k m l M N M2 : Int} {D : Int → Int → Int} (h : RX σ k φ) (hl : 0 ≤ l ∧ l < rd σ 68 30) (hm : 0 ≤ m ∧ m < 480) (hD : DM σ M D φ) (o : dOk σ Z M2 N D) (hN : N ≤ 10000) : pC mX11_lift d [(2, 68), (0, l), (0, m)] φ (fun r ψ => r = none ∧ dFr φ ψ ∧ DM σ M (dLift σ k m l D) ψ) := by
  have S2 := S.eq h.1
  have b1 := L.2.2.2.1.2
  have hl6 : 0 ≤ l ∧ l < 6 := by omega
  have hw : wyS σ l = true := by unfold wyS vWay; exact decide_eq_true (Or.inl hl)
  have lw := L.2.2.2.2.2.2.2.2.2.1 l hw
  have ll := L.2.2.2.2.2.2.2.2.2.2.1 l hl.1 hl.2
  have e82 : rd φ 82 l = rd σ 82 l := h.2.1 _ _ (by omega)
  have e81 : rd φ 81 l = rd σ 81 l := h.2.1 _ _ (by omega)
  have e80 : rd φ 80 l = rd σ 80 l := h.2.1 _ _ (by omega)
  have e79 : rd φ 79 l = rd σ 79 l := h.2.1 _ _ (by omega)
  have e78 : rd φ 78 l = rd σ 78 l := h.2.1 _ _ (by omega)
  have e77 : rd φ 77 l = rd σ 77 l := h.2.1 _ _ (by omega)
  have hh := vHour_R hm.1
  have e105 : rd φ 105 (8 * l + vHour m) = b2i (shutS σ k l (vHour m)) := h.2.2.2 l hl.1 (by omega) _ hh.1 hh.2
  have op : vOpenM φ l m = openS σ k l m := by
    have on : vOn φ l m = vOn σ l m := by unfold vOn; rw [e81, e82]
    unfold vOpenM openS
    rw [on, e105]
    cases vOn σ l m <;> cases shutS σ k l (vHour m) <;> rfl
  have q0 := o.1.2.1 l hl.1 hl6.2
  have q1 := (o.1.le hZ).2.1 l hl.1 hl6.2
  rw [o.2.1] at q1
  have g0 := o.2.2.2.2 l hl.1 hl6.2
  have r125 := (hD.2.1 l hl.1 hl6.2).1
  have r129 := (hD.2.1 l hl.1 hl6.2).2
  have onA : openS σ k l m = true → rd φ 80 l ≤ rd φ 125 l → dOn σ k m l D = rd φ 80 l := fun c1 c2 => by unfold dOn; rw [if_pos c1, ← r125, ← e80]; omega
  have onB : openS σ k l m = true → rd φ 125 l < rd φ 80 l → dOn σ k m l D = rd φ 125 l := fun c1 c2 => by unfold dOn; rw [if_pos c1, ← r125, ← e80]; omega
  have F1 : ∀ v : Int, dFr φ (wr φ 129 l v) := fun v => ⟨rfl, fun a x a1 a2 => rd_wr_n (by omega)⟩
  have F3 : ∀ f v w : Int, dFr φ (wr (wr (wr φ 124 f v) 125 l 0) 129 l w) := fun f v w => ⟨rfl, fun a x a1 a2 => by rw [rd_wr_n (by omega), rd_wr_n (by omega), rd_wr_n (by omega)]⟩
  have F4 : ∀ v1 v2 i v3 v4 : Int, dFr φ (wr (wr (wr (wr φ 125 l v1) 128 l v2) 126 i v3) 129 l v4) := fun v1 v2 i v3 v4 => ⟨rfl, fun a x a1 a2 => by rw [rd_wr_n (by omega), rd_wr_n (by omega), rd_wr_n (by omega), rd_wr_n (by omega)]⟩
  have F6 : ∀ v1 v2 i v3 f v5 v6 : Int, dFr φ (wr (wr (wr (wr (wr (wr φ 125 l v1) 128 l v2) 126 i v3) 124 f v5) 125 l 0) 129 l v6) := fun v1 v2 i v3 f v5 v6 => ⟨rfl, fun a x a1 a2 => by rw [rd_wr_n (by omega), rd_wr_n (by omega), rd_wr_n (by omega), rd_wr_n (by omega), rd_wr_n (by omega), rd_wr_n (by omega)]⟩
  have k1 : ∀ (n v : Int), openS σ k l m = true → dOn σ k m l D = n → m + 1 ≠ rd σ 82 l → v = max (rd φ 129 l) (rd φ 125 l - n) → DM σ M (dLift σ k m l D) (wr (wr (wr (wr φ 125 l (rd φ 125 l - n)) 128 l (rd φ 128 l + n)) 126 (10 * (m + rd φ 79 l) + rd φ 78 l) (rd φ 126 (10 * (m + rd φ 79 l) + rd φ 78 l) + n)) 129 l v) := fun n v c1 hn c2 hv => by
    rw [e79, e78]
    unfold dLift
    rw [dL2_no c2]
    refine (hD.l1 hl6 hn).l3 hl6 ?_
    rw [rd_wr_n (by omega), rd_wr_n (by omega), rd_wr_n (by omega), rd_wr_n (by omega), rd_wr_n (by omega), rd_wr_same]
    exact hv
  have k2 : ∀ (n v : Int), openS σ k l m = true → dOn σ k m l D = n → m + 1 = rd σ 82 l → v = max (rd φ 129 l) 0 → DM σ M (dLift σ k m l D) (wr (wr (wr (wr (wr (wr φ 125 l (rd φ 125 l - n)) 128 l (rd φ 128 l + n)) 126 (10 * (m + rd φ 79 l) + rd φ 78 l) (rd φ 126 (10 * (m + rd φ 79 l) + rd φ 78 l) + n)) 124 (rd φ 77 l) (rd φ 124 (rd φ 77 l) + (rd φ 125 l - n))) 125 l 0) 129 l v) := fun n v c1 hn c2 hv => by
    rw [e79, e78, e77]
    unfold dLift
    refine ((hD.l1 hl6 hn).l2 hl6 c2 ?_ (by omega)).l3 hl6 ?_
    · rw [rd_wr_n (by omega), rd_wr_n (by omega), rd_wr_n (by omega), rd_wr_n (by omega), rd_wr_n (by omega), rd_wr_same]
    · rw [rd_wr_n (by omega), rd_wr_n (by omega), rd_wr_n (by omega), rd_wr_n (by omega), rd_wr_n (by omega), rd_wr_same]
      exact hv
  refine g_X11_lift_0 hd S2 l m (isOpenAt_C (Nat.le_refl 1) S2 ⟨hl.1, by omega⟩ (by omega) (fun _ => by rw [e81]; unfold inR; omega) (fun _ => by rw [e82]; unfold inR; omega) (by rw [e105]; exact b2i_R _)) (fun _ => by omega) (fun _ => by unfold inR; omega) (fun _ => by rw [e82]; unfold inR; omega) (fun _ _ => hl6) (fun _ _ => by rw [r125]; unfold inR; omega) (fun _ _ => by rw [r129]; unfold inR; omega) (fun c1 c3 c5 => ⟨rfl, F1 _, ?_⟩) (fun c1 c3 c6 => ⟨rfl, F1 _, ?_⟩) (fun _ _ => by rw [e77]; omega) (fun _ _ => hl6) (fun _ _ => by rw [r129]; unfold inR; omega) (fun c1 c4 c7 => ⟨rfl, F3 _ _ _, ?_⟩) (fun c1 c4 c8 => by omega) (fun _ => hl6) (fun _ => by omega) (fun _ => by rw [r125]; unfold inR; omega) (fun _ => by rw [e80]; unfold inR; omega) (fun _ _ => by rw [e79, e78]; omega) (fun _ _ => by unfold inR; omega) (fun _ _ => by rw [e82]; unfold inR; omega) (fun _ _ _ => by rw [e80, r125]; unfold inR; omega) (fun _ _ _ => by rw [r129]; unfold inR; omega) (fun c2 c9 c11 c13 => ⟨rfl, F4 _ _ _ _ _, ?_⟩) (fun c2 c9 c11 c14 => ⟨rfl, F4 _ _ _ _ _, ?_⟩) (fun _ _ _ => by rw [e77]; omega) (fun _ _ _ => by rw [r129]; unfold inR; omega) (fun c2 c9 c12 c15 => ⟨rfl, F6 _ _ _ _ _ _ _, ?_⟩) (fun c2 c9 c12 c16 => by omega) (fun _ _ => by rw [e79, e78]; omega) (fun _ _ => by unfold inR; omega) (fun _ _ => by rw [e82]; unfold inR; omega) (fun _ _ _ => by unfold inR; omega) (fun _ _ _ => by rw [r129]; unfold inR; omega) (fun c2 c10 c17 c19 => ⟨rfl, F4 _ _ _ _ _, ?_⟩) (fun c2 c10 c17 c20 => ⟨rfl, F4 _ _ _ _ _, ?_⟩) (fun _ _ _ => by rw [e77]; omega) (fun _ _ _ => by rw [r129]; unfold inR; omega) (fun c2 c10 c18 c21 => ⟨rfl, F6 _ _ _ _ _ _ _, ?_⟩) (fun c2 c10 c18 c22 => by omega)
  · rw [op] at c1
    rw [e82] at c3
    unfold dLift
    rw [dL1_no c1, dL2_no c3]
    exact hD.l3 hl6 (by omega)
  · rw [op] at c1
    rw [e82] at c3
    unfold dLift
    rw [dL1_no c1, dL2_no c3]
    exact hD.l3 hl6 (by omega)
  · rw [op] at c1
    rw [e82] at c4
    unfold dLift
    rw [dL1_no c1, e77]
    refine (hD.l2 hl6 c4 rfl (by omega)).l3 hl6 ?_
    rw [rd_wr_same, rd_wr_n (by omega), rd_wr_n (by omega)]; omega
  · rw [op] at c2; rw [e82] at c11; exact k1 _ _ c2 (onA c2 c9) c11 (by omega)
  · rw [op] at c2; rw [e82] at c11; exact k1 _ _ c2 (onA c2 c9) c11 (by omega)
  · rw [op] at c2; rw [e82] at c12; exact k2 _ _ c2 (onA c2 c9) c12 (by omega)
  · rw [op] at c2; rw [e82] at c17; exact k1 _ _ c2 (onB c2 c10) c17 (by omega)
  · rw [op] at c2; rw [e82] at c17; exact k1 _ _ c2 (onB c2 c10) c17 (by omega)
  · rw [op] at c2; rw [e82] at c18; exact k2 _ _ c2 (onB c2 c10) c18 (by omega)
/-- what the reference's note of a minute writes -/
def mNt (σ : pS) (m : Int) (D : Int → Int → Int) (φ ψ : pS) : Prop := (ψ.1 = φ.1 ∧ (∀ a i : Int, a ≠ 130 → a ≠ 131 → a ≠ 132 → rd ψ a i = rd φ a i) ∧ (∀ a i : Int, a = 130 ∨ a = 131 → ¬ (10 * m ≤ i ∧ i < 10 * m + 10) → rd ψ a i = rd φ a i) ∧ ∀ i : Int, ¬ (7 * m ≤ i ∧ i < 7 * m + 7) → rd ψ 132 i = rd φ 132 i) ∧ (∀ p : Int, 0 ≤ p → p < 10 → rd ψ 130 (10 * m + p) = D 124 p ∧ rd ψ 131 (10 * m + p) = qS σ D p (rd σ 68 30).toNat) ∧ ∀ r : Int, 0 ≤ r → r < rd σ 68 31 → rd ψ 132 (7 * m + r) = D 127 r
theorem mNote_C {d : Nat} {σ φ : pS} (S : Stat σ) (L : RSlo σ) {k m M : Int} {D : Int → Int → Int} (h : RX σ k φ) (hm : 0 ≤ m ∧ m < 480) (hD : DM σ M D φ) : pC mX11_note d [(2, 68), (0, m)] φ (fun r ψ => r = none ∧ mNt σ m D φ ψ) := by
  have b1 := L.2.2.2.1.2
  have b0 := L.2.2.2.1.1
  have b2 := L.2.2.2.2.2.1.2
  have b3 := L.2.2.2.2.2.1.1
  have rxf : ∀ ψ : pS, (ψ.1 = φ.1 ∧ ∀ a i : Int, a ≠ 130 → a ≠ 131 → a ≠ 132 → rd ψ a i = rd φ a i) → RX σ k ψ := fun ψ F => h.fr F.1 (fun a i _ p => F.2 a i (by omega) (by omega) (by omega))
  have snow : ∀ (n i : Nat) (ψ : pS), (i : Int) + n = rd σ 68 31 → (ψ.1 = φ.1 ∧ (∀ a i : Int, a ≠ 130 → a ≠ 131 → a ≠ 132 → rd ψ a i = rd φ a i) ∧ (∀ a i : Int, a = 130 ∨ a = 131 → ¬ (10 * m ≤ i ∧ i < 10 * m + 10) → rd ψ a i = rd φ a i) ∧ ∀ i : Int, ¬ (7 * m ≤ i ∧ i < 7 * m + 7) → rd ψ 132 i = rd φ 132 i) → (∀ p : Int, 0 ≤ p → p < 10 → rd ψ 130 (10 * m + p) = D 124 p ∧ rd ψ 131 (10 * m + p) = qS σ D p (rd σ 68 30).toNat) → (∀ r : Int, 0 ≤ r → r < (i : Int) → rd ψ 132 (7 * m + r) = D 127 r) → pR mX11_note d 86 [(2, 68), (0, m), (0, (i : Int))] [] ψ (fun r ψ => r = none ∧ mNt σ m D φ ψ) := fun n => by
    induction n with
    | zero =>
      intro i ψ hi F e1 e2
      have e31 : rd ψ 68 31 = rd σ 68 31 := (rxf ψ ⟨F.1, F.2.1⟩).2.1 _ _ (by omega)
      exact g_X11_note_86 (Nat.zero_le d) (S.eq (F.1.trans h.1)) m (i : Int) (by unfold inR; omega) (by rw [e31]; unfold inR; omega) (fun _ => ⟨rfl, F, e1, fun r r0 r1 => e2 r r0 (by omega)⟩) (fun c => by rw [e31] at c; omega) (fun c => by rw [e31] at c; omega) (fun c => by rw [e31] at c; omega)
    | succ n ih =>
      intro i ψ hi F e1 e2
      have e31 : rd ψ 68 31 = rd σ 68 31 := (rxf ψ ⟨F.1, F.2.1⟩).2.1 _ _ (by omega)
      refine g_X11_note_86 (Nat.zero_le d) (S.eq (F.1.trans h.1)) m (i : Int) (by unfold inR; omega) (by rw [e31]; unfold inR; omega) (fun c => by rw [e31] at c; omega) (fun _ => by omega) (fun _ => by omega) (fun _ => ?_)
      rw [show (i : Int) + 1 = ((i + 1 : Nat) : Int) by omega]
      refine ih (i + 1) _ (by omega) ⟨F.1, fun a x a1 a2 a3 => by rw [rd_wr_n (by omega)]; exact F.2.1 a x a1 a2 a3, fun a x a1 a2 => by rw [rd_wr_n (by omega)]; exact F.2.2.1 a x a1 a2, fun x x0 => by rw [rd_wr_n (by omega)]; exact F.2.2.2 x x0⟩ (fun p p0 p1 => by rw [rd_wr_n (by omega), rd_wr_n (by omega)]; exact e1 p p0 p1) (fun r r0 r1 => ?_)
      rw [rd_wr]
      by_cases z : r = (i : Int)
      · rw [if_pos ⟨rfl, by omega⟩, z]; exact (F.2.1 127 _ (by decide) (by decide) (by decide)).trans (hD.2.2.1 i (by omega) (by omega))
      · rw [if_neg (by omega)]; exact e2 r r0 (by omega)
  have lifts : ∀ (n i : Nat) (ψ : pS), (i : Int) + n = rd σ 68 30 → (ψ.1 = φ.1 ∧ (∀ a i : Int, a ≠ 130 → a ≠ 131 → rd ψ a i = rd φ a i) ∧ (∀ a i : Int, a = 130 ∨ a = 131 → ¬ (10 * m ≤ i ∧ i < 10 * m + 10) → rd ψ a i = rd φ a i)) → (∀ p : Int, 0 ≤ p → p < 10 → rd ψ 130 (10 * m + p) = D 124 p ∧ rd ψ 131 (10 * m + p) = qS σ D p i) → pR mX11_note d 45 [(2, 68), (0, m), (0, (i : Int))] [] ψ (fun r ψ => r = none ∧ mNt σ m D φ ψ) := fun n => by
    induction n with
    | zero =>
      intro i ψ hi F e1
      have e30 : rd ψ 68 30 = rd σ 68 30 := (rxf ψ ⟨F.1, fun a x a1 a2 _ => F.2.1 a x a1 a2⟩).2.1 _ _ (by omega)
      refine g_X11_note_45 (Nat.zero_le d) (S.eq (F.1.trans h.1)) m (i : Int) (by unfold inR; omega) (by rw [e30]; unfold inR; omega) (fun _ => ?_) (fun c => by rw [e30] at c; omega) (fun c => by rw [e30] at c; omega) (fun c => by rw [e30] at c; omega) (fun c => by rw [e30] at c; omega)
      have ei : (rd σ 68 30).toNat = i := by omega
      exact snow (rd σ 68 31).toNat 0 ψ (by omega) ⟨F.1, fun a x a1 a2 _ => F.2.1 a x a1 a2, F.2.2, fun x _ => F.2.1 132 x (by decide) (by decide)⟩ (by rw [ei]; exact e1) (fun r r0 r1 => by omega)
    | succ n ih =>
      intro i ψ hi F e1
      have rx := rxf ψ ⟨F.1, fun a x a1 a2 _ => F.2.1 a x a1 a2⟩
      have e30 : rd ψ 68 30 = rd σ 68 30 := rx.2.1 _ _ (by omega)
      have hw : wyS σ (i : Int) = true := by unfold wyS vWay; exact decide_eq_true (Or.inl ⟨by omega, by omega⟩)
      have lw := L.2.2.2.2.2.2.2.2.2.1 (i : Int) hw
      have e2 : rd ψ 77 (i : Int) = rd σ 77 (i : Int) := rx.2.1 _ _ (by omega)
      refine g_X11_note_45 (Nat.zero_le d) (S.eq (F.1.trans h.1)) m (i : Int) (by unfold inR; omega) (by rw [e30]; unfold inR; omega) (fun c => by rw [e30] at c; omega) (fun _ => by omega) (fun _ => by rw [e2]; omega) (fun _ => by omega) (fun _ => ?_)
      rw [show (i : Int) + 1 = ((i + 1 : Nat) : Int) by omega, e2]
      refine ih (i + 1) _ (by omega) ⟨F.1, fun a x a1 a2 => by rw [rd_wr_n (by omega)]; exact F.2.1 a x a1 a2, fun a x a1 a2 => by rw [rd_wr_n (by omega)]; exact F.2.2 a x a1 a2⟩ (fun p p0 p1 => ⟨by rw [rd_wr_n (by omega)]; exact (e1 p p0 p1).1, ?_⟩)
      have es : qS σ D p (i + 1) = qS σ D p i + (if rd σ 77 (i : Int) = p then D 125 (i : Int) else 0) := rfl
      rw [rd_wr, es]
      by_cases z : rd σ 77 (i : Int) = p
      · have y := (e1 p p0 p1).2
        have u : rd ψ 125 (i : Int) = D 125 (i : Int) := (F.2.1 125 _ (by decide) (by decide)).trans (hD.2.1 i (by omega) (by omega)).1
        rw [if_pos ⟨rfl, by omega⟩, if_pos z, u, show 10 * m + rd σ 77 (i : Int) = 10 * m + p by omega, y]
      · rw [if_neg (by omega), if_neg z, (e1 p p0 p1).2]; omega
  have places : ∀ (n i : Nat) (ψ : pS), i + n = 10 → (ψ.1 = φ.1 ∧ (∀ a i : Int, a ≠ 130 → a ≠ 131 → rd ψ a i = rd φ a i) ∧ (∀ a i : Int, a = 130 ∨ a = 131 → ¬ (10 * m ≤ i ∧ i < 10 * m + 10) → rd ψ a i = rd φ a i)) → (∀ p : Int, 0 ≤ p → p < (i : Int) → rd ψ 130 (10 * m + p) = D 124 p ∧ rd ψ 131 (10 * m + p) = qS σ D p 0) → pR mX11_note d 2 [(2, 68), (0, m), (0, (i : Int))] [] ψ (fun r ψ => r = none ∧ mNt σ m D φ ψ) := fun n => by
    induction n with
    | zero =>
      intro i ψ hi F e1
      exact g_X11_note_2 (Nat.zero_le d) (S.eq (F.1.trans h.1)) m (i : Int) (by unfold inR; omega) (fun _ => lifts (rd σ 68 30).toNat 0 ψ (by omega) F (fun p p0 p1 => e1 p p0 (by omega))) (fun c => by omega) (fun c => by omega) (fun c => by omega)
    | succ n ih =>
      intro i ψ hi F e1
      refine g_X11_note_2 (Nat.zero_le d) (S.eq (F.1.trans h.1)) m (i : Int) (by unfold inR; omega) (fun c => by omega) (fun _ => by omega) (fun _ => by omega) (fun _ => ?_)
      rw [show (i : Int) + 1 = ((i + 1 : Nat) : Int) by omega]
      refine ih (i + 1) _ (by omega) ⟨F.1, fun a x a1 a2 => by rw [rd_wr_n (by omega), rd_wr_n (by omega)]; exact F.2.1 a x a1 a2, fun a x a1 a2 => by rw [rd_wr_n (by omega), rd_wr_n (by omega)]; exact F.2.2 a x a1 a2⟩ (fun p p0 p1 => ?_)
      by_cases z : p = (i : Int)
      · constructor
        · rw [rd_wr_n (by omega), rd_wr, if_pos ⟨rfl, by omega⟩, z]
          exact (F.2.1 124 _ (by decide) (by decide)).trans (hD.1 i (by omega) (by omega)).1
        · rw [rd_wr, if_pos ⟨rfl, by omega⟩]; rfl
      · constructor
        · rw [rd_wr_n (by omega), rd_wr_n (by omega)]; exact (e1 p p0 (by omega)).1
        · rw [rd_wr_n (by omega), rd_wr_n (by omega)]; exact (e1 p p0 (by omega)).2
  exact g_X11_note_0 (Nat.zero_le d) (S.eq h.1) m (places 10 0 φ rfl ⟨rfl, fun _ _ _ _ => rfl, fun _ _ _ _ => rfl⟩ (fun p p0 p1 => by omega))
