/-! the class reads lifts, runs, home -/
theorem oo_cg {o b b' : pO} (h : o = none → b = b') : oo o b = oo o b' := by
  cases o with
  | none => exact h rfl
  | some x => rfl
def lsc (K : Nat → Int) (j : Nat) : Nat := if K (j + 12) = 7 then j + 13 else j + 12
def liftO (K P V : Nat → Int) (nt : Bool) (j : Nat) : pO := oo (endsO K P V nt (j + 1)) (oo (numO K P V 3 1 30 (j + 4)) (oo (numO K P V 4 1 99 (j + 6)) (oo (numO K P V 5 0 480 (j + 8)) (oo (numO K P V 6 (V (j + 9) + 1) 480 (j + 10)) (ck K P (decide (K (lsc K j) = 59)) 2 (lsc K j))))))
def runO (K P V : Nat → Int) (nt : Bool) (j : Nat) : pO := oo (endsO K P V nt (j + 1)) (oo (numO K P V 8 0 3 (j + 4)) (oo (numO K P V 3 1 60 (j + 6)) (oo (numO K P V 9 0 300 (j + 8)) (ck K P (decide (K (j + 10) = 59)) 2 (j + 10)))))
def homeO (K P : Nat → Int) (j : Nat) : pO := oo (ck K P (decide (K (j + 1) = 20)) 2 (j + 1)) (ck K P (decide (K (j + 2) = 59)) 2 (j + 2))
def updF (F : Int → Int) (m v : Int) : Int → Int := fun k => if k = m then v else F k
/-- so far: the fault, the place, what stands of the way's row -/
def lB (K P V : Nat → Int) (c : Nat) (a0 x : Int) (σ : pS) (o : pO) (k : Nat) (F : Int → Int) (τ : pS) : Prop := cSt K P V c o k τ ∧ wyF a0 x σ τ ∧ (∀ i : Int, rd τ a0 i = rd σ a0 i) ∧ (o = none → ∀ m : Int, 1 ≤ m → m ≤ 10 → rd τ (a0 + m) x = F m)
theorem lB.cf {K P V : Nat → Int} {c : Nat} {a0 x : Int} {σ φ τ : pS} {o o' : pO} {k k' : Nat} {F : Int → Int} (h : lB K P V c a0 x σ o k F φ) (ha : 141 ≤ a0) (f : cFr φ τ) (s : cSt K P V c o' k' τ) (m : o' = none → o = none) : lB K P V c a0 x σ o' k' F τ :=
  ⟨s, h.2.1.tr f, fun i => (f.2 _ _ (by omega)).trans (h.2.2.1 i), fun e q q0 q1 => (f.2 _ _ (by omega)).trans (h.2.2.2 (m e) q q0 q1)⟩
theorem lB.wr {K P V : Nat → Int} {c : Nat} {a0 x : Int} {σ φ : pS} {o : pO} {k : Nat} {F : Int → Int} (h : lB K P V c a0 x σ o k F φ) (ha : 141 ≤ a0) {m v w : Int} (hm : 1 ≤ m ∧ m ≤ 10) (e : o = none → v = w) : lB K P V c a0 x σ o k (updF F m w) (wr φ (a0 + m) x v) :=
  ⟨h.1.wr (by omega), wyF_w h.2.1 hm, fun i => by rw [rd_wr_n (by omega)]; exact h.2.2.1 i, fun z q q0 q1 => by
    unfold updF
    by_cases y : q = m
    · rw [y, if_pos rfl, rd_wr_same]; exact e z
    · rw [if_neg y, rd_wr_n (by omega)]; exact h.2.2.2 z q q0 q1⟩
theorem lB.num {K P V : Nat → Int} {c d : Nat} {a0 x : Int} {σ φ : pS} {o : pO} {k : Nat} {F : Int → Int} (hd : 2 ≤ d) (S : Stat σ) (R : tkR K V c) (h : lB K P V c a0 x σ o k F φ) (ha : 141 ≤ a0) {w lo hi : Int} (hk : 0 ≤ w ∧ w ≤ 62 ∧ w ≠ 21) (hl : inR lo) (hh : inR hi) : pC mX9_numberBehind d [(2, 2), (0, w), (0, lo), (0, hi)] φ (fun r τ => ∃ v, r = some (0, v) ∧ lB K P V c a0 x σ (oo o (numO K P V w lo hi k)) (k + 2) F τ ∧ (oo o (numO K P V w lo hi k) = none → v = V (k + 1)) ∧ -1 ≤ v ∧ v ≤ 9999) :=
  (number_C hd (S.eq h.2.1.1) R h.1 hk hl hh).mono fun r τ _ ⟨v, q1, q2, q3, q4, q5⟩ => ⟨v, q1, h.cf ha q2 q3 (fun e => (oo_none_iff.mp e).1), q4, by omega, by omega⟩
theorem nmF_eq {σ τ : pS} {a0 v : Int} (h : ∀ i : Int, rd τ (a0 + 1) i = rd σ (a0 + 1) i) : nmF τ a0 v = nmF σ a0 v := by
  unfold nmF
  simp only [h]
/-- what reading a line of a way leaves -/
def wayQ (K P V : Nat → Int) (c : Nat) (a0 x : Int) (σ : pS) (o : pO) (k : Nat) (F : Int → Int) (q : Int) (r : Option pV) (τ : pS) : Prop := r = some (0, b2i (decide (o = none))) ∧ cSt K P V c o k τ ∧ wyF a0 x σ τ ∧ (o = none → (∀ m : Int, 1 ≤ m → m ≤ 10 → rd τ (a0 + m) x = F m) ∧ ∀ i : Int, rd τ a0 i = if i = q then rd σ a0 i + 1 else rd σ a0 i)
theorem wayQ.sc {K P V : Nat → Int} {c d : Nat} {a0 x : Int} {σ φ : pS} {o o' : pO} {k k' : Nat} {F : Int → Int} {q : Int} (hd : 1 ≤ d) (S : Stat σ) (R : tkR K V c) (ha : 141 ≤ a0) (hq : q = 0 ∨ q = 1) (h : lB K P V c a0 x σ o k F φ) {ψ : pS} (hψ : ψ = wr φ a0 q (rd σ a0 q + 1)) (eo : oo o (ck K P (decide (K k = 59)) 2 k) = o') (ek : o' = none → k + 1 = k') : pC mX9_expect d [(2, 2), (0, 59)] ψ (wayQ K P V c a0 x σ o' k' F q) := by
  subst hψ
  have w0 := wyF_w0 (k := q) (v := rd σ a0 q + 1) h.2.1 hq
  refine (expect_C hd (S.eq w0.1) R (h.1.wr (by omega)) (k := 59) (by decide)).mono fun r τ _ ⟨q1, q2, q3⟩ => ?_
  rw [eo] at q1 q3
  refine ⟨q1, q3.to rfl ek, w0.tr q2, fun z => ⟨fun m m0 m1 => ?_, fun i => ?_⟩⟩
  · rw [q2.2 _ _ (by omega), rd_wr_n (by omega)]
    exact h.2.2.2 (by rw [← eo] at z; exact (oo_none_iff.mp z).1) m m0 m1
  · rw [q2.2 _ _ (by omega), rd_wr]
    by_cases y : i = q
    · rw [if_pos ⟨rfl, y⟩, if_pos y, y]
    · rw [if_neg (fun z => y z.2), if_neg y]; exact h.2.2.1 i
def endF (V : Nat → Int) (σ : pS) (a0 x : Int) (j : Nat) : Int → Int := updF (updF (updF (fun m => rd σ (a0 + m) x) 1 (V j)) 2 (V (j + 1))) 3 (V (j + 2))
theorem endQ.lB {K P V : Nat → Int} {c : Nat} {a0 x : Int} {j : Nat} {σ φ τ : pS} {r : Option pV} (ha : 141 ≤ a0) (f : cFr σ φ) (h : endQ K P V c a0 x j φ r τ) : r = some (0, b2i (decide (endsO K P V (nmF σ a0 (V j)) j = none))) ∧ lB K P V c a0 x σ (endsO K P V (nmF σ a0 (V j)) j) (j + 3) (endF V σ a0 x j) τ := by
  have en : nmF φ a0 (V j) = nmF σ a0 (V j) := nmF_eq (fun i => f.2 _ _ (by omega))
  obtain ⟨h1, h2, h3, h4, h5, h6⟩ := h
  rw [en] at h1 h2 h6
  refine ⟨h1, h2, ⟨h3.1.trans f.1, fun a i q1 q2 q3 => (h3.2 a i q1 q2 q3).trans (f.2 a i q1)⟩, fun i => (h4 i).trans (f.2 _ _ (by omega)), fun z m m0 m1 => ?_⟩
  obtain ⟨e1, e2, e3⟩ := h6 z
  unfold endF updF
  by_cases y3 : m = 3
  · rw [if_pos y3, y3]; exact e3
  · rw [if_neg y3]
    by_cases y2 : m = 2
    · rw [if_pos y2, y2]; exact e2
    · rw [if_neg y2]
      by_cases y1 : m = 1
      · rw [if_pos y1, y1]; exact e1
      · rw [if_neg y1]
        exact (h5 m (by omega) m1).trans (f.2 _ _ (by omega))
def liftF (K V : Nat → Int) (σ : pS) (a0 x : Int) (j : Nat) : Int → Int := updF (updF (updF (updF (updF (endF V σ a0 x (j + 1)) 4 (V (j + 5))) 5 (V (j + 7))) 6 (V (j + 9))) 7 (V (j + 11))) 8 (b2i (decide (K (j + 12) = 7)))
theorem readLift_C {K P V : Nat → Int} {c d j : Nat} {σ : pS} (hd : 3 ≤ d) (S : Stat σ) (R : tkR K V c) (H : cSt K P V c none j σ) (jc : j < c) {a0 x : Int} (ha : 141 ≤ a0) (I : Inst6 σ a0) (hx : 0 ≤ x ∧ x < 6) (hr : ∀ i : Nat, i < 17 → inL (rd σ (a0 + 1) (i : Int))) : pC mX6_readLift d [(2, a0), (2, 2), (0, x)] σ (wayQ K P V c a0 x σ (liftO K P V (nmF σ a0 (V (j + 1))) j) (lsc K j + 1) (liftF K V σ a0 x j) 0) := by
  by_cases z : endsO K P V (nmF σ a0 (V (j + 1))) (j + 1) = none
  · have e1 : liftO K P V (nmF σ a0 (V (j + 1))) j = oo (oo (oo (oo (numO K P V 3 1 30 (j + 4)) (numO K P V 4 1 99 (j + 6))) (numO K P V 5 0 480 (j + 8))) (numO K P V 6 (V (j + 9) + 1) 480 (j + 10))) (ck K P (decide (K (lsc K j) = 59)) 2 (lsc K j)) := by
      unfold liftO
      rw [z, oo_none, oo_assoc, oo_assoc, oo_assoc]
    refine g_X6_readLift_0 (Q1 := fun r τ => r = none ∧ cFr σ τ ∧ cSt K P V c none (j + 1) τ) (Q2 := fun r τ => r = some (0, 1) ∧ lB K P V c a0 x σ none (j + 4) (endF V σ a0 x (j + 1)) τ)
      (Q3 := fun r τ => ∃ v, r = some (0, v) ∧ lB K P V c a0 x σ (numO K P V 3 1 30 (j + 4)) (j + 6) (endF V σ a0 x (j + 1)) τ ∧ (numO K P V 3 1 30 (j + 4) = none → v = V (j + 5)) ∧ -1 ≤ v ∧ v ≤ 9999)
      (Q4 := fun r τ => ∃ v, r = some (0, v) ∧ lB K P V c a0 x σ (oo (numO K P V 3 1 30 (j + 4)) (numO K P V 4 1 99 (j + 6))) (j + 8) (updF (endF V σ a0 x (j + 1)) 4 (V (j + 5))) τ ∧ (oo (numO K P V 3 1 30 (j + 4)) (numO K P V 4 1 99 (j + 6)) = none → v = V (j + 7)) ∧ -1 ≤ v ∧ v ≤ 9999)
      (Q5 := fun r τ => ∃ v, r = some (0, v) ∧ lB K P V c a0 x σ (oo (oo (numO K P V 3 1 30 (j + 4)) (numO K P V 4 1 99 (j + 6))) (numO K P V 5 0 480 (j + 8))) (j + 10) (updF (updF (endF V σ a0 x (j + 1)) 4 (V (j + 5))) 5 (V (j + 7))) τ ∧ (oo (oo (numO K P V 3 1 30 (j + 4)) (numO K P V 4 1 99 (j + 6))) (numO K P V 5 0 480 (j + 8)) = none → v = V (j + 9)) ∧ -1 ≤ v ∧ v ≤ 9999)
      (Q6 := fun r τ => ∃ v, r = some (0, v) ∧ lB K P V c a0 x σ (oo (oo (oo (numO K P V 3 1 30 (j + 4)) (numO K P V 4 1 99 (j + 6))) (numO K P V 5 0 480 (j + 8))) (numO K P V 6 (V (j + 9) + 1) 480 (j + 10))) (j + 12) (updF (updF (updF (endF V σ a0 x (j + 1)) 4 (V (j + 5))) 5 (V (j + 7))) 6 (V (j + 9))) τ ∧ (oo (oo (oo (numO K P V 3 1 30 (j + 4)) (numO K P V 4 1 99 (j + 6))) (numO K P V 5 0 480 (j + 8))) (numO K P V 6 (V (j + 9) + 1) 480 (j + 10)) = none → v = V (j + 11)) ∧ -1 ≤ v ∧ v ≤ 9999)
      (Q7 := wayQ K P V c a0 x σ (liftO K P V (nmF σ a0 (V (j + 1))) j) (lsc K j + 1) (liftF K V σ a0 x j) 0)
      (Q8 := fun r τ => r = none ∧ lB K P V c a0 x σ (oo (oo (oo (numO K P V 3 1 30 (j + 4)) (numO K P V 4 1 99 (j + 6))) (numO K P V 5 0 480 (j + 8))) (numO K P V 6 (V (j + 9) + 1) 480 (j + 10))) (j + 13) (liftF K V σ a0 x j) τ ∧ (oo (oo (oo (numO K P V 3 1 30 (j + 4)) (numO K P V 4 1 99 (j + 6))) (numO K P V 5 0 480 (j + 8))) (numO K P V 6 (V (j + 9) + 1) 480 (j + 10)) = none → K (j + 12) = 7))
      (Q9 := wayQ K P V c a0 x σ (liftO K P V (nmF σ a0 (V (j + 1))) j) (lsc K j + 1) (liftF K V σ a0 x j) 0)
      hd S a0 x I (step_C S R H (fun _ => jc)) (fun τ1 _ q1 => ?_) (fun τ1 _ q1 v2 b2 τ2 _ q2 => by unfold inR; omega) (fun τ1 _ q1 v2 b2 τ2 _ q2 c1 => ?_) (fun τ1 _ q1 v2 b2 τ2 _ q2 c1 v3 τ3 _ q3 => by omega) (fun τ1 _ q1 v2 b2 τ2 _ q2 c1 v3 τ3 _ q3 => ?_) (fun τ1 _ q1 v2 b2 τ2 _ q2 c1 v3 τ3 _ q3 v4 τ4 _ q4 => hx) (fun τ1 _ q1 v2 b2 τ2 _ q2 c1 v3 τ3 _ q3 v4 τ4 _ q4 => ?_) (fun τ1 _ q1 v2 b2 τ2 _ q2 c1 v3 τ3 _ q3 v4 τ4 _ q4 v5 τ5 _ q5 => ?_) (fun τ1 _ q1 v2 b2 τ2 _ q2 c1 v3 τ3 _ q3 v4 τ4 _ q4 v5 τ5 _ q5 v6 τ6 _ q6 => ?_) (fun τ1 _ q1 v2 b2 τ2 _ q2 c1 v3 τ3 _ q3 v4 τ4 _ q4 v5 τ5 _ q5 v6 τ6 _ q6 => ?_) (fun τ1 _ q1 v2 b2 τ2 _ q2 c1 v3 τ3 _ q3 v4 τ4 _ q4 v5 τ5 _ q5 v6 τ6 _ q6 c3 => ?_) (fun τ1 _ q1 v2 b2 τ2 _ q2 c1 v3 τ3 _ q3 v4 τ4 _ q4 v5 τ5 _ q5 v6 τ6 _ q6 c3 v8 b8 τ8 _ q8 => q8) (fun τ1 _ q1 v2 b2 τ2 _ q2 c1 v3 τ3 _ q3 v4 τ4 _ q4 v5 τ5 _ q5 v6 τ6 _ q6 c4 => ?_) (fun τ1 _ q1 v2 b2 τ2 _ q2 c1 v3 τ3 _ q3 v4 τ4 _ q4 v5 τ5 _ q5 v6 τ6 _ q6 c4 τ9 _ q9 => ?_) (fun τ1 _ q1 v2 b2 τ2 _ q2 c1 v3 τ3 _ q3 v4 τ4 _ q4 v5 τ5 _ q5 v6 τ6 _ q6 c4 τ9 _ q9 v10 b10 τ10 _ q10 => q10) (fun τ1 _ q1 v2 b2 τ2 _ q2 c2 => ?_)
    · have I1 : Inst6 τ1 a0 := I.eq q1.2.1.1
      refine (readEnds_C (Nat.le_refl 1) (S.eq q1.2.1.1) R q1.2.2 ha I1 (by omega) (fun i hi => by rw [q1.2.1.2 _ _ (by omega)]; exact hr i hi)).mono fun r τ _ q => ?_
      have := endQ.lB ha q1.2.1 q
      rw [z] at this
      exact this
    · exact q2.2.num (Nat.le_refl 2) S R ha (by decide) (by decide) (by decide)
    · obtain ⟨v, e, b, ev, r0, r1⟩ := q3
      have e := so_inj e
      subst e
      exact (b.wr ha (m := 4) (by decide) ev).num (Nat.le_refl 2) S R ha (by decide) (by decide) (by decide)
    · obtain ⟨v, e, b, ev, r0, r1⟩ := q4
      have e := so_inj e
      subst e
      exact (b.wr ha (m := 5) (by decide) ev).num (Nat.le_refl 2) S R ha (by decide) (by decide) (by decide)
    · obtain ⟨v, e, b, ev, r0, r1⟩ := q5
      have e := so_inj e
      subst e
      have := (b.wr ha (m := 6) (by decide) ev).num (w := 6) (lo := v5 + 1) (hi := 480) (Nat.le_refl 2) S R ha (by decide) (by unfold inR; omega) (by decide)
      rw [oo_cg (b' := numO K P V 6 (V (j + 9) + 1) 480 (j + 10)) (fun y => by rw [ev y])] at this
      exact this
    · obtain ⟨v, e, b, ev, r0, r1⟩ := q6
      have e := so_inj e
      subst e
      have b7 := b.wr ha (m := 7) (by decide) ev
      exact kind_C (S.eq b7.2.1.1) R b7.1
    · obtain ⟨v, e, b, ev, r0, r1⟩ := q6
      have e := so_inj e
      subst e
      have b7 := b.wr ha (m := 7) (by decide) ev
      have := (b7.1.kind R).2; unfold inR; omega
    · obtain ⟨v, e, b, ev, r0, r1⟩ := q6
      have e := so_inj e
      subst e
      have b7 := b.wr ha (m := 7) (by decide) ev
      have kk := (b7.1.kind R).1
      refine wayQ.sc (Nat.le_refl 1) S R ha (Or.inl rfl) (b7.wr ha (m := 8) (v := 0) (w := b2i (decide (K (j + 12) = 7))) (by decide) (fun y => by rw [decide_eq_false (by rw [← (kk y).1]; exact c3)]; rfl)) (by rw [b.2.2.1]) ?_ ?_
      · rw [e1]
        refine oo_cg (fun y => ?_)
        have : lsc K j = j + 12 := if_neg (by rw [← (kk y).1]; exact c3)
        rw [this]
      · intro y
        rw [e1] at y
        have : lsc K j = j + 12 := if_neg (by rw [← (kk (oo_none_iff.mp y).1).1]; exact c3)
        rw [this]
    · obtain ⟨v, e, b, ev, r0, r1⟩ := q6
      have e := so_inj e
      subst e
      have b7 := b.wr ha (m := 7) (by decide) ev
      have kk := (b7.1.kind R).1
      have b8 := b7.wr ha (m := 8) (v := 1) (w := b2i (decide (K (j + 12) = 7))) (by decide) (fun y => by rw [decide_eq_true (by rw [← (kk y).1]; exact c4)]; rfl)
      refine (step_C (S.eq b8.2.1.1) R b8.1 (fun y => R.lt (kk y).2.2 (by rw [← (kk y).1, c4]; decide))).mono fun r τ _ q => ⟨q.1, b8.cf ha q.2.1 q.2.2 (fun y => y), fun y => by rw [← (kk y).1]; exact c4⟩
    · refine wayQ.sc (Nat.le_refl 1) S R ha (Or.inl rfl) q9.2.1 (by rw [q9.2.1.2.2.1]) ?_ ?_
      · rw [e1]
        refine oo_cg (fun y => ?_)
        have : lsc K j = j + 13 := if_pos (q9.2.2 y)
        rw [this]
      · intro y
        rw [e1] at y
        have : lsc K j = j + 13 := if_pos (q9.2.2 (oo_none_iff.mp y).1)
        rw [this]
    · exact absurd (so_inj q2.1) (by omega)
  · have e1 : liftO K P V (nmF σ a0 (V (j + 1))) j = endsO K P V (nmF σ a0 (V (j + 1))) (j + 1) := by
      unfold liftO
      cases h : endsO K P V (nmF σ a0 (V (j + 1))) (j + 1) with
      | none => exact absurd h z
      | some y => rfl
    rw [e1]
    refine g_X6_readLift_0 (Q1 := fun r τ => r = none ∧ cFr σ τ ∧ cSt K P V c none (j + 1) τ) (Q2 := fun r τ => r = some (0, 0) ∧ lB K P V c a0 x σ (endsO K P V (nmF σ a0 (V (j + 1))) (j + 1)) (j + 4) (endF V σ a0 x (j + 1)) τ) (Q3 := fun _ _ => True) (Q4 := fun _ _ => True) (Q5 := fun _ _ => True) (Q6 := fun _ _ => True) (Q7 := fun _ _ => True) (Q8 := fun _ _ => True) (Q9 := fun _ _ => True) hd S a0 x I (step_C S R H (fun _ => jc)) (fun τ1 _ q1 => ?_) (fun τ1 _ q1 v2 b2 τ2 _ q2 => by unfold inR; omega) (fun τ1 _ q1 v2 b2 τ2 _ q2 c1 => absurd (so_inj q2.1) c1) (fun τ1 _ q1 v2 b2 τ2 _ q2 c1 => absurd (so_inj q2.1) c1) (fun τ1 _ q1 v2 b2 τ2 _ q2 c1 => absurd (so_inj q2.1) c1) (fun τ1 _ q1 v2 b2 τ2 _ q2 c1 => absurd (so_inj q2.1) c1) (fun τ1 _ q1 v2 b2 τ2 _ q2 c1 => absurd (so_inj q2.1) c1) (fun τ1 _ q1 v2 b2 τ2 _ q2 c1 => absurd (so_inj q2.1) c1) (fun τ1 _ q1 v2 b2 τ2 _ q2 c1 => absurd (so_inj q2.1) c1) (fun τ1 _ q1 v2 b2 τ2 _ q2 c1 => absurd (so_inj q2.1) c1) (fun τ1 _ q1 v2 b2 τ2 _ q2 c1 => absurd (so_inj q2.1) c1) (fun τ1 _ q1 v2 b2 τ2 _ q2 c1 => absurd (so_inj q2.1) c1) (fun τ1 _ q1 v2 b2 τ2 _ q2 c1 => absurd (so_inj q2.1) c1) (fun τ1 _ q1 v2 b2 τ2 _ q2 c1 => absurd (so_inj q2.1) c1) (fun τ1 _ q1 v2 b2 τ2 _ q2 c1 => absurd (so_inj q2.1) c1) (fun τ1 _ q1 v2 b2 τ2 _ q2 c2 => ?_)
    · have I1 : Inst6 τ1 a0 := I.eq q1.2.1.1
      refine (readEnds_C (Nat.le_refl 1) (S.eq q1.2.1.1) R q1.2.2 ha I1 (by omega) (fun i hi => by rw [q1.2.1.2 _ _ (by omega)]; exact hr i hi)).mono fun r τ _ q => ?_
      have := endQ.lB ha q1.2.1 q
      rw [decide_eq_false z] at this
      exact this
    · exact ⟨by rw [decide_eq_false z]; rfl, q2.2.1.to rfl (fun e => absurd e z), q2.2.2.1, fun e => absurd e z⟩
