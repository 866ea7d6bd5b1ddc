/-! the class reads units and sums of a law -/
def lwS (K P V : Nat → Int) (c : Nat) (l : Int) (rn : Bool) (q : lq) (τ : pS) : Prop := cSt K P V c none (qJ q) τ ∧ rd τ l 2 = ((qB q).length : Int) ∧ rd τ l 3 = (qU q : Int) ∧ rd τ l 5 = b2i rn ∧ ∀ (i : Nat) (p : Int × Int), (qB q)[i]? = some p → rd τ (l + 4) (i : Int) = lCode p.1 ∧ (p.1 = 0 → rd τ (l + 5) (i : Int) = p.2)
def lwF (l : Int) (σ τ : pS) : Prop := τ.1 = σ.1 ∧ ∀ a i : Int, ¬ (a = 2 ∧ 4 ≤ i ∧ i ≤ 6) → ¬ (a = l ∧ (i = 2 ∨ i = 3)) → a ≠ l + 4 → a ≠ l + 5 → rd τ a i = rd σ a i
theorem lwF.rf (l : Int) (σ : pS) : lwF l σ σ := ⟨rfl, fun _ _ _ _ _ _ => rfl⟩
theorem lwF.tr {l : Int} {σ τ υ : pS} (h : lwF l σ τ) (g : lwF l τ υ) : lwF l σ υ := ⟨g.1.trans h.1, fun a i q1 q2 q3 q4 => (g.2 a i q1 q2 q3 q4).trans (h.2 a i q1 q2 q3 q4)⟩
theorem cFr.lw {l : Int} {σ τ : pS} (h : cFr σ τ) : lwF l σ τ := ⟨h.1, fun a i q1 _ _ _ => h.2 a i q1⟩
theorem lwS.cf {K P V : Nat → Int} {c : Nat} {l : Int} {rn : Bool} {q q' : lq} {σ τ : pS} (h : lwS K P V c l rn q σ) (hl : 141 ≤ l) (f : cFr σ τ) (s : cSt K P V c none (qJ q') τ) (hU : qU q' = qU q) (hB : qB q' = qB q) : lwS K P V c l rn q' τ := by
  obtain ⟨h1, h2, h3, h4, h5⟩ := h
  refine ⟨s, ?_, ?_, ?_, fun i p e => ?_⟩
  · rw [f.2 _ _ (by omega), hB]; exact h2
  · rw [f.2 _ _ (by omega), hU]; exact h3
  · rw [f.2 _ _ (by omega)]; exact h4
  · rw [hB] at e
    rw [f.2 _ _ (by omega), f.2 _ _ (by omega)]
    exact h5 i p e
/-- what reading leaves -/
def lwQ (K P V : Nat → Int) (c : Nat) (l : Int) (m : Nat) (rn : Bool) (X : lR) (σ : pS) (r : Option pV) (τ : pS) : Prop := lwF l σ τ ∧ (∀ x : Int × Int, X = .inl x → r = some (0, 0) ∧ cSt K P V c (some x) 0 τ ∧ 0 ≤ rd τ l 2 ∧ rd τ l 2 ≤ (m : Int)) ∧ ∀ q' : lq, X = .inr q' → r = some (0, 1) ∧ lwS K P V c l rn q' τ
theorem lwQ.bad {K P V : Nat → Int} {c : Nat} {l : Int} {m : Nat} {rn : Bool} {x : Int × Int} {X : lR} {σ τ : pS} {r : Option pV} (e : X = .inl x) (f : lwF l σ τ) (hr : r = some (0, 0)) (s : cSt K P V c (some x) 0 τ) (b : 0 ≤ rd τ l 2 ∧ rd τ l 2 ≤ (m : Int)) : lwQ K P V c l m rn X σ r τ := by
  subst e
  refine ⟨f, fun y e => ?_, fun q e => (by cases e)⟩
  rw [← Sum.inl.inj e]; exact ⟨hr, s, b⟩
theorem lwQ.ok {K P V : Nat → Int} {c : Nat} {l : Int} {m : Nat} {rn : Bool} {q : lq} {X : lR} {σ τ : pS} {r : Option pV} (e : X = .inr q) (f : lwF l σ τ) (hr : r = some (0, 1)) (s : lwS K P V c l rn q τ) : lwQ K P V c l m rn X σ r τ := by
  subst e
  refine ⟨f, fun y e => (by cases e), fun q' e => ?_⟩
  rw [← Sum.inr.inj e]; exact ⟨hr, s⟩
theorem lwQ.tr {K P V : Nat → Int} {c : Nat} {l : Int} {m : Nat} {rn : Bool} {X : lR} {σ τ υ : pS} {r : Option pV} (f : lwF l σ τ) (h : lwQ K P V c l m rn X τ r υ) : lwQ K P V c l m rn X σ r υ := ⟨f.tr h.1, h.2⟩
theorem lcode_un : ∀ k : Int, isUn k = true → lCode (uCo k) = k ∧ (uCo k = 0 → k = 19) ∧ (k = 19 ∨ vWU k = true) := fun k h => by
  have h : k = 19 ∨ k = 15 ∨ k = 16 ∨ k = 17 ∨ k = 9 ∨ k = 8 ∨ k = 3 := of_decide_eq_true h
  rcases h with z | z | z | z | z | z | z <;> rw [z] <;> decide
theorem un_iff (k : Int) : isUn k = true ↔ (k = 19 ∨ vWU k = true) := by
  refine ⟨fun h => (lcode_un k h).2.2, fun h => ?_⟩
  rcases h with z | z
  · rw [z]; decide
  · have z : k = 15 ∨ k = 16 ∨ k = 17 ∨ k = 9 ∨ k = 8 ∨ k = 3 := of_decide_eq_true z
    rcases z with z | z | z | z | z | z <;> rw [z] <;> decide
/-- a step is put down -/
theorem lw_put {K P V : Nat → Int} {c d : Nat} {l : Int} {m : Nat} {rn : Bool} {q q' : lq} {φ : pS} {x y : Int} {p : Int × Int} (S : Stat φ) (hl : 141 ≤ l) (I : Inst2 φ l m) (h : lwS K P V c l rn q φ) (hm : (qB q).length < m ∧ m < 100000) (hx : x = lCode p.1) (hy : p.1 = 0 → y = p.2) (eJ : qJ q' = qJ q) (eU : qU q' = qU q) (eB : qB q' = qB q ++ [p]) : pC mX2_put d [(2, l), (0, x), (0, y)] φ (fun r τ => r = none ∧ lwF l φ τ ∧ lwS K P V c l rn q' τ) := by
  obtain ⟨h1, h2, h3, h4, h5⟩ := h
  refine g_X2_put_0 (Nat.zero_le d) S l x y I (by rw [h2]; unfold inR; omega) (by unfold inR; omega) (fun c1 => by rw [h2] at c1; omega) (fun _ => by rw [h2]; omega) (fun _ => ⟨rfl, ⟨rfl, fun a i q1 q2 q3 q4 => by rw [rd_wr_n (by omega), rd_wr_n (by omega), rd_wr_n (by omega)]⟩, ?_, ?_, ?_, ?_, fun i p' e => ?_⟩)
  · rw [eJ]; exact ((h1.wr (by omega)).wr (by omega)).wr (by omega)
  · rw [rd_wr_same, h2, eB]; simp only [List.length_append, List.length_cons, List.length_nil]; omega
  · rw [rd_wr_n (by omega), rd_wr_n (by omega), rd_wr_n (by omega), eU]; exact h3
  · rw [rd_wr_n (by omega), rd_wr_n (by omega), rd_wr_n (by omega)]; exact h4
  · rw [eB] at e
    rw [h2]
    by_cases z : i < (qB q).length
    · rw [List.getElem?_append_left z] at e
      rw [rd_wr_n (by omega), rd_wr_n (by omega), rd_wr_n (by omega), rd_wr_n (by omega), rd_wr_n (by omega), rd_wr_n (by omega)]
      exact h5 i p' e
    · rw [List.getElem?_append_right (by omega)] at e
      have ei : i = (qB q).length := by
        by_cases w : i - (qB q).length = 0
        · omega
        · rw [List.getElem?_eq_none (by simp; omega)] at e; cases e
      subst ei
      rw [Nat.sub_self] at e
      have ep : p = p' := Option.some.inj e
      rw [← ep]
      refine ⟨?_, fun z => ?_⟩
      · rw [rd_wr_n (by omega), rd_wr_n (by omega), rd_wr_same]; exact hx
      · rw [rd_wr_n (by omega), rd_wr_same]; exact hy z
/-- put, where a fault stands already -/
theorem bad_put {K P V : Nat → Int} {c d : Nat} {l : Int} {m : Nat} {x0 : Int × Int} {φ : pS} {x y : Int} (S : Stat φ) (hl : 141 ≤ l) (I : Inst2 φ l m) (hm : m < 100000) (h : cSt K P V c (some x0) 0 φ) (b : 0 ≤ rd φ l 2 ∧ rd φ l 2 ≤ (m : Int)) : pC mX2_put d [(2, l), (0, x), (0, y)] φ (fun r τ => r = none ∧ lwF l φ τ ∧ cSt K P V c (some x0) 0 τ ∧ 0 ≤ rd τ l 2 ∧ rd τ l 2 ≤ (m : Int)) := by
  refine g_X2_put_0 (Nat.zero_le d) S l x y I (by unfold inR; omega) (by unfold inR; omega) (fun c1 => ⟨rfl, lwF.rf l φ, h, b⟩) (fun _ => by omega) (fun c2 => ⟨rfl, ⟨rfl, fun a i q1 q2 q3 q4 => by rw [rd_wr_n (by omega), rd_wr_n (by omega), rd_wr_n (by omega)]⟩, ((h.wr (by omega)).wr (by omega)).wr (by omega), by rw [rd_wr_same]; omega, by rw [rd_wr_same]; omega⟩)
theorem lawUnit_C {K P V : Nat → Int} {c d : Nat} {l : Int} {m : Nat} {rn : Bool} {q : lq} {σ : pS} (hd : 1 ≤ d) (S : Stat σ) (R : tkR K V c) (hl : 141 ≤ l) (I : Inst2 σ l m) (hm : c < m ∧ m < 100000) (H : lwS K P V c l rn q σ) (hB : (qB q).length ≤ qJ q) (hU : qU q ≤ 40) : pC mX2_readUnit d [(2, l), (2, 2)] σ (lwQ K P V c l m rn (unF K P V rn q) σ) := by
  obtain ⟨h1, h2, h3, h4, h5⟩ := id H
  have kS := h1.kind R
  have eK := (kS.1 rfl).1
  have eV := (kS.1 rfl).2.1
  have jc := (kS.1 rfl).2.2
  have hlen : 0 ≤ rd σ l 2 ∧ rd σ l 2 ≤ (m : Int) := by rw [h2]; omega
  have kR := R.kR jc
  have fail : ∀ w : Int, 0 < w ∧ w < 100 → unF K P V rn q = .inl (flt K P w (qJ q)) → pC mX9_fail 0 [(2, 2), (0, w)] σ (lwQ K P V c l m rn (unF K P V rn q) σ) := fun w hw e =>
    (fail_C S R h1 hw 0).mono fun r τ _ z => lwQ.bad e z.2.1.lw z.1 z.2.2 (by rw [z.2.1.2 _ _ (by omega)]; exact hlen)
  have f2 : isUn (K (qJ q)) = false ∨ 40 ≤ qU q → unF K P V rn q = .inl (flt K P 2 (qJ q)) := fun z => if_pos z
  have f6 : isUn (K (qJ q)) = true → qU q < 40 → rn = false → K (qJ q) = 9 ∨ K (qJ q) = 8 → unF K P V rn q = .inl (flt K P 6 (qJ q)) := fun z1 z2 z3 z4 => (if_neg (fun y => by rcases y with y | y; rw [z1] at y; cases y; omega)).trans (if_pos ⟨z3, z4⟩)
  have ok : isUn (K (qJ q)) = true → qU q < 40 → ¬ (rn = false ∧ (K (qJ q) = 9 ∨ K (qJ q) = 8)) → unF K P V rn q = .inr (qJ q + 1, qU q + 1, qA q ++ [(uCo (K (qJ q)), uNum K V (qJ q))], qB q ++ [(uCo (K (qJ q)), uNum K V (qJ q))]) := fun z1 z2 z3 => (if_neg (fun y => by rcases y with y | y; rw [z1] at y; cases y; omega)).trans (if_neg z3)
  have φH : lwS K P V c l rn (qJ q, qU q + 1, qA q, qB q) (wr σ l 3 ((rd σ l 3) + 1)) := ⟨h1.wr (by omega), by rw [rd_wr_n (by omega)]; exact h2, by rw [rd_wr_same, h3]; rfl, by rw [rd_wr_n (by omega)]; exact h4, fun i p e => by rw [rd_wr_n (by omega), rd_wr_n (by omega)]; exact h5 i p e⟩
  have eV' : vTkV (wr σ l 3 ((rd σ l 3) + 1)) = V (qJ q) := ((φH.1.kind R).1 rfl).2.1
  have val : pC mX9_value 0 [(2, 2)] (wr σ l 3 ((rd σ l 3) + 1)) (fun r τ => r = some (1, (vTkV (wr σ l 3 ((rd σ l 3) + 1)))) ∧ τ = (wr σ l 3 ((rd σ l 3) + 1))) := value_C S.wr R φH.1
  have put : isUn (K (qJ q)) = true → pC mX2_put 0 [(2, l), (0, (vTkK σ)), (0, (vTkV (wr σ l 3 ((rd σ l 3) + 1))))] (wr σ l 3 ((rd σ l 3) + 1)) (fun r τ => r = none ∧ lwF l σ τ ∧ isUn (K (qJ q)) = true ∧ lwS K P V c l rn (qJ q, qU q + 1, qA q ++ [(uCo (K (qJ q)), uNum K V (qJ q))], qB q ++ [(uCo (K (qJ q)), uNum K V (qJ q))]) τ) := fun z => by
    have lc := lcode_un _ z
    refine (lw_put (p := (uCo (K (qJ q)), uNum K V (qJ q))) (q' := (qJ q, qU q + 1, qA q ++ [(uCo (K (qJ q)), uNum K V (qJ q))], qB q ++ [(uCo (K (qJ q)), uNum K V (qJ q))])) S.wr hl I.wr φH ⟨show (qB q).length < m by omega, hm.2⟩ (by rw [eK]; exact lc.1.symm) (fun y => ?_) rfl rfl rfl).mono fun r τ _ y => ⟨y.1, (show lwF l σ (wr σ l 3 ((rd σ l 3) + 1)) from ⟨rfl, fun a i y1 y2 y3 y4 => rd_wr_n (by omega)⟩).tr y.2.1, z, y.2.2⟩
    rw [eV']
    show V (qJ q) = uNum K V (qJ q)
    unfold uNum
    rw [if_pos (lc.2.1 y)]
  have stp : ∀ τ : pS, (lwF l σ τ ∧ isUn (K (qJ q)) = true ∧ lwS K P V c l rn (qJ q, qU q + 1, qA q ++ [(uCo (K (qJ q)), uNum K V (qJ q))], qB q ++ [(uCo (K (qJ q)), uNum K V (qJ q))]) τ) → pC mX9_step 0 [(2, 2)] τ (fun r υ => r = none ∧ lwF l σ υ ∧ lwS K P V c l rn (qJ q + 1, qU q + 1, qA q ++ [(uCo (K (qJ q)), uNum K V (qJ q))], qB q ++ [(uCo (K (qJ q)), uNum K V (qJ q))]) υ) := fun τ z => by
    have un : K (qJ q) = 19 ∨ K (qJ q) = 15 ∨ K (qJ q) = 16 ∨ K (qJ q) = 17 ∨ K (qJ q) = 9 ∨ K (qJ q) = 8 ∨ K (qJ q) = 3 := of_decide_eq_true z.2.1
    exact (step_C (S.eq z.1.1) R z.2.2.1 (fun _ => R.lt jc (by show K (qJ q) ≠ 21; omega))).mono fun r υ _ y => ⟨y.1, z.1.tr y.2.1.lw, z.2.2.cf hl y.2.1 y.2.2 rfl rfl⟩
  have u19 : vTkK σ = 19 → isUn (K (qJ q)) = true := fun z => (un_iff _).mpr (Or.inl (by rw [← eK]; exact z))
  have uwu : vWU (vTkK σ) = true → isUn (K (qJ q)) = true := fun z => (un_iff _).mpr (Or.inr (by rw [← eK]; exact z))
  have nun : vTkK σ ≠ 19 → vWU (vTkK σ) = false → isUn (K (qJ q)) = false := fun z1 z2 => by
    cases y : isUn (K (qJ q)) with
    | false => rfl
    | true =>
      rcases (un_iff _).mp y with w | w
      · exact absurd (eK.trans w) z1
      · rw [eK, w] at z2; cases z2
  have rnT : rd σ l 5 ≠ 0 → rn = true := fun z => by rw [h4] at z; exact b2i_n z
  have rnF : rd σ l 5 = 0 → rn = false := fun z => by rw [h4] at z; exact b2i_0 z
  have r5 : inR (rd σ l 5) := by rw [h4]; exact b2i_Ri _
  have r3 : inR (rd σ l 3) := by rw [h3]; unfold inR; omega
  have rK : inR (vTkK σ) := by rw [eK]; unfold inR; omega
  have lt : rd σ l 3 < 40 → qU q < 40 := fun z => by rw [h3] at z; omega
  have ge : 40 ≤ rd σ l 3 → 40 ≤ qU q := fun z => by rw [h3] at z; omega
  have fin : ∀ τ : pS, isUn (K (qJ q)) = true → qU q < 40 → ¬ (rn = false ∧ (K (qJ q) = 9 ∨ K (qJ q) = 8)) → lwF l σ τ ∧ lwS K P V c l rn (qJ q + 1, qU q + 1, qA q ++ [(uCo (K (qJ q)), uNum K V (qJ q))], qB q ++ [(uCo (K (qJ q)), uNum K V (qJ q))]) τ → lwQ K P V c l m rn (unF K P V rn q) σ (some (0, 1)) τ := fun τ z1 z2 z3 z => lwQ.ok (ok z1 z2 z3) z.1 rfl z.2
  have cT : rd σ l 5 ≠ 0 → ¬ (rn = false ∧ (K (qJ q) = 9 ∨ K (qJ q) = 8)) := fun z y => by rw [rnT z] at y; cases y.1
  have cN : vTkK σ ≠ 9 → vTkK σ ≠ 8 → ¬ (rn = false ∧ (K (qJ q) = 9 ∨ K (qJ q) = 8)) := fun z1 z2 y => by
    rcases y.2 with x | x
    · exact z1 (eK.trans x)
    · exact z2 (eK.trans x)
  let PU : Option pV → pS → Prop := fun r τ => r = none ∧ lwF l σ τ ∧ isUn (K (qJ q)) = true ∧ lwS K P V c l rn (qJ q, qU q + 1, qA q ++ [(uCo (K (qJ q)), uNum K V (qJ q))], qB q ++ [(uCo (K (qJ q)), uNum K V (qJ q))]) τ
  let PS : Option pV → pS → Prop := fun r τ => r = none ∧ lwF l σ τ ∧ lwS K P V c l rn (qJ q + 1, qU q + 1, qA q ++ [(uCo (K (qJ q)), uNum K V (qJ q))], qB q ++ [(uCo (K (qJ q)), uNum K V (qJ q))]) τ
  let PF : Option pV → pS → Prop := lwQ K P V c l m rn (unF K P V rn q) σ
  refine g_X2_readUnit_0 (Q1 := PU) (Q2 := PS) (Q3 := PF) (Q4 := PU) (Q5 := PS) (Q6 := PF) (Q7 := PF) (Q8 := PF) (Q9 := PU) (Q10 := PS) (Q11 := PF) (Q12 := PU) (Q13 := PS) (Q14 := PF) (Q15 := PF) hd S l I (kind_C S R h1) rK (fun _ => r3) (fun _ _ => r5)
    (fun _ _ _ => val) (fun c1 _ _ => put (u19 c1)) (fun _ _ _ τ _ q3 => stp τ q3.2) (fun c1 c3 c5 _ _ _ τ _ q4 => fin τ (u19 c1) (lt c3) (cT c5) q4.2)
    (fun c1 c3 c6 c7 => fail 6 (by decide) (f6 (u19 c1) (lt c3) (rnF c6) (Or.inl (eK.symm.trans c7)))) (fun _ _ _ _ _ _ _ _ q5 => q5)
    (fun _ _ _ _ _ => val) (fun c1 _ _ _ _ => put (u19 c1)) (fun _ _ _ _ _ τ _ q3 => stp τ q3.2) (fun c1 c3 _ c8 c9 _ _ _ τ _ q4 => fin τ (u19 c1) (lt c3) (cN c8 c9) q4.2)
    (fun c1 c3 c6 _ c10 => fail 6 (by decide) (f6 (u19 c1) (lt c3) (rnF c6) (Or.inr (eK.symm.trans c10)))) (fun _ _ _ _ _ _ _ _ _ q5 => q5)
    (fun _ c4 => fail 2 (by decide) (f2 (Or.inr (ge c4)))) (fun _ _ _ _ _ _ q5 => q5)
    (fun _ => isWordUnit_C S rK) (fun c2 c11 => fail 2 (by decide) (f2 (Or.inl (nun c2 c11)))) (fun _ _ _ _ _ _ q5 => q5)
    (fun _ _ => r3) (fun _ _ _ => r5)
    (fun _ _ _ _ => val) (fun _ c12 _ _ => put (uwu c12)) (fun _ _ _ _ τ _ q3 => stp τ q3.2) (fun _ c12 c13 c15 _ _ _ τ _ q4 => fin τ (uwu c12) (lt c13) (cT c15) q4.2)
    (fun _ c12 c13 c16 c17 => fail 6 (by decide) (f6 (uwu c12) (lt c13) (rnF c16) (Or.inl (eK.symm.trans c17)))) (fun _ _ _ _ _ _ _ _ _ q5 => q5)
    (fun _ _ _ _ _ _ => val) (fun _ c12 _ _ _ _ => put (uwu c12)) (fun _ _ _ _ _ _ τ _ q3 => stp τ q3.2) (fun _ c12 c13 _ c18 c19 _ _ _ τ _ q4 => fin τ (uwu c12) (lt c13) (cN c18 c19) q4.2)
    (fun _ c12 c13 c16 _ c20 => fail 6 (by decide) (f6 (uwu c12) (lt c13) (rnF c16) (Or.inr (eK.symm.trans c20)))) (fun _ _ _ _ _ _ _ _ _ _ q5 => q5)
    (fun _ _ c14 => fail 2 (by decide) (f2 (Or.inr (ge c14)))) (fun _ _ _ _ _ _ _ q5 => q5)
