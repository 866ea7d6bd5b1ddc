/-! the class reads a line of a law -/
section LWM
variable {K P V : Nat → Int} {c : Nat} {l : Int} {m : Nat}
theorem LPI.no {y : Bool} {n : Nat} {q : lq} {σ τ : pS} (h : LPI K P V c l m y n σ q (some (0, 0)) τ) : ∃ x, eiF K P V y n 9 0 q = .inl x ∧ cSt K P V c (some x) 0 τ := by
  obtain ⟨f, τ5, z⟩ := h
  cases e : eiF K P V y n 9 0 q with
  | inl x => rw [e] at z; exact ⟨x, rfl, (z.2.1 x rfl).2.1⟩
  | inr q4 => rw [e] at z; have := z.v1; cases this
theorem LPI.yes {y : Bool} {n : Nat} {q : lq} {σ τ : pS} {v : Int} (h : LPI K P V c l m y n σ q (some (0, v)) τ) (hv : v ≠ 0) : ∃ q4, eiF K P V y n 9 0 q = .inr q4 := by
  obtain ⟨f, τ5, z⟩ := h
  cases e : eiF K P V y n 9 0 q with
  | inl x => rw [e] at z; exact absurd z.v0 hv
  | inr q4 => exact ⟨q4, rfl⟩
theorem LPJ.v {y : Bool} {n : Nat} {q q4 : lq} {σ τ : pS} {v : Int} (h : LPJ K P V c l m y n σ q (some (0, v)) τ) (e : eiF K P V y n 9 0 q = .inr q4) : FG l σ τ (updF (fun i => rd σ (l + 1) i) (b2i y) ((qB q).length : Int)) (updF (fun i => rd σ (l + 2) i) (b2i y) ((qB q4).length : Int)) ∧ (K (qJ q4) = 59 → v = 1 ∧ lwS K P V c l y (qNx q4) τ) ∧ (K (qJ q4) ≠ 59 → v = 0 ∧ cSt K P V c (some (flt K P 2 (qJ q4))) 0 τ) := by
  obtain ⟨f, τ5, z⟩ := h q4 e
  refine ⟨f, fun k => ?_, fun k => ?_⟩
  · rw [if_pos k] at z; exact ⟨z.v1, (z.2.2 _ rfl).2⟩
  · rw [if_neg k] at z; exact ⟨z.v0, (z.2.1 _ rfl).2.1⟩
def brF (K P V : Nat → Int) (c : Nat) (l : Int) (m n : Nat) (s : lst) (σ : pS) (y : Bool) : Prop :=
  (∀ τ, LPE K P V c l m y σ (qNx (qNx s.1)) (some (0, 0)) τ → llQ K P V c l (lnF K P V n s) σ (some (0, 0)) τ) ∧ (∀ v τ, LPE K P V c l m y σ (qNx (qNx s.1)) (some (0, v)) τ → v ≠ 0 → K (qJ s.1 + 2) = 11) ∧
  (K (qJ s.1 + 2) = 11 → (∀ τ w, LPI K P V c l m y n σ (qNx (qNx (qNx s.1))) (some (0, 0)) τ → llQ K P V c l (lnF K P V n s) σ (some (0, 0)) (wr τ (l + 2) (b2i y) w)) ∧
    ∀ v7 τ7, LPI K P V c l m y n σ (qNx (qNx (qNx s.1))) (some (0, v7)) τ7 → v7 ≠ 0 → (∀ τ, LPJ K P V c l m y n σ (qNx (qNx (qNx s.1))) (some (0, 0)) τ → llQ K P V c l (lnF K P V n s) σ (some (0, 0)) τ) ∧ ∀ v8 τ, LPJ K P V c l m y n σ (qNx (qNx (qNx s.1))) (some (0, v8)) τ → v8 ≠ 0 → llQ K P V c l (lnF K P V n s) σ (some (0, 1)) τ)
theorem br_fin {n : Nat} {y : Bool} {s : lst} {σ : pS} (hl : 141 ≤ l) (k10 : K (qJ s.1) = 10) (ky : y = decide (K (qJ s.1 + 1) = 1)) (k01 : K (qJ s.1 + 1) = 0 ∨ K (qJ s.1 + 1) = 1) (fy : s.2.1 y = none) (H : lcS K P V c l s σ) : brF K P V c l m n s σ y := by
  have L := line_fin (n := n) k10 ky k01 fy H
  refine ⟨fun τ h => ?_, fun v τ h hv => ?_, fun k11 => ⟨fun τ w h => ?_, fun v7 τ7 h7 hv7 => ⟨fun τ h => ?_, fun v8 τ h hv8 => ?_⟩⟩⟩
  · have z := h.v
    by_cases k : K (qJ s.1 + 2) = 11
    · have := (z.1 k).1; cases this
    · exact llQ.bad (L.1 k) h.1.g rfl (z.2 k).2
  · by_cases k : K (qJ s.1 + 2) = 11
    · exact k
    · exact absurd (h.v.2 k).1 hv
  · obtain ⟨x, e, cs⟩ := h.no
    exact llQ.bad ((L.2 k11).1 x e) h.1.w2.g rfl (cs.wr (by omega))
  · obtain ⟨q4, e⟩ := h7.yes hv7
    obtain ⟨f, z1, z2⟩ := h.v e
    by_cases k : K (qJ q4) = 59
    · have := (z1 k).1; cases this
    · exact llQ.bad (((L.2 k11).2 q4 e).1 k) f.g rfl (z2 k).2
  · obtain ⟨q4, e⟩ := h7.yes hv7
    obtain ⟨f, z1, z2⟩ := h.v e
    by_cases k : K (qJ q4) = 59
    · obtain ⟨s', e1, e2, e3⟩ := ((L.2 k11).2 q4 e).2 k
      refine ⟨f.g, fun x ex => ?_, fun s2 es => ?_⟩
      · rw [e1] at ex; cases ex
      · rw [e1] at es
        rw [← Sum.inr.inj es]
        exact ⟨rfl, e3 τ f (z1 k).2⟩
    · exact absurd (z2 k).1 hv8
theorem lawLine_C {d n : Nat} {s : lst} {σ : pS} (hd : 61 ≤ d) (S : Stat σ) (I : Inst2 σ l m) (R : tkR K V c) (hc : c ≤ 500) (hn : c < n) (hl : 141 ≤ l) (hm : c < m ∧ m < 100000) (hi : lwI s.1) (hf : ∀ y v, s.2.1 y = some v → v.2.1 ≤ 100000) (H : lcS K P V c l s σ) : pC mX2_readLine d [(2, l), (2, 2)] σ (llQ K P V c l (lnF K P V n s) σ) := by
  obtain ⟨⟨rn0, Hs⟩, Hf⟩ := id H
  obtain ⟨eK, jc, rK⟩ := Hs.k R
  have i1 := hi.nx
  have i2 := i1.nx
  have i3 := i2.nx
  have t1 : ∀ v τ, lwQ K P V c l m rn0 (if K (qJ s.1) = 10 then .inr (qNx s.1) else .inl (flt K P 2 (qJ s.1))) σ (some (0, v)) τ → v ≠ 0 → K (qJ s.1) = 10 ∧ lwS K P V c l rn0 (qNx s.1) τ ∧ FG l σ τ (fun i => rd σ (l + 1) i) (fun i => rd σ (l + 2) i) := fun v τ z hv => by
    by_cases k : K (qJ s.1) = 10
    · rw [if_pos k] at z
      exact ⟨k, (z.2.2 _ rfl).2, (FG.rf σ).lw hl z.1⟩
    · rw [if_neg k] at z; exact absurd z.v0 hv
  have rows : ∀ y : Bool, (rd σ (l + 1) (b2i y) = -1 → s.2.1 y = none) ∧ (rd σ (l + 1) (b2i y) ≠ -1 → s.2.1 y ≠ none) ∧ inR (rd σ (l + 1) (b2i y)) := fun y => by
    cases e : s.2.1 y with
    | none =>
      have := (Hf y).1 e
      refine ⟨fun _ => rfl, fun z => absurd this z, by rw [this]; decide⟩
    | some v =>
      have := ((Hf y).2 v e).1
      have b := hf y v e
      exact ⟨fun z => by omega, fun _ z => (by cases z), by unfold inR; omega⟩
  let QF : Option pV → pS → Prop := fun r τ => lgF l σ τ ∧ r = some (0, 0) ∧ cSt K P V c (some (flt K P 2 (qJ s.1 + 1))) 0 τ
  have fl : ∀ (y : Bool) (v : Int) (τ : pS), lwQ K P V c l m rn0 (if K (qJ s.1) = 10 then .inr (qNx s.1) else .inl (flt K P 2 (qJ s.1))) σ (some (0, v)) τ → v ≠ 0 → pC mX9_fail 0 [(2, 2), (0, 2)] (wr τ l 5 (b2i y)) QF := fun y v τ z hv => by
    obtain ⟨a1, a2, a3⟩ := t1 v τ z hv
    have f5 := a3.w5 (v := b2i y)
    exact (failQ (X := .inl (flt K P 2 (qJ (qNx s.1)))) (S.eq f5.1) R hl hm (lwF.rf l _) (a2.w5 hl) i1 (by decide) rfl).mono fun r υ _ w => ⟨(f5.lw hl w.1).g, (w.2.1 _ rfl).1, (w.2.1 _ rfl).2.1⟩
  have bd : (¬ (K (qJ s.1 + 1) = 0 ∨ K (qJ s.1 + 1) = 1) ∨ s.2.1 (decide (K (qJ s.1 + 1) = 1)) ≠ none) → K (qJ s.1) = 10 → ∀ τ v, QF (some (0, v)) τ → llQ K P V c l (lnF K P V n s) σ (some (0, v)) τ := fun z k τ v w => llQ.bad (by
    unfold lnF
    rw [if_neg (fun y => y k), if_pos z]) w.1 w.2.1 w.2.2
  have kd : ∀ v τ, lwQ K P V c l m rn0 (if K (qJ s.1) = 10 then .inr (qNx s.1) else .inl (flt K P 2 (qJ s.1))) σ (some (0, v)) τ → v ≠ 0 → vTkK τ = K (qJ s.1 + 1) ∧ inR (vTkK τ) ∧ vTkK (wr τ l 5 0) = K (qJ s.1 + 1) ∧ (∀ i, rd τ (l + 1) i = rd σ (l + 1) i) := fun v τ z hv => by
    obtain ⟨a1, a2, a3⟩ := t1 v τ z hv
    have b1 := a2.k R
    have b2 := (lwS.w5 (y := false) a2 hl).k R
    exact ⟨b1.1, b1.2.2, b2.1, a3.2.2.1⟩
  have br : ∀ (y : Bool) (v : Int) (τ : pS), lwQ K P V c l m rn0 (if K (qJ s.1) = 10 then .inr (qNx s.1) else .inl (flt K P 2 (qJ s.1))) σ (some (0, v)) τ → v ≠ 0 → K (qJ s.1 + 1) = b2i y → rd τ (l + 1) (b2i y) = -1 → brF K P V c l m n s σ y := fun y v τ z hv k f => by
    obtain ⟨a1, a2, a3⟩ := t1 v τ z hv
    rw [a3.2.2.1] at f
    refine br_fin hl a1 ?_ ?_ ((rows y).1 f) H
    · cases y
      · rw [k]; rfl
      · rw [k]; rfl
    · cases y
      · exact Or.inl k
      · exact Or.inr k
  have pS5 : ∀ (y : Bool) (v : Int) (τ : pS), lwQ K P V c l m rn0 (if K (qJ s.1) = 10 then .inr (qNx s.1) else .inl (flt K P 2 (qJ s.1))) σ (some (0, v)) τ → v ≠ 0 → K (qJ s.1 + 1) ≠ 21 → pC mX9_step 0 [(2, 2)] (wr τ l 5 (b2i y)) (LPS K P V c l y σ (qNx (qNx s.1))) := fun y v τ z hv k => by
    obtain ⟨a1, a2, a3⟩ := t1 v τ z hv
    exact lps_C S R hl a3.w5 (a2.w5 hl) k
  have pI : ∀ (y : Bool) (yi v6 w : Int) (τ6 : pS), yi = b2i y → brF K P V c l m n s σ y → LPE K P V c l m y σ (qNx (qNx s.1)) (some (0, v6)) τ6 → v6 ≠ 0 → w = rd τ6 l 2 → pC mX2_readEither (d - 1) [(2, l), (2, 2), (0, 0)] (wr τ6 (l + 1) yi w) (LPI K P V c l m y n σ (qNx (qNx (qNx s.1)))) := fun y yi v6 w τ6 e b z hv ew => by
    have k11 := b.2.1 v6 τ6 z hv
    exact lpi_C S I R hc hn (by omega) hl hm i3 e z.1 (z.v.1 k11).2 ew
  have pJ : ∀ (y : Bool) (yi v7 w : Int) (τ7 : pS), yi = b2i y → qJ s.1 + 3 ≤ c → LPI K P V c l m y n σ (qNx (qNx (qNx s.1))) (some (0, v7)) τ7 → v7 ≠ 0 → w = rd τ7 l 2 → pC mX9_expect 1 [(2, 2), (0, 59)] (wr τ7 (l + 2) yi w) (LPJ K P V c l m y n σ (qNx (qNx (qNx s.1)))) := fun y yi v7 w τ7 e hj z hv ew => by
    obtain ⟨q4, e4⟩ := z.yes hv
    exact lpj_C S R hl hm i3 hj e e4 z ew
  have j3 : K (qJ s.1) = 10 → (K (qJ s.1 + 1) = 0 ∨ K (qJ s.1 + 1) = 1) → K (qJ s.1 + 2) = 11 → qJ s.1 + 3 ≤ c := fun a b e => by
    have := R.lt jc (by omega)
    have := R.lt (i := qJ s.1 + 1) (by omega) (by omega)
    have := R.lt (i := qJ s.1 + 2) (by omega) (by omega)
    omega
  refine g_X2_readLine_0 (Q1 := lwQ K P V c l m rn0 (if K (qJ s.1) = 10 then .inr (qNx s.1) else .inl (flt K P 2 (qJ s.1))) σ) (Q2 := QF) (Q3 := LPS K P V c l false σ (qNx (qNx s.1))) (Q4 := LPE K P V c l m false σ (qNx (qNx s.1))) (Q5 := LPI K P V c l m false n σ (qNx (qNx (qNx s.1)))) (Q6 := LPJ K P V c l m false n σ (qNx (qNx (qNx s.1)))) (Q7 := QF) (Q8 := LPS K P V c l true σ (qNx (qNx s.1))) (Q9 := LPE K P V c l m true σ (qNx (qNx s.1))) (Q10 := LPI K P V c l m true n σ (qNx (qNx (qNx s.1)))) (Q11 := LPJ K P V c l m true n σ (qNx (qNx (qNx s.1)))) (Q12 := QF) hd S l I
    (expQ S R hl hm (lwF.rf l σ) Hs hi (by decide)) (fun v b _ _ _ => by unfold inR; omega)
    (fun v b τ e z c1 => kind_C (S.eq z.1.1) R (t1 v τ z c1).2.1.1) (fun v b τ e z c1 => (kd v τ z c1).2.1)
    (fun v b τ e z c1 c3 => kind_C (S.eq (t1 v τ z c1).2.2.1).wr R (lwS.w5 (y := false) (t1 v τ z c1).2.1 hl).1) (fun v b τ e z c1 c3 => by rw [(kd v τ z c1).2.2.1, ← (kd v τ z c1).1]; exact (kd v τ z c1).2.1)
    (fun v b τ e z c1 c3 c5 => fl false v τ z c1) (fun v b τ e z c1 c3 c5 v4 b4 τ4 e4 q4 => bd (Or.inl (by rw [← (kd v τ z c1).1]; rw [(kd v τ z c1).2.2.1, ← (kd v τ z c1).1] at c5; omega)) (t1 v τ z c1).1 τ4 v4 q4)
    (fun v b τ e z c1 c3 c6 => by rw [(kd v τ z c1).2.2.2]; exact (rows false).2.2)
    (fun v b τ e z c1 c3 c6 c7 => pS5 false v τ z c1 (by rw [(kd v τ z c1).2.2.1] at c6; omega))
    (fun v b τ e z c1 c3 c6 c7 τ5 e5 q5 => lpe_C S R hl hm i2 q5) (fun v b τ e z c1 c3 c6 c7 τ5 e5 q5 v6 b6 τ6 e6 q6 => by unfold inR; omega)
    (fun v b τ e z c1 c3 c6 c7 τ5 e5 q5 v6 b6 τ6 e6 q6 c9 => pI false 0 v6 _ τ6 rfl (br false v τ z c1 ((kd v τ z c1).2.2.1.symm.trans c6) c7) q6 c9 rfl) (fun v b τ e z c1 c3 c6 c7 τ5 e5 q5 v6 b6 τ6 e6 q6 c9 v7 b7 τ7 e7 q7 => by unfold inR; omega)
    (fun v b τ e z c1 c3 c6 c7 τ5 e5 q5 v6 b6 τ6 e6 q6 c9 v7 b7 τ7 e7 q7 c11 => ?_)
    (fun v b τ e z c1 c3 c6 c7 τ5 e5 q5 v6 b6 τ6 e6 q6 c9 v7 b7 τ7 e7 q7 c12 => pJ false 0 v7 _ τ7 rfl (j3 (t1 v τ z c1).1 (Or.inl ((kd v τ z c1).2.2.1.symm.trans c6)) ((br false v τ z c1 ((kd v τ z c1).2.2.1.symm.trans c6) c7).2.1 v6 τ6 q6 c9)) q7 c12 rfl) (fun v b τ e z c1 c3 c6 c7 τ5 e5 q5 v6 b6 τ6 e6 q6 c9 v7 b7 τ7 e7 q7 c12 v8 b8 τ8 e8 q8 => by unfold inR; omega)
    (fun v b τ e z c1 c3 c6 c7 τ5 e5 q5 v6 b6 τ6 e6 q6 c9 v7 b7 τ7 e7 q7 c12 v8 b8 τ8 e8 q8 c13 => ?_) (fun v b τ e z c1 c3 c6 c7 τ5 e5 q5 v6 b6 τ6 e6 q6 c9 v7 b7 τ7 e7 q7 c12 v8 b8 τ8 e8 q8 c14 => ?_)
    (fun v b τ e z c1 c3 c6 c7 τ5 e5 q5 v6 b6 τ6 e6 q6 c10 => ?_)
    (fun v b τ e z c1 c3 c6 c8 => fl false v τ z c1) (fun v b τ e z c1 c3 c6 c8 v9 b9 τ9 e9 q9 => bd (Or.inr ?_) (t1 v τ z c1).1 τ9 v9 q9)
    (fun v b τ e z c1 c4 => by rw [(kd v τ z c1).2.2.2]; exact (rows true).2.2)
    (fun v b τ e z c1 c4 c15 => pS5 true v τ z c1 (by rw [(kd v τ z c1).1] at c4; omega))
    (fun v b τ e z c1 c4 c15 τ5 e5 q5 => lpe_C S R hl hm i2 q5) (fun v b τ e z c1 c4 c15 τ5 e5 q5 v6 b6 τ6 e6 q6 => by unfold inR; omega)
    (fun v b τ e z c1 c4 c15 τ5 e5 q5 v6 b6 τ6 e6 q6 c9 => pI true 1 v6 _ τ6 rfl (br true v τ z c1 ((kd v τ z c1).1.symm.trans c4) c15) q6 c9 rfl) (fun v b τ e z c1 c4 c15 τ5 e5 q5 v6 b6 τ6 e6 q6 c9 v7 b7 τ7 e7 q7 => by unfold inR; omega)
    (fun v b τ e z c1 c4 c15 τ5 e5 q5 v6 b6 τ6 e6 q6 c9 v7 b7 τ7 e7 q7 c19 => ?_)
    (fun v b τ e z c1 c4 c15 τ5 e5 q5 v6 b6 τ6 e6 q6 c9 v7 b7 τ7 e7 q7 c20 => pJ true 1 v7 _ τ7 rfl (j3 (t1 v τ z c1).1 (Or.inr ((kd v τ z c1).1.symm.trans c4)) ((br true v τ z c1 ((kd v τ z c1).1.symm.trans c4) c15).2.1 v6 τ6 q6 c9)) q7 c20 rfl) (fun v b τ e z c1 c4 c15 τ5 e5 q5 v6 b6 τ6 e6 q6 c9 v7 b7 τ7 e7 q7 c20 v8 b8 τ8 e8 q8 => by unfold inR; omega)
    (fun v b τ e z c1 c4 c15 τ5 e5 q5 v6 b6 τ6 e6 q6 c9 v7 b7 τ7 e7 q7 c20 v8 b8 τ8 e8 q8 c21 => ?_) (fun v b τ e z c1 c4 c15 τ5 e5 q5 v6 b6 τ6 e6 q6 c9 v7 b7 τ7 e7 q7 c20 v8 b8 τ8 e8 q8 c22 => ?_)
    (fun v b τ e z c1 c4 c15 τ5 e5 q5 v6 b6 τ6 e6 q6 c10 => ?_)
    (fun v b τ e z c1 c4 c16 => fl true v τ z c1) (fun v b τ e z c1 c4 c16 v9 b9 τ9 e9 q9 => bd (Or.inr ?_) (t1 v τ z c1).1 τ9 v9 q9)
    (fun v b τ e z c2 => ?_)
  · have B := br false v τ z c1 ((kd v τ z c1).2.2.1.symm.trans c6) c7
    rw [c11] at q7
    exact (B.2.2 (B.2.1 v6 τ6 q6 c9)).1 τ7 _ q7
  · have B := br false v τ z c1 ((kd v τ z c1).2.2.1.symm.trans c6) c7
    rw [c13] at q8
    exact ((B.2.2 (B.2.1 v6 τ6 q6 c9)).2 v7 τ7 q7 c12).1 τ8 q8
  · have B := br false v τ z c1 ((kd v τ z c1).2.2.1.symm.trans c6) c7
    exact ((B.2.2 (B.2.1 v6 τ6 q6 c9)).2 v7 τ7 q7 c12).2 v8 τ8 q8 c14
  · have B := br false v τ z c1 ((kd v τ z c1).2.2.1.symm.trans c6) c7
    rw [c10] at q6
    exact B.1 τ6 q6
  · have k0 := (kd v τ z c1).2.2.1.symm.trans c6
    rw [decide_eq_false (by omega)]
    rw [(kd v τ z c1).2.2.2] at c8
    exact (rows false).2.1 c8
  · have B := br true v τ z c1 ((kd v τ z c1).1.symm.trans c4) c15
    rw [c19] at q7
    exact (B.2.2 (B.2.1 v6 τ6 q6 c9)).1 τ7 _ q7
  · have B := br true v τ z c1 ((kd v τ z c1).1.symm.trans c4) c15
    rw [c21] at q8
    exact ((B.2.2 (B.2.1 v6 τ6 q6 c9)).2 v7 τ7 q7 c20).1 τ8 q8
  · have B := br true v τ z c1 ((kd v τ z c1).1.symm.trans c4) c15
    exact ((B.2.2 (B.2.1 v6 τ6 q6 c9)).2 v7 τ7 q7 c20).2 v8 τ8 q8 c22
  · have B := br true v τ z c1 ((kd v τ z c1).1.symm.trans c4) c15
    rw [c10] at q6
    exact B.1 τ6 q6
  · have k1 := (kd v τ z c1).1.symm.trans c4
    rw [decide_eq_true k1]
    rw [(kd v τ z c1).2.2.2] at c16
    exact (rows true).2.1 c16
  · rw [c2] at z
    by_cases k : K (qJ s.1) = 10
    · rw [if_pos k] at z; have := z.v1; cases this
    · rw [if_neg k] at z
      exact llQ.bad (show lnF K P V n s = .inl (flt K P 2 (qJ s.1)) by unfold lnF; rw [if_pos k]) ((FG.rf σ).lw hl z.1).g rfl (z.2.1 _ rfl).2.1
end LWM
