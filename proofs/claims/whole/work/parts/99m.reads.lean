/-! the class reads runs, home -/
def runF (V : Nat → Int) (σ : pS) (a0 x : Int) (j : Nat) : Int → Int := updF (updF (updF (updF (endF V σ a0 x (j + 1)) 9 (V (j + 5))) 4 (V (j + 7))) 10 (V (j + 9))) 7 480
theorem readRun_C {K P V : Nat → Int} {c d j : Nat} {σ : pS} (hd : 3 ≤ d) (S : Stat σ) (R : tkR K V c) (H : cSt K P V c none j σ) (jc : j < c) {a0 x : Int} (ha : 141 ≤ a0) (I : Inst6 σ a0) (hx : 0 ≤ x ∧ x < 17) (hr : ∀ i : Nat, i < 17 → inL (rd σ (a0 + 1) (i : Int))) : pC mX6_readRun d [(2, a0), (2, 2), (0, x)] σ (wayQ K P V c a0 x σ (runO K P V (nmF σ a0 (V (j + 1))) j) (j + 11) (runF V σ a0 x j) 1) := by
  by_cases z : endsO K P V (nmF σ a0 (V (j + 1))) (j + 1) = none
  · have e1 : runO K P V (nmF σ a0 (V (j + 1))) j = oo (oo (oo (numO K P V 8 0 3 (j + 4)) (numO K P V 3 1 60 (j + 6))) (numO K P V 9 0 300 (j + 8))) (ck K P (decide (K (j + 10) = 59)) 2 (j + 10)) := by
      unfold runO
      rw [z, oo_none, oo_assoc, oo_assoc]
    refine g_X6_readRun_0 (Q1 := fun r τ => r = none ∧ cFr σ τ ∧ cSt K P V c none (j + 1) τ) (Q2 := fun r τ => r = some (0, 1) ∧ lB K P V c a0 x σ none (j + 4) (endF V σ a0 x (j + 1)) τ)
      (Q3 := fun r τ => ∃ v, r = some (0, v) ∧ lB K P V c a0 x σ (numO K P V 8 0 3 (j + 4)) (j + 6) (endF V σ a0 x (j + 1)) τ ∧ (numO K P V 8 0 3 (j + 4) = none → v = V (j + 5)) ∧ -1 ≤ v ∧ v ≤ 9999)
      (Q4 := fun r τ => ∃ v, r = some (0, v) ∧ lB K P V c a0 x σ (oo (numO K P V 8 0 3 (j + 4)) (numO K P V 3 1 60 (j + 6))) (j + 8) (updF (endF V σ a0 x (j + 1)) 9 (V (j + 5))) τ ∧ (oo (numO K P V 8 0 3 (j + 4)) (numO K P V 3 1 60 (j + 6)) = none → v = V (j + 7)) ∧ -1 ≤ v ∧ v ≤ 9999)
      (Q5 := fun r τ => ∃ v, r = some (0, v) ∧ lB K P V c a0 x σ (oo (oo (numO K P V 8 0 3 (j + 4)) (numO K P V 3 1 60 (j + 6))) (numO K P V 9 0 300 (j + 8))) (j + 10) (updF (updF (endF V σ a0 x (j + 1)) 9 (V (j + 5))) 4 (V (j + 7))) τ ∧ (oo (oo (numO K P V 8 0 3 (j + 4)) (numO K P V 3 1 60 (j + 6))) (numO K P V 9 0 300 (j + 8)) = none → v = V (j + 9)) ∧ -1 ≤ v ∧ v ≤ 9999)
      (Q6 := wayQ K P V c a0 x σ (runO K P V (nmF σ a0 (V (j + 1))) j) (j + 11) (runF V σ a0 x j) 1)
      hd S a0 x I (step_C S R H (fun _ => jc)) (fun τ1 _ q1 => ?_) (fun τ1 _ q1 v2 b2 τ2 _ q2 => by unfold inR; omega) (fun τ1 _ q1 v2 b2 τ2 _ q2 c1 => ?_) (fun τ1 _ q1 v2 b2 τ2 _ q2 c1 v3 τ3 _ q3 => by omega) (fun τ1 _ q1 v2 b2 τ2 _ q2 c1 v3 τ3 _ q3 => ?_) (fun τ1 _ q1 v2 b2 τ2 _ q2 c1 v3 τ3 _ q3 v4 τ4 _ q4 => ?_) (fun τ1 _ q1 v2 b2 τ2 _ q2 c1 v3 τ3 _ q3 v4 τ4 _ q4 v5 τ5 _ q5 => ?_) (fun τ1 _ q1 v2 b2 τ2 _ q2 c1 v3 τ3 _ q3 v4 τ4 _ q4 v5 τ5 _ q5 v6 b6 τ6 _ q6 => q6) (fun τ1 _ q1 v2 b2 τ2 _ q2 c2 => ?_)
    · have I1 : Inst6 τ1 a0 := I.eq q1.2.1.1
      refine (readEnds_C (Nat.le_refl 1) (S.eq q1.2.1.1) R q1.2.2 ha I1 hx (fun i hi => by rw [q1.2.1.2 _ _ (by omega)]; exact hr i hi)).mono fun r τ _ q => ?_
      have := endQ.lB ha q1.2.1 q
      rw [z] at this
      exact this
    · exact q2.2.num (Nat.le_refl 2) S R ha (by decide) (by decide) (by decide)
    · obtain ⟨v, e, b, ev, r0, r1⟩ := q3
      have e := so_inj e
      subst e
      exact (b.wr ha (m := 9) (by decide) ev).num (Nat.le_refl 2) S R ha (by decide) (by decide) (by decide)
    · obtain ⟨v, e, b, ev, r0, r1⟩ := q4
      have e := so_inj e
      subst e
      exact (b.wr ha (m := 4) (by decide) ev).num (Nat.le_refl 2) S R ha (by decide) (by decide) (by decide)
    · obtain ⟨v, e, b, ev, r0, r1⟩ := q5
      have e := so_inj e
      subst e
      refine wayQ.sc (Nat.le_refl 1) S R ha (Or.inr rfl) ((b.wr ha (m := 10) (by decide) ev).wr ha (m := 7) (v := 480) (w := 480) (by decide) (fun _ => rfl)) (by rw [b.2.2.1]) ?_ (fun _ => rfl)
      rw [e1]
    · exact absurd (so_inj q2.1) (by omega)
  · have e1 : runO K P V (nmF σ a0 (V (j + 1))) j = endsO K P V (nmF σ a0 (V (j + 1))) (j + 1) := by
      unfold runO
      cases h : endsO K P V (nmF σ a0 (V (j + 1))) (j + 1) with
      | none => exact absurd h z
      | some y => rfl
    rw [e1]
    refine g_X6_readRun_0 (Q1 := fun r τ => r = none ∧ cFr σ τ ∧ cSt K P V c none (j + 1) τ) (Q2 := fun r τ => r = some (0, 0) ∧ lB K P V c a0 x σ (endsO K P V (nmF σ a0 (V (j + 1))) (j + 1)) (j + 4) (endF V σ a0 x (j + 1)) τ) (Q3 := fun _ _ => True) (Q4 := fun _ _ => True) (Q5 := fun _ _ => True) (Q6 := fun _ _ => True) hd S a0 x I (step_C S R H (fun _ => jc)) (fun τ1 _ q1 => ?_) (fun τ1 _ q1 v2 b2 τ2 _ q2 => by unfold inR; omega) (fun τ1 _ q1 v2 b2 τ2 _ q2 c1 => absurd (so_inj q2.1) c1) (fun τ1 _ q1 v2 b2 τ2 _ q2 c1 => absurd (so_inj q2.1) c1) (fun τ1 _ q1 v2 b2 τ2 _ q2 c1 => absurd (so_inj q2.1) c1) (fun τ1 _ q1 v2 b2 τ2 _ q2 c1 => absurd (so_inj q2.1) c1) (fun τ1 _ q1 v2 b2 τ2 _ q2 c1 => absurd (so_inj q2.1) c1) (fun τ1 _ q1 v2 b2 τ2 _ q2 c1 => absurd (so_inj q2.1) c1) (fun τ1 _ q1 v2 b2 τ2 _ q2 c2 => ?_)
    · have I1 : Inst6 τ1 a0 := I.eq q1.2.1.1
      refine (readEnds_C (Nat.le_refl 1) (S.eq q1.2.1.1) R q1.2.2 ha I1 hx (fun i hi => by rw [q1.2.1.2 _ _ (by omega)]; exact hr i hi)).mono fun r τ _ q => ?_
      have := endQ.lB ha q1.2.1 q
      rw [decide_eq_false z] at this
      exact this
    · exact ⟨by rw [decide_eq_false z]; rfl, q2.2.1.to rfl (fun e => absurd e z), q2.2.2.1, fun e => absurd e z⟩
def homeQ (K P V : Nat → Int) (c : Nat) (a0 : Int) (j : Nat) (σ : pS) (r : Option pV) (τ : pS) : Prop := r = some (0, b2i (decide (homeO K P j = none))) ∧ cSt K P V c (homeO K P j) (j + 3) τ ∧ (τ.1 = σ.1 ∧ ∀ a i : Int, ¬ (a = 2 ∧ 4 ≤ i ∧ i ≤ 6) → ¬ (a = a0 ∧ (i = 3 ∨ i = 4)) → rd τ a i = rd σ a i) ∧ (homeO K P j = none → rd τ a0 3 = V (j + 1) ∧ rd τ a0 4 = 1)
theorem readHome_C {K P V : Nat → Int} {c d j : Nat} {σ : pS} (hd : 2 ≤ d) (S : Stat σ) (R : tkR K V c) (H : cSt K P V c none j σ) (jc : j < c) {a0 : Int} (ha : 141 ≤ a0) (I : Inst6 σ a0) : pC mX6_readHome d [(2, a0), (2, 2)] σ (homeQ K P V c a0 j σ) := by
  refine g_X6_readHome_0 (Q1 := fun r τ => r = none ∧ cFr σ τ ∧ cSt K P V c none (j + 1) τ) (Q2 := fun r τ => r = none ∧ K (j + 1) = 20 ∧ cSt K P V c none (j + 2) τ ∧ (τ.1 = σ.1 ∧ ∀ a i : Int, ¬ (a = 2 ∧ 4 ≤ i ∧ i ≤ 6) → ¬ (a = a0 ∧ (i = 3 ∨ i = 4)) → rd τ a i = rd σ a i) ∧ rd τ a0 3 = V (j + 1) ∧ rd τ a0 4 = 1) (Q3 := homeQ K P V c a0 j σ) (Q4 := homeQ K P V c a0 j σ) hd S a0 I (step_C S R H (fun _ => jc)) (fun τ1 _ q1 => kind_C (S.eq q1.2.1.1) R q1.2.2) (fun τ1 _ q1 => by have := (q1.2.2.kind R).2; unfold inR; omega) (fun τ1 _ q1 _ => value_C (S.eq q1.2.1.1) R q1.2.2) (fun τ1 _ q1 c1 => ?_) (fun τ1 _ q1 c1 τ4 _ q4 => ?_) (fun τ1 _ q1 c1 τ4 _ q4 v5 _ τ5 _ q5 => q5) (fun τ1 _ q1 c2 => ?_) (fun τ1 _ q1 c2 v6 _ τ6 _ q6 => q6)
  · have kk := (q1.2.2.kind R).1 rfl
    refine (step_C (S.eq q1.2.1.1).wr.wr R ((q1.2.2.wr (by omega)).wr (by omega)) (fun _ => R.lt kk.2.2 (by omega))).mono fun r τ _ q => ⟨q.1, by omega, q.2.2, ⟨q.2.1.1.trans q1.2.1.1, fun a i y1 y2 => ?_⟩, ?_, ?_⟩
    · rw [q.2.1.2 _ _ y1, rd_wr_n (by omega), rd_wr_n (by omega)]; exact q1.2.1.2 _ _ y1
    · rw [q.2.1.2 _ _ (by omega), rd_wr_n (by omega), rd_wr_same]; exact kk.2.1
    · rw [q.2.1.2 _ _ (by omega), rd_wr_same]
  · have e : oo none (ck K P (decide (K (j + 2) = 59)) 2 (j + 2)) = homeO K P j := by
      unfold homeO
      rw [ck_t (decide_eq_true q4.2.1)]
    refine (expect_C (Nat.le_refl 1) (S.eq q4.2.2.2.1.1) R q4.2.2.1 (k := 59) (by decide)).mono fun r τ _ q => ?_
    rw [e] at q
    exact ⟨q.1, q.2.2, ⟨q.2.1.1.trans q4.2.2.2.1.1, fun a i y1 y2 => (q.2.1.2 a i y1).trans (q4.2.2.2.1.2 a i y1 y2)⟩, fun _ => ⟨(q.2.1.2 _ _ (by omega)).trans q4.2.2.2.2.1, (q.2.1.2 _ _ (by omega)).trans q4.2.2.2.2.2⟩⟩
  · have kk := (q1.2.2.kind R).1 rfl
    have e : oo none (some (if K (j + 1) = 22 then 1 else 2, P (j + 1))) = homeO K P j := by
      unfold homeO
      rw [ck_f (decide_eq_false (by omega))]; rfl
    have ne : homeO K P j ≠ none := by rw [← e]; exact fun y => (by cases y)
    refine (fail_C (S.eq q1.2.1.1) R q1.2.2 (w := 2) (by decide) (j + 3)).mono fun r τ _ q => ?_
    rw [e] at q
    exact ⟨by rw [q.1, decide_eq_false ne]; rfl, q.2.2, ⟨q.2.1.1.trans q1.2.1.1, fun a i y1 _ => (q.2.1.2 a i y1).trans (q1.2.1.2 a i y1)⟩, fun y => absurd y ne⟩
