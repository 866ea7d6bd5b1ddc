/-! the class's minutes between places, and what is above -/
def inFr (f : Int → Int) : Int → Int := fun k => f (vOuter k)
theorem between_C {d : Nat} {σ : pS} (hd : 2 ≤ d) (S : Stat σ) {M : Int} (hM : rd σ 61 6 = M) (hm : M = 6 ∨ 141 ≤ M) (I : Inst6 σ M) (hl : 0 ≤ rd σ M 0 ∧ rd σ M 0 ≤ 6) (hr : 0 ≤ rd σ M 1 ∧ rd σ M 1 ≤ 7) (Y : fwY (vWay (rd σ M 0) (rd σ M 1)) (inFr (rd σ (M + 2))) (inFr (rd σ (M + 3))) (inFr (rd σ (M + 4)))) : pC mX7_findBetween d [(2, 61)] σ (fun r τ => r = none ∧ hol 63 σ (fwS (fwW (vWay (rd σ M 0) (rd σ M 1)) (inFr (rd σ (M + 2))) (inFr (rd σ (M + 3))) (inFr (rd σ (M + 4))) 13) 1000) τ) := by
  obtain ⟨W, hW⟩ : ∃ W, W = fwW (vWay (rd σ M 0) (rd σ M 1)) (inFr (rd σ (M + 2))) (inFr (rd σ (M + 3))) (inFr (rd σ (M + 4))) := ⟨_, rfl⟩
  rw [← hW]
  have WR : ∀ k : Nat, k ≤ 13 → fwR (W k) := by rw [hW]; exact fwW_R Y
  have SR := fwS_R (WR 13 (Nat.le_refl _))
  have inner : ∀ (o : Nat), o < 10 → (∀ (τ : pS) (u3 : pV), u3.1 ≠ 1 → hol 63 σ (fwS (W 13) (100 * (o + 1))) τ → pR mX7_findBetween d 114 [(2, 61), (0, ((o : Int) + 1)), (0, 100), u3] [] τ (fun r τ => r = none ∧ hol 63 σ (fwS (W 13) 1000) τ)) → ∀ (m i : Nat) (τ : pS) (u3 : pV), u3.1 ≠ 1 → i + m = 100 → hol 63 σ (fwS (W 13) (100 * o + i)) τ → pR mX7_findBetween d 122 [(2, 61), (0, (o : Int)), (0, (i : Int)), u3] [] τ (fun r τ => r = none ∧ hol 63 σ (fwS (W 13) 1000) τ) := fun o ho go m => by
    induction m with
    | zero =>
      intro i τ u3 hu hi h
      have ei : i = 100 := by omega
      subst ei
      exact g_X7_findBetween_122 hd (S.eq h.1) (o : Int) 100 u3 hu (by decide) (fun _ => go τ u3 hu h) (fun c => by omega) (fun c => by omega) (fun c => by omega) (fun c => by omega) (fun c => by omega) (fun c => by omega) (fun c => by omega)
    | succ m ih =>
      intro i τ u3 hu hi h
      have ex : (i : Int) + 1 = ((i + 1 : Nat) : Int) := by omega
      have r1 := SR (100 * o + i) (by omega) i (by omega)
      have r2 := SR (100 * o + i) (by omega) (10 * (i / 10) + o) (by omega)
      have r3 := SR (100 * o + i) (by omega) (10 * o + i % 10) (by omega)
      rw [← h.2.2 _ (by omega)] at r1
      rw [← h.2.2 _ (by omega), show ((10 * (i / 10) + o : Nat) : Int) = (i : Int) / 10 * 10 + (o : Int) by omega] at r2
      rw [← h.2.2 _ (by omega), show ((10 * o + i % 10 : Nat) : Int) = (o : Int) * 10 + (i : Int) % 10 by omega] at r3
      have e : fwS (W 13) (100 * o + (i + 1)) = updF (fwS (W 13) (100 * o + i)) (i : Int) (min (rd τ 63 (i : Int)) (rd τ 63 ((i : Int) / 10 * 10 + (o : Int)) + rd τ 63 ((o : Int) * 10 + (i : Int) % 10))) := by
        show fwG (fwS (W 13) (100 * o + i)) (100 * o + i) = _
        unfold fwG
        rw [show (100 * o + i) % 100 = i by omega, show (100 * o + i) / 100 = o by omega, show (100 * o + i) % 10 = i % 10 by omega, h.2.2 i (by omega), h.at (i := (i : Int) / 10 * 10 + (o : Int)) (by omega) (by omega), h.at (i := (o : Int) * 10 + (i : Int) % 10) (by omega) (by omega), show ((10 * (i / 10) + o : Nat) : Int) = (i : Int) / 10 * 10 + (o : Int) by omega, show ((10 * o + i % 10 : Nat) : Int) = (o : Int) * 10 + (i : Int) % 10 by omega]
      refine g_X7_findBetween_122 hd (S.eq h.1) (o : Int) (i : Int) u3 hu (by unfold inR; omega) (fun c => by omega) (fun _ => by omega) (fun _ => by omega) (fun _ => by omega) (fun _ => by omega) (fun _ => by unfold inR; omega) (fun _ => by unfold inR; omega) (fun _ => ?_)
      rw [ex]
      refine ih (i + 1) _ _ (show (0 : Nat) ≠ 1 by decide) (by omega) ?_
      rw [e]
      exact h.put _ _
  have outer : ∀ (m o : Nat) (τ : pS) (u2 u3 : pV), u2.1 ≠ 1 → u3.1 ≠ 1 → o + m = 10 → hol 63 σ (fwS (W 13) (100 * o)) τ → pR mX7_findBetween d 114 [(2, 61), (0, (o : Int)), u2, u3] [] τ (fun r τ => r = none ∧ hol 63 σ (fwS (W 13) 1000) τ) := fun m => by
    induction m with
    | zero =>
      intro o τ u2 u3 hu2 hu3 ho h
      have eo : o = 10 := by omega
      subst eo
      exact g_X7_findBetween_114 hd (S.eq h.1) 10 u2 u3 hu2 hu3 (by decide) (fun _ => ⟨rfl, h⟩) (fun c => by omega)
    | succ m ih =>
      intro o τ u2 u3 hu2 hu3 ho h
      have ex : (o : Int) + 1 = ((o + 1 : Nat) : Int) := by omega
      exact g_X7_findBetween_114 hd (S.eq h.1) (o : Int) u2 u3 hu2 hu3 (by unfold inR; omega) (fun c => by omega) (fun _ => inner o (by omega) (fun τ' u3' hu' h' => by rw [ex]; exact ih (o + 1) τ' (0, 100) u3' (show (0 : Nat) ≠ 1 by decide) hu' (by omega) h') 100 0 τ u3 hu3 (by omega) h)
  have ways : ∀ (m j : Nat) (τ : pS) (u2 u3 : pV), u2.1 ≠ 1 → u3.1 ≠ 1 → j + m = 17 → hol 63 σ (W (cw j)) τ → pR mX7_findBetween d 42 [(2, 61), (0, (j : Int)), u2, u3] [] τ (fun r τ => r = none ∧ hol 63 σ (fwS (W 13) 1000) τ) := fun m => by
    induction m with
    | zero =>
      intro j τ u2 u3 hu2 hu3 hj h
      have ej : j = 17 := by omega
      subst ej
      exact g_X7_findBetween_42 hd (S.eq h.1) 17 u2 u3 hu2 hu3 (by decide) (fun _ => outer 10 0 τ u2 u3 hu2 hu3 rfl h) (fun c => by omega) (fun c => by omega) (fun c => by omega) (fun c => by omega) (fun c => by omega) (fun c => by omega) (fun c => by omega) (fun c => by omega)
    | succ m ih =>
      intro j τ u2 u3 hu2 hu3 hj h
      have ex : (j : Int) + 1 = ((j + 1 : Nat) : Int) := by omega
      have eM : rd τ 61 6 = M := (h.2.1 _ _ (by decide)).trans hM
      have e0 : rd τ M 0 = rd σ M 0 := h.2.1 _ _ (by omega)
      have e1 : rd τ M 1 = rd σ M 1 := h.2.1 _ _ (by omega)
      have e2 : rd τ (M + 2) (j : Int) = rd σ (M + 2) (j : Int) := h.2.1 _ _ (by omega)
      have e3 : rd τ (M + 3) (j : Int) = rd σ (M + 3) (j : Int) := h.2.1 _ _ (by omega)
      have e4 : rd τ (M + 4) (j : Int) = rd σ (M + 4) (j : Int) := h.2.1 _ _ (by omega)
      have I' : Inst6 τ M := I.eq h.1
      have yes : vHas (rd τ M 0) (rd τ M 1) (j : Int) = true → cw (j + 1) = cw j + 1 ∧ ((0 ≤ rd τ (M + 2) (j : Int) ∧ rd τ (M + 2) (j : Int) < 10) ∧ (0 ≤ rd τ (M + 3) (j : Int) ∧ rd τ (M + 3) (j : Int) < 10) ∧ 1 ≤ rd τ (M + 4) (j : Int) ∧ rd τ (M + 4) (j : Int) ≤ 60) ∧ W (cw j + 1) = updF (W (cw j)) (rd τ (M + 2) (j : Int) * 10 + rd τ (M + 3) (j : Int)) (min (W (cw j) (rd τ (M + 2) (j : Int) * 10 + rd τ (M + 3) (j : Int))) (rd τ (M + 4) (j : Int))) := fun c => by
        rw [e0, e1] at c
        obtain ⟨a1, a2, a3, a4⟩ := cw_yes hl.2 hr.2 c
        have y := Y (cw j) a4 a2
        unfold inFr at y
        rw [a3] at y
        rw [e2, e3, e4]
        refine ⟨a1, y, ?_⟩
        rw [hW]
        refine (if_pos a2).trans ?_
        unfold inFr
        rw [a3, Int.mul_comm 10]
      refine g_X7_findBetween_42 hd (S.eq h.1) (j : Int) u2 u3 hu2 hu3 (by unfold inR; omega) (fun c => by omega) ?_ ?_ ?_ ?_ ?_ ?_ ?_ ?_
      all_goals rw [eM]
      · intro _; exact has_C (Nat.le_refl 1) (S.eq h.1) I' (by unfold inR; omega) (by omega) (by omega)
      · intro _; exact I'
      · intro _ c3
        rw [ex]
        refine ih (j + 1) τ u2 u3 hu2 hu3 (by omega) ?_
        rw [e0, e1] at c3
        rcases cw_no hl.2 hr.2 (by omega) c3 with z | ⟨z1, z2⟩
        · rw [z]; exact h
        · rw [z1]
          have : W (cw j + 1) = W (cw j) := by rw [hW]; exact if_neg (by rw [z2]; decide)
          rw [this]; exact h
      · intro _ _; omega
      · intro _ c4; have := (yes c4).2.1; omega
      · intro _ c4
        have y := (yes c4).2.1
        have q := cw_lt (j := j) (by omega)
        rw [h.at (by omega) (by omega)]
        have := WR (cw j) (by omega) (rd τ (M + 2) (j : Int) * 10 + rd τ (M + 3) (j : Int)).toNat (by omega)
        rw [show (((rd τ (M + 2) (j : Int) * 10 + rd τ (M + 3) (j : Int)).toNat : Nat) : Int) = rd τ (M + 2) (j : Int) * 10 + rd τ (M + 3) (j : Int) by omega] at this
        unfold inR; omega
      · intro _ c4; have y := (yes c4).2.1; unfold inR; omega
      · intro _ c4
        obtain ⟨y1, y, y2⟩ := yes c4
        rw [ex]
        refine ih (j + 1) _ _ u3 (show (0 : Nat) ≠ 1 by decide) hu3 (by omega) ?_
        rw [y1, y2, ← h.at (by omega) (by omega)]
        exact h.put _ _
  have init : ∀ (m j : Nat) (τ : pS), j + m = 100 → τ.1 = σ.1 → (∀ b i : Int, b ≠ 63 → rd τ b i = rd σ b i) → (∀ i : Nat, i < j → rd τ 63 (i : Int) = fwI (i : Int)) → pR mX7_findBetween d 2 [(2, 61), (0, (j : Int)), (9, 0), (9, 0)] [] τ (fun r τ => r = none ∧ hol 63 σ (fwS (W 13) 1000) τ) := fun m => by
    induction m with
    | zero =>
      intro j τ hj F1 F2 all
      have ej : j = 100 := by omega
      subst ej
      exact g_X7_findBetween_2 hd (S.eq F1) 100 (9, 0) (9, 0) (by decide) (by decide) (by decide) (fun _ => ways 17 0 τ (9, 0) (9, 0) (by decide) (by decide) rfl (by rw [hW]; exact ⟨F1, F2, all⟩)) (fun c => by omega) (fun c => by omega) (fun c => by omega) (fun c => by omega) (fun c => by omega) (fun c => by omega) (fun c => by omega)
    | succ m ih =>
      intro j τ hj F1 F2 all
      have ex : (j : Int) + 1 = ((j + 1 : Nat) : Int) := by omega
      have nx : ∀ v : Int, v = fwI (j : Int) → pR mX7_findBetween d 2 [(2, 61), (0, ((j : Int) + 1)), (9, 0), (9, 0)] [] (wr τ 63 (j : Int) v) (fun r τ => r = none ∧ hol 63 σ (fwS (W 13) 1000) τ) := fun v ev => by
        rw [ex]
        refine ih (j + 1) _ (by omega) F1 (fun b i hb => by rw [rd_wr_n (by omega)]; exact F2 b i hb) (fun i hi => ?_)
        by_cases z : i = j
        · rw [z, rd_wr_same]; exact ev
        · rw [rd_wr_n (by omega)]; exact all i (by omega)
      refine g_X7_findBetween_2 hd (S.eq F1) (j : Int) (9, 0) (9, 0) (by decide) (by decide) (by unfold inR; omega) (fun c => by omega) (fun _ => by omega) (fun _ => by unfold inR; omega) (fun _ => by unfold inR; omega) (fun _ _ => by omega) (fun _ c3 => nx _ (by unfold fwI; rw [if_neg c3])) (fun _ _ => by omega) (fun _ c4 => nx _ (by unfold fwI; rw [if_pos c4]))
  exact g_X7_findBetween_0 hd S (init 100 0 σ rfl rfl (fun _ _ _ => rfl) (fun i hi => by omega))
/-- the row 64 tells what is above -/
def abv (σ : pS) (M : Int) (R : Nat) (τ : pS) : Prop := τ.1 = σ.1 ∧ (∀ b i : Int, b ≠ 64 → rd τ b i = rd σ b i) ∧ ∀ r : Nat, r < R → ∀ o : Nat, o < 32 → bq (rd τ 64 (r : Int)) o = decide (o < R ∧ rd σ (M + 3) ((10 + o : Nat) : Int) = rd σ (M + 2) ((10 + r : Nat) : Int))
theorem above_C {d : Nat} {σ : pS} (hd : 1 ≤ d) (S : Stat σ) {M : Int} (hM : rd σ 61 6 = M) (hm : M = 6 ∨ 141 ≤ M) (I : Inst6 σ M) {R : Nat} (hr : rd σ M 1 = (R : Int)) (r7 : R ≤ 7) (hv : ∀ w : Nat, w < 17 → inR (rd σ (M + 2) (w : Int)) ∧ inR (rd σ (M + 3) (w : Int))) : pC mX7_findAbove d [(2, 61)] σ (fun r τ => r = none ∧ abv σ M R τ) := by
  have row : ∀ (τ : pS) (r o : Nat) (b : Nat), Prop := fun τ r o b => bq (rd τ 64 (r : Int)) b = decide (b < o ∧ rd σ (M + 3) ((10 + b : Nat) : Int) = rd σ (M + 2) ((10 + r : Nat) : Int))
  have inner : ∀ (r : Nat), r < R → (∀ (τ : pS) (u2 : pV), u2.1 ≠ 1 → τ.1 = σ.1 → (∀ b i : Int, b ≠ 64 → rd τ b i = rd σ b i) → (∀ x : Nat, x < r + 1 → ∀ b : Nat, b < 32 → bq (rd τ 64 (x : Int)) b = decide (b < R ∧ rd σ (M + 3) ((10 + b : Nat) : Int) = rd σ (M + 2) ((10 + x : Nat) : Int))) → (∀ x : Nat, r + 1 ≤ x → x < 7 → rd τ 64 (x : Int) = 0) → pR mX7_findAbove d 10 [(2, 61), (0, ((r : Int) + 1)), u2] [] τ (fun r τ => r = none ∧ abv σ M R τ)) → ∀ (m o : Nat) (τ : pS), o + m = R → τ.1 = σ.1 → (∀ b i : Int, b ≠ 64 → rd τ b i = rd σ b i) → (∀ x : Nat, x < r → ∀ b : Nat, b < 32 → bq (rd τ 64 (x : Int)) b = decide (b < R ∧ rd σ (M + 3) ((10 + b : Nat) : Int) = rd σ (M + 2) ((10 + x : Nat) : Int))) → (∀ b : Nat, b < 32 → bq (rd τ 64 (r : Int)) b = decide (b < o ∧ rd σ (M + 3) ((10 + b : Nat) : Int) = rd σ (M + 2) ((10 + r : Nat) : Int))) → (∀ x : Nat, r + 1 ≤ x → x < 7 → rd τ 64 (x : Int) = 0) → pR mX7_findAbove d 23 [(2, 61), (0, (r : Int)), (0, (o : Int))] [] τ (fun r τ => r = none ∧ abv σ M R τ) := fun r hrR go m => by
    induction m with
    | zero =>
      intro o τ ho F1 F2 A B Z
      have eo : o = R := by omega
      subst eo
      have eM : rd τ 61 6 = M := (F2 _ _ (by decide)).trans hM
      have e1 : rd τ M 1 = (o : Int) := (F2 _ _ (by omega)).trans hr
      refine g_X7_findAbove_23 hd (S.eq F1) (r : Int) (o : Int) (by rw [eM]; exact I.eq F1) (by unfold inR; omega) (by rw [eM, e1]; unfold inR; omega) (fun _ => go τ (0, (o : Int)) (show (0 : Nat) ≠ 1 by decide) F1 F2 (fun x hx b hb => ?_) Z) (fun c => by rw [eM, e1] at c; omega) (fun c => by rw [eM, e1] at c; omega) (fun c => by rw [eM, e1] at c; omega) (fun c => by rw [eM, e1] at c; omega) (fun c => by rw [eM, e1] at c; omega) (fun c => by rw [eM, e1] at c; omega) (fun c => by rw [eM, e1] at c; omega)
      by_cases y : x = r
      · rw [y]; exact B b hb
      · exact A x (by omega) b hb
    | succ m ih =>
      intro o τ ho F1 F2 A B Z
      have ex : (o : Int) + 1 = ((o + 1 : Nat) : Int) := by omega
      have eM : rd τ 61 6 = M := (F2 _ _ (by decide)).trans hM
      have e1 : rd τ M 1 = (R : Int) := (F2 _ _ (by omega)).trans hr
      have e3 : rd τ (M + 3) (10 + (o : Int)) = rd σ (M + 3) ((10 + o : Nat) : Int) := F2 _ _ (by omega)
      have e2 : rd τ (M + 2) (10 + (r : Int)) = rd σ (M + 2) ((10 + r : Nat) : Int) := F2 _ _ (by omega)
      refine g_X7_findAbove_23 hd (S.eq F1) (r : Int) (o : Int) (by rw [eM]; exact I.eq F1) (by unfold inR; omega) (by rw [eM, e1]; unfold inR; omega) (fun c => by rw [eM, e1] at c; omega) (fun _ => by omega) (fun _ => by omega) (fun _ => by rw [eM, e3]; exact (hv _ (by omega)).2) (fun _ => by rw [eM, e2]; exact (hv _ (by omega)).1) (fun _ c3 => ?_) (fun _ _ => by omega) (fun _ c4 => ?_)
      · rw [eM, e3, e2] at c3
        rw [ex]
        refine ih (o + 1) τ (by omega) F1 F2 A (fun b hb => ?_) Z
        rw [B b hb]
        refine decide_eq_decide.mpr ⟨fun z => ⟨by omega, z.2⟩, fun z => ⟨?_, z.2⟩⟩
        refine Nat.lt_of_le_of_ne (by omega) (fun y => c3 ?_)
        rw [← y]; exact z.2
      · rw [eM, e3, e2] at c4
        rw [ex]
        refine ih (o + 1) _ (by omega) F1 (fun b i hb => by rw [rd_wr_n (by omega)]; exact F2 b i hb) (fun x hx b hb => by rw [rd_wr_n (by omega)]; exact A x hx b hb) (fun b hb => ?_) (fun x hx1 hx2 => by rw [rd_wr_n (by omega)]; exact Z x hx1 hx2)
        rw [rd_wr_same, bq_or, B b hb, bq_shl1 (by omega) hb]
        by_cases y : b = o
        · rw [y, decide_eq_true (show ((o : Nat) : Int) = (o : Int) from rfl), Bool.or_true, decide_eq_true ⟨by omega, c4⟩]
        · rw [decide_eq_false (show ¬ ((b : Nat) : Int) = (o : Int) by omega), Bool.or_false]
          exact decide_eq_decide.mpr ⟨fun z => ⟨by omega, z.2⟩, fun z => ⟨by omega, z.2⟩⟩
  have outer : ∀ (m r : Nat) (τ : pS) (u2 : pV), u2.1 ≠ 1 → r + m = R → τ.1 = σ.1 → (∀ b i : Int, b ≠ 64 → rd τ b i = rd σ b i) → (∀ x : Nat, x < r → ∀ b : Nat, b < 32 → bq (rd τ 64 (x : Int)) b = decide (b < R ∧ rd σ (M + 3) ((10 + b : Nat) : Int) = rd σ (M + 2) ((10 + x : Nat) : Int))) → (∀ x : Nat, r ≤ x → x < 7 → rd τ 64 (x : Int) = 0) → pR mX7_findAbove d 10 [(2, 61), (0, (r : Int)), u2] [] τ (fun r τ => r = none ∧ abv σ M R τ) := fun m => by
    induction m with
    | zero =>
      intro r τ u2 hu hrm F1 F2 A Z
      have er : r = R := by omega
      subst er
      have eM : rd τ 61 6 = M := (F2 _ _ (by decide)).trans hM
      have e1 : rd τ M 1 = (r : Int) := (F2 _ _ (by omega)).trans hr
      exact g_X7_findAbove_10 hd (S.eq F1) (r : Int) u2 hu (by rw [eM]; exact I.eq F1) (by unfold inR; omega) (by rw [eM, e1]; unfold inR; omega) (fun _ => ⟨rfl, F1, F2, A⟩) (fun c => by rw [eM, e1] at c; omega)
    | succ m ih =>
      intro r τ u2 hu hrm F1 F2 A Z
      have ex : (r : Int) + 1 = ((r + 1 : Nat) : Int) := by omega
      have eM : rd τ 61 6 = M := (F2 _ _ (by decide)).trans hM
      have e1 : rd τ M 1 = (R : Int) := (F2 _ _ (by omega)).trans hr
      refine g_X7_findAbove_10 hd (S.eq F1) (r : Int) u2 hu (by rw [eM]; exact I.eq F1) (by unfold inR; omega) (by rw [eM, e1]; unfold inR; omega) (fun c => by rw [eM, e1] at c; omega) (fun _ => inner r (by omega) (fun τ' u2' hu' G1 G2 G3 G4 => by rw [ex]; exact ih (r + 1) τ' u2' hu' (by omega) G1 G2 G3 G4) R 0 τ (by omega) F1 F2 A (fun b hb => ?_) (fun x hx1 hx2 => Z x (by omega) hx2))
      rw [Z r (by omega) (by omega), bq_0, decide_eq_false (fun z => by omega)]
  refine g_X7_findAbove_0 (Q1 := fun r τ => r = none ∧ τ = fl σ 64 (7 : Nat) 0) hd S (fill_C S (ob_64 S) (by decide)) (fun τ1 _ q1 => ?_)
  rw [q1.2]
  exact outer R 0 _ (9, 0) (by decide) (by omega) rfl (fun b i hb => by rw [rd_fl, if_neg (by omega)]) (fun x hx => by omega) (fun x _ hx => by rw [rd_fl, if_pos (by omega)])
