/-! the class cuts words, one token, a text -/
theorem w32_L {l : List Int} (h : isLs l) (hl : l.length ≤ 8) : inL (w32 l) := by
  have a := w32_R h
  have b : (32 : Int) ^ l.length ≤ 1099511627776 := by
    have : l.length = 0 ∨ l.length = 1 ∨ l.length = 2 ∨ l.length = 3 ∨ l.length = 4 ∨ l.length = 5 ∨ l.length = 6 ∨ l.length = 7 ∨ l.length = 8 := by omega
    rcases this with z | z | z | z | z | z | z | z | z <;> rw [z] <;> decide
  unfold inL
  omega
/-- what cutting a word leaves -/
def cwOut (σ : pS) (n p : Int) (r : Option pV) (τ : pS) : Prop := (vIsP σ p n = true ∧ r = some (0, p + 2) ∧ τ = pPut σ 20 p (rd σ 1 (p + 1) - 48)) ∨ (vIsP σ p n = false ∧ ∃ l : Nat, isRun (rd σ 1) n vLet p l ∧ r = some (0, p + l) ∧ ((8 < l ∧ τ = pPut σ 22 p (w32 (tRev (rd σ 1) p l))) ∨ (l ≤ 8 ∧ ∃ v, wkOut (w32 (tRev (rd σ 1) p l)) v ∧ τ = pPut σ v p (w32 (tRev (rd σ 1) p l)))))
theorem cutWord_C {d : Nat} {σ : pS} (hd : 6 ≤ d) (S : Stat σ) {p n : Int} (hp : 0 ≤ p ∧ p < n) (X : txt σ n) (h : 0 ≤ rd σ 2 3 ∧ rd σ 2 3 < 1401) : pC mX9_cutWord d [(2, 2), (2, 1), (0, p), (0, n)] σ (cwOut σ n p) := by
  obtain ⟨n0, n1, hT⟩ := X
  have loop : vIsP σ p n = false → ∀ (m j : Nat), p + j + m = n → (∀ i : Nat, i < j → vLet (rd σ 1 (p + i)) = true) → pR mX9_cutWord d 35 [(2, 2), (2, 1), (0, p), (0, n), (0, p + (j : Int)), (1, w32 (tRev (rd σ 1) p j)), (9, 0)] [] σ (cwOut σ n p) := fun nP m => by
    have fin : ∀ (j : Nat) (v : Int) (τ : pS), isRun (rd σ 1) n vLet p j → wkOut (w32 (tRev (rd σ 1) p j)) v → j ≤ 8 → τ = pPut σ v p (w32 (tRev (rd σ 1) p j)) → cwOut σ n p (some (0, p + (j : Int))) τ := fun j v τ run wo hj e => Or.inr ⟨nP, j, run, rfl, Or.inr ⟨hj, v, wo, e⟩⟩
    have bad : ∀ (j : Nat) (τ : pS), isRun (rd σ 1) n vLet p j → 8 < j → τ = pPut σ 22 p (w32 (tRev (rd σ 1) p j)) → cwOut σ n p (some (0, p + (j : Int))) τ := fun j τ run hj e => Or.inr ⟨nP, j, run, rfl, Or.inl ⟨hj, e⟩⟩
    induction m with
    | zero =>
      intro j hj all
      have run : isRun (rd σ 1) n vLet p j := ⟨fun i hi => ⟨by omega, all i hi⟩, by omega, fun c => by omega⟩
      by_cases c8 : j ≤ 8
      · obtain ⟨r1, φ, ⟨v, rfl, wo, rfl⟩, ok, rn⟩ := wordKind_C (d := 5) (Nat.le_refl 5) S (w32_L (tRev_ls all) (by rw [tRev_len]; exact c8))
        exact g_X9_cutWord_35 (Q1 := fun r τ => r = some (0, v) ∧ τ = φ) (Q2 := fun r τ => r = none ∧ τ = pPut φ v p (w32 (tRev (rd φ 1) p j))) (Q3 := fun _ _ => True) (Q4 := fun _ _ => True) (Q5 := fun _ _ => True) (Q6 := fun _ _ => True) hd S p n (p + (j : Int)) _ (by unfold inR; omega) (by unfold inR; omega) (fun _ => by unfold inR; omega) (fun _ _ => ⟨_, φ, ⟨rfl, rfl⟩, ok, rn⟩) (fun _ _ v1 τ1 _ q1 => by
          have ev : v1 = v := congrArg (fun o => (o.getD (0, 0)).2) q1.1
          rw [ev, q1.2]; exact put_C S h) (fun _ _ v1 τ1 _ q1 τ2 _ q2 => fin j v τ2 run wo c8 q2.2) (fun _ c => by omega) (fun _ c => by omega) (fun c => by omega) (fun c => by omega) (fun c => by omega) (fun c => by omega) (fun c => by omega) (fun c => by omega) (fun c => by omega) (fun c => by omega) (fun c => by omega) (fun c => by omega)
      · exact g_X9_cutWord_35 (Q1 := fun _ _ => True) (Q2 := fun _ _ => True) (Q3 := fun r τ => r = none ∧ τ = pPut σ 22 p (w32 (tRev (rd σ 1) p j))) (Q4 := fun _ _ => True) (Q5 := fun _ _ => True) (Q6 := fun _ _ => True) hd S p n (p + (j : Int)) _ (by unfold inR; omega) (by unfold inR; omega) (fun _ => by unfold inR; omega) (fun _ c => by omega) (fun _ c => by omega) (fun _ c => by omega) (fun _ _ => put_C S h) (fun _ _ τ3 _ q3 => bad j τ3 run (by omega) q3.2) (fun c => by omega) (fun c => by omega) (fun c => by omega) (fun c => by omega) (fun c => by omega) (fun c => by omega) (fun c => by omega) (fun c => by omega) (fun c => by omega) (fun c => by omega)
    | succ m ih =>
      intro j hj all
      have tb := hT (p + (j : Int)) (by omega) (by omega)
      have ex : p + (j : Int) + 1 = p + ((j + 1 : Nat) : Int) := by omega
      have step : vLet (rd σ 1 (p + (j : Int))) = true → pR mX9_cutWord d 35 [(2, 2), (2, 1), (0, p), (0, n), (0, p + (j : Int) + 1), (1, w32 (tRev (rd σ 1) p j) * 32 + rd σ 1 (p + (j : Int)) - 97 + 1), (9, 0)] [] σ (cwOut σ n p) := fun c => by
        rw [ex]
        exact ih (j + 1) (by omega) (fun i hi => by
          by_cases z : i = j
          · rw [z]; exact c
          · exact all i (by omega))
      cases cl : vLet (rd σ 1 (p + (j : Int))) with
      | true =>
        refine g_X9_cutWord_35 (Q1 := fun _ _ => True) (Q2 := fun _ _ => True) (Q3 := fun _ _ => True) (Q4 := fun _ _ => True) (Q5 := fun _ _ => True) (Q6 := fun _ _ => True) hd S p n (p + (j : Int)) _ (by unfold inR; omega) (by unfold inR; omega) (fun c => by omega) (fun c => by omega) (fun c => by omega) (fun c => by omega) (fun c => by omega) (fun c => by omega) (fun _ => by omega) (fun _ => isLetter_C S (by unfold inR; omega)) (fun _ c => absurd (cl.symm.trans c) (by decide)) (fun _ c => absurd (cl.symm.trans c) (by decide)) (fun _ c => absurd (cl.symm.trans c) (by decide)) (fun _ c => absurd (cl.symm.trans c) (by decide)) (fun _ c => absurd (cl.symm.trans c) (by decide)) (fun _ c => absurd (cl.symm.trans c) (by decide)) (fun _ _ => by unfold inR; omega) (fun _ _ => step cl)
      | false =>
        have run : isRun (rd σ 1) n vLet p j := ⟨fun i hi => ⟨by omega, all i hi⟩, by omega, fun _ => cl⟩
        by_cases c8 : j ≤ 8
        · obtain ⟨r1, φ, ⟨v, rfl, wo, rfl⟩, ok, rn⟩ := wordKind_C (d := 5) (Nat.le_refl 5) S (w32_L (tRev_ls all) (by rw [tRev_len]; exact c8))
          exact g_X9_cutWord_35 (Q1 := fun _ _ => True) (Q2 := fun _ _ => True) (Q3 := fun _ _ => True) (Q4 := fun r τ => r = some (0, v) ∧ τ = φ) (Q5 := fun r τ => r = none ∧ τ = pPut φ v p (w32 (tRev (rd φ 1) p j))) (Q6 := fun _ _ => True) hd S p n (p + (j : Int)) _ (by unfold inR; omega) (by unfold inR; omega) (fun c => by omega) (fun c => by omega) (fun c => by omega) (fun c => by omega) (fun c => by omega) (fun c => by omega) (fun _ => by omega) (fun _ => isLetter_C S (by unfold inR; omega)) (fun _ _ => by unfold inR; omega) (fun _ _ _ => ⟨_, φ, ⟨rfl, rfl⟩, ok, rn⟩) (fun _ _ _ v1 τ1 _ q1 => by
            have ev : v1 = v := congrArg (fun o => (o.getD (0, 0)).2) q1.1
            rw [ev, q1.2]; exact put_C S h) (fun _ _ _ v1 τ1 _ q1 τ2 _ q2 => fin j v τ2 run wo c8 q2.2) (fun _ _ c => by omega) (fun _ _ c => by omega) (fun _ c => absurd (cl.symm.trans c) (by decide)) (fun _ c => absurd (cl.symm.trans c) (by decide))
        · exact g_X9_cutWord_35 (Q1 := fun _ _ => True) (Q2 := fun _ _ => True) (Q3 := fun _ _ => True) (Q4 := fun _ _ => True) (Q5 := fun _ _ => True) (Q6 := fun r τ => r = none ∧ τ = pPut σ 22 p (w32 (tRev (rd σ 1) p j))) hd S p n (p + (j : Int)) _ (by unfold inR; omega) (by unfold inR; omega) (fun c => by omega) (fun c => by omega) (fun c => by omega) (fun c => by omega) (fun c => by omega) (fun c => by omega) (fun _ => by omega) (fun _ => isLetter_C S (by unfold inR; omega)) (fun _ _ => by unfold inR; omega) (fun _ _ c => by omega) (fun _ _ c => by omega) (fun _ _ c => by omega) (fun _ _ _ => put_C S h) (fun _ _ _ τ3 _ q3 => bad j τ3 run (by omega) q3.2) (fun _ c => absurd (cl.symm.trans c) (by decide)) (fun _ c => absurd (cl.symm.trans c) (by decide))
  refine g_X9_cutWord_0 (Q1 := fun r τ => r = none ∧ τ = pPut σ 20 p (rd σ 1 (p + 1) - 48)) hd S p n (isPlaceT_C (Nat.le_refl 1) S hp n1 hT) (fun c1 => ?_) (fun c2 => ?_) (fun c2 => ?_) (fun _ => put_C S h) (fun c2 τ2 _ q2 => Or.inl ⟨c2, rfl, q2.2⟩)
  · have := loop c1 (n - p).toNat 0 (by omega) (fun i hi => by omega)
    rw [show p + ((0 : Nat) : Int) = p by omega] at this
    exact this
  all_goals
    have z : p + 1 < n := by
      unfold vIsP at c2
      simp only [decide_eq_true_eq] at c2
      exact c2.2.1
  · omega
  · have := hT (p + 1) (by omega) (by omega); unfold inR; omega
