/-! the class cuts one token -/
def blk (c : Int) : Prop := c = 32 ∨ c = 10
/-- the token at a place: its kind, its value, the place behind it -/
def tokT (σ : pS) (n p k v e : Int) : Prop := (vLet (rd σ 1 p) = true ∧ vIsP σ p n = true ∧ k = 20 ∧ v = rd σ 1 (p + 1) - 48 ∧ e = p + 2) ∨ (vLet (rd σ 1 p) = true ∧ vIsP σ p n = false ∧ ∃ l : Nat, isRun (rd σ 1) n vLet p l ∧ e = p + l ∧ v = w32 (tRev (rd σ 1) p l) ∧ ((8 < l ∧ k = 22) ∨ (l ≤ 8 ∧ wkOut v k))) ∨ (vDig (rd σ 1 p) = true ∧ vLet (rd σ 1 p) = false ∧ ∃ l : Nat, isRun (rd σ 1) n vDig p l ∧ e = p + l ∧ v = tNum (rd σ 1) p l ∧ k = (if 4 < l ∨ (p + l < n ∧ vLet (rd σ 1 (p + l)) = true) then 22 else 19)) ∨ (vLet (rd σ 1 p) = false ∧ vDig (rd σ 1 p) = false ∧ e = p + 1 ∧ v = 0 ∧ ((vSig (rd σ 1 p) = true ∧ k = rd σ 1 p) ∨ (vSig (rd σ 1 p) = false ∧ k = 22)))
theorem cutOne_C {d : Nat} {σ : pS} (hd : 8 ≤ d) (S : Stat σ) {p n : Int} (hp : 0 ≤ p ∧ p < n) (X : txt σ n) (h : 0 ≤ rd σ 2 3 ∧ rd σ 2 3 < 1401) : pC mX9_cutOne d [(2, 2), (2, 1), (0, p), (0, n)] σ (fun r τ => (blk (rd σ 1 p) ∧ r = some (0, p + 1) ∧ τ = σ) ∨ (¬ blk (rd σ 1 p) ∧ ∃ k v e, tokT σ n p k v e ∧ r = some (0, e) ∧ τ = pPut σ k p v)) := by
  have tb := X.2.2 p (by have := X.1; omega) (by have := X.2.1; omega)
  have n1 := X.2.1
  refine g_X9_cutOne_0 (Q1 := fun r τ => r = none ∧ τ = pPut σ 22 p 0) (Q2 := fun r τ => r = none ∧ τ = pPut σ (rd σ 1 p) p 0) (Q3 := fun r τ => ∃ l : Nat, isRun (rd σ 1) n vDig p l ∧ r = some (0, p + l) ∧ τ = pPut σ (if 4 < l ∨ (p + l < n ∧ vLet (rd σ 1 (p + l)) = true) then 22 else 19) p (tNum (rd σ 1) p l)) (Q4 := cwOut σ n p) hd S p n (by omega) (by unfold inR; omega) (fun c1 => Or.inl ⟨Or.inl c1, rfl, rfl⟩) (fun _ _ => isLetter_C S (by unfold inR; omega)) (fun _ _ _ => isDigit_C S (by unfold inR; omega)) (fun _ _ _ _ => isSign_C (Nat.le_refl 7) S tb) (fun _ _ _ _ _ => put_C S h) (fun c2 c3 c5 c7 c9 τ4 _ q4 => Or.inr ⟨fun z => by rcases z with y | y; exact c2 y; exact c3 y, 22, 0, p + 1, Or.inr (Or.inr (Or.inr ⟨c5, c7, rfl, rfl, Or.inr ⟨c9, rfl⟩⟩)), rfl, q4.2⟩) (fun _ _ _ _ _ => put_C S h) (fun c2 c3 c5 c7 c10 τ5 _ q5 => Or.inr ⟨fun z => by rcases z with y | y; exact c2 y; exact c3 y, rd σ 1 p, 0, p + 1, Or.inr (Or.inr (Or.inr ⟨c5, c7, rfl, rfl, Or.inl ⟨c10, rfl⟩⟩)), rfl, q5.2⟩) (fun _ _ _ _ => cutNumber_C (Nat.le_refl 1) S ⟨hp.1, by omega⟩ X h) (fun c2 c3 c5 c8 v6 τ6 _ ⟨l, run, ev, q6⟩ => Or.inr ⟨fun z => by rcases z with y | y; exact c2 y; exact c3 y, _, _, p + l, Or.inr (Or.inr (Or.inl ⟨c8, c5, l, run, rfl, rfl, rfl⟩)), ev, q6⟩) (fun _ _ _ => cutWord_C (Nat.le_refl 6) S hp X h) (fun c2 c3 c6 v7 τ7 _ q7 => Or.inr ⟨fun z => by rcases z with y | y; exact c2 y; exact c3 y, ?_⟩) (fun _ c4 => Or.inl ⟨Or.inr c4, rfl, rfl⟩)
  rcases q7 with ⟨y1, y2, y3⟩ | ⟨y1, l, run, y2, ⟨y3, y4⟩ | ⟨y3, v, wo, y4⟩⟩
  · exact ⟨20, _, p + 2, Or.inl ⟨c6, y1, rfl, rfl, rfl⟩, y2, y3⟩
  · exact ⟨22, _, p + l, Or.inr (Or.inl ⟨c6, y1, l, run, rfl, rfl, Or.inl ⟨y3, rfl⟩⟩), y2, y4⟩
  · exact ⟨v, _, p + l, Or.inr (Or.inl ⟨c6, y1, l, run, rfl, rfl, Or.inr ⟨y3, wo⟩⟩), y2, y4⟩
theorem tokT_e {σ : pS} {n p k v e : Int} (hp : 0 ≤ p ∧ p < n) (h : tokT σ n p k v e) : p < e ∧ e ≤ n := by
  rcases h with ⟨a, b, c, f, g⟩ | ⟨a, b, l, run, g, f, c⟩ | ⟨a, b, l, run, g, f, c⟩ | ⟨a, b, g, f, c⟩
  · unfold vIsP at b
    simp only [decide_eq_true_eq] at b
    omega
  · by_cases z : l = 0
    · subst z
      have := run.2.2 (by omega)
      rw [show p + ((0 : Nat) : Int) = p by omega, a] at this
      cases this
    · have := run.2.1; omega
  · by_cases z : l = 0
    · subst z
      have := run.2.2 (by omega)
      rw [show p + ((0 : Nat) : Int) = p by omega, a] at this
      cases this
    · have := run.2.1; omega
  · omega
