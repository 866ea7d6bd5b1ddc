/-! the class cuts numbers and words -/
def isRun (T : Int → Int) (n : Int) (f : Int → Bool) (p : Int) (l : Nat) : Prop := (∀ j : Nat, j < l → p + j < n ∧ f (T (p + j)) = true) ∧ p + l ≤ n ∧ (p + l < n → f (T (p + l)) = false)
theorem isRun_one {T : Int → Int} {n : Int} {f : Int → Bool} {p : Int} {a b : Nat} (h : isRun T n f p a) (g : isRun T n f p b) : a = b := by
  by_cases c : a < b
  · have x := g.1 a c
    have y := h.2.2 x.1
    rw [x.2] at y
    cases y
  · by_cases c2 : b < a
    · have x := h.1 b c2
      have y := g.2.2 x.1
      rw [x.2] at y
      cases y
    · omega
def tRev (T : Int → Int) (p : Int) : Nat → List Int
  | 0 => []
  | j + 1 => T (p + j) :: tRev T p j
theorem tRev_len {T : Int → Int} {p : Int} : ∀ j : Nat, (tRev T p j).length = j
  | 0 => rfl
  | j + 1 => by show (tRev T p j).length + 1 = _; rw [tRev_len j]
theorem tRev_ls {T : Int → Int} {p : Int} : ∀ {j : Nat}, (∀ i : Nat, i < j → vLet (T (p + i)) = true) → isLs (tRev T p j)
  | 0, _ => fun c hc => by cases hc
  | j + 1, h => fun c hc => by
    rcases List.mem_cons.mp hc with z | z
    · have := h j (by omega)
      rw [z]
      unfold vLet at this
      simpa using this
    · exact tRev_ls (fun i hi => h i (by omega)) c z
def tNum (T : Int → Int) (p : Int) : Nat → Int
  | 0 => 0
  | j + 1 => if j < 4 then tNum T p j * 10 + T (p + j) - 48 else tNum T p j
theorem tNum_R {T : Int → Int} {p : Int} : ∀ {j : Nat}, (∀ i : Nat, i < j → vDig (T (p + i)) = true) → 0 ≤ tNum T p j ∧ tNum T p j ≤ 9999 ∧ (j ≤ 3 → tNum T p j ≤ 999) ∧ (j ≤ 2 → tNum T p j ≤ 99) ∧ (j ≤ 1 → tNum T p j ≤ 9) ∧ (j = 0 → tNum T p j = 0)
  | 0, _ => ⟨Int.le_refl _, show (0 : Int) ≤ 9999 by decide, fun _ => show (0 : Int) ≤ 999 by decide, fun _ => show (0 : Int) ≤ 99 by decide, fun _ => show (0 : Int) ≤ 9 by decide, fun _ => rfl⟩
  | j + 1, h => by
    have a := tNum_R (T := T) (p := p) (j := j) (fun i hi => h i (by omega))
    have b := h j (by omega)
    unfold vDig at b
    simp only [decide_eq_true_eq] at b
    have e : tNum T p (j + 1) = if j < 4 then tNum T p j * 10 + T (p + j) - 48 else tNum T p j := rfl
    rw [e]
    split
    · have : j = 0 ∨ j = 1 ∨ j = 2 ∨ j = 3 := by omega
      rcases this with z | z | z | z <;> subst z <;> omega
    · omega
/-- one token more -/
def pPut (σ : pS) (k p v : Int) : pS := wr (wr (wr (wr σ 3 (rd σ 2 3) k) 4 (rd σ 2 3) p) 5 (rd σ 2 3) v) 2 3 (rd σ 2 3 + 1)
theorem put_C {d : Nat} {σ : pS} (S : Stat σ) (h : 0 ≤ rd σ 2 3 ∧ rd σ 2 3 < 1401) {k p v : Int} : pC mX9_put d [(2, 2), (0, k), (0, p), (1, v)] σ (fun r τ => r = none ∧ τ = pPut σ k p v) :=
  g_X9_put_0 (Nat.zero_le d) S k p v (by unfold inR; omega) (fun c => by omega) (fun _ => h) (fun _ => ⟨rfl, rfl⟩)
def txt (σ : pS) (n : Int) : Prop := 0 ≤ n ∧ n ≤ 1400 ∧ ∀ i : Int, 0 ≤ i → i < 1400 → -128 ≤ rd σ 1 i ∧ rd σ 1 i < 128
theorem cutNumber_C {d : Nat} {σ : pS} (hd : 1 ≤ d) (S : Stat σ) {p n : Int} (hp : 0 ≤ p ∧ p ≤ n) (X : txt σ n) (h : 0 ≤ rd σ 2 3 ∧ rd σ 2 3 < 1401) : pC mX9_cutNumber d [(2, 2), (2, 1), (0, p), (0, n)] σ (fun r τ => ∃ l : Nat, isRun (rd σ 1) n vDig p l ∧ r = some (0, p + l) ∧ τ = pPut σ (if 4 < l ∨ (p + l < n ∧ vLet (rd σ 1 (p + l)) = true) then 22 else 19) p (tNum (rd σ 1) p l)) := by
  obtain ⟨n0, n1, hT⟩ := X
  have loop : ∀ (m j : Nat) (u6 : pV), u6.1 ≠ 1 → p + j + m = n → (∀ i : Nat, i < j → vDig (rd σ 1 (p + i)) = true) → pR mX9_cutNumber d 6 [(2, 2), (2, 1), (0, p), (0, n), (0, p + (j : Int)), (0, tNum (rd σ 1) p j), u6] [] σ (fun r τ => ∃ l : Nat, isRun (rd σ 1) n vDig p l ∧ r = some (0, p + l) ∧ τ = pPut σ (if 4 < l ∨ (p + l < n ∧ vLet (rd σ 1 (p + l)) = true) then 22 else 19) p (tNum (rd σ 1) p l)) := fun m => by
    induction m with
    | zero =>
      intro j u6 hu hj all
      have tr := tNum_R all
      have run : isRun (rd σ 1) n vDig p j := ⟨fun i hi => ⟨by omega, all i hi⟩, by omega, fun c => by omega⟩
      refine g_X9_cutNumber_6 (Q1 := fun r τ => r = none ∧ τ = pPut σ 22 p (tNum (rd σ 1) p j)) (Q2 := fun r τ => r = none ∧ τ = pPut σ 19 p (tNum (rd σ 1) p j)) (Q3 := fun _ _ => True) (Q4 := fun _ _ => True) (Q5 := fun _ _ => True) (Q6 := fun _ _ => True) (Q7 := fun _ _ => True) (Q8 := fun _ _ => True) hd S p n (p + (j : Int)) _ u6 hu (by unfold inR; omega) (by unfold inR; omega) (fun _ => by unfold inR; omega) (fun _ _ => by unfold inR; omega) (fun _ _ => put_C S h) (fun _ c3 τ1 _ q1 => ⟨j, run, rfl, ?_⟩) (fun _ _ _ => by unfold inR; omega) (fun _ _ _ => put_C S h) (fun _ c4 _ τ2 _ q2 => ⟨j, run, rfl, ?_⟩) (fun _ _ c => by omega) (fun _ _ c => by omega) (fun _ _ c => by omega) (fun _ _ c => by omega) (fun _ _ c => by omega) (fun _ _ c => by omega) (fun _ _ c => by omega) (fun _ _ c => by omega) (fun c => by omega) (fun c => by omega) (fun c => by omega) (fun c => by omega) (fun c => by omega) (fun c => by omega) (fun c => by omega) (fun c => by omega) (fun c => by omega) (fun c => by omega) (fun c => by omega) (fun c => by omega) (fun c => by omega) (fun c => by omega) (fun c => by omega) (fun c => by omega) (fun c => by omega) (fun c => by omega) (fun c => by omega)
      · rw [if_pos (Or.inl (by omega))]; exact q1.2
      · rw [if_neg (fun z => by rcases z with y | y <;> omega)]; exact q2.2
    | succ m ih =>
      intro j u6 hu hj all
      have tr := tNum_R all
      have tb := hT (p + (j : Int)) (by omega) (by omega)
      have run : vDig (rd σ 1 (p + j)) = false → isRun (rd σ 1) n vDig p j := fun c => ⟨fun i hi => ⟨by omega, all i hi⟩, by omega, fun _ => c⟩
      have more : vDig (rd σ 1 (p + j)) = true → ∀ i : Nat, i < j + 1 → vDig (rd σ 1 (p + i)) = true := fun c i hi => by
        by_cases z : i = j
        · rw [z]; exact c
        · exact all i (by omega)
      have eN : tNum (rd σ 1) p (j + 1) = if j < 4 then tNum (rd σ 1) p j * 10 + rd σ 1 (p + j) - 48 else tNum (rd σ 1) p j := rfl
      have ex : p + (j : Int) + 1 = p + ((j + 1 : Nat) : Int) := by omega
      refine g_X9_cutNumber_6 (Q1 := fun _ _ => True) (Q2 := fun _ _ => True) (Q3 := fun _ _ => True) (Q4 := fun _ _ => True) (Q5 := fun r τ => r = none ∧ τ = pPut σ 22 p (tNum (rd σ 1) p j)) (Q6 := fun _ _ => True) (Q7 := fun r τ => r = none ∧ τ = pPut σ 19 p (tNum (rd σ 1) p j)) (Q8 := fun r τ => r = none ∧ τ = pPut σ 22 p (tNum (rd σ 1) p j)) hd S p n (p + (j : Int)) _ u6 hu (by unfold inR; omega) (by unfold inR; omega) (fun c => by omega) (fun c => by omega) (fun c => by omega) (fun c => by omega) (fun c => by omega) (fun c => by omega) (fun c => by omega) (fun c => by omega) (fun c => by omega) (fun c => by omega) (fun c => by omega) (fun c => by omega) (fun c => by omega) (fun c => by omega) (fun c => by omega) (fun _ => by omega) (fun _ => isDigit_C S (by unfold inR; omega)) (fun _ _ => by unfold inR; omega) (fun _ _ _ => by unfold inR; omega) (fun _ _ _ => put_C S h) (fun _ c9 c11 τ7 _ q7 => ⟨j, run c9, rfl, ?_⟩) (fun _ _ _ c => by omega) (fun _ _ _ c => by omega) (fun _ _ _ c => by omega) (fun _ _ _ _ => isLetter_C S (by unfold inR; omega)) (fun _ _ _ _ _ => by unfold inR; omega) (fun _ _ _ _ _ => put_C S h) (fun _ c9 c12 c14 c15 τ10 _ q10 => ⟨j, run c9, rfl, ?_⟩) (fun _ _ _ _ _ => by unfold inR; omega) (fun _ _ _ _ _ => put_C S h) (fun _ c9 c12 c14 c16 τ11 _ q11 => ⟨j, run c9, rfl, ?_⟩) (fun _ _ => by unfold inR; omega) (fun _ c10 c17 => ?_) (fun _ c10 c18 => ?_)
      · rw [if_pos (Or.inl (by omega))]; exact q7.2
      · rw [if_neg (fun z => by rcases z with y | y; omega; rw [c15] at y; cases y.2)]; exact q10.2
      · rw [if_pos (Or.inr ⟨c14, c16⟩)]; exact q11.2
      · have := ih (j + 1) u6 hu (by omega) (more c10)
        rw [eN, if_neg (by omega), ← ex] at this
        exact this
      · have := ih (j + 1) u6 hu (by omega) (more c10)
        rw [eN, if_pos (by omega), ← ex] at this
        exact this
  refine g_X9_cutNumber_0 hd S p n ?_
  have := loop (n - p).toNat 0 (9, 0) (by decide) (by omega) (fun i hi => by omega)
  rw [show p + ((0 : Nat) : Int) = p by omega] at this
  exact this
