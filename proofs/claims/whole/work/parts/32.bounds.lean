/-! law steps: bounds in the class's codes -/
theorem lCode_R {a : Int} (h0 : 0 ≤ a) (h1 : a ≤ 27) : 0 ≤ lCode a ∧ lCode a ≤ 100 := by
  unfold lCode
  repeat' split
  all_goals omega
theorem lCode_k {a : Int} (h : (0 ≤ a ∧ a ≤ 6) ∨ (20 ≤ a ∧ a ≤ 27)) : (lCode a = 14 ↔ a = 20) ∧ (lCode a ≠ 14 → lCode a ≠ 19 → vWU (lCode a) = false → 20 < a) := by
  have k : a = 0 ∨ a = 1 ∨ a = 2 ∨ a = 3 ∨ a = 4 ∨ a = 5 ∨ a = 6 ∨ a = 20 ∨ a = 21 ∨ a = 22 ∨ a = 23 ∨ a = 24 ∨ a = 25 ∨ a = 26 ∨ a = 27 := by omega
  rcases k with rfl | rfl | rfl | rfl | rfl | rfl | rfl | rfl | rfl | rfl | rfl | rfl | rfl | rfl | rfl <;> decide
theorem tyOp_k {a : Int} {ks ks' : List Bool} (t : tyOp a ks = some ks') : (0 ≤ a ∧ a ≤ 6) ∨ (20 ≤ a ∧ a ≤ 27) := by
  unfold tyOp at t
  repeat' split at t
  all_goals first | omega | cases t
theorem lGood_of {u : Int → Int → Int} {v : Int → Int} (f : uFits u v) : ∀ {P : List (Int × Int)} {ks ks' : List Bool} {st : List Int} {k : Nat}, kOk ks st → tyRun P ks = some ks' → sAbs st ≤ 10000 * k → k + P.length ≤ 1000 → (∀ p ∈ P, 0 ≤ p.1 → p.1 ≤ 6 → (u p.1 p.2).natAbs ≤ 10000) → st.length + nU P ≤ 40 → lGood v (lTr P) st
  | [], ks, ks', st, k, h, t, hs, hp, hu, hl => fun x hx => by
    have := sAbs_mem hx
    simp only [List.length_nil] at hp
    constructor <;> omega
  | p :: P, ks, ks', st, k, h, t, hs, hp, hu, hl => by
    unfold tyRun at t
    split at t
    · next k1 e =>
      have h1 := h.ty (n := p.2) (u := u) e
      obtain ⟨b1, b2, b3, b4, b5, b6⟩ := mOp_b (n := p.2) (u := u) h e (hu p List.mem_cons_self)
      have c := tyOp_k e
      have c1 := lCode_R b5 b6
      obtain ⟨c2, c3⟩ := lCode_k c
      simp only [List.length_cons] at hp
      have hl' : st.length + ((if p.1 ≤ 6 then 1 else 0) + nU P) ≤ 40 := hl
      have ih := lGood_of f (k := k + 1) h1 t (by omega) (by omega) (fun q hq => hu q (List.mem_cons_of_mem _ hq)) (by omega)
      refine ⟨fun x hx => ?_, by omega, (show inR (lCode p.1) by constructor <;> omega), fun q => b3 (c2.mp q), fun q1 q2 q3 => b4 (c3 q1 q2 q3), ?_⟩
      · have := sAbs_mem hx
        constructor <;> omega
      · show lGood v (lTr P) (lOp (lCode p.1) p.2 v st)
        rw [lOp_tr f h e]
        exact ih
    · cases t
