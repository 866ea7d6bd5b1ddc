/-! law steps: the two codes mean the same -/
def uFits (u : Int → Int → Int) (v : Int → Int) : Prop := (∀ n, u 0 n = n) ∧ ∀ a n, 1 ≤ a → a ≤ 6 → v (lCode a) = u a n
theorem lOp_tr {a n : Int} {u : Int → Int → Int} {v : Int → Int} {ks ks' : List Bool} {st : List Int} (f : uFits u v) (h : kOk ks st) (t : tyOp a ks = some ks') : lOp (lCode a) n v st = mOp a n u st := by
  unfold tyOp at t
  split at t
  · next c =>
    by_cases c0 : a = 0
    · subst c0
      show n :: st = u 0 n :: st
      rw [f.1]
    · have e := f.2 a n (by omega) (by omega)
      have k : a = 1 ∨ a = 2 ∨ a = 3 ∨ a = 4 ∨ a = 5 ∨ a = 6 := by omega
      have m : mOp a n u st = u a n :: st := by unfold mOp; rw [if_pos (by omega)]
      rw [m, ← e]
      rcases k with rfl | rfl | rfl | rfl | rfl | rfl <;> rfl
  · split at t
    · next c =>
      subst c
      rfl
    · split at t
      · next c =>
        match ks, st, h, t with
        | true :: true :: r, x :: y :: st, h, t =>
          have h1 := h.1 rfl
          have h2 := h.2.1 rfl
          rcases c with rfl | rfl
          · show i_or y x :: st = (if 0 < y + x then 1 else 0) :: st
            rcases h1 with rfl | rfl <;> rcases h2 with rfl | rfl <;> rfl
          · show i_and y x :: st = (if 1 < y + x then 1 else 0) :: st
            rcases h1 with rfl | rfl <;> rcases h2 with rfl | rfl <;> rfl
      · split at t
        · next c =>
          match ks, st, h, t with
          | false :: false :: r, x :: y :: st, h, t =>
            rcases c with rfl | rfl | rfl <;> rfl
        · split at t
          · next c =>
            match ks, st, h, t with
            | false :: false :: r, x :: y :: st, h, t =>
              rcases c with rfl | rfl <;> rfl
          · cases t
def lTr (P : List (Int × Int)) : List (Int × Int) := P.map (fun p => (lCode p.1, p.2))
theorem lRun_tr {u : Int → Int → Int} {v : Int → Int} (f : uFits u v) : ∀ {P : List (Int × Int)} {ks ks' : List Bool} {st : List Int}, kOk ks st → tyRun P ks = some ks' → lRun v (lTr P) st = mRun u P st ∧ kOk ks' (mRun u P st)
  | [], ks, ks', st, h, t => by
    obtain rfl : ks = ks' := by simpa [tyRun] using t
    exact ⟨rfl, h⟩
  | p :: P, ks, ks', st, h, t => by
    unfold tyRun at t
    split at t
    · next k1 e =>
      have h1 := h.ty (n := p.2) (u := u) e
      have := lRun_tr f h1 t
      show lRun v (lTr P) (lOp (lCode p.1) p.2 v st) = mRun u P (mOp p.1 p.2 u st) ∧ _
      rw [lOp_tr f h e]
      exact this
    · cases t
