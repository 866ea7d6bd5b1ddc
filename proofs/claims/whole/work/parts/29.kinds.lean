/-! law steps: kinds, bounds, and the two codes -/
def tyOp (a : Int) (ks : List Bool) : Option (List Bool) :=
  if 0 ≤ a ∧ a ≤ 6 then some (false :: ks)
  else if a = 20 then (match ks with | true :: r => some (true :: r) | _ => none)
  else if a = 21 ∨ a = 22 then (match ks with | true :: true :: r => some (true :: r) | _ => none)
  else if a = 23 ∨ a = 24 ∨ a = 25 then (match ks with | false :: false :: r => some (true :: r) | _ => none)
  else if a = 26 ∨ a = 27 then (match ks with | false :: false :: r => some (false :: r) | _ => none)
  else none
def tyRun : List (Int × Int) → List Bool → Option (List Bool)
  | [], ks => some ks
  | p :: r, ks => match tyOp p.1 ks with
    | some ks' => tyRun r ks'
    | none => none
def kOk : List Bool → List Int → Prop
  | [], [] => True
  | k :: ks, x :: st => (k = true → x = 0 ∨ x = 1) ∧ kOk ks st
  | _, _ => False
def lCode (a : Int) : Int := if a = 0 then 19 else if a = 1 then 15 else if a = 2 then 16 else if a = 3 then 17 else if a = 4 then 9 else if a = 5 then 8 else if a = 6 then 3 else if a = 20 then 14 else if a = 21 then 12 else if a = 22 then 13 else if a = 23 then 61 else if a = 24 then 60 else if a = 25 then 62 else if a = 26 then 43 else 45
theorem kOk.ty {a n : Int} {u : Int → Int → Int} {ks ks' : List Bool} {st : List Int} (h : kOk ks st) (t : tyOp a ks = some ks') : kOk ks' (mOp a n u st) := by
  unfold tyOp at t
  unfold mOp
  split at t
  · next c =>
    rw [if_pos (by omega)]
    obtain rfl : false :: ks = ks' := by simpa using t
    exact ⟨fun q => (by cases q), h⟩
  · split at t
    · next c =>
      rw [if_neg (by omega), if_pos c]
      match ks, st, h, t with
      | true :: r, x :: st, h, t =>
        obtain rfl : true :: r = ks' := by simpa using t
        have := h.1 rfl
        exact ⟨fun _ => by omega, h.2⟩
    · split at t
      · next c =>
        rw [if_neg (by omega), if_neg (by omega)]
        match ks, st, h, t with
        | true :: true :: r, x :: y :: st, h, t =>
          obtain rfl : true :: r = ks' := by simpa using t
          refine ⟨fun _ => ?_, h.2.2⟩
          rcases c with rfl | rfl
          · show (if 0 < y + x then 1 else 0) = (0 : Int) ∨ _
            split <;> simp_all [mJoin]
          · show (if 1 < y + x then 1 else 0) = (0 : Int) ∨ _
            split <;> simp_all [mJoin]
      · split at t
        · next c =>
          rw [if_neg (by omega), if_neg (by omega)]
          match ks, st, h, t with
          | false :: false :: r, x :: y :: st, h, t =>
            obtain rfl : true :: r = ks' := by simpa using t
            refine ⟨fun _ => ?_, h.2.2⟩
            rcases c with rfl | rfl | rfl
            · show (if y = x then 1 else 0) = (0 : Int) ∨ _
              split <;> simp_all [mJoin]
            · show (if y < x then 1 else 0) = (0 : Int) ∨ _
              split <;> simp_all [mJoin]
            · show (if x < y then 1 else 0) = (0 : Int) ∨ _
              split <;> simp_all [mJoin]
        · split at t
          · next c =>
            rw [if_neg (by omega), if_neg (by omega)]
            match ks, st, h, t with
            | false :: false :: r, x :: y :: st, h, t =>
              obtain rfl : false :: r = ks' := by simpa using t
              exact ⟨fun q => (by cases q), h.2.2⟩
          · cases t
