/-! law steps: nothing grows out of range -/
def sAbs : List Int → Nat
  | [] => 0
  | x :: r => x.natAbs + sAbs r
theorem sAbs_mem : ∀ {st : List Int} {x : Int}, x ∈ st → x.natAbs ≤ sAbs st
  | a :: r, x, h => by
    rcases List.mem_cons.mp h with rfl | h
    · exact Nat.le_add_right _ _
    · exact Nat.le_trans (sAbs_mem h) (Nat.le_add_left _ _)
def nU : List (Int × Int) → Nat
  | [] => 0
  | p :: r => (if p.1 ≤ 6 then 1 else 0) + nU r
theorem kOk.len : ∀ {ks : List Bool} {st : List Int}, kOk ks st → ks.length = st.length
  | [], [], _ => rfl
  | _ :: _, _ :: _, h => by simp [kOk.len h.2]
theorem mOp_b {a n : Int} {u : Int → Int → Int} {ks ks' : List Bool} {st : List Int} (h : kOk ks st) (t : tyOp a ks = some ks') (hu : 0 ≤ a → a ≤ 6 → (u a n).natAbs ≤ 10000) : sAbs (mOp a n u st) ≤ sAbs st + 10000 ∧ (mOp a n u st).length ≤ st.length + (if a ≤ 6 then 1 else 0) ∧ (a = 20 → 1 ≤ st.length) ∧ (20 < a → 2 ≤ st.length) ∧ 0 ≤ a ∧ a ≤ 27 := by
  unfold tyOp at t
  unfold mOp
  split at t
  · next c =>
    rw [if_pos (by omega), if_pos (by omega)]
    have := hu c.1 c.2
    refine ⟨?_, by simp, by omega, by omega, by omega, by omega⟩
    show (u a n).natAbs + sAbs st ≤ _
    omega
  · split at t
    · next c =>
      rw [if_neg (by omega), if_pos c, if_neg (by omega)]
      match ks, st, h, t with
      | true :: r, x :: st, h, t =>
        have := h.1 rfl
        refine ⟨?_, by simp, by simp, by omega, by omega, by omega⟩
        show (1 - x).natAbs + sAbs st ≤ x.natAbs + sAbs st + 10000
        omega
    · split at t
      · next c =>
        rw [if_neg (by omega), if_neg (by omega), if_neg (by omega)]
        match ks, st, h, t with
        | true :: true :: r, x :: y :: st, h, t =>
          refine ⟨?_, by simp, by omega, by simp, by omega, by omega⟩
          show (mJoin a y x).natAbs + sAbs st ≤ x.natAbs + (y.natAbs + sAbs st) + 10000
          have : (mJoin a y x).natAbs ≤ 1 := by unfold mJoin; rcases c with rfl | rfl <;> simp <;> split <;> simp
          omega
      · split at t
        · next c =>
          rw [if_neg (by omega), if_neg (by omega), if_neg (by omega)]
          match ks, st, h, t with
          | false :: false :: r, x :: y :: st, h, t =>
            refine ⟨?_, by simp, by omega, by simp, by omega, by omega⟩
            show (mJoin a y x).natAbs + sAbs st ≤ x.natAbs + (y.natAbs + sAbs st) + 10000
            have : (mJoin a y x).natAbs ≤ 1 := by unfold mJoin; rcases c with rfl | rfl | rfl <;> simp <;> split <;> simp
            omega
        · split at t
          · next c =>
            rw [if_neg (by omega), if_neg (by omega), if_neg (by omega)]
            match ks, st, h, t with
            | false :: false :: r, x :: y :: st, h, t =>
              refine ⟨?_, by simp, by omega, by simp, by omega, by omega⟩
              show (mJoin a y x).natAbs + sAbs st ≤ x.natAbs + (y.natAbs + sAbs st) + 10000
              have : mJoin a y x = y + x ∨ mJoin a y x = y - x := by unfold mJoin; rcases c with rfl | rfl <;> simp
              omega
          · cases t
theorem mGood_of {u : Int → Int → Int} : ∀ {P : List (Int × Int)} {ks ks' : List Bool} {st : List Int} {k : Nat}, kOk ks st → tyRun P ks = some ks' → 0 < ks'.length → sAbs st ≤ 10000 * k → k + P.length ≤ 1000 → (∀ p ∈ P, 0 ≤ p.1 → p.1 ≤ 6 → (u p.1 p.2).natAbs ≤ 10000) → st.length + nU P ≤ 40 → mGood u P st
  | [], ks, ks', st, k, h, t, hk, hs, hp, hu, hl => by
    obtain rfl : ks = ks' := by simpa [tyRun] using t
    refine ⟨fun x hx => ?_, by rw [← h.len]; exact hk⟩
    have := sAbs_mem hx
    simp only [List.length_nil] at hp
    unfold inM
    omega
  | p :: P, ks, ks', st, k, h, t, hk, hs, hp, hu, hl => by
    unfold tyRun at t
    split at t
    · next k1 e =>
      have h1 := h.ty (n := p.2) (u := u) e
      obtain ⟨b1, b2, b3, b4, b5, b6⟩ := mOp_b (n := p.2) (u := u) h e (hu p List.mem_cons_self)
      simp only [List.length_cons] at hp
      have hl' : st.length + ((if p.1 ≤ 6 then 1 else 0) + nU P) ≤ 40 := hl
      refine ⟨fun x hx => ?_, by omega, by constructor <;> omega, b3, b4, mGood_of (k := k + 1) h1 t hk (by omega) (by omega) (fun q hq => hu q (List.mem_cons_of_mem _ hq)) (by omega)⟩
      have := sAbs_mem hx
      unfold inM
      omega
    · cases t
