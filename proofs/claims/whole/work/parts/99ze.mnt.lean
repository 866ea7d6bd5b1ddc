/-! mountain(): the relation holds again -/
theorem mkRSlo {K P V : Nat → Int} {c : Nat} (R : tkR K V c) {t : mdS} {A : Int} {υ : pS} (hA : 141 ≤ A) (I6 : Inst6 υ A) (It : mInv K P V c t) (B : cOB K V A t υ) (h2 : rd υ A 2 = mN t) (e07 : rd υ 0 7 = A) (f30 : rd υ 68 30 = mL t) (f31 : rd υ 68 31 = mR t) (f32 : rd υ 68 32 = mHm t) (f33 : rd υ 68 33 = mN t) (lf : ∀ w : Nat, w < mL t → (∀ a : Int, 77 ≤ a → a ≤ 82 → rd υ a (w : Int) = liftG V (mB t w) (a - 6)) ∧ rd υ 84 (w : Int) = b2i (decide (K (mB t w + 12) = 7))) (rn : ∀ r : Nat, r < mR t → ∀ a : Int, 77 ≤ a → a ≤ 81 → rd υ a ((6 + r : Nat) : Int) = runG V (mB t (10 + r)) (a - 6)) : RSlo υ := by
  have i1 := It.1
  have i2 := It.2.1
  have i3 := It.2.2.1
  have lw : ∀ w : Nat, w < mL t → ∀ m : Int, 1 ≤ m → m ≤ 10 → rd υ (A + m) (w : Int) = liftV K V (mB t w) m := fun w hw m m0 m1 => by
    rw [B.2.2.2.2 w (by omega) m m0 m1]
    unfold wayV
    rw [if_pos hw]
  have rw' : ∀ r : Nat, r < mR t → ∀ m : Int, 1 ≤ m → m ≤ 10 → rd υ (A + m) ((10 + r : Nat) : Int) = runV V (mB t (10 + r)) m := fun r hr m m0 m1 => by
    rw [B.2.2.2.2 (10 + r) (by omega) m m0 m1]
    unfold wayV
    rw [if_neg (by omega), if_pos (by omega)]
  have lNk : ∀ w : Nat, w < mL t → ∃ nt, liftO K P V nt (mB t w) = none ∧ mB t w < c := fun w hw => by
    obtain ⟨b, nt, h⟩ := It.2.2.2.2.2.1 w hw
    exact ⟨nt, h, b⟩
  have rNk : ∀ r : Nat, r < mR t → ∃ nt, runO K P V nt (mB t (10 + r)) = none ∧ mB t (10 + r) < c := fun r hr => by
    obtain ⟨b, nt, h⟩ := It.2.2.2.2.2.2 (10 + r) (by omega) (by omega)
    exact ⟨nt, h, b⟩
  unfold RSlo
  rw [e07, f30, f31, f32, f33]
  refine ⟨Or.inr hA, I6, B.1, by omega, B.2.1, by omega, h2, B.2.2.1, by omega, fun w hw => ?_, fun l l0 l1 => ?_, fun r r0 r1 => ?_, fun w w0 w1 => ?_⟩
  · have hw := vWay_t hw
    by_cases y : w < 6
    · obtain ⟨k, rfl⟩ : ∃ k : Nat, w = (k : Int) := ⟨w.toNat, by omega⟩
      have e : vOuter (k : Int) = (k : Int) := if_pos y
      obtain ⟨nt, h, b⟩ := lNk k (by omega)
      have q := lift_none R b h
      have g := (lf k (by omega)).1
      rw [e, lw k (by omega) 2 (by decide) (by decide), lw k (by omega) 3 (by decide) (by decide), lw k (by omega) 4 (by decide) (by decide), g 77 (by decide) (by decide), g 78 (by decide) (by decide), g 79 (by decide) (by decide)]
      show V (mB t k + 2) = V (mB t k + 2) ∧ 0 ≤ V (mB t k + 2) ∧ V (mB t k + 2) < 10 ∧ V (mB t k + 3) = V (mB t k + 3) ∧ 0 ≤ V (mB t k + 3) ∧ V (mB t k + 3) < 10 ∧ V (mB t k + 5) = V (mB t k + 5) ∧ 1 ≤ V (mB t k + 5) ∧ V (mB t k + 5) ≤ 60
      omega
    · obtain ⟨k, rfl⟩ : ∃ k : Nat, w = ((6 + k : Nat) : Int) := ⟨(w - 6).toNat, by omega⟩
      have e : vOuter ((6 + k : Nat) : Int) = ((10 + k : Nat) : Int) := (if_neg y).trans (by omega)
      obtain ⟨nt, h, b⟩ := rNk k (by omega)
      have q := run_none R b h
      have g := rn k (by omega)
      rw [e, rw' k (by omega) 2 (by decide) (by decide), rw' k (by omega) 3 (by decide) (by decide), rw' k (by omega) 4 (by decide) (by decide), g 77 (by decide) (by decide), g 78 (by decide) (by decide), g 79 (by decide) (by decide)]
      show V (mB t (10 + k) + 2) = V (mB t (10 + k) + 2) ∧ 0 ≤ V (mB t (10 + k) + 2) ∧ V (mB t (10 + k) + 2) < 10 ∧ V (mB t (10 + k) + 3) = V (mB t (10 + k) + 3) ∧ 0 ≤ V (mB t (10 + k) + 3) ∧ V (mB t (10 + k) + 3) < 10 ∧ V (mB t (10 + k) + 7) = V (mB t (10 + k) + 7) ∧ 1 ≤ V (mB t (10 + k) + 7) ∧ V (mB t (10 + k) + 7) ≤ 60
      omega
  · obtain ⟨k, rfl⟩ : ∃ k : Nat, l = (k : Int) := ⟨l.toNat, by omega⟩
    obtain ⟨nt, h, b⟩ := lNk k (by omega)
    have q := lift_none R b h
    obtain ⟨g, g84⟩ := lf k (by omega)
    rw [lw k (by omega) 5 (by decide) (by decide), lw k (by omega) 6 (by decide) (by decide), lw k (by omega) 7 (by decide) (by decide), lw k (by omega) 8 (by decide) (by decide), lw k (by omega) 9 (by decide) (by decide), g 80 (by decide) (by decide), g 81 (by decide) (by decide), g 82 (by decide) (by decide), g84]
    show V (mB t k + 7) = V (mB t k + 7) ∧ 1 ≤ V (mB t k + 7) ∧ V (mB t k + 7) ≤ 99 ∧ V (mB t k + 9) = V (mB t k + 9) ∧ 0 ≤ V (mB t k + 9) ∧ V (mB t k + 11) = V (mB t k + 11) ∧ V (mB t k + 9) < V (mB t k + 11) ∧ V (mB t k + 11) ≤ 480 ∧ b2i (decide (K (mB t k + 12) = 7)) = b2i (decide (K (mB t k + 12) = 7)) ∧ (0 : Int) = 0
    omega
  · obtain ⟨k, rfl⟩ : ∃ k : Nat, r = (k : Int) := ⟨r.toNat, by omega⟩
    obtain ⟨nt, h, b⟩ := rNk k (by omega)
    have q := run_none R b h
    have g := rn k (by omega)
    rw [show (10 : Int) + (k : Int) = ((10 + k : Nat) : Int) by omega, show (6 : Int) + (k : Int) = ((6 + k : Nat) : Int) by omega, rw' k (by omega) 9 (by decide) (by decide), rw' k (by omega) 10 (by decide) (by decide), rw' k (by omega) 6 (by decide) (by decide), rw' k (by omega) 7 (by decide) (by decide), rw' k (by omega) 8 (by decide) (by decide), g 80 (by decide) (by decide), g 81 (by decide) (by decide)]
    show V (mB t (10 + k) + 5) = V (mB t (10 + k) + 5) ∧ 0 ≤ V (mB t (10 + k) + 5) ∧ V (mB t (10 + k) + 5) ≤ 3 ∧ V (mB t (10 + k) + 9) = V (mB t (10 + k) + 9) ∧ 0 ≤ V (mB t (10 + k) + 9) ∧ V (mB t (10 + k) + 9) ≤ 300 ∧ (0 : Int) = 0 ∧ (480 : Int) = 480 ∧ (0 : Int) = 0
    omega
  · obtain ⟨k, rfl⟩ : ∃ k : Nat, w = (k : Int) := ⟨w.toNat, by omega⟩
    have r2 := wayV_R R It k 2 (by decide) (by decide)
    have r3 := wayV_R R It k 3 (by decide) (by decide)
    have r4 := wayV_R R It k 4 (by decide) (by decide)
    have r6 := wayV_R R It k 6 (by decide) (by decide)
    have r7 := wayV_R R It k 7 (by decide) (by decide)
    have r8 := wayV_R R It k 8 (by decide) (by decide)
    have r9 := wayV_R R It k 9 (by decide) (by decide)
    have b2 := r2.2.2.1 (Or.inl rfl)
    have b3 := r3.2.2.1 (Or.inr rfl)
    have b4 := r4.2.2.2.1 rfl
    have b6 := r6.2.1 (by decide)
    have b7 := r7.2.1 (by decide)
    have b8 := r8.2.2.2.2.1 rfl
    have b9 := r9.2.2.2.2.2 rfl
    have v : ∀ m : Int, 1 ≤ m → m ≤ 10 → rd υ (A + m) (k : Int) = wayV K V t k m := fun m m0 m1 => B.2.2.2.2 k (by omega) m m0 m1
    rw [v 2 (by decide) (by decide), v 3 (by decide) (by decide), v 4 (by decide) (by decide), v 6 (by decide) (by decide), v 7 (by decide) (by decide), v 8 (by decide) (by decide), v 9 (by decide) (by decide)]
    omega
theorem rowsAgree {K P V : Nat → Int} {c : Nat} {t : mdS} {A : Int} {τ φ : pS} (It : mInv K P V c t) (B : cOB K V A t τ) (M : mOB K V t φ) (k : Nat) (hk : k < 13) (z : vWay (mL t : Int) (mR t : Int) (k : Int) = true) : rd φ 71 (k : Int) = inFr (rd τ (A + 2)) (k : Int) ∧ rd φ 72 (k : Int) = inFr (rd τ (A + 3)) (k : Int) ∧ rd φ 73 (k : Int) = inFr (rd τ (A + 4)) (k : Int) := by
  have i1 := It.1
  have i2 := It.2.1
  have z := vWay_t z
  unfold inFr
  by_cases y : (k : Int) < 6
  · have e : vOuter (k : Int) = (k : Int) := if_pos y
    have g := (M.2.2.2.2.1 k (by omega)).2.1
    have l : ∀ m : Int, 1 ≤ m → m ≤ 10 → rd τ (A + m) (k : Int) = liftV K V (mB t k) m := fun m m0 m1 => by
      rw [B.2.2.2.2 k (by omega) m m0 m1]
      unfold wayV
      rw [if_pos (by omega)]
    rw [e, l 2 (by decide) (by decide), l 3 (by decide) (by decide), l 4 (by decide) (by decide), g 71 (by decide) (by decide), g 72 (by decide) (by decide), g 73 (by decide) (by decide)]
    exact ⟨rfl, rfl, rfl⟩
  · obtain ⟨r, rfl⟩ : ∃ r : Nat, k = 6 + r := ⟨k - 6, by omega⟩
    have e : vOuter ((6 + r : Nat) : Int) = ((10 + r : Nat) : Int) := (if_neg y).trans (by omega)
    have g := (M.2.2.2.2.2 r (by omega)).2
    have l : ∀ m : Int, 1 ≤ m → m ≤ 10 → rd τ (A + m) ((10 + r : Nat) : Int) = runV V (mB t (10 + r)) m := fun m m0 m1 => by
      rw [B.2.2.2.2 (10 + r) (by omega) m m0 m1]
      unfold wayV
      rw [if_neg (by omega), if_pos (by omega)]
    rw [e, l 2 (by decide) (by decide), l 3 (by decide) (by decide), l 4 (by decide) (by decide), g 71 (by decide) (by decide), g 72 (by decide) (by decide), g 73 (by decide) (by decide)]
    exact ⟨rfl, rfl, rfl⟩
theorem szl {n : Nat} {σ υ : pS} (h : RSz n σ) (e : υ.1 = σ.1 ++ sloL) : RSz (n + 1) υ := by
  have e2 := pSz_app e
  have e3 : (List.map (fun q : Nat × Nat => if q.1 < 50 then (pFt q.1).length else q.2) sloL).sum = 174 := by decide
  rw [e3] at e2
  have e4 := congrArg List.length e
  have e5 : sloL.length = 11 := rfl
  rw [List.length_append, e5] at e4
  unfold RSz at *
  omega
