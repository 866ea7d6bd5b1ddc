/-! bits of an int; small things -/
theorem so_inj {k : Nat} {v w : Int} (h : some (k, v) = some (k, w)) : v = w := by simpa using h
theorem inst8_23 {σ : pS} (h : Stat σ) : Inst8 σ 23 60 := ⟨ob_23 h, ob_24 h, ob_25 h, ob_26 h, ob_27 h, ob_28 h⟩
theorem inst8_29 {σ : pS} (h : Stat σ) : Inst8 σ 29 100 := ⟨ob_29 h, ob_30 h, ob_31 h, ob_32 h, ob_33 h, ob_34 h⟩
/-- a bit of an int -/
def bq (x : Int) (k : Nat) : Bool := (Int32.ofInt x).toBitVec.getLsbD k
theorem bq_or (x y : Int) (k : Nat) : bq (i_or x y) k = (bq x k || bq y k) := by
  unfold bq i_or
  rw [Int32.ofInt_toInt]
  exact BitVec.getLsbD_or
theorem bq_and (x y : Int) (k : Nat) : bq (i_and x y) k = (bq x k && bq y k) := by
  unfold bq i_and
  rw [Int32.ofInt_toInt]
  exact BitVec.getLsbD_and
theorem bq_xor (x y : Int) (k : Nat) : bq (i_xor x y) k = (bq x k ^^ bq y k) := by
  unfold bq i_xor
  rw [Int32.ofInt_toInt]
  exact BitVec.getLsbD_xor
theorem bq_0 (k : Nat) : bq 0 k = false := by
  show (BitVec.ofInt 32 0).getLsbD k = false
  simp
theorem bq_shl1_all : ∀ k j : Fin 32, bq (i_shl 1 (k.val : Int)) j.val = decide (j = k) := by decide +kernel
theorem bq_shl1 {k : Int} {j : Nat} (hk : 0 ≤ k ∧ k < 32) (hj : j < 32) : bq (i_shl 1 k) j = decide ((j : Int) = k) := by
  have := bq_shl1_all ⟨k.toNat, by omega⟩ ⟨j, hj⟩
  simp only [Fin.mk.injEq] at this
  rw [show ((k.toNat : Nat) : Int) = k by omega] at this
  rw [this]
  exact decide_eq_decide.mpr (by omega)
theorem sh_all : ∀ k : Fin 32, ((Int32.ofInt (k.val : Int) &&& 31).toBitVec.smod 32#32).toNat = k.val := by decide +kernel
theorem bq_shr {x k : Int} {j : Nat} (hk : 0 ≤ k ∧ k < 32) (hj : j + k.toNat < 32) : bq (i_shr x k) j = bq x (j + k.toNat) := by
  have e := sh_all ⟨k.toNat, by omega⟩
  simp only [show ((k.toNat : Nat) : Int) = k by omega] at e
  unfold bq i_shr
  rw [Int32.ofInt_toInt]
  show (BitVec.sshiftRight' (Int32.ofInt x).toBitVec ((Int32.ofInt k &&& 31).toBitVec.smod 32#32)).getLsbD j = _
  rw [BitVec.getLsbD_sshiftRight', e]
  simp only [show ¬ 32 ≤ j by omega, decide_false, Bool.not_false, Bool.true_and]
  rw [if_pos (by omega), Nat.add_comm]
theorem bq_ext {x y : Int} (hx : inR x) (hy : inR y) (h : ∀ k : Nat, k < 32 → bq x k = bq y k) : x = y := by
  have : Int32.ofInt x = Int32.ofInt y := Int32.toBitVec.inj (BitVec.eq_of_getLsbD_eq (fun i hi => h i hi))
  have e := congrArg Int32.toInt this
  rw [Int32.toInt_ofInt_of_le (by unfold inR at hx; omega) (by unfold inR at hx; omega), Int32.toInt_ofInt_of_le (by unfold inR at hy; omega) (by unfold inR at hy; omega)] at e
  exact e
theorem i_and_in (x y : Int) : inR (i_and x y) := by
  have h1 := Int32.le_toInt (Int32.ofInt x &&& Int32.ofInt y)
  have h2 := Int32.toInt_lt (Int32.ofInt x &&& Int32.ofInt y)
  unfold i_and
  constructor <;> omega
theorem i_or_in (x y : Int) : inR (i_or x y) := by
  have h1 := Int32.le_toInt (Int32.ofInt x ||| Int32.ofInt y)
  have h2 := Int32.toInt_lt (Int32.ofInt x ||| Int32.ofInt y)
  unfold i_or
  constructor <;> omega
theorem i_shr_in (x y : Int) : inR (i_shr x y) := by
  have h1 := Int32.le_toInt (Int32.ofInt x >>> (Int32.ofInt y &&& 31))
  have h2 := Int32.toInt_lt (Int32.ofInt x >>> (Int32.ofInt y &&& 31))
  unfold i_shr
  constructor <;> omega
theorem bq_1 {j : Nat} (hj : j < 32) : bq 1 j = decide (j = 0) := by
  have : ∀ j : Fin 32, bq 1 j.val = decide (j.val = 0) := by decide +kernel
  exact this ⟨j, hj⟩
theorem and1_ne0 (x : Int) : i_and x 1 ≠ 0 ↔ bq x 0 = true := by
  constructor
  · intro h
    cases e : bq x 0
    · refine absurd (bq_ext (i_and_in _ _) (by decide) (fun k hk => ?_)) h
      rw [bq_and, bq_1 hk, bq_0]
      cases k with
      | zero => simp [e]
      | succ k => simp
    · rfl
  · intro h e
    have : bq (i_and x 1) 0 = true := by rw [bq_and, h, bq_1 (by decide)]; rfl
    rw [e, bq_0] at this
    cases this
theorem andshl_ne0 (x : Int) {k : Int} (hk : 0 ≤ k ∧ k < 32) : i_and x (i_shl 1 k) ≠ 0 ↔ bq x k.toNat = true := by
  constructor
  · intro h
    cases e : bq x k.toNat
    · refine absurd (bq_ext (i_and_in _ _) (by decide) (fun j hj => ?_)) h
      rw [bq_and, bq_shl1 hk hj, bq_0]
      by_cases q : (j : Int) = k
      · rw [show j = k.toNat by omega, e]; rfl
      · rw [decide_eq_false q, Bool.and_false]
    · rfl
  · intro h e
    have : bq (i_and x (i_shl 1 k)) k.toNat = true := by rw [bq_and, h, bq_shl1 hk (by omega), decide_eq_true (by omega)]; rfl
    rw [e, bq_0] at this
    cases this
theorem bq_set {x k : Int} {j : Nat} (hk : 0 ≤ k ∧ k < 32) (hj : j < 32) : bq (i_or x (i_shl 1 k)) j = (bq x j || decide ((j : Int) = k)) := by rw [bq_or, bq_shl1 hk hj]
/-- an answer that is 0 or 1 -/
theorem b2i_inj {a b : Bool} (h : b2i a = b2i b) : a = b := by cases a <;> cases b <;> first | rfl | (exact absurd h (by decide))
theorem b2i_ne0 {b : Bool} : b2i b ≠ 0 ↔ b = true := by cases b <;> simp [b2i]
theorem b2i_eq0 {b : Bool} : b2i b = 0 ↔ b = false := by cases b <;> simp [b2i]
