/-! a day: the model of the taking of turns; whole rounds at once -/
/-- what one who takes a way changes in a row of the day -/
def dl (σ : pS) (m w a i : Int) : Int := if a = 125 then (if i = w ∧ w < 6 then 1 else 0) else if a = 128 then (if i = w ∧ 6 ≤ w then 1 else 0) else if a = 127 then (if i = w - 6 ∧ 6 ≤ w then -1 else 0) else if a = 126 then (if i = 10 * (m + rd σ 79 w) + rd σ 78 w ∧ 6 ≤ w then 1 else 0) else 0
def dCan (σ : pS) (k m : Int) (S : Int → Int → Int) (w : Int) : Bool := !(shutS σ k w (m / 60)) && decide ((w < 6 ∧ m < rd σ 82 w) ∨ (6 ≤ w ∧ 10 ≤ S 127 (w - 6)))
def dTake (σ : pS) (m p w nx : Int) (S : Int → Int → Int) : Int → Int → Int := fun a i => if a = 122 then (if i = p then nx else S a i) else if a = 124 then (if i = p then S a i - 1 else S a i) else S a i + dl σ m w a i
def dSeek (f : Int → Bool) : Nat → Int → Option Int
  | 0, _ => none
  | n + 1, j => if f j = true then some j else dSeek f n (j + 1)
def dWay (σ : pS) (p x : Int) : Int := rd σ 120 (6 * p + x % rd σ 121 p)
def dOne (σ : pS) (k m p : Int) (S : Int → Int → Int) : Option (Int → Int → Int) :=
  match dSeek (fun j => dCan σ k m S (dWay σ p (S 122 p + j))) (rd σ 121 p).toNat 0 with
  | none => none
  | some j => some (dTake σ m p (dWay σ p (S 122 p + j)) ((S 122 p + j + 1) % rd σ 121 p) S)
def dTurns (σ : pS) (k m p : Int) : Nat → (Int → Int → Int) → (Int → Int → Int)
  | 0, S => S
  | n + 1, S => match dOne σ k m p S with
    | none => S
    | some T => dTurns σ k m p n T
theorem dSeek_some {f : Int → Bool} : ∀ {n : Nat} {j i : Int}, j ≤ i → i < j + n → f i = true → (∀ x : Int, j ≤ x → x < i → f x = false) → dSeek f n j = some i
  | 0, j, i, a, b, _, _ => by omega
  | n + 1, j, i, a, b, c, e => by
    unfold dSeek
    by_cases z : j = i
    · subst z; rw [if_pos c]
    · rw [if_neg (by rw [e j (Int.le_refl _) (by omega)]; decide)]
      exact dSeek_some (by omega) (by omega) c (fun x x0 x1 => e x (by omega) x1)
theorem dSeek_none {f : Int → Bool} : ∀ {n : Nat} {j : Int}, (∀ x : Int, j ≤ x → x < j + n → f x = false) → dSeek f n j = none
  | 0, _, _ => rfl
  | n + 1, j, e => by
    unfold dSeek
    rw [if_neg (by rw [e j (Int.le_refl _) (by omega)]; decide)]
    exact dSeek_none (fun x x0 x1 => e x (by omega) (by omega))
theorem dTurns_none {σ : pS} {k m p : Int} {S : Int → Int → Int} (h : dOne σ k m p S = none) : ∀ n : Nat, dTurns σ k m p n S = S
  | 0 => rfl
  | n + 1 => by unfold dTurns; rw [h]
theorem dTurns_s {σ : pS} {k m p : Int} {S T : Int → Int → Int} (h : dOne σ k m p S = some T) (n : Nat) : dTurns σ k m p (n + 1) S = dTurns σ k m p n T := by
  show (match dOne σ k m p S with | none => S | some T => dTurns σ k m p n T) = _
  rw [h]
theorem dTurns_add {σ : pS} {k m p : Int} (b : Nat) : ∀ (a : Nat) (S : Int → Int → Int), dTurns σ k m p (a + b) S = dTurns σ k m p b (dTurns σ k m p a S)
  | 0, S => by rw [Nat.zero_add]; rfl
  | a + 1, S => by
    rw [show a + 1 + b = (a + b) + 1 by omega]
    cases h : dOne σ k m p S with
    | none =>
      rw [dTurns_none h, dTurns_none h, dTurns_none h]
    | some T =>
      rw [dTurns_s h, dTurns_s h]
      exact dTurns_add b a T
theorem dTurns_succ {σ : pS} {k m p : Int} {a : Nat} {S T : Int → Int → Int} (h : dOne σ k m p (dTurns σ k m p a S) = some T) : dTurns σ k m p (a + 1) S = T := by
  rw [dTurns_add, dTurns_s h]
  rfl
theorem sumF_add (f : Int → Int) (a : Nat) : ∀ b : Nat, sumF f (a + b) = sumF f a + sumF (fun t => f ((a : Int) + t)) b
  | 0 => by show _ = _ + (0 : Int); rw [Int.add_zero]; rfl
  | b + 1 => by
    have := sumF_add f a b
    show sumF f (a + b) + f ((a + b : Nat) : Int) = sumF f a + (sumF (fun t => f ((a : Int) + t)) b + f ((a : Int) + (b : Int)))
    rw [this, Int.natCast_add]
    omega
theorem sumF_tele (f : Int → Int) : ∀ n : Nat, sumF (fun t => f (t + 1)) n = sumF f n + f (n : Int) - f 0
  | 0 => by show (0 : Int) = 0 + f ((0 : Nat) : Int) - f 0; simp
  | n + 1 => by
    have := sumF_tele f n
    show sumF (fun t => f (t + 1)) n + f ((n : Int) + 1) = sumF f n + f (n : Int) + f ((n + 1 : Nat) : Int) - f 0
    rw [this, Int.natCast_add]
    show _ + f ((n : Int) + 1) = _ + f ((n : Int) + ((1 : Nat) : Int)) - f 0
    simp only [Int.natCast_one] at *
    omega
theorem sumF_mul (c : Int) (f : Int → Int) : ∀ n : Nat, sumF (fun t => c * f t) n = c * sumF f n
  | 0 => by show (0 : Int) = c * 0; simp
  | n + 1 => by
    show sumF (fun t => c * f t) n + c * f n = c * (sumF f n + f n)
    rw [sumF_mul c f n, Int.mul_add]
theorem sumF_mono {f g : Int → Int} : ∀ {n : Nat}, (∀ i : Int, 0 ≤ i → i < (n : Int) → f i ≤ g i) → sumF f n ≤ sumF g n
  | 0, _ => Int.le_refl _
  | n + 1, h => by
    have a := sumF_mono (n := n) (fun i i0 i1 => h i i0 (by omega))
    have b := h n (by omega) (by omega)
    show sumF f n + f n ≤ sumF g n + g n
    omega
theorem sumF_le {f : Int → Int} (h : ∀ i : Int, 0 ≤ i → 0 ≤ f i) {a b : Nat} (c : a ≤ b) : sumF f a ≤ sumF f b := by
  rw [show b = a + (b - a) by omega, sumF_add]
  have := sumF_pos (f := fun t => f ((a : Int) + t)) (N := b - a) (fun i i0 _ => h _ (by omega))
  omega
theorem sumF_per {f : Int → Int} {s : Nat} (hs : 0 < s) : ∀ x : Nat, sumF (fun t => f (((x : Int) + t) % (s : Int))) s = sumF f s
  | 0 => by
    refine sumF_cg (fun i i0 i1 => ?_)
    show f ((((0 : Nat) : Int) + i) % _) = _
    rw [show (((0 : Nat) : Int) + i) = i by omega, Int.emod_eq_of_lt i0 i1]
  | x + 1 => by
    have a := sumF_tele (fun t => f (((x : Int) + t) % (s : Int))) s
    have e : sumF (fun t => f ((((x + 1 : Nat) : Int) + t) % (s : Int))) s = sumF (fun t => f (((x : Int) + (t + 1)) % (s : Int))) s := sumF_cg (fun i i0 i1 => by
      show f _ = f _
      rw [show (((x + 1 : Nat) : Int) + i) = (x : Int) + (i + 1) by omega])
    rw [e, a]
    have z : f (((x : Int) + (s : Int)) % (s : Int)) = f (((x : Int) + 0) % (s : Int)) := by rw [Int.add_emod_right, Int.add_zero]
    have := sumF_per (f := f) hs x
    show sumF _ s + f (((x : Int) + (s : Int)) % (s : Int)) - f (((x : Int) + 0) % (s : Int)) = _
    rw [z]
    omega
theorem sumF_cyc {f : Int → Int} {s : Nat} (hs : 0 < s) (x : Nat) : ∀ R : Nat, sumF (fun t => f (((x : Int) + t) % (s : Int))) (R * s) = (R : Int) * sumF f s
  | 0 => by rw [Nat.zero_mul]; show (0 : Int) = ((0 : Nat) : Int) * _; simp
  | R + 1 => by
    rw [Nat.succ_mul, sumF_add, sumF_cyc hs x R]
    have e : sumF (fun t => (fun t => f (((x : Int) + t) % (s : Int))) (((R * s : Nat) : Int) + t)) s = sumF (fun t => f ((((x + R * s : Nat) : Int) + t) % (s : Int))) s := sumF_cg (fun i i0 i1 => by
      show f _ = f _
      rw [show (x : Int) + (((R * s : Nat) : Int) + i) = ((x + R * s : Nat) : Int) + i by omega])
    rw [e, sumF_per hs, Int.natCast_add, Int.add_mul]
    simp
