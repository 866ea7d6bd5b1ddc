/-! minutes between places: the model; the reference reckons it -/
def fwI (i : Int) : Int := if i / 10 = i % 10 then 0 else 1000000
def fwW (w : Int → Bool) (fr to tk : Int → Int) : Nat → Int → Int
  | 0 => fwI
  | k + 1 => if w (k : Int) = true then updF (fwW w fr to tk k) (10 * fr (k : Int) + to (k : Int)) (min (fwW w fr to tk k (10 * fr (k : Int) + to (k : Int))) (tk (k : Int))) else fwW w fr to tk k
def fwG (f : Int → Int) (t : Nat) : Int → Int := updF f ((t % 100 : Nat) : Int) (min (f ((t % 100 : Nat) : Int)) (f ((10 * (t % 100 / 10) + t / 100 : Nat) : Int) + f ((10 * (t / 100) + t % 10 : Nat) : Int)))
def fwS (f : Int → Int) : Nat → Int → Int
  | 0 => f
  | t + 1 => fwG (fwS f t) t
def fwR (f : Int → Int) : Prop := ∀ i : Nat, i < 100 → 0 ≤ f (i : Int) ∧ f (i : Int) ≤ 1000000
def fwY (w : Int → Bool) (fr to tk : Int → Int) : Prop := ∀ k : Nat, k < 13 → w (k : Int) = true → (0 ≤ fr (k : Int) ∧ fr (k : Int) < 10) ∧ (0 ≤ to (k : Int) ∧ to (k : Int) < 10) ∧ 1 ≤ tk (k : Int) ∧ tk (k : Int) ≤ 60
theorem fwI_R : fwR fwI := fun i hi => by unfold fwI; split <;> omega
theorem fwW_R {w : Int → Bool} {fr to tk : Int → Int} (h : fwY w fr to tk) : ∀ k : Nat, k ≤ 13 → fwR (fwW w fr to tk k)
  | 0, _ => fwI_R
  | k + 1, hk => fun i hi => by
    have ih := fwW_R h k (by omega)
    show 0 ≤ (if w (k : Int) = true then updF (fwW w fr to tk k) (10 * fr (k : Int) + to (k : Int)) (min (fwW w fr to tk k (10 * fr (k : Int) + to (k : Int))) (tk (k : Int))) else fwW w fr to tk k) (i : Int) ∧ (if w (k : Int) = true then updF (fwW w fr to tk k) (10 * fr (k : Int) + to (k : Int)) (min (fwW w fr to tk k (10 * fr (k : Int) + to (k : Int))) (tk (k : Int))) else fwW w fr to tk k) (i : Int) ≤ 1000000
    by_cases z : w (k : Int) = true
    · rw [if_pos z]
      unfold updF
      have y := h k (by omega) z
      by_cases e : (i : Int) = 10 * fr (k : Int) + to (k : Int)
      · rw [if_pos e, ← e]
        have := ih i hi
        omega
      · rw [if_neg e]; exact ih i hi
    · rw [if_neg z]; exact ih i hi
theorem fwG_R {f : Int → Int} (h : fwR f) {t : Nat} (ht : t < 1000) : fwR (fwG f t) := fun i hi => by
  unfold fwG updF
  by_cases e : (i : Int) = ((t % 100 : Nat) : Int)
  · rw [if_pos e, ← e]
    have a := h i hi
    have b := h (10 * (t % 100 / 10) + t / 100) (by omega)
    have c := h (10 * (t / 100) + t % 10) (by omega)
    omega
  · rw [if_neg e]; exact h i hi
theorem fwS_R {f : Int → Int} (h : fwR f) : ∀ t : Nat, t ≤ 1000 → fwR (fwS f t)
  | 0, _ => h
  | t + 1, ht => fwG_R (fwS_R h t (by omega)) (by omega)
/-- finite entries stay small -/
def fwO (B : Int) (f : Int → Int) : Prop := ∀ a b : Nat, a < 10 → b < 10 → 0 ≤ f ((10 * a + b : Nat) : Int) ∧ (f ((10 * a + b : Nat) : Int) ≤ B ∨ f ((10 * a + b : Nat) : Int) = 1000000) ∧ f ((10 * a + a : Nat) : Int) = 0
def fwJ (o : Nat) (B : Int) (f : Int → Int) : Prop := ∀ a b : Nat, a < 10 → b < 10 → 0 ≤ f ((10 * a + b : Nat) : Int) ∧ (f ((10 * a + b : Nat) : Int) ≤ 2 * B ∨ f ((10 * a + b : Nat) : Int) = 1000000) ∧ (a = o ∨ b = o → f ((10 * a + b : Nat) : Int) ≤ B ∨ f ((10 * a + b : Nat) : Int) = 1000000) ∧ f ((10 * a + a : Nat) : Int) = 0
theorem fwJ_step {o : Nat} {B : Int} {f : Int → Int} (hB : 0 ≤ B) (ho : o < 10) (h : fwJ o B f) {i : Nat} (hi : i < 100) : fwJ o B (fwG f (100 * o + i)) := fun a b ha hb => by
  have e1 : (100 * o + i) % 100 = i := by omega
  have e2 : (100 * o + i) / 100 = o := by omega
  have e3 : (100 * o + i) % 10 = i % 10 := by omega
  have val : ∀ a b : Nat, a < 10 → b < 10 → fwG f (100 * o + i) ((10 * a + b : Nat) : Int) = if 10 * a + b = i then min (f ((10 * a + b : Nat) : Int)) (f ((10 * a + o : Nat) : Int) + f ((10 * o + b : Nat) : Int)) else f ((10 * a + b : Nat) : Int) := fun a b ha hb => by
    unfold fwG updF
    rw [e1, e2, e3]
    by_cases e : 10 * a + b = i
    · rw [if_pos (by omega), if_pos e]
      have : i / 10 = a := by omega
      have : i % 10 = b := by omega
      rw [← e] at *
      rw [show (10 * a + b) / 10 = a by omega, show (10 * a + b) % 10 = b by omega]
    · rw [if_neg (by omega), if_neg e]
  have hab := h a b ha hb
  have hao := h a o ha ho
  have hob := h o b ho hb
  have haa := h a a ha ha
  have hoo := h o o ho ho
  have c1 := hao.2.2.1 (Or.inr rfl)
  have c2 := hob.2.2.1 (Or.inl rfl)
  rw [val a b ha hb, val a a ha ha]
  refine ⟨?_, ?_, fun z => ?_, ?_⟩
  · split <;> omega
  · split <;> omega
  · split
    · rcases z with z | z
      · subst z
        have := hab.2.2.1 (Or.inl rfl)
        have := hoo.2.2.2
        omega
      · subst z
        have := hab.2.2.1 (Or.inr rfl)
        have := hoo.2.2.2
        omega
    · exact hab.2.2.1 z
  · have e0 := haa.2.2.2
    have p1 := hao.1
    have p2 := (h o a ho ha).1
    split <;> omega
theorem fwO_stage {o : Nat} {B : Int} {f : Int → Int} (hB : 0 ≤ B) (ho : o < 10) (h : fwO B (fwS f (100 * o))) : fwO (2 * B) (fwS f (100 * (o + 1))) := by
  have st : fwJ o B (fwS f (100 * o)) := fun a b ha hb => by
    have := h a b ha hb
    exact ⟨this.1, by omega, fun _ => this.2.1, this.2.2⟩
  have all : ∀ i : Nat, i ≤ 100 → fwJ o B (fwS f (100 * o + i)) := fun i => by
    induction i with
    | zero => intro _; exact st
    | succ i ih => intro hi; exact fwJ_step hB ho (ih (by omega)) (by omega)
  have := all 100 (Nat.le_refl _)
  rw [show 100 * (o + 1) = 100 * o + 100 by omega]
  exact fun a b ha hb => ⟨(this a b ha hb).1, (this a b ha hb).2.1, (this a b ha hb).2.2.2⟩
theorem fwO_W {w : Int → Bool} {fr to tk : Int → Int} (h : fwY w fr to tk) : ∀ k : Nat, k ≤ 13 → fwO 60 (fwW w fr to tk k)
  | 0, _ => fun a b ha hb => by
    show 0 ≤ fwI _ ∧ (fwI _ ≤ 60 ∨ fwI _ = 1000000) ∧ fwI _ = 0
    unfold fwI
    refine ⟨by split <;> omega, by split <;> omega, by rw [if_pos (by omega)]⟩
  | k + 1, hk => fun a b ha hb => by
    have ih := fwO_W h k (by omega)
    by_cases z : w (k : Int) = true
    · have e : fwW w fr to tk (k + 1) = updF (fwW w fr to tk k) (10 * fr (k : Int) + to (k : Int)) (min (fwW w fr to tk k (10 * fr (k : Int) + to (k : Int))) (tk (k : Int))) := if_pos z
      rw [e]
      have y := h k (by omega) z
      have v1 := ih a b ha hb
      unfold updF
      refine ⟨?_, ?_, ?_⟩
      · by_cases q : ((10 * a + b : Nat) : Int) = 10 * fr (k : Int) + to (k : Int)
        · rw [if_pos q, ← q]; omega
        · rw [if_neg q]; exact v1.1
      · by_cases q : ((10 * a + b : Nat) : Int) = 10 * fr (k : Int) + to (k : Int)
        · rw [if_pos q, ← q]; omega
        · rw [if_neg q]; exact v1.2.1
      · by_cases q : ((10 * a + a : Nat) : Int) = 10 * fr (k : Int) + to (k : Int)
        · rw [if_pos q, ← q]; have := v1.2.2; omega
        · rw [if_neg q]; exact v1.2.2
    · have e : fwW w fr to tk (k + 1) = fwW w fr to tk k := if_neg z
      rw [e]; exact ih a b ha hb
theorem fwO_all {w : Int → Bool} {fr to tk : Int → Int} (h : fwY w fr to tk) : fwO 61440 (fwS (fwW w fr to tk 13) 1000) := by
  have s0 : fwO 60 (fwS (fwW w fr to tk 13) (100 * 0)) := fwO_W h 13 (Nat.le_refl _)
  have s1 := fwO_stage (by decide) (by decide) s0
  have s2 := fwO_stage (by decide) (by decide) s1
  have s3 := fwO_stage (by decide) (by decide) s2
  have s4 := fwO_stage (by decide) (by decide) s3
  have s5 := fwO_stage (by decide) (by decide) s4
  have s6 := fwO_stage (by decide) (by decide) s5
  have s7 := fwO_stage (by decide) (by decide) s6
  have s8 := fwO_stage (by decide) (by decide) s7
  have s9 := fwO_stage (by decide) (by decide) s8
  have s10 := fwO_stage (by decide) (by decide) s9
  exact s10
theorem fwAll_R {w : Int → Bool} {fr to tk : Int → Int} (h : fwY w fr to tk) (i : Int) (i0 : 0 ≤ i) (i1 : i < 100) : 0 ≤ fwS (fwW w fr to tk 13) 1000 i ∧ (fwS (fwW w fr to tk 13) 1000 i ≤ 70000 ∨ fwS (fwW w fr to tk 13) 1000 i = 1000000) := by
  have := fwO_all h (i / 10).toNat (i % 10).toNat (by omega) (by omega)
  rw [show ((10 * (i / 10).toNat + (i % 10).toNat : Nat) : Int) = i by omega] at this
  omega
