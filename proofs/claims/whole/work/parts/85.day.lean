/-! a day: the rounds of the class are so many turns -/
theorem dOne_spec {σ : pS} {k m p : Int} {S T : Int → Int → Int} (h : dOne σ k m p S = some T) : ∃ j : Int, 0 ≤ j ∧ j < rd σ 121 p ∧ dCan σ k m S (dWay σ p (S 122 p + j)) = true ∧ T = dTake σ m p (dWay σ p (S 122 p + j)) ((S 122 p + j + 1) % rd σ 121 p) S := by
  have sk : ∀ (f : Int → Bool) (n : Nat) (x i : Int), dSeek f n x = some i → x ≤ i ∧ i < x + n ∧ f i = true := fun f n => by
    induction n with
    | zero => intro x i e; cases e
    | succ n ih =>
      intro x i e
      unfold dSeek at e
      by_cases c : f x = true
      · rw [if_pos c] at e; cases e; exact ⟨Int.le_refl _, by omega, c⟩
      · rw [if_neg c] at e
        have := ih _ _ e
        exact ⟨by omega, by omega, this.2.2⟩
  unfold dOne at h
  cases e : dSeek (fun j => dCan σ k m S (dWay σ p (S 122 p + j))) (rd σ 121 p).toNat 0 with
  | none => rw [e] at h; cases h
  | some j =>
    rw [e] at h
    have := sk _ _ _ _ e
    cases h
    exact ⟨j, this.1, by omega, this.2.2, rfl⟩
def dNx (σ : pS) (S : Int → Int → Int) : Prop := ∀ p : Int, 0 ≤ p → p < 10 → 0 ≤ S 122 p ∧ S 122 p ≤ 6 ∧ (0 < rd σ 121 p → S 122 p < rd σ 121 p)
theorem dOne_ok {σ : pS} (C : RCro σ) {k m p : Int} {S T : Int → Int → Int} (hp : 0 ≤ p ∧ p < 10) (h : dOne σ k m p S = some T) (s1 : dSn σ S) (s2 : dNx σ S) : dSn σ T ∧ dNx σ T ∧ T 124 p = S 124 p - 1 := by
  obtain ⟨j, j0, j1, jc, e⟩ := dOne_spec h
  have cp := dOk_p C hp
  subst e
  refine ⟨fun w w6 hw => ?_, fun q q0 q1 => ?_, ?_⟩
  · have e : dTake σ m p (dWay σ p (S 122 p + j)) ((S 122 p + j + 1) % rd σ 121 p) S 127 (w - 6) = S 127 (w - 6) + dl σ m (dWay σ p (S 122 p + j)) 127 (w - 6) := rfl
    rw [e, dl_127 w6]
    have := s1 w w6 hw
    split
    · rename_i z
      rw [z] at jc
      unfold dCan at jc
      simp only [Bool.and_eq_true, decide_eq_true_eq] at jc
      omega
    · omega
  · have e : dTake σ m p (dWay σ p (S 122 p + j)) ((S 122 p + j + 1) % rd σ 121 p) S 122 q = if q = p then (S 122 p + j + 1) % rd σ 121 p else S 122 q := rfl
    rw [e]
    split
    · rename_i z
      subst z
      have a := Int.emod_nonneg (S 122 q + j + 1) (b := rd σ 121 q) (by omega)
      have b := Int.emod_lt_of_pos (S 122 q + j + 1) (b := rd σ 121 q) (by omega)
      omega
    · exact s2 q q0 q1
  · show (if p = p then S 124 p - 1 else S 124 p) = _
    rw [if_pos rfl]
theorem dTurns_ok {σ : pS} (C : RCro σ) {k m p : Int} (hp : 0 ≤ p ∧ p < 10) : ∀ (n : Nat) {S : Int → Int → Int}, dSn σ S → dNx σ S → dSn σ (dTurns σ k m p n S) ∧ dNx σ (dTurns σ k m p n S)
  | 0, S, s1, s2 => ⟨s1, s2⟩
  | n + 1, S, s1, s2 => by
    cases h : dOne σ k m p S with
    | none => rw [dTurns_none h]; exact ⟨s1, s2⟩
    | some T =>
      rw [dTurns_s h]
      have := dOne_ok C hp h s1 s2
      exact dTurns_ok C hp n this.1 this.2.1
/-- all rounds taken so far, place by place of the turns -/
def rAll (σ : pS) (k m p : Int) (S : Int → Int → Int) (R : Int) (i : Nat) : Int → Int → Int := fun a x => S a x + R * sumF (fun t => if rC σ k m p S t = true then dl σ m (rV σ p t) a x else 0) i
theorem rAll_low {σ : pS} {k m p : Int} {S : Int → Int → Int} {R : Int} {s : Nat} (hR0 : 0 ≤ R) (hR : ∀ w : Int, 6 ≤ w → dCan σ k m S w = true → (∃ i : Int, 0 ≤ i ∧ i < (s : Int) ∧ rV σ p i = w) → R * rTimes σ p s w ≤ S 127 (w - 6) - 9) {w : Int} (w6 : 6 ≤ w) {i : Nat} (hi : i ≤ s) : rAll σ k m p S R i 127 (w - 6) ≤ S 127 (w - 6) ∧ (0 ≤ S 127 (w - 6) → 0 ≤ rAll σ k m p S R i 127 (w - 6)) ∧ (i < s → rV σ p i = w → rC σ k m p S i = true → 1 ≤ R → 10 ≤ rAll σ k m p S R i 127 (w - 6)) := by
  have e : rAll σ k m p S R i 127 (w - 6) = S 127 (w - 6) + R * sumF (fun t => if rC σ k m p S t = true then dl σ m (rV σ p t) 127 (w - 6) else 0) i := rfl
  have a := sumF_mono (f := fun t => if rC σ k m p S t = true then dl σ m (rV σ p t) 127 (w - 6) else 0) (g := fun t => 0 * t) (n := i) (fun i _ _ => by
    show (if _ then _ else _) ≤ 0 * i
    rw [dl_127 w6]
    split
    · split <;> omega
    · omega)
  have b := sumF_mono (f := fun t => -1 * (if rV σ p t = w then (1 : Int) else 0)) (g := fun t => if rC σ k m p S t = true then dl σ m (rV σ p t) 127 (w - 6) else 0) (n := i) (fun i _ _ => by
    show -1 * (if _ then _ else _) ≤ (if _ then _ else _)
    rw [dl_127 w6]
    split
    · split <;> omega
    · split <;> omega)
  rw [sumF_mul] at a b
  have ti : rTimes σ p i w ≤ rTimes σ p s w := sumF_le (fun i _ => by show (0 : Int) ≤ if _ then _ else _; split <;> omega) hi
  have t0 := (rTimes_R (σ := σ) (p := p) (w := w) i).1
  have b' : -(rTimes σ p i w) ≤ sumF (fun t => if rC σ k m p S t = true then dl σ m (rV σ p t) 127 (w - 6) else 0) i := by unfold rTimes; omega
  have up : R * sumF (fun t => if rC σ k m p S t = true then dl σ m (rV σ p t) 127 (w - 6) else 0) i ≤ R * 0 := Int.mul_le_mul_of_nonneg_left (by omega) hR0
  have lo : R * -(rTimes σ p i w) ≤ R * sumF (fun t => if rC σ k m p S t = true then dl σ m (rV σ p t) 127 (w - 6) else 0) i := Int.mul_le_mul_of_nonneg_left b' hR0
  rw [Int.mul_neg] at lo
  refine ⟨by rw [e]; omega, fun s0 => ?_, fun is iv ic r1 => ?_⟩
  · by_cases c : dCan σ k m S w = true ∧ ∃ i : Int, 0 ≤ i ∧ i < (s : Int) ∧ rV σ p i = w
    · have q := hR w w6 c.1 c.2
      have : R * rTimes σ p i w ≤ R * rTimes σ p s w := Int.mul_le_mul_of_nonneg_left ti hR0
      rw [e]; omega
    · have z : sumF (fun t => if rC σ k m p S t = true then dl σ m (rV σ p t) 127 (w - 6) else 0) i = sumF (fun t => 0 * t) i := sumF_cg (fun t t0 t1 => by
        show (if _ then _ else _) = 0 * t
        rw [dl_127 w6]
        split
        · rename_i hc
          rw [if_neg (fun z => c ⟨by rw [← z]; exact hc, t, t0, by omega, z⟩)]
          omega
        · omega)
      rw [sumF_mul] at z
      rw [e, z]
      omega
  · have q := hR w w6 (by rw [← iv]; exact ic) ⟨i, by omega, by omega, iv⟩
    have st : rTimes σ p (i + 1) w = rTimes σ p i w + 1 := by
      show sumF _ i + (if _ then _ else _) = _
      rw [if_pos iv]
      rfl
    have t2 : rTimes σ p (i + 1) w ≤ rTimes σ p s w := sumF_le (fun i _ => by show (0 : Int) ≤ if _ then _ else _; split <;> omega) is
    have : R * (rTimes σ p i w + 1) ≤ R * rTimes σ p s w := Int.mul_le_mul_of_nonneg_left (by omega) hR0
    rw [Int.mul_add, Int.mul_one] at this
    rw [e]; omega
def rIn (σ : pS) (k m p : Int) (S : Int → Int → Int) (i : Nat) : Int := sumF (fun t => if rC σ k m p S t = true then 1 else 0) i
theorem rounds_end {σ : pS} {k m p : Int} {S : Int → Int → Int} {x : Int} {s R : Nat} (es : rd σ 121 p = (s : Int)) (ex : S 122 p = x) (hx : 0 ≤ x ∧ x < (s : Int)) (r1 : 1 ≤ R) (hI : 0 < rIn σ k m p S s) (hR : ∀ w : Int, 6 ≤ w → dCan σ k m S w = true → (∃ i : Int, 0 ≤ i ∧ i < (s : Int) ∧ rV σ p i = w) → (R : Int) * rTimes σ p s w ≤ S 127 (w - 6) - 9) : (∀ a i : Int, dTurns σ k m p ((R : Int) * rIn σ k m p S s).toNat S a i = if a = 122 then (if i = p then (kSeek σ k m p S (x + s - 1) ((s : Int) - 1) + 1) % s else S a i) else if a = 124 then (if i = p then S a i - (R : Int) * rIn σ k m p S s else S a i) else rAll σ k m p S R s a i) ∧ 0 ≤ kSeek σ k m p S (x + s - 1) ((s : Int) - 1) ∧ kSeek σ k m p S (x + s - 1) ((s : Int) - 1) < s := by
  have hs : 0 < s := by omega
  have J := rounds_J es ex hx hR (R * s) (Nat.le_refl _)
  have xn : ((x.toNat : Nat) : Int) = x := by omega
  have ec : rCn σ k m p S x s (R * s) = (R : Int) * rIn σ k m p S s := by
    have := sumF_cyc (f := fun i => if rC σ k m p S i = true then 1 else 0) hs x.toNat R
    rw [xn] at this
    exact this
  have ed : ∀ a i : Int, sumF (fun t => if rC σ k m p S ((x + t) % s) = true then dl σ m (rV σ p ((x + t) % s)) a i else 0) (R * s) = (R : Int) * sumF (fun t => if rC σ k m p S t = true then dl σ m (rV σ p t) a i else 0) s := fun a i => by
    have := sumF_cyc (f := fun t => if rC σ k m p S t = true then dl σ m (rV σ p t) a i else 0) hs x.toNat R
    rw [xn] at this
    exact this
  obtain ⟨g, g0, g1, g2, g3⟩ := rNx_gap (σ := σ) (k := k) (m := m) (p := p) (S := S) hx (R * s)
  have Rs : s ≤ R * s := Nat.le_mul_of_pos_left s r1
  have near : ((R * s : Nat) : Int) - g < s := by
    by_cases z : ((R * s : Nat) : Int) - g < s
    · exact z
    · exfalso
      have all : ∀ i : Int, 0 ≤ i → i < (s : Int) → rC σ k m p S i = false := fun i i0 i1 => by
        have y := g2 ((g : Int) + (i - x - g) % s) (by have := Int.emod_nonneg (i - x - g) (b := (s : Int)) (by omega); omega) (by have := Int.emod_lt_of_pos (i - x - g) (b := (s : Int)) (by omega); omega)
        rw [show x + ((g : Int) + (i - x - g) % s) = (x + g) + (i - x - g) % s by omega, Int.add_emod_emod, show x + (g : Int) + (i - x - g) = i by omega, Int.emod_eq_of_lt i0 i1] at y
        exact y
      have : rIn σ k m p S s = sumF (fun t => 0 * t) s := sumF_cg (fun t t0 t1 => by
        show (if _ then _ else _) = 0 * t
        rw [if_neg (by rw [all t t0 t1]; decide)]
        omega)
      rw [this, sumF_mul] at hI
      omega
  have gp : rC σ k m p S ((x + ((g : Int) - 1)) % s) = true := g3.resolve_left (fun z => by omega)
  have back : ∀ n : Int, (x + (s : Int) - 1 + n * ((s : Int) - 1)) % (s : Int) = (x + (((R * s : Nat) : Int) - n - 1)) % (s : Int) := fun n => by
    rw [Int.natCast_mul, show x + (s : Int) - 1 + n * ((s : Int) - 1) = (x - n - 1) + (1 + n) * (s : Int) by rw [Int.mul_sub, Int.add_mul]; omega, Int.add_mul_emod_self_right, show x + ((R : Int) * (s : Int) - n - 1) = (x - n - 1) + (R : Int) * (s : Int) by omega, Int.add_mul_emod_self_right]
  have sk : dSeek (fun n => rC σ k m p S ((x + (s : Int) - 1 + n * ((s : Int) - 1)) % rd σ 121 p)) (rd σ 121 p).toNat 0 = some (((R * s : Nat) : Int) - g) := by
    refine dSeek_some (by omega) (by rw [es]; omega) ?_ (fun i i0 i1 => ?_)
    · show rC σ k m p S _ = true
      rw [es, back, show ((R * s : Nat) : Int) - (((R * s : Nat) : Int) - g) - 1 = (g : Int) - 1 by omega]
      exact gp
    · show rC σ k m p S _ = false
      rw [es, back]
      exact g2 _ (by omega) (by omega)
  have ek : kSeek σ k m p S (x + s - 1) ((s : Int) - 1) = (x + ((g : Int) - 1)) % s := by
    unfold kSeek
    rw [sk]
    show (x + (s : Int) - 1 + (((R * s : Nat) : Int) - g) * ((s : Int) - 1)) % rd σ 121 p = _
    rw [es, back, show ((R * s : Nat) : Int) - (((R * s : Nat) : Int) - g) - 1 = (g : Int) - 1 by omega]
  refine ⟨fun a i => ?_, by rw [ek]; exact Int.emod_nonneg _ (by omega), by rw [ek]; exact Int.emod_lt_of_pos _ (by omega)⟩
  rw [← ec, J.1]
  unfold rJ rAll
  rw [ed, g1, ek, Int.emod_add_emod, show x + ((g : Int) - 1) + 1 = x + g by omega]
