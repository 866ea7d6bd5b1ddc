/-! whole rounds of turns at once -/
section
variable (σ : pS) (k m p : Int) (S : Int → Int → Int)
/-- the way of a turn, and whether it can be taken when the rounds begin -/
def rV (i : Int) : Int := rd σ 120 (6 * p + i)
def rC (i : Int) : Bool := dCan σ k m S (rV σ p i)
def rNx (x s : Int) : Nat → Int
  | 0 => x
  | j + 1 => if rC σ k m p S ((x + j) % s) = true then (x + j + 1) % s else rNx x s j
def rCn (x s : Int) (j : Nat) : Int := sumF (fun t => if rC σ k m p S ((x + t) % s) = true then 1 else 0) j
def rJ (x s : Int) (j : Nat) : Int → Int → Int := fun a i => if a = 122 then (if i = p then rNx σ k m p S x s j else S a i) else if a = 124 then (if i = p then S a i - rCn σ k m p S x s j else S a i) else S a i + sumF (fun t => if rC σ k m p S ((x + t) % s) = true then dl σ m (rV σ p ((x + t) % s)) a i else 0) j
def rTimes (s : Nat) (w : Int) : Int := sumF (fun i => if rV σ p i = w then 1 else 0) s
end
theorem rNx_gap {σ : pS} {k m p : Int} {S : Int → Int → Int} {x s : Int} (hx : 0 ≤ x ∧ x < s) : ∀ j : Nat, ∃ g : Nat, g ≤ j ∧ rNx σ k m p S x s j = (x + g) % s ∧ (∀ t : Int, (g : Int) ≤ t → t < (j : Int) → rC σ k m p S ((x + t) % s) = false) ∧ (g = 0 ∨ rC σ k m p S ((x + ((g : Int) - 1)) % s) = true)
  | 0 => ⟨0, Nat.le_refl _, by show x = (x + ((0 : Nat) : Int)) % s; rw [show x + ((0 : Nat) : Int) = x by omega, Int.emod_eq_of_lt hx.1 hx.2], fun t t0 t1 => by omega, Or.inl rfl⟩
  | j + 1 => by
    by_cases c : rC σ k m p S ((x + j) % s) = true
    · refine ⟨j + 1, Nat.le_refl _, ?_, fun t t0 t1 => by omega, Or.inr ?_⟩
      · unfold rNx
        rw [if_pos c, show x + (j : Int) + 1 = x + ((j + 1 : Nat) : Int) by omega]
      · rw [show x + (((j + 1 : Nat) : Int) - 1) = x + (j : Int) by omega]
        exact c
    · obtain ⟨g, g0, g1, g2, g3⟩ := rNx_gap (σ := σ) (k := k) (m := m) (p := p) (S := S) hx j
      refine ⟨g, by omega, ?_, fun t t0 t1 => ?_, g3⟩
      · unfold rNx
        rw [if_neg c]
        exact g1
      · by_cases z : t = (j : Int)
        · rw [z]; simpa using c
        · exact g2 t t0 (by omega)
theorem dCan_le {σ : pS} {k m w : Int} {S T : Int → Int → Int} (h : 6 ≤ w → T 127 (w - 6) ≤ S 127 (w - 6)) (c : dCan σ k m S w = false) : dCan σ k m T w = false := by
  unfold dCan at *
  cases hs : shutS σ k w (m / 60)
  · rw [hs] at c
    simp only [Bool.not_false, Bool.true_and, decide_eq_false_iff_not] at *
    intro z
    exact c (z.imp id (fun z => ⟨z.1, by have := h z.1; omega⟩))
  · rfl
theorem dCan_eq {σ : pS} {k m w : Int} {S T : Int → Int → Int} (h : 6 ≤ w → 10 ≤ T 127 (w - 6)) (c : dCan σ k m S w = true) : dCan σ k m T w = true := by
  unfold dCan at *
  simp only [Bool.and_eq_true, decide_eq_true_eq] at *
  exact ⟨c.1, c.2.imp id (fun z => ⟨z.1, h z.1⟩)⟩
theorem dl_127 {σ : pS} {m w v : Int} (h : 6 ≤ v) : dl σ m w 127 (v - 6) = if w = v then -1 else 0 := by
  unfold dl
  rw [if_neg (by decide), if_neg (by decide), if_pos rfl]
  by_cases c : w = v
  · rw [if_pos c, if_pos ⟨by omega, by omega⟩]
  · rw [if_neg c, if_neg (by omega)]
theorem rJ_dec {σ : pS} {k m p : Int} {S : Int → Int → Int} {x s w : Int} (hw : 6 ≤ w) (j : Nat) : rJ σ k m p S x s j 127 (w - 6) ≤ S 127 (w - 6) ∧ S 127 (w - 6) - sumF (fun t => if rV σ p ((x + t) % s) = w then 1 else 0) j ≤ rJ σ k m p S x s j 127 (w - 6) := by
  have e : rJ σ k m p S x s j 127 (w - 6) = S 127 (w - 6) + sumF (fun t => if rC σ k m p S ((x + t) % s) = true then dl σ m (rV σ p ((x + t) % s)) 127 (w - 6) else 0) j := rfl
  have a := sumF_mono (f := fun t => if rC σ k m p S ((x + t) % s) = true then dl σ m (rV σ p ((x + t) % s)) 127 (w - 6) else 0) (g := fun t => 0 * t) (n := j) (fun i _ _ => by
    show (if _ then _ else _) ≤ 0 * i
    rw [dl_127 hw]
    split
    · split <;> omega
    · omega)
  have b := sumF_mono (f := fun t => -1 * (if rV σ p ((x + t) % s) = w then (1 : Int) else 0)) (g := fun t => if rC σ k m p S ((x + t) % s) = true then dl σ m (rV σ p ((x + t) % s)) 127 (w - 6) else 0) (n := j) (fun i _ _ => by
    show -1 * (if _ then _ else _) ≤ (if _ then _ else _)
    rw [dl_127 hw]
    split
    · split <;> omega
    · split <;> omega)
  rw [sumF_mul] at a b
  rw [e]
  constructor <;> omega
theorem rounds_J {σ : pS} {k m p : Int} {S : Int → Int → Int} {x : Int} {s R : Nat} (es : rd σ 121 p = (s : Int)) (ex : S 122 p = x) (hx : 0 ≤ x ∧ x < (s : Int)) (hR : ∀ w : Int, 6 ≤ w → dCan σ k m S w = true → (∃ i : Int, 0 ≤ i ∧ i < (s : Int) ∧ rV σ p i = w) → (R : Int) * rTimes σ p s w ≤ S 127 (w - 6) - 9) : ∀ j : Nat, j ≤ R * s → dTurns σ k m p (rCn σ k m p S x s j).toNat S = rJ σ k m p S x s j ∧ 0 ≤ rCn σ k m p S x s j
  | 0, _ => by
    refine ⟨?_, Int.le_refl _⟩
    show S = _
    funext a i
    unfold rJ
    split
    · rename_i ha; split
      · rename_i hi; subst hi; rw [ha]; exact ex
      · rfl
    · split
      · split
        · show _ = S a i - (0 : Int); omega
        · rfl
      · show S a i = S a i + (0 : Int); omega
  | j + 1, hj => by
    obtain ⟨ih, ic⟩ := rounds_J es ex hx hR j (by omega)
    have hs : 0 < s := by omega
    have m0 := Int.emod_nonneg (x + (j : Int)) (b := (s : Int)) (by omega)
    have m1 := Int.emod_lt_of_pos (x + (j : Int)) (b := (s : Int)) (by omega)
    by_cases c : rC σ k m p S ((x + j) % s) = true
    · have ec : rCn σ k m p S x s (j + 1) = rCn σ k m p S x s j + 1 := by
        show sumF _ j + (if _ then _ else _) = _
        rw [if_pos c]
        rfl
      refine ⟨?_, by omega⟩
      rw [ec, show (rCn σ k m p S x s j + 1).toNat = (rCn σ k m p S x s j).toNat + 1 by omega]
      apply dTurns_succ
      rw [ih]
      obtain ⟨g, g0, g1, g2, g3⟩ := rNx_gap (σ := σ) (k := k) (m := m) (p := p) (S := S) hx j
      have jn : rJ σ k m p S x s j 122 p = (x + g) % s := by
        unfold rJ; rw [if_pos rfl, if_pos rfl]; exact g1
      have dw : ∀ i : Int, dWay σ p (rJ σ k m p S x s j 122 p + i) = rV σ p ((x + (g + i)) % s) := fun i => by
        unfold dWay rV
        rw [jn, es, Int.emod_add_emod, Int.add_assoc]
      have gs : (j : Int) - g < s := by
        by_cases z : (j : Int) - g < s
        · exact z
        · exfalso
          have := g2 ((j : Int) - s) (by omega) (by omega)
          rw [show x + ((j : Int) - s) = x + j - s by omega, Int.sub_emod_right, c] at this
          cases this
      have hit : dCan σ k m (rJ σ k m p S x s j) (rV σ p ((x + j) % s)) = true := by
        refine dCan_eq (fun w6 => ?_) c
        have a := (rJ_dec (σ := σ) (k := k) (m := m) (p := p) (S := S) (x := x) (s := s) w6 j).2
        have b := hR _ w6 c ⟨_, m0, m1, rfl⟩
        have cy := sumF_cyc (f := fun i => if rV σ p i = rV σ p ((x + j) % s) then 1 else 0) hs x.toNat R
        rw [show ((x.toNat : Nat) : Int) = x by omega] at cy
        have le := sumF_le (f := fun t => if rV σ p ((x + t) % s) = rV σ p ((x + j) % s) then 1 else 0) (fun i _ => by split <;> omega) hj
        have st : sumF (fun t => if rV σ p ((x + t) % s) = rV σ p ((x + j) % s) then (1 : Int) else 0) (j + 1) = sumF (fun t => if rV σ p ((x + t) % s) = rV σ p ((x + j) % s) then (1 : Int) else 0) j + 1 := by
          show _ + (if _ then _ else _) = _
          rw [if_pos rfl]
        unfold rTimes at b
        omega
      have sk : dSeek (fun i => dCan σ k m (rJ σ k m p S x s j) (dWay σ p (rJ σ k m p S x s j 122 p + i))) (rd σ 121 p).toNat 0 = some ((j : Int) - g) := by
        refine dSeek_some (by omega) (by rw [es]; omega) ?_ (fun i i0 i1 => ?_)
        · show dCan _ _ _ _ (dWay _ _ _) = true
          rw [dw, show (g : Int) + ((j : Int) - g) = j by omega]
          exact hit
        · show dCan _ _ _ _ (dWay _ _ _) = false
          rw [dw]
          exact dCan_le (fun w6 => (rJ_dec w6 j).1) (g2 _ (by omega) (by omega))
      unfold dOne
      rw [sk]
      show some (dTake σ m p _ _ _) = _
      rw [dw, show (g : Int) + ((j : Int) - g) = j by omega, jn, es]
      congr 1
      funext a i
      show (if a = 122 then (if i = p then _ else rJ σ k m p S x s j a i) else if a = 124 then (if i = p then rJ σ k m p S x s j a i - 1 else rJ σ k m p S x s j a i) else rJ σ k m p S x s j a i + _) = (if a = 122 then (if i = p then rNx σ k m p S x s (j + 1) else S a i) else if a = 124 then (if i = p then S a i - rCn σ k m p S x s (j + 1) else S a i) else S a i + (sumF _ j + (if _ then _ else _)))
      rw [ec, if_pos c]
      by_cases ha : a = 122
      · rw [if_pos ha, if_pos ha]
        by_cases hi : i = p
        · rw [if_pos hi, if_pos hi]
          unfold rNx
          rw [if_pos c, show (x + (g : Int)) % (s : Int) + ((j : Int) - g) + 1 = (x + (g : Int)) % (s : Int) + ((j : Int) - g + 1) by omega, Int.emod_add_emod, show x + (g : Int) + ((j : Int) - g + 1) = x + j + 1 by omega]
        · rw [if_neg hi, if_neg hi]
          unfold rJ
          rw [if_pos ha, if_neg hi]
      · rw [if_neg ha, if_neg ha]
        by_cases hb : a = 124
        · rw [if_pos hb, if_pos hb]
          by_cases hi : i = p
          · rw [if_pos hi, if_pos hi]
            unfold rJ
            rw [if_neg ha, if_pos hb, if_pos hi]
            omega
          · rw [if_neg hi, if_neg hi]
            unfold rJ
            rw [if_neg ha, if_pos hb, if_neg hi]
        · rw [if_neg hb, if_neg hb]
          unfold rJ
          rw [if_neg ha, if_neg hb]
          omega
    · have ec : rCn σ k m p S x s (j + 1) = rCn σ k m p S x s j := by
        show sumF _ j + (if _ then _ else _) = _
        rw [if_neg c]
        exact Int.add_zero _
      refine ⟨?_, by omega⟩
      rw [ec, ih]
      funext a i
      unfold rJ
      rw [ec]
      have en : rNx σ k m p S x s (j + 1) = rNx σ k m p S x s j := by
        show (if _ then _ else _) = _
        rw [if_neg c]
      have ed : sumF (fun t => if rC σ k m p S ((x + t) % s) = true then dl σ m (rV σ p ((x + t) % s)) a i else 0) (j + 1) = sumF (fun t => if rC σ k m p S ((x + t) % s) = true then dl σ m (rV σ p ((x + t) % s)) a i else 0) j := by
        show _ + (if _ then _ else _) = _
        rw [if_neg c]
        exact Int.add_zero _
      rw [en, ed]
