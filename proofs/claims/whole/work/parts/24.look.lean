/-! the class's look: the tellings -/
theorem ob_eq {σ τ : pS} (e : τ.1 = σ.1) (a : Int) : ob τ a = ob σ a := by unfold ob; rw [e]
theorem Stat.eq {σ τ : pS} (h : Stat σ) (e : τ.1 = σ.1) : Stat τ := fun k hk => (ob_eq e _).trans (h k hk)
theorem Inst6.eq {σ τ : pS} {a : Int} (h : Inst6 σ a) (e : τ.1 = σ.1) : Inst6 τ a := by
  unfold Inst6 at *
  simp only [ob_eq e]
  exact h
theorem Inst2.eq {σ τ : pS} {a : Int} {n : Nat} (h : Inst2 σ a n) (e : τ.1 = σ.1) : Inst2 τ a n := by
  unfold Inst2 at *
  simp only [ob_eq e]
  exact h
theorem Inst5.eq {σ τ : pS} {a : Int} (h : Inst5 σ a) (e : τ.1 = σ.1) : Inst5 τ a := by
  unfold Inst5 at *
  simp only [ob_eq e]
  exact h
theorem counts_CX {d : Nat} {σ : pS} (hst : Stat σ) {a x k : Int} {n : Nat} (I : Inst8 σ a n) (hx : 0 ≤ x ∧ x < n ∧ x < 2147483648) (ht : inR (rd σ (a + 1) x)) (hu : -1 ≤ rd σ (a + 2) x ∧ rd σ (a + 2) x < 2147483648) (hk : inR k) : pC mX8_counts d [(2, a), (0, x), (0, k)] σ (fun r τ => r = some (0, b2i (vCounts (rd σ (a + 1) x) (rd σ (a + 2) x) k)) ∧ τ = σ) := by
  refine g_X8_counts_0 (Nat.zero_le d) hst a x k I hx ht hk ?_ (fun _ => by omega) ?_ ?_ ?_
  all_goals (intros; refine ⟨?_, rfl⟩; unfold vCounts; first | exact b2i_one (by omega) | exact b2i_zero (by omega))
def kFr (σ τ : pS) : Prop := τ.1 = σ.1 ∧ ∀ a i : Int, a ≠ 36 → a ≠ 37 → a ≠ 38 → a ≠ 39 → ¬ (a = 35 ∧ (i = 4 ∨ i = 6)) → rd τ a i = rd σ a i
theorem kFr.wr {σ τ : pS} (h : kFr σ τ) {a i v : Int} (ha : a = 36 ∨ a = 37 ∨ a = 38 ∨ a = 39 ∨ (a = 35 ∧ (i = 4 ∨ i = 6))) : kFr σ (wr τ a i v) := ⟨h.1, fun b j h1 h2 h3 h4 h5 => by rw [rd_wr_n (by omega)]; exact h.2 b j h1 h2 h3 h4 h5⟩
def kHalf (σ : pS) (s k : Int) (t : Nat) (τ : pS) : Prop := kFr σ τ ∧ rd τ 35 4 = s ∧ rd τ 35 6 = k ∧ ∀ h : Int, 0 ≤ h → h < 8 → rd τ 36 h = (if wLast σ k h t < 0 then -1 else rd σ 97 (wLast σ k h t)) ∧ rd τ 37 h = (if wLast σ k h t < 0 then 0 else rd σ 98 (wLast σ k h t))
theorem look_in {d : Nat} {σ : pS} {Q : Option pV → pS → Prop} (hd : 3 ≤ d) (S : Stat σ) (W : RWin σ) {s l k : Int} {n2 : Nat} (I6 : Inst6 σ s) (I2 : Inst2 σ l n2) (hk : inR k)
    (K : ∀ τ : pS, kHalf σ s k (rd σ 68 51).toNat τ → pR mX3_look d 102 [(2, 35), (2, s), (2, l), (2, 23), (0, k), (0, 0), (0, 0), (0, 0)] [] τ Q) :
    ∀ (m t : Nat) (τ : pS) (u6 u7 : pV), u6.1 ≠ 1 → u7.1 ≠ 1 → (t : Int) + m = rd σ 68 51 → kHalf σ s k t τ → pR mX3_look d 30 [(2, 35), (2, s), (2, l), (2, 23), (0, k), (0, (t : Int)), u6, u7] [] τ Q := by
  obtain ⟨w1, w2, w3, w4⟩ := id W
  intro m
  induction m with
  | zero =>
    intro t τ u6 u7 h6 h7 ht i
    have n51 : rd τ 23 5 = rd σ 68 51 := (i.1.2 _ _ (by decide) (by decide) (by decide) (by decide) (by decide)).trans w1
    have et : t = (rd σ 68 51).toNat := by omega
    subst et
    refine g_X3_look_30 hd (S.eq i.1.1) s l k _ u6 u7 (I6.eq i.1.1) (I2.eq i.1.1) h6 h7 (by omega) (by omega) (fun _ => K τ i) (fun c => by omega) (fun c => by omega) (fun c => by omega) (fun c => by omega) (fun c => by omega)
  | succ m ih =>
    intro t τ u6 u7 h6 h7 ht i
    obtain ⟨i1, i2, i3, i4⟩ := id i
    have fr : ∀ a j : Int, 23 ≤ a → a ≤ 34 → rd τ a j = rd σ a j := fun a j p1 p2 => i1.2 a j (by omega) (by omega) (by omega) (by omega) (by omega)
    have n51 : rd τ 23 5 = rd σ 68 51 := (fr _ _ (by decide) (by decide)).trans w1
    have n24 := fr 24 (t : Int) (by decide) (by decide)
    have n25 := fr 25 (t : Int) (by decide) (by decide)
    have n26 := fr 26 (t : Int) (by decide) (by decide)
    have n27 := fr 27 (t : Int) (by decide) (by decide)
    have n28 := fr 28 (t : Int) (by decide) (by decide)
    have r := w4 (t : Int) (by omega) (by omega)
    have no : ∀ h : Int, wHit σ k h (t : Int) = false → wLast σ k h (t + 1) = wLast σ k h t := fun h q => by
      show (if wHit σ k h (t : Int) then (t : Int) else wLast σ k h t) = _
      rw [q]; rfl
    have yes : ∀ h : Int, wHit σ k h (t : Int) = true → wLast σ k h (t + 1) = (t : Int) := fun h q => by
      show (if wHit σ k h (t : Int) then (t : Int) else wLast σ k h t) = _
      rw [q]; rfl
    refine g_X3_look_30 hd (S.eq i1.1) s l k (t : Int) u6 u7 (I6.eq i1.1) (I2.eq i1.1) h6 h7 (by omega) (by omega) (fun c => by omega) (fun _ => counts_CX (S.eq i1.1) (inst8_23 (S.eq i1.1)) (by omega) (by simp only [Int.reduceAdd]; omega) (by simp only [Int.reduceAdd]; omega) hk) (fun c c2 => ?_) (fun c c2 => by omega) (fun c c2 => by omega) (fun c c2 => ?_)
    · simp only [Int.reduceAdd] at c2
      rw [n24, n25, r.1, r.2.2.2.1] at c2
      have e : ∀ h : Int, wLast σ k h (t + 1) = wLast σ k h t := fun h => no h (by unfold wHit; simp; intro q; exact c2)
      have := ih (t + 1) τ u6 u7 h6 h7 (by omega) ⟨i1, i2, i3, fun h p1 p2 => by rw [e]; exact i4 h p1 p2⟩
      simpa using this
    · simp only [Int.reduceAdd] at c2
      rw [n24, n25, r.1, r.2.2.2.1] at c2
      have := ih (t + 1) (wr (wr τ 36 (rd τ 26 (t : Int)) (rd τ 27 (t : Int))) 37 (rd τ 26 (t : Int)) (rd τ 28 (t : Int))) (0, rd τ 26 (t : Int)) u7 (show (0 : Nat) ≠ 1 by decide) h7 (by omega) ⟨kFr.wr (kFr.wr i1 (by omega)) (by omega), by rw [rd_wr_n (by omega), rd_wr_n (by omega)]; exact i2, by rw [rd_wr_n (by omega), rd_wr_n (by omega)]; exact i3, fun h p1 p2 => by
        by_cases e : h = rd τ 26 (t : Int)
        · have y := yes h (by unfold wHit; simp; exact ⟨by omega, c2⟩)
          rw [y, if_neg (by omega), if_neg (by omega)]
          subst e
          rw [rd_wr_n (by omega), rd_wr_same, rd_wr_same]
          omega
        · have y := no h (by unfold wHit; simp; intro q; omega)
          rw [y, rd_wr_n (by omega), rd_wr_n (by omega), rd_wr_n (by omega), rd_wr_n (by omega)]
          exact i4 h p1 p2⟩
      simpa using this
