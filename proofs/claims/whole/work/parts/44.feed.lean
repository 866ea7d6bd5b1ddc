/-! turn, pass, feed -/
theorem feed_CX {d : Nat} {σ : pS} (hd : 1 ≤ d) (S : Stat σ) {x1 x2 x3 x4 x5 t : Int} (h : rd σ 0 1 = t) (h0 : 0 ≤ t) (h1 : t ≤ 1400) : pC mX10_feed d [(2, 0), (0, x1), (0, x2), (0, x3), (0, x4), (0, x5)] σ (fun r τ => (1380 < t ∧ r = some (0, (-1)) ∧ τ = σ) ∨ (t ≤ 1380 ∧ r = some (0, t + 20) ∧ τ = put20 bC σ 1 0 t x1 x2 x3 x4 x5)) := by
  refine g_X10_feed_0 (Q1 := fun r τ => r = none ∧ τ = (put4 (bC x1) σ 1 0 t)) (Q2 := fun r τ => r = none ∧ τ = (put4 (bC x2) (put4 (bC x1) σ 1 0 t) 1 0 (t + 4))) (Q3 := fun r τ => r = none ∧ τ = (put4 (bC x3) (put4 (bC x2) (put4 (bC x1) σ 1 0 t) 1 0 (t + 4)) 1 0 (t + 8))) (Q4 := fun r τ => r = none ∧ τ = (put4 (bC x4) (put4 (bC x3) (put4 (bC x2) (put4 (bC x1) σ 1 0 t) 1 0 (t + 4)) 1 0 (t + 8)) 1 0 (t + 12))) (Q5 := fun r τ => r = none ∧ τ = (put4 (bC x5) (put4 (bC x4) (put4 (bC x3) (put4 (bC x2) (put4 (bC x1) σ 1 0 t) 1 0 (t + 4)) 1 0 (t + 8)) 1 0 (t + 12)) 1 0 (t + 16))) hd S x1 x2 x3 x4 x5 (by omega) (fun _ => putOnTape_C S (h) (by omega) (by omega)) (fun _ τ1 e1 q1 => by rw [q1.2]; exact putOnTape_C S.put4 (put4_B _ _ _ _ _) (by omega) (by omega)) (fun _ τ1 e1 q1 τ2 e2 q2 => by rw [q2.2]; exact putOnTape_C S.put4.put4 ((put4_B _ _ _ _ _).trans (by omega)) (by omega) (by omega)) (fun _ τ1 e1 q1 τ2 e2 q2 τ3 e3 q3 => by rw [q3.2]; exact putOnTape_C S.put4.put4.put4 ((put4_B _ _ _ _ _).trans (by omega)) (by omega) (by omega)) (fun _ τ1 e1 q1 τ2 e2 q2 τ3 e3 q3 τ4 e4 q4 => by rw [q4.2]; exact putOnTape_C S.put4.put4.put4.put4 ((put4_B _ _ _ _ _).trans (by omega)) (by omega) (by omega)) ?_ ?_
  · intro c1 τ1 e1 q1 τ2 e2 q2 τ3 e3 q3 τ4 e4 q4 τ5 e5 q5
    rw [q5.2]
    exact Or.inr ⟨by omega, by rw [put4_B, show t + 16 + 4 = t + 20 by omega], rfl⟩
  · intro c1
    exact Or.inl ⟨by omega, rfl, rfl⟩
theorem feed_CM {d : Nat} {σ : pS} (hd : 1 ≤ d) (S : Stat σ) {x1 x2 x3 x4 x5 t : Int} (h : rd σ 68 1 = t) (h0 : 0 ≤ t) (h1 : t ≤ 1400) : pC mX11_feed d [(2, 68), (0, x1), (0, x2), (0, x3), (0, x4), (0, x5)] σ (fun r τ => (1380 < t ∧ r = some (0, (-1)) ∧ τ = σ) ∨ (t ≤ 1380 ∧ r = some (0, t + 20) ∧ τ = put20 bM σ 69 68 t x1 x2 x3 x4 x5)) := by
  refine g_X11_feed_0 (Q1 := fun r τ => r = none ∧ τ = (put4 (bM x1) σ 69 68 t)) (Q2 := fun r τ => r = none ∧ τ = (put4 (bM x2) (put4 (bM x1) σ 69 68 t) 69 68 (t + 4))) (Q3 := fun r τ => r = none ∧ τ = (put4 (bM x3) (put4 (bM x2) (put4 (bM x1) σ 69 68 t) 69 68 (t + 4)) 69 68 (t + 8))) (Q4 := fun r τ => r = none ∧ τ = (put4 (bM x4) (put4 (bM x3) (put4 (bM x2) (put4 (bM x1) σ 69 68 t) 69 68 (t + 4)) 69 68 (t + 8)) 69 68 (t + 12))) (Q5 := fun r τ => r = none ∧ τ = (put4 (bM x5) (put4 (bM x4) (put4 (bM x3) (put4 (bM x2) (put4 (bM x1) σ 69 68 t) 69 68 (t + 4)) 69 68 (t + 8)) 69 68 (t + 12)) 69 68 (t + 16))) hd S x1 x2 x3 x4 x5 (by omega) (fun _ => four_C S (h) (by omega) (by omega)) (fun _ τ1 e1 q1 => by rw [q1.2]; exact four_C S.put4 (put4_B _ _ _ _ _) (by omega) (by omega)) (fun _ τ1 e1 q1 τ2 e2 q2 => by rw [q2.2]; exact four_C S.put4.put4 ((put4_B _ _ _ _ _).trans (by omega)) (by omega) (by omega)) (fun _ τ1 e1 q1 τ2 e2 q2 τ3 e3 q3 => by rw [q3.2]; exact four_C S.put4.put4.put4 ((put4_B _ _ _ _ _).trans (by omega)) (by omega) (by omega)) (fun _ τ1 e1 q1 τ2 e2 q2 τ3 e3 q3 τ4 e4 q4 => by rw [q4.2]; exact four_C S.put4.put4.put4.put4 ((put4_B _ _ _ _ _).trans (by omega)) (by omega) (by omega)) ?_ ?_
  · intro c1 τ1 e1 q1 τ2 e2 q2 τ3 e3 q3 τ4 e4 q4 τ5 e5 q5
    rw [q5.2]
    exact Or.inr ⟨by omega, by rw [put4_B, show t + 16 + 4 = t + 20 by omega], rfl⟩
  · intro c1
    exact Or.inl ⟨by omega, rfl, rfl⟩
theorem op_feed {n d : Nat} {σ : pS} (hd : 100 ≤ d) (h : RB n σ) (hn : n < 512) {x1 : Int} (h1 : inR x1) {x2 : Int} (h2 : inR x2) {x3 : Int} (h3 : inR x3) {x4 : Int} (h4 : inR x4) {x5 : Int} (h5 : inR x5) : pC mX10_feed d [(2, 0), (0, x1), (0, x2), (0, x3), (0, x4), (0, x5)] σ (fun r τ => pC mX11_feed d [(2, 68), (0, x1), (0, x2), (0, x3), (0, x4), (0, x5)] τ (fun q υ => q = r ∧ RB (n + 1) υ)) := by
  have H := RB.up h hn
  obtain ⟨S, Z, T, F, C, L, W, P, K, R, D, E⟩ := h
  obtain ⟨t1, t2, t3, t4⟩ := id T
  refine pC.mono (feed_CX (by omega) S (x1 := x1) (x2 := x2) (x3 := x3) (x4 := x4) (x5 := x5) t1 t2 t3) (fun r τ le1 q => ?_)
  rcases q with ⟨a1, a2, a3⟩ | ⟨a1, a2, a3⟩
  · subst a2; subst a3
    refine pC.mono (feed_CM (by omega) S (x1 := x1) (x2 := x2) (x3 := x3) (x4 := x4) (x5 := x5) rfl t2 t3) (fun r τ le1 q => ?_)
    rcases q with ⟨b1, b2, b3⟩ | ⟨b1, b2, b3⟩
    · subst b2; subst b3
      exact ⟨rfl, H⟩
    · omega
  · subst a2
    have l1 : pLe σ τ := by
      rw [a3]
      exact pLe.tr (pLe.tr (pLe.tr (pLe.tr (pLe.put4 _ (by decide) (by decide)) (pLe.put4 _ (by decide) (by decide))) (pLe.put4 _ (by decide) (by decide))) (pLe.put4 _ (by decide) (by decide))) (pLe.put4 _ (by decide) (by decide))
    have z1 : τ.1 = σ.1 := by rw [a3]; rfl
    have m1 : ∀ a i : Int, a ≠ 1 → ¬ (a = 0 ∧ i = 1) → rd τ a i = rd σ a i := fun a i p1 p2 => by
      rw [a3, rd_put20 _ _ (by decide), if_neg p2, if_neg (fun q => p1 q.1)]
    have m2 : rd τ 0 1 = rd σ 68 1 + 20 := by rw [a3, rd_put20 _ _ (by decide), if_pos ⟨rfl, rfl⟩]
    have m3 : ∀ i : Int, rd τ 1 i = if rd σ 68 1 ≤ i ∧ i < rd σ 68 1 + 20 then pick5 bC x1 x2 x3 x4 x5 (i - rd σ 68 1) else rd σ 1 i := fun i => by
      rw [a3, rd_put20 _ _ (by decide), if_neg (by omega)]
      by_cases c : rd σ 68 1 ≤ i ∧ i < rd σ 68 1 + 20
      · rw [if_pos ⟨rfl, c⟩, if_pos c]
      · rw [if_neg (fun q => c q.2), if_neg c]
    clear a3
    have S1 : Stat τ := S.le l1
    have h6 : rd τ 68 1 = rd σ 68 1 := m1 _ _ (by decide) (by decide)
    refine pC.mono (feed_CM (by omega) S1 (x1 := x1) (x2 := x2) (x3 := x3) (x4 := x4) (x5 := x5) h6 t2 t3) (fun r υ le2 q => ?_)
    rcases q with ⟨b1, b2, b3⟩ | ⟨b1, b2, b3⟩
    · omega
    · subst b2
      refine ⟨rfl, ?_⟩
      have l2 : pLe τ υ := by
        rw [b3]
        exact pLe.tr (pLe.tr (pLe.tr (pLe.tr (pLe.put4 _ (by decide) (by decide)) (pLe.put4 _ (by decide) (by decide))) (pLe.put4 _ (by decide) (by decide))) (pLe.put4 _ (by decide) (by decide))) (pLe.put4 _ (by decide) (by decide))
      have z2 : υ.1 = σ.1 := by rw [b3]; exact z1
      have n1 : ∀ a i : Int, a ≠ 69 → ¬ (a = 68 ∧ i = 1) → rd υ a i = rd τ a i := fun a i p1 p2 => by
        rw [b3, rd_put20 _ _ (by decide), if_neg p2, if_neg (fun q => p1 q.1)]
      have n2 : rd υ 68 1 = rd σ 68 1 + 20 := by rw [b3, rd_put20 _ _ (by decide), if_pos ⟨rfl, rfl⟩]
      have n3 : ∀ i : Int, rd υ 69 i = if rd σ 68 1 ≤ i ∧ i < rd σ 68 1 + 20 then pick5 bM x1 x2 x3 x4 x5 (i - rd σ 68 1) else rd τ 69 i := fun i => by
        rw [b3, rd_put20 _ _ (by decide), if_neg (by omega)]
        by_cases c : rd σ 68 1 ≤ i ∧ i < rd σ 68 1 + 20
        · rw [if_pos ⟨rfl, c⟩, if_pos c]
        · rw [if_neg (fun q => c q.2), if_neg c]
      clear b3
      have w : ∀ a i : Int, a ≠ 1 → a ≠ 69 → ¬ (a = 0 ∧ i = 1) → ¬ (a = 68 ∧ i = 1) → rd υ a i = rd σ a i := fun a i p1 p2 p3 p4 => (n1 a i p2 p4).trans (m1 a i p1 p3)
      have l := pLe.tr l1 l2
      refine ⟨S.le l, Z.up z2, ⟨?_, ?_, ?_, fun i h0 h1 => ?_⟩, F.mv ?_, (C.mv ?_).up hn, L.mv l ?_, W.mv ?_, P.mv ?_, K.mv l ?_ (fun j h0 h1 h2 => w _ _ (by omega) (by omega) (by omega) (by omega)), R.mv ?_, D.mv ?_, E.mv l ?_⟩
      · rw [n2, n1 _ _ (by decide) (by decide), m2]
      · rw [n2]; omega
      · rw [n2]; omega
      · rw [n3, n1 1 i (by decide) (by omega), m3, m1 69 i (by decide) (by omega)]
        split
        · exact pick5_CM _ _ _ _ _ _
        · exact t4 i h0 h1
      all_goals
        intro x y p
        first
          | unfold PFau at p
          | unfold PClk at p
          | unfold PSlo at p
          | unfold PWin at p
          | unfold PPas at p
          | unfold PSki at p
          | unfold PCro at p
          | unfold PDay at p
          | unfold PExt MF at p
        exact w _ _ (by omega) (by omega) (by omega) (by omega)
