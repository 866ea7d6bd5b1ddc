/-! minutes between places: both sides reckon them; what is above -/
theorem fwW_cg {w : Int → Bool} {fr to tk fr' to' tk' : Int → Int} (h : ∀ k : Nat, k < 13 → w (k : Int) = true → fr' (k : Int) = fr (k : Int) ∧ to' (k : Int) = to (k : Int) ∧ tk' (k : Int) = tk (k : Int)) : ∀ k : Nat, k ≤ 13 → fwW w fr' to' tk' k = fwW w fr to tk k
  | 0, _ => rfl
  | k + 1, hk => by
    have ih := fwW_cg h k (by omega)
    show (if w (k : Int) = true then updF (fwW w fr' to' tk' k) (10 * fr' (k : Int) + to' (k : Int)) (min (fwW w fr' to' tk' k (10 * fr' (k : Int) + to' (k : Int))) (tk' (k : Int))) else fwW w fr' to' tk' k) = (if w (k : Int) = true then updF (fwW w fr to tk k) (10 * fr (k : Int) + to (k : Int)) (min (fwW w fr to tk k (10 * fr (k : Int) + to (k : Int))) (tk (k : Int))) else fwW w fr to tk k)
    rw [ih]
    by_cases z : w (k : Int) = true
    · obtain ⟨e1, e2, e3⟩ := h k (by omega) z
      rw [if_pos z, if_pos z, e1, e2, e3]
    · rw [if_neg z, if_neg z]
/-- the row a holds f, the rest is as in σ -/
def hol (a : Int) (σ : pS) (f : Int → Int) (τ : pS) : Prop := τ.1 = σ.1 ∧ (∀ b i : Int, b ≠ a → rd τ b i = rd σ b i) ∧ ∀ i : Nat, i < 100 → rd τ a (i : Int) = f (i : Int)
theorem hol.put {a : Int} {σ τ : pS} {f : Int → Int} (h : hol a σ f τ) (i v : Int) : hol a σ (updF f i v) (wr τ a i v) :=
  ⟨h.1, fun b j hb => by rw [rd_wr_n (by omega)]; exact h.2.1 b j hb, fun j hj => by
    unfold updF
    rw [rd_wr]
    by_cases e : (j : Int) = i
    · rw [if_pos ⟨rfl, e⟩, if_pos e]
    · rw [if_neg (fun z => e z.2), if_neg e]; exact h.2.2 j hj⟩
theorem hol.cg {a : Int} {σ τ : pS} {f g : Int → Int} (h : hol a σ f τ) (e : ∀ i : Nat, i < 100 → f (i : Int) = g (i : Int)) : hol a σ g τ := ⟨h.1, h.2.1, fun i hi => (h.2.2 i hi).trans (e i hi)⟩
theorem hol.at {a : Int} {σ τ : pS} {f : Int → Int} (h : hol a σ f τ) {i : Int} (i0 : 0 ≤ i) (i1 : i < 100) : rd τ a i = f i := by
  have := h.2.2 i.toNat (by omega)
  rw [show ((i.toNat : Nat) : Int) = i by omega] at this
  exact this
theorem measure_C {d : Nat} {σ : pS} (hd : 1 ≤ d) (S : Stat σ) (hl : 0 ≤ rd σ 68 30 ∧ rd σ 68 30 ≤ 6) (hr : 0 ≤ rd σ 68 31 ∧ rd σ 68 31 ≤ 7) (Y : fwY (vWay (rd σ 68 30) (rd σ 68 31)) (rd σ 77) (rd σ 78) (rd σ 79)) : pC mX11_measure d [(2, 68)] σ (fun r τ => r = none ∧ hol 133 σ (fwS (fwW (vWay (rd σ 68 30) (rd σ 68 31)) (rd σ 77) (rd σ 78) (rd σ 79) 13) 1000) τ) := by
  obtain ⟨W, hW⟩ : ∃ W, W = fwW (vWay (rd σ 68 30) (rd σ 68 31)) (rd σ 77) (rd σ 78) (rd σ 79) := ⟨_, rfl⟩
  rw [← hW]
  have WR : ∀ k : Nat, k ≤ 13 → fwR (W k) := by rw [hW]; exact fwW_R Y
  have SR := fwS_R (WR 13 (Nat.le_refl _))
  -- the sums
  have step : ∀ (o a b : Nat) (τ : pS), o < 10 → a < 10 → b < 10 → hol 133 σ (fwS (W 13) (100 * o + (10 * a + b))) τ → (rd τ 133 (10 * (a : Int) + (b : Int)) ≤ rd τ 133 (10 * (a : Int) + (o : Int)) + rd τ 133 (10 * (o : Int) + (b : Int)) → hol 133 σ (fwS (W 13) (100 * o + (10 * a + (b + 1)))) τ) ∧ (rd τ 133 (10 * (a : Int) + (o : Int)) + rd τ 133 (10 * (o : Int) + (b : Int)) < rd τ 133 (10 * (a : Int) + (b : Int)) → hol 133 σ (fwS (W 13) (100 * o + (10 * a + (b + 1)))) (wr τ 133 (10 * (a : Int) + (b : Int)) (rd τ 133 (10 * (a : Int) + (o : Int)) + rd τ 133 (10 * (o : Int) + (b : Int))))) := fun o a b τ ho ha hb h => by
    have e : fwS (W 13) (100 * o + (10 * a + (b + 1))) = updF (fwS (W 13) (100 * o + (10 * a + b))) (10 * (a : Int) + (b : Int)) (min (fwS (W 13) (100 * o + (10 * a + b)) (10 * (a : Int) + (b : Int))) (fwS (W 13) (100 * o + (10 * a + b)) (10 * (a : Int) + (o : Int)) + fwS (W 13) (100 * o + (10 * a + b)) (10 * (o : Int) + (b : Int)))) := by
      show fwG (fwS (W 13) (100 * o + (10 * a + b))) (100 * o + (10 * a + b)) = _
      unfold fwG
      rw [show (100 * o + (10 * a + b)) % 100 = 10 * a + b by omega, show (100 * o + (10 * a + b)) / 100 = o by omega, show (100 * o + (10 * a + b)) % 10 = b by omega, show (10 * a + b) / 10 = a by omega]
      simp only [Int.natCast_add, Int.natCast_mul, Int.cast_ofNat_Int]
    rw [e, ← h.at (i := 10 * (a : Int) + (b : Int)) (by omega) (by omega), ← h.at (i := 10 * (a : Int) + (o : Int)) (by omega) (by omega), ← h.at (i := 10 * (o : Int) + (b : Int)) (by omega) (by omega)]
    refine ⟨fun c => h.cg (fun i hi => ?_), fun c => ?_⟩
    · unfold updF
      by_cases z : (i : Int) = 10 * (a : Int) + (b : Int)
      · rw [if_pos z, ← z, h.2.2 i hi]
        rw [← z, h.2.2 i hi] at c
        omega
      · rw [if_neg z]
    · rw [Int.min_eq_right (by omega)]
      exact h.put _ _
  have inner : ∀ (o a : Nat), o < 10 → a < 10 → (∀ τ, hol 133 σ (fwS (W 13) (100 * o + (10 * (a + 1)))) τ → pR mX11_measure d 126 [(2, 68), (0, (o : Int)), (0, ((a : Int) + 1)), (0, 10)] [] τ (fun r τ => r = none ∧ hol 133 σ (fwS (W 13) 1000) τ)) → ∀ (m b : Nat) (τ : pS), b + m = 10 → hol 133 σ (fwS (W 13) (100 * o + (10 * a + b))) τ → pR mX11_measure d 134 [(2, 68), (0, (o : Int)), (0, (a : Int)), (0, (b : Int))] [] τ (fun r τ => r = none ∧ hol 133 σ (fwS (W 13) 1000) τ) := fun o a ho ha go m => by
    induction m with
    | zero =>
      intro b τ hb h
      have eb : b = 10 := by omega
      subst eb
      exact g_X11_measure_134 hd (S.eq h.1) (o : Int) (a : Int) 10 (by decide) (fun _ => go τ h) (fun c => by omega) (fun c => by omega) (fun c => by omega) (fun c => by omega) (fun c => by omega) (fun c => by omega) (fun c => by omega)
    | succ m ih =>
      intro b τ hb h
      have ex : (b : Int) + 1 = ((b + 1 : Nat) : Int) := by omega
      have r1 := SR (100 * o + (10 * a + b)) (by omega) (10 * a + b) (by omega)
      have r2 := SR (100 * o + (10 * a + b)) (by omega) (10 * a + o) (by omega)
      have r3 := SR (100 * o + (10 * a + b)) (by omega) (10 * o + b) (by omega)
      rw [← h.2.2 _ (by omega), show ((10 * a + b : Nat) : Int) = 10 * (a : Int) + (b : Int) by omega] at r1
      rw [← h.2.2 _ (by omega), show ((10 * a + o : Nat) : Int) = 10 * (a : Int) + (o : Int) by omega] at r2
      rw [← h.2.2 _ (by omega), show ((10 * o + b : Nat) : Int) = 10 * (o : Int) + (b : Int) by omega] at r3
      refine g_X11_measure_134 hd (S.eq h.1) (o : Int) (a : Int) (b : Int) (by unfold inR; omega) (fun c => by omega) (fun _ => by omega) (fun _ => by omega) (fun _ => by omega) (fun _ => by unfold inR; omega) (fun _ => by unfold inR; omega) (fun _ c3 => ?_) (fun _ c4 => ?_)
      · rw [ex]; exact ih (b + 1) τ (by omega) ((step o a b τ ho ha (by omega) h).1 c3)
      · rw [ex]; exact ih (b + 1) _ (by omega) ((step o a b τ ho ha (by omega) h).2 c4)
  have mid : ∀ (o : Nat), o < 10 → (∀ (τ : pS) (u3 : pV), u3.1 ≠ 1 → hol 133 σ (fwS (W 13) (100 * (o + 1))) τ → pR mX11_measure d 118 [(2, 68), (0, ((o : Int) + 1)), (0, 10), u3] [] τ (fun r τ => r = none ∧ hol 133 σ (fwS (W 13) 1000) τ)) → ∀ (m a : Nat) (τ : pS) (u3 : pV), u3.1 ≠ 1 → a + m = 10 → hol 133 σ (fwS (W 13) (100 * o + 10 * a)) τ → pR mX11_measure d 126 [(2, 68), (0, (o : Int)), (0, (a : Int)), u3] [] τ (fun r τ => r = none ∧ hol 133 σ (fwS (W 13) 1000) τ) := fun o ho go m => by
    induction m with
    | zero =>
      intro a τ u3 hu ha h
      have ea : a = 10 := by omega
      subst ea
      exact g_X11_measure_126 hd (S.eq h.1) (o : Int) 10 u3 hu (by decide) (fun _ => go τ u3 hu (by rw [show 100 * (o + 1) = 100 * o + 10 * 10 by omega]; exact h)) (fun c => by omega)
    | succ m ih =>
      intro a τ u3 hu ha h
      have ex : (a : Int) + 1 = ((a + 1 : Nat) : Int) := by omega
      exact g_X11_measure_126 hd (S.eq h.1) (o : Int) (a : Int) u3 hu (by unfold inR; omega) (fun c => by omega) (fun _ => inner o a ho (by omega) (fun τ' h' => by rw [ex]; exact ih (a + 1) τ' (0, 10) (show (0 : Nat) ≠ 1 by decide) (by omega) h') 10 0 τ (by omega) h)
  have outer : ∀ (m o : Nat) (τ : pS) (u2 u3 : pV), u2.1 ≠ 1 → u3.1 ≠ 1 → o + m = 10 → hol 133 σ (fwS (W 13) (100 * o)) τ → pR mX11_measure d 118 [(2, 68), (0, (o : Int)), u2, u3] [] τ (fun r τ => r = none ∧ hol 133 σ (fwS (W 13) 1000) τ) := fun m => by
    induction m with
    | zero =>
      intro o τ u2 u3 hu2 hu3 ho h
      have eo : o = 10 := by omega
      subst eo
      exact g_X11_measure_118 hd (S.eq h.1) 10 u2 u3 hu2 hu3 (by decide) (fun _ => ⟨rfl, h⟩) (fun c => by omega)
    | succ m ih =>
      intro o τ u2 u3 hu2 hu3 ho h
      have ex : (o : Int) + 1 = ((o + 1 : Nat) : Int) := by omega
      exact g_X11_measure_118 hd (S.eq h.1) (o : Int) u2 u3 hu2 hu3 (by unfold inR; omega) (fun c => by omega) (fun _ => mid o (by omega) (fun τ' u3' hu' h' => by rw [ex]; exact ih (o + 1) τ' (0, 10) u3' (show (0 : Nat) ≠ 1 by decide) hu' (by omega) h') 10 0 τ u3 hu3 (by omega) h)
  -- the ways
  have ways : ∀ (m k : Nat) (τ : pS) (u2 u3 : pV), u2.1 ≠ 1 → u3.1 ≠ 1 → k + m = 13 → hol 133 σ (W k) τ → pR mX11_measure d 39 [(2, 68), (0, (k : Int)), u2, u3] [] τ (fun r τ => r = none ∧ hol 133 σ (fwS (W 13) 1000) τ) := fun m => by
    induction m with
    | zero =>
      intro k τ u2 u3 hu2 hu3 hk h
      have ek : k = 13 := by omega
      subst ek
      exact g_X11_measure_39 hd (S.eq h.1) 13 u2 u3 hu2 hu3 (by decide) (fun _ => outer 10 0 τ u2 u3 hu2 hu3 rfl h) (fun c => by omega) (fun c => by omega) (fun c => by omega) (fun c => by omega) (fun c => by omega) (fun c => by omega) (fun c => by omega) (fun c => by omega)
    | succ m ih =>
      intro k τ u2 u3 hu2 hu3 hk h
      have ex : (k : Int) + 1 = ((k + 1 : Nat) : Int) := by omega
      have e30 : rd τ 68 30 = rd σ 68 30 := h.2.1 _ _ (by decide)
      have e31 : rd τ 68 31 = rd σ 68 31 := h.2.1 _ _ (by decide)
      have e77 : rd τ 77 (k : Int) = rd σ 77 (k : Int) := h.2.1 _ _ (by decide)
      have e78 : rd τ 78 (k : Int) = rd σ 78 (k : Int) := h.2.1 _ _ (by decide)
      have e79 : rd τ 79 (k : Int) = rd σ 79 (k : Int) := h.2.1 _ _ (by decide)
      have y : vWay (rd τ 68 30) (rd τ 68 31) (k : Int) = true → (0 ≤ rd τ 77 (k : Int) ∧ rd τ 77 (k : Int) < 10) ∧ (0 ≤ rd τ 78 (k : Int) ∧ rd τ 78 (k : Int) < 10) ∧ 1 ≤ rd τ 79 (k : Int) ∧ rd τ 79 (k : Int) ≤ 60 := fun c => by
        rw [e30, e31] at c
        rw [e77, e78, e79]
        exact Y k (by omega) c
      have wk : vWay (rd τ 68 30) (rd τ 68 31) (k : Int) = true → W (k + 1) = updF (W k) (10 * rd τ 77 (k : Int) + rd τ 78 (k : Int)) (min (W k (10 * rd τ 77 (k : Int) + rd τ 78 (k : Int))) (rd τ 79 (k : Int))) := fun c => by
        rw [e30, e31] at c
        rw [e77, e78, e79, hW]
        exact if_pos c
      have wn : vWay (rd τ 68 30) (rd τ 68 31) (k : Int) = false → W (k + 1) = W k := fun c => by
        rw [e30, e31] at c
        rw [hW]
        exact if_neg (by rw [c]; decide)
      have rng : vWay (rd τ 68 30) (rd τ 68 31) (k : Int) = true → 0 ≤ rd τ 133 (10 * rd τ 77 (k : Int) + rd τ 78 (k : Int)) ∧ rd τ 133 (10 * rd τ 77 (k : Int) + rd τ 78 (k : Int)) ≤ 1000000 := fun c => by
        have yy := y c
        rw [h.at (by omega) (by omega)]
        have := WR k (by omega) (10 * rd τ 77 (k : Int) + rd τ 78 (k : Int)).toNat (by omega)
        rw [show (((10 * rd τ 77 (k : Int) + rd τ 78 (k : Int)).toNat : Nat) : Int) = 10 * rd τ 77 (k : Int) + rd τ 78 (k : Int) by omega] at this
        exact this
      refine g_X11_measure_39 hd (S.eq h.1) (k : Int) u2 u3 hu2 hu3 (by unfold inR; omega) (fun c => by omega) (fun _ => isWay_C (S.eq h.1) (by unfold inR; omega) (by omega) (by omega)) (fun _ c3 => ?_) (fun _ _ => by omega) (fun _ c4 => by have := y c4; omega) (fun _ c4 => by have := y c4; unfold inR; omega) (fun _ c4 => by have := rng c4; unfold inR; omega) (fun _ c4 c5 => ?_) (fun _ c4 c6 => ?_)
      · rw [ex]; exact ih (k + 1) τ u2 u3 hu2 hu3 (by omega) (by rw [wn c3]; exact h)
      · have yy := y c4
        have ea := h.at (i := 10 * rd τ 77 (k : Int) + rd τ 78 (k : Int)) (by omega) (by omega)
        rw [ex]
        refine ih (k + 1) τ u2 u3 hu2 hu3 (by omega) (h.cg (fun i hi => ?_))
        rw [wk c4]
        unfold updF
        by_cases z : (i : Int) = 10 * rd τ 77 (k : Int) + rd τ 78 (k : Int)
        · rw [if_pos z, ← z]
          rw [← z] at ea c5
          omega
        · rw [if_neg z]
      · have yy := y c4
        have ea := h.at (i := 10 * rd τ 77 (k : Int) + rd τ 78 (k : Int)) (by omega) (by omega)
        rw [ex]
        refine ih (k + 1) _ u2 u3 hu2 hu3 (by omega) ?_
        rw [wk c4, Int.min_eq_right (by omega)]
        exact h.put _ _
  have init : ∀ (m j : Nat) (τ : pS), j + m = 100 → τ.1 = σ.1 → (∀ b i : Int, b ≠ 133 → rd τ b i = rd σ b i) → (∀ i : Nat, i < j → rd τ 133 (i : Int) = fwI (i : Int)) → pR mX11_measure d 2 [(2, 68), (0, (j : Int)), (9, 0), (9, 0)] [] τ (fun r τ => r = none ∧ hol 133 σ (fwS (W 13) 1000) τ) := fun m => by
    induction m with
    | zero =>
      intro j τ hj F1 F2 all
      have ej : j = 100 := by omega
      subst ej
      exact g_X11_measure_2 hd (S.eq F1) 100 (9, 0) (9, 0) (by decide) (by decide) (by decide) (fun _ => ways 13 0 τ (9, 0) (9, 0) (by decide) (by decide) rfl (by rw [hW]; exact ⟨F1, F2, all⟩)) (fun c => by omega) (fun c => by omega) (fun c => by omega) (fun c => by omega) (fun c => by omega) (fun c => by omega) (fun c => by omega)
    | succ m ih =>
      intro j τ hj F1 F2 all
      have ex : (j : Int) + 1 = ((j + 1 : Nat) : Int) := by omega
      have nx : ∀ v : Int, v = fwI (j : Int) → pR mX11_measure d 2 [(2, 68), (0, ((j : Int) + 1)), (9, 0), (9, 0)] [] (wr τ 133 (j : Int) v) (fun r τ => r = none ∧ hol 133 σ (fwS (W 13) 1000) τ) := fun v ev => by
        rw [ex]
        refine ih (j + 1) _ (by omega) F1 (fun b i hb => by rw [rd_wr_n (by omega)]; exact F2 b i hb) (fun i hi => ?_)
        by_cases z : i = j
        · rw [z, rd_wr_same]; exact ev
        · rw [rd_wr_n (by omega)]; exact all i (by omega)
      refine g_X11_measure_2 hd (S.eq F1) (j : Int) (9, 0) (9, 0) (by decide) (by decide) (by unfold inR; omega) (fun c => by omega) (fun _ => by omega) (fun _ => by unfold inR; omega) (fun _ => by unfold inR; omega) (fun _ _ => by omega) (fun _ c3 => nx _ (by unfold fwI; rw [if_neg c3])) (fun _ _ => by omega) (fun _ c4 => nx _ (by unfold fwI; rw [if_pos c4]))
  exact g_X11_measure_0 hd S (init 100 0 σ rfl rfl (fun _ _ _ => rfl) (fun i hi => by omega))
