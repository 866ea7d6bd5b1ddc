/-! the reference takes a mountain over -/
def cpF (j : Int) (φ τ : pS) : Prop := τ.1 = φ.1 ∧ (∀ a i : Int, 77 ≤ a → a ≤ 82 → 0 ≤ i → i < j → rd τ a i = rd φ (a - 6) i) ∧ (∀ i : Int, 0 ≤ i → i < j → i < 6 → rd τ 84 i = i_and (rd φ 83 i) 1) ∧ ∀ a i : Int, ¬ (77 ≤ a ∧ a ≤ 82) → a ≠ 84 → rd τ a i = rd φ a i
def finM (φ υ : pS) : Prop := υ.1 = φ.1 ∧ (rd υ 68 30 = rd φ 68 17 ∧ rd υ 68 31 = rd φ 68 18 ∧ rd υ 68 32 = rd φ 68 19 ∧ rd υ 68 33 = rd φ 68 20 ∧ rd υ 68 65 = 0 ∧ rd υ 68 78 = 0) ∧ (∀ a i : Int, 77 ≤ a → a ≤ 82 → 0 ≤ i → i < 13 → rd υ a i = rd φ (a - 6) i) ∧ (∀ i : Int, 0 ≤ i → i < 6 → rd υ 84 i = i_and (rd φ 83 i) 1) ∧ (∀ p : Int, 0 ≤ p → p < 10 → rd υ 121 p = 0) ∧ (∀ r : Int, 0 ≤ r → r < 7 → rd υ 123 r = 0) ∧ (∀ i : Nat, i < 100 → rd υ 133 (i : Int) = fwS (fwW (vWay (rd φ 68 17) (rd φ 68 18)) (rd φ 71) (rd φ 72) (rd φ 73) 13) 1000 (i : Int)) ∧ ∀ a i : Int, ¬ (77 ≤ a ∧ a ≤ 82) → a ≠ 84 → a ≠ 121 → a ≠ 123 → a ≠ 133 → ¬ (a = 68 ∧ ((30 ≤ i ∧ i ≤ 33) ∨ i = 65 ∨ i = 78)) → rd υ a i = rd φ a i
theorem copyM {d : Nat} {φ : pS} (hd : 5 ≤ d) (S : Stat φ) (hL : 0 ≤ rd φ 68 17 ∧ rd φ 68 17 ≤ 6) (hR : 0 ≤ rd φ 68 18 ∧ rd φ 68 18 ≤ 7) (Y : fwY (vWay (rd φ 68 17) (rd φ 68 18)) (rd φ 71) (rd φ 72) (rd φ 73)) {Q : Option pV → pS → Prop} (hQ : ∀ υ, finM φ υ → Q (some (0, rd φ 68 20)) υ) : pR mX11_mountain d 61 [(2, 68), (0, 0)] [] φ Q := by
  have loopC : ∀ ψ : pS, ψ.1 = φ.1 → (rd ψ 68 30 = rd φ 68 17 ∧ rd ψ 68 31 = rd φ 68 18 ∧ rd ψ 68 32 = rd φ 68 19 ∧ rd ψ 68 33 = rd φ 68 20 ∧ rd ψ 68 65 = 0 ∧ rd ψ 68 78 = 0) → (∀ a i : Int, 77 ≤ a → a ≤ 82 → 0 ≤ i → i < 13 → rd ψ a i = rd φ (a - 6) i) → (∀ i : Int, 0 ≤ i → i < 6 → rd ψ 84 i = i_and (rd φ 83 i) 1) → (∀ p : Int, 0 ≤ p → p < 10 → rd ψ 121 p = 0) → (∀ a i : Int, ¬ (77 ≤ a ∧ a ≤ 82) → a ≠ 84 → a ≠ 121 → a ≠ 123 → ¬ (a = 68 ∧ ((30 ≤ i ∧ i ≤ 33) ∨ i = 65 ∨ i = 78)) → rd ψ a i = rd φ a i) → ∀ (m j : Nat) (τ : pS), j + m = 7 → τ.1 = φ.1 → (∀ r : Int, 0 ≤ r → r < j → rd τ 123 r = 0) → (∀ a i : Int, a ≠ 123 → rd τ a i = rd ψ a i) → pR mX11_mountain d 228 [(2, 68), (0, (j : Int))] [] τ Q := fun ψ p1 p2 p3 p4 p5 p6 m => by
    induction m with
    | zero =>
      intro j τ hj e1 z fr
      have ej : j = 7 := by omega
      subst ej
      have w30 : rd τ 68 30 = rd φ 68 17 := (fr _ _ (by decide)).trans p2.1
      have w31 : rd τ 68 31 = rd φ 68 18 := (fr _ _ (by decide)).trans p2.2.1
      have cg := fwW_cg (w := vWay (rd φ 68 17) (rd φ 68 18)) (fr := rd φ 71) (to := rd φ 72) (tk := rd φ 73) (fr' := rd τ 77) (to' := rd τ 78) (tk' := rd τ 79) (fun k hk _ => ⟨by rw [fr _ _ (by decide), p3 77 _ (by decide) (by decide) (by omega) (by omega)]; rfl, by rw [fr _ _ (by decide), p3 78 _ (by decide) (by decide) (by omega) (by omega)]; rfl, by rw [fr _ _ (by decide), p3 79 _ (by decide) (by decide) (by omega) (by omega)]; rfl⟩) 13 (Nat.le_refl _)
      have Y' : fwY (vWay (rd τ 68 30) (rd τ 68 31)) (rd τ 77) (rd τ 78) (rd τ 79) := fun k hk c => by
        rw [w30, w31] at c
        rw [fr 77 _ (by decide), fr 78 _ (by decide), fr 79 _ (by decide), p3 77 _ (by decide) (by decide) (by omega) (by omega), p3 78 _ (by decide) (by decide) (by omega) (by omega), p3 79 _ (by decide) (by decide) (by omega) (by omega)]
        exact Y k hk c
      refine g_X11_mountain_228 (Q1 := fun r υ => r = none ∧ hol 133 τ (fwS (fwW (vWay (rd φ 68 17) (rd φ 68 18)) (rd φ 71) (rd φ 72) (rd φ 73) 13) 1000) υ) hd (S.eq e1) 7 (by decide) (fun _ => ?_) (fun _ τ1 _ q => ?_) (fun c => by omega) (fun c => by omega)
      · have := measure_C (d := 1) (Nat.le_refl 1) (S.eq e1) (by omega) (by omega) Y'
        rw [w30, w31, cg] at this
        exact this
      · obtain ⟨-, q1, q2, q3⟩ := q
        have e33 : rd τ1 68 33 = rd φ 68 20 := by rw [q2 _ _ (by decide), fr _ _ (by decide)]; exact p2.2.2.2.1
        rw [e33]
        refine hQ τ1 ⟨q1.trans e1, ⟨?_, ?_, ?_, ?_, ?_, ?_⟩, fun a i a0 a1 i0 i1 => ?_, fun i i0 i1 => ?_, fun p h0 h1 => ?_, fun r r0 r1 => ?_, q3, fun a i b1 b2 b3 b4 b5 b6 => ?_⟩
        · rw [q2 _ _ (by decide)]; exact w30
        · rw [q2 _ _ (by decide)]; exact w31
        · rw [q2 _ _ (by decide), fr _ _ (by decide)]; exact p2.2.2.1
        · exact e33
        · rw [q2 _ _ (by decide), fr _ _ (by decide)]; exact p2.2.2.2.2.1
        · rw [q2 _ _ (by decide), fr _ _ (by decide)]; exact p2.2.2.2.2.2
        · rw [q2 _ _ (by omega), fr _ _ (by omega)]; exact p3 a i a0 a1 i0 i1
        · rw [q2 _ _ (by decide), fr _ _ (by decide)]; exact p4 i i0 i1
        · rw [q2 _ _ (by decide), fr _ _ (by decide)]; exact p5 p h0 h1
        · rw [q2 _ _ (by decide)]; exact z r r0 r1
        · rw [q2 _ _ b5, fr _ _ b4]; exact p6 a i b1 b2 b3 b4 b6
    | succ m ih =>
      intro j τ hj e1 z fr
      have ex : (j : Int) + 1 = ((j + 1 : Nat) : Int) := by omega
      refine g_X11_mountain_228 (Q1 := fun _ _ => True) hd (S.eq e1) (j : Int) (by unfold inR; omega) (fun c => by omega) (fun c => by omega) (fun _ => by omega) (fun _ => ?_)
      rw [ex]
      refine ih (j + 1) _ (by omega) e1 (fun r r0 r1 => ?_) (fun a i h => by rw [rd_wr_n (by omega)]; exact fr a i h)
      by_cases y : r = (j : Int)
      · rw [y, rd_wr_same]
      · rw [rd_wr_n (by omega)]; exact z r r0 (by omega)
  have loopB : ∀ ψ : pS, ψ.1 = φ.1 → (rd ψ 68 30 = rd φ 68 17 ∧ rd ψ 68 31 = rd φ 68 18 ∧ rd ψ 68 32 = rd φ 68 19 ∧ rd ψ 68 33 = rd φ 68 20 ∧ rd ψ 68 65 = 0 ∧ rd ψ 68 78 = 0) → (∀ a i : Int, 77 ≤ a → a ≤ 82 → 0 ≤ i → i < 13 → rd ψ a i = rd φ (a - 6) i) → (∀ i : Int, 0 ≤ i → i < 6 → rd ψ 84 i = i_and (rd φ 83 i) 1) → (∀ a i : Int, ¬ (77 ≤ a ∧ a ≤ 82) → a ≠ 84 → ¬ (a = 68 ∧ ((30 ≤ i ∧ i ≤ 33) ∨ i = 65 ∨ i = 78)) → rd ψ a i = rd φ a i) → ∀ (m j : Nat) (τ : pS), j + m = 10 → τ.1 = φ.1 → (∀ r : Int, 0 ≤ r → r < j → rd τ 121 r = 0) → (∀ a i : Int, a ≠ 121 → rd τ a i = rd ψ a i) → pR mX11_mountain d 207 [(2, 68), (0, (j : Int))] [] τ Q := fun ψ p1 p2 p3 p4 p6 m => by
    induction m with
    | zero =>
      intro j τ hj e1 z fr
      have ej : j = 10 := by omega
      subst ej
      refine g_X11_mountain_207 hd (S.eq e1) 10 (by decide) (fun _ => ?_) (fun c => by omega) (fun c => by omega)
      refine loopC τ e1 ⟨?_, ?_, ?_, ?_, ?_, ?_⟩ (fun a i a0 a1 i0 i1 => ?_) (fun i i0 i1 => ?_) z (fun a i b1 b2 b3 b4 b6 => ?_) 7 0 τ rfl e1 (fun r r0 r1 => by omega) (fun _ _ _ => rfl)
      · rw [fr _ _ (by decide)]; exact p2.1
      · rw [fr _ _ (by decide)]; exact p2.2.1
      · rw [fr _ _ (by decide)]; exact p2.2.2.1
      · rw [fr _ _ (by decide)]; exact p2.2.2.2.1
      · rw [fr _ _ (by decide)]; exact p2.2.2.2.2.1
      · rw [fr _ _ (by decide)]; exact p2.2.2.2.2.2
      · rw [fr _ _ (by omega)]; exact p3 a i a0 a1 i0 i1
      · rw [fr _ _ (by decide)]; exact p4 i i0 i1
      · rw [fr _ _ b3]; exact p6 a i b1 b2 b6
    | succ m ih =>
      intro j τ hj e1 z fr
      have ex : (j : Int) + 1 = ((j + 1 : Nat) : Int) := by omega
      refine g_X11_mountain_207 hd (S.eq e1) (j : Int) (by unfold inR; omega) (fun c => by omega) (fun _ => by omega) (fun _ => ?_)
      rw [ex]
      refine ih (j + 1) _ (by omega) e1 (fun r r0 r1 => ?_) (fun a i h => by rw [rd_wr_n (by omega)]; exact fr a i h)
      by_cases y : r = (j : Int)
      · rw [y, rd_wr_same]
      · rw [rd_wr_n (by omega)]; exact z r r0 (by omega)
  have loopA : ∀ (m j : Nat) (τ : pS), j + m = 13 → cpF (j : Int) φ τ → pR mX11_mountain d 61 [(2, 68), (0, (j : Int))] [] τ Q := fun m => by
    induction m with
    | zero =>
      intro j τ hj h
      have ej : j = 13 := by omega
      subst ej
      obtain ⟨h1, h2, h3, h4⟩ := h
      refine g_X11_mountain_61 hd (S.eq h1) 13 (by decide) (fun _ => ?_) (fun c => by omega) (fun c => by omega) (fun c => by omega) (fun c => by omega)
      have e17 : rd τ 68 17 = rd φ 68 17 := h4 _ _ (by decide) (by decide)
      have e18 : rd τ 68 18 = rd φ 68 18 := h4 _ _ (by decide) (by decide)
      have e19 : rd τ 68 19 = rd φ 68 19 := h4 _ _ (by decide) (by decide)
      have e20 : rd τ 68 20 = rd φ 68 20 := h4 _ _ (by decide) (by decide)
      rw [e17, e18, e19, e20]
      have g : ∀ a i : Int, ¬ (a = 68 ∧ ((30 ≤ i ∧ i ≤ 33) ∨ i = 65 ∨ i = 78)) → rd (wr (wr (wr (wr (wr (wr τ 68 30 (rd φ 68 17)) 68 31 (rd φ 68 18)) 68 32 (rd φ 68 19)) 68 33 (rd φ 68 20)) 68 65 0) 68 78 0) a i = rd τ a i := fun a i p => by
        rw [rd_wr_n (by omega), rd_wr_n (by omega), rd_wr_n (by omega), rd_wr_n (by omega), rd_wr_n (by omega), rd_wr_n (by omega)]
      refine loopB (wr (wr (wr (wr (wr (wr τ 68 30 (rd φ 68 17)) 68 31 (rd φ 68 18)) 68 32 (rd φ 68 19)) 68 33 (rd φ 68 20)) 68 65 0) 68 78 0) h1 ⟨?_, ?_, ?_, ?_, ?_, ?_⟩ (fun a i a0 a1 i0 i1 => by rw [g _ _ (by omega)]; exact h2 a i a0 a1 i0 i1) (fun i i0 i1 => by rw [g _ _ (by omega)]; exact h3 i i0 (by omega) i1) (fun a i b1 b2 b3 => by rw [g _ _ b3]; exact h4 a i b1 b2) 10 0 _ rfl h1 (fun r r0 r1 => by omega) (fun _ _ _ => rfl)
      · rw [rd_wr_n (by omega), rd_wr_n (by omega), rd_wr_n (by omega), rd_wr_n (by omega), rd_wr_n (by omega), rd_wr_same]
      · rw [rd_wr_n (by omega), rd_wr_n (by omega), rd_wr_n (by omega), rd_wr_n (by omega), rd_wr_same]
      · rw [rd_wr_n (by omega), rd_wr_n (by omega), rd_wr_n (by omega), rd_wr_same]
      · rw [rd_wr_n (by omega), rd_wr_n (by omega), rd_wr_same]
      · rw [rd_wr_n (by omega), rd_wr_same]
      · rw [rd_wr_same]
    | succ m ih =>
      intro j τ hj h
      have ex : (j : Int) + 1 = ((j + 1 : Nat) : Int) := by omega
      obtain ⟨h1, h2, h3, h4⟩ := h
      have s71 : rd τ 71 (j : Int) = rd φ 71 (j : Int) := h4 _ _ (by decide) (by decide)
      have s72 : rd τ 72 (j : Int) = rd φ 72 (j : Int) := h4 _ _ (by decide) (by decide)
      have s73 : rd τ 73 (j : Int) = rd φ 73 (j : Int) := h4 _ _ (by decide) (by decide)
      have s74 : rd τ 74 (j : Int) = rd φ 74 (j : Int) := h4 _ _ (by decide) (by decide)
      have s75 : rd τ 75 (j : Int) = rd φ 75 (j : Int) := h4 _ _ (by decide) (by decide)
      have s76 : rd τ 76 (j : Int) = rd φ 76 (j : Int) := h4 _ _ (by decide) (by decide)
      have s83 : rd τ 83 (j : Int) = rd φ 83 (j : Int) := h4 _ _ (by decide) (by decide)
      have g : ∀ ψ : pS, ψ = wr (wr (wr (wr (wr (wr τ 77 (j : Int) (rd φ 71 (j : Int))) 78 (j : Int) (rd φ 72 (j : Int))) 79 (j : Int) (rd φ 73 (j : Int))) 80 (j : Int) (rd φ 74 (j : Int))) 81 (j : Int) (rd φ 75 (j : Int))) 82 (j : Int) (rd φ 76 (j : Int)) → ∀ a i : Int, rd ψ a i = if 77 ≤ a ∧ a ≤ 82 ∧ i = (j : Int) then rd φ (a - 6) i else rd τ a i := fun ψ e a i => by
        by_cases y : 77 ≤ a ∧ a ≤ 82 ∧ i = (j : Int)
        · rw [if_pos y, e]
          obtain ⟨y1, y2, y3⟩ := y
          rw [y3]
          have : a = 77 ∨ a = 78 ∨ a = 79 ∨ a = 80 ∨ a = 81 ∨ a = 82 := by omega
          rcases this with rfl | rfl | rfl | rfl | rfl | rfl
          · rw [rd_wr_n (by omega), rd_wr_n (by omega), rd_wr_n (by omega), rd_wr_n (by omega), rd_wr_n (by omega), rd_wr_same]; rfl
          · rw [rd_wr_n (by omega), rd_wr_n (by omega), rd_wr_n (by omega), rd_wr_n (by omega), rd_wr_same]; rfl
          · rw [rd_wr_n (by omega), rd_wr_n (by omega), rd_wr_n (by omega), rd_wr_same]; rfl
          · rw [rd_wr_n (by omega), rd_wr_n (by omega), rd_wr_same]; rfl
          · rw [rd_wr_n (by omega), rd_wr_same]; rfl
          · rw [rd_wr_same]; rfl
        · rw [if_neg y, e, rd_wr_n (by omega), rd_wr_n (by omega), rd_wr_n (by omega), rd_wr_n (by omega), rd_wr_n (by omega), rd_wr_n (by omega)]
      refine g_X11_mountain_61 hd (S.eq h1) (j : Int) (by unfold inR; omega) (fun c => by omega) (fun _ => by omega) (fun _ c3 => ?_) (fun _ _ => by omega) (fun _ c4 => ?_)
      · rw [s71, s72, s73, s74, s75, s76, ex]
        refine ih (j + 1) _ (by omega) ⟨h1, fun a i a0 a1 i0 i1 => ?_, fun i i0 i1 i2 => ?_, fun a i b1 b2 => ?_⟩
        · rw [g _ rfl]
          by_cases y : i = (j : Int)
          · rw [if_pos ⟨a0, a1, y⟩]
          · rw [if_neg (fun z => y z.2.2)]; exact h2 a i a0 a1 i0 (by omega)
        · rw [g _ rfl, if_neg (by omega)]; exact h3 i i0 (by omega) i2
        · rw [g _ rfl, if_neg (by omega)]; exact h4 a i b1 b2
      · rw [s71, s72, s73, s74, s75, s76, s83, ex]
        refine ih (j + 1) _ (by omega) ⟨h1, fun a i a0 a1 i0 i1 => ?_, fun i i0 i1 i2 => ?_, fun a i b1 b2 => ?_⟩
        · rw [rd_wr_n (by omega), g _ rfl]
          by_cases y : i = (j : Int)
          · rw [if_pos ⟨a0, a1, y⟩]
          · rw [if_neg (fun z => y z.2.2)]; exact h2 a i a0 a1 i0 (by omega)
        · by_cases y : i = (j : Int)
          · rw [y, rd_wr_same]
          · rw [rd_wr_n (by omega), g _ rfl, if_neg (by omega)]; exact h3 i i0 (by omega) i2
        · rw [rd_wr_n (by omega), g _ rfl, if_neg (by omega)]; exact h4 a i b1 b2
  exact loopA 13 0 φ rfl ⟨rfl, fun a i _ _ i0 i1 => by omega, fun i i0 i1 _ => by omega, fun _ _ _ _ => rfl⟩
