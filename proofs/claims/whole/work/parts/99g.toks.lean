/-! the reference reads a number -/
def nmOut (σ φ : pS) (n p : Int) (r : Option pV) (τ : pS) : Prop := r = none ∧ τ.1 = φ.1 ∧ (∀ a i : Int, ¬ (a = 68 ∧ (i = 4 ∨ i = 6 ∨ i = 8)) → rd τ a i = rd φ a i) ∧ ∃ l : Nat, isRun (rd σ 1) n vDig p l ∧ (((4 < l ∨ (p + l < n ∧ vLet (rd σ 1 (p + l)) = true)) ∧ rd τ 68 6 = 4 ∧ rd τ 68 4 = p) ∨ (¬ (4 < l ∨ (p + l < n ∧ vLet (rd σ 1 (p + l)) = true)) ∧ rd τ 68 6 = 2 ∧ rd τ 68 4 = p + l ∧ rd τ 68 8 = tNum (rd σ 1) p l))
theorem nextNum_C {d : Nat} {σ φ : pS} (hd : 1 ≤ d) (S : Stat φ) {p n : Int} (hp : 0 ≤ p ∧ p ≤ n) (X : txt σ n) (M : txM σ n φ) (h4 : rd φ 68 4 = p) (h8 : rd φ 68 8 = 0) (x1 : Int) : pR mX11_next d 205 [(2, 68), (0, x1), (0, 0)] [] φ (nmOut σ φ n p) := by
  obtain ⟨n0, n1, hT⟩ := X
  have loop : ∀ (m j : Nat) (ψ : pS), p + j + m = n → (∀ i : Nat, i < j → vDig (rd σ 1 (p + i)) = true) → ψ.1 = φ.1 → (∀ a i : Int, ¬ (a = 68 ∧ i = 8) → rd ψ a i = rd φ a i) → rd ψ 68 8 = tNum (rd σ 1) p j → pR mX11_next d 205 [(2, 68), (0, x1), (0, (j : Int))] [] ψ (nmOut σ φ n p) := fun m => by
    induction m with
    | zero =>
      intro j ψ hj all F1 F2 e8
      have S2 := S.eq F1
      have g4 : rd ψ 68 4 = p := (F2 68 4 (by decide)).trans h4
      have g5 : rd ψ 68 5 = n := (F2 68 5 (by decide)).trans M.1
      have M2 : txM σ n ψ := ⟨g5, fun i i0 i1 => (F2 69 i (by omega)).trans (M.2 i i0 i1)⟩
      have hv : vHere ψ (j : Int) = -1 := by rw [M2.here (by omega), g4, if_neg (by omega)]
      have run : isRun (rd σ 1) n vDig p j := ⟨fun i hi => ⟨by omega, all i hi⟩, by omega, fun c => by omega⟩
      have hc := here_C (d := 0) S2 (k := (j : Int)) (by omega) (by omega) (by omega)
      refine g_X11_next_205 hd S2 x1 (j : Int) hc (mDigit_C S2 (by rw [hv]; decide)) (fun _ => by unfold inR; omega) (fun _ c3 => ⟨rfl, F1, fun a i q => by rw [rd_wr_n (by omega)]; exact F2 a i (by omega), j, run, Or.inl ⟨Or.inl (by omega), rd_wr_same _ _ _ _, by rw [rd_wr_n (by omega), g4]⟩⟩) (fun _ _ => hc) (fun _ _ => mLetter_C S2 (by rw [hv]; decide)) (fun _ c4 _ => ⟨rfl, F1, fun a i q => by rw [rd_wr_n (by omega), rd_wr_n (by omega)]; exact F2 a i (by omega), j, run, Or.inr ⟨fun z => by rcases z with y | y <;> omega, by rw [rd_wr_n (by omega), rd_wr_same], by rw [rd_wr_same, g4], by rw [rd_wr_n (by omega), rd_wr_n (by omega), e8]⟩⟩) (fun _ _ c => by rw [hv] at c; exact absurd c (by decide)) (fun c => by rw [hv] at c; exact absurd c (by decide)) (fun c => by rw [hv] at c; exact absurd c (by decide)) (fun c => by rw [hv] at c; exact absurd c (by decide)) (fun c => by rw [hv] at c; exact absurd c (by decide))
    | succ m ih =>
      intro j ψ hj all F1 F2 e8
      have S2 := S.eq F1
      have g4 : rd ψ 68 4 = p := (F2 68 4 (by decide)).trans h4
      have g5 : rd ψ 68 5 = n := (F2 68 5 (by decide)).trans M.1
      have M2 : txM σ n ψ := ⟨g5, fun i i0 i1 => (F2 69 i (by omega)).trans (M.2 i i0 i1)⟩
      have tb := hT (p + (j : Int)) (by omega) (by omega)
      have ms := mod_sig tb
      have hv : vHere ψ (j : Int) = rd σ 1 (p + (j : Int)) % 256 := by rw [M2.here (by omega), g4, if_pos (by omega)]
      have run : vDig (rd σ 1 (p + (j : Int))) = false → isRun (rd σ 1) n vDig p j := fun c => ⟨fun i hi => ⟨by omega, all i hi⟩, by omega, fun _ => c⟩
      have more : vDig (rd σ 1 (p + (j : Int))) = true → ∀ i : Nat, i < j + 1 → vDig (rd σ 1 (p + i)) = true := fun c i hi => by
        by_cases z : i = j
        · rw [z]; exact c
        · exact all i (by omega)
      have hc := here_C (d := 0) S2 (k := (j : Int)) (by omega) (by omega) (by omega)
      have ex : (j : Int) + 1 = ((j + 1 : Nat) : Int) := by omega
      have eN : tNum (rd σ 1) p (j + 1) = if j < 4 then tNum (rd σ 1) p j * 10 + rd σ 1 (p + j) - 48 else tNum (rd σ 1) p j := rfl
      refine g_X11_next_205 hd S2 x1 (j : Int) hc (mDigit_C S2 (by rw [hv]; unfold inR; omega)) (fun _ => by unfold inR; omega) (fun c1 c3 => ⟨rfl, F1, fun a i q => by rw [rd_wr_n (by omega)]; exact F2 a i (by omega), j, run (by rw [hv, ms.2.1] at c1; exact c1), Or.inl ⟨Or.inl (by omega), rd_wr_same _ _ _ _, by rw [rd_wr_n (by omega), g4]⟩⟩) (fun _ _ => hc) (fun _ _ => mLetter_C S2 (by rw [hv]; unfold inR; omega)) (fun c1 c4 c5 => ⟨rfl, F1, fun a i q => by rw [rd_wr_n (by omega), rd_wr_n (by omega)]; exact F2 a i (by omega), j, run (by rw [hv, ms.2.1] at c1; exact c1), Or.inr ⟨(fun z => by rcases z with y | y; omega; rw [hv, ms.1, y.2] at c5; cases c5), by rw [rd_wr_n (by omega), rd_wr_same], by rw [rd_wr_same, g4], by rw [rd_wr_n (by omega), rd_wr_n (by omega), e8]⟩⟩) (fun c1 c4 c6 => ⟨rfl, F1, fun a i q => by rw [rd_wr_n (by omega)]; exact F2 a i (by omega), j, run (by rw [hv, ms.2.1] at c1; exact c1), Or.inl ⟨Or.inr ⟨by omega, by rw [hv, ms.1] at c6; exact c6⟩, rd_wr_same _ _ _ _, by rw [rd_wr_n (by omega), g4]⟩⟩) (fun _ => by unfold inR; omega) (fun c2 c7 => ?_) (fun _ _ => hc) (fun c2 c8 => ?_)
      · rw [hv, ms.2.1] at c2
        rw [ex]
        exact ih (j + 1) ψ (by omega) (more c2) F1 F2 (by rw [e8, eN, if_neg (by omega)])
      · rw [hv, ms.2.1] at c2
        rw [ex, hv, let_mod tb (Or.inr (Or.inl c2)), e8]
        refine ih (j + 1) _ (by omega) (more c2) F1 (fun a i q => by rw [rd_wr_n q]; exact F2 a i q) ?_
        rw [rd_wr_same, eN, if_pos (by omega)]
        omega
  exact loop (n - p).toNat 0 φ (by omega) (fun i hi => by omega) rfl (fun _ _ _ => rfl) h8
