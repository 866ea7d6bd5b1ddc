/-! the reference reads a word -/
def wdOut (σ φ : pS) (n p : Int) (r : Option pV) (τ : pS) : Prop := r = none ∧ τ.1 = φ.1 ∧ (∀ a i : Int, ¬ (a = 68 ∧ (i = 4 ∨ i = 6 ∨ i = 9)) → rd τ a i = rd φ a i) ∧ ∃ l : Nat, isRun (rd σ 1) n vLet p l ∧ ((l ≤ 8 ∧ rd τ 68 6 = 1 ∧ rd τ 68 4 = p + l ∧ rd τ 68 9 = w256 (tRev (rd σ 1) p l)) ∨ (8 < l ∧ rd τ 68 6 = 4 ∧ rd τ 68 4 = p))
theorem nextWord_C {d : Nat} {σ φ : pS} (hd : 1 ≤ d) (S : Stat φ) {p n : Int} (hp : 0 ≤ p ∧ p ≤ n) (X : txt σ n) (M : txM σ n φ) (h4 : rd φ 68 4 = p) (h9 : rd φ 68 9 = 0) (x1 : Int) : pR mX11_next d 139 [(2, 68), (0, x1), (0, 0)] [] φ (wdOut σ φ n p) := by
  obtain ⟨n0, n1, hT⟩ := X
  have loop : ∀ (m j : Nat) (ψ : pS), p + j + m = n → (∀ i : Nat, i < j → vLet (rd σ 1 (p + i)) = true) → ψ.1 = φ.1 → (∀ a i : Int, ¬ (a = 68 ∧ i = 9) → rd ψ a i = rd φ a i) → rd ψ 68 9 = w256 (tRev (rd σ 1) p (min j 8)) → pR mX11_next d 139 [(2, 68), (0, x1), (0, (j : Int))] [] ψ (wdOut σ φ n p) := fun m => by
    induction m with
    | zero =>
      intro j ψ hj all F1 F2 e9
      have S2 := S.eq F1
      have g4 : rd ψ 68 4 = p := (F2 68 4 (by decide)).trans h4
      have g5 : rd ψ 68 5 = n := (F2 68 5 (by decide)).trans M.1
      have M2 : txM σ n ψ := ⟨g5, fun i i0 i1 => (F2 69 i (by omega)).trans (M.2 i i0 i1)⟩
      have hv : vHere ψ (j : Int) = -1 := by rw [M2.here (by omega), g4, if_neg (by omega)]
      have run : isRun (rd σ 1) n vLet p j := ⟨fun i hi => ⟨by omega, all i hi⟩, by omega, fun c => by omega⟩
      have hc := here_C (d := 0) S2 (k := (j : Int)) (by omega) (by omega) (by omega)
      refine g_X11_next_139 hd S2 x1 (j : Int) hc (mLetter_C S2 (by rw [hv]; decide)) (fun _ => by unfold inR; omega) (fun _ c3 => ⟨rfl, F1, fun a i q => by rw [rd_wr_n (by omega), rd_wr_n (by omega)]; exact F2 a i (by omega), j, run, Or.inl ⟨by omega, by rw [rd_wr_n (by omega), rd_wr_same], by rw [rd_wr_same, g4], by rw [rd_wr_n (by omega), rd_wr_n (by omega), e9, Nat.min_eq_left (by omega)]⟩⟩) (fun _ c4 => ⟨rfl, F1, fun a i q => by rw [rd_wr_n (by omega)]; exact F2 a i (by omega), j, run, Or.inr ⟨by omega, rd_wr_same _ _ _ _, by rw [rd_wr_n (by omega), g4]⟩⟩) (fun c => by rw [hv] at c; exact absurd c (by decide)) (fun c => by rw [hv] at c; exact absurd c (by decide)) (fun c => by rw [hv] at c; exact absurd c (by decide)) (fun c => by rw [hv] at c; exact absurd c (by decide)) (fun c => by rw [hv] at c; exact absurd c (by decide))
    | succ m ih =>
      intro j ψ hj all F1 F2 e9
      have S2 := S.eq F1
      have g4 : rd ψ 68 4 = p := (F2 68 4 (by decide)).trans h4
      have g5 : rd ψ 68 5 = n := (F2 68 5 (by decide)).trans M.1
      have M2 : txM σ n ψ := ⟨g5, fun i i0 i1 => (F2 69 i (by omega)).trans (M.2 i i0 i1)⟩
      have tb := hT (p + (j : Int)) (by omega) (by omega)
      have ms := mod_sig tb
      have hv : vHere ψ (j : Int) = rd σ 1 (p + (j : Int)) % 256 := by rw [M2.here (by omega), g4, if_pos (by omega)]
      have run : vLet (rd σ 1 (p + (j : Int))) = false → isRun (rd σ 1) n vLet p j := fun c => ⟨fun i hi => ⟨by omega, all i hi⟩, by omega, fun _ => c⟩
      have more : vLet (rd σ 1 (p + (j : Int))) = true → ∀ i : Nat, i < j + 1 → vLet (rd σ 1 (p + i)) = true := fun c i hi => by
        by_cases z : i = j
        · rw [z]; exact c
        · exact all i (by omega)
      have hc := here_C (d := 0) S2 (k := (j : Int)) (by omega) (by omega) (by omega)
      have ex : (j : Int) + 1 = ((j + 1 : Nat) : Int) := by omega
      refine g_X11_next_139 hd S2 x1 (j : Int) hc (mLetter_C S2 (by rw [hv]; unfold inR; omega)) (fun _ => by unfold inR; omega) (fun c1 c3 => ⟨rfl, F1, fun a i q => by rw [rd_wr_n (by omega), rd_wr_n (by omega)]; exact F2 a i (by omega), j, run (by rw [hv, ms.1] at c1; exact c1), Or.inl ⟨by omega, by rw [rd_wr_n (by omega), rd_wr_same], by rw [rd_wr_same, g4], by rw [rd_wr_n (by omega), rd_wr_n (by omega), e9, Nat.min_eq_left (by omega)]⟩⟩) (fun c1 c4 => ⟨rfl, F1, fun a i q => by rw [rd_wr_n (by omega)]; exact F2 a i (by omega), j, run (by rw [hv, ms.1] at c1; exact c1), Or.inr ⟨by omega, rd_wr_same _ _ _ _, by rw [rd_wr_n (by omega), g4]⟩⟩) (fun _ => by unfold inR; omega) (fun c2 c5 => ?_) (fun _ _ => hc) (fun _ _ => by rw [hv]; unfold inR; omega) (fun c2 c6 => ?_)
      · rw [hv, ms.1] at c2
        rw [ex]
        exact ih (j + 1) ψ (by omega) (more c2) F1 F2 (by rw [e9, Nat.min_eq_right (by omega), Nat.min_eq_right (by omega)])
      · rw [hv, ms.1] at c2
        rw [ex, hv, let_mod tb (Or.inl c2), e9, Nat.min_eq_left (by omega)]
        have ls := tRev_ls (T := rd σ 1) (p := p) (j := j) all
        have wl : w256 (tRev (rd σ 1) p j) < 36028797018963968 := by
          have len := tRev_len (T := rd σ 1) (p := p) j
          cases ht : tRev (rd σ 1) p j with
          | nil => decide
          | cons c t =>
            rw [ht] at ls len
            have tp := w256_top ls
            simp only [List.length_cons] at len
            have : t.length = 0 ∨ t.length = 1 ∨ t.length = 2 ∨ t.length = 3 ∨ t.length = 4 ∨ t.length = 5 ∨ t.length = 6 := by omega
            rcases this with z | z | z | z | z | z | z <;> rw [z] at tp <;> refine Int.lt_of_lt_of_le tp (by decide)
        refine ih (j + 1) _ (by omega) (more c2) F1 (fun a i q => by rw [rd_wr_n q]; exact F2 a i q) ?_
        have b : 97 ≤ rd σ 1 (p + (j : Int)) ∧ rd σ 1 (p + (j : Int)) ≤ 122 := by unfold vLet at c2; simpa using c2
        rw [rd_wr_same, Nat.min_eq_left (by omega), shl_or ⟨(w256_R ls).1, wl⟩ (by omega)]
        rfl
  exact loop (n - p).toNat 0 φ (by omega) (fun i hi => by omega) rfl (fun _ _ _ => rfl) h9
