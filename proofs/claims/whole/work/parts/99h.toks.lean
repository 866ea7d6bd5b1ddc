/-! the reference's next token is the class's -/
/-- the reference's current token, at the place p, is k, v; e stands behind it -/
def mTok (τ : pS) (p k v e : Int) : Prop := (k = 22 ∧ rd τ 68 6 = 4 ∧ rd τ 68 4 = p) ∨ (k = 20 ∧ rd τ 68 6 = 3 ∧ rd τ 68 8 = v ∧ rd τ 68 4 = e ∧ 0 ≤ v ∧ v ≤ 9) ∨ (k = 19 ∧ rd τ 68 6 = 2 ∧ rd τ 68 8 = v ∧ rd τ 68 4 = e ∧ 0 ≤ v ∧ v ≤ 9999) ∨ (rd τ 68 6 = 1 ∧ rd τ 68 8 = 0 ∧ rd τ 68 4 = e ∧ wkOut v k ∧ ∃ l : List Int, isLs l ∧ l.length ≤ 8 ∧ l ≠ [] ∧ v = w32 l ∧ rd τ 68 9 = w256 l) ∨ (vSig k = true ∧ rd τ 68 6 = k ∧ rd τ 68 4 = e)
def nxFr (φ τ : pS) : Prop := τ.1 = φ.1 ∧ ∀ a i : Int, ¬ (a = 68 ∧ (i = 4 ∨ (6 ≤ i ∧ i ≤ 9))) → rd τ a i = rd φ a i
def nx1 (σ φ : pS) (n p : Int) (r : Option pV) (τ : pS) : Prop := r = none ∧ τ.1 = φ.1 ∧ (∀ a i : Int, ¬ (a = 68 ∧ (i = 4 ∨ (6 ≤ i ∧ i ≤ 9))) → rd τ a i = rd φ a i) ∧ rd τ 68 7 = p ∧ ((p = n ∧ rd τ 68 6 = 0 ∧ rd τ 68 4 = n) ∨ (p < n ∧ ¬ blk (rd σ 1 p) ∧ ∀ k v e : Int, tokT σ n p k v e → mTok τ p k v e))
theorem run_0 {T : Int → Int} {n : Int} {f : Int → Bool} {p : Int} {l : Nat} (h : isRun T n f p l) (hp : p < n) (hf : f (T p) = true) : 0 < l := by
  rcases Nat.eq_zero_or_pos l with z | z
  · subst z
    have := h.2.2 (by omega)
    rw [show p + ((0 : Nat) : Int) = p by omega, hf] at this
    cases this
  · exact z
theorem next_at {d : Nat} {σ φ : pS} (hd : 1 ≤ d) (S : Stat φ) {n p : Int} (X : txt σ n) (M : txM σ n φ) (h4 : rd φ 68 4 = p) (hp : 0 ≤ p ∧ p ≤ n) (nb : p < n → ¬ blk (rd σ 1 p)) (u1 u2 : pV) (hu1 : u1.1 ≠ 1) (hu2 : u2.1 ≠ 1) : pR mX11_next d 0 [(2, 68), u1, u2] [] φ (nx1 σ φ n p) := by
  have n0 := X.1
  have n1 := X.2.1
  have hT := X.2.2
  have m5 := M.1
  have b4 : 0 ≤ rd φ 68 4 ∧ rd φ 68 4 ≤ 1400 := by omega
  have b5 : rd φ 68 5 ≤ 1400 ∧ 0 ≤ rd φ 68 5 := by omega
  have M1 : txM σ n (wr φ 68 7 (rd φ 68 4)) := M.wr (by decide)
  have e41 : rd (wr φ 68 7 (rd φ 68 4)) 68 4 = p := by rw [rd_wr_n (by omega)]; exact h4
  have b41 : 0 ≤ rd (wr φ 68 7 (rd φ 68 4)) 68 4 ∧ rd (wr φ 68 7 (rd φ 68 4)) 68 4 ≤ 1400 := by omega
  have b51 : rd (wr φ 68 7 (rd φ 68 4)) 68 5 ≤ 1400 ∧ 0 ≤ rd (wr φ 68 7 (rd φ 68 4)) 68 5 := by rw [M1.1]; omega
  have M2 : txM σ n (wr (wr (wr φ 68 7 (rd φ 68 4)) 68 9 0) 68 8 0) := (M1.wr (by decide)).wr (by decide)
  have e42 : rd (wr (wr (wr φ 68 7 (rd φ 68 4)) 68 9 0) 68 8 0) 68 4 = p := by rw [rd_wr_n (by omega), rd_wr_n (by omega), rd_wr_n (by omega)]; exact h4
  have b42 : 0 ≤ rd (wr (wr (wr φ 68 7 (rd φ 68 4)) 68 9 0) 68 8 0) 68 4 ∧ rd (wr (wr (wr φ 68 7 (rd φ 68 4)) 68 9 0) 68 8 0) 68 4 ≤ 1400 := by omega
  have b52 : rd (wr (wr (wr φ 68 7 (rd φ 68 4)) 68 9 0) 68 8 0) 68 5 ≤ 1400 ∧ 0 ≤ rd (wr (wr (wr φ 68 7 (rd φ 68 4)) 68 9 0) 68 8 0) 68 5 := by rw [M2.1]; omega
  have e72 : rd (wr (wr (wr φ 68 7 (rd φ 68 4)) 68 9 0) 68 8 0) 68 7 = p := by rw [rd_wr_n (by omega), rd_wr_n (by omega), rd_wr_same]; exact h4
  have e82 : rd (wr (wr (wr φ 68 7 (rd φ 68 4)) 68 9 0) 68 8 0) 68 8 = 0 := rd_wr_same _ _ _ _
  have e92 : rd (wr (wr (wr φ 68 7 (rd φ 68 4)) 68 9 0) 68 8 0) 68 9 = 0 := by rw [rd_wr_n (by omega), rd_wr_same]
  have fr2 : ∀ a i : Int, ¬ (a = 68 ∧ (i = 4 ∨ (6 ≤ i ∧ i ≤ 9))) → rd (wr (wr (wr φ 68 7 (rd φ 68 4)) 68 9 0) 68 8 0) a i = rd φ a i := fun a i q => by rw [rd_wr_n (by omega), rd_wr_n (by omega), rd_wr_n (by omega)]
  by_cases z : p = n
  · have hv0 : vHere φ 0 = -1 := by rw [M.here (by omega), if_neg (by omega)]
    have hv1 : vHere (wr φ 68 7 (rd φ 68 4)) 0 = -1 := by rw [M1.here (by omega), if_neg (by omega)]
    exact g_X11_next_0 hd S u1 u2 hu1 hu2 (here_C S b4 b5 (by omega)) (by rw [hv0]; unfold inR; omega) (fun c1 => by rw [hv0] at c1; exact absurd c1 (by decide)) (fun _ => here_C S b4 b5 (by omega)) (fun _ _ => here_C S.wr b41 b51 (by omega)) (fun _ _ => by rw [hv1]; unfold inR; omega) (by intro _ _ c5; rw [hv1] at c5; exact absurd c5 (by decide)) (by intro _ _ c5; rw [hv1] at c5; exact absurd c5 (by decide)) (by intro _ _ c5; rw [hv1] at c5; exact absurd c5 (by decide)) (by intro _ _ c5; rw [hv1] at c5; exact absurd c5 (by decide)) (by intro _ _ c5; rw [hv1] at c5; exact absurd c5 (by decide)) (by intro _ _ c5; rw [hv1] at c5; exact absurd c5 (by decide)) (by intro _ _ c5; rw [hv1] at c5; exact absurd c5 (by decide)) (by intro _ _ c5; rw [hv1] at c5; exact absurd c5 (by decide)) (by intro _ _ c5; rw [hv1] at c5; exact absurd c5 (by decide)) (by intro _ _ c5; rw [hv1] at c5; exact absurd c5 (by decide)) (by intro _ _ c5; rw [hv1] at c5; exact absurd c5 (by decide)) (by intro _ _ c5; rw [hv1] at c5; exact absurd c5 (by decide)) (by intro _ _ c5; rw [hv1] at c5; exact absurd c5 (by decide)) (by intro _ _ c5; rw [hv1] at c5; exact absurd c5 (by decide)) (by intro _ _ c5; rw [hv1] at c5; exact absurd c5 (by decide)) (by intro _ _ c5; rw [hv1] at c5; exact absurd c5 (by decide)) (by intro _ _ c5; rw [hv1] at c5; exact absurd c5 (by decide)) (by intro _ _ c5; rw [hv1] at c5; exact absurd c5 (by decide)) (by intro _ _ c5; rw [hv1] at c5; exact absurd c5 (by decide)) (by intro _ _ c5; rw [hv1] at c5; exact absurd c5 (by decide)) (by intro _ _ c5; rw [hv1] at c5; exact absurd c5 (by decide)) (by intro _ _ c5; rw [hv1] at c5; exact absurd c5 (by decide)) (by intro _ _ c5; rw [hv1] at c5; exact absurd c5 (by decide)) (by intro _ _ c5; rw [hv1] at c5; exact absurd c5 (by decide)) (by intro _ _ c5; rw [hv1] at c5; exact absurd c5 (by decide)) (by intro _ _ c5; rw [hv1] at c5; exact absurd c5 (by decide)) (by intro _ _ c5; rw [hv1] at c5; exact absurd c5 (by decide)) (by intro _ _ c5; rw [hv1] at c5; exact absurd c5 (by decide)) (by intro _ _ c5; rw [hv1] at c5; exact absurd c5 (by decide)) (by intro _ _ c5; rw [hv1] at c5; exact absurd c5 (by decide)) (by intro _ _ c5; rw [hv1] at c5; exact absurd c5 (by decide)) (by intro _ _ c5; rw [hv1] at c5; exact absurd c5 (by decide)) (by intro _ _ c5; rw [hv1] at c5; exact absurd c5 (by decide)) (by intro _ _ c5; rw [hv1] at c5; exact absurd c5 (by decide)) (by intro _ _ c5; rw [hv1] at c5; exact absurd c5 (by decide)) (by intro _ _ c5; rw [hv1] at c5; exact absurd c5 (by decide)) (by intro _ _ c5; rw [hv1] at c5; exact absurd c5 (by decide)) (by intro _ _ c5; rw [hv1] at c5; exact absurd c5 (by decide)) (by intro _ _ c5; rw [hv1] at c5; exact absurd c5 (by decide)) (by intro _ _ c5; rw [hv1] at c5; exact absurd c5 (by decide)) (fun _ _ _ => ⟨rfl, rfl, fun a i q => by rw [rd_wr_n (by omega), rd_wr_n (by omega), rd_wr_n (by omega), rd_wr_n (by omega), rd_wr_n (by omega)], by rw [rd_wr_n (by omega), rd_wr_n (by omega), rd_wr_n (by omega), rd_wr_n (by omega), rd_wr_same]; exact h4, Or.inl ⟨z, by rw [rd_wr_n (by omega), rd_wr_same], by rw [rd_wr_same]; omega⟩⟩) (fun _ c4 => by rw [hv0] at c4; exact absurd c4 (by decide))
  · have nb := nb (by omega)
    have tb := hT p (by omega) (by omega)
    have ms := mod_sig tb
    have hv0 : vHere φ 0 = rd σ 1 p % 256 := by rw [M.here (by omega), if_pos (by omega), h4, Int.add_zero]
    have hv1 : vHere (wr φ 68 7 (rd φ 68 4)) 0 = rd σ 1 p % 256 := by rw [M1.here (by omega), if_pos (by omega), e41, Int.add_zero]
    have at1 : ∀ k : Int, 0 ≤ k → inR (vHere (wr (wr (wr φ 68 7 (rd φ 68 4)) 68 9 0) 68 8 0) k) ∧ vDig (vHere (wr (wr (wr φ 68 7 (rd φ 68 4)) 68 9 0) 68 8 0) k) = decide (p + k < n ∧ vDig (rd σ 1 (p + k)) = true) ∧ vLet (vHere (wr (wr (wr φ 68 7 (rd φ 68 4)) 68 9 0) 68 8 0) k) = decide (p + k < n ∧ vLet (rd σ 1 (p + k)) = true) := fun k hk => by
      rw [M2.here (by omega), e42]
      by_cases y : p + k < n
      · have := mod_sig (hT (p + k) (by omega) (by omega))
        rw [if_pos y, this.1, this.2.1]
        refine ⟨by unfold inR; omega, ?_, ?_⟩
        · cases vDig (rd σ 1 (p + k)) <;> simp [y]
        · cases vLet (rd σ 1 (p + k)) <;> simp [y]
      · rw [if_neg y]
        refine ⟨by decide, ?_, ?_⟩
        · rw [decide_eq_false (fun q => y q.1)]; decide
        · rw [decide_eq_false (fun q => y q.1)]; decide
    have r1 := (at1 1 (by decide)).1
    have d1 := (at1 1 (by decide)).2.1
    have r2 := (at1 2 (by decide)).1
    have d2 := (at1 2 (by decide)).2.1
    have l2 := (at1 2 (by decide)).2.2
    have isP : vIsP σ p n = decide (rd σ 1 p = 112 ∧ p + 1 < n ∧ vDig (rd σ 1 (p + 1)) = true ∧ (n ≤ p + 2 ∨ (vLet (rd σ 1 (p + 2)) = false ∧ vDig (rd σ 1 (p + 2)) = false))) := rfl
    have bad : vLet (rd σ 1 p) = false → vDig (rd σ 1 p) = false → vSig (rd σ 1 p) = false → nx1 σ φ n p none (wr (wr (wr (wr φ 68 7 (rd φ 68 4)) 68 9 0) 68 8 0) 68 6 4) := fun y1 y2 y3 => ⟨rfl, rfl, fun a i q => by rw [rd_wr_n (by omega)]; exact fr2 a i q, by rw [rd_wr_n (by omega)]; exact e72, Or.inr ⟨by omega, nb, fun k v e t => by
      rcases t with ⟨a, _⟩ | ⟨a, _⟩ | ⟨a, _⟩ | ⟨_, _, _, _, b | b⟩
      · rw [y1] at a; cases a
      · rw [y1] at a; cases a
      · rw [y2] at a; cases a
      · rw [y3] at b; cases b.1
      · exact Or.inl ⟨b.2, rd_wr_same _ _ _ _, by rw [rd_wr_n (by omega)]; exact e42⟩⟩⟩
    have sgn : vLet (rd σ 1 p) = false → vDig (rd σ 1 p) = false → vSig (rd σ 1 p) = true → nx1 σ φ n p none (wr (wr (wr (wr (wr φ 68 7 (rd φ 68 4)) 68 9 0) 68 8 0) 68 6 (vHere (wr φ 68 7 (rd φ 68 4)) 0)) 68 4 ((rd φ 68 4) + 1)) := fun y1 y2 y3 => ⟨rfl, rfl, fun a i q => by rw [rd_wr_n (by omega), rd_wr_n (by omega)]; exact fr2 a i q, by rw [rd_wr_n (by omega), rd_wr_n (by omega)]; exact e72, Or.inr ⟨by omega, nb, fun k v e t => by
      rcases t with ⟨a, _⟩ | ⟨a, _⟩ | ⟨a, _⟩ | ⟨_, _, c, _, b | b⟩
      · rw [y1] at a; cases a
      · rw [y1] at a; cases a
      · rw [y2] at a; cases a
      · refine Or.inr (Or.inr (Or.inr (Or.inr ⟨by rw [b.2]; exact y3, ?_, ?_⟩)))
        · rw [rd_wr_n (by omega), rd_wr_same, hv1, b.2]; exact let_mod tb (Or.inr (Or.inr y3))
        · rw [rd_wr_same]; omega
      · rw [y3] at b; cases b.1⟩⟩
    have num : vLet (rd σ 1 p) = false → vDig (rd σ 1 p) = true → ∀ x1 : Int, pR mX11_next d 205 [(2, 68), (0, x1), (0, 0)] [] (wr (wr (wr φ 68 7 (rd φ 68 4)) 68 9 0) 68 8 0) (nx1 σ φ n p) := fun y1 y2 x1 => (nextNum_C hd S.wr.wr.wr hp X M2 e42 e82 x1).mono fun r τ _ ⟨q1, q2, q3, l, run, q4⟩ => ⟨q1, q2, fun a i q => (q3 a i (by omega)).trans (fr2 a i q), (q3 68 7 (by omega)).trans e72, Or.inr ⟨by omega, nb, fun k v e t => by
      rcases t with ⟨a, _⟩ | ⟨a, _⟩ | ⟨_, _, l2, run2, a, b, c⟩ | ⟨_, a, _⟩
      · rw [y1] at a; cases a
      · rw [y1] at a; cases a
      · have el := isRun_one run run2
        subst el
        rcases q4 with ⟨w1, w2, w3⟩ | ⟨w1, w2, w3, w4⟩
        · rw [if_pos w1] at c; exact Or.inl ⟨c, w2, w3⟩
        · rw [if_neg w1] at c
          have R := tNum_R (T := rd σ 1) (p := p) (j := l) (fun i hi => (run.1 i hi).2)
          exact Or.inr (Or.inr (Or.inl ⟨c, w2, w4.trans b.symm, w3.trans a.symm, by omega, by omega⟩))
      · rw [y2] at a; cases a⟩⟩
    have wrd : vLet (rd σ 1 p) = true → vIsP σ p n = false → ∀ x1 : Int, pR mX11_next d 139 [(2, 68), (0, x1), (0, 0)] [] (wr (wr (wr φ 68 7 (rd φ 68 4)) 68 9 0) 68 8 0) (nx1 σ φ n p) := fun y1 y2 x1 => (nextWord_C hd S.wr.wr.wr hp X M2 e42 e92 x1).mono fun r τ _ ⟨q1, q2, q3, l, run, q4⟩ => ⟨q1, q2, fun a i q => (q3 a i (by omega)).trans (fr2 a i q), (q3 68 7 (by omega)).trans e72, Or.inr ⟨by omega, nb, fun k v e t => by
      rcases t with ⟨_, a, _⟩ | ⟨_, _, l2, run2, a, b, c⟩ | ⟨_, a, _⟩ | ⟨a, _⟩
      · rw [y2] at a; cases a
      · have el := isRun_one run run2
        subst el
        rcases c with ⟨c1, c2⟩ | ⟨c1, c2⟩
        · rcases q4 with ⟨w1, w2, w3, w4⟩ | ⟨w1, w2, w3⟩
          · omega
          · exact Or.inl ⟨c2, w2, w3⟩
        · rcases q4 with ⟨w1, w2, w3, w4⟩ | ⟨w1, w2, w3⟩
          · refine Or.inr (Or.inr (Or.inr (Or.inl ⟨w2, (q3 68 8 (by omega)).trans e82, w3.trans a.symm, c2, tRev (rd σ 1) p l, tRev_ls (fun i hi => (run.1 i hi).2), by rw [tRev_len]; exact c1, ?_, b, w4⟩)))
            have l0 := run_0 run (by omega) y1
            intro en
            have := tRev_len (T := rd σ 1) (p := p) l
            rw [en] at this
            simp at this
            omega
          · omega
      · rw [y1] at a; cases a
      · rw [y1] at a; cases a⟩⟩
    have plc : vIsP σ p n = true → nx1 σ φ n p none (wr (wr (wr (wr (wr (wr φ 68 7 (rd φ 68 4)) 68 9 0) 68 8 0) 68 8 ((vHere (wr (wr (wr φ 68 7 (rd φ 68 4)) 68 9 0) 68 8 0) 1) - 48)) 68 6 3) 68 4 ((rd φ 68 4) + 2)) := fun y => ⟨rfl, rfl, fun a i q => by rw [rd_wr_n (by omega), rd_wr_n (by omega), rd_wr_n (by omega)]; exact fr2 a i q, by rw [rd_wr_n (by omega), rd_wr_n (by omega), rd_wr_n (by omega)]; exact e72, Or.inr ⟨by omega, nb, fun k v e t => by
      have yP := y
      rw [isP] at yP
      have yP := of_decide_eq_true yP
      have yD : 48 ≤ rd σ 1 (p + 1) ∧ rd σ 1 (p + 1) ≤ 57 := by have := yP.2.2.1; unfold vDig at this; simpa using this
      rcases t with ⟨_, _, a, b, c⟩ | ⟨_, a, _⟩ | ⟨a, _⟩ | ⟨_, a, _⟩
      · refine Or.inr (Or.inl ⟨a, by rw [rd_wr_n (by omega), rd_wr_same], ?_, by rw [rd_wr_same]; omega, by omega, by omega⟩)
        rw [rd_wr_n (by omega), rd_wr_n (by omega), rd_wr_same, M2.here (by omega), e42, if_pos yP.2.1]
        omega
      · rw [y] at a; cases a
      · unfold vDig at a; simp only [decide_eq_true_eq] at a; omega
      · unfold vDig at a; rename_i a0 _; rw [yP.1] at a0; exact absurd a0 (by decide)⟩⟩
    exact g_X11_next_0 hd S u1 u2 hu1 hu2 (here_C S b4 b5 (by omega)) (by rw [hv0]; unfold inR; omega) (fun c1 => by rw [hv0] at c1; exact absurd (Or.inl (by omega)) nb) (fun _ => here_C S b4 b5 (by omega)) (fun _ _ => here_C S.wr b41 b51 (by omega)) (fun _ _ => by rw [hv1]; unfold inR; omega) (by intros; exact mLetter_C S.wr.wr.wr (by rw [hv1]; unfold inR; omega)) (by intros; exact mDigit_C S.wr.wr.wr (by rw [hv1]; unfold inR; omega)) (by intros; exact mSign_C S.wr.wr.wr (by rw [hv1]; unfold inR; omega)) (fun _ _ _ _ c9 c11 c13 => bad (by rw [hv1, ms.1] at c9; exact c9) (by rw [hv1, ms.2.1] at c11; exact c11) (by rw [hv1, ms.2.2.1] at c13; exact c13)) (fun _ _ _ _ _ _ c14 c15 => by rw [c15] at c14; exact absurd c14 (by decide)) (fun _ _ _ _ c9 c11 c14 _ => sgn (by rw [hv1, ms.1] at c9; exact c9) (by rw [hv1, ms.2.1] at c11; exact c11) (by rw [hv1, ms.2.2.1] at c14; exact c14)) (fun _ _ _ _ c9 c12 => num (by rw [hv1, ms.1] at c9; exact c9) (by rw [hv1, ms.2.1] at c12; exact c12) _) (fun _ _ _ c7 c10 => wrd (by rw [hv1, ms.1] at c10; exact c10) (Bool.eq_false_iff.mpr fun y => by rw [isP] at y; have y := of_decide_eq_true y; rw [hv1] at c7; omega) _) (by intros; exact here_C S.wr.wr.wr b42 b52 (by omega)) (by intros; exact mDigit_C S.wr.wr.wr r1) (by intros; exact mLetter_C S.wr.wr.wr (by rw [hv1]; unfold inR; omega)) (by intros; exact mDigit_C S.wr.wr.wr (by rw [hv1]; unfold inR; omega)) (by intros; exact mSign_C S.wr.wr.wr (by rw [hv1]; unfold inR; omega)) (by intro _ _ _ c8 c17 c19; rw [c8] at c19; exact absurd c19 (by decide)) (by intro _ _ _ c8 c17 c19; rw [c8] at c19; exact absurd c19 (by decide)) (by intro _ _ _ c8 c17 c19; rw [c8] at c19; exact absurd c19 (by decide)) (by intro _ _ _ c8 c17 c19; rw [c8] at c19; exact absurd c19 (by decide)) (fun _ _ _ c8 c17 c20 => wrd (by rw [hv1, ms.1] at c20; exact c20) (Bool.eq_false_iff.mpr fun y => by rw [isP] at y; have y := of_decide_eq_true y; rw [d1] at c17; exact of_decide_eq_false c17 ⟨y.2.1, y.2.2.1⟩) _) (by intros; exact here_C S.wr.wr.wr b42 b52 (by omega)) (by intros; exact mDigit_C S.wr.wr.wr r2) (by intros; exact mLetter_C S.wr.wr.wr (by rw [hv1]; unfold inR; omega)) (by intros; exact mDigit_C S.wr.wr.wr (by rw [hv1]; unfold inR; omega)) (by intros; exact mSign_C S.wr.wr.wr (by rw [hv1]; unfold inR; omega)) (by intro _ _ _ c8 c18 c27 c19; rw [c8] at c19; exact absurd c19 (by decide)) (by intro _ _ _ c8 c18 c27 c19; rw [c8] at c19; exact absurd c19 (by decide)) (by intro _ _ _ c8 c18 c27 c19; rw [c8] at c19; exact absurd c19 (by decide)) (by intro _ _ _ c8 c18 c27 c19; rw [c8] at c19; exact absurd c19 (by decide)) (fun _ _ _ c8 c18 c27 c30 => wrd (by rw [hv1, ms.1] at c30; exact c30) (Bool.eq_false_iff.mpr fun y => by rw [isP] at y; have y := of_decide_eq_true y; rw [d2] at c27; have w := of_decide_eq_true c27; rcases y.2.2.2 with y1 | y1; omega; rw [w.2] at y1; cases y1.2) _) (by intros; exact here_C S.wr.wr.wr b42 b52 (by omega)) (by intros; exact mLetter_C S.wr.wr.wr r2) (by intros; exact mLetter_C S.wr.wr.wr (by rw [hv1]; unfold inR; omega)) (by intros; exact mDigit_C S.wr.wr.wr (by rw [hv1]; unfold inR; omega)) (by intros; exact mSign_C S.wr.wr.wr (by rw [hv1]; unfold inR; omega)) (by intro _ _ _ c8 c18 c28 c37 c19; rw [c8] at c19; exact absurd c19 (by decide)) (by intro _ _ _ c8 c18 c28 c37 c19; rw [c8] at c19; exact absurd c19 (by decide)) (by intro _ _ _ c8 c18 c28 c37 c19; rw [c8] at c19; exact absurd c19 (by decide)) (by intro _ _ _ c8 c18 c28 c37 c19; rw [c8] at c19; exact absurd c19 (by decide)) (fun _ _ _ c8 c18 c28 c37 c40 => wrd (by rw [hv1, ms.1] at c40; exact c40) (Bool.eq_false_iff.mpr fun y => by rw [isP] at y; have y := of_decide_eq_true y; rw [l2] at c37; have w := of_decide_eq_true c37; rcases y.2.2.2 with y1 | y1; omega; rw [w.2] at y1; cases y1.1) _) (by intros; exact here_C S.wr.wr.wr b42 b52 (by omega)) (fun _ _ _ c8 c18 c28 c38 => by
      have w1 := c18
      rw [d1] at w1
      have w1 := of_decide_eq_true w1
      have ip : vIsP σ p n = true := by
        rw [isP]
        refine decide_eq_true ⟨by rw [hv1] at c8; omega, w1.1, w1.2, ?_⟩
        by_cases y : n ≤ p + 2
        · exact Or.inl y
        · refine Or.inr ⟨?_, ?_⟩
          · rw [l2] at c38; have := of_decide_eq_false c38; exact Bool.eq_false_iff.mpr fun y2 => this ⟨by omega, y2⟩
          · rw [d2] at c28; have := of_decide_eq_false c28; exact Bool.eq_false_iff.mpr fun y2 => this ⟨by omega, y2⟩
      exact plc ip) (fun _ _ c6 => by rw [hv1] at c6; omega) (fun _ c4 => by rw [hv0] at c4; exact absurd (Or.inr (by omega)) nb)
def nxOut (σ φ : pS) (n e : Int) (r : Option pV) (τ : pS) : Prop := r = none ∧ nxFr φ τ ∧ ∃ p : Int, blks σ e p ∧ p ≤ n ∧ rd τ 68 7 = p ∧ ((p = n ∧ rd τ 68 6 = 0 ∧ rd τ 68 4 = n) ∨ (p < n ∧ ¬ blk (rd σ 1 p) ∧ ∀ k v e : Int, tokT σ n p k v e → mTok τ p k v e))
theorem next_C {d : Nat} {σ φ : pS} (hd : 1 ≤ d) (S : Stat φ) {n e : Int} (X : txt σ n) (M : txM σ n φ) (h4 : rd φ 68 4 = e) (he : 0 ≤ e ∧ e ≤ n) : pC mX11_next d [(2, 68)] φ (nxOut σ φ n e) := by
  have n0 := X.1
  have n1 := X.2.1
  have hT := X.2.2
  have loop : ∀ (m : Nat) (x : Int) (ψ : pS), x + m = n → blks σ e x → nxFr φ ψ → rd ψ 68 4 = x → ∀ u1 u2 : pV, u1.1 ≠ 1 → u2.1 ≠ 1 → pR mX11_next d 0 [(2, 68), u1, u2] [] ψ (nxOut σ φ n e) := fun m => by
    induction m with
    | zero =>
      intro x ψ hx B F x4 u1 u2 hu1 hu2
      have M' : txM σ n ψ := ⟨(F.2 68 5 (by omega)).trans M.1, fun i i0 i1 => (F.2 69 i (by omega)).trans (M.2 i i0 i1)⟩
      exact (next_at hd (S.eq F.1) X M' x4 ⟨by have := B.1; omega, by omega⟩ (fun c => by omega) u1 u2 hu1 hu2).mono fun r τ _ q => ⟨q.1, ⟨q.2.1.trans F.1, fun a i y => (q.2.2.1 a i y).trans (F.2 a i y)⟩, x, B, by omega, q.2.2.2.1, q.2.2.2.2⟩
    | succ m ih =>
      intro x ψ hx B F x4 u1 u2 hu1 hu2
      have bx := B.1
      have M' : txM σ n ψ := ⟨(F.2 68 5 (by omega)).trans M.1, fun i i0 i1 => (F.2 69 i (by omega)).trans (M.2 i i0 i1)⟩
      by_cases nb : blk (rd σ 1 x)
      · have tb := hT x (by omega) (by omega)
        have hv0 : vHere ψ 0 = rd σ 1 x % 256 := by rw [M'.here (by omega), if_pos (by omega), x4, Int.add_zero]
        have S' := S.eq F.1
        have m5 := M'.1
        have on : pR mX11_next d 0 [(2, 68), u1, u2] [] (wr ψ 68 4 ((rd ψ 68 4) + 1)) (nxOut σ φ n e) := ih (x + 1) (wr ψ 68 4 ((rd ψ 68 4) + 1)) (by omega) ⟨by omega, fun y y0 y1 => by
          by_cases w : y = x
          · rw [w]; exact nb
          · exact B.2 y y0 (by omega)⟩ ⟨F.1, fun a i y => by rw [rd_wr_n (by omega)]; exact F.2 a i y⟩ (by rw [rd_wr_same, x4]) u1 u2 hu1 hu2
        have hc := here_C (d := 0) S' (k := 0) (by omega) (by omega) (by omega)
        rcases nb with c | c
        · have no : vHere ψ 0 ≠ 32 → False := fun y => by rw [hv0] at y; omega
          exact g_X11_next_0 hd S' u1 u2 hu1 hu2 hc (by rw [hv0]; unfold inR; omega) (fun _ => on) (fun c2 => absurd c2 no) (fun c2 => absurd c2 no) (fun c2 => absurd c2 no) (fun c2 => absurd c2 no) (fun c2 => absurd c2 no) (fun c2 => absurd c2 no) (fun c2 => absurd c2 no) (fun c2 => absurd c2 no) (fun c2 => absurd c2 no) (fun c2 => absurd c2 no) (fun c2 => absurd c2 no) (fun c2 => absurd c2 no) (fun c2 => absurd c2 no) (fun c2 => absurd c2 no) (fun c2 => absurd c2 no) (fun c2 => absurd c2 no) (fun c2 => absurd c2 no) (fun c2 => absurd c2 no) (fun c2 => absurd c2 no) (fun c2 => absurd c2 no) (fun c2 => absurd c2 no) (fun c2 => absurd c2 no) (fun c2 => absurd c2 no) (fun c2 => absurd c2 no) (fun c2 => absurd c2 no) (fun c2 => absurd c2 no) (fun c2 => absurd c2 no) (fun c2 => absurd c2 no) (fun c2 => absurd c2 no) (fun c2 => absurd c2 no) (fun c2 => absurd c2 no) (fun c2 => absurd c2 no) (fun c2 => absurd c2 no) (fun c2 => absurd c2 no) (fun c2 => absurd c2 no) (fun c2 => absurd c2 no) (fun c2 => absurd c2 no) (fun c2 => absurd c2 no) (fun c2 => absurd c2 no) (fun c2 => absurd c2 no) (fun c2 => absurd c2 no) (fun c2 => absurd c2 no) (fun c2 => absurd c2 no) (fun c2 => absurd c2 no) (fun c2 => absurd c2 no)
        · have no : vHere ψ 0 ≠ 10 → False := fun y => by rw [hv0] at y; omega
          exact g_X11_next_0 hd S' u1 u2 hu1 hu2 hc (by rw [hv0]; unfold inR; omega) (fun c1 => by rw [hv0] at c1; omega) (fun _ => hc) (by intro _ c3; exact absurd c3 no) (by intro _ c3; exact absurd c3 no) (by intro _ c3; exact absurd c3 no) (by intro _ c3; exact absurd c3 no) (by intro _ c3; exact absurd c3 no) (by intro _ c3; exact absurd c3 no) (by intro _ c3; exact absurd c3 no) (by intro _ c3; exact absurd c3 no) (by intro _ c3; exact absurd c3 no) (by intro _ c3; exact absurd c3 no) (by intro _ c3; exact absurd c3 no) (by intro _ c3; exact absurd c3 no) (by intro _ c3; exact absurd c3 no) (by intro _ c3; exact absurd c3 no) (by intro _ c3; exact absurd c3 no) (by intro _ c3; exact absurd c3 no) (by intro _ c3; exact absurd c3 no) (by intro _ c3; exact absurd c3 no) (by intro _ c3; exact absurd c3 no) (by intro _ c3; exact absurd c3 no) (by intro _ c3; exact absurd c3 no) (by intro _ c3; exact absurd c3 no) (by intro _ c3; exact absurd c3 no) (by intro _ c3; exact absurd c3 no) (by intro _ c3; exact absurd c3 no) (by intro _ c3; exact absurd c3 no) (by intro _ c3; exact absurd c3 no) (by intro _ c3; exact absurd c3 no) (by intro _ c3; exact absurd c3 no) (by intro _ c3; exact absurd c3 no) (by intro _ c3; exact absurd c3 no) (by intro _ c3; exact absurd c3 no) (by intro _ c3; exact absurd c3 no) (by intro _ c3; exact absurd c3 no) (by intro _ c3; exact absurd c3 no) (by intro _ c3; exact absurd c3 no) (by intro _ c3; exact absurd c3 no) (by intro _ c3; exact absurd c3 no) (by intro _ c3; exact absurd c3 no) (by intro _ c3; exact absurd c3 no) (by intro _ c3; exact absurd c3 no) (by intro _ c3; exact absurd c3 no) (by intro _ c3; exact absurd c3 no) (fun _ _ => on)
      · exact (next_at hd (S.eq F.1) X M' x4 ⟨by omega, by omega⟩ (fun _ => nb) u1 u2 hu1 hu2).mono fun r τ _ q => ⟨q.1, ⟨q.2.1.trans F.1, fun a i y => (q.2.2.1 a i y).trans (F.2 a i y)⟩, x, B, by omega, q.2.2.2.1, q.2.2.2.2⟩
  exact loop (n - e).toNat e φ (by omega) ⟨Int.le_refl _, fun q q0 q1 => by omega⟩ ⟨rfl, fun _ _ _ => rfl⟩ h4 (9, 0) (9, 0) (by decide) (by decide)
