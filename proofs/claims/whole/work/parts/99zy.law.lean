/-! the reference goes through all lines of a law, and takes it over -/
theorem lawLoop {σ : pS} {n : Int} {K P V E : Nat → Int} {c d m : Nat} {φ0 : pS} {t : lst} {Q : Option pV → pS → Prop} (hd : 6 ≤ d) (S : Stat φ0) (T : TK σ n K P V E c) (hc : c ≤ 500) (hm : c < m)
    (hEnd : K (qJ t.1) = 21 → ∀ φ : pS, lsI c t → lmP σ n K P V E c t (qJ t.1) φ → lmF φ0 φ → pR mX11_law d 78 [(2, 68), (0, 0)] [] φ Q)
    (hBad : ∀ x, lnF K P V m t = .inl x → K (qJ t.1) ≠ 21 → ∀ φ : pS, mSt σ n K P V E c (some x) 0 φ → lmF φ0 φ → Q (some (0, -1)) φ)
    (fin : K (qJ t.1) = 21 ∨ (K (qJ t.1) ≠ 21 ∧ ∃ x, lnF K P V m t = .inl x)) :
    ∀ (k : Nat) (s : lst) (φ : pS) (u1 : pV), u1.1 ≠ 1 → lruns K P V m k s t → lsI c s → lmP σ n K P V E c s (qJ s.1) φ → lmF φ0 φ → pR mX11_law d 46 [(2, 68), u1] [] φ Q := by
  have R := T.R
  intro k
  induction k with
  | zero =>
    intro s φ u1 hu run I H F
    have est : s = t := run
    subst est
    have hcc := (H.1.2.1 rfl).2.2
    have so := hcc.sort R
    have s6 := so.2.2.2.2.2.2
    have s21 := so.2.2.2.2.1
    have z2 := (H.1.2.1 rfl).1
    have r6 : inR (rd φ 68 6) := by unfold inR; omega
    rcases fin with k21 | ⟨k21, x, hx⟩
    · exact g_X11_law_46 (Q1 := fun _ _ => True) hd (S.eq F.1) u1 hu (by unfold inR; omega) (fun c1 => absurd z2 c1) (fun c1 => absurd z2 c1) (fun _ => r6) (fun _ _ _ => hEnd k21 φ I H F) (fun _ _ c8 => by omega) (fun _ c6 => absurd (s21.mp k21) c6) (fun _ c6 => absurd (s21.mp k21) c6)
    · refine g_X11_law_46 (Q1 := llM σ n K P V E c (lnF K P V m s) φ) hd (S.eq F.1) u1 hu (by unfold inR; omega) (fun c1 => absurd z2 c1) (fun c1 => absurd z2 c1) (fun _ => r6) (fun _ c5 => absurd (s21.mpr c5) k21) (fun _ c5 => absurd (s21.mpr c5) k21) (fun _ _ => readShut_M (Nat.le_refl 5) (S.eq F.1) T hc hm I H) (fun _ _ τ1 _ q => ?_)
      obtain ⟨q1, q2, q3, q4⟩ := q
      have q5 := q3 x hx
      have f := q5.fault
      have ne : rd τ1 68 2 ≠ 0 := fun y => (by cases f.2.2.2.mp y)
      exact g_X11_law_46 (Q1 := fun _ _ => True) hd (S.eq (F.tr q2).1) u1 hu f.1 (fun _ c3 => (by cases f.2.1 c3)) (fun _ _ => hBad x hx k21 τ1 q5 (F.tr q2)) (fun c2 => absurd c2 ne) (fun c2 => absurd c2 ne) (fun c2 => absurd c2 ne) (fun c2 => absurd c2 ne) (fun c2 => absurd c2 ne)
  | succ k ih =>
    intro s φ u1 hu run I H F
    obtain ⟨k21, s1, ho, run⟩ := run
    have hcc := (H.1.2.1 rfl).2.2
    have so := hcc.sort R
    have s6 := so.2.2.2.2.2.2
    have s21 := so.2.2.2.2.1
    have z2 := (H.1.2.1 rfl).1
    have r6 : inR (rd φ 68 6) := by unfold inR; omega
    refine g_X11_law_46 (Q1 := llM σ n K P V E c (lnF K P V m s) φ) hd (S.eq F.1) u1 hu (by unfold inR; omega) (fun c1 => absurd z2 c1) (fun c1 => absurd z2 c1) (fun _ => r6) (fun _ c5 => absurd (s21.mpr c5) k21) (fun _ c5 => absurd (s21.mpr c5) k21) (fun _ _ => readShut_M (Nat.le_refl 5) (S.eq F.1) T hc hm I H) (fun _ _ τ1 _ q => ?_)
    obtain ⟨q1, q2, q3, q4⟩ := q
    exact ih s1 τ1 u1 hu run (lnF_inv R hc I ho).1 (q4 s1 ho) (F.tr q2)
def finL (N : Nat) (φ υ : pS) : Prop := υ.1 = φ.1 ∧ (∀ i : Nat, i < N → rd υ 89 (i : Int) = rd φ 85 (i : Int) ∧ rd υ 90 (i : Int) = rd φ 86 (i : Int)) ∧ (∀ y : Int, 0 ≤ y → y < 2 → rd υ 94 y = rd φ 93 y ∧ rd υ 91 y = rd φ 87 y ∧ rd υ 92 y = rd φ 88 y) ∧ (rd υ 68 46 = rd φ 68 20 ∧ rd υ 68 78 = 0) ∧ ∀ a i : Int, ¬ (a = 68 ∧ (i = 46 ∨ i = 78)) → ¬ (89 ≤ a ∧ a ≤ 92) → a ≠ 94 → rd υ a i = rd φ a i
theorem copyL {d N : Nat} {φ : pS} (hd : 6 ≤ d) (S : Stat φ) (hN : rd φ 68 44 = (N : Int)) (h6 : N ≤ 600) (hb : ∀ y : Int, 0 ≤ y → y < 2 → rd φ 93 y = 0 ∨ rd φ 93 y = 1) {Q : Option pV → pS → Prop} (hQ : ∀ υ, finL N φ υ → Q (some (0, rd φ 68 20)) υ) : pR mX11_law d 78 [(2, 68), (0, 0)] [] φ Q := by
  have loop2 : ∀ (m j : Nat) (τ : pS), j + m = 2 → τ.1 = φ.1 → (∀ i : Nat, i < N → rd τ 89 (i : Int) = rd φ 85 (i : Int) ∧ rd τ 90 (i : Int) = rd φ 86 (i : Int)) → (∀ y : Int, 0 ≤ y → y < j → rd τ 94 y = rd φ 93 y ∧ rd τ 91 y = rd φ 87 y ∧ rd τ 92 y = rd φ 88 y) → (∀ a i : Int, ¬ (89 ≤ a ∧ a ≤ 92) → a ≠ 94 → rd τ a i = rd φ a i) → pR mX11_law d 118 [(2, 68), (0, (j : Int))] [] τ Q := fun m => by
    induction m with
    | zero =>
      intro j τ hj e1 p1 p2 p3
      have ej : j = 2 := by omega
      subst ej
      refine g_X11_law_118 hd (S.eq e1) ((2 : Nat) : Int) (by decide) (fun _ => ?_) (fun c => by omega) (fun c => by omega) (fun c => by omega)
      rw [p3 68 20 (by omega) (by omega)]
      refine hQ _ ⟨e1, fun i hi => ?_, fun y y0 y1 => ?_, ⟨?_, ?_⟩, fun a i q1 q2 q3 => ?_⟩
      · rw [rd_wr_n (by omega), rd_wr_n (by omega), rd_wr_n (by omega), rd_wr_n (by omega)]; exact p1 i hi
      · rw [rd_wr_n (by omega), rd_wr_n (by omega), rd_wr_n (by omega), rd_wr_n (by omega), rd_wr_n (by omega), rd_wr_n (by omega)]; exact p2 y y0 (by omega)
      · rw [rd_wr_n (by omega), rd_wr_same]
      · rw [rd_wr_same]
      · rw [rd_wr_n (by omega), rd_wr_n (by omega)]; exact p3 a i q2 q3
    | succ m ih =>
      intro j τ hj e1 p1 p2 p3
      have ex : (j : Int) + 1 = ((j + 1 : Nat) : Int) := by omega
      refine g_X11_law_118 hd (S.eq e1) (j : Int) (by unfold inR; omega) (fun c => by omega) (fun _ => by omega) (fun _ => by rw [p3 93 _ (by omega) (by omega)]; exact hb _ (by omega) (by omega)) (fun _ => ?_)
      rw [ex]
      refine ih (j + 1) (wr (wr (wr τ 94 (j : Int) (rd τ 93 (j : Int))) 91 (j : Int) (rd τ 87 (j : Int))) 92 (j : Int) (rd τ 88 (j : Int))) (by omega) e1 (fun i hi => ?_) (fun y y0 y1 => ?_) (fun a i q1 q2 => ?_)
      · rw [rd_wr_n (by omega), rd_wr_n (by omega), rd_wr_n (by omega), rd_wr_n (by omega), rd_wr_n (by omega), rd_wr_n (by omega)]; exact p1 i hi
      · by_cases z : y = (j : Int)
        · subst z
          rw [rd_wr_n (by omega), rd_wr_n (by omega), rd_wr_same, rd_wr_n (by omega), rd_wr_same, rd_wr_same, p3 93 _ (by omega) (by omega), p3 87 _ (by omega) (by omega), p3 88 _ (by omega) (by omega)]
          exact ⟨rfl, rfl, rfl⟩
        · rw [rd_wr_n (by omega), rd_wr_n (by omega), rd_wr_n (by omega), rd_wr_n (by omega), rd_wr_n (by omega), rd_wr_n (by omega), rd_wr_n (by omega), rd_wr_n (by omega), rd_wr_n (by omega)]
          exact p2 y y0 (by omega)
      · rw [rd_wr_n (by omega), rd_wr_n (by omega), rd_wr_n (by omega)]; exact p3 a i q1 q2
  have loop1 : ∀ (m j : Nat) (τ : pS), j + m = N → τ.1 = φ.1 → (∀ i : Nat, i < j → rd τ 89 (i : Int) = rd φ 85 (i : Int) ∧ rd τ 90 (i : Int) = rd φ 86 (i : Int)) → (∀ a i : Int, a ≠ 89 → a ≠ 90 → rd τ a i = rd φ a i) → pR mX11_law d 78 [(2, 68), (0, (j : Int))] [] τ Q := fun m => by
    induction m with
    | zero =>
      intro j τ hj e1 p1 p3
      have e44 : rd τ 68 44 = (N : Int) := (p3 _ _ (by decide) (by decide)).trans hN
      exact g_X11_law_78 hd (S.eq e1) (j : Int) (by unfold inR; omega) (by unfold inR; omega) (fun _ => loop2 2 0 τ rfl e1 (fun i hi => p1 i (by omega)) (fun y y0 y1 => by omega) (fun a i q1 q2 => p3 a i (by omega) (by omega))) (fun c => by omega) (fun c => by omega)
    | succ m ih =>
      intro j τ hj e1 p1 p3
      have e44 : rd τ 68 44 = (N : Int) := (p3 _ _ (by decide) (by decide)).trans hN
      have ex : (j : Int) + 1 = ((j + 1 : Nat) : Int) := by omega
      refine g_X11_law_78 hd (S.eq e1) (j : Int) (by unfold inR; omega) (by unfold inR; omega) (fun c => by omega) (fun _ => by omega) (fun _ => ?_)
      rw [ex]
      refine ih (j + 1) (wr (wr τ 89 (j : Int) (rd τ 85 (j : Int))) 90 (j : Int) (rd τ 86 (j : Int))) (by omega) e1 (fun i hi => ?_) (fun a i q1 q2 => ?_)
      · by_cases z : i = j
        · subst z
          rw [rd_wr_n (by omega), rd_wr_same, rd_wr_same, p3 85 _ (by decide) (by decide), p3 86 _ (by decide) (by decide)]
          exact ⟨rfl, rfl⟩
        · rw [rd_wr_n (by omega), rd_wr_n (by omega), rd_wr_n (by omega), rd_wr_n (by omega)]
          exact p1 i (by omega)
      · rw [rd_wr_n (by omega), rd_wr_n (by omega)]; exact p3 a i q1 q2
  exact loop1 N 0 φ (by omega) rfl (fun i hi => absurd hi (Nat.not_lt_zero _)) (fun _ _ _ _ => rfl)
