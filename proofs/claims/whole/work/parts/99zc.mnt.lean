/-! the class's mountain(), whole -/
theorem forgetWays_C {d : Nat} {σ : pS} (hd : 1 ≤ d) (S : Stat σ) : pC mX0_forgetWays d [(2, 44)] σ (fun r τ => r = none ∧ τ = fl (fl σ 48 (10 : Nat) 0) 49 (7 : Nat) 0) :=
  g_X0_forgetWays_0 (Q1 := fun r τ => r = none ∧ τ = fl σ 48 (10 : Nat) 0) (Q2 := fun r τ => r = none ∧ τ = fl (fl σ 48 (10 : Nat) 0) 49 (7 : Nat) 0) hd S (fill_C S (ob_48 S) (by decide)) (fun τ1 e1 q1 => by rw [q1.2]; exact fill_C (σ := fl σ 48 (10 : Nat) 0) S (ob_49 S) (by decide)) (fun τ1 _ _ τ2 _ q2 => q2)
theorem cOB_0 {K V : Nat → Int} {a0 : Int} {τ : pS} (h0 : ∀ i : Int, 0 ≤ i → i ≤ 4 → rd τ a0 i = 0) (h1 : ∀ k i : Int, 1 ≤ k → k ≤ 10 → rd τ (a0 + k) i = 0) : cOB K V a0 mS0 τ := by
  refine ⟨h0 0 (by decide) (by decide), h0 1 (by decide) (by decide), h0 3 (by decide) (by decide), h0 4 (by decide) (by decide), fun w hw m m0 m1 => ?_⟩
  rw [h1 m _ m0 m1]
  show 0 = if w < 0 then liftV K V (mB mS0 w) m else if 10 ≤ w ∧ w < 10 + 0 then runV V (mB mS0 w) m else 0
  rw [if_neg (by omega), if_neg (by omega)]
theorem cOB.Y {K P V : Nat → Int} {c : Nat} (R : tkR K V c) {a0 : Int} {t : mdS} {τ : pS} (I : mInv K P V c t) (B : cOB K V a0 t τ) : fwY (vWay (mL t : Int) (mR t : Int)) (inFr (rd τ (a0 + 2))) (inFr (rd τ (a0 + 3))) (inFr (rd τ (a0 + 4))) := fun k hk z => by
  have i1 := I.1
  have i2 := I.2.1
  have z := vWay_t z
  obtain ⟨w, hw, ew⟩ : ∃ w : Nat, vOuter (k : Int) = (w : Int) ∧ (w < mL t ∨ (10 ≤ w ∧ w < 10 + mR t)) := by
    unfold vOuter
    by_cases y : (k : Int) < 6
    · exact ⟨k, by rw [if_pos y], by omega⟩
    · exact ⟨k + 4, by rw [if_neg y]; omega, by omega⟩
  unfold inFr
  rw [hw, B.2.2.2.2 w (by omega) 2 (by decide) (by decide), B.2.2.2.2 w (by omega) 3 (by decide) (by decide), B.2.2.2.2 w (by omega) 4 (by decide) (by decide)]
  have a2 := wayV_R R I w 2 (by decide) (by decide)
  have a3 := wayV_R R I w 3 (by decide) (by decide)
  have a4 := wayV_R R I w 4 (by decide) (by decide)
  have b2 := a2.2.2.1 (Or.inl rfl)
  have b3 := a3.2.2.1 (Or.inr rfl)
  have b4 := a4.2.2.2.1 rfl
  refine ⟨by omega, by omega, ?_, b4⟩
  unfold wayV
  rcases ew with y | y
  · rw [if_pos y]
    obtain ⟨b, nt, h⟩ := I.2.2.2.2.2.1 w y
    exact (lift_none R b h).2.2.2.2.2.1.1
  · rw [if_neg (by omega), if_pos y]
    obtain ⟨b, nt, h⟩ := I.2.2.2.2.2.2 w y.1 y.2
    exact (run_none R b h).2.2.2.2.2.2.1.1
theorem mountX_C {n d : Nat} {σ : pS} (hd : 11 ≤ d) (h : RB n σ) : pC mX10_mountain d [(2, 0)] σ (mntQ σ) := by
  obtain ⟨S, Z, TP, F, C, L, W, P, K, R, D, E⟩ := h
  have hlen := S.len
  obtain ⟨A, hA⟩ : ∃ A : Int, A = ((σ.1.length : Nat) : Int) := ⟨_, rfl⟩
  obtain ⟨N, hN⟩ : ∃ N : Int, N = rd σ 0 1 := ⟨_, rfl⟩
  have X : txt σ N := ⟨by rw [hN, TP.1]; exact TP.2.1, by rw [hN, TP.1]; exact TP.2.2.1, fun i i0 i1 => (TP.2.2.2 i i0 i1).2⟩
  obtain ⟨r1, τ1, q1, le1, -, P1⟩ := (slopesI_C (d := 1) (σ := σ) (Nat.le_refl 1)).fix
  obtain ⟨-, c1, I1, o1, z1, y1⟩ := q1
  have L1 : pLe σ τ1 := (pLe_nw σ 6 0).tr le1
  have S1 : Stat τ1 := S.le L1
  have X1 : txt τ1 N := ⟨X.1, X.2.1, fun i i0 i1 => by rw [o1 _ _ (by omega)]; exact X.2.2 i i0 i1⟩
  obtain ⟨r2, τ2, q2, le2, -, P2⟩ := (cutTape_C (d := 10) (Nat.le_refl 10) S1 (n := N) (by rw [o1 _ _ (by omega)]; exact hN.symm) X1).fix
  obtain ⟨-, φ, cut, e2⟩ := q2
  obtain ⟨c, Ee, T, H⟩ := cut_TK cut (fun x => o1 _ _ (by omega)) X
  have cf := cut.2.1
  obtain ⟨K, hK⟩ : ∃ K : Nat → Int, K = fun (i : Nat) => rd φ 3 (i : Int) := ⟨_, rfl⟩
  obtain ⟨Pp, hP⟩ : ∃ K : Nat → Int, K = fun (i : Nat) => rd φ 4 (i : Int) := ⟨_, rfl⟩
  obtain ⟨V, hV⟩ : ∃ K : Nat → Int, K = fun (i : Nat) => rd φ 5 (i : Int) := ⟨_, rfl⟩
  rw [← hK, ← hP, ← hV] at T H
  have c2 : τ2.1 = τ1.1 := by rw [e2]; exact cf.1
  have S2 : Stat τ2 := S1.eq c2
  have f2 : ∀ a i : Int, ¬ (2 ≤ a ∧ a ≤ 5) → ¬ (a = 0 ∧ i = 1) → rd τ2 a i = rd τ1 a i := fun a i p1 p2 => by rw [e2, rd_wr_n p2]; exact cf.2 a i (by omega) (by omega) (by omega) (by omega)
  have I2 : Inst6 τ2 A := by rw [hA]; exact I1.eq c2
  have B2 : cOB K V A mS0 τ2 := cOB_0 (fun i i0 i1 => by rw [f2 _ _ (by omega) (by omega), hA, z1]; have : i = 0 ∨ i = 1 ∨ i = 2 ∨ i = 3 ∨ i = 4 := by omega
                                                         rcases this with rfl | rfl | rfl | rfl | rfl <;> rfl) (fun k i k0 k1 => by rw [f2 _ _ (by omega) (by omega), hA]; exact y1 k i k0 k1)
  have H2 : cSt K Pp V c none (mAt mS0) τ2 := by rw [e2]; exact H.wr (by omega)
  obtain ⟨r3, τ3, q3, le3, ok3, P3⟩ := (read_C (d := 5) (Nat.le_refl 5) S2 T.R H2 (by omega) I2 (mS0_inv K Pp V c) B2 (by rw [f2 _ _ (by omega) (by omega), hA, z1]; rfl) rfl).fix
  obtain ⟨k, t, run, It, F3, fin⟩ := q3
  have S3 : Stat τ3 := S2.eq F3.1
  have I3 : Inst6 τ3 A := I2.eq F3.1
  obtain ⟨τ4, e4⟩ : ∃ τ4, τ4 = wr (wr τ3 0 3 (rd τ3 2 5)) 0 4 (rd τ3 2 6) := ⟨_, rfl⟩
  have P4 : pC mX10_keepFault 0 [(2, 0)] τ3 (fun r τ => r = none ∧ τ = τ4) := g_X10_keepFault_0 (Nat.le_refl 0) S3 ⟨rfl, e4.symm⟩
  have f4 : ∀ a i : Int, ¬ (2 ≤ a ∧ a ≤ 5) → a < A ∨ A + 10 < a → ¬ (a = 0 ∧ (i = 1 ∨ i = 3 ∨ i = 4)) → rd τ4 a i = rd τ1 a i := fun a i p1 p2 p3 => by
    rw [e4, rd_wr_n (by omega), rd_wr_n (by omega), F3.2 a i (by omega) (by omega), f2 a i p1 (by omega)]
  have n4 : rd τ4 0 1 = 0 := by rw [e4, rd_wr_n (by omega), rd_wr_n (by omega), F3.2 _ _ (by omega) (by omega), e2, rd_wr_same]
  have g4 : ∀ a i : Int, A ≤ a → rd τ4 a i = rd τ3 a i := fun a i p => by rw [e4, rd_wr_n (by omega), rd_wr_n (by omega)]
  have k43 : rd τ4 0 3 = rd τ3 2 5 := by rw [e4, rd_wr_n (by omega), rd_wr_same]
  have k44 : rd τ4 0 4 = rd τ3 2 6 := by rw [e4, rd_wr_same]
  have c4 : τ4.1 = σ.1 ++ sloL := by rw [e4]; exact F3.1.trans (c2.trans c1)
  have ple : ∀ υ : pS, υ.1 = σ.1 ++ sloL → (∀ a i : Int, a < 0 → rd υ a i = rd σ a i) → pLe σ υ := fun υ p1 p2 => by
    have e1 : υ.1 = τ1.1 := p1.trans c1.symm
    refine ⟨by rw [e1]; exact L1.1, ?_, fun a q hq hf => by rw [ob_eq e1]; exact L1.2.2.1 a q hq hf, p2⟩
    have := L1.2.1
    unfold pSz at *
    rw [e1]; exact this
  refine g_X10_mountain_0 (Q1 := fun r τ => r = r1 ∧ τ = τ1) (Q2 := fun r τ => r = r2 ∧ τ = τ2) (Q3 := fun r τ => r = r3 ∧ τ = τ3) (Q4 := fun r τ => r = none ∧ τ = τ4) (Q5 := fun r τ => r = none ∧ τ = fl (fl (wr (wr (wr τ4 0 7 A) 0 6 ((rd τ4 0 6) + 1)) 29 5 0) 48 (10 : Nat) 0) 49 (7 : Nat) 0) (Q6 := fgQ (wr (fl (fl (wr (wr (wr τ4 0 7 A) 0 6 ((rd τ4 0 6) + 1)) 29 5 0) 48 (10 : Nat) 0) 49 (7 : Nat) 0) 50 2 0) A (mL t) (mR t)) hd S P1 (fun _ _ q1 => by rw [q1.2]; exact P2) (fun _ _ _ _ _ q2 => by rw [q2.2, ← hA]; exact P3) (fun _ _ _ _ _ q2 => by rw [q2.2, ← hA]; exact I2) (fun _ _ _ _ _ _ v3 _ _ _ q3 => by rw [q3.2]; exact P4) (fun _ _ _ _ _ _ v3 b3 _ _ _ _ _ _ => by unfold inR; omega) (fun _ _ _ _ _ _ v3 b3 _ _ q3 _ _ q4 c1' => ?_) (fun _ _ _ _ _ _ v3 b3 _ _ q3 _ _ q4 c1' τ5 _ q5 => ?_) (fun _ _ _ _ _ _ v3 b3 _ _ q3 _ _ q4 c1' τ5 _ q5 τ6 _ q6 => ?_) (fun _ _ _ _ _ _ v3 b3 _ _ q3 _ _ q4 c2' => ?_)
  · rw [q4.2, ← hA]
    exact forgetWays_C (Nat.le_refl 1) (S3.eq (by rw [e4]; rfl))
  · rcases fin with ⟨k21, er, hc, B3, e32⟩ | ⟨k21, x, ho, er, hc⟩
    · rw [q5.2]
      have e7 : rd (fl (fl (wr (wr (wr τ4 0 7 A) 0 6 ((rd τ4 0 6) + 1)) 29 5 0) 48 (10 : Nat) 0) 49 (7 : Nat) 0) 0 7 = A := by
        rw [rd_fl, if_neg (by omega), rd_fl, if_neg (by omega), rd_wr_n (by omega), rd_wr_n (by omega), rd_wr_same]
      rw [e7]
      have hg : ∀ a i : Int, A ≤ a → rd (wr (fl (fl (wr (wr (wr τ4 0 7 A) 0 6 ((rd τ4 0 6) + 1)) 29 5 0) 48 (10 : Nat) 0) 49 (7 : Nat) 0) 50 2 0) a i = rd τ3 a i := fun a i p => by
        rw [rd_wr_n (by omega), rd_fl, if_neg (by omega), rd_fl, if_neg (by omega), rd_wr_n (by omega), rd_wr_n (by omega), rd_wr_n (by omega)]
        exact g4 a i p
      have B' : cOB K V A t (wr (fl (fl (wr (wr (wr τ4 0 7 A) 0 6 ((rd τ4 0 6) + 1)) 29 5 0) 48 (10 : Nat) 0) 49 (7 : Nat) 0) 50 2 0) := ⟨by rw [hg _ _ (by omega)]; exact B3.1, by rw [hg _ _ (by omega)]; exact B3.2.1, by rw [hg _ _ (by omega)]; exact B3.2.2.1, by rw [hg _ _ (by omega)]; exact B3.2.2.2.1, fun w hw m m0 m1 => by rw [hg _ _ (by omega)]; exact B3.2.2.2.2 w hw m m0 m1⟩
      have Sx : Stat (wr (fl (fl (wr (wr (wr τ4 0 7 A) 0 6 ((rd τ4 0 6) + 1)) 29 5 0) 48 (10 : Nat) 0) 49 (7 : Nat) 0) 50 2 0) := S3.eq (by rw [e4]; rfl)
      have Ix : Inst6 (wr (fl (fl (wr (wr (wr τ4 0 7 A) 0 6 ((rd τ4 0 6) + 1)) 29 5 0) 48 (10 : Nat) 0) 49 (7 : Nat) 0) 50 2 0) A := I3.eq (by rw [e4]; rfl)
      refine forget_C (Nat.le_refl 3) Sx (Or.inr (by omega)) Ix B'.1 B'.2.1 It.1 It.2.1 (fun w hw => ?_) (B'.Y T.R It)
      rw [B'.2.2.2.2 w hw 2 (by decide) (by decide), B'.2.2.2.2 w hw 3 (by decide) (by decide)]
      have a2 := wayV_R T.R It w 2 (by decide) (by decide)
      have a3 := wayV_R T.R It w 3 (by decide) (by decide)
      have b2 := a2.2.2.1 (Or.inl rfl)
      have b3 := a3.2.2.1 (Or.inr rfl)
      unfold inR; omega
    · exact absurd (so_inj (q3.1.trans er)) c1'
  · rcases fin with ⟨k21, er, hc, B3, e32⟩ | ⟨k21, x, ho, er, hc⟩
    · obtain ⟨-, g1, g2, g3, g5, g6, g7⟩ := q6
      have fr : ∀ a i : Int, ¬ (62 ≤ a ∧ a ≤ 64) → ¬ (a = 61 ∧ i = 6) → ¬ (a = 50 ∧ i = 2) → ¬ (a = 49 ∨ a = 48) → ¬ (a = 29 ∧ i = 5) → ¬ (a = 0 ∧ (i = 6 ∨ i = 7)) → rd τ6 a i = rd τ4 a i := fun a i p1 p2 p3 p4 p5 p6 => by
        rw [g2 a i p1 p2, rd_wr_n p3, rd_fl, if_neg (by omega), rd_fl, if_neg (by omega), rd_wr_n (by omega), rd_wr_n (by omega), rd_wr_n (by omega)]
      have hA3 : ∀ a i : Int, A ≤ a → rd τ6 a i = rd τ3 a i := fun a i p => by
        rw [fr a i (by omega) (by omega) (by omega) (by omega) (by omega) (by omega)]; exact g4 a i p
      have hAx : ∀ a i : Int, A ≤ a → rd (wr (fl (fl (wr (wr (wr τ4 0 7 A) 0 6 ((rd τ4 0 6) + 1)) 29 5 0) 48 (10 : Nat) 0) 49 (7 : Nat) 0) 50 2 0) a i = rd τ6 a i := fun a i p => (g2 a i (by omega) (by omega)).symm
      have B6 : cOB K V A t τ6 := ⟨by rw [hA3 _ _ (by omega)]; exact B3.1, by rw [hA3 _ _ (by omega)]; exact B3.2.1, by rw [hA3 _ _ (by omega)]; exact B3.2.2.1, by rw [hA3 _ _ (by omega)]; exact B3.2.2.2.1, fun w hw m m0 m1 => by rw [hA3 _ _ (by omega)]; exact B3.2.2.2.2 w hw m m0 m1⟩
      have c6 : τ6.1 = σ.1 ++ sloL := g1.trans c4
      have fa : ∀ a i : Int, a < A → ¬ (2 ≤ a ∧ a ≤ 5) → ¬ (a = 0 ∧ (i = 1 ∨ i = 3 ∨ i = 4 ∨ i = 6 ∨ i = 7)) → ¬ (a = 29 ∧ i = 5) → ¬ (a = 48 ∨ a = 49) → ¬ (a = 50 ∧ i = 2) → ¬ (a = 61 ∧ i = 6) → ¬ (62 ≤ a ∧ a ≤ 64) → rd τ6 a i = rd σ a i := fun a i p1 p2 p3 p4 p5 p6 p7 p8 => by
        rw [fr a i p8 p7 p6 (by omega) p4 (by omega), f4 a i p2 (Or.inl p1) (by omega), o1 a i (by omega)]
      have z3 := hc.2.1 rfl
      rw [← hA]
      refine ⟨K, Pp, V, Ee, c, k, t, hN ▸ T, run, It, ple τ6 c6 (fun a i p => fa a i (by omega) (by omega) (by omega) (by omega) (by omega) (by omega) (by omega) (by omega)), c6, ?_, Or.inr ⟨k21, by rw [hA3 _ _ (by omega), e32], ?_⟩⟩
      · rw [← hA]; exact I3.eq (c6.trans (by rw [← c4, e4]; rfl))
      · rw [← hA]
        refine ⟨?_, ?_, ?_, ?_, ?_, ?_, fun i i0 i1 => ?_, fun i i0 i1 => ?_, ?_, g3, g5, ?_, ?_, B6, ?_, fa⟩
        · rw [fr _ _ (by omega) (by omega) (by omega) (by omega) (by omega) (by omega)]; exact n4
        · rw [fr _ _ (by omega) (by omega) (by omega) (by omega) (by omega) (by omega), k43]; exact z3.1
        · rw [fr _ _ (by omega) (by omega) (by omega) (by omega) (by omega) (by omega), k44]; exact z3.2.1
        · rw [g2 _ _ (by omega) (by omega), rd_wr_n (by omega), rd_fl, if_neg (by omega), rd_fl, if_neg (by omega), rd_wr_n (by omega), rd_wr_same, f4 _ _ (by omega) (by omega) (by omega), o1 _ _ (by omega)]
        · rw [g2 _ _ (by omega) (by omega), rd_wr_n (by omega), rd_fl, if_neg (by omega), rd_fl, if_neg (by omega), rd_wr_n (by omega), rd_wr_n (by omega), rd_wr_same]
        · rw [g2 _ _ (by omega) (by omega), rd_wr_n (by omega), rd_fl, if_neg (by omega), rd_fl, if_neg (by omega), rd_wr_same]
        · rw [g2 _ _ (by omega) (by omega), rd_wr_n (by omega), rd_fl, if_neg (by omega), rd_fl, if_pos (by omega)]
        · rw [g2 _ _ (by omega) (by omega), rd_wr_n (by omega), rd_fl, if_pos (by omega)]
        · rw [g2 _ _ (by omega) (by omega), rd_wr_same]
        · have x2 : rd τ6 (A + 2) = rd (wr (fl (fl (wr (wr (wr τ4 0 7 A) 0 6 ((rd τ4 0 6) + 1)) 29 5 0) 48 (10 : Nat) 0) 49 (7 : Nat) 0) 50 2 0) (A + 2) := funext fun i => (hAx _ i (by omega)).symm
          have x3 : rd τ6 (A + 3) = rd (wr (fl (fl (wr (wr (wr τ4 0 7 A) 0 6 ((rd τ4 0 6) + 1)) 29 5 0) 48 (10 : Nat) 0) 49 (7 : Nat) 0) 50 2 0) (A + 3) := funext fun i => (hAx _ i (by omega)).symm
          have x4 : rd τ6 (A + 4) = rd (wr (fl (fl (wr (wr (wr τ4 0 7 A) 0 6 ((rd τ4 0 6) + 1)) 29 5 0) 48 (10 : Nat) 0) 49 (7 : Nat) 0) 50 2 0) (A + 4) := funext fun i => (hAx _ i (by omega)).symm
          rw [x2, x3, x4]; exact g6
        · intro r hr o ho
          rw [g7 r hr o ho, hAx _ _ (by omega), hAx _ _ (by omega)]
        · rw [hA3 _ _ (by omega)]; exact e32
    · exact absurd (so_inj (q3.1.trans er)) c1'
  · rw [q4.2]
    rcases fin with ⟨k21, er, hc, B3, e32⟩ | ⟨k21, x, ho, er, hc⟩
    · exact absurd ((so_inj (q3.1.trans er)).symm.trans c2') (by decide)
    · obtain ⟨f, p⟩ := x
      have z := hc.2.2.1 f p rfl
      refine ⟨K, Pp, V, Ee, c, k, t, hN ▸ T, run, It, ple τ4 c4 (fun a i p => by rw [f4 a i (by omega) (Or.inl (by omega)) (by omega), o1 a i (by omega)]), c4, ?_, Or.inl ⟨k21, f, p, ho, rfl, n4, by rw [k43]; exact z.1, by rw [k44]; exact z.2.2.2, fun a i p1 p2 p3 => ?_⟩⟩
      · rw [← hA]; exact I3.eq (by rw [e4]; rfl)
      · rw [← hA] at p1
        rw [f4 a i p2 (Or.inl p1) p3, o1 a i (by omega)]
