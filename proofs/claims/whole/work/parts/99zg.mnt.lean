/-! the step of mountain() -/
theorem pLe_same {σ τ υ : pS} (h : pLe σ τ) (e : υ.1 = τ.1) (f : ∀ a i : Int, a < 0 → rd υ a i = rd τ a i) : pLe σ υ := by
  refine h.tr ⟨by rw [e]; exact Nat.le_refl _, ?_, fun a q hq _ => by rw [ob_eq e]; exact hq, f⟩
  unfold pSz
  rw [e]; exact Nat.le_refl _
theorem op_mountain {n d : Nat} {σ : pS} (hd : 100 ≤ d) (h : RB n σ) (hn : n < 512) : pC mX10_mountain d [(2, 0)] σ (fun r τ => pC mX11_mountain d [(2, 68)] τ (fun q υ => q = r ∧ RB (n + 1) υ)) := by
  refine (mountX_C (by omega) h).mono fun r τ _ m => ?_
  obtain ⟨K, P, V, E, c, k, t, T, run, It, ple, c6, I6, fin⟩ := m
  have hlen := h.1.len
  have TP := h.2.2.1
  have S : Stat τ := h.1.le ple
  have fr : ∀ a i : Int, a = 1 ∨ a = 68 ∨ a = 69 ∨ a < 0 → rd τ a i = rd σ a i := fun a i p => by
    rcases fin with ⟨_, f, q, _, _, g⟩ | ⟨_, _, g⟩
    · exact g.2.2.2 a i (by omega) (by omega) (by omega)
    · exact g.2.2.2.2.2.2.2.2.2.2.2.2.2.2.2 a i (by omega) (by omega) (by omega) (by omega) (by omega) (by omega) (by omega) (by omega)
  have eN : rd σ 0 1 = rd σ 68 1 := TP.1
  obtain ⟨s5, h5⟩ : ∃ s, s = wr (wr (wr (wr (wr τ 68 17 0) 68 18 0) 68 19 0) 68 20 0) 68 21 0 := ⟨_, rfl⟩
  have e51 : rd s5 68 1 = rd σ 0 1 := by
    rw [h5, rd_wr_n (by omega), rd_wr_n (by omega), rd_wr_n (by omega), rd_wr_n (by omega), rd_wr_n (by omega), fr _ _ (by omega), eN]
  obtain ⟨b0, hb⟩ : ∃ b, b = wr (wr (wr (wr (wr s5 68 5 (rd s5 68 1)) 68 1 0) 68 4 0) 68 2 0) 68 3 (-1) := ⟨_, rfl⟩
  have S5 : Stat s5 := by rw [h5]; exact S.wr.wr.wr.wr.wr
  have Sb : Stat b0 := by rw [hb]; exact S5.wr.wr.wr.wr.wr
  have f5 : ∀ a i : Int, ¬ (a = 68 ∧ 17 ≤ i ∧ i ≤ 21) → rd s5 a i = rd τ a i := fun a i p => by
    rw [h5, rd_wr_n (by omega), rd_wr_n (by omega), rd_wr_n (by omega), rd_wr_n (by omega), rd_wr_n (by omega)]
  have fb : ∀ a i : Int, ¬ (a = 68 ∧ 1 ≤ i ∧ i ≤ 5) → rd b0 a i = rd s5 a i := fun a i p => by
    rw [hb, rd_wr_n (by omega), rd_wr_n (by omega), rd_wr_n (by omega), rd_wr_n (by omega), rd_wr_n (by omega)]
  have b5 : rd b0 68 5 = rd σ 0 1 := by rw [hb, rd_wr_n (by omega), rd_wr_n (by omega), rd_wr_n (by omega), rd_wr_n (by omega), rd_wr_same]; exact e51
  have b1 : rd b0 68 1 = 0 := by rw [hb, rd_wr_n (by omega), rd_wr_n (by omega), rd_wr_n (by omega), rd_wr_same]
  have b4 : rd b0 68 4 = 0 := by rw [hb, rd_wr_n (by omega), rd_wr_n (by omega), rd_wr_same]
  have b2 : rd b0 68 2 = 0 := by rw [hb, rd_wr_n (by omega), rd_wr_same]
  have b3 : rd b0 68 3 = -1 := by rw [hb, rd_wr_same]
  have E0 := T.2.2.2.1
  have M : txM σ (rd σ 0 1) b0 := ⟨b5, fun i i0 i1 => by
    rw [fb _ _ (by omega), f5 _ _ (by omega), fr _ _ (by omega)]
    exact (TP.2.2.2 i i0 (by have := T.1.2.1; omega)).1⟩
  have NX := next_E (d := 1) (Nat.le_refl 1) Sb T (Nat.zero_le c) M (by rw [b4, E0]) b2 b3 (by rw [E0]; exact ⟨Int.le_refl _, T.1.1⟩)
  have BG : pC mX11_begin 2 [(2, 68)] s5 (fun r φ => r = none ∧ nxFr b0 φ ∧ mSt σ (rd σ 0 1) K P V E c none 0 φ) := by
    refine g_X11_begin_0 (Q1 := fun r φ => r = none ∧ nxFr b0 φ ∧ mSt σ (rd σ 0 1) K P V E c none 0 φ) (Nat.le_refl 2) S5 ?_ (fun τ1 _ q => q)
    rw [← hb]; exact NX
  refine g_X11_mountain_0 (Q1 := fun r φ => r = none ∧ nxFr b0 φ ∧ mSt σ (rd σ 0 1) K P V E c none 0 φ) (by omega) S (by rw [← h5]; exact BG) (fun φ _ q => ?_)
  obtain ⟨-, F0, H0⟩ := q
  have Sφ : Stat φ := Sb.eq F0.1
  have e1φ : φ.1 = τ.1 := by rw [F0.1, hb, h5]; rfl
  have fφ : ∀ a i : Int, ¬ (a = 68 ∧ ((1 ≤ i ∧ i ≤ 9) ∨ (17 ≤ i ∧ i ≤ 21))) → rd φ a i = rd τ a i := fun a i p => by rw [F0.2 a i (by omega), fb a i (by omega), f5 a i (by omega)]
  have z17 : ∀ i : Int, 17 ≤ i → i ≤ 21 → rd φ 68 i = 0 := fun i i0 i1 => by
    rw [F0.2 _ _ (by omega), fb _ _ (by omega), h5]
    have : i = 17 ∨ i = 18 ∨ i = 19 ∨ i = 20 ∨ i = 21 := by omega
    rcases this with rfl | rfl | rfl | rfl | rfl
    · rw [rd_wr_n (by omega), rd_wr_n (by omega), rd_wr_n (by omega), rd_wr_n (by omega), rd_wr_same]
    · rw [rd_wr_n (by omega), rd_wr_n (by omega), rd_wr_n (by omega), rd_wr_same]
    · rw [rd_wr_n (by omega), rd_wr_n (by omega), rd_wr_same]
    · rw [rd_wr_n (by omega), rd_wr_same]
    · rw [rd_wr_same]
  have B0 : mOB K V mS0 φ := ⟨z17 17 (by decide) (by decide), z17 18 (by decide) (by decide), z17 19 (by decide) (by decide), z17 21 (by decide) (by decide), fun w hw => absurd hw (Nat.not_lt_zero _), fun w hw => absurd hw (Nat.not_lt_zero _)⟩
  have q1 : rd φ 68 1 = 0 := (F0.2 _ _ (by omega)).trans b1
  refine mountLoop (t := t) (by omega) Sφ T (fun k21 φ' It' H B F e20 => ?_) (fun x hx k21 φ' H F => ?_) ?_ k mS0 φ (9, 0) (by decide) run (mS0_inv K P V c) H0 B0 (rlFr.rf φ) (z17 20 (by decide) (by decide))
  · rcases fin with ⟨k0, _⟩ | ⟨_, er, G⟩
    · exact absurd k21 k0
    · have i1 := It'.1
      have i2 := It'.2.1
      have gB := G.2.2.2.2.2.2.2.2.2.2.2.2.2.1
      refine copyM (by omega) (Sφ.eq F.1) (by rw [B.1]; omega) (by rw [B.2.1]; omega) (fun k hk z => ?_) (fun υ U => ⟨by rw [er, e20], ?_⟩)
      · rw [B.1, B.2.1] at z
        have a := rowsAgree It' gB B k hk z
        rw [a.1, a.2.1, a.2.2]
        exact gB.Y T.R It' k hk z
      · have eυ : υ.1 = τ.1 := U.1.trans (F.1.trans e1φ)
        refine mntGood h hn T.R It' (eυ.trans c6) (pLe_same ple eυ (fun a i p => ?_)) (I6.eq eυ) G ((F.2 _ _ (by omega) (by omega) (by omega)).trans q1) (H.2.1 rfl).1 (H.2.1 rfl).2.1 B e20 (fun a i p1 p2 p3 => (F.2 a i (by omega) p2 p3).trans (fφ a i p1)) U
        rw [U.2.2.2.2.2.2.2 a i (by omega) (by omega) (by omega) (by omega) (by omega) (by omega), F.2 a i (by omega) (by omega) (by omega), fφ a i (by omega)]
  · rcases fin with ⟨_, f, p, ho, er, g⟩ | ⟨k0, _⟩
    · rw [ho] at hx
      have ex := Option.some.inj hx
      subst ex
      have eυ : φ'.1 = τ.1 := F.1.trans e1φ
      have z := H.2.2 f p rfl
      refine ⟨er.symm, mntBad h hn (eυ.trans c6) (pLe_same ple eυ (fun a i p => ?_)) ?_ ((F.2 _ _ (by omega) (by omega) (by omega)).trans q1) (f := f) (p := p) ?_ z.1 ?_ z.2.2.2 (fun a i p1 p2 p3 p4 p5 p6 => ?_)⟩
      · rw [F.2 a i (by omega) (by omega) (by omega), fφ a i (by omega)]
      · rw [F.2 _ _ (by omega) (by omega) (by omega), fφ _ _ (by omega)]; exact g.1
      · rw [F.2 _ _ (by omega) (by omega) (by omega), fφ _ _ (by omega)]; exact g.2.1
      · rw [F.2 _ _ (by omega) (by omega) (by omega), fφ _ _ (by omega)]; exact g.2.2.1
      · rw [F.2 a i (by omega) p5 p6, fφ a i p4]
        exact g.2.2.2 a i p1 p2 p3
    · exact absurd k0 k21
  · rcases fin with ⟨k0, f, p, ho, _⟩ | ⟨k0, _⟩
    · exact Or.inr ⟨k0, _, ho⟩
    · exact Or.inl k0
