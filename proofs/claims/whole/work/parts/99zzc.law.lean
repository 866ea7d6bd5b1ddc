/-! the step of law() -/
theorem op_law {n d : Nat} {σ : pS} (hd : 100 ≤ d) (h : RB n σ) (hn : n < 512) : pC mX10_law d [(2, 0)] σ (fun r τ => pC mX11_law d [(2, 68)] τ (fun q υ => q = r ∧ RB (n + 1) υ)) := by
  refine (lawX_C (by omega) h).mono fun r τ _ m => ?_
  have hlen := h.1.len
  have TP := h.2.2.1
  have eN : rd σ 0 1 = rd σ 68 1 := TP.1
  have r01 : inR (rd σ 68 1) := by have := TP.2.1; have := TP.2.2.1; unfold inR; omega
  rcases m with ⟨big, er, et⟩ | ⟨sm, K, P, V, E, c, k, t, T, hc, run, It, ple, c6, I6, fin⟩
  · rw [et]
    exact g_X11_law_0 (Q1 := fun _ _ => True) (by omega) h.1 r01 (fun c => by omega) (fun c => by omega) (fun _ => ⟨er.symm, h.up hn⟩)
  have S : Stat τ := h.1.le ple
  have fr : ∀ a i : Int, a = 1 ∨ a = 68 ∨ a = 69 ∨ a < 0 → rd τ a i = rd σ a i := fun a i p => by
    rcases fin with ⟨_, f, q, _, _, g⟩ | ⟨_, _, g⟩
    · exact g.2.2.2 a i (by omega) (by omega) (by omega)
    · exact g.2.2.2.2.2.2.2.2 a i (by omega) (by omega) (by omega) (by omega)
  obtain ⟨s5, h5⟩ : ∃ s, s = wr (wr (wr (wr (wr τ 68 44 0) 68 45 0) 68 20 0) 93 0 0) 93 1 0 := ⟨_, rfl⟩
  have f5 : ∀ a i : Int, ¬ (a = 68 ∧ (i = 44 ∨ i = 45 ∨ i = 20)) → a ≠ 93 → rd s5 a i = rd τ a i := fun a i p p2 => by
    rw [h5, rd_wr_n (by omega), rd_wr_n (by omega), rd_wr_n (by omega), rd_wr_n (by omega), rd_wr_n (by omega)]
  have e51 : rd s5 68 1 = rd σ 0 1 := by rw [f5 _ _ (by omega) (by omega), fr _ _ (by omega), eN]
  obtain ⟨b0, hb⟩ : ∃ b, b = wr (wr (wr (wr (wr s5 68 5 (rd s5 68 1)) 68 1 0) 68 4 0) 68 2 0) 68 3 (-1) := ⟨_, rfl⟩
  have S5 : Stat s5 := by rw [h5]; exact S.wr.wr.wr.wr.wr
  have Sb : Stat b0 := by rw [hb]; exact S5.wr.wr.wr.wr.wr
  have fb : ∀ a i : Int, ¬ (a = 68 ∧ 1 ≤ i ∧ i ≤ 5) → rd b0 a i = rd s5 a i := fun a i p => by
    rw [hb, rd_wr_n (by omega), rd_wr_n (by omega), rd_wr_n (by omega), rd_wr_n (by omega), rd_wr_n (by omega)]
  have b5 : rd b0 68 5 = rd σ 0 1 := by rw [hb, rd_wr_n (by omega), rd_wr_n (by omega), rd_wr_n (by omega), rd_wr_n (by omega), rd_wr_same]; exact e51
  have b1 : rd b0 68 1 = 0 := by rw [hb, rd_wr_n (by omega), rd_wr_n (by omega), rd_wr_n (by omega), rd_wr_same]
  have b4 : rd b0 68 4 = 0 := by rw [hb, rd_wr_n (by omega), rd_wr_n (by omega), rd_wr_same]
  have b2 : rd b0 68 2 = 0 := by rw [hb, rd_wr_n (by omega), rd_wr_same]
  have b3 : rd b0 68 3 = -1 := by rw [hb, rd_wr_same]
  have E0 := T.2.2.2.1
  have M : txM σ (rd σ 0 1) b0 := ⟨b5, fun i i0 i1 => by
    rw [fb _ _ (by omega), f5 _ _ (by omega) (by omega), fr _ _ (by omega)]
    exact (TP.2.2.2 i i0 (by have := T.1.2.1; omega)).1⟩
  have NX := next_E (d := 1) (Nat.le_refl 1) Sb T (Nat.zero_le c) M (by rw [b4, E0]) b2 b3 (by rw [E0]; exact ⟨Int.le_refl _, T.1.1⟩)
  have BG : pC mX11_begin 2 [(2, 68)] s5 (fun r φ => r = none ∧ nxFr b0 φ ∧ mSt σ (rd σ 0 1) K P V E c none 0 φ) := by
    refine g_X11_begin_0 (Q1 := fun r φ => r = none ∧ nxFr b0 φ ∧ mSt σ (rd σ 0 1) K P V E c none 0 φ) (Nat.le_refl 2) S5 ?_ (fun τ1 _ q => q)
    rw [← hb]; exact NX
  have et1 : rd τ 68 1 = rd σ 68 1 := fr _ _ (by omega)
  refine g_X11_law_0 (Q1 := fun r φ => r = none ∧ nxFr b0 φ ∧ mSt σ (rd σ 0 1) K P V E c none 0 φ) (by omega) S (by rw [et1]; exact r01) (fun _ => by rw [← h5]; exact BG) (fun _ φ _ q => ?_) (fun c2 => by omega)
  obtain ⟨-, F0, H0⟩ := q
  have Sφ : Stat φ := Sb.eq F0.1
  have e1φ : φ.1 = τ.1 := by rw [F0.1, hb, h5]; rfl
  have fφ : ∀ a i : Int, ¬ (a = 68 ∧ ((1 ≤ i ∧ i ≤ 9) ∨ i = 44 ∨ i = 45 ∨ i = 20)) → a ≠ 93 → rd φ a i = rd τ a i := fun a i p p2 => by rw [F0.2 a i (by omega), fb a i (by omega), f5 a i (by omega) p2]
  have z44 : rd φ 68 44 = 0 ∧ rd φ 68 45 = 0 ∧ rd φ 68 20 = 0 ∧ rd φ 93 0 = 0 ∧ rd φ 93 1 = 0 := by
    rw [F0.2 _ _ (by omega), F0.2 _ _ (by omega), F0.2 _ _ (by omega), F0.2 _ _ (by omega), F0.2 _ _ (by omega), fb _ _ (by omega), fb _ _ (by omega), fb _ _ (by omega), fb _ _ (by omega), fb _ _ (by omega), h5]
    refine ⟨?_, ?_, ?_, ?_, ?_⟩
    · rw [rd_wr_n (by omega), rd_wr_n (by omega), rd_wr_n (by omega), rd_wr_n (by omega), rd_wr_same]
    · rw [rd_wr_n (by omega), rd_wr_n (by omega), rd_wr_n (by omega), rd_wr_same]
    · rw [rd_wr_n (by omega), rd_wr_n (by omega), rd_wr_same]
    · rw [rd_wr_n (by omega), rd_wr_same]
    · rw [rd_wr_same]
  have q1 : rd φ 68 1 = 0 := (F0.2 _ _ (by omega)).trans b1
  have L0 : lmP σ (rd σ 0 1) K P V E c ls0 0 φ := ⟨H0, ⟨z44.1, fun i p e => (by cases e)⟩, z44.2.1, z44.2.2.1, fun y => ⟨fun _ => by cases y; exact z44.2.2.2.1; exact z44.2.2.2.2, fun v e => (by cases e)⟩⟩
  refine lawLoop (m := 600) (t := t) (by omega) Sφ T hc (by omega) (fun k21 φ' It' H F => ?_) (fun x hx k21 φ' H F => ?_) ?_ k ls0 φ (9, 0) (by decide) run (ls0_inv c) L0 (lmF.rf φ)
  · rcases fin with ⟨k0, _⟩ | ⟨_, er, G⟩
    · exact absurd k21 k0
    · obtain ⟨H1, ⟨H2, H2'⟩, H3, H4, H5⟩ := H
      have lenA : (qA t.1).length ≤ c := Nat.le_trans It.2.1 It.2.2.1
      refine copyL (N := (qA t.1).length) (by omega) (Sφ.eq F.1) H2 (by omega) (fun y y0 y1 => ?_) (fun υ U => ⟨by rw [er, H4], ?_⟩)
      · obtain ⟨Y, rfl⟩ : ∃ Y : Bool, y = b2i Y := by
          by_cases w : y = 0
          · exact ⟨false, w⟩
          · exact ⟨true, by show y = 1; omega⟩
        cases ev : t.2.1 Y with
        | none => exact Or.inl ((H5 Y).1 ev)
        | some v => exact Or.inr ((H5 Y).2 v ev).1
      · have eυ : υ.1 = τ.1 := U.1.trans (F.1.trans e1φ)
        refine lawGood h hn hc It' (eυ.trans c6) (pLe_same ple eυ (fun a i p => ?_)) (I6.eq eυ) G ((F.2 _ _ (by omega) (by omega) (by omega) (by omega)).trans q1) (H1.2.1 rfl).1 (H1.2.1 rfl).2.1 H2' H5 (fun a i p1 p2 p3 p4 => (F.2 a i (by omega) p2 p3 p4).trans (fφ a i (by omega) p3)) U
        rw [U.2.2.2.2 a i (by omega) (by omega) (by omega), F.2 a i (by omega) (by omega) (by omega) (by omega), fφ a i (by omega) (by omega)]
  · rcases fin with ⟨_, f, p, ho, er, g⟩ | ⟨k0, _⟩
    · rw [ho] at hx
      have ex := Sum.inl.inj hx
      subst ex
      have eυ : φ'.1 = τ.1 := F.1.trans e1φ
      have z := H.2.2 f p rfl
      refine ⟨er.symm, lawBad h hn (by omega) (eυ.trans c6) (pLe_same ple eυ (fun a i p => ?_)) ?_ ((F.2 _ _ (by omega) (by omega) (by omega) (by omega)).trans q1) (f := f) (p := p) ?_ z.1 ?_ z.2.2.2 (fun a i p1 p2 p3 p4 p5 p6 p7 => ?_)⟩
      · rw [F.2 a i (by omega) (by omega) (by omega) (by omega), fφ a i (by omega) (by omega)]
      · rw [F.2 _ _ (by omega) (by omega) (by omega) (by omega), fφ _ _ (by omega) (by omega)]; exact g.1
      · rw [F.2 _ _ (by omega) (by omega) (by omega) (by omega), fφ _ _ (by omega) (by omega)]; exact g.2.1
      · rw [F.2 _ _ (by omega) (by omega) (by omega) (by omega), fφ _ _ (by omega) (by omega)]; exact g.2.2.1
      · rw [F.2 a i (by omega) p5 p6 p7, fφ a i (by omega) p6]
        exact g.2.2.2 a i p1 p2 p3
    · exact absurd k0 k21
  · rcases fin with ⟨k0, f, p, ho, _⟩ | ⟨k0, _⟩
    · exact Or.inr ⟨k0, _, ho⟩
    · exact Or.inl k0
