/-! soonest, way, last -/
theorem wys_eq {σ τ : pS} (m : same σ τ MF) : wyS τ = wyS σ := funext fun w => by unfold wyS; rw [MF.fld m (i := 30) (by omega), MF.fld m (i := 31) (by omega)]
theorem opN_eq {σ τ : pS} (m : same σ τ MF) (k w : Int) (j : Nat) : opN τ k w j = opN σ k w j := by
  induction j with
  | zero => rfl
  | succ j ih => unfold opN; rw [MF.fld m (i := 30) (by omega), MF.fld m (i := 31) (by omega), openS_eq m, ih]
theorem FS_eq {σ τ : pS} (m : same σ τ MF) (k sk : Int) : FS τ k sk = FS σ k sk := funext fun w => funext fun t => by unfold FS nextOpen; rw [goS_eq m, minS_eq m, opN_eq m]
theorem r77_eq {σ τ : pS} (m : same σ τ MF) : rd τ 77 = rd σ 77 := funext (MF.row m (by omega))
theorem r78_eq {σ τ : pS} (m : same σ τ MF) : rd τ 78 = rd σ 78 := funext (MF.row m (by omega))
theorem MF.fr {σ τ : pS} (q2 : ∀ a i : Int, ¬ FrA a → rd τ a i = rd σ a i) : same σ τ MF := fun a i p => q2 a i (by unfold MF at p; unfold FrA; omega)
theorem same.tr3 {σ τ υ : pS} (h : same σ τ MF) (q : ∀ a i : Int, ¬ FrA a → rd υ a i = rd τ a i) : same σ υ MF := h.tr (MF.fr q)
theorem knowD.fr {σ τ : pS} {k : Int} (h : knowD σ k τ) : ∀ a i : Int, ¬ FrA a → rd τ a i = rd σ a i := fun a i p => h.1.1.2 a i (by unfold FrA at p; omega)
theorem qRow.fr {σ τ : pS} {r : Int} (h : qRow σ τ r) (hr : FrA r) : ∀ a i : Int, ¬ FrA a → rd τ a i = rd σ a i := fun a i p => h.2 a i (fun z => p (z ▸ hr))
theorem vAsk_t {a b m t : Int} (h : vAsk a b m t = true) : (0 ≤ a ∧ a < 4) ∧ (0 ≤ b ∧ b < 10) ∧ (0 ≤ t ∧ t < 10) ∧ 0 ≤ m ∧ m < 481 := by
  have : 0 ≤ a ∧ a < 4 ∧ 0 ≤ b ∧ b < 10 ∧ 0 ≤ t ∧ t < 10 ∧ 0 ≤ m ∧ m < 481 := by simpa [vAsk] using h
  omega
theorem op_soonest {n d : Nat} {σ : pS} (hd : 100 ≤ d) (h : RB n σ) (hn : n < 512) {x1 x2 x3 x4 x5 : Int} (h1 : inR x1) (h2 : inR x2) (h3 : inR x3) (h4 : inR x4) (h5 : inR x5) : pC mX10_soonest d [(2, 0), (0, x1), (0, x2), (0, x3), (0, x4), (0, x5)] σ (fun r τ => pC mX11_soonest d [(2, 68), (0, x1), (0, x2), (0, x3), (0, x4), (0, x5)] τ (fun q υ => q = r ∧ RB (n + 1) υ)) := by
  have H := RB.up h hn
  have S := h.1
  have L := h.slo
  refine g_X10_soonest_0 (Q1 := fun r τ => r = none ∧ lookD σ x5 τ) (Q2 := fun r υ => ∃ τ v, lookD σ x5 τ ∧ isSoon (wyS σ) (rd σ 77) (rd σ 78) (FS σ x5 x1) x2 x3 x4 v ∧ r = some (0, soonA v) ∧ qRow τ υ 41) (by omega) S x1 x2 x3 x4 x5 (canAsk_C (by omega) S h1 h2 h3 h4) (fun _ => h.look_C (by omega) h5) (fun c τ e q => ?_) (fun c τ e q v3 υ e3 q3 => ?_) (fun c => ?_)
  · obtain ⟨c1, c2, c3, c4⟩ := vAsk_t c
    exact (first_C (by omega) S L (q.2.cv L h.law) c1 c2 (by omega) c3).mono (fun r υ _ ⟨v, y1, y2, y3⟩ => ⟨τ, v, q.2, y1, y2, y3⟩)
  · obtain ⟨c1, c2, c3, c4⟩ := vAsk_t c
    obtain ⟨τ', v, y0, y1, y2, y3⟩ := q3
    have H1 := (h.look y0 h5).fr y3.1 (y3.fr (by unfold FrA; omega))
    have m := (y0.mf h.law.1).tr3 (y3.fr (by unfold FrA; omega))
    have ok := FS_ok L x5 c1
    rw [y2]
    have fin : ∀ (ω ω' : pS) (v' : Int), knowD υ x5 ω → isSoon (wyS υ) (rd υ 77) (rd υ 78) (FS υ x5 x1) x2 x3 x4 v' → qRow ω ω' 106 → v' = v ∧ RB (n + 1) ω' := fun ω ω' v' k1 k2 k3 => by
      rw [wys_eq m, r77_eq m, r78_eq m, FS_eq m] at k2
      exact ⟨isSoon.uniq ok (by omega) (by omega) k2 y1, RB.up ((H1.kn k1.1.1).fr k3.1 (k3.fr (by unfold FrA; omega))) hn⟩
    refine g_X11_soonest_0 (Q1 := fun r ω => r = none ∧ knowD υ x5 ω) (Q2 := fun r ω' => ∃ ω v, knowD υ x5 ω ∧ isSoon (wyS υ) (rd υ 77) (rd υ 78) (FS υ x5 x1) x2 x3 x4 v ∧ r = some (0, v) ∧ qRow ω ω' 106) (by omega) H1.1 x1 x2 x3 x4 x5 (isSkill_C H1.1 h1) (fun w => by have := vWithin_f w; omega) (fun _ => isPlace_C H1.1 h2) (fun _ w => by have := vWithin_f w; omega) (fun _ _ => isPlace_C H1.1 h4) (fun _ _ w => by have := vWithin_f w; omega) (fun _ _ _ => h3) (fun _ _ _ w => by omega) (fun _ _ _ _ _ => know_C (by omega) H1.1 H1.win H1.slo H1.law h5) (fun _ _ _ _ _ ω e q => ?_) (fun _ _ _ _ _ ω e q v' ω' e' q' => ?_) (fun _ _ _ _ _ ω e q v' ω' e' q' w => ?_) (fun _ _ _ _ _ ω e q v' ω' e' q' w => ?_) (fun _ _ _ _ w => by omega)
    · exact (soon_C (by omega) H1.1 H1.slo q.2.rv c1 c2 (by omega) c3).mono (fun r ω' _ ⟨v, z1, z2, z3⟩ => ⟨ω, v, q.2, z1, z2, z3⟩)
    · obtain ⟨ω2, v2, z0, z1, z2, z3⟩ := q'
      have := z1.ge (FS_ok H1.slo x5 c1) (by omega) (by omega)
      rw [so_inj z2]; unfold inR; omega
    · obtain ⟨ω2, v2, z0, z1, z2, z3⟩ := q'
      obtain ⟨f1, f2⟩ := fin ω2 ω' v2 z0 z1 z3
      have z2 := so_inj z2
      refine ⟨?_, f2⟩
      unfold soonA
      rw [if_neg (by omega), z2, f1]
    · obtain ⟨ω2, v2, z0, z1, z2, z3⟩ := q'
      obtain ⟨f1, f2⟩ := fin ω2 ω' v2 z0 z1 z3
      have z2 := so_inj z2
      refine ⟨?_, f2⟩
      unfold soonA
      rw [if_pos (by omega)]
  · refine g_X11_soonest_0 (Q1 := fun _ _ => True) (Q2 := fun _ _ => True) (by omega) S x1 x2 x3 x4 x5 (isSkill_C S h1) ?_ (fun _ => isPlace_C S h2) ?_ (fun _ _ => isPlace_C S h4) ?_ (fun _ _ _ => h3) ?_ ?_ ?_ ?_ ?_ ?_ ?_
    all_goals first
      | (intros; exact ⟨rfl, H⟩)
      | (intros; exfalso; simp only [vWithin, vAsk, decide_eq_true_eq, decide_eq_false_iff_not] at *; omega)
theorem op_way {n d : Nat} {σ : pS} (hd : 100 ≤ d) (h : RB n σ) (hn : n < 512) {x1 x2 x3 x4 x5 x6 : Int} (h1 : inR x1) (h2 : inR x2) (h3 : inR x3) (h4 : inR x4) (h5 : inR x5) (h6 : inR x6) : pC mX10_way d [(2, 0), (0, x1), (0, x2), (0, x3), (0, x4), (0, x5), (0, x6)] σ (fun r τ => pC mX11_way d [(2, 68), (0, x1), (0, x2), (0, x3), (0, x4), (0, x5), (0, x6)] τ (fun q υ => q = r ∧ RB (n + 1) υ)) := by
  have H := RB.up h hn
  have S := h.1
  have L := h.slo
  refine g_X10_way_0 (Q1 := fun r τ => r = none ∧ lookD σ x6 τ) (Q2 := fun r υ => ∃ τ v, lookD σ x6 τ ∧ isSoon (wyS σ) (rd σ 77) (rd σ 78) (FS σ x6 x1) x2 x3 x4 v ∧ fr2 τ υ 41 42 ∧ ((v = 1000000 ∧ r = some (0, (-1))) ∨ (v ≠ 1000000 ∧ ∃ l, isL (wyS σ) (rd σ 77) (rd σ 78) (FS σ x6 x1) x4 v l ∧ r = some (0, wN (wyS σ) (rd σ 77) (rd σ 78) (FS σ x6 x1) l x4 x5.toNat x2 x3)))) (by omega) S x1 x2 x3 x4 x5 x6 (canAsk_C (by omega) S h1 h2 h3 h4) (fun c => ?_) (fun _ => h5) (fun _ _ => h.look_C (by omega) h6) (fun c c0 τ e q => ?_) (fun c c0 τ e q v3 υ e3 q3 => ?_) (fun c c0 => ?_)
  · refine g_X11_way_0 (Q1 := fun _ _ => True) (Q2 := fun _ _ => True) (by omega) S x1 x2 x3 x4 x5 x6 (isSkill_C S h1) ?_ (fun _ => isPlace_C S h2) ?_ (fun _ _ => isPlace_C S h4) ?_ (fun _ _ _ => h3) ?_ ?_ (fun _ _ _ _ _ => h5) ?_ ?_ ?_ ?_ ?_ ?_
    all_goals first
      | (intros; exact ⟨rfl, H⟩)
      | (intros; exfalso; simp only [vWithin, vAsk, decide_eq_true_eq, decide_eq_false_iff_not] at *; omega)
  · obtain ⟨c1, c2, c3, c4⟩ := vAsk_t c
    exact (wayOf_CX (by omega) S L (q.2.cv L h.law) c1 c2 (by omega) c3 (by unfold inR at h5; omega)).mono (fun r υ _ ⟨v, y1, y2, y3⟩ => ⟨τ, v, q.2, y1, y2, y3⟩)
  · obtain ⟨c1, c2, c3, c4⟩ := vAsk_t c
    obtain ⟨τ', v, y0, y1, y2, y3⟩ := q3
    have f2 : ∀ a i : Int, ¬ FrA a → rd υ a i = rd τ' a i := fun a i p => y2.2 a i (fun z => p (by unfold FrA; omega)) (fun z => p (by unfold FrA; omega))
    have H1 := (h.look y0 h6).fr y2.1 f2
    have m := (y0.mf h.law.1).tr3 f2
    have ok := FS_ok L x6 c1
    have fin : ∀ (ω ω' : pS) (v' : Int), knowD υ x6 ω → isSoon (wyS υ) (rd υ 77) (rd υ 78) (FS υ x6 x1) x2 x3 x4 v' → qRow ω ω' 106 → v' = v ∧ RB (n + 1) ω' := fun ω ω' v' k1 k2 k3 => by
      rw [wys_eq m, r77_eq m, r78_eq m, FS_eq m] at k2
      exact ⟨isSoon.uniq ok (by omega) (by omega) k2 y1, RB.up ((H1.kn k1.1.1).fr k3.1 (k3.fr (by unfold FrA; omega))) hn⟩
    refine g_X11_way_0 (Q1 := fun r ω => r = none ∧ knowD υ x6 ω) (Q2 := fun r ω' => ∃ ω v, knowD υ x6 ω ∧ isSoon (wyS υ) (rd υ 77) (rd υ 78) (FS υ x6 x1) x2 x3 x4 v ∧ r = some (0, v) ∧ qRow ω ω' 106) (by omega) H1.1 x1 x2 x3 x4 x5 x6 (isSkill_C H1.1 h1) (fun w => by have := vWithin_f w; omega) (fun _ => isPlace_C H1.1 h2) (fun _ w => by have := vWithin_f w; omega) (fun _ _ => isPlace_C H1.1 h4) (fun _ _ w => by have := vWithin_f w; omega) (fun _ _ _ => h3) (fun _ _ _ w => by omega) (fun _ _ _ _ w => by omega) (fun _ _ _ _ _ => h5) (fun _ _ _ _ _ _ => know_C (by omega) H1.1 H1.win H1.slo H1.law h6) (fun _ _ _ _ _ _ ω e q => ?_) (fun _ _ _ _ _ _ ω e q v' ω' e' q' => ?_) (fun _ _ _ _ _ _ ω e q v' ω' e' q' w => ?_) (fun _ _ _ _ _ _ ω e q v' ω' e' q' w => ?_) (fun _ _ _ _ _ w => by omega)
    · exact (soon_C (by omega) H1.1 H1.slo q.2.rv c1 c2 (by omega) c3).mono (fun r ω' _ ⟨v, z1, z2, z3⟩ => ⟨ω, v, q.2, z1, z2, z3⟩)
    · obtain ⟨ω2, v2, z0, z1, z2, z3⟩ := q'
      have := z1.ge (FS_ok H1.slo x6 c1) (by omega) (by omega)
      rw [so_inj z2]; unfold inR; omega
    · obtain ⟨ω2, v2, z0, z1, z2, z3⟩ := q'
      obtain ⟨f1, f3⟩ := fin ω2 ω' v2 z0 z1 z3
      have z2 := so_inj z2
      rcases y3 with ⟨nv, -⟩ | ⟨nv, l, il, er⟩
      · omega
      · rw [z2]
        have r0 := z0.rv
        have il2 : isL (wyS υ) (rd υ 77) (rd υ 78) (FS υ x6 x1) x4 v2 l := by rw [wys_eq m, r77_eq m, r78_eq m, FS_eq m, f1]; exact il
        have := way_C (τ0 := ω') (x2 := x2) (x3 := x3) (x5 := x5) (x6 := x6) (d := d) (by omega) H1.1 H1.slo c1 c3 (by omega) il2 541 ω' x2 x3 x5 (9, 0) (by omega) c0 (by unfold inR at h5; omega) c2 (by omega) z1 (r0.q z3) (qRow.rf ω' 106) (by decide)
        refine pR.mono this (fun r ω3 _ q => ⟨?_, f3.fr q.2.1 (q.2.fr (by unfold FrA; omega))⟩)
        rw [q.1, er, wys_eq m, r77_eq m, r78_eq m, FS_eq m]
    · obtain ⟨ω2, v2, z0, z1, z2, z3⟩ := q'
      obtain ⟨f1, f3⟩ := fin ω2 ω' v2 z0 z1 z3
      have z2 := so_inj z2
      rcases y3 with ⟨nv, er⟩ | ⟨nv, l, il, er⟩
      · exact ⟨er.symm, f3⟩
      · omega
  · refine g_X11_way_0 (Q1 := fun _ _ => True) (Q2 := fun _ _ => True) (by omega) S x1 x2 x3 x4 x5 x6 (isSkill_C S h1) ?_ (fun _ => isPlace_C S h2) ?_ (fun _ _ => isPlace_C S h4) ?_ (fun _ _ _ => h3) ?_ ?_ (fun _ _ _ _ _ => h5) ?_ ?_ ?_ ?_ ?_ ?_
    all_goals first
      | (intros; exact ⟨rfl, H⟩)
      | (intros; exfalso; omega)
theorem op_last {n d : Nat} {σ : pS} (hd : 100 ≤ d) (h : RB n σ) (hn : n < 512) {x1 x2 x3 : Int} (h1 : inR x1) (h2 : inR x2) (h3 : inR x3) : pC mX10_last d [(2, 0), (0, x1), (0, x2), (0, x3)] σ (fun r τ => pC mX11_last d [(2, 68), (0, x1), (0, x2), (0, x3)] τ (fun q υ => q = r ∧ RB (n + 1) υ)) := by
  have H := RB.up h hn
  have S := h.1
  have L := h.slo
  have no : (vWithin x1 4 = false ∨ vWithin x2 10 = false) → pC mX11_last d [(2, 68), (0, x1), (0, x2), (0, x3)] σ (fun q υ => q = some (0, (-1)) ∧ RB (n + 1) υ) := fun c => by
    refine g_X11_last_0 (Q1 := fun _ _ => True) (by omega) S x1 x2 x3 (isSkill_C S h1) (fun _ => ⟨rfl, H⟩) (fun _ => isPlace_C S h2) (fun c1 c2 => ?_) (fun c1 c2 => ?_) (fun _ _ => ⟨rfl, H⟩)
    all_goals
      exfalso
      rcases c with c | c
      · rw [c] at c1; cases c1
      · rw [c] at c2; cases c2
  refine g_X10_last_0 (Q1 := fun r τ => r = none ∧ lookD σ x3 τ) (Q2 := fun r υ => ∃ τ v, lookD σ x3 τ ∧ isLast (wyS σ) (rd σ 77) (rd σ 78) (FS σ x3 x1) (rd σ 68 32) 1000000 x2 v ∧ r = some (0, v) ∧ qRow τ υ 42) (by omega) S x1 x2 x3 (within_C S h1 (by decide)) (fun c => no (Or.inl c)) (fun _ => within_C S h2 (by decide)) (fun _ _ => h.look_C (by omega) h3) (fun _ _ τ e q => ?_) (fun c1 c2 τ e q => ?_) (fun c1 c2 τ e q v υ e3 q3 => ?_) (fun c1 c2 τ e q v υ e3 q3 => ?_) (fun _ c => no (Or.inr c))
  · exact (h.look q.2 h3).slo.2.1
  · have c1 := vWithin_t c1
    have c2 := vWithin_t c2
    have v := q.2.cv L h.law
    have l0 := L.1
    obtain ⟨n2, I2, -⟩ := h.law.2.1
    have hs := law_apart L I2
    have l8 := L.2.2.2.2.2.2.2.2.1
    have hl := h.law.1
    have e7 : rd τ 0 7 = rd σ 0 7 := q.2.2.1 _ _ (by omega) (by omega) (by omega)
    have eh : rd τ (rd τ 0 7) 3 = rd σ 68 32 := by rw [e7, v.2.1 _ _ (by omega) (by omega)]; exact L.2.2.2.2.2.2.2.1
    rw [eh]
    exact (lastAt_C (by omega) S L v c1 c2 l8).mono (fun r υ _ ⟨v, y1, y2, y3⟩ => ⟨τ, v, q.2, y1, y2, y3⟩)
  · obtain ⟨τ', v', y0, y1, y2, y3⟩ := q3
    have c1 := vWithin_t c1
    rw [so_inj y2]
    rcases y1.2 with e | ⟨e, ws, t, t1, t2⟩
    · rw [e]; decide
    · have := tRun_le (FS_ok L x3 c1) e t2
      unfold inR; omega
  · have c1' := vWithin_t c1
    have c2' := vWithin_t c2
    obtain ⟨τ', v', y0, y1, y2, y3⟩ := q3
    have H1 := (h.look y0 h3).fr y3.1 (y3.fr (by unfold FrA; omega))
    have m := (y0.mf h.law.1).tr3 (y3.fr (by unfold FrA; omega))
    refine g_X11_last_0 (Q1 := fun r ω => r = none ∧ knowD υ x3 ω) (by omega) H1.1 x1 x2 x3 (isSkill_C H1.1 h1) (fun w => by rw [w] at c1; cases c1) (fun _ => isPlace_C H1.1 h2) (fun _ _ => know_C (by omega) H1.1 H1.win H1.slo H1.law h3) (fun _ _ ω e q => ?_) (fun _ w => by rw [w] at c2; cases c2)
    have y1' : isLast (wyS υ) (rd υ 77) (rd υ 78) (FS υ x3 x1) (rd υ 68 32) 1000000 x2 v' := by rw [wys_eq m, r77_eq m, r78_eq m, FS_eq m, MF.fld m (i := 32) (by omega)]; exact y1
    have := lastM_C (τ0 := ω) (x3 := x3) (d := d) (by omega) H1.1 H1.slo c1' c2' y1' 481 ω (Nat.le_refl _) (fun m m0 m1 => by omega) q.2.rv (qRow.rf ω 106)
    refine pR.mono this (fun r ω3 _ q5 => ⟨?_, RB.up ((H1.kn q.2.1.1).fr q5.2.1 (q5.2.fr (by unfold FrA; omega))) hn⟩)
    rw [q5.1, so_inj y2]
