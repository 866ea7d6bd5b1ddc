/-! the reference's ways; soonest, way, last -/
theorem RV.q {σ τ υ : pS} {k : Int} (h : RV σ k τ) (q : qRow τ υ 106) : RV σ k υ := ⟨q.1.trans h.1, fun a i p => (q.2 a i (by omega)).trans (h.2.1 a i p), fun w w0 w1 => ⟨fun r r0 r1 => (q.2 _ _ (by omega)).trans ((h.2.2 w w0 w1).1 r r0 r1), fun m m0 m1 => (q.2 _ _ (by omega)).trans ((h.2.2 w w0 w1).2 m m0 m1)⟩⟩
theorem RV.e77 {σ τ : pS} {k : Int} (h : RV σ k τ) (w : Int) : rd τ 77 w = rd σ 77 w ∧ rd τ 78 w = rd σ 78 w := ⟨h.eq (by omega), h.eq (by omega)⟩
theorem RSlo.ends {σ : pS} (L : RSlo σ) {w : Int} (hw : wyS σ w = true) : 0 ≤ rd σ 77 w ∧ rd σ 77 w < 10 ∧ 0 ≤ rd σ 78 w ∧ rd σ 78 w < 10 := by
  have m := L.2.2.2.2.2.2.2.2.2.1 w hw
  exact ⟨m.2.1, m.2.2.1, m.2.2.2.2.1, m.2.2.2.2.2.1⟩
theorem soon_in {d : Nat} {σ τ0 : pS} {Q : Option pV → pS → Prop} (hd : 3 ≤ d) (S : Stat σ) (L : RSlo σ) {k sk : Int} (hs : 0 ≤ sk ∧ sk < 4) {x2 x3 x4 p m : Int} {B : Int → Int} (hm : 0 ≤ m ∧ m ≤ 540) (hB : rAtt (wyS σ) (rd σ 77) (rd σ 78) (FS σ k sk) p m B)
    (K : ∀ (υ : pS) (u7 : pV), u7.1 ≠ 1 → RV σ k υ → qRow τ0 υ 106 → rowIs υ 106 (rPass (wyS σ) (rd σ 77) (rd σ 78) (FS σ k sk) B 13) → pR mX11_soonestOf d 35 [(2, 68), (0, sk), (0, x2), (0, x3), (0, x4), (0, b2i (rCh (wyS σ) (rd σ 77) (rd σ 78) (FS σ k sk) B 13)), (0, 13), u7] [] υ Q) :
    ∀ (n j : Nat) (τ : pS) (u7 : pV), j + n = 13 → u7.1 ≠ 1 → RV σ k τ → qRow τ0 τ 106 → rowIs τ 106 (rPass (wyS σ) (rd σ 77) (rd σ 78) (FS σ k sk) B j) → pR mX11_soonestOf d 46 [(2, 68), (0, sk), (0, x2), (0, x3), (0, x4), (0, b2i (rCh (wyS σ) (rd σ 77) (rd σ 78) (FS σ k sk) B j)), (0, (j : Int)), u7] [] τ Q := by
  have ok := FS_ok L k hs
  intro n
  induction n with
  | zero =>
    intro j τ u7 hj hu h q i
    have e : j = 13 := by omega
    subst e
    exact g_X11_soonestOf_46 hd (h.st S) sk x2 x3 x4 _ _ u7 hu (by decide) (fun _ => K τ u7 hu h q i) (fun c => by omega) (fun c => by omega) (fun c => by omega) (fun c => by omega) (fun c => by omega) (fun c => by omega) (fun c => by omega) (fun c => by omega) (fun c => by omega) (fun c => by omega) (fun c => by omega) (fun c => by omega) (fun c => by omega)
  | succ n ih =>
    intro j τ u7 hj hu h q i
    have aB := hB.pass j (by omega)
    have pos := aB.pos ok hm.1 hm.2
    have e77 := h.e77 (j : Int)
    have nowy : wyS σ (j : Int) = false → rPass (wyS σ) (rd σ 77) (rd σ 78) (FS σ k sk) B (j + 1) = rPass (wyS σ) (rd σ 77) (rd σ 78) (FS σ k sk) B j ∧ rCh (wyS σ) (rd σ 77) (rd σ 78) (FS σ k sk) B (j + 1) = rCh (wyS σ) (rd σ 77) (rd σ 78) (FS σ k sk) B j := fun c => rPass_skip c
    have stay : ∀ u7 : pV, u7.1 ≠ 1 → rCond (wyS σ) (rd σ 77) (rd σ 78) (FS σ k sk) (rPass (wyS σ) (rd σ 77) (rd σ 78) (FS σ k sk) B j) (j : Int) = false ∧ (∀ q, rlx (wyS σ) (rd σ 77) (rd σ 78) (FS σ k sk) (rPass (wyS σ) (rd σ 77) (rd σ 78) (FS σ k sk) B j) (j : Int) q = rPass (wyS σ) (rd σ 77) (rd σ 78) (FS σ k sk) B j q) → pR mX11_soonestOf d 46 [(2, 68), (0, sk), (0, x2), (0, x3), (0, x4), (0, b2i (rCh (wyS σ) (rd σ 77) (rd σ 78) (FS σ k sk) B j)), (0, (j : Int) + 1), u7] [] τ Q := fun u7 hu c => by
      rw [show (j : Int) + 1 = ((j + 1 : Nat) : Int) by omega]
      have := ih (j + 1) τ u7 (by omega) hu h q (fun q q0 q1 => by
        show _ = rlx (wyS σ) (rd σ 77) (rd σ 78) (FS σ k sk) (rPass (wyS σ) (rd σ 77) (rd σ 78) (FS σ k sk) B j) (j : Int) q
        rw [c.2]; exact i q q0 q1)
      have e2 : rCh (wyS σ) (rd σ 77) (rd σ 78) (FS σ k sk) B (j + 1) = rCh (wyS σ) (rd σ 77) (rd σ 78) (FS σ k sk) B j := by
        show (rCh (wyS σ) (rd σ 77) (rd σ 78) (FS σ k sk) B j || rCond (wyS σ) (rd σ 77) (rd σ 78) (FS σ k sk) (rPass (wyS σ) (rd σ 77) (rd σ 78) (FS σ k sk) B j) (j : Int)) = _
        rw [c.1, Bool.or_false]
      rw [e2] at this
      exact this
    have isW : vWay (rd τ 68 30) (rd τ 68 31) (j : Int) = wyS σ (j : Int) := h.wy _
    have fN := pos (rd σ 77 (j : Int))
    have tN := pos (rd σ 78 (j : Int))
    have by' : vBy τ sk (j : Int) (rPass (wyS σ) (rd σ 77) (rd σ 78) (FS σ k sk) B j (rd σ 77 (j : Int))) = FS σ k sk (j : Int) (rPass (wyS σ) (rd σ 77) (rd σ 78) (FS σ k sk) B j (rd σ 77 (j : Int))) := h.by (by omega) fN.1
    refine g_X11_soonestOf_46 hd (h.st S) sk x2 x3 x4 _ _ u7 hu (by omega) (fun c => by omega) (fun _ => h.isWay_C S L (by omega)) (fun _ c => ?_) (fun _ _ => by omega) (fun _ c => ?_) (fun _ c => ?_) (fun _ c c5 => ?_) (fun _ c c5 => ?_) (fun _ c c5 c7 => ?_) (fun _ c c5 c8 => ?_) (fun _ c c5 c8 => ?_) (fun _ c c5 c8 c9 => ?_) (fun _ c c5 c8 c10 => ?_) (fun _ c c6 => ?_)
    · rw [isW] at c
      have e := nowy c
      rw [show (j : Int) + 1 = ((j + 1 : Nat) : Int) by omega]
      have := ih (j + 1) τ u7 (by omega) hu h q (by rw [e.1]; exact i)
      rw [e.2] at this
      exact this
    all_goals rw [isW] at c
    all_goals have en := L.ends c
    all_goals have i1 := i _ en.1 en.2.1
    all_goals have i2 := i _ en.2.2.1 en.2.2.2
    all_goals have fR := FS_R L (k := k) (m := rPass (wyS σ) (rd σ 77) (rd σ 78) (FS σ k sk) B j (rd σ 77 (j : Int))) c hs fN.1
    · rw [e77.1]; exact ⟨en.1, en.2.1⟩
    · rw [e77.1, i1]; unfold inR; omega
    · rw [e77.1, i1]; exact by_C (Nat.le_refl 2) S L h c hs (by omega)
    · rw [e77.1, i1, by']; unfold inR; omega
    · rw [e77.1, i1, by'] at c7 ⊢
      exact stay _ (show (0 : Nat) ≠ 1 by decide) (rlx_no (fun z => by omega))
    · rw [e77.2]; exact ⟨en.2.2.1, en.2.2.2⟩
    · rw [e77.2, i2]; unfold inR; omega
    · rw [e77.1, i1] at c5
      rw [e77.1, i1, by'] at c8
      rw [e77.1, e77.2, i1, i2, by'] at c9
      rw [e77.1, e77.2, i1, by', show (j : Int) + 1 = ((j + 1 : Nat) : Int) by omega]
      have y := rlx_yes (A := rPass (wyS σ) (rd σ 77) (rd σ 78) (FS σ k sk) B j) c ⟨c5, by omega, c9⟩
      have := ih (j + 1) (wr τ 106 (rd σ 78 (j : Int)) (FS σ k sk (j : Int) (rPass (wyS σ) (rd σ 77) (rd σ 78) (FS σ k sk) B j (rd σ 77 (j : Int))))) (0, FS σ k sk (j : Int) (rPass (wyS σ) (rd σ 77) (rd σ 78) (FS σ k sk) B j (rd σ 77 (j : Int)))) (by omega) (show (0 : Nat) ≠ 1 by decide) h.wr q.wr (fun q q0 q1 => by
        show _ = rlx (wyS σ) (rd σ 77) (rd σ 78) (FS σ k sk) (rPass (wyS σ) (rd σ 77) (rd σ 78) (FS σ k sk) B j) (j : Int) q
        rw [y.2]
        by_cases z : q = rd σ 78 (j : Int)
        · rw [if_pos z, z, rd_wr_same]
        · rw [if_neg z, rd_wr_i _ z, i q q0 q1])
      have e2 : rCh (wyS σ) (rd σ 77) (rd σ 78) (FS σ k sk) B (j + 1) = true := by
        show (rCh (wyS σ) (rd σ 77) (rd σ 78) (FS σ k sk) B j || rCond (wyS σ) (rd σ 77) (rd σ 78) (FS σ k sk) (rPass (wyS σ) (rd σ 77) (rd σ 78) (FS σ k sk) B j) (j : Int)) = _
        rw [y.1, Bool.or_true]
      rw [e2] at this
      exact this
    · rw [e77.1, e77.2, i1, i2, by'] at c10
      rw [e77.1, i1, by']
      exact stay _ (show (0 : Nat) ≠ 1 by decide) (rlx_no (fun z => by omega))
    · rw [e77.1, i1] at c6
      exact stay u7 hu (rlx_no (fun z => z.1 c6))
theorem soon_C {d : Nat} {σ τ : pS} (hd : 3 ≤ d) (S : Stat σ) (L : RSlo σ) {k : Int} (h : RV σ k τ) {sk p m t : Int} (hs : 0 ≤ sk ∧ sk < 4) (hp : 0 ≤ p ∧ p < 10) (hm : 0 ≤ m ∧ m ≤ 540) (ht : 0 ≤ t ∧ t < 10) : pC mX11_soonestOf d [(2, 68), (0, sk), (0, p), (0, m), (0, t)] τ (fun r υ => ∃ v, isSoon (wyS σ) (rd σ 77) (rd σ 78) (FS σ k sk) p m t v ∧ r = some (0, v) ∧ qRow τ υ 106) := by
  have ok := FS_ok L k hs
  have S2 := h.st S
  have out : ∀ (N : Nat) (A : Int → Int) (υ : pS) (x5 : Int) (u6 u7 : pV), rAtt (wyS σ) (rd σ 77) (rd σ 78) (FS σ k sk) p m A → A p ≤ m → (x5 ≠ 0 → rSum A 10 < (N : Int)) → RV σ k υ → qRow τ υ 106 → rowIs υ 106 A → (x5 = 0 → rCh (wyS σ) (rd σ 77) (rd σ 78) (FS σ k sk) A 13 = false) → (x5 = 0 ∨ x5 = 1) → u6.1 ≠ 1 → u7.1 ≠ 1 → pR mX11_soonestOf d 35 [(2, 68), (0, sk), (0, p), (0, m), (0, t), (0, x5), u6, u7] [] υ (fun r υ => ∃ v, isSoon (wyS σ) (rd σ 77) (rd σ 78) (FS σ k sk) p m t v ∧ r = some (0, v) ∧ qRow τ υ 106) := by
    intro N
    induction N with
    | zero =>
      intro A υ x5 u6 u7 at1 hA hN h' q i h5 h5' hu6 hu7
      have sp := rSum_pos (fun q => (at1.pos ok hm.1 hm.2 q).1) 10
      exact g_X11_soonestOf_35 hd (h'.st S) sk p m t x5 u6 u7 hu6 hu7 (by omega) (fun _ => ht) (fun c => ⟨_, rClosed ok hm.1 hm.2 at1 hA (h5 c) t, by rw [i t ht.1 ht.2], q⟩) (fun c => by have := hN c; omega)
    | succ N ih =>
      intro A υ x5 u6 u7 at1 hA hN h' q i h5 h5' hu6 hu7
      refine g_X11_soonestOf_35 hd (h'.st S) sk p m t x5 u6 u7 hu6 hu7 (by omega) (fun _ => ht) (fun c => ⟨_, rClosed ok hm.1 hm.2 at1 hA (h5 c) t, by rw [i t ht.1 ht.2], q⟩) (fun c => ?_)
      refine soon_in (B := A) hd S L hs hm at1 (fun υ' u7' hu' h2 q' i' => ?_) 13 0 υ u7 (by omega) hu7 h' q i
      refine ih (rPass (wyS σ) (rd σ 77) (rd σ 78) (FS σ k sk) A 13) υ' _ _ _ (at1.pass 13 (Nat.le_refl _)) (Int.le_trans (rPass_le _ _ _) hA) (fun z => ?_) h2 q' i' (fun z => ?_) (b2i_01 _) (show (0 : Nat) ≠ 1 by decide) hu'
      · have := rCh_sum ok (b2i_ne0.mp z)
        have := hN c
        omega
      · have z := b2i_eq0.mp z
        rw [rCh_false z]
        exact z
  have fill : ∀ (n i : Nat) (υ : pS), i + n = 10 → RV σ k υ → qRow τ υ 106 → (∀ q : Int, 0 ≤ q → q < (i : Int) → rd υ 106 q = 1000000) → pR mX11_soonestOf d 3 [(2, 68), (0, sk), (0, p), (0, m), (0, t), (0, (i : Int)), (9, 0), (9, 0)] [] υ (fun r υ => ∃ v, isSoon (wyS σ) (rd σ 77) (rd σ 78) (FS σ k sk) p m t v ∧ r = some (0, v) ∧ qRow τ υ 106) := by
    intro n
    induction n with
    | zero =>
      intro i υ hi h' q f
      have e : i = 10 := by omega
      subst e
      refine g_X11_soonestOf_3 hd (h'.st S) sk p m t _ (9, 0) (9, 0) (by decide) (by decide) (by decide) (fun _ => hp) (fun _ => ?_) (fun c => by omega) (fun c => by omega)
      refine out 10000001 (fun q => if q = p then m else 1000000) _ 1 _ _ (rAtt0 p m) (by simp) (fun _ => ?_) h'.wr q.wr (fun q q0 q1 => ?_) (fun z => by omega) (Or.inr rfl) (by decide) (by decide)
      · have : ∀ n : Nat, rSum (fun q => if q = p then m else 1000000) n ≤ 1000000 * (n : Int) := fun n => by
          induction n with
          | zero => exact Int.le_refl _
          | succ n ihn =>
            unfold rSum
            have : (if (n : Int) = p then m else 1000000) ≤ 1000000 := by split <;> omega
            omega
        have := this 10
        omega
      · by_cases c : q = p
        · subst c; rw [rd_wr_same]; exact (if_pos rfl).symm
        · rw [rd_wr_i _ c, f q q0 q1]; exact (if_neg c).symm
    | succ n ih =>
      intro i υ hi h' q f
      refine g_X11_soonestOf_3 hd (h'.st S) sk p m t _ (9, 0) (9, 0) (by decide) (by decide) (by omega) (fun c => by omega) (fun c => by omega) (fun _ => by omega) (fun _ => ?_)
      rw [show (i : Int) + 1 = ((i + 1 : Nat) : Int) by omega]
      refine ih (i + 1) _ (by omega) h'.wr q.wr (fun q q0 q1 => ?_)
      by_cases c : q = (i : Int)
      · subst c; rw [rd_wr_same]
      · rw [rd_wr_i _ c, f q q0 (by omega)]
  exact g_X11_soonestOf_0 hd S2 sk p m t (fill 10 0 τ rfl h (qRow.rf τ 106) (fun q q0 q1 => by omega))
theorem leads_C {d : Nat} {σ τ : pS} (hd : 4 ≤ d) (S : Stat σ) (L : RSlo σ) {k : Int} (h : RV σ k τ) {sk p m w t v : Int} (hs : 0 ≤ sk ∧ sk < 4) (hp : 0 ≤ p ∧ p < 10) (hm : 0 ≤ m ∧ m ≤ 540) (hw : 0 ≤ w ∧ w < 13) (ht : 0 ≤ t ∧ t < 10) {l : Int → Int} (sv : isSoon (wyS σ) (rd σ 77) (rd σ 78) (FS σ k sk) p m t v) (nv : v ≠ 1000000) (il : isL (wyS σ) (rd σ 77) (rd σ 78) (FS σ k sk) t v l) : pC mX11_leads d [(2, 68), (0, sk), (0, p), (0, m), (0, w), (0, t), (0, v)] τ (fun r υ => r = some (0, b2i (leadB (wyS σ) (rd σ 77) (rd σ 78) (FS σ k sk) l p m w)) ∧ qRow τ υ 106) := by
  have ok := FS_ok L k hs
  have isW : vWay (rd τ 68 30) (rd τ 68 31) w = wyS σ w := h.wy _
  have e77 := h.e77 w
  have eb : vBy τ sk w m = FS σ k sk w m := h.by hw hm.1
  have vb := sv.ge ok hm.1 hm.2
  have no : ¬ (rd σ 77 w = p ∧ FS σ k sk w m ≠ -1 ∧ FS σ k sk w m ≤ l (rd σ 78 w)) → some ((0 : Nat), (0 : Int)) = some (0, b2i (leadB (wyS σ) (rd σ 77) (rd σ 78) (FS σ k sk) l p m w)) := fun c => by rw [leadB_f c]; rfl
  refine g_X11_leads_0 (Q1 := fun r υ => ∃ x, isSoon (wyS σ) (rd σ 77) (rd σ 78) (FS σ k sk) (rd σ 78 w) (FS σ k sk w m) t x ∧ r = some (0, x) ∧ qRow τ υ 106) hd (h.st S) sk p m w t v (h.isWay_C S L (by omega)) (fun c => ⟨?_, qRow.rf τ 106⟩) (fun _ => hw) (fun c => ?_) (fun _ => by omega) (fun c _ => ?_) (fun c _ => ?_) (fun c c3 c5 => ⟨?_, qRow.rf τ 106⟩) (fun c c3 c6 => ?_) (fun c c3 c6 v3 τ3 e3 q3 => ?_) (fun _ _ _ _ _ _ _ => by omega) (fun c c3 c6 v3 τ3 e3 q3 c7 => ?_) (fun c c3 c6 v3 τ3 e3 q3 c8 => ?_) (fun c c4 => ⟨no (fun z => c4 (e77.1.trans z.1)), qRow.rf τ 106⟩)
  · rw [isW] at c
    unfold leadB; rw [c, Bool.false_and]; rfl
  all_goals rw [isW] at c
  all_goals have en := L.ends c
  all_goals have fR := FS_R L (k := k) (m := m) c hs hm.1
  · rw [e77.1]; unfold inR; omega
  · exact by_C (Nat.le_refl 2) S L h c hs (by omega)
  · rw [eb]; unfold inR; omega
  · rw [eb] at c5
    exact no (fun z => by omega)
  · rw [eb] at c6
    rw [e77.2, eb]
    exact soon_C (Nat.le_refl 3) S L h hs ⟨en.2.2.1, en.2.2.2⟩ ⟨c6, fR.2⟩ ht
  · obtain ⟨x, y1, y2, y3⟩ := q3
    rw [eb] at c6
    have := y1.ge ok c6 fR.2
    rw [so_inj y2]; unfold inR; omega
  · obtain ⟨x, y1, y2, y3⟩ := q3
    rw [eb] at c6
    rw [e77.1] at c3
    have li := lead_iff ok hm.1 hm.2 ⟨hw.1, hw.2, c⟩ c3 (by omega) sv nv y1 (il _ en.2.2.1 en.2.2.2)
    exact ⟨no (fun z => c7 ((so_inj y2).trans (li.mpr z.2.2))), y3⟩
  · obtain ⟨x, y1, y2, y3⟩ := q3
    rw [eb] at c6
    rw [e77.1] at c3
    have li := lead_iff ok hm.1 hm.2 ⟨hw.1, hw.2, c⟩ c3 (by omega) sv nv y1 (il _ en.2.2.1 en.2.2.2)
    refine ⟨?_, y3⟩
    have z := li.mp ((so_inj y2).symm.trans c8)
    unfold leadB
    rw [c, decide_eq_true ⟨c3, by omega, z⟩]
    rfl
theorem way_C {d : Nat} {σ τ0 : pS} (hd : 5 ≤ d) (S : Stat σ) (L : RSlo σ) {k : Int} {sk x2 x3 x5 x6 t v : Int} (hs : 0 ≤ sk ∧ sk < 4) (ht : 0 ≤ t ∧ t < 10) {l : Int → Int} (nv : v ≠ 1000000) (il : isL (wyS σ) (rd σ 77) (rd σ 78) (FS σ k sk) t v l) : ∀ (N : Nat) (τ : pS) (p m n : Int) (u : pV), 541 ≤ m + (N : Int) → 0 ≤ n → n < 2147483648 → 0 ≤ p ∧ p < 10 → 0 ≤ m ∧ m ≤ 540 → isSoon (wyS σ) (rd σ 77) (rd σ 78) (FS σ k sk) p m t v → RV σ k τ → qRow τ0 τ 106 → u.1 ≠ 1 → pR mX11_way d 76 [(2, 68), (0, sk), (0, x2), (0, x3), (0, t), (0, x5), (0, x6), (0, v), (0, p), (0, m), (0, n), u] [] τ (fun r υ => r = some (0, wN (wyS σ) (rd σ 77) (rd σ 78) (FS σ k sk) l t n.toNat p m) ∧ qRow τ0 υ 106) := by
  have ok := FS_ok L k hs
  intro N
  induction N with
  | zero => intro τ p m n u hN hn hn2 hp hm; omega
  | succ N ih =>
    intro τ p m n u hN hn hn2 hp hm sv h q hu
    have vb := sv.ge ok hm.1 hm.2
    have go : p ≠ t → ∀ (r w : Nat) (τ : pS), w + r = 13 → (∀ w' : Int, 0 ≤ w' → w' < (w : Int) → leadB (wyS σ) (rd σ 77) (rd σ 78) (FS σ k sk) l p m w' = false) → RV σ k τ → qRow τ0 τ 106 → pR mX11_way d 93 [(2, 68), (0, sk), (0, x2), (0, x3), (0, t), (0, x5), (0, x6), (0, v), (0, p), (0, m), (0, n), (0, (w : Int))] [] τ (fun r υ => r = some (0, wN (wyS σ) (rd σ 77) (rd σ 78) (FS σ k sk) l t n.toNat p m) ∧ qRow τ0 υ 106) := by
      intro hpt r
      have ex := lead_ex ok hm.1 sv nv hpt il
      induction r with
      | zero =>
        intro w τ hw hb
        have := hb _ ex.1 (by omega)
        rw [ex.2.2] at this
        cases this
      | succ r ihr =>
        intro w τ hw hb h q
        refine g_X11_way_93 (Q1 := fun r υ => r = some (0, b2i (leadB (wyS σ) (rd σ 77) (rd σ 78) (FS σ k sk) l p m (w : Int))) ∧ qRow τ υ 106) hd (h.st S) sk x2 x3 t x5 x6 v p m n _ (leads_C (Nat.le_refl 4) S L h hs hp hm (by omega) ht sv nv il) (fun _ _ _ _ _ => by omega) (fun _ _ _ _ _ _ => by omega) (fun v1 b1 τ1 e1 q1 c1 c3 => ?_) (fun _ _ _ _ _ _ _ => by omega) (fun v1 b1 τ1 e1 q1 c1 c3 => ?_) (fun v1 b1 τ1 e1 q1 c1 c4 => outer_C ((h.q q1.2).st S) (by omega)) (fun v1 b1 τ1 e1 q1 c1 c4 => ?_) (fun v1 b1 τ1 e1 q1 c2 => ?_)
        · have lw : leadB (wyS σ) (rd σ 77) (rd σ 78) (FS σ k sk) l p m (w : Int) = true := b2i_t' (so_inj q1.1) c1
          exact by_C (Nat.le_refl 2) S L (h.q q1.2) (leadB_t lw).1 hs (by omega)
        · have lw : leadB (wyS σ) (rd σ 77) (rd σ 78) (FS σ k sk) l p m (w : Int) = true := b2i_t' (so_inj q1.1) c1
          have ew : fsW (leadB (wyS σ) (rd σ 77) (rd σ 78) (FS σ k sk) l p m) = (w : Int) := by
            rcases fsN_spec (C := leadB (wyS σ) (rd σ 77) (rd σ 78) (FS σ k sk) l p m) 13 0 with ⟨s1, s2⟩ | ⟨s1, s2, s3, s4⟩
            · have := s2 (w : Int) (by omega) (by omega)
              rw [lw] at this; cases this
            · show fsN (leadB (wyS σ) (rd σ 77) (rd σ 78) (FS σ k sk) l p m) 13 0 = _
              by_cases c : fsN (leadB (wyS σ) (rd σ 77) (rd σ 78) (FS σ k sk) l p m) 13 0 < (w : Int)
              · have := hb _ (by omega) c
                rw [s3] at this; cases this
              · by_cases c2 : (w : Int) < fsN (leadB (wyS σ) (rd σ 77) (rd σ 78) (FS σ k sk) l p m) 13 0
                · have := s4 _ (by omega) c2
                  rw [lw] at this; cases this
                · omega
          have st := lead_step ok hm.1 (by omega) sv il lw
          have en := L.ends (leadB_t lw).1
          have h1 := h.q q1.2
          rw [(h1.e77 _).2, h1.by (by omega) hm.1]
          have := ih τ1 (rd σ 78 (w : Int)) (FS σ k sk (w : Int) m) (n + (-1)) (0, (w : Int)) (by omega) (by omega) (by omega) ⟨en.2.2.1, en.2.2.2⟩ (by omega) st.1 h1 (q.tr q1.2) (show (0 : Nat) ≠ 1 by decide)
          have e : wN (wyS σ) (rd σ 77) (rd σ 78) (FS σ k sk) l t n.toNat p m = wN (wyS σ) (rd σ 77) (rd σ 78) (FS σ k sk) l t (n + (-1)).toNat (rd σ 78 (w : Int)) (FS σ k sk (w : Int) m) := by
            rw [show n.toNat = (n + (-1)).toNat + 1 by omega]
            show (if p = t then -1 else wN (wyS σ) (rd σ 77) (rd σ 78) (FS σ k sk) l t (n + (-1)).toNat (rd σ 78 (fsW (leadB (wyS σ) (rd σ 77) (rd σ 78) (FS σ k sk) l p m))) (FS σ k sk (fsW (leadB (wyS σ) (rd σ 77) (rd σ 78) (FS σ k sk) l p m)) m)) = _
            rw [if_neg hpt, ew]
          rw [e]
          exact this
        · have lw : leadB (wyS σ) (rd σ 77) (rd σ 78) (FS σ k sk) l p m (w : Int) = true := b2i_t' (so_inj q1.1) c1
          have ew : fsW (leadB (wyS σ) (rd σ 77) (rd σ 78) (FS σ k sk) l p m) = (w : Int) := by
            rcases fsN_spec (C := leadB (wyS σ) (rd σ 77) (rd σ 78) (FS σ k sk) l p m) 13 0 with ⟨s1, s2⟩ | ⟨s1, s2, s3, s4⟩
            · have := s2 (w : Int) (by omega) (by omega)
              rw [lw] at this; cases this
            · show fsN (leadB (wyS σ) (rd σ 77) (rd σ 78) (FS σ k sk) l p m) 13 0 = _
              by_cases c : fsN (leadB (wyS σ) (rd σ 77) (rd σ 78) (FS σ k sk) l p m) 13 0 < (w : Int)
              · have := hb _ (by omega) c
                rw [s3] at this; cases this
              · by_cases c2 : (w : Int) < fsN (leadB (wyS σ) (rd σ 77) (rd σ 78) (FS σ k sk) l p m) 13 0
                · have := s4 _ (by omega) c2
                  rw [lw] at this; cases this
                · omega
          refine ⟨?_, q.tr q1.2⟩
          rw [c4]
          show _ = some (0, if p = t then -1 else vOuter (fsW (leadB (wyS σ) (rd σ 77) (rd σ 78) (FS σ k sk) l p m)))
          rw [if_neg hpt, ew]
        · have lw : leadB (wyS σ) (rd σ 77) (rd σ 78) (FS σ k sk) l p m (w : Int) = false := b2i_f' (so_inj q1.1) c2
          rw [show (w : Int) + 1 = ((w + 1 : Nat) : Int) by omega]
          refine ihr (w + 1) τ1 (by omega) (fun w' w0 w1 => ?_) (h.q q1.2) (q.tr q1.2)
          by_cases c : w' = (w : Int)
          · rw [c]; exact lw
          · exact hb w' w0 (by omega)
    refine g_X11_way_76 hd (h.st S) sk x2 x3 t x5 x6 v p m n u hu (by omega) (by omega) (fun c => go c 13 0 τ rfl (fun w' w0 w1 => by omega) h q) (fun _ => by omega) (fun _ => by omega) (fun c c3 => ?_) (fun c c4 => ?_)
    · subst c; rw [wN_at]; exact ⟨rfl, q⟩
    · subst c
      have := sv.1 [] m ⟨rfl, rfl⟩
      have := sv.le ok hm.1 hm.2 nv
      omega
theorem lastM_C {d : Nat} {σ τ0 : pS} (hd : 4 ≤ d) (S : Stat σ) (L : RSlo σ) {k : Int} {sk p x3 v : Int} (hs : 0 ≤ sk ∧ sk < 4) (hp : 0 ≤ p ∧ p < 10) (hv : isLast (wyS σ) (rd σ 77) (rd σ 78) (FS σ k sk) (rd σ 68 32) 1000000 p v) : ∀ (N : Nat) (τ : pS), N ≤ 481 → (∀ m : Int, (N : Int) ≤ m → m ≤ 480 → v < m) → RV σ k τ → qRow τ0 τ 106 → pR mX11_last d 26 [(2, 68), (0, sk), (0, p), (0, x3), (0, (N : Int) - 1)] [] τ (fun r υ => r = some (0, min v 480) ∧ qRow τ0 υ 106) := by
  have ok := FS_ok L k hs
  have hh := L.2.2.2.2.2.2.2.2.1
  intro N
  induction N with
  | zero =>
    intro τ _ hb h q
    have e : v = -1 := by
      rcases hv.2 with e | ⟨e, -⟩
      · exact e
      · have := hb 0 (by omega) (by omega); omega
    refine g_X11_last_26 (Q1 := fun _ _ => True) hd (h.st S) sk p x3 _ (by decide) (fun _ => ⟨?_, q⟩) (fun c => by omega) (fun c => by omega) (fun c => by omega) (fun c => by omega)
    rw [e]; rfl
  | succ N ih =>
    intro τ hN hb h q
    have e32 : rd τ 68 32 = rd σ 68 32 := h.eq (by omega)
    have en : (((N + 1 : Nat) : Int) - 1) = (N : Int) := by omega
    rw [en]
    refine g_X11_last_26 (Q1 := fun r υ => ∃ x, isSoon (wyS σ) (rd σ 77) (rd σ 78) (FS σ k sk) p (N : Int) (rd σ 68 32) x ∧ r = some (0, x) ∧ qRow τ υ 106) hd (h.st S) sk p x3 _ (by omega) (fun c => by omega) (fun _ => ?_) (fun _ v1 τ1 e1 q1 => ?_) (fun _ v1 τ1 e1 q1 c3 => ?_) (fun _ v1 τ1 e1 q1 c4 => ?_)
    · rw [e32]
      exact soon_C (Nat.le_refl 3) S L h hs hp (by omega) hh
    · obtain ⟨x, y1, y2, y3⟩ := q1
      have := y1.ge ok (by omega) (by omega)
      rw [so_inj y2]; unfold inR; omega
    · obtain ⟨x, y1, y2, y3⟩ := q1
      have y2 := so_inj y2
      refine ⟨?_, q.tr y3⟩
      have le : (N : Int) ≤ v := by
        rcases y1.2 with e | ⟨ws, e⟩
        · omega
        · exact hv.1 ws (N : Int) x (by omega) e (by have := y1.ge ok (by omega) (by omega); omega)
      have : min v 480 = (N : Int) := by
        by_cases c : N = 480
        · omega
        · have := hb ((N : Int) + 1) (by omega) (by omega)
          omega
      rw [this]
    · obtain ⟨x, y1, y2, y3⟩ := q1
      have y2 := so_inj y2
      have := ih τ1 (by omega) (fun m m0 m1 => ?_) (h.q y3) (q.tr y3)
      · rw [show (N : Int) + (-1) = (N : Int) - 1 by omega]
        exact this
      · by_cases c : m = (N : Int)
        · rcases hv.2 with e | ⟨e, ws, s, s1, s2⟩
          · omega
          · by_cases c2 : m ≤ v
            · obtain ⟨s', k1, k2⟩ := tRun_mono ok (m' := m) (by omega) c2 s2
              subst c
              have z1 := y1.1 ws s' k2
              have z2 := (tRun_le ok (by omega) k2).2 (by omega)
              omega
            · omega
        · exact hb m (by omega) m1
