/-! the class's object: slopes, law, tellings -/
set_option maxRecDepth 100000 in
theorem X10_init_52 {d : Nat} {σ : pS} {Q : Option pV → pS → Prop} (hd : 5 ≤ d) {m : Int → Int → Int} (h0 : Mk [(10, 2), (51, 1400), (9, 3), (50, 1401), (50, 1401), (53, 1401)] m σ) (hz : ∀ b i : Int, ((7 ≤ b ∧ b ≤ 16) ∨ (18 ≤ b ∧ b ≤ 22)) → m b i = 0) (h6 : ∀ i, m 6 i = pdf 6 i) (h17 : ∀ i, m 17 i = pdf 2 i) (k1 : ∀ τ, Mk [(10, 2), (51, 1400), (9, 3), (50, 1401), (50, 1401), (53, 1401), (6, 10), (53, 17), (50, 17), (50, 17), (50, 17), (50, 6), (50, 17), (50, 17), (52, 17), (50, 17), (50, 17), (2, 5), (50, 2), (50, 2), (50, 41), (50, 1), (50, 1)] (wrm (wrm (wrm (wrm (wrm (wrm (wrm m 0 4 (-1)) 0 7 6) 18 0 (-1)) 18 1 (-1)) 19 0 (-1)) 19 1 (-1)) 0 8 17) τ → pR mX10_init d 52 [(2, 0)] [] τ Q) : pR mX10_init d 24 [(2, 0)] [] σ Q := by
  refine pGo (s_aload_n dX10_init_24 rfl (by decide)) ?_
  refine pGo (s_iconst dX10_init_25) ?_
  refine pGo (s_putI pc10 fl_X10_20 dX10_init_26 h0.ob0 rfl rfl rfl rfl) ?_
  have h1 := Mk.wr (a := 0) (i := 4) (v := -1) h0
  revert h1
  generalize wr σ 0 4 (-1) = τ1
  intro h1
  refine pGo (s_aload_n dX10_init_29 rfl (by decide)) ?_
  refine pGoE (y := 6) (s_new pc6 (by decide +kernel) cl_X10_24 in_X6 ii_X6 dX10_init_30) (h1.ln rfl) ?_
  have h2 := Mk_nwo (ci := 6) h1 (fun i => by show wrm m 0 4 (-1) 6 i = _; rw [wrm_n (by omega)]; exact h6 i)
  revert h2
  generalize nw τ1 6 0 = τ2
  intro h2
  refine pGo (s_dup dX10_init_33 (show (2 : Nat) ≠ 1 by decide)) ?_
  refine p_callI (As := []) (st := [(2, 6), (2, 0)]) (n := 0) (d' := 1) (Q1 := fun r υ => r = none ∧ Mk ([(10, 2), (51, 1400), (9, 3), (50, 1401), (50, 1401), (53, 1401)] ++ (6, 10) :: [(53, 17), (50, 17), (50, 17), (50, 17), (50, 6), (50, 17), (50, 17), (52, 17), (50, 17), (50, 17)]) (wrm m 0 4 (-1)) υ) (by decide) ok_X6_init rfl ml_X10_26 im_X6_init rfl dX10_init_34 (pargs_of rfl) rfl (Nat.le_of_ble_eq_true rfl) (by omega) (g_X6_init_0 (Nat.le_refl 1) h2 (fun k i a b => by show wrm m 0 4 (-1) ((6 : Int) + k) i = 0; rw [wrm_n (by omega)]; exact hz _ i (by omega)) (fun τ h => ⟨rfl, h⟩)) (fun r1 τ4 e1 q1 w1 => ?_)
  obtain ⟨rfl, h4⟩ := q1
  show pR mX10_init d 37 [(2, 0)] [(2, 6), (2, 0)] τ4 Q
  have h4 : Mk ((10, 2) :: [(51, 1400), (9, 3), (50, 1401), (50, 1401), (53, 1401), (6, 10), (53, 17), (50, 17), (50, 17), (50, 17), (50, 6), (50, 17), (50, 17), (52, 17), (50, 17), (50, 17)]) (wrm m 0 4 (-1)) τ4 := h4
  refine pGo (s_putR pc10 fl_X10_27 dX10_init_37 h4.ob0 rfl rfl rfl rfl) ?_
  have h5 := Mk.wr (a := 0) (i := 7) (v := 6) h4
  revert h5
  generalize wr τ4 0 7 6 = τ5
  intro h5
  refine pGo (s_aload_n dX10_init_40 rfl (by decide)) ?_
  refine pGoE (y := 17) (s_new pc2 (by decide +kernel) cl_X10_31 in_X2 ii_X2 dX10_init_41) (h5.ln rfl) ?_
  have h6' := Mk_nwo (ci := 2) h5 (fun i => by show wrm (wrm m 0 4 (-1)) 0 7 6 17 i = _; rw [wrm_n (by omega), wrm_n (by omega)]; exact h17 i)
  revert h6'
  generalize nw τ5 2 0 = τ6
  intro h6'
  refine pGo (s_dup dX10_init_44 (show (2 : Nat) ≠ 1 by decide)) ?_
  refine pGo (s_iconst dX10_init_45) ?_
  refine p_callI (As := [(0, 1)]) (st := [(2, 17), (2, 0)]) (n := 1) (d' := 1) (Q1 := fun r υ => r = none ∧ Mk ([(10, 2), (51, 1400), (9, 3), (50, 1401), (50, 1401), (53, 1401), (6, 10), (53, 17), (50, 17), (50, 17), (50, 17), (50, 6), (50, 17), (50, 17), (52, 17), (50, 17), (50, 17)] ++ (2, 5) :: [(50, 2), (50, 2), (50, 41), (50, 1), (50, 1)]) (wrm (wrm (wrm (wrm (wrm (wrm m 0 4 (-1)) 0 7 6) 18 0 (-1)) 18 1 (-1)) 19 0 (-1)) 19 1 (-1)) υ) (by decide) ok_X2_init rfl ml_X10_33 im_X2_init rfl dX10_init_46 (pargs_of rfl) rfl (Nat.le_of_ble_eq_true rfl) (by omega) (g_X2_init_0 (Nat.le_refl 1) 1 (by decide) h6' (fun k i a b => by show wrm (wrm m 0 4 (-1)) 0 7 6 ((17 : Int) + k) i = 0; rw [wrm_n (by omega), wrm_n (by omega)]; exact hz _ i (by omega)) (fun τ h => ⟨rfl, h⟩)) (fun r1 τ7 e1 q1 w1 => ?_)
  obtain ⟨rfl, h7⟩ := q1
  show pR mX10_init d 49 [(2, 0)] [(2, 17), (2, 0)] τ7 Q
  have h7 : Mk ((10, 2) :: [(51, 1400), (9, 3), (50, 1401), (50, 1401), (53, 1401), (6, 10), (53, 17), (50, 17), (50, 17), (50, 17), (50, 6), (50, 17), (50, 17), (52, 17), (50, 17), (50, 17), (2, 5), (50, 2), (50, 2), (50, 41), (50, 1), (50, 1)]) (wrm (wrm (wrm (wrm (wrm (wrm m 0 4 (-1)) 0 7 6) 18 0 (-1)) 18 1 (-1)) 19 0 (-1)) 19 1 (-1)) τ7 := h7
  refine pGo (s_putR pc10 fl_X10_36 dX10_init_49 h7.ob0 rfl rfl rfl rfl) ?_
  exact k1 _ (Mk.wr (a := 0) (i := 8) (v := 17) h7)
