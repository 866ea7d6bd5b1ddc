/-! the class's object: tellings, outlook, routes -/
set_option maxRecDepth 100000 in
/-- tellings, outlook, routes -/
theorem X10_init_108 {d : Nat} {σ : pS} {Q : Option pV → pS → Prop} (hd : 5 ≤ d) {m : Int → Int → Int} (h0 : Mk ((10, 2) :: [(51, 1400), (9, 3), (50, 1401), (50, 1401), (53, 1401), (6, 10), (53, 17), (50, 17), (50, 17), (50, 17), (50, 6), (50, 17), (50, 17), (52, 17), (50, 17), (50, 17), (2, 5), (50, 2), (50, 2), (50, 41), (50, 1), (50, 1)]) m σ) (hz : ∀ b i : Int, ((24 ≤ b ∧ b ≤ 28) ∨ (30 ≤ b ∧ b ≤ 34) ∨ (36 ≤ b ∧ b ≤ 39) ∨ (41 ≤ b ∧ b ≤ 42)) → m b i = 0) (hs : m 0 7 = 6) (hp23 : ∀ i, m 23 i = pdf 8 i) (hp29 : ∀ i, m 29 i = pdf 8 i) (hp35 : ∀ i, m 35 i = pdf 3 i) (hp40 : ∀ i, m 40 i = pdf 4 i) (k1 : ∀ τ, Mk ((10, 6) :: [(51, 1400), (9, 3), (50, 1401), (50, 1401), (53, 1401), (6, 10), (53, 17), (50, 17), (50, 17), (50, 17), (50, 6), (50, 17), (50, 17), (52, 17), (50, 17), (50, 17), (2, 5), (50, 2), (50, 2), (50, 41), (50, 1), (50, 1), (8, 5), (50, 60), (50, 60), (50, 60), (50, 60), (50, 60), (8, 5), (50, 100), (50, 100), (50, 100), (50, 100), (50, 100), (3, 4), (50, 8), (50, 8), (50, 8), (50, 8), (4, 3), (50, 10), (50, 10)]) (wrm (wrm m 35 5 (-1)) 35 4 6) τ → pR mX10_init d 108 [(2, 0)] [] τ Q) : pR mX10_init d 52 [(2, 0)] [] σ Q := by
  refine pGo (s_aload_n dX10_init_52 rfl (by decide)) ?_
  refine pGoE (y := 23) (s_new pc8 (by decide +kernel) cl_X10_40 in_X8 ii_X8 dX10_init_53) (h0.ln rfl) ?_
  have h1 := Mk_nwo (ci := 8) h0 (fun i => by show m 23 i = _; exact hp23 i)
  revert h1
  generalize nw σ 8 0 = τ1
  intro h1
  refine pGo (s_dup dX10_init_56 (show (2 : Nat) ≠ 1 by decide)) ?_
  refine pGo (s_bipush dX10_init_57 (by decide)) ?_
  refine p_callI (As := [(0, 60)]) (st := [(2, 23), (2, 0)]) (n := 1) (d' := 1) (Q1 := fun r υ => r = none ∧ Mk ([(10, 2), (51, 1400), (9, 3), (50, 1401), (50, 1401), (53, 1401), (6, 10), (53, 17), (50, 17), (50, 17), (50, 17), (50, 6), (50, 17), (50, 17), (52, 17), (50, 17), (50, 17), (2, 5), (50, 2), (50, 2), (50, 41), (50, 1), (50, 1)] ++ (8, 5) :: [(50, 60), (50, 60), (50, 60), (50, 60), (50, 60)]) m υ) (by decide) ok_X8_init rfl ml_X10_42 im_X8_init rfl dX10_init_59 (pargs_of rfl) rfl (Nat.le_of_ble_eq_true rfl) (by omega) (g_X8_init_0 (Nat.le_refl 1) 60 (by decide) h1 (fun k i a b => by show m ((23 : Int) + k) i = 0; exact hz _ i (by omega)) (fun τ h => ⟨rfl, h⟩)) (fun r1 τ2 e1 q1 w1 => ?_)
  obtain ⟨rfl, h2⟩ := q1
  show pR mX10_init d 62 [(2, 0)] [(2, 23), (2, 0)] τ2 Q
  have h2 : Mk ((10, 2) :: [(51, 1400), (9, 3), (50, 1401), (50, 1401), (53, 1401), (6, 10), (53, 17), (50, 17), (50, 17), (50, 17), (50, 6), (50, 17), (50, 17), (52, 17), (50, 17), (50, 17), (2, 5), (50, 2), (50, 2), (50, 41), (50, 1), (50, 1), (8, 5), (50, 60), (50, 60), (50, 60), (50, 60), (50, 60)]) m τ2 := h2
  refine pGo (s_putF (j := 9) pc10 fw_X10_43 dX10_init_62 h2.ob0 rfl (by decide) (by decide) rfl rfl rfl (Or.inl ⟨_, rfl⟩) (by decide)) ?_
  have h3 := h2.fs0
  revert h3
  generalize fs1 τ2 0 10 2 = τ3
  intro h3
  refine pGo (s_aload_n dX10_init_65 rfl (by decide)) ?_
  refine pGoE (y := 29) (s_new pc8 (by decide +kernel) cl_X10_40 in_X8 ii_X8 dX10_init_66) (h3.ln rfl) ?_
  have h4 := Mk_nwo (ci := 8) h3 (fun i => by show m 29 i = _; exact hp29 i)
  revert h4
  generalize nw τ3 8 0 = τ4
  intro h4
  refine pGo (s_dup dX10_init_69 (show (2 : Nat) ≠ 1 by decide)) ?_
  refine pGo (s_bipush dX10_init_70 (by decide)) ?_
  refine p_callI (As := [(0, 100)]) (st := [(2, 29), (2, 0)]) (n := 1) (d' := 1) (Q1 := fun r υ => r = none ∧ Mk ([(10, 3), (51, 1400), (9, 3), (50, 1401), (50, 1401), (53, 1401), (6, 10), (53, 17), (50, 17), (50, 17), (50, 17), (50, 6), (50, 17), (50, 17), (52, 17), (50, 17), (50, 17), (2, 5), (50, 2), (50, 2), (50, 41), (50, 1), (50, 1), (8, 5), (50, 60), (50, 60), (50, 60), (50, 60), (50, 60)] ++ (8, 5) :: [(50, 100), (50, 100), (50, 100), (50, 100), (50, 100)]) m υ) (by decide) ok_X8_init rfl ml_X10_42 im_X8_init rfl dX10_init_72 (pargs_of rfl) rfl (Nat.le_of_ble_eq_true rfl) (by omega) (g_X8_init_0 (Nat.le_refl 1) 100 (by decide) h4 (fun k i a b => by show m ((29 : Int) + k) i = 0; exact hz _ i (by omega)) (fun τ h => ⟨rfl, h⟩)) (fun r1 τ5 e1 q1 w1 => ?_)
  obtain ⟨rfl, h5⟩ := q1
  show pR mX10_init d 75 [(2, 0)] [(2, 29), (2, 0)] τ5 Q
  have h5 : Mk ((10, 3) :: [(51, 1400), (9, 3), (50, 1401), (50, 1401), (53, 1401), (6, 10), (53, 17), (50, 17), (50, 17), (50, 17), (50, 6), (50, 17), (50, 17), (52, 17), (50, 17), (50, 17), (2, 5), (50, 2), (50, 2), (50, 41), (50, 1), (50, 1), (8, 5), (50, 60), (50, 60), (50, 60), (50, 60), (50, 60), (8, 5), (50, 100), (50, 100), (50, 100), (50, 100), (50, 100)]) m τ5 := h5
  refine pGo (s_putF (j := 10) pc10 fw_X10_47 dX10_init_75 h5.ob0 rfl (by decide) (by decide) rfl rfl rfl (Or.inl ⟨_, rfl⟩) (by decide)) ?_
  have h6 := h5.fs0
  revert h6
  generalize fs1 τ5 0 10 3 = τ6
  intro h6
  refine pGo (s_aload_n dX10_init_78 rfl (by decide)) ?_
  refine pGoE (y := 35) (s_new pc3 (by decide +kernel) cl_X10_50 in_X3 ii_X3 dX10_init_79) (h6.ln rfl) ?_
  have h7 := Mk_nwo (ci := 3) h6 (fun i => by show m 35 i = _; exact hp35 i)
  revert h7
  generalize nw τ6 3 0 = τ7
  intro h7
  refine pGo (s_dup dX10_init_82 (show (2 : Nat) ≠ 1 by decide)) ?_
  refine pGo (s_aload_n dX10_init_83 rfl (by decide)) ?_
  refine pGoE (y := 6) (s_getR pc10 fl_X10_27 dX10_init_84 (Mk.ob0 (q := (10, 4)) h7) rfl rfl) (by rw [show ((7 : Nat) : Int) = 7 from rfl, (h7.2 0 7 (by decide))]; show m 0 7 = 6; exact hs) ?_
  refine p_callI (As := [(2, 6)]) (st := [(2, 35), (2, 0)]) (n := 1) (d' := 1) (Q1 := fun r υ => r = none ∧ Mk ([(10, 4), (51, 1400), (9, 3), (50, 1401), (50, 1401), (53, 1401), (6, 10), (53, 17), (50, 17), (50, 17), (50, 17), (50, 6), (50, 17), (50, 17), (52, 17), (50, 17), (50, 17), (2, 5), (50, 2), (50, 2), (50, 41), (50, 1), (50, 1), (8, 5), (50, 60), (50, 60), (50, 60), (50, 60), (50, 60), (8, 5), (50, 100), (50, 100), (50, 100), (50, 100), (50, 100)] ++ (3, 4) :: [(50, 8), (50, 8), (50, 8), (50, 8)]) (wrm (wrm m 35 5 (-1)) 35 4 6) υ) (by decide) ok_X3_init rfl ml_X10_52 im_X3_init rfl dX10_init_87 (pargs_of rfl) rfl (Nat.le_of_ble_eq_true rfl) (by omega) (g_X3_init_0 (Nat.le_refl 1) 6 (by decide) h7 (fun k i a b => by show m ((35 : Int) + k) i = 0; exact hz _ i (by omega)) (fun τ h => ⟨rfl, h⟩)) (fun r1 τ8 e1 q1 w1 => ?_)
  obtain ⟨rfl, h8⟩ := q1
  show pR mX10_init d 90 [(2, 0)] [(2, 35), (2, 0)] τ8 Q
  have h8 : Mk ((10, 4) :: [(51, 1400), (9, 3), (50, 1401), (50, 1401), (53, 1401), (6, 10), (53, 17), (50, 17), (50, 17), (50, 17), (50, 6), (50, 17), (50, 17), (52, 17), (50, 17), (50, 17), (2, 5), (50, 2), (50, 2), (50, 41), (50, 1), (50, 1), (8, 5), (50, 60), (50, 60), (50, 60), (50, 60), (50, 60), (8, 5), (50, 100), (50, 100), (50, 100), (50, 100), (50, 100), (3, 4), (50, 8), (50, 8), (50, 8), (50, 8)]) (wrm (wrm m 35 5 (-1)) 35 4 6) τ8 := h8
  refine pGo (s_putF (j := 11) pc10 fw_X10_55 dX10_init_90 h8.ob0 rfl (by decide) (by decide) rfl rfl rfl (Or.inl ⟨_, rfl⟩) (by decide)) ?_
  have h9 := h8.fs0
  revert h9
  generalize fs1 τ8 0 10 4 = τ9
  intro h9
  refine pGo (s_aload_n dX10_init_93 rfl (by decide)) ?_
  refine pGoE (y := 40) (s_new pc4 (by decide +kernel) cl_X10_59 in_X4 ii_X4 dX10_init_94) (h9.ln rfl) ?_
  have h10 := Mk_nwo (ci := 4) h9 (fun i => by show (wrm (wrm m 35 5 (-1)) 35 4 6) 40 i = _; rw [wrm_n (by omega)]; rw [wrm_n (by omega)]; exact hp40 i)
  revert h10
  generalize nw τ9 4 0 = τ10
  intro h10
  refine pGo (s_dup dX10_init_97 (show (2 : Nat) ≠ 1 by decide)) ?_
  refine pGo (s_aload_n dX10_init_98 rfl (by decide)) ?_
  refine pGoE (y := 35) (s_getF pc10 fl_X10_55 dX10_init_99 (Mk.ob0 (q := (10, 5)) h10) rfl (by decide)) (by decide) ?_
  refine p_callI (As := [(2, 35)]) (st := [(2, 40), (2, 0)]) (n := 1) (d' := 1) (Q1 := fun r υ => r = none ∧ Mk ([(10, 5), (51, 1400), (9, 3), (50, 1401), (50, 1401), (53, 1401), (6, 10), (53, 17), (50, 17), (50, 17), (50, 17), (50, 6), (50, 17), (50, 17), (52, 17), (50, 17), (50, 17), (2, 5), (50, 2), (50, 2), (50, 41), (50, 1), (50, 1), (8, 5), (50, 60), (50, 60), (50, 60), (50, 60), (50, 60), (8, 5), (50, 100), (50, 100), (50, 100), (50, 100), (50, 100), (3, 4), (50, 8), (50, 8), (50, 8), (50, 8)] ++ (4, 3) :: [(50, 10), (50, 10)]) (wrm (wrm m 35 5 (-1)) 35 4 6) υ) (by decide) ok_X4_init rfl ml_X10_61 im_X4_init rfl dX10_init_102 (pargs_of rfl) rfl (Nat.le_of_ble_eq_true rfl) (by omega) (g_X4_init_0 (Nat.le_refl 1) 35 (by decide) h10 (fun k i a b => by show (wrm (wrm m 35 5 (-1)) 35 4 6) ((40 : Int) + k) i = 0; rw [wrm_n (by omega)]; rw [wrm_n (by omega)]; exact hz _ i (by omega)) (fun τ h => ⟨rfl, h⟩)) (fun r1 τ11 e1 q1 w1 => ?_)
  obtain ⟨rfl, h11⟩ := q1
  show pR mX10_init d 105 [(2, 0)] [(2, 40), (2, 0)] τ11 Q
  have h11 : Mk ((10, 5) :: [(51, 1400), (9, 3), (50, 1401), (50, 1401), (53, 1401), (6, 10), (53, 17), (50, 17), (50, 17), (50, 17), (50, 6), (50, 17), (50, 17), (52, 17), (50, 17), (50, 17), (2, 5), (50, 2), (50, 2), (50, 41), (50, 1), (50, 1), (8, 5), (50, 60), (50, 60), (50, 60), (50, 60), (50, 60), (8, 5), (50, 100), (50, 100), (50, 100), (50, 100), (50, 100), (3, 4), (50, 8), (50, 8), (50, 8), (50, 8), (4, 3), (50, 10), (50, 10)]) (wrm (wrm m 35 5 (-1)) 35 4 6) τ11 := h11
  refine pGo (s_putF (j := 12) pc10 fw_X10_64 dX10_init_105 h11.ob0 rfl (by decide) (by decide) rfl rfl rfl (Or.inl ⟨_, rfl⟩) (by decide)) ?_
  have h12 := h11.fs0
  revert h12
  generalize fs1 τ11 0 10 5 = τ12
  intro h12
  exact k1 _ h12
