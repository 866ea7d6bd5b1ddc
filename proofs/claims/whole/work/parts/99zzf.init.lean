/-! objects made one after another -/
theorem Mk_nwo {c : List (Nat × Nat)} {m : Int → Int → Int} {τ : pS} {ci : Nat} (h : Mk c m τ) (hm : ∀ i, m ((c.length : Nat) : Int) i = pdf ci i) : Mk (c ++ [(ci, 0)]) m (nw τ ci 0) := by
  refine ⟨?_, fun b i hb => ?_⟩
  · show τ.1 ++ [(ci, 0)] = _
    rw [h.1]
  · rw [rd_nw]
    split
    · next e => rw [e, h.1]; exact (hm i).symm
    · next e =>
      refine h.2 b i ?_
      rw [h.1] at e
      simp at hb
      omega
theorem Mk.ln {c : List (Nat × Nat)} {m : Int → Int → Int} {τ : pS} (h : Mk c m τ) {k : Int} (e : ((c.length : Nat) : Int) = k) : ((τ.1.length : Nat) : Int) = k := by rw [h.1]; exact e
theorem Mk.ob0 {r : List (Nat × Nat)} {q : Nat × Nat} {m : Int → Int → Int} {τ : pS} (h : Mk (q :: r) m τ) : ob τ 0 = some q := Mk.obB (B := []) h
theorem Mk.fs0 {r : List (Nat × Nat)} {ci x : Nat} {m : Int → Int → Int} {τ : pS} (h : Mk ((ci, x) :: r) m τ) : Mk ((ci, x + 1) :: r) m (fs1 τ 0 ci x) := Mk.fs (B := []) h
set_option maxRecDepth 100000 in
/-- the class's object: its tape and its tokens -/
theorem X10_init_24 {d : Nat} {σ : pS} {Q : Option pV → pS → Prop} (hd : 5 ≤ d) {m : Int → Int → Int} (h0 : Mk [(10, 0)] m σ) (hz : ∀ b i : Int, (b = 1 ∨ (3 ≤ b ∧ b ≤ 5)) → m b i = 0) (h9 : ∀ i, m 2 i = pdf 9 i) (k1 : ∀ τ, Mk [(10, 2), (51, 1400), (9, 3), (50, 1401), (50, 1401), (53, 1401)] (wrm m 2 6 (-1)) τ → pR mX10_init d 24 [(2, 0)] [] τ Q) : pC mX10_init d [(2, 0)] σ Q := by
  show pR mX10_init d 0 [(2, 0)] [] σ Q
  refine pGo (s_aload_n dX10_init_0 rfl (by decide)) ?_
  refine pGo (s_objInit (by decide) (by omega) ol_X10_3 ow_inst ow_code (Nat.le_of_ble_eq_true rfl) dX10_init_1) ?_
  refine pGo (s_aload_n dX10_init_4 rfl (by decide)) ?_
  refine pGo (s_sipush dX10_init_5 (by decide)) ?_
  refine pGoE (y := 1) (s_newaB ac_byte (by decide) dX10_init_8) (h0.ln rfl) ?_
  have h1 : Mk [(10, 0), (51, 1400)] m (nw σ 51 (Int.toNat 1400)) := Mk.nw (B := []) (k := 1) h0 rfl (by decide) (fun i => hz 1 i (Or.inl rfl))
  revert h1
  generalize nw σ 51 (Int.toNat 1400) = τ1
  intro h1
  refine pGo (s_putF (j := 0) pc10 fw_X10_9 dX10_init_10 h1.ob0 rfl (by decide) (by decide) rfl rfl rfl (Or.inr ⟨_, rfl⟩) rfl) ?_
  have h2 := h1.fs0
  revert h2
  generalize fs1 τ1 0 10 0 = τ2
  intro h2
  refine pGo (s_aload_n dX10_init_13 rfl (by decide)) ?_
  refine pGoE (y := 2) (s_new pc9 (by decide +kernel) cl_X10_13 in_X9 ii_X9 dX10_init_14) (h2.ln rfl) ?_
  have h3 : Mk ([(10, 1), (51, 1400)] ++ [(9, 0)]) m (nw τ2 9 0) := Mk_nwo h2 h9
  revert h3
  generalize nw τ2 9 0 = τ3
  intro h3
  refine pGo (s_dup dX10_init_17 (show (2 : Nat) ≠ 1 by decide)) ?_
  refine p_callI (As := []) (st := [(2, 2), (2, 0)]) (n := 0) (d' := 1) (Q1 := fun r υ => r = none ∧ Mk ([(10, 1), (51, 1400)] ++ (9, 3) :: [(50, 1401), (50, 1401), (53, 1401)]) (wrm m 2 6 (-1)) υ) (by decide) ok_X9_init rfl ml_X10_15 im_X9_init rfl dX10_init_18 (pargs_of rfl) rfl (Nat.le_of_ble_eq_true rfl) (by omega) (g_X9_init_0 (Nat.le_refl 1) h3 (fun k i a b => hz _ i (by show (2 : Int) + k = 1 ∨ (3 ≤ (2 : Int) + k ∧ (2 : Int) + k ≤ 5); omega)) (fun τ h => ⟨rfl, h⟩)) (fun r1 τ4 e1 q1 w1 => ?_)
  obtain ⟨rfl, h4⟩ := q1
  show pR mX10_init d 21 [(2, 0)] [(2, 2), (2, 0)] τ4 Q
  have h4 : Mk ((10, 1) :: [(51, 1400), (9, 3), (50, 1401), (50, 1401), (53, 1401)]) (wrm m 2 6 (-1)) τ4 := h4
  refine pGo (s_putF (j := 2) pc10 fw_X10_16 dX10_init_21 h4.ob0 rfl (by decide) (by decide) rfl rfl rfl (Or.inl ⟨_, rfl⟩) (by decide)) ?_
  exact k1 _ h4.fs0
