/-! the routes are made -/
set_option maxRecDepth 100000 in
theorem g_X7_init_0 {d : Nat} {σ : pS} {Q : Option pV → pS → Prop} (hd : 1 ≤ d) {B : List (Nat × Nat)} {m : Int → Int → Int} (x1 : Int) (hx : 0 ≤ x1) (h0 : Mk (B ++ [(7, 0)]) m σ) (hm : ∀ k i : Int, 1 ≤ k → k ≤ 6 → m (((B.length : Nat) : Int) + k) i = 0) (k1 : ∀ τ, Mk (B ++ (7, 6) :: [(50, 20), (50, 100), (50, 7), (50, 7), (50, 2), (50, 2)]) m τ → pR mX7_init d 50 [(2, ((B.length : Nat) : Int)), (2, x1)] [] τ Q) : pC mX7_init d [(2, ((B.length : Nat) : Int)), (2, x1)] σ Q := by
  show pR mX7_init d 0 [(2, ((B.length : Nat) : Int)), (2, x1)] [] σ Q
  refine pGo (s_aload_n dX7_init_0 rfl (by omega)) ?_
  refine pGo (s_objInit (by omega) hd ol_X7_3 ow_inst ow_code (Nat.le_of_ble_eq_true rfl) dX7_init_1) ?_
  refine pGo (s_aload_n dX7_init_4 rfl (by omega)) ?_
  refine pGo (s_bipush dX7_init_5 (by decide)) ?_
  refine pGoE (y := (((B.length : Nat) : Int) + 1)) (s_newaI ac_int (by decide) dX7_init_7) (Mk.len h0 rfl) ?_
  have h1 : Mk (B ++ (7, 0) :: [(50, 20)]) m (nw σ 50 (Int.toNat 20)) := Mk.nw h0 (k := 1) rfl (by decide) (fun i => by exact hm 1 i (by decide) (by decide))
  revert h1
  generalize nw σ 50 (Int.toNat 20) = τ1
  intro h1
  refine pGo (s_putF (j := 0) pc7 fw_X7_9 dX7_init_9 (Mk.obB h1) rfl (by decide) (by decide) rfl rfl rfl (Or.inr ⟨_, rfl⟩) rfl) ?_
  have h2 : Mk (B ++ (7, 1) :: [(50, 20)]) m (fs1 τ1 ((B.length : Nat) : Int) 7 0) := Mk.fs h1
  revert h2
  generalize fs1 τ1 ((B.length : Nat) : Int) 7 0 = τ2
  intro h2
  refine pGo (s_aload_n dX7_init_12 rfl (by omega)) ?_
  refine pGo (s_bipush dX7_init_13 (by decide)) ?_
  refine pGoE (y := (((B.length : Nat) : Int) + 2)) (s_newaI ac_int (by decide) dX7_init_15) (Mk.len h2 rfl) ?_
  have h3 : Mk (B ++ (7, 1) :: [(50, 20), (50, 100)]) m (nw τ2 50 (Int.toNat 100)) := Mk.nw h2 (k := 2) rfl (by decide) (fun i => by exact hm 2 i (by decide) (by decide))
  revert h3
  generalize nw τ2 50 (Int.toNat 100) = τ3
  intro h3
  refine pGo (s_putF (j := 1) pc7 fw_X7_15 dX7_init_17 (Mk.obB h3) rfl (by decide) (by decide) rfl rfl rfl (Or.inr ⟨_, rfl⟩) rfl) ?_
  have h4 : Mk (B ++ (7, 2) :: [(50, 20), (50, 100)]) m (fs1 τ3 ((B.length : Nat) : Int) 7 1) := Mk.fs h3
  revert h4
  generalize fs1 τ3 ((B.length : Nat) : Int) 7 1 = τ4
  intro h4
  refine pGo (s_aload_n dX7_init_20 rfl (by omega)) ?_
  refine pGo (s_bipush dX7_init_21 (by decide)) ?_
  refine pGoE (y := (((B.length : Nat) : Int) + 3)) (s_newaI ac_int (by decide) dX7_init_23) (Mk.len h4 rfl) ?_
  have h5 : Mk (B ++ (7, 2) :: [(50, 20), (50, 100), (50, 7)]) m (nw τ4 50 (Int.toNat 7)) := Mk.nw h4 (k := 3) rfl (by decide) (fun i => by exact hm 3 i (by decide) (by decide))
  revert h5
  generalize nw τ4 50 (Int.toNat 7) = τ5
  intro h5
  refine pGo (s_putF (j := 2) pc7 fw_X7_18 dX7_init_25 (Mk.obB h5) rfl (by decide) (by decide) rfl rfl rfl (Or.inr ⟨_, rfl⟩) rfl) ?_
  have h6 : Mk (B ++ (7, 3) :: [(50, 20), (50, 100), (50, 7)]) m (fs1 τ5 ((B.length : Nat) : Int) 7 2) := Mk.fs h5
  revert h6
  generalize fs1 τ5 ((B.length : Nat) : Int) 7 2 = τ6
  intro h6
  refine pGo (s_aload_n dX7_init_28 rfl (by omega)) ?_
  refine pGo (s_bipush dX7_init_29 (by decide)) ?_
  refine pGoE (y := (((B.length : Nat) : Int) + 4)) (s_newaI ac_int (by decide) dX7_init_31) (Mk.len h6 rfl) ?_
  have h7 : Mk (B ++ (7, 3) :: [(50, 20), (50, 100), (50, 7), (50, 7)]) m (nw τ6 50 (Int.toNat 7)) := Mk.nw h6 (k := 4) rfl (by decide) (fun i => by exact hm 4 i (by decide) (by decide))
  revert h7
  generalize nw τ6 50 (Int.toNat 7) = τ7
  intro h7
  refine pGo (s_putF (j := 3) pc7 fw_X7_21 dX7_init_33 (Mk.obB h7) rfl (by decide) (by decide) rfl rfl rfl (Or.inr ⟨_, rfl⟩) rfl) ?_
  have h8 : Mk (B ++ (7, 4) :: [(50, 20), (50, 100), (50, 7), (50, 7)]) m (fs1 τ7 ((B.length : Nat) : Int) 7 3) := Mk.fs h7
  revert h8
  generalize fs1 τ7 ((B.length : Nat) : Int) 7 3 = τ8
  intro h8
  refine pGo (s_aload_n dX7_init_36 rfl (by omega)) ?_
  refine pGo (s_iconst dX7_init_37) ?_
  refine pGoE (y := (((B.length : Nat) : Int) + 5)) (s_newaI ac_int (by decide) dX7_init_38) (Mk.len h8 rfl) ?_
  have h9 : Mk (B ++ (7, 4) :: [(50, 20), (50, 100), (50, 7), (50, 7), (50, 2)]) m (nw τ8 50 (Int.toNat 2)) := Mk.nw h8 (k := 5) rfl (by decide) (fun i => by exact hm 5 i (by decide) (by decide))
  revert h9
  generalize nw τ8 50 (Int.toNat 2) = τ9
  intro h9
  refine pGo (s_putF (j := 4) pc7 fw_X7_24 dX7_init_40 (Mk.obB h9) rfl (by decide) (by decide) rfl rfl rfl (Or.inr ⟨_, rfl⟩) rfl) ?_
  have h10 : Mk (B ++ (7, 5) :: [(50, 20), (50, 100), (50, 7), (50, 7), (50, 2)]) m (fs1 τ9 ((B.length : Nat) : Int) 7 4) := Mk.fs h9
  revert h10
  generalize fs1 τ9 ((B.length : Nat) : Int) 7 4 = τ10
  intro h10
  refine pGo (s_aload_n dX7_init_43 rfl (by omega)) ?_
  refine pGo (s_iconst dX7_init_44) ?_
  refine pGoE (y := (((B.length : Nat) : Int) + 6)) (s_newaI ac_int (by decide) dX7_init_45) (Mk.len h10 rfl) ?_
  have h11 : Mk (B ++ (7, 5) :: [(50, 20), (50, 100), (50, 7), (50, 7), (50, 2), (50, 2)]) m (nw τ10 50 (Int.toNat 2)) := Mk.nw h10 (k := 6) rfl (by decide) (fun i => by exact hm 6 i (by decide) (by decide))
  revert h11
  generalize nw τ10 50 (Int.toNat 2) = τ11
  intro h11
  refine pGo (s_putF (j := 5) pc7 fw_X7_27 dX7_init_47 (Mk.obB h11) rfl (by decide) (by decide) rfl rfl rfl (Or.inr ⟨_, rfl⟩) rfl) ?_
  have h12 : Mk (B ++ (7, 6) :: [(50, 20), (50, 100), (50, 7), (50, 7), (50, 2), (50, 2)]) m (fs1 τ11 ((B.length : Nat) : Int) 7 5) := Mk.fs h11
  revert h12
  generalize fs1 τ11 ((B.length : Nat) : Int) 7 5 = τ12
  intro h12
  exact k1 _ h12
theorem X7_init_C {d : Nat} {σ : pS} (hd : 4 ≤ d) {B : List (Nat × Nat)} {m : Int → Int → Int} (hB : B.length = 61) (h0 : Mk (B ++ [(7, 0)]) m σ) (hm : ∀ k i : Int, 1 ≤ k → k ≤ 6 → m (61 + k) i = 0) (hS : ∀ τ : pS, τ.1 = B ++ (7, 6) :: [(50, 20), (50, 100), (50, 7), (50, 7), (50, 2), (50, 2)] → StatM τ ∧ Inst6 τ 6) (m0 : m 6 0 = 0 ∧ m 6 1 = 0) (mv : ∀ i : Int, m 8 i = 0 ∧ m 9 i = 0) : pC mX7_init d [(2, 61), (2, 6)] σ (fun r υ => r = none ∧ ∃ τ, Mk (B ++ (7, 6) :: [(50, 20), (50, 100), (50, 7), (50, 7), (50, 2), (50, 2)]) m τ ∧ fgQ τ 6 0 0 none υ) := by
  have w := g_X7_init_0 (d := d) (Q := fun r υ => r = none ∧ ∃ τ, Mk (B ++ (7, 6) :: [(50, 20), (50, 100), (50, 7), (50, 7), (50, 2), (50, 2)]) m τ ∧ fgQ τ 6 0 0 none υ) (by omega) 6 (by decide) h0 (by rw [hB]; exact hm) (fun τ h => ?_)
  · rw [hB] at w; exact w
  · rw [hB]
    show pR mX7_init d 50 [(2, 61), (2, 6)] [] τ _
    obtain ⟨S, I⟩ := hS τ h.1
    have e : ∀ a i : Int, a < 68 → rd τ a i = m a i := fun a i ha => h.2 a i (by simp [hB]; omega)
    have F := forget_CM (d := 3) (Nat.le_refl 3) S (M := 6) (Or.inl rfl) I (L := 0) (R := 0) ((e _ _ (by decide)).trans m0.1) ((e _ _ (by decide)).trans m0.2) (by omega) (by omega) (fun w hw => ⟨by rw [show (6 : Int) + 2 = 8 by decide, e _ _ (by decide), (mv _).1]; decide, by rw [show (6 : Int) + 3 = 9 by decide, e _ _ (by decide), (mv _).2]; decide⟩) (fun k hk z => by
      unfold vWay at z
      have z := of_decide_eq_true z
      omega)
    refine pGo (s_aload_n dX7_init_50 rfl (by decide)) ?_
    refine pGo (s_aload_n dX7_init_51 rfl (by decide)) ?_
    refine p_callV (As := [(2, 6)]) (st := []) (n := 1) (d' := 3) (Q1 := fgQ τ 6 0 0) pc7 ok_X7_forget ml_X7_30 im_X7_forget se_X7_forget dX7_init_52 (oM_61 S) (pargs_of rfl) rfl (Nat.le_of_ble_eq_true rfl) (by omega) F (fun r1 τ1 e1 q1 w1 => ?_)
    obtain rfl : r1 = none := w1
    show pR mX7_init d 55 [(2, 61), (2, 6)] [] τ1 _
    exact pEnd (r := none) dX7_init_55 rfl ⟨rfl, τ, h, q1⟩
