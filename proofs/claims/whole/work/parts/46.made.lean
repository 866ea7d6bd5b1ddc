/-! constructors: what lies at the end of the cells -/
def wrm (m : Int → Int → Int) (a i v : Int) : Int → Int → Int := fun x y => if x = a ∧ y = i then v else m x y
theorem wrm_n {m : Int → Int → Int} {a i v x y : Int} (h : ¬ (x = a ∧ y = i)) : wrm m a i v x y = m x y := if_neg h
theorem wrm_s {m : Int → Int → Int} {a i v : Int} : wrm m a i v a i = v := if_pos ⟨rfl, rfl⟩
def Mk (c : List (Nat × Nat)) (m : Int → Int → Int) (τ : pS) : Prop := τ.1 = c ∧ ∀ b i : Int, b < (c.length : Int) → rd τ b i = m b i
theorem Mk.wr {c : List (Nat × Nat)} {m : Int → Int → Int} {τ : pS} {a i v : Int} (h : Mk c m τ) : Mk c (wrm m a i v) (wr τ a i v) := ⟨h.1, fun b j hb => by
  rw [rd_wr]
  unfold wrm
  split
  · rfl
  · exact h.2 b j hb⟩
theorem Mk.obB {B r : List (Nat × Nat)} {q : Nat × Nat} {m : Int → Int → Int} {τ : pS} (h : Mk (B ++ q :: r) m τ) : ob τ ((B.length : Nat) : Int) = some q := by
  unfold ob
  rw [if_neg (by omega), h.1]
  simp
theorem Mk.obr {B r : List (Nat × Nat)} {q p : Nat × Nat} {m : Int → Int → Int} {τ : pS} {k : Int} (h : Mk (B ++ q :: r) m τ) {j : Nat} (hk : k = (j : Int) + 1) (hp : r[j]? = some p) : ob τ (((B.length : Nat) : Int) + k) = some p := by
  unfold ob
  rw [if_neg (by omega), h.1, show (((B.length : Nat) : Int) + k).toNat = B.length + (j + 1) by omega]
  rw [List.getElem?_append_right (by omega), show B.length + (j + 1) - B.length = j + 1 by omega]
  simpa using hp
theorem Mk.len {B r : List (Nat × Nat)} {q : Nat × Nat} {m : Int → Int → Int} {τ : pS} {k : Int} (h : Mk (B ++ q :: r) m τ) (hk : (r.length : Int) + 1 = k) : (τ.1.length : Int) = ((B.length : Nat) : Int) + k := by
  rw [h.1]
  simp
  omega
theorem pdf_arr {kd : Nat} (h1 : 50 ≤ kd) (h2 : kd ≤ 53) (i : Int) : pdf kd i = 0 := by
  unfold pdf
  rw [if_neg (by omega), if_neg (by omega)]
theorem Mk.nw {B r : List (Nat × Nat)} {q : Nat × Nat} {m : Int → Int → Int} {τ : pS} {kd n : Nat} {k : Int} (h : Mk (B ++ q :: r) m τ) (hk : (r.length : Int) + 1 = k) (hkd : 50 ≤ kd ∧ kd ≤ 53) (hm : ∀ i, m (((B.length : Nat) : Int) + k) i = 0) : Mk (B ++ q :: (r ++ [(kd, n)])) m (nw τ kd n) := by
  refine ⟨?_, fun b i hb => ?_⟩
  · show τ.1 ++ [(kd, n)] = _
    rw [h.1]
    simp
  · rw [rd_nw]
    have := h.len hk
    split
    · next e => rw [e, this, hm, pdf_arr hkd.1 hkd.2]
    · next e =>
      refine h.2 b i ?_
      rw [h.1] at this e
      simp at hb e ⊢
      omega
theorem Mk.fs {B r : List (Nat × Nat)} {ci x : Nat} {m : Int → Int → Int} {τ : pS} (h : Mk (B ++ (ci, x) :: r) m τ) : Mk (B ++ (ci, x + 1) :: r) m (fs1 τ ((B.length : Nat) : Int) ci x) := by
  refine ⟨?_, fun b i hb => ?_⟩
  · show τ.1.set ((B.length : Nat) : Int).toNat (ci, x + 1) = _
    rw [h.1, Int.toNat_natCast, List.set_append_right _ _ (Nat.le_refl _), Nat.sub_self, List.set_cons_zero]
  · rw [rd_fs1]
    refine h.2 b i ?_
    simp at hb ⊢
    omega
set_option maxRecDepth 100000 in
theorem g_X0_init_0 {d : Nat} {σ : pS} {Q : Option pV → pS → Prop} (hd : 1 ≤ d) {B : List (Nat × Nat)} {m : Int → Int → Int}  (h0 : Mk (B ++ [(0, 0)]) m σ) (hm : ∀ k i : Int, 1 ≤ k → k ≤ 5 → m (((B.length : Nat) : Int) + k) i = 0) (k1 : ∀ τ, Mk (B ++ (0, 5) :: [(50, 20), (50, 20), (50, 60), (50, 10), (50, 7)]) m τ → Q none τ) : pC mX0_init d [(2, ((B.length : Nat) : Int))] σ Q := by
  show pR mX0_init d 0 [(2, ((B.length : Nat) : Int))] [] σ Q
  refine pGo (s_aload_n dX0_init_0 rfl (by omega)) ?_
  refine pGo (s_objInit (by omega) hd ol_X0_3 ow_inst ow_code (Nat.le_of_ble_eq_true rfl) dX0_init_1) ?_
  refine pGo (s_aload_n dX0_init_4 rfl (by omega)) ?_
  refine pGo (s_bipush dX0_init_5 (by decide)) ?_
  refine pGoE (y := (((B.length : Nat) : Int) + 1)) (s_newaI ac_int (by decide) dX0_init_7) (Mk.len h0 rfl) ?_
  have h1 : Mk (B ++ (0, 0) :: [(50, 20)]) m (nw σ 50 (Int.toNat 20)) := Mk.nw h0 (k := 1) rfl (by decide) (fun i => by exact hm 1 i (by decide) (by decide))
  revert h1
  generalize nw σ 50 (Int.toNat 20) = τ1
  intro h1
  refine pGo (s_putF (j := 0) pc0 fw_X0_9 dX0_init_9 (Mk.obB h1) rfl (by decide) (by decide) rfl rfl rfl (Or.inr ⟨_, rfl⟩) rfl) ?_
  have h2 : Mk (B ++ (0, 1) :: [(50, 20)]) m (fs1 τ1 ((B.length : Nat) : Int) 0 0) := Mk.fs h1
  revert h2
  generalize fs1 τ1 ((B.length : Nat) : Int) 0 0 = τ2
  intro h2
  refine pGo (s_aload_n dX0_init_12 rfl (by omega)) ?_
  refine pGo (s_bipush dX0_init_13 (by decide)) ?_
  refine pGoE (y := (((B.length : Nat) : Int) + 2)) (s_newaI ac_int (by decide) dX0_init_15) (Mk.len h2 rfl) ?_
  have h3 : Mk (B ++ (0, 1) :: [(50, 20), (50, 20)]) m (nw τ2 50 (Int.toNat 20)) := Mk.nw h2 (k := 2) rfl (by decide) (fun i => by exact hm 2 i (by decide) (by decide))
  revert h3
  generalize nw τ2 50 (Int.toNat 20) = τ3
  intro h3
  refine pGo (s_putF (j := 1) pc0 fw_X0_15 dX0_init_17 (Mk.obB h3) rfl (by decide) (by decide) rfl rfl rfl (Or.inr ⟨_, rfl⟩) rfl) ?_
  have h4 : Mk (B ++ (0, 2) :: [(50, 20), (50, 20)]) m (fs1 τ3 ((B.length : Nat) : Int) 0 1) := Mk.fs h3
  revert h4
  generalize fs1 τ3 ((B.length : Nat) : Int) 0 1 = τ4
  intro h4
  refine pGo (s_aload_n dX0_init_20 rfl (by omega)) ?_
  refine pGo (s_bipush dX0_init_21 (by decide)) ?_
  refine pGoE (y := (((B.length : Nat) : Int) + 3)) (s_newaI ac_int (by decide) dX0_init_23) (Mk.len h4 rfl) ?_
  have h5 : Mk (B ++ (0, 2) :: [(50, 20), (50, 20), (50, 60)]) m (nw τ4 50 (Int.toNat 60)) := Mk.nw h4 (k := 3) rfl (by decide) (fun i => by exact hm 3 i (by decide) (by decide))
  revert h5
  generalize nw τ4 50 (Int.toNat 60) = τ5
  intro h5
  refine pGo (s_putF (j := 3) pc0 fw_X0_18 dX0_init_25 (Mk.obB h5) rfl (by decide) (by decide) rfl rfl rfl (Or.inr ⟨_, rfl⟩) rfl) ?_
  have h6 : Mk (B ++ (0, 3) :: [(50, 20), (50, 20), (50, 60)]) m (fs1 τ5 ((B.length : Nat) : Int) 0 2) := Mk.fs h5
  revert h6
  generalize fs1 τ5 ((B.length : Nat) : Int) 0 2 = τ6
  intro h6
  refine pGo (s_aload_n dX0_init_28 rfl (by omega)) ?_
  refine pGo (s_bipush dX0_init_29 (by decide)) ?_
  refine pGoE (y := (((B.length : Nat) : Int) + 4)) (s_newaI ac_int (by decide) dX0_init_31) (Mk.len h6 rfl) ?_
  have h7 : Mk (B ++ (0, 3) :: [(50, 20), (50, 20), (50, 60), (50, 10)]) m (nw τ6 50 (Int.toNat 10)) := Mk.nw h6 (k := 4) rfl (by decide) (fun i => by exact hm 4 i (by decide) (by decide))
  revert h7
  generalize nw τ6 50 (Int.toNat 10) = τ7
  intro h7
  refine pGo (s_putF (j := 4) pc0 fw_X0_21 dX0_init_33 (Mk.obB h7) rfl (by decide) (by decide) rfl rfl rfl (Or.inr ⟨_, rfl⟩) rfl) ?_
  have h8 : Mk (B ++ (0, 4) :: [(50, 20), (50, 20), (50, 60), (50, 10)]) m (fs1 τ7 ((B.length : Nat) : Int) 0 3) := Mk.fs h7
  revert h8
  generalize fs1 τ7 ((B.length : Nat) : Int) 0 3 = τ8
  intro h8
  refine pGo (s_aload_n dX0_init_36 rfl (by omega)) ?_
  refine pGo (s_bipush dX0_init_37 (by decide)) ?_
  refine pGoE (y := (((B.length : Nat) : Int) + 5)) (s_newaI ac_int (by decide) dX0_init_39) (Mk.len h8 rfl) ?_
  have h9 : Mk (B ++ (0, 4) :: [(50, 20), (50, 20), (50, 60), (50, 10), (50, 7)]) m (nw τ8 50 (Int.toNat 7)) := Mk.nw h8 (k := 5) rfl (by decide) (fun i => by exact hm 5 i (by decide) (by decide))
  revert h9
  generalize nw τ8 50 (Int.toNat 7) = τ9
  intro h9
  refine pGo (s_putF (j := 5) pc0 fw_X0_24 dX0_init_41 (Mk.obB h9) rfl (by decide) (by decide) rfl rfl rfl (Or.inr ⟨_, rfl⟩) rfl) ?_
  have h10 : Mk (B ++ (0, 5) :: [(50, 20), (50, 20), (50, 60), (50, 10), (50, 7)]) m (fs1 τ9 ((B.length : Nat) : Int) 0 4) := Mk.fs h9
  revert h10
  generalize fs1 τ9 ((B.length : Nat) : Int) 0 4 = τ10
  intro h10
  exact pEnd (r := none) dX0_init_44 rfl (k1 _ h10)
set_option maxRecDepth 100000 in
theorem g_X1_init_0 {d : Nat} {σ : pS} {Q : Option pV → pS → Prop} (hd : 1 ≤ d) {B : List (Nat × Nat)} {m : Int → Int → Int} (x1 : Int) (x2 : Int) (hx : 0 ≤ x1 ∧ x1 = ((B.length : Nat) : Int) + -6 ∧ 0 ≤ x2 ∧ x2 = ((B.length : Nat) : Int) + -15) (h0 : Mk (B ++ [(1, 0)]) m σ) (hm : ∀ k i : Int, 1 ≤ k → k ≤ 10 → m (((B.length : Nat) : Int) + k) i = 0) (k1 : ∀ τ, Mk (B ++ (1, 12) :: [(50, 4800), (50, 4800), (50, 3360), (50, 17), (50, 17), (50, 4800), (50, 10), (50, 10), (50, 17), (50, 17)]) m τ → Q none τ) : pC mX1_init d [(2, ((B.length : Nat) : Int)), (2, x1), (2, x2)] σ Q := by
  show pR mX1_init d 0 [(2, ((B.length : Nat) : Int)), (2, x1), (2, x2)] [] σ Q
  refine pGo (s_aload_n dX1_init_0 rfl (by omega)) ?_
  refine pGo (s_objInit (by omega) hd ol_X1_3 ow_inst ow_code (Nat.le_of_ble_eq_true rfl) dX1_init_1) ?_
  refine pGo (s_aload_n dX1_init_4 rfl (by omega)) ?_
  refine pGo (s_sipush dX1_init_5 (by decide)) ?_
  refine pGoE (y := (((B.length : Nat) : Int) + 1)) (s_newaI ac_int (by decide) dX1_init_8) (Mk.len h0 rfl) ?_
  have h1 : Mk (B ++ (1, 0) :: [(50, 4800)]) m (nw σ 50 (Int.toNat 4800)) := Mk.nw h0 (k := 1) rfl (by decide) (fun i => by exact hm 1 i (by decide) (by decide))
  revert h1
  generalize nw σ 50 (Int.toNat 4800) = τ1
  intro h1
  refine pGo (s_putF (j := 3) pc1 fw_X1_9 dX1_init_10 (Mk.obB h1) rfl (by decide) (by decide) rfl rfl rfl (Or.inr ⟨_, rfl⟩) rfl) ?_
  have h2 : Mk (B ++ (1, 1) :: [(50, 4800)]) m (fs1 τ1 ((B.length : Nat) : Int) 1 0) := Mk.fs h1
  revert h2
  generalize fs1 τ1 ((B.length : Nat) : Int) 1 0 = τ2
  intro h2
  refine pGo (s_aload_n dX1_init_13 rfl (by omega)) ?_
  refine pGo (s_sipush dX1_init_14 (by decide)) ?_
  refine pGoE (y := (((B.length : Nat) : Int) + 2)) (s_newaI ac_int (by decide) dX1_init_17) (Mk.len h2 rfl) ?_
  have h3 : Mk (B ++ (1, 1) :: [(50, 4800), (50, 4800)]) m (nw τ2 50 (Int.toNat 4800)) := Mk.nw h2 (k := 2) rfl (by decide) (fun i => by exact hm 2 i (by decide) (by decide))
  revert h3
  generalize nw τ2 50 (Int.toNat 4800) = τ3
  intro h3
  refine pGo (s_putF (j := 4) pc1 fw_X1_15 dX1_init_19 (Mk.obB h3) rfl (by decide) (by decide) rfl rfl rfl (Or.inr ⟨_, rfl⟩) rfl) ?_
  have h4 : Mk (B ++ (1, 2) :: [(50, 4800), (50, 4800)]) m (fs1 τ3 ((B.length : Nat) : Int) 1 1) := Mk.fs h3
  revert h4
  generalize fs1 τ3 ((B.length : Nat) : Int) 1 1 = τ4
  intro h4
  refine pGo (s_aload_n dX1_init_22 rfl (by omega)) ?_
  refine pGo (s_sipush dX1_init_23 (by decide)) ?_
  refine pGoE (y := (((B.length : Nat) : Int) + 3)) (s_newaI ac_int (by decide) dX1_init_26) (Mk.len h4 rfl) ?_
  have h5 : Mk (B ++ (1, 2) :: [(50, 4800), (50, 4800), (50, 3360)]) m (nw τ4 50 (Int.toNat 3360)) := Mk.nw h4 (k := 3) rfl (by decide) (fun i => by exact hm 3 i (by decide) (by decide))
  revert h5
  generalize nw τ4 50 (Int.toNat 3360) = τ5
  intro h5
  refine pGo (s_putF (j := 5) pc1 fw_X1_18 dX1_init_28 (Mk.obB h5) rfl (by decide) (by decide) rfl rfl rfl (Or.inr ⟨_, rfl⟩) rfl) ?_
  have h6 : Mk (B ++ (1, 3) :: [(50, 4800), (50, 4800), (50, 3360)]) m (fs1 τ5 ((B.length : Nat) : Int) 1 2) := Mk.fs h5
  revert h6
  generalize fs1 τ5 ((B.length : Nat) : Int) 1 2 = τ6
  intro h6
  refine pGo (s_aload_n dX1_init_31 rfl (by omega)) ?_
  refine pGo (s_bipush dX1_init_32 (by decide)) ?_
  refine pGoE (y := (((B.length : Nat) : Int) + 4)) (s_newaI ac_int (by decide) dX1_init_34) (Mk.len h6 rfl) ?_
  have h7 : Mk (B ++ (1, 3) :: [(50, 4800), (50, 4800), (50, 3360), (50, 17)]) m (nw τ6 50 (Int.toNat 17)) := Mk.nw h6 (k := 4) rfl (by decide) (fun i => by exact hm 4 i (by decide) (by decide))
  revert h7
  generalize nw τ6 50 (Int.toNat 17) = τ7
  intro h7
  refine pGo (s_putF (j := 6) pc1 fw_X1_21 dX1_init_36 (Mk.obB h7) rfl (by decide) (by decide) rfl rfl rfl (Or.inr ⟨_, rfl⟩) rfl) ?_
  have h8 : Mk (B ++ (1, 4) :: [(50, 4800), (50, 4800), (50, 3360), (50, 17)]) m (fs1 τ7 ((B.length : Nat) : Int) 1 3) := Mk.fs h7
  revert h8
  generalize fs1 τ7 ((B.length : Nat) : Int) 1 3 = τ8
  intro h8
  refine pGo (s_aload_n dX1_init_39 rfl (by omega)) ?_
  refine pGo (s_bipush dX1_init_40 (by decide)) ?_
  refine pGoE (y := (((B.length : Nat) : Int) + 5)) (s_newaI ac_int (by decide) dX1_init_42) (Mk.len h8 rfl) ?_
  have h9 : Mk (B ++ (1, 4) :: [(50, 4800), (50, 4800), (50, 3360), (50, 17), (50, 17)]) m (nw τ8 50 (Int.toNat 17)) := Mk.nw h8 (k := 5) rfl (by decide) (fun i => by exact hm 5 i (by decide) (by decide))
  revert h9
  generalize nw τ8 50 (Int.toNat 17) = τ9
  intro h9
  refine pGo (s_putF (j := 7) pc1 fw_X1_24 dX1_init_44 (Mk.obB h9) rfl (by decide) (by decide) rfl rfl rfl (Or.inr ⟨_, rfl⟩) rfl) ?_
  have h10 : Mk (B ++ (1, 5) :: [(50, 4800), (50, 4800), (50, 3360), (50, 17), (50, 17)]) m (fs1 τ9 ((B.length : Nat) : Int) 1 4) := Mk.fs h9
  revert h10
  generalize fs1 τ9 ((B.length : Nat) : Int) 1 4 = τ10
  intro h10
  refine pGo (s_aload_n dX1_init_47 rfl (by omega)) ?_
  refine pGo (s_sipush dX1_init_48 (by decide)) ?_
  refine pGoE (y := (((B.length : Nat) : Int) + 6)) (s_newaI ac_int (by decide) dX1_init_51) (Mk.len h10 rfl) ?_
  have h11 : Mk (B ++ (1, 5) :: [(50, 4800), (50, 4800), (50, 3360), (50, 17), (50, 17), (50, 4800)]) m (nw τ10 50 (Int.toNat 4800)) := Mk.nw h10 (k := 6) rfl (by decide) (fun i => by exact hm 6 i (by decide) (by decide))
  revert h11
  generalize nw τ10 50 (Int.toNat 4800) = τ11
  intro h11
  refine pGo (s_putF (j := 8) pc1 fw_X1_27 dX1_init_53 (Mk.obB h11) rfl (by decide) (by decide) rfl rfl rfl (Or.inr ⟨_, rfl⟩) rfl) ?_
  have h12 : Mk (B ++ (1, 6) :: [(50, 4800), (50, 4800), (50, 3360), (50, 17), (50, 17), (50, 4800)]) m (fs1 τ11 ((B.length : Nat) : Int) 1 5) := Mk.fs h11
  revert h12
  generalize fs1 τ11 ((B.length : Nat) : Int) 1 5 = τ12
  intro h12
  refine pGo (s_aload_n dX1_init_56 rfl (by omega)) ?_
  refine pGo (s_bipush dX1_init_57 (by decide)) ?_
  refine pGoE (y := (((B.length : Nat) : Int) + 7)) (s_newaI ac_int (by decide) dX1_init_59) (Mk.len h12 rfl) ?_
  have h13 : Mk (B ++ (1, 6) :: [(50, 4800), (50, 4800), (50, 3360), (50, 17), (50, 17), (50, 4800), (50, 10)]) m (nw τ12 50 (Int.toNat 10)) := Mk.nw h12 (k := 7) rfl (by decide) (fun i => by exact hm 7 i (by decide) (by decide))
  revert h13
  generalize nw τ12 50 (Int.toNat 10) = τ13
  intro h13
  refine pGo (s_putF (j := 9) pc1 fw_X1_30 dX1_init_61 (Mk.obB h13) rfl (by decide) (by decide) rfl rfl rfl (Or.inr ⟨_, rfl⟩) rfl) ?_
  have h14 : Mk (B ++ (1, 7) :: [(50, 4800), (50, 4800), (50, 3360), (50, 17), (50, 17), (50, 4800), (50, 10)]) m (fs1 τ13 ((B.length : Nat) : Int) 1 6) := Mk.fs h13
  revert h14
  generalize fs1 τ13 ((B.length : Nat) : Int) 1 6 = τ14
  intro h14
  refine pGo (s_aload_n dX1_init_64 rfl (by omega)) ?_
  refine pGo (s_bipush dX1_init_65 (by decide)) ?_
  refine pGoE (y := (((B.length : Nat) : Int) + 8)) (s_newaI ac_int (by decide) dX1_init_67) (Mk.len h14 rfl) ?_
  have h15 : Mk (B ++ (1, 7) :: [(50, 4800), (50, 4800), (50, 3360), (50, 17), (50, 17), (50, 4800), (50, 10), (50, 10)]) m (nw τ14 50 (Int.toNat 10)) := Mk.nw h14 (k := 8) rfl (by decide) (fun i => by exact hm 8 i (by decide) (by decide))
  revert h15
  generalize nw τ14 50 (Int.toNat 10) = τ15
  intro h15
  refine pGo (s_putF (j := 10) pc1 fw_X1_33 dX1_init_69 (Mk.obB h15) rfl (by decide) (by decide) rfl rfl rfl (Or.inr ⟨_, rfl⟩) rfl) ?_
  have h16 : Mk (B ++ (1, 8) :: [(50, 4800), (50, 4800), (50, 3360), (50, 17), (50, 17), (50, 4800), (50, 10), (50, 10)]) m (fs1 τ15 ((B.length : Nat) : Int) 1 7) := Mk.fs h15
  revert h16
  generalize fs1 τ15 ((B.length : Nat) : Int) 1 7 = τ16
  intro h16
  refine pGo (s_aload_n dX1_init_72 rfl (by omega)) ?_
  refine pGo (s_bipush dX1_init_73 (by decide)) ?_
  refine pGoE (y := (((B.length : Nat) : Int) + 9)) (s_newaI ac_int (by decide) dX1_init_75) (Mk.len h16 rfl) ?_
  have h17 : Mk (B ++ (1, 8) :: [(50, 4800), (50, 4800), (50, 3360), (50, 17), (50, 17), (50, 4800), (50, 10), (50, 10), (50, 17)]) m (nw τ16 50 (Int.toNat 17)) := Mk.nw h16 (k := 9) rfl (by decide) (fun i => by exact hm 9 i (by decide) (by decide))
  revert h17
  generalize nw τ16 50 (Int.toNat 17) = τ17
  intro h17
  refine pGo (s_putF (j := 11) pc1 fw_X1_36 dX1_init_77 (Mk.obB h17) rfl (by decide) (by decide) rfl rfl rfl (Or.inr ⟨_, rfl⟩) rfl) ?_
  have h18 : Mk (B ++ (1, 9) :: [(50, 4800), (50, 4800), (50, 3360), (50, 17), (50, 17), (50, 4800), (50, 10), (50, 10), (50, 17)]) m (fs1 τ17 ((B.length : Nat) : Int) 1 8) := Mk.fs h17
  revert h18
  generalize fs1 τ17 ((B.length : Nat) : Int) 1 8 = τ18
  intro h18
  refine pGo (s_aload_n dX1_init_80 rfl (by omega)) ?_
  refine pGo (s_bipush dX1_init_81 (by decide)) ?_
  refine pGoE (y := (((B.length : Nat) : Int) + 10)) (s_newaI ac_int (by decide) dX1_init_83) (Mk.len h18 rfl) ?_
  have h19 : Mk (B ++ (1, 9) :: [(50, 4800), (50, 4800), (50, 3360), (50, 17), (50, 17), (50, 4800), (50, 10), (50, 10), (50, 17), (50, 17)]) m (nw τ18 50 (Int.toNat 17)) := Mk.nw h18 (k := 10) rfl (by decide) (fun i => by exact hm 10 i (by decide) (by decide))
  revert h19
  generalize nw τ18 50 (Int.toNat 17) = τ19
  intro h19
  refine pGo (s_putF (j := 12) pc1 fw_X1_39 dX1_init_85 (Mk.obB h19) rfl (by decide) (by decide) rfl rfl rfl (Or.inr ⟨_, rfl⟩) rfl) ?_
  have h20 : Mk (B ++ (1, 10) :: [(50, 4800), (50, 4800), (50, 3360), (50, 17), (50, 17), (50, 4800), (50, 10), (50, 10), (50, 17), (50, 17)]) m (fs1 τ19 ((B.length : Nat) : Int) 1 9) := Mk.fs h19
  revert h20
  generalize fs1 τ19 ((B.length : Nat) : Int) 1 9 = τ20
  intro h20
  refine pGo (s_aload_n dX1_init_88 rfl (by omega)) ?_
  refine pGo (s_aload_n dX1_init_89 rfl (by omega)) ?_
  refine pGo (s_putF (j := 0) pc1 fw_X1_42 dX1_init_90 (Mk.obB h20) rfl (by decide) (by decide) rfl rfl rfl (Or.inl ⟨_, rfl⟩) (by omega)) ?_
  have h21 : Mk (B ++ (1, 11) :: [(50, 4800), (50, 4800), (50, 3360), (50, 17), (50, 17), (50, 4800), (50, 10), (50, 10), (50, 17), (50, 17)]) m (fs1 τ20 ((B.length : Nat) : Int) 1 10) := Mk.fs h20
  revert h21
  generalize fs1 τ20 ((B.length : Nat) : Int) 1 10 = τ21
  intro h21
  refine pGo (s_aload_n dX1_init_93 rfl (by omega)) ?_
  refine pGo (s_aload_n dX1_init_94 rfl (by omega)) ?_
  refine pGo (s_putF (j := 1) pc1 fw_X1_46 dX1_init_95 (Mk.obB h21) rfl (by decide) (by decide) rfl rfl rfl (Or.inl ⟨_, rfl⟩) (by omega)) ?_
  have h22 : Mk (B ++ (1, 12) :: [(50, 4800), (50, 4800), (50, 3360), (50, 17), (50, 17), (50, 4800), (50, 10), (50, 10), (50, 17), (50, 17)]) m (fs1 τ21 ((B.length : Nat) : Int) 1 11) := Mk.fs h21
  revert h22
  generalize fs1 τ21 ((B.length : Nat) : Int) 1 11 = τ22
  intro h22
  exact pEnd (r := none) dX1_init_98 rfl (k1 _ h22)
set_option maxRecDepth 100000 in
theorem g_X2_init_0 {d : Nat} {σ : pS} {Q : Option pV → pS → Prop} (hd : 1 ≤ d) {B : List (Nat × Nat)} {m : Int → Int → Int} (x1 : Int) (hx : 0 ≤ x1 ∧ x1 ≤ 100000) (h0 : Mk (B ++ [(2, 0)]) m σ) (hm : ∀ k i : Int, 1 ≤ k → k ≤ 5 → m (((B.length : Nat) : Int) + k) i = 0) (k1 : ∀ τ, Mk (B ++ (2, 5) :: [(50, 2), (50, 2), (50, 41), (50, (Int.toNat (max 1 x1))), (50, (Int.toNat (max 1 x1)))]) (wrm (wrm (wrm (wrm m (((B.length : Nat) : Int) + 1) 0 (-1)) (((B.length : Nat) : Int) + 1) 1 (-1)) (((B.length : Nat) : Int) + 2) 0 (-1)) (((B.length : Nat) : Int) + 2) 1 (-1)) τ → Q none τ) : pC mX2_init d [(2, ((B.length : Nat) : Int)), (0, x1)] σ Q := by
  show pR mX2_init d 0 [(2, ((B.length : Nat) : Int)), (0, x1), (9, 0)] [] σ Q
  refine pGo (s_aload_n dX2_init_0 rfl (by omega)) ?_
  refine pGo (s_objInit (by omega) hd ol_X2_3 ow_inst ow_code (Nat.le_of_ble_eq_true rfl) dX2_init_1) ?_
  refine pGo (s_aload_n dX2_init_4 rfl (by omega)) ?_
  refine pGo (s_iconst dX2_init_5) ?_
  refine pGoE (y := (((B.length : Nat) : Int) + 1)) (s_newaI ac_int (by decide) dX2_init_6) (Mk.len h0 rfl) ?_
  have h1 : Mk (B ++ (2, 0) :: [(50, 2)]) m (nw σ 50 (Int.toNat 2)) := Mk.nw h0 (k := 1) rfl (by decide) (fun i => by exact hm 1 i (by decide) (by decide))
  revert h1
  generalize nw σ 50 (Int.toNat 2) = τ1
  intro h1
  refine pGo (s_dup dX2_init_8 (show (2 : Nat) ≠ 1 by decide)) ?_
  refine pGo (s_iconst dX2_init_9) ?_
  refine pGo (s_iconst dX2_init_10) ?_
  refine pGo (s_iast dX2_init_11 (Mk.obr h1 (j := 0) (by decide) rfl) (by decide)) ?_
  have h2 : Mk (B ++ (2, 0) :: [(50, 2)]) (wrm m (((B.length : Nat) : Int) + 1) 0 (-1)) (wr τ1 (((B.length : Nat) : Int) + 1) 0 (-1)) := Mk.wr h1
  revert h2
  generalize wr τ1 (((B.length : Nat) : Int) + 1) 0 (-1) = τ2
  intro h2
  refine pGo (s_dup dX2_init_12 (show (2 : Nat) ≠ 1 by decide)) ?_
  refine pGo (s_iconst dX2_init_13) ?_
  refine pGo (s_iconst dX2_init_14) ?_
  refine pGo (s_iast dX2_init_15 (Mk.obr h2 (j := 0) (by decide) rfl) (by decide)) ?_
  have h3 : Mk (B ++ (2, 0) :: [(50, 2)]) (wrm (wrm m (((B.length : Nat) : Int) + 1) 0 (-1)) (((B.length : Nat) : Int) + 1) 1 (-1)) (wr τ2 (((B.length : Nat) : Int) + 1) 1 (-1)) := Mk.wr h2
  revert h3
  generalize wr τ2 (((B.length : Nat) : Int) + 1) 1 (-1) = τ3
  intro h3
  refine pGo (s_putF (j := 6) pc2 fw_X2_9 dX2_init_16 (Mk.obB h3) rfl (by decide) (by decide) rfl rfl rfl (Or.inr ⟨_, rfl⟩) rfl) ?_
  have h4 : Mk (B ++ (2, 1) :: [(50, 2)]) (wrm (wrm m (((B.length : Nat) : Int) + 1) 0 (-1)) (((B.length : Nat) : Int) + 1) 1 (-1)) (fs1 τ3 ((B.length : Nat) : Int) 2 0) := Mk.fs h3
  revert h4
  generalize fs1 τ3 ((B.length : Nat) : Int) 2 0 = τ4
  intro h4
  refine pGo (s_aload_n dX2_init_19 rfl (by omega)) ?_
  refine pGo (s_iconst dX2_init_20) ?_
  refine pGoE (y := (((B.length : Nat) : Int) + 2)) (s_newaI ac_int (by decide) dX2_init_21) (Mk.len h4 rfl) ?_
  have h5 : Mk (B ++ (2, 1) :: [(50, 2), (50, 2)]) (wrm (wrm m (((B.length : Nat) : Int) + 1) 0 (-1)) (((B.length : Nat) : Int) + 1) 1 (-1)) (nw τ4 50 (Int.toNat 2)) := Mk.nw h4 (k := 2) rfl (by decide) (fun i => by rw [wrm_n (by omega)]; rw [wrm_n (by omega)]; exact hm 2 i (by decide) (by decide))
  revert h5
  generalize nw τ4 50 (Int.toNat 2) = τ5
  intro h5
  refine pGo (s_dup dX2_init_23 (show (2 : Nat) ≠ 1 by decide)) ?_
  refine pGo (s_iconst dX2_init_24) ?_
  refine pGo (s_iconst dX2_init_25) ?_
  refine pGo (s_iast dX2_init_26 (Mk.obr h5 (j := 1) (by decide) rfl) (by decide)) ?_
  have h6 : Mk (B ++ (2, 1) :: [(50, 2), (50, 2)]) (wrm (wrm (wrm m (((B.length : Nat) : Int) + 1) 0 (-1)) (((B.length : Nat) : Int) + 1) 1 (-1)) (((B.length : Nat) : Int) + 2) 0 (-1)) (wr τ5 (((B.length : Nat) : Int) + 2) 0 (-1)) := Mk.wr h5
  revert h6
  generalize wr τ5 (((B.length : Nat) : Int) + 2) 0 (-1) = τ6
  intro h6
  refine pGo (s_dup dX2_init_27 (show (2 : Nat) ≠ 1 by decide)) ?_
  refine pGo (s_iconst dX2_init_28) ?_
  refine pGo (s_iconst dX2_init_29) ?_
  refine pGo (s_iast dX2_init_30 (Mk.obr h6 (j := 1) (by decide) rfl) (by decide)) ?_
  have h7 : Mk (B ++ (2, 1) :: [(50, 2), (50, 2)]) (wrm (wrm (wrm (wrm m (((B.length : Nat) : Int) + 1) 0 (-1)) (((B.length : Nat) : Int) + 1) 1 (-1)) (((B.length : Nat) : Int) + 2) 0 (-1)) (((B.length : Nat) : Int) + 2) 1 (-1)) (wr τ6 (((B.length : Nat) : Int) + 2) 1 (-1)) := Mk.wr h6
  revert h7
  generalize wr τ6 (((B.length : Nat) : Int) + 2) 1 (-1) = τ7
  intro h7
  refine pGo (s_putF (j := 7) pc2 fw_X2_15 dX2_init_31 (Mk.obB h7) rfl (by decide) (by decide) rfl rfl rfl (Or.inr ⟨_, rfl⟩) rfl) ?_
  have h8 : Mk (B ++ (2, 2) :: [(50, 2), (50, 2)]) (wrm (wrm (wrm (wrm m (((B.length : Nat) : Int) + 1) 0 (-1)) (((B.length : Nat) : Int) + 1) 1 (-1)) (((B.length : Nat) : Int) + 2) 0 (-1)) (((B.length : Nat) : Int) + 2) 1 (-1)) (fs1 τ7 ((B.length : Nat) : Int) 2 1) := Mk.fs h7
  revert h8
  generalize fs1 τ7 ((B.length : Nat) : Int) 2 1 = τ8
  intro h8
  refine pGo (s_aload_n dX2_init_34 rfl (by omega)) ?_
  refine pGo (s_bipush dX2_init_35 (by decide)) ?_
  refine pGoE (y := (((B.length : Nat) : Int) + 3)) (s_newaI ac_int (by decide) dX2_init_37) (Mk.len h8 rfl) ?_
  have h9 : Mk (B ++ (2, 2) :: [(50, 2), (50, 2), (50, 41)]) (wrm (wrm (wrm (wrm m (((B.length : Nat) : Int) + 1) 0 (-1)) (((B.length : Nat) : Int) + 1) 1 (-1)) (((B.length : Nat) : Int) + 2) 0 (-1)) (((B.length : Nat) : Int) + 2) 1 (-1)) (nw τ8 50 (Int.toNat 41)) := Mk.nw h8 (k := 3) rfl (by decide) (fun i => by rw [wrm_n (by omega)]; rw [wrm_n (by omega)]; rw [wrm_n (by omega)]; rw [wrm_n (by omega)]; exact hm 3 i (by decide) (by decide))
  revert h9
  generalize nw τ8 50 (Int.toNat 41) = τ9
  intro h9
  refine pGo (s_putF (j := 8) pc2 fw_X2_18 dX2_init_39 (Mk.obB h9) rfl (by decide) (by decide) rfl rfl rfl (Or.inr ⟨_, rfl⟩) rfl) ?_
  have h10 : Mk (B ++ (2, 3) :: [(50, 2), (50, 2), (50, 41)]) (wrm (wrm (wrm (wrm m (((B.length : Nat) : Int) + 1) 0 (-1)) (((B.length : Nat) : Int) + 1) 1 (-1)) (((B.length : Nat) : Int) + 2) 0 (-1)) (((B.length : Nat) : Int) + 2) 1 (-1)) (fs1 τ9 ((B.length : Nat) : Int) 2 2) := Mk.fs h9
  revert h10
  generalize fs1 τ9 ((B.length : Nat) : Int) 2 2 = τ10
  intro h10
  refine pGo (s_iconst dX2_init_42) ?_
  refine pGo (s_iload_n dX2_init_43 rfl) ?_
  refine pGo (s_mmax (by omega) mj_X2_21 (Nat.le_of_ble_eq_true rfl) dX2_init_44 (by omega) (by omega)) ?_
  refine pGoL (ls2 := [(2, ((B.length : Nat) : Int)), (0, x1), (0, (max 1 x1))]) (s_istore_n dX2_init_47 (by decide) rfl) rfl ?_
  refine pGo (s_aload_n dX2_init_48 rfl (by omega)) ?_
  refine pGo (s_iload_n dX2_init_49 rfl) ?_
  refine pGoE (y := (((B.length : Nat) : Int) + 4)) (s_newaI ac_int (by omega) dX2_init_50) (Mk.len h10 rfl) ?_
  have h11 : Mk (B ++ (2, 3) :: [(50, 2), (50, 2), (50, 41), (50, (Int.toNat (max 1 x1)))]) (wrm (wrm (wrm (wrm m (((B.length : Nat) : Int) + 1) 0 (-1)) (((B.length : Nat) : Int) + 1) 1 (-1)) (((B.length : Nat) : Int) + 2) 0 (-1)) (((B.length : Nat) : Int) + 2) 1 (-1)) (nw τ10 50 (Int.toNat (max 1 x1))) := Mk.nw h10 (k := 4) rfl (by decide) (fun i => by rw [wrm_n (by omega)]; rw [wrm_n (by omega)]; rw [wrm_n (by omega)]; rw [wrm_n (by omega)]; exact hm 4 i (by decide) (by decide))
  revert h11
  generalize nw τ10 50 (Int.toNat (max 1 x1)) = τ11
  intro h11
  refine pGo (s_putF (j := 0) pc2 fw_X2_27 dX2_init_52 (Mk.obB h11) rfl (by decide) (by decide) rfl rfl rfl (Or.inr ⟨_, rfl⟩) rfl) ?_
  have h12 : Mk (B ++ (2, 4) :: [(50, 2), (50, 2), (50, 41), (50, (Int.toNat (max 1 x1)))]) (wrm (wrm (wrm (wrm m (((B.length : Nat) : Int) + 1) 0 (-1)) (((B.length : Nat) : Int) + 1) 1 (-1)) (((B.length : Nat) : Int) + 2) 0 (-1)) (((B.length : Nat) : Int) + 2) 1 (-1)) (fs1 τ11 ((B.length : Nat) : Int) 2 3) := Mk.fs h11
  revert h12
  generalize fs1 τ11 ((B.length : Nat) : Int) 2 3 = τ12
  intro h12
  refine pGo (s_aload_n dX2_init_55 rfl (by omega)) ?_
  refine pGo (s_iload_n dX2_init_56 rfl) ?_
  refine pGoE (y := (((B.length : Nat) : Int) + 5)) (s_newaI ac_int (by omega) dX2_init_57) (Mk.len h12 rfl) ?_
  have h13 : Mk (B ++ (2, 4) :: [(50, 2), (50, 2), (50, 41), (50, (Int.toNat (max 1 x1))), (50, (Int.toNat (max 1 x1)))]) (wrm (wrm (wrm (wrm m (((B.length : Nat) : Int) + 1) 0 (-1)) (((B.length : Nat) : Int) + 1) 1 (-1)) (((B.length : Nat) : Int) + 2) 0 (-1)) (((B.length : Nat) : Int) + 2) 1 (-1)) (nw τ12 50 (Int.toNat (max 1 x1))) := Mk.nw h12 (k := 5) rfl (by decide) (fun i => by rw [wrm_n (by omega)]; rw [wrm_n (by omega)]; rw [wrm_n (by omega)]; rw [wrm_n (by omega)]; exact hm 5 i (by decide) (by decide))
  revert h13
  generalize nw τ12 50 (Int.toNat (max 1 x1)) = τ13
  intro h13
  refine pGo (s_putF (j := 1) pc2 fw_X2_30 dX2_init_59 (Mk.obB h13) rfl (by decide) (by decide) rfl rfl rfl (Or.inr ⟨_, rfl⟩) rfl) ?_
  have h14 : Mk (B ++ (2, 5) :: [(50, 2), (50, 2), (50, 41), (50, (Int.toNat (max 1 x1))), (50, (Int.toNat (max 1 x1)))]) (wrm (wrm (wrm (wrm m (((B.length : Nat) : Int) + 1) 0 (-1)) (((B.length : Nat) : Int) + 1) 1 (-1)) (((B.length : Nat) : Int) + 2) 0 (-1)) (((B.length : Nat) : Int) + 2) 1 (-1)) (fs1 τ13 ((B.length : Nat) : Int) 2 4) := Mk.fs h13
  revert h14
  generalize fs1 τ13 ((B.length : Nat) : Int) 2 4 = τ14
  intro h14
  exact pEnd (r := none) dX2_init_62 rfl (k1 _ h14)
set_option maxRecDepth 100000 in
theorem g_X3_init_0 {d : Nat} {σ : pS} {Q : Option pV → pS → Prop} (hd : 1 ≤ d) {B : List (Nat × Nat)} {m : Int → Int → Int} (x1 : Int) (hx : 0 ≤ x1) (h0 : Mk (B ++ [(3, 0)]) m σ) (hm : ∀ k i : Int, 1 ≤ k → k ≤ 4 → m (((B.length : Nat) : Int) + k) i = 0) (k1 : ∀ τ, Mk (B ++ (3, 4) :: [(50, 8), (50, 8), (50, 8), (50, 8)]) (wrm (wrm m ((B.length : Nat) : Int) 5 (-1)) ((B.length : Nat) : Int) 4 x1) τ → Q none τ) : pC mX3_init d [(2, ((B.length : Nat) : Int)), (2, x1)] σ Q := by
  show pR mX3_init d 0 [(2, ((B.length : Nat) : Int)), (2, x1)] [] σ Q
  refine pGo (s_aload_n dX3_init_0 rfl (by omega)) ?_
  refine pGo (s_objInit (by omega) hd ol_X3_3 ow_inst ow_code (Nat.le_of_ble_eq_true rfl) dX3_init_1) ?_
  refine pGo (s_aload_n dX3_init_4 rfl (by omega)) ?_
  refine pGo (s_bipush dX3_init_5 (by decide)) ?_
  refine pGoE (y := (((B.length : Nat) : Int) + 1)) (s_newaI ac_int (by decide) dX3_init_7) (Mk.len h0 rfl) ?_
  have h1 : Mk (B ++ (3, 0) :: [(50, 8)]) m (nw σ 50 (Int.toNat 8)) := Mk.nw h0 (k := 1) rfl (by decide) (fun i => by exact hm 1 i (by decide) (by decide))
  revert h1
  generalize nw σ 50 (Int.toNat 8) = τ1
  intro h1
  refine pGo (s_putF (j := 0) pc3 fw_X3_9 dX3_init_9 (Mk.obB h1) rfl (by decide) (by decide) rfl rfl rfl (Or.inr ⟨_, rfl⟩) rfl) ?_
  have h2 : Mk (B ++ (3, 1) :: [(50, 8)]) m (fs1 τ1 ((B.length : Nat) : Int) 3 0) := Mk.fs h1
  revert h2
  generalize fs1 τ1 ((B.length : Nat) : Int) 3 0 = τ2
  intro h2
  refine pGo (s_aload_n dX3_init_12 rfl (by omega)) ?_
  refine pGo (s_bipush dX3_init_13 (by decide)) ?_
  refine pGoE (y := (((B.length : Nat) : Int) + 2)) (s_newaI ac_int (by decide) dX3_init_15) (Mk.len h2 rfl) ?_
  have h3 : Mk (B ++ (3, 1) :: [(50, 8), (50, 8)]) m (nw τ2 50 (Int.toNat 8)) := Mk.nw h2 (k := 2) rfl (by decide) (fun i => by exact hm 2 i (by decide) (by decide))
  revert h3
  generalize nw τ2 50 (Int.toNat 8) = τ3
  intro h3
  refine pGo (s_putF (j := 1) pc3 fw_X3_15 dX3_init_17 (Mk.obB h3) rfl (by decide) (by decide) rfl rfl rfl (Or.inr ⟨_, rfl⟩) rfl) ?_
  have h4 : Mk (B ++ (3, 2) :: [(50, 8), (50, 8)]) m (fs1 τ3 ((B.length : Nat) : Int) 3 1) := Mk.fs h3
  revert h4
  generalize fs1 τ3 ((B.length : Nat) : Int) 3 1 = τ4
  intro h4
  refine pGo (s_aload_n dX3_init_20 rfl (by omega)) ?_
  refine pGo (s_bipush dX3_init_21 (by decide)) ?_
  refine pGoE (y := (((B.length : Nat) : Int) + 3)) (s_newaI ac_int (by decide) dX3_init_23) (Mk.len h4 rfl) ?_
  have h5 : Mk (B ++ (3, 2) :: [(50, 8), (50, 8), (50, 8)]) m (nw τ4 50 (Int.toNat 8)) := Mk.nw h4 (k := 3) rfl (by decide) (fun i => by exact hm 3 i (by decide) (by decide))
  revert h5
  generalize nw τ4 50 (Int.toNat 8) = τ5
  intro h5
  refine pGo (s_putF (j := 2) pc3 fw_X3_18 dX3_init_25 (Mk.obB h5) rfl (by decide) (by decide) rfl rfl rfl (Or.inr ⟨_, rfl⟩) rfl) ?_
  have h6 : Mk (B ++ (3, 3) :: [(50, 8), (50, 8), (50, 8)]) m (fs1 τ5 ((B.length : Nat) : Int) 3 2) := Mk.fs h5
  revert h6
  generalize fs1 τ5 ((B.length : Nat) : Int) 3 2 = τ6
  intro h6
  refine pGo (s_aload_n dX3_init_28 rfl (by omega)) ?_
  refine pGo (s_bipush dX3_init_29 (by decide)) ?_
  refine pGoE (y := (((B.length : Nat) : Int) + 4)) (s_newaI ac_int (by decide) dX3_init_31) (Mk.len h6 rfl) ?_
  have h7 : Mk (B ++ (3, 3) :: [(50, 8), (50, 8), (50, 8), (50, 8)]) m (nw τ6 50 (Int.toNat 8)) := Mk.nw h6 (k := 4) rfl (by decide) (fun i => by exact hm 4 i (by decide) (by decide))
  revert h7
  generalize nw τ6 50 (Int.toNat 8) = τ7
  intro h7
  refine pGo (s_putF (j := 3) pc3 fw_X3_21 dX3_init_33 (Mk.obB h7) rfl (by decide) (by decide) rfl rfl rfl (Or.inr ⟨_, rfl⟩) rfl) ?_
  have h8 : Mk (B ++ (3, 4) :: [(50, 8), (50, 8), (50, 8), (50, 8)]) m (fs1 τ7 ((B.length : Nat) : Int) 3 3) := Mk.fs h7
  revert h8
  generalize fs1 τ7 ((B.length : Nat) : Int) 3 3 = τ8
  intro h8
  refine pGo (s_aload_n dX3_init_36 rfl (by omega)) ?_
  refine pGo (s_iconst dX3_init_37) ?_
  refine pGo (s_putI pc3 fl_X3_24 dX3_init_38 (Mk.obB h8) rfl rfl rfl rfl) ?_
  have h9 : Mk (B ++ (3, 4) :: [(50, 8), (50, 8), (50, 8), (50, 8)]) (wrm m ((B.length : Nat) : Int) 5 (-1)) (wr τ8 ((B.length : Nat) : Int) 5 (-1)) := Mk.wr h8
  revert h9
  generalize wr τ8 ((B.length : Nat) : Int) 5 (-1) = τ9
  intro h9
  refine pGo (s_aload_n dX3_init_41 rfl (by omega)) ?_
  refine pGo (s_aload_n dX3_init_42 rfl (by omega)) ?_
  refine pGo (s_putR pc3 fl_X3_28 dX3_init_43 (Mk.obB h9) rfl rfl rfl rfl) ?_
  have h10 : Mk (B ++ (3, 4) :: [(50, 8), (50, 8), (50, 8), (50, 8)]) (wrm (wrm m ((B.length : Nat) : Int) 5 (-1)) ((B.length : Nat) : Int) 4 x1) (wr τ9 ((B.length : Nat) : Int) 4 x1) := Mk.wr h9
  revert h10
  generalize wr τ9 ((B.length : Nat) : Int) 4 x1 = τ10
  intro h10
  exact pEnd (r := none) dX3_init_46 rfl (k1 _ h10)
set_option maxRecDepth 100000 in
theorem g_X4_init_0 {d : Nat} {σ : pS} {Q : Option pV → pS → Prop} (hd : 1 ≤ d) {B : List (Nat × Nat)} {m : Int → Int → Int} (x1 : Int) (hx : 0 ≤ x1 ∧ x1 = ((B.length : Nat) : Int) + -5) (h0 : Mk (B ++ [(4, 0)]) m σ) (hm : ∀ k i : Int, 1 ≤ k → k ≤ 2 → m (((B.length : Nat) : Int) + k) i = 0) (k1 : ∀ τ, Mk (B ++ (4, 3) :: [(50, 10), (50, 10)]) m τ → Q none τ) : pC mX4_init d [(2, ((B.length : Nat) : Int)), (2, x1)] σ Q := by
  show pR mX4_init d 0 [(2, ((B.length : Nat) : Int)), (2, x1)] [] σ Q
  refine pGo (s_aload_n dX4_init_0 rfl (by omega)) ?_
  refine pGo (s_objInit (by omega) hd ol_X4_3 ow_inst ow_code (Nat.le_of_ble_eq_true rfl) dX4_init_1) ?_
  refine pGo (s_aload_n dX4_init_4 rfl (by omega)) ?_
  refine pGo (s_bipush dX4_init_5 (by decide)) ?_
  refine pGoE (y := (((B.length : Nat) : Int) + 1)) (s_newaI ac_int (by decide) dX4_init_7) (Mk.len h0 rfl) ?_
  have h1 : Mk (B ++ (4, 0) :: [(50, 10)]) m (nw σ 50 (Int.toNat 10)) := Mk.nw h0 (k := 1) rfl (by decide) (fun i => by exact hm 1 i (by decide) (by decide))
  revert h1
  generalize nw σ 50 (Int.toNat 10) = τ1
  intro h1
  refine pGo (s_putF (j := 1) pc4 fw_X4_9 dX4_init_9 (Mk.obB h1) rfl (by decide) (by decide) rfl rfl rfl (Or.inr ⟨_, rfl⟩) rfl) ?_
  have h2 : Mk (B ++ (4, 1) :: [(50, 10)]) m (fs1 τ1 ((B.length : Nat) : Int) 4 0) := Mk.fs h1
  revert h2
  generalize fs1 τ1 ((B.length : Nat) : Int) 4 0 = τ2
  intro h2
  refine pGo (s_aload_n dX4_init_12 rfl (by omega)) ?_
  refine pGo (s_bipush dX4_init_13 (by decide)) ?_
  refine pGoE (y := (((B.length : Nat) : Int) + 2)) (s_newaI ac_int (by decide) dX4_init_15) (Mk.len h2 rfl) ?_
  have h3 : Mk (B ++ (4, 1) :: [(50, 10), (50, 10)]) m (nw τ2 50 (Int.toNat 10)) := Mk.nw h2 (k := 2) rfl (by decide) (fun i => by exact hm 2 i (by decide) (by decide))
  revert h3
  generalize nw τ2 50 (Int.toNat 10) = τ3
  intro h3
  refine pGo (s_putF (j := 2) pc4 fw_X4_15 dX4_init_17 (Mk.obB h3) rfl (by decide) (by decide) rfl rfl rfl (Or.inr ⟨_, rfl⟩) rfl) ?_
  have h4 : Mk (B ++ (4, 2) :: [(50, 10), (50, 10)]) m (fs1 τ3 ((B.length : Nat) : Int) 4 1) := Mk.fs h3
  revert h4
  generalize fs1 τ3 ((B.length : Nat) : Int) 4 1 = τ4
  intro h4
  refine pGo (s_aload_n dX4_init_20 rfl (by omega)) ?_
  refine pGo (s_aload_n dX4_init_21 rfl (by omega)) ?_
  refine pGo (s_putF (j := 0) pc4 fw_X4_18 dX4_init_22 (Mk.obB h4) rfl (by decide) (by decide) rfl rfl rfl (Or.inl ⟨_, rfl⟩) (by omega)) ?_
  have h5 : Mk (B ++ (4, 3) :: [(50, 10), (50, 10)]) m (fs1 τ4 ((B.length : Nat) : Int) 4 2) := Mk.fs h4
  revert h5
  generalize fs1 τ4 ((B.length : Nat) : Int) 4 2 = τ5
  intro h5
  exact pEnd (r := none) dX4_init_25 rfl (k1 _ h5)
set_option maxRecDepth 100000 in
theorem g_X5_init_0 {d : Nat} {σ : pS} {Q : Option pV → pS → Prop} (hd : 1 ≤ d) {B : List (Nat × Nat)} {m : Int → Int → Int} (x1 : Int) (x2 : Int) (hx : 0 ≤ x2) (h0 : Mk (B ++ [(5, 0)]) m σ) (hm : ∀ k i : Int, 1 ≤ k → k ≤ 5 → m (((B.length : Nat) : Int) + k) i = 0) (k1 : ∀ τ, Mk (B ++ (5, 5) :: [(50, 480), (50, 480), (50, 541), (50, 541), (50, 17)]) (wrm (wrm (wrm m ((B.length : Nat) : Int) 7 (-1)) ((B.length : Nat) : Int) 0 x1) ((B.length : Nat) : Int) 6 x2) τ → Q none τ) : pC mX5_init d [(2, ((B.length : Nat) : Int)), (0, x1), (2, x2)] σ Q := by
  show pR mX5_init d 0 [(2, ((B.length : Nat) : Int)), (0, x1), (2, x2)] [] σ Q
  refine pGo (s_aload_n dX5_init_0 rfl (by omega)) ?_
  refine pGo (s_objInit (by omega) hd ol_X5_3 ow_inst ow_code (Nat.le_of_ble_eq_true rfl) dX5_init_1) ?_
  refine pGo (s_aload_n dX5_init_4 rfl (by omega)) ?_
  refine pGo (s_sipush dX5_init_5 (by decide)) ?_
  refine pGoE (y := (((B.length : Nat) : Int) + 1)) (s_newaI ac_int (by decide) dX5_init_8) (Mk.len h0 rfl) ?_
  have h1 : Mk (B ++ (5, 0) :: [(50, 480)]) m (nw σ 50 (Int.toNat 480)) := Mk.nw h0 (k := 1) rfl (by decide) (fun i => by exact hm 1 i (by decide) (by decide))
  revert h1
  generalize nw σ 50 (Int.toNat 480) = τ1
  intro h1
  refine pGo (s_putF (j := 1) pc5 fw_X5_9 dX5_init_10 (Mk.obB h1) rfl (by decide) (by decide) rfl rfl rfl (Or.inr ⟨_, rfl⟩) rfl) ?_
  have h2 : Mk (B ++ (5, 1) :: [(50, 480)]) m (fs1 τ1 ((B.length : Nat) : Int) 5 0) := Mk.fs h1
  revert h2
  generalize fs1 τ1 ((B.length : Nat) : Int) 5 0 = τ2
  intro h2
  refine pGo (s_aload_n dX5_init_13 rfl (by omega)) ?_
  refine pGo (s_sipush dX5_init_14 (by decide)) ?_
  refine pGoE (y := (((B.length : Nat) : Int) + 2)) (s_newaI ac_int (by decide) dX5_init_17) (Mk.len h2 rfl) ?_
  have h3 : Mk (B ++ (5, 1) :: [(50, 480), (50, 480)]) m (nw τ2 50 (Int.toNat 480)) := Mk.nw h2 (k := 2) rfl (by decide) (fun i => by exact hm 2 i (by decide) (by decide))
  revert h3
  generalize nw τ2 50 (Int.toNat 480) = τ3
  intro h3
  refine pGo (s_putF (j := 2) pc5 fw_X5_15 dX5_init_19 (Mk.obB h3) rfl (by decide) (by decide) rfl rfl rfl (Or.inr ⟨_, rfl⟩) rfl) ?_
  have h4 : Mk (B ++ (5, 2) :: [(50, 480), (50, 480)]) m (fs1 τ3 ((B.length : Nat) : Int) 5 1) := Mk.fs h3
  revert h4
  generalize fs1 τ3 ((B.length : Nat) : Int) 5 1 = τ4
  intro h4
  refine pGo (s_aload_n dX5_init_22 rfl (by omega)) ?_
  refine pGo (s_sipush dX5_init_23 (by decide)) ?_
  refine pGoE (y := (((B.length : Nat) : Int) + 3)) (s_newaI ac_int (by decide) dX5_init_26) (Mk.len h4 rfl) ?_
  have h5 : Mk (B ++ (5, 2) :: [(50, 480), (50, 480), (50, 541)]) m (nw τ4 50 (Int.toNat 541)) := Mk.nw h4 (k := 3) rfl (by decide) (fun i => by exact hm 3 i (by decide) (by decide))
  revert h5
  generalize nw τ4 50 (Int.toNat 541) = τ5
  intro h5
  refine pGo (s_putF (j := 3) pc5 fw_X5_18 dX5_init_28 (Mk.obB h5) rfl (by decide) (by decide) rfl rfl rfl (Or.inr ⟨_, rfl⟩) rfl) ?_
  have h6 : Mk (B ++ (5, 3) :: [(50, 480), (50, 480), (50, 541)]) m (fs1 τ5 ((B.length : Nat) : Int) 5 2) := Mk.fs h5
  revert h6
  generalize fs1 τ5 ((B.length : Nat) : Int) 5 2 = τ6
  intro h6
  refine pGo (s_aload_n dX5_init_31 rfl (by omega)) ?_
  refine pGo (s_sipush dX5_init_32 (by decide)) ?_
  refine pGoE (y := (((B.length : Nat) : Int) + 4)) (s_newaI ac_int (by decide) dX5_init_35) (Mk.len h6 rfl) ?_
  have h7 : Mk (B ++ (5, 3) :: [(50, 480), (50, 480), (50, 541), (50, 541)]) m (nw τ6 50 (Int.toNat 541)) := Mk.nw h6 (k := 4) rfl (by decide) (fun i => by exact hm 4 i (by decide) (by decide))
  revert h7
  generalize nw τ6 50 (Int.toNat 541) = τ7
  intro h7
  refine pGo (s_putF (j := 4) pc5 fw_X5_21 dX5_init_37 (Mk.obB h7) rfl (by decide) (by decide) rfl rfl rfl (Or.inr ⟨_, rfl⟩) rfl) ?_
  have h8 : Mk (B ++ (5, 4) :: [(50, 480), (50, 480), (50, 541), (50, 541)]) m (fs1 τ7 ((B.length : Nat) : Int) 5 3) := Mk.fs h7
  revert h8
  generalize fs1 τ7 ((B.length : Nat) : Int) 5 3 = τ8
  intro h8
  refine pGo (s_aload_n dX5_init_40 rfl (by omega)) ?_
  refine pGo (s_bipush dX5_init_41 (by decide)) ?_
  refine pGoE (y := (((B.length : Nat) : Int) + 5)) (s_newaI ac_int (by decide) dX5_init_43) (Mk.len h8 rfl) ?_
  have h9 : Mk (B ++ (5, 4) :: [(50, 480), (50, 480), (50, 541), (50, 541), (50, 17)]) m (nw τ8 50 (Int.toNat 17)) := Mk.nw h8 (k := 5) rfl (by decide) (fun i => by exact hm 5 i (by decide) (by decide))
  revert h9
  generalize nw τ8 50 (Int.toNat 17) = τ9
  intro h9
  refine pGo (s_putF (j := 5) pc5 fw_X5_24 dX5_init_45 (Mk.obB h9) rfl (by decide) (by decide) rfl rfl rfl (Or.inr ⟨_, rfl⟩) rfl) ?_
  have h10 : Mk (B ++ (5, 5) :: [(50, 480), (50, 480), (50, 541), (50, 541), (50, 17)]) m (fs1 τ9 ((B.length : Nat) : Int) 5 4) := Mk.fs h9
  revert h10
  generalize fs1 τ9 ((B.length : Nat) : Int) 5 4 = τ10
  intro h10
  refine pGo (s_aload_n dX5_init_48 rfl (by omega)) ?_
  refine pGo (s_iconst dX5_init_49) ?_
  refine pGo (s_putI pc5 fl_X5_27 dX5_init_50 (Mk.obB h10) rfl rfl rfl rfl) ?_
  have h11 : Mk (B ++ (5, 5) :: [(50, 480), (50, 480), (50, 541), (50, 541), (50, 17)]) (wrm m ((B.length : Nat) : Int) 7 (-1)) (wr τ10 ((B.length : Nat) : Int) 7 (-1)) := Mk.wr h10
  revert h11
  generalize wr τ10 ((B.length : Nat) : Int) 7 (-1) = τ11
  intro h11
  refine pGo (s_aload_n dX5_init_53 rfl (by omega)) ?_
  refine pGo (s_iload_n dX5_init_54 rfl) ?_
  refine pGo (s_putFI pc5 fw_X5_31 dX5_init_55 (Mk.obB h11) rfl rfl rfl rfl rfl rfl) ?_
  have h12 : Mk (B ++ (5, 5) :: [(50, 480), (50, 480), (50, 541), (50, 541), (50, 17)]) (wrm (wrm m ((B.length : Nat) : Int) 7 (-1)) ((B.length : Nat) : Int) 0 x1) (wr τ11 ((B.length : Nat) : Int) 0 x1) := Mk.wr h11
  revert h12
  generalize wr τ11 ((B.length : Nat) : Int) 0 x1 = τ12
  intro h12
  refine pGo (s_aload_n dX5_init_58 rfl (by omega)) ?_
  refine pGo (s_aload_n dX5_init_59 rfl (by omega)) ?_
  refine pGo (s_putR pc5 fl_X5_34 dX5_init_60 (Mk.obB h12) rfl rfl rfl rfl) ?_
  have h13 : Mk (B ++ (5, 5) :: [(50, 480), (50, 480), (50, 541), (50, 541), (50, 17)]) (wrm (wrm (wrm m ((B.length : Nat) : Int) 7 (-1)) ((B.length : Nat) : Int) 0 x1) ((B.length : Nat) : Int) 6 x2) (wr τ12 ((B.length : Nat) : Int) 6 x2) := Mk.wr h12
  revert h13
  generalize wr τ12 ((B.length : Nat) : Int) 6 x2 = τ13
  intro h13
  exact pEnd (r := none) dX5_init_63 rfl (k1 _ h13)
set_option maxRecDepth 100000 in
theorem g_X6_init_0 {d : Nat} {σ : pS} {Q : Option pV → pS → Prop} (hd : 1 ≤ d) {B : List (Nat × Nat)} {m : Int → Int → Int}  (h0 : Mk (B ++ [(6, 0)]) m σ) (hm : ∀ k i : Int, 1 ≤ k → k ≤ 10 → m (((B.length : Nat) : Int) + k) i = 0) (k1 : ∀ τ, Mk (B ++ (6, 10) :: [(53, 17), (50, 17), (50, 17), (50, 17), (50, 6), (50, 17), (50, 17), (52, 17), (50, 17), (50, 17)]) m τ → Q none τ) : pC mX6_init d [(2, ((B.length : Nat) : Int))] σ Q := by
  show pR mX6_init d 0 [(2, ((B.length : Nat) : Int))] [] σ Q
  refine pGo (s_aload_n dX6_init_0 rfl (by omega)) ?_
  refine pGo (s_objInit (by omega) hd ol_X6_3 ow_inst ow_code (Nat.le_of_ble_eq_true rfl) dX6_init_1) ?_
  refine pGo (s_aload_n dX6_init_4 rfl (by omega)) ?_
  refine pGo (s_bipush dX6_init_5 (by decide)) ?_
  refine pGoE (y := (((B.length : Nat) : Int) + 1)) (s_newaJ ac_long (by decide) dX6_init_7) (Mk.len h0 rfl) ?_
  have h1 : Mk (B ++ (6, 0) :: [(53, 17)]) m (nw σ 53 (Int.toNat 17)) := Mk.nw h0 (k := 1) rfl (by decide) (fun i => by exact hm 1 i (by decide) (by decide))
  revert h1
  generalize nw σ 53 (Int.toNat 17) = τ1
  intro h1
  refine pGo (s_putF (j := 5) pc6 fw_X6_9 dX6_init_9 (Mk.obB h1) rfl (by decide) (by decide) rfl rfl rfl (Or.inr ⟨_, rfl⟩) rfl) ?_
  have h2 : Mk (B ++ (6, 1) :: [(53, 17)]) m (fs1 τ1 ((B.length : Nat) : Int) 6 0) := Mk.fs h1
  revert h2
  generalize fs1 τ1 ((B.length : Nat) : Int) 6 0 = τ2
  intro h2
  refine pGo (s_aload_n dX6_init_12 rfl (by omega)) ?_
  refine pGo (s_bipush dX6_init_13 (by decide)) ?_
  refine pGoE (y := (((B.length : Nat) : Int) + 2)) (s_newaI ac_int (by decide) dX6_init_15) (Mk.len h2 rfl) ?_
  have h3 : Mk (B ++ (6, 1) :: [(53, 17), (50, 17)]) m (nw τ2 50 (Int.toNat 17)) := Mk.nw h2 (k := 2) rfl (by decide) (fun i => by exact hm 2 i (by decide) (by decide))
  revert h3
  generalize nw τ2 50 (Int.toNat 17) = τ3
  intro h3
  refine pGo (s_putF (j := 6) pc6 fw_X6_15 dX6_init_17 (Mk.obB h3) rfl (by decide) (by decide) rfl rfl rfl (Or.inr ⟨_, rfl⟩) rfl) ?_
  have h4 : Mk (B ++ (6, 2) :: [(53, 17), (50, 17)]) m (fs1 τ3 ((B.length : Nat) : Int) 6 1) := Mk.fs h3
  revert h4
  generalize fs1 τ3 ((B.length : Nat) : Int) 6 1 = τ4
  intro h4
  refine pGo (s_aload_n dX6_init_20 rfl (by omega)) ?_
  refine pGo (s_bipush dX6_init_21 (by decide)) ?_
  refine pGoE (y := (((B.length : Nat) : Int) + 3)) (s_newaI ac_int (by decide) dX6_init_23) (Mk.len h4 rfl) ?_
  have h5 : Mk (B ++ (6, 2) :: [(53, 17), (50, 17), (50, 17)]) m (nw τ4 50 (Int.toNat 17)) := Mk.nw h4 (k := 3) rfl (by decide) (fun i => by exact hm 3 i (by decide) (by decide))
  revert h5
  generalize nw τ4 50 (Int.toNat 17) = τ5
  intro h5
  refine pGo (s_putF (j := 7) pc6 fw_X6_19 dX6_init_25 (Mk.obB h5) rfl (by decide) (by decide) rfl rfl rfl (Or.inr ⟨_, rfl⟩) rfl) ?_
  have h6 : Mk (B ++ (6, 3) :: [(53, 17), (50, 17), (50, 17)]) m (fs1 τ5 ((B.length : Nat) : Int) 6 2) := Mk.fs h5
  revert h6
  generalize fs1 τ5 ((B.length : Nat) : Int) 6 2 = τ6
  intro h6
  refine pGo (s_aload_n dX6_init_28 rfl (by omega)) ?_
  refine pGo (s_bipush dX6_init_29 (by decide)) ?_
  refine pGoE (y := (((B.length : Nat) : Int) + 4)) (s_newaI ac_int (by decide) dX6_init_31) (Mk.len h6 rfl) ?_
  have h7 : Mk (B ++ (6, 3) :: [(53, 17), (50, 17), (50, 17), (50, 17)]) m (nw τ6 50 (Int.toNat 17)) := Mk.nw h6 (k := 4) rfl (by decide) (fun i => by exact hm 4 i (by decide) (by decide))
  revert h7
  generalize nw τ6 50 (Int.toNat 17) = τ7
  intro h7
  refine pGo (s_putF (j := 8) pc6 fw_X6_22 dX6_init_33 (Mk.obB h7) rfl (by decide) (by decide) rfl rfl rfl (Or.inr ⟨_, rfl⟩) rfl) ?_
  have h8 : Mk (B ++ (6, 4) :: [(53, 17), (50, 17), (50, 17), (50, 17)]) m (fs1 τ7 ((B.length : Nat) : Int) 6 3) := Mk.fs h7
  revert h8
  generalize fs1 τ7 ((B.length : Nat) : Int) 6 3 = τ8
  intro h8
  refine pGo (s_aload_n dX6_init_36 rfl (by omega)) ?_
  refine pGo (s_bipush dX6_init_37 (by decide)) ?_
  refine pGoE (y := (((B.length : Nat) : Int) + 5)) (s_newaI ac_int (by decide) dX6_init_39) (Mk.len h8 rfl) ?_
  have h9 : Mk (B ++ (6, 4) :: [(53, 17), (50, 17), (50, 17), (50, 17), (50, 6)]) m (nw τ8 50 (Int.toNat 6)) := Mk.nw h8 (k := 5) rfl (by decide) (fun i => by exact hm 5 i (by decide) (by decide))
  revert h9
  generalize nw τ8 50 (Int.toNat 6) = τ9
  intro h9
  refine pGo (s_putF (j := 9) pc6 fw_X6_25 dX6_init_41 (Mk.obB h9) rfl (by decide) (by decide) rfl rfl rfl (Or.inr ⟨_, rfl⟩) rfl) ?_
  have h10 : Mk (B ++ (6, 5) :: [(53, 17), (50, 17), (50, 17), (50, 17), (50, 6)]) m (fs1 τ9 ((B.length : Nat) : Int) 6 4) := Mk.fs h9
  revert h10
  generalize fs1 τ9 ((B.length : Nat) : Int) 6 4 = τ10
  intro h10
  refine pGo (s_aload_n dX6_init_44 rfl (by omega)) ?_
  refine pGo (s_bipush dX6_init_45 (by decide)) ?_
  refine pGoE (y := (((B.length : Nat) : Int) + 6)) (s_newaI ac_int (by decide) dX6_init_47) (Mk.len h10 rfl) ?_
  have h11 : Mk (B ++ (6, 5) :: [(53, 17), (50, 17), (50, 17), (50, 17), (50, 6), (50, 17)]) m (nw τ10 50 (Int.toNat 17)) := Mk.nw h10 (k := 6) rfl (by decide) (fun i => by exact hm 6 i (by decide) (by decide))
  revert h11
  generalize nw τ10 50 (Int.toNat 17) = τ11
  intro h11
  refine pGo (s_putF (j := 10) pc6 fw_X6_28 dX6_init_49 (Mk.obB h11) rfl (by decide) (by decide) rfl rfl rfl (Or.inr ⟨_, rfl⟩) rfl) ?_
  have h12 : Mk (B ++ (6, 6) :: [(53, 17), (50, 17), (50, 17), (50, 17), (50, 6), (50, 17)]) m (fs1 τ11 ((B.length : Nat) : Int) 6 5) := Mk.fs h11
  revert h12
  generalize fs1 τ11 ((B.length : Nat) : Int) 6 5 = τ12
  intro h12
  refine pGo (s_aload_n dX6_init_52 rfl (by omega)) ?_
  refine pGo (s_bipush dX6_init_53 (by decide)) ?_
  refine pGoE (y := (((B.length : Nat) : Int) + 7)) (s_newaI ac_int (by decide) dX6_init_55) (Mk.len h12 rfl) ?_
  have h13 : Mk (B ++ (6, 6) :: [(53, 17), (50, 17), (50, 17), (50, 17), (50, 6), (50, 17), (50, 17)]) m (nw τ12 50 (Int.toNat 17)) := Mk.nw h12 (k := 7) rfl (by decide) (fun i => by exact hm 7 i (by decide) (by decide))
  revert h13
  generalize nw τ12 50 (Int.toNat 17) = τ13
  intro h13
  refine pGo (s_putF (j := 11) pc6 fw_X6_31 dX6_init_57 (Mk.obB h13) rfl (by decide) (by decide) rfl rfl rfl (Or.inr ⟨_, rfl⟩) rfl) ?_
  have h14 : Mk (B ++ (6, 7) :: [(53, 17), (50, 17), (50, 17), (50, 17), (50, 6), (50, 17), (50, 17)]) m (fs1 τ13 ((B.length : Nat) : Int) 6 6) := Mk.fs h13
  revert h14
  generalize fs1 τ13 ((B.length : Nat) : Int) 6 6 = τ14
  intro h14
  refine pGo (s_aload_n dX6_init_60 rfl (by omega)) ?_
  refine pGo (s_bipush dX6_init_61 (by decide)) ?_
  refine pGoE (y := (((B.length : Nat) : Int) + 8)) (s_newaZ ac_boolean (by decide) dX6_init_63) (Mk.len h14 rfl) ?_
  have h15 : Mk (B ++ (6, 7) :: [(53, 17), (50, 17), (50, 17), (50, 17), (50, 6), (50, 17), (50, 17), (52, 17)]) m (nw τ14 52 (Int.toNat 17)) := Mk.nw h14 (k := 8) rfl (by decide) (fun i => by exact hm 8 i (by decide) (by decide))
  revert h15
  generalize nw τ14 52 (Int.toNat 17) = τ15
  intro h15
  refine pGo (s_putF (j := 12) pc6 fw_X6_34 dX6_init_65 (Mk.obB h15) rfl (by decide) (by decide) rfl rfl rfl (Or.inr ⟨_, rfl⟩) rfl) ?_
  have h16 : Mk (B ++ (6, 8) :: [(53, 17), (50, 17), (50, 17), (50, 17), (50, 6), (50, 17), (50, 17), (52, 17)]) m (fs1 τ15 ((B.length : Nat) : Int) 6 7) := Mk.fs h15
  revert h16
  generalize fs1 τ15 ((B.length : Nat) : Int) 6 7 = τ16
  intro h16
  refine pGo (s_aload_n dX6_init_68 rfl (by omega)) ?_
  refine pGo (s_bipush dX6_init_69 (by decide)) ?_
  refine pGoE (y := (((B.length : Nat) : Int) + 9)) (s_newaI ac_int (by decide) dX6_init_71) (Mk.len h16 rfl) ?_
  have h17 : Mk (B ++ (6, 8) :: [(53, 17), (50, 17), (50, 17), (50, 17), (50, 6), (50, 17), (50, 17), (52, 17), (50, 17)]) m (nw τ16 50 (Int.toNat 17)) := Mk.nw h16 (k := 9) rfl (by decide) (fun i => by exact hm 9 i (by decide) (by decide))
  revert h17
  generalize nw τ16 50 (Int.toNat 17) = τ17
  intro h17
  refine pGo (s_putF (j := 13) pc6 fw_X6_38 dX6_init_73 (Mk.obB h17) rfl (by decide) (by decide) rfl rfl rfl (Or.inr ⟨_, rfl⟩) rfl) ?_
  have h18 : Mk (B ++ (6, 9) :: [(53, 17), (50, 17), (50, 17), (50, 17), (50, 6), (50, 17), (50, 17), (52, 17), (50, 17)]) m (fs1 τ17 ((B.length : Nat) : Int) 6 8) := Mk.fs h17
  revert h18
  generalize fs1 τ17 ((B.length : Nat) : Int) 6 8 = τ18
  intro h18
  refine pGo (s_aload_n dX6_init_76 rfl (by omega)) ?_
  refine pGo (s_bipush dX6_init_77 (by decide)) ?_
  refine pGoE (y := (((B.length : Nat) : Int) + 10)) (s_newaI ac_int (by decide) dX6_init_79) (Mk.len h18 rfl) ?_
  have h19 : Mk (B ++ (6, 9) :: [(53, 17), (50, 17), (50, 17), (50, 17), (50, 6), (50, 17), (50, 17), (52, 17), (50, 17), (50, 17)]) m (nw τ18 50 (Int.toNat 17)) := Mk.nw h18 (k := 10) rfl (by decide) (fun i => by exact hm 10 i (by decide) (by decide))
  revert h19
  generalize nw τ18 50 (Int.toNat 17) = τ19
  intro h19
  refine pGo (s_putF (j := 14) pc6 fw_X6_41 dX6_init_81 (Mk.obB h19) rfl (by decide) (by decide) rfl rfl rfl (Or.inr ⟨_, rfl⟩) rfl) ?_
  have h20 : Mk (B ++ (6, 10) :: [(53, 17), (50, 17), (50, 17), (50, 17), (50, 6), (50, 17), (50, 17), (52, 17), (50, 17), (50, 17)]) m (fs1 τ19 ((B.length : Nat) : Int) 6 9) := Mk.fs h19
  revert h20
  generalize fs1 τ19 ((B.length : Nat) : Int) 6 9 = τ20
  intro h20
  exact pEnd (r := none) dX6_init_84 rfl (k1 _ h20)
set_option maxRecDepth 100000 in
theorem g_X8_init_0 {d : Nat} {σ : pS} {Q : Option pV → pS → Prop} (hd : 1 ≤ d) {B : List (Nat × Nat)} {m : Int → Int → Int} (x1 : Int) (hx : 0 ≤ x1 ∧ x1 ≤ 100000) (h0 : Mk (B ++ [(8, 0)]) m σ) (hm : ∀ k i : Int, 1 ≤ k → k ≤ 5 → m (((B.length : Nat) : Int) + k) i = 0) (k1 : ∀ τ, Mk (B ++ (8, 5) :: [(50, (Int.toNat (max 0 x1))), (50, (Int.toNat (max 0 x1))), (50, (Int.toNat (max 0 x1))), (50, (Int.toNat (max 0 x1))), (50, (Int.toNat (max 0 x1)))]) m τ → Q none τ) : pC mX8_init d [(2, ((B.length : Nat) : Int)), (0, x1)] σ Q := by
  show pR mX8_init d 0 [(2, ((B.length : Nat) : Int)), (0, x1), (9, 0)] [] σ Q
  refine pGo (s_aload_n dX8_init_0 rfl (by omega)) ?_
  refine pGo (s_objInit (by omega) hd ol_X8_3 ow_inst ow_code (Nat.le_of_ble_eq_true rfl) dX8_init_1) ?_
  refine pGo (s_iconst dX8_init_4) ?_
  refine pGo (s_iload_n dX8_init_5 rfl) ?_
  refine pGo (s_mmax (by omega) mj_X8_9 (Nat.le_of_ble_eq_true rfl) dX8_init_6 (by omega) (by omega)) ?_
  refine pGoL (ls2 := [(2, ((B.length : Nat) : Int)), (0, x1), (0, (max 0 x1))]) (s_istore_n dX8_init_9 (by decide) rfl) rfl ?_
  refine pGo (s_aload_n dX8_init_10 rfl (by omega)) ?_
  refine pGo (s_iload_n dX8_init_11 rfl) ?_
  refine pGoE (y := (((B.length : Nat) : Int) + 1)) (s_newaI ac_int (by omega) dX8_init_12) (Mk.len h0 rfl) ?_
  have h1 : Mk (B ++ (8, 0) :: [(50, (Int.toNat (max 0 x1)))]) m (nw σ 50 (Int.toNat (max 0 x1))) := Mk.nw h0 (k := 1) rfl (by decide) (fun i => by exact hm 1 i (by decide) (by decide))
  revert h1
  generalize nw σ 50 (Int.toNat (max 0 x1)) = τ1
  intro h1
  refine pGo (s_putF (j := 0) pc8 fw_X8_15 dX8_init_14 (Mk.obB h1) rfl (by decide) (by decide) rfl rfl rfl (Or.inr ⟨_, rfl⟩) rfl) ?_
  have h2 : Mk (B ++ (8, 1) :: [(50, (Int.toNat (max 0 x1)))]) m (fs1 τ1 ((B.length : Nat) : Int) 8 0) := Mk.fs h1
  revert h2
  generalize fs1 τ1 ((B.length : Nat) : Int) 8 0 = τ2
  intro h2
  refine pGo (s_aload_n dX8_init_17 rfl (by omega)) ?_
  refine pGo (s_iload_n dX8_init_18 rfl) ?_
  refine pGoE (y := (((B.length : Nat) : Int) + 2)) (s_newaI ac_int (by omega) dX8_init_19) (Mk.len h2 rfl) ?_
  have h3 : Mk (B ++ (8, 1) :: [(50, (Int.toNat (max 0 x1))), (50, (Int.toNat (max 0 x1)))]) m (nw τ2 50 (Int.toNat (max 0 x1))) := Mk.nw h2 (k := 2) rfl (by decide) (fun i => by exact hm 2 i (by decide) (by decide))
  revert h3
  generalize nw τ2 50 (Int.toNat (max 0 x1)) = τ3
  intro h3
  refine pGo (s_putF (j := 1) pc8 fw_X8_21 dX8_init_21 (Mk.obB h3) rfl (by decide) (by decide) rfl rfl rfl (Or.inr ⟨_, rfl⟩) rfl) ?_
  have h4 : Mk (B ++ (8, 2) :: [(50, (Int.toNat (max 0 x1))), (50, (Int.toNat (max 0 x1)))]) m (fs1 τ3 ((B.length : Nat) : Int) 8 1) := Mk.fs h3
  revert h4
  generalize fs1 τ3 ((B.length : Nat) : Int) 8 1 = τ4
  intro h4
  refine pGo (s_aload_n dX8_init_24 rfl (by omega)) ?_
  refine pGo (s_iload_n dX8_init_25 rfl) ?_
  refine pGoE (y := (((B.length : Nat) : Int) + 3)) (s_newaI ac_int (by omega) dX8_init_26) (Mk.len h4 rfl) ?_
  have h5 : Mk (B ++ (8, 2) :: [(50, (Int.toNat (max 0 x1))), (50, (Int.toNat (max 0 x1))), (50, (Int.toNat (max 0 x1)))]) m (nw τ4 50 (Int.toNat (max 0 x1))) := Mk.nw h4 (k := 3) rfl (by decide) (fun i => by exact hm 3 i (by decide) (by decide))
  revert h5
  generalize nw τ4 50 (Int.toNat (max 0 x1)) = τ5
  intro h5
  refine pGo (s_putF (j := 2) pc8 fw_X8_24 dX8_init_28 (Mk.obB h5) rfl (by decide) (by decide) rfl rfl rfl (Or.inr ⟨_, rfl⟩) rfl) ?_
  have h6 : Mk (B ++ (8, 3) :: [(50, (Int.toNat (max 0 x1))), (50, (Int.toNat (max 0 x1))), (50, (Int.toNat (max 0 x1)))]) m (fs1 τ5 ((B.length : Nat) : Int) 8 2) := Mk.fs h5
  revert h6
  generalize fs1 τ5 ((B.length : Nat) : Int) 8 2 = τ6
  intro h6
  refine pGo (s_aload_n dX8_init_31 rfl (by omega)) ?_
  refine pGo (s_iload_n dX8_init_32 rfl) ?_
  refine pGoE (y := (((B.length : Nat) : Int) + 4)) (s_newaI ac_int (by omega) dX8_init_33) (Mk.len h6 rfl) ?_
  have h7 : Mk (B ++ (8, 3) :: [(50, (Int.toNat (max 0 x1))), (50, (Int.toNat (max 0 x1))), (50, (Int.toNat (max 0 x1))), (50, (Int.toNat (max 0 x1)))]) m (nw τ6 50 (Int.toNat (max 0 x1))) := Mk.nw h6 (k := 4) rfl (by decide) (fun i => by exact hm 4 i (by decide) (by decide))
  revert h7
  generalize nw τ6 50 (Int.toNat (max 0 x1)) = τ7
  intro h7
  refine pGo (s_putF (j := 3) pc8 fw_X8_27 dX8_init_35 (Mk.obB h7) rfl (by decide) (by decide) rfl rfl rfl (Or.inr ⟨_, rfl⟩) rfl) ?_
  have h8 : Mk (B ++ (8, 4) :: [(50, (Int.toNat (max 0 x1))), (50, (Int.toNat (max 0 x1))), (50, (Int.toNat (max 0 x1))), (50, (Int.toNat (max 0 x1)))]) m (fs1 τ7 ((B.length : Nat) : Int) 8 3) := Mk.fs h7
  revert h8
  generalize fs1 τ7 ((B.length : Nat) : Int) 8 3 = τ8
  intro h8
  refine pGo (s_aload_n dX8_init_38 rfl (by omega)) ?_
  refine pGo (s_iload_n dX8_init_39 rfl) ?_
  refine pGoE (y := (((B.length : Nat) : Int) + 5)) (s_newaI ac_int (by omega) dX8_init_40) (Mk.len h8 rfl) ?_
  have h9 : Mk (B ++ (8, 4) :: [(50, (Int.toNat (max 0 x1))), (50, (Int.toNat (max 0 x1))), (50, (Int.toNat (max 0 x1))), (50, (Int.toNat (max 0 x1))), (50, (Int.toNat (max 0 x1)))]) m (nw τ8 50 (Int.toNat (max 0 x1))) := Mk.nw h8 (k := 5) rfl (by decide) (fun i => by exact hm 5 i (by decide) (by decide))
  revert h9
  generalize nw τ8 50 (Int.toNat (max 0 x1)) = τ9
  intro h9
  refine pGo (s_putF (j := 4) pc8 fw_X8_30 dX8_init_42 (Mk.obB h9) rfl (by decide) (by decide) rfl rfl rfl (Or.inr ⟨_, rfl⟩) rfl) ?_
  have h10 : Mk (B ++ (8, 5) :: [(50, (Int.toNat (max 0 x1))), (50, (Int.toNat (max 0 x1))), (50, (Int.toNat (max 0 x1))), (50, (Int.toNat (max 0 x1))), (50, (Int.toNat (max 0 x1)))]) m (fs1 τ9 ((B.length : Nat) : Int) 8 4) := Mk.fs h9
  revert h10
  generalize fs1 τ9 ((B.length : Nat) : Int) 8 4 = τ10
  intro h10
  exact pEnd (r := none) dX8_init_45 rfl (k1 _ h10)
set_option maxRecDepth 100000 in
theorem g_X9_init_0 {d : Nat} {σ : pS} {Q : Option pV → pS → Prop} (hd : 1 ≤ d) {B : List (Nat × Nat)} {m : Int → Int → Int}  (h0 : Mk (B ++ [(9, 0)]) m σ) (hm : ∀ k i : Int, 1 ≤ k → k ≤ 3 → m (((B.length : Nat) : Int) + k) i = 0) (k1 : ∀ τ, Mk (B ++ (9, 3) :: [(50, 1401), (50, 1401), (53, 1401)]) (wrm m ((B.length : Nat) : Int) 6 (-1)) τ → Q none τ) : pC mX9_init d [(2, ((B.length : Nat) : Int))] σ Q := by
  show pR mX9_init d 0 [(2, ((B.length : Nat) : Int))] [] σ Q
  refine pGo (s_aload_n dX9_init_0 rfl (by omega)) ?_
  refine pGo (s_objInit (by omega) hd ol_X9_3 ow_inst ow_code (Nat.le_of_ble_eq_true rfl) dX9_init_1) ?_
  refine pGo (s_aload_n dX9_init_4 rfl (by omega)) ?_
  refine pGo (s_sipush dX9_init_5 (by decide)) ?_
  refine pGoE (y := (((B.length : Nat) : Int) + 1)) (s_newaI ac_int (by decide) dX9_init_8) (Mk.len h0 rfl) ?_
  have h1 : Mk (B ++ (9, 0) :: [(50, 1401)]) m (nw σ 50 (Int.toNat 1401)) := Mk.nw h0 (k := 1) rfl (by decide) (fun i => by exact hm 1 i (by decide) (by decide))
  revert h1
  generalize nw σ 50 (Int.toNat 1401) = τ1
  intro h1
  refine pGo (s_putF (j := 0) pc9 fw_X9_9 dX9_init_10 (Mk.obB h1) rfl (by decide) (by decide) rfl rfl rfl (Or.inr ⟨_, rfl⟩) rfl) ?_
  have h2 : Mk (B ++ (9, 1) :: [(50, 1401)]) m (fs1 τ1 ((B.length : Nat) : Int) 9 0) := Mk.fs h1
  revert h2
  generalize fs1 τ1 ((B.length : Nat) : Int) 9 0 = τ2
  intro h2
  refine pGo (s_aload_n dX9_init_13 rfl (by omega)) ?_
  refine pGo (s_sipush dX9_init_14 (by decide)) ?_
  refine pGoE (y := (((B.length : Nat) : Int) + 2)) (s_newaI ac_int (by decide) dX9_init_17) (Mk.len h2 rfl) ?_
  have h3 : Mk (B ++ (9, 1) :: [(50, 1401), (50, 1401)]) m (nw τ2 50 (Int.toNat 1401)) := Mk.nw h2 (k := 2) rfl (by decide) (fun i => by exact hm 2 i (by decide) (by decide))
  revert h3
  generalize nw τ2 50 (Int.toNat 1401) = τ3
  intro h3
  refine pGo (s_putF (j := 1) pc9 fw_X9_15 dX9_init_19 (Mk.obB h3) rfl (by decide) (by decide) rfl rfl rfl (Or.inr ⟨_, rfl⟩) rfl) ?_
  have h4 : Mk (B ++ (9, 2) :: [(50, 1401), (50, 1401)]) m (fs1 τ3 ((B.length : Nat) : Int) 9 1) := Mk.fs h3
  revert h4
  generalize fs1 τ3 ((B.length : Nat) : Int) 9 1 = τ4
  intro h4
  refine pGo (s_aload_n dX9_init_22 rfl (by omega)) ?_
  refine pGo (s_sipush dX9_init_23 (by decide)) ?_
  refine pGoE (y := (((B.length : Nat) : Int) + 3)) (s_newaJ ac_long (by decide) dX9_init_26) (Mk.len h4 rfl) ?_
  have h5 : Mk (B ++ (9, 2) :: [(50, 1401), (50, 1401), (53, 1401)]) m (nw τ4 53 (Int.toNat 1401)) := Mk.nw h4 (k := 3) rfl (by decide) (fun i => by exact hm 3 i (by decide) (by decide))
  revert h5
  generalize nw τ4 53 (Int.toNat 1401) = τ5
  intro h5
  refine pGo (s_putF (j := 2) pc9 fw_X9_18 dX9_init_28 (Mk.obB h5) rfl (by decide) (by decide) rfl rfl rfl (Or.inr ⟨_, rfl⟩) rfl) ?_
  have h6 : Mk (B ++ (9, 3) :: [(50, 1401), (50, 1401), (53, 1401)]) m (fs1 τ5 ((B.length : Nat) : Int) 9 2) := Mk.fs h5
  revert h6
  generalize fs1 τ5 ((B.length : Nat) : Int) 9 2 = τ6
  intro h6
  refine pGo (s_aload_n dX9_init_31 rfl (by omega)) ?_
  refine pGo (s_iconst dX9_init_32) ?_
  refine pGo (s_putI pc9 fl_X9_22 dX9_init_33 (Mk.obB h6) rfl rfl rfl rfl) ?_
  have h7 : Mk (B ++ (9, 3) :: [(50, 1401), (50, 1401), (53, 1401)]) (wrm m ((B.length : Nat) : Int) 6 (-1)) (wr τ6 ((B.length : Nat) : Int) 6 (-1)) := Mk.wr h6
  revert h7
  generalize wr τ6 ((B.length : Nat) : Int) 6 (-1) = τ7
  intro h7
  exact pEnd (r := none) dX9_init_36 rfl (k1 _ h7)
