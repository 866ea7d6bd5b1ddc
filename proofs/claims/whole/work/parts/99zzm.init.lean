/-! the reference's object, up to its loop -/
set_option maxRecDepth 100000 in
theorem g_X11_init_0 {d : Nat} {σ : pS} {Q : Option pV → pS → Prop} (hd : 1 ≤ d) {B : List (Nat × Nat)} {m : Int → Int → Int}  (h0 : Mk (B ++ [(11, 0)]) m σ) (hm : ∀ k i : Int, 1 ≤ k → k ≤ 72 → m (((B.length : Nat) : Int) + k) i = 0) (k1 : ∀ τ, Mk (B ++ (11, 72) :: [(50, 1400), (53, 13), (50, 13), (50, 13), (50, 13), (50, 13), (50, 13), (50, 13), (50, 13), (50, 13), (50, 13), (50, 13), (50, 13), (50, 13), (52, 6), (52, 6), (50, 600), (50, 600), (50, 2), (50, 2), (50, 600), (50, 600), (50, 2), (50, 2), (52, 2), (52, 2), (50, 300), (50, 60), (50, 60), (50, 60), (50, 60), (50, 60), (50, 8), (50, 8), (50, 60), (50, 6266), (52, 104), (50, 10), (50, 8), (50, 100), (50, 100), (50, 100), (50, 100), (50, 100), (50, 601), (50, 602), (52, 6010), (52, 6010), (52, 6010), (50, 20), (50, 20), (50, 60), (50, 10), (50, 10), (50, 7), (50, 10), (50, 6), (50, 5410), (50, 7), (50, 13), (50, 6), (50, 4800), (50, 4800), (50, 3360), (50, 100), (50, 8), (50, 8), (50, 8), (50, 8), (50, 8), (50, 7), (50, 8)]) (wrm m ((B.length : Nat) : Int) 3 (-1)) τ → pR mX11_init d 597 [(2, ((B.length : Nat) : Int)), (0, 0)] [] τ Q) : pC mX11_init d [(2, ((B.length : Nat) : Int))] σ Q := by
  show pR mX11_init d 0 [(2, ((B.length : Nat) : Int)), (9, 0)] [] σ Q
  refine pGo (s_aload_n dX11_init_0 rfl (by omega)) ?_
  refine pGo (s_objInit (by omega) hd ol_X11_1 ow_inst ow_code (Nat.le_of_ble_eq_true rfl) dX11_init_1) ?_
  refine pGo (s_aload_n dX11_init_4 rfl (by omega)) ?_
  refine pGo (s_sipush dX11_init_5 (by decide)) ?_
  refine pGoE (y := (((B.length : Nat) : Int) + 1)) (s_newaI ac_int (by decide) dX11_init_8) (Mk.len h0 rfl) ?_
  have h1 : Mk (B ++ (11, 0) :: [(50, 1400)]) m (nw σ 50 (Int.toNat 1400)) := Mk.nw h0 (k := 1) rfl (by decide) (fun i => by exact hm 1 i (by decide) (by decide))
  revert h1
  generalize nw σ 50 (Int.toNat 1400) = τ1
  intro h1
  refine pGo (s_putF (j := 0) pc11 fw_X11_7 dX11_init_10 (Mk.obB h1) rfl (by decide) (by decide) rfl rfl rfl (Or.inr ⟨_, rfl⟩) rfl) ?_
  have h2 : Mk (B ++ (11, 1) :: [(50, 1400)]) m (fs1 τ1 ((B.length : Nat) : Int) 11 0) := Mk.fs h1
  revert h2
  generalize fs1 τ1 ((B.length : Nat) : Int) 11 0 = τ2
  intro h2
  refine pGo (s_aload_n dX11_init_13 rfl (by omega)) ?_
  refine pGo (s_iconst dX11_init_14) ?_
  refine pGo (s_putI pc11 fl_X11_13 dX11_init_15 (Mk.obB h2) rfl rfl rfl rfl) ?_
  have h3 : Mk (B ++ (11, 1) :: [(50, 1400)]) (wrm m ((B.length : Nat) : Int) 3 (-1)) (wr τ2 ((B.length : Nat) : Int) 3 (-1)) := Mk.wr h2
  revert h3
  generalize wr τ2 ((B.length : Nat) : Int) 3 (-1) = τ3
  intro h3
  refine pGo (s_aload_n dX11_init_18 rfl (by omega)) ?_
  refine pGo (s_bipush dX11_init_19 (by decide)) ?_
  refine pGoE (y := (((B.length : Nat) : Int) + 2)) (s_newaJ ac_long (by decide) dX11_init_21) (Mk.len h3 rfl) ?_
  have h4 : Mk (B ++ (11, 1) :: [(50, 1400), (53, 13)]) (wrm m ((B.length : Nat) : Int) 3 (-1)) (nw τ3 53 (Int.toNat 13)) := Mk.nw h3 (k := 2) rfl (by decide) (fun i => by rw [wrm_n (by omega)]; exact hm 2 i (by decide) (by decide))
  revert h4
  generalize nw τ3 53 (Int.toNat 13) = τ4
  intro h4
  refine pGo (s_putF (j := 10) pc11 fw_X11_17 dX11_init_23 (Mk.obB h4) rfl (by decide) (by decide) rfl rfl rfl (Or.inr ⟨_, rfl⟩) rfl) ?_
  have h5 : Mk (B ++ (11, 2) :: [(50, 1400), (53, 13)]) (wrm m ((B.length : Nat) : Int) 3 (-1)) (fs1 τ4 ((B.length : Nat) : Int) 11 1) := Mk.fs h4
  revert h5
  generalize fs1 τ4 ((B.length : Nat) : Int) 11 1 = τ5
  intro h5
  refine pGo (s_aload_n dX11_init_26 rfl (by omega)) ?_
  refine pGo (s_bipush dX11_init_27 (by decide)) ?_
  refine pGoE (y := (((B.length : Nat) : Int) + 3)) (s_newaI ac_int (by decide) dX11_init_29) (Mk.len h5 rfl) ?_
  have h6 : Mk (B ++ (11, 2) :: [(50, 1400), (53, 13), (50, 13)]) (wrm m ((B.length : Nat) : Int) 3 (-1)) (nw τ5 50 (Int.toNat 13)) := Mk.nw h5 (k := 3) rfl (by decide) (fun i => by rw [wrm_n (by omega)]; exact hm 3 i (by decide) (by decide))
  revert h6
  generalize nw τ5 50 (Int.toNat 13) = τ6
  intro h6
  refine pGo (s_putF (j := 11) pc11 fw_X11_21 dX11_init_31 (Mk.obB h6) rfl (by decide) (by decide) rfl rfl rfl (Or.inr ⟨_, rfl⟩) rfl) ?_
  have h7 : Mk (B ++ (11, 3) :: [(50, 1400), (53, 13), (50, 13)]) (wrm m ((B.length : Nat) : Int) 3 (-1)) (fs1 τ6 ((B.length : Nat) : Int) 11 2) := Mk.fs h6
  revert h7
  generalize fs1 τ6 ((B.length : Nat) : Int) 11 2 = τ7
  intro h7
  refine pGo (s_aload_n dX11_init_34 rfl (by omega)) ?_
  refine pGo (s_bipush dX11_init_35 (by decide)) ?_
  refine pGoE (y := (((B.length : Nat) : Int) + 4)) (s_newaI ac_int (by decide) dX11_init_37) (Mk.len h7 rfl) ?_
  have h8 : Mk (B ++ (11, 3) :: [(50, 1400), (53, 13), (50, 13), (50, 13)]) (wrm m ((B.length : Nat) : Int) 3 (-1)) (nw τ7 50 (Int.toNat 13)) := Mk.nw h7 (k := 4) rfl (by decide) (fun i => by rw [wrm_n (by omega)]; exact hm 4 i (by decide) (by decide))
  revert h8
  generalize nw τ7 50 (Int.toNat 13) = τ8
  intro h8
  refine pGo (s_putF (j := 12) pc11 fw_X11_24 dX11_init_39 (Mk.obB h8) rfl (by decide) (by decide) rfl rfl rfl (Or.inr ⟨_, rfl⟩) rfl) ?_
  have h9 : Mk (B ++ (11, 4) :: [(50, 1400), (53, 13), (50, 13), (50, 13)]) (wrm m ((B.length : Nat) : Int) 3 (-1)) (fs1 τ8 ((B.length : Nat) : Int) 11 3) := Mk.fs h8
  revert h9
  generalize fs1 τ8 ((B.length : Nat) : Int) 11 3 = τ9
  intro h9
  refine pGo (s_aload_n dX11_init_42 rfl (by omega)) ?_
  refine pGo (s_bipush dX11_init_43 (by decide)) ?_
  refine pGoE (y := (((B.length : Nat) : Int) + 5)) (s_newaI ac_int (by decide) dX11_init_45) (Mk.len h9 rfl) ?_
  have h10 : Mk (B ++ (11, 4) :: [(50, 1400), (53, 13), (50, 13), (50, 13), (50, 13)]) (wrm m ((B.length : Nat) : Int) 3 (-1)) (nw τ9 50 (Int.toNat 13)) := Mk.nw h9 (k := 5) rfl (by decide) (fun i => by rw [wrm_n (by omega)]; exact hm 5 i (by decide) (by decide))
  revert h10
  generalize nw τ9 50 (Int.toNat 13) = τ10
  intro h10
  refine pGo (s_putF (j := 13) pc11 fw_X11_27 dX11_init_47 (Mk.obB h10) rfl (by decide) (by decide) rfl rfl rfl (Or.inr ⟨_, rfl⟩) rfl) ?_
  have h11 : Mk (B ++ (11, 5) :: [(50, 1400), (53, 13), (50, 13), (50, 13), (50, 13)]) (wrm m ((B.length : Nat) : Int) 3 (-1)) (fs1 τ10 ((B.length : Nat) : Int) 11 4) := Mk.fs h10
  revert h11
  generalize fs1 τ10 ((B.length : Nat) : Int) 11 4 = τ11
  intro h11
  refine pGo (s_aload_n dX11_init_50 rfl (by omega)) ?_
  refine pGo (s_bipush dX11_init_51 (by decide)) ?_
  refine pGoE (y := (((B.length : Nat) : Int) + 6)) (s_newaI ac_int (by decide) dX11_init_53) (Mk.len h11 rfl) ?_
  have h12 : Mk (B ++ (11, 5) :: [(50, 1400), (53, 13), (50, 13), (50, 13), (50, 13), (50, 13)]) (wrm m ((B.length : Nat) : Int) 3 (-1)) (nw τ11 50 (Int.toNat 13)) := Mk.nw h11 (k := 6) rfl (by decide) (fun i => by rw [wrm_n (by omega)]; exact hm 6 i (by decide) (by decide))
  revert h12
  generalize nw τ11 50 (Int.toNat 13) = τ12
  intro h12
  refine pGo (s_putF (j := 14) pc11 fw_X11_30 dX11_init_55 (Mk.obB h12) rfl (by decide) (by decide) rfl rfl rfl (Or.inr ⟨_, rfl⟩) rfl) ?_
  have h13 : Mk (B ++ (11, 6) :: [(50, 1400), (53, 13), (50, 13), (50, 13), (50, 13), (50, 13)]) (wrm m ((B.length : Nat) : Int) 3 (-1)) (fs1 τ12 ((B.length : Nat) : Int) 11 5) := Mk.fs h12
  revert h13
  generalize fs1 τ12 ((B.length : Nat) : Int) 11 5 = τ13
  intro h13
  refine pGo (s_aload_n dX11_init_58 rfl (by omega)) ?_
  refine pGo (s_bipush dX11_init_59 (by decide)) ?_
  refine pGoE (y := (((B.length : Nat) : Int) + 7)) (s_newaI ac_int (by decide) dX11_init_61) (Mk.len h13 rfl) ?_
  have h14 : Mk (B ++ (11, 6) :: [(50, 1400), (53, 13), (50, 13), (50, 13), (50, 13), (50, 13), (50, 13)]) (wrm m ((B.length : Nat) : Int) 3 (-1)) (nw τ13 50 (Int.toNat 13)) := Mk.nw h13 (k := 7) rfl (by decide) (fun i => by rw [wrm_n (by omega)]; exact hm 7 i (by decide) (by decide))
  revert h14
  generalize nw τ13 50 (Int.toNat 13) = τ14
  intro h14
  refine pGo (s_putF (j := 15) pc11 fw_X11_33 dX11_init_63 (Mk.obB h14) rfl (by decide) (by decide) rfl rfl rfl (Or.inr ⟨_, rfl⟩) rfl) ?_
  have h15 : Mk (B ++ (11, 7) :: [(50, 1400), (53, 13), (50, 13), (50, 13), (50, 13), (50, 13), (50, 13)]) (wrm m ((B.length : Nat) : Int) 3 (-1)) (fs1 τ14 ((B.length : Nat) : Int) 11 6) := Mk.fs h14
  revert h15
  generalize fs1 τ14 ((B.length : Nat) : Int) 11 6 = τ15
  intro h15
  refine pGo (s_aload_n dX11_init_66 rfl (by omega)) ?_
  refine pGo (s_bipush dX11_init_67 (by decide)) ?_
  refine pGoE (y := (((B.length : Nat) : Int) + 8)) (s_newaI ac_int (by decide) dX11_init_69) (Mk.len h15 rfl) ?_
  have h16 : Mk (B ++ (11, 7) :: [(50, 1400), (53, 13), (50, 13), (50, 13), (50, 13), (50, 13), (50, 13), (50, 13)]) (wrm m ((B.length : Nat) : Int) 3 (-1)) (nw τ15 50 (Int.toNat 13)) := Mk.nw h15 (k := 8) rfl (by decide) (fun i => by rw [wrm_n (by omega)]; exact hm 8 i (by decide) (by decide))
  revert h16
  generalize nw τ15 50 (Int.toNat 13) = τ16
  intro h16
  refine pGo (s_putF (j := 16) pc11 fw_X11_36 dX11_init_71 (Mk.obB h16) rfl (by decide) (by decide) rfl rfl rfl (Or.inr ⟨_, rfl⟩) rfl) ?_
  have h17 : Mk (B ++ (11, 8) :: [(50, 1400), (53, 13), (50, 13), (50, 13), (50, 13), (50, 13), (50, 13), (50, 13)]) (wrm m ((B.length : Nat) : Int) 3 (-1)) (fs1 τ16 ((B.length : Nat) : Int) 11 7) := Mk.fs h16
  revert h17
  generalize fs1 τ16 ((B.length : Nat) : Int) 11 7 = τ17
  intro h17
  refine pGo (s_aload_n dX11_init_74 rfl (by omega)) ?_
  refine pGo (s_bipush dX11_init_75 (by decide)) ?_
  refine pGoE (y := (((B.length : Nat) : Int) + 9)) (s_newaI ac_int (by decide) dX11_init_77) (Mk.len h17 rfl) ?_
  have h18 : Mk (B ++ (11, 8) :: [(50, 1400), (53, 13), (50, 13), (50, 13), (50, 13), (50, 13), (50, 13), (50, 13), (50, 13)]) (wrm m ((B.length : Nat) : Int) 3 (-1)) (nw τ17 50 (Int.toNat 13)) := Mk.nw h17 (k := 9) rfl (by decide) (fun i => by rw [wrm_n (by omega)]; exact hm 9 i (by decide) (by decide))
  revert h18
  generalize nw τ17 50 (Int.toNat 13) = τ18
  intro h18
  refine pGo (s_putF (j := 22) pc11 fw_X11_39 dX11_init_79 (Mk.obB h18) rfl (by decide) (by decide) rfl rfl rfl (Or.inr ⟨_, rfl⟩) rfl) ?_
  have h19 : Mk (B ++ (11, 9) :: [(50, 1400), (53, 13), (50, 13), (50, 13), (50, 13), (50, 13), (50, 13), (50, 13), (50, 13)]) (wrm m ((B.length : Nat) : Int) 3 (-1)) (fs1 τ18 ((B.length : Nat) : Int) 11 8) := Mk.fs h18
  revert h19
  generalize fs1 τ18 ((B.length : Nat) : Int) 11 8 = τ19
  intro h19
  refine pGo (s_aload_n dX11_init_82 rfl (by omega)) ?_
  refine pGo (s_bipush dX11_init_83 (by decide)) ?_
  refine pGoE (y := (((B.length : Nat) : Int) + 10)) (s_newaI ac_int (by decide) dX11_init_85) (Mk.len h19 rfl) ?_
  have h20 : Mk (B ++ (11, 9) :: [(50, 1400), (53, 13), (50, 13), (50, 13), (50, 13), (50, 13), (50, 13), (50, 13), (50, 13), (50, 13)]) (wrm m ((B.length : Nat) : Int) 3 (-1)) (nw τ19 50 (Int.toNat 13)) := Mk.nw h19 (k := 10) rfl (by decide) (fun i => by rw [wrm_n (by omega)]; exact hm 10 i (by decide) (by decide))
  revert h20
  generalize nw τ19 50 (Int.toNat 13) = τ20
  intro h20
  refine pGo (s_putF (j := 23) pc11 fw_X11_42 dX11_init_87 (Mk.obB h20) rfl (by decide) (by decide) rfl rfl rfl (Or.inr ⟨_, rfl⟩) rfl) ?_
  have h21 : Mk (B ++ (11, 10) :: [(50, 1400), (53, 13), (50, 13), (50, 13), (50, 13), (50, 13), (50, 13), (50, 13), (50, 13), (50, 13)]) (wrm m ((B.length : Nat) : Int) 3 (-1)) (fs1 τ20 ((B.length : Nat) : Int) 11 9) := Mk.fs h20
  revert h21
  generalize fs1 τ20 ((B.length : Nat) : Int) 11 9 = τ21
  intro h21
  refine pGo (s_aload_n dX11_init_90 rfl (by omega)) ?_
  refine pGo (s_bipush dX11_init_91 (by decide)) ?_
  refine pGoE (y := (((B.length : Nat) : Int) + 11)) (s_newaI ac_int (by decide) dX11_init_93) (Mk.len h21 rfl) ?_
  have h22 : Mk (B ++ (11, 10) :: [(50, 1400), (53, 13), (50, 13), (50, 13), (50, 13), (50, 13), (50, 13), (50, 13), (50, 13), (50, 13), (50, 13)]) (wrm m ((B.length : Nat) : Int) 3 (-1)) (nw τ21 50 (Int.toNat 13)) := Mk.nw h21 (k := 11) rfl (by decide) (fun i => by rw [wrm_n (by omega)]; exact hm 11 i (by decide) (by decide))
  revert h22
  generalize nw τ21 50 (Int.toNat 13) = τ22
  intro h22
  refine pGo (s_putF (j := 24) pc11 fw_X11_45 dX11_init_95 (Mk.obB h22) rfl (by decide) (by decide) rfl rfl rfl (Or.inr ⟨_, rfl⟩) rfl) ?_
  have h23 : Mk (B ++ (11, 11) :: [(50, 1400), (53, 13), (50, 13), (50, 13), (50, 13), (50, 13), (50, 13), (50, 13), (50, 13), (50, 13), (50, 13)]) (wrm m ((B.length : Nat) : Int) 3 (-1)) (fs1 τ22 ((B.length : Nat) : Int) 11 10) := Mk.fs h22
  revert h23
  generalize fs1 τ22 ((B.length : Nat) : Int) 11 10 = τ23
  intro h23
  refine pGo (s_aload_n dX11_init_98 rfl (by omega)) ?_
  refine pGo (s_bipush dX11_init_99 (by decide)) ?_
  refine pGoE (y := (((B.length : Nat) : Int) + 12)) (s_newaI ac_int (by decide) dX11_init_101) (Mk.len h23 rfl) ?_
  have h24 : Mk (B ++ (11, 11) :: [(50, 1400), (53, 13), (50, 13), (50, 13), (50, 13), (50, 13), (50, 13), (50, 13), (50, 13), (50, 13), (50, 13), (50, 13)]) (wrm m ((B.length : Nat) : Int) 3 (-1)) (nw τ23 50 (Int.toNat 13)) := Mk.nw h23 (k := 12) rfl (by decide) (fun i => by rw [wrm_n (by omega)]; exact hm 12 i (by decide) (by decide))
  revert h24
  generalize nw τ23 50 (Int.toNat 13) = τ24
  intro h24
  refine pGo (s_putF (j := 25) pc11 fw_X11_48 dX11_init_103 (Mk.obB h24) rfl (by decide) (by decide) rfl rfl rfl (Or.inr ⟨_, rfl⟩) rfl) ?_
  have h25 : Mk (B ++ (11, 12) :: [(50, 1400), (53, 13), (50, 13), (50, 13), (50, 13), (50, 13), (50, 13), (50, 13), (50, 13), (50, 13), (50, 13), (50, 13)]) (wrm m ((B.length : Nat) : Int) 3 (-1)) (fs1 τ24 ((B.length : Nat) : Int) 11 11) := Mk.fs h24
  revert h25
  generalize fs1 τ24 ((B.length : Nat) : Int) 11 11 = τ25
  intro h25
  refine pGo (s_aload_n dX11_init_106 rfl (by omega)) ?_
  refine pGo (s_bipush dX11_init_107 (by decide)) ?_
  refine pGoE (y := (((B.length : Nat) : Int) + 13)) (s_newaI ac_int (by decide) dX11_init_109) (Mk.len h25 rfl) ?_
  have h26 : Mk (B ++ (11, 12) :: [(50, 1400), (53, 13), (50, 13), (50, 13), (50, 13), (50, 13), (50, 13), (50, 13), (50, 13), (50, 13), (50, 13), (50, 13), (50, 13)]) (wrm m ((B.length : Nat) : Int) 3 (-1)) (nw τ25 50 (Int.toNat 13)) := Mk.nw h25 (k := 13) rfl (by decide) (fun i => by rw [wrm_n (by omega)]; exact hm 13 i (by decide) (by decide))
  revert h26
  generalize nw τ25 50 (Int.toNat 13) = τ26
  intro h26
  refine pGo (s_putF (j := 26) pc11 fw_X11_51 dX11_init_111 (Mk.obB h26) rfl (by decide) (by decide) rfl rfl rfl (Or.inr ⟨_, rfl⟩) rfl) ?_
  have h27 : Mk (B ++ (11, 13) :: [(50, 1400), (53, 13), (50, 13), (50, 13), (50, 13), (50, 13), (50, 13), (50, 13), (50, 13), (50, 13), (50, 13), (50, 13), (50, 13)]) (wrm m ((B.length : Nat) : Int) 3 (-1)) (fs1 τ26 ((B.length : Nat) : Int) 11 12) := Mk.fs h26
  revert h27
  generalize fs1 τ26 ((B.length : Nat) : Int) 11 12 = τ27
  intro h27
  refine pGo (s_aload_n dX11_init_114 rfl (by omega)) ?_
  refine pGo (s_bipush dX11_init_115 (by decide)) ?_
  refine pGoE (y := (((B.length : Nat) : Int) + 14)) (s_newaI ac_int (by decide) dX11_init_117) (Mk.len h27 rfl) ?_
  have h28 : Mk (B ++ (11, 13) :: [(50, 1400), (53, 13), (50, 13), (50, 13), (50, 13), (50, 13), (50, 13), (50, 13), (50, 13), (50, 13), (50, 13), (50, 13), (50, 13), (50, 13)]) (wrm m ((B.length : Nat) : Int) 3 (-1)) (nw τ27 50 (Int.toNat 13)) := Mk.nw h27 (k := 14) rfl (by decide) (fun i => by rw [wrm_n (by omega)]; exact hm 14 i (by decide) (by decide))
  revert h28
  generalize nw τ27 50 (Int.toNat 13) = τ28
  intro h28
  refine pGo (s_putF (j := 27) pc11 fw_X11_54 dX11_init_119 (Mk.obB h28) rfl (by decide) (by decide) rfl rfl rfl (Or.inr ⟨_, rfl⟩) rfl) ?_
  have h29 : Mk (B ++ (11, 14) :: [(50, 1400), (53, 13), (50, 13), (50, 13), (50, 13), (50, 13), (50, 13), (50, 13), (50, 13), (50, 13), (50, 13), (50, 13), (50, 13), (50, 13)]) (wrm m ((B.length : Nat) : Int) 3 (-1)) (fs1 τ28 ((B.length : Nat) : Int) 11 13) := Mk.fs h28
  revert h29
  generalize fs1 τ28 ((B.length : Nat) : Int) 11 13 = τ29
  intro h29
  refine pGo (s_aload_n dX11_init_122 rfl (by omega)) ?_
  refine pGo (s_bipush dX11_init_123 (by decide)) ?_
  refine pGoE (y := (((B.length : Nat) : Int) + 15)) (s_newaZ ac_boolean (by decide) dX11_init_125) (Mk.len h29 rfl) ?_
  have h30 : Mk (B ++ (11, 14) :: [(50, 1400), (53, 13), (50, 13), (50, 13), (50, 13), (50, 13), (50, 13), (50, 13), (50, 13), (50, 13), (50, 13), (50, 13), (50, 13), (50, 13), (52, 6)]) (wrm m ((B.length : Nat) : Int) 3 (-1)) (nw τ29 52 (Int.toNat 6)) := Mk.nw h29 (k := 15) rfl (by decide) (fun i => by rw [wrm_n (by omega)]; exact hm 15 i (by decide) (by decide))
  revert h30
  generalize nw τ29 52 (Int.toNat 6) = τ30
  intro h30
  refine pGo (s_putF (j := 28) pc11 fw_X11_57 dX11_init_127 (Mk.obB h30) rfl (by decide) (by decide) rfl rfl rfl (Or.inr ⟨_, rfl⟩) rfl) ?_
  have h31 : Mk (B ++ (11, 15) :: [(50, 1400), (53, 13), (50, 13), (50, 13), (50, 13), (50, 13), (50, 13), (50, 13), (50, 13), (50, 13), (50, 13), (50, 13), (50, 13), (50, 13), (52, 6)]) (wrm m ((B.length : Nat) : Int) 3 (-1)) (fs1 τ30 ((B.length : Nat) : Int) 11 14) := Mk.fs h30
  revert h31
  generalize fs1 τ30 ((B.length : Nat) : Int) 11 14 = τ31
  intro h31
  refine pGo (s_aload_n dX11_init_130 rfl (by omega)) ?_
  refine pGo (s_bipush dX11_init_131 (by decide)) ?_
  refine pGoE (y := (((B.length : Nat) : Int) + 16)) (s_newaZ ac_boolean (by decide) dX11_init_133) (Mk.len h31 rfl) ?_
  have h32 : Mk (B ++ (11, 15) :: [(50, 1400), (53, 13), (50, 13), (50, 13), (50, 13), (50, 13), (50, 13), (50, 13), (50, 13), (50, 13), (50, 13), (50, 13), (50, 13), (50, 13), (52, 6), (52, 6)]) (wrm m ((B.length : Nat) : Int) 3 (-1)) (nw τ31 52 (Int.toNat 6)) := Mk.nw h31 (k := 16) rfl (by decide) (fun i => by rw [wrm_n (by omega)]; exact hm 16 i (by decide) (by decide))
  revert h32
  generalize nw τ31 52 (Int.toNat 6) = τ32
  intro h32
  refine pGo (s_putF (j := 29) pc11 fw_X11_61 dX11_init_135 (Mk.obB h32) rfl (by decide) (by decide) rfl rfl rfl (Or.inr ⟨_, rfl⟩) rfl) ?_
  have h33 : Mk (B ++ (11, 16) :: [(50, 1400), (53, 13), (50, 13), (50, 13), (50, 13), (50, 13), (50, 13), (50, 13), (50, 13), (50, 13), (50, 13), (50, 13), (50, 13), (50, 13), (52, 6), (52, 6)]) (wrm m ((B.length : Nat) : Int) 3 (-1)) (fs1 τ32 ((B.length : Nat) : Int) 11 15) := Mk.fs h32
  revert h33
  generalize fs1 τ32 ((B.length : Nat) : Int) 11 15 = τ33
  intro h33
  refine pGo (s_aload_n dX11_init_138 rfl (by omega)) ?_
  refine pGo (s_sipush dX11_init_139 (by decide)) ?_
  refine pGoE (y := (((B.length : Nat) : Int) + 17)) (s_newaI ac_int (by decide) dX11_init_142) (Mk.len h33 rfl) ?_
  have h34 : Mk (B ++ (11, 16) :: [(50, 1400), (53, 13), (50, 13), (50, 13), (50, 13), (50, 13), (50, 13), (50, 13), (50, 13), (50, 13), (50, 13), (50, 13), (50, 13), (50, 13), (52, 6), (52, 6), (50, 600)]) (wrm m ((B.length : Nat) : Int) 3 (-1)) (nw τ33 50 (Int.toNat 600)) := Mk.nw h33 (k := 17) rfl (by decide) (fun i => by rw [wrm_n (by omega)]; exact hm 17 i (by decide) (by decide))
  revert h34
  generalize nw τ33 50 (Int.toNat 600) = τ34
  intro h34
  refine pGo (s_putF (j := 34) pc11 fw_X11_64 dX11_init_144 (Mk.obB h34) rfl (by decide) (by decide) rfl rfl rfl (Or.inr ⟨_, rfl⟩) rfl) ?_
  have h35 : Mk (B ++ (11, 17) :: [(50, 1400), (53, 13), (50, 13), (50, 13), (50, 13), (50, 13), (50, 13), (50, 13), (50, 13), (50, 13), (50, 13), (50, 13), (50, 13), (50, 13), (52, 6), (52, 6), (50, 600)]) (wrm m ((B.length : Nat) : Int) 3 (-1)) (fs1 τ34 ((B.length : Nat) : Int) 11 16) := Mk.fs h34
  revert h35
  generalize fs1 τ34 ((B.length : Nat) : Int) 11 16 = τ35
  intro h35
  refine pGo (s_aload_n dX11_init_147 rfl (by omega)) ?_
  refine pGo (s_sipush dX11_init_148 (by decide)) ?_
  refine pGoE (y := (((B.length : Nat) : Int) + 18)) (s_newaI ac_int (by decide) dX11_init_151) (Mk.len h35 rfl) ?_
  have h36 : Mk (B ++ (11, 17) :: [(50, 1400), (53, 13), (50, 13), (50, 13), (50, 13), (50, 13), (50, 13), (50, 13), (50, 13), (50, 13), (50, 13), (50, 13), (50, 13), (50, 13), (52, 6), (52, 6), (50, 600), (50, 600)]) (wrm m ((B.length : Nat) : Int) 3 (-1)) (nw τ35 50 (Int.toNat 600)) := Mk.nw h35 (k := 18) rfl (by decide) (fun i => by rw [wrm_n (by omega)]; exact hm 18 i (by decide) (by decide))
  revert h36
  generalize nw τ35 50 (Int.toNat 600) = τ36
  intro h36
  refine pGo (s_putF (j := 35) pc11 fw_X11_67 dX11_init_153 (Mk.obB h36) rfl (by decide) (by decide) rfl rfl rfl (Or.inr ⟨_, rfl⟩) rfl) ?_
  have h37 : Mk (B ++ (11, 18) :: [(50, 1400), (53, 13), (50, 13), (50, 13), (50, 13), (50, 13), (50, 13), (50, 13), (50, 13), (50, 13), (50, 13), (50, 13), (50, 13), (50, 13), (52, 6), (52, 6), (50, 600), (50, 600)]) (wrm m ((B.length : Nat) : Int) 3 (-1)) (fs1 τ36 ((B.length : Nat) : Int) 11 17) := Mk.fs h36
  revert h37
  generalize fs1 τ36 ((B.length : Nat) : Int) 11 17 = τ37
  intro h37
  refine pGo (s_aload_n dX11_init_156 rfl (by omega)) ?_
  refine pGo (s_iconst dX11_init_157) ?_
  refine pGoE (y := (((B.length : Nat) : Int) + 19)) (s_newaI ac_int (by decide) dX11_init_158) (Mk.len h37 rfl) ?_
  have h38 : Mk (B ++ (11, 18) :: [(50, 1400), (53, 13), (50, 13), (50, 13), (50, 13), (50, 13), (50, 13), (50, 13), (50, 13), (50, 13), (50, 13), (50, 13), (50, 13), (50, 13), (52, 6), (52, 6), (50, 600), (50, 600), (50, 2)]) (wrm m ((B.length : Nat) : Int) 3 (-1)) (nw τ37 50 (Int.toNat 2)) := Mk.nw h37 (k := 19) rfl (by decide) (fun i => by rw [wrm_n (by omega)]; exact hm 19 i (by decide) (by decide))
  revert h38
  generalize nw τ37 50 (Int.toNat 2) = τ38
  intro h38
  refine pGo (s_putF (j := 36) pc11 fw_X11_70 dX11_init_160 (Mk.obB h38) rfl (by decide) (by decide) rfl rfl rfl (Or.inr ⟨_, rfl⟩) rfl) ?_
  have h39 : Mk (B ++ (11, 19) :: [(50, 1400), (53, 13), (50, 13), (50, 13), (50, 13), (50, 13), (50, 13), (50, 13), (50, 13), (50, 13), (50, 13), (50, 13), (50, 13), (50, 13), (52, 6), (52, 6), (50, 600), (50, 600), (50, 2)]) (wrm m ((B.length : Nat) : Int) 3 (-1)) (fs1 τ38 ((B.length : Nat) : Int) 11 18) := Mk.fs h38
  revert h39
  generalize fs1 τ38 ((B.length : Nat) : Int) 11 18 = τ39
  intro h39
  refine pGo (s_aload_n dX11_init_163 rfl (by omega)) ?_
  refine pGo (s_iconst dX11_init_164) ?_
  refine pGoE (y := (((B.length : Nat) : Int) + 20)) (s_newaI ac_int (by decide) dX11_init_165) (Mk.len h39 rfl) ?_
  have h40 : Mk (B ++ (11, 19) :: [(50, 1400), (53, 13), (50, 13), (50, 13), (50, 13), (50, 13), (50, 13), (50, 13), (50, 13), (50, 13), (50, 13), (50, 13), (50, 13), (50, 13), (52, 6), (52, 6), (50, 600), (50, 600), (50, 2), (50, 2)]) (wrm m ((B.length : Nat) : Int) 3 (-1)) (nw τ39 50 (Int.toNat 2)) := Mk.nw h39 (k := 20) rfl (by decide) (fun i => by rw [wrm_n (by omega)]; exact hm 20 i (by decide) (by decide))
  revert h40
  generalize nw τ39 50 (Int.toNat 2) = τ40
  intro h40
  refine pGo (s_putF (j := 37) pc11 fw_X11_73 dX11_init_167 (Mk.obB h40) rfl (by decide) (by decide) rfl rfl rfl (Or.inr ⟨_, rfl⟩) rfl) ?_
  have h41 : Mk (B ++ (11, 20) :: [(50, 1400), (53, 13), (50, 13), (50, 13), (50, 13), (50, 13), (50, 13), (50, 13), (50, 13), (50, 13), (50, 13), (50, 13), (50, 13), (50, 13), (52, 6), (52, 6), (50, 600), (50, 600), (50, 2), (50, 2)]) (wrm m ((B.length : Nat) : Int) 3 (-1)) (fs1 τ40 ((B.length : Nat) : Int) 11 19) := Mk.fs h40
  revert h41
  generalize fs1 τ40 ((B.length : Nat) : Int) 11 19 = τ41
  intro h41
  refine pGo (s_aload_n dX11_init_170 rfl (by omega)) ?_
  refine pGo (s_sipush dX11_init_171 (by decide)) ?_
  refine pGoE (y := (((B.length : Nat) : Int) + 21)) (s_newaI ac_int (by decide) dX11_init_174) (Mk.len h41 rfl) ?_
  have h42 : Mk (B ++ (11, 20) :: [(50, 1400), (53, 13), (50, 13), (50, 13), (50, 13), (50, 13), (50, 13), (50, 13), (50, 13), (50, 13), (50, 13), (50, 13), (50, 13), (50, 13), (52, 6), (52, 6), (50, 600), (50, 600), (50, 2), (50, 2), (50, 600)]) (wrm m ((B.length : Nat) : Int) 3 (-1)) (nw τ41 50 (Int.toNat 600)) := Mk.nw h41 (k := 21) rfl (by decide) (fun i => by rw [wrm_n (by omega)]; exact hm 21 i (by decide) (by decide))
  revert h42
  generalize nw τ41 50 (Int.toNat 600) = τ42
  intro h42
  refine pGo (s_putF (j := 38) pc11 fw_X11_76 dX11_init_176 (Mk.obB h42) rfl (by decide) (by decide) rfl rfl rfl (Or.inr ⟨_, rfl⟩) rfl) ?_
  have h43 : Mk (B ++ (11, 21) :: [(50, 1400), (53, 13), (50, 13), (50, 13), (50, 13), (50, 13), (50, 13), (50, 13), (50, 13), (50, 13), (50, 13), (50, 13), (50, 13), (50, 13), (52, 6), (52, 6), (50, 600), (50, 600), (50, 2), (50, 2), (50, 600)]) (wrm m ((B.length : Nat) : Int) 3 (-1)) (fs1 τ42 ((B.length : Nat) : Int) 11 20) := Mk.fs h42
  revert h43
  generalize fs1 τ42 ((B.length : Nat) : Int) 11 20 = τ43
  intro h43
  refine pGo (s_aload_n dX11_init_179 rfl (by omega)) ?_
  refine pGo (s_sipush dX11_init_180 (by decide)) ?_
  refine pGoE (y := (((B.length : Nat) : Int) + 22)) (s_newaI ac_int (by decide) dX11_init_183) (Mk.len h43 rfl) ?_
  have h44 : Mk (B ++ (11, 21) :: [(50, 1400), (53, 13), (50, 13), (50, 13), (50, 13), (50, 13), (50, 13), (50, 13), (50, 13), (50, 13), (50, 13), (50, 13), (50, 13), (50, 13), (52, 6), (52, 6), (50, 600), (50, 600), (50, 2), (50, 2), (50, 600), (50, 600)]) (wrm m ((B.length : Nat) : Int) 3 (-1)) (nw τ43 50 (Int.toNat 600)) := Mk.nw h43 (k := 22) rfl (by decide) (fun i => by rw [wrm_n (by omega)]; exact hm 22 i (by decide) (by decide))
  revert h44
  generalize nw τ43 50 (Int.toNat 600) = τ44
  intro h44
  refine pGo (s_putF (j := 39) pc11 fw_X11_79 dX11_init_185 (Mk.obB h44) rfl (by decide) (by decide) rfl rfl rfl (Or.inr ⟨_, rfl⟩) rfl) ?_
  have h45 : Mk (B ++ (11, 22) :: [(50, 1400), (53, 13), (50, 13), (50, 13), (50, 13), (50, 13), (50, 13), (50, 13), (50, 13), (50, 13), (50, 13), (50, 13), (50, 13), (50, 13), (52, 6), (52, 6), (50, 600), (50, 600), (50, 2), (50, 2), (50, 600), (50, 600)]) (wrm m ((B.length : Nat) : Int) 3 (-1)) (fs1 τ44 ((B.length : Nat) : Int) 11 21) := Mk.fs h44
  revert h45
  generalize fs1 τ44 ((B.length : Nat) : Int) 11 21 = τ45
  intro h45
  refine pGo (s_aload_n dX11_init_188 rfl (by omega)) ?_
  refine pGo (s_iconst dX11_init_189) ?_
  refine pGoE (y := (((B.length : Nat) : Int) + 23)) (s_newaI ac_int (by decide) dX11_init_190) (Mk.len h45 rfl) ?_
  have h46 : Mk (B ++ (11, 22) :: [(50, 1400), (53, 13), (50, 13), (50, 13), (50, 13), (50, 13), (50, 13), (50, 13), (50, 13), (50, 13), (50, 13), (50, 13), (50, 13), (50, 13), (52, 6), (52, 6), (50, 600), (50, 600), (50, 2), (50, 2), (50, 600), (50, 600), (50, 2)]) (wrm m ((B.length : Nat) : Int) 3 (-1)) (nw τ45 50 (Int.toNat 2)) := Mk.nw h45 (k := 23) rfl (by decide) (fun i => by rw [wrm_n (by omega)]; exact hm 23 i (by decide) (by decide))
  revert h46
  generalize nw τ45 50 (Int.toNat 2) = τ46
  intro h46
  refine pGo (s_putF (j := 40) pc11 fw_X11_82 dX11_init_192 (Mk.obB h46) rfl (by decide) (by decide) rfl rfl rfl (Or.inr ⟨_, rfl⟩) rfl) ?_
  have h47 : Mk (B ++ (11, 23) :: [(50, 1400), (53, 13), (50, 13), (50, 13), (50, 13), (50, 13), (50, 13), (50, 13), (50, 13), (50, 13), (50, 13), (50, 13), (50, 13), (50, 13), (52, 6), (52, 6), (50, 600), (50, 600), (50, 2), (50, 2), (50, 600), (50, 600), (50, 2)]) (wrm m ((B.length : Nat) : Int) 3 (-1)) (fs1 τ46 ((B.length : Nat) : Int) 11 22) := Mk.fs h46
  revert h47
  generalize fs1 τ46 ((B.length : Nat) : Int) 11 22 = τ47
  intro h47
  refine pGo (s_aload_n dX11_init_195 rfl (by omega)) ?_
  refine pGo (s_iconst dX11_init_196) ?_
  refine pGoE (y := (((B.length : Nat) : Int) + 24)) (s_newaI ac_int (by decide) dX11_init_197) (Mk.len h47 rfl) ?_
  have h48 : Mk (B ++ (11, 23) :: [(50, 1400), (53, 13), (50, 13), (50, 13), (50, 13), (50, 13), (50, 13), (50, 13), (50, 13), (50, 13), (50, 13), (50, 13), (50, 13), (50, 13), (52, 6), (52, 6), (50, 600), (50, 600), (50, 2), (50, 2), (50, 600), (50, 600), (50, 2), (50, 2)]) (wrm m ((B.length : Nat) : Int) 3 (-1)) (nw τ47 50 (Int.toNat 2)) := Mk.nw h47 (k := 24) rfl (by decide) (fun i => by rw [wrm_n (by omega)]; exact hm 24 i (by decide) (by decide))
  revert h48
  generalize nw τ47 50 (Int.toNat 2) = τ48
  intro h48
  refine pGo (s_putF (j := 41) pc11 fw_X11_85 dX11_init_199 (Mk.obB h48) rfl (by decide) (by decide) rfl rfl rfl (Or.inr ⟨_, rfl⟩) rfl) ?_
  have h49 : Mk (B ++ (11, 24) :: [(50, 1400), (53, 13), (50, 13), (50, 13), (50, 13), (50, 13), (50, 13), (50, 13), (50, 13), (50, 13), (50, 13), (50, 13), (50, 13), (50, 13), (52, 6), (52, 6), (50, 600), (50, 600), (50, 2), (50, 2), (50, 600), (50, 600), (50, 2), (50, 2)]) (wrm m ((B.length : Nat) : Int) 3 (-1)) (fs1 τ48 ((B.length : Nat) : Int) 11 23) := Mk.fs h48
  revert h49
  generalize fs1 τ48 ((B.length : Nat) : Int) 11 23 = τ49
  intro h49
  refine pGo (s_aload_n dX11_init_202 rfl (by omega)) ?_
  refine pGo (s_iconst dX11_init_203) ?_
  refine pGoE (y := (((B.length : Nat) : Int) + 25)) (s_newaZ ac_boolean (by decide) dX11_init_204) (Mk.len h49 rfl) ?_
  have h50 : Mk (B ++ (11, 24) :: [(50, 1400), (53, 13), (50, 13), (50, 13), (50, 13), (50, 13), (50, 13), (50, 13), (50, 13), (50, 13), (50, 13), (50, 13), (50, 13), (50, 13), (52, 6), (52, 6), (50, 600), (50, 600), (50, 2), (50, 2), (50, 600), (50, 600), (50, 2), (50, 2), (52, 2)]) (wrm m ((B.length : Nat) : Int) 3 (-1)) (nw τ49 52 (Int.toNat 2)) := Mk.nw h49 (k := 25) rfl (by decide) (fun i => by rw [wrm_n (by omega)]; exact hm 25 i (by decide) (by decide))
  revert h50
  generalize nw τ49 52 (Int.toNat 2) = τ50
  intro h50
  refine pGo (s_putF (j := 42) pc11 fw_X11_88 dX11_init_206 (Mk.obB h50) rfl (by decide) (by decide) rfl rfl rfl (Or.inr ⟨_, rfl⟩) rfl) ?_
  have h51 : Mk (B ++ (11, 25) :: [(50, 1400), (53, 13), (50, 13), (50, 13), (50, 13), (50, 13), (50, 13), (50, 13), (50, 13), (50, 13), (50, 13), (50, 13), (50, 13), (50, 13), (52, 6), (52, 6), (50, 600), (50, 600), (50, 2), (50, 2), (50, 600), (50, 600), (50, 2), (50, 2), (52, 2)]) (wrm m ((B.length : Nat) : Int) 3 (-1)) (fs1 τ50 ((B.length : Nat) : Int) 11 24) := Mk.fs h50
  revert h51
  generalize fs1 τ50 ((B.length : Nat) : Int) 11 24 = τ51
  intro h51
  refine pGo (s_aload_n dX11_init_209 rfl (by omega)) ?_
  refine pGo (s_iconst dX11_init_210) ?_
  refine pGoE (y := (((B.length : Nat) : Int) + 26)) (s_newaZ ac_boolean (by decide) dX11_init_211) (Mk.len h51 rfl) ?_
  have h52 : Mk (B ++ (11, 25) :: [(50, 1400), (53, 13), (50, 13), (50, 13), (50, 13), (50, 13), (50, 13), (50, 13), (50, 13), (50, 13), (50, 13), (50, 13), (50, 13), (50, 13), (52, 6), (52, 6), (50, 600), (50, 600), (50, 2), (50, 2), (50, 600), (50, 600), (50, 2), (50, 2), (52, 2), (52, 2)]) (wrm m ((B.length : Nat) : Int) 3 (-1)) (nw τ51 52 (Int.toNat 2)) := Mk.nw h51 (k := 26) rfl (by decide) (fun i => by rw [wrm_n (by omega)]; exact hm 26 i (by decide) (by decide))
  revert h52
  generalize nw τ51 52 (Int.toNat 2) = τ52
  intro h52
  refine pGo (s_putF (j := 43) pc11 fw_X11_91 dX11_init_213 (Mk.obB h52) rfl (by decide) (by decide) rfl rfl rfl (Or.inr ⟨_, rfl⟩) rfl) ?_
  have h53 : Mk (B ++ (11, 26) :: [(50, 1400), (53, 13), (50, 13), (50, 13), (50, 13), (50, 13), (50, 13), (50, 13), (50, 13), (50, 13), (50, 13), (50, 13), (50, 13), (50, 13), (52, 6), (52, 6), (50, 600), (50, 600), (50, 2), (50, 2), (50, 600), (50, 600), (50, 2), (50, 2), (52, 2), (52, 2)]) (wrm m ((B.length : Nat) : Int) 3 (-1)) (fs1 τ52 ((B.length : Nat) : Int) 11 25) := Mk.fs h52
  revert h53
  generalize fs1 τ52 ((B.length : Nat) : Int) 11 25 = τ53
  intro h53
  refine pGo (s_aload_n dX11_init_216 rfl (by omega)) ?_
  refine pGo (s_sipush dX11_init_217 (by decide)) ?_
  refine pGoE (y := (((B.length : Nat) : Int) + 27)) (s_newaI ac_int (by decide) dX11_init_220) (Mk.len h53 rfl) ?_
  have h54 : Mk (B ++ (11, 26) :: [(50, 1400), (53, 13), (50, 13), (50, 13), (50, 13), (50, 13), (50, 13), (50, 13), (50, 13), (50, 13), (50, 13), (50, 13), (50, 13), (50, 13), (52, 6), (52, 6), (50, 600), (50, 600), (50, 2), (50, 2), (50, 600), (50, 600), (50, 2), (50, 2), (52, 2), (52, 2), (50, 300)]) (wrm m ((B.length : Nat) : Int) 3 (-1)) (nw τ53 50 (Int.toNat 300)) := Mk.nw h53 (k := 27) rfl (by decide) (fun i => by rw [wrm_n (by omega)]; exact hm 27 i (by decide) (by decide))
  revert h54
  generalize nw τ53 50 (Int.toNat 300) = τ54
  intro h54
  refine pGo (s_putF (j := 47) pc11 fw_X11_94 dX11_init_222 (Mk.obB h54) rfl (by decide) (by decide) rfl rfl rfl (Or.inr ⟨_, rfl⟩) rfl) ?_
  have h55 : Mk (B ++ (11, 27) :: [(50, 1400), (53, 13), (50, 13), (50, 13), (50, 13), (50, 13), (50, 13), (50, 13), (50, 13), (50, 13), (50, 13), (50, 13), (50, 13), (50, 13), (52, 6), (52, 6), (50, 600), (50, 600), (50, 2), (50, 2), (50, 600), (50, 600), (50, 2), (50, 2), (52, 2), (52, 2), (50, 300)]) (wrm m ((B.length : Nat) : Int) 3 (-1)) (fs1 τ54 ((B.length : Nat) : Int) 11 26) := Mk.fs h54
  revert h55
  generalize fs1 τ54 ((B.length : Nat) : Int) 11 26 = τ55
  intro h55
  refine pGo (s_aload_n dX11_init_225 rfl (by omega)) ?_
  refine pGo (s_bipush dX11_init_226 (by decide)) ?_
  refine pGoE (y := (((B.length : Nat) : Int) + 28)) (s_newaI ac_int (by decide) dX11_init_228) (Mk.len h55 rfl) ?_
  have h56 : Mk (B ++ (11, 27) :: [(50, 1400), (53, 13), (50, 13), (50, 13), (50, 13), (50, 13), (50, 13), (50, 13), (50, 13), (50, 13), (50, 13), (50, 13), (50, 13), (50, 13), (52, 6), (52, 6), (50, 600), (50, 600), (50, 2), (50, 2), (50, 600), (50, 600), (50, 2), (50, 2), (52, 2), (52, 2), (50, 300), (50, 60)]) (wrm m ((B.length : Nat) : Int) 3 (-1)) (nw τ55 50 (Int.toNat 60)) := Mk.nw h55 (k := 28) rfl (by decide) (fun i => by rw [wrm_n (by omega)]; exact hm 28 i (by decide) (by decide))
  revert h56
  generalize nw τ55 50 (Int.toNat 60) = τ56
  intro h56
  refine pGo (s_putF (j := 53) pc11 fw_X11_97 dX11_init_230 (Mk.obB h56) rfl (by decide) (by decide) rfl rfl rfl (Or.inr ⟨_, rfl⟩) rfl) ?_
  have h57 : Mk (B ++ (11, 28) :: [(50, 1400), (53, 13), (50, 13), (50, 13), (50, 13), (50, 13), (50, 13), (50, 13), (50, 13), (50, 13), (50, 13), (50, 13), (50, 13), (50, 13), (52, 6), (52, 6), (50, 600), (50, 600), (50, 2), (50, 2), (50, 600), (50, 600), (50, 2), (50, 2), (52, 2), (52, 2), (50, 300), (50, 60)]) (wrm m ((B.length : Nat) : Int) 3 (-1)) (fs1 τ56 ((B.length : Nat) : Int) 11 27) := Mk.fs h56
  revert h57
  generalize fs1 τ56 ((B.length : Nat) : Int) 11 27 = τ57
  intro h57
  refine pGo (s_aload_n dX11_init_233 rfl (by omega)) ?_
  refine pGo (s_bipush dX11_init_234 (by decide)) ?_
  refine pGoE (y := (((B.length : Nat) : Int) + 29)) (s_newaI ac_int (by decide) dX11_init_236) (Mk.len h57 rfl) ?_
  have h58 : Mk (B ++ (11, 28) :: [(50, 1400), (53, 13), (50, 13), (50, 13), (50, 13), (50, 13), (50, 13), (50, 13), (50, 13), (50, 13), (50, 13), (50, 13), (50, 13), (50, 13), (52, 6), (52, 6), (50, 600), (50, 600), (50, 2), (50, 2), (50, 600), (50, 600), (50, 2), (50, 2), (52, 2), (52, 2), (50, 300), (50, 60), (50, 60)]) (wrm m ((B.length : Nat) : Int) 3 (-1)) (nw τ57 50 (Int.toNat 60)) := Mk.nw h57 (k := 29) rfl (by decide) (fun i => by rw [wrm_n (by omega)]; exact hm 29 i (by decide) (by decide))
  revert h58
  generalize nw τ57 50 (Int.toNat 60) = τ58
  intro h58
  refine pGo (s_putF (j := 54) pc11 fw_X11_100 dX11_init_238 (Mk.obB h58) rfl (by decide) (by decide) rfl rfl rfl (Or.inr ⟨_, rfl⟩) rfl) ?_
  have h59 : Mk (B ++ (11, 29) :: [(50, 1400), (53, 13), (50, 13), (50, 13), (50, 13), (50, 13), (50, 13), (50, 13), (50, 13), (50, 13), (50, 13), (50, 13), (50, 13), (50, 13), (52, 6), (52, 6), (50, 600), (50, 600), (50, 2), (50, 2), (50, 600), (50, 600), (50, 2), (50, 2), (52, 2), (52, 2), (50, 300), (50, 60), (50, 60)]) (wrm m ((B.length : Nat) : Int) 3 (-1)) (fs1 τ58 ((B.length : Nat) : Int) 11 28) := Mk.fs h58
  revert h59
  generalize fs1 τ58 ((B.length : Nat) : Int) 11 28 = τ59
  intro h59
  refine pGo (s_aload_n dX11_init_241 rfl (by omega)) ?_
  refine pGo (s_bipush dX11_init_242 (by decide)) ?_
  refine pGoE (y := (((B.length : Nat) : Int) + 30)) (s_newaI ac_int (by decide) dX11_init_244) (Mk.len h59 rfl) ?_
  have h60 : Mk (B ++ (11, 29) :: [(50, 1400), (53, 13), (50, 13), (50, 13), (50, 13), (50, 13), (50, 13), (50, 13), (50, 13), (50, 13), (50, 13), (50, 13), (50, 13), (50, 13), (52, 6), (52, 6), (50, 600), (50, 600), (50, 2), (50, 2), (50, 600), (50, 600), (50, 2), (50, 2), (52, 2), (52, 2), (50, 300), (50, 60), (50, 60), (50, 60)]) (wrm m ((B.length : Nat) : Int) 3 (-1)) (nw τ59 50 (Int.toNat 60)) := Mk.nw h59 (k := 30) rfl (by decide) (fun i => by rw [wrm_n (by omega)]; exact hm 30 i (by decide) (by decide))
  revert h60
  generalize nw τ59 50 (Int.toNat 60) = τ60
  intro h60
  refine pGo (s_putF (j := 55) pc11 fw_X11_103 dX11_init_246 (Mk.obB h60) rfl (by decide) (by decide) rfl rfl rfl (Or.inr ⟨_, rfl⟩) rfl) ?_
  have h61 : Mk (B ++ (11, 30) :: [(50, 1400), (53, 13), (50, 13), (50, 13), (50, 13), (50, 13), (50, 13), (50, 13), (50, 13), (50, 13), (50, 13), (50, 13), (50, 13), (50, 13), (52, 6), (52, 6), (50, 600), (50, 600), (50, 2), (50, 2), (50, 600), (50, 600), (50, 2), (50, 2), (52, 2), (52, 2), (50, 300), (50, 60), (50, 60), (50, 60)]) (wrm m ((B.length : Nat) : Int) 3 (-1)) (fs1 τ60 ((B.length : Nat) : Int) 11 29) := Mk.fs h60
  revert h61
  generalize fs1 τ60 ((B.length : Nat) : Int) 11 29 = τ61
  intro h61
  refine pGo (s_aload_n dX11_init_249 rfl (by omega)) ?_
  refine pGo (s_bipush dX11_init_250 (by decide)) ?_
  refine pGoE (y := (((B.length : Nat) : Int) + 31)) (s_newaI ac_int (by decide) dX11_init_252) (Mk.len h61 rfl) ?_
  have h62 : Mk (B ++ (11, 30) :: [(50, 1400), (53, 13), (50, 13), (50, 13), (50, 13), (50, 13), (50, 13), (50, 13), (50, 13), (50, 13), (50, 13), (50, 13), (50, 13), (50, 13), (52, 6), (52, 6), (50, 600), (50, 600), (50, 2), (50, 2), (50, 600), (50, 600), (50, 2), (50, 2), (52, 2), (52, 2), (50, 300), (50, 60), (50, 60), (50, 60), (50, 60)]) (wrm m ((B.length : Nat) : Int) 3 (-1)) (nw τ61 50 (Int.toNat 60)) := Mk.nw h61 (k := 31) rfl (by decide) (fun i => by rw [wrm_n (by omega)]; exact hm 31 i (by decide) (by decide))
  revert h62
  generalize nw τ61 50 (Int.toNat 60) = τ62
  intro h62
  refine pGo (s_putF (j := 56) pc11 fw_X11_106 dX11_init_254 (Mk.obB h62) rfl (by decide) (by decide) rfl rfl rfl (Or.inr ⟨_, rfl⟩) rfl) ?_
  have h63 : Mk (B ++ (11, 31) :: [(50, 1400), (53, 13), (50, 13), (50, 13), (50, 13), (50, 13), (50, 13), (50, 13), (50, 13), (50, 13), (50, 13), (50, 13), (50, 13), (50, 13), (52, 6), (52, 6), (50, 600), (50, 600), (50, 2), (50, 2), (50, 600), (50, 600), (50, 2), (50, 2), (52, 2), (52, 2), (50, 300), (50, 60), (50, 60), (50, 60), (50, 60)]) (wrm m ((B.length : Nat) : Int) 3 (-1)) (fs1 τ62 ((B.length : Nat) : Int) 11 30) := Mk.fs h62
  revert h63
  generalize fs1 τ62 ((B.length : Nat) : Int) 11 30 = τ63
  intro h63
  refine pGo (s_aload_n dX11_init_257 rfl (by omega)) ?_
  refine pGo (s_bipush dX11_init_258 (by decide)) ?_
  refine pGoE (y := (((B.length : Nat) : Int) + 32)) (s_newaI ac_int (by decide) dX11_init_260) (Mk.len h63 rfl) ?_
  have h64 : Mk (B ++ (11, 31) :: [(50, 1400), (53, 13), (50, 13), (50, 13), (50, 13), (50, 13), (50, 13), (50, 13), (50, 13), (50, 13), (50, 13), (50, 13), (50, 13), (50, 13), (52, 6), (52, 6), (50, 600), (50, 600), (50, 2), (50, 2), (50, 600), (50, 600), (50, 2), (50, 2), (52, 2), (52, 2), (50, 300), (50, 60), (50, 60), (50, 60), (50, 60), (50, 60)]) (wrm m ((B.length : Nat) : Int) 3 (-1)) (nw τ63 50 (Int.toNat 60)) := Mk.nw h63 (k := 32) rfl (by decide) (fun i => by rw [wrm_n (by omega)]; exact hm 32 i (by decide) (by decide))
  revert h64
  generalize nw τ63 50 (Int.toNat 60) = τ64
  intro h64
  refine pGo (s_putF (j := 57) pc11 fw_X11_109 dX11_init_262 (Mk.obB h64) rfl (by decide) (by decide) rfl rfl rfl (Or.inr ⟨_, rfl⟩) rfl) ?_
  have h65 : Mk (B ++ (11, 32) :: [(50, 1400), (53, 13), (50, 13), (50, 13), (50, 13), (50, 13), (50, 13), (50, 13), (50, 13), (50, 13), (50, 13), (50, 13), (50, 13), (50, 13), (52, 6), (52, 6), (50, 600), (50, 600), (50, 2), (50, 2), (50, 600), (50, 600), (50, 2), (50, 2), (52, 2), (52, 2), (50, 300), (50, 60), (50, 60), (50, 60), (50, 60), (50, 60)]) (wrm m ((B.length : Nat) : Int) 3 (-1)) (fs1 τ64 ((B.length : Nat) : Int) 11 31) := Mk.fs h64
  revert h65
  generalize fs1 τ64 ((B.length : Nat) : Int) 11 31 = τ65
  intro h65
  refine pGo (s_aload_n dX11_init_265 rfl (by omega)) ?_
  refine pGo (s_bipush dX11_init_266 (by decide)) ?_
  refine pGoE (y := (((B.length : Nat) : Int) + 33)) (s_newaI ac_int (by decide) dX11_init_268) (Mk.len h65 rfl) ?_
  have h66 : Mk (B ++ (11, 32) :: [(50, 1400), (53, 13), (50, 13), (50, 13), (50, 13), (50, 13), (50, 13), (50, 13), (50, 13), (50, 13), (50, 13), (50, 13), (50, 13), (50, 13), (52, 6), (52, 6), (50, 600), (50, 600), (50, 2), (50, 2), (50, 600), (50, 600), (50, 2), (50, 2), (52, 2), (52, 2), (50, 300), (50, 60), (50, 60), (50, 60), (50, 60), (50, 60), (50, 8)]) (wrm m ((B.length : Nat) : Int) 3 (-1)) (nw τ65 50 (Int.toNat 8)) := Mk.nw h65 (k := 33) rfl (by decide) (fun i => by rw [wrm_n (by omega)]; exact hm 33 i (by decide) (by decide))
  revert h66
  generalize nw τ65 50 (Int.toNat 8) = τ66
  intro h66
  refine pGo (s_putF (j := 58) pc11 fw_X11_112 dX11_init_270 (Mk.obB h66) rfl (by decide) (by decide) rfl rfl rfl (Or.inr ⟨_, rfl⟩) rfl) ?_
  have h67 : Mk (B ++ (11, 33) :: [(50, 1400), (53, 13), (50, 13), (50, 13), (50, 13), (50, 13), (50, 13), (50, 13), (50, 13), (50, 13), (50, 13), (50, 13), (50, 13), (50, 13), (52, 6), (52, 6), (50, 600), (50, 600), (50, 2), (50, 2), (50, 600), (50, 600), (50, 2), (50, 2), (52, 2), (52, 2), (50, 300), (50, 60), (50, 60), (50, 60), (50, 60), (50, 60), (50, 8)]) (wrm m ((B.length : Nat) : Int) 3 (-1)) (fs1 τ66 ((B.length : Nat) : Int) 11 32) := Mk.fs h66
  revert h67
  generalize fs1 τ66 ((B.length : Nat) : Int) 11 32 = τ67
  intro h67
  refine pGo (s_aload_n dX11_init_273 rfl (by omega)) ?_
  refine pGo (s_bipush dX11_init_274 (by decide)) ?_
  refine pGoE (y := (((B.length : Nat) : Int) + 34)) (s_newaI ac_int (by decide) dX11_init_276) (Mk.len h67 rfl) ?_
  have h68 : Mk (B ++ (11, 33) :: [(50, 1400), (53, 13), (50, 13), (50, 13), (50, 13), (50, 13), (50, 13), (50, 13), (50, 13), (50, 13), (50, 13), (50, 13), (50, 13), (50, 13), (52, 6), (52, 6), (50, 600), (50, 600), (50, 2), (50, 2), (50, 600), (50, 600), (50, 2), (50, 2), (52, 2), (52, 2), (50, 300), (50, 60), (50, 60), (50, 60), (50, 60), (50, 60), (50, 8), (50, 8)]) (wrm m ((B.length : Nat) : Int) 3 (-1)) (nw τ67 50 (Int.toNat 8)) := Mk.nw h67 (k := 34) rfl (by decide) (fun i => by rw [wrm_n (by omega)]; exact hm 34 i (by decide) (by decide))
  revert h68
  generalize nw τ67 50 (Int.toNat 8) = τ68
  intro h68
  refine pGo (s_putF (j := 59) pc11 fw_X11_115 dX11_init_278 (Mk.obB h68) rfl (by decide) (by decide) rfl rfl rfl (Or.inr ⟨_, rfl⟩) rfl) ?_
  have h69 : Mk (B ++ (11, 34) :: [(50, 1400), (53, 13), (50, 13), (50, 13), (50, 13), (50, 13), (50, 13), (50, 13), (50, 13), (50, 13), (50, 13), (50, 13), (50, 13), (50, 13), (52, 6), (52, 6), (50, 600), (50, 600), (50, 2), (50, 2), (50, 600), (50, 600), (50, 2), (50, 2), (52, 2), (52, 2), (50, 300), (50, 60), (50, 60), (50, 60), (50, 60), (50, 60), (50, 8), (50, 8)]) (wrm m ((B.length : Nat) : Int) 3 (-1)) (fs1 τ68 ((B.length : Nat) : Int) 11 33) := Mk.fs h68
  revert h69
  generalize fs1 τ68 ((B.length : Nat) : Int) 11 33 = τ69
  intro h69
  refine pGo (s_aload_n dX11_init_281 rfl (by omega)) ?_
  refine pGo (s_bipush dX11_init_282 (by decide)) ?_
  refine pGoE (y := (((B.length : Nat) : Int) + 35)) (s_newaI ac_int (by decide) dX11_init_284) (Mk.len h69 rfl) ?_
  have h70 : Mk (B ++ (11, 34) :: [(50, 1400), (53, 13), (50, 13), (50, 13), (50, 13), (50, 13), (50, 13), (50, 13), (50, 13), (50, 13), (50, 13), (50, 13), (50, 13), (50, 13), (52, 6), (52, 6), (50, 600), (50, 600), (50, 2), (50, 2), (50, 600), (50, 600), (50, 2), (50, 2), (52, 2), (52, 2), (50, 300), (50, 60), (50, 60), (50, 60), (50, 60), (50, 60), (50, 8), (50, 8), (50, 60)]) (wrm m ((B.length : Nat) : Int) 3 (-1)) (nw τ69 50 (Int.toNat 60)) := Mk.nw h69 (k := 35) rfl (by decide) (fun i => by rw [wrm_n (by omega)]; exact hm 35 i (by decide) (by decide))
  revert h70
  generalize nw τ69 50 (Int.toNat 60) = τ70
  intro h70
  refine pGo (s_putF (j := 60) pc11 fw_X11_118 dX11_init_286 (Mk.obB h70) rfl (by decide) (by decide) rfl rfl rfl (Or.inr ⟨_, rfl⟩) rfl) ?_
  have h71 : Mk (B ++ (11, 35) :: [(50, 1400), (53, 13), (50, 13), (50, 13), (50, 13), (50, 13), (50, 13), (50, 13), (50, 13), (50, 13), (50, 13), (50, 13), (50, 13), (50, 13), (52, 6), (52, 6), (50, 600), (50, 600), (50, 2), (50, 2), (50, 600), (50, 600), (50, 2), (50, 2), (52, 2), (52, 2), (50, 300), (50, 60), (50, 60), (50, 60), (50, 60), (50, 60), (50, 8), (50, 8), (50, 60)]) (wrm m ((B.length : Nat) : Int) 3 (-1)) (fs1 τ70 ((B.length : Nat) : Int) 11 34) := Mk.fs h70
  revert h71
  generalize fs1 τ70 ((B.length : Nat) : Int) 11 34 = τ71
  intro h71
  refine pGo (s_aload_n dX11_init_289 rfl (by omega)) ?_
  refine pGo (s_sipush dX11_init_290 (by decide)) ?_
  refine pGoE (y := (((B.length : Nat) : Int) + 36)) (s_newaI ac_int (by decide) dX11_init_293) (Mk.len h71 rfl) ?_
  have h72 : Mk (B ++ (11, 35) :: [(50, 1400), (53, 13), (50, 13), (50, 13), (50, 13), (50, 13), (50, 13), (50, 13), (50, 13), (50, 13), (50, 13), (50, 13), (50, 13), (50, 13), (52, 6), (52, 6), (50, 600), (50, 600), (50, 2), (50, 2), (50, 600), (50, 600), (50, 2), (50, 2), (52, 2), (52, 2), (50, 300), (50, 60), (50, 60), (50, 60), (50, 60), (50, 60), (50, 8), (50, 8), (50, 60), (50, 6266)]) (wrm m ((B.length : Nat) : Int) 3 (-1)) (nw τ71 50 (Int.toNat 6266)) := Mk.nw h71 (k := 36) rfl (by decide) (fun i => by rw [wrm_n (by omega)]; exact hm 36 i (by decide) (by decide))
  revert h72
  generalize nw τ71 50 (Int.toNat 6266) = τ72
  intro h72
  refine pGo (s_putF (j := 61) pc11 fw_X11_121 dX11_init_295 (Mk.obB h72) rfl (by decide) (by decide) rfl rfl rfl (Or.inr ⟨_, rfl⟩) rfl) ?_
  have h73 : Mk (B ++ (11, 36) :: [(50, 1400), (53, 13), (50, 13), (50, 13), (50, 13), (50, 13), (50, 13), (50, 13), (50, 13), (50, 13), (50, 13), (50, 13), (50, 13), (50, 13), (52, 6), (52, 6), (50, 600), (50, 600), (50, 2), (50, 2), (50, 600), (50, 600), (50, 2), (50, 2), (52, 2), (52, 2), (50, 300), (50, 60), (50, 60), (50, 60), (50, 60), (50, 60), (50, 8), (50, 8), (50, 60), (50, 6266)]) (wrm m ((B.length : Nat) : Int) 3 (-1)) (fs1 τ72 ((B.length : Nat) : Int) 11 35) := Mk.fs h72
  revert h73
  generalize fs1 τ72 ((B.length : Nat) : Int) 11 35 = τ73
  intro h73
  refine pGo (s_aload_n dX11_init_298 rfl (by omega)) ?_
  refine pGo (s_bipush dX11_init_299 (by decide)) ?_
  refine pGoE (y := (((B.length : Nat) : Int) + 37)) (s_newaZ ac_boolean (by decide) dX11_init_301) (Mk.len h73 rfl) ?_
  have h74 : Mk (B ++ (11, 36) :: [(50, 1400), (53, 13), (50, 13), (50, 13), (50, 13), (50, 13), (50, 13), (50, 13), (50, 13), (50, 13), (50, 13), (50, 13), (50, 13), (50, 13), (52, 6), (52, 6), (50, 600), (50, 600), (50, 2), (50, 2), (50, 600), (50, 600), (50, 2), (50, 2), (52, 2), (52, 2), (50, 300), (50, 60), (50, 60), (50, 60), (50, 60), (50, 60), (50, 8), (50, 8), (50, 60), (50, 6266), (52, 104)]) (wrm m ((B.length : Nat) : Int) 3 (-1)) (nw τ73 52 (Int.toNat 104)) := Mk.nw h73 (k := 37) rfl (by decide) (fun i => by rw [wrm_n (by omega)]; exact hm 37 i (by decide) (by decide))
  revert h74
  generalize nw τ73 52 (Int.toNat 104) = τ74
  intro h74
  refine pGo (s_putF (j := 62) pc11 fw_X11_124 dX11_init_303 (Mk.obB h74) rfl (by decide) (by decide) rfl rfl rfl (Or.inr ⟨_, rfl⟩) rfl) ?_
  have h75 : Mk (B ++ (11, 37) :: [(50, 1400), (53, 13), (50, 13), (50, 13), (50, 13), (50, 13), (50, 13), (50, 13), (50, 13), (50, 13), (50, 13), (50, 13), (50, 13), (50, 13), (52, 6), (52, 6), (50, 600), (50, 600), (50, 2), (50, 2), (50, 600), (50, 600), (50, 2), (50, 2), (52, 2), (52, 2), (50, 300), (50, 60), (50, 60), (50, 60), (50, 60), (50, 60), (50, 8), (50, 8), (50, 60), (50, 6266), (52, 104)]) (wrm m ((B.length : Nat) : Int) 3 (-1)) (fs1 τ74 ((B.length : Nat) : Int) 11 36) := Mk.fs h74
  revert h75
  generalize fs1 τ74 ((B.length : Nat) : Int) 11 36 = τ75
  intro h75
  refine pGo (s_aload_n dX11_init_306 rfl (by omega)) ?_
  refine pGo (s_bipush dX11_init_307 (by decide)) ?_
  refine pGoE (y := (((B.length : Nat) : Int) + 38)) (s_newaI ac_int (by decide) dX11_init_309) (Mk.len h75 rfl) ?_
  have h76 : Mk (B ++ (11, 37) :: [(50, 1400), (53, 13), (50, 13), (50, 13), (50, 13), (50, 13), (50, 13), (50, 13), (50, 13), (50, 13), (50, 13), (50, 13), (50, 13), (50, 13), (52, 6), (52, 6), (50, 600), (50, 600), (50, 2), (50, 2), (50, 600), (50, 600), (50, 2), (50, 2), (52, 2), (52, 2), (50, 300), (50, 60), (50, 60), (50, 60), (50, 60), (50, 60), (50, 8), (50, 8), (50, 60), (50, 6266), (52, 104), (50, 10)]) (wrm m ((B.length : Nat) : Int) 3 (-1)) (nw τ75 50 (Int.toNat 10)) := Mk.nw h75 (k := 38) rfl (by decide) (fun i => by rw [wrm_n (by omega)]; exact hm 38 i (by decide) (by decide))
  revert h76
  generalize nw τ75 50 (Int.toNat 10) = τ76
  intro h76
  refine pGo (s_putF (j := 63) pc11 fw_X11_127 dX11_init_311 (Mk.obB h76) rfl (by decide) (by decide) rfl rfl rfl (Or.inr ⟨_, rfl⟩) rfl) ?_
  have h77 : Mk (B ++ (11, 38) :: [(50, 1400), (53, 13), (50, 13), (50, 13), (50, 13), (50, 13), (50, 13), (50, 13), (50, 13), (50, 13), (50, 13), (50, 13), (50, 13), (50, 13), (52, 6), (52, 6), (50, 600), (50, 600), (50, 2), (50, 2), (50, 600), (50, 600), (50, 2), (50, 2), (52, 2), (52, 2), (50, 300), (50, 60), (50, 60), (50, 60), (50, 60), (50, 60), (50, 8), (50, 8), (50, 60), (50, 6266), (52, 104), (50, 10)]) (wrm m ((B.length : Nat) : Int) 3 (-1)) (fs1 τ76 ((B.length : Nat) : Int) 11 37) := Mk.fs h76
  revert h77
  generalize fs1 τ76 ((B.length : Nat) : Int) 11 37 = τ77
  intro h77
  refine pGo (s_aload_n dX11_init_314 rfl (by omega)) ?_
  refine pGo (s_bipush dX11_init_315 (by decide)) ?_
  refine pGoE (y := (((B.length : Nat) : Int) + 39)) (s_newaI ac_int (by decide) dX11_init_317) (Mk.len h77 rfl) ?_
  have h78 : Mk (B ++ (11, 38) :: [(50, 1400), (53, 13), (50, 13), (50, 13), (50, 13), (50, 13), (50, 13), (50, 13), (50, 13), (50, 13), (50, 13), (50, 13), (50, 13), (50, 13), (52, 6), (52, 6), (50, 600), (50, 600), (50, 2), (50, 2), (50, 600), (50, 600), (50, 2), (50, 2), (52, 2), (52, 2), (50, 300), (50, 60), (50, 60), (50, 60), (50, 60), (50, 60), (50, 8), (50, 8), (50, 60), (50, 6266), (52, 104), (50, 10), (50, 8)]) (wrm m ((B.length : Nat) : Int) 3 (-1)) (nw τ77 50 (Int.toNat 8)) := Mk.nw h77 (k := 39) rfl (by decide) (fun i => by rw [wrm_n (by omega)]; exact hm 39 i (by decide) (by decide))
  revert h78
  generalize nw τ77 50 (Int.toNat 8) = τ78
  intro h78
  refine pGo (s_putF (j := 66) pc11 fw_X11_130 dX11_init_319 (Mk.obB h78) rfl (by decide) (by decide) rfl rfl rfl (Or.inr ⟨_, rfl⟩) rfl) ?_
  have h79 : Mk (B ++ (11, 39) :: [(50, 1400), (53, 13), (50, 13), (50, 13), (50, 13), (50, 13), (50, 13), (50, 13), (50, 13), (50, 13), (50, 13), (50, 13), (50, 13), (50, 13), (52, 6), (52, 6), (50, 600), (50, 600), (50, 2), (50, 2), (50, 600), (50, 600), (50, 2), (50, 2), (52, 2), (52, 2), (50, 300), (50, 60), (50, 60), (50, 60), (50, 60), (50, 60), (50, 8), (50, 8), (50, 60), (50, 6266), (52, 104), (50, 10), (50, 8)]) (wrm m ((B.length : Nat) : Int) 3 (-1)) (fs1 τ78 ((B.length : Nat) : Int) 11 38) := Mk.fs h78
  revert h79
  generalize fs1 τ78 ((B.length : Nat) : Int) 11 38 = τ79
  intro h79
  refine pGo (s_aload_n dX11_init_322 rfl (by omega)) ?_
  refine pGo (s_bipush dX11_init_323 (by decide)) ?_
  refine pGoE (y := (((B.length : Nat) : Int) + 40)) (s_newaI ac_int (by decide) dX11_init_325) (Mk.len h79 rfl) ?_
  have h80 : Mk (B ++ (11, 39) :: [(50, 1400), (53, 13), (50, 13), (50, 13), (50, 13), (50, 13), (50, 13), (50, 13), (50, 13), (50, 13), (50, 13), (50, 13), (50, 13), (50, 13), (52, 6), (52, 6), (50, 600), (50, 600), (50, 2), (50, 2), (50, 600), (50, 600), (50, 2), (50, 2), (52, 2), (52, 2), (50, 300), (50, 60), (50, 60), (50, 60), (50, 60), (50, 60), (50, 8), (50, 8), (50, 60), (50, 6266), (52, 104), (50, 10), (50, 8), (50, 100)]) (wrm m ((B.length : Nat) : Int) 3 (-1)) (nw τ79 50 (Int.toNat 100)) := Mk.nw h79 (k := 40) rfl (by decide) (fun i => by rw [wrm_n (by omega)]; exact hm 40 i (by decide) (by decide))
  revert h80
  generalize nw τ79 50 (Int.toNat 100) = τ80
  intro h80
  refine pGo (s_putF (j := 67) pc11 fw_X11_133 dX11_init_327 (Mk.obB h80) rfl (by decide) (by decide) rfl rfl rfl (Or.inr ⟨_, rfl⟩) rfl) ?_
  have h81 : Mk (B ++ (11, 40) :: [(50, 1400), (53, 13), (50, 13), (50, 13), (50, 13), (50, 13), (50, 13), (50, 13), (50, 13), (50, 13), (50, 13), (50, 13), (50, 13), (50, 13), (52, 6), (52, 6), (50, 600), (50, 600), (50, 2), (50, 2), (50, 600), (50, 600), (50, 2), (50, 2), (52, 2), (52, 2), (50, 300), (50, 60), (50, 60), (50, 60), (50, 60), (50, 60), (50, 8), (50, 8), (50, 60), (50, 6266), (52, 104), (50, 10), (50, 8), (50, 100)]) (wrm m ((B.length : Nat) : Int) 3 (-1)) (fs1 τ80 ((B.length : Nat) : Int) 11 39) := Mk.fs h80
  revert h81
  generalize fs1 τ80 ((B.length : Nat) : Int) 11 39 = τ81
  intro h81
  refine pGo (s_aload_n dX11_init_330 rfl (by omega)) ?_
  refine pGo (s_bipush dX11_init_331 (by decide)) ?_
  refine pGoE (y := (((B.length : Nat) : Int) + 41)) (s_newaI ac_int (by decide) dX11_init_333) (Mk.len h81 rfl) ?_
  have h82 : Mk (B ++ (11, 40) :: [(50, 1400), (53, 13), (50, 13), (50, 13), (50, 13), (50, 13), (50, 13), (50, 13), (50, 13), (50, 13), (50, 13), (50, 13), (50, 13), (50, 13), (52, 6), (52, 6), (50, 600), (50, 600), (50, 2), (50, 2), (50, 600), (50, 600), (50, 2), (50, 2), (52, 2), (52, 2), (50, 300), (50, 60), (50, 60), (50, 60), (50, 60), (50, 60), (50, 8), (50, 8), (50, 60), (50, 6266), (52, 104), (50, 10), (50, 8), (50, 100), (50, 100)]) (wrm m ((B.length : Nat) : Int) 3 (-1)) (nw τ81 50 (Int.toNat 100)) := Mk.nw h81 (k := 41) rfl (by decide) (fun i => by rw [wrm_n (by omega)]; exact hm 41 i (by decide) (by decide))
  revert h82
  generalize nw τ81 50 (Int.toNat 100) = τ82
  intro h82
  refine pGo (s_putF (j := 68) pc11 fw_X11_136 dX11_init_335 (Mk.obB h82) rfl (by decide) (by decide) rfl rfl rfl (Or.inr ⟨_, rfl⟩) rfl) ?_
  have h83 : Mk (B ++ (11, 41) :: [(50, 1400), (53, 13), (50, 13), (50, 13), (50, 13), (50, 13), (50, 13), (50, 13), (50, 13), (50, 13), (50, 13), (50, 13), (50, 13), (50, 13), (52, 6), (52, 6), (50, 600), (50, 600), (50, 2), (50, 2), (50, 600), (50, 600), (50, 2), (50, 2), (52, 2), (52, 2), (50, 300), (50, 60), (50, 60), (50, 60), (50, 60), (50, 60), (50, 8), (50, 8), (50, 60), (50, 6266), (52, 104), (50, 10), (50, 8), (50, 100), (50, 100)]) (wrm m ((B.length : Nat) : Int) 3 (-1)) (fs1 τ82 ((B.length : Nat) : Int) 11 40) := Mk.fs h82
  revert h83
  generalize fs1 τ82 ((B.length : Nat) : Int) 11 40 = τ83
  intro h83
  refine pGo (s_aload_n dX11_init_338 rfl (by omega)) ?_
  refine pGo (s_bipush dX11_init_339 (by decide)) ?_
  refine pGoE (y := (((B.length : Nat) : Int) + 42)) (s_newaI ac_int (by decide) dX11_init_341) (Mk.len h83 rfl) ?_
  have h84 : Mk (B ++ (11, 41) :: [(50, 1400), (53, 13), (50, 13), (50, 13), (50, 13), (50, 13), (50, 13), (50, 13), (50, 13), (50, 13), (50, 13), (50, 13), (50, 13), (50, 13), (52, 6), (52, 6), (50, 600), (50, 600), (50, 2), (50, 2), (50, 600), (50, 600), (50, 2), (50, 2), (52, 2), (52, 2), (50, 300), (50, 60), (50, 60), (50, 60), (50, 60), (50, 60), (50, 8), (50, 8), (50, 60), (50, 6266), (52, 104), (50, 10), (50, 8), (50, 100), (50, 100), (50, 100)]) (wrm m ((B.length : Nat) : Int) 3 (-1)) (nw τ83 50 (Int.toNat 100)) := Mk.nw h83 (k := 42) rfl (by decide) (fun i => by rw [wrm_n (by omega)]; exact hm 42 i (by decide) (by decide))
  revert h84
  generalize nw τ83 50 (Int.toNat 100) = τ84
  intro h84
  refine pGo (s_putF (j := 69) pc11 fw_X11_139 dX11_init_343 (Mk.obB h84) rfl (by decide) (by decide) rfl rfl rfl (Or.inr ⟨_, rfl⟩) rfl) ?_
  have h85 : Mk (B ++ (11, 42) :: [(50, 1400), (53, 13), (50, 13), (50, 13), (50, 13), (50, 13), (50, 13), (50, 13), (50, 13), (50, 13), (50, 13), (50, 13), (50, 13), (50, 13), (52, 6), (52, 6), (50, 600), (50, 600), (50, 2), (50, 2), (50, 600), (50, 600), (50, 2), (50, 2), (52, 2), (52, 2), (50, 300), (50, 60), (50, 60), (50, 60), (50, 60), (50, 60), (50, 8), (50, 8), (50, 60), (50, 6266), (52, 104), (50, 10), (50, 8), (50, 100), (50, 100), (50, 100)]) (wrm m ((B.length : Nat) : Int) 3 (-1)) (fs1 τ84 ((B.length : Nat) : Int) 11 41) := Mk.fs h84
  revert h85
  generalize fs1 τ84 ((B.length : Nat) : Int) 11 41 = τ85
  intro h85
  refine pGo (s_aload_n dX11_init_346 rfl (by omega)) ?_
  refine pGo (s_bipush dX11_init_347 (by decide)) ?_
  refine pGoE (y := (((B.length : Nat) : Int) + 43)) (s_newaI ac_int (by decide) dX11_init_349) (Mk.len h85 rfl) ?_
  have h86 : Mk (B ++ (11, 42) :: [(50, 1400), (53, 13), (50, 13), (50, 13), (50, 13), (50, 13), (50, 13), (50, 13), (50, 13), (50, 13), (50, 13), (50, 13), (50, 13), (50, 13), (52, 6), (52, 6), (50, 600), (50, 600), (50, 2), (50, 2), (50, 600), (50, 600), (50, 2), (50, 2), (52, 2), (52, 2), (50, 300), (50, 60), (50, 60), (50, 60), (50, 60), (50, 60), (50, 8), (50, 8), (50, 60), (50, 6266), (52, 104), (50, 10), (50, 8), (50, 100), (50, 100), (50, 100), (50, 100)]) (wrm m ((B.length : Nat) : Int) 3 (-1)) (nw τ85 50 (Int.toNat 100)) := Mk.nw h85 (k := 43) rfl (by decide) (fun i => by rw [wrm_n (by omega)]; exact hm 43 i (by decide) (by decide))
  revert h86
  generalize nw τ85 50 (Int.toNat 100) = τ86
  intro h86
  refine pGo (s_putF (j := 70) pc11 fw_X11_142 dX11_init_351 (Mk.obB h86) rfl (by decide) (by decide) rfl rfl rfl (Or.inr ⟨_, rfl⟩) rfl) ?_
  have h87 : Mk (B ++ (11, 43) :: [(50, 1400), (53, 13), (50, 13), (50, 13), (50, 13), (50, 13), (50, 13), (50, 13), (50, 13), (50, 13), (50, 13), (50, 13), (50, 13), (50, 13), (52, 6), (52, 6), (50, 600), (50, 600), (50, 2), (50, 2), (50, 600), (50, 600), (50, 2), (50, 2), (52, 2), (52, 2), (50, 300), (50, 60), (50, 60), (50, 60), (50, 60), (50, 60), (50, 8), (50, 8), (50, 60), (50, 6266), (52, 104), (50, 10), (50, 8), (50, 100), (50, 100), (50, 100), (50, 100)]) (wrm m ((B.length : Nat) : Int) 3 (-1)) (fs1 τ86 ((B.length : Nat) : Int) 11 42) := Mk.fs h86
  revert h87
  generalize fs1 τ86 ((B.length : Nat) : Int) 11 42 = τ87
  intro h87
  refine pGo (s_aload_n dX11_init_354 rfl (by omega)) ?_
  refine pGo (s_bipush dX11_init_355 (by decide)) ?_
  refine pGoE (y := (((B.length : Nat) : Int) + 44)) (s_newaI ac_int (by decide) dX11_init_357) (Mk.len h87 rfl) ?_
  have h88 : Mk (B ++ (11, 43) :: [(50, 1400), (53, 13), (50, 13), (50, 13), (50, 13), (50, 13), (50, 13), (50, 13), (50, 13), (50, 13), (50, 13), (50, 13), (50, 13), (50, 13), (52, 6), (52, 6), (50, 600), (50, 600), (50, 2), (50, 2), (50, 600), (50, 600), (50, 2), (50, 2), (52, 2), (52, 2), (50, 300), (50, 60), (50, 60), (50, 60), (50, 60), (50, 60), (50, 8), (50, 8), (50, 60), (50, 6266), (52, 104), (50, 10), (50, 8), (50, 100), (50, 100), (50, 100), (50, 100), (50, 100)]) (wrm m ((B.length : Nat) : Int) 3 (-1)) (nw τ87 50 (Int.toNat 100)) := Mk.nw h87 (k := 44) rfl (by decide) (fun i => by rw [wrm_n (by omega)]; exact hm 44 i (by decide) (by decide))
  revert h88
  generalize nw τ87 50 (Int.toNat 100) = τ88
  intro h88
  refine pGo (s_putF (j := 71) pc11 fw_X11_145 dX11_init_359 (Mk.obB h88) rfl (by decide) (by decide) rfl rfl rfl (Or.inr ⟨_, rfl⟩) rfl) ?_
  have h89 : Mk (B ++ (11, 44) :: [(50, 1400), (53, 13), (50, 13), (50, 13), (50, 13), (50, 13), (50, 13), (50, 13), (50, 13), (50, 13), (50, 13), (50, 13), (50, 13), (50, 13), (52, 6), (52, 6), (50, 600), (50, 600), (50, 2), (50, 2), (50, 600), (50, 600), (50, 2), (50, 2), (52, 2), (52, 2), (50, 300), (50, 60), (50, 60), (50, 60), (50, 60), (50, 60), (50, 8), (50, 8), (50, 60), (50, 6266), (52, 104), (50, 10), (50, 8), (50, 100), (50, 100), (50, 100), (50, 100), (50, 100)]) (wrm m ((B.length : Nat) : Int) 3 (-1)) (fs1 τ88 ((B.length : Nat) : Int) 11 43) := Mk.fs h88
  revert h89
  generalize fs1 τ88 ((B.length : Nat) : Int) 11 43 = τ89
  intro h89
  refine pGo (s_aload_n dX11_init_362 rfl (by omega)) ?_
  refine pGo (s_sipush dX11_init_363 (by decide)) ?_
  refine pGoE (y := (((B.length : Nat) : Int) + 45)) (s_newaI ac_int (by decide) dX11_init_366) (Mk.len h89 rfl) ?_
  have h90 : Mk (B ++ (11, 44) :: [(50, 1400), (53, 13), (50, 13), (50, 13), (50, 13), (50, 13), (50, 13), (50, 13), (50, 13), (50, 13), (50, 13), (50, 13), (50, 13), (50, 13), (52, 6), (52, 6), (50, 600), (50, 600), (50, 2), (50, 2), (50, 600), (50, 600), (50, 2), (50, 2), (52, 2), (52, 2), (50, 300), (50, 60), (50, 60), (50, 60), (50, 60), (50, 60), (50, 8), (50, 8), (50, 60), (50, 6266), (52, 104), (50, 10), (50, 8), (50, 100), (50, 100), (50, 100), (50, 100), (50, 100), (50, 601)]) (wrm m ((B.length : Nat) : Int) 3 (-1)) (nw τ89 50 (Int.toNat 601)) := Mk.nw h89 (k := 45) rfl (by decide) (fun i => by rw [wrm_n (by omega)]; exact hm 45 i (by decide) (by decide))
  revert h90
  generalize nw τ89 50 (Int.toNat 601) = τ90
  intro h90
  refine pGo (s_putF (j := 72) pc11 fw_X11_148 dX11_init_368 (Mk.obB h90) rfl (by decide) (by decide) rfl rfl rfl (Or.inr ⟨_, rfl⟩) rfl) ?_
  have h91 : Mk (B ++ (11, 45) :: [(50, 1400), (53, 13), (50, 13), (50, 13), (50, 13), (50, 13), (50, 13), (50, 13), (50, 13), (50, 13), (50, 13), (50, 13), (50, 13), (50, 13), (52, 6), (52, 6), (50, 600), (50, 600), (50, 2), (50, 2), (50, 600), (50, 600), (50, 2), (50, 2), (52, 2), (52, 2), (50, 300), (50, 60), (50, 60), (50, 60), (50, 60), (50, 60), (50, 8), (50, 8), (50, 60), (50, 6266), (52, 104), (50, 10), (50, 8), (50, 100), (50, 100), (50, 100), (50, 100), (50, 100), (50, 601)]) (wrm m ((B.length : Nat) : Int) 3 (-1)) (fs1 τ90 ((B.length : Nat) : Int) 11 44) := Mk.fs h90
  revert h91
  generalize fs1 τ90 ((B.length : Nat) : Int) 11 44 = τ91
  intro h91
  refine pGo (s_aload_n dX11_init_371 rfl (by omega)) ?_
  refine pGo (s_sipush dX11_init_372 (by decide)) ?_
  refine pGoE (y := (((B.length : Nat) : Int) + 46)) (s_newaI ac_int (by decide) dX11_init_375) (Mk.len h91 rfl) ?_
  have h92 : Mk (B ++ (11, 45) :: [(50, 1400), (53, 13), (50, 13), (50, 13), (50, 13), (50, 13), (50, 13), (50, 13), (50, 13), (50, 13), (50, 13), (50, 13), (50, 13), (50, 13), (52, 6), (52, 6), (50, 600), (50, 600), (50, 2), (50, 2), (50, 600), (50, 600), (50, 2), (50, 2), (52, 2), (52, 2), (50, 300), (50, 60), (50, 60), (50, 60), (50, 60), (50, 60), (50, 8), (50, 8), (50, 60), (50, 6266), (52, 104), (50, 10), (50, 8), (50, 100), (50, 100), (50, 100), (50, 100), (50, 100), (50, 601), (50, 602)]) (wrm m ((B.length : Nat) : Int) 3 (-1)) (nw τ91 50 (Int.toNat 602)) := Mk.nw h91 (k := 46) rfl (by decide) (fun i => by rw [wrm_n (by omega)]; exact hm 46 i (by decide) (by decide))
  revert h92
  generalize nw τ91 50 (Int.toNat 602) = τ92
  intro h92
  refine pGo (s_putF (j := 73) pc11 fw_X11_151 dX11_init_377 (Mk.obB h92) rfl (by decide) (by decide) rfl rfl rfl (Or.inr ⟨_, rfl⟩) rfl) ?_
  have h93 : Mk (B ++ (11, 46) :: [(50, 1400), (53, 13), (50, 13), (50, 13), (50, 13), (50, 13), (50, 13), (50, 13), (50, 13), (50, 13), (50, 13), (50, 13), (50, 13), (50, 13), (52, 6), (52, 6), (50, 600), (50, 600), (50, 2), (50, 2), (50, 600), (50, 600), (50, 2), (50, 2), (52, 2), (52, 2), (50, 300), (50, 60), (50, 60), (50, 60), (50, 60), (50, 60), (50, 8), (50, 8), (50, 60), (50, 6266), (52, 104), (50, 10), (50, 8), (50, 100), (50, 100), (50, 100), (50, 100), (50, 100), (50, 601), (50, 602)]) (wrm m ((B.length : Nat) : Int) 3 (-1)) (fs1 τ92 ((B.length : Nat) : Int) 11 45) := Mk.fs h92
  revert h93
  generalize fs1 τ92 ((B.length : Nat) : Int) 11 45 = τ93
  intro h93
  refine pGo (s_aload_n dX11_init_380 rfl (by omega)) ?_
  refine pGo (s_sipush dX11_init_381 (by decide)) ?_
  refine pGoE (y := (((B.length : Nat) : Int) + 47)) (s_newaZ ac_boolean (by decide) dX11_init_384) (Mk.len h93 rfl) ?_
  have h94 : Mk (B ++ (11, 46) :: [(50, 1400), (53, 13), (50, 13), (50, 13), (50, 13), (50, 13), (50, 13), (50, 13), (50, 13), (50, 13), (50, 13), (50, 13), (50, 13), (50, 13), (52, 6), (52, 6), (50, 600), (50, 600), (50, 2), (50, 2), (50, 600), (50, 600), (50, 2), (50, 2), (52, 2), (52, 2), (50, 300), (50, 60), (50, 60), (50, 60), (50, 60), (50, 60), (50, 8), (50, 8), (50, 60), (50, 6266), (52, 104), (50, 10), (50, 8), (50, 100), (50, 100), (50, 100), (50, 100), (50, 100), (50, 601), (50, 602), (52, 6010)]) (wrm m ((B.length : Nat) : Int) 3 (-1)) (nw τ93 52 (Int.toNat 6010)) := Mk.nw h93 (k := 47) rfl (by decide) (fun i => by rw [wrm_n (by omega)]; exact hm 47 i (by decide) (by decide))
  revert h94
  generalize nw τ93 52 (Int.toNat 6010) = τ94
  intro h94
  refine pGo (s_putF (j := 74) pc11 fw_X11_154 dX11_init_386 (Mk.obB h94) rfl (by decide) (by decide) rfl rfl rfl (Or.inr ⟨_, rfl⟩) rfl) ?_
  have h95 : Mk (B ++ (11, 47) :: [(50, 1400), (53, 13), (50, 13), (50, 13), (50, 13), (50, 13), (50, 13), (50, 13), (50, 13), (50, 13), (50, 13), (50, 13), (50, 13), (50, 13), (52, 6), (52, 6), (50, 600), (50, 600), (50, 2), (50, 2), (50, 600), (50, 600), (50, 2), (50, 2), (52, 2), (52, 2), (50, 300), (50, 60), (50, 60), (50, 60), (50, 60), (50, 60), (50, 8), (50, 8), (50, 60), (50, 6266), (52, 104), (50, 10), (50, 8), (50, 100), (50, 100), (50, 100), (50, 100), (50, 100), (50, 601), (50, 602), (52, 6010)]) (wrm m ((B.length : Nat) : Int) 3 (-1)) (fs1 τ94 ((B.length : Nat) : Int) 11 46) := Mk.fs h94
  revert h95
  generalize fs1 τ94 ((B.length : Nat) : Int) 11 46 = τ95
  intro h95
  refine pGo (s_aload_n dX11_init_389 rfl (by omega)) ?_
  refine pGo (s_sipush dX11_init_390 (by decide)) ?_
  refine pGoE (y := (((B.length : Nat) : Int) + 48)) (s_newaZ ac_boolean (by decide) dX11_init_393) (Mk.len h95 rfl) ?_
  have h96 : Mk (B ++ (11, 47) :: [(50, 1400), (53, 13), (50, 13), (50, 13), (50, 13), (50, 13), (50, 13), (50, 13), (50, 13), (50, 13), (50, 13), (50, 13), (50, 13), (50, 13), (52, 6), (52, 6), (50, 600), (50, 600), (50, 2), (50, 2), (50, 600), (50, 600), (50, 2), (50, 2), (52, 2), (52, 2), (50, 300), (50, 60), (50, 60), (50, 60), (50, 60), (50, 60), (50, 8), (50, 8), (50, 60), (50, 6266), (52, 104), (50, 10), (50, 8), (50, 100), (50, 100), (50, 100), (50, 100), (50, 100), (50, 601), (50, 602), (52, 6010), (52, 6010)]) (wrm m ((B.length : Nat) : Int) 3 (-1)) (nw τ95 52 (Int.toNat 6010)) := Mk.nw h95 (k := 48) rfl (by decide) (fun i => by rw [wrm_n (by omega)]; exact hm 48 i (by decide) (by decide))
  revert h96
  generalize nw τ95 52 (Int.toNat 6010) = τ96
  intro h96
  refine pGo (s_putF (j := 75) pc11 fw_X11_157 dX11_init_395 (Mk.obB h96) rfl (by decide) (by decide) rfl rfl rfl (Or.inr ⟨_, rfl⟩) rfl) ?_
  have h97 : Mk (B ++ (11, 48) :: [(50, 1400), (53, 13), (50, 13), (50, 13), (50, 13), (50, 13), (50, 13), (50, 13), (50, 13), (50, 13), (50, 13), (50, 13), (50, 13), (50, 13), (52, 6), (52, 6), (50, 600), (50, 600), (50, 2), (50, 2), (50, 600), (50, 600), (50, 2), (50, 2), (52, 2), (52, 2), (50, 300), (50, 60), (50, 60), (50, 60), (50, 60), (50, 60), (50, 8), (50, 8), (50, 60), (50, 6266), (52, 104), (50, 10), (50, 8), (50, 100), (50, 100), (50, 100), (50, 100), (50, 100), (50, 601), (50, 602), (52, 6010), (52, 6010)]) (wrm m ((B.length : Nat) : Int) 3 (-1)) (fs1 τ96 ((B.length : Nat) : Int) 11 47) := Mk.fs h96
  revert h97
  generalize fs1 τ96 ((B.length : Nat) : Int) 11 47 = τ97
  intro h97
  refine pGo (s_aload_n dX11_init_398 rfl (by omega)) ?_
  refine pGo (s_sipush dX11_init_399 (by decide)) ?_
  refine pGoE (y := (((B.length : Nat) : Int) + 49)) (s_newaZ ac_boolean (by decide) dX11_init_402) (Mk.len h97 rfl) ?_
  have h98 : Mk (B ++ (11, 48) :: [(50, 1400), (53, 13), (50, 13), (50, 13), (50, 13), (50, 13), (50, 13), (50, 13), (50, 13), (50, 13), (50, 13), (50, 13), (50, 13), (50, 13), (52, 6), (52, 6), (50, 600), (50, 600), (50, 2), (50, 2), (50, 600), (50, 600), (50, 2), (50, 2), (52, 2), (52, 2), (50, 300), (50, 60), (50, 60), (50, 60), (50, 60), (50, 60), (50, 8), (50, 8), (50, 60), (50, 6266), (52, 104), (50, 10), (50, 8), (50, 100), (50, 100), (50, 100), (50, 100), (50, 100), (50, 601), (50, 602), (52, 6010), (52, 6010), (52, 6010)]) (wrm m ((B.length : Nat) : Int) 3 (-1)) (nw τ97 52 (Int.toNat 6010)) := Mk.nw h97 (k := 49) rfl (by decide) (fun i => by rw [wrm_n (by omega)]; exact hm 49 i (by decide) (by decide))
  revert h98
  generalize nw τ97 52 (Int.toNat 6010) = τ98
  intro h98
  refine pGo (s_putF (j := 76) pc11 fw_X11_160 dX11_init_404 (Mk.obB h98) rfl (by decide) (by decide) rfl rfl rfl (Or.inr ⟨_, rfl⟩) rfl) ?_
  have h99 : Mk (B ++ (11, 49) :: [(50, 1400), (53, 13), (50, 13), (50, 13), (50, 13), (50, 13), (50, 13), (50, 13), (50, 13), (50, 13), (50, 13), (50, 13), (50, 13), (50, 13), (52, 6), (52, 6), (50, 600), (50, 600), (50, 2), (50, 2), (50, 600), (50, 600), (50, 2), (50, 2), (52, 2), (52, 2), (50, 300), (50, 60), (50, 60), (50, 60), (50, 60), (50, 60), (50, 8), (50, 8), (50, 60), (50, 6266), (52, 104), (50, 10), (50, 8), (50, 100), (50, 100), (50, 100), (50, 100), (50, 100), (50, 601), (50, 602), (52, 6010), (52, 6010), (52, 6010)]) (wrm m ((B.length : Nat) : Int) 3 (-1)) (fs1 τ98 ((B.length : Nat) : Int) 11 48) := Mk.fs h98
  revert h99
  generalize fs1 τ98 ((B.length : Nat) : Int) 11 48 = τ99
  intro h99
  refine pGo (s_aload_n dX11_init_407 rfl (by omega)) ?_
  refine pGo (s_bipush dX11_init_408 (by decide)) ?_
  refine pGoE (y := (((B.length : Nat) : Int) + 50)) (s_newaI ac_int (by decide) dX11_init_410) (Mk.len h99 rfl) ?_
  have h100 : Mk (B ++ (11, 49) :: [(50, 1400), (53, 13), (50, 13), (50, 13), (50, 13), (50, 13), (50, 13), (50, 13), (50, 13), (50, 13), (50, 13), (50, 13), (50, 13), (50, 13), (52, 6), (52, 6), (50, 600), (50, 600), (50, 2), (50, 2), (50, 600), (50, 600), (50, 2), (50, 2), (52, 2), (52, 2), (50, 300), (50, 60), (50, 60), (50, 60), (50, 60), (50, 60), (50, 8), (50, 8), (50, 60), (50, 6266), (52, 104), (50, 10), (50, 8), (50, 100), (50, 100), (50, 100), (50, 100), (50, 100), (50, 601), (50, 602), (52, 6010), (52, 6010), (52, 6010), (50, 20)]) (wrm m ((B.length : Nat) : Int) 3 (-1)) (nw τ99 50 (Int.toNat 20)) := Mk.nw h99 (k := 50) rfl (by decide) (fun i => by rw [wrm_n (by omega)]; exact hm 50 i (by decide) (by decide))
  revert h100
  generalize nw τ99 50 (Int.toNat 20) = τ100
  intro h100
  refine pGo (s_putF (j := 79) pc11 fw_X11_163 dX11_init_412 (Mk.obB h100) rfl (by decide) (by decide) rfl rfl rfl (Or.inr ⟨_, rfl⟩) rfl) ?_
  have h101 : Mk (B ++ (11, 50) :: [(50, 1400), (53, 13), (50, 13), (50, 13), (50, 13), (50, 13), (50, 13), (50, 13), (50, 13), (50, 13), (50, 13), (50, 13), (50, 13), (50, 13), (52, 6), (52, 6), (50, 600), (50, 600), (50, 2), (50, 2), (50, 600), (50, 600), (50, 2), (50, 2), (52, 2), (52, 2), (50, 300), (50, 60), (50, 60), (50, 60), (50, 60), (50, 60), (50, 8), (50, 8), (50, 60), (50, 6266), (52, 104), (50, 10), (50, 8), (50, 100), (50, 100), (50, 100), (50, 100), (50, 100), (50, 601), (50, 602), (52, 6010), (52, 6010), (52, 6010), (50, 20)]) (wrm m ((B.length : Nat) : Int) 3 (-1)) (fs1 τ100 ((B.length : Nat) : Int) 11 49) := Mk.fs h100
  revert h101
  generalize fs1 τ100 ((B.length : Nat) : Int) 11 49 = τ101
  intro h101
  refine pGo (s_aload_n dX11_init_415 rfl (by omega)) ?_
  refine pGo (s_bipush dX11_init_416 (by decide)) ?_
  refine pGoE (y := (((B.length : Nat) : Int) + 51)) (s_newaI ac_int (by decide) dX11_init_418) (Mk.len h101 rfl) ?_
  have h102 : Mk (B ++ (11, 50) :: [(50, 1400), (53, 13), (50, 13), (50, 13), (50, 13), (50, 13), (50, 13), (50, 13), (50, 13), (50, 13), (50, 13), (50, 13), (50, 13), (50, 13), (52, 6), (52, 6), (50, 600), (50, 600), (50, 2), (50, 2), (50, 600), (50, 600), (50, 2), (50, 2), (52, 2), (52, 2), (50, 300), (50, 60), (50, 60), (50, 60), (50, 60), (50, 60), (50, 8), (50, 8), (50, 60), (50, 6266), (52, 104), (50, 10), (50, 8), (50, 100), (50, 100), (50, 100), (50, 100), (50, 100), (50, 601), (50, 602), (52, 6010), (52, 6010), (52, 6010), (50, 20), (50, 20)]) (wrm m ((B.length : Nat) : Int) 3 (-1)) (nw τ101 50 (Int.toNat 20)) := Mk.nw h101 (k := 51) rfl (by decide) (fun i => by rw [wrm_n (by omega)]; exact hm 51 i (by decide) (by decide))
  revert h102
  generalize nw τ101 50 (Int.toNat 20) = τ102
  intro h102
  refine pGo (s_putF (j := 80) pc11 fw_X11_166 dX11_init_420 (Mk.obB h102) rfl (by decide) (by decide) rfl rfl rfl (Or.inr ⟨_, rfl⟩) rfl) ?_
  have h103 : Mk (B ++ (11, 51) :: [(50, 1400), (53, 13), (50, 13), (50, 13), (50, 13), (50, 13), (50, 13), (50, 13), (50, 13), (50, 13), (50, 13), (50, 13), (50, 13), (50, 13), (52, 6), (52, 6), (50, 600), (50, 600), (50, 2), (50, 2), (50, 600), (50, 600), (50, 2), (50, 2), (52, 2), (52, 2), (50, 300), (50, 60), (50, 60), (50, 60), (50, 60), (50, 60), (50, 8), (50, 8), (50, 60), (50, 6266), (52, 104), (50, 10), (50, 8), (50, 100), (50, 100), (50, 100), (50, 100), (50, 100), (50, 601), (50, 602), (52, 6010), (52, 6010), (52, 6010), (50, 20), (50, 20)]) (wrm m ((B.length : Nat) : Int) 3 (-1)) (fs1 τ102 ((B.length : Nat) : Int) 11 50) := Mk.fs h102
  revert h103
  generalize fs1 τ102 ((B.length : Nat) : Int) 11 50 = τ103
  intro h103
  refine pGo (s_aload_n dX11_init_423 rfl (by omega)) ?_
  refine pGo (s_bipush dX11_init_424 (by decide)) ?_
  refine pGoE (y := (((B.length : Nat) : Int) + 52)) (s_newaI ac_int (by decide) dX11_init_426) (Mk.len h103 rfl) ?_
  have h104 : Mk (B ++ (11, 51) :: [(50, 1400), (53, 13), (50, 13), (50, 13), (50, 13), (50, 13), (50, 13), (50, 13), (50, 13), (50, 13), (50, 13), (50, 13), (50, 13), (50, 13), (52, 6), (52, 6), (50, 600), (50, 600), (50, 2), (50, 2), (50, 600), (50, 600), (50, 2), (50, 2), (52, 2), (52, 2), (50, 300), (50, 60), (50, 60), (50, 60), (50, 60), (50, 60), (50, 8), (50, 8), (50, 60), (50, 6266), (52, 104), (50, 10), (50, 8), (50, 100), (50, 100), (50, 100), (50, 100), (50, 100), (50, 601), (50, 602), (52, 6010), (52, 6010), (52, 6010), (50, 20), (50, 20), (50, 60)]) (wrm m ((B.length : Nat) : Int) 3 (-1)) (nw τ103 50 (Int.toNat 60)) := Mk.nw h103 (k := 52) rfl (by decide) (fun i => by rw [wrm_n (by omega)]; exact hm 52 i (by decide) (by decide))
  revert h104
  generalize nw τ103 50 (Int.toNat 60) = τ104
  intro h104
  refine pGo (s_putF (j := 81) pc11 fw_X11_169 dX11_init_428 (Mk.obB h104) rfl (by decide) (by decide) rfl rfl rfl (Or.inr ⟨_, rfl⟩) rfl) ?_
  have h105 : Mk (B ++ (11, 52) :: [(50, 1400), (53, 13), (50, 13), (50, 13), (50, 13), (50, 13), (50, 13), (50, 13), (50, 13), (50, 13), (50, 13), (50, 13), (50, 13), (50, 13), (52, 6), (52, 6), (50, 600), (50, 600), (50, 2), (50, 2), (50, 600), (50, 600), (50, 2), (50, 2), (52, 2), (52, 2), (50, 300), (50, 60), (50, 60), (50, 60), (50, 60), (50, 60), (50, 8), (50, 8), (50, 60), (50, 6266), (52, 104), (50, 10), (50, 8), (50, 100), (50, 100), (50, 100), (50, 100), (50, 100), (50, 601), (50, 602), (52, 6010), (52, 6010), (52, 6010), (50, 20), (50, 20), (50, 60)]) (wrm m ((B.length : Nat) : Int) 3 (-1)) (fs1 τ104 ((B.length : Nat) : Int) 11 51) := Mk.fs h104
  revert h105
  generalize fs1 τ104 ((B.length : Nat) : Int) 11 51 = τ105
  intro h105
  refine pGo (s_aload_n dX11_init_431 rfl (by omega)) ?_
  refine pGo (s_bipush dX11_init_432 (by decide)) ?_
  refine pGoE (y := (((B.length : Nat) : Int) + 53)) (s_newaI ac_int (by decide) dX11_init_434) (Mk.len h105 rfl) ?_
  have h106 : Mk (B ++ (11, 52) :: [(50, 1400), (53, 13), (50, 13), (50, 13), (50, 13), (50, 13), (50, 13), (50, 13), (50, 13), (50, 13), (50, 13), (50, 13), (50, 13), (50, 13), (52, 6), (52, 6), (50, 600), (50, 600), (50, 2), (50, 2), (50, 600), (50, 600), (50, 2), (50, 2), (52, 2), (52, 2), (50, 300), (50, 60), (50, 60), (50, 60), (50, 60), (50, 60), (50, 8), (50, 8), (50, 60), (50, 6266), (52, 104), (50, 10), (50, 8), (50, 100), (50, 100), (50, 100), (50, 100), (50, 100), (50, 601), (50, 602), (52, 6010), (52, 6010), (52, 6010), (50, 20), (50, 20), (50, 60), (50, 10)]) (wrm m ((B.length : Nat) : Int) 3 (-1)) (nw τ105 50 (Int.toNat 10)) := Mk.nw h105 (k := 53) rfl (by decide) (fun i => by rw [wrm_n (by omega)]; exact hm 53 i (by decide) (by decide))
  revert h106
  generalize nw τ105 50 (Int.toNat 10) = τ106
  intro h106
  refine pGo (s_putF (j := 82) pc11 fw_X11_172 dX11_init_436 (Mk.obB h106) rfl (by decide) (by decide) rfl rfl rfl (Or.inr ⟨_, rfl⟩) rfl) ?_
  have h107 : Mk (B ++ (11, 53) :: [(50, 1400), (53, 13), (50, 13), (50, 13), (50, 13), (50, 13), (50, 13), (50, 13), (50, 13), (50, 13), (50, 13), (50, 13), (50, 13), (50, 13), (52, 6), (52, 6), (50, 600), (50, 600), (50, 2), (50, 2), (50, 600), (50, 600), (50, 2), (50, 2), (52, 2), (52, 2), (50, 300), (50, 60), (50, 60), (50, 60), (50, 60), (50, 60), (50, 8), (50, 8), (50, 60), (50, 6266), (52, 104), (50, 10), (50, 8), (50, 100), (50, 100), (50, 100), (50, 100), (50, 100), (50, 601), (50, 602), (52, 6010), (52, 6010), (52, 6010), (50, 20), (50, 20), (50, 60), (50, 10)]) (wrm m ((B.length : Nat) : Int) 3 (-1)) (fs1 τ106 ((B.length : Nat) : Int) 11 52) := Mk.fs h106
  revert h107
  generalize fs1 τ106 ((B.length : Nat) : Int) 11 52 = τ107
  intro h107
  refine pGo (s_aload_n dX11_init_439 rfl (by omega)) ?_
  refine pGo (s_bipush dX11_init_440 (by decide)) ?_
  refine pGoE (y := (((B.length : Nat) : Int) + 54)) (s_newaI ac_int (by decide) dX11_init_442) (Mk.len h107 rfl) ?_
  have h108 : Mk (B ++ (11, 53) :: [(50, 1400), (53, 13), (50, 13), (50, 13), (50, 13), (50, 13), (50, 13), (50, 13), (50, 13), (50, 13), (50, 13), (50, 13), (50, 13), (50, 13), (52, 6), (52, 6), (50, 600), (50, 600), (50, 2), (50, 2), (50, 600), (50, 600), (50, 2), (50, 2), (52, 2), (52, 2), (50, 300), (50, 60), (50, 60), (50, 60), (50, 60), (50, 60), (50, 8), (50, 8), (50, 60), (50, 6266), (52, 104), (50, 10), (50, 8), (50, 100), (50, 100), (50, 100), (50, 100), (50, 100), (50, 601), (50, 602), (52, 6010), (52, 6010), (52, 6010), (50, 20), (50, 20), (50, 60), (50, 10), (50, 10)]) (wrm m ((B.length : Nat) : Int) 3 (-1)) (nw τ107 50 (Int.toNat 10)) := Mk.nw h107 (k := 54) rfl (by decide) (fun i => by rw [wrm_n (by omega)]; exact hm 54 i (by decide) (by decide))
  revert h108
  generalize nw τ107 50 (Int.toNat 10) = τ108
  intro h108
  refine pGo (s_putF (j := 83) pc11 fw_X11_175 dX11_init_444 (Mk.obB h108) rfl (by decide) (by decide) rfl rfl rfl (Or.inr ⟨_, rfl⟩) rfl) ?_
  have h109 : Mk (B ++ (11, 54) :: [(50, 1400), (53, 13), (50, 13), (50, 13), (50, 13), (50, 13), (50, 13), (50, 13), (50, 13), (50, 13), (50, 13), (50, 13), (50, 13), (50, 13), (52, 6), (52, 6), (50, 600), (50, 600), (50, 2), (50, 2), (50, 600), (50, 600), (50, 2), (50, 2), (52, 2), (52, 2), (50, 300), (50, 60), (50, 60), (50, 60), (50, 60), (50, 60), (50, 8), (50, 8), (50, 60), (50, 6266), (52, 104), (50, 10), (50, 8), (50, 100), (50, 100), (50, 100), (50, 100), (50, 100), (50, 601), (50, 602), (52, 6010), (52, 6010), (52, 6010), (50, 20), (50, 20), (50, 60), (50, 10), (50, 10)]) (wrm m ((B.length : Nat) : Int) 3 (-1)) (fs1 τ108 ((B.length : Nat) : Int) 11 53) := Mk.fs h108
  revert h109
  generalize fs1 τ108 ((B.length : Nat) : Int) 11 53 = τ109
  intro h109
  refine pGo (s_aload_n dX11_init_447 rfl (by omega)) ?_
  refine pGo (s_bipush dX11_init_448 (by decide)) ?_
  refine pGoE (y := (((B.length : Nat) : Int) + 55)) (s_newaI ac_int (by decide) dX11_init_450) (Mk.len h109 rfl) ?_
  have h110 : Mk (B ++ (11, 54) :: [(50, 1400), (53, 13), (50, 13), (50, 13), (50, 13), (50, 13), (50, 13), (50, 13), (50, 13), (50, 13), (50, 13), (50, 13), (50, 13), (50, 13), (52, 6), (52, 6), (50, 600), (50, 600), (50, 2), (50, 2), (50, 600), (50, 600), (50, 2), (50, 2), (52, 2), (52, 2), (50, 300), (50, 60), (50, 60), (50, 60), (50, 60), (50, 60), (50, 8), (50, 8), (50, 60), (50, 6266), (52, 104), (50, 10), (50, 8), (50, 100), (50, 100), (50, 100), (50, 100), (50, 100), (50, 601), (50, 602), (52, 6010), (52, 6010), (52, 6010), (50, 20), (50, 20), (50, 60), (50, 10), (50, 10), (50, 7)]) (wrm m ((B.length : Nat) : Int) 3 (-1)) (nw τ109 50 (Int.toNat 7)) := Mk.nw h109 (k := 55) rfl (by decide) (fun i => by rw [wrm_n (by omega)]; exact hm 55 i (by decide) (by decide))
  revert h110
  generalize nw τ109 50 (Int.toNat 7) = τ110
  intro h110
  refine pGo (s_putF (j := 84) pc11 fw_X11_178 dX11_init_452 (Mk.obB h110) rfl (by decide) (by decide) rfl rfl rfl (Or.inr ⟨_, rfl⟩) rfl) ?_
  have h111 : Mk (B ++ (11, 55) :: [(50, 1400), (53, 13), (50, 13), (50, 13), (50, 13), (50, 13), (50, 13), (50, 13), (50, 13), (50, 13), (50, 13), (50, 13), (50, 13), (50, 13), (52, 6), (52, 6), (50, 600), (50, 600), (50, 2), (50, 2), (50, 600), (50, 600), (50, 2), (50, 2), (52, 2), (52, 2), (50, 300), (50, 60), (50, 60), (50, 60), (50, 60), (50, 60), (50, 8), (50, 8), (50, 60), (50, 6266), (52, 104), (50, 10), (50, 8), (50, 100), (50, 100), (50, 100), (50, 100), (50, 100), (50, 601), (50, 602), (52, 6010), (52, 6010), (52, 6010), (50, 20), (50, 20), (50, 60), (50, 10), (50, 10), (50, 7)]) (wrm m ((B.length : Nat) : Int) 3 (-1)) (fs1 τ110 ((B.length : Nat) : Int) 11 54) := Mk.fs h110
  revert h111
  generalize fs1 τ110 ((B.length : Nat) : Int) 11 54 = τ111
  intro h111
  refine pGo (s_aload_n dX11_init_455 rfl (by omega)) ?_
  refine pGo (s_bipush dX11_init_456 (by decide)) ?_
  refine pGoE (y := (((B.length : Nat) : Int) + 56)) (s_newaI ac_int (by decide) dX11_init_458) (Mk.len h111 rfl) ?_
  have h112 : Mk (B ++ (11, 55) :: [(50, 1400), (53, 13), (50, 13), (50, 13), (50, 13), (50, 13), (50, 13), (50, 13), (50, 13), (50, 13), (50, 13), (50, 13), (50, 13), (50, 13), (52, 6), (52, 6), (50, 600), (50, 600), (50, 2), (50, 2), (50, 600), (50, 600), (50, 2), (50, 2), (52, 2), (52, 2), (50, 300), (50, 60), (50, 60), (50, 60), (50, 60), (50, 60), (50, 8), (50, 8), (50, 60), (50, 6266), (52, 104), (50, 10), (50, 8), (50, 100), (50, 100), (50, 100), (50, 100), (50, 100), (50, 601), (50, 602), (52, 6010), (52, 6010), (52, 6010), (50, 20), (50, 20), (50, 60), (50, 10), (50, 10), (50, 7), (50, 10)]) (wrm m ((B.length : Nat) : Int) 3 (-1)) (nw τ111 50 (Int.toNat 10)) := Mk.nw h111 (k := 56) rfl (by decide) (fun i => by rw [wrm_n (by omega)]; exact hm 56 i (by decide) (by decide))
  revert h112
  generalize nw τ111 50 (Int.toNat 10) = τ112
  intro h112
  refine pGo (s_putF (j := 85) pc11 fw_X11_181 dX11_init_460 (Mk.obB h112) rfl (by decide) (by decide) rfl rfl rfl (Or.inr ⟨_, rfl⟩) rfl) ?_
  have h113 : Mk (B ++ (11, 56) :: [(50, 1400), (53, 13), (50, 13), (50, 13), (50, 13), (50, 13), (50, 13), (50, 13), (50, 13), (50, 13), (50, 13), (50, 13), (50, 13), (50, 13), (52, 6), (52, 6), (50, 600), (50, 600), (50, 2), (50, 2), (50, 600), (50, 600), (50, 2), (50, 2), (52, 2), (52, 2), (50, 300), (50, 60), (50, 60), (50, 60), (50, 60), (50, 60), (50, 8), (50, 8), (50, 60), (50, 6266), (52, 104), (50, 10), (50, 8), (50, 100), (50, 100), (50, 100), (50, 100), (50, 100), (50, 601), (50, 602), (52, 6010), (52, 6010), (52, 6010), (50, 20), (50, 20), (50, 60), (50, 10), (50, 10), (50, 7), (50, 10)]) (wrm m ((B.length : Nat) : Int) 3 (-1)) (fs1 τ112 ((B.length : Nat) : Int) 11 55) := Mk.fs h112
  revert h113
  generalize fs1 τ112 ((B.length : Nat) : Int) 11 55 = τ113
  intro h113
  refine pGo (s_aload_n dX11_init_463 rfl (by omega)) ?_
  refine pGo (s_bipush dX11_init_464 (by decide)) ?_
  refine pGoE (y := (((B.length : Nat) : Int) + 57)) (s_newaI ac_int (by decide) dX11_init_466) (Mk.len h113 rfl) ?_
  have h114 : Mk (B ++ (11, 56) :: [(50, 1400), (53, 13), (50, 13), (50, 13), (50, 13), (50, 13), (50, 13), (50, 13), (50, 13), (50, 13), (50, 13), (50, 13), (50, 13), (50, 13), (52, 6), (52, 6), (50, 600), (50, 600), (50, 2), (50, 2), (50, 600), (50, 600), (50, 2), (50, 2), (52, 2), (52, 2), (50, 300), (50, 60), (50, 60), (50, 60), (50, 60), (50, 60), (50, 8), (50, 8), (50, 60), (50, 6266), (52, 104), (50, 10), (50, 8), (50, 100), (50, 100), (50, 100), (50, 100), (50, 100), (50, 601), (50, 602), (52, 6010), (52, 6010), (52, 6010), (50, 20), (50, 20), (50, 60), (50, 10), (50, 10), (50, 7), (50, 10), (50, 6)]) (wrm m ((B.length : Nat) : Int) 3 (-1)) (nw τ113 50 (Int.toNat 6)) := Mk.nw h113 (k := 57) rfl (by decide) (fun i => by rw [wrm_n (by omega)]; exact hm 57 i (by decide) (by decide))
  revert h114
  generalize nw τ113 50 (Int.toNat 6) = τ114
  intro h114
  refine pGo (s_putF (j := 86) pc11 fw_X11_184 dX11_init_468 (Mk.obB h114) rfl (by decide) (by decide) rfl rfl rfl (Or.inr ⟨_, rfl⟩) rfl) ?_
  have h115 : Mk (B ++ (11, 57) :: [(50, 1400), (53, 13), (50, 13), (50, 13), (50, 13), (50, 13), (50, 13), (50, 13), (50, 13), (50, 13), (50, 13), (50, 13), (50, 13), (50, 13), (52, 6), (52, 6), (50, 600), (50, 600), (50, 2), (50, 2), (50, 600), (50, 600), (50, 2), (50, 2), (52, 2), (52, 2), (50, 300), (50, 60), (50, 60), (50, 60), (50, 60), (50, 60), (50, 8), (50, 8), (50, 60), (50, 6266), (52, 104), (50, 10), (50, 8), (50, 100), (50, 100), (50, 100), (50, 100), (50, 100), (50, 601), (50, 602), (52, 6010), (52, 6010), (52, 6010), (50, 20), (50, 20), (50, 60), (50, 10), (50, 10), (50, 7), (50, 10), (50, 6)]) (wrm m ((B.length : Nat) : Int) 3 (-1)) (fs1 τ114 ((B.length : Nat) : Int) 11 56) := Mk.fs h114
  revert h115
  generalize fs1 τ114 ((B.length : Nat) : Int) 11 56 = τ115
  intro h115
  refine pGo (s_aload_n dX11_init_471 rfl (by omega)) ?_
  refine pGo (s_sipush dX11_init_472 (by decide)) ?_
  refine pGoE (y := (((B.length : Nat) : Int) + 58)) (s_newaI ac_int (by decide) dX11_init_475) (Mk.len h115 rfl) ?_
  have h116 : Mk (B ++ (11, 57) :: [(50, 1400), (53, 13), (50, 13), (50, 13), (50, 13), (50, 13), (50, 13), (50, 13), (50, 13), (50, 13), (50, 13), (50, 13), (50, 13), (50, 13), (52, 6), (52, 6), (50, 600), (50, 600), (50, 2), (50, 2), (50, 600), (50, 600), (50, 2), (50, 2), (52, 2), (52, 2), (50, 300), (50, 60), (50, 60), (50, 60), (50, 60), (50, 60), (50, 8), (50, 8), (50, 60), (50, 6266), (52, 104), (50, 10), (50, 8), (50, 100), (50, 100), (50, 100), (50, 100), (50, 100), (50, 601), (50, 602), (52, 6010), (52, 6010), (52, 6010), (50, 20), (50, 20), (50, 60), (50, 10), (50, 10), (50, 7), (50, 10), (50, 6), (50, 5410)]) (wrm m ((B.length : Nat) : Int) 3 (-1)) (nw τ115 50 (Int.toNat 5410)) := Mk.nw h115 (k := 58) rfl (by decide) (fun i => by rw [wrm_n (by omega)]; exact hm 58 i (by decide) (by decide))
  revert h116
  generalize nw τ115 50 (Int.toNat 5410) = τ116
  intro h116
  refine pGo (s_putF (j := 87) pc11 fw_X11_187 dX11_init_477 (Mk.obB h116) rfl (by decide) (by decide) rfl rfl rfl (Or.inr ⟨_, rfl⟩) rfl) ?_
  have h117 : Mk (B ++ (11, 58) :: [(50, 1400), (53, 13), (50, 13), (50, 13), (50, 13), (50, 13), (50, 13), (50, 13), (50, 13), (50, 13), (50, 13), (50, 13), (50, 13), (50, 13), (52, 6), (52, 6), (50, 600), (50, 600), (50, 2), (50, 2), (50, 600), (50, 600), (50, 2), (50, 2), (52, 2), (52, 2), (50, 300), (50, 60), (50, 60), (50, 60), (50, 60), (50, 60), (50, 8), (50, 8), (50, 60), (50, 6266), (52, 104), (50, 10), (50, 8), (50, 100), (50, 100), (50, 100), (50, 100), (50, 100), (50, 601), (50, 602), (52, 6010), (52, 6010), (52, 6010), (50, 20), (50, 20), (50, 60), (50, 10), (50, 10), (50, 7), (50, 10), (50, 6), (50, 5410)]) (wrm m ((B.length : Nat) : Int) 3 (-1)) (fs1 τ116 ((B.length : Nat) : Int) 11 57) := Mk.fs h116
  revert h117
  generalize fs1 τ116 ((B.length : Nat) : Int) 11 57 = τ117
  intro h117
  refine pGo (s_aload_n dX11_init_480 rfl (by omega)) ?_
  refine pGo (s_bipush dX11_init_481 (by decide)) ?_
  refine pGoE (y := (((B.length : Nat) : Int) + 59)) (s_newaI ac_int (by decide) dX11_init_483) (Mk.len h117 rfl) ?_
  have h118 : Mk (B ++ (11, 58) :: [(50, 1400), (53, 13), (50, 13), (50, 13), (50, 13), (50, 13), (50, 13), (50, 13), (50, 13), (50, 13), (50, 13), (50, 13), (50, 13), (50, 13), (52, 6), (52, 6), (50, 600), (50, 600), (50, 2), (50, 2), (50, 600), (50, 600), (50, 2), (50, 2), (52, 2), (52, 2), (50, 300), (50, 60), (50, 60), (50, 60), (50, 60), (50, 60), (50, 8), (50, 8), (50, 60), (50, 6266), (52, 104), (50, 10), (50, 8), (50, 100), (50, 100), (50, 100), (50, 100), (50, 100), (50, 601), (50, 602), (52, 6010), (52, 6010), (52, 6010), (50, 20), (50, 20), (50, 60), (50, 10), (50, 10), (50, 7), (50, 10), (50, 6), (50, 5410), (50, 7)]) (wrm m ((B.length : Nat) : Int) 3 (-1)) (nw τ117 50 (Int.toNat 7)) := Mk.nw h117 (k := 59) rfl (by decide) (fun i => by rw [wrm_n (by omega)]; exact hm 59 i (by decide) (by decide))
  revert h118
  generalize nw τ117 50 (Int.toNat 7) = τ118
  intro h118
  refine pGo (s_putF (j := 88) pc11 fw_X11_190 dX11_init_485 (Mk.obB h118) rfl (by decide) (by decide) rfl rfl rfl (Or.inr ⟨_, rfl⟩) rfl) ?_
  have h119 : Mk (B ++ (11, 59) :: [(50, 1400), (53, 13), (50, 13), (50, 13), (50, 13), (50, 13), (50, 13), (50, 13), (50, 13), (50, 13), (50, 13), (50, 13), (50, 13), (50, 13), (52, 6), (52, 6), (50, 600), (50, 600), (50, 2), (50, 2), (50, 600), (50, 600), (50, 2), (50, 2), (52, 2), (52, 2), (50, 300), (50, 60), (50, 60), (50, 60), (50, 60), (50, 60), (50, 8), (50, 8), (50, 60), (50, 6266), (52, 104), (50, 10), (50, 8), (50, 100), (50, 100), (50, 100), (50, 100), (50, 100), (50, 601), (50, 602), (52, 6010), (52, 6010), (52, 6010), (50, 20), (50, 20), (50, 60), (50, 10), (50, 10), (50, 7), (50, 10), (50, 6), (50, 5410), (50, 7)]) (wrm m ((B.length : Nat) : Int) 3 (-1)) (fs1 τ118 ((B.length : Nat) : Int) 11 58) := Mk.fs h118
  revert h119
  generalize fs1 τ118 ((B.length : Nat) : Int) 11 58 = τ119
  intro h119
  refine pGo (s_aload_n dX11_init_488 rfl (by omega)) ?_
  refine pGo (s_bipush dX11_init_489 (by decide)) ?_
  refine pGoE (y := (((B.length : Nat) : Int) + 60)) (s_newaI ac_int (by decide) dX11_init_491) (Mk.len h119 rfl) ?_
  have h120 : Mk (B ++ (11, 59) :: [(50, 1400), (53, 13), (50, 13), (50, 13), (50, 13), (50, 13), (50, 13), (50, 13), (50, 13), (50, 13), (50, 13), (50, 13), (50, 13), (50, 13), (52, 6), (52, 6), (50, 600), (50, 600), (50, 2), (50, 2), (50, 600), (50, 600), (50, 2), (50, 2), (52, 2), (52, 2), (50, 300), (50, 60), (50, 60), (50, 60), (50, 60), (50, 60), (50, 8), (50, 8), (50, 60), (50, 6266), (52, 104), (50, 10), (50, 8), (50, 100), (50, 100), (50, 100), (50, 100), (50, 100), (50, 601), (50, 602), (52, 6010), (52, 6010), (52, 6010), (50, 20), (50, 20), (50, 60), (50, 10), (50, 10), (50, 7), (50, 10), (50, 6), (50, 5410), (50, 7), (50, 13)]) (wrm m ((B.length : Nat) : Int) 3 (-1)) (nw τ119 50 (Int.toNat 13)) := Mk.nw h119 (k := 60) rfl (by decide) (fun i => by rw [wrm_n (by omega)]; exact hm 60 i (by decide) (by decide))
  revert h120
  generalize nw τ119 50 (Int.toNat 13) = τ120
  intro h120
  refine pGo (s_putF (j := 89) pc11 fw_X11_193 dX11_init_493 (Mk.obB h120) rfl (by decide) (by decide) rfl rfl rfl (Or.inr ⟨_, rfl⟩) rfl) ?_
  have h121 : Mk (B ++ (11, 60) :: [(50, 1400), (53, 13), (50, 13), (50, 13), (50, 13), (50, 13), (50, 13), (50, 13), (50, 13), (50, 13), (50, 13), (50, 13), (50, 13), (50, 13), (52, 6), (52, 6), (50, 600), (50, 600), (50, 2), (50, 2), (50, 600), (50, 600), (50, 2), (50, 2), (52, 2), (52, 2), (50, 300), (50, 60), (50, 60), (50, 60), (50, 60), (50, 60), (50, 8), (50, 8), (50, 60), (50, 6266), (52, 104), (50, 10), (50, 8), (50, 100), (50, 100), (50, 100), (50, 100), (50, 100), (50, 601), (50, 602), (52, 6010), (52, 6010), (52, 6010), (50, 20), (50, 20), (50, 60), (50, 10), (50, 10), (50, 7), (50, 10), (50, 6), (50, 5410), (50, 7), (50, 13)]) (wrm m ((B.length : Nat) : Int) 3 (-1)) (fs1 τ120 ((B.length : Nat) : Int) 11 59) := Mk.fs h120
  revert h121
  generalize fs1 τ120 ((B.length : Nat) : Int) 11 59 = τ121
  intro h121
  refine pGo (s_aload_n dX11_init_496 rfl (by omega)) ?_
  refine pGo (s_bipush dX11_init_497 (by decide)) ?_
  refine pGoE (y := (((B.length : Nat) : Int) + 61)) (s_newaI ac_int (by decide) dX11_init_499) (Mk.len h121 rfl) ?_
  have h122 : Mk (B ++ (11, 60) :: [(50, 1400), (53, 13), (50, 13), (50, 13), (50, 13), (50, 13), (50, 13), (50, 13), (50, 13), (50, 13), (50, 13), (50, 13), (50, 13), (50, 13), (52, 6), (52, 6), (50, 600), (50, 600), (50, 2), (50, 2), (50, 600), (50, 600), (50, 2), (50, 2), (52, 2), (52, 2), (50, 300), (50, 60), (50, 60), (50, 60), (50, 60), (50, 60), (50, 8), (50, 8), (50, 60), (50, 6266), (52, 104), (50, 10), (50, 8), (50, 100), (50, 100), (50, 100), (50, 100), (50, 100), (50, 601), (50, 602), (52, 6010), (52, 6010), (52, 6010), (50, 20), (50, 20), (50, 60), (50, 10), (50, 10), (50, 7), (50, 10), (50, 6), (50, 5410), (50, 7), (50, 13), (50, 6)]) (wrm m ((B.length : Nat) : Int) 3 (-1)) (nw τ121 50 (Int.toNat 6)) := Mk.nw h121 (k := 61) rfl (by decide) (fun i => by rw [wrm_n (by omega)]; exact hm 61 i (by decide) (by decide))
  revert h122
  generalize nw τ121 50 (Int.toNat 6) = τ122
  intro h122
  refine pGo (s_putF (j := 90) pc11 fw_X11_196 dX11_init_501 (Mk.obB h122) rfl (by decide) (by decide) rfl rfl rfl (Or.inr ⟨_, rfl⟩) rfl) ?_
  have h123 : Mk (B ++ (11, 61) :: [(50, 1400), (53, 13), (50, 13), (50, 13), (50, 13), (50, 13), (50, 13), (50, 13), (50, 13), (50, 13), (50, 13), (50, 13), (50, 13), (50, 13), (52, 6), (52, 6), (50, 600), (50, 600), (50, 2), (50, 2), (50, 600), (50, 600), (50, 2), (50, 2), (52, 2), (52, 2), (50, 300), (50, 60), (50, 60), (50, 60), (50, 60), (50, 60), (50, 8), (50, 8), (50, 60), (50, 6266), (52, 104), (50, 10), (50, 8), (50, 100), (50, 100), (50, 100), (50, 100), (50, 100), (50, 601), (50, 602), (52, 6010), (52, 6010), (52, 6010), (50, 20), (50, 20), (50, 60), (50, 10), (50, 10), (50, 7), (50, 10), (50, 6), (50, 5410), (50, 7), (50, 13), (50, 6)]) (wrm m ((B.length : Nat) : Int) 3 (-1)) (fs1 τ122 ((B.length : Nat) : Int) 11 60) := Mk.fs h122
  revert h123
  generalize fs1 τ122 ((B.length : Nat) : Int) 11 60 = τ123
  intro h123
  refine pGo (s_aload_n dX11_init_504 rfl (by omega)) ?_
  refine pGo (s_sipush dX11_init_505 (by decide)) ?_
  refine pGoE (y := (((B.length : Nat) : Int) + 62)) (s_newaI ac_int (by decide) dX11_init_508) (Mk.len h123 rfl) ?_
  have h124 : Mk (B ++ (11, 61) :: [(50, 1400), (53, 13), (50, 13), (50, 13), (50, 13), (50, 13), (50, 13), (50, 13), (50, 13), (50, 13), (50, 13), (50, 13), (50, 13), (50, 13), (52, 6), (52, 6), (50, 600), (50, 600), (50, 2), (50, 2), (50, 600), (50, 600), (50, 2), (50, 2), (52, 2), (52, 2), (50, 300), (50, 60), (50, 60), (50, 60), (50, 60), (50, 60), (50, 8), (50, 8), (50, 60), (50, 6266), (52, 104), (50, 10), (50, 8), (50, 100), (50, 100), (50, 100), (50, 100), (50, 100), (50, 601), (50, 602), (52, 6010), (52, 6010), (52, 6010), (50, 20), (50, 20), (50, 60), (50, 10), (50, 10), (50, 7), (50, 10), (50, 6), (50, 5410), (50, 7), (50, 13), (50, 6), (50, 4800)]) (wrm m ((B.length : Nat) : Int) 3 (-1)) (nw τ123 50 (Int.toNat 4800)) := Mk.nw h123 (k := 62) rfl (by decide) (fun i => by rw [wrm_n (by omega)]; exact hm 62 i (by decide) (by decide))
  revert h124
  generalize nw τ123 50 (Int.toNat 4800) = τ124
  intro h124
  refine pGo (s_putF (j := 91) pc11 fw_X11_199 dX11_init_510 (Mk.obB h124) rfl (by decide) (by decide) rfl rfl rfl (Or.inr ⟨_, rfl⟩) rfl) ?_
  have h125 : Mk (B ++ (11, 62) :: [(50, 1400), (53, 13), (50, 13), (50, 13), (50, 13), (50, 13), (50, 13), (50, 13), (50, 13), (50, 13), (50, 13), (50, 13), (50, 13), (50, 13), (52, 6), (52, 6), (50, 600), (50, 600), (50, 2), (50, 2), (50, 600), (50, 600), (50, 2), (50, 2), (52, 2), (52, 2), (50, 300), (50, 60), (50, 60), (50, 60), (50, 60), (50, 60), (50, 8), (50, 8), (50, 60), (50, 6266), (52, 104), (50, 10), (50, 8), (50, 100), (50, 100), (50, 100), (50, 100), (50, 100), (50, 601), (50, 602), (52, 6010), (52, 6010), (52, 6010), (50, 20), (50, 20), (50, 60), (50, 10), (50, 10), (50, 7), (50, 10), (50, 6), (50, 5410), (50, 7), (50, 13), (50, 6), (50, 4800)]) (wrm m ((B.length : Nat) : Int) 3 (-1)) (fs1 τ124 ((B.length : Nat) : Int) 11 61) := Mk.fs h124
  revert h125
  generalize fs1 τ124 ((B.length : Nat) : Int) 11 61 = τ125
  intro h125
  refine pGo (s_aload_n dX11_init_513 rfl (by omega)) ?_
  refine pGo (s_sipush dX11_init_514 (by decide)) ?_
  refine pGoE (y := (((B.length : Nat) : Int) + 63)) (s_newaI ac_int (by decide) dX11_init_517) (Mk.len h125 rfl) ?_
  have h126 : Mk (B ++ (11, 62) :: [(50, 1400), (53, 13), (50, 13), (50, 13), (50, 13), (50, 13), (50, 13), (50, 13), (50, 13), (50, 13), (50, 13), (50, 13), (50, 13), (50, 13), (52, 6), (52, 6), (50, 600), (50, 600), (50, 2), (50, 2), (50, 600), (50, 600), (50, 2), (50, 2), (52, 2), (52, 2), (50, 300), (50, 60), (50, 60), (50, 60), (50, 60), (50, 60), (50, 8), (50, 8), (50, 60), (50, 6266), (52, 104), (50, 10), (50, 8), (50, 100), (50, 100), (50, 100), (50, 100), (50, 100), (50, 601), (50, 602), (52, 6010), (52, 6010), (52, 6010), (50, 20), (50, 20), (50, 60), (50, 10), (50, 10), (50, 7), (50, 10), (50, 6), (50, 5410), (50, 7), (50, 13), (50, 6), (50, 4800), (50, 4800)]) (wrm m ((B.length : Nat) : Int) 3 (-1)) (nw τ125 50 (Int.toNat 4800)) := Mk.nw h125 (k := 63) rfl (by decide) (fun i => by rw [wrm_n (by omega)]; exact hm 63 i (by decide) (by decide))
  revert h126
  generalize nw τ125 50 (Int.toNat 4800) = τ126
  intro h126
  refine pGo (s_putF (j := 92) pc11 fw_X11_202 dX11_init_519 (Mk.obB h126) rfl (by decide) (by decide) rfl rfl rfl (Or.inr ⟨_, rfl⟩) rfl) ?_
  have h127 : Mk (B ++ (11, 63) :: [(50, 1400), (53, 13), (50, 13), (50, 13), (50, 13), (50, 13), (50, 13), (50, 13), (50, 13), (50, 13), (50, 13), (50, 13), (50, 13), (50, 13), (52, 6), (52, 6), (50, 600), (50, 600), (50, 2), (50, 2), (50, 600), (50, 600), (50, 2), (50, 2), (52, 2), (52, 2), (50, 300), (50, 60), (50, 60), (50, 60), (50, 60), (50, 60), (50, 8), (50, 8), (50, 60), (50, 6266), (52, 104), (50, 10), (50, 8), (50, 100), (50, 100), (50, 100), (50, 100), (50, 100), (50, 601), (50, 602), (52, 6010), (52, 6010), (52, 6010), (50, 20), (50, 20), (50, 60), (50, 10), (50, 10), (50, 7), (50, 10), (50, 6), (50, 5410), (50, 7), (50, 13), (50, 6), (50, 4800), (50, 4800)]) (wrm m ((B.length : Nat) : Int) 3 (-1)) (fs1 τ126 ((B.length : Nat) : Int) 11 62) := Mk.fs h126
  revert h127
  generalize fs1 τ126 ((B.length : Nat) : Int) 11 62 = τ127
  intro h127
  refine pGo (s_aload_n dX11_init_522 rfl (by omega)) ?_
  refine pGo (s_sipush dX11_init_523 (by decide)) ?_
  refine pGoE (y := (((B.length : Nat) : Int) + 64)) (s_newaI ac_int (by decide) dX11_init_526) (Mk.len h127 rfl) ?_
  have h128 : Mk (B ++ (11, 63) :: [(50, 1400), (53, 13), (50, 13), (50, 13), (50, 13), (50, 13), (50, 13), (50, 13), (50, 13), (50, 13), (50, 13), (50, 13), (50, 13), (50, 13), (52, 6), (52, 6), (50, 600), (50, 600), (50, 2), (50, 2), (50, 600), (50, 600), (50, 2), (50, 2), (52, 2), (52, 2), (50, 300), (50, 60), (50, 60), (50, 60), (50, 60), (50, 60), (50, 8), (50, 8), (50, 60), (50, 6266), (52, 104), (50, 10), (50, 8), (50, 100), (50, 100), (50, 100), (50, 100), (50, 100), (50, 601), (50, 602), (52, 6010), (52, 6010), (52, 6010), (50, 20), (50, 20), (50, 60), (50, 10), (50, 10), (50, 7), (50, 10), (50, 6), (50, 5410), (50, 7), (50, 13), (50, 6), (50, 4800), (50, 4800), (50, 3360)]) (wrm m ((B.length : Nat) : Int) 3 (-1)) (nw τ127 50 (Int.toNat 3360)) := Mk.nw h127 (k := 64) rfl (by decide) (fun i => by rw [wrm_n (by omega)]; exact hm 64 i (by decide) (by decide))
  revert h128
  generalize nw τ127 50 (Int.toNat 3360) = τ128
  intro h128
  refine pGo (s_putF (j := 93) pc11 fw_X11_205 dX11_init_528 (Mk.obB h128) rfl (by decide) (by decide) rfl rfl rfl (Or.inr ⟨_, rfl⟩) rfl) ?_
  have h129 : Mk (B ++ (11, 64) :: [(50, 1400), (53, 13), (50, 13), (50, 13), (50, 13), (50, 13), (50, 13), (50, 13), (50, 13), (50, 13), (50, 13), (50, 13), (50, 13), (50, 13), (52, 6), (52, 6), (50, 600), (50, 600), (50, 2), (50, 2), (50, 600), (50, 600), (50, 2), (50, 2), (52, 2), (52, 2), (50, 300), (50, 60), (50, 60), (50, 60), (50, 60), (50, 60), (50, 8), (50, 8), (50, 60), (50, 6266), (52, 104), (50, 10), (50, 8), (50, 100), (50, 100), (50, 100), (50, 100), (50, 100), (50, 601), (50, 602), (52, 6010), (52, 6010), (52, 6010), (50, 20), (50, 20), (50, 60), (50, 10), (50, 10), (50, 7), (50, 10), (50, 6), (50, 5410), (50, 7), (50, 13), (50, 6), (50, 4800), (50, 4800), (50, 3360)]) (wrm m ((B.length : Nat) : Int) 3 (-1)) (fs1 τ128 ((B.length : Nat) : Int) 11 63) := Mk.fs h128
  revert h129
  generalize fs1 τ128 ((B.length : Nat) : Int) 11 63 = τ129
  intro h129
  refine pGo (s_aload_n dX11_init_531 rfl (by omega)) ?_
  refine pGo (s_bipush dX11_init_532 (by decide)) ?_
  refine pGoE (y := (((B.length : Nat) : Int) + 65)) (s_newaI ac_int (by decide) dX11_init_534) (Mk.len h129 rfl) ?_
  have h130 : Mk (B ++ (11, 64) :: [(50, 1400), (53, 13), (50, 13), (50, 13), (50, 13), (50, 13), (50, 13), (50, 13), (50, 13), (50, 13), (50, 13), (50, 13), (50, 13), (50, 13), (52, 6), (52, 6), (50, 600), (50, 600), (50, 2), (50, 2), (50, 600), (50, 600), (50, 2), (50, 2), (52, 2), (52, 2), (50, 300), (50, 60), (50, 60), (50, 60), (50, 60), (50, 60), (50, 8), (50, 8), (50, 60), (50, 6266), (52, 104), (50, 10), (50, 8), (50, 100), (50, 100), (50, 100), (50, 100), (50, 100), (50, 601), (50, 602), (52, 6010), (52, 6010), (52, 6010), (50, 20), (50, 20), (50, 60), (50, 10), (50, 10), (50, 7), (50, 10), (50, 6), (50, 5410), (50, 7), (50, 13), (50, 6), (50, 4800), (50, 4800), (50, 3360), (50, 100)]) (wrm m ((B.length : Nat) : Int) 3 (-1)) (nw τ129 50 (Int.toNat 100)) := Mk.nw h129 (k := 65) rfl (by decide) (fun i => by rw [wrm_n (by omega)]; exact hm 65 i (by decide) (by decide))
  revert h130
  generalize nw τ129 50 (Int.toNat 100) = τ130
  intro h130
  refine pGo (s_putF (j := 94) pc11 fw_X11_208 dX11_init_536 (Mk.obB h130) rfl (by decide) (by decide) rfl rfl rfl (Or.inr ⟨_, rfl⟩) rfl) ?_
  have h131 : Mk (B ++ (11, 65) :: [(50, 1400), (53, 13), (50, 13), (50, 13), (50, 13), (50, 13), (50, 13), (50, 13), (50, 13), (50, 13), (50, 13), (50, 13), (50, 13), (50, 13), (52, 6), (52, 6), (50, 600), (50, 600), (50, 2), (50, 2), (50, 600), (50, 600), (50, 2), (50, 2), (52, 2), (52, 2), (50, 300), (50, 60), (50, 60), (50, 60), (50, 60), (50, 60), (50, 8), (50, 8), (50, 60), (50, 6266), (52, 104), (50, 10), (50, 8), (50, 100), (50, 100), (50, 100), (50, 100), (50, 100), (50, 601), (50, 602), (52, 6010), (52, 6010), (52, 6010), (50, 20), (50, 20), (50, 60), (50, 10), (50, 10), (50, 7), (50, 10), (50, 6), (50, 5410), (50, 7), (50, 13), (50, 6), (50, 4800), (50, 4800), (50, 3360), (50, 100)]) (wrm m ((B.length : Nat) : Int) 3 (-1)) (fs1 τ130 ((B.length : Nat) : Int) 11 64) := Mk.fs h130
  revert h131
  generalize fs1 τ130 ((B.length : Nat) : Int) 11 64 = τ131
  intro h131
  refine pGo (s_aload_n dX11_init_539 rfl (by omega)) ?_
  refine pGo (s_bipush dX11_init_540 (by decide)) ?_
  refine pGoE (y := (((B.length : Nat) : Int) + 66)) (s_newaI ac_int (by decide) dX11_init_542) (Mk.len h131 rfl) ?_
  have h132 : Mk (B ++ (11, 65) :: [(50, 1400), (53, 13), (50, 13), (50, 13), (50, 13), (50, 13), (50, 13), (50, 13), (50, 13), (50, 13), (50, 13), (50, 13), (50, 13), (50, 13), (52, 6), (52, 6), (50, 600), (50, 600), (50, 2), (50, 2), (50, 600), (50, 600), (50, 2), (50, 2), (52, 2), (52, 2), (50, 300), (50, 60), (50, 60), (50, 60), (50, 60), (50, 60), (50, 8), (50, 8), (50, 60), (50, 6266), (52, 104), (50, 10), (50, 8), (50, 100), (50, 100), (50, 100), (50, 100), (50, 100), (50, 601), (50, 602), (52, 6010), (52, 6010), (52, 6010), (50, 20), (50, 20), (50, 60), (50, 10), (50, 10), (50, 7), (50, 10), (50, 6), (50, 5410), (50, 7), (50, 13), (50, 6), (50, 4800), (50, 4800), (50, 3360), (50, 100), (50, 8)]) (wrm m ((B.length : Nat) : Int) 3 (-1)) (nw τ131 50 (Int.toNat 8)) := Mk.nw h131 (k := 66) rfl (by decide) (fun i => by rw [wrm_n (by omega)]; exact hm 66 i (by decide) (by decide))
  revert h132
  generalize nw τ131 50 (Int.toNat 8) = τ132
  intro h132
  refine pGo (s_putF (j := 95) pc11 fw_X11_211 dX11_init_544 (Mk.obB h132) rfl (by decide) (by decide) rfl rfl rfl (Or.inr ⟨_, rfl⟩) rfl) ?_
  have h133 : Mk (B ++ (11, 66) :: [(50, 1400), (53, 13), (50, 13), (50, 13), (50, 13), (50, 13), (50, 13), (50, 13), (50, 13), (50, 13), (50, 13), (50, 13), (50, 13), (50, 13), (52, 6), (52, 6), (50, 600), (50, 600), (50, 2), (50, 2), (50, 600), (50, 600), (50, 2), (50, 2), (52, 2), (52, 2), (50, 300), (50, 60), (50, 60), (50, 60), (50, 60), (50, 60), (50, 8), (50, 8), (50, 60), (50, 6266), (52, 104), (50, 10), (50, 8), (50, 100), (50, 100), (50, 100), (50, 100), (50, 100), (50, 601), (50, 602), (52, 6010), (52, 6010), (52, 6010), (50, 20), (50, 20), (50, 60), (50, 10), (50, 10), (50, 7), (50, 10), (50, 6), (50, 5410), (50, 7), (50, 13), (50, 6), (50, 4800), (50, 4800), (50, 3360), (50, 100), (50, 8)]) (wrm m ((B.length : Nat) : Int) 3 (-1)) (fs1 τ132 ((B.length : Nat) : Int) 11 65) := Mk.fs h132
  revert h133
  generalize fs1 τ132 ((B.length : Nat) : Int) 11 65 = τ133
  intro h133
  refine pGo (s_aload_n dX11_init_547 rfl (by omega)) ?_
  refine pGo (s_bipush dX11_init_548 (by decide)) ?_
  refine pGoE (y := (((B.length : Nat) : Int) + 67)) (s_newaI ac_int (by decide) dX11_init_550) (Mk.len h133 rfl) ?_
  have h134 : Mk (B ++ (11, 66) :: [(50, 1400), (53, 13), (50, 13), (50, 13), (50, 13), (50, 13), (50, 13), (50, 13), (50, 13), (50, 13), (50, 13), (50, 13), (50, 13), (50, 13), (52, 6), (52, 6), (50, 600), (50, 600), (50, 2), (50, 2), (50, 600), (50, 600), (50, 2), (50, 2), (52, 2), (52, 2), (50, 300), (50, 60), (50, 60), (50, 60), (50, 60), (50, 60), (50, 8), (50, 8), (50, 60), (50, 6266), (52, 104), (50, 10), (50, 8), (50, 100), (50, 100), (50, 100), (50, 100), (50, 100), (50, 601), (50, 602), (52, 6010), (52, 6010), (52, 6010), (50, 20), (50, 20), (50, 60), (50, 10), (50, 10), (50, 7), (50, 10), (50, 6), (50, 5410), (50, 7), (50, 13), (50, 6), (50, 4800), (50, 4800), (50, 3360), (50, 100), (50, 8), (50, 8)]) (wrm m ((B.length : Nat) : Int) 3 (-1)) (nw τ133 50 (Int.toNat 8)) := Mk.nw h133 (k := 67) rfl (by decide) (fun i => by rw [wrm_n (by omega)]; exact hm 67 i (by decide) (by decide))
  revert h134
  generalize nw τ133 50 (Int.toNat 8) = τ134
  intro h134
  refine pGo (s_putF (j := 96) pc11 fw_X11_214 dX11_init_552 (Mk.obB h134) rfl (by decide) (by decide) rfl rfl rfl (Or.inr ⟨_, rfl⟩) rfl) ?_
  have h135 : Mk (B ++ (11, 67) :: [(50, 1400), (53, 13), (50, 13), (50, 13), (50, 13), (50, 13), (50, 13), (50, 13), (50, 13), (50, 13), (50, 13), (50, 13), (50, 13), (50, 13), (52, 6), (52, 6), (50, 600), (50, 600), (50, 2), (50, 2), (50, 600), (50, 600), (50, 2), (50, 2), (52, 2), (52, 2), (50, 300), (50, 60), (50, 60), (50, 60), (50, 60), (50, 60), (50, 8), (50, 8), (50, 60), (50, 6266), (52, 104), (50, 10), (50, 8), (50, 100), (50, 100), (50, 100), (50, 100), (50, 100), (50, 601), (50, 602), (52, 6010), (52, 6010), (52, 6010), (50, 20), (50, 20), (50, 60), (50, 10), (50, 10), (50, 7), (50, 10), (50, 6), (50, 5410), (50, 7), (50, 13), (50, 6), (50, 4800), (50, 4800), (50, 3360), (50, 100), (50, 8), (50, 8)]) (wrm m ((B.length : Nat) : Int) 3 (-1)) (fs1 τ134 ((B.length : Nat) : Int) 11 66) := Mk.fs h134
  revert h135
  generalize fs1 τ134 ((B.length : Nat) : Int) 11 66 = τ135
  intro h135
  refine pGo (s_aload_n dX11_init_555 rfl (by omega)) ?_
  refine pGo (s_bipush dX11_init_556 (by decide)) ?_
  refine pGoE (y := (((B.length : Nat) : Int) + 68)) (s_newaI ac_int (by decide) dX11_init_558) (Mk.len h135 rfl) ?_
  have h136 : Mk (B ++ (11, 67) :: [(50, 1400), (53, 13), (50, 13), (50, 13), (50, 13), (50, 13), (50, 13), (50, 13), (50, 13), (50, 13), (50, 13), (50, 13), (50, 13), (50, 13), (52, 6), (52, 6), (50, 600), (50, 600), (50, 2), (50, 2), (50, 600), (50, 600), (50, 2), (50, 2), (52, 2), (52, 2), (50, 300), (50, 60), (50, 60), (50, 60), (50, 60), (50, 60), (50, 8), (50, 8), (50, 60), (50, 6266), (52, 104), (50, 10), (50, 8), (50, 100), (50, 100), (50, 100), (50, 100), (50, 100), (50, 601), (50, 602), (52, 6010), (52, 6010), (52, 6010), (50, 20), (50, 20), (50, 60), (50, 10), (50, 10), (50, 7), (50, 10), (50, 6), (50, 5410), (50, 7), (50, 13), (50, 6), (50, 4800), (50, 4800), (50, 3360), (50, 100), (50, 8), (50, 8), (50, 8)]) (wrm m ((B.length : Nat) : Int) 3 (-1)) (nw τ135 50 (Int.toNat 8)) := Mk.nw h135 (k := 68) rfl (by decide) (fun i => by rw [wrm_n (by omega)]; exact hm 68 i (by decide) (by decide))
  revert h136
  generalize nw τ135 50 (Int.toNat 8) = τ136
  intro h136
  refine pGo (s_putF (j := 97) pc11 fw_X11_217 dX11_init_560 (Mk.obB h136) rfl (by decide) (by decide) rfl rfl rfl (Or.inr ⟨_, rfl⟩) rfl) ?_
  have h137 : Mk (B ++ (11, 68) :: [(50, 1400), (53, 13), (50, 13), (50, 13), (50, 13), (50, 13), (50, 13), (50, 13), (50, 13), (50, 13), (50, 13), (50, 13), (50, 13), (50, 13), (52, 6), (52, 6), (50, 600), (50, 600), (50, 2), (50, 2), (50, 600), (50, 600), (50, 2), (50, 2), (52, 2), (52, 2), (50, 300), (50, 60), (50, 60), (50, 60), (50, 60), (50, 60), (50, 8), (50, 8), (50, 60), (50, 6266), (52, 104), (50, 10), (50, 8), (50, 100), (50, 100), (50, 100), (50, 100), (50, 100), (50, 601), (50, 602), (52, 6010), (52, 6010), (52, 6010), (50, 20), (50, 20), (50, 60), (50, 10), (50, 10), (50, 7), (50, 10), (50, 6), (50, 5410), (50, 7), (50, 13), (50, 6), (50, 4800), (50, 4800), (50, 3360), (50, 100), (50, 8), (50, 8), (50, 8)]) (wrm m ((B.length : Nat) : Int) 3 (-1)) (fs1 τ136 ((B.length : Nat) : Int) 11 67) := Mk.fs h136
  revert h137
  generalize fs1 τ136 ((B.length : Nat) : Int) 11 67 = τ137
  intro h137
  refine pGo (s_aload_n dX11_init_563 rfl (by omega)) ?_
  refine pGo (s_bipush dX11_init_564 (by decide)) ?_
  refine pGoE (y := (((B.length : Nat) : Int) + 69)) (s_newaI ac_int (by decide) dX11_init_566) (Mk.len h137 rfl) ?_
  have h138 : Mk (B ++ (11, 68) :: [(50, 1400), (53, 13), (50, 13), (50, 13), (50, 13), (50, 13), (50, 13), (50, 13), (50, 13), (50, 13), (50, 13), (50, 13), (50, 13), (50, 13), (52, 6), (52, 6), (50, 600), (50, 600), (50, 2), (50, 2), (50, 600), (50, 600), (50, 2), (50, 2), (52, 2), (52, 2), (50, 300), (50, 60), (50, 60), (50, 60), (50, 60), (50, 60), (50, 8), (50, 8), (50, 60), (50, 6266), (52, 104), (50, 10), (50, 8), (50, 100), (50, 100), (50, 100), (50, 100), (50, 100), (50, 601), (50, 602), (52, 6010), (52, 6010), (52, 6010), (50, 20), (50, 20), (50, 60), (50, 10), (50, 10), (50, 7), (50, 10), (50, 6), (50, 5410), (50, 7), (50, 13), (50, 6), (50, 4800), (50, 4800), (50, 3360), (50, 100), (50, 8), (50, 8), (50, 8), (50, 8)]) (wrm m ((B.length : Nat) : Int) 3 (-1)) (nw τ137 50 (Int.toNat 8)) := Mk.nw h137 (k := 69) rfl (by decide) (fun i => by rw [wrm_n (by omega)]; exact hm 69 i (by decide) (by decide))
  revert h138
  generalize nw τ137 50 (Int.toNat 8) = τ138
  intro h138
  refine pGo (s_putF (j := 98) pc11 fw_X11_220 dX11_init_568 (Mk.obB h138) rfl (by decide) (by decide) rfl rfl rfl (Or.inr ⟨_, rfl⟩) rfl) ?_
  have h139 : Mk (B ++ (11, 69) :: [(50, 1400), (53, 13), (50, 13), (50, 13), (50, 13), (50, 13), (50, 13), (50, 13), (50, 13), (50, 13), (50, 13), (50, 13), (50, 13), (50, 13), (52, 6), (52, 6), (50, 600), (50, 600), (50, 2), (50, 2), (50, 600), (50, 600), (50, 2), (50, 2), (52, 2), (52, 2), (50, 300), (50, 60), (50, 60), (50, 60), (50, 60), (50, 60), (50, 8), (50, 8), (50, 60), (50, 6266), (52, 104), (50, 10), (50, 8), (50, 100), (50, 100), (50, 100), (50, 100), (50, 100), (50, 601), (50, 602), (52, 6010), (52, 6010), (52, 6010), (50, 20), (50, 20), (50, 60), (50, 10), (50, 10), (50, 7), (50, 10), (50, 6), (50, 5410), (50, 7), (50, 13), (50, 6), (50, 4800), (50, 4800), (50, 3360), (50, 100), (50, 8), (50, 8), (50, 8), (50, 8)]) (wrm m ((B.length : Nat) : Int) 3 (-1)) (fs1 τ138 ((B.length : Nat) : Int) 11 68) := Mk.fs h138
  revert h139
  generalize fs1 τ138 ((B.length : Nat) : Int) 11 68 = τ139
  intro h139
  refine pGo (s_aload_n dX11_init_571 rfl (by omega)) ?_
  refine pGo (s_bipush dX11_init_572 (by decide)) ?_
  refine pGoE (y := (((B.length : Nat) : Int) + 70)) (s_newaI ac_int (by decide) dX11_init_574) (Mk.len h139 rfl) ?_
  have h140 : Mk (B ++ (11, 69) :: [(50, 1400), (53, 13), (50, 13), (50, 13), (50, 13), (50, 13), (50, 13), (50, 13), (50, 13), (50, 13), (50, 13), (50, 13), (50, 13), (50, 13), (52, 6), (52, 6), (50, 600), (50, 600), (50, 2), (50, 2), (50, 600), (50, 600), (50, 2), (50, 2), (52, 2), (52, 2), (50, 300), (50, 60), (50, 60), (50, 60), (50, 60), (50, 60), (50, 8), (50, 8), (50, 60), (50, 6266), (52, 104), (50, 10), (50, 8), (50, 100), (50, 100), (50, 100), (50, 100), (50, 100), (50, 601), (50, 602), (52, 6010), (52, 6010), (52, 6010), (50, 20), (50, 20), (50, 60), (50, 10), (50, 10), (50, 7), (50, 10), (50, 6), (50, 5410), (50, 7), (50, 13), (50, 6), (50, 4800), (50, 4800), (50, 3360), (50, 100), (50, 8), (50, 8), (50, 8), (50, 8), (50, 8)]) (wrm m ((B.length : Nat) : Int) 3 (-1)) (nw τ139 50 (Int.toNat 8)) := Mk.nw h139 (k := 70) rfl (by decide) (fun i => by rw [wrm_n (by omega)]; exact hm 70 i (by decide) (by decide))
  revert h140
  generalize nw τ139 50 (Int.toNat 8) = τ140
  intro h140
  refine pGo (s_putF (j := 99) pc11 fw_X11_223 dX11_init_576 (Mk.obB h140) rfl (by decide) (by decide) rfl rfl rfl (Or.inr ⟨_, rfl⟩) rfl) ?_
  have h141 : Mk (B ++ (11, 70) :: [(50, 1400), (53, 13), (50, 13), (50, 13), (50, 13), (50, 13), (50, 13), (50, 13), (50, 13), (50, 13), (50, 13), (50, 13), (50, 13), (50, 13), (52, 6), (52, 6), (50, 600), (50, 600), (50, 2), (50, 2), (50, 600), (50, 600), (50, 2), (50, 2), (52, 2), (52, 2), (50, 300), (50, 60), (50, 60), (50, 60), (50, 60), (50, 60), (50, 8), (50, 8), (50, 60), (50, 6266), (52, 104), (50, 10), (50, 8), (50, 100), (50, 100), (50, 100), (50, 100), (50, 100), (50, 601), (50, 602), (52, 6010), (52, 6010), (52, 6010), (50, 20), (50, 20), (50, 60), (50, 10), (50, 10), (50, 7), (50, 10), (50, 6), (50, 5410), (50, 7), (50, 13), (50, 6), (50, 4800), (50, 4800), (50, 3360), (50, 100), (50, 8), (50, 8), (50, 8), (50, 8), (50, 8)]) (wrm m ((B.length : Nat) : Int) 3 (-1)) (fs1 τ140 ((B.length : Nat) : Int) 11 69) := Mk.fs h140
  revert h141
  generalize fs1 τ140 ((B.length : Nat) : Int) 11 69 = τ141
  intro h141
  refine pGo (s_aload_n dX11_init_579 rfl (by omega)) ?_
  refine pGo (s_bipush dX11_init_580 (by decide)) ?_
  refine pGoE (y := (((B.length : Nat) : Int) + 71)) (s_newaI ac_int (by decide) dX11_init_582) (Mk.len h141 rfl) ?_
  have h142 : Mk (B ++ (11, 70) :: [(50, 1400), (53, 13), (50, 13), (50, 13), (50, 13), (50, 13), (50, 13), (50, 13), (50, 13), (50, 13), (50, 13), (50, 13), (50, 13), (50, 13), (52, 6), (52, 6), (50, 600), (50, 600), (50, 2), (50, 2), (50, 600), (50, 600), (50, 2), (50, 2), (52, 2), (52, 2), (50, 300), (50, 60), (50, 60), (50, 60), (50, 60), (50, 60), (50, 8), (50, 8), (50, 60), (50, 6266), (52, 104), (50, 10), (50, 8), (50, 100), (50, 100), (50, 100), (50, 100), (50, 100), (50, 601), (50, 602), (52, 6010), (52, 6010), (52, 6010), (50, 20), (50, 20), (50, 60), (50, 10), (50, 10), (50, 7), (50, 10), (50, 6), (50, 5410), (50, 7), (50, 13), (50, 6), (50, 4800), (50, 4800), (50, 3360), (50, 100), (50, 8), (50, 8), (50, 8), (50, 8), (50, 8), (50, 7)]) (wrm m ((B.length : Nat) : Int) 3 (-1)) (nw τ141 50 (Int.toNat 7)) := Mk.nw h141 (k := 71) rfl (by decide) (fun i => by rw [wrm_n (by omega)]; exact hm 71 i (by decide) (by decide))
  revert h142
  generalize nw τ141 50 (Int.toNat 7) = τ142
  intro h142
  refine pGo (s_putF (j := 100) pc11 fw_X11_226 dX11_init_584 (Mk.obB h142) rfl (by decide) (by decide) rfl rfl rfl (Or.inr ⟨_, rfl⟩) rfl) ?_
  have h143 : Mk (B ++ (11, 71) :: [(50, 1400), (53, 13), (50, 13), (50, 13), (50, 13), (50, 13), (50, 13), (50, 13), (50, 13), (50, 13), (50, 13), (50, 13), (50, 13), (50, 13), (52, 6), (52, 6), (50, 600), (50, 600), (50, 2), (50, 2), (50, 600), (50, 600), (50, 2), (50, 2), (52, 2), (52, 2), (50, 300), (50, 60), (50, 60), (50, 60), (50, 60), (50, 60), (50, 8), (50, 8), (50, 60), (50, 6266), (52, 104), (50, 10), (50, 8), (50, 100), (50, 100), (50, 100), (50, 100), (50, 100), (50, 601), (50, 602), (52, 6010), (52, 6010), (52, 6010), (50, 20), (50, 20), (50, 60), (50, 10), (50, 10), (50, 7), (50, 10), (50, 6), (50, 5410), (50, 7), (50, 13), (50, 6), (50, 4800), (50, 4800), (50, 3360), (50, 100), (50, 8), (50, 8), (50, 8), (50, 8), (50, 8), (50, 7)]) (wrm m ((B.length : Nat) : Int) 3 (-1)) (fs1 τ142 ((B.length : Nat) : Int) 11 70) := Mk.fs h142
  revert h143
  generalize fs1 τ142 ((B.length : Nat) : Int) 11 70 = τ143
  intro h143
  refine pGo (s_aload_n dX11_init_587 rfl (by omega)) ?_
  refine pGo (s_bipush dX11_init_588 (by decide)) ?_
  refine pGoE (y := (((B.length : Nat) : Int) + 72)) (s_newaI ac_int (by decide) dX11_init_590) (Mk.len h143 rfl) ?_
  have h144 : Mk (B ++ (11, 71) :: [(50, 1400), (53, 13), (50, 13), (50, 13), (50, 13), (50, 13), (50, 13), (50, 13), (50, 13), (50, 13), (50, 13), (50, 13), (50, 13), (50, 13), (52, 6), (52, 6), (50, 600), (50, 600), (50, 2), (50, 2), (50, 600), (50, 600), (50, 2), (50, 2), (52, 2), (52, 2), (50, 300), (50, 60), (50, 60), (50, 60), (50, 60), (50, 60), (50, 8), (50, 8), (50, 60), (50, 6266), (52, 104), (50, 10), (50, 8), (50, 100), (50, 100), (50, 100), (50, 100), (50, 100), (50, 601), (50, 602), (52, 6010), (52, 6010), (52, 6010), (50, 20), (50, 20), (50, 60), (50, 10), (50, 10), (50, 7), (50, 10), (50, 6), (50, 5410), (50, 7), (50, 13), (50, 6), (50, 4800), (50, 4800), (50, 3360), (50, 100), (50, 8), (50, 8), (50, 8), (50, 8), (50, 8), (50, 7), (50, 8)]) (wrm m ((B.length : Nat) : Int) 3 (-1)) (nw τ143 50 (Int.toNat 8)) := Mk.nw h143 (k := 72) rfl (by decide) (fun i => by rw [wrm_n (by omega)]; exact hm 72 i (by decide) (by decide))
  revert h144
  generalize nw τ143 50 (Int.toNat 8) = τ144
  intro h144
  refine pGo (s_putF (j := 101) pc11 fw_X11_229 dX11_init_592 (Mk.obB h144) rfl (by decide) (by decide) rfl rfl rfl (Or.inr ⟨_, rfl⟩) rfl) ?_
  have h145 : Mk (B ++ (11, 72) :: [(50, 1400), (53, 13), (50, 13), (50, 13), (50, 13), (50, 13), (50, 13), (50, 13), (50, 13), (50, 13), (50, 13), (50, 13), (50, 13), (50, 13), (52, 6), (52, 6), (50, 600), (50, 600), (50, 2), (50, 2), (50, 600), (50, 600), (50, 2), (50, 2), (52, 2), (52, 2), (50, 300), (50, 60), (50, 60), (50, 60), (50, 60), (50, 60), (50, 8), (50, 8), (50, 60), (50, 6266), (52, 104), (50, 10), (50, 8), (50, 100), (50, 100), (50, 100), (50, 100), (50, 100), (50, 601), (50, 602), (52, 6010), (52, 6010), (52, 6010), (50, 20), (50, 20), (50, 60), (50, 10), (50, 10), (50, 7), (50, 10), (50, 6), (50, 5410), (50, 7), (50, 13), (50, 6), (50, 4800), (50, 4800), (50, 3360), (50, 100), (50, 8), (50, 8), (50, 8), (50, 8), (50, 8), (50, 7), (50, 8)]) (wrm m ((B.length : Nat) : Int) 3 (-1)) (fs1 τ144 ((B.length : Nat) : Int) 11 71) := Mk.fs h144
  revert h145
  generalize fs1 τ144 ((B.length : Nat) : Int) 11 71 = τ145
  intro h145
  refine pGo (s_iconst dX11_init_595) ?_
  refine pGoL (ls2 := [(2, ((B.length : Nat) : Int)), (0, 0)]) (s_istore_n dX11_init_596 (by decide) rfl) rfl ?_
  exact k1 _ h145
