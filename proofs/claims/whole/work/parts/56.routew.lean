/-! walks: soonest, way, last -/
set_option maxRecDepth 100000 in
theorem g_X4_comesEarlier_0 {d : Nat} {σ : pS} {Q : Option pV → pS → Prop} (hd : 4 ≤ d) (hst : Stat σ) (x1 : Int) (x2 : Int)  (g1 : 0 ≤ (rd σ 35 4)) (g2 : Inst6 σ (rd σ 35 4)) (g3 : 0 ≤ x1 ∧ x1 < 17) (g4 : 0 ≤ (rd σ ((rd σ 35 4) + 2) x1) ∧ (rd σ ((rd σ 35 4) + 2) x1) < 10) (g5 : inR (rd σ 41 (rd σ ((rd σ 35 4) + 2) x1))) (f1 : ∀ (c1 : (rd σ 41 (rd σ ((rd σ 35 4) + 2) x1)) ≠ 1000000), pC mX4_behind 3 [(2, 40), (0, x1), (0, x2), (0, (rd σ 41 (rd σ ((rd σ 35 4) + 2) x1)))] σ (fun r τ => r = some (0, (vBehind σ x1 x2 (rd σ 41 (rd σ ((rd σ 35 4) + 2) x1)))) ∧ τ = σ)) (g6 : ∀ (c1 : (rd σ 41 (rd σ ((rd σ 35 4) + 2) x1)) ≠ 1000000), inR (vBehind σ x1 x2 (rd σ 41 (rd σ ((rd σ 35 4) + 2) x1)))) (k1 : ∀ (c1 : (rd σ 41 (rd σ ((rd σ 35 4) + 2) x1)) ≠ 1000000) (c3 : (vBehind σ x1 x2 (rd σ 41 (rd σ ((rd σ 35 4) + 2) x1))) = (-1)), Q (some (0, 0)) σ) (g7 : ∀ (c1 : (rd σ 41 (rd σ ((rd σ 35 4) + 2) x1)) ≠ 1000000) (c4 : (vBehind σ x1 x2 (rd σ 41 (rd σ ((rd σ 35 4) + 2) x1))) ≠ (-1)), 0 ≤ (rd σ ((rd σ 35 4) + 3) x1) ∧ (rd σ ((rd σ 35 4) + 3) x1) < 10) (g8 : ∀ (c1 : (rd σ 41 (rd σ ((rd σ 35 4) + 2) x1)) ≠ 1000000) (c4 : (vBehind σ x1 x2 (rd σ 41 (rd σ ((rd σ 35 4) + 2) x1))) ≠ (-1)), inR (rd σ 41 (rd σ ((rd σ 35 4) + 3) x1))) (k2 : ∀ (c1 : (rd σ 41 (rd σ ((rd σ 35 4) + 2) x1)) ≠ 1000000) (c4 : (vBehind σ x1 x2 (rd σ 41 (rd σ ((rd σ 35 4) + 2) x1))) ≠ (-1)) (c5 : (vBehind σ x1 x2 (rd σ 41 (rd σ ((rd σ 35 4) + 2) x1))) < (rd σ 41 (rd σ ((rd σ 35 4) + 3) x1))), Q (some (0, 1)) (wr σ 41 (rd σ ((rd σ 35 4) + 3) x1) (vBehind σ x1 x2 (rd σ 41 (rd σ ((rd σ 35 4) + 2) x1))))) (k3 : ∀ (c1 : (rd σ 41 (rd σ ((rd σ 35 4) + 2) x1)) ≠ 1000000) (c4 : (vBehind σ x1 x2 (rd σ 41 (rd σ ((rd σ 35 4) + 2) x1))) ≠ (-1)) (c6 : (rd σ 41 (rd σ ((rd σ 35 4) + 3) x1)) ≤ (vBehind σ x1 x2 (rd σ 41 (rd σ ((rd σ 35 4) + 2) x1)))), Q (some (0, 0)) σ) (k4 : ∀ (c2 : (rd σ 41 (rd σ ((rd σ 35 4) + 2) x1)) = 1000000), Q (some (0, 0)) σ) : pC mX4_comesEarlier d [(2, 40), (0, x1), (0, x2)] σ Q := by
  show pR mX4_comesEarlier d 0 [(2, 40), (0, x1), (0, x2), (9, 0), (9, 0), (9, 0), (9, 0)] [] σ Q
  refine pGo (s_aload_n dX4_comesEarlier_0 rfl (by decide)) ?_
  refine pGoE (y := 35) (s_getF pc4 fl_X4_18 dX4_comesEarlier_1 (ob_40 hst) rfl (by decide)) (by decide) ?_
  refine pGoE (y := (rd σ 35 4)) (s_getR pc3 fl_X4_29 dX4_comesEarlier_4 (ob_35 hst) rfl rfl) rfl ?_
  refine pGoL (ls2 := [(2, 40), (0, x1), (0, x2), (2, (rd σ 35 4)), (9, 0), (9, 0), (9, 0)]) (s_astore_n dX4_comesEarlier_7 (by decide) rfl g1) rfl ?_
  refine pGo (s_aload_n dX4_comesEarlier_8 rfl g1) ?_
  refine pGo (s_getF pc6 fl_X4_45 dX4_comesEarlier_9 g2.o0 rfl (by decide)) ?_
  refine pGo (s_iload_n dX4_comesEarlier_12 rfl) ?_
  refine pGoE (y := (rd σ ((rd σ 35 4) + 2) x1)) (s_iald dX4_comesEarlier_13 g2.o2 (bnd g3)) rfl ?_
  refine pGoL (ls2 := [(2, 40), (0, x1), (0, x2), (2, (rd σ 35 4)), (0, (rd σ ((rd σ 35 4) + 2) x1)), (9, 0), (9, 0)]) (s_istore dX4_comesEarlier_14 (by decide) rfl) rfl ?_
  refine pGo (s_aload_n dX4_comesEarlier_16 rfl g2.pos) ?_
  refine pGo (s_getF pc6 fl_X4_48 dX4_comesEarlier_17 g2.o0 rfl (by decide)) ?_
  refine pGo (s_iload_n dX4_comesEarlier_20 rfl) ?_
  refine pGoE (y := (rd σ ((rd σ 35 4) + 3) x1)) (s_iald dX4_comesEarlier_21 g2.o3 (bnd g3)) rfl ?_
  refine pGoL (ls2 := [(2, 40), (0, x1), (0, x2), (2, (rd σ 35 4)), (0, (rd σ ((rd σ 35 4) + 2) x1)), (0, (rd σ ((rd σ 35 4) + 3) x1)), (9, 0)]) (s_istore dX4_comesEarlier_22 (by decide) rfl) rfl ?_
  refine pGo (s_aload_n dX4_comesEarlier_24 rfl (by decide)) ?_
  refine pGoE (y := 41) (s_getF pc4 fl_X4_9 dX4_comesEarlier_25 (ob_40 hst) rfl (by decide)) (by decide) ?_
  refine pGo (s_iload dX4_comesEarlier_28 rfl) ?_
  refine pGoE (y := (rd σ 41 (rd σ ((rd σ 35 4) + 2) x1))) (s_iald dX4_comesEarlier_30 (ob_41 hst) (bnd g4)) rfl ?_
  refine pGo (s_ldc (n := 1000000) dX4_comesEarlier_31 kc_X4_22 (by decide)) ?_
  refine p_icne (tgt := 38) dX4_comesEarlier_33 (by decide) g5 (by decide) (fun c1 => ?_) (fun c2 => ?_)
  · refine pGo (s_aload_n dX4_comesEarlier_38 rfl (by decide)) ?_
    refine pGo (s_iload_n dX4_comesEarlier_39 rfl) ?_
    refine pGo (s_iload_n dX4_comesEarlier_40 rfl) ?_
    refine pGo (s_aload_n dX4_comesEarlier_41 rfl (by decide)) ?_
    refine pGoE (y := 41) (s_getF pc4 fl_X4_9 dX4_comesEarlier_42 (ob_40 hst) rfl (by decide)) (by decide) ?_
    refine pGo (s_iload dX4_comesEarlier_45 rfl) ?_
    refine pGoE (y := (rd σ 41 (rd σ ((rd σ 35 4) + 2) x1))) (s_iald dX4_comesEarlier_47 (ob_41 hst) (bnd g4)) rfl ?_
    refine p_callV (As := [(0, x1), (0, x2), (0, (rd σ 41 (rd σ ((rd σ 35 4) + 2) x1)))]) (st := []) (n := 3) (d' := 3) (Q1 := (fun r τ => r = some (0, (vBehind σ x1 x2 (rd σ 41 (rd σ ((rd σ 35 4) + 2) x1)))) ∧ τ = σ)) pc4 ok_X4_behind ml_X4_51 im_X4_behind se_X4_behind dX4_comesEarlier_48 (ob_40 hst) (pargs_of rfl) rfl (Nat.le_of_ble_eq_true rfl) (by omega) (f1 c1) (fun r1 τ1 e1 q1 w1 => ?_)
    obtain ⟨rfl, t1⟩ := q1
    rw [t1]
    show pR mX4_comesEarlier d 51 [(2, 40), (0, x1), (0, x2), (2, (rd σ 35 4)), (0, (rd σ ((rd σ 35 4) + 2) x1)), (0, (rd σ ((rd σ 35 4) + 3) x1)), (9, 0)] [(0, (vBehind σ x1 x2 (rd σ 41 (rd σ ((rd σ 35 4) + 2) x1))))] σ Q
    refine pGoL (ls2 := [(2, 40), (0, x1), (0, x2), (2, (rd σ 35 4)), (0, (rd σ ((rd σ 35 4) + 2) x1)), (0, (rd σ ((rd σ 35 4) + 3) x1)), (0, (vBehind σ x1 x2 (rd σ 41 (rd σ ((rd σ 35 4) + 2) x1))))]) (s_istore dX4_comesEarlier_51 (by decide) rfl) rfl ?_
    refine pGo (s_iload dX4_comesEarlier_53 rfl) ?_
    refine pGo (s_iconst dX4_comesEarlier_55) ?_
    refine p_iceq (tgt := 71) dX4_comesEarlier_56 (by decide) (g6 c1) (by decide) (fun c3 => ?_) (fun c4 => ?_)
    · refine pGo (s_iconst dX4_comesEarlier_71) ?_
      exact pEnd (r := (some (0, 0))) dX4_comesEarlier_72 (Or.inl rfl) (k1 c1 c3)
    · refine pGo (s_iload dX4_comesEarlier_59 rfl) ?_
      refine pGo (s_aload_n dX4_comesEarlier_61 rfl (by decide)) ?_
      refine pGoE (y := 41) (s_getF pc4 fl_X4_9 dX4_comesEarlier_62 (ob_40 hst) rfl (by decide)) (by decide) ?_
      refine pGo (s_iload dX4_comesEarlier_65 rfl) ?_
      refine pGoE (y := (rd σ 41 (rd σ ((rd σ 35 4) + 3) x1))) (s_iald dX4_comesEarlier_67 (ob_41 hst) (bnd (g7 c1 c4))) rfl ?_
      refine p_iclt (tgt := 73) dX4_comesEarlier_68 (by decide) (g6 c1) (g8 c1 c4) (fun c5 => ?_) (fun c6 => ?_)
      · refine pGo (s_aload_n dX4_comesEarlier_73 rfl (by decide)) ?_
        refine pGoE (y := 41) (s_getF pc4 fl_X4_9 dX4_comesEarlier_74 (ob_40 hst) rfl (by decide)) (by decide) ?_
        refine pGo (s_iload dX4_comesEarlier_77 rfl) ?_
        refine pGo (s_iload dX4_comesEarlier_79 rfl) ?_
        refine pGo (s_iast dX4_comesEarlier_81 (ob_41 hst) (bnd (g7 c1 c4))) ?_
        refine pGo (s_iconst dX4_comesEarlier_82) ?_
        exact pEnd (r := (some (0, 1))) dX4_comesEarlier_83 (Or.inr rfl) (k2 c1 c4 c5)
      · refine pGo (s_iconst dX4_comesEarlier_71) ?_
        exact pEnd (r := (some (0, 0))) dX4_comesEarlier_72 (Or.inl rfl) (k3 c1 c4 c6)
  · refine pGo (s_iconst dX4_comesEarlier_36) ?_
    exact pEnd (r := (some (0, 0))) dX4_comesEarlier_37 (Or.inl rfl) (k4 c2)
set_option maxRecDepth 100000 in
theorem g_X4_firstMinuteAt_0 {d : Nat} {σ : pS} {Q : Option pV → pS → Prop} {Q1 : Option pV → pS → Prop} (hd : 5 ≤ d) (hst : Stat σ) (x1 : Int) (x2 : Int) (x3 : Int) (x4 : Int)  (f1 : pC mJ7_fill_53178 0 [(2, 41), (0, 1000000)] σ Q1) (g1 : ∀ (τ1 : pS) (e1 : pLe σ τ1) (q1 : Q1 none τ1), 0 ≤ x2 ∧ x2 < 10) (k1 : ∀ (τ1 : pS) (e1 : pLe σ τ1) (q1 : Q1 none τ1), pR mX4_firstMinuteAt d 22 [(2, 40), (0, x1), (0, x2), (0, x3), (0, x4), (0, 1), (0, 0), (9, 0)] [] (wr τ1 41 x2 x3) Q) : pC mX4_firstMinuteAt d [(2, 40), (0, x1), (0, x2), (0, x3), (0, x4)] σ Q := by
  show pR mX4_firstMinuteAt d 0 [(2, 40), (0, x1), (0, x2), (0, x3), (0, x4), (9, 0), (9, 0), (9, 0)] [] σ Q
  refine pGo (s_aload_n dX4_firstMinuteAt_0 rfl (by decide)) ?_
  refine pGoE (y := 41) (s_getF pc4 fl_X4_9 dX4_firstMinuteAt_1 (ob_40 hst) rfl (by decide)) (by decide) ?_
  refine pGo (s_ldc (n := 1000000) dX4_firstMinuteAt_4 kc_X4_22 (by decide)) ?_
  refine p_callS (As := [(2, 41), (0, 1000000)]) (st := []) (n := 2) (d' := 0) (Q1 := Q1) ok_J7_fill_53178 ml_X4_23 sm_J7_fill_53178 dX4_firstMinuteAt_6 (pargs_of rfl) rfl (Nat.le_of_ble_eq_true rfl) (by omega) f1 (fun r1 τ1 e1 q1 w1 => ?_)
  obtain rfl : r1 = none := w1
  have S1 : Stat τ1 := (Stat.le (σ := σ) hst e1)
  show pR mX4_firstMinuteAt d 9 [(2, 40), (0, x1), (0, x2), (0, x3), (0, x4), (9, 0), (9, 0), (9, 0)] [] τ1 Q
  refine pGo (s_aload_n dX4_firstMinuteAt_9 rfl (by decide)) ?_
  refine pGoE (y := 41) (s_getF pc4 fl_X4_9 dX4_firstMinuteAt_10 (ob_40 S1) rfl (by decide)) (by decide) ?_
  refine pGo (s_iload_n dX4_firstMinuteAt_13 rfl) ?_
  refine pGo (s_iload_n dX4_firstMinuteAt_14 rfl) ?_
  refine pGo (s_iast dX4_firstMinuteAt_15 (ob_41 S1) (bnd (g1 τ1 e1 q1))) ?_
  refine pGo (s_iconst dX4_firstMinuteAt_16) ?_
  refine pGoL (ls2 := [(2, 40), (0, x1), (0, x2), (0, x3), (0, x4), (0, 1), (9, 0), (9, 0)]) (s_istore dX4_firstMinuteAt_17 (by decide) rfl) rfl ?_
  refine pGo (s_iconst dX4_firstMinuteAt_19) ?_
  refine pGoL (ls2 := [(2, 40), (0, x1), (0, x2), (0, x3), (0, x4), (0, 1), (0, 0), (9, 0)]) (s_istore dX4_firstMinuteAt_20 (by decide) rfl) rfl ?_
  exact (k1 τ1 e1 q1)
set_option maxRecDepth 100000 in
theorem g_X4_firstMinuteAt_22 {d : Nat} {σ : pS} {Q : Option pV → pS → Prop} (hd : 5 ≤ d) (hst : Stat σ) (x1 : Int) (x2 : Int) (x3 : Int) (x4 : Int) (x5 : Int) (x6 : Int) (u7 : pV) (hu7 : u7.1 ≠ 1) (g1 : inR x6) (g2 : ∀ (c1 : 10 ≤ x6), 0 ≤ x4 ∧ x4 < 10) (g3 : ∀ (c1 : 10 ≤ x6), inR (rd σ 41 x4)) (k1 : ∀ (c1 : 10 ≤ x6) (c3 : (rd σ 41 x4) ≠ 1000000), Q (some (0, (rd σ 41 x4))) σ) (k2 : ∀ (c1 : 10 ≤ x6) (c4 : (rd σ 41 x4) = 1000000), Q (some (0, (-1))) σ) (g4 : ∀ (c2 : x6 < 10), inR x5) (g5 : ∀ (c2 : x6 < 10) (c5 : x5 = 0), 0 ≤ x4 ∧ x4 < 10) (g6 : ∀ (c2 : x6 < 10) (c5 : x5 = 0), inR (rd σ 41 x4)) (k3 : ∀ (c2 : x6 < 10) (c5 : x5 = 0) (c7 : (rd σ 41 x4) ≠ 1000000), Q (some (0, (rd σ 41 x4))) σ) (k4 : ∀ (c2 : x6 < 10) (c5 : x5 = 0) (c8 : (rd σ 41 x4) = 1000000), Q (some (0, (-1))) σ) (k5 : ∀ (c2 : x6 < 10) (c6 : x5 ≠ 0), pR mX4_firstMinuteAt d 40 [(2, 40), (0, x1), (0, x2), (0, x3), (0, x4), (0, 0), (0, x6), (0, 0)] [] σ Q) : pR mX4_firstMinuteAt d 22 [(2, 40), (0, x1), (0, x2), (0, x3), (0, x4), (0, x5), (0, x6), u7] [] σ Q := by
  refine pGo (s_iload dX4_firstMinuteAt_22 rfl) ?_
  refine pGo (s_bipush dX4_firstMinuteAt_24 (by decide)) ?_
  refine p_icge (tgt := 94) dX4_firstMinuteAt_26 (by decide) g1 (by decide) (fun c1 => ?_) (fun c2 => ?_)
  · refine pGo (s_aload_n dX4_firstMinuteAt_94 rfl (by decide)) ?_
    refine pGoE (y := 41) (s_getF pc4 fl_X4_9 dX4_firstMinuteAt_95 (ob_40 hst) rfl (by decide)) (by decide) ?_
    refine pGo (s_iload dX4_firstMinuteAt_98 rfl) ?_
    refine pGoE (y := (rd σ 41 x4)) (s_iald dX4_firstMinuteAt_100 (ob_41 hst) (bnd (g2 c1))) rfl ?_
    refine pGo (s_ldc (n := 1000000) dX4_firstMinuteAt_101 kc_X4_22 (by decide)) ?_
    refine p_icne (tgt := 110) dX4_firstMinuteAt_103 (by decide) (g3 c1) (by decide) (fun c3 => ?_) (fun c4 => ?_)
    · refine pGo (s_aload_n dX4_firstMinuteAt_110 rfl (by decide)) ?_
      refine pGoE (y := 41) (s_getF pc4 fl_X4_9 dX4_firstMinuteAt_111 (ob_40 hst) rfl (by decide)) (by decide) ?_
      refine pGo (s_iload dX4_firstMinuteAt_114 rfl) ?_
      refine pGoE (y := (rd σ 41 x4)) (s_iald dX4_firstMinuteAt_116 (ob_41 hst) (bnd (g2 c1))) rfl ?_
      exact pEnd (r := (some (0, (rd σ 41 x4)))) dX4_firstMinuteAt_117 ⟨_, rfl⟩ (k1 c1 c3)
    · refine pGo (s_iconst dX4_firstMinuteAt_106) ?_
      refine pGo (s_goto (tgt := 117) dX4_firstMinuteAt_107 (by decide)) ?_
      exact pEnd (r := (some (0, (-1)))) dX4_firstMinuteAt_117 ⟨_, rfl⟩ (k2 c1 c4)
  · refine pGo (s_iload dX4_firstMinuteAt_29 rfl) ?_
    refine p_ifeq (tgt := 94) dX4_firstMinuteAt_31 (by decide) (g4 c2) (fun c5 => ?_) (fun c6 => ?_)
    · refine pGo (s_aload_n dX4_firstMinuteAt_94 rfl (by decide)) ?_
      refine pGoE (y := 41) (s_getF pc4 fl_X4_9 dX4_firstMinuteAt_95 (ob_40 hst) rfl (by decide)) (by decide) ?_
      refine pGo (s_iload dX4_firstMinuteAt_98 rfl) ?_
      refine pGoE (y := (rd σ 41 x4)) (s_iald dX4_firstMinuteAt_100 (ob_41 hst) (bnd (g5 c2 c5))) rfl ?_
      refine pGo (s_ldc (n := 1000000) dX4_firstMinuteAt_101 kc_X4_22 (by decide)) ?_
      refine p_icne (tgt := 110) dX4_firstMinuteAt_103 (by decide) (g6 c2 c5) (by decide) (fun c7 => ?_) (fun c8 => ?_)
      · refine pGo (s_aload_n dX4_firstMinuteAt_110 rfl (by decide)) ?_
        refine pGoE (y := 41) (s_getF pc4 fl_X4_9 dX4_firstMinuteAt_111 (ob_40 hst) rfl (by decide)) (by decide) ?_
        refine pGo (s_iload dX4_firstMinuteAt_114 rfl) ?_
        refine pGoE (y := (rd σ 41 x4)) (s_iald dX4_firstMinuteAt_116 (ob_41 hst) (bnd (g5 c2 c5))) rfl ?_
        exact pEnd (r := (some (0, (rd σ 41 x4)))) dX4_firstMinuteAt_117 ⟨_, rfl⟩ (k3 c2 c5 c7)
      · refine pGo (s_iconst dX4_firstMinuteAt_106) ?_
        refine pGo (s_goto (tgt := 117) dX4_firstMinuteAt_107 (by decide)) ?_
        exact pEnd (r := (some (0, (-1)))) dX4_firstMinuteAt_117 ⟨_, rfl⟩ (k4 c2 c5 c8)
    · refine pGo (s_iconst dX4_firstMinuteAt_34) ?_
      refine pGoL (ls2 := [(2, 40), (0, x1), (0, x2), (0, x3), (0, x4), (0, 0), (0, x6), u7]) (s_istore dX4_firstMinuteAt_35 (by decide) rfl) rfl ?_
      refine pGo (s_iconst dX4_firstMinuteAt_37) ?_
      refine pGoL (ls2 := [(2, 40), (0, x1), (0, x2), (0, x3), (0, x4), (0, 0), (0, x6), (0, 0)]) (s_istore dX4_firstMinuteAt_38 (by decide) rfl) rfl ?_
      exact (k5 c2 c6)
set_option maxRecDepth 100000 in
theorem g_X4_firstMinuteAt_40 {d : Nat} {σ : pS} {Q : Option pV → pS → Prop} {Q1 : Option pV → pS → Prop} (hd : 5 ≤ d) (hst : Stat σ) (x1 : Int) (x2 : Int) (x3 : Int) (x4 : Int) (x5 : Int) (x6 : Int) (x7 : Int)  (g1 : inR x7) (k1 : ∀ (c1 : 17 ≤ x7), pR mX4_firstMinuteAt d 22 [(2, 40), (0, x1), (0, x2), (0, x3), (0, x4), (0, x5), (0, (x6 + 1)), (0, x7)] [] σ Q) (f1 : ∀ (c2 : x7 < 17), pC mX6_has 1 [(2, (rd σ 35 4)), (0, x7)] σ (fun r τ => r = some (0, b2i (vHas (rd σ (rd σ 35 4) 0) (rd σ (rd σ 35 4) 1) x7)) ∧ τ = σ)) (g2 : ∀ (c2 : x7 < 17), Inst6 σ (rd σ 35 4)) (k2 : ∀ (c2 : x7 < 17) (c3 : (vHas (rd σ (rd σ 35 4) 0) (rd σ (rd σ 35 4) 1) x7) = false), pR mX4_firstMinuteAt d 40 [(2, 40), (0, x1), (0, x2), (0, x3), (0, x4), (0, (i_or x5 0)), (0, x6), (0, (x7 + 1))] [] σ Q) (f2 : ∀ (c2 : x7 < 17) (c4 : (vHas (rd σ (rd σ 35 4) 0) (rd σ (rd σ 35 4) 1) x7) = true), pC mX4_comesEarlier 4 [(2, 40), (0, x7), (0, x1)] σ Q1) (g3 : ∀ (c2 : x7 < 17) (c4 : (vHas (rd σ (rd σ 35 4) 0) (rd σ (rd σ 35 4) 1) x7) = true) (v2 : Int) (b2 : v2 = 0 ∨ v2 = 1) (τ2 : pS) (e2 : pLe σ τ2) (q2 : Q1 (some (0, v2)) τ2), inR v2) (k3 : ∀ (c2 : x7 < 17) (c4 : (vHas (rd σ (rd σ 35 4) 0) (rd σ (rd σ 35 4) 1) x7) = true) (v2 : Int) (b2 : v2 = 0 ∨ v2 = 1) (τ2 : pS) (e2 : pLe σ τ2) (q2 : Q1 (some (0, v2)) τ2) (c5 : v2 = 0), pR mX4_firstMinuteAt d 40 [(2, 40), (0, x1), (0, x2), (0, x3), (0, x4), (0, (i_or x5 0)), (0, x6), (0, (x7 + 1))] [] τ2 Q) (k4 : ∀ (c2 : x7 < 17) (c4 : (vHas (rd σ (rd σ 35 4) 0) (rd σ (rd σ 35 4) 1) x7) = true) (v2 : Int) (b2 : v2 = 0 ∨ v2 = 1) (τ2 : pS) (e2 : pLe σ τ2) (q2 : Q1 (some (0, v2)) τ2) (c6 : v2 ≠ 0), pR mX4_firstMinuteAt d 40 [(2, 40), (0, x1), (0, x2), (0, x3), (0, x4), (0, (i_or x5 1)), (0, x6), (0, (x7 + 1))] [] τ2 Q) : pR mX4_firstMinuteAt d 40 [(2, 40), (0, x1), (0, x2), (0, x3), (0, x4), (0, x5), (0, x6), (0, x7)] [] σ Q := by
  refine pGo (s_iload dX4_firstMinuteAt_40 rfl) ?_
  refine pGo (s_bipush dX4_firstMinuteAt_42 (by decide)) ?_
  refine p_icge (tgt := 88) dX4_firstMinuteAt_44 (by decide) g1 (by decide) (fun c1 => ?_) (fun c2 => ?_)
  · refine pGoL (ls2 := [(2, 40), (0, x1), (0, x2), (0, x3), (0, x4), (0, x5), (0, (x6 + 1)), (0, x7)]) (s_iinc dX4_firstMinuteAt_88 (by decide) rfl rfl) rfl ?_
    refine pGo (s_goto (tgt := 22) dX4_firstMinuteAt_91 (by decide)) ?_
    exact (k1 c1)
  · refine pGo (s_iload dX4_firstMinuteAt_47 rfl) ?_
    refine pGo (s_aload_n dX4_firstMinuteAt_49 rfl (by decide)) ?_
    refine pGoE (y := 35) (s_getF pc4 fl_X4_18 dX4_firstMinuteAt_50 (ob_40 hst) rfl (by decide)) (by decide) ?_
    refine pGoE (y := (rd σ 35 4)) (s_getR pc3 fl_X4_29 dX4_firstMinuteAt_53 (ob_35 hst) rfl rfl) rfl ?_
    refine pGo (s_iload dX4_firstMinuteAt_56 rfl) ?_
    refine p_callV (As := [(0, x7)]) (st := [(0, x5)]) (n := 1) (d' := 1) (Q1 := (fun r τ => r = some (0, b2i (vHas (rd σ (rd σ 35 4) 0) (rd σ (rd σ 35 4) 1) x7)) ∧ τ = σ)) pc6 ok_X6_has ml_X4_35 im_X6_has se_X6_has dX4_firstMinuteAt_58 (g2 c2).o0 (pargs_of rfl) rfl (Nat.le_of_ble_eq_true rfl) (by omega) (f1 c2) (fun r1 τ1 e1 q1 w1 => ?_)
    obtain ⟨rfl, t1⟩ := q1
    rw [t1]
    show pR mX4_firstMinuteAt d 61 [(2, 40), (0, x1), (0, x2), (0, x3), (0, x4), (0, x5), (0, x6), (0, x7)] [(0, (b2i (vHas (rd σ (rd σ 35 4) 0) (rd σ (rd σ 35 4) 1) x7))), (0, x5)] σ Q
    refine p_ifeqB (tgt := 78) dX4_firstMinuteAt_61 (by decide) (fun c3 => ?_) (fun c4 => ?_)
    · refine pGo (s_iconst dX4_firstMinuteAt_78) ?_
      refine pGo (s_ior dX4_firstMinuteAt_79) ?_
      refine pGoL (ls2 := [(2, 40), (0, x1), (0, x2), (0, x3), (0, x4), (0, (i_or x5 0)), (0, x6), (0, x7)]) (s_istore dX4_firstMinuteAt_80 (by decide) rfl) rfl ?_
      refine pGoL (ls2 := [(2, 40), (0, x1), (0, x2), (0, x3), (0, x4), (0, (i_or x5 0)), (0, x6), (0, (x7 + 1))]) (s_iinc dX4_firstMinuteAt_82 (by decide) rfl rfl) rfl ?_
      refine pGo (s_goto (tgt := 40) dX4_firstMinuteAt_85 (by decide)) ?_
      exact (k2 c2 c3)
    · refine pGo (s_aload_n dX4_firstMinuteAt_64 rfl (by decide)) ?_
      refine pGo (s_iload dX4_firstMinuteAt_65 rfl) ?_
      refine pGo (s_iload_n dX4_firstMinuteAt_67 rfl) ?_
      refine p_callV (As := [(0, x7), (0, x1)]) (st := [(0, x5)]) (n := 2) (d' := 4) (Q1 := Q1) pc4 ok_X4_comesEarlier ml_X4_41 im_X4_comesEarlier se_X4_comesEarlier dX4_firstMinuteAt_68 (ob_40 hst) (pargs_of rfl) rfl (Nat.le_of_ble_eq_true rfl) (by omega) (f2 c2 c4) (fun r2 τ2 e2 q2 w2 => ?_)
      obtain ⟨v2, rfl, b2⟩ := pRok_z w2
      have S2 : Stat τ2 := (Stat.le (σ := σ) hst e2)
      have J2_0 : Inst6 τ2 (rd σ 35 4) := Inst6.le (σ := σ) (g2 c2) e2
      show pR mX4_firstMinuteAt d 71 [(2, 40), (0, x1), (0, x2), (0, x3), (0, x4), (0, x5), (0, x6), (0, x7)] [(0, v2), (0, x5)] τ2 Q
      refine p_ifeq (tgt := 78) dX4_firstMinuteAt_71 (by decide) (g3 c2 c4 v2 b2 τ2 e2 q2) (fun c5 => ?_) (fun c6 => ?_)
      · refine pGo (s_iconst dX4_firstMinuteAt_78) ?_
        refine pGo (s_ior dX4_firstMinuteAt_79) ?_
        refine pGoL (ls2 := [(2, 40), (0, x1), (0, x2), (0, x3), (0, x4), (0, (i_or x5 0)), (0, x6), (0, x7)]) (s_istore dX4_firstMinuteAt_80 (by decide) rfl) rfl ?_
        refine pGoL (ls2 := [(2, 40), (0, x1), (0, x2), (0, x3), (0, x4), (0, (i_or x5 0)), (0, x6), (0, (x7 + 1))]) (s_iinc dX4_firstMinuteAt_82 (by decide) rfl rfl) rfl ?_
        refine pGo (s_goto (tgt := 40) dX4_firstMinuteAt_85 (by decide)) ?_
        exact (k3 c2 c4 v2 b2 τ2 e2 q2 c5)
      · refine pGo (s_iconst dX4_firstMinuteAt_74) ?_
        refine pGo (s_goto (tgt := 79) dX4_firstMinuteAt_75 (by decide)) ?_
        refine pGo (s_ior dX4_firstMinuteAt_79) ?_
        refine pGoL (ls2 := [(2, 40), (0, x1), (0, x2), (0, x3), (0, x4), (0, (i_or x5 1)), (0, x6), (0, x7)]) (s_istore dX4_firstMinuteAt_80 (by decide) rfl) rfl ?_
        refine pGoL (ls2 := [(2, 40), (0, x1), (0, x2), (0, x3), (0, x4), (0, (i_or x5 1)), (0, x6), (0, (x7 + 1))]) (s_iinc dX4_firstMinuteAt_82 (by decide) rfl rfl) rfl ?_
        refine pGo (s_goto (tgt := 40) dX4_firstMinuteAt_85 (by decide)) ?_
        exact (k4 c2 c4 v2 b2 τ2 e2 q2 c6)
set_option maxRecDepth 100000 in
theorem g_X4_wayOf_0 {d : Nat} {σ : pS} {Q : Option pV → pS → Prop} {Q1 : Option pV → pS → Prop} {Q2 : Option pV → pS → Prop} (hd : 6 ≤ d) (hst : Stat σ) (x1 : Int) (x2 : Int) (x3 : Int) (x4 : Int) (x5 : Int)  (f1 : pC mX4_firstMinuteAt 5 [(2, 40), (0, x1), (0, x2), (0, x3), (0, x4)] σ Q1) (g1 : ∀ (v1 : Int) (τ1 : pS) (e1 : pLe σ τ1) (q1 : Q1 (some (0, v1)) τ1), inR v1) (f2 : ∀ (v1 : Int) (τ1 : pS) (e1 : pLe σ τ1) (q1 : Q1 (some (0, v1)) τ1) (c1 : v1 ≠ (-1)), pC mX4_findLatest 4 [(2, 40), (0, x1), (0, x4), (0, v1)] τ1 Q2) (k1 : ∀ (v1 : Int) (τ1 : pS) (e1 : pLe σ τ1) (q1 : Q1 (some (0, v1)) τ1) (c1 : v1 ≠ (-1)) (τ2 : pS) (e2 : pLe τ1 τ2) (q2 : Q2 none τ2), pR mX4_wayOf d 37 [(2, 40), (0, x1), (0, x2), (0, x3), (0, x4), (0, x5), (0, v1), (0, x2), (0, x3), (0, 0), (9, 0)] [] τ2 Q) (k2 : ∀ (v1 : Int) (τ1 : pS) (e1 : pLe σ τ1) (q1 : Q1 (some (0, v1)) τ1) (c2 : v1 = (-1)), Q (some (0, (-1))) τ1) : pC mX4_wayOf d [(2, 40), (0, x1), (0, x2), (0, x3), (0, x4), (0, x5)] σ Q := by
  show pR mX4_wayOf d 0 [(2, 40), (0, x1), (0, x2), (0, x3), (0, x4), (0, x5), (9, 0), (9, 0), (9, 0), (9, 0), (9, 0)] [] σ Q
  refine pGo (s_aload_n dX4_wayOf_0 rfl (by decide)) ?_
  refine pGo (s_iload_n dX4_wayOf_1 rfl) ?_
  refine pGo (s_iload_n dX4_wayOf_2 rfl) ?_
  refine pGo (s_iload_n dX4_wayOf_3 rfl) ?_
  refine pGo (s_iload dX4_wayOf_4 rfl) ?_
  refine p_callV (As := [(0, x1), (0, x2), (0, x3), (0, x4)]) (st := []) (n := 4) (d' := 5) (Q1 := Q1) pc4 ok_X4_firstMinuteAt ml_X4_65 im_X4_firstMinuteAt se_X4_firstMinuteAt dX4_wayOf_6 (ob_40 hst) (pargs_of rfl) rfl (Nat.le_of_ble_eq_true rfl) (by omega) f1 (fun r1 τ1 e1 q1 w1 => ?_)
  obtain ⟨v1, rfl⟩ := w1
  have S1 : Stat τ1 := (Stat.le (σ := σ) hst e1)
  show pR mX4_wayOf d 9 [(2, 40), (0, x1), (0, x2), (0, x3), (0, x4), (0, x5), (9, 0), (9, 0), (9, 0), (9, 0), (9, 0)] [(0, v1)] τ1 Q
  refine pGoL (ls2 := [(2, 40), (0, x1), (0, x2), (0, x3), (0, x4), (0, x5), (0, v1), (9, 0), (9, 0), (9, 0), (9, 0)]) (s_istore dX4_wayOf_9 (by decide) rfl) rfl ?_
  refine pGo (s_iload dX4_wayOf_11 rfl) ?_
  refine pGo (s_iconst dX4_wayOf_13) ?_
  refine p_icne (tgt := 19) dX4_wayOf_14 (by decide) (g1 v1 τ1 e1 q1) (by decide) (fun c1 => ?_) (fun c2 => ?_)
  · refine pGo (s_aload_n dX4_wayOf_19 rfl (by decide)) ?_
    refine pGo (s_iload_n dX4_wayOf_20 rfl) ?_
    refine pGo (s_iload dX4_wayOf_21 rfl) ?_
    refine pGo (s_iload dX4_wayOf_23 rfl) ?_
    refine p_callV (As := [(0, x1), (0, x4), (0, v1)]) (st := []) (n := 3) (d' := 4) (Q1 := Q2) pc4 ok_X4_findLatest ml_X4_69 im_X4_findLatest se_X4_findLatest dX4_wayOf_25 (ob_40 S1) (pargs_of rfl) rfl (Nat.le_of_ble_eq_true rfl) (by omega) (f2 v1 τ1 e1 q1 c1) (fun r2 τ2 e2 q2 w2 => ?_)
    obtain rfl : r2 = none := w2
    have S2 : Stat τ2 := (Stat.le (σ := τ1) S1 e2)
    show pR mX4_wayOf d 28 [(2, 40), (0, x1), (0, x2), (0, x3), (0, x4), (0, x5), (0, v1), (9, 0), (9, 0), (9, 0), (9, 0)] [] τ2 Q
    refine pGo (s_iload_n dX4_wayOf_28 rfl) ?_
    refine pGoL (ls2 := [(2, 40), (0, x1), (0, x2), (0, x3), (0, x4), (0, x5), (0, v1), (0, x2), (9, 0), (9, 0), (9, 0)]) (s_istore dX4_wayOf_29 (by decide) rfl) rfl ?_
    refine pGo (s_iload_n dX4_wayOf_31 rfl) ?_
    refine pGoL (ls2 := [(2, 40), (0, x1), (0, x2), (0, x3), (0, x4), (0, x5), (0, v1), (0, x2), (0, x3), (9, 0), (9, 0)]) (s_istore dX4_wayOf_32 (by decide) rfl) rfl ?_
    refine pGo (s_iconst dX4_wayOf_34) ?_
    refine pGoL (ls2 := [(2, 40), (0, x1), (0, x2), (0, x3), (0, x4), (0, x5), (0, v1), (0, x2), (0, x3), (0, 0), (9, 0)]) (s_istore dX4_wayOf_35 (by decide) rfl) rfl ?_
    exact (k1 v1 τ1 e1 q1 c1 τ2 e2 q2)
  · refine pGo (s_iconst dX4_wayOf_17) ?_
    exact pEnd (r := (some (0, (-1)))) dX4_wayOf_18 ⟨_, rfl⟩ (k2 v1 τ1 e1 q1 c2)
set_option maxRecDepth 100000 in
theorem g_X4_wayOf_37 {d : Nat} {σ : pS} {Q : Option pV → pS → Prop} {Q1 : Option pV → pS → Prop} (hd : 6 ≤ d) (hst : Stat σ) (x1 : Int) (x2 : Int) (x3 : Int) (x4 : Int) (x5 : Int) (x6 : Int) (x7 : Int) (x8 : Int) (x9 : Int) (u10 : pV) (hu10 : u10.1 ≠ 1) (g1 : inR x9) (k1 : ∀ (c1 : 540 < x9), Q (some (0, (-1))) σ) (g2 : ∀ (c2 : x9 ≤ 540), inR x7) (g3 : ∀ (c2 : x9 ≤ 540), inR x4) (k2 : ∀ (c2 : x9 ≤ 540) (c3 : x7 = x4), Q (some (0, (-1))) σ) (f1 : ∀ (c2 : x9 ≤ 540) (c4 : x7 ≠ x4), pC mX4_nextWay 4 [(2, 40), (0, x1), (0, x7), (0, x8)] σ Q1) (g4 : ∀ (c2 : x9 ≤ 540) (c4 : x7 ≠ x4) (v1 : Int) (τ1 : pS) (e1 : pLe σ τ1) (q1 : Q1 (some (0, v1)) τ1), inR v1) (k3 : ∀ (c2 : x9 ≤ 540) (c4 : x7 ≠ x4) (v1 : Int) (τ1 : pS) (e1 : pLe σ τ1) (q1 : Q1 (some (0, v1)) τ1) (c5 : v1 = (-1)), Q (some (0, v1)) τ1) (g5 : ∀ (c2 : x9 ≤ 540) (c4 : x7 ≠ x4) (v1 : Int) (τ1 : pS) (e1 : pLe σ τ1) (q1 : Q1 (some (0, v1)) τ1) (c6 : v1 ≠ (-1)), inR x5) (f2 : ∀ (c2 : x9 ≤ 540) (c4 : x7 ≠ x4) (v1 : Int) (τ1 : pS) (e1 : pLe σ τ1) (q1 : Q1 (some (0, v1)) τ1) (c6 : v1 ≠ (-1)) (c7 : x9 ≠ x5), pC mX4_behind 3 [(2, 40), (0, v1), (0, x1), (0, x8)] τ1 (fun r τ => r = some (0, (vBehind τ1 v1 x1 x8)) ∧ τ = τ1)) (g6 : ∀ (c2 : x9 ≤ 540) (c4 : x7 ≠ x4) (v1 : Int) (τ1 : pS) (e1 : pLe σ τ1) (q1 : Q1 (some (0, v1)) τ1) (c6 : v1 ≠ (-1)) (c7 : x9 ≠ x5), Inst6 τ1 (rd τ1 35 4)) (g7 : ∀ (c2 : x9 ≤ 540) (c4 : x7 ≠ x4) (v1 : Int) (τ1 : pS) (e1 : pLe σ τ1) (q1 : Q1 (some (0, v1)) τ1) (c6 : v1 ≠ (-1)) (c7 : x9 ≠ x5), 0 ≤ v1 ∧ v1 < 17) (k4 : ∀ (c2 : x9 ≤ 540) (c4 : x7 ≠ x4) (v1 : Int) (τ1 : pS) (e1 : pLe σ τ1) (q1 : Q1 (some (0, v1)) τ1) (c6 : v1 ≠ (-1)) (c7 : x9 ≠ x5), pR mX4_wayOf d 37 [(2, 40), (0, x1), (0, x2), (0, x3), (0, x4), (0, x5), (0, x6), (0, (rd τ1 ((rd τ1 35 4) + 3) v1)), (0, (vBehind τ1 v1 x1 x8)), (0, (x9 + 1)), (0, v1)] [] τ1 Q) (k5 : ∀ (c2 : x9 ≤ 540) (c4 : x7 ≠ x4) (v1 : Int) (τ1 : pS) (e1 : pLe σ τ1) (q1 : Q1 (some (0, v1)) τ1) (c6 : v1 ≠ (-1)) (c8 : x9 = x5), Q (some (0, v1)) τ1) : pR mX4_wayOf d 37 [(2, 40), (0, x1), (0, x2), (0, x3), (0, x4), (0, x5), (0, x6), (0, x7), (0, x8), (0, x9), u10] [] σ Q := by
  refine pGo (s_iload dX4_wayOf_37 rfl) ?_
  refine pGo (s_sipush dX4_wayOf_39 (by decide)) ?_
  refine p_icgt (tgt := 111) dX4_wayOf_42 (by decide) g1 (by decide) (fun c1 => ?_) (fun c2 => ?_)
  · refine pGo (s_iconst dX4_wayOf_111) ?_
    exact pEnd (r := (some (0, (-1)))) dX4_wayOf_112 ⟨_, rfl⟩ (k1 c1)
  · refine pGo (s_iload dX4_wayOf_45 rfl) ?_
    refine pGo (s_iload dX4_wayOf_47 rfl) ?_
    refine p_iceq (tgt := 111) dX4_wayOf_49 (by decide) (g2 c2) (g3 c2) (fun c3 => ?_) (fun c4 => ?_)
    · refine pGo (s_iconst dX4_wayOf_111) ?_
      exact pEnd (r := (some (0, (-1)))) dX4_wayOf_112 ⟨_, rfl⟩ (k2 c2 c3)
    · refine pGo (s_aload_n dX4_wayOf_52 rfl (by decide)) ?_
      refine pGo (s_iload_n dX4_wayOf_53 rfl) ?_
      refine pGo (s_iload dX4_wayOf_54 rfl) ?_
      refine pGo (s_iload dX4_wayOf_56 rfl) ?_
      refine p_callV (As := [(0, x1), (0, x7), (0, x8)]) (st := []) (n := 3) (d' := 4) (Q1 := Q1) pc4 ok_X4_nextWay ml_X4_73 im_X4_nextWay se_X4_nextWay dX4_wayOf_58 (ob_40 hst) (pargs_of rfl) rfl (Nat.le_of_ble_eq_true rfl) (by omega) (f1 c2 c4) (fun r1 τ1 e1 q1 w1 => ?_)
      obtain ⟨v1, rfl⟩ := w1
      have S1 : Stat τ1 := (Stat.le (σ := σ) hst e1)
      show pR mX4_wayOf d 61 [(2, 40), (0, x1), (0, x2), (0, x3), (0, x4), (0, x5), (0, x6), (0, x7), (0, x8), (0, x9), u10] [(0, v1)] τ1 Q
      refine pGoL (ls2 := [(2, 40), (0, x1), (0, x2), (0, x3), (0, x4), (0, x5), (0, x6), (0, x7), (0, x8), (0, x9), (0, v1)]) (s_istore dX4_wayOf_61 (by decide) rfl) rfl ?_
      refine pGo (s_iload dX4_wayOf_63 rfl) ?_
      refine pGo (s_iconst dX4_wayOf_65) ?_
      refine p_iceq (tgt := 76) dX4_wayOf_66 (by decide) (g4 c2 c4 v1 τ1 e1 q1) (by decide) (fun c5 => ?_) (fun c6 => ?_)
      · refine pGo (s_iload dX4_wayOf_76 rfl) ?_
        exact pEnd (r := (some (0, v1))) dX4_wayOf_78 ⟨_, rfl⟩ (k3 c2 c4 v1 τ1 e1 q1 c5)
      · refine pGo (s_iload dX4_wayOf_69 rfl) ?_
        refine pGo (s_iload dX4_wayOf_71 rfl) ?_
        refine p_icne (tgt := 79) dX4_wayOf_73 (by decide) g1 (g5 c2 c4 v1 τ1 e1 q1 c6) (fun c7 => ?_) (fun c8 => ?_)
        · refine pGo (s_aload_n dX4_wayOf_79 rfl (by decide)) ?_
          refine pGo (s_iload dX4_wayOf_80 rfl) ?_
          refine pGo (s_iload_n dX4_wayOf_82 rfl) ?_
          refine pGo (s_iload dX4_wayOf_83 rfl) ?_
          refine p_callV (As := [(0, v1), (0, x1), (0, x8)]) (st := []) (n := 3) (d' := 3) (Q1 := (fun r τ => r = some (0, (vBehind τ1 v1 x1 x8)) ∧ τ = τ1)) pc4 ok_X4_behind ml_X4_51 im_X4_behind se_X4_behind dX4_wayOf_85 (ob_40 S1) (pargs_of rfl) rfl (Nat.le_of_ble_eq_true rfl) (by omega) (f2 c2 c4 v1 τ1 e1 q1 c6 c7) (fun r2 τ2 e2 q2 w2 => ?_)
          obtain ⟨rfl, t2⟩ := q2
          rw [t2]
          show pR mX4_wayOf d 88 [(2, 40), (0, x1), (0, x2), (0, x3), (0, x4), (0, x5), (0, x6), (0, x7), (0, x8), (0, x9), (0, v1)] [(0, (vBehind τ1 v1 x1 x8))] τ1 Q
          refine pGoL (ls2 := [(2, 40), (0, x1), (0, x2), (0, x3), (0, x4), (0, x5), (0, x6), (0, x7), (0, (vBehind τ1 v1 x1 x8)), (0, x9), (0, v1)]) (s_istore dX4_wayOf_88 (by decide) rfl) rfl ?_
          refine pGo (s_aload_n dX4_wayOf_90 rfl (by decide)) ?_
          refine pGoE (y := 35) (s_getF pc4 fl_X4_18 dX4_wayOf_91 (ob_40 S1) rfl (by decide)) (by decide) ?_
          refine pGoE (y := (rd τ1 35 4)) (s_getR pc3 fl_X4_29 dX4_wayOf_94 (ob_35 S1) rfl rfl) rfl ?_
          refine pGo (s_getF pc6 fl_X4_48 dX4_wayOf_97 (g6 c2 c4 v1 τ1 e1 q1 c6 c7).o0 rfl (by decide)) ?_
          refine pGo (s_iload dX4_wayOf_100 rfl) ?_
          refine pGoE (y := (rd τ1 ((rd τ1 35 4) + 3) v1)) (s_iald dX4_wayOf_102 (g6 c2 c4 v1 τ1 e1 q1 c6 c7).o3 (bnd (g7 c2 c4 v1 τ1 e1 q1 c6 c7))) rfl ?_
          refine pGoL (ls2 := [(2, 40), (0, x1), (0, x2), (0, x3), (0, x4), (0, x5), (0, x6), (0, (rd τ1 ((rd τ1 35 4) + 3) v1)), (0, (vBehind τ1 v1 x1 x8)), (0, x9), (0, v1)]) (s_istore dX4_wayOf_103 (by decide) rfl) rfl ?_
          refine pGoL (ls2 := [(2, 40), (0, x1), (0, x2), (0, x3), (0, x4), (0, x5), (0, x6), (0, (rd τ1 ((rd τ1 35 4) + 3) v1)), (0, (vBehind τ1 v1 x1 x8)), (0, (x9 + 1)), (0, v1)]) (s_iinc dX4_wayOf_105 (by decide) rfl rfl) rfl ?_
          refine pGo (s_goto (tgt := 37) dX4_wayOf_108 (by decide)) ?_
          exact (k4 c2 c4 v1 τ1 e1 q1 c6 c7)
        · refine pGo (s_iload dX4_wayOf_76 rfl) ?_
          exact pEnd (r := (some (0, v1))) dX4_wayOf_78 ⟨_, rfl⟩ (k5 c2 c4 v1 τ1 e1 q1 c6 c8)
set_option maxRecDepth 100000 in
theorem g_X4_nextWay_0 {d : Nat} {σ : pS} {Q : Option pV → pS → Prop} (hd : 4 ≤ d) (hst : Stat σ) (x1 : Int) (x2 : Int) (x3 : Int)  (g1 : 0 ≤ (rd σ 35 4)) (k1 : pR mX4_nextWay d 12 [(2, 40), (0, x1), (0, x2), (0, x3), (2, (rd σ 35 4)), (0, 0), (9, 0)] [] σ Q) : pC mX4_nextWay d [(2, 40), (0, x1), (0, x2), (0, x3)] σ Q := by
  show pR mX4_nextWay d 0 [(2, 40), (0, x1), (0, x2), (0, x3), (9, 0), (9, 0), (9, 0)] [] σ Q
  refine pGo (s_aload_n dX4_nextWay_0 rfl (by decide)) ?_
  refine pGoE (y := 35) (s_getF pc4 fl_X4_18 dX4_nextWay_1 (ob_40 hst) rfl (by decide)) (by decide) ?_
  refine pGoE (y := (rd σ 35 4)) (s_getR pc3 fl_X4_29 dX4_nextWay_4 (ob_35 hst) rfl rfl) rfl ?_
  refine pGoL (ls2 := [(2, 40), (0, x1), (0, x2), (0, x3), (2, (rd σ 35 4)), (9, 0), (9, 0)]) (s_astore dX4_nextWay_7 (by decide) rfl g1) rfl ?_
  refine pGo (s_iconst dX4_nextWay_9) ?_
  refine pGoL (ls2 := [(2, 40), (0, x1), (0, x2), (0, x3), (2, (rd σ 35 4)), (0, 0), (9, 0)]) (s_istore dX4_nextWay_10 (by decide) rfl) rfl ?_
  exact k1
set_option maxRecDepth 100000 in
theorem g_X4_nextWay_12 {d : Nat} {σ : pS} {Q : Option pV → pS → Prop} (hd : 4 ≤ d) (hst : Stat σ) (x1 : Int) (x2 : Int) (x3 : Int) (x4 : Int) (x5 : Int) (u6 : pV) (Ix4 : Inst6 σ x4) (hu6 : u6.1 ≠ 1) (g1 : inR x5) (k1 : ∀ (c1 : 17 ≤ x5), Q (some (0, (-1))) σ) (f1 : ∀ (c2 : x5 < 17), pC mX6_has 1 [(2, x4), (0, x5)] σ (fun r τ => r = some (0, b2i (vHas (rd σ x4 0) (rd σ x4 1) x5)) ∧ τ = σ)) (k2 : ∀ (c2 : x5 < 17) (c3 : (vHas (rd σ x4 0) (rd σ x4 1) x5) = false), pR mX4_nextWay d 12 [(2, 40), (0, x1), (0, x2), (0, x3), (2, x4), (0, (x5 + 1)), u6] [] σ Q) (g2 : ∀ (c2 : x5 < 17) (c4 : (vHas (rd σ x4 0) (rd σ x4 1) x5) = true), 0 ≤ x5 ∧ x5 < 17) (g3 : ∀ (c2 : x5 < 17) (c4 : (vHas (rd σ x4 0) (rd σ x4 1) x5) = true), inR (rd σ (x4 + 2) x5)) (g4 : ∀ (c2 : x5 < 17) (c4 : (vHas (rd σ x4 0) (rd σ x4 1) x5) = true), inR x2) (k3 : ∀ (c2 : x5 < 17) (c4 : (vHas (rd σ x4 0) (rd σ x4 1) x5) = true) (c5 : (rd σ (x4 + 2) x5) ≠ x2), pR mX4_nextWay d 12 [(2, 40), (0, x1), (0, x2), (0, x3), (2, x4), (0, (x5 + 1)), u6] [] σ Q) (f2 : ∀ (c2 : x5 < 17) (c4 : (vHas (rd σ x4 0) (rd σ x4 1) x5) = true) (c6 : (rd σ (x4 + 2) x5) = x2), pC mX4_behind 3 [(2, 40), (0, x5), (0, x1), (0, x3)] σ (fun r τ => r = some (0, (vBehind σ x5 x1 x3)) ∧ τ = σ)) (g5 : ∀ (c2 : x5 < 17) (c4 : (vHas (rd σ x4 0) (rd σ x4 1) x5) = true) (c6 : (rd σ (x4 + 2) x5) = x2), inR (vBehind σ x5 x1 x3)) (k4 : ∀ (c2 : x5 < 17) (c4 : (vHas (rd σ x4 0) (rd σ x4 1) x5) = true) (c6 : (rd σ (x4 + 2) x5) = x2) (c7 : (vBehind σ x5 x1 x3) = (-1)), pR mX4_nextWay d 12 [(2, 40), (0, x1), (0, x2), (0, x3), (2, x4), (0, (x5 + 1)), (0, (vBehind σ x5 x1 x3))] [] σ Q) (g6 : ∀ (c2 : x5 < 17) (c4 : (vHas (rd σ x4 0) (rd σ x4 1) x5) = true) (c6 : (rd σ (x4 + 2) x5) = x2) (c8 : (vBehind σ x5 x1 x3) ≠ (-1)), 0 ≤ (rd σ (x4 + 3) x5) ∧ (rd σ (x4 + 3) x5) < 10) (g7 : ∀ (c2 : x5 < 17) (c4 : (vHas (rd σ x4 0) (rd σ x4 1) x5) = true) (c6 : (rd σ (x4 + 2) x5) = x2) (c8 : (vBehind σ x5 x1 x3) ≠ (-1)), inR (rd σ 42 (rd σ (x4 + 3) x5))) (k5 : ∀ (c2 : x5 < 17) (c4 : (vHas (rd σ x4 0) (rd σ x4 1) x5) = true) (c6 : (rd σ (x4 + 2) x5) = x2) (c8 : (vBehind σ x5 x1 x3) ≠ (-1)) (c9 : (rd σ 42 (rd σ (x4 + 3) x5)) < (vBehind σ x5 x1 x3)), pR mX4_nextWay d 12 [(2, 40), (0, x1), (0, x2), (0, x3), (2, x4), (0, (x5 + 1)), (0, (vBehind σ x5 x1 x3))] [] σ Q) (k6 : ∀ (c2 : x5 < 17) (c4 : (vHas (rd σ x4 0) (rd σ x4 1) x5) = true) (c6 : (rd σ (x4 + 2) x5) = x2) (c8 : (vBehind σ x5 x1 x3) ≠ (-1)) (c10 : (vBehind σ x5 x1 x3) ≤ (rd σ 42 (rd σ (x4 + 3) x5))), Q (some (0, x5)) σ) : pR mX4_nextWay d 12 [(2, 40), (0, x1), (0, x2), (0, x3), (2, x4), (0, x5), u6] [] σ Q := by
  refine pGo (s_iload dX4_nextWay_12 rfl) ?_
  refine pGo (s_bipush dX4_nextWay_14 (by decide)) ?_
  refine p_icge (tgt := 84) dX4_nextWay_16 (by decide) g1 (by decide) (fun c1 => ?_) (fun c2 => ?_)
  · refine pGo (s_iconst dX4_nextWay_84) ?_
    exact pEnd (r := (some (0, (-1)))) dX4_nextWay_85 ⟨_, rfl⟩ (k1 c1)
  · refine pGo (s_aload dX4_nextWay_19 rfl Ix4.pos) ?_
    refine pGo (s_iload dX4_nextWay_21 rfl) ?_
    refine p_callV (As := [(0, x5)]) (st := []) (n := 1) (d' := 1) (Q1 := (fun r τ => r = some (0, b2i (vHas (rd σ x4 0) (rd σ x4 1) x5)) ∧ τ = σ)) pc6 ok_X6_has ml_X4_35 im_X6_has se_X6_has dX4_nextWay_23 Ix4.o0 (pargs_of rfl) rfl (Nat.le_of_ble_eq_true rfl) (by omega) (f1 c2) (fun r1 τ1 e1 q1 w1 => ?_)
    obtain ⟨rfl, t1⟩ := q1
    rw [t1]
    show pR mX4_nextWay d 26 [(2, 40), (0, x1), (0, x2), (0, x3), (2, x4), (0, x5), u6] [(0, (b2i (vHas (rd σ x4 0) (rd σ x4 1) x5)))] σ Q
    refine p_ifeqB (tgt := 78) dX4_nextWay_26 (by decide) (fun c3 => ?_) (fun c4 => ?_)
    · refine pGoL (ls2 := [(2, 40), (0, x1), (0, x2), (0, x3), (2, x4), (0, (x5 + 1)), u6]) (s_iinc dX4_nextWay_78 (by decide) rfl rfl) rfl ?_
      refine pGo (s_goto (tgt := 12) dX4_nextWay_81 (by decide)) ?_
      exact (k2 c2 c3)
    · refine pGo (s_aload dX4_nextWay_29 rfl Ix4.pos) ?_
      refine pGo (s_getF pc6 fl_X4_45 dX4_nextWay_31 Ix4.o0 rfl (by decide)) ?_
      refine pGo (s_iload dX4_nextWay_34 rfl) ?_
      refine pGoE (y := (rd σ (x4 + 2) x5)) (s_iald dX4_nextWay_36 Ix4.o2 (bnd (g2 c2 c4))) rfl ?_
      refine pGo (s_iload_n dX4_nextWay_37 rfl) ?_
      refine p_icne (tgt := 78) dX4_nextWay_38 (by decide) (g3 c2 c4) (g4 c2 c4) (fun c5 => ?_) (fun c6 => ?_)
      · refine pGoL (ls2 := [(2, 40), (0, x1), (0, x2), (0, x3), (2, x4), (0, (x5 + 1)), u6]) (s_iinc dX4_nextWay_78 (by decide) rfl rfl) rfl ?_
        refine pGo (s_goto (tgt := 12) dX4_nextWay_81 (by decide)) ?_
        exact (k3 c2 c4 c5)
      · refine pGo (s_aload_n dX4_nextWay_41 rfl (by decide)) ?_
        refine pGo (s_iload dX4_nextWay_42 rfl) ?_
        refine pGo (s_iload_n dX4_nextWay_44 rfl) ?_
        refine pGo (s_iload_n dX4_nextWay_45 rfl) ?_
        refine p_callV (As := [(0, x5), (0, x1), (0, x3)]) (st := []) (n := 3) (d' := 3) (Q1 := (fun r τ => r = some (0, (vBehind σ x5 x1 x3)) ∧ τ = σ)) pc4 ok_X4_behind ml_X4_51 im_X4_behind se_X4_behind dX4_nextWay_46 (ob_40 hst) (pargs_of rfl) rfl (Nat.le_of_ble_eq_true rfl) (by omega) (f2 c2 c4 c6) (fun r2 τ2 e2 q2 w2 => ?_)
        obtain ⟨rfl, t2⟩ := q2
        rw [t2]
        show pR mX4_nextWay d 49 [(2, 40), (0, x1), (0, x2), (0, x3), (2, x4), (0, x5), u6] [(0, (vBehind σ x5 x1 x3))] σ Q
        refine pGoL (ls2 := [(2, 40), (0, x1), (0, x2), (0, x3), (2, x4), (0, x5), (0, (vBehind σ x5 x1 x3))]) (s_istore dX4_nextWay_49 (by decide) rfl) rfl ?_
        refine pGo (s_iload dX4_nextWay_51 rfl) ?_
        refine pGo (s_iconst dX4_nextWay_53) ?_
        refine p_iceq (tgt := 78) dX4_nextWay_54 (by decide) (g5 c2 c4 c6) (by decide) (fun c7 => ?_) (fun c8 => ?_)
        · refine pGoL (ls2 := [(2, 40), (0, x1), (0, x2), (0, x3), (2, x4), (0, (x5 + 1)), (0, (vBehind σ x5 x1 x3))]) (s_iinc dX4_nextWay_78 (by decide) rfl rfl) rfl ?_
          refine pGo (s_goto (tgt := 12) dX4_nextWay_81 (by decide)) ?_
          exact (k4 c2 c4 c6 c7)
        · refine pGo (s_iload dX4_nextWay_57 rfl) ?_
          refine pGo (s_aload_n dX4_nextWay_59 rfl (by decide)) ?_
          refine pGoE (y := 42) (s_getF pc4 fl_X4_15 dX4_nextWay_60 (ob_40 hst) rfl (by decide)) (by decide) ?_
          refine pGo (s_aload dX4_nextWay_63 rfl Ix4.pos) ?_
          refine pGo (s_getF pc6 fl_X4_48 dX4_nextWay_65 Ix4.o0 rfl (by decide)) ?_
          refine pGo (s_iload dX4_nextWay_68 rfl) ?_
          refine pGoE (y := (rd σ (x4 + 3) x5)) (s_iald dX4_nextWay_70 Ix4.o3 (bnd (g2 c2 c4))) rfl ?_
          refine pGoE (y := (rd σ 42 (rd σ (x4 + 3) x5))) (s_iald dX4_nextWay_71 (ob_42 hst) (bnd (g6 c2 c4 c6 c8))) rfl ?_
          refine p_icgt (tgt := 78) dX4_nextWay_72 (by decide) (g5 c2 c4 c6) (g7 c2 c4 c6 c8) (fun c9 => ?_) (fun c10 => ?_)
          · refine pGoL (ls2 := [(2, 40), (0, x1), (0, x2), (0, x3), (2, x4), (0, (x5 + 1)), (0, (vBehind σ x5 x1 x3))]) (s_iinc dX4_nextWay_78 (by decide) rfl rfl) rfl ?_
            refine pGo (s_goto (tgt := 12) dX4_nextWay_81 (by decide)) ?_
            exact (k5 c2 c4 c6 c8 c9)
          · refine pGo (s_iload dX4_nextWay_75 rfl) ?_
            exact pEnd (r := (some (0, x5))) dX4_nextWay_77 ⟨_, rfl⟩ (k6 c2 c4 c6 c8 c10)
set_option maxRecDepth 100000 in
theorem g_X4_lastMinuteAt_0 {d : Nat} {σ : pS} {Q : Option pV → pS → Prop} {Q1 : Option pV → pS → Prop} (hd : 5 ≤ d) (hst : Stat σ) (x1 : Int) (x2 : Int) (x3 : Int)  (f1 : pC mX4_findLatest 4 [(2, 40), (0, x1), (0, x3), (0, 1000000)] σ Q1) (g1 : ∀ (τ1 : pS) (e1 : pLe σ τ1) (q1 : Q1 none τ1), 0 ≤ x2 ∧ x2 < 10) (k1 : ∀ (τ1 : pS) (e1 : pLe σ τ1) (q1 : Q1 none τ1), Q (some (0, (rd τ1 42 x2))) τ1) : pC mX4_lastMinuteAt d [(2, 40), (0, x1), (0, x2), (0, x3)] σ Q := by
  show pR mX4_lastMinuteAt d 0 [(2, 40), (0, x1), (0, x2), (0, x3)] [] σ Q
  refine pGo (s_aload_n dX4_lastMinuteAt_0 rfl (by decide)) ?_
  refine pGo (s_iload_n dX4_lastMinuteAt_1 rfl) ?_
  refine pGo (s_iload_n dX4_lastMinuteAt_2 rfl) ?_
  refine pGo (s_ldc (n := 1000000) dX4_lastMinuteAt_3 kc_X4_22 (by decide)) ?_
  refine p_callV (As := [(0, x1), (0, x3), (0, 1000000)]) (st := []) (n := 3) (d' := 4) (Q1 := Q1) pc4 ok_X4_findLatest ml_X4_69 im_X4_findLatest se_X4_findLatest dX4_lastMinuteAt_5 (ob_40 hst) (pargs_of rfl) rfl (Nat.le_of_ble_eq_true rfl) (by omega) f1 (fun r1 τ1 e1 q1 w1 => ?_)
  obtain rfl : r1 = none := w1
  have S1 : Stat τ1 := (Stat.le (σ := σ) hst e1)
  show pR mX4_lastMinuteAt d 8 [(2, 40), (0, x1), (0, x2), (0, x3)] [] τ1 Q
  refine pGo (s_aload_n dX4_lastMinuteAt_8 rfl (by decide)) ?_
  refine pGoE (y := 42) (s_getF pc4 fl_X4_15 dX4_lastMinuteAt_9 (ob_40 S1) rfl (by decide)) (by decide) ?_
  refine pGo (s_iload_n dX4_lastMinuteAt_12 rfl) ?_
  refine pGoE (y := (rd τ1 42 x2)) (s_iald dX4_lastMinuteAt_13 (ob_42 S1) (bnd (g1 τ1 e1 q1))) rfl ?_
  exact pEnd (r := (some (0, (rd τ1 42 x2)))) dX4_lastMinuteAt_14 ⟨_, rfl⟩ (k1 τ1 e1 q1)
set_option maxRecDepth 100000 in
theorem g_X4_findLatest_0 {d : Nat} {σ : pS} {Q : Option pV → pS → Prop} {Q1 : Option pV → pS → Prop} (hd : 4 ≤ d) (hst : Stat σ) (x1 : Int) (x2 : Int) (x3 : Int)  (f1 : pC mJ7_fill_53178 0 [(2, 42), (0, (-1))] σ Q1) (g1 : ∀ (τ1 : pS) (e1 : pLe σ τ1) (q1 : Q1 none τ1), 0 ≤ x2 ∧ x2 < 10) (k1 : ∀ (τ1 : pS) (e1 : pLe σ τ1) (q1 : Q1 none τ1), pR mX4_findLatest d 21 [(2, 40), (0, x1), (0, x2), (0, x3), (0, 1), (0, 0), (9, 0)] [] (wr τ1 42 x2 x3) Q) : pC mX4_findLatest d [(2, 40), (0, x1), (0, x2), (0, x3)] σ Q := by
  show pR mX4_findLatest d 0 [(2, 40), (0, x1), (0, x2), (0, x3), (9, 0), (9, 0), (9, 0)] [] σ Q
  refine pGo (s_aload_n dX4_findLatest_0 rfl (by decide)) ?_
  refine pGoE (y := 42) (s_getF pc4 fl_X4_15 dX4_findLatest_1 (ob_40 hst) rfl (by decide)) (by decide) ?_
  refine pGo (s_iconst dX4_findLatest_4) ?_
  refine p_callS (As := [(2, 42), (0, (-1))]) (st := []) (n := 2) (d' := 0) (Q1 := Q1) ok_J7_fill_53178 ml_X4_23 sm_J7_fill_53178 dX4_findLatest_5 (pargs_of rfl) rfl (Nat.le_of_ble_eq_true rfl) (by omega) f1 (fun r1 τ1 e1 q1 w1 => ?_)
  obtain rfl : r1 = none := w1
  have S1 : Stat τ1 := (Stat.le (σ := σ) hst e1)
  show pR mX4_findLatest d 8 [(2, 40), (0, x1), (0, x2), (0, x3), (9, 0), (9, 0), (9, 0)] [] τ1 Q
  refine pGo (s_aload_n dX4_findLatest_8 rfl (by decide)) ?_
  refine pGoE (y := 42) (s_getF pc4 fl_X4_15 dX4_findLatest_9 (ob_40 S1) rfl (by decide)) (by decide) ?_
  refine pGo (s_iload_n dX4_findLatest_12 rfl) ?_
  refine pGo (s_iload_n dX4_findLatest_13 rfl) ?_
  refine pGo (s_iast dX4_findLatest_14 (ob_42 S1) (bnd (g1 τ1 e1 q1))) ?_
  refine pGo (s_iconst dX4_findLatest_15) ?_
  refine pGoL (ls2 := [(2, 40), (0, x1), (0, x2), (0, x3), (0, 1), (9, 0), (9, 0)]) (s_istore dX4_findLatest_16 (by decide) rfl) rfl ?_
  refine pGo (s_iconst dX4_findLatest_18) ?_
  refine pGoL (ls2 := [(2, 40), (0, x1), (0, x2), (0, x3), (0, 1), (0, 0), (9, 0)]) (s_istore dX4_findLatest_19 (by decide) rfl) rfl ?_
  exact (k1 τ1 e1 q1)
set_option maxRecDepth 100000 in
theorem g_X4_findLatest_21 {d : Nat} {σ : pS} {Q : Option pV → pS → Prop} (hd : 4 ≤ d) (hst : Stat σ) (x1 : Int) (x2 : Int) (x3 : Int) (x4 : Int) (x5 : Int) (u6 : pV) (hu6 : u6.1 ≠ 1) (g1 : inR x5) (k1 : ∀ (c1 : 10 ≤ x5), Q none σ) (g2 : ∀ (c2 : x5 < 10), inR x4) (k2 : ∀ (c2 : x5 < 10) (c3 : x4 = 0), Q none σ) (k3 : ∀ (c2 : x5 < 10) (c4 : x4 ≠ 0), pR mX4_findLatest d 39 [(2, 40), (0, x1), (0, x2), (0, x3), (0, 0), (0, x5), (0, 0)] [] σ Q) : pR mX4_findLatest d 21 [(2, 40), (0, x1), (0, x2), (0, x3), (0, x4), (0, x5), u6] [] σ Q := by
  refine pGo (s_iload dX4_findLatest_21 rfl) ?_
  refine pGo (s_bipush dX4_findLatest_23 (by decide)) ?_
  refine p_icge (tgt := 93) dX4_findLatest_25 (by decide) g1 (by decide) (fun c1 => ?_) (fun c2 => ?_)
  · exact pEnd (r := none) dX4_findLatest_93 rfl (k1 c1)
  · refine pGo (s_iload dX4_findLatest_28 rfl) ?_
    refine p_ifeq (tgt := 93) dX4_findLatest_30 (by decide) (g2 c2) (fun c3 => ?_) (fun c4 => ?_)
    · exact pEnd (r := none) dX4_findLatest_93 rfl (k2 c2 c3)
    · refine pGo (s_iconst dX4_findLatest_33) ?_
      refine pGoL (ls2 := [(2, 40), (0, x1), (0, x2), (0, x3), (0, 0), (0, x5), u6]) (s_istore dX4_findLatest_34 (by decide) rfl) rfl ?_
      refine pGo (s_iconst dX4_findLatest_36) ?_
      refine pGoL (ls2 := [(2, 40), (0, x1), (0, x2), (0, x3), (0, 0), (0, x5), (0, 0)]) (s_istore dX4_findLatest_37 (by decide) rfl) rfl ?_
      exact (k3 c2 c4)
set_option maxRecDepth 100000 in
theorem g_X4_findLatest_39 {d : Nat} {σ : pS} {Q : Option pV → pS → Prop} {Q1 : Option pV → pS → Prop} (hd : 4 ≤ d) (hst : Stat σ) (x1 : Int) (x2 : Int) (x3 : Int) (x4 : Int) (x5 : Int) (x6 : Int)  (g1 : inR x6) (k1 : ∀ (c1 : 17 ≤ x6), pR mX4_findLatest d 21 [(2, 40), (0, x1), (0, x2), (0, x3), (0, x4), (0, (x5 + 1)), (0, x6)] [] σ Q) (f1 : ∀ (c2 : x6 < 17), pC mX6_has 1 [(2, (rd σ 35 4)), (0, x6)] σ (fun r τ => r = some (0, b2i (vHas (rd σ (rd σ 35 4) 0) (rd σ (rd σ 35 4) 1) x6)) ∧ τ = σ)) (g2 : ∀ (c2 : x6 < 17), Inst6 σ (rd σ 35 4)) (k2 : ∀ (c2 : x6 < 17) (c3 : (vHas (rd σ (rd σ 35 4) 0) (rd σ (rd σ 35 4) 1) x6) = false), pR mX4_findLatest d 39 [(2, 40), (0, x1), (0, x2), (0, x3), (0, (i_or x4 0)), (0, x5), (0, (x6 + 1))] [] σ Q) (f2 : ∀ (c2 : x6 < 17) (c4 : (vHas (rd σ (rd σ 35 4) 0) (rd σ (rd σ 35 4) 1) x6) = true), pC mX4_goesLater 3 [(2, 40), (0, x6), (0, x1)] σ Q1) (g3 : ∀ (c2 : x6 < 17) (c4 : (vHas (rd σ (rd σ 35 4) 0) (rd σ (rd σ 35 4) 1) x6) = true) (v2 : Int) (b2 : v2 = 0 ∨ v2 = 1) (τ2 : pS) (e2 : pLe σ τ2) (q2 : Q1 (some (0, v2)) τ2), inR v2) (k3 : ∀ (c2 : x6 < 17) (c4 : (vHas (rd σ (rd σ 35 4) 0) (rd σ (rd σ 35 4) 1) x6) = true) (v2 : Int) (b2 : v2 = 0 ∨ v2 = 1) (τ2 : pS) (e2 : pLe σ τ2) (q2 : Q1 (some (0, v2)) τ2) (c5 : v2 = 0), pR mX4_findLatest d 39 [(2, 40), (0, x1), (0, x2), (0, x3), (0, (i_or x4 0)), (0, x5), (0, (x6 + 1))] [] τ2 Q) (k4 : ∀ (c2 : x6 < 17) (c4 : (vHas (rd σ (rd σ 35 4) 0) (rd σ (rd σ 35 4) 1) x6) = true) (v2 : Int) (b2 : v2 = 0 ∨ v2 = 1) (τ2 : pS) (e2 : pLe σ τ2) (q2 : Q1 (some (0, v2)) τ2) (c6 : v2 ≠ 0), pR mX4_findLatest d 39 [(2, 40), (0, x1), (0, x2), (0, x3), (0, (i_or x4 1)), (0, x5), (0, (x6 + 1))] [] τ2 Q) : pR mX4_findLatest d 39 [(2, 40), (0, x1), (0, x2), (0, x3), (0, x4), (0, x5), (0, x6)] [] σ Q := by
  refine pGo (s_iload dX4_findLatest_39 rfl) ?_
  refine pGo (s_bipush dX4_findLatest_41 (by decide)) ?_
  refine p_icge (tgt := 87) dX4_findLatest_43 (by decide) g1 (by decide) (fun c1 => ?_) (fun c2 => ?_)
  · refine pGoL (ls2 := [(2, 40), (0, x1), (0, x2), (0, x3), (0, x4), (0, (x5 + 1)), (0, x6)]) (s_iinc dX4_findLatest_87 (by decide) rfl rfl) rfl ?_
    refine pGo (s_goto (tgt := 21) dX4_findLatest_90 (by decide)) ?_
    exact (k1 c1)
  · refine pGo (s_iload dX4_findLatest_46 rfl) ?_
    refine pGo (s_aload_n dX4_findLatest_48 rfl (by decide)) ?_
    refine pGoE (y := 35) (s_getF pc4 fl_X4_18 dX4_findLatest_49 (ob_40 hst) rfl (by decide)) (by decide) ?_
    refine pGoE (y := (rd σ 35 4)) (s_getR pc3 fl_X4_29 dX4_findLatest_52 (ob_35 hst) rfl rfl) rfl ?_
    refine pGo (s_iload dX4_findLatest_55 rfl) ?_
    refine p_callV (As := [(0, x6)]) (st := [(0, x4)]) (n := 1) (d' := 1) (Q1 := (fun r τ => r = some (0, b2i (vHas (rd σ (rd σ 35 4) 0) (rd σ (rd σ 35 4) 1) x6)) ∧ τ = σ)) pc6 ok_X6_has ml_X4_35 im_X6_has se_X6_has dX4_findLatest_57 (g2 c2).o0 (pargs_of rfl) rfl (Nat.le_of_ble_eq_true rfl) (by omega) (f1 c2) (fun r1 τ1 e1 q1 w1 => ?_)
    obtain ⟨rfl, t1⟩ := q1
    rw [t1]
    show pR mX4_findLatest d 60 [(2, 40), (0, x1), (0, x2), (0, x3), (0, x4), (0, x5), (0, x6)] [(0, (b2i (vHas (rd σ (rd σ 35 4) 0) (rd σ (rd σ 35 4) 1) x6))), (0, x4)] σ Q
    refine p_ifeqB (tgt := 77) dX4_findLatest_60 (by decide) (fun c3 => ?_) (fun c4 => ?_)
    · refine pGo (s_iconst dX4_findLatest_77) ?_
      refine pGo (s_ior dX4_findLatest_78) ?_
      refine pGoL (ls2 := [(2, 40), (0, x1), (0, x2), (0, x3), (0, (i_or x4 0)), (0, x5), (0, x6)]) (s_istore dX4_findLatest_79 (by decide) rfl) rfl ?_
      refine pGoL (ls2 := [(2, 40), (0, x1), (0, x2), (0, x3), (0, (i_or x4 0)), (0, x5), (0, (x6 + 1))]) (s_iinc dX4_findLatest_81 (by decide) rfl rfl) rfl ?_
      refine pGo (s_goto (tgt := 39) dX4_findLatest_84 (by decide)) ?_
      exact (k2 c2 c3)
    · refine pGo (s_aload_n dX4_findLatest_63 rfl (by decide)) ?_
      refine pGo (s_iload dX4_findLatest_64 rfl) ?_
      refine pGo (s_iload_n dX4_findLatest_66 rfl) ?_
      refine p_callV (As := [(0, x6), (0, x1)]) (st := [(0, x4)]) (n := 2) (d' := 3) (Q1 := Q1) pc4 ok_X4_goesLater ml_X4_76 im_X4_goesLater se_X4_goesLater dX4_findLatest_67 (ob_40 hst) (pargs_of rfl) rfl (Nat.le_of_ble_eq_true rfl) (by omega) (f2 c2 c4) (fun r2 τ2 e2 q2 w2 => ?_)
      obtain ⟨v2, rfl, b2⟩ := pRok_z w2
      have S2 : Stat τ2 := (Stat.le (σ := σ) hst e2)
      have J2_0 : Inst6 τ2 (rd σ 35 4) := Inst6.le (σ := σ) (g2 c2) e2
      show pR mX4_findLatest d 70 [(2, 40), (0, x1), (0, x2), (0, x3), (0, x4), (0, x5), (0, x6)] [(0, v2), (0, x4)] τ2 Q
      refine p_ifeq (tgt := 77) dX4_findLatest_70 (by decide) (g3 c2 c4 v2 b2 τ2 e2 q2) (fun c5 => ?_) (fun c6 => ?_)
      · refine pGo (s_iconst dX4_findLatest_77) ?_
        refine pGo (s_ior dX4_findLatest_78) ?_
        refine pGoL (ls2 := [(2, 40), (0, x1), (0, x2), (0, x3), (0, (i_or x4 0)), (0, x5), (0, x6)]) (s_istore dX4_findLatest_79 (by decide) rfl) rfl ?_
        refine pGoL (ls2 := [(2, 40), (0, x1), (0, x2), (0, x3), (0, (i_or x4 0)), (0, x5), (0, (x6 + 1))]) (s_iinc dX4_findLatest_81 (by decide) rfl rfl) rfl ?_
        refine pGo (s_goto (tgt := 39) dX4_findLatest_84 (by decide)) ?_
        exact (k3 c2 c4 v2 b2 τ2 e2 q2 c5)
      · refine pGo (s_iconst dX4_findLatest_73) ?_
        refine pGo (s_goto (tgt := 78) dX4_findLatest_74 (by decide)) ?_
        refine pGo (s_ior dX4_findLatest_78) ?_
        refine pGoL (ls2 := [(2, 40), (0, x1), (0, x2), (0, x3), (0, (i_or x4 1)), (0, x5), (0, x6)]) (s_istore dX4_findLatest_79 (by decide) rfl) rfl ?_
        refine pGoL (ls2 := [(2, 40), (0, x1), (0, x2), (0, x3), (0, (i_or x4 1)), (0, x5), (0, (x6 + 1))]) (s_iinc dX4_findLatest_81 (by decide) rfl rfl) rfl ?_
        refine pGo (s_goto (tgt := 39) dX4_findLatest_84 (by decide)) ?_
        exact (k4 c2 c4 v2 b2 τ2 e2 q2 c6)
set_option maxRecDepth 100000 in
theorem g_X4_goesLater_0 {d : Nat} {σ : pS} {Q : Option pV → pS → Prop} (hd : 3 ≤ d) (hst : Stat σ) (x1 : Int) (x2 : Int)  (g1 : 0 ≤ (rd σ 35 4)) (g2 : Inst6 σ (rd σ 35 4)) (g3 : 0 ≤ x1 ∧ x1 < 17) (g4 : 0 ≤ (rd σ ((rd σ 35 4) + 3) x1) ∧ (rd σ ((rd σ 35 4) + 3) x1) < 10) (g5 : inR (rd σ 42 (rd σ ((rd σ 35 4) + 3) x1))) (k1 : ∀ (c1 : (rd σ 42 (rd σ ((rd σ 35 4) + 3) x1)) = (-1)), Q (some (0, 0)) σ) (f1 : ∀ (c2 : (rd σ 42 (rd σ ((rd σ 35 4) + 3) x1)) ≠ (-1)), pC mX6_fits 0 [(2, (rd σ 35 4)), (0, x1), (0, x2)] σ (fun r τ => r = some (0, b2i (vFits σ (rd σ 35 4) x1 x2)) ∧ τ = σ)) (f2 : ∀ (c2 : (rd σ 42 (rd σ ((rd σ 35 4) + 3) x1)) ≠ (-1)) (c3 : (vFits σ (rd σ 35 4) x1 x2) = true), pC mX6_minutes 1 [(2, (rd σ 35 4)), (0, x1), (0, x2)] σ (fun r τ => r = some (0, (vMinX σ (rd σ 35 4) x1 x2)) ∧ τ = σ)) (f3 : ∀ (c2 : (rd σ 42 (rd σ ((rd σ 35 4) + 3) x1)) ≠ (-1)) (c3 : (vFits σ (rd σ 35 4) x1 x2) = true), pC mX3_lastOpen 2 [(2, 35), (0, x1), (0, ((rd σ 42 (rd σ ((rd σ 35 4) + 3) x1)) - (vMinX σ (rd σ 35 4) x1 x2)))] σ (fun r τ => r = some (0, (vLO σ x1 ((rd σ 42 (rd σ ((rd σ 35 4) + 3) x1)) - (vMinX σ (rd σ 35 4) x1 x2)))) ∧ τ = σ)) (g6 : ∀ (c2 : (rd σ 42 (rd σ ((rd σ 35 4) + 3) x1)) ≠ (-1)) (c3 : (vFits σ (rd σ 35 4) x1 x2) = true), 0 ≤ (rd σ ((rd σ 35 4) + 2) x1) ∧ (rd σ ((rd σ 35 4) + 2) x1) < 10) (g7 : ∀ (c2 : (rd σ 42 (rd σ ((rd σ 35 4) + 3) x1)) ≠ (-1)) (c3 : (vFits σ (rd σ 35 4) x1 x2) = true), inR (vLO σ x1 ((rd σ 42 (rd σ ((rd σ 35 4) + 3) x1)) - (vMinX σ (rd σ 35 4) x1 x2)))) (g8 : ∀ (c2 : (rd σ 42 (rd σ ((rd σ 35 4) + 3) x1)) ≠ (-1)) (c3 : (vFits σ (rd σ 35 4) x1 x2) = true), inR (rd σ 42 (rd σ ((rd σ 35 4) + 2) x1))) (k2 : ∀ (c2 : (rd σ 42 (rd σ ((rd σ 35 4) + 3) x1)) ≠ (-1)) (c3 : (vFits σ (rd σ 35 4) x1 x2) = true) (c5 : (rd σ 42 (rd σ ((rd σ 35 4) + 2) x1)) < (vLO σ x1 ((rd σ 42 (rd σ ((rd σ 35 4) + 3) x1)) - (vMinX σ (rd σ 35 4) x1 x2)))), Q (some (0, 1)) (wr σ 42 (rd σ ((rd σ 35 4) + 2) x1) (vLO σ x1 ((rd σ 42 (rd σ ((rd σ 35 4) + 3) x1)) - (vMinX σ (rd σ 35 4) x1 x2))))) (k3 : ∀ (c2 : (rd σ 42 (rd σ ((rd σ 35 4) + 3) x1)) ≠ (-1)) (c3 : (vFits σ (rd σ 35 4) x1 x2) = true) (c6 : (vLO σ x1 ((rd σ 42 (rd σ ((rd σ 35 4) + 3) x1)) - (vMinX σ (rd σ 35 4) x1 x2))) ≤ (rd σ 42 (rd σ ((rd σ 35 4) + 2) x1))), Q (some (0, 0)) σ) (k4 : ∀ (c2 : (rd σ 42 (rd σ ((rd σ 35 4) + 3) x1)) ≠ (-1)) (c4 : (vFits σ (rd σ 35 4) x1 x2) = false), Q (some (0, 0)) σ) : pC mX4_goesLater d [(2, 40), (0, x1), (0, x2)] σ Q := by
  show pR mX4_goesLater d 0 [(2, 40), (0, x1), (0, x2), (9, 0), (9, 0), (9, 0), (9, 0)] [] σ Q
  refine pGo (s_aload_n dX4_goesLater_0 rfl (by decide)) ?_
  refine pGoE (y := 35) (s_getF pc4 fl_X4_18 dX4_goesLater_1 (ob_40 hst) rfl (by decide)) (by decide) ?_
  refine pGoE (y := (rd σ 35 4)) (s_getR pc3 fl_X4_29 dX4_goesLater_4 (ob_35 hst) rfl rfl) rfl ?_
  refine pGoL (ls2 := [(2, 40), (0, x1), (0, x2), (2, (rd σ 35 4)), (9, 0), (9, 0), (9, 0)]) (s_astore_n dX4_goesLater_7 (by decide) rfl g1) rfl ?_
  refine pGo (s_aload_n dX4_goesLater_8 rfl g1) ?_
  refine pGo (s_getF pc6 fl_X4_45 dX4_goesLater_9 g2.o0 rfl (by decide)) ?_
  refine pGo (s_iload_n dX4_goesLater_12 rfl) ?_
  refine pGoE (y := (rd σ ((rd σ 35 4) + 2) x1)) (s_iald dX4_goesLater_13 g2.o2 (bnd g3)) rfl ?_
  refine pGoL (ls2 := [(2, 40), (0, x1), (0, x2), (2, (rd σ 35 4)), (0, (rd σ ((rd σ 35 4) + 2) x1)), (9, 0), (9, 0)]) (s_istore dX4_goesLater_14 (by decide) rfl) rfl ?_
  refine pGo (s_aload_n dX4_goesLater_16 rfl g2.pos) ?_
  refine pGo (s_getF pc6 fl_X4_48 dX4_goesLater_17 g2.o0 rfl (by decide)) ?_
  refine pGo (s_iload_n dX4_goesLater_20 rfl) ?_
  refine pGoE (y := (rd σ ((rd σ 35 4) + 3) x1)) (s_iald dX4_goesLater_21 g2.o3 (bnd g3)) rfl ?_
  refine pGoL (ls2 := [(2, 40), (0, x1), (0, x2), (2, (rd σ 35 4)), (0, (rd σ ((rd σ 35 4) + 2) x1)), (0, (rd σ ((rd σ 35 4) + 3) x1)), (9, 0)]) (s_istore dX4_goesLater_22 (by decide) rfl) rfl ?_
  refine pGo (s_aload_n dX4_goesLater_24 rfl (by decide)) ?_
  refine pGoE (y := 42) (s_getF pc4 fl_X4_15 dX4_goesLater_25 (ob_40 hst) rfl (by decide)) (by decide) ?_
  refine pGo (s_iload dX4_goesLater_28 rfl) ?_
  refine pGoE (y := (rd σ 42 (rd σ ((rd σ 35 4) + 3) x1))) (s_iald dX4_goesLater_30 (ob_42 hst) (bnd g4)) rfl ?_
  refine pGo (s_iconst dX4_goesLater_31) ?_
  refine p_iceq (tgt := 44) dX4_goesLater_32 (by decide) g5 (by decide) (fun c1 => ?_) (fun c2 => ?_)
  · refine pGo (s_iconst dX4_goesLater_44) ?_
    exact pEnd (r := (some (0, 0))) dX4_goesLater_45 (Or.inl rfl) (k1 c1)
  · refine pGo (s_aload_n dX4_goesLater_35 rfl g2.pos) ?_
    refine pGo (s_iload_n dX4_goesLater_36 rfl) ?_
    refine pGo (s_iload_n dX4_goesLater_37 rfl) ?_
    refine p_callV (As := [(0, x1), (0, x2)]) (st := []) (n := 2) (d' := 0) (Q1 := (fun r τ => r = some (0, b2i (vFits σ (rd σ 35 4) x1 x2)) ∧ τ = σ)) pc6 ok_X6_fits ml_X4_55 im_X6_fits se_X6_fits dX4_goesLater_38 g2.o0 (pargs_of rfl) rfl (Nat.le_of_ble_eq_true rfl) (by omega) (f1 c2) (fun r1 τ1 e1 q1 w1 => ?_)
    obtain ⟨rfl, t1⟩ := q1
    rw [t1]
    show pR mX4_goesLater d 41 [(2, 40), (0, x1), (0, x2), (2, (rd σ 35 4)), (0, (rd σ ((rd σ 35 4) + 2) x1)), (0, (rd σ ((rd σ 35 4) + 3) x1)), (9, 0)] [(0, (b2i (vFits σ (rd σ 35 4) x1 x2)))] σ Q
    refine p_ifneB (tgt := 46) dX4_goesLater_41 (by decide) (fun c3 => ?_) (fun c4 => ?_)
    · refine pGo (s_aload_n dX4_goesLater_46 rfl (by decide)) ?_
      refine pGoE (y := 35) (s_getF pc4 fl_X4_18 dX4_goesLater_47 (ob_40 hst) rfl (by decide)) (by decide) ?_
      refine pGo (s_iload_n dX4_goesLater_50 rfl) ?_
      refine pGo (s_aload_n dX4_goesLater_51 rfl (by decide)) ?_
      refine pGoE (y := 42) (s_getF pc4 fl_X4_15 dX4_goesLater_52 (ob_40 hst) rfl (by decide)) (by decide) ?_
      refine pGo (s_iload dX4_goesLater_55 rfl) ?_
      refine pGoE (y := (rd σ 42 (rd σ ((rd σ 35 4) + 3) x1))) (s_iald dX4_goesLater_57 (ob_42 hst) (bnd g4)) rfl ?_
      refine pGo (s_aload_n dX4_goesLater_58 rfl g2.pos) ?_
      refine pGo (s_iload_n dX4_goesLater_59 rfl) ?_
      refine pGo (s_iload_n dX4_goesLater_60 rfl) ?_
      refine p_callV (As := [(0, x1), (0, x2)]) (st := [(0, (rd σ 42 (rd σ ((rd σ 35 4) + 3) x1))), (0, x1), (2, 35)]) (n := 2) (d' := 1) (Q1 := (fun r τ => r = some (0, (vMinX σ (rd σ 35 4) x1 x2)) ∧ τ = σ)) pc6 ok_X6_minutes ml_X4_62 im_X6_minutes se_X6_minutes dX4_goesLater_61 g2.o0 (pargs_of rfl) rfl (Nat.le_of_ble_eq_true rfl) (by omega) (f2 c2 c3) (fun r2 τ2 e2 q2 w2 => ?_)
      obtain ⟨rfl, t2⟩ := q2
      rw [t2]
      show pR mX4_goesLater d 64 [(2, 40), (0, x1), (0, x2), (2, (rd σ 35 4)), (0, (rd σ ((rd σ 35 4) + 2) x1)), (0, (rd σ ((rd σ 35 4) + 3) x1)), (9, 0)] [(0, (vMinX σ (rd σ 35 4) x1 x2)), (0, (rd σ 42 (rd σ ((rd σ 35 4) + 3) x1))), (0, x1), (2, 35)] σ Q
      refine pGo (s_isub dX4_goesLater_64) ?_
      refine p_callV (As := [(0, x1), (0, ((rd σ 42 (rd σ ((rd σ 35 4) + 3) x1)) - (vMinX σ (rd σ 35 4) x1 x2)))]) (st := []) (n := 2) (d' := 2) (Q1 := (fun r τ => r = some (0, (vLO σ x1 ((rd σ 42 (rd σ ((rd σ 35 4) + 3) x1)) - (vMinX σ (rd σ 35 4) x1 x2)))) ∧ τ = σ)) pc3 ok_X3_lastOpen ml_X4_79 im_X3_lastOpen se_X3_lastOpen dX4_goesLater_65 (ob_35 hst) (pargs_of rfl) rfl (Nat.le_of_ble_eq_true rfl) (by omega) (f3 c2 c3) (fun r3 τ3 e3 q3 w3 => ?_)
      obtain ⟨rfl, t3⟩ := q3
      rw [t3]
      show pR mX4_goesLater d 68 [(2, 40), (0, x1), (0, x2), (2, (rd σ 35 4)), (0, (rd σ ((rd σ 35 4) + 2) x1)), (0, (rd σ ((rd σ 35 4) + 3) x1)), (9, 0)] [(0, (vLO σ x1 ((rd σ 42 (rd σ ((rd σ 35 4) + 3) x1)) - (vMinX σ (rd σ 35 4) x1 x2))))] σ Q
      refine pGoL (ls2 := [(2, 40), (0, x1), (0, x2), (2, (rd σ 35 4)), (0, (rd σ ((rd σ 35 4) + 2) x1)), (0, (rd σ ((rd σ 35 4) + 3) x1)), (0, (vLO σ x1 ((rd σ 42 (rd σ ((rd σ 35 4) + 3) x1)) - (vMinX σ (rd σ 35 4) x1 x2))))]) (s_istore dX4_goesLater_68 (by decide) rfl) rfl ?_
      refine pGo (s_iload dX4_goesLater_70 rfl) ?_
      refine pGo (s_aload_n dX4_goesLater_72 rfl (by decide)) ?_
      refine pGoE (y := 42) (s_getF pc4 fl_X4_15 dX4_goesLater_73 (ob_40 hst) rfl (by decide)) (by decide) ?_
      refine pGo (s_iload dX4_goesLater_76 rfl) ?_
      refine pGoE (y := (rd σ 42 (rd σ ((rd σ 35 4) + 2) x1))) (s_iald dX4_goesLater_78 (ob_42 hst) (bnd (g6 c2 c3))) rfl ?_
      refine p_icgt (tgt := 84) dX4_goesLater_79 (by decide) (g7 c2 c3) (g8 c2 c3) (fun c5 => ?_) (fun c6 => ?_)
      · refine pGo (s_aload_n dX4_goesLater_84 rfl (by decide)) ?_
        refine pGoE (y := 42) (s_getF pc4 fl_X4_15 dX4_goesLater_85 (ob_40 hst) rfl (by decide)) (by decide) ?_
        refine pGo (s_iload dX4_goesLater_88 rfl) ?_
        refine pGo (s_iload dX4_goesLater_90 rfl) ?_
        refine pGo (s_iast dX4_goesLater_92 (ob_42 hst) (bnd (g6 c2 c3))) ?_
        refine pGo (s_iconst dX4_goesLater_93) ?_
        exact pEnd (r := (some (0, 1))) dX4_goesLater_94 (Or.inr rfl) (k2 c2 c3 c5)
      · refine pGo (s_iconst dX4_goesLater_82) ?_
        exact pEnd (r := (some (0, 0))) dX4_goesLater_83 (Or.inl rfl) (k3 c2 c3 c6)
    · refine pGo (s_iconst dX4_goesLater_44) ?_
      exact pEnd (r := (some (0, 0))) dX4_goesLater_45 (Or.inl rfl) (k4 c2 c4)
set_option maxRecDepth 100000 in
theorem g_X11_soonestOf_0 {d : Nat} {σ : pS} {Q : Option pV → pS → Prop} (hd : 3 ≤ d) (hst : Stat σ) (x1 : Int) (x2 : Int) (x3 : Int) (x4 : Int)  (k1 : pR mX11_soonestOf d 3 [(2, 68), (0, x1), (0, x2), (0, x3), (0, x4), (0, 0), (9, 0), (9, 0)] [] σ Q) : pC mX11_soonestOf d [(2, 68), (0, x1), (0, x2), (0, x3), (0, x4)] σ Q := by
  show pR mX11_soonestOf d 0 [(2, 68), (0, x1), (0, x2), (0, x3), (0, x4), (9, 0), (9, 0), (9, 0)] [] σ Q
  refine pGo (s_iconst dX11_soonestOf_0) ?_
  refine pGoL (ls2 := [(2, 68), (0, x1), (0, x2), (0, x3), (0, x4), (0, 0), (9, 0), (9, 0)]) (s_istore dX11_soonestOf_1 (by decide) rfl) rfl ?_
  exact k1
set_option maxRecDepth 100000 in
theorem g_X11_soonestOf_3 {d : Nat} {σ : pS} {Q : Option pV → pS → Prop} (hd : 3 ≤ d) (hst : Stat σ) (x1 : Int) (x2 : Int) (x3 : Int) (x4 : Int) (x5 : Int) (u6 : pV) (u7 : pV) (hu6 : u6.1 ≠ 1) (hu7 : u7.1 ≠ 1) (g1 : inR x5) (g2 : ∀ (c1 : 10 ≤ x5), 0 ≤ x2 ∧ x2 < 10) (k1 : ∀ (c1 : 10 ≤ x5), pR mX11_soonestOf d 35 [(2, 68), (0, x1), (0, x2), (0, x3), (0, x4), (0, 1), u6, u7] [] (wr σ 106 x2 x3) Q) (g3 : ∀ (c2 : x5 < 10), 0 ≤ x5 ∧ x5 < 10) (k2 : ∀ (c2 : x5 < 10), pR mX11_soonestOf d 3 [(2, 68), (0, x1), (0, x2), (0, x3), (0, x4), (0, (x5 + 1)), u6, u7] [] (wr σ 106 x5 1000000) Q) : pR mX11_soonestOf d 3 [(2, 68), (0, x1), (0, x2), (0, x3), (0, x4), (0, x5), u6, u7] [] σ Q := by
  refine pGo (s_iload dX11_soonestOf_3 rfl) ?_
  refine pGo (s_bipush dX11_soonestOf_5 (by decide)) ?_
  refine p_icge (tgt := 25) dX11_soonestOf_7 (by decide) g1 (by decide) (fun c1 => ?_) (fun c2 => ?_)
  · refine pGo (s_aload_n dX11_soonestOf_25 rfl (by decide)) ?_
    refine pGoE (y := 106) (s_getF pc11 fl_X11_127 dX11_soonestOf_26 (ob_68 hst) rfl (by decide)) (by decide) ?_
    refine pGo (s_iload_n dX11_soonestOf_29 rfl) ?_
    refine pGo (s_iload_n dX11_soonestOf_30 rfl) ?_
    refine pGo (s_iast dX11_soonestOf_31 (ob_106 hst) (bnd (g2 c1))) ?_
    refine pGo (s_iconst dX11_soonestOf_32) ?_
    refine pGoL (ls2 := [(2, 68), (0, x1), (0, x2), (0, x3), (0, x4), (0, 1), u6, u7]) (s_istore dX11_soonestOf_33 (by decide) rfl) rfl ?_
    exact (k1 c1)
  · refine pGo (s_aload_n dX11_soonestOf_10 rfl (by decide)) ?_
    refine pGoE (y := 106) (s_getF pc11 fl_X11_127 dX11_soonestOf_11 (ob_68 hst) rfl (by decide)) (by decide) ?_
    refine pGo (s_iload dX11_soonestOf_14 rfl) ?_
    refine pGo (s_ldc (n := 1000000) dX11_soonestOf_16 kc_X11_232 (by decide)) ?_
    refine pGo (s_iast dX11_soonestOf_18 (ob_106 hst) (bnd (g3 c2))) ?_
    refine pGoL (ls2 := [(2, 68), (0, x1), (0, x2), (0, x3), (0, x4), (0, (x5 + 1)), u6, u7]) (s_iinc dX11_soonestOf_19 (by decide) rfl rfl) rfl ?_
    refine pGo (s_goto (tgt := 3) dX11_soonestOf_22 (by decide)) ?_
    exact (k2 c2)
set_option maxRecDepth 100000 in
theorem g_X11_soonestOf_35 {d : Nat} {σ : pS} {Q : Option pV → pS → Prop} (hd : 3 ≤ d) (hst : Stat σ) (x1 : Int) (x2 : Int) (x3 : Int) (x4 : Int) (x5 : Int) (u6 : pV) (u7 : pV) (hu6 : u6.1 ≠ 1) (hu7 : u7.1 ≠ 1) (g1 : inR x5) (g2 : ∀ (c1 : x5 = 0), 0 ≤ x4 ∧ x4 < 10) (k1 : ∀ (c1 : x5 = 0), Q (some (0, (rd σ 106 x4))) σ) (k2 : ∀ (c2 : x5 ≠ 0), pR mX11_soonestOf d 46 [(2, 68), (0, x1), (0, x2), (0, x3), (0, x4), (0, 0), (0, 0), u7] [] σ Q) : pR mX11_soonestOf d 35 [(2, 68), (0, x1), (0, x2), (0, x3), (0, x4), (0, x5), u6, u7] [] σ Q := by
  refine pGo (s_iload dX11_soonestOf_35 rfl) ?_
  refine p_ifeq (tgt := 154) dX11_soonestOf_37 (by decide) g1 (fun c1 => ?_) (fun c2 => ?_)
  · refine pGo (s_aload_n dX11_soonestOf_154 rfl (by decide)) ?_
    refine pGoE (y := 106) (s_getF pc11 fl_X11_127 dX11_soonestOf_155 (ob_68 hst) rfl (by decide)) (by decide) ?_
    refine pGo (s_iload dX11_soonestOf_158 rfl) ?_
    refine pGoE (y := (rd σ 106 x4)) (s_iald dX11_soonestOf_160 (ob_106 hst) (bnd (g2 c1))) rfl ?_
    exact pEnd (r := (some (0, (rd σ 106 x4)))) dX11_soonestOf_161 ⟨_, rfl⟩ (k1 c1)
  · refine pGo (s_iconst dX11_soonestOf_40) ?_
    refine pGoL (ls2 := [(2, 68), (0, x1), (0, x2), (0, x3), (0, x4), (0, 0), u6, u7]) (s_istore dX11_soonestOf_41 (by decide) rfl) rfl ?_
    refine pGo (s_iconst dX11_soonestOf_43) ?_
    refine pGoL (ls2 := [(2, 68), (0, x1), (0, x2), (0, x3), (0, x4), (0, 0), (0, 0), u7]) (s_istore dX11_soonestOf_44 (by decide) rfl) rfl ?_
    exact (k2 c2)
set_option maxRecDepth 100000 in
theorem g_X11_soonestOf_46 {d : Nat} {σ : pS} {Q : Option pV → pS → Prop} (hd : 3 ≤ d) (hst : Stat σ) (x1 : Int) (x2 : Int) (x3 : Int) (x4 : Int) (x5 : Int) (x6 : Int) (u7 : pV) (hu7 : u7.1 ≠ 1) (g1 : inR x6) (k1 : ∀ (c1 : 13 ≤ x6), pR mX11_soonestOf d 35 [(2, 68), (0, x1), (0, x2), (0, x3), (0, x4), (0, x5), (0, x6), u7] [] σ Q) (f1 : ∀ (c2 : x6 < 13), pC mX11_isWay 0 [(2, 68), (0, x6)] σ (fun r τ => r = some (0, b2i (vWay (rd σ 68 30) (rd σ 68 31) x6)) ∧ τ = σ)) (k2 : ∀ (c2 : x6 < 13) (c3 : (vWay (rd σ 68 30) (rd σ 68 31) x6) = false), pR mX11_soonestOf d 46 [(2, 68), (0, x1), (0, x2), (0, x3), (0, x4), (0, x5), (0, (x6 + 1)), u7] [] σ Q) (g2 : ∀ (c2 : x6 < 13) (c4 : (vWay (rd σ 68 30) (rd σ 68 31) x6) = true), 0 ≤ x6 ∧ x6 < 13) (g3 : ∀ (c2 : x6 < 13) (c4 : (vWay (rd σ 68 30) (rd σ 68 31) x6) = true), 0 ≤ (rd σ 77 x6) ∧ (rd σ 77 x6) < 10) (g4 : ∀ (c2 : x6 < 13) (c4 : (vWay (rd σ 68 30) (rd σ 68 31) x6) = true), inR (rd σ 106 (rd σ 77 x6))) (f2 : ∀ (c2 : x6 < 13) (c4 : (vWay (rd σ 68 30) (rd σ 68 31) x6) = true) (c5 : (rd σ 106 (rd σ 77 x6)) ≠ 1000000), pC mX11_by 2 [(2, 68), (0, x1), (0, x6), (0, (rd σ 106 (rd σ 77 x6)))] σ (fun r τ => r = some (0, (vBy σ x1 x6 (rd σ 106 (rd σ 77 x6)))) ∧ τ = σ)) (g5 : ∀ (c2 : x6 < 13) (c4 : (vWay (rd σ 68 30) (rd σ 68 31) x6) = true) (c5 : (rd σ 106 (rd σ 77 x6)) ≠ 1000000), inR (vBy σ x1 x6 (rd σ 106 (rd σ 77 x6)))) (k3 : ∀ (c2 : x6 < 13) (c4 : (vWay (rd σ 68 30) (rd σ 68 31) x6) = true) (c5 : (rd σ 106 (rd σ 77 x6)) ≠ 1000000) (c7 : (vBy σ x1 x6 (rd σ 106 (rd σ 77 x6))) < 0), pR mX11_soonestOf d 46 [(2, 68), (0, x1), (0, x2), (0, x3), (0, x4), (0, x5), (0, (x6 + 1)), (0, (vBy σ x1 x6 (rd σ 106 (rd σ 77 x6))))] [] σ Q) (g6 : ∀ (c2 : x6 < 13) (c4 : (vWay (rd σ 68 30) (rd σ 68 31) x6) = true) (c5 : (rd σ 106 (rd σ 77 x6)) ≠ 1000000) (c8 : 0 ≤ (vBy σ x1 x6 (rd σ 106 (rd σ 77 x6)))), 0 ≤ (rd σ 78 x6) ∧ (rd σ 78 x6) < 10) (g7 : ∀ (c2 : x6 < 13) (c4 : (vWay (rd σ 68 30) (rd σ 68 31) x6) = true) (c5 : (rd σ 106 (rd σ 77 x6)) ≠ 1000000) (c8 : 0 ≤ (vBy σ x1 x6 (rd σ 106 (rd σ 77 x6)))), inR (rd σ 106 (rd σ 78 x6))) (k4 : ∀ (c2 : x6 < 13) (c4 : (vWay (rd σ 68 30) (rd σ 68 31) x6) = true) (c5 : (rd σ 106 (rd σ 77 x6)) ≠ 1000000) (c8 : 0 ≤ (vBy σ x1 x6 (rd σ 106 (rd σ 77 x6)))) (c9 : (vBy σ x1 x6 (rd σ 106 (rd σ 77 x6))) < (rd σ 106 (rd σ 78 x6))), pR mX11_soonestOf d 46 [(2, 68), (0, x1), (0, x2), (0, x3), (0, x4), (0, 1), (0, (x6 + 1)), (0, (vBy σ x1 x6 (rd σ 106 (rd σ 77 x6))))] [] (wr σ 106 (rd σ 78 x6) (vBy σ x1 x6 (rd σ 106 (rd σ 77 x6)))) Q) (k5 : ∀ (c2 : x6 < 13) (c4 : (vWay (rd σ 68 30) (rd σ 68 31) x6) = true) (c5 : (rd σ 106 (rd σ 77 x6)) ≠ 1000000) (c8 : 0 ≤ (vBy σ x1 x6 (rd σ 106 (rd σ 77 x6)))) (c10 : (rd σ 106 (rd σ 78 x6)) ≤ (vBy σ x1 x6 (rd σ 106 (rd σ 77 x6)))), pR mX11_soonestOf d 46 [(2, 68), (0, x1), (0, x2), (0, x3), (0, x4), (0, x5), (0, (x6 + 1)), (0, (vBy σ x1 x6 (rd σ 106 (rd σ 77 x6))))] [] σ Q) (k6 : ∀ (c2 : x6 < 13) (c4 : (vWay (rd σ 68 30) (rd σ 68 31) x6) = true) (c6 : (rd σ 106 (rd σ 77 x6)) = 1000000), pR mX11_soonestOf d 46 [(2, 68), (0, x1), (0, x2), (0, x3), (0, x4), (0, x5), (0, (x6 + 1)), u7] [] σ Q) : pR mX11_soonestOf d 46 [(2, 68), (0, x1), (0, x2), (0, x3), (0, x4), (0, x5), (0, x6), u7] [] σ Q := by
  refine pGo (s_iload dX11_soonestOf_46 rfl) ?_
  refine pGo (s_bipush dX11_soonestOf_48 (by decide)) ?_
  refine p_icge (tgt := 151) dX11_soonestOf_50 (by decide) g1 (by decide) (fun c1 => ?_) (fun c2 => ?_)
  · refine pGo (s_goto (tgt := 35) dX11_soonestOf_151 (by decide)) ?_
    exact (k1 c1)
  · refine pGo (s_aload_n dX11_soonestOf_53 rfl (by decide)) ?_
    refine pGo (s_iload dX11_soonestOf_54 rfl) ?_
    refine p_callV (As := [(0, x6)]) (st := []) (n := 1) (d' := 0) (Q1 := (fun r τ => r = some (0, b2i (vWay (rd σ 68 30) (rd σ 68 31) x6)) ∧ τ = σ)) pc11 ok_X11_isWay ml_X11_387 im_X11_isWay se_X11_isWay dX11_soonestOf_56 (ob_68 hst) (pargs_of rfl) rfl (Nat.le_of_ble_eq_true rfl) (by omega) (f1 c2) (fun r1 τ1 e1 q1 w1 => ?_)
    obtain ⟨rfl, t1⟩ := q1
    rw [t1]
    show pR mX11_soonestOf d 59 [(2, 68), (0, x1), (0, x2), (0, x3), (0, x4), (0, x5), (0, x6), u7] [(0, (b2i (vWay (rd σ 68 30) (rd σ 68 31) x6)))] σ Q
    refine p_ifeqB (tgt := 145) dX11_soonestOf_59 (by decide) (fun c3 => ?_) (fun c4 => ?_)
    · refine pGoL (ls2 := [(2, 68), (0, x1), (0, x2), (0, x3), (0, x4), (0, x5), (0, (x6 + 1)), u7]) (s_iinc dX11_soonestOf_145 (by decide) rfl rfl) rfl ?_
      refine pGo (s_goto (tgt := 46) dX11_soonestOf_148 (by decide)) ?_
      exact (k2 c2 c3)
    · refine pGo (s_aload_n dX11_soonestOf_62 rfl (by decide)) ?_
      refine pGoE (y := 106) (s_getF pc11 fl_X11_127 dX11_soonestOf_63 (ob_68 hst) rfl (by decide)) (by decide) ?_
      refine pGo (s_aload_n dX11_soonestOf_66 rfl (by decide)) ?_
      refine pGoE (y := 77) (s_getF pc11 fl_X11_39 dX11_soonestOf_67 (ob_68 hst) rfl (by decide)) (by decide) ?_
      refine pGo (s_iload dX11_soonestOf_70 rfl) ?_
      refine pGoE (y := (rd σ 77 x6)) (s_iald dX11_soonestOf_72 (ob_77 hst) (bnd (g2 c2 c4))) rfl ?_
      refine pGoE (y := (rd σ 106 (rd σ 77 x6))) (s_iald dX11_soonestOf_73 (ob_106 hst) (bnd (g3 c2 c4))) rfl ?_
      refine pGo (s_ldc (n := 1000000) dX11_soonestOf_74 kc_X11_232 (by decide)) ?_
      refine p_icne (tgt := 82) dX11_soonestOf_76 (by decide) (g4 c2 c4) (by decide) (fun c5 => ?_) (fun c6 => ?_)
      · refine pGo (s_aload_n dX11_soonestOf_82 rfl (by decide)) ?_
        refine pGo (s_iload_n dX11_soonestOf_83 rfl) ?_
        refine pGo (s_iload dX11_soonestOf_84 rfl) ?_
        refine pGo (s_aload_n dX11_soonestOf_86 rfl (by decide)) ?_
        refine pGoE (y := 106) (s_getF pc11 fl_X11_127 dX11_soonestOf_87 (ob_68 hst) rfl (by decide)) (by decide) ?_
        refine pGo (s_aload_n dX11_soonestOf_90 rfl (by decide)) ?_
        refine pGoE (y := 77) (s_getF pc11 fl_X11_39 dX11_soonestOf_91 (ob_68 hst) rfl (by decide)) (by decide) ?_
        refine pGo (s_iload dX11_soonestOf_94 rfl) ?_
        refine pGoE (y := (rd σ 77 x6)) (s_iald dX11_soonestOf_96 (ob_77 hst) (bnd (g2 c2 c4))) rfl ?_
        refine pGoE (y := (rd σ 106 (rd σ 77 x6))) (s_iald dX11_soonestOf_97 (ob_106 hst) (bnd (g3 c2 c4))) rfl ?_
        refine p_callV (As := [(0, x1), (0, x6), (0, (rd σ 106 (rd σ 77 x6)))]) (st := []) (n := 3) (d' := 2) (Q1 := (fun r τ => r = some (0, (vBy σ x1 x6 (rd σ 106 (rd σ 77 x6)))) ∧ τ = σ)) pc11 ok_X11_by ml_X11_489 im_X11_by se_X11_by dX11_soonestOf_98 (ob_68 hst) (pargs_of rfl) rfl (Nat.le_of_ble_eq_true rfl) (by omega) (f2 c2 c4 c5) (fun r2 τ2 e2 q2 w2 => ?_)
        obtain ⟨rfl, t2⟩ := q2
        rw [t2]
        show pR mX11_soonestOf d 101 [(2, 68), (0, x1), (0, x2), (0, x3), (0, x4), (0, x5), (0, x6), u7] [(0, (vBy σ x1 x6 (rd σ 106 (rd σ 77 x6))))] σ Q
        refine pGoL (ls2 := [(2, 68), (0, x1), (0, x2), (0, x3), (0, x4), (0, x5), (0, x6), (0, (vBy σ x1 x6 (rd σ 106 (rd σ 77 x6))))]) (s_istore dX11_soonestOf_101 (by decide) rfl) rfl ?_
        refine pGo (s_iload dX11_soonestOf_103 rfl) ?_
        refine p_iflt (tgt := 145) dX11_soonestOf_105 (by decide) (g5 c2 c4 c5) (fun c7 => ?_) (fun c8 => ?_)
        · refine pGoL (ls2 := [(2, 68), (0, x1), (0, x2), (0, x3), (0, x4), (0, x5), (0, (x6 + 1)), (0, (vBy σ x1 x6 (rd σ 106 (rd σ 77 x6))))]) (s_iinc dX11_soonestOf_145 (by decide) rfl rfl) rfl ?_
          refine pGo (s_goto (tgt := 46) dX11_soonestOf_148 (by decide)) ?_
          exact (k3 c2 c4 c5 c7)
        · refine pGo (s_iload dX11_soonestOf_108 rfl) ?_
          refine pGo (s_aload_n dX11_soonestOf_110 rfl (by decide)) ?_
          refine pGoE (y := 106) (s_getF pc11 fl_X11_127 dX11_soonestOf_111 (ob_68 hst) rfl (by decide)) (by decide) ?_
          refine pGo (s_aload_n dX11_soonestOf_114 rfl (by decide)) ?_
          refine pGoE (y := 78) (s_getF pc11 fl_X11_42 dX11_soonestOf_115 (ob_68 hst) rfl (by decide)) (by decide) ?_
          refine pGo (s_iload dX11_soonestOf_118 rfl) ?_
          refine pGoE (y := (rd σ 78 x6)) (s_iald dX11_soonestOf_120 (ob_78 hst) (bnd (g2 c2 c4))) rfl ?_
          refine pGoE (y := (rd σ 106 (rd σ 78 x6))) (s_iald dX11_soonestOf_121 (ob_106 hst) (bnd (g6 c2 c4 c5 c8))) rfl ?_
          refine p_iclt (tgt := 128) dX11_soonestOf_122 (by decide) (g5 c2 c4 c5) (g7 c2 c4 c5 c8) (fun c9 => ?_) (fun c10 => ?_)
          · refine pGo (s_aload_n dX11_soonestOf_128 rfl (by decide)) ?_
            refine pGoE (y := 106) (s_getF pc11 fl_X11_127 dX11_soonestOf_129 (ob_68 hst) rfl (by decide)) (by decide) ?_
            refine pGo (s_aload_n dX11_soonestOf_132 rfl (by decide)) ?_
            refine pGoE (y := 78) (s_getF pc11 fl_X11_42 dX11_soonestOf_133 (ob_68 hst) rfl (by decide)) (by decide) ?_
            refine pGo (s_iload dX11_soonestOf_136 rfl) ?_
            refine pGoE (y := (rd σ 78 x6)) (s_iald dX11_soonestOf_138 (ob_78 hst) (bnd (g2 c2 c4))) rfl ?_
            refine pGo (s_iload dX11_soonestOf_139 rfl) ?_
            refine pGo (s_iast dX11_soonestOf_141 (ob_106 hst) (bnd (g6 c2 c4 c5 c8))) ?_
            refine pGo (s_iconst dX11_soonestOf_142) ?_
            refine pGoL (ls2 := [(2, 68), (0, x1), (0, x2), (0, x3), (0, x4), (0, 1), (0, x6), (0, (vBy σ x1 x6 (rd σ 106 (rd σ 77 x6))))]) (s_istore dX11_soonestOf_143 (by decide) rfl) rfl ?_
            refine pGoL (ls2 := [(2, 68), (0, x1), (0, x2), (0, x3), (0, x4), (0, 1), (0, (x6 + 1)), (0, (vBy σ x1 x6 (rd σ 106 (rd σ 77 x6))))]) (s_iinc dX11_soonestOf_145 (by decide) rfl rfl) rfl ?_
            refine pGo (s_goto (tgt := 46) dX11_soonestOf_148 (by decide)) ?_
            exact (k4 c2 c4 c5 c8 c9)
          · refine pGo (s_goto (tgt := 145) dX11_soonestOf_125 (by decide)) ?_
            refine pGoL (ls2 := [(2, 68), (0, x1), (0, x2), (0, x3), (0, x4), (0, x5), (0, (x6 + 1)), (0, (vBy σ x1 x6 (rd σ 106 (rd σ 77 x6))))]) (s_iinc dX11_soonestOf_145 (by decide) rfl rfl) rfl ?_
            refine pGo (s_goto (tgt := 46) dX11_soonestOf_148 (by decide)) ?_
            exact (k5 c2 c4 c5 c8 c10)
      · refine pGo (s_goto (tgt := 145) dX11_soonestOf_79 (by decide)) ?_
        refine pGoL (ls2 := [(2, 68), (0, x1), (0, x2), (0, x3), (0, x4), (0, x5), (0, (x6 + 1)), u7]) (s_iinc dX11_soonestOf_145 (by decide) rfl rfl) rfl ?_
        refine pGo (s_goto (tgt := 46) dX11_soonestOf_148 (by decide)) ?_
        exact (k6 c2 c4 c6)
set_option maxRecDepth 100000 in
theorem g_X11_leads_0 {d : Nat} {σ : pS} {Q : Option pV → pS → Prop} {Q1 : Option pV → pS → Prop} (hd : 4 ≤ d) (hst : Stat σ) (x1 : Int) (x2 : Int) (x3 : Int) (x4 : Int) (x5 : Int) (x6 : Int)  (f1 : pC mX11_isWay 0 [(2, 68), (0, x4)] σ (fun r τ => r = some (0, b2i (vWay (rd σ 68 30) (rd σ 68 31) x4)) ∧ τ = σ)) (k1 : ∀ (c1 : (vWay (rd σ 68 30) (rd σ 68 31) x4) = false), Q (some (0, 0)) σ) (g1 : ∀ (c2 : (vWay (rd σ 68 30) (rd σ 68 31) x4) = true), 0 ≤ x4 ∧ x4 < 13) (g2 : ∀ (c2 : (vWay (rd σ 68 30) (rd σ 68 31) x4) = true), inR (rd σ 77 x4)) (g3 : ∀ (c2 : (vWay (rd σ 68 30) (rd σ 68 31) x4) = true), inR x2) (f2 : ∀ (c2 : (vWay (rd σ 68 30) (rd σ 68 31) x4) = true) (c3 : (rd σ 77 x4) = x2), pC mX11_by 2 [(2, 68), (0, x1), (0, x4), (0, x3)] σ (fun r τ => r = some (0, (vBy σ x1 x4 x3)) ∧ τ = σ)) (g4 : ∀ (c2 : (vWay (rd σ 68 30) (rd σ 68 31) x4) = true) (c3 : (rd σ 77 x4) = x2), inR (vBy σ x1 x4 x3)) (k2 : ∀ (c2 : (vWay (rd σ 68 30) (rd σ 68 31) x4) = true) (c3 : (rd σ 77 x4) = x2) (c5 : (vBy σ x1 x4 x3) < 0), Q (some (0, 0)) σ) (f3 : ∀ (c2 : (vWay (rd σ 68 30) (rd σ 68 31) x4) = true) (c3 : (rd σ 77 x4) = x2) (c6 : 0 ≤ (vBy σ x1 x4 x3)), pC mX11_soonestOf 3 [(2, 68), (0, x1), (0, (rd σ 78 x4)), (0, (vBy σ x1 x4 x3)), (0, x5)] σ Q1) (g5 : ∀ (c2 : (vWay (rd σ 68 30) (rd σ 68 31) x4) = true) (c3 : (rd σ 77 x4) = x2) (c6 : 0 ≤ (vBy σ x1 x4 x3)) (v3 : Int) (τ3 : pS) (e3 : pLe σ τ3) (q3 : Q1 (some (0, v3)) τ3), inR v3) (g6 : ∀ (c2 : (vWay (rd σ 68 30) (rd σ 68 31) x4) = true) (c3 : (rd σ 77 x4) = x2) (c6 : 0 ≤ (vBy σ x1 x4 x3)) (v3 : Int) (τ3 : pS) (e3 : pLe σ τ3) (q3 : Q1 (some (0, v3)) τ3), inR x6) (k3 : ∀ (c2 : (vWay (rd σ 68 30) (rd σ 68 31) x4) = true) (c3 : (rd σ 77 x4) = x2) (c6 : 0 ≤ (vBy σ x1 x4 x3)) (v3 : Int) (τ3 : pS) (e3 : pLe σ τ3) (q3 : Q1 (some (0, v3)) τ3) (c7 : v3 ≠ x6), Q (some (0, 0)) τ3) (k4 : ∀ (c2 : (vWay (rd σ 68 30) (rd σ 68 31) x4) = true) (c3 : (rd σ 77 x4) = x2) (c6 : 0 ≤ (vBy σ x1 x4 x3)) (v3 : Int) (τ3 : pS) (e3 : pLe σ τ3) (q3 : Q1 (some (0, v3)) τ3) (c8 : v3 = x6), Q (some (0, 1)) τ3) (k5 : ∀ (c2 : (vWay (rd σ 68 30) (rd σ 68 31) x4) = true) (c4 : (rd σ 77 x4) ≠ x2), Q (some (0, 0)) σ) : pC mX11_leads d [(2, 68), (0, x1), (0, x2), (0, x3), (0, x4), (0, x5), (0, x6)] σ Q := by
  show pR mX11_leads d 0 [(2, 68), (0, x1), (0, x2), (0, x3), (0, x4), (0, x5), (0, x6), (9, 0)] [] σ Q
  refine pGo (s_aload_n dX11_leads_0 rfl (by decide)) ?_
  refine pGo (s_iload dX11_leads_1 rfl) ?_
  refine p_callV (As := [(0, x4)]) (st := []) (n := 1) (d' := 0) (Q1 := (fun r τ => r = some (0, b2i (vWay (rd σ 68 30) (rd σ 68 31) x4)) ∧ τ = σ)) pc11 ok_X11_isWay ml_X11_387 im_X11_isWay se_X11_isWay dX11_leads_3 (ob_68 hst) (pargs_of rfl) rfl (Nat.le_of_ble_eq_true rfl) (by omega) f1 (fun r1 τ1 e1 q1 w1 => ?_)
  obtain ⟨rfl, t1⟩ := q1
  rw [t1]
  show pR mX11_leads d 6 [(2, 68), (0, x1), (0, x2), (0, x3), (0, x4), (0, x5), (0, x6), (9, 0)] [(0, (b2i (vWay (rd σ 68 30) (rd σ 68 31) x4)))] σ Q
  refine p_ifeqB (tgt := 20) dX11_leads_6 (by decide) (fun c1 => ?_) (fun c2 => ?_)
  · refine pGo (s_iconst dX11_leads_20) ?_
    exact pEnd (r := (some (0, 0))) dX11_leads_21 (Or.inl rfl) (k1 c1)
  · refine pGo (s_aload_n dX11_leads_9 rfl (by decide)) ?_
    refine pGoE (y := 77) (s_getF pc11 fl_X11_39 dX11_leads_10 (ob_68 hst) rfl (by decide)) (by decide) ?_
    refine pGo (s_iload dX11_leads_13 rfl) ?_
    refine pGoE (y := (rd σ 77 x4)) (s_iald dX11_leads_15 (ob_77 hst) (bnd (g1 c2))) rfl ?_
    refine pGo (s_iload_n dX11_leads_16 rfl) ?_
    refine p_iceq (tgt := 22) dX11_leads_17 (by decide) (g2 c2) (g3 c2) (fun c3 => ?_) (fun c4 => ?_)
    · refine pGo (s_aload_n dX11_leads_22 rfl (by decide)) ?_
      refine pGo (s_iload_n dX11_leads_23 rfl) ?_
      refine pGo (s_iload dX11_leads_24 rfl) ?_
      refine pGo (s_iload_n dX11_leads_26 rfl) ?_
      refine p_callV (As := [(0, x1), (0, x4), (0, x3)]) (st := []) (n := 3) (d' := 2) (Q1 := (fun r τ => r = some (0, (vBy σ x1 x4 x3)) ∧ τ = σ)) pc11 ok_X11_by ml_X11_489 im_X11_by se_X11_by dX11_leads_27 (ob_68 hst) (pargs_of rfl) rfl (Nat.le_of_ble_eq_true rfl) (by omega) (f2 c2 c3) (fun r2 τ2 e2 q2 w2 => ?_)
      obtain ⟨rfl, t2⟩ := q2
      rw [t2]
      show pR mX11_leads d 30 [(2, 68), (0, x1), (0, x2), (0, x3), (0, x4), (0, x5), (0, x6), (9, 0)] [(0, (vBy σ x1 x4 x3))] σ Q
      refine pGoL (ls2 := [(2, 68), (0, x1), (0, x2), (0, x3), (0, x4), (0, x5), (0, x6), (0, (vBy σ x1 x4 x3))]) (s_istore dX11_leads_30 (by decide) rfl) rfl ?_
      refine pGo (s_iload dX11_leads_32 rfl) ?_
      refine p_iflt (tgt := 62) dX11_leads_34 (by decide) (g4 c2 c3) (fun c5 => ?_) (fun c6 => ?_)
      · refine pGo (s_iconst dX11_leads_62) ?_
        exact pEnd (r := (some (0, 0))) dX11_leads_63 (Or.inl rfl) (k2 c2 c3 c5)
      · refine pGo (s_aload_n dX11_leads_37 rfl (by decide)) ?_
        refine pGo (s_iload_n dX11_leads_38 rfl) ?_
        refine pGo (s_aload_n dX11_leads_39 rfl (by decide)) ?_
        refine pGoE (y := 78) (s_getF pc11 fl_X11_42 dX11_leads_40 (ob_68 hst) rfl (by decide)) (by decide) ?_
        refine pGo (s_iload dX11_leads_43 rfl) ?_
        refine pGoE (y := (rd σ 78 x4)) (s_iald dX11_leads_45 (ob_78 hst) (bnd (g1 c2))) rfl ?_
        refine pGo (s_iload dX11_leads_46 rfl) ?_
        refine pGo (s_iload dX11_leads_48 rfl) ?_
        refine p_callV (As := [(0, x1), (0, (rd σ 78 x4)), (0, (vBy σ x1 x4 x3)), (0, x5)]) (st := []) (n := 4) (d' := 3) (Q1 := Q1) pc11 ok_X11_soonestOf ml_X11_499 im_X11_soonestOf se_X11_soonestOf dX11_leads_50 (ob_68 hst) (pargs_of rfl) rfl (Nat.le_of_ble_eq_true rfl) (by omega) (f3 c2 c3 c6) (fun r3 τ3 e3 q3 w3 => ?_)
        obtain ⟨v3, rfl⟩ := w3
        have S3 : Stat τ3 := (Stat.le (σ := σ) hst e3)
        show pR mX11_leads d 53 [(2, 68), (0, x1), (0, x2), (0, x3), (0, x4), (0, x5), (0, x6), (0, (vBy σ x1 x4 x3))] [(0, v3)] τ3 Q
        refine pGo (s_iload dX11_leads_53 rfl) ?_
        refine p_icne (tgt := 62) dX11_leads_55 (by decide) (g5 c2 c3 c6 v3 τ3 e3 q3) (g6 c2 c3 c6 v3 τ3 e3 q3) (fun c7 => ?_) (fun c8 => ?_)
        · refine pGo (s_iconst dX11_leads_62) ?_
          exact pEnd (r := (some (0, 0))) dX11_leads_63 (Or.inl rfl) (k3 c2 c3 c6 v3 τ3 e3 q3 c7)
        · refine pGo (s_iconst dX11_leads_58) ?_
          refine pGo (s_goto (tgt := 63) dX11_leads_59 (by decide)) ?_
          exact pEnd (r := (some (0, 1))) dX11_leads_63 (Or.inr rfl) (k4 c2 c3 c6 v3 τ3 e3 q3 c8)
    · refine pGo (s_iconst dX11_leads_20) ?_
      exact pEnd (r := (some (0, 0))) dX11_leads_21 (Or.inl rfl) (k5 c2 c4)
set_option maxRecDepth 100000 in
theorem g_X11_soonest_0 {d : Nat} {σ : pS} {Q : Option pV → pS → Prop} {Q1 : Option pV → pS → Prop} {Q2 : Option pV → pS → Prop} (hd : 4 ≤ d) (hst : Stat σ) (x1 : Int) (x2 : Int) (x3 : Int) (x4 : Int) (x5 : Int)  (f1 : pC mX11_isSkill 0 [(0, x1)] σ (fun r τ => r = some (0, b2i (vWithin x1 4)) ∧ τ = σ)) (k1 : ∀ (c1 : (vWithin x1 4) = false), Q (some (0, (-1))) σ) (f2 : ∀ (c2 : (vWithin x1 4) = true), pC mX11_isPlace 0 [(0, x2)] σ (fun r τ => r = some (0, b2i (vWithin x2 10)) ∧ τ = σ)) (k2 : ∀ (c2 : (vWithin x1 4) = true) (c3 : (vWithin x2 10) = false), Q (some (0, (-1))) σ) (f3 : ∀ (c2 : (vWithin x1 4) = true) (c4 : (vWithin x2 10) = true), pC mX11_isPlace 0 [(0, x4)] σ (fun r τ => r = some (0, b2i (vWithin x4 10)) ∧ τ = σ)) (k3 : ∀ (c2 : (vWithin x1 4) = true) (c4 : (vWithin x2 10) = true) (c5 : (vWithin x4 10) = false), Q (some (0, (-1))) σ) (g1 : ∀ (c2 : (vWithin x1 4) = true) (c4 : (vWithin x2 10) = true) (c6 : (vWithin x4 10) = true), inR x3) (k4 : ∀ (c2 : (vWithin x1 4) = true) (c4 : (vWithin x2 10) = true) (c6 : (vWithin x4 10) = true) (c7 : x3 < 0), Q (some (0, (-1))) σ) (f4 : ∀ (c2 : (vWithin x1 4) = true) (c4 : (vWithin x2 10) = true) (c6 : (vWithin x4 10) = true) (c8 : 0 ≤ x3) (c9 : x3 ≤ 480), pC mX11_know 2 [(2, 68), (0, x5)] σ Q1) (f5 : ∀ (c2 : (vWithin x1 4) = true) (c4 : (vWithin x2 10) = true) (c6 : (vWithin x4 10) = true) (c8 : 0 ≤ x3) (c9 : x3 ≤ 480) (τ4 : pS) (e4 : pLe σ τ4) (q4 : Q1 none τ4), pC mX11_soonestOf 3 [(2, 68), (0, x1), (0, x2), (0, x3), (0, x4)] τ4 Q2) (g2 : ∀ (c2 : (vWithin x1 4) = true) (c4 : (vWithin x2 10) = true) (c6 : (vWithin x4 10) = true) (c8 : 0 ≤ x3) (c9 : x3 ≤ 480) (τ4 : pS) (e4 : pLe σ τ4) (q4 : Q1 none τ4) (v5 : Int) (τ5 : pS) (e5 : pLe τ4 τ5) (q5 : Q2 (some (0, v5)) τ5), inR v5) (k5 : ∀ (c2 : (vWithin x1 4) = true) (c4 : (vWithin x2 10) = true) (c6 : (vWithin x4 10) = true) (c8 : 0 ≤ x3) (c9 : x3 ≤ 480) (τ4 : pS) (e4 : pLe σ τ4) (q4 : Q1 none τ4) (v5 : Int) (τ5 : pS) (e5 : pLe τ4 τ5) (q5 : Q2 (some (0, v5)) τ5) (c11 : v5 ≠ 1000000), Q (some (0, v5)) τ5) (k6 : ∀ (c2 : (vWithin x1 4) = true) (c4 : (vWithin x2 10) = true) (c6 : (vWithin x4 10) = true) (c8 : 0 ≤ x3) (c9 : x3 ≤ 480) (τ4 : pS) (e4 : pLe σ τ4) (q4 : Q1 none τ4) (v5 : Int) (τ5 : pS) (e5 : pLe τ4 τ5) (q5 : Q2 (some (0, v5)) τ5) (c12 : v5 = 1000000), Q (some (0, (-1))) τ5) (k7 : ∀ (c2 : (vWithin x1 4) = true) (c4 : (vWithin x2 10) = true) (c6 : (vWithin x4 10) = true) (c8 : 0 ≤ x3) (c10 : 480 < x3), Q (some (0, (-1))) σ) : pC mX11_soonest d [(2, 68), (0, x1), (0, x2), (0, x3), (0, x4), (0, x5)] σ Q := by
  show pR mX11_soonest d 0 [(2, 68), (0, x1), (0, x2), (0, x3), (0, x4), (0, x5), (9, 0)] [] σ Q
  refine pGo (s_iload_n dX11_soonest_0 rfl) ?_
  refine p_callS (As := [(0, x1)]) (st := []) (n := 1) (d' := 0) (Q1 := (fun r τ => r = some (0, b2i (vWithin x1 4)) ∧ τ = σ)) ok_X11_isSkill ml_X11_493 sm_X11_isSkill dX11_soonest_1 (pargs_of rfl) rfl (Nat.le_of_ble_eq_true rfl) (by omega) f1 (fun r1 τ1 e1 q1 w1 => ?_)
  obtain ⟨rfl, t1⟩ := q1
  rw [t1]
  show pR mX11_soonest d 4 [(2, 68), (0, x1), (0, x2), (0, x3), (0, x4), (0, x5), (9, 0)] [(0, (b2i (vWithin x1 4)))] σ Q
  refine p_ifeqB (tgt := 33) dX11_soonest_4 (by decide) (fun c1 => ?_) (fun c2 => ?_)
  · refine pGo (s_iconst dX11_soonest_33) ?_
    exact pEnd (r := (some (0, (-1)))) dX11_soonest_34 ⟨_, rfl⟩ (k1 c1)
  · refine pGo (s_iload_n dX11_soonest_7 rfl) ?_
    refine p_callS (As := [(0, x2)]) (st := []) (n := 1) (d' := 0) (Q1 := (fun r τ => r = some (0, b2i (vWithin x2 10)) ∧ τ = σ)) ok_X11_isPlace ml_X11_496 sm_X11_isPlace dX11_soonest_8 (pargs_of rfl) rfl (Nat.le_of_ble_eq_true rfl) (by omega) (f2 c2) (fun r2 τ2 e2 q2 w2 => ?_)
    obtain ⟨rfl, t2⟩ := q2
    rw [t2]
    show pR mX11_soonest d 11 [(2, 68), (0, x1), (0, x2), (0, x3), (0, x4), (0, x5), (9, 0)] [(0, (b2i (vWithin x2 10)))] σ Q
    refine p_ifeqB (tgt := 33) dX11_soonest_11 (by decide) (fun c3 => ?_) (fun c4 => ?_)
    · refine pGo (s_iconst dX11_soonest_33) ?_
      exact pEnd (r := (some (0, (-1)))) dX11_soonest_34 ⟨_, rfl⟩ (k2 c2 c3)
    · refine pGo (s_iload dX11_soonest_14 rfl) ?_
      refine p_callS (As := [(0, x4)]) (st := []) (n := 1) (d' := 0) (Q1 := (fun r τ => r = some (0, b2i (vWithin x4 10)) ∧ τ = σ)) ok_X11_isPlace ml_X11_496 sm_X11_isPlace dX11_soonest_16 (pargs_of rfl) rfl (Nat.le_of_ble_eq_true rfl) (by omega) (f3 c2 c4) (fun r3 τ3 e3 q3 w3 => ?_)
      obtain ⟨rfl, t3⟩ := q3
      rw [t3]
      show pR mX11_soonest d 19 [(2, 68), (0, x1), (0, x2), (0, x3), (0, x4), (0, x5), (9, 0)] [(0, (b2i (vWithin x4 10)))] σ Q
      refine p_ifeqB (tgt := 33) dX11_soonest_19 (by decide) (fun c5 => ?_) (fun c6 => ?_)
      · refine pGo (s_iconst dX11_soonest_33) ?_
        exact pEnd (r := (some (0, (-1)))) dX11_soonest_34 ⟨_, rfl⟩ (k3 c2 c4 c5)
      · refine pGo (s_iload_n dX11_soonest_22 rfl) ?_
        refine p_iflt (tgt := 33) dX11_soonest_23 (by decide) (g1 c2 c4 c6) (fun c7 => ?_) (fun c8 => ?_)
        · refine pGo (s_iconst dX11_soonest_33) ?_
          exact pEnd (r := (some (0, (-1)))) dX11_soonest_34 ⟨_, rfl⟩ (k4 c2 c4 c6 c7)
        · refine pGo (s_iload_n dX11_soonest_26 rfl) ?_
          refine pGo (s_sipush dX11_soonest_27 (by decide)) ?_
          refine p_icle (tgt := 35) dX11_soonest_30 (by decide) (g1 c2 c4 c6) (by decide) (fun c9 => ?_) (fun c10 => ?_)
          · refine pGo (s_aload_n dX11_soonest_35 rfl (by decide)) ?_
            refine pGo (s_iload dX11_soonest_36 rfl) ?_
            refine p_callV (As := [(0, x5)]) (st := []) (n := 1) (d' := 2) (Q1 := Q1) pc11 ok_X11_know ml_X11_480 im_X11_know se_X11_know dX11_soonest_38 (ob_68 hst) (pargs_of rfl) rfl (Nat.le_of_ble_eq_true rfl) (by omega) (f4 c2 c4 c6 c8 c9) (fun r4 τ4 e4 q4 w4 => ?_)
            obtain rfl : r4 = none := w4
            have S4 : Stat τ4 := (Stat.le (σ := σ) hst e4)
            show pR mX11_soonest d 41 [(2, 68), (0, x1), (0, x2), (0, x3), (0, x4), (0, x5), (9, 0)] [] τ4 Q
            refine pGo (s_aload_n dX11_soonest_41 rfl (by decide)) ?_
            refine pGo (s_iload_n dX11_soonest_42 rfl) ?_
            refine pGo (s_iload_n dX11_soonest_43 rfl) ?_
            refine pGo (s_iload_n dX11_soonest_44 rfl) ?_
            refine pGo (s_iload dX11_soonest_45 rfl) ?_
            refine p_callV (As := [(0, x1), (0, x2), (0, x3), (0, x4)]) (st := []) (n := 4) (d' := 3) (Q1 := Q2) pc11 ok_X11_soonestOf ml_X11_499 im_X11_soonestOf se_X11_soonestOf dX11_soonest_47 (ob_68 S4) (pargs_of rfl) rfl (Nat.le_of_ble_eq_true rfl) (by omega) (f5 c2 c4 c6 c8 c9 τ4 e4 q4) (fun r5 τ5 e5 q5 w5 => ?_)
            obtain ⟨v5, rfl⟩ := w5
            have S5 : Stat τ5 := (Stat.le (σ := τ4) S4 e5)
            show pR mX11_soonest d 50 [(2, 68), (0, x1), (0, x2), (0, x3), (0, x4), (0, x5), (9, 0)] [(0, v5)] τ5 Q
            refine pGoL (ls2 := [(2, 68), (0, x1), (0, x2), (0, x3), (0, x4), (0, x5), (0, v5)]) (s_istore dX11_soonest_50 (by decide) rfl) rfl ?_
            refine pGo (s_iload dX11_soonest_52 rfl) ?_
            refine pGo (s_ldc (n := 1000000) dX11_soonest_54 kc_X11_232 (by decide)) ?_
            refine p_icne (tgt := 63) dX11_soonest_56 (by decide) (g2 c2 c4 c6 c8 c9 τ4 e4 q4 v5 τ5 e5 q5) (by decide) (fun c11 => ?_) (fun c12 => ?_)
            · refine pGo (s_iload dX11_soonest_63 rfl) ?_
              exact pEnd (r := (some (0, v5))) dX11_soonest_65 ⟨_, rfl⟩ (k5 c2 c4 c6 c8 c9 τ4 e4 q4 v5 τ5 e5 q5 c11)
            · refine pGo (s_iconst dX11_soonest_59) ?_
              refine pGo (s_goto (tgt := 65) dX11_soonest_60 (by decide)) ?_
              exact pEnd (r := (some (0, (-1)))) dX11_soonest_65 ⟨_, rfl⟩ (k6 c2 c4 c6 c8 c9 τ4 e4 q4 v5 τ5 e5 q5 c12)
          · refine pGo (s_iconst dX11_soonest_33) ?_
            exact pEnd (r := (some (0, (-1)))) dX11_soonest_34 ⟨_, rfl⟩ (k7 c2 c4 c6 c8 c10)
set_option maxRecDepth 100000 in
theorem g_X11_way_0 {d : Nat} {σ : pS} {Q : Option pV → pS → Prop} {Q1 : Option pV → pS → Prop} {Q2 : Option pV → pS → Prop} (hd : 5 ≤ d) (hst : Stat σ) (x1 : Int) (x2 : Int) (x3 : Int) (x4 : Int) (x5 : Int) (x6 : Int)  (f1 : pC mX11_isSkill 0 [(0, x1)] σ (fun r τ => r = some (0, b2i (vWithin x1 4)) ∧ τ = σ)) (k1 : ∀ (c1 : (vWithin x1 4) = false), Q (some (0, (-1))) σ) (f2 : ∀ (c2 : (vWithin x1 4) = true), pC mX11_isPlace 0 [(0, x2)] σ (fun r τ => r = some (0, b2i (vWithin x2 10)) ∧ τ = σ)) (k2 : ∀ (c2 : (vWithin x1 4) = true) (c3 : (vWithin x2 10) = false), Q (some (0, (-1))) σ) (f3 : ∀ (c2 : (vWithin x1 4) = true) (c4 : (vWithin x2 10) = true), pC mX11_isPlace 0 [(0, x4)] σ (fun r τ => r = some (0, b2i (vWithin x4 10)) ∧ τ = σ)) (k3 : ∀ (c2 : (vWithin x1 4) = true) (c4 : (vWithin x2 10) = true) (c5 : (vWithin x4 10) = false), Q (some (0, (-1))) σ) (g1 : ∀ (c2 : (vWithin x1 4) = true) (c4 : (vWithin x2 10) = true) (c6 : (vWithin x4 10) = true), inR x3) (k4 : ∀ (c2 : (vWithin x1 4) = true) (c4 : (vWithin x2 10) = true) (c6 : (vWithin x4 10) = true) (c7 : x3 < 0), Q (some (0, (-1))) σ) (k5 : ∀ (c2 : (vWithin x1 4) = true) (c4 : (vWithin x2 10) = true) (c6 : (vWithin x4 10) = true) (c8 : 0 ≤ x3) (c9 : 480 < x3), Q (some (0, (-1))) σ) (g2 : ∀ (c2 : (vWithin x1 4) = true) (c4 : (vWithin x2 10) = true) (c6 : (vWithin x4 10) = true) (c8 : 0 ≤ x3) (c10 : x3 ≤ 480), inR x5) (f4 : ∀ (c2 : (vWithin x1 4) = true) (c4 : (vWithin x2 10) = true) (c6 : (vWithin x4 10) = true) (c8 : 0 ≤ x3) (c10 : x3 ≤ 480) (c11 : 0 ≤ x5), pC mX11_know 2 [(2, 68), (0, x6)] σ Q1) (f5 : ∀ (c2 : (vWithin x1 4) = true) (c4 : (vWithin x2 10) = true) (c6 : (vWithin x4 10) = true) (c8 : 0 ≤ x3) (c10 : x3 ≤ 480) (c11 : 0 ≤ x5) (τ4 : pS) (e4 : pLe σ τ4) (q4 : Q1 none τ4), pC mX11_soonestOf 3 [(2, 68), (0, x1), (0, x2), (0, x3), (0, x4)] τ4 Q2) (g3 : ∀ (c2 : (vWithin x1 4) = true) (c4 : (vWithin x2 10) = true) (c6 : (vWithin x4 10) = true) (c8 : 0 ≤ x3) (c10 : x3 ≤ 480) (c11 : 0 ≤ x5) (τ4 : pS) (e4 : pLe σ τ4) (q4 : Q1 none τ4) (v5 : Int) (τ5 : pS) (e5 : pLe τ4 τ5) (q5 : Q2 (some (0, v5)) τ5), inR v5) (k6 : ∀ (c2 : (vWithin x1 4) = true) (c4 : (vWithin x2 10) = true) (c6 : (vWithin x4 10) = true) (c8 : 0 ≤ x3) (c10 : x3 ≤ 480) (c11 : 0 ≤ x5) (τ4 : pS) (e4 : pLe σ τ4) (q4 : Q1 none τ4) (v5 : Int) (τ5 : pS) (e5 : pLe τ4 τ5) (q5 : Q2 (some (0, v5)) τ5) (c13 : v5 ≠ 1000000), pR mX11_way d 76 [(2, 68), (0, x1), (0, x2), (0, x3), (0, x4), (0, x5), (0, x6), (0, v5), (0, x2), (0, x3), (0, x5), (9, 0)] [] τ5 Q) (k7 : ∀ (c2 : (vWithin x1 4) = true) (c4 : (vWithin x2 10) = true) (c6 : (vWithin x4 10) = true) (c8 : 0 ≤ x3) (c10 : x3 ≤ 480) (c11 : 0 ≤ x5) (τ4 : pS) (e4 : pLe σ τ4) (q4 : Q1 none τ4) (v5 : Int) (τ5 : pS) (e5 : pLe τ4 τ5) (q5 : Q2 (some (0, v5)) τ5) (c14 : v5 = 1000000), Q (some (0, (-1))) τ5) (k8 : ∀ (c2 : (vWithin x1 4) = true) (c4 : (vWithin x2 10) = true) (c6 : (vWithin x4 10) = true) (c8 : 0 ≤ x3) (c10 : x3 ≤ 480) (c12 : x5 < 0), Q (some (0, (-1))) σ) : pC mX11_way d [(2, 68), (0, x1), (0, x2), (0, x3), (0, x4), (0, x5), (0, x6)] σ Q := by
  show pR mX11_way d 0 [(2, 68), (0, x1), (0, x2), (0, x3), (0, x4), (0, x5), (0, x6), (9, 0), (9, 0), (9, 0), (9, 0), (9, 0)] [] σ Q
  refine pGo (s_iload_n dX11_way_0 rfl) ?_
  refine p_callS (As := [(0, x1)]) (st := []) (n := 1) (d' := 0) (Q1 := (fun r τ => r = some (0, b2i (vWithin x1 4)) ∧ τ = σ)) ok_X11_isSkill ml_X11_493 sm_X11_isSkill dX11_way_1 (pargs_of rfl) rfl (Nat.le_of_ble_eq_true rfl) (by omega) f1 (fun r1 τ1 e1 q1 w1 => ?_)
  obtain ⟨rfl, t1⟩ := q1
  rw [t1]
  show pR mX11_way d 4 [(2, 68), (0, x1), (0, x2), (0, x3), (0, x4), (0, x5), (0, x6), (9, 0), (9, 0), (9, 0), (9, 0), (9, 0)] [(0, (b2i (vWithin x1 4)))] σ Q
  refine p_ifeqB (tgt := 38) dX11_way_4 (by decide) (fun c1 => ?_) (fun c2 => ?_)
  · refine pGo (s_iconst dX11_way_38) ?_
    exact pEnd (r := (some (0, (-1)))) dX11_way_39 ⟨_, rfl⟩ (k1 c1)
  · refine pGo (s_iload_n dX11_way_7 rfl) ?_
    refine p_callS (As := [(0, x2)]) (st := []) (n := 1) (d' := 0) (Q1 := (fun r τ => r = some (0, b2i (vWithin x2 10)) ∧ τ = σ)) ok_X11_isPlace ml_X11_496 sm_X11_isPlace dX11_way_8 (pargs_of rfl) rfl (Nat.le_of_ble_eq_true rfl) (by omega) (f2 c2) (fun r2 τ2 e2 q2 w2 => ?_)
    obtain ⟨rfl, t2⟩ := q2
    rw [t2]
    show pR mX11_way d 11 [(2, 68), (0, x1), (0, x2), (0, x3), (0, x4), (0, x5), (0, x6), (9, 0), (9, 0), (9, 0), (9, 0), (9, 0)] [(0, (b2i (vWithin x2 10)))] σ Q
    refine p_ifeqB (tgt := 38) dX11_way_11 (by decide) (fun c3 => ?_) (fun c4 => ?_)
    · refine pGo (s_iconst dX11_way_38) ?_
      exact pEnd (r := (some (0, (-1)))) dX11_way_39 ⟨_, rfl⟩ (k2 c2 c3)
    · refine pGo (s_iload dX11_way_14 rfl) ?_
      refine p_callS (As := [(0, x4)]) (st := []) (n := 1) (d' := 0) (Q1 := (fun r τ => r = some (0, b2i (vWithin x4 10)) ∧ τ = σ)) ok_X11_isPlace ml_X11_496 sm_X11_isPlace dX11_way_16 (pargs_of rfl) rfl (Nat.le_of_ble_eq_true rfl) (by omega) (f3 c2 c4) (fun r3 τ3 e3 q3 w3 => ?_)
      obtain ⟨rfl, t3⟩ := q3
      rw [t3]
      show pR mX11_way d 19 [(2, 68), (0, x1), (0, x2), (0, x3), (0, x4), (0, x5), (0, x6), (9, 0), (9, 0), (9, 0), (9, 0), (9, 0)] [(0, (b2i (vWithin x4 10)))] σ Q
      refine p_ifeqB (tgt := 38) dX11_way_19 (by decide) (fun c5 => ?_) (fun c6 => ?_)
      · refine pGo (s_iconst dX11_way_38) ?_
        exact pEnd (r := (some (0, (-1)))) dX11_way_39 ⟨_, rfl⟩ (k3 c2 c4 c5)
      · refine pGo (s_iload_n dX11_way_22 rfl) ?_
        refine p_iflt (tgt := 38) dX11_way_23 (by decide) (g1 c2 c4 c6) (fun c7 => ?_) (fun c8 => ?_)
        · refine pGo (s_iconst dX11_way_38) ?_
          exact pEnd (r := (some (0, (-1)))) dX11_way_39 ⟨_, rfl⟩ (k4 c2 c4 c6 c7)
        · refine pGo (s_iload_n dX11_way_26 rfl) ?_
          refine pGo (s_sipush dX11_way_27 (by decide)) ?_
          refine p_icgt (tgt := 38) dX11_way_30 (by decide) (g1 c2 c4 c6) (by decide) (fun c9 => ?_) (fun c10 => ?_)
          · refine pGo (s_iconst dX11_way_38) ?_
            exact pEnd (r := (some (0, (-1)))) dX11_way_39 ⟨_, rfl⟩ (k5 c2 c4 c6 c8 c9)
          · refine pGo (s_iload dX11_way_33 rfl) ?_
            refine p_ifge (tgt := 40) dX11_way_35 (by decide) (g2 c2 c4 c6 c8 c10) (fun c11 => ?_) (fun c12 => ?_)
            · refine pGo (s_aload_n dX11_way_40 rfl (by decide)) ?_
              refine pGo (s_iload dX11_way_41 rfl) ?_
              refine p_callV (As := [(0, x6)]) (st := []) (n := 1) (d' := 2) (Q1 := Q1) pc11 ok_X11_know ml_X11_480 im_X11_know se_X11_know dX11_way_43 (ob_68 hst) (pargs_of rfl) rfl (Nat.le_of_ble_eq_true rfl) (by omega) (f4 c2 c4 c6 c8 c10 c11) (fun r4 τ4 e4 q4 w4 => ?_)
              obtain rfl : r4 = none := w4
              have S4 : Stat τ4 := (Stat.le (σ := σ) hst e4)
              show pR mX11_way d 46 [(2, 68), (0, x1), (0, x2), (0, x3), (0, x4), (0, x5), (0, x6), (9, 0), (9, 0), (9, 0), (9, 0), (9, 0)] [] τ4 Q
              refine pGo (s_aload_n dX11_way_46 rfl (by decide)) ?_
              refine pGo (s_iload_n dX11_way_47 rfl) ?_
              refine pGo (s_iload_n dX11_way_48 rfl) ?_
              refine pGo (s_iload_n dX11_way_49 rfl) ?_
              refine pGo (s_iload dX11_way_50 rfl) ?_
              refine p_callV (As := [(0, x1), (0, x2), (0, x3), (0, x4)]) (st := []) (n := 4) (d' := 3) (Q1 := Q2) pc11 ok_X11_soonestOf ml_X11_499 im_X11_soonestOf se_X11_soonestOf dX11_way_52 (ob_68 S4) (pargs_of rfl) rfl (Nat.le_of_ble_eq_true rfl) (by omega) (f5 c2 c4 c6 c8 c10 c11 τ4 e4 q4) (fun r5 τ5 e5 q5 w5 => ?_)
              obtain ⟨v5, rfl⟩ := w5
              have S5 : Stat τ5 := (Stat.le (σ := τ4) S4 e5)
              show pR mX11_way d 55 [(2, 68), (0, x1), (0, x2), (0, x3), (0, x4), (0, x5), (0, x6), (9, 0), (9, 0), (9, 0), (9, 0), (9, 0)] [(0, v5)] τ5 Q
              refine pGoL (ls2 := [(2, 68), (0, x1), (0, x2), (0, x3), (0, x4), (0, x5), (0, x6), (0, v5), (9, 0), (9, 0), (9, 0), (9, 0)]) (s_istore dX11_way_55 (by decide) rfl) rfl ?_
              refine pGo (s_iload dX11_way_57 rfl) ?_
              refine pGo (s_ldc (n := 1000000) dX11_way_59 kc_X11_232 (by decide)) ?_
              refine p_icne (tgt := 66) dX11_way_61 (by decide) (g3 c2 c4 c6 c8 c10 c11 τ4 e4 q4 v5 τ5 e5 q5) (by decide) (fun c13 => ?_) (fun c14 => ?_)
              · refine pGo (s_iload_n dX11_way_66 rfl) ?_
                refine pGoL (ls2 := [(2, 68), (0, x1), (0, x2), (0, x3), (0, x4), (0, x5), (0, x6), (0, v5), (0, x2), (9, 0), (9, 0), (9, 0)]) (s_istore dX11_way_67 (by decide) rfl) rfl ?_
                refine pGo (s_iload_n dX11_way_69 rfl) ?_
                refine pGoL (ls2 := [(2, 68), (0, x1), (0, x2), (0, x3), (0, x4), (0, x5), (0, x6), (0, v5), (0, x2), (0, x3), (9, 0), (9, 0)]) (s_istore dX11_way_70 (by decide) rfl) rfl ?_
                refine pGo (s_iload dX11_way_72 rfl) ?_
                refine pGoL (ls2 := [(2, 68), (0, x1), (0, x2), (0, x3), (0, x4), (0, x5), (0, x6), (0, v5), (0, x2), (0, x3), (0, x5), (9, 0)]) (s_istore dX11_way_74 (by decide) rfl) rfl ?_
                exact (k6 c2 c4 c6 c8 c10 c11 τ4 e4 q4 v5 τ5 e5 q5 c13)
              · refine pGo (s_iconst dX11_way_64) ?_
                exact pEnd (r := (some (0, (-1)))) dX11_way_65 ⟨_, rfl⟩ (k7 c2 c4 c6 c8 c10 c11 τ4 e4 q4 v5 τ5 e5 q5 c14)
            · refine pGo (s_iconst dX11_way_38) ?_
              exact pEnd (r := (some (0, (-1)))) dX11_way_39 ⟨_, rfl⟩ (k8 c2 c4 c6 c8 c10 c12)
set_option maxRecDepth 100000 in
theorem g_X11_way_76 {d : Nat} {σ : pS} {Q : Option pV → pS → Prop} (hd : 5 ≤ d) (hst : Stat σ) (x1 : Int) (x2 : Int) (x3 : Int) (x4 : Int) (x5 : Int) (x6 : Int) (x7 : Int) (x8 : Int) (x9 : Int) (x10 : Int) (u11 : pV) (hu11 : u11.1 ≠ 1) (g1 : inR x8) (g2 : inR x4) (k1 : ∀ (c1 : x8 ≠ x4), pR mX11_way d 93 [(2, 68), (0, x1), (0, x2), (0, x3), (0, x4), (0, x5), (0, x6), (0, x7), (0, x8), (0, x9), (0, x10), (0, 0)] [] σ Q) (g3 : ∀ (c2 : x8 = x4), inR x9) (g4 : ∀ (c2 : x8 = x4), inR x7) (k2 : ∀ (c2 : x8 = x4) (c3 : x9 = x7), Q (some (0, (-1))) σ) (k3 : ∀ (c2 : x8 = x4) (c4 : x9 ≠ x7), pR mX11_way d 93 [(2, 68), (0, x1), (0, x2), (0, x3), (0, x4), (0, x5), (0, x6), (0, x7), (0, x8), (0, x9), (0, x10), (0, 0)] [] σ Q) : pR mX11_way d 76 [(2, 68), (0, x1), (0, x2), (0, x3), (0, x4), (0, x5), (0, x6), (0, x7), (0, x8), (0, x9), (0, x10), u11] [] σ Q := by
  refine pGo (s_iload dX11_way_76 rfl) ?_
  refine pGo (s_iload dX11_way_78 rfl) ?_
  refine p_icne (tgt := 90) dX11_way_80 (by decide) g1 g2 (fun c1 => ?_) (fun c2 => ?_)
  · refine pGo (s_iconst dX11_way_90) ?_
    refine pGoL (ls2 := [(2, 68), (0, x1), (0, x2), (0, x3), (0, x4), (0, x5), (0, x6), (0, x7), (0, x8), (0, x9), (0, x10), (0, 0)]) (s_istore dX11_way_91 (by decide) rfl) rfl ?_
    exact (k1 c1)
  · refine pGo (s_iload dX11_way_83 rfl) ?_
    refine pGo (s_iload dX11_way_85 rfl) ?_
    refine p_iceq (tgt := 154) dX11_way_87 (by decide) (g3 c2) (g4 c2) (fun c3 => ?_) (fun c4 => ?_)
    · refine pGo (s_iconst dX11_way_154) ?_
      exact pEnd (r := (some (0, (-1)))) dX11_way_155 ⟨_, rfl⟩ (k2 c2 c3)
    · refine pGo (s_iconst dX11_way_90) ?_
      refine pGoL (ls2 := [(2, 68), (0, x1), (0, x2), (0, x3), (0, x4), (0, x5), (0, x6), (0, x7), (0, x8), (0, x9), (0, x10), (0, 0)]) (s_istore dX11_way_91 (by decide) rfl) rfl ?_
      exact (k3 c2 c4)
set_option maxRecDepth 100000 in
theorem g_X11_way_93 {d : Nat} {σ : pS} {Q : Option pV → pS → Prop} {Q1 : Option pV → pS → Prop} (hd : 5 ≤ d) (hst : Stat σ) (x1 : Int) (x2 : Int) (x3 : Int) (x4 : Int) (x5 : Int) (x6 : Int) (x7 : Int) (x8 : Int) (x9 : Int) (x10 : Int) (x11 : Int)  (f1 : pC mX11_leads 4 [(2, 68), (0, x1), (0, x8), (0, x9), (0, x11), (0, x4), (0, x7)] σ Q1) (g1 : ∀ (v1 : Int) (b1 : v1 = 0 ∨ v1 = 1) (τ1 : pS) (e1 : pLe σ τ1) (q1 : Q1 (some (0, v1)) τ1), inR v1) (g2 : ∀ (v1 : Int) (b1 : v1 = 0 ∨ v1 = 1) (τ1 : pS) (e1 : pLe σ τ1) (q1 : Q1 (some (0, v1)) τ1) (c1 : v1 ≠ 0), inR x10) (f2 : ∀ (v1 : Int) (b1 : v1 = 0 ∨ v1 = 1) (τ1 : pS) (e1 : pLe σ τ1) (q1 : Q1 (some (0, v1)) τ1) (c1 : v1 ≠ 0) (c3 : x10 ≠ 0), pC mX11_by 2 [(2, 68), (0, x1), (0, x11), (0, x9)] τ1 (fun r τ => r = some (0, (vBy τ1 x1 x11 x9)) ∧ τ = τ1)) (g3 : ∀ (v1 : Int) (b1 : v1 = 0 ∨ v1 = 1) (τ1 : pS) (e1 : pLe σ τ1) (q1 : Q1 (some (0, v1)) τ1) (c1 : v1 ≠ 0) (c3 : x10 ≠ 0), 0 ≤ x11 ∧ x11 < 13) (k1 : ∀ (v1 : Int) (b1 : v1 = 0 ∨ v1 = 1) (τ1 : pS) (e1 : pLe σ τ1) (q1 : Q1 (some (0, v1)) τ1) (c1 : v1 ≠ 0) (c3 : x10 ≠ 0), pR mX11_way d 76 [(2, 68), (0, x1), (0, x2), (0, x3), (0, x4), (0, x5), (0, x6), (0, x7), (0, (rd τ1 78 x11)), (0, (vBy τ1 x1 x11 x9)), (0, (x10 + (-1))), (0, x11)] [] τ1 Q) (f3 : ∀ (v1 : Int) (b1 : v1 = 0 ∨ v1 = 1) (τ1 : pS) (e1 : pLe σ τ1) (q1 : Q1 (some (0, v1)) τ1) (c1 : v1 ≠ 0) (c4 : x10 = 0), pC mX11_outer 0 [(0, x11)] τ1 (fun r τ => r = some (0, (vOuter x11)) ∧ τ = τ1)) (k2 : ∀ (v1 : Int) (b1 : v1 = 0 ∨ v1 = 1) (τ1 : pS) (e1 : pLe σ τ1) (q1 : Q1 (some (0, v1)) τ1) (c1 : v1 ≠ 0) (c4 : x10 = 0), Q (some (0, (vOuter x11))) τ1) (k3 : ∀ (v1 : Int) (b1 : v1 = 0 ∨ v1 = 1) (τ1 : pS) (e1 : pLe σ τ1) (q1 : Q1 (some (0, v1)) τ1) (c2 : v1 = 0), pR mX11_way d 93 [(2, 68), (0, x1), (0, x2), (0, x3), (0, x4), (0, x5), (0, x6), (0, x7), (0, x8), (0, x9), (0, x10), (0, (x11 + 1))] [] τ1 Q) : pR mX11_way d 93 [(2, 68), (0, x1), (0, x2), (0, x3), (0, x4), (0, x5), (0, x6), (0, x7), (0, x8), (0, x9), (0, x10), (0, x11)] [] σ Q := by
  refine pGo (s_aload_n dX11_way_93 rfl (by decide)) ?_
  refine pGo (s_iload_n dX11_way_94 rfl) ?_
  refine pGo (s_iload dX11_way_95 rfl) ?_
  refine pGo (s_iload dX11_way_97 rfl) ?_
  refine pGo (s_iload dX11_way_99 rfl) ?_
  refine pGo (s_iload dX11_way_101 rfl) ?_
  refine pGo (s_iload dX11_way_103 rfl) ?_
  refine p_callV (As := [(0, x1), (0, x8), (0, x9), (0, x11), (0, x4), (0, x7)]) (st := []) (n := 6) (d' := 4) (Q1 := Q1) pc11 ok_X11_leads ml_X11_502 im_X11_leads se_X11_leads dX11_way_105 (ob_68 hst) (pargs_of rfl) rfl (Nat.le_of_ble_eq_true rfl) (by omega) f1 (fun r1 τ1 e1 q1 w1 => ?_)
  obtain ⟨v1, rfl, b1⟩ := pRok_z w1
  have S1 : Stat τ1 := (Stat.le (σ := σ) hst e1)
  show pR mX11_way d 108 [(2, 68), (0, x1), (0, x2), (0, x3), (0, x4), (0, x5), (0, x6), (0, x7), (0, x8), (0, x9), (0, x10), (0, x11)] [(0, v1)] τ1 Q
  refine p_ifne (tgt := 117) dX11_way_108 (by decide) (g1 v1 b1 τ1 e1 q1) (fun c1 => ?_) (fun c2 => ?_)
  · refine pGo (s_iload dX11_way_117 rfl) ?_
    refine p_ifne (tgt := 128) dX11_way_119 (by decide) (g2 v1 b1 τ1 e1 q1 c1) (fun c3 => ?_) (fun c4 => ?_)
    · refine pGoL (ls2 := [(2, 68), (0, x1), (0, x2), (0, x3), (0, x4), (0, x5), (0, x6), (0, x7), (0, x8), (0, x9), (0, (x10 + (-1))), (0, x11)]) (s_iinc dX11_way_128 (by decide) rfl rfl) rfl ?_
      refine pGo (s_aload_n dX11_way_131 rfl (by decide)) ?_
      refine pGo (s_iload_n dX11_way_132 rfl) ?_
      refine pGo (s_iload dX11_way_133 rfl) ?_
      refine pGo (s_iload dX11_way_135 rfl) ?_
      refine p_callV (As := [(0, x1), (0, x11), (0, x9)]) (st := []) (n := 3) (d' := 2) (Q1 := (fun r τ => r = some (0, (vBy τ1 x1 x11 x9)) ∧ τ = τ1)) pc11 ok_X11_by ml_X11_489 im_X11_by se_X11_by dX11_way_137 (ob_68 S1) (pargs_of rfl) rfl (Nat.le_of_ble_eq_true rfl) (by omega) (f2 v1 b1 τ1 e1 q1 c1 c3) (fun r2 τ2 e2 q2 w2 => ?_)
      obtain ⟨rfl, t2⟩ := q2
      rw [t2]
      show pR mX11_way d 140 [(2, 68), (0, x1), (0, x2), (0, x3), (0, x4), (0, x5), (0, x6), (0, x7), (0, x8), (0, x9), (0, (x10 + (-1))), (0, x11)] [(0, (vBy τ1 x1 x11 x9))] τ1 Q
      refine pGoL (ls2 := [(2, 68), (0, x1), (0, x2), (0, x3), (0, x4), (0, x5), (0, x6), (0, x7), (0, x8), (0, (vBy τ1 x1 x11 x9)), (0, (x10 + (-1))), (0, x11)]) (s_istore dX11_way_140 (by decide) rfl) rfl ?_
      refine pGo (s_aload_n dX11_way_142 rfl (by decide)) ?_
      refine pGoE (y := 78) (s_getF pc11 fl_X11_42 dX11_way_143 (ob_68 S1) rfl (by decide)) (by decide) ?_
      refine pGo (s_iload dX11_way_146 rfl) ?_
      refine pGoE (y := (rd τ1 78 x11)) (s_iald dX11_way_148 (ob_78 S1) (bnd (g3 v1 b1 τ1 e1 q1 c1 c3))) rfl ?_
      refine pGoL (ls2 := [(2, 68), (0, x1), (0, x2), (0, x3), (0, x4), (0, x5), (0, x6), (0, x7), (0, (rd τ1 78 x11)), (0, (vBy τ1 x1 x11 x9)), (0, (x10 + (-1))), (0, x11)]) (s_istore dX11_way_149 (by decide) rfl) rfl ?_
      refine pGo (s_goto (tgt := 76) dX11_way_151 (by decide)) ?_
      exact (k1 v1 b1 τ1 e1 q1 c1 c3)
    · refine pGo (s_iload dX11_way_122 rfl) ?_
      refine p_callS (As := [(0, x11)]) (st := []) (n := 1) (d' := 0) (Q1 := (fun r τ => r = some (0, (vOuter x11)) ∧ τ = τ1)) ok_X11_outer ml_X11_506 sm_X11_outer dX11_way_124 (pargs_of rfl) rfl (Nat.le_of_ble_eq_true rfl) (by omega) (f3 v1 b1 τ1 e1 q1 c1 c4) (fun r3 τ3 e3 q3 w3 => ?_)
      obtain ⟨rfl, t3⟩ := q3
      rw [t3]
      show pR mX11_way d 127 [(2, 68), (0, x1), (0, x2), (0, x3), (0, x4), (0, x5), (0, x6), (0, x7), (0, x8), (0, x9), (0, x10), (0, x11)] [(0, (vOuter x11))] τ1 Q
      exact pEnd (r := (some (0, (vOuter x11)))) dX11_way_127 ⟨_, rfl⟩ (k2 v1 b1 τ1 e1 q1 c1 c4)
  · refine pGoL (ls2 := [(2, 68), (0, x1), (0, x2), (0, x3), (0, x4), (0, x5), (0, x6), (0, x7), (0, x8), (0, x9), (0, x10), (0, (x11 + 1))]) (s_iinc dX11_way_111 (by decide) rfl rfl) rfl ?_
    refine pGo (s_goto (tgt := 93) dX11_way_114 (by decide)) ?_
    exact (k3 v1 b1 τ1 e1 q1 c2)
set_option maxRecDepth 100000 in
theorem g_X11_last_0 {d : Nat} {σ : pS} {Q : Option pV → pS → Prop} {Q1 : Option pV → pS → Prop} (hd : 4 ≤ d) (hst : Stat σ) (x1 : Int) (x2 : Int) (x3 : Int)  (f1 : pC mX11_isSkill 0 [(0, x1)] σ (fun r τ => r = some (0, b2i (vWithin x1 4)) ∧ τ = σ)) (k1 : ∀ (c1 : (vWithin x1 4) = false), Q (some (0, (-1))) σ) (f2 : ∀ (c2 : (vWithin x1 4) = true), pC mX11_isPlace 0 [(0, x2)] σ (fun r τ => r = some (0, b2i (vWithin x2 10)) ∧ τ = σ)) (f3 : ∀ (c2 : (vWithin x1 4) = true) (c3 : (vWithin x2 10) = true), pC mX11_know 2 [(2, 68), (0, x3)] σ Q1) (k2 : ∀ (c2 : (vWithin x1 4) = true) (c3 : (vWithin x2 10) = true) (τ3 : pS) (e3 : pLe σ τ3) (q3 : Q1 none τ3), pR mX11_last d 26 [(2, 68), (0, x1), (0, x2), (0, x3), (0, 480)] [] τ3 Q) (k3 : ∀ (c2 : (vWithin x1 4) = true) (c4 : (vWithin x2 10) = false), Q (some (0, (-1))) σ) : pC mX11_last d [(2, 68), (0, x1), (0, x2), (0, x3)] σ Q := by
  show pR mX11_last d 0 [(2, 68), (0, x1), (0, x2), (0, x3), (9, 0)] [] σ Q
  refine pGo (s_iload_n dX11_last_0 rfl) ?_
  refine p_callS (As := [(0, x1)]) (st := []) (n := 1) (d' := 0) (Q1 := (fun r τ => r = some (0, b2i (vWithin x1 4)) ∧ τ = σ)) ok_X11_isSkill ml_X11_493 sm_X11_isSkill dX11_last_1 (pargs_of rfl) rfl (Nat.le_of_ble_eq_true rfl) (by omega) f1 (fun r1 τ1 e1 q1 w1 => ?_)
  obtain ⟨rfl, t1⟩ := q1
  rw [t1]
  show pR mX11_last d 4 [(2, 68), (0, x1), (0, x2), (0, x3), (9, 0)] [(0, (b2i (vWithin x1 4)))] σ Q
  refine p_ifeqB (tgt := 14) dX11_last_4 (by decide) (fun c1 => ?_) (fun c2 => ?_)
  · refine pGo (s_iconst dX11_last_14) ?_
    exact pEnd (r := (some (0, (-1)))) dX11_last_15 ⟨_, rfl⟩ (k1 c1)
  · refine pGo (s_iload_n dX11_last_7 rfl) ?_
    refine p_callS (As := [(0, x2)]) (st := []) (n := 1) (d' := 0) (Q1 := (fun r τ => r = some (0, b2i (vWithin x2 10)) ∧ τ = σ)) ok_X11_isPlace ml_X11_496 sm_X11_isPlace dX11_last_8 (pargs_of rfl) rfl (Nat.le_of_ble_eq_true rfl) (by omega) (f2 c2) (fun r2 τ2 e2 q2 w2 => ?_)
    obtain ⟨rfl, t2⟩ := q2
    rw [t2]
    show pR mX11_last d 11 [(2, 68), (0, x1), (0, x2), (0, x3), (9, 0)] [(0, (b2i (vWithin x2 10)))] σ Q
    refine p_ifneB (tgt := 16) dX11_last_11 (by decide) (fun c3 => ?_) (fun c4 => ?_)
    · refine pGo (s_aload_n dX11_last_16 rfl (by decide)) ?_
      refine pGo (s_iload_n dX11_last_17 rfl) ?_
      refine p_callV (As := [(0, x3)]) (st := []) (n := 1) (d' := 2) (Q1 := Q1) pc11 ok_X11_know ml_X11_480 im_X11_know se_X11_know dX11_last_18 (ob_68 hst) (pargs_of rfl) rfl (Nat.le_of_ble_eq_true rfl) (by omega) (f3 c2 c3) (fun r3 τ3 e3 q3 w3 => ?_)
      obtain rfl : r3 = none := w3
      have S3 : Stat τ3 := (Stat.le (σ := σ) hst e3)
      show pR mX11_last d 21 [(2, 68), (0, x1), (0, x2), (0, x3), (9, 0)] [] τ3 Q
      refine pGo (s_sipush dX11_last_21 (by decide)) ?_
      refine pGoL (ls2 := [(2, 68), (0, x1), (0, x2), (0, x3), (0, 480)]) (s_istore dX11_last_24 (by decide) rfl) rfl ?_
      exact (k2 c2 c3 τ3 e3 q3)
    · refine pGo (s_iconst dX11_last_14) ?_
      exact pEnd (r := (some (0, (-1)))) dX11_last_15 ⟨_, rfl⟩ (k3 c2 c4)
set_option maxRecDepth 100000 in
theorem g_X11_last_26 {d : Nat} {σ : pS} {Q : Option pV → pS → Prop} {Q1 : Option pV → pS → Prop} (hd : 4 ≤ d) (hst : Stat σ) (x1 : Int) (x2 : Int) (x3 : Int) (x4 : Int)  (g1 : inR x4) (k1 : ∀ (c1 : x4 < 0), Q (some (0, x4)) σ) (f1 : ∀ (c2 : 0 ≤ x4), pC mX11_soonestOf 3 [(2, 68), (0, x1), (0, x2), (0, x4), (0, (rd σ 68 32))] σ Q1) (g2 : ∀ (c2 : 0 ≤ x4) (v1 : Int) (τ1 : pS) (e1 : pLe σ τ1) (q1 : Q1 (some (0, v1)) τ1), inR v1) (k2 : ∀ (c2 : 0 ≤ x4) (v1 : Int) (τ1 : pS) (e1 : pLe σ τ1) (q1 : Q1 (some (0, v1)) τ1) (c3 : v1 ≠ 1000000), Q (some (0, x4)) τ1) (k3 : ∀ (c2 : 0 ≤ x4) (v1 : Int) (τ1 : pS) (e1 : pLe σ τ1) (q1 : Q1 (some (0, v1)) τ1) (c4 : v1 = 1000000), pR mX11_last d 26 [(2, 68), (0, x1), (0, x2), (0, x3), (0, (x4 + (-1)))] [] τ1 Q) : pR mX11_last d 26 [(2, 68), (0, x1), (0, x2), (0, x3), (0, x4)] [] σ Q := by
  refine pGo (s_iload dX11_last_26 rfl) ?_
  refine p_iflt (tgt := 54) dX11_last_28 (by decide) g1 (fun c1 => ?_) (fun c2 => ?_)
  · refine pGo (s_iload dX11_last_54 rfl) ?_
    exact pEnd (r := (some (0, x4))) dX11_last_56 ⟨_, rfl⟩ (k1 c1)
  · refine pGo (s_aload_n dX11_last_31 rfl (by decide)) ?_
    refine pGo (s_iload_n dX11_last_32 rfl) ?_
    refine pGo (s_iload_n dX11_last_33 rfl) ?_
    refine pGo (s_iload dX11_last_34 rfl) ?_
    refine pGo (s_aload_n dX11_last_36 rfl (by decide)) ?_
    refine pGoE (y := (rd σ 68 32)) (s_getI pc11 fl_X11_372 dX11_last_37 (ob_68 hst) rfl (by decide)) rfl ?_
    refine p_callV (As := [(0, x1), (0, x2), (0, x4), (0, (rd σ 68 32))]) (st := []) (n := 4) (d' := 3) (Q1 := Q1) pc11 ok_X11_soonestOf ml_X11_499 im_X11_soonestOf se_X11_soonestOf dX11_last_40 (ob_68 hst) (pargs_of rfl) rfl (Nat.le_of_ble_eq_true rfl) (by omega) (f1 c2) (fun r1 τ1 e1 q1 w1 => ?_)
    obtain ⟨v1, rfl⟩ := w1
    have S1 : Stat τ1 := (Stat.le (σ := σ) hst e1)
    show pR mX11_last d 43 [(2, 68), (0, x1), (0, x2), (0, x3), (0, x4)] [(0, v1)] τ1 Q
    refine pGo (s_ldc (n := 1000000) dX11_last_43 kc_X11_232 (by decide)) ?_
    refine p_icne (tgt := 54) dX11_last_45 (by decide) (g2 c2 v1 τ1 e1 q1) (by decide) (fun c3 => ?_) (fun c4 => ?_)
    · refine pGo (s_iload dX11_last_54 rfl) ?_
      exact pEnd (r := (some (0, x4))) dX11_last_56 ⟨_, rfl⟩ (k2 c2 v1 τ1 e1 q1 c3)
    · refine pGoL (ls2 := [(2, 68), (0, x1), (0, x2), (0, x3), (0, (x4 + (-1)))]) (s_iinc dX11_last_48 (by decide) rfl rfl) rfl ?_
      refine pGo (s_goto (tgt := 26) dX11_last_51 (by decide)) ?_
      exact (k3 c2 v1 τ1 e1 q1 c4)
set_option maxRecDepth 100000 in
theorem g_X10_soonest_0 {d : Nat} {σ : pS} {Q : Option pV → pS → Prop} {Q1 : Option pV → pS → Prop} {Q2 : Option pV → pS → Prop} (hd : 6 ≤ d) (hst : Stat σ) (x1 : Int) (x2 : Int) (x3 : Int) (x4 : Int) (x5 : Int)  (f1 : pC mX10_canAsk 1 [(2, 0), (0, x1), (0, x2), (0, x3), (0, x4)] σ (fun r τ => r = some (0, b2i (vAsk x1 x2 x3 x4)) ∧ τ = σ)) (f2 : ∀ (c1 : (vAsk x1 x2 x3 x4) = true), pC mX10_look 4 [(2, 0), (0, x5)] σ Q1) (f3 : ∀ (c1 : (vAsk x1 x2 x3 x4) = true) (τ2 : pS) (e2 : pLe σ τ2) (q2 : Q1 none τ2), pC mX4_firstMinuteAt 5 [(2, 40), (0, x1), (0, x2), (0, x3), (0, x4)] τ2 Q2) (k1 : ∀ (c1 : (vAsk x1 x2 x3 x4) = true) (τ2 : pS) (e2 : pLe σ τ2) (q2 : Q1 none τ2) (v3 : Int) (τ3 : pS) (e3 : pLe τ2 τ3) (q3 : Q2 (some (0, v3)) τ3), Q (some (0, v3)) τ3) (k2 : ∀ (c2 : (vAsk x1 x2 x3 x4) = false), Q (some (0, (-1))) σ) : pC mX10_soonest d [(2, 0), (0, x1), (0, x2), (0, x3), (0, x4), (0, x5)] σ Q := by
  show pR mX10_soonest d 0 [(2, 0), (0, x1), (0, x2), (0, x3), (0, x4), (0, x5)] [] σ Q
  refine pGo (s_aload_n dX10_soonest_0 rfl (by decide)) ?_
  refine pGo (s_iload_n dX10_soonest_1 rfl) ?_
  refine pGo (s_iload_n dX10_soonest_2 rfl) ?_
  refine pGo (s_iload_n dX10_soonest_3 rfl) ?_
  refine pGo (s_iload dX10_soonest_4 rfl) ?_
  refine p_callV (As := [(0, x1), (0, x2), (0, x3), (0, x4)]) (st := []) (n := 4) (d' := 1) (Q1 := (fun r τ => r = some (0, b2i (vAsk x1 x2 x3 x4)) ∧ τ = σ)) pc10 ok_X10_canAsk ml_X10_170 im_X10_canAsk se_X10_canAsk dX10_soonest_6 (ob_0 hst) (pargs_of rfl) rfl (Nat.le_of_ble_eq_true rfl) (by omega) f1 (fun r1 τ1 e1 q1 w1 => ?_)
  obtain ⟨rfl, t1⟩ := q1
  rw [t1]
  show pR mX10_soonest d 9 [(2, 0), (0, x1), (0, x2), (0, x3), (0, x4), (0, x5)] [(0, (b2i (vAsk x1 x2 x3 x4)))] σ Q
  refine p_ifneB (tgt := 14) dX10_soonest_9 (by decide) (fun c1 => ?_) (fun c2 => ?_)
  · refine pGo (s_aload_n dX10_soonest_14 rfl (by decide)) ?_
    refine pGo (s_iload dX10_soonest_15 rfl) ?_
    refine p_callV (As := [(0, x5)]) (st := []) (n := 1) (d' := 4) (Q1 := Q1) pc10 ok_X10_look ml_X10_153 im_X10_look se_X10_look dX10_soonest_17 (ob_0 hst) (pargs_of rfl) rfl (Nat.le_of_ble_eq_true rfl) (by omega) (f2 c1) (fun r2 τ2 e2 q2 w2 => ?_)
    obtain rfl : r2 = none := w2
    have S2 : Stat τ2 := (Stat.le (σ := σ) hst e2)
    show pR mX10_soonest d 20 [(2, 0), (0, x1), (0, x2), (0, x3), (0, x4), (0, x5)] [] τ2 Q
    refine pGo (s_aload_n dX10_soonest_20 rfl (by decide)) ?_
    refine pGoE (y := 40) (s_getF pc10 fl_X10_64 dX10_soonest_21 (ob_0 S2) rfl (by decide)) (by decide) ?_
    refine pGo (s_iload_n dX10_soonest_24 rfl) ?_
    refine pGo (s_iload_n dX10_soonest_25 rfl) ?_
    refine pGo (s_iload_n dX10_soonest_26 rfl) ?_
    refine pGo (s_iload dX10_soonest_27 rfl) ?_
    refine p_callV (As := [(0, x1), (0, x2), (0, x3), (0, x4)]) (st := []) (n := 4) (d' := 5) (Q1 := Q2) pc4 ok_X4_firstMinuteAt ml_X10_174 im_X4_firstMinuteAt se_X4_firstMinuteAt dX10_soonest_29 (ob_40 S2) (pargs_of rfl) rfl (Nat.le_of_ble_eq_true rfl) (by omega) (f3 c1 τ2 e2 q2) (fun r3 τ3 e3 q3 w3 => ?_)
    obtain ⟨v3, rfl⟩ := w3
    have S3 : Stat τ3 := (Stat.le (σ := τ2) S2 e3)
    show pR mX10_soonest d 32 [(2, 0), (0, x1), (0, x2), (0, x3), (0, x4), (0, x5)] [(0, v3)] τ3 Q
    exact pEnd (r := (some (0, v3))) dX10_soonest_32 ⟨_, rfl⟩ (k1 c1 τ2 e2 q2 v3 τ3 e3 q3)
  · refine pGo (s_iconst dX10_soonest_12) ?_
    exact pEnd (r := (some (0, (-1)))) dX10_soonest_13 ⟨_, rfl⟩ (k2 c2)
set_option maxRecDepth 100000 in
theorem g_X10_way_0 {d : Nat} {σ : pS} {Q : Option pV → pS → Prop} {Q1 : Option pV → pS → Prop} {Q2 : Option pV → pS → Prop} (hd : 7 ≤ d) (hst : Stat σ) (x1 : Int) (x2 : Int) (x3 : Int) (x4 : Int) (x5 : Int) (x6 : Int)  (f1 : pC mX10_canAsk 1 [(2, 0), (0, x1), (0, x2), (0, x3), (0, x4)] σ (fun r τ => r = some (0, b2i (vAsk x1 x2 x3 x4)) ∧ τ = σ)) (k1 : ∀ (c1 : (vAsk x1 x2 x3 x4) = false), Q (some (0, (-1))) σ) (g1 : ∀ (c2 : (vAsk x1 x2 x3 x4) = true), inR x5) (f2 : ∀ (c2 : (vAsk x1 x2 x3 x4) = true) (c3 : 0 ≤ x5), pC mX10_look 4 [(2, 0), (0, x6)] σ Q1) (f3 : ∀ (c2 : (vAsk x1 x2 x3 x4) = true) (c3 : 0 ≤ x5) (τ2 : pS) (e2 : pLe σ τ2) (q2 : Q1 none τ2), pC mX4_wayOf 6 [(2, 40), (0, x1), (0, x2), (0, x3), (0, x4), (0, x5)] τ2 Q2) (k2 : ∀ (c2 : (vAsk x1 x2 x3 x4) = true) (c3 : 0 ≤ x5) (τ2 : pS) (e2 : pLe σ τ2) (q2 : Q1 none τ2) (v3 : Int) (τ3 : pS) (e3 : pLe τ2 τ3) (q3 : Q2 (some (0, v3)) τ3), Q (some (0, v3)) τ3) (k3 : ∀ (c2 : (vAsk x1 x2 x3 x4) = true) (c4 : x5 < 0), Q (some (0, (-1))) σ) : pC mX10_way d [(2, 0), (0, x1), (0, x2), (0, x3), (0, x4), (0, x5), (0, x6)] σ Q := by
  show pR mX10_way d 0 [(2, 0), (0, x1), (0, x2), (0, x3), (0, x4), (0, x5), (0, x6)] [] σ Q
  refine pGo (s_aload_n dX10_way_0 rfl (by decide)) ?_
  refine pGo (s_iload_n dX10_way_1 rfl) ?_
  refine pGo (s_iload_n dX10_way_2 rfl) ?_
  refine pGo (s_iload_n dX10_way_3 rfl) ?_
  refine pGo (s_iload dX10_way_4 rfl) ?_
  refine p_callV (As := [(0, x1), (0, x2), (0, x3), (0, x4)]) (st := []) (n := 4) (d' := 1) (Q1 := (fun r τ => r = some (0, b2i (vAsk x1 x2 x3 x4)) ∧ τ = σ)) pc10 ok_X10_canAsk ml_X10_170 im_X10_canAsk se_X10_canAsk dX10_way_6 (ob_0 hst) (pargs_of rfl) rfl (Nat.le_of_ble_eq_true rfl) (by omega) f1 (fun r1 τ1 e1 q1 w1 => ?_)
  obtain ⟨rfl, t1⟩ := q1
  rw [t1]
  show pR mX10_way d 9 [(2, 0), (0, x1), (0, x2), (0, x3), (0, x4), (0, x5), (0, x6)] [(0, (b2i (vAsk x1 x2 x3 x4)))] σ Q
  refine p_ifeqB (tgt := 17) dX10_way_9 (by decide) (fun c1 => ?_) (fun c2 => ?_)
  · refine pGo (s_iconst dX10_way_17) ?_
    exact pEnd (r := (some (0, (-1)))) dX10_way_18 ⟨_, rfl⟩ (k1 c1)
  · refine pGo (s_iload dX10_way_12 rfl) ?_
    refine p_ifge (tgt := 19) dX10_way_14 (by decide) (g1 c2) (fun c3 => ?_) (fun c4 => ?_)
    · refine pGo (s_aload_n dX10_way_19 rfl (by decide)) ?_
      refine pGo (s_iload dX10_way_20 rfl) ?_
      refine p_callV (As := [(0, x6)]) (st := []) (n := 1) (d' := 4) (Q1 := Q1) pc10 ok_X10_look ml_X10_153 im_X10_look se_X10_look dX10_way_22 (ob_0 hst) (pargs_of rfl) rfl (Nat.le_of_ble_eq_true rfl) (by omega) (f2 c2 c3) (fun r2 τ2 e2 q2 w2 => ?_)
      obtain rfl : r2 = none := w2
      have S2 : Stat τ2 := (Stat.le (σ := σ) hst e2)
      show pR mX10_way d 25 [(2, 0), (0, x1), (0, x2), (0, x3), (0, x4), (0, x5), (0, x6)] [] τ2 Q
      refine pGo (s_aload_n dX10_way_25 rfl (by decide)) ?_
      refine pGoE (y := 40) (s_getF pc10 fl_X10_64 dX10_way_26 (ob_0 S2) rfl (by decide)) (by decide) ?_
      refine pGo (s_iload_n dX10_way_29 rfl) ?_
      refine pGo (s_iload_n dX10_way_30 rfl) ?_
      refine pGo (s_iload_n dX10_way_31 rfl) ?_
      refine pGo (s_iload dX10_way_32 rfl) ?_
      refine pGo (s_iload dX10_way_34 rfl) ?_
      refine p_callV (As := [(0, x1), (0, x2), (0, x3), (0, x4), (0, x5)]) (st := []) (n := 5) (d' := 6) (Q1 := Q2) pc4 ok_X4_wayOf ml_X10_177 im_X4_wayOf se_X4_wayOf dX10_way_36 (ob_40 S2) (pargs_of rfl) rfl (Nat.le_of_ble_eq_true rfl) (by omega) (f3 c2 c3 τ2 e2 q2) (fun r3 τ3 e3 q3 w3 => ?_)
      obtain ⟨v3, rfl⟩ := w3
      have S3 : Stat τ3 := (Stat.le (σ := τ2) S2 e3)
      show pR mX10_way d 39 [(2, 0), (0, x1), (0, x2), (0, x3), (0, x4), (0, x5), (0, x6)] [(0, v3)] τ3 Q
      exact pEnd (r := (some (0, v3))) dX10_way_39 ⟨_, rfl⟩ (k2 c2 c3 τ2 e2 q2 v3 τ3 e3 q3)
    · refine pGo (s_iconst dX10_way_17) ?_
      exact pEnd (r := (some (0, (-1)))) dX10_way_18 ⟨_, rfl⟩ (k3 c2 c4)
set_option maxRecDepth 100000 in
theorem g_X10_last_0 {d : Nat} {σ : pS} {Q : Option pV → pS → Prop} {Q1 : Option pV → pS → Prop} {Q2 : Option pV → pS → Prop} (hd : 6 ≤ d) (hst : Stat σ) (x1 : Int) (x2 : Int) (x3 : Int)  (f1 : pC mX10_within 0 [(0, x1), (0, 4)] σ (fun r τ => r = some (0, b2i (vWithin x1 4)) ∧ τ = σ)) (k1 : ∀ (c1 : (vWithin x1 4) = false), Q (some (0, (-1))) σ) (f2 : ∀ (c2 : (vWithin x1 4) = true), pC mX10_within 0 [(0, x2), (0, 10)] σ (fun r τ => r = some (0, b2i (vWithin x2 10)) ∧ τ = σ)) (f3 : ∀ (c2 : (vWithin x1 4) = true) (c3 : (vWithin x2 10) = true), pC mX10_look 4 [(2, 0), (0, x3)] σ Q1) (g1 : ∀ (c2 : (vWithin x1 4) = true) (c3 : (vWithin x2 10) = true) (τ3 : pS) (e3 : pLe σ τ3) (q3 : Q1 none τ3), Inst6 τ3 (rd τ3 0 7)) (f4 : ∀ (c2 : (vWithin x1 4) = true) (c3 : (vWithin x2 10) = true) (τ3 : pS) (e3 : pLe σ τ3) (q3 : Q1 none τ3), pC mX4_lastMinuteAt 5 [(2, 40), (0, x1), (0, x2), (0, (rd τ3 (rd τ3 0 7) 3))] τ3 Q2) (g2 : ∀ (c2 : (vWithin x1 4) = true) (c3 : (vWithin x2 10) = true) (τ3 : pS) (e3 : pLe σ τ3) (q3 : Q1 none τ3) (v4 : Int) (τ4 : pS) (e4 : pLe τ3 τ4) (q4 : Q2 (some (0, v4)) τ4), inR v4) (k2 : ∀ (c2 : (vWithin x1 4) = true) (c3 : (vWithin x2 10) = true) (τ3 : pS) (e3 : pLe σ τ3) (q3 : Q1 none τ3) (v4 : Int) (τ4 : pS) (e4 : pLe τ3 τ4) (q4 : Q2 (some (0, v4)) τ4), Q (some (0, (min v4 480))) τ4) (k3 : ∀ (c2 : (vWithin x1 4) = true) (c4 : (vWithin x2 10) = false), Q (some (0, (-1))) σ) : pC mX10_last d [(2, 0), (0, x1), (0, x2), (0, x3)] σ Q := by
  show pR mX10_last d 0 [(2, 0), (0, x1), (0, x2), (0, x3)] [] σ Q
  refine pGo (s_iload_n dX10_last_0 rfl) ?_
  refine pGo (s_iconst dX10_last_1) ?_
  refine p_callS (As := [(0, x1), (0, 4)]) (st := []) (n := 2) (d' := 0) (Q1 := (fun r τ => r = some (0, b2i (vWithin x1 4)) ∧ τ = σ)) ok_X10_within ml_X10_138 sm_X10_within dX10_last_2 (pargs_of rfl) rfl (Nat.le_of_ble_eq_true rfl) (by omega) f1 (fun r1 τ1 e1 q1 w1 => ?_)
  obtain ⟨rfl, t1⟩ := q1
  rw [t1]
  show pR mX10_last d 5 [(2, 0), (0, x1), (0, x2), (0, x3)] [(0, (b2i (vWithin x1 4)))] σ Q
  refine p_ifeqB (tgt := 17) dX10_last_5 (by decide) (fun c1 => ?_) (fun c2 => ?_)
  · refine pGo (s_iconst dX10_last_17) ?_
    exact pEnd (r := (some (0, (-1)))) dX10_last_18 ⟨_, rfl⟩ (k1 c1)
  · refine pGo (s_iload_n dX10_last_8 rfl) ?_
    refine pGo (s_bipush dX10_last_9 (by decide)) ?_
    refine p_callS (As := [(0, x2), (0, 10)]) (st := []) (n := 2) (d' := 0) (Q1 := (fun r τ => r = some (0, b2i (vWithin x2 10)) ∧ τ = σ)) ok_X10_within ml_X10_138 sm_X10_within dX10_last_11 (pargs_of rfl) rfl (Nat.le_of_ble_eq_true rfl) (by omega) (f2 c2) (fun r2 τ2 e2 q2 w2 => ?_)
    obtain ⟨rfl, t2⟩ := q2
    rw [t2]
    show pR mX10_last d 14 [(2, 0), (0, x1), (0, x2), (0, x3)] [(0, (b2i (vWithin x2 10)))] σ Q
    refine p_ifneB (tgt := 19) dX10_last_14 (by decide) (fun c3 => ?_) (fun c4 => ?_)
    · refine pGo (s_aload_n dX10_last_19 rfl (by decide)) ?_
      refine pGo (s_iload_n dX10_last_20 rfl) ?_
      refine p_callV (As := [(0, x3)]) (st := []) (n := 1) (d' := 4) (Q1 := Q1) pc10 ok_X10_look ml_X10_153 im_X10_look se_X10_look dX10_last_21 (ob_0 hst) (pargs_of rfl) rfl (Nat.le_of_ble_eq_true rfl) (by omega) (f3 c2 c3) (fun r3 τ3 e3 q3 w3 => ?_)
      obtain rfl : r3 = none := w3
      have S3 : Stat τ3 := (Stat.le (σ := σ) hst e3)
      show pR mX10_last d 24 [(2, 0), (0, x1), (0, x2), (0, x3)] [] τ3 Q
      refine pGo (s_aload_n dX10_last_24 rfl (by decide)) ?_
      refine pGoE (y := 40) (s_getF pc10 fl_X10_64 dX10_last_25 (ob_0 S3) rfl (by decide)) (by decide) ?_
      refine pGo (s_iload_n dX10_last_28 rfl) ?_
      refine pGo (s_iload_n dX10_last_29 rfl) ?_
      refine pGo (s_aload_n dX10_last_30 rfl (by decide)) ?_
      refine pGoE (y := (rd τ3 0 7)) (s_getR pc10 fl_X10_27 dX10_last_31 (ob_0 S3) rfl rfl) rfl ?_
      refine pGoE (y := (rd τ3 (rd τ3 0 7) 3)) (s_getI pc6 fl_X10_181 dX10_last_34 (g1 c2 c3 τ3 e3 q3).o0 rfl (by decide)) rfl ?_
      refine p_callV (As := [(0, x1), (0, x2), (0, (rd τ3 (rd τ3 0 7) 3))]) (st := []) (n := 3) (d' := 5) (Q1 := Q2) pc4 ok_X4_lastMinuteAt ml_X10_184 im_X4_lastMinuteAt se_X4_lastMinuteAt dX10_last_37 (ob_40 S3) (pargs_of rfl) rfl (Nat.le_of_ble_eq_true rfl) (by omega) (f4 c2 c3 τ3 e3 q3) (fun r4 τ4 e4 q4 w4 => ?_)
      obtain ⟨v4, rfl⟩ := w4
      have S4 : Stat τ4 := (Stat.le (σ := τ3) S3 e4)
      have J4_0 : Inst6 τ4 (rd τ3 0 7) := Inst6.le (σ := τ3) (g1 c2 c3 τ3 e3 q3) e4
      show pR mX10_last d 40 [(2, 0), (0, x1), (0, x2), (0, x3)] [(0, v4)] τ4 Q
      refine pGo (s_sipush dX10_last_40 (by decide)) ?_
      refine pGo (s_mmin (by omega) mj_X10_188 (Nat.le_of_ble_eq_true rfl) dX10_last_43 (g2 c2 c3 τ3 e3 q3 v4 τ4 e4 q4) (by decide)) ?_
      exact pEnd (r := (some (0, (min v4 480)))) dX10_last_46 ⟨_, rfl⟩ (k2 c2 c3 τ3 e3 q3 v4 τ4 e4 q4)
    · refine pGo (s_iconst dX10_last_17) ?_
      exact pEnd (r := (some (0, (-1)))) dX10_last_18 ⟨_, rfl⟩ (k3 c2 c4)
