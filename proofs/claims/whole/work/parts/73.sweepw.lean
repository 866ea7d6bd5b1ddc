/-! walks: the class sweeps -/
set_option maxRecDepth 100000 in
theorem g_X7_startOf_0 {d : Nat} {σ : pS} {Q : Option pV → pS → Prop} (hd : 1 ≤ d) (hst : Stat σ) (x1 : Int) (x2 : Int)  (g1 : 0 ≤ x1 ∧ x1 < 2) (g2 : Inst6 σ (rd σ 61 6)) (g3 : 0 ≤ (10 + x2) ∧ (10 + x2) < 17) (g4 : 0 ≤ (((rd σ 66 x1) * 10) + (rd σ ((rd σ 61 6) + 2) (10 + x2))) ∧ (((rd σ 66 x1) * 10) + (rd σ ((rd σ 61 6) + 2) (10 + x2))) < 100) (k1 : pR mX7_startOf d 38 [(2, 61), (0, x1), (0, x2), (0, ((rd σ 67 x1) + (rd σ 63 (((rd σ 66 x1) * 10) + (rd σ ((rd σ 61 6) + 2) (10 + x2)))))), (0, 0)] [] σ Q) : pC mX7_startOf d [(2, 61), (0, x1), (0, x2)] σ Q := by
  show pR mX7_startOf d 0 [(2, 61), (0, x1), (0, x2), (9, 0), (9, 0)] [] σ Q
  refine pGo (s_aload_n dX7_startOf_0 rfl (by decide)) ?_
  refine pGoE (y := 67) (s_getF pc7 fl_X7_27 dX7_startOf_1 (ob_61 hst) rfl (by decide)) (by decide) ?_
  refine pGo (s_iload_n dX7_startOf_4 rfl) ?_
  refine pGoE (y := (rd σ 67 x1)) (s_iald dX7_startOf_5 (ob_67 hst) (bnd g1)) rfl ?_
  refine pGo (s_aload_n dX7_startOf_6 rfl (by decide)) ?_
  refine pGoE (y := 63) (s_getF pc7 fl_X7_15 dX7_startOf_7 (ob_61 hst) rfl (by decide)) (by decide) ?_
  refine pGo (s_aload_n dX7_startOf_10 rfl (by decide)) ?_
  refine pGoE (y := 66) (s_getF pc7 fl_X7_24 dX7_startOf_11 (ob_61 hst) rfl (by decide)) (by decide) ?_
  refine pGo (s_iload_n dX7_startOf_14 rfl) ?_
  refine pGoE (y := (rd σ 66 x1)) (s_iald dX7_startOf_15 (ob_66 hst) (bnd g1)) rfl ?_
  refine pGo (s_bipush dX7_startOf_16 (by decide)) ?_
  refine pGo (s_imul dX7_startOf_18) ?_
  refine pGo (s_aload_n dX7_startOf_19 rfl (by decide)) ?_
  refine pGoE (y := (rd σ 61 6)) (s_getR pc7 fl_X7_34 dX7_startOf_20 (ob_61 hst) rfl rfl) rfl ?_
  refine pGo (s_getF pc6 fl_X7_68 dX7_startOf_23 g2.o0 rfl (by decide)) ?_
  refine pGo (s_bipush dX7_startOf_26 (by decide)) ?_
  refine pGo (s_iload_n dX7_startOf_28 rfl) ?_
  refine pGo (s_iadd dX7_startOf_29) ?_
  refine pGoE (y := (rd σ ((rd σ 61 6) + 2) (10 + x2))) (s_iald dX7_startOf_30 g2.o2 (bnd g3)) rfl ?_
  refine pGo (s_iadd dX7_startOf_31) ?_
  refine pGoE (y := (rd σ 63 (((rd σ 66 x1) * 10) + (rd σ ((rd σ 61 6) + 2) (10 + x2))))) (s_iald dX7_startOf_32 (ob_63 hst) (bnd g4)) rfl ?_
  refine pGo (s_iadd dX7_startOf_33) ?_
  refine pGoL (ls2 := [(2, 61), (0, x1), (0, x2), (0, ((rd σ 67 x1) + (rd σ 63 (((rd σ 66 x1) * 10) + (rd σ ((rd σ 61 6) + 2) (10 + x2)))))), (9, 0)]) (s_istore_n dX7_startOf_34 (by decide) rfl) rfl ?_
  refine pGo (s_iconst dX7_startOf_35) ?_
  refine pGoL (ls2 := [(2, 61), (0, x1), (0, x2), (0, ((rd σ 67 x1) + (rd σ 63 (((rd σ 66 x1) * 10) + (rd σ ((rd σ 61 6) + 2) (10 + x2)))))), (0, 0)]) (s_istore dX7_startOf_36 (by decide) rfl) rfl ?_
  exact k1
set_option maxRecDepth 100000 in
theorem g_X7_startOf_38 {d : Nat} {σ : pS} {Q : Option pV → pS → Prop} (hd : 1 ≤ d) (hst : Stat σ) (x1 : Int) (x2 : Int) (x3 : Int) (x4 : Int)  (g1 : Inst6 σ (rd σ 61 6)) (g2 : inR x4) (g3 : inR (rd σ (rd σ 61 6) 1)) (k1 : ∀ (c1 : (rd σ (rd σ 61 6) 1) ≤ x4), Q (some (0, x3)) σ) (g4 : ∀ (c2 : x4 < (rd σ (rd σ 61 6) 1)), 0 ≤ x2 ∧ x2 < 7) (g5 : ∀ (c2 : x4 < (rd σ (rd σ 61 6) 1)), inR (i_and (i_shr (rd σ 64 x2) x4) 1)) (k2 : ∀ (c2 : x4 < (rd σ (rd σ 61 6) 1)) (c3 : (i_and (i_shr (rd σ 64 x2) x4) 1) = 0), pR mX7_startOf d 38 [(2, 61), (0, x1), (0, x2), (0, x3), (0, (x4 + 1))] [] σ Q) (g6 : ∀ (c2 : x4 < (rd σ (rd σ 61 6) 1)) (c4 : (i_and (i_shr (rd σ 64 x2) x4) 1) ≠ 0), 0 ≤ x4 ∧ x4 < 7) (g7 : ∀ (c2 : x4 < (rd σ (rd σ 61 6) 1)) (c4 : (i_and (i_shr (rd σ 64 x2) x4) 1) ≠ 0), inR x3) (g8 : ∀ (c2 : x4 < (rd σ (rd σ 61 6) 1)) (c4 : (i_and (i_shr (rd σ 64 x2) x4) 1) ≠ 0), inR (rd σ 65 x4)) (k3 : ∀ (c2 : x4 < (rd σ (rd σ 61 6) 1)) (c4 : (i_and (i_shr (rd σ 64 x2) x4) 1) ≠ 0), pR mX7_startOf d 38 [(2, 61), (0, x1), (0, x2), (0, (max x3 (rd σ 65 x4))), (0, (x4 + 1))] [] σ Q) : pR mX7_startOf d 38 [(2, 61), (0, x1), (0, x2), (0, x3), (0, x4)] [] σ Q := by
  refine pGo (s_iload dX7_startOf_38 rfl) ?_
  refine pGo (s_aload_n dX7_startOf_40 rfl (by decide)) ?_
  refine pGoE (y := (rd σ 61 6)) (s_getR pc7 fl_X7_34 dX7_startOf_41 (ob_61 hst) rfl rfl) rfl ?_
  refine pGoE (y := (rd σ (rd σ 61 6) 1)) (s_getI pc6 fl_X7_83 dX7_startOf_44 g1.o0 rfl (by decide)) rfl ?_
  refine p_icge (tgt := 82) dX7_startOf_47 (by decide) g2 g3 (fun c1 => ?_) (fun c2 => ?_)
  · refine pGo (s_iload_n dX7_startOf_82 rfl) ?_
    exact pEnd (r := (some (0, x3))) dX7_startOf_83 ⟨_, rfl⟩ (k1 c1)
  · refine pGo (s_aload_n dX7_startOf_50 rfl (by decide)) ?_
    refine pGoE (y := 64) (s_getF pc7 fl_X7_18 dX7_startOf_51 (ob_61 hst) rfl (by decide)) (by decide) ?_
    refine pGo (s_iload_n dX7_startOf_54 rfl) ?_
    refine pGoE (y := (rd σ 64 x2)) (s_iald dX7_startOf_55 (ob_64 hst) (bnd (g4 c2))) rfl ?_
    refine pGo (s_iload dX7_startOf_56 rfl) ?_
    refine pGo (s_ishr dX7_startOf_58) ?_
    refine pGo (s_iconst dX7_startOf_59) ?_
    refine pGo (s_iand dX7_startOf_60) ?_
    refine p_ifeq (tgt := 76) dX7_startOf_61 (by decide) (g5 c2) (fun c3 => ?_) (fun c4 => ?_)
    · refine pGoL (ls2 := [(2, 61), (0, x1), (0, x2), (0, x3), (0, (x4 + 1))]) (s_iinc dX7_startOf_76 (by decide) rfl rfl) rfl ?_
      refine pGo (s_goto (tgt := 38) dX7_startOf_79 (by decide)) ?_
      exact (k2 c2 c3)
    · refine pGo (s_iload_n dX7_startOf_64 rfl) ?_
      refine pGo (s_aload_n dX7_startOf_65 rfl (by decide)) ?_
      refine pGoE (y := 65) (s_getF pc7 fl_X7_21 dX7_startOf_66 (ob_61 hst) rfl (by decide)) (by decide) ?_
      refine pGo (s_iload dX7_startOf_69 rfl) ?_
      refine pGoE (y := (rd σ 65 x4)) (s_iald dX7_startOf_71 (ob_65 hst) (bnd (g6 c2 c4))) rfl ?_
      refine pGo (s_mmax (by omega) mj_X7_86 (Nat.le_of_ble_eq_true rfl) dX7_startOf_72 (g7 c2 c4) (g8 c2 c4)) ?_
      refine pGoL (ls2 := [(2, 61), (0, x1), (0, x2), (0, (max x3 (rd σ 65 x4))), (0, x4)]) (s_istore_n dX7_startOf_75 (by decide) rfl) rfl ?_
      refine pGoL (ls2 := [(2, 61), (0, x1), (0, x2), (0, (max x3 (rd σ 65 x4))), (0, (x4 + 1))]) (s_iinc dX7_startOf_76 (by decide) rfl rfl) rfl ?_
      refine pGo (s_goto (tgt := 38) dX7_startOf_79 (by decide)) ?_
      exact (k3 c2 c4)
set_option maxRecDepth 100000 in
theorem g_X7_canBeBetter_0 {d : Nat} {σ : pS} {Q : Option pV → pS → Prop} (hd : 0 ≤ d) (hst : Stat σ) (x1 : Int)  (k1 : pR mX7_canBeBetter d 16 [(2, 61), (0, x1), (0, ((rd σ 67 0) + (rd σ 67 1))), (0, 0)] [] σ Q) : pC mX7_canBeBetter d [(2, 61), (0, x1)] σ Q := by
  show pR mX7_canBeBetter d 0 [(2, 61), (0, x1), (9, 0), (9, 0)] [] σ Q
  refine pGo (s_aload_n dX7_canBeBetter_0 rfl (by decide)) ?_
  refine pGoE (y := 67) (s_getF pc7 fl_X7_27 dX7_canBeBetter_1 (ob_61 hst) rfl (by decide)) (by decide) ?_
  refine pGo (s_iconst dX7_canBeBetter_4) ?_
  refine pGoE (y := (rd σ 67 0)) (s_iald dX7_canBeBetter_5 (ob_67 hst) (by decide)) rfl ?_
  refine pGo (s_aload_n dX7_canBeBetter_6 rfl (by decide)) ?_
  refine pGoE (y := 67) (s_getF pc7 fl_X7_27 dX7_canBeBetter_7 (ob_61 hst) rfl (by decide)) (by decide) ?_
  refine pGo (s_iconst dX7_canBeBetter_10) ?_
  refine pGoE (y := (rd σ 67 1)) (s_iald dX7_canBeBetter_11 (ob_67 hst) (by decide)) rfl ?_
  refine pGo (s_iadd dX7_canBeBetter_12) ?_
  refine pGoL (ls2 := [(2, 61), (0, x1), (0, ((rd σ 67 0) + (rd σ 67 1))), (9, 0)]) (s_istore_n dX7_canBeBetter_13 (by decide) rfl) rfl ?_
  refine pGo (s_iconst dX7_canBeBetter_14) ?_
  refine pGoL (ls2 := [(2, 61), (0, x1), (0, ((rd σ 67 0) + (rd σ 67 1))), (0, 0)]) (s_istore_n dX7_canBeBetter_15 (by decide) rfl) rfl ?_
  exact k1
set_option maxRecDepth 100000 in
theorem g_X7_canBeBetter_16 {d : Nat} {σ : pS} {Q : Option pV → pS → Prop} (hd : 0 ≤ d) (hst : Stat σ) (x1 : Int) (x2 : Int) (x3 : Int)  (g1 : Inst6 σ (rd σ 61 6)) (g2 : inR x3) (g3 : inR (rd σ (rd σ 61 6) 1)) (g4 : ∀ (c1 : (rd σ (rd σ 61 6) 1) ≤ x3), inR x2) (g5 : ∀ (c1 : (rd σ (rd σ 61 6) 1) ≤ x3), inR ((rd σ 61 8) * (rd σ 61 7))) (k1 : ∀ (c1 : (rd σ (rd σ 61 6) 1) ≤ x3) (c3 : ((rd σ 61 8) * (rd σ 61 7)) ≤ x2), Q (some (0, 0)) σ) (k2 : ∀ (c1 : (rd σ (rd σ 61 6) 1) ≤ x3) (c4 : x2 < ((rd σ 61 8) * (rd σ 61 7))), Q (some (0, 1)) σ) (g6 : ∀ (c2 : x3 < (rd σ (rd σ 61 6) 1)), inR (i_and (i_shr x1 x3) 1)) (k3 : ∀ (c2 : x3 < (rd σ (rd σ 61 6) 1)) (c5 : (i_and (i_shr x1 x3) 1) ≠ 0), pR mX7_canBeBetter d 16 [(2, 61), (0, x1), (0, (x2 + 0)), (0, (x3 + 1))] [] σ Q) (g7 : ∀ (c2 : x3 < (rd σ (rd σ 61 6) 1)) (c6 : (i_and (i_shr x1 x3) 1) = 0), 0 ≤ (10 + x3) ∧ (10 + x3) < 17) (k4 : ∀ (c2 : x3 < (rd σ (rd σ 61 6) 1)) (c6 : (i_and (i_shr x1 x3) 1) = 0), pR mX7_canBeBetter d 16 [(2, 61), (0, x1), (0, (x2 + (rd σ ((rd σ 61 6) + 4) (10 + x3)))), (0, (x3 + 1))] [] σ Q) : pR mX7_canBeBetter d 16 [(2, 61), (0, x1), (0, x2), (0, x3)] [] σ Q := by
  refine pGo (s_iload_n dX7_canBeBetter_16 rfl) ?_
  refine pGo (s_aload_n dX7_canBeBetter_17 rfl (by decide)) ?_
  refine pGoE (y := (rd σ 61 6)) (s_getR pc7 fl_X7_34 dX7_canBeBetter_18 (ob_61 hst) rfl rfl) rfl ?_
  refine pGoE (y := (rd σ (rd σ 61 6) 1)) (s_getI pc6 fl_X7_83 dX7_canBeBetter_21 g1.o0 rfl (by decide)) rfl ?_
  refine p_icge (tgt := 60) dX7_canBeBetter_24 (by decide) g2 g3 (fun c1 => ?_) (fun c2 => ?_)
  · refine pGo (s_iload_n dX7_canBeBetter_60 rfl) ?_
    refine pGo (s_aload_n dX7_canBeBetter_61 rfl (by decide)) ?_
    refine pGoE (y := (rd σ 61 8)) (s_getI pc7 fl_X7_55 dX7_canBeBetter_62 (ob_61 hst) rfl (by decide)) rfl ?_
    refine pGo (s_aload_n dX7_canBeBetter_65 rfl (by decide)) ?_
    refine pGoE (y := (rd σ 61 7)) (s_getI pc7 fl_X7_50 dX7_canBeBetter_66 (ob_61 hst) rfl (by decide)) rfl ?_
    refine pGo (s_imul dX7_canBeBetter_69) ?_
    refine p_icge (tgt := 77) dX7_canBeBetter_70 (by decide) (g4 c1) (g5 c1) (fun c3 => ?_) (fun c4 => ?_)
    · refine pGo (s_iconst dX7_canBeBetter_77) ?_
      exact pEnd (r := (some (0, 0))) dX7_canBeBetter_78 (Or.inl rfl) (k1 c1 c3)
    · refine pGo (s_iconst dX7_canBeBetter_73) ?_
      refine pGo (s_goto (tgt := 78) dX7_canBeBetter_74 (by decide)) ?_
      exact pEnd (r := (some (0, 1))) dX7_canBeBetter_78 (Or.inr rfl) (k2 c1 c4)
  · refine pGo (s_iload_n dX7_canBeBetter_27 rfl) ?_
    refine pGo (s_iload_n dX7_canBeBetter_28 rfl) ?_
    refine pGo (s_iload_n dX7_canBeBetter_29 rfl) ?_
    refine pGo (s_ishr dX7_canBeBetter_30) ?_
    refine pGo (s_iconst dX7_canBeBetter_31) ?_
    refine pGo (s_iand dX7_canBeBetter_32) ?_
    refine p_ifne (tgt := 51) dX7_canBeBetter_33 (by decide) (g6 c2) (fun c5 => ?_) (fun c6 => ?_)
    · refine pGo (s_iconst dX7_canBeBetter_51) ?_
      refine pGo (s_iadd dX7_canBeBetter_52) ?_
      refine pGoL (ls2 := [(2, 61), (0, x1), (0, (x2 + 0)), (0, x3)]) (s_istore_n dX7_canBeBetter_53 (by decide) rfl) rfl ?_
      refine pGoL (ls2 := [(2, 61), (0, x1), (0, (x2 + 0)), (0, (x3 + 1))]) (s_iinc dX7_canBeBetter_54 (by decide) rfl rfl) rfl ?_
      refine pGo (s_goto (tgt := 16) dX7_canBeBetter_57 (by decide)) ?_
      exact (k3 c2 c5)
    · refine pGo (s_aload_n dX7_canBeBetter_36 rfl (by decide)) ?_
      refine pGoE (y := (rd σ 61 6)) (s_getR pc7 fl_X7_34 dX7_canBeBetter_37 (ob_61 hst) rfl rfl) rfl ?_
      refine pGo (s_getF pc6 fl_X7_74 dX7_canBeBetter_40 g1.o0 rfl (by decide)) ?_
      refine pGo (s_bipush dX7_canBeBetter_43 (by decide)) ?_
      refine pGo (s_iload_n dX7_canBeBetter_45 rfl) ?_
      refine pGo (s_iadd dX7_canBeBetter_46) ?_
      refine pGoE (y := (rd σ ((rd σ 61 6) + 4) (10 + x3))) (s_iald dX7_canBeBetter_47 g1.o4 (bnd (g7 c2 c6))) rfl ?_
      refine pGo (s_goto (tgt := 52) dX7_canBeBetter_48 (by decide)) ?_
      refine pGo (s_iadd dX7_canBeBetter_52) ?_
      refine pGoL (ls2 := [(2, 61), (0, x1), (0, (x2 + (rd σ ((rd σ 61 6) + 4) (10 + x3)))), (0, x3)]) (s_istore_n dX7_canBeBetter_53 (by decide) rfl) rfl ?_
      refine pGoL (ls2 := [(2, 61), (0, x1), (0, (x2 + (rd σ ((rd σ 61 6) + 4) (10 + x3)))), (0, (x3 + 1))]) (s_iinc dX7_canBeBetter_54 (by decide) rfl rfl) rfl ?_
      refine pGo (s_goto (tgt := 16) dX7_canBeBetter_57 (by decide)) ?_
      exact (k4 c2 c6)
set_option maxRecDepth 100000 in
theorem g_X7_goOn_0 {d : Nat} {σ : pS} {Q : Option pV → pS → Prop} {Q1 : Option pV → pS → Prop} (hd : 12 ≤ d) (hst : Stat σ) (x2 : Int) (x3 : Int) (x4 : Int)  (g1 : Inst6 σ (rd σ 61 6)) (g2 : inR x4) (g3 : inR (rd σ (rd σ 61 6) 1)) (k1 : ∀ (c1 : x4 < (rd σ (rd σ 61 6) 1)) (c3 : 7 ≤ x4), Q none σ) (f1 : ∀ (c1 : x4 < (rd σ (rd σ 61 6) 1)) (c4 : x4 < 7), pC mX7_canBeBetter 0 [(2, 61), (0, x2)] σ Q1) (g4 : ∀ (c1 : x4 < (rd σ (rd σ 61 6) 1)) (c4 : x4 < 7) (v1 : Int) (b1 : v1 = 0 ∨ v1 = 1) (τ1 : pS) (e1 : pLe σ τ1) (q1 : Q1 (some (0, v1)) τ1), inR v1) (k2 : ∀ (c1 : x4 < (rd σ (rd σ 61 6) 1)) (c4 : x4 < 7) (v1 : Int) (b1 : v1 = 0 ∨ v1 = 1) (τ1 : pS) (e1 : pLe σ τ1) (q1 : Q1 (some (0, v1)) τ1) (c5 : v1 ≠ 0) (c7 : x4 ≠ 0), pR mX7_goOn d 70 [(2, 61), (0, x2), (0, x3), (0, x4), (0, (rd τ1 61 7)), (0, 0), (9, 0), (9, 0), (9, 0)] [] τ1 Q) (k3 : ∀ (c1 : x4 < (rd σ (rd σ 61 6) 1)) (c4 : x4 < 7) (v1 : Int) (b1 : v1 = 0 ∨ v1 = 1) (τ1 : pS) (e1 : pLe σ τ1) (q1 : Q1 (some (0, v1)) τ1) (c5 : v1 ≠ 0) (c8 : x4 = 0), pR mX7_goOn d 70 [(2, 61), (0, x2), (0, x3), (0, x4), (0, 1), (0, 0), (9, 0), (9, 0), (9, 0)] [] τ1 Q) (k4 : ∀ (c1 : x4 < (rd σ (rd σ 61 6) 1)) (c4 : x4 < 7) (v1 : Int) (b1 : v1 = 0 ∨ v1 = 1) (τ1 : pS) (e1 : pLe σ τ1) (q1 : Q1 (some (0, v1)) τ1) (c6 : v1 = 0), Q none τ1) (g5 : ∀ (c2 : (rd σ (rd σ 61 6) 1) ≤ x4), inR (rd σ 67 0)) (g6 : ∀ (c2 : (rd σ (rd σ 61 6) 1) ≤ x4), inR (rd σ 67 1)) (g7 : ∀ (c2 : (rd σ (rd σ 61 6) 1) ≤ x4), inR (rd σ 61 8)) (g8 : ∀ (c2 : (rd σ (rd σ 61 6) 1) ≤ x4), inR (max (rd σ 67 0) (rd σ 67 1))) (k5 : ∀ (c2 : (rd σ (rd σ 61 6) 1) ≤ x4), Q none (wr σ 61 8 (min (rd σ 61 8) (max (rd σ 67 0) (rd σ 67 1))))) : pC mX7_goOn d [(2, 61), (0, x2), (0, x3), (0, x4)] σ Q := by
  show pR mX7_goOn d 0 [(2, 61), (0, x2), (0, x3), (0, x4), (9, 0), (9, 0), (9, 0), (9, 0), (9, 0)] [] σ Q
  refine pGo (s_iload_n dX7_goOn_0 rfl) ?_
  refine pGo (s_aload_n dX7_goOn_1 rfl (by decide)) ?_
  refine pGoE (y := (rd σ 61 6)) (s_getR pc7 fl_X7_34 dX7_goOn_2 (ob_61 hst) rfl rfl) rfl ?_
  refine pGoE (y := (rd σ (rd σ 61 6) 1)) (s_getI pc6 fl_X7_83 dX7_goOn_5 g1.o0 rfl (by decide)) rfl ?_
  refine p_iclt (tgt := 38) dX7_goOn_8 (by decide) g2 g3 (fun c1 => ?_) (fun c2 => ?_)
  · refine pGo (s_iload_n dX7_goOn_38 rfl) ?_
    refine pGo (s_bipush dX7_goOn_39 (by decide)) ?_
    refine p_icge (tgt := 52) dX7_goOn_41 (by decide) g2 (by decide) (fun c3 => ?_) (fun c4 => ?_)
    · exact pEnd (r := none) dX7_goOn_52 rfl (k1 c1 c3)
    · refine pGo (s_aload_n dX7_goOn_44 rfl (by decide)) ?_
      refine pGo (s_iload_n dX7_goOn_45 rfl) ?_
      refine p_callV (As := [(0, x2)]) (st := []) (n := 1) (d' := 0) (Q1 := Q1) pc7 ok_X7_canBeBetter ml_X7_89 im_X7_canBeBetter se_X7_canBeBetter dX7_goOn_46 (ob_61 hst) (pargs_of rfl) rfl (Nat.le_of_ble_eq_true rfl) (by omega) (f1 c1 c4) (fun r1 τ1 e1 q1 w1 => ?_)
      obtain ⟨v1, rfl, b1⟩ := pRok_z w1
      have S1 : Stat τ1 := (Stat.le (σ := σ) hst e1)
      have J1_0 : Inst6 τ1 (rd σ 61 6) := Inst6.le (σ := σ) g1 e1
      show pR mX7_goOn d 49 [(2, 61), (0, x2), (0, x3), (0, x4), (9, 0), (9, 0), (9, 0), (9, 0), (9, 0)] [(0, v1)] τ1 Q
      refine p_ifne (tgt := 53) dX7_goOn_49 (by decide) (g4 c1 c4 v1 b1 τ1 e1 q1) (fun c5 => ?_) (fun c6 => ?_)
      · refine pGo (s_iload_n dX7_goOn_53 rfl) ?_
        refine p_ifne (tgt := 61) dX7_goOn_54 (by decide) g2 (fun c7 => ?_) (fun c8 => ?_)
        · refine pGo (s_aload_n dX7_goOn_61 rfl (by decide)) ?_
          refine pGoE (y := (rd τ1 61 7)) (s_getI pc7 fl_X7_50 dX7_goOn_62 (ob_61 S1) rfl (by decide)) rfl ?_
          refine pGoL (ls2 := [(2, 61), (0, x2), (0, x3), (0, x4), (0, (rd τ1 61 7)), (9, 0), (9, 0), (9, 0), (9, 0)]) (s_istore dX7_goOn_65 (by decide) rfl) rfl ?_
          refine pGo (s_iconst dX7_goOn_67) ?_
          refine pGoL (ls2 := [(2, 61), (0, x2), (0, x3), (0, x4), (0, (rd τ1 61 7)), (0, 0), (9, 0), (9, 0), (9, 0)]) (s_istore dX7_goOn_68 (by decide) rfl) rfl ?_
          exact (k2 c1 c4 v1 b1 τ1 e1 q1 c5 c7)
        · refine pGo (s_iconst dX7_goOn_57) ?_
          refine pGo (s_goto (tgt := 65) dX7_goOn_58 (by decide)) ?_
          refine pGoL (ls2 := [(2, 61), (0, x2), (0, x3), (0, x4), (0, 1), (9, 0), (9, 0), (9, 0), (9, 0)]) (s_istore dX7_goOn_65 (by decide) rfl) rfl ?_
          refine pGo (s_iconst dX7_goOn_67) ?_
          refine pGoL (ls2 := [(2, 61), (0, x2), (0, x3), (0, x4), (0, 1), (0, 0), (9, 0), (9, 0), (9, 0)]) (s_istore dX7_goOn_68 (by decide) rfl) rfl ?_
          exact (k3 c1 c4 v1 b1 τ1 e1 q1 c5 c8)
      · exact pEnd (r := none) dX7_goOn_52 rfl (k4 c1 c4 v1 b1 τ1 e1 q1 c6)
  · refine pGo (s_aload_n dX7_goOn_11 rfl (by decide)) ?_
    refine pGo (s_aload_n dX7_goOn_12 rfl (by decide)) ?_
    refine pGoE (y := (rd σ 61 8)) (s_getI pc7 fl_X7_55 dX7_goOn_13 (ob_61 hst) rfl (by decide)) rfl ?_
    refine pGo (s_aload_n dX7_goOn_16 rfl (by decide)) ?_
    refine pGoE (y := 67) (s_getF pc7 fl_X7_27 dX7_goOn_17 (ob_61 hst) rfl (by decide)) (by decide) ?_
    refine pGo (s_iconst dX7_goOn_20) ?_
    refine pGoE (y := (rd σ 67 0)) (s_iald dX7_goOn_21 (ob_67 hst) (by decide)) rfl ?_
    refine pGo (s_aload_n dX7_goOn_22 rfl (by decide)) ?_
    refine pGoE (y := 67) (s_getF pc7 fl_X7_27 dX7_goOn_23 (ob_61 hst) rfl (by decide)) (by decide) ?_
    refine pGo (s_iconst dX7_goOn_26) ?_
    refine pGoE (y := (rd σ 67 1)) (s_iald dX7_goOn_27 (ob_67 hst) (by decide)) rfl ?_
    refine pGo (s_mmax (by omega) mj_X7_86 (Nat.le_of_ble_eq_true rfl) dX7_goOn_28 (g5 c2) (g6 c2)) ?_
    refine pGo (s_mmin (by omega) mj_X7_77 (Nat.le_of_ble_eq_true rfl) dX7_goOn_31 (g7 c2) (g8 c2)) ?_
    refine pGo (s_putI pc7 fl_X7_55 dX7_goOn_34 (ob_61 hst) rfl rfl rfl rfl) ?_
    exact pEnd (r := none) dX7_goOn_37 rfl (k5 c2)
set_option maxRecDepth 100000 in
theorem g_X7_goOn_70 {d : Nat} {σ : pS} {Q : Option pV → pS → Prop} {Q1 : Option pV → pS → Prop} {Q2 : Option pV → pS → Prop} (hd : 12 ≤ d) (hst : Stat σ) (x1 : Int) (x2 : Int) (x3 : Int) (x4 : Int) (x5 : Int) (u6 : pV) (u7 : pV) (u8 : pV) (hu6 : u6.1 ≠ 1) (hu7 : u7.1 ≠ 1) (hu8 : u8.1 ≠ 1) (g1 : Inst6 σ (rd σ 61 6)) (g2 : inR x5) (g3 : inR (x4 * (rd σ (rd σ 61 6) 1))) (k1 : ∀ (c1 : (x4 * (rd σ (rd σ 61 6) 1)) ≤ x5), Q none σ) (g4 : ∀ (c2 : x5 < (x4 * (rd σ (rd σ 61 6) 1))), 0 ≤ x5 ∧ x5 < 2147483648) (g5 : ∀ (c2 : x5 < (x4 * (rd σ (rd σ 61 6) 1))), 0 < (rd σ (rd σ 61 6) 1) ∧ (rd σ (rd σ 61 6) 1) < 2147483648) (g6 : ∀ (c2 : x5 < (x4 * (rd σ (rd σ 61 6) 1))), inR (i_and (i_shr x1 (x5 % (rd σ (rd σ 61 6) 1))) 1)) (k2 : ∀ (c2 : x5 < (x4 * (rd σ (rd σ 61 6) 1))) (c3 : (i_and (i_shr x1 (x5 % (rd σ (rd σ 61 6) 1))) 1) ≠ 0), pR mX7_goOn d 70 [(2, 61), (0, x1), (0, x2), (0, x3), (0, x4), (0, (x5 + 1)), (0, (x5 / (rd σ (rd σ 61 6) 1))), (0, (x5 % (rd σ (rd σ 61 6) 1))), u8] [] σ Q) (g7 : ∀ (c2 : x5 < (x4 * (rd σ (rd σ 61 6) 1))) (c4 : (i_and (i_shr x1 (x5 % (rd σ (rd σ 61 6) 1))) 1) = 0), 0 ≤ (x5 % (rd σ (rd σ 61 6) 1)) ∧ (x5 % (rd σ (rd σ 61 6) 1)) < 7) (g8 : ∀ (c2 : x5 < (x4 * (rd σ (rd σ 61 6) 1))) (c4 : (i_and (i_shr x1 (x5 % (rd σ (rd σ 61 6) 1))) 1) = 0), inR (i_and (rd σ 64 (x5 % (rd σ (rd σ 61 6) 1))) (i_xor x1 (-1)))) (k3 : ∀ (c2 : x5 < (x4 * (rd σ (rd σ 61 6) 1))) (c4 : (i_and (i_shr x1 (x5 % (rd σ (rd σ 61 6) 1))) 1) = 0) (c5 : (i_and (rd σ 64 (x5 % (rd σ (rd σ 61 6) 1))) (i_xor x1 (-1))) ≠ 0), pR mX7_goOn d 70 [(2, 61), (0, x1), (0, x2), (0, x3), (0, x4), (0, (x5 + 1)), (0, (x5 / (rd σ (rd σ 61 6) 1))), (0, (x5 % (rd σ (rd σ 61 6) 1))), u8] [] σ Q) (f1 : ∀ (c2 : x5 < (x4 * (rd σ (rd σ 61 6) 1))) (c4 : (i_and (i_shr x1 (x5 % (rd σ (rd σ 61 6) 1))) 1) = 0) (c6 : (i_and (rd σ 64 (x5 % (rd σ (rd σ 61 6) 1))) (i_xor x1 (-1))) = 0), pC mX7_startOf 1 [(2, 61), (0, (x5 / (rd σ (rd σ 61 6) 1))), (0, (x5 % (rd σ (rd σ 61 6) 1)))] σ Q1) (g9 : ∀ (c2 : x5 < (x4 * (rd σ (rd σ 61 6) 1))) (c4 : (i_and (i_shr x1 (x5 % (rd σ (rd σ 61 6) 1))) 1) = 0) (c6 : (i_and (rd σ 64 (x5 % (rd σ (rd σ 61 6) 1))) (i_xor x1 (-1))) = 0) (v1 : Int) (τ1 : pS) (e1 : pLe σ τ1) (q1 : Q1 (some (0, v1)) τ1), inR v1) (g10 : ∀ (c2 : x5 < (x4 * (rd σ (rd σ 61 6) 1))) (c4 : (i_and (i_shr x1 (x5 % (rd σ (rd σ 61 6) 1))) 1) = 0) (c6 : (i_and (rd σ 64 (x5 % (rd σ (rd σ 61 6) 1))) (i_xor x1 (-1))) = 0) (v1 : Int) (τ1 : pS) (e1 : pLe σ τ1) (q1 : Q1 (some (0, v1)) τ1), inR x2) (k4 : ∀ (c2 : x5 < (x4 * (rd σ (rd σ 61 6) 1))) (c4 : (i_and (i_shr x1 (x5 % (rd σ (rd σ 61 6) 1))) 1) = 0) (c6 : (i_and (rd σ 64 (x5 % (rd σ (rd σ 61 6) 1))) (i_xor x1 (-1))) = 0) (v1 : Int) (τ1 : pS) (e1 : pLe σ τ1) (q1 : Q1 (some (0, v1)) τ1) (c7 : v1 < x2), pR mX7_goOn d 70 [(2, 61), (0, x1), (0, x2), (0, x3), (0, x4), (0, (x5 + 1)), (0, (x5 / (rd σ (rd σ 61 6) 1))), (0, (x5 % (rd σ (rd σ 61 6) 1))), (0, v1)] [] τ1 Q) (g11 : ∀ (c2 : x5 < (x4 * (rd σ (rd σ 61 6) 1))) (c4 : (i_and (i_shr x1 (x5 % (rd σ (rd σ 61 6) 1))) 1) = 0) (c6 : (i_and (rd σ 64 (x5 % (rd σ (rd σ 61 6) 1))) (i_xor x1 (-1))) = 0) (v1 : Int) (τ1 : pS) (e1 : pLe σ τ1) (q1 : Q1 (some (0, v1)) τ1) (c8 : x2 ≤ v1), Inst6 τ1 (rd τ1 61 6)) (g12 : ∀ (c2 : x5 < (x4 * (rd σ (rd σ 61 6) 1))) (c4 : (i_and (i_shr x1 (x5 % (rd σ (rd σ 61 6) 1))) 1) = 0) (c6 : (i_and (rd σ 64 (x5 % (rd σ (rd σ 61 6) 1))) (i_xor x1 (-1))) = 0) (v1 : Int) (τ1 : pS) (e1 : pLe σ τ1) (q1 : Q1 (some (0, v1)) τ1) (c8 : x2 ≤ v1), 0 ≤ (10 + (x5 % (rd σ (rd σ 61 6) 1))) ∧ (10 + (x5 % (rd σ (rd σ 61 6) 1))) < 17) (g13 : ∀ (c2 : x5 < (x4 * (rd σ (rd σ 61 6) 1))) (c4 : (i_and (i_shr x1 (x5 % (rd σ (rd σ 61 6) 1))) 1) = 0) (c6 : (i_and (rd σ 64 (x5 % (rd σ (rd σ 61 6) 1))) (i_xor x1 (-1))) = 0) (v1 : Int) (τ1 : pS) (e1 : pLe σ τ1) (q1 : Q1 (some (0, v1)) τ1) (c8 : x2 ≤ v1), inR (v1 + (rd τ1 ((rd τ1 61 6) + 4) (10 + (x5 % (rd σ (rd σ 61 6) 1)))))) (g14 : ∀ (c2 : x5 < (x4 * (rd σ (rd σ 61 6) 1))) (c4 : (i_and (i_shr x1 (x5 % (rd σ (rd σ 61 6) 1))) 1) = 0) (c6 : (i_and (rd σ 64 (x5 % (rd σ (rd σ 61 6) 1))) (i_xor x1 (-1))) = 0) (v1 : Int) (τ1 : pS) (e1 : pLe σ τ1) (q1 : Q1 (some (0, v1)) τ1) (c8 : x2 ≤ v1), inR (rd τ1 61 8)) (k5 : ∀ (c2 : x5 < (x4 * (rd σ (rd σ 61 6) 1))) (c4 : (i_and (i_shr x1 (x5 % (rd σ (rd σ 61 6) 1))) 1) = 0) (c6 : (i_and (rd σ 64 (x5 % (rd σ (rd σ 61 6) 1))) (i_xor x1 (-1))) = 0) (v1 : Int) (τ1 : pS) (e1 : pLe σ τ1) (q1 : Q1 (some (0, v1)) τ1) (c8 : x2 ≤ v1) (c9 : (rd τ1 61 8) ≤ (v1 + (rd τ1 ((rd τ1 61 6) + 4) (10 + (x5 % (rd σ (rd σ 61 6) 1)))))), pR mX7_goOn d 70 [(2, 61), (0, x1), (0, x2), (0, x3), (0, x4), (0, (x5 + 1)), (0, (x5 / (rd σ (rd σ 61 6) 1))), (0, (x5 % (rd σ (rd σ 61 6) 1))), (0, v1)] [] τ1 Q) (f2 : ∀ (c2 : x5 < (x4 * (rd σ (rd σ 61 6) 1))) (c4 : (i_and (i_shr x1 (x5 % (rd σ (rd σ 61 6) 1))) 1) = 0) (c6 : (i_and (rd σ 64 (x5 % (rd σ (rd σ 61 6) 1))) (i_xor x1 (-1))) = 0) (v1 : Int) (τ1 : pS) (e1 : pLe σ τ1) (q1 : Q1 (some (0, v1)) τ1) (c8 : x2 ≤ v1) (c10 : (v1 + (rd τ1 ((rd τ1 61 6) + 4) (10 + (x5 % (rd σ (rd σ 61 6) 1))))) < (rd τ1 61 8)), pC mX7_goDown (d - 1) [(2, 61), (0, (x5 / (rd σ (rd σ 61 6) 1))), (0, (x5 % (rd σ (rd σ 61 6) 1))), (0, x1), (0, v1), (0, x3)] τ1 Q2) (k6 : ∀ (c2 : x5 < (x4 * (rd σ (rd σ 61 6) 1))) (c4 : (i_and (i_shr x1 (x5 % (rd σ (rd σ 61 6) 1))) 1) = 0) (c6 : (i_and (rd σ 64 (x5 % (rd σ (rd σ 61 6) 1))) (i_xor x1 (-1))) = 0) (v1 : Int) (τ1 : pS) (e1 : pLe σ τ1) (q1 : Q1 (some (0, v1)) τ1) (c8 : x2 ≤ v1) (c10 : (v1 + (rd τ1 ((rd τ1 61 6) + 4) (10 + (x5 % (rd σ (rd σ 61 6) 1))))) < (rd τ1 61 8)) (τ2 : pS) (e2 : pLe τ1 τ2) (q2 : Q2 none τ2), pR mX7_goOn d 70 [(2, 61), (0, x1), (0, x2), (0, x3), (0, x4), (0, (x5 + 1)), (0, (x5 / (rd σ (rd σ 61 6) 1))), (0, (x5 % (rd σ (rd σ 61 6) 1))), (0, v1)] [] τ2 Q) : pR mX7_goOn d 70 [(2, 61), (0, x1), (0, x2), (0, x3), (0, x4), (0, x5), u6, u7, u8] [] σ Q := by
  refine pGo (s_iload dX7_goOn_70 rfl) ?_
  refine pGo (s_iload dX7_goOn_72 rfl) ?_
  refine pGo (s_aload_n dX7_goOn_74 rfl (by decide)) ?_
  refine pGoE (y := (rd σ 61 6)) (s_getR pc7 fl_X7_34 dX7_goOn_75 (ob_61 hst) rfl rfl) rfl ?_
  refine pGoE (y := (rd σ (rd σ 61 6) 1)) (s_getI pc6 fl_X7_83 dX7_goOn_78 g1.o0 rfl (by decide)) rfl ?_
  refine pGo (s_imul dX7_goOn_81) ?_
  refine p_icge (tgt := 189) dX7_goOn_82 (by decide) g2 g3 (fun c1 => ?_) (fun c2 => ?_)
  · exact pEnd (r := none) dX7_goOn_189 rfl (k1 c1)
  · refine pGo (s_iload dX7_goOn_85 rfl) ?_
    refine pGo (s_aload_n dX7_goOn_87 rfl (by decide)) ?_
    refine pGoE (y := (rd σ 61 6)) (s_getR pc7 fl_X7_34 dX7_goOn_88 (ob_61 hst) rfl rfl) rfl ?_
    refine pGoE (y := (rd σ (rd σ 61 6) 1)) (s_getI pc6 fl_X7_83 dX7_goOn_91 g1.o0 rfl (by decide)) rfl ?_
    refine pGo (s_idivp dX7_goOn_94 (g4 c2) (g5 c2)) ?_
    refine pGoL (ls2 := [(2, 61), (0, x1), (0, x2), (0, x3), (0, x4), (0, x5), (0, (x5 / (rd σ (rd σ 61 6) 1))), u7, u8]) (s_istore dX7_goOn_95 (by decide) rfl) rfl ?_
    refine pGo (s_iload dX7_goOn_97 rfl) ?_
    refine pGo (s_aload_n dX7_goOn_99 rfl (by decide)) ?_
    refine pGoE (y := (rd σ 61 6)) (s_getR pc7 fl_X7_34 dX7_goOn_100 (ob_61 hst) rfl rfl) rfl ?_
    refine pGoE (y := (rd σ (rd σ 61 6) 1)) (s_getI pc6 fl_X7_83 dX7_goOn_103 g1.o0 rfl (by decide)) rfl ?_
    refine pGo (s_iremp dX7_goOn_106 (g4 c2) (g5 c2)) ?_
    refine pGoL (ls2 := [(2, 61), (0, x1), (0, x2), (0, x3), (0, x4), (0, x5), (0, (x5 / (rd σ (rd σ 61 6) 1))), (0, (x5 % (rd σ (rd σ 61 6) 1))), u8]) (s_istore dX7_goOn_107 (by decide) rfl) rfl ?_
    refine pGo (s_iload_n dX7_goOn_109 rfl) ?_
    refine pGo (s_iload dX7_goOn_110 rfl) ?_
    refine pGo (s_ishr dX7_goOn_112) ?_
    refine pGo (s_iconst dX7_goOn_113) ?_
    refine pGo (s_iand dX7_goOn_114) ?_
    refine p_ifne (tgt := 183) dX7_goOn_115 (by decide) (g6 c2) (fun c3 => ?_) (fun c4 => ?_)
    · refine pGoL (ls2 := [(2, 61), (0, x1), (0, x2), (0, x3), (0, x4), (0, (x5 + 1)), (0, (x5 / (rd σ (rd σ 61 6) 1))), (0, (x5 % (rd σ (rd σ 61 6) 1))), u8]) (s_iinc dX7_goOn_183 (by decide) rfl rfl) rfl ?_
      refine pGo (s_goto (tgt := 70) dX7_goOn_186 (by decide)) ?_
      exact (k2 c2 c3)
    · refine pGo (s_aload_n dX7_goOn_118 rfl (by decide)) ?_
      refine pGoE (y := 64) (s_getF pc7 fl_X7_18 dX7_goOn_119 (ob_61 hst) rfl (by decide)) (by decide) ?_
      refine pGo (s_iload dX7_goOn_122 rfl) ?_
      refine pGoE (y := (rd σ 64 (x5 % (rd σ (rd σ 61 6) 1)))) (s_iald dX7_goOn_124 (ob_64 hst) (bnd (g7 c2 c4))) rfl ?_
      refine pGo (s_iload_n dX7_goOn_125 rfl) ?_
      refine pGo (s_iconst dX7_goOn_126) ?_
      refine pGo (s_ixor dX7_goOn_127) ?_
      refine pGo (s_iand dX7_goOn_128) ?_
      refine p_ifne (tgt := 183) dX7_goOn_129 (by decide) (g8 c2 c4) (fun c5 => ?_) (fun c6 => ?_)
      · refine pGoL (ls2 := [(2, 61), (0, x1), (0, x2), (0, x3), (0, x4), (0, (x5 + 1)), (0, (x5 / (rd σ (rd σ 61 6) 1))), (0, (x5 % (rd σ (rd σ 61 6) 1))), u8]) (s_iinc dX7_goOn_183 (by decide) rfl rfl) rfl ?_
        refine pGo (s_goto (tgt := 70) dX7_goOn_186 (by decide)) ?_
        exact (k3 c2 c4 c5)
      · refine pGo (s_aload_n dX7_goOn_132 rfl (by decide)) ?_
        refine pGo (s_iload dX7_goOn_133 rfl) ?_
        refine pGo (s_iload dX7_goOn_135 rfl) ?_
        refine p_callV (As := [(0, (x5 / (rd σ (rd σ 61 6) 1))), (0, (x5 % (rd σ (rd σ 61 6) 1)))]) (st := []) (n := 2) (d' := 1) (Q1 := Q1) pc7 ok_X7_startOf ml_X7_92 im_X7_startOf se_X7_startOf dX7_goOn_137 (ob_61 hst) (pargs_of rfl) rfl (Nat.le_of_ble_eq_true rfl) (by omega) (f1 c2 c4 c6) (fun r1 τ1 e1 q1 w1 => ?_)
        obtain ⟨v1, rfl⟩ := w1
        have S1 : Stat τ1 := (Stat.le (σ := σ) hst e1)
        have J1_0 : Inst6 τ1 (rd σ 61 6) := Inst6.le (σ := σ) g1 e1
        show pR mX7_goOn d 140 [(2, 61), (0, x1), (0, x2), (0, x3), (0, x4), (0, x5), (0, (x5 / (rd σ (rd σ 61 6) 1))), (0, (x5 % (rd σ (rd σ 61 6) 1))), u8] [(0, v1)] τ1 Q
        refine pGoL (ls2 := [(2, 61), (0, x1), (0, x2), (0, x3), (0, x4), (0, x5), (0, (x5 / (rd σ (rd σ 61 6) 1))), (0, (x5 % (rd σ (rd σ 61 6) 1))), (0, v1)]) (s_istore dX7_goOn_140 (by decide) rfl) rfl ?_
        refine pGo (s_iload dX7_goOn_142 rfl) ?_
        refine pGo (s_iload_n dX7_goOn_144 rfl) ?_
        refine p_iclt (tgt := 183) dX7_goOn_145 (by decide) (g9 c2 c4 c6 v1 τ1 e1 q1) (g10 c2 c4 c6 v1 τ1 e1 q1) (fun c7 => ?_) (fun c8 => ?_)
        · refine pGoL (ls2 := [(2, 61), (0, x1), (0, x2), (0, x3), (0, x4), (0, (x5 + 1)), (0, (x5 / (rd σ (rd σ 61 6) 1))), (0, (x5 % (rd σ (rd σ 61 6) 1))), (0, v1)]) (s_iinc dX7_goOn_183 (by decide) rfl rfl) rfl ?_
          refine pGo (s_goto (tgt := 70) dX7_goOn_186 (by decide)) ?_
          exact (k4 c2 c4 c6 v1 τ1 e1 q1 c7)
        · refine pGo (s_iload dX7_goOn_148 rfl) ?_
          refine pGo (s_aload_n dX7_goOn_150 rfl (by decide)) ?_
          refine pGoE (y := (rd τ1 61 6)) (s_getR pc7 fl_X7_34 dX7_goOn_151 (ob_61 S1) rfl rfl) rfl ?_
          refine pGo (s_getF pc6 fl_X7_74 dX7_goOn_154 (g11 c2 c4 c6 v1 τ1 e1 q1 c8).o0 rfl (by decide)) ?_
          refine pGo (s_bipush dX7_goOn_157 (by decide)) ?_
          refine pGo (s_iload dX7_goOn_159 rfl) ?_
          refine pGo (s_iadd dX7_goOn_161) ?_
          refine pGoE (y := (rd τ1 ((rd τ1 61 6) + 4) (10 + (x5 % (rd σ (rd σ 61 6) 1))))) (s_iald dX7_goOn_162 (g11 c2 c4 c6 v1 τ1 e1 q1 c8).o4 (bnd (g12 c2 c4 c6 v1 τ1 e1 q1 c8))) rfl ?_
          refine pGo (s_iadd dX7_goOn_163) ?_
          refine pGo (s_aload_n dX7_goOn_164 rfl (by decide)) ?_
          refine pGoE (y := (rd τ1 61 8)) (s_getI pc7 fl_X7_55 dX7_goOn_165 (ob_61 S1) rfl (by decide)) rfl ?_
          refine p_icge (tgt := 183) dX7_goOn_168 (by decide) (g13 c2 c4 c6 v1 τ1 e1 q1 c8) (g14 c2 c4 c6 v1 τ1 e1 q1 c8) (fun c9 => ?_) (fun c10 => ?_)
          · refine pGoL (ls2 := [(2, 61), (0, x1), (0, x2), (0, x3), (0, x4), (0, (x5 + 1)), (0, (x5 / (rd σ (rd σ 61 6) 1))), (0, (x5 % (rd σ (rd σ 61 6) 1))), (0, v1)]) (s_iinc dX7_goOn_183 (by decide) rfl rfl) rfl ?_
            refine pGo (s_goto (tgt := 70) dX7_goOn_186 (by decide)) ?_
            exact (k5 c2 c4 c6 v1 τ1 e1 q1 c8 c9)
          · refine pGo (s_aload_n dX7_goOn_171 rfl (by decide)) ?_
            refine pGo (s_iload dX7_goOn_172 rfl) ?_
            refine pGo (s_iload dX7_goOn_174 rfl) ?_
            refine pGo (s_iload_n dX7_goOn_176 rfl) ?_
            refine pGo (s_iload dX7_goOn_177 rfl) ?_
            refine pGo (s_iload_n dX7_goOn_179 rfl) ?_
            refine p_callS (As := [(2, 61), (0, (x5 / (rd σ (rd σ 61 6) 1))), (0, (x5 % (rd σ (rd σ 61 6) 1))), (0, x1), (0, v1), (0, x3)]) (st := []) (n := 6) (d' := (d - 1)) (Q1 := Q2) ok_X7_goDown ml_X7_95 sm_X7_goDown dX7_goOn_180 (pargs_of rfl) rfl (Nat.le_of_ble_eq_true rfl) (by omega) (f2 c2 c4 c6 v1 τ1 e1 q1 c8 c10) (fun r2 τ2 e2 q2 w2 => ?_)
            obtain rfl : r2 = none := w2
            have S2 : Stat τ2 := (Stat.le (σ := τ1) S1 e2)
            have J2_0 : Inst6 τ2 (rd σ 61 6) := Inst6.le (σ := τ1) J1_0 e2
            have J2_1 : Inst6 τ2 (rd τ1 61 6) := Inst6.le (σ := τ1) (g11 c2 c4 c6 v1 τ1 e1 q1 c8) e2
            show pR mX7_goOn d 183 [(2, 61), (0, x1), (0, x2), (0, x3), (0, x4), (0, x5), (0, (x5 / (rd σ (rd σ 61 6) 1))), (0, (x5 % (rd σ (rd σ 61 6) 1))), (0, v1)] [] τ2 Q
            refine pGoL (ls2 := [(2, 61), (0, x1), (0, x2), (0, x3), (0, x4), (0, (x5 + 1)), (0, (x5 / (rd σ (rd σ 61 6) 1))), (0, (x5 % (rd σ (rd σ 61 6) 1))), (0, v1)]) (s_iinc dX7_goOn_183 (by decide) rfl rfl) rfl ?_
            refine pGo (s_goto (tgt := 70) dX7_goOn_186 (by decide)) ?_
            exact (k6 c2 c4 c6 v1 τ1 e1 q1 c8 c10 τ2 e2 q2)
set_option maxRecDepth 100000 in
theorem g_X7_goDown_0 {d : Nat} {σ : pS} {Q : Option pV → pS → Prop} {Q1 : Option pV → pS → Prop} (hd : 12 ≤ d) (hst : Stat σ) (x2 : Int) (x3 : Int) (x4 : Int) (x5 : Int) (x6 : Int)  (g1 : 0 ≤ x2 ∧ x2 < 2) (g2 : Inst6 σ (rd σ 61 6)) (g3 : 0 ≤ (10 + x3) ∧ (10 + x3) < 17) (g4 : 0 ≤ x3 ∧ x3 < 7) (f1 : pC mX7_goOn (d - 1) [(2, 61), (0, (i_or x4 (i_shl 1 x3))), (0, x5), (0, (x6 + 1))] (wr (wr (wr σ 66 x2 (rd σ ((rd σ 61 6) + 3) (10 + x3))) 67 x2 (x5 + (rd (wr σ 66 x2 (rd σ ((rd σ 61 6) + 3) (10 + x3))) ((rd σ 61 6) + 4) (10 + x3)))) 65 x3 (x5 + (rd (wr σ 66 x2 (rd σ ((rd σ 61 6) + 3) (10 + x3))) ((rd σ 61 6) + 4) (10 + x3)))) Q1) (k1 : ∀ (τ1 : pS) (e1 : pLe (wr (wr (wr σ 66 x2 (rd σ ((rd σ 61 6) + 3) (10 + x3))) 67 x2 (x5 + (rd (wr σ 66 x2 (rd σ ((rd σ 61 6) + 3) (10 + x3))) ((rd σ 61 6) + 4) (10 + x3)))) 65 x3 (x5 + (rd (wr σ 66 x2 (rd σ ((rd σ 61 6) + 3) (10 + x3))) ((rd σ 61 6) + 4) (10 + x3)))) τ1) (q1 : Q1 none τ1), Q none (wr (wr τ1 66 x2 (rd σ 66 x2)) 67 x2 (rd σ 67 x2))) : pC mX7_goDown d [(2, 61), (0, x2), (0, x3), (0, x4), (0, x5), (0, x6)] σ Q := by
  show pR mX7_goDown d 0 [(2, 61), (0, x2), (0, x3), (0, x4), (0, x5), (0, x6), (9, 0), (9, 0)] [] σ Q
  refine pGo (s_aload_n dX7_goDown_0 rfl (by decide)) ?_
  refine pGoE (y := 66) (s_getF pc7 fl_X7_24 dX7_goDown_1 (ob_61 hst) rfl (by decide)) (by decide) ?_
  refine pGo (s_iload_n dX7_goDown_4 rfl) ?_
  refine pGoE (y := (rd σ 66 x2)) (s_iald dX7_goDown_5 (ob_66 hst) (bnd g1)) rfl ?_
  refine pGoL (ls2 := [(2, 61), (0, x2), (0, x3), (0, x4), (0, x5), (0, x6), (0, (rd σ 66 x2)), (9, 0)]) (s_istore dX7_goDown_6 (by decide) rfl) rfl ?_
  refine pGo (s_aload_n dX7_goDown_8 rfl (by decide)) ?_
  refine pGoE (y := 67) (s_getF pc7 fl_X7_27 dX7_goDown_9 (ob_61 hst) rfl (by decide)) (by decide) ?_
  refine pGo (s_iload_n dX7_goDown_12 rfl) ?_
  refine pGoE (y := (rd σ 67 x2)) (s_iald dX7_goDown_13 (ob_67 hst) (bnd g1)) rfl ?_
  refine pGoL (ls2 := [(2, 61), (0, x2), (0, x3), (0, x4), (0, x5), (0, x6), (0, (rd σ 66 x2)), (0, (rd σ 67 x2))]) (s_istore dX7_goDown_14 (by decide) rfl) rfl ?_
  refine pGo (s_aload_n dX7_goDown_16 rfl (by decide)) ?_
  refine pGoE (y := 66) (s_getF pc7 fl_X7_24 dX7_goDown_17 (ob_61 hst) rfl (by decide)) (by decide) ?_
  refine pGo (s_iload_n dX7_goDown_20 rfl) ?_
  refine pGo (s_aload_n dX7_goDown_21 rfl (by decide)) ?_
  refine pGoE (y := (rd σ 61 6)) (s_getR pc7 fl_X7_34 dX7_goDown_22 (ob_61 hst) rfl rfl) rfl ?_
  refine pGo (s_getF pc6 fl_X7_71 dX7_goDown_25 g2.o0 rfl (by decide)) ?_
  refine pGo (s_bipush dX7_goDown_28 (by decide)) ?_
  refine pGo (s_iload_n dX7_goDown_30 rfl) ?_
  refine pGo (s_iadd dX7_goDown_31) ?_
  refine pGoE (y := (rd σ ((rd σ 61 6) + 3) (10 + x3))) (s_iald dX7_goDown_32 g2.o3 (bnd g3)) rfl ?_
  refine pGo (s_iast dX7_goDown_33 (ob_66 hst) (bnd g1)) ?_
  refine pGo (s_aload_n dX7_goDown_34 rfl (by decide)) ?_
  refine pGoE (y := 67) (s_getF pc7 fl_X7_27 dX7_goDown_35 (ob_61 hst) rfl (by decide)) (by decide) ?_
  refine pGo (s_iload_n dX7_goDown_38 rfl) ?_
  refine pGo (s_iload dX7_goDown_39 rfl) ?_
  refine pGo (s_aload_n dX7_goDown_41 rfl (by decide)) ?_
  refine pGoE (y := (rd σ 61 6)) (s_getR pc7 fl_X7_34 dX7_goDown_42 (ob_61 hst) rfl rfl) (rd_wr_a _ (by decide)) ?_
  refine pGo (s_getF pc6 fl_X7_74 dX7_goDown_45 g2.o0 rfl (by decide)) ?_
  refine pGo (s_bipush dX7_goDown_48 (by decide)) ?_
  refine pGo (s_iload_n dX7_goDown_50 rfl) ?_
  refine pGo (s_iadd dX7_goDown_51) ?_
  refine pGoE (y := (rd (wr σ 66 x2 (rd σ ((rd σ 61 6) + 3) (10 + x3))) ((rd σ 61 6) + 4) (10 + x3))) (s_iald dX7_goDown_52 g2.o4 (bnd g3)) rfl ?_
  refine pGo (s_iadd dX7_goDown_53) ?_
  refine pGo (s_iast dX7_goDown_54 (ob_67 hst) (bnd g1)) ?_
  refine pGo (s_aload_n dX7_goDown_55 rfl (by decide)) ?_
  refine pGoE (y := 65) (s_getF pc7 fl_X7_21 dX7_goDown_56 (ob_61 hst) rfl (by decide)) (by decide) ?_
  refine pGo (s_iload_n dX7_goDown_59 rfl) ?_
  refine pGo (s_aload_n dX7_goDown_60 rfl (by decide)) ?_
  refine pGoE (y := 67) (s_getF pc7 fl_X7_27 dX7_goDown_61 (ob_61 hst) rfl (by decide)) (by decide) ?_
  refine pGo (s_iload_n dX7_goDown_64 rfl) ?_
  refine pGoE (y := (x5 + (rd (wr σ 66 x2 (rd σ ((rd σ 61 6) + 3) (10 + x3))) ((rd σ 61 6) + 4) (10 + x3)))) (s_iald dX7_goDown_65 (ob_67 hst) (bnd g1)) (rd_wr_same _ _ _ _) ?_
  refine pGo (s_iast dX7_goDown_66 (ob_65 hst) (bnd g4)) ?_
  refine pGo (s_aload_n dX7_goDown_67 rfl (by decide)) ?_
  refine pGo (s_iload_n dX7_goDown_68 rfl) ?_
  refine pGo (s_iconst dX7_goDown_69) ?_
  refine pGo (s_iload_n dX7_goDown_70 rfl) ?_
  refine pGo (s_ishl dX7_goDown_71) ?_
  refine pGo (s_ior dX7_goDown_72) ?_
  refine pGo (s_iload dX7_goDown_73 rfl) ?_
  refine pGo (s_iload dX7_goDown_75 rfl) ?_
  refine pGo (s_iconst dX7_goDown_77) ?_
  refine pGo (s_iadd dX7_goDown_78) ?_
  refine p_callS (As := [(2, 61), (0, (i_or x4 (i_shl 1 x3))), (0, x5), (0, (x6 + 1))]) (st := []) (n := 4) (d' := (d - 1)) (Q1 := Q1) ok_X7_goOn ml_X7_58 sm_X7_goOn dX7_goDown_79 (pargs_of rfl) rfl (Nat.le_of_ble_eq_true rfl) (by omega) f1 (fun r1 τ1 e1 q1 w1 => ?_)
  obtain rfl : r1 = none := w1
  have S1 : Stat τ1 := (Stat.le (σ := (wr (wr (wr σ 66 x2 (rd σ ((rd σ 61 6) + 3) (10 + x3))) 67 x2 (x5 + (rd (wr σ 66 x2 (rd σ ((rd σ 61 6) + 3) (10 + x3))) ((rd σ 61 6) + 4) (10 + x3)))) 65 x3 (x5 + (rd (wr σ 66 x2 (rd σ ((rd σ 61 6) + 3) (10 + x3))) ((rd σ 61 6) + 4) (10 + x3))))) hst e1)
  have J1_0 : Inst6 τ1 (rd σ 61 6) := Inst6.le (σ := (wr (wr (wr σ 66 x2 (rd σ ((rd σ 61 6) + 3) (10 + x3))) 67 x2 (x5 + (rd (wr σ 66 x2 (rd σ ((rd σ 61 6) + 3) (10 + x3))) ((rd σ 61 6) + 4) (10 + x3)))) 65 x3 (x5 + (rd (wr σ 66 x2 (rd σ ((rd σ 61 6) + 3) (10 + x3))) ((rd σ 61 6) + 4) (10 + x3))))) g2 e1
  show pR mX7_goDown d 82 [(2, 61), (0, x2), (0, x3), (0, x4), (0, x5), (0, x6), (0, (rd σ 66 x2)), (0, (rd σ 67 x2))] [] τ1 Q
  refine pGo (s_aload_n dX7_goDown_82 rfl (by decide)) ?_
  refine pGoE (y := 66) (s_getF pc7 fl_X7_24 dX7_goDown_83 (ob_61 S1) rfl (by decide)) (by decide) ?_
  refine pGo (s_iload_n dX7_goDown_86 rfl) ?_
  refine pGo (s_iload dX7_goDown_87 rfl) ?_
  refine pGo (s_iast dX7_goDown_89 (ob_66 S1) (bnd g1)) ?_
  refine pGo (s_aload_n dX7_goDown_90 rfl (by decide)) ?_
  refine pGoE (y := 67) (s_getF pc7 fl_X7_27 dX7_goDown_91 (ob_61 S1) rfl (by decide)) (by decide) ?_
  refine pGo (s_iload_n dX7_goDown_94 rfl) ?_
  refine pGo (s_iload dX7_goDown_95 rfl) ?_
  refine pGo (s_iast dX7_goDown_97 (ob_67 S1) (bnd g1)) ?_
  exact pEnd (r := none) dX7_goDown_98 rfl (k1 τ1 e1 q1)
set_option maxRecDepth 100000 in
theorem g_X7_least_0 {d : Nat} {σ : pS} {Q : Option pV → pS → Prop} {Q1 : Option pV → pS → Prop} {Q2 : Option pV → pS → Prop} {Q3 : Option pV → pS → Prop} (hd : 45 ≤ d) (hst : Stat σ) (x1 : Int) (x2 : Int)  (g1 : 0 ≤ (((x2 - 1) * 10) + x1) ∧ (((x2 - 1) * 10) + x1) < 20) (g2 : inR (rd σ 62 (((x2 - 1) * 10) + x1))) (k1 : ∀ (c1 : (rd σ 62 (((x2 - 1) * 10) + x1)) ≠ (-2)), Q (some (0, (rd σ 62 (((x2 - 1) * 10) + x1)))) σ) (f1 : ∀ (c2 : (rd σ 62 (((x2 - 1) * 10) + x1)) = (-2)), pC mJ7_fill_53178 0 [(2, 66), (0, x1)] (wr (wr σ 61 7 x2) 61 8 1000000) Q1) (f2 : ∀ (c2 : (rd σ 62 (((x2 - 1) * 10) + x1)) = (-2)) (τ1 : pS) (e1 : pLe (wr (wr σ 61 7 x2) 61 8 1000000) τ1) (q1 : Q1 none τ1), pC mJ7_fill_53178 0 [(2, 67), (0, 0)] τ1 Q2) (f3 : ∀ (c2 : (rd σ 62 (((x2 - 1) * 10) + x1)) = (-2)) (τ1 : pS) (e1 : pLe (wr (wr σ 61 7 x2) 61 8 1000000) τ1) (q1 : Q1 none τ1) (τ2 : pS) (e2 : pLe τ1 τ2) (q2 : Q2 none τ2), pC mX7_goOn (d - 1) [(2, 61), (0, 0), (0, 0), (0, 0)] τ2 Q3) (g3 : ∀ (c2 : (rd σ 62 (((x2 - 1) * 10) + x1)) = (-2)) (τ1 : pS) (e1 : pLe (wr (wr σ 61 7 x2) 61 8 1000000) τ1) (q1 : Q1 none τ1) (τ2 : pS) (e2 : pLe τ1 τ2) (q2 : Q2 none τ2) (τ3 : pS) (e3 : pLe τ2 τ3) (q3 : Q3 none τ3), inR (rd τ3 61 8)) (k2 : ∀ (c2 : (rd σ 62 (((x2 - 1) * 10) + x1)) = (-2)) (τ1 : pS) (e1 : pLe (wr (wr σ 61 7 x2) 61 8 1000000) τ1) (q1 : Q1 none τ1) (τ2 : pS) (e2 : pLe τ1 τ2) (q2 : Q2 none τ2) (τ3 : pS) (e3 : pLe τ2 τ3) (q3 : Q3 none τ3) (c3 : (rd τ3 61 8) ≠ 1000000), Q (some (0, (rd τ3 61 8))) (wr τ3 62 (((x2 - 1) * 10) + x1) (rd τ3 61 8))) (k3 : ∀ (c2 : (rd σ 62 (((x2 - 1) * 10) + x1)) = (-2)) (τ1 : pS) (e1 : pLe (wr (wr σ 61 7 x2) 61 8 1000000) τ1) (q1 : Q1 none τ1) (τ2 : pS) (e2 : pLe τ1 τ2) (q2 : Q2 none τ2) (τ3 : pS) (e3 : pLe τ2 τ3) (q3 : Q3 none τ3) (c4 : (rd τ3 61 8) = 1000000), Q (some (0, (-1))) (wr τ3 62 (((x2 - 1) * 10) + x1) (-1))) : pC mX7_least d [(2, 61), (0, x1), (0, x2)] σ Q := by
  show pR mX7_least d 0 [(2, 61), (0, x1), (0, x2), (9, 0)] [] σ Q
  refine pGo (s_iload_n dX7_least_0 rfl) ?_
  refine pGo (s_iconst dX7_least_1) ?_
  refine pGo (s_isub dX7_least_2) ?_
  refine pGo (s_bipush dX7_least_3 (by decide)) ?_
  refine pGo (s_imul dX7_least_5) ?_
  refine pGo (s_iload_n dX7_least_6 rfl) ?_
  refine pGo (s_iadd dX7_least_7) ?_
  refine pGoL (ls2 := [(2, 61), (0, x1), (0, x2), (0, (((x2 - 1) * 10) + x1))]) (s_istore_n dX7_least_8 (by decide) rfl) rfl ?_
  refine pGo (s_aload_n dX7_least_9 rfl (by decide)) ?_
  refine pGoE (y := 62) (s_getF pc7 fl_X7_9 dX7_least_10 (ob_61 hst) rfl (by decide)) (by decide) ?_
  refine pGo (s_iload_n dX7_least_13 rfl) ?_
  refine pGoE (y := (rd σ 62 (((x2 - 1) * 10) + x1))) (s_iald dX7_least_14 (ob_62 hst) (bnd g1)) rfl ?_
  refine pGo (s_bipush dX7_least_15 (by decide)) ?_
  refine p_icne (tgt := 77) dX7_least_17 (by decide) g2 (by decide) (fun c1 => ?_) (fun c2 => ?_)
  · refine pGo (s_aload_n dX7_least_77 rfl (by decide)) ?_
    refine pGoE (y := 62) (s_getF pc7 fl_X7_9 dX7_least_78 (ob_61 hst) rfl (by decide)) (by decide) ?_
    refine pGo (s_iload_n dX7_least_81 rfl) ?_
    refine pGoE (y := (rd σ 62 (((x2 - 1) * 10) + x1))) (s_iald dX7_least_82 (ob_62 hst) (bnd g1)) rfl ?_
    exact pEnd (r := (some (0, (rd σ 62 (((x2 - 1) * 10) + x1))))) dX7_least_83 ⟨_, rfl⟩ (k1 c1)
  · refine pGo (s_aload_n dX7_least_20 rfl (by decide)) ?_
    refine pGo (s_iload_n dX7_least_21 rfl) ?_
    refine pGo (s_putI pc7 fl_X7_50 dX7_least_22 (ob_61 hst) rfl rfl rfl rfl) ?_
    refine pGo (s_aload_n dX7_least_25 rfl (by decide)) ?_
    refine pGo (s_ldc (n := 1000000) dX7_least_26 kc_X7_54 (by decide)) ?_
    refine pGo (s_putI pc7 fl_X7_55 dX7_least_28 (ob_61 hst) rfl rfl rfl rfl) ?_
    refine pGo (s_aload_n dX7_least_31 rfl (by decide)) ?_
    refine pGoE (y := 66) (s_getF pc7 fl_X7_24 dX7_least_32 (ob_61 hst) rfl (by decide)) (by decide) ?_
    refine pGo (s_iload_n dX7_least_35 rfl) ?_
    refine p_callS (As := [(2, 66), (0, x1)]) (st := []) (n := 2) (d' := 0) (Q1 := Q1) ok_J7_fill_53178 ml_X7_38 sm_J7_fill_53178 dX7_least_36 (pargs_of rfl) rfl (Nat.le_of_ble_eq_true rfl) (by omega) (f1 c2) (fun r1 τ1 e1 q1 w1 => ?_)
    obtain rfl : r1 = none := w1
    have S1 : Stat τ1 := (Stat.le (σ := (wr (wr σ 61 7 x2) 61 8 1000000)) hst e1)
    show pR mX7_least d 39 [(2, 61), (0, x1), (0, x2), (0, (((x2 - 1) * 10) + x1))] [] τ1 Q
    refine pGo (s_aload_n dX7_least_39 rfl (by decide)) ?_
    refine pGoE (y := 67) (s_getF pc7 fl_X7_27 dX7_least_40 (ob_61 S1) rfl (by decide)) (by decide) ?_
    refine pGo (s_iconst dX7_least_43) ?_
    refine p_callS (As := [(2, 67), (0, 0)]) (st := []) (n := 2) (d' := 0) (Q1 := Q2) ok_J7_fill_53178 ml_X7_38 sm_J7_fill_53178 dX7_least_44 (pargs_of rfl) rfl (Nat.le_of_ble_eq_true rfl) (by omega) (f2 c2 τ1 e1 q1) (fun r2 τ2 e2 q2 w2 => ?_)
    obtain rfl : r2 = none := w2
    have S2 : Stat τ2 := (Stat.le (σ := τ1) S1 e2)
    show pR mX7_least d 47 [(2, 61), (0, x1), (0, x2), (0, (((x2 - 1) * 10) + x1))] [] τ2 Q
    refine pGo (s_aload_n dX7_least_47 rfl (by decide)) ?_
    refine pGo (s_iconst dX7_least_48) ?_
    refine pGo (s_iconst dX7_least_49) ?_
    refine pGo (s_iconst dX7_least_50) ?_
    refine p_callS (As := [(2, 61), (0, 0), (0, 0), (0, 0)]) (st := []) (n := 4) (d' := (d - 1)) (Q1 := Q3) ok_X7_goOn ml_X7_58 sm_X7_goOn dX7_least_51 (pargs_of rfl) rfl (Nat.le_of_ble_eq_true rfl) (by omega) (f3 c2 τ1 e1 q1 τ2 e2 q2) (fun r3 τ3 e3 q3 w3 => ?_)
    obtain rfl : r3 = none := w3
    have S3 : Stat τ3 := (Stat.le (σ := τ2) S2 e3)
    show pR mX7_least d 54 [(2, 61), (0, x1), (0, x2), (0, (((x2 - 1) * 10) + x1))] [] τ3 Q
    refine pGo (s_aload_n dX7_least_54 rfl (by decide)) ?_
    refine pGoE (y := 62) (s_getF pc7 fl_X7_9 dX7_least_55 (ob_61 S3) rfl (by decide)) (by decide) ?_
    refine pGo (s_iload_n dX7_least_58 rfl) ?_
    refine pGo (s_aload_n dX7_least_59 rfl (by decide)) ?_
    refine pGoE (y := (rd τ3 61 8)) (s_getI pc7 fl_X7_55 dX7_least_60 (ob_61 S3) rfl (by decide)) rfl ?_
    refine pGo (s_ldc (n := 1000000) dX7_least_63 kc_X7_54 (by decide)) ?_
    refine p_icne (tgt := 72) dX7_least_65 (by decide) (g3 c2 τ1 e1 q1 τ2 e2 q2 τ3 e3 q3) (by decide) (fun c3 => ?_) (fun c4 => ?_)
    · refine pGo (s_aload_n dX7_least_72 rfl (by decide)) ?_
      refine pGoE (y := (rd τ3 61 8)) (s_getI pc7 fl_X7_55 dX7_least_73 (ob_61 S3) rfl (by decide)) rfl ?_
      refine pGo (s_iast dX7_least_76 (ob_62 S3) (bnd g1)) ?_
      refine pGo (s_aload_n dX7_least_77 rfl (by decide)) ?_
      refine pGoE (y := 62) (s_getF pc7 fl_X7_9 dX7_least_78 (ob_61 S3) rfl (by decide)) (by decide) ?_
      refine pGo (s_iload_n dX7_least_81 rfl) ?_
      refine pGoE (y := (rd τ3 61 8)) (s_iald dX7_least_82 (ob_62 S3) (bnd g1)) (rd_wr_same _ _ _ _) ?_
      exact pEnd (r := (some (0, (rd τ3 61 8)))) dX7_least_83 ⟨_, rfl⟩ (k2 c2 τ1 e1 q1 τ2 e2 q2 τ3 e3 q3 c3)
    · refine pGo (s_iconst dX7_least_68) ?_
      refine pGo (s_goto (tgt := 76) dX7_least_69 (by decide)) ?_
      refine pGo (s_iast dX7_least_76 (ob_62 S3) (bnd g1)) ?_
      refine pGo (s_aload_n dX7_least_77 rfl (by decide)) ?_
      refine pGoE (y := 62) (s_getF pc7 fl_X7_9 dX7_least_78 (ob_61 S3) rfl (by decide)) (by decide) ?_
      refine pGo (s_iload_n dX7_least_81 rfl) ?_
      refine pGoE (y := (-1)) (s_iald dX7_least_82 (ob_62 S3) (bnd g1)) (rd_wr_same _ _ _ _) ?_
      exact pEnd (r := (some (0, (-1)))) dX7_least_83 ⟨_, rfl⟩ (k3 c2 τ1 e1 q1 τ2 e2 q2 τ3 e3 q3 c4)
set_option maxRecDepth 100000 in
theorem g_X10_sweep_0 {d : Nat} {σ : pS} {Q : Option pV → pS → Prop} {Q1 : Option pV → pS → Prop} (hd : 46 ≤ d) (hst : Stat σ) (x1 : Int) (x2 : Int)  (f1 : pC mX10_within 0 [(0, x1), (0, 10)] σ (fun r τ => r = some (0, b2i (vWithin x1 10)) ∧ τ = σ)) (k1 : ∀ (c1 : (vWithin x1 10) = false), Q (some (0, (-1))) σ) (g1 : ∀ (c2 : (vWithin x1 10) = true), inR x2) (k2 : ∀ (c2 : (vWithin x1 10) = true) (c3 : x2 < 1), Q (some (0, (-1))) σ) (f2 : ∀ (c2 : (vWithin x1 10) = true) (c4 : 1 ≤ x2) (c5 : x2 ≤ 2), pC mX7_least 45 [(2, 61), (0, x1), (0, x2)] σ Q1) (k3 : ∀ (c2 : (vWithin x1 10) = true) (c4 : 1 ≤ x2) (c5 : x2 ≤ 2) (v2 : Int) (τ2 : pS) (e2 : pLe σ τ2) (q2 : Q1 (some (0, v2)) τ2), Q (some (0, v2)) τ2) (k4 : ∀ (c2 : (vWithin x1 10) = true) (c4 : 1 ≤ x2) (c6 : 2 < x2), Q (some (0, (-1))) σ) : pC mX10_sweep d [(2, 0), (0, x1), (0, x2)] σ Q := by
  show pR mX10_sweep d 0 [(2, 0), (0, x1), (0, x2)] [] σ Q
  refine pGo (s_iload_n dX10_sweep_0 rfl) ?_
  refine pGo (s_bipush dX10_sweep_1 (by decide)) ?_
  refine p_callS (As := [(0, x1), (0, 10)]) (st := []) (n := 2) (d' := 0) (Q1 := (fun r τ => r = some (0, b2i (vWithin x1 10)) ∧ τ = σ)) ok_X10_within ml_X10_138 sm_X10_within dX10_sweep_3 (pargs_of rfl) rfl (Nat.le_of_ble_eq_true rfl) (by omega) f1 (fun r1 τ1 e1 q1 w1 => ?_)
  obtain ⟨rfl, t1⟩ := q1
  rw [t1]
  show pR mX10_sweep d 6 [(2, 0), (0, x1), (0, x2)] [(0, (b2i (vWithin x1 10)))] σ Q
  refine p_ifeqB (tgt := 19) dX10_sweep_6 (by decide) (fun c1 => ?_) (fun c2 => ?_)
  · refine pGo (s_iconst dX10_sweep_19) ?_
    exact pEnd (r := (some (0, (-1)))) dX10_sweep_20 ⟨_, rfl⟩ (k1 c1)
  · refine pGo (s_iload_n dX10_sweep_9 rfl) ?_
    refine pGo (s_iconst dX10_sweep_10) ?_
    refine p_iclt (tgt := 19) dX10_sweep_11 (by decide) (g1 c2) (by decide) (fun c3 => ?_) (fun c4 => ?_)
    · refine pGo (s_iconst dX10_sweep_19) ?_
      exact pEnd (r := (some (0, (-1)))) dX10_sweep_20 ⟨_, rfl⟩ (k2 c2 c3)
    · refine pGo (s_iload_n dX10_sweep_14 rfl) ?_
      refine pGo (s_iconst dX10_sweep_15) ?_
      refine p_icle (tgt := 21) dX10_sweep_16 (by decide) (g1 c2) (by decide) (fun c5 => ?_) (fun c6 => ?_)
      · refine pGo (s_aload_n dX10_sweep_21 rfl (by decide)) ?_
        refine pGoE (y := 61) (s_getF pc10 fl_X10_93 dX10_sweep_22 (ob_0 hst) rfl (by decide)) (by decide) ?_
        refine pGo (s_iload_n dX10_sweep_25 rfl) ?_
        refine pGo (s_iload_n dX10_sweep_26 rfl) ?_
        refine p_callV (As := [(0, x1), (0, x2)]) (st := []) (n := 2) (d' := 45) (Q1 := Q1) pc7 ok_X7_least ml_X10_254 im_X7_least se_X7_least dX10_sweep_27 (ob_61 hst) (pargs_of rfl) rfl (Nat.le_of_ble_eq_true rfl) (by omega) (f2 c2 c4 c5) (fun r2 τ2 e2 q2 w2 => ?_)
        obtain ⟨v2, rfl⟩ := w2
        have S2 : Stat τ2 := (Stat.le (σ := σ) hst e2)
        show pR mX10_sweep d 30 [(2, 0), (0, x1), (0, x2)] [(0, v2)] τ2 Q
        exact pEnd (r := (some (0, v2))) dX10_sweep_30 ⟨_, rfl⟩ (k3 c2 c4 c5 v2 τ2 e2 q2)
      · refine pGo (s_iconst dX10_sweep_19) ?_
        exact pEnd (r := (some (0, (-1)))) dX10_sweep_20 ⟨_, rfl⟩ (k4 c2 c4 c6)
