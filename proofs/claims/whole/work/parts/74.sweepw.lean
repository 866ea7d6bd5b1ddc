/-! walks: the reference sweeps -/
set_option maxRecDepth 100000 in
theorem g_X11_readyAt_0 {d : Nat} {σ : pS} {Q : Option pV → pS → Prop} (hd : 0 ≤ d) (hst : Stat σ) (x1 : Int)  (k1 : pR mX11_readyAt d 4 [(2, 68), (0, x1), (0, 0), (0, 0)] [] σ Q) : pC mX11_readyAt d [(2, 68), (0, x1)] σ Q := by
  show pR mX11_readyAt d 0 [(2, 68), (0, x1), (9, 0), (9, 0)] [] σ Q
  refine pGo (s_iconst dX11_readyAt_0) ?_
  refine pGoL (ls2 := [(2, 68), (0, x1), (0, 0), (9, 0)]) (s_istore_n dX11_readyAt_1 (by decide) rfl) rfl ?_
  refine pGo (s_iconst dX11_readyAt_2) ?_
  refine pGoL (ls2 := [(2, 68), (0, x1), (0, 0), (0, 0)]) (s_istore_n dX11_readyAt_3 (by decide) rfl) rfl ?_
  exact k1
set_option maxRecDepth 100000 in
theorem g_X11_readyAt_4 {d : Nat} {σ : pS} {Q : Option pV → pS → Prop} (hd : 0 ≤ d) (hst : Stat σ) (x1 : Int) (x2 : Int) (x3 : Int)  (g1 : inR x3) (g2 : inR (rd σ 68 31)) (k1 : ∀ (c1 : (rd σ 68 31) ≤ x3), Q (some (0, x2)) σ) (g3 : ∀ (c2 : x3 < (rd σ 68 31)), 0 ≤ (6 + x3) ∧ (6 + x3) < 13) (g4 : ∀ (c2 : x3 < (rd σ 68 31)), 0 ≤ (6 + x1) ∧ (6 + x1) < 13) (g5 : ∀ (c2 : x3 < (rd σ 68 31)), inR (rd σ 78 (6 + x3))) (g6 : ∀ (c2 : x3 < (rd σ 68 31)), inR (rd σ 77 (6 + x1))) (g7 : ∀ (c2 : x3 < (rd σ 68 31)) (c3 : (rd σ 78 (6 + x3)) = (rd σ 77 (6 + x1))), 0 ≤ x3 ∧ x3 < 7) (g8 : ∀ (c2 : x3 < (rd σ 68 31)) (c3 : (rd σ 78 (6 + x3)) = (rd σ 77 (6 + x1))), inR (rd σ 139 x3)) (g9 : ∀ (c2 : x3 < (rd σ 68 31)) (c3 : (rd σ 78 (6 + x3)) = (rd σ 77 (6 + x1))) (c5 : 0 ≤ (rd σ 139 x3)), inR x2) (k2 : ∀ (c2 : x3 < (rd σ 68 31)) (c3 : (rd σ 78 (6 + x3)) = (rd σ 77 (6 + x1))) (c5 : 0 ≤ (rd σ 139 x3)) (c7 : (rd σ 139 x3) ≤ x2), pR mX11_readyAt d 4 [(2, 68), (0, x1), (0, x2), (0, (x3 + 1))] [] σ Q) (k3 : ∀ (c2 : x3 < (rd σ 68 31)) (c3 : (rd σ 78 (6 + x3)) = (rd σ 77 (6 + x1))) (c5 : 0 ≤ (rd σ 139 x3)) (c8 : x2 < (rd σ 139 x3)), pR mX11_readyAt d 4 [(2, 68), (0, x1), (0, (rd σ 139 x3)), (0, (x3 + 1))] [] σ Q) (k4 : ∀ (c2 : x3 < (rd σ 68 31)) (c3 : (rd σ 78 (6 + x3)) = (rd σ 77 (6 + x1))) (c6 : (rd σ 139 x3) < 0), Q (some (0, (-1))) σ) (k5 : ∀ (c2 : x3 < (rd σ 68 31)) (c4 : (rd σ 78 (6 + x3)) ≠ (rd σ 77 (6 + x1))), pR mX11_readyAt d 4 [(2, 68), (0, x1), (0, x2), (0, (x3 + 1))] [] σ Q) : pR mX11_readyAt d 4 [(2, 68), (0, x1), (0, x2), (0, x3)] [] σ Q := by
  refine pGo (s_iload_n dX11_readyAt_4 rfl) ?_
  refine pGo (s_aload_n dX11_readyAt_5 rfl (by decide)) ?_
  refine pGoE (y := (rd σ 68 31)) (s_getI pc11 fl_X11_369 dX11_readyAt_6 (ob_68 hst) rfl (by decide)) rfl ?_
  refine p_icge (tgt := 74) dX11_readyAt_9 (by decide) g1 g2 (fun c1 => ?_) (fun c2 => ?_)
  · refine pGo (s_iload_n dX11_readyAt_74 rfl) ?_
    exact pEnd (r := (some (0, x2))) dX11_readyAt_75 ⟨_, rfl⟩ (k1 c1)
  · refine pGo (s_aload_n dX11_readyAt_12 rfl (by decide)) ?_
    refine pGoE (y := 78) (s_getF pc11 fl_X11_42 dX11_readyAt_13 (ob_68 hst) rfl (by decide)) (by decide) ?_
    refine pGo (s_bipush dX11_readyAt_16 (by decide)) ?_
    refine pGo (s_iload_n dX11_readyAt_18 rfl) ?_
    refine pGo (s_iadd dX11_readyAt_19) ?_
    refine pGoE (y := (rd σ 78 (6 + x3))) (s_iald dX11_readyAt_20 (ob_78 hst) (bnd (g3 c2))) rfl ?_
    refine pGo (s_aload_n dX11_readyAt_21 rfl (by decide)) ?_
    refine pGoE (y := 77) (s_getF pc11 fl_X11_39 dX11_readyAt_22 (ob_68 hst) rfl (by decide)) (by decide) ?_
    refine pGo (s_bipush dX11_readyAt_25 (by decide)) ?_
    refine pGo (s_iload_n dX11_readyAt_27 rfl) ?_
    refine pGo (s_iadd dX11_readyAt_28) ?_
    refine pGoE (y := (rd σ 77 (6 + x1))) (s_iald dX11_readyAt_29 (ob_77 hst) (bnd (g4 c2))) rfl ?_
    refine p_iceq (tgt := 36) dX11_readyAt_30 (by decide) (g5 c2) (g6 c2) (fun c3 => ?_) (fun c4 => ?_)
    · refine pGo (s_aload_n dX11_readyAt_36 rfl (by decide)) ?_
      refine pGoE (y := 139) (s_getF pc11 fl_X11_226 dX11_readyAt_37 (ob_68 hst) rfl (by decide)) (by decide) ?_
      refine pGo (s_iload_n dX11_readyAt_40 rfl) ?_
      refine pGoE (y := (rd σ 139 x3)) (s_iald dX11_readyAt_41 (ob_139 hst) (bnd (g7 c2 c3))) rfl ?_
      refine p_ifge (tgt := 47) dX11_readyAt_42 (by decide) (g8 c2 c3) (fun c5 => ?_) (fun c6 => ?_)
      · refine pGo (s_aload_n dX11_readyAt_47 rfl (by decide)) ?_
        refine pGoE (y := 139) (s_getF pc11 fl_X11_226 dX11_readyAt_48 (ob_68 hst) rfl (by decide)) (by decide) ?_
        refine pGo (s_iload_n dX11_readyAt_51 rfl) ?_
        refine pGoE (y := (rd σ 139 x3)) (s_iald dX11_readyAt_52 (ob_139 hst) (bnd (g7 c2 c3))) rfl ?_
        refine pGo (s_iload_n dX11_readyAt_53 rfl) ?_
        refine p_icle (tgt := 66) dX11_readyAt_54 (by decide) (g8 c2 c3) (g9 c2 c3 c5) (fun c7 => ?_) (fun c8 => ?_)
        · refine pGo (s_iload_n dX11_readyAt_66 rfl) ?_
          refine pGoL (ls2 := [(2, 68), (0, x1), (0, x2), (0, x3)]) (s_istore_n dX11_readyAt_67 (by decide) rfl) rfl ?_
          refine pGoL (ls2 := [(2, 68), (0, x1), (0, x2), (0, (x3 + 1))]) (s_iinc dX11_readyAt_68 (by decide) rfl rfl) rfl ?_
          refine pGo (s_goto (tgt := 4) dX11_readyAt_71 (by decide)) ?_
          exact (k2 c2 c3 c5 c7)
        · refine pGo (s_aload_n dX11_readyAt_57 rfl (by decide)) ?_
          refine pGoE (y := 139) (s_getF pc11 fl_X11_226 dX11_readyAt_58 (ob_68 hst) rfl (by decide)) (by decide) ?_
          refine pGo (s_iload_n dX11_readyAt_61 rfl) ?_
          refine pGoE (y := (rd σ 139 x3)) (s_iald dX11_readyAt_62 (ob_139 hst) (bnd (g7 c2 c3))) rfl ?_
          refine pGo (s_goto (tgt := 67) dX11_readyAt_63 (by decide)) ?_
          refine pGoL (ls2 := [(2, 68), (0, x1), (0, (rd σ 139 x3)), (0, x3)]) (s_istore_n dX11_readyAt_67 (by decide) rfl) rfl ?_
          refine pGoL (ls2 := [(2, 68), (0, x1), (0, (rd σ 139 x3)), (0, (x3 + 1))]) (s_iinc dX11_readyAt_68 (by decide) rfl rfl) rfl ?_
          refine pGo (s_goto (tgt := 4) dX11_readyAt_71 (by decide)) ?_
          exact (k3 c2 c3 c5 c8)
      · refine pGo (s_iconst dX11_readyAt_45) ?_
        exact pEnd (r := (some (0, (-1)))) dX11_readyAt_46 ⟨_, rfl⟩ (k4 c2 c3 c6)
    · refine pGo (s_goto (tgt := 68) dX11_readyAt_33 (by decide)) ?_
      refine pGoL (ls2 := [(2, 68), (0, x1), (0, x2), (0, (x3 + 1))]) (s_iinc dX11_readyAt_68 (by decide) rfl rfl) rfl ?_
      refine pGo (s_goto (tgt := 4) dX11_readyAt_71 (by decide)) ?_
      exact (k5 c2 c4)
set_option maxRecDepth 100000 in
theorem g_X11_goesOn_0 {d : Nat} {σ : pS} {Q : Option pV → pS → Prop} {Q1 : Option pV → pS → Prop} {Q2 : Option pV → pS → Prop} (hd : 1 ≤ d) (hst : Stat σ) (x1 : Int) (x2 : Int) (x3 : Int)  (g1 : 0 ≤ x1 ∧ x1 < 8) (g2 : 0 ≤ (rd σ 138 x1) ∧ (rd σ 138 x1) < 2147483648) (g3 : inR ((rd σ 138 x1) % 2)) (g4 : ∀ (c1 : ((rd σ 138 x1) % 2) ≠ 1), 0 ≤ ((rd σ 138 x1) / 2) ∧ ((rd σ 138 x1) / 2) < 7) (g5 : ∀ (c1 : ((rd σ 138 x1) % 2) ≠ 1), inR (rd σ 139 ((rd σ 138 x1) / 2))) (f1 : ∀ (c1 : ((rd σ 138 x1) % 2) ≠ 1) (c3 : (rd σ 139 ((rd σ 138 x1) / 2)) < 0), pC mX11_readyAt 0 [(2, 68), (0, ((rd σ 138 x1) / 2))] σ Q1) (g6 : ∀ (c1 : ((rd σ 138 x1) % 2) ≠ 1) (c3 : (rd σ 139 ((rd σ 138 x1) / 2)) < 0) (v1 : Int) (τ1 : pS) (e1 : pLe σ τ1) (q1 : Q1 (some (0, v1)) τ1), 0 ≤ (6 + ((rd σ 138 x1) / 2)) ∧ (6 + ((rd σ 138 x1) / 2)) < 13) (g7 : ∀ (c1 : ((rd σ 138 x1) % 2) ≠ 1) (c3 : (rd σ 139 ((rd σ 138 x1) / 2)) < 0) (v1 : Int) (τ1 : pS) (e1 : pLe σ τ1) (q1 : Q1 (some (0, v1)) τ1), 0 ≤ ((10 * (rd τ1 134 x1)) + (rd τ1 77 (6 + ((rd σ 138 x1) / 2)))) ∧ ((10 * (rd τ1 134 x1)) + (rd τ1 77 (6 + ((rd σ 138 x1) / 2)))) < 100) (g8 : ∀ (c1 : ((rd σ 138 x1) % 2) ≠ 1) (c3 : (rd σ 139 ((rd σ 138 x1) / 2)) < 0) (v1 : Int) (τ1 : pS) (e1 : pLe σ τ1) (q1 : Q1 (some (0, v1)) τ1), inR v1) (k1 : ∀ (c1 : ((rd σ 138 x1) % 2) ≠ 1) (c3 : (rd σ 139 ((rd σ 138 x1) / 2)) < 0) (v1 : Int) (τ1 : pS) (e1 : pLe σ τ1) (q1 : Q1 (some (0, v1)) τ1) (c5 : v1 < 0), Q (some (0, 0)) τ1) (g9 : ∀ (c1 : ((rd σ 138 x1) % 2) ≠ 1) (c3 : (rd σ 139 ((rd σ 138 x1) / 2)) < 0) (v1 : Int) (τ1 : pS) (e1 : pLe σ τ1) (q1 : Q1 (some (0, v1)) τ1) (c6 : 0 ≤ v1), inR (rd τ1 133 ((10 * (rd τ1 134 x1)) + (rd τ1 77 (6 + ((rd σ 138 x1) / 2)))))) (g10 : ∀ (c1 : ((rd σ 138 x1) % 2) ≠ 1) (c3 : (rd σ 139 ((rd σ 138 x1) / 2)) < 0) (v1 : Int) (τ1 : pS) (e1 : pLe σ τ1) (q1 : Q1 (some (0, v1)) τ1) (c6 : 0 ≤ v1) (c7 : (rd τ1 133 ((10 * (rd τ1 134 x1)) + (rd τ1 77 (6 + ((rd σ 138 x1) / 2))))) < 1000000), inR ((rd τ1 136 x1) + (rd τ1 133 ((10 * (rd τ1 134 x1)) + (rd τ1 77 (6 + ((rd σ 138 x1) / 2))))))) (g11 : ∀ (c1 : ((rd σ 138 x1) % 2) ≠ 1) (c3 : (rd σ 139 ((rd σ 138 x1) / 2)) < 0) (v1 : Int) (τ1 : pS) (e1 : pLe σ τ1) (q1 : Q1 (some (0, v1)) τ1) (c6 : 0 ≤ v1) (c7 : (rd τ1 133 ((10 * (rd τ1 134 x1)) + (rd τ1 77 (6 + ((rd σ 138 x1) / 2))))) < 1000000) (c9 : ((rd τ1 136 x1) + (rd τ1 133 ((10 * (rd τ1 134 x1)) + (rd τ1 77 (6 + ((rd σ 138 x1) / 2)))))) ≤ v1), inR x3) (g12 : ∀ (c1 : ((rd σ 138 x1) % 2) ≠ 1) (c3 : (rd σ 139 ((rd σ 138 x1) / 2)) < 0) (v1 : Int) (τ1 : pS) (e1 : pLe σ τ1) (q1 : Q1 (some (0, v1)) τ1) (c6 : 0 ≤ v1) (c7 : (rd τ1 133 ((10 * (rd τ1 134 x1)) + (rd τ1 77 (6 + ((rd σ 138 x1) / 2))))) < 1000000) (c9 : ((rd τ1 136 x1) + (rd τ1 133 ((10 * (rd τ1 134 x1)) + (rd τ1 77 (6 + ((rd σ 138 x1) / 2)))))) ≤ v1) (c11 : x3 < 0), 0 ≤ (x1 + 1) ∧ (x1 + 1) < 8) (k2 : ∀ (c1 : ((rd σ 138 x1) % 2) ≠ 1) (c3 : (rd σ 139 ((rd σ 138 x1) / 2)) < 0) (v1 : Int) (τ1 : pS) (e1 : pLe σ τ1) (q1 : Q1 (some (0, v1)) τ1) (c6 : 0 ≤ v1) (c7 : (rd τ1 133 ((10 * (rd τ1 134 x1)) + (rd τ1 77 (6 + ((rd σ 138 x1) / 2))))) < 1000000) (c9 : ((rd τ1 136 x1) + (rd τ1 133 ((10 * (rd τ1 134 x1)) + (rd τ1 77 (6 + ((rd σ 138 x1) / 2)))))) ≤ v1) (c11 : x3 < 0), Q (some (0, 1)) (wr (wr (wr (wr (wr (wr τ1 139 ((rd σ 138 x1) / 2) (v1 + (rd τ1 79 (6 + ((rd σ 138 x1) / 2))))) 140 x1 ((rd σ 138 x1) / 2)) 134 (x1 + 1) (rd τ1 78 (6 + ((rd σ 138 x1) / 2)))) 135 (x1 + 1) (rd τ1 135 x1)) 136 (x1 + 1) (v1 + (rd τ1 79 (6 + ((rd σ 138 x1) / 2))))) 137 (x1 + 1) (rd τ1 137 x1))) (g13 : ∀ (c1 : ((rd σ 138 x1) % 2) ≠ 1) (c3 : (rd σ 139 ((rd σ 138 x1) / 2)) < 0) (v1 : Int) (τ1 : pS) (e1 : pLe σ τ1) (q1 : Q1 (some (0, v1)) τ1) (c6 : 0 ≤ v1) (c7 : (rd τ1 133 ((10 * (rd τ1 134 x1)) + (rd τ1 77 (6 + ((rd σ 138 x1) / 2))))) < 1000000) (c9 : ((rd τ1 136 x1) + (rd τ1 133 ((10 * (rd τ1 134 x1)) + (rd τ1 77 (6 + ((rd σ 138 x1) / 2)))))) ≤ v1) (c12 : 0 ≤ x3), inR (v1 + (rd τ1 79 (6 + ((rd σ 138 x1) / 2))))) (g14 : ∀ (c1 : ((rd σ 138 x1) % 2) ≠ 1) (c3 : (rd σ 139 ((rd σ 138 x1) / 2)) < 0) (v1 : Int) (τ1 : pS) (e1 : pLe σ τ1) (q1 : Q1 (some (0, v1)) τ1) (c6 : 0 ≤ v1) (c7 : (rd τ1 133 ((10 * (rd τ1 134 x1)) + (rd τ1 77 (6 + ((rd σ 138 x1) / 2))))) < 1000000) (c9 : ((rd τ1 136 x1) + (rd τ1 133 ((10 * (rd τ1 134 x1)) + (rd τ1 77 (6 + ((rd σ 138 x1) / 2)))))) ≤ v1) (c12 : 0 ≤ x3) (c13 : (v1 + (rd τ1 79 (6 + ((rd σ 138 x1) / 2)))) < x3), 0 ≤ (x1 + 1) ∧ (x1 + 1) < 8) (k3 : ∀ (c1 : ((rd σ 138 x1) % 2) ≠ 1) (c3 : (rd σ 139 ((rd σ 138 x1) / 2)) < 0) (v1 : Int) (τ1 : pS) (e1 : pLe σ τ1) (q1 : Q1 (some (0, v1)) τ1) (c6 : 0 ≤ v1) (c7 : (rd τ1 133 ((10 * (rd τ1 134 x1)) + (rd τ1 77 (6 + ((rd σ 138 x1) / 2))))) < 1000000) (c9 : ((rd τ1 136 x1) + (rd τ1 133 ((10 * (rd τ1 134 x1)) + (rd τ1 77 (6 + ((rd σ 138 x1) / 2)))))) ≤ v1) (c12 : 0 ≤ x3) (c13 : (v1 + (rd τ1 79 (6 + ((rd σ 138 x1) / 2)))) < x3), Q (some (0, 1)) (wr (wr (wr (wr (wr (wr τ1 139 ((rd σ 138 x1) / 2) (v1 + (rd τ1 79 (6 + ((rd σ 138 x1) / 2))))) 140 x1 ((rd σ 138 x1) / 2)) 134 (x1 + 1) (rd τ1 78 (6 + ((rd σ 138 x1) / 2)))) 135 (x1 + 1) (rd τ1 135 x1)) 136 (x1 + 1) (v1 + (rd τ1 79 (6 + ((rd σ 138 x1) / 2))))) 137 (x1 + 1) (rd τ1 137 x1))) (k4 : ∀ (c1 : ((rd σ 138 x1) % 2) ≠ 1) (c3 : (rd σ 139 ((rd σ 138 x1) / 2)) < 0) (v1 : Int) (τ1 : pS) (e1 : pLe σ τ1) (q1 : Q1 (some (0, v1)) τ1) (c6 : 0 ≤ v1) (c7 : (rd τ1 133 ((10 * (rd τ1 134 x1)) + (rd τ1 77 (6 + ((rd σ 138 x1) / 2))))) < 1000000) (c9 : ((rd τ1 136 x1) + (rd τ1 133 ((10 * (rd τ1 134 x1)) + (rd τ1 77 (6 + ((rd σ 138 x1) / 2)))))) ≤ v1) (c12 : 0 ≤ x3) (c14 : x3 ≤ (v1 + (rd τ1 79 (6 + ((rd σ 138 x1) / 2))))), Q (some (0, 0)) τ1) (g15 : ∀ (c1 : ((rd σ 138 x1) % 2) ≠ 1) (c3 : (rd σ 139 ((rd σ 138 x1) / 2)) < 0) (v1 : Int) (τ1 : pS) (e1 : pLe σ τ1) (q1 : Q1 (some (0, v1)) τ1) (c6 : 0 ≤ v1) (c7 : (rd τ1 133 ((10 * (rd τ1 134 x1)) + (rd τ1 77 (6 + ((rd σ 138 x1) / 2))))) < 1000000) (c10 : v1 < ((rd τ1 136 x1) + (rd τ1 133 ((10 * (rd τ1 134 x1)) + (rd τ1 77 (6 + ((rd σ 138 x1) / 2))))))), inR x3) (g16 : ∀ (c1 : ((rd σ 138 x1) % 2) ≠ 1) (c3 : (rd σ 139 ((rd σ 138 x1) / 2)) < 0) (v1 : Int) (τ1 : pS) (e1 : pLe σ τ1) (q1 : Q1 (some (0, v1)) τ1) (c6 : 0 ≤ v1) (c7 : (rd τ1 133 ((10 * (rd τ1 134 x1)) + (rd τ1 77 (6 + ((rd σ 138 x1) / 2))))) < 1000000) (c10 : v1 < ((rd τ1 136 x1) + (rd τ1 133 ((10 * (rd τ1 134 x1)) + (rd τ1 77 (6 + ((rd σ 138 x1) / 2))))))) (c15 : x3 < 0), 0 ≤ (x1 + 1) ∧ (x1 + 1) < 8) (k5 : ∀ (c1 : ((rd σ 138 x1) % 2) ≠ 1) (c3 : (rd σ 139 ((rd σ 138 x1) / 2)) < 0) (v1 : Int) (τ1 : pS) (e1 : pLe σ τ1) (q1 : Q1 (some (0, v1)) τ1) (c6 : 0 ≤ v1) (c7 : (rd τ1 133 ((10 * (rd τ1 134 x1)) + (rd τ1 77 (6 + ((rd σ 138 x1) / 2))))) < 1000000) (c10 : v1 < ((rd τ1 136 x1) + (rd τ1 133 ((10 * (rd τ1 134 x1)) + (rd τ1 77 (6 + ((rd σ 138 x1) / 2))))))) (c15 : x3 < 0), Q (some (0, 1)) (wr (wr (wr (wr (wr (wr τ1 139 ((rd σ 138 x1) / 2) (((rd τ1 136 x1) + (rd τ1 133 ((10 * (rd τ1 134 x1)) + (rd τ1 77 (6 + ((rd σ 138 x1) / 2)))))) + (rd τ1 79 (6 + ((rd σ 138 x1) / 2))))) 140 x1 ((rd σ 138 x1) / 2)) 134 (x1 + 1) (rd τ1 78 (6 + ((rd σ 138 x1) / 2)))) 135 (x1 + 1) (rd τ1 135 x1)) 136 (x1 + 1) (((rd τ1 136 x1) + (rd τ1 133 ((10 * (rd τ1 134 x1)) + (rd τ1 77 (6 + ((rd σ 138 x1) / 2)))))) + (rd τ1 79 (6 + ((rd σ 138 x1) / 2))))) 137 (x1 + 1) (rd τ1 137 x1))) (g17 : ∀ (c1 : ((rd σ 138 x1) % 2) ≠ 1) (c3 : (rd σ 139 ((rd σ 138 x1) / 2)) < 0) (v1 : Int) (τ1 : pS) (e1 : pLe σ τ1) (q1 : Q1 (some (0, v1)) τ1) (c6 : 0 ≤ v1) (c7 : (rd τ1 133 ((10 * (rd τ1 134 x1)) + (rd τ1 77 (6 + ((rd σ 138 x1) / 2))))) < 1000000) (c10 : v1 < ((rd τ1 136 x1) + (rd τ1 133 ((10 * (rd τ1 134 x1)) + (rd τ1 77 (6 + ((rd σ 138 x1) / 2))))))) (c16 : 0 ≤ x3), inR (((rd τ1 136 x1) + (rd τ1 133 ((10 * (rd τ1 134 x1)) + (rd τ1 77 (6 + ((rd σ 138 x1) / 2)))))) + (rd τ1 79 (6 + ((rd σ 138 x1) / 2))))) (g18 : ∀ (c1 : ((rd σ 138 x1) % 2) ≠ 1) (c3 : (rd σ 139 ((rd σ 138 x1) / 2)) < 0) (v1 : Int) (τ1 : pS) (e1 : pLe σ τ1) (q1 : Q1 (some (0, v1)) τ1) (c6 : 0 ≤ v1) (c7 : (rd τ1 133 ((10 * (rd τ1 134 x1)) + (rd τ1 77 (6 + ((rd σ 138 x1) / 2))))) < 1000000) (c10 : v1 < ((rd τ1 136 x1) + (rd τ1 133 ((10 * (rd τ1 134 x1)) + (rd τ1 77 (6 + ((rd σ 138 x1) / 2))))))) (c16 : 0 ≤ x3) (c17 : (((rd τ1 136 x1) + (rd τ1 133 ((10 * (rd τ1 134 x1)) + (rd τ1 77 (6 + ((rd σ 138 x1) / 2)))))) + (rd τ1 79 (6 + ((rd σ 138 x1) / 2)))) < x3), 0 ≤ (x1 + 1) ∧ (x1 + 1) < 8) (k6 : ∀ (c1 : ((rd σ 138 x1) % 2) ≠ 1) (c3 : (rd σ 139 ((rd σ 138 x1) / 2)) < 0) (v1 : Int) (τ1 : pS) (e1 : pLe σ τ1) (q1 : Q1 (some (0, v1)) τ1) (c6 : 0 ≤ v1) (c7 : (rd τ1 133 ((10 * (rd τ1 134 x1)) + (rd τ1 77 (6 + ((rd σ 138 x1) / 2))))) < 1000000) (c10 : v1 < ((rd τ1 136 x1) + (rd τ1 133 ((10 * (rd τ1 134 x1)) + (rd τ1 77 (6 + ((rd σ 138 x1) / 2))))))) (c16 : 0 ≤ x3) (c17 : (((rd τ1 136 x1) + (rd τ1 133 ((10 * (rd τ1 134 x1)) + (rd τ1 77 (6 + ((rd σ 138 x1) / 2)))))) + (rd τ1 79 (6 + ((rd σ 138 x1) / 2)))) < x3), Q (some (0, 1)) (wr (wr (wr (wr (wr (wr τ1 139 ((rd σ 138 x1) / 2) (((rd τ1 136 x1) + (rd τ1 133 ((10 * (rd τ1 134 x1)) + (rd τ1 77 (6 + ((rd σ 138 x1) / 2)))))) + (rd τ1 79 (6 + ((rd σ 138 x1) / 2))))) 140 x1 ((rd σ 138 x1) / 2)) 134 (x1 + 1) (rd τ1 78 (6 + ((rd σ 138 x1) / 2)))) 135 (x1 + 1) (rd τ1 135 x1)) 136 (x1 + 1) (((rd τ1 136 x1) + (rd τ1 133 ((10 * (rd τ1 134 x1)) + (rd τ1 77 (6 + ((rd σ 138 x1) / 2)))))) + (rd τ1 79 (6 + ((rd σ 138 x1) / 2))))) 137 (x1 + 1) (rd τ1 137 x1))) (k7 : ∀ (c1 : ((rd σ 138 x1) % 2) ≠ 1) (c3 : (rd σ 139 ((rd σ 138 x1) / 2)) < 0) (v1 : Int) (τ1 : pS) (e1 : pLe σ τ1) (q1 : Q1 (some (0, v1)) τ1) (c6 : 0 ≤ v1) (c7 : (rd τ1 133 ((10 * (rd τ1 134 x1)) + (rd τ1 77 (6 + ((rd σ 138 x1) / 2))))) < 1000000) (c10 : v1 < ((rd τ1 136 x1) + (rd τ1 133 ((10 * (rd τ1 134 x1)) + (rd τ1 77 (6 + ((rd σ 138 x1) / 2))))))) (c16 : 0 ≤ x3) (c18 : x3 ≤ (((rd τ1 136 x1) + (rd τ1 133 ((10 * (rd τ1 134 x1)) + (rd τ1 77 (6 + ((rd σ 138 x1) / 2)))))) + (rd τ1 79 (6 + ((rd σ 138 x1) / 2))))), Q (some (0, 0)) τ1) (k8 : ∀ (c1 : ((rd σ 138 x1) % 2) ≠ 1) (c3 : (rd σ 139 ((rd σ 138 x1) / 2)) < 0) (v1 : Int) (τ1 : pS) (e1 : pLe σ τ1) (q1 : Q1 (some (0, v1)) τ1) (c6 : 0 ≤ v1) (c8 : 1000000 ≤ (rd τ1 133 ((10 * (rd τ1 134 x1)) + (rd τ1 77 (6 + ((rd σ 138 x1) / 2)))))), Q (some (0, 0)) τ1) (k9 : ∀ (c1 : ((rd σ 138 x1) % 2) ≠ 1) (c4 : 0 ≤ (rd σ 139 ((rd σ 138 x1) / 2))), Q (some (0, 0)) σ) (g19 : ∀ (c2 : ((rd σ 138 x1) % 2) = 1), inR x2) (k10 : ∀ (c2 : ((rd σ 138 x1) % 2) = 1) (c19 : x2 = 1), Q (some (0, 0)) σ) (g20 : ∀ (c2 : ((rd σ 138 x1) % 2) = 1) (c20 : x2 ≠ 1), 0 ≤ ((rd σ 138 x1) / 2) ∧ ((rd σ 138 x1) / 2) < 7) (g21 : ∀ (c2 : ((rd σ 138 x1) % 2) = 1) (c20 : x2 ≠ 1), inR (rd σ 139 ((rd σ 138 x1) / 2))) (f2 : ∀ (c2 : ((rd σ 138 x1) % 2) = 1) (c20 : x2 ≠ 1) (c21 : (rd σ 139 ((rd σ 138 x1) / 2)) < 0), pC mX11_readyAt 0 [(2, 68), (0, ((rd σ 138 x1) / 2))] σ Q2) (g22 : ∀ (c2 : ((rd σ 138 x1) % 2) = 1) (c20 : x2 ≠ 1) (c21 : (rd σ 139 ((rd σ 138 x1) / 2)) < 0) (v2 : Int) (τ2 : pS) (e2 : pLe σ τ2) (q2 : Q2 (some (0, v2)) τ2), 0 ≤ (6 + ((rd σ 138 x1) / 2)) ∧ (6 + ((rd σ 138 x1) / 2)) < 13) (g23 : ∀ (c2 : ((rd σ 138 x1) % 2) = 1) (c20 : x2 ≠ 1) (c21 : (rd σ 139 ((rd σ 138 x1) / 2)) < 0) (v2 : Int) (τ2 : pS) (e2 : pLe σ τ2) (q2 : Q2 (some (0, v2)) τ2), 0 ≤ ((10 * (rd τ2 135 x1)) + (rd τ2 77 (6 + ((rd σ 138 x1) / 2)))) ∧ ((10 * (rd τ2 135 x1)) + (rd τ2 77 (6 + ((rd σ 138 x1) / 2)))) < 100) (g24 : ∀ (c2 : ((rd σ 138 x1) % 2) = 1) (c20 : x2 ≠ 1) (c21 : (rd σ 139 ((rd σ 138 x1) / 2)) < 0) (v2 : Int) (τ2 : pS) (e2 : pLe σ τ2) (q2 : Q2 (some (0, v2)) τ2), inR v2) (k11 : ∀ (c2 : ((rd σ 138 x1) % 2) = 1) (c20 : x2 ≠ 1) (c21 : (rd σ 139 ((rd σ 138 x1) / 2)) < 0) (v2 : Int) (τ2 : pS) (e2 : pLe σ τ2) (q2 : Q2 (some (0, v2)) τ2) (c23 : v2 < 0), Q (some (0, 0)) τ2) (g25 : ∀ (c2 : ((rd σ 138 x1) % 2) = 1) (c20 : x2 ≠ 1) (c21 : (rd σ 139 ((rd σ 138 x1) / 2)) < 0) (v2 : Int) (τ2 : pS) (e2 : pLe σ τ2) (q2 : Q2 (some (0, v2)) τ2) (c24 : 0 ≤ v2), inR (rd τ2 133 ((10 * (rd τ2 135 x1)) + (rd τ2 77 (6 + ((rd σ 138 x1) / 2)))))) (g26 : ∀ (c2 : ((rd σ 138 x1) % 2) = 1) (c20 : x2 ≠ 1) (c21 : (rd σ 139 ((rd σ 138 x1) / 2)) < 0) (v2 : Int) (τ2 : pS) (e2 : pLe σ τ2) (q2 : Q2 (some (0, v2)) τ2) (c24 : 0 ≤ v2) (c25 : (rd τ2 133 ((10 * (rd τ2 135 x1)) + (rd τ2 77 (6 + ((rd σ 138 x1) / 2))))) < 1000000), inR ((rd τ2 137 x1) + (rd τ2 133 ((10 * (rd τ2 135 x1)) + (rd τ2 77 (6 + ((rd σ 138 x1) / 2))))))) (g27 : ∀ (c2 : ((rd σ 138 x1) % 2) = 1) (c20 : x2 ≠ 1) (c21 : (rd σ 139 ((rd σ 138 x1) / 2)) < 0) (v2 : Int) (τ2 : pS) (e2 : pLe σ τ2) (q2 : Q2 (some (0, v2)) τ2) (c24 : 0 ≤ v2) (c25 : (rd τ2 133 ((10 * (rd τ2 135 x1)) + (rd τ2 77 (6 + ((rd σ 138 x1) / 2))))) < 1000000) (c27 : ((rd τ2 137 x1) + (rd τ2 133 ((10 * (rd τ2 135 x1)) + (rd τ2 77 (6 + ((rd σ 138 x1) / 2)))))) ≤ v2), inR x3) (g28 : ∀ (c2 : ((rd σ 138 x1) % 2) = 1) (c20 : x2 ≠ 1) (c21 : (rd σ 139 ((rd σ 138 x1) / 2)) < 0) (v2 : Int) (τ2 : pS) (e2 : pLe σ τ2) (q2 : Q2 (some (0, v2)) τ2) (c24 : 0 ≤ v2) (c25 : (rd τ2 133 ((10 * (rd τ2 135 x1)) + (rd τ2 77 (6 + ((rd σ 138 x1) / 2))))) < 1000000) (c27 : ((rd τ2 137 x1) + (rd τ2 133 ((10 * (rd τ2 135 x1)) + (rd τ2 77 (6 + ((rd σ 138 x1) / 2)))))) ≤ v2) (c29 : x3 < 0), 0 ≤ (x1 + 1) ∧ (x1 + 1) < 8) (k12 : ∀ (c2 : ((rd σ 138 x1) % 2) = 1) (c20 : x2 ≠ 1) (c21 : (rd σ 139 ((rd σ 138 x1) / 2)) < 0) (v2 : Int) (τ2 : pS) (e2 : pLe σ τ2) (q2 : Q2 (some (0, v2)) τ2) (c24 : 0 ≤ v2) (c25 : (rd τ2 133 ((10 * (rd τ2 135 x1)) + (rd τ2 77 (6 + ((rd σ 138 x1) / 2))))) < 1000000) (c27 : ((rd τ2 137 x1) + (rd τ2 133 ((10 * (rd τ2 135 x1)) + (rd τ2 77 (6 + ((rd σ 138 x1) / 2)))))) ≤ v2) (c29 : x3 < 0), Q (some (0, 1)) (wr (wr (wr (wr (wr (wr τ2 139 ((rd σ 138 x1) / 2) (v2 + (rd τ2 79 (6 + ((rd σ 138 x1) / 2))))) 140 x1 ((rd σ 138 x1) / 2)) 134 (x1 + 1) (rd τ2 134 x1)) 135 (x1 + 1) (rd τ2 78 (6 + ((rd σ 138 x1) / 2)))) 136 (x1 + 1) (rd τ2 136 x1)) 137 (x1 + 1) (v2 + (rd τ2 79 (6 + ((rd σ 138 x1) / 2)))))) (g29 : ∀ (c2 : ((rd σ 138 x1) % 2) = 1) (c20 : x2 ≠ 1) (c21 : (rd σ 139 ((rd σ 138 x1) / 2)) < 0) (v2 : Int) (τ2 : pS) (e2 : pLe σ τ2) (q2 : Q2 (some (0, v2)) τ2) (c24 : 0 ≤ v2) (c25 : (rd τ2 133 ((10 * (rd τ2 135 x1)) + (rd τ2 77 (6 + ((rd σ 138 x1) / 2))))) < 1000000) (c27 : ((rd τ2 137 x1) + (rd τ2 133 ((10 * (rd τ2 135 x1)) + (rd τ2 77 (6 + ((rd σ 138 x1) / 2)))))) ≤ v2) (c30 : 0 ≤ x3), inR (v2 + (rd τ2 79 (6 + ((rd σ 138 x1) / 2))))) (g30 : ∀ (c2 : ((rd σ 138 x1) % 2) = 1) (c20 : x2 ≠ 1) (c21 : (rd σ 139 ((rd σ 138 x1) / 2)) < 0) (v2 : Int) (τ2 : pS) (e2 : pLe σ τ2) (q2 : Q2 (some (0, v2)) τ2) (c24 : 0 ≤ v2) (c25 : (rd τ2 133 ((10 * (rd τ2 135 x1)) + (rd τ2 77 (6 + ((rd σ 138 x1) / 2))))) < 1000000) (c27 : ((rd τ2 137 x1) + (rd τ2 133 ((10 * (rd τ2 135 x1)) + (rd τ2 77 (6 + ((rd σ 138 x1) / 2)))))) ≤ v2) (c30 : 0 ≤ x3) (c31 : (v2 + (rd τ2 79 (6 + ((rd σ 138 x1) / 2)))) < x3), 0 ≤ (x1 + 1) ∧ (x1 + 1) < 8) (k13 : ∀ (c2 : ((rd σ 138 x1) % 2) = 1) (c20 : x2 ≠ 1) (c21 : (rd σ 139 ((rd σ 138 x1) / 2)) < 0) (v2 : Int) (τ2 : pS) (e2 : pLe σ τ2) (q2 : Q2 (some (0, v2)) τ2) (c24 : 0 ≤ v2) (c25 : (rd τ2 133 ((10 * (rd τ2 135 x1)) + (rd τ2 77 (6 + ((rd σ 138 x1) / 2))))) < 1000000) (c27 : ((rd τ2 137 x1) + (rd τ2 133 ((10 * (rd τ2 135 x1)) + (rd τ2 77 (6 + ((rd σ 138 x1) / 2)))))) ≤ v2) (c30 : 0 ≤ x3) (c31 : (v2 + (rd τ2 79 (6 + ((rd σ 138 x1) / 2)))) < x3), Q (some (0, 1)) (wr (wr (wr (wr (wr (wr τ2 139 ((rd σ 138 x1) / 2) (v2 + (rd τ2 79 (6 + ((rd σ 138 x1) / 2))))) 140 x1 ((rd σ 138 x1) / 2)) 134 (x1 + 1) (rd τ2 134 x1)) 135 (x1 + 1) (rd τ2 78 (6 + ((rd σ 138 x1) / 2)))) 136 (x1 + 1) (rd τ2 136 x1)) 137 (x1 + 1) (v2 + (rd τ2 79 (6 + ((rd σ 138 x1) / 2)))))) (k14 : ∀ (c2 : ((rd σ 138 x1) % 2) = 1) (c20 : x2 ≠ 1) (c21 : (rd σ 139 ((rd σ 138 x1) / 2)) < 0) (v2 : Int) (τ2 : pS) (e2 : pLe σ τ2) (q2 : Q2 (some (0, v2)) τ2) (c24 : 0 ≤ v2) (c25 : (rd τ2 133 ((10 * (rd τ2 135 x1)) + (rd τ2 77 (6 + ((rd σ 138 x1) / 2))))) < 1000000) (c27 : ((rd τ2 137 x1) + (rd τ2 133 ((10 * (rd τ2 135 x1)) + (rd τ2 77 (6 + ((rd σ 138 x1) / 2)))))) ≤ v2) (c30 : 0 ≤ x3) (c32 : x3 ≤ (v2 + (rd τ2 79 (6 + ((rd σ 138 x1) / 2))))), Q (some (0, 0)) τ2) (g31 : ∀ (c2 : ((rd σ 138 x1) % 2) = 1) (c20 : x2 ≠ 1) (c21 : (rd σ 139 ((rd σ 138 x1) / 2)) < 0) (v2 : Int) (τ2 : pS) (e2 : pLe σ τ2) (q2 : Q2 (some (0, v2)) τ2) (c24 : 0 ≤ v2) (c25 : (rd τ2 133 ((10 * (rd τ2 135 x1)) + (rd τ2 77 (6 + ((rd σ 138 x1) / 2))))) < 1000000) (c28 : v2 < ((rd τ2 137 x1) + (rd τ2 133 ((10 * (rd τ2 135 x1)) + (rd τ2 77 (6 + ((rd σ 138 x1) / 2))))))), inR x3) (g32 : ∀ (c2 : ((rd σ 138 x1) % 2) = 1) (c20 : x2 ≠ 1) (c21 : (rd σ 139 ((rd σ 138 x1) / 2)) < 0) (v2 : Int) (τ2 : pS) (e2 : pLe σ τ2) (q2 : Q2 (some (0, v2)) τ2) (c24 : 0 ≤ v2) (c25 : (rd τ2 133 ((10 * (rd τ2 135 x1)) + (rd τ2 77 (6 + ((rd σ 138 x1) / 2))))) < 1000000) (c28 : v2 < ((rd τ2 137 x1) + (rd τ2 133 ((10 * (rd τ2 135 x1)) + (rd τ2 77 (6 + ((rd σ 138 x1) / 2))))))) (c33 : x3 < 0), 0 ≤ (x1 + 1) ∧ (x1 + 1) < 8) (k15 : ∀ (c2 : ((rd σ 138 x1) % 2) = 1) (c20 : x2 ≠ 1) (c21 : (rd σ 139 ((rd σ 138 x1) / 2)) < 0) (v2 : Int) (τ2 : pS) (e2 : pLe σ τ2) (q2 : Q2 (some (0, v2)) τ2) (c24 : 0 ≤ v2) (c25 : (rd τ2 133 ((10 * (rd τ2 135 x1)) + (rd τ2 77 (6 + ((rd σ 138 x1) / 2))))) < 1000000) (c28 : v2 < ((rd τ2 137 x1) + (rd τ2 133 ((10 * (rd τ2 135 x1)) + (rd τ2 77 (6 + ((rd σ 138 x1) / 2))))))) (c33 : x3 < 0), Q (some (0, 1)) (wr (wr (wr (wr (wr (wr τ2 139 ((rd σ 138 x1) / 2) (((rd τ2 137 x1) + (rd τ2 133 ((10 * (rd τ2 135 x1)) + (rd τ2 77 (6 + ((rd σ 138 x1) / 2)))))) + (rd τ2 79 (6 + ((rd σ 138 x1) / 2))))) 140 x1 ((rd σ 138 x1) / 2)) 134 (x1 + 1) (rd τ2 134 x1)) 135 (x1 + 1) (rd τ2 78 (6 + ((rd σ 138 x1) / 2)))) 136 (x1 + 1) (rd τ2 136 x1)) 137 (x1 + 1) (((rd τ2 137 x1) + (rd τ2 133 ((10 * (rd τ2 135 x1)) + (rd τ2 77 (6 + ((rd σ 138 x1) / 2)))))) + (rd τ2 79 (6 + ((rd σ 138 x1) / 2)))))) (g33 : ∀ (c2 : ((rd σ 138 x1) % 2) = 1) (c20 : x2 ≠ 1) (c21 : (rd σ 139 ((rd σ 138 x1) / 2)) < 0) (v2 : Int) (τ2 : pS) (e2 : pLe σ τ2) (q2 : Q2 (some (0, v2)) τ2) (c24 : 0 ≤ v2) (c25 : (rd τ2 133 ((10 * (rd τ2 135 x1)) + (rd τ2 77 (6 + ((rd σ 138 x1) / 2))))) < 1000000) (c28 : v2 < ((rd τ2 137 x1) + (rd τ2 133 ((10 * (rd τ2 135 x1)) + (rd τ2 77 (6 + ((rd σ 138 x1) / 2))))))) (c34 : 0 ≤ x3), inR (((rd τ2 137 x1) + (rd τ2 133 ((10 * (rd τ2 135 x1)) + (rd τ2 77 (6 + ((rd σ 138 x1) / 2)))))) + (rd τ2 79 (6 + ((rd σ 138 x1) / 2))))) (g34 : ∀ (c2 : ((rd σ 138 x1) % 2) = 1) (c20 : x2 ≠ 1) (c21 : (rd σ 139 ((rd σ 138 x1) / 2)) < 0) (v2 : Int) (τ2 : pS) (e2 : pLe σ τ2) (q2 : Q2 (some (0, v2)) τ2) (c24 : 0 ≤ v2) (c25 : (rd τ2 133 ((10 * (rd τ2 135 x1)) + (rd τ2 77 (6 + ((rd σ 138 x1) / 2))))) < 1000000) (c28 : v2 < ((rd τ2 137 x1) + (rd τ2 133 ((10 * (rd τ2 135 x1)) + (rd τ2 77 (6 + ((rd σ 138 x1) / 2))))))) (c34 : 0 ≤ x3) (c35 : (((rd τ2 137 x1) + (rd τ2 133 ((10 * (rd τ2 135 x1)) + (rd τ2 77 (6 + ((rd σ 138 x1) / 2)))))) + (rd τ2 79 (6 + ((rd σ 138 x1) / 2)))) < x3), 0 ≤ (x1 + 1) ∧ (x1 + 1) < 8) (k16 : ∀ (c2 : ((rd σ 138 x1) % 2) = 1) (c20 : x2 ≠ 1) (c21 : (rd σ 139 ((rd σ 138 x1) / 2)) < 0) (v2 : Int) (τ2 : pS) (e2 : pLe σ τ2) (q2 : Q2 (some (0, v2)) τ2) (c24 : 0 ≤ v2) (c25 : (rd τ2 133 ((10 * (rd τ2 135 x1)) + (rd τ2 77 (6 + ((rd σ 138 x1) / 2))))) < 1000000) (c28 : v2 < ((rd τ2 137 x1) + (rd τ2 133 ((10 * (rd τ2 135 x1)) + (rd τ2 77 (6 + ((rd σ 138 x1) / 2))))))) (c34 : 0 ≤ x3) (c35 : (((rd τ2 137 x1) + (rd τ2 133 ((10 * (rd τ2 135 x1)) + (rd τ2 77 (6 + ((rd σ 138 x1) / 2)))))) + (rd τ2 79 (6 + ((rd σ 138 x1) / 2)))) < x3), Q (some (0, 1)) (wr (wr (wr (wr (wr (wr τ2 139 ((rd σ 138 x1) / 2) (((rd τ2 137 x1) + (rd τ2 133 ((10 * (rd τ2 135 x1)) + (rd τ2 77 (6 + ((rd σ 138 x1) / 2)))))) + (rd τ2 79 (6 + ((rd σ 138 x1) / 2))))) 140 x1 ((rd σ 138 x1) / 2)) 134 (x1 + 1) (rd τ2 134 x1)) 135 (x1 + 1) (rd τ2 78 (6 + ((rd σ 138 x1) / 2)))) 136 (x1 + 1) (rd τ2 136 x1)) 137 (x1 + 1) (((rd τ2 137 x1) + (rd τ2 133 ((10 * (rd τ2 135 x1)) + (rd τ2 77 (6 + ((rd σ 138 x1) / 2)))))) + (rd τ2 79 (6 + ((rd σ 138 x1) / 2)))))) (k17 : ∀ (c2 : ((rd σ 138 x1) % 2) = 1) (c20 : x2 ≠ 1) (c21 : (rd σ 139 ((rd σ 138 x1) / 2)) < 0) (v2 : Int) (τ2 : pS) (e2 : pLe σ τ2) (q2 : Q2 (some (0, v2)) τ2) (c24 : 0 ≤ v2) (c25 : (rd τ2 133 ((10 * (rd τ2 135 x1)) + (rd τ2 77 (6 + ((rd σ 138 x1) / 2))))) < 1000000) (c28 : v2 < ((rd τ2 137 x1) + (rd τ2 133 ((10 * (rd τ2 135 x1)) + (rd τ2 77 (6 + ((rd σ 138 x1) / 2))))))) (c34 : 0 ≤ x3) (c36 : x3 ≤ (((rd τ2 137 x1) + (rd τ2 133 ((10 * (rd τ2 135 x1)) + (rd τ2 77 (6 + ((rd σ 138 x1) / 2)))))) + (rd τ2 79 (6 + ((rd σ 138 x1) / 2))))), Q (some (0, 0)) τ2) (k18 : ∀ (c2 : ((rd σ 138 x1) % 2) = 1) (c20 : x2 ≠ 1) (c21 : (rd σ 139 ((rd σ 138 x1) / 2)) < 0) (v2 : Int) (τ2 : pS) (e2 : pLe σ τ2) (q2 : Q2 (some (0, v2)) τ2) (c24 : 0 ≤ v2) (c26 : 1000000 ≤ (rd τ2 133 ((10 * (rd τ2 135 x1)) + (rd τ2 77 (6 + ((rd σ 138 x1) / 2)))))), Q (some (0, 0)) τ2) (k19 : ∀ (c2 : ((rd σ 138 x1) % 2) = 1) (c20 : x2 ≠ 1) (c22 : 0 ≤ (rd σ 139 ((rd σ 138 x1) / 2))), Q (some (0, 0)) σ) : pC mX11_goesOn d [(2, 68), (0, x1), (0, x2), (0, x3)] σ Q := by
  show pR mX11_goesOn d 0 [(2, 68), (0, x1), (0, x2), (0, x3), (9, 0), (9, 0), (9, 0), (9, 0), (9, 0), (9, 0), (9, 0)] [] σ Q
  refine pGo (s_aload_n dX11_goesOn_0 rfl (by decide)) ?_
  refine pGoE (y := 138) (s_getF pc11 fl_X11_223 dX11_goesOn_1 (ob_68 hst) rfl (by decide)) (by decide) ?_
  refine pGo (s_iload_n dX11_goesOn_4 rfl) ?_
  refine pGoE (y := (rd σ 138 x1)) (s_iald dX11_goesOn_5 (ob_138 hst) (bnd g1)) rfl ?_
  refine pGo (s_iconst dX11_goesOn_6) ?_
  refine pGo (s_idivp dX11_goesOn_7 g2 (by decide)) ?_
  refine pGoL (ls2 := [(2, 68), (0, x1), (0, x2), (0, x3), (0, ((rd σ 138 x1) / 2)), (9, 0), (9, 0), (9, 0), (9, 0), (9, 0), (9, 0)]) (s_istore dX11_goesOn_8 (by decide) rfl) rfl ?_
  refine pGo (s_aload_n dX11_goesOn_10 rfl (by decide)) ?_
  refine pGoE (y := 138) (s_getF pc11 fl_X11_223 dX11_goesOn_11 (ob_68 hst) rfl (by decide)) (by decide) ?_
  refine pGo (s_iload_n dX11_goesOn_14 rfl) ?_
  refine pGoE (y := (rd σ 138 x1)) (s_iald dX11_goesOn_15 (ob_138 hst) (bnd g1)) rfl ?_
  refine pGo (s_iconst dX11_goesOn_16) ?_
  refine pGo (s_iremp dX11_goesOn_17 g2 (by decide)) ?_
  refine pGo (s_iconst dX11_goesOn_18) ?_
  refine p_icne (tgt := 26) dX11_goesOn_19 (by decide) g3 (by decide) (fun c1 => ?_) (fun c2 => ?_)
  · refine pGo (s_iconst dX11_goesOn_26) ?_
    refine pGoL (ls2 := [(2, 68), (0, x1), (0, x2), (0, x3), (0, ((rd σ 138 x1) / 2)), (0, 0), (9, 0), (9, 0), (9, 0), (9, 0), (9, 0)]) (s_istore dX11_goesOn_27 (by decide) rfl) rfl ?_
    refine pGo (s_iload dX11_goesOn_29 rfl) ?_
    refine p_ifeq (tgt := 39) dX11_goesOn_31 (by decide) (by decide) (fun _ => ?_) (fun q => absurd q (by decide))
    refine pGo (s_aload_n dX11_goesOn_39 rfl (by decide)) ?_
    refine pGoE (y := 139) (s_getF pc11 fl_X11_226 dX11_goesOn_40 (ob_68 hst) rfl (by decide)) (by decide) ?_
    refine pGo (s_iload dX11_goesOn_43 rfl) ?_
    refine pGoE (y := (rd σ 139 ((rd σ 138 x1) / 2))) (s_iald dX11_goesOn_45 (ob_139 hst) (bnd (g4 c1))) rfl ?_
    refine p_iflt (tgt := 51) dX11_goesOn_46 (by decide) (g5 c1) (fun c3 => ?_) (fun c4 => ?_)
    · refine pGo (s_aload_n dX11_goesOn_51 rfl (by decide)) ?_
      refine pGo (s_iload dX11_goesOn_52 rfl) ?_
      refine p_callV (As := [(0, ((rd σ 138 x1) / 2))]) (st := []) (n := 1) (d' := 0) (Q1 := Q1) pc11 ok_X11_readyAt ml_X11_551 im_X11_readyAt se_X11_readyAt dX11_goesOn_54 (ob_68 hst) (pargs_of rfl) rfl (Nat.le_of_ble_eq_true rfl) (by omega) (f1 c1 c3) (fun r1 τ1 e1 q1 w1 => ?_)
      obtain ⟨v1, rfl⟩ := w1
      have S1 : Stat τ1 := (Stat.le (σ := σ) hst e1)
      show pR mX11_goesOn d 57 [(2, 68), (0, x1), (0, x2), (0, x3), (0, ((rd σ 138 x1) / 2)), (0, 0), (9, 0), (9, 0), (9, 0), (9, 0), (9, 0)] [(0, v1)] τ1 Q
      refine pGoL (ls2 := [(2, 68), (0, x1), (0, x2), (0, x3), (0, ((rd σ 138 x1) / 2)), (0, 0), (0, v1), (9, 0), (9, 0), (9, 0), (9, 0)]) (s_istore dX11_goesOn_57 (by decide) rfl) rfl ?_
      refine pGo (s_iload dX11_goesOn_59 rfl) ?_
      refine p_ifeq (tgt := 73) dX11_goesOn_61 (by decide) (by decide) (fun _ => ?_) (fun q => absurd q (by decide))
      refine pGo (s_aload_n dX11_goesOn_73 rfl (by decide)) ?_
      refine pGoE (y := 134) (s_getF pc11 fl_X11_211 dX11_goesOn_74 (ob_68 S1) rfl (by decide)) (by decide) ?_
      refine pGo (s_iload_n dX11_goesOn_77 rfl) ?_
      refine pGoE (y := (rd τ1 134 x1)) (s_iald dX11_goesOn_78 (ob_134 S1) (bnd g1)) rfl ?_
      refine pGoL (ls2 := [(2, 68), (0, x1), (0, x2), (0, x3), (0, ((rd σ 138 x1) / 2)), (0, 0), (0, v1), (0, (rd τ1 134 x1)), (9, 0), (9, 0), (9, 0)]) (s_istore dX11_goesOn_79 (by decide) rfl) rfl ?_
      refine pGo (s_aload_n dX11_goesOn_81 rfl (by decide)) ?_
      refine pGoE (y := 133) (s_getF pc11 fl_X11_208 dX11_goesOn_82 (ob_68 S1) rfl (by decide)) (by decide) ?_
      refine pGo (s_bipush dX11_goesOn_85 (by decide)) ?_
      refine pGo (s_iload dX11_goesOn_87 rfl) ?_
      refine pGo (s_imul dX11_goesOn_89) ?_
      refine pGo (s_aload_n dX11_goesOn_90 rfl (by decide)) ?_
      refine pGoE (y := 77) (s_getF pc11 fl_X11_39 dX11_goesOn_91 (ob_68 S1) rfl (by decide)) (by decide) ?_
      refine pGo (s_bipush dX11_goesOn_94 (by decide)) ?_
      refine pGo (s_iload dX11_goesOn_96 rfl) ?_
      refine pGo (s_iadd dX11_goesOn_98) ?_
      refine pGoE (y := (rd τ1 77 (6 + ((rd σ 138 x1) / 2)))) (s_iald dX11_goesOn_99 (ob_77 S1) (bnd (g6 c1 c3 v1 τ1 e1 q1))) rfl ?_
      refine pGo (s_iadd dX11_goesOn_100) ?_
      refine pGoE (y := (rd τ1 133 ((10 * (rd τ1 134 x1)) + (rd τ1 77 (6 + ((rd σ 138 x1) / 2)))))) (s_iald dX11_goesOn_101 (ob_133 S1) (bnd (g7 c1 c3 v1 τ1 e1 q1))) rfl ?_
      refine pGoL (ls2 := [(2, 68), (0, x1), (0, x2), (0, x3), (0, ((rd σ 138 x1) / 2)), (0, 0), (0, v1), (0, (rd τ1 134 x1)), (0, (rd τ1 133 ((10 * (rd τ1 134 x1)) + (rd τ1 77 (6 + ((rd σ 138 x1) / 2)))))), (9, 0), (9, 0)]) (s_istore dX11_goesOn_102 (by decide) rfl) rfl ?_
      refine pGo (s_iload dX11_goesOn_104 rfl) ?_
      refine p_iflt (tgt := 116) dX11_goesOn_106 (by decide) (g8 c1 c3 v1 τ1 e1 q1) (fun c5 => ?_) (fun c6 => ?_)
      · refine pGo (s_iconst dX11_goesOn_116) ?_
        exact pEnd (r := (some (0, 0))) dX11_goesOn_117 (Or.inl rfl) (k1 c1 c3 v1 τ1 e1 q1 c5)
      · refine pGo (s_iload dX11_goesOn_109 rfl) ?_
        refine pGo (s_ldc (n := 1000000) dX11_goesOn_111 kc_X11_232 (by decide)) ?_
        refine p_iclt (tgt := 118) dX11_goesOn_113 (by decide) (g9 c1 c3 v1 τ1 e1 q1 c6) (by decide) (fun c7 => ?_) (fun c8 => ?_)
        · refine pGo (s_iload dX11_goesOn_118 rfl) ?_
          refine p_ifeq (tgt := 132) dX11_goesOn_120 (by decide) (by decide) (fun _ => ?_) (fun q => absurd q (by decide))
          refine pGo (s_aload_n dX11_goesOn_132 rfl (by decide)) ?_
          refine pGoE (y := 136) (s_getF pc11 fl_X11_217 dX11_goesOn_133 (ob_68 S1) rfl (by decide)) (by decide) ?_
          refine pGo (s_iload_n dX11_goesOn_136 rfl) ?_
          refine pGoE (y := (rd τ1 136 x1)) (s_iald dX11_goesOn_137 (ob_136 S1) (bnd g1)) rfl ?_
          refine pGo (s_iload dX11_goesOn_138 rfl) ?_
          refine pGo (s_iadd dX11_goesOn_140) ?_
          refine pGoL (ls2 := [(2, 68), (0, x1), (0, x2), (0, x3), (0, ((rd σ 138 x1) / 2)), (0, 0), (0, v1), (0, (rd τ1 134 x1)), (0, (rd τ1 133 ((10 * (rd τ1 134 x1)) + (rd τ1 77 (6 + ((rd σ 138 x1) / 2)))))), (0, ((rd τ1 136 x1) + (rd τ1 133 ((10 * (rd τ1 134 x1)) + (rd τ1 77 (6 + ((rd σ 138 x1) / 2))))))), (9, 0)]) (s_istore dX11_goesOn_141 (by decide) rfl) rfl ?_
          refine pGo (s_iload dX11_goesOn_143 rfl) ?_
          refine pGo (s_iload dX11_goesOn_145 rfl) ?_
          refine p_icle (tgt := 155) dX11_goesOn_147 (by decide) (g10 c1 c3 v1 τ1 e1 q1 c6 c7) (g8 c1 c3 v1 τ1 e1 q1) (fun c9 => ?_) (fun c10 => ?_)
          · refine pGo (s_iload dX11_goesOn_155 rfl) ?_
            refine pGo (s_aload_n dX11_goesOn_157 rfl (by decide)) ?_
            refine pGoE (y := 79) (s_getF pc11 fl_X11_45 dX11_goesOn_158 (ob_68 S1) rfl (by decide)) (by decide) ?_
            refine pGo (s_bipush dX11_goesOn_161 (by decide)) ?_
            refine pGo (s_iload dX11_goesOn_163 rfl) ?_
            refine pGo (s_iadd dX11_goesOn_165) ?_
            refine pGoE (y := (rd τ1 79 (6 + ((rd σ 138 x1) / 2)))) (s_iald dX11_goesOn_166 (ob_79 S1) (bnd (g6 c1 c3 v1 τ1 e1 q1))) rfl ?_
            refine pGo (s_iadd dX11_goesOn_167) ?_
            refine pGoL (ls2 := [(2, 68), (0, x1), (0, x2), (0, x3), (0, ((rd σ 138 x1) / 2)), (0, 0), (0, v1), (0, (rd τ1 134 x1)), (0, (rd τ1 133 ((10 * (rd τ1 134 x1)) + (rd τ1 77 (6 + ((rd σ 138 x1) / 2)))))), (0, ((rd τ1 136 x1) + (rd τ1 133 ((10 * (rd τ1 134 x1)) + (rd τ1 77 (6 + ((rd σ 138 x1) / 2))))))), (0, (v1 + (rd τ1 79 (6 + ((rd σ 138 x1) / 2)))))]) (s_istore dX11_goesOn_168 (by decide) rfl) rfl ?_
            refine pGo (s_iload_n dX11_goesOn_170 rfl) ?_
            refine p_iflt (tgt := 182) dX11_goesOn_171 (by decide) (g11 c1 c3 v1 τ1 e1 q1 c6 c7 c9) (fun c11 => ?_) (fun c12 => ?_)
            · refine pGo (s_aload_n dX11_goesOn_182 rfl (by decide)) ?_
              refine pGoE (y := 139) (s_getF pc11 fl_X11_226 dX11_goesOn_183 (ob_68 S1) rfl (by decide)) (by decide) ?_
              refine pGo (s_iload dX11_goesOn_186 rfl) ?_
              refine pGo (s_iload dX11_goesOn_188 rfl) ?_
              refine pGo (s_iast dX11_goesOn_190 (ob_139 S1) (bnd (g4 c1))) ?_
              refine pGo (s_aload_n dX11_goesOn_191 rfl (by decide)) ?_
              refine pGoE (y := 140) (s_getF pc11 fl_X11_229 dX11_goesOn_192 (ob_68 S1) rfl (by decide)) (by decide) ?_
              refine pGo (s_iload_n dX11_goesOn_195 rfl) ?_
              refine pGo (s_iload dX11_goesOn_196 rfl) ?_
              refine pGo (s_iast dX11_goesOn_198 (ob_140 S1) (bnd g1)) ?_
              refine pGo (s_aload_n dX11_goesOn_199 rfl (by decide)) ?_
              refine pGoE (y := 134) (s_getF pc11 fl_X11_211 dX11_goesOn_200 (ob_68 S1) rfl (by decide)) (by decide) ?_
              refine pGo (s_iload_n dX11_goesOn_203 rfl) ?_
              refine pGo (s_iconst dX11_goesOn_204) ?_
              refine pGo (s_iadd dX11_goesOn_205) ?_
              refine pGo (s_iload dX11_goesOn_206 rfl) ?_
              refine p_ifeq (tgt := 220) dX11_goesOn_208 (by decide) (by decide) (fun _ => ?_) (fun q => absurd q (by decide))
              refine pGo (s_aload_n dX11_goesOn_220 rfl (by decide)) ?_
              refine pGoE (y := 78) (s_getF pc11 fl_X11_42 dX11_goesOn_221 (ob_68 S1) rfl (by decide)) (by decide) ?_
              refine pGo (s_bipush dX11_goesOn_224 (by decide)) ?_
              refine pGo (s_iload dX11_goesOn_226 rfl) ?_
              refine pGo (s_iadd dX11_goesOn_228) ?_
              refine pGoE (y := (rd τ1 78 (6 + ((rd σ 138 x1) / 2)))) (s_iald dX11_goesOn_229 (ob_78 S1) (bnd (g6 c1 c3 v1 τ1 e1 q1))) ((rd_wr_a _ (by decide)).trans (rd_wr_a _ (by decide))) ?_
              refine pGo (s_iast dX11_goesOn_230 (ob_134 S1) (bnd (g12 c1 c3 v1 τ1 e1 q1 c6 c7 c9 c11))) ?_
              refine pGo (s_aload_n dX11_goesOn_231 rfl (by decide)) ?_
              refine pGoE (y := 135) (s_getF pc11 fl_X11_214 dX11_goesOn_232 (ob_68 S1) rfl (by decide)) (by decide) ?_
              refine pGo (s_iload_n dX11_goesOn_235 rfl) ?_
              refine pGo (s_iconst dX11_goesOn_236) ?_
              refine pGo (s_iadd dX11_goesOn_237) ?_
              refine pGo (s_iload dX11_goesOn_238 rfl) ?_
              refine p_ifeq (tgt := 256) dX11_goesOn_240 (by decide) (by decide) (fun _ => ?_) (fun q => absurd q (by decide))
              refine pGo (s_aload_n dX11_goesOn_256 rfl (by decide)) ?_
              refine pGoE (y := 135) (s_getF pc11 fl_X11_214 dX11_goesOn_257 (ob_68 S1) rfl (by decide)) (by decide) ?_
              refine pGo (s_iload_n dX11_goesOn_260 rfl) ?_
              refine pGoE (y := (rd τ1 135 x1)) (s_iald dX11_goesOn_261 (ob_135 S1) (bnd g1)) ((rd_wr_a _ (by decide)).trans ((rd_wr_a _ (by decide)).trans (rd_wr_a _ (by decide)))) ?_
              refine pGo (s_iast dX11_goesOn_262 (ob_135 S1) (bnd (g12 c1 c3 v1 τ1 e1 q1 c6 c7 c9 c11))) ?_
              refine pGo (s_aload_n dX11_goesOn_263 rfl (by decide)) ?_
              refine pGoE (y := 136) (s_getF pc11 fl_X11_217 dX11_goesOn_264 (ob_68 S1) rfl (by decide)) (by decide) ?_
              refine pGo (s_iload_n dX11_goesOn_267 rfl) ?_
              refine pGo (s_iconst dX11_goesOn_268) ?_
              refine pGo (s_iadd dX11_goesOn_269) ?_
              refine pGo (s_iload dX11_goesOn_270 rfl) ?_
              refine p_ifeq (tgt := 284) dX11_goesOn_272 (by decide) (by decide) (fun _ => ?_) (fun q => absurd q (by decide))
              refine pGo (s_iload dX11_goesOn_284 rfl) ?_
              refine pGo (s_iast dX11_goesOn_286 (ob_136 S1) (bnd (g12 c1 c3 v1 τ1 e1 q1 c6 c7 c9 c11))) ?_
              refine pGo (s_aload_n dX11_goesOn_287 rfl (by decide)) ?_
              refine pGoE (y := 137) (s_getF pc11 fl_X11_220 dX11_goesOn_288 (ob_68 S1) rfl (by decide)) (by decide) ?_
              refine pGo (s_iload_n dX11_goesOn_291 rfl) ?_
              refine pGo (s_iconst dX11_goesOn_292) ?_
              refine pGo (s_iadd dX11_goesOn_293) ?_
              refine pGo (s_iload dX11_goesOn_294 rfl) ?_
              refine p_ifeq (tgt := 304) dX11_goesOn_296 (by decide) (by decide) (fun _ => ?_) (fun q => absurd q (by decide))
              refine pGo (s_aload_n dX11_goesOn_304 rfl (by decide)) ?_
              refine pGoE (y := 137) (s_getF pc11 fl_X11_220 dX11_goesOn_305 (ob_68 S1) rfl (by decide)) (by decide) ?_
              refine pGo (s_iload_n dX11_goesOn_308 rfl) ?_
              refine pGoE (y := (rd τ1 137 x1)) (s_iald dX11_goesOn_309 (ob_137 S1) (bnd g1)) ((rd_wr_a _ (by decide)).trans ((rd_wr_a _ (by decide)).trans ((rd_wr_a _ (by decide)).trans ((rd_wr_a _ (by decide)).trans (rd_wr_a _ (by decide)))))) ?_
              refine pGo (s_iast dX11_goesOn_310 (ob_137 S1) (bnd (g12 c1 c3 v1 τ1 e1 q1 c6 c7 c9 c11))) ?_
              refine pGo (s_iconst dX11_goesOn_311) ?_
              exact pEnd (r := (some (0, 1))) dX11_goesOn_312 (Or.inr rfl) (k2 c1 c3 v1 τ1 e1 q1 c6 c7 c9 c11)
            · refine pGo (s_iload dX11_goesOn_174 rfl) ?_
              refine pGo (s_iload_n dX11_goesOn_176 rfl) ?_
              refine p_iclt (tgt := 182) dX11_goesOn_177 (by decide) (g13 c1 c3 v1 τ1 e1 q1 c6 c7 c9 c12) (g11 c1 c3 v1 τ1 e1 q1 c6 c7 c9) (fun c13 => ?_) (fun c14 => ?_)
              · refine pGo (s_aload_n dX11_goesOn_182 rfl (by decide)) ?_
                refine pGoE (y := 139) (s_getF pc11 fl_X11_226 dX11_goesOn_183 (ob_68 S1) rfl (by decide)) (by decide) ?_
                refine pGo (s_iload dX11_goesOn_186 rfl) ?_
                refine pGo (s_iload dX11_goesOn_188 rfl) ?_
                refine pGo (s_iast dX11_goesOn_190 (ob_139 S1) (bnd (g4 c1))) ?_
                refine pGo (s_aload_n dX11_goesOn_191 rfl (by decide)) ?_
                refine pGoE (y := 140) (s_getF pc11 fl_X11_229 dX11_goesOn_192 (ob_68 S1) rfl (by decide)) (by decide) ?_
                refine pGo (s_iload_n dX11_goesOn_195 rfl) ?_
                refine pGo (s_iload dX11_goesOn_196 rfl) ?_
                refine pGo (s_iast dX11_goesOn_198 (ob_140 S1) (bnd g1)) ?_
                refine pGo (s_aload_n dX11_goesOn_199 rfl (by decide)) ?_
                refine pGoE (y := 134) (s_getF pc11 fl_X11_211 dX11_goesOn_200 (ob_68 S1) rfl (by decide)) (by decide) ?_
                refine pGo (s_iload_n dX11_goesOn_203 rfl) ?_
                refine pGo (s_iconst dX11_goesOn_204) ?_
                refine pGo (s_iadd dX11_goesOn_205) ?_
                refine pGo (s_iload dX11_goesOn_206 rfl) ?_
                refine p_ifeq (tgt := 220) dX11_goesOn_208 (by decide) (by decide) (fun _ => ?_) (fun q => absurd q (by decide))
                refine pGo (s_aload_n dX11_goesOn_220 rfl (by decide)) ?_
                refine pGoE (y := 78) (s_getF pc11 fl_X11_42 dX11_goesOn_221 (ob_68 S1) rfl (by decide)) (by decide) ?_
                refine pGo (s_bipush dX11_goesOn_224 (by decide)) ?_
                refine pGo (s_iload dX11_goesOn_226 rfl) ?_
                refine pGo (s_iadd dX11_goesOn_228) ?_
                refine pGoE (y := (rd τ1 78 (6 + ((rd σ 138 x1) / 2)))) (s_iald dX11_goesOn_229 (ob_78 S1) (bnd (g6 c1 c3 v1 τ1 e1 q1))) ((rd_wr_a _ (by decide)).trans (rd_wr_a _ (by decide))) ?_
                refine pGo (s_iast dX11_goesOn_230 (ob_134 S1) (bnd (g14 c1 c3 v1 τ1 e1 q1 c6 c7 c9 c12 c13))) ?_
                refine pGo (s_aload_n dX11_goesOn_231 rfl (by decide)) ?_
                refine pGoE (y := 135) (s_getF pc11 fl_X11_214 dX11_goesOn_232 (ob_68 S1) rfl (by decide)) (by decide) ?_
                refine pGo (s_iload_n dX11_goesOn_235 rfl) ?_
                refine pGo (s_iconst dX11_goesOn_236) ?_
                refine pGo (s_iadd dX11_goesOn_237) ?_
                refine pGo (s_iload dX11_goesOn_238 rfl) ?_
                refine p_ifeq (tgt := 256) dX11_goesOn_240 (by decide) (by decide) (fun _ => ?_) (fun q => absurd q (by decide))
                refine pGo (s_aload_n dX11_goesOn_256 rfl (by decide)) ?_
                refine pGoE (y := 135) (s_getF pc11 fl_X11_214 dX11_goesOn_257 (ob_68 S1) rfl (by decide)) (by decide) ?_
                refine pGo (s_iload_n dX11_goesOn_260 rfl) ?_
                refine pGoE (y := (rd τ1 135 x1)) (s_iald dX11_goesOn_261 (ob_135 S1) (bnd g1)) ((rd_wr_a _ (by decide)).trans ((rd_wr_a _ (by decide)).trans (rd_wr_a _ (by decide)))) ?_
                refine pGo (s_iast dX11_goesOn_262 (ob_135 S1) (bnd (g14 c1 c3 v1 τ1 e1 q1 c6 c7 c9 c12 c13))) ?_
                refine pGo (s_aload_n dX11_goesOn_263 rfl (by decide)) ?_
                refine pGoE (y := 136) (s_getF pc11 fl_X11_217 dX11_goesOn_264 (ob_68 S1) rfl (by decide)) (by decide) ?_
                refine pGo (s_iload_n dX11_goesOn_267 rfl) ?_
                refine pGo (s_iconst dX11_goesOn_268) ?_
                refine pGo (s_iadd dX11_goesOn_269) ?_
                refine pGo (s_iload dX11_goesOn_270 rfl) ?_
                refine p_ifeq (tgt := 284) dX11_goesOn_272 (by decide) (by decide) (fun _ => ?_) (fun q => absurd q (by decide))
                refine pGo (s_iload dX11_goesOn_284 rfl) ?_
                refine pGo (s_iast dX11_goesOn_286 (ob_136 S1) (bnd (g14 c1 c3 v1 τ1 e1 q1 c6 c7 c9 c12 c13))) ?_
                refine pGo (s_aload_n dX11_goesOn_287 rfl (by decide)) ?_
                refine pGoE (y := 137) (s_getF pc11 fl_X11_220 dX11_goesOn_288 (ob_68 S1) rfl (by decide)) (by decide) ?_
                refine pGo (s_iload_n dX11_goesOn_291 rfl) ?_
                refine pGo (s_iconst dX11_goesOn_292) ?_
                refine pGo (s_iadd dX11_goesOn_293) ?_
                refine pGo (s_iload dX11_goesOn_294 rfl) ?_
                refine p_ifeq (tgt := 304) dX11_goesOn_296 (by decide) (by decide) (fun _ => ?_) (fun q => absurd q (by decide))
                refine pGo (s_aload_n dX11_goesOn_304 rfl (by decide)) ?_
                refine pGoE (y := 137) (s_getF pc11 fl_X11_220 dX11_goesOn_305 (ob_68 S1) rfl (by decide)) (by decide) ?_
                refine pGo (s_iload_n dX11_goesOn_308 rfl) ?_
                refine pGoE (y := (rd τ1 137 x1)) (s_iald dX11_goesOn_309 (ob_137 S1) (bnd g1)) ((rd_wr_a _ (by decide)).trans ((rd_wr_a _ (by decide)).trans ((rd_wr_a _ (by decide)).trans ((rd_wr_a _ (by decide)).trans (rd_wr_a _ (by decide)))))) ?_
                refine pGo (s_iast dX11_goesOn_310 (ob_137 S1) (bnd (g14 c1 c3 v1 τ1 e1 q1 c6 c7 c9 c12 c13))) ?_
                refine pGo (s_iconst dX11_goesOn_311) ?_
                exact pEnd (r := (some (0, 1))) dX11_goesOn_312 (Or.inr rfl) (k3 c1 c3 v1 τ1 e1 q1 c6 c7 c9 c12 c13)
              · refine pGo (s_iconst dX11_goesOn_180) ?_
                exact pEnd (r := (some (0, 0))) dX11_goesOn_181 (Or.inl rfl) (k4 c1 c3 v1 τ1 e1 q1 c6 c7 c9 c12 c14)
          · refine pGo (s_iload dX11_goesOn_150 rfl) ?_
            refine pGo (s_goto (tgt := 157) dX11_goesOn_152 (by decide)) ?_
            refine pGo (s_aload_n dX11_goesOn_157 rfl (by decide)) ?_
            refine pGoE (y := 79) (s_getF pc11 fl_X11_45 dX11_goesOn_158 (ob_68 S1) rfl (by decide)) (by decide) ?_
            refine pGo (s_bipush dX11_goesOn_161 (by decide)) ?_
            refine pGo (s_iload dX11_goesOn_163 rfl) ?_
            refine pGo (s_iadd dX11_goesOn_165) ?_
            refine pGoE (y := (rd τ1 79 (6 + ((rd σ 138 x1) / 2)))) (s_iald dX11_goesOn_166 (ob_79 S1) (bnd (g6 c1 c3 v1 τ1 e1 q1))) rfl ?_
            refine pGo (s_iadd dX11_goesOn_167) ?_
            refine pGoL (ls2 := [(2, 68), (0, x1), (0, x2), (0, x3), (0, ((rd σ 138 x1) / 2)), (0, 0), (0, v1), (0, (rd τ1 134 x1)), (0, (rd τ1 133 ((10 * (rd τ1 134 x1)) + (rd τ1 77 (6 + ((rd σ 138 x1) / 2)))))), (0, ((rd τ1 136 x1) + (rd τ1 133 ((10 * (rd τ1 134 x1)) + (rd τ1 77 (6 + ((rd σ 138 x1) / 2))))))), (0, (((rd τ1 136 x1) + (rd τ1 133 ((10 * (rd τ1 134 x1)) + (rd τ1 77 (6 + ((rd σ 138 x1) / 2)))))) + (rd τ1 79 (6 + ((rd σ 138 x1) / 2)))))]) (s_istore dX11_goesOn_168 (by decide) rfl) rfl ?_
            refine pGo (s_iload_n dX11_goesOn_170 rfl) ?_
            refine p_iflt (tgt := 182) dX11_goesOn_171 (by decide) (g15 c1 c3 v1 τ1 e1 q1 c6 c7 c10) (fun c15 => ?_) (fun c16 => ?_)
            · refine pGo (s_aload_n dX11_goesOn_182 rfl (by decide)) ?_
              refine pGoE (y := 139) (s_getF pc11 fl_X11_226 dX11_goesOn_183 (ob_68 S1) rfl (by decide)) (by decide) ?_
              refine pGo (s_iload dX11_goesOn_186 rfl) ?_
              refine pGo (s_iload dX11_goesOn_188 rfl) ?_
              refine pGo (s_iast dX11_goesOn_190 (ob_139 S1) (bnd (g4 c1))) ?_
              refine pGo (s_aload_n dX11_goesOn_191 rfl (by decide)) ?_
              refine pGoE (y := 140) (s_getF pc11 fl_X11_229 dX11_goesOn_192 (ob_68 S1) rfl (by decide)) (by decide) ?_
              refine pGo (s_iload_n dX11_goesOn_195 rfl) ?_
              refine pGo (s_iload dX11_goesOn_196 rfl) ?_
              refine pGo (s_iast dX11_goesOn_198 (ob_140 S1) (bnd g1)) ?_
              refine pGo (s_aload_n dX11_goesOn_199 rfl (by decide)) ?_
              refine pGoE (y := 134) (s_getF pc11 fl_X11_211 dX11_goesOn_200 (ob_68 S1) rfl (by decide)) (by decide) ?_
              refine pGo (s_iload_n dX11_goesOn_203 rfl) ?_
              refine pGo (s_iconst dX11_goesOn_204) ?_
              refine pGo (s_iadd dX11_goesOn_205) ?_
              refine pGo (s_iload dX11_goesOn_206 rfl) ?_
              refine p_ifeq (tgt := 220) dX11_goesOn_208 (by decide) (by decide) (fun _ => ?_) (fun q => absurd q (by decide))
              refine pGo (s_aload_n dX11_goesOn_220 rfl (by decide)) ?_
              refine pGoE (y := 78) (s_getF pc11 fl_X11_42 dX11_goesOn_221 (ob_68 S1) rfl (by decide)) (by decide) ?_
              refine pGo (s_bipush dX11_goesOn_224 (by decide)) ?_
              refine pGo (s_iload dX11_goesOn_226 rfl) ?_
              refine pGo (s_iadd dX11_goesOn_228) ?_
              refine pGoE (y := (rd τ1 78 (6 + ((rd σ 138 x1) / 2)))) (s_iald dX11_goesOn_229 (ob_78 S1) (bnd (g6 c1 c3 v1 τ1 e1 q1))) ((rd_wr_a _ (by decide)).trans (rd_wr_a _ (by decide))) ?_
              refine pGo (s_iast dX11_goesOn_230 (ob_134 S1) (bnd (g16 c1 c3 v1 τ1 e1 q1 c6 c7 c10 c15))) ?_
              refine pGo (s_aload_n dX11_goesOn_231 rfl (by decide)) ?_
              refine pGoE (y := 135) (s_getF pc11 fl_X11_214 dX11_goesOn_232 (ob_68 S1) rfl (by decide)) (by decide) ?_
              refine pGo (s_iload_n dX11_goesOn_235 rfl) ?_
              refine pGo (s_iconst dX11_goesOn_236) ?_
              refine pGo (s_iadd dX11_goesOn_237) ?_
              refine pGo (s_iload dX11_goesOn_238 rfl) ?_
              refine p_ifeq (tgt := 256) dX11_goesOn_240 (by decide) (by decide) (fun _ => ?_) (fun q => absurd q (by decide))
              refine pGo (s_aload_n dX11_goesOn_256 rfl (by decide)) ?_
              refine pGoE (y := 135) (s_getF pc11 fl_X11_214 dX11_goesOn_257 (ob_68 S1) rfl (by decide)) (by decide) ?_
              refine pGo (s_iload_n dX11_goesOn_260 rfl) ?_
              refine pGoE (y := (rd τ1 135 x1)) (s_iald dX11_goesOn_261 (ob_135 S1) (bnd g1)) ((rd_wr_a _ (by decide)).trans ((rd_wr_a _ (by decide)).trans (rd_wr_a _ (by decide)))) ?_
              refine pGo (s_iast dX11_goesOn_262 (ob_135 S1) (bnd (g16 c1 c3 v1 τ1 e1 q1 c6 c7 c10 c15))) ?_
              refine pGo (s_aload_n dX11_goesOn_263 rfl (by decide)) ?_
              refine pGoE (y := 136) (s_getF pc11 fl_X11_217 dX11_goesOn_264 (ob_68 S1) rfl (by decide)) (by decide) ?_
              refine pGo (s_iload_n dX11_goesOn_267 rfl) ?_
              refine pGo (s_iconst dX11_goesOn_268) ?_
              refine pGo (s_iadd dX11_goesOn_269) ?_
              refine pGo (s_iload dX11_goesOn_270 rfl) ?_
              refine p_ifeq (tgt := 284) dX11_goesOn_272 (by decide) (by decide) (fun _ => ?_) (fun q => absurd q (by decide))
              refine pGo (s_iload dX11_goesOn_284 rfl) ?_
              refine pGo (s_iast dX11_goesOn_286 (ob_136 S1) (bnd (g16 c1 c3 v1 τ1 e1 q1 c6 c7 c10 c15))) ?_
              refine pGo (s_aload_n dX11_goesOn_287 rfl (by decide)) ?_
              refine pGoE (y := 137) (s_getF pc11 fl_X11_220 dX11_goesOn_288 (ob_68 S1) rfl (by decide)) (by decide) ?_
              refine pGo (s_iload_n dX11_goesOn_291 rfl) ?_
              refine pGo (s_iconst dX11_goesOn_292) ?_
              refine pGo (s_iadd dX11_goesOn_293) ?_
              refine pGo (s_iload dX11_goesOn_294 rfl) ?_
              refine p_ifeq (tgt := 304) dX11_goesOn_296 (by decide) (by decide) (fun _ => ?_) (fun q => absurd q (by decide))
              refine pGo (s_aload_n dX11_goesOn_304 rfl (by decide)) ?_
              refine pGoE (y := 137) (s_getF pc11 fl_X11_220 dX11_goesOn_305 (ob_68 S1) rfl (by decide)) (by decide) ?_
              refine pGo (s_iload_n dX11_goesOn_308 rfl) ?_
              refine pGoE (y := (rd τ1 137 x1)) (s_iald dX11_goesOn_309 (ob_137 S1) (bnd g1)) ((rd_wr_a _ (by decide)).trans ((rd_wr_a _ (by decide)).trans ((rd_wr_a _ (by decide)).trans ((rd_wr_a _ (by decide)).trans (rd_wr_a _ (by decide)))))) ?_
              refine pGo (s_iast dX11_goesOn_310 (ob_137 S1) (bnd (g16 c1 c3 v1 τ1 e1 q1 c6 c7 c10 c15))) ?_
              refine pGo (s_iconst dX11_goesOn_311) ?_
              exact pEnd (r := (some (0, 1))) dX11_goesOn_312 (Or.inr rfl) (k5 c1 c3 v1 τ1 e1 q1 c6 c7 c10 c15)
            · refine pGo (s_iload dX11_goesOn_174 rfl) ?_
              refine pGo (s_iload_n dX11_goesOn_176 rfl) ?_
              refine p_iclt (tgt := 182) dX11_goesOn_177 (by decide) (g17 c1 c3 v1 τ1 e1 q1 c6 c7 c10 c16) (g15 c1 c3 v1 τ1 e1 q1 c6 c7 c10) (fun c17 => ?_) (fun c18 => ?_)
              · refine pGo (s_aload_n dX11_goesOn_182 rfl (by decide)) ?_
                refine pGoE (y := 139) (s_getF pc11 fl_X11_226 dX11_goesOn_183 (ob_68 S1) rfl (by decide)) (by decide) ?_
                refine pGo (s_iload dX11_goesOn_186 rfl) ?_
                refine pGo (s_iload dX11_goesOn_188 rfl) ?_
                refine pGo (s_iast dX11_goesOn_190 (ob_139 S1) (bnd (g4 c1))) ?_
                refine pGo (s_aload_n dX11_goesOn_191 rfl (by decide)) ?_
                refine pGoE (y := 140) (s_getF pc11 fl_X11_229 dX11_goesOn_192 (ob_68 S1) rfl (by decide)) (by decide) ?_
                refine pGo (s_iload_n dX11_goesOn_195 rfl) ?_
                refine pGo (s_iload dX11_goesOn_196 rfl) ?_
                refine pGo (s_iast dX11_goesOn_198 (ob_140 S1) (bnd g1)) ?_
                refine pGo (s_aload_n dX11_goesOn_199 rfl (by decide)) ?_
                refine pGoE (y := 134) (s_getF pc11 fl_X11_211 dX11_goesOn_200 (ob_68 S1) rfl (by decide)) (by decide) ?_
                refine pGo (s_iload_n dX11_goesOn_203 rfl) ?_
                refine pGo (s_iconst dX11_goesOn_204) ?_
                refine pGo (s_iadd dX11_goesOn_205) ?_
                refine pGo (s_iload dX11_goesOn_206 rfl) ?_
                refine p_ifeq (tgt := 220) dX11_goesOn_208 (by decide) (by decide) (fun _ => ?_) (fun q => absurd q (by decide))
                refine pGo (s_aload_n dX11_goesOn_220 rfl (by decide)) ?_
                refine pGoE (y := 78) (s_getF pc11 fl_X11_42 dX11_goesOn_221 (ob_68 S1) rfl (by decide)) (by decide) ?_
                refine pGo (s_bipush dX11_goesOn_224 (by decide)) ?_
                refine pGo (s_iload dX11_goesOn_226 rfl) ?_
                refine pGo (s_iadd dX11_goesOn_228) ?_
                refine pGoE (y := (rd τ1 78 (6 + ((rd σ 138 x1) / 2)))) (s_iald dX11_goesOn_229 (ob_78 S1) (bnd (g6 c1 c3 v1 τ1 e1 q1))) ((rd_wr_a _ (by decide)).trans (rd_wr_a _ (by decide))) ?_
                refine pGo (s_iast dX11_goesOn_230 (ob_134 S1) (bnd (g18 c1 c3 v1 τ1 e1 q1 c6 c7 c10 c16 c17))) ?_
                refine pGo (s_aload_n dX11_goesOn_231 rfl (by decide)) ?_
                refine pGoE (y := 135) (s_getF pc11 fl_X11_214 dX11_goesOn_232 (ob_68 S1) rfl (by decide)) (by decide) ?_
                refine pGo (s_iload_n dX11_goesOn_235 rfl) ?_
                refine pGo (s_iconst dX11_goesOn_236) ?_
                refine pGo (s_iadd dX11_goesOn_237) ?_
                refine pGo (s_iload dX11_goesOn_238 rfl) ?_
                refine p_ifeq (tgt := 256) dX11_goesOn_240 (by decide) (by decide) (fun _ => ?_) (fun q => absurd q (by decide))
                refine pGo (s_aload_n dX11_goesOn_256 rfl (by decide)) ?_
                refine pGoE (y := 135) (s_getF pc11 fl_X11_214 dX11_goesOn_257 (ob_68 S1) rfl (by decide)) (by decide) ?_
                refine pGo (s_iload_n dX11_goesOn_260 rfl) ?_
                refine pGoE (y := (rd τ1 135 x1)) (s_iald dX11_goesOn_261 (ob_135 S1) (bnd g1)) ((rd_wr_a _ (by decide)).trans ((rd_wr_a _ (by decide)).trans (rd_wr_a _ (by decide)))) ?_
                refine pGo (s_iast dX11_goesOn_262 (ob_135 S1) (bnd (g18 c1 c3 v1 τ1 e1 q1 c6 c7 c10 c16 c17))) ?_
                refine pGo (s_aload_n dX11_goesOn_263 rfl (by decide)) ?_
                refine pGoE (y := 136) (s_getF pc11 fl_X11_217 dX11_goesOn_264 (ob_68 S1) rfl (by decide)) (by decide) ?_
                refine pGo (s_iload_n dX11_goesOn_267 rfl) ?_
                refine pGo (s_iconst dX11_goesOn_268) ?_
                refine pGo (s_iadd dX11_goesOn_269) ?_
                refine pGo (s_iload dX11_goesOn_270 rfl) ?_
                refine p_ifeq (tgt := 284) dX11_goesOn_272 (by decide) (by decide) (fun _ => ?_) (fun q => absurd q (by decide))
                refine pGo (s_iload dX11_goesOn_284 rfl) ?_
                refine pGo (s_iast dX11_goesOn_286 (ob_136 S1) (bnd (g18 c1 c3 v1 τ1 e1 q1 c6 c7 c10 c16 c17))) ?_
                refine pGo (s_aload_n dX11_goesOn_287 rfl (by decide)) ?_
                refine pGoE (y := 137) (s_getF pc11 fl_X11_220 dX11_goesOn_288 (ob_68 S1) rfl (by decide)) (by decide) ?_
                refine pGo (s_iload_n dX11_goesOn_291 rfl) ?_
                refine pGo (s_iconst dX11_goesOn_292) ?_
                refine pGo (s_iadd dX11_goesOn_293) ?_
                refine pGo (s_iload dX11_goesOn_294 rfl) ?_
                refine p_ifeq (tgt := 304) dX11_goesOn_296 (by decide) (by decide) (fun _ => ?_) (fun q => absurd q (by decide))
                refine pGo (s_aload_n dX11_goesOn_304 rfl (by decide)) ?_
                refine pGoE (y := 137) (s_getF pc11 fl_X11_220 dX11_goesOn_305 (ob_68 S1) rfl (by decide)) (by decide) ?_
                refine pGo (s_iload_n dX11_goesOn_308 rfl) ?_
                refine pGoE (y := (rd τ1 137 x1)) (s_iald dX11_goesOn_309 (ob_137 S1) (bnd g1)) ((rd_wr_a _ (by decide)).trans ((rd_wr_a _ (by decide)).trans ((rd_wr_a _ (by decide)).trans ((rd_wr_a _ (by decide)).trans (rd_wr_a _ (by decide)))))) ?_
                refine pGo (s_iast dX11_goesOn_310 (ob_137 S1) (bnd (g18 c1 c3 v1 τ1 e1 q1 c6 c7 c10 c16 c17))) ?_
                refine pGo (s_iconst dX11_goesOn_311) ?_
                exact pEnd (r := (some (0, 1))) dX11_goesOn_312 (Or.inr rfl) (k6 c1 c3 v1 τ1 e1 q1 c6 c7 c10 c16 c17)
              · refine pGo (s_iconst dX11_goesOn_180) ?_
                exact pEnd (r := (some (0, 0))) dX11_goesOn_181 (Or.inl rfl) (k7 c1 c3 v1 τ1 e1 q1 c6 c7 c10 c16 c18)
        · refine pGo (s_iconst dX11_goesOn_116) ?_
          exact pEnd (r := (some (0, 0))) dX11_goesOn_117 (Or.inl rfl) (k8 c1 c3 v1 τ1 e1 q1 c6 c8)
    · refine pGo (s_iconst dX11_goesOn_49) ?_
      exact pEnd (r := (some (0, 0))) dX11_goesOn_50 (Or.inl rfl) (k9 c1 c4)
  · refine pGo (s_iconst dX11_goesOn_22) ?_
    refine pGo (s_goto (tgt := 27) dX11_goesOn_23 (by decide)) ?_
    refine pGoL (ls2 := [(2, 68), (0, x1), (0, x2), (0, x3), (0, ((rd σ 138 x1) / 2)), (0, 1), (9, 0), (9, 0), (9, 0), (9, 0), (9, 0)]) (s_istore dX11_goesOn_27 (by decide) rfl) rfl ?_
    refine pGo (s_iload dX11_goesOn_29 rfl) ?_
    refine p_ifeq (tgt := 39) dX11_goesOn_31 (by decide) (by decide) (fun q => absurd q (by decide)) (fun _ => ?_)
    refine pGo (s_iload_n dX11_goesOn_34 rfl) ?_
    refine pGo (s_iconst dX11_goesOn_35) ?_
    refine p_iceq (tgt := 49) dX11_goesOn_36 (by decide) (g19 c2) (by decide) (fun c19 => ?_) (fun c20 => ?_)
    · refine pGo (s_iconst dX11_goesOn_49) ?_
      exact pEnd (r := (some (0, 0))) dX11_goesOn_50 (Or.inl rfl) (k10 c2 c19)
    · refine pGo (s_aload_n dX11_goesOn_39 rfl (by decide)) ?_
      refine pGoE (y := 139) (s_getF pc11 fl_X11_226 dX11_goesOn_40 (ob_68 hst) rfl (by decide)) (by decide) ?_
      refine pGo (s_iload dX11_goesOn_43 rfl) ?_
      refine pGoE (y := (rd σ 139 ((rd σ 138 x1) / 2))) (s_iald dX11_goesOn_45 (ob_139 hst) (bnd (g20 c2 c20))) rfl ?_
      refine p_iflt (tgt := 51) dX11_goesOn_46 (by decide) (g21 c2 c20) (fun c21 => ?_) (fun c22 => ?_)
      · refine pGo (s_aload_n dX11_goesOn_51 rfl (by decide)) ?_
        refine pGo (s_iload dX11_goesOn_52 rfl) ?_
        refine p_callV (As := [(0, ((rd σ 138 x1) / 2))]) (st := []) (n := 1) (d' := 0) (Q1 := Q2) pc11 ok_X11_readyAt ml_X11_551 im_X11_readyAt se_X11_readyAt dX11_goesOn_54 (ob_68 hst) (pargs_of rfl) rfl (Nat.le_of_ble_eq_true rfl) (by omega) (f2 c2 c20 c21) (fun r2 τ2 e2 q2 w2 => ?_)
        obtain ⟨v2, rfl⟩ := w2
        have S2 : Stat τ2 := (Stat.le (σ := σ) hst e2)
        show pR mX11_goesOn d 57 [(2, 68), (0, x1), (0, x2), (0, x3), (0, ((rd σ 138 x1) / 2)), (0, 1), (9, 0), (9, 0), (9, 0), (9, 0), (9, 0)] [(0, v2)] τ2 Q
        refine pGoL (ls2 := [(2, 68), (0, x1), (0, x2), (0, x3), (0, ((rd σ 138 x1) / 2)), (0, 1), (0, v2), (9, 0), (9, 0), (9, 0), (9, 0)]) (s_istore dX11_goesOn_57 (by decide) rfl) rfl ?_
        refine pGo (s_iload dX11_goesOn_59 rfl) ?_
        refine p_ifeq (tgt := 73) dX11_goesOn_61 (by decide) (by decide) (fun q => absurd q (by decide)) (fun _ => ?_)
        refine pGo (s_aload_n dX11_goesOn_64 rfl (by decide)) ?_
        refine pGoE (y := 135) (s_getF pc11 fl_X11_214 dX11_goesOn_65 (ob_68 S2) rfl (by decide)) (by decide) ?_
        refine pGo (s_iload_n dX11_goesOn_68 rfl) ?_
        refine pGoE (y := (rd τ2 135 x1)) (s_iald dX11_goesOn_69 (ob_135 S2) (bnd g1)) rfl ?_
        refine pGo (s_goto (tgt := 79) dX11_goesOn_70 (by decide)) ?_
        refine pGoL (ls2 := [(2, 68), (0, x1), (0, x2), (0, x3), (0, ((rd σ 138 x1) / 2)), (0, 1), (0, v2), (0, (rd τ2 135 x1)), (9, 0), (9, 0), (9, 0)]) (s_istore dX11_goesOn_79 (by decide) rfl) rfl ?_
        refine pGo (s_aload_n dX11_goesOn_81 rfl (by decide)) ?_
        refine pGoE (y := 133) (s_getF pc11 fl_X11_208 dX11_goesOn_82 (ob_68 S2) rfl (by decide)) (by decide) ?_
        refine pGo (s_bipush dX11_goesOn_85 (by decide)) ?_
        refine pGo (s_iload dX11_goesOn_87 rfl) ?_
        refine pGo (s_imul dX11_goesOn_89) ?_
        refine pGo (s_aload_n dX11_goesOn_90 rfl (by decide)) ?_
        refine pGoE (y := 77) (s_getF pc11 fl_X11_39 dX11_goesOn_91 (ob_68 S2) rfl (by decide)) (by decide) ?_
        refine pGo (s_bipush dX11_goesOn_94 (by decide)) ?_
        refine pGo (s_iload dX11_goesOn_96 rfl) ?_
        refine pGo (s_iadd dX11_goesOn_98) ?_
        refine pGoE (y := (rd τ2 77 (6 + ((rd σ 138 x1) / 2)))) (s_iald dX11_goesOn_99 (ob_77 S2) (bnd (g22 c2 c20 c21 v2 τ2 e2 q2))) rfl ?_
        refine pGo (s_iadd dX11_goesOn_100) ?_
        refine pGoE (y := (rd τ2 133 ((10 * (rd τ2 135 x1)) + (rd τ2 77 (6 + ((rd σ 138 x1) / 2)))))) (s_iald dX11_goesOn_101 (ob_133 S2) (bnd (g23 c2 c20 c21 v2 τ2 e2 q2))) rfl ?_
        refine pGoL (ls2 := [(2, 68), (0, x1), (0, x2), (0, x3), (0, ((rd σ 138 x1) / 2)), (0, 1), (0, v2), (0, (rd τ2 135 x1)), (0, (rd τ2 133 ((10 * (rd τ2 135 x1)) + (rd τ2 77 (6 + ((rd σ 138 x1) / 2)))))), (9, 0), (9, 0)]) (s_istore dX11_goesOn_102 (by decide) rfl) rfl ?_
        refine pGo (s_iload dX11_goesOn_104 rfl) ?_
        refine p_iflt (tgt := 116) dX11_goesOn_106 (by decide) (g24 c2 c20 c21 v2 τ2 e2 q2) (fun c23 => ?_) (fun c24 => ?_)
        · refine pGo (s_iconst dX11_goesOn_116) ?_
          exact pEnd (r := (some (0, 0))) dX11_goesOn_117 (Or.inl rfl) (k11 c2 c20 c21 v2 τ2 e2 q2 c23)
        · refine pGo (s_iload dX11_goesOn_109 rfl) ?_
          refine pGo (s_ldc (n := 1000000) dX11_goesOn_111 kc_X11_232 (by decide)) ?_
          refine p_iclt (tgt := 118) dX11_goesOn_113 (by decide) (g25 c2 c20 c21 v2 τ2 e2 q2 c24) (by decide) (fun c25 => ?_) (fun c26 => ?_)
          · refine pGo (s_iload dX11_goesOn_118 rfl) ?_
            refine p_ifeq (tgt := 132) dX11_goesOn_120 (by decide) (by decide) (fun q => absurd q (by decide)) (fun _ => ?_)
            refine pGo (s_aload_n dX11_goesOn_123 rfl (by decide)) ?_
            refine pGoE (y := 137) (s_getF pc11 fl_X11_220 dX11_goesOn_124 (ob_68 S2) rfl (by decide)) (by decide) ?_
            refine pGo (s_iload_n dX11_goesOn_127 rfl) ?_
            refine pGoE (y := (rd τ2 137 x1)) (s_iald dX11_goesOn_128 (ob_137 S2) (bnd g1)) rfl ?_
            refine pGo (s_goto (tgt := 138) dX11_goesOn_129 (by decide)) ?_
            refine pGo (s_iload dX11_goesOn_138 rfl) ?_
            refine pGo (s_iadd dX11_goesOn_140) ?_
            refine pGoL (ls2 := [(2, 68), (0, x1), (0, x2), (0, x3), (0, ((rd σ 138 x1) / 2)), (0, 1), (0, v2), (0, (rd τ2 135 x1)), (0, (rd τ2 133 ((10 * (rd τ2 135 x1)) + (rd τ2 77 (6 + ((rd σ 138 x1) / 2)))))), (0, ((rd τ2 137 x1) + (rd τ2 133 ((10 * (rd τ2 135 x1)) + (rd τ2 77 (6 + ((rd σ 138 x1) / 2))))))), (9, 0)]) (s_istore dX11_goesOn_141 (by decide) rfl) rfl ?_
            refine pGo (s_iload dX11_goesOn_143 rfl) ?_
            refine pGo (s_iload dX11_goesOn_145 rfl) ?_
            refine p_icle (tgt := 155) dX11_goesOn_147 (by decide) (g26 c2 c20 c21 v2 τ2 e2 q2 c24 c25) (g24 c2 c20 c21 v2 τ2 e2 q2) (fun c27 => ?_) (fun c28 => ?_)
            · refine pGo (s_iload dX11_goesOn_155 rfl) ?_
              refine pGo (s_aload_n dX11_goesOn_157 rfl (by decide)) ?_
              refine pGoE (y := 79) (s_getF pc11 fl_X11_45 dX11_goesOn_158 (ob_68 S2) rfl (by decide)) (by decide) ?_
              refine pGo (s_bipush dX11_goesOn_161 (by decide)) ?_
              refine pGo (s_iload dX11_goesOn_163 rfl) ?_
              refine pGo (s_iadd dX11_goesOn_165) ?_
              refine pGoE (y := (rd τ2 79 (6 + ((rd σ 138 x1) / 2)))) (s_iald dX11_goesOn_166 (ob_79 S2) (bnd (g22 c2 c20 c21 v2 τ2 e2 q2))) rfl ?_
              refine pGo (s_iadd dX11_goesOn_167) ?_
              refine pGoL (ls2 := [(2, 68), (0, x1), (0, x2), (0, x3), (0, ((rd σ 138 x1) / 2)), (0, 1), (0, v2), (0, (rd τ2 135 x1)), (0, (rd τ2 133 ((10 * (rd τ2 135 x1)) + (rd τ2 77 (6 + ((rd σ 138 x1) / 2)))))), (0, ((rd τ2 137 x1) + (rd τ2 133 ((10 * (rd τ2 135 x1)) + (rd τ2 77 (6 + ((rd σ 138 x1) / 2))))))), (0, (v2 + (rd τ2 79 (6 + ((rd σ 138 x1) / 2)))))]) (s_istore dX11_goesOn_168 (by decide) rfl) rfl ?_
              refine pGo (s_iload_n dX11_goesOn_170 rfl) ?_
              refine p_iflt (tgt := 182) dX11_goesOn_171 (by decide) (g27 c2 c20 c21 v2 τ2 e2 q2 c24 c25 c27) (fun c29 => ?_) (fun c30 => ?_)
              · refine pGo (s_aload_n dX11_goesOn_182 rfl (by decide)) ?_
                refine pGoE (y := 139) (s_getF pc11 fl_X11_226 dX11_goesOn_183 (ob_68 S2) rfl (by decide)) (by decide) ?_
                refine pGo (s_iload dX11_goesOn_186 rfl) ?_
                refine pGo (s_iload dX11_goesOn_188 rfl) ?_
                refine pGo (s_iast dX11_goesOn_190 (ob_139 S2) (bnd (g20 c2 c20))) ?_
                refine pGo (s_aload_n dX11_goesOn_191 rfl (by decide)) ?_
                refine pGoE (y := 140) (s_getF pc11 fl_X11_229 dX11_goesOn_192 (ob_68 S2) rfl (by decide)) (by decide) ?_
                refine pGo (s_iload_n dX11_goesOn_195 rfl) ?_
                refine pGo (s_iload dX11_goesOn_196 rfl) ?_
                refine pGo (s_iast dX11_goesOn_198 (ob_140 S2) (bnd g1)) ?_
                refine pGo (s_aload_n dX11_goesOn_199 rfl (by decide)) ?_
                refine pGoE (y := 134) (s_getF pc11 fl_X11_211 dX11_goesOn_200 (ob_68 S2) rfl (by decide)) (by decide) ?_
                refine pGo (s_iload_n dX11_goesOn_203 rfl) ?_
                refine pGo (s_iconst dX11_goesOn_204) ?_
                refine pGo (s_iadd dX11_goesOn_205) ?_
                refine pGo (s_iload dX11_goesOn_206 rfl) ?_
                refine p_ifeq (tgt := 220) dX11_goesOn_208 (by decide) (by decide) (fun q => absurd q (by decide)) (fun _ => ?_)
                refine pGo (s_aload_n dX11_goesOn_211 rfl (by decide)) ?_
                refine pGoE (y := 134) (s_getF pc11 fl_X11_211 dX11_goesOn_212 (ob_68 S2) rfl (by decide)) (by decide) ?_
                refine pGo (s_iload_n dX11_goesOn_215 rfl) ?_
                refine pGoE (y := (rd τ2 134 x1)) (s_iald dX11_goesOn_216 (ob_134 S2) (bnd g1)) ((rd_wr_a _ (by decide)).trans (rd_wr_a _ (by decide))) ?_
                refine pGo (s_goto (tgt := 230) dX11_goesOn_217 (by decide)) ?_
                refine pGo (s_iast dX11_goesOn_230 (ob_134 S2) (bnd (g28 c2 c20 c21 v2 τ2 e2 q2 c24 c25 c27 c29))) ?_
                refine pGo (s_aload_n dX11_goesOn_231 rfl (by decide)) ?_
                refine pGoE (y := 135) (s_getF pc11 fl_X11_214 dX11_goesOn_232 (ob_68 S2) rfl (by decide)) (by decide) ?_
                refine pGo (s_iload_n dX11_goesOn_235 rfl) ?_
                refine pGo (s_iconst dX11_goesOn_236) ?_
                refine pGo (s_iadd dX11_goesOn_237) ?_
                refine pGo (s_iload dX11_goesOn_238 rfl) ?_
                refine p_ifeq (tgt := 256) dX11_goesOn_240 (by decide) (by decide) (fun q => absurd q (by decide)) (fun _ => ?_)
                refine pGo (s_aload_n dX11_goesOn_243 rfl (by decide)) ?_
                refine pGoE (y := 78) (s_getF pc11 fl_X11_42 dX11_goesOn_244 (ob_68 S2) rfl (by decide)) (by decide) ?_
                refine pGo (s_bipush dX11_goesOn_247 (by decide)) ?_
                refine pGo (s_iload dX11_goesOn_249 rfl) ?_
                refine pGo (s_iadd dX11_goesOn_251) ?_
                refine pGoE (y := (rd τ2 78 (6 + ((rd σ 138 x1) / 2)))) (s_iald dX11_goesOn_252 (ob_78 S2) (bnd (g22 c2 c20 c21 v2 τ2 e2 q2))) ((rd_wr_a _ (by decide)).trans ((rd_wr_a _ (by decide)).trans (rd_wr_a _ (by decide)))) ?_
                refine pGo (s_goto (tgt := 262) dX11_goesOn_253 (by decide)) ?_
                refine pGo (s_iast dX11_goesOn_262 (ob_135 S2) (bnd (g28 c2 c20 c21 v2 τ2 e2 q2 c24 c25 c27 c29))) ?_
                refine pGo (s_aload_n dX11_goesOn_263 rfl (by decide)) ?_
                refine pGoE (y := 136) (s_getF pc11 fl_X11_217 dX11_goesOn_264 (ob_68 S2) rfl (by decide)) (by decide) ?_
                refine pGo (s_iload_n dX11_goesOn_267 rfl) ?_
                refine pGo (s_iconst dX11_goesOn_268) ?_
                refine pGo (s_iadd dX11_goesOn_269) ?_
                refine pGo (s_iload dX11_goesOn_270 rfl) ?_
                refine p_ifeq (tgt := 284) dX11_goesOn_272 (by decide) (by decide) (fun q => absurd q (by decide)) (fun _ => ?_)
                refine pGo (s_aload_n dX11_goesOn_275 rfl (by decide)) ?_
                refine pGoE (y := 136) (s_getF pc11 fl_X11_217 dX11_goesOn_276 (ob_68 S2) rfl (by decide)) (by decide) ?_
                refine pGo (s_iload_n dX11_goesOn_279 rfl) ?_
                refine pGoE (y := (rd τ2 136 x1)) (s_iald dX11_goesOn_280 (ob_136 S2) (bnd g1)) ((rd_wr_a _ (by decide)).trans ((rd_wr_a _ (by decide)).trans ((rd_wr_a _ (by decide)).trans (rd_wr_a _ (by decide))))) ?_
                refine pGo (s_goto (tgt := 286) dX11_goesOn_281 (by decide)) ?_
                refine pGo (s_iast dX11_goesOn_286 (ob_136 S2) (bnd (g28 c2 c20 c21 v2 τ2 e2 q2 c24 c25 c27 c29))) ?_
                refine pGo (s_aload_n dX11_goesOn_287 rfl (by decide)) ?_
                refine pGoE (y := 137) (s_getF pc11 fl_X11_220 dX11_goesOn_288 (ob_68 S2) rfl (by decide)) (by decide) ?_
                refine pGo (s_iload_n dX11_goesOn_291 rfl) ?_
                refine pGo (s_iconst dX11_goesOn_292) ?_
                refine pGo (s_iadd dX11_goesOn_293) ?_
                refine pGo (s_iload dX11_goesOn_294 rfl) ?_
                refine p_ifeq (tgt := 304) dX11_goesOn_296 (by decide) (by decide) (fun q => absurd q (by decide)) (fun _ => ?_)
                refine pGo (s_iload dX11_goesOn_299 rfl) ?_
                refine pGo (s_goto (tgt := 310) dX11_goesOn_301 (by decide)) ?_
                refine pGo (s_iast dX11_goesOn_310 (ob_137 S2) (bnd (g28 c2 c20 c21 v2 τ2 e2 q2 c24 c25 c27 c29))) ?_
                refine pGo (s_iconst dX11_goesOn_311) ?_
                exact pEnd (r := (some (0, 1))) dX11_goesOn_312 (Or.inr rfl) (k12 c2 c20 c21 v2 τ2 e2 q2 c24 c25 c27 c29)
              · refine pGo (s_iload dX11_goesOn_174 rfl) ?_
                refine pGo (s_iload_n dX11_goesOn_176 rfl) ?_
                refine p_iclt (tgt := 182) dX11_goesOn_177 (by decide) (g29 c2 c20 c21 v2 τ2 e2 q2 c24 c25 c27 c30) (g27 c2 c20 c21 v2 τ2 e2 q2 c24 c25 c27) (fun c31 => ?_) (fun c32 => ?_)
                · refine pGo (s_aload_n dX11_goesOn_182 rfl (by decide)) ?_
                  refine pGoE (y := 139) (s_getF pc11 fl_X11_226 dX11_goesOn_183 (ob_68 S2) rfl (by decide)) (by decide) ?_
                  refine pGo (s_iload dX11_goesOn_186 rfl) ?_
                  refine pGo (s_iload dX11_goesOn_188 rfl) ?_
                  refine pGo (s_iast dX11_goesOn_190 (ob_139 S2) (bnd (g20 c2 c20))) ?_
                  refine pGo (s_aload_n dX11_goesOn_191 rfl (by decide)) ?_
                  refine pGoE (y := 140) (s_getF pc11 fl_X11_229 dX11_goesOn_192 (ob_68 S2) rfl (by decide)) (by decide) ?_
                  refine pGo (s_iload_n dX11_goesOn_195 rfl) ?_
                  refine pGo (s_iload dX11_goesOn_196 rfl) ?_
                  refine pGo (s_iast dX11_goesOn_198 (ob_140 S2) (bnd g1)) ?_
                  refine pGo (s_aload_n dX11_goesOn_199 rfl (by decide)) ?_
                  refine pGoE (y := 134) (s_getF pc11 fl_X11_211 dX11_goesOn_200 (ob_68 S2) rfl (by decide)) (by decide) ?_
                  refine pGo (s_iload_n dX11_goesOn_203 rfl) ?_
                  refine pGo (s_iconst dX11_goesOn_204) ?_
                  refine pGo (s_iadd dX11_goesOn_205) ?_
                  refine pGo (s_iload dX11_goesOn_206 rfl) ?_
                  refine p_ifeq (tgt := 220) dX11_goesOn_208 (by decide) (by decide) (fun q => absurd q (by decide)) (fun _ => ?_)
                  refine pGo (s_aload_n dX11_goesOn_211 rfl (by decide)) ?_
                  refine pGoE (y := 134) (s_getF pc11 fl_X11_211 dX11_goesOn_212 (ob_68 S2) rfl (by decide)) (by decide) ?_
                  refine pGo (s_iload_n dX11_goesOn_215 rfl) ?_
                  refine pGoE (y := (rd τ2 134 x1)) (s_iald dX11_goesOn_216 (ob_134 S2) (bnd g1)) ((rd_wr_a _ (by decide)).trans (rd_wr_a _ (by decide))) ?_
                  refine pGo (s_goto (tgt := 230) dX11_goesOn_217 (by decide)) ?_
                  refine pGo (s_iast dX11_goesOn_230 (ob_134 S2) (bnd (g30 c2 c20 c21 v2 τ2 e2 q2 c24 c25 c27 c30 c31))) ?_
                  refine pGo (s_aload_n dX11_goesOn_231 rfl (by decide)) ?_
                  refine pGoE (y := 135) (s_getF pc11 fl_X11_214 dX11_goesOn_232 (ob_68 S2) rfl (by decide)) (by decide) ?_
                  refine pGo (s_iload_n dX11_goesOn_235 rfl) ?_
                  refine pGo (s_iconst dX11_goesOn_236) ?_
                  refine pGo (s_iadd dX11_goesOn_237) ?_
                  refine pGo (s_iload dX11_goesOn_238 rfl) ?_
                  refine p_ifeq (tgt := 256) dX11_goesOn_240 (by decide) (by decide) (fun q => absurd q (by decide)) (fun _ => ?_)
                  refine pGo (s_aload_n dX11_goesOn_243 rfl (by decide)) ?_
                  refine pGoE (y := 78) (s_getF pc11 fl_X11_42 dX11_goesOn_244 (ob_68 S2) rfl (by decide)) (by decide) ?_
                  refine pGo (s_bipush dX11_goesOn_247 (by decide)) ?_
                  refine pGo (s_iload dX11_goesOn_249 rfl) ?_
                  refine pGo (s_iadd dX11_goesOn_251) ?_
                  refine pGoE (y := (rd τ2 78 (6 + ((rd σ 138 x1) / 2)))) (s_iald dX11_goesOn_252 (ob_78 S2) (bnd (g22 c2 c20 c21 v2 τ2 e2 q2))) ((rd_wr_a _ (by decide)).trans ((rd_wr_a _ (by decide)).trans (rd_wr_a _ (by decide)))) ?_
                  refine pGo (s_goto (tgt := 262) dX11_goesOn_253 (by decide)) ?_
                  refine pGo (s_iast dX11_goesOn_262 (ob_135 S2) (bnd (g30 c2 c20 c21 v2 τ2 e2 q2 c24 c25 c27 c30 c31))) ?_
                  refine pGo (s_aload_n dX11_goesOn_263 rfl (by decide)) ?_
                  refine pGoE (y := 136) (s_getF pc11 fl_X11_217 dX11_goesOn_264 (ob_68 S2) rfl (by decide)) (by decide) ?_
                  refine pGo (s_iload_n dX11_goesOn_267 rfl) ?_
                  refine pGo (s_iconst dX11_goesOn_268) ?_
                  refine pGo (s_iadd dX11_goesOn_269) ?_
                  refine pGo (s_iload dX11_goesOn_270 rfl) ?_
                  refine p_ifeq (tgt := 284) dX11_goesOn_272 (by decide) (by decide) (fun q => absurd q (by decide)) (fun _ => ?_)
                  refine pGo (s_aload_n dX11_goesOn_275 rfl (by decide)) ?_
                  refine pGoE (y := 136) (s_getF pc11 fl_X11_217 dX11_goesOn_276 (ob_68 S2) rfl (by decide)) (by decide) ?_
                  refine pGo (s_iload_n dX11_goesOn_279 rfl) ?_
                  refine pGoE (y := (rd τ2 136 x1)) (s_iald dX11_goesOn_280 (ob_136 S2) (bnd g1)) ((rd_wr_a _ (by decide)).trans ((rd_wr_a _ (by decide)).trans ((rd_wr_a _ (by decide)).trans (rd_wr_a _ (by decide))))) ?_
                  refine pGo (s_goto (tgt := 286) dX11_goesOn_281 (by decide)) ?_
                  refine pGo (s_iast dX11_goesOn_286 (ob_136 S2) (bnd (g30 c2 c20 c21 v2 τ2 e2 q2 c24 c25 c27 c30 c31))) ?_
                  refine pGo (s_aload_n dX11_goesOn_287 rfl (by decide)) ?_
                  refine pGoE (y := 137) (s_getF pc11 fl_X11_220 dX11_goesOn_288 (ob_68 S2) rfl (by decide)) (by decide) ?_
                  refine pGo (s_iload_n dX11_goesOn_291 rfl) ?_
                  refine pGo (s_iconst dX11_goesOn_292) ?_
                  refine pGo (s_iadd dX11_goesOn_293) ?_
                  refine pGo (s_iload dX11_goesOn_294 rfl) ?_
                  refine p_ifeq (tgt := 304) dX11_goesOn_296 (by decide) (by decide) (fun q => absurd q (by decide)) (fun _ => ?_)
                  refine pGo (s_iload dX11_goesOn_299 rfl) ?_
                  refine pGo (s_goto (tgt := 310) dX11_goesOn_301 (by decide)) ?_
                  refine pGo (s_iast dX11_goesOn_310 (ob_137 S2) (bnd (g30 c2 c20 c21 v2 τ2 e2 q2 c24 c25 c27 c30 c31))) ?_
                  refine pGo (s_iconst dX11_goesOn_311) ?_
                  exact pEnd (r := (some (0, 1))) dX11_goesOn_312 (Or.inr rfl) (k13 c2 c20 c21 v2 τ2 e2 q2 c24 c25 c27 c30 c31)
                · refine pGo (s_iconst dX11_goesOn_180) ?_
                  exact pEnd (r := (some (0, 0))) dX11_goesOn_181 (Or.inl rfl) (k14 c2 c20 c21 v2 τ2 e2 q2 c24 c25 c27 c30 c32)
            · refine pGo (s_iload dX11_goesOn_150 rfl) ?_
              refine pGo (s_goto (tgt := 157) dX11_goesOn_152 (by decide)) ?_
              refine pGo (s_aload_n dX11_goesOn_157 rfl (by decide)) ?_
              refine pGoE (y := 79) (s_getF pc11 fl_X11_45 dX11_goesOn_158 (ob_68 S2) rfl (by decide)) (by decide) ?_
              refine pGo (s_bipush dX11_goesOn_161 (by decide)) ?_
              refine pGo (s_iload dX11_goesOn_163 rfl) ?_
              refine pGo (s_iadd dX11_goesOn_165) ?_
              refine pGoE (y := (rd τ2 79 (6 + ((rd σ 138 x1) / 2)))) (s_iald dX11_goesOn_166 (ob_79 S2) (bnd (g22 c2 c20 c21 v2 τ2 e2 q2))) rfl ?_
              refine pGo (s_iadd dX11_goesOn_167) ?_
              refine pGoL (ls2 := [(2, 68), (0, x1), (0, x2), (0, x3), (0, ((rd σ 138 x1) / 2)), (0, 1), (0, v2), (0, (rd τ2 135 x1)), (0, (rd τ2 133 ((10 * (rd τ2 135 x1)) + (rd τ2 77 (6 + ((rd σ 138 x1) / 2)))))), (0, ((rd τ2 137 x1) + (rd τ2 133 ((10 * (rd τ2 135 x1)) + (rd τ2 77 (6 + ((rd σ 138 x1) / 2))))))), (0, (((rd τ2 137 x1) + (rd τ2 133 ((10 * (rd τ2 135 x1)) + (rd τ2 77 (6 + ((rd σ 138 x1) / 2)))))) + (rd τ2 79 (6 + ((rd σ 138 x1) / 2)))))]) (s_istore dX11_goesOn_168 (by decide) rfl) rfl ?_
              refine pGo (s_iload_n dX11_goesOn_170 rfl) ?_
              refine p_iflt (tgt := 182) dX11_goesOn_171 (by decide) (g31 c2 c20 c21 v2 τ2 e2 q2 c24 c25 c28) (fun c33 => ?_) (fun c34 => ?_)
              · refine pGo (s_aload_n dX11_goesOn_182 rfl (by decide)) ?_
                refine pGoE (y := 139) (s_getF pc11 fl_X11_226 dX11_goesOn_183 (ob_68 S2) rfl (by decide)) (by decide) ?_
                refine pGo (s_iload dX11_goesOn_186 rfl) ?_
                refine pGo (s_iload dX11_goesOn_188 rfl) ?_
                refine pGo (s_iast dX11_goesOn_190 (ob_139 S2) (bnd (g20 c2 c20))) ?_
                refine pGo (s_aload_n dX11_goesOn_191 rfl (by decide)) ?_
                refine pGoE (y := 140) (s_getF pc11 fl_X11_229 dX11_goesOn_192 (ob_68 S2) rfl (by decide)) (by decide) ?_
                refine pGo (s_iload_n dX11_goesOn_195 rfl) ?_
                refine pGo (s_iload dX11_goesOn_196 rfl) ?_
                refine pGo (s_iast dX11_goesOn_198 (ob_140 S2) (bnd g1)) ?_
                refine pGo (s_aload_n dX11_goesOn_199 rfl (by decide)) ?_
                refine pGoE (y := 134) (s_getF pc11 fl_X11_211 dX11_goesOn_200 (ob_68 S2) rfl (by decide)) (by decide) ?_
                refine pGo (s_iload_n dX11_goesOn_203 rfl) ?_
                refine pGo (s_iconst dX11_goesOn_204) ?_
                refine pGo (s_iadd dX11_goesOn_205) ?_
                refine pGo (s_iload dX11_goesOn_206 rfl) ?_
                refine p_ifeq (tgt := 220) dX11_goesOn_208 (by decide) (by decide) (fun q => absurd q (by decide)) (fun _ => ?_)
                refine pGo (s_aload_n dX11_goesOn_211 rfl (by decide)) ?_
                refine pGoE (y := 134) (s_getF pc11 fl_X11_211 dX11_goesOn_212 (ob_68 S2) rfl (by decide)) (by decide) ?_
                refine pGo (s_iload_n dX11_goesOn_215 rfl) ?_
                refine pGoE (y := (rd τ2 134 x1)) (s_iald dX11_goesOn_216 (ob_134 S2) (bnd g1)) ((rd_wr_a _ (by decide)).trans (rd_wr_a _ (by decide))) ?_
                refine pGo (s_goto (tgt := 230) dX11_goesOn_217 (by decide)) ?_
                refine pGo (s_iast dX11_goesOn_230 (ob_134 S2) (bnd (g32 c2 c20 c21 v2 τ2 e2 q2 c24 c25 c28 c33))) ?_
                refine pGo (s_aload_n dX11_goesOn_231 rfl (by decide)) ?_
                refine pGoE (y := 135) (s_getF pc11 fl_X11_214 dX11_goesOn_232 (ob_68 S2) rfl (by decide)) (by decide) ?_
                refine pGo (s_iload_n dX11_goesOn_235 rfl) ?_
                refine pGo (s_iconst dX11_goesOn_236) ?_
                refine pGo (s_iadd dX11_goesOn_237) ?_
                refine pGo (s_iload dX11_goesOn_238 rfl) ?_
                refine p_ifeq (tgt := 256) dX11_goesOn_240 (by decide) (by decide) (fun q => absurd q (by decide)) (fun _ => ?_)
                refine pGo (s_aload_n dX11_goesOn_243 rfl (by decide)) ?_
                refine pGoE (y := 78) (s_getF pc11 fl_X11_42 dX11_goesOn_244 (ob_68 S2) rfl (by decide)) (by decide) ?_
                refine pGo (s_bipush dX11_goesOn_247 (by decide)) ?_
                refine pGo (s_iload dX11_goesOn_249 rfl) ?_
                refine pGo (s_iadd dX11_goesOn_251) ?_
                refine pGoE (y := (rd τ2 78 (6 + ((rd σ 138 x1) / 2)))) (s_iald dX11_goesOn_252 (ob_78 S2) (bnd (g22 c2 c20 c21 v2 τ2 e2 q2))) ((rd_wr_a _ (by decide)).trans ((rd_wr_a _ (by decide)).trans (rd_wr_a _ (by decide)))) ?_
                refine pGo (s_goto (tgt := 262) dX11_goesOn_253 (by decide)) ?_
                refine pGo (s_iast dX11_goesOn_262 (ob_135 S2) (bnd (g32 c2 c20 c21 v2 τ2 e2 q2 c24 c25 c28 c33))) ?_
                refine pGo (s_aload_n dX11_goesOn_263 rfl (by decide)) ?_
                refine pGoE (y := 136) (s_getF pc11 fl_X11_217 dX11_goesOn_264 (ob_68 S2) rfl (by decide)) (by decide) ?_
                refine pGo (s_iload_n dX11_goesOn_267 rfl) ?_
                refine pGo (s_iconst dX11_goesOn_268) ?_
                refine pGo (s_iadd dX11_goesOn_269) ?_
                refine pGo (s_iload dX11_goesOn_270 rfl) ?_
                refine p_ifeq (tgt := 284) dX11_goesOn_272 (by decide) (by decide) (fun q => absurd q (by decide)) (fun _ => ?_)
                refine pGo (s_aload_n dX11_goesOn_275 rfl (by decide)) ?_
                refine pGoE (y := 136) (s_getF pc11 fl_X11_217 dX11_goesOn_276 (ob_68 S2) rfl (by decide)) (by decide) ?_
                refine pGo (s_iload_n dX11_goesOn_279 rfl) ?_
                refine pGoE (y := (rd τ2 136 x1)) (s_iald dX11_goesOn_280 (ob_136 S2) (bnd g1)) ((rd_wr_a _ (by decide)).trans ((rd_wr_a _ (by decide)).trans ((rd_wr_a _ (by decide)).trans (rd_wr_a _ (by decide))))) ?_
                refine pGo (s_goto (tgt := 286) dX11_goesOn_281 (by decide)) ?_
                refine pGo (s_iast dX11_goesOn_286 (ob_136 S2) (bnd (g32 c2 c20 c21 v2 τ2 e2 q2 c24 c25 c28 c33))) ?_
                refine pGo (s_aload_n dX11_goesOn_287 rfl (by decide)) ?_
                refine pGoE (y := 137) (s_getF pc11 fl_X11_220 dX11_goesOn_288 (ob_68 S2) rfl (by decide)) (by decide) ?_
                refine pGo (s_iload_n dX11_goesOn_291 rfl) ?_
                refine pGo (s_iconst dX11_goesOn_292) ?_
                refine pGo (s_iadd dX11_goesOn_293) ?_
                refine pGo (s_iload dX11_goesOn_294 rfl) ?_
                refine p_ifeq (tgt := 304) dX11_goesOn_296 (by decide) (by decide) (fun q => absurd q (by decide)) (fun _ => ?_)
                refine pGo (s_iload dX11_goesOn_299 rfl) ?_
                refine pGo (s_goto (tgt := 310) dX11_goesOn_301 (by decide)) ?_
                refine pGo (s_iast dX11_goesOn_310 (ob_137 S2) (bnd (g32 c2 c20 c21 v2 τ2 e2 q2 c24 c25 c28 c33))) ?_
                refine pGo (s_iconst dX11_goesOn_311) ?_
                exact pEnd (r := (some (0, 1))) dX11_goesOn_312 (Or.inr rfl) (k15 c2 c20 c21 v2 τ2 e2 q2 c24 c25 c28 c33)
              · refine pGo (s_iload dX11_goesOn_174 rfl) ?_
                refine pGo (s_iload_n dX11_goesOn_176 rfl) ?_
                refine p_iclt (tgt := 182) dX11_goesOn_177 (by decide) (g33 c2 c20 c21 v2 τ2 e2 q2 c24 c25 c28 c34) (g31 c2 c20 c21 v2 τ2 e2 q2 c24 c25 c28) (fun c35 => ?_) (fun c36 => ?_)
                · refine pGo (s_aload_n dX11_goesOn_182 rfl (by decide)) ?_
                  refine pGoE (y := 139) (s_getF pc11 fl_X11_226 dX11_goesOn_183 (ob_68 S2) rfl (by decide)) (by decide) ?_
                  refine pGo (s_iload dX11_goesOn_186 rfl) ?_
                  refine pGo (s_iload dX11_goesOn_188 rfl) ?_
                  refine pGo (s_iast dX11_goesOn_190 (ob_139 S2) (bnd (g20 c2 c20))) ?_
                  refine pGo (s_aload_n dX11_goesOn_191 rfl (by decide)) ?_
                  refine pGoE (y := 140) (s_getF pc11 fl_X11_229 dX11_goesOn_192 (ob_68 S2) rfl (by decide)) (by decide) ?_
                  refine pGo (s_iload_n dX11_goesOn_195 rfl) ?_
                  refine pGo (s_iload dX11_goesOn_196 rfl) ?_
                  refine pGo (s_iast dX11_goesOn_198 (ob_140 S2) (bnd g1)) ?_
                  refine pGo (s_aload_n dX11_goesOn_199 rfl (by decide)) ?_
                  refine pGoE (y := 134) (s_getF pc11 fl_X11_211 dX11_goesOn_200 (ob_68 S2) rfl (by decide)) (by decide) ?_
                  refine pGo (s_iload_n dX11_goesOn_203 rfl) ?_
                  refine pGo (s_iconst dX11_goesOn_204) ?_
                  refine pGo (s_iadd dX11_goesOn_205) ?_
                  refine pGo (s_iload dX11_goesOn_206 rfl) ?_
                  refine p_ifeq (tgt := 220) dX11_goesOn_208 (by decide) (by decide) (fun q => absurd q (by decide)) (fun _ => ?_)
                  refine pGo (s_aload_n dX11_goesOn_211 rfl (by decide)) ?_
                  refine pGoE (y := 134) (s_getF pc11 fl_X11_211 dX11_goesOn_212 (ob_68 S2) rfl (by decide)) (by decide) ?_
                  refine pGo (s_iload_n dX11_goesOn_215 rfl) ?_
                  refine pGoE (y := (rd τ2 134 x1)) (s_iald dX11_goesOn_216 (ob_134 S2) (bnd g1)) ((rd_wr_a _ (by decide)).trans (rd_wr_a _ (by decide))) ?_
                  refine pGo (s_goto (tgt := 230) dX11_goesOn_217 (by decide)) ?_
                  refine pGo (s_iast dX11_goesOn_230 (ob_134 S2) (bnd (g34 c2 c20 c21 v2 τ2 e2 q2 c24 c25 c28 c34 c35))) ?_
                  refine pGo (s_aload_n dX11_goesOn_231 rfl (by decide)) ?_
                  refine pGoE (y := 135) (s_getF pc11 fl_X11_214 dX11_goesOn_232 (ob_68 S2) rfl (by decide)) (by decide) ?_
                  refine pGo (s_iload_n dX11_goesOn_235 rfl) ?_
                  refine pGo (s_iconst dX11_goesOn_236) ?_
                  refine pGo (s_iadd dX11_goesOn_237) ?_
                  refine pGo (s_iload dX11_goesOn_238 rfl) ?_
                  refine p_ifeq (tgt := 256) dX11_goesOn_240 (by decide) (by decide) (fun q => absurd q (by decide)) (fun _ => ?_)
                  refine pGo (s_aload_n dX11_goesOn_243 rfl (by decide)) ?_
                  refine pGoE (y := 78) (s_getF pc11 fl_X11_42 dX11_goesOn_244 (ob_68 S2) rfl (by decide)) (by decide) ?_
                  refine pGo (s_bipush dX11_goesOn_247 (by decide)) ?_
                  refine pGo (s_iload dX11_goesOn_249 rfl) ?_
                  refine pGo (s_iadd dX11_goesOn_251) ?_
                  refine pGoE (y := (rd τ2 78 (6 + ((rd σ 138 x1) / 2)))) (s_iald dX11_goesOn_252 (ob_78 S2) (bnd (g22 c2 c20 c21 v2 τ2 e2 q2))) ((rd_wr_a _ (by decide)).trans ((rd_wr_a _ (by decide)).trans (rd_wr_a _ (by decide)))) ?_
                  refine pGo (s_goto (tgt := 262) dX11_goesOn_253 (by decide)) ?_
                  refine pGo (s_iast dX11_goesOn_262 (ob_135 S2) (bnd (g34 c2 c20 c21 v2 τ2 e2 q2 c24 c25 c28 c34 c35))) ?_
                  refine pGo (s_aload_n dX11_goesOn_263 rfl (by decide)) ?_
                  refine pGoE (y := 136) (s_getF pc11 fl_X11_217 dX11_goesOn_264 (ob_68 S2) rfl (by decide)) (by decide) ?_
                  refine pGo (s_iload_n dX11_goesOn_267 rfl) ?_
                  refine pGo (s_iconst dX11_goesOn_268) ?_
                  refine pGo (s_iadd dX11_goesOn_269) ?_
                  refine pGo (s_iload dX11_goesOn_270 rfl) ?_
                  refine p_ifeq (tgt := 284) dX11_goesOn_272 (by decide) (by decide) (fun q => absurd q (by decide)) (fun _ => ?_)
                  refine pGo (s_aload_n dX11_goesOn_275 rfl (by decide)) ?_
                  refine pGoE (y := 136) (s_getF pc11 fl_X11_217 dX11_goesOn_276 (ob_68 S2) rfl (by decide)) (by decide) ?_
                  refine pGo (s_iload_n dX11_goesOn_279 rfl) ?_
                  refine pGoE (y := (rd τ2 136 x1)) (s_iald dX11_goesOn_280 (ob_136 S2) (bnd g1)) ((rd_wr_a _ (by decide)).trans ((rd_wr_a _ (by decide)).trans ((rd_wr_a _ (by decide)).trans (rd_wr_a _ (by decide))))) ?_
                  refine pGo (s_goto (tgt := 286) dX11_goesOn_281 (by decide)) ?_
                  refine pGo (s_iast dX11_goesOn_286 (ob_136 S2) (bnd (g34 c2 c20 c21 v2 τ2 e2 q2 c24 c25 c28 c34 c35))) ?_
                  refine pGo (s_aload_n dX11_goesOn_287 rfl (by decide)) ?_
                  refine pGoE (y := 137) (s_getF pc11 fl_X11_220 dX11_goesOn_288 (ob_68 S2) rfl (by decide)) (by decide) ?_
                  refine pGo (s_iload_n dX11_goesOn_291 rfl) ?_
                  refine pGo (s_iconst dX11_goesOn_292) ?_
                  refine pGo (s_iadd dX11_goesOn_293) ?_
                  refine pGo (s_iload dX11_goesOn_294 rfl) ?_
                  refine p_ifeq (tgt := 304) dX11_goesOn_296 (by decide) (by decide) (fun q => absurd q (by decide)) (fun _ => ?_)
                  refine pGo (s_iload dX11_goesOn_299 rfl) ?_
                  refine pGo (s_goto (tgt := 310) dX11_goesOn_301 (by decide)) ?_
                  refine pGo (s_iast dX11_goesOn_310 (ob_137 S2) (bnd (g34 c2 c20 c21 v2 τ2 e2 q2 c24 c25 c28 c34 c35))) ?_
                  refine pGo (s_iconst dX11_goesOn_311) ?_
                  exact pEnd (r := (some (0, 1))) dX11_goesOn_312 (Or.inr rfl) (k16 c2 c20 c21 v2 τ2 e2 q2 c24 c25 c28 c34 c35)
                · refine pGo (s_iconst dX11_goesOn_180) ?_
                  exact pEnd (r := (some (0, 0))) dX11_goesOn_181 (Or.inl rfl) (k17 c2 c20 c21 v2 τ2 e2 q2 c24 c25 c28 c34 c36)
          · refine pGo (s_iconst dX11_goesOn_116) ?_
            exact pEnd (r := (some (0, 0))) dX11_goesOn_117 (Or.inl rfl) (k18 c2 c20 c21 v2 τ2 e2 q2 c24 c26)
      · refine pGo (s_iconst dX11_goesOn_49) ?_
        exact pEnd (r := (some (0, 0))) dX11_goesOn_50 (Or.inl rfl) (k19 c2 c20 c22)
set_option maxRecDepth 100000 in
theorem g_X11_sweep_0 {d : Nat} {σ : pS} {Q : Option pV → pS → Prop} (hd : 2 ≤ d) (hst : Stat σ) (x1 : Int) (x2 : Int)  (f1 : pC mX11_isPlace 0 [(0, x1)] σ (fun r τ => r = some (0, b2i (vWithin x1 10)) ∧ τ = σ)) (k1 : ∀ (c1 : (vWithin x1 10) = false), Q (some (0, (-1))) σ) (g1 : ∀ (c2 : (vWithin x1 10) = true), inR x2) (k2 : ∀ (c2 : (vWithin x1 10) = true) (c3 : x2 < 1), Q (some (0, (-1))) σ) (g2 : ∀ (c2 : (vWithin x1 10) = true) (c4 : 1 ≤ x2) (c5 : x2 ≤ 2), inR (rd σ 68 31)) (k3 : ∀ (c2 : (vWithin x1 10) = true) (c4 : 1 ≤ x2) (c5 : x2 ≤ 2) (c7 : (rd σ 68 31) ≠ 0), pR mX11_sweep d 30 [(2, 68), (0, x1), (0, x2), (0, 0), (9, 0), (9, 0), (9, 0)] [] σ Q) (k4 : ∀ (c2 : (vWithin x1 10) = true) (c4 : 1 ≤ x2) (c5 : x2 ≤ 2) (c8 : (rd σ 68 31) = 0), Q (some (0, 0)) σ) (k5 : ∀ (c2 : (vWithin x1 10) = true) (c4 : 1 ≤ x2) (c6 : 2 < x2), Q (some (0, (-1))) σ) : pC mX11_sweep d [(2, 68), (0, x1), (0, x2)] σ Q := by
  show pR mX11_sweep d 0 [(2, 68), (0, x1), (0, x2), (9, 0), (9, 0), (9, 0), (9, 0)] [] σ Q
  refine pGo (s_iload_n dX11_sweep_0 rfl) ?_
  refine p_callS (As := [(0, x1)]) (st := []) (n := 1) (d' := 0) (Q1 := (fun r τ => r = some (0, b2i (vWithin x1 10)) ∧ τ = σ)) ok_X11_isPlace ml_X11_496 sm_X11_isPlace dX11_sweep_1 (pargs_of rfl) rfl (Nat.le_of_ble_eq_true rfl) (by omega) f1 (fun r1 τ1 e1 q1 w1 => ?_)
  obtain ⟨rfl, t1⟩ := q1
  rw [t1]
  show pR mX11_sweep d 4 [(2, 68), (0, x1), (0, x2), (9, 0), (9, 0), (9, 0), (9, 0)] [(0, (b2i (vWithin x1 10)))] σ Q
  refine p_ifeqB (tgt := 17) dX11_sweep_4 (by decide) (fun c1 => ?_) (fun c2 => ?_)
  · refine pGo (s_iconst dX11_sweep_17) ?_
    exact pEnd (r := (some (0, (-1)))) dX11_sweep_18 ⟨_, rfl⟩ (k1 c1)
  · refine pGo (s_iload_n dX11_sweep_7 rfl) ?_
    refine pGo (s_iconst dX11_sweep_8) ?_
    refine p_iclt (tgt := 17) dX11_sweep_9 (by decide) (g1 c2) (by decide) (fun c3 => ?_) (fun c4 => ?_)
    · refine pGo (s_iconst dX11_sweep_17) ?_
      exact pEnd (r := (some (0, (-1)))) dX11_sweep_18 ⟨_, rfl⟩ (k2 c2 c3)
    · refine pGo (s_iload_n dX11_sweep_12 rfl) ?_
      refine pGo (s_iconst dX11_sweep_13) ?_
      refine p_icle (tgt := 19) dX11_sweep_14 (by decide) (g1 c2) (by decide) (fun c5 => ?_) (fun c6 => ?_)
      · refine pGo (s_aload_n dX11_sweep_19 rfl (by decide)) ?_
        refine pGoE (y := (rd σ 68 31)) (s_getI pc11 fl_X11_369 dX11_sweep_20 (ob_68 hst) rfl (by decide)) rfl ?_
        refine p_ifne (tgt := 28) dX11_sweep_23 (by decide) (g2 c2 c4 c5) (fun c7 => ?_) (fun c8 => ?_)
        · refine pGo (s_iconst dX11_sweep_28) ?_
          refine pGoL (ls2 := [(2, 68), (0, x1), (0, x2), (0, 0), (9, 0), (9, 0), (9, 0)]) (s_istore_n dX11_sweep_29 (by decide) rfl) rfl ?_
          exact (k3 c2 c4 c5 c7)
        · refine pGo (s_iconst dX11_sweep_26) ?_
          exact pEnd (r := (some (0, 0))) dX11_sweep_27 ⟨_, rfl⟩ (k4 c2 c4 c5 c8)
      · refine pGo (s_iconst dX11_sweep_17) ?_
        exact pEnd (r := (some (0, (-1)))) dX11_sweep_18 ⟨_, rfl⟩ (k5 c2 c4 c6)
set_option maxRecDepth 100000 in
theorem g_X11_sweep_30 {d : Nat} {σ : pS} {Q : Option pV → pS → Prop} (hd : 2 ≤ d) (hst : Stat σ) (x1 : Int) (x2 : Int) (x3 : Int) (u4 : pV) (u5 : pV) (u6 : pV) (hu4 : u4.1 ≠ 1) (hu5 : u5.1 ≠ 1) (hu6 : u6.1 ≠ 1) (g1 : inR x3) (k1 : ∀ (c1 : 7 ≤ x3), pR mX11_sweep d 89 [(2, 68), (0, x1), (0, x2), (0, 0), (0, (-1)), u5, u6] [] (wr (wr (wr (wr (wr σ 134 0 x1) 135 0 x1) 136 0 0) 137 0 0) 138 0 (-1)) Q) (g2 : ∀ (c2 : x3 < 7), 0 ≤ x3 ∧ x3 < 7) (k2 : ∀ (c2 : x3 < 7), pR mX11_sweep d 30 [(2, 68), (0, x1), (0, x2), (0, (x3 + 1)), u4, u5, u6] [] (wr σ 139 x3 (-1)) Q) : pR mX11_sweep d 30 [(2, 68), (0, x1), (0, x2), (0, x3), u4, u5, u6] [] σ Q := by
  refine pGo (s_iload_n dX11_sweep_30 rfl) ?_
  refine pGo (s_bipush dX11_sweep_31 (by decide)) ?_
  refine p_icge (tgt := 49) dX11_sweep_33 (by decide) g1 (by decide) (fun c1 => ?_) (fun c2 => ?_)
  · refine pGo (s_aload_n dX11_sweep_49 rfl (by decide)) ?_
    refine pGoE (y := 134) (s_getF pc11 fl_X11_211 dX11_sweep_50 (ob_68 hst) rfl (by decide)) (by decide) ?_
    refine pGo (s_iconst dX11_sweep_53) ?_
    refine pGo (s_iload_n dX11_sweep_54 rfl) ?_
    refine pGo (s_iast dX11_sweep_55 (ob_134 hst) (by decide)) ?_
    refine pGo (s_aload_n dX11_sweep_56 rfl (by decide)) ?_
    refine pGoE (y := 135) (s_getF pc11 fl_X11_214 dX11_sweep_57 (ob_68 hst) rfl (by decide)) (by decide) ?_
    refine pGo (s_iconst dX11_sweep_60) ?_
    refine pGo (s_iload_n dX11_sweep_61 rfl) ?_
    refine pGo (s_iast dX11_sweep_62 (ob_135 hst) (by decide)) ?_
    refine pGo (s_aload_n dX11_sweep_63 rfl (by decide)) ?_
    refine pGoE (y := 136) (s_getF pc11 fl_X11_217 dX11_sweep_64 (ob_68 hst) rfl (by decide)) (by decide) ?_
    refine pGo (s_iconst dX11_sweep_67) ?_
    refine pGo (s_iconst dX11_sweep_68) ?_
    refine pGo (s_iast dX11_sweep_69 (ob_136 hst) (by decide)) ?_
    refine pGo (s_aload_n dX11_sweep_70 rfl (by decide)) ?_
    refine pGoE (y := 137) (s_getF pc11 fl_X11_220 dX11_sweep_71 (ob_68 hst) rfl (by decide)) (by decide) ?_
    refine pGo (s_iconst dX11_sweep_74) ?_
    refine pGo (s_iconst dX11_sweep_75) ?_
    refine pGo (s_iast dX11_sweep_76 (ob_137 hst) (by decide)) ?_
    refine pGo (s_aload_n dX11_sweep_77 rfl (by decide)) ?_
    refine pGoE (y := 138) (s_getF pc11 fl_X11_223 dX11_sweep_78 (ob_68 hst) rfl (by decide)) (by decide) ?_
    refine pGo (s_iconst dX11_sweep_81) ?_
    refine pGo (s_iconst dX11_sweep_82) ?_
    refine pGo (s_iast dX11_sweep_83 (ob_138 hst) (by decide)) ?_
    refine pGo (s_iconst dX11_sweep_84) ?_
    refine pGoL (ls2 := [(2, 68), (0, x1), (0, x2), (0, 0), u4, u5, u6]) (s_istore_n dX11_sweep_85 (by decide) rfl) rfl ?_
    refine pGo (s_iconst dX11_sweep_86) ?_
    refine pGoL (ls2 := [(2, 68), (0, x1), (0, x2), (0, 0), (0, (-1)), u5, u6]) (s_istore dX11_sweep_87 (by decide) rfl) rfl ?_
    exact (k1 c1)
  · refine pGo (s_aload_n dX11_sweep_36 rfl (by decide)) ?_
    refine pGoE (y := 139) (s_getF pc11 fl_X11_226 dX11_sweep_37 (ob_68 hst) rfl (by decide)) (by decide) ?_
    refine pGo (s_iload_n dX11_sweep_40 rfl) ?_
    refine pGo (s_iconst dX11_sweep_41) ?_
    refine pGo (s_iast dX11_sweep_42 (ob_139 hst) (bnd (g2 c2))) ?_
    refine pGoL (ls2 := [(2, 68), (0, x1), (0, x2), (0, (x3 + 1)), u4, u5, u6]) (s_iinc dX11_sweep_43 (by decide) rfl rfl) rfl ?_
    refine pGo (s_goto (tgt := 30) dX11_sweep_46 (by decide)) ?_
    exact (k2 c2)
set_option maxRecDepth 100000 in
theorem g_X11_sweep_89 {d : Nat} {σ : pS} {Q : Option pV → pS → Prop} (hd : 2 ≤ d) (hst : Stat σ) (x1 : Int) (x2 : Int) (x3 : Int) (x4 : Int) (u5 : pV) (u6 : pV) (hu5 : u5.1 ≠ 1) (hu6 : u6.1 ≠ 1) (g1 : inR x3) (k1 : ∀ (c1 : x3 < 0), Q (some (0, x4)) σ) (g2 : ∀ (c2 : 0 ≤ x3), 0 ≤ x3 ∧ x3 < 8) (g3 : ∀ (c2 : 0 ≤ x3), inR (rd σ 138 x3)) (k2 : ∀ (c2 : 0 ≤ x3) (c3 : (rd σ 138 x3) < 0), pR mX11_sweep d 123 [(2, 68), (0, x1), (0, x2), (0, x3), (0, x4), u5, u6] [] σ Q) (g4 : ∀ (c2 : 0 ≤ x3) (c4 : 0 ≤ (rd σ 138 x3)), inR (rd σ 140 x3)) (k3 : ∀ (c2 : 0 ≤ x3) (c4 : 0 ≤ (rd σ 138 x3)) (c5 : (rd σ 140 x3) < 0), pR mX11_sweep d 123 [(2, 68), (0, x1), (0, x2), (0, x3), (0, x4), u5, u6] [] σ Q) (g5 : ∀ (c2 : 0 ≤ x3) (c4 : 0 ≤ (rd σ 138 x3)) (c6 : 0 ≤ (rd σ 140 x3)), 0 ≤ (rd σ 140 x3) ∧ (rd σ 140 x3) < 7) (k4 : ∀ (c2 : 0 ≤ x3) (c4 : 0 ≤ (rd σ 138 x3)) (c6 : 0 ≤ (rd σ 140 x3)), pR mX11_sweep d 123 [(2, 68), (0, x1), (0, x2), (0, x3), (0, x4), u5, u6] [] (wr σ 139 (rd σ 140 x3) (-1)) Q) : pR mX11_sweep d 89 [(2, 68), (0, x1), (0, x2), (0, x3), (0, x4), u5, u6] [] σ Q := by
  refine pGo (s_iload_n dX11_sweep_89 rfl) ?_
  refine p_iflt (tgt := 276) dX11_sweep_90 (by decide) g1 (fun c1 => ?_) (fun c2 => ?_)
  · refine pGo (s_iload dX11_sweep_276 rfl) ?_
    exact pEnd (r := (some (0, x4))) dX11_sweep_278 ⟨_, rfl⟩ (k1 c1)
  · refine pGo (s_aload_n dX11_sweep_93 rfl (by decide)) ?_
    refine pGoE (y := 138) (s_getF pc11 fl_X11_223 dX11_sweep_94 (ob_68 hst) rfl (by decide)) (by decide) ?_
    refine pGo (s_iload_n dX11_sweep_97 rfl) ?_
    refine pGoE (y := (rd σ 138 x3)) (s_iald dX11_sweep_98 (ob_138 hst) (bnd (g2 c2))) rfl ?_
    refine p_iflt (tgt := 123) dX11_sweep_99 (by decide) (g3 c2) (fun c3 => ?_) (fun c4 => ?_)
    · exact (k2 c2 c3)
    · refine pGo (s_aload_n dX11_sweep_102 rfl (by decide)) ?_
      refine pGoE (y := 140) (s_getF pc11 fl_X11_229 dX11_sweep_103 (ob_68 hst) rfl (by decide)) (by decide) ?_
      refine pGo (s_iload_n dX11_sweep_106 rfl) ?_
      refine pGoE (y := (rd σ 140 x3)) (s_iald dX11_sweep_107 (ob_140 hst) (bnd (g2 c2))) rfl ?_
      refine p_iflt (tgt := 123) dX11_sweep_108 (by decide) (g4 c2 c4) (fun c5 => ?_) (fun c6 => ?_)
      · exact (k3 c2 c4 c5)
      · refine pGo (s_aload_n dX11_sweep_111 rfl (by decide)) ?_
        refine pGoE (y := 139) (s_getF pc11 fl_X11_226 dX11_sweep_112 (ob_68 hst) rfl (by decide)) (by decide) ?_
        refine pGo (s_aload_n dX11_sweep_115 rfl (by decide)) ?_
        refine pGoE (y := 140) (s_getF pc11 fl_X11_229 dX11_sweep_116 (ob_68 hst) rfl (by decide)) (by decide) ?_
        refine pGo (s_iload_n dX11_sweep_119 rfl) ?_
        refine pGoE (y := (rd σ 140 x3)) (s_iald dX11_sweep_120 (ob_140 hst) (bnd (g2 c2))) rfl ?_
        refine pGo (s_iconst dX11_sweep_121) ?_
        refine pGo (s_iast dX11_sweep_122 (ob_139 hst) (bnd (g5 c2 c4 c6))) ?_
        exact (k4 c2 c4 c6)
set_option maxRecDepth 100000 in
theorem g_X11_sweep_123 {d : Nat} {σ : pS} {Q : Option pV → pS → Prop} {Q1 : Option pV → pS → Prop} (hd : 2 ≤ d) (hst : Stat σ) (x1 : Int) (x2 : Int) (x3 : Int) (x4 : Int) (u5 : pV) (u6 : pV) (hu5 : u5.1 ≠ 1) (hu6 : u6.1 ≠ 1) (g1 : 0 ≤ x3 ∧ x3 < 8) (g2 : inR ((rd σ 138 x3) + 1)) (g3 : inR (2 * (rd σ 68 31))) (f1 : ∀ (c1 : ((rd σ 138 x3) + 1) < (2 * (rd σ 68 31))), pC mX11_goesOn 1 [(2, 68), (0, x3), (0, x2), (0, x4)] (wr (wr σ 140 x3 (-1)) 138 x3 ((rd σ 138 x3) + 1)) Q1) (g4 : ∀ (c1 : ((rd σ 138 x3) + 1) < (2 * (rd σ 68 31))) (v1 : Int) (b1 : v1 = 0 ∨ v1 = 1) (τ1 : pS) (e1 : pLe (wr (wr σ 140 x3 (-1)) 138 x3 ((rd σ 138 x3) + 1)) τ1) (q1 : Q1 (some (0, v1)) τ1), inR v1) (g5 : ∀ (c1 : ((rd σ 138 x3) + 1) < (2 * (rd σ 68 31))) (v1 : Int) (b1 : v1 = 0 ∨ v1 = 1) (τ1 : pS) (e1 : pLe (wr (wr σ 140 x3 (-1)) 138 x3 ((rd σ 138 x3) + 1)) τ1) (q1 : Q1 (some (0, v1)) τ1) (c3 : v1 ≠ 0), inR (x3 + 1)) (g6 : ∀ (c1 : ((rd σ 138 x3) + 1) < (2 * (rd σ 68 31))) (v1 : Int) (b1 : v1 = 0 ∨ v1 = 1) (τ1 : pS) (e1 : pLe (wr (wr σ 140 x3 (-1)) 138 x3 ((rd σ 138 x3) + 1)) τ1) (q1 : Q1 (some (0, v1)) τ1) (c3 : v1 ≠ 0), inR (rd τ1 68 31)) (k1 : ∀ (c1 : ((rd σ 138 x3) + 1) < (2 * (rd σ 68 31))) (v1 : Int) (b1 : v1 = 0 ∨ v1 = 1) (τ1 : pS) (e1 : pLe (wr (wr σ 140 x3 (-1)) 138 x3 ((rd σ 138 x3) + 1)) τ1) (q1 : Q1 (some (0, v1)) τ1) (c3 : v1 ≠ 0) (c5 : (rd τ1 68 31) ≤ (x3 + 1)), pR mX11_sweep d 211 [(2, 68), (0, x1), (0, x2), (0, x3), (0, x4), (0, 0), (0, 0)] [] τ1 Q) (g7 : ∀ (c1 : ((rd σ 138 x3) + 1) < (2 * (rd σ 68 31))) (v1 : Int) (b1 : v1 = 0 ∨ v1 = 1) (τ1 : pS) (e1 : pLe (wr (wr σ 140 x3 (-1)) 138 x3 ((rd σ 138 x3) + 1)) τ1) (q1 : Q1 (some (0, v1)) τ1) (c3 : v1 ≠ 0) (c6 : (x3 + 1) < (rd τ1 68 31)), 0 ≤ (x3 + 1) ∧ (x3 + 1) < 8) (k2 : ∀ (c1 : ((rd σ 138 x3) + 1) < (2 * (rd σ 68 31))) (v1 : Int) (b1 : v1 = 0 ∨ v1 = 1) (τ1 : pS) (e1 : pLe (wr (wr σ 140 x3 (-1)) 138 x3 ((rd σ 138 x3) + 1)) τ1) (q1 : Q1 (some (0, v1)) τ1) (c3 : v1 ≠ 0) (c6 : (x3 + 1) < (rd τ1 68 31)), pR mX11_sweep d 89 [(2, 68), (0, x1), (0, x2), (0, (x3 + 1)), (0, x4), u5, u6] [] (wr (wr τ1 138 (x3 + 1) (-1)) 140 (x3 + 1) (-1)) Q) (k3 : ∀ (c1 : ((rd σ 138 x3) + 1) < (2 * (rd σ 68 31))) (v1 : Int) (b1 : v1 = 0 ∨ v1 = 1) (τ1 : pS) (e1 : pLe (wr (wr σ 140 x3 (-1)) 138 x3 ((rd σ 138 x3) + 1)) τ1) (q1 : Q1 (some (0, v1)) τ1) (c4 : v1 = 0), pR mX11_sweep d 89 [(2, 68), (0, x1), (0, x2), (0, x3), (0, x4), u5, u6] [] τ1 Q) (k4 : ∀ (c2 : (2 * (rd σ 68 31)) ≤ ((rd σ 138 x3) + 1)), pR mX11_sweep d 89 [(2, 68), (0, x1), (0, x2), (0, (x3 + (-1))), (0, x4), u5, u6] [] (wr (wr σ 140 x3 (-1)) 138 x3 ((rd σ 138 x3) + 1)) Q) : pR mX11_sweep d 123 [(2, 68), (0, x1), (0, x2), (0, x3), (0, x4), u5, u6] [] σ Q := by
  refine pGo (s_aload_n dX11_sweep_123 rfl (by decide)) ?_
  refine pGoE (y := 140) (s_getF pc11 fl_X11_229 dX11_sweep_124 (ob_68 hst) rfl (by decide)) (by decide) ?_
  refine pGo (s_iload_n dX11_sweep_127 rfl) ?_
  refine pGo (s_iconst dX11_sweep_128) ?_
  refine pGo (s_iast dX11_sweep_129 (ob_140 hst) (bnd g1)) ?_
  refine pGo (s_aload_n dX11_sweep_130 rfl (by decide)) ?_
  refine pGoE (y := 138) (s_getF pc11 fl_X11_223 dX11_sweep_131 (ob_68 hst) rfl (by decide)) (by decide) ?_
  refine pGo (s_iload_n dX11_sweep_134 rfl) ?_
  refine pGo (s_dup2 dX11_sweep_135 (show (0 : Nat) ≠ 1 by decide) (show (2 : Nat) ≠ 1 by decide)) ?_
  refine pGoE (y := (rd σ 138 x3)) (s_iald dX11_sweep_136 (ob_138 hst) (bnd g1)) (rd_wr_a _ (by decide)) ?_
  refine pGo (s_iconst dX11_sweep_137) ?_
  refine pGo (s_iadd dX11_sweep_138) ?_
  refine pGo (s_iast dX11_sweep_139 (ob_138 hst) (bnd g1)) ?_
  refine pGo (s_aload_n dX11_sweep_140 rfl (by decide)) ?_
  refine pGoE (y := 138) (s_getF pc11 fl_X11_223 dX11_sweep_141 (ob_68 hst) rfl (by decide)) (by decide) ?_
  refine pGo (s_iload_n dX11_sweep_144 rfl) ?_
  refine pGoE (y := ((rd σ 138 x3) + 1)) (s_iald dX11_sweep_145 (ob_138 hst) (bnd g1)) (rd_wr_same _ _ _ _) ?_
  refine pGo (s_iconst dX11_sweep_146) ?_
  refine pGo (s_aload_n dX11_sweep_147 rfl (by decide)) ?_
  refine pGoE (y := (rd σ 68 31)) (s_getI pc11 fl_X11_369 dX11_sweep_148 (ob_68 hst) rfl (by decide)) ((rd_wr_a _ (by decide)).trans (rd_wr_a _ (by decide))) ?_
  refine pGo (s_imul dX11_sweep_151) ?_
  refine p_iclt (tgt := 161) dX11_sweep_152 (by decide) g2 g3 (fun c1 => ?_) (fun c2 => ?_)
  · refine pGo (s_aload_n dX11_sweep_161 rfl (by decide)) ?_
    refine pGo (s_iload_n dX11_sweep_162 rfl) ?_
    refine pGo (s_iload_n dX11_sweep_163 rfl) ?_
    refine pGo (s_iload dX11_sweep_164 rfl) ?_
    refine p_callV (As := [(0, x3), (0, x2), (0, x4)]) (st := []) (n := 3) (d' := 1) (Q1 := Q1) pc11 ok_X11_goesOn ml_X11_554 im_X11_goesOn se_X11_goesOn dX11_sweep_166 (ob_68 hst) (pargs_of rfl) rfl (Nat.le_of_ble_eq_true rfl) (by omega) (f1 c1) (fun r1 τ1 e1 q1 w1 => ?_)
    obtain ⟨v1, rfl, b1⟩ := pRok_z w1
    have S1 : Stat τ1 := (Stat.le (σ := (wr (wr σ 140 x3 (-1)) 138 x3 ((rd σ 138 x3) + 1))) hst e1)
    show pR mX11_sweep d 169 [(2, 68), (0, x1), (0, x2), (0, x3), (0, x4), u5, u6] [(0, v1)] τ1 Q
    refine p_ifne (tgt := 175) dX11_sweep_169 (by decide) (g4 c1 v1 b1 τ1 e1 q1) (fun c3 => ?_) (fun c4 => ?_)
    · refine pGo (s_iload_n dX11_sweep_175 rfl) ?_
      refine pGo (s_iconst dX11_sweep_176) ?_
      refine pGo (s_iadd dX11_sweep_177) ?_
      refine pGo (s_aload_n dX11_sweep_178 rfl (by decide)) ?_
      refine pGoE (y := (rd τ1 68 31)) (s_getI pc11 fl_X11_369 dX11_sweep_179 (ob_68 S1) rfl (by decide)) rfl ?_
      refine p_icge (tgt := 205) dX11_sweep_182 (by decide) (g5 c1 v1 b1 τ1 e1 q1 c3) (g6 c1 v1 b1 τ1 e1 q1 c3) (fun c5 => ?_) (fun c6 => ?_)
      · refine pGo (s_iconst dX11_sweep_205) ?_
        refine pGoL (ls2 := [(2, 68), (0, x1), (0, x2), (0, x3), (0, x4), (0, 0), u6]) (s_istore dX11_sweep_206 (by decide) rfl) rfl ?_
        refine pGo (s_iconst dX11_sweep_208) ?_
        refine pGoL (ls2 := [(2, 68), (0, x1), (0, x2), (0, x3), (0, x4), (0, 0), (0, 0)]) (s_istore dX11_sweep_209 (by decide) rfl) rfl ?_
        exact (k1 c1 v1 b1 τ1 e1 q1 c3 c5)
      · refine pGoL (ls2 := [(2, 68), (0, x1), (0, x2), (0, (x3 + 1)), (0, x4), u5, u6]) (s_iinc dX11_sweep_185 (by decide) rfl rfl) rfl ?_
        refine pGo (s_aload_n dX11_sweep_188 rfl (by decide)) ?_
        refine pGoE (y := 138) (s_getF pc11 fl_X11_223 dX11_sweep_189 (ob_68 S1) rfl (by decide)) (by decide) ?_
        refine pGo (s_iload_n dX11_sweep_192 rfl) ?_
        refine pGo (s_iconst dX11_sweep_193) ?_
        refine pGo (s_iast dX11_sweep_194 (ob_138 S1) (bnd (g7 c1 v1 b1 τ1 e1 q1 c3 c6))) ?_
        refine pGo (s_aload_n dX11_sweep_195 rfl (by decide)) ?_
        refine pGoE (y := 140) (s_getF pc11 fl_X11_229 dX11_sweep_196 (ob_68 S1) rfl (by decide)) (by decide) ?_
        refine pGo (s_iload_n dX11_sweep_199 rfl) ?_
        refine pGo (s_iconst dX11_sweep_200) ?_
        refine pGo (s_iast dX11_sweep_201 (ob_140 S1) (bnd (g7 c1 v1 b1 τ1 e1 q1 c3 c6))) ?_
        refine pGo (s_goto (tgt := 89) dX11_sweep_202 (by decide)) ?_
        exact (k2 c1 v1 b1 τ1 e1 q1 c3 c6)
    · refine pGo (s_goto (tgt := 89) dX11_sweep_172 (by decide)) ?_
      exact (k3 c1 v1 b1 τ1 e1 q1 c4)
  · refine pGoL (ls2 := [(2, 68), (0, x1), (0, x2), (0, (x3 + (-1))), (0, x4), u5, u6]) (s_iinc dX11_sweep_155 (by decide) rfl rfl) rfl ?_
    refine pGo (s_goto (tgt := 89) dX11_sweep_158 (by decide)) ?_
    exact (k4 c2)
set_option maxRecDepth 100000 in
theorem g_X11_sweep_211 {d : Nat} {σ : pS} {Q : Option pV → pS → Prop} (hd : 2 ≤ d) (hst : Stat σ) (x1 : Int) (x2 : Int) (x3 : Int) (x4 : Int) (x5 : Int) (x6 : Int)  (g1 : inR x6) (g2 : inR (rd σ 68 31)) (g3 : ∀ (c1 : (rd σ 68 31) ≤ x6), inR x4) (k1 : ∀ (c1 : (rd σ 68 31) ≤ x6) (c3 : x4 < 0), pR mX11_sweep d 89 [(2, 68), (0, x1), (0, x2), (0, x3), (0, x5), (0, x5), (0, x6)] [] σ Q) (g4 : ∀ (c1 : (rd σ 68 31) ≤ x6) (c4 : 0 ≤ x4), inR x5) (k2 : ∀ (c1 : (rd σ 68 31) ≤ x6) (c4 : 0 ≤ x4) (c5 : x4 ≤ x5), pR mX11_sweep d 89 [(2, 68), (0, x1), (0, x2), (0, x3), (0, x4), (0, x5), (0, x6)] [] σ Q) (k3 : ∀ (c1 : (rd σ 68 31) ≤ x6) (c4 : 0 ≤ x4) (c6 : x5 < x4), pR mX11_sweep d 89 [(2, 68), (0, x1), (0, x2), (0, x3), (0, x5), (0, x5), (0, x6)] [] σ Q) (g5 : ∀ (c2 : x6 < (rd σ 68 31)), 0 ≤ x6 ∧ x6 < 7) (g6 : ∀ (c2 : x6 < (rd σ 68 31)), inR (rd σ 139 x6)) (g7 : ∀ (c2 : x6 < (rd σ 68 31)), inR x5) (k4 : ∀ (c2 : x6 < (rd σ 68 31)) (c7 : (rd σ 139 x6) ≤ x5), pR mX11_sweep d 211 [(2, 68), (0, x1), (0, x2), (0, x3), (0, x4), (0, x5), (0, (x6 + 1))] [] σ Q) (k5 : ∀ (c2 : x6 < (rd σ 68 31)) (c8 : x5 < (rd σ 139 x6)), pR mX11_sweep d 211 [(2, 68), (0, x1), (0, x2), (0, x3), (0, x4), (0, (rd σ 139 x6)), (0, (x6 + 1))] [] σ Q) : pR mX11_sweep d 211 [(2, 68), (0, x1), (0, x2), (0, x3), (0, x4), (0, x5), (0, x6)] [] σ Q := by
  refine pGo (s_iload dX11_sweep_211 rfl) ?_
  refine pGo (s_aload_n dX11_sweep_213 rfl (by decide)) ?_
  refine pGoE (y := (rd σ 68 31)) (s_getI pc11 fl_X11_369 dX11_sweep_214 (ob_68 hst) rfl (by decide)) rfl ?_
  refine p_icge (tgt := 252) dX11_sweep_217 (by decide) g1 g2 (fun c1 => ?_) (fun c2 => ?_)
  · refine pGo (s_iload dX11_sweep_252 rfl) ?_
    refine p_iflt (tgt := 264) dX11_sweep_254 (by decide) (g3 c1) (fun c3 => ?_) (fun c4 => ?_)
    · refine pGo (s_iload dX11_sweep_264 rfl) ?_
      refine pGo (s_goto (tgt := 271) dX11_sweep_266 (by decide)) ?_
      refine pGoL (ls2 := [(2, 68), (0, x1), (0, x2), (0, x3), (0, x5), (0, x5), (0, x6)]) (s_istore dX11_sweep_271 (by decide) rfl) rfl ?_
      refine pGo (s_goto (tgt := 89) dX11_sweep_273 (by decide)) ?_
      exact (k1 c1 c3)
    · refine pGo (s_iload dX11_sweep_257 rfl) ?_
      refine pGo (s_iload dX11_sweep_259 rfl) ?_
      refine p_icge (tgt := 269) dX11_sweep_261 (by decide) (g4 c1 c4) (g3 c1) (fun c5 => ?_) (fun c6 => ?_)
      · refine pGo (s_iload dX11_sweep_269 rfl) ?_
        refine pGoL (ls2 := [(2, 68), (0, x1), (0, x2), (0, x3), (0, x4), (0, x5), (0, x6)]) (s_istore dX11_sweep_271 (by decide) rfl) rfl ?_
        refine pGo (s_goto (tgt := 89) dX11_sweep_273 (by decide)) ?_
        exact (k2 c1 c4 c5)
      · refine pGo (s_iload dX11_sweep_264 rfl) ?_
        refine pGo (s_goto (tgt := 271) dX11_sweep_266 (by decide)) ?_
        refine pGoL (ls2 := [(2, 68), (0, x1), (0, x2), (0, x3), (0, x5), (0, x5), (0, x6)]) (s_istore dX11_sweep_271 (by decide) rfl) rfl ?_
        refine pGo (s_goto (tgt := 89) dX11_sweep_273 (by decide)) ?_
        exact (k3 c1 c4 c6)
  · refine pGo (s_aload_n dX11_sweep_220 rfl (by decide)) ?_
    refine pGoE (y := 139) (s_getF pc11 fl_X11_226 dX11_sweep_221 (ob_68 hst) rfl (by decide)) (by decide) ?_
    refine pGo (s_iload dX11_sweep_224 rfl) ?_
    refine pGoE (y := (rd σ 139 x6)) (s_iald dX11_sweep_226 (ob_139 hst) (bnd (g5 c2))) rfl ?_
    refine pGo (s_iload dX11_sweep_227 rfl) ?_
    refine p_icle (tgt := 242) dX11_sweep_229 (by decide) (g6 c2) (g7 c2) (fun c7 => ?_) (fun c8 => ?_)
    · refine pGo (s_iload dX11_sweep_242 rfl) ?_
      refine pGoL (ls2 := [(2, 68), (0, x1), (0, x2), (0, x3), (0, x4), (0, x5), (0, x6)]) (s_istore dX11_sweep_244 (by decide) rfl) rfl ?_
      refine pGoL (ls2 := [(2, 68), (0, x1), (0, x2), (0, x3), (0, x4), (0, x5), (0, (x6 + 1))]) (s_iinc dX11_sweep_246 (by decide) rfl rfl) rfl ?_
      refine pGo (s_goto (tgt := 211) dX11_sweep_249 (by decide)) ?_
      exact (k4 c2 c7)
    · refine pGo (s_aload_n dX11_sweep_232 rfl (by decide)) ?_
      refine pGoE (y := 139) (s_getF pc11 fl_X11_226 dX11_sweep_233 (ob_68 hst) rfl (by decide)) (by decide) ?_
      refine pGo (s_iload dX11_sweep_236 rfl) ?_
      refine pGoE (y := (rd σ 139 x6)) (s_iald dX11_sweep_238 (ob_139 hst) (bnd (g5 c2))) rfl ?_
      refine pGo (s_goto (tgt := 244) dX11_sweep_239 (by decide)) ?_
      refine pGoL (ls2 := [(2, 68), (0, x1), (0, x2), (0, x3), (0, x4), (0, (rd σ 139 x6)), (0, x6)]) (s_istore dX11_sweep_244 (by decide) rfl) rfl ?_
      refine pGoL (ls2 := [(2, 68), (0, x1), (0, x2), (0, x3), (0, x4), (0, (rd σ 139 x6)), (0, (x6 + 1))]) (s_iinc dX11_sweep_246 (by decide) rfl rfl) rfl ?_
      refine pGo (s_goto (tgt := 211) dX11_sweep_249 (by decide)) ?_
      exact (k5 c2 c8)
