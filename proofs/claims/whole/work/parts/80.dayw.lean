/-! walks: the reference runs a day through -/
set_option maxRecDepth 100000 in
theorem g_X11_snowAt_0 {d : Nat} {σ : pS} {Q : Option pV → pS → Prop} (hd : 0 ≤ d) (hst : Stat σ) (x1 : Int)  (k1 : pR mX11_snowAt d 2 [(2, 68), (0, x1), (0, 0)] [] σ Q) : pC mX11_snowAt d [(2, 68), (0, x1)] σ Q := by
  show pR mX11_snowAt d 0 [(2, 68), (0, x1), (9, 0)] [] σ Q
  refine pGo (s_iconst dX11_snowAt_0) ?_
  refine pGoL (ls2 := [(2, 68), (0, x1), (0, 0)]) (s_istore_n dX11_snowAt_1 (by decide) rfl) rfl ?_
  exact k1
set_option maxRecDepth 100000 in
theorem g_X11_snowAt_2 {d : Nat} {σ : pS} {Q : Option pV → pS → Prop} (hd : 0 ≤ d) (hst : Stat σ) (x1 : Int) (x2 : Int)  (g1 : inR x2) (g2 : inR (rd σ 68 31)) (k1 : ∀ (c1 : (rd σ 68 31) ≤ x2), Q none σ) (g3 : ∀ (c2 : x2 < (rd σ 68 31)), 0 ≤ x1 ∧ x1 < 2147483648) (g4 : ∀ (c2 : x2 < (rd σ 68 31)), inR (x1 % 60)) (g5 : ∀ (c2 : x2 < (rd σ 68 31)) (c3 : (x1 % 60) ≠ 0), 0 ≤ (x1 / 60) ∧ (x1 / 60) < 8) (g6 : ∀ (c2 : x2 < (rd σ 68 31)) (c3 : (x1 % 60) ≠ 0), inR (rd σ 101 (x1 / 60))) (k2 : ∀ (c2 : x2 < (rd σ 68 31)) (c3 : (x1 % 60) ≠ 0) (c5 : 30 ≤ (rd σ 101 (x1 / 60))), pR mX11_snowAt d 2 [(2, 68), (0, x1), (0, (x2 + 1))] [] σ Q) (g7 : ∀ (c2 : x2 < (rd σ 68 31)) (c3 : (x1 % 60) ≠ 0) (c6 : (rd σ 101 (x1 / 60)) < 30), 0 ≤ x2 ∧ x2 < 7) (k3 : ∀ (c2 : x2 < (rd σ 68 31)) (c3 : (x1 % 60) ≠ 0) (c6 : (rd σ 101 (x1 / 60)) < 30), pR mX11_snowAt d 2 [(2, 68), (0, x1), (0, (x2 + 1))] [] (wr σ 127 x2 ((rd σ 127 x2) + (rd σ 123 x2))) Q) (g8 : ∀ (c2 : x2 < (rd σ 68 31)) (c4 : (x1 % 60) = 0), 0 ≤ x2 ∧ x2 < 7) (g9 : ∀ (c2 : x2 < (rd σ 68 31)) (c4 : (x1 % 60) = 0), 0 ≤ (x1 / 60) ∧ (x1 / 60) < 8) (g10 : ∀ (c2 : x2 < (rd σ 68 31)) (c4 : (x1 % 60) = 0), inR (rd σ 101 (x1 / 60))) (k4 : ∀ (c2 : x2 < (rd σ 68 31)) (c4 : (x1 % 60) = 0) (c7 : 30 ≤ (rd σ 101 (x1 / 60))), pR mX11_snowAt d 2 [(2, 68), (0, x1), (0, (x2 + 1))] [] (wr σ 127 x2 ((rd σ 127 x2) + (10 * (rd σ 102 (x1 / 60))))) Q) (k5 : ∀ (c2 : x2 < (rd σ 68 31)) (c4 : (x1 % 60) = 0) (c8 : (rd σ 101 (x1 / 60)) < 30), pR mX11_snowAt d 2 [(2, 68), (0, x1), (0, (x2 + 1))] [] (wr (wr σ 127 x2 ((rd σ 127 x2) + (10 * (rd σ 102 (x1 / 60))))) 127 x2 (((rd σ 127 x2) + (10 * (rd σ 102 (x1 / 60)))) + (rd σ 123 x2))) Q) : pR mX11_snowAt d 2 [(2, 68), (0, x1), (0, x2)] [] σ Q := by
  refine pGo (s_iload_n dX11_snowAt_2 rfl) ?_
  refine pGo (s_aload_n dX11_snowAt_3 rfl (by decide)) ?_
  refine pGoE (y := (rd σ 68 31)) (s_getI pc11 fl_X11_369 dX11_snowAt_4 (ob_68 hst) rfl (by decide)) rfl ?_
  refine p_icge (tgt := 73) dX11_snowAt_7 (by decide) g1 g2 (fun c1 => ?_) (fun c2 => ?_)
  · exact pEnd (r := none) dX11_snowAt_73 rfl (k1 c1)
  · refine pGo (s_iload_n dX11_snowAt_10 rfl) ?_
    refine pGo (s_bipush dX11_snowAt_11 (by decide)) ?_
    refine pGo (s_iremp dX11_snowAt_13 (g3 c2) (by decide)) ?_
    refine p_ifne (tgt := 38) dX11_snowAt_14 (by decide) (g4 c2) (fun c3 => ?_) (fun c4 => ?_)
    · refine pGo (s_aload_n dX11_snowAt_38 rfl (by decide)) ?_
      refine pGoE (y := 101) (s_getF pc11 fl_X11_112 dX11_snowAt_39 (ob_68 hst) rfl (by decide)) (by decide) ?_
      refine pGo (s_iload_n dX11_snowAt_42 rfl) ?_
      refine pGo (s_bipush dX11_snowAt_43 (by decide)) ?_
      refine pGo (s_idivp dX11_snowAt_45 (g3 c2) (by decide)) ?_
      refine pGoE (y := (rd σ 101 (x1 / 60))) (s_iald dX11_snowAt_46 (ob_101 hst) (bnd (g5 c2 c3))) rfl ?_
      refine pGo (s_bipush dX11_snowAt_47 (by decide)) ?_
      refine p_icge (tgt := 67) dX11_snowAt_49 (by decide) (g6 c2 c3) (by decide) (fun c5 => ?_) (fun c6 => ?_)
      · refine pGoL (ls2 := [(2, 68), (0, x1), (0, (x2 + 1))]) (s_iinc dX11_snowAt_67 (by decide) rfl rfl) rfl ?_
        refine pGo (s_goto (tgt := 2) dX11_snowAt_70 (by decide)) ?_
        exact (k2 c2 c3 c5)
      · refine pGo (s_aload_n dX11_snowAt_52 rfl (by decide)) ?_
        refine pGoE (y := 127) (s_getF pc11 fl_X11_190 dX11_snowAt_53 (ob_68 hst) rfl (by decide)) (by decide) ?_
        refine pGo (s_iload_n dX11_snowAt_56 rfl) ?_
        refine pGo (s_dup2 dX11_snowAt_57 (show (0 : Nat) ≠ 1 by decide) (show (2 : Nat) ≠ 1 by decide)) ?_
        refine pGoE (y := (rd σ 127 x2)) (s_iald dX11_snowAt_58 (ob_127 hst) (bnd (g7 c2 c3 c6))) rfl ?_
        refine pGo (s_aload_n dX11_snowAt_59 rfl (by decide)) ?_
        refine pGoE (y := 123) (s_getF pc11 fl_X11_178 dX11_snowAt_60 (ob_68 hst) rfl (by decide)) (by decide) ?_
        refine pGo (s_iload_n dX11_snowAt_63 rfl) ?_
        refine pGoE (y := (rd σ 123 x2)) (s_iald dX11_snowAt_64 (ob_123 hst) (bnd (g7 c2 c3 c6))) rfl ?_
        refine pGo (s_iadd dX11_snowAt_65) ?_
        refine pGo (s_iast dX11_snowAt_66 (ob_127 hst) (bnd (g7 c2 c3 c6))) ?_
        refine pGoL (ls2 := [(2, 68), (0, x1), (0, (x2 + 1))]) (s_iinc dX11_snowAt_67 (by decide) rfl rfl) rfl ?_
        refine pGo (s_goto (tgt := 2) dX11_snowAt_70 (by decide)) ?_
        exact (k3 c2 c3 c6)
    · refine pGo (s_aload_n dX11_snowAt_17 rfl (by decide)) ?_
      refine pGoE (y := 127) (s_getF pc11 fl_X11_190 dX11_snowAt_18 (ob_68 hst) rfl (by decide)) (by decide) ?_
      refine pGo (s_iload_n dX11_snowAt_21 rfl) ?_
      refine pGo (s_dup2 dX11_snowAt_22 (show (0 : Nat) ≠ 1 by decide) (show (2 : Nat) ≠ 1 by decide)) ?_
      refine pGoE (y := (rd σ 127 x2)) (s_iald dX11_snowAt_23 (ob_127 hst) (bnd (g8 c2 c4))) rfl ?_
      refine pGo (s_bipush dX11_snowAt_24 (by decide)) ?_
      refine pGo (s_aload_n dX11_snowAt_26 rfl (by decide)) ?_
      refine pGoE (y := 102) (s_getF pc11 fl_X11_115 dX11_snowAt_27 (ob_68 hst) rfl (by decide)) (by decide) ?_
      refine pGo (s_iload_n dX11_snowAt_30 rfl) ?_
      refine pGo (s_bipush dX11_snowAt_31 (by decide)) ?_
      refine pGo (s_idivp dX11_snowAt_33 (g3 c2) (by decide)) ?_
      refine pGoE (y := (rd σ 102 (x1 / 60))) (s_iald dX11_snowAt_34 (ob_102 hst) (bnd (g9 c2 c4))) rfl ?_
      refine pGo (s_imul dX11_snowAt_35) ?_
      refine pGo (s_iadd dX11_snowAt_36) ?_
      refine pGo (s_iast dX11_snowAt_37 (ob_127 hst) (bnd (g8 c2 c4))) ?_
      refine pGo (s_aload_n dX11_snowAt_38 rfl (by decide)) ?_
      refine pGoE (y := 101) (s_getF pc11 fl_X11_112 dX11_snowAt_39 (ob_68 hst) rfl (by decide)) (by decide) ?_
      refine pGo (s_iload_n dX11_snowAt_42 rfl) ?_
      refine pGo (s_bipush dX11_snowAt_43 (by decide)) ?_
      refine pGo (s_idivp dX11_snowAt_45 (g3 c2) (by decide)) ?_
      refine pGoE (y := (rd σ 101 (x1 / 60))) (s_iald dX11_snowAt_46 (ob_101 hst) (bnd (g9 c2 c4))) (rd_wr_a _ (by decide)) ?_
      refine pGo (s_bipush dX11_snowAt_47 (by decide)) ?_
      refine p_icge (tgt := 67) dX11_snowAt_49 (by decide) (g10 c2 c4) (by decide) (fun c7 => ?_) (fun c8 => ?_)
      · refine pGoL (ls2 := [(2, 68), (0, x1), (0, (x2 + 1))]) (s_iinc dX11_snowAt_67 (by decide) rfl rfl) rfl ?_
        refine pGo (s_goto (tgt := 2) dX11_snowAt_70 (by decide)) ?_
        exact (k4 c2 c4 c7)
      · refine pGo (s_aload_n dX11_snowAt_52 rfl (by decide)) ?_
        refine pGoE (y := 127) (s_getF pc11 fl_X11_190 dX11_snowAt_53 (ob_68 hst) rfl (by decide)) (by decide) ?_
        refine pGo (s_iload_n dX11_snowAt_56 rfl) ?_
        refine pGo (s_dup2 dX11_snowAt_57 (show (0 : Nat) ≠ 1 by decide) (show (2 : Nat) ≠ 1 by decide)) ?_
        refine pGoE (y := ((rd σ 127 x2) + (10 * (rd σ 102 (x1 / 60))))) (s_iald dX11_snowAt_58 (ob_127 hst) (bnd (g8 c2 c4))) (rd_wr_same _ _ _ _) ?_
        refine pGo (s_aload_n dX11_snowAt_59 rfl (by decide)) ?_
        refine pGoE (y := 123) (s_getF pc11 fl_X11_178 dX11_snowAt_60 (ob_68 hst) rfl (by decide)) (by decide) ?_
        refine pGo (s_iload_n dX11_snowAt_63 rfl) ?_
        refine pGoE (y := (rd σ 123 x2)) (s_iald dX11_snowAt_64 (ob_123 hst) (bnd (g8 c2 c4))) (rd_wr_a _ (by decide)) ?_
        refine pGo (s_iadd dX11_snowAt_65) ?_
        refine pGo (s_iast dX11_snowAt_66 (ob_127 hst) (bnd (g8 c2 c4))) ?_
        refine pGoL (ls2 := [(2, 68), (0, x1), (0, (x2 + 1))]) (s_iinc dX11_snowAt_67 (by decide) rfl rfl) rfl ?_
        refine pGo (s_goto (tgt := 2) dX11_snowAt_70 (by decide)) ?_
        exact (k5 c2 c4 c8)
set_option maxRecDepth 100000 in
theorem g_X11_takeTurn_0 {d : Nat} {σ : pS} {Q : Option pV → pS → Prop} (hd : 1 ≤ d) (hst : Stat σ) (x1 : Int) (x2 : Int)  (k1 : pR mX11_takeTurn d 2 [(2, 68), (0, x1), (0, x2), (0, 0), (9, 0)] [] σ Q) : pC mX11_takeTurn d [(2, 68), (0, x1), (0, x2)] σ Q := by
  show pR mX11_takeTurn d 0 [(2, 68), (0, x1), (0, x2), (9, 0), (9, 0)] [] σ Q
  refine pGo (s_iconst dX11_takeTurn_0) ?_
  refine pGoL (ls2 := [(2, 68), (0, x1), (0, x2), (0, 0), (9, 0)]) (s_istore_n dX11_takeTurn_1 (by decide) rfl) rfl ?_
  exact k1
set_option maxRecDepth 100000 in
theorem g_X11_takeTurn_2 {d : Nat} {σ : pS} {Q : Option pV → pS → Prop} (hd : 1 ≤ d) (hst : Stat σ) (x1 : Int) (x2 : Int) (x3 : Int) (u4 : pV) (hu4 : u4.1 ≠ 1) (g1 : 0 ≤ x1 ∧ x1 < 10) (g2 : inR x3) (g3 : inR (rd σ 121 x1)) (k1 : ∀ (c1 : (rd σ 121 x1) ≤ x3), Q (some (0, 0)) σ) (g4 : ∀ (c2 : x3 < (rd σ 121 x1)), 0 ≤ ((rd σ 122 x1) + x3) ∧ ((rd σ 122 x1) + x3) < 2147483648) (g5 : ∀ (c2 : x3 < (rd σ 121 x1)), 0 < (rd σ 121 x1) ∧ (rd σ 121 x1) < 2147483648) (g6 : ∀ (c2 : x3 < (rd σ 121 x1)), 0 ≤ ((6 * x1) + (((rd σ 122 x1) + x3) % (rd σ 121 x1))) ∧ ((6 * x1) + (((rd σ 122 x1) + x3) % (rd σ 121 x1))) < 60) (f1 : ∀ (c2 : x3 < (rd σ 121 x1)), pC mX11_canTake 0 [(2, 68), (0, (rd σ 120 ((6 * x1) + (((rd σ 122 x1) + x3) % (rd σ 121 x1))))), (0, x2)] σ (fun r τ => r = some (0, b2i (vCT σ (rd σ 120 ((6 * x1) + (((rd σ 122 x1) + x3) % (rd σ 121 x1)))) x2)) ∧ τ = σ)) (g7 : ∀ (c2 : x3 < (rd σ 121 x1)) (c3 : (vCT σ (rd σ 120 ((6 * x1) + (((rd σ 122 x1) + x3) % (rd σ 121 x1)))) x2) = true), 0 ≤ (((rd σ 122 x1) + x3) + 1) ∧ (((rd σ 122 x1) + x3) + 1) < 2147483648) (g8 : ∀ (c2 : x3 < (rd σ 121 x1)) (c3 : (vCT σ (rd σ 120 ((6 * x1) + (((rd σ 122 x1) + x3) % (rd σ 121 x1)))) x2) = true), inR (rd σ 120 ((6 * x1) + (((rd σ 122 x1) + x3) % (rd σ 121 x1))))) (g9 : ∀ (c2 : x3 < (rd σ 121 x1)) (c3 : (vCT σ (rd σ 120 ((6 * x1) + (((rd σ 122 x1) + x3) % (rd σ 121 x1)))) x2) = true) (c5 : 6 ≤ (rd σ 120 ((6 * x1) + (((rd σ 122 x1) + x3) % (rd σ 121 x1))))), 0 ≤ (rd σ 120 ((6 * x1) + (((rd σ 122 x1) + x3) % (rd σ 121 x1)))) ∧ (rd σ 120 ((6 * x1) + (((rd σ 122 x1) + x3) % (rd σ 121 x1)))) < 13) (g10 : ∀ (c2 : x3 < (rd σ 121 x1)) (c3 : (vCT σ (rd σ 120 ((6 * x1) + (((rd σ 122 x1) + x3) % (rd σ 121 x1)))) x2) = true) (c5 : 6 ≤ (rd σ 120 ((6 * x1) + (((rd σ 122 x1) + x3) % (rd σ 121 x1))))), 0 ≤ ((rd σ 120 ((6 * x1) + (((rd σ 122 x1) + x3) % (rd σ 121 x1)))) - 6) ∧ ((rd σ 120 ((6 * x1) + (((rd σ 122 x1) + x3) % (rd σ 121 x1)))) - 6) < 7) (g11 : ∀ (c2 : x3 < (rd σ 121 x1)) (c3 : (vCT σ (rd σ 120 ((6 * x1) + (((rd σ 122 x1) + x3) % (rd σ 121 x1)))) x2) = true) (c5 : 6 ≤ (rd σ 120 ((6 * x1) + (((rd σ 122 x1) + x3) % (rd σ 121 x1))))), 0 ≤ ((10 * (x2 + (rd σ 79 (rd σ 120 ((6 * x1) + (((rd σ 122 x1) + x3) % (rd σ 121 x1))))))) + (rd σ 78 (rd σ 120 ((6 * x1) + (((rd σ 122 x1) + x3) % (rd σ 121 x1)))))) ∧ ((10 * (x2 + (rd σ 79 (rd σ 120 ((6 * x1) + (((rd σ 122 x1) + x3) % (rd σ 121 x1))))))) + (rd σ 78 (rd σ 120 ((6 * x1) + (((rd σ 122 x1) + x3) % (rd σ 121 x1)))))) < 5410) (k2 : ∀ (c2 : x3 < (rd σ 121 x1)) (c3 : (vCT σ (rd σ 120 ((6 * x1) + (((rd σ 122 x1) + x3) % (rd σ 121 x1)))) x2) = true) (c5 : 6 ≤ (rd σ 120 ((6 * x1) + (((rd σ 122 x1) + x3) % (rd σ 121 x1))))), Q (some (0, 1)) (wr (wr (wr (wr (wr σ 122 x1 ((((rd σ 122 x1) + x3) + 1) % (rd σ 121 x1))) 124 x1 ((rd σ 124 x1) - 1)) 128 (rd σ 120 ((6 * x1) + (((rd σ 122 x1) + x3) % (rd σ 121 x1)))) ((rd σ 128 (rd σ 120 ((6 * x1) + (((rd σ 122 x1) + x3) % (rd σ 121 x1))))) + 1)) 127 ((rd σ 120 ((6 * x1) + (((rd σ 122 x1) + x3) % (rd σ 121 x1)))) - 6) ((rd σ 127 ((rd σ 120 ((6 * x1) + (((rd σ 122 x1) + x3) % (rd σ 121 x1)))) - 6)) - 1)) 126 ((10 * (x2 + (rd σ 79 (rd σ 120 ((6 * x1) + (((rd σ 122 x1) + x3) % (rd σ 121 x1))))))) + (rd σ 78 (rd σ 120 ((6 * x1) + (((rd σ 122 x1) + x3) % (rd σ 121 x1)))))) ((rd σ 126 ((10 * (x2 + (rd σ 79 (rd σ 120 ((6 * x1) + (((rd σ 122 x1) + x3) % (rd σ 121 x1))))))) + (rd σ 78 (rd σ 120 ((6 * x1) + (((rd σ 122 x1) + x3) % (rd σ 121 x1))))))) + 1))) (g12 : ∀ (c2 : x3 < (rd σ 121 x1)) (c3 : (vCT σ (rd σ 120 ((6 * x1) + (((rd σ 122 x1) + x3) % (rd σ 121 x1)))) x2) = true) (c6 : (rd σ 120 ((6 * x1) + (((rd σ 122 x1) + x3) % (rd σ 121 x1)))) < 6), 0 ≤ (rd σ 120 ((6 * x1) + (((rd σ 122 x1) + x3) % (rd σ 121 x1)))) ∧ (rd σ 120 ((6 * x1) + (((rd σ 122 x1) + x3) % (rd σ 121 x1)))) < 6) (k3 : ∀ (c2 : x3 < (rd σ 121 x1)) (c3 : (vCT σ (rd σ 120 ((6 * x1) + (((rd σ 122 x1) + x3) % (rd σ 121 x1)))) x2) = true) (c6 : (rd σ 120 ((6 * x1) + (((rd σ 122 x1) + x3) % (rd σ 121 x1)))) < 6), Q (some (0, 1)) (wr (wr (wr σ 122 x1 ((((rd σ 122 x1) + x3) + 1) % (rd σ 121 x1))) 124 x1 ((rd σ 124 x1) - 1)) 125 (rd σ 120 ((6 * x1) + (((rd σ 122 x1) + x3) % (rd σ 121 x1)))) ((rd σ 125 (rd σ 120 ((6 * x1) + (((rd σ 122 x1) + x3) % (rd σ 121 x1))))) + 1))) (k4 : ∀ (c2 : x3 < (rd σ 121 x1)) (c4 : (vCT σ (rd σ 120 ((6 * x1) + (((rd σ 122 x1) + x3) % (rd σ 121 x1)))) x2) = false), pR mX11_takeTurn d 2 [(2, 68), (0, x1), (0, x2), (0, (x3 + 1)), (0, (rd σ 120 ((6 * x1) + (((rd σ 122 x1) + x3) % (rd σ 121 x1)))))] [] σ Q) : pR mX11_takeTurn d 2 [(2, 68), (0, x1), (0, x2), (0, x3), u4] [] σ Q := by
  refine pGo (s_iload_n dX11_takeTurn_2 rfl) ?_
  refine pGo (s_aload_n dX11_takeTurn_3 rfl (by decide)) ?_
  refine pGoE (y := 121) (s_getF pc11 fl_X11_172 dX11_takeTurn_4 (ob_68 hst) rfl (by decide)) (by decide) ?_
  refine pGo (s_iload_n dX11_takeTurn_7 rfl) ?_
  refine pGoE (y := (rd σ 121 x1)) (s_iald dX11_takeTurn_8 (ob_121 hst) (bnd g1)) rfl ?_
  refine p_icge (tgt := 168) dX11_takeTurn_9 (by decide) g2 g3 (fun c1 => ?_) (fun c2 => ?_)
  · refine pGo (s_iconst dX11_takeTurn_168) ?_
    exact pEnd (r := (some (0, 0))) dX11_takeTurn_169 (Or.inl rfl) (k1 c1)
  · refine pGo (s_aload_n dX11_takeTurn_12 rfl (by decide)) ?_
    refine pGoE (y := 120) (s_getF pc11 fl_X11_169 dX11_takeTurn_13 (ob_68 hst) rfl (by decide)) (by decide) ?_
    refine pGo (s_bipush dX11_takeTurn_16 (by decide)) ?_
    refine pGo (s_iload_n dX11_takeTurn_18 rfl) ?_
    refine pGo (s_imul dX11_takeTurn_19) ?_
    refine pGo (s_aload_n dX11_takeTurn_20 rfl (by decide)) ?_
    refine pGoE (y := 122) (s_getF pc11 fl_X11_175 dX11_takeTurn_21 (ob_68 hst) rfl (by decide)) (by decide) ?_
    refine pGo (s_iload_n dX11_takeTurn_24 rfl) ?_
    refine pGoE (y := (rd σ 122 x1)) (s_iald dX11_takeTurn_25 (ob_122 hst) (bnd g1)) rfl ?_
    refine pGo (s_iload_n dX11_takeTurn_26 rfl) ?_
    refine pGo (s_iadd dX11_takeTurn_27) ?_
    refine pGo (s_aload_n dX11_takeTurn_28 rfl (by decide)) ?_
    refine pGoE (y := 121) (s_getF pc11 fl_X11_172 dX11_takeTurn_29 (ob_68 hst) rfl (by decide)) (by decide) ?_
    refine pGo (s_iload_n dX11_takeTurn_32 rfl) ?_
    refine pGoE (y := (rd σ 121 x1)) (s_iald dX11_takeTurn_33 (ob_121 hst) (bnd g1)) rfl ?_
    refine pGo (s_iremp dX11_takeTurn_34 (g4 c2) (g5 c2)) ?_
    refine pGo (s_iadd dX11_takeTurn_35) ?_
    refine pGoE (y := (rd σ 120 ((6 * x1) + (((rd σ 122 x1) + x3) % (rd σ 121 x1))))) (s_iald dX11_takeTurn_36 (ob_120 hst) (bnd (g6 c2))) rfl ?_
    refine pGoL (ls2 := [(2, 68), (0, x1), (0, x2), (0, x3), (0, (rd σ 120 ((6 * x1) + (((rd σ 122 x1) + x3) % (rd σ 121 x1)))))]) (s_istore dX11_takeTurn_37 (by decide) rfl) rfl ?_
    refine pGo (s_aload_n dX11_takeTurn_39 rfl (by decide)) ?_
    refine pGo (s_iload dX11_takeTurn_40 rfl) ?_
    refine pGo (s_iload_n dX11_takeTurn_42 rfl) ?_
    refine p_callV (As := [(0, (rd σ 120 ((6 * x1) + (((rd σ 122 x1) + x3) % (rd σ 121 x1))))), (0, x2)]) (st := []) (n := 2) (d' := 0) (Q1 := (fun r τ => r = some (0, b2i (vCT σ (rd σ 120 ((6 * x1) + (((rd σ 122 x1) + x3) % (rd σ 121 x1)))) x2)) ∧ τ = σ)) pc11 ok_X11_canTake ml_X11_533 im_X11_canTake se_X11_canTake dX11_takeTurn_43 (ob_68 hst) (pargs_of rfl) rfl (Nat.le_of_ble_eq_true rfl) (by omega) (f1 c2) (fun r1 τ1 e1 q1 w1 => ?_)
    obtain ⟨rfl, t1⟩ := q1
    rw [t1]
    show pR mX11_takeTurn d 46 [(2, 68), (0, x1), (0, x2), (0, x3), (0, (rd σ 120 ((6 * x1) + (((rd σ 122 x1) + x3) % (rd σ 121 x1)))))] [(0, (b2i (vCT σ (rd σ 120 ((6 * x1) + (((rd σ 122 x1) + x3) % (rd σ 121 x1)))) x2)))] σ Q
    refine p_ifneB (tgt := 52) dX11_takeTurn_46 (by decide) (fun c3 => ?_) (fun c4 => ?_)
    · refine pGo (s_aload_n dX11_takeTurn_52 rfl (by decide)) ?_
      refine pGoE (y := 122) (s_getF pc11 fl_X11_175 dX11_takeTurn_53 (ob_68 hst) rfl (by decide)) (by decide) ?_
      refine pGo (s_iload_n dX11_takeTurn_56 rfl) ?_
      refine pGo (s_aload_n dX11_takeTurn_57 rfl (by decide)) ?_
      refine pGoE (y := 122) (s_getF pc11 fl_X11_175 dX11_takeTurn_58 (ob_68 hst) rfl (by decide)) (by decide) ?_
      refine pGo (s_iload_n dX11_takeTurn_61 rfl) ?_
      refine pGoE (y := (rd σ 122 x1)) (s_iald dX11_takeTurn_62 (ob_122 hst) (bnd g1)) rfl ?_
      refine pGo (s_iload_n dX11_takeTurn_63 rfl) ?_
      refine pGo (s_iadd dX11_takeTurn_64) ?_
      refine pGo (s_iconst dX11_takeTurn_65) ?_
      refine pGo (s_iadd dX11_takeTurn_66) ?_
      refine pGo (s_aload_n dX11_takeTurn_67 rfl (by decide)) ?_
      refine pGoE (y := 121) (s_getF pc11 fl_X11_172 dX11_takeTurn_68 (ob_68 hst) rfl (by decide)) (by decide) ?_
      refine pGo (s_iload_n dX11_takeTurn_71 rfl) ?_
      refine pGoE (y := (rd σ 121 x1)) (s_iald dX11_takeTurn_72 (ob_121 hst) (bnd g1)) rfl ?_
      refine pGo (s_iremp dX11_takeTurn_73 (g7 c2 c3) (g5 c2)) ?_
      refine pGo (s_iast dX11_takeTurn_74 (ob_122 hst) (bnd g1)) ?_
      refine pGo (s_aload_n dX11_takeTurn_75 rfl (by decide)) ?_
      refine pGoE (y := 124) (s_getF pc11 fl_X11_181 dX11_takeTurn_76 (ob_68 hst) rfl (by decide)) (by decide) ?_
      refine pGo (s_iload_n dX11_takeTurn_79 rfl) ?_
      refine pGo (s_dup2 dX11_takeTurn_80 (show (0 : Nat) ≠ 1 by decide) (show (2 : Nat) ≠ 1 by decide)) ?_
      refine pGoE (y := (rd σ 124 x1)) (s_iald dX11_takeTurn_81 (ob_124 hst) (bnd g1)) (rd_wr_a _ (by decide)) ?_
      refine pGo (s_iconst dX11_takeTurn_82) ?_
      refine pGo (s_isub dX11_takeTurn_83) ?_
      refine pGo (s_iast dX11_takeTurn_84 (ob_124 hst) (bnd g1)) ?_
      refine pGo (s_iload dX11_takeTurn_85 rfl) ?_
      refine pGo (s_bipush dX11_takeTurn_87 (by decide)) ?_
      refine p_icge (tgt := 106) dX11_takeTurn_89 (by decide) (g8 c2 c3) (by decide) (fun c5 => ?_) (fun c6 => ?_)
      · refine pGo (s_aload_n dX11_takeTurn_106 rfl (by decide)) ?_
        refine pGoE (y := 128) (s_getF pc11 fl_X11_193 dX11_takeTurn_107 (ob_68 hst) rfl (by decide)) (by decide) ?_
        refine pGo (s_iload dX11_takeTurn_110 rfl) ?_
        refine pGo (s_dup2 dX11_takeTurn_112 (show (0 : Nat) ≠ 1 by decide) (show (2 : Nat) ≠ 1 by decide)) ?_
        refine pGoE (y := (rd σ 128 (rd σ 120 ((6 * x1) + (((rd σ 122 x1) + x3) % (rd σ 121 x1)))))) (s_iald dX11_takeTurn_113 (ob_128 hst) (bnd (g9 c2 c3 c5))) ((rd_wr_a _ (by decide)).trans (rd_wr_a _ (by decide))) ?_
        refine pGo (s_iconst dX11_takeTurn_114) ?_
        refine pGo (s_iadd dX11_takeTurn_115) ?_
        refine pGo (s_iast dX11_takeTurn_116 (ob_128 hst) (bnd (g9 c2 c3 c5))) ?_
        refine pGo (s_aload_n dX11_takeTurn_117 rfl (by decide)) ?_
        refine pGoE (y := 127) (s_getF pc11 fl_X11_190 dX11_takeTurn_118 (ob_68 hst) rfl (by decide)) (by decide) ?_
        refine pGo (s_iload dX11_takeTurn_121 rfl) ?_
        refine pGo (s_bipush dX11_takeTurn_123 (by decide)) ?_
        refine pGo (s_isub dX11_takeTurn_125) ?_
        refine pGo (s_dup2 dX11_takeTurn_126 (show (0 : Nat) ≠ 1 by decide) (show (2 : Nat) ≠ 1 by decide)) ?_
        refine pGoE (y := (rd σ 127 ((rd σ 120 ((6 * x1) + (((rd σ 122 x1) + x3) % (rd σ 121 x1)))) - 6))) (s_iald dX11_takeTurn_127 (ob_127 hst) (bnd (g10 c2 c3 c5))) ((rd_wr_a _ (by decide)).trans ((rd_wr_a _ (by decide)).trans (rd_wr_a _ (by decide)))) ?_
        refine pGo (s_iconst dX11_takeTurn_128) ?_
        refine pGo (s_isub dX11_takeTurn_129) ?_
        refine pGo (s_iast dX11_takeTurn_130 (ob_127 hst) (bnd (g10 c2 c3 c5))) ?_
        refine pGo (s_aload_n dX11_takeTurn_131 rfl (by decide)) ?_
        refine pGoE (y := 126) (s_getF pc11 fl_X11_187 dX11_takeTurn_132 (ob_68 hst) rfl (by decide)) (by decide) ?_
        refine pGo (s_bipush dX11_takeTurn_135 (by decide)) ?_
        refine pGo (s_iload_n dX11_takeTurn_137 rfl) ?_
        refine pGo (s_aload_n dX11_takeTurn_138 rfl (by decide)) ?_
        refine pGoE (y := 79) (s_getF pc11 fl_X11_45 dX11_takeTurn_139 (ob_68 hst) rfl (by decide)) (by decide) ?_
        refine pGo (s_iload dX11_takeTurn_142 rfl) ?_
        refine pGoE (y := (rd σ 79 (rd σ 120 ((6 * x1) + (((rd σ 122 x1) + x3) % (rd σ 121 x1)))))) (s_iald dX11_takeTurn_144 (ob_79 hst) (bnd (g9 c2 c3 c5))) ((rd_wr_a _ (by decide)).trans ((rd_wr_a _ (by decide)).trans ((rd_wr_a _ (by decide)).trans (rd_wr_a _ (by decide))))) ?_
        refine pGo (s_iadd dX11_takeTurn_145) ?_
        refine pGo (s_imul dX11_takeTurn_146) ?_
        refine pGo (s_aload_n dX11_takeTurn_147 rfl (by decide)) ?_
        refine pGoE (y := 78) (s_getF pc11 fl_X11_42 dX11_takeTurn_148 (ob_68 hst) rfl (by decide)) (by decide) ?_
        refine pGo (s_iload dX11_takeTurn_151 rfl) ?_
        refine pGoE (y := (rd σ 78 (rd σ 120 ((6 * x1) + (((rd σ 122 x1) + x3) % (rd σ 121 x1)))))) (s_iald dX11_takeTurn_153 (ob_78 hst) (bnd (g9 c2 c3 c5))) ((rd_wr_a _ (by decide)).trans ((rd_wr_a _ (by decide)).trans ((rd_wr_a _ (by decide)).trans (rd_wr_a _ (by decide))))) ?_
        refine pGo (s_iadd dX11_takeTurn_154) ?_
        refine pGo (s_dup2 dX11_takeTurn_155 (show (0 : Nat) ≠ 1 by decide) (show (2 : Nat) ≠ 1 by decide)) ?_
        refine pGoE (y := (rd σ 126 ((10 * (x2 + (rd σ 79 (rd σ 120 ((6 * x1) + (((rd σ 122 x1) + x3) % (rd σ 121 x1))))))) + (rd σ 78 (rd σ 120 ((6 * x1) + (((rd σ 122 x1) + x3) % (rd σ 121 x1)))))))) (s_iald dX11_takeTurn_156 (ob_126 hst) (bnd (g11 c2 c3 c5))) ((rd_wr_a _ (by decide)).trans ((rd_wr_a _ (by decide)).trans ((rd_wr_a _ (by decide)).trans (rd_wr_a _ (by decide))))) ?_
        refine pGo (s_iconst dX11_takeTurn_157) ?_
        refine pGo (s_iadd dX11_takeTurn_158) ?_
        refine pGo (s_iast dX11_takeTurn_159 (ob_126 hst) (bnd (g11 c2 c3 c5))) ?_
        refine pGo (s_iconst dX11_takeTurn_160) ?_
        exact pEnd (r := (some (0, 1))) dX11_takeTurn_161 (Or.inr rfl) (k2 c2 c3 c5)
      · refine pGo (s_aload_n dX11_takeTurn_92 rfl (by decide)) ?_
        refine pGoE (y := 125) (s_getF pc11 fl_X11_184 dX11_takeTurn_93 (ob_68 hst) rfl (by decide)) (by decide) ?_
        refine pGo (s_iload dX11_takeTurn_96 rfl) ?_
        refine pGo (s_dup2 dX11_takeTurn_98 (show (0 : Nat) ≠ 1 by decide) (show (2 : Nat) ≠ 1 by decide)) ?_
        refine pGoE (y := (rd σ 125 (rd σ 120 ((6 * x1) + (((rd σ 122 x1) + x3) % (rd σ 121 x1)))))) (s_iald dX11_takeTurn_99 (ob_125 hst) (bnd (g12 c2 c3 c6))) ((rd_wr_a _ (by decide)).trans (rd_wr_a _ (by decide))) ?_
        refine pGo (s_iconst dX11_takeTurn_100) ?_
        refine pGo (s_iadd dX11_takeTurn_101) ?_
        refine pGo (s_iast dX11_takeTurn_102 (ob_125 hst) (bnd (g12 c2 c3 c6))) ?_
        refine pGo (s_goto (tgt := 160) dX11_takeTurn_103 (by decide)) ?_
        refine pGo (s_iconst dX11_takeTurn_160) ?_
        exact pEnd (r := (some (0, 1))) dX11_takeTurn_161 (Or.inr rfl) (k3 c2 c3 c6)
    · refine pGo (s_goto (tgt := 162) dX11_takeTurn_49 (by decide)) ?_
      refine pGoL (ls2 := [(2, 68), (0, x1), (0, x2), (0, (x3 + 1)), (0, (rd σ 120 ((6 * x1) + (((rd σ 122 x1) + x3) % (rd σ 121 x1)))))]) (s_iinc dX11_takeTurn_162 (by decide) rfl rfl) rfl ?_
      refine pGo (s_goto (tgt := 2) dX11_takeTurn_165 (by decide)) ?_
      exact (k4 c2 c4)
set_option maxRecDepth 100000 in
theorem g_X11_lift_0 {d : Nat} {σ : pS} {Q : Option pV → pS → Prop} (hd : 2 ≤ d) (hst : Stat σ) (x1 : Int) (x2 : Int)  (f1 : pC mX11_isOpenAt 1 [(2, 68), (0, x1), (0, x2)] σ (fun r τ => r = some (0, b2i (vOpenM σ x1 x2)) ∧ τ = σ)) (g1 : ∀ (c1 : (vOpenM σ x1 x2) = false), 0 ≤ x1 ∧ x1 < 13) (g2 : ∀ (c1 : (vOpenM σ x1 x2) = false), inR (x2 + 1)) (g3 : ∀ (c1 : (vOpenM σ x1 x2) = false), inR (rd σ 82 x1)) (g4 : ∀ (c1 : (vOpenM σ x1 x2) = false) (c3 : (x2 + 1) ≠ (rd σ 82 x1)), 0 ≤ x1 ∧ x1 < 6) (g5 : ∀ (c1 : (vOpenM σ x1 x2) = false) (c3 : (x2 + 1) ≠ (rd σ 82 x1)), inR (rd σ 125 x1)) (g6 : ∀ (c1 : (vOpenM σ x1 x2) = false) (c3 : (x2 + 1) ≠ (rd σ 82 x1)), inR (rd σ 129 x1)) (k1 : ∀ (c1 : (vOpenM σ x1 x2) = false) (c3 : (x2 + 1) ≠ (rd σ 82 x1)) (c5 : (rd σ 125 x1) ≤ (rd σ 129 x1)), Q none (wr σ 129 x1 (rd σ 129 x1))) (k2 : ∀ (c1 : (vOpenM σ x1 x2) = false) (c3 : (x2 + 1) ≠ (rd σ 82 x1)) (c6 : (rd σ 129 x1) < (rd σ 125 x1)), Q none (wr σ 129 x1 (rd σ 125 x1))) (g7 : ∀ (c1 : (vOpenM σ x1 x2) = false) (c4 : (x2 + 1) = (rd σ 82 x1)), 0 ≤ (rd σ 77 x1) ∧ (rd σ 77 x1) < 10) (g8 : ∀ (c1 : (vOpenM σ x1 x2) = false) (c4 : (x2 + 1) = (rd σ 82 x1)), 0 ≤ x1 ∧ x1 < 6) (g9 : ∀ (c1 : (vOpenM σ x1 x2) = false) (c4 : (x2 + 1) = (rd σ 82 x1)), inR (rd σ 129 x1)) (k3 : ∀ (c1 : (vOpenM σ x1 x2) = false) (c4 : (x2 + 1) = (rd σ 82 x1)) (c7 : 0 ≤ (rd σ 129 x1)), Q none (wr (wr (wr σ 124 (rd σ 77 x1) ((rd σ 124 (rd σ 77 x1)) + (rd σ 125 x1))) 125 x1 0) 129 x1 (rd σ 129 x1))) (k4 : ∀ (c1 : (vOpenM σ x1 x2) = false) (c4 : (x2 + 1) = (rd σ 82 x1)) (c8 : (rd σ 129 x1) < 0), Q none (wr (wr (wr σ 124 (rd σ 77 x1) ((rd σ 124 (rd σ 77 x1)) + (rd σ 125 x1))) 125 x1 0) 129 x1 0)) (g10 : ∀ (c2 : (vOpenM σ x1 x2) = true), 0 ≤ x1 ∧ x1 < 6) (g11 : ∀ (c2 : (vOpenM σ x1 x2) = true), 0 ≤ x1 ∧ x1 < 13) (g12 : ∀ (c2 : (vOpenM σ x1 x2) = true), inR (rd σ 125 x1)) (g13 : ∀ (c2 : (vOpenM σ x1 x2) = true), inR (rd σ 80 x1)) (g14 : ∀ (c2 : (vOpenM σ x1 x2) = true) (c9 : (rd σ 80 x1) ≤ (rd σ 125 x1)), 0 ≤ ((10 * (x2 + (rd σ 79 x1))) + (rd σ 78 x1)) ∧ ((10 * (x2 + (rd σ 79 x1))) + (rd σ 78 x1)) < 5410) (g15 : ∀ (c2 : (vOpenM σ x1 x2) = true) (c9 : (rd σ 80 x1) ≤ (rd σ 125 x1)), inR (x2 + 1)) (g16 : ∀ (c2 : (vOpenM σ x1 x2) = true) (c9 : (rd σ 80 x1) ≤ (rd σ 125 x1)), inR (rd σ 82 x1)) (g17 : ∀ (c2 : (vOpenM σ x1 x2) = true) (c9 : (rd σ 80 x1) ≤ (rd σ 125 x1)) (c11 : (x2 + 1) ≠ (rd σ 82 x1)), inR ((rd σ 125 x1) - (rd σ 80 x1))) (g18 : ∀ (c2 : (vOpenM σ x1 x2) = true) (c9 : (rd σ 80 x1) ≤ (rd σ 125 x1)) (c11 : (x2 + 1) ≠ (rd σ 82 x1)), inR (rd σ 129 x1)) (k5 : ∀ (c2 : (vOpenM σ x1 x2) = true) (c9 : (rd σ 80 x1) ≤ (rd σ 125 x1)) (c11 : (x2 + 1) ≠ (rd σ 82 x1)) (c13 : ((rd σ 125 x1) - (rd σ 80 x1)) ≤ (rd σ 129 x1)), Q none (wr (wr (wr (wr σ 125 x1 ((rd σ 125 x1) - (rd σ 80 x1))) 128 x1 ((rd σ 128 x1) + (rd σ 80 x1))) 126 ((10 * (x2 + (rd σ 79 x1))) + (rd σ 78 x1)) ((rd σ 126 ((10 * (x2 + (rd σ 79 x1))) + (rd σ 78 x1))) + (rd σ 80 x1))) 129 x1 (rd σ 129 x1))) (k6 : ∀ (c2 : (vOpenM σ x1 x2) = true) (c9 : (rd σ 80 x1) ≤ (rd σ 125 x1)) (c11 : (x2 + 1) ≠ (rd σ 82 x1)) (c14 : (rd σ 129 x1) < ((rd σ 125 x1) - (rd σ 80 x1))), Q none (wr (wr (wr (wr σ 125 x1 ((rd σ 125 x1) - (rd σ 80 x1))) 128 x1 ((rd σ 128 x1) + (rd σ 80 x1))) 126 ((10 * (x2 + (rd σ 79 x1))) + (rd σ 78 x1)) ((rd σ 126 ((10 * (x2 + (rd σ 79 x1))) + (rd σ 78 x1))) + (rd σ 80 x1))) 129 x1 ((rd σ 125 x1) - (rd σ 80 x1)))) (g19 : ∀ (c2 : (vOpenM σ x1 x2) = true) (c9 : (rd σ 80 x1) ≤ (rd σ 125 x1)) (c12 : (x2 + 1) = (rd σ 82 x1)), 0 ≤ (rd σ 77 x1) ∧ (rd σ 77 x1) < 10) (g20 : ∀ (c2 : (vOpenM σ x1 x2) = true) (c9 : (rd σ 80 x1) ≤ (rd σ 125 x1)) (c12 : (x2 + 1) = (rd σ 82 x1)), inR (rd σ 129 x1)) (k7 : ∀ (c2 : (vOpenM σ x1 x2) = true) (c9 : (rd σ 80 x1) ≤ (rd σ 125 x1)) (c12 : (x2 + 1) = (rd σ 82 x1)) (c15 : 0 ≤ (rd σ 129 x1)), Q none (wr (wr (wr (wr (wr (wr σ 125 x1 ((rd σ 125 x1) - (rd σ 80 x1))) 128 x1 ((rd σ 128 x1) + (rd σ 80 x1))) 126 ((10 * (x2 + (rd σ 79 x1))) + (rd σ 78 x1)) ((rd σ 126 ((10 * (x2 + (rd σ 79 x1))) + (rd σ 78 x1))) + (rd σ 80 x1))) 124 (rd σ 77 x1) ((rd σ 124 (rd σ 77 x1)) + ((rd σ 125 x1) - (rd σ 80 x1)))) 125 x1 0) 129 x1 (rd σ 129 x1))) (k8 : ∀ (c2 : (vOpenM σ x1 x2) = true) (c9 : (rd σ 80 x1) ≤ (rd σ 125 x1)) (c12 : (x2 + 1) = (rd σ 82 x1)) (c16 : (rd σ 129 x1) < 0), Q none (wr (wr (wr (wr (wr (wr σ 125 x1 ((rd σ 125 x1) - (rd σ 80 x1))) 128 x1 ((rd σ 128 x1) + (rd σ 80 x1))) 126 ((10 * (x2 + (rd σ 79 x1))) + (rd σ 78 x1)) ((rd σ 126 ((10 * (x2 + (rd σ 79 x1))) + (rd σ 78 x1))) + (rd σ 80 x1))) 124 (rd σ 77 x1) ((rd σ 124 (rd σ 77 x1)) + ((rd σ 125 x1) - (rd σ 80 x1)))) 125 x1 0) 129 x1 0)) (g21 : ∀ (c2 : (vOpenM σ x1 x2) = true) (c10 : (rd σ 125 x1) < (rd σ 80 x1)), 0 ≤ ((10 * (x2 + (rd σ 79 x1))) + (rd σ 78 x1)) ∧ ((10 * (x2 + (rd σ 79 x1))) + (rd σ 78 x1)) < 5410) (g22 : ∀ (c2 : (vOpenM σ x1 x2) = true) (c10 : (rd σ 125 x1) < (rd σ 80 x1)), inR (x2 + 1)) (g23 : ∀ (c2 : (vOpenM σ x1 x2) = true) (c10 : (rd σ 125 x1) < (rd σ 80 x1)), inR (rd σ 82 x1)) (g24 : ∀ (c2 : (vOpenM σ x1 x2) = true) (c10 : (rd σ 125 x1) < (rd σ 80 x1)) (c17 : (x2 + 1) ≠ (rd σ 82 x1)), inR ((rd σ 125 x1) - (rd σ 125 x1))) (g25 : ∀ (c2 : (vOpenM σ x1 x2) = true) (c10 : (rd σ 125 x1) < (rd σ 80 x1)) (c17 : (x2 + 1) ≠ (rd σ 82 x1)), inR (rd σ 129 x1)) (k9 : ∀ (c2 : (vOpenM σ x1 x2) = true) (c10 : (rd σ 125 x1) < (rd σ 80 x1)) (c17 : (x2 + 1) ≠ (rd σ 82 x1)) (c19 : ((rd σ 125 x1) - (rd σ 125 x1)) ≤ (rd σ 129 x1)), Q none (wr (wr (wr (wr σ 125 x1 ((rd σ 125 x1) - (rd σ 125 x1))) 128 x1 ((rd σ 128 x1) + (rd σ 125 x1))) 126 ((10 * (x2 + (rd σ 79 x1))) + (rd σ 78 x1)) ((rd σ 126 ((10 * (x2 + (rd σ 79 x1))) + (rd σ 78 x1))) + (rd σ 125 x1))) 129 x1 (rd σ 129 x1))) (k10 : ∀ (c2 : (vOpenM σ x1 x2) = true) (c10 : (rd σ 125 x1) < (rd σ 80 x1)) (c17 : (x2 + 1) ≠ (rd σ 82 x1)) (c20 : (rd σ 129 x1) < ((rd σ 125 x1) - (rd σ 125 x1))), Q none (wr (wr (wr (wr σ 125 x1 ((rd σ 125 x1) - (rd σ 125 x1))) 128 x1 ((rd σ 128 x1) + (rd σ 125 x1))) 126 ((10 * (x2 + (rd σ 79 x1))) + (rd σ 78 x1)) ((rd σ 126 ((10 * (x2 + (rd σ 79 x1))) + (rd σ 78 x1))) + (rd σ 125 x1))) 129 x1 ((rd σ 125 x1) - (rd σ 125 x1)))) (g26 : ∀ (c2 : (vOpenM σ x1 x2) = true) (c10 : (rd σ 125 x1) < (rd σ 80 x1)) (c18 : (x2 + 1) = (rd σ 82 x1)), 0 ≤ (rd σ 77 x1) ∧ (rd σ 77 x1) < 10) (g27 : ∀ (c2 : (vOpenM σ x1 x2) = true) (c10 : (rd σ 125 x1) < (rd σ 80 x1)) (c18 : (x2 + 1) = (rd σ 82 x1)), inR (rd σ 129 x1)) (k11 : ∀ (c2 : (vOpenM σ x1 x2) = true) (c10 : (rd σ 125 x1) < (rd σ 80 x1)) (c18 : (x2 + 1) = (rd σ 82 x1)) (c21 : 0 ≤ (rd σ 129 x1)), Q none (wr (wr (wr (wr (wr (wr σ 125 x1 ((rd σ 125 x1) - (rd σ 125 x1))) 128 x1 ((rd σ 128 x1) + (rd σ 125 x1))) 126 ((10 * (x2 + (rd σ 79 x1))) + (rd σ 78 x1)) ((rd σ 126 ((10 * (x2 + (rd σ 79 x1))) + (rd σ 78 x1))) + (rd σ 125 x1))) 124 (rd σ 77 x1) ((rd σ 124 (rd σ 77 x1)) + ((rd σ 125 x1) - (rd σ 125 x1)))) 125 x1 0) 129 x1 (rd σ 129 x1))) (k12 : ∀ (c2 : (vOpenM σ x1 x2) = true) (c10 : (rd σ 125 x1) < (rd σ 80 x1)) (c18 : (x2 + 1) = (rd σ 82 x1)) (c22 : (rd σ 129 x1) < 0), Q none (wr (wr (wr (wr (wr (wr σ 125 x1 ((rd σ 125 x1) - (rd σ 125 x1))) 128 x1 ((rd σ 128 x1) + (rd σ 125 x1))) 126 ((10 * (x2 + (rd σ 79 x1))) + (rd σ 78 x1)) ((rd σ 126 ((10 * (x2 + (rd σ 79 x1))) + (rd σ 78 x1))) + (rd σ 125 x1))) 124 (rd σ 77 x1) ((rd σ 124 (rd σ 77 x1)) + ((rd σ 125 x1) - (rd σ 125 x1)))) 125 x1 0) 129 x1 0)) : pC mX11_lift d [(2, 68), (0, x1), (0, x2)] σ Q := by
  show pR mX11_lift d 0 [(2, 68), (0, x1), (0, x2), (9, 0)] [] σ Q
  refine pGo (s_aload_n dX11_lift_0 rfl (by decide)) ?_
  refine pGo (s_iload_n dX11_lift_1 rfl) ?_
  refine pGo (s_iload_n dX11_lift_2 rfl) ?_
  refine p_callV (As := [(0, x1), (0, x2)]) (st := []) (n := 2) (d' := 1) (Q1 := (fun r τ => r = some (0, b2i (vOpenM σ x1 x2)) ∧ τ = σ)) pc11 ok_X11_isOpenAt ml_X11_474 im_X11_isOpenAt se_X11_isOpenAt dX11_lift_3 (ob_68 hst) (pargs_of rfl) rfl (Nat.le_of_ble_eq_true rfl) (by omega) f1 (fun r1 τ1 e1 q1 w1 => ?_)
  obtain ⟨rfl, t1⟩ := q1
  rw [t1]
  show pR mX11_lift d 6 [(2, 68), (0, x1), (0, x2), (9, 0)] [(0, (b2i (vOpenM σ x1 x2)))] σ Q
  refine p_ifeqB (tgt := 87) dX11_lift_6 (by decide) (fun c1 => ?_) (fun c2 => ?_)
  · refine pGo (s_iload_n dX11_lift_87 rfl) ?_
    refine pGo (s_iconst dX11_lift_88) ?_
    refine pGo (s_iadd dX11_lift_89) ?_
    refine pGo (s_aload_n dX11_lift_90 rfl (by decide)) ?_
    refine pGoE (y := 82) (s_getF pc11 fl_X11_54 dX11_lift_91 (ob_68 hst) rfl (by decide)) (by decide) ?_
    refine pGo (s_iload_n dX11_lift_94 rfl) ?_
    refine pGoE (y := (rd σ 82 x1)) (s_iald dX11_lift_95 (ob_82 hst) (bnd (g1 c1))) rfl ?_
    refine p_icne (tgt := 126) dX11_lift_96 (by decide) (g2 c1) (g3 c1) (fun c3 => ?_) (fun c4 => ?_)
    · refine pGo (s_aload_n dX11_lift_126 rfl (by decide)) ?_
      refine pGoE (y := 129) (s_getF pc11 fl_X11_196 dX11_lift_127 (ob_68 hst) rfl (by decide)) (by decide) ?_
      refine pGo (s_iload_n dX11_lift_130 rfl) ?_
      refine pGo (s_aload_n dX11_lift_131 rfl (by decide)) ?_
      refine pGoE (y := 125) (s_getF pc11 fl_X11_184 dX11_lift_132 (ob_68 hst) rfl (by decide)) (by decide) ?_
      refine pGo (s_iload_n dX11_lift_135 rfl) ?_
      refine pGoE (y := (rd σ 125 x1)) (s_iald dX11_lift_136 (ob_125 hst) (bnd (g4 c1 c3))) rfl ?_
      refine pGo (s_aload_n dX11_lift_137 rfl (by decide)) ?_
      refine pGoE (y := 129) (s_getF pc11 fl_X11_196 dX11_lift_138 (ob_68 hst) rfl (by decide)) (by decide) ?_
      refine pGo (s_iload_n dX11_lift_141 rfl) ?_
      refine pGoE (y := (rd σ 129 x1)) (s_iald dX11_lift_142 (ob_129 hst) (bnd (g4 c1 c3))) rfl ?_
      refine p_icle (tgt := 155) dX11_lift_143 (by decide) (g5 c1 c3) (g6 c1 c3) (fun c5 => ?_) (fun c6 => ?_)
      · refine pGo (s_aload_n dX11_lift_155 rfl (by decide)) ?_
        refine pGoE (y := 129) (s_getF pc11 fl_X11_196 dX11_lift_156 (ob_68 hst) rfl (by decide)) (by decide) ?_
        refine pGo (s_iload_n dX11_lift_159 rfl) ?_
        refine pGoE (y := (rd σ 129 x1)) (s_iald dX11_lift_160 (ob_129 hst) (bnd (g4 c1 c3))) rfl ?_
        refine pGo (s_iast dX11_lift_161 (ob_129 hst) (bnd (g4 c1 c3))) ?_
        exact pEnd (r := none) dX11_lift_162 rfl (k1 c1 c3 c5)
      · refine pGo (s_aload_n dX11_lift_146 rfl (by decide)) ?_
        refine pGoE (y := 125) (s_getF pc11 fl_X11_184 dX11_lift_147 (ob_68 hst) rfl (by decide)) (by decide) ?_
        refine pGo (s_iload_n dX11_lift_150 rfl) ?_
        refine pGoE (y := (rd σ 125 x1)) (s_iald dX11_lift_151 (ob_125 hst) (bnd (g4 c1 c3))) rfl ?_
        refine pGo (s_goto (tgt := 161) dX11_lift_152 (by decide)) ?_
        refine pGo (s_iast dX11_lift_161 (ob_129 hst) (bnd (g4 c1 c3))) ?_
        exact pEnd (r := none) dX11_lift_162 rfl (k2 c1 c3 c6)
    · refine pGo (s_aload_n dX11_lift_99 rfl (by decide)) ?_
      refine pGoE (y := 124) (s_getF pc11 fl_X11_181 dX11_lift_100 (ob_68 hst) rfl (by decide)) (by decide) ?_
      refine pGo (s_aload_n dX11_lift_103 rfl (by decide)) ?_
      refine pGoE (y := 77) (s_getF pc11 fl_X11_39 dX11_lift_104 (ob_68 hst) rfl (by decide)) (by decide) ?_
      refine pGo (s_iload_n dX11_lift_107 rfl) ?_
      refine pGoE (y := (rd σ 77 x1)) (s_iald dX11_lift_108 (ob_77 hst) (bnd (g1 c1))) rfl ?_
      refine pGo (s_dup2 dX11_lift_109 (show (0 : Nat) ≠ 1 by decide) (show (2 : Nat) ≠ 1 by decide)) ?_
      refine pGoE (y := (rd σ 124 (rd σ 77 x1))) (s_iald dX11_lift_110 (ob_124 hst) (bnd (g7 c1 c4))) rfl ?_
      refine pGo (s_aload_n dX11_lift_111 rfl (by decide)) ?_
      refine pGoE (y := 125) (s_getF pc11 fl_X11_184 dX11_lift_112 (ob_68 hst) rfl (by decide)) (by decide) ?_
      refine pGo (s_iload_n dX11_lift_115 rfl) ?_
      refine pGoE (y := (rd σ 125 x1)) (s_iald dX11_lift_116 (ob_125 hst) (bnd (g8 c1 c4))) rfl ?_
      refine pGo (s_iadd dX11_lift_117) ?_
      refine pGo (s_iast dX11_lift_118 (ob_124 hst) (bnd (g7 c1 c4))) ?_
      refine pGo (s_aload_n dX11_lift_119 rfl (by decide)) ?_
      refine pGoE (y := 125) (s_getF pc11 fl_X11_184 dX11_lift_120 (ob_68 hst) rfl (by decide)) (by decide) ?_
      refine pGo (s_iload_n dX11_lift_123 rfl) ?_
      refine pGo (s_iconst dX11_lift_124) ?_
      refine pGo (s_iast dX11_lift_125 (ob_125 hst) (bnd (g8 c1 c4))) ?_
      refine pGo (s_aload_n dX11_lift_126 rfl (by decide)) ?_
      refine pGoE (y := 129) (s_getF pc11 fl_X11_196 dX11_lift_127 (ob_68 hst) rfl (by decide)) (by decide) ?_
      refine pGo (s_iload_n dX11_lift_130 rfl) ?_
      refine pGo (s_aload_n dX11_lift_131 rfl (by decide)) ?_
      refine pGoE (y := 125) (s_getF pc11 fl_X11_184 dX11_lift_132 (ob_68 hst) rfl (by decide)) (by decide) ?_
      refine pGo (s_iload_n dX11_lift_135 rfl) ?_
      refine pGoE (y := 0) (s_iald dX11_lift_136 (ob_125 hst) (bnd (g8 c1 c4))) (rd_wr_same _ _ _ _) ?_
      refine pGo (s_aload_n dX11_lift_137 rfl (by decide)) ?_
      refine pGoE (y := 129) (s_getF pc11 fl_X11_196 dX11_lift_138 (ob_68 hst) rfl (by decide)) (by decide) ?_
      refine pGo (s_iload_n dX11_lift_141 rfl) ?_
      refine pGoE (y := (rd σ 129 x1)) (s_iald dX11_lift_142 (ob_129 hst) (bnd (g8 c1 c4))) ((rd_wr_a _ (by decide)).trans (rd_wr_a _ (by decide))) ?_
      refine p_icle (tgt := 155) dX11_lift_143 (by decide) (by decide) (g9 c1 c4) (fun c7 => ?_) (fun c8 => ?_)
      · refine pGo (s_aload_n dX11_lift_155 rfl (by decide)) ?_
        refine pGoE (y := 129) (s_getF pc11 fl_X11_196 dX11_lift_156 (ob_68 hst) rfl (by decide)) (by decide) ?_
        refine pGo (s_iload_n dX11_lift_159 rfl) ?_
        refine pGoE (y := (rd σ 129 x1)) (s_iald dX11_lift_160 (ob_129 hst) (bnd (g8 c1 c4))) ((rd_wr_a _ (by decide)).trans (rd_wr_a _ (by decide))) ?_
        refine pGo (s_iast dX11_lift_161 (ob_129 hst) (bnd (g8 c1 c4))) ?_
        exact pEnd (r := none) dX11_lift_162 rfl (k3 c1 c4 c7)
      · refine pGo (s_aload_n dX11_lift_146 rfl (by decide)) ?_
        refine pGoE (y := 125) (s_getF pc11 fl_X11_184 dX11_lift_147 (ob_68 hst) rfl (by decide)) (by decide) ?_
        refine pGo (s_iload_n dX11_lift_150 rfl) ?_
        refine pGoE (y := 0) (s_iald dX11_lift_151 (ob_125 hst) (bnd (g8 c1 c4))) (rd_wr_same _ _ _ _) ?_
        refine pGo (s_goto (tgt := 161) dX11_lift_152 (by decide)) ?_
        refine pGo (s_iast dX11_lift_161 (ob_129 hst) (bnd (g8 c1 c4))) ?_
        exact pEnd (r := none) dX11_lift_162 rfl (k4 c1 c4 c8)
  · refine pGo (s_aload_n dX11_lift_9 rfl (by decide)) ?_
    refine pGoE (y := 125) (s_getF pc11 fl_X11_184 dX11_lift_10 (ob_68 hst) rfl (by decide)) (by decide) ?_
    refine pGo (s_iload_n dX11_lift_13 rfl) ?_
    refine pGoE (y := (rd σ 125 x1)) (s_iald dX11_lift_14 (ob_125 hst) (bnd (g10 c2))) rfl ?_
    refine pGo (s_aload_n dX11_lift_15 rfl (by decide)) ?_
    refine pGoE (y := 80) (s_getF pc11 fl_X11_48 dX11_lift_16 (ob_68 hst) rfl (by decide)) (by decide) ?_
    refine pGo (s_iload_n dX11_lift_19 rfl) ?_
    refine pGoE (y := (rd σ 80 x1)) (s_iald dX11_lift_20 (ob_80 hst) (bnd (g11 c2))) rfl ?_
    refine p_icge (tgt := 33) dX11_lift_21 (by decide) (g12 c2) (g13 c2) (fun c9 => ?_) (fun c10 => ?_)
    · refine pGo (s_aload_n dX11_lift_33 rfl (by decide)) ?_
      refine pGoE (y := 80) (s_getF pc11 fl_X11_48 dX11_lift_34 (ob_68 hst) rfl (by decide)) (by decide) ?_
      refine pGo (s_iload_n dX11_lift_37 rfl) ?_
      refine pGoE (y := (rd σ 80 x1)) (s_iald dX11_lift_38 (ob_80 hst) (bnd (g11 c2))) rfl ?_
      refine pGoL (ls2 := [(2, 68), (0, x1), (0, x2), (0, (rd σ 80 x1))]) (s_istore_n dX11_lift_39 (by decide) rfl) rfl ?_
      refine pGo (s_aload_n dX11_lift_40 rfl (by decide)) ?_
      refine pGoE (y := 125) (s_getF pc11 fl_X11_184 dX11_lift_41 (ob_68 hst) rfl (by decide)) (by decide) ?_
      refine pGo (s_iload_n dX11_lift_44 rfl) ?_
      refine pGo (s_dup2 dX11_lift_45 (show (0 : Nat) ≠ 1 by decide) (show (2 : Nat) ≠ 1 by decide)) ?_
      refine pGoE (y := (rd σ 125 x1)) (s_iald dX11_lift_46 (ob_125 hst) (bnd (g10 c2))) rfl ?_
      refine pGo (s_iload_n dX11_lift_47 rfl) ?_
      refine pGo (s_isub dX11_lift_48) ?_
      refine pGo (s_iast dX11_lift_49 (ob_125 hst) (bnd (g10 c2))) ?_
      refine pGo (s_aload_n dX11_lift_50 rfl (by decide)) ?_
      refine pGoE (y := 128) (s_getF pc11 fl_X11_193 dX11_lift_51 (ob_68 hst) rfl (by decide)) (by decide) ?_
      refine pGo (s_iload_n dX11_lift_54 rfl) ?_
      refine pGo (s_dup2 dX11_lift_55 (show (0 : Nat) ≠ 1 by decide) (show (2 : Nat) ≠ 1 by decide)) ?_
      refine pGoE (y := (rd σ 128 x1)) (s_iald dX11_lift_56 (ob_128 hst) (bnd (g11 c2))) (rd_wr_a _ (by decide)) ?_
      refine pGo (s_iload_n dX11_lift_57 rfl) ?_
      refine pGo (s_iadd dX11_lift_58) ?_
      refine pGo (s_iast dX11_lift_59 (ob_128 hst) (bnd (g11 c2))) ?_
      refine pGo (s_aload_n dX11_lift_60 rfl (by decide)) ?_
      refine pGoE (y := 126) (s_getF pc11 fl_X11_187 dX11_lift_61 (ob_68 hst) rfl (by decide)) (by decide) ?_
      refine pGo (s_bipush dX11_lift_64 (by decide)) ?_
      refine pGo (s_iload_n dX11_lift_66 rfl) ?_
      refine pGo (s_aload_n dX11_lift_67 rfl (by decide)) ?_
      refine pGoE (y := 79) (s_getF pc11 fl_X11_45 dX11_lift_68 (ob_68 hst) rfl (by decide)) (by decide) ?_
      refine pGo (s_iload_n dX11_lift_71 rfl) ?_
      refine pGoE (y := (rd σ 79 x1)) (s_iald dX11_lift_72 (ob_79 hst) (bnd (g11 c2))) ((rd_wr_a _ (by decide)).trans (rd_wr_a _ (by decide))) ?_
      refine pGo (s_iadd dX11_lift_73) ?_
      refine pGo (s_imul dX11_lift_74) ?_
      refine pGo (s_aload_n dX11_lift_75 rfl (by decide)) ?_
      refine pGoE (y := 78) (s_getF pc11 fl_X11_42 dX11_lift_76 (ob_68 hst) rfl (by decide)) (by decide) ?_
      refine pGo (s_iload_n dX11_lift_79 rfl) ?_
      refine pGoE (y := (rd σ 78 x1)) (s_iald dX11_lift_80 (ob_78 hst) (bnd (g11 c2))) ((rd_wr_a _ (by decide)).trans (rd_wr_a _ (by decide))) ?_
      refine pGo (s_iadd dX11_lift_81) ?_
      refine pGo (s_dup2 dX11_lift_82 (show (0 : Nat) ≠ 1 by decide) (show (2 : Nat) ≠ 1 by decide)) ?_
      refine pGoE (y := (rd σ 126 ((10 * (x2 + (rd σ 79 x1))) + (rd σ 78 x1)))) (s_iald dX11_lift_83 (ob_126 hst) (bnd (g14 c2 c9))) ((rd_wr_a _ (by decide)).trans (rd_wr_a _ (by decide))) ?_
      refine pGo (s_iload_n dX11_lift_84 rfl) ?_
      refine pGo (s_iadd dX11_lift_85) ?_
      refine pGo (s_iast dX11_lift_86 (ob_126 hst) (bnd (g14 c2 c9))) ?_
      refine pGo (s_iload_n dX11_lift_87 rfl) ?_
      refine pGo (s_iconst dX11_lift_88) ?_
      refine pGo (s_iadd dX11_lift_89) ?_
      refine pGo (s_aload_n dX11_lift_90 rfl (by decide)) ?_
      refine pGoE (y := 82) (s_getF pc11 fl_X11_54 dX11_lift_91 (ob_68 hst) rfl (by decide)) (by decide) ?_
      refine pGo (s_iload_n dX11_lift_94 rfl) ?_
      refine pGoE (y := (rd σ 82 x1)) (s_iald dX11_lift_95 (ob_82 hst) (bnd (g11 c2))) ((rd_wr_a _ (by decide)).trans ((rd_wr_a _ (by decide)).trans (rd_wr_a _ (by decide)))) ?_
      refine p_icne (tgt := 126) dX11_lift_96 (by decide) (g15 c2 c9) (g16 c2 c9) (fun c11 => ?_) (fun c12 => ?_)
      · refine pGo (s_aload_n dX11_lift_126 rfl (by decide)) ?_
        refine pGoE (y := 129) (s_getF pc11 fl_X11_196 dX11_lift_127 (ob_68 hst) rfl (by decide)) (by decide) ?_
        refine pGo (s_iload_n dX11_lift_130 rfl) ?_
        refine pGo (s_aload_n dX11_lift_131 rfl (by decide)) ?_
        refine pGoE (y := 125) (s_getF pc11 fl_X11_184 dX11_lift_132 (ob_68 hst) rfl (by decide)) (by decide) ?_
        refine pGo (s_iload_n dX11_lift_135 rfl) ?_
        refine pGoE (y := ((rd σ 125 x1) - (rd σ 80 x1))) (s_iald dX11_lift_136 (ob_125 hst) (bnd (g10 c2))) ((rd_wr_a _ (by decide)).trans ((rd_wr_a _ (by decide)).trans (rd_wr_same _ _ _ _))) ?_
        refine pGo (s_aload_n dX11_lift_137 rfl (by decide)) ?_
        refine pGoE (y := 129) (s_getF pc11 fl_X11_196 dX11_lift_138 (ob_68 hst) rfl (by decide)) (by decide) ?_
        refine pGo (s_iload_n dX11_lift_141 rfl) ?_
        refine pGoE (y := (rd σ 129 x1)) (s_iald dX11_lift_142 (ob_129 hst) (bnd (g10 c2))) ((rd_wr_a _ (by decide)).trans ((rd_wr_a _ (by decide)).trans (rd_wr_a _ (by decide)))) ?_
        refine p_icle (tgt := 155) dX11_lift_143 (by decide) (g17 c2 c9 c11) (g18 c2 c9 c11) (fun c13 => ?_) (fun c14 => ?_)
        · refine pGo (s_aload_n dX11_lift_155 rfl (by decide)) ?_
          refine pGoE (y := 129) (s_getF pc11 fl_X11_196 dX11_lift_156 (ob_68 hst) rfl (by decide)) (by decide) ?_
          refine pGo (s_iload_n dX11_lift_159 rfl) ?_
          refine pGoE (y := (rd σ 129 x1)) (s_iald dX11_lift_160 (ob_129 hst) (bnd (g10 c2))) ((rd_wr_a _ (by decide)).trans ((rd_wr_a _ (by decide)).trans (rd_wr_a _ (by decide)))) ?_
          refine pGo (s_iast dX11_lift_161 (ob_129 hst) (bnd (g10 c2))) ?_
          exact pEnd (r := none) dX11_lift_162 rfl (k5 c2 c9 c11 c13)
        · refine pGo (s_aload_n dX11_lift_146 rfl (by decide)) ?_
          refine pGoE (y := 125) (s_getF pc11 fl_X11_184 dX11_lift_147 (ob_68 hst) rfl (by decide)) (by decide) ?_
          refine pGo (s_iload_n dX11_lift_150 rfl) ?_
          refine pGoE (y := ((rd σ 125 x1) - (rd σ 80 x1))) (s_iald dX11_lift_151 (ob_125 hst) (bnd (g10 c2))) ((rd_wr_a _ (by decide)).trans ((rd_wr_a _ (by decide)).trans (rd_wr_same _ _ _ _))) ?_
          refine pGo (s_goto (tgt := 161) dX11_lift_152 (by decide)) ?_
          refine pGo (s_iast dX11_lift_161 (ob_129 hst) (bnd (g10 c2))) ?_
          exact pEnd (r := none) dX11_lift_162 rfl (k6 c2 c9 c11 c14)
      · refine pGo (s_aload_n dX11_lift_99 rfl (by decide)) ?_
        refine pGoE (y := 124) (s_getF pc11 fl_X11_181 dX11_lift_100 (ob_68 hst) rfl (by decide)) (by decide) ?_
        refine pGo (s_aload_n dX11_lift_103 rfl (by decide)) ?_
        refine pGoE (y := 77) (s_getF pc11 fl_X11_39 dX11_lift_104 (ob_68 hst) rfl (by decide)) (by decide) ?_
        refine pGo (s_iload_n dX11_lift_107 rfl) ?_
        refine pGoE (y := (rd σ 77 x1)) (s_iald dX11_lift_108 (ob_77 hst) (bnd (g11 c2))) ((rd_wr_a _ (by decide)).trans ((rd_wr_a _ (by decide)).trans (rd_wr_a _ (by decide)))) ?_
        refine pGo (s_dup2 dX11_lift_109 (show (0 : Nat) ≠ 1 by decide) (show (2 : Nat) ≠ 1 by decide)) ?_
        refine pGoE (y := (rd σ 124 (rd σ 77 x1))) (s_iald dX11_lift_110 (ob_124 hst) (bnd (g19 c2 c9 c12))) ((rd_wr_a _ (by decide)).trans ((rd_wr_a _ (by decide)).trans (rd_wr_a _ (by decide)))) ?_
        refine pGo (s_aload_n dX11_lift_111 rfl (by decide)) ?_
        refine pGoE (y := 125) (s_getF pc11 fl_X11_184 dX11_lift_112 (ob_68 hst) rfl (by decide)) (by decide) ?_
        refine pGo (s_iload_n dX11_lift_115 rfl) ?_
        refine pGoE (y := ((rd σ 125 x1) - (rd σ 80 x1))) (s_iald dX11_lift_116 (ob_125 hst) (bnd (g10 c2))) ((rd_wr_a _ (by decide)).trans ((rd_wr_a _ (by decide)).trans (rd_wr_same _ _ _ _))) ?_
        refine pGo (s_iadd dX11_lift_117) ?_
        refine pGo (s_iast dX11_lift_118 (ob_124 hst) (bnd (g19 c2 c9 c12))) ?_
        refine pGo (s_aload_n dX11_lift_119 rfl (by decide)) ?_
        refine pGoE (y := 125) (s_getF pc11 fl_X11_184 dX11_lift_120 (ob_68 hst) rfl (by decide)) (by decide) ?_
        refine pGo (s_iload_n dX11_lift_123 rfl) ?_
        refine pGo (s_iconst dX11_lift_124) ?_
        refine pGo (s_iast dX11_lift_125 (ob_125 hst) (bnd (g10 c2))) ?_
        refine pGo (s_aload_n dX11_lift_126 rfl (by decide)) ?_
        refine pGoE (y := 129) (s_getF pc11 fl_X11_196 dX11_lift_127 (ob_68 hst) rfl (by decide)) (by decide) ?_
        refine pGo (s_iload_n dX11_lift_130 rfl) ?_
        refine pGo (s_aload_n dX11_lift_131 rfl (by decide)) ?_
        refine pGoE (y := 125) (s_getF pc11 fl_X11_184 dX11_lift_132 (ob_68 hst) rfl (by decide)) (by decide) ?_
        refine pGo (s_iload_n dX11_lift_135 rfl) ?_
        refine pGoE (y := 0) (s_iald dX11_lift_136 (ob_125 hst) (bnd (g10 c2))) (rd_wr_same _ _ _ _) ?_
        refine pGo (s_aload_n dX11_lift_137 rfl (by decide)) ?_
        refine pGoE (y := 129) (s_getF pc11 fl_X11_196 dX11_lift_138 (ob_68 hst) rfl (by decide)) (by decide) ?_
        refine pGo (s_iload_n dX11_lift_141 rfl) ?_
        refine pGoE (y := (rd σ 129 x1)) (s_iald dX11_lift_142 (ob_129 hst) (bnd (g10 c2))) ((rd_wr_a _ (by decide)).trans ((rd_wr_a _ (by decide)).trans ((rd_wr_a _ (by decide)).trans ((rd_wr_a _ (by decide)).trans (rd_wr_a _ (by decide)))))) ?_
        refine p_icle (tgt := 155) dX11_lift_143 (by decide) (by decide) (g20 c2 c9 c12) (fun c15 => ?_) (fun c16 => ?_)
        · refine pGo (s_aload_n dX11_lift_155 rfl (by decide)) ?_
          refine pGoE (y := 129) (s_getF pc11 fl_X11_196 dX11_lift_156 (ob_68 hst) rfl (by decide)) (by decide) ?_
          refine pGo (s_iload_n dX11_lift_159 rfl) ?_
          refine pGoE (y := (rd σ 129 x1)) (s_iald dX11_lift_160 (ob_129 hst) (bnd (g10 c2))) ((rd_wr_a _ (by decide)).trans ((rd_wr_a _ (by decide)).trans ((rd_wr_a _ (by decide)).trans ((rd_wr_a _ (by decide)).trans (rd_wr_a _ (by decide)))))) ?_
          refine pGo (s_iast dX11_lift_161 (ob_129 hst) (bnd (g10 c2))) ?_
          exact pEnd (r := none) dX11_lift_162 rfl (k7 c2 c9 c12 c15)
        · refine pGo (s_aload_n dX11_lift_146 rfl (by decide)) ?_
          refine pGoE (y := 125) (s_getF pc11 fl_X11_184 dX11_lift_147 (ob_68 hst) rfl (by decide)) (by decide) ?_
          refine pGo (s_iload_n dX11_lift_150 rfl) ?_
          refine pGoE (y := 0) (s_iald dX11_lift_151 (ob_125 hst) (bnd (g10 c2))) (rd_wr_same _ _ _ _) ?_
          refine pGo (s_goto (tgt := 161) dX11_lift_152 (by decide)) ?_
          refine pGo (s_iast dX11_lift_161 (ob_129 hst) (bnd (g10 c2))) ?_
          exact pEnd (r := none) dX11_lift_162 rfl (k8 c2 c9 c12 c16)
    · refine pGo (s_aload_n dX11_lift_24 rfl (by decide)) ?_
      refine pGoE (y := 125) (s_getF pc11 fl_X11_184 dX11_lift_25 (ob_68 hst) rfl (by decide)) (by decide) ?_
      refine pGo (s_iload_n dX11_lift_28 rfl) ?_
      refine pGoE (y := (rd σ 125 x1)) (s_iald dX11_lift_29 (ob_125 hst) (bnd (g10 c2))) rfl ?_
      refine pGo (s_goto (tgt := 39) dX11_lift_30 (by decide)) ?_
      refine pGoL (ls2 := [(2, 68), (0, x1), (0, x2), (0, (rd σ 125 x1))]) (s_istore_n dX11_lift_39 (by decide) rfl) rfl ?_
      refine pGo (s_aload_n dX11_lift_40 rfl (by decide)) ?_
      refine pGoE (y := 125) (s_getF pc11 fl_X11_184 dX11_lift_41 (ob_68 hst) rfl (by decide)) (by decide) ?_
      refine pGo (s_iload_n dX11_lift_44 rfl) ?_
      refine pGo (s_dup2 dX11_lift_45 (show (0 : Nat) ≠ 1 by decide) (show (2 : Nat) ≠ 1 by decide)) ?_
      refine pGoE (y := (rd σ 125 x1)) (s_iald dX11_lift_46 (ob_125 hst) (bnd (g10 c2))) rfl ?_
      refine pGo (s_iload_n dX11_lift_47 rfl) ?_
      refine pGo (s_isub dX11_lift_48) ?_
      refine pGo (s_iast dX11_lift_49 (ob_125 hst) (bnd (g10 c2))) ?_
      refine pGo (s_aload_n dX11_lift_50 rfl (by decide)) ?_
      refine pGoE (y := 128) (s_getF pc11 fl_X11_193 dX11_lift_51 (ob_68 hst) rfl (by decide)) (by decide) ?_
      refine pGo (s_iload_n dX11_lift_54 rfl) ?_
      refine pGo (s_dup2 dX11_lift_55 (show (0 : Nat) ≠ 1 by decide) (show (2 : Nat) ≠ 1 by decide)) ?_
      refine pGoE (y := (rd σ 128 x1)) (s_iald dX11_lift_56 (ob_128 hst) (bnd (g11 c2))) (rd_wr_a _ (by decide)) ?_
      refine pGo (s_iload_n dX11_lift_57 rfl) ?_
      refine pGo (s_iadd dX11_lift_58) ?_
      refine pGo (s_iast dX11_lift_59 (ob_128 hst) (bnd (g11 c2))) ?_
      refine pGo (s_aload_n dX11_lift_60 rfl (by decide)) ?_
      refine pGoE (y := 126) (s_getF pc11 fl_X11_187 dX11_lift_61 (ob_68 hst) rfl (by decide)) (by decide) ?_
      refine pGo (s_bipush dX11_lift_64 (by decide)) ?_
      refine pGo (s_iload_n dX11_lift_66 rfl) ?_
      refine pGo (s_aload_n dX11_lift_67 rfl (by decide)) ?_
      refine pGoE (y := 79) (s_getF pc11 fl_X11_45 dX11_lift_68 (ob_68 hst) rfl (by decide)) (by decide) ?_
      refine pGo (s_iload_n dX11_lift_71 rfl) ?_
      refine pGoE (y := (rd σ 79 x1)) (s_iald dX11_lift_72 (ob_79 hst) (bnd (g11 c2))) ((rd_wr_a _ (by decide)).trans (rd_wr_a _ (by decide))) ?_
      refine pGo (s_iadd dX11_lift_73) ?_
      refine pGo (s_imul dX11_lift_74) ?_
      refine pGo (s_aload_n dX11_lift_75 rfl (by decide)) ?_
      refine pGoE (y := 78) (s_getF pc11 fl_X11_42 dX11_lift_76 (ob_68 hst) rfl (by decide)) (by decide) ?_
      refine pGo (s_iload_n dX11_lift_79 rfl) ?_
      refine pGoE (y := (rd σ 78 x1)) (s_iald dX11_lift_80 (ob_78 hst) (bnd (g11 c2))) ((rd_wr_a _ (by decide)).trans (rd_wr_a _ (by decide))) ?_
      refine pGo (s_iadd dX11_lift_81) ?_
      refine pGo (s_dup2 dX11_lift_82 (show (0 : Nat) ≠ 1 by decide) (show (2 : Nat) ≠ 1 by decide)) ?_
      refine pGoE (y := (rd σ 126 ((10 * (x2 + (rd σ 79 x1))) + (rd σ 78 x1)))) (s_iald dX11_lift_83 (ob_126 hst) (bnd (g21 c2 c10))) ((rd_wr_a _ (by decide)).trans (rd_wr_a _ (by decide))) ?_
      refine pGo (s_iload_n dX11_lift_84 rfl) ?_
      refine pGo (s_iadd dX11_lift_85) ?_
      refine pGo (s_iast dX11_lift_86 (ob_126 hst) (bnd (g21 c2 c10))) ?_
      refine pGo (s_iload_n dX11_lift_87 rfl) ?_
      refine pGo (s_iconst dX11_lift_88) ?_
      refine pGo (s_iadd dX11_lift_89) ?_
      refine pGo (s_aload_n dX11_lift_90 rfl (by decide)) ?_
      refine pGoE (y := 82) (s_getF pc11 fl_X11_54 dX11_lift_91 (ob_68 hst) rfl (by decide)) (by decide) ?_
      refine pGo (s_iload_n dX11_lift_94 rfl) ?_
      refine pGoE (y := (rd σ 82 x1)) (s_iald dX11_lift_95 (ob_82 hst) (bnd (g11 c2))) ((rd_wr_a _ (by decide)).trans ((rd_wr_a _ (by decide)).trans (rd_wr_a _ (by decide)))) ?_
      refine p_icne (tgt := 126) dX11_lift_96 (by decide) (g22 c2 c10) (g23 c2 c10) (fun c17 => ?_) (fun c18 => ?_)
      · refine pGo (s_aload_n dX11_lift_126 rfl (by decide)) ?_
        refine pGoE (y := 129) (s_getF pc11 fl_X11_196 dX11_lift_127 (ob_68 hst) rfl (by decide)) (by decide) ?_
        refine pGo (s_iload_n dX11_lift_130 rfl) ?_
        refine pGo (s_aload_n dX11_lift_131 rfl (by decide)) ?_
        refine pGoE (y := 125) (s_getF pc11 fl_X11_184 dX11_lift_132 (ob_68 hst) rfl (by decide)) (by decide) ?_
        refine pGo (s_iload_n dX11_lift_135 rfl) ?_
        refine pGoE (y := ((rd σ 125 x1) - (rd σ 125 x1))) (s_iald dX11_lift_136 (ob_125 hst) (bnd (g10 c2))) ((rd_wr_a _ (by decide)).trans ((rd_wr_a _ (by decide)).trans (rd_wr_same _ _ _ _))) ?_
        refine pGo (s_aload_n dX11_lift_137 rfl (by decide)) ?_
        refine pGoE (y := 129) (s_getF pc11 fl_X11_196 dX11_lift_138 (ob_68 hst) rfl (by decide)) (by decide) ?_
        refine pGo (s_iload_n dX11_lift_141 rfl) ?_
        refine pGoE (y := (rd σ 129 x1)) (s_iald dX11_lift_142 (ob_129 hst) (bnd (g10 c2))) ((rd_wr_a _ (by decide)).trans ((rd_wr_a _ (by decide)).trans (rd_wr_a _ (by decide)))) ?_
        refine p_icle (tgt := 155) dX11_lift_143 (by decide) (g24 c2 c10 c17) (g25 c2 c10 c17) (fun c19 => ?_) (fun c20 => ?_)
        · refine pGo (s_aload_n dX11_lift_155 rfl (by decide)) ?_
          refine pGoE (y := 129) (s_getF pc11 fl_X11_196 dX11_lift_156 (ob_68 hst) rfl (by decide)) (by decide) ?_
          refine pGo (s_iload_n dX11_lift_159 rfl) ?_
          refine pGoE (y := (rd σ 129 x1)) (s_iald dX11_lift_160 (ob_129 hst) (bnd (g10 c2))) ((rd_wr_a _ (by decide)).trans ((rd_wr_a _ (by decide)).trans (rd_wr_a _ (by decide)))) ?_
          refine pGo (s_iast dX11_lift_161 (ob_129 hst) (bnd (g10 c2))) ?_
          exact pEnd (r := none) dX11_lift_162 rfl (k9 c2 c10 c17 c19)
        · refine pGo (s_aload_n dX11_lift_146 rfl (by decide)) ?_
          refine pGoE (y := 125) (s_getF pc11 fl_X11_184 dX11_lift_147 (ob_68 hst) rfl (by decide)) (by decide) ?_
          refine pGo (s_iload_n dX11_lift_150 rfl) ?_
          refine pGoE (y := ((rd σ 125 x1) - (rd σ 125 x1))) (s_iald dX11_lift_151 (ob_125 hst) (bnd (g10 c2))) ((rd_wr_a _ (by decide)).trans ((rd_wr_a _ (by decide)).trans (rd_wr_same _ _ _ _))) ?_
          refine pGo (s_goto (tgt := 161) dX11_lift_152 (by decide)) ?_
          refine pGo (s_iast dX11_lift_161 (ob_129 hst) (bnd (g10 c2))) ?_
          exact pEnd (r := none) dX11_lift_162 rfl (k10 c2 c10 c17 c20)
      · refine pGo (s_aload_n dX11_lift_99 rfl (by decide)) ?_
        refine pGoE (y := 124) (s_getF pc11 fl_X11_181 dX11_lift_100 (ob_68 hst) rfl (by decide)) (by decide) ?_
        refine pGo (s_aload_n dX11_lift_103 rfl (by decide)) ?_
        refine pGoE (y := 77) (s_getF pc11 fl_X11_39 dX11_lift_104 (ob_68 hst) rfl (by decide)) (by decide) ?_
        refine pGo (s_iload_n dX11_lift_107 rfl) ?_
        refine pGoE (y := (rd σ 77 x1)) (s_iald dX11_lift_108 (ob_77 hst) (bnd (g11 c2))) ((rd_wr_a _ (by decide)).trans ((rd_wr_a _ (by decide)).trans (rd_wr_a _ (by decide)))) ?_
        refine pGo (s_dup2 dX11_lift_109 (show (0 : Nat) ≠ 1 by decide) (show (2 : Nat) ≠ 1 by decide)) ?_
        refine pGoE (y := (rd σ 124 (rd σ 77 x1))) (s_iald dX11_lift_110 (ob_124 hst) (bnd (g26 c2 c10 c18))) ((rd_wr_a _ (by decide)).trans ((rd_wr_a _ (by decide)).trans (rd_wr_a _ (by decide)))) ?_
        refine pGo (s_aload_n dX11_lift_111 rfl (by decide)) ?_
        refine pGoE (y := 125) (s_getF pc11 fl_X11_184 dX11_lift_112 (ob_68 hst) rfl (by decide)) (by decide) ?_
        refine pGo (s_iload_n dX11_lift_115 rfl) ?_
        refine pGoE (y := ((rd σ 125 x1) - (rd σ 125 x1))) (s_iald dX11_lift_116 (ob_125 hst) (bnd (g10 c2))) ((rd_wr_a _ (by decide)).trans ((rd_wr_a _ (by decide)).trans (rd_wr_same _ _ _ _))) ?_
        refine pGo (s_iadd dX11_lift_117) ?_
        refine pGo (s_iast dX11_lift_118 (ob_124 hst) (bnd (g26 c2 c10 c18))) ?_
        refine pGo (s_aload_n dX11_lift_119 rfl (by decide)) ?_
        refine pGoE (y := 125) (s_getF pc11 fl_X11_184 dX11_lift_120 (ob_68 hst) rfl (by decide)) (by decide) ?_
        refine pGo (s_iload_n dX11_lift_123 rfl) ?_
        refine pGo (s_iconst dX11_lift_124) ?_
        refine pGo (s_iast dX11_lift_125 (ob_125 hst) (bnd (g10 c2))) ?_
        refine pGo (s_aload_n dX11_lift_126 rfl (by decide)) ?_
        refine pGoE (y := 129) (s_getF pc11 fl_X11_196 dX11_lift_127 (ob_68 hst) rfl (by decide)) (by decide) ?_
        refine pGo (s_iload_n dX11_lift_130 rfl) ?_
        refine pGo (s_aload_n dX11_lift_131 rfl (by decide)) ?_
        refine pGoE (y := 125) (s_getF pc11 fl_X11_184 dX11_lift_132 (ob_68 hst) rfl (by decide)) (by decide) ?_
        refine pGo (s_iload_n dX11_lift_135 rfl) ?_
        refine pGoE (y := 0) (s_iald dX11_lift_136 (ob_125 hst) (bnd (g10 c2))) (rd_wr_same _ _ _ _) ?_
        refine pGo (s_aload_n dX11_lift_137 rfl (by decide)) ?_
        refine pGoE (y := 129) (s_getF pc11 fl_X11_196 dX11_lift_138 (ob_68 hst) rfl (by decide)) (by decide) ?_
        refine pGo (s_iload_n dX11_lift_141 rfl) ?_
        refine pGoE (y := (rd σ 129 x1)) (s_iald dX11_lift_142 (ob_129 hst) (bnd (g10 c2))) ((rd_wr_a _ (by decide)).trans ((rd_wr_a _ (by decide)).trans ((rd_wr_a _ (by decide)).trans ((rd_wr_a _ (by decide)).trans (rd_wr_a _ (by decide)))))) ?_
        refine p_icle (tgt := 155) dX11_lift_143 (by decide) (by decide) (g27 c2 c10 c18) (fun c21 => ?_) (fun c22 => ?_)
        · refine pGo (s_aload_n dX11_lift_155 rfl (by decide)) ?_
          refine pGoE (y := 129) (s_getF pc11 fl_X11_196 dX11_lift_156 (ob_68 hst) rfl (by decide)) (by decide) ?_
          refine pGo (s_iload_n dX11_lift_159 rfl) ?_
          refine pGoE (y := (rd σ 129 x1)) (s_iald dX11_lift_160 (ob_129 hst) (bnd (g10 c2))) ((rd_wr_a _ (by decide)).trans ((rd_wr_a _ (by decide)).trans ((rd_wr_a _ (by decide)).trans ((rd_wr_a _ (by decide)).trans (rd_wr_a _ (by decide)))))) ?_
          refine pGo (s_iast dX11_lift_161 (ob_129 hst) (bnd (g10 c2))) ?_
          exact pEnd (r := none) dX11_lift_162 rfl (k11 c2 c10 c18 c21)
        · refine pGo (s_aload_n dX11_lift_146 rfl (by decide)) ?_
          refine pGoE (y := 125) (s_getF pc11 fl_X11_184 dX11_lift_147 (ob_68 hst) rfl (by decide)) (by decide) ?_
          refine pGo (s_iload_n dX11_lift_150 rfl) ?_
          refine pGoE (y := 0) (s_iald dX11_lift_151 (ob_125 hst) (bnd (g10 c2))) (rd_wr_same _ _ _ _) ?_
          refine pGo (s_goto (tgt := 161) dX11_lift_152 (by decide)) ?_
          refine pGo (s_iast dX11_lift_161 (ob_129 hst) (bnd (g10 c2))) ?_
          exact pEnd (r := none) dX11_lift_162 rfl (k12 c2 c10 c18 c22)
set_option maxRecDepth 100000 in
theorem g_X11_note_0 {d : Nat} {σ : pS} {Q : Option pV → pS → Prop} (hd : 0 ≤ d) (hst : Stat σ) (x1 : Int)  (k1 : pR mX11_note d 2 [(2, 68), (0, x1), (0, 0)] [] σ Q) : pC mX11_note d [(2, 68), (0, x1)] σ Q := by
  show pR mX11_note d 0 [(2, 68), (0, x1), (9, 0)] [] σ Q
  refine pGo (s_iconst dX11_note_0) ?_
  refine pGoL (ls2 := [(2, 68), (0, x1), (0, 0)]) (s_istore_n dX11_note_1 (by decide) rfl) rfl ?_
  exact k1
set_option maxRecDepth 100000 in
theorem g_X11_note_2 {d : Nat} {σ : pS} {Q : Option pV → pS → Prop} (hd : 0 ≤ d) (hst : Stat σ) (x1 : Int) (x2 : Int)  (g1 : inR x2) (k1 : ∀ (c1 : 10 ≤ x2), pR mX11_note d 45 [(2, 68), (0, x1), (0, 0)] [] σ Q) (g2 : ∀ (c2 : x2 < 10), 0 ≤ x2 ∧ x2 < 10) (g3 : ∀ (c2 : x2 < 10), 0 ≤ ((10 * x1) + x2) ∧ ((10 * x1) + x2) < 4800) (k2 : ∀ (c2 : x2 < 10), pR mX11_note d 2 [(2, 68), (0, x1), (0, (x2 + 1))] [] (wr (wr σ 130 ((10 * x1) + x2) (rd σ 124 x2)) 131 ((10 * x1) + x2) 0) Q) : pR mX11_note d 2 [(2, 68), (0, x1), (0, x2)] [] σ Q := by
  refine pGo (s_iload_n dX11_note_2 rfl) ?_
  refine pGo (s_bipush dX11_note_3 (by decide)) ?_
  refine p_icge (tgt := 43) dX11_note_5 (by decide) g1 (by decide) (fun c1 => ?_) (fun c2 => ?_)
  · refine pGo (s_iconst dX11_note_43) ?_
    refine pGoL (ls2 := [(2, 68), (0, x1), (0, 0)]) (s_istore_n dX11_note_44 (by decide) rfl) rfl ?_
    exact (k1 c1)
  · refine pGo (s_aload_n dX11_note_8 rfl (by decide)) ?_
    refine pGoE (y := 130) (s_getF pc11 fl_X11_199 dX11_note_9 (ob_68 hst) rfl (by decide)) (by decide) ?_
    refine pGo (s_bipush dX11_note_12 (by decide)) ?_
    refine pGo (s_iload_n dX11_note_14 rfl) ?_
    refine pGo (s_imul dX11_note_15) ?_
    refine pGo (s_iload_n dX11_note_16 rfl) ?_
    refine pGo (s_iadd dX11_note_17) ?_
    refine pGo (s_aload_n dX11_note_18 rfl (by decide)) ?_
    refine pGoE (y := 124) (s_getF pc11 fl_X11_181 dX11_note_19 (ob_68 hst) rfl (by decide)) (by decide) ?_
    refine pGo (s_iload_n dX11_note_22 rfl) ?_
    refine pGoE (y := (rd σ 124 x2)) (s_iald dX11_note_23 (ob_124 hst) (bnd (g2 c2))) rfl ?_
    refine pGo (s_iast dX11_note_24 (ob_130 hst) (bnd (g3 c2))) ?_
    refine pGo (s_aload_n dX11_note_25 rfl (by decide)) ?_
    refine pGoE (y := 131) (s_getF pc11 fl_X11_202 dX11_note_26 (ob_68 hst) rfl (by decide)) (by decide) ?_
    refine pGo (s_bipush dX11_note_29 (by decide)) ?_
    refine pGo (s_iload_n dX11_note_31 rfl) ?_
    refine pGo (s_imul dX11_note_32) ?_
    refine pGo (s_iload_n dX11_note_33 rfl) ?_
    refine pGo (s_iadd dX11_note_34) ?_
    refine pGo (s_iconst dX11_note_35) ?_
    refine pGo (s_iast dX11_note_36 (ob_131 hst) (bnd (g3 c2))) ?_
    refine pGoL (ls2 := [(2, 68), (0, x1), (0, (x2 + 1))]) (s_iinc dX11_note_37 (by decide) rfl rfl) rfl ?_
    refine pGo (s_goto (tgt := 2) dX11_note_40 (by decide)) ?_
    exact (k2 c2)
set_option maxRecDepth 100000 in
theorem g_X11_note_45 {d : Nat} {σ : pS} {Q : Option pV → pS → Prop} (hd : 0 ≤ d) (hst : Stat σ) (x1 : Int) (x2 : Int)  (g1 : inR x2) (g2 : inR (rd σ 68 30)) (k1 : ∀ (c1 : (rd σ 68 30) ≤ x2), pR mX11_note d 86 [(2, 68), (0, x1), (0, 0)] [] σ Q) (g3 : ∀ (c2 : x2 < (rd σ 68 30)), 0 ≤ x2 ∧ x2 < 13) (g4 : ∀ (c2 : x2 < (rd σ 68 30)), 0 ≤ ((10 * x1) + (rd σ 77 x2)) ∧ ((10 * x1) + (rd σ 77 x2)) < 4800) (g5 : ∀ (c2 : x2 < (rd σ 68 30)), 0 ≤ x2 ∧ x2 < 6) (k2 : ∀ (c2 : x2 < (rd σ 68 30)), pR mX11_note d 45 [(2, 68), (0, x1), (0, (x2 + 1))] [] (wr σ 131 ((10 * x1) + (rd σ 77 x2)) ((rd σ 131 ((10 * x1) + (rd σ 77 x2))) + (rd σ 125 x2))) Q) : pR mX11_note d 45 [(2, 68), (0, x1), (0, x2)] [] σ Q := by
  refine pGo (s_iload_n dX11_note_45 rfl) ?_
  refine pGo (s_aload_n dX11_note_46 rfl (by decide)) ?_
  refine pGoE (y := (rd σ 68 30)) (s_getI pc11 fl_X11_366 dX11_note_47 (ob_68 hst) rfl (by decide)) rfl ?_
  refine p_icge (tgt := 84) dX11_note_50 (by decide) g1 g2 (fun c1 => ?_) (fun c2 => ?_)
  · refine pGo (s_iconst dX11_note_84) ?_
    refine pGoL (ls2 := [(2, 68), (0, x1), (0, 0)]) (s_istore_n dX11_note_85 (by decide) rfl) rfl ?_
    exact (k1 c1)
  · refine pGo (s_aload_n dX11_note_53 rfl (by decide)) ?_
    refine pGoE (y := 131) (s_getF pc11 fl_X11_202 dX11_note_54 (ob_68 hst) rfl (by decide)) (by decide) ?_
    refine pGo (s_bipush dX11_note_57 (by decide)) ?_
    refine pGo (s_iload_n dX11_note_59 rfl) ?_
    refine pGo (s_imul dX11_note_60) ?_
    refine pGo (s_aload_n dX11_note_61 rfl (by decide)) ?_
    refine pGoE (y := 77) (s_getF pc11 fl_X11_39 dX11_note_62 (ob_68 hst) rfl (by decide)) (by decide) ?_
    refine pGo (s_iload_n dX11_note_65 rfl) ?_
    refine pGoE (y := (rd σ 77 x2)) (s_iald dX11_note_66 (ob_77 hst) (bnd (g3 c2))) rfl ?_
    refine pGo (s_iadd dX11_note_67) ?_
    refine pGo (s_dup2 dX11_note_68 (show (0 : Nat) ≠ 1 by decide) (show (2 : Nat) ≠ 1 by decide)) ?_
    refine pGoE (y := (rd σ 131 ((10 * x1) + (rd σ 77 x2)))) (s_iald dX11_note_69 (ob_131 hst) (bnd (g4 c2))) rfl ?_
    refine pGo (s_aload_n dX11_note_70 rfl (by decide)) ?_
    refine pGoE (y := 125) (s_getF pc11 fl_X11_184 dX11_note_71 (ob_68 hst) rfl (by decide)) (by decide) ?_
    refine pGo (s_iload_n dX11_note_74 rfl) ?_
    refine pGoE (y := (rd σ 125 x2)) (s_iald dX11_note_75 (ob_125 hst) (bnd (g5 c2))) rfl ?_
    refine pGo (s_iadd dX11_note_76) ?_
    refine pGo (s_iast dX11_note_77 (ob_131 hst) (bnd (g4 c2))) ?_
    refine pGoL (ls2 := [(2, 68), (0, x1), (0, (x2 + 1))]) (s_iinc dX11_note_78 (by decide) rfl rfl) rfl ?_
    refine pGo (s_goto (tgt := 45) dX11_note_81 (by decide)) ?_
    exact (k2 c2)
set_option maxRecDepth 100000 in
theorem g_X11_note_86 {d : Nat} {σ : pS} {Q : Option pV → pS → Prop} (hd : 0 ≤ d) (hst : Stat σ) (x1 : Int) (x2 : Int)  (g1 : inR x2) (g2 : inR (rd σ 68 31)) (k1 : ∀ (c1 : (rd σ 68 31) ≤ x2), Q none σ) (g3 : ∀ (c2 : x2 < (rd σ 68 31)), 0 ≤ x2 ∧ x2 < 7) (g4 : ∀ (c2 : x2 < (rd σ 68 31)), 0 ≤ ((7 * x1) + x2) ∧ ((7 * x1) + x2) < 3360) (k2 : ∀ (c2 : x2 < (rd σ 68 31)), pR mX11_note d 86 [(2, 68), (0, x1), (0, (x2 + 1))] [] (wr σ 132 ((7 * x1) + x2) (rd σ 127 x2)) Q) : pR mX11_note d 86 [(2, 68), (0, x1), (0, x2)] [] σ Q := by
  refine pGo (s_iload_n dX11_note_86 rfl) ?_
  refine pGo (s_aload_n dX11_note_87 rfl (by decide)) ?_
  refine pGoE (y := (rd σ 68 31)) (s_getI pc11 fl_X11_369 dX11_note_88 (ob_68 hst) rfl (by decide)) rfl ?_
  refine p_icge (tgt := 117) dX11_note_91 (by decide) g1 g2 (fun c1 => ?_) (fun c2 => ?_)
  · exact pEnd (r := none) dX11_note_117 rfl (k1 c1)
  · refine pGo (s_aload_n dX11_note_94 rfl (by decide)) ?_
    refine pGoE (y := 132) (s_getF pc11 fl_X11_205 dX11_note_95 (ob_68 hst) rfl (by decide)) (by decide) ?_
    refine pGo (s_bipush dX11_note_98 (by decide)) ?_
    refine pGo (s_iload_n dX11_note_100 rfl) ?_
    refine pGo (s_imul dX11_note_101) ?_
    refine pGo (s_iload_n dX11_note_102 rfl) ?_
    refine pGo (s_iadd dX11_note_103) ?_
    refine pGo (s_aload_n dX11_note_104 rfl (by decide)) ?_
    refine pGoE (y := 127) (s_getF pc11 fl_X11_190 dX11_note_105 (ob_68 hst) rfl (by decide)) (by decide) ?_
    refine pGo (s_iload_n dX11_note_108 rfl) ?_
    refine pGoE (y := (rd σ 127 x2)) (s_iald dX11_note_109 (ob_127 hst) (bnd (g3 c2))) rfl ?_
    refine pGo (s_iast dX11_note_110 (ob_132 hst) (bnd (g4 c2))) ?_
    refine pGoL (ls2 := [(2, 68), (0, x1), (0, (x2 + 1))]) (s_iinc dX11_note_111 (by decide) rfl rfl) rfl ?_
    refine pGo (s_goto (tgt := 86) dX11_note_114 (by decide)) ?_
    exact (k2 c2)
set_option maxRecDepth 100000 in
theorem g_X11_day_0 {d : Nat} {σ : pS} {Q : Option pV → pS → Prop} {Q1 : Option pV → pS → Prop} (hd : 3 ≤ d) (hst : Stat σ) (x1 : Int)  (f1 : pC mX11_know 2 [(2, 68), (0, x1)] σ Q1) (k1 : ∀ (τ1 : pS) (e1 : pLe σ τ1) (q1 : Q1 none τ1), pR mX11_day d 12 [(2, 68), (0, x1), (0, 0), (9, 0), (9, 0)] [] (wr τ1 68 78 1) Q) : pC mX11_day d [(2, 68), (0, x1)] σ Q := by
  show pR mX11_day d 0 [(2, 68), (0, x1), (9, 0), (9, 0), (9, 0)] [] σ Q
  refine pGo (s_aload_n dX11_day_0 rfl (by decide)) ?_
  refine pGo (s_iload_n dX11_day_1 rfl) ?_
  refine p_callV (As := [(0, x1)]) (st := []) (n := 1) (d' := 2) (Q1 := Q1) pc11 ok_X11_know ml_X11_480 im_X11_know se_X11_know dX11_day_2 (ob_68 hst) (pargs_of rfl) rfl (Nat.le_of_ble_eq_true rfl) (by omega) f1 (fun r1 τ1 e1 q1 w1 => ?_)
  obtain rfl : r1 = none := w1
  have S1 : Stat τ1 := (Stat.le (σ := σ) hst e1)
  show pR mX11_day d 5 [(2, 68), (0, x1), (9, 0), (9, 0), (9, 0)] [] τ1 Q
  refine pGo (s_aload_n dX11_day_5 rfl (by decide)) ?_
  refine pGo (s_iconst dX11_day_6) ?_
  refine pGo (s_putZ pc11 fl_X11_381 dX11_day_7 (ob_68 S1) rfl rfl rfl rfl (by decide)) ?_
  refine pGo (s_iconst dX11_day_10) ?_
  refine pGoL (ls2 := [(2, 68), (0, x1), (0, 0), (9, 0), (9, 0)]) (s_istore_n dX11_day_11 (by decide) rfl) rfl ?_
  exact (k1 τ1 e1 q1)
set_option maxRecDepth 100000 in
theorem g_X11_day_12 {d : Nat} {σ : pS} {Q : Option pV → pS → Prop} (hd : 3 ≤ d) (hst : Stat σ) (x1 : Int) (x2 : Int) (u3 : pV) (u4 : pV) (hu3 : u3.1 ≠ 1) (hu4 : u4.1 ≠ 1) (g1 : inR x2) (k1 : ∀ (c1 : 5410 ≤ x2), pR mX11_day d 34 [(2, 68), (0, x1), (0, 0), u3, u4] [] σ Q) (g2 : ∀ (c2 : x2 < 5410), 0 ≤ x2 ∧ x2 < 5410) (k2 : ∀ (c2 : x2 < 5410), pR mX11_day d 12 [(2, 68), (0, x1), (0, (x2 + 1)), u3, u4] [] (wr σ 126 x2 0) Q) : pR mX11_day d 12 [(2, 68), (0, x1), (0, x2), u3, u4] [] σ Q := by
  refine pGo (s_iload_n dX11_day_12 rfl) ?_
  refine pGo (s_sipush dX11_day_13 (by decide)) ?_
  refine p_icge (tgt := 32) dX11_day_16 (by decide) g1 (by decide) (fun c1 => ?_) (fun c2 => ?_)
  · refine pGo (s_iconst dX11_day_32) ?_
    refine pGoL (ls2 := [(2, 68), (0, x1), (0, 0), u3, u4]) (s_istore_n dX11_day_33 (by decide) rfl) rfl ?_
    exact (k1 c1)
  · refine pGo (s_aload_n dX11_day_19 rfl (by decide)) ?_
    refine pGoE (y := 126) (s_getF pc11 fl_X11_187 dX11_day_20 (ob_68 hst) rfl (by decide)) (by decide) ?_
    refine pGo (s_iload_n dX11_day_23 rfl) ?_
    refine pGo (s_iconst dX11_day_24) ?_
    refine pGo (s_iast dX11_day_25 (ob_126 hst) (bnd (g2 c2))) ?_
    refine pGoL (ls2 := [(2, 68), (0, x1), (0, (x2 + 1)), u3, u4]) (s_iinc dX11_day_26 (by decide) rfl rfl) rfl ?_
    refine pGo (s_goto (tgt := 12) dX11_day_29 (by decide)) ?_
    exact (k2 c2)
set_option maxRecDepth 100000 in
theorem g_X11_day_34 {d : Nat} {σ : pS} {Q : Option pV → pS → Prop} (hd : 3 ≤ d) (hst : Stat σ) (x1 : Int) (x2 : Int) (u3 : pV) (u4 : pV) (hu3 : u3.1 ≠ 1) (hu4 : u4.1 ≠ 1) (g1 : inR x2) (k1 : ∀ (c1 : 10 ≤ x2), pR mX11_day d 62 [(2, 68), (0, x1), (0, 0), u3, u4] [] σ Q) (g2 : ∀ (c2 : x2 < 10), 0 ≤ x2 ∧ x2 < 10) (k2 : ∀ (c2 : x2 < 10), pR mX11_day d 34 [(2, 68), (0, x1), (0, (x2 + 1)), u3, u4] [] (wr (wr σ 124 x2 0) 122 x2 0) Q) : pR mX11_day d 34 [(2, 68), (0, x1), (0, x2), u3, u4] [] σ Q := by
  refine pGo (s_iload_n dX11_day_34 rfl) ?_
  refine pGo (s_bipush dX11_day_35 (by decide)) ?_
  refine p_icge (tgt := 60) dX11_day_37 (by decide) g1 (by decide) (fun c1 => ?_) (fun c2 => ?_)
  · refine pGo (s_iconst dX11_day_60) ?_
    refine pGoL (ls2 := [(2, 68), (0, x1), (0, 0), u3, u4]) (s_istore_n dX11_day_61 (by decide) rfl) rfl ?_
    exact (k1 c1)
  · refine pGo (s_aload_n dX11_day_40 rfl (by decide)) ?_
    refine pGoE (y := 124) (s_getF pc11 fl_X11_181 dX11_day_41 (ob_68 hst) rfl (by decide)) (by decide) ?_
    refine pGo (s_iload_n dX11_day_44 rfl) ?_
    refine pGo (s_iconst dX11_day_45) ?_
    refine pGo (s_iast dX11_day_46 (ob_124 hst) (bnd (g2 c2))) ?_
    refine pGo (s_aload_n dX11_day_47 rfl (by decide)) ?_
    refine pGoE (y := 122) (s_getF pc11 fl_X11_175 dX11_day_48 (ob_68 hst) rfl (by decide)) (by decide) ?_
    refine pGo (s_iload_n dX11_day_51 rfl) ?_
    refine pGo (s_iconst dX11_day_52) ?_
    refine pGo (s_iast dX11_day_53 (ob_122 hst) (bnd (g2 c2))) ?_
    refine pGoL (ls2 := [(2, 68), (0, x1), (0, (x2 + 1)), u3, u4]) (s_iinc dX11_day_54 (by decide) rfl rfl) rfl ?_
    refine pGo (s_goto (tgt := 34) dX11_day_57 (by decide)) ?_
    exact (k2 c2)
set_option maxRecDepth 100000 in
theorem g_X11_day_62 {d : Nat} {σ : pS} {Q : Option pV → pS → Prop} (hd : 3 ≤ d) (hst : Stat σ) (x1 : Int) (x2 : Int) (u3 : pV) (u4 : pV) (hu3 : u3.1 ≠ 1) (hu4 : u4.1 ≠ 1) (g1 : inR x2) (k1 : ∀ (c1 : 13 ≤ x2), pR mX11_day d 83 [(2, 68), (0, x1), (0, 0), u3, u4] [] σ Q) (g2 : ∀ (c2 : x2 < 13), 0 ≤ x2 ∧ x2 < 13) (k2 : ∀ (c2 : x2 < 13), pR mX11_day d 62 [(2, 68), (0, x1), (0, (x2 + 1)), u3, u4] [] (wr σ 128 x2 0) Q) : pR mX11_day d 62 [(2, 68), (0, x1), (0, x2), u3, u4] [] σ Q := by
  refine pGo (s_iload_n dX11_day_62 rfl) ?_
  refine pGo (s_bipush dX11_day_63 (by decide)) ?_
  refine p_icge (tgt := 81) dX11_day_65 (by decide) g1 (by decide) (fun c1 => ?_) (fun c2 => ?_)
  · refine pGo (s_iconst dX11_day_81) ?_
    refine pGoL (ls2 := [(2, 68), (0, x1), (0, 0), u3, u4]) (s_istore_n dX11_day_82 (by decide) rfl) rfl ?_
    exact (k1 c1)
  · refine pGo (s_aload_n dX11_day_68 rfl (by decide)) ?_
    refine pGoE (y := 128) (s_getF pc11 fl_X11_193 dX11_day_69 (ob_68 hst) rfl (by decide)) (by decide) ?_
    refine pGo (s_iload_n dX11_day_72 rfl) ?_
    refine pGo (s_iconst dX11_day_73) ?_
    refine pGo (s_iast dX11_day_74 (ob_128 hst) (bnd (g2 c2))) ?_
    refine pGoL (ls2 := [(2, 68), (0, x1), (0, (x2 + 1)), u3, u4]) (s_iinc dX11_day_75 (by decide) rfl rfl) rfl ?_
    refine pGo (s_goto (tgt := 62) dX11_day_78 (by decide)) ?_
    exact (k2 c2)
set_option maxRecDepth 100000 in
theorem g_X11_day_83 {d : Nat} {σ : pS} {Q : Option pV → pS → Prop} (hd : 3 ≤ d) (hst : Stat σ) (x1 : Int) (x2 : Int) (u3 : pV) (u4 : pV) (hu3 : u3.1 ≠ 1) (hu4 : u4.1 ≠ 1) (g1 : inR x2) (k1 : ∀ (c1 : 6 ≤ x2), pR mX11_day d 111 [(2, 68), (0, x1), (0, 0), u3, u4] [] σ Q) (g2 : ∀ (c2 : x2 < 6), 0 ≤ x2 ∧ x2 < 6) (k2 : ∀ (c2 : x2 < 6), pR mX11_day d 83 [(2, 68), (0, x1), (0, (x2 + 1)), u3, u4] [] (wr (wr σ 125 x2 0) 129 x2 0) Q) : pR mX11_day d 83 [(2, 68), (0, x1), (0, x2), u3, u4] [] σ Q := by
  refine pGo (s_iload_n dX11_day_83 rfl) ?_
  refine pGo (s_bipush dX11_day_84 (by decide)) ?_
  refine p_icge (tgt := 109) dX11_day_86 (by decide) g1 (by decide) (fun c1 => ?_) (fun c2 => ?_)
  · refine pGo (s_iconst dX11_day_109) ?_
    refine pGoL (ls2 := [(2, 68), (0, x1), (0, 0), u3, u4]) (s_istore_n dX11_day_110 (by decide) rfl) rfl ?_
    exact (k1 c1)
  · refine pGo (s_aload_n dX11_day_89 rfl (by decide)) ?_
    refine pGoE (y := 125) (s_getF pc11 fl_X11_184 dX11_day_90 (ob_68 hst) rfl (by decide)) (by decide) ?_
    refine pGo (s_iload_n dX11_day_93 rfl) ?_
    refine pGo (s_iconst dX11_day_94) ?_
    refine pGo (s_iast dX11_day_95 (ob_125 hst) (bnd (g2 c2))) ?_
    refine pGo (s_aload_n dX11_day_96 rfl (by decide)) ?_
    refine pGoE (y := 129) (s_getF pc11 fl_X11_196 dX11_day_97 (ob_68 hst) rfl (by decide)) (by decide) ?_
    refine pGo (s_iload_n dX11_day_100 rfl) ?_
    refine pGo (s_iconst dX11_day_101) ?_
    refine pGo (s_iast dX11_day_102 (ob_129 hst) (bnd (g2 c2))) ?_
    refine pGoL (ls2 := [(2, 68), (0, x1), (0, (x2 + 1)), u3, u4]) (s_iinc dX11_day_103 (by decide) rfl rfl) rfl ?_
    refine pGo (s_goto (tgt := 83) dX11_day_106 (by decide)) ?_
    exact (k2 c2)
set_option maxRecDepth 100000 in
theorem g_X11_day_111 {d : Nat} {σ : pS} {Q : Option pV → pS → Prop} (hd : 3 ≤ d) (hst : Stat σ) (x1 : Int) (x2 : Int) (u3 : pV) (u4 : pV) (hu3 : u3.1 ≠ 1) (hu4 : u4.1 ≠ 1) (g1 : inR x2) (g2 : inR (rd σ 68 31)) (k1 : ∀ (c1 : (rd σ 68 31) ≤ x2), pR mX11_day d 145 [(2, 68), (0, x1), (0, 0), u3, u4] [] σ Q) (g3 : ∀ (c2 : x2 < (rd σ 68 31)), 0 ≤ (6 + x2) ∧ (6 + x2) < 13) (g4 : ∀ (c2 : x2 < (rd σ 68 31)), 0 ≤ x2 ∧ x2 < 7) (k2 : ∀ (c2 : x2 < (rd σ 68 31)), pR mX11_day d 111 [(2, 68), (0, x1), (0, (x2 + 1)), u3, u4] [] (wr σ 127 x2 (10 * (rd σ 81 (6 + x2)))) Q) : pR mX11_day d 111 [(2, 68), (0, x1), (0, x2), u3, u4] [] σ Q := by
  refine pGo (s_iload_n dX11_day_111 rfl) ?_
  refine pGo (s_aload_n dX11_day_112 rfl (by decide)) ?_
  refine pGoE (y := (rd σ 68 31)) (s_getI pc11 fl_X11_369 dX11_day_113 (ob_68 hst) rfl (by decide)) rfl ?_
  refine p_icge (tgt := 143) dX11_day_116 (by decide) g1 g2 (fun c1 => ?_) (fun c2 => ?_)
  · refine pGo (s_iconst dX11_day_143) ?_
    refine pGoL (ls2 := [(2, 68), (0, x1), (0, 0), u3, u4]) (s_istore_n dX11_day_144 (by decide) rfl) rfl ?_
    exact (k1 c1)
  · refine pGo (s_aload_n dX11_day_119 rfl (by decide)) ?_
    refine pGoE (y := 127) (s_getF pc11 fl_X11_190 dX11_day_120 (ob_68 hst) rfl (by decide)) (by decide) ?_
    refine pGo (s_iload_n dX11_day_123 rfl) ?_
    refine pGo (s_bipush dX11_day_124 (by decide)) ?_
    refine pGo (s_aload_n dX11_day_126 rfl (by decide)) ?_
    refine pGoE (y := 81) (s_getF pc11 fl_X11_51 dX11_day_127 (ob_68 hst) rfl (by decide)) (by decide) ?_
    refine pGo (s_bipush dX11_day_130 (by decide)) ?_
    refine pGo (s_iload_n dX11_day_132 rfl) ?_
    refine pGo (s_iadd dX11_day_133) ?_
    refine pGoE (y := (rd σ 81 (6 + x2))) (s_iald dX11_day_134 (ob_81 hst) (bnd (g3 c2))) rfl ?_
    refine pGo (s_imul dX11_day_135) ?_
    refine pGo (s_iast dX11_day_136 (ob_127 hst) (bnd (g4 c2))) ?_
    refine pGoL (ls2 := [(2, 68), (0, x1), (0, (x2 + 1)), u3, u4]) (s_iinc dX11_day_137 (by decide) rfl rfl) rfl ?_
    refine pGo (s_goto (tgt := 111) dX11_day_140 (by decide)) ?_
    exact (k2 c2)
set_option maxRecDepth 100000 in
theorem g_X11_day_145 {d : Nat} {σ : pS} {Q : Option pV → pS → Prop} {Q1 : Option pV → pS → Prop} (hd : 3 ≤ d) (hst : Stat σ) (x1 : Int) (x2 : Int) (u3 : pV) (u4 : pV) (hu3 : u3.1 ≠ 1) (hu4 : u4.1 ≠ 1) (g1 : inR x2) (g2 : ∀ (c1 : 480 ≤ x2), 0 ≤ (rd σ 68 32) ∧ (rd σ 68 32) < 10) (g3 : ∀ (c1 : 480 ≤ x2), 0 ≤ (4790 + (rd σ 68 32)) ∧ (4790 + (rd σ 68 32)) < 4800) (k1 : ∀ (c1 : 480 ≤ x2), Q (some (0, ((rd σ 124 (rd σ 68 32)) + (rd σ 131 (4790 + (rd σ 68 32)))))) σ) (f1 : ∀ (c2 : x2 < 480), pC mX11_snowAt 0 [(2, 68), (0, x2)] σ Q1) (k2 : ∀ (c2 : x2 < 480) (τ1 : pS) (e1 : pLe σ τ1) (q1 : Q1 none τ1), pR mX11_day d 159 [(2, 68), (0, x1), (0, x2), (0, 0), u4] [] τ1 Q) : pR mX11_day d 145 [(2, 68), (0, x1), (0, x2), u3, u4] [] σ Q := by
  refine pGo (s_iload_n dX11_day_145 rfl) ?_
  refine pGo (s_sipush dX11_day_146 (by decide)) ?_
  refine p_icge (tgt := 331) dX11_day_149 (by decide) g1 (by decide) (fun c1 => ?_) (fun c2 => ?_)
  · refine pGo (s_aload_n dX11_day_331 rfl (by decide)) ?_
    refine pGoE (y := 124) (s_getF pc11 fl_X11_181 dX11_day_332 (ob_68 hst) rfl (by decide)) (by decide) ?_
    refine pGo (s_aload_n dX11_day_335 rfl (by decide)) ?_
    refine pGoE (y := (rd σ 68 32)) (s_getI pc11 fl_X11_372 dX11_day_336 (ob_68 hst) rfl (by decide)) rfl ?_
    refine pGoE (y := (rd σ 124 (rd σ 68 32))) (s_iald dX11_day_339 (ob_124 hst) (bnd (g2 c1))) rfl ?_
    refine pGo (s_aload_n dX11_day_340 rfl (by decide)) ?_
    refine pGoE (y := 131) (s_getF pc11 fl_X11_202 dX11_day_341 (ob_68 hst) rfl (by decide)) (by decide) ?_
    refine pGo (s_sipush dX11_day_344 (by decide)) ?_
    refine pGo (s_aload_n dX11_day_347 rfl (by decide)) ?_
    refine pGoE (y := (rd σ 68 32)) (s_getI pc11 fl_X11_372 dX11_day_348 (ob_68 hst) rfl (by decide)) rfl ?_
    refine pGo (s_iadd dX11_day_351) ?_
    refine pGoE (y := (rd σ 131 (4790 + (rd σ 68 32)))) (s_iald dX11_day_352 (ob_131 hst) (bnd (g3 c1))) rfl ?_
    refine pGo (s_iadd dX11_day_353) ?_
    exact pEnd (r := (some (0, ((rd σ 124 (rd σ 68 32)) + (rd σ 131 (4790 + (rd σ 68 32))))))) dX11_day_354 ⟨_, rfl⟩ (k1 c1)
  · refine pGo (s_aload_n dX11_day_152 rfl (by decide)) ?_
    refine pGo (s_iload_n dX11_day_153 rfl) ?_
    refine p_callV (As := [(0, x2)]) (st := []) (n := 1) (d' := 0) (Q1 := Q1) pc11 ok_X11_snowAt ml_X11_536 im_X11_snowAt se_X11_snowAt dX11_day_154 (ob_68 hst) (pargs_of rfl) rfl (Nat.le_of_ble_eq_true rfl) (by omega) (f1 c2) (fun r1 τ1 e1 q1 w1 => ?_)
    obtain rfl : r1 = none := w1
    have S1 : Stat τ1 := (Stat.le (σ := σ) hst e1)
    show pR mX11_day d 157 [(2, 68), (0, x1), (0, x2), u3, u4] [] τ1 Q
    refine pGo (s_iconst dX11_day_157) ?_
    refine pGoL (ls2 := [(2, 68), (0, x1), (0, x2), (0, 0), u4]) (s_istore_n dX11_day_158 (by decide) rfl) rfl ?_
    exact (k2 c2 τ1 e1 q1)
set_option maxRecDepth 100000 in
theorem g_X11_day_159 {d : Nat} {σ : pS} {Q : Option pV → pS → Prop} (hd : 3 ≤ d) (hst : Stat σ) (x1 : Int) (x2 : Int) (x3 : Int) (u4 : pV) (hu4 : u4.1 ≠ 1) (g1 : inR x3) (g2 : inR (rd σ 68 77)) (k1 : ∀ (c1 : (rd σ 68 77) ≤ x3), pR mX11_day d 203 [(2, 68), (0, x1), (0, x2), (0, 0), u4] [] σ Q) (g3 : ∀ (c2 : x3 < (rd σ 68 77)), 0 ≤ x3 ∧ x3 < 20) (g4 : ∀ (c2 : x3 < (rd σ 68 77)), inR (rd σ 118 x3)) (g5 : ∀ (c2 : x3 < (rd σ 68 77)), inR x2) (k2 : ∀ (c2 : x3 < (rd σ 68 77)) (c3 : (rd σ 118 x3) ≠ x2), pR mX11_day d 159 [(2, 68), (0, x1), (0, x2), (0, (x3 + 1)), u4] [] σ Q) (g6 : ∀ (c2 : x3 < (rd σ 68 77)) (c4 : (rd σ 118 x3) = x2), 0 ≤ (rd σ 68 32) ∧ (rd σ 68 32) < 10) (k3 : ∀ (c2 : x3 < (rd σ 68 77)) (c4 : (rd σ 118 x3) = x2), pR mX11_day d 159 [(2, 68), (0, x1), (0, x2), (0, (x3 + 1)), u4] [] (wr σ 124 (rd σ 68 32) ((rd σ 124 (rd σ 68 32)) + (rd σ 119 x3))) Q) : pR mX11_day d 159 [(2, 68), (0, x1), (0, x2), (0, x3), u4] [] σ Q := by
  refine pGo (s_iload_n dX11_day_159 rfl) ?_
  refine pGo (s_aload_n dX11_day_160 rfl (by decide)) ?_
  refine pGoE (y := (rd σ 68 77)) (s_getI pc11 fl_X11_530 dX11_day_161 (ob_68 hst) rfl (by decide)) rfl ?_
  refine p_icge (tgt := 201) dX11_day_164 (by decide) g1 g2 (fun c1 => ?_) (fun c2 => ?_)
  · refine pGo (s_iconst dX11_day_201) ?_
    refine pGoL (ls2 := [(2, 68), (0, x1), (0, x2), (0, 0), u4]) (s_istore_n dX11_day_202 (by decide) rfl) rfl ?_
    exact (k1 c1)
  · refine pGo (s_aload_n dX11_day_167 rfl (by decide)) ?_
    refine pGoE (y := 118) (s_getF pc11 fl_X11_163 dX11_day_168 (ob_68 hst) rfl (by decide)) (by decide) ?_
    refine pGo (s_iload_n dX11_day_171 rfl) ?_
    refine pGoE (y := (rd σ 118 x3)) (s_iald dX11_day_172 (ob_118 hst) (bnd (g3 c2))) rfl ?_
    refine pGo (s_iload_n dX11_day_173 rfl) ?_
    refine p_icne (tgt := 195) dX11_day_174 (by decide) (g4 c2) (g5 c2) (fun c3 => ?_) (fun c4 => ?_)
    · refine pGoL (ls2 := [(2, 68), (0, x1), (0, x2), (0, (x3 + 1)), u4]) (s_iinc dX11_day_195 (by decide) rfl rfl) rfl ?_
      refine pGo (s_goto (tgt := 159) dX11_day_198 (by decide)) ?_
      exact (k2 c2 c3)
    · refine pGo (s_aload_n dX11_day_177 rfl (by decide)) ?_
      refine pGoE (y := 124) (s_getF pc11 fl_X11_181 dX11_day_178 (ob_68 hst) rfl (by decide)) (by decide) ?_
      refine pGo (s_aload_n dX11_day_181 rfl (by decide)) ?_
      refine pGoE (y := (rd σ 68 32)) (s_getI pc11 fl_X11_372 dX11_day_182 (ob_68 hst) rfl (by decide)) rfl ?_
      refine pGo (s_dup2 dX11_day_185 (show (0 : Nat) ≠ 1 by decide) (show (2 : Nat) ≠ 1 by decide)) ?_
      refine pGoE (y := (rd σ 124 (rd σ 68 32))) (s_iald dX11_day_186 (ob_124 hst) (bnd (g6 c2 c4))) rfl ?_
      refine pGo (s_aload_n dX11_day_187 rfl (by decide)) ?_
      refine pGoE (y := 119) (s_getF pc11 fl_X11_166 dX11_day_188 (ob_68 hst) rfl (by decide)) (by decide) ?_
      refine pGo (s_iload_n dX11_day_191 rfl) ?_
      refine pGoE (y := (rd σ 119 x3)) (s_iald dX11_day_192 (ob_119 hst) (bnd (g3 c2))) rfl ?_
      refine pGo (s_iadd dX11_day_193) ?_
      refine pGo (s_iast dX11_day_194 (ob_124 hst) (bnd (g6 c2 c4))) ?_
      refine pGoL (ls2 := [(2, 68), (0, x1), (0, x2), (0, (x3 + 1)), u4]) (s_iinc dX11_day_195 (by decide) rfl rfl) rfl ?_
      refine pGo (s_goto (tgt := 159) dX11_day_198 (by decide)) ?_
      exact (k3 c2 c4)
set_option maxRecDepth 100000 in
theorem g_X11_day_203 {d : Nat} {σ : pS} {Q : Option pV → pS → Prop} (hd : 3 ≤ d) (hst : Stat σ) (x1 : Int) (x2 : Int) (x3 : Int) (u4 : pV) (hu4 : u4.1 ≠ 1) (g1 : inR x3) (k1 : ∀ (c1 : 10 ≤ x3), pR mX11_day d 237 [(2, 68), (0, x1), (0, x2), (0, 0), u4] [] σ Q) (g2 : ∀ (c2 : x3 < 10), 0 ≤ x3 ∧ x3 < 10) (g3 : ∀ (c2 : x3 < 10), 0 ≤ ((10 * x2) + x3) ∧ ((10 * x2) + x3) < 5410) (k2 : ∀ (c2 : x3 < 10), pR mX11_day d 203 [(2, 68), (0, x1), (0, x2), (0, (x3 + 1)), u4] [] (wr σ 124 x3 ((rd σ 124 x3) + (rd σ 126 ((10 * x2) + x3)))) Q) : pR mX11_day d 203 [(2, 68), (0, x1), (0, x2), (0, x3), u4] [] σ Q := by
  refine pGo (s_iload_n dX11_day_203 rfl) ?_
  refine pGo (s_bipush dX11_day_204 (by decide)) ?_
  refine p_icge (tgt := 235) dX11_day_206 (by decide) g1 (by decide) (fun c1 => ?_) (fun c2 => ?_)
  · refine pGo (s_iconst dX11_day_235) ?_
    refine pGoL (ls2 := [(2, 68), (0, x1), (0, x2), (0, 0), u4]) (s_istore_n dX11_day_236 (by decide) rfl) rfl ?_
    exact (k1 c1)
  · refine pGo (s_aload_n dX11_day_209 rfl (by decide)) ?_
    refine pGoE (y := 124) (s_getF pc11 fl_X11_181 dX11_day_210 (ob_68 hst) rfl (by decide)) (by decide) ?_
    refine pGo (s_iload_n dX11_day_213 rfl) ?_
    refine pGo (s_dup2 dX11_day_214 (show (0 : Nat) ≠ 1 by decide) (show (2 : Nat) ≠ 1 by decide)) ?_
    refine pGoE (y := (rd σ 124 x3)) (s_iald dX11_day_215 (ob_124 hst) (bnd (g2 c2))) rfl ?_
    refine pGo (s_aload_n dX11_day_216 rfl (by decide)) ?_
    refine pGoE (y := 126) (s_getF pc11 fl_X11_187 dX11_day_217 (ob_68 hst) rfl (by decide)) (by decide) ?_
    refine pGo (s_bipush dX11_day_220 (by decide)) ?_
    refine pGo (s_iload_n dX11_day_222 rfl) ?_
    refine pGo (s_imul dX11_day_223) ?_
    refine pGo (s_iload_n dX11_day_224 rfl) ?_
    refine pGo (s_iadd dX11_day_225) ?_
    refine pGoE (y := (rd σ 126 ((10 * x2) + x3))) (s_iald dX11_day_226 (ob_126 hst) (bnd (g3 c2))) rfl ?_
    refine pGo (s_iadd dX11_day_227) ?_
    refine pGo (s_iast dX11_day_228 (ob_124 hst) (bnd (g2 c2))) ?_
    refine pGoL (ls2 := [(2, 68), (0, x1), (0, x2), (0, (x3 + 1)), u4]) (s_iinc dX11_day_229 (by decide) rfl rfl) rfl ?_
    refine pGo (s_goto (tgt := 203) dX11_day_232 (by decide)) ?_
    exact (k2 c2)
set_option maxRecDepth 100000 in
theorem g_X11_day_237 {d : Nat} {σ : pS} {Q : Option pV → pS → Prop} (hd : 3 ≤ d) (hst : Stat σ) (x1 : Int) (x2 : Int) (x3 : Int) (u4 : pV) (hu4 : u4.1 ≠ 1) (g1 : inR x3) (k1 : ∀ (c1 : 10 ≤ x3), pR mX11_day d 300 [(2, 68), (0, x1), (0, x2), (0, 0), u4] [] σ Q) (g2 : ∀ (c2 : x3 < 10), 0 ≤ x3 ∧ x3 < 10) (g3 : ∀ (c2 : x3 < 10), inR (rd σ 124 x3)) (k2 : ∀ (c2 : x3 < 10) (c3 : (rd σ 124 x3) ≤ 0), pR mX11_day d 259 [(2, 68), (0, x1), (0, x2), (0, x3), (0, 0)] [] σ Q) (k3 : ∀ (c2 : x3 < 10) (c4 : 0 < (rd σ 124 x3)), pR mX11_day d 259 [(2, 68), (0, x1), (0, x2), (0, x3), (0, 1)] [] σ Q) : pR mX11_day d 237 [(2, 68), (0, x1), (0, x2), (0, x3), u4] [] σ Q := by
  refine pGo (s_iload_n dX11_day_237 rfl) ?_
  refine pGo (s_bipush dX11_day_238 (by decide)) ?_
  refine p_icge (tgt := 298) dX11_day_240 (by decide) g1 (by decide) (fun c1 => ?_) (fun c2 => ?_)
  · refine pGo (s_iconst dX11_day_298) ?_
    refine pGoL (ls2 := [(2, 68), (0, x1), (0, x2), (0, 0), u4]) (s_istore_n dX11_day_299 (by decide) rfl) rfl ?_
    exact (k1 c1)
  · refine pGo (s_aload_n dX11_day_243 rfl (by decide)) ?_
    refine pGoE (y := 124) (s_getF pc11 fl_X11_181 dX11_day_244 (ob_68 hst) rfl (by decide)) (by decide) ?_
    refine pGo (s_iload_n dX11_day_247 rfl) ?_
    refine pGoE (y := (rd σ 124 x3)) (s_iald dX11_day_248 (ob_124 hst) (bnd (g2 c2))) rfl ?_
    refine p_ifle (tgt := 256) dX11_day_249 (by decide) (g3 c2) (fun c3 => ?_) (fun c4 => ?_)
    · refine pGo (s_iconst dX11_day_256) ?_
      refine pGoL (ls2 := [(2, 68), (0, x1), (0, x2), (0, x3), (0, 0)]) (s_istore dX11_day_257 (by decide) rfl) rfl ?_
      exact (k2 c2 c3)
    · refine pGo (s_iconst dX11_day_252) ?_
      refine pGo (s_goto (tgt := 257) dX11_day_253 (by decide)) ?_
      refine pGoL (ls2 := [(2, 68), (0, x1), (0, x2), (0, x3), (0, 1)]) (s_istore dX11_day_257 (by decide) rfl) rfl ?_
      exact (k3 c2 c4)
set_option maxRecDepth 100000 in
theorem g_X11_day_259 {d : Nat} {σ : pS} {Q : Option pV → pS → Prop} {Q1 : Option pV → pS → Prop} (hd : 3 ≤ d) (hst : Stat σ) (x1 : Int) (x2 : Int) (x3 : Int) (x4 : Int)  (g1 : inR x4) (k1 : ∀ (c1 : x4 = 0), pR mX11_day d 237 [(2, 68), (0, x1), (0, x2), (0, (x3 + 1)), (0, x4)] [] σ Q) (f1 : ∀ (c2 : x4 ≠ 0), pC mX11_takeTurn 1 [(2, 68), (0, x3), (0, x2)] σ Q1) (g2 : ∀ (c2 : x4 ≠ 0) (v1 : Int) (b1 : v1 = 0 ∨ v1 = 1) (τ1 : pS) (e1 : pLe σ τ1) (q1 : Q1 (some (0, v1)) τ1), inR v1) (k2 : ∀ (c2 : x4 ≠ 0) (v1 : Int) (b1 : v1 = 0 ∨ v1 = 1) (τ1 : pS) (e1 : pLe σ τ1) (q1 : Q1 (some (0, v1)) τ1) (c3 : v1 = 0), pR mX11_day d 259 [(2, 68), (0, x1), (0, x2), (0, x3), (0, 0)] [] τ1 Q) (g3 : ∀ (c2 : x4 ≠ 0) (v1 : Int) (b1 : v1 = 0 ∨ v1 = 1) (τ1 : pS) (e1 : pLe σ τ1) (q1 : Q1 (some (0, v1)) τ1) (c4 : v1 ≠ 0), 0 ≤ x3 ∧ x3 < 10) (g4 : ∀ (c2 : x4 ≠ 0) (v1 : Int) (b1 : v1 = 0 ∨ v1 = 1) (τ1 : pS) (e1 : pLe σ τ1) (q1 : Q1 (some (0, v1)) τ1) (c4 : v1 ≠ 0), inR (rd τ1 124 x3)) (k3 : ∀ (c2 : x4 ≠ 0) (v1 : Int) (b1 : v1 = 0 ∨ v1 = 1) (τ1 : pS) (e1 : pLe σ τ1) (q1 : Q1 (some (0, v1)) τ1) (c4 : v1 ≠ 0) (c5 : (rd τ1 124 x3) ≤ 0), pR mX11_day d 259 [(2, 68), (0, x1), (0, x2), (0, x3), (0, 0)] [] τ1 Q) (k4 : ∀ (c2 : x4 ≠ 0) (v1 : Int) (b1 : v1 = 0 ∨ v1 = 1) (τ1 : pS) (e1 : pLe σ τ1) (q1 : Q1 (some (0, v1)) τ1) (c4 : v1 ≠ 0) (c6 : 0 < (rd τ1 124 x3)), pR mX11_day d 259 [(2, 68), (0, x1), (0, x2), (0, x3), (0, 1)] [] τ1 Q) : pR mX11_day d 259 [(2, 68), (0, x1), (0, x2), (0, x3), (0, x4)] [] σ Q := by
  refine pGo (s_iload dX11_day_259 rfl) ?_
  refine p_ifeq (tgt := 292) dX11_day_261 (by decide) g1 (fun c1 => ?_) (fun c2 => ?_)
  · refine pGoL (ls2 := [(2, 68), (0, x1), (0, x2), (0, (x3 + 1)), (0, x4)]) (s_iinc dX11_day_292 (by decide) rfl rfl) rfl ?_
    refine pGo (s_goto (tgt := 237) dX11_day_295 (by decide)) ?_
    exact (k1 c1)
  · refine pGo (s_aload_n dX11_day_264 rfl (by decide)) ?_
    refine pGo (s_iload_n dX11_day_265 rfl) ?_
    refine pGo (s_iload_n dX11_day_266 rfl) ?_
    refine p_callV (As := [(0, x3), (0, x2)]) (st := []) (n := 2) (d' := 1) (Q1 := Q1) pc11 ok_X11_takeTurn ml_X11_539 im_X11_takeTurn se_X11_takeTurn dX11_day_267 (ob_68 hst) (pargs_of rfl) rfl (Nat.le_of_ble_eq_true rfl) (by omega) (f1 c2) (fun r1 τ1 e1 q1 w1 => ?_)
    obtain ⟨v1, rfl, b1⟩ := pRok_z w1
    have S1 : Stat τ1 := (Stat.le (σ := σ) hst e1)
    show pR mX11_day d 270 [(2, 68), (0, x1), (0, x2), (0, x3), (0, x4)] [(0, v1)] τ1 Q
    refine p_ifeq (tgt := 286) dX11_day_270 (by decide) (g2 c2 v1 b1 τ1 e1 q1) (fun c3 => ?_) (fun c4 => ?_)
    · refine pGo (s_iconst dX11_day_286) ?_
      refine pGoL (ls2 := [(2, 68), (0, x1), (0, x2), (0, x3), (0, 0)]) (s_istore dX11_day_287 (by decide) rfl) rfl ?_
      refine pGo (s_goto (tgt := 259) dX11_day_289 (by decide)) ?_
      exact (k2 c2 v1 b1 τ1 e1 q1 c3)
    · refine pGo (s_aload_n dX11_day_273 rfl (by decide)) ?_
      refine pGoE (y := 124) (s_getF pc11 fl_X11_181 dX11_day_274 (ob_68 S1) rfl (by decide)) (by decide) ?_
      refine pGo (s_iload_n dX11_day_277 rfl) ?_
      refine pGoE (y := (rd τ1 124 x3)) (s_iald dX11_day_278 (ob_124 S1) (bnd (g3 c2 v1 b1 τ1 e1 q1 c4))) rfl ?_
      refine p_ifle (tgt := 286) dX11_day_279 (by decide) (g4 c2 v1 b1 τ1 e1 q1 c4) (fun c5 => ?_) (fun c6 => ?_)
      · refine pGo (s_iconst dX11_day_286) ?_
        refine pGoL (ls2 := [(2, 68), (0, x1), (0, x2), (0, x3), (0, 0)]) (s_istore dX11_day_287 (by decide) rfl) rfl ?_
        refine pGo (s_goto (tgt := 259) dX11_day_289 (by decide)) ?_
        exact (k3 c2 v1 b1 τ1 e1 q1 c4 c5)
      · refine pGo (s_iconst dX11_day_282) ?_
        refine pGo (s_goto (tgt := 287) dX11_day_283 (by decide)) ?_
        refine pGoL (ls2 := [(2, 68), (0, x1), (0, x2), (0, x3), (0, 1)]) (s_istore dX11_day_287 (by decide) rfl) rfl ?_
        refine pGo (s_goto (tgt := 259) dX11_day_289 (by decide)) ?_
        exact (k4 c2 v1 b1 τ1 e1 q1 c4 c6)
set_option maxRecDepth 100000 in
theorem g_X11_day_300 {d : Nat} {σ : pS} {Q : Option pV → pS → Prop} {Q1 : Option pV → pS → Prop} {Q2 : Option pV → pS → Prop} (hd : 3 ≤ d) (hst : Stat σ) (x1 : Int) (x2 : Int) (x3 : Int) (u4 : pV) (hu4 : u4.1 ≠ 1) (g1 : inR x3) (g2 : inR (rd σ 68 30)) (f1 : ∀ (c1 : (rd σ 68 30) ≤ x3), pC mX11_note 0 [(2, 68), (0, x2)] σ Q1) (k1 : ∀ (c1 : (rd σ 68 30) ≤ x3) (τ1 : pS) (e1 : pLe σ τ1) (q1 : Q1 none τ1), pR mX11_day d 145 [(2, 68), (0, x1), (0, (x2 + 1)), (0, x3), u4] [] τ1 Q) (f2 : ∀ (c2 : x3 < (rd σ 68 30)), pC mX11_lift 2 [(2, 68), (0, x3), (0, x2)] σ Q2) (k2 : ∀ (c2 : x3 < (rd σ 68 30)) (τ2 : pS) (e2 : pLe σ τ2) (q2 : Q2 none τ2), pR mX11_day d 300 [(2, 68), (0, x1), (0, x2), (0, (x3 + 1)), u4] [] τ2 Q) : pR mX11_day d 300 [(2, 68), (0, x1), (0, x2), (0, x3), u4] [] σ Q := by
  refine pGo (s_iload_n dX11_day_300 rfl) ?_
  refine pGo (s_aload_n dX11_day_301 rfl (by decide)) ?_
  refine pGoE (y := (rd σ 68 30)) (s_getI pc11 fl_X11_366 dX11_day_302 (ob_68 hst) rfl (by decide)) rfl ?_
  refine p_icge (tgt := 320) dX11_day_305 (by decide) g1 g2 (fun c1 => ?_) (fun c2 => ?_)
  · refine pGo (s_aload_n dX11_day_320 rfl (by decide)) ?_
    refine pGo (s_iload_n dX11_day_321 rfl) ?_
    refine p_callV (As := [(0, x2)]) (st := []) (n := 1) (d' := 0) (Q1 := Q1) pc11 ok_X11_note ml_X11_545 im_X11_note se_X11_note dX11_day_322 (ob_68 hst) (pargs_of rfl) rfl (Nat.le_of_ble_eq_true rfl) (by omega) (f1 c1) (fun r1 τ1 e1 q1 w1 => ?_)
    obtain rfl : r1 = none := w1
    have S1 : Stat τ1 := (Stat.le (σ := σ) hst e1)
    show pR mX11_day d 325 [(2, 68), (0, x1), (0, x2), (0, x3), u4] [] τ1 Q
    refine pGoL (ls2 := [(2, 68), (0, x1), (0, (x2 + 1)), (0, x3), u4]) (s_iinc dX11_day_325 (by decide) rfl rfl) rfl ?_
    refine pGo (s_goto (tgt := 145) dX11_day_328 (by decide)) ?_
    exact (k1 c1 τ1 e1 q1)
  · refine pGo (s_aload_n dX11_day_308 rfl (by decide)) ?_
    refine pGo (s_iload_n dX11_day_309 rfl) ?_
    refine pGo (s_iload_n dX11_day_310 rfl) ?_
    refine p_callV (As := [(0, x3), (0, x2)]) (st := []) (n := 2) (d' := 2) (Q1 := Q2) pc11 ok_X11_lift ml_X11_542 im_X11_lift se_X11_lift dX11_day_311 (ob_68 hst) (pargs_of rfl) rfl (Nat.le_of_ble_eq_true rfl) (by omega) (f2 c2) (fun r2 τ2 e2 q2 w2 => ?_)
    obtain rfl : r2 = none := w2
    have S2 : Stat τ2 := (Stat.le (σ := σ) hst e2)
    show pR mX11_day d 314 [(2, 68), (0, x1), (0, x2), (0, x3), u4] [] τ2 Q
    refine pGoL (ls2 := [(2, 68), (0, x1), (0, x2), (0, (x3 + 1)), u4]) (s_iinc dX11_day_314 (by decide) rfl rfl) rfl ?_
    refine pGo (s_goto (tgt := 300) dX11_day_317 (by decide)) ?_
    exact (k2 c2 τ2 e2 q2)
