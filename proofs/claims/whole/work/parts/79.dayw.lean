/-! walks: the class runs a day through -/
/-- what the class and the reference ask of a way in a day's minute -/
def vTk (s : pS) (w m : Int) : Bool := decide (vShutAt s w m = false ∧ ((w < 10 ∧ m < rd s (rd s 35 4 + 7) w) ∨ (10 ≤ w ∧ 10 ≤ rd s 60 w)))
def vCT (s : pS) (w m : Int) : Bool := decide (rd s 105 (8 * w + m / 60) = 0 ∧ ((w < 6 ∧ m < rd s 82 w) ∨ (6 ≤ w ∧ 10 ≤ rd s 127 (w - 6))))
set_option maxRecDepth 100000 in
theorem g_X1_isTakeable_0 {d : Nat} {σ : pS} {Q : Option pV → pS → Prop} (hd : 2 ≤ d) (hst : Stat σ) (x1 : Int) (x2 : Int)  (f1 : pC mX3_isShut 1 [(2, 35), (0, x1), (0, x2)] σ (fun r τ => r = some (0, b2i (vShutAt σ x1 x2)) ∧ τ = σ)) (g1 : ∀ (c1 : (vShutAt σ x1 x2) = false), inR x1) (g2 : ∀ (c1 : (vShutAt σ x1 x2) = false) (c3 : 10 ≤ x1), 0 ≤ x1 ∧ x1 < 17) (g3 : ∀ (c1 : (vShutAt σ x1 x2) = false) (c3 : 10 ≤ x1), inR (rd σ 60 x1)) (k1 : ∀ (c1 : (vShutAt σ x1 x2) = false) (c3 : 10 ≤ x1) (c5 : (rd σ 60 x1) < 10), Q (some (0, 0)) σ) (k2 : ∀ (c1 : (vShutAt σ x1 x2) = false) (c3 : 10 ≤ x1) (c6 : 10 ≤ (rd σ 60 x1)), Q (some (0, 1)) σ) (g4 : ∀ (c1 : (vShutAt σ x1 x2) = false) (c4 : x1 < 10), Inst6 σ (rd σ 35 4)) (g5 : ∀ (c1 : (vShutAt σ x1 x2) = false) (c4 : x1 < 10), 0 ≤ x1 ∧ x1 < 17) (g6 : ∀ (c1 : (vShutAt σ x1 x2) = false) (c4 : x1 < 10), inR x2) (g7 : ∀ (c1 : (vShutAt σ x1 x2) = false) (c4 : x1 < 10), inR (rd σ ((rd σ 35 4) + 7) x1)) (k3 : ∀ (c1 : (vShutAt σ x1 x2) = false) (c4 : x1 < 10) (c7 : (rd σ ((rd σ 35 4) + 7) x1) ≤ x2), Q (some (0, 0)) σ) (k4 : ∀ (c1 : (vShutAt σ x1 x2) = false) (c4 : x1 < 10) (c8 : x2 < (rd σ ((rd σ 35 4) + 7) x1)), Q (some (0, 1)) σ) (k5 : ∀ (c2 : (vShutAt σ x1 x2) = true), Q (some (0, 0)) σ) : pC mX1_isTakeable d [(2, 50), (0, x1), (0, x2)] σ Q := by
  show pR mX1_isTakeable d 0 [(2, 50), (0, x1), (0, x2)] [] σ Q
  refine pGo (s_aload_n dX1_isTakeable_0 rfl (by decide)) ?_
  refine pGoE (y := 35) (s_getF pc1 fl_X1_46 dX1_isTakeable_1 (ob_50 hst) rfl (by decide)) (by decide) ?_
  refine pGo (s_iload_n dX1_isTakeable_4 rfl) ?_
  refine pGo (s_iload_n dX1_isTakeable_5 rfl) ?_
  refine p_callV (As := [(0, x1), (0, x2)]) (st := []) (n := 2) (d' := 1) (Q1 := (fun r τ => r = some (0, b2i (vShutAt σ x1 x2)) ∧ τ = σ)) pc3 ok_X3_isShut ml_X1_152 im_X3_isShut se_X3_isShut dX1_isTakeable_6 (ob_35 hst) (pargs_of rfl) rfl (Nat.le_of_ble_eq_true rfl) (by omega) f1 (fun r1 τ1 e1 q1 w1 => ?_)
  obtain ⟨rfl, t1⟩ := q1
  rw [t1]
  show pR mX1_isTakeable d 9 [(2, 50), (0, x1), (0, x2)] [(0, (b2i (vShutAt σ x1 x2)))] σ Q
  refine p_ifeqB (tgt := 14) dX1_isTakeable_9 (by decide) (fun c1 => ?_) (fun c2 => ?_)
  · refine pGo (s_iload_n dX1_isTakeable_14 rfl) ?_
    refine pGo (s_bipush dX1_isTakeable_15 (by decide)) ?_
    refine p_icge (tgt := 44) dX1_isTakeable_17 (by decide) (g1 c1) (by decide) (fun c3 => ?_) (fun c4 => ?_)
    · refine pGo (s_aload_n dX1_isTakeable_44 rfl (by decide)) ?_
      refine pGoE (y := 60) (s_getF pc1 fl_X1_39 dX1_isTakeable_45 (ob_50 hst) rfl (by decide)) (by decide) ?_
      refine pGo (s_iload_n dX1_isTakeable_48 rfl) ?_
      refine pGoE (y := (rd σ 60 x1)) (s_iald dX1_isTakeable_49 (ob_60 hst) (bnd (g2 c1 c3))) rfl ?_
      refine pGo (s_bipush dX1_isTakeable_50 (by decide)) ?_
      refine p_iclt (tgt := 59) dX1_isTakeable_52 (by decide) (g3 c1 c3) (by decide) (fun c5 => ?_) (fun c6 => ?_)
      · refine pGo (s_iconst dX1_isTakeable_59) ?_
        exact pEnd (r := (some (0, 0))) dX1_isTakeable_60 (Or.inl rfl) (k1 c1 c3 c5)
      · refine pGo (s_iconst dX1_isTakeable_55) ?_
        refine pGo (s_goto (tgt := 60) dX1_isTakeable_56 (by decide)) ?_
        exact pEnd (r := (some (0, 1))) dX1_isTakeable_60 (Or.inr rfl) (k2 c1 c3 c6)
    · refine pGo (s_iload_n dX1_isTakeable_20 rfl) ?_
      refine pGo (s_aload_n dX1_isTakeable_21 rfl (by decide)) ?_
      refine pGoE (y := 35) (s_getF pc1 fl_X1_46 dX1_isTakeable_22 (ob_50 hst) rfl (by decide)) (by decide) ?_
      refine pGoE (y := (rd σ 35 4)) (s_getR pc3 fl_X1_61 dX1_isTakeable_25 (ob_35 hst) rfl rfl) rfl ?_
      refine pGo (s_getF pc6 fl_X1_155 dX1_isTakeable_28 (g4 c1 c4).o0 rfl (by decide)) ?_
      refine pGo (s_iload_n dX1_isTakeable_31 rfl) ?_
      refine pGoE (y := (rd σ ((rd σ 35 4) + 7) x1)) (s_iald dX1_isTakeable_32 (g4 c1 c4).o7 (bnd (g5 c1 c4))) rfl ?_
      refine p_icge (tgt := 40) dX1_isTakeable_33 (by decide) (g6 c1 c4) (g7 c1 c4) (fun c7 => ?_) (fun c8 => ?_)
      · refine pGo (s_iconst dX1_isTakeable_40) ?_
        refine pGo (s_goto (tgt := 60) dX1_isTakeable_41 (by decide)) ?_
        exact pEnd (r := (some (0, 0))) dX1_isTakeable_60 (Or.inl rfl) (k3 c1 c4 c7)
      · refine pGo (s_iconst dX1_isTakeable_36) ?_
        refine pGo (s_goto (tgt := 60) dX1_isTakeable_37 (by decide)) ?_
        exact pEnd (r := (some (0, 1))) dX1_isTakeable_60 (Or.inr rfl) (k4 c1 c4 c8)
  · refine pGo (s_iconst dX1_isTakeable_12) ?_
    exact pEnd (r := (some (0, 0))) dX1_isTakeable_13 (Or.inl rfl) (k5 c2)
set_option maxRecDepth 100000 in
theorem g_X11_canTake_0 {d : Nat} {σ : pS} {Q : Option pV → pS → Prop} (hd : 0 ≤ d) (hst : Stat σ) (x1 : Int) (x2 : Int)  (g1 : 0 ≤ x2 ∧ x2 < 2147483648) (g2 : 0 ≤ ((8 * x1) + (x2 / 60)) ∧ ((8 * x1) + (x2 / 60)) < 104) (g3 : inR (rd σ 105 ((8 * x1) + (x2 / 60)))) (g4 : ∀ (c1 : (rd σ 105 ((8 * x1) + (x2 / 60))) = 0), inR x1) (g5 : ∀ (c1 : (rd σ 105 ((8 * x1) + (x2 / 60))) = 0) (c3 : 6 ≤ x1), 0 ≤ (x1 - 6) ∧ (x1 - 6) < 7) (g6 : ∀ (c1 : (rd σ 105 ((8 * x1) + (x2 / 60))) = 0) (c3 : 6 ≤ x1), inR (rd σ 127 (x1 - 6))) (k1 : ∀ (c1 : (rd σ 105 ((8 * x1) + (x2 / 60))) = 0) (c3 : 6 ≤ x1) (c5 : (rd σ 127 (x1 - 6)) < 10), Q (some (0, 0)) σ) (k2 : ∀ (c1 : (rd σ 105 ((8 * x1) + (x2 / 60))) = 0) (c3 : 6 ≤ x1) (c6 : 10 ≤ (rd σ 127 (x1 - 6))), Q (some (0, 1)) σ) (g7 : ∀ (c1 : (rd σ 105 ((8 * x1) + (x2 / 60))) = 0) (c4 : x1 < 6), 0 ≤ x1 ∧ x1 < 13) (g8 : ∀ (c1 : (rd σ 105 ((8 * x1) + (x2 / 60))) = 0) (c4 : x1 < 6), inR x2) (g9 : ∀ (c1 : (rd σ 105 ((8 * x1) + (x2 / 60))) = 0) (c4 : x1 < 6), inR (rd σ 82 x1)) (k3 : ∀ (c1 : (rd σ 105 ((8 * x1) + (x2 / 60))) = 0) (c4 : x1 < 6) (c7 : (rd σ 82 x1) ≤ x2), Q (some (0, 0)) σ) (k4 : ∀ (c1 : (rd σ 105 ((8 * x1) + (x2 / 60))) = 0) (c4 : x1 < 6) (c8 : x2 < (rd σ 82 x1)), Q (some (0, 1)) σ) (k5 : ∀ (c2 : (rd σ 105 ((8 * x1) + (x2 / 60))) ≠ 0), Q (some (0, 0)) σ) : pC mX11_canTake d [(2, 68), (0, x1), (0, x2)] σ Q := by
  show pR mX11_canTake d 0 [(2, 68), (0, x1), (0, x2)] [] σ Q
  refine pGo (s_aload_n dX11_canTake_0 rfl (by decide)) ?_
  refine pGoE (y := 105) (s_getF pc11 fl_X11_124 dX11_canTake_1 (ob_68 hst) rfl (by decide)) (by decide) ?_
  refine pGo (s_bipush dX11_canTake_4 (by decide)) ?_
  refine pGo (s_iload_n dX11_canTake_6 rfl) ?_
  refine pGo (s_imul dX11_canTake_7) ?_
  refine pGo (s_iload_n dX11_canTake_8 rfl) ?_
  refine pGo (s_bipush dX11_canTake_9 (by decide)) ?_
  refine pGo (s_idivp dX11_canTake_11 g1 (by decide)) ?_
  refine pGo (s_iadd dX11_canTake_12) ?_
  refine pGoE (y := (rd σ 105 ((8 * x1) + (x2 / 60)))) (s_zald dX11_canTake_13 (ob_105 hst) (bnd g2)) rfl ?_
  refine p_ifeq (tgt := 19) dX11_canTake_14 (by decide) g3 (fun c1 => ?_) (fun c2 => ?_)
  · refine pGo (s_iload_n dX11_canTake_19 rfl) ?_
    refine pGo (s_bipush dX11_canTake_20 (by decide)) ?_
    refine p_icge (tgt := 43) dX11_canTake_22 (by decide) (g4 c1) (by decide) (fun c3 => ?_) (fun c4 => ?_)
    · refine pGo (s_aload_n dX11_canTake_43 rfl (by decide)) ?_
      refine pGoE (y := 127) (s_getF pc11 fl_X11_190 dX11_canTake_44 (ob_68 hst) rfl (by decide)) (by decide) ?_
      refine pGo (s_iload_n dX11_canTake_47 rfl) ?_
      refine pGo (s_bipush dX11_canTake_48 (by decide)) ?_
      refine pGo (s_isub dX11_canTake_50) ?_
      refine pGoE (y := (rd σ 127 (x1 - 6))) (s_iald dX11_canTake_51 (ob_127 hst) (bnd (g5 c1 c3))) rfl ?_
      refine pGo (s_bipush dX11_canTake_52 (by decide)) ?_
      refine p_iclt (tgt := 61) dX11_canTake_54 (by decide) (g6 c1 c3) (by decide) (fun c5 => ?_) (fun c6 => ?_)
      · refine pGo (s_iconst dX11_canTake_61) ?_
        exact pEnd (r := (some (0, 0))) dX11_canTake_62 (Or.inl rfl) (k1 c1 c3 c5)
      · refine pGo (s_iconst dX11_canTake_57) ?_
        refine pGo (s_goto (tgt := 62) dX11_canTake_58 (by decide)) ?_
        exact pEnd (r := (some (0, 1))) dX11_canTake_62 (Or.inr rfl) (k2 c1 c3 c6)
    · refine pGo (s_iload_n dX11_canTake_25 rfl) ?_
      refine pGo (s_aload_n dX11_canTake_26 rfl (by decide)) ?_
      refine pGoE (y := 82) (s_getF pc11 fl_X11_54 dX11_canTake_27 (ob_68 hst) rfl (by decide)) (by decide) ?_
      refine pGo (s_iload_n dX11_canTake_30 rfl) ?_
      refine pGoE (y := (rd σ 82 x1)) (s_iald dX11_canTake_31 (ob_82 hst) (bnd (g7 c1 c4))) rfl ?_
      refine p_icge (tgt := 39) dX11_canTake_32 (by decide) (g8 c1 c4) (g9 c1 c4) (fun c7 => ?_) (fun c8 => ?_)
      · refine pGo (s_iconst dX11_canTake_39) ?_
        refine pGo (s_goto (tgt := 62) dX11_canTake_40 (by decide)) ?_
        exact pEnd (r := (some (0, 0))) dX11_canTake_62 (Or.inl rfl) (k3 c1 c4 c7)
      · refine pGo (s_iconst dX11_canTake_35) ?_
        refine pGo (s_goto (tgt := 62) dX11_canTake_36 (by decide)) ?_
        exact pEnd (r := (some (0, 1))) dX11_canTake_62 (Or.inr rfl) (k4 c1 c4 c8)
  · refine pGo (s_iconst dX11_canTake_17) ?_
    exact pEnd (r := (some (0, 0))) dX11_canTake_18 (Or.inl rfl) (k5 c2)
set_option maxRecDepth 100000 in
theorem g_X1_start_0 {d : Nat} {σ : pS} {Q : Option pV → pS → Prop} (hd : 0 ≤ d) (hst : Stat σ) (x1 : Int) (x2 : Int) (x3 : Int)  (g1 : 0 ≤ x1 ∧ x1 < 17) (g2 : Inst6 σ (rd σ 35 4)) (g3 : inR (x3 + (rd (wr σ 54 x1 ((rd σ 54 x1) + x2)) ((rd σ 35 4) + 4) x1))) (k1 : ∀ (c1 : 480 ≤ (x3 + (rd (wr σ 54 x1 ((rd σ 54 x1) + x2)) ((rd σ 35 4) + 4) x1))), Q none (wr σ 54 x1 ((rd σ 54 x1) + x2))) (g4 : ∀ (c2 : (x3 + (rd (wr σ 54 x1 ((rd σ 54 x1) + x2)) ((rd σ 35 4) + 4) x1)) < 480), 0 ≤ (((x3 + (rd (wr σ 54 x1 ((rd σ 54 x1) + x2)) ((rd σ 35 4) + 4) x1)) * 10) + (rd (wr σ 54 x1 ((rd σ 54 x1) + x2)) ((rd σ 35 4) + 3) x1)) ∧ (((x3 + (rd (wr σ 54 x1 ((rd σ 54 x1) + x2)) ((rd σ 35 4) + 4) x1)) * 10) + (rd (wr σ 54 x1 ((rd σ 54 x1) + x2)) ((rd σ 35 4) + 3) x1)) < 4800) (k2 : ∀ (c2 : (x3 + (rd (wr σ 54 x1 ((rd σ 54 x1) + x2)) ((rd σ 35 4) + 4) x1)) < 480), Q none (wr (wr σ 54 x1 ((rd σ 54 x1) + x2)) 56 (((x3 + (rd (wr σ 54 x1 ((rd σ 54 x1) + x2)) ((rd σ 35 4) + 4) x1)) * 10) + (rd (wr σ 54 x1 ((rd σ 54 x1) + x2)) ((rd σ 35 4) + 3) x1)) ((rd σ 56 (((x3 + (rd (wr σ 54 x1 ((rd σ 54 x1) + x2)) ((rd σ 35 4) + 4) x1)) * 10) + (rd (wr σ 54 x1 ((rd σ 54 x1) + x2)) ((rd σ 35 4) + 3) x1))) + x2))) : pC mX1_start d [(2, 50), (0, x1), (0, x2), (0, x3)] σ Q := by
  show pR mX1_start d 0 [(2, 50), (0, x1), (0, x2), (0, x3), (9, 0)] [] σ Q
  refine pGo (s_aload_n dX1_start_0 rfl (by decide)) ?_
  refine pGoE (y := 54) (s_getF pc1 fl_X1_21 dX1_start_1 (ob_50 hst) rfl (by decide)) (by decide) ?_
  refine pGo (s_iload_n dX1_start_4 rfl) ?_
  refine pGo (s_dup2 dX1_start_5 (show (0 : Nat) ≠ 1 by decide) (show (2 : Nat) ≠ 1 by decide)) ?_
  refine pGoE (y := (rd σ 54 x1)) (s_iald dX1_start_6 (ob_54 hst) (bnd g1)) rfl ?_
  refine pGo (s_iload_n dX1_start_7 rfl) ?_
  refine pGo (s_iadd dX1_start_8) ?_
  refine pGo (s_iast dX1_start_9 (ob_54 hst) (bnd g1)) ?_
  refine pGo (s_iload_n dX1_start_10 rfl) ?_
  refine pGo (s_aload_n dX1_start_11 rfl (by decide)) ?_
  refine pGoE (y := 35) (s_getF pc1 fl_X1_46 dX1_start_12 (ob_50 hst) rfl (by decide)) (by decide) ?_
  refine pGoE (y := (rd σ 35 4)) (s_getR pc3 fl_X1_61 dX1_start_15 (ob_35 hst) rfl rfl) (rd_wr_a _ (by decide)) ?_
  refine pGo (s_getF pc6 fl_X1_161 dX1_start_18 g2.o0 rfl (by decide)) ?_
  refine pGo (s_iload_n dX1_start_21 rfl) ?_
  refine pGoE (y := (rd (wr σ 54 x1 ((rd σ 54 x1) + x2)) ((rd σ 35 4) + 4) x1)) (s_iald dX1_start_22 g2.o4 (bnd g1)) rfl ?_
  refine pGo (s_iadd dX1_start_23) ?_
  refine pGoL (ls2 := [(2, 50), (0, x1), (0, x2), (0, x3), (0, (x3 + (rd (wr σ 54 x1 ((rd σ 54 x1) + x2)) ((rd σ 35 4) + 4) x1)))]) (s_istore dX1_start_24 (by decide) rfl) rfl ?_
  refine pGo (s_iload dX1_start_26 rfl) ?_
  refine pGo (s_sipush dX1_start_28 (by decide)) ?_
  refine p_icge (tgt := 61) dX1_start_31 (by decide) g3 (by decide) (fun c1 => ?_) (fun c2 => ?_)
  · exact pEnd (r := none) dX1_start_61 rfl (k1 c1)
  · refine pGo (s_aload_n dX1_start_34 rfl (by decide)) ?_
    refine pGoE (y := 56) (s_getF pc1 fl_X1_27 dX1_start_35 (ob_50 hst) rfl (by decide)) (by decide) ?_
    refine pGo (s_iload dX1_start_38 rfl) ?_
    refine pGo (s_bipush dX1_start_40 (by decide)) ?_
    refine pGo (s_imul dX1_start_42) ?_
    refine pGo (s_aload_n dX1_start_43 rfl (by decide)) ?_
    refine pGoE (y := 35) (s_getF pc1 fl_X1_46 dX1_start_44 (ob_50 hst) rfl (by decide)) (by decide) ?_
    refine pGoE (y := (rd σ 35 4)) (s_getR pc3 fl_X1_61 dX1_start_47 (ob_35 hst) rfl rfl) (rd_wr_a _ (by decide)) ?_
    refine pGo (s_getF pc6 fl_X1_164 dX1_start_50 g2.o0 rfl (by decide)) ?_
    refine pGo (s_iload_n dX1_start_53 rfl) ?_
    refine pGoE (y := (rd (wr σ 54 x1 ((rd σ 54 x1) + x2)) ((rd σ 35 4) + 3) x1)) (s_iald dX1_start_54 g2.o3 (bnd g1)) rfl ?_
    refine pGo (s_iadd dX1_start_55) ?_
    refine pGo (s_dup2 dX1_start_56 (show (0 : Nat) ≠ 1 by decide) (show (2 : Nat) ≠ 1 by decide)) ?_
    refine pGoE (y := (rd σ 56 (((x3 + (rd (wr σ 54 x1 ((rd σ 54 x1) + x2)) ((rd σ 35 4) + 4) x1)) * 10) + (rd (wr σ 54 x1 ((rd σ 54 x1) + x2)) ((rd σ 35 4) + 3) x1)))) (s_iald dX1_start_57 (ob_56 hst) (bnd (g4 c2))) (rd_wr_a _ (by decide)) ?_
    refine pGo (s_iload_n dX1_start_58 rfl) ?_
    refine pGo (s_iadd dX1_start_59) ?_
    refine pGo (s_iast dX1_start_60 (ob_56 hst) (bnd (g4 c2))) ?_
    exact pEnd (r := none) dX1_start_61 rfl (k2 c2)
set_option maxRecDepth 100000 in
theorem g_X1_take_0 {d : Nat} {σ : pS} {Q : Option pV → pS → Prop} {Q1 : Option pV → pS → Prop} (hd : 1 ≤ d) (hst : Stat σ) (x1 : Int) (x2 : Int) (x3 : Int)  (g1 : inR x1) (g2 : ∀ (c1 : 10 ≤ x1), 0 ≤ x1 ∧ x1 < 17) (f1 : ∀ (c1 : 10 ≤ x1), pC mX1_start 0 [(2, 50), (0, x1), (0, x2), (0, x3)] (wr σ 60 x1 ((rd σ 60 x1) - x2)) Q1) (k1 : ∀ (c1 : 10 ≤ x1) (τ1 : pS) (e1 : pLe (wr σ 60 x1 ((rd σ 60 x1) - x2)) τ1) (q1 : Q1 none τ1), Q none τ1) (g3 : ∀ (c2 : x1 < 10), 0 ≤ x1 ∧ x1 < 17) (k2 : ∀ (c2 : x1 < 10), Q none (wr σ 59 x1 ((rd σ 59 x1) + x2))) : pC mX1_take d [(2, 50), (0, x1), (0, x2), (0, x3)] σ Q := by
  show pR mX1_take d 0 [(2, 50), (0, x1), (0, x2), (0, x3)] [] σ Q
  refine pGo (s_iload_n dX1_take_0 rfl) ?_
  refine pGo (s_bipush dX1_take_1 (by decide)) ?_
  refine p_icge (tgt := 19) dX1_take_3 (by decide) g1 (by decide) (fun c1 => ?_) (fun c2 => ?_)
  · refine pGo (s_aload_n dX1_take_19 rfl (by decide)) ?_
    refine pGoE (y := 60) (s_getF pc1 fl_X1_39 dX1_take_20 (ob_50 hst) rfl (by decide)) (by decide) ?_
    refine pGo (s_iload_n dX1_take_23 rfl) ?_
    refine pGo (s_dup2 dX1_take_24 (show (0 : Nat) ≠ 1 by decide) (show (2 : Nat) ≠ 1 by decide)) ?_
    refine pGoE (y := (rd σ 60 x1)) (s_iald dX1_take_25 (ob_60 hst) (bnd (g2 c1))) rfl ?_
    refine pGo (s_iload_n dX1_take_26 rfl) ?_
    refine pGo (s_isub dX1_take_27) ?_
    refine pGo (s_iast dX1_take_28 (ob_60 hst) (bnd (g2 c1))) ?_
    refine pGo (s_aload_n dX1_take_29 rfl (by decide)) ?_
    refine pGo (s_iload_n dX1_take_30 rfl) ?_
    refine pGo (s_iload_n dX1_take_31 rfl) ?_
    refine pGo (s_iload_n dX1_take_32 rfl) ?_
    refine p_callV (As := [(0, x1), (0, x2), (0, x3)]) (st := []) (n := 3) (d' := 0) (Q1 := Q1) pc1 ok_X1_start ml_X1_158 im_X1_start se_X1_start dX1_take_33 (ob_50 hst) (pargs_of rfl) rfl (Nat.le_of_ble_eq_true rfl) (by omega) (f1 c1) (fun r1 τ1 e1 q1 w1 => ?_)
    obtain rfl : r1 = none := w1
    have S1 : Stat τ1 := (Stat.le (σ := (wr σ 60 x1 ((rd σ 60 x1) - x2))) hst e1)
    show pR mX1_take d 36 [(2, 50), (0, x1), (0, x2), (0, x3)] [] τ1 Q
    exact pEnd (r := none) dX1_take_36 rfl (k1 c1 τ1 e1 q1)
  · refine pGo (s_aload_n dX1_take_6 rfl (by decide)) ?_
    refine pGoE (y := 59) (s_getF pc1 fl_X1_36 dX1_take_7 (ob_50 hst) rfl (by decide)) (by decide) ?_
    refine pGo (s_iload_n dX1_take_10 rfl) ?_
    refine pGo (s_dup2 dX1_take_11 (show (0 : Nat) ≠ 1 by decide) (show (2 : Nat) ≠ 1 by decide)) ?_
    refine pGoE (y := (rd σ 59 x1)) (s_iald dX1_take_12 (ob_59 hst) (bnd (g3 c2))) rfl ?_
    refine pGo (s_iload_n dX1_take_13 rfl) ?_
    refine pGo (s_iadd dX1_take_14) ?_
    refine pGo (s_iast dX1_take_15 (ob_59 hst) (bnd (g3 c2))) ?_
    refine pGo (s_goto (tgt := 36) dX1_take_16 (by decide)) ?_
    exact pEnd (r := none) dX1_take_36 rfl (k2 c2)
set_option maxRecDepth 100000 in
theorem g_X1_takeable_0 {d : Nat} {σ : pS} {Q : Option pV → pS → Prop} (hd : 3 ≤ d) (hst : Stat σ) (x1 : Int) (x2 : Int) (x3 : Int) (x4 : Int)  (g1 : 0 ≤ x1 ∧ x1 < 10) (k1 : pR mX1_takeable d 14 [(2, 50), (0, x1), (0, x2), (0, x3), (0, x4), (0, (rd σ 48 x1)), (0, 0), (9, 0)] [] σ Q) : pC mX1_takeable d [(2, 50), (0, x1), (0, x2), (0, x3), (0, x4)] σ Q := by
  show pR mX1_takeable d 0 [(2, 50), (0, x1), (0, x2), (0, x3), (0, x4), (9, 0), (9, 0), (9, 0)] [] σ Q
  refine pGo (s_aload_n dX1_takeable_0 rfl (by decide)) ?_
  refine pGoE (y := 44) (s_getF pc1 fl_X1_42 dX1_takeable_1 (ob_50 hst) rfl (by decide)) (by decide) ?_
  refine pGoE (y := 48) (s_getF pc0 fl_X1_135 dX1_takeable_4 (ob_44 hst) rfl (by decide)) (by decide) ?_
  refine pGo (s_iload_n dX1_takeable_7 rfl) ?_
  refine pGoE (y := (rd σ 48 x1)) (s_iald dX1_takeable_8 (ob_48 hst) (bnd g1)) rfl ?_
  refine pGoL (ls2 := [(2, 50), (0, x1), (0, x2), (0, x3), (0, x4), (0, (rd σ 48 x1)), (9, 0), (9, 0)]) (s_istore dX1_takeable_9 (by decide) rfl) rfl ?_
  refine pGo (s_iconst dX1_takeable_11) ?_
  refine pGoL (ls2 := [(2, 50), (0, x1), (0, x2), (0, x3), (0, x4), (0, (rd σ 48 x1)), (0, 0), (9, 0)]) (s_istore dX1_takeable_12 (by decide) rfl) rfl ?_
  exact k1
set_option maxRecDepth 100000 in
theorem g_X1_takeable_14 {d : Nat} {σ : pS} {Q : Option pV → pS → Prop} (hd : 3 ≤ d) (hst : Stat σ) (x1 : Int) (x2 : Int) (x3 : Int) (x4 : Int) (x5 : Int) (x6 : Int) (u7 : pV) (hu7 : u7.1 ≠ 1) (g1 : inR x6) (g2 : inR x5) (k1 : ∀ (c1 : x5 ≤ x6), Q (some (0, (-1))) σ) (g3 : ∀ (c2 : x6 < x5), 0 ≤ (x2 + (x6 * x3)) ∧ (x2 + (x6 * x3)) < 2147483648) (g4 : ∀ (c2 : x6 < x5), 0 < x5 ∧ x5 < 2147483648) (g5 : ∀ (c2 : x6 < x5), 0 ≤ ((x1 * 6) + ((x2 + (x6 * x3)) % x5)) ∧ ((x1 * 6) + ((x2 + (x6 * x3)) % x5)) < 60) (f1 : ∀ (c2 : x6 < x5), pC mX1_isTakeable 2 [(2, 50), (0, (rd σ 47 ((x1 * 6) + ((x2 + (x6 * x3)) % x5)))), (0, x4)] σ (fun r τ => r = some (0, b2i (vTk σ (rd σ 47 ((x1 * 6) + ((x2 + (x6 * x3)) % x5))) x4)) ∧ τ = σ)) (k2 : ∀ (c2 : x6 < x5) (c3 : (vTk σ (rd σ 47 ((x1 * 6) + ((x2 + (x6 * x3)) % x5))) x4) = false), pR mX1_takeable d 14 [(2, 50), (0, x1), (0, x2), (0, x3), (0, x4), (0, x5), (0, (x6 + 1)), (0, ((x2 + (x6 * x3)) % x5))] [] σ Q) (k3 : ∀ (c2 : x6 < x5) (c4 : (vTk σ (rd σ 47 ((x1 * 6) + ((x2 + (x6 * x3)) % x5))) x4) = true), Q (some (0, ((x2 + (x6 * x3)) % x5))) σ) : pR mX1_takeable d 14 [(2, 50), (0, x1), (0, x2), (0, x3), (0, x4), (0, x5), (0, x6), u7] [] σ Q := by
  refine pGo (s_iload dX1_takeable_14 rfl) ?_
  refine pGo (s_iload dX1_takeable_16 rfl) ?_
  refine p_icge (tgt := 65) dX1_takeable_18 (by decide) g1 g2 (fun c1 => ?_) (fun c2 => ?_)
  · refine pGo (s_iconst dX1_takeable_65) ?_
    exact pEnd (r := (some (0, (-1)))) dX1_takeable_66 ⟨_, rfl⟩ (k1 c1)
  · refine pGo (s_iload_n dX1_takeable_21 rfl) ?_
    refine pGo (s_iload dX1_takeable_22 rfl) ?_
    refine pGo (s_iload_n dX1_takeable_24 rfl) ?_
    refine pGo (s_imul dX1_takeable_25) ?_
    refine pGo (s_iadd dX1_takeable_26) ?_
    refine pGo (s_iload dX1_takeable_27 rfl) ?_
    refine pGo (s_iremp dX1_takeable_29 (g3 c2) (g4 c2)) ?_
    refine pGoL (ls2 := [(2, 50), (0, x1), (0, x2), (0, x3), (0, x4), (0, x5), (0, x6), (0, ((x2 + (x6 * x3)) % x5))]) (s_istore dX1_takeable_30 (by decide) rfl) rfl ?_
    refine pGo (s_aload_n dX1_takeable_32 rfl (by decide)) ?_
    refine pGo (s_aload_n dX1_takeable_33 rfl (by decide)) ?_
    refine pGoE (y := 44) (s_getF pc1 fl_X1_42 dX1_takeable_34 (ob_50 hst) rfl (by decide)) (by decide) ?_
    refine pGoE (y := 47) (s_getF pc0 fl_X1_128 dX1_takeable_37 (ob_44 hst) rfl (by decide)) (by decide) ?_
    refine pGo (s_iload_n dX1_takeable_40 rfl) ?_
    refine pGo (s_bipush dX1_takeable_41 (by decide)) ?_
    refine pGo (s_imul dX1_takeable_43) ?_
    refine pGo (s_iload dX1_takeable_44 rfl) ?_
    refine pGo (s_iadd dX1_takeable_46) ?_
    refine pGoE (y := (rd σ 47 ((x1 * 6) + ((x2 + (x6 * x3)) % x5)))) (s_iald dX1_takeable_47 (ob_47 hst) (bnd (g5 c2))) rfl ?_
    refine pGo (s_iload dX1_takeable_48 rfl) ?_
    refine p_callV (As := [(0, (rd σ 47 ((x1 * 6) + ((x2 + (x6 * x3)) % x5)))), (0, x4)]) (st := []) (n := 2) (d' := 2) (Q1 := (fun r τ => r = some (0, b2i (vTk σ (rd σ 47 ((x1 * 6) + ((x2 + (x6 * x3)) % x5))) x4)) ∧ τ = σ)) pc1 ok_X1_isTakeable ml_X1_138 im_X1_isTakeable se_X1_isTakeable dX1_takeable_50 (ob_50 hst) (pargs_of rfl) rfl (Nat.le_of_ble_eq_true rfl) (by omega) (f1 c2) (fun r1 τ1 e1 q1 w1 => ?_)
    obtain ⟨rfl, t1⟩ := q1
    rw [t1]
    show pR mX1_takeable d 53 [(2, 50), (0, x1), (0, x2), (0, x3), (0, x4), (0, x5), (0, x6), (0, ((x2 + (x6 * x3)) % x5))] [(0, (b2i (vTk σ (rd σ 47 ((x1 * 6) + ((x2 + (x6 * x3)) % x5))) x4)))] σ Q
    refine p_ifeqB (tgt := 59) dX1_takeable_53 (by decide) (fun c3 => ?_) (fun c4 => ?_)
    · refine pGoL (ls2 := [(2, 50), (0, x1), (0, x2), (0, x3), (0, x4), (0, x5), (0, (x6 + 1)), (0, ((x2 + (x6 * x3)) % x5))]) (s_iinc dX1_takeable_59 (by decide) rfl rfl) rfl ?_
      refine pGo (s_goto (tgt := 14) dX1_takeable_62 (by decide)) ?_
      exact (k2 c2 c3)
    · refine pGo (s_iload dX1_takeable_56 rfl) ?_
      exact pEnd (r := (some (0, ((x2 + (x6 * x3)) % x5)))) dX1_takeable_58 ⟨_, rfl⟩ (k3 c2 c4)
set_option maxRecDepth 100000 in
theorem g_X1_roundsOf_0 {d : Nat} {σ : pS} {Q : Option pV → pS → Prop} (hd : 0 ≤ d) (hst : Stat σ) (x1 : Int) (x2 : Int)  (g1 : inR x2) (k1 : ∀ (c1 : 10 ≤ x2), pR mX1_roundsOf d 14 [(2, 50), (0, x1), (0, x2), (0, 0), (0, 0)] [] σ Q) (k2 : ∀ (c2 : x2 < 10), Q (some (0, 1000000)) σ) : pC mX1_roundsOf d [(2, 50), (0, x1), (0, x2)] σ Q := by
  show pR mX1_roundsOf d 0 [(2, 50), (0, x1), (0, x2), (9, 0), (9, 0)] [] σ Q
  refine pGo (s_iload_n dX1_roundsOf_0 rfl) ?_
  refine pGo (s_bipush dX1_roundsOf_1 (by decide)) ?_
  refine p_icge (tgt := 9) dX1_roundsOf_3 (by decide) g1 (by decide) (fun c1 => ?_) (fun c2 => ?_)
  · refine pGo (s_iconst dX1_roundsOf_9) ?_
    refine pGoL (ls2 := [(2, 50), (0, x1), (0, x2), (0, 0), (9, 0)]) (s_istore_n dX1_roundsOf_10 (by decide) rfl) rfl ?_
    refine pGo (s_iconst dX1_roundsOf_11) ?_
    refine pGoL (ls2 := [(2, 50), (0, x1), (0, x2), (0, 0), (0, 0)]) (s_istore dX1_roundsOf_12 (by decide) rfl) rfl ?_
    exact (k1 c1)
  · refine pGo (s_ldc (n := 1000000) dX1_roundsOf_6 kc_X1_151 (by decide)) ?_
    exact pEnd (r := (some (0, 1000000))) dX1_roundsOf_8 ⟨_, rfl⟩ (k2 c2)
set_option maxRecDepth 100000 in
theorem g_X1_roundsOf_14 {d : Nat} {σ : pS} {Q : Option pV → pS → Prop} (hd : 0 ≤ d) (hst : Stat σ) (x1 : Int) (x2 : Int) (x3 : Int) (x4 : Int)  (g1 : 0 ≤ x1 ∧ x1 < 10) (g2 : inR x4) (g3 : inR (rd σ 48 x1)) (g4 : ∀ (c1 : (rd σ 48 x1) ≤ x4), inR x3) (g5 : ∀ (c1 : (rd σ 48 x1) ≤ x4) (c3 : x3 ≠ 0), 0 ≤ x2 ∧ x2 < 17) (g6 : ∀ (c1 : (rd σ 48 x1) ≤ x4) (c3 : x3 ≠ 0), 0 ≤ (((rd σ 60 x2) - 10) + 1) ∧ (((rd σ 60 x2) - 10) + 1) < 2147483648) (g7 : ∀ (c1 : (rd σ 48 x1) ≤ x4) (c3 : x3 ≠ 0), 0 < x3 ∧ x3 < 2147483648) (k1 : ∀ (c1 : (rd σ 48 x1) ≤ x4) (c3 : x3 ≠ 0), Q (some (0, ((((rd σ 60 x2) - 10) + 1) / x3))) σ) (k2 : ∀ (c1 : (rd σ 48 x1) ≤ x4) (c4 : x3 = 0), Q (some (0, 1000000)) σ) (g8 : ∀ (c2 : x4 < (rd σ 48 x1)), 0 ≤ ((x1 * 6) + x4) ∧ ((x1 * 6) + x4) < 60) (g9 : ∀ (c2 : x4 < (rd σ 48 x1)), inR (rd σ 47 ((x1 * 6) + x4))) (g10 : ∀ (c2 : x4 < (rd σ 48 x1)), inR x2) (k3 : ∀ (c2 : x4 < (rd σ 48 x1)) (c5 : (rd σ 47 ((x1 * 6) + x4)) ≠ x2), pR mX1_roundsOf d 14 [(2, 50), (0, x1), (0, x2), (0, (x3 + 0)), (0, (x4 + 1))] [] σ Q) (k4 : ∀ (c2 : x4 < (rd σ 48 x1)) (c6 : (rd σ 47 ((x1 * 6) + x4)) = x2), pR mX1_roundsOf d 14 [(2, 50), (0, x1), (0, x2), (0, (x3 + 1)), (0, (x4 + 1))] [] σ Q) : pR mX1_roundsOf d 14 [(2, 50), (0, x1), (0, x2), (0, x3), (0, x4)] [] σ Q := by
  refine pGo (s_iload dX1_roundsOf_14 rfl) ?_
  refine pGo (s_aload_n dX1_roundsOf_16 rfl (by decide)) ?_
  refine pGoE (y := 44) (s_getF pc1 fl_X1_42 dX1_roundsOf_17 (ob_50 hst) rfl (by decide)) (by decide) ?_
  refine pGoE (y := 48) (s_getF pc0 fl_X1_135 dX1_roundsOf_20 (ob_44 hst) rfl (by decide)) (by decide) ?_
  refine pGo (s_iload_n dX1_roundsOf_23 rfl) ?_
  refine pGoE (y := (rd σ 48 x1)) (s_iald dX1_roundsOf_24 (ob_48 hst) (bnd g1)) rfl ?_
  refine p_icge (tgt := 61) dX1_roundsOf_25 (by decide) g2 g3 (fun c1 => ?_) (fun c2 => ?_)
  · refine pGo (s_iload_n dX1_roundsOf_61 rfl) ?_
    refine p_ifne (tgt := 70) dX1_roundsOf_62 (by decide) (g4 c1) (fun c3 => ?_) (fun c4 => ?_)
    · refine pGo (s_aload_n dX1_roundsOf_70 rfl (by decide)) ?_
      refine pGoE (y := 60) (s_getF pc1 fl_X1_39 dX1_roundsOf_71 (ob_50 hst) rfl (by decide)) (by decide) ?_
      refine pGo (s_iload_n dX1_roundsOf_74 rfl) ?_
      refine pGoE (y := (rd σ 60 x2)) (s_iald dX1_roundsOf_75 (ob_60 hst) (bnd (g5 c1 c3))) rfl ?_
      refine pGo (s_bipush dX1_roundsOf_76 (by decide)) ?_
      refine pGo (s_isub dX1_roundsOf_78) ?_
      refine pGo (s_iconst dX1_roundsOf_79) ?_
      refine pGo (s_iadd dX1_roundsOf_80) ?_
      refine pGo (s_iload_n dX1_roundsOf_81 rfl) ?_
      refine pGo (s_idivp dX1_roundsOf_82 (g6 c1 c3) (g7 c1 c3)) ?_
      exact pEnd (r := (some (0, ((((rd σ 60 x2) - 10) + 1) / x3)))) dX1_roundsOf_83 ⟨_, rfl⟩ (k1 c1 c3)
    · refine pGo (s_ldc (n := 1000000) dX1_roundsOf_65 kc_X1_151 (by decide)) ?_
      refine pGo (s_goto (tgt := 83) dX1_roundsOf_67 (by decide)) ?_
      exact pEnd (r := (some (0, 1000000))) dX1_roundsOf_83 ⟨_, rfl⟩ (k2 c1 c4)
  · refine pGo (s_iload_n dX1_roundsOf_28 rfl) ?_
    refine pGo (s_aload_n dX1_roundsOf_29 rfl (by decide)) ?_
    refine pGoE (y := 44) (s_getF pc1 fl_X1_42 dX1_roundsOf_30 (ob_50 hst) rfl (by decide)) (by decide) ?_
    refine pGoE (y := 47) (s_getF pc0 fl_X1_128 dX1_roundsOf_33 (ob_44 hst) rfl (by decide)) (by decide) ?_
    refine pGo (s_iload_n dX1_roundsOf_36 rfl) ?_
    refine pGo (s_bipush dX1_roundsOf_37 (by decide)) ?_
    refine pGo (s_imul dX1_roundsOf_39) ?_
    refine pGo (s_iload dX1_roundsOf_40 rfl) ?_
    refine pGo (s_iadd dX1_roundsOf_42) ?_
    refine pGoE (y := (rd σ 47 ((x1 * 6) + x4))) (s_iald dX1_roundsOf_43 (ob_47 hst) (bnd (g8 c2))) rfl ?_
    refine pGo (s_iload_n dX1_roundsOf_44 rfl) ?_
    refine p_icne (tgt := 52) dX1_roundsOf_45 (by decide) (g9 c2) (g10 c2) (fun c5 => ?_) (fun c6 => ?_)
    · refine pGo (s_iconst dX1_roundsOf_52) ?_
      refine pGo (s_iadd dX1_roundsOf_53) ?_
      refine pGoL (ls2 := [(2, 50), (0, x1), (0, x2), (0, (x3 + 0)), (0, x4)]) (s_istore_n dX1_roundsOf_54 (by decide) rfl) rfl ?_
      refine pGoL (ls2 := [(2, 50), (0, x1), (0, x2), (0, (x3 + 0)), (0, (x4 + 1))]) (s_iinc dX1_roundsOf_55 (by decide) rfl rfl) rfl ?_
      refine pGo (s_goto (tgt := 14) dX1_roundsOf_58 (by decide)) ?_
      exact (k3 c2 c5)
    · refine pGo (s_iconst dX1_roundsOf_48) ?_
      refine pGo (s_goto (tgt := 53) dX1_roundsOf_49 (by decide)) ?_
      refine pGo (s_iadd dX1_roundsOf_53) ?_
      refine pGoL (ls2 := [(2, 50), (0, x1), (0, x2), (0, (x3 + 1)), (0, x4)]) (s_istore_n dX1_roundsOf_54 (by decide) rfl) rfl ?_
      refine pGoL (ls2 := [(2, 50), (0, x1), (0, x2), (0, (x3 + 1)), (0, (x4 + 1))]) (s_iinc dX1_roundsOf_55 (by decide) rfl rfl) rfl ?_
      refine pGo (s_goto (tgt := 14) dX1_roundsOf_58 (by decide)) ?_
      exact (k4 c2 c6)
set_option maxRecDepth 100000 in
theorem g_X1_takeRounds_0 {d : Nat} {σ : pS} {Q : Option pV → pS → Prop} (hd : 4 ≤ d) (hst : Stat σ) (x1 : Int) (x2 : Int) (x3 : Int)  (g1 : 0 ≤ x1 ∧ x1 < 10) (k1 : pR mX1_takeRounds d 27 [(2, 50), (0, x1), (0, x2), (0, x3), (0, (x1 * 6)), (0, (rd σ 48 x1)), (0, 0), (0, x2), (0, (x1 * 6)), (9, 0)] [] σ Q) : pC mX1_takeRounds d [(2, 50), (0, x1), (0, x2), (0, x3)] σ Q := by
  show pR mX1_takeRounds d 0 [(2, 50), (0, x1), (0, x2), (0, x3), (9, 0), (9, 0), (9, 0), (9, 0), (9, 0), (9, 0)] [] σ Q
  refine pGo (s_iload_n dX1_takeRounds_0 rfl) ?_
  refine pGo (s_bipush dX1_takeRounds_1 (by decide)) ?_
  refine pGo (s_imul dX1_takeRounds_3) ?_
  refine pGoL (ls2 := [(2, 50), (0, x1), (0, x2), (0, x3), (0, (x1 * 6)), (9, 0), (9, 0), (9, 0), (9, 0), (9, 0)]) (s_istore dX1_takeRounds_4 (by decide) rfl) rfl ?_
  refine pGo (s_aload_n dX1_takeRounds_6 rfl (by decide)) ?_
  refine pGoE (y := 44) (s_getF pc1 fl_X1_42 dX1_takeRounds_7 (ob_50 hst) rfl (by decide)) (by decide) ?_
  refine pGoE (y := 48) (s_getF pc0 fl_X1_135 dX1_takeRounds_10 (ob_44 hst) rfl (by decide)) (by decide) ?_
  refine pGo (s_iload_n dX1_takeRounds_13 rfl) ?_
  refine pGoE (y := (rd σ 48 x1)) (s_iald dX1_takeRounds_14 (ob_48 hst) (bnd g1)) rfl ?_
  refine pGoL (ls2 := [(2, 50), (0, x1), (0, x2), (0, x3), (0, (x1 * 6)), (0, (rd σ 48 x1)), (9, 0), (9, 0), (9, 0), (9, 0)]) (s_istore dX1_takeRounds_15 (by decide) rfl) rfl ?_
  refine pGo (s_iconst dX1_takeRounds_17) ?_
  refine pGoL (ls2 := [(2, 50), (0, x1), (0, x2), (0, x3), (0, (x1 * 6)), (0, (rd σ 48 x1)), (0, 0), (9, 0), (9, 0), (9, 0)]) (s_istore dX1_takeRounds_18 (by decide) rfl) rfl ?_
  refine pGo (s_iload_n dX1_takeRounds_20 rfl) ?_
  refine pGoL (ls2 := [(2, 50), (0, x1), (0, x2), (0, x3), (0, (x1 * 6)), (0, (rd σ 48 x1)), (0, 0), (0, x2), (9, 0), (9, 0)]) (s_istore dX1_takeRounds_21 (by decide) rfl) rfl ?_
  refine pGo (s_iload dX1_takeRounds_23 rfl) ?_
  refine pGoL (ls2 := [(2, 50), (0, x1), (0, x2), (0, x3), (0, (x1 * 6)), (0, (rd σ 48 x1)), (0, 0), (0, x2), (0, (x1 * 6)), (9, 0)]) (s_istore dX1_takeRounds_25 (by decide) rfl) rfl ?_
  exact k1
set_option maxRecDepth 100000 in
theorem g_X1_takeRounds_27 {d : Nat} {σ : pS} {Q : Option pV → pS → Prop} {Q1 : Option pV → pS → Prop} {Q2 : Option pV → pS → Prop} (hd : 4 ≤ d) (hst : Stat σ) (x1 : Int) (x2 : Int) (x3 : Int) (x4 : Int) (x5 : Int) (x6 : Int) (x7 : Int) (x8 : Int) (u9 : pV) (hu9 : u9.1 ≠ 1) (g1 : inR x8) (g2 : inR (x4 + x5)) (g3 : ∀ (c1 : (x4 + x5) ≤ x8), inR x6) (g4 : ∀ (c1 : (x4 + x5) ≤ x8) (c3 : x6 ≠ 0), 0 ≤ x2 ∧ x2 < 2147483648) (g5 : ∀ (c1 : (x4 + x5) ≤ x8) (c3 : x6 ≠ 0), 0 < x6 ∧ x6 < 2147483648) (g6 : ∀ (c1 : (x4 + x5) ≤ x8) (c3 : x6 ≠ 0), inR x7) (g7 : ∀ (c1 : (x4 + x5) ≤ x8) (c3 : x6 ≠ 0), inR (x2 / x6)) (g8 : ∀ (c1 : (x4 + x5) ≤ x8) (c3 : x6 ≠ 0), inR (min x7 (x2 / x6))) (g9 : ∀ (c1 : (x4 + x5) ≤ x8) (c3 : x6 ≠ 0) (c5 : (min x7 (x2 / x6)) ≠ 0), 0 ≤ x1 ∧ x1 < 10) (f1 : ∀ (c1 : (x4 + x5) ≤ x8) (c3 : x6 ≠ 0) (c5 : (min x7 (x2 / x6)) ≠ 0), pC mX1_takeable 3 [(2, 50), (0, x1), (0, (((rd σ 58 x1) + x5) - 1)), (0, (x5 - 1)), (0, x3)] σ Q1) (k1 : ∀ (c1 : (x4 + x5) ≤ x8) (c3 : x6 ≠ 0) (c5 : (min x7 (x2 / x6)) ≠ 0) (v1 : Int) (τ1 : pS) (e1 : pLe σ τ1) (q1 : Q1 (some (0, v1)) τ1), pR mX1_takeRounds d 140 [(2, 50), (0, x1), (0, x2), (0, x3), (0, x4), (0, x5), (0, x6), (0, (min x7 (x2 / x6))), (0, v1), (0, x4)] [] τ1 Q) (k2 : ∀ (c1 : (x4 + x5) ≤ x8) (c3 : x6 ≠ 0) (c6 : (min x7 (x2 / x6)) = 0), Q (some (0, 0)) σ) (k3 : ∀ (c1 : (x4 + x5) ≤ x8) (c4 : x6 = 0), Q (some (0, 0)) σ) (g10 : ∀ (c2 : x8 < (x4 + x5)), 0 ≤ x8 ∧ x8 < 60) (f2 : ∀ (c2 : x8 < (x4 + x5)), pC mX1_isTakeable 2 [(2, 50), (0, (rd σ 47 x8)), (0, x3)] σ (fun r τ => r = some (0, b2i (vTk σ (rd σ 47 x8) x3)) ∧ τ = σ)) (k4 : ∀ (c2 : x8 < (x4 + x5)) (c7 : (vTk σ (rd σ 47 x8) x3) = false), pR mX1_takeRounds d 27 [(2, 50), (0, x1), (0, x2), (0, x3), (0, x4), (0, x5), (0, x6), (0, x7), (0, (x8 + 1)), u9] [] σ Q) (f3 : ∀ (c2 : x8 < (x4 + x5)) (c8 : (vTk σ (rd σ 47 x8) x3) = true), pC mX1_roundsOf 0 [(2, 50), (0, x1), (0, (rd σ 47 x8))] σ Q2) (g11 : ∀ (c2 : x8 < (x4 + x5)) (c8 : (vTk σ (rd σ 47 x8) x3) = true) (v3 : Int) (τ3 : pS) (e3 : pLe σ τ3) (q3 : Q2 (some (0, v3)) τ3), inR x7) (g12 : ∀ (c2 : x8 < (x4 + x5)) (c8 : (vTk σ (rd σ 47 x8) x3) = true) (v3 : Int) (τ3 : pS) (e3 : pLe σ τ3) (q3 : Q2 (some (0, v3)) τ3), inR v3) (k5 : ∀ (c2 : x8 < (x4 + x5)) (c8 : (vTk σ (rd σ 47 x8) x3) = true) (v3 : Int) (τ3 : pS) (e3 : pLe σ τ3) (q3 : Q2 (some (0, v3)) τ3), pR mX1_takeRounds d 27 [(2, 50), (0, x1), (0, x2), (0, x3), (0, x4), (0, x5), (0, (x6 + 1)), (0, (min x7 v3)), (0, (x8 + 1)), u9] [] τ3 Q) : pR mX1_takeRounds d 27 [(2, 50), (0, x1), (0, x2), (0, x3), (0, x4), (0, x5), (0, x6), (0, x7), (0, x8), u9] [] σ Q := by
  refine pGo (s_iload dX1_takeRounds_27 rfl) ?_
  refine pGo (s_iload dX1_takeRounds_29 rfl) ?_
  refine pGo (s_iload dX1_takeRounds_31 rfl) ?_
  refine pGo (s_iadd dX1_takeRounds_33) ?_
  refine p_icge (tgt := 86) dX1_takeRounds_34 (by decide) g1 g2 (fun c1 => ?_) (fun c2 => ?_)
  · refine pGo (s_iload dX1_takeRounds_86 rfl) ?_
    refine p_ifne (tgt := 95) dX1_takeRounds_88 (by decide) (g3 c1) (fun c3 => ?_) (fun c4 => ?_)
    · refine pGo (s_iload dX1_takeRounds_95 rfl) ?_
      refine pGo (s_iload_n dX1_takeRounds_97 rfl) ?_
      refine pGo (s_iload dX1_takeRounds_98 rfl) ?_
      refine pGo (s_idivp dX1_takeRounds_100 (g4 c1 c3) (g5 c1 c3)) ?_
      refine pGo (s_mmin (by omega) mj_X1_146 (Nat.le_of_ble_eq_true rfl) dX1_takeRounds_101 (g6 c1 c3) (g7 c1 c3)) ?_
      refine pGoL (ls2 := [(2, 50), (0, x1), (0, x2), (0, x3), (0, x4), (0, x5), (0, x6), (0, (min x7 (x2 / x6))), (0, x8), u9]) (s_istore dX1_takeRounds_104 (by decide) rfl) rfl ?_
      refine pGo (s_iload dX1_takeRounds_106 rfl) ?_
      refine p_ifne (tgt := 113) dX1_takeRounds_108 (by decide) (g8 c1 c3) (fun c5 => ?_) (fun c6 => ?_)
      · refine pGo (s_aload_n dX1_takeRounds_113 rfl (by decide)) ?_
        refine pGo (s_iload_n dX1_takeRounds_114 rfl) ?_
        refine pGo (s_aload_n dX1_takeRounds_115 rfl (by decide)) ?_
        refine pGoE (y := 58) (s_getF pc1 fl_X1_33 dX1_takeRounds_116 (ob_50 hst) rfl (by decide)) (by decide) ?_
        refine pGo (s_iload_n dX1_takeRounds_119 rfl) ?_
        refine pGoE (y := (rd σ 58 x1)) (s_iald dX1_takeRounds_120 (ob_58 hst) (bnd (g9 c1 c3 c5))) rfl ?_
        refine pGo (s_iload dX1_takeRounds_121 rfl) ?_
        refine pGo (s_iadd dX1_takeRounds_123) ?_
        refine pGo (s_iconst dX1_takeRounds_124) ?_
        refine pGo (s_isub dX1_takeRounds_125) ?_
        refine pGo (s_iload dX1_takeRounds_126 rfl) ?_
        refine pGo (s_iconst dX1_takeRounds_128) ?_
        refine pGo (s_isub dX1_takeRounds_129) ?_
        refine pGo (s_iload_n dX1_takeRounds_130 rfl) ?_
        refine p_callV (As := [(0, x1), (0, (((rd σ 58 x1) + x5) - 1)), (0, (x5 - 1)), (0, x3)]) (st := []) (n := 4) (d' := 3) (Q1 := Q1) pc1 ok_X1_takeable ml_X1_124 im_X1_takeable se_X1_takeable dX1_takeRounds_131 (ob_50 hst) (pargs_of rfl) rfl (Nat.le_of_ble_eq_true rfl) (by omega) (f1 c1 c3 c5) (fun r1 τ1 e1 q1 w1 => ?_)
        obtain ⟨v1, rfl⟩ := w1
        have S1 : Stat τ1 := (Stat.le (σ := σ) hst e1)
        show pR mX1_takeRounds d 134 [(2, 50), (0, x1), (0, x2), (0, x3), (0, x4), (0, x5), (0, x6), (0, (min x7 (x2 / x6))), (0, x8), u9] [(0, v1)] τ1 Q
        refine pGoL (ls2 := [(2, 50), (0, x1), (0, x2), (0, x3), (0, x4), (0, x5), (0, x6), (0, (min x7 (x2 / x6))), (0, v1), u9]) (s_istore dX1_takeRounds_134 (by decide) rfl) rfl ?_
        refine pGo (s_iload dX1_takeRounds_136 rfl) ?_
        refine pGoL (ls2 := [(2, 50), (0, x1), (0, x2), (0, x3), (0, x4), (0, x5), (0, x6), (0, (min x7 (x2 / x6))), (0, v1), (0, x4)]) (s_istore dX1_takeRounds_138 (by decide) rfl) rfl ?_
        exact (k1 c1 c3 c5 v1 τ1 e1 q1)
      · refine pGo (s_iconst dX1_takeRounds_111) ?_
        exact pEnd (r := (some (0, 0))) dX1_takeRounds_112 ⟨_, rfl⟩ (k2 c1 c3 c6)
    · refine pGo (s_iconst dX1_takeRounds_91) ?_
      refine pGo (s_goto (tgt := 104) dX1_takeRounds_92 (by decide)) ?_
      refine pGoL (ls2 := [(2, 50), (0, x1), (0, x2), (0, x3), (0, x4), (0, x5), (0, x6), (0, 0), (0, x8), u9]) (s_istore dX1_takeRounds_104 (by decide) rfl) rfl ?_
      refine pGo (s_iload dX1_takeRounds_106 rfl) ?_
      refine p_ifne (tgt := 113) dX1_takeRounds_108 (by decide) (by decide) (fun q => absurd q (by decide)) (fun _ => ?_)
      refine pGo (s_iconst dX1_takeRounds_111) ?_
      exact pEnd (r := (some (0, 0))) dX1_takeRounds_112 ⟨_, rfl⟩ (k3 c1 c4)
  · refine pGo (s_aload_n dX1_takeRounds_37 rfl (by decide)) ?_
    refine pGo (s_aload_n dX1_takeRounds_38 rfl (by decide)) ?_
    refine pGoE (y := 44) (s_getF pc1 fl_X1_42 dX1_takeRounds_39 (ob_50 hst) rfl (by decide)) (by decide) ?_
    refine pGoE (y := 47) (s_getF pc0 fl_X1_128 dX1_takeRounds_42 (ob_44 hst) rfl (by decide)) (by decide) ?_
    refine pGo (s_iload dX1_takeRounds_45 rfl) ?_
    refine pGoE (y := (rd σ 47 x8)) (s_iald dX1_takeRounds_47 (ob_47 hst) (bnd (g10 c2))) rfl ?_
    refine pGo (s_iload_n dX1_takeRounds_48 rfl) ?_
    refine p_callV (As := [(0, (rd σ 47 x8)), (0, x3)]) (st := []) (n := 2) (d' := 2) (Q1 := (fun r τ => r = some (0, b2i (vTk σ (rd σ 47 x8) x3)) ∧ τ = σ)) pc1 ok_X1_isTakeable ml_X1_138 im_X1_isTakeable se_X1_isTakeable dX1_takeRounds_49 (ob_50 hst) (pargs_of rfl) rfl (Nat.le_of_ble_eq_true rfl) (by omega) (f2 c2) (fun r2 τ2 e2 q2 w2 => ?_)
    obtain ⟨rfl, t2⟩ := q2
    rw [t2]
    show pR mX1_takeRounds d 52 [(2, 50), (0, x1), (0, x2), (0, x3), (0, x4), (0, x5), (0, x6), (0, x7), (0, x8), u9] [(0, (b2i (vTk σ (rd σ 47 x8) x3)))] σ Q
    refine p_ifeqB (tgt := 80) dX1_takeRounds_52 (by decide) (fun c7 => ?_) (fun c8 => ?_)
    · refine pGoL (ls2 := [(2, 50), (0, x1), (0, x2), (0, x3), (0, x4), (0, x5), (0, x6), (0, x7), (0, (x8 + 1)), u9]) (s_iinc dX1_takeRounds_80 (by decide) rfl rfl) rfl ?_
      refine pGo (s_goto (tgt := 27) dX1_takeRounds_83 (by decide)) ?_
      exact (k4 c2 c7)
    · refine pGoL (ls2 := [(2, 50), (0, x1), (0, x2), (0, x3), (0, x4), (0, x5), (0, (x6 + 1)), (0, x7), (0, x8), u9]) (s_iinc dX1_takeRounds_55 (by decide) rfl rfl) rfl ?_
      refine pGo (s_iload dX1_takeRounds_58 rfl) ?_
      refine pGo (s_aload_n dX1_takeRounds_60 rfl (by decide)) ?_
      refine pGo (s_iload_n dX1_takeRounds_61 rfl) ?_
      refine pGo (s_aload_n dX1_takeRounds_62 rfl (by decide)) ?_
      refine pGoE (y := 44) (s_getF pc1 fl_X1_42 dX1_takeRounds_63 (ob_50 hst) rfl (by decide)) (by decide) ?_
      refine pGoE (y := 47) (s_getF pc0 fl_X1_128 dX1_takeRounds_66 (ob_44 hst) rfl (by decide)) (by decide) ?_
      refine pGo (s_iload dX1_takeRounds_69 rfl) ?_
      refine pGoE (y := (rd σ 47 x8)) (s_iald dX1_takeRounds_71 (ob_47 hst) (bnd (g10 c2))) rfl ?_
      refine p_callV (As := [(0, x1), (0, (rd σ 47 x8))]) (st := [(0, x7)]) (n := 2) (d' := 0) (Q1 := Q2) pc1 ok_X1_roundsOf ml_X1_142 im_X1_roundsOf se_X1_roundsOf dX1_takeRounds_72 (ob_50 hst) (pargs_of rfl) rfl (Nat.le_of_ble_eq_true rfl) (by omega) (f3 c2 c8) (fun r3 τ3 e3 q3 w3 => ?_)
      obtain ⟨v3, rfl⟩ := w3
      have S3 : Stat τ3 := (Stat.le (σ := σ) hst e3)
      show pR mX1_takeRounds d 75 [(2, 50), (0, x1), (0, x2), (0, x3), (0, x4), (0, x5), (0, (x6 + 1)), (0, x7), (0, x8), u9] [(0, v3), (0, x7)] τ3 Q
      refine pGo (s_mmin (by omega) mj_X1_146 (Nat.le_of_ble_eq_true rfl) dX1_takeRounds_75 (g11 c2 c8 v3 τ3 e3 q3) (g12 c2 c8 v3 τ3 e3 q3)) ?_
      refine pGoL (ls2 := [(2, 50), (0, x1), (0, x2), (0, x3), (0, x4), (0, x5), (0, (x6 + 1)), (0, (min x7 v3)), (0, x8), u9]) (s_istore dX1_takeRounds_78 (by decide) rfl) rfl ?_
      refine pGoL (ls2 := [(2, 50), (0, x1), (0, x2), (0, x3), (0, x4), (0, x5), (0, (x6 + 1)), (0, (min x7 v3)), (0, (x8 + 1)), u9]) (s_iinc dX1_takeRounds_80 (by decide) rfl rfl) rfl ?_
      refine pGo (s_goto (tgt := 27) dX1_takeRounds_83 (by decide)) ?_
      exact (k5 c2 c8 v3 τ3 e3 q3)
set_option maxRecDepth 100000 in
theorem g_X1_takeRounds_140 {d : Nat} {σ : pS} {Q : Option pV → pS → Prop} {Q1 : Option pV → pS → Prop} (hd : 4 ≤ d) (hst : Stat σ) (x1 : Int) (x2 : Int) (x3 : Int) (x4 : Int) (x5 : Int) (x6 : Int) (x7 : Int) (x8 : Int) (x9 : Int)  (g1 : inR x9) (g2 : inR (x4 + x5)) (g3 : ∀ (c1 : (x4 + x5) ≤ x9), inR (x8 + 1)) (g4 : ∀ (c1 : (x4 + x5) ≤ x9), inR x5) (g5 : ∀ (c1 : (x4 + x5) ≤ x9) (c3 : x5 ≤ (x8 + 1)), 0 ≤ x1 ∧ x1 < 10) (k1 : ∀ (c1 : (x4 + x5) ≤ x9) (c3 : x5 ≤ (x8 + 1)), Q (some (0, (x7 * x6))) (wr σ 58 x1 0)) (g6 : ∀ (c1 : (x4 + x5) ≤ x9) (c4 : (x8 + 1) < x5), 0 ≤ x1 ∧ x1 < 10) (k2 : ∀ (c1 : (x4 + x5) ≤ x9) (c4 : (x8 + 1) < x5), Q (some (0, (x7 * x6))) (wr σ 58 x1 (x8 + 1))) (g7 : ∀ (c2 : x9 < (x4 + x5)), 0 ≤ x9 ∧ x9 < 60) (f1 : ∀ (c2 : x9 < (x4 + x5)), pC mX1_isTakeable 2 [(2, 50), (0, (rd σ 47 x9)), (0, x3)] σ (fun r τ => r = some (0, b2i (vTk σ (rd σ 47 x9) x3)) ∧ τ = σ)) (k3 : ∀ (c2 : x9 < (x4 + x5)) (c5 : (vTk σ (rd σ 47 x9) x3) = false), pR mX1_takeRounds d 140 [(2, 50), (0, x1), (0, x2), (0, x3), (0, x4), (0, x5), (0, x6), (0, x7), (0, x8), (0, (x9 + 1))] [] σ Q) (f2 : ∀ (c2 : x9 < (x4 + x5)) (c6 : (vTk σ (rd σ 47 x9) x3) = true), pC mX1_take 1 [(2, 50), (0, (rd σ 47 x9)), (0, x7), (0, x3)] σ Q1) (k4 : ∀ (c2 : x9 < (x4 + x5)) (c6 : (vTk σ (rd σ 47 x9) x3) = true) (τ2 : pS) (e2 : pLe σ τ2) (q2 : Q1 none τ2), pR mX1_takeRounds d 140 [(2, 50), (0, x1), (0, x2), (0, x3), (0, x4), (0, x5), (0, x6), (0, x7), (0, x8), (0, (x9 + 1))] [] τ2 Q) : pR mX1_takeRounds d 140 [(2, 50), (0, x1), (0, x2), (0, x3), (0, x4), (0, x5), (0, x6), (0, x7), (0, x8), (0, x9)] [] σ Q := by
  refine pGo (s_iload dX1_takeRounds_140 rfl) ?_
  refine pGo (s_iload dX1_takeRounds_142 rfl) ?_
  refine pGo (s_iload dX1_takeRounds_144 rfl) ?_
  refine pGo (s_iadd dX1_takeRounds_146) ?_
  refine p_icge (tgt := 191) dX1_takeRounds_147 (by decide) g1 g2 (fun c1 => ?_) (fun c2 => ?_)
  · refine pGo (s_aload_n dX1_takeRounds_191 rfl (by decide)) ?_
    refine pGoE (y := 58) (s_getF pc1 fl_X1_33 dX1_takeRounds_192 (ob_50 hst) rfl (by decide)) (by decide) ?_
    refine pGo (s_iload_n dX1_takeRounds_195 rfl) ?_
    refine pGo (s_iload dX1_takeRounds_196 rfl) ?_
    refine pGo (s_iconst dX1_takeRounds_198) ?_
    refine pGo (s_iadd dX1_takeRounds_199) ?_
    refine pGo (s_iload dX1_takeRounds_200 rfl) ?_
    refine p_icge (tgt := 212) dX1_takeRounds_202 (by decide) (g3 c1) (g4 c1) (fun c3 => ?_) (fun c4 => ?_)
    · refine pGo (s_iconst dX1_takeRounds_212) ?_
      refine pGo (s_iast dX1_takeRounds_213 (ob_58 hst) (bnd (g5 c1 c3))) ?_
      refine pGo (s_iload dX1_takeRounds_214 rfl) ?_
      refine pGo (s_iload dX1_takeRounds_216 rfl) ?_
      refine pGo (s_imul dX1_takeRounds_218) ?_
      exact pEnd (r := (some (0, (x7 * x6)))) dX1_takeRounds_219 ⟨_, rfl⟩ (k1 c1 c3)
    · refine pGo (s_iload dX1_takeRounds_205 rfl) ?_
      refine pGo (s_iconst dX1_takeRounds_207) ?_
      refine pGo (s_iadd dX1_takeRounds_208) ?_
      refine pGo (s_goto (tgt := 213) dX1_takeRounds_209 (by decide)) ?_
      refine pGo (s_iast dX1_takeRounds_213 (ob_58 hst) (bnd (g6 c1 c4))) ?_
      refine pGo (s_iload dX1_takeRounds_214 rfl) ?_
      refine pGo (s_iload dX1_takeRounds_216 rfl) ?_
      refine pGo (s_imul dX1_takeRounds_218) ?_
      exact pEnd (r := (some (0, (x7 * x6)))) dX1_takeRounds_219 ⟨_, rfl⟩ (k2 c1 c4)
  · refine pGo (s_aload_n dX1_takeRounds_150 rfl (by decide)) ?_
    refine pGo (s_aload_n dX1_takeRounds_151 rfl (by decide)) ?_
    refine pGoE (y := 44) (s_getF pc1 fl_X1_42 dX1_takeRounds_152 (ob_50 hst) rfl (by decide)) (by decide) ?_
    refine pGoE (y := 47) (s_getF pc0 fl_X1_128 dX1_takeRounds_155 (ob_44 hst) rfl (by decide)) (by decide) ?_
    refine pGo (s_iload dX1_takeRounds_158 rfl) ?_
    refine pGoE (y := (rd σ 47 x9)) (s_iald dX1_takeRounds_160 (ob_47 hst) (bnd (g7 c2))) rfl ?_
    refine pGo (s_iload_n dX1_takeRounds_161 rfl) ?_
    refine p_callV (As := [(0, (rd σ 47 x9)), (0, x3)]) (st := []) (n := 2) (d' := 2) (Q1 := (fun r τ => r = some (0, b2i (vTk σ (rd σ 47 x9) x3)) ∧ τ = σ)) pc1 ok_X1_isTakeable ml_X1_138 im_X1_isTakeable se_X1_isTakeable dX1_takeRounds_162 (ob_50 hst) (pargs_of rfl) rfl (Nat.le_of_ble_eq_true rfl) (by omega) (f1 c2) (fun r1 τ1 e1 q1 w1 => ?_)
    obtain ⟨rfl, t1⟩ := q1
    rw [t1]
    show pR mX1_takeRounds d 165 [(2, 50), (0, x1), (0, x2), (0, x3), (0, x4), (0, x5), (0, x6), (0, x7), (0, x8), (0, x9)] [(0, (b2i (vTk σ (rd σ 47 x9) x3)))] σ Q
    refine p_ifeqB (tgt := 185) dX1_takeRounds_165 (by decide) (fun c5 => ?_) (fun c6 => ?_)
    · refine pGoL (ls2 := [(2, 50), (0, x1), (0, x2), (0, x3), (0, x4), (0, x5), (0, x6), (0, x7), (0, x8), (0, (x9 + 1))]) (s_iinc dX1_takeRounds_185 (by decide) rfl rfl) rfl ?_
      refine pGo (s_goto (tgt := 140) dX1_takeRounds_188 (by decide)) ?_
      exact (k3 c2 c5)
    · refine pGo (s_aload_n dX1_takeRounds_168 rfl (by decide)) ?_
      refine pGo (s_aload_n dX1_takeRounds_169 rfl (by decide)) ?_
      refine pGoE (y := 44) (s_getF pc1 fl_X1_42 dX1_takeRounds_170 (ob_50 hst) rfl (by decide)) (by decide) ?_
      refine pGoE (y := 47) (s_getF pc0 fl_X1_128 dX1_takeRounds_173 (ob_44 hst) rfl (by decide)) (by decide) ?_
      refine pGo (s_iload dX1_takeRounds_176 rfl) ?_
      refine pGoE (y := (rd σ 47 x9)) (s_iald dX1_takeRounds_178 (ob_47 hst) (bnd (g7 c2))) rfl ?_
      refine pGo (s_iload dX1_takeRounds_179 rfl) ?_
      refine pGo (s_iload_n dX1_takeRounds_181 rfl) ?_
      refine p_callV (As := [(0, (rd σ 47 x9)), (0, x7), (0, x3)]) (st := []) (n := 3) (d' := 1) (Q1 := Q1) pc1 ok_X1_take ml_X1_131 im_X1_take se_X1_take dX1_takeRounds_182 (ob_50 hst) (pargs_of rfl) rfl (Nat.le_of_ble_eq_true rfl) (by omega) (f2 c2 c6) (fun r2 τ2 e2 q2 w2 => ?_)
      obtain rfl : r2 = none := w2
      have S2 : Stat τ2 := (Stat.le (σ := σ) hst e2)
      show pR mX1_takeRounds d 185 [(2, 50), (0, x1), (0, x2), (0, x3), (0, x4), (0, x5), (0, x6), (0, x7), (0, x8), (0, x9)] [] τ2 Q
      refine pGoL (ls2 := [(2, 50), (0, x1), (0, x2), (0, x3), (0, x4), (0, x5), (0, x6), (0, x7), (0, x8), (0, (x9 + 1))]) (s_iinc dX1_takeRounds_185 (by decide) rfl rfl) rfl ?_
      refine pGo (s_goto (tgt := 140) dX1_takeRounds_188 (by decide)) ?_
      exact (k4 c2 c6 τ2 e2 q2)
set_option maxRecDepth 100000 in
theorem g_X1_takeTurns_0 {d : Nat} {σ : pS} {Q : Option pV → pS → Prop} (hd : 5 ≤ d) (hst : Stat σ) (x1 : Int) (x2 : Int) (x3 : Int)  (k1 : pR mX1_takeTurns d 6 [(2, 50), (0, x1), (0, x2), (0, x3), (0, x2), (0, 0), (9, 0)] [] σ Q) : pC mX1_takeTurns d [(2, 50), (0, x1), (0, x2), (0, x3)] σ Q := by
  show pR mX1_takeTurns d 0 [(2, 50), (0, x1), (0, x2), (0, x3), (9, 0), (9, 0), (9, 0)] [] σ Q
  refine pGo (s_iload_n dX1_takeTurns_0 rfl) ?_
  refine pGoL (ls2 := [(2, 50), (0, x1), (0, x2), (0, x3), (0, x2), (9, 0), (9, 0)]) (s_istore dX1_takeTurns_1 (by decide) rfl) rfl ?_
  refine pGo (s_iconst dX1_takeTurns_3) ?_
  refine pGoL (ls2 := [(2, 50), (0, x1), (0, x2), (0, x3), (0, x2), (0, 0), (9, 0)]) (s_istore dX1_takeTurns_4 (by decide) rfl) rfl ?_
  exact k1
set_option maxRecDepth 100000 in
theorem g_X1_takeTurns_6 {d : Nat} {σ : pS} {Q : Option pV → pS → Prop} {Q1 : Option pV → pS → Prop} {Q2 : Option pV → pS → Prop} {Q3 : Option pV → pS → Prop} (hd : 5 ≤ d) (hst : Stat σ) (x1 : Int) (x2 : Int) (x3 : Int) (x4 : Int) (x5 : Int) (u6 : pV) (hu6 : u6.1 ≠ 1) (g1 : inR x5) (g2 : inR x2) (k1 : ∀ (c1 : x2 ≤ x5), Q (some (0, x4)) σ) (g3 : ∀ (c2 : x5 < x2), inR x4) (k2 : ∀ (c2 : x5 < x2) (c3 : x4 ≤ 0), Q (some (0, x4)) σ) (f1 : ∀ (c2 : x5 < x2) (c4 : 0 < x4), pC mX1_takeRounds 4 [(2, 50), (0, x1), (0, x4), (0, x3)] σ Q1) (g4 : ∀ (c2 : x5 < x2) (c4 : 0 < x4) (v1 : Int) (τ1 : pS) (e1 : pLe σ τ1) (q1 : Q1 (some (0, v1)) τ1), inR (x4 - v1)) (k3 : ∀ (c2 : x5 < x2) (c4 : 0 < x4) (v1 : Int) (τ1 : pS) (e1 : pLe σ τ1) (q1 : Q1 (some (0, v1)) τ1) (c5 : (x4 - v1) ≤ 0), pR mX1_takeTurns d 6 [(2, 50), (0, x1), (0, x2), (0, x3), (0, (x4 - v1)), (0, (x5 + 1)), u6] [] τ1 Q) (g5 : ∀ (c2 : x5 < x2) (c4 : 0 < x4) (v1 : Int) (τ1 : pS) (e1 : pLe σ τ1) (q1 : Q1 (some (0, v1)) τ1) (c6 : 0 < (x4 - v1)), 0 ≤ x1 ∧ x1 < 10) (f2 : ∀ (c2 : x5 < x2) (c4 : 0 < x4) (v1 : Int) (τ1 : pS) (e1 : pLe σ τ1) (q1 : Q1 (some (0, v1)) τ1) (c6 : 0 < (x4 - v1)), pC mX1_takeable 3 [(2, 50), (0, x1), (0, (rd τ1 58 x1)), (0, 1), (0, x3)] τ1 Q2) (g6 : ∀ (c2 : x5 < x2) (c4 : 0 < x4) (v1 : Int) (τ1 : pS) (e1 : pLe σ τ1) (q1 : Q1 (some (0, v1)) τ1) (c6 : 0 < (x4 - v1)) (v2 : Int) (τ2 : pS) (e2 : pLe τ1 τ2) (q2 : Q2 (some (0, v2)) τ2), inR v2) (g7 : ∀ (c2 : x5 < x2) (c4 : 0 < x4) (v1 : Int) (τ1 : pS) (e1 : pLe σ τ1) (q1 : Q1 (some (0, v1)) τ1) (c6 : 0 < (x4 - v1)) (v2 : Int) (τ2 : pS) (e2 : pLe τ1 τ2) (q2 : Q2 (some (0, v2)) τ2) (c7 : v2 ≠ (-1)), 0 ≤ ((x1 * 6) + v2) ∧ ((x1 * 6) + v2) < 60) (f3 : ∀ (c2 : x5 < x2) (c4 : 0 < x4) (v1 : Int) (τ1 : pS) (e1 : pLe σ τ1) (q1 : Q1 (some (0, v1)) τ1) (c6 : 0 < (x4 - v1)) (v2 : Int) (τ2 : pS) (e2 : pLe τ1 τ2) (q2 : Q2 (some (0, v2)) τ2) (c7 : v2 ≠ (-1)), pC mX1_take 1 [(2, 50), (0, (rd τ2 47 ((x1 * 6) + v2))), (0, 1), (0, x3)] τ2 Q3) (g8 : ∀ (c2 : x5 < x2) (c4 : 0 < x4) (v1 : Int) (τ1 : pS) (e1 : pLe σ τ1) (q1 : Q1 (some (0, v1)) τ1) (c6 : 0 < (x4 - v1)) (v2 : Int) (τ2 : pS) (e2 : pLe τ1 τ2) (q2 : Q2 (some (0, v2)) τ2) (c7 : v2 ≠ (-1)) (τ3 : pS) (e3 : pLe τ2 τ3) (q3 : Q3 none τ3), inR (v2 + 1)) (g9 : ∀ (c2 : x5 < x2) (c4 : 0 < x4) (v1 : Int) (τ1 : pS) (e1 : pLe σ τ1) (q1 : Q1 (some (0, v1)) τ1) (c6 : 0 < (x4 - v1)) (v2 : Int) (τ2 : pS) (e2 : pLe τ1 τ2) (q2 : Q2 (some (0, v2)) τ2) (c7 : v2 ≠ (-1)) (τ3 : pS) (e3 : pLe τ2 τ3) (q3 : Q3 none τ3), inR (rd τ3 48 x1)) (k4 : ∀ (c2 : x5 < x2) (c4 : 0 < x4) (v1 : Int) (τ1 : pS) (e1 : pLe σ τ1) (q1 : Q1 (some (0, v1)) τ1) (c6 : 0 < (x4 - v1)) (v2 : Int) (τ2 : pS) (e2 : pLe τ1 τ2) (q2 : Q2 (some (0, v2)) τ2) (c7 : v2 ≠ (-1)) (τ3 : pS) (e3 : pLe τ2 τ3) (q3 : Q3 none τ3) (c9 : (rd τ3 48 x1) ≤ (v2 + 1)), pR mX1_takeTurns d 6 [(2, 50), (0, x1), (0, x2), (0, x3), (0, ((x4 - v1) + (-1))), (0, (x5 + 1)), (0, v2)] [] (wr τ3 58 x1 0) Q) (k5 : ∀ (c2 : x5 < x2) (c4 : 0 < x4) (v1 : Int) (τ1 : pS) (e1 : pLe σ τ1) (q1 : Q1 (some (0, v1)) τ1) (c6 : 0 < (x4 - v1)) (v2 : Int) (τ2 : pS) (e2 : pLe τ1 τ2) (q2 : Q2 (some (0, v2)) τ2) (c7 : v2 ≠ (-1)) (τ3 : pS) (e3 : pLe τ2 τ3) (q3 : Q3 none τ3) (c10 : (v2 + 1) < (rd τ3 48 x1)), pR mX1_takeTurns d 6 [(2, 50), (0, x1), (0, x2), (0, x3), (0, ((x4 - v1) + (-1))), (0, (x5 + 1)), (0, v2)] [] (wr τ3 58 x1 (v2 + 1)) Q) (k6 : ∀ (c2 : x5 < x2) (c4 : 0 < x4) (v1 : Int) (τ1 : pS) (e1 : pLe σ τ1) (q1 : Q1 (some (0, v1)) τ1) (c6 : 0 < (x4 - v1)) (v2 : Int) (τ2 : pS) (e2 : pLe τ1 τ2) (q2 : Q2 (some (0, v2)) τ2) (c8 : v2 = (-1)), Q (some (0, (x4 - v1))) τ2) : pR mX1_takeTurns d 6 [(2, 50), (0, x1), (0, x2), (0, x3), (0, x4), (0, x5), u6] [] σ Q := by
  refine pGo (s_iload dX1_takeTurns_6 rfl) ?_
  refine pGo (s_iload_n dX1_takeTurns_8 rfl) ?_
  refine p_icge (tgt := 119) dX1_takeTurns_9 (by decide) g1 g2 (fun c1 => ?_) (fun c2 => ?_)
  · refine pGo (s_iload dX1_takeTurns_119 rfl) ?_
    exact pEnd (r := (some (0, x4))) dX1_takeTurns_121 ⟨_, rfl⟩ (k1 c1)
  · refine pGo (s_iload dX1_takeTurns_12 rfl) ?_
    refine p_ifle (tgt := 119) dX1_takeTurns_14 (by decide) (g3 c2) (fun c3 => ?_) (fun c4 => ?_)
    · refine pGo (s_iload dX1_takeTurns_119 rfl) ?_
      exact pEnd (r := (some (0, x4))) dX1_takeTurns_121 ⟨_, rfl⟩ (k2 c2 c3)
    · refine pGo (s_iload dX1_takeTurns_17 rfl) ?_
      refine pGo (s_aload_n dX1_takeTurns_19 rfl (by decide)) ?_
      refine pGo (s_iload_n dX1_takeTurns_20 rfl) ?_
      refine pGo (s_iload dX1_takeTurns_21 rfl) ?_
      refine pGo (s_iload_n dX1_takeTurns_23 rfl) ?_
      refine p_callV (As := [(0, x1), (0, x4), (0, x3)]) (st := [(0, x4)]) (n := 3) (d' := 4) (Q1 := Q1) pc1 ok_X1_takeRounds ml_X1_121 im_X1_takeRounds se_X1_takeRounds dX1_takeTurns_24 (ob_50 hst) (pargs_of rfl) rfl (Nat.le_of_ble_eq_true rfl) (by omega) (f1 c2 c4) (fun r1 τ1 e1 q1 w1 => ?_)
      obtain ⟨v1, rfl⟩ := w1
      have S1 : Stat τ1 := (Stat.le (σ := σ) hst e1)
      show pR mX1_takeTurns d 27 [(2, 50), (0, x1), (0, x2), (0, x3), (0, x4), (0, x5), u6] [(0, v1), (0, x4)] τ1 Q
      refine pGo (s_isub dX1_takeTurns_27) ?_
      refine pGoL (ls2 := [(2, 50), (0, x1), (0, x2), (0, x3), (0, (x4 - v1)), (0, x5), u6]) (s_istore dX1_takeTurns_28 (by decide) rfl) rfl ?_
      refine pGo (s_iload dX1_takeTurns_30 rfl) ?_
      refine p_ifle (tgt := 113) dX1_takeTurns_32 (by decide) (g4 c2 c4 v1 τ1 e1 q1) (fun c5 => ?_) (fun c6 => ?_)
      · refine pGoL (ls2 := [(2, 50), (0, x1), (0, x2), (0, x3), (0, (x4 - v1)), (0, (x5 + 1)), u6]) (s_iinc dX1_takeTurns_113 (by decide) rfl rfl) rfl ?_
        refine pGo (s_goto (tgt := 6) dX1_takeTurns_116 (by decide)) ?_
        exact (k3 c2 c4 v1 τ1 e1 q1 c5)
      · refine pGo (s_aload_n dX1_takeTurns_35 rfl (by decide)) ?_
        refine pGo (s_iload_n dX1_takeTurns_36 rfl) ?_
        refine pGo (s_aload_n dX1_takeTurns_37 rfl (by decide)) ?_
        refine pGoE (y := 58) (s_getF pc1 fl_X1_33 dX1_takeTurns_38 (ob_50 S1) rfl (by decide)) (by decide) ?_
        refine pGo (s_iload_n dX1_takeTurns_41 rfl) ?_
        refine pGoE (y := (rd τ1 58 x1)) (s_iald dX1_takeTurns_42 (ob_58 S1) (bnd (g5 c2 c4 v1 τ1 e1 q1 c6))) rfl ?_
        refine pGo (s_iconst dX1_takeTurns_43) ?_
        refine pGo (s_iload_n dX1_takeTurns_44 rfl) ?_
        refine p_callV (As := [(0, x1), (0, (rd τ1 58 x1)), (0, 1), (0, x3)]) (st := []) (n := 4) (d' := 3) (Q1 := Q2) pc1 ok_X1_takeable ml_X1_124 im_X1_takeable se_X1_takeable dX1_takeTurns_45 (ob_50 S1) (pargs_of rfl) rfl (Nat.le_of_ble_eq_true rfl) (by omega) (f2 c2 c4 v1 τ1 e1 q1 c6) (fun r2 τ2 e2 q2 w2 => ?_)
        obtain ⟨v2, rfl⟩ := w2
        have S2 : Stat τ2 := (Stat.le (σ := τ1) S1 e2)
        show pR mX1_takeTurns d 48 [(2, 50), (0, x1), (0, x2), (0, x3), (0, (x4 - v1)), (0, x5), u6] [(0, v2)] τ2 Q
        refine pGoL (ls2 := [(2, 50), (0, x1), (0, x2), (0, x3), (0, (x4 - v1)), (0, x5), (0, v2)]) (s_istore dX1_takeTurns_48 (by decide) rfl) rfl ?_
        refine pGo (s_iload dX1_takeTurns_50 rfl) ?_
        refine pGo (s_iconst dX1_takeTurns_52) ?_
        refine p_icne (tgt := 59) dX1_takeTurns_53 (by decide) (g6 c2 c4 v1 τ1 e1 q1 c6 v2 τ2 e2 q2) (by decide) (fun c7 => ?_) (fun c8 => ?_)
        · refine pGo (s_aload_n dX1_takeTurns_59 rfl (by decide)) ?_
          refine pGo (s_aload_n dX1_takeTurns_60 rfl (by decide)) ?_
          refine pGoE (y := 44) (s_getF pc1 fl_X1_42 dX1_takeTurns_61 (ob_50 S2) rfl (by decide)) (by decide) ?_
          refine pGoE (y := 47) (s_getF pc0 fl_X1_128 dX1_takeTurns_64 (ob_44 S2) rfl (by decide)) (by decide) ?_
          refine pGo (s_iload_n dX1_takeTurns_67 rfl) ?_
          refine pGo (s_bipush dX1_takeTurns_68 (by decide)) ?_
          refine pGo (s_imul dX1_takeTurns_70) ?_
          refine pGo (s_iload dX1_takeTurns_71 rfl) ?_
          refine pGo (s_iadd dX1_takeTurns_73) ?_
          refine pGoE (y := (rd τ2 47 ((x1 * 6) + v2))) (s_iald dX1_takeTurns_74 (ob_47 S2) (bnd (g7 c2 c4 v1 τ1 e1 q1 c6 v2 τ2 e2 q2 c7))) rfl ?_
          refine pGo (s_iconst dX1_takeTurns_75) ?_
          refine pGo (s_iload_n dX1_takeTurns_76 rfl) ?_
          refine p_callV (As := [(0, (rd τ2 47 ((x1 * 6) + v2))), (0, 1), (0, x3)]) (st := []) (n := 3) (d' := 1) (Q1 := Q3) pc1 ok_X1_take ml_X1_131 im_X1_take se_X1_take dX1_takeTurns_77 (ob_50 S2) (pargs_of rfl) rfl (Nat.le_of_ble_eq_true rfl) (by omega) (f3 c2 c4 v1 τ1 e1 q1 c6 v2 τ2 e2 q2 c7) (fun r3 τ3 e3 q3 w3 => ?_)
          obtain rfl : r3 = none := w3
          have S3 : Stat τ3 := (Stat.le (σ := τ2) S2 e3)
          show pR mX1_takeTurns d 80 [(2, 50), (0, x1), (0, x2), (0, x3), (0, (x4 - v1)), (0, x5), (0, v2)] [] τ3 Q
          refine pGo (s_aload_n dX1_takeTurns_80 rfl (by decide)) ?_
          refine pGoE (y := 58) (s_getF pc1 fl_X1_33 dX1_takeTurns_81 (ob_50 S3) rfl (by decide)) (by decide) ?_
          refine pGo (s_iload_n dX1_takeTurns_84 rfl) ?_
          refine pGo (s_iload dX1_takeTurns_85 rfl) ?_
          refine pGo (s_iconst dX1_takeTurns_87) ?_
          refine pGo (s_iadd dX1_takeTurns_88) ?_
          refine pGo (s_aload_n dX1_takeTurns_89 rfl (by decide)) ?_
          refine pGoE (y := 44) (s_getF pc1 fl_X1_42 dX1_takeTurns_90 (ob_50 S3) rfl (by decide)) (by decide) ?_
          refine pGoE (y := 48) (s_getF pc0 fl_X1_135 dX1_takeTurns_93 (ob_44 S3) rfl (by decide)) (by decide) ?_
          refine pGo (s_iload_n dX1_takeTurns_96 rfl) ?_
          refine pGoE (y := (rd τ3 48 x1)) (s_iald dX1_takeTurns_97 (ob_48 S3) (bnd (g5 c2 c4 v1 τ1 e1 q1 c6))) rfl ?_
          refine p_icge (tgt := 108) dX1_takeTurns_98 (by decide) (g8 c2 c4 v1 τ1 e1 q1 c6 v2 τ2 e2 q2 c7 τ3 e3 q3) (g9 c2 c4 v1 τ1 e1 q1 c6 v2 τ2 e2 q2 c7 τ3 e3 q3) (fun c9 => ?_) (fun c10 => ?_)
          · refine pGo (s_iconst dX1_takeTurns_108) ?_
            refine pGo (s_iast dX1_takeTurns_109 (ob_58 S3) (bnd (g5 c2 c4 v1 τ1 e1 q1 c6))) ?_
            refine pGoL (ls2 := [(2, 50), (0, x1), (0, x2), (0, x3), (0, ((x4 - v1) + (-1))), (0, x5), (0, v2)]) (s_iinc dX1_takeTurns_110 (by decide) rfl rfl) rfl ?_
            refine pGoL (ls2 := [(2, 50), (0, x1), (0, x2), (0, x3), (0, ((x4 - v1) + (-1))), (0, (x5 + 1)), (0, v2)]) (s_iinc dX1_takeTurns_113 (by decide) rfl rfl) rfl ?_
            refine pGo (s_goto (tgt := 6) dX1_takeTurns_116 (by decide)) ?_
            exact (k4 c2 c4 v1 τ1 e1 q1 c6 v2 τ2 e2 q2 c7 τ3 e3 q3 c9)
          · refine pGo (s_iload dX1_takeTurns_101 rfl) ?_
            refine pGo (s_iconst dX1_takeTurns_103) ?_
            refine pGo (s_iadd dX1_takeTurns_104) ?_
            refine pGo (s_goto (tgt := 109) dX1_takeTurns_105 (by decide)) ?_
            refine pGo (s_iast dX1_takeTurns_109 (ob_58 S3) (bnd (g5 c2 c4 v1 τ1 e1 q1 c6))) ?_
            refine pGoL (ls2 := [(2, 50), (0, x1), (0, x2), (0, x3), (0, ((x4 - v1) + (-1))), (0, x5), (0, v2)]) (s_iinc dX1_takeTurns_110 (by decide) rfl rfl) rfl ?_
            refine pGoL (ls2 := [(2, 50), (0, x1), (0, x2), (0, x3), (0, ((x4 - v1) + (-1))), (0, (x5 + 1)), (0, v2)]) (s_iinc dX1_takeTurns_113 (by decide) rfl rfl) rfl ?_
            refine pGo (s_goto (tgt := 6) dX1_takeTurns_116 (by decide)) ?_
            exact (k5 c2 c4 v1 τ1 e1 q1 c6 v2 τ2 e2 q2 c7 τ3 e3 q3 c10)
        · refine pGo (s_iload dX1_takeTurns_56 rfl) ?_
          exact pEnd (r := (some (0, (x4 - v1)))) dX1_takeTurns_58 ⟨_, rfl⟩ (k6 c2 c4 v1 τ1 e1 q1 c6 v2 τ2 e2 q2 c8)
set_option maxRecDepth 100000 in
theorem g_X1_letOn_0 {d : Nat} {σ : pS} {Q : Option pV → pS → Prop} {Q1 : Option pV → pS → Prop} (hd : 3 ≤ d) (hst : Stat σ) (x1 : Int) (x2 : Int)  (f1 : pC mX3_isOpen 2 [(2, 35), (0, x1), (0, x2)] σ (fun r τ => r = some (0, b2i (vOpenX σ x1 x2)) ∧ τ = σ)) (g1 : ∀ (c1 : (vOpenX σ x1 x2) = false), Inst6 σ (rd σ 35 4)) (g2 : ∀ (c1 : (vOpenX σ x1 x2) = false), 0 ≤ x1 ∧ x1 < 17) (g3 : ∀ (c1 : (vOpenX σ x1 x2) = false), inR (x2 + 1)) (g4 : ∀ (c1 : (vOpenX σ x1 x2) = false), inR (rd σ ((rd σ 35 4) + 7) x1)) (g5 : ∀ (c1 : (vOpenX σ x1 x2) = false) (c3 : (x2 + 1) ≠ (rd σ ((rd σ 35 4) + 7) x1)), inR (rd σ 55 x1)) (g6 : ∀ (c1 : (vOpenX σ x1 x2) = false) (c3 : (x2 + 1) ≠ (rd σ ((rd σ 35 4) + 7) x1)), inR (rd σ 59 x1)) (k1 : ∀ (c1 : (vOpenX σ x1 x2) = false) (c3 : (x2 + 1) ≠ (rd σ ((rd σ 35 4) + 7) x1)), Q none (wr σ 55 x1 (max (rd σ 55 x1) (rd σ 59 x1)))) (g7 : ∀ (c1 : (vOpenX σ x1 x2) = false) (c4 : (x2 + 1) = (rd σ ((rd σ 35 4) + 7) x1)), 0 ≤ (rd σ ((rd σ 35 4) + 2) x1) ∧ (rd σ ((rd σ 35 4) + 2) x1) < 10) (g8 : ∀ (c1 : (vOpenX σ x1 x2) = false) (c4 : (x2 + 1) = (rd σ ((rd σ 35 4) + 7) x1)), inR (rd σ 55 x1)) (k2 : ∀ (c1 : (vOpenX σ x1 x2) = false) (c4 : (x2 + 1) = (rd σ ((rd σ 35 4) + 7) x1)), Q none (wr (wr (wr σ 57 (rd σ ((rd σ 35 4) + 2) x1) ((rd σ 57 (rd σ ((rd σ 35 4) + 2) x1)) + (rd σ 59 x1))) 59 x1 0) 55 x1 (max (rd σ 55 x1) 0))) (g9 : ∀ (c2 : (vOpenX σ x1 x2) = true), 0 ≤ x1 ∧ x1 < 17) (g10 : ∀ (c2 : (vOpenX σ x1 x2) = true), Inst6 σ (rd σ 35 4)) (g11 : ∀ (c2 : (vOpenX σ x1 x2) = true), 0 ≤ x1 ∧ x1 < 6) (g12 : ∀ (c2 : (vOpenX σ x1 x2) = true), inR (rd σ 59 x1)) (g13 : ∀ (c2 : (vOpenX σ x1 x2) = true), inR (rd σ ((rd σ 35 4) + 5) x1)) (f2 : ∀ (c2 : (vOpenX σ x1 x2) = true), pC mX1_start 0 [(2, 50), (0, x1), (0, (min (rd σ 59 x1) (rd σ ((rd σ 35 4) + 5) x1))), (0, x2)] (wr σ 59 x1 ((rd σ 59 x1) - (min (rd σ 59 x1) (rd σ ((rd σ 35 4) + 5) x1)))) Q1) (g14 : ∀ (c2 : (vOpenX σ x1 x2) = true) (τ2 : pS) (e2 : pLe (wr σ 59 x1 ((rd σ 59 x1) - (min (rd σ 59 x1) (rd σ ((rd σ 35 4) + 5) x1)))) τ2) (q2 : Q1 none τ2), Inst6 τ2 (rd τ2 35 4)) (g15 : ∀ (c2 : (vOpenX σ x1 x2) = true) (τ2 : pS) (e2 : pLe (wr σ 59 x1 ((rd σ 59 x1) - (min (rd σ 59 x1) (rd σ ((rd σ 35 4) + 5) x1)))) τ2) (q2 : Q1 none τ2), inR (x2 + 1)) (g16 : ∀ (c2 : (vOpenX σ x1 x2) = true) (τ2 : pS) (e2 : pLe (wr σ 59 x1 ((rd σ 59 x1) - (min (rd σ 59 x1) (rd σ ((rd σ 35 4) + 5) x1)))) τ2) (q2 : Q1 none τ2), inR (rd τ2 ((rd τ2 35 4) + 7) x1)) (g17 : ∀ (c2 : (vOpenX σ x1 x2) = true) (τ2 : pS) (e2 : pLe (wr σ 59 x1 ((rd σ 59 x1) - (min (rd σ 59 x1) (rd σ ((rd σ 35 4) + 5) x1)))) τ2) (q2 : Q1 none τ2) (c5 : (x2 + 1) ≠ (rd τ2 ((rd τ2 35 4) + 7) x1)), inR (rd τ2 55 x1)) (g18 : ∀ (c2 : (vOpenX σ x1 x2) = true) (τ2 : pS) (e2 : pLe (wr σ 59 x1 ((rd σ 59 x1) - (min (rd σ 59 x1) (rd σ ((rd σ 35 4) + 5) x1)))) τ2) (q2 : Q1 none τ2) (c5 : (x2 + 1) ≠ (rd τ2 ((rd τ2 35 4) + 7) x1)), inR (rd τ2 59 x1)) (k3 : ∀ (c2 : (vOpenX σ x1 x2) = true) (τ2 : pS) (e2 : pLe (wr σ 59 x1 ((rd σ 59 x1) - (min (rd σ 59 x1) (rd σ ((rd σ 35 4) + 5) x1)))) τ2) (q2 : Q1 none τ2) (c5 : (x2 + 1) ≠ (rd τ2 ((rd τ2 35 4) + 7) x1)), Q none (wr τ2 55 x1 (max (rd τ2 55 x1) (rd τ2 59 x1)))) (g19 : ∀ (c2 : (vOpenX σ x1 x2) = true) (τ2 : pS) (e2 : pLe (wr σ 59 x1 ((rd σ 59 x1) - (min (rd σ 59 x1) (rd σ ((rd σ 35 4) + 5) x1)))) τ2) (q2 : Q1 none τ2) (c6 : (x2 + 1) = (rd τ2 ((rd τ2 35 4) + 7) x1)), 0 ≤ (rd τ2 ((rd τ2 35 4) + 2) x1) ∧ (rd τ2 ((rd τ2 35 4) + 2) x1) < 10) (g20 : ∀ (c2 : (vOpenX σ x1 x2) = true) (τ2 : pS) (e2 : pLe (wr σ 59 x1 ((rd σ 59 x1) - (min (rd σ 59 x1) (rd σ ((rd σ 35 4) + 5) x1)))) τ2) (q2 : Q1 none τ2) (c6 : (x2 + 1) = (rd τ2 ((rd τ2 35 4) + 7) x1)), inR (rd τ2 55 x1)) (k4 : ∀ (c2 : (vOpenX σ x1 x2) = true) (τ2 : pS) (e2 : pLe (wr σ 59 x1 ((rd σ 59 x1) - (min (rd σ 59 x1) (rd σ ((rd σ 35 4) + 5) x1)))) τ2) (q2 : Q1 none τ2) (c6 : (x2 + 1) = (rd τ2 ((rd τ2 35 4) + 7) x1)), Q none (wr (wr (wr τ2 57 (rd τ2 ((rd τ2 35 4) + 2) x1) ((rd τ2 57 (rd τ2 ((rd τ2 35 4) + 2) x1)) + (rd τ2 59 x1))) 59 x1 0) 55 x1 (max (rd τ2 55 x1) 0))) : pC mX1_letOn d [(2, 50), (0, x1), (0, x2)] σ Q := by
  show pR mX1_letOn d 0 [(2, 50), (0, x1), (0, x2), (9, 0)] [] σ Q
  refine pGo (s_aload_n dX1_letOn_0 rfl (by decide)) ?_
  refine pGoE (y := 35) (s_getF pc1 fl_X1_46 dX1_letOn_1 (ob_50 hst) rfl (by decide)) (by decide) ?_
  refine pGo (s_iload_n dX1_letOn_4 rfl) ?_
  refine pGo (s_iload_n dX1_letOn_5 rfl) ?_
  refine p_callV (As := [(0, x1), (0, x2)]) (st := []) (n := 2) (d' := 2) (Q1 := (fun r τ => r = some (0, b2i (vOpenX σ x1 x2)) ∧ τ = σ)) pc3 ok_X3_isOpen ml_X1_167 im_X3_isOpen se_X3_isOpen dX1_letOn_6 (ob_35 hst) (pargs_of rfl) rfl (Nat.le_of_ble_eq_true rfl) (by omega) f1 (fun r1 τ1 e1 q1 w1 => ?_)
  obtain ⟨rfl, t1⟩ := q1
  rw [t1]
  show pR mX1_letOn d 9 [(2, 50), (0, x1), (0, x2), (9, 0)] [(0, (b2i (vOpenX σ x1 x2)))] σ Q
  refine p_ifeqB (tgt := 51) dX1_letOn_9 (by decide) (fun c1 => ?_) (fun c2 => ?_)
  · refine pGo (s_iload_n dX1_letOn_51 rfl) ?_
    refine pGo (s_iconst dX1_letOn_52) ?_
    refine pGo (s_iadd dX1_letOn_53) ?_
    refine pGo (s_aload_n dX1_letOn_54 rfl (by decide)) ?_
    refine pGoE (y := 35) (s_getF pc1 fl_X1_46 dX1_letOn_55 (ob_50 hst) rfl (by decide)) (by decide) ?_
    refine pGoE (y := (rd σ 35 4)) (s_getR pc3 fl_X1_61 dX1_letOn_58 (ob_35 hst) rfl rfl) rfl ?_
    refine pGo (s_getF pc6 fl_X1_155 dX1_letOn_61 (g1 c1).o0 rfl (by decide)) ?_
    refine pGo (s_iload_n dX1_letOn_64 rfl) ?_
    refine pGoE (y := (rd σ ((rd σ 35 4) + 7) x1)) (s_iald dX1_letOn_65 (g1 c1).o7 (bnd (g2 c1))) rfl ?_
    refine p_icne (tgt := 102) dX1_letOn_66 (by decide) (g3 c1) (g4 c1) (fun c3 => ?_) (fun c4 => ?_)
    · refine pGo (s_aload_n dX1_letOn_102 rfl (by decide)) ?_
      refine pGoE (y := 55) (s_getF pc1 fl_X1_24 dX1_letOn_103 (ob_50 hst) rfl (by decide)) (by decide) ?_
      refine pGo (s_iload_n dX1_letOn_106 rfl) ?_
      refine pGo (s_aload_n dX1_letOn_107 rfl (by decide)) ?_
      refine pGoE (y := 55) (s_getF pc1 fl_X1_24 dX1_letOn_108 (ob_50 hst) rfl (by decide)) (by decide) ?_
      refine pGo (s_iload_n dX1_letOn_111 rfl) ?_
      refine pGoE (y := (rd σ 55 x1)) (s_iald dX1_letOn_112 (ob_55 hst) (bnd (g2 c1))) rfl ?_
      refine pGo (s_aload_n dX1_letOn_113 rfl (by decide)) ?_
      refine pGoE (y := 59) (s_getF pc1 fl_X1_36 dX1_letOn_114 (ob_50 hst) rfl (by decide)) (by decide) ?_
      refine pGo (s_iload_n dX1_letOn_117 rfl) ?_
      refine pGoE (y := (rd σ 59 x1)) (s_iald dX1_letOn_118 (ob_59 hst) (bnd (g2 c1))) rfl ?_
      refine pGo (s_mmax (by omega) mj_X1_176 (Nat.le_of_ble_eq_true rfl) dX1_letOn_119 (g5 c1 c3) (g6 c1 c3)) ?_
      refine pGo (s_iast dX1_letOn_122 (ob_55 hst) (bnd (g2 c1))) ?_
      exact pEnd (r := none) dX1_letOn_123 rfl (k1 c1 c3)
    · refine pGo (s_aload_n dX1_letOn_69 rfl (by decide)) ?_
      refine pGoE (y := 57) (s_getF pc1 fl_X1_30 dX1_letOn_70 (ob_50 hst) rfl (by decide)) (by decide) ?_
      refine pGo (s_aload_n dX1_letOn_73 rfl (by decide)) ?_
      refine pGoE (y := 35) (s_getF pc1 fl_X1_46 dX1_letOn_74 (ob_50 hst) rfl (by decide)) (by decide) ?_
      refine pGoE (y := (rd σ 35 4)) (s_getR pc3 fl_X1_61 dX1_letOn_77 (ob_35 hst) rfl rfl) rfl ?_
      refine pGo (s_getF pc6 fl_X1_173 dX1_letOn_80 (g1 c1).o0 rfl (by decide)) ?_
      refine pGo (s_iload_n dX1_letOn_83 rfl) ?_
      refine pGoE (y := (rd σ ((rd σ 35 4) + 2) x1)) (s_iald dX1_letOn_84 (g1 c1).o2 (bnd (g2 c1))) rfl ?_
      refine pGo (s_dup2 dX1_letOn_85 (show (0 : Nat) ≠ 1 by decide) (show (2 : Nat) ≠ 1 by decide)) ?_
      refine pGoE (y := (rd σ 57 (rd σ ((rd σ 35 4) + 2) x1))) (s_iald dX1_letOn_86 (ob_57 hst) (bnd (g7 c1 c4))) rfl ?_
      refine pGo (s_aload_n dX1_letOn_87 rfl (by decide)) ?_
      refine pGoE (y := 59) (s_getF pc1 fl_X1_36 dX1_letOn_88 (ob_50 hst) rfl (by decide)) (by decide) ?_
      refine pGo (s_iload_n dX1_letOn_91 rfl) ?_
      refine pGoE (y := (rd σ 59 x1)) (s_iald dX1_letOn_92 (ob_59 hst) (bnd (g2 c1))) rfl ?_
      refine pGo (s_iadd dX1_letOn_93) ?_
      refine pGo (s_iast dX1_letOn_94 (ob_57 hst) (bnd (g7 c1 c4))) ?_
      refine pGo (s_aload_n dX1_letOn_95 rfl (by decide)) ?_
      refine pGoE (y := 59) (s_getF pc1 fl_X1_36 dX1_letOn_96 (ob_50 hst) rfl (by decide)) (by decide) ?_
      refine pGo (s_iload_n dX1_letOn_99 rfl) ?_
      refine pGo (s_iconst dX1_letOn_100) ?_
      refine pGo (s_iast dX1_letOn_101 (ob_59 hst) (bnd (g2 c1))) ?_
      refine pGo (s_aload_n dX1_letOn_102 rfl (by decide)) ?_
      refine pGoE (y := 55) (s_getF pc1 fl_X1_24 dX1_letOn_103 (ob_50 hst) rfl (by decide)) (by decide) ?_
      refine pGo (s_iload_n dX1_letOn_106 rfl) ?_
      refine pGo (s_aload_n dX1_letOn_107 rfl (by decide)) ?_
      refine pGoE (y := 55) (s_getF pc1 fl_X1_24 dX1_letOn_108 (ob_50 hst) rfl (by decide)) (by decide) ?_
      refine pGo (s_iload_n dX1_letOn_111 rfl) ?_
      refine pGoE (y := (rd σ 55 x1)) (s_iald dX1_letOn_112 (ob_55 hst) (bnd (g2 c1))) ((rd_wr_a _ (by decide)).trans (rd_wr_a _ (by decide))) ?_
      refine pGo (s_aload_n dX1_letOn_113 rfl (by decide)) ?_
      refine pGoE (y := 59) (s_getF pc1 fl_X1_36 dX1_letOn_114 (ob_50 hst) rfl (by decide)) (by decide) ?_
      refine pGo (s_iload_n dX1_letOn_117 rfl) ?_
      refine pGoE (y := 0) (s_iald dX1_letOn_118 (ob_59 hst) (bnd (g2 c1))) (rd_wr_same _ _ _ _) ?_
      refine pGo (s_mmax (by omega) mj_X1_176 (Nat.le_of_ble_eq_true rfl) dX1_letOn_119 (g8 c1 c4) (by decide)) ?_
      refine pGo (s_iast dX1_letOn_122 (ob_55 hst) (bnd (g2 c1))) ?_
      exact pEnd (r := none) dX1_letOn_123 rfl (k2 c1 c4)
  · refine pGo (s_aload_n dX1_letOn_12 rfl (by decide)) ?_
    refine pGoE (y := 59) (s_getF pc1 fl_X1_36 dX1_letOn_13 (ob_50 hst) rfl (by decide)) (by decide) ?_
    refine pGo (s_iload_n dX1_letOn_16 rfl) ?_
    refine pGoE (y := (rd σ 59 x1)) (s_iald dX1_letOn_17 (ob_59 hst) (bnd (g9 c2))) rfl ?_
    refine pGo (s_aload_n dX1_letOn_18 rfl (by decide)) ?_
    refine pGoE (y := 35) (s_getF pc1 fl_X1_46 dX1_letOn_19 (ob_50 hst) rfl (by decide)) (by decide) ?_
    refine pGoE (y := (rd σ 35 4)) (s_getR pc3 fl_X1_61 dX1_letOn_22 (ob_35 hst) rfl rfl) rfl ?_
    refine pGo (s_getF pc6 fl_X1_170 dX1_letOn_25 (g10 c2).o0 rfl (by decide)) ?_
    refine pGo (s_iload_n dX1_letOn_28 rfl) ?_
    refine pGoE (y := (rd σ ((rd σ 35 4) + 5) x1)) (s_iald dX1_letOn_29 (g10 c2).o5 (bnd (g11 c2))) rfl ?_
    refine pGo (s_mmin (by omega) mj_X1_146 (Nat.le_of_ble_eq_true rfl) dX1_letOn_30 (g12 c2) (g13 c2)) ?_
    refine pGoL (ls2 := [(2, 50), (0, x1), (0, x2), (0, (min (rd σ 59 x1) (rd σ ((rd σ 35 4) + 5) x1)))]) (s_istore_n dX1_letOn_33 (by decide) rfl) rfl ?_
    refine pGo (s_aload_n dX1_letOn_34 rfl (by decide)) ?_
    refine pGoE (y := 59) (s_getF pc1 fl_X1_36 dX1_letOn_35 (ob_50 hst) rfl (by decide)) (by decide) ?_
    refine pGo (s_iload_n dX1_letOn_38 rfl) ?_
    refine pGo (s_dup2 dX1_letOn_39 (show (0 : Nat) ≠ 1 by decide) (show (2 : Nat) ≠ 1 by decide)) ?_
    refine pGoE (y := (rd σ 59 x1)) (s_iald dX1_letOn_40 (ob_59 hst) (bnd (g9 c2))) rfl ?_
    refine pGo (s_iload_n dX1_letOn_41 rfl) ?_
    refine pGo (s_isub dX1_letOn_42) ?_
    refine pGo (s_iast dX1_letOn_43 (ob_59 hst) (bnd (g9 c2))) ?_
    refine pGo (s_aload_n dX1_letOn_44 rfl (by decide)) ?_
    refine pGo (s_iload_n dX1_letOn_45 rfl) ?_
    refine pGo (s_iload_n dX1_letOn_46 rfl) ?_
    refine pGo (s_iload_n dX1_letOn_47 rfl) ?_
    refine p_callV (As := [(0, x1), (0, (min (rd σ 59 x1) (rd σ ((rd σ 35 4) + 5) x1))), (0, x2)]) (st := []) (n := 3) (d' := 0) (Q1 := Q1) pc1 ok_X1_start ml_X1_158 im_X1_start se_X1_start dX1_letOn_48 (ob_50 hst) (pargs_of rfl) rfl (Nat.le_of_ble_eq_true rfl) (by omega) (f2 c2) (fun r2 τ2 e2 q2 w2 => ?_)
    obtain rfl : r2 = none := w2
    have S2 : Stat τ2 := (Stat.le (σ := (wr σ 59 x1 ((rd σ 59 x1) - (min (rd σ 59 x1) (rd σ ((rd σ 35 4) + 5) x1))))) hst e2)
    have J2_0 : Inst6 τ2 (rd σ 35 4) := Inst6.le (σ := (wr σ 59 x1 ((rd σ 59 x1) - (min (rd σ 59 x1) (rd σ ((rd σ 35 4) + 5) x1))))) (g10 c2) e2
    show pR mX1_letOn d 51 [(2, 50), (0, x1), (0, x2), (0, (min (rd σ 59 x1) (rd σ ((rd σ 35 4) + 5) x1)))] [] τ2 Q
    refine pGo (s_iload_n dX1_letOn_51 rfl) ?_
    refine pGo (s_iconst dX1_letOn_52) ?_
    refine pGo (s_iadd dX1_letOn_53) ?_
    refine pGo (s_aload_n dX1_letOn_54 rfl (by decide)) ?_
    refine pGoE (y := 35) (s_getF pc1 fl_X1_46 dX1_letOn_55 (ob_50 S2) rfl (by decide)) (by decide) ?_
    refine pGoE (y := (rd τ2 35 4)) (s_getR pc3 fl_X1_61 dX1_letOn_58 (ob_35 S2) rfl rfl) rfl ?_
    refine pGo (s_getF pc6 fl_X1_155 dX1_letOn_61 (g14 c2 τ2 e2 q2).o0 rfl (by decide)) ?_
    refine pGo (s_iload_n dX1_letOn_64 rfl) ?_
    refine pGoE (y := (rd τ2 ((rd τ2 35 4) + 7) x1)) (s_iald dX1_letOn_65 (g14 c2 τ2 e2 q2).o7 (bnd (g9 c2))) rfl ?_
    refine p_icne (tgt := 102) dX1_letOn_66 (by decide) (g15 c2 τ2 e2 q2) (g16 c2 τ2 e2 q2) (fun c5 => ?_) (fun c6 => ?_)
    · refine pGo (s_aload_n dX1_letOn_102 rfl (by decide)) ?_
      refine pGoE (y := 55) (s_getF pc1 fl_X1_24 dX1_letOn_103 (ob_50 S2) rfl (by decide)) (by decide) ?_
      refine pGo (s_iload_n dX1_letOn_106 rfl) ?_
      refine pGo (s_aload_n dX1_letOn_107 rfl (by decide)) ?_
      refine pGoE (y := 55) (s_getF pc1 fl_X1_24 dX1_letOn_108 (ob_50 S2) rfl (by decide)) (by decide) ?_
      refine pGo (s_iload_n dX1_letOn_111 rfl) ?_
      refine pGoE (y := (rd τ2 55 x1)) (s_iald dX1_letOn_112 (ob_55 S2) (bnd (g9 c2))) rfl ?_
      refine pGo (s_aload_n dX1_letOn_113 rfl (by decide)) ?_
      refine pGoE (y := 59) (s_getF pc1 fl_X1_36 dX1_letOn_114 (ob_50 S2) rfl (by decide)) (by decide) ?_
      refine pGo (s_iload_n dX1_letOn_117 rfl) ?_
      refine pGoE (y := (rd τ2 59 x1)) (s_iald dX1_letOn_118 (ob_59 S2) (bnd (g9 c2))) rfl ?_
      refine pGo (s_mmax (by omega) mj_X1_176 (Nat.le_of_ble_eq_true rfl) dX1_letOn_119 (g17 c2 τ2 e2 q2 c5) (g18 c2 τ2 e2 q2 c5)) ?_
      refine pGo (s_iast dX1_letOn_122 (ob_55 S2) (bnd (g9 c2))) ?_
      exact pEnd (r := none) dX1_letOn_123 rfl (k3 c2 τ2 e2 q2 c5)
    · refine pGo (s_aload_n dX1_letOn_69 rfl (by decide)) ?_
      refine pGoE (y := 57) (s_getF pc1 fl_X1_30 dX1_letOn_70 (ob_50 S2) rfl (by decide)) (by decide) ?_
      refine pGo (s_aload_n dX1_letOn_73 rfl (by decide)) ?_
      refine pGoE (y := 35) (s_getF pc1 fl_X1_46 dX1_letOn_74 (ob_50 S2) rfl (by decide)) (by decide) ?_
      refine pGoE (y := (rd τ2 35 4)) (s_getR pc3 fl_X1_61 dX1_letOn_77 (ob_35 S2) rfl rfl) rfl ?_
      refine pGo (s_getF pc6 fl_X1_173 dX1_letOn_80 (g14 c2 τ2 e2 q2).o0 rfl (by decide)) ?_
      refine pGo (s_iload_n dX1_letOn_83 rfl) ?_
      refine pGoE (y := (rd τ2 ((rd τ2 35 4) + 2) x1)) (s_iald dX1_letOn_84 (g14 c2 τ2 e2 q2).o2 (bnd (g9 c2))) rfl ?_
      refine pGo (s_dup2 dX1_letOn_85 (show (0 : Nat) ≠ 1 by decide) (show (2 : Nat) ≠ 1 by decide)) ?_
      refine pGoE (y := (rd τ2 57 (rd τ2 ((rd τ2 35 4) + 2) x1))) (s_iald dX1_letOn_86 (ob_57 S2) (bnd (g19 c2 τ2 e2 q2 c6))) rfl ?_
      refine pGo (s_aload_n dX1_letOn_87 rfl (by decide)) ?_
      refine pGoE (y := 59) (s_getF pc1 fl_X1_36 dX1_letOn_88 (ob_50 S2) rfl (by decide)) (by decide) ?_
      refine pGo (s_iload_n dX1_letOn_91 rfl) ?_
      refine pGoE (y := (rd τ2 59 x1)) (s_iald dX1_letOn_92 (ob_59 S2) (bnd (g9 c2))) rfl ?_
      refine pGo (s_iadd dX1_letOn_93) ?_
      refine pGo (s_iast dX1_letOn_94 (ob_57 S2) (bnd (g19 c2 τ2 e2 q2 c6))) ?_
      refine pGo (s_aload_n dX1_letOn_95 rfl (by decide)) ?_
      refine pGoE (y := 59) (s_getF pc1 fl_X1_36 dX1_letOn_96 (ob_50 S2) rfl (by decide)) (by decide) ?_
      refine pGo (s_iload_n dX1_letOn_99 rfl) ?_
      refine pGo (s_iconst dX1_letOn_100) ?_
      refine pGo (s_iast dX1_letOn_101 (ob_59 S2) (bnd (g9 c2))) ?_
      refine pGo (s_aload_n dX1_letOn_102 rfl (by decide)) ?_
      refine pGoE (y := 55) (s_getF pc1 fl_X1_24 dX1_letOn_103 (ob_50 S2) rfl (by decide)) (by decide) ?_
      refine pGo (s_iload_n dX1_letOn_106 rfl) ?_
      refine pGo (s_aload_n dX1_letOn_107 rfl (by decide)) ?_
      refine pGoE (y := 55) (s_getF pc1 fl_X1_24 dX1_letOn_108 (ob_50 S2) rfl (by decide)) (by decide) ?_
      refine pGo (s_iload_n dX1_letOn_111 rfl) ?_
      refine pGoE (y := (rd τ2 55 x1)) (s_iald dX1_letOn_112 (ob_55 S2) (bnd (g9 c2))) ((rd_wr_a _ (by decide)).trans (rd_wr_a _ (by decide))) ?_
      refine pGo (s_aload_n dX1_letOn_113 rfl (by decide)) ?_
      refine pGoE (y := 59) (s_getF pc1 fl_X1_36 dX1_letOn_114 (ob_50 S2) rfl (by decide)) (by decide) ?_
      refine pGo (s_iload_n dX1_letOn_117 rfl) ?_
      refine pGoE (y := 0) (s_iald dX1_letOn_118 (ob_59 S2) (bnd (g9 c2))) (rd_wr_same _ _ _ _) ?_
      refine pGo (s_mmax (by omega) mj_X1_176 (Nat.le_of_ble_eq_true rfl) dX1_letOn_119 (g20 c2 τ2 e2 q2 c6) (by decide)) ?_
      refine pGo (s_iast dX1_letOn_122 (ob_55 S2) (bnd (g9 c2))) ?_
      exact pEnd (r := none) dX1_letOn_123 rfl (k4 c2 τ2 e2 q2 c6)
set_option maxRecDepth 100000 in
theorem g_X1_letSnow_0 {d : Nat} {σ : pS} {Q : Option pV → pS → Prop} (hd : 1 ≤ d) (hst : Stat σ) (x1 : Int)  (f1 : pC mX10_hourOf 0 [(0, x1)] σ (fun r τ => r = some (0, (vHour x1)) ∧ τ = σ)) (g1 : 0 ≤ x1 ∧ x1 < 2147483648) (g2 : inR (x1 % 60)) (k1 : ∀ (c1 : (x1 % 60) ≠ 0), pR mX1_letSnow d 21 [(2, 50), (0, x1), (0, (vHour x1)), (0, 0), (0, 0)] [] σ Q) (k2 : ∀ (c2 : (x1 % 60) = 0), pR mX1_letSnow d 21 [(2, 50), (0, x1), (0, (vHour x1)), (0, 1), (0, 0)] [] σ Q) : pC mX1_letSnow d [(2, 50), (0, x1)] σ Q := by
  show pR mX1_letSnow d 0 [(2, 50), (0, x1), (9, 0), (9, 0), (9, 0)] [] σ Q
  refine pGo (s_iload_n dX1_letSnow_0 rfl) ?_
  refine p_callS (As := [(0, x1)]) (st := []) (n := 1) (d' := 0) (Q1 := (fun r τ => r = some (0, (vHour x1)) ∧ τ = σ)) ok_X10_hourOf ml_X1_105 sm_X10_hourOf dX1_letSnow_1 (pargs_of rfl) rfl (Nat.le_of_ble_eq_true rfl) (by omega) f1 (fun r1 τ1 e1 q1 w1 => ?_)
  obtain ⟨rfl, t1⟩ := q1
  rw [t1]
  show pR mX1_letSnow d 4 [(2, 50), (0, x1), (9, 0), (9, 0), (9, 0)] [(0, (vHour x1))] σ Q
  refine pGoL (ls2 := [(2, 50), (0, x1), (0, (vHour x1)), (9, 0), (9, 0)]) (s_istore_n dX1_letSnow_4 (by decide) rfl) rfl ?_
  refine pGo (s_iload_n dX1_letSnow_5 rfl) ?_
  refine pGo (s_bipush dX1_letSnow_6 (by decide)) ?_
  refine pGo (s_iremp dX1_letSnow_8 g1 (by decide)) ?_
  refine p_ifne (tgt := 16) dX1_letSnow_9 (by decide) g2 (fun c1 => ?_) (fun c2 => ?_)
  · refine pGo (s_iconst dX1_letSnow_16) ?_
    refine pGoL (ls2 := [(2, 50), (0, x1), (0, (vHour x1)), (0, 0), (9, 0)]) (s_istore_n dX1_letSnow_17 (by decide) rfl) rfl ?_
    refine pGo (s_iconst dX1_letSnow_18) ?_
    refine pGoL (ls2 := [(2, 50), (0, x1), (0, (vHour x1)), (0, 0), (0, 0)]) (s_istore dX1_letSnow_19 (by decide) rfl) rfl ?_
    exact (k1 c1)
  · refine pGo (s_iconst dX1_letSnow_12) ?_
    refine pGo (s_goto (tgt := 17) dX1_letSnow_13 (by decide)) ?_
    refine pGoL (ls2 := [(2, 50), (0, x1), (0, (vHour x1)), (0, 1), (9, 0)]) (s_istore_n dX1_letSnow_17 (by decide) rfl) rfl ?_
    refine pGo (s_iconst dX1_letSnow_18) ?_
    refine pGoL (ls2 := [(2, 50), (0, x1), (0, (vHour x1)), (0, 1), (0, 0)]) (s_istore dX1_letSnow_19 (by decide) rfl) rfl ?_
    exact (k2 c2)
set_option maxRecDepth 100000 in
theorem g_X1_letSnow_21 {d : Nat} {σ : pS} {Q : Option pV → pS → Prop} (hd : 1 ≤ d) (hst : Stat σ) (x1 : Int) (x2 : Int) (x3 : Int) (x4 : Int)  (g1 : Inst6 σ (rd σ 35 4)) (g2 : inR x4) (g3 : inR (rd σ (rd σ 35 4) 1)) (k1 : ∀ (c1 : (rd σ (rd σ 35 4) 1) ≤ x4), Q none σ) (g4 : ∀ (c2 : x4 < (rd σ (rd σ 35 4) 1)), inR x3) (g5 : ∀ (c2 : x4 < (rd σ (rd σ 35 4) 1)) (c3 : x3 = 0), 0 ≤ x2 ∧ x2 < 8) (g6 : ∀ (c2 : x4 < (rd σ (rd σ 35 4) 1)) (c3 : x3 = 0), inR (rd σ 36 x2)) (k2 : ∀ (c2 : x4 < (rd σ (rd σ 35 4) 1)) (c3 : x3 = 0) (c5 : 30 ≤ (rd σ 36 x2)), pR mX1_letSnow d 21 [(2, 50), (0, x1), (0, x2), (0, x3), (0, (x4 + 1))] [] σ Q) (g7 : ∀ (c2 : x4 < (rd σ (rd σ 35 4) 1)) (c3 : x3 = 0) (c6 : (rd σ 36 x2) < 30), 0 ≤ (10 + x4) ∧ (10 + x4) < 17) (g8 : ∀ (c2 : x4 < (rd σ (rd σ 35 4) 1)) (c3 : x3 = 0) (c6 : (rd σ 36 x2) < 30), 0 ≤ x4 ∧ x4 < 7) (k3 : ∀ (c2 : x4 < (rd σ (rd σ 35 4) 1)) (c3 : x3 = 0) (c6 : (rd σ 36 x2) < 30), pR mX1_letSnow d 21 [(2, 50), (0, x1), (0, x2), (0, x3), (0, (x4 + 1))] [] (wr σ 60 (10 + x4) ((rd σ 60 (10 + x4)) + (rd σ 49 x4))) Q) (g9 : ∀ (c2 : x4 < (rd σ (rd σ 35 4) 1)) (c4 : x3 ≠ 0), 0 ≤ (10 + x4) ∧ (10 + x4) < 17) (g10 : ∀ (c2 : x4 < (rd σ (rd σ 35 4) 1)) (c4 : x3 ≠ 0), 0 ≤ x2 ∧ x2 < 8) (g11 : ∀ (c2 : x4 < (rd σ (rd σ 35 4) 1)) (c4 : x3 ≠ 0), inR (rd σ 36 x2)) (k4 : ∀ (c2 : x4 < (rd σ (rd σ 35 4) 1)) (c4 : x3 ≠ 0) (c7 : 30 ≤ (rd σ 36 x2)), pR mX1_letSnow d 21 [(2, 50), (0, x1), (0, x2), (0, x3), (0, (x4 + 1))] [] (wr σ 60 (10 + x4) ((rd σ 60 (10 + x4)) + ((rd σ 37 x2) * 10))) Q) (g12 : ∀ (c2 : x4 < (rd σ (rd σ 35 4) 1)) (c4 : x3 ≠ 0) (c8 : (rd σ 36 x2) < 30), 0 ≤ x4 ∧ x4 < 7) (k5 : ∀ (c2 : x4 < (rd σ (rd σ 35 4) 1)) (c4 : x3 ≠ 0) (c8 : (rd σ 36 x2) < 30), pR mX1_letSnow d 21 [(2, 50), (0, x1), (0, x2), (0, x3), (0, (x4 + 1))] [] (wr (wr σ 60 (10 + x4) ((rd σ 60 (10 + x4)) + ((rd σ 37 x2) * 10))) 60 (10 + x4) (((rd σ 60 (10 + x4)) + ((rd σ 37 x2) * 10)) + (rd σ 49 x4))) Q) : pR mX1_letSnow d 21 [(2, 50), (0, x1), (0, x2), (0, x3), (0, x4)] [] σ Q := by
  refine pGo (s_iload dX1_letSnow_21 rfl) ?_
  refine pGo (s_aload_n dX1_letSnow_23 rfl (by decide)) ?_
  refine pGoE (y := 35) (s_getF pc1 fl_X1_46 dX1_letSnow_24 (ob_50 hst) rfl (by decide)) (by decide) ?_
  refine pGoE (y := (rd σ 35 4)) (s_getR pc3 fl_X1_61 dX1_letSnow_27 (ob_35 hst) rfl rfl) rfl ?_
  refine pGoE (y := (rd σ (rd σ 35 4) 1)) (s_getI pc6 fl_X1_109 dX1_letSnow_30 g1.o0 rfl (by decide)) rfl ?_
  refine p_icge (tgt := 108) dX1_letSnow_33 (by decide) g2 g3 (fun c1 => ?_) (fun c2 => ?_)
  · exact pEnd (r := none) dX1_letSnow_108 rfl (k1 c1)
  · refine pGo (s_iload_n dX1_letSnow_36 rfl) ?_
    refine p_ifeq (tgt := 65) dX1_letSnow_37 (by decide) (g4 c2) (fun c3 => ?_) (fun c4 => ?_)
    · refine pGo (s_aload_n dX1_letSnow_65 rfl (by decide)) ?_
      refine pGoE (y := 35) (s_getF pc1 fl_X1_46 dX1_letSnow_66 (ob_50 hst) rfl (by decide)) (by decide) ?_
      refine pGoE (y := 36) (s_getF pc3 fl_X1_115 dX1_letSnow_69 (ob_35 hst) rfl (by decide)) (by decide) ?_
      refine pGo (s_iload_n dX1_letSnow_72 rfl) ?_
      refine pGoE (y := (rd σ 36 x2)) (s_iald dX1_letSnow_73 (ob_36 hst) (bnd (g5 c2 c3))) rfl ?_
      refine pGo (s_bipush dX1_letSnow_74 (by decide)) ?_
      refine p_icge (tgt := 102) dX1_letSnow_76 (by decide) (g6 c2 c3) (by decide) (fun c5 => ?_) (fun c6 => ?_)
      · refine pGoL (ls2 := [(2, 50), (0, x1), (0, x2), (0, x3), (0, (x4 + 1))]) (s_iinc dX1_letSnow_102 (by decide) rfl rfl) rfl ?_
        refine pGo (s_goto (tgt := 21) dX1_letSnow_105 (by decide)) ?_
        exact (k2 c2 c3 c5)
      · refine pGo (s_aload_n dX1_letSnow_79 rfl (by decide)) ?_
        refine pGoE (y := 60) (s_getF pc1 fl_X1_39 dX1_letSnow_80 (ob_50 hst) rfl (by decide)) (by decide) ?_
        refine pGo (s_bipush dX1_letSnow_83 (by decide)) ?_
        refine pGo (s_iload dX1_letSnow_85 rfl) ?_
        refine pGo (s_iadd dX1_letSnow_87) ?_
        refine pGo (s_dup2 dX1_letSnow_88 (show (0 : Nat) ≠ 1 by decide) (show (2 : Nat) ≠ 1 by decide)) ?_
        refine pGoE (y := (rd σ 60 (10 + x4))) (s_iald dX1_letSnow_89 (ob_60 hst) (bnd (g7 c2 c3 c6))) rfl ?_
        refine pGo (s_aload_n dX1_letSnow_90 rfl (by decide)) ?_
        refine pGoE (y := 44) (s_getF pc1 fl_X1_42 dX1_letSnow_91 (ob_50 hst) rfl (by decide)) (by decide) ?_
        refine pGoE (y := 49) (s_getF pc0 fl_X1_118 dX1_letSnow_94 (ob_44 hst) rfl (by decide)) (by decide) ?_
        refine pGo (s_iload dX1_letSnow_97 rfl) ?_
        refine pGoE (y := (rd σ 49 x4)) (s_iald dX1_letSnow_99 (ob_49 hst) (bnd (g8 c2 c3 c6))) rfl ?_
        refine pGo (s_iadd dX1_letSnow_100) ?_
        refine pGo (s_iast dX1_letSnow_101 (ob_60 hst) (bnd (g7 c2 c3 c6))) ?_
        refine pGoL (ls2 := [(2, 50), (0, x1), (0, x2), (0, x3), (0, (x4 + 1))]) (s_iinc dX1_letSnow_102 (by decide) rfl rfl) rfl ?_
        refine pGo (s_goto (tgt := 21) dX1_letSnow_105 (by decide)) ?_
        exact (k3 c2 c3 c6)
    · refine pGo (s_aload_n dX1_letSnow_40 rfl (by decide)) ?_
      refine pGoE (y := 60) (s_getF pc1 fl_X1_39 dX1_letSnow_41 (ob_50 hst) rfl (by decide)) (by decide) ?_
      refine pGo (s_bipush dX1_letSnow_44 (by decide)) ?_
      refine pGo (s_iload dX1_letSnow_46 rfl) ?_
      refine pGo (s_iadd dX1_letSnow_48) ?_
      refine pGo (s_dup2 dX1_letSnow_49 (show (0 : Nat) ≠ 1 by decide) (show (2 : Nat) ≠ 1 by decide)) ?_
      refine pGoE (y := (rd σ 60 (10 + x4))) (s_iald dX1_letSnow_50 (ob_60 hst) (bnd (g9 c2 c4))) rfl ?_
      refine pGo (s_aload_n dX1_letSnow_51 rfl (by decide)) ?_
      refine pGoE (y := 35) (s_getF pc1 fl_X1_46 dX1_letSnow_52 (ob_50 hst) rfl (by decide)) (by decide) ?_
      refine pGoE (y := 37) (s_getF pc3 fl_X1_112 dX1_letSnow_55 (ob_35 hst) rfl (by decide)) (by decide) ?_
      refine pGo (s_iload_n dX1_letSnow_58 rfl) ?_
      refine pGoE (y := (rd σ 37 x2)) (s_iald dX1_letSnow_59 (ob_37 hst) (bnd (g10 c2 c4))) rfl ?_
      refine pGo (s_bipush dX1_letSnow_60 (by decide)) ?_
      refine pGo (s_imul dX1_letSnow_62) ?_
      refine pGo (s_iadd dX1_letSnow_63) ?_
      refine pGo (s_iast dX1_letSnow_64 (ob_60 hst) (bnd (g9 c2 c4))) ?_
      refine pGo (s_aload_n dX1_letSnow_65 rfl (by decide)) ?_
      refine pGoE (y := 35) (s_getF pc1 fl_X1_46 dX1_letSnow_66 (ob_50 hst) rfl (by decide)) (by decide) ?_
      refine pGoE (y := 36) (s_getF pc3 fl_X1_115 dX1_letSnow_69 (ob_35 hst) rfl (by decide)) (by decide) ?_
      refine pGo (s_iload_n dX1_letSnow_72 rfl) ?_
      refine pGoE (y := (rd σ 36 x2)) (s_iald dX1_letSnow_73 (ob_36 hst) (bnd (g10 c2 c4))) (rd_wr_a _ (by decide)) ?_
      refine pGo (s_bipush dX1_letSnow_74 (by decide)) ?_
      refine p_icge (tgt := 102) dX1_letSnow_76 (by decide) (g11 c2 c4) (by decide) (fun c7 => ?_) (fun c8 => ?_)
      · refine pGoL (ls2 := [(2, 50), (0, x1), (0, x2), (0, x3), (0, (x4 + 1))]) (s_iinc dX1_letSnow_102 (by decide) rfl rfl) rfl ?_
        refine pGo (s_goto (tgt := 21) dX1_letSnow_105 (by decide)) ?_
        exact (k4 c2 c4 c7)
      · refine pGo (s_aload_n dX1_letSnow_79 rfl (by decide)) ?_
        refine pGoE (y := 60) (s_getF pc1 fl_X1_39 dX1_letSnow_80 (ob_50 hst) rfl (by decide)) (by decide) ?_
        refine pGo (s_bipush dX1_letSnow_83 (by decide)) ?_
        refine pGo (s_iload dX1_letSnow_85 rfl) ?_
        refine pGo (s_iadd dX1_letSnow_87) ?_
        refine pGo (s_dup2 dX1_letSnow_88 (show (0 : Nat) ≠ 1 by decide) (show (2 : Nat) ≠ 1 by decide)) ?_
        refine pGoE (y := ((rd σ 60 (10 + x4)) + ((rd σ 37 x2) * 10))) (s_iald dX1_letSnow_89 (ob_60 hst) (bnd (g9 c2 c4))) (rd_wr_same _ _ _ _) ?_
        refine pGo (s_aload_n dX1_letSnow_90 rfl (by decide)) ?_
        refine pGoE (y := 44) (s_getF pc1 fl_X1_42 dX1_letSnow_91 (ob_50 hst) rfl (by decide)) (by decide) ?_
        refine pGoE (y := 49) (s_getF pc0 fl_X1_118 dX1_letSnow_94 (ob_44 hst) rfl (by decide)) (by decide) ?_
        refine pGo (s_iload dX1_letSnow_97 rfl) ?_
        refine pGoE (y := (rd σ 49 x4)) (s_iald dX1_letSnow_99 (ob_49 hst) (bnd (g12 c2 c4 c8))) (rd_wr_a _ (by decide)) ?_
        refine pGo (s_iadd dX1_letSnow_100) ?_
        refine pGo (s_iast dX1_letSnow_101 (ob_60 hst) (bnd (g9 c2 c4))) ?_
        refine pGoL (ls2 := [(2, 50), (0, x1), (0, x2), (0, x3), (0, (x4 + 1))]) (s_iinc dX1_letSnow_102 (by decide) rfl rfl) rfl ?_
        refine pGo (s_goto (tgt := 21) dX1_letSnow_105 (by decide)) ?_
        exact (k5 c2 c4 c8)
set_option maxRecDepth 100000 in
theorem g_X1_begin_0 {d : Nat} {σ : pS} {Q : Option pV → pS → Prop} {Q1 : Option pV → pS → Prop} {Q2 : Option pV → pS → Prop} {Q3 : Option pV → pS → Prop} {Q4 : Option pV → pS → Prop} {Q5 : Option pV → pS → Prop} {Q6 : Option pV → pS → Prop} (hd : 1 ≤ d) (hst : Stat σ)   (f1 : pC mJ7_fill_53178 0 [(2, 54), (0, 0)] σ Q1) (f2 : ∀ (τ1 : pS) (e1 : pLe σ τ1) (q1 : Q1 none τ1), pC mJ7_fill_53178 0 [(2, 55), (0, 0)] τ1 Q2) (f3 : ∀ (τ1 : pS) (e1 : pLe σ τ1) (q1 : Q1 none τ1) (τ2 : pS) (e2 : pLe τ1 τ2) (q2 : Q2 none τ2), pC mJ7_fill_53178 0 [(2, 56), (0, 0)] τ2 Q3) (f4 : ∀ (τ1 : pS) (e1 : pLe σ τ1) (q1 : Q1 none τ1) (τ2 : pS) (e2 : pLe τ1 τ2) (q2 : Q2 none τ2) (τ3 : pS) (e3 : pLe τ2 τ3) (q3 : Q3 none τ3), pC mJ7_fill_53178 0 [(2, 57), (0, 0)] τ3 Q4) (f5 : ∀ (τ1 : pS) (e1 : pLe σ τ1) (q1 : Q1 none τ1) (τ2 : pS) (e2 : pLe τ1 τ2) (q2 : Q2 none τ2) (τ3 : pS) (e3 : pLe τ2 τ3) (q3 : Q3 none τ3) (τ4 : pS) (e4 : pLe τ3 τ4) (q4 : Q4 none τ4), pC mJ7_fill_53178 0 [(2, 58), (0, 0)] τ4 Q5) (f6 : ∀ (τ1 : pS) (e1 : pLe σ τ1) (q1 : Q1 none τ1) (τ2 : pS) (e2 : pLe τ1 τ2) (q2 : Q2 none τ2) (τ3 : pS) (e3 : pLe τ2 τ3) (q3 : Q3 none τ3) (τ4 : pS) (e4 : pLe τ3 τ4) (q4 : Q4 none τ4) (τ5 : pS) (e5 : pLe τ4 τ5) (q5 : Q5 none τ5), pC mJ7_fill_53178 0 [(2, 59), (0, 0)] τ5 Q6) (k1 : ∀ (τ1 : pS) (e1 : pLe σ τ1) (q1 : Q1 none τ1) (τ2 : pS) (e2 : pLe τ1 τ2) (q2 : Q2 none τ2) (τ3 : pS) (e3 : pLe τ2 τ3) (q3 : Q3 none τ3) (τ4 : pS) (e4 : pLe τ3 τ4) (q4 : Q4 none τ4) (τ5 : pS) (e5 : pLe τ4 τ5) (q5 : Q5 none τ5) (τ6 : pS) (e6 : pLe τ5 τ6) (q6 : Q6 none τ6), pR mX1_begin d 50 [(2, 50), (0, 0), (9, 0)] [] τ6 Q) : pC mX1_begin d [(2, 50)] σ Q := by
  show pR mX1_begin d 0 [(2, 50), (9, 0), (9, 0)] [] σ Q
  refine pGo (s_aload_n dX1_begin_0 rfl (by decide)) ?_
  refine pGoE (y := 54) (s_getF pc1 fl_X1_21 dX1_begin_1 (ob_50 hst) rfl (by decide)) (by decide) ?_
  refine pGo (s_iconst dX1_begin_4) ?_
  refine p_callS (As := [(2, 54), (0, 0)]) (st := []) (n := 2) (d' := 0) (Q1 := Q1) ok_J7_fill_53178 ml_X1_84 sm_J7_fill_53178 dX1_begin_5 (pargs_of rfl) rfl (Nat.le_of_ble_eq_true rfl) (by omega) f1 (fun r1 τ1 e1 q1 w1 => ?_)
  obtain rfl : r1 = none := w1
  have S1 : Stat τ1 := (Stat.le (σ := σ) hst e1)
  show pR mX1_begin d 8 [(2, 50), (9, 0), (9, 0)] [] τ1 Q
  refine pGo (s_aload_n dX1_begin_8 rfl (by decide)) ?_
  refine pGoE (y := 55) (s_getF pc1 fl_X1_24 dX1_begin_9 (ob_50 S1) rfl (by decide)) (by decide) ?_
  refine pGo (s_iconst dX1_begin_12) ?_
  refine p_callS (As := [(2, 55), (0, 0)]) (st := []) (n := 2) (d' := 0) (Q1 := Q2) ok_J7_fill_53178 ml_X1_84 sm_J7_fill_53178 dX1_begin_13 (pargs_of rfl) rfl (Nat.le_of_ble_eq_true rfl) (by omega) (f2 τ1 e1 q1) (fun r2 τ2 e2 q2 w2 => ?_)
  obtain rfl : r2 = none := w2
  have S2 : Stat τ2 := (Stat.le (σ := τ1) S1 e2)
  show pR mX1_begin d 16 [(2, 50), (9, 0), (9, 0)] [] τ2 Q
  refine pGo (s_aload_n dX1_begin_16 rfl (by decide)) ?_
  refine pGoE (y := 56) (s_getF pc1 fl_X1_27 dX1_begin_17 (ob_50 S2) rfl (by decide)) (by decide) ?_
  refine pGo (s_iconst dX1_begin_20) ?_
  refine p_callS (As := [(2, 56), (0, 0)]) (st := []) (n := 2) (d' := 0) (Q1 := Q3) ok_J7_fill_53178 ml_X1_84 sm_J7_fill_53178 dX1_begin_21 (pargs_of rfl) rfl (Nat.le_of_ble_eq_true rfl) (by omega) (f3 τ1 e1 q1 τ2 e2 q2) (fun r3 τ3 e3 q3 w3 => ?_)
  obtain rfl : r3 = none := w3
  have S3 : Stat τ3 := (Stat.le (σ := τ2) S2 e3)
  show pR mX1_begin d 24 [(2, 50), (9, 0), (9, 0)] [] τ3 Q
  refine pGo (s_aload_n dX1_begin_24 rfl (by decide)) ?_
  refine pGoE (y := 57) (s_getF pc1 fl_X1_30 dX1_begin_25 (ob_50 S3) rfl (by decide)) (by decide) ?_
  refine pGo (s_iconst dX1_begin_28) ?_
  refine p_callS (As := [(2, 57), (0, 0)]) (st := []) (n := 2) (d' := 0) (Q1 := Q4) ok_J7_fill_53178 ml_X1_84 sm_J7_fill_53178 dX1_begin_29 (pargs_of rfl) rfl (Nat.le_of_ble_eq_true rfl) (by omega) (f4 τ1 e1 q1 τ2 e2 q2 τ3 e3 q3) (fun r4 τ4 e4 q4 w4 => ?_)
  obtain rfl : r4 = none := w4
  have S4 : Stat τ4 := (Stat.le (σ := τ3) S3 e4)
  show pR mX1_begin d 32 [(2, 50), (9, 0), (9, 0)] [] τ4 Q
  refine pGo (s_aload_n dX1_begin_32 rfl (by decide)) ?_
  refine pGoE (y := 58) (s_getF pc1 fl_X1_33 dX1_begin_33 (ob_50 S4) rfl (by decide)) (by decide) ?_
  refine pGo (s_iconst dX1_begin_36) ?_
  refine p_callS (As := [(2, 58), (0, 0)]) (st := []) (n := 2) (d' := 0) (Q1 := Q5) ok_J7_fill_53178 ml_X1_84 sm_J7_fill_53178 dX1_begin_37 (pargs_of rfl) rfl (Nat.le_of_ble_eq_true rfl) (by omega) (f5 τ1 e1 q1 τ2 e2 q2 τ3 e3 q3 τ4 e4 q4) (fun r5 τ5 e5 q5 w5 => ?_)
  obtain rfl : r5 = none := w5
  have S5 : Stat τ5 := (Stat.le (σ := τ4) S4 e5)
  show pR mX1_begin d 40 [(2, 50), (9, 0), (9, 0)] [] τ5 Q
  refine pGo (s_aload_n dX1_begin_40 rfl (by decide)) ?_
  refine pGoE (y := 59) (s_getF pc1 fl_X1_36 dX1_begin_41 (ob_50 S5) rfl (by decide)) (by decide) ?_
  refine pGo (s_iconst dX1_begin_44) ?_
  refine p_callS (As := [(2, 59), (0, 0)]) (st := []) (n := 2) (d' := 0) (Q1 := Q6) ok_J7_fill_53178 ml_X1_84 sm_J7_fill_53178 dX1_begin_45 (pargs_of rfl) rfl (Nat.le_of_ble_eq_true rfl) (by omega) (f6 τ1 e1 q1 τ2 e2 q2 τ3 e3 q3 τ4 e4 q4 τ5 e5 q5) (fun r6 τ6 e6 q6 w6 => ?_)
  obtain rfl : r6 = none := w6
  have S6 : Stat τ6 := (Stat.le (σ := τ5) S5 e6)
  show pR mX1_begin d 48 [(2, 50), (9, 0), (9, 0)] [] τ6 Q
  refine pGo (s_iconst dX1_begin_48) ?_
  refine pGoL (ls2 := [(2, 50), (0, 0), (9, 0)]) (s_istore_n dX1_begin_49 (by decide) rfl) rfl ?_
  exact (k1 τ1 e1 q1 τ2 e2 q2 τ3 e3 q3 τ4 e4 q4 τ5 e5 q5 τ6 e6 q6)
set_option maxRecDepth 100000 in
theorem g_X1_begin_50 {d : Nat} {σ : pS} {Q : Option pV → pS → Prop} (hd : 1 ≤ d) (hst : Stat σ) (x1 : Int) (u2 : pV) (hu2 : u2.1 ≠ 1) (g1 : inR x1) (k1 : ∀ (c1 : 17 ≤ x1), pR mX1_begin d 85 [(2, 50), (0, 0), u2] [] σ Q) (g2 : ∀ (c2 : x1 < 17), Inst6 σ (rd σ 35 4)) (g3 : ∀ (c2 : x1 < 17), 0 ≤ x1 ∧ x1 < 17) (k2 : ∀ (c2 : x1 < 17), pR mX1_begin d 50 [(2, 50), (0, (x1 + 1)), u2] [] (wr σ 60 x1 ((rd σ ((rd σ 35 4) + 10) x1) * 10)) Q) : pR mX1_begin d 50 [(2, 50), (0, x1), u2] [] σ Q := by
  refine pGo (s_iload_n dX1_begin_50 rfl) ?_
  refine pGo (s_bipush dX1_begin_51 (by decide)) ?_
  refine p_icge (tgt := 83) dX1_begin_53 (by decide) g1 (by decide) (fun c1 => ?_) (fun c2 => ?_)
  · refine pGo (s_iconst dX1_begin_83) ?_
    refine pGoL (ls2 := [(2, 50), (0, 0), u2]) (s_istore_n dX1_begin_84 (by decide) rfl) rfl ?_
    exact (k1 c1)
  · refine pGo (s_aload_n dX1_begin_56 rfl (by decide)) ?_
    refine pGoE (y := 60) (s_getF pc1 fl_X1_39 dX1_begin_57 (ob_50 hst) rfl (by decide)) (by decide) ?_
    refine pGo (s_iload_n dX1_begin_60 rfl) ?_
    refine pGo (s_aload_n dX1_begin_61 rfl (by decide)) ?_
    refine pGoE (y := 35) (s_getF pc1 fl_X1_46 dX1_begin_62 (ob_50 hst) rfl (by decide)) (by decide) ?_
    refine pGoE (y := (rd σ 35 4)) (s_getR pc3 fl_X1_61 dX1_begin_65 (ob_35 hst) rfl rfl) rfl ?_
    refine pGo (s_getF pc6 fl_X1_90 dX1_begin_68 (g2 c2).o0 rfl (by decide)) ?_
    refine pGo (s_iload_n dX1_begin_71 rfl) ?_
    refine pGoE (y := (rd σ ((rd σ 35 4) + 10) x1)) (s_iald dX1_begin_72 (g2 c2).o10 (bnd (g3 c2))) rfl ?_
    refine pGo (s_bipush dX1_begin_73 (by decide)) ?_
    refine pGo (s_imul dX1_begin_75) ?_
    refine pGo (s_iast dX1_begin_76 (ob_60 hst) (bnd (g3 c2))) ?_
    refine pGoL (ls2 := [(2, 50), (0, (x1 + 1)), u2]) (s_iinc dX1_begin_77 (by decide) rfl rfl) rfl ?_
    refine pGo (s_goto (tgt := 50) dX1_begin_80 (by decide)) ?_
    exact (k2 c2)
set_option maxRecDepth 100000 in
theorem g_X1_begin_85 {d : Nat} {σ : pS} {Q : Option pV → pS → Prop} (hd : 1 ≤ d) (hst : Stat σ) (x1 : Int) (u2 : pV) (hu2 : u2.1 ≠ 1) (g1 : inR x1) (g2 : inR (rd σ 44 2)) (k1 : ∀ (c1 : (rd σ 44 2) ≤ x1), Q none σ) (g3 : ∀ (c2 : x1 < (rd σ 44 2)), 0 ≤ x1 ∧ x1 < 20) (g4 : ∀ (c2 : x1 < (rd σ 44 2)), Inst6 σ (rd σ 35 4)) (g5 : ∀ (c2 : x1 < (rd σ 44 2)), 0 ≤ (((rd σ 45 x1) * 10) + (rd σ (rd σ 35 4) 3)) ∧ (((rd σ 45 x1) * 10) + (rd σ (rd σ 35 4) 3)) < 4800) (k2 : ∀ (c2 : x1 < (rd σ 44 2)), pR mX1_begin d 85 [(2, 50), (0, (x1 + 1)), (0, (((rd σ 45 x1) * 10) + (rd σ (rd σ 35 4) 3)))] [] (wr σ 56 (((rd σ 45 x1) * 10) + (rd σ (rd σ 35 4) 3)) ((rd σ 56 (((rd σ 45 x1) * 10) + (rd σ (rd σ 35 4) 3))) + (rd σ 46 x1))) Q) : pR mX1_begin d 85 [(2, 50), (0, x1), u2] [] σ Q := by
  refine pGo (s_iload_n dX1_begin_85 rfl) ?_
  refine pGo (s_aload_n dX1_begin_86 rfl (by decide)) ?_
  refine pGoE (y := 44) (s_getF pc1 fl_X1_42 dX1_begin_87 (ob_50 hst) rfl (by decide)) (by decide) ?_
  refine pGoE (y := (rd σ 44 2)) (s_getI pc0 fl_X1_91 dX1_begin_90 (ob_44 hst) rfl (by decide)) rfl ?_
  refine p_icge (tgt := 144) dX1_begin_93 (by decide) g1 g2 (fun c1 => ?_) (fun c2 => ?_)
  · exact pEnd (r := none) dX1_begin_144 rfl (k1 c1)
  · refine pGo (s_aload_n dX1_begin_96 rfl (by decide)) ?_
    refine pGoE (y := 44) (s_getF pc1 fl_X1_42 dX1_begin_97 (ob_50 hst) rfl (by decide)) (by decide) ?_
    refine pGoE (y := 45) (s_getF pc0 fl_X1_96 dX1_begin_100 (ob_44 hst) rfl (by decide)) (by decide) ?_
    refine pGo (s_iload_n dX1_begin_103 rfl) ?_
    refine pGoE (y := (rd σ 45 x1)) (s_iald dX1_begin_104 (ob_45 hst) (bnd (g3 c2))) rfl ?_
    refine pGo (s_bipush dX1_begin_105 (by decide)) ?_
    refine pGo (s_imul dX1_begin_107) ?_
    refine pGo (s_aload_n dX1_begin_108 rfl (by decide)) ?_
    refine pGoE (y := 35) (s_getF pc1 fl_X1_46 dX1_begin_109 (ob_50 hst) rfl (by decide)) (by decide) ?_
    refine pGoE (y := (rd σ 35 4)) (s_getR pc3 fl_X1_61 dX1_begin_112 (ob_35 hst) rfl rfl) rfl ?_
    refine pGoE (y := (rd σ (rd σ 35 4) 3)) (s_getI pc6 fl_X1_99 dX1_begin_115 (g4 c2).o0 rfl (by decide)) rfl ?_
    refine pGo (s_iadd dX1_begin_118) ?_
    refine pGoL (ls2 := [(2, 50), (0, x1), (0, (((rd σ 45 x1) * 10) + (rd σ (rd σ 35 4) 3)))]) (s_istore_n dX1_begin_119 (by decide) rfl) rfl ?_
    refine pGo (s_aload_n dX1_begin_120 rfl (by decide)) ?_
    refine pGoE (y := 56) (s_getF pc1 fl_X1_27 dX1_begin_121 (ob_50 hst) rfl (by decide)) (by decide) ?_
    refine pGo (s_iload_n dX1_begin_124 rfl) ?_
    refine pGo (s_dup2 dX1_begin_125 (show (0 : Nat) ≠ 1 by decide) (show (2 : Nat) ≠ 1 by decide)) ?_
    refine pGoE (y := (rd σ 56 (((rd σ 45 x1) * 10) + (rd σ (rd σ 35 4) 3)))) (s_iald dX1_begin_126 (ob_56 hst) (bnd (g5 c2))) rfl ?_
    refine pGo (s_aload_n dX1_begin_127 rfl (by decide)) ?_
    refine pGoE (y := 44) (s_getF pc1 fl_X1_42 dX1_begin_128 (ob_50 hst) rfl (by decide)) (by decide) ?_
    refine pGoE (y := 46) (s_getF pc0 fl_X1_102 dX1_begin_131 (ob_44 hst) rfl (by decide)) (by decide) ?_
    refine pGo (s_iload_n dX1_begin_134 rfl) ?_
    refine pGoE (y := (rd σ 46 x1)) (s_iald dX1_begin_135 (ob_46 hst) (bnd (g3 c2))) rfl ?_
    refine pGo (s_iadd dX1_begin_136) ?_
    refine pGo (s_iast dX1_begin_137 (ob_56 hst) (bnd (g5 c2))) ?_
    refine pGoL (ls2 := [(2, 50), (0, (x1 + 1)), (0, (((rd σ 45 x1) * 10) + (rd σ (rd σ 35 4) 3)))]) (s_iinc dX1_begin_138 (by decide) rfl rfl) rfl ?_
    refine pGo (s_goto (tgt := 85) dX1_begin_141 (by decide)) ?_
    exact (k2 c2)
set_option maxRecDepth 100000 in
theorem g_X1_keep_0 {d : Nat} {σ : pS} {Q : Option pV → pS → Prop} (hd : 0 ≤ d) (hst : Stat σ) (x1 : Int)  (k1 : pR mX1_keep d 7 [(2, 50), (0, x1), (0, (x1 * 10)), (0, 0)] [] σ Q) : pC mX1_keep d [(2, 50), (0, x1)] σ Q := by
  show pR mX1_keep d 0 [(2, 50), (0, x1), (9, 0), (9, 0)] [] σ Q
  refine pGo (s_iload_n dX1_keep_0 rfl) ?_
  refine pGo (s_bipush dX1_keep_1 (by decide)) ?_
  refine pGo (s_imul dX1_keep_3) ?_
  refine pGoL (ls2 := [(2, 50), (0, x1), (0, (x1 * 10)), (9, 0)]) (s_istore_n dX1_keep_4 (by decide) rfl) rfl ?_
  refine pGo (s_iconst dX1_keep_5) ?_
  refine pGoL (ls2 := [(2, 50), (0, x1), (0, (x1 * 10)), (0, 0)]) (s_istore_n dX1_keep_6 (by decide) rfl) rfl ?_
  exact k1
set_option maxRecDepth 100000 in
theorem g_X1_keep_7 {d : Nat} {σ : pS} {Q : Option pV → pS → Prop} (hd : 0 ≤ d) (hst : Stat σ) (x1 : Int) (x2 : Int) (x3 : Int)  (g1 : inR x3) (k1 : ∀ (c1 : 10 ≤ x3), pR mX1_keep d 44 [(2, 50), (0, x1), (0, x2), (0, 0)] [] σ Q) (g2 : ∀ (c2 : x3 < 10), 0 ≤ x3 ∧ x3 < 10) (g3 : ∀ (c2 : x3 < 10), 0 ≤ (x2 + x3) ∧ (x2 + x3) < 4800) (k2 : ∀ (c2 : x3 < 10), pR mX1_keep d 7 [(2, 50), (0, x1), (0, x2), (0, (x3 + 1))] [] (wr (wr σ 51 (x2 + x3) (rd σ 57 x3)) 52 (x2 + x3) 0) Q) : pR mX1_keep d 7 [(2, 50), (0, x1), (0, x2), (0, x3)] [] σ Q := by
  refine pGo (s_iload_n dX1_keep_7 rfl) ?_
  refine pGo (s_bipush dX1_keep_8 (by decide)) ?_
  refine p_icge (tgt := 42) dX1_keep_10 (by decide) g1 (by decide) (fun c1 => ?_) (fun c2 => ?_)
  · refine pGo (s_iconst dX1_keep_42) ?_
    refine pGoL (ls2 := [(2, 50), (0, x1), (0, x2), (0, 0)]) (s_istore_n dX1_keep_43 (by decide) rfl) rfl ?_
    exact (k1 c1)
  · refine pGo (s_aload_n dX1_keep_13 rfl (by decide)) ?_
    refine pGoE (y := 51) (s_getF pc1 fl_X1_9 dX1_keep_14 (ob_50 hst) rfl (by decide)) (by decide) ?_
    refine pGo (s_iload_n dX1_keep_17 rfl) ?_
    refine pGo (s_iload_n dX1_keep_18 rfl) ?_
    refine pGo (s_iadd dX1_keep_19) ?_
    refine pGo (s_aload_n dX1_keep_20 rfl (by decide)) ?_
    refine pGoE (y := 57) (s_getF pc1 fl_X1_30 dX1_keep_21 (ob_50 hst) rfl (by decide)) (by decide) ?_
    refine pGo (s_iload_n dX1_keep_24 rfl) ?_
    refine pGoE (y := (rd σ 57 x3)) (s_iald dX1_keep_25 (ob_57 hst) (bnd (g2 c2))) rfl ?_
    refine pGo (s_iast dX1_keep_26 (ob_51 hst) (bnd (g3 c2))) ?_
    refine pGo (s_aload_n dX1_keep_27 rfl (by decide)) ?_
    refine pGoE (y := 52) (s_getF pc1 fl_X1_15 dX1_keep_28 (ob_50 hst) rfl (by decide)) (by decide) ?_
    refine pGo (s_iload_n dX1_keep_31 rfl) ?_
    refine pGo (s_iload_n dX1_keep_32 rfl) ?_
    refine pGo (s_iadd dX1_keep_33) ?_
    refine pGo (s_iconst dX1_keep_34) ?_
    refine pGo (s_iast dX1_keep_35 (ob_52 hst) (bnd (g3 c2))) ?_
    refine pGoL (ls2 := [(2, 50), (0, x1), (0, x2), (0, (x3 + 1))]) (s_iinc dX1_keep_36 (by decide) rfl rfl) rfl ?_
    refine pGo (s_goto (tgt := 7) dX1_keep_39 (by decide)) ?_
    exact (k2 c2)
set_option maxRecDepth 100000 in
theorem g_X1_keep_44 {d : Nat} {σ : pS} {Q : Option pV → pS → Prop} (hd : 0 ≤ d) (hst : Stat σ) (x1 : Int) (x2 : Int) (x3 : Int)  (g1 : Inst6 σ (rd σ 35 4)) (g2 : inR x3) (g3 : inR (rd σ (rd σ 35 4) 0)) (k1 : ∀ (c1 : (rd σ (rd σ 35 4) 0) ≤ x3), pR mX1_keep d 94 [(2, 50), (0, x1), (0, x2), (0, 0)] [] σ Q) (g4 : ∀ (c2 : x3 < (rd σ (rd σ 35 4) 0)), 0 ≤ x3 ∧ x3 < 17) (g5 : ∀ (c2 : x3 < (rd σ (rd σ 35 4) 0)), 0 ≤ (x2 + (rd σ ((rd σ 35 4) + 2) x3)) ∧ (x2 + (rd σ ((rd σ 35 4) + 2) x3)) < 4800) (k2 : ∀ (c2 : x3 < (rd σ (rd σ 35 4) 0)), pR mX1_keep d 44 [(2, 50), (0, x1), (0, x2), (0, (x3 + 1))] [] (wr σ 52 (x2 + (rd σ ((rd σ 35 4) + 2) x3)) ((rd σ 52 (x2 + (rd σ ((rd σ 35 4) + 2) x3))) + (rd σ 59 x3))) Q) : pR mX1_keep d 44 [(2, 50), (0, x1), (0, x2), (0, x3)] [] σ Q := by
  refine pGo (s_iload_n dX1_keep_44 rfl) ?_
  refine pGo (s_aload_n dX1_keep_45 rfl (by decide)) ?_
  refine pGoE (y := 35) (s_getF pc1 fl_X1_46 dX1_keep_46 (ob_50 hst) rfl (by decide)) (by decide) ?_
  refine pGoE (y := (rd σ 35 4)) (s_getR pc3 fl_X1_61 dX1_keep_49 (ob_35 hst) rfl rfl) rfl ?_
  refine pGoE (y := (rd σ (rd σ 35 4) 0)) (s_getI pc6 fl_X1_67 dX1_keep_52 g1.o0 rfl (by decide)) rfl ?_
  refine p_icge (tgt := 92) dX1_keep_55 (by decide) g2 g3 (fun c1 => ?_) (fun c2 => ?_)
  · refine pGo (s_iconst dX1_keep_92) ?_
    refine pGoL (ls2 := [(2, 50), (0, x1), (0, x2), (0, 0)]) (s_istore_n dX1_keep_93 (by decide) rfl) rfl ?_
    exact (k1 c1)
  · refine pGo (s_aload_n dX1_keep_58 rfl (by decide)) ?_
    refine pGoE (y := 52) (s_getF pc1 fl_X1_15 dX1_keep_59 (ob_50 hst) rfl (by decide)) (by decide) ?_
    refine pGo (s_iload_n dX1_keep_62 rfl) ?_
    refine pGo (s_aload_n dX1_keep_63 rfl (by decide)) ?_
    refine pGoE (y := 35) (s_getF pc1 fl_X1_46 dX1_keep_64 (ob_50 hst) rfl (by decide)) (by decide) ?_
    refine pGoE (y := (rd σ 35 4)) (s_getR pc3 fl_X1_61 dX1_keep_67 (ob_35 hst) rfl rfl) rfl ?_
    refine pGo (s_getF pc6 fl_X1_173 dX1_keep_70 g1.o0 rfl (by decide)) ?_
    refine pGo (s_iload_n dX1_keep_73 rfl) ?_
    refine pGoE (y := (rd σ ((rd σ 35 4) + 2) x3)) (s_iald dX1_keep_74 g1.o2 (bnd (g4 c2))) rfl ?_
    refine pGo (s_iadd dX1_keep_75) ?_
    refine pGo (s_dup2 dX1_keep_76 (show (0 : Nat) ≠ 1 by decide) (show (2 : Nat) ≠ 1 by decide)) ?_
    refine pGoE (y := (rd σ 52 (x2 + (rd σ ((rd σ 35 4) + 2) x3)))) (s_iald dX1_keep_77 (ob_52 hst) (bnd (g5 c2))) rfl ?_
    refine pGo (s_aload_n dX1_keep_78 rfl (by decide)) ?_
    refine pGoE (y := 59) (s_getF pc1 fl_X1_36 dX1_keep_79 (ob_50 hst) rfl (by decide)) (by decide) ?_
    refine pGo (s_iload_n dX1_keep_82 rfl) ?_
    refine pGoE (y := (rd σ 59 x3)) (s_iald dX1_keep_83 (ob_59 hst) (bnd (g4 c2))) rfl ?_
    refine pGo (s_iadd dX1_keep_84) ?_
    refine pGo (s_iast dX1_keep_85 (ob_52 hst) (bnd (g5 c2))) ?_
    refine pGoL (ls2 := [(2, 50), (0, x1), (0, x2), (0, (x3 + 1))]) (s_iinc dX1_keep_86 (by decide) rfl rfl) rfl ?_
    refine pGo (s_goto (tgt := 44) dX1_keep_89 (by decide)) ?_
    exact (k2 c2)
set_option maxRecDepth 100000 in
theorem g_X1_keep_94 {d : Nat} {σ : pS} {Q : Option pV → pS → Prop} (hd : 0 ≤ d) (hst : Stat σ) (x1 : Int) (x2 : Int) (x3 : Int)  (g1 : inR x3) (k1 : ∀ (c1 : 7 ≤ x3), Q none σ) (g2 : ∀ (c2 : x3 < 7), 0 ≤ (10 + x3) ∧ (10 + x3) < 17) (g3 : ∀ (c2 : x3 < 7), 0 ≤ ((x1 * 7) + x3) ∧ ((x1 * 7) + x3) < 3360) (k2 : ∀ (c2 : x3 < 7), pR mX1_keep d 94 [(2, 50), (0, x1), (0, x2), (0, (x3 + 1))] [] (wr σ 53 ((x1 * 7) + x3) (rd σ 60 (10 + x3))) Q) : pR mX1_keep d 94 [(2, 50), (0, x1), (0, x2), (0, x3)] [] σ Q := by
  refine pGo (s_iload_n dX1_keep_94 rfl) ?_
  refine pGo (s_bipush dX1_keep_95 (by decide)) ?_
  refine p_icge (tgt := 126) dX1_keep_97 (by decide) g1 (by decide) (fun c1 => ?_) (fun c2 => ?_)
  · exact pEnd (r := none) dX1_keep_126 rfl (k1 c1)
  · refine pGo (s_aload_n dX1_keep_100 rfl (by decide)) ?_
    refine pGoE (y := 53) (s_getF pc1 fl_X1_18 dX1_keep_101 (ob_50 hst) rfl (by decide)) (by decide) ?_
    refine pGo (s_iload_n dX1_keep_104 rfl) ?_
    refine pGo (s_bipush dX1_keep_105 (by decide)) ?_
    refine pGo (s_imul dX1_keep_107) ?_
    refine pGo (s_iload_n dX1_keep_108 rfl) ?_
    refine pGo (s_iadd dX1_keep_109) ?_
    refine pGo (s_aload_n dX1_keep_110 rfl (by decide)) ?_
    refine pGoE (y := 60) (s_getF pc1 fl_X1_39 dX1_keep_111 (ob_50 hst) rfl (by decide)) (by decide) ?_
    refine pGo (s_bipush dX1_keep_114 (by decide)) ?_
    refine pGo (s_iload_n dX1_keep_116 rfl) ?_
    refine pGo (s_iadd dX1_keep_117) ?_
    refine pGoE (y := (rd σ 60 (10 + x3))) (s_iald dX1_keep_118 (ob_60 hst) (bnd (g2 c2))) rfl ?_
    refine pGo (s_iast dX1_keep_119 (ob_53 hst) (bnd (g3 c2))) ?_
    refine pGoL (ls2 := [(2, 50), (0, x1), (0, x2), (0, (x3 + 1))]) (s_iinc dX1_keep_120 (by decide) rfl rfl) rfl ?_
    refine pGo (s_goto (tgt := 94) dX1_keep_123 (by decide)) ?_
    exact (k2 c2)
set_option maxRecDepth 100000 in
theorem g_X1_standing_0 {d : Nat} {σ : pS} {Q : Option pV → pS → Prop} (hd : 0 ≤ d) (hst : Stat σ) (x1 : Int)  (g1 : 0 ≤ (4790 + x1) ∧ (4790 + x1) < 4800) (k1 : Q (some (0, ((rd σ 51 (4790 + x1)) + (rd σ 52 (4790 + x1))))) σ) : pC mX1_standing d [(2, 50), (0, x1)] σ Q := by
  show pR mX1_standing d 0 [(2, 50), (0, x1), (9, 0)] [] σ Q
  refine pGo (s_sipush dX1_standing_0 (by decide)) ?_
  refine pGo (s_iload_n dX1_standing_3 rfl) ?_
  refine pGo (s_iadd dX1_standing_4) ?_
  refine pGoL (ls2 := [(2, 50), (0, x1), (0, (4790 + x1))]) (s_istore_n dX1_standing_5 (by decide) rfl) rfl ?_
  refine pGo (s_aload_n dX1_standing_6 rfl (by decide)) ?_
  refine pGoE (y := 51) (s_getF pc1 fl_X1_9 dX1_standing_7 (ob_50 hst) rfl (by decide)) (by decide) ?_
  refine pGo (s_iload_n dX1_standing_10 rfl) ?_
  refine pGoE (y := (rd σ 51 (4790 + x1))) (s_iald dX1_standing_11 (ob_51 hst) (bnd g1)) rfl ?_
  refine pGo (s_aload_n dX1_standing_12 rfl (by decide)) ?_
  refine pGoE (y := 52) (s_getF pc1 fl_X1_15 dX1_standing_13 (ob_50 hst) rfl (by decide)) (by decide) ?_
  refine pGo (s_iload_n dX1_standing_16 rfl) ?_
  refine pGoE (y := (rd σ 52 (4790 + x1))) (s_iald dX1_standing_17 (ob_52 hst) (bnd g1)) rfl ?_
  refine pGo (s_iadd dX1_standing_18) ?_
  exact pEnd (r := (some (0, ((rd σ 51 (4790 + x1)) + (rd σ 52 (4790 + x1)))))) dX1_standing_19 ⟨_, rfl⟩ k1
set_option maxRecDepth 100000 in
theorem g_X1_runThrough_0 {d : Nat} {σ : pS} {Q : Option pV → pS → Prop} {Q1 : Option pV → pS → Prop} (hd : 6 ≤ d) (hst : Stat σ)   (f1 : pC mX1_begin 1 [(2, 50)] σ Q1) (k1 : ∀ (τ1 : pS) (e1 : pLe σ τ1) (q1 : Q1 none τ1), pR mX1_runThrough d 6 [(2, 50), (0, 0), (9, 0)] [] τ1 Q) : pC mX1_runThrough d [(2, 50)] σ Q := by
  show pR mX1_runThrough d 0 [(2, 50), (9, 0), (9, 0)] [] σ Q
  refine pGo (s_aload_n dX1_runThrough_0 rfl (by decide)) ?_
  refine p_callV (As := []) (st := []) (n := 0) (d' := 1) (Q1 := Q1) pc1 ok_X1_begin ml_X1_50 im_X1_begin se_X1_begin dX1_runThrough_1 (ob_50 hst) (pargs_of rfl) rfl (Nat.le_of_ble_eq_true rfl) (by omega) f1 (fun r1 τ1 e1 q1 w1 => ?_)
  obtain rfl : r1 = none := w1
  have S1 : Stat τ1 := (Stat.le (σ := σ) hst e1)
  show pR mX1_runThrough d 4 [(2, 50), (9, 0), (9, 0)] [] τ1 Q
  refine pGo (s_iconst dX1_runThrough_4) ?_
  refine pGoL (ls2 := [(2, 50), (0, 0), (9, 0)]) (s_istore_n dX1_runThrough_5 (by decide) rfl) rfl ?_
  exact (k1 τ1 e1 q1)
set_option maxRecDepth 100000 in
theorem g_X1_runThrough_6 {d : Nat} {σ : pS} {Q : Option pV → pS → Prop} {Q1 : Option pV → pS → Prop} (hd : 6 ≤ d) (hst : Stat σ) (x1 : Int) (u2 : pV) (hu2 : u2.1 ≠ 1) (g1 : inR x1) (k1 : ∀ (c1 : 480 ≤ x1), Q none (wr σ 50 2 1)) (f1 : ∀ (c2 : x1 < 480), pC mX1_letSnow 1 [(2, 50), (0, x1)] σ Q1) (k2 : ∀ (c2 : x1 < 480) (τ1 : pS) (e1 : pLe σ τ1) (q1 : Q1 none τ1), pR mX1_runThrough d 20 [(2, 50), (0, x1), (0, 0)] [] τ1 Q) : pR mX1_runThrough d 6 [(2, 50), (0, x1), u2] [] σ Q := by
  refine pGo (s_iload_n dX1_runThrough_6 rfl) ?_
  refine pGo (s_sipush dX1_runThrough_7 (by decide)) ?_
  refine p_icge (tgt := 109) dX1_runThrough_10 (by decide) g1 (by decide) (fun c1 => ?_) (fun c2 => ?_)
  · refine pGo (s_aload_n dX1_runThrough_109 rfl (by decide)) ?_
    refine pGo (s_iconst dX1_runThrough_110) ?_
    refine pGo (s_putZ pc1 fl_X1_80 dX1_runThrough_111 (ob_50 hst) rfl rfl rfl rfl (by decide)) ?_
    exact pEnd (r := none) dX1_runThrough_114 rfl (k1 c1)
  · refine pGo (s_aload_n dX1_runThrough_13 rfl (by decide)) ?_
    refine pGo (s_iload_n dX1_runThrough_14 rfl) ?_
    refine p_callV (As := [(0, x1)]) (st := []) (n := 1) (d' := 1) (Q1 := Q1) pc1 ok_X1_letSnow ml_X1_53 im_X1_letSnow se_X1_letSnow dX1_runThrough_15 (ob_50 hst) (pargs_of rfl) rfl (Nat.le_of_ble_eq_true rfl) (by omega) (f1 c2) (fun r1 τ1 e1 q1 w1 => ?_)
    obtain rfl : r1 = none := w1
    have S1 : Stat τ1 := (Stat.le (σ := σ) hst e1)
    show pR mX1_runThrough d 18 [(2, 50), (0, x1), u2] [] τ1 Q
    refine pGo (s_iconst dX1_runThrough_18) ?_
    refine pGoL (ls2 := [(2, 50), (0, x1), (0, 0)]) (s_istore_n dX1_runThrough_19 (by decide) rfl) rfl ?_
    exact (k2 c2 τ1 e1 q1)
set_option maxRecDepth 100000 in
theorem g_X1_runThrough_20 {d : Nat} {σ : pS} {Q : Option pV → pS → Prop} {Q1 : Option pV → pS → Prop} (hd : 6 ≤ d) (hst : Stat σ) (x1 : Int) (x2 : Int)  (g1 : inR x2) (k1 : ∀ (c1 : 10 ≤ x2), pR mX1_runThrough d 72 [(2, 50), (0, x1), (0, 0)] [] σ Q) (g2 : ∀ (c2 : x2 < 10), 0 ≤ x2 ∧ x2 < 10) (g3 : ∀ (c2 : x2 < 10), 0 ≤ ((x1 * 10) + x2) ∧ ((x1 * 10) + x2) < 4800) (f1 : ∀ (c2 : x2 < 10), pC mX1_takeTurns 5 [(2, 50), (0, x2), (0, ((rd σ 57 x2) + (rd σ 56 ((x1 * 10) + x2)))), (0, x1)] (wr σ 57 x2 ((rd σ 57 x2) + (rd σ 56 ((x1 * 10) + x2)))) Q1) (k2 : ∀ (c2 : x2 < 10) (v1 : Int) (τ1 : pS) (e1 : pLe (wr σ 57 x2 ((rd σ 57 x2) + (rd σ 56 ((x1 * 10) + x2)))) τ1) (q1 : Q1 (some (0, v1)) τ1), pR mX1_runThrough d 20 [(2, 50), (0, x1), (0, (x2 + 1))] [] (wr τ1 57 x2 v1) Q) : pR mX1_runThrough d 20 [(2, 50), (0, x1), (0, x2)] [] σ Q := by
  refine pGo (s_iload_n dX1_runThrough_20 rfl) ?_
  refine pGo (s_bipush dX1_runThrough_21 (by decide)) ?_
  refine p_icge (tgt := 70) dX1_runThrough_23 (by decide) g1 (by decide) (fun c1 => ?_) (fun c2 => ?_)
  · refine pGo (s_iconst dX1_runThrough_70) ?_
    refine pGoL (ls2 := [(2, 50), (0, x1), (0, 0)]) (s_istore_n dX1_runThrough_71 (by decide) rfl) rfl ?_
    exact (k1 c1)
  · refine pGo (s_aload_n dX1_runThrough_26 rfl (by decide)) ?_
    refine pGoE (y := 57) (s_getF pc1 fl_X1_30 dX1_runThrough_27 (ob_50 hst) rfl (by decide)) (by decide) ?_
    refine pGo (s_iload_n dX1_runThrough_30 rfl) ?_
    refine pGo (s_dup2 dX1_runThrough_31 (show (0 : Nat) ≠ 1 by decide) (show (2 : Nat) ≠ 1 by decide)) ?_
    refine pGoE (y := (rd σ 57 x2)) (s_iald dX1_runThrough_32 (ob_57 hst) (bnd (g2 c2))) rfl ?_
    refine pGo (s_aload_n dX1_runThrough_33 rfl (by decide)) ?_
    refine pGoE (y := 56) (s_getF pc1 fl_X1_27 dX1_runThrough_34 (ob_50 hst) rfl (by decide)) (by decide) ?_
    refine pGo (s_iload_n dX1_runThrough_37 rfl) ?_
    refine pGo (s_bipush dX1_runThrough_38 (by decide)) ?_
    refine pGo (s_imul dX1_runThrough_40) ?_
    refine pGo (s_iload_n dX1_runThrough_41 rfl) ?_
    refine pGo (s_iadd dX1_runThrough_42) ?_
    refine pGoE (y := (rd σ 56 ((x1 * 10) + x2))) (s_iald dX1_runThrough_43 (ob_56 hst) (bnd (g3 c2))) rfl ?_
    refine pGo (s_iadd dX1_runThrough_44) ?_
    refine pGo (s_iast dX1_runThrough_45 (ob_57 hst) (bnd (g2 c2))) ?_
    refine pGo (s_aload_n dX1_runThrough_46 rfl (by decide)) ?_
    refine pGoE (y := 57) (s_getF pc1 fl_X1_30 dX1_runThrough_47 (ob_50 hst) rfl (by decide)) (by decide) ?_
    refine pGo (s_iload_n dX1_runThrough_50 rfl) ?_
    refine pGo (s_aload_n dX1_runThrough_51 rfl (by decide)) ?_
    refine pGo (s_iload_n dX1_runThrough_52 rfl) ?_
    refine pGo (s_aload_n dX1_runThrough_53 rfl (by decide)) ?_
    refine pGoE (y := 57) (s_getF pc1 fl_X1_30 dX1_runThrough_54 (ob_50 hst) rfl (by decide)) (by decide) ?_
    refine pGo (s_iload_n dX1_runThrough_57 rfl) ?_
    refine pGoE (y := ((rd σ 57 x2) + (rd σ 56 ((x1 * 10) + x2)))) (s_iald dX1_runThrough_58 (ob_57 hst) (bnd (g2 c2))) (rd_wr_same _ _ _ _) ?_
    refine pGo (s_iload_n dX1_runThrough_59 rfl) ?_
    refine p_callV (As := [(0, x2), (0, ((rd σ 57 x2) + (rd σ 56 ((x1 * 10) + x2)))), (0, x1)]) (st := [(0, x2), (2, 57)]) (n := 3) (d' := 5) (Q1 := Q1) pc1 ok_X1_takeTurns ml_X1_57 im_X1_takeTurns se_X1_takeTurns dX1_runThrough_60 (ob_50 hst) (pargs_of rfl) rfl (Nat.le_of_ble_eq_true rfl) (by omega) (f1 c2) (fun r1 τ1 e1 q1 w1 => ?_)
    obtain ⟨v1, rfl⟩ := w1
    have S1 : Stat τ1 := (Stat.le (σ := (wr σ 57 x2 ((rd σ 57 x2) + (rd σ 56 ((x1 * 10) + x2))))) hst e1)
    show pR mX1_runThrough d 63 [(2, 50), (0, x1), (0, x2)] [(0, v1), (0, x2), (2, 57)] τ1 Q
    refine pGo (s_iast dX1_runThrough_63 (ob_57 S1) (bnd (g2 c2))) ?_
    refine pGoL (ls2 := [(2, 50), (0, x1), (0, (x2 + 1))]) (s_iinc dX1_runThrough_64 (by decide) rfl rfl) rfl ?_
    refine pGo (s_goto (tgt := 20) dX1_runThrough_67 (by decide)) ?_
    exact (k2 c2 v1 τ1 e1 q1)
set_option maxRecDepth 100000 in
theorem g_X1_runThrough_72 {d : Nat} {σ : pS} {Q : Option pV → pS → Prop} {Q1 : Option pV → pS → Prop} {Q2 : Option pV → pS → Prop} (hd : 6 ≤ d) (hst : Stat σ) (x1 : Int) (x2 : Int)  (g1 : Inst6 σ (rd σ 35 4)) (g2 : inR x2) (g3 : inR (rd σ (rd σ 35 4) 0)) (f1 : ∀ (c1 : (rd σ (rd σ 35 4) 0) ≤ x2), pC mX1_keep 0 [(2, 50), (0, x1)] σ Q1) (k1 : ∀ (c1 : (rd σ (rd σ 35 4) 0) ≤ x2) (τ1 : pS) (e1 : pLe σ τ1) (q1 : Q1 none τ1), pR mX1_runThrough d 6 [(2, 50), (0, (x1 + 1)), (0, x2)] [] τ1 Q) (f2 : ∀ (c2 : x2 < (rd σ (rd σ 35 4) 0)), pC mX1_letOn 3 [(2, 50), (0, x2), (0, x1)] σ Q2) (k2 : ∀ (c2 : x2 < (rd σ (rd σ 35 4) 0)) (τ2 : pS) (e2 : pLe σ τ2) (q2 : Q2 none τ2), pR mX1_runThrough d 72 [(2, 50), (0, x1), (0, (x2 + 1))] [] τ2 Q) : pR mX1_runThrough d 72 [(2, 50), (0, x1), (0, x2)] [] σ Q := by
  refine pGo (s_iload_n dX1_runThrough_72 rfl) ?_
  refine pGo (s_aload_n dX1_runThrough_73 rfl (by decide)) ?_
  refine pGoE (y := 35) (s_getF pc1 fl_X1_46 dX1_runThrough_74 (ob_50 hst) rfl (by decide)) (by decide) ?_
  refine pGoE (y := (rd σ 35 4)) (s_getR pc3 fl_X1_61 dX1_runThrough_77 (ob_35 hst) rfl rfl) rfl ?_
  refine pGoE (y := (rd σ (rd σ 35 4) 0)) (s_getI pc6 fl_X1_67 dX1_runThrough_80 g1.o0 rfl (by decide)) rfl ?_
  refine p_icge (tgt := 98) dX1_runThrough_83 (by decide) g2 g3 (fun c1 => ?_) (fun c2 => ?_)
  · refine pGo (s_aload_n dX1_runThrough_98 rfl (by decide)) ?_
    refine pGo (s_iload_n dX1_runThrough_99 rfl) ?_
    refine p_callV (As := [(0, x1)]) (st := []) (n := 1) (d' := 0) (Q1 := Q1) pc1 ok_X1_keep ml_X1_77 im_X1_keep se_X1_keep dX1_runThrough_100 (ob_50 hst) (pargs_of rfl) rfl (Nat.le_of_ble_eq_true rfl) (by omega) (f1 c1) (fun r1 τ1 e1 q1 w1 => ?_)
    obtain rfl : r1 = none := w1
    have S1 : Stat τ1 := (Stat.le (σ := σ) hst e1)
    have J1_0 : Inst6 τ1 (rd σ 35 4) := Inst6.le (σ := σ) g1 e1
    show pR mX1_runThrough d 103 [(2, 50), (0, x1), (0, x2)] [] τ1 Q
    refine pGoL (ls2 := [(2, 50), (0, (x1 + 1)), (0, x2)]) (s_iinc dX1_runThrough_103 (by decide) rfl rfl) rfl ?_
    refine pGo (s_goto (tgt := 6) dX1_runThrough_106 (by decide)) ?_
    exact (k1 c1 τ1 e1 q1)
  · refine pGo (s_aload_n dX1_runThrough_86 rfl (by decide)) ?_
    refine pGo (s_iload_n dX1_runThrough_87 rfl) ?_
    refine pGo (s_iload_n dX1_runThrough_88 rfl) ?_
    refine p_callV (As := [(0, x2), (0, x1)]) (st := []) (n := 2) (d' := 3) (Q1 := Q2) pc1 ok_X1_letOn ml_X1_73 im_X1_letOn se_X1_letOn dX1_runThrough_89 (ob_50 hst) (pargs_of rfl) rfl (Nat.le_of_ble_eq_true rfl) (by omega) (f2 c2) (fun r2 τ2 e2 q2 w2 => ?_)
    obtain rfl : r2 = none := w2
    have S2 : Stat τ2 := (Stat.le (σ := σ) hst e2)
    have J2_0 : Inst6 τ2 (rd σ 35 4) := Inst6.le (σ := σ) g1 e2
    show pR mX1_runThrough d 92 [(2, 50), (0, x1), (0, x2)] [] τ2 Q
    refine pGoL (ls2 := [(2, 50), (0, x1), (0, (x2 + 1))]) (s_iinc dX1_runThrough_92 (by decide) rfl rfl) rfl ?_
    refine pGo (s_goto (tgt := 72) dX1_runThrough_95 (by decide)) ?_
    exact (k2 c2 τ2 e2 q2)
set_option maxRecDepth 100000 in
theorem g_X10_day_0 {d : Nat} {σ : pS} {Q : Option pV → pS → Prop} {Q1 : Option pV → pS → Prop} {Q2 : Option pV → pS → Prop} {Q3 : Option pV → pS → Prop} (hd : 7 ≤ d) (hst : Stat σ) (x1 : Int)  (f1 : pC mX10_look 4 [(2, 0), (0, x1)] σ Q1) (f2 : ∀ (τ1 : pS) (e1 : pLe σ τ1) (q1 : Q1 none τ1), pC mX1_runThrough 6 [(2, 50)] τ1 Q2) (g1 : ∀ (τ1 : pS) (e1 : pLe σ τ1) (q1 : Q1 none τ1) (τ2 : pS) (e2 : pLe τ1 τ2) (q2 : Q2 none τ2), Inst6 τ2 (rd τ2 0 7)) (f3 : ∀ (τ1 : pS) (e1 : pLe σ τ1) (q1 : Q1 none τ1) (τ2 : pS) (e2 : pLe τ1 τ2) (q2 : Q2 none τ2), pC mX1_standing 0 [(2, 50), (0, (rd τ2 (rd τ2 0 7) 3))] τ2 Q3) (k1 : ∀ (τ1 : pS) (e1 : pLe σ τ1) (q1 : Q1 none τ1) (τ2 : pS) (e2 : pLe τ1 τ2) (q2 : Q2 none τ2) (v3 : Int) (τ3 : pS) (e3 : pLe τ2 τ3) (q3 : Q3 (some (0, v3)) τ3), Q (some (0, v3)) τ3) : pC mX10_day d [(2, 0), (0, x1)] σ Q := by
  show pR mX10_day d 0 [(2, 0), (0, x1)] [] σ Q
  refine pGo (s_aload_n dX10_day_0 rfl (by decide)) ?_
  refine pGo (s_iload_n dX10_day_1 rfl) ?_
  refine p_callV (As := [(0, x1)]) (st := []) (n := 1) (d' := 4) (Q1 := Q1) pc10 ok_X10_look ml_X10_153 im_X10_look se_X10_look dX10_day_2 (ob_0 hst) (pargs_of rfl) rfl (Nat.le_of_ble_eq_true rfl) (by omega) f1 (fun r1 τ1 e1 q1 w1 => ?_)
  obtain rfl : r1 = none := w1
  have S1 : Stat τ1 := (Stat.le (σ := σ) hst e1)
  show pR mX10_day d 5 [(2, 0), (0, x1)] [] τ1 Q
  refine pGo (s_aload_n dX10_day_5 rfl (by decide)) ?_
  refine pGoE (y := 50) (s_getF pc10 fl_X10_86 dX10_day_6 (ob_0 S1) rfl (by decide)) (by decide) ?_
  refine p_callV (As := []) (st := []) (n := 0) (d' := 6) (Q1 := Q2) pc1 ok_X1_runThrough ml_X10_232 im_X1_runThrough se_X1_runThrough dX10_day_9 (ob_50 S1) (pargs_of rfl) rfl (Nat.le_of_ble_eq_true rfl) (by omega) (f2 τ1 e1 q1) (fun r2 τ2 e2 q2 w2 => ?_)
  obtain rfl : r2 = none := w2
  have S2 : Stat τ2 := (Stat.le (σ := τ1) S1 e2)
  show pR mX10_day d 12 [(2, 0), (0, x1)] [] τ2 Q
  refine pGo (s_aload_n dX10_day_12 rfl (by decide)) ?_
  refine pGoE (y := 50) (s_getF pc10 fl_X10_86 dX10_day_13 (ob_0 S2) rfl (by decide)) (by decide) ?_
  refine pGo (s_aload_n dX10_day_16 rfl (by decide)) ?_
  refine pGoE (y := (rd τ2 0 7)) (s_getR pc10 fl_X10_27 dX10_day_17 (ob_0 S2) rfl rfl) rfl ?_
  refine pGoE (y := (rd τ2 (rd τ2 0 7) 3)) (s_getI pc6 fl_X10_181 dX10_day_20 (g1 τ1 e1 q1 τ2 e2 q2).o0 rfl (by decide)) rfl ?_
  refine p_callV (As := [(0, (rd τ2 (rd τ2 0 7) 3))]) (st := []) (n := 1) (d' := 0) (Q1 := Q3) pc1 ok_X1_standing ml_X10_235 im_X1_standing se_X1_standing dX10_day_23 (ob_50 S2) (pargs_of rfl) rfl (Nat.le_of_ble_eq_true rfl) (by omega) (f3 τ1 e1 q1 τ2 e2 q2) (fun r3 τ3 e3 q3 w3 => ?_)
  obtain ⟨v3, rfl⟩ := w3
  have S3 : Stat τ3 := (Stat.le (σ := τ2) S2 e3)
  have J3_0 : Inst6 τ3 (rd τ2 0 7) := Inst6.le (σ := τ2) (g1 τ1 e1 q1 τ2 e2 q2) e3
  show pR mX10_day d 26 [(2, 0), (0, x1)] [(0, v3)] τ3 Q
  exact pEnd (r := (some (0, v3))) dX10_day_26 ⟨_, rfl⟩ (k1 τ1 e1 q1 τ2 e2 q2 v3 τ3 e3 q3)
