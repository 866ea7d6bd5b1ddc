set_option maxRecDepth 100000 in
theorem g_X11_isWay_0 {d : Nat} {σ : pS} {Q : Option pV → pS → Prop} (hd : 0 ≤ d) (hst : Stat σ) (x1 : Int)  (g1 : inR x1) (k1 : ∀ (c1 : x1 < 0) (c3 : x1 < 6), Q (some (0, 0)) σ) (g2 : ∀ (c1 : x1 < 0) (c4 : 6 ≤ x1), inR (6 + (fM_runs σ))) (k2 : ∀ (c1 : x1 < 0) (c4 : 6 ≤ x1) (c5 : (6 + (fM_runs σ)) ≤ x1), Q (some (0, 0)) σ) (k3 : ∀ (c1 : x1 < 0) (c4 : 6 ≤ x1) (c6 : x1 < (6 + (fM_runs σ))), Q (some (0, 1)) σ) (g3 : ∀ (c2 : 0 ≤ x1), inR (fM_lifts σ)) (k4 : ∀ (c2 : 0 ≤ x1) (c7 : x1 < (fM_lifts σ)), Q (some (0, 1)) σ) (k5 : ∀ (c2 : 0 ≤ x1) (c8 : (fM_lifts σ) ≤ x1) (c9 : x1 < 6), Q (some (0, 0)) σ) (g4 : ∀ (c2 : 0 ≤ x1) (c8 : (fM_lifts σ) ≤ x1) (c10 : 6 ≤ x1), inR (6 + (fM_runs σ))) (k6 : ∀ (c2 : 0 ≤ x1) (c8 : (fM_lifts σ) ≤ x1) (c10 : 6 ≤ x1) (c11 : (6 + (fM_runs σ)) ≤ x1), Q (some (0, 0)) σ) (k7 : ∀ (c2 : 0 ≤ x1) (c8 : (fM_lifts σ) ≤ x1) (c10 : 6 ≤ x1) (c12 : x1 < (6 + (fM_runs σ))), Q (some (0, 1)) σ) : pC mX11_isWay d [(2, 68), (0, x1)] σ Q := by
  show pR mX11_isWay d 0 [(2, 68), (0, x1)] [] σ Q
  refine pGo (s_iload_n dX11_isWay_0 rfl) ?_
  refine p_iflt (tgt := 12) dX11_isWay_1 (by decide) g1 (fun c1 => ?_) (fun c2 => ?_)
  · refine pGo (s_iload_n dX11_isWay_12 rfl) ?_
    refine pGo (s_bipush dX11_isWay_13 (by decide)) ?_
    refine p_iclt (tgt := 33) dX11_isWay_15 (by decide) g1 (by decide) (fun c3 => ?_) (fun c4 => ?_)
    · refine pGo (s_iconst dX11_isWay_33) ?_
      exact pEnd (r := (some (0, 0))) dX11_isWay_34 (Or.inl rfl) (k1 c1 c3)
    · refine pGo (s_iload_n dX11_isWay_18 rfl) ?_
      refine pGo (s_bipush dX11_isWay_19 (by decide)) ?_
      refine pGo (s_aload_n dX11_isWay_21 rfl (by decide)) ?_
      refine pGoE (y := (fM_runs σ)) (s_getI pc11 fl_X11_369 dX11_isWay_22 (ob_68 hst) rfl (by decide)) rfl ?_
      refine pGo (s_iadd dX11_isWay_25) ?_
      refine p_icge (tgt := 33) dX11_isWay_26 (by decide) g1 (g2 c1 c4) (fun c5 => ?_) (fun c6 => ?_)
      · refine pGo (s_iconst dX11_isWay_33) ?_
        exact pEnd (r := (some (0, 0))) dX11_isWay_34 (Or.inl rfl) (k2 c1 c4 c5)
      · refine pGo (s_iconst dX11_isWay_29) ?_
        refine pGo (s_goto (tgt := 34) dX11_isWay_30 (by decide)) ?_
        exact pEnd (r := (some (0, 1))) dX11_isWay_34 (Or.inr rfl) (k3 c1 c4 c6)
  · refine pGo (s_iload_n dX11_isWay_4 rfl) ?_
    refine pGo (s_aload_n dX11_isWay_5 rfl (by decide)) ?_
    refine pGoE (y := (fM_lifts σ)) (s_getI pc11 fl_X11_366 dX11_isWay_6 (ob_68 hst) rfl (by decide)) rfl ?_
    refine p_iclt (tgt := 29) dX11_isWay_9 (by decide) g1 (g3 c2) (fun c7 => ?_) (fun c8 => ?_)
    · refine pGo (s_iconst dX11_isWay_29) ?_
      refine pGo (s_goto (tgt := 34) dX11_isWay_30 (by decide)) ?_
      exact pEnd (r := (some (0, 1))) dX11_isWay_34 (Or.inr rfl) (k4 c2 c7)
    · refine pGo (s_iload_n dX11_isWay_12 rfl) ?_
      refine pGo (s_bipush dX11_isWay_13 (by decide)) ?_
      refine p_iclt (tgt := 33) dX11_isWay_15 (by decide) g1 (by decide) (fun c9 => ?_) (fun c10 => ?_)
      · refine pGo (s_iconst dX11_isWay_33) ?_
        exact pEnd (r := (some (0, 0))) dX11_isWay_34 (Or.inl rfl) (k5 c2 c8 c9)
      · refine pGo (s_iload_n dX11_isWay_18 rfl) ?_
        refine pGo (s_bipush dX11_isWay_19 (by decide)) ?_
        refine pGo (s_aload_n dX11_isWay_21 rfl (by decide)) ?_
        refine pGoE (y := (fM_runs σ)) (s_getI pc11 fl_X11_369 dX11_isWay_22 (ob_68 hst) rfl (by decide)) rfl ?_
        refine pGo (s_iadd dX11_isWay_25) ?_
        refine p_icge (tgt := 33) dX11_isWay_26 (by decide) g1 (g4 c2 c8 c10) (fun c11 => ?_) (fun c12 => ?_)
        · refine pGo (s_iconst dX11_isWay_33) ?_
          exact pEnd (r := (some (0, 0))) dX11_isWay_34 (Or.inl rfl) (k6 c2 c8 c10 c11)
        · refine pGo (s_iconst dX11_isWay_29) ?_
          refine pGo (s_goto (tgt := 34) dX11_isWay_30 (by decide)) ?_
          exact pEnd (r := (some (0, 1))) dX11_isWay_34 (Or.inr rfl) (k7 c2 c8 c10 c12)
set_option maxRecDepth 100000 in
theorem g_X11_here_0 {d : Nat} {σ : pS} {Q : Option pV → pS → Prop} (hd : 0 ≤ d) (hst : Stat σ) (x1 : Int)  (g1 : inR ((fM_at σ) + x1)) (g2 : inR (fM_size σ)) (k1 : ∀ (c1 : (fM_size σ) ≤ ((fM_at σ) + x1)), Q (some (0, (-1))) σ) (g3 : ∀ (c2 : ((fM_at σ) + x1) < (fM_size σ)), 0 ≤ ((fM_at σ) + x1) ∧ ((fM_at σ) + x1) < 1400) (k2 : ∀ (c2 : ((fM_at σ) + x1) < (fM_size σ)), Q (some (0, (fM_tape σ ((fM_at σ) + x1)))) σ) : pC mX11_here d [(2, 68), (0, x1)] σ Q := by
  show pR mX11_here d 0 [(2, 68), (0, x1)] [] σ Q
  refine pGo (s_aload_n dX11_here_0 rfl (by decide)) ?_
  refine pGoE (y := (fM_at σ)) (s_getI pc11 fl_X11_240 dX11_here_1 (ob_68 hst) rfl (by decide)) rfl ?_
  refine pGo (s_iload_n dX11_here_4 rfl) ?_
  refine pGo (s_iadd dX11_here_5) ?_
  refine pGo (s_aload_n dX11_here_6 rfl (by decide)) ?_
  refine pGoE (y := (fM_size σ)) (s_getI pc11 fl_X11_243 dX11_here_7 (ob_68 hst) rfl (by decide)) rfl ?_
  refine p_icge (tgt := 27) dX11_here_10 (by decide) g1 g2 (fun c1 => ?_) (fun c2 => ?_)
  · refine pGo (s_iconst dX11_here_27) ?_
    exact pEnd (r := (some (0, (-1)))) dX11_here_28 ⟨_, rfl⟩ (k1 c1)
  · refine pGo (s_aload_n dX11_here_13 rfl (by decide)) ?_
    refine pGoE (y := 69) (s_getF pc11 fl_X11_7 dX11_here_14 (ob_68 hst) rfl (by decide)) (by decide) ?_
    refine pGo (s_aload_n dX11_here_17 rfl (by decide)) ?_
    refine pGoE (y := (fM_at σ)) (s_getI pc11 fl_X11_240 dX11_here_18 (ob_68 hst) rfl (by decide)) rfl ?_
    refine pGo (s_iload_n dX11_here_21 rfl) ?_
    refine pGo (s_iadd dX11_here_22) ?_
    refine pGoE (y := (fM_tape σ ((fM_at σ) + x1))) (s_iald dX11_here_23 (ob_69 hst) (bnd (g3 c2))) rfl ?_
    refine pGo (s_goto (tgt := 28) dX11_here_24 (by decide)) ?_
    exact pEnd (r := (some (0, (fM_tape σ ((fM_at σ) + x1))))) dX11_here_28 ⟨_, rfl⟩ (k2 c2)
set_option maxRecDepth 100000 in
theorem g_X11_by_0 {d : Nat} {σ : pS} {Q : Option pV → pS → Prop} {Q1 : Option pV → pS → Prop} {Q2 : Option pV → pS → Prop} (hd : 2 ≤ d) (hst : Stat σ) (x1 : Int) (x2 : Int) (x3 : Int)  (g1 : inR x3) (k1 : ∀ (c1 : 480 < x3), Q (some (0, (-1))) σ) (f1 : ∀ (c2 : x3 ≤ 480), pC mX11_canGo 1 [(2, 68), (0, x1), (0, x2)] σ Q1) (g2 : ∀ (c2 : x3 ≤ 480) (v1 : Int) (b1 : v1 = 0 ∨ v1 = 1) (τ1 : pS) (e1 : pLe σ τ1) (q1 : Q1 (some (0, v1)) τ1), inR v1) (k2 : ∀ (c2 : x3 ≤ 480) (v1 : Int) (b1 : v1 = 0 ∨ v1 = 1) (τ1 : pS) (e1 : pLe σ τ1) (q1 : Q1 (some (0, v1)) τ1) (c3 : v1 = 0), Q (some (0, (-1))) τ1) (g3 : ∀ (c2 : x3 ≤ 480) (v1 : Int) (b1 : v1 = 0 ∨ v1 = 1) (τ1 : pS) (e1 : pLe σ τ1) (q1 : Q1 (some (0, v1)) τ1) (c4 : v1 ≠ 0), 0 ≤ ((482 * x2) + x3) ∧ ((482 * x2) + x3) < 6266) (g4 : ∀ (c2 : x3 ≤ 480) (v1 : Int) (b1 : v1 = 0 ∨ v1 = 1) (τ1 : pS) (e1 : pLe σ τ1) (q1 : Q1 (some (0, v1)) τ1) (c4 : v1 ≠ 0), inR (fM_opens τ1 ((482 * x2) + x3))) (f2 : ∀ (c2 : x3 ≤ 480) (v1 : Int) (b1 : v1 = 0 ∨ v1 = 1) (τ1 : pS) (e1 : pLe σ τ1) (q1 : Q1 (some (0, v1)) τ1) (c4 : v1 ≠ 0) (c5 : 0 ≤ (fM_opens τ1 ((482 * x2) + x3))), pC mX11_minutesOf 0 [(2, 68), (0, x1), (0, x2)] τ1 Q2) (k3 : ∀ (c2 : x3 ≤ 480) (v1 : Int) (b1 : v1 = 0 ∨ v1 = 1) (τ1 : pS) (e1 : pLe σ τ1) (q1 : Q1 (some (0, v1)) τ1) (c4 : v1 ≠ 0) (c5 : 0 ≤ (fM_opens τ1 ((482 * x2) + x3))) (v2 : Int) (τ2 : pS) (e2 : pLe τ1 τ2) (q2 : Q2 (some (0, v2)) τ2), Q (some (0, ((fM_opens τ1 ((482 * x2) + x3)) + v2))) τ2) (k4 : ∀ (c2 : x3 ≤ 480) (v1 : Int) (b1 : v1 = 0 ∨ v1 = 1) (τ1 : pS) (e1 : pLe σ τ1) (q1 : Q1 (some (0, v1)) τ1) (c4 : v1 ≠ 0) (c6 : (fM_opens τ1 ((482 * x2) + x3)) < 0), Q (some (0, (-1))) τ1) : pC mX11_by d [(2, 68), (0, x1), (0, x2), (0, x3)] σ Q := by
  show pR mX11_by d 0 [(2, 68), (0, x1), (0, x2), (0, x3)] [] σ Q
  refine pGo (s_iload_n dX11_by_0 rfl) ?_
  refine pGo (s_sipush dX11_by_1 (by decide)) ?_
  refine p_icgt (tgt := 31) dX11_by_4 (by decide) g1 (by decide) (fun c1 => ?_) (fun c2 => ?_)
  · refine pGo (s_iconst dX11_by_31) ?_
    exact pEnd (r := (some (0, (-1)))) dX11_by_32 ⟨_, rfl⟩ (k1 c1)
  · refine pGo (s_aload_n dX11_by_7 rfl (by decide)) ?_
    refine pGo (s_iload_n dX11_by_8 rfl) ?_
    refine pGo (s_iload_n dX11_by_9 rfl) ?_
    refine p_callV (As := [(0, x1), (0, x2)]) (st := []) (n := 2) (d' := 1) (Q1 := Q1) pc11 ok_X11_canGo ml_X11_483 im_X11_canGo se_X11_canGo dX11_by_10 (ob_68 hst) (pargs_of rfl) rfl (Nat.le_of_ble_eq_true rfl) (by omega) (f1 c2) (fun r1 τ1 e1 q1 w1 => ?_)
    obtain ⟨v1, rfl, b1⟩ := pRok_z w1
    have S1 : Stat τ1 := (Stat.le (σ := σ) hst e1)
    show pR mX11_by d 13 [(2, 68), (0, x1), (0, x2), (0, x3)] [(0, v1)] τ1 Q
    refine p_ifeq (tgt := 31) dX11_by_13 (by decide) (g2 c2 v1 b1 τ1 e1 q1) (fun c3 => ?_) (fun c4 => ?_)
    · refine pGo (s_iconst dX11_by_31) ?_
      exact pEnd (r := (some (0, (-1)))) dX11_by_32 ⟨_, rfl⟩ (k2 c2 v1 b1 τ1 e1 q1 c3)
    · refine pGo (s_aload_n dX11_by_16 rfl (by decide)) ?_
      refine pGoE (y := 104) (s_getF pc11 fl_X11_121 dX11_by_17 (ob_68 S1) rfl (by decide)) (by decide) ?_
      refine pGo (s_sipush dX11_by_20 (by decide)) ?_
      refine pGo (s_iload_n dX11_by_23 rfl) ?_
      refine pGo (s_imul dX11_by_24) ?_
      refine pGo (s_iload_n dX11_by_25 rfl) ?_
      refine pGo (s_iadd dX11_by_26) ?_
      refine pGoE (y := (fM_opens τ1 ((482 * x2) + x3))) (s_iald dX11_by_27 (ob_104 S1) (bnd (g3 c2 v1 b1 τ1 e1 q1 c4))) rfl ?_
      refine p_ifge (tgt := 33) dX11_by_28 (by decide) (g4 c2 v1 b1 τ1 e1 q1 c4) (fun c5 => ?_) (fun c6 => ?_)
      · refine pGo (s_aload_n dX11_by_33 rfl (by decide)) ?_
        refine pGoE (y := 104) (s_getF pc11 fl_X11_121 dX11_by_34 (ob_68 S1) rfl (by decide)) (by decide) ?_
        refine pGo (s_sipush dX11_by_37 (by decide)) ?_
        refine pGo (s_iload_n dX11_by_40 rfl) ?_
        refine pGo (s_imul dX11_by_41) ?_
        refine pGo (s_iload_n dX11_by_42 rfl) ?_
        refine pGo (s_iadd dX11_by_43) ?_
        refine pGoE (y := (fM_opens τ1 ((482 * x2) + x3))) (s_iald dX11_by_44 (ob_104 S1) (bnd (g3 c2 v1 b1 τ1 e1 q1 c4))) rfl ?_
        refine pGo (s_aload_n dX11_by_45 rfl (by decide)) ?_
        refine pGo (s_iload_n dX11_by_46 rfl) ?_
        refine pGo (s_iload_n dX11_by_47 rfl) ?_
        refine p_callV (As := [(0, x1), (0, x2)]) (st := [(0, (fM_opens τ1 ((482 * x2) + x3)))]) (n := 2) (d' := 0) (Q1 := Q2) pc11 ok_X11_minutesOf ml_X11_486 im_X11_minutesOf se_X11_minutesOf dX11_by_48 (ob_68 S1) (pargs_of rfl) rfl (Nat.le_of_ble_eq_true rfl) (by omega) (f2 c2 v1 b1 τ1 e1 q1 c4 c5) (fun r2 τ2 e2 q2 w2 => ?_)
        obtain ⟨v2, rfl⟩ := w2
        have S2 : Stat τ2 := (Stat.le (σ := τ1) S1 e2)
        show pR mX11_by d 51 [(2, 68), (0, x1), (0, x2), (0, x3)] [(0, v2), (0, (fM_opens τ1 ((482 * x2) + x3)))] τ2 Q
        refine pGo (s_iadd dX11_by_51) ?_
        exact pEnd (r := (some (0, ((fM_opens τ1 ((482 * x2) + x3)) + v2)))) dX11_by_52 ⟨_, rfl⟩ (k3 c2 v1 b1 τ1 e1 q1 c4 c5 v2 τ2 e2 q2)
      · refine pGo (s_iconst dX11_by_31) ?_
        exact pEnd (r := (some (0, (-1)))) dX11_by_32 ⟨_, rfl⟩ (k4 c2 v1 b1 τ1 e1 q1 c4 c6)
set_option maxRecDepth 100000 in
theorem g_X11_soonestOf_0 {d : Nat} {σ : pS} {Q : Option pV → pS → Prop} (hd : 3 ≤ d) (hst : Stat σ) (x1 : Int) (x2 : Int) (x3 : Int) (x4 : Int)  (k1 : pR mX11_soonestOf d 3 [(2, 68), (0, x1), (0, x2), (0, x3), (0, x4), (0, 0), (9, 0), (9, 0)] [] σ Q) : pC mX11_soonestOf d [(2, 68), (0, x1), (0, x2), (0, x3), (0, x4)] σ Q := by
  show pR mX11_soonestOf d 0 [(2, 68), (0, x1), (0, x2), (0, x3), (0, x4), (9, 0), (9, 0), (9, 0)] [] σ Q
  refine pGo (s_iconst dX11_soonestOf_0) ?_
  refine pGoL (ls2 := [(2, 68), (0, x1), (0, x2), (0, x3), (0, x4), (0, 0), (9, 0), (9, 0)]) (s_istore dX11_soonestOf_1 (by decide) rfl) rfl ?_
  exact k1
set_option maxRecDepth 100000 in
theorem g_X11_soonestOf_3 {d : Nat} {σ : pS} {Q : Option pV → pS → Prop} (hd : 3 ≤ d) (hst : Stat σ) (x1 : Int) (x2 : Int) (x3 : Int) (x4 : Int) (x5 : Int) (u6 : pV) (u7 : pV) (hu6 : u6.1 ≠ 1) (hu7 : u7.1 ≠ 1) (g1 : inR x5) (g2 : ∀ (c1 : 10 ≤ x5), 0 ≤ x2 ∧ x2 < 10) (k1 : ∀ (c1 : 10 ≤ x5), pR mX11_soonestOf d 35 [(2, 68), (0, x1), (0, x2), (0, x3), (0, x4), (0, 1), u6, u7] [] (wr σ 106 x2 x3) Q) (g3 : ∀ (c2 : x5 < 10), 0 ≤ x5 ∧ x5 < 10) (k2 : ∀ (c2 : x5 < 10), pR mX11_soonestOf d 3 [(2, 68), (0, x1), (0, x2), (0, x3), (0, x4), (0, (x5 + 1)), u6, u7] [] (wr σ 106 x5 1000000) Q) : pR mX11_soonestOf d 3 [(2, 68), (0, x1), (0, x2), (0, x3), (0, x4), (0, x5), u6, u7] [] σ Q := by
  refine pGo (s_iload dX11_soonestOf_3 rfl) ?_
  refine pGo (s_bipush dX11_soonestOf_5 (by decide)) ?_
  refine p_icge (tgt := 25) dX11_soonestOf_7 (by decide) g1 (by decide) (fun c1 => ?_) (fun c2 => ?_)
  · refine pGo (s_aload_n dX11_soonestOf_25 rfl (by decide)) ?_
    refine pGoE (y := 106) (s_getF pc11 fl_X11_127 dX11_soonestOf_26 (ob_68 hst) rfl (by decide)) (by decide) ?_
    refine pGo (s_iload_n dX11_soonestOf_29 rfl) ?_
    refine pGo (s_iload_n dX11_soonestOf_30 rfl) ?_
    refine pGo (s_iast dX11_soonestOf_31 (ob_106 hst) (bnd (g2 c1))) ?_
    refine pGo (s_iconst dX11_soonestOf_32) ?_
    refine pGoL (ls2 := [(2, 68), (0, x1), (0, x2), (0, x3), (0, x4), (0, 1), u6, u7]) (s_istore dX11_soonestOf_33 (by decide) rfl) rfl ?_
    exact (k1 c1)
  · refine pGo (s_aload_n dX11_soonestOf_10 rfl (by decide)) ?_
    refine pGoE (y := 106) (s_getF pc11 fl_X11_127 dX11_soonestOf_11 (ob_68 hst) rfl (by decide)) (by decide) ?_
    refine pGo (s_iload dX11_soonestOf_14 rfl) ?_
    refine pGo (s_ldc (n := 1000000) dX11_soonestOf_16 kc_X11_232 (by decide)) ?_
    refine pGo (s_iast dX11_soonestOf_18 (ob_106 hst) (bnd (g3 c2))) ?_
    refine pGoL (ls2 := [(2, 68), (0, x1), (0, x2), (0, x3), (0, x4), (0, (x5 + 1)), u6, u7]) (s_iinc dX11_soonestOf_19 (by decide) rfl rfl) rfl ?_
    refine pGo (s_goto (tgt := 3) dX11_soonestOf_22 (by decide)) ?_
    exact (k2 c2)
set_option maxRecDepth 100000 in
theorem g_X11_soonestOf_35 {d : Nat} {σ : pS} {Q : Option pV → pS → Prop} (hd : 3 ≤ d) (hst : Stat σ) (x1 : Int) (x2 : Int) (x3 : Int) (x4 : Int) (x5 : Int) (u6 : pV) (u7 : pV) (hu6 : u6.1 ≠ 1) (hu7 : u7.1 ≠ 1) (g1 : inR x5) (g2 : ∀ (c1 : x5 = 0), 0 ≤ x4 ∧ x4 < 10) (k1 : ∀ (c1 : x5 = 0), Q (some (0, (fM_soon σ x4))) σ) (k2 : ∀ (c2 : x5 ≠ 0), pR mX11_soonestOf d 46 [(2, 68), (0, x1), (0, x2), (0, x3), (0, x4), (0, 0), (0, 0), u7] [] σ Q) : pR mX11_soonestOf d 35 [(2, 68), (0, x1), (0, x2), (0, x3), (0, x4), (0, x5), u6, u7] [] σ Q := by
  refine pGo (s_iload dX11_soonestOf_35 rfl) ?_
  refine p_ifeq (tgt := 154) dX11_soonestOf_37 (by decide) g1 (fun c1 => ?_) (fun c2 => ?_)
  · refine pGo (s_aload_n dX11_soonestOf_154 rfl (by decide)) ?_
    refine pGoE (y := 106) (s_getF pc11 fl_X11_127 dX11_soonestOf_155 (ob_68 hst) rfl (by decide)) (by decide) ?_
    refine pGo (s_iload dX11_soonestOf_158 rfl) ?_
    refine pGoE (y := (fM_soon σ x4)) (s_iald dX11_soonestOf_160 (ob_106 hst) (bnd (g2 c1))) rfl ?_
    exact pEnd (r := (some (0, (fM_soon σ x4)))) dX11_soonestOf_161 ⟨_, rfl⟩ (k1 c1)
  · refine pGo (s_iconst dX11_soonestOf_40) ?_
    refine pGoL (ls2 := [(2, 68), (0, x1), (0, x2), (0, x3), (0, x4), (0, 0), u6, u7]) (s_istore dX11_soonestOf_41 (by decide) rfl) rfl ?_
    refine pGo (s_iconst dX11_soonestOf_43) ?_
    refine pGoL (ls2 := [(2, 68), (0, x1), (0, x2), (0, x3), (0, x4), (0, 0), (0, 0), u7]) (s_istore dX11_soonestOf_44 (by decide) rfl) rfl ?_
    exact (k2 c2)
set_option maxRecDepth 100000 in
theorem g_X11_soonestOf_46 {d : Nat} {σ : pS} {Q : Option pV → pS → Prop} {Q1 : Option pV → pS → Prop} {Q2 : Option pV → pS → Prop} (hd : 3 ≤ d) (hst : Stat σ) (x1 : Int) (x2 : Int) (x3 : Int) (x4 : Int) (x5 : Int) (x6 : Int) (u7 : pV) (hu7 : u7.1 ≠ 1) (g1 : inR x6) (k1 : ∀ (c1 : 13 ≤ x6), pR mX11_soonestOf d 35 [(2, 68), (0, x1), (0, x2), (0, x3), (0, x4), (0, x5), (0, x6), u7] [] σ Q) (f1 : ∀ (c2 : x6 < 13), pC mX11_isWay 0 [(2, 68), (0, x6)] σ Q1) (g2 : ∀ (c2 : x6 < 13) (v1 : Int) (b1 : v1 = 0 ∨ v1 = 1) (τ1 : pS) (e1 : pLe σ τ1) (q1 : Q1 (some (0, v1)) τ1), inR v1) (k2 : ∀ (c2 : x6 < 13) (v1 : Int) (b1 : v1 = 0 ∨ v1 = 1) (τ1 : pS) (e1 : pLe σ τ1) (q1 : Q1 (some (0, v1)) τ1) (c3 : v1 = 0), pR mX11_soonestOf d 46 [(2, 68), (0, x1), (0, x2), (0, x3), (0, x4), (0, x5), (0, (x6 + 1)), u7] [] τ1 Q) (g3 : ∀ (c2 : x6 < 13) (v1 : Int) (b1 : v1 = 0 ∨ v1 = 1) (τ1 : pS) (e1 : pLe σ τ1) (q1 : Q1 (some (0, v1)) τ1) (c4 : v1 ≠ 0), 0 ≤ x6 ∧ x6 < 13) (g4 : ∀ (c2 : x6 < 13) (v1 : Int) (b1 : v1 = 0 ∨ v1 = 1) (τ1 : pS) (e1 : pLe σ τ1) (q1 : Q1 (some (0, v1)) τ1) (c4 : v1 ≠ 0), 0 ≤ (fM_from τ1 x6) ∧ (fM_from τ1 x6) < 10) (g5 : ∀ (c2 : x6 < 13) (v1 : Int) (b1 : v1 = 0 ∨ v1 = 1) (τ1 : pS) (e1 : pLe σ τ1) (q1 : Q1 (some (0, v1)) τ1) (c4 : v1 ≠ 0), inR (fM_soon τ1 (fM_from τ1 x6))) (f2 : ∀ (c2 : x6 < 13) (v1 : Int) (b1 : v1 = 0 ∨ v1 = 1) (τ1 : pS) (e1 : pLe σ τ1) (q1 : Q1 (some (0, v1)) τ1) (c4 : v1 ≠ 0) (c5 : (fM_soon τ1 (fM_from τ1 x6)) ≠ 1000000), pC mX11_by 2 [(2, 68), (0, x1), (0, x6), (0, (fM_soon τ1 (fM_from τ1 x6)))] τ1 Q2) (g6 : ∀ (c2 : x6 < 13) (v1 : Int) (b1 : v1 = 0 ∨ v1 = 1) (τ1 : pS) (e1 : pLe σ τ1) (q1 : Q1 (some (0, v1)) τ1) (c4 : v1 ≠ 0) (c5 : (fM_soon τ1 (fM_from τ1 x6)) ≠ 1000000) (v2 : Int) (τ2 : pS) (e2 : pLe τ1 τ2) (q2 : Q2 (some (0, v2)) τ2), inR v2) (k3 : ∀ (c2 : x6 < 13) (v1 : Int) (b1 : v1 = 0 ∨ v1 = 1) (τ1 : pS) (e1 : pLe σ τ1) (q1 : Q1 (some (0, v1)) τ1) (c4 : v1 ≠ 0) (c5 : (fM_soon τ1 (fM_from τ1 x6)) ≠ 1000000) (v2 : Int) (τ2 : pS) (e2 : pLe τ1 τ2) (q2 : Q2 (some (0, v2)) τ2) (c7 : v2 < 0), pR mX11_soonestOf d 46 [(2, 68), (0, x1), (0, x2), (0, x3), (0, x4), (0, x5), (0, (x6 + 1)), (0, v2)] [] τ2 Q) (g7 : ∀ (c2 : x6 < 13) (v1 : Int) (b1 : v1 = 0 ∨ v1 = 1) (τ1 : pS) (e1 : pLe σ τ1) (q1 : Q1 (some (0, v1)) τ1) (c4 : v1 ≠ 0) (c5 : (fM_soon τ1 (fM_from τ1 x6)) ≠ 1000000) (v2 : Int) (τ2 : pS) (e2 : pLe τ1 τ2) (q2 : Q2 (some (0, v2)) τ2) (c8 : 0 ≤ v2), 0 ≤ (fM_to τ2 x6) ∧ (fM_to τ2 x6) < 10) (g8 : ∀ (c2 : x6 < 13) (v1 : Int) (b1 : v1 = 0 ∨ v1 = 1) (τ1 : pS) (e1 : pLe σ τ1) (q1 : Q1 (some (0, v1)) τ1) (c4 : v1 ≠ 0) (c5 : (fM_soon τ1 (fM_from τ1 x6)) ≠ 1000000) (v2 : Int) (τ2 : pS) (e2 : pLe τ1 τ2) (q2 : Q2 (some (0, v2)) τ2) (c8 : 0 ≤ v2), inR (fM_soon τ2 (fM_to τ2 x6))) (k4 : ∀ (c2 : x6 < 13) (v1 : Int) (b1 : v1 = 0 ∨ v1 = 1) (τ1 : pS) (e1 : pLe σ τ1) (q1 : Q1 (some (0, v1)) τ1) (c4 : v1 ≠ 0) (c5 : (fM_soon τ1 (fM_from τ1 x6)) ≠ 1000000) (v2 : Int) (τ2 : pS) (e2 : pLe τ1 τ2) (q2 : Q2 (some (0, v2)) τ2) (c8 : 0 ≤ v2) (c9 : v2 < (fM_soon τ2 (fM_to τ2 x6))), pR mX11_soonestOf d 46 [(2, 68), (0, x1), (0, x2), (0, x3), (0, x4), (0, 1), (0, (x6 + 1)), (0, v2)] [] (wr τ2 106 (fM_to τ2 x6) v2) Q) (k5 : ∀ (c2 : x6 < 13) (v1 : Int) (b1 : v1 = 0 ∨ v1 = 1) (τ1 : pS) (e1 : pLe σ τ1) (q1 : Q1 (some (0, v1)) τ1) (c4 : v1 ≠ 0) (c5 : (fM_soon τ1 (fM_from τ1 x6)) ≠ 1000000) (v2 : Int) (τ2 : pS) (e2 : pLe τ1 τ2) (q2 : Q2 (some (0, v2)) τ2) (c8 : 0 ≤ v2) (c10 : (fM_soon τ2 (fM_to τ2 x6)) ≤ v2), pR mX11_soonestOf d 46 [(2, 68), (0, x1), (0, x2), (0, x3), (0, x4), (0, x5), (0, (x6 + 1)), (0, v2)] [] τ2 Q) (k6 : ∀ (c2 : x6 < 13) (v1 : Int) (b1 : v1 = 0 ∨ v1 = 1) (τ1 : pS) (e1 : pLe σ τ1) (q1 : Q1 (some (0, v1)) τ1) (c4 : v1 ≠ 0) (c6 : (fM_soon τ1 (fM_from τ1 x6)) = 1000000), pR mX11_soonestOf d 46 [(2, 68), (0, x1), (0, x2), (0, x3), (0, x4), (0, x5), (0, (x6 + 1)), u7] [] τ1 Q) : pR mX11_soonestOf d 46 [(2, 68), (0, x1), (0, x2), (0, x3), (0, x4), (0, x5), (0, x6), u7] [] σ Q := by
  refine pGo (s_iload dX11_soonestOf_46 rfl) ?_
  refine pGo (s_bipush dX11_soonestOf_48 (by decide)) ?_
  refine p_icge (tgt := 151) dX11_soonestOf_50 (by decide) g1 (by decide) (fun c1 => ?_) (fun c2 => ?_)
  · refine pGo (s_goto (tgt := 35) dX11_soonestOf_151 (by decide)) ?_
    exact (k1 c1)
  · refine pGo (s_aload_n dX11_soonestOf_53 rfl (by decide)) ?_
    refine pGo (s_iload dX11_soonestOf_54 rfl) ?_
    refine p_callV (As := [(0, x6)]) (st := []) (n := 1) (d' := 0) (Q1 := Q1) pc11 ok_X11_isWay ml_X11_387 im_X11_isWay se_X11_isWay dX11_soonestOf_56 (ob_68 hst) (pargs_of rfl) rfl (Nat.le_of_ble_eq_true rfl) (by omega) (f1 c2) (fun r1 τ1 e1 q1 w1 => ?_)
    obtain ⟨v1, rfl, b1⟩ := pRok_z w1
    have S1 : Stat τ1 := (Stat.le (σ := σ) hst e1)
    show pR mX11_soonestOf d 59 [(2, 68), (0, x1), (0, x2), (0, x3), (0, x4), (0, x5), (0, x6), u7] [(0, v1)] τ1 Q
    refine p_ifeq (tgt := 145) dX11_soonestOf_59 (by decide) (g2 c2 v1 b1 τ1 e1 q1) (fun c3 => ?_) (fun c4 => ?_)
    · refine pGoL (ls2 := [(2, 68), (0, x1), (0, x2), (0, x3), (0, x4), (0, x5), (0, (x6 + 1)), u7]) (s_iinc dX11_soonestOf_145 (by decide) rfl rfl) rfl ?_
      refine pGo (s_goto (tgt := 46) dX11_soonestOf_148 (by decide)) ?_
      exact (k2 c2 v1 b1 τ1 e1 q1 c3)
    · refine pGo (s_aload_n dX11_soonestOf_62 rfl (by decide)) ?_
      refine pGoE (y := 106) (s_getF pc11 fl_X11_127 dX11_soonestOf_63 (ob_68 S1) rfl (by decide)) (by decide) ?_
      refine pGo (s_aload_n dX11_soonestOf_66 rfl (by decide)) ?_
      refine pGoE (y := 77) (s_getF pc11 fl_X11_39 dX11_soonestOf_67 (ob_68 S1) rfl (by decide)) (by decide) ?_
      refine pGo (s_iload dX11_soonestOf_70 rfl) ?_
      refine pGoE (y := (fM_from τ1 x6)) (s_iald dX11_soonestOf_72 (ob_77 S1) (bnd (g3 c2 v1 b1 τ1 e1 q1 c4))) rfl ?_
      refine pGoE (y := (fM_soon τ1 (fM_from τ1 x6))) (s_iald dX11_soonestOf_73 (ob_106 S1) (bnd (g4 c2 v1 b1 τ1 e1 q1 c4))) rfl ?_
      refine pGo (s_ldc (n := 1000000) dX11_soonestOf_74 kc_X11_232 (by decide)) ?_
      refine p_icne (tgt := 82) dX11_soonestOf_76 (by decide) (g5 c2 v1 b1 τ1 e1 q1 c4) (by decide) (fun c5 => ?_) (fun c6 => ?_)
      · refine pGo (s_aload_n dX11_soonestOf_82 rfl (by decide)) ?_
        refine pGo (s_iload_n dX11_soonestOf_83 rfl) ?_
        refine pGo (s_iload dX11_soonestOf_84 rfl) ?_
        refine pGo (s_aload_n dX11_soonestOf_86 rfl (by decide)) ?_
        refine pGoE (y := 106) (s_getF pc11 fl_X11_127 dX11_soonestOf_87 (ob_68 S1) rfl (by decide)) (by decide) ?_
        refine pGo (s_aload_n dX11_soonestOf_90 rfl (by decide)) ?_
        refine pGoE (y := 77) (s_getF pc11 fl_X11_39 dX11_soonestOf_91 (ob_68 S1) rfl (by decide)) (by decide) ?_
        refine pGo (s_iload dX11_soonestOf_94 rfl) ?_
        refine pGoE (y := (fM_from τ1 x6)) (s_iald dX11_soonestOf_96 (ob_77 S1) (bnd (g3 c2 v1 b1 τ1 e1 q1 c4))) rfl ?_
        refine pGoE (y := (fM_soon τ1 (fM_from τ1 x6))) (s_iald dX11_soonestOf_97 (ob_106 S1) (bnd (g4 c2 v1 b1 τ1 e1 q1 c4))) rfl ?_
        refine p_callV (As := [(0, x1), (0, x6), (0, (fM_soon τ1 (fM_from τ1 x6)))]) (st := []) (n := 3) (d' := 2) (Q1 := Q2) pc11 ok_X11_by ml_X11_489 im_X11_by se_X11_by dX11_soonestOf_98 (ob_68 S1) (pargs_of rfl) rfl (Nat.le_of_ble_eq_true rfl) (by omega) (f2 c2 v1 b1 τ1 e1 q1 c4 c5) (fun r2 τ2 e2 q2 w2 => ?_)
        obtain ⟨v2, rfl⟩ := w2
        have S2 : Stat τ2 := (Stat.le (σ := τ1) S1 e2)
        show pR mX11_soonestOf d 101 [(2, 68), (0, x1), (0, x2), (0, x3), (0, x4), (0, x5), (0, x6), u7] [(0, v2)] τ2 Q
        refine pGoL (ls2 := [(2, 68), (0, x1), (0, x2), (0, x3), (0, x4), (0, x5), (0, x6), (0, v2)]) (s_istore dX11_soonestOf_101 (by decide) rfl) rfl ?_
        refine pGo (s_iload dX11_soonestOf_103 rfl) ?_
        refine p_iflt (tgt := 145) dX11_soonestOf_105 (by decide) (g6 c2 v1 b1 τ1 e1 q1 c4 c5 v2 τ2 e2 q2) (fun c7 => ?_) (fun c8 => ?_)
        · refine pGoL (ls2 := [(2, 68), (0, x1), (0, x2), (0, x3), (0, x4), (0, x5), (0, (x6 + 1)), (0, v2)]) (s_iinc dX11_soonestOf_145 (by decide) rfl rfl) rfl ?_
          refine pGo (s_goto (tgt := 46) dX11_soonestOf_148 (by decide)) ?_
          exact (k3 c2 v1 b1 τ1 e1 q1 c4 c5 v2 τ2 e2 q2 c7)
        · refine pGo (s_iload dX11_soonestOf_108 rfl) ?_
          refine pGo (s_aload_n dX11_soonestOf_110 rfl (by decide)) ?_
          refine pGoE (y := 106) (s_getF pc11 fl_X11_127 dX11_soonestOf_111 (ob_68 S2) rfl (by decide)) (by decide) ?_
          refine pGo (s_aload_n dX11_soonestOf_114 rfl (by decide)) ?_
          refine pGoE (y := 78) (s_getF pc11 fl_X11_42 dX11_soonestOf_115 (ob_68 S2) rfl (by decide)) (by decide) ?_
          refine pGo (s_iload dX11_soonestOf_118 rfl) ?_
          refine pGoE (y := (fM_to τ2 x6)) (s_iald dX11_soonestOf_120 (ob_78 S2) (bnd (g3 c2 v1 b1 τ1 e1 q1 c4))) rfl ?_
          refine pGoE (y := (fM_soon τ2 (fM_to τ2 x6))) (s_iald dX11_soonestOf_121 (ob_106 S2) (bnd (g7 c2 v1 b1 τ1 e1 q1 c4 c5 v2 τ2 e2 q2 c8))) rfl ?_
          refine p_iclt (tgt := 128) dX11_soonestOf_122 (by decide) (g6 c2 v1 b1 τ1 e1 q1 c4 c5 v2 τ2 e2 q2) (g8 c2 v1 b1 τ1 e1 q1 c4 c5 v2 τ2 e2 q2 c8) (fun c9 => ?_) (fun c10 => ?_)
          · refine pGo (s_aload_n dX11_soonestOf_128 rfl (by decide)) ?_
            refine pGoE (y := 106) (s_getF pc11 fl_X11_127 dX11_soonestOf_129 (ob_68 S2) rfl (by decide)) (by decide) ?_
            refine pGo (s_aload_n dX11_soonestOf_132 rfl (by decide)) ?_
            refine pGoE (y := 78) (s_getF pc11 fl_X11_42 dX11_soonestOf_133 (ob_68 S2) rfl (by decide)) (by decide) ?_
            refine pGo (s_iload dX11_soonestOf_136 rfl) ?_
            refine pGoE (y := (fM_to τ2 x6)) (s_iald dX11_soonestOf_138 (ob_78 S2) (bnd (g3 c2 v1 b1 τ1 e1 q1 c4))) rfl ?_
            refine pGo (s_iload dX11_soonestOf_139 rfl) ?_
            refine pGo (s_iast dX11_soonestOf_141 (ob_106 S2) (bnd (g7 c2 v1 b1 τ1 e1 q1 c4 c5 v2 τ2 e2 q2 c8))) ?_
            refine pGo (s_iconst dX11_soonestOf_142) ?_
            refine pGoL (ls2 := [(2, 68), (0, x1), (0, x2), (0, x3), (0, x4), (0, 1), (0, x6), (0, v2)]) (s_istore dX11_soonestOf_143 (by decide) rfl) rfl ?_
            refine pGoL (ls2 := [(2, 68), (0, x1), (0, x2), (0, x3), (0, x4), (0, 1), (0, (x6 + 1)), (0, v2)]) (s_iinc dX11_soonestOf_145 (by decide) rfl rfl) rfl ?_
            refine pGo (s_goto (tgt := 46) dX11_soonestOf_148 (by decide)) ?_
            exact (k4 c2 v1 b1 τ1 e1 q1 c4 c5 v2 τ2 e2 q2 c8 c9)
          · refine pGo (s_goto (tgt := 145) dX11_soonestOf_125 (by decide)) ?_
            refine pGoL (ls2 := [(2, 68), (0, x1), (0, x2), (0, x3), (0, x4), (0, x5), (0, (x6 + 1)), (0, v2)]) (s_iinc dX11_soonestOf_145 (by decide) rfl rfl) rfl ?_
            refine pGo (s_goto (tgt := 46) dX11_soonestOf_148 (by decide)) ?_
            exact (k5 c2 v1 b1 τ1 e1 q1 c4 c5 v2 τ2 e2 q2 c8 c10)
      · refine pGo (s_goto (tgt := 145) dX11_soonestOf_79 (by decide)) ?_
        refine pGoL (ls2 := [(2, 68), (0, x1), (0, x2), (0, x3), (0, x4), (0, x5), (0, (x6 + 1)), u7]) (s_iinc dX11_soonestOf_145 (by decide) rfl rfl) rfl ?_
        refine pGo (s_goto (tgt := 46) dX11_soonestOf_148 (by decide)) ?_
        exact (k6 c2 v1 b1 τ1 e1 q1 c4 c6)
