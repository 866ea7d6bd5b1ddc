/-! walks: simple calls -/
set_option maxRecDepth 100000 in
theorem g_X11_four_0 {d : Nat} {σ : pS} {Q : Option pV → pS → Prop} (hd : 0 ≤ d) (hst : Stat σ) (x1 : Int)  (k1 : pR mX11_four d 3 [(2, 68), (0, x1), (0, 24)] [] σ Q) : pC mX11_four d [(2, 68), (0, x1)] σ Q := by
  show pR mX11_four d 0 [(2, 68), (0, x1), (9, 0)] [] σ Q
  refine pGo (s_bipush dX11_four_0 (by decide)) ?_
  refine pGoL (ls2 := [(2, 68), (0, x1), (0, 24)]) (s_istore_n dX11_four_2 (by decide) rfl) rfl ?_
  exact k1
set_option maxRecDepth 100000 in
theorem g_X11_four_3 {d : Nat} {σ : pS} {Q : Option pV → pS → Prop} (hd : 0 ≤ d) (hst : Stat σ) (x1 : Int) (x2 : Int)  (g1 : inR x2) (k1 : ∀ (c1 : x2 < 0), Q none σ) (g2 : ∀ (c2 : 0 ≤ x2), 0 ≤ (rd σ 68 1) ∧ (rd σ 68 1) < 1400) (k2 : ∀ (c2 : 0 ≤ x2), pR mX11_four d 3 [(2, 68), (0, x1), (0, (x2 + (-8)))] [] (wr (wr σ 69 (rd σ 68 1) (i_and (i_shr x1 x2) 255)) 68 1 ((rd σ 68 1) + 1)) Q) : pR mX11_four d 3 [(2, 68), (0, x1), (0, x2)] [] σ Q := by
  refine pGo (s_iload_n dX11_four_3 rfl) ?_
  refine p_iflt (tgt := 39) dX11_four_4 (by decide) g1 (fun c1 => ?_) (fun c2 => ?_)
  · exact pEnd (r := none) dX11_four_39 rfl (k1 c1)
  · refine pGo (s_aload_n dX11_four_7 rfl (by decide)) ?_
    refine pGoE (y := 69) (s_getF pc11 fl_X11_7 dX11_four_8 (ob_68 hst) rfl (by decide)) (by decide) ?_
    refine pGo (s_aload_n dX11_four_11 rfl (by decide)) ?_
    refine pGoE (y := (rd σ 68 1)) (s_getI pc11 fl_X11_233 dX11_four_12 (ob_68 hst) rfl (by decide)) rfl ?_
    refine pGo (s_iload_n dX11_four_15 rfl) ?_
    refine pGo (s_iload_n dX11_four_16 rfl) ?_
    refine pGo (s_ishr dX11_four_17) ?_
    refine pGo (s_sipush dX11_four_18 (by decide)) ?_
    refine pGo (s_iand dX11_four_21) ?_
    refine pGo (s_iast dX11_four_22 (ob_69 hst) (bnd (g2 c2))) ?_
    refine pGo (s_aload_n dX11_four_23 rfl (by decide)) ?_
    refine pGo (s_dup dX11_four_24 (by decide)) ?_
    refine pGoE (y := (rd σ 68 1)) (s_getI pc11 fl_X11_233 dX11_four_25 (ob_68 hst) rfl (by decide)) (rd_wr_a _ (by decide)) ?_
    refine pGo (s_iconst dX11_four_28) ?_
    refine pGo (s_iadd dX11_four_29) ?_
    refine pGo (s_putI pc11 fl_X11_233 dX11_four_30 (ob_68 hst) rfl rfl rfl rfl) ?_
    refine pGoL (ls2 := [(2, 68), (0, x1), (0, (x2 + (-8)))]) (s_iinc dX11_four_33 (by decide) rfl rfl) rfl ?_
    refine pGo (s_goto (tgt := 3) dX11_four_36 (by decide)) ?_
    exact (k2 c2)
set_option maxRecDepth 100000 in
theorem g_X11_feed_0 {d : Nat} {σ : pS} {Q : Option pV → pS → Prop} {Q1 : Option pV → pS → Prop} {Q2 : Option pV → pS → Prop} {Q3 : Option pV → pS → Prop} {Q4 : Option pV → pS → Prop} {Q5 : Option pV → pS → Prop} (hd : 1 ≤ d) (hst : Stat σ) (x1 : Int) (x2 : Int) (x3 : Int) (x4 : Int) (x5 : Int)  (g1 : inR ((rd σ 68 1) + 20)) (f1 : ∀ (c1 : ((rd σ 68 1) + 20) ≤ 1400), pC mX11_four 0 [(2, 68), (0, x1)] σ Q1) (f2 : ∀ (c1 : ((rd σ 68 1) + 20) ≤ 1400) (τ1 : pS) (e1 : pLe σ τ1) (q1 : Q1 none τ1), pC mX11_four 0 [(2, 68), (0, x2)] τ1 Q2) (f3 : ∀ (c1 : ((rd σ 68 1) + 20) ≤ 1400) (τ1 : pS) (e1 : pLe σ τ1) (q1 : Q1 none τ1) (τ2 : pS) (e2 : pLe τ1 τ2) (q2 : Q2 none τ2), pC mX11_four 0 [(2, 68), (0, x3)] τ2 Q3) (f4 : ∀ (c1 : ((rd σ 68 1) + 20) ≤ 1400) (τ1 : pS) (e1 : pLe σ τ1) (q1 : Q1 none τ1) (τ2 : pS) (e2 : pLe τ1 τ2) (q2 : Q2 none τ2) (τ3 : pS) (e3 : pLe τ2 τ3) (q3 : Q3 none τ3), pC mX11_four 0 [(2, 68), (0, x4)] τ3 Q4) (f5 : ∀ (c1 : ((rd σ 68 1) + 20) ≤ 1400) (τ1 : pS) (e1 : pLe σ τ1) (q1 : Q1 none τ1) (τ2 : pS) (e2 : pLe τ1 τ2) (q2 : Q2 none τ2) (τ3 : pS) (e3 : pLe τ2 τ3) (q3 : Q3 none τ3) (τ4 : pS) (e4 : pLe τ3 τ4) (q4 : Q4 none τ4), pC mX11_four 0 [(2, 68), (0, x5)] τ4 Q5) (k1 : ∀ (c1 : ((rd σ 68 1) + 20) ≤ 1400) (τ1 : pS) (e1 : pLe σ τ1) (q1 : Q1 none τ1) (τ2 : pS) (e2 : pLe τ1 τ2) (q2 : Q2 none τ2) (τ3 : pS) (e3 : pLe τ2 τ3) (q3 : Q3 none τ3) (τ4 : pS) (e4 : pLe τ3 τ4) (q4 : Q4 none τ4) (τ5 : pS) (e5 : pLe τ4 τ5) (q5 : Q5 none τ5), Q (some (0, (rd τ5 68 1))) τ5) (k2 : ∀ (c2 : 1400 < ((rd σ 68 1) + 20)), Q (some (0, (-1))) σ) : pC mX11_feed d [(2, 68), (0, x1), (0, x2), (0, x3), (0, x4), (0, x5)] σ Q := by
  show pR mX11_feed d 0 [(2, 68), (0, x1), (0, x2), (0, x3), (0, x4), (0, x5)] [] σ Q
  refine pGo (s_aload_n dX11_feed_0 rfl (by decide)) ?_
  refine pGoE (y := (rd σ 68 1)) (s_getI pc11 fl_X11_233 dX11_feed_1 (ob_68 hst) rfl (by decide)) rfl ?_
  refine pGo (s_bipush dX11_feed_4 (by decide)) ?_
  refine pGo (s_iadd dX11_feed_6) ?_
  refine pGo (s_sipush dX11_feed_7 (by decide)) ?_
  refine p_icle (tgt := 15) dX11_feed_10 (by decide) g1 (by decide) (fun c1 => ?_) (fun c2 => ?_)
  · refine pGo (s_aload_n dX11_feed_15 rfl (by decide)) ?_
    refine pGo (s_iload_n dX11_feed_16 rfl) ?_
    refine p_callV (As := [(0, x1)]) (st := []) (n := 1) (d' := 0) (Q1 := Q1) pc11 ok_X11_four ml_X11_236 im_X11_four se_X11_four dX11_feed_17 (ob_68 hst) (pargs_of rfl) rfl (Nat.le_of_ble_eq_true rfl) (by omega) (f1 c1) (fun r1 τ1 e1 q1 w1 => ?_)
    obtain rfl : r1 = none := w1
    have S1 : Stat τ1 := (Stat.le (σ := σ) hst e1)
    show pR mX11_feed d 20 [(2, 68), (0, x1), (0, x2), (0, x3), (0, x4), (0, x5)] [] τ1 Q
    refine pGo (s_aload_n dX11_feed_20 rfl (by decide)) ?_
    refine pGo (s_iload_n dX11_feed_21 rfl) ?_
    refine p_callV (As := [(0, x2)]) (st := []) (n := 1) (d' := 0) (Q1 := Q2) pc11 ok_X11_four ml_X11_236 im_X11_four se_X11_four dX11_feed_22 (ob_68 S1) (pargs_of rfl) rfl (Nat.le_of_ble_eq_true rfl) (by omega) (f2 c1 τ1 e1 q1) (fun r2 τ2 e2 q2 w2 => ?_)
    obtain rfl : r2 = none := w2
    have S2 : Stat τ2 := (Stat.le (σ := τ1) S1 e2)
    show pR mX11_feed d 25 [(2, 68), (0, x1), (0, x2), (0, x3), (0, x4), (0, x5)] [] τ2 Q
    refine pGo (s_aload_n dX11_feed_25 rfl (by decide)) ?_
    refine pGo (s_iload_n dX11_feed_26 rfl) ?_
    refine p_callV (As := [(0, x3)]) (st := []) (n := 1) (d' := 0) (Q1 := Q3) pc11 ok_X11_four ml_X11_236 im_X11_four se_X11_four dX11_feed_27 (ob_68 S2) (pargs_of rfl) rfl (Nat.le_of_ble_eq_true rfl) (by omega) (f3 c1 τ1 e1 q1 τ2 e2 q2) (fun r3 τ3 e3 q3 w3 => ?_)
    obtain rfl : r3 = none := w3
    have S3 : Stat τ3 := (Stat.le (σ := τ2) S2 e3)
    show pR mX11_feed d 30 [(2, 68), (0, x1), (0, x2), (0, x3), (0, x4), (0, x5)] [] τ3 Q
    refine pGo (s_aload_n dX11_feed_30 rfl (by decide)) ?_
    refine pGo (s_iload dX11_feed_31 rfl) ?_
    refine p_callV (As := [(0, x4)]) (st := []) (n := 1) (d' := 0) (Q1 := Q4) pc11 ok_X11_four ml_X11_236 im_X11_four se_X11_four dX11_feed_33 (ob_68 S3) (pargs_of rfl) rfl (Nat.le_of_ble_eq_true rfl) (by omega) (f4 c1 τ1 e1 q1 τ2 e2 q2 τ3 e3 q3) (fun r4 τ4 e4 q4 w4 => ?_)
    obtain rfl : r4 = none := w4
    have S4 : Stat τ4 := (Stat.le (σ := τ3) S3 e4)
    show pR mX11_feed d 36 [(2, 68), (0, x1), (0, x2), (0, x3), (0, x4), (0, x5)] [] τ4 Q
    refine pGo (s_aload_n dX11_feed_36 rfl (by decide)) ?_
    refine pGo (s_iload dX11_feed_37 rfl) ?_
    refine p_callV (As := [(0, x5)]) (st := []) (n := 1) (d' := 0) (Q1 := Q5) pc11 ok_X11_four ml_X11_236 im_X11_four se_X11_four dX11_feed_39 (ob_68 S4) (pargs_of rfl) rfl (Nat.le_of_ble_eq_true rfl) (by omega) (f5 c1 τ1 e1 q1 τ2 e2 q2 τ3 e3 q3 τ4 e4 q4) (fun r5 τ5 e5 q5 w5 => ?_)
    obtain rfl : r5 = none := w5
    have S5 : Stat τ5 := (Stat.le (σ := τ4) S4 e5)
    show pR mX11_feed d 42 [(2, 68), (0, x1), (0, x2), (0, x3), (0, x4), (0, x5)] [] τ5 Q
    refine pGo (s_aload_n dX11_feed_42 rfl (by decide)) ?_
    refine pGoE (y := (rd τ5 68 1)) (s_getI pc11 fl_X11_233 dX11_feed_43 (ob_68 S5) rfl (by decide)) rfl ?_
    exact pEnd (r := (some (0, (rd τ5 68 1)))) dX11_feed_46 ⟨_, rfl⟩ (k1 c1 τ1 e1 q1 τ2 e2 q2 τ3 e3 q3 τ4 e4 q4 τ5 e5 q5)
  · refine pGo (s_iconst dX11_feed_13) ?_
    exact pEnd (r := (some (0, (-1)))) dX11_feed_14 ⟨_, rfl⟩ (k2 c2)
set_option maxRecDepth 100000 in
theorem g_X11_end_0 {d : Nat} {σ : pS} {Q : Option pV → pS → Prop} (hd : 0 ≤ d) (hst : Stat σ) (x1 : Int)  (g1 : inR x1) (k1 : ∀ (c1 : x1 < 0), Q (some (0, (-1))) σ) (g2 : ∀ (c2 : 0 ≤ x1), inR (rd σ 68 1)) (k2 : ∀ (c2 : 0 ≤ x1) (c3 : x1 ≤ (rd σ 68 1)), Q (some (0, x1)) (wr σ 68 1 x1)) (k3 : ∀ (c2 : 0 ≤ x1) (c4 : (rd σ 68 1) < x1), Q (some (0, (-1))) σ) : pC mX11_end d [(2, 68), (0, x1)] σ Q := by
  show pR mX11_end d 0 [(2, 68), (0, x1)] [] σ Q
  refine pGo (s_iload_n dX11_end_0 rfl) ?_
  refine p_iflt (tgt := 12) dX11_end_1 (by decide) g1 (fun c1 => ?_) (fun c2 => ?_)
  · refine pGo (s_iconst dX11_end_12) ?_
    exact pEnd (r := (some (0, (-1)))) dX11_end_13 ⟨_, rfl⟩ (k1 c1)
  · refine pGo (s_iload_n dX11_end_4 rfl) ?_
    refine pGo (s_aload_n dX11_end_5 rfl (by decide)) ?_
    refine pGoE (y := (rd σ 68 1)) (s_getI pc11 fl_X11_233 dX11_end_6 (ob_68 hst) rfl (by decide)) rfl ?_
    refine p_icle (tgt := 14) dX11_end_9 (by decide) g1 (g2 c2) (fun c3 => ?_) (fun c4 => ?_)
    · refine pGo (s_aload_n dX11_end_14 rfl (by decide)) ?_
      refine pGo (s_iload_n dX11_end_15 rfl) ?_
      refine pGo (s_putI pc11 fl_X11_233 dX11_end_16 (ob_68 hst) rfl rfl rfl rfl) ?_
      refine pGo (s_iload_n dX11_end_19 rfl) ?_
      exact pEnd (r := (some (0, x1))) dX11_end_20 ⟨_, rfl⟩ (k2 c2 c3)
    · refine pGo (s_iconst dX11_end_12) ?_
      exact pEnd (r := (some (0, (-1)))) dX11_end_13 ⟨_, rfl⟩ (k3 c2 c4)
set_option maxRecDepth 100000 in
theorem g_X11_fault_0 {d : Nat} {σ : pS} {Q : Option pV → pS → Prop} (hd : 0 ≤ d) (hst : Stat σ) (x1 : Int)  (g1 : inR x1) (k1 : ∀ (c1 : x1 ≠ 0) (c3 : x1 ≠ 1), Q (some (0, (-1))) σ) (k2 : ∀ (c1 : x1 ≠ 0) (c4 : x1 = 1), Q (some (0, (rd σ 68 3))) σ) (k3 : ∀ (c2 : x1 = 0), Q (some (0, (rd σ 68 2))) σ) : pC mX11_fault d [(2, 68), (0, x1)] σ Q := by
  show pR mX11_fault d 0 [(2, 68), (0, x1)] [] σ Q
  refine pGo (s_iload_n dX11_fault_0 rfl) ?_
  refine p_ifne (tgt := 11) dX11_fault_1 (by decide) g1 (fun c1 => ?_) (fun c2 => ?_)
  · refine pGo (s_iload_n dX11_fault_11 rfl) ?_
    refine pGo (s_iconst dX11_fault_12) ?_
    refine p_icne (tgt := 23) dX11_fault_13 (by decide) g1 (by decide) (fun c3 => ?_) (fun c4 => ?_)
    · refine pGo (s_iconst dX11_fault_23) ?_
      exact pEnd (r := (some (0, (-1)))) dX11_fault_24 ⟨_, rfl⟩ (k1 c1 c3)
    · refine pGo (s_aload_n dX11_fault_16 rfl (by decide)) ?_
      refine pGoE (y := (rd σ 68 3)) (s_getI pc11 fl_X11_13 dX11_fault_17 (ob_68 hst) rfl (by decide)) rfl ?_
      refine pGo (s_goto (tgt := 24) dX11_fault_20 (by decide)) ?_
      exact pEnd (r := (some (0, (rd σ 68 3)))) dX11_fault_24 ⟨_, rfl⟩ (k2 c1 c4)
  · refine pGo (s_aload_n dX11_fault_4 rfl (by decide)) ?_
    refine pGoE (y := (rd σ 68 2)) (s_getI pc11 fl_X11_273 dX11_fault_5 (ob_68 hst) rfl (by decide)) rfl ?_
    refine pGo (s_goto (tgt := 24) dX11_fault_8 (by decide)) ?_
    exact pEnd (r := (some (0, (rd σ 68 2)))) dX11_fault_24 ⟨_, rfl⟩ (k3 c2)
set_option maxRecDepth 100000 in
theorem g_X11_weather_0 {d : Nat} {σ : pS} {Q : Option pV → pS → Prop} (hd : 0 ≤ d) (hst : Stat σ) (x1 : Int) (x2 : Int) (x3 : Int)  (g1 : inR (rd σ 68 51)) (k1 : ∀ (c1 : (rd σ 68 51) = 60), Q (some (0, (-1))) σ) (g2 : ∀ (c2 : (rd σ 68 51) ≠ 60), inR x1) (k2 : ∀ (c2 : (rd σ 68 51) ≠ 60) (c3 : x1 < 0), Q (some (0, (-1))) σ) (k3 : ∀ (c2 : (rd σ 68 51) ≠ 60) (c4 : 0 ≤ x1) (c5 : 8 ≤ x1), Q (some (0, (-1))) σ) (g3 : ∀ (c2 : (rd σ 68 51) ≠ 60) (c4 : 0 ≤ x1) (c6 : x1 < 8), inR x2) (k4 : ∀ (c2 : (rd σ 68 51) ≠ 60) (c4 : 0 ≤ x1) (c6 : x1 < 8) (c7 : x2 < 0), Q (some (0, (-1))) σ) (k5 : ∀ (c2 : (rd σ 68 51) ≠ 60) (c4 : 0 ≤ x1) (c6 : x1 < 8) (c8 : 0 ≤ x2) (c9 : 99 < x2), Q (some (0, (-1))) σ) (g4 : ∀ (c2 : (rd σ 68 51) ≠ 60) (c4 : 0 ≤ x1) (c6 : x1 < 8) (c8 : 0 ≤ x2) (c10 : x2 ≤ 99), inR x3) (k6 : ∀ (c2 : (rd σ 68 51) ≠ 60) (c4 : 0 ≤ x1) (c6 : x1 < 8) (c8 : 0 ≤ x2) (c10 : x2 ≤ 99) (c11 : x3 < 0), Q (some (0, (-1))) σ) (g5 : ∀ (c2 : (rd σ 68 51) ≠ 60) (c4 : 0 ≤ x1) (c6 : x1 < 8) (c8 : 0 ≤ x2) (c10 : x2 ≤ 99) (c12 : 0 ≤ x3) (c13 : x3 ≤ 40), 0 ≤ (rd σ 68 51) ∧ (rd σ 68 51) < 60) (k7 : ∀ (c2 : (rd σ 68 51) ≠ 60) (c4 : 0 ≤ x1) (c6 : x1 < 8) (c8 : 0 ≤ x2) (c10 : x2 ≤ 99) (c12 : 0 ≤ x3) (c13 : x3 ≤ 40), Q (some (0, (((rd σ 68 51) + 1) - 1))) (wr (wr (wr (wr (wr (wr σ 96 (rd σ 68 51) x1) 97 (rd σ 68 51) x2) 98 (rd σ 68 51) x3) 99 (rd σ 68 51) (rd σ 68 52)) 100 (rd σ 68 51) (-1)) 68 51 ((rd σ 68 51) + 1))) (k8 : ∀ (c2 : (rd σ 68 51) ≠ 60) (c4 : 0 ≤ x1) (c6 : x1 < 8) (c8 : 0 ≤ x2) (c10 : x2 ≤ 99) (c12 : 0 ≤ x3) (c14 : 40 < x3), Q (some (0, (-1))) σ) : pC mX11_weather d [(2, 68), (0, x1), (0, x2), (0, x3)] σ Q := by
  show pR mX11_weather d 0 [(2, 68), (0, x1), (0, x2), (0, x3)] [] σ Q
  refine pGo (s_aload_n dX11_weather_0 rfl (by decide)) ?_
  refine pGoE (y := (rd σ 68 51)) (s_getI pc11 fl_X11_446 dX11_weather_1 (ob_68 hst) rfl (by decide)) rfl ?_
  refine pGo (s_bipush dX11_weather_4 (by decide)) ?_
  refine p_iceq (tgt := 39) dX11_weather_6 (by decide) g1 (by decide) (fun c1 => ?_) (fun c2 => ?_)
  · refine pGo (s_iconst dX11_weather_39) ?_
    exact pEnd (r := (some (0, (-1)))) dX11_weather_40 ⟨_, rfl⟩ (k1 c1)
  · refine pGo (s_iload_n dX11_weather_9 rfl) ?_
    refine p_iflt (tgt := 39) dX11_weather_10 (by decide) (g2 c2) (fun c3 => ?_) (fun c4 => ?_)
    · refine pGo (s_iconst dX11_weather_39) ?_
      exact pEnd (r := (some (0, (-1)))) dX11_weather_40 ⟨_, rfl⟩ (k2 c2 c3)
    · refine pGo (s_iload_n dX11_weather_13 rfl) ?_
      refine pGo (s_bipush dX11_weather_14 (by decide)) ?_
      refine p_icge (tgt := 39) dX11_weather_16 (by decide) (g2 c2) (by decide) (fun c5 => ?_) (fun c6 => ?_)
      · refine pGo (s_iconst dX11_weather_39) ?_
        exact pEnd (r := (some (0, (-1)))) dX11_weather_40 ⟨_, rfl⟩ (k3 c2 c4 c5)
      · refine pGo (s_iload_n dX11_weather_19 rfl) ?_
        refine p_iflt (tgt := 39) dX11_weather_20 (by decide) (g3 c2 c4 c6) (fun c7 => ?_) (fun c8 => ?_)
        · refine pGo (s_iconst dX11_weather_39) ?_
          exact pEnd (r := (some (0, (-1)))) dX11_weather_40 ⟨_, rfl⟩ (k4 c2 c4 c6 c7)
        · refine pGo (s_iload_n dX11_weather_23 rfl) ?_
          refine pGo (s_bipush dX11_weather_24 (by decide)) ?_
          refine p_icgt (tgt := 39) dX11_weather_26 (by decide) (g3 c2 c4 c6) (by decide) (fun c9 => ?_) (fun c10 => ?_)
          · refine pGo (s_iconst dX11_weather_39) ?_
            exact pEnd (r := (some (0, (-1)))) dX11_weather_40 ⟨_, rfl⟩ (k5 c2 c4 c6 c8 c9)
          · refine pGo (s_iload_n dX11_weather_29 rfl) ?_
            refine p_iflt (tgt := 39) dX11_weather_30 (by decide) (g4 c2 c4 c6 c8 c10) (fun c11 => ?_) (fun c12 => ?_)
            · refine pGo (s_iconst dX11_weather_39) ?_
              exact pEnd (r := (some (0, (-1)))) dX11_weather_40 ⟨_, rfl⟩ (k6 c2 c4 c6 c8 c10 c11)
            · refine pGo (s_iload_n dX11_weather_33 rfl) ?_
              refine pGo (s_bipush dX11_weather_34 (by decide)) ?_
              refine p_icle (tgt := 41) dX11_weather_36 (by decide) (g4 c2 c4 c6 c8 c10) (by decide) (fun c13 => ?_) (fun c14 => ?_)
              · refine pGo (s_aload_n dX11_weather_41 rfl (by decide)) ?_
                refine pGoE (y := 96) (s_getF pc11 fl_X11_97 dX11_weather_42 (ob_68 hst) rfl (by decide)) (by decide) ?_
                refine pGo (s_aload_n dX11_weather_45 rfl (by decide)) ?_
                refine pGoE (y := (rd σ 68 51)) (s_getI pc11 fl_X11_446 dX11_weather_46 (ob_68 hst) rfl (by decide)) rfl ?_
                refine pGo (s_iload_n dX11_weather_49 rfl) ?_
                refine pGo (s_iast dX11_weather_50 (ob_96 hst) (bnd (g5 c2 c4 c6 c8 c10 c12 c13))) ?_
                refine pGo (s_aload_n dX11_weather_51 rfl (by decide)) ?_
                refine pGoE (y := 97) (s_getF pc11 fl_X11_100 dX11_weather_52 (ob_68 hst) rfl (by decide)) (by decide) ?_
                refine pGo (s_aload_n dX11_weather_55 rfl (by decide)) ?_
                refine pGoE (y := (rd σ 68 51)) (s_getI pc11 fl_X11_446 dX11_weather_56 (ob_68 hst) rfl (by decide)) (rd_wr_a _ (by decide)) ?_
                refine pGo (s_iload_n dX11_weather_59 rfl) ?_
                refine pGo (s_iast dX11_weather_60 (ob_97 hst) (bnd (g5 c2 c4 c6 c8 c10 c12 c13))) ?_
                refine pGo (s_aload_n dX11_weather_61 rfl (by decide)) ?_
                refine pGoE (y := 98) (s_getF pc11 fl_X11_103 dX11_weather_62 (ob_68 hst) rfl (by decide)) (by decide) ?_
                refine pGo (s_aload_n dX11_weather_65 rfl (by decide)) ?_
                refine pGoE (y := (rd σ 68 51)) (s_getI pc11 fl_X11_446 dX11_weather_66 (ob_68 hst) rfl (by decide)) ((rd_wr_a _ (by decide)).trans (rd_wr_a _ (by decide))) ?_
                refine pGo (s_iload_n dX11_weather_69 rfl) ?_
                refine pGo (s_iast dX11_weather_70 (ob_98 hst) (bnd (g5 c2 c4 c6 c8 c10 c12 c13))) ?_
                refine pGo (s_aload_n dX11_weather_71 rfl (by decide)) ?_
                refine pGoE (y := 99) (s_getF pc11 fl_X11_106 dX11_weather_72 (ob_68 hst) rfl (by decide)) (by decide) ?_
                refine pGo (s_aload_n dX11_weather_75 rfl (by decide)) ?_
                refine pGoE (y := (rd σ 68 51)) (s_getI pc11 fl_X11_446 dX11_weather_76 (ob_68 hst) rfl (by decide)) ((rd_wr_a _ (by decide)).trans ((rd_wr_a _ (by decide)).trans (rd_wr_a _ (by decide)))) ?_
                refine pGo (s_aload_n dX11_weather_79 rfl (by decide)) ?_
                refine pGoE (y := (rd σ 68 52)) (s_getI pc11 fl_X11_449 dX11_weather_80 (ob_68 hst) rfl (by decide)) ((rd_wr_a _ (by decide)).trans ((rd_wr_a _ (by decide)).trans (rd_wr_a _ (by decide)))) ?_
                refine pGo (s_iast dX11_weather_83 (ob_99 hst) (bnd (g5 c2 c4 c6 c8 c10 c12 c13))) ?_
                refine pGo (s_aload_n dX11_weather_84 rfl (by decide)) ?_
                refine pGoE (y := 100) (s_getF pc11 fl_X11_109 dX11_weather_85 (ob_68 hst) rfl (by decide)) (by decide) ?_
                refine pGo (s_aload_n dX11_weather_88 rfl (by decide)) ?_
                refine pGoE (y := (rd σ 68 51)) (s_getI pc11 fl_X11_446 dX11_weather_89 (ob_68 hst) rfl (by decide)) ((rd_wr_a _ (by decide)).trans ((rd_wr_a _ (by decide)).trans ((rd_wr_a _ (by decide)).trans (rd_wr_a _ (by decide))))) ?_
                refine pGo (s_iconst dX11_weather_92) ?_
                refine pGo (s_iast dX11_weather_93 (ob_100 hst) (bnd (g5 c2 c4 c6 c8 c10 c12 c13))) ?_
                refine pGo (s_aload_n dX11_weather_94 rfl (by decide)) ?_
                refine pGo (s_dup dX11_weather_95 (by decide)) ?_
                refine pGoE (y := (rd σ 68 51)) (s_getI pc11 fl_X11_446 dX11_weather_96 (ob_68 hst) rfl (by decide)) ((rd_wr_a _ (by decide)).trans ((rd_wr_a _ (by decide)).trans ((rd_wr_a _ (by decide)).trans ((rd_wr_a _ (by decide)).trans (rd_wr_a _ (by decide)))))) ?_
                refine pGo (s_iconst dX11_weather_99) ?_
                refine pGo (s_iadd dX11_weather_100) ?_
                refine pGo (s_putI pc11 fl_X11_446 dX11_weather_101 (ob_68 hst) rfl rfl rfl rfl) ?_
                refine pGo (s_aload_n dX11_weather_104 rfl (by decide)) ?_
                refine pGoE (y := ((rd σ 68 51) + 1)) (s_getI pc11 fl_X11_446 dX11_weather_105 (ob_68 hst) rfl (by decide)) (rd_wr_same _ _ _ _) ?_
                refine pGo (s_iconst dX11_weather_108) ?_
                refine pGo (s_isub dX11_weather_109) ?_
                exact pEnd (r := (some (0, (((rd σ 68 51) + 1) - 1)))) dX11_weather_110 ⟨_, rfl⟩ (k7 c2 c4 c6 c8 c10 c12 c13)
              · refine pGo (s_iconst dX11_weather_39) ?_
                exact pEnd (r := (some (0, (-1)))) dX11_weather_40 ⟨_, rfl⟩ (k8 c2 c4 c6 c8 c10 c12 c14)
set_option maxRecDepth 100000 in
theorem g_X11_untell_0 {d : Nat} {σ : pS} {Q : Option pV → pS → Prop} (hd : 0 ≤ d) (hst : Stat σ) (x1 : Int)  (g1 : inR x1) (k1 : ∀ (c1 : x1 < 0), Q (some (0, 0)) σ) (g2 : ∀ (c2 : 0 ≤ x1), inR (rd σ 68 51)) (k2 : ∀ (c2 : 0 ≤ x1) (c3 : (rd σ 68 51) ≤ x1), Q (some (0, 0)) σ) (g3 : ∀ (c2 : 0 ≤ x1) (c4 : x1 < (rd σ 68 51)), 0 ≤ x1 ∧ x1 < 60) (g4 : ∀ (c2 : 0 ≤ x1) (c4 : x1 < (rd σ 68 51)), inR (rd σ 100 x1)) (k3 : ∀ (c2 : 0 ≤ x1) (c4 : x1 < (rd σ 68 51)) (c5 : (rd σ 100 x1) < 0), Q (some (0, 1)) (wr σ 100 x1 (rd σ 68 52))) (k4 : ∀ (c2 : 0 ≤ x1) (c4 : x1 < (rd σ 68 51)) (c6 : 0 ≤ (rd σ 100 x1)), Q (some (0, 0)) σ) : pC mX11_untell d [(2, 68), (0, x1)] σ Q := by
  show pR mX11_untell d 0 [(2, 68), (0, x1)] [] σ Q
  refine pGo (s_iload_n dX11_untell_0 rfl) ?_
  refine p_iflt (tgt := 21) dX11_untell_1 (by decide) g1 (fun c1 => ?_) (fun c2 => ?_)
  · refine pGo (s_iconst dX11_untell_21) ?_
    exact pEnd (r := (some (0, 0))) dX11_untell_22 (Or.inl rfl) (k1 c1)
  · refine pGo (s_iload_n dX11_untell_4 rfl) ?_
    refine pGo (s_aload_n dX11_untell_5 rfl (by decide)) ?_
    refine pGoE (y := (rd σ 68 51)) (s_getI pc11 fl_X11_446 dX11_untell_6 (ob_68 hst) rfl (by decide)) rfl ?_
    refine p_icge (tgt := 21) dX11_untell_9 (by decide) g1 (g2 c2) (fun c3 => ?_) (fun c4 => ?_)
    · refine pGo (s_iconst dX11_untell_21) ?_
      exact pEnd (r := (some (0, 0))) dX11_untell_22 (Or.inl rfl) (k2 c2 c3)
    · refine pGo (s_aload_n dX11_untell_12 rfl (by decide)) ?_
      refine pGoE (y := 100) (s_getF pc11 fl_X11_109 dX11_untell_13 (ob_68 hst) rfl (by decide)) (by decide) ?_
      refine pGo (s_iload_n dX11_untell_16 rfl) ?_
      refine pGoE (y := (rd σ 100 x1)) (s_iald dX11_untell_17 (ob_100 hst) (bnd (g3 c2 c4))) rfl ?_
      refine p_iflt (tgt := 23) dX11_untell_18 (by decide) (g4 c2 c4) (fun c5 => ?_) (fun c6 => ?_)
      · refine pGo (s_aload_n dX11_untell_23 rfl (by decide)) ?_
        refine pGoE (y := 100) (s_getF pc11 fl_X11_109 dX11_untell_24 (ob_68 hst) rfl (by decide)) (by decide) ?_
        refine pGo (s_iload_n dX11_untell_27 rfl) ?_
        refine pGo (s_aload_n dX11_untell_28 rfl (by decide)) ?_
        refine pGoE (y := (rd σ 68 52)) (s_getI pc11 fl_X11_449 dX11_untell_29 (ob_68 hst) rfl (by decide)) rfl ?_
        refine pGo (s_iast dX11_untell_32 (ob_100 hst) (bnd (g3 c2 c4))) ?_
        refine pGo (s_iconst dX11_untell_33) ?_
        exact pEnd (r := (some (0, 1))) dX11_untell_34 (Or.inr rfl) (k3 c2 c4 c5)
      · refine pGo (s_iconst dX11_untell_21) ?_
        exact pEnd (r := (some (0, 0))) dX11_untell_22 (Or.inl rfl) (k4 c2 c4 c6)
set_option maxRecDepth 100000 in
theorem g_X11_later_0 {d : Nat} {σ : pS} {Q : Option pV → pS → Prop} (hd : 0 ≤ d) (hst : Stat σ) (x1 : Int)  (g1 : inR x1) (k1 : ∀ (c1 : x1 < 0), Q (some (0, (-1))) σ) (k2 : ∀ (c2 : 0 ≤ x1) (c3 : 1000 < x1), Q (some (0, (-1))) σ) (g2 : ∀ (c2 : 0 ≤ x1) (c4 : x1 ≤ 1000), inR ((rd σ 68 52) + x1)) (k3 : ∀ (c2 : 0 ≤ x1) (c4 : x1 ≤ 1000) (c5 : ((rd σ 68 52) + x1) ≤ 100000), Q (some (0, ((rd σ 68 52) + x1))) (wr σ 68 52 ((rd σ 68 52) + x1))) (k4 : ∀ (c2 : 0 ≤ x1) (c4 : x1 ≤ 1000) (c6 : 100000 < ((rd σ 68 52) + x1)), Q (some (0, (-1))) σ) : pC mX11_later d [(2, 68), (0, x1)] σ Q := by
  show pR mX11_later d 0 [(2, 68), (0, x1)] [] σ Q
  refine pGo (s_iload_n dX11_later_0 rfl) ?_
  refine p_iflt (tgt := 23) dX11_later_1 (by decide) g1 (fun c1 => ?_) (fun c2 => ?_)
  · refine pGo (s_iconst dX11_later_23) ?_
    exact pEnd (r := (some (0, (-1)))) dX11_later_24 ⟨_, rfl⟩ (k1 c1)
  · refine pGo (s_iload_n dX11_later_4 rfl) ?_
    refine pGo (s_sipush dX11_later_5 (by decide)) ?_
    refine p_icgt (tgt := 23) dX11_later_8 (by decide) g1 (by decide) (fun c3 => ?_) (fun c4 => ?_)
    · refine pGo (s_iconst dX11_later_23) ?_
      exact pEnd (r := (some (0, (-1)))) dX11_later_24 ⟨_, rfl⟩ (k2 c2 c3)
    · refine pGo (s_aload_n dX11_later_11 rfl (by decide)) ?_
      refine pGoE (y := (rd σ 68 52)) (s_getI pc11 fl_X11_449 dX11_later_12 (ob_68 hst) rfl (by decide)) rfl ?_
      refine pGo (s_iload_n dX11_later_15 rfl) ?_
      refine pGo (s_iadd dX11_later_16) ?_
      refine pGo (s_ldcw (n := 100000) dX11_later_17 kc_X11_452 (by decide)) ?_
      refine p_icle (tgt := 25) dX11_later_20 (by decide) (g2 c2 c4) (by decide) (fun c5 => ?_) (fun c6 => ?_)
      · refine pGo (s_aload_n dX11_later_25 rfl (by decide)) ?_
        refine pGo (s_dup dX11_later_26 (by decide)) ?_
        refine pGoE (y := (rd σ 68 52)) (s_getI pc11 fl_X11_449 dX11_later_27 (ob_68 hst) rfl (by decide)) rfl ?_
        refine pGo (s_iload_n dX11_later_30 rfl) ?_
        refine pGo (s_iadd dX11_later_31) ?_
        refine pGo (s_putI pc11 fl_X11_449 dX11_later_32 (ob_68 hst) rfl rfl rfl rfl) ?_
        refine pGo (s_aload_n dX11_later_35 rfl (by decide)) ?_
        refine pGoE (y := ((rd σ 68 52) + x1)) (s_getI pc11 fl_X11_449 dX11_later_36 (ob_68 hst) rfl (by decide)) (rd_wr_same _ _ _ _) ?_
        exact pEnd (r := (some (0, ((rd σ 68 52) + x1)))) dX11_later_39 ⟨_, rfl⟩ (k3 c2 c4 c5)
      · refine pGo (s_iconst dX11_later_23) ?_
        exact pEnd (r := (some (0, (-1)))) dX11_later_24 ⟨_, rfl⟩ (k4 c2 c4 c6)
set_option maxRecDepth 100000 in
theorem g_X11_pass_0 {d : Nat} {σ : pS} {Q : Option pV → pS → Prop} (hd : 1 ≤ d) (hst : Stat σ) (x1 : Int) (x2 : Int) (x3 : Int)  (g1 : inR (rd σ 68 65)) (k1 : ∀ (c1 : (rd σ 68 65) = 100), Q (some (0, (-1))) σ) (f1 : ∀ (c2 : (rd σ 68 65) ≠ 100), pC mX11_isSkier 0 [(2, 68), (0, x1)] σ (fun r τ => r = some (0, b2i (vWithin x1 (rd σ 68 64))) ∧ τ = σ)) (k2 : ∀ (c2 : (rd σ 68 65) ≠ 100) (c3 : (vWithin x1 (rd σ 68 64)) = false), Q (some (0, (-1))) σ) (g2 : ∀ (c2 : (rd σ 68 65) ≠ 100) (c4 : (vWithin x1 (rd σ 68 64)) = true), inR x2) (k3 : ∀ (c2 : (rd σ 68 65) ≠ 100) (c4 : (vWithin x1 (rd σ 68 64)) = true) (c5 : x2 < 0), Q (some (0, (-1))) σ) (g3 : ∀ (c2 : (rd σ 68 65) ≠ 100) (c4 : (vWithin x1 (rd σ 68 64)) = true) (c6 : 0 ≤ x2), inR (rd σ 68 30)) (k4 : ∀ (c2 : (rd σ 68 65) ≠ 100) (c4 : (vWithin x1 (rd σ 68 64)) = true) (c6 : 0 ≤ x2) (c7 : (rd σ 68 30) ≤ x2), Q (some (0, (-1))) σ) (g4 : ∀ (c2 : (rd σ 68 65) ≠ 100) (c4 : (vWithin x1 (rd σ 68 64)) = true) (c6 : 0 ≤ x2) (c8 : x2 < (rd σ 68 30)), 0 ≤ x2 ∧ x2 < 6) (g5 : ∀ (c2 : (rd σ 68 65) ≠ 100) (c4 : (vWithin x1 (rd σ 68 64)) = true) (c6 : 0 ≤ x2) (c8 : x2 < (rd σ 68 30)), inR (rd σ 84 x2)) (k5 : ∀ (c2 : (rd σ 68 65) ≠ 100) (c4 : (vWithin x1 (rd σ 68 64)) = true) (c6 : 0 ≤ x2) (c8 : x2 < (rd σ 68 30)) (c9 : (rd σ 84 x2) = 0), Q (some (0, (-1))) σ) (g6 : ∀ (c2 : (rd σ 68 65) ≠ 100) (c4 : (vWithin x1 (rd σ 68 64)) = true) (c6 : 0 ≤ x2) (c8 : x2 < (rd σ 68 30)) (c10 : (rd σ 84 x2) ≠ 0), inR x3) (k6 : ∀ (c2 : (rd σ 68 65) ≠ 100) (c4 : (vWithin x1 (rd σ 68 64)) = true) (c6 : 0 ≤ x2) (c8 : x2 < (rd σ 68 30)) (c10 : (rd σ 84 x2) ≠ 0) (c11 : x3 < 0), Q (some (0, (-1))) σ) (g7 : ∀ (c2 : (rd σ 68 65) ≠ 100) (c4 : (vWithin x1 (rd σ 68 64)) = true) (c6 : 0 ≤ x2) (c8 : x2 < (rd σ 68 30)) (c10 : (rd σ 84 x2) ≠ 0) (c12 : 0 ≤ x3) (c13 : x3 < 480), 0 ≤ (rd σ 68 65) ∧ (rd σ 68 65) < 100) (k7 : ∀ (c2 : (rd σ 68 65) ≠ 100) (c4 : (vWithin x1 (rd σ 68 64)) = true) (c6 : 0 ≤ x2) (c8 : x2 < (rd σ 68 30)) (c10 : (rd σ 84 x2) ≠ 0) (c12 : 0 ≤ x3) (c13 : x3 < 480), Q (some (0, (((rd σ 68 65) + 1) - 1))) (wr (wr (wr (wr (wr (wr σ 108 (rd σ 68 65) x1) 109 (rd σ 68 65) x2) 110 (rd σ 68 65) x3) 111 (rd σ 68 65) (rd σ 68 52)) 112 (rd σ 68 65) (-1)) 68 65 ((rd σ 68 65) + 1))) (k8 : ∀ (c2 : (rd σ 68 65) ≠ 100) (c4 : (vWithin x1 (rd σ 68 64)) = true) (c6 : 0 ≤ x2) (c8 : x2 < (rd σ 68 30)) (c10 : (rd σ 84 x2) ≠ 0) (c12 : 0 ≤ x3) (c14 : 480 ≤ x3), Q (some (0, (-1))) σ) : pC mX11_pass d [(2, 68), (0, x1), (0, x2), (0, x3)] σ Q := by
  show pR mX11_pass d 0 [(2, 68), (0, x1), (0, x2), (0, x3)] [] σ Q
  refine pGo (s_aload_n dX11_pass_0 rfl (by decide)) ?_
  refine pGoE (y := (rd σ 68 65)) (s_getI pc11 fl_X11_378 dX11_pass_1 (ob_68 hst) rfl (by decide)) rfl ?_
  refine pGo (s_bipush dX11_pass_4 (by decide)) ?_
  refine p_iceq (tgt := 49) dX11_pass_6 (by decide) g1 (by decide) (fun c1 => ?_) (fun c2 => ?_)
  · refine pGo (s_iconst dX11_pass_49) ?_
    exact pEnd (r := (some (0, (-1)))) dX11_pass_50 ⟨_, rfl⟩ (k1 c1)
  · refine pGo (s_aload_n dX11_pass_9 rfl (by decide)) ?_
    refine pGo (s_iload_n dX11_pass_10 rfl) ?_
    refine p_callV (As := [(0, x1)]) (st := []) (n := 1) (d' := 0) (Q1 := (fun r τ => r = some (0, b2i (vWithin x1 (rd σ 68 64))) ∧ τ = σ)) pc11 ok_X11_isSkier ml_X11_512 im_X11_isSkier se_X11_isSkier dX11_pass_11 (ob_68 hst) (pargs_of rfl) rfl (Nat.le_of_ble_eq_true rfl) (by omega) (f1 c2) (fun r1 τ1 e1 q1 w1 => ?_)
    obtain ⟨rfl, t1⟩ := q1
    rw [t1]
    show pR mX11_pass d 14 [(2, 68), (0, x1), (0, x2), (0, x3)] [(0, (b2i (vWithin x1 (rd σ 68 64))))] σ Q
    refine p_ifeqB (tgt := 49) dX11_pass_14 (by decide) (fun c3 => ?_) (fun c4 => ?_)
    · refine pGo (s_iconst dX11_pass_49) ?_
      exact pEnd (r := (some (0, (-1)))) dX11_pass_50 ⟨_, rfl⟩ (k2 c2 c3)
    · refine pGo (s_iload_n dX11_pass_17 rfl) ?_
      refine p_iflt (tgt := 49) dX11_pass_18 (by decide) (g2 c2 c4) (fun c5 => ?_) (fun c6 => ?_)
      · refine pGo (s_iconst dX11_pass_49) ?_
        exact pEnd (r := (some (0, (-1)))) dX11_pass_50 ⟨_, rfl⟩ (k3 c2 c4 c5)
      · refine pGo (s_iload_n dX11_pass_21 rfl) ?_
        refine pGo (s_aload_n dX11_pass_22 rfl (by decide)) ?_
        refine pGoE (y := (rd σ 68 30)) (s_getI pc11 fl_X11_366 dX11_pass_23 (ob_68 hst) rfl (by decide)) rfl ?_
        refine p_icge (tgt := 49) dX11_pass_26 (by decide) (g2 c2 c4) (g3 c2 c4 c6) (fun c7 => ?_) (fun c8 => ?_)
        · refine pGo (s_iconst dX11_pass_49) ?_
          exact pEnd (r := (some (0, (-1)))) dX11_pass_50 ⟨_, rfl⟩ (k4 c2 c4 c6 c7)
        · refine pGo (s_aload_n dX11_pass_29 rfl (by decide)) ?_
          refine pGoE (y := 84) (s_getF pc11 fl_X11_61 dX11_pass_30 (ob_68 hst) rfl (by decide)) (by decide) ?_
          refine pGo (s_iload_n dX11_pass_33 rfl) ?_
          refine pGoE (y := (rd σ 84 x2)) (s_zald dX11_pass_34 (ob_84 hst) (bnd (g4 c2 c4 c6 c8))) rfl ?_
          refine p_ifeq (tgt := 49) dX11_pass_35 (by decide) (g5 c2 c4 c6 c8) (fun c9 => ?_) (fun c10 => ?_)
          · refine pGo (s_iconst dX11_pass_49) ?_
            exact pEnd (r := (some (0, (-1)))) dX11_pass_50 ⟨_, rfl⟩ (k5 c2 c4 c6 c8 c9)
          · refine pGo (s_iload_n dX11_pass_38 rfl) ?_
            refine p_iflt (tgt := 49) dX11_pass_39 (by decide) (g6 c2 c4 c6 c8 c10) (fun c11 => ?_) (fun c12 => ?_)
            · refine pGo (s_iconst dX11_pass_49) ?_
              exact pEnd (r := (some (0, (-1)))) dX11_pass_50 ⟨_, rfl⟩ (k6 c2 c4 c6 c8 c10 c11)
            · refine pGo (s_iload_n dX11_pass_42 rfl) ?_
              refine pGo (s_sipush dX11_pass_43 (by decide)) ?_
              refine p_iclt (tgt := 51) dX11_pass_46 (by decide) (g6 c2 c4 c6 c8 c10) (by decide) (fun c13 => ?_) (fun c14 => ?_)
              · refine pGo (s_aload_n dX11_pass_51 rfl (by decide)) ?_
                refine pGoE (y := 108) (s_getF pc11 fl_X11_133 dX11_pass_52 (ob_68 hst) rfl (by decide)) (by decide) ?_
                refine pGo (s_aload_n dX11_pass_55 rfl (by decide)) ?_
                refine pGoE (y := (rd σ 68 65)) (s_getI pc11 fl_X11_378 dX11_pass_56 (ob_68 hst) rfl (by decide)) rfl ?_
                refine pGo (s_iload_n dX11_pass_59 rfl) ?_
                refine pGo (s_iast dX11_pass_60 (ob_108 hst) (bnd (g7 c2 c4 c6 c8 c10 c12 c13))) ?_
                refine pGo (s_aload_n dX11_pass_61 rfl (by decide)) ?_
                refine pGoE (y := 109) (s_getF pc11 fl_X11_136 dX11_pass_62 (ob_68 hst) rfl (by decide)) (by decide) ?_
                refine pGo (s_aload_n dX11_pass_65 rfl (by decide)) ?_
                refine pGoE (y := (rd σ 68 65)) (s_getI pc11 fl_X11_378 dX11_pass_66 (ob_68 hst) rfl (by decide)) (rd_wr_a _ (by decide)) ?_
                refine pGo (s_iload_n dX11_pass_69 rfl) ?_
                refine pGo (s_iast dX11_pass_70 (ob_109 hst) (bnd (g7 c2 c4 c6 c8 c10 c12 c13))) ?_
                refine pGo (s_aload_n dX11_pass_71 rfl (by decide)) ?_
                refine pGoE (y := 110) (s_getF pc11 fl_X11_139 dX11_pass_72 (ob_68 hst) rfl (by decide)) (by decide) ?_
                refine pGo (s_aload_n dX11_pass_75 rfl (by decide)) ?_
                refine pGoE (y := (rd σ 68 65)) (s_getI pc11 fl_X11_378 dX11_pass_76 (ob_68 hst) rfl (by decide)) ((rd_wr_a _ (by decide)).trans (rd_wr_a _ (by decide))) ?_
                refine pGo (s_iload_n dX11_pass_79 rfl) ?_
                refine pGo (s_iast dX11_pass_80 (ob_110 hst) (bnd (g7 c2 c4 c6 c8 c10 c12 c13))) ?_
                refine pGo (s_aload_n dX11_pass_81 rfl (by decide)) ?_
                refine pGoE (y := 111) (s_getF pc11 fl_X11_142 dX11_pass_82 (ob_68 hst) rfl (by decide)) (by decide) ?_
                refine pGo (s_aload_n dX11_pass_85 rfl (by decide)) ?_
                refine pGoE (y := (rd σ 68 65)) (s_getI pc11 fl_X11_378 dX11_pass_86 (ob_68 hst) rfl (by decide)) ((rd_wr_a _ (by decide)).trans ((rd_wr_a _ (by decide)).trans (rd_wr_a _ (by decide)))) ?_
                refine pGo (s_aload_n dX11_pass_89 rfl (by decide)) ?_
                refine pGoE (y := (rd σ 68 52)) (s_getI pc11 fl_X11_449 dX11_pass_90 (ob_68 hst) rfl (by decide)) ((rd_wr_a _ (by decide)).trans ((rd_wr_a _ (by decide)).trans (rd_wr_a _ (by decide)))) ?_
                refine pGo (s_iast dX11_pass_93 (ob_111 hst) (bnd (g7 c2 c4 c6 c8 c10 c12 c13))) ?_
                refine pGo (s_aload_n dX11_pass_94 rfl (by decide)) ?_
                refine pGoE (y := 112) (s_getF pc11 fl_X11_145 dX11_pass_95 (ob_68 hst) rfl (by decide)) (by decide) ?_
                refine pGo (s_aload_n dX11_pass_98 rfl (by decide)) ?_
                refine pGoE (y := (rd σ 68 65)) (s_getI pc11 fl_X11_378 dX11_pass_99 (ob_68 hst) rfl (by decide)) ((rd_wr_a _ (by decide)).trans ((rd_wr_a _ (by decide)).trans ((rd_wr_a _ (by decide)).trans (rd_wr_a _ (by decide))))) ?_
                refine pGo (s_iconst dX11_pass_102) ?_
                refine pGo (s_iast dX11_pass_103 (ob_112 hst) (bnd (g7 c2 c4 c6 c8 c10 c12 c13))) ?_
                refine pGo (s_aload_n dX11_pass_104 rfl (by decide)) ?_
                refine pGo (s_dup dX11_pass_105 (by decide)) ?_
                refine pGoE (y := (rd σ 68 65)) (s_getI pc11 fl_X11_378 dX11_pass_106 (ob_68 hst) rfl (by decide)) ((rd_wr_a _ (by decide)).trans ((rd_wr_a _ (by decide)).trans ((rd_wr_a _ (by decide)).trans ((rd_wr_a _ (by decide)).trans (rd_wr_a _ (by decide)))))) ?_
                refine pGo (s_iconst dX11_pass_109) ?_
                refine pGo (s_iadd dX11_pass_110) ?_
                refine pGo (s_putI pc11 fl_X11_378 dX11_pass_111 (ob_68 hst) rfl rfl rfl rfl) ?_
                refine pGo (s_aload_n dX11_pass_114 rfl (by decide)) ?_
                refine pGoE (y := ((rd σ 68 65) + 1)) (s_getI pc11 fl_X11_378 dX11_pass_115 (ob_68 hst) rfl (by decide)) (rd_wr_same _ _ _ _) ?_
                refine pGo (s_iconst dX11_pass_118) ?_
                refine pGo (s_isub dX11_pass_119) ?_
                exact pEnd (r := (some (0, (((rd σ 68 65) + 1) - 1)))) dX11_pass_120 ⟨_, rfl⟩ (k7 c2 c4 c6 c8 c10 c12 c13)
              · refine pGo (s_iconst dX11_pass_49) ?_
                exact pEnd (r := (some (0, (-1)))) dX11_pass_50 ⟨_, rfl⟩ (k8 c2 c4 c6 c8 c10 c12 c14)
set_option maxRecDepth 100000 in
theorem g_X11_unpass_0 {d : Nat} {σ : pS} {Q : Option pV → pS → Prop} (hd : 0 ≤ d) (hst : Stat σ) (x1 : Int)  (g1 : inR x1) (k1 : ∀ (c1 : x1 < 0), Q (some (0, 0)) σ) (g2 : ∀ (c2 : 0 ≤ x1), inR (rd σ 68 65)) (k2 : ∀ (c2 : 0 ≤ x1) (c3 : (rd σ 68 65) ≤ x1), Q (some (0, 0)) σ) (g3 : ∀ (c2 : 0 ≤ x1) (c4 : x1 < (rd σ 68 65)), 0 ≤ x1 ∧ x1 < 100) (g4 : ∀ (c2 : 0 ≤ x1) (c4 : x1 < (rd σ 68 65)), inR (rd σ 112 x1)) (k3 : ∀ (c2 : 0 ≤ x1) (c4 : x1 < (rd σ 68 65)) (c5 : (rd σ 112 x1) < 0), Q (some (0, 1)) (wr σ 112 x1 (rd σ 68 52))) (k4 : ∀ (c2 : 0 ≤ x1) (c4 : x1 < (rd σ 68 65)) (c6 : 0 ≤ (rd σ 112 x1)), Q (some (0, 0)) σ) : pC mX11_unpass d [(2, 68), (0, x1)] σ Q := by
  show pR mX11_unpass d 0 [(2, 68), (0, x1)] [] σ Q
  refine pGo (s_iload_n dX11_unpass_0 rfl) ?_
  refine p_iflt (tgt := 21) dX11_unpass_1 (by decide) g1 (fun c1 => ?_) (fun c2 => ?_)
  · refine pGo (s_iconst dX11_unpass_21) ?_
    exact pEnd (r := (some (0, 0))) dX11_unpass_22 (Or.inl rfl) (k1 c1)
  · refine pGo (s_iload_n dX11_unpass_4 rfl) ?_
    refine pGo (s_aload_n dX11_unpass_5 rfl (by decide)) ?_
    refine pGoE (y := (rd σ 68 65)) (s_getI pc11 fl_X11_378 dX11_unpass_6 (ob_68 hst) rfl (by decide)) rfl ?_
    refine p_icge (tgt := 21) dX11_unpass_9 (by decide) g1 (g2 c2) (fun c3 => ?_) (fun c4 => ?_)
    · refine pGo (s_iconst dX11_unpass_21) ?_
      exact pEnd (r := (some (0, 0))) dX11_unpass_22 (Or.inl rfl) (k2 c2 c3)
    · refine pGo (s_aload_n dX11_unpass_12 rfl (by decide)) ?_
      refine pGoE (y := 112) (s_getF pc11 fl_X11_145 dX11_unpass_13 (ob_68 hst) rfl (by decide)) (by decide) ?_
      refine pGo (s_iload_n dX11_unpass_16 rfl) ?_
      refine pGoE (y := (rd σ 112 x1)) (s_iald dX11_unpass_17 (ob_112 hst) (bnd (g3 c2 c4))) rfl ?_
      refine p_iflt (tgt := 23) dX11_unpass_18 (by decide) (g4 c2 c4) (fun c5 => ?_) (fun c6 => ?_)
      · refine pGo (s_aload_n dX11_unpass_23 rfl (by decide)) ?_
        refine pGoE (y := 112) (s_getF pc11 fl_X11_145 dX11_unpass_24 (ob_68 hst) rfl (by decide)) (by decide) ?_
        refine pGo (s_iload_n dX11_unpass_27 rfl) ?_
        refine pGo (s_aload_n dX11_unpass_28 rfl (by decide)) ?_
        refine pGoE (y := (rd σ 68 52)) (s_getI pc11 fl_X11_449 dX11_unpass_29 (ob_68 hst) rfl (by decide)) rfl ?_
        refine pGo (s_iast dX11_unpass_32 (ob_112 hst) (bnd (g3 c2 c4))) ?_
        refine pGo (s_iconst dX11_unpass_33) ?_
        exact pEnd (r := (some (0, 1))) dX11_unpass_34 (Or.inr rfl) (k3 c2 c4 c5)
      · refine pGo (s_iconst dX11_unpass_21) ?_
        exact pEnd (r := (some (0, 0))) dX11_unpass_22 (Or.inl rfl) (k4 c2 c4 c6)
set_option maxRecDepth 100000 in
theorem g_X11_arrive_0 {d : Nat} {σ : pS} {Q : Option pV → pS → Prop} (hd : 0 ≤ d) (hst : Stat σ) (x1 : Int) (x2 : Int)  (g1 : inR (rd σ 68 77)) (k1 : ∀ (c1 : (rd σ 68 77) = 20), Q (some (0, (-1))) σ) (g2 : ∀ (c2 : (rd σ 68 77) ≠ 20), inR x1) (k2 : ∀ (c2 : (rd σ 68 77) ≠ 20) (c3 : x1 < 0), Q (some (0, (-1))) σ) (k3 : ∀ (c2 : (rd σ 68 77) ≠ 20) (c4 : 0 ≤ x1) (c5 : 480 ≤ x1), Q (some (0, (-1))) σ) (g3 : ∀ (c2 : (rd σ 68 77) ≠ 20) (c4 : 0 ≤ x1) (c6 : x1 < 480), inR x2) (k4 : ∀ (c2 : (rd σ 68 77) ≠ 20) (c4 : 0 ≤ x1) (c6 : x1 < 480) (c7 : x2 < 1), Q (some (0, (-1))) σ) (g4 : ∀ (c2 : (rd σ 68 77) ≠ 20) (c4 : 0 ≤ x1) (c6 : x1 < 480) (c8 : 1 ≤ x2) (c9 : x2 ≤ 500), 0 ≤ (rd σ 68 77) ∧ (rd σ 68 77) < 20) (k5 : ∀ (c2 : (rd σ 68 77) ≠ 20) (c4 : 0 ≤ x1) (c6 : x1 < 480) (c8 : 1 ≤ x2) (c9 : x2 ≤ 500), Q (some (0, ((rd σ 68 77) + 1))) (wr (wr (wr σ 118 (rd σ 68 77) x1) 119 (rd σ 68 77) x2) 68 77 ((rd σ 68 77) + 1))) (k6 : ∀ (c2 : (rd σ 68 77) ≠ 20) (c4 : 0 ≤ x1) (c6 : x1 < 480) (c8 : 1 ≤ x2) (c10 : 500 < x2), Q (some (0, (-1))) σ) : pC mX11_arrive d [(2, 68), (0, x1), (0, x2)] σ Q := by
  show pR mX11_arrive d 0 [(2, 68), (0, x1), (0, x2)] [] σ Q
  refine pGo (s_aload_n dX11_arrive_0 rfl (by decide)) ?_
  refine pGoE (y := (rd σ 68 77)) (s_getI pc11 fl_X11_530 dX11_arrive_1 (ob_68 hst) rfl (by decide)) rfl ?_
  refine pGo (s_bipush dX11_arrive_4 (by decide)) ?_
  refine p_iceq (tgt := 32) dX11_arrive_6 (by decide) g1 (by decide) (fun c1 => ?_) (fun c2 => ?_)
  · refine pGo (s_iconst dX11_arrive_32) ?_
    exact pEnd (r := (some (0, (-1)))) dX11_arrive_33 ⟨_, rfl⟩ (k1 c1)
  · refine pGo (s_iload_n dX11_arrive_9 rfl) ?_
    refine p_iflt (tgt := 32) dX11_arrive_10 (by decide) (g2 c2) (fun c3 => ?_) (fun c4 => ?_)
    · refine pGo (s_iconst dX11_arrive_32) ?_
      exact pEnd (r := (some (0, (-1)))) dX11_arrive_33 ⟨_, rfl⟩ (k2 c2 c3)
    · refine pGo (s_iload_n dX11_arrive_13 rfl) ?_
      refine pGo (s_sipush dX11_arrive_14 (by decide)) ?_
      refine p_icge (tgt := 32) dX11_arrive_17 (by decide) (g2 c2) (by decide) (fun c5 => ?_) (fun c6 => ?_)
      · refine pGo (s_iconst dX11_arrive_32) ?_
        exact pEnd (r := (some (0, (-1)))) dX11_arrive_33 ⟨_, rfl⟩ (k3 c2 c4 c5)
      · refine pGo (s_iload_n dX11_arrive_20 rfl) ?_
        refine pGo (s_iconst dX11_arrive_21) ?_
        refine p_iclt (tgt := 32) dX11_arrive_22 (by decide) (g3 c2 c4 c6) (by decide) (fun c7 => ?_) (fun c8 => ?_)
        · refine pGo (s_iconst dX11_arrive_32) ?_
          exact pEnd (r := (some (0, (-1)))) dX11_arrive_33 ⟨_, rfl⟩ (k4 c2 c4 c6 c7)
        · refine pGo (s_iload_n dX11_arrive_25 rfl) ?_
          refine pGo (s_sipush dX11_arrive_26 (by decide)) ?_
          refine p_icle (tgt := 34) dX11_arrive_29 (by decide) (g3 c2 c4 c6) (by decide) (fun c9 => ?_) (fun c10 => ?_)
          · refine pGo (s_aload_n dX11_arrive_34 rfl (by decide)) ?_
            refine pGoE (y := 118) (s_getF pc11 fl_X11_163 dX11_arrive_35 (ob_68 hst) rfl (by decide)) (by decide) ?_
            refine pGo (s_aload_n dX11_arrive_38 rfl (by decide)) ?_
            refine pGoE (y := (rd σ 68 77)) (s_getI pc11 fl_X11_530 dX11_arrive_39 (ob_68 hst) rfl (by decide)) rfl ?_
            refine pGo (s_iload_n dX11_arrive_42 rfl) ?_
            refine pGo (s_iast dX11_arrive_43 (ob_118 hst) (bnd (g4 c2 c4 c6 c8 c9))) ?_
            refine pGo (s_aload_n dX11_arrive_44 rfl (by decide)) ?_
            refine pGoE (y := 119) (s_getF pc11 fl_X11_166 dX11_arrive_45 (ob_68 hst) rfl (by decide)) (by decide) ?_
            refine pGo (s_aload_n dX11_arrive_48 rfl (by decide)) ?_
            refine pGoE (y := (rd σ 68 77)) (s_getI pc11 fl_X11_530 dX11_arrive_49 (ob_68 hst) rfl (by decide)) (rd_wr_a _ (by decide)) ?_
            refine pGo (s_iload_n dX11_arrive_52 rfl) ?_
            refine pGo (s_iast dX11_arrive_53 (ob_119 hst) (bnd (g4 c2 c4 c6 c8 c9))) ?_
            refine pGo (s_aload_n dX11_arrive_54 rfl (by decide)) ?_
            refine pGo (s_dup dX11_arrive_55 (by decide)) ?_
            refine pGoE (y := (rd σ 68 77)) (s_getI pc11 fl_X11_530 dX11_arrive_56 (ob_68 hst) rfl (by decide)) ((rd_wr_a _ (by decide)).trans (rd_wr_a _ (by decide))) ?_
            refine pGo (s_iconst dX11_arrive_59) ?_
            refine pGo (s_iadd dX11_arrive_60) ?_
            refine pGo (s_putI pc11 fl_X11_530 dX11_arrive_61 (ob_68 hst) rfl rfl rfl rfl) ?_
            refine pGo (s_aload_n dX11_arrive_64 rfl (by decide)) ?_
            refine pGoE (y := ((rd σ 68 77) + 1)) (s_getI pc11 fl_X11_530 dX11_arrive_65 (ob_68 hst) rfl (by decide)) (rd_wr_same _ _ _ _) ?_
            exact pEnd (r := (some (0, ((rd σ 68 77) + 1)))) dX11_arrive_68 ⟨_, rfl⟩ (k5 c2 c4 c6 c8 c9)
          · refine pGo (s_iconst dX11_arrive_32) ?_
            exact pEnd (r := (some (0, (-1)))) dX11_arrive_33 ⟨_, rfl⟩ (k6 c2 c4 c6 c8 c10)
set_option maxRecDepth 100000 in
theorem g_X11_turn_0 {d : Nat} {σ : pS} {Q : Option pV → pS → Prop} (hd : 2 ≤ d) (hst : Stat σ) (x1 : Int)  (f1 : pC mX11_wayOf 1 [(2, 68), (0, x1)] σ (fun r τ => r = some (0, (vWayOf (rd σ 68 30) (rd σ 68 31) x1)) ∧ τ = σ)) (g1 : inR (vWayOf (rd σ 68 30) (rd σ 68 31) x1)) (k1 : ∀ (c1 : (vWayOf (rd σ 68 30) (rd σ 68 31) x1) < 0), Q (some (0, (-1))) σ) (g2 : ∀ (c2 : 0 ≤ (vWayOf (rd σ 68 30) (rd σ 68 31) x1)), 0 ≤ (vWayOf (rd σ 68 30) (rd σ 68 31) x1) ∧ (vWayOf (rd σ 68 30) (rd σ 68 31) x1) < 13) (g3 : ∀ (c2 : 0 ≤ (vWayOf (rd σ 68 30) (rd σ 68 31) x1)), 0 ≤ (rd σ 77 (vWayOf (rd σ 68 30) (rd σ 68 31) x1)) ∧ (rd σ 77 (vWayOf (rd σ 68 30) (rd σ 68 31) x1)) < 10) (g4 : ∀ (c2 : 0 ≤ (vWayOf (rd σ 68 30) (rd σ 68 31) x1)), inR (rd σ 121 (rd σ 77 (vWayOf (rd σ 68 30) (rd σ 68 31) x1)))) (g5 : ∀ (c2 : 0 ≤ (vWayOf (rd σ 68 30) (rd σ 68 31) x1)) (c3 : (rd σ 121 (rd σ 77 (vWayOf (rd σ 68 30) (rd σ 68 31) x1))) ≠ 6), 0 ≤ ((6 * (rd σ 77 (vWayOf (rd σ 68 30) (rd σ 68 31) x1))) + (rd σ 121 (rd σ 77 (vWayOf (rd σ 68 30) (rd σ 68 31) x1)))) ∧ ((6 * (rd σ 77 (vWayOf (rd σ 68 30) (rd σ 68 31) x1))) + (rd σ 121 (rd σ 77 (vWayOf (rd σ 68 30) (rd σ 68 31) x1)))) < 60) (k2 : ∀ (c2 : 0 ≤ (vWayOf (rd σ 68 30) (rd σ 68 31) x1)) (c3 : (rd σ 121 (rd σ 77 (vWayOf (rd σ 68 30) (rd σ 68 31) x1))) ≠ 6), Q (some (0, ((rd σ 121 (rd σ 77 (vWayOf (rd σ 68 30) (rd σ 68 31) x1))) + 1))) (wr (wr σ 120 ((6 * (rd σ 77 (vWayOf (rd σ 68 30) (rd σ 68 31) x1))) + (rd σ 121 (rd σ 77 (vWayOf (rd σ 68 30) (rd σ 68 31) x1)))) (vWayOf (rd σ 68 30) (rd σ 68 31) x1)) 121 (rd σ 77 (vWayOf (rd σ 68 30) (rd σ 68 31) x1)) ((rd σ 121 (rd σ 77 (vWayOf (rd σ 68 30) (rd σ 68 31) x1))) + 1))) (k3 : ∀ (c2 : 0 ≤ (vWayOf (rd σ 68 30) (rd σ 68 31) x1)) (c4 : (rd σ 121 (rd σ 77 (vWayOf (rd σ 68 30) (rd σ 68 31) x1))) = 6), Q (some (0, (-1))) σ) : pC mX11_turn d [(2, 68), (0, x1)] σ Q := by
  show pR mX11_turn d 0 [(2, 68), (0, x1), (9, 0), (9, 0)] [] σ Q
  refine pGo (s_aload_n dX11_turn_0 rfl (by decide)) ?_
  refine pGo (s_iload_n dX11_turn_1 rfl) ?_
  refine p_callV (As := [(0, x1)]) (st := []) (n := 1) (d' := 1) (Q1 := (fun r τ => r = some (0, (vWayOf (rd σ 68 30) (rd σ 68 31) x1)) ∧ τ = σ)) pc11 ok_X11_wayOf ml_X11_477 im_X11_wayOf se_X11_wayOf dX11_turn_2 (ob_68 hst) (pargs_of rfl) rfl (Nat.le_of_ble_eq_true rfl) (by omega) f1 (fun r1 τ1 e1 q1 w1 => ?_)
  obtain ⟨rfl, t1⟩ := q1
  rw [t1]
  show pR mX11_turn d 5 [(2, 68), (0, x1), (9, 0), (9, 0)] [(0, (vWayOf (rd σ 68 30) (rd σ 68 31) x1))] σ Q
  refine pGoL (ls2 := [(2, 68), (0, x1), (0, (vWayOf (rd σ 68 30) (rd σ 68 31) x1)), (9, 0)]) (s_istore_n dX11_turn_5 (by decide) rfl) rfl ?_
  refine pGo (s_iload_n dX11_turn_6 rfl) ?_
  refine p_iflt (tgt := 26) dX11_turn_7 (by decide) g1 (fun c1 => ?_) (fun c2 => ?_)
  · refine pGo (s_iconst dX11_turn_26) ?_
    exact pEnd (r := (some (0, (-1)))) dX11_turn_27 ⟨_, rfl⟩ (k1 c1)
  · refine pGo (s_aload_n dX11_turn_10 rfl (by decide)) ?_
    refine pGoE (y := 121) (s_getF pc11 fl_X11_172 dX11_turn_11 (ob_68 hst) rfl (by decide)) (by decide) ?_
    refine pGo (s_aload_n dX11_turn_14 rfl (by decide)) ?_
    refine pGoE (y := 77) (s_getF pc11 fl_X11_39 dX11_turn_15 (ob_68 hst) rfl (by decide)) (by decide) ?_
    refine pGo (s_iload_n dX11_turn_18 rfl) ?_
    refine pGoE (y := (rd σ 77 (vWayOf (rd σ 68 30) (rd σ 68 31) x1))) (s_iald dX11_turn_19 (ob_77 hst) (bnd (g2 c2))) rfl ?_
    refine pGoE (y := (rd σ 121 (rd σ 77 (vWayOf (rd σ 68 30) (rd σ 68 31) x1)))) (s_iald dX11_turn_20 (ob_121 hst) (bnd (g3 c2))) rfl ?_
    refine pGo (s_bipush dX11_turn_21 (by decide)) ?_
    refine p_icne (tgt := 28) dX11_turn_23 (by decide) (g4 c2) (by decide) (fun c3 => ?_) (fun c4 => ?_)
    · refine pGo (s_aload_n dX11_turn_28 rfl (by decide)) ?_
      refine pGoE (y := 77) (s_getF pc11 fl_X11_39 dX11_turn_29 (ob_68 hst) rfl (by decide)) (by decide) ?_
      refine pGo (s_iload_n dX11_turn_32 rfl) ?_
      refine pGoE (y := (rd σ 77 (vWayOf (rd σ 68 30) (rd σ 68 31) x1))) (s_iald dX11_turn_33 (ob_77 hst) (bnd (g2 c2))) rfl ?_
      refine pGoL (ls2 := [(2, 68), (0, x1), (0, (vWayOf (rd σ 68 30) (rd σ 68 31) x1)), (0, (rd σ 77 (vWayOf (rd σ 68 30) (rd σ 68 31) x1)))]) (s_istore_n dX11_turn_34 (by decide) rfl) rfl ?_
      refine pGo (s_aload_n dX11_turn_35 rfl (by decide)) ?_
      refine pGoE (y := 120) (s_getF pc11 fl_X11_169 dX11_turn_36 (ob_68 hst) rfl (by decide)) (by decide) ?_
      refine pGo (s_bipush dX11_turn_39 (by decide)) ?_
      refine pGo (s_iload_n dX11_turn_41 rfl) ?_
      refine pGo (s_imul dX11_turn_42) ?_
      refine pGo (s_aload_n dX11_turn_43 rfl (by decide)) ?_
      refine pGoE (y := 121) (s_getF pc11 fl_X11_172 dX11_turn_44 (ob_68 hst) rfl (by decide)) (by decide) ?_
      refine pGo (s_iload_n dX11_turn_47 rfl) ?_
      refine pGoE (y := (rd σ 121 (rd σ 77 (vWayOf (rd σ 68 30) (rd σ 68 31) x1)))) (s_iald dX11_turn_48 (ob_121 hst) (bnd (g3 c2))) rfl ?_
      refine pGo (s_iadd dX11_turn_49) ?_
      refine pGo (s_iload_n dX11_turn_50 rfl) ?_
      refine pGo (s_iast dX11_turn_51 (ob_120 hst) (bnd (g5 c2 c3))) ?_
      refine pGo (s_aload_n dX11_turn_52 rfl (by decide)) ?_
      refine pGoE (y := 121) (s_getF pc11 fl_X11_172 dX11_turn_53 (ob_68 hst) rfl (by decide)) (by decide) ?_
      refine pGo (s_iload_n dX11_turn_56 rfl) ?_
      refine pGo (s_dup2 dX11_turn_57 (show (0 : Nat) ≠ 1 by decide) (show (2 : Nat) ≠ 1 by decide)) ?_
      refine pGoE (y := (rd σ 121 (rd σ 77 (vWayOf (rd σ 68 30) (rd σ 68 31) x1)))) (s_iald dX11_turn_58 (ob_121 hst) (bnd (g3 c2))) (rd_wr_a _ (by decide)) ?_
      refine pGo (s_iconst dX11_turn_59) ?_
      refine pGo (s_iadd dX11_turn_60) ?_
      refine pGo (s_iast dX11_turn_61 (ob_121 hst) (bnd (g3 c2))) ?_
      refine pGo (s_aload_n dX11_turn_62 rfl (by decide)) ?_
      refine pGoE (y := 121) (s_getF pc11 fl_X11_172 dX11_turn_63 (ob_68 hst) rfl (by decide)) (by decide) ?_
      refine pGo (s_iload_n dX11_turn_66 rfl) ?_
      refine pGoE (y := ((rd σ 121 (rd σ 77 (vWayOf (rd σ 68 30) (rd σ 68 31) x1))) + 1)) (s_iald dX11_turn_67 (ob_121 hst) (bnd (g3 c2))) (rd_wr_same _ _ _ _) ?_
      exact pEnd (r := (some (0, ((rd σ 121 (rd σ 77 (vWayOf (rd σ 68 30) (rd σ 68 31) x1))) + 1)))) dX11_turn_68 ⟨_, rfl⟩ (k2 c2 c3)
    · refine pGo (s_iconst dX11_turn_26) ?_
      exact pEnd (r := (some (0, (-1)))) dX11_turn_27 ⟨_, rfl⟩ (k3 c2 c4)
set_option maxRecDepth 100000 in
theorem g_X11_make_0 {d : Nat} {σ : pS} {Q : Option pV → pS → Prop} (hd : 0 ≤ d) (hst : Stat σ) (x1 : Int) (x2 : Int)  (g1 : inR x1) (k1 : ∀ (c1 : x1 < 0), Q (some (0, 0)) σ) (g2 : ∀ (c2 : 0 ≤ x1), inR (rd σ 68 31)) (k2 : ∀ (c2 : 0 ≤ x1) (c3 : (rd σ 68 31) ≤ x1), Q (some (0, 0)) σ) (g3 : ∀ (c2 : 0 ≤ x1) (c4 : x1 < (rd σ 68 31)), inR x2) (k3 : ∀ (c2 : 0 ≤ x1) (c4 : x1 < (rd σ 68 31)) (c5 : x2 < 0), Q (some (0, 0)) σ) (g4 : ∀ (c2 : 0 ≤ x1) (c4 : x1 < (rd σ 68 31)) (c6 : 0 ≤ x2) (c7 : x2 ≤ 20), 0 ≤ x1 ∧ x1 < 7) (k4 : ∀ (c2 : 0 ≤ x1) (c4 : x1 < (rd σ 68 31)) (c6 : 0 ≤ x2) (c7 : x2 ≤ 20), Q (some (0, 1)) (wr σ 123 x1 x2)) (k5 : ∀ (c2 : 0 ≤ x1) (c4 : x1 < (rd σ 68 31)) (c6 : 0 ≤ x2) (c8 : 20 < x2), Q (some (0, 0)) σ) : pC mX11_make d [(2, 68), (0, x1), (0, x2)] σ Q := by
  show pR mX11_make d 0 [(2, 68), (0, x1), (0, x2)] [] σ Q
  refine pGo (s_iload_n dX11_make_0 rfl) ?_
  refine p_iflt (tgt := 22) dX11_make_1 (by decide) g1 (fun c1 => ?_) (fun c2 => ?_)
  · refine pGo (s_iconst dX11_make_22) ?_
    exact pEnd (r := (some (0, 0))) dX11_make_23 (Or.inl rfl) (k1 c1)
  · refine pGo (s_iload_n dX11_make_4 rfl) ?_
    refine pGo (s_aload_n dX11_make_5 rfl (by decide)) ?_
    refine pGoE (y := (rd σ 68 31)) (s_getI pc11 fl_X11_369 dX11_make_6 (ob_68 hst) rfl (by decide)) rfl ?_
    refine p_icge (tgt := 22) dX11_make_9 (by decide) g1 (g2 c2) (fun c3 => ?_) (fun c4 => ?_)
    · refine pGo (s_iconst dX11_make_22) ?_
      exact pEnd (r := (some (0, 0))) dX11_make_23 (Or.inl rfl) (k2 c2 c3)
    · refine pGo (s_iload_n dX11_make_12 rfl) ?_
      refine p_iflt (tgt := 22) dX11_make_13 (by decide) (g3 c2 c4) (fun c5 => ?_) (fun c6 => ?_)
      · refine pGo (s_iconst dX11_make_22) ?_
        exact pEnd (r := (some (0, 0))) dX11_make_23 (Or.inl rfl) (k3 c2 c4 c5)
      · refine pGo (s_iload_n dX11_make_16 rfl) ?_
        refine pGo (s_bipush dX11_make_17 (by decide)) ?_
        refine p_icle (tgt := 24) dX11_make_19 (by decide) (g3 c2 c4) (by decide) (fun c7 => ?_) (fun c8 => ?_)
        · refine pGo (s_aload_n dX11_make_24 rfl (by decide)) ?_
          refine pGoE (y := 123) (s_getF pc11 fl_X11_178 dX11_make_25 (ob_68 hst) rfl (by decide)) (by decide) ?_
          refine pGo (s_iload_n dX11_make_28 rfl) ?_
          refine pGo (s_iload_n dX11_make_29 rfl) ?_
          refine pGo (s_iast dX11_make_30 (ob_123 hst) (bnd (g4 c2 c4 c6 c7))) ?_
          refine pGo (s_iconst dX11_make_31) ?_
          exact pEnd (r := (some (0, 1))) dX11_make_32 (Or.inr rfl) (k4 c2 c4 c6 c7)
        · refine pGo (s_iconst dX11_make_22) ?_
          exact pEnd (r := (some (0, 0))) dX11_make_23 (Or.inl rfl) (k5 c2 c4 c6 c8)
set_option maxRecDepth 100000 in
theorem g_X11_wait_0 {d : Nat} {σ : pS} {Q : Option pV → pS → Prop} (hd : 1 ≤ d) (hst : Stat σ) (x1 : Int) (x2 : Int) (x3 : Int)  (f1 : pC mX11_isPlace 0 [(0, x1)] σ (fun r τ => r = some (0, b2i (vWithin x1 10)) ∧ τ = σ)) (k1 : ∀ (c1 : (vWithin x1 10) = false), Q (some (0, (-1))) σ) (f2 : ∀ (c2 : (vWithin x1 10) = true), pC mX11_isDayMinute 0 [(2, 68), (0, x2)] σ (fun r τ => r = some (0, b2i (vDayMin (rd σ 68 78) x2)) ∧ τ = σ)) (g1 : ∀ (c2 : (vWithin x1 10) = true) (c3 : (vDayMin (rd σ 68 78) x2) = true), inR x3) (k2 : ∀ (c2 : (vWithin x1 10) = true) (c3 : (vDayMin (rd σ 68 78) x2) = true) (c5 : x3 ≠ 0) (c7 : x3 ≠ 1), Q (some (0, (-1))) σ) (g2 : ∀ (c2 : (vWithin x1 10) = true) (c3 : (vDayMin (rd σ 68 78) x2) = true) (c5 : x3 ≠ 0) (c8 : x3 = 1), 0 ≤ ((10 * x2) + x1) ∧ ((10 * x2) + x1) < 4800) (k3 : ∀ (c2 : (vWithin x1 10) = true) (c3 : (vDayMin (rd σ 68 78) x2) = true) (c5 : x3 ≠ 0) (c8 : x3 = 1), Q (some (0, (rd σ 131 ((10 * x2) + x1)))) σ) (g3 : ∀ (c2 : (vWithin x1 10) = true) (c3 : (vDayMin (rd σ 68 78) x2) = true) (c6 : x3 = 0), 0 ≤ ((10 * x2) + x1) ∧ ((10 * x2) + x1) < 4800) (k4 : ∀ (c2 : (vWithin x1 10) = true) (c3 : (vDayMin (rd σ 68 78) x2) = true) (c6 : x3 = 0), Q (some (0, (rd σ 130 ((10 * x2) + x1)))) σ) (k5 : ∀ (c2 : (vWithin x1 10) = true) (c4 : (vDayMin (rd σ 68 78) x2) = false), Q (some (0, (-1))) σ) : pC mX11_wait d [(2, 68), (0, x1), (0, x2), (0, x3)] σ Q := by
  show pR mX11_wait d 0 [(2, 68), (0, x1), (0, x2), (0, x3)] [] σ Q
  refine pGo (s_iload_n dX11_wait_0 rfl) ?_
  refine p_callS (As := [(0, x1)]) (st := []) (n := 1) (d' := 0) (Q1 := (fun r τ => r = some (0, b2i (vWithin x1 10)) ∧ τ = σ)) ok_X11_isPlace ml_X11_496 sm_X11_isPlace dX11_wait_1 (pargs_of rfl) rfl (Nat.le_of_ble_eq_true rfl) (by omega) f1 (fun r1 τ1 e1 q1 w1 => ?_)
  obtain ⟨rfl, t1⟩ := q1
  rw [t1]
  show pR mX11_wait d 4 [(2, 68), (0, x1), (0, x2), (0, x3)] [(0, (b2i (vWithin x1 10)))] σ Q
  refine p_ifeqB (tgt := 15) dX11_wait_4 (by decide) (fun c1 => ?_) (fun c2 => ?_)
  · refine pGo (s_iconst dX11_wait_15) ?_
    exact pEnd (r := (some (0, (-1)))) dX11_wait_16 ⟨_, rfl⟩ (k1 c1)
  · refine pGo (s_aload_n dX11_wait_7 rfl (by decide)) ?_
    refine pGo (s_iload_n dX11_wait_8 rfl) ?_
    refine p_callV (As := [(0, x2)]) (st := []) (n := 1) (d' := 0) (Q1 := (fun r τ => r = some (0, b2i (vDayMin (rd σ 68 78) x2)) ∧ τ = σ)) pc11 ok_X11_isDayMinute ml_X11_548 im_X11_isDayMinute se_X11_isDayMinute dX11_wait_9 (ob_68 hst) (pargs_of rfl) rfl (Nat.le_of_ble_eq_true rfl) (by omega) (f2 c2) (fun r2 τ2 e2 q2 w2 => ?_)
    obtain ⟨rfl, t2⟩ := q2
    rw [t2]
    show pR mX11_wait d 12 [(2, 68), (0, x1), (0, x2), (0, x3)] [(0, (b2i (vDayMin (rd σ 68 78) x2)))] σ Q
    refine p_ifneB (tgt := 17) dX11_wait_12 (by decide) (fun c3 => ?_) (fun c4 => ?_)
    · refine pGo (s_iload_n dX11_wait_17 rfl) ?_
      refine p_ifne (tgt := 35) dX11_wait_18 (by decide) (g1 c2 c3) (fun c5 => ?_) (fun c6 => ?_)
      · refine pGo (s_iload_n dX11_wait_35 rfl) ?_
        refine pGo (s_iconst dX11_wait_36) ?_
        refine p_icne (tgt := 54) dX11_wait_37 (by decide) (g1 c2 c3) (by decide) (fun c7 => ?_) (fun c8 => ?_)
        · refine pGo (s_iconst dX11_wait_54) ?_
          exact pEnd (r := (some (0, (-1)))) dX11_wait_55 ⟨_, rfl⟩ (k2 c2 c3 c5 c7)
        · refine pGo (s_aload_n dX11_wait_40 rfl (by decide)) ?_
          refine pGoE (y := 131) (s_getF pc11 fl_X11_202 dX11_wait_41 (ob_68 hst) rfl (by decide)) (by decide) ?_
          refine pGo (s_bipush dX11_wait_44 (by decide)) ?_
          refine pGo (s_iload_n dX11_wait_46 rfl) ?_
          refine pGo (s_imul dX11_wait_47) ?_
          refine pGo (s_iload_n dX11_wait_48 rfl) ?_
          refine pGo (s_iadd dX11_wait_49) ?_
          refine pGoE (y := (rd σ 131 ((10 * x2) + x1))) (s_iald dX11_wait_50 (ob_131 hst) (bnd (g2 c2 c3 c5 c8))) rfl ?_
          refine pGo (s_goto (tgt := 55) dX11_wait_51 (by decide)) ?_
          exact pEnd (r := (some (0, (rd σ 131 ((10 * x2) + x1))))) dX11_wait_55 ⟨_, rfl⟩ (k3 c2 c3 c5 c8)
      · refine pGo (s_aload_n dX11_wait_21 rfl (by decide)) ?_
        refine pGoE (y := 130) (s_getF pc11 fl_X11_199 dX11_wait_22 (ob_68 hst) rfl (by decide)) (by decide) ?_
        refine pGo (s_bipush dX11_wait_25 (by decide)) ?_
        refine pGo (s_iload_n dX11_wait_27 rfl) ?_
        refine pGo (s_imul dX11_wait_28) ?_
        refine pGo (s_iload_n dX11_wait_29 rfl) ?_
        refine pGo (s_iadd dX11_wait_30) ?_
        refine pGoE (y := (rd σ 130 ((10 * x2) + x1))) (s_iald dX11_wait_31 (ob_130 hst) (bnd (g3 c2 c3 c6))) rfl ?_
        refine pGo (s_goto (tgt := 55) dX11_wait_32 (by decide)) ?_
        exact pEnd (r := (some (0, (rd σ 130 ((10 * x2) + x1))))) dX11_wait_55 ⟨_, rfl⟩ (k4 c2 c3 c6)
    · refine pGo (s_iconst dX11_wait_15) ?_
      exact pEnd (r := (some (0, (-1)))) dX11_wait_16 ⟨_, rfl⟩ (k5 c2 c4)
set_option maxRecDepth 100000 in
theorem g_X11_snow_0 {d : Nat} {σ : pS} {Q : Option pV → pS → Prop} (hd : 1 ≤ d) (hst : Stat σ) (x1 : Int) (x2 : Int)  (g1 : inR x1) (k1 : ∀ (c1 : x1 < 0), Q (some (0, (-1))) σ) (g2 : ∀ (c2 : 0 ≤ x1), inR (rd σ 68 31)) (k2 : ∀ (c2 : 0 ≤ x1) (c3 : (rd σ 68 31) ≤ x1), Q (some (0, (-1))) σ) (f1 : ∀ (c2 : 0 ≤ x1) (c4 : x1 < (rd σ 68 31)), pC mX11_isDayMinute 0 [(2, 68), (0, x2)] σ (fun r τ => r = some (0, b2i (vDayMin (rd σ 68 78) x2)) ∧ τ = σ)) (g3 : ∀ (c2 : 0 ≤ x1) (c4 : x1 < (rd σ 68 31)) (c5 : (vDayMin (rd σ 68 78) x2) = true), 0 ≤ ((7 * x2) + x1) ∧ ((7 * x2) + x1) < 3360) (k3 : ∀ (c2 : 0 ≤ x1) (c4 : x1 < (rd σ 68 31)) (c5 : (vDayMin (rd σ 68 78) x2) = true), Q (some (0, (rd σ 132 ((7 * x2) + x1)))) σ) (k4 : ∀ (c2 : 0 ≤ x1) (c4 : x1 < (rd σ 68 31)) (c6 : (vDayMin (rd σ 68 78) x2) = false), Q (some (0, (-1))) σ) : pC mX11_snow d [(2, 68), (0, x1), (0, x2)] σ Q := by
  show pR mX11_snow d 0 [(2, 68), (0, x1), (0, x2)] [] σ Q
  refine pGo (s_iload_n dX11_snow_0 rfl) ?_
  refine p_iflt (tgt := 20) dX11_snow_1 (by decide) g1 (fun c1 => ?_) (fun c2 => ?_)
  · refine pGo (s_iconst dX11_snow_20) ?_
    refine pGo (s_goto (tgt := 35) dX11_snow_21 (by decide)) ?_
    exact pEnd (r := (some (0, (-1)))) dX11_snow_35 ⟨_, rfl⟩ (k1 c1)
  · refine pGo (s_iload_n dX11_snow_4 rfl) ?_
    refine pGo (s_aload_n dX11_snow_5 rfl (by decide)) ?_
    refine pGoE (y := (rd σ 68 31)) (s_getI pc11 fl_X11_369 dX11_snow_6 (ob_68 hst) rfl (by decide)) rfl ?_
    refine p_icge (tgt := 20) dX11_snow_9 (by decide) g1 (g2 c2) (fun c3 => ?_) (fun c4 => ?_)
    · refine pGo (s_iconst dX11_snow_20) ?_
      refine pGo (s_goto (tgt := 35) dX11_snow_21 (by decide)) ?_
      exact pEnd (r := (some (0, (-1)))) dX11_snow_35 ⟨_, rfl⟩ (k2 c2 c3)
    · refine pGo (s_aload_n dX11_snow_12 rfl (by decide)) ?_
      refine pGo (s_iload_n dX11_snow_13 rfl) ?_
      refine p_callV (As := [(0, x2)]) (st := []) (n := 1) (d' := 0) (Q1 := (fun r τ => r = some (0, b2i (vDayMin (rd σ 68 78) x2)) ∧ τ = σ)) pc11 ok_X11_isDayMinute ml_X11_548 im_X11_isDayMinute se_X11_isDayMinute dX11_snow_14 (ob_68 hst) (pargs_of rfl) rfl (Nat.le_of_ble_eq_true rfl) (by omega) (f1 c2 c4) (fun r1 τ1 e1 q1 w1 => ?_)
      obtain ⟨rfl, t1⟩ := q1
      rw [t1]
      show pR mX11_snow d 17 [(2, 68), (0, x1), (0, x2)] [(0, (b2i (vDayMin (rd σ 68 78) x2)))] σ Q
      refine p_ifneB (tgt := 24) dX11_snow_17 (by decide) (fun c5 => ?_) (fun c6 => ?_)
      · refine pGo (s_aload_n dX11_snow_24 rfl (by decide)) ?_
        refine pGoE (y := 132) (s_getF pc11 fl_X11_205 dX11_snow_25 (ob_68 hst) rfl (by decide)) (by decide) ?_
        refine pGo (s_bipush dX11_snow_28 (by decide)) ?_
        refine pGo (s_iload_n dX11_snow_30 rfl) ?_
        refine pGo (s_imul dX11_snow_31) ?_
        refine pGo (s_iload_n dX11_snow_32 rfl) ?_
        refine pGo (s_iadd dX11_snow_33) ?_
        refine pGoE (y := (rd σ 132 ((7 * x2) + x1))) (s_iald dX11_snow_34 (ob_132 hst) (bnd (g3 c2 c4 c5))) rfl ?_
        exact pEnd (r := (some (0, (rd σ 132 ((7 * x2) + x1))))) dX11_snow_35 ⟨_, rfl⟩ (k3 c2 c4 c5)
      · refine pGo (s_iconst dX11_snow_20) ?_
        refine pGo (s_goto (tgt := 35) dX11_snow_21 (by decide)) ?_
        exact pEnd (r := (some (0, (-1)))) dX11_snow_35 ⟨_, rfl⟩ (k4 c2 c4 c6)
set_option maxRecDepth 100000 in
theorem g_X11_took_0 {d : Nat} {σ : pS} {Q : Option pV → pS → Prop} (hd : 2 ≤ d) (hst : Stat σ) (x1 : Int) (x2 : Int)  (f1 : pC mX11_wayOf 1 [(2, 68), (0, x1)] σ (fun r τ => r = some (0, (vWayOf (rd σ 68 30) (rd σ 68 31) x1)) ∧ τ = σ)) (g1 : inR (vWayOf (rd σ 68 30) (rd σ 68 31) x1)) (k1 : ∀ (c1 : (vWayOf (rd σ 68 30) (rd σ 68 31) x1) < 0), Q (some (0, (-1))) σ) (g2 : ∀ (c2 : 0 ≤ (vWayOf (rd σ 68 30) (rd σ 68 31) x1)), inR (rd σ 68 78)) (g3 : ∀ (c2 : 0 ≤ (vWayOf (rd σ 68 30) (rd σ 68 31) x1)) (c3 : (rd σ 68 78) ≠ 0), inR x2) (k2 : ∀ (c2 : 0 ≤ (vWayOf (rd σ 68 30) (rd σ 68 31) x1)) (c3 : (rd σ 68 78) ≠ 0) (c5 : x2 ≠ 0) (c7 : x2 = 1) (c9 : 6 ≤ (vWayOf (rd σ 68 30) (rd σ 68 31) x1)), Q (some (0, 0)) σ) (g4 : ∀ (c2 : 0 ≤ (vWayOf (rd σ 68 30) (rd σ 68 31) x1)) (c3 : (rd σ 68 78) ≠ 0) (c5 : x2 ≠ 0) (c7 : x2 = 1) (c10 : (vWayOf (rd σ 68 30) (rd σ 68 31) x1) < 6), 0 ≤ (vWayOf (rd σ 68 30) (rd σ 68 31) x1) ∧ (vWayOf (rd σ 68 30) (rd σ 68 31) x1) < 6) (k3 : ∀ (c2 : 0 ≤ (vWayOf (rd σ 68 30) (rd σ 68 31) x1)) (c3 : (rd σ 68 78) ≠ 0) (c5 : x2 ≠ 0) (c7 : x2 = 1) (c10 : (vWayOf (rd σ 68 30) (rd σ 68 31) x1) < 6), Q (some (0, (rd σ 129 (vWayOf (rd σ 68 30) (rd σ 68 31) x1)))) σ) (k4 : ∀ (c2 : 0 ≤ (vWayOf (rd σ 68 30) (rd σ 68 31) x1)) (c3 : (rd σ 68 78) ≠ 0) (c5 : x2 ≠ 0) (c8 : x2 ≠ 1), Q (some (0, (-1))) σ) (g5 : ∀ (c2 : 0 ≤ (vWayOf (rd σ 68 30) (rd σ 68 31) x1)) (c3 : (rd σ 68 78) ≠ 0) (c6 : x2 = 0), 0 ≤ (vWayOf (rd σ 68 30) (rd σ 68 31) x1) ∧ (vWayOf (rd σ 68 30) (rd σ 68 31) x1) < 13) (k5 : ∀ (c2 : 0 ≤ (vWayOf (rd σ 68 30) (rd σ 68 31) x1)) (c3 : (rd σ 68 78) ≠ 0) (c6 : x2 = 0), Q (some (0, (rd σ 128 (vWayOf (rd σ 68 30) (rd σ 68 31) x1)))) σ) (k6 : ∀ (c2 : 0 ≤ (vWayOf (rd σ 68 30) (rd σ 68 31) x1)) (c4 : (rd σ 68 78) = 0), Q (some (0, (-1))) σ) : pC mX11_took d [(2, 68), (0, x1), (0, x2)] σ Q := by
  show pR mX11_took d 0 [(2, 68), (0, x1), (0, x2), (9, 0)] [] σ Q
  refine pGo (s_aload_n dX11_took_0 rfl (by decide)) ?_
  refine pGo (s_iload_n dX11_took_1 rfl) ?_
  refine p_callV (As := [(0, x1)]) (st := []) (n := 1) (d' := 1) (Q1 := (fun r τ => r = some (0, (vWayOf (rd σ 68 30) (rd σ 68 31) x1)) ∧ τ = σ)) pc11 ok_X11_wayOf ml_X11_477 im_X11_wayOf se_X11_wayOf dX11_took_2 (ob_68 hst) (pargs_of rfl) rfl (Nat.le_of_ble_eq_true rfl) (by omega) f1 (fun r1 τ1 e1 q1 w1 => ?_)
  obtain ⟨rfl, t1⟩ := q1
  rw [t1]
  show pR mX11_took d 5 [(2, 68), (0, x1), (0, x2), (9, 0)] [(0, (vWayOf (rd σ 68 30) (rd σ 68 31) x1))] σ Q
  refine pGoL (ls2 := [(2, 68), (0, x1), (0, x2), (0, (vWayOf (rd σ 68 30) (rd σ 68 31) x1))]) (s_istore_n dX11_took_5 (by decide) rfl) rfl ?_
  refine pGo (s_iload_n dX11_took_6 rfl) ?_
  refine p_iflt (tgt := 17) dX11_took_7 (by decide) g1 (fun c1 => ?_) (fun c2 => ?_)
  · refine pGo (s_iconst dX11_took_17) ?_
    exact pEnd (r := (some (0, (-1)))) dX11_took_18 ⟨_, rfl⟩ (k1 c1)
  · refine pGo (s_aload_n dX11_took_10 rfl (by decide)) ?_
    refine pGoE (y := (rd σ 68 78)) (s_getI pc11 fl_X11_381 dX11_took_11 (ob_68 hst) rfl (by decide)) rfl ?_
    refine p_ifne (tgt := 19) dX11_took_14 (by decide) (g2 c2) (fun c3 => ?_) (fun c4 => ?_)
    · refine pGo (s_iload_n dX11_took_19 rfl) ?_
      refine p_ifne (tgt := 32) dX11_took_20 (by decide) (g3 c2 c3) (fun c5 => ?_) (fun c6 => ?_)
      · refine pGo (s_iload_n dX11_took_32 rfl) ?_
        refine pGo (s_iconst dX11_took_33) ?_
        refine p_iceq (tgt := 41) dX11_took_34 (by decide) (g3 c2 c3) (by decide) (fun c7 => ?_) (fun c8 => ?_)
        · refine pGo (s_iload_n dX11_took_41 rfl) ?_
          refine pGo (s_bipush dX11_took_42 (by decide)) ?_
          refine p_icge (tgt := 56) dX11_took_44 (by decide) g1 (by decide) (fun c9 => ?_) (fun c10 => ?_)
          · refine pGo (s_iconst dX11_took_56) ?_
            exact pEnd (r := (some (0, 0))) dX11_took_57 ⟨_, rfl⟩ (k2 c2 c3 c5 c7 c9)
          · refine pGo (s_aload_n dX11_took_47 rfl (by decide)) ?_
            refine pGoE (y := 129) (s_getF pc11 fl_X11_196 dX11_took_48 (ob_68 hst) rfl (by decide)) (by decide) ?_
            refine pGo (s_iload_n dX11_took_51 rfl) ?_
            refine pGoE (y := (rd σ 129 (vWayOf (rd σ 68 30) (rd σ 68 31) x1))) (s_iald dX11_took_52 (ob_129 hst) (bnd (g4 c2 c3 c5 c7 c10))) rfl ?_
            refine pGo (s_goto (tgt := 57) dX11_took_53 (by decide)) ?_
            exact pEnd (r := (some (0, (rd σ 129 (vWayOf (rd σ 68 30) (rd σ 68 31) x1))))) dX11_took_57 ⟨_, rfl⟩ (k3 c2 c3 c5 c7 c10)
        · refine pGo (s_iconst dX11_took_37) ?_
          refine pGo (s_goto (tgt := 57) dX11_took_38 (by decide)) ?_
          exact pEnd (r := (some (0, (-1)))) dX11_took_57 ⟨_, rfl⟩ (k4 c2 c3 c5 c8)
      · refine pGo (s_aload_n dX11_took_23 rfl (by decide)) ?_
        refine pGoE (y := 128) (s_getF pc11 fl_X11_193 dX11_took_24 (ob_68 hst) rfl (by decide)) (by decide) ?_
        refine pGo (s_iload_n dX11_took_27 rfl) ?_
        refine pGoE (y := (rd σ 128 (vWayOf (rd σ 68 30) (rd σ 68 31) x1))) (s_iald dX11_took_28 (ob_128 hst) (bnd (g5 c2 c3 c6))) rfl ?_
        refine pGo (s_goto (tgt := 57) dX11_took_29 (by decide)) ?_
        exact pEnd (r := (some (0, (rd σ 128 (vWayOf (rd σ 68 30) (rd σ 68 31) x1))))) dX11_took_57 ⟨_, rfl⟩ (k5 c2 c3 c6)
    · refine pGo (s_iconst dX11_took_17) ?_
      exact pEnd (r := (some (0, (-1)))) dX11_took_18 ⟨_, rfl⟩ (k6 c2 c4)
set_option maxRecDepth 100000 in
theorem g_X11_about_0 {d : Nat} {σ : pS} {Q : Option pV → pS → Prop} (hd : 0 ≤ d) (hst : Stat σ) (x1 : Int)  (g1 : inR x1) (k1 : ∀ (c1 : x1 < 0 ∨ 9 < x1), Q (some (0, (-1))) σ) (k2 : ∀ (c1 : x1 = 0), Q (some (0, (rd σ 68 30))) σ) (k3 : ∀ (c1 : x1 = 1), Q (some (0, (rd σ 68 31))) σ) (k4 : ∀ (c1 : x1 = 2), Q (some (0, (rd σ 68 33))) σ) (k5 : ∀ (c1 : x1 = 3), Q (some (0, (rd σ 68 51))) σ) (k6 : ∀ (c1 : x1 = 4), Q (some (0, (rd σ 68 64))) σ) (k7 : ∀ (c1 : x1 = 5), Q (some (0, (rd σ 68 65))) σ) (k8 : ∀ (c1 : x1 = 6), Q (some (0, (rd σ 68 77))) σ) (k9 : ∀ (c1 : x1 = 7), Q (some (0, (rd σ 68 52))) σ) (k10 : ∀ (c1 : x1 = 8), Q (some (0, (rd σ 68 1))) σ) (k11 : ∀ (c1 : x1 = 9), Q (some (0, (rd σ 68 32))) σ) : pC mX11_about d [(2, 68), (0, x1)] σ Q := by
  show pR mX11_about d 0 [(2, 68), (0, x1)] [] σ Q
  refine pGo (s_iload_n dX11_about_0 rfl) ?_
  rcases (show (x1 < 0 ∨ 9 < x1) ∨ x1 = 0 ∨ x1 = 1 ∨ x1 = 2 ∨ x1 = 3 ∨ x1 = 4 ∨ x1 = 5 ∨ x1 = 6 ∨ x1 = 7 ∨ x1 = 8 ∨ x1 = 9 by omega) with c1 | c1 | c1 | c1 | c1 | c1 | c1 | c1 | c1 | c1 | c1
  · refine pGo (s_tabout (tgt := 106) dX11_about_1 g1 c1 (by decide)) ?_
    refine pGo (s_iconst dX11_about_106) ?_
    exact pEnd (r := (some (0, (-1)))) dX11_about_107 ⟨_, rfl⟩ (k1 c1)
  · refine pGo (s_tabin (off := 55) (tgt := 56) dX11_about_1 g1 (by omega) (by omega) (by rw [c1]; rfl) (by decide)) ?_
    refine pGo (s_aload_n dX11_about_56 rfl (by decide)) ?_
    refine pGoE (y := (rd σ 68 30)) (s_getI pc11 fl_X11_366 dX11_about_57 (ob_68 hst) rfl (by decide)) rfl ?_
    exact pEnd (r := (some (0, (rd σ 68 30)))) dX11_about_60 ⟨_, rfl⟩ (k2 c1)
  · refine pGo (s_tabin (off := 60) (tgt := 61) dX11_about_1 g1 (by omega) (by omega) (by rw [c1]; rfl) (by decide)) ?_
    refine pGo (s_aload_n dX11_about_61 rfl (by decide)) ?_
    refine pGoE (y := (rd σ 68 31)) (s_getI pc11 fl_X11_369 dX11_about_62 (ob_68 hst) rfl (by decide)) rfl ?_
    exact pEnd (r := (some (0, (rd σ 68 31)))) dX11_about_65 ⟨_, rfl⟩ (k3 c1)
  · refine pGo (s_tabin (off := 65) (tgt := 66) dX11_about_1 g1 (by omega) (by omega) (by rw [c1]; rfl) (by decide)) ?_
    refine pGo (s_aload_n dX11_about_66 rfl (by decide)) ?_
    refine pGoE (y := (rd σ 68 33)) (s_getI pc11 fl_X11_375 dX11_about_67 (ob_68 hst) rfl (by decide)) rfl ?_
    exact pEnd (r := (some (0, (rd σ 68 33)))) dX11_about_70 ⟨_, rfl⟩ (k4 c1)
  · refine pGo (s_tabin (off := 70) (tgt := 71) dX11_about_1 g1 (by omega) (by omega) (by rw [c1]; rfl) (by decide)) ?_
    refine pGo (s_aload_n dX11_about_71 rfl (by decide)) ?_
    refine pGoE (y := (rd σ 68 51)) (s_getI pc11 fl_X11_446 dX11_about_72 (ob_68 hst) rfl (by decide)) rfl ?_
    exact pEnd (r := (some (0, (rd σ 68 51)))) dX11_about_75 ⟨_, rfl⟩ (k5 c1)
  · refine pGo (s_tabin (off := 75) (tgt := 76) dX11_about_1 g1 (by omega) (by omega) (by rw [c1]; rfl) (by decide)) ?_
    refine pGo (s_aload_n dX11_about_76 rfl (by decide)) ?_
    refine pGoE (y := (rd σ 68 64)) (s_getI pc11 fl_X11_509 dX11_about_77 (ob_68 hst) rfl (by decide)) rfl ?_
    exact pEnd (r := (some (0, (rd σ 68 64)))) dX11_about_80 ⟨_, rfl⟩ (k6 c1)
  · refine pGo (s_tabin (off := 80) (tgt := 81) dX11_about_1 g1 (by omega) (by omega) (by rw [c1]; rfl) (by decide)) ?_
    refine pGo (s_aload_n dX11_about_81 rfl (by decide)) ?_
    refine pGoE (y := (rd σ 68 65)) (s_getI pc11 fl_X11_378 dX11_about_82 (ob_68 hst) rfl (by decide)) rfl ?_
    exact pEnd (r := (some (0, (rd σ 68 65)))) dX11_about_85 ⟨_, rfl⟩ (k7 c1)
  · refine pGo (s_tabin (off := 85) (tgt := 86) dX11_about_1 g1 (by omega) (by omega) (by rw [c1]; rfl) (by decide)) ?_
    refine pGo (s_aload_n dX11_about_86 rfl (by decide)) ?_
    refine pGoE (y := (rd σ 68 77)) (s_getI pc11 fl_X11_530 dX11_about_87 (ob_68 hst) rfl (by decide)) rfl ?_
    exact pEnd (r := (some (0, (rd σ 68 77)))) dX11_about_90 ⟨_, rfl⟩ (k8 c1)
  · refine pGo (s_tabin (off := 90) (tgt := 91) dX11_about_1 g1 (by omega) (by omega) (by rw [c1]; rfl) (by decide)) ?_
    refine pGo (s_aload_n dX11_about_91 rfl (by decide)) ?_
    refine pGoE (y := (rd σ 68 52)) (s_getI pc11 fl_X11_449 dX11_about_92 (ob_68 hst) rfl (by decide)) rfl ?_
    exact pEnd (r := (some (0, (rd σ 68 52)))) dX11_about_95 ⟨_, rfl⟩ (k9 c1)
  · refine pGo (s_tabin (off := 95) (tgt := 96) dX11_about_1 g1 (by omega) (by omega) (by rw [c1]; rfl) (by decide)) ?_
    refine pGo (s_aload_n dX11_about_96 rfl (by decide)) ?_
    refine pGoE (y := (rd σ 68 1)) (s_getI pc11 fl_X11_233 dX11_about_97 (ob_68 hst) rfl (by decide)) rfl ?_
    exact pEnd (r := (some (0, (rd σ 68 1)))) dX11_about_100 ⟨_, rfl⟩ (k10 c1)
  · refine pGo (s_tabin (off := 100) (tgt := 101) dX11_about_1 g1 (by omega) (by omega) (by rw [c1]; rfl) (by decide)) ?_
    refine pGo (s_aload_n dX11_about_101 rfl (by decide)) ?_
    refine pGoE (y := (rd σ 68 32)) (s_getI pc11 fl_X11_372 dX11_about_102 (ob_68 hst) rfl (by decide)) rfl ?_
    exact pEnd (r := (some (0, (rd σ 68 32)))) dX11_about_105 ⟨_, rfl⟩ (k11 c1)
set_option maxRecDepth 100000 in
theorem g_X10_putOnTape_0 {d : Nat} {σ : pS} {Q : Option pV → pS → Prop} (hd : 0 ≤ d) (hst : Stat σ) (x1 : Int)  (k1 : pR mX10_putOnTape d 3 [(2, 0), (0, x1), (0, 24)] [] σ Q) : pC mX10_putOnTape d [(2, 0), (0, x1)] σ Q := by
  show pR mX10_putOnTape d 0 [(2, 0), (0, x1), (9, 0)] [] σ Q
  refine pGo (s_bipush dX10_putOnTape_0 (by decide)) ?_
  refine pGoL (ls2 := [(2, 0), (0, x1), (0, 24)]) (s_istore_n dX10_putOnTape_2 (by decide) rfl) rfl ?_
  exact k1
set_option maxRecDepth 100000 in
theorem g_X10_putOnTape_3 {d : Nat} {σ : pS} {Q : Option pV → pS → Prop} (hd : 0 ≤ d) (hst : Stat σ) (x1 : Int) (x2 : Int)  (g1 : inR x2) (k1 : ∀ (c1 : x2 < 0), Q none σ) (g2 : ∀ (c2 : 0 ≤ x2), inR (rd σ 0 1)) (k2 : ∀ (c2 : 0 ≤ x2) (c3 : 1400 ≤ (rd σ 0 1)), Q none σ) (g3 : ∀ (c2 : 0 ≤ x2) (c4 : (rd σ 0 1) < 1400), 0 ≤ (rd σ 0 1) ∧ (rd σ 0 1) < 1400) (k3 : ∀ (c2 : 0 ≤ x2) (c4 : (rd σ 0 1) < 1400), pR mX10_putOnTape d 3 [(2, 0), (0, x1), (0, (x2 + (-8)))] [] (wr (wr σ 1 (rd σ 0 1) (i_b (i_b (i_shr x1 x2)))) 0 1 ((rd σ 0 1) + 1)) Q) : pR mX10_putOnTape d 3 [(2, 0), (0, x1), (0, x2)] [] σ Q := by
  refine pGo (s_iload_n dX10_putOnTape_3 rfl) ?_
  refine p_iflt (tgt := 48) dX10_putOnTape_4 (by decide) g1 (fun c1 => ?_) (fun c2 => ?_)
  · exact pEnd (r := none) dX10_putOnTape_48 rfl (k1 c1)
  · refine pGo (s_aload_n dX10_putOnTape_7 rfl (by decide)) ?_
    refine pGoE (y := (rd σ 0 1)) (s_getI pc10 fl_X10_97 dX10_putOnTape_8 (ob_0 hst) rfl (by decide)) rfl ?_
    refine pGo (s_aload_n dX10_putOnTape_11 rfl (by decide)) ?_
    refine pGoE (y := 1) (s_getF pc10 fl_X10_9 dX10_putOnTape_12 (ob_0 hst) rfl (by decide)) (by decide) ?_
    refine pGoE (y := 1400) (s_blen dX10_putOnTape_15 (ob_1 hst)) rfl ?_
    refine p_icge (tgt := 48) dX10_putOnTape_16 (by decide) (g2 c2) (by decide) (fun c3 => ?_) (fun c4 => ?_)
    · exact pEnd (r := none) dX10_putOnTape_48 rfl (k2 c2 c3)
    · refine pGo (s_aload_n dX10_putOnTape_19 rfl (by decide)) ?_
      refine pGoE (y := 1) (s_getF pc10 fl_X10_9 dX10_putOnTape_20 (ob_0 hst) rfl (by decide)) (by decide) ?_
      refine pGo (s_aload_n dX10_putOnTape_23 rfl (by decide)) ?_
      refine pGoE (y := (rd σ 0 1)) (s_getI pc10 fl_X10_97 dX10_putOnTape_24 (ob_0 hst) rfl (by decide)) rfl ?_
      refine pGo (s_iload_n dX10_putOnTape_27 rfl) ?_
      refine pGo (s_iload_n dX10_putOnTape_28 rfl) ?_
      refine pGo (s_ishr dX10_putOnTape_29) ?_
      refine pGo (s_i2b dX10_putOnTape_30) ?_
      refine pGo (s_bast dX10_putOnTape_31 (ob_1 hst) (bnd (g3 c2 c4))) ?_
      refine pGo (s_aload_n dX10_putOnTape_32 rfl (by decide)) ?_
      refine pGo (s_dup dX10_putOnTape_33 (by decide)) ?_
      refine pGoE (y := (rd σ 0 1)) (s_getI pc10 fl_X10_97 dX10_putOnTape_34 (ob_0 hst) rfl (by decide)) (rd_wr_a _ (by decide)) ?_
      refine pGo (s_iconst dX10_putOnTape_37) ?_
      refine pGo (s_iadd dX10_putOnTape_38) ?_
      refine pGo (s_putI pc10 fl_X10_97 dX10_putOnTape_39 (ob_0 hst) rfl rfl rfl rfl) ?_
      refine pGoL (ls2 := [(2, 0), (0, x1), (0, (x2 + (-8)))]) (s_iinc dX10_putOnTape_42 (by decide) rfl rfl) rfl ?_
      refine pGo (s_goto (tgt := 3) dX10_putOnTape_45 (by decide)) ?_
      exact (k3 c2 c4)
set_option maxRecDepth 100000 in
theorem g_X10_feed_0 {d : Nat} {σ : pS} {Q : Option pV → pS → Prop} {Q1 : Option pV → pS → Prop} {Q2 : Option pV → pS → Prop} {Q3 : Option pV → pS → Prop} {Q4 : Option pV → pS → Prop} {Q5 : Option pV → pS → Prop} (hd : 1 ≤ d) (hst : Stat σ) (x1 : Int) (x2 : Int) (x3 : Int) (x4 : Int) (x5 : Int)  (g1 : inR ((rd σ 0 1) + 20)) (f1 : ∀ (c1 : ((rd σ 0 1) + 20) ≤ 1400), pC mX10_putOnTape 0 [(2, 0), (0, x1)] σ Q1) (f2 : ∀ (c1 : ((rd σ 0 1) + 20) ≤ 1400) (τ1 : pS) (e1 : pLe σ τ1) (q1 : Q1 none τ1), pC mX10_putOnTape 0 [(2, 0), (0, x2)] τ1 Q2) (f3 : ∀ (c1 : ((rd σ 0 1) + 20) ≤ 1400) (τ1 : pS) (e1 : pLe σ τ1) (q1 : Q1 none τ1) (τ2 : pS) (e2 : pLe τ1 τ2) (q2 : Q2 none τ2), pC mX10_putOnTape 0 [(2, 0), (0, x3)] τ2 Q3) (f4 : ∀ (c1 : ((rd σ 0 1) + 20) ≤ 1400) (τ1 : pS) (e1 : pLe σ τ1) (q1 : Q1 none τ1) (τ2 : pS) (e2 : pLe τ1 τ2) (q2 : Q2 none τ2) (τ3 : pS) (e3 : pLe τ2 τ3) (q3 : Q3 none τ3), pC mX10_putOnTape 0 [(2, 0), (0, x4)] τ3 Q4) (f5 : ∀ (c1 : ((rd σ 0 1) + 20) ≤ 1400) (τ1 : pS) (e1 : pLe σ τ1) (q1 : Q1 none τ1) (τ2 : pS) (e2 : pLe τ1 τ2) (q2 : Q2 none τ2) (τ3 : pS) (e3 : pLe τ2 τ3) (q3 : Q3 none τ3) (τ4 : pS) (e4 : pLe τ3 τ4) (q4 : Q4 none τ4), pC mX10_putOnTape 0 [(2, 0), (0, x5)] τ4 Q5) (k1 : ∀ (c1 : ((rd σ 0 1) + 20) ≤ 1400) (τ1 : pS) (e1 : pLe σ τ1) (q1 : Q1 none τ1) (τ2 : pS) (e2 : pLe τ1 τ2) (q2 : Q2 none τ2) (τ3 : pS) (e3 : pLe τ2 τ3) (q3 : Q3 none τ3) (τ4 : pS) (e4 : pLe τ3 τ4) (q4 : Q4 none τ4) (τ5 : pS) (e5 : pLe τ4 τ5) (q5 : Q5 none τ5), Q (some (0, (rd τ5 0 1))) τ5) (k2 : ∀ (c2 : 1400 < ((rd σ 0 1) + 20)), Q (some (0, (-1))) σ) : pC mX10_feed d [(2, 0), (0, x1), (0, x2), (0, x3), (0, x4), (0, x5)] σ Q := by
  show pR mX10_feed d 0 [(2, 0), (0, x1), (0, x2), (0, x3), (0, x4), (0, x5)] [] σ Q
  refine pGo (s_aload_n dX10_feed_0 rfl (by decide)) ?_
  refine pGoE (y := (rd σ 0 1)) (s_getI pc10 fl_X10_97 dX10_feed_1 (ob_0 hst) rfl (by decide)) rfl ?_
  refine pGo (s_bipush dX10_feed_4 (by decide)) ?_
  refine pGo (s_iadd dX10_feed_6) ?_
  refine pGo (s_sipush dX10_feed_7 (by decide)) ?_
  refine p_icle (tgt := 15) dX10_feed_10 (by decide) g1 (by decide) (fun c1 => ?_) (fun c2 => ?_)
  · refine pGo (s_aload_n dX10_feed_15 rfl (by decide)) ?_
    refine pGo (s_iload_n dX10_feed_16 rfl) ?_
    refine p_callV (As := [(0, x1)]) (st := []) (n := 1) (d' := 0) (Q1 := Q1) pc10 ok_X10_putOnTape ml_X10_100 im_X10_putOnTape se_X10_putOnTape dX10_feed_17 (ob_0 hst) (pargs_of rfl) rfl (Nat.le_of_ble_eq_true rfl) (by omega) (f1 c1) (fun r1 τ1 e1 q1 w1 => ?_)
    obtain rfl : r1 = none := w1
    have S1 : Stat τ1 := (Stat.le (σ := σ) hst e1)
    show pR mX10_feed d 20 [(2, 0), (0, x1), (0, x2), (0, x3), (0, x4), (0, x5)] [] τ1 Q
    refine pGo (s_aload_n dX10_feed_20 rfl (by decide)) ?_
    refine pGo (s_iload_n dX10_feed_21 rfl) ?_
    refine p_callV (As := [(0, x2)]) (st := []) (n := 1) (d' := 0) (Q1 := Q2) pc10 ok_X10_putOnTape ml_X10_100 im_X10_putOnTape se_X10_putOnTape dX10_feed_22 (ob_0 S1) (pargs_of rfl) rfl (Nat.le_of_ble_eq_true rfl) (by omega) (f2 c1 τ1 e1 q1) (fun r2 τ2 e2 q2 w2 => ?_)
    obtain rfl : r2 = none := w2
    have S2 : Stat τ2 := (Stat.le (σ := τ1) S1 e2)
    show pR mX10_feed d 25 [(2, 0), (0, x1), (0, x2), (0, x3), (0, x4), (0, x5)] [] τ2 Q
    refine pGo (s_aload_n dX10_feed_25 rfl (by decide)) ?_
    refine pGo (s_iload_n dX10_feed_26 rfl) ?_
    refine p_callV (As := [(0, x3)]) (st := []) (n := 1) (d' := 0) (Q1 := Q3) pc10 ok_X10_putOnTape ml_X10_100 im_X10_putOnTape se_X10_putOnTape dX10_feed_27 (ob_0 S2) (pargs_of rfl) rfl (Nat.le_of_ble_eq_true rfl) (by omega) (f3 c1 τ1 e1 q1 τ2 e2 q2) (fun r3 τ3 e3 q3 w3 => ?_)
    obtain rfl : r3 = none := w3
    have S3 : Stat τ3 := (Stat.le (σ := τ2) S2 e3)
    show pR mX10_feed d 30 [(2, 0), (0, x1), (0, x2), (0, x3), (0, x4), (0, x5)] [] τ3 Q
    refine pGo (s_aload_n dX10_feed_30 rfl (by decide)) ?_
    refine pGo (s_iload dX10_feed_31 rfl) ?_
    refine p_callV (As := [(0, x4)]) (st := []) (n := 1) (d' := 0) (Q1 := Q4) pc10 ok_X10_putOnTape ml_X10_100 im_X10_putOnTape se_X10_putOnTape dX10_feed_33 (ob_0 S3) (pargs_of rfl) rfl (Nat.le_of_ble_eq_true rfl) (by omega) (f4 c1 τ1 e1 q1 τ2 e2 q2 τ3 e3 q3) (fun r4 τ4 e4 q4 w4 => ?_)
    obtain rfl : r4 = none := w4
    have S4 : Stat τ4 := (Stat.le (σ := τ3) S3 e4)
    show pR mX10_feed d 36 [(2, 0), (0, x1), (0, x2), (0, x3), (0, x4), (0, x5)] [] τ4 Q
    refine pGo (s_aload_n dX10_feed_36 rfl (by decide)) ?_
    refine pGo (s_iload dX10_feed_37 rfl) ?_
    refine p_callV (As := [(0, x5)]) (st := []) (n := 1) (d' := 0) (Q1 := Q5) pc10 ok_X10_putOnTape ml_X10_100 im_X10_putOnTape se_X10_putOnTape dX10_feed_39 (ob_0 S4) (pargs_of rfl) rfl (Nat.le_of_ble_eq_true rfl) (by omega) (f5 c1 τ1 e1 q1 τ2 e2 q2 τ3 e3 q3 τ4 e4 q4) (fun r5 τ5 e5 q5 w5 => ?_)
    obtain rfl : r5 = none := w5
    have S5 : Stat τ5 := (Stat.le (σ := τ4) S4 e5)
    show pR mX10_feed d 42 [(2, 0), (0, x1), (0, x2), (0, x3), (0, x4), (0, x5)] [] τ5 Q
    refine pGo (s_aload_n dX10_feed_42 rfl (by decide)) ?_
    refine pGoE (y := (rd τ5 0 1)) (s_getI pc10 fl_X10_97 dX10_feed_43 (ob_0 S5) rfl (by decide)) rfl ?_
    exact pEnd (r := (some (0, (rd τ5 0 1)))) dX10_feed_46 ⟨_, rfl⟩ (k1 c1 τ1 e1 q1 τ2 e2 q2 τ3 e3 q3 τ4 e4 q4 τ5 e5 q5)
  · refine pGo (s_iconst dX10_feed_13) ?_
    exact pEnd (r := (some (0, (-1)))) dX10_feed_14 ⟨_, rfl⟩ (k2 c2)
set_option maxRecDepth 100000 in
theorem g_X10_end_0 {d : Nat} {σ : pS} {Q : Option pV → pS → Prop} (hd : 0 ≤ d) (hst : Stat σ) (x1 : Int)  (g1 : inR x1) (k1 : ∀ (c1 : x1 < 0), Q (some (0, (-1))) σ) (g2 : ∀ (c2 : 0 ≤ x1), inR (rd σ 0 1)) (k2 : ∀ (c2 : 0 ≤ x1) (c3 : x1 ≤ (rd σ 0 1)), Q (some (0, x1)) (wr σ 0 1 x1)) (k3 : ∀ (c2 : 0 ≤ x1) (c4 : (rd σ 0 1) < x1), Q (some (0, (-1))) σ) : pC mX10_end d [(2, 0), (0, x1)] σ Q := by
  show pR mX10_end d 0 [(2, 0), (0, x1)] [] σ Q
  refine pGo (s_iload_n dX10_end_0 rfl) ?_
  refine p_iflt (tgt := 12) dX10_end_1 (by decide) g1 (fun c1 => ?_) (fun c2 => ?_)
  · refine pGo (s_iconst dX10_end_12) ?_
    exact pEnd (r := (some (0, (-1)))) dX10_end_13 ⟨_, rfl⟩ (k1 c1)
  · refine pGo (s_iload_n dX10_end_4 rfl) ?_
    refine pGo (s_aload_n dX10_end_5 rfl (by decide)) ?_
    refine pGoE (y := (rd σ 0 1)) (s_getI pc10 fl_X10_97 dX10_end_6 (ob_0 hst) rfl (by decide)) rfl ?_
    refine p_icle (tgt := 14) dX10_end_9 (by decide) g1 (g2 c2) (fun c3 => ?_) (fun c4 => ?_)
    · refine pGo (s_aload_n dX10_end_14 rfl (by decide)) ?_
      refine pGo (s_iload_n dX10_end_15 rfl) ?_
      refine pGo (s_putI pc10 fl_X10_97 dX10_end_16 (ob_0 hst) rfl rfl rfl rfl) ?_
      refine pGo (s_iload_n dX10_end_19 rfl) ?_
      exact pEnd (r := (some (0, x1))) dX10_end_20 ⟨_, rfl⟩ (k2 c2 c3)
    · refine pGo (s_iconst dX10_end_12) ?_
      exact pEnd (r := (some (0, (-1)))) dX10_end_13 ⟨_, rfl⟩ (k3 c2 c4)
set_option maxRecDepth 100000 in
theorem g_X10_fault_0 {d : Nat} {σ : pS} {Q : Option pV → pS → Prop} (hd : 0 ≤ d) (hst : Stat σ) (x1 : Int)  (g1 : inR x1) (k1 : ∀ (c1 : x1 ≠ 0) (c3 : x1 ≠ 1), Q (some (0, (-1))) σ) (k2 : ∀ (c1 : x1 ≠ 0) (c4 : x1 = 1), Q (some (0, (rd σ 0 4))) σ) (k3 : ∀ (c2 : x1 = 0), Q (some (0, (rd σ 0 3))) σ) : pC mX10_fault d [(2, 0), (0, x1)] σ Q := by
  show pR mX10_fault d 0 [(2, 0), (0, x1)] [] σ Q
  refine pGo (s_iload_n dX10_fault_0 rfl) ?_
  refine p_ifne (tgt := 9) dX10_fault_1 (by decide) g1 (fun c1 => ?_) (fun c2 => ?_)
  · refine pGo (s_iload_n dX10_fault_9 rfl) ?_
    refine pGo (s_iconst dX10_fault_10) ?_
    refine p_icne (tgt := 21) dX10_fault_11 (by decide) g1 (by decide) (fun c3 => ?_) (fun c4 => ?_)
    · refine pGo (s_iconst dX10_fault_21) ?_
      exact pEnd (r := (some (0, (-1)))) dX10_fault_22 ⟨_, rfl⟩ (k1 c1 c3)
    · refine pGo (s_aload_n dX10_fault_14 rfl (by decide)) ?_
      refine pGoE (y := (rd σ 0 4)) (s_getI pc10 fl_X10_20 dX10_fault_15 (ob_0 hst) rfl (by decide)) rfl ?_
      refine pGo (s_goto (tgt := 22) dX10_fault_18 (by decide)) ?_
      exact pEnd (r := (some (0, (rd σ 0 4)))) dX10_fault_22 ⟨_, rfl⟩ (k2 c1 c4)
  · refine pGo (s_aload_n dX10_fault_4 rfl (by decide)) ?_
    refine pGoE (y := (rd σ 0 3)) (s_getI pc10 fl_X10_135 dX10_fault_5 (ob_0 hst) rfl (by decide)) rfl ?_
    exact pEnd (r := (some (0, (rd σ 0 3)))) dX10_fault_8 ⟨_, rfl⟩ (k3 c2)
set_option maxRecDepth 100000 in
theorem g_X8_tell_0 {d : Nat} {σ : pS} {Q : Option pV → pS → Prop} (hd : 0 ≤ d) (hst : Stat σ) (a0 : Int) (x1 : Int) (x2 : Int) (x3 : Int) (x4 : Int) {na0 : Nat} (Ia0 : Inst8 σ a0 na0) (g1 : inR (rd σ a0 5)) (g2 : inR (na0 : Int)) (g3 : ∀ (c1 : (rd σ a0 5) < (na0 : Int)), 0 ≤ (rd σ a0 5) ∧ (rd σ a0 5) < (na0 : Int) ∧ (rd σ a0 5) < 2147483648) (k1 : ∀ (c1 : (rd σ a0 5) < (na0 : Int)), Q (some (0, (((rd σ a0 5) + 1) - 1))) (wr (wr (wr (wr (wr (wr σ (a0 + 1) (rd σ a0 5) x1) (a0 + 2) (rd σ a0 5) (-1)) (a0 + 3) (rd σ a0 5) x2) (a0 + 4) (rd σ a0 5) x3) (a0 + 5) (rd σ a0 5) x4) a0 5 ((rd σ a0 5) + 1))) (k2 : ∀ (c2 : (na0 : Int) ≤ (rd σ a0 5)), Q (some (0, (-1))) σ) : pC mX8_tell d [(2, a0), (0, x1), (0, x2), (0, x3), (0, x4)] σ Q := by
  show pR mX8_tell d 0 [(2, a0), (0, x1), (0, x2), (0, x3), (0, x4)] [] σ Q
  refine pGo (s_aload_n dX8_tell_0 rfl Ia0.pos) ?_
  refine pGoE (y := (rd σ a0 5)) (s_getI pc8 fl_X8_33 dX8_tell_1 Ia0.o0 rfl (by decide)) rfl ?_
  refine pGo (s_aload_n dX8_tell_4 rfl Ia0.pos) ?_
  refine pGo (s_getF pc8 fl_X8_15 dX8_tell_5 Ia0.o0 rfl (by decide)) ?_
  refine pGo (s_alen dX8_tell_8 Ia0.o1) ?_
  refine p_iclt (tgt := 14) dX8_tell_9 (by decide) g1 g2 (fun c1 => ?_) (fun c2 => ?_)
  · refine pGo (s_aload_n dX8_tell_14 rfl Ia0.pos) ?_
    refine pGo (s_getF pc8 fl_X8_15 dX8_tell_15 Ia0.o0 rfl (by decide)) ?_
    refine pGo (s_aload_n dX8_tell_18 rfl Ia0.pos) ?_
    refine pGoE (y := (rd σ a0 5)) (s_getI pc8 fl_X8_33 dX8_tell_19 Ia0.o0 rfl (by decide)) rfl ?_
    refine pGo (s_iload_n dX8_tell_22 rfl) ?_
    refine pGo (s_iast dX8_tell_23 Ia0.o1 (g3 c1)) ?_
    refine pGo (s_aload_n dX8_tell_24 rfl Ia0.pos) ?_
    refine pGo (s_getF pc8 fl_X8_21 dX8_tell_25 Ia0.o0 rfl (by decide)) ?_
    refine pGo (s_aload_n dX8_tell_28 rfl Ia0.pos) ?_
    refine pGoE (y := (rd σ a0 5)) (s_getI pc8 fl_X8_33 dX8_tell_29 Ia0.o0 rfl (by decide)) (rd_wr_a _ (by omega)) ?_
    refine pGo (s_iconst dX8_tell_32) ?_
    refine pGo (s_iast dX8_tell_33 Ia0.o2 (g3 c1)) ?_
    refine pGo (s_aload_n dX8_tell_34 rfl Ia0.pos) ?_
    refine pGo (s_getF pc8 fl_X8_24 dX8_tell_35 Ia0.o0 rfl (by decide)) ?_
    refine pGo (s_aload_n dX8_tell_38 rfl Ia0.pos) ?_
    refine pGoE (y := (rd σ a0 5)) (s_getI pc8 fl_X8_33 dX8_tell_39 Ia0.o0 rfl (by decide)) ((rd_wr_a _ (by omega)).trans (rd_wr_a _ (by omega))) ?_
    refine pGo (s_iload_n dX8_tell_42 rfl) ?_
    refine pGo (s_iast dX8_tell_43 Ia0.o3 (g3 c1)) ?_
    refine pGo (s_aload_n dX8_tell_44 rfl Ia0.pos) ?_
    refine pGo (s_getF pc8 fl_X8_27 dX8_tell_45 Ia0.o0 rfl (by decide)) ?_
    refine pGo (s_aload_n dX8_tell_48 rfl Ia0.pos) ?_
    refine pGoE (y := (rd σ a0 5)) (s_getI pc8 fl_X8_33 dX8_tell_49 Ia0.o0 rfl (by decide)) ((rd_wr_a _ (by omega)).trans ((rd_wr_a _ (by omega)).trans (rd_wr_a _ (by omega)))) ?_
    refine pGo (s_iload_n dX8_tell_52 rfl) ?_
    refine pGo (s_iast dX8_tell_53 Ia0.o4 (g3 c1)) ?_
    refine pGo (s_aload_n dX8_tell_54 rfl Ia0.pos) ?_
    refine pGo (s_getF pc8 fl_X8_30 dX8_tell_55 Ia0.o0 rfl (by decide)) ?_
    refine pGo (s_aload_n dX8_tell_58 rfl Ia0.pos) ?_
    refine pGoE (y := (rd σ a0 5)) (s_getI pc8 fl_X8_33 dX8_tell_59 Ia0.o0 rfl (by decide)) ((rd_wr_a _ (by omega)).trans ((rd_wr_a _ (by omega)).trans ((rd_wr_a _ (by omega)).trans (rd_wr_a _ (by omega))))) ?_
    refine pGo (s_iload dX8_tell_62 rfl) ?_
    refine pGo (s_iast dX8_tell_64 Ia0.o5 (g3 c1)) ?_
    refine pGo (s_aload_n dX8_tell_65 rfl Ia0.pos) ?_
    refine pGo (s_dup dX8_tell_66 (show (2 : Nat) ≠ 1 by decide)) ?_
    refine pGoE (y := (rd σ a0 5)) (s_getI pc8 fl_X8_33 dX8_tell_67 Ia0.o0 rfl (by decide)) ((rd_wr_a _ (by omega)).trans ((rd_wr_a _ (by omega)).trans ((rd_wr_a _ (by omega)).trans ((rd_wr_a _ (by omega)).trans (rd_wr_a _ (by omega)))))) ?_
    refine pGo (s_iconst dX8_tell_70) ?_
    refine pGo (s_iadd dX8_tell_71) ?_
    refine pGo (s_putI pc8 fl_X8_33 dX8_tell_72 Ia0.o0 rfl rfl rfl rfl) ?_
    refine pGo (s_aload_n dX8_tell_75 rfl Ia0.pos) ?_
    refine pGoE (y := ((rd σ a0 5) + 1)) (s_getI pc8 fl_X8_33 dX8_tell_76 Ia0.o0 rfl (by decide)) (rd_wr_same _ _ _ _) ?_
    refine pGo (s_iconst dX8_tell_79) ?_
    refine pGo (s_isub dX8_tell_80) ?_
    exact pEnd (r := (some (0, (((rd σ a0 5) + 1) - 1)))) dX8_tell_81 ⟨_, rfl⟩ (k1 c1)
  · refine pGo (s_iconst dX8_tell_12) ?_
    exact pEnd (r := (some (0, (-1)))) dX8_tell_13 ⟨_, rfl⟩ (k2 c2)
set_option maxRecDepth 100000 in
theorem g_X8_takeBack_0 {d : Nat} {σ : pS} {Q : Option pV → pS → Prop} (hd : 1 ≤ d) (hst : Stat σ) (a0 : Int) (x1 : Int) (x2 : Int) {na0 : Nat} (Ia0 : Inst8 σ a0 na0) (f1 : pC mX10_within 0 [(0, x1), (0, (rd σ a0 5))] σ (fun r τ => r = some (0, b2i (vWithin x1 (rd σ a0 5))) ∧ τ = σ)) (k1 : ∀ (c1 : (vWithin x1 (rd σ a0 5)) = false), Q (some (0, 0)) σ) (g1 : ∀ (c2 : (vWithin x1 (rd σ a0 5)) = true), 0 ≤ x1 ∧ x1 < (na0 : Int) ∧ x1 < 2147483648) (g2 : ∀ (c2 : (vWithin x1 (rd σ a0 5)) = true), inR (rd σ (a0 + 2) x1)) (k2 : ∀ (c2 : (vWithin x1 (rd σ a0 5)) = true) (c3 : (rd σ (a0 + 2) x1) = (-1)), Q (some (0, 1)) (wr σ (a0 + 2) x1 x2)) (k3 : ∀ (c2 : (vWithin x1 (rd σ a0 5)) = true) (c4 : (rd σ (a0 + 2) x1) ≠ (-1)), Q (some (0, 0)) σ) : pC mX8_takeBack d [(2, a0), (0, x1), (0, x2)] σ Q := by
  show pR mX8_takeBack d 0 [(2, a0), (0, x1), (0, x2)] [] σ Q
  refine pGo (s_iload_n dX8_takeBack_0 rfl) ?_
  refine pGo (s_aload_n dX8_takeBack_1 rfl Ia0.pos) ?_
  refine pGoE (y := (rd σ a0 5)) (s_getI pc8 fl_X8_33 dX8_takeBack_2 Ia0.o0 rfl (by decide)) rfl ?_
  refine p_callS (As := [(0, x1), (0, (rd σ a0 5))]) (st := []) (n := 2) (d' := 0) (Q1 := (fun r τ => r = some (0, b2i (vWithin x1 (rd σ a0 5))) ∧ τ = σ)) ok_X10_within ml_X8_37 sm_X10_within dX8_takeBack_5 (pargs_of rfl) rfl (Nat.le_of_ble_eq_true rfl) (by omega) f1 (fun r1 τ1 e1 q1 w1 => ?_)
  obtain ⟨rfl, t1⟩ := q1
  rw [t1]
  show pR mX8_takeBack d 8 [(2, a0), (0, x1), (0, x2)] [(0, (b2i (vWithin x1 (rd σ a0 5))))] σ Q
  refine p_ifeqB (tgt := 21) dX8_takeBack_8 (by decide) (fun c1 => ?_) (fun c2 => ?_)
  · refine pGo (s_iconst dX8_takeBack_21) ?_
    exact pEnd (r := (some (0, 0))) dX8_takeBack_22 (Or.inl rfl) (k1 c1)
  · refine pGo (s_aload_n dX8_takeBack_11 rfl Ia0.pos) ?_
    refine pGo (s_getF pc8 fl_X8_21 dX8_takeBack_12 Ia0.o0 rfl (by decide)) ?_
    refine pGo (s_iload_n dX8_takeBack_15 rfl) ?_
    refine pGoE (y := (rd σ (a0 + 2) x1)) (s_iald dX8_takeBack_16 Ia0.o2 (g1 c2)) rfl ?_
    refine pGo (s_iconst dX8_takeBack_17) ?_
    refine p_iceq (tgt := 23) dX8_takeBack_18 (by decide) (g2 c2) (by decide) (fun c3 => ?_) (fun c4 => ?_)
    · refine pGo (s_aload_n dX8_takeBack_23 rfl Ia0.pos) ?_
      refine pGo (s_getF pc8 fl_X8_21 dX8_takeBack_24 Ia0.o0 rfl (by decide)) ?_
      refine pGo (s_iload_n dX8_takeBack_27 rfl) ?_
      refine pGo (s_iload_n dX8_takeBack_28 rfl) ?_
      refine pGo (s_iast dX8_takeBack_29 Ia0.o2 (g1 c2)) ?_
      refine pGo (s_iconst dX8_takeBack_30) ?_
      exact pEnd (r := (some (0, 1))) dX8_takeBack_31 (Or.inr rfl) (k2 c2 c3)
    · refine pGo (s_iconst dX8_takeBack_21) ?_
      exact pEnd (r := (some (0, 0))) dX8_takeBack_22 (Or.inl rfl) (k3 c2 c4)
set_option maxRecDepth 100000 in
theorem g_X8_counts_0 {d : Nat} {σ : pS} {Q : Option pV → pS → Prop} (hd : 0 ≤ d) (hst : Stat σ) (a0 : Int) (x1 : Int) (x2 : Int) {na0 : Nat} (Ia0 : Inst8 σ a0 na0) (g1 : 0 ≤ x1 ∧ x1 < (na0 : Int) ∧ x1 < 2147483648) (g2 : inR (rd σ (a0 + 1) x1)) (g3 : inR x2) (k1 : ∀ (c1 : x2 < (rd σ (a0 + 1) x1)), Q (some (0, 0)) σ) (g4 : ∀ (c2 : (rd σ (a0 + 1) x1) ≤ x2), inR (rd σ (a0 + 2) x1)) (k2 : ∀ (c2 : (rd σ (a0 + 1) x1) ≤ x2) (c3 : (rd σ (a0 + 2) x1) = (-1)), Q (some (0, 1)) σ) (k3 : ∀ (c2 : (rd σ (a0 + 1) x1) ≤ x2) (c4 : (rd σ (a0 + 2) x1) ≠ (-1)) (c5 : (rd σ (a0 + 2) x1) ≤ x2), Q (some (0, 0)) σ) (k4 : ∀ (c2 : (rd σ (a0 + 1) x1) ≤ x2) (c4 : (rd σ (a0 + 2) x1) ≠ (-1)) (c6 : x2 < (rd σ (a0 + 2) x1)), Q (some (0, 1)) σ) : pC mX8_counts d [(2, a0), (0, x1), (0, x2)] σ Q := by
  show pR mX8_counts d 0 [(2, a0), (0, x1), (0, x2)] [] σ Q
  refine pGo (s_aload_n dX8_counts_0 rfl Ia0.pos) ?_
  refine pGo (s_getF pc8 fl_X8_15 dX8_counts_1 Ia0.o0 rfl (by decide)) ?_
  refine pGo (s_iload_n dX8_counts_4 rfl) ?_
  refine pGoE (y := (rd σ (a0 + 1) x1)) (s_iald dX8_counts_5 Ia0.o1 g1) rfl ?_
  refine pGo (s_iload_n dX8_counts_6 rfl) ?_
  refine p_icgt (tgt := 34) dX8_counts_7 (by decide) g2 g3 (fun c1 => ?_) (fun c2 => ?_)
  · refine pGo (s_iconst dX8_counts_34) ?_
    exact pEnd (r := (some (0, 0))) dX8_counts_35 (Or.inl rfl) (k1 c1)
  · refine pGo (s_aload_n dX8_counts_10 rfl Ia0.pos) ?_
    refine pGo (s_getF pc8 fl_X8_21 dX8_counts_11 Ia0.o0 rfl (by decide)) ?_
    refine pGo (s_iload_n dX8_counts_14 rfl) ?_
    refine pGoE (y := (rd σ (a0 + 2) x1)) (s_iald dX8_counts_15 Ia0.o2 g1) rfl ?_
    refine pGo (s_iconst dX8_counts_16) ?_
    refine p_iceq (tgt := 30) dX8_counts_17 (by decide) (g4 c2) (by decide) (fun c3 => ?_) (fun c4 => ?_)
    · refine pGo (s_iconst dX8_counts_30) ?_
      refine pGo (s_goto (tgt := 35) dX8_counts_31 (by decide)) ?_
      exact pEnd (r := (some (0, 1))) dX8_counts_35 (Or.inr rfl) (k2 c2 c3)
    · refine pGo (s_aload_n dX8_counts_20 rfl Ia0.pos) ?_
      refine pGo (s_getF pc8 fl_X8_21 dX8_counts_21 Ia0.o0 rfl (by decide)) ?_
      refine pGo (s_iload_n dX8_counts_24 rfl) ?_
      refine pGoE (y := (rd σ (a0 + 2) x1)) (s_iald dX8_counts_25 Ia0.o2 g1) rfl ?_
      refine pGo (s_iload_n dX8_counts_26 rfl) ?_
      refine p_icle (tgt := 34) dX8_counts_27 (by decide) (g4 c2) g3 (fun c5 => ?_) (fun c6 => ?_)
      · refine pGo (s_iconst dX8_counts_34) ?_
        exact pEnd (r := (some (0, 0))) dX8_counts_35 (Or.inl rfl) (k3 c2 c4 c5)
      · refine pGo (s_iconst dX8_counts_30) ?_
        refine pGo (s_goto (tgt := 35) dX8_counts_31 (by decide)) ?_
        exact pEnd (r := (some (0, 1))) dX8_counts_35 (Or.inr rfl) (k4 c2 c4 c6)
set_option maxRecDepth 100000 in
theorem g_X10_weather_0 {d : Nat} {σ : pS} {Q : Option pV → pS → Prop} {Q1 : Option pV → pS → Prop} (hd : 1 ≤ d) (hst : Stat σ) (x1 : Int) (x2 : Int) (x3 : Int)  (f1 : pC mX10_within 0 [(0, x1), (0, 8)] σ (fun r τ => r = some (0, b2i (vWithin x1 8)) ∧ τ = σ)) (k1 : ∀ (c1 : (vWithin x1 8) = false), Q (some (0, (-1))) σ) (f2 : ∀ (c2 : (vWithin x1 8) = true), pC mX10_within 0 [(0, x2), (0, 100)] σ (fun r τ => r = some (0, b2i (vWithin x2 100)) ∧ τ = σ)) (k2 : ∀ (c2 : (vWithin x1 8) = true) (c3 : (vWithin x2 100) = false), Q (some (0, (-1))) σ) (f3 : ∀ (c2 : (vWithin x1 8) = true) (c4 : (vWithin x2 100) = true), pC mX10_within 0 [(0, x3), (0, 41)] σ (fun r τ => r = some (0, b2i (vWithin x3 41)) ∧ τ = σ)) (f4 : ∀ (c2 : (vWithin x1 8) = true) (c4 : (vWithin x2 100) = true) (c5 : (vWithin x3 41) = true), pC mX8_tell 0 [(2, 23), (0, (rd σ 0 5)), (0, x1), (0, x2), (0, x3)] (wr σ 0 6 ((rd σ 0 6) + 1)) Q1) (k3 : ∀ (c2 : (vWithin x1 8) = true) (c4 : (vWithin x2 100) = true) (c5 : (vWithin x3 41) = true) (v4 : Int) (τ4 : pS) (e4 : pLe (wr σ 0 6 ((rd σ 0 6) + 1)) τ4) (q4 : Q1 (some (0, v4)) τ4), Q (some (0, v4)) τ4) (k4 : ∀ (c2 : (vWithin x1 8) = true) (c4 : (vWithin x2 100) = true) (c6 : (vWithin x3 41) = false), Q (some (0, (-1))) σ) : pC mX10_weather d [(2, 0), (0, x1), (0, x2), (0, x3)] σ Q := by
  show pR mX10_weather d 0 [(2, 0), (0, x1), (0, x2), (0, x3)] [] σ Q
  refine pGo (s_iload_n dX10_weather_0 rfl) ?_
  refine pGo (s_bipush dX10_weather_1 (by decide)) ?_
  refine p_callS (As := [(0, x1), (0, 8)]) (st := []) (n := 2) (d' := 0) (Q1 := (fun r τ => r = some (0, b2i (vWithin x1 8)) ∧ τ = σ)) ok_X10_within ml_X10_138 sm_X10_within dX10_weather_3 (pargs_of rfl) rfl (Nat.le_of_ble_eq_true rfl) (by omega) f1 (fun r1 τ1 e1 q1 w1 => ?_)
  obtain ⟨rfl, t1⟩ := q1
  rw [t1]
  show pR mX10_weather d 6 [(2, 0), (0, x1), (0, x2), (0, x3)] [(0, (b2i (vWithin x1 8)))] σ Q
  refine p_ifeqB (tgt := 27) dX10_weather_6 (by decide) (fun c1 => ?_) (fun c2 => ?_)
  · refine pGo (s_iconst dX10_weather_27) ?_
    exact pEnd (r := (some (0, (-1)))) dX10_weather_28 ⟨_, rfl⟩ (k1 c1)
  · refine pGo (s_iload_n dX10_weather_9 rfl) ?_
    refine pGo (s_bipush dX10_weather_10 (by decide)) ?_
    refine p_callS (As := [(0, x2), (0, 100)]) (st := []) (n := 2) (d' := 0) (Q1 := (fun r τ => r = some (0, b2i (vWithin x2 100)) ∧ τ = σ)) ok_X10_within ml_X10_138 sm_X10_within dX10_weather_12 (pargs_of rfl) rfl (Nat.le_of_ble_eq_true rfl) (by omega) (f2 c2) (fun r2 τ2 e2 q2 w2 => ?_)
    obtain ⟨rfl, t2⟩ := q2
    rw [t2]
    show pR mX10_weather d 15 [(2, 0), (0, x1), (0, x2), (0, x3)] [(0, (b2i (vWithin x2 100)))] σ Q
    refine p_ifeqB (tgt := 27) dX10_weather_15 (by decide) (fun c3 => ?_) (fun c4 => ?_)
    · refine pGo (s_iconst dX10_weather_27) ?_
      exact pEnd (r := (some (0, (-1)))) dX10_weather_28 ⟨_, rfl⟩ (k2 c2 c3)
    · refine pGo (s_iload_n dX10_weather_18 rfl) ?_
      refine pGo (s_bipush dX10_weather_19 (by decide)) ?_
      refine p_callS (As := [(0, x3), (0, 41)]) (st := []) (n := 2) (d' := 0) (Q1 := (fun r τ => r = some (0, b2i (vWithin x3 41)) ∧ τ = σ)) ok_X10_within ml_X10_138 sm_X10_within dX10_weather_21 (pargs_of rfl) rfl (Nat.le_of_ble_eq_true rfl) (by omega) (f3 c2 c4) (fun r3 τ3 e3 q3 w3 => ?_)
      obtain ⟨rfl, t3⟩ := q3
      rw [t3]
      show pR mX10_weather d 24 [(2, 0), (0, x1), (0, x2), (0, x3)] [(0, (b2i (vWithin x3 41)))] σ Q
      refine p_ifneB (tgt := 29) dX10_weather_24 (by decide) (fun c5 => ?_) (fun c6 => ?_)
      · refine pGo (s_aload_n dX10_weather_29 rfl (by decide)) ?_
        refine pGo (s_dup dX10_weather_30 (by decide)) ?_
        refine pGoE (y := (rd σ 0 6)) (s_getI pc10 fl_X10_113 dX10_weather_31 (ob_0 hst) rfl (by decide)) rfl ?_
        refine pGo (s_iconst dX10_weather_34) ?_
        refine pGo (s_iadd dX10_weather_35) ?_
        refine pGo (s_putI pc10 fl_X10_113 dX10_weather_36 (ob_0 hst) rfl rfl rfl rfl) ?_
        refine pGo (s_aload_n dX10_weather_39 rfl (by decide)) ?_
        refine pGoE (y := 23) (s_getF pc10 fl_X10_43 dX10_weather_40 (ob_0 hst) rfl (by decide)) (by decide) ?_
        refine pGo (s_aload_n dX10_weather_43 rfl (by decide)) ?_
        refine pGoE (y := (rd σ 0 5)) (s_getI pc10 fl_X10_142 dX10_weather_44 (ob_0 hst) rfl (by decide)) (rd_wr_i _ (by decide)) ?_
        refine pGo (s_iload_n dX10_weather_47 rfl) ?_
        refine pGo (s_iload_n dX10_weather_48 rfl) ?_
        refine pGo (s_iload_n dX10_weather_49 rfl) ?_
        refine p_callV (As := [(0, (rd σ 0 5)), (0, x1), (0, x2), (0, x3)]) (st := []) (n := 4) (d' := 0) (Q1 := Q1) pc8 ok_X8_tell ml_X10_145 im_X8_tell se_X8_tell dX10_weather_50 (ob_23 hst) (pargs_of rfl) rfl (Nat.le_of_ble_eq_true rfl) (by omega) (f4 c2 c4 c5) (fun r4 τ4 e4 q4 w4 => ?_)
        obtain ⟨v4, rfl⟩ := w4
        have S4 : Stat τ4 := (Stat.le (σ := (wr σ 0 6 ((rd σ 0 6) + 1))) hst e4)
        show pR mX10_weather d 53 [(2, 0), (0, x1), (0, x2), (0, x3)] [(0, v4)] τ4 Q
        exact pEnd (r := (some (0, v4))) dX10_weather_53 ⟨_, rfl⟩ (k3 c2 c4 c5 v4 τ4 e4 q4)
      · refine pGo (s_iconst dX10_weather_27) ?_
        exact pEnd (r := (some (0, (-1)))) dX10_weather_28 ⟨_, rfl⟩ (k4 c2 c4 c6)
set_option maxRecDepth 100000 in
theorem g_X10_untell_0 {d : Nat} {σ : pS} {Q : Option pV → pS → Prop} {Q1 : Option pV → pS → Prop} (hd : 2 ≤ d) (hst : Stat σ) (x1 : Int)  (f1 : pC mX8_takeBack 1 [(2, 23), (0, x1), (0, (rd σ 0 5))] (wr σ 0 6 ((rd σ 0 6) + 1)) Q1) (k1 : ∀ (v1 : Int) (b1 : v1 = 0 ∨ v1 = 1) (τ1 : pS) (e1 : pLe (wr σ 0 6 ((rd σ 0 6) + 1)) τ1) (q1 : Q1 (some (0, v1)) τ1), Q (some (0, v1)) τ1) : pC mX10_untell d [(2, 0), (0, x1)] σ Q := by
  show pR mX10_untell d 0 [(2, 0), (0, x1)] [] σ Q
  refine pGo (s_aload_n dX10_untell_0 rfl (by decide)) ?_
  refine pGo (s_dup dX10_untell_1 (by decide)) ?_
  refine pGoE (y := (rd σ 0 6)) (s_getI pc10 fl_X10_113 dX10_untell_2 (ob_0 hst) rfl (by decide)) rfl ?_
  refine pGo (s_iconst dX10_untell_5) ?_
  refine pGo (s_iadd dX10_untell_6) ?_
  refine pGo (s_putI pc10 fl_X10_113 dX10_untell_7 (ob_0 hst) rfl rfl rfl rfl) ?_
  refine pGo (s_aload_n dX10_untell_10 rfl (by decide)) ?_
  refine pGoE (y := 23) (s_getF pc10 fl_X10_43 dX10_untell_11 (ob_0 hst) rfl (by decide)) (by decide) ?_
  refine pGo (s_iload_n dX10_untell_14 rfl) ?_
  refine pGo (s_aload_n dX10_untell_15 rfl (by decide)) ?_
  refine pGoE (y := (rd σ 0 5)) (s_getI pc10 fl_X10_142 dX10_untell_16 (ob_0 hst) rfl (by decide)) (rd_wr_i _ (by decide)) ?_
  refine p_callV (As := [(0, x1), (0, (rd σ 0 5))]) (st := []) (n := 2) (d' := 1) (Q1 := Q1) pc8 ok_X8_takeBack ml_X10_149 im_X8_takeBack se_X8_takeBack dX10_untell_19 (ob_23 hst) (pargs_of rfl) rfl (Nat.le_of_ble_eq_true rfl) (by omega) f1 (fun r1 τ1 e1 q1 w1 => ?_)
  obtain ⟨v1, rfl, b1⟩ := pRok_z w1
  have S1 : Stat τ1 := (Stat.le (σ := (wr σ 0 6 ((rd σ 0 6) + 1))) hst e1)
  show pR mX10_untell d 22 [(2, 0), (0, x1)] [(0, v1)] τ1 Q
  exact pEnd (r := (some (0, v1))) dX10_untell_22 (pRok_01 b1) (k1 v1 b1 τ1 e1 q1)
set_option maxRecDepth 100000 in
theorem g_X10_later_0 {d : Nat} {σ : pS} {Q : Option pV → pS → Prop} (hd : 0 ≤ d) (hst : Stat σ) (x1 : Int)  (g1 : inR x1) (k1 : ∀ (c1 : x1 < 0), Q (some (0, (-1))) σ) (k2 : ∀ (c2 : 0 ≤ x1) (c3 : 1000 < x1), Q (some (0, (-1))) σ) (g2 : ∀ (c2 : 0 ≤ x1) (c4 : x1 ≤ 1000), inR ((rd σ 0 5) + x1)) (k3 : ∀ (c2 : 0 ≤ x1) (c4 : x1 ≤ 1000) (c5 : ((rd σ 0 5) + x1) ≤ 100000), Q (some (0, ((rd σ 0 5) + x1))) (wr σ 0 5 ((rd σ 0 5) + x1))) (k4 : ∀ (c2 : 0 ≤ x1) (c4 : x1 ≤ 1000) (c6 : 100000 < ((rd σ 0 5) + x1)), Q (some (0, (-1))) σ) : pC mX10_later d [(2, 0), (0, x1)] σ Q := by
  show pR mX10_later d 0 [(2, 0), (0, x1)] [] σ Q
  refine pGo (s_iload_n dX10_later_0 rfl) ?_
  refine p_iflt (tgt := 22) dX10_later_1 (by decide) g1 (fun c1 => ?_) (fun c2 => ?_)
  · refine pGo (s_iconst dX10_later_22) ?_
    exact pEnd (r := (some (0, (-1)))) dX10_later_23 ⟨_, rfl⟩ (k1 c1)
  · refine pGo (s_iload_n dX10_later_4 rfl) ?_
    refine pGo (s_sipush dX10_later_5 (by decide)) ?_
    refine p_icgt (tgt := 22) dX10_later_8 (by decide) g1 (by decide) (fun c3 => ?_) (fun c4 => ?_)
    · refine pGo (s_iconst dX10_later_22) ?_
      exact pEnd (r := (some (0, (-1)))) dX10_later_23 ⟨_, rfl⟩ (k2 c2 c3)
    · refine pGo (s_aload_n dX10_later_11 rfl (by decide)) ?_
      refine pGoE (y := (rd σ 0 5)) (s_getI pc10 fl_X10_142 dX10_later_12 (ob_0 hst) rfl (by decide)) rfl ?_
      refine pGo (s_iload_n dX10_later_15 rfl) ?_
      refine pGo (s_iadd dX10_later_16) ?_
      refine pGo (s_ldc (n := 100000) dX10_later_17 kc_X10_152 (by decide)) ?_
      refine p_icle (tgt := 24) dX10_later_19 (by decide) (g2 c2 c4) (by decide) (fun c5 => ?_) (fun c6 => ?_)
      · refine pGo (s_aload_n dX10_later_24 rfl (by decide)) ?_
        refine pGo (s_dup dX10_later_25 (by decide)) ?_
        refine pGoE (y := (rd σ 0 5)) (s_getI pc10 fl_X10_142 dX10_later_26 (ob_0 hst) rfl (by decide)) rfl ?_
        refine pGo (s_iload_n dX10_later_29 rfl) ?_
        refine pGo (s_iadd dX10_later_30) ?_
        refine pGo (s_putI pc10 fl_X10_142 dX10_later_31 (ob_0 hst) rfl rfl rfl rfl) ?_
        refine pGo (s_aload_n dX10_later_34 rfl (by decide)) ?_
        refine pGoE (y := ((rd σ 0 5) + x1)) (s_getI pc10 fl_X10_142 dX10_later_35 (ob_0 hst) rfl (by decide)) (rd_wr_same _ _ _ _) ?_
        exact pEnd (r := (some (0, ((rd σ 0 5) + x1)))) dX10_later_38 ⟨_, rfl⟩ (k3 c2 c4 c5)
      · refine pGo (s_iconst dX10_later_22) ?_
        exact pEnd (r := (some (0, (-1)))) dX10_later_23 ⟨_, rfl⟩ (k4 c2 c4 c6)
set_option maxRecDepth 100000 in
theorem g_X10_pass_0 {d : Nat} {σ : pS} {Q : Option pV → pS → Prop} {Q1 : Option pV → pS → Prop} (hd : 1 ≤ d) (hst : Stat σ) (x1 : Int) (x2 : Int) (x3 : Int)  (f1 : pC mX10_within 0 [(0, x1), (0, (rd σ 0 14))] σ (fun r τ => r = some (0, b2i (vWithin x1 (rd σ 0 14))) ∧ τ = σ)) (k1 : ∀ (c1 : (vWithin x1 (rd σ 0 14)) = false), Q (some (0, (-1))) σ) (g1 : ∀ (c2 : (vWithin x1 (rd σ 0 14)) = true), Inst6 σ (rd σ 0 7)) (f2 : ∀ (c2 : (vWithin x1 (rd σ 0 14)) = true), pC mX10_within 0 [(0, x2), (0, (rd σ (rd σ 0 7) 0))] σ (fun r τ => r = some (0, b2i (vWithin x2 (rd σ (rd σ 0 7) 0))) ∧ τ = σ)) (k2 : ∀ (c2 : (vWithin x1 (rd σ 0 14)) = true) (c3 : (vWithin x2 (rd σ (rd σ 0 7) 0)) = false), Q (some (0, (-1))) σ) (f3 : ∀ (c2 : (vWithin x1 (rd σ 0 14)) = true) (c4 : (vWithin x2 (rd σ (rd σ 0 7) 0)) = true), pC mX10_within 0 [(0, x3), (0, 480)] σ (fun r τ => r = some (0, b2i (vWithin x3 480)) ∧ τ = σ)) (g2 : ∀ (c2 : (vWithin x1 (rd σ 0 14)) = true) (c4 : (vWithin x2 (rd σ (rd σ 0 7) 0)) = true) (c5 : (vWithin x3 480) = true), 0 ≤ x2 ∧ x2 < 17) (g3 : ∀ (c2 : (vWithin x1 (rd σ 0 14)) = true) (c4 : (vWithin x2 (rd σ (rd σ 0 7) 0)) = true) (c5 : (vWithin x3 480) = true), inR (rd σ ((rd σ 0 7) + 8) x2)) (f4 : ∀ (c2 : (vWithin x1 (rd σ 0 14)) = true) (c4 : (vWithin x2 (rd σ (rd σ 0 7) 0)) = true) (c5 : (vWithin x3 480) = true) (c7 : (rd σ ((rd σ 0 7) + 8) x2) ≠ 0), pC mX8_tell 0 [(2, 29), (0, (rd σ 0 5)), (0, x1), (0, x2), (0, x3)] (wr σ 0 6 ((rd σ 0 6) + 1)) Q1) (k3 : ∀ (c2 : (vWithin x1 (rd σ 0 14)) = true) (c4 : (vWithin x2 (rd σ (rd σ 0 7) 0)) = true) (c5 : (vWithin x3 480) = true) (c7 : (rd σ ((rd σ 0 7) + 8) x2) ≠ 0) (v4 : Int) (τ4 : pS) (e4 : pLe (wr σ 0 6 ((rd σ 0 6) + 1)) τ4) (q4 : Q1 (some (0, v4)) τ4), Q (some (0, v4)) τ4) (k4 : ∀ (c2 : (vWithin x1 (rd σ 0 14)) = true) (c4 : (vWithin x2 (rd σ (rd σ 0 7) 0)) = true) (c5 : (vWithin x3 480) = true) (c8 : (rd σ ((rd σ 0 7) + 8) x2) = 0), Q (some (0, (-1))) σ) (k5 : ∀ (c2 : (vWithin x1 (rd σ 0 14)) = true) (c4 : (vWithin x2 (rd σ (rd σ 0 7) 0)) = true) (c6 : (vWithin x3 480) = false), Q (some (0, (-1))) σ) : pC mX10_pass d [(2, 0), (0, x1), (0, x2), (0, x3)] σ Q := by
  show pR mX10_pass d 0 [(2, 0), (0, x1), (0, x2), (0, x3)] [] σ Q
  refine pGo (s_iload_n dX10_pass_0 rfl) ?_
  refine pGo (s_aload_n dX10_pass_1 rfl (by decide)) ?_
  refine pGoE (y := (rd σ 0 14)) (s_getI pc10 fl_X10_194 dX10_pass_2 (ob_0 hst) rfl (by decide)) rfl ?_
  refine p_callS (As := [(0, x1), (0, (rd σ 0 14))]) (st := []) (n := 2) (d' := 0) (Q1 := (fun r τ => r = some (0, b2i (vWithin x1 (rd σ 0 14))) ∧ τ = σ)) ok_X10_within ml_X10_138 sm_X10_within dX10_pass_5 (pargs_of rfl) rfl (Nat.le_of_ble_eq_true rfl) (by omega) f1 (fun r1 τ1 e1 q1 w1 => ?_)
  obtain ⟨rfl, t1⟩ := q1
  rw [t1]
  show pR mX10_pass d 8 [(2, 0), (0, x1), (0, x2), (0, x3)] [(0, (b2i (vWithin x1 (rd σ 0 14))))] σ Q
  refine p_ifeqB (tgt := 35) dX10_pass_8 (by decide) (fun c1 => ?_) (fun c2 => ?_)
  · refine pGo (s_iconst dX10_pass_35) ?_
    exact pEnd (r := (some (0, (-1)))) dX10_pass_36 ⟨_, rfl⟩ (k1 c1)
  · refine pGo (s_iload_n dX10_pass_11 rfl) ?_
    refine pGo (s_aload_n dX10_pass_12 rfl (by decide)) ?_
    refine pGoE (y := (rd σ 0 7)) (s_getR pc10 fl_X10_27 dX10_pass_13 (ob_0 hst) rfl rfl) rfl ?_
    refine pGoE (y := (rd σ (rd σ 0 7) 0)) (s_getI pc6 fl_X10_200 dX10_pass_16 (g1 c2).o0 rfl (by decide)) rfl ?_
    refine p_callS (As := [(0, x2), (0, (rd σ (rd σ 0 7) 0))]) (st := []) (n := 2) (d' := 0) (Q1 := (fun r τ => r = some (0, b2i (vWithin x2 (rd σ (rd σ 0 7) 0))) ∧ τ = σ)) ok_X10_within ml_X10_138 sm_X10_within dX10_pass_19 (pargs_of rfl) rfl (Nat.le_of_ble_eq_true rfl) (by omega) (f2 c2) (fun r2 τ2 e2 q2 w2 => ?_)
    obtain ⟨rfl, t2⟩ := q2
    rw [t2]
    show pR mX10_pass d 22 [(2, 0), (0, x1), (0, x2), (0, x3)] [(0, (b2i (vWithin x2 (rd σ (rd σ 0 7) 0))))] σ Q
    refine p_ifeqB (tgt := 35) dX10_pass_22 (by decide) (fun c3 => ?_) (fun c4 => ?_)
    · refine pGo (s_iconst dX10_pass_35) ?_
      exact pEnd (r := (some (0, (-1)))) dX10_pass_36 ⟨_, rfl⟩ (k2 c2 c3)
    · refine pGo (s_iload_n dX10_pass_25 rfl) ?_
      refine pGo (s_sipush dX10_pass_26 (by decide)) ?_
      refine p_callS (As := [(0, x3), (0, 480)]) (st := []) (n := 2) (d' := 0) (Q1 := (fun r τ => r = some (0, b2i (vWithin x3 480)) ∧ τ = σ)) ok_X10_within ml_X10_138 sm_X10_within dX10_pass_29 (pargs_of rfl) rfl (Nat.le_of_ble_eq_true rfl) (by omega) (f3 c2 c4) (fun r3 τ3 e3 q3 w3 => ?_)
      obtain ⟨rfl, t3⟩ := q3
      rw [t3]
      show pR mX10_pass d 32 [(2, 0), (0, x1), (0, x2), (0, x3)] [(0, (b2i (vWithin x3 480)))] σ Q
      refine p_ifneB (tgt := 37) dX10_pass_32 (by decide) (fun c5 => ?_) (fun c6 => ?_)
      · refine pGo (s_aload_n dX10_pass_37 rfl (by decide)) ?_
        refine pGoE (y := (rd σ 0 7)) (s_getR pc10 fl_X10_27 dX10_pass_38 (ob_0 hst) rfl rfl) rfl ?_
        refine pGo (s_getF pc6 fl_X10_203 dX10_pass_41 (g1 c2).o0 rfl (by decide)) ?_
        refine pGo (s_iload_n dX10_pass_44 rfl) ?_
        refine pGoE (y := (rd σ ((rd σ 0 7) + 8) x2)) (s_zald dX10_pass_45 (g1 c2).o8 (bnd (g2 c2 c4 c5))) rfl ?_
        refine p_ifne (tgt := 51) dX10_pass_46 (by decide) (g3 c2 c4 c5) (fun c7 => ?_) (fun c8 => ?_)
        · refine pGo (s_aload_n dX10_pass_51 rfl (by decide)) ?_
          refine pGo (s_dup dX10_pass_52 (by decide)) ?_
          refine pGoE (y := (rd σ 0 6)) (s_getI pc10 fl_X10_113 dX10_pass_53 (ob_0 hst) rfl (by decide)) rfl ?_
          refine pGo (s_iconst dX10_pass_56) ?_
          refine pGo (s_iadd dX10_pass_57) ?_
          refine pGo (s_putI pc10 fl_X10_113 dX10_pass_58 (ob_0 hst) rfl rfl rfl rfl) ?_
          refine pGo (s_aload_n dX10_pass_61 rfl (by decide)) ?_
          refine pGoE (y := 29) (s_getF pc10 fl_X10_47 dX10_pass_62 (ob_0 hst) rfl (by decide)) (by decide) ?_
          refine pGo (s_aload_n dX10_pass_65 rfl (by decide)) ?_
          refine pGoE (y := (rd σ 0 5)) (s_getI pc10 fl_X10_142 dX10_pass_66 (ob_0 hst) rfl (by decide)) (rd_wr_i _ (by decide)) ?_
          refine pGo (s_iload_n dX10_pass_69 rfl) ?_
          refine pGo (s_iload_n dX10_pass_70 rfl) ?_
          refine pGo (s_iload_n dX10_pass_71 rfl) ?_
          refine p_callV (As := [(0, (rd σ 0 5)), (0, x1), (0, x2), (0, x3)]) (st := []) (n := 4) (d' := 0) (Q1 := Q1) pc8 ok_X8_tell ml_X10_145 im_X8_tell se_X8_tell dX10_pass_72 (ob_29 hst) (pargs_of rfl) rfl (Nat.le_of_ble_eq_true rfl) (by omega) (f4 c2 c4 c5 c7) (fun r4 τ4 e4 q4 w4 => ?_)
          obtain ⟨v4, rfl⟩ := w4
          have S4 : Stat τ4 := (Stat.le (σ := (wr σ 0 6 ((rd σ 0 6) + 1))) hst e4)
          have J4_0 : Inst6 τ4 (rd σ 0 7) := Inst6.le (σ := (wr σ 0 6 ((rd σ 0 6) + 1))) (g1 c2) e4
          show pR mX10_pass d 75 [(2, 0), (0, x1), (0, x2), (0, x3)] [(0, v4)] τ4 Q
          exact pEnd (r := (some (0, v4))) dX10_pass_75 ⟨_, rfl⟩ (k3 c2 c4 c5 c7 v4 τ4 e4 q4)
        · refine pGo (s_iconst dX10_pass_49) ?_
          exact pEnd (r := (some (0, (-1)))) dX10_pass_50 ⟨_, rfl⟩ (k4 c2 c4 c5 c8)
      · refine pGo (s_iconst dX10_pass_35) ?_
        exact pEnd (r := (some (0, (-1)))) dX10_pass_36 ⟨_, rfl⟩ (k5 c2 c4 c6)
set_option maxRecDepth 100000 in
theorem g_X10_unpass_0 {d : Nat} {σ : pS} {Q : Option pV → pS → Prop} {Q1 : Option pV → pS → Prop} (hd : 2 ≤ d) (hst : Stat σ) (x1 : Int)  (f1 : pC mX8_takeBack 1 [(2, 29), (0, x1), (0, (rd σ 0 5))] (wr σ 0 6 ((rd σ 0 6) + 1)) Q1) (k1 : ∀ (v1 : Int) (b1 : v1 = 0 ∨ v1 = 1) (τ1 : pS) (e1 : pLe (wr σ 0 6 ((rd σ 0 6) + 1)) τ1) (q1 : Q1 (some (0, v1)) τ1), Q (some (0, v1)) τ1) : pC mX10_unpass d [(2, 0), (0, x1)] σ Q := by
  show pR mX10_unpass d 0 [(2, 0), (0, x1)] [] σ Q
  refine pGo (s_aload_n dX10_unpass_0 rfl (by decide)) ?_
  refine pGo (s_dup dX10_unpass_1 (by decide)) ?_
  refine pGoE (y := (rd σ 0 6)) (s_getI pc10 fl_X10_113 dX10_unpass_2 (ob_0 hst) rfl (by decide)) rfl ?_
  refine pGo (s_iconst dX10_unpass_5) ?_
  refine pGo (s_iadd dX10_unpass_6) ?_
  refine pGo (s_putI pc10 fl_X10_113 dX10_unpass_7 (ob_0 hst) rfl rfl rfl rfl) ?_
  refine pGo (s_aload_n dX10_unpass_10 rfl (by decide)) ?_
  refine pGoE (y := 29) (s_getF pc10 fl_X10_47 dX10_unpass_11 (ob_0 hst) rfl (by decide)) (by decide) ?_
  refine pGo (s_iload_n dX10_unpass_14 rfl) ?_
  refine pGo (s_aload_n dX10_unpass_15 rfl (by decide)) ?_
  refine pGoE (y := (rd σ 0 5)) (s_getI pc10 fl_X10_142 dX10_unpass_16 (ob_0 hst) rfl (by decide)) (rd_wr_i _ (by decide)) ?_
  refine p_callV (As := [(0, x1), (0, (rd σ 0 5))]) (st := []) (n := 2) (d' := 1) (Q1 := Q1) pc8 ok_X8_takeBack ml_X10_149 im_X8_takeBack se_X8_takeBack dX10_unpass_19 (ob_29 hst) (pargs_of rfl) rfl (Nat.le_of_ble_eq_true rfl) (by omega) f1 (fun r1 τ1 e1 q1 w1 => ?_)
  obtain ⟨v1, rfl, b1⟩ := pRok_z w1
  have S1 : Stat τ1 := (Stat.le (σ := (wr σ 0 6 ((rd σ 0 6) + 1))) hst e1)
  show pR mX10_unpass d 22 [(2, 0), (0, x1)] [(0, v1)] τ1 Q
  exact pEnd (r := (some (0, v1))) dX10_unpass_22 (pRok_01 b1) (k1 v1 b1 τ1 e1 q1)
set_option maxRecDepth 100000 in
theorem g_X0_addArrivals_0 {d : Nat} {σ : pS} {Q : Option pV → pS → Prop} (hd : 0 ≤ d) (hst : Stat σ) (x1 : Int) (x2 : Int)  (g1 : inR (rd σ 44 2)) (g2 : ∀ (c1 : (rd σ 44 2) < 20), 0 ≤ (rd σ 44 2) ∧ (rd σ 44 2) < 20) (k1 : ∀ (c1 : (rd σ 44 2) < 20), Q (some (0, ((rd σ 44 2) + 1))) (wr (wr (wr σ 45 (rd σ 44 2) x1) 46 (rd σ 44 2) x2) 44 2 ((rd σ 44 2) + 1))) (k2 : ∀ (c2 : 20 ≤ (rd σ 44 2)), Q (some (0, (-1))) σ) : pC mX0_addArrivals d [(2, 44), (0, x1), (0, x2)] σ Q := by
  show pR mX0_addArrivals d 0 [(2, 44), (0, x1), (0, x2)] [] σ Q
  refine pGo (s_aload_n dX0_addArrivals_0 rfl (by decide)) ?_
  refine pGoE (y := (rd σ 44 2)) (s_getI pc0 fl_X0_33 dX0_addArrivals_1 (ob_44 hst) rfl (by decide)) rfl ?_
  refine pGo (s_bipush dX0_addArrivals_4 (by decide)) ?_
  refine p_iclt (tgt := 11) dX0_addArrivals_6 (by decide) g1 (by decide) (fun c1 => ?_) (fun c2 => ?_)
  · refine pGo (s_aload_n dX0_addArrivals_11 rfl (by decide)) ?_
    refine pGoE (y := 45) (s_getF pc0 fl_X0_9 dX0_addArrivals_12 (ob_44 hst) rfl (by decide)) (by decide) ?_
    refine pGo (s_aload_n dX0_addArrivals_15 rfl (by decide)) ?_
    refine pGoE (y := (rd σ 44 2)) (s_getI pc0 fl_X0_33 dX0_addArrivals_16 (ob_44 hst) rfl (by decide)) rfl ?_
    refine pGo (s_iload_n dX0_addArrivals_19 rfl) ?_
    refine pGo (s_iast dX0_addArrivals_20 (ob_45 hst) (bnd (g2 c1))) ?_
    refine pGo (s_aload_n dX0_addArrivals_21 rfl (by decide)) ?_
    refine pGoE (y := 46) (s_getF pc0 fl_X0_15 dX0_addArrivals_22 (ob_44 hst) rfl (by decide)) (by decide) ?_
    refine pGo (s_aload_n dX0_addArrivals_25 rfl (by decide)) ?_
    refine pGoE (y := (rd σ 44 2)) (s_getI pc0 fl_X0_33 dX0_addArrivals_26 (ob_44 hst) rfl (by decide)) (rd_wr_a _ (by decide)) ?_
    refine pGo (s_iload_n dX0_addArrivals_29 rfl) ?_
    refine pGo (s_iast dX0_addArrivals_30 (ob_46 hst) (bnd (g2 c1))) ?_
    refine pGo (s_aload_n dX0_addArrivals_31 rfl (by decide)) ?_
    refine pGo (s_dup dX0_addArrivals_32 (by decide)) ?_
    refine pGoE (y := (rd σ 44 2)) (s_getI pc0 fl_X0_33 dX0_addArrivals_33 (ob_44 hst) rfl (by decide)) ((rd_wr_a _ (by decide)).trans (rd_wr_a _ (by decide))) ?_
    refine pGo (s_iconst dX0_addArrivals_36) ?_
    refine pGo (s_iadd dX0_addArrivals_37) ?_
    refine pGo (s_putI pc0 fl_X0_33 dX0_addArrivals_38 (ob_44 hst) rfl rfl rfl rfl) ?_
    refine pGo (s_aload_n dX0_addArrivals_41 rfl (by decide)) ?_
    refine pGoE (y := ((rd σ 44 2) + 1)) (s_getI pc0 fl_X0_33 dX0_addArrivals_42 (ob_44 hst) rfl (by decide)) (rd_wr_same _ _ _ _) ?_
    exact pEnd (r := (some (0, ((rd σ 44 2) + 1)))) dX0_addArrivals_45 ⟨_, rfl⟩ (k1 c1)
  · refine pGo (s_iconst dX0_addArrivals_9) ?_
    exact pEnd (r := (some (0, (-1)))) dX0_addArrivals_10 ⟨_, rfl⟩ (k2 c2)
set_option maxRecDepth 100000 in
theorem g_X0_addTurn_0 {d : Nat} {σ : pS} {Q : Option pV → pS → Prop} (hd : 0 ≤ d) (hst : Stat σ) (x1 : Int) (x2 : Int)  (g1 : 0 ≤ x1 ∧ x1 < 10) (g2 : inR (rd σ 48 x1)) (g3 : ∀ (c1 : (rd σ 48 x1) < 6), 0 ≤ ((x1 * 6) + (rd σ 48 x1)) ∧ ((x1 * 6) + (rd σ 48 x1)) < 60) (k1 : ∀ (c1 : (rd σ 48 x1) < 6), Q (some (0, ((rd σ 48 x1) + 1))) (wr (wr σ 47 ((x1 * 6) + (rd σ 48 x1)) x2) 48 x1 ((rd σ 48 x1) + 1))) (k2 : ∀ (c2 : 6 ≤ (rd σ 48 x1)), Q (some (0, (-1))) σ) : pC mX0_addTurn d [(2, 44), (0, x1), (0, x2)] σ Q := by
  show pR mX0_addTurn d 0 [(2, 44), (0, x1), (0, x2)] [] σ Q
  refine pGo (s_aload_n dX0_addTurn_0 rfl (by decide)) ?_
  refine pGoE (y := 48) (s_getF pc0 fl_X0_21 dX0_addTurn_1 (ob_44 hst) rfl (by decide)) (by decide) ?_
  refine pGo (s_iload_n dX0_addTurn_4 rfl) ?_
  refine pGoE (y := (rd σ 48 x1)) (s_iald dX0_addTurn_5 (ob_48 hst) (bnd g1)) rfl ?_
  refine pGo (s_bipush dX0_addTurn_6 (by decide)) ?_
  refine p_iclt (tgt := 13) dX0_addTurn_8 (by decide) g2 (by decide) (fun c1 => ?_) (fun c2 => ?_)
  · refine pGo (s_aload_n dX0_addTurn_13 rfl (by decide)) ?_
    refine pGoE (y := 47) (s_getF pc0 fl_X0_18 dX0_addTurn_14 (ob_44 hst) rfl (by decide)) (by decide) ?_
    refine pGo (s_iload_n dX0_addTurn_17 rfl) ?_
    refine pGo (s_bipush dX0_addTurn_18 (by decide)) ?_
    refine pGo (s_imul dX0_addTurn_20) ?_
    refine pGo (s_aload_n dX0_addTurn_21 rfl (by decide)) ?_
    refine pGoE (y := 48) (s_getF pc0 fl_X0_21 dX0_addTurn_22 (ob_44 hst) rfl (by decide)) (by decide) ?_
    refine pGo (s_iload_n dX0_addTurn_25 rfl) ?_
    refine pGoE (y := (rd σ 48 x1)) (s_iald dX0_addTurn_26 (ob_48 hst) (bnd g1)) rfl ?_
    refine pGo (s_iadd dX0_addTurn_27) ?_
    refine pGo (s_iload_n dX0_addTurn_28 rfl) ?_
    refine pGo (s_iast dX0_addTurn_29 (ob_47 hst) (bnd (g3 c1))) ?_
    refine pGo (s_aload_n dX0_addTurn_30 rfl (by decide)) ?_
    refine pGoE (y := 48) (s_getF pc0 fl_X0_21 dX0_addTurn_31 (ob_44 hst) rfl (by decide)) (by decide) ?_
    refine pGo (s_iload_n dX0_addTurn_34 rfl) ?_
    refine pGo (s_dup2 dX0_addTurn_35 (show (0 : Nat) ≠ 1 by decide) (show (2 : Nat) ≠ 1 by decide)) ?_
    refine pGoE (y := (rd σ 48 x1)) (s_iald dX0_addTurn_36 (ob_48 hst) (bnd g1)) (rd_wr_a _ (by decide)) ?_
    refine pGo (s_iconst dX0_addTurn_37) ?_
    refine pGo (s_iadd dX0_addTurn_38) ?_
    refine pGo (s_iast dX0_addTurn_39 (ob_48 hst) (bnd g1)) ?_
    refine pGo (s_aload_n dX0_addTurn_40 rfl (by decide)) ?_
    refine pGoE (y := 48) (s_getF pc0 fl_X0_21 dX0_addTurn_41 (ob_44 hst) rfl (by decide)) (by decide) ?_
    refine pGo (s_iload_n dX0_addTurn_44 rfl) ?_
    refine pGoE (y := ((rd σ 48 x1) + 1)) (s_iald dX0_addTurn_45 (ob_48 hst) (bnd g1)) (rd_wr_same _ _ _ _) ?_
    exact pEnd (r := (some (0, ((rd σ 48 x1) + 1)))) dX0_addTurn_46 ⟨_, rfl⟩ (k1 c1)
  · refine pGo (s_iconst dX0_addTurn_11) ?_
    exact pEnd (r := (some (0, (-1)))) dX0_addTurn_12 ⟨_, rfl⟩ (k2 c2)
set_option maxRecDepth 100000 in
theorem g_X0_forgetWays_0 {d : Nat} {σ : pS} {Q : Option pV → pS → Prop} {Q1 : Option pV → pS → Prop} {Q2 : Option pV → pS → Prop} (hd : 1 ≤ d) (hst : Stat σ)   (f1 : pC mJ7_fill_53178 0 [(2, 48), (0, 0)] σ Q1) (f2 : ∀ (τ1 : pS) (e1 : pLe σ τ1) (q1 : Q1 none τ1), pC mJ7_fill_53178 0 [(2, 49), (0, 0)] τ1 Q2) (k1 : ∀ (τ1 : pS) (e1 : pLe σ τ1) (q1 : Q1 none τ1) (τ2 : pS) (e2 : pLe τ1 τ2) (q2 : Q2 none τ2), Q none τ2) : pC mX0_forgetWays d [(2, 44)] σ Q := by
  show pR mX0_forgetWays d 0 [(2, 44)] [] σ Q
  refine pGo (s_aload_n dX0_forgetWays_0 rfl (by decide)) ?_
  refine pGoE (y := 48) (s_getF pc0 fl_X0_21 dX0_forgetWays_1 (ob_44 hst) rfl (by decide)) (by decide) ?_
  refine pGo (s_iconst dX0_forgetWays_4) ?_
  refine p_callS (As := [(2, 48), (0, 0)]) (st := []) (n := 2) (d' := 0) (Q1 := Q1) ok_J7_fill_53178 ml_X0_27 sm_J7_fill_53178 dX0_forgetWays_5 (pargs_of rfl) rfl (Nat.le_of_ble_eq_true rfl) (by omega) f1 (fun r1 τ1 e1 q1 w1 => ?_)
  obtain rfl : r1 = none := w1
  have S1 : Stat τ1 := (Stat.le (σ := σ) hst e1)
  show pR mX0_forgetWays d 8 [(2, 44)] [] τ1 Q
  refine pGo (s_aload_n dX0_forgetWays_8 rfl (by decide)) ?_
  refine pGoE (y := 49) (s_getF pc0 fl_X0_24 dX0_forgetWays_9 (ob_44 S1) rfl (by decide)) (by decide) ?_
  refine pGo (s_iconst dX0_forgetWays_12) ?_
  refine p_callS (As := [(2, 49), (0, 0)]) (st := []) (n := 2) (d' := 0) (Q1 := Q2) ok_J7_fill_53178 ml_X0_27 sm_J7_fill_53178 dX0_forgetWays_13 (pargs_of rfl) rfl (Nat.le_of_ble_eq_true rfl) (by omega) (f2 τ1 e1 q1) (fun r2 τ2 e2 q2 w2 => ?_)
  obtain rfl : r2 = none := w2
  have S2 : Stat τ2 := (Stat.le (σ := τ1) S1 e2)
  show pR mX0_forgetWays d 16 [(2, 44)] [] τ2 Q
  exact pEnd (r := none) dX0_forgetWays_16 rfl (k1 τ1 e1 q1 τ2 e2 q2)
set_option maxRecDepth 100000 in
theorem g_X10_arrive_0 {d : Nat} {σ : pS} {Q : Option pV → pS → Prop} {Q1 : Option pV → pS → Prop} (hd : 1 ≤ d) (hst : Stat σ) (x1 : Int) (x2 : Int)  (f1 : pC mX10_within 0 [(0, x1), (0, 480)] σ (fun r τ => r = some (0, b2i (vWithin x1 480)) ∧ τ = σ)) (k1 : ∀ (c1 : (vWithin x1 480) = false), Q (some (0, (-1))) σ) (g1 : ∀ (c2 : (vWithin x1 480) = true), inR x2) (k2 : ∀ (c2 : (vWithin x1 480) = true) (c3 : x2 < 1), Q (some (0, (-1))) σ) (f2 : ∀ (c2 : (vWithin x1 480) = true) (c4 : 1 ≤ x2) (c5 : x2 ≤ 500), pC mX0_addArrivals 0 [(2, 44), (0, x1), (0, x2)] σ Q1) (k3 : ∀ (c2 : (vWithin x1 480) = true) (c4 : 1 ≤ x2) (c5 : x2 ≤ 500) (v2 : Int) (τ2 : pS) (e2 : pLe σ τ2) (q2 : Q1 (some (0, v2)) τ2), Q (some (0, v2)) τ2) (k4 : ∀ (c2 : (vWithin x1 480) = true) (c4 : 1 ≤ x2) (c6 : 500 < x2), Q (some (0, (-1))) σ) : pC mX10_arrive d [(2, 0), (0, x1), (0, x2)] σ Q := by
  show pR mX10_arrive d 0 [(2, 0), (0, x1), (0, x2)] [] σ Q
  refine pGo (s_iload_n dX10_arrive_0 rfl) ?_
  refine pGo (s_sipush dX10_arrive_1 (by decide)) ?_
  refine p_callS (As := [(0, x1), (0, 480)]) (st := []) (n := 2) (d' := 0) (Q1 := (fun r τ => r = some (0, b2i (vWithin x1 480)) ∧ τ = σ)) ok_X10_within ml_X10_138 sm_X10_within dX10_arrive_4 (pargs_of rfl) rfl (Nat.le_of_ble_eq_true rfl) (by omega) f1 (fun r1 τ1 e1 q1 w1 => ?_)
  obtain ⟨rfl, t1⟩ := q1
  rw [t1]
  show pR mX10_arrive d 7 [(2, 0), (0, x1), (0, x2)] [(0, (b2i (vWithin x1 480)))] σ Q
  refine p_ifeqB (tgt := 22) dX10_arrive_7 (by decide) (fun c1 => ?_) (fun c2 => ?_)
  · refine pGo (s_iconst dX10_arrive_22) ?_
    exact pEnd (r := (some (0, (-1)))) dX10_arrive_23 ⟨_, rfl⟩ (k1 c1)
  · refine pGo (s_iload_n dX10_arrive_10 rfl) ?_
    refine pGo (s_iconst dX10_arrive_11) ?_
    refine p_iclt (tgt := 22) dX10_arrive_12 (by decide) (g1 c2) (by decide) (fun c3 => ?_) (fun c4 => ?_)
    · refine pGo (s_iconst dX10_arrive_22) ?_
      exact pEnd (r := (some (0, (-1)))) dX10_arrive_23 ⟨_, rfl⟩ (k2 c2 c3)
    · refine pGo (s_iload_n dX10_arrive_15 rfl) ?_
      refine pGo (s_sipush dX10_arrive_16 (by decide)) ?_
      refine p_icle (tgt := 24) dX10_arrive_19 (by decide) (g1 c2) (by decide) (fun c5 => ?_) (fun c6 => ?_)
      · refine pGo (s_aload_n dX10_arrive_24 rfl (by decide)) ?_
        refine pGoE (y := 44) (s_getF pc10 fl_X10_77 dX10_arrive_25 (ob_0 hst) rfl (by decide)) (by decide) ?_
        refine pGo (s_iload_n dX10_arrive_28 rfl) ?_
        refine pGo (s_iload_n dX10_arrive_29 rfl) ?_
        refine p_callV (As := [(0, x1), (0, x2)]) (st := []) (n := 2) (d' := 0) (Q1 := Q1) pc0 ok_X0_addArrivals ml_X10_217 im_X0_addArrivals se_X0_addArrivals dX10_arrive_30 (ob_44 hst) (pargs_of rfl) rfl (Nat.le_of_ble_eq_true rfl) (by omega) (f2 c2 c4 c5) (fun r2 τ2 e2 q2 w2 => ?_)
        obtain ⟨v2, rfl⟩ := w2
        have S2 : Stat τ2 := (Stat.le (σ := σ) hst e2)
        show pR mX10_arrive d 33 [(2, 0), (0, x1), (0, x2)] [(0, v2)] τ2 Q
        exact pEnd (r := (some (0, v2))) dX10_arrive_33 ⟨_, rfl⟩ (k3 c2 c4 c5 v2 τ2 e2 q2)
      · refine pGo (s_iconst dX10_arrive_22) ?_
        exact pEnd (r := (some (0, (-1)))) dX10_arrive_23 ⟨_, rfl⟩ (k4 c2 c4 c6)
set_option maxRecDepth 100000 in
theorem g_X10_turn_0 {d : Nat} {σ : pS} {Q : Option pV → pS → Prop} {Q1 : Option pV → pS → Prop} (hd : 2 ≤ d) (hst : Stat σ) (x1 : Int)  (f1 : pC mX6_has 1 [(2, (rd σ 0 7)), (0, x1)] σ (fun r τ => r = some (0, b2i (vHas (rd σ (rd σ 0 7) 0) (rd σ (rd σ 0 7) 1) x1)) ∧ τ = σ)) (g1 : Inst6 σ (rd σ 0 7)) (k1 : ∀ (c1 : (vHas (rd σ (rd σ 0 7) 0) (rd σ (rd σ 0 7) 1) x1) = false), Q (some (0, (-1))) σ) (g2 : ∀ (c2 : (vHas (rd σ (rd σ 0 7) 0) (rd σ (rd σ 0 7) 1) x1) = true), 0 ≤ x1 ∧ x1 < 17) (f2 : ∀ (c2 : (vHas (rd σ (rd σ 0 7) 0) (rd σ (rd σ 0 7) 1) x1) = true), pC mX0_addTurn 0 [(2, 44), (0, (rd σ ((rd σ 0 7) + 2) x1)), (0, x1)] σ Q1) (k2 : ∀ (c2 : (vHas (rd σ (rd σ 0 7) 0) (rd σ (rd σ 0 7) 1) x1) = true) (v2 : Int) (τ2 : pS) (e2 : pLe σ τ2) (q2 : Q1 (some (0, v2)) τ2), Q (some (0, v2)) τ2) : pC mX10_turn d [(2, 0), (0, x1)] σ Q := by
  show pR mX10_turn d 0 [(2, 0), (0, x1)] [] σ Q
  refine pGo (s_aload_n dX10_turn_0 rfl (by decide)) ?_
  refine pGoE (y := (rd σ 0 7)) (s_getR pc10 fl_X10_27 dX10_turn_1 (ob_0 hst) rfl rfl) rfl ?_
  refine pGo (s_iload_n dX10_turn_4 rfl) ?_
  refine p_callV (As := [(0, x1)]) (st := []) (n := 1) (d' := 1) (Q1 := (fun r τ => r = some (0, b2i (vHas (rd σ (rd σ 0 7) 0) (rd σ (rd σ 0 7) 1) x1)) ∧ τ = σ)) pc6 ok_X6_has ml_X10_163 im_X6_has se_X6_has dX10_turn_5 g1.o0 (pargs_of rfl) rfl (Nat.le_of_ble_eq_true rfl) (by omega) f1 (fun r1 τ1 e1 q1 w1 => ?_)
  obtain ⟨rfl, t1⟩ := q1
  rw [t1]
  show pR mX10_turn d 8 [(2, 0), (0, x1)] [(0, (b2i (vHas (rd σ (rd σ 0 7) 0) (rd σ (rd σ 0 7) 1) x1)))] σ Q
  refine p_ifeqB (tgt := 31) dX10_turn_8 (by decide) (fun c1 => ?_) (fun c2 => ?_)
  · refine pGo (s_iconst dX10_turn_31) ?_
    exact pEnd (r := (some (0, (-1)))) dX10_turn_32 ⟨_, rfl⟩ (k1 c1)
  · refine pGo (s_aload_n dX10_turn_11 rfl (by decide)) ?_
    refine pGoE (y := 44) (s_getF pc10 fl_X10_77 dX10_turn_12 (ob_0 hst) rfl (by decide)) (by decide) ?_
    refine pGo (s_aload_n dX10_turn_15 rfl (by decide)) ?_
    refine pGoE (y := (rd σ 0 7)) (s_getR pc10 fl_X10_27 dX10_turn_16 (ob_0 hst) rfl rfl) rfl ?_
    refine pGo (s_getF pc6 fl_X10_220 dX10_turn_19 g1.o0 rfl (by decide)) ?_
    refine pGo (s_iload_n dX10_turn_22 rfl) ?_
    refine pGoE (y := (rd σ ((rd σ 0 7) + 2) x1)) (s_iald dX10_turn_23 g1.o2 (bnd (g2 c2))) rfl ?_
    refine pGo (s_iload_n dX10_turn_24 rfl) ?_
    refine p_callV (As := [(0, (rd σ ((rd σ 0 7) + 2) x1)), (0, x1)]) (st := []) (n := 2) (d' := 0) (Q1 := Q1) pc0 ok_X0_addTurn ml_X10_223 im_X0_addTurn se_X0_addTurn dX10_turn_25 (ob_44 hst) (pargs_of rfl) rfl (Nat.le_of_ble_eq_true rfl) (by omega) (f2 c2) (fun r2 τ2 e2 q2 w2 => ?_)
    obtain ⟨v2, rfl⟩ := w2
    have S2 : Stat τ2 := (Stat.le (σ := σ) hst e2)
    have J2_0 : Inst6 τ2 (rd σ 0 7) := Inst6.le (σ := σ) g1 e2
    show pR mX10_turn d 28 [(2, 0), (0, x1)] [(0, v2)] τ2 Q
    refine pGo (s_goto (tgt := 32) dX10_turn_28 (by decide)) ?_
    exact pEnd (r := (some (0, v2))) dX10_turn_32 ⟨_, rfl⟩ (k2 c2 v2 τ2 e2 q2)
set_option maxRecDepth 100000 in
theorem g_X10_make_0 {d : Nat} {σ : pS} {Q : Option pV → pS → Prop} (hd : 1 ≤ d) (hst : Stat σ) (x1 : Int) (x2 : Int)  (g1 : Inst6 σ (rd σ 0 7)) (f1 : pC mX10_within 0 [(0, x1), (0, (rd σ (rd σ 0 7) 1))] σ (fun r τ => r = some (0, b2i (vWithin x1 (rd σ (rd σ 0 7) 1))) ∧ τ = σ)) (k1 : ∀ (c1 : (vWithin x1 (rd σ (rd σ 0 7) 1)) = false), Q (some (0, 0)) σ) (f2 : ∀ (c2 : (vWithin x1 (rd σ (rd σ 0 7) 1)) = true), pC mX10_within 0 [(0, x2), (0, 21)] σ (fun r τ => r = some (0, b2i (vWithin x2 21)) ∧ τ = σ)) (g2 : ∀ (c2 : (vWithin x1 (rd σ (rd σ 0 7) 1)) = true) (c3 : (vWithin x2 21) = true), 0 ≤ x1 ∧ x1 < 7) (k2 : ∀ (c2 : (vWithin x1 (rd σ (rd σ 0 7) 1)) = true) (c3 : (vWithin x2 21) = true), Q (some (0, 1)) (wr σ 49 x1 x2)) (k3 : ∀ (c2 : (vWithin x1 (rd σ (rd σ 0 7) 1)) = true) (c4 : (vWithin x2 21) = false), Q (some (0, 0)) σ) : pC mX10_make d [(2, 0), (0, x1), (0, x2)] σ Q := by
  show pR mX10_make d 0 [(2, 0), (0, x1), (0, x2)] [] σ Q
  refine pGo (s_iload_n dX10_make_0 rfl) ?_
  refine pGo (s_aload_n dX10_make_1 rfl (by decide)) ?_
  refine pGoE (y := (rd σ 0 7)) (s_getR pc10 fl_X10_27 dX10_make_2 (ob_0 hst) rfl rfl) rfl ?_
  refine pGoE (y := (rd σ (rd σ 0 7) 1)) (s_getI pc6 fl_X10_226 dX10_make_5 g1.o0 rfl (by decide)) rfl ?_
  refine p_callS (As := [(0, x1), (0, (rd σ (rd σ 0 7) 1))]) (st := []) (n := 2) (d' := 0) (Q1 := (fun r τ => r = some (0, b2i (vWithin x1 (rd σ (rd σ 0 7) 1))) ∧ τ = σ)) ok_X10_within ml_X10_138 sm_X10_within dX10_make_8 (pargs_of rfl) rfl (Nat.le_of_ble_eq_true rfl) (by omega) f1 (fun r1 τ1 e1 q1 w1 => ?_)
  obtain ⟨rfl, t1⟩ := q1
  rw [t1]
  show pR mX10_make d 11 [(2, 0), (0, x1), (0, x2)] [(0, (b2i (vWithin x1 (rd σ (rd σ 0 7) 1))))] σ Q
  refine p_ifeqB (tgt := 23) dX10_make_11 (by decide) (fun c1 => ?_) (fun c2 => ?_)
  · refine pGo (s_iconst dX10_make_23) ?_
    exact pEnd (r := (some (0, 0))) dX10_make_24 (Or.inl rfl) (k1 c1)
  · refine pGo (s_iload_n dX10_make_14 rfl) ?_
    refine pGo (s_bipush dX10_make_15 (by decide)) ?_
    refine p_callS (As := [(0, x2), (0, 21)]) (st := []) (n := 2) (d' := 0) (Q1 := (fun r τ => r = some (0, b2i (vWithin x2 21)) ∧ τ = σ)) ok_X10_within ml_X10_138 sm_X10_within dX10_make_17 (pargs_of rfl) rfl (Nat.le_of_ble_eq_true rfl) (by omega) (f2 c2) (fun r2 τ2 e2 q2 w2 => ?_)
    obtain ⟨rfl, t2⟩ := q2
    rw [t2]
    show pR mX10_make d 20 [(2, 0), (0, x1), (0, x2)] [(0, (b2i (vWithin x2 21)))] σ Q
    refine p_ifneB (tgt := 25) dX10_make_20 (by decide) (fun c3 => ?_) (fun c4 => ?_)
    · refine pGo (s_aload_n dX10_make_25 rfl (by decide)) ?_
      refine pGoE (y := 44) (s_getF pc10 fl_X10_77 dX10_make_26 (ob_0 hst) rfl (by decide)) (by decide) ?_
      refine pGoE (y := 49) (s_getF pc0 fl_X10_229 dX10_make_29 (ob_44 hst) rfl (by decide)) (by decide) ?_
      refine pGo (s_iload_n dX10_make_32 rfl) ?_
      refine pGo (s_iload_n dX10_make_33 rfl) ?_
      refine pGo (s_iast dX10_make_34 (ob_49 hst) (bnd (g2 c2 c3))) ?_
      refine pGo (s_iconst dX10_make_35) ?_
      exact pEnd (r := (some (0, 1))) dX10_make_36 (Or.inr rfl) (k2 c2 c3)
    · refine pGo (s_iconst dX10_make_23) ?_
      exact pEnd (r := (some (0, 0))) dX10_make_24 (Or.inl rfl) (k3 c2 c4)
set_option maxRecDepth 100000 in
theorem g_X10_wait_0 {d : Nat} {σ : pS} {Q : Option pV → pS → Prop} (hd : 1 ≤ d) (hst : Stat σ) (x1 : Int) (x2 : Int) (x3 : Int)  (g1 : inR (rd σ 50 2)) (k1 : ∀ (c1 : (rd σ 50 2) = 0), Q (some (0, (-1))) σ) (f1 : ∀ (c2 : (rd σ 50 2) ≠ 0), pC mX10_within 0 [(0, x1), (0, 10)] σ (fun r τ => r = some (0, b2i (vWithin x1 10)) ∧ τ = σ)) (k2 : ∀ (c2 : (rd σ 50 2) ≠ 0) (c3 : (vWithin x1 10) = false), Q (some (0, (-1))) σ) (f2 : ∀ (c2 : (rd σ 50 2) ≠ 0) (c4 : (vWithin x1 10) = true), pC mX10_within 0 [(0, x2), (0, 480)] σ (fun r τ => r = some (0, b2i (vWithin x2 480)) ∧ τ = σ)) (f3 : ∀ (c2 : (rd σ 50 2) ≠ 0) (c4 : (vWithin x1 10) = true) (c5 : (vWithin x2 480) = true), pC mX10_within 0 [(0, x3), (0, 2)] σ (fun r τ => r = some (0, b2i (vWithin x3 2)) ∧ τ = σ)) (g2 : ∀ (c2 : (rd σ 50 2) ≠ 0) (c4 : (vWithin x1 10) = true) (c5 : (vWithin x2 480) = true) (c7 : (vWithin x3 2) = true), inR x3) (g3 : ∀ (c2 : (rd σ 50 2) ≠ 0) (c4 : (vWithin x1 10) = true) (c5 : (vWithin x2 480) = true) (c7 : (vWithin x3 2) = true) (c9 : x3 ≠ 0), 0 ≤ ((x2 * 10) + x1) ∧ ((x2 * 10) + x1) < 4800) (k3 : ∀ (c2 : (rd σ 50 2) ≠ 0) (c4 : (vWithin x1 10) = true) (c5 : (vWithin x2 480) = true) (c7 : (vWithin x3 2) = true) (c9 : x3 ≠ 0), Q (some (0, (rd σ 52 ((x2 * 10) + x1)))) σ) (g4 : ∀ (c2 : (rd σ 50 2) ≠ 0) (c4 : (vWithin x1 10) = true) (c5 : (vWithin x2 480) = true) (c7 : (vWithin x3 2) = true) (c10 : x3 = 0), 0 ≤ ((x2 * 10) + x1) ∧ ((x2 * 10) + x1) < 4800) (k4 : ∀ (c2 : (rd σ 50 2) ≠ 0) (c4 : (vWithin x1 10) = true) (c5 : (vWithin x2 480) = true) (c7 : (vWithin x3 2) = true) (c10 : x3 = 0), Q (some (0, (rd σ 51 ((x2 * 10) + x1)))) σ) (k5 : ∀ (c2 : (rd σ 50 2) ≠ 0) (c4 : (vWithin x1 10) = true) (c5 : (vWithin x2 480) = true) (c8 : (vWithin x3 2) = false), Q (some (0, (-1))) σ) (k6 : ∀ (c2 : (rd σ 50 2) ≠ 0) (c4 : (vWithin x1 10) = true) (c6 : (vWithin x2 480) = false), Q (some (0, (-1))) σ) : pC mX10_wait d [(2, 0), (0, x1), (0, x2), (0, x3)] σ Q := by
  show pR mX10_wait d 0 [(2, 0), (0, x1), (0, x2), (0, x3), (9, 0)] [] σ Q
  refine pGo (s_aload_n dX10_wait_0 rfl (by decide)) ?_
  refine pGoE (y := 50) (s_getF pc10 fl_X10_86 dX10_wait_1 (ob_0 hst) rfl (by decide)) (by decide) ?_
  refine pGoE (y := (rd σ 50 2)) (s_getI pc1 fl_X10_122 dX10_wait_4 (ob_50 hst) rfl (by decide)) rfl ?_
  refine p_ifeq (tgt := 29) dX10_wait_7 (by decide) g1 (fun c1 => ?_) (fun c2 => ?_)
  · refine pGo (s_iconst dX10_wait_29) ?_
    exact pEnd (r := (some (0, (-1)))) dX10_wait_30 ⟨_, rfl⟩ (k1 c1)
  · refine pGo (s_iload_n dX10_wait_10 rfl) ?_
    refine pGo (s_bipush dX10_wait_11 (by decide)) ?_
    refine p_callS (As := [(0, x1), (0, 10)]) (st := []) (n := 2) (d' := 0) (Q1 := (fun r τ => r = some (0, b2i (vWithin x1 10)) ∧ τ = σ)) ok_X10_within ml_X10_138 sm_X10_within dX10_wait_13 (pargs_of rfl) rfl (Nat.le_of_ble_eq_true rfl) (by omega) (f1 c2) (fun r1 τ1 e1 q1 w1 => ?_)
    obtain ⟨rfl, t1⟩ := q1
    rw [t1]
    show pR mX10_wait d 16 [(2, 0), (0, x1), (0, x2), (0, x3), (9, 0)] [(0, (b2i (vWithin x1 10)))] σ Q
    refine p_ifeqB (tgt := 29) dX10_wait_16 (by decide) (fun c3 => ?_) (fun c4 => ?_)
    · refine pGo (s_iconst dX10_wait_29) ?_
      exact pEnd (r := (some (0, (-1)))) dX10_wait_30 ⟨_, rfl⟩ (k2 c2 c3)
    · refine pGo (s_iload_n dX10_wait_19 rfl) ?_
      refine pGo (s_sipush dX10_wait_20 (by decide)) ?_
      refine p_callS (As := [(0, x2), (0, 480)]) (st := []) (n := 2) (d' := 0) (Q1 := (fun r τ => r = some (0, b2i (vWithin x2 480)) ∧ τ = σ)) ok_X10_within ml_X10_138 sm_X10_within dX10_wait_23 (pargs_of rfl) rfl (Nat.le_of_ble_eq_true rfl) (by omega) (f2 c2 c4) (fun r2 τ2 e2 q2 w2 => ?_)
      obtain ⟨rfl, t2⟩ := q2
      rw [t2]
      show pR mX10_wait d 26 [(2, 0), (0, x1), (0, x2), (0, x3), (9, 0)] [(0, (b2i (vWithin x2 480)))] σ Q
      refine p_ifneB (tgt := 31) dX10_wait_26 (by decide) (fun c5 => ?_) (fun c6 => ?_)
      · refine pGo (s_iload_n dX10_wait_31 rfl) ?_
        refine pGo (s_iconst dX10_wait_32) ?_
        refine p_callS (As := [(0, x3), (0, 2)]) (st := []) (n := 2) (d' := 0) (Q1 := (fun r τ => r = some (0, b2i (vWithin x3 2)) ∧ τ = σ)) ok_X10_within ml_X10_138 sm_X10_within dX10_wait_33 (pargs_of rfl) rfl (Nat.le_of_ble_eq_true rfl) (by omega) (f3 c2 c4 c5) (fun r3 τ3 e3 q3 w3 => ?_)
        obtain ⟨rfl, t3⟩ := q3
        rw [t3]
        show pR mX10_wait d 36 [(2, 0), (0, x1), (0, x2), (0, x3), (9, 0)] [(0, (b2i (vWithin x3 2)))] σ Q
        refine p_ifneB (tgt := 41) dX10_wait_36 (by decide) (fun c7 => ?_) (fun c8 => ?_)
        · refine pGo (s_iload_n dX10_wait_41 rfl) ?_
          refine pGo (s_bipush dX10_wait_42 (by decide)) ?_
          refine pGo (s_imul dX10_wait_44) ?_
          refine pGo (s_iload_n dX10_wait_45 rfl) ?_
          refine pGo (s_iadd dX10_wait_46) ?_
          refine pGoL (ls2 := [(2, 0), (0, x1), (0, x2), (0, x3), (0, ((x2 * 10) + x1))]) (s_istore dX10_wait_47 (by decide) rfl) rfl ?_
          refine pGo (s_iload_n dX10_wait_49 rfl) ?_
          refine p_ifne (tgt := 66) dX10_wait_50 (by decide) (g2 c2 c4 c5 c7) (fun c9 => ?_) (fun c10 => ?_)
          · refine pGo (s_aload_n dX10_wait_66 rfl (by decide)) ?_
            refine pGoE (y := 50) (s_getF pc10 fl_X10_86 dX10_wait_67 (ob_0 hst) rfl (by decide)) (by decide) ?_
            refine pGoE (y := 52) (s_getF pc1 fl_X10_242 dX10_wait_70 (ob_50 hst) rfl (by decide)) (by decide) ?_
            refine pGo (s_iload dX10_wait_73 rfl) ?_
            refine pGoE (y := (rd σ 52 ((x2 * 10) + x1))) (s_iald dX10_wait_75 (ob_52 hst) (bnd (g3 c2 c4 c5 c7 c9))) rfl ?_
            exact pEnd (r := (some (0, (rd σ 52 ((x2 * 10) + x1))))) dX10_wait_76 ⟨_, rfl⟩ (k3 c2 c4 c5 c7 c9)
          · refine pGo (s_aload_n dX10_wait_53 rfl (by decide)) ?_
            refine pGoE (y := 50) (s_getF pc10 fl_X10_86 dX10_wait_54 (ob_0 hst) rfl (by decide)) (by decide) ?_
            refine pGoE (y := 51) (s_getF pc1 fl_X10_239 dX10_wait_57 (ob_50 hst) rfl (by decide)) (by decide) ?_
            refine pGo (s_iload dX10_wait_60 rfl) ?_
            refine pGoE (y := (rd σ 51 ((x2 * 10) + x1))) (s_iald dX10_wait_62 (ob_51 hst) (bnd (g4 c2 c4 c5 c7 c10))) rfl ?_
            refine pGo (s_goto (tgt := 76) dX10_wait_63 (by decide)) ?_
            exact pEnd (r := (some (0, (rd σ 51 ((x2 * 10) + x1))))) dX10_wait_76 ⟨_, rfl⟩ (k4 c2 c4 c5 c7 c10)
        · refine pGo (s_iconst dX10_wait_39) ?_
          exact pEnd (r := (some (0, (-1)))) dX10_wait_40 ⟨_, rfl⟩ (k5 c2 c4 c5 c8)
      · refine pGo (s_iconst dX10_wait_29) ?_
        exact pEnd (r := (some (0, (-1)))) dX10_wait_30 ⟨_, rfl⟩ (k6 c2 c4 c6)
set_option maxRecDepth 100000 in
theorem g_X10_snow_0 {d : Nat} {σ : pS} {Q : Option pV → pS → Prop} (hd : 1 ≤ d) (hst : Stat σ) (x1 : Int) (x2 : Int)  (g1 : inR (rd σ 50 2)) (k1 : ∀ (c1 : (rd σ 50 2) = 0), Q (some (0, (-1))) σ) (g2 : ∀ (c2 : (rd σ 50 2) ≠ 0), Inst6 σ (rd σ 0 7)) (f1 : ∀ (c2 : (rd σ 50 2) ≠ 0), pC mX10_within 0 [(0, x1), (0, (rd σ (rd σ 0 7) 1))] σ (fun r τ => r = some (0, b2i (vWithin x1 (rd σ (rd σ 0 7) 1))) ∧ τ = σ)) (k2 : ∀ (c2 : (rd σ 50 2) ≠ 0) (c3 : (vWithin x1 (rd σ (rd σ 0 7) 1)) = false), Q (some (0, (-1))) σ) (f2 : ∀ (c2 : (rd σ 50 2) ≠ 0) (c4 : (vWithin x1 (rd σ (rd σ 0 7) 1)) = true), pC mX10_within 0 [(0, x2), (0, 480)] σ (fun r τ => r = some (0, b2i (vWithin x2 480)) ∧ τ = σ)) (g3 : ∀ (c2 : (rd σ 50 2) ≠ 0) (c4 : (vWithin x1 (rd σ (rd σ 0 7) 1)) = true) (c5 : (vWithin x2 480) = true), 0 ≤ ((x2 * 7) + x1) ∧ ((x2 * 7) + x1) < 3360) (k3 : ∀ (c2 : (rd σ 50 2) ≠ 0) (c4 : (vWithin x1 (rd σ (rd σ 0 7) 1)) = true) (c5 : (vWithin x2 480) = true), Q (some (0, (rd σ 53 ((x2 * 7) + x1)))) σ) (k4 : ∀ (c2 : (rd σ 50 2) ≠ 0) (c4 : (vWithin x1 (rd σ (rd σ 0 7) 1)) = true) (c6 : (vWithin x2 480) = false), Q (some (0, (-1))) σ) : pC mX10_snow d [(2, 0), (0, x1), (0, x2)] σ Q := by
  show pR mX10_snow d 0 [(2, 0), (0, x1), (0, x2)] [] σ Q
  refine pGo (s_aload_n dX10_snow_0 rfl (by decide)) ?_
  refine pGoE (y := 50) (s_getF pc10 fl_X10_86 dX10_snow_1 (ob_0 hst) rfl (by decide)) (by decide) ?_
  refine pGoE (y := (rd σ 50 2)) (s_getI pc1 fl_X10_122 dX10_snow_4 (ob_50 hst) rfl (by decide)) rfl ?_
  refine p_ifeq (tgt := 34) dX10_snow_7 (by decide) g1 (fun c1 => ?_) (fun c2 => ?_)
  · refine pGo (s_iconst dX10_snow_34) ?_
    exact pEnd (r := (some (0, (-1)))) dX10_snow_35 ⟨_, rfl⟩ (k1 c1)
  · refine pGo (s_iload_n dX10_snow_10 rfl) ?_
    refine pGo (s_aload_n dX10_snow_11 rfl (by decide)) ?_
    refine pGoE (y := (rd σ 0 7)) (s_getR pc10 fl_X10_27 dX10_snow_12 (ob_0 hst) rfl rfl) rfl ?_
    refine pGoE (y := (rd σ (rd σ 0 7) 1)) (s_getI pc6 fl_X10_226 dX10_snow_15 (g2 c2).o0 rfl (by decide)) rfl ?_
    refine p_callS (As := [(0, x1), (0, (rd σ (rd σ 0 7) 1))]) (st := []) (n := 2) (d' := 0) (Q1 := (fun r τ => r = some (0, b2i (vWithin x1 (rd σ (rd σ 0 7) 1))) ∧ τ = σ)) ok_X10_within ml_X10_138 sm_X10_within dX10_snow_18 (pargs_of rfl) rfl (Nat.le_of_ble_eq_true rfl) (by omega) (f1 c2) (fun r1 τ1 e1 q1 w1 => ?_)
    obtain ⟨rfl, t1⟩ := q1
    rw [t1]
    show pR mX10_snow d 21 [(2, 0), (0, x1), (0, x2)] [(0, (b2i (vWithin x1 (rd σ (rd σ 0 7) 1))))] σ Q
    refine p_ifeqB (tgt := 34) dX10_snow_21 (by decide) (fun c3 => ?_) (fun c4 => ?_)
    · refine pGo (s_iconst dX10_snow_34) ?_
      exact pEnd (r := (some (0, (-1)))) dX10_snow_35 ⟨_, rfl⟩ (k2 c2 c3)
    · refine pGo (s_iload_n dX10_snow_24 rfl) ?_
      refine pGo (s_sipush dX10_snow_25 (by decide)) ?_
      refine p_callS (As := [(0, x2), (0, 480)]) (st := []) (n := 2) (d' := 0) (Q1 := (fun r τ => r = some (0, b2i (vWithin x2 480)) ∧ τ = σ)) ok_X10_within ml_X10_138 sm_X10_within dX10_snow_28 (pargs_of rfl) rfl (Nat.le_of_ble_eq_true rfl) (by omega) (f2 c2 c4) (fun r2 τ2 e2 q2 w2 => ?_)
      obtain ⟨rfl, t2⟩ := q2
      rw [t2]
      show pR mX10_snow d 31 [(2, 0), (0, x1), (0, x2)] [(0, (b2i (vWithin x2 480)))] σ Q
      refine p_ifneB (tgt := 36) dX10_snow_31 (by decide) (fun c5 => ?_) (fun c6 => ?_)
      · refine pGo (s_aload_n dX10_snow_36 rfl (by decide)) ?_
        refine pGoE (y := 50) (s_getF pc10 fl_X10_86 dX10_snow_37 (ob_0 hst) rfl (by decide)) (by decide) ?_
        refine pGoE (y := 53) (s_getF pc1 fl_X10_245 dX10_snow_40 (ob_50 hst) rfl (by decide)) (by decide) ?_
        refine pGo (s_iload_n dX10_snow_43 rfl) ?_
        refine pGo (s_bipush dX10_snow_44 (by decide)) ?_
        refine pGo (s_imul dX10_snow_46) ?_
        refine pGo (s_iload_n dX10_snow_47 rfl) ?_
        refine pGo (s_iadd dX10_snow_48) ?_
        refine pGoE (y := (rd σ 53 ((x2 * 7) + x1))) (s_iald dX10_snow_49 (ob_53 hst) (bnd (g3 c2 c4 c5))) rfl ?_
        exact pEnd (r := (some (0, (rd σ 53 ((x2 * 7) + x1))))) dX10_snow_50 ⟨_, rfl⟩ (k3 c2 c4 c5)
      · refine pGo (s_iconst dX10_snow_34) ?_
        exact pEnd (r := (some (0, (-1)))) dX10_snow_35 ⟨_, rfl⟩ (k4 c2 c4 c6)
set_option maxRecDepth 100000 in
theorem g_X10_took_0 {d : Nat} {σ : pS} {Q : Option pV → pS → Prop} (hd : 2 ≤ d) (hst : Stat σ) (x1 : Int) (x2 : Int)  (g1 : inR (rd σ 50 2)) (k1 : ∀ (c1 : (rd σ 50 2) = 0), Q (some (0, (-1))) σ) (f1 : ∀ (c2 : (rd σ 50 2) ≠ 0), pC mX6_has 1 [(2, (rd σ 0 7)), (0, x1)] σ (fun r τ => r = some (0, b2i (vHas (rd σ (rd σ 0 7) 0) (rd σ (rd σ 0 7) 1) x1)) ∧ τ = σ)) (g2 : ∀ (c2 : (rd σ 50 2) ≠ 0), Inst6 σ (rd σ 0 7)) (k2 : ∀ (c2 : (rd σ 50 2) ≠ 0) (c3 : (vHas (rd σ (rd σ 0 7) 0) (rd σ (rd σ 0 7) 1) x1) = false), Q (some (0, (-1))) σ) (f2 : ∀ (c2 : (rd σ 50 2) ≠ 0) (c4 : (vHas (rd σ (rd σ 0 7) 0) (rd σ (rd σ 0 7) 1) x1) = true), pC mX10_within 0 [(0, x2), (0, 2)] σ (fun r τ => r = some (0, b2i (vWithin x2 2)) ∧ τ = σ)) (g3 : ∀ (c2 : (rd σ 50 2) ≠ 0) (c4 : (vHas (rd σ (rd σ 0 7) 0) (rd σ (rd σ 0 7) 1) x1) = true) (c5 : (vWithin x2 2) = true), inR x2) (g4 : ∀ (c2 : (rd σ 50 2) ≠ 0) (c4 : (vHas (rd σ (rd σ 0 7) 0) (rd σ (rd σ 0 7) 1) x1) = true) (c5 : (vWithin x2 2) = true) (c7 : x2 ≠ 0), 0 ≤ x1 ∧ x1 < 17) (k3 : ∀ (c2 : (rd σ 50 2) ≠ 0) (c4 : (vHas (rd σ (rd σ 0 7) 0) (rd σ (rd σ 0 7) 1) x1) = true) (c5 : (vWithin x2 2) = true) (c7 : x2 ≠ 0), Q (some (0, (rd σ 55 x1))) σ) (g5 : ∀ (c2 : (rd σ 50 2) ≠ 0) (c4 : (vHas (rd σ (rd σ 0 7) 0) (rd σ (rd σ 0 7) 1) x1) = true) (c5 : (vWithin x2 2) = true) (c8 : x2 = 0), 0 ≤ x1 ∧ x1 < 17) (k4 : ∀ (c2 : (rd σ 50 2) ≠ 0) (c4 : (vHas (rd σ (rd σ 0 7) 0) (rd σ (rd σ 0 7) 1) x1) = true) (c5 : (vWithin x2 2) = true) (c8 : x2 = 0), Q (some (0, (rd σ 54 x1))) σ) (k5 : ∀ (c2 : (rd σ 50 2) ≠ 0) (c4 : (vHas (rd σ (rd σ 0 7) 0) (rd σ (rd σ 0 7) 1) x1) = true) (c6 : (vWithin x2 2) = false), Q (some (0, (-1))) σ) : pC mX10_took d [(2, 0), (0, x1), (0, x2)] σ Q := by
  show pR mX10_took d 0 [(2, 0), (0, x1), (0, x2)] [] σ Q
  refine pGo (s_aload_n dX10_took_0 rfl (by decide)) ?_
  refine pGoE (y := 50) (s_getF pc10 fl_X10_86 dX10_took_1 (ob_0 hst) rfl (by decide)) (by decide) ?_
  refine pGoE (y := (rd σ 50 2)) (s_getI pc1 fl_X10_122 dX10_took_4 (ob_50 hst) rfl (by decide)) rfl ?_
  refine p_ifeq (tgt := 29) dX10_took_7 (by decide) g1 (fun c1 => ?_) (fun c2 => ?_)
  · refine pGo (s_iconst dX10_took_29) ?_
    exact pEnd (r := (some (0, (-1)))) dX10_took_30 ⟨_, rfl⟩ (k1 c1)
  · refine pGo (s_aload_n dX10_took_10 rfl (by decide)) ?_
    refine pGoE (y := (rd σ 0 7)) (s_getR pc10 fl_X10_27 dX10_took_11 (ob_0 hst) rfl rfl) rfl ?_
    refine pGo (s_iload_n dX10_took_14 rfl) ?_
    refine p_callV (As := [(0, x1)]) (st := []) (n := 1) (d' := 1) (Q1 := (fun r τ => r = some (0, b2i (vHas (rd σ (rd σ 0 7) 0) (rd σ (rd σ 0 7) 1) x1)) ∧ τ = σ)) pc6 ok_X6_has ml_X10_163 im_X6_has se_X6_has dX10_took_15 (g2 c2).o0 (pargs_of rfl) rfl (Nat.le_of_ble_eq_true rfl) (by omega) (f1 c2) (fun r1 τ1 e1 q1 w1 => ?_)
    obtain ⟨rfl, t1⟩ := q1
    rw [t1]
    show pR mX10_took d 18 [(2, 0), (0, x1), (0, x2)] [(0, (b2i (vHas (rd σ (rd σ 0 7) 0) (rd σ (rd σ 0 7) 1) x1)))] σ Q
    refine p_ifeqB (tgt := 29) dX10_took_18 (by decide) (fun c3 => ?_) (fun c4 => ?_)
    · refine pGo (s_iconst dX10_took_29) ?_
      exact pEnd (r := (some (0, (-1)))) dX10_took_30 ⟨_, rfl⟩ (k2 c2 c3)
    · refine pGo (s_iload_n dX10_took_21 rfl) ?_
      refine pGo (s_iconst dX10_took_22) ?_
      refine p_callS (As := [(0, x2), (0, 2)]) (st := []) (n := 2) (d' := 0) (Q1 := (fun r τ => r = some (0, b2i (vWithin x2 2)) ∧ τ = σ)) ok_X10_within ml_X10_138 sm_X10_within dX10_took_23 (pargs_of rfl) rfl (Nat.le_of_ble_eq_true rfl) (by omega) (f2 c2 c4) (fun r2 τ2 e2 q2 w2 => ?_)
      obtain ⟨rfl, t2⟩ := q2
      rw [t2]
      show pR mX10_took d 26 [(2, 0), (0, x1), (0, x2)] [(0, (b2i (vWithin x2 2)))] σ Q
      refine p_ifneB (tgt := 31) dX10_took_26 (by decide) (fun c5 => ?_) (fun c6 => ?_)
      · refine pGo (s_iload_n dX10_took_31 rfl) ?_
        refine p_ifne (tgt := 47) dX10_took_32 (by decide) (g3 c2 c4 c5) (fun c7 => ?_) (fun c8 => ?_)
        · refine pGo (s_aload_n dX10_took_47 rfl (by decide)) ?_
          refine pGoE (y := 50) (s_getF pc10 fl_X10_86 dX10_took_48 (ob_0 hst) rfl (by decide)) (by decide) ?_
          refine pGoE (y := 55) (s_getF pc1 fl_X10_251 dX10_took_51 (ob_50 hst) rfl (by decide)) (by decide) ?_
          refine pGo (s_iload_n dX10_took_54 rfl) ?_
          refine pGoE (y := (rd σ 55 x1)) (s_iald dX10_took_55 (ob_55 hst) (bnd (g4 c2 c4 c5 c7))) rfl ?_
          exact pEnd (r := (some (0, (rd σ 55 x1)))) dX10_took_56 ⟨_, rfl⟩ (k3 c2 c4 c5 c7)
        · refine pGo (s_aload_n dX10_took_35 rfl (by decide)) ?_
          refine pGoE (y := 50) (s_getF pc10 fl_X10_86 dX10_took_36 (ob_0 hst) rfl (by decide)) (by decide) ?_
          refine pGoE (y := 54) (s_getF pc1 fl_X10_248 dX10_took_39 (ob_50 hst) rfl (by decide)) (by decide) ?_
          refine pGo (s_iload_n dX10_took_42 rfl) ?_
          refine pGoE (y := (rd σ 54 x1)) (s_iald dX10_took_43 (ob_54 hst) (bnd (g5 c2 c4 c5 c8))) rfl ?_
          refine pGo (s_goto (tgt := 56) dX10_took_44 (by decide)) ?_
          exact pEnd (r := (some (0, (rd σ 54 x1)))) dX10_took_56 ⟨_, rfl⟩ (k4 c2 c4 c5 c8)
      · refine pGo (s_iconst dX10_took_29) ?_
        exact pEnd (r := (some (0, (-1)))) dX10_took_30 ⟨_, rfl⟩ (k5 c2 c4 c6)
set_option maxRecDepth 100000 in
theorem g_X10_about_0 {d : Nat} {σ : pS} {Q : Option pV → pS → Prop} (hd : 0 ≤ d) (hst : Stat σ) (x1 : Int)  (g1 : inR x1) (k1 : ∀ (c1 : x1 < 0 ∨ 9 < x1), Q (some (0, (-1))) σ) (g2 : ∀ (c1 : x1 = 0), Inst6 σ (rd σ 0 7)) (k2 : ∀ (c1 : x1 = 0), Q (some (0, (rd σ (rd σ 0 7) 0))) σ) (g3 : ∀ (c1 : x1 = 1), Inst6 σ (rd σ 0 7)) (k3 : ∀ (c1 : x1 = 1), Q (some (0, (rd σ (rd σ 0 7) 1))) σ) (g4 : ∀ (c1 : x1 = 2), Inst6 σ (rd σ 0 7)) (k4 : ∀ (c1 : x1 = 2), Q (some (0, (rd σ (rd σ 0 7) 2))) σ) (k5 : ∀ (c1 : x1 = 3), Q (some (0, (rd σ 23 5))) σ) (k6 : ∀ (c1 : x1 = 4), Q (some (0, (rd σ 0 14))) σ) (k7 : ∀ (c1 : x1 = 5), Q (some (0, (rd σ 29 5))) σ) (k8 : ∀ (c1 : x1 = 6), Q (some (0, (rd σ 44 2))) σ) (k9 : ∀ (c1 : x1 = 7), Q (some (0, (rd σ 0 5))) σ) (k10 : ∀ (c1 : x1 = 8), Q (some (0, (rd σ 0 1))) σ) (g5 : ∀ (c1 : x1 = 9), Inst6 σ (rd σ 0 7)) (k11 : ∀ (c1 : x1 = 9), Q (some (0, (rd σ (rd σ 0 7) 3))) σ) : pC mX10_about d [(2, 0), (0, x1)] σ Q := by
  show pR mX10_about d 0 [(2, 0), (0, x1)] [] σ Q
  refine pGo (s_iload_n dX10_about_0 rfl) ?_
  rcases (show (x1 < 0 ∨ 9 < x1) ∨ x1 = 0 ∨ x1 = 1 ∨ x1 = 2 ∨ x1 = 3 ∨ x1 = 4 ∨ x1 = 5 ∨ x1 = 6 ∨ x1 = 7 ∨ x1 = 8 ∨ x1 = 9 by omega) with c1 | c1 | c1 | c1 | c1 | c1 | c1 | c1 | c1 | c1 | c1
  · refine pGo (s_tabout (tgt := 127) dX10_about_1 g1 c1 (by decide)) ?_
    refine pGo (s_iconst dX10_about_127) ?_
    exact pEnd (r := (some (0, (-1)))) dX10_about_128 ⟨_, rfl⟩ (k1 c1)
  · refine pGo (s_tabin (off := 55) (tgt := 56) dX10_about_1 g1 (by omega) (by omega) (by rw [c1]; rfl) (by decide)) ?_
    refine pGo (s_aload_n dX10_about_56 rfl (by decide)) ?_
    refine pGoE (y := (rd σ 0 7)) (s_getR pc10 fl_X10_27 dX10_about_57 (ob_0 hst) rfl rfl) rfl ?_
    refine pGoE (y := (rd σ (rd σ 0 7) 0)) (s_getI pc6 fl_X10_200 dX10_about_60 (g2 c1).o0 rfl (by decide)) rfl ?_
    exact pEnd (r := (some (0, (rd σ (rd σ 0 7) 0)))) dX10_about_63 ⟨_, rfl⟩ (k2 c1)
  · refine pGo (s_tabin (off := 63) (tgt := 64) dX10_about_1 g1 (by omega) (by omega) (by rw [c1]; rfl) (by decide)) ?_
    refine pGo (s_aload_n dX10_about_64 rfl (by decide)) ?_
    refine pGoE (y := (rd σ 0 7)) (s_getR pc10 fl_X10_27 dX10_about_65 (ob_0 hst) rfl rfl) rfl ?_
    refine pGoE (y := (rd σ (rd σ 0 7) 1)) (s_getI pc6 fl_X10_226 dX10_about_68 (g3 c1).o0 rfl (by decide)) rfl ?_
    exact pEnd (r := (some (0, (rd σ (rd σ 0 7) 1)))) dX10_about_71 ⟨_, rfl⟩ (k3 c1)
  · refine pGo (s_tabin (off := 71) (tgt := 72) dX10_about_1 g1 (by omega) (by omega) (by rw [c1]; rfl) (by decide)) ?_
    refine pGo (s_aload_n dX10_about_72 rfl (by decide)) ?_
    refine pGoE (y := (rd σ 0 7)) (s_getR pc10 fl_X10_27 dX10_about_73 (ob_0 hst) rfl rfl) rfl ?_
    refine pGoE (y := (rd σ (rd σ 0 7) 2)) (s_getI pc6 fl_X10_129 dX10_about_76 (g4 c1).o0 rfl (by decide)) rfl ?_
    exact pEnd (r := (some (0, (rd σ (rd σ 0 7) 2)))) dX10_about_79 ⟨_, rfl⟩ (k4 c1)
  · refine pGo (s_tabin (off := 79) (tgt := 80) dX10_about_1 g1 (by omega) (by omega) (by rw [c1]; rfl) (by decide)) ?_
    refine pGo (s_aload_n dX10_about_80 rfl (by decide)) ?_
    refine pGoE (y := 23) (s_getF pc10 fl_X10_43 dX10_about_81 (ob_0 hst) rfl (by decide)) (by decide) ?_
    refine pGoE (y := (rd σ 23 5)) (s_getI pc8 fl_X10_116 dX10_about_84 (ob_23 hst) rfl (by decide)) rfl ?_
    exact pEnd (r := (some (0, (rd σ 23 5)))) dX10_about_87 ⟨_, rfl⟩ (k5 c1)
  · refine pGo (s_tabin (off := 87) (tgt := 88) dX10_about_1 g1 (by omega) (by omega) (by rw [c1]; rfl) (by decide)) ?_
    refine pGo (s_aload_n dX10_about_88 rfl (by decide)) ?_
    refine pGoE (y := (rd σ 0 14)) (s_getI pc10 fl_X10_194 dX10_about_89 (ob_0 hst) rfl (by decide)) rfl ?_
    exact pEnd (r := (some (0, (rd σ 0 14)))) dX10_about_92 ⟨_, rfl⟩ (k6 c1)
  · refine pGo (s_tabin (off := 92) (tgt := 93) dX10_about_1 g1 (by omega) (by omega) (by rw [c1]; rfl) (by decide)) ?_
    refine pGo (s_aload_n dX10_about_93 rfl (by decide)) ?_
    refine pGoE (y := 29) (s_getF pc10 fl_X10_47 dX10_about_94 (ob_0 hst) rfl (by decide)) (by decide) ?_
    refine pGoE (y := (rd σ 29 5)) (s_getI pc8 fl_X10_116 dX10_about_97 (ob_29 hst) rfl (by decide)) rfl ?_
    exact pEnd (r := (some (0, (rd σ 29 5)))) dX10_about_100 ⟨_, rfl⟩ (k7 c1)
  · refine pGo (s_tabin (off := 100) (tgt := 101) dX10_about_1 g1 (by omega) (by omega) (by rw [c1]; rfl) (by decide)) ?_
    refine pGo (s_aload_n dX10_about_101 rfl (by decide)) ?_
    refine pGoE (y := 44) (s_getF pc10 fl_X10_77 dX10_about_102 (ob_0 hst) rfl (by decide)) (by decide) ?_
    refine pGoE (y := (rd σ 44 2)) (s_getI pc0 fl_X10_257 dX10_about_105 (ob_44 hst) rfl (by decide)) rfl ?_
    exact pEnd (r := (some (0, (rd σ 44 2)))) dX10_about_108 ⟨_, rfl⟩ (k8 c1)
  · refine pGo (s_tabin (off := 108) (tgt := 109) dX10_about_1 g1 (by omega) (by omega) (by rw [c1]; rfl) (by decide)) ?_
    refine pGo (s_aload_n dX10_about_109 rfl (by decide)) ?_
    refine pGoE (y := (rd σ 0 5)) (s_getI pc10 fl_X10_142 dX10_about_110 (ob_0 hst) rfl (by decide)) rfl ?_
    exact pEnd (r := (some (0, (rd σ 0 5)))) dX10_about_113 ⟨_, rfl⟩ (k9 c1)
  · refine pGo (s_tabin (off := 113) (tgt := 114) dX10_about_1 g1 (by omega) (by omega) (by rw [c1]; rfl) (by decide)) ?_
    refine pGo (s_aload_n dX10_about_114 rfl (by decide)) ?_
    refine pGoE (y := (rd σ 0 1)) (s_getI pc10 fl_X10_97 dX10_about_115 (ob_0 hst) rfl (by decide)) rfl ?_
    exact pEnd (r := (some (0, (rd σ 0 1)))) dX10_about_118 ⟨_, rfl⟩ (k10 c1)
  · refine pGo (s_tabin (off := 118) (tgt := 119) dX10_about_1 g1 (by omega) (by omega) (by rw [c1]; rfl) (by decide)) ?_
    refine pGo (s_aload_n dX10_about_119 rfl (by decide)) ?_
    refine pGoE (y := (rd σ 0 7)) (s_getR pc10 fl_X10_27 dX10_about_120 (ob_0 hst) rfl rfl) rfl ?_
    refine pGoE (y := (rd σ (rd σ 0 7) 3)) (s_getI pc6 fl_X10_181 dX10_about_123 (g5 c1).o0 rfl (by decide)) rfl ?_
    exact pEnd (r := (some (0, (rd σ (rd σ 0 7) 3)))) dX10_about_126 ⟨_, rfl⟩ (k11 c1)
set_option maxRecDepth 100000 in
theorem g_X11_skier_0 {d : Nat} {σ : pS} {Q : Option pV → pS → Prop} (hd : 1 ≤ d) (hst : Stat σ) (x1 : Int)  (f1 : pC mX11_isSkill 0 [(0, x1)] σ (fun r τ => r = some (0, b2i (vWithin x1 4)) ∧ τ = σ)) (k1 : ∀ (c1 : (vWithin x1 4) = false), Q (some (0, (-1))) σ) (g1 : ∀ (c2 : (vWithin x1 4) = true), inR (rd σ 68 64)) (g2 : ∀ (c2 : (vWithin x1 4) = true) (c3 : (rd σ 68 64) ≠ 8), 0 ≤ (rd σ 68 64) ∧ (rd σ 68 64) < 8) (k2 : ∀ (c2 : (vWithin x1 4) = true) (c3 : (rd σ 68 64) ≠ 8), Q (some (0, (((rd σ 68 64) + 1) - 1))) (wr (wr σ 107 (rd σ 68 64) x1) 68 64 ((rd σ 68 64) + 1))) (k3 : ∀ (c2 : (vWithin x1 4) = true) (c4 : (rd σ 68 64) = 8), Q (some (0, (-1))) σ) : pC mX11_skier d [(2, 68), (0, x1)] σ Q := by
  show pR mX11_skier d 0 [(2, 68), (0, x1)] [] σ Q
  refine pGo (s_iload_n dX11_skier_0 rfl) ?_
  refine p_callS (As := [(0, x1)]) (st := []) (n := 1) (d' := 0) (Q1 := (fun r τ => r = some (0, b2i (vWithin x1 4)) ∧ τ = σ)) ok_X11_isSkill ml_X11_493 sm_X11_isSkill dX11_skier_1 (pargs_of rfl) rfl (Nat.le_of_ble_eq_true rfl) (by omega) f1 (fun r1 τ1 e1 q1 w1 => ?_)
  obtain ⟨rfl, t1⟩ := q1
  rw [t1]
  show pR mX11_skier d 4 [(2, 68), (0, x1)] [(0, (b2i (vWithin x1 4)))] σ Q
  refine p_ifeqB (tgt := 16) dX11_skier_4 (by decide) (fun c1 => ?_) (fun c2 => ?_)
  · refine pGo (s_iconst dX11_skier_16) ?_
    exact pEnd (r := (some (0, (-1)))) dX11_skier_17 ⟨_, rfl⟩ (k1 c1)
  · refine pGo (s_aload_n dX11_skier_7 rfl (by decide)) ?_
    refine pGoE (y := (rd σ 68 64)) (s_getI pc11 fl_X11_509 dX11_skier_8 (ob_68 hst) rfl (by decide)) rfl ?_
    refine pGo (s_bipush dX11_skier_11 (by decide)) ?_
    refine p_icne (tgt := 18) dX11_skier_13 (by decide) (g1 c2) (by decide) (fun c3 => ?_) (fun c4 => ?_)
    · refine pGo (s_aload_n dX11_skier_18 rfl (by decide)) ?_
      refine pGoE (y := 107) (s_getF pc11 fl_X11_130 dX11_skier_19 (ob_68 hst) rfl (by decide)) (by decide) ?_
      refine pGo (s_aload_n dX11_skier_22 rfl (by decide)) ?_
      refine pGoE (y := (rd σ 68 64)) (s_getI pc11 fl_X11_509 dX11_skier_23 (ob_68 hst) rfl (by decide)) rfl ?_
      refine pGo (s_iload_n dX11_skier_26 rfl) ?_
      refine pGo (s_iast dX11_skier_27 (ob_107 hst) (bnd (g2 c2 c3))) ?_
      refine pGo (s_aload_n dX11_skier_28 rfl (by decide)) ?_
      refine pGo (s_dup dX11_skier_29 (by decide)) ?_
      refine pGoE (y := (rd σ 68 64)) (s_getI pc11 fl_X11_509 dX11_skier_30 (ob_68 hst) rfl (by decide)) (rd_wr_a _ (by decide)) ?_
      refine pGo (s_iconst dX11_skier_33) ?_
      refine pGo (s_iadd dX11_skier_34) ?_
      refine pGo (s_putI pc11 fl_X11_509 dX11_skier_35 (ob_68 hst) rfl rfl rfl rfl) ?_
      refine pGo (s_aload_n dX11_skier_38 rfl (by decide)) ?_
      refine pGoE (y := ((rd σ 68 64) + 1)) (s_getI pc11 fl_X11_509 dX11_skier_39 (ob_68 hst) rfl (by decide)) (rd_wr_same _ _ _ _) ?_
      refine pGo (s_iconst dX11_skier_42) ?_
      refine pGo (s_isub dX11_skier_43) ?_
      exact pEnd (r := (some (0, (((rd σ 68 64) + 1) - 1)))) dX11_skier_44 ⟨_, rfl⟩ (k2 c2 c3)
    · refine pGo (s_iconst dX11_skier_16) ?_
      exact pEnd (r := (some (0, (-1)))) dX11_skier_17 ⟨_, rfl⟩ (k3 c2 c4)
