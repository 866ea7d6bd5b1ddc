/-! walks: what is open and shut, units -/
def vBit (x k : Int) : Bool := decide (i_and (i_shr x k) 1 ≠ 0)
def vShutAt (s : pS) (w m : Int) : Bool := vBit (rd s 39 (vHour m)) w
def vOpenX (s : pS) (w m : Int) : Bool := decide (rd s (rd s 35 4 + 6) w ≤ m ∧ m < rd s (rd s 35 4 + 7) w ∧ vShutAt s w m = false)
def vOn (s : pS) (w m : Int) : Bool := decide ((w < 6 ∧ rd s 81 w ≤ m ∧ m < rd s 82 w) ∨ (6 ≤ w ∧ m < 480))
def vOpenM (s : pS) (w m : Int) : Bool := decide (vOn s w m = true ∧ rd s 105 (8 * w + vHour m) = 0)
def vWU (k : Int) : Bool := decide (k = 15 ∨ k = 16 ∨ k = 17 ∨ k = 9 ∨ k = 8 ∨ k = 3)
def vJoin (op a b : Int) : Int := if op = 43 then a + b else if op = 45 then a - b else if op = 60 then (if a < b then 1 else 0) else if op = 62 then (if b < a then 1 else 0) else if op = 61 then (if a = b then 1 else 0) else if op = 13 then i_and a b else i_or a b
def vUnit (s : pS) (op way hour : Int) : Int := if op = 15 then hour else if op = 16 then rd s 36 hour else if op = 17 then rd s 37 hour else if op = 9 then rd s (rd s 35 4 + 10) way + rd s 38 hour else if op = 8 then rd s (rd s 35 4 + 9) way else rd s (rd s 35 4 + 4) way
set_option maxRecDepth 100000 in
theorem g_X3_isShut_0 {d : Nat} {σ : pS} {Q : Option pV → pS → Prop} (hd : 1 ≤ d) (hst : Stat σ) (x1 : Int) (x2 : Int)  (f1 : pC mX10_hourOf 0 [(0, x2)] σ (fun r τ => r = some (0, (vHour x2)) ∧ τ = σ)) (g1 : 0 ≤ (vHour x2) ∧ (vHour x2) < 8) (g2 : inR (i_and (i_shr (rd σ 39 (vHour x2)) x1) 1)) (k1 : ∀ (c1 : (i_and (i_shr (rd σ 39 (vHour x2)) x1) 1) = 0), Q (some (0, 0)) σ) (k2 : ∀ (c2 : (i_and (i_shr (rd σ 39 (vHour x2)) x1) 1) ≠ 0), Q (some (0, 1)) σ) : pC mX3_isShut d [(2, 35), (0, x1), (0, x2)] σ Q := by
  show pR mX3_isShut d 0 [(2, 35), (0, x1), (0, x2)] [] σ Q
  refine pGo (s_aload_n dX3_isShut_0 rfl (by decide)) ?_
  refine pGoE (y := 39) (s_getF pc3 fl_X3_21 dX3_isShut_1 (ob_35 hst) rfl (by decide)) (by decide) ?_
  refine pGo (s_iload_n dX3_isShut_4 rfl) ?_
  refine p_callS (As := [(0, x2)]) (st := [(2, 39)]) (n := 1) (d' := 0) (Q1 := (fun r τ => r = some (0, (vHour x2)) ∧ τ = σ)) ok_X10_hourOf ml_X3_75 sm_X10_hourOf dX3_isShut_5 (pargs_of rfl) rfl (Nat.le_of_ble_eq_true rfl) (by omega) f1 (fun r1 τ1 e1 q1 w1 => ?_)
  obtain ⟨rfl, t1⟩ := q1
  rw [t1]
  show pR mX3_isShut d 8 [(2, 35), (0, x1), (0, x2)] [(0, (vHour x2)), (2, 39)] σ Q
  refine pGoE (y := (rd σ 39 (vHour x2))) (s_iald dX3_isShut_8 (ob_39 hst) (bnd g1)) rfl ?_
  refine pGo (s_iload_n dX3_isShut_9 rfl) ?_
  refine pGo (s_ishr dX3_isShut_10) ?_
  refine pGo (s_iconst dX3_isShut_11) ?_
  refine pGo (s_iand dX3_isShut_12) ?_
  refine p_ifeq (tgt := 20) dX3_isShut_13 (by decide) g2 (fun c1 => ?_) (fun c2 => ?_)
  · refine pGo (s_iconst dX3_isShut_20) ?_
    exact pEnd (r := (some (0, 0))) dX3_isShut_21 (Or.inl rfl) (k1 c1)
  · refine pGo (s_iconst dX3_isShut_16) ?_
    refine pGo (s_goto (tgt := 21) dX3_isShut_17 (by decide)) ?_
    exact pEnd (r := (some (0, 1))) dX3_isShut_21 (Or.inr rfl) (k2 c2)
set_option maxRecDepth 100000 in
theorem g_X3_isOpen_0 {d : Nat} {σ : pS} {Q : Option pV → pS → Prop} (hd : 2 ≤ d) (hst : Stat σ) (x1 : Int) (x2 : Int)  (g1 : Inst6 σ (rd σ 35 4)) (g2 : 0 ≤ x1 ∧ x1 < 17) (g3 : inR x2) (g4 : inR (rd σ ((rd σ 35 4) + 6) x1)) (k1 : ∀ (c1 : x2 < (rd σ ((rd σ 35 4) + 6) x1)), Q (some (0, 0)) σ) (g5 : ∀ (c2 : (rd σ ((rd σ 35 4) + 6) x1) ≤ x2), inR (rd σ ((rd σ 35 4) + 7) x1)) (k2 : ∀ (c2 : (rd σ ((rd σ 35 4) + 6) x1) ≤ x2) (c3 : (rd σ ((rd σ 35 4) + 7) x1) ≤ x2), Q (some (0, 0)) σ) (f1 : ∀ (c2 : (rd σ ((rd σ 35 4) + 6) x1) ≤ x2) (c4 : x2 < (rd σ ((rd σ 35 4) + 7) x1)), pC mX3_isShut 1 [(2, 35), (0, x1), (0, x2)] σ (fun r τ => r = some (0, b2i (vShutAt σ x1 x2)) ∧ τ = σ)) (k3 : ∀ (c2 : (rd σ ((rd σ 35 4) + 6) x1) ≤ x2) (c4 : x2 < (rd σ ((rd σ 35 4) + 7) x1)) (c5 : (vShutAt σ x1 x2) = true), Q (some (0, 0)) σ) (k4 : ∀ (c2 : (rd σ ((rd σ 35 4) + 6) x1) ≤ x2) (c4 : x2 < (rd σ ((rd σ 35 4) + 7) x1)) (c6 : (vShutAt σ x1 x2) = false), Q (some (0, 1)) σ) : pC mX3_isOpen d [(2, 35), (0, x1), (0, x2)] σ Q := by
  show pR mX3_isOpen d 0 [(2, 35), (0, x1), (0, x2), (9, 0)] [] σ Q
  refine pGo (s_iload_n dX3_isOpen_0 rfl) ?_
  refine pGo (s_aload_n dX3_isOpen_1 rfl (by decide)) ?_
  refine pGoE (y := (rd σ 35 4)) (s_getR pc3 fl_X3_28 dX3_isOpen_2 (ob_35 hst) rfl rfl) rfl ?_
  refine pGo (s_getF pc6 fl_X3_79 dX3_isOpen_5 g1.o0 rfl (by decide)) ?_
  refine pGo (s_iload_n dX3_isOpen_8 rfl) ?_
  refine pGoE (y := (rd σ ((rd σ 35 4) + 6) x1)) (s_iald dX3_isOpen_9 g1.o6 (bnd g2)) rfl ?_
  refine p_iclt (tgt := 30) dX3_isOpen_10 (by decide) g3 g4 (fun c1 => ?_) (fun c2 => ?_)
  · refine pGo (s_iconst dX3_isOpen_30) ?_
    refine pGoL (ls2 := [(2, 35), (0, x1), (0, x2), (0, 0)]) (s_istore_n dX3_isOpen_31 (by decide) rfl) rfl ?_
    refine pGo (s_iload_n dX3_isOpen_32 rfl) ?_
    refine p_ifeq (tgt := 49) dX3_isOpen_33 (by decide) (by decide) (fun _ => ?_) (fun q => absurd q (by decide))
    refine pGo (s_iconst dX3_isOpen_49) ?_
    exact pEnd (r := (some (0, 0))) dX3_isOpen_50 (Or.inl rfl) (k1 c1)
  · refine pGo (s_iload_n dX3_isOpen_13 rfl) ?_
    refine pGo (s_aload_n dX3_isOpen_14 rfl (by decide)) ?_
    refine pGoE (y := (rd σ 35 4)) (s_getR pc3 fl_X3_28 dX3_isOpen_15 (ob_35 hst) rfl rfl) rfl ?_
    refine pGo (s_getF pc6 fl_X3_82 dX3_isOpen_18 g1.o0 rfl (by decide)) ?_
    refine pGo (s_iload_n dX3_isOpen_21 rfl) ?_
    refine pGoE (y := (rd σ ((rd σ 35 4) + 7) x1)) (s_iald dX3_isOpen_22 g1.o7 (bnd g2)) rfl ?_
    refine p_icge (tgt := 30) dX3_isOpen_23 (by decide) g3 (g5 c2) (fun c3 => ?_) (fun c4 => ?_)
    · refine pGo (s_iconst dX3_isOpen_30) ?_
      refine pGoL (ls2 := [(2, 35), (0, x1), (0, x2), (0, 0)]) (s_istore_n dX3_isOpen_31 (by decide) rfl) rfl ?_
      refine pGo (s_iload_n dX3_isOpen_32 rfl) ?_
      refine p_ifeq (tgt := 49) dX3_isOpen_33 (by decide) (by decide) (fun _ => ?_) (fun q => absurd q (by decide))
      refine pGo (s_iconst dX3_isOpen_49) ?_
      exact pEnd (r := (some (0, 0))) dX3_isOpen_50 (Or.inl rfl) (k2 c2 c3)
    · refine pGo (s_iconst dX3_isOpen_26) ?_
      refine pGo (s_goto (tgt := 31) dX3_isOpen_27 (by decide)) ?_
      refine pGoL (ls2 := [(2, 35), (0, x1), (0, x2), (0, 1)]) (s_istore_n dX3_isOpen_31 (by decide) rfl) rfl ?_
      refine pGo (s_iload_n dX3_isOpen_32 rfl) ?_
      refine p_ifeq (tgt := 49) dX3_isOpen_33 (by decide) (by decide) (fun q => absurd q (by decide)) (fun _ => ?_)
      refine pGo (s_aload_n dX3_isOpen_36 rfl (by decide)) ?_
      refine pGo (s_iload_n dX3_isOpen_37 rfl) ?_
      refine pGo (s_iload_n dX3_isOpen_38 rfl) ?_
      refine p_callV (As := [(0, x1), (0, x2)]) (st := []) (n := 2) (d' := 1) (Q1 := (fun r τ => r = some (0, b2i (vShutAt σ x1 x2)) ∧ τ = σ)) pc3 ok_X3_isShut ml_X3_85 im_X3_isShut se_X3_isShut dX3_isOpen_39 (ob_35 hst) (pargs_of rfl) rfl (Nat.le_of_ble_eq_true rfl) (by omega) (f1 c2 c4) (fun r1 τ1 e1 q1 w1 => ?_)
      obtain ⟨rfl, t1⟩ := q1
      rw [t1]
      show pR mX3_isOpen d 42 [(2, 35), (0, x1), (0, x2), (0, 1)] [(0, (b2i (vShutAt σ x1 x2)))] σ Q
      refine p_ifneB (tgt := 49) dX3_isOpen_42 (by decide) (fun c5 => ?_) (fun c6 => ?_)
      · refine pGo (s_iconst dX3_isOpen_49) ?_
        exact pEnd (r := (some (0, 0))) dX3_isOpen_50 (Or.inl rfl) (k3 c2 c4 c5)
      · refine pGo (s_iconst dX3_isOpen_45) ?_
        refine pGo (s_goto (tgt := 50) dX3_isOpen_46 (by decide)) ?_
        exact pEnd (r := (some (0, 1))) dX3_isOpen_50 (Or.inr rfl) (k4 c2 c4 c6)
set_option maxRecDepth 100000 in
theorem g_X11_isOn_0 {d : Nat} {σ : pS} {Q : Option pV → pS → Prop} (hd : 0 ≤ d) (hst : Stat σ) (x1 : Int) (x2 : Int)  (g1 : inR x1) (g2 : ∀ (c1 : 6 ≤ x1), inR x2) (k1 : ∀ (c1 : 6 ≤ x1) (c3 : 480 ≤ x2), Q (some (0, 0)) σ) (k2 : ∀ (c1 : 6 ≤ x1) (c4 : x2 < 480), Q (some (0, 1)) σ) (g3 : ∀ (c2 : x1 < 6), 0 ≤ x1 ∧ x1 < 13) (g4 : ∀ (c2 : x1 < 6), inR (rd σ 81 x1)) (g5 : ∀ (c2 : x1 < 6), inR x2) (k3 : ∀ (c2 : x1 < 6) (c5 : x2 < (rd σ 81 x1)), Q (some (0, 0)) σ) (g6 : ∀ (c2 : x1 < 6) (c6 : (rd σ 81 x1) ≤ x2), inR (rd σ 82 x1)) (k4 : ∀ (c2 : x1 < 6) (c6 : (rd σ 81 x1) ≤ x2) (c7 : (rd σ 82 x1) ≤ x2), Q (some (0, 0)) σ) (k5 : ∀ (c2 : x1 < 6) (c6 : (rd σ 81 x1) ≤ x2) (c8 : x2 < (rd σ 82 x1)), Q (some (0, 1)) σ) : pC mX11_isOn d [(2, 68), (0, x1), (0, x2)] σ Q := by
  show pR mX11_isOn d 0 [(2, 68), (0, x1), (0, x2)] [] σ Q
  refine pGo (s_iload_n dX11_isOn_0 rfl) ?_
  refine pGo (s_bipush dX11_isOn_1 (by decide)) ?_
  refine p_icge (tgt := 34) dX11_isOn_3 (by decide) g1 (by decide) (fun c1 => ?_) (fun c2 => ?_)
  · refine pGo (s_iload_n dX11_isOn_34 rfl) ?_
    refine pGo (s_sipush dX11_isOn_35 (by decide)) ?_
    refine p_icge (tgt := 45) dX11_isOn_38 (by decide) (g2 c1) (by decide) (fun c3 => ?_) (fun c4 => ?_)
    · refine pGo (s_iconst dX11_isOn_45) ?_
      exact pEnd (r := (some (0, 0))) dX11_isOn_46 (Or.inl rfl) (k1 c1 c3)
    · refine pGo (s_iconst dX11_isOn_41) ?_
      refine pGo (s_goto (tgt := 46) dX11_isOn_42 (by decide)) ?_
      exact pEnd (r := (some (0, 1))) dX11_isOn_46 (Or.inr rfl) (k2 c1 c4)
  · refine pGo (s_aload_n dX11_isOn_6 rfl (by decide)) ?_
    refine pGoE (y := 81) (s_getF pc11 fl_X11_51 dX11_isOn_7 (ob_68 hst) rfl (by decide)) (by decide) ?_
    refine pGo (s_iload_n dX11_isOn_10 rfl) ?_
    refine pGoE (y := (rd σ 81 x1)) (s_iald dX11_isOn_11 (ob_81 hst) (bnd (g3 c2))) rfl ?_
    refine pGo (s_iload_n dX11_isOn_12 rfl) ?_
    refine p_icgt (tgt := 30) dX11_isOn_13 (by decide) (g4 c2) (g5 c2) (fun c5 => ?_) (fun c6 => ?_)
    · refine pGo (s_iconst dX11_isOn_30) ?_
      refine pGo (s_goto (tgt := 46) dX11_isOn_31 (by decide)) ?_
      exact pEnd (r := (some (0, 0))) dX11_isOn_46 (Or.inl rfl) (k3 c2 c5)
    · refine pGo (s_iload_n dX11_isOn_16 rfl) ?_
      refine pGo (s_aload_n dX11_isOn_17 rfl (by decide)) ?_
      refine pGoE (y := 82) (s_getF pc11 fl_X11_54 dX11_isOn_18 (ob_68 hst) rfl (by decide)) (by decide) ?_
      refine pGo (s_iload_n dX11_isOn_21 rfl) ?_
      refine pGoE (y := (rd σ 82 x1)) (s_iald dX11_isOn_22 (ob_82 hst) (bnd (g3 c2))) rfl ?_
      refine p_icge (tgt := 30) dX11_isOn_23 (by decide) (g5 c2) (g6 c2 c6) (fun c7 => ?_) (fun c8 => ?_)
      · refine pGo (s_iconst dX11_isOn_30) ?_
        refine pGo (s_goto (tgt := 46) dX11_isOn_31 (by decide)) ?_
        exact pEnd (r := (some (0, 0))) dX11_isOn_46 (Or.inl rfl) (k4 c2 c6 c7)
      · refine pGo (s_iconst dX11_isOn_26) ?_
        refine pGo (s_goto (tgt := 46) dX11_isOn_27 (by decide)) ?_
        exact pEnd (r := (some (0, 1))) dX11_isOn_46 (Or.inr rfl) (k5 c2 c6 c8)
set_option maxRecDepth 100000 in
theorem g_X11_isOpenAt_0 {d : Nat} {σ : pS} {Q : Option pV → pS → Prop} (hd : 1 ≤ d) (hst : Stat σ) (x1 : Int) (x2 : Int)  (f1 : pC mX11_isOn 0 [(2, 68), (0, x1), (0, x2)] σ (fun r τ => r = some (0, b2i (vOn σ x1 x2)) ∧ τ = σ)) (k1 : ∀ (c1 : (vOn σ x1 x2) = false), Q (some (0, 0)) σ) (f2 : ∀ (c2 : (vOn σ x1 x2) = true), pC mX11_hourOf 0 [(0, x2)] σ (fun r τ => r = some (0, (vHour x2)) ∧ τ = σ)) (g1 : ∀ (c2 : (vOn σ x1 x2) = true), 0 ≤ ((8 * x1) + (vHour x2)) ∧ ((8 * x1) + (vHour x2)) < 104) (g2 : ∀ (c2 : (vOn σ x1 x2) = true), inR (rd σ 105 ((8 * x1) + (vHour x2)))) (k2 : ∀ (c2 : (vOn σ x1 x2) = true) (c3 : (rd σ 105 ((8 * x1) + (vHour x2))) ≠ 0), Q (some (0, 0)) σ) (k3 : ∀ (c2 : (vOn σ x1 x2) = true) (c4 : (rd σ 105 ((8 * x1) + (vHour x2))) = 0), Q (some (0, 1)) σ) : pC mX11_isOpenAt d [(2, 68), (0, x1), (0, x2)] σ Q := by
  show pR mX11_isOpenAt d 0 [(2, 68), (0, x1), (0, x2)] [] σ Q
  refine pGo (s_aload_n dX11_isOpenAt_0 rfl (by decide)) ?_
  refine pGo (s_iload_n dX11_isOpenAt_1 rfl) ?_
  refine pGo (s_iload_n dX11_isOpenAt_2 rfl) ?_
  refine p_callV (As := [(0, x1), (0, x2)]) (st := []) (n := 2) (d' := 0) (Q1 := (fun r τ => r = some (0, b2i (vOn σ x1 x2)) ∧ τ = σ)) pc11 ok_X11_isOn ml_X11_464 im_X11_isOn se_X11_isOn dX11_isOpenAt_3 (ob_68 hst) (pargs_of rfl) rfl (Nat.le_of_ble_eq_true rfl) (by omega) f1 (fun r1 τ1 e1 q1 w1 => ?_)
  obtain ⟨rfl, t1⟩ := q1
  rw [t1]
  show pR mX11_isOpenAt d 6 [(2, 68), (0, x1), (0, x2)] [(0, (b2i (vOn σ x1 x2)))] σ Q
  refine p_ifeqB (tgt := 30) dX11_isOpenAt_6 (by decide) (fun c1 => ?_) (fun c2 => ?_)
  · refine pGo (s_iconst dX11_isOpenAt_30) ?_
    exact pEnd (r := (some (0, 0))) dX11_isOpenAt_31 (Or.inl rfl) (k1 c1)
  · refine pGo (s_aload_n dX11_isOpenAt_9 rfl (by decide)) ?_
    refine pGoE (y := 105) (s_getF pc11 fl_X11_124 dX11_isOpenAt_10 (ob_68 hst) rfl (by decide)) (by decide) ?_
    refine pGo (s_bipush dX11_isOpenAt_13 (by decide)) ?_
    refine pGo (s_iload_n dX11_isOpenAt_15 rfl) ?_
    refine pGo (s_imul dX11_isOpenAt_16) ?_
    refine pGo (s_iload_n dX11_isOpenAt_17 rfl) ?_
    refine p_callS (As := [(0, x2)]) (st := [(0, (8 * x1)), (2, 105)]) (n := 1) (d' := 0) (Q1 := (fun r τ => r = some (0, (vHour x2)) ∧ τ = σ)) ok_X11_hourOf ml_X11_468 sm_X11_hourOf dX11_isOpenAt_18 (pargs_of rfl) rfl (Nat.le_of_ble_eq_true rfl) (by omega) (f2 c2) (fun r2 τ2 e2 q2 w2 => ?_)
    obtain ⟨rfl, t2⟩ := q2
    rw [t2]
    show pR mX11_isOpenAt d 21 [(2, 68), (0, x1), (0, x2)] [(0, (vHour x2)), (0, (8 * x1)), (2, 105)] σ Q
    refine pGo (s_iadd dX11_isOpenAt_21) ?_
    refine pGoE (y := (rd σ 105 ((8 * x1) + (vHour x2)))) (s_zald dX11_isOpenAt_22 (ob_105 hst) (bnd (g1 c2))) rfl ?_
    refine p_ifne (tgt := 30) dX11_isOpenAt_23 (by decide) (g2 c2) (fun c3 => ?_) (fun c4 => ?_)
    · refine pGo (s_iconst dX11_isOpenAt_30) ?_
      exact pEnd (r := (some (0, 0))) dX11_isOpenAt_31 (Or.inl rfl) (k2 c2 c3)
    · refine pGo (s_iconst dX11_isOpenAt_26) ?_
      refine pGo (s_goto (tgt := 31) dX11_isOpenAt_27 (by decide)) ?_
      exact pEnd (r := (some (0, 1))) dX11_isOpenAt_31 (Or.inr rfl) (k3 c2 c4)
set_option maxRecDepth 100000 in
theorem g_X2_isWordUnit_0 {d : Nat} {σ : pS} {Q : Option pV → pS → Prop} (hd : 0 ≤ d) (hst : Stat σ) (x1 : Int)  (g1 : inR x1) (k1 : ∀ (c1 : x1 = 15), Q (some (0, 1)) σ) (k2 : ∀ (c2 : x1 ≠ 15) (c3 : x1 = 16), Q (some (0, 1)) σ) (k3 : ∀ (c2 : x1 ≠ 15) (c4 : x1 ≠ 16) (c5 : x1 = 17), Q (some (0, 1)) σ) (k4 : ∀ (c2 : x1 ≠ 15) (c4 : x1 ≠ 16) (c6 : x1 ≠ 17) (c7 : x1 = 9), Q (some (0, 1)) σ) (k5 : ∀ (c2 : x1 ≠ 15) (c4 : x1 ≠ 16) (c6 : x1 ≠ 17) (c8 : x1 ≠ 9) (c9 : x1 = 8), Q (some (0, 1)) σ) (k6 : ∀ (c2 : x1 ≠ 15) (c4 : x1 ≠ 16) (c6 : x1 ≠ 17) (c8 : x1 ≠ 9) (c10 : x1 ≠ 8) (c11 : x1 ≠ 3), Q (some (0, 0)) σ) (k7 : ∀ (c2 : x1 ≠ 15) (c4 : x1 ≠ 16) (c6 : x1 ≠ 17) (c8 : x1 ≠ 9) (c10 : x1 ≠ 8) (c12 : x1 = 3), Q (some (0, 1)) σ) : pC mX2_isWordUnit d [(0, x1)] σ Q := by
  show pR mX2_isWordUnit d 0 [(0, x1)] [] σ Q
  refine pGo (s_iload_n dX2_isWordUnit_0 rfl) ?_
  refine pGo (s_bipush dX2_isWordUnit_1 (by decide)) ?_
  refine p_iceq (tgt := 35) dX2_isWordUnit_3 (by decide) g1 (by decide) (fun c1 => ?_) (fun c2 => ?_)
  · refine pGo (s_iconst dX2_isWordUnit_35) ?_
    refine pGo (s_goto (tgt := 40) dX2_isWordUnit_36 (by decide)) ?_
    exact pEnd (r := (some (0, 1))) dX2_isWordUnit_40 (Or.inr rfl) (k1 c1)
  · refine pGo (s_iload_n dX2_isWordUnit_6 rfl) ?_
    refine pGo (s_bipush dX2_isWordUnit_7 (by decide)) ?_
    refine p_iceq (tgt := 35) dX2_isWordUnit_9 (by decide) g1 (by decide) (fun c3 => ?_) (fun c4 => ?_)
    · refine pGo (s_iconst dX2_isWordUnit_35) ?_
      refine pGo (s_goto (tgt := 40) dX2_isWordUnit_36 (by decide)) ?_
      exact pEnd (r := (some (0, 1))) dX2_isWordUnit_40 (Or.inr rfl) (k2 c2 c3)
    · refine pGo (s_iload_n dX2_isWordUnit_12 rfl) ?_
      refine pGo (s_bipush dX2_isWordUnit_13 (by decide)) ?_
      refine p_iceq (tgt := 35) dX2_isWordUnit_15 (by decide) g1 (by decide) (fun c5 => ?_) (fun c6 => ?_)
      · refine pGo (s_iconst dX2_isWordUnit_35) ?_
        refine pGo (s_goto (tgt := 40) dX2_isWordUnit_36 (by decide)) ?_
        exact pEnd (r := (some (0, 1))) dX2_isWordUnit_40 (Or.inr rfl) (k3 c2 c4 c5)
      · refine pGo (s_iload_n dX2_isWordUnit_18 rfl) ?_
        refine pGo (s_bipush dX2_isWordUnit_19 (by decide)) ?_
        refine p_iceq (tgt := 35) dX2_isWordUnit_21 (by decide) g1 (by decide) (fun c7 => ?_) (fun c8 => ?_)
        · refine pGo (s_iconst dX2_isWordUnit_35) ?_
          refine pGo (s_goto (tgt := 40) dX2_isWordUnit_36 (by decide)) ?_
          exact pEnd (r := (some (0, 1))) dX2_isWordUnit_40 (Or.inr rfl) (k4 c2 c4 c6 c7)
        · refine pGo (s_iload_n dX2_isWordUnit_24 rfl) ?_
          refine pGo (s_bipush dX2_isWordUnit_25 (by decide)) ?_
          refine p_iceq (tgt := 35) dX2_isWordUnit_27 (by decide) g1 (by decide) (fun c9 => ?_) (fun c10 => ?_)
          · refine pGo (s_iconst dX2_isWordUnit_35) ?_
            refine pGo (s_goto (tgt := 40) dX2_isWordUnit_36 (by decide)) ?_
            exact pEnd (r := (some (0, 1))) dX2_isWordUnit_40 (Or.inr rfl) (k5 c2 c4 c6 c8 c9)
          · refine pGo (s_iload_n dX2_isWordUnit_30 rfl) ?_
            refine pGo (s_iconst dX2_isWordUnit_31) ?_
            refine p_icne (tgt := 39) dX2_isWordUnit_32 (by decide) g1 (by decide) (fun c11 => ?_) (fun c12 => ?_)
            · refine pGo (s_iconst dX2_isWordUnit_39) ?_
              exact pEnd (r := (some (0, 0))) dX2_isWordUnit_40 (Or.inl rfl) (k6 c2 c4 c6 c8 c10 c11)
            · refine pGo (s_iconst dX2_isWordUnit_35) ?_
              refine pGo (s_goto (tgt := 40) dX2_isWordUnit_36 (by decide)) ?_
              exact pEnd (r := (some (0, 1))) dX2_isWordUnit_40 (Or.inr rfl) (k7 c2 c4 c6 c8 c10 c12)
set_option maxRecDepth 100000 in
theorem g_X2_joined_0 {d : Nat} {σ : pS} {Q : Option pV → pS → Prop} (hd : 0 ≤ d) (hst : Stat σ) (x1 : Int) (x2 : Int) (x3 : Int)  (g1 : inR x1) (k1 : ∀ (c1 : x1 ≠ 13 ∧ x1 ≠ 43 ∧ x1 ≠ 45 ∧ x1 ≠ 60 ∧ x1 ≠ 61 ∧ x1 ≠ 62), Q (some (0, (i_or x2 x3))) σ) (k2 : ∀ (c1 : x1 = 13), Q (some (0, (i_and x2 x3))) σ) (k3 : ∀ (c1 : x1 = 43), Q (some (0, (x2 + x3))) σ) (k4 : ∀ (c1 : x1 = 45), Q (some (0, (x2 - x3))) σ) (g2 : ∀ (c1 : x1 = 60), inR x2) (g3 : ∀ (c1 : x1 = 60), inR x3) (k5 : ∀ (c1 : x1 = 60) (c2 : x3 ≤ x2), Q (some (0, 0)) σ) (k6 : ∀ (c1 : x1 = 60) (c3 : x2 < x3), Q (some (0, 1)) σ) (g4 : ∀ (c1 : x1 = 61), inR x2) (g5 : ∀ (c1 : x1 = 61), inR x3) (k7 : ∀ (c1 : x1 = 61) (c4 : x2 ≠ x3), Q (some (0, 0)) σ) (k8 : ∀ (c1 : x1 = 61) (c5 : x2 = x3), Q (some (0, 1)) σ) (g6 : ∀ (c1 : x1 = 62), inR x2) (g7 : ∀ (c1 : x1 = 62), inR x3) (k9 : ∀ (c1 : x1 = 62) (c6 : x2 ≤ x3), Q (some (0, 0)) σ) (k10 : ∀ (c1 : x1 = 62) (c7 : x3 < x2), Q (some (0, 1)) σ) : pC mX2_joined d [(0, x1), (0, x2), (0, x3)] σ Q := by
  show pR mX2_joined d 0 [(0, x1), (0, x2), (0, x3)] [] σ Q
  refine pGo (s_iload_n dX2_joined_0 rfl) ?_
  rcases (show (x1 ≠ 13 ∧ x1 ≠ 43 ∧ x1 ≠ 45 ∧ x1 ≠ 60 ∧ x1 ≠ 61 ∧ x1 ≠ 62) ∨ x1 = 13 ∨ x1 = 43 ∨ x1 = 45 ∨ x1 = 60 ∨ x1 = 61 ∨ x1 = 62 by omega) with c1 | c1 | c1 | c1 | c1 | c1 | c1
  · refine pGo (s_lookup (off := 104) (tgt := 105) dX2_joined_1 g1 (by decide) (by obtain ⟨l0, l1, l2, l3, l4, l5⟩ := c1; simp [Op.lookupswitch.offset, Ne.symm l0, Ne.symm l1, Ne.symm l2, Ne.symm l3, Ne.symm l4, Ne.symm l5]) (by decide)) ?_
    refine pGo (s_iload_n dX2_joined_105 rfl) ?_
    refine pGo (s_iload_n dX2_joined_106 rfl) ?_
    refine pGo (s_ior dX2_joined_107) ?_
    exact pEnd (r := (some (0, (i_or x2 x3)))) dX2_joined_108 ⟨_, rfl⟩ (k1 c1)
  · refine pGo (s_lookup (off := 100) (tgt := 101) dX2_joined_1 g1 (by decide) (by rw [c1]; rfl) (by decide)) ?_
    refine pGo (s_iload_n dX2_joined_101 rfl) ?_
    refine pGo (s_iload_n dX2_joined_102 rfl) ?_
    refine pGo (s_iand dX2_joined_103) ?_
    exact pEnd (r := (some (0, (i_and x2 x3)))) dX2_joined_104 ⟨_, rfl⟩ (k2 c1)
  · refine pGo (s_lookup (off := 59) (tgt := 60) dX2_joined_1 g1 (by decide) (by rw [c1]; rfl) (by decide)) ?_
    refine pGo (s_iload_n dX2_joined_60 rfl) ?_
    refine pGo (s_iload_n dX2_joined_61 rfl) ?_
    refine pGo (s_iadd dX2_joined_62) ?_
    exact pEnd (r := (some (0, (x2 + x3)))) dX2_joined_63 ⟨_, rfl⟩ (k3 c1)
  · refine pGo (s_lookup (off := 63) (tgt := 64) dX2_joined_1 g1 (by decide) (by rw [c1]; rfl) (by decide)) ?_
    refine pGo (s_iload_n dX2_joined_64 rfl) ?_
    refine pGo (s_iload_n dX2_joined_65 rfl) ?_
    refine pGo (s_isub dX2_joined_66) ?_
    exact pEnd (r := (some (0, (x2 - x3)))) dX2_joined_67 ⟨_, rfl⟩ (k4 c1)
  · refine pGo (s_lookup (off := 67) (tgt := 68) dX2_joined_1 g1 (by decide) (by rw [c1]; rfl) (by decide)) ?_
    refine pGo (s_iload_n dX2_joined_68 rfl) ?_
    refine pGo (s_iload_n dX2_joined_69 rfl) ?_
    refine p_icge (tgt := 77) dX2_joined_70 (by decide) (g2 c1) (g3 c1) (fun c2 => ?_) (fun c3 => ?_)
    · refine pGo (s_iconst dX2_joined_77) ?_
      exact pEnd (r := (some (0, 0))) dX2_joined_78 ⟨_, rfl⟩ (k5 c1 c2)
    · refine pGo (s_iconst dX2_joined_73) ?_
      refine pGo (s_goto (tgt := 78) dX2_joined_74 (by decide)) ?_
      exact pEnd (r := (some (0, 1))) dX2_joined_78 ⟨_, rfl⟩ (k6 c1 c3)
  · refine pGo (s_lookup (off := 89) (tgt := 90) dX2_joined_1 g1 (by decide) (by rw [c1]; rfl) (by decide)) ?_
    refine pGo (s_iload_n dX2_joined_90 rfl) ?_
    refine pGo (s_iload_n dX2_joined_91 rfl) ?_
    refine p_icne (tgt := 99) dX2_joined_92 (by decide) (g4 c1) (g5 c1) (fun c4 => ?_) (fun c5 => ?_)
    · refine pGo (s_iconst dX2_joined_99) ?_
      exact pEnd (r := (some (0, 0))) dX2_joined_100 ⟨_, rfl⟩ (k7 c1 c4)
    · refine pGo (s_iconst dX2_joined_95) ?_
      refine pGo (s_goto (tgt := 100) dX2_joined_96 (by decide)) ?_
      exact pEnd (r := (some (0, 1))) dX2_joined_100 ⟨_, rfl⟩ (k8 c1 c5)
  · refine pGo (s_lookup (off := 78) (tgt := 79) dX2_joined_1 g1 (by decide) (by rw [c1]; rfl) (by decide)) ?_
    refine pGo (s_iload_n dX2_joined_79 rfl) ?_
    refine pGo (s_iload_n dX2_joined_80 rfl) ?_
    refine p_icle (tgt := 88) dX2_joined_81 (by decide) (g6 c1) (g7 c1) (fun c6 => ?_) (fun c7 => ?_)
    · refine pGo (s_iconst dX2_joined_88) ?_
      exact pEnd (r := (some (0, 0))) dX2_joined_89 ⟨_, rfl⟩ (k9 c1 c6)
    · refine pGo (s_iconst dX2_joined_84) ?_
      refine pGo (s_goto (tgt := 89) dX2_joined_85 (by decide)) ?_
      exact pEnd (r := (some (0, 1))) dX2_joined_89 ⟨_, rfl⟩ (k10 c1 c7)
set_option maxRecDepth 100000 in
theorem g_X2_unit_0 {d : Nat} {σ : pS} {Q : Option pV → pS → Prop} (hd : 0 ≤ d) (hst : Stat σ) (x1 : Int) (x3 : Int) (x4 : Int)  (g1 : inR x1) (g2 : ∀ (c1 : x1 < 8 ∨ 17 < x1), Inst6 σ (rd σ 35 4)) (g3 : ∀ (c1 : x1 < 8 ∨ 17 < x1), 0 ≤ x3 ∧ x3 < 17) (k1 : ∀ (c1 : x1 < 8 ∨ 17 < x1), Q (some (0, (rd σ ((rd σ 35 4) + 4) x3))) σ) (g4 : ∀ (c1 : x1 = 8), Inst6 σ (rd σ 35 4)) (g5 : ∀ (c1 : x1 = 8), 0 ≤ x3 ∧ x3 < 17) (k2 : ∀ (c1 : x1 = 8), Q (some (0, (rd σ ((rd σ 35 4) + 9) x3))) σ) (g6 : ∀ (c1 : x1 = 9), Inst6 σ (rd σ 35 4)) (g7 : ∀ (c1 : x1 = 9), 0 ≤ x3 ∧ x3 < 17) (g8 : ∀ (c1 : x1 = 9), 0 ≤ x4 ∧ x4 < 8) (k3 : ∀ (c1 : x1 = 9), Q (some (0, ((rd σ ((rd σ 35 4) + 10) x3) + (rd σ 38 x4)))) σ) (g9 : ∀ (c1 : x1 = 10), Inst6 σ (rd σ 35 4)) (g10 : ∀ (c1 : x1 = 10), 0 ≤ x3 ∧ x3 < 17) (k4 : ∀ (c1 : x1 = 10), Q (some (0, (rd σ ((rd σ 35 4) + 4) x3))) σ) (g11 : ∀ (c1 : x1 = 11), Inst6 σ (rd σ 35 4)) (g12 : ∀ (c1 : x1 = 11), 0 ≤ x3 ∧ x3 < 17) (k5 : ∀ (c1 : x1 = 11), Q (some (0, (rd σ ((rd σ 35 4) + 4) x3))) σ) (g13 : ∀ (c1 : x1 = 12), Inst6 σ (rd σ 35 4)) (g14 : ∀ (c1 : x1 = 12), 0 ≤ x3 ∧ x3 < 17) (k6 : ∀ (c1 : x1 = 12), Q (some (0, (rd σ ((rd σ 35 4) + 4) x3))) σ) (g15 : ∀ (c1 : x1 = 13), Inst6 σ (rd σ 35 4)) (g16 : ∀ (c1 : x1 = 13), 0 ≤ x3 ∧ x3 < 17) (k7 : ∀ (c1 : x1 = 13), Q (some (0, (rd σ ((rd σ 35 4) + 4) x3))) σ) (g17 : ∀ (c1 : x1 = 14), Inst6 σ (rd σ 35 4)) (g18 : ∀ (c1 : x1 = 14), 0 ≤ x3 ∧ x3 < 17) (k8 : ∀ (c1 : x1 = 14), Q (some (0, (rd σ ((rd σ 35 4) + 4) x3))) σ) (k9 : ∀ (c1 : x1 = 15), Q (some (0, x4)) σ) (g19 : ∀ (c1 : x1 = 16), 0 ≤ x4 ∧ x4 < 8) (k10 : ∀ (c1 : x1 = 16), Q (some (0, (rd σ 36 x4))) σ) (g20 : ∀ (c1 : x1 = 17), 0 ≤ x4 ∧ x4 < 8) (k11 : ∀ (c1 : x1 = 17), Q (some (0, (rd σ 37 x4))) σ) : pC mX2_unit d [(0, x1), (2, 35), (0, x3), (0, x4)] σ Q := by
  show pR mX2_unit d 0 [(0, x1), (2, 35), (0, x3), (0, x4)] [] σ Q
  refine pGo (s_iload_n dX2_unit_0 rfl) ?_
  rcases (show (x1 < 8 ∨ 17 < x1) ∨ x1 = 8 ∨ x1 = 9 ∨ x1 = 10 ∨ x1 = 11 ∨ x1 = 12 ∨ x1 = 13 ∨ x1 = 14 ∨ x1 = 15 ∨ x1 = 16 ∨ x1 = 17 by omega) with c1 | c1 | c1 | c1 | c1 | c1 | c1 | c1 | c1 | c1 | c1
  · refine pGo (s_tabout (tgt := 99) dX2_unit_1 g1 c1 (by decide)) ?_
    refine pGo (s_aload_n dX2_unit_99 rfl (by decide)) ?_
    refine pGoE (y := (rd σ 35 4)) (s_getR pc3 fl_X2_53 dX2_unit_100 (ob_35 hst) rfl rfl) rfl ?_
    refine pGo (s_getF pc6 fl_X2_68 dX2_unit_103 (g2 c1).o0 rfl (by decide)) ?_
    refine pGo (s_iload_n dX2_unit_106 rfl) ?_
    refine pGoE (y := (rd σ ((rd σ 35 4) + 4) x3)) (s_iald dX2_unit_107 (g2 c1).o4 (bnd (g3 c1))) rfl ?_
    exact pEnd (r := (some (0, (rd σ ((rd σ 35 4) + 4) x3)))) dX2_unit_108 ⟨_, rfl⟩ (k1 c1)
  · refine pGo (s_tabin (off := 88) (tgt := 89) dX2_unit_1 g1 (by omega) (by omega) (by rw [c1]; rfl) (by decide)) ?_
    refine pGo (s_aload_n dX2_unit_89 rfl (by decide)) ?_
    refine pGoE (y := (rd σ 35 4)) (s_getR pc3 fl_X2_53 dX2_unit_90 (ob_35 hst) rfl rfl) rfl ?_
    refine pGo (s_getF pc6 fl_X2_65 dX2_unit_93 (g4 c1).o0 rfl (by decide)) ?_
    refine pGo (s_iload_n dX2_unit_96 rfl) ?_
    refine pGoE (y := (rd σ ((rd σ 35 4) + 9) x3)) (s_iald dX2_unit_97 (g4 c1).o9 (bnd (g5 c1))) rfl ?_
    exact pEnd (r := (some (0, (rd σ ((rd σ 35 4) + 9) x3)))) dX2_unit_98 ⟨_, rfl⟩ (k2 c1)
  · refine pGo (s_tabin (off := 71) (tgt := 72) dX2_unit_1 g1 (by omega) (by omega) (by rw [c1]; rfl) (by decide)) ?_
    refine pGo (s_aload_n dX2_unit_72 rfl (by decide)) ?_
    refine pGoE (y := (rd σ 35 4)) (s_getR pc3 fl_X2_53 dX2_unit_73 (ob_35 hst) rfl rfl) rfl ?_
    refine pGo (s_getF pc6 fl_X2_57 dX2_unit_76 (g6 c1).o0 rfl (by decide)) ?_
    refine pGo (s_iload_n dX2_unit_79 rfl) ?_
    refine pGoE (y := (rd σ ((rd σ 35 4) + 10) x3)) (s_iald dX2_unit_80 (g6 c1).o10 (bnd (g7 c1))) rfl ?_
    refine pGo (s_aload_n dX2_unit_81 rfl (by decide)) ?_
    refine pGoE (y := 38) (s_getF pc3 fl_X2_62 dX2_unit_82 (ob_35 hst) rfl (by decide)) (by decide) ?_
    refine pGo (s_iload_n dX2_unit_85 rfl) ?_
    refine pGoE (y := (rd σ 38 x4)) (s_iald dX2_unit_86 (ob_38 hst) (bnd (g8 c1))) rfl ?_
    refine pGo (s_iadd dX2_unit_87) ?_
    exact pEnd (r := (some (0, ((rd σ ((rd σ 35 4) + 10) x3) + (rd σ 38 x4))))) dX2_unit_88 ⟨_, rfl⟩ (k3 c1)
  · refine pGo (s_tabin (off := 98) (tgt := 99) dX2_unit_1 g1 (by omega) (by omega) (by rw [c1]; rfl) (by decide)) ?_
    refine pGo (s_aload_n dX2_unit_99 rfl (by decide)) ?_
    refine pGoE (y := (rd σ 35 4)) (s_getR pc3 fl_X2_53 dX2_unit_100 (ob_35 hst) rfl rfl) rfl ?_
    refine pGo (s_getF pc6 fl_X2_68 dX2_unit_103 (g9 c1).o0 rfl (by decide)) ?_
    refine pGo (s_iload_n dX2_unit_106 rfl) ?_
    refine pGoE (y := (rd σ ((rd σ 35 4) + 4) x3)) (s_iald dX2_unit_107 (g9 c1).o4 (bnd (g10 c1))) rfl ?_
    exact pEnd (r := (some (0, (rd σ ((rd σ 35 4) + 4) x3)))) dX2_unit_108 ⟨_, rfl⟩ (k4 c1)
  · refine pGo (s_tabin (off := 98) (tgt := 99) dX2_unit_1 g1 (by omega) (by omega) (by rw [c1]; rfl) (by decide)) ?_
    refine pGo (s_aload_n dX2_unit_99 rfl (by decide)) ?_
    refine pGoE (y := (rd σ 35 4)) (s_getR pc3 fl_X2_53 dX2_unit_100 (ob_35 hst) rfl rfl) rfl ?_
    refine pGo (s_getF pc6 fl_X2_68 dX2_unit_103 (g11 c1).o0 rfl (by decide)) ?_
    refine pGo (s_iload_n dX2_unit_106 rfl) ?_
    refine pGoE (y := (rd σ ((rd σ 35 4) + 4) x3)) (s_iald dX2_unit_107 (g11 c1).o4 (bnd (g12 c1))) rfl ?_
    exact pEnd (r := (some (0, (rd σ ((rd σ 35 4) + 4) x3)))) dX2_unit_108 ⟨_, rfl⟩ (k5 c1)
  · refine pGo (s_tabin (off := 98) (tgt := 99) dX2_unit_1 g1 (by omega) (by omega) (by rw [c1]; rfl) (by decide)) ?_
    refine pGo (s_aload_n dX2_unit_99 rfl (by decide)) ?_
    refine pGoE (y := (rd σ 35 4)) (s_getR pc3 fl_X2_53 dX2_unit_100 (ob_35 hst) rfl rfl) rfl ?_
    refine pGo (s_getF pc6 fl_X2_68 dX2_unit_103 (g13 c1).o0 rfl (by decide)) ?_
    refine pGo (s_iload_n dX2_unit_106 rfl) ?_
    refine pGoE (y := (rd σ ((rd σ 35 4) + 4) x3)) (s_iald dX2_unit_107 (g13 c1).o4 (bnd (g14 c1))) rfl ?_
    exact pEnd (r := (some (0, (rd σ ((rd σ 35 4) + 4) x3)))) dX2_unit_108 ⟨_, rfl⟩ (k6 c1)
  · refine pGo (s_tabin (off := 98) (tgt := 99) dX2_unit_1 g1 (by omega) (by omega) (by rw [c1]; rfl) (by decide)) ?_
    refine pGo (s_aload_n dX2_unit_99 rfl (by decide)) ?_
    refine pGoE (y := (rd σ 35 4)) (s_getR pc3 fl_X2_53 dX2_unit_100 (ob_35 hst) rfl rfl) rfl ?_
    refine pGo (s_getF pc6 fl_X2_68 dX2_unit_103 (g15 c1).o0 rfl (by decide)) ?_
    refine pGo (s_iload_n dX2_unit_106 rfl) ?_
    refine pGoE (y := (rd σ ((rd σ 35 4) + 4) x3)) (s_iald dX2_unit_107 (g15 c1).o4 (bnd (g16 c1))) rfl ?_
    exact pEnd (r := (some (0, (rd σ ((rd σ 35 4) + 4) x3)))) dX2_unit_108 ⟨_, rfl⟩ (k7 c1)
  · refine pGo (s_tabin (off := 98) (tgt := 99) dX2_unit_1 g1 (by omega) (by omega) (by rw [c1]; rfl) (by decide)) ?_
    refine pGo (s_aload_n dX2_unit_99 rfl (by decide)) ?_
    refine pGoE (y := (rd σ 35 4)) (s_getR pc3 fl_X2_53 dX2_unit_100 (ob_35 hst) rfl rfl) rfl ?_
    refine pGo (s_getF pc6 fl_X2_68 dX2_unit_103 (g17 c1).o0 rfl (by decide)) ?_
    refine pGo (s_iload_n dX2_unit_106 rfl) ?_
    refine pGoE (y := (rd σ ((rd σ 35 4) + 4) x3)) (s_iald dX2_unit_107 (g17 c1).o4 (bnd (g18 c1))) rfl ?_
    exact pEnd (r := (some (0, (rd σ ((rd σ 35 4) + 4) x3)))) dX2_unit_108 ⟨_, rfl⟩ (k8 c1)
  · refine pGo (s_tabin (off := 55) (tgt := 56) dX2_unit_1 g1 (by omega) (by omega) (by rw [c1]; rfl) (by decide)) ?_
    refine pGo (s_iload_n dX2_unit_56 rfl) ?_
    exact pEnd (r := (some (0, x4))) dX2_unit_57 ⟨_, rfl⟩ (k9 c1)
  · refine pGo (s_tabin (off := 57) (tgt := 58) dX2_unit_1 g1 (by omega) (by omega) (by rw [c1]; rfl) (by decide)) ?_
    refine pGo (s_aload_n dX2_unit_58 rfl (by decide)) ?_
    refine pGoE (y := 36) (s_getF pc3 fl_X2_45 dX2_unit_59 (ob_35 hst) rfl (by decide)) (by decide) ?_
    refine pGo (s_iload_n dX2_unit_62 rfl) ?_
    refine pGoE (y := (rd σ 36 x4)) (s_iald dX2_unit_63 (ob_36 hst) (bnd (g19 c1))) rfl ?_
    exact pEnd (r := (some (0, (rd σ 36 x4)))) dX2_unit_64 ⟨_, rfl⟩ (k10 c1)
  · refine pGo (s_tabin (off := 64) (tgt := 65) dX2_unit_1 g1 (by omega) (by omega) (by rw [c1]; rfl) (by decide)) ?_
    refine pGo (s_aload_n dX2_unit_65 rfl (by decide)) ?_
    refine pGoE (y := 37) (s_getF pc3 fl_X2_50 dX2_unit_66 (ob_35 hst) rfl (by decide)) (by decide) ?_
    refine pGo (s_iload_n dX2_unit_69 rfl) ?_
    refine pGoE (y := (rd σ 37 x4)) (s_iald dX2_unit_70 (ob_37 hst) (bnd (g20 c1))) rfl ?_
    exact pEnd (r := (some (0, (rd σ 37 x4)))) dX2_unit_71 ⟨_, rfl⟩ (k11 c1)
