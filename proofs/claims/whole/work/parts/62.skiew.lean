/-! walks: a skier, small functions -/
/-- what the small functions of a skier answer: a the skier -/
def vStay (s : pS) (a m : Int) : Bool := decide (480 ≤ m ∨ rd s (a + 1) m = -1)
def vLeads (s : pS) (a w m : Int) : Bool := decide (vBit (rd s (a + 2) m) w = true ∧ vBit (rd s (a + 4) (m + rd s (a + 5) w)) (rd s (rd s a 6 + 3) w) = true)
def vMay (s : pS) (a w m : Int) : Bool := if rd s (rd s a 6 + 8) w ≠ 0 then decide (rd s (a + 1) m = w) else decide (rd s (a + 1) m = -1 ∧ vFits s (rd s a 6) w (rd s a 0) = true ∧ vOpenX s w m = true)
def vStand (s : pS) (a p m : Int) : Bool := decide (i_and (i_and (rd s (a + 3) m) (rd s (a + 4) m)) (i_shl 1 p) ≠ 0)
def vStarts (s : pS) (sk w m : Int) : Bool := decide (m ≤ 480 ∧ vWay (rd s 68 30) (rd s 68 31) w = true ∧ ¬ (rd s 113 m = -2 ∨ (0 ≤ rd s 113 m ∧ rd s 113 m ≠ w)) ∧ m + minS s (rd s 107 sk) w ≤ rd s 114 (m + 1) ∧ (rd s 113 m = w ∨ (goS s (rd s 107 sk) w = true ∧ ¬ (w < 6 ∧ rd s 84 w = 1) ∧ vOpenM s w m = true)))
def vCanBe (s : pS) (p m : Int) : Bool := decide (rd s 115 (10 * m + p) ≠ 0 ∧ rd s 116 (10 * m + p) ≠ 0)
set_option maxRecDepth 100000 in
theorem g_X5_mayStay_0 {d : Nat} {σ : pS} {Q : Option pV → pS → Prop} (hd : 0 ≤ d) (hst : Stat σ) (a0 : Int) (x1 : Int) (Ia0 : Inst5 σ a0) (g1 : inR x1) (k1 : ∀ (c1 : 480 ≤ x1), Q (some (0, 1)) σ) (g2 : ∀ (c2 : x1 < 480), 0 ≤ x1 ∧ x1 < 480) (g3 : ∀ (c2 : x1 < 480), inR (rd σ (a0 + 1) x1)) (k2 : ∀ (c2 : x1 < 480) (c3 : (rd σ (a0 + 1) x1) ≠ (-1)), Q (some (0, 0)) σ) (k3 : ∀ (c2 : x1 < 480) (c4 : (rd σ (a0 + 1) x1) = (-1)), Q (some (0, 1)) σ) : pC mX5_mayStay d [(2, a0), (0, x1)] σ Q := by
  show pR mX5_mayStay d 0 [(2, a0), (0, x1)] [] σ Q
  refine pGo (s_iload_n dX5_mayStay_0 rfl) ?_
  refine pGo (s_sipush dX5_mayStay_1 (by decide)) ?_
  refine p_icge (tgt := 17) dX5_mayStay_4 (by decide) g1 (by decide) (fun c1 => ?_) (fun c2 => ?_)
  · refine pGo (s_iconst dX5_mayStay_17) ?_
    refine pGo (s_goto (tgt := 22) dX5_mayStay_18 (by decide)) ?_
    exact pEnd (r := (some (0, 1))) dX5_mayStay_22 (Or.inr rfl) (k1 c1)
  · refine pGo (s_aload_n dX5_mayStay_7 rfl Ia0.pos) ?_
    refine pGo (s_getF pc5 fl_X5_9 dX5_mayStay_8 Ia0.o0 rfl (by decide)) ?_
    refine pGo (s_iload_n dX5_mayStay_11 rfl) ?_
    refine pGoE (y := (rd σ (a0 + 1) x1)) (s_iald dX5_mayStay_12 Ia0.o1 (bnd (g2 c2))) rfl ?_
    refine pGo (s_iconst dX5_mayStay_13) ?_
    refine p_icne (tgt := 21) dX5_mayStay_14 (by decide) (g3 c2) (by decide) (fun c3 => ?_) (fun c4 => ?_)
    · refine pGo (s_iconst dX5_mayStay_21) ?_
      exact pEnd (r := (some (0, 0))) dX5_mayStay_22 (Or.inl rfl) (k2 c2 c3)
    · refine pGo (s_iconst dX5_mayStay_17) ?_
      refine pGo (s_goto (tgt := 22) dX5_mayStay_18 (by decide)) ?_
      exact pEnd (r := (some (0, 1))) dX5_mayStay_22 (Or.inr rfl) (k3 c2 c4)
set_option maxRecDepth 100000 in
theorem g_X5_leadsOn_0 {d : Nat} {σ : pS} {Q : Option pV → pS → Prop} (hd : 0 ≤ d) (hst : Stat σ) (a0 : Int) (x1 : Int) (x2 : Int) (Ia0 : Inst5 σ a0) (g1 : 0 ≤ x2 ∧ x2 < 480) (g2 : inR (i_and (i_shr (rd σ (a0 + 2) x2) x1) 1)) (g3 : ∀ (c1 : (i_and (i_shr (rd σ (a0 + 2) x2) x1) 1) ≠ 0), 0 ≤ x1 ∧ x1 < 17) (g4 : ∀ (c1 : (i_and (i_shr (rd σ (a0 + 2) x2) x1) 1) ≠ 0), 0 ≤ (x2 + (rd σ (a0 + 5) x1)) ∧ (x2 + (rd σ (a0 + 5) x1)) < 541) (g5 : ∀ (c1 : (i_and (i_shr (rd σ (a0 + 2) x2) x1) 1) ≠ 0), Inst6 σ (rd σ a0 6)) (g6 : ∀ (c1 : (i_and (i_shr (rd σ (a0 + 2) x2) x1) 1) ≠ 0), inR (i_and (i_shr (rd σ (a0 + 4) (x2 + (rd σ (a0 + 5) x1))) (rd σ ((rd σ a0 6) + 3) x1)) 1)) (k1 : ∀ (c1 : (i_and (i_shr (rd σ (a0 + 2) x2) x1) 1) ≠ 0) (c3 : (i_and (i_shr (rd σ (a0 + 4) (x2 + (rd σ (a0 + 5) x1))) (rd σ ((rd σ a0 6) + 3) x1)) 1) = 0), Q (some (0, 0)) σ) (k2 : ∀ (c1 : (i_and (i_shr (rd σ (a0 + 2) x2) x1) 1) ≠ 0) (c4 : (i_and (i_shr (rd σ (a0 + 4) (x2 + (rd σ (a0 + 5) x1))) (rd σ ((rd σ a0 6) + 3) x1)) 1) ≠ 0), Q (some (0, 1)) σ) (k3 : ∀ (c2 : (i_and (i_shr (rd σ (a0 + 2) x2) x1) 1) = 0), Q (some (0, 0)) σ) : pC mX5_leadsOn d [(2, a0), (0, x1), (0, x2)] σ Q := by
  show pR mX5_leadsOn d 0 [(2, a0), (0, x1), (0, x2)] [] σ Q
  refine pGo (s_aload_n dX5_leadsOn_0 rfl Ia0.pos) ?_
  refine pGo (s_getF pc5 fl_X5_15 dX5_leadsOn_1 Ia0.o0 rfl (by decide)) ?_
  refine pGo (s_iload_n dX5_leadsOn_4 rfl) ?_
  refine pGoE (y := (rd σ (a0 + 2) x2)) (s_iald dX5_leadsOn_5 Ia0.o2 (bnd g1)) rfl ?_
  refine pGo (s_iload_n dX5_leadsOn_6 rfl) ?_
  refine pGo (s_ishr dX5_leadsOn_7) ?_
  refine pGo (s_iconst dX5_leadsOn_8) ?_
  refine pGo (s_iand dX5_leadsOn_9) ?_
  refine p_ifne (tgt := 15) dX5_leadsOn_10 (by decide) g2 (fun c1 => ?_) (fun c2 => ?_)
  · refine pGo (s_aload_n dX5_leadsOn_15 rfl Ia0.pos) ?_
    refine pGo (s_getF pc5 fl_X5_21 dX5_leadsOn_16 Ia0.o0 rfl (by decide)) ?_
    refine pGo (s_iload_n dX5_leadsOn_19 rfl) ?_
    refine pGo (s_aload_n dX5_leadsOn_20 rfl Ia0.pos) ?_
    refine pGo (s_getF pc5 fl_X5_24 dX5_leadsOn_21 Ia0.o0 rfl (by decide)) ?_
    refine pGo (s_iload_n dX5_leadsOn_24 rfl) ?_
    refine pGoE (y := (rd σ (a0 + 5) x1)) (s_iald dX5_leadsOn_25 Ia0.o5 (bnd (g3 c1))) rfl ?_
    refine pGo (s_iadd dX5_leadsOn_26) ?_
    refine pGoE (y := (rd σ (a0 + 4) (x2 + (rd σ (a0 + 5) x1)))) (s_iald dX5_leadsOn_27 Ia0.o4 (bnd (g4 c1))) rfl ?_
    refine pGo (s_aload_n dX5_leadsOn_28 rfl Ia0.pos) ?_
    refine pGoE (y := (rd σ a0 6)) (s_getR pc5 fl_X5_34 dX5_leadsOn_29 Ia0.o0 rfl rfl) rfl ?_
    refine pGo (s_getF pc6 fl_X5_124 dX5_leadsOn_32 (g5 c1).o0 rfl (by decide)) ?_
    refine pGo (s_iload_n dX5_leadsOn_35 rfl) ?_
    refine pGoE (y := (rd σ ((rd σ a0 6) + 3) x1)) (s_iald dX5_leadsOn_36 (g5 c1).o3 (bnd (g3 c1))) rfl ?_
    refine pGo (s_ishr dX5_leadsOn_37) ?_
    refine pGo (s_iconst dX5_leadsOn_38) ?_
    refine pGo (s_iand dX5_leadsOn_39) ?_
    refine p_ifeq (tgt := 47) dX5_leadsOn_40 (by decide) (g6 c1) (fun c3 => ?_) (fun c4 => ?_)
    · refine pGo (s_iconst dX5_leadsOn_47) ?_
      exact pEnd (r := (some (0, 0))) dX5_leadsOn_48 (Or.inl rfl) (k1 c1 c3)
    · refine pGo (s_iconst dX5_leadsOn_43) ?_
      refine pGo (s_goto (tgt := 48) dX5_leadsOn_44 (by decide)) ?_
      exact pEnd (r := (some (0, 1))) dX5_leadsOn_48 (Or.inr rfl) (k2 c1 c4)
  · refine pGo (s_iconst dX5_leadsOn_13) ?_
    exact pEnd (r := (some (0, 0))) dX5_leadsOn_14 (Or.inl rfl) (k3 c2)
set_option maxRecDepth 100000 in
theorem g_X5_mayBegin_0 {d : Nat} {σ : pS} {Q : Option pV → pS → Prop} (hd : 3 ≤ d) (hst : Stat σ) (a0 : Int) (x2 : Int) (x3 : Int) (Ia0 : Inst5 σ a0) (g1 : Inst6 σ (rd σ a0 6)) (g2 : 0 ≤ x2 ∧ x2 < 17) (g3 : inR (rd σ ((rd σ a0 6) + 8) x2)) (g4 : ∀ (c1 : (rd σ ((rd σ a0 6) + 8) x2) = 0), 0 ≤ x3 ∧ x3 < 480) (g5 : ∀ (c1 : (rd σ ((rd σ a0 6) + 8) x2) = 0), inR (rd σ (a0 + 1) x3)) (k1 : ∀ (c1 : (rd σ ((rd σ a0 6) + 8) x2) = 0) (c3 : (rd σ (a0 + 1) x3) ≠ (-1)), Q (some (0, 0)) σ) (f1 : ∀ (c1 : (rd σ ((rd σ a0 6) + 8) x2) = 0) (c4 : (rd σ (a0 + 1) x3) = (-1)), pC mX6_fits 0 [(2, (rd σ a0 6)), (0, x2), (0, (rd σ a0 0))] σ (fun r τ => r = some (0, b2i (vFits σ (rd σ a0 6) x2 (rd σ a0 0))) ∧ τ = σ)) (k2 : ∀ (c1 : (rd σ ((rd σ a0 6) + 8) x2) = 0) (c4 : (rd σ (a0 + 1) x3) = (-1)) (c5 : (vFits σ (rd σ a0 6) x2 (rd σ a0 0)) = false), Q (some (0, 0)) σ) (f2 : ∀ (c1 : (rd σ ((rd σ a0 6) + 8) x2) = 0) (c4 : (rd σ (a0 + 1) x3) = (-1)) (c6 : (vFits σ (rd σ a0 6) x2 (rd σ a0 0)) = true), pC mX3_isOpen 2 [(2, 35), (0, x2), (0, x3)] σ (fun r τ => r = some (0, b2i (vOpenX σ x2 x3)) ∧ τ = σ)) (k3 : ∀ (c1 : (rd σ ((rd σ a0 6) + 8) x2) = 0) (c4 : (rd σ (a0 + 1) x3) = (-1)) (c6 : (vFits σ (rd σ a0 6) x2 (rd σ a0 0)) = true) (c7 : (vOpenX σ x2 x3) = false), Q (some (0, 0)) σ) (k4 : ∀ (c1 : (rd σ ((rd σ a0 6) + 8) x2) = 0) (c4 : (rd σ (a0 + 1) x3) = (-1)) (c6 : (vFits σ (rd σ a0 6) x2 (rd σ a0 0)) = true) (c8 : (vOpenX σ x2 x3) = true), Q (some (0, 1)) σ) (g6 : ∀ (c2 : (rd σ ((rd σ a0 6) + 8) x2) ≠ 0), 0 ≤ x3 ∧ x3 < 480) (g7 : ∀ (c2 : (rd σ ((rd σ a0 6) + 8) x2) ≠ 0), inR (rd σ (a0 + 1) x3)) (g8 : ∀ (c2 : (rd σ ((rd σ a0 6) + 8) x2) ≠ 0), inR x2) (k5 : ∀ (c2 : (rd σ ((rd σ a0 6) + 8) x2) ≠ 0) (c9 : (rd σ (a0 + 1) x3) ≠ x2), Q (some (0, 0)) σ) (k6 : ∀ (c2 : (rd σ ((rd σ a0 6) + 8) x2) ≠ 0) (c10 : (rd σ (a0 + 1) x3) = x2), Q (some (0, 1)) σ) : pC mX5_mayBegin d [(2, a0), (2, 35), (0, x2), (0, x3)] σ Q := by
  show pR mX5_mayBegin d 0 [(2, a0), (2, 35), (0, x2), (0, x3)] [] σ Q
  refine pGo (s_aload_n dX5_mayBegin_0 rfl Ia0.pos) ?_
  refine pGoE (y := (rd σ a0 6)) (s_getR pc5 fl_X5_34 dX5_mayBegin_1 Ia0.o0 rfl rfl) rfl ?_
  refine pGo (s_getF pc6 fl_X5_108 dX5_mayBegin_4 g1.o0 rfl (by decide)) ?_
  refine pGo (s_iload_n dX5_mayBegin_7 rfl) ?_
  refine pGoE (y := (rd σ ((rd σ a0 6) + 8) x2)) (s_zald dX5_mayBegin_8 g1.o8 (bnd g2)) rfl ?_
  refine p_ifeq (tgt := 28) dX5_mayBegin_9 (by decide) g3 (fun c1 => ?_) (fun c2 => ?_)
  · refine pGo (s_aload_n dX5_mayBegin_28 rfl Ia0.pos) ?_
    refine pGo (s_getF pc5 fl_X5_9 dX5_mayBegin_29 Ia0.o0 rfl (by decide)) ?_
    refine pGo (s_iload_n dX5_mayBegin_32 rfl) ?_
    refine pGoE (y := (rd σ (a0 + 1) x3)) (s_iald dX5_mayBegin_33 Ia0.o1 (bnd (g4 c1))) rfl ?_
    refine pGo (s_iconst dX5_mayBegin_34) ?_
    refine p_icne (tgt := 66) dX5_mayBegin_35 (by decide) (g5 c1) (by decide) (fun c3 => ?_) (fun c4 => ?_)
    · refine pGo (s_iconst dX5_mayBegin_66) ?_
      exact pEnd (r := (some (0, 0))) dX5_mayBegin_67 (Or.inl rfl) (k1 c1 c3)
    · refine pGo (s_aload_n dX5_mayBegin_38 rfl Ia0.pos) ?_
      refine pGoE (y := (rd σ a0 6)) (s_getR pc5 fl_X5_34 dX5_mayBegin_39 Ia0.o0 rfl rfl) rfl ?_
      refine pGo (s_iload_n dX5_mayBegin_42 rfl) ?_
      refine pGo (s_aload_n dX5_mayBegin_43 rfl Ia0.pos) ?_
      refine pGoE (y := (rd σ a0 0)) (s_getI pc5 fl_X5_31 dX5_mayBegin_44 Ia0.o0 rfl (by decide)) rfl ?_
      refine p_callV (As := [(0, x2), (0, (rd σ a0 0))]) (st := []) (n := 2) (d' := 0) (Q1 := (fun r τ => r = some (0, b2i (vFits σ (rd σ a0 6) x2 (rd σ a0 0))) ∧ τ = σ)) pc6 ok_X6_fits ml_X5_112 im_X6_fits se_X6_fits dX5_mayBegin_47 g1.o0 (pargs_of rfl) rfl (Nat.le_of_ble_eq_true rfl) (by omega) (f1 c1 c4) (fun r1 τ1 e1 q1 w1 => ?_)
      obtain ⟨rfl, t1⟩ := q1
      rw [t1]
      show pR mX5_mayBegin d 50 [(2, a0), (2, 35), (0, x2), (0, x3)] [(0, (b2i (vFits σ (rd σ a0 6) x2 (rd σ a0 0))))] σ Q
      refine p_ifeqB (tgt := 66) dX5_mayBegin_50 (by decide) (fun c5 => ?_) (fun c6 => ?_)
      · refine pGo (s_iconst dX5_mayBegin_66) ?_
        exact pEnd (r := (some (0, 0))) dX5_mayBegin_67 (Or.inl rfl) (k2 c1 c4 c5)
      · refine pGo (s_aload_n dX5_mayBegin_53 rfl (by decide)) ?_
        refine pGo (s_iload_n dX5_mayBegin_54 rfl) ?_
        refine pGo (s_iload_n dX5_mayBegin_55 rfl) ?_
        refine p_callV (As := [(0, x2), (0, x3)]) (st := []) (n := 2) (d' := 2) (Q1 := (fun r τ => r = some (0, b2i (vOpenX σ x2 x3)) ∧ τ = σ)) pc3 ok_X3_isOpen ml_X5_115 im_X3_isOpen se_X3_isOpen dX5_mayBegin_56 (ob_35 hst) (pargs_of rfl) rfl (Nat.le_of_ble_eq_true rfl) (by omega) (f2 c1 c4 c6) (fun r2 τ2 e2 q2 w2 => ?_)
        obtain ⟨rfl, t2⟩ := q2
        rw [t2]
        show pR mX5_mayBegin d 59 [(2, a0), (2, 35), (0, x2), (0, x3)] [(0, (b2i (vOpenX σ x2 x3)))] σ Q
        refine p_ifeqB (tgt := 66) dX5_mayBegin_59 (by decide) (fun c7 => ?_) (fun c8 => ?_)
        · refine pGo (s_iconst dX5_mayBegin_66) ?_
          exact pEnd (r := (some (0, 0))) dX5_mayBegin_67 (Or.inl rfl) (k3 c1 c4 c6 c7)
        · refine pGo (s_iconst dX5_mayBegin_62) ?_
          refine pGo (s_goto (tgt := 67) dX5_mayBegin_63 (by decide)) ?_
          exact pEnd (r := (some (0, 1))) dX5_mayBegin_67 (Or.inr rfl) (k4 c1 c4 c6 c8)
  · refine pGo (s_aload_n dX5_mayBegin_12 rfl Ia0.pos) ?_
    refine pGo (s_getF pc5 fl_X5_9 dX5_mayBegin_13 Ia0.o0 rfl (by decide)) ?_
    refine pGo (s_iload_n dX5_mayBegin_16 rfl) ?_
    refine pGoE (y := (rd σ (a0 + 1) x3)) (s_iald dX5_mayBegin_17 Ia0.o1 (bnd (g6 c2))) rfl ?_
    refine pGo (s_iload_n dX5_mayBegin_18 rfl) ?_
    refine p_icne (tgt := 26) dX5_mayBegin_19 (by decide) (g7 c2) (g8 c2) (fun c9 => ?_) (fun c10 => ?_)
    · refine pGo (s_iconst dX5_mayBegin_26) ?_
      exact pEnd (r := (some (0, 0))) dX5_mayBegin_27 (Or.inl rfl) (k5 c2 c9)
    · refine pGo (s_iconst dX5_mayBegin_22) ?_
      refine pGo (s_goto (tgt := 27) dX5_mayBegin_23 (by decide)) ?_
      exact pEnd (r := (some (0, 1))) dX5_mayBegin_27 (Or.inr rfl) (k6 c2 c10)
set_option maxRecDepth 100000 in
theorem g_X5_canStand_0 {d : Nat} {σ : pS} {Q : Option pV → pS → Prop} (hd : 0 ≤ d) (hst : Stat σ) (a0 : Int) (x1 : Int) (x2 : Int) (Ia0 : Inst5 σ a0) (g1 : 0 ≤ x2 ∧ x2 < 541) (g2 : inR (i_and (i_and (rd σ (a0 + 3) x2) (rd σ (a0 + 4) x2)) (i_shl 1 x1))) (k1 : ∀ (c1 : (i_and (i_and (rd σ (a0 + 3) x2) (rd σ (a0 + 4) x2)) (i_shl 1 x1)) = 0), Q (some (0, 0)) σ) (k2 : ∀ (c2 : (i_and (i_and (rd σ (a0 + 3) x2) (rd σ (a0 + 4) x2)) (i_shl 1 x1)) ≠ 0), Q (some (0, 1)) σ) : pC mX5_canStand d [(2, a0), (0, x1), (0, x2)] σ Q := by
  show pR mX5_canStand d 0 [(2, a0), (0, x1), (0, x2)] [] σ Q
  refine pGo (s_aload_n dX5_canStand_0 rfl Ia0.pos) ?_
  refine pGo (s_getF pc5 fl_X5_18 dX5_canStand_1 Ia0.o0 rfl (by decide)) ?_
  refine pGo (s_iload_n dX5_canStand_4 rfl) ?_
  refine pGoE (y := (rd σ (a0 + 3) x2)) (s_iald dX5_canStand_5 Ia0.o3 (bnd g1)) rfl ?_
  refine pGo (s_aload_n dX5_canStand_6 rfl Ia0.pos) ?_
  refine pGo (s_getF pc5 fl_X5_21 dX5_canStand_7 Ia0.o0 rfl (by decide)) ?_
  refine pGo (s_iload_n dX5_canStand_10 rfl) ?_
  refine pGoE (y := (rd σ (a0 + 4) x2)) (s_iald dX5_canStand_11 Ia0.o4 (bnd g1)) rfl ?_
  refine pGo (s_iand dX5_canStand_12) ?_
  refine pGo (s_iconst dX5_canStand_13) ?_
  refine pGo (s_iload_n dX5_canStand_14 rfl) ?_
  refine pGo (s_ishl dX5_canStand_15) ?_
  refine pGo (s_iand dX5_canStand_16) ?_
  refine p_ifeq (tgt := 24) dX5_canStand_17 (by decide) g2 (fun c1 => ?_) (fun c2 => ?_)
  · refine pGo (s_iconst dX5_canStand_24) ?_
    exact pEnd (r := (some (0, 0))) dX5_canStand_25 (Or.inl rfl) (k1 c1)
  · refine pGo (s_iconst dX5_canStand_20) ?_
    refine pGo (s_goto (tgt := 25) dX5_canStand_21 (by decide)) ?_
    exact pEnd (r := (some (0, 1))) dX5_canStand_25 (Or.inr rfl) (k2 c2)
set_option maxRecDepth 100000 in
theorem g_X11_starts_0 {d : Nat} {σ : pS} {Q : Option pV → pS → Prop} (hd : 2 ≤ d) (hst : Stat σ) (x1 : Int) (x2 : Int) (x3 : Int)  (g1 : inR x3) (k1 : ∀ (c1 : 480 < x3), Q (some (0, 0)) σ) (f1 : ∀ (c2 : x3 ≤ 480), pC mX11_isWay 0 [(2, 68), (0, x2)] σ (fun r τ => r = some (0, b2i (vWay (rd σ 68 30) (rd σ 68 31) x2)) ∧ τ = σ)) (g2 : ∀ (c2 : x3 ≤ 480) (c3 : (vWay (rd σ 68 30) (rd σ 68 31) x2) = true), 0 ≤ x3 ∧ x3 < 601) (g3 : ∀ (c2 : x3 ≤ 480) (c3 : (vWay (rd σ 68 30) (rd σ 68 31) x2) = true), inR (rd σ 113 x3)) (k2 : ∀ (c2 : x3 ≤ 480) (c3 : (vWay (rd σ 68 30) (rd σ 68 31) x2) = true) (c5 : (rd σ 113 x3) = (-2)), Q (some (0, 0)) σ) (g4 : ∀ (c2 : x3 ≤ 480) (c3 : (vWay (rd σ 68 30) (rd σ 68 31) x2) = true) (c6 : (rd σ 113 x3) ≠ (-2)) (c7 : (rd σ 113 x3) < 0), 0 ≤ (x3 + 1) ∧ (x3 + 1) < 602) (g5 : ∀ (c2 : x3 ≤ 480) (c3 : (vWay (rd σ 68 30) (rd σ 68 31) x2) = true) (c6 : (rd σ 113 x3) ≠ (-2)) (c7 : (rd σ 113 x3) < 0), 0 ≤ x1 ∧ x1 < 8) (f2 : ∀ (c2 : x3 ≤ 480) (c3 : (vWay (rd σ 68 30) (rd σ 68 31) x2) = true) (c6 : (rd σ 113 x3) ≠ (-2)) (c7 : (rd σ 113 x3) < 0), pC mX11_minutesOf 0 [(2, 68), (0, (rd σ 107 x1)), (0, x2)] σ (fun r τ => r = some (0, (minS σ (rd σ 107 x1) x2)) ∧ τ = σ)) (g6 : ∀ (c2 : x3 ≤ 480) (c3 : (vWay (rd σ 68 30) (rd σ 68 31) x2) = true) (c6 : (rd σ 113 x3) ≠ (-2)) (c7 : (rd σ 113 x3) < 0), inR (rd σ 114 (x3 + 1))) (g7 : ∀ (c2 : x3 ≤ 480) (c3 : (vWay (rd σ 68 30) (rd σ 68 31) x2) = true) (c6 : (rd σ 113 x3) ≠ (-2)) (c7 : (rd σ 113 x3) < 0), inR (x3 + (minS σ (rd σ 107 x1) x2))) (g8 : ∀ (c2 : x3 ≤ 480) (c3 : (vWay (rd σ 68 30) (rd σ 68 31) x2) = true) (c6 : (rd σ 113 x3) ≠ (-2)) (c7 : (rd σ 113 x3) < 0) (c9 : (x3 + (minS σ (rd σ 107 x1) x2)) ≤ (rd σ 114 (x3 + 1))), inR x2) (f3 : ∀ (c2 : x3 ≤ 480) (c3 : (vWay (rd σ 68 30) (rd σ 68 31) x2) = true) (c6 : (rd σ 113 x3) ≠ (-2)) (c7 : (rd σ 113 x3) < 0) (c9 : (x3 + (minS σ (rd σ 107 x1) x2)) ≤ (rd σ 114 (x3 + 1))) (c11 : (rd σ 113 x3) ≠ x2), pC mX11_canGo 1 [(2, 68), (0, (rd σ 107 x1)), (0, x2)] σ (fun r τ => r = some (0, b2i (goS σ (rd σ 107 x1) x2)) ∧ τ = σ)) (k3 : ∀ (c2 : x3 ≤ 480) (c3 : (vWay (rd σ 68 30) (rd σ 68 31) x2) = true) (c6 : (rd σ 113 x3) ≠ (-2)) (c7 : (rd σ 113 x3) < 0) (c9 : (x3 + (minS σ (rd σ 107 x1) x2)) ≤ (rd σ 114 (x3 + 1))) (c11 : (rd σ 113 x3) ≠ x2) (c13 : (goS σ (rd σ 107 x1) x2) = false), Q (some (0, 0)) σ) (f4 : ∀ (c2 : x3 ≤ 480) (c3 : (vWay (rd σ 68 30) (rd σ 68 31) x2) = true) (c6 : (rd σ 113 x3) ≠ (-2)) (c7 : (rd σ 113 x3) < 0) (c9 : (x3 + (minS σ (rd σ 107 x1) x2)) ≤ (rd σ 114 (x3 + 1))) (c11 : (rd σ 113 x3) ≠ x2) (c14 : (goS σ (rd σ 107 x1) x2) = true) (c15 : 6 ≤ x2), pC mX11_isOpenAt 1 [(2, 68), (0, x2), (0, x3)] σ (fun r τ => r = some (0, b2i (vOpenM σ x2 x3)) ∧ τ = σ)) (k4 : ∀ (c2 : x3 ≤ 480) (c3 : (vWay (rd σ 68 30) (rd σ 68 31) x2) = true) (c6 : (rd σ 113 x3) ≠ (-2)) (c7 : (rd σ 113 x3) < 0) (c9 : (x3 + (minS σ (rd σ 107 x1) x2)) ≤ (rd σ 114 (x3 + 1))) (c11 : (rd σ 113 x3) ≠ x2) (c14 : (goS σ (rd σ 107 x1) x2) = true) (c15 : 6 ≤ x2) (c17 : (vOpenM σ x2 x3) = false), Q (some (0, 0)) σ) (k5 : ∀ (c2 : x3 ≤ 480) (c3 : (vWay (rd σ 68 30) (rd σ 68 31) x2) = true) (c6 : (rd σ 113 x3) ≠ (-2)) (c7 : (rd σ 113 x3) < 0) (c9 : (x3 + (minS σ (rd σ 107 x1) x2)) ≤ (rd σ 114 (x3 + 1))) (c11 : (rd σ 113 x3) ≠ x2) (c14 : (goS σ (rd σ 107 x1) x2) = true) (c15 : 6 ≤ x2) (c18 : (vOpenM σ x2 x3) = true), Q (some (0, 1)) σ) (g9 : ∀ (c2 : x3 ≤ 480) (c3 : (vWay (rd σ 68 30) (rd σ 68 31) x2) = true) (c6 : (rd σ 113 x3) ≠ (-2)) (c7 : (rd σ 113 x3) < 0) (c9 : (x3 + (minS σ (rd σ 107 x1) x2)) ≤ (rd σ 114 (x3 + 1))) (c11 : (rd σ 113 x3) ≠ x2) (c14 : (goS σ (rd σ 107 x1) x2) = true) (c16 : x2 < 6), 0 ≤ x2 ∧ x2 < 6) (g10 : ∀ (c2 : x3 ≤ 480) (c3 : (vWay (rd σ 68 30) (rd σ 68 31) x2) = true) (c6 : (rd σ 113 x3) ≠ (-2)) (c7 : (rd σ 113 x3) < 0) (c9 : (x3 + (minS σ (rd σ 107 x1) x2)) ≤ (rd σ 114 (x3 + 1))) (c11 : (rd σ 113 x3) ≠ x2) (c14 : (goS σ (rd σ 107 x1) x2) = true) (c16 : x2 < 6), inR (rd σ 84 x2)) (k6 : ∀ (c2 : x3 ≤ 480) (c3 : (vWay (rd σ 68 30) (rd σ 68 31) x2) = true) (c6 : (rd σ 113 x3) ≠ (-2)) (c7 : (rd σ 113 x3) < 0) (c9 : (x3 + (minS σ (rd σ 107 x1) x2)) ≤ (rd σ 114 (x3 + 1))) (c11 : (rd σ 113 x3) ≠ x2) (c14 : (goS σ (rd σ 107 x1) x2) = true) (c16 : x2 < 6) (c19 : (rd σ 84 x2) ≠ 0), Q (some (0, 0)) σ) (f5 : ∀ (c2 : x3 ≤ 480) (c3 : (vWay (rd σ 68 30) (rd σ 68 31) x2) = true) (c6 : (rd σ 113 x3) ≠ (-2)) (c7 : (rd σ 113 x3) < 0) (c9 : (x3 + (minS σ (rd σ 107 x1) x2)) ≤ (rd σ 114 (x3 + 1))) (c11 : (rd σ 113 x3) ≠ x2) (c14 : (goS σ (rd σ 107 x1) x2) = true) (c16 : x2 < 6) (c20 : (rd σ 84 x2) = 0), pC mX11_isOpenAt 1 [(2, 68), (0, x2), (0, x3)] σ (fun r τ => r = some (0, b2i (vOpenM σ x2 x3)) ∧ τ = σ)) (k7 : ∀ (c2 : x3 ≤ 480) (c3 : (vWay (rd σ 68 30) (rd σ 68 31) x2) = true) (c6 : (rd σ 113 x3) ≠ (-2)) (c7 : (rd σ 113 x3) < 0) (c9 : (x3 + (minS σ (rd σ 107 x1) x2)) ≤ (rd σ 114 (x3 + 1))) (c11 : (rd σ 113 x3) ≠ x2) (c14 : (goS σ (rd σ 107 x1) x2) = true) (c16 : x2 < 6) (c20 : (rd σ 84 x2) = 0) (c21 : (vOpenM σ x2 x3) = false), Q (some (0, 0)) σ) (k8 : ∀ (c2 : x3 ≤ 480) (c3 : (vWay (rd σ 68 30) (rd σ 68 31) x2) = true) (c6 : (rd σ 113 x3) ≠ (-2)) (c7 : (rd σ 113 x3) < 0) (c9 : (x3 + (minS σ (rd σ 107 x1) x2)) ≤ (rd σ 114 (x3 + 1))) (c11 : (rd σ 113 x3) ≠ x2) (c14 : (goS σ (rd σ 107 x1) x2) = true) (c16 : x2 < 6) (c20 : (rd σ 84 x2) = 0) (c22 : (vOpenM σ x2 x3) = true), Q (some (0, 1)) σ) (k9 : ∀ (c2 : x3 ≤ 480) (c3 : (vWay (rd σ 68 30) (rd σ 68 31) x2) = true) (c6 : (rd σ 113 x3) ≠ (-2)) (c7 : (rd σ 113 x3) < 0) (c9 : (x3 + (minS σ (rd σ 107 x1) x2)) ≤ (rd σ 114 (x3 + 1))) (c12 : (rd σ 113 x3) = x2), Q (some (0, 1)) σ) (k10 : ∀ (c2 : x3 ≤ 480) (c3 : (vWay (rd σ 68 30) (rd σ 68 31) x2) = true) (c6 : (rd σ 113 x3) ≠ (-2)) (c7 : (rd σ 113 x3) < 0) (c10 : (rd σ 114 (x3 + 1)) < (x3 + (minS σ (rd σ 107 x1) x2))), Q (some (0, 0)) σ) (g11 : ∀ (c2 : x3 ≤ 480) (c3 : (vWay (rd σ 68 30) (rd σ 68 31) x2) = true) (c6 : (rd σ 113 x3) ≠ (-2)) (c8 : 0 ≤ (rd σ 113 x3)), inR x2) (g12 : ∀ (c2 : x3 ≤ 480) (c3 : (vWay (rd σ 68 30) (rd σ 68 31) x2) = true) (c6 : (rd σ 113 x3) ≠ (-2)) (c8 : 0 ≤ (rd σ 113 x3)) (c23 : (rd σ 113 x3) = x2), 0 ≤ (x3 + 1) ∧ (x3 + 1) < 602) (g13 : ∀ (c2 : x3 ≤ 480) (c3 : (vWay (rd σ 68 30) (rd σ 68 31) x2) = true) (c6 : (rd σ 113 x3) ≠ (-2)) (c8 : 0 ≤ (rd σ 113 x3)) (c23 : (rd σ 113 x3) = x2), 0 ≤ x1 ∧ x1 < 8) (f6 : ∀ (c2 : x3 ≤ 480) (c3 : (vWay (rd σ 68 30) (rd σ 68 31) x2) = true) (c6 : (rd σ 113 x3) ≠ (-2)) (c8 : 0 ≤ (rd σ 113 x3)) (c23 : (rd σ 113 x3) = x2), pC mX11_minutesOf 0 [(2, 68), (0, (rd σ 107 x1)), (0, x2)] σ (fun r τ => r = some (0, (minS σ (rd σ 107 x1) x2)) ∧ τ = σ)) (g14 : ∀ (c2 : x3 ≤ 480) (c3 : (vWay (rd σ 68 30) (rd σ 68 31) x2) = true) (c6 : (rd σ 113 x3) ≠ (-2)) (c8 : 0 ≤ (rd σ 113 x3)) (c23 : (rd σ 113 x3) = x2), inR (rd σ 114 (x3 + 1))) (g15 : ∀ (c2 : x3 ≤ 480) (c3 : (vWay (rd σ 68 30) (rd σ 68 31) x2) = true) (c6 : (rd σ 113 x3) ≠ (-2)) (c8 : 0 ≤ (rd σ 113 x3)) (c23 : (rd σ 113 x3) = x2), inR (x3 + (minS σ (rd σ 107 x1) x2))) (f7 : ∀ (c2 : x3 ≤ 480) (c3 : (vWay (rd σ 68 30) (rd σ 68 31) x2) = true) (c6 : (rd σ 113 x3) ≠ (-2)) (c8 : 0 ≤ (rd σ 113 x3)) (c23 : (rd σ 113 x3) = x2) (c25 : (x3 + (minS σ (rd σ 107 x1) x2)) ≤ (rd σ 114 (x3 + 1))) (c27 : (rd σ 113 x3) ≠ x2), pC mX11_canGo 1 [(2, 68), (0, (rd σ 107 x1)), (0, x2)] σ (fun r τ => r = some (0, b2i (goS σ (rd σ 107 x1) x2)) ∧ τ = σ)) (k11 : ∀ (c2 : x3 ≤ 480) (c3 : (vWay (rd σ 68 30) (rd σ 68 31) x2) = true) (c6 : (rd σ 113 x3) ≠ (-2)) (c8 : 0 ≤ (rd σ 113 x3)) (c23 : (rd σ 113 x3) = x2) (c25 : (x3 + (minS σ (rd σ 107 x1) x2)) ≤ (rd σ 114 (x3 + 1))) (c27 : (rd σ 113 x3) ≠ x2) (c29 : (goS σ (rd σ 107 x1) x2) = false), Q (some (0, 0)) σ) (f8 : ∀ (c2 : x3 ≤ 480) (c3 : (vWay (rd σ 68 30) (rd σ 68 31) x2) = true) (c6 : (rd σ 113 x3) ≠ (-2)) (c8 : 0 ≤ (rd σ 113 x3)) (c23 : (rd σ 113 x3) = x2) (c25 : (x3 + (minS σ (rd σ 107 x1) x2)) ≤ (rd σ 114 (x3 + 1))) (c27 : (rd σ 113 x3) ≠ x2) (c30 : (goS σ (rd σ 107 x1) x2) = true) (c31 : 6 ≤ x2), pC mX11_isOpenAt 1 [(2, 68), (0, x2), (0, x3)] σ (fun r τ => r = some (0, b2i (vOpenM σ x2 x3)) ∧ τ = σ)) (k12 : ∀ (c2 : x3 ≤ 480) (c3 : (vWay (rd σ 68 30) (rd σ 68 31) x2) = true) (c6 : (rd σ 113 x3) ≠ (-2)) (c8 : 0 ≤ (rd σ 113 x3)) (c23 : (rd σ 113 x3) = x2) (c25 : (x3 + (minS σ (rd σ 107 x1) x2)) ≤ (rd σ 114 (x3 + 1))) (c27 : (rd σ 113 x3) ≠ x2) (c30 : (goS σ (rd σ 107 x1) x2) = true) (c31 : 6 ≤ x2) (c33 : (vOpenM σ x2 x3) = false), Q (some (0, 0)) σ) (k13 : ∀ (c2 : x3 ≤ 480) (c3 : (vWay (rd σ 68 30) (rd σ 68 31) x2) = true) (c6 : (rd σ 113 x3) ≠ (-2)) (c8 : 0 ≤ (rd σ 113 x3)) (c23 : (rd σ 113 x3) = x2) (c25 : (x3 + (minS σ (rd σ 107 x1) x2)) ≤ (rd σ 114 (x3 + 1))) (c27 : (rd σ 113 x3) ≠ x2) (c30 : (goS σ (rd σ 107 x1) x2) = true) (c31 : 6 ≤ x2) (c34 : (vOpenM σ x2 x3) = true), Q (some (0, 1)) σ) (g16 : ∀ (c2 : x3 ≤ 480) (c3 : (vWay (rd σ 68 30) (rd σ 68 31) x2) = true) (c6 : (rd σ 113 x3) ≠ (-2)) (c8 : 0 ≤ (rd σ 113 x3)) (c23 : (rd σ 113 x3) = x2) (c25 : (x3 + (minS σ (rd σ 107 x1) x2)) ≤ (rd σ 114 (x3 + 1))) (c27 : (rd σ 113 x3) ≠ x2) (c30 : (goS σ (rd σ 107 x1) x2) = true) (c32 : x2 < 6), 0 ≤ x2 ∧ x2 < 6) (g17 : ∀ (c2 : x3 ≤ 480) (c3 : (vWay (rd σ 68 30) (rd σ 68 31) x2) = true) (c6 : (rd σ 113 x3) ≠ (-2)) (c8 : 0 ≤ (rd σ 113 x3)) (c23 : (rd σ 113 x3) = x2) (c25 : (x3 + (minS σ (rd σ 107 x1) x2)) ≤ (rd σ 114 (x3 + 1))) (c27 : (rd σ 113 x3) ≠ x2) (c30 : (goS σ (rd σ 107 x1) x2) = true) (c32 : x2 < 6), inR (rd σ 84 x2)) (k14 : ∀ (c2 : x3 ≤ 480) (c3 : (vWay (rd σ 68 30) (rd σ 68 31) x2) = true) (c6 : (rd σ 113 x3) ≠ (-2)) (c8 : 0 ≤ (rd σ 113 x3)) (c23 : (rd σ 113 x3) = x2) (c25 : (x3 + (minS σ (rd σ 107 x1) x2)) ≤ (rd σ 114 (x3 + 1))) (c27 : (rd σ 113 x3) ≠ x2) (c30 : (goS σ (rd σ 107 x1) x2) = true) (c32 : x2 < 6) (c35 : (rd σ 84 x2) ≠ 0), Q (some (0, 0)) σ) (f9 : ∀ (c2 : x3 ≤ 480) (c3 : (vWay (rd σ 68 30) (rd σ 68 31) x2) = true) (c6 : (rd σ 113 x3) ≠ (-2)) (c8 : 0 ≤ (rd σ 113 x3)) (c23 : (rd σ 113 x3) = x2) (c25 : (x3 + (minS σ (rd σ 107 x1) x2)) ≤ (rd σ 114 (x3 + 1))) (c27 : (rd σ 113 x3) ≠ x2) (c30 : (goS σ (rd σ 107 x1) x2) = true) (c32 : x2 < 6) (c36 : (rd σ 84 x2) = 0), pC mX11_isOpenAt 1 [(2, 68), (0, x2), (0, x3)] σ (fun r τ => r = some (0, b2i (vOpenM σ x2 x3)) ∧ τ = σ)) (k15 : ∀ (c2 : x3 ≤ 480) (c3 : (vWay (rd σ 68 30) (rd σ 68 31) x2) = true) (c6 : (rd σ 113 x3) ≠ (-2)) (c8 : 0 ≤ (rd σ 113 x3)) (c23 : (rd σ 113 x3) = x2) (c25 : (x3 + (minS σ (rd σ 107 x1) x2)) ≤ (rd σ 114 (x3 + 1))) (c27 : (rd σ 113 x3) ≠ x2) (c30 : (goS σ (rd σ 107 x1) x2) = true) (c32 : x2 < 6) (c36 : (rd σ 84 x2) = 0) (c37 : (vOpenM σ x2 x3) = false), Q (some (0, 0)) σ) (k16 : ∀ (c2 : x3 ≤ 480) (c3 : (vWay (rd σ 68 30) (rd σ 68 31) x2) = true) (c6 : (rd σ 113 x3) ≠ (-2)) (c8 : 0 ≤ (rd σ 113 x3)) (c23 : (rd σ 113 x3) = x2) (c25 : (x3 + (minS σ (rd σ 107 x1) x2)) ≤ (rd σ 114 (x3 + 1))) (c27 : (rd σ 113 x3) ≠ x2) (c30 : (goS σ (rd σ 107 x1) x2) = true) (c32 : x2 < 6) (c36 : (rd σ 84 x2) = 0) (c38 : (vOpenM σ x2 x3) = true), Q (some (0, 1)) σ) (k17 : ∀ (c2 : x3 ≤ 480) (c3 : (vWay (rd σ 68 30) (rd σ 68 31) x2) = true) (c6 : (rd σ 113 x3) ≠ (-2)) (c8 : 0 ≤ (rd σ 113 x3)) (c23 : (rd σ 113 x3) = x2) (c25 : (x3 + (minS σ (rd σ 107 x1) x2)) ≤ (rd σ 114 (x3 + 1))) (c28 : (rd σ 113 x3) = x2), Q (some (0, 1)) σ) (k18 : ∀ (c2 : x3 ≤ 480) (c3 : (vWay (rd σ 68 30) (rd σ 68 31) x2) = true) (c6 : (rd σ 113 x3) ≠ (-2)) (c8 : 0 ≤ (rd σ 113 x3)) (c23 : (rd σ 113 x3) = x2) (c26 : (rd σ 114 (x3 + 1)) < (x3 + (minS σ (rd σ 107 x1) x2))), Q (some (0, 0)) σ) (k19 : ∀ (c2 : x3 ≤ 480) (c3 : (vWay (rd σ 68 30) (rd σ 68 31) x2) = true) (c6 : (rd σ 113 x3) ≠ (-2)) (c8 : 0 ≤ (rd σ 113 x3)) (c24 : (rd σ 113 x3) ≠ x2), Q (some (0, 0)) σ) (k20 : ∀ (c2 : x3 ≤ 480) (c4 : (vWay (rd σ 68 30) (rd σ 68 31) x2) = false), Q (some (0, 0)) σ) : pC mX11_starts d [(2, 68), (0, x1), (0, x2), (0, x3)] σ Q := by
  show pR mX11_starts d 0 [(2, 68), (0, x1), (0, x2), (0, x3)] [] σ Q
  refine pGo (s_iload_n dX11_starts_0 rfl) ?_
  refine pGo (s_sipush dX11_starts_1 (by decide)) ?_
  refine p_icgt (tgt := 15) dX11_starts_4 (by decide) g1 (by decide) (fun c1 => ?_) (fun c2 => ?_)
  · refine pGo (s_iconst dX11_starts_15) ?_
    exact pEnd (r := (some (0, 0))) dX11_starts_16 (Or.inl rfl) (k1 c1)
  · refine pGo (s_aload_n dX11_starts_7 rfl (by decide)) ?_
    refine pGo (s_iload_n dX11_starts_8 rfl) ?_
    refine p_callV (As := [(0, x2)]) (st := []) (n := 1) (d' := 0) (Q1 := (fun r τ => r = some (0, b2i (vWay (rd σ 68 30) (rd σ 68 31) x2)) ∧ τ = σ)) pc11 ok_X11_isWay ml_X11_387 im_X11_isWay se_X11_isWay dX11_starts_9 (ob_68 hst) (pargs_of rfl) rfl (Nat.le_of_ble_eq_true rfl) (by omega) (f1 c2) (fun r1 τ1 e1 q1 w1 => ?_)
    obtain ⟨rfl, t1⟩ := q1
    rw [t1]
    show pR mX11_starts d 12 [(2, 68), (0, x1), (0, x2), (0, x3)] [(0, (b2i (vWay (rd σ 68 30) (rd σ 68 31) x2)))] σ Q
    refine p_ifneB (tgt := 17) dX11_starts_12 (by decide) (fun c3 => ?_) (fun c4 => ?_)
    · refine pGo (s_aload_n dX11_starts_17 rfl (by decide)) ?_
      refine pGoE (y := 113) (s_getF pc11 fl_X11_148 dX11_starts_18 (ob_68 hst) rfl (by decide)) (by decide) ?_
      refine pGo (s_iload_n dX11_starts_21 rfl) ?_
      refine pGoE (y := (rd σ 113 x3)) (s_iald dX11_starts_22 (ob_113 hst) (bnd (g2 c2 c3))) rfl ?_
      refine pGo (s_bipush dX11_starts_23 (by decide)) ?_
      refine p_iceq (tgt := 47) dX11_starts_25 (by decide) (g3 c2 c3) (by decide) (fun c5 => ?_) (fun c6 => ?_)
      · refine pGo (s_iconst dX11_starts_47) ?_
        exact pEnd (r := (some (0, 0))) dX11_starts_48 (Or.inl rfl) (k2 c2 c3 c5)
      · refine pGo (s_aload_n dX11_starts_28 rfl (by decide)) ?_
        refine pGoE (y := 113) (s_getF pc11 fl_X11_148 dX11_starts_29 (ob_68 hst) rfl (by decide)) (by decide) ?_
        refine pGo (s_iload_n dX11_starts_32 rfl) ?_
        refine pGoE (y := (rd σ 113 x3)) (s_iald dX11_starts_33 (ob_113 hst) (bnd (g2 c2 c3))) rfl ?_
        refine p_iflt (tgt := 49) dX11_starts_34 (by decide) (g3 c2 c3) (fun c7 => ?_) (fun c8 => ?_)
        · refine pGo (s_aload_n dX11_starts_49 rfl (by decide)) ?_
          refine pGoE (y := 114) (s_getF pc11 fl_X11_151 dX11_starts_50 (ob_68 hst) rfl (by decide)) (by decide) ?_
          refine pGo (s_iload_n dX11_starts_53 rfl) ?_
          refine pGo (s_iconst dX11_starts_54) ?_
          refine pGo (s_iadd dX11_starts_55) ?_
          refine pGoE (y := (rd σ 114 (x3 + 1))) (s_iald dX11_starts_56 (ob_114 hst) (bnd (g4 c2 c3 c6 c7))) rfl ?_
          refine pGo (s_iload_n dX11_starts_57 rfl) ?_
          refine pGo (s_aload_n dX11_starts_58 rfl (by decide)) ?_
          refine pGo (s_aload_n dX11_starts_59 rfl (by decide)) ?_
          refine pGoE (y := 107) (s_getF pc11 fl_X11_130 dX11_starts_60 (ob_68 hst) rfl (by decide)) (by decide) ?_
          refine pGo (s_iload_n dX11_starts_63 rfl) ?_
          refine pGoE (y := (rd σ 107 x1)) (s_iald dX11_starts_64 (ob_107 hst) (bnd (g5 c2 c3 c6 c7))) rfl ?_
          refine pGo (s_iload_n dX11_starts_65 rfl) ?_
          refine p_callV (As := [(0, (rd σ 107 x1)), (0, x2)]) (st := [(0, x3), (0, (rd σ 114 (x3 + 1)))]) (n := 2) (d' := 0) (Q1 := (fun r τ => r = some (0, (minS σ (rd σ 107 x1) x2)) ∧ τ = σ)) pc11 ok_X11_minutesOf ml_X11_486 im_X11_minutesOf se_X11_minutesOf dX11_starts_66 (ob_68 hst) (pargs_of rfl) rfl (Nat.le_of_ble_eq_true rfl) (by omega) (f2 c2 c3 c6 c7) (fun r2 τ2 e2 q2 w2 => ?_)
          obtain ⟨rfl, t2⟩ := q2
          rw [t2]
          show pR mX11_starts d 69 [(2, 68), (0, x1), (0, x2), (0, x3)] [(0, (minS σ (rd σ 107 x1) x2)), (0, x3), (0, (rd σ 114 (x3 + 1)))] σ Q
          refine pGo (s_iadd dX11_starts_69) ?_
          refine p_icge (tgt := 75) dX11_starts_70 (by decide) (g6 c2 c3 c6 c7) (g7 c2 c3 c6 c7) (fun c9 => ?_) (fun c10 => ?_)
          · refine pGo (s_aload_n dX11_starts_75 rfl (by decide)) ?_
            refine pGoE (y := 113) (s_getF pc11 fl_X11_148 dX11_starts_76 (ob_68 hst) rfl (by decide)) (by decide) ?_
            refine pGo (s_iload_n dX11_starts_79 rfl) ?_
            refine pGoE (y := (rd σ 113 x3)) (s_iald dX11_starts_80 (ob_113 hst) (bnd (g2 c2 c3))) rfl ?_
            refine pGo (s_iload_n dX11_starts_81 rfl) ?_
            refine p_icne (tgt := 87) dX11_starts_82 (by decide) (g3 c2 c3) (g8 c2 c3 c6 c7 c9) (fun c11 => ?_) (fun c12 => ?_)
            · refine pGo (s_aload_n dX11_starts_87 rfl (by decide)) ?_
              refine pGo (s_aload_n dX11_starts_88 rfl (by decide)) ?_
              refine pGoE (y := 107) (s_getF pc11 fl_X11_130 dX11_starts_89 (ob_68 hst) rfl (by decide)) (by decide) ?_
              refine pGo (s_iload_n dX11_starts_92 rfl) ?_
              refine pGoE (y := (rd σ 107 x1)) (s_iald dX11_starts_93 (ob_107 hst) (bnd (g5 c2 c3 c6 c7))) rfl ?_
              refine pGo (s_iload_n dX11_starts_94 rfl) ?_
              refine p_callV (As := [(0, (rd σ 107 x1)), (0, x2)]) (st := []) (n := 2) (d' := 1) (Q1 := (fun r τ => r = some (0, b2i (goS σ (rd σ 107 x1) x2)) ∧ τ = σ)) pc11 ok_X11_canGo ml_X11_483 im_X11_canGo se_X11_canGo dX11_starts_95 (ob_68 hst) (pargs_of rfl) rfl (Nat.le_of_ble_eq_true rfl) (by omega) (f3 c2 c3 c6 c7 c9 c11) (fun r3 τ3 e3 q3 w3 => ?_)
              obtain ⟨rfl, t3⟩ := q3
              rw [t3]
              show pR mX11_starts d 98 [(2, 68), (0, x1), (0, x2), (0, x3)] [(0, (b2i (goS σ (rd σ 107 x1) x2)))] σ Q
              refine p_ifeqB (tgt := 129) dX11_starts_98 (by decide) (fun c13 => ?_) (fun c14 => ?_)
              · refine pGo (s_iconst dX11_starts_129) ?_
                exact pEnd (r := (some (0, 0))) dX11_starts_130 (Or.inl rfl) (k3 c2 c3 c6 c7 c9 c11 c13)
              · refine pGo (s_iload_n dX11_starts_101 rfl) ?_
                refine pGo (s_bipush dX11_starts_102 (by decide)) ?_
                refine p_icge (tgt := 116) dX11_starts_104 (by decide) (g8 c2 c3 c6 c7 c9) (by decide) (fun c15 => ?_) (fun c16 => ?_)
                · refine pGo (s_aload_n dX11_starts_116 rfl (by decide)) ?_
                  refine pGo (s_iload_n dX11_starts_117 rfl) ?_
                  refine pGo (s_iload_n dX11_starts_118 rfl) ?_
                  refine p_callV (As := [(0, x2), (0, x3)]) (st := []) (n := 2) (d' := 1) (Q1 := (fun r τ => r = some (0, b2i (vOpenM σ x2 x3)) ∧ τ = σ)) pc11 ok_X11_isOpenAt ml_X11_474 im_X11_isOpenAt se_X11_isOpenAt dX11_starts_119 (ob_68 hst) (pargs_of rfl) rfl (Nat.le_of_ble_eq_true rfl) (by omega) (f4 c2 c3 c6 c7 c9 c11 c14 c15) (fun r4 τ4 e4 q4 w4 => ?_)
                  obtain ⟨rfl, t4⟩ := q4
                  rw [t4]
                  show pR mX11_starts d 122 [(2, 68), (0, x1), (0, x2), (0, x3)] [(0, (b2i (vOpenM σ x2 x3)))] σ Q
                  refine p_ifeqB (tgt := 129) dX11_starts_122 (by decide) (fun c17 => ?_) (fun c18 => ?_)
                  · refine pGo (s_iconst dX11_starts_129) ?_
                    exact pEnd (r := (some (0, 0))) dX11_starts_130 (Or.inl rfl) (k4 c2 c3 c6 c7 c9 c11 c14 c15 c17)
                  · refine pGo (s_iconst dX11_starts_125) ?_
                    refine pGo (s_goto (tgt := 130) dX11_starts_126 (by decide)) ?_
                    exact pEnd (r := (some (0, 1))) dX11_starts_130 (Or.inr rfl) (k5 c2 c3 c6 c7 c9 c11 c14 c15 c18)
                · refine pGo (s_aload_n dX11_starts_107 rfl (by decide)) ?_
                  refine pGoE (y := 84) (s_getF pc11 fl_X11_61 dX11_starts_108 (ob_68 hst) rfl (by decide)) (by decide) ?_
                  refine pGo (s_iload_n dX11_starts_111 rfl) ?_
                  refine pGoE (y := (rd σ 84 x2)) (s_zald dX11_starts_112 (ob_84 hst) (bnd (g9 c2 c3 c6 c7 c9 c11 c14 c16))) rfl ?_
                  refine p_ifne (tgt := 129) dX11_starts_113 (by decide) (g10 c2 c3 c6 c7 c9 c11 c14 c16) (fun c19 => ?_) (fun c20 => ?_)
                  · refine pGo (s_iconst dX11_starts_129) ?_
                    exact pEnd (r := (some (0, 0))) dX11_starts_130 (Or.inl rfl) (k6 c2 c3 c6 c7 c9 c11 c14 c16 c19)
                  · refine pGo (s_aload_n dX11_starts_116 rfl (by decide)) ?_
                    refine pGo (s_iload_n dX11_starts_117 rfl) ?_
                    refine pGo (s_iload_n dX11_starts_118 rfl) ?_
                    refine p_callV (As := [(0, x2), (0, x3)]) (st := []) (n := 2) (d' := 1) (Q1 := (fun r τ => r = some (0, b2i (vOpenM σ x2 x3)) ∧ τ = σ)) pc11 ok_X11_isOpenAt ml_X11_474 im_X11_isOpenAt se_X11_isOpenAt dX11_starts_119 (ob_68 hst) (pargs_of rfl) rfl (Nat.le_of_ble_eq_true rfl) (by omega) (f5 c2 c3 c6 c7 c9 c11 c14 c16 c20) (fun r5 τ5 e5 q5 w5 => ?_)
                    obtain ⟨rfl, t5⟩ := q5
                    rw [t5]
                    show pR mX11_starts d 122 [(2, 68), (0, x1), (0, x2), (0, x3)] [(0, (b2i (vOpenM σ x2 x3)))] σ Q
                    refine p_ifeqB (tgt := 129) dX11_starts_122 (by decide) (fun c21 => ?_) (fun c22 => ?_)
                    · refine pGo (s_iconst dX11_starts_129) ?_
                      exact pEnd (r := (some (0, 0))) dX11_starts_130 (Or.inl rfl) (k7 c2 c3 c6 c7 c9 c11 c14 c16 c20 c21)
                    · refine pGo (s_iconst dX11_starts_125) ?_
                      refine pGo (s_goto (tgt := 130) dX11_starts_126 (by decide)) ?_
                      exact pEnd (r := (some (0, 1))) dX11_starts_130 (Or.inr rfl) (k8 c2 c3 c6 c7 c9 c11 c14 c16 c20 c22)
            · refine pGo (s_iconst dX11_starts_85) ?_
              exact pEnd (r := (some (0, 1))) dX11_starts_86 (Or.inr rfl) (k9 c2 c3 c6 c7 c9 c12)
          · refine pGo (s_iconst dX11_starts_73) ?_
            exact pEnd (r := (some (0, 0))) dX11_starts_74 (Or.inl rfl) (k10 c2 c3 c6 c7 c10)
        · refine pGo (s_aload_n dX11_starts_37 rfl (by decide)) ?_
          refine pGoE (y := 113) (s_getF pc11 fl_X11_148 dX11_starts_38 (ob_68 hst) rfl (by decide)) (by decide) ?_
          refine pGo (s_iload_n dX11_starts_41 rfl) ?_
          refine pGoE (y := (rd σ 113 x3)) (s_iald dX11_starts_42 (ob_113 hst) (bnd (g2 c2 c3))) rfl ?_
          refine pGo (s_iload_n dX11_starts_43 rfl) ?_
          refine p_iceq (tgt := 49) dX11_starts_44 (by decide) (g3 c2 c3) (g11 c2 c3 c6 c8) (fun c23 => ?_) (fun c24 => ?_)
          · refine pGo (s_aload_n dX11_starts_49 rfl (by decide)) ?_
            refine pGoE (y := 114) (s_getF pc11 fl_X11_151 dX11_starts_50 (ob_68 hst) rfl (by decide)) (by decide) ?_
            refine pGo (s_iload_n dX11_starts_53 rfl) ?_
            refine pGo (s_iconst dX11_starts_54) ?_
            refine pGo (s_iadd dX11_starts_55) ?_
            refine pGoE (y := (rd σ 114 (x3 + 1))) (s_iald dX11_starts_56 (ob_114 hst) (bnd (g12 c2 c3 c6 c8 c23))) rfl ?_
            refine pGo (s_iload_n dX11_starts_57 rfl) ?_
            refine pGo (s_aload_n dX11_starts_58 rfl (by decide)) ?_
            refine pGo (s_aload_n dX11_starts_59 rfl (by decide)) ?_
            refine pGoE (y := 107) (s_getF pc11 fl_X11_130 dX11_starts_60 (ob_68 hst) rfl (by decide)) (by decide) ?_
            refine pGo (s_iload_n dX11_starts_63 rfl) ?_
            refine pGoE (y := (rd σ 107 x1)) (s_iald dX11_starts_64 (ob_107 hst) (bnd (g13 c2 c3 c6 c8 c23))) rfl ?_
            refine pGo (s_iload_n dX11_starts_65 rfl) ?_
            refine p_callV (As := [(0, (rd σ 107 x1)), (0, x2)]) (st := [(0, x3), (0, (rd σ 114 (x3 + 1)))]) (n := 2) (d' := 0) (Q1 := (fun r τ => r = some (0, (minS σ (rd σ 107 x1) x2)) ∧ τ = σ)) pc11 ok_X11_minutesOf ml_X11_486 im_X11_minutesOf se_X11_minutesOf dX11_starts_66 (ob_68 hst) (pargs_of rfl) rfl (Nat.le_of_ble_eq_true rfl) (by omega) (f6 c2 c3 c6 c8 c23) (fun r6 τ6 e6 q6 w6 => ?_)
            obtain ⟨rfl, t6⟩ := q6
            rw [t6]
            show pR mX11_starts d 69 [(2, 68), (0, x1), (0, x2), (0, x3)] [(0, (minS σ (rd σ 107 x1) x2)), (0, x3), (0, (rd σ 114 (x3 + 1)))] σ Q
            refine pGo (s_iadd dX11_starts_69) ?_
            refine p_icge (tgt := 75) dX11_starts_70 (by decide) (g14 c2 c3 c6 c8 c23) (g15 c2 c3 c6 c8 c23) (fun c25 => ?_) (fun c26 => ?_)
            · refine pGo (s_aload_n dX11_starts_75 rfl (by decide)) ?_
              refine pGoE (y := 113) (s_getF pc11 fl_X11_148 dX11_starts_76 (ob_68 hst) rfl (by decide)) (by decide) ?_
              refine pGo (s_iload_n dX11_starts_79 rfl) ?_
              refine pGoE (y := (rd σ 113 x3)) (s_iald dX11_starts_80 (ob_113 hst) (bnd (g2 c2 c3))) rfl ?_
              refine pGo (s_iload_n dX11_starts_81 rfl) ?_
              refine p_icne (tgt := 87) dX11_starts_82 (by decide) (g3 c2 c3) (g11 c2 c3 c6 c8) (fun c27 => ?_) (fun c28 => ?_)
              · refine pGo (s_aload_n dX11_starts_87 rfl (by decide)) ?_
                refine pGo (s_aload_n dX11_starts_88 rfl (by decide)) ?_
                refine pGoE (y := 107) (s_getF pc11 fl_X11_130 dX11_starts_89 (ob_68 hst) rfl (by decide)) (by decide) ?_
                refine pGo (s_iload_n dX11_starts_92 rfl) ?_
                refine pGoE (y := (rd σ 107 x1)) (s_iald dX11_starts_93 (ob_107 hst) (bnd (g13 c2 c3 c6 c8 c23))) rfl ?_
                refine pGo (s_iload_n dX11_starts_94 rfl) ?_
                refine p_callV (As := [(0, (rd σ 107 x1)), (0, x2)]) (st := []) (n := 2) (d' := 1) (Q1 := (fun r τ => r = some (0, b2i (goS σ (rd σ 107 x1) x2)) ∧ τ = σ)) pc11 ok_X11_canGo ml_X11_483 im_X11_canGo se_X11_canGo dX11_starts_95 (ob_68 hst) (pargs_of rfl) rfl (Nat.le_of_ble_eq_true rfl) (by omega) (f7 c2 c3 c6 c8 c23 c25 c27) (fun r7 τ7 e7 q7 w7 => ?_)
                obtain ⟨rfl, t7⟩ := q7
                rw [t7]
                show pR mX11_starts d 98 [(2, 68), (0, x1), (0, x2), (0, x3)] [(0, (b2i (goS σ (rd σ 107 x1) x2)))] σ Q
                refine p_ifeqB (tgt := 129) dX11_starts_98 (by decide) (fun c29 => ?_) (fun c30 => ?_)
                · refine pGo (s_iconst dX11_starts_129) ?_
                  exact pEnd (r := (some (0, 0))) dX11_starts_130 (Or.inl rfl) (k11 c2 c3 c6 c8 c23 c25 c27 c29)
                · refine pGo (s_iload_n dX11_starts_101 rfl) ?_
                  refine pGo (s_bipush dX11_starts_102 (by decide)) ?_
                  refine p_icge (tgt := 116) dX11_starts_104 (by decide) (g11 c2 c3 c6 c8) (by decide) (fun c31 => ?_) (fun c32 => ?_)
                  · refine pGo (s_aload_n dX11_starts_116 rfl (by decide)) ?_
                    refine pGo (s_iload_n dX11_starts_117 rfl) ?_
                    refine pGo (s_iload_n dX11_starts_118 rfl) ?_
                    refine p_callV (As := [(0, x2), (0, x3)]) (st := []) (n := 2) (d' := 1) (Q1 := (fun r τ => r = some (0, b2i (vOpenM σ x2 x3)) ∧ τ = σ)) pc11 ok_X11_isOpenAt ml_X11_474 im_X11_isOpenAt se_X11_isOpenAt dX11_starts_119 (ob_68 hst) (pargs_of rfl) rfl (Nat.le_of_ble_eq_true rfl) (by omega) (f8 c2 c3 c6 c8 c23 c25 c27 c30 c31) (fun r8 τ8 e8 q8 w8 => ?_)
                    obtain ⟨rfl, t8⟩ := q8
                    rw [t8]
                    show pR mX11_starts d 122 [(2, 68), (0, x1), (0, x2), (0, x3)] [(0, (b2i (vOpenM σ x2 x3)))] σ Q
                    refine p_ifeqB (tgt := 129) dX11_starts_122 (by decide) (fun c33 => ?_) (fun c34 => ?_)
                    · refine pGo (s_iconst dX11_starts_129) ?_
                      exact pEnd (r := (some (0, 0))) dX11_starts_130 (Or.inl rfl) (k12 c2 c3 c6 c8 c23 c25 c27 c30 c31 c33)
                    · refine pGo (s_iconst dX11_starts_125) ?_
                      refine pGo (s_goto (tgt := 130) dX11_starts_126 (by decide)) ?_
                      exact pEnd (r := (some (0, 1))) dX11_starts_130 (Or.inr rfl) (k13 c2 c3 c6 c8 c23 c25 c27 c30 c31 c34)
                  · refine pGo (s_aload_n dX11_starts_107 rfl (by decide)) ?_
                    refine pGoE (y := 84) (s_getF pc11 fl_X11_61 dX11_starts_108 (ob_68 hst) rfl (by decide)) (by decide) ?_
                    refine pGo (s_iload_n dX11_starts_111 rfl) ?_
                    refine pGoE (y := (rd σ 84 x2)) (s_zald dX11_starts_112 (ob_84 hst) (bnd (g16 c2 c3 c6 c8 c23 c25 c27 c30 c32))) rfl ?_
                    refine p_ifne (tgt := 129) dX11_starts_113 (by decide) (g17 c2 c3 c6 c8 c23 c25 c27 c30 c32) (fun c35 => ?_) (fun c36 => ?_)
                    · refine pGo (s_iconst dX11_starts_129) ?_
                      exact pEnd (r := (some (0, 0))) dX11_starts_130 (Or.inl rfl) (k14 c2 c3 c6 c8 c23 c25 c27 c30 c32 c35)
                    · refine pGo (s_aload_n dX11_starts_116 rfl (by decide)) ?_
                      refine pGo (s_iload_n dX11_starts_117 rfl) ?_
                      refine pGo (s_iload_n dX11_starts_118 rfl) ?_
                      refine p_callV (As := [(0, x2), (0, x3)]) (st := []) (n := 2) (d' := 1) (Q1 := (fun r τ => r = some (0, b2i (vOpenM σ x2 x3)) ∧ τ = σ)) pc11 ok_X11_isOpenAt ml_X11_474 im_X11_isOpenAt se_X11_isOpenAt dX11_starts_119 (ob_68 hst) (pargs_of rfl) rfl (Nat.le_of_ble_eq_true rfl) (by omega) (f9 c2 c3 c6 c8 c23 c25 c27 c30 c32 c36) (fun r9 τ9 e9 q9 w9 => ?_)
                      obtain ⟨rfl, t9⟩ := q9
                      rw [t9]
                      show pR mX11_starts d 122 [(2, 68), (0, x1), (0, x2), (0, x3)] [(0, (b2i (vOpenM σ x2 x3)))] σ Q
                      refine p_ifeqB (tgt := 129) dX11_starts_122 (by decide) (fun c37 => ?_) (fun c38 => ?_)
                      · refine pGo (s_iconst dX11_starts_129) ?_
                        exact pEnd (r := (some (0, 0))) dX11_starts_130 (Or.inl rfl) (k15 c2 c3 c6 c8 c23 c25 c27 c30 c32 c36 c37)
                      · refine pGo (s_iconst dX11_starts_125) ?_
                        refine pGo (s_goto (tgt := 130) dX11_starts_126 (by decide)) ?_
                        exact pEnd (r := (some (0, 1))) dX11_starts_130 (Or.inr rfl) (k16 c2 c3 c6 c8 c23 c25 c27 c30 c32 c36 c38)
              · refine pGo (s_iconst dX11_starts_85) ?_
                exact pEnd (r := (some (0, 1))) dX11_starts_86 (Or.inr rfl) (k17 c2 c3 c6 c8 c23 c25 c28)
            · refine pGo (s_iconst dX11_starts_73) ?_
              exact pEnd (r := (some (0, 0))) dX11_starts_74 (Or.inl rfl) (k18 c2 c3 c6 c8 c23 c26)
          · refine pGo (s_iconst dX11_starts_47) ?_
            exact pEnd (r := (some (0, 0))) dX11_starts_48 (Or.inl rfl) (k19 c2 c3 c6 c8 c24)
    · refine pGo (s_iconst dX11_starts_15) ?_
      exact pEnd (r := (some (0, 0))) dX11_starts_16 (Or.inl rfl) (k20 c2 c4)
set_option maxRecDepth 100000 in
theorem g_X11_canBe_0 {d : Nat} {σ : pS} {Q : Option pV → pS → Prop} (hd : 0 ≤ d) (hst : Stat σ) (x1 : Int) (x2 : Int)  (g1 : 0 ≤ ((10 * x2) + x1) ∧ ((10 * x2) + x1) < 6010) (g2 : inR (rd σ 115 ((10 * x2) + x1))) (k1 : ∀ (c1 : (rd σ 115 ((10 * x2) + x1)) = 0), Q (some (0, 0)) σ) (g3 : ∀ (c2 : (rd σ 115 ((10 * x2) + x1)) ≠ 0), inR (rd σ 116 ((10 * x2) + x1))) (k2 : ∀ (c2 : (rd σ 115 ((10 * x2) + x1)) ≠ 0) (c3 : (rd σ 116 ((10 * x2) + x1)) = 0), Q (some (0, 0)) σ) (k3 : ∀ (c2 : (rd σ 115 ((10 * x2) + x1)) ≠ 0) (c4 : (rd σ 116 ((10 * x2) + x1)) ≠ 0), Q (some (0, 1)) σ) : pC mX11_canBe d [(2, 68), (0, x1), (0, x2)] σ Q := by
  show pR mX11_canBe d 0 [(2, 68), (0, x1), (0, x2)] [] σ Q
  refine pGo (s_aload_n dX11_canBe_0 rfl (by decide)) ?_
  refine pGoE (y := 115) (s_getF pc11 fl_X11_154 dX11_canBe_1 (ob_68 hst) rfl (by decide)) (by decide) ?_
  refine pGo (s_bipush dX11_canBe_4 (by decide)) ?_
  refine pGo (s_iload_n dX11_canBe_6 rfl) ?_
  refine pGo (s_imul dX11_canBe_7) ?_
  refine pGo (s_iload_n dX11_canBe_8 rfl) ?_
  refine pGo (s_iadd dX11_canBe_9) ?_
  refine pGoE (y := (rd σ 115 ((10 * x2) + x1))) (s_zald dX11_canBe_10 (ob_115 hst) (bnd g1)) rfl ?_
  refine p_ifeq (tgt := 32) dX11_canBe_11 (by decide) g2 (fun c1 => ?_) (fun c2 => ?_)
  · refine pGo (s_iconst dX11_canBe_32) ?_
    exact pEnd (r := (some (0, 0))) dX11_canBe_33 (Or.inl rfl) (k1 c1)
  · refine pGo (s_aload_n dX11_canBe_14 rfl (by decide)) ?_
    refine pGoE (y := 116) (s_getF pc11 fl_X11_157 dX11_canBe_15 (ob_68 hst) rfl (by decide)) (by decide) ?_
    refine pGo (s_bipush dX11_canBe_18 (by decide)) ?_
    refine pGo (s_iload_n dX11_canBe_20 rfl) ?_
    refine pGo (s_imul dX11_canBe_21) ?_
    refine pGo (s_iload_n dX11_canBe_22 rfl) ?_
    refine pGo (s_iadd dX11_canBe_23) ?_
    refine pGoE (y := (rd σ 116 ((10 * x2) + x1))) (s_zald dX11_canBe_24 (ob_116 hst) (bnd g1)) rfl ?_
    refine p_ifeq (tgt := 32) dX11_canBe_25 (by decide) (g3 c2) (fun c3 => ?_) (fun c4 => ?_)
    · refine pGo (s_iconst dX11_canBe_32) ?_
      exact pEnd (r := (some (0, 0))) dX11_canBe_33 (Or.inl rfl) (k2 c2 c3)
    · refine pGo (s_iconst dX11_canBe_28) ?_
      refine pGo (s_goto (tgt := 33) dX11_canBe_29 (by decide)) ?_
      exact pEnd (r := (some (0, 1))) dX11_canBe_33 (Or.inr rfl) (k3 c2 c4)
