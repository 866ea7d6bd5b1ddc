/-! walks: weather and law in force -/
set_option maxRecDepth 100000 in
theorem g_X3_firstOpen_0 {d : Nat} {σ : pS} {Q : Option pV → pS → Prop} (hd : 2 ≤ d) (hst : Stat σ) (x1 : Int) (x2 : Int)  (g1 : Inst6 σ (rd σ 35 4)) (g2 : 0 ≤ x1 ∧ x1 < 17) (g3 : inR x2) (g4 : inR (rd σ ((rd σ 35 4) + 6) x1)) (k1 : pR mX3_firstOpen d 17 [(2, 35), (0, x1), (0, x2), (0, (max x2 (rd σ ((rd σ 35 4) + 6) x1))), (0, 0)] [] σ Q) : pC mX3_firstOpen d [(2, 35), (0, x1), (0, x2)] σ Q := by
  show pR mX3_firstOpen d 0 [(2, 35), (0, x1), (0, x2), (9, 0), (9, 0)] [] σ Q
  refine pGo (s_iload_n dX3_firstOpen_0 rfl) ?_
  refine pGo (s_aload_n dX3_firstOpen_1 rfl (by decide)) ?_
  refine pGoE (y := (rd σ 35 4)) (s_getR pc3 fl_X3_28 dX3_firstOpen_2 (ob_35 hst) rfl rfl) rfl ?_
  refine pGo (s_getF pc6 fl_X3_79 dX3_firstOpen_5 g1.o0 rfl (by decide)) ?_
  refine pGo (s_iload_n dX3_firstOpen_8 rfl) ?_
  refine pGoE (y := (rd σ ((rd σ 35 4) + 6) x1)) (s_iald dX3_firstOpen_9 g1.o6 (bnd g2)) rfl ?_
  refine pGo (s_mmax (by omega) mj_X3_88 (Nat.le_of_ble_eq_true rfl) dX3_firstOpen_10 g3 g4) ?_
  refine pGoL (ls2 := [(2, 35), (0, x1), (0, x2), (0, (max x2 (rd σ ((rd σ 35 4) + 6) x1))), (9, 0)]) (s_istore_n dX3_firstOpen_13 (by decide) rfl) rfl ?_
  refine pGo (s_iconst dX3_firstOpen_14) ?_
  refine pGoL (ls2 := [(2, 35), (0, x1), (0, x2), (0, (max x2 (rd σ ((rd σ 35 4) + 6) x1))), (0, 0)]) (s_istore dX3_firstOpen_15 (by decide) rfl) rfl ?_
  exact k1
set_option maxRecDepth 100000 in
theorem g_X3_firstOpen_17 {d : Nat} {σ : pS} {Q : Option pV → pS → Prop} (hd : 2 ≤ d) (hst : Stat σ) (x1 : Int) (x2 : Int) (x3 : Int) (x4 : Int)  (g1 : inR x4) (k1 : ∀ (c1 : 8 < x4), Q (some (0, (-1))) σ) (g2 : ∀ (c2 : x4 ≤ 8), Inst6 σ (rd σ 35 4)) (g3 : ∀ (c2 : x4 ≤ 8), 0 ≤ x1 ∧ x1 < 17) (g4 : ∀ (c2 : x4 ≤ 8), inR x3) (g5 : ∀ (c2 : x4 ≤ 8), inR (rd σ ((rd σ 35 4) + 7) x1)) (k2 : ∀ (c2 : x4 ≤ 8) (c3 : (rd σ ((rd σ 35 4) + 7) x1) ≤ x3), Q (some (0, (-1))) σ) (f1 : ∀ (c2 : x4 ≤ 8) (c4 : x3 < (rd σ ((rd σ 35 4) + 7) x1)), pC mX3_isShut 1 [(2, 35), (0, x1), (0, x3)] σ (fun r τ => r = some (0, b2i (vShutAt σ x1 x3)) ∧ τ = σ)) (f2 : ∀ (c2 : x4 ≤ 8) (c4 : x3 < (rd σ ((rd σ 35 4) + 7) x1)) (c5 : (vShutAt σ x1 x3) = true), pC mX10_hourOf 0 [(0, x3)] σ (fun r τ => r = some (0, (vHour x3)) ∧ τ = σ)) (k3 : ∀ (c2 : x4 ≤ 8) (c4 : x3 < (rd σ ((rd σ 35 4) + 7) x1)) (c5 : (vShutAt σ x1 x3) = true), pR mX3_firstOpen d 17 [(2, 35), (0, x1), (0, x2), (0, (((vHour x3) + 1) * 60)), (0, (x4 + 1))] [] σ Q) (k4 : ∀ (c2 : x4 ≤ 8) (c4 : x3 < (rd σ ((rd σ 35 4) + 7) x1)) (c6 : (vShutAt σ x1 x3) = false), Q (some (0, x3)) σ) : pR mX3_firstOpen d 17 [(2, 35), (0, x1), (0, x2), (0, x3), (0, x4)] [] σ Q := by
  refine pGo (s_iload dX3_firstOpen_17 rfl) ?_
  refine pGo (s_bipush dX3_firstOpen_19 (by decide)) ?_
  refine p_icgt (tgt := 64) dX3_firstOpen_21 (by decide) g1 (by decide) (fun c1 => ?_) (fun c2 => ?_)
  · refine pGo (s_iconst dX3_firstOpen_64) ?_
    exact pEnd (r := (some (0, (-1)))) dX3_firstOpen_65 ⟨_, rfl⟩ (k1 c1)
  · refine pGo (s_iload_n dX3_firstOpen_24 rfl) ?_
    refine pGo (s_aload_n dX3_firstOpen_25 rfl (by decide)) ?_
    refine pGoE (y := (rd σ 35 4)) (s_getR pc3 fl_X3_28 dX3_firstOpen_26 (ob_35 hst) rfl rfl) rfl ?_
    refine pGo (s_getF pc6 fl_X3_82 dX3_firstOpen_29 (g2 c2).o0 rfl (by decide)) ?_
    refine pGo (s_iload_n dX3_firstOpen_32 rfl) ?_
    refine pGoE (y := (rd σ ((rd σ 35 4) + 7) x1)) (s_iald dX3_firstOpen_33 (g2 c2).o7 (bnd (g3 c2))) rfl ?_
    refine p_icge (tgt := 64) dX3_firstOpen_34 (by decide) (g4 c2) (g5 c2) (fun c3 => ?_) (fun c4 => ?_)
    · refine pGo (s_iconst dX3_firstOpen_64) ?_
      exact pEnd (r := (some (0, (-1)))) dX3_firstOpen_65 ⟨_, rfl⟩ (k2 c2 c3)
    · refine pGo (s_aload_n dX3_firstOpen_37 rfl (by decide)) ?_
      refine pGo (s_iload_n dX3_firstOpen_38 rfl) ?_
      refine pGo (s_iload_n dX3_firstOpen_39 rfl) ?_
      refine p_callV (As := [(0, x1), (0, x3)]) (st := []) (n := 2) (d' := 1) (Q1 := (fun r τ => r = some (0, b2i (vShutAt σ x1 x3)) ∧ τ = σ)) pc3 ok_X3_isShut ml_X3_85 im_X3_isShut se_X3_isShut dX3_firstOpen_40 (ob_35 hst) (pargs_of rfl) rfl (Nat.le_of_ble_eq_true rfl) (by omega) (f1 c2 c4) (fun r1 τ1 e1 q1 w1 => ?_)
      obtain ⟨rfl, t1⟩ := q1
      rw [t1]
      show pR mX3_firstOpen d 43 [(2, 35), (0, x1), (0, x2), (0, x3), (0, x4)] [(0, (b2i (vShutAt σ x1 x3)))] σ Q
      refine p_ifneB (tgt := 48) dX3_firstOpen_43 (by decide) (fun c5 => ?_) (fun c6 => ?_)
      · refine pGo (s_iload_n dX3_firstOpen_48 rfl) ?_
        refine p_callS (As := [(0, x3)]) (st := []) (n := 1) (d' := 0) (Q1 := (fun r τ => r = some (0, (vHour x3)) ∧ τ = σ)) ok_X10_hourOf ml_X3_75 sm_X10_hourOf dX3_firstOpen_49 (pargs_of rfl) rfl (Nat.le_of_ble_eq_true rfl) (by omega) (f2 c2 c4 c5) (fun r2 τ2 e2 q2 w2 => ?_)
        obtain ⟨rfl, t2⟩ := q2
        rw [t2]
        show pR mX3_firstOpen d 52 [(2, 35), (0, x1), (0, x2), (0, x3), (0, x4)] [(0, (vHour x3))] σ Q
        refine pGo (s_iconst dX3_firstOpen_52) ?_
        refine pGo (s_iadd dX3_firstOpen_53) ?_
        refine pGo (s_bipush dX3_firstOpen_54 (by decide)) ?_
        refine pGo (s_imul dX3_firstOpen_56) ?_
        refine pGoL (ls2 := [(2, 35), (0, x1), (0, x2), (0, (((vHour x3) + 1) * 60)), (0, x4)]) (s_istore_n dX3_firstOpen_57 (by decide) rfl) rfl ?_
        refine pGoL (ls2 := [(2, 35), (0, x1), (0, x2), (0, (((vHour x3) + 1) * 60)), (0, (x4 + 1))]) (s_iinc dX3_firstOpen_58 (by decide) rfl rfl) rfl ?_
        refine pGo (s_goto (tgt := 17) dX3_firstOpen_61 (by decide)) ?_
        exact (k3 c2 c4 c5)
      · refine pGo (s_iload_n dX3_firstOpen_46 rfl) ?_
        exact pEnd (r := (some (0, x3))) dX3_firstOpen_47 ⟨_, rfl⟩ (k4 c2 c4 c6)
set_option maxRecDepth 100000 in
theorem g_X3_lastOpen_0 {d : Nat} {σ : pS} {Q : Option pV → pS → Prop} (hd : 2 ≤ d) (hst : Stat σ) (x1 : Int) (x2 : Int)  (g1 : Inst6 σ (rd σ 35 4)) (g2 : 0 ≤ x1 ∧ x1 < 17) (g3 : inR x2) (g4 : inR ((rd σ ((rd σ 35 4) + 7) x1) - 1)) (k1 : pR mX3_lastOpen d 19 [(2, 35), (0, x1), (0, x2), (0, (min x2 ((rd σ ((rd σ 35 4) + 7) x1) - 1))), (0, 0)] [] σ Q) : pC mX3_lastOpen d [(2, 35), (0, x1), (0, x2)] σ Q := by
  show pR mX3_lastOpen d 0 [(2, 35), (0, x1), (0, x2), (9, 0), (9, 0)] [] σ Q
  refine pGo (s_iload_n dX3_lastOpen_0 rfl) ?_
  refine pGo (s_aload_n dX3_lastOpen_1 rfl (by decide)) ?_
  refine pGoE (y := (rd σ 35 4)) (s_getR pc3 fl_X3_28 dX3_lastOpen_2 (ob_35 hst) rfl rfl) rfl ?_
  refine pGo (s_getF pc6 fl_X3_82 dX3_lastOpen_5 g1.o0 rfl (by decide)) ?_
  refine pGo (s_iload_n dX3_lastOpen_8 rfl) ?_
  refine pGoE (y := (rd σ ((rd σ 35 4) + 7) x1)) (s_iald dX3_lastOpen_9 g1.o7 (bnd g2)) rfl ?_
  refine pGo (s_iconst dX3_lastOpen_10) ?_
  refine pGo (s_isub dX3_lastOpen_11) ?_
  refine pGo (s_mmin (by omega) mj_X3_94 (Nat.le_of_ble_eq_true rfl) dX3_lastOpen_12 g3 g4) ?_
  refine pGoL (ls2 := [(2, 35), (0, x1), (0, x2), (0, (min x2 ((rd σ ((rd σ 35 4) + 7) x1) - 1))), (9, 0)]) (s_istore_n dX3_lastOpen_15 (by decide) rfl) rfl ?_
  refine pGo (s_iconst dX3_lastOpen_16) ?_
  refine pGoL (ls2 := [(2, 35), (0, x1), (0, x2), (0, (min x2 ((rd σ ((rd σ 35 4) + 7) x1) - 1))), (0, 0)]) (s_istore dX3_lastOpen_17 (by decide) rfl) rfl ?_
  exact k1
set_option maxRecDepth 100000 in
theorem g_X3_lastOpen_19 {d : Nat} {σ : pS} {Q : Option pV → pS → Prop} (hd : 2 ≤ d) (hst : Stat σ) (x1 : Int) (x2 : Int) (x3 : Int) (x4 : Int)  (g1 : inR x4) (k1 : ∀ (c1 : 8 < x4), Q (some (0, (-1))) σ) (g2 : ∀ (c2 : x4 ≤ 8), Inst6 σ (rd σ 35 4)) (g3 : ∀ (c2 : x4 ≤ 8), 0 ≤ x1 ∧ x1 < 17) (g4 : ∀ (c2 : x4 ≤ 8), inR x3) (g5 : ∀ (c2 : x4 ≤ 8), inR (rd σ ((rd σ 35 4) + 6) x1)) (k2 : ∀ (c2 : x4 ≤ 8) (c3 : x3 < (rd σ ((rd σ 35 4) + 6) x1)), Q (some (0, (-1))) σ) (f1 : ∀ (c2 : x4 ≤ 8) (c4 : (rd σ ((rd σ 35 4) + 6) x1) ≤ x3), pC mX3_isShut 1 [(2, 35), (0, x1), (0, x3)] σ (fun r τ => r = some (0, b2i (vShutAt σ x1 x3)) ∧ τ = σ)) (f2 : ∀ (c2 : x4 ≤ 8) (c4 : (rd σ ((rd σ 35 4) + 6) x1) ≤ x3) (c5 : (vShutAt σ x1 x3) = true), pC mX10_hourOf 0 [(0, x3)] σ (fun r τ => r = some (0, (vHour x3)) ∧ τ = σ)) (k3 : ∀ (c2 : x4 ≤ 8) (c4 : (rd σ ((rd σ 35 4) + 6) x1) ≤ x3) (c5 : (vShutAt σ x1 x3) = true), pR mX3_lastOpen d 19 [(2, 35), (0, x1), (0, x2), (0, (((vHour x3) * 60) - 1)), (0, (x4 + 1))] [] σ Q) (k4 : ∀ (c2 : x4 ≤ 8) (c4 : (rd σ ((rd σ 35 4) + 6) x1) ≤ x3) (c6 : (vShutAt σ x1 x3) = false), Q (some (0, x3)) σ) : pR mX3_lastOpen d 19 [(2, 35), (0, x1), (0, x2), (0, x3), (0, x4)] [] σ Q := by
  refine pGo (s_iload dX3_lastOpen_19 rfl) ?_
  refine pGo (s_bipush dX3_lastOpen_21 (by decide)) ?_
  refine p_icgt (tgt := 66) dX3_lastOpen_23 (by decide) g1 (by decide) (fun c1 => ?_) (fun c2 => ?_)
  · refine pGo (s_iconst dX3_lastOpen_66) ?_
    exact pEnd (r := (some (0, (-1)))) dX3_lastOpen_67 ⟨_, rfl⟩ (k1 c1)
  · refine pGo (s_iload_n dX3_lastOpen_26 rfl) ?_
    refine pGo (s_aload_n dX3_lastOpen_27 rfl (by decide)) ?_
    refine pGoE (y := (rd σ 35 4)) (s_getR pc3 fl_X3_28 dX3_lastOpen_28 (ob_35 hst) rfl rfl) rfl ?_
    refine pGo (s_getF pc6 fl_X3_79 dX3_lastOpen_31 (g2 c2).o0 rfl (by decide)) ?_
    refine pGo (s_iload_n dX3_lastOpen_34 rfl) ?_
    refine pGoE (y := (rd σ ((rd σ 35 4) + 6) x1)) (s_iald dX3_lastOpen_35 (g2 c2).o6 (bnd (g3 c2))) rfl ?_
    refine p_iclt (tgt := 66) dX3_lastOpen_36 (by decide) (g4 c2) (g5 c2) (fun c3 => ?_) (fun c4 => ?_)
    · refine pGo (s_iconst dX3_lastOpen_66) ?_
      exact pEnd (r := (some (0, (-1)))) dX3_lastOpen_67 ⟨_, rfl⟩ (k2 c2 c3)
    · refine pGo (s_aload_n dX3_lastOpen_39 rfl (by decide)) ?_
      refine pGo (s_iload_n dX3_lastOpen_40 rfl) ?_
      refine pGo (s_iload_n dX3_lastOpen_41 rfl) ?_
      refine p_callV (As := [(0, x1), (0, x3)]) (st := []) (n := 2) (d' := 1) (Q1 := (fun r τ => r = some (0, b2i (vShutAt σ x1 x3)) ∧ τ = σ)) pc3 ok_X3_isShut ml_X3_85 im_X3_isShut se_X3_isShut dX3_lastOpen_42 (ob_35 hst) (pargs_of rfl) rfl (Nat.le_of_ble_eq_true rfl) (by omega) (f1 c2 c4) (fun r1 τ1 e1 q1 w1 => ?_)
      obtain ⟨rfl, t1⟩ := q1
      rw [t1]
      show pR mX3_lastOpen d 45 [(2, 35), (0, x1), (0, x2), (0, x3), (0, x4)] [(0, (b2i (vShutAt σ x1 x3)))] σ Q
      refine p_ifneB (tgt := 50) dX3_lastOpen_45 (by decide) (fun c5 => ?_) (fun c6 => ?_)
      · refine pGo (s_iload_n dX3_lastOpen_50 rfl) ?_
        refine p_callS (As := [(0, x3)]) (st := []) (n := 1) (d' := 0) (Q1 := (fun r τ => r = some (0, (vHour x3)) ∧ τ = σ)) ok_X10_hourOf ml_X3_75 sm_X10_hourOf dX3_lastOpen_51 (pargs_of rfl) rfl (Nat.le_of_ble_eq_true rfl) (by omega) (f2 c2 c4 c5) (fun r2 τ2 e2 q2 w2 => ?_)
        obtain ⟨rfl, t2⟩ := q2
        rw [t2]
        show pR mX3_lastOpen d 54 [(2, 35), (0, x1), (0, x2), (0, x3), (0, x4)] [(0, (vHour x3))] σ Q
        refine pGo (s_bipush dX3_lastOpen_54 (by decide)) ?_
        refine pGo (s_imul dX3_lastOpen_56) ?_
        refine pGo (s_iconst dX3_lastOpen_57) ?_
        refine pGo (s_isub dX3_lastOpen_58) ?_
        refine pGoL (ls2 := [(2, 35), (0, x1), (0, x2), (0, (((vHour x3) * 60) - 1)), (0, x4)]) (s_istore_n dX3_lastOpen_59 (by decide) rfl) rfl ?_
        refine pGoL (ls2 := [(2, 35), (0, x1), (0, x2), (0, (((vHour x3) * 60) - 1)), (0, (x4 + 1))]) (s_iinc dX3_lastOpen_60 (by decide) rfl rfl) rfl ?_
        refine pGo (s_goto (tgt := 19) dX3_lastOpen_63 (by decide)) ?_
        exact (k3 c2 c4 c5)
      · refine pGo (s_iload_n dX3_lastOpen_48 rfl) ?_
        exact pEnd (r := (some (0, x3))) dX3_lastOpen_49 ⟨_, rfl⟩ (k4 c2 c4 c6)
set_option maxRecDepth 100000 in
theorem g_X2_shuts_0 {d : Nat} {σ : pS} {Q : Option pV → pS → Prop} (hd : 1 ≤ d) (hst : Stat σ) (a0 : Int) (x2 : Int) (x3 : Int) {na0 : Nat} (Ia0 : Inst2 σ a0 na0) (g1 : inR x2) (k1 : ∀ (c1 : 10 ≤ x2), pR mX2_shuts d 25 [(2, a0), (2, 35), (0, x2), (0, x3), (0, 1), (0, 0), (0, (rd σ (a0 + 1) 1)), (9, 0)] [] σ Q) (k2 : ∀ (c2 : x2 < 10), pR mX2_shuts d 25 [(2, a0), (2, 35), (0, x2), (0, x3), (0, 0), (0, 0), (0, (rd σ (a0 + 1) 0)), (9, 0)] [] σ Q) : pC mX2_shuts d [(2, a0), (2, 35), (0, x2), (0, x3)] σ Q := by
  show pR mX2_shuts d 0 [(2, a0), (2, 35), (0, x2), (0, x3), (9, 0), (9, 0), (9, 0), (9, 0)] [] σ Q
  refine pGo (s_iload_n dX2_shuts_0 rfl) ?_
  refine pGo (s_bipush dX2_shuts_1 (by decide)) ?_
  refine p_icge (tgt := 10) dX2_shuts_3 (by decide) g1 (by decide) (fun c1 => ?_) (fun c2 => ?_)
  · refine pGo (s_iconst dX2_shuts_10) ?_
    refine pGoL (ls2 := [(2, a0), (2, 35), (0, x2), (0, x3), (0, 1), (9, 0), (9, 0), (9, 0)]) (s_istore dX2_shuts_11 (by decide) rfl) rfl ?_
    refine pGo (s_iconst dX2_shuts_13) ?_
    refine pGoL (ls2 := [(2, a0), (2, 35), (0, x2), (0, x3), (0, 1), (0, 0), (9, 0), (9, 0)]) (s_istore dX2_shuts_14 (by decide) rfl) rfl ?_
    refine pGo (s_aload_n dX2_shuts_16 rfl Ia0.pos) ?_
    refine pGo (s_getF pc2 fl_X2_9 dX2_shuts_17 Ia0.o0 rfl (by decide)) ?_
    refine pGo (s_iload dX2_shuts_20 rfl) ?_
    refine pGoE (y := (rd σ (a0 + 1) 1)) (s_iald dX2_shuts_22 Ia0.o1 (by decide)) rfl ?_
    refine pGoL (ls2 := [(2, a0), (2, 35), (0, x2), (0, x3), (0, 1), (0, 0), (0, (rd σ (a0 + 1) 1)), (9, 0)]) (s_istore dX2_shuts_23 (by decide) rfl) rfl ?_
    exact (k1 c1)
  · refine pGo (s_iconst dX2_shuts_6) ?_
    refine pGo (s_goto (tgt := 11) dX2_shuts_7 (by decide)) ?_
    refine pGoL (ls2 := [(2, a0), (2, 35), (0, x2), (0, x3), (0, 0), (9, 0), (9, 0), (9, 0)]) (s_istore dX2_shuts_11 (by decide) rfl) rfl ?_
    refine pGo (s_iconst dX2_shuts_13) ?_
    refine pGoL (ls2 := [(2, a0), (2, 35), (0, x2), (0, x3), (0, 0), (0, 0), (9, 0), (9, 0)]) (s_istore dX2_shuts_14 (by decide) rfl) rfl ?_
    refine pGo (s_aload_n dX2_shuts_16 rfl Ia0.pos) ?_
    refine pGo (s_getF pc2 fl_X2_9 dX2_shuts_17 Ia0.o0 rfl (by decide)) ?_
    refine pGo (s_iload dX2_shuts_20 rfl) ?_
    refine pGoE (y := (rd σ (a0 + 1) 0)) (s_iald dX2_shuts_22 Ia0.o1 (by decide)) rfl ?_
    refine pGoL (ls2 := [(2, a0), (2, 35), (0, x2), (0, x3), (0, 0), (0, 0), (0, (rd σ (a0 + 1) 0)), (9, 0)]) (s_istore dX2_shuts_23 (by decide) rfl) rfl ?_
    exact (k2 c2)
set_option maxRecDepth 100000 in
theorem g_X2_shuts_25 {d : Nat} {σ : pS} {Q : Option pV → pS → Prop} (hd : 1 ≤ d) (hst : Stat σ) (x0 : Int) (x2 : Int) (x3 : Int) (x4 : Int) (x5 : Int) (x6 : Int) (u7 : pV) {nx0 : Nat} (Ix0 : Inst2 σ x0 nx0) (hu7 : u7.1 ≠ 1) (g1 : inR x6) (g2 : ∀ (c1 : x6 < 0), inR x5) (k1 : ∀ (c1 : x6 < 0) (c3 : x5 ≤ 0), Q (some (0, 0)) σ) (g3 : ∀ (c1 : x6 < 0) (c4 : 0 < x5), inR (rd σ (x0 + 3) 0)) (k2 : ∀ (c1 : x6 < 0) (c4 : 0 < x5) (c5 : (rd σ (x0 + 3) 0) = 0), Q (some (0, 0)) σ) (k3 : ∀ (c1 : x6 < 0) (c4 : 0 < x5) (c6 : (rd σ (x0 + 3) 0) ≠ 0), Q (some (0, 1)) σ) (g4 : ∀ (c2 : 0 ≤ x6), 0 ≤ x4 ∧ x4 < 2) (g5 : ∀ (c2 : 0 ≤ x6), inR (rd σ (x0 + 2) x4)) (g6 : ∀ (c2 : 0 ≤ x6) (c7 : (rd σ (x0 + 2) x4) ≤ x6), inR x5) (k4 : ∀ (c2 : 0 ≤ x6) (c7 : (rd σ (x0 + 2) x4) ≤ x6) (c9 : x5 ≤ 0), Q (some (0, 0)) σ) (g7 : ∀ (c2 : 0 ≤ x6) (c7 : (rd σ (x0 + 2) x4) ≤ x6) (c10 : 0 < x5), inR (rd σ (x0 + 3) 0)) (k5 : ∀ (c2 : 0 ≤ x6) (c7 : (rd σ (x0 + 2) x4) ≤ x6) (c10 : 0 < x5) (c11 : (rd σ (x0 + 3) 0) = 0), Q (some (0, 0)) σ) (k6 : ∀ (c2 : 0 ≤ x6) (c7 : (rd σ (x0 + 2) x4) ≤ x6) (c10 : 0 < x5) (c12 : (rd σ (x0 + 3) 0) ≠ 0), Q (some (0, 1)) σ) (g8 : ∀ (c2 : 0 ≤ x6) (c8 : x6 < (rd σ (x0 + 2) x4)), 0 ≤ x6 ∧ x6 < (nx0 : Int) ∧ x6 < 2147483648) (g9 : ∀ (c2 : 0 ≤ x6) (c8 : x6 < (rd σ (x0 + 2) x4)), inR (rd σ (x0 + 4) x6)) (g10 : ∀ (c2 : 0 ≤ x6) (c8 : x6 < (rd σ (x0 + 2) x4)) (c13 : (rd σ (x0 + 4) x6) ≠ 14) (c15 : (rd σ (x0 + 4) x6) = 19), inR x5) (k7 : ∀ (c2 : 0 ≤ x6) (c8 : x6 < (rd σ (x0 + 2) x4)) (c13 : (rd σ (x0 + 4) x6) ≠ 14) (c15 : (rd σ (x0 + 4) x6) = 19) (c17 : 41 ≤ x5), pR mX2_shuts d 25 [(2, x0), (2, 35), (0, x2), (0, x3), (0, x4), (0, x5), (0, (x6 + 1)), (0, (rd σ (x0 + 4) x6))] [] σ Q) (f1 : ∀ (c2 : 0 ≤ x6) (c8 : x6 < (rd σ (x0 + 2) x4)) (c13 : (rd σ (x0 + 4) x6) ≠ 14) (c15 : (rd σ (x0 + 4) x6) = 19) (c18 : x5 < 41) (c19 : (rd σ (x0 + 4) x6) ≠ 19), pC mX2_unit 0 [(0, (rd σ (x0 + 4) x6)), (2, 35), (0, x2), (0, x3)] σ (fun r τ => r = some (0, (vUnit σ (rd σ (x0 + 4) x6) x2 x3)) ∧ τ = σ)) (g11 : ∀ (c2 : 0 ≤ x6) (c8 : x6 < (rd σ (x0 + 2) x4)) (c13 : (rd σ (x0 + 4) x6) ≠ 14) (c15 : (rd σ (x0 + 4) x6) = 19) (c18 : x5 < 41) (c19 : (rd σ (x0 + 4) x6) ≠ 19), 0 ≤ x5 ∧ x5 < 41) (k8 : ∀ (c2 : 0 ≤ x6) (c8 : x6 < (rd σ (x0 + 2) x4)) (c13 : (rd σ (x0 + 4) x6) ≠ 14) (c15 : (rd σ (x0 + 4) x6) = 19) (c18 : x5 < 41) (c19 : (rd σ (x0 + 4) x6) ≠ 19), pR mX2_shuts d 25 [(2, x0), (2, 35), (0, x2), (0, x3), (0, x4), (0, (x5 + 1)), (0, (x6 + 1)), (0, (rd σ (x0 + 4) x6))] [] (wr σ (x0 + 3) x5 (vUnit σ (rd σ (x0 + 4) x6) x2 x3)) Q) (g12 : ∀ (c2 : 0 ≤ x6) (c8 : x6 < (rd σ (x0 + 2) x4)) (c13 : (rd σ (x0 + 4) x6) ≠ 14) (c15 : (rd σ (x0 + 4) x6) = 19) (c18 : x5 < 41) (c20 : (rd σ (x0 + 4) x6) = 19), 0 ≤ x5 ∧ x5 < 41) (k9 : ∀ (c2 : 0 ≤ x6) (c8 : x6 < (rd σ (x0 + 2) x4)) (c13 : (rd σ (x0 + 4) x6) ≠ 14) (c15 : (rd σ (x0 + 4) x6) = 19) (c18 : x5 < 41) (c20 : (rd σ (x0 + 4) x6) = 19), pR mX2_shuts d 25 [(2, x0), (2, 35), (0, x2), (0, x3), (0, x4), (0, (x5 + 1)), (0, (x6 + 1)), (0, (rd σ (x0 + 4) x6))] [] (wr σ (x0 + 3) x5 (rd σ (x0 + 5) x6)) Q) (f2 : ∀ (c2 : 0 ≤ x6) (c8 : x6 < (rd σ (x0 + 2) x4)) (c13 : (rd σ (x0 + 4) x6) ≠ 14) (c16 : (rd σ (x0 + 4) x6) ≠ 19), pC mX2_isWordUnit 0 [(0, (rd σ (x0 + 4) x6))] σ (fun r τ => r = some (0, b2i (vWU (rd σ (x0 + 4) x6))) ∧ τ = σ)) (g13 : ∀ (c2 : 0 ≤ x6) (c8 : x6 < (rd σ (x0 + 2) x4)) (c13 : (rd σ (x0 + 4) x6) ≠ 14) (c16 : (rd σ (x0 + 4) x6) ≠ 19) (c21 : (vWU (rd σ (x0 + 4) x6)) = false), inR x5) (k10 : ∀ (c2 : 0 ≤ x6) (c8 : x6 < (rd σ (x0 + 2) x4)) (c13 : (rd σ (x0 + 4) x6) ≠ 14) (c16 : (rd σ (x0 + 4) x6) ≠ 19) (c21 : (vWU (rd σ (x0 + 4) x6)) = false) (c23 : x5 ≤ 1), pR mX2_shuts d 25 [(2, x0), (2, 35), (0, x2), (0, x3), (0, x4), (0, x5), (0, (x6 + 1)), (0, (rd σ (x0 + 4) x6))] [] σ Q) (g14 : ∀ (c2 : 0 ≤ x6) (c8 : x6 < (rd σ (x0 + 2) x4)) (c13 : (rd σ (x0 + 4) x6) ≠ 14) (c16 : (rd σ (x0 + 4) x6) ≠ 19) (c21 : (vWU (rd σ (x0 + 4) x6)) = false) (c24 : 1 < x5), 0 ≤ ((x5 + (-1)) - 1) ∧ ((x5 + (-1)) - 1) < 41) (g15 : ∀ (c2 : 0 ≤ x6) (c8 : x6 < (rd σ (x0 + 2) x4)) (c13 : (rd σ (x0 + 4) x6) ≠ 14) (c16 : (rd σ (x0 + 4) x6) ≠ 19) (c21 : (vWU (rd σ (x0 + 4) x6)) = false) (c24 : 1 < x5), 0 ≤ (x5 + (-1)) ∧ (x5 + (-1)) < 41) (f3 : ∀ (c2 : 0 ≤ x6) (c8 : x6 < (rd σ (x0 + 2) x4)) (c13 : (rd σ (x0 + 4) x6) ≠ 14) (c16 : (rd σ (x0 + 4) x6) ≠ 19) (c21 : (vWU (rd σ (x0 + 4) x6)) = false) (c24 : 1 < x5), pC mX2_joined 0 [(0, (rd σ (x0 + 4) x6)), (0, (rd σ (x0 + 3) ((x5 + (-1)) - 1))), (0, (rd σ (x0 + 3) (x5 + (-1))))] σ (fun r τ => r = some (0, (vJoin (rd σ (x0 + 4) x6) (rd σ (x0 + 3) ((x5 + (-1)) - 1)) (rd σ (x0 + 3) (x5 + (-1))))) ∧ τ = σ)) (k11 : ∀ (c2 : 0 ≤ x6) (c8 : x6 < (rd σ (x0 + 2) x4)) (c13 : (rd σ (x0 + 4) x6) ≠ 14) (c16 : (rd σ (x0 + 4) x6) ≠ 19) (c21 : (vWU (rd σ (x0 + 4) x6)) = false) (c24 : 1 < x5), pR mX2_shuts d 25 [(2, x0), (2, 35), (0, x2), (0, x3), (0, x4), (0, (x5 + (-1))), (0, (x6 + 1)), (0, (rd σ (x0 + 4) x6))] [] (wr σ (x0 + 3) ((x5 + (-1)) - 1) (vJoin (rd σ (x0 + 4) x6) (rd σ (x0 + 3) ((x5 + (-1)) - 1)) (rd σ (x0 + 3) (x5 + (-1))))) Q) (g16 : ∀ (c2 : 0 ≤ x6) (c8 : x6 < (rd σ (x0 + 2) x4)) (c13 : (rd σ (x0 + 4) x6) ≠ 14) (c16 : (rd σ (x0 + 4) x6) ≠ 19) (c22 : (vWU (rd σ (x0 + 4) x6)) = true), inR x5) (k12 : ∀ (c2 : 0 ≤ x6) (c8 : x6 < (rd σ (x0 + 2) x4)) (c13 : (rd σ (x0 + 4) x6) ≠ 14) (c16 : (rd σ (x0 + 4) x6) ≠ 19) (c22 : (vWU (rd σ (x0 + 4) x6)) = true) (c25 : 41 ≤ x5), pR mX2_shuts d 25 [(2, x0), (2, 35), (0, x2), (0, x3), (0, x4), (0, x5), (0, (x6 + 1)), (0, (rd σ (x0 + 4) x6))] [] σ Q) (f4 : ∀ (c2 : 0 ≤ x6) (c8 : x6 < (rd σ (x0 + 2) x4)) (c13 : (rd σ (x0 + 4) x6) ≠ 14) (c16 : (rd σ (x0 + 4) x6) ≠ 19) (c22 : (vWU (rd σ (x0 + 4) x6)) = true) (c26 : x5 < 41) (c27 : (rd σ (x0 + 4) x6) ≠ 19), pC mX2_unit 0 [(0, (rd σ (x0 + 4) x6)), (2, 35), (0, x2), (0, x3)] σ (fun r τ => r = some (0, (vUnit σ (rd σ (x0 + 4) x6) x2 x3)) ∧ τ = σ)) (g17 : ∀ (c2 : 0 ≤ x6) (c8 : x6 < (rd σ (x0 + 2) x4)) (c13 : (rd σ (x0 + 4) x6) ≠ 14) (c16 : (rd σ (x0 + 4) x6) ≠ 19) (c22 : (vWU (rd σ (x0 + 4) x6)) = true) (c26 : x5 < 41) (c27 : (rd σ (x0 + 4) x6) ≠ 19), 0 ≤ x5 ∧ x5 < 41) (k13 : ∀ (c2 : 0 ≤ x6) (c8 : x6 < (rd σ (x0 + 2) x4)) (c13 : (rd σ (x0 + 4) x6) ≠ 14) (c16 : (rd σ (x0 + 4) x6) ≠ 19) (c22 : (vWU (rd σ (x0 + 4) x6)) = true) (c26 : x5 < 41) (c27 : (rd σ (x0 + 4) x6) ≠ 19), pR mX2_shuts d 25 [(2, x0), (2, 35), (0, x2), (0, x3), (0, x4), (0, (x5 + 1)), (0, (x6 + 1)), (0, (rd σ (x0 + 4) x6))] [] (wr σ (x0 + 3) x5 (vUnit σ (rd σ (x0 + 4) x6) x2 x3)) Q) (g18 : ∀ (c2 : 0 ≤ x6) (c8 : x6 < (rd σ (x0 + 2) x4)) (c13 : (rd σ (x0 + 4) x6) ≠ 14) (c16 : (rd σ (x0 + 4) x6) ≠ 19) (c22 : (vWU (rd σ (x0 + 4) x6)) = true) (c26 : x5 < 41) (c28 : (rd σ (x0 + 4) x6) = 19), 0 ≤ x5 ∧ x5 < 41) (k14 : ∀ (c2 : 0 ≤ x6) (c8 : x6 < (rd σ (x0 + 2) x4)) (c13 : (rd σ (x0 + 4) x6) ≠ 14) (c16 : (rd σ (x0 + 4) x6) ≠ 19) (c22 : (vWU (rd σ (x0 + 4) x6)) = true) (c26 : x5 < 41) (c28 : (rd σ (x0 + 4) x6) = 19), pR mX2_shuts d 25 [(2, x0), (2, 35), (0, x2), (0, x3), (0, x4), (0, (x5 + 1)), (0, (x6 + 1)), (0, (rd σ (x0 + 4) x6))] [] (wr σ (x0 + 3) x5 (rd σ (x0 + 5) x6)) Q) (g19 : ∀ (c2 : 0 ≤ x6) (c8 : x6 < (rd σ (x0 + 2) x4)) (c14 : (rd σ (x0 + 4) x6) = 14), inR x5) (k15 : ∀ (c2 : 0 ≤ x6) (c8 : x6 < (rd σ (x0 + 2) x4)) (c14 : (rd σ (x0 + 4) x6) = 14) (c29 : x5 ≤ 0), pR mX2_shuts d 25 [(2, x0), (2, 35), (0, x2), (0, x3), (0, x4), (0, x5), (0, (x6 + 1)), (0, (rd σ (x0 + 4) x6))] [] σ Q) (g20 : ∀ (c2 : 0 ≤ x6) (c8 : x6 < (rd σ (x0 + 2) x4)) (c14 : (rd σ (x0 + 4) x6) = 14) (c30 : 0 < x5), 0 ≤ (x5 - 1) ∧ (x5 - 1) < 41) (k16 : ∀ (c2 : 0 ≤ x6) (c8 : x6 < (rd σ (x0 + 2) x4)) (c14 : (rd σ (x0 + 4) x6) = 14) (c30 : 0 < x5), pR mX2_shuts d 25 [(2, x0), (2, 35), (0, x2), (0, x3), (0, x4), (0, x5), (0, (x6 + 1)), (0, (rd σ (x0 + 4) x6))] [] (wr σ (x0 + 3) (x5 - 1) (1 - (rd σ (x0 + 3) (x5 - 1)))) Q) : pR mX2_shuts d 25 [(2, x0), (2, 35), (0, x2), (0, x3), (0, x4), (0, x5), (0, x6), u7] [] σ Q := by
  refine pGo (s_iload dX2_shuts_25 rfl) ?_
  refine p_iflt (tgt := 194) dX2_shuts_27 (by decide) g1 (fun c1 => ?_) (fun c2 => ?_)
  · refine pGo (s_iload dX2_shuts_194 rfl) ?_
    refine p_ifle (tgt := 212) dX2_shuts_196 (by decide) (g2 c1) (fun c3 => ?_) (fun c4 => ?_)
    · refine pGo (s_iconst dX2_shuts_212) ?_
      exact pEnd (r := (some (0, 0))) dX2_shuts_213 (Or.inl rfl) (k1 c1 c3)
    · refine pGo (s_aload_n dX2_shuts_199 rfl Ix0.pos) ?_
      refine pGo (s_getF pc2 fl_X2_18 dX2_shuts_200 Ix0.o0 rfl (by decide)) ?_
      refine pGo (s_iconst dX2_shuts_203) ?_
      refine pGoE (y := (rd σ (x0 + 3) 0)) (s_iald dX2_shuts_204 Ix0.o3 (by decide)) rfl ?_
      refine p_ifeq (tgt := 212) dX2_shuts_205 (by decide) (g3 c1 c4) (fun c5 => ?_) (fun c6 => ?_)
      · refine pGo (s_iconst dX2_shuts_212) ?_
        exact pEnd (r := (some (0, 0))) dX2_shuts_213 (Or.inl rfl) (k2 c1 c4 c5)
      · refine pGo (s_iconst dX2_shuts_208) ?_
        refine pGo (s_goto (tgt := 213) dX2_shuts_209 (by decide)) ?_
        exact pEnd (r := (some (0, 1))) dX2_shuts_213 (Or.inr rfl) (k3 c1 c4 c6)
  · refine pGo (s_iload dX2_shuts_30 rfl) ?_
    refine pGo (s_aload_n dX2_shuts_32 rfl Ix0.pos) ?_
    refine pGo (s_getF pc2 fl_X2_15 dX2_shuts_33 Ix0.o0 rfl (by decide)) ?_
    refine pGo (s_iload dX2_shuts_36 rfl) ?_
    refine pGoE (y := (rd σ (x0 + 2) x4)) (s_iald dX2_shuts_38 Ix0.o2 (bnd (g4 c2))) rfl ?_
    refine p_icge (tgt := 194) dX2_shuts_39 (by decide) g1 (g5 c2) (fun c7 => ?_) (fun c8 => ?_)
    · refine pGo (s_iload dX2_shuts_194 rfl) ?_
      refine p_ifle (tgt := 212) dX2_shuts_196 (by decide) (g6 c2 c7) (fun c9 => ?_) (fun c10 => ?_)
      · refine pGo (s_iconst dX2_shuts_212) ?_
        exact pEnd (r := (some (0, 0))) dX2_shuts_213 (Or.inl rfl) (k4 c2 c7 c9)
      · refine pGo (s_aload_n dX2_shuts_199 rfl Ix0.pos) ?_
        refine pGo (s_getF pc2 fl_X2_18 dX2_shuts_200 Ix0.o0 rfl (by decide)) ?_
        refine pGo (s_iconst dX2_shuts_203) ?_
        refine pGoE (y := (rd σ (x0 + 3) 0)) (s_iald dX2_shuts_204 Ix0.o3 (by decide)) rfl ?_
        refine p_ifeq (tgt := 212) dX2_shuts_205 (by decide) (g7 c2 c7 c10) (fun c11 => ?_) (fun c12 => ?_)
        · refine pGo (s_iconst dX2_shuts_212) ?_
          exact pEnd (r := (some (0, 0))) dX2_shuts_213 (Or.inl rfl) (k5 c2 c7 c10 c11)
        · refine pGo (s_iconst dX2_shuts_208) ?_
          refine pGo (s_goto (tgt := 213) dX2_shuts_209 (by decide)) ?_
          exact pEnd (r := (some (0, 1))) dX2_shuts_213 (Or.inr rfl) (k6 c2 c7 c10 c12)
    · refine pGo (s_aload_n dX2_shuts_42 rfl Ix0.pos) ?_
      refine pGo (s_getF pc2 fl_X2_27 dX2_shuts_43 Ix0.o0 rfl (by decide)) ?_
      refine pGo (s_iload dX2_shuts_46 rfl) ?_
      refine pGoE (y := (rd σ (x0 + 4) x6)) (s_iald dX2_shuts_48 Ix0.o4 (g8 c2 c8)) rfl ?_
      refine pGoL (ls2 := [(2, x0), (2, 35), (0, x2), (0, x3), (0, x4), (0, x5), (0, x6), (0, (rd σ (x0 + 4) x6))]) (s_istore dX2_shuts_49 (by decide) rfl) rfl ?_
      refine pGo (s_iload dX2_shuts_51 rfl) ?_
      refine pGo (s_bipush dX2_shuts_53 (by decide)) ?_
      refine p_icne (tgt := 86) dX2_shuts_55 (by decide) (g9 c2 c8) (by decide) (fun c13 => ?_) (fun c14 => ?_)
      · refine pGo (s_iload dX2_shuts_86 rfl) ?_
        refine pGo (s_bipush dX2_shuts_88 (by decide)) ?_
        refine p_iceq (tgt := 101) dX2_shuts_90 (by decide) (g9 c2 c8) (by decide) (fun c15 => ?_) (fun c16 => ?_)
        · refine pGo (s_iload dX2_shuts_101 rfl) ?_
          refine pGo (s_aload_n dX2_shuts_103 rfl Ix0.pos) ?_
          refine pGo (s_getF pc2 fl_X2_18 dX2_shuts_104 Ix0.o0 rfl (by decide)) ?_
          refine pGoE (y := 41) (s_alen dX2_shuts_107 Ix0.o3) rfl ?_
          refine p_icge (tgt := 188) dX2_shuts_108 (by decide) (g10 c2 c8 c13 c15) (by decide) (fun c17 => ?_) (fun c18 => ?_)
          · refine pGoL (ls2 := [(2, x0), (2, 35), (0, x2), (0, x3), (0, x4), (0, x5), (0, (x6 + 1)), (0, (rd σ (x0 + 4) x6))]) (s_iinc dX2_shuts_188 (by decide) rfl rfl) rfl ?_
            refine pGo (s_goto (tgt := 25) dX2_shuts_191 (by decide)) ?_
            exact (k7 c2 c8 c13 c15 c17)
          · refine pGo (s_aload_n dX2_shuts_111 rfl Ix0.pos) ?_
            refine pGo (s_getF pc2 fl_X2_18 dX2_shuts_112 Ix0.o0 rfl (by decide)) ?_
            refine pGo (s_iload dX2_shuts_115 rfl) ?_
            refine pGo (s_iload dX2_shuts_117 rfl) ?_
            refine pGo (s_bipush dX2_shuts_119 (by decide)) ?_
            refine p_icne (tgt := 134) dX2_shuts_121 (by decide) (g9 c2 c8) (by decide) (fun c19 => ?_) (fun c20 => ?_)
            · refine pGo (s_iload dX2_shuts_134 rfl) ?_
              refine pGo (s_aload_n dX2_shuts_136 rfl (by decide)) ?_
              refine pGo (s_iload_n dX2_shuts_137 rfl) ?_
              refine pGo (s_iload_n dX2_shuts_138 rfl) ?_
              refine p_callS (As := [(0, (rd σ (x0 + 4) x6)), (2, 35), (0, x2), (0, x3)]) (st := [(0, x5), (2, (x0 + 3))]) (n := 4) (d' := 0) (Q1 := (fun r τ => r = some (0, (vUnit σ (rd σ (x0 + 4) x6) x2 x3)) ∧ τ = σ)) ok_X2_unit ml_X2_37 sm_X2_unit dX2_shuts_139 (pargs_of rfl) rfl (Nat.le_of_ble_eq_true rfl) (by omega) (f1 c2 c8 c13 c15 c18 c19) (fun r1 τ1 e1 q1 w1 => ?_)
              obtain ⟨rfl, t1⟩ := q1
              rw [t1]
              show pR mX2_shuts d 142 [(2, x0), (2, 35), (0, x2), (0, x3), (0, x4), (0, x5), (0, x6), (0, (rd σ (x0 + 4) x6))] [(0, (vUnit σ (rd σ (x0 + 4) x6) x2 x3)), (0, x5), (2, (x0 + 3))] σ Q
              refine pGo (s_iast dX2_shuts_142 Ix0.o3 (bnd (g11 c2 c8 c13 c15 c18 c19))) ?_
              refine pGoL (ls2 := [(2, x0), (2, 35), (0, x2), (0, x3), (0, x4), (0, (x5 + 1)), (0, x6), (0, (rd σ (x0 + 4) x6))]) (s_iinc dX2_shuts_143 (by decide) rfl rfl) rfl ?_
              refine pGo (s_goto (tgt := 188) dX2_shuts_146 (by decide)) ?_
              refine pGoL (ls2 := [(2, x0), (2, 35), (0, x2), (0, x3), (0, x4), (0, (x5 + 1)), (0, (x6 + 1)), (0, (rd σ (x0 + 4) x6))]) (s_iinc dX2_shuts_188 (by decide) rfl rfl) rfl ?_
              refine pGo (s_goto (tgt := 25) dX2_shuts_191 (by decide)) ?_
              exact (k8 c2 c8 c13 c15 c18 c19)
            · refine pGo (s_aload_n dX2_shuts_124 rfl Ix0.pos) ?_
              refine pGo (s_getF pc2 fl_X2_30 dX2_shuts_125 Ix0.o0 rfl (by decide)) ?_
              refine pGo (s_iload dX2_shuts_128 rfl) ?_
              refine pGoE (y := (rd σ (x0 + 5) x6)) (s_iald dX2_shuts_130 Ix0.o5 (g8 c2 c8)) rfl ?_
              refine pGo (s_goto (tgt := 142) dX2_shuts_131 (by decide)) ?_
              refine pGo (s_iast dX2_shuts_142 Ix0.o3 (bnd (g12 c2 c8 c13 c15 c18 c20))) ?_
              refine pGoL (ls2 := [(2, x0), (2, 35), (0, x2), (0, x3), (0, x4), (0, (x5 + 1)), (0, x6), (0, (rd σ (x0 + 4) x6))]) (s_iinc dX2_shuts_143 (by decide) rfl rfl) rfl ?_
              refine pGo (s_goto (tgt := 188) dX2_shuts_146 (by decide)) ?_
              refine pGoL (ls2 := [(2, x0), (2, 35), (0, x2), (0, x3), (0, x4), (0, (x5 + 1)), (0, (x6 + 1)), (0, (rd σ (x0 + 4) x6))]) (s_iinc dX2_shuts_188 (by decide) rfl rfl) rfl ?_
              refine pGo (s_goto (tgt := 25) dX2_shuts_191 (by decide)) ?_
              exact (k9 c2 c8 c13 c15 c18 c20)
        · refine pGo (s_iload dX2_shuts_93 rfl) ?_
          refine p_callS (As := [(0, (rd σ (x0 + 4) x6))]) (st := []) (n := 1) (d' := 0) (Q1 := (fun r τ => r = some (0, b2i (vWU (rd σ (x0 + 4) x6))) ∧ τ = σ)) ok_X2_isWordUnit ml_X2_33 sm_X2_isWordUnit dX2_shuts_95 (pargs_of rfl) rfl (Nat.le_of_ble_eq_true rfl) (by omega) (f2 c2 c8 c13 c16) (fun r2 τ2 e2 q2 w2 => ?_)
          obtain ⟨rfl, t2⟩ := q2
          rw [t2]
          show pR mX2_shuts d 98 [(2, x0), (2, 35), (0, x2), (0, x3), (0, x4), (0, x5), (0, x6), (0, (rd σ (x0 + 4) x6))] [(0, (b2i (vWU (rd σ (x0 + 4) x6))))] σ Q
          refine p_ifeqB (tgt := 149) dX2_shuts_98 (by decide) (fun c21 => ?_) (fun c22 => ?_)
          · refine pGo (s_iload dX2_shuts_149 rfl) ?_
            refine pGo (s_iconst dX2_shuts_151) ?_
            refine p_icle (tgt := 188) dX2_shuts_152 (by decide) (g13 c2 c8 c13 c16 c21) (by decide) (fun c23 => ?_) (fun c24 => ?_)
            · refine pGoL (ls2 := [(2, x0), (2, 35), (0, x2), (0, x3), (0, x4), (0, x5), (0, (x6 + 1)), (0, (rd σ (x0 + 4) x6))]) (s_iinc dX2_shuts_188 (by decide) rfl rfl) rfl ?_
              refine pGo (s_goto (tgt := 25) dX2_shuts_191 (by decide)) ?_
              exact (k10 c2 c8 c13 c16 c21 c23)
            · refine pGoL (ls2 := [(2, x0), (2, 35), (0, x2), (0, x3), (0, x4), (0, (x5 + (-1))), (0, x6), (0, (rd σ (x0 + 4) x6))]) (s_iinc dX2_shuts_155 (by decide) rfl rfl) rfl ?_
              refine pGo (s_aload_n dX2_shuts_158 rfl Ix0.pos) ?_
              refine pGo (s_getF pc2 fl_X2_18 dX2_shuts_159 Ix0.o0 rfl (by decide)) ?_
              refine pGo (s_iload dX2_shuts_162 rfl) ?_
              refine pGo (s_iconst dX2_shuts_164) ?_
              refine pGo (s_isub dX2_shuts_165) ?_
              refine pGo (s_iload dX2_shuts_166 rfl) ?_
              refine pGo (s_aload_n dX2_shuts_168 rfl Ix0.pos) ?_
              refine pGo (s_getF pc2 fl_X2_18 dX2_shuts_169 Ix0.o0 rfl (by decide)) ?_
              refine pGo (s_iload dX2_shuts_172 rfl) ?_
              refine pGo (s_iconst dX2_shuts_174) ?_
              refine pGo (s_isub dX2_shuts_175) ?_
              refine pGoE (y := (rd σ (x0 + 3) ((x5 + (-1)) - 1))) (s_iald dX2_shuts_176 Ix0.o3 (bnd (g14 c2 c8 c13 c16 c21 c24))) rfl ?_
              refine pGo (s_aload_n dX2_shuts_177 rfl Ix0.pos) ?_
              refine pGo (s_getF pc2 fl_X2_18 dX2_shuts_178 Ix0.o0 rfl (by decide)) ?_
              refine pGo (s_iload dX2_shuts_181 rfl) ?_
              refine pGoE (y := (rd σ (x0 + 3) (x5 + (-1)))) (s_iald dX2_shuts_183 Ix0.o3 (bnd (g15 c2 c8 c13 c16 c21 c24))) rfl ?_
              refine p_callS (As := [(0, (rd σ (x0 + 4) x6)), (0, (rd σ (x0 + 3) ((x5 + (-1)) - 1))), (0, (rd σ (x0 + 3) (x5 + (-1))))]) (st := [(0, ((x5 + (-1)) - 1)), (2, (x0 + 3))]) (n := 3) (d' := 0) (Q1 := (fun r τ => r = some (0, (vJoin (rd σ (x0 + 4) x6) (rd σ (x0 + 3) ((x5 + (-1)) - 1)) (rd σ (x0 + 3) (x5 + (-1))))) ∧ τ = σ)) ok_X2_joined ml_X2_41 sm_X2_joined dX2_shuts_184 (pargs_of rfl) rfl (Nat.le_of_ble_eq_true rfl) (by omega) (f3 c2 c8 c13 c16 c21 c24) (fun r3 τ3 e3 q3 w3 => ?_)
              obtain ⟨rfl, t3⟩ := q3
              rw [t3]
              show pR mX2_shuts d 187 [(2, x0), (2, 35), (0, x2), (0, x3), (0, x4), (0, (x5 + (-1))), (0, x6), (0, (rd σ (x0 + 4) x6))] [(0, (vJoin (rd σ (x0 + 4) x6) (rd σ (x0 + 3) ((x5 + (-1)) - 1)) (rd σ (x0 + 3) (x5 + (-1))))), (0, ((x5 + (-1)) - 1)), (2, (x0 + 3))] σ Q
              refine pGo (s_iast dX2_shuts_187 Ix0.o3 (bnd (g14 c2 c8 c13 c16 c21 c24))) ?_
              refine pGoL (ls2 := [(2, x0), (2, 35), (0, x2), (0, x3), (0, x4), (0, (x5 + (-1))), (0, (x6 + 1)), (0, (rd σ (x0 + 4) x6))]) (s_iinc dX2_shuts_188 (by decide) rfl rfl) rfl ?_
              refine pGo (s_goto (tgt := 25) dX2_shuts_191 (by decide)) ?_
              exact (k11 c2 c8 c13 c16 c21 c24)
          · refine pGo (s_iload dX2_shuts_101 rfl) ?_
            refine pGo (s_aload_n dX2_shuts_103 rfl Ix0.pos) ?_
            refine pGo (s_getF pc2 fl_X2_18 dX2_shuts_104 Ix0.o0 rfl (by decide)) ?_
            refine pGoE (y := 41) (s_alen dX2_shuts_107 Ix0.o3) rfl ?_
            refine p_icge (tgt := 188) dX2_shuts_108 (by decide) (g16 c2 c8 c13 c16 c22) (by decide) (fun c25 => ?_) (fun c26 => ?_)
            · refine pGoL (ls2 := [(2, x0), (2, 35), (0, x2), (0, x3), (0, x4), (0, x5), (0, (x6 + 1)), (0, (rd σ (x0 + 4) x6))]) (s_iinc dX2_shuts_188 (by decide) rfl rfl) rfl ?_
              refine pGo (s_goto (tgt := 25) dX2_shuts_191 (by decide)) ?_
              exact (k12 c2 c8 c13 c16 c22 c25)
            · refine pGo (s_aload_n dX2_shuts_111 rfl Ix0.pos) ?_
              refine pGo (s_getF pc2 fl_X2_18 dX2_shuts_112 Ix0.o0 rfl (by decide)) ?_
              refine pGo (s_iload dX2_shuts_115 rfl) ?_
              refine pGo (s_iload dX2_shuts_117 rfl) ?_
              refine pGo (s_bipush dX2_shuts_119 (by decide)) ?_
              refine p_icne (tgt := 134) dX2_shuts_121 (by decide) (g9 c2 c8) (by decide) (fun c27 => ?_) (fun c28 => ?_)
              · refine pGo (s_iload dX2_shuts_134 rfl) ?_
                refine pGo (s_aload_n dX2_shuts_136 rfl (by decide)) ?_
                refine pGo (s_iload_n dX2_shuts_137 rfl) ?_
                refine pGo (s_iload_n dX2_shuts_138 rfl) ?_
                refine p_callS (As := [(0, (rd σ (x0 + 4) x6)), (2, 35), (0, x2), (0, x3)]) (st := [(0, x5), (2, (x0 + 3))]) (n := 4) (d' := 0) (Q1 := (fun r τ => r = some (0, (vUnit σ (rd σ (x0 + 4) x6) x2 x3)) ∧ τ = σ)) ok_X2_unit ml_X2_37 sm_X2_unit dX2_shuts_139 (pargs_of rfl) rfl (Nat.le_of_ble_eq_true rfl) (by omega) (f4 c2 c8 c13 c16 c22 c26 c27) (fun r4 τ4 e4 q4 w4 => ?_)
                obtain ⟨rfl, t4⟩ := q4
                rw [t4]
                show pR mX2_shuts d 142 [(2, x0), (2, 35), (0, x2), (0, x3), (0, x4), (0, x5), (0, x6), (0, (rd σ (x0 + 4) x6))] [(0, (vUnit σ (rd σ (x0 + 4) x6) x2 x3)), (0, x5), (2, (x0 + 3))] σ Q
                refine pGo (s_iast dX2_shuts_142 Ix0.o3 (bnd (g17 c2 c8 c13 c16 c22 c26 c27))) ?_
                refine pGoL (ls2 := [(2, x0), (2, 35), (0, x2), (0, x3), (0, x4), (0, (x5 + 1)), (0, x6), (0, (rd σ (x0 + 4) x6))]) (s_iinc dX2_shuts_143 (by decide) rfl rfl) rfl ?_
                refine pGo (s_goto (tgt := 188) dX2_shuts_146 (by decide)) ?_
                refine pGoL (ls2 := [(2, x0), (2, 35), (0, x2), (0, x3), (0, x4), (0, (x5 + 1)), (0, (x6 + 1)), (0, (rd σ (x0 + 4) x6))]) (s_iinc dX2_shuts_188 (by decide) rfl rfl) rfl ?_
                refine pGo (s_goto (tgt := 25) dX2_shuts_191 (by decide)) ?_
                exact (k13 c2 c8 c13 c16 c22 c26 c27)
              · refine pGo (s_aload_n dX2_shuts_124 rfl Ix0.pos) ?_
                refine pGo (s_getF pc2 fl_X2_30 dX2_shuts_125 Ix0.o0 rfl (by decide)) ?_
                refine pGo (s_iload dX2_shuts_128 rfl) ?_
                refine pGoE (y := (rd σ (x0 + 5) x6)) (s_iald dX2_shuts_130 Ix0.o5 (g8 c2 c8)) rfl ?_
                refine pGo (s_goto (tgt := 142) dX2_shuts_131 (by decide)) ?_
                refine pGo (s_iast dX2_shuts_142 Ix0.o3 (bnd (g18 c2 c8 c13 c16 c22 c26 c28))) ?_
                refine pGoL (ls2 := [(2, x0), (2, 35), (0, x2), (0, x3), (0, x4), (0, (x5 + 1)), (0, x6), (0, (rd σ (x0 + 4) x6))]) (s_iinc dX2_shuts_143 (by decide) rfl rfl) rfl ?_
                refine pGo (s_goto (tgt := 188) dX2_shuts_146 (by decide)) ?_
                refine pGoL (ls2 := [(2, x0), (2, 35), (0, x2), (0, x3), (0, x4), (0, (x5 + 1)), (0, (x6 + 1)), (0, (rd σ (x0 + 4) x6))]) (s_iinc dX2_shuts_188 (by decide) rfl rfl) rfl ?_
                refine pGo (s_goto (tgt := 25) dX2_shuts_191 (by decide)) ?_
                exact (k14 c2 c8 c13 c16 c22 c26 c28)
      · refine pGo (s_iload dX2_shuts_58 rfl) ?_
        refine p_ifle (tgt := 188) dX2_shuts_60 (by decide) (g19 c2 c8 c14) (fun c29 => ?_) (fun c30 => ?_)
        · refine pGoL (ls2 := [(2, x0), (2, 35), (0, x2), (0, x3), (0, x4), (0, x5), (0, (x6 + 1)), (0, (rd σ (x0 + 4) x6))]) (s_iinc dX2_shuts_188 (by decide) rfl rfl) rfl ?_
          refine pGo (s_goto (tgt := 25) dX2_shuts_191 (by decide)) ?_
          exact (k15 c2 c8 c14 c29)
        · refine pGo (s_aload_n dX2_shuts_63 rfl Ix0.pos) ?_
          refine pGo (s_getF pc2 fl_X2_18 dX2_shuts_64 Ix0.o0 rfl (by decide)) ?_
          refine pGo (s_iload dX2_shuts_67 rfl) ?_
          refine pGo (s_iconst dX2_shuts_69) ?_
          refine pGo (s_isub dX2_shuts_70) ?_
          refine pGo (s_iconst dX2_shuts_71) ?_
          refine pGo (s_aload_n dX2_shuts_72 rfl Ix0.pos) ?_
          refine pGo (s_getF pc2 fl_X2_18 dX2_shuts_73 Ix0.o0 rfl (by decide)) ?_
          refine pGo (s_iload dX2_shuts_76 rfl) ?_
          refine pGo (s_iconst dX2_shuts_78) ?_
          refine pGo (s_isub dX2_shuts_79) ?_
          refine pGoE (y := (rd σ (x0 + 3) (x5 - 1))) (s_iald dX2_shuts_80 Ix0.o3 (bnd (g20 c2 c8 c14 c30))) rfl ?_
          refine pGo (s_isub dX2_shuts_81) ?_
          refine pGo (s_iast dX2_shuts_82 Ix0.o3 (bnd (g20 c2 c8 c14 c30))) ?_
          refine pGo (s_goto (tgt := 188) dX2_shuts_83 (by decide)) ?_
          refine pGoL (ls2 := [(2, x0), (2, 35), (0, x2), (0, x3), (0, x4), (0, x5), (0, (x6 + 1)), (0, (rd σ (x0 + 4) x6))]) (s_iinc dX2_shuts_188 (by decide) rfl rfl) rfl ?_
          refine pGo (s_goto (tgt := 25) dX2_shuts_191 (by decide)) ?_
          exact (k16 c2 c8 c14 c30)
set_option maxRecDepth 100000 in
theorem g_X3_shutIn_0 {d : Nat} {σ : pS} {Q : Option pV → pS → Prop} (hd : 2 ≤ d) (hst : Stat σ) (x1 : Int) (x2 : Int) {nx2 : Nat} (Ix2 : Inst2 σ x2 nx2) (k1 : pR mX3_shutIn d 5 [(2, 35), (0, x1), (2, x2), (0, 0), (0, 0)] [] σ Q) : pC mX3_shutIn d [(2, 35), (0, x1), (2, x2)] σ Q := by
  show pR mX3_shutIn d 0 [(2, 35), (0, x1), (2, x2), (9, 0), (9, 0)] [] σ Q
  refine pGo (s_iconst dX3_shutIn_0) ?_
  refine pGoL (ls2 := [(2, 35), (0, x1), (2, x2), (0, 0), (9, 0)]) (s_istore_n dX3_shutIn_1 (by decide) rfl) rfl ?_
  refine pGo (s_iconst dX3_shutIn_2) ?_
  refine pGoL (ls2 := [(2, 35), (0, x1), (2, x2), (0, 0), (0, 0)]) (s_istore dX3_shutIn_3 (by decide) rfl) rfl ?_
  exact k1
set_option maxRecDepth 100000 in
theorem g_X3_shutIn_5 {d : Nat} {σ : pS} {Q : Option pV → pS → Prop} {Q1 : Option pV → pS → Prop} (hd : 2 ≤ d) (hst : Stat σ) (x1 : Int) (x2 : Int) (x3 : Int) (x4 : Int) {nx2 : Nat} (Ix2 : Inst2 σ x2 nx2) (g1 : inR x4) (k1 : ∀ (c1 : 17 ≤ x4), Q (some (0, x3)) σ) (f1 : ∀ (c2 : x4 < 17), pC mX6_has 1 [(2, (rd σ 35 4)), (0, x4)] σ (fun r τ => r = some (0, b2i (vHas (rd σ (rd σ 35 4) 0) (rd σ (rd σ 35 4) 1) x4)) ∧ τ = σ)) (g2 : ∀ (c2 : x4 < 17), Inst6 σ (rd σ 35 4)) (k2 : ∀ (c2 : x4 < 17) (c3 : (vHas (rd σ (rd σ 35 4) 0) (rd σ (rd σ 35 4) 1) x4) = false), pR mX3_shutIn d 5 [(2, 35), (0, x1), (2, x2), (0, x3), (0, (x4 + 1))] [] σ Q) (f2 : ∀ (c2 : x4 < 17) (c4 : (vHas (rd σ (rd σ 35 4) 0) (rd σ (rd σ 35 4) 1) x4) = true), pC mX2_shuts 1 [(2, x2), (2, 35), (0, x4), (0, x1)] σ Q1) (g3 : ∀ (c2 : x4 < 17) (c4 : (vHas (rd σ (rd σ 35 4) 0) (rd σ (rd σ 35 4) 1) x4) = true) (v2 : Int) (b2 : v2 = 0 ∨ v2 = 1) (τ2 : pS) (e2 : pLe σ τ2) (q2 : Q1 (some (0, v2)) τ2), inR v2) (k3 : ∀ (c2 : x4 < 17) (c4 : (vHas (rd σ (rd σ 35 4) 0) (rd σ (rd σ 35 4) 1) x4) = true) (v2 : Int) (b2 : v2 = 0 ∨ v2 = 1) (τ2 : pS) (e2 : pLe σ τ2) (q2 : Q1 (some (0, v2)) τ2) (c5 : v2 = 0), pR mX3_shutIn d 5 [(2, 35), (0, x1), (2, x2), (0, x3), (0, (x4 + 1))] [] τ2 Q) (k4 : ∀ (c2 : x4 < 17) (c4 : (vHas (rd σ (rd σ 35 4) 0) (rd σ (rd σ 35 4) 1) x4) = true) (v2 : Int) (b2 : v2 = 0 ∨ v2 = 1) (τ2 : pS) (e2 : pLe σ τ2) (q2 : Q1 (some (0, v2)) τ2) (c6 : v2 ≠ 0), pR mX3_shutIn d 5 [(2, 35), (0, x1), (2, x2), (0, (i_or x3 (i_shl 1 x4))), (0, (x4 + 1))] [] τ2 Q) : pR mX3_shutIn d 5 [(2, 35), (0, x1), (2, x2), (0, x3), (0, x4)] [] σ Q := by
  refine pGo (s_iload dX3_shutIn_5 rfl) ?_
  refine pGo (s_bipush dX3_shutIn_7 (by decide)) ?_
  refine p_icge (tgt := 48) dX3_shutIn_9 (by decide) g1 (by decide) (fun c1 => ?_) (fun c2 => ?_)
  · refine pGo (s_iload_n dX3_shutIn_48 rfl) ?_
    exact pEnd (r := (some (0, x3))) dX3_shutIn_49 ⟨_, rfl⟩ (k1 c1)
  · refine pGo (s_aload_n dX3_shutIn_12 rfl (by decide)) ?_
    refine pGoE (y := (rd σ 35 4)) (s_getR pc3 fl_X3_28 dX3_shutIn_13 (ob_35 hst) rfl rfl) rfl ?_
    refine pGo (s_iload dX3_shutIn_16 rfl) ?_
    refine p_callV (As := [(0, x4)]) (st := []) (n := 1) (d' := 1) (Q1 := (fun r τ => r = some (0, b2i (vHas (rd σ (rd σ 35 4) 0) (rd σ (rd σ 35 4) 1) x4)) ∧ τ = σ)) pc6 ok_X6_has ml_X3_63 im_X6_has se_X6_has dX3_shutIn_18 (g2 c2).o0 (pargs_of rfl) rfl (Nat.le_of_ble_eq_true rfl) (by omega) (f1 c2) (fun r1 τ1 e1 q1 w1 => ?_)
    obtain ⟨rfl, t1⟩ := q1
    rw [t1]
    show pR mX3_shutIn d 21 [(2, 35), (0, x1), (2, x2), (0, x3), (0, x4)] [(0, (b2i (vHas (rd σ (rd σ 35 4) 0) (rd σ (rd σ 35 4) 1) x4)))] σ Q
    refine p_ifeqB (tgt := 42) dX3_shutIn_21 (by decide) (fun c3 => ?_) (fun c4 => ?_)
    · refine pGoL (ls2 := [(2, 35), (0, x1), (2, x2), (0, x3), (0, (x4 + 1))]) (s_iinc dX3_shutIn_42 (by decide) rfl rfl) rfl ?_
      refine pGo (s_goto (tgt := 5) dX3_shutIn_45 (by decide)) ?_
      exact (k2 c2 c3)
    · refine pGo (s_aload_n dX3_shutIn_24 rfl Ix2.pos) ?_
      refine pGo (s_aload_n dX3_shutIn_25 rfl (by decide)) ?_
      refine pGo (s_iload dX3_shutIn_26 rfl) ?_
      refine pGo (s_iload_n dX3_shutIn_28 rfl) ?_
      refine p_callV (As := [(2, 35), (0, x4), (0, x1)]) (st := []) (n := 3) (d' := 1) (Q1 := Q1) pc2 ok_X2_shuts ml_X3_69 im_X2_shuts se_X2_shuts dX3_shutIn_29 Ix2.o0 (pargs_of rfl) rfl (Nat.le_of_ble_eq_true rfl) (by omega) (f2 c2 c4) (fun r2 τ2 e2 q2 w2 => ?_)
      obtain ⟨v2, rfl, b2⟩ := pRok_z w2
      have S2 : Stat τ2 := (Stat.le (σ := σ) hst e2)
      have J2_0 : Inst2 τ2 x2 nx2 := Inst2.le (σ := σ) Ix2 e2
      have J2_1 : Inst6 τ2 (rd σ 35 4) := Inst6.le (σ := σ) (g2 c2) e2
      show pR mX3_shutIn d 32 [(2, 35), (0, x1), (2, x2), (0, x3), (0, x4)] [(0, v2)] τ2 Q
      refine p_ifeq (tgt := 42) dX3_shutIn_32 (by decide) (g3 c2 c4 v2 b2 τ2 e2 q2) (fun c5 => ?_) (fun c6 => ?_)
      · refine pGoL (ls2 := [(2, 35), (0, x1), (2, x2), (0, x3), (0, (x4 + 1))]) (s_iinc dX3_shutIn_42 (by decide) rfl rfl) rfl ?_
        refine pGo (s_goto (tgt := 5) dX3_shutIn_45 (by decide)) ?_
        exact (k3 c2 c4 v2 b2 τ2 e2 q2 c5)
      · refine pGo (s_iload_n dX3_shutIn_35 rfl) ?_
        refine pGo (s_iconst dX3_shutIn_36) ?_
        refine pGo (s_iload dX3_shutIn_37 rfl) ?_
        refine pGo (s_ishl dX3_shutIn_39) ?_
        refine pGo (s_ior dX3_shutIn_40) ?_
        refine pGoL (ls2 := [(2, 35), (0, x1), (2, x2), (0, (i_or x3 (i_shl 1 x4))), (0, x4)]) (s_istore_n dX3_shutIn_41 (by decide) rfl) rfl ?_
        refine pGoL (ls2 := [(2, 35), (0, x1), (2, x2), (0, (i_or x3 (i_shl 1 x4))), (0, (x4 + 1))]) (s_iinc dX3_shutIn_42 (by decide) rfl rfl) rfl ?_
        refine pGo (s_goto (tgt := 5) dX3_shutIn_45 (by decide)) ?_
        exact (k4 c2 c4 v2 b2 τ2 e2 q2 c6)
set_option maxRecDepth 100000 in
theorem g_X3_look_0 {d : Nat} {σ : pS} {Q : Option pV → pS → Prop} {Q1 : Option pV → pS → Prop} {Q2 : Option pV → pS → Prop} (hd : 3 ≤ d) (hst : Stat σ) (x1 : Int) (x2 : Int) (x4 : Int) (Ix1 : Inst6 σ x1) {nx2 : Nat} (Ix2 : Inst2 σ x2 nx2) (f1 : pC mJ7_fill_53178 0 [(2, 36), (0, (-1))] (wr (wr σ 35 4 x1) 35 6 x4) Q1) (f2 : ∀ (τ1 : pS) (e1 : pLe (wr (wr σ 35 4 x1) 35 6 x4) τ1) (q1 : Q1 none τ1), pC mJ7_fill_53178 0 [(2, 37), (0, 0)] τ1 Q2) (k1 : ∀ (τ1 : pS) (e1 : pLe (wr (wr σ 35 4 x1) 35 6 x4) τ1) (q1 : Q1 none τ1) (τ2 : pS) (e2 : pLe τ1 τ2) (q2 : Q2 none τ2), pR mX3_look d 30 [(2, 35), (2, x1), (2, x2), (2, 23), (0, x4), (0, 0), (9, 0), (9, 0)] [] τ2 Q) : pC mX3_look d [(2, 35), (2, x1), (2, x2), (2, 23), (0, x4)] σ Q := by
  show pR mX3_look d 0 [(2, 35), (2, x1), (2, x2), (2, 23), (0, x4), (9, 0), (9, 0), (9, 0)] [] σ Q
  refine pGo (s_aload_n dX3_look_0 rfl (by decide)) ?_
  refine pGo (s_aload_n dX3_look_1 rfl Ix1.pos) ?_
  refine pGo (s_putR pc3 fl_X3_28 dX3_look_2 (ob_35 hst) rfl rfl rfl rfl) ?_
  refine pGo (s_aload_n dX3_look_5 rfl (by decide)) ?_
  refine pGo (s_iload dX3_look_6 rfl) ?_
  refine pGo (s_putI pc3 fl_X3_32 dX3_look_8 (ob_35 hst) rfl rfl rfl rfl) ?_
  refine pGo (s_aload_n dX3_look_11 rfl (by decide)) ?_
  refine pGoE (y := 36) (s_getF pc3 fl_X3_9 dX3_look_12 (ob_35 hst) rfl (by decide)) (by decide) ?_
  refine pGo (s_iconst dX3_look_15) ?_
  refine p_callS (As := [(2, 36), (0, (-1))]) (st := []) (n := 2) (d' := 0) (Q1 := Q1) ok_J7_fill_53178 ml_X3_35 sm_J7_fill_53178 dX3_look_16 (pargs_of rfl) rfl (Nat.le_of_ble_eq_true rfl) (by omega) f1 (fun r1 τ1 e1 q1 w1 => ?_)
  obtain rfl : r1 = none := w1
  have S1 : Stat τ1 := (Stat.le (σ := (wr (wr σ 35 4 x1) 35 6 x4)) hst e1)
  have J1_0 : Inst6 τ1 x1 := Inst6.le (σ := (wr (wr σ 35 4 x1) 35 6 x4)) Ix1 e1
  have J1_1 : Inst2 τ1 x2 nx2 := Inst2.le (σ := (wr (wr σ 35 4 x1) 35 6 x4)) Ix2 e1
  show pR mX3_look d 19 [(2, 35), (2, x1), (2, x2), (2, 23), (0, x4), (9, 0), (9, 0), (9, 0)] [] τ1 Q
  refine pGo (s_aload_n dX3_look_19 rfl (by decide)) ?_
  refine pGoE (y := 37) (s_getF pc3 fl_X3_15 dX3_look_20 (ob_35 S1) rfl (by decide)) (by decide) ?_
  refine pGo (s_iconst dX3_look_23) ?_
  refine p_callS (As := [(2, 37), (0, 0)]) (st := []) (n := 2) (d' := 0) (Q1 := Q2) ok_J7_fill_53178 ml_X3_35 sm_J7_fill_53178 dX3_look_24 (pargs_of rfl) rfl (Nat.le_of_ble_eq_true rfl) (by omega) (f2 τ1 e1 q1) (fun r2 τ2 e2 q2 w2 => ?_)
  obtain rfl : r2 = none := w2
  have S2 : Stat τ2 := (Stat.le (σ := τ1) S1 e2)
  have J2_0 : Inst6 τ2 x1 := Inst6.le (σ := τ1) J1_0 e2
  have J2_1 : Inst2 τ2 x2 nx2 := Inst2.le (σ := τ1) J1_1 e2
  show pR mX3_look d 27 [(2, 35), (2, x1), (2, x2), (2, 23), (0, x4), (9, 0), (9, 0), (9, 0)] [] τ2 Q
  refine pGo (s_iconst dX3_look_27) ?_
  refine pGoL (ls2 := [(2, 35), (2, x1), (2, x2), (2, 23), (0, x4), (0, 0), (9, 0), (9, 0)]) (s_istore dX3_look_28 (by decide) rfl) rfl ?_
  exact (k1 τ1 e1 q1 τ2 e2 q2)
set_option maxRecDepth 100000 in
theorem g_X3_look_30 {d : Nat} {σ : pS} {Q : Option pV → pS → Prop} (hd : 3 ≤ d) (hst : Stat σ) (x1 : Int) (x2 : Int) (x4 : Int) (x5 : Int) (u6 : pV) (u7 : pV) (Ix1 : Inst6 σ x1) {nx2 : Nat} (Ix2 : Inst2 σ x2 nx2) (hu6 : u6.1 ≠ 1) (hu7 : u7.1 ≠ 1) (g1 : inR x5) (g2 : inR (rd σ 23 5)) (k1 : ∀ (c1 : (rd σ 23 5) ≤ x5), pR mX3_look d 102 [(2, 35), (2, x1), (2, x2), (2, 23), (0, x4), (0, 0), (0, 0), (0, 0)] [] σ Q) (f1 : ∀ (c2 : x5 < (rd σ 23 5)), pC mX8_counts 0 [(2, 23), (0, x5), (0, x4)] σ (fun r τ => r = some (0, b2i (vCounts (rd σ (23 + 1) x5) (rd σ (23 + 2) x5) x4)) ∧ τ = σ)) (k2 : ∀ (c2 : x5 < (rd σ 23 5)) (c3 : (vCounts (rd σ (23 + 1) x5) (rd σ (23 + 2) x5) x4) = false), pR mX3_look d 30 [(2, 35), (2, x1), (2, x2), (2, 23), (0, x4), (0, (x5 + 1)), u6, u7] [] σ Q) (g3 : ∀ (c2 : x5 < (rd σ 23 5)) (c4 : (vCounts (rd σ (23 + 1) x5) (rd σ (23 + 2) x5) x4) = true), 0 ≤ x5 ∧ x5 < 60) (g4 : ∀ (c2 : x5 < (rd σ 23 5)) (c4 : (vCounts (rd σ (23 + 1) x5) (rd σ (23 + 2) x5) x4) = true), 0 ≤ (rd σ 26 x5) ∧ (rd σ 26 x5) < 8) (k3 : ∀ (c2 : x5 < (rd σ 23 5)) (c4 : (vCounts (rd σ (23 + 1) x5) (rd σ (23 + 2) x5) x4) = true), pR mX3_look d 30 [(2, 35), (2, x1), (2, x2), (2, 23), (0, x4), (0, (x5 + 1)), (0, (rd σ 26 x5)), u7] [] (wr (wr σ 36 (rd σ 26 x5) (rd σ 27 x5)) 37 (rd σ 26 x5) (rd σ 28 x5)) Q) : pR mX3_look d 30 [(2, 35), (2, x1), (2, x2), (2, 23), (0, x4), (0, x5), u6, u7] [] σ Q := by
  refine pGo (s_iload dX3_look_30 rfl) ?_
  refine pGo (s_aload_n dX3_look_32 rfl (by decide)) ?_
  refine pGoE (y := (rd σ 23 5)) (s_getI pc8 fl_X3_41 dX3_look_33 (ob_23 hst) rfl (by decide)) rfl ?_
  refine p_icge (tgt := 93) dX3_look_36 (by decide) g1 g2 (fun c1 => ?_) (fun c2 => ?_)
  · refine pGo (s_iconst dX3_look_93) ?_
    refine pGoL (ls2 := [(2, 35), (2, x1), (2, x2), (2, 23), (0, x4), (0, 0), u6, u7]) (s_istore dX3_look_94 (by decide) rfl) rfl ?_
    refine pGo (s_iconst dX3_look_96) ?_
    refine pGoL (ls2 := [(2, 35), (2, x1), (2, x2), (2, 23), (0, x4), (0, 0), (0, 0), u7]) (s_istore dX3_look_97 (by decide) rfl) rfl ?_
    refine pGo (s_iconst dX3_look_99) ?_
    refine pGoL (ls2 := [(2, 35), (2, x1), (2, x2), (2, 23), (0, x4), (0, 0), (0, 0), (0, 0)]) (s_istore dX3_look_100 (by decide) rfl) rfl ?_
    exact (k1 c1)
  · refine pGo (s_aload_n dX3_look_39 rfl (by decide)) ?_
    refine pGo (s_iload dX3_look_40 rfl) ?_
    refine pGo (s_iload dX3_look_42 rfl) ?_
    refine p_callV (As := [(0, x5), (0, x4)]) (st := []) (n := 2) (d' := 0) (Q1 := (fun r τ => r = some (0, b2i (vCounts (rd σ (23 + 1) x5) (rd σ (23 + 2) x5) x4)) ∧ τ = σ)) pc8 ok_X8_counts ml_X3_46 im_X8_counts se_X8_counts dX3_look_44 (ob_23 hst) (pargs_of rfl) rfl (Nat.le_of_ble_eq_true rfl) (by omega) (f1 c2) (fun r1 τ1 e1 q1 w1 => ?_)
    obtain ⟨rfl, t1⟩ := q1
    rw [t1]
    show pR mX3_look d 47 [(2, 35), (2, x1), (2, x2), (2, 23), (0, x4), (0, x5), u6, u7] [(0, (b2i (vCounts (rd σ (23 + 1) x5) (rd σ (23 + 2) x5) x4)))] σ Q
    refine p_ifeqB (tgt := 87) dX3_look_47 (by decide) (fun c3 => ?_) (fun c4 => ?_)
    · refine pGoL (ls2 := [(2, 35), (2, x1), (2, x2), (2, 23), (0, x4), (0, (x5 + 1)), u6, u7]) (s_iinc dX3_look_87 (by decide) rfl rfl) rfl ?_
      refine pGo (s_goto (tgt := 30) dX3_look_90 (by decide)) ?_
      exact (k2 c2 c3)
    · refine pGo (s_aload_n dX3_look_50 rfl (by decide)) ?_
      refine pGoE (y := 26) (s_getF pc8 fl_X3_50 dX3_look_51 (ob_23 hst) rfl (by decide)) (by decide) ?_
      refine pGo (s_iload dX3_look_54 rfl) ?_
      refine pGoE (y := (rd σ 26 x5)) (s_iald dX3_look_56 (ob_26 hst) (bnd (g3 c2 c4))) rfl ?_
      refine pGoL (ls2 := [(2, 35), (2, x1), (2, x2), (2, 23), (0, x4), (0, x5), (0, (rd σ 26 x5)), u7]) (s_istore dX3_look_57 (by decide) rfl) rfl ?_
      refine pGo (s_aload_n dX3_look_59 rfl (by decide)) ?_
      refine pGoE (y := 36) (s_getF pc3 fl_X3_9 dX3_look_60 (ob_35 hst) rfl (by decide)) (by decide) ?_
      refine pGo (s_iload dX3_look_63 rfl) ?_
      refine pGo (s_aload_n dX3_look_65 rfl (by decide)) ?_
      refine pGoE (y := 27) (s_getF pc8 fl_X3_53 dX3_look_66 (ob_23 hst) rfl (by decide)) (by decide) ?_
      refine pGo (s_iload dX3_look_69 rfl) ?_
      refine pGoE (y := (rd σ 27 x5)) (s_iald dX3_look_71 (ob_27 hst) (bnd (g3 c2 c4))) rfl ?_
      refine pGo (s_iast dX3_look_72 (ob_36 hst) (bnd (g4 c2 c4))) ?_
      refine pGo (s_aload_n dX3_look_73 rfl (by decide)) ?_
      refine pGoE (y := 37) (s_getF pc3 fl_X3_15 dX3_look_74 (ob_35 hst) rfl (by decide)) (by decide) ?_
      refine pGo (s_iload dX3_look_77 rfl) ?_
      refine pGo (s_aload_n dX3_look_79 rfl (by decide)) ?_
      refine pGoE (y := 28) (s_getF pc8 fl_X3_56 dX3_look_80 (ob_23 hst) rfl (by decide)) (by decide) ?_
      refine pGo (s_iload dX3_look_83 rfl) ?_
      refine pGoE (y := (rd σ 28 x5)) (s_iald dX3_look_85 (ob_28 hst) (bnd (g3 c2 c4))) (rd_wr_a _ (by decide)) ?_
      refine pGo (s_iast dX3_look_86 (ob_37 hst) (bnd (g4 c2 c4))) ?_
      refine pGoL (ls2 := [(2, 35), (2, x1), (2, x2), (2, 23), (0, x4), (0, (x5 + 1)), (0, (rd σ 26 x5)), u7]) (s_iinc dX3_look_87 (by decide) rfl rfl) rfl ?_
      refine pGo (s_goto (tgt := 30) dX3_look_90 (by decide)) ?_
      exact (k3 c2 c4)
set_option maxRecDepth 100000 in
theorem g_X3_look_102 {d : Nat} {σ : pS} {Q : Option pV → pS → Prop} {Q1 : Option pV → pS → Prop} {Q2 : Option pV → pS → Prop} (hd : 3 ≤ d) (hst : Stat σ) (x1 : Int) (x2 : Int) (x4 : Int) (x5 : Int) (x6 : Int) (x7 : Int) (Ix1 : Inst6 σ x1) {nx2 : Nat} (Ix2 : Inst2 σ x2 nx2) (g1 : inR x7) (k1 : ∀ (c1 : 8 ≤ x7), Q none σ) (g2 : ∀ (c2 : x7 < 8), 0 ≤ x7 ∧ x7 < 8) (g3 : ∀ (c2 : x7 < 8), inR (rd σ 36 x7)) (f1 : ∀ (c2 : x7 < 8) (c3 : (rd σ 36 x7) ≠ (-1)), pC mX3_shutIn 2 [(2, 35), (0, x7), (2, x2)] (wr (wr σ 36 x7 (rd σ 36 x7)) 38 x7 (x6 + (rd σ 37 x7))) Q1) (k2 : ∀ (c2 : x7 < 8) (c3 : (rd σ 36 x7) ≠ (-1)) (v1 : Int) (τ1 : pS) (e1 : pLe (wr (wr σ 36 x7 (rd σ 36 x7)) 38 x7 (x6 + (rd σ 37 x7))) τ1) (q1 : Q1 (some (0, v1)) τ1), pR mX3_look d 102 [(2, 35), (2, x1), (2, x2), (2, 23), (0, x4), (0, (rd σ 36 x7)), (0, (x6 + (rd σ 37 x7))), (0, (x7 + 1))] [] (wr τ1 39 x7 v1) Q) (f2 : ∀ (c2 : x7 < 8) (c4 : (rd σ 36 x7) = (-1)), pC mX3_shutIn 2 [(2, 35), (0, x7), (2, x2)] (wr (wr σ 36 x7 x5) 38 x7 (x6 + (rd σ 37 x7))) Q2) (k3 : ∀ (c2 : x7 < 8) (c4 : (rd σ 36 x7) = (-1)) (v2 : Int) (τ2 : pS) (e2 : pLe (wr (wr σ 36 x7 x5) 38 x7 (x6 + (rd σ 37 x7))) τ2) (q2 : Q2 (some (0, v2)) τ2), pR mX3_look d 102 [(2, 35), (2, x1), (2, x2), (2, 23), (0, x4), (0, x5), (0, (x6 + (rd σ 37 x7))), (0, (x7 + 1))] [] (wr τ2 39 x7 v2) Q) : pR mX3_look d 102 [(2, 35), (2, x1), (2, x2), (2, 23), (0, x4), (0, x5), (0, x6), (0, x7)] [] σ Q := by
  refine pGo (s_iload dX3_look_102 rfl) ?_
  refine pGo (s_bipush dX3_look_104 (by decide)) ?_
  refine p_icge (tgt := 194) dX3_look_106 (by decide) g1 (by decide) (fun c1 => ?_) (fun c2 => ?_)
  · exact pEnd (r := none) dX3_look_194 rfl (k1 c1)
  · refine pGo (s_aload_n dX3_look_109 rfl (by decide)) ?_
    refine pGoE (y := 36) (s_getF pc3 fl_X3_9 dX3_look_110 (ob_35 hst) rfl (by decide)) (by decide) ?_
    refine pGo (s_iload dX3_look_113 rfl) ?_
    refine pGo (s_aload_n dX3_look_115 rfl (by decide)) ?_
    refine pGoE (y := 36) (s_getF pc3 fl_X3_9 dX3_look_116 (ob_35 hst) rfl (by decide)) (by decide) ?_
    refine pGo (s_iload dX3_look_119 rfl) ?_
    refine pGoE (y := (rd σ 36 x7)) (s_iald dX3_look_121 (ob_36 hst) (bnd (g2 c2))) rfl ?_
    refine pGo (s_iconst dX3_look_122) ?_
    refine p_icne (tgt := 131) dX3_look_123 (by decide) (g3 c2) (by decide) (fun c3 => ?_) (fun c4 => ?_)
    · refine pGo (s_aload_n dX3_look_131 rfl (by decide)) ?_
      refine pGoE (y := 36) (s_getF pc3 fl_X3_9 dX3_look_132 (ob_35 hst) rfl (by decide)) (by decide) ?_
      refine pGo (s_iload dX3_look_135 rfl) ?_
      refine pGoE (y := (rd σ 36 x7)) (s_iald dX3_look_137 (ob_36 hst) (bnd (g2 c2))) rfl ?_
      refine pGo (s_iast dX3_look_138 (ob_36 hst) (bnd (g2 c2))) ?_
      refine pGo (s_aload_n dX3_look_139 rfl (by decide)) ?_
      refine pGoE (y := 38) (s_getF pc3 fl_X3_18 dX3_look_140 (ob_35 hst) rfl (by decide)) (by decide) ?_
      refine pGo (s_iload dX3_look_143 rfl) ?_
      refine pGo (s_iload dX3_look_145 rfl) ?_
      refine pGo (s_aload_n dX3_look_147 rfl (by decide)) ?_
      refine pGoE (y := 37) (s_getF pc3 fl_X3_15 dX3_look_148 (ob_35 hst) rfl (by decide)) (by decide) ?_
      refine pGo (s_iload dX3_look_151 rfl) ?_
      refine pGoE (y := (rd σ 37 x7)) (s_iald dX3_look_153 (ob_37 hst) (bnd (g2 c2))) (rd_wr_a _ (by decide)) ?_
      refine pGo (s_iadd dX3_look_154) ?_
      refine pGo (s_iast dX3_look_155 (ob_38 hst) (bnd (g2 c2))) ?_
      refine pGo (s_aload_n dX3_look_156 rfl (by decide)) ?_
      refine pGoE (y := 36) (s_getF pc3 fl_X3_9 dX3_look_157 (ob_35 hst) rfl (by decide)) (by decide) ?_
      refine pGo (s_iload dX3_look_160 rfl) ?_
      refine pGoE (y := (rd σ 36 x7)) (s_iald dX3_look_162 (ob_36 hst) (bnd (g2 c2))) ((rd_wr_a _ (by decide)).trans (rd_wr_same _ _ _ _)) ?_
      refine pGoL (ls2 := [(2, 35), (2, x1), (2, x2), (2, 23), (0, x4), (0, (rd σ 36 x7)), (0, x6), (0, x7)]) (s_istore dX3_look_163 (by decide) rfl) rfl ?_
      refine pGo (s_aload_n dX3_look_165 rfl (by decide)) ?_
      refine pGoE (y := 38) (s_getF pc3 fl_X3_18 dX3_look_166 (ob_35 hst) rfl (by decide)) (by decide) ?_
      refine pGo (s_iload dX3_look_169 rfl) ?_
      refine pGoE (y := (x6 + (rd σ 37 x7))) (s_iald dX3_look_171 (ob_38 hst) (bnd (g2 c2))) (rd_wr_same _ _ _ _) ?_
      refine pGoL (ls2 := [(2, 35), (2, x1), (2, x2), (2, 23), (0, x4), (0, (rd σ 36 x7)), (0, (x6 + (rd σ 37 x7))), (0, x7)]) (s_istore dX3_look_172 (by decide) rfl) rfl ?_
      refine pGo (s_aload_n dX3_look_174 rfl (by decide)) ?_
      refine pGoE (y := 39) (s_getF pc3 fl_X3_21 dX3_look_175 (ob_35 hst) rfl (by decide)) (by decide) ?_
      refine pGo (s_iload dX3_look_178 rfl) ?_
      refine pGo (s_aload_n dX3_look_180 rfl (by decide)) ?_
      refine pGo (s_iload dX3_look_181 rfl) ?_
      refine pGo (s_aload_n dX3_look_183 rfl Ix2.pos) ?_
      refine p_callV (As := [(0, x7), (2, x2)]) (st := [(0, x7), (2, 39)]) (n := 2) (d' := 2) (Q1 := Q1) pc3 ok_X3_shutIn ml_X3_59 im_X3_shutIn se_X3_shutIn dX3_look_184 (ob_35 hst) (pargs_of rfl) rfl (Nat.le_of_ble_eq_true rfl) (by omega) (f1 c2 c3) (fun r1 τ1 e1 q1 w1 => ?_)
      obtain ⟨v1, rfl⟩ := w1
      have S1 : Stat τ1 := (Stat.le (σ := (wr (wr σ 36 x7 (rd σ 36 x7)) 38 x7 (x6 + (rd σ 37 x7)))) hst e1)
      have J1_0 : Inst6 τ1 x1 := Inst6.le (σ := (wr (wr σ 36 x7 (rd σ 36 x7)) 38 x7 (x6 + (rd σ 37 x7)))) Ix1 e1
      have J1_1 : Inst2 τ1 x2 nx2 := Inst2.le (σ := (wr (wr σ 36 x7 (rd σ 36 x7)) 38 x7 (x6 + (rd σ 37 x7)))) Ix2 e1
      show pR mX3_look d 187 [(2, 35), (2, x1), (2, x2), (2, 23), (0, x4), (0, (rd σ 36 x7)), (0, (x6 + (rd σ 37 x7))), (0, x7)] [(0, v1), (0, x7), (2, 39)] τ1 Q
      refine pGo (s_iast dX3_look_187 (ob_39 S1) (bnd (g2 c2))) ?_
      refine pGoL (ls2 := [(2, 35), (2, x1), (2, x2), (2, 23), (0, x4), (0, (rd σ 36 x7)), (0, (x6 + (rd σ 37 x7))), (0, (x7 + 1))]) (s_iinc dX3_look_188 (by decide) rfl rfl) rfl ?_
      refine pGo (s_goto (tgt := 102) dX3_look_191 (by decide)) ?_
      exact (k2 c2 c3 v1 τ1 e1 q1)
    · refine pGo (s_iload dX3_look_126 rfl) ?_
      refine pGo (s_goto (tgt := 138) dX3_look_128 (by decide)) ?_
      refine pGo (s_iast dX3_look_138 (ob_36 hst) (bnd (g2 c2))) ?_
      refine pGo (s_aload_n dX3_look_139 rfl (by decide)) ?_
      refine pGoE (y := 38) (s_getF pc3 fl_X3_18 dX3_look_140 (ob_35 hst) rfl (by decide)) (by decide) ?_
      refine pGo (s_iload dX3_look_143 rfl) ?_
      refine pGo (s_iload dX3_look_145 rfl) ?_
      refine pGo (s_aload_n dX3_look_147 rfl (by decide)) ?_
      refine pGoE (y := 37) (s_getF pc3 fl_X3_15 dX3_look_148 (ob_35 hst) rfl (by decide)) (by decide) ?_
      refine pGo (s_iload dX3_look_151 rfl) ?_
      refine pGoE (y := (rd σ 37 x7)) (s_iald dX3_look_153 (ob_37 hst) (bnd (g2 c2))) (rd_wr_a _ (by decide)) ?_
      refine pGo (s_iadd dX3_look_154) ?_
      refine pGo (s_iast dX3_look_155 (ob_38 hst) (bnd (g2 c2))) ?_
      refine pGo (s_aload_n dX3_look_156 rfl (by decide)) ?_
      refine pGoE (y := 36) (s_getF pc3 fl_X3_9 dX3_look_157 (ob_35 hst) rfl (by decide)) (by decide) ?_
      refine pGo (s_iload dX3_look_160 rfl) ?_
      refine pGoE (y := x5) (s_iald dX3_look_162 (ob_36 hst) (bnd (g2 c2))) ((rd_wr_a _ (by decide)).trans (rd_wr_same _ _ _ _)) ?_
      refine pGoL (ls2 := [(2, 35), (2, x1), (2, x2), (2, 23), (0, x4), (0, x5), (0, x6), (0, x7)]) (s_istore dX3_look_163 (by decide) rfl) rfl ?_
      refine pGo (s_aload_n dX3_look_165 rfl (by decide)) ?_
      refine pGoE (y := 38) (s_getF pc3 fl_X3_18 dX3_look_166 (ob_35 hst) rfl (by decide)) (by decide) ?_
      refine pGo (s_iload dX3_look_169 rfl) ?_
      refine pGoE (y := (x6 + (rd σ 37 x7))) (s_iald dX3_look_171 (ob_38 hst) (bnd (g2 c2))) (rd_wr_same _ _ _ _) ?_
      refine pGoL (ls2 := [(2, 35), (2, x1), (2, x2), (2, 23), (0, x4), (0, x5), (0, (x6 + (rd σ 37 x7))), (0, x7)]) (s_istore dX3_look_172 (by decide) rfl) rfl ?_
      refine pGo (s_aload_n dX3_look_174 rfl (by decide)) ?_
      refine pGoE (y := 39) (s_getF pc3 fl_X3_21 dX3_look_175 (ob_35 hst) rfl (by decide)) (by decide) ?_
      refine pGo (s_iload dX3_look_178 rfl) ?_
      refine pGo (s_aload_n dX3_look_180 rfl (by decide)) ?_
      refine pGo (s_iload dX3_look_181 rfl) ?_
      refine pGo (s_aload_n dX3_look_183 rfl Ix2.pos) ?_
      refine p_callV (As := [(0, x7), (2, x2)]) (st := [(0, x7), (2, 39)]) (n := 2) (d' := 2) (Q1 := Q2) pc3 ok_X3_shutIn ml_X3_59 im_X3_shutIn se_X3_shutIn dX3_look_184 (ob_35 hst) (pargs_of rfl) rfl (Nat.le_of_ble_eq_true rfl) (by omega) (f2 c2 c4) (fun r2 τ2 e2 q2 w2 => ?_)
      obtain ⟨v2, rfl⟩ := w2
      have S2 : Stat τ2 := (Stat.le (σ := (wr (wr σ 36 x7 x5) 38 x7 (x6 + (rd σ 37 x7)))) hst e2)
      have J2_0 : Inst6 τ2 x1 := Inst6.le (σ := (wr (wr σ 36 x7 x5) 38 x7 (x6 + (rd σ 37 x7)))) Ix1 e2
      have J2_1 : Inst2 τ2 x2 nx2 := Inst2.le (σ := (wr (wr σ 36 x7 x5) 38 x7 (x6 + (rd σ 37 x7)))) Ix2 e2
      show pR mX3_look d 187 [(2, 35), (2, x1), (2, x2), (2, 23), (0, x4), (0, x5), (0, (x6 + (rd σ 37 x7))), (0, x7)] [(0, v2), (0, x7), (2, 39)] τ2 Q
      refine pGo (s_iast dX3_look_187 (ob_39 S2) (bnd (g2 c2))) ?_
      refine pGoL (ls2 := [(2, 35), (2, x1), (2, x2), (2, 23), (0, x4), (0, x5), (0, (x6 + (rd σ 37 x7))), (0, (x7 + 1))]) (s_iinc dX3_look_188 (by decide) rfl rfl) rfl ?_
      refine pGo (s_goto (tgt := 102) dX3_look_191 (by decide)) ?_
      exact (k3 c2 c4 v2 τ2 e2 q2)
set_option maxRecDepth 100000 in
theorem g_X10_look_0 {d : Nat} {σ : pS} {Q : Option pV → pS → Prop} {Q1 : Option pV → pS → Prop} {Q2 : Option pV → pS → Prop} (hd : 4 ≤ d) (hst : Stat σ) (x1 : Int)  (g1 : inR (rd σ 35 5)) (g2 : inR (rd σ 0 6)) (f1 : ∀ (c1 : (rd σ 35 5) ≠ (rd σ 0 6)), pC mX3_look 3 [(2, 35), (2, (rd σ 0 7)), (2, (rd σ 0 8)), (2, 23), (0, x1)] σ Q1) (k1 : ∀ (c1 : (rd σ 35 5) ≠ (rd σ 0 6)) (τ1 : pS) (e1 : pLe σ τ1) (q1 : Q1 none τ1), Q none (wr τ1 35 5 (rd τ1 0 6))) (g3 : ∀ (c2 : (rd σ 35 5) = (rd σ 0 6)), inR (rd σ 35 6)) (g4 : ∀ (c2 : (rd σ 35 5) = (rd σ 0 6)), inR x1) (k2 : ∀ (c2 : (rd σ 35 5) = (rd σ 0 6)) (c3 : (rd σ 35 6) = x1), Q none σ) (f2 : ∀ (c2 : (rd σ 35 5) = (rd σ 0 6)) (c4 : (rd σ 35 6) ≠ x1), pC mX3_look 3 [(2, 35), (2, (rd σ 0 7)), (2, (rd σ 0 8)), (2, 23), (0, x1)] σ Q2) (k3 : ∀ (c2 : (rd σ 35 5) = (rd σ 0 6)) (c4 : (rd σ 35 6) ≠ x1) (τ2 : pS) (e2 : pLe σ τ2) (q2 : Q2 none τ2), Q none (wr τ2 35 5 (rd τ2 0 6))) : pC mX10_look d [(2, 0), (0, x1)] σ Q := by
  show pR mX10_look d 0 [(2, 0), (0, x1)] [] σ Q
  refine pGo (s_aload_n dX10_look_0 rfl (by decide)) ?_
  refine pGoE (y := 35) (s_getF pc10 fl_X10_55 dX10_look_1 (ob_0 hst) rfl (by decide)) (by decide) ?_
  refine pGoE (y := (rd σ 35 5)) (s_getI pc3 fl_X10_268 dX10_look_4 (ob_35 hst) rfl (by decide)) rfl ?_
  refine pGo (s_aload_n dX10_look_7 rfl (by decide)) ?_
  refine pGoE (y := (rd σ 0 6)) (s_getI pc10 fl_X10_113 dX10_look_8 (ob_0 hst) rfl (by decide)) rfl ?_
  refine p_icne (tgt := 25) dX10_look_11 (by decide) g1 g2 (fun c1 => ?_) (fun c2 => ?_)
  · refine pGo (s_aload_n dX10_look_25 rfl (by decide)) ?_
    refine pGoE (y := 35) (s_getF pc10 fl_X10_55 dX10_look_26 (ob_0 hst) rfl (by decide)) (by decide) ?_
    refine pGo (s_aload_n dX10_look_29 rfl (by decide)) ?_
    refine pGoE (y := (rd σ 0 7)) (s_getR pc10 fl_X10_27 dX10_look_30 (ob_0 hst) rfl rfl) rfl ?_
    refine pGo (s_aload_n dX10_look_33 rfl (by decide)) ?_
    refine pGoE (y := (rd σ 0 8)) (s_getR pc10 fl_X10_36 dX10_look_34 (ob_0 hst) rfl rfl) rfl ?_
    refine pGo (s_aload_n dX10_look_37 rfl (by decide)) ?_
    refine pGoE (y := 23) (s_getF pc10 fl_X10_43 dX10_look_38 (ob_0 hst) rfl (by decide)) (by decide) ?_
    refine pGo (s_iload_n dX10_look_41 rfl) ?_
    refine p_callV (As := [(2, (rd σ 0 7)), (2, (rd σ 0 8)), (2, 23), (0, x1)]) (st := []) (n := 4) (d' := 3) (Q1 := Q1) pc3 ok_X3_look ml_X10_272 im_X3_look se_X3_look dX10_look_42 (ob_35 hst) (pargs_of rfl) rfl (Nat.le_of_ble_eq_true rfl) (by omega) (f1 c1) (fun r1 τ1 e1 q1 w1 => ?_)
    obtain rfl : r1 = none := w1
    have S1 : Stat τ1 := (Stat.le (σ := σ) hst e1)
    show pR mX10_look d 45 [(2, 0), (0, x1)] [] τ1 Q
    refine pGo (s_aload_n dX10_look_45 rfl (by decide)) ?_
    refine pGoE (y := 35) (s_getF pc10 fl_X10_55 dX10_look_46 (ob_0 S1) rfl (by decide)) (by decide) ?_
    refine pGo (s_aload_n dX10_look_49 rfl (by decide)) ?_
    refine pGoE (y := (rd τ1 0 6)) (s_getI pc10 fl_X10_113 dX10_look_50 (ob_0 S1) rfl (by decide)) rfl ?_
    refine pGo (s_putI pc3 fl_X10_268 dX10_look_53 (ob_35 S1) rfl rfl rfl rfl) ?_
    exact pEnd (r := none) dX10_look_56 rfl (k1 c1 τ1 e1 q1)
  · refine pGo (s_aload_n dX10_look_14 rfl (by decide)) ?_
    refine pGoE (y := 35) (s_getF pc10 fl_X10_55 dX10_look_15 (ob_0 hst) rfl (by decide)) (by decide) ?_
    refine pGoE (y := (rd σ 35 6)) (s_getI pc3 fl_X10_269 dX10_look_18 (ob_35 hst) rfl (by decide)) rfl ?_
    refine pGo (s_iload_n dX10_look_21 rfl) ?_
    refine p_iceq (tgt := 56) dX10_look_22 (by decide) (g3 c2) (g4 c2) (fun c3 => ?_) (fun c4 => ?_)
    · exact pEnd (r := none) dX10_look_56 rfl (k2 c2 c3)
    · refine pGo (s_aload_n dX10_look_25 rfl (by decide)) ?_
      refine pGoE (y := 35) (s_getF pc10 fl_X10_55 dX10_look_26 (ob_0 hst) rfl (by decide)) (by decide) ?_
      refine pGo (s_aload_n dX10_look_29 rfl (by decide)) ?_
      refine pGoE (y := (rd σ 0 7)) (s_getR pc10 fl_X10_27 dX10_look_30 (ob_0 hst) rfl rfl) rfl ?_
      refine pGo (s_aload_n dX10_look_33 rfl (by decide)) ?_
      refine pGoE (y := (rd σ 0 8)) (s_getR pc10 fl_X10_36 dX10_look_34 (ob_0 hst) rfl rfl) rfl ?_
      refine pGo (s_aload_n dX10_look_37 rfl (by decide)) ?_
      refine pGoE (y := 23) (s_getF pc10 fl_X10_43 dX10_look_38 (ob_0 hst) rfl (by decide)) (by decide) ?_
      refine pGo (s_iload_n dX10_look_41 rfl) ?_
      refine p_callV (As := [(2, (rd σ 0 7)), (2, (rd σ 0 8)), (2, 23), (0, x1)]) (st := []) (n := 4) (d' := 3) (Q1 := Q2) pc3 ok_X3_look ml_X10_272 im_X3_look se_X3_look dX10_look_42 (ob_35 hst) (pargs_of rfl) rfl (Nat.le_of_ble_eq_true rfl) (by omega) (f2 c2 c4) (fun r2 τ2 e2 q2 w2 => ?_)
      obtain rfl : r2 = none := w2
      have S2 : Stat τ2 := (Stat.le (σ := σ) hst e2)
      show pR mX10_look d 45 [(2, 0), (0, x1)] [] τ2 Q
      refine pGo (s_aload_n dX10_look_45 rfl (by decide)) ?_
      refine pGoE (y := 35) (s_getF pc10 fl_X10_55 dX10_look_46 (ob_0 S2) rfl (by decide)) (by decide) ?_
      refine pGo (s_aload_n dX10_look_49 rfl (by decide)) ?_
      refine pGoE (y := (rd τ2 0 6)) (s_getI pc10 fl_X10_113 dX10_look_50 (ob_0 S2) rfl (by decide)) rfl ?_
      refine pGo (s_putI pc3 fl_X10_268 dX10_look_53 (ob_35 S2) rfl rfl rfl rfl) ?_
      exact pEnd (r := none) dX10_look_56 rfl (k3 c2 c4 τ2 e2 q2)
set_option maxRecDepth 100000 in
theorem g_X10_air_0 {d : Nat} {σ : pS} {Q : Option pV → pS → Prop} {Q1 : Option pV → pS → Prop} (hd : 5 ≤ d) (hst : Stat σ) (x1 : Int) (x2 : Int) (x3 : Int)  (f1 : pC mX10_within 0 [(0, x1), (0, 8)] σ (fun r τ => r = some (0, b2i (vWithin x1 8)) ∧ τ = σ)) (k1 : ∀ (c1 : (vWithin x1 8) = false), Q (some (0, (-1))) σ) (f2 : ∀ (c2 : (vWithin x1 8) = true), pC mX10_within 0 [(0, x2), (0, 2)] σ (fun r τ => r = some (0, b2i (vWithin x2 2)) ∧ τ = σ)) (f3 : ∀ (c2 : (vWithin x1 8) = true) (c3 : (vWithin x2 2) = true), pC mX10_look 4 [(2, 0), (0, x3)] σ Q1) (g1 : ∀ (c2 : (vWithin x1 8) = true) (c3 : (vWithin x2 2) = true) (τ3 : pS) (e3 : pLe σ τ3) (q3 : Q1 none τ3), inR x2) (g2 : ∀ (c2 : (vWithin x1 8) = true) (c3 : (vWithin x2 2) = true) (τ3 : pS) (e3 : pLe σ τ3) (q3 : Q1 none τ3) (c5 : x2 ≠ 0), 0 ≤ x1 ∧ x1 < 8) (k2 : ∀ (c2 : (vWithin x1 8) = true) (c3 : (vWithin x2 2) = true) (τ3 : pS) (e3 : pLe σ τ3) (q3 : Q1 none τ3) (c5 : x2 ≠ 0), Q (some (0, (rd τ3 37 x1))) τ3) (g3 : ∀ (c2 : (vWithin x1 8) = true) (c3 : (vWithin x2 2) = true) (τ3 : pS) (e3 : pLe σ τ3) (q3 : Q1 none τ3) (c6 : x2 = 0), 0 ≤ x1 ∧ x1 < 8) (k3 : ∀ (c2 : (vWithin x1 8) = true) (c3 : (vWithin x2 2) = true) (τ3 : pS) (e3 : pLe σ τ3) (q3 : Q1 none τ3) (c6 : x2 = 0), Q (some (0, (rd τ3 36 x1))) τ3) (k4 : ∀ (c2 : (vWithin x1 8) = true) (c4 : (vWithin x2 2) = false), Q (some (0, (-1))) σ) : pC mX10_air d [(2, 0), (0, x1), (0, x2), (0, x3)] σ Q := by
  show pR mX10_air d 0 [(2, 0), (0, x1), (0, x2), (0, x3)] [] σ Q
  refine pGo (s_iload_n dX10_air_0 rfl) ?_
  refine pGo (s_bipush dX10_air_1 (by decide)) ?_
  refine p_callS (As := [(0, x1), (0, 8)]) (st := []) (n := 2) (d' := 0) (Q1 := (fun r τ => r = some (0, b2i (vWithin x1 8)) ∧ τ = σ)) ok_X10_within ml_X10_138 sm_X10_within dX10_air_3 (pargs_of rfl) rfl (Nat.le_of_ble_eq_true rfl) (by omega) f1 (fun r1 τ1 e1 q1 w1 => ?_)
  obtain ⟨rfl, t1⟩ := q1
  rw [t1]
  show pR mX10_air d 6 [(2, 0), (0, x1), (0, x2), (0, x3)] [(0, (b2i (vWithin x1 8)))] σ Q
  refine p_ifeqB (tgt := 17) dX10_air_6 (by decide) (fun c1 => ?_) (fun c2 => ?_)
  · refine pGo (s_iconst dX10_air_17) ?_
    exact pEnd (r := (some (0, (-1)))) dX10_air_18 ⟨_, rfl⟩ (k1 c1)
  · refine pGo (s_iload_n dX10_air_9 rfl) ?_
    refine pGo (s_iconst dX10_air_10) ?_
    refine p_callS (As := [(0, x2), (0, 2)]) (st := []) (n := 2) (d' := 0) (Q1 := (fun r τ => r = some (0, b2i (vWithin x2 2)) ∧ τ = σ)) ok_X10_within ml_X10_138 sm_X10_within dX10_air_11 (pargs_of rfl) rfl (Nat.le_of_ble_eq_true rfl) (by omega) (f2 c2) (fun r2 τ2 e2 q2 w2 => ?_)
    obtain ⟨rfl, t2⟩ := q2
    rw [t2]
    show pR mX10_air d 14 [(2, 0), (0, x1), (0, x2), (0, x3)] [(0, (b2i (vWithin x2 2)))] σ Q
    refine p_ifneB (tgt := 19) dX10_air_14 (by decide) (fun c3 => ?_) (fun c4 => ?_)
    · refine pGo (s_aload_n dX10_air_19 rfl (by decide)) ?_
      refine pGo (s_iload_n dX10_air_20 rfl) ?_
      refine p_callV (As := [(0, x3)]) (st := []) (n := 1) (d' := 4) (Q1 := Q1) pc10 ok_X10_look ml_X10_153 im_X10_look se_X10_look dX10_air_21 (ob_0 hst) (pargs_of rfl) rfl (Nat.le_of_ble_eq_true rfl) (by omega) (f3 c2 c3) (fun r3 τ3 e3 q3 w3 => ?_)
      obtain rfl : r3 = none := w3
      have S3 : Stat τ3 := (Stat.le (σ := σ) hst e3)
      show pR mX10_air d 24 [(2, 0), (0, x1), (0, x2), (0, x3)] [] τ3 Q
      refine pGo (s_iload_n dX10_air_24 rfl) ?_
      refine p_ifne (tgt := 40) dX10_air_25 (by decide) (g1 c2 c3 τ3 e3 q3) (fun c5 => ?_) (fun c6 => ?_)
      · refine pGo (s_aload_n dX10_air_40 rfl (by decide)) ?_
        refine pGoE (y := 35) (s_getF pc10 fl_X10_55 dX10_air_41 (ob_0 S3) rfl (by decide)) (by decide) ?_
        refine pGoE (y := 37) (s_getF pc3 fl_X10_160 dX10_air_44 (ob_35 S3) rfl (by decide)) (by decide) ?_
        refine pGo (s_iload_n dX10_air_47 rfl) ?_
        refine pGoE (y := (rd τ3 37 x1)) (s_iald dX10_air_48 (ob_37 S3) (bnd (g2 c2 c3 τ3 e3 q3 c5))) rfl ?_
        exact pEnd (r := (some (0, (rd τ3 37 x1)))) dX10_air_49 ⟨_, rfl⟩ (k2 c2 c3 τ3 e3 q3 c5)
      · refine pGo (s_aload_n dX10_air_28 rfl (by decide)) ?_
        refine pGoE (y := 35) (s_getF pc10 fl_X10_55 dX10_air_29 (ob_0 S3) rfl (by decide)) (by decide) ?_
        refine pGoE (y := 36) (s_getF pc3 fl_X10_156 dX10_air_32 (ob_35 S3) rfl (by decide)) (by decide) ?_
        refine pGo (s_iload_n dX10_air_35 rfl) ?_
        refine pGoE (y := (rd τ3 36 x1)) (s_iald dX10_air_36 (ob_36 S3) (bnd (g3 c2 c3 τ3 e3 q3 c6))) rfl ?_
        refine pGo (s_goto (tgt := 49) dX10_air_37 (by decide)) ?_
        exact pEnd (r := (some (0, (rd τ3 36 x1)))) dX10_air_49 ⟨_, rfl⟩ (k3 c2 c3 τ3 e3 q3 c6)
    · refine pGo (s_iconst dX10_air_17) ?_
      exact pEnd (r := (some (0, (-1)))) dX10_air_18 ⟨_, rfl⟩ (k4 c2 c4)
set_option maxRecDepth 100000 in
theorem g_X10_open_0 {d : Nat} {σ : pS} {Q : Option pV → pS → Prop} {Q1 : Option pV → pS → Prop} (hd : 5 ≤ d) (hst : Stat σ) (x1 : Int) (x2 : Int) (x3 : Int)  (f1 : pC mX6_has 1 [(2, (rd σ 0 7)), (0, x1)] σ (fun r τ => r = some (0, b2i (vHas (rd σ (rd σ 0 7) 0) (rd σ (rd σ 0 7) 1) x1)) ∧ τ = σ)) (g1 : Inst6 σ (rd σ 0 7)) (k1 : ∀ (c1 : (vHas (rd σ (rd σ 0 7) 0) (rd σ (rd σ 0 7) 1) x1) = false), Q (some (0, (-1))) σ) (f2 : ∀ (c2 : (vHas (rd σ (rd σ 0 7) 0) (rd σ (rd σ 0 7) 1) x1) = true), pC mX10_within 0 [(0, x2), (0, 481)] σ (fun r τ => r = some (0, b2i (vWithin x2 481)) ∧ τ = σ)) (f3 : ∀ (c2 : (vHas (rd σ (rd σ 0 7) 0) (rd σ (rd σ 0 7) 1) x1) = true) (c3 : (vWithin x2 481) = true), pC mX10_look 4 [(2, 0), (0, x3)] σ Q1) (f4 : ∀ (c2 : (vHas (rd σ (rd σ 0 7) 0) (rd σ (rd σ 0 7) 1) x1) = true) (c3 : (vWithin x2 481) = true) (τ3 : pS) (e3 : pLe σ τ3) (q3 : Q1 none τ3), pC mX3_isOpen 2 [(2, 35), (0, x1), (0, x2)] τ3 (fun r τ => r = some (0, b2i (vOpenX τ3 x1 x2)) ∧ τ = τ3)) (k2 : ∀ (c2 : (vHas (rd σ (rd σ 0 7) 0) (rd σ (rd σ 0 7) 1) x1) = true) (c3 : (vWithin x2 481) = true) (τ3 : pS) (e3 : pLe σ τ3) (q3 : Q1 none τ3) (c5 : (vOpenX τ3 x1 x2) = false), Q (some (0, 0)) τ3) (k3 : ∀ (c2 : (vHas (rd σ (rd σ 0 7) 0) (rd σ (rd σ 0 7) 1) x1) = true) (c3 : (vWithin x2 481) = true) (τ3 : pS) (e3 : pLe σ τ3) (q3 : Q1 none τ3) (c6 : (vOpenX τ3 x1 x2) = true), Q (some (0, 1)) τ3) (k4 : ∀ (c2 : (vHas (rd σ (rd σ 0 7) 0) (rd σ (rd σ 0 7) 1) x1) = true) (c4 : (vWithin x2 481) = false), Q (some (0, (-1))) σ) : pC mX10_open d [(2, 0), (0, x1), (0, x2), (0, x3)] σ Q := by
  show pR mX10_open d 0 [(2, 0), (0, x1), (0, x2), (0, x3)] [] σ Q
  refine pGo (s_aload_n dX10_open_0 rfl (by decide)) ?_
  refine pGoE (y := (rd σ 0 7)) (s_getR pc10 fl_X10_27 dX10_open_1 (ob_0 hst) rfl rfl) rfl ?_
  refine pGo (s_iload_n dX10_open_4 rfl) ?_
  refine p_callV (As := [(0, x1)]) (st := []) (n := 1) (d' := 1) (Q1 := (fun r τ => r = some (0, b2i (vHas (rd σ (rd σ 0 7) 0) (rd σ (rd σ 0 7) 1) x1)) ∧ τ = σ)) pc6 ok_X6_has ml_X10_163 im_X6_has se_X6_has dX10_open_5 g1.o0 (pargs_of rfl) rfl (Nat.le_of_ble_eq_true rfl) (by omega) f1 (fun r1 τ1 e1 q1 w1 => ?_)
  obtain ⟨rfl, t1⟩ := q1
  rw [t1]
  show pR mX10_open d 8 [(2, 0), (0, x1), (0, x2), (0, x3)] [(0, (b2i (vHas (rd σ (rd σ 0 7) 0) (rd σ (rd σ 0 7) 1) x1)))] σ Q
  refine p_ifeqB (tgt := 21) dX10_open_8 (by decide) (fun c1 => ?_) (fun c2 => ?_)
  · refine pGo (s_iconst dX10_open_21) ?_
    exact pEnd (r := (some (0, (-1)))) dX10_open_22 ⟨_, rfl⟩ (k1 c1)
  · refine pGo (s_iload_n dX10_open_11 rfl) ?_
    refine pGo (s_sipush dX10_open_12 (by decide)) ?_
    refine p_callS (As := [(0, x2), (0, 481)]) (st := []) (n := 2) (d' := 0) (Q1 := (fun r τ => r = some (0, b2i (vWithin x2 481)) ∧ τ = σ)) ok_X10_within ml_X10_138 sm_X10_within dX10_open_15 (pargs_of rfl) rfl (Nat.le_of_ble_eq_true rfl) (by omega) (f2 c2) (fun r2 τ2 e2 q2 w2 => ?_)
    obtain ⟨rfl, t2⟩ := q2
    rw [t2]
    show pR mX10_open d 18 [(2, 0), (0, x1), (0, x2), (0, x3)] [(0, (b2i (vWithin x2 481)))] σ Q
    refine p_ifneB (tgt := 23) dX10_open_18 (by decide) (fun c3 => ?_) (fun c4 => ?_)
    · refine pGo (s_aload_n dX10_open_23 rfl (by decide)) ?_
      refine pGo (s_iload_n dX10_open_24 rfl) ?_
      refine p_callV (As := [(0, x3)]) (st := []) (n := 1) (d' := 4) (Q1 := Q1) pc10 ok_X10_look ml_X10_153 im_X10_look se_X10_look dX10_open_25 (ob_0 hst) (pargs_of rfl) rfl (Nat.le_of_ble_eq_true rfl) (by omega) (f3 c2 c3) (fun r3 τ3 e3 q3 w3 => ?_)
      obtain rfl : r3 = none := w3
      have S3 : Stat τ3 := (Stat.le (σ := σ) hst e3)
      have J3_0 : Inst6 τ3 (rd σ 0 7) := Inst6.le (σ := σ) g1 e3
      show pR mX10_open d 28 [(2, 0), (0, x1), (0, x2), (0, x3)] [] τ3 Q
      refine pGo (s_aload_n dX10_open_28 rfl (by decide)) ?_
      refine pGoE (y := 35) (s_getF pc10 fl_X10_55 dX10_open_29 (ob_0 S3) rfl (by decide)) (by decide) ?_
      refine pGo (s_iload_n dX10_open_32 rfl) ?_
      refine pGo (s_iload_n dX10_open_33 rfl) ?_
      refine p_callV (As := [(0, x1), (0, x2)]) (st := []) (n := 2) (d' := 2) (Q1 := (fun r τ => r = some (0, b2i (vOpenX τ3 x1 x2)) ∧ τ = τ3)) pc3 ok_X3_isOpen ml_X10_167 im_X3_isOpen se_X3_isOpen dX10_open_34 (ob_35 S3) (pargs_of rfl) rfl (Nat.le_of_ble_eq_true rfl) (by omega) (f4 c2 c3 τ3 e3 q3) (fun r4 τ4 e4 q4 w4 => ?_)
      obtain ⟨rfl, t4⟩ := q4
      rw [t4]
      show pR mX10_open d 37 [(2, 0), (0, x1), (0, x2), (0, x3)] [(0, (b2i (vOpenX τ3 x1 x2)))] τ3 Q
      refine p_ifeqB (tgt := 44) dX10_open_37 (by decide) (fun c5 => ?_) (fun c6 => ?_)
      · refine pGo (s_iconst dX10_open_44) ?_
        exact pEnd (r := (some (0, 0))) dX10_open_45 ⟨_, rfl⟩ (k2 c2 c3 τ3 e3 q3 c5)
      · refine pGo (s_iconst dX10_open_40) ?_
        refine pGo (s_goto (tgt := 45) dX10_open_41 (by decide)) ?_
        exact pEnd (r := (some (0, 1))) dX10_open_45 ⟨_, rfl⟩ (k3 c2 c3 τ3 e3 q3 c6)
    · refine pGo (s_iconst dX10_open_21) ?_
      exact pEnd (r := (some (0, (-1)))) dX10_open_22 ⟨_, rfl⟩ (k4 c2 c4)
set_option maxRecDepth 100000 in
theorem g_X11_blow_0 {d : Nat} {σ : pS} {Q : Option pV → pS → Prop} (hd : 1 ≤ d) (hst : Stat σ) (x1 : Int)  (k1 : pR mX11_blow d 2 [(2, 68), (0, x1), (0, 0), (9, 0)] [] σ Q) : pC mX11_blow d [(2, 68), (0, x1)] σ Q := by
  show pR mX11_blow d 0 [(2, 68), (0, x1), (9, 0), (9, 0)] [] σ Q
  refine pGo (s_iconst dX11_blow_0) ?_
  refine pGoL (ls2 := [(2, 68), (0, x1), (0, 0), (9, 0)]) (s_istore_n dX11_blow_1 (by decide) rfl) rfl ?_
  exact k1
set_option maxRecDepth 100000 in
theorem g_X11_blow_2 {d : Nat} {σ : pS} {Q : Option pV → pS → Prop} (hd : 1 ≤ d) (hst : Stat σ) (x1 : Int) (x2 : Int) (u3 : pV) (hu3 : u3.1 ≠ 1) (g1 : inR x2) (k1 : ∀ (c1 : 8 ≤ x2), Q none σ) (g2 : ∀ (c2 : x2 < 8) (c3 : x2 ≠ 0), 0 ≤ (x2 - 1) ∧ (x2 - 1) < 8) (g3 : ∀ (c2 : x2 < 8) (c3 : x2 ≠ 0), 0 ≤ x2 ∧ x2 < 8) (k2 : ∀ (c2 : x2 < 8) (c3 : x2 ≠ 0), pR mX11_blow d 39 [(2, 68), (0, x1), (0, x2), (0, 0)] [] (wr (wr σ 101 x2 (rd σ 101 (x2 - 1))) 102 x2 0) Q) (g4 : ∀ (c2 : x2 < 8) (c4 : x2 = 0), 0 ≤ x2 ∧ x2 < 8) (k3 : ∀ (c2 : x2 < 8) (c4 : x2 = 0), pR mX11_blow d 39 [(2, 68), (0, x1), (0, x2), (0, 0)] [] (wr (wr σ 101 x2 0) 102 x2 0) Q) : pR mX11_blow d 2 [(2, 68), (0, x1), (0, x2), u3] [] σ Q := by
  refine pGo (s_iload_n dX11_blow_2 rfl) ?_
  refine pGo (s_bipush dX11_blow_3 (by decide)) ?_
  refine p_icge (tgt := 115) dX11_blow_5 (by decide) g1 (by decide) (fun c1 => ?_) (fun c2 => ?_)
  · exact pEnd (r := none) dX11_blow_115 rfl (k1 c1)
  · refine pGo (s_aload_n dX11_blow_8 rfl (by decide)) ?_
    refine pGoE (y := 101) (s_getF pc11 fl_X11_112 dX11_blow_9 (ob_68 hst) rfl (by decide)) (by decide) ?_
    refine pGo (s_iload_n dX11_blow_12 rfl) ?_
    refine pGo (s_iload_n dX11_blow_13 rfl) ?_
    refine p_ifne (tgt := 21) dX11_blow_14 (by decide) g1 (fun c3 => ?_) (fun c4 => ?_)
    · refine pGo (s_aload_n dX11_blow_21 rfl (by decide)) ?_
      refine pGoE (y := 101) (s_getF pc11 fl_X11_112 dX11_blow_22 (ob_68 hst) rfl (by decide)) (by decide) ?_
      refine pGo (s_iload_n dX11_blow_25 rfl) ?_
      refine pGo (s_iconst dX11_blow_26) ?_
      refine pGo (s_isub dX11_blow_27) ?_
      refine pGoE (y := (rd σ 101 (x2 - 1))) (s_iald dX11_blow_28 (ob_101 hst) (bnd (g2 c2 c3))) rfl ?_
      refine pGo (s_iast dX11_blow_29 (ob_101 hst) (bnd (g3 c2 c3))) ?_
      refine pGo (s_aload_n dX11_blow_30 rfl (by decide)) ?_
      refine pGoE (y := 102) (s_getF pc11 fl_X11_115 dX11_blow_31 (ob_68 hst) rfl (by decide)) (by decide) ?_
      refine pGo (s_iload_n dX11_blow_34 rfl) ?_
      refine pGo (s_iconst dX11_blow_35) ?_
      refine pGo (s_iast dX11_blow_36 (ob_102 hst) (bnd (g3 c2 c3))) ?_
      refine pGo (s_iconst dX11_blow_37) ?_
      refine pGoL (ls2 := [(2, 68), (0, x1), (0, x2), (0, 0)]) (s_istore_n dX11_blow_38 (by decide) rfl) rfl ?_
      exact (k2 c2 c3)
    · refine pGo (s_iconst dX11_blow_17) ?_
      refine pGo (s_goto (tgt := 29) dX11_blow_18 (by decide)) ?_
      refine pGo (s_iast dX11_blow_29 (ob_101 hst) (bnd (g4 c2 c4))) ?_
      refine pGo (s_aload_n dX11_blow_30 rfl (by decide)) ?_
      refine pGoE (y := 102) (s_getF pc11 fl_X11_115 dX11_blow_31 (ob_68 hst) rfl (by decide)) (by decide) ?_
      refine pGo (s_iload_n dX11_blow_34 rfl) ?_
      refine pGo (s_iconst dX11_blow_35) ?_
      refine pGo (s_iast dX11_blow_36 (ob_102 hst) (bnd (g4 c2 c4))) ?_
      refine pGo (s_iconst dX11_blow_37) ?_
      refine pGoL (ls2 := [(2, 68), (0, x1), (0, x2), (0, 0)]) (s_istore_n dX11_blow_38 (by decide) rfl) rfl ?_
      exact (k3 c2 c4)
set_option maxRecDepth 100000 in
theorem g_X11_blow_39 {d : Nat} {σ : pS} {Q : Option pV → pS → Prop} (hd : 1 ≤ d) (hst : Stat σ) (x1 : Int) (x2 : Int) (x3 : Int)  (g1 : inR x3) (g2 : inR (rd σ 68 51)) (k1 : ∀ (c1 : (rd σ 68 51) ≤ x3), pR mX11_blow d 2 [(2, 68), (0, x1), (0, (x2 + 1)), (0, x3)] [] σ Q) (g3 : ∀ (c2 : x3 < (rd σ 68 51)), 0 ≤ x3 ∧ x3 < 60) (g4 : ∀ (c2 : x3 < (rd σ 68 51)), inR (rd σ 96 x3)) (g5 : ∀ (c2 : x3 < (rd σ 68 51)), inR x2) (k2 : ∀ (c2 : x3 < (rd σ 68 51)) (c3 : (rd σ 96 x3) ≠ x2), pR mX11_blow d 39 [(2, 68), (0, x1), (0, x2), (0, (x3 + 1))] [] σ Q) (f1 : ∀ (c2 : x3 < (rd σ 68 51)) (c4 : (rd σ 96 x3) = x2), pC mX11_counts 0 [(0, (rd σ 99 x3)), (0, (rd σ 100 x3)), (0, x1)] σ (fun r τ => r = some (0, b2i (vCounts (rd σ 99 x3) (rd σ 100 x3) x1)) ∧ τ = σ)) (g6 : ∀ (c2 : x3 < (rd σ 68 51)) (c4 : (rd σ 96 x3) = x2) (c5 : (vCounts (rd σ 99 x3) (rd σ 100 x3) x1) = true), 0 ≤ x2 ∧ x2 < 8) (k3 : ∀ (c2 : x3 < (rd σ 68 51)) (c4 : (rd σ 96 x3) = x2) (c5 : (vCounts (rd σ 99 x3) (rd σ 100 x3) x1) = true), pR mX11_blow d 39 [(2, 68), (0, x1), (0, x2), (0, (x3 + 1))] [] (wr (wr σ 101 x2 (rd σ 97 x3)) 102 x2 (rd σ 98 x3)) Q) (k4 : ∀ (c2 : x3 < (rd σ 68 51)) (c4 : (rd σ 96 x3) = x2) (c6 : (vCounts (rd σ 99 x3) (rd σ 100 x3) x1) = false), pR mX11_blow d 39 [(2, 68), (0, x1), (0, x2), (0, (x3 + 1))] [] σ Q) : pR mX11_blow d 39 [(2, 68), (0, x1), (0, x2), (0, x3)] [] σ Q := by
  refine pGo (s_iload_n dX11_blow_39 rfl) ?_
  refine pGo (s_aload_n dX11_blow_40 rfl (by decide)) ?_
  refine pGoE (y := (rd σ 68 51)) (s_getI pc11 fl_X11_446 dX11_blow_41 (ob_68 hst) rfl (by decide)) rfl ?_
  refine p_icge (tgt := 109) dX11_blow_44 (by decide) g1 g2 (fun c1 => ?_) (fun c2 => ?_)
  · refine pGoL (ls2 := [(2, 68), (0, x1), (0, (x2 + 1)), (0, x3)]) (s_iinc dX11_blow_109 (by decide) rfl rfl) rfl ?_
    refine pGo (s_goto (tgt := 2) dX11_blow_112 (by decide)) ?_
    exact (k1 c1)
  · refine pGo (s_aload_n dX11_blow_47 rfl (by decide)) ?_
    refine pGoE (y := 96) (s_getF pc11 fl_X11_97 dX11_blow_48 (ob_68 hst) rfl (by decide)) (by decide) ?_
    refine pGo (s_iload_n dX11_blow_51 rfl) ?_
    refine pGoE (y := (rd σ 96 x3)) (s_iald dX11_blow_52 (ob_96 hst) (bnd (g3 c2))) rfl ?_
    refine pGo (s_iload_n dX11_blow_53 rfl) ?_
    refine p_icne (tgt := 103) dX11_blow_54 (by decide) (g4 c2) (g5 c2) (fun c3 => ?_) (fun c4 => ?_)
    · refine pGoL (ls2 := [(2, 68), (0, x1), (0, x2), (0, (x3 + 1))]) (s_iinc dX11_blow_103 (by decide) rfl rfl) rfl ?_
      refine pGo (s_goto (tgt := 39) dX11_blow_106 (by decide)) ?_
      exact (k2 c2 c3)
    · refine pGo (s_aload_n dX11_blow_57 rfl (by decide)) ?_
      refine pGoE (y := 99) (s_getF pc11 fl_X11_106 dX11_blow_58 (ob_68 hst) rfl (by decide)) (by decide) ?_
      refine pGo (s_iload_n dX11_blow_61 rfl) ?_
      refine pGoE (y := (rd σ 99 x3)) (s_iald dX11_blow_62 (ob_99 hst) (bnd (g3 c2))) rfl ?_
      refine pGo (s_aload_n dX11_blow_63 rfl (by decide)) ?_
      refine pGoE (y := 100) (s_getF pc11 fl_X11_109 dX11_blow_64 (ob_68 hst) rfl (by decide)) (by decide) ?_
      refine pGo (s_iload_n dX11_blow_67 rfl) ?_
      refine pGoE (y := (rd σ 100 x3)) (s_iald dX11_blow_68 (ob_100 hst) (bnd (g3 c2))) rfl ?_
      refine pGo (s_iload_n dX11_blow_69 rfl) ?_
      refine p_callS (As := [(0, (rd σ 99 x3)), (0, (rd σ 100 x3)), (0, x1)]) (st := []) (n := 3) (d' := 0) (Q1 := (fun r τ => r = some (0, b2i (vCounts (rd σ 99 x3) (rd σ 100 x3) x1)) ∧ τ = σ)) ok_X11_counts ml_X11_453 sm_X11_counts dX11_blow_70 (pargs_of rfl) rfl (Nat.le_of_ble_eq_true rfl) (by omega) (f1 c2 c4) (fun r1 τ1 e1 q1 w1 => ?_)
      obtain ⟨rfl, t1⟩ := q1
      rw [t1]
      show pR mX11_blow d 73 [(2, 68), (0, x1), (0, x2), (0, x3)] [(0, (b2i (vCounts (rd σ 99 x3) (rd σ 100 x3) x1)))] σ Q
      refine p_ifneB (tgt := 79) dX11_blow_73 (by decide) (fun c5 => ?_) (fun c6 => ?_)
      · refine pGo (s_aload_n dX11_blow_79 rfl (by decide)) ?_
        refine pGoE (y := 101) (s_getF pc11 fl_X11_112 dX11_blow_80 (ob_68 hst) rfl (by decide)) (by decide) ?_
        refine pGo (s_iload_n dX11_blow_83 rfl) ?_
        refine pGo (s_aload_n dX11_blow_84 rfl (by decide)) ?_
        refine pGoE (y := 97) (s_getF pc11 fl_X11_100 dX11_blow_85 (ob_68 hst) rfl (by decide)) (by decide) ?_
        refine pGo (s_iload_n dX11_blow_88 rfl) ?_
        refine pGoE (y := (rd σ 97 x3)) (s_iald dX11_blow_89 (ob_97 hst) (bnd (g3 c2))) rfl ?_
        refine pGo (s_iast dX11_blow_90 (ob_101 hst) (bnd (g6 c2 c4 c5))) ?_
        refine pGo (s_aload_n dX11_blow_91 rfl (by decide)) ?_
        refine pGoE (y := 102) (s_getF pc11 fl_X11_115 dX11_blow_92 (ob_68 hst) rfl (by decide)) (by decide) ?_
        refine pGo (s_iload_n dX11_blow_95 rfl) ?_
        refine pGo (s_aload_n dX11_blow_96 rfl (by decide)) ?_
        refine pGoE (y := 98) (s_getF pc11 fl_X11_103 dX11_blow_97 (ob_68 hst) rfl (by decide)) (by decide) ?_
        refine pGo (s_iload_n dX11_blow_100 rfl) ?_
        refine pGoE (y := (rd σ 98 x3)) (s_iald dX11_blow_101 (ob_98 hst) (bnd (g3 c2))) (rd_wr_a _ (by decide)) ?_
        refine pGo (s_iast dX11_blow_102 (ob_102 hst) (bnd (g6 c2 c4 c5))) ?_
        refine pGoL (ls2 := [(2, 68), (0, x1), (0, x2), (0, (x3 + 1))]) (s_iinc dX11_blow_103 (by decide) rfl rfl) rfl ?_
        refine pGo (s_goto (tgt := 39) dX11_blow_106 (by decide)) ?_
        exact (k3 c2 c4 c5)
      · refine pGo (s_goto (tgt := 103) dX11_blow_76 (by decide)) ?_
        refine pGoL (ls2 := [(2, 68), (0, x1), (0, x2), (0, (x3 + 1))]) (s_iinc dX11_blow_103 (by decide) rfl rfl) rfl ?_
        refine pGo (s_goto (tgt := 39) dX11_blow_106 (by decide)) ?_
        exact (k4 c2 c4 c6)
set_option maxRecDepth 100000 in
theorem g_X11_air_0 {d : Nat} {σ : pS} {Q : Option pV → pS → Prop} {Q1 : Option pV → pS → Prop} (hd : 2 ≤ d) (hst : Stat σ) (x1 : Int) (x2 : Int) (x3 : Int)  (g1 : inR x1) (k1 : ∀ (c1 : x1 < 0), Q (some (0, (-1))) σ) (k2 : ∀ (c2 : 0 ≤ x1) (c3 : 8 ≤ x1), Q (some (0, (-1))) σ) (g2 : ∀ (c2 : 0 ≤ x1) (c4 : x1 < 8), inR x2) (k3 : ∀ (c2 : 0 ≤ x1) (c4 : x1 < 8) (c5 : x2 < 0), Q (some (0, (-1))) σ) (f1 : ∀ (c2 : 0 ≤ x1) (c4 : x1 < 8) (c6 : 0 ≤ x2) (c7 : x2 ≤ 1), pC mX11_blow 1 [(2, 68), (0, x3)] σ Q1) (g3 : ∀ (c2 : 0 ≤ x1) (c4 : x1 < 8) (c6 : 0 ≤ x2) (c7 : x2 ≤ 1) (τ1 : pS) (e1 : pLe σ τ1) (q1 : Q1 none τ1) (c9 : x2 ≠ 0), 0 ≤ x1 ∧ x1 < 8) (k4 : ∀ (c2 : 0 ≤ x1) (c4 : x1 < 8) (c6 : 0 ≤ x2) (c7 : x2 ≤ 1) (τ1 : pS) (e1 : pLe σ τ1) (q1 : Q1 none τ1) (c9 : x2 ≠ 0), Q (some (0, (rd τ1 102 x1))) τ1) (g4 : ∀ (c2 : 0 ≤ x1) (c4 : x1 < 8) (c6 : 0 ≤ x2) (c7 : x2 ≤ 1) (τ1 : pS) (e1 : pLe σ τ1) (q1 : Q1 none τ1) (c10 : x2 = 0), 0 ≤ x1 ∧ x1 < 8) (k5 : ∀ (c2 : 0 ≤ x1) (c4 : x1 < 8) (c6 : 0 ≤ x2) (c7 : x2 ≤ 1) (τ1 : pS) (e1 : pLe σ τ1) (q1 : Q1 none τ1) (c10 : x2 = 0), Q (some (0, (rd τ1 101 x1))) τ1) (k6 : ∀ (c2 : 0 ≤ x1) (c4 : x1 < 8) (c6 : 0 ≤ x2) (c8 : 1 < x2), Q (some (0, (-1))) σ) : pC mX11_air d [(2, 68), (0, x1), (0, x2), (0, x3)] σ Q := by
  show pR mX11_air d 0 [(2, 68), (0, x1), (0, x2), (0, x3)] [] σ Q
  refine pGo (s_iload_n dX11_air_0 rfl) ?_
  refine p_iflt (tgt := 19) dX11_air_1 (by decide) g1 (fun c1 => ?_) (fun c2 => ?_)
  · refine pGo (s_iconst dX11_air_19) ?_
    exact pEnd (r := (some (0, (-1)))) dX11_air_20 ⟨_, rfl⟩ (k1 c1)
  · refine pGo (s_iload_n dX11_air_4 rfl) ?_
    refine pGo (s_bipush dX11_air_5 (by decide)) ?_
    refine p_icge (tgt := 19) dX11_air_7 (by decide) g1 (by decide) (fun c3 => ?_) (fun c4 => ?_)
    · refine pGo (s_iconst dX11_air_19) ?_
      exact pEnd (r := (some (0, (-1)))) dX11_air_20 ⟨_, rfl⟩ (k2 c2 c3)
    · refine pGo (s_iload_n dX11_air_10 rfl) ?_
      refine p_iflt (tgt := 19) dX11_air_11 (by decide) (g2 c2 c4) (fun c5 => ?_) (fun c6 => ?_)
      · refine pGo (s_iconst dX11_air_19) ?_
        exact pEnd (r := (some (0, (-1)))) dX11_air_20 ⟨_, rfl⟩ (k3 c2 c4 c5)
      · refine pGo (s_iload_n dX11_air_14 rfl) ?_
        refine pGo (s_iconst dX11_air_15) ?_
        refine p_icle (tgt := 21) dX11_air_16 (by decide) (g2 c2 c4) (by decide) (fun c7 => ?_) (fun c8 => ?_)
        · refine pGo (s_aload_n dX11_air_21 rfl (by decide)) ?_
          refine pGo (s_iload_n dX11_air_22 rfl) ?_
          refine p_callV (As := [(0, x3)]) (st := []) (n := 1) (d' := 1) (Q1 := Q1) pc11 ok_X11_blow ml_X11_457 im_X11_blow se_X11_blow dX11_air_23 (ob_68 hst) (pargs_of rfl) rfl (Nat.le_of_ble_eq_true rfl) (by omega) (f1 c2 c4 c6 c7) (fun r1 τ1 e1 q1 w1 => ?_)
          obtain rfl : r1 = none := w1
          have S1 : Stat τ1 := (Stat.le (σ := σ) hst e1)
          show pR mX11_air d 26 [(2, 68), (0, x1), (0, x2), (0, x3)] [] τ1 Q
          refine pGo (s_iload_n dX11_air_26 rfl) ?_
          refine p_ifne (tgt := 39) dX11_air_27 (by decide) (g2 c2 c4) (fun c9 => ?_) (fun c10 => ?_)
          · refine pGo (s_aload_n dX11_air_39 rfl (by decide)) ?_
            refine pGoE (y := 102) (s_getF pc11 fl_X11_115 dX11_air_40 (ob_68 S1) rfl (by decide)) (by decide) ?_
            refine pGo (s_iload_n dX11_air_43 rfl) ?_
            refine pGoE (y := (rd τ1 102 x1)) (s_iald dX11_air_44 (ob_102 S1) (bnd (g3 c2 c4 c6 c7 τ1 e1 q1 c9))) rfl ?_
            exact pEnd (r := (some (0, (rd τ1 102 x1)))) dX11_air_45 ⟨_, rfl⟩ (k4 c2 c4 c6 c7 τ1 e1 q1 c9)
          · refine pGo (s_aload_n dX11_air_30 rfl (by decide)) ?_
            refine pGoE (y := 101) (s_getF pc11 fl_X11_112 dX11_air_31 (ob_68 S1) rfl (by decide)) (by decide) ?_
            refine pGo (s_iload_n dX11_air_34 rfl) ?_
            refine pGoE (y := (rd τ1 101 x1)) (s_iald dX11_air_35 (ob_101 S1) (bnd (g4 c2 c4 c6 c7 τ1 e1 q1 c10))) rfl ?_
            refine pGo (s_goto (tgt := 45) dX11_air_36 (by decide)) ?_
            exact pEnd (r := (some (0, (rd τ1 101 x1)))) dX11_air_45 ⟨_, rfl⟩ (k5 c2 c4 c6 c7 τ1 e1 q1 c10)
        · refine pGo (s_iconst dX11_air_19) ?_
          exact pEnd (r := (some (0, (-1)))) dX11_air_20 ⟨_, rfl⟩ (k6 c2 c4 c6 c8)
set_option maxRecDepth 100000 in
theorem g_X11_valueOf_0 {d : Nat} {σ : pS} {Q : Option pV → pS → Prop} (hd : 0 ≤ d) (hst : Stat σ) (x1 : Int) (x2 : Int) (x3 : Int) (x4 : Int)  (g1 : 0 ≤ x3 ∧ x3 < 13) (k1 : pR mX11_valueOf d 11 [(2, 68), (0, x1), (0, x2), (0, x3), (0, x4), (0, (rd σ 81 x3)), (0, 0)] [] σ Q) : pC mX11_valueOf d [(2, 68), (0, x1), (0, x2), (0, x3), (0, x4)] σ Q := by
  show pR mX11_valueOf d 0 [(2, 68), (0, x1), (0, x2), (0, x3), (0, x4), (9, 0), (9, 0)] [] σ Q
  refine pGo (s_aload_n dX11_valueOf_0 rfl (by decide)) ?_
  refine pGoE (y := 81) (s_getF pc11 fl_X11_51 dX11_valueOf_1 (ob_68 hst) rfl (by decide)) (by decide) ?_
  refine pGo (s_iload_n dX11_valueOf_4 rfl) ?_
  refine pGoE (y := (rd σ 81 x3)) (s_iald dX11_valueOf_5 (ob_81 hst) (bnd g1)) rfl ?_
  refine pGoL (ls2 := [(2, 68), (0, x1), (0, x2), (0, x3), (0, x4), (0, (rd σ 81 x3)), (9, 0)]) (s_istore dX11_valueOf_6 (by decide) rfl) rfl ?_
  refine pGo (s_iconst dX11_valueOf_8) ?_
  refine pGoL (ls2 := [(2, 68), (0, x1), (0, x2), (0, x3), (0, x4), (0, (rd σ 81 x3)), (0, 0)]) (s_istore dX11_valueOf_9 (by decide) rfl) rfl ?_
  exact k1
set_option maxRecDepth 100000 in
theorem g_X11_valueOf_11 {d : Nat} {σ : pS} {Q : Option pV → pS → Prop} (hd : 0 ≤ d) (hst : Stat σ) (x1 : Int) (x2 : Int) (x3 : Int) (x4 : Int) (x5 : Int) (x6 : Int)  (g1 : inR x6) (g2 : inR x4) (g3 : ∀ (c1 : x4 < x6), inR x1) (g4 : ∀ (c1 : x4 < x6) (c3 : x1 ≠ 0) (c5 : x1 ≠ 1) (c7 : x1 ≠ 2) (c9 : x1 ≠ 3) (c11 : x1 ≠ 4) (c13 : x1 ≠ 5), 0 ≤ x3 ∧ x3 < 13) (k1 : ∀ (c1 : x4 < x6) (c3 : x1 ≠ 0) (c5 : x1 ≠ 1) (c7 : x1 ≠ 2) (c9 : x1 ≠ 3) (c11 : x1 ≠ 4) (c13 : x1 ≠ 5), Q (some (0, (rd σ 79 x3))) σ) (g5 : ∀ (c1 : x4 < x6) (c3 : x1 ≠ 0) (c5 : x1 ≠ 1) (c7 : x1 ≠ 2) (c9 : x1 ≠ 3) (c11 : x1 ≠ 4) (c14 : x1 = 5), 0 ≤ x3 ∧ x3 < 13) (k2 : ∀ (c1 : x4 < x6) (c3 : x1 ≠ 0) (c5 : x1 ≠ 1) (c7 : x1 ≠ 2) (c9 : x1 ≠ 3) (c11 : x1 ≠ 4) (c14 : x1 = 5), Q (some (0, (rd σ 80 x3))) σ) (k3 : ∀ (c1 : x4 < x6) (c3 : x1 ≠ 0) (c5 : x1 ≠ 1) (c7 : x1 ≠ 2) (c9 : x1 ≠ 3) (c12 : x1 = 4), Q (some (0, x5)) σ) (g6 : ∀ (c1 : x4 < x6) (c3 : x1 ≠ 0) (c5 : x1 ≠ 1) (c7 : x1 ≠ 2) (c10 : x1 = 3), 0 ≤ x4 ∧ x4 < 8) (k4 : ∀ (c1 : x4 < x6) (c3 : x1 ≠ 0) (c5 : x1 ≠ 1) (c7 : x1 ≠ 2) (c10 : x1 = 3), Q (some (0, (rd σ 102 x4))) σ) (g7 : ∀ (c1 : x4 < x6) (c3 : x1 ≠ 0) (c5 : x1 ≠ 1) (c8 : x1 = 2), 0 ≤ x4 ∧ x4 < 8) (k5 : ∀ (c1 : x4 < x6) (c3 : x1 ≠ 0) (c5 : x1 ≠ 1) (c8 : x1 = 2), Q (some (0, (rd σ 101 x4))) σ) (k6 : ∀ (c1 : x4 < x6) (c3 : x1 ≠ 0) (c6 : x1 = 1), Q (some (0, x4)) σ) (k7 : ∀ (c1 : x4 < x6) (c4 : x1 = 0), Q (some (0, x2)) σ) (g8 : ∀ (c2 : x6 ≤ x4), 0 ≤ x6 ∧ x6 < 8) (k8 : ∀ (c2 : x6 ≤ x4), pR mX11_valueOf d 11 [(2, 68), (0, x1), (0, x2), (0, x3), (0, x4), (0, (x5 + (rd σ 102 x6))), (0, (x6 + 1))] [] σ Q) : pR mX11_valueOf d 11 [(2, 68), (0, x1), (0, x2), (0, x3), (0, x4), (0, x5), (0, x6)] [] σ Q := by
  refine pGo (s_iload dX11_valueOf_11 rfl) ?_
  refine pGo (s_iload dX11_valueOf_13 rfl) ?_
  refine p_icgt (tgt := 36) dX11_valueOf_15 (by decide) g1 g2 (fun c1 => ?_) (fun c2 => ?_)
  · refine pGo (s_iload_n dX11_valueOf_36 rfl) ?_
    refine p_ifne (tgt := 44) dX11_valueOf_37 (by decide) (g3 c1) (fun c3 => ?_) (fun c4 => ?_)
    · refine pGo (s_iload_n dX11_valueOf_44 rfl) ?_
      refine pGo (s_iconst dX11_valueOf_45) ?_
      refine p_icne (tgt := 54) dX11_valueOf_46 (by decide) (g3 c1) (by decide) (fun c5 => ?_) (fun c6 => ?_)
      · refine pGo (s_iload_n dX11_valueOf_54 rfl) ?_
        refine pGo (s_iconst dX11_valueOf_55) ?_
        refine p_icne (tgt := 69) dX11_valueOf_56 (by decide) (g3 c1) (by decide) (fun c7 => ?_) (fun c8 => ?_)
        · refine pGo (s_iload_n dX11_valueOf_69 rfl) ?_
          refine pGo (s_iconst dX11_valueOf_70) ?_
          refine p_icne (tgt := 84) dX11_valueOf_71 (by decide) (g3 c1) (by decide) (fun c9 => ?_) (fun c10 => ?_)
          · refine pGo (s_iload_n dX11_valueOf_84 rfl) ?_
            refine pGo (s_iconst dX11_valueOf_85) ?_
            refine p_icne (tgt := 94) dX11_valueOf_86 (by decide) (g3 c1) (by decide) (fun c11 => ?_) (fun c12 => ?_)
            · refine pGo (s_iload_n dX11_valueOf_94 rfl) ?_
              refine pGo (s_iconst dX11_valueOf_95) ?_
              refine p_icne (tgt := 108) dX11_valueOf_96 (by decide) (g3 c1) (by decide) (fun c13 => ?_) (fun c14 => ?_)
              · refine pGo (s_aload_n dX11_valueOf_108 rfl (by decide)) ?_
                refine pGoE (y := 79) (s_getF pc11 fl_X11_45 dX11_valueOf_109 (ob_68 hst) rfl (by decide)) (by decide) ?_
                refine pGo (s_iload_n dX11_valueOf_112 rfl) ?_
                refine pGoE (y := (rd σ 79 x3)) (s_iald dX11_valueOf_113 (ob_79 hst) (bnd (g4 c1 c3 c5 c7 c9 c11 c13))) rfl ?_
                exact pEnd (r := (some (0, (rd σ 79 x3)))) dX11_valueOf_114 ⟨_, rfl⟩ (k1 c1 c3 c5 c7 c9 c11 c13)
              · refine pGo (s_aload_n dX11_valueOf_99 rfl (by decide)) ?_
                refine pGoE (y := 80) (s_getF pc11 fl_X11_48 dX11_valueOf_100 (ob_68 hst) rfl (by decide)) (by decide) ?_
                refine pGo (s_iload_n dX11_valueOf_103 rfl) ?_
                refine pGoE (y := (rd σ 80 x3)) (s_iald dX11_valueOf_104 (ob_80 hst) (bnd (g5 c1 c3 c5 c7 c9 c11 c14))) rfl ?_
                refine pGo (s_goto (tgt := 114) dX11_valueOf_105 (by decide)) ?_
                exact pEnd (r := (some (0, (rd σ 80 x3)))) dX11_valueOf_114 ⟨_, rfl⟩ (k2 c1 c3 c5 c7 c9 c11 c14)
            · refine pGo (s_iload dX11_valueOf_89 rfl) ?_
              refine pGo (s_goto (tgt := 114) dX11_valueOf_91 (by decide)) ?_
              exact pEnd (r := (some (0, x5))) dX11_valueOf_114 ⟨_, rfl⟩ (k3 c1 c3 c5 c7 c9 c12)
          · refine pGo (s_aload_n dX11_valueOf_74 rfl (by decide)) ?_
            refine pGoE (y := 102) (s_getF pc11 fl_X11_115 dX11_valueOf_75 (ob_68 hst) rfl (by decide)) (by decide) ?_
            refine pGo (s_iload dX11_valueOf_78 rfl) ?_
            refine pGoE (y := (rd σ 102 x4)) (s_iald dX11_valueOf_80 (ob_102 hst) (bnd (g6 c1 c3 c5 c7 c10))) rfl ?_
            refine pGo (s_goto (tgt := 114) dX11_valueOf_81 (by decide)) ?_
            exact pEnd (r := (some (0, (rd σ 102 x4)))) dX11_valueOf_114 ⟨_, rfl⟩ (k4 c1 c3 c5 c7 c10)
        · refine pGo (s_aload_n dX11_valueOf_59 rfl (by decide)) ?_
          refine pGoE (y := 101) (s_getF pc11 fl_X11_112 dX11_valueOf_60 (ob_68 hst) rfl (by decide)) (by decide) ?_
          refine pGo (s_iload dX11_valueOf_63 rfl) ?_
          refine pGoE (y := (rd σ 101 x4)) (s_iald dX11_valueOf_65 (ob_101 hst) (bnd (g7 c1 c3 c5 c8))) rfl ?_
          refine pGo (s_goto (tgt := 114) dX11_valueOf_66 (by decide)) ?_
          exact pEnd (r := (some (0, (rd σ 101 x4)))) dX11_valueOf_114 ⟨_, rfl⟩ (k5 c1 c3 c5 c8)
      · refine pGo (s_iload dX11_valueOf_49 rfl) ?_
        refine pGo (s_goto (tgt := 114) dX11_valueOf_51 (by decide)) ?_
        exact pEnd (r := (some (0, x4))) dX11_valueOf_114 ⟨_, rfl⟩ (k6 c1 c3 c6)
    · refine pGo (s_iload_n dX11_valueOf_40 rfl) ?_
      refine pGo (s_goto (tgt := 114) dX11_valueOf_41 (by decide)) ?_
      exact pEnd (r := (some (0, x2))) dX11_valueOf_114 ⟨_, rfl⟩ (k7 c1 c4)
  · refine pGo (s_iload dX11_valueOf_18 rfl) ?_
    refine pGo (s_aload_n dX11_valueOf_20 rfl (by decide)) ?_
    refine pGoE (y := 102) (s_getF pc11 fl_X11_115 dX11_valueOf_21 (ob_68 hst) rfl (by decide)) (by decide) ?_
    refine pGo (s_iload dX11_valueOf_24 rfl) ?_
    refine pGoE (y := (rd σ 102 x6)) (s_iald dX11_valueOf_26 (ob_102 hst) (bnd (g8 c2))) rfl ?_
    refine pGo (s_iadd dX11_valueOf_27) ?_
    refine pGoL (ls2 := [(2, 68), (0, x1), (0, x2), (0, x3), (0, x4), (0, (x5 + (rd σ 102 x6))), (0, x6)]) (s_istore dX11_valueOf_28 (by decide) rfl) rfl ?_
    refine pGoL (ls2 := [(2, 68), (0, x1), (0, x2), (0, x3), (0, x4), (0, (x5 + (rd σ 102 x6))), (0, (x6 + 1))]) (s_iinc dX11_valueOf_30 (by decide) rfl rfl) rfl ?_
    refine pGo (s_goto (tgt := 11) dX11_valueOf_33 (by decide)) ?_
    exact (k8 c2)
set_option maxRecDepth 100000 in
theorem g_X11_holds_0 {d : Nat} {σ : pS} {Q : Option pV → pS → Prop} (hd : 1 ≤ d) (hst : Stat σ) (x1 : Int) (x2 : Int) (x3 : Int)  (g1 : 0 ≤ x1 ∧ x1 < 2) (g2 : inR (rd σ 94 x1)) (k1 : ∀ (c1 : (rd σ 94 x1) ≠ 0), pR mX11_holds d 22 [(2, 68), (0, x1), (0, x2), (0, x3), (0, 0), (0, (rd σ 91 x1)), (9, 0), (9, 0), (9, 0)] [] σ Q) (k2 : ∀ (c2 : (rd σ 94 x1) = 0), Q (some (0, 0)) σ) : pC mX11_holds d [(2, 68), (0, x1), (0, x2), (0, x3)] σ Q := by
  show pR mX11_holds d 0 [(2, 68), (0, x1), (0, x2), (0, x3), (9, 0), (9, 0), (9, 0), (9, 0), (9, 0)] [] σ Q
  refine pGo (s_aload_n dX11_holds_0 rfl (by decide)) ?_
  refine pGoE (y := 94) (s_getF pc11 fl_X11_91 dX11_holds_1 (ob_68 hst) rfl (by decide)) (by decide) ?_
  refine pGo (s_iload_n dX11_holds_4 rfl) ?_
  refine pGoE (y := (rd σ 94 x1)) (s_zald dX11_holds_5 (ob_94 hst) (bnd g1)) rfl ?_
  refine p_ifne (tgt := 11) dX11_holds_6 (by decide) g2 (fun c1 => ?_) (fun c2 => ?_)
  · refine pGo (s_iconst dX11_holds_11) ?_
    refine pGoL (ls2 := [(2, 68), (0, x1), (0, x2), (0, x3), (0, 0), (9, 0), (9, 0), (9, 0), (9, 0)]) (s_istore dX11_holds_12 (by decide) rfl) rfl ?_
    refine pGo (s_aload_n dX11_holds_14 rfl (by decide)) ?_
    refine pGoE (y := 91) (s_getF pc11 fl_X11_82 dX11_holds_15 (ob_68 hst) rfl (by decide)) (by decide) ?_
    refine pGo (s_iload_n dX11_holds_18 rfl) ?_
    refine pGoE (y := (rd σ 91 x1)) (s_iald dX11_holds_19 (ob_91 hst) (bnd g1)) rfl ?_
    refine pGoL (ls2 := [(2, 68), (0, x1), (0, x2), (0, x3), (0, 0), (0, (rd σ 91 x1)), (9, 0), (9, 0), (9, 0)]) (s_istore dX11_holds_20 (by decide) rfl) rfl ?_
    exact (k1 c1)
  · refine pGo (s_iconst dX11_holds_9) ?_
    exact pEnd (r := (some (0, 0))) dX11_holds_10 (Or.inl rfl) (k2 c2)
set_option maxRecDepth 100000 in
theorem g_X11_holds_22 {d : Nat} {σ : pS} {Q : Option pV → pS → Prop} {Q1 : Option pV → pS → Prop} (hd : 1 ≤ d) (hst : Stat σ) (x1 : Int) (x2 : Int) (x3 : Int) (x4 : Int) (x5 : Int) (u6 : pV) (u7 : pV) (u8 : pV) (hu6 : u6.1 ≠ 1) (hu7 : u7.1 ≠ 1) (hu8 : u8.1 ≠ 1) (g1 : 0 ≤ x1 ∧ x1 < 2) (g2 : inR x5) (g3 : inR (rd σ 92 x1)) (g4 : ∀ (c1 : (rd σ 92 x1) ≤ x5), inR (rd σ 103 0)) (k1 : ∀ (c1 : (rd σ 92 x1) ≤ x5) (c3 : (rd σ 103 0) ≠ 1), Q (some (0, 0)) σ) (k2 : ∀ (c1 : (rd σ 92 x1) ≤ x5) (c4 : (rd σ 103 0) = 1), Q (some (0, 1)) σ) (g5 : ∀ (c2 : x5 < (rd σ 92 x1)), 0 ≤ x5 ∧ x5 < 600) (g6 : ∀ (c2 : x5 < (rd σ 92 x1)), inR (rd σ 89 x5)) (g7 : ∀ (c2 : x5 < (rd σ 92 x1)) (c5 : 20 ≤ (rd σ 89 x5)) (c7 : (rd σ 89 x5) ≠ 20), 0 ≤ ((x4 + (-1)) - 1) ∧ ((x4 + (-1)) - 1) < 60) (g8 : ∀ (c2 : x5 < (rd σ 92 x1)) (c5 : 20 ≤ (rd σ 89 x5)) (c7 : (rd σ 89 x5) ≠ 20), 0 ≤ (x4 + (-1)) ∧ (x4 + (-1)) < 60) (k3 : ∀ (c2 : x5 < (rd σ 92 x1)) (c5 : 20 ≤ (rd σ 89 x5)) (c7 : (rd σ 89 x5) ≠ 20) (c9 : (rd σ 89 x5) < 21 ∨ 26 < (rd σ 89 x5)), pR mX11_holds d 22 [(2, 68), (0, x1), (0, x2), (0, x3), (0, (x4 + (-1))), (0, (x5 + 1)), (0, (rd σ 89 x5)), (0, (rd σ 103 ((x4 + (-1)) - 1))), (0, (rd σ 103 (x4 + (-1))))] [] (wr σ 103 ((x4 + (-1)) - 1) ((rd σ 103 ((x4 + (-1)) - 1)) - (rd σ 103 (x4 + (-1))))) Q) (g9 : ∀ (c2 : x5 < (rd σ 92 x1)) (c5 : 20 ≤ (rd σ 89 x5)) (c7 : (rd σ 89 x5) ≠ 20) (c9 : (rd σ 89 x5) = 21), inR ((rd σ 103 ((x4 + (-1)) - 1)) + (rd σ 103 (x4 + (-1))))) (k4 : ∀ (c2 : x5 < (rd σ 92 x1)) (c5 : 20 ≤ (rd σ 89 x5)) (c7 : (rd σ 89 x5) ≠ 20) (c9 : (rd σ 89 x5) = 21) (c10 : ((rd σ 103 ((x4 + (-1)) - 1)) + (rd σ 103 (x4 + (-1)))) ≤ 0), pR mX11_holds d 22 [(2, 68), (0, x1), (0, x2), (0, x3), (0, (x4 + (-1))), (0, (x5 + 1)), (0, (rd σ 89 x5)), (0, (rd σ 103 ((x4 + (-1)) - 1))), (0, (rd σ 103 (x4 + (-1))))] [] (wr σ 103 ((x4 + (-1)) - 1) 0) Q) (k5 : ∀ (c2 : x5 < (rd σ 92 x1)) (c5 : 20 ≤ (rd σ 89 x5)) (c7 : (rd σ 89 x5) ≠ 20) (c9 : (rd σ 89 x5) = 21) (c11 : 0 < ((rd σ 103 ((x4 + (-1)) - 1)) + (rd σ 103 (x4 + (-1))))), pR mX11_holds d 22 [(2, 68), (0, x1), (0, x2), (0, x3), (0, (x4 + (-1))), (0, (x5 + 1)), (0, (rd σ 89 x5)), (0, (rd σ 103 ((x4 + (-1)) - 1))), (0, (rd σ 103 (x4 + (-1))))] [] (wr σ 103 ((x4 + (-1)) - 1) 1) Q) (g10 : ∀ (c2 : x5 < (rd σ 92 x1)) (c5 : 20 ≤ (rd σ 89 x5)) (c7 : (rd σ 89 x5) ≠ 20) (c9 : (rd σ 89 x5) = 22), inR ((rd σ 103 ((x4 + (-1)) - 1)) + (rd σ 103 (x4 + (-1))))) (k6 : ∀ (c2 : x5 < (rd σ 92 x1)) (c5 : 20 ≤ (rd σ 89 x5)) (c7 : (rd σ 89 x5) ≠ 20) (c9 : (rd σ 89 x5) = 22) (c12 : ((rd σ 103 ((x4 + (-1)) - 1)) + (rd σ 103 (x4 + (-1)))) ≤ 1), pR mX11_holds d 22 [(2, 68), (0, x1), (0, x2), (0, x3), (0, (x4 + (-1))), (0, (x5 + 1)), (0, (rd σ 89 x5)), (0, (rd σ 103 ((x4 + (-1)) - 1))), (0, (rd σ 103 (x4 + (-1))))] [] (wr σ 103 ((x4 + (-1)) - 1) 0) Q) (k7 : ∀ (c2 : x5 < (rd σ 92 x1)) (c5 : 20 ≤ (rd σ 89 x5)) (c7 : (rd σ 89 x5) ≠ 20) (c9 : (rd σ 89 x5) = 22) (c13 : 1 < ((rd σ 103 ((x4 + (-1)) - 1)) + (rd σ 103 (x4 + (-1))))), pR mX11_holds d 22 [(2, 68), (0, x1), (0, x2), (0, x3), (0, (x4 + (-1))), (0, (x5 + 1)), (0, (rd σ 89 x5)), (0, (rd σ 103 ((x4 + (-1)) - 1))), (0, (rd σ 103 (x4 + (-1))))] [] (wr σ 103 ((x4 + (-1)) - 1) 1) Q) (g11 : ∀ (c2 : x5 < (rd σ 92 x1)) (c5 : 20 ≤ (rd σ 89 x5)) (c7 : (rd σ 89 x5) ≠ 20) (c9 : (rd σ 89 x5) = 23), inR (rd σ 103 ((x4 + (-1)) - 1))) (g12 : ∀ (c2 : x5 < (rd σ 92 x1)) (c5 : 20 ≤ (rd σ 89 x5)) (c7 : (rd σ 89 x5) ≠ 20) (c9 : (rd σ 89 x5) = 23), inR (rd σ 103 (x4 + (-1)))) (k8 : ∀ (c2 : x5 < (rd σ 92 x1)) (c5 : 20 ≤ (rd σ 89 x5)) (c7 : (rd σ 89 x5) ≠ 20) (c9 : (rd σ 89 x5) = 23) (c14 : (rd σ 103 ((x4 + (-1)) - 1)) ≠ (rd σ 103 (x4 + (-1)))), pR mX11_holds d 22 [(2, 68), (0, x1), (0, x2), (0, x3), (0, (x4 + (-1))), (0, (x5 + 1)), (0, (rd σ 89 x5)), (0, (rd σ 103 ((x4 + (-1)) - 1))), (0, (rd σ 103 (x4 + (-1))))] [] (wr σ 103 ((x4 + (-1)) - 1) 0) Q) (k9 : ∀ (c2 : x5 < (rd σ 92 x1)) (c5 : 20 ≤ (rd σ 89 x5)) (c7 : (rd σ 89 x5) ≠ 20) (c9 : (rd σ 89 x5) = 23) (c15 : (rd σ 103 ((x4 + (-1)) - 1)) = (rd σ 103 (x4 + (-1)))), pR mX11_holds d 22 [(2, 68), (0, x1), (0, x2), (0, x3), (0, (x4 + (-1))), (0, (x5 + 1)), (0, (rd σ 89 x5)), (0, (rd σ 103 ((x4 + (-1)) - 1))), (0, (rd σ 103 (x4 + (-1))))] [] (wr σ 103 ((x4 + (-1)) - 1) 1) Q) (g13 : ∀ (c2 : x5 < (rd σ 92 x1)) (c5 : 20 ≤ (rd σ 89 x5)) (c7 : (rd σ 89 x5) ≠ 20) (c9 : (rd σ 89 x5) = 24), inR (rd σ 103 ((x4 + (-1)) - 1))) (g14 : ∀ (c2 : x5 < (rd σ 92 x1)) (c5 : 20 ≤ (rd σ 89 x5)) (c7 : (rd σ 89 x5) ≠ 20) (c9 : (rd σ 89 x5) = 24), inR (rd σ 103 (x4 + (-1)))) (k10 : ∀ (c2 : x5 < (rd σ 92 x1)) (c5 : 20 ≤ (rd σ 89 x5)) (c7 : (rd σ 89 x5) ≠ 20) (c9 : (rd σ 89 x5) = 24) (c16 : (rd σ 103 (x4 + (-1))) ≤ (rd σ 103 ((x4 + (-1)) - 1))), pR mX11_holds d 22 [(2, 68), (0, x1), (0, x2), (0, x3), (0, (x4 + (-1))), (0, (x5 + 1)), (0, (rd σ 89 x5)), (0, (rd σ 103 ((x4 + (-1)) - 1))), (0, (rd σ 103 (x4 + (-1))))] [] (wr σ 103 ((x4 + (-1)) - 1) 0) Q) (k11 : ∀ (c2 : x5 < (rd σ 92 x1)) (c5 : 20 ≤ (rd σ 89 x5)) (c7 : (rd σ 89 x5) ≠ 20) (c9 : (rd σ 89 x5) = 24) (c17 : (rd σ 103 ((x4 + (-1)) - 1)) < (rd σ 103 (x4 + (-1)))), pR mX11_holds d 22 [(2, 68), (0, x1), (0, x2), (0, x3), (0, (x4 + (-1))), (0, (x5 + 1)), (0, (rd σ 89 x5)), (0, (rd σ 103 ((x4 + (-1)) - 1))), (0, (rd σ 103 (x4 + (-1))))] [] (wr σ 103 ((x4 + (-1)) - 1) 1) Q) (g15 : ∀ (c2 : x5 < (rd σ 92 x1)) (c5 : 20 ≤ (rd σ 89 x5)) (c7 : (rd σ 89 x5) ≠ 20) (c9 : (rd σ 89 x5) = 25), inR (rd σ 103 ((x4 + (-1)) - 1))) (g16 : ∀ (c2 : x5 < (rd σ 92 x1)) (c5 : 20 ≤ (rd σ 89 x5)) (c7 : (rd σ 89 x5) ≠ 20) (c9 : (rd σ 89 x5) = 25), inR (rd σ 103 (x4 + (-1)))) (k12 : ∀ (c2 : x5 < (rd σ 92 x1)) (c5 : 20 ≤ (rd σ 89 x5)) (c7 : (rd σ 89 x5) ≠ 20) (c9 : (rd σ 89 x5) = 25) (c18 : (rd σ 103 ((x4 + (-1)) - 1)) ≤ (rd σ 103 (x4 + (-1)))), pR mX11_holds d 22 [(2, 68), (0, x1), (0, x2), (0, x3), (0, (x4 + (-1))), (0, (x5 + 1)), (0, (rd σ 89 x5)), (0, (rd σ 103 ((x4 + (-1)) - 1))), (0, (rd σ 103 (x4 + (-1))))] [] (wr σ 103 ((x4 + (-1)) - 1) 0) Q) (k13 : ∀ (c2 : x5 < (rd σ 92 x1)) (c5 : 20 ≤ (rd σ 89 x5)) (c7 : (rd σ 89 x5) ≠ 20) (c9 : (rd σ 89 x5) = 25) (c19 : (rd σ 103 (x4 + (-1))) < (rd σ 103 ((x4 + (-1)) - 1))), pR mX11_holds d 22 [(2, 68), (0, x1), (0, x2), (0, x3), (0, (x4 + (-1))), (0, (x5 + 1)), (0, (rd σ 89 x5)), (0, (rd σ 103 ((x4 + (-1)) - 1))), (0, (rd σ 103 (x4 + (-1))))] [] (wr σ 103 ((x4 + (-1)) - 1) 1) Q) (k14 : ∀ (c2 : x5 < (rd σ 92 x1)) (c5 : 20 ≤ (rd σ 89 x5)) (c7 : (rd σ 89 x5) ≠ 20) (c9 : (rd σ 89 x5) = 26), pR mX11_holds d 22 [(2, 68), (0, x1), (0, x2), (0, x3), (0, (x4 + (-1))), (0, (x5 + 1)), (0, (rd σ 89 x5)), (0, (rd σ 103 ((x4 + (-1)) - 1))), (0, (rd σ 103 (x4 + (-1))))] [] (wr σ 103 ((x4 + (-1)) - 1) ((rd σ 103 ((x4 + (-1)) - 1)) + (rd σ 103 (x4 + (-1))))) Q) (g17 : ∀ (c2 : x5 < (rd σ 92 x1)) (c5 : 20 ≤ (rd σ 89 x5)) (c8 : (rd σ 89 x5) = 20), 0 ≤ (x4 - 1) ∧ (x4 - 1) < 60) (k15 : ∀ (c2 : x5 < (rd σ 92 x1)) (c5 : 20 ≤ (rd σ 89 x5)) (c8 : (rd σ 89 x5) = 20), pR mX11_holds d 22 [(2, 68), (0, x1), (0, x2), (0, x3), (0, x4), (0, (x5 + 1)), (0, (rd σ 89 x5)), u7, u8] [] (wr σ 103 (x4 - 1) (1 - (rd σ 103 (x4 - 1)))) Q) (f1 : ∀ (c2 : x5 < (rd σ 92 x1)) (c6 : (rd σ 89 x5) < 20), pC mX11_valueOf 0 [(2, 68), (0, (rd σ 89 x5)), (0, (rd σ 90 x5)), (0, x2), (0, x3)] σ Q1) (g18 : ∀ (c2 : x5 < (rd σ 92 x1)) (c6 : (rd σ 89 x5) < 20) (v1 : Int) (τ1 : pS) (e1 : pLe σ τ1) (q1 : Q1 (some (0, v1)) τ1), 0 ≤ x4 ∧ x4 < 60) (k16 : ∀ (c2 : x5 < (rd σ 92 x1)) (c6 : (rd σ 89 x5) < 20) (v1 : Int) (τ1 : pS) (e1 : pLe σ τ1) (q1 : Q1 (some (0, v1)) τ1), pR mX11_holds d 22 [(2, 68), (0, x1), (0, x2), (0, x3), (0, (x4 + 1)), (0, (x5 + 1)), (0, (rd σ 89 x5)), u7, u8] [] (wr τ1 103 x4 v1) Q) : pR mX11_holds d 22 [(2, 68), (0, x1), (0, x2), (0, x3), (0, x4), (0, x5), u6, u7, u8] [] σ Q := by
  refine pGo (s_iload dX11_holds_22 rfl) ?_
  refine pGo (s_aload_n dX11_holds_24 rfl (by decide)) ?_
  refine pGoE (y := 92) (s_getF pc11 fl_X11_85 dX11_holds_25 (ob_68 hst) rfl (by decide)) (by decide) ?_
  refine pGo (s_iload_n dX11_holds_28 rfl) ?_
  refine pGoE (y := (rd σ 92 x1)) (s_iald dX11_holds_29 (ob_92 hst) (bnd g1)) rfl ?_
  refine p_icge (tgt := 332) dX11_holds_30 (by decide) g2 g3 (fun c1 => ?_) (fun c2 => ?_)
  · refine pGo (s_aload_n dX11_holds_332 rfl (by decide)) ?_
    refine pGoE (y := 103) (s_getF pc11 fl_X11_118 dX11_holds_333 (ob_68 hst) rfl (by decide)) (by decide) ?_
    refine pGo (s_iconst dX11_holds_336) ?_
    refine pGoE (y := (rd σ 103 0)) (s_iald dX11_holds_337 (ob_103 hst) (by decide)) rfl ?_
    refine pGo (s_iconst dX11_holds_338) ?_
    refine p_icne (tgt := 346) dX11_holds_339 (by decide) (g4 c1) (by decide) (fun c3 => ?_) (fun c4 => ?_)
    · refine pGo (s_iconst dX11_holds_346) ?_
      exact pEnd (r := (some (0, 0))) dX11_holds_347 (Or.inl rfl) (k1 c1 c3)
    · refine pGo (s_iconst dX11_holds_342) ?_
      refine pGo (s_goto (tgt := 347) dX11_holds_343 (by decide)) ?_
      exact pEnd (r := (some (0, 1))) dX11_holds_347 (Or.inr rfl) (k2 c1 c4)
  · refine pGo (s_aload_n dX11_holds_33 rfl (by decide)) ?_
    refine pGoE (y := 89) (s_getF pc11 fl_X11_76 dX11_holds_34 (ob_68 hst) rfl (by decide)) (by decide) ?_
    refine pGo (s_iload dX11_holds_37 rfl) ?_
    refine pGoE (y := (rd σ 89 x5)) (s_iald dX11_holds_39 (ob_89 hst) (bnd (g5 c2))) rfl ?_
    refine pGoL (ls2 := [(2, 68), (0, x1), (0, x2), (0, x3), (0, x4), (0, x5), (0, (rd σ 89 x5)), u7, u8]) (s_istore dX11_holds_40 (by decide) rfl) rfl ?_
    refine pGo (s_iload dX11_holds_42 rfl) ?_
    refine pGo (s_bipush dX11_holds_44 (by decide)) ?_
    refine p_icge (tgt := 77) dX11_holds_46 (by decide) (g6 c2) (by decide) (fun c5 => ?_) (fun c6 => ?_)
    · refine pGo (s_iload dX11_holds_77 rfl) ?_
      refine pGo (s_bipush dX11_holds_79 (by decide)) ?_
      refine p_icne (tgt := 107) dX11_holds_81 (by decide) (g6 c2) (by decide) (fun c7 => ?_) (fun c8 => ?_)
      · refine pGoL (ls2 := [(2, 68), (0, x1), (0, x2), (0, x3), (0, (x4 + (-1))), (0, x5), (0, (rd σ 89 x5)), u7, u8]) (s_iinc dX11_holds_107 (by decide) rfl rfl) rfl ?_
        refine pGo (s_aload_n dX11_holds_110 rfl (by decide)) ?_
        refine pGoE (y := 103) (s_getF pc11 fl_X11_118 dX11_holds_111 (ob_68 hst) rfl (by decide)) (by decide) ?_
        refine pGo (s_iload dX11_holds_114 rfl) ?_
        refine pGo (s_iconst dX11_holds_116) ?_
        refine pGo (s_isub dX11_holds_117) ?_
        refine pGoE (y := (rd σ 103 ((x4 + (-1)) - 1))) (s_iald dX11_holds_118 (ob_103 hst) (bnd (g7 c2 c5 c7))) rfl ?_
        refine pGoL (ls2 := [(2, 68), (0, x1), (0, x2), (0, x3), (0, (x4 + (-1))), (0, x5), (0, (rd σ 89 x5)), (0, (rd σ 103 ((x4 + (-1)) - 1))), u8]) (s_istore dX11_holds_119 (by decide) rfl) rfl ?_
        refine pGo (s_aload_n dX11_holds_121 rfl (by decide)) ?_
        refine pGoE (y := 103) (s_getF pc11 fl_X11_118 dX11_holds_122 (ob_68 hst) rfl (by decide)) (by decide) ?_
        refine pGo (s_iload dX11_holds_125 rfl) ?_
        refine pGoE (y := (rd σ 103 (x4 + (-1)))) (s_iald dX11_holds_127 (ob_103 hst) (bnd (g8 c2 c5 c7))) rfl ?_
        refine pGoL (ls2 := [(2, 68), (0, x1), (0, x2), (0, x3), (0, (x4 + (-1))), (0, x5), (0, (rd σ 89 x5)), (0, (rd σ 103 ((x4 + (-1)) - 1))), (0, (rd σ 103 (x4 + (-1))))]) (s_istore dX11_holds_128 (by decide) rfl) rfl ?_
        refine pGo (s_iload dX11_holds_130 rfl) ?_
        rcases (show ((rd σ 89 x5) < 21 ∨ 26 < (rd σ 89 x5)) ∨ (rd σ 89 x5) = 21 ∨ (rd σ 89 x5) = 22 ∨ (rd σ 89 x5) = 23 ∨ (rd σ 89 x5) = 24 ∨ (rd σ 89 x5) = 25 ∨ (rd σ 89 x5) = 26 by omega) with c9 | c9 | c9 | c9 | c9 | c9 | c9
        · refine pGo (s_tabout (tgt := 312) dX11_holds_132 (g6 c2) c9 (by decide)) ?_
          refine pGo (s_aload_n dX11_holds_312 rfl (by decide)) ?_
          refine pGoE (y := 103) (s_getF pc11 fl_X11_118 dX11_holds_313 (ob_68 hst) rfl (by decide)) (by decide) ?_
          refine pGo (s_iload dX11_holds_316 rfl) ?_
          refine pGo (s_iconst dX11_holds_318) ?_
          refine pGo (s_isub dX11_holds_319) ?_
          refine pGo (s_iload dX11_holds_320 rfl) ?_
          refine pGo (s_iload dX11_holds_322 rfl) ?_
          refine pGo (s_isub dX11_holds_324) ?_
          refine pGo (s_iast dX11_holds_325 (ob_103 hst) (bnd (g7 c2 c5 c7))) ?_
          refine pGoL (ls2 := [(2, 68), (0, x1), (0, x2), (0, x3), (0, (x4 + (-1))), (0, (x5 + 1)), (0, (rd σ 89 x5)), (0, (rd σ 103 ((x4 + (-1)) - 1))), (0, (rd σ 103 (x4 + (-1))))]) (s_iinc dX11_holds_326 (by decide) rfl rfl) rfl ?_
          refine pGo (s_goto (tgt := 22) dX11_holds_329 (by decide)) ?_
          exact (k3 c2 c5 c7 c9)
        · refine pGo (s_tabin (off := 40) (tgt := 172) dX11_holds_132 (g6 c2) (by omega) (by omega) (by rw [c9]; rfl) (by decide)) ?_
          refine pGo (s_aload_n dX11_holds_172 rfl (by decide)) ?_
          refine pGoE (y := 103) (s_getF pc11 fl_X11_118 dX11_holds_173 (ob_68 hst) rfl (by decide)) (by decide) ?_
          refine pGo (s_iload dX11_holds_176 rfl) ?_
          refine pGo (s_iconst dX11_holds_178) ?_
          refine pGo (s_isub dX11_holds_179) ?_
          refine pGo (s_iload dX11_holds_180 rfl) ?_
          refine pGo (s_iload dX11_holds_182 rfl) ?_
          refine pGo (s_iadd dX11_holds_184) ?_
          refine p_ifle (tgt := 192) dX11_holds_185 (by decide) (g9 c2 c5 c7 c9) (fun c10 => ?_) (fun c11 => ?_)
          · refine pGo (s_iconst dX11_holds_192) ?_
            refine pGo (s_iast dX11_holds_193 (ob_103 hst) (bnd (g7 c2 c5 c7))) ?_
            refine pGo (s_goto (tgt := 326) dX11_holds_194 (by decide)) ?_
            refine pGoL (ls2 := [(2, 68), (0, x1), (0, x2), (0, x3), (0, (x4 + (-1))), (0, (x5 + 1)), (0, (rd σ 89 x5)), (0, (rd σ 103 ((x4 + (-1)) - 1))), (0, (rd σ 103 (x4 + (-1))))]) (s_iinc dX11_holds_326 (by decide) rfl rfl) rfl ?_
            refine pGo (s_goto (tgt := 22) dX11_holds_329 (by decide)) ?_
            exact (k4 c2 c5 c7 c9 c10)
          · refine pGo (s_iconst dX11_holds_188) ?_
            refine pGo (s_goto (tgt := 193) dX11_holds_189 (by decide)) ?_
            refine pGo (s_iast dX11_holds_193 (ob_103 hst) (bnd (g7 c2 c5 c7))) ?_
            refine pGo (s_goto (tgt := 326) dX11_holds_194 (by decide)) ?_
            refine pGoL (ls2 := [(2, 68), (0, x1), (0, x2), (0, x3), (0, (x4 + (-1))), (0, (x5 + 1)), (0, (rd σ 89 x5)), (0, (rd σ 103 ((x4 + (-1)) - 1))), (0, (rd σ 103 (x4 + (-1))))]) (s_iinc dX11_holds_326 (by decide) rfl rfl) rfl ?_
            refine pGo (s_goto (tgt := 22) dX11_holds_329 (by decide)) ?_
            exact (k5 c2 c5 c7 c9 c11)
        · refine pGo (s_tabin (off := 65) (tgt := 197) dX11_holds_132 (g6 c2) (by omega) (by omega) (by rw [c9]; rfl) (by decide)) ?_
          refine pGo (s_aload_n dX11_holds_197 rfl (by decide)) ?_
          refine pGoE (y := 103) (s_getF pc11 fl_X11_118 dX11_holds_198 (ob_68 hst) rfl (by decide)) (by decide) ?_
          refine pGo (s_iload dX11_holds_201 rfl) ?_
          refine pGo (s_iconst dX11_holds_203) ?_
          refine pGo (s_isub dX11_holds_204) ?_
          refine pGo (s_iload dX11_holds_205 rfl) ?_
          refine pGo (s_iload dX11_holds_207 rfl) ?_
          refine pGo (s_iadd dX11_holds_209) ?_
          refine pGo (s_iconst dX11_holds_210) ?_
          refine p_icle (tgt := 218) dX11_holds_211 (by decide) (g10 c2 c5 c7 c9) (by decide) (fun c12 => ?_) (fun c13 => ?_)
          · refine pGo (s_iconst dX11_holds_218) ?_
            refine pGo (s_iast dX11_holds_219 (ob_103 hst) (bnd (g7 c2 c5 c7))) ?_
            refine pGo (s_goto (tgt := 326) dX11_holds_220 (by decide)) ?_
            refine pGoL (ls2 := [(2, 68), (0, x1), (0, x2), (0, x3), (0, (x4 + (-1))), (0, (x5 + 1)), (0, (rd σ 89 x5)), (0, (rd σ 103 ((x4 + (-1)) - 1))), (0, (rd σ 103 (x4 + (-1))))]) (s_iinc dX11_holds_326 (by decide) rfl rfl) rfl ?_
            refine pGo (s_goto (tgt := 22) dX11_holds_329 (by decide)) ?_
            exact (k6 c2 c5 c7 c9 c12)
          · refine pGo (s_iconst dX11_holds_214) ?_
            refine pGo (s_goto (tgt := 219) dX11_holds_215 (by decide)) ?_
            refine pGo (s_iast dX11_holds_219 (ob_103 hst) (bnd (g7 c2 c5 c7))) ?_
            refine pGo (s_goto (tgt := 326) dX11_holds_220 (by decide)) ?_
            refine pGoL (ls2 := [(2, 68), (0, x1), (0, x2), (0, x3), (0, (x4 + (-1))), (0, (x5 + 1)), (0, (rd σ 89 x5)), (0, (rd σ 103 ((x4 + (-1)) - 1))), (0, (rd σ 103 (x4 + (-1))))]) (s_iinc dX11_holds_326 (by decide) rfl rfl) rfl ?_
            refine pGo (s_goto (tgt := 22) dX11_holds_329 (by decide)) ?_
            exact (k7 c2 c5 c7 c9 c13)
        · refine pGo (s_tabin (off := 91) (tgt := 223) dX11_holds_132 (g6 c2) (by omega) (by omega) (by rw [c9]; rfl) (by decide)) ?_
          refine pGo (s_aload_n dX11_holds_223 rfl (by decide)) ?_
          refine pGoE (y := 103) (s_getF pc11 fl_X11_118 dX11_holds_224 (ob_68 hst) rfl (by decide)) (by decide) ?_
          refine pGo (s_iload dX11_holds_227 rfl) ?_
          refine pGo (s_iconst dX11_holds_229) ?_
          refine pGo (s_isub dX11_holds_230) ?_
          refine pGo (s_iload dX11_holds_231 rfl) ?_
          refine pGo (s_iload dX11_holds_233 rfl) ?_
          refine p_icne (tgt := 242) dX11_holds_235 (by decide) (g11 c2 c5 c7 c9) (g12 c2 c5 c7 c9) (fun c14 => ?_) (fun c15 => ?_)
          · refine pGo (s_iconst dX11_holds_242) ?_
            refine pGo (s_iast dX11_holds_243 (ob_103 hst) (bnd (g7 c2 c5 c7))) ?_
            refine pGo (s_goto (tgt := 326) dX11_holds_244 (by decide)) ?_
            refine pGoL (ls2 := [(2, 68), (0, x1), (0, x2), (0, x3), (0, (x4 + (-1))), (0, (x5 + 1)), (0, (rd σ 89 x5)), (0, (rd σ 103 ((x4 + (-1)) - 1))), (0, (rd σ 103 (x4 + (-1))))]) (s_iinc dX11_holds_326 (by decide) rfl rfl) rfl ?_
            refine pGo (s_goto (tgt := 22) dX11_holds_329 (by decide)) ?_
            exact (k8 c2 c5 c7 c9 c14)
          · refine pGo (s_iconst dX11_holds_238) ?_
            refine pGo (s_goto (tgt := 243) dX11_holds_239 (by decide)) ?_
            refine pGo (s_iast dX11_holds_243 (ob_103 hst) (bnd (g7 c2 c5 c7))) ?_
            refine pGo (s_goto (tgt := 326) dX11_holds_244 (by decide)) ?_
            refine pGoL (ls2 := [(2, 68), (0, x1), (0, x2), (0, x3), (0, (x4 + (-1))), (0, (x5 + 1)), (0, (rd σ 89 x5)), (0, (rd σ 103 ((x4 + (-1)) - 1))), (0, (rd σ 103 (x4 + (-1))))]) (s_iinc dX11_holds_326 (by decide) rfl rfl) rfl ?_
            refine pGo (s_goto (tgt := 22) dX11_holds_329 (by decide)) ?_
            exact (k9 c2 c5 c7 c9 c15)
        · refine pGo (s_tabin (off := 115) (tgt := 247) dX11_holds_132 (g6 c2) (by omega) (by omega) (by rw [c9]; rfl) (by decide)) ?_
          refine pGo (s_aload_n dX11_holds_247 rfl (by decide)) ?_
          refine pGoE (y := 103) (s_getF pc11 fl_X11_118 dX11_holds_248 (ob_68 hst) rfl (by decide)) (by decide) ?_
          refine pGo (s_iload dX11_holds_251 rfl) ?_
          refine pGo (s_iconst dX11_holds_253) ?_
          refine pGo (s_isub dX11_holds_254) ?_
          refine pGo (s_iload dX11_holds_255 rfl) ?_
          refine pGo (s_iload dX11_holds_257 rfl) ?_
          refine p_icge (tgt := 266) dX11_holds_259 (by decide) (g13 c2 c5 c7 c9) (g14 c2 c5 c7 c9) (fun c16 => ?_) (fun c17 => ?_)
          · refine pGo (s_iconst dX11_holds_266) ?_
            refine pGo (s_iast dX11_holds_267 (ob_103 hst) (bnd (g7 c2 c5 c7))) ?_
            refine pGo (s_goto (tgt := 326) dX11_holds_268 (by decide)) ?_
            refine pGoL (ls2 := [(2, 68), (0, x1), (0, x2), (0, x3), (0, (x4 + (-1))), (0, (x5 + 1)), (0, (rd σ 89 x5)), (0, (rd σ 103 ((x4 + (-1)) - 1))), (0, (rd σ 103 (x4 + (-1))))]) (s_iinc dX11_holds_326 (by decide) rfl rfl) rfl ?_
            refine pGo (s_goto (tgt := 22) dX11_holds_329 (by decide)) ?_
            exact (k10 c2 c5 c7 c9 c16)
          · refine pGo (s_iconst dX11_holds_262) ?_
            refine pGo (s_goto (tgt := 267) dX11_holds_263 (by decide)) ?_
            refine pGo (s_iast dX11_holds_267 (ob_103 hst) (bnd (g7 c2 c5 c7))) ?_
            refine pGo (s_goto (tgt := 326) dX11_holds_268 (by decide)) ?_
            refine pGoL (ls2 := [(2, 68), (0, x1), (0, x2), (0, x3), (0, (x4 + (-1))), (0, (x5 + 1)), (0, (rd σ 89 x5)), (0, (rd σ 103 ((x4 + (-1)) - 1))), (0, (rd σ 103 (x4 + (-1))))]) (s_iinc dX11_holds_326 (by decide) rfl rfl) rfl ?_
            refine pGo (s_goto (tgt := 22) dX11_holds_329 (by decide)) ?_
            exact (k11 c2 c5 c7 c9 c17)
        · refine pGo (s_tabin (off := 139) (tgt := 271) dX11_holds_132 (g6 c2) (by omega) (by omega) (by rw [c9]; rfl) (by decide)) ?_
          refine pGo (s_aload_n dX11_holds_271 rfl (by decide)) ?_
          refine pGoE (y := 103) (s_getF pc11 fl_X11_118 dX11_holds_272 (ob_68 hst) rfl (by decide)) (by decide) ?_
          refine pGo (s_iload dX11_holds_275 rfl) ?_
          refine pGo (s_iconst dX11_holds_277) ?_
          refine pGo (s_isub dX11_holds_278) ?_
          refine pGo (s_iload dX11_holds_279 rfl) ?_
          refine pGo (s_iload dX11_holds_281 rfl) ?_
          refine p_icle (tgt := 290) dX11_holds_283 (by decide) (g15 c2 c5 c7 c9) (g16 c2 c5 c7 c9) (fun c18 => ?_) (fun c19 => ?_)
          · refine pGo (s_iconst dX11_holds_290) ?_
            refine pGo (s_iast dX11_holds_291 (ob_103 hst) (bnd (g7 c2 c5 c7))) ?_
            refine pGo (s_goto (tgt := 326) dX11_holds_292 (by decide)) ?_
            refine pGoL (ls2 := [(2, 68), (0, x1), (0, x2), (0, x3), (0, (x4 + (-1))), (0, (x5 + 1)), (0, (rd σ 89 x5)), (0, (rd σ 103 ((x4 + (-1)) - 1))), (0, (rd σ 103 (x4 + (-1))))]) (s_iinc dX11_holds_326 (by decide) rfl rfl) rfl ?_
            refine pGo (s_goto (tgt := 22) dX11_holds_329 (by decide)) ?_
            exact (k12 c2 c5 c7 c9 c18)
          · refine pGo (s_iconst dX11_holds_286) ?_
            refine pGo (s_goto (tgt := 291) dX11_holds_287 (by decide)) ?_
            refine pGo (s_iast dX11_holds_291 (ob_103 hst) (bnd (g7 c2 c5 c7))) ?_
            refine pGo (s_goto (tgt := 326) dX11_holds_292 (by decide)) ?_
            refine pGoL (ls2 := [(2, 68), (0, x1), (0, x2), (0, x3), (0, (x4 + (-1))), (0, (x5 + 1)), (0, (rd σ 89 x5)), (0, (rd σ 103 ((x4 + (-1)) - 1))), (0, (rd σ 103 (x4 + (-1))))]) (s_iinc dX11_holds_326 (by decide) rfl rfl) rfl ?_
            refine pGo (s_goto (tgt := 22) dX11_holds_329 (by decide)) ?_
            exact (k13 c2 c5 c7 c9 c19)
        · refine pGo (s_tabin (off := 163) (tgt := 295) dX11_holds_132 (g6 c2) (by omega) (by omega) (by rw [c9]; rfl) (by decide)) ?_
          refine pGo (s_aload_n dX11_holds_295 rfl (by decide)) ?_
          refine pGoE (y := 103) (s_getF pc11 fl_X11_118 dX11_holds_296 (ob_68 hst) rfl (by decide)) (by decide) ?_
          refine pGo (s_iload dX11_holds_299 rfl) ?_
          refine pGo (s_iconst dX11_holds_301) ?_
          refine pGo (s_isub dX11_holds_302) ?_
          refine pGo (s_iload dX11_holds_303 rfl) ?_
          refine pGo (s_iload dX11_holds_305 rfl) ?_
          refine pGo (s_iadd dX11_holds_307) ?_
          refine pGo (s_iast dX11_holds_308 (ob_103 hst) (bnd (g7 c2 c5 c7))) ?_
          refine pGo (s_goto (tgt := 326) dX11_holds_309 (by decide)) ?_
          refine pGoL (ls2 := [(2, 68), (0, x1), (0, x2), (0, x3), (0, (x4 + (-1))), (0, (x5 + 1)), (0, (rd σ 89 x5)), (0, (rd σ 103 ((x4 + (-1)) - 1))), (0, (rd σ 103 (x4 + (-1))))]) (s_iinc dX11_holds_326 (by decide) rfl rfl) rfl ?_
          refine pGo (s_goto (tgt := 22) dX11_holds_329 (by decide)) ?_
          exact (k14 c2 c5 c7 c9)
      · refine pGo (s_aload_n dX11_holds_84 rfl (by decide)) ?_
        refine pGoE (y := 103) (s_getF pc11 fl_X11_118 dX11_holds_85 (ob_68 hst) rfl (by decide)) (by decide) ?_
        refine pGo (s_iload dX11_holds_88 rfl) ?_
        refine pGo (s_iconst dX11_holds_90) ?_
        refine pGo (s_isub dX11_holds_91) ?_
        refine pGo (s_iconst dX11_holds_92) ?_
        refine pGo (s_aload_n dX11_holds_93 rfl (by decide)) ?_
        refine pGoE (y := 103) (s_getF pc11 fl_X11_118 dX11_holds_94 (ob_68 hst) rfl (by decide)) (by decide) ?_
        refine pGo (s_iload dX11_holds_97 rfl) ?_
        refine pGo (s_iconst dX11_holds_99) ?_
        refine pGo (s_isub dX11_holds_100) ?_
        refine pGoE (y := (rd σ 103 (x4 - 1))) (s_iald dX11_holds_101 (ob_103 hst) (bnd (g17 c2 c5 c8))) rfl ?_
        refine pGo (s_isub dX11_holds_102) ?_
        refine pGo (s_iast dX11_holds_103 (ob_103 hst) (bnd (g17 c2 c5 c8))) ?_
        refine pGo (s_goto (tgt := 326) dX11_holds_104 (by decide)) ?_
        refine pGoL (ls2 := [(2, 68), (0, x1), (0, x2), (0, x3), (0, x4), (0, (x5 + 1)), (0, (rd σ 89 x5)), u7, u8]) (s_iinc dX11_holds_326 (by decide) rfl rfl) rfl ?_
        refine pGo (s_goto (tgt := 22) dX11_holds_329 (by decide)) ?_
        exact (k15 c2 c5 c8)
    · refine pGo (s_aload_n dX11_holds_49 rfl (by decide)) ?_
      refine pGoE (y := 103) (s_getF pc11 fl_X11_118 dX11_holds_50 (ob_68 hst) rfl (by decide)) (by decide) ?_
      refine pGo (s_iload dX11_holds_53 rfl) ?_
      refine pGo (s_aload_n dX11_holds_55 rfl (by decide)) ?_
      refine pGo (s_iload dX11_holds_56 rfl) ?_
      refine pGo (s_aload_n dX11_holds_58 rfl (by decide)) ?_
      refine pGoE (y := 90) (s_getF pc11 fl_X11_79 dX11_holds_59 (ob_68 hst) rfl (by decide)) (by decide) ?_
      refine pGo (s_iload dX11_holds_62 rfl) ?_
      refine pGoE (y := (rd σ 90 x5)) (s_iald dX11_holds_64 (ob_90 hst) (bnd (g5 c2))) rfl ?_
      refine pGo (s_iload_n dX11_holds_65 rfl) ?_
      refine pGo (s_iload_n dX11_holds_66 rfl) ?_
      refine p_callV (As := [(0, (rd σ 89 x5)), (0, (rd σ 90 x5)), (0, x2), (0, x3)]) (st := [(0, x4), (2, 103)]) (n := 4) (d' := 0) (Q1 := Q1) pc11 ok_X11_valueOf ml_X11_460 im_X11_valueOf se_X11_valueOf dX11_holds_67 (ob_68 hst) (pargs_of rfl) rfl (Nat.le_of_ble_eq_true rfl) (by omega) (f1 c2 c6) (fun r1 τ1 e1 q1 w1 => ?_)
      obtain ⟨v1, rfl⟩ := w1
      have S1 : Stat τ1 := (Stat.le (σ := σ) hst e1)
      show pR mX11_holds d 70 [(2, 68), (0, x1), (0, x2), (0, x3), (0, x4), (0, x5), (0, (rd σ 89 x5)), u7, u8] [(0, v1), (0, x4), (2, 103)] τ1 Q
      refine pGo (s_iast dX11_holds_70 (ob_103 S1) (bnd (g18 c2 c6 v1 τ1 e1 q1))) ?_
      refine pGoL (ls2 := [(2, 68), (0, x1), (0, x2), (0, x3), (0, (x4 + 1)), (0, x5), (0, (rd σ 89 x5)), u7, u8]) (s_iinc dX11_holds_71 (by decide) rfl rfl) rfl ?_
      refine pGo (s_goto (tgt := 326) dX11_holds_74 (by decide)) ?_
      refine pGoL (ls2 := [(2, 68), (0, x1), (0, x2), (0, x3), (0, (x4 + 1)), (0, (x5 + 1)), (0, (rd σ 89 x5)), u7, u8]) (s_iinc dX11_holds_326 (by decide) rfl rfl) rfl ?_
      refine pGo (s_goto (tgt := 22) dX11_holds_329 (by decide)) ?_
      exact (k16 c2 c6 v1 τ1 e1 q1)
set_option maxRecDepth 100000 in
theorem g_X11_know_0 {d : Nat} {σ : pS} {Q : Option pV → pS → Prop} {Q1 : Option pV → pS → Prop} (hd : 2 ≤ d) (hst : Stat σ) (x1 : Int)  (f1 : pC mX11_blow 1 [(2, 68), (0, x1)] σ Q1) (k1 : ∀ (τ1 : pS) (e1 : pLe σ τ1) (q1 : Q1 none τ1), pR mX11_know d 7 [(2, 68), (0, x1), (0, 0), (9, 0)] [] τ1 Q) : pC mX11_know d [(2, 68), (0, x1)] σ Q := by
  show pR mX11_know d 0 [(2, 68), (0, x1), (9, 0), (9, 0)] [] σ Q
  refine pGo (s_aload_n dX11_know_0 rfl (by decide)) ?_
  refine pGo (s_iload_n dX11_know_1 rfl) ?_
  refine p_callV (As := [(0, x1)]) (st := []) (n := 1) (d' := 1) (Q1 := Q1) pc11 ok_X11_blow ml_X11_457 im_X11_blow se_X11_blow dX11_know_2 (ob_68 hst) (pargs_of rfl) rfl (Nat.le_of_ble_eq_true rfl) (by omega) f1 (fun r1 τ1 e1 q1 w1 => ?_)
  obtain rfl : r1 = none := w1
  have S1 : Stat τ1 := (Stat.le (σ := σ) hst e1)
  show pR mX11_know d 5 [(2, 68), (0, x1), (9, 0), (9, 0)] [] τ1 Q
  refine pGo (s_iconst dX11_know_5) ?_
  refine pGoL (ls2 := [(2, 68), (0, x1), (0, 0), (9, 0)]) (s_istore_n dX11_know_6 (by decide) rfl) rfl ?_
  exact (k1 τ1 e1 q1)
set_option maxRecDepth 100000 in
theorem g_X11_know_7 {d : Nat} {σ : pS} {Q : Option pV → pS → Prop} (hd : 2 ≤ d) (hst : Stat σ) (x1 : Int) (x2 : Int) (u3 : pV) (hu3 : u3.1 ≠ 1) (g1 : inR x2) (k1 : ∀ (c1 : 13 ≤ x2), Q none σ) (k2 : ∀ (c2 : x2 < 13), pR mX11_know d 15 [(2, 68), (0, x1), (0, x2), (0, 0)] [] σ Q) : pR mX11_know d 7 [(2, 68), (0, x1), (0, x2), u3] [] σ Q := by
  refine pGo (s_iload_n dX11_know_7 rfl) ?_
  refine pGo (s_bipush dX11_know_8 (by decide)) ?_
  refine p_icge (tgt := 153) dX11_know_10 (by decide) g1 (by decide) (fun c1 => ?_) (fun c2 => ?_)
  · exact pEnd (r := none) dX11_know_153 rfl (k1 c1)
  · refine pGo (s_iconst dX11_know_13) ?_
    refine pGoL (ls2 := [(2, 68), (0, x1), (0, x2), (0, 0)]) (s_istore_n dX11_know_14 (by decide) rfl) rfl ?_
    exact (k2 c2)
set_option maxRecDepth 100000 in
theorem g_X11_know_15 {d : Nat} {σ : pS} {Q : Option pV → pS → Prop} {Q1 : Option pV → pS → Prop} {Q2 : Option pV → pS → Prop} (hd : 2 ≤ d) (hst : Stat σ) (x1 : Int) (x2 : Int) (x3 : Int)  (g1 : inR x3) (g2 : ∀ (c1 : 8 ≤ x3), 0 ≤ ((482 * x2) + 481) ∧ ((482 * x2) + 481) < 6266) (k1 : ∀ (c1 : 8 ≤ x3), pR mX11_know d 90 [(2, 68), (0, x1), (0, x2), (0, 480)] [] (wr σ 104 ((482 * x2) + 481) (-1)) Q) (f1 : ∀ (c2 : x3 < 8), pC mX11_isWay 0 [(2, 68), (0, x2)] σ (fun r τ => r = some (0, b2i (vWay (rd σ 68 30) (rd σ 68 31) x2)) ∧ τ = σ)) (g3 : ∀ (c2 : x3 < 8) (c3 : (vWay (rd σ 68 30) (rd σ 68 31) x2) = false), 0 ≤ ((8 * x2) + x3) ∧ ((8 * x2) + x3) < 104) (k2 : ∀ (c2 : x3 < 8) (c3 : (vWay (rd σ 68 30) (rd σ 68 31) x2) = false), pR mX11_know d 15 [(2, 68), (0, x1), (0, x2), (0, (x3 + 1))] [] (wr σ 105 ((8 * x2) + x3) 0) Q) (g4 : ∀ (c2 : x3 < 8) (c4 : (vWay (rd σ 68 30) (rd σ 68 31) x2) = true), inR x2) (f2 : ∀ (c2 : x3 < 8) (c4 : (vWay (rd σ 68 30) (rd σ 68 31) x2) = true) (c5 : 6 ≤ x2), pC mX11_holds 1 [(2, 68), (0, 1), (0, x2), (0, x3)] σ Q1) (g5 : ∀ (c2 : x3 < 8) (c4 : (vWay (rd σ 68 30) (rd σ 68 31) x2) = true) (c5 : 6 ≤ x2) (v2 : Int) (b2 : v2 = 0 ∨ v2 = 1) (τ2 : pS) (e2 : pLe σ τ2) (q2 : Q1 (some (0, v2)) τ2), inR v2) (g6 : ∀ (c2 : x3 < 8) (c4 : (vWay (rd σ 68 30) (rd σ 68 31) x2) = true) (c5 : 6 ≤ x2) (v2 : Int) (b2 : v2 = 0 ∨ v2 = 1) (τ2 : pS) (e2 : pLe σ τ2) (q2 : Q1 (some (0, v2)) τ2) (c7 : v2 = 0), 0 ≤ ((8 * x2) + x3) ∧ ((8 * x2) + x3) < 104) (k3 : ∀ (c2 : x3 < 8) (c4 : (vWay (rd σ 68 30) (rd σ 68 31) x2) = true) (c5 : 6 ≤ x2) (v2 : Int) (b2 : v2 = 0 ∨ v2 = 1) (τ2 : pS) (e2 : pLe σ τ2) (q2 : Q1 (some (0, v2)) τ2) (c7 : v2 = 0), pR mX11_know d 15 [(2, 68), (0, x1), (0, x2), (0, (x3 + 1))] [] (wr τ2 105 ((8 * x2) + x3) 0) Q) (g7 : ∀ (c2 : x3 < 8) (c4 : (vWay (rd σ 68 30) (rd σ 68 31) x2) = true) (c5 : 6 ≤ x2) (v2 : Int) (b2 : v2 = 0 ∨ v2 = 1) (τ2 : pS) (e2 : pLe σ τ2) (q2 : Q1 (some (0, v2)) τ2) (c8 : v2 ≠ 0), 0 ≤ ((8 * x2) + x3) ∧ ((8 * x2) + x3) < 104) (k4 : ∀ (c2 : x3 < 8) (c4 : (vWay (rd σ 68 30) (rd σ 68 31) x2) = true) (c5 : 6 ≤ x2) (v2 : Int) (b2 : v2 = 0 ∨ v2 = 1) (τ2 : pS) (e2 : pLe σ τ2) (q2 : Q1 (some (0, v2)) τ2) (c8 : v2 ≠ 0), pR mX11_know d 15 [(2, 68), (0, x1), (0, x2), (0, (x3 + 1))] [] (wr τ2 105 ((8 * x2) + x3) 1) Q) (f3 : ∀ (c2 : x3 < 8) (c4 : (vWay (rd σ 68 30) (rd σ 68 31) x2) = true) (c6 : x2 < 6), pC mX11_holds 1 [(2, 68), (0, 0), (0, x2), (0, x3)] σ Q2) (g8 : ∀ (c2 : x3 < 8) (c4 : (vWay (rd σ 68 30) (rd σ 68 31) x2) = true) (c6 : x2 < 6) (v3 : Int) (b3 : v3 = 0 ∨ v3 = 1) (τ3 : pS) (e3 : pLe σ τ3) (q3 : Q2 (some (0, v3)) τ3), inR v3) (g9 : ∀ (c2 : x3 < 8) (c4 : (vWay (rd σ 68 30) (rd σ 68 31) x2) = true) (c6 : x2 < 6) (v3 : Int) (b3 : v3 = 0 ∨ v3 = 1) (τ3 : pS) (e3 : pLe σ τ3) (q3 : Q2 (some (0, v3)) τ3) (c9 : v3 = 0), 0 ≤ ((8 * x2) + x3) ∧ ((8 * x2) + x3) < 104) (k5 : ∀ (c2 : x3 < 8) (c4 : (vWay (rd σ 68 30) (rd σ 68 31) x2) = true) (c6 : x2 < 6) (v3 : Int) (b3 : v3 = 0 ∨ v3 = 1) (τ3 : pS) (e3 : pLe σ τ3) (q3 : Q2 (some (0, v3)) τ3) (c9 : v3 = 0), pR mX11_know d 15 [(2, 68), (0, x1), (0, x2), (0, (x3 + 1))] [] (wr τ3 105 ((8 * x2) + x3) 0) Q) (g10 : ∀ (c2 : x3 < 8) (c4 : (vWay (rd σ 68 30) (rd σ 68 31) x2) = true) (c6 : x2 < 6) (v3 : Int) (b3 : v3 = 0 ∨ v3 = 1) (τ3 : pS) (e3 : pLe σ τ3) (q3 : Q2 (some (0, v3)) τ3) (c10 : v3 ≠ 0), 0 ≤ ((8 * x2) + x3) ∧ ((8 * x2) + x3) < 104) (k6 : ∀ (c2 : x3 < 8) (c4 : (vWay (rd σ 68 30) (rd σ 68 31) x2) = true) (c6 : x2 < 6) (v3 : Int) (b3 : v3 = 0 ∨ v3 = 1) (τ3 : pS) (e3 : pLe σ τ3) (q3 : Q2 (some (0, v3)) τ3) (c10 : v3 ≠ 0), pR mX11_know d 15 [(2, 68), (0, x1), (0, x2), (0, (x3 + 1))] [] (wr τ3 105 ((8 * x2) + x3) 1) Q) : pR mX11_know d 15 [(2, 68), (0, x1), (0, x2), (0, x3)] [] σ Q := by
  refine pGo (s_iload_n dX11_know_15 rfl) ?_
  refine pGo (s_bipush dX11_know_16 (by decide)) ?_
  refine p_icge (tgt := 71) dX11_know_18 (by decide) g1 (by decide) (fun c1 => ?_) (fun c2 => ?_)
  · refine pGo (s_aload_n dX11_know_71 rfl (by decide)) ?_
    refine pGoE (y := 104) (s_getF pc11 fl_X11_121 dX11_know_72 (ob_68 hst) rfl (by decide)) (by decide) ?_
    refine pGo (s_sipush dX11_know_75 (by decide)) ?_
    refine pGo (s_iload_n dX11_know_78 rfl) ?_
    refine pGo (s_imul dX11_know_79) ?_
    refine pGo (s_sipush dX11_know_80 (by decide)) ?_
    refine pGo (s_iadd dX11_know_83) ?_
    refine pGo (s_iconst dX11_know_84) ?_
    refine pGo (s_iast dX11_know_85 (ob_104 hst) (bnd (g2 c1))) ?_
    refine pGo (s_sipush dX11_know_86 (by decide)) ?_
    refine pGoL (ls2 := [(2, 68), (0, x1), (0, x2), (0, 480)]) (s_istore_n dX11_know_89 (by decide) rfl) rfl ?_
    exact (k1 c1)
  · refine pGo (s_aload_n dX11_know_21 rfl (by decide)) ?_
    refine pGoE (y := 105) (s_getF pc11 fl_X11_124 dX11_know_22 (ob_68 hst) rfl (by decide)) (by decide) ?_
    refine pGo (s_bipush dX11_know_25 (by decide)) ?_
    refine pGo (s_iload_n dX11_know_27 rfl) ?_
    refine pGo (s_imul dX11_know_28) ?_
    refine pGo (s_iload_n dX11_know_29 rfl) ?_
    refine pGo (s_iadd dX11_know_30) ?_
    refine pGo (s_aload_n dX11_know_31 rfl (by decide)) ?_
    refine pGo (s_iload_n dX11_know_32 rfl) ?_
    refine p_callV (As := [(0, x2)]) (st := [(0, ((8 * x2) + x3)), (2, 105)]) (n := 1) (d' := 0) (Q1 := (fun r τ => r = some (0, b2i (vWay (rd σ 68 30) (rd σ 68 31) x2)) ∧ τ = σ)) pc11 ok_X11_isWay ml_X11_387 im_X11_isWay se_X11_isWay dX11_know_33 (ob_68 hst) (pargs_of rfl) rfl (Nat.le_of_ble_eq_true rfl) (by omega) (f1 c2) (fun r1 τ1 e1 q1 w1 => ?_)
    obtain ⟨rfl, t1⟩ := q1
    rw [t1]
    show pR mX11_know d 36 [(2, 68), (0, x1), (0, x2), (0, x3)] [(0, (b2i (vWay (rd σ 68 30) (rd σ 68 31) x2))), (0, ((8 * x2) + x3)), (2, 105)] σ Q
    refine p_ifeqB (tgt := 63) dX11_know_36 (by decide) (fun c3 => ?_) (fun c4 => ?_)
    · refine pGo (s_iconst dX11_know_63) ?_
      refine pGo (s_zast dX11_know_64 (ob_105 hst) (bnd (g3 c2 c3)) (by decide)) ?_
      refine pGoL (ls2 := [(2, 68), (0, x1), (0, x2), (0, (x3 + 1))]) (s_iinc dX11_know_65 (by decide) rfl rfl) rfl ?_
      refine pGo (s_goto (tgt := 15) dX11_know_68 (by decide)) ?_
      exact (k2 c2 c3)
    · refine pGo (s_aload_n dX11_know_39 rfl (by decide)) ?_
      refine pGo (s_iload_n dX11_know_40 rfl) ?_
      refine pGo (s_bipush dX11_know_41 (by decide)) ?_
      refine p_icge (tgt := 50) dX11_know_43 (by decide) (g4 c2 c4) (by decide) (fun c5 => ?_) (fun c6 => ?_)
      · refine pGo (s_iconst dX11_know_50) ?_
        refine pGo (s_iload_n dX11_know_51 rfl) ?_
        refine pGo (s_iload_n dX11_know_52 rfl) ?_
        refine p_callV (As := [(0, 1), (0, x2), (0, x3)]) (st := [(0, ((8 * x2) + x3)), (2, 105)]) (n := 3) (d' := 1) (Q1 := Q1) pc11 ok_X11_holds ml_X11_471 im_X11_holds se_X11_holds dX11_know_53 (ob_68 hst) (pargs_of rfl) rfl (Nat.le_of_ble_eq_true rfl) (by omega) (f2 c2 c4 c5) (fun r2 τ2 e2 q2 w2 => ?_)
        obtain ⟨v2, rfl, b2⟩ := pRok_z w2
        have S2 : Stat τ2 := (Stat.le (σ := σ) hst e2)
        show pR mX11_know d 56 [(2, 68), (0, x1), (0, x2), (0, x3)] [(0, v2), (0, ((8 * x2) + x3)), (2, 105)] τ2 Q
        refine p_ifeq (tgt := 63) dX11_know_56 (by decide) (g5 c2 c4 c5 v2 b2 τ2 e2 q2) (fun c7 => ?_) (fun c8 => ?_)
        · refine pGo (s_iconst dX11_know_63) ?_
          refine pGo (s_zast dX11_know_64 (ob_105 S2) (bnd (g6 c2 c4 c5 v2 b2 τ2 e2 q2 c7)) (by decide)) ?_
          refine pGoL (ls2 := [(2, 68), (0, x1), (0, x2), (0, (x3 + 1))]) (s_iinc dX11_know_65 (by decide) rfl rfl) rfl ?_
          refine pGo (s_goto (tgt := 15) dX11_know_68 (by decide)) ?_
          exact (k3 c2 c4 c5 v2 b2 τ2 e2 q2 c7)
        · refine pGo (s_iconst dX11_know_59) ?_
          refine pGo (s_goto (tgt := 64) dX11_know_60 (by decide)) ?_
          refine pGo (s_zast dX11_know_64 (ob_105 S2) (bnd (g7 c2 c4 c5 v2 b2 τ2 e2 q2 c8)) (by decide)) ?_
          refine pGoL (ls2 := [(2, 68), (0, x1), (0, x2), (0, (x3 + 1))]) (s_iinc dX11_know_65 (by decide) rfl rfl) rfl ?_
          refine pGo (s_goto (tgt := 15) dX11_know_68 (by decide)) ?_
          exact (k4 c2 c4 c5 v2 b2 τ2 e2 q2 c8)
      · refine pGo (s_iconst dX11_know_46) ?_
        refine pGo (s_goto (tgt := 51) dX11_know_47 (by decide)) ?_
        refine pGo (s_iload_n dX11_know_51 rfl) ?_
        refine pGo (s_iload_n dX11_know_52 rfl) ?_
        refine p_callV (As := [(0, 0), (0, x2), (0, x3)]) (st := [(0, ((8 * x2) + x3)), (2, 105)]) (n := 3) (d' := 1) (Q1 := Q2) pc11 ok_X11_holds ml_X11_471 im_X11_holds se_X11_holds dX11_know_53 (ob_68 hst) (pargs_of rfl) rfl (Nat.le_of_ble_eq_true rfl) (by omega) (f3 c2 c4 c6) (fun r3 τ3 e3 q3 w3 => ?_)
        obtain ⟨v3, rfl, b3⟩ := pRok_z w3
        have S3 : Stat τ3 := (Stat.le (σ := σ) hst e3)
        show pR mX11_know d 56 [(2, 68), (0, x1), (0, x2), (0, x3)] [(0, v3), (0, ((8 * x2) + x3)), (2, 105)] τ3 Q
        refine p_ifeq (tgt := 63) dX11_know_56 (by decide) (g8 c2 c4 c6 v3 b3 τ3 e3 q3) (fun c9 => ?_) (fun c10 => ?_)
        · refine pGo (s_iconst dX11_know_63) ?_
          refine pGo (s_zast dX11_know_64 (ob_105 S3) (bnd (g9 c2 c4 c6 v3 b3 τ3 e3 q3 c9)) (by decide)) ?_
          refine pGoL (ls2 := [(2, 68), (0, x1), (0, x2), (0, (x3 + 1))]) (s_iinc dX11_know_65 (by decide) rfl rfl) rfl ?_
          refine pGo (s_goto (tgt := 15) dX11_know_68 (by decide)) ?_
          exact (k5 c2 c4 c6 v3 b3 τ3 e3 q3 c9)
        · refine pGo (s_iconst dX11_know_59) ?_
          refine pGo (s_goto (tgt := 64) dX11_know_60 (by decide)) ?_
          refine pGo (s_zast dX11_know_64 (ob_105 S3) (bnd (g10 c2 c4 c6 v3 b3 τ3 e3 q3 c10)) (by decide)) ?_
          refine pGoL (ls2 := [(2, 68), (0, x1), (0, x2), (0, (x3 + 1))]) (s_iinc dX11_know_65 (by decide) rfl rfl) rfl ?_
          refine pGo (s_goto (tgt := 15) dX11_know_68 (by decide)) ?_
          exact (k6 c2 c4 c6 v3 b3 τ3 e3 q3 c10)
set_option maxRecDepth 100000 in
theorem g_X11_know_90 {d : Nat} {σ : pS} {Q : Option pV → pS → Prop} (hd : 2 ≤ d) (hst : Stat σ) (x1 : Int) (x2 : Int) (x3 : Int)  (g1 : inR x3) (k1 : ∀ (c1 : x3 < 0), pR mX11_know d 7 [(2, 68), (0, x1), (0, (x2 + 1)), (0, x3)] [] σ Q) (f1 : ∀ (c2 : 0 ≤ x3), pC mX11_isWay 0 [(2, 68), (0, x2)] σ (fun r τ => r = some (0, b2i (vWay (rd σ 68 30) (rd σ 68 31) x2)) ∧ τ = σ)) (g2 : ∀ (c2 : 0 ≤ x3) (c3 : (vWay (rd σ 68 30) (rd σ 68 31) x2) = false), 0 ≤ (((482 * x2) + x3) + 1) ∧ (((482 * x2) + x3) + 1) < 6266) (g3 : ∀ (c2 : 0 ≤ x3) (c3 : (vWay (rd σ 68 30) (rd σ 68 31) x2) = false), 0 ≤ ((482 * x2) + x3) ∧ ((482 * x2) + x3) < 6266) (k2 : ∀ (c2 : 0 ≤ x3) (c3 : (vWay (rd σ 68 30) (rd σ 68 31) x2) = false), pR mX11_know d 90 [(2, 68), (0, x1), (0, x2), (0, (x3 + (-1)))] [] (wr σ 104 ((482 * x2) + x3) (rd σ 104 (((482 * x2) + x3) + 1))) Q) (f2 : ∀ (c2 : 0 ≤ x3) (c4 : (vWay (rd σ 68 30) (rd σ 68 31) x2) = true), pC mX11_isOpenAt 1 [(2, 68), (0, x2), (0, x3)] σ (fun r τ => r = some (0, b2i (vOpenM σ x2 x3)) ∧ τ = σ)) (g4 : ∀ (c2 : 0 ≤ x3) (c4 : (vWay (rd σ 68 30) (rd σ 68 31) x2) = true) (c5 : (vOpenM σ x2 x3) = false), 0 ≤ (((482 * x2) + x3) + 1) ∧ (((482 * x2) + x3) + 1) < 6266) (g5 : ∀ (c2 : 0 ≤ x3) (c4 : (vWay (rd σ 68 30) (rd σ 68 31) x2) = true) (c5 : (vOpenM σ x2 x3) = false), 0 ≤ ((482 * x2) + x3) ∧ ((482 * x2) + x3) < 6266) (k3 : ∀ (c2 : 0 ≤ x3) (c4 : (vWay (rd σ 68 30) (rd σ 68 31) x2) = true) (c5 : (vOpenM σ x2 x3) = false), pR mX11_know d 90 [(2, 68), (0, x1), (0, x2), (0, (x3 + (-1)))] [] (wr σ 104 ((482 * x2) + x3) (rd σ 104 (((482 * x2) + x3) + 1))) Q) (g6 : ∀ (c2 : 0 ≤ x3) (c4 : (vWay (rd σ 68 30) (rd σ 68 31) x2) = true) (c6 : (vOpenM σ x2 x3) = true), 0 ≤ ((482 * x2) + x3) ∧ ((482 * x2) + x3) < 6266) (k4 : ∀ (c2 : 0 ≤ x3) (c4 : (vWay (rd σ 68 30) (rd σ 68 31) x2) = true) (c6 : (vOpenM σ x2 x3) = true), pR mX11_know d 90 [(2, 68), (0, x1), (0, x2), (0, (x3 + (-1)))] [] (wr σ 104 ((482 * x2) + x3) x3) Q) : pR mX11_know d 90 [(2, 68), (0, x1), (0, x2), (0, x3)] [] σ Q := by
  refine pGo (s_iload_n dX11_know_90 rfl) ?_
  refine p_iflt (tgt := 147) dX11_know_91 (by decide) g1 (fun c1 => ?_) (fun c2 => ?_)
  · refine pGoL (ls2 := [(2, 68), (0, x1), (0, (x2 + 1)), (0, x3)]) (s_iinc dX11_know_147 (by decide) rfl rfl) rfl ?_
    refine pGo (s_goto (tgt := 7) dX11_know_150 (by decide)) ?_
    exact (k1 c1)
  · refine pGo (s_aload_n dX11_know_94 rfl (by decide)) ?_
    refine pGoE (y := 104) (s_getF pc11 fl_X11_121 dX11_know_95 (ob_68 hst) rfl (by decide)) (by decide) ?_
    refine pGo (s_sipush dX11_know_98 (by decide)) ?_
    refine pGo (s_iload_n dX11_know_101 rfl) ?_
    refine pGo (s_imul dX11_know_102) ?_
    refine pGo (s_iload_n dX11_know_103 rfl) ?_
    refine pGo (s_iadd dX11_know_104) ?_
    refine pGo (s_aload_n dX11_know_105 rfl (by decide)) ?_
    refine pGo (s_iload_n dX11_know_106 rfl) ?_
    refine p_callV (As := [(0, x2)]) (st := [(0, ((482 * x2) + x3)), (2, 104)]) (n := 1) (d' := 0) (Q1 := (fun r τ => r = some (0, b2i (vWay (rd σ 68 30) (rd σ 68 31) x2)) ∧ τ = σ)) pc11 ok_X11_isWay ml_X11_387 im_X11_isWay se_X11_isWay dX11_know_107 (ob_68 hst) (pargs_of rfl) rfl (Nat.le_of_ble_eq_true rfl) (by omega) (f1 c2) (fun r1 τ1 e1 q1 w1 => ?_)
    obtain ⟨rfl, t1⟩ := q1
    rw [t1]
    show pR mX11_know d 110 [(2, 68), (0, x1), (0, x2), (0, x3)] [(0, (b2i (vWay (rd σ 68 30) (rd σ 68 31) x2))), (0, ((482 * x2) + x3)), (2, 104)] σ Q
    refine p_ifeqB (tgt := 126) dX11_know_110 (by decide) (fun c3 => ?_) (fun c4 => ?_)
    · refine pGo (s_aload_n dX11_know_126 rfl (by decide)) ?_
      refine pGoE (y := 104) (s_getF pc11 fl_X11_121 dX11_know_127 (ob_68 hst) rfl (by decide)) (by decide) ?_
      refine pGo (s_sipush dX11_know_130 (by decide)) ?_
      refine pGo (s_iload_n dX11_know_133 rfl) ?_
      refine pGo (s_imul dX11_know_134) ?_
      refine pGo (s_iload_n dX11_know_135 rfl) ?_
      refine pGo (s_iadd dX11_know_136) ?_
      refine pGo (s_iconst dX11_know_137) ?_
      refine pGo (s_iadd dX11_know_138) ?_
      refine pGoE (y := (rd σ 104 (((482 * x2) + x3) + 1))) (s_iald dX11_know_139 (ob_104 hst) (bnd (g2 c2 c3))) rfl ?_
      refine pGo (s_iast dX11_know_140 (ob_104 hst) (bnd (g3 c2 c3))) ?_
      refine pGoL (ls2 := [(2, 68), (0, x1), (0, x2), (0, (x3 + (-1)))]) (s_iinc dX11_know_141 (by decide) rfl rfl) rfl ?_
      refine pGo (s_goto (tgt := 90) dX11_know_144 (by decide)) ?_
      exact (k2 c2 c3)
    · refine pGo (s_aload_n dX11_know_113 rfl (by decide)) ?_
      refine pGo (s_iload_n dX11_know_114 rfl) ?_
      refine pGo (s_iload_n dX11_know_115 rfl) ?_
      refine p_callV (As := [(0, x2), (0, x3)]) (st := [(0, ((482 * x2) + x3)), (2, 104)]) (n := 2) (d' := 1) (Q1 := (fun r τ => r = some (0, b2i (vOpenM σ x2 x3)) ∧ τ = σ)) pc11 ok_X11_isOpenAt ml_X11_474 im_X11_isOpenAt se_X11_isOpenAt dX11_know_116 (ob_68 hst) (pargs_of rfl) rfl (Nat.le_of_ble_eq_true rfl) (by omega) (f2 c2 c4) (fun r2 τ2 e2 q2 w2 => ?_)
      obtain ⟨rfl, t2⟩ := q2
      rw [t2]
      show pR mX11_know d 119 [(2, 68), (0, x1), (0, x2), (0, x3)] [(0, (b2i (vOpenM σ x2 x3))), (0, ((482 * x2) + x3)), (2, 104)] σ Q
      refine p_ifeqB (tgt := 126) dX11_know_119 (by decide) (fun c5 => ?_) (fun c6 => ?_)
      · refine pGo (s_aload_n dX11_know_126 rfl (by decide)) ?_
        refine pGoE (y := 104) (s_getF pc11 fl_X11_121 dX11_know_127 (ob_68 hst) rfl (by decide)) (by decide) ?_
        refine pGo (s_sipush dX11_know_130 (by decide)) ?_
        refine pGo (s_iload_n dX11_know_133 rfl) ?_
        refine pGo (s_imul dX11_know_134) ?_
        refine pGo (s_iload_n dX11_know_135 rfl) ?_
        refine pGo (s_iadd dX11_know_136) ?_
        refine pGo (s_iconst dX11_know_137) ?_
        refine pGo (s_iadd dX11_know_138) ?_
        refine pGoE (y := (rd σ 104 (((482 * x2) + x3) + 1))) (s_iald dX11_know_139 (ob_104 hst) (bnd (g4 c2 c4 c5))) rfl ?_
        refine pGo (s_iast dX11_know_140 (ob_104 hst) (bnd (g5 c2 c4 c5))) ?_
        refine pGoL (ls2 := [(2, 68), (0, x1), (0, x2), (0, (x3 + (-1)))]) (s_iinc dX11_know_141 (by decide) rfl rfl) rfl ?_
        refine pGo (s_goto (tgt := 90) dX11_know_144 (by decide)) ?_
        exact (k3 c2 c4 c5)
      · refine pGo (s_iload_n dX11_know_122 rfl) ?_
        refine pGo (s_goto (tgt := 140) dX11_know_123 (by decide)) ?_
        refine pGo (s_iast dX11_know_140 (ob_104 hst) (bnd (g6 c2 c4 c6))) ?_
        refine pGoL (ls2 := [(2, 68), (0, x1), (0, x2), (0, (x3 + (-1)))]) (s_iinc dX11_know_141 (by decide) rfl rfl) rfl ?_
        refine pGo (s_goto (tgt := 90) dX11_know_144 (by decide)) ?_
        exact (k4 c2 c4 c6)
set_option maxRecDepth 100000 in
theorem g_X11_open_0 {d : Nat} {σ : pS} {Q : Option pV → pS → Prop} {Q1 : Option pV → pS → Prop} (hd : 3 ≤ d) (hst : Stat σ) (x1 : Int) (x2 : Int) (x3 : Int)  (f1 : pC mX11_wayOf 1 [(2, 68), (0, x1)] σ (fun r τ => r = some (0, (vWayOf (rd σ 68 30) (rd σ 68 31) x1)) ∧ τ = σ)) (g1 : inR (vWayOf (rd σ 68 30) (rd σ 68 31) x1)) (k1 : ∀ (c1 : (vWayOf (rd σ 68 30) (rd σ 68 31) x1) < 0), Q (some (0, (-1))) σ) (g2 : ∀ (c2 : 0 ≤ (vWayOf (rd σ 68 30) (rd σ 68 31) x1)), inR x2) (k2 : ∀ (c2 : 0 ≤ (vWayOf (rd σ 68 30) (rd σ 68 31) x1)) (c3 : x2 < 0), Q (some (0, (-1))) σ) (f2 : ∀ (c2 : 0 ≤ (vWayOf (rd σ 68 30) (rd σ 68 31) x1)) (c4 : 0 ≤ x2) (c5 : x2 ≤ 480), pC mX11_know 2 [(2, 68), (0, x3)] σ Q1) (f3 : ∀ (c2 : 0 ≤ (vWayOf (rd σ 68 30) (rd σ 68 31) x1)) (c4 : 0 ≤ x2) (c5 : x2 ≤ 480) (τ2 : pS) (e2 : pLe σ τ2) (q2 : Q1 none τ2), pC mX11_isOpenAt 1 [(2, 68), (0, (vWayOf (rd σ 68 30) (rd σ 68 31) x1)), (0, x2)] τ2 (fun r τ => r = some (0, b2i (vOpenM τ2 (vWayOf (rd σ 68 30) (rd σ 68 31) x1) x2)) ∧ τ = τ2)) (k3 : ∀ (c2 : 0 ≤ (vWayOf (rd σ 68 30) (rd σ 68 31) x1)) (c4 : 0 ≤ x2) (c5 : x2 ≤ 480) (τ2 : pS) (e2 : pLe σ τ2) (q2 : Q1 none τ2) (c7 : (vOpenM τ2 (vWayOf (rd σ 68 30) (rd σ 68 31) x1) x2) = false), Q (some (0, 0)) τ2) (k4 : ∀ (c2 : 0 ≤ (vWayOf (rd σ 68 30) (rd σ 68 31) x1)) (c4 : 0 ≤ x2) (c5 : x2 ≤ 480) (τ2 : pS) (e2 : pLe σ τ2) (q2 : Q1 none τ2) (c8 : (vOpenM τ2 (vWayOf (rd σ 68 30) (rd σ 68 31) x1) x2) = true), Q (some (0, 1)) τ2) (k5 : ∀ (c2 : 0 ≤ (vWayOf (rd σ 68 30) (rd σ 68 31) x1)) (c4 : 0 ≤ x2) (c6 : 480 < x2), Q (some (0, (-1))) σ) : pC mX11_open d [(2, 68), (0, x1), (0, x2), (0, x3)] σ Q := by
  show pR mX11_open d 0 [(2, 68), (0, x1), (0, x2), (0, x3), (9, 0)] [] σ Q
  refine pGo (s_aload_n dX11_open_0 rfl (by decide)) ?_
  refine pGo (s_iload_n dX11_open_1 rfl) ?_
  refine p_callV (As := [(0, x1)]) (st := []) (n := 1) (d' := 1) (Q1 := (fun r τ => r = some (0, (vWayOf (rd σ 68 30) (rd σ 68 31) x1)) ∧ τ = σ)) pc11 ok_X11_wayOf ml_X11_477 im_X11_wayOf se_X11_wayOf dX11_open_2 (ob_68 hst) (pargs_of rfl) rfl (Nat.le_of_ble_eq_true rfl) (by omega) f1 (fun r1 τ1 e1 q1 w1 => ?_)
  obtain ⟨rfl, t1⟩ := q1
  rw [t1]
  show pR mX11_open d 5 [(2, 68), (0, x1), (0, x2), (0, x3), (9, 0)] [(0, (vWayOf (rd σ 68 30) (rd σ 68 31) x1))] σ Q
  refine pGoL (ls2 := [(2, 68), (0, x1), (0, x2), (0, x3), (0, (vWayOf (rd σ 68 30) (rd σ 68 31) x1))]) (s_istore dX11_open_5 (by decide) rfl) rfl ?_
  refine pGo (s_iload dX11_open_7 rfl) ?_
  refine p_iflt (tgt := 23) dX11_open_9 (by decide) g1 (fun c1 => ?_) (fun c2 => ?_)
  · refine pGo (s_iconst dX11_open_23) ?_
    exact pEnd (r := (some (0, (-1)))) dX11_open_24 ⟨_, rfl⟩ (k1 c1)
  · refine pGo (s_iload_n dX11_open_12 rfl) ?_
    refine p_iflt (tgt := 23) dX11_open_13 (by decide) (g2 c2) (fun c3 => ?_) (fun c4 => ?_)
    · refine pGo (s_iconst dX11_open_23) ?_
      exact pEnd (r := (some (0, (-1)))) dX11_open_24 ⟨_, rfl⟩ (k2 c2 c3)
    · refine pGo (s_iload_n dX11_open_16 rfl) ?_
      refine pGo (s_sipush dX11_open_17 (by decide)) ?_
      refine p_icle (tgt := 25) dX11_open_20 (by decide) (g2 c2) (by decide) (fun c5 => ?_) (fun c6 => ?_)
      · refine pGo (s_aload_n dX11_open_25 rfl (by decide)) ?_
        refine pGo (s_iload_n dX11_open_26 rfl) ?_
        refine p_callV (As := [(0, x3)]) (st := []) (n := 1) (d' := 2) (Q1 := Q1) pc11 ok_X11_know ml_X11_480 im_X11_know se_X11_know dX11_open_27 (ob_68 hst) (pargs_of rfl) rfl (Nat.le_of_ble_eq_true rfl) (by omega) (f2 c2 c4 c5) (fun r2 τ2 e2 q2 w2 => ?_)
        obtain rfl : r2 = none := w2
        have S2 : Stat τ2 := (Stat.le (σ := σ) hst e2)
        show pR mX11_open d 30 [(2, 68), (0, x1), (0, x2), (0, x3), (0, (vWayOf (rd σ 68 30) (rd σ 68 31) x1))] [] τ2 Q
        refine pGo (s_aload_n dX11_open_30 rfl (by decide)) ?_
        refine pGo (s_iload dX11_open_31 rfl) ?_
        refine pGo (s_iload_n dX11_open_33 rfl) ?_
        refine p_callV (As := [(0, (vWayOf (rd σ 68 30) (rd σ 68 31) x1)), (0, x2)]) (st := []) (n := 2) (d' := 1) (Q1 := (fun r τ => r = some (0, b2i (vOpenM τ2 (vWayOf (rd σ 68 30) (rd σ 68 31) x1) x2)) ∧ τ = τ2)) pc11 ok_X11_isOpenAt ml_X11_474 im_X11_isOpenAt se_X11_isOpenAt dX11_open_34 (ob_68 S2) (pargs_of rfl) rfl (Nat.le_of_ble_eq_true rfl) (by omega) (f3 c2 c4 c5 τ2 e2 q2) (fun r3 τ3 e3 q3 w3 => ?_)
        obtain ⟨rfl, t3⟩ := q3
        rw [t3]
        show pR mX11_open d 37 [(2, 68), (0, x1), (0, x2), (0, x3), (0, (vWayOf (rd σ 68 30) (rd σ 68 31) x1))] [(0, (b2i (vOpenM τ2 (vWayOf (rd σ 68 30) (rd σ 68 31) x1) x2)))] τ2 Q
        refine p_ifeqB (tgt := 44) dX11_open_37 (by decide) (fun c7 => ?_) (fun c8 => ?_)
        · refine pGo (s_iconst dX11_open_44) ?_
          exact pEnd (r := (some (0, 0))) dX11_open_45 ⟨_, rfl⟩ (k3 c2 c4 c5 τ2 e2 q2 c7)
        · refine pGo (s_iconst dX11_open_40) ?_
          refine pGo (s_goto (tgt := 45) dX11_open_41 (by decide)) ?_
          exact pEnd (r := (some (0, 1))) dX11_open_45 ⟨_, rfl⟩ (k4 c2 c4 c5 τ2 e2 q2 c8)
      · refine pGo (s_iconst dX11_open_23) ?_
        exact pEnd (r := (some (0, (-1)))) dX11_open_24 ⟨_, rfl⟩ (k5 c2 c4 c6)
