/-! walks: the class asks for skiers -/
set_option maxRecDepth 100000 in
theorem g_X10_seen_0 {d : Nat} {σ : pS} {Q : Option pV → pS → Prop} {Q1 : Option pV → pS → Prop} {Q2 : Option pV → pS → Prop} {Q3 : Option pV → pS → Prop} (hd : 6 ≤ d) (hst : Stat σ) (x1 : Int) (x2 : Int) (x3 : Int)  (f1 : pC mX10_within 0 [(0, x1), (0, (rd σ 0 14))] σ (fun r τ => r = some (0, b2i (vWithin x1 (rd σ 0 14))) ∧ τ = σ)) (k1 : ∀ (c1 : (vWithin x1 (rd σ 0 14)) = false), Q (some (2, (-1))) σ) (f2 : ∀ (c2 : (vWithin x1 (rd σ 0 14)) = true), pC mX10_within 0 [(0, x2), (0, 541)] σ (fun r τ => r = some (0, b2i (vWithin x2 541)) ∧ τ = σ)) (f3 : ∀ (c2 : (vWithin x1 (rd σ 0 14)) = true) (c3 : (vWithin x2 541) = true), pC mX10_look 4 [(2, 0), (0, x3)] σ Q1) (g1 : ∀ (c2 : (vWithin x1 (rd σ 0 14)) = true) (c3 : (vWithin x2 541) = true) (τ3 : pS) (e3 : pLe σ τ3) (q3 : Q1 none τ3), 0 ≤ x1 ∧ x1 < 8) (g2 : ∀ (c2 : (vWithin x1 (rd σ 0 14)) = true) (c3 : (vWithin x2 541) = true) (τ3 : pS) (e3 : pLe σ τ3) (q3 : Q1 none τ3), 0 ≤ (rd τ3 43 x1)) (g3 : ∀ (c2 : (vWithin x1 (rd σ 0 14)) = true) (c3 : (vWithin x2 541) = true) (τ3 : pS) (e3 : pLe σ τ3) (q3 : Q1 none τ3) (c5 : 0 ≤ (rd τ3 43 x1)), Inst5 τ3 (rd τ3 43 x1)) (g4 : ∀ (c2 : (vWithin x1 (rd σ 0 14)) = true) (c3 : (vWithin x2 541) = true) (τ3 : pS) (e3 : pLe σ τ3) (q3 : Q1 none τ3) (c5 : 0 ≤ (rd τ3 43 x1)), inR (rd τ3 (rd τ3 43 x1) 7)) (g5 : ∀ (c2 : (vWithin x1 (rd σ 0 14)) = true) (c3 : (vWithin x2 541) = true) (τ3 : pS) (e3 : pLe σ τ3) (q3 : Q1 none τ3) (c5 : 0 ≤ (rd τ3 43 x1)), inR (rd τ3 0 6)) (f4 : ∀ (c2 : (vWithin x1 (rd σ 0 14)) = true) (c3 : (vWithin x2 541) = true) (τ3 : pS) (e3 : pLe σ τ3) (q3 : Q1 none τ3) (c5 : 0 ≤ (rd τ3 43 x1)) (c7 : (rd τ3 (rd τ3 43 x1) 7) ≠ (rd τ3 0 6)), pC mX5_reckon 5 [(2, (rd τ3 43 x1)), (2, 35), (2, 29), (0, x1)] τ3 Q2) (k2 : ∀ (c2 : (vWithin x1 (rd σ 0 14)) = true) (c3 : (vWithin x2 541) = true) (τ3 : pS) (e3 : pLe σ τ3) (q3 : Q1 none τ3) (c5 : 0 ≤ (rd τ3 43 x1)) (c7 : (rd τ3 (rd τ3 43 x1) 7) ≠ (rd τ3 0 6)) (τ4 : pS) (e4 : pLe τ3 τ4) (q4 : Q2 none τ4), Q (some (2, (rd τ3 43 x1))) (wr τ4 (rd τ3 43 x1) 7 (rd τ4 0 6))) (g6 : ∀ (c2 : (vWithin x1 (rd σ 0 14)) = true) (c3 : (vWithin x2 541) = true) (τ3 : pS) (e3 : pLe σ τ3) (q3 : Q1 none τ3) (c5 : 0 ≤ (rd τ3 43 x1)) (c8 : (rd τ3 (rd τ3 43 x1) 7) = (rd τ3 0 6)), inR (rd τ3 (rd τ3 43 x1) 8)) (g7 : ∀ (c2 : (vWithin x1 (rd σ 0 14)) = true) (c3 : (vWithin x2 541) = true) (τ3 : pS) (e3 : pLe σ τ3) (q3 : Q1 none τ3) (c5 : 0 ≤ (rd τ3 43 x1)) (c8 : (rd τ3 (rd τ3 43 x1) 7) = (rd τ3 0 6)), inR x3) (k3 : ∀ (c2 : (vWithin x1 (rd σ 0 14)) = true) (c3 : (vWithin x2 541) = true) (τ3 : pS) (e3 : pLe σ τ3) (q3 : Q1 none τ3) (c5 : 0 ≤ (rd τ3 43 x1)) (c8 : (rd τ3 (rd τ3 43 x1) 7) = (rd τ3 0 6)) (c9 : (rd τ3 (rd τ3 43 x1) 8) = x3), Q (some (2, (rd τ3 43 x1))) τ3) (f5 : ∀ (c2 : (vWithin x1 (rd σ 0 14)) = true) (c3 : (vWithin x2 541) = true) (τ3 : pS) (e3 : pLe σ τ3) (q3 : Q1 none τ3) (c5 : 0 ≤ (rd τ3 43 x1)) (c8 : (rd τ3 (rd τ3 43 x1) 7) = (rd τ3 0 6)) (c10 : (rd τ3 (rd τ3 43 x1) 8) ≠ x3), pC mX5_reckon 5 [(2, (rd τ3 43 x1)), (2, 35), (2, 29), (0, x1)] τ3 Q3) (k4 : ∀ (c2 : (vWithin x1 (rd σ 0 14)) = true) (c3 : (vWithin x2 541) = true) (τ3 : pS) (e3 : pLe σ τ3) (q3 : Q1 none τ3) (c5 : 0 ≤ (rd τ3 43 x1)) (c8 : (rd τ3 (rd τ3 43 x1) 7) = (rd τ3 0 6)) (c10 : (rd τ3 (rd τ3 43 x1) 8) ≠ x3) (τ5 : pS) (e5 : pLe τ3 τ5) (q5 : Q3 none τ5), Q (some (2, (rd τ3 43 x1))) (wr τ5 (rd τ3 43 x1) 7 (rd τ5 0 6))) (k5 : ∀ (c2 : (vWithin x1 (rd σ 0 14)) = true) (c3 : (vWithin x2 541) = true) (τ3 : pS) (e3 : pLe σ τ3) (q3 : Q1 none τ3) (c6 : (rd τ3 43 x1) < 0), Q (some (2, (-1))) τ3) (k6 : ∀ (c2 : (vWithin x1 (rd σ 0 14)) = true) (c4 : (vWithin x2 541) = false), Q (some (2, (-1))) σ) : pC mX10_seen d [(2, 0), (0, x1), (0, x2), (0, x3)] σ Q := by
  show pR mX10_seen d 0 [(2, 0), (0, x1), (0, x2), (0, x3), (9, 0)] [] σ Q
  refine pGo (s_iload_n dX10_seen_0 rfl) ?_
  refine pGo (s_aload_n dX10_seen_1 rfl (by decide)) ?_
  refine pGoE (y := (rd σ 0 14)) (s_getI pc10 fl_X10_194 dX10_seen_2 (ob_0 hst) rfl (by decide)) rfl ?_
  refine p_callS (As := [(0, x1), (0, (rd σ 0 14))]) (st := []) (n := 2) (d' := 0) (Q1 := (fun r τ => r = some (0, b2i (vWithin x1 (rd σ 0 14))) ∧ τ = σ)) ok_X10_within ml_X10_138 sm_X10_within dX10_seen_5 (pargs_of rfl) rfl (Nat.le_of_ble_eq_true rfl) (by omega) f1 (fun r1 τ1 e1 q1 w1 => ?_)
  obtain ⟨rfl, t1⟩ := q1
  rw [t1]
  show pR mX10_seen d 8 [(2, 0), (0, x1), (0, x2), (0, x3), (9, 0)] [(0, (b2i (vWithin x1 (rd σ 0 14))))] σ Q
  refine p_ifeqB (tgt := 21) dX10_seen_8 (by decide) (fun c1 => ?_) (fun c2 => ?_)
  · refine pGo (s_null dX10_seen_21) ?_
    exact pEnd (r := (some (2, (-1)))) dX10_seen_22 ⟨_, rfl⟩ (k1 c1)
  · refine pGo (s_iload_n dX10_seen_11 rfl) ?_
    refine pGo (s_sipush dX10_seen_12 (by decide)) ?_
    refine p_callS (As := [(0, x2), (0, 541)]) (st := []) (n := 2) (d' := 0) (Q1 := (fun r τ => r = some (0, b2i (vWithin x2 541)) ∧ τ = σ)) ok_X10_within ml_X10_138 sm_X10_within dX10_seen_15 (pargs_of rfl) rfl (Nat.le_of_ble_eq_true rfl) (by omega) (f2 c2) (fun r2 τ2 e2 q2 w2 => ?_)
    obtain ⟨rfl, t2⟩ := q2
    rw [t2]
    show pR mX10_seen d 18 [(2, 0), (0, x1), (0, x2), (0, x3), (9, 0)] [(0, (b2i (vWithin x2 541)))] σ Q
    refine p_ifneB (tgt := 23) dX10_seen_18 (by decide) (fun c3 => ?_) (fun c4 => ?_)
    · refine pGo (s_aload_n dX10_seen_23 rfl (by decide)) ?_
      refine pGo (s_iload_n dX10_seen_24 rfl) ?_
      refine p_callV (As := [(0, x3)]) (st := []) (n := 1) (d' := 4) (Q1 := Q1) pc10 ok_X10_look ml_X10_153 im_X10_look se_X10_look dX10_seen_25 (ob_0 hst) (pargs_of rfl) rfl (Nat.le_of_ble_eq_true rfl) (by omega) (f3 c2 c3) (fun r3 τ3 e3 q3 w3 => ?_)
      obtain rfl : r3 = none := w3
      have S3 : Stat τ3 := (Stat.le (σ := σ) hst e3)
      show pR mX10_seen d 28 [(2, 0), (0, x1), (0, x2), (0, x3), (9, 0)] [] τ3 Q
      refine pGo (s_aload_n dX10_seen_28 rfl (by decide)) ?_
      refine pGoE (y := 43) (s_getF pc10 fl_X10_70 dX10_seen_29 (ob_0 S3) rfl (by decide)) (by decide) ?_
      refine pGo (s_iload_n dX10_seen_32 rfl) ?_
      refine pGoE (y := (rd τ3 43 x1)) (s_aald dX10_seen_33 (ob_43 S3) (bnd (g1 c2 c3 τ3 e3 q3))) rfl ?_
      refine pGoL (ls2 := [(2, 0), (0, x1), (0, x2), (0, x3), (2, (rd τ3 43 x1))]) (s_astore dX10_seen_34 (by decide) rfl (g2 c2 c3 τ3 e3 q3)) rfl ?_
      refine pGo (s_aload dX10_seen_36 rfl (g2 c2 c3 τ3 e3 q3)) ?_
      refine p_ifnonnull (tgt := 43) dX10_seen_38 (by decide) (fun c5 => ?_) (fun c6 => ?_)
      · refine pGo (s_aload dX10_seen_43 rfl c5) ?_
        refine pGoE (y := (rd τ3 (rd τ3 43 x1) 7)) (s_getI pc5 fl_X10_275 dX10_seen_45 (g3 c2 c3 τ3 e3 q3 c5).o0 rfl (by decide)) rfl ?_
        refine pGo (s_aload_n dX10_seen_48 rfl (by decide)) ?_
        refine pGoE (y := (rd τ3 0 6)) (s_getI pc10 fl_X10_113 dX10_seen_49 (ob_0 S3) rfl (by decide)) rfl ?_
        refine p_icne (tgt := 64) dX10_seen_52 (by decide) (g4 c2 c3 τ3 e3 q3 c5) (g5 c2 c3 τ3 e3 q3 c5) (fun c7 => ?_) (fun c8 => ?_)
        · refine pGo (s_aload dX10_seen_64 rfl (g3 c2 c3 τ3 e3 q3 c5).pos) ?_
          refine pGo (s_aload_n dX10_seen_66 rfl (by decide)) ?_
          refine pGoE (y := 35) (s_getF pc10 fl_X10_55 dX10_seen_67 (ob_0 S3) rfl (by decide)) (by decide) ?_
          refine pGo (s_aload_n dX10_seen_70 rfl (by decide)) ?_
          refine pGoE (y := 29) (s_getF pc10 fl_X10_47 dX10_seen_71 (ob_0 S3) rfl (by decide)) (by decide) ?_
          refine pGo (s_iload_n dX10_seen_74 rfl) ?_
          refine p_callV (As := [(2, 35), (2, 29), (0, x1)]) (st := []) (n := 3) (d' := 5) (Q1 := Q2) pc5 ok_X5_reckon ml_X10_277 im_X5_reckon se_X5_reckon dX10_seen_75 (g3 c2 c3 τ3 e3 q3 c5).o0 (pargs_of rfl) rfl (Nat.le_of_ble_eq_true rfl) (by omega) (f4 c2 c3 τ3 e3 q3 c5 c7) (fun r4 τ4 e4 q4 w4 => ?_)
          obtain rfl : r4 = none := w4
          have S4 : Stat τ4 := (Stat.le (σ := τ3) S3 e4)
          have J4_0 : Inst5 τ4 (rd τ3 43 x1) := Inst5.le (σ := τ3) (g3 c2 c3 τ3 e3 q3 c5) e4
          show pR mX10_seen d 78 [(2, 0), (0, x1), (0, x2), (0, x3), (2, (rd τ3 43 x1))] [] τ4 Q
          refine pGo (s_aload dX10_seen_78 rfl J4_0.pos) ?_
          refine pGo (s_aload_n dX10_seen_80 rfl (by decide)) ?_
          refine pGoE (y := (rd τ4 0 6)) (s_getI pc10 fl_X10_113 dX10_seen_81 (ob_0 S4) rfl (by decide)) rfl ?_
          refine pGo (s_putI pc5 fl_X10_275 dX10_seen_84 J4_0.o0 rfl rfl rfl rfl) ?_
          refine pGo (s_aload dX10_seen_87 rfl J4_0.pos) ?_
          exact pEnd (r := (some (2, (rd τ3 43 x1)))) dX10_seen_89 ⟨_, rfl⟩ (k2 c2 c3 τ3 e3 q3 c5 c7 τ4 e4 q4)
        · refine pGo (s_aload dX10_seen_55 rfl (g3 c2 c3 τ3 e3 q3 c5).pos) ?_
          refine pGoE (y := (rd τ3 (rd τ3 43 x1) 8)) (s_getI pc5 fl_X10_276 dX10_seen_57 (g3 c2 c3 τ3 e3 q3 c5).o0 rfl (by decide)) rfl ?_
          refine pGo (s_iload_n dX10_seen_60 rfl) ?_
          refine p_iceq (tgt := 87) dX10_seen_61 (by decide) (g6 c2 c3 τ3 e3 q3 c5 c8) (g7 c2 c3 τ3 e3 q3 c5 c8) (fun c9 => ?_) (fun c10 => ?_)
          · refine pGo (s_aload dX10_seen_87 rfl (g3 c2 c3 τ3 e3 q3 c5).pos) ?_
            exact pEnd (r := (some (2, (rd τ3 43 x1)))) dX10_seen_89 ⟨_, rfl⟩ (k3 c2 c3 τ3 e3 q3 c5 c8 c9)
          · refine pGo (s_aload dX10_seen_64 rfl (g3 c2 c3 τ3 e3 q3 c5).pos) ?_
            refine pGo (s_aload_n dX10_seen_66 rfl (by decide)) ?_
            refine pGoE (y := 35) (s_getF pc10 fl_X10_55 dX10_seen_67 (ob_0 S3) rfl (by decide)) (by decide) ?_
            refine pGo (s_aload_n dX10_seen_70 rfl (by decide)) ?_
            refine pGoE (y := 29) (s_getF pc10 fl_X10_47 dX10_seen_71 (ob_0 S3) rfl (by decide)) (by decide) ?_
            refine pGo (s_iload_n dX10_seen_74 rfl) ?_
            refine p_callV (As := [(2, 35), (2, 29), (0, x1)]) (st := []) (n := 3) (d' := 5) (Q1 := Q3) pc5 ok_X5_reckon ml_X10_277 im_X5_reckon se_X5_reckon dX10_seen_75 (g3 c2 c3 τ3 e3 q3 c5).o0 (pargs_of rfl) rfl (Nat.le_of_ble_eq_true rfl) (by omega) (f5 c2 c3 τ3 e3 q3 c5 c8 c10) (fun r5 τ5 e5 q5 w5 => ?_)
            obtain rfl : r5 = none := w5
            have S5 : Stat τ5 := (Stat.le (σ := τ3) S3 e5)
            have J5_0 : Inst5 τ5 (rd τ3 43 x1) := Inst5.le (σ := τ3) (g3 c2 c3 τ3 e3 q3 c5) e5
            show pR mX10_seen d 78 [(2, 0), (0, x1), (0, x2), (0, x3), (2, (rd τ3 43 x1))] [] τ5 Q
            refine pGo (s_aload dX10_seen_78 rfl J5_0.pos) ?_
            refine pGo (s_aload_n dX10_seen_80 rfl (by decide)) ?_
            refine pGoE (y := (rd τ5 0 6)) (s_getI pc10 fl_X10_113 dX10_seen_81 (ob_0 S5) rfl (by decide)) rfl ?_
            refine pGo (s_putI pc5 fl_X10_275 dX10_seen_84 J5_0.o0 rfl rfl rfl rfl) ?_
            refine pGo (s_aload dX10_seen_87 rfl J5_0.pos) ?_
            exact pEnd (r := (some (2, (rd τ3 43 x1)))) dX10_seen_89 ⟨_, rfl⟩ (k4 c2 c3 τ3 e3 q3 c5 c8 c10 τ5 e5 q5)
      · refine pGo (s_null dX10_seen_41) ?_
        exact pEnd (r := (some (2, (-1)))) dX10_seen_42 ⟨_, rfl⟩ (k5 c2 c3 τ3 e3 q3 c6)
    · refine pGo (s_null dX10_seen_21) ?_
      exact pEnd (r := (some (2, (-1)))) dX10_seen_22 ⟨_, rfl⟩ (k6 c2 c4)
set_option maxRecDepth 100000 in
theorem g_X10_can_0 {d : Nat} {σ : pS} {Q : Option pV → pS → Prop} {Q1 : Option pV → pS → Prop} (hd : 7 ≤ d) (hst : Stat σ) (x1 : Int) (x2 : Int) (x3 : Int) (x4 : Int)  (f1 : pC mX10_seen 6 [(2, 0), (0, x1), (0, x3), (0, x4)] σ Q1) (k1 : ∀ (v1 : Int) (τ1 : pS) (e1 : pLe σ τ1) (q1 : Q1 (some (2, v1)) τ1) (c1 : v1 < 0), Q (some (0, (-1))) τ1) (f2 : ∀ (v1 : Int) (τ1 : pS) (e1 : pLe σ τ1) (q1 : Q1 (some (2, v1)) τ1) (c2 : 0 ≤ v1), pC mX10_within 0 [(0, x2), (0, 10)] τ1 (fun r τ => r = some (0, b2i (vWithin x2 10)) ∧ τ = τ1)) (f3 : ∀ (v1 : Int) (τ1 : pS) (e1 : pLe σ τ1) (q1 : Q1 (some (2, v1)) τ1) (c2 : 0 ≤ v1) (c3 : (vWithin x2 10) = true), pC mX5_canStand 0 [(2, v1), (0, x2), (0, x3)] τ1 (fun r τ => r = some (0, b2i (vStand τ1 v1 x2 x3)) ∧ τ = τ1)) (g1 : ∀ (v1 : Int) (τ1 : pS) (e1 : pLe σ τ1) (q1 : Q1 (some (2, v1)) τ1) (c2 : 0 ≤ v1) (c3 : (vWithin x2 10) = true), Inst5 τ1 v1) (k2 : ∀ (v1 : Int) (τ1 : pS) (e1 : pLe σ τ1) (q1 : Q1 (some (2, v1)) τ1) (c2 : 0 ≤ v1) (c3 : (vWithin x2 10) = true) (c5 : (vStand τ1 v1 x2 x3) = false), Q (some (0, 0)) τ1) (k3 : ∀ (v1 : Int) (τ1 : pS) (e1 : pLe σ τ1) (q1 : Q1 (some (2, v1)) τ1) (c2 : 0 ≤ v1) (c3 : (vWithin x2 10) = true) (c6 : (vStand τ1 v1 x2 x3) = true), Q (some (0, 1)) τ1) (k4 : ∀ (v1 : Int) (τ1 : pS) (e1 : pLe σ τ1) (q1 : Q1 (some (2, v1)) τ1) (c2 : 0 ≤ v1) (c4 : (vWithin x2 10) = false), Q (some (0, (-1))) τ1) : pC mX10_can d [(2, 0), (0, x1), (0, x2), (0, x3), (0, x4)] σ Q := by
  show pR mX10_can d 0 [(2, 0), (0, x1), (0, x2), (0, x3), (0, x4), (9, 0)] [] σ Q
  refine pGo (s_aload_n dX10_can_0 rfl (by decide)) ?_
  refine pGo (s_iload_n dX10_can_1 rfl) ?_
  refine pGo (s_iload_n dX10_can_2 rfl) ?_
  refine pGo (s_iload dX10_can_3 rfl) ?_
  refine p_callV (As := [(0, x1), (0, x3), (0, x4)]) (st := []) (n := 3) (d' := 6) (Q1 := Q1) pc10 ok_X10_seen ml_X10_207 im_X10_seen se_X10_seen dX10_can_5 (ob_0 hst) (pargs_of rfl) rfl (Nat.le_of_ble_eq_true rfl) (by omega) f1 (fun r1 τ1 e1 q1 w1 => ?_)
  obtain ⟨v1, rfl⟩ := w1
  have S1 : Stat τ1 := (Stat.le (σ := σ) hst e1)
  show pR mX10_can d 8 [(2, 0), (0, x1), (0, x2), (0, x3), (0, x4), (9, 0)] [(2, v1)] τ1 Q
  refine pGoL (ls2 := [(2, 0), (0, x1), (0, x2), (0, x3), (0, x4), (2, v1)]) (s_astoreQ dX10_can_8 (by decide) rfl) rfl ?_
  refine pGo (s_aloadQ dX10_can_10 rfl) ?_
  refine p_ifnull (tgt := 24) dX10_can_12 (by decide) (fun c1 => ?_) (fun c2 => ?_)
  · refine pGo (s_iconst dX10_can_24) ?_
    exact pEnd (r := (some (0, (-1)))) dX10_can_25 ⟨_, rfl⟩ (k1 v1 τ1 e1 q1 c1)
  · refine pGo (s_iload_n dX10_can_15 rfl) ?_
    refine pGo (s_bipush dX10_can_16 (by decide)) ?_
    refine p_callS (As := [(0, x2), (0, 10)]) (st := []) (n := 2) (d' := 0) (Q1 := (fun r τ => r = some (0, b2i (vWithin x2 10)) ∧ τ = τ1)) ok_X10_within ml_X10_138 sm_X10_within dX10_can_18 (pargs_of rfl) rfl (Nat.le_of_ble_eq_true rfl) (by omega) (f2 v1 τ1 e1 q1 c2) (fun r2 τ2 e2 q2 w2 => ?_)
    obtain ⟨rfl, t2⟩ := q2
    rw [t2]
    show pR mX10_can d 21 [(2, 0), (0, x1), (0, x2), (0, x3), (0, x4), (2, v1)] [(0, (b2i (vWithin x2 10)))] τ1 Q
    refine p_ifneB (tgt := 26) dX10_can_21 (by decide) (fun c3 => ?_) (fun c4 => ?_)
    · refine pGo (s_aload dX10_can_26 rfl c2) ?_
      refine pGo (s_iload_n dX10_can_28 rfl) ?_
      refine pGo (s_iload_n dX10_can_29 rfl) ?_
      refine p_callV (As := [(0, x2), (0, x3)]) (st := []) (n := 2) (d' := 0) (Q1 := (fun r τ => r = some (0, b2i (vStand τ1 v1 x2 x3)) ∧ τ = τ1)) pc5 ok_X5_canStand ml_X10_211 im_X5_canStand se_X5_canStand dX10_can_30 (g1 v1 τ1 e1 q1 c2 c3).o0 (pargs_of rfl) rfl (Nat.le_of_ble_eq_true rfl) (by omega) (f3 v1 τ1 e1 q1 c2 c3) (fun r3 τ3 e3 q3 w3 => ?_)
      obtain ⟨rfl, t3⟩ := q3
      rw [t3]
      show pR mX10_can d 33 [(2, 0), (0, x1), (0, x2), (0, x3), (0, x4), (2, v1)] [(0, (b2i (vStand τ1 v1 x2 x3)))] τ1 Q
      refine p_ifeqB (tgt := 40) dX10_can_33 (by decide) (fun c5 => ?_) (fun c6 => ?_)
      · refine pGo (s_iconst dX10_can_40) ?_
        exact pEnd (r := (some (0, 0))) dX10_can_41 ⟨_, rfl⟩ (k2 v1 τ1 e1 q1 c2 c3 c5)
      · refine pGo (s_iconst dX10_can_36) ?_
        refine pGo (s_goto (tgt := 41) dX10_can_37 (by decide)) ?_
        exact pEnd (r := (some (0, 1))) dX10_can_41 ⟨_, rfl⟩ (k3 v1 τ1 e1 q1 c2 c3 c6)
    · refine pGo (s_iconst dX10_can_24) ?_
      exact pEnd (r := (some (0, (-1)))) dX10_can_25 ⟨_, rfl⟩ (k4 v1 τ1 e1 q1 c2 c4)
set_option maxRecDepth 100000 in
theorem g_X10_canOn_0 {d : Nat} {σ : pS} {Q : Option pV → pS → Prop} {Q1 : Option pV → pS → Prop} {Q2 : Option pV → pS → Prop} (hd : 7 ≤ d) (hst : Stat σ) (x1 : Int) (x2 : Int) (x3 : Int) (x4 : Int)  (f1 : pC mX10_seen 6 [(2, 0), (0, x1), (0, x3), (0, x4)] σ Q1) (k1 : ∀ (v1 : Int) (τ1 : pS) (e1 : pLe σ τ1) (q1 : Q1 (some (2, v1)) τ1) (c1 : v1 < 0), Q (some (0, (-1))) τ1) (f2 : ∀ (v1 : Int) (τ1 : pS) (e1 : pLe σ τ1) (q1 : Q1 (some (2, v1)) τ1) (c2 : 0 ≤ v1), pC mX6_has 1 [(2, (rd τ1 0 7)), (0, x2)] τ1 (fun r τ => r = some (0, b2i (vHas (rd τ1 (rd τ1 0 7) 0) (rd τ1 (rd τ1 0 7) 1) x2)) ∧ τ = τ1)) (g1 : ∀ (v1 : Int) (τ1 : pS) (e1 : pLe σ τ1) (q1 : Q1 (some (2, v1)) τ1) (c2 : 0 ≤ v1), Inst6 τ1 (rd τ1 0 7)) (f3 : ∀ (v1 : Int) (τ1 : pS) (e1 : pLe σ τ1) (q1 : Q1 (some (2, v1)) τ1) (c2 : 0 ≤ v1) (c3 : (vHas (rd τ1 (rd τ1 0 7) 0) (rd τ1 (rd τ1 0 7) 1) x2) = true), pC mX5_canRide 1 [(2, v1), (0, x2), (0, x3)] τ1 Q2) (g2 : ∀ (v1 : Int) (τ1 : pS) (e1 : pLe σ τ1) (q1 : Q1 (some (2, v1)) τ1) (c2 : 0 ≤ v1) (c3 : (vHas (rd τ1 (rd τ1 0 7) 0) (rd τ1 (rd τ1 0 7) 1) x2) = true), Inst5 τ1 v1) (g3 : ∀ (v1 : Int) (τ1 : pS) (e1 : pLe σ τ1) (q1 : Q1 (some (2, v1)) τ1) (c2 : 0 ≤ v1) (c3 : (vHas (rd τ1 (rd τ1 0 7) 0) (rd τ1 (rd τ1 0 7) 1) x2) = true) (v3 : Int) (b3 : v3 = 0 ∨ v3 = 1) (τ3 : pS) (e3 : pLe τ1 τ3) (q3 : Q2 (some (0, v3)) τ3), inR v3) (k2 : ∀ (v1 : Int) (τ1 : pS) (e1 : pLe σ τ1) (q1 : Q1 (some (2, v1)) τ1) (c2 : 0 ≤ v1) (c3 : (vHas (rd τ1 (rd τ1 0 7) 0) (rd τ1 (rd τ1 0 7) 1) x2) = true) (v3 : Int) (b3 : v3 = 0 ∨ v3 = 1) (τ3 : pS) (e3 : pLe τ1 τ3) (q3 : Q2 (some (0, v3)) τ3) (c5 : v3 = 0), Q (some (0, 0)) τ3) (k3 : ∀ (v1 : Int) (τ1 : pS) (e1 : pLe σ τ1) (q1 : Q1 (some (2, v1)) τ1) (c2 : 0 ≤ v1) (c3 : (vHas (rd τ1 (rd τ1 0 7) 0) (rd τ1 (rd τ1 0 7) 1) x2) = true) (v3 : Int) (b3 : v3 = 0 ∨ v3 = 1) (τ3 : pS) (e3 : pLe τ1 τ3) (q3 : Q2 (some (0, v3)) τ3) (c6 : v3 ≠ 0), Q (some (0, 1)) τ3) (k4 : ∀ (v1 : Int) (τ1 : pS) (e1 : pLe σ τ1) (q1 : Q1 (some (2, v1)) τ1) (c2 : 0 ≤ v1) (c4 : (vHas (rd τ1 (rd τ1 0 7) 0) (rd τ1 (rd τ1 0 7) 1) x2) = false), Q (some (0, (-1))) τ1) : pC mX10_canOn d [(2, 0), (0, x1), (0, x2), (0, x3), (0, x4)] σ Q := by
  show pR mX10_canOn d 0 [(2, 0), (0, x1), (0, x2), (0, x3), (0, x4), (9, 0)] [] σ Q
  refine pGo (s_aload_n dX10_canOn_0 rfl (by decide)) ?_
  refine pGo (s_iload_n dX10_canOn_1 rfl) ?_
  refine pGo (s_iload_n dX10_canOn_2 rfl) ?_
  refine pGo (s_iload dX10_canOn_3 rfl) ?_
  refine p_callV (As := [(0, x1), (0, x3), (0, x4)]) (st := []) (n := 3) (d' := 6) (Q1 := Q1) pc10 ok_X10_seen ml_X10_207 im_X10_seen se_X10_seen dX10_canOn_5 (ob_0 hst) (pargs_of rfl) rfl (Nat.le_of_ble_eq_true rfl) (by omega) f1 (fun r1 τ1 e1 q1 w1 => ?_)
  obtain ⟨v1, rfl⟩ := w1
  have S1 : Stat τ1 := (Stat.le (σ := σ) hst e1)
  show pR mX10_canOn d 8 [(2, 0), (0, x1), (0, x2), (0, x3), (0, x4), (9, 0)] [(2, v1)] τ1 Q
  refine pGoL (ls2 := [(2, 0), (0, x1), (0, x2), (0, x3), (0, x4), (2, v1)]) (s_astoreQ dX10_canOn_8 (by decide) rfl) rfl ?_
  refine pGo (s_aloadQ dX10_canOn_10 rfl) ?_
  refine p_ifnull (tgt := 26) dX10_canOn_12 (by decide) (fun c1 => ?_) (fun c2 => ?_)
  · refine pGo (s_iconst dX10_canOn_26) ?_
    exact pEnd (r := (some (0, (-1)))) dX10_canOn_27 ⟨_, rfl⟩ (k1 v1 τ1 e1 q1 c1)
  · refine pGo (s_aload_n dX10_canOn_15 rfl (by decide)) ?_
    refine pGoE (y := (rd τ1 0 7)) (s_getR pc10 fl_X10_27 dX10_canOn_16 (ob_0 S1) rfl rfl) rfl ?_
    refine pGo (s_iload_n dX10_canOn_19 rfl) ?_
    refine p_callV (As := [(0, x2)]) (st := []) (n := 1) (d' := 1) (Q1 := (fun r τ => r = some (0, b2i (vHas (rd τ1 (rd τ1 0 7) 0) (rd τ1 (rd τ1 0 7) 1) x2)) ∧ τ = τ1)) pc6 ok_X6_has ml_X10_163 im_X6_has se_X6_has dX10_canOn_20 (g1 v1 τ1 e1 q1 c2).o0 (pargs_of rfl) rfl (Nat.le_of_ble_eq_true rfl) (by omega) (f2 v1 τ1 e1 q1 c2) (fun r2 τ2 e2 q2 w2 => ?_)
    obtain ⟨rfl, t2⟩ := q2
    rw [t2]
    show pR mX10_canOn d 23 [(2, 0), (0, x1), (0, x2), (0, x3), (0, x4), (2, v1)] [(0, (b2i (vHas (rd τ1 (rd τ1 0 7) 0) (rd τ1 (rd τ1 0 7) 1) x2)))] τ1 Q
    refine p_ifneB (tgt := 28) dX10_canOn_23 (by decide) (fun c3 => ?_) (fun c4 => ?_)
    · refine pGo (s_aload dX10_canOn_28 rfl c2) ?_
      refine pGo (s_iload_n dX10_canOn_30 rfl) ?_
      refine pGo (s_iload_n dX10_canOn_31 rfl) ?_
      refine p_callV (As := [(0, x2), (0, x3)]) (st := []) (n := 2) (d' := 1) (Q1 := Q2) pc5 ok_X5_canRide ml_X10_214 im_X5_canRide se_X5_canRide dX10_canOn_32 (g2 v1 τ1 e1 q1 c2 c3).o0 (pargs_of rfl) rfl (Nat.le_of_ble_eq_true rfl) (by omega) (f3 v1 τ1 e1 q1 c2 c3) (fun r3 τ3 e3 q3 w3 => ?_)
      obtain ⟨v3, rfl, b3⟩ := pRok_z w3
      have S3 : Stat τ3 := (Stat.le (σ := τ1) S1 e3)
      have J3_0 : Inst6 τ3 (rd τ1 0 7) := Inst6.le (σ := τ1) (g1 v1 τ1 e1 q1 c2) e3
      have J3_1 : Inst5 τ3 v1 := Inst5.le (σ := τ1) (g2 v1 τ1 e1 q1 c2 c3) e3
      show pR mX10_canOn d 35 [(2, 0), (0, x1), (0, x2), (0, x3), (0, x4), (2, v1)] [(0, v3)] τ3 Q
      refine p_ifeq (tgt := 42) dX10_canOn_35 (by decide) (g3 v1 τ1 e1 q1 c2 c3 v3 b3 τ3 e3 q3) (fun c5 => ?_) (fun c6 => ?_)
      · refine pGo (s_iconst dX10_canOn_42) ?_
        exact pEnd (r := (some (0, 0))) dX10_canOn_43 ⟨_, rfl⟩ (k2 v1 τ1 e1 q1 c2 c3 v3 b3 τ3 e3 q3 c5)
      · refine pGo (s_iconst dX10_canOn_38) ?_
        refine pGo (s_goto (tgt := 43) dX10_canOn_39 (by decide)) ?_
        exact pEnd (r := (some (0, 1))) dX10_canOn_43 ⟨_, rfl⟩ (k3 v1 τ1 e1 q1 c2 c3 v3 b3 τ3 e3 q3 c6)
    · refine pGo (s_iconst dX10_canOn_26) ?_
      exact pEnd (r := (some (0, (-1)))) dX10_canOn_27 ⟨_, rfl⟩ (k4 v1 τ1 e1 q1 c2 c4)
set_option maxRecDepth 100000 in
theorem g_X10_places_0 {d : Nat} {σ : pS} {Q : Option pV → pS → Prop} {Q1 : Option pV → pS → Prop} (hd : 7 ≤ d) (hst : Stat σ) (x1 : Int) (x2 : Int) (x3 : Int)  (f1 : pC mX10_seen 6 [(2, 0), (0, x1), (0, x2), (0, x3)] σ Q1) (k1 : ∀ (v1 : Int) (τ1 : pS) (e1 : pLe σ τ1) (q1 : Q1 (some (2, v1)) τ1) (c1 : 0 ≤ v1), pR mX10_places d 22 [(2, 0), (0, x1), (0, x2), (0, x3), (2, v1), (0, 0), (0, 0)] [] τ1 Q) (k2 : ∀ (v1 : Int) (τ1 : pS) (e1 : pLe σ τ1) (q1 : Q1 (some (2, v1)) τ1) (c2 : v1 < 0), Q (some (0, (-1))) τ1) : pC mX10_places d [(2, 0), (0, x1), (0, x2), (0, x3)] σ Q := by
  show pR mX10_places d 0 [(2, 0), (0, x1), (0, x2), (0, x3), (9, 0), (9, 0), (9, 0)] [] σ Q
  refine pGo (s_aload_n dX10_places_0 rfl (by decide)) ?_
  refine pGo (s_iload_n dX10_places_1 rfl) ?_
  refine pGo (s_iload_n dX10_places_2 rfl) ?_
  refine pGo (s_iload_n dX10_places_3 rfl) ?_
  refine p_callV (As := [(0, x1), (0, x2), (0, x3)]) (st := []) (n := 3) (d' := 6) (Q1 := Q1) pc10 ok_X10_seen ml_X10_207 im_X10_seen se_X10_seen dX10_places_4 (ob_0 hst) (pargs_of rfl) rfl (Nat.le_of_ble_eq_true rfl) (by omega) f1 (fun r1 τ1 e1 q1 w1 => ?_)
  obtain ⟨v1, rfl⟩ := w1
  have S1 : Stat τ1 := (Stat.le (σ := σ) hst e1)
  show pR mX10_places d 7 [(2, 0), (0, x1), (0, x2), (0, x3), (9, 0), (9, 0), (9, 0)] [(2, v1)] τ1 Q
  refine pGoL (ls2 := [(2, 0), (0, x1), (0, x2), (0, x3), (2, v1), (9, 0), (9, 0)]) (s_astoreQ dX10_places_7 (by decide) rfl) rfl ?_
  refine pGo (s_aloadQ dX10_places_9 rfl) ?_
  refine p_ifnonnull (tgt := 16) dX10_places_11 (by decide) (fun c1 => ?_) (fun c2 => ?_)
  · refine pGo (s_iconst dX10_places_16) ?_
    refine pGoL (ls2 := [(2, 0), (0, x1), (0, x2), (0, x3), (2, v1), (0, 0), (9, 0)]) (s_istore dX10_places_17 (by decide) rfl) rfl ?_
    refine pGo (s_iconst dX10_places_19) ?_
    refine pGoL (ls2 := [(2, 0), (0, x1), (0, x2), (0, x3), (2, v1), (0, 0), (0, 0)]) (s_istore dX10_places_20 (by decide) rfl) rfl ?_
    exact (k1 v1 τ1 e1 q1 c1)
  · refine pGo (s_iconst dX10_places_14) ?_
    exact pEnd (r := (some (0, (-1)))) dX10_places_15 ⟨_, rfl⟩ (k2 v1 τ1 e1 q1 c2)
set_option maxRecDepth 100000 in
theorem g_X10_places_22 {d : Nat} {σ : pS} {Q : Option pV → pS → Prop} (hd : 7 ≤ d) (hst : Stat σ) (x1 : Int) (x2 : Int) (x3 : Int) (x4 : Int) (x5 : Int) (x6 : Int) (Ix4 : Inst5 σ x4) (g1 : inR x6) (k1 : ∀ (c1 : 10 ≤ x6), pR mX10_places d 59 [(2, 0), (0, x1), (0, x2), (0, x3), (2, x4), (0, x5), (0, 0)] [] σ Q) (f1 : ∀ (c2 : x6 < 10), pC mX5_canStand 0 [(2, x4), (0, x6), (0, x2)] σ (fun r τ => r = some (0, b2i (vStand σ x4 x6 x2)) ∧ τ = σ)) (k2 : ∀ (c2 : x6 < 10) (c3 : (vStand σ x4 x6 x2) = false), pR mX10_places d 22 [(2, 0), (0, x1), (0, x2), (0, x3), (2, x4), (0, (x5 + 0)), (0, (x6 + 1))] [] σ Q) (k3 : ∀ (c2 : x6 < 10) (c4 : (vStand σ x4 x6 x2) = true), pR mX10_places d 22 [(2, 0), (0, x1), (0, x2), (0, x3), (2, x4), (0, (x5 + 1)), (0, (x6 + 1))] [] σ Q) : pR mX10_places d 22 [(2, 0), (0, x1), (0, x2), (0, x3), (2, x4), (0, x5), (0, x6)] [] σ Q := by
  refine pGo (s_iload dX10_places_22 rfl) ?_
  refine pGo (s_bipush dX10_places_24 (by decide)) ?_
  refine p_icge (tgt := 56) dX10_places_26 (by decide) g1 (by decide) (fun c1 => ?_) (fun c2 => ?_)
  · refine pGo (s_iconst dX10_places_56) ?_
    refine pGoL (ls2 := [(2, 0), (0, x1), (0, x2), (0, x3), (2, x4), (0, x5), (0, 0)]) (s_istore dX10_places_57 (by decide) rfl) rfl ?_
    exact (k1 c1)
  · refine pGo (s_iload dX10_places_29 rfl) ?_
    refine pGo (s_aload dX10_places_31 rfl Ix4.pos) ?_
    refine pGo (s_iload dX10_places_33 rfl) ?_
    refine pGo (s_iload_n dX10_places_35 rfl) ?_
    refine p_callV (As := [(0, x6), (0, x2)]) (st := [(0, x5)]) (n := 2) (d' := 0) (Q1 := (fun r τ => r = some (0, b2i (vStand σ x4 x6 x2)) ∧ τ = σ)) pc5 ok_X5_canStand ml_X10_211 im_X5_canStand se_X5_canStand dX10_places_36 Ix4.o0 (pargs_of rfl) rfl (Nat.le_of_ble_eq_true rfl) (by omega) (f1 c2) (fun r1 τ1 e1 q1 w1 => ?_)
    obtain ⟨rfl, t1⟩ := q1
    rw [t1]
    show pR mX10_places d 39 [(2, 0), (0, x1), (0, x2), (0, x3), (2, x4), (0, x5), (0, x6)] [(0, (b2i (vStand σ x4 x6 x2))), (0, x5)] σ Q
    refine p_ifeqB (tgt := 46) dX10_places_39 (by decide) (fun c3 => ?_) (fun c4 => ?_)
    · refine pGo (s_iconst dX10_places_46) ?_
      refine pGo (s_iadd dX10_places_47) ?_
      refine pGoL (ls2 := [(2, 0), (0, x1), (0, x2), (0, x3), (2, x4), (0, (x5 + 0)), (0, x6)]) (s_istore dX10_places_48 (by decide) rfl) rfl ?_
      refine pGoL (ls2 := [(2, 0), (0, x1), (0, x2), (0, x3), (2, x4), (0, (x5 + 0)), (0, (x6 + 1))]) (s_iinc dX10_places_50 (by decide) rfl rfl) rfl ?_
      refine pGo (s_goto (tgt := 22) dX10_places_53 (by decide)) ?_
      exact (k2 c2 c3)
    · refine pGo (s_iconst dX10_places_42) ?_
      refine pGo (s_goto (tgt := 47) dX10_places_43 (by decide)) ?_
      refine pGo (s_iadd dX10_places_47) ?_
      refine pGoL (ls2 := [(2, 0), (0, x1), (0, x2), (0, x3), (2, x4), (0, (x5 + 1)), (0, x6)]) (s_istore dX10_places_48 (by decide) rfl) rfl ?_
      refine pGoL (ls2 := [(2, 0), (0, x1), (0, x2), (0, x3), (2, x4), (0, (x5 + 1)), (0, (x6 + 1))]) (s_iinc dX10_places_50 (by decide) rfl rfl) rfl ?_
      refine pGo (s_goto (tgt := 22) dX10_places_53 (by decide)) ?_
      exact (k3 c2 c4)
set_option maxRecDepth 100000 in
theorem g_X10_places_59 {d : Nat} {σ : pS} {Q : Option pV → pS → Prop} {Q1 : Option pV → pS → Prop} (hd : 7 ≤ d) (hst : Stat σ) (x1 : Int) (x2 : Int) (x3 : Int) (x4 : Int) (x5 : Int) (x6 : Int) (Ix4 : Inst5 σ x4) (g1 : inR x6) (k1 : ∀ (c1 : 17 ≤ x6), Q (some (0, x5)) σ) (f1 : ∀ (c2 : x6 < 17), pC mX6_has 1 [(2, (rd σ 0 7)), (0, x6)] σ (fun r τ => r = some (0, b2i (vHas (rd σ (rd σ 0 7) 0) (rd σ (rd σ 0 7) 1) x6)) ∧ τ = σ)) (g2 : ∀ (c2 : x6 < 17), Inst6 σ (rd σ 0 7)) (k2 : ∀ (c2 : x6 < 17) (c3 : (vHas (rd σ (rd σ 0 7) 0) (rd σ (rd σ 0 7) 1) x6) = false), pR mX10_places d 59 [(2, 0), (0, x1), (0, x2), (0, x3), (2, x4), (0, (x5 + 0)), (0, (x6 + 1))] [] σ Q) (f2 : ∀ (c2 : x6 < 17) (c4 : (vHas (rd σ (rd σ 0 7) 0) (rd σ (rd σ 0 7) 1) x6) = true), pC mX5_canRide 1 [(2, x4), (0, x6), (0, x2)] σ Q1) (g3 : ∀ (c2 : x6 < 17) (c4 : (vHas (rd σ (rd σ 0 7) 0) (rd σ (rd σ 0 7) 1) x6) = true) (v2 : Int) (b2 : v2 = 0 ∨ v2 = 1) (τ2 : pS) (e2 : pLe σ τ2) (q2 : Q1 (some (0, v2)) τ2), inR v2) (k3 : ∀ (c2 : x6 < 17) (c4 : (vHas (rd σ (rd σ 0 7) 0) (rd σ (rd σ 0 7) 1) x6) = true) (v2 : Int) (b2 : v2 = 0 ∨ v2 = 1) (τ2 : pS) (e2 : pLe σ τ2) (q2 : Q1 (some (0, v2)) τ2) (c5 : v2 = 0), pR mX10_places d 59 [(2, 0), (0, x1), (0, x2), (0, x3), (2, x4), (0, (x5 + 0)), (0, (x6 + 1))] [] τ2 Q) (k4 : ∀ (c2 : x6 < 17) (c4 : (vHas (rd σ (rd σ 0 7) 0) (rd σ (rd σ 0 7) 1) x6) = true) (v2 : Int) (b2 : v2 = 0 ∨ v2 = 1) (τ2 : pS) (e2 : pLe σ τ2) (q2 : Q1 (some (0, v2)) τ2) (c6 : v2 ≠ 0), pR mX10_places d 59 [(2, 0), (0, x1), (0, x2), (0, x3), (2, x4), (0, (x5 + 1)), (0, (x6 + 1))] [] τ2 Q) : pR mX10_places d 59 [(2, 0), (0, x1), (0, x2), (0, x3), (2, x4), (0, x5), (0, x6)] [] σ Q := by
  refine pGo (s_iload dX10_places_59 rfl) ?_
  refine pGo (s_bipush dX10_places_61 (by decide)) ?_
  refine p_icge (tgt := 105) dX10_places_63 (by decide) g1 (by decide) (fun c1 => ?_) (fun c2 => ?_)
  · refine pGo (s_iload dX10_places_105 rfl) ?_
    exact pEnd (r := (some (0, x5))) dX10_places_107 ⟨_, rfl⟩ (k1 c1)
  · refine pGo (s_iload dX10_places_66 rfl) ?_
    refine pGo (s_aload_n dX10_places_68 rfl (by decide)) ?_
    refine pGoE (y := (rd σ 0 7)) (s_getR pc10 fl_X10_27 dX10_places_69 (ob_0 hst) rfl rfl) rfl ?_
    refine pGo (s_iload dX10_places_72 rfl) ?_
    refine p_callV (As := [(0, x6)]) (st := [(0, x5)]) (n := 1) (d' := 1) (Q1 := (fun r τ => r = some (0, b2i (vHas (rd σ (rd σ 0 7) 0) (rd σ (rd σ 0 7) 1) x6)) ∧ τ = σ)) pc6 ok_X6_has ml_X10_163 im_X6_has se_X6_has dX10_places_74 (g2 c2).o0 (pargs_of rfl) rfl (Nat.le_of_ble_eq_true rfl) (by omega) (f1 c2) (fun r1 τ1 e1 q1 w1 => ?_)
    obtain ⟨rfl, t1⟩ := q1
    rw [t1]
    show pR mX10_places d 77 [(2, 0), (0, x1), (0, x2), (0, x3), (2, x4), (0, x5), (0, x6)] [(0, (b2i (vHas (rd σ (rd σ 0 7) 0) (rd σ (rd σ 0 7) 1) x6))), (0, x5)] σ Q
    refine p_ifeqB (tgt := 95) dX10_places_77 (by decide) (fun c3 => ?_) (fun c4 => ?_)
    · refine pGo (s_iconst dX10_places_95) ?_
      refine pGo (s_iadd dX10_places_96) ?_
      refine pGoL (ls2 := [(2, 0), (0, x1), (0, x2), (0, x3), (2, x4), (0, (x5 + 0)), (0, x6)]) (s_istore dX10_places_97 (by decide) rfl) rfl ?_
      refine pGoL (ls2 := [(2, 0), (0, x1), (0, x2), (0, x3), (2, x4), (0, (x5 + 0)), (0, (x6 + 1))]) (s_iinc dX10_places_99 (by decide) rfl rfl) rfl ?_
      refine pGo (s_goto (tgt := 59) dX10_places_102 (by decide)) ?_
      exact (k2 c2 c3)
    · refine pGo (s_aload dX10_places_80 rfl Ix4.pos) ?_
      refine pGo (s_iload dX10_places_82 rfl) ?_
      refine pGo (s_iload_n dX10_places_84 rfl) ?_
      refine p_callV (As := [(0, x6), (0, x2)]) (st := [(0, x5)]) (n := 2) (d' := 1) (Q1 := Q1) pc5 ok_X5_canRide ml_X10_214 im_X5_canRide se_X5_canRide dX10_places_85 Ix4.o0 (pargs_of rfl) rfl (Nat.le_of_ble_eq_true rfl) (by omega) (f2 c2 c4) (fun r2 τ2 e2 q2 w2 => ?_)
      obtain ⟨v2, rfl, b2⟩ := pRok_z w2
      have S2 : Stat τ2 := (Stat.le (σ := σ) hst e2)
      have J2_0 : Inst5 τ2 x4 := Inst5.le (σ := σ) Ix4 e2
      have J2_1 : Inst6 τ2 (rd σ 0 7) := Inst6.le (σ := σ) (g2 c2) e2
      show pR mX10_places d 88 [(2, 0), (0, x1), (0, x2), (0, x3), (2, x4), (0, x5), (0, x6)] [(0, v2), (0, x5)] τ2 Q
      refine p_ifeq (tgt := 95) dX10_places_88 (by decide) (g3 c2 c4 v2 b2 τ2 e2 q2) (fun c5 => ?_) (fun c6 => ?_)
      · refine pGo (s_iconst dX10_places_95) ?_
        refine pGo (s_iadd dX10_places_96) ?_
        refine pGoL (ls2 := [(2, 0), (0, x1), (0, x2), (0, x3), (2, x4), (0, (x5 + 0)), (0, x6)]) (s_istore dX10_places_97 (by decide) rfl) rfl ?_
        refine pGoL (ls2 := [(2, 0), (0, x1), (0, x2), (0, x3), (2, x4), (0, (x5 + 0)), (0, (x6 + 1))]) (s_iinc dX10_places_99 (by decide) rfl rfl) rfl ?_
        refine pGo (s_goto (tgt := 59) dX10_places_102 (by decide)) ?_
        exact (k3 c2 c4 v2 b2 τ2 e2 q2 c5)
      · refine pGo (s_iconst dX10_places_91) ?_
        refine pGo (s_goto (tgt := 96) dX10_places_92 (by decide)) ?_
        refine pGo (s_iadd dX10_places_96) ?_
        refine pGoL (ls2 := [(2, 0), (0, x1), (0, x2), (0, x3), (2, x4), (0, (x5 + 1)), (0, x6)]) (s_istore dX10_places_97 (by decide) rfl) rfl ?_
        refine pGoL (ls2 := [(2, 0), (0, x1), (0, x2), (0, x3), (2, x4), (0, (x5 + 1)), (0, (x6 + 1))]) (s_iinc dX10_places_99 (by decide) rfl rfl) rfl ?_
        refine pGo (s_goto (tgt := 59) dX10_places_102 (by decide)) ?_
        exact (k4 c2 c4 v2 b2 τ2 e2 q2 c6)
set_option maxRecDepth 100000 in
theorem g_X10_meet_0 {d : Nat} {σ : pS} {Q : Option pV → pS → Prop} {Q1 : Option pV → pS → Prop} {Q2 : Option pV → pS → Prop} (hd : 7 ≤ d) (hst : Stat σ) (x1 : Int) (x2 : Int) (x3 : Int) (x4 : Int) (x5 : Int)  (g1 : inR x1) (g2 : inR x2) (k1 : ∀ (c1 : x1 = x2), Q (some (0, (-1))) σ) (f1 : ∀ (c2 : x1 ≠ x2), pC mX10_within 0 [(0, x3), (0, 10)] σ (fun r τ => r = some (0, b2i (vWithin x3 10)) ∧ τ = σ)) (f2 : ∀ (c2 : x1 ≠ x2) (c3 : (vWithin x3 10) = true), pC mX10_seen 6 [(2, 0), (0, x1), (0, x4), (0, x5)] σ Q1) (f3 : ∀ (c2 : x1 ≠ x2) (c3 : (vWithin x3 10) = true) (v2 : Int) (τ2 : pS) (e2 : pLe σ τ2) (q2 : Q1 (some (2, v2)) τ2), pC mX10_seen 6 [(2, 0), (0, x2), (0, x4), (0, x5)] τ2 Q2) (k2 : ∀ (c2 : x1 ≠ x2) (c3 : (vWithin x3 10) = true) (v2 : Int) (τ2 : pS) (e2 : pLe σ τ2) (q2 : Q1 (some (2, v2)) τ2) (v3 : Int) (τ3 : pS) (e3 : pLe τ2 τ3) (q3 : Q2 (some (2, v3)) τ3) (c5 : v2 < 0), Q (some (0, (-1))) τ3) (k3 : ∀ (c2 : x1 ≠ x2) (c3 : (vWithin x3 10) = true) (v2 : Int) (τ2 : pS) (e2 : pLe σ τ2) (q2 : Q1 (some (2, v2)) τ2) (v3 : Int) (τ3 : pS) (e3 : pLe τ2 τ3) (q3 : Q2 (some (2, v3)) τ3) (c6 : 0 ≤ v2) (c7 : 0 ≤ v3), pR mX10_meet d 54 [(2, 0), (0, x1), (0, x2), (0, x3), (0, x4), (0, x5), (2, v2), (2, v3), (0, x4)] [] τ3 Q) (k4 : ∀ (c2 : x1 ≠ x2) (c3 : (vWithin x3 10) = true) (v2 : Int) (τ2 : pS) (e2 : pLe σ τ2) (q2 : Q1 (some (2, v2)) τ2) (v3 : Int) (τ3 : pS) (e3 : pLe τ2 τ3) (q3 : Q2 (some (2, v3)) τ3) (c6 : 0 ≤ v2) (c8 : v3 < 0), Q (some (0, (-1))) τ3) (k5 : ∀ (c2 : x1 ≠ x2) (c4 : (vWithin x3 10) = false), Q (some (0, (-1))) σ) : pC mX10_meet d [(2, 0), (0, x1), (0, x2), (0, x3), (0, x4), (0, x5)] σ Q := by
  show pR mX10_meet d 0 [(2, 0), (0, x1), (0, x2), (0, x3), (0, x4), (0, x5), (9, 0), (9, 0), (9, 0)] [] σ Q
  refine pGo (s_iload_n dX10_meet_0 rfl) ?_
  refine pGo (s_iload_n dX10_meet_1 rfl) ?_
  refine p_iceq (tgt := 14) dX10_meet_2 (by decide) g1 g2 (fun c1 => ?_) (fun c2 => ?_)
  · refine pGo (s_iconst dX10_meet_14) ?_
    exact pEnd (r := (some (0, (-1)))) dX10_meet_15 ⟨_, rfl⟩ (k1 c1)
  · refine pGo (s_iload_n dX10_meet_5 rfl) ?_
    refine pGo (s_bipush dX10_meet_6 (by decide)) ?_
    refine p_callS (As := [(0, x3), (0, 10)]) (st := []) (n := 2) (d' := 0) (Q1 := (fun r τ => r = some (0, b2i (vWithin x3 10)) ∧ τ = σ)) ok_X10_within ml_X10_138 sm_X10_within dX10_meet_8 (pargs_of rfl) rfl (Nat.le_of_ble_eq_true rfl) (by omega) (f1 c2) (fun r1 τ1 e1 q1 w1 => ?_)
    obtain ⟨rfl, t1⟩ := q1
    rw [t1]
    show pR mX10_meet d 11 [(2, 0), (0, x1), (0, x2), (0, x3), (0, x4), (0, x5), (9, 0), (9, 0), (9, 0)] [(0, (b2i (vWithin x3 10)))] σ Q
    refine p_ifneB (tgt := 16) dX10_meet_11 (by decide) (fun c3 => ?_) (fun c4 => ?_)
    · refine pGo (s_aload_n dX10_meet_16 rfl (by decide)) ?_
      refine pGo (s_iload_n dX10_meet_17 rfl) ?_
      refine pGo (s_iload dX10_meet_18 rfl) ?_
      refine pGo (s_iload dX10_meet_20 rfl) ?_
      refine p_callV (As := [(0, x1), (0, x4), (0, x5)]) (st := []) (n := 3) (d' := 6) (Q1 := Q1) pc10 ok_X10_seen ml_X10_207 im_X10_seen se_X10_seen dX10_meet_22 (ob_0 hst) (pargs_of rfl) rfl (Nat.le_of_ble_eq_true rfl) (by omega) (f2 c2 c3) (fun r2 τ2 e2 q2 w2 => ?_)
      obtain ⟨v2, rfl⟩ := w2
      have S2 : Stat τ2 := (Stat.le (σ := σ) hst e2)
      show pR mX10_meet d 25 [(2, 0), (0, x1), (0, x2), (0, x3), (0, x4), (0, x5), (9, 0), (9, 0), (9, 0)] [(2, v2)] τ2 Q
      refine pGoL (ls2 := [(2, 0), (0, x1), (0, x2), (0, x3), (0, x4), (0, x5), (2, v2), (9, 0), (9, 0)]) (s_astoreQ dX10_meet_25 (by decide) rfl) rfl ?_
      refine pGo (s_aload_n dX10_meet_27 rfl (by decide)) ?_
      refine pGo (s_iload_n dX10_meet_28 rfl) ?_
      refine pGo (s_iload dX10_meet_29 rfl) ?_
      refine pGo (s_iload dX10_meet_31 rfl) ?_
      refine p_callV (As := [(0, x2), (0, x4), (0, x5)]) (st := []) (n := 3) (d' := 6) (Q1 := Q2) pc10 ok_X10_seen ml_X10_207 im_X10_seen se_X10_seen dX10_meet_33 (ob_0 S2) (pargs_of rfl) rfl (Nat.le_of_ble_eq_true rfl) (by omega) (f3 c2 c3 v2 τ2 e2 q2) (fun r3 τ3 e3 q3 w3 => ?_)
      obtain ⟨v3, rfl⟩ := w3
      have S3 : Stat τ3 := (Stat.le (σ := τ2) S2 e3)
      show pR mX10_meet d 36 [(2, 0), (0, x1), (0, x2), (0, x3), (0, x4), (0, x5), (2, v2), (9, 0), (9, 0)] [(2, v3)] τ3 Q
      refine pGoL (ls2 := [(2, 0), (0, x1), (0, x2), (0, x3), (0, x4), (0, x5), (2, v2), (2, v3), (9, 0)]) (s_astoreQ dX10_meet_36 (by decide) rfl) rfl ?_
      refine pGo (s_aloadQ dX10_meet_38 rfl) ?_
      refine p_ifnull (tgt := 48) dX10_meet_40 (by decide) (fun c5 => ?_) (fun c6 => ?_)
      · refine pGo (s_iconst dX10_meet_48) ?_
        exact pEnd (r := (some (0, (-1)))) dX10_meet_49 ⟨_, rfl⟩ (k2 c2 c3 v2 τ2 e2 q2 v3 τ3 e3 q3 c5)
      · refine pGo (s_aloadQ dX10_meet_43 rfl) ?_
        refine p_ifnonnull (tgt := 50) dX10_meet_45 (by decide) (fun c7 => ?_) (fun c8 => ?_)
        · refine pGo (s_iload dX10_meet_50 rfl) ?_
          refine pGoL (ls2 := [(2, 0), (0, x1), (0, x2), (0, x3), (0, x4), (0, x5), (2, v2), (2, v3), (0, x4)]) (s_istore dX10_meet_52 (by decide) rfl) rfl ?_
          exact (k3 c2 c3 v2 τ2 e2 q2 v3 τ3 e3 q3 c6 c7)
        · refine pGo (s_iconst dX10_meet_48) ?_
          exact pEnd (r := (some (0, (-1)))) dX10_meet_49 ⟨_, rfl⟩ (k4 c2 c3 v2 τ2 e2 q2 v3 τ3 e3 q3 c6 c8)
    · refine pGo (s_iconst dX10_meet_14) ?_
      exact pEnd (r := (some (0, (-1)))) dX10_meet_15 ⟨_, rfl⟩ (k5 c2 c4)
set_option maxRecDepth 100000 in
theorem g_X10_meet_54 {d : Nat} {σ : pS} {Q : Option pV → pS → Prop} (hd : 7 ≤ d) (hst : Stat σ) (x1 : Int) (x2 : Int) (x3 : Int) (x4 : Int) (x5 : Int) (x6 : Int) (x7 : Int) (x8 : Int) (Ix6 : Inst5 σ x6) (Ix7 : Inst5 σ x7) (g1 : inR x8) (k1 : ∀ (c1 : 540 < x8), Q (some (0, (-1))) σ) (f1 : ∀ (c2 : x8 ≤ 540), pC mX5_canStand 0 [(2, x6), (0, x3), (0, x8)] σ (fun r τ => r = some (0, b2i (vStand σ x6 x3 x8)) ∧ τ = σ)) (k2 : ∀ (c2 : x8 ≤ 540) (c3 : (vStand σ x6 x3 x8) = false), pR mX10_meet d 54 [(2, 0), (0, x1), (0, x2), (0, x3), (0, x4), (0, x5), (2, x6), (2, x7), (0, (x8 + 1))] [] σ Q) (f2 : ∀ (c2 : x8 ≤ 540) (c4 : (vStand σ x6 x3 x8) = true), pC mX5_canStand 0 [(2, x7), (0, x3), (0, x8)] σ (fun r τ => r = some (0, b2i (vStand σ x7 x3 x8)) ∧ τ = σ)) (k3 : ∀ (c2 : x8 ≤ 540) (c4 : (vStand σ x6 x3 x8) = true) (c5 : (vStand σ x7 x3 x8) = false), pR mX10_meet d 54 [(2, 0), (0, x1), (0, x2), (0, x3), (0, x4), (0, x5), (2, x6), (2, x7), (0, (x8 + 1))] [] σ Q) (k4 : ∀ (c2 : x8 ≤ 540) (c4 : (vStand σ x6 x3 x8) = true) (c6 : (vStand σ x7 x3 x8) = true), Q (some (0, x8)) σ) : pR mX10_meet d 54 [(2, 0), (0, x1), (0, x2), (0, x3), (0, x4), (0, x5), (2, x6), (2, x7), (0, x8)] [] σ Q := by
  refine pGo (s_iload dX10_meet_54 rfl) ?_
  refine pGo (s_sipush dX10_meet_56 (by decide)) ?_
  refine p_icgt (tgt := 93) dX10_meet_59 (by decide) g1 (by decide) (fun c1 => ?_) (fun c2 => ?_)
  · refine pGo (s_iconst dX10_meet_93) ?_
    exact pEnd (r := (some (0, (-1)))) dX10_meet_94 ⟨_, rfl⟩ (k1 c1)
  · refine pGo (s_aload dX10_meet_62 rfl Ix6.pos) ?_
    refine pGo (s_iload_n dX10_meet_64 rfl) ?_
    refine pGo (s_iload dX10_meet_65 rfl) ?_
    refine p_callV (As := [(0, x3), (0, x8)]) (st := []) (n := 2) (d' := 0) (Q1 := (fun r τ => r = some (0, b2i (vStand σ x6 x3 x8)) ∧ τ = σ)) pc5 ok_X5_canStand ml_X10_211 im_X5_canStand se_X5_canStand dX10_meet_67 Ix6.o0 (pargs_of rfl) rfl (Nat.le_of_ble_eq_true rfl) (by omega) (f1 c2) (fun r1 τ1 e1 q1 w1 => ?_)
    obtain ⟨rfl, t1⟩ := q1
    rw [t1]
    show pR mX10_meet d 70 [(2, 0), (0, x1), (0, x2), (0, x3), (0, x4), (0, x5), (2, x6), (2, x7), (0, x8)] [(0, (b2i (vStand σ x6 x3 x8)))] σ Q
    refine p_ifeqB (tgt := 87) dX10_meet_70 (by decide) (fun c3 => ?_) (fun c4 => ?_)
    · refine pGoL (ls2 := [(2, 0), (0, x1), (0, x2), (0, x3), (0, x4), (0, x5), (2, x6), (2, x7), (0, (x8 + 1))]) (s_iinc dX10_meet_87 (by decide) rfl rfl) rfl ?_
      refine pGo (s_goto (tgt := 54) dX10_meet_90 (by decide)) ?_
      exact (k2 c2 c3)
    · refine pGo (s_aload dX10_meet_73 rfl Ix7.pos) ?_
      refine pGo (s_iload_n dX10_meet_75 rfl) ?_
      refine pGo (s_iload dX10_meet_76 rfl) ?_
      refine p_callV (As := [(0, x3), (0, x8)]) (st := []) (n := 2) (d' := 0) (Q1 := (fun r τ => r = some (0, b2i (vStand σ x7 x3 x8)) ∧ τ = σ)) pc5 ok_X5_canStand ml_X10_211 im_X5_canStand se_X5_canStand dX10_meet_78 Ix7.o0 (pargs_of rfl) rfl (Nat.le_of_ble_eq_true rfl) (by omega) (f2 c2 c4) (fun r2 τ2 e2 q2 w2 => ?_)
      obtain ⟨rfl, t2⟩ := q2
      rw [t2]
      show pR mX10_meet d 81 [(2, 0), (0, x1), (0, x2), (0, x3), (0, x4), (0, x5), (2, x6), (2, x7), (0, x8)] [(0, (b2i (vStand σ x7 x3 x8)))] σ Q
      refine p_ifeqB (tgt := 87) dX10_meet_81 (by decide) (fun c5 => ?_) (fun c6 => ?_)
      · refine pGoL (ls2 := [(2, 0), (0, x1), (0, x2), (0, x3), (0, x4), (0, x5), (2, x6), (2, x7), (0, (x8 + 1))]) (s_iinc dX10_meet_87 (by decide) rfl rfl) rfl ?_
        refine pGo (s_goto (tgt := 54) dX10_meet_90 (by decide)) ?_
        exact (k3 c2 c4 c5)
      · refine pGo (s_iload dX10_meet_84 rfl) ?_
        exact pEnd (r := (some (0, x8))) dX10_meet_86 ⟨_, rfl⟩ (k4 c2 c4 c6)
