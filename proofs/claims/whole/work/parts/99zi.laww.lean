/-! walks: the class reads a law -/
set_option maxRecDepth 100000 in
theorem g_X2_readUnit_0 {d : Nat} {σ : pS} {Q : Option pV → pS → Prop} {Q1 : Option pV → pS → Prop} {Q2 : Option pV → pS → Prop} {Q3 : Option pV → pS → Prop} {Q4 : Option pV → pS → Prop} {Q5 : Option pV → pS → Prop} {Q6 : Option pV → pS → Prop} {Q7 : Option pV → pS → Prop} {Q8 : Option pV → pS → Prop} {Q9 : Option pV → pS → Prop} {Q10 : Option pV → pS → Prop} {Q11 : Option pV → pS → Prop} {Q12 : Option pV → pS → Prop} {Q13 : Option pV → pS → Prop} {Q14 : Option pV → pS → Prop} {Q15 : Option pV → pS → Prop} (hd : 1 ≤ d) (hst : Stat σ) (a0 : Int) {na0 : Nat} (Ia0 : Inst2 σ a0 na0) (f1 : pC mX9_kind 0 [(2, 2)] σ (fun r τ => r = some (0, (vTkK σ)) ∧ τ = σ)) (g1 : inR (vTkK σ)) (g2 : ∀ (c1 : (vTkK σ) = 19), inR (rd σ a0 3)) (g3 : ∀ (c1 : (vTkK σ) = 19) (c3 : (rd σ a0 3) < 40), inR (rd σ a0 5)) (f2 : ∀ (c1 : (vTkK σ) = 19) (c3 : (rd σ a0 3) < 40) (c5 : (rd σ a0 5) ≠ 0), pC mX9_value 0 [(2, 2)] (wr σ a0 3 ((rd σ a0 3) + 1)) (fun r τ => r = some (1, (vTkV (wr σ a0 3 ((rd σ a0 3) + 1)))) ∧ τ = (wr σ a0 3 ((rd σ a0 3) + 1)))) (f3 : ∀ (c1 : (vTkK σ) = 19) (c3 : (rd σ a0 3) < 40) (c5 : (rd σ a0 5) ≠ 0), pC mX2_put 0 [(2, a0), (0, (vTkK σ)), (0, (vTkV (wr σ a0 3 ((rd σ a0 3) + 1))))] (wr σ a0 3 ((rd σ a0 3) + 1)) Q1) (f4 : ∀ (c1 : (vTkK σ) = 19) (c3 : (rd σ a0 3) < 40) (c5 : (rd σ a0 5) ≠ 0) (τ3 : pS) (e3 : pLe (wr σ a0 3 ((rd σ a0 3) + 1)) τ3) (q3 : Q1 none τ3), pC mX9_step 0 [(2, 2)] τ3 Q2) (k1 : ∀ (c1 : (vTkK σ) = 19) (c3 : (rd σ a0 3) < 40) (c5 : (rd σ a0 5) ≠ 0) (τ3 : pS) (e3 : pLe (wr σ a0 3 ((rd σ a0 3) + 1)) τ3) (q3 : Q1 none τ3) (τ4 : pS) (e4 : pLe τ3 τ4) (q4 : Q2 none τ4), Q (some (0, 1)) τ4) (f5 : ∀ (c1 : (vTkK σ) = 19) (c3 : (rd σ a0 3) < 40) (c6 : (rd σ a0 5) = 0) (c7 : (vTkK σ) = 9), pC mX9_fail 0 [(2, 2), (0, 6)] σ Q3) (k2 : ∀ (c1 : (vTkK σ) = 19) (c3 : (rd σ a0 3) < 40) (c6 : (rd σ a0 5) = 0) (c7 : (vTkK σ) = 9) (v5 : Int) (b5 : v5 = 0 ∨ v5 = 1) (τ5 : pS) (e5 : pLe σ τ5) (q5 : Q3 (some (0, v5)) τ5), Q (some (0, v5)) τ5) (f6 : ∀ (c1 : (vTkK σ) = 19) (c3 : (rd σ a0 3) < 40) (c6 : (rd σ a0 5) = 0) (c8 : (vTkK σ) ≠ 9) (c9 : (vTkK σ) ≠ 8), pC mX9_value 0 [(2, 2)] (wr σ a0 3 ((rd σ a0 3) + 1)) (fun r τ => r = some (1, (vTkV (wr σ a0 3 ((rd σ a0 3) + 1)))) ∧ τ = (wr σ a0 3 ((rd σ a0 3) + 1)))) (f7 : ∀ (c1 : (vTkK σ) = 19) (c3 : (rd σ a0 3) < 40) (c6 : (rd σ a0 5) = 0) (c8 : (vTkK σ) ≠ 9) (c9 : (vTkK σ) ≠ 8), pC mX2_put 0 [(2, a0), (0, (vTkK σ)), (0, (vTkV (wr σ a0 3 ((rd σ a0 3) + 1))))] (wr σ a0 3 ((rd σ a0 3) + 1)) Q4) (f8 : ∀ (c1 : (vTkK σ) = 19) (c3 : (rd σ a0 3) < 40) (c6 : (rd σ a0 5) = 0) (c8 : (vTkK σ) ≠ 9) (c9 : (vTkK σ) ≠ 8) (τ7 : pS) (e7 : pLe (wr σ a0 3 ((rd σ a0 3) + 1)) τ7) (q7 : Q4 none τ7), pC mX9_step 0 [(2, 2)] τ7 Q5) (k3 : ∀ (c1 : (vTkK σ) = 19) (c3 : (rd σ a0 3) < 40) (c6 : (rd σ a0 5) = 0) (c8 : (vTkK σ) ≠ 9) (c9 : (vTkK σ) ≠ 8) (τ7 : pS) (e7 : pLe (wr σ a0 3 ((rd σ a0 3) + 1)) τ7) (q7 : Q4 none τ7) (τ8 : pS) (e8 : pLe τ7 τ8) (q8 : Q5 none τ8), Q (some (0, 1)) τ8) (f9 : ∀ (c1 : (vTkK σ) = 19) (c3 : (rd σ a0 3) < 40) (c6 : (rd σ a0 5) = 0) (c8 : (vTkK σ) ≠ 9) (c10 : (vTkK σ) = 8), pC mX9_fail 0 [(2, 2), (0, 6)] σ Q6) (k4 : ∀ (c1 : (vTkK σ) = 19) (c3 : (rd σ a0 3) < 40) (c6 : (rd σ a0 5) = 0) (c8 : (vTkK σ) ≠ 9) (c10 : (vTkK σ) = 8) (v9 : Int) (b9 : v9 = 0 ∨ v9 = 1) (τ9 : pS) (e9 : pLe σ τ9) (q9 : Q6 (some (0, v9)) τ9), Q (some (0, v9)) τ9) (f10 : ∀ (c1 : (vTkK σ) = 19) (c4 : 40 ≤ (rd σ a0 3)), pC mX9_fail 0 [(2, 2), (0, 2)] σ Q7) (k5 : ∀ (c1 : (vTkK σ) = 19) (c4 : 40 ≤ (rd σ a0 3)) (v10 : Int) (b10 : v10 = 0 ∨ v10 = 1) (τ10 : pS) (e10 : pLe σ τ10) (q10 : Q7 (some (0, v10)) τ10), Q (some (0, v10)) τ10) (f11 : ∀ (c2 : (vTkK σ) ≠ 19), pC mX2_isWordUnit 0 [(0, (vTkK σ))] σ (fun r τ => r = some (0, b2i (vWU (vTkK σ))) ∧ τ = σ)) (f12 : ∀ (c2 : (vTkK σ) ≠ 19) (c11 : (vWU (vTkK σ)) = false), pC mX9_fail 0 [(2, 2), (0, 2)] σ Q8) (k6 : ∀ (c2 : (vTkK σ) ≠ 19) (c11 : (vWU (vTkK σ)) = false) (v12 : Int) (b12 : v12 = 0 ∨ v12 = 1) (τ12 : pS) (e12 : pLe σ τ12) (q12 : Q8 (some (0, v12)) τ12), Q (some (0, v12)) τ12) (g4 : ∀ (c2 : (vTkK σ) ≠ 19) (c12 : (vWU (vTkK σ)) = true), inR (rd σ a0 3)) (g5 : ∀ (c2 : (vTkK σ) ≠ 19) (c12 : (vWU (vTkK σ)) = true) (c13 : (rd σ a0 3) < 40), inR (rd σ a0 5)) (f13 : ∀ (c2 : (vTkK σ) ≠ 19) (c12 : (vWU (vTkK σ)) = true) (c13 : (rd σ a0 3) < 40) (c15 : (rd σ a0 5) ≠ 0), pC mX9_value 0 [(2, 2)] (wr σ a0 3 ((rd σ a0 3) + 1)) (fun r τ => r = some (1, (vTkV (wr σ a0 3 ((rd σ a0 3) + 1)))) ∧ τ = (wr σ a0 3 ((rd σ a0 3) + 1)))) (f14 : ∀ (c2 : (vTkK σ) ≠ 19) (c12 : (vWU (vTkK σ)) = true) (c13 : (rd σ a0 3) < 40) (c15 : (rd σ a0 5) ≠ 0), pC mX2_put 0 [(2, a0), (0, (vTkK σ)), (0, (vTkV (wr σ a0 3 ((rd σ a0 3) + 1))))] (wr σ a0 3 ((rd σ a0 3) + 1)) Q9) (f15 : ∀ (c2 : (vTkK σ) ≠ 19) (c12 : (vWU (vTkK σ)) = true) (c13 : (rd σ a0 3) < 40) (c15 : (rd σ a0 5) ≠ 0) (τ14 : pS) (e14 : pLe (wr σ a0 3 ((rd σ a0 3) + 1)) τ14) (q14 : Q9 none τ14), pC mX9_step 0 [(2, 2)] τ14 Q10) (k7 : ∀ (c2 : (vTkK σ) ≠ 19) (c12 : (vWU (vTkK σ)) = true) (c13 : (rd σ a0 3) < 40) (c15 : (rd σ a0 5) ≠ 0) (τ14 : pS) (e14 : pLe (wr σ a0 3 ((rd σ a0 3) + 1)) τ14) (q14 : Q9 none τ14) (τ15 : pS) (e15 : pLe τ14 τ15) (q15 : Q10 none τ15), Q (some (0, 1)) τ15) (f16 : ∀ (c2 : (vTkK σ) ≠ 19) (c12 : (vWU (vTkK σ)) = true) (c13 : (rd σ a0 3) < 40) (c16 : (rd σ a0 5) = 0) (c17 : (vTkK σ) = 9), pC mX9_fail 0 [(2, 2), (0, 6)] σ Q11) (k8 : ∀ (c2 : (vTkK σ) ≠ 19) (c12 : (vWU (vTkK σ)) = true) (c13 : (rd σ a0 3) < 40) (c16 : (rd σ a0 5) = 0) (c17 : (vTkK σ) = 9) (v16 : Int) (b16 : v16 = 0 ∨ v16 = 1) (τ16 : pS) (e16 : pLe σ τ16) (q16 : Q11 (some (0, v16)) τ16), Q (some (0, v16)) τ16) (f17 : ∀ (c2 : (vTkK σ) ≠ 19) (c12 : (vWU (vTkK σ)) = true) (c13 : (rd σ a0 3) < 40) (c16 : (rd σ a0 5) = 0) (c18 : (vTkK σ) ≠ 9) (c19 : (vTkK σ) ≠ 8), pC mX9_value 0 [(2, 2)] (wr σ a0 3 ((rd σ a0 3) + 1)) (fun r τ => r = some (1, (vTkV (wr σ a0 3 ((rd σ a0 3) + 1)))) ∧ τ = (wr σ a0 3 ((rd σ a0 3) + 1)))) (f18 : ∀ (c2 : (vTkK σ) ≠ 19) (c12 : (vWU (vTkK σ)) = true) (c13 : (rd σ a0 3) < 40) (c16 : (rd σ a0 5) = 0) (c18 : (vTkK σ) ≠ 9) (c19 : (vTkK σ) ≠ 8), pC mX2_put 0 [(2, a0), (0, (vTkK σ)), (0, (vTkV (wr σ a0 3 ((rd σ a0 3) + 1))))] (wr σ a0 3 ((rd σ a0 3) + 1)) Q12) (f19 : ∀ (c2 : (vTkK σ) ≠ 19) (c12 : (vWU (vTkK σ)) = true) (c13 : (rd σ a0 3) < 40) (c16 : (rd σ a0 5) = 0) (c18 : (vTkK σ) ≠ 9) (c19 : (vTkK σ) ≠ 8) (τ18 : pS) (e18 : pLe (wr σ a0 3 ((rd σ a0 3) + 1)) τ18) (q18 : Q12 none τ18), pC mX9_step 0 [(2, 2)] τ18 Q13) (k9 : ∀ (c2 : (vTkK σ) ≠ 19) (c12 : (vWU (vTkK σ)) = true) (c13 : (rd σ a0 3) < 40) (c16 : (rd σ a0 5) = 0) (c18 : (vTkK σ) ≠ 9) (c19 : (vTkK σ) ≠ 8) (τ18 : pS) (e18 : pLe (wr σ a0 3 ((rd σ a0 3) + 1)) τ18) (q18 : Q12 none τ18) (τ19 : pS) (e19 : pLe τ18 τ19) (q19 : Q13 none τ19), Q (some (0, 1)) τ19) (f20 : ∀ (c2 : (vTkK σ) ≠ 19) (c12 : (vWU (vTkK σ)) = true) (c13 : (rd σ a0 3) < 40) (c16 : (rd σ a0 5) = 0) (c18 : (vTkK σ) ≠ 9) (c20 : (vTkK σ) = 8), pC mX9_fail 0 [(2, 2), (0, 6)] σ Q14) (k10 : ∀ (c2 : (vTkK σ) ≠ 19) (c12 : (vWU (vTkK σ)) = true) (c13 : (rd σ a0 3) < 40) (c16 : (rd σ a0 5) = 0) (c18 : (vTkK σ) ≠ 9) (c20 : (vTkK σ) = 8) (v20 : Int) (b20 : v20 = 0 ∨ v20 = 1) (τ20 : pS) (e20 : pLe σ τ20) (q20 : Q14 (some (0, v20)) τ20), Q (some (0, v20)) τ20) (f21 : ∀ (c2 : (vTkK σ) ≠ 19) (c12 : (vWU (vTkK σ)) = true) (c14 : 40 ≤ (rd σ a0 3)), pC mX9_fail 0 [(2, 2), (0, 2)] σ Q15) (k11 : ∀ (c2 : (vTkK σ) ≠ 19) (c12 : (vWU (vTkK σ)) = true) (c14 : 40 ≤ (rd σ a0 3)) (v21 : Int) (b21 : v21 = 0 ∨ v21 = 1) (τ21 : pS) (e21 : pLe σ τ21) (q21 : Q15 (some (0, v21)) τ21), Q (some (0, v21)) τ21) : pC mX2_readUnit d [(2, a0), (2, 2)] σ Q := by
  show pR mX2_readUnit d 0 [(2, a0), (2, 2), (9, 0)] [] σ Q
  refine pGo (s_aload_n dX2_readUnit_0 rfl (by decide)) ?_
  refine p_callV (As := []) (st := []) (n := 0) (d' := 0) (Q1 := (fun r τ => r = some (0, (vTkK σ)) ∧ τ = σ)) pc9 ok_X9_kind ml_X2_71 im_X9_kind se_X9_kind dX2_readUnit_1 (ob_2 hst) (pargs_of rfl) rfl (Nat.le_of_ble_eq_true rfl) (by omega) f1 (fun r1 τ1 e1 q1 w1 => ?_)
  obtain ⟨rfl, t1⟩ := q1
  rw [t1]
  show pR mX2_readUnit d 4 [(2, a0), (2, 2), (9, 0)] [(0, (vTkK σ))] σ Q
  refine pGoL (ls2 := [(2, a0), (2, 2), (0, (vTkK σ))]) (s_istore_n dX2_readUnit_4 (by decide) rfl) rfl ?_
  refine pGo (s_iload_n dX2_readUnit_5 rfl) ?_
  refine pGo (s_bipush dX2_readUnit_6 (by decide)) ?_
  refine p_iceq (tgt := 18) dX2_readUnit_8 (by decide) g1 (by decide) (fun c1 => ?_) (fun c2 => ?_)
  · refine pGo (s_aload_n dX2_readUnit_18 rfl Ia0.pos) ?_
    refine pGoE (y := (rd σ a0 3)) (s_getI pc2 fl_X2_130 dX2_readUnit_19 Ia0.o0 rfl (by decide)) rfl ?_
    refine pGo (s_bipush dX2_readUnit_22 (by decide)) ?_
    refine p_iclt (tgt := 33) dX2_readUnit_24 (by decide) (g2 c1) (by decide) (fun c3 => ?_) (fun c4 => ?_)
    · refine pGo (s_aload_n dX2_readUnit_33 rfl Ia0.pos) ?_
      refine pGoE (y := (rd σ a0 5)) (s_getI pc2 fl_X2_88 dX2_readUnit_34 Ia0.o0 rfl (by decide)) rfl ?_
      refine p_ifne (tgt := 59) dX2_readUnit_37 (by decide) (g3 c1 c3) (fun c5 => ?_) (fun c6 => ?_)
      · refine pGo (s_aload_n dX2_readUnit_59 rfl Ia0.pos) ?_
        refine pGo (s_dup dX2_readUnit_60 (show (2 : Nat) ≠ 1 by decide)) ?_
        refine pGoE (y := (rd σ a0 3)) (s_getI pc2 fl_X2_130 dX2_readUnit_61 Ia0.o0 rfl (by decide)) rfl ?_
        refine pGo (s_iconst dX2_readUnit_64) ?_
        refine pGo (s_iadd dX2_readUnit_65) ?_
        refine pGo (s_putI pc2 fl_X2_130 dX2_readUnit_66 Ia0.o0 rfl rfl rfl rfl) ?_
        refine pGo (s_aload_n dX2_readUnit_69 rfl Ia0.pos) ?_
        refine pGo (s_iload_n dX2_readUnit_70 rfl) ?_
        refine pGo (s_aload_n dX2_readUnit_71 rfl (by decide)) ?_
        refine p_callV (As := []) (st := [(0, (vTkK σ)), (2, a0)]) (n := 0) (d' := 0) (Q1 := (fun r τ => r = some (1, (vTkV (wr σ a0 3 ((rd σ a0 3) + 1)))) ∧ τ = (wr σ a0 3 ((rd σ a0 3) + 1)))) pc9 ok_X9_value ml_X2_133 im_X9_value se_X9_value dX2_readUnit_72 (ob_2 hst) (pargs_of rfl) rfl (Nat.le_of_ble_eq_true rfl) (by omega) (f2 c1 c3 c5) (fun r2 τ2 e2 q2 w2 => ?_)
        obtain ⟨rfl, t2⟩ := q2
        rw [t2]
        show pR mX2_readUnit d 75 [(2, a0), (2, 2), (0, (vTkK σ))] [(1, (vTkV (wr σ a0 3 ((rd σ a0 3) + 1)))), (0, (vTkK σ)), (2, a0)] (wr σ a0 3 ((rd σ a0 3) + 1)) Q
        refine pGo (s_l2i dX2_readUnit_75) ?_
        refine p_callV (As := [(0, (vTkK σ)), (0, (vTkV (wr σ a0 3 ((rd σ a0 3) + 1))))]) (st := []) (n := 2) (d' := 0) (Q1 := Q1) pc2 ok_X2_put ml_X2_108 im_X2_put se_X2_put dX2_readUnit_76 Ia0.o0 (pargs_of rfl) rfl (Nat.le_of_ble_eq_true rfl) (by omega) (f3 c1 c3 c5) (fun r3 τ3 e3 q3 w3 => ?_)
        obtain rfl : r3 = none := w3
        have S3 : Stat τ3 := (Stat.le (σ := (wr σ a0 3 ((rd σ a0 3) + 1))) hst e3)
        have J3_0 : Inst2 τ3 a0 na0 := Inst2.le (σ := (wr σ a0 3 ((rd σ a0 3) + 1))) Ia0 e3
        show pR mX2_readUnit d 79 [(2, a0), (2, 2), (0, (vTkK σ))] [] τ3 Q
        refine pGo (s_aload_n dX2_readUnit_79 rfl (by decide)) ?_
        refine p_callV (As := []) (st := []) (n := 0) (d' := 0) (Q1 := Q2) pc9 ok_X9_step ml_X2_95 im_X9_step se_X9_step dX2_readUnit_80 (ob_2 S3) (pargs_of rfl) rfl (Nat.le_of_ble_eq_true rfl) (by omega) (f4 c1 c3 c5 τ3 e3 q3) (fun r4 τ4 e4 q4 w4 => ?_)
        obtain rfl : r4 = none := w4
        have S4 : Stat τ4 := (Stat.le (σ := τ3) S3 e4)
        have J4_0 : Inst2 τ4 a0 na0 := Inst2.le (σ := τ3) J3_0 e4
        show pR mX2_readUnit d 83 [(2, a0), (2, 2), (0, (vTkK σ))] [] τ4 Q
        refine pGo (s_iconst dX2_readUnit_83) ?_
        exact pEnd (r := (some (0, 1))) dX2_readUnit_84 (Or.inr rfl) (k1 c1 c3 c5 τ3 e3 q3 τ4 e4 q4)
      · refine pGo (s_iload_n dX2_readUnit_40 rfl) ?_
        refine pGo (s_bipush dX2_readUnit_41 (by decide)) ?_
        refine p_iceq (tgt := 52) dX2_readUnit_43 (by decide) g1 (by decide) (fun c7 => ?_) (fun c8 => ?_)
        · refine pGo (s_aload_n dX2_readUnit_52 rfl (by decide)) ?_
          refine pGo (s_bipush dX2_readUnit_53 (by decide)) ?_
          refine p_callV (As := [(0, 6)]) (st := []) (n := 1) (d' := 0) (Q1 := Q3) pc9 ok_X9_fail ml_X2_92 im_X9_fail se_X9_fail dX2_readUnit_55 (ob_2 hst) (pargs_of rfl) rfl (Nat.le_of_ble_eq_true rfl) (by omega) (f5 c1 c3 c6 c7) (fun r5 τ5 e5 q5 w5 => ?_)
          obtain ⟨v5, rfl, b5⟩ := pRok_z w5
          have S5 : Stat τ5 := (Stat.le (σ := σ) hst e5)
          have J5_0 : Inst2 τ5 a0 na0 := Inst2.le (σ := σ) Ia0 e5
          show pR mX2_readUnit d 58 [(2, a0), (2, 2), (0, (vTkK σ))] [(0, v5)] τ5 Q
          exact pEnd (r := (some (0, v5))) dX2_readUnit_58 (pRok_01 b5) (k2 c1 c3 c6 c7 v5 b5 τ5 e5 q5)
        · refine pGo (s_iload_n dX2_readUnit_46 rfl) ?_
          refine pGo (s_bipush dX2_readUnit_47 (by decide)) ?_
          refine p_icne (tgt := 59) dX2_readUnit_49 (by decide) g1 (by decide) (fun c9 => ?_) (fun c10 => ?_)
          · refine pGo (s_aload_n dX2_readUnit_59 rfl Ia0.pos) ?_
            refine pGo (s_dup dX2_readUnit_60 (show (2 : Nat) ≠ 1 by decide)) ?_
            refine pGoE (y := (rd σ a0 3)) (s_getI pc2 fl_X2_130 dX2_readUnit_61 Ia0.o0 rfl (by decide)) rfl ?_
            refine pGo (s_iconst dX2_readUnit_64) ?_
            refine pGo (s_iadd dX2_readUnit_65) ?_
            refine pGo (s_putI pc2 fl_X2_130 dX2_readUnit_66 Ia0.o0 rfl rfl rfl rfl) ?_
            refine pGo (s_aload_n dX2_readUnit_69 rfl Ia0.pos) ?_
            refine pGo (s_iload_n dX2_readUnit_70 rfl) ?_
            refine pGo (s_aload_n dX2_readUnit_71 rfl (by decide)) ?_
            refine p_callV (As := []) (st := [(0, (vTkK σ)), (2, a0)]) (n := 0) (d' := 0) (Q1 := (fun r τ => r = some (1, (vTkV (wr σ a0 3 ((rd σ a0 3) + 1)))) ∧ τ = (wr σ a0 3 ((rd σ a0 3) + 1)))) pc9 ok_X9_value ml_X2_133 im_X9_value se_X9_value dX2_readUnit_72 (ob_2 hst) (pargs_of rfl) rfl (Nat.le_of_ble_eq_true rfl) (by omega) (f6 c1 c3 c6 c8 c9) (fun r6 τ6 e6 q6 w6 => ?_)
            obtain ⟨rfl, t6⟩ := q6
            rw [t6]
            show pR mX2_readUnit d 75 [(2, a0), (2, 2), (0, (vTkK σ))] [(1, (vTkV (wr σ a0 3 ((rd σ a0 3) + 1)))), (0, (vTkK σ)), (2, a0)] (wr σ a0 3 ((rd σ a0 3) + 1)) Q
            refine pGo (s_l2i dX2_readUnit_75) ?_
            refine p_callV (As := [(0, (vTkK σ)), (0, (vTkV (wr σ a0 3 ((rd σ a0 3) + 1))))]) (st := []) (n := 2) (d' := 0) (Q1 := Q4) pc2 ok_X2_put ml_X2_108 im_X2_put se_X2_put dX2_readUnit_76 Ia0.o0 (pargs_of rfl) rfl (Nat.le_of_ble_eq_true rfl) (by omega) (f7 c1 c3 c6 c8 c9) (fun r7 τ7 e7 q7 w7 => ?_)
            obtain rfl : r7 = none := w7
            have S7 : Stat τ7 := (Stat.le (σ := (wr σ a0 3 ((rd σ a0 3) + 1))) hst e7)
            have J7_0 : Inst2 τ7 a0 na0 := Inst2.le (σ := (wr σ a0 3 ((rd σ a0 3) + 1))) Ia0 e7
            show pR mX2_readUnit d 79 [(2, a0), (2, 2), (0, (vTkK σ))] [] τ7 Q
            refine pGo (s_aload_n dX2_readUnit_79 rfl (by decide)) ?_
            refine p_callV (As := []) (st := []) (n := 0) (d' := 0) (Q1 := Q5) pc9 ok_X9_step ml_X2_95 im_X9_step se_X9_step dX2_readUnit_80 (ob_2 S7) (pargs_of rfl) rfl (Nat.le_of_ble_eq_true rfl) (by omega) (f8 c1 c3 c6 c8 c9 τ7 e7 q7) (fun r8 τ8 e8 q8 w8 => ?_)
            obtain rfl : r8 = none := w8
            have S8 : Stat τ8 := (Stat.le (σ := τ7) S7 e8)
            have J8_0 : Inst2 τ8 a0 na0 := Inst2.le (σ := τ7) J7_0 e8
            show pR mX2_readUnit d 83 [(2, a0), (2, 2), (0, (vTkK σ))] [] τ8 Q
            refine pGo (s_iconst dX2_readUnit_83) ?_
            exact pEnd (r := (some (0, 1))) dX2_readUnit_84 (Or.inr rfl) (k3 c1 c3 c6 c8 c9 τ7 e7 q7 τ8 e8 q8)
          · refine pGo (s_aload_n dX2_readUnit_52 rfl (by decide)) ?_
            refine pGo (s_bipush dX2_readUnit_53 (by decide)) ?_
            refine p_callV (As := [(0, 6)]) (st := []) (n := 1) (d' := 0) (Q1 := Q6) pc9 ok_X9_fail ml_X2_92 im_X9_fail se_X9_fail dX2_readUnit_55 (ob_2 hst) (pargs_of rfl) rfl (Nat.le_of_ble_eq_true rfl) (by omega) (f9 c1 c3 c6 c8 c10) (fun r9 τ9 e9 q9 w9 => ?_)
            obtain ⟨v9, rfl, b9⟩ := pRok_z w9
            have S9 : Stat τ9 := (Stat.le (σ := σ) hst e9)
            have J9_0 : Inst2 τ9 a0 na0 := Inst2.le (σ := σ) Ia0 e9
            show pR mX2_readUnit d 58 [(2, a0), (2, 2), (0, (vTkK σ))] [(0, v9)] τ9 Q
            exact pEnd (r := (some (0, v9))) dX2_readUnit_58 (pRok_01 b9) (k4 c1 c3 c6 c8 c10 v9 b9 τ9 e9 q9)
    · refine pGo (s_aload_n dX2_readUnit_27 rfl (by decide)) ?_
      refine pGo (s_iconst dX2_readUnit_28) ?_
      refine p_callV (As := [(0, 2)]) (st := []) (n := 1) (d' := 0) (Q1 := Q7) pc9 ok_X9_fail ml_X2_92 im_X9_fail se_X9_fail dX2_readUnit_29 (ob_2 hst) (pargs_of rfl) rfl (Nat.le_of_ble_eq_true rfl) (by omega) (f10 c1 c4) (fun r10 τ10 e10 q10 w10 => ?_)
      obtain ⟨v10, rfl, b10⟩ := pRok_z w10
      have S10 : Stat τ10 := (Stat.le (σ := σ) hst e10)
      have J10_0 : Inst2 τ10 a0 na0 := Inst2.le (σ := σ) Ia0 e10
      show pR mX2_readUnit d 32 [(2, a0), (2, 2), (0, (vTkK σ))] [(0, v10)] τ10 Q
      exact pEnd (r := (some (0, v10))) dX2_readUnit_32 (pRok_01 b10) (k5 c1 c4 v10 b10 τ10 e10 q10)
  · refine pGo (s_iload_n dX2_readUnit_11 rfl) ?_
    refine p_callS (As := [(0, (vTkK σ))]) (st := []) (n := 1) (d' := 0) (Q1 := (fun r τ => r = some (0, b2i (vWU (vTkK σ))) ∧ τ = σ)) ok_X2_isWordUnit ml_X2_33 sm_X2_isWordUnit dX2_readUnit_12 (pargs_of rfl) rfl (Nat.le_of_ble_eq_true rfl) (by omega) (f11 c2) (fun r11 τ11 e11 q11 w11 => ?_)
    obtain ⟨rfl, t11⟩ := q11
    rw [t11]
    show pR mX2_readUnit d 15 [(2, a0), (2, 2), (0, (vTkK σ))] [(0, (b2i (vWU (vTkK σ))))] σ Q
    refine p_ifeqB (tgt := 27) dX2_readUnit_15 (by decide) (fun c11 => ?_) (fun c12 => ?_)
    · refine pGo (s_aload_n dX2_readUnit_27 rfl (by decide)) ?_
      refine pGo (s_iconst dX2_readUnit_28) ?_
      refine p_callV (As := [(0, 2)]) (st := []) (n := 1) (d' := 0) (Q1 := Q8) pc9 ok_X9_fail ml_X2_92 im_X9_fail se_X9_fail dX2_readUnit_29 (ob_2 hst) (pargs_of rfl) rfl (Nat.le_of_ble_eq_true rfl) (by omega) (f12 c2 c11) (fun r12 τ12 e12 q12 w12 => ?_)
      obtain ⟨v12, rfl, b12⟩ := pRok_z w12
      have S12 : Stat τ12 := (Stat.le (σ := σ) hst e12)
      have J12_0 : Inst2 τ12 a0 na0 := Inst2.le (σ := σ) Ia0 e12
      show pR mX2_readUnit d 32 [(2, a0), (2, 2), (0, (vTkK σ))] [(0, v12)] τ12 Q
      exact pEnd (r := (some (0, v12))) dX2_readUnit_32 (pRok_01 b12) (k6 c2 c11 v12 b12 τ12 e12 q12)
    · refine pGo (s_aload_n dX2_readUnit_18 rfl Ia0.pos) ?_
      refine pGoE (y := (rd σ a0 3)) (s_getI pc2 fl_X2_130 dX2_readUnit_19 Ia0.o0 rfl (by decide)) rfl ?_
      refine pGo (s_bipush dX2_readUnit_22 (by decide)) ?_
      refine p_iclt (tgt := 33) dX2_readUnit_24 (by decide) (g4 c2 c12) (by decide) (fun c13 => ?_) (fun c14 => ?_)
      · refine pGo (s_aload_n dX2_readUnit_33 rfl Ia0.pos) ?_
        refine pGoE (y := (rd σ a0 5)) (s_getI pc2 fl_X2_88 dX2_readUnit_34 Ia0.o0 rfl (by decide)) rfl ?_
        refine p_ifne (tgt := 59) dX2_readUnit_37 (by decide) (g5 c2 c12 c13) (fun c15 => ?_) (fun c16 => ?_)
        · refine pGo (s_aload_n dX2_readUnit_59 rfl Ia0.pos) ?_
          refine pGo (s_dup dX2_readUnit_60 (show (2 : Nat) ≠ 1 by decide)) ?_
          refine pGoE (y := (rd σ a0 3)) (s_getI pc2 fl_X2_130 dX2_readUnit_61 Ia0.o0 rfl (by decide)) rfl ?_
          refine pGo (s_iconst dX2_readUnit_64) ?_
          refine pGo (s_iadd dX2_readUnit_65) ?_
          refine pGo (s_putI pc2 fl_X2_130 dX2_readUnit_66 Ia0.o0 rfl rfl rfl rfl) ?_
          refine pGo (s_aload_n dX2_readUnit_69 rfl Ia0.pos) ?_
          refine pGo (s_iload_n dX2_readUnit_70 rfl) ?_
          refine pGo (s_aload_n dX2_readUnit_71 rfl (by decide)) ?_
          refine p_callV (As := []) (st := [(0, (vTkK σ)), (2, a0)]) (n := 0) (d' := 0) (Q1 := (fun r τ => r = some (1, (vTkV (wr σ a0 3 ((rd σ a0 3) + 1)))) ∧ τ = (wr σ a0 3 ((rd σ a0 3) + 1)))) pc9 ok_X9_value ml_X2_133 im_X9_value se_X9_value dX2_readUnit_72 (ob_2 hst) (pargs_of rfl) rfl (Nat.le_of_ble_eq_true rfl) (by omega) (f13 c2 c12 c13 c15) (fun r13 τ13 e13 q13 w13 => ?_)
          obtain ⟨rfl, t13⟩ := q13
          rw [t13]
          show pR mX2_readUnit d 75 [(2, a0), (2, 2), (0, (vTkK σ))] [(1, (vTkV (wr σ a0 3 ((rd σ a0 3) + 1)))), (0, (vTkK σ)), (2, a0)] (wr σ a0 3 ((rd σ a0 3) + 1)) Q
          refine pGo (s_l2i dX2_readUnit_75) ?_
          refine p_callV (As := [(0, (vTkK σ)), (0, (vTkV (wr σ a0 3 ((rd σ a0 3) + 1))))]) (st := []) (n := 2) (d' := 0) (Q1 := Q9) pc2 ok_X2_put ml_X2_108 im_X2_put se_X2_put dX2_readUnit_76 Ia0.o0 (pargs_of rfl) rfl (Nat.le_of_ble_eq_true rfl) (by omega) (f14 c2 c12 c13 c15) (fun r14 τ14 e14 q14 w14 => ?_)
          obtain rfl : r14 = none := w14
          have S14 : Stat τ14 := (Stat.le (σ := (wr σ a0 3 ((rd σ a0 3) + 1))) hst e14)
          have J14_0 : Inst2 τ14 a0 na0 := Inst2.le (σ := (wr σ a0 3 ((rd σ a0 3) + 1))) Ia0 e14
          show pR mX2_readUnit d 79 [(2, a0), (2, 2), (0, (vTkK σ))] [] τ14 Q
          refine pGo (s_aload_n dX2_readUnit_79 rfl (by decide)) ?_
          refine p_callV (As := []) (st := []) (n := 0) (d' := 0) (Q1 := Q10) pc9 ok_X9_step ml_X2_95 im_X9_step se_X9_step dX2_readUnit_80 (ob_2 S14) (pargs_of rfl) rfl (Nat.le_of_ble_eq_true rfl) (by omega) (f15 c2 c12 c13 c15 τ14 e14 q14) (fun r15 τ15 e15 q15 w15 => ?_)
          obtain rfl : r15 = none := w15
          have S15 : Stat τ15 := (Stat.le (σ := τ14) S14 e15)
          have J15_0 : Inst2 τ15 a0 na0 := Inst2.le (σ := τ14) J14_0 e15
          show pR mX2_readUnit d 83 [(2, a0), (2, 2), (0, (vTkK σ))] [] τ15 Q
          refine pGo (s_iconst dX2_readUnit_83) ?_
          exact pEnd (r := (some (0, 1))) dX2_readUnit_84 (Or.inr rfl) (k7 c2 c12 c13 c15 τ14 e14 q14 τ15 e15 q15)
        · refine pGo (s_iload_n dX2_readUnit_40 rfl) ?_
          refine pGo (s_bipush dX2_readUnit_41 (by decide)) ?_
          refine p_iceq (tgt := 52) dX2_readUnit_43 (by decide) g1 (by decide) (fun c17 => ?_) (fun c18 => ?_)
          · refine pGo (s_aload_n dX2_readUnit_52 rfl (by decide)) ?_
            refine pGo (s_bipush dX2_readUnit_53 (by decide)) ?_
            refine p_callV (As := [(0, 6)]) (st := []) (n := 1) (d' := 0) (Q1 := Q11) pc9 ok_X9_fail ml_X2_92 im_X9_fail se_X9_fail dX2_readUnit_55 (ob_2 hst) (pargs_of rfl) rfl (Nat.le_of_ble_eq_true rfl) (by omega) (f16 c2 c12 c13 c16 c17) (fun r16 τ16 e16 q16 w16 => ?_)
            obtain ⟨v16, rfl, b16⟩ := pRok_z w16
            have S16 : Stat τ16 := (Stat.le (σ := σ) hst e16)
            have J16_0 : Inst2 τ16 a0 na0 := Inst2.le (σ := σ) Ia0 e16
            show pR mX2_readUnit d 58 [(2, a0), (2, 2), (0, (vTkK σ))] [(0, v16)] τ16 Q
            exact pEnd (r := (some (0, v16))) dX2_readUnit_58 (pRok_01 b16) (k8 c2 c12 c13 c16 c17 v16 b16 τ16 e16 q16)
          · refine pGo (s_iload_n dX2_readUnit_46 rfl) ?_
            refine pGo (s_bipush dX2_readUnit_47 (by decide)) ?_
            refine p_icne (tgt := 59) dX2_readUnit_49 (by decide) g1 (by decide) (fun c19 => ?_) (fun c20 => ?_)
            · refine pGo (s_aload_n dX2_readUnit_59 rfl Ia0.pos) ?_
              refine pGo (s_dup dX2_readUnit_60 (show (2 : Nat) ≠ 1 by decide)) ?_
              refine pGoE (y := (rd σ a0 3)) (s_getI pc2 fl_X2_130 dX2_readUnit_61 Ia0.o0 rfl (by decide)) rfl ?_
              refine pGo (s_iconst dX2_readUnit_64) ?_
              refine pGo (s_iadd dX2_readUnit_65) ?_
              refine pGo (s_putI pc2 fl_X2_130 dX2_readUnit_66 Ia0.o0 rfl rfl rfl rfl) ?_
              refine pGo (s_aload_n dX2_readUnit_69 rfl Ia0.pos) ?_
              refine pGo (s_iload_n dX2_readUnit_70 rfl) ?_
              refine pGo (s_aload_n dX2_readUnit_71 rfl (by decide)) ?_
              refine p_callV (As := []) (st := [(0, (vTkK σ)), (2, a0)]) (n := 0) (d' := 0) (Q1 := (fun r τ => r = some (1, (vTkV (wr σ a0 3 ((rd σ a0 3) + 1)))) ∧ τ = (wr σ a0 3 ((rd σ a0 3) + 1)))) pc9 ok_X9_value ml_X2_133 im_X9_value se_X9_value dX2_readUnit_72 (ob_2 hst) (pargs_of rfl) rfl (Nat.le_of_ble_eq_true rfl) (by omega) (f17 c2 c12 c13 c16 c18 c19) (fun r17 τ17 e17 q17 w17 => ?_)
              obtain ⟨rfl, t17⟩ := q17
              rw [t17]
              show pR mX2_readUnit d 75 [(2, a0), (2, 2), (0, (vTkK σ))] [(1, (vTkV (wr σ a0 3 ((rd σ a0 3) + 1)))), (0, (vTkK σ)), (2, a0)] (wr σ a0 3 ((rd σ a0 3) + 1)) Q
              refine pGo (s_l2i dX2_readUnit_75) ?_
              refine p_callV (As := [(0, (vTkK σ)), (0, (vTkV (wr σ a0 3 ((rd σ a0 3) + 1))))]) (st := []) (n := 2) (d' := 0) (Q1 := Q12) pc2 ok_X2_put ml_X2_108 im_X2_put se_X2_put dX2_readUnit_76 Ia0.o0 (pargs_of rfl) rfl (Nat.le_of_ble_eq_true rfl) (by omega) (f18 c2 c12 c13 c16 c18 c19) (fun r18 τ18 e18 q18 w18 => ?_)
              obtain rfl : r18 = none := w18
              have S18 : Stat τ18 := (Stat.le (σ := (wr σ a0 3 ((rd σ a0 3) + 1))) hst e18)
              have J18_0 : Inst2 τ18 a0 na0 := Inst2.le (σ := (wr σ a0 3 ((rd σ a0 3) + 1))) Ia0 e18
              show pR mX2_readUnit d 79 [(2, a0), (2, 2), (0, (vTkK σ))] [] τ18 Q
              refine pGo (s_aload_n dX2_readUnit_79 rfl (by decide)) ?_
              refine p_callV (As := []) (st := []) (n := 0) (d' := 0) (Q1 := Q13) pc9 ok_X9_step ml_X2_95 im_X9_step se_X9_step dX2_readUnit_80 (ob_2 S18) (pargs_of rfl) rfl (Nat.le_of_ble_eq_true rfl) (by omega) (f19 c2 c12 c13 c16 c18 c19 τ18 e18 q18) (fun r19 τ19 e19 q19 w19 => ?_)
              obtain rfl : r19 = none := w19
              have S19 : Stat τ19 := (Stat.le (σ := τ18) S18 e19)
              have J19_0 : Inst2 τ19 a0 na0 := Inst2.le (σ := τ18) J18_0 e19
              show pR mX2_readUnit d 83 [(2, a0), (2, 2), (0, (vTkK σ))] [] τ19 Q
              refine pGo (s_iconst dX2_readUnit_83) ?_
              exact pEnd (r := (some (0, 1))) dX2_readUnit_84 (Or.inr rfl) (k9 c2 c12 c13 c16 c18 c19 τ18 e18 q18 τ19 e19 q19)
            · refine pGo (s_aload_n dX2_readUnit_52 rfl (by decide)) ?_
              refine pGo (s_bipush dX2_readUnit_53 (by decide)) ?_
              refine p_callV (As := [(0, 6)]) (st := []) (n := 1) (d' := 0) (Q1 := Q14) pc9 ok_X9_fail ml_X2_92 im_X9_fail se_X9_fail dX2_readUnit_55 (ob_2 hst) (pargs_of rfl) rfl (Nat.le_of_ble_eq_true rfl) (by omega) (f20 c2 c12 c13 c16 c18 c20) (fun r20 τ20 e20 q20 w20 => ?_)
              obtain ⟨v20, rfl, b20⟩ := pRok_z w20
              have S20 : Stat τ20 := (Stat.le (σ := σ) hst e20)
              have J20_0 : Inst2 τ20 a0 na0 := Inst2.le (σ := σ) Ia0 e20
              show pR mX2_readUnit d 58 [(2, a0), (2, 2), (0, (vTkK σ))] [(0, v20)] τ20 Q
              exact pEnd (r := (some (0, v20))) dX2_readUnit_58 (pRok_01 b20) (k10 c2 c12 c13 c16 c18 c20 v20 b20 τ20 e20 q20)
      · refine pGo (s_aload_n dX2_readUnit_27 rfl (by decide)) ?_
        refine pGo (s_iconst dX2_readUnit_28) ?_
        refine p_callV (As := [(0, 2)]) (st := []) (n := 1) (d' := 0) (Q1 := Q15) pc9 ok_X9_fail ml_X2_92 im_X9_fail se_X9_fail dX2_readUnit_29 (ob_2 hst) (pargs_of rfl) rfl (Nat.le_of_ble_eq_true rfl) (by omega) (f21 c2 c12 c14) (fun r21 τ21 e21 q21 w21 => ?_)
        obtain ⟨v21, rfl, b21⟩ := pRok_z w21
        have S21 : Stat τ21 := (Stat.le (σ := σ) hst e21)
        have J21_0 : Inst2 τ21 a0 na0 := Inst2.le (σ := σ) Ia0 e21
        show pR mX2_readUnit d 32 [(2, a0), (2, 2), (0, (vTkK σ))] [(0, v21)] τ21 Q
        exact pEnd (r := (some (0, v21))) dX2_readUnit_32 (pRok_01 b21) (k11 c2 c12 c14 v21 b21 τ21 e21 q21)
set_option maxRecDepth 100000 in
theorem g_X2_readSum_0 {d : Nat} {σ : pS} {Q : Option pV → pS → Prop} {Q1 : Option pV → pS → Prop} (hd : 2 ≤ d) (hst : Stat σ) (a0 : Int) {na0 : Nat} (Ia0 : Inst2 σ a0 na0) (f1 : pC mX2_readUnit 1 [(2, a0), (2, 2)] σ Q1) (k1 : ∀ (v1 : Int) (b1 : v1 = 0 ∨ v1 = 1) (τ1 : pS) (e1 : pLe σ τ1) (q1 : Q1 (some (0, v1)) τ1), pR mX2_readSum d 8 [(2, a0), (2, 2), (0, v1), (0, 0), (9, 0)] [] τ1 Q) : pC mX2_readSum d [(2, a0), (2, 2)] σ Q := by
  show pR mX2_readSum d 0 [(2, a0), (2, 2), (9, 0), (9, 0), (9, 0)] [] σ Q
  refine pGo (s_aload_n dX2_readSum_0 rfl Ia0.pos) ?_
  refine pGo (s_aload_n dX2_readSum_1 rfl (by decide)) ?_
  refine p_callV (As := [(2, 2)]) (st := []) (n := 1) (d' := 1) (Q1 := Q1) pc2 ok_X2_readUnit ml_X2_124 im_X2_readUnit se_X2_readUnit dX2_readSum_2 Ia0.o0 (pargs_of rfl) rfl (Nat.le_of_ble_eq_true rfl) (by omega) f1 (fun r1 τ1 e1 q1 w1 => ?_)
  obtain ⟨v1, rfl, b1⟩ := pRok_z w1
  have S1 : Stat τ1 := (Stat.le (σ := σ) hst e1)
  have J1_0 : Inst2 τ1 a0 na0 := Inst2.le (σ := σ) Ia0 e1
  show pR mX2_readSum d 5 [(2, a0), (2, 2), (9, 0), (9, 0), (9, 0)] [(0, v1)] τ1 Q
  refine pGoL (ls2 := [(2, a0), (2, 2), (0, v1), (9, 0), (9, 0)]) (s_istore_n dX2_readSum_5 (by decide) rfl) rfl ?_
  refine pGo (s_iconst dX2_readSum_6) ?_
  refine pGoL (ls2 := [(2, a0), (2, 2), (0, v1), (0, 0), (9, 0)]) (s_istore_n dX2_readSum_7 (by decide) rfl) rfl ?_
  exact (k1 v1 b1 τ1 e1 q1)
set_option maxRecDepth 100000 in
theorem g_X2_readSum_8 {d : Nat} {σ : pS} {Q : Option pV → pS → Prop} {Q1 : Option pV → pS → Prop} {Q2 : Option pV → pS → Prop} {Q3 : Option pV → pS → Prop} (hd : 2 ≤ d) (hst : Stat σ) (x0 : Int) (x2 : Int) (x3 : Int) (u4 : pV) {nx0 : Nat} (Ix0 : Inst2 σ x0 nx0) (hu4 : u4.1 ≠ 1) (g1 : inR x3) (k1 : ∀ (c1 : 500 ≤ x3), Q (some (0, x2)) σ) (g2 : ∀ (c1 : 500 ≤ x3), x2 = 0 ∨ x2 = 1) (g3 : ∀ (c2 : x3 < 500), inR x2) (k2 : ∀ (c2 : x3 < 500) (c3 : x2 = 0), Q (some (0, x2)) σ) (g4 : ∀ (c2 : x3 < 500) (c3 : x2 = 0), x2 = 0 ∨ x2 = 1) (f1 : ∀ (c2 : x3 < 500) (c4 : x2 ≠ 0), pC mX9_kind 0 [(2, 2)] σ (fun r τ => r = some (0, (vTkK σ)) ∧ τ = σ)) (f2 : ∀ (c2 : x3 < 500) (c4 : x2 ≠ 0), pC mX2_isPlusOrMinus 0 [(0, (vTkK σ))] σ (fun r τ => r = some (0, b2i (vPM (vTkK σ))) ∧ τ = σ)) (k3 : ∀ (c2 : x3 < 500) (c4 : x2 ≠ 0) (c5 : (vPM (vTkK σ)) = false), Q (some (0, x2)) σ) (g5 : ∀ (c2 : x3 < 500) (c4 : x2 ≠ 0) (c5 : (vPM (vTkK σ)) = false), x2 = 0 ∨ x2 = 1) (f3 : ∀ (c2 : x3 < 500) (c4 : x2 ≠ 0) (c6 : (vPM (vTkK σ)) = true), pC mX9_kind 0 [(2, 2)] σ (fun r τ => r = some (0, (vTkK σ)) ∧ τ = σ)) (f4 : ∀ (c2 : x3 < 500) (c4 : x2 ≠ 0) (c6 : (vPM (vTkK σ)) = true), pC mX9_step 0 [(2, 2)] σ Q1) (f5 : ∀ (c2 : x3 < 500) (c4 : x2 ≠ 0) (c6 : (vPM (vTkK σ)) = true) (τ4 : pS) (e4 : pLe σ τ4) (q4 : Q1 none τ4), pC mX2_readUnit 1 [(2, x0), (2, 2)] τ4 Q2) (f6 : ∀ (c2 : x3 < 500) (c4 : x2 ≠ 0) (c6 : (vPM (vTkK σ)) = true) (τ4 : pS) (e4 : pLe σ τ4) (q4 : Q1 none τ4) (v5 : Int) (b5 : v5 = 0 ∨ v5 = 1) (τ5 : pS) (e5 : pLe τ4 τ5) (q5 : Q2 (some (0, v5)) τ5), pC mX2_put 0 [(2, x0), (0, (vTkK σ)), (0, 0)] τ5 Q3) (k4 : ∀ (c2 : x3 < 500) (c4 : x2 ≠ 0) (c6 : (vPM (vTkK σ)) = true) (τ4 : pS) (e4 : pLe σ τ4) (q4 : Q1 none τ4) (v5 : Int) (b5 : v5 = 0 ∨ v5 = 1) (τ5 : pS) (e5 : pLe τ4 τ5) (q5 : Q2 (some (0, v5)) τ5) (τ6 : pS) (e6 : pLe τ5 τ6) (q6 : Q3 none τ6), pR mX2_readSum d 8 [(2, x0), (2, 2), (0, v5), (0, (x3 + 1)), (0, (vTkK σ))] [] τ6 Q) : pR mX2_readSum d 8 [(2, x0), (2, 2), (0, x2), (0, x3), u4] [] σ Q := by
  refine pGo (s_iload_n dX2_readSum_8 rfl) ?_
  refine pGo (s_sipush dX2_readSum_9 (by decide)) ?_
  refine p_icge (tgt := 58) dX2_readSum_12 (by decide) g1 (by decide) (fun c1 => ?_) (fun c2 => ?_)
  · refine pGo (s_iload_n dX2_readSum_58 rfl) ?_
    exact pEnd (r := (some (0, x2))) dX2_readSum_59 (pRok_01 (g2 c1)) (k1 c1)
  · refine pGo (s_iload_n dX2_readSum_15 rfl) ?_
    refine p_ifeq (tgt := 58) dX2_readSum_16 (by decide) (g3 c2) (fun c3 => ?_) (fun c4 => ?_)
    · refine pGo (s_iload_n dX2_readSum_58 rfl) ?_
      exact pEnd (r := (some (0, x2))) dX2_readSum_59 (pRok_01 (g4 c2 c3)) (k2 c2 c3)
    · refine pGo (s_aload_n dX2_readSum_19 rfl (by decide)) ?_
      refine p_callV (As := []) (st := []) (n := 0) (d' := 0) (Q1 := (fun r τ => r = some (0, (vTkK σ)) ∧ τ = σ)) pc9 ok_X9_kind ml_X2_71 im_X9_kind se_X9_kind dX2_readSum_20 (ob_2 hst) (pargs_of rfl) rfl (Nat.le_of_ble_eq_true rfl) (by omega) (f1 c2 c4) (fun r1 τ1 e1 q1 w1 => ?_)
      obtain ⟨rfl, t1⟩ := q1
      rw [t1]
      show pR mX2_readSum d 23 [(2, x0), (2, 2), (0, x2), (0, x3), u4] [(0, (vTkK σ))] σ Q
      refine p_callS (As := [(0, (vTkK σ))]) (st := []) (n := 1) (d' := 0) (Q1 := (fun r τ => r = some (0, b2i (vPM (vTkK σ))) ∧ τ = σ)) ok_X2_isPlusOrMinus ml_X2_127 sm_X2_isPlusOrMinus dX2_readSum_23 (pargs_of rfl) rfl (Nat.le_of_ble_eq_true rfl) (by omega) (f2 c2 c4) (fun r2 τ2 e2 q2 w2 => ?_)
      obtain ⟨rfl, t2⟩ := q2
      rw [t2]
      show pR mX2_readSum d 26 [(2, x0), (2, 2), (0, x2), (0, x3), u4] [(0, (b2i (vPM (vTkK σ))))] σ Q
      refine p_ifeqB (tgt := 58) dX2_readSum_26 (by decide) (fun c5 => ?_) (fun c6 => ?_)
      · refine pGo (s_iload_n dX2_readSum_58 rfl) ?_
        exact pEnd (r := (some (0, x2))) dX2_readSum_59 (pRok_01 (g5 c2 c4 c5)) (k3 c2 c4 c5)
      · refine pGo (s_aload_n dX2_readSum_29 rfl (by decide)) ?_
        refine p_callV (As := []) (st := []) (n := 0) (d' := 0) (Q1 := (fun r τ => r = some (0, (vTkK σ)) ∧ τ = σ)) pc9 ok_X9_kind ml_X2_71 im_X9_kind se_X9_kind dX2_readSum_30 (ob_2 hst) (pargs_of rfl) rfl (Nat.le_of_ble_eq_true rfl) (by omega) (f3 c2 c4 c6) (fun r3 τ3 e3 q3 w3 => ?_)
        obtain ⟨rfl, t3⟩ := q3
        rw [t3]
        show pR mX2_readSum d 33 [(2, x0), (2, 2), (0, x2), (0, x3), u4] [(0, (vTkK σ))] σ Q
        refine pGoL (ls2 := [(2, x0), (2, 2), (0, x2), (0, x3), (0, (vTkK σ))]) (s_istore dX2_readSum_33 (by decide) rfl) rfl ?_
        refine pGo (s_aload_n dX2_readSum_35 rfl (by decide)) ?_
        refine p_callV (As := []) (st := []) (n := 0) (d' := 0) (Q1 := Q1) pc9 ok_X9_step ml_X2_95 im_X9_step se_X9_step dX2_readSum_36 (ob_2 hst) (pargs_of rfl) rfl (Nat.le_of_ble_eq_true rfl) (by omega) (f4 c2 c4 c6) (fun r4 τ4 e4 q4 w4 => ?_)
        obtain rfl : r4 = none := w4
        have S4 : Stat τ4 := (Stat.le (σ := σ) hst e4)
        have J4_0 : Inst2 τ4 x0 nx0 := Inst2.le (σ := σ) Ix0 e4
        show pR mX2_readSum d 39 [(2, x0), (2, 2), (0, x2), (0, x3), (0, (vTkK σ))] [] τ4 Q
        refine pGo (s_aload_n dX2_readSum_39 rfl J4_0.pos) ?_
        refine pGo (s_aload_n dX2_readSum_40 rfl (by decide)) ?_
        refine p_callV (As := [(2, 2)]) (st := []) (n := 1) (d' := 1) (Q1 := Q2) pc2 ok_X2_readUnit ml_X2_124 im_X2_readUnit se_X2_readUnit dX2_readSum_41 J4_0.o0 (pargs_of rfl) rfl (Nat.le_of_ble_eq_true rfl) (by omega) (f5 c2 c4 c6 τ4 e4 q4) (fun r5 τ5 e5 q5 w5 => ?_)
        obtain ⟨v5, rfl, b5⟩ := pRok_z w5
        have S5 : Stat τ5 := (Stat.le (σ := τ4) S4 e5)
        have J5_0 : Inst2 τ5 x0 nx0 := Inst2.le (σ := τ4) J4_0 e5
        show pR mX2_readSum d 44 [(2, x0), (2, 2), (0, x2), (0, x3), (0, (vTkK σ))] [(0, v5)] τ5 Q
        refine pGoL (ls2 := [(2, x0), (2, 2), (0, v5), (0, x3), (0, (vTkK σ))]) (s_istore_n dX2_readSum_44 (by decide) rfl) rfl ?_
        refine pGo (s_aload_n dX2_readSum_45 rfl J5_0.pos) ?_
        refine pGo (s_iload dX2_readSum_46 rfl) ?_
        refine pGo (s_iconst dX2_readSum_48) ?_
        refine p_callV (As := [(0, (vTkK σ)), (0, 0)]) (st := []) (n := 2) (d' := 0) (Q1 := Q3) pc2 ok_X2_put ml_X2_108 im_X2_put se_X2_put dX2_readSum_49 J5_0.o0 (pargs_of rfl) rfl (Nat.le_of_ble_eq_true rfl) (by omega) (f6 c2 c4 c6 τ4 e4 q4 v5 b5 τ5 e5 q5) (fun r6 τ6 e6 q6 w6 => ?_)
        obtain rfl : r6 = none := w6
        have S6 : Stat τ6 := (Stat.le (σ := τ5) S5 e6)
        have J6_0 : Inst2 τ6 x0 nx0 := Inst2.le (σ := τ5) J5_0 e6
        show pR mX2_readSum d 52 [(2, x0), (2, 2), (0, v5), (0, x3), (0, (vTkK σ))] [] τ6 Q
        refine pGoL (ls2 := [(2, x0), (2, 2), (0, v5), (0, (x3 + 1)), (0, (vTkK σ))]) (s_iinc dX2_readSum_52 (by decide) rfl rfl) rfl ?_
        refine pGo (s_goto (tgt := 8) dX2_readSum_55 (by decide)) ?_
        exact (k4 c2 c4 c6 τ4 e4 q4 v5 b5 τ5 e5 q5 τ6 e6 q6)
set_option maxRecDepth 100000 in
theorem g_X2_readComparison_0 {d : Nat} {σ : pS} {Q : Option pV → pS → Prop} {Q1 : Option pV → pS → Prop} {Q2 : Option pV → pS → Prop} {Q3 : Option pV → pS → Prop} {Q4 : Option pV → pS → Prop} {Q5 : Option pV → pS → Prop} {Q6 : Option pV → pS → Prop} {Q7 : Option pV → pS → Prop} {Q8 : Option pV → pS → Prop} {Q9 : Option pV → pS → Prop} {Q10 : Option pV → pS → Prop} {Q11 : Option pV → pS → Prop} (hd : 3 ≤ d) (hst : Stat σ) (a0 : Int) {na0 : Nat} (Ia0 : Inst2 σ a0 na0) (f1 : pC mX2_readSum 2 [(2, a0), (2, 2)] σ Q1) (g1 : ∀ (v1 : Int) (b1 : v1 = 0 ∨ v1 = 1) (τ1 : pS) (e1 : pLe σ τ1) (q1 : Q1 (some (0, v1)) τ1), inR v1) (f2 : ∀ (v1 : Int) (b1 : v1 = 0 ∨ v1 = 1) (τ1 : pS) (e1 : pLe σ τ1) (q1 : Q1 (some (0, v1)) τ1) (c1 : v1 ≠ 0), pC mX9_kind 0 [(2, 2)] τ1 (fun r τ => r = some (0, (vTkK τ1)) ∧ τ = τ1)) (g2 : ∀ (v1 : Int) (b1 : v1 = 0 ∨ v1 = 1) (τ1 : pS) (e1 : pLe σ τ1) (q1 : Q1 (some (0, v1)) τ1) (c1 : v1 ≠ 0), inR (vTkK τ1)) (f3 : ∀ (v1 : Int) (b1 : v1 = 0 ∨ v1 = 1) (τ1 : pS) (e1 : pLe σ τ1) (q1 : Q1 (some (0, v1)) τ1) (c1 : v1 ≠ 0) (c3 : (vTkK τ1) = 60), pC mX9_step 0 [(2, 2)] τ1 Q2) (f4 : ∀ (v1 : Int) (b1 : v1 = 0 ∨ v1 = 1) (τ1 : pS) (e1 : pLe σ τ1) (q1 : Q1 (some (0, v1)) τ1) (c1 : v1 ≠ 0) (c3 : (vTkK τ1) = 60) (τ3 : pS) (e3 : pLe τ1 τ3) (q3 : Q2 none τ3), pC mX2_readSum 2 [(2, a0), (2, 2)] τ3 Q3) (f5 : ∀ (v1 : Int) (b1 : v1 = 0 ∨ v1 = 1) (τ1 : pS) (e1 : pLe σ τ1) (q1 : Q1 (some (0, v1)) τ1) (c1 : v1 ≠ 0) (c3 : (vTkK τ1) = 60) (τ3 : pS) (e3 : pLe τ1 τ3) (q3 : Q2 none τ3) (v4 : Int) (b4 : v4 = 0 ∨ v4 = 1) (τ4 : pS) (e4 : pLe τ3 τ4) (q4 : Q3 (some (0, v4)) τ4), pC mX2_put 0 [(2, a0), (0, (vTkK τ1)), (0, 0)] τ4 Q4) (k1 : ∀ (v1 : Int) (b1 : v1 = 0 ∨ v1 = 1) (τ1 : pS) (e1 : pLe σ τ1) (q1 : Q1 (some (0, v1)) τ1) (c1 : v1 ≠ 0) (c3 : (vTkK τ1) = 60) (τ3 : pS) (e3 : pLe τ1 τ3) (q3 : Q2 none τ3) (v4 : Int) (b4 : v4 = 0 ∨ v4 = 1) (τ4 : pS) (e4 : pLe τ3 τ4) (q4 : Q3 (some (0, v4)) τ4) (τ5 : pS) (e5 : pLe τ4 τ5) (q5 : Q4 none τ5), Q (some (0, v4)) τ5) (f6 : ∀ (v1 : Int) (b1 : v1 = 0 ∨ v1 = 1) (τ1 : pS) (e1 : pLe σ τ1) (q1 : Q1 (some (0, v1)) τ1) (c1 : v1 ≠ 0) (c4 : (vTkK τ1) ≠ 60) (c5 : (vTkK τ1) = 62), pC mX9_step 0 [(2, 2)] τ1 Q5) (f7 : ∀ (v1 : Int) (b1 : v1 = 0 ∨ v1 = 1) (τ1 : pS) (e1 : pLe σ τ1) (q1 : Q1 (some (0, v1)) τ1) (c1 : v1 ≠ 0) (c4 : (vTkK τ1) ≠ 60) (c5 : (vTkK τ1) = 62) (τ6 : pS) (e6 : pLe τ1 τ6) (q6 : Q5 none τ6), pC mX2_readSum 2 [(2, a0), (2, 2)] τ6 Q6) (f8 : ∀ (v1 : Int) (b1 : v1 = 0 ∨ v1 = 1) (τ1 : pS) (e1 : pLe σ τ1) (q1 : Q1 (some (0, v1)) τ1) (c1 : v1 ≠ 0) (c4 : (vTkK τ1) ≠ 60) (c5 : (vTkK τ1) = 62) (τ6 : pS) (e6 : pLe τ1 τ6) (q6 : Q5 none τ6) (v7 : Int) (b7 : v7 = 0 ∨ v7 = 1) (τ7 : pS) (e7 : pLe τ6 τ7) (q7 : Q6 (some (0, v7)) τ7), pC mX2_put 0 [(2, a0), (0, (vTkK τ1)), (0, 0)] τ7 Q7) (k2 : ∀ (v1 : Int) (b1 : v1 = 0 ∨ v1 = 1) (τ1 : pS) (e1 : pLe σ τ1) (q1 : Q1 (some (0, v1)) τ1) (c1 : v1 ≠ 0) (c4 : (vTkK τ1) ≠ 60) (c5 : (vTkK τ1) = 62) (τ6 : pS) (e6 : pLe τ1 τ6) (q6 : Q5 none τ6) (v7 : Int) (b7 : v7 = 0 ∨ v7 = 1) (τ7 : pS) (e7 : pLe τ6 τ7) (q7 : Q6 (some (0, v7)) τ7) (τ8 : pS) (e8 : pLe τ7 τ8) (q8 : Q7 none τ8), Q (some (0, v7)) τ8) (f9 : ∀ (v1 : Int) (b1 : v1 = 0 ∨ v1 = 1) (τ1 : pS) (e1 : pLe σ τ1) (q1 : Q1 (some (0, v1)) τ1) (c1 : v1 ≠ 0) (c4 : (vTkK τ1) ≠ 60) (c6 : (vTkK τ1) ≠ 62) (c7 : (vTkK τ1) = 61), pC mX9_step 0 [(2, 2)] τ1 Q8) (f10 : ∀ (v1 : Int) (b1 : v1 = 0 ∨ v1 = 1) (τ1 : pS) (e1 : pLe σ τ1) (q1 : Q1 (some (0, v1)) τ1) (c1 : v1 ≠ 0) (c4 : (vTkK τ1) ≠ 60) (c6 : (vTkK τ1) ≠ 62) (c7 : (vTkK τ1) = 61) (τ9 : pS) (e9 : pLe τ1 τ9) (q9 : Q8 none τ9), pC mX2_readSum 2 [(2, a0), (2, 2)] τ9 Q9) (f11 : ∀ (v1 : Int) (b1 : v1 = 0 ∨ v1 = 1) (τ1 : pS) (e1 : pLe σ τ1) (q1 : Q1 (some (0, v1)) τ1) (c1 : v1 ≠ 0) (c4 : (vTkK τ1) ≠ 60) (c6 : (vTkK τ1) ≠ 62) (c7 : (vTkK τ1) = 61) (τ9 : pS) (e9 : pLe τ1 τ9) (q9 : Q8 none τ9) (v10 : Int) (b10 : v10 = 0 ∨ v10 = 1) (τ10 : pS) (e10 : pLe τ9 τ10) (q10 : Q9 (some (0, v10)) τ10), pC mX2_put 0 [(2, a0), (0, (vTkK τ1)), (0, 0)] τ10 Q10) (k3 : ∀ (v1 : Int) (b1 : v1 = 0 ∨ v1 = 1) (τ1 : pS) (e1 : pLe σ τ1) (q1 : Q1 (some (0, v1)) τ1) (c1 : v1 ≠ 0) (c4 : (vTkK τ1) ≠ 60) (c6 : (vTkK τ1) ≠ 62) (c7 : (vTkK τ1) = 61) (τ9 : pS) (e9 : pLe τ1 τ9) (q9 : Q8 none τ9) (v10 : Int) (b10 : v10 = 0 ∨ v10 = 1) (τ10 : pS) (e10 : pLe τ9 τ10) (q10 : Q9 (some (0, v10)) τ10) (τ11 : pS) (e11 : pLe τ10 τ11) (q11 : Q10 none τ11), Q (some (0, v10)) τ11) (f12 : ∀ (v1 : Int) (b1 : v1 = 0 ∨ v1 = 1) (τ1 : pS) (e1 : pLe σ τ1) (q1 : Q1 (some (0, v1)) τ1) (c1 : v1 ≠ 0) (c4 : (vTkK τ1) ≠ 60) (c6 : (vTkK τ1) ≠ 62) (c8 : (vTkK τ1) ≠ 61), pC mX9_fail 0 [(2, 2), (0, 2)] τ1 Q11) (k4 : ∀ (v1 : Int) (b1 : v1 = 0 ∨ v1 = 1) (τ1 : pS) (e1 : pLe σ τ1) (q1 : Q1 (some (0, v1)) τ1) (c1 : v1 ≠ 0) (c4 : (vTkK τ1) ≠ 60) (c6 : (vTkK τ1) ≠ 62) (c8 : (vTkK τ1) ≠ 61) (v12 : Int) (b12 : v12 = 0 ∨ v12 = 1) (τ12 : pS) (e12 : pLe τ1 τ12) (q12 : Q11 (some (0, v12)) τ12), Q (some (0, v12)) τ12) (k5 : ∀ (v1 : Int) (b1 : v1 = 0 ∨ v1 = 1) (τ1 : pS) (e1 : pLe σ τ1) (q1 : Q1 (some (0, v1)) τ1) (c2 : v1 = 0), Q (some (0, 0)) τ1) : pC mX2_readComparison d [(2, a0), (2, 2)] σ Q := by
  show pR mX2_readComparison d 0 [(2, a0), (2, 2), (9, 0), (9, 0)] [] σ Q
  refine pGo (s_aload_n dX2_readComparison_0 rfl Ia0.pos) ?_
  refine pGo (s_aload_n dX2_readComparison_1 rfl (by decide)) ?_
  refine p_callV (As := [(2, 2)]) (st := []) (n := 1) (d' := 2) (Q1 := Q1) pc2 ok_X2_readSum ml_X2_121 im_X2_readSum se_X2_readSum dX2_readComparison_2 Ia0.o0 (pargs_of rfl) rfl (Nat.le_of_ble_eq_true rfl) (by omega) f1 (fun r1 τ1 e1 q1 w1 => ?_)
  obtain ⟨v1, rfl, b1⟩ := pRok_z w1
  have S1 : Stat τ1 := (Stat.le (σ := σ) hst e1)
  have J1_0 : Inst2 τ1 a0 na0 := Inst2.le (σ := σ) Ia0 e1
  show pR mX2_readComparison d 5 [(2, a0), (2, 2), (9, 0), (9, 0)] [(0, v1)] τ1 Q
  refine p_ifne (tgt := 10) dX2_readComparison_5 (by decide) (g1 v1 b1 τ1 e1 q1) (fun c1 => ?_) (fun c2 => ?_)
  · refine pGo (s_aload_n dX2_readComparison_10 rfl (by decide)) ?_
    refine p_callV (As := []) (st := []) (n := 0) (d' := 0) (Q1 := (fun r τ => r = some (0, (vTkK τ1)) ∧ τ = τ1)) pc9 ok_X9_kind ml_X2_71 im_X9_kind se_X9_kind dX2_readComparison_11 (ob_2 S1) (pargs_of rfl) rfl (Nat.le_of_ble_eq_true rfl) (by omega) (f2 v1 b1 τ1 e1 q1 c1) (fun r2 τ2 e2 q2 w2 => ?_)
    obtain ⟨rfl, t2⟩ := q2
    rw [t2]
    show pR mX2_readComparison d 14 [(2, a0), (2, 2), (9, 0), (9, 0)] [(0, (vTkK τ1))] τ1 Q
    refine pGoL (ls2 := [(2, a0), (2, 2), (0, (vTkK τ1)), (9, 0)]) (s_istore_n dX2_readComparison_14 (by decide) rfl) rfl ?_
    refine pGo (s_iload_n dX2_readComparison_15 rfl) ?_
    refine pGo (s_bipush dX2_readComparison_16 (by decide)) ?_
    refine p_iceq (tgt := 39) dX2_readComparison_18 (by decide) (g2 v1 b1 τ1 e1 q1 c1) (by decide) (fun c3 => ?_) (fun c4 => ?_)
    · refine pGo (s_aload_n dX2_readComparison_39 rfl (by decide)) ?_
      refine p_callV (As := []) (st := []) (n := 0) (d' := 0) (Q1 := Q2) pc9 ok_X9_step ml_X2_95 im_X9_step se_X9_step dX2_readComparison_40 (ob_2 S1) (pargs_of rfl) rfl (Nat.le_of_ble_eq_true rfl) (by omega) (f3 v1 b1 τ1 e1 q1 c1 c3) (fun r3 τ3 e3 q3 w3 => ?_)
      obtain rfl : r3 = none := w3
      have S3 : Stat τ3 := (Stat.le (σ := τ1) S1 e3)
      have J3_0 : Inst2 τ3 a0 na0 := Inst2.le (σ := τ1) J1_0 e3
      show pR mX2_readComparison d 43 [(2, a0), (2, 2), (0, (vTkK τ1)), (9, 0)] [] τ3 Q
      refine pGo (s_aload_n dX2_readComparison_43 rfl J3_0.pos) ?_
      refine pGo (s_aload_n dX2_readComparison_44 rfl (by decide)) ?_
      refine p_callV (As := [(2, 2)]) (st := []) (n := 1) (d' := 2) (Q1 := Q3) pc2 ok_X2_readSum ml_X2_121 im_X2_readSum se_X2_readSum dX2_readComparison_45 J3_0.o0 (pargs_of rfl) rfl (Nat.le_of_ble_eq_true rfl) (by omega) (f4 v1 b1 τ1 e1 q1 c1 c3 τ3 e3 q3) (fun r4 τ4 e4 q4 w4 => ?_)
      obtain ⟨v4, rfl, b4⟩ := pRok_z w4
      have S4 : Stat τ4 := (Stat.le (σ := τ3) S3 e4)
      have J4_0 : Inst2 τ4 a0 na0 := Inst2.le (σ := τ3) J3_0 e4
      show pR mX2_readComparison d 48 [(2, a0), (2, 2), (0, (vTkK τ1)), (9, 0)] [(0, v4)] τ4 Q
      refine pGoL (ls2 := [(2, a0), (2, 2), (0, (vTkK τ1)), (0, v4)]) (s_istore_n dX2_readComparison_48 (by decide) rfl) rfl ?_
      refine pGo (s_aload_n dX2_readComparison_49 rfl J4_0.pos) ?_
      refine pGo (s_iload_n dX2_readComparison_50 rfl) ?_
      refine pGo (s_iconst dX2_readComparison_51) ?_
      refine p_callV (As := [(0, (vTkK τ1)), (0, 0)]) (st := []) (n := 2) (d' := 0) (Q1 := Q4) pc2 ok_X2_put ml_X2_108 im_X2_put se_X2_put dX2_readComparison_52 J4_0.o0 (pargs_of rfl) rfl (Nat.le_of_ble_eq_true rfl) (by omega) (f5 v1 b1 τ1 e1 q1 c1 c3 τ3 e3 q3 v4 b4 τ4 e4 q4) (fun r5 τ5 e5 q5 w5 => ?_)
      obtain rfl : r5 = none := w5
      have S5 : Stat τ5 := (Stat.le (σ := τ4) S4 e5)
      have J5_0 : Inst2 τ5 a0 na0 := Inst2.le (σ := τ4) J4_0 e5
      show pR mX2_readComparison d 55 [(2, a0), (2, 2), (0, (vTkK τ1)), (0, v4)] [] τ5 Q
      refine pGo (s_iload_n dX2_readComparison_55 rfl) ?_
      exact pEnd (r := (some (0, v4))) dX2_readComparison_56 (pRok_01 b4) (k1 v1 b1 τ1 e1 q1 c1 c3 τ3 e3 q3 v4 b4 τ4 e4 q4 τ5 e5 q5)
    · refine pGo (s_iload_n dX2_readComparison_21 rfl) ?_
      refine pGo (s_bipush dX2_readComparison_22 (by decide)) ?_
      refine p_iceq (tgt := 39) dX2_readComparison_24 (by decide) (g2 v1 b1 τ1 e1 q1 c1) (by decide) (fun c5 => ?_) (fun c6 => ?_)
      · refine pGo (s_aload_n dX2_readComparison_39 rfl (by decide)) ?_
        refine p_callV (As := []) (st := []) (n := 0) (d' := 0) (Q1 := Q5) pc9 ok_X9_step ml_X2_95 im_X9_step se_X9_step dX2_readComparison_40 (ob_2 S1) (pargs_of rfl) rfl (Nat.le_of_ble_eq_true rfl) (by omega) (f6 v1 b1 τ1 e1 q1 c1 c4 c5) (fun r6 τ6 e6 q6 w6 => ?_)
        obtain rfl : r6 = none := w6
        have S6 : Stat τ6 := (Stat.le (σ := τ1) S1 e6)
        have J6_0 : Inst2 τ6 a0 na0 := Inst2.le (σ := τ1) J1_0 e6
        show pR mX2_readComparison d 43 [(2, a0), (2, 2), (0, (vTkK τ1)), (9, 0)] [] τ6 Q
        refine pGo (s_aload_n dX2_readComparison_43 rfl J6_0.pos) ?_
        refine pGo (s_aload_n dX2_readComparison_44 rfl (by decide)) ?_
        refine p_callV (As := [(2, 2)]) (st := []) (n := 1) (d' := 2) (Q1 := Q6) pc2 ok_X2_readSum ml_X2_121 im_X2_readSum se_X2_readSum dX2_readComparison_45 J6_0.o0 (pargs_of rfl) rfl (Nat.le_of_ble_eq_true rfl) (by omega) (f7 v1 b1 τ1 e1 q1 c1 c4 c5 τ6 e6 q6) (fun r7 τ7 e7 q7 w7 => ?_)
        obtain ⟨v7, rfl, b7⟩ := pRok_z w7
        have S7 : Stat τ7 := (Stat.le (σ := τ6) S6 e7)
        have J7_0 : Inst2 τ7 a0 na0 := Inst2.le (σ := τ6) J6_0 e7
        show pR mX2_readComparison d 48 [(2, a0), (2, 2), (0, (vTkK τ1)), (9, 0)] [(0, v7)] τ7 Q
        refine pGoL (ls2 := [(2, a0), (2, 2), (0, (vTkK τ1)), (0, v7)]) (s_istore_n dX2_readComparison_48 (by decide) rfl) rfl ?_
        refine pGo (s_aload_n dX2_readComparison_49 rfl J7_0.pos) ?_
        refine pGo (s_iload_n dX2_readComparison_50 rfl) ?_
        refine pGo (s_iconst dX2_readComparison_51) ?_
        refine p_callV (As := [(0, (vTkK τ1)), (0, 0)]) (st := []) (n := 2) (d' := 0) (Q1 := Q7) pc2 ok_X2_put ml_X2_108 im_X2_put se_X2_put dX2_readComparison_52 J7_0.o0 (pargs_of rfl) rfl (Nat.le_of_ble_eq_true rfl) (by omega) (f8 v1 b1 τ1 e1 q1 c1 c4 c5 τ6 e6 q6 v7 b7 τ7 e7 q7) (fun r8 τ8 e8 q8 w8 => ?_)
        obtain rfl : r8 = none := w8
        have S8 : Stat τ8 := (Stat.le (σ := τ7) S7 e8)
        have J8_0 : Inst2 τ8 a0 na0 := Inst2.le (σ := τ7) J7_0 e8
        show pR mX2_readComparison d 55 [(2, a0), (2, 2), (0, (vTkK τ1)), (0, v7)] [] τ8 Q
        refine pGo (s_iload_n dX2_readComparison_55 rfl) ?_
        exact pEnd (r := (some (0, v7))) dX2_readComparison_56 (pRok_01 b7) (k2 v1 b1 τ1 e1 q1 c1 c4 c5 τ6 e6 q6 v7 b7 τ7 e7 q7 τ8 e8 q8)
      · refine pGo (s_iload_n dX2_readComparison_27 rfl) ?_
        refine pGo (s_bipush dX2_readComparison_28 (by decide)) ?_
        refine p_iceq (tgt := 39) dX2_readComparison_30 (by decide) (g2 v1 b1 τ1 e1 q1 c1) (by decide) (fun c7 => ?_) (fun c8 => ?_)
        · refine pGo (s_aload_n dX2_readComparison_39 rfl (by decide)) ?_
          refine p_callV (As := []) (st := []) (n := 0) (d' := 0) (Q1 := Q8) pc9 ok_X9_step ml_X2_95 im_X9_step se_X9_step dX2_readComparison_40 (ob_2 S1) (pargs_of rfl) rfl (Nat.le_of_ble_eq_true rfl) (by omega) (f9 v1 b1 τ1 e1 q1 c1 c4 c6 c7) (fun r9 τ9 e9 q9 w9 => ?_)
          obtain rfl : r9 = none := w9
          have S9 : Stat τ9 := (Stat.le (σ := τ1) S1 e9)
          have J9_0 : Inst2 τ9 a0 na0 := Inst2.le (σ := τ1) J1_0 e9
          show pR mX2_readComparison d 43 [(2, a0), (2, 2), (0, (vTkK τ1)), (9, 0)] [] τ9 Q
          refine pGo (s_aload_n dX2_readComparison_43 rfl J9_0.pos) ?_
          refine pGo (s_aload_n dX2_readComparison_44 rfl (by decide)) ?_
          refine p_callV (As := [(2, 2)]) (st := []) (n := 1) (d' := 2) (Q1 := Q9) pc2 ok_X2_readSum ml_X2_121 im_X2_readSum se_X2_readSum dX2_readComparison_45 J9_0.o0 (pargs_of rfl) rfl (Nat.le_of_ble_eq_true rfl) (by omega) (f10 v1 b1 τ1 e1 q1 c1 c4 c6 c7 τ9 e9 q9) (fun r10 τ10 e10 q10 w10 => ?_)
          obtain ⟨v10, rfl, b10⟩ := pRok_z w10
          have S10 : Stat τ10 := (Stat.le (σ := τ9) S9 e10)
          have J10_0 : Inst2 τ10 a0 na0 := Inst2.le (σ := τ9) J9_0 e10
          show pR mX2_readComparison d 48 [(2, a0), (2, 2), (0, (vTkK τ1)), (9, 0)] [(0, v10)] τ10 Q
          refine pGoL (ls2 := [(2, a0), (2, 2), (0, (vTkK τ1)), (0, v10)]) (s_istore_n dX2_readComparison_48 (by decide) rfl) rfl ?_
          refine pGo (s_aload_n dX2_readComparison_49 rfl J10_0.pos) ?_
          refine pGo (s_iload_n dX2_readComparison_50 rfl) ?_
          refine pGo (s_iconst dX2_readComparison_51) ?_
          refine p_callV (As := [(0, (vTkK τ1)), (0, 0)]) (st := []) (n := 2) (d' := 0) (Q1 := Q10) pc2 ok_X2_put ml_X2_108 im_X2_put se_X2_put dX2_readComparison_52 J10_0.o0 (pargs_of rfl) rfl (Nat.le_of_ble_eq_true rfl) (by omega) (f11 v1 b1 τ1 e1 q1 c1 c4 c6 c7 τ9 e9 q9 v10 b10 τ10 e10 q10) (fun r11 τ11 e11 q11 w11 => ?_)
          obtain rfl : r11 = none := w11
          have S11 : Stat τ11 := (Stat.le (σ := τ10) S10 e11)
          have J11_0 : Inst2 τ11 a0 na0 := Inst2.le (σ := τ10) J10_0 e11
          show pR mX2_readComparison d 55 [(2, a0), (2, 2), (0, (vTkK τ1)), (0, v10)] [] τ11 Q
          refine pGo (s_iload_n dX2_readComparison_55 rfl) ?_
          exact pEnd (r := (some (0, v10))) dX2_readComparison_56 (pRok_01 b10) (k3 v1 b1 τ1 e1 q1 c1 c4 c6 c7 τ9 e9 q9 v10 b10 τ10 e10 q10 τ11 e11 q11)
        · refine pGo (s_aload_n dX2_readComparison_33 rfl (by decide)) ?_
          refine pGo (s_iconst dX2_readComparison_34) ?_
          refine p_callV (As := [(0, 2)]) (st := []) (n := 1) (d' := 0) (Q1 := Q11) pc9 ok_X9_fail ml_X2_92 im_X9_fail se_X9_fail dX2_readComparison_35 (ob_2 S1) (pargs_of rfl) rfl (Nat.le_of_ble_eq_true rfl) (by omega) (f12 v1 b1 τ1 e1 q1 c1 c4 c6 c8) (fun r12 τ12 e12 q12 w12 => ?_)
          obtain ⟨v12, rfl, b12⟩ := pRok_z w12
          have S12 : Stat τ12 := (Stat.le (σ := τ1) S1 e12)
          have J12_0 : Inst2 τ12 a0 na0 := Inst2.le (σ := τ1) J1_0 e12
          show pR mX2_readComparison d 38 [(2, a0), (2, 2), (0, (vTkK τ1)), (9, 0)] [(0, v12)] τ12 Q
          exact pEnd (r := (some (0, v12))) dX2_readComparison_38 (pRok_01 b12) (k4 v1 b1 τ1 e1 q1 c1 c4 c6 c8 v12 b12 τ12 e12 q12)
  · refine pGo (s_iconst dX2_readComparison_8) ?_
    exact pEnd (r := (some (0, 0))) dX2_readComparison_9 (Or.inl rfl) (k5 v1 b1 τ1 e1 q1 c2)
set_option maxRecDepth 100000 in
theorem g_X2_readNested_0 {d : Nat} {σ : pS} {Q : Option pV → pS → Prop} {Q1 : Option pV → pS → Prop} {Q2 : Option pV → pS → Prop} {Q3 : Option pV → pS → Prop} {Q4 : Option pV → pS → Prop} (hd : 12 ≤ d) (hst : Stat σ) (a0 : Int) (x2 : Int) {na0 : Nat} (Ia0 : Inst2 σ a0 na0) (g1 : inR x2) (f1 : ∀ (c1 : x2 ≤ 6), pC mX9_step 0 [(2, 2)] σ Q1) (f2 : ∀ (c1 : x2 ≤ 6) (τ1 : pS) (e1 : pLe σ τ1) (q1 : Q1 none τ1), pC mX2_readEither (d - 1) [(2, a0), (2, 2), (0, (x2 + 1))] τ1 Q2) (g2 : ∀ (c1 : x2 ≤ 6) (τ1 : pS) (e1 : pLe σ τ1) (q1 : Q1 none τ1) (v2 : Int) (b2 : v2 = 0 ∨ v2 = 1) (τ2 : pS) (e2 : pLe τ1 τ2) (q2 : Q2 (some (0, v2)) τ2), inR v2) (k1 : ∀ (c1 : x2 ≤ 6) (τ1 : pS) (e1 : pLe σ τ1) (q1 : Q1 none τ1) (v2 : Int) (b2 : v2 = 0 ∨ v2 = 1) (τ2 : pS) (e2 : pLe τ1 τ2) (q2 : Q2 (some (0, v2)) τ2) (c3 : v2 = 0), Q (some (0, 0)) τ2) (f3 : ∀ (c1 : x2 ≤ 6) (τ1 : pS) (e1 : pLe σ τ1) (q1 : Q1 none τ1) (v2 : Int) (b2 : v2 = 0 ∨ v2 = 1) (τ2 : pS) (e2 : pLe τ1 τ2) (q2 : Q2 (some (0, v2)) τ2) (c4 : v2 ≠ 0), pC mX9_expect 1 [(2, 2), (0, 41)] τ2 Q3) (g3 : ∀ (c1 : x2 ≤ 6) (τ1 : pS) (e1 : pLe σ τ1) (q1 : Q1 none τ1) (v2 : Int) (b2 : v2 = 0 ∨ v2 = 1) (τ2 : pS) (e2 : pLe τ1 τ2) (q2 : Q2 (some (0, v2)) τ2) (c4 : v2 ≠ 0) (v3 : Int) (b3 : v3 = 0 ∨ v3 = 1) (τ3 : pS) (e3 : pLe τ2 τ3) (q3 : Q3 (some (0, v3)) τ3), inR v3) (k2 : ∀ (c1 : x2 ≤ 6) (τ1 : pS) (e1 : pLe σ τ1) (q1 : Q1 none τ1) (v2 : Int) (b2 : v2 = 0 ∨ v2 = 1) (τ2 : pS) (e2 : pLe τ1 τ2) (q2 : Q2 (some (0, v2)) τ2) (c4 : v2 ≠ 0) (v3 : Int) (b3 : v3 = 0 ∨ v3 = 1) (τ3 : pS) (e3 : pLe τ2 τ3) (q3 : Q3 (some (0, v3)) τ3) (c5 : v3 = 0), Q (some (0, 0)) τ3) (k3 : ∀ (c1 : x2 ≤ 6) (τ1 : pS) (e1 : pLe σ τ1) (q1 : Q1 none τ1) (v2 : Int) (b2 : v2 = 0 ∨ v2 = 1) (τ2 : pS) (e2 : pLe τ1 τ2) (q2 : Q2 (some (0, v2)) τ2) (c4 : v2 ≠ 0) (v3 : Int) (b3 : v3 = 0 ∨ v3 = 1) (τ3 : pS) (e3 : pLe τ2 τ3) (q3 : Q3 (some (0, v3)) τ3) (c6 : v3 ≠ 0), Q (some (0, 1)) τ3) (f4 : ∀ (c2 : 6 < x2), pC mX9_fail 0 [(2, 2), (0, 2)] σ Q4) (k4 : ∀ (c2 : 6 < x2) (v4 : Int) (b4 : v4 = 0 ∨ v4 = 1) (τ4 : pS) (e4 : pLe σ τ4) (q4 : Q4 (some (0, v4)) τ4), Q (some (0, v4)) τ4) : pC mX2_readNested d [(2, a0), (2, 2), (0, x2)] σ Q := by
  show pR mX2_readNested d 0 [(2, a0), (2, 2), (0, x2)] [] σ Q
  refine pGo (s_iload_n dX2_readNested_0 rfl) ?_
  refine pGo (s_bipush dX2_readNested_1 (by decide)) ?_
  refine p_icle (tgt := 12) dX2_readNested_3 (by decide) g1 (by decide) (fun c1 => ?_) (fun c2 => ?_)
  · refine pGo (s_aload_n dX2_readNested_12 rfl (by decide)) ?_
    refine p_callV (As := []) (st := []) (n := 0) (d' := 0) (Q1 := Q1) pc9 ok_X9_step ml_X2_95 im_X9_step se_X9_step dX2_readNested_13 (ob_2 hst) (pargs_of rfl) rfl (Nat.le_of_ble_eq_true rfl) (by omega) (f1 c1) (fun r1 τ1 e1 q1 w1 => ?_)
    obtain rfl : r1 = none := w1
    have S1 : Stat τ1 := (Stat.le (σ := σ) hst e1)
    have J1_0 : Inst2 τ1 a0 na0 := Inst2.le (σ := σ) Ia0 e1
    show pR mX2_readNested d 16 [(2, a0), (2, 2), (0, x2)] [] τ1 Q
    refine pGo (s_aload_n dX2_readNested_16 rfl J1_0.pos) ?_
    refine pGo (s_aload_n dX2_readNested_17 rfl (by decide)) ?_
    refine pGo (s_iload_n dX2_readNested_18 rfl) ?_
    refine pGo (s_iconst dX2_readNested_19) ?_
    refine pGo (s_iadd dX2_readNested_20) ?_
    refine p_callV (As := [(2, 2), (0, (x2 + 1))]) (st := []) (n := 2) (d' := (d - 1)) (Q1 := Q2) pc2 ok_X2_readEither ml_X2_101 im_X2_readEither se_X2_readEither dX2_readNested_21 J1_0.o0 (pargs_of rfl) rfl (Nat.le_of_ble_eq_true rfl) (by omega) (f2 c1 τ1 e1 q1) (fun r2 τ2 e2 q2 w2 => ?_)
    obtain ⟨v2, rfl, b2⟩ := pRok_z w2
    have S2 : Stat τ2 := (Stat.le (σ := τ1) S1 e2)
    have J2_0 : Inst2 τ2 a0 na0 := Inst2.le (σ := τ1) J1_0 e2
    show pR mX2_readNested d 24 [(2, a0), (2, 2), (0, x2)] [(0, v2)] τ2 Q
    refine p_ifeq (tgt := 40) dX2_readNested_24 (by decide) (g2 c1 τ1 e1 q1 v2 b2 τ2 e2 q2) (fun c3 => ?_) (fun c4 => ?_)
    · refine pGo (s_iconst dX2_readNested_40) ?_
      exact pEnd (r := (some (0, 0))) dX2_readNested_41 (Or.inl rfl) (k1 c1 τ1 e1 q1 v2 b2 τ2 e2 q2 c3)
    · refine pGo (s_aload_n dX2_readNested_27 rfl (by decide)) ?_
      refine pGo (s_bipush dX2_readNested_28 (by decide)) ?_
      refine p_callV (As := [(0, 41)]) (st := []) (n := 1) (d' := 1) (Q1 := Q3) pc9 ok_X9_expect ml_X2_85 im_X9_expect se_X9_expect dX2_readNested_30 (ob_2 S2) (pargs_of rfl) rfl (Nat.le_of_ble_eq_true rfl) (by omega) (f3 c1 τ1 e1 q1 v2 b2 τ2 e2 q2 c4) (fun r3 τ3 e3 q3 w3 => ?_)
      obtain ⟨v3, rfl, b3⟩ := pRok_z w3
      have S3 : Stat τ3 := (Stat.le (σ := τ2) S2 e3)
      have J3_0 : Inst2 τ3 a0 na0 := Inst2.le (σ := τ2) J2_0 e3
      show pR mX2_readNested d 33 [(2, a0), (2, 2), (0, x2)] [(0, v3)] τ3 Q
      refine p_ifeq (tgt := 40) dX2_readNested_33 (by decide) (g3 c1 τ1 e1 q1 v2 b2 τ2 e2 q2 c4 v3 b3 τ3 e3 q3) (fun c5 => ?_) (fun c6 => ?_)
      · refine pGo (s_iconst dX2_readNested_40) ?_
        exact pEnd (r := (some (0, 0))) dX2_readNested_41 (Or.inl rfl) (k2 c1 τ1 e1 q1 v2 b2 τ2 e2 q2 c4 v3 b3 τ3 e3 q3 c5)
      · refine pGo (s_iconst dX2_readNested_36) ?_
        refine pGo (s_goto (tgt := 41) dX2_readNested_37 (by decide)) ?_
        exact pEnd (r := (some (0, 1))) dX2_readNested_41 (Or.inr rfl) (k3 c1 τ1 e1 q1 v2 b2 τ2 e2 q2 c4 v3 b3 τ3 e3 q3 c6)
  · refine pGo (s_aload_n dX2_readNested_6 rfl (by decide)) ?_
    refine pGo (s_iconst dX2_readNested_7) ?_
    refine p_callV (As := [(0, 2)]) (st := []) (n := 1) (d' := 0) (Q1 := Q4) pc9 ok_X9_fail ml_X2_92 im_X9_fail se_X9_fail dX2_readNested_8 (ob_2 hst) (pargs_of rfl) rfl (Nat.le_of_ble_eq_true rfl) (by omega) (f4 c2) (fun r4 τ4 e4 q4 w4 => ?_)
    obtain ⟨v4, rfl, b4⟩ := pRok_z w4
    have S4 : Stat τ4 := (Stat.le (σ := σ) hst e4)
    have J4_0 : Inst2 τ4 a0 na0 := Inst2.le (σ := σ) Ia0 e4
    show pR mX2_readNested d 11 [(2, a0), (2, 2), (0, x2)] [(0, v4)] τ4 Q
    exact pEnd (r := (some (0, v4))) dX2_readNested_11 (pRok_01 b4) (k4 c2 v4 b4 τ4 e4 q4)
set_option maxRecDepth 100000 in
theorem g_X2_readOne_0 {d : Nat} {σ : pS} {Q : Option pV → pS → Prop} (hd : 12 ≤ d) (hst : Stat σ) (a0 : Int) (x2 : Int) {na0 : Nat} (Ia0 : Inst2 σ a0 na0) (k1 : pR mX2_readOne d 5 [(2, a0), (2, 2), (0, x2), (0, x2), (0, 0)] [] σ Q) : pC mX2_readOne d [(2, a0), (2, 2), (0, x2)] σ Q := by
  show pR mX2_readOne d 0 [(2, a0), (2, 2), (0, x2), (9, 0), (9, 0)] [] σ Q
  refine pGo (s_iload_n dX2_readOne_0 rfl) ?_
  refine pGoL (ls2 := [(2, a0), (2, 2), (0, x2), (0, x2), (9, 0)]) (s_istore_n dX2_readOne_1 (by decide) rfl) rfl ?_
  refine pGo (s_iconst dX2_readOne_2) ?_
  refine pGoL (ls2 := [(2, a0), (2, 2), (0, x2), (0, x2), (0, 0)]) (s_istore dX2_readOne_3 (by decide) rfl) rfl ?_
  exact k1
set_option maxRecDepth 100000 in
theorem g_X2_readOne_5 {d : Nat} {σ : pS} {Q : Option pV → pS → Prop} {Q1 : Option pV → pS → Prop} {Q2 : Option pV → pS → Prop} {Q3 : Option pV → pS → Prop} {Q4 : Option pV → pS → Prop} {Q5 : Option pV → pS → Prop} {Q6 : Option pV → pS → Prop} {Q7 : Option pV → pS → Prop} {Q8 : Option pV → pS → Prop} {Q9 : Option pV → pS → Prop} {Q10 : Option pV → pS → Prop} (hd : 12 ≤ d) (hst : Stat σ) (x0 : Int) (x2 : Int) (x3 : Int) (x4 : Int) {nx0 : Nat} (Ix0 : Inst2 σ x0 nx0) (g1 : inR x4) (f1 : ∀ (c1 : 500 ≤ x4), pC mX9_kind 0 [(2, 2)] σ (fun r τ => r = some (0, (vTkK σ)) ∧ τ = σ)) (g2 : ∀ (c1 : 500 ≤ x4), inR (vTkK σ)) (f2 : ∀ (c1 : 500 ≤ x4) (c3 : (vTkK σ) ≠ 40), pC mX2_readComparison 3 [(2, x0), (2, 2)] σ Q1) (g3 : ∀ (c1 : 500 ≤ x4) (c3 : (vTkK σ) ≠ 40) (v2 : Int) (b2 : v2 = 0 ∨ v2 = 1) (τ2 : pS) (e2 : pLe σ τ2) (q2 : Q1 (some (0, v2)) τ2), 0 ≤ (x3 - x2) ∧ (x3 - x2) < 2147483648) (g4 : ∀ (c1 : 500 ≤ x4) (c3 : (vTkK σ) ≠ 40) (v2 : Int) (b2 : v2 = 0 ∨ v2 = 1) (τ2 : pS) (e2 : pLe σ τ2) (q2 : Q1 (some (0, v2)) τ2), inR ((x3 - x2) % 2)) (k1 : ∀ (c1 : 500 ≤ x4) (c3 : (vTkK σ) ≠ 40) (v2 : Int) (b2 : v2 = 0 ∨ v2 = 1) (τ2 : pS) (e2 : pLe σ τ2) (q2 : Q1 (some (0, v2)) τ2) (c5 : ((x3 - x2) % 2) = 0), Q (some (0, v2)) τ2) (f3 : ∀ (c1 : 500 ≤ x4) (c3 : (vTkK σ) ≠ 40) (v2 : Int) (b2 : v2 = 0 ∨ v2 = 1) (τ2 : pS) (e2 : pLe σ τ2) (q2 : Q1 (some (0, v2)) τ2) (c6 : ((x3 - x2) % 2) ≠ 0), pC mX2_put 0 [(2, x0), (0, 14), (0, 0)] τ2 Q2) (k2 : ∀ (c1 : 500 ≤ x4) (c3 : (vTkK σ) ≠ 40) (v2 : Int) (b2 : v2 = 0 ∨ v2 = 1) (τ2 : pS) (e2 : pLe σ τ2) (q2 : Q1 (some (0, v2)) τ2) (c6 : ((x3 - x2) % 2) ≠ 0) (τ3 : pS) (e3 : pLe τ2 τ3) (q3 : Q2 none τ3), Q (some (0, v2)) τ3) (f4 : ∀ (c1 : 500 ≤ x4) (c4 : (vTkK σ) = 40), pC mX2_readNested (d - 1) [(2, x0), (2, 2), (0, x3)] σ Q3) (g5 : ∀ (c1 : 500 ≤ x4) (c4 : (vTkK σ) = 40) (v4 : Int) (b4 : v4 = 0 ∨ v4 = 1) (τ4 : pS) (e4 : pLe σ τ4) (q4 : Q3 (some (0, v4)) τ4), 0 ≤ (x3 - x2) ∧ (x3 - x2) < 2147483648) (g6 : ∀ (c1 : 500 ≤ x4) (c4 : (vTkK σ) = 40) (v4 : Int) (b4 : v4 = 0 ∨ v4 = 1) (τ4 : pS) (e4 : pLe σ τ4) (q4 : Q3 (some (0, v4)) τ4), inR ((x3 - x2) % 2)) (k3 : ∀ (c1 : 500 ≤ x4) (c4 : (vTkK σ) = 40) (v4 : Int) (b4 : v4 = 0 ∨ v4 = 1) (τ4 : pS) (e4 : pLe σ τ4) (q4 : Q3 (some (0, v4)) τ4) (c7 : ((x3 - x2) % 2) = 0), Q (some (0, v4)) τ4) (f5 : ∀ (c1 : 500 ≤ x4) (c4 : (vTkK σ) = 40) (v4 : Int) (b4 : v4 = 0 ∨ v4 = 1) (τ4 : pS) (e4 : pLe σ τ4) (q4 : Q3 (some (0, v4)) τ4) (c8 : ((x3 - x2) % 2) ≠ 0), pC mX2_put 0 [(2, x0), (0, 14), (0, 0)] τ4 Q4) (k4 : ∀ (c1 : 500 ≤ x4) (c4 : (vTkK σ) = 40) (v4 : Int) (b4 : v4 = 0 ∨ v4 = 1) (τ4 : pS) (e4 : pLe σ τ4) (q4 : Q3 (some (0, v4)) τ4) (c8 : ((x3 - x2) % 2) ≠ 0) (τ5 : pS) (e5 : pLe τ4 τ5) (q5 : Q4 none τ5), Q (some (0, v4)) τ5) (f6 : ∀ (c2 : x4 < 500), pC mX9_kind 0 [(2, 2)] σ (fun r τ => r = some (0, (vTkK σ)) ∧ τ = σ)) (g7 : ∀ (c2 : x4 < 500), inR (vTkK σ)) (f7 : ∀ (c2 : x4 < 500) (c9 : (vTkK σ) ≠ 14), pC mX9_kind 0 [(2, 2)] σ (fun r τ => r = some (0, (vTkK σ)) ∧ τ = σ)) (f8 : ∀ (c2 : x4 < 500) (c9 : (vTkK σ) ≠ 14) (c11 : (vTkK σ) ≠ 40), pC mX2_readComparison 3 [(2, x0), (2, 2)] σ Q5) (g8 : ∀ (c2 : x4 < 500) (c9 : (vTkK σ) ≠ 14) (c11 : (vTkK σ) ≠ 40) (v8 : Int) (b8 : v8 = 0 ∨ v8 = 1) (τ8 : pS) (e8 : pLe σ τ8) (q8 : Q5 (some (0, v8)) τ8), 0 ≤ (x3 - x2) ∧ (x3 - x2) < 2147483648) (g9 : ∀ (c2 : x4 < 500) (c9 : (vTkK σ) ≠ 14) (c11 : (vTkK σ) ≠ 40) (v8 : Int) (b8 : v8 = 0 ∨ v8 = 1) (τ8 : pS) (e8 : pLe σ τ8) (q8 : Q5 (some (0, v8)) τ8), inR ((x3 - x2) % 2)) (k5 : ∀ (c2 : x4 < 500) (c9 : (vTkK σ) ≠ 14) (c11 : (vTkK σ) ≠ 40) (v8 : Int) (b8 : v8 = 0 ∨ v8 = 1) (τ8 : pS) (e8 : pLe σ τ8) (q8 : Q5 (some (0, v8)) τ8) (c13 : ((x3 - x2) % 2) = 0), Q (some (0, v8)) τ8) (f9 : ∀ (c2 : x4 < 500) (c9 : (vTkK σ) ≠ 14) (c11 : (vTkK σ) ≠ 40) (v8 : Int) (b8 : v8 = 0 ∨ v8 = 1) (τ8 : pS) (e8 : pLe σ τ8) (q8 : Q5 (some (0, v8)) τ8) (c14 : ((x3 - x2) % 2) ≠ 0), pC mX2_put 0 [(2, x0), (0, 14), (0, 0)] τ8 Q6) (k6 : ∀ (c2 : x4 < 500) (c9 : (vTkK σ) ≠ 14) (c11 : (vTkK σ) ≠ 40) (v8 : Int) (b8 : v8 = 0 ∨ v8 = 1) (τ8 : pS) (e8 : pLe σ τ8) (q8 : Q5 (some (0, v8)) τ8) (c14 : ((x3 - x2) % 2) ≠ 0) (τ9 : pS) (e9 : pLe τ8 τ9) (q9 : Q6 none τ9), Q (some (0, v8)) τ9) (f10 : ∀ (c2 : x4 < 500) (c9 : (vTkK σ) ≠ 14) (c12 : (vTkK σ) = 40), pC mX2_readNested (d - 1) [(2, x0), (2, 2), (0, x3)] σ Q7) (g10 : ∀ (c2 : x4 < 500) (c9 : (vTkK σ) ≠ 14) (c12 : (vTkK σ) = 40) (v10 : Int) (b10 : v10 = 0 ∨ v10 = 1) (τ10 : pS) (e10 : pLe σ τ10) (q10 : Q7 (some (0, v10)) τ10), 0 ≤ (x3 - x2) ∧ (x3 - x2) < 2147483648) (g11 : ∀ (c2 : x4 < 500) (c9 : (vTkK σ) ≠ 14) (c12 : (vTkK σ) = 40) (v10 : Int) (b10 : v10 = 0 ∨ v10 = 1) (τ10 : pS) (e10 : pLe σ τ10) (q10 : Q7 (some (0, v10)) τ10), inR ((x3 - x2) % 2)) (k7 : ∀ (c2 : x4 < 500) (c9 : (vTkK σ) ≠ 14) (c12 : (vTkK σ) = 40) (v10 : Int) (b10 : v10 = 0 ∨ v10 = 1) (τ10 : pS) (e10 : pLe σ τ10) (q10 : Q7 (some (0, v10)) τ10) (c15 : ((x3 - x2) % 2) = 0), Q (some (0, v10)) τ10) (f11 : ∀ (c2 : x4 < 500) (c9 : (vTkK σ) ≠ 14) (c12 : (vTkK σ) = 40) (v10 : Int) (b10 : v10 = 0 ∨ v10 = 1) (τ10 : pS) (e10 : pLe σ τ10) (q10 : Q7 (some (0, v10)) τ10) (c16 : ((x3 - x2) % 2) ≠ 0), pC mX2_put 0 [(2, x0), (0, 14), (0, 0)] τ10 Q8) (k8 : ∀ (c2 : x4 < 500) (c9 : (vTkK σ) ≠ 14) (c12 : (vTkK σ) = 40) (v10 : Int) (b10 : v10 = 0 ∨ v10 = 1) (τ10 : pS) (e10 : pLe σ τ10) (q10 : Q7 (some (0, v10)) τ10) (c16 : ((x3 - x2) % 2) ≠ 0) (τ11 : pS) (e11 : pLe τ10 τ11) (q11 : Q8 none τ11), Q (some (0, v10)) τ11) (g12 : ∀ (c2 : x4 < 500) (c10 : (vTkK σ) = 14), inR x3) (f12 : ∀ (c2 : x4 < 500) (c10 : (vTkK σ) = 14) (c17 : x3 ≤ 6), pC mX9_step 0 [(2, 2)] σ Q9) (k9 : ∀ (c2 : x4 < 500) (c10 : (vTkK σ) = 14) (c17 : x3 ≤ 6) (τ12 : pS) (e12 : pLe σ τ12) (q12 : Q9 none τ12), pR mX2_readOne d 5 [(2, x0), (2, 2), (0, x2), (0, (x3 + 1)), (0, (x4 + 1))] [] τ12 Q) (f13 : ∀ (c2 : x4 < 500) (c10 : (vTkK σ) = 14) (c18 : 6 < x3), pC mX9_fail 0 [(2, 2), (0, 2)] σ Q10) (k10 : ∀ (c2 : x4 < 500) (c10 : (vTkK σ) = 14) (c18 : 6 < x3) (v13 : Int) (b13 : v13 = 0 ∨ v13 = 1) (τ13 : pS) (e13 : pLe σ τ13) (q13 : Q10 (some (0, v13)) τ13), Q (some (0, v13)) τ13) : pR mX2_readOne d 5 [(2, x0), (2, 2), (0, x2), (0, x3), (0, x4)] [] σ Q := by
  refine pGo (s_iload dX2_readOne_5 rfl) ?_
  refine pGo (s_sipush dX2_readOne_7 (by decide)) ?_
  refine p_icge (tgt := 47) dX2_readOne_10 (by decide) g1 (by decide) (fun c1 => ?_) (fun c2 => ?_)
  · refine pGo (s_aload_n dX2_readOne_47 rfl (by decide)) ?_
    refine p_callV (As := []) (st := []) (n := 0) (d' := 0) (Q1 := (fun r τ => r = some (0, (vTkK σ)) ∧ τ = σ)) pc9 ok_X9_kind ml_X2_71 im_X9_kind se_X9_kind dX2_readOne_48 (ob_2 hst) (pargs_of rfl) rfl (Nat.le_of_ble_eq_true rfl) (by omega) (f1 c1) (fun r1 τ1 e1 q1 w1 => ?_)
    obtain ⟨rfl, t1⟩ := q1
    rw [t1]
    show pR mX2_readOne d 51 [(2, x0), (2, 2), (0, x2), (0, x3), (0, x4)] [(0, (vTkK σ))] σ Q
    refine pGo (s_bipush dX2_readOne_51 (by decide)) ?_
    refine p_icne (tgt := 65) dX2_readOne_53 (by decide) (g2 c1) (by decide) (fun c3 => ?_) (fun c4 => ?_)
    · refine pGo (s_aload_n dX2_readOne_65 rfl Ix0.pos) ?_
      refine pGo (s_aload_n dX2_readOne_66 rfl (by decide)) ?_
      refine p_callV (As := [(2, 2)]) (st := []) (n := 1) (d' := 3) (Q1 := Q1) pc2 ok_X2_readComparison ml_X2_118 im_X2_readComparison se_X2_readComparison dX2_readOne_67 Ix0.o0 (pargs_of rfl) rfl (Nat.le_of_ble_eq_true rfl) (by omega) (f2 c1 c3) (fun r2 τ2 e2 q2 w2 => ?_)
      obtain ⟨v2, rfl, b2⟩ := pRok_z w2
      have S2 : Stat τ2 := (Stat.le (σ := σ) hst e2)
      have J2_0 : Inst2 τ2 x0 nx0 := Inst2.le (σ := σ) Ix0 e2
      show pR mX2_readOne d 70 [(2, x0), (2, 2), (0, x2), (0, x3), (0, x4)] [(0, v2)] τ2 Q
      refine pGoL (ls2 := [(2, x0), (2, 2), (0, x2), (0, x3), (0, v2)]) (s_istore dX2_readOne_70 (by decide) rfl) rfl ?_
      refine pGo (s_iload_n dX2_readOne_72 rfl) ?_
      refine pGo (s_iload_n dX2_readOne_73 rfl) ?_
      refine pGo (s_isub dX2_readOne_74) ?_
      refine pGo (s_iconst dX2_readOne_75) ?_
      refine pGo (s_iremp dX2_readOne_76 (g3 c1 c3 v2 b2 τ2 e2 q2) (by decide)) ?_
      refine p_ifeq (tgt := 87) dX2_readOne_77 (by decide) (g4 c1 c3 v2 b2 τ2 e2 q2) (fun c5 => ?_) (fun c6 => ?_)
      · refine pGo (s_iload dX2_readOne_87 rfl) ?_
        exact pEnd (r := (some (0, v2))) dX2_readOne_89 (pRok_01 b2) (k1 c1 c3 v2 b2 τ2 e2 q2 c5)
      · refine pGo (s_aload_n dX2_readOne_80 rfl J2_0.pos) ?_
        refine pGo (s_bipush dX2_readOne_81 (by decide)) ?_
        refine pGo (s_iconst dX2_readOne_83) ?_
        refine p_callV (As := [(0, 14), (0, 0)]) (st := []) (n := 2) (d' := 0) (Q1 := Q2) pc2 ok_X2_put ml_X2_108 im_X2_put se_X2_put dX2_readOne_84 J2_0.o0 (pargs_of rfl) rfl (Nat.le_of_ble_eq_true rfl) (by omega) (f3 c1 c3 v2 b2 τ2 e2 q2 c6) (fun r3 τ3 e3 q3 w3 => ?_)
        obtain rfl : r3 = none := w3
        have S3 : Stat τ3 := (Stat.le (σ := τ2) S2 e3)
        have J3_0 : Inst2 τ3 x0 nx0 := Inst2.le (σ := τ2) J2_0 e3
        show pR mX2_readOne d 87 [(2, x0), (2, 2), (0, x2), (0, x3), (0, v2)] [] τ3 Q
        refine pGo (s_iload dX2_readOne_87 rfl) ?_
        exact pEnd (r := (some (0, v2))) dX2_readOne_89 (pRok_01 b2) (k2 c1 c3 v2 b2 τ2 e2 q2 c6 τ3 e3 q3)
    · refine pGo (s_aload_n dX2_readOne_56 rfl Ix0.pos) ?_
      refine pGo (s_aload_n dX2_readOne_57 rfl (by decide)) ?_
      refine pGo (s_iload_n dX2_readOne_58 rfl) ?_
      refine p_callV (As := [(2, 2), (0, x3)]) (st := []) (n := 2) (d' := (d - 1)) (Q1 := Q3) pc2 ok_X2_readNested ml_X2_115 im_X2_readNested se_X2_readNested dX2_readOne_59 Ix0.o0 (pargs_of rfl) rfl (Nat.le_of_ble_eq_true rfl) (by omega) (f4 c1 c4) (fun r4 τ4 e4 q4 w4 => ?_)
      obtain ⟨v4, rfl, b4⟩ := pRok_z w4
      have S4 : Stat τ4 := (Stat.le (σ := σ) hst e4)
      have J4_0 : Inst2 τ4 x0 nx0 := Inst2.le (σ := σ) Ix0 e4
      show pR mX2_readOne d 62 [(2, x0), (2, 2), (0, x2), (0, x3), (0, x4)] [(0, v4)] τ4 Q
      refine pGo (s_goto (tgt := 70) dX2_readOne_62 (by decide)) ?_
      refine pGoL (ls2 := [(2, x0), (2, 2), (0, x2), (0, x3), (0, v4)]) (s_istore dX2_readOne_70 (by decide) rfl) rfl ?_
      refine pGo (s_iload_n dX2_readOne_72 rfl) ?_
      refine pGo (s_iload_n dX2_readOne_73 rfl) ?_
      refine pGo (s_isub dX2_readOne_74) ?_
      refine pGo (s_iconst dX2_readOne_75) ?_
      refine pGo (s_iremp dX2_readOne_76 (g5 c1 c4 v4 b4 τ4 e4 q4) (by decide)) ?_
      refine p_ifeq (tgt := 87) dX2_readOne_77 (by decide) (g6 c1 c4 v4 b4 τ4 e4 q4) (fun c7 => ?_) (fun c8 => ?_)
      · refine pGo (s_iload dX2_readOne_87 rfl) ?_
        exact pEnd (r := (some (0, v4))) dX2_readOne_89 (pRok_01 b4) (k3 c1 c4 v4 b4 τ4 e4 q4 c7)
      · refine pGo (s_aload_n dX2_readOne_80 rfl J4_0.pos) ?_
        refine pGo (s_bipush dX2_readOne_81 (by decide)) ?_
        refine pGo (s_iconst dX2_readOne_83) ?_
        refine p_callV (As := [(0, 14), (0, 0)]) (st := []) (n := 2) (d' := 0) (Q1 := Q4) pc2 ok_X2_put ml_X2_108 im_X2_put se_X2_put dX2_readOne_84 J4_0.o0 (pargs_of rfl) rfl (Nat.le_of_ble_eq_true rfl) (by omega) (f5 c1 c4 v4 b4 τ4 e4 q4 c8) (fun r5 τ5 e5 q5 w5 => ?_)
        obtain rfl : r5 = none := w5
        have S5 : Stat τ5 := (Stat.le (σ := τ4) S4 e5)
        have J5_0 : Inst2 τ5 x0 nx0 := Inst2.le (σ := τ4) J4_0 e5
        show pR mX2_readOne d 87 [(2, x0), (2, 2), (0, x2), (0, x3), (0, v4)] [] τ5 Q
        refine pGo (s_iload dX2_readOne_87 rfl) ?_
        exact pEnd (r := (some (0, v4))) dX2_readOne_89 (pRok_01 b4) (k4 c1 c4 v4 b4 τ4 e4 q4 c8 τ5 e5 q5)
  · refine pGo (s_aload_n dX2_readOne_13 rfl (by decide)) ?_
    refine p_callV (As := []) (st := []) (n := 0) (d' := 0) (Q1 := (fun r τ => r = some (0, (vTkK σ)) ∧ τ = σ)) pc9 ok_X9_kind ml_X2_71 im_X9_kind se_X9_kind dX2_readOne_14 (ob_2 hst) (pargs_of rfl) rfl (Nat.le_of_ble_eq_true rfl) (by omega) (f6 c2) (fun r6 τ6 e6 q6 w6 => ?_)
    obtain ⟨rfl, t6⟩ := q6
    rw [t6]
    show pR mX2_readOne d 17 [(2, x0), (2, 2), (0, x2), (0, x3), (0, x4)] [(0, (vTkK σ))] σ Q
    refine pGo (s_bipush dX2_readOne_17 (by decide)) ?_
    refine p_icne (tgt := 47) dX2_readOne_19 (by decide) (g7 c2) (by decide) (fun c9 => ?_) (fun c10 => ?_)
    · refine pGo (s_aload_n dX2_readOne_47 rfl (by decide)) ?_
      refine p_callV (As := []) (st := []) (n := 0) (d' := 0) (Q1 := (fun r τ => r = some (0, (vTkK σ)) ∧ τ = σ)) pc9 ok_X9_kind ml_X2_71 im_X9_kind se_X9_kind dX2_readOne_48 (ob_2 hst) (pargs_of rfl) rfl (Nat.le_of_ble_eq_true rfl) (by omega) (f7 c2 c9) (fun r7 τ7 e7 q7 w7 => ?_)
      obtain ⟨rfl, t7⟩ := q7
      rw [t7]
      show pR mX2_readOne d 51 [(2, x0), (2, 2), (0, x2), (0, x3), (0, x4)] [(0, (vTkK σ))] σ Q
      refine pGo (s_bipush dX2_readOne_51 (by decide)) ?_
      refine p_icne (tgt := 65) dX2_readOne_53 (by decide) (g7 c2) (by decide) (fun c11 => ?_) (fun c12 => ?_)
      · refine pGo (s_aload_n dX2_readOne_65 rfl Ix0.pos) ?_
        refine pGo (s_aload_n dX2_readOne_66 rfl (by decide)) ?_
        refine p_callV (As := [(2, 2)]) (st := []) (n := 1) (d' := 3) (Q1 := Q5) pc2 ok_X2_readComparison ml_X2_118 im_X2_readComparison se_X2_readComparison dX2_readOne_67 Ix0.o0 (pargs_of rfl) rfl (Nat.le_of_ble_eq_true rfl) (by omega) (f8 c2 c9 c11) (fun r8 τ8 e8 q8 w8 => ?_)
        obtain ⟨v8, rfl, b8⟩ := pRok_z w8
        have S8 : Stat τ8 := (Stat.le (σ := σ) hst e8)
        have J8_0 : Inst2 τ8 x0 nx0 := Inst2.le (σ := σ) Ix0 e8
        show pR mX2_readOne d 70 [(2, x0), (2, 2), (0, x2), (0, x3), (0, x4)] [(0, v8)] τ8 Q
        refine pGoL (ls2 := [(2, x0), (2, 2), (0, x2), (0, x3), (0, v8)]) (s_istore dX2_readOne_70 (by decide) rfl) rfl ?_
        refine pGo (s_iload_n dX2_readOne_72 rfl) ?_
        refine pGo (s_iload_n dX2_readOne_73 rfl) ?_
        refine pGo (s_isub dX2_readOne_74) ?_
        refine pGo (s_iconst dX2_readOne_75) ?_
        refine pGo (s_iremp dX2_readOne_76 (g8 c2 c9 c11 v8 b8 τ8 e8 q8) (by decide)) ?_
        refine p_ifeq (tgt := 87) dX2_readOne_77 (by decide) (g9 c2 c9 c11 v8 b8 τ8 e8 q8) (fun c13 => ?_) (fun c14 => ?_)
        · refine pGo (s_iload dX2_readOne_87 rfl) ?_
          exact pEnd (r := (some (0, v8))) dX2_readOne_89 (pRok_01 b8) (k5 c2 c9 c11 v8 b8 τ8 e8 q8 c13)
        · refine pGo (s_aload_n dX2_readOne_80 rfl J8_0.pos) ?_
          refine pGo (s_bipush dX2_readOne_81 (by decide)) ?_
          refine pGo (s_iconst dX2_readOne_83) ?_
          refine p_callV (As := [(0, 14), (0, 0)]) (st := []) (n := 2) (d' := 0) (Q1 := Q6) pc2 ok_X2_put ml_X2_108 im_X2_put se_X2_put dX2_readOne_84 J8_0.o0 (pargs_of rfl) rfl (Nat.le_of_ble_eq_true rfl) (by omega) (f9 c2 c9 c11 v8 b8 τ8 e8 q8 c14) (fun r9 τ9 e9 q9 w9 => ?_)
          obtain rfl : r9 = none := w9
          have S9 : Stat τ9 := (Stat.le (σ := τ8) S8 e9)
          have J9_0 : Inst2 τ9 x0 nx0 := Inst2.le (σ := τ8) J8_0 e9
          show pR mX2_readOne d 87 [(2, x0), (2, 2), (0, x2), (0, x3), (0, v8)] [] τ9 Q
          refine pGo (s_iload dX2_readOne_87 rfl) ?_
          exact pEnd (r := (some (0, v8))) dX2_readOne_89 (pRok_01 b8) (k6 c2 c9 c11 v8 b8 τ8 e8 q8 c14 τ9 e9 q9)
      · refine pGo (s_aload_n dX2_readOne_56 rfl Ix0.pos) ?_
        refine pGo (s_aload_n dX2_readOne_57 rfl (by decide)) ?_
        refine pGo (s_iload_n dX2_readOne_58 rfl) ?_
        refine p_callV (As := [(2, 2), (0, x3)]) (st := []) (n := 2) (d' := (d - 1)) (Q1 := Q7) pc2 ok_X2_readNested ml_X2_115 im_X2_readNested se_X2_readNested dX2_readOne_59 Ix0.o0 (pargs_of rfl) rfl (Nat.le_of_ble_eq_true rfl) (by omega) (f10 c2 c9 c12) (fun r10 τ10 e10 q10 w10 => ?_)
        obtain ⟨v10, rfl, b10⟩ := pRok_z w10
        have S10 : Stat τ10 := (Stat.le (σ := σ) hst e10)
        have J10_0 : Inst2 τ10 x0 nx0 := Inst2.le (σ := σ) Ix0 e10
        show pR mX2_readOne d 62 [(2, x0), (2, 2), (0, x2), (0, x3), (0, x4)] [(0, v10)] τ10 Q
        refine pGo (s_goto (tgt := 70) dX2_readOne_62 (by decide)) ?_
        refine pGoL (ls2 := [(2, x0), (2, 2), (0, x2), (0, x3), (0, v10)]) (s_istore dX2_readOne_70 (by decide) rfl) rfl ?_
        refine pGo (s_iload_n dX2_readOne_72 rfl) ?_
        refine pGo (s_iload_n dX2_readOne_73 rfl) ?_
        refine pGo (s_isub dX2_readOne_74) ?_
        refine pGo (s_iconst dX2_readOne_75) ?_
        refine pGo (s_iremp dX2_readOne_76 (g10 c2 c9 c12 v10 b10 τ10 e10 q10) (by decide)) ?_
        refine p_ifeq (tgt := 87) dX2_readOne_77 (by decide) (g11 c2 c9 c12 v10 b10 τ10 e10 q10) (fun c15 => ?_) (fun c16 => ?_)
        · refine pGo (s_iload dX2_readOne_87 rfl) ?_
          exact pEnd (r := (some (0, v10))) dX2_readOne_89 (pRok_01 b10) (k7 c2 c9 c12 v10 b10 τ10 e10 q10 c15)
        · refine pGo (s_aload_n dX2_readOne_80 rfl J10_0.pos) ?_
          refine pGo (s_bipush dX2_readOne_81 (by decide)) ?_
          refine pGo (s_iconst dX2_readOne_83) ?_
          refine p_callV (As := [(0, 14), (0, 0)]) (st := []) (n := 2) (d' := 0) (Q1 := Q8) pc2 ok_X2_put ml_X2_108 im_X2_put se_X2_put dX2_readOne_84 J10_0.o0 (pargs_of rfl) rfl (Nat.le_of_ble_eq_true rfl) (by omega) (f11 c2 c9 c12 v10 b10 τ10 e10 q10 c16) (fun r11 τ11 e11 q11 w11 => ?_)
          obtain rfl : r11 = none := w11
          have S11 : Stat τ11 := (Stat.le (σ := τ10) S10 e11)
          have J11_0 : Inst2 τ11 x0 nx0 := Inst2.le (σ := τ10) J10_0 e11
          show pR mX2_readOne d 87 [(2, x0), (2, 2), (0, x2), (0, x3), (0, v10)] [] τ11 Q
          refine pGo (s_iload dX2_readOne_87 rfl) ?_
          exact pEnd (r := (some (0, v10))) dX2_readOne_89 (pRok_01 b10) (k8 c2 c9 c12 v10 b10 τ10 e10 q10 c16 τ11 e11 q11)
    · refine pGo (s_iload_n dX2_readOne_22 rfl) ?_
      refine pGo (s_bipush dX2_readOne_23 (by decide)) ?_
      refine p_icle (tgt := 34) dX2_readOne_25 (by decide) (g12 c2 c10) (by decide) (fun c17 => ?_) (fun c18 => ?_)
      · refine pGoL (ls2 := [(2, x0), (2, 2), (0, x2), (0, (x3 + 1)), (0, x4)]) (s_iinc dX2_readOne_34 (by decide) rfl rfl) rfl ?_
        refine pGo (s_aload_n dX2_readOne_37 rfl (by decide)) ?_
        refine p_callV (As := []) (st := []) (n := 0) (d' := 0) (Q1 := Q9) pc9 ok_X9_step ml_X2_95 im_X9_step se_X9_step dX2_readOne_38 (ob_2 hst) (pargs_of rfl) rfl (Nat.le_of_ble_eq_true rfl) (by omega) (f12 c2 c10 c17) (fun r12 τ12 e12 q12 w12 => ?_)
        obtain rfl : r12 = none := w12
        have S12 : Stat τ12 := (Stat.le (σ := σ) hst e12)
        have J12_0 : Inst2 τ12 x0 nx0 := Inst2.le (σ := σ) Ix0 e12
        show pR mX2_readOne d 41 [(2, x0), (2, 2), (0, x2), (0, (x3 + 1)), (0, x4)] [] τ12 Q
        refine pGoL (ls2 := [(2, x0), (2, 2), (0, x2), (0, (x3 + 1)), (0, (x4 + 1))]) (s_iinc dX2_readOne_41 (by decide) rfl rfl) rfl ?_
        refine pGo (s_goto (tgt := 5) dX2_readOne_44 (by decide)) ?_
        exact (k9 c2 c10 c17 τ12 e12 q12)
      · refine pGo (s_aload_n dX2_readOne_28 rfl (by decide)) ?_
        refine pGo (s_iconst dX2_readOne_29) ?_
        refine p_callV (As := [(0, 2)]) (st := []) (n := 1) (d' := 0) (Q1 := Q10) pc9 ok_X9_fail ml_X2_92 im_X9_fail se_X9_fail dX2_readOne_30 (ob_2 hst) (pargs_of rfl) rfl (Nat.le_of_ble_eq_true rfl) (by omega) (f13 c2 c10 c18) (fun r13 τ13 e13 q13 w13 => ?_)
        obtain ⟨v13, rfl, b13⟩ := pRok_z w13
        have S13 : Stat τ13 := (Stat.le (σ := σ) hst e13)
        have J13_0 : Inst2 τ13 x0 nx0 := Inst2.le (σ := σ) Ix0 e13
        show pR mX2_readOne d 33 [(2, x0), (2, 2), (0, x2), (0, x3), (0, x4)] [(0, v13)] τ13 Q
        exact pEnd (r := (some (0, v13))) dX2_readOne_33 (pRok_01 b13) (k10 c2 c10 c18 v13 b13 τ13 e13 q13)
set_option maxRecDepth 100000 in
theorem g_X2_readBoth_0 {d : Nat} {σ : pS} {Q : Option pV → pS → Prop} {Q1 : Option pV → pS → Prop} (hd : 12 ≤ d) (hst : Stat σ) (a0 : Int) (x2 : Int) {na0 : Nat} (Ia0 : Inst2 σ a0 na0) (f1 : pC mX2_readOne (d - 1) [(2, a0), (2, 2), (0, x2)] σ Q1) (k1 : ∀ (v1 : Int) (b1 : v1 = 0 ∨ v1 = 1) (τ1 : pS) (e1 : pLe σ τ1) (q1 : Q1 (some (0, v1)) τ1), pR mX2_readBoth d 10 [(2, a0), (2, 2), (0, x2), (0, v1), (0, 0)] [] τ1 Q) : pC mX2_readBoth d [(2, a0), (2, 2), (0, x2)] σ Q := by
  show pR mX2_readBoth d 0 [(2, a0), (2, 2), (0, x2), (9, 0), (9, 0)] [] σ Q
  refine pGo (s_aload_n dX2_readBoth_0 rfl Ia0.pos) ?_
  refine pGo (s_aload_n dX2_readBoth_1 rfl (by decide)) ?_
  refine pGo (s_iload_n dX2_readBoth_2 rfl) ?_
  refine p_callV (As := [(2, 2), (0, x2)]) (st := []) (n := 2) (d' := (d - 1)) (Q1 := Q1) pc2 ok_X2_readOne ml_X2_112 im_X2_readOne se_X2_readOne dX2_readBoth_3 Ia0.o0 (pargs_of rfl) rfl (Nat.le_of_ble_eq_true rfl) (by omega) f1 (fun r1 τ1 e1 q1 w1 => ?_)
  obtain ⟨v1, rfl, b1⟩ := pRok_z w1
  have S1 : Stat τ1 := (Stat.le (σ := σ) hst e1)
  have J1_0 : Inst2 τ1 a0 na0 := Inst2.le (σ := σ) Ia0 e1
  show pR mX2_readBoth d 6 [(2, a0), (2, 2), (0, x2), (9, 0), (9, 0)] [(0, v1)] τ1 Q
  refine pGoL (ls2 := [(2, a0), (2, 2), (0, x2), (0, v1), (9, 0)]) (s_istore_n dX2_readBoth_6 (by decide) rfl) rfl ?_
  refine pGo (s_iconst dX2_readBoth_7) ?_
  refine pGoL (ls2 := [(2, a0), (2, 2), (0, x2), (0, v1), (0, 0)]) (s_istore dX2_readBoth_8 (by decide) rfl) rfl ?_
  exact (k1 v1 b1 τ1 e1 q1)
set_option maxRecDepth 100000 in
theorem g_X2_readBoth_10 {d : Nat} {σ : pS} {Q : Option pV → pS → Prop} {Q1 : Option pV → pS → Prop} {Q2 : Option pV → pS → Prop} {Q3 : Option pV → pS → Prop} (hd : 12 ≤ d) (hst : Stat σ) (x0 : Int) (x2 : Int) (x3 : Int) (x4 : Int) {nx0 : Nat} (Ix0 : Inst2 σ x0 nx0) (g1 : inR x4) (k1 : ∀ (c1 : 500 ≤ x4), Q (some (0, x3)) σ) (g2 : ∀ (c1 : 500 ≤ x4), x3 = 0 ∨ x3 = 1) (g3 : ∀ (c2 : x4 < 500), inR x3) (k2 : ∀ (c2 : x4 < 500) (c3 : x3 = 0), Q (some (0, x3)) σ) (g4 : ∀ (c2 : x4 < 500) (c3 : x3 = 0), x3 = 0 ∨ x3 = 1) (f1 : ∀ (c2 : x4 < 500) (c4 : x3 ≠ 0), pC mX9_kind 0 [(2, 2)] σ (fun r τ => r = some (0, (vTkK σ)) ∧ τ = σ)) (g5 : ∀ (c2 : x4 < 500) (c4 : x3 ≠ 0), inR (vTkK σ)) (k3 : ∀ (c2 : x4 < 500) (c4 : x3 ≠ 0) (c5 : (vTkK σ) ≠ 13), Q (some (0, x3)) σ) (g6 : ∀ (c2 : x4 < 500) (c4 : x3 ≠ 0) (c5 : (vTkK σ) ≠ 13), x3 = 0 ∨ x3 = 1) (f2 : ∀ (c2 : x4 < 500) (c4 : x3 ≠ 0) (c6 : (vTkK σ) = 13), pC mX9_step 0 [(2, 2)] σ Q1) (f3 : ∀ (c2 : x4 < 500) (c4 : x3 ≠ 0) (c6 : (vTkK σ) = 13) (τ2 : pS) (e2 : pLe σ τ2) (q2 : Q1 none τ2), pC mX2_readOne (d - 1) [(2, x0), (2, 2), (0, x2)] τ2 Q2) (f4 : ∀ (c2 : x4 < 500) (c4 : x3 ≠ 0) (c6 : (vTkK σ) = 13) (τ2 : pS) (e2 : pLe σ τ2) (q2 : Q1 none τ2) (v3 : Int) (b3 : v3 = 0 ∨ v3 = 1) (τ3 : pS) (e3 : pLe τ2 τ3) (q3 : Q2 (some (0, v3)) τ3), pC mX2_put 0 [(2, x0), (0, 13), (0, 0)] τ3 Q3) (k4 : ∀ (c2 : x4 < 500) (c4 : x3 ≠ 0) (c6 : (vTkK σ) = 13) (τ2 : pS) (e2 : pLe σ τ2) (q2 : Q1 none τ2) (v3 : Int) (b3 : v3 = 0 ∨ v3 = 1) (τ3 : pS) (e3 : pLe τ2 τ3) (q3 : Q2 (some (0, v3)) τ3) (τ4 : pS) (e4 : pLe τ3 τ4) (q4 : Q3 none τ4), pR mX2_readBoth d 10 [(2, x0), (2, 2), (0, x2), (0, v3), (0, (x4 + 1))] [] τ4 Q) : pR mX2_readBoth d 10 [(2, x0), (2, 2), (0, x2), (0, x3), (0, x4)] [] σ Q := by
  refine pGo (s_iload dX2_readBoth_10 rfl) ?_
  refine pGo (s_sipush dX2_readBoth_12 (by decide)) ?_
  refine p_icge (tgt := 55) dX2_readBoth_15 (by decide) g1 (by decide) (fun c1 => ?_) (fun c2 => ?_)
  · refine pGo (s_iload_n dX2_readBoth_55 rfl) ?_
    exact pEnd (r := (some (0, x3))) dX2_readBoth_56 (pRok_01 (g2 c1)) (k1 c1)
  · refine pGo (s_iload_n dX2_readBoth_18 rfl) ?_
    refine p_ifeq (tgt := 55) dX2_readBoth_19 (by decide) (g3 c2) (fun c3 => ?_) (fun c4 => ?_)
    · refine pGo (s_iload_n dX2_readBoth_55 rfl) ?_
      exact pEnd (r := (some (0, x3))) dX2_readBoth_56 (pRok_01 (g4 c2 c3)) (k2 c2 c3)
    · refine pGo (s_aload_n dX2_readBoth_22 rfl (by decide)) ?_
      refine p_callV (As := []) (st := []) (n := 0) (d' := 0) (Q1 := (fun r τ => r = some (0, (vTkK σ)) ∧ τ = σ)) pc9 ok_X9_kind ml_X2_71 im_X9_kind se_X9_kind dX2_readBoth_23 (ob_2 hst) (pargs_of rfl) rfl (Nat.le_of_ble_eq_true rfl) (by omega) (f1 c2 c4) (fun r1 τ1 e1 q1 w1 => ?_)
      obtain ⟨rfl, t1⟩ := q1
      rw [t1]
      show pR mX2_readBoth d 26 [(2, x0), (2, 2), (0, x2), (0, x3), (0, x4)] [(0, (vTkK σ))] σ Q
      refine pGo (s_bipush dX2_readBoth_26 (by decide)) ?_
      refine p_icne (tgt := 55) dX2_readBoth_28 (by decide) (g5 c2 c4) (by decide) (fun c5 => ?_) (fun c6 => ?_)
      · refine pGo (s_iload_n dX2_readBoth_55 rfl) ?_
        exact pEnd (r := (some (0, x3))) dX2_readBoth_56 (pRok_01 (g6 c2 c4 c5)) (k3 c2 c4 c5)
      · refine pGo (s_aload_n dX2_readBoth_31 rfl (by decide)) ?_
        refine p_callV (As := []) (st := []) (n := 0) (d' := 0) (Q1 := Q1) pc9 ok_X9_step ml_X2_95 im_X9_step se_X9_step dX2_readBoth_32 (ob_2 hst) (pargs_of rfl) rfl (Nat.le_of_ble_eq_true rfl) (by omega) (f2 c2 c4 c6) (fun r2 τ2 e2 q2 w2 => ?_)
        obtain rfl : r2 = none := w2
        have S2 : Stat τ2 := (Stat.le (σ := σ) hst e2)
        have J2_0 : Inst2 τ2 x0 nx0 := Inst2.le (σ := σ) Ix0 e2
        show pR mX2_readBoth d 35 [(2, x0), (2, 2), (0, x2), (0, x3), (0, x4)] [] τ2 Q
        refine pGo (s_aload_n dX2_readBoth_35 rfl J2_0.pos) ?_
        refine pGo (s_aload_n dX2_readBoth_36 rfl (by decide)) ?_
        refine pGo (s_iload_n dX2_readBoth_37 rfl) ?_
        refine p_callV (As := [(2, 2), (0, x2)]) (st := []) (n := 2) (d' := (d - 1)) (Q1 := Q2) pc2 ok_X2_readOne ml_X2_112 im_X2_readOne se_X2_readOne dX2_readBoth_38 J2_0.o0 (pargs_of rfl) rfl (Nat.le_of_ble_eq_true rfl) (by omega) (f3 c2 c4 c6 τ2 e2 q2) (fun r3 τ3 e3 q3 w3 => ?_)
        obtain ⟨v3, rfl, b3⟩ := pRok_z w3
        have S3 : Stat τ3 := (Stat.le (σ := τ2) S2 e3)
        have J3_0 : Inst2 τ3 x0 nx0 := Inst2.le (σ := τ2) J2_0 e3
        show pR mX2_readBoth d 41 [(2, x0), (2, 2), (0, x2), (0, x3), (0, x4)] [(0, v3)] τ3 Q
        refine pGoL (ls2 := [(2, x0), (2, 2), (0, x2), (0, v3), (0, x4)]) (s_istore_n dX2_readBoth_41 (by decide) rfl) rfl ?_
        refine pGo (s_aload_n dX2_readBoth_42 rfl J3_0.pos) ?_
        refine pGo (s_bipush dX2_readBoth_43 (by decide)) ?_
        refine pGo (s_iconst dX2_readBoth_45) ?_
        refine p_callV (As := [(0, 13), (0, 0)]) (st := []) (n := 2) (d' := 0) (Q1 := Q3) pc2 ok_X2_put ml_X2_108 im_X2_put se_X2_put dX2_readBoth_46 J3_0.o0 (pargs_of rfl) rfl (Nat.le_of_ble_eq_true rfl) (by omega) (f4 c2 c4 c6 τ2 e2 q2 v3 b3 τ3 e3 q3) (fun r4 τ4 e4 q4 w4 => ?_)
        obtain rfl : r4 = none := w4
        have S4 : Stat τ4 := (Stat.le (σ := τ3) S3 e4)
        have J4_0 : Inst2 τ4 x0 nx0 := Inst2.le (σ := τ3) J3_0 e4
        show pR mX2_readBoth d 49 [(2, x0), (2, 2), (0, x2), (0, v3), (0, x4)] [] τ4 Q
        refine pGoL (ls2 := [(2, x0), (2, 2), (0, x2), (0, v3), (0, (x4 + 1))]) (s_iinc dX2_readBoth_49 (by decide) rfl rfl) rfl ?_
        refine pGo (s_goto (tgt := 10) dX2_readBoth_52 (by decide)) ?_
        exact (k4 c2 c4 c6 τ2 e2 q2 v3 b3 τ3 e3 q3 τ4 e4 q4)
set_option maxRecDepth 100000 in
theorem g_X2_readEither_0 {d : Nat} {σ : pS} {Q : Option pV → pS → Prop} {Q1 : Option pV → pS → Prop} {Q2 : Option pV → pS → Prop} (hd : 12 ≤ d) (hst : Stat σ) (a0 : Int) (x2 : Int) {na0 : Nat} (Ia0 : Inst2 σ a0 na0) (g1 : inR x2) (f1 : ∀ (c1 : x2 ≤ 7), pC mX2_readBoth (d - 1) [(2, a0), (2, 2), (0, x2)] σ Q1) (k1 : ∀ (c1 : x2 ≤ 7) (v1 : Int) (b1 : v1 = 0 ∨ v1 = 1) (τ1 : pS) (e1 : pLe σ τ1) (q1 : Q1 (some (0, v1)) τ1), pR mX2_readEither d 22 [(2, a0), (2, 2), (0, x2), (0, v1), (0, 0)] [] τ1 Q) (f2 : ∀ (c2 : 7 < x2), pC mX9_fail 0 [(2, 2), (0, 2)] σ Q2) (k2 : ∀ (c2 : 7 < x2) (v2 : Int) (b2 : v2 = 0 ∨ v2 = 1) (τ2 : pS) (e2 : pLe σ τ2) (q2 : Q2 (some (0, v2)) τ2), Q (some (0, v2)) τ2) : pC mX2_readEither d [(2, a0), (2, 2), (0, x2)] σ Q := by
  show pR mX2_readEither d 0 [(2, a0), (2, 2), (0, x2), (9, 0), (9, 0)] [] σ Q
  refine pGo (s_iload_n dX2_readEither_0 rfl) ?_
  refine pGo (s_bipush dX2_readEither_1 (by decide)) ?_
  refine p_icle (tgt := 12) dX2_readEither_3 (by decide) g1 (by decide) (fun c1 => ?_) (fun c2 => ?_)
  · refine pGo (s_aload_n dX2_readEither_12 rfl Ia0.pos) ?_
    refine pGo (s_aload_n dX2_readEither_13 rfl (by decide)) ?_
    refine pGo (s_iload_n dX2_readEither_14 rfl) ?_
    refine p_callV (As := [(2, 2), (0, x2)]) (st := []) (n := 2) (d' := (d - 1)) (Q1 := Q1) pc2 ok_X2_readBoth ml_X2_105 im_X2_readBoth se_X2_readBoth dX2_readEither_15 Ia0.o0 (pargs_of rfl) rfl (Nat.le_of_ble_eq_true rfl) (by omega) (f1 c1) (fun r1 τ1 e1 q1 w1 => ?_)
    obtain ⟨v1, rfl, b1⟩ := pRok_z w1
    have S1 : Stat τ1 := (Stat.le (σ := σ) hst e1)
    have J1_0 : Inst2 τ1 a0 na0 := Inst2.le (σ := σ) Ia0 e1
    show pR mX2_readEither d 18 [(2, a0), (2, 2), (0, x2), (9, 0), (9, 0)] [(0, v1)] τ1 Q
    refine pGoL (ls2 := [(2, a0), (2, 2), (0, x2), (0, v1), (9, 0)]) (s_istore_n dX2_readEither_18 (by decide) rfl) rfl ?_
    refine pGo (s_iconst dX2_readEither_19) ?_
    refine pGoL (ls2 := [(2, a0), (2, 2), (0, x2), (0, v1), (0, 0)]) (s_istore dX2_readEither_20 (by decide) rfl) rfl ?_
    exact (k1 c1 v1 b1 τ1 e1 q1)
  · refine pGo (s_aload_n dX2_readEither_6 rfl (by decide)) ?_
    refine pGo (s_iconst dX2_readEither_7) ?_
    refine p_callV (As := [(0, 2)]) (st := []) (n := 1) (d' := 0) (Q1 := Q2) pc9 ok_X9_fail ml_X2_92 im_X9_fail se_X9_fail dX2_readEither_8 (ob_2 hst) (pargs_of rfl) rfl (Nat.le_of_ble_eq_true rfl) (by omega) (f2 c2) (fun r2 τ2 e2 q2 w2 => ?_)
    obtain ⟨v2, rfl, b2⟩ := pRok_z w2
    have S2 : Stat τ2 := (Stat.le (σ := σ) hst e2)
    have J2_0 : Inst2 τ2 a0 na0 := Inst2.le (σ := σ) Ia0 e2
    show pR mX2_readEither d 11 [(2, a0), (2, 2), (0, x2), (9, 0), (9, 0)] [(0, v2)] τ2 Q
    exact pEnd (r := (some (0, v2))) dX2_readEither_11 (pRok_01 b2) (k2 c2 v2 b2 τ2 e2 q2)
set_option maxRecDepth 100000 in
theorem g_X2_readEither_22 {d : Nat} {σ : pS} {Q : Option pV → pS → Prop} {Q1 : Option pV → pS → Prop} {Q2 : Option pV → pS → Prop} {Q3 : Option pV → pS → Prop} (hd : 12 ≤ d) (hst : Stat σ) (x0 : Int) (x2 : Int) (x3 : Int) (x4 : Int) {nx0 : Nat} (Ix0 : Inst2 σ x0 nx0) (g1 : inR x4) (k1 : ∀ (c1 : 500 ≤ x4), Q (some (0, x3)) σ) (g2 : ∀ (c1 : 500 ≤ x4), x3 = 0 ∨ x3 = 1) (g3 : ∀ (c2 : x4 < 500), inR x3) (k2 : ∀ (c2 : x4 < 500) (c3 : x3 = 0), Q (some (0, x3)) σ) (g4 : ∀ (c2 : x4 < 500) (c3 : x3 = 0), x3 = 0 ∨ x3 = 1) (f1 : ∀ (c2 : x4 < 500) (c4 : x3 ≠ 0), pC mX9_kind 0 [(2, 2)] σ (fun r τ => r = some (0, (vTkK σ)) ∧ τ = σ)) (g5 : ∀ (c2 : x4 < 500) (c4 : x3 ≠ 0), inR (vTkK σ)) (k3 : ∀ (c2 : x4 < 500) (c4 : x3 ≠ 0) (c5 : (vTkK σ) ≠ 12), Q (some (0, x3)) σ) (g6 : ∀ (c2 : x4 < 500) (c4 : x3 ≠ 0) (c5 : (vTkK σ) ≠ 12), x3 = 0 ∨ x3 = 1) (f2 : ∀ (c2 : x4 < 500) (c4 : x3 ≠ 0) (c6 : (vTkK σ) = 12), pC mX9_step 0 [(2, 2)] σ Q1) (f3 : ∀ (c2 : x4 < 500) (c4 : x3 ≠ 0) (c6 : (vTkK σ) = 12) (τ2 : pS) (e2 : pLe σ τ2) (q2 : Q1 none τ2), pC mX2_readBoth (d - 1) [(2, x0), (2, 2), (0, x2)] τ2 Q2) (f4 : ∀ (c2 : x4 < 500) (c4 : x3 ≠ 0) (c6 : (vTkK σ) = 12) (τ2 : pS) (e2 : pLe σ τ2) (q2 : Q1 none τ2) (v3 : Int) (b3 : v3 = 0 ∨ v3 = 1) (τ3 : pS) (e3 : pLe τ2 τ3) (q3 : Q2 (some (0, v3)) τ3), pC mX2_put 0 [(2, x0), (0, 12), (0, 0)] τ3 Q3) (k4 : ∀ (c2 : x4 < 500) (c4 : x3 ≠ 0) (c6 : (vTkK σ) = 12) (τ2 : pS) (e2 : pLe σ τ2) (q2 : Q1 none τ2) (v3 : Int) (b3 : v3 = 0 ∨ v3 = 1) (τ3 : pS) (e3 : pLe τ2 τ3) (q3 : Q2 (some (0, v3)) τ3) (τ4 : pS) (e4 : pLe τ3 τ4) (q4 : Q3 none τ4), pR mX2_readEither d 22 [(2, x0), (2, 2), (0, x2), (0, v3), (0, (x4 + 1))] [] τ4 Q) : pR mX2_readEither d 22 [(2, x0), (2, 2), (0, x2), (0, x3), (0, x4)] [] σ Q := by
  refine pGo (s_iload dX2_readEither_22 rfl) ?_
  refine pGo (s_sipush dX2_readEither_24 (by decide)) ?_
  refine p_icge (tgt := 67) dX2_readEither_27 (by decide) g1 (by decide) (fun c1 => ?_) (fun c2 => ?_)
  · refine pGo (s_iload_n dX2_readEither_67 rfl) ?_
    exact pEnd (r := (some (0, x3))) dX2_readEither_68 (pRok_01 (g2 c1)) (k1 c1)
  · refine pGo (s_iload_n dX2_readEither_30 rfl) ?_
    refine p_ifeq (tgt := 67) dX2_readEither_31 (by decide) (g3 c2) (fun c3 => ?_) (fun c4 => ?_)
    · refine pGo (s_iload_n dX2_readEither_67 rfl) ?_
      exact pEnd (r := (some (0, x3))) dX2_readEither_68 (pRok_01 (g4 c2 c3)) (k2 c2 c3)
    · refine pGo (s_aload_n dX2_readEither_34 rfl (by decide)) ?_
      refine p_callV (As := []) (st := []) (n := 0) (d' := 0) (Q1 := (fun r τ => r = some (0, (vTkK σ)) ∧ τ = σ)) pc9 ok_X9_kind ml_X2_71 im_X9_kind se_X9_kind dX2_readEither_35 (ob_2 hst) (pargs_of rfl) rfl (Nat.le_of_ble_eq_true rfl) (by omega) (f1 c2 c4) (fun r1 τ1 e1 q1 w1 => ?_)
      obtain ⟨rfl, t1⟩ := q1
      rw [t1]
      show pR mX2_readEither d 38 [(2, x0), (2, 2), (0, x2), (0, x3), (0, x4)] [(0, (vTkK σ))] σ Q
      refine pGo (s_bipush dX2_readEither_38 (by decide)) ?_
      refine p_icne (tgt := 67) dX2_readEither_40 (by decide) (g5 c2 c4) (by decide) (fun c5 => ?_) (fun c6 => ?_)
      · refine pGo (s_iload_n dX2_readEither_67 rfl) ?_
        exact pEnd (r := (some (0, x3))) dX2_readEither_68 (pRok_01 (g6 c2 c4 c5)) (k3 c2 c4 c5)
      · refine pGo (s_aload_n dX2_readEither_43 rfl (by decide)) ?_
        refine p_callV (As := []) (st := []) (n := 0) (d' := 0) (Q1 := Q1) pc9 ok_X9_step ml_X2_95 im_X9_step se_X9_step dX2_readEither_44 (ob_2 hst) (pargs_of rfl) rfl (Nat.le_of_ble_eq_true rfl) (by omega) (f2 c2 c4 c6) (fun r2 τ2 e2 q2 w2 => ?_)
        obtain rfl : r2 = none := w2
        have S2 : Stat τ2 := (Stat.le (σ := σ) hst e2)
        have J2_0 : Inst2 τ2 x0 nx0 := Inst2.le (σ := σ) Ix0 e2
        show pR mX2_readEither d 47 [(2, x0), (2, 2), (0, x2), (0, x3), (0, x4)] [] τ2 Q
        refine pGo (s_aload_n dX2_readEither_47 rfl J2_0.pos) ?_
        refine pGo (s_aload_n dX2_readEither_48 rfl (by decide)) ?_
        refine pGo (s_iload_n dX2_readEither_49 rfl) ?_
        refine p_callV (As := [(2, 2), (0, x2)]) (st := []) (n := 2) (d' := (d - 1)) (Q1 := Q2) pc2 ok_X2_readBoth ml_X2_105 im_X2_readBoth se_X2_readBoth dX2_readEither_50 J2_0.o0 (pargs_of rfl) rfl (Nat.le_of_ble_eq_true rfl) (by omega) (f3 c2 c4 c6 τ2 e2 q2) (fun r3 τ3 e3 q3 w3 => ?_)
        obtain ⟨v3, rfl, b3⟩ := pRok_z w3
        have S3 : Stat τ3 := (Stat.le (σ := τ2) S2 e3)
        have J3_0 : Inst2 τ3 x0 nx0 := Inst2.le (σ := τ2) J2_0 e3
        show pR mX2_readEither d 53 [(2, x0), (2, 2), (0, x2), (0, x3), (0, x4)] [(0, v3)] τ3 Q
        refine pGoL (ls2 := [(2, x0), (2, 2), (0, x2), (0, v3), (0, x4)]) (s_istore_n dX2_readEither_53 (by decide) rfl) rfl ?_
        refine pGo (s_aload_n dX2_readEither_54 rfl J3_0.pos) ?_
        refine pGo (s_bipush dX2_readEither_55 (by decide)) ?_
        refine pGo (s_iconst dX2_readEither_57) ?_
        refine p_callV (As := [(0, 12), (0, 0)]) (st := []) (n := 2) (d' := 0) (Q1 := Q3) pc2 ok_X2_put ml_X2_108 im_X2_put se_X2_put dX2_readEither_58 J3_0.o0 (pargs_of rfl) rfl (Nat.le_of_ble_eq_true rfl) (by omega) (f4 c2 c4 c6 τ2 e2 q2 v3 b3 τ3 e3 q3) (fun r4 τ4 e4 q4 w4 => ?_)
        obtain rfl : r4 = none := w4
        have S4 : Stat τ4 := (Stat.le (σ := τ3) S3 e4)
        have J4_0 : Inst2 τ4 x0 nx0 := Inst2.le (σ := τ3) J3_0 e4
        show pR mX2_readEither d 61 [(2, x0), (2, 2), (0, x2), (0, v3), (0, x4)] [] τ4 Q
        refine pGoL (ls2 := [(2, x0), (2, 2), (0, x2), (0, v3), (0, (x4 + 1))]) (s_iinc dX2_readEither_61 (by decide) rfl rfl) rfl ?_
        refine pGo (s_goto (tgt := 22) dX2_readEither_64 (by decide)) ?_
        exact (k4 c2 c4 c6 τ2 e2 q2 v3 b3 τ3 e3 q3 τ4 e4 q4)
set_option maxRecDepth 100000 in
theorem g_X2_readLine_0 {d : Nat} {σ : pS} {Q : Option pV → pS → Prop} {Q1 : Option pV → pS → Prop} {Q2 : Option pV → pS → Prop} {Q3 : Option pV → pS → Prop} {Q4 : Option pV → pS → Prop} {Q5 : Option pV → pS → Prop} {Q6 : Option pV → pS → Prop} {Q7 : Option pV → pS → Prop} {Q8 : Option pV → pS → Prop} {Q9 : Option pV → pS → Prop} {Q10 : Option pV → pS → Prop} {Q11 : Option pV → pS → Prop} {Q12 : Option pV → pS → Prop} (hd : 61 ≤ d) (hst : Stat σ) (a0 : Int) {na0 : Nat} (Ia0 : Inst2 σ a0 na0) (f1 : pC mX9_expect 1 [(2, 2), (0, 10)] σ Q1) (g1 : ∀ (v1 : Int) (b1 : v1 = 0 ∨ v1 = 1) (τ1 : pS) (e1 : pLe σ τ1) (q1 : Q1 (some (0, v1)) τ1), inR v1) (f2 : ∀ (v1 : Int) (b1 : v1 = 0 ∨ v1 = 1) (τ1 : pS) (e1 : pLe σ τ1) (q1 : Q1 (some (0, v1)) τ1) (c1 : v1 ≠ 0), pC mX9_kind 0 [(2, 2)] τ1 (fun r τ => r = some (0, (vTkK τ1)) ∧ τ = τ1)) (g2 : ∀ (v1 : Int) (b1 : v1 = 0 ∨ v1 = 1) (τ1 : pS) (e1 : pLe σ τ1) (q1 : Q1 (some (0, v1)) τ1) (c1 : v1 ≠ 0), inR (vTkK τ1)) (f3 : ∀ (v1 : Int) (b1 : v1 = 0 ∨ v1 = 1) (τ1 : pS) (e1 : pLe σ τ1) (q1 : Q1 (some (0, v1)) τ1) (c1 : v1 ≠ 0) (c3 : (vTkK τ1) ≠ 1), pC mX9_kind 0 [(2, 2)] (wr τ1 a0 5 0) (fun r τ => r = some (0, (vTkK (wr τ1 a0 5 0))) ∧ τ = (wr τ1 a0 5 0))) (g3 : ∀ (v1 : Int) (b1 : v1 = 0 ∨ v1 = 1) (τ1 : pS) (e1 : pLe σ τ1) (q1 : Q1 (some (0, v1)) τ1) (c1 : v1 ≠ 0) (c3 : (vTkK τ1) ≠ 1), inR (vTkK (wr τ1 a0 5 0))) (f4 : ∀ (v1 : Int) (b1 : v1 = 0 ∨ v1 = 1) (τ1 : pS) (e1 : pLe σ τ1) (q1 : Q1 (some (0, v1)) τ1) (c1 : v1 ≠ 0) (c3 : (vTkK τ1) ≠ 1) (c5 : (vTkK (wr τ1 a0 5 0)) ≠ 0), pC mX9_fail 0 [(2, 2), (0, 2)] (wr τ1 a0 5 0) Q2) (k1 : ∀ (v1 : Int) (b1 : v1 = 0 ∨ v1 = 1) (τ1 : pS) (e1 : pLe σ τ1) (q1 : Q1 (some (0, v1)) τ1) (c1 : v1 ≠ 0) (c3 : (vTkK τ1) ≠ 1) (c5 : (vTkK (wr τ1 a0 5 0)) ≠ 0) (v4 : Int) (b4 : v4 = 0 ∨ v4 = 1) (τ4 : pS) (e4 : pLe (wr τ1 a0 5 0) τ4) (q4 : Q2 (some (0, v4)) τ4), Q (some (0, v4)) τ4) (g4 : ∀ (v1 : Int) (b1 : v1 = 0 ∨ v1 = 1) (τ1 : pS) (e1 : pLe σ τ1) (q1 : Q1 (some (0, v1)) τ1) (c1 : v1 ≠ 0) (c3 : (vTkK τ1) ≠ 1) (c6 : (vTkK (wr τ1 a0 5 0)) = 0), inR (rd τ1 (a0 + 1) 0)) (f5 : ∀ (v1 : Int) (b1 : v1 = 0 ∨ v1 = 1) (τ1 : pS) (e1 : pLe σ τ1) (q1 : Q1 (some (0, v1)) τ1) (c1 : v1 ≠ 0) (c3 : (vTkK τ1) ≠ 1) (c6 : (vTkK (wr τ1 a0 5 0)) = 0) (c7 : (rd τ1 (a0 + 1) 0) = (-1)), pC mX9_step 0 [(2, 2)] (wr τ1 a0 5 0) Q3) (f6 : ∀ (v1 : Int) (b1 : v1 = 0 ∨ v1 = 1) (τ1 : pS) (e1 : pLe σ τ1) (q1 : Q1 (some (0, v1)) τ1) (c1 : v1 ≠ 0) (c3 : (vTkK τ1) ≠ 1) (c6 : (vTkK (wr τ1 a0 5 0)) = 0) (c7 : (rd τ1 (a0 + 1) 0) = (-1)) (τ5 : pS) (e5 : pLe (wr τ1 a0 5 0) τ5) (q5 : Q3 none τ5), pC mX9_expect 1 [(2, 2), (0, 11)] τ5 Q4) (g5 : ∀ (v1 : Int) (b1 : v1 = 0 ∨ v1 = 1) (τ1 : pS) (e1 : pLe σ τ1) (q1 : Q1 (some (0, v1)) τ1) (c1 : v1 ≠ 0) (c3 : (vTkK τ1) ≠ 1) (c6 : (vTkK (wr τ1 a0 5 0)) = 0) (c7 : (rd τ1 (a0 + 1) 0) = (-1)) (τ5 : pS) (e5 : pLe (wr τ1 a0 5 0) τ5) (q5 : Q3 none τ5) (v6 : Int) (b6 : v6 = 0 ∨ v6 = 1) (τ6 : pS) (e6 : pLe τ5 τ6) (q6 : Q4 (some (0, v6)) τ6), inR v6) (f7 : ∀ (v1 : Int) (b1 : v1 = 0 ∨ v1 = 1) (τ1 : pS) (e1 : pLe σ τ1) (q1 : Q1 (some (0, v1)) τ1) (c1 : v1 ≠ 0) (c3 : (vTkK τ1) ≠ 1) (c6 : (vTkK (wr τ1 a0 5 0)) = 0) (c7 : (rd τ1 (a0 + 1) 0) = (-1)) (τ5 : pS) (e5 : pLe (wr τ1 a0 5 0) τ5) (q5 : Q3 none τ5) (v6 : Int) (b6 : v6 = 0 ∨ v6 = 1) (τ6 : pS) (e6 : pLe τ5 τ6) (q6 : Q4 (some (0, v6)) τ6) (c9 : v6 ≠ 0), pC mX2_readEither (d - 1) [(2, a0), (2, 2), (0, 0)] (wr τ6 (a0 + 1) 0 (rd τ6 a0 2)) Q5) (g6 : ∀ (v1 : Int) (b1 : v1 = 0 ∨ v1 = 1) (τ1 : pS) (e1 : pLe σ τ1) (q1 : Q1 (some (0, v1)) τ1) (c1 : v1 ≠ 0) (c3 : (vTkK τ1) ≠ 1) (c6 : (vTkK (wr τ1 a0 5 0)) = 0) (c7 : (rd τ1 (a0 + 1) 0) = (-1)) (τ5 : pS) (e5 : pLe (wr τ1 a0 5 0) τ5) (q5 : Q3 none τ5) (v6 : Int) (b6 : v6 = 0 ∨ v6 = 1) (τ6 : pS) (e6 : pLe τ5 τ6) (q6 : Q4 (some (0, v6)) τ6) (c9 : v6 ≠ 0) (v7 : Int) (b7 : v7 = 0 ∨ v7 = 1) (τ7 : pS) (e7 : pLe (wr τ6 (a0 + 1) 0 (rd τ6 a0 2)) τ7) (q7 : Q5 (some (0, v7)) τ7), inR v7) (k2 : ∀ (v1 : Int) (b1 : v1 = 0 ∨ v1 = 1) (τ1 : pS) (e1 : pLe σ τ1) (q1 : Q1 (some (0, v1)) τ1) (c1 : v1 ≠ 0) (c3 : (vTkK τ1) ≠ 1) (c6 : (vTkK (wr τ1 a0 5 0)) = 0) (c7 : (rd τ1 (a0 + 1) 0) = (-1)) (τ5 : pS) (e5 : pLe (wr τ1 a0 5 0) τ5) (q5 : Q3 none τ5) (v6 : Int) (b6 : v6 = 0 ∨ v6 = 1) (τ6 : pS) (e6 : pLe τ5 τ6) (q6 : Q4 (some (0, v6)) τ6) (c9 : v6 ≠ 0) (v7 : Int) (b7 : v7 = 0 ∨ v7 = 1) (τ7 : pS) (e7 : pLe (wr τ6 (a0 + 1) 0 (rd τ6 a0 2)) τ7) (q7 : Q5 (some (0, v7)) τ7) (c11 : v7 = 0), Q (some (0, 0)) (wr τ7 (a0 + 2) 0 (rd τ7 a0 2))) (f8 : ∀ (v1 : Int) (b1 : v1 = 0 ∨ v1 = 1) (τ1 : pS) (e1 : pLe σ τ1) (q1 : Q1 (some (0, v1)) τ1) (c1 : v1 ≠ 0) (c3 : (vTkK τ1) ≠ 1) (c6 : (vTkK (wr τ1 a0 5 0)) = 0) (c7 : (rd τ1 (a0 + 1) 0) = (-1)) (τ5 : pS) (e5 : pLe (wr τ1 a0 5 0) τ5) (q5 : Q3 none τ5) (v6 : Int) (b6 : v6 = 0 ∨ v6 = 1) (τ6 : pS) (e6 : pLe τ5 τ6) (q6 : Q4 (some (0, v6)) τ6) (c9 : v6 ≠ 0) (v7 : Int) (b7 : v7 = 0 ∨ v7 = 1) (τ7 : pS) (e7 : pLe (wr τ6 (a0 + 1) 0 (rd τ6 a0 2)) τ7) (q7 : Q5 (some (0, v7)) τ7) (c12 : v7 ≠ 0), pC mX9_expect 1 [(2, 2), (0, 59)] (wr τ7 (a0 + 2) 0 (rd τ7 a0 2)) Q6) (g7 : ∀ (v1 : Int) (b1 : v1 = 0 ∨ v1 = 1) (τ1 : pS) (e1 : pLe σ τ1) (q1 : Q1 (some (0, v1)) τ1) (c1 : v1 ≠ 0) (c3 : (vTkK τ1) ≠ 1) (c6 : (vTkK (wr τ1 a0 5 0)) = 0) (c7 : (rd τ1 (a0 + 1) 0) = (-1)) (τ5 : pS) (e5 : pLe (wr τ1 a0 5 0) τ5) (q5 : Q3 none τ5) (v6 : Int) (b6 : v6 = 0 ∨ v6 = 1) (τ6 : pS) (e6 : pLe τ5 τ6) (q6 : Q4 (some (0, v6)) τ6) (c9 : v6 ≠ 0) (v7 : Int) (b7 : v7 = 0 ∨ v7 = 1) (τ7 : pS) (e7 : pLe (wr τ6 (a0 + 1) 0 (rd τ6 a0 2)) τ7) (q7 : Q5 (some (0, v7)) τ7) (c12 : v7 ≠ 0) (v8 : Int) (b8 : v8 = 0 ∨ v8 = 1) (τ8 : pS) (e8 : pLe (wr τ7 (a0 + 2) 0 (rd τ7 a0 2)) τ8) (q8 : Q6 (some (0, v8)) τ8), inR v8) (k3 : ∀ (v1 : Int) (b1 : v1 = 0 ∨ v1 = 1) (τ1 : pS) (e1 : pLe σ τ1) (q1 : Q1 (some (0, v1)) τ1) (c1 : v1 ≠ 0) (c3 : (vTkK τ1) ≠ 1) (c6 : (vTkK (wr τ1 a0 5 0)) = 0) (c7 : (rd τ1 (a0 + 1) 0) = (-1)) (τ5 : pS) (e5 : pLe (wr τ1 a0 5 0) τ5) (q5 : Q3 none τ5) (v6 : Int) (b6 : v6 = 0 ∨ v6 = 1) (τ6 : pS) (e6 : pLe τ5 τ6) (q6 : Q4 (some (0, v6)) τ6) (c9 : v6 ≠ 0) (v7 : Int) (b7 : v7 = 0 ∨ v7 = 1) (τ7 : pS) (e7 : pLe (wr τ6 (a0 + 1) 0 (rd τ6 a0 2)) τ7) (q7 : Q5 (some (0, v7)) τ7) (c12 : v7 ≠ 0) (v8 : Int) (b8 : v8 = 0 ∨ v8 = 1) (τ8 : pS) (e8 : pLe (wr τ7 (a0 + 2) 0 (rd τ7 a0 2)) τ8) (q8 : Q6 (some (0, v8)) τ8) (c13 : v8 = 0), Q (some (0, 0)) τ8) (k4 : ∀ (v1 : Int) (b1 : v1 = 0 ∨ v1 = 1) (τ1 : pS) (e1 : pLe σ τ1) (q1 : Q1 (some (0, v1)) τ1) (c1 : v1 ≠ 0) (c3 : (vTkK τ1) ≠ 1) (c6 : (vTkK (wr τ1 a0 5 0)) = 0) (c7 : (rd τ1 (a0 + 1) 0) = (-1)) (τ5 : pS) (e5 : pLe (wr τ1 a0 5 0) τ5) (q5 : Q3 none τ5) (v6 : Int) (b6 : v6 = 0 ∨ v6 = 1) (τ6 : pS) (e6 : pLe τ5 τ6) (q6 : Q4 (some (0, v6)) τ6) (c9 : v6 ≠ 0) (v7 : Int) (b7 : v7 = 0 ∨ v7 = 1) (τ7 : pS) (e7 : pLe (wr τ6 (a0 + 1) 0 (rd τ6 a0 2)) τ7) (q7 : Q5 (some (0, v7)) τ7) (c12 : v7 ≠ 0) (v8 : Int) (b8 : v8 = 0 ∨ v8 = 1) (τ8 : pS) (e8 : pLe (wr τ7 (a0 + 2) 0 (rd τ7 a0 2)) τ8) (q8 : Q6 (some (0, v8)) τ8) (c14 : v8 ≠ 0), Q (some (0, 1)) τ8) (k5 : ∀ (v1 : Int) (b1 : v1 = 0 ∨ v1 = 1) (τ1 : pS) (e1 : pLe σ τ1) (q1 : Q1 (some (0, v1)) τ1) (c1 : v1 ≠ 0) (c3 : (vTkK τ1) ≠ 1) (c6 : (vTkK (wr τ1 a0 5 0)) = 0) (c7 : (rd τ1 (a0 + 1) 0) = (-1)) (τ5 : pS) (e5 : pLe (wr τ1 a0 5 0) τ5) (q5 : Q3 none τ5) (v6 : Int) (b6 : v6 = 0 ∨ v6 = 1) (τ6 : pS) (e6 : pLe τ5 τ6) (q6 : Q4 (some (0, v6)) τ6) (c10 : v6 = 0), Q (some (0, 0)) τ6) (f9 : ∀ (v1 : Int) (b1 : v1 = 0 ∨ v1 = 1) (τ1 : pS) (e1 : pLe σ τ1) (q1 : Q1 (some (0, v1)) τ1) (c1 : v1 ≠ 0) (c3 : (vTkK τ1) ≠ 1) (c6 : (vTkK (wr τ1 a0 5 0)) = 0) (c8 : (rd τ1 (a0 + 1) 0) ≠ (-1)), pC mX9_fail 0 [(2, 2), (0, 2)] (wr τ1 a0 5 0) Q7) (k6 : ∀ (v1 : Int) (b1 : v1 = 0 ∨ v1 = 1) (τ1 : pS) (e1 : pLe σ τ1) (q1 : Q1 (some (0, v1)) τ1) (c1 : v1 ≠ 0) (c3 : (vTkK τ1) ≠ 1) (c6 : (vTkK (wr τ1 a0 5 0)) = 0) (c8 : (rd τ1 (a0 + 1) 0) ≠ (-1)) (v9 : Int) (b9 : v9 = 0 ∨ v9 = 1) (τ9 : pS) (e9 : pLe (wr τ1 a0 5 0) τ9) (q9 : Q7 (some (0, v9)) τ9), Q (some (0, v9)) τ9) (g8 : ∀ (v1 : Int) (b1 : v1 = 0 ∨ v1 = 1) (τ1 : pS) (e1 : pLe σ τ1) (q1 : Q1 (some (0, v1)) τ1) (c1 : v1 ≠ 0) (c4 : (vTkK τ1) = 1), inR (rd τ1 (a0 + 1) 1)) (f10 : ∀ (v1 : Int) (b1 : v1 = 0 ∨ v1 = 1) (τ1 : pS) (e1 : pLe σ τ1) (q1 : Q1 (some (0, v1)) τ1) (c1 : v1 ≠ 0) (c4 : (vTkK τ1) = 1) (c15 : (rd τ1 (a0 + 1) 1) = (-1)), pC mX9_step 0 [(2, 2)] (wr τ1 a0 5 1) Q8) (f11 : ∀ (v1 : Int) (b1 : v1 = 0 ∨ v1 = 1) (τ1 : pS) (e1 : pLe σ τ1) (q1 : Q1 (some (0, v1)) τ1) (c1 : v1 ≠ 0) (c4 : (vTkK τ1) = 1) (c15 : (rd τ1 (a0 + 1) 1) = (-1)) (τ10 : pS) (e10 : pLe (wr τ1 a0 5 1) τ10) (q10 : Q8 none τ10), pC mX9_expect 1 [(2, 2), (0, 11)] τ10 Q9) (g9 : ∀ (v1 : Int) (b1 : v1 = 0 ∨ v1 = 1) (τ1 : pS) (e1 : pLe σ τ1) (q1 : Q1 (some (0, v1)) τ1) (c1 : v1 ≠ 0) (c4 : (vTkK τ1) = 1) (c15 : (rd τ1 (a0 + 1) 1) = (-1)) (τ10 : pS) (e10 : pLe (wr τ1 a0 5 1) τ10) (q10 : Q8 none τ10) (v11 : Int) (b11 : v11 = 0 ∨ v11 = 1) (τ11 : pS) (e11 : pLe τ10 τ11) (q11 : Q9 (some (0, v11)) τ11), inR v11) (f12 : ∀ (v1 : Int) (b1 : v1 = 0 ∨ v1 = 1) (τ1 : pS) (e1 : pLe σ τ1) (q1 : Q1 (some (0, v1)) τ1) (c1 : v1 ≠ 0) (c4 : (vTkK τ1) = 1) (c15 : (rd τ1 (a0 + 1) 1) = (-1)) (τ10 : pS) (e10 : pLe (wr τ1 a0 5 1) τ10) (q10 : Q8 none τ10) (v11 : Int) (b11 : v11 = 0 ∨ v11 = 1) (τ11 : pS) (e11 : pLe τ10 τ11) (q11 : Q9 (some (0, v11)) τ11) (c17 : v11 ≠ 0), pC mX2_readEither (d - 1) [(2, a0), (2, 2), (0, 0)] (wr τ11 (a0 + 1) 1 (rd τ11 a0 2)) Q10) (g10 : ∀ (v1 : Int) (b1 : v1 = 0 ∨ v1 = 1) (τ1 : pS) (e1 : pLe σ τ1) (q1 : Q1 (some (0, v1)) τ1) (c1 : v1 ≠ 0) (c4 : (vTkK τ1) = 1) (c15 : (rd τ1 (a0 + 1) 1) = (-1)) (τ10 : pS) (e10 : pLe (wr τ1 a0 5 1) τ10) (q10 : Q8 none τ10) (v11 : Int) (b11 : v11 = 0 ∨ v11 = 1) (τ11 : pS) (e11 : pLe τ10 τ11) (q11 : Q9 (some (0, v11)) τ11) (c17 : v11 ≠ 0) (v12 : Int) (b12 : v12 = 0 ∨ v12 = 1) (τ12 : pS) (e12 : pLe (wr τ11 (a0 + 1) 1 (rd τ11 a0 2)) τ12) (q12 : Q10 (some (0, v12)) τ12), inR v12) (k7 : ∀ (v1 : Int) (b1 : v1 = 0 ∨ v1 = 1) (τ1 : pS) (e1 : pLe σ τ1) (q1 : Q1 (some (0, v1)) τ1) (c1 : v1 ≠ 0) (c4 : (vTkK τ1) = 1) (c15 : (rd τ1 (a0 + 1) 1) = (-1)) (τ10 : pS) (e10 : pLe (wr τ1 a0 5 1) τ10) (q10 : Q8 none τ10) (v11 : Int) (b11 : v11 = 0 ∨ v11 = 1) (τ11 : pS) (e11 : pLe τ10 τ11) (q11 : Q9 (some (0, v11)) τ11) (c17 : v11 ≠ 0) (v12 : Int) (b12 : v12 = 0 ∨ v12 = 1) (τ12 : pS) (e12 : pLe (wr τ11 (a0 + 1) 1 (rd τ11 a0 2)) τ12) (q12 : Q10 (some (0, v12)) τ12) (c19 : v12 = 0), Q (some (0, 0)) (wr τ12 (a0 + 2) 1 (rd τ12 a0 2))) (f13 : ∀ (v1 : Int) (b1 : v1 = 0 ∨ v1 = 1) (τ1 : pS) (e1 : pLe σ τ1) (q1 : Q1 (some (0, v1)) τ1) (c1 : v1 ≠ 0) (c4 : (vTkK τ1) = 1) (c15 : (rd τ1 (a0 + 1) 1) = (-1)) (τ10 : pS) (e10 : pLe (wr τ1 a0 5 1) τ10) (q10 : Q8 none τ10) (v11 : Int) (b11 : v11 = 0 ∨ v11 = 1) (τ11 : pS) (e11 : pLe τ10 τ11) (q11 : Q9 (some (0, v11)) τ11) (c17 : v11 ≠ 0) (v12 : Int) (b12 : v12 = 0 ∨ v12 = 1) (τ12 : pS) (e12 : pLe (wr τ11 (a0 + 1) 1 (rd τ11 a0 2)) τ12) (q12 : Q10 (some (0, v12)) τ12) (c20 : v12 ≠ 0), pC mX9_expect 1 [(2, 2), (0, 59)] (wr τ12 (a0 + 2) 1 (rd τ12 a0 2)) Q11) (g11 : ∀ (v1 : Int) (b1 : v1 = 0 ∨ v1 = 1) (τ1 : pS) (e1 : pLe σ τ1) (q1 : Q1 (some (0, v1)) τ1) (c1 : v1 ≠ 0) (c4 : (vTkK τ1) = 1) (c15 : (rd τ1 (a0 + 1) 1) = (-1)) (τ10 : pS) (e10 : pLe (wr τ1 a0 5 1) τ10) (q10 : Q8 none τ10) (v11 : Int) (b11 : v11 = 0 ∨ v11 = 1) (τ11 : pS) (e11 : pLe τ10 τ11) (q11 : Q9 (some (0, v11)) τ11) (c17 : v11 ≠ 0) (v12 : Int) (b12 : v12 = 0 ∨ v12 = 1) (τ12 : pS) (e12 : pLe (wr τ11 (a0 + 1) 1 (rd τ11 a0 2)) τ12) (q12 : Q10 (some (0, v12)) τ12) (c20 : v12 ≠ 0) (v13 : Int) (b13 : v13 = 0 ∨ v13 = 1) (τ13 : pS) (e13 : pLe (wr τ12 (a0 + 2) 1 (rd τ12 a0 2)) τ13) (q13 : Q11 (some (0, v13)) τ13), inR v13) (k8 : ∀ (v1 : Int) (b1 : v1 = 0 ∨ v1 = 1) (τ1 : pS) (e1 : pLe σ τ1) (q1 : Q1 (some (0, v1)) τ1) (c1 : v1 ≠ 0) (c4 : (vTkK τ1) = 1) (c15 : (rd τ1 (a0 + 1) 1) = (-1)) (τ10 : pS) (e10 : pLe (wr τ1 a0 5 1) τ10) (q10 : Q8 none τ10) (v11 : Int) (b11 : v11 = 0 ∨ v11 = 1) (τ11 : pS) (e11 : pLe τ10 τ11) (q11 : Q9 (some (0, v11)) τ11) (c17 : v11 ≠ 0) (v12 : Int) (b12 : v12 = 0 ∨ v12 = 1) (τ12 : pS) (e12 : pLe (wr τ11 (a0 + 1) 1 (rd τ11 a0 2)) τ12) (q12 : Q10 (some (0, v12)) τ12) (c20 : v12 ≠ 0) (v13 : Int) (b13 : v13 = 0 ∨ v13 = 1) (τ13 : pS) (e13 : pLe (wr τ12 (a0 + 2) 1 (rd τ12 a0 2)) τ13) (q13 : Q11 (some (0, v13)) τ13) (c21 : v13 = 0), Q (some (0, 0)) τ13) (k9 : ∀ (v1 : Int) (b1 : v1 = 0 ∨ v1 = 1) (τ1 : pS) (e1 : pLe σ τ1) (q1 : Q1 (some (0, v1)) τ1) (c1 : v1 ≠ 0) (c4 : (vTkK τ1) = 1) (c15 : (rd τ1 (a0 + 1) 1) = (-1)) (τ10 : pS) (e10 : pLe (wr τ1 a0 5 1) τ10) (q10 : Q8 none τ10) (v11 : Int) (b11 : v11 = 0 ∨ v11 = 1) (τ11 : pS) (e11 : pLe τ10 τ11) (q11 : Q9 (some (0, v11)) τ11) (c17 : v11 ≠ 0) (v12 : Int) (b12 : v12 = 0 ∨ v12 = 1) (τ12 : pS) (e12 : pLe (wr τ11 (a0 + 1) 1 (rd τ11 a0 2)) τ12) (q12 : Q10 (some (0, v12)) τ12) (c20 : v12 ≠ 0) (v13 : Int) (b13 : v13 = 0 ∨ v13 = 1) (τ13 : pS) (e13 : pLe (wr τ12 (a0 + 2) 1 (rd τ12 a0 2)) τ13) (q13 : Q11 (some (0, v13)) τ13) (c22 : v13 ≠ 0), Q (some (0, 1)) τ13) (k10 : ∀ (v1 : Int) (b1 : v1 = 0 ∨ v1 = 1) (τ1 : pS) (e1 : pLe σ τ1) (q1 : Q1 (some (0, v1)) τ1) (c1 : v1 ≠ 0) (c4 : (vTkK τ1) = 1) (c15 : (rd τ1 (a0 + 1) 1) = (-1)) (τ10 : pS) (e10 : pLe (wr τ1 a0 5 1) τ10) (q10 : Q8 none τ10) (v11 : Int) (b11 : v11 = 0 ∨ v11 = 1) (τ11 : pS) (e11 : pLe τ10 τ11) (q11 : Q9 (some (0, v11)) τ11) (c18 : v11 = 0), Q (some (0, 0)) τ11) (f14 : ∀ (v1 : Int) (b1 : v1 = 0 ∨ v1 = 1) (τ1 : pS) (e1 : pLe σ τ1) (q1 : Q1 (some (0, v1)) τ1) (c1 : v1 ≠ 0) (c4 : (vTkK τ1) = 1) (c16 : (rd τ1 (a0 + 1) 1) ≠ (-1)), pC mX9_fail 0 [(2, 2), (0, 2)] (wr τ1 a0 5 1) Q12) (k11 : ∀ (v1 : Int) (b1 : v1 = 0 ∨ v1 = 1) (τ1 : pS) (e1 : pLe σ τ1) (q1 : Q1 (some (0, v1)) τ1) (c1 : v1 ≠ 0) (c4 : (vTkK τ1) = 1) (c16 : (rd τ1 (a0 + 1) 1) ≠ (-1)) (v14 : Int) (b14 : v14 = 0 ∨ v14 = 1) (τ14 : pS) (e14 : pLe (wr τ1 a0 5 1) τ14) (q14 : Q12 (some (0, v14)) τ14), Q (some (0, v14)) τ14) (k12 : ∀ (v1 : Int) (b1 : v1 = 0 ∨ v1 = 1) (τ1 : pS) (e1 : pLe σ τ1) (q1 : Q1 (some (0, v1)) τ1) (c2 : v1 = 0), Q (some (0, 0)) τ1) : pC mX2_readLine d [(2, a0), (2, 2)] σ Q := by
  show pR mX2_readLine d 0 [(2, a0), (2, 2), (9, 0), (9, 0)] [] σ Q
  refine pGo (s_aload_n dX2_readLine_0 rfl (by decide)) ?_
  refine pGo (s_bipush dX2_readLine_1 (by decide)) ?_
  refine p_callV (As := [(0, 10)]) (st := []) (n := 1) (d' := 1) (Q1 := Q1) pc9 ok_X9_expect ml_X2_85 im_X9_expect se_X9_expect dX2_readLine_3 (ob_2 hst) (pargs_of rfl) rfl (Nat.le_of_ble_eq_true rfl) (by omega) f1 (fun r1 τ1 e1 q1 w1 => ?_)
  obtain ⟨v1, rfl, b1⟩ := pRok_z w1
  have S1 : Stat τ1 := (Stat.le (σ := σ) hst e1)
  have J1_0 : Inst2 τ1 a0 na0 := Inst2.le (σ := σ) Ia0 e1
  show pR mX2_readLine d 6 [(2, a0), (2, 2), (9, 0), (9, 0)] [(0, v1)] τ1 Q
  refine p_ifne (tgt := 11) dX2_readLine_6 (by decide) (g1 v1 b1 τ1 e1 q1) (fun c1 => ?_) (fun c2 => ?_)
  · refine pGo (s_aload_n dX2_readLine_11 rfl J1_0.pos) ?_
    refine pGo (s_aload_n dX2_readLine_12 rfl (by decide)) ?_
    refine p_callV (As := []) (st := [(2, a0)]) (n := 0) (d' := 0) (Q1 := (fun r τ => r = some (0, (vTkK τ1)) ∧ τ = τ1)) pc9 ok_X9_kind ml_X2_71 im_X9_kind se_X9_kind dX2_readLine_13 (ob_2 S1) (pargs_of rfl) rfl (Nat.le_of_ble_eq_true rfl) (by omega) (f2 v1 b1 τ1 e1 q1 c1) (fun r2 τ2 e2 q2 w2 => ?_)
    obtain ⟨rfl, t2⟩ := q2
    rw [t2]
    show pR mX2_readLine d 16 [(2, a0), (2, 2), (9, 0), (9, 0)] [(0, (vTkK τ1)), (2, a0)] τ1 Q
    refine pGo (s_iconst dX2_readLine_16) ?_
    refine p_icne (tgt := 24) dX2_readLine_17 (by decide) (g2 v1 b1 τ1 e1 q1 c1) (by decide) (fun c3 => ?_) (fun c4 => ?_)
    · refine pGo (s_iconst dX2_readLine_24) ?_
      refine pGo (s_putZ pc2 fl_X2_88 dX2_readLine_25 J1_0.o0 rfl rfl rfl rfl (by decide)) ?_
      refine pGo (s_aload_n dX2_readLine_28 rfl J1_0.pos) ?_
      refine pGoE (y := 0) (s_getI pc2 fl_X2_88 dX2_readLine_29 J1_0.o0 rfl (by decide)) (rd_wr_same _ _ _ _) ?_
      refine p_ifeq (tgt := 39) dX2_readLine_32 (by decide) (by decide) (fun _ => ?_) (fun q => absurd q (by decide))
      refine pGo (s_iconst dX2_readLine_39) ?_
      refine pGoL (ls2 := [(2, a0), (2, 2), (0, 0), (9, 0)]) (s_istore_n dX2_readLine_40 (by decide) rfl) rfl ?_
      refine pGo (s_aload_n dX2_readLine_41 rfl J1_0.pos) ?_
      refine pGoE (y := 0) (s_getI pc2 fl_X2_88 dX2_readLine_42 J1_0.o0 rfl (by decide)) (rd_wr_same _ _ _ _) ?_
      refine p_ifne (tgt := 55) dX2_readLine_45 (by decide) (by decide) (fun q => absurd q (by decide)) (fun _ => ?_)
      refine pGo (s_aload_n dX2_readLine_48 rfl (by decide)) ?_
      refine p_callV (As := []) (st := []) (n := 0) (d' := 0) (Q1 := (fun r τ => r = some (0, (vTkK (wr τ1 a0 5 0))) ∧ τ = (wr τ1 a0 5 0))) pc9 ok_X9_kind ml_X2_71 im_X9_kind se_X9_kind dX2_readLine_49 (ob_2 S1) (pargs_of rfl) rfl (Nat.le_of_ble_eq_true rfl) (by omega) (f3 v1 b1 τ1 e1 q1 c1 c3) (fun r3 τ3 e3 q3 w3 => ?_)
      obtain ⟨rfl, t3⟩ := q3
      rw [t3]
      show pR mX2_readLine d 52 [(2, a0), (2, 2), (0, 0), (9, 0)] [(0, (vTkK (wr τ1 a0 5 0)))] (wr τ1 a0 5 0) Q
      refine p_ifne (tgt := 65) dX2_readLine_52 (by decide) (g3 v1 b1 τ1 e1 q1 c1 c3) (fun c5 => ?_) (fun c6 => ?_)
      · refine pGo (s_aload_n dX2_readLine_65 rfl (by decide)) ?_
        refine pGo (s_iconst dX2_readLine_66) ?_
        refine p_callV (As := [(0, 2)]) (st := []) (n := 1) (d' := 0) (Q1 := Q2) pc9 ok_X9_fail ml_X2_92 im_X9_fail se_X9_fail dX2_readLine_67 (ob_2 S1) (pargs_of rfl) rfl (Nat.le_of_ble_eq_true rfl) (by omega) (f4 v1 b1 τ1 e1 q1 c1 c3 c5) (fun r4 τ4 e4 q4 w4 => ?_)
        obtain ⟨v4, rfl, b4⟩ := pRok_z w4
        have S4 : Stat τ4 := (Stat.le (σ := (wr τ1 a0 5 0)) S1 e4)
        have J4_0 : Inst2 τ4 a0 na0 := Inst2.le (σ := (wr τ1 a0 5 0)) J1_0 e4
        show pR mX2_readLine d 70 [(2, a0), (2, 2), (0, 0), (9, 0)] [(0, v4)] τ4 Q
        exact pEnd (r := (some (0, v4))) dX2_readLine_70 (pRok_01 b4) (k1 v1 b1 τ1 e1 q1 c1 c3 c5 v4 b4 τ4 e4 q4)
      · refine pGo (s_aload_n dX2_readLine_55 rfl J1_0.pos) ?_
        refine pGo (s_getF pc2 fl_X2_9 dX2_readLine_56 J1_0.o0 rfl (by decide)) ?_
        refine pGo (s_iload_n dX2_readLine_59 rfl) ?_
        refine pGoE (y := (rd τ1 (a0 + 1) 0)) (s_iald dX2_readLine_60 J1_0.o1 (by decide)) (rd_wr_a _ (by omega)) ?_
        refine pGo (s_iconst dX2_readLine_61) ?_
        refine p_iceq (tgt := 71) dX2_readLine_62 (by decide) (g4 v1 b1 τ1 e1 q1 c1 c3 c6) (by decide) (fun c7 => ?_) (fun c8 => ?_)
        · refine pGo (s_aload_n dX2_readLine_71 rfl (by decide)) ?_
          refine p_callV (As := []) (st := []) (n := 0) (d' := 0) (Q1 := Q3) pc9 ok_X9_step ml_X2_95 im_X9_step se_X9_step dX2_readLine_72 (ob_2 S1) (pargs_of rfl) rfl (Nat.le_of_ble_eq_true rfl) (by omega) (f5 v1 b1 τ1 e1 q1 c1 c3 c6 c7) (fun r5 τ5 e5 q5 w5 => ?_)
          obtain rfl : r5 = none := w5
          have S5 : Stat τ5 := (Stat.le (σ := (wr τ1 a0 5 0)) S1 e5)
          have J5_0 : Inst2 τ5 a0 na0 := Inst2.le (σ := (wr τ1 a0 5 0)) J1_0 e5
          show pR mX2_readLine d 75 [(2, a0), (2, 2), (0, 0), (9, 0)] [] τ5 Q
          refine pGo (s_aload_n dX2_readLine_75 rfl (by decide)) ?_
          refine pGo (s_bipush dX2_readLine_76 (by decide)) ?_
          refine p_callV (As := [(0, 11)]) (st := []) (n := 1) (d' := 1) (Q1 := Q4) pc9 ok_X9_expect ml_X2_85 im_X9_expect se_X9_expect dX2_readLine_78 (ob_2 S5) (pargs_of rfl) rfl (Nat.le_of_ble_eq_true rfl) (by omega) (f6 v1 b1 τ1 e1 q1 c1 c3 c6 c7 τ5 e5 q5) (fun r6 τ6 e6 q6 w6 => ?_)
          obtain ⟨v6, rfl, b6⟩ := pRok_z w6
          have S6 : Stat τ6 := (Stat.le (σ := τ5) S5 e6)
          have J6_0 : Inst2 τ6 a0 na0 := Inst2.le (σ := τ5) J5_0 e6
          show pR mX2_readLine d 81 [(2, a0), (2, 2), (0, 0), (9, 0)] [(0, v6)] τ6 Q
          refine p_ifne (tgt := 86) dX2_readLine_81 (by decide) (g5 v1 b1 τ1 e1 q1 c1 c3 c6 c7 τ5 e5 q5 v6 b6 τ6 e6 q6) (fun c9 => ?_) (fun c10 => ?_)
          · refine pGo (s_aload_n dX2_readLine_86 rfl J6_0.pos) ?_
            refine pGo (s_getF pc2 fl_X2_9 dX2_readLine_87 J6_0.o0 rfl (by decide)) ?_
            refine pGo (s_iload_n dX2_readLine_90 rfl) ?_
            refine pGo (s_aload_n dX2_readLine_91 rfl J6_0.pos) ?_
            refine pGoE (y := (rd τ6 a0 2)) (s_getI pc2 fl_X2_98 dX2_readLine_92 J6_0.o0 rfl (by decide)) rfl ?_
            refine pGo (s_iast dX2_readLine_95 J6_0.o1 (by decide)) ?_
            refine pGo (s_aload_n dX2_readLine_96 rfl J6_0.pos) ?_
            refine pGo (s_aload_n dX2_readLine_97 rfl (by decide)) ?_
            refine pGo (s_iconst dX2_readLine_98) ?_
            refine p_callV (As := [(2, 2), (0, 0)]) (st := []) (n := 2) (d' := (d - 1)) (Q1 := Q5) pc2 ok_X2_readEither ml_X2_101 im_X2_readEither se_X2_readEither dX2_readLine_99 J6_0.o0 (pargs_of rfl) rfl (Nat.le_of_ble_eq_true rfl) (by omega) (f7 v1 b1 τ1 e1 q1 c1 c3 c6 c7 τ5 e5 q5 v6 b6 τ6 e6 q6 c9) (fun r7 τ7 e7 q7 w7 => ?_)
            obtain ⟨v7, rfl, b7⟩ := pRok_z w7
            have S7 : Stat τ7 := (Stat.le (σ := (wr τ6 (a0 + 1) 0 (rd τ6 a0 2))) S6 e7)
            have J7_0 : Inst2 τ7 a0 na0 := Inst2.le (σ := (wr τ6 (a0 + 1) 0 (rd τ6 a0 2))) J6_0 e7
            show pR mX2_readLine d 102 [(2, a0), (2, 2), (0, 0), (9, 0)] [(0, v7)] τ7 Q
            refine pGoL (ls2 := [(2, a0), (2, 2), (0, 0), (0, v7)]) (s_istore_n dX2_readLine_102 (by decide) rfl) rfl ?_
            refine pGo (s_aload_n dX2_readLine_103 rfl J7_0.pos) ?_
            refine pGo (s_getF pc2 fl_X2_15 dX2_readLine_104 J7_0.o0 rfl (by decide)) ?_
            refine pGo (s_iload_n dX2_readLine_107 rfl) ?_
            refine pGo (s_aload_n dX2_readLine_108 rfl J7_0.pos) ?_
            refine pGoE (y := (rd τ7 a0 2)) (s_getI pc2 fl_X2_98 dX2_readLine_109 J7_0.o0 rfl (by decide)) rfl ?_
            refine pGo (s_iast dX2_readLine_112 J7_0.o2 (by decide)) ?_
            refine pGo (s_iload_n dX2_readLine_113 rfl) ?_
            refine p_ifeq (tgt := 130) dX2_readLine_114 (by decide) (g6 v1 b1 τ1 e1 q1 c1 c3 c6 c7 τ5 e5 q5 v6 b6 τ6 e6 q6 c9 v7 b7 τ7 e7 q7) (fun c11 => ?_) (fun c12 => ?_)
            · refine pGo (s_iconst dX2_readLine_130) ?_
              exact pEnd (r := (some (0, 0))) dX2_readLine_131 (Or.inl rfl) (k2 v1 b1 τ1 e1 q1 c1 c3 c6 c7 τ5 e5 q5 v6 b6 τ6 e6 q6 c9 v7 b7 τ7 e7 q7 c11)
            · refine pGo (s_aload_n dX2_readLine_117 rfl (by decide)) ?_
              refine pGo (s_bipush dX2_readLine_118 (by decide)) ?_
              refine p_callV (As := [(0, 59)]) (st := []) (n := 1) (d' := 1) (Q1 := Q6) pc9 ok_X9_expect ml_X2_85 im_X9_expect se_X9_expect dX2_readLine_120 (ob_2 S7) (pargs_of rfl) rfl (Nat.le_of_ble_eq_true rfl) (by omega) (f8 v1 b1 τ1 e1 q1 c1 c3 c6 c7 τ5 e5 q5 v6 b6 τ6 e6 q6 c9 v7 b7 τ7 e7 q7 c12) (fun r8 τ8 e8 q8 w8 => ?_)
              obtain ⟨v8, rfl, b8⟩ := pRok_z w8
              have S8 : Stat τ8 := (Stat.le (σ := (wr τ7 (a0 + 2) 0 (rd τ7 a0 2))) S7 e8)
              have J8_0 : Inst2 τ8 a0 na0 := Inst2.le (σ := (wr τ7 (a0 + 2) 0 (rd τ7 a0 2))) J7_0 e8
              show pR mX2_readLine d 123 [(2, a0), (2, 2), (0, 0), (0, v7)] [(0, v8)] τ8 Q
              refine p_ifeq (tgt := 130) dX2_readLine_123 (by decide) (g7 v1 b1 τ1 e1 q1 c1 c3 c6 c7 τ5 e5 q5 v6 b6 τ6 e6 q6 c9 v7 b7 τ7 e7 q7 c12 v8 b8 τ8 e8 q8) (fun c13 => ?_) (fun c14 => ?_)
              · refine pGo (s_iconst dX2_readLine_130) ?_
                exact pEnd (r := (some (0, 0))) dX2_readLine_131 (Or.inl rfl) (k3 v1 b1 τ1 e1 q1 c1 c3 c6 c7 τ5 e5 q5 v6 b6 τ6 e6 q6 c9 v7 b7 τ7 e7 q7 c12 v8 b8 τ8 e8 q8 c13)
              · refine pGo (s_iconst dX2_readLine_126) ?_
                refine pGo (s_goto (tgt := 131) dX2_readLine_127 (by decide)) ?_
                exact pEnd (r := (some (0, 1))) dX2_readLine_131 (Or.inr rfl) (k4 v1 b1 τ1 e1 q1 c1 c3 c6 c7 τ5 e5 q5 v6 b6 τ6 e6 q6 c9 v7 b7 τ7 e7 q7 c12 v8 b8 τ8 e8 q8 c14)
          · refine pGo (s_iconst dX2_readLine_84) ?_
            exact pEnd (r := (some (0, 0))) dX2_readLine_85 (Or.inl rfl) (k5 v1 b1 τ1 e1 q1 c1 c3 c6 c7 τ5 e5 q5 v6 b6 τ6 e6 q6 c10)
        · refine pGo (s_aload_n dX2_readLine_65 rfl (by decide)) ?_
          refine pGo (s_iconst dX2_readLine_66) ?_
          refine p_callV (As := [(0, 2)]) (st := []) (n := 1) (d' := 0) (Q1 := Q7) pc9 ok_X9_fail ml_X2_92 im_X9_fail se_X9_fail dX2_readLine_67 (ob_2 S1) (pargs_of rfl) rfl (Nat.le_of_ble_eq_true rfl) (by omega) (f9 v1 b1 τ1 e1 q1 c1 c3 c6 c8) (fun r9 τ9 e9 q9 w9 => ?_)
          obtain ⟨v9, rfl, b9⟩ := pRok_z w9
          have S9 : Stat τ9 := (Stat.le (σ := (wr τ1 a0 5 0)) S1 e9)
          have J9_0 : Inst2 τ9 a0 na0 := Inst2.le (σ := (wr τ1 a0 5 0)) J1_0 e9
          show pR mX2_readLine d 70 [(2, a0), (2, 2), (0, 0), (9, 0)] [(0, v9)] τ9 Q
          exact pEnd (r := (some (0, v9))) dX2_readLine_70 (pRok_01 b9) (k6 v1 b1 τ1 e1 q1 c1 c3 c6 c8 v9 b9 τ9 e9 q9)
    · refine pGo (s_iconst dX2_readLine_20) ?_
      refine pGo (s_goto (tgt := 25) dX2_readLine_21 (by decide)) ?_
      refine pGo (s_putZ pc2 fl_X2_88 dX2_readLine_25 J1_0.o0 rfl rfl rfl rfl (by decide)) ?_
      refine pGo (s_aload_n dX2_readLine_28 rfl J1_0.pos) ?_
      refine pGoE (y := 1) (s_getI pc2 fl_X2_88 dX2_readLine_29 J1_0.o0 rfl (by decide)) (rd_wr_same _ _ _ _) ?_
      refine p_ifeq (tgt := 39) dX2_readLine_32 (by decide) (by decide) (fun q => absurd q (by decide)) (fun _ => ?_)
      refine pGo (s_iconst dX2_readLine_35) ?_
      refine pGo (s_goto (tgt := 40) dX2_readLine_36 (by decide)) ?_
      refine pGoL (ls2 := [(2, a0), (2, 2), (0, 1), (9, 0)]) (s_istore_n dX2_readLine_40 (by decide) rfl) rfl ?_
      refine pGo (s_aload_n dX2_readLine_41 rfl J1_0.pos) ?_
      refine pGoE (y := 1) (s_getI pc2 fl_X2_88 dX2_readLine_42 J1_0.o0 rfl (by decide)) (rd_wr_same _ _ _ _) ?_
      refine p_ifne (tgt := 55) dX2_readLine_45 (by decide) (by decide) (fun _ => ?_) (fun q => absurd q (by decide))
      refine pGo (s_aload_n dX2_readLine_55 rfl J1_0.pos) ?_
      refine pGo (s_getF pc2 fl_X2_9 dX2_readLine_56 J1_0.o0 rfl (by decide)) ?_
      refine pGo (s_iload_n dX2_readLine_59 rfl) ?_
      refine pGoE (y := (rd τ1 (a0 + 1) 1)) (s_iald dX2_readLine_60 J1_0.o1 (by decide)) (rd_wr_a _ (by omega)) ?_
      refine pGo (s_iconst dX2_readLine_61) ?_
      refine p_iceq (tgt := 71) dX2_readLine_62 (by decide) (g8 v1 b1 τ1 e1 q1 c1 c4) (by decide) (fun c15 => ?_) (fun c16 => ?_)
      · refine pGo (s_aload_n dX2_readLine_71 rfl (by decide)) ?_
        refine p_callV (As := []) (st := []) (n := 0) (d' := 0) (Q1 := Q8) pc9 ok_X9_step ml_X2_95 im_X9_step se_X9_step dX2_readLine_72 (ob_2 S1) (pargs_of rfl) rfl (Nat.le_of_ble_eq_true rfl) (by omega) (f10 v1 b1 τ1 e1 q1 c1 c4 c15) (fun r10 τ10 e10 q10 w10 => ?_)
        obtain rfl : r10 = none := w10
        have S10 : Stat τ10 := (Stat.le (σ := (wr τ1 a0 5 1)) S1 e10)
        have J10_0 : Inst2 τ10 a0 na0 := Inst2.le (σ := (wr τ1 a0 5 1)) J1_0 e10
        show pR mX2_readLine d 75 [(2, a0), (2, 2), (0, 1), (9, 0)] [] τ10 Q
        refine pGo (s_aload_n dX2_readLine_75 rfl (by decide)) ?_
        refine pGo (s_bipush dX2_readLine_76 (by decide)) ?_
        refine p_callV (As := [(0, 11)]) (st := []) (n := 1) (d' := 1) (Q1 := Q9) pc9 ok_X9_expect ml_X2_85 im_X9_expect se_X9_expect dX2_readLine_78 (ob_2 S10) (pargs_of rfl) rfl (Nat.le_of_ble_eq_true rfl) (by omega) (f11 v1 b1 τ1 e1 q1 c1 c4 c15 τ10 e10 q10) (fun r11 τ11 e11 q11 w11 => ?_)
        obtain ⟨v11, rfl, b11⟩ := pRok_z w11
        have S11 : Stat τ11 := (Stat.le (σ := τ10) S10 e11)
        have J11_0 : Inst2 τ11 a0 na0 := Inst2.le (σ := τ10) J10_0 e11
        show pR mX2_readLine d 81 [(2, a0), (2, 2), (0, 1), (9, 0)] [(0, v11)] τ11 Q
        refine p_ifne (tgt := 86) dX2_readLine_81 (by decide) (g9 v1 b1 τ1 e1 q1 c1 c4 c15 τ10 e10 q10 v11 b11 τ11 e11 q11) (fun c17 => ?_) (fun c18 => ?_)
        · refine pGo (s_aload_n dX2_readLine_86 rfl J11_0.pos) ?_
          refine pGo (s_getF pc2 fl_X2_9 dX2_readLine_87 J11_0.o0 rfl (by decide)) ?_
          refine pGo (s_iload_n dX2_readLine_90 rfl) ?_
          refine pGo (s_aload_n dX2_readLine_91 rfl J11_0.pos) ?_
          refine pGoE (y := (rd τ11 a0 2)) (s_getI pc2 fl_X2_98 dX2_readLine_92 J11_0.o0 rfl (by decide)) rfl ?_
          refine pGo (s_iast dX2_readLine_95 J11_0.o1 (by decide)) ?_
          refine pGo (s_aload_n dX2_readLine_96 rfl J11_0.pos) ?_
          refine pGo (s_aload_n dX2_readLine_97 rfl (by decide)) ?_
          refine pGo (s_iconst dX2_readLine_98) ?_
          refine p_callV (As := [(2, 2), (0, 0)]) (st := []) (n := 2) (d' := (d - 1)) (Q1 := Q10) pc2 ok_X2_readEither ml_X2_101 im_X2_readEither se_X2_readEither dX2_readLine_99 J11_0.o0 (pargs_of rfl) rfl (Nat.le_of_ble_eq_true rfl) (by omega) (f12 v1 b1 τ1 e1 q1 c1 c4 c15 τ10 e10 q10 v11 b11 τ11 e11 q11 c17) (fun r12 τ12 e12 q12 w12 => ?_)
          obtain ⟨v12, rfl, b12⟩ := pRok_z w12
          have S12 : Stat τ12 := (Stat.le (σ := (wr τ11 (a0 + 1) 1 (rd τ11 a0 2))) S11 e12)
          have J12_0 : Inst2 τ12 a0 na0 := Inst2.le (σ := (wr τ11 (a0 + 1) 1 (rd τ11 a0 2))) J11_0 e12
          show pR mX2_readLine d 102 [(2, a0), (2, 2), (0, 1), (9, 0)] [(0, v12)] τ12 Q
          refine pGoL (ls2 := [(2, a0), (2, 2), (0, 1), (0, v12)]) (s_istore_n dX2_readLine_102 (by decide) rfl) rfl ?_
          refine pGo (s_aload_n dX2_readLine_103 rfl J12_0.pos) ?_
          refine pGo (s_getF pc2 fl_X2_15 dX2_readLine_104 J12_0.o0 rfl (by decide)) ?_
          refine pGo (s_iload_n dX2_readLine_107 rfl) ?_
          refine pGo (s_aload_n dX2_readLine_108 rfl J12_0.pos) ?_
          refine pGoE (y := (rd τ12 a0 2)) (s_getI pc2 fl_X2_98 dX2_readLine_109 J12_0.o0 rfl (by decide)) rfl ?_
          refine pGo (s_iast dX2_readLine_112 J12_0.o2 (by decide)) ?_
          refine pGo (s_iload_n dX2_readLine_113 rfl) ?_
          refine p_ifeq (tgt := 130) dX2_readLine_114 (by decide) (g10 v1 b1 τ1 e1 q1 c1 c4 c15 τ10 e10 q10 v11 b11 τ11 e11 q11 c17 v12 b12 τ12 e12 q12) (fun c19 => ?_) (fun c20 => ?_)
          · refine pGo (s_iconst dX2_readLine_130) ?_
            exact pEnd (r := (some (0, 0))) dX2_readLine_131 (Or.inl rfl) (k7 v1 b1 τ1 e1 q1 c1 c4 c15 τ10 e10 q10 v11 b11 τ11 e11 q11 c17 v12 b12 τ12 e12 q12 c19)
          · refine pGo (s_aload_n dX2_readLine_117 rfl (by decide)) ?_
            refine pGo (s_bipush dX2_readLine_118 (by decide)) ?_
            refine p_callV (As := [(0, 59)]) (st := []) (n := 1) (d' := 1) (Q1 := Q11) pc9 ok_X9_expect ml_X2_85 im_X9_expect se_X9_expect dX2_readLine_120 (ob_2 S12) (pargs_of rfl) rfl (Nat.le_of_ble_eq_true rfl) (by omega) (f13 v1 b1 τ1 e1 q1 c1 c4 c15 τ10 e10 q10 v11 b11 τ11 e11 q11 c17 v12 b12 τ12 e12 q12 c20) (fun r13 τ13 e13 q13 w13 => ?_)
            obtain ⟨v13, rfl, b13⟩ := pRok_z w13
            have S13 : Stat τ13 := (Stat.le (σ := (wr τ12 (a0 + 2) 1 (rd τ12 a0 2))) S12 e13)
            have J13_0 : Inst2 τ13 a0 na0 := Inst2.le (σ := (wr τ12 (a0 + 2) 1 (rd τ12 a0 2))) J12_0 e13
            show pR mX2_readLine d 123 [(2, a0), (2, 2), (0, 1), (0, v12)] [(0, v13)] τ13 Q
            refine p_ifeq (tgt := 130) dX2_readLine_123 (by decide) (g11 v1 b1 τ1 e1 q1 c1 c4 c15 τ10 e10 q10 v11 b11 τ11 e11 q11 c17 v12 b12 τ12 e12 q12 c20 v13 b13 τ13 e13 q13) (fun c21 => ?_) (fun c22 => ?_)
            · refine pGo (s_iconst dX2_readLine_130) ?_
              exact pEnd (r := (some (0, 0))) dX2_readLine_131 (Or.inl rfl) (k8 v1 b1 τ1 e1 q1 c1 c4 c15 τ10 e10 q10 v11 b11 τ11 e11 q11 c17 v12 b12 τ12 e12 q12 c20 v13 b13 τ13 e13 q13 c21)
            · refine pGo (s_iconst dX2_readLine_126) ?_
              refine pGo (s_goto (tgt := 131) dX2_readLine_127 (by decide)) ?_
              exact pEnd (r := (some (0, 1))) dX2_readLine_131 (Or.inr rfl) (k9 v1 b1 τ1 e1 q1 c1 c4 c15 τ10 e10 q10 v11 b11 τ11 e11 q11 c17 v12 b12 τ12 e12 q12 c20 v13 b13 τ13 e13 q13 c22)
        · refine pGo (s_iconst dX2_readLine_84) ?_
          exact pEnd (r := (some (0, 0))) dX2_readLine_85 (Or.inl rfl) (k10 v1 b1 τ1 e1 q1 c1 c4 c15 τ10 e10 q10 v11 b11 τ11 e11 q11 c18)
      · refine pGo (s_aload_n dX2_readLine_65 rfl (by decide)) ?_
        refine pGo (s_iconst dX2_readLine_66) ?_
        refine p_callV (As := [(0, 2)]) (st := []) (n := 1) (d' := 0) (Q1 := Q12) pc9 ok_X9_fail ml_X2_92 im_X9_fail se_X9_fail dX2_readLine_67 (ob_2 S1) (pargs_of rfl) rfl (Nat.le_of_ble_eq_true rfl) (by omega) (f14 v1 b1 τ1 e1 q1 c1 c4 c16) (fun r14 τ14 e14 q14 w14 => ?_)
        obtain ⟨v14, rfl, b14⟩ := pRok_z w14
        have S14 : Stat τ14 := (Stat.le (σ := (wr τ1 a0 5 1)) S1 e14)
        have J14_0 : Inst2 τ14 a0 na0 := Inst2.le (σ := (wr τ1 a0 5 1)) J1_0 e14
        show pR mX2_readLine d 70 [(2, a0), (2, 2), (0, 1), (9, 0)] [(0, v14)] τ14 Q
        exact pEnd (r := (some (0, v14))) dX2_readLine_70 (pRok_01 b14) (k11 v1 b1 τ1 e1 q1 c1 c4 c16 v14 b14 τ14 e14 q14)
  · refine pGo (s_iconst dX2_readLine_9) ?_
    exact pEnd (r := (some (0, 0))) dX2_readLine_10 (Or.inl rfl) (k12 v1 b1 τ1 e1 q1 c2)
set_option maxRecDepth 100000 in
theorem g_X2_read_0 {d : Nat} {σ : pS} {Q : Option pV → pS → Prop} (hd : 62 ≤ d) (hst : Stat σ) (a0 : Int) {na0 : Nat} (Ia0 : Inst2 σ a0 na0) (k1 : pR mX2_read d 2 [(2, a0), (2, 2), (0, 0)] [] σ Q) : pC mX2_read d [(2, a0), (2, 2)] σ Q := by
  show pR mX2_read d 0 [(2, a0), (2, 2), (9, 0)] [] σ Q
  refine pGo (s_iconst dX2_read_0) ?_
  refine pGoL (ls2 := [(2, a0), (2, 2), (0, 0)]) (s_istore_n dX2_read_1 (by decide) rfl) rfl ?_
  exact k1
set_option maxRecDepth 100000 in
theorem g_X2_read_2 {d : Nat} {σ : pS} {Q : Option pV → pS → Prop} {Q1 : Option pV → pS → Prop} (hd : 62 ≤ d) (hst : Stat σ) (x0 : Int) (x2 : Int) {nx0 : Nat} (Ix0 : Inst2 σ x0 nx0) (g1 : inR x2) (k1 : ∀ (c1 : 500 < x2), Q (some (0, 1)) σ) (f1 : ∀ (c2 : x2 ≤ 500), pC mX9_kind 0 [(2, 2)] σ (fun r τ => r = some (0, (vTkK σ)) ∧ τ = σ)) (g2 : ∀ (c2 : x2 ≤ 500), inR (vTkK σ)) (k2 : ∀ (c2 : x2 ≤ 500) (c3 : (vTkK σ) = 21), Q (some (0, 1)) σ) (f2 : ∀ (c2 : x2 ≤ 500) (c4 : (vTkK σ) ≠ 21), pC mX2_readLine 61 [(2, x0), (2, 2)] σ Q1) (g3 : ∀ (c2 : x2 ≤ 500) (c4 : (vTkK σ) ≠ 21) (v2 : Int) (b2 : v2 = 0 ∨ v2 = 1) (τ2 : pS) (e2 : pLe σ τ2) (q2 : Q1 (some (0, v2)) τ2), inR v2) (k3 : ∀ (c2 : x2 ≤ 500) (c4 : (vTkK σ) ≠ 21) (v2 : Int) (b2 : v2 = 0 ∨ v2 = 1) (τ2 : pS) (e2 : pLe σ τ2) (q2 : Q1 (some (0, v2)) τ2) (c5 : v2 ≠ 0), pR mX2_read d 2 [(2, x0), (2, 2), (0, (x2 + 1))] [] (wr τ2 x0 4 ((rd τ2 x0 4) + 1)) Q) (k4 : ∀ (c2 : x2 ≤ 500) (c4 : (vTkK σ) ≠ 21) (v2 : Int) (b2 : v2 = 0 ∨ v2 = 1) (τ2 : pS) (e2 : pLe σ τ2) (q2 : Q1 (some (0, v2)) τ2) (c6 : v2 = 0), Q (some (0, 0)) τ2) : pR mX2_read d 2 [(2, x0), (2, 2), (0, x2)] [] σ Q := by
  refine pGo (s_iload_n dX2_read_2 rfl) ?_
  refine pGo (s_sipush dX2_read_3 (by decide)) ?_
  refine p_icgt (tgt := 44) dX2_read_6 (by decide) g1 (by decide) (fun c1 => ?_) (fun c2 => ?_)
  · refine pGo (s_iconst dX2_read_44) ?_
    exact pEnd (r := (some (0, 1))) dX2_read_45 (Or.inr rfl) (k1 c1)
  · refine pGo (s_aload_n dX2_read_9 rfl (by decide)) ?_
    refine p_callV (As := []) (st := []) (n := 0) (d' := 0) (Q1 := (fun r τ => r = some (0, (vTkK σ)) ∧ τ = σ)) pc9 ok_X9_kind ml_X2_71 im_X9_kind se_X9_kind dX2_read_10 (ob_2 hst) (pargs_of rfl) rfl (Nat.le_of_ble_eq_true rfl) (by omega) (f1 c2) (fun r1 τ1 e1 q1 w1 => ?_)
    obtain ⟨rfl, t1⟩ := q1
    rw [t1]
    show pR mX2_read d 13 [(2, x0), (2, 2), (0, x2)] [(0, (vTkK σ))] σ Q
    refine pGo (s_bipush dX2_read_13 (by decide)) ?_
    refine p_iceq (tgt := 44) dX2_read_15 (by decide) (g2 c2) (by decide) (fun c3 => ?_) (fun c4 => ?_)
    · refine pGo (s_iconst dX2_read_44) ?_
      exact pEnd (r := (some (0, 1))) dX2_read_45 (Or.inr rfl) (k2 c2 c3)
    · refine pGo (s_aload_n dX2_read_18 rfl Ix0.pos) ?_
      refine pGo (s_aload_n dX2_read_19 rfl (by decide)) ?_
      refine p_callV (As := [(2, 2)]) (st := []) (n := 1) (d' := 61) (Q1 := Q1) pc2 ok_X2_readLine ml_X2_77 im_X2_readLine se_X2_readLine dX2_read_20 Ix0.o0 (pargs_of rfl) rfl (Nat.le_of_ble_eq_true rfl) (by omega) (f2 c2 c4) (fun r2 τ2 e2 q2 w2 => ?_)
      obtain ⟨v2, rfl, b2⟩ := pRok_z w2
      have S2 : Stat τ2 := (Stat.le (σ := σ) hst e2)
      have J2_0 : Inst2 τ2 x0 nx0 := Inst2.le (σ := σ) Ix0 e2
      show pR mX2_read d 23 [(2, x0), (2, 2), (0, x2)] [(0, v2)] τ2 Q
      refine p_ifne (tgt := 28) dX2_read_23 (by decide) (g3 c2 c4 v2 b2 τ2 e2 q2) (fun c5 => ?_) (fun c6 => ?_)
      · refine pGo (s_aload_n dX2_read_28 rfl J2_0.pos) ?_
        refine pGo (s_dup dX2_read_29 (show (2 : Nat) ≠ 1 by decide)) ?_
        refine pGoE (y := (rd τ2 x0 4)) (s_getI pc2 fl_X2_81 dX2_read_30 J2_0.o0 rfl (by decide)) rfl ?_
        refine pGo (s_iconst dX2_read_33) ?_
        refine pGo (s_iadd dX2_read_34) ?_
        refine pGo (s_putI pc2 fl_X2_81 dX2_read_35 J2_0.o0 rfl rfl rfl rfl) ?_
        refine pGoL (ls2 := [(2, x0), (2, 2), (0, (x2 + 1))]) (s_iinc dX2_read_38 (by decide) rfl rfl) rfl ?_
        refine pGo (s_goto (tgt := 2) dX2_read_41 (by decide)) ?_
        exact (k3 c2 c4 v2 b2 τ2 e2 q2 c5)
      · refine pGo (s_iconst dX2_read_26) ?_
        exact pEnd (r := (some (0, 0))) dX2_read_27 (Or.inl rfl) (k4 c2 c4 v2 b2 τ2 e2 q2 c6)
