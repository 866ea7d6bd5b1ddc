/-! skier, and the walks of mountain and law -/
theorem ob_lt {σ : pS} {a : Int} {q : Nat × Nat} (h : ob σ a = some q) : 0 ≤ a ∧ a < (σ.1.length : Int) := by
  unfold ob at h
  split at h
  · cases h
  · obtain ⟨w, -⟩ := List.getElem?_eq_some_iff.mp h
    omega
theorem Stat.len {σ : pS} (h : Stat σ) : 141 ≤ (σ.1.length : Int) := by
  have := ob_lt (h 140 (by decide))
  omega
theorem rd_nw_s {σ : pS} (h : Stat σ) {c x : Nat} {a i : Int} (ha : a < 141) : rd (nw σ c x) a i = rd σ a i := by
  have := h.len
  rw [rd_nw, if_neg (by omega)]
def mbase (σ : pS) (ci : Nat) : Int → Int → Int := fun b i => if b = (σ.1.length : Int) then pdf ci i else if b < (σ.1.length : Int) then rd σ b i else 0
theorem Mk_start (σ : pS) (ci : Nat) : Mk (σ.1 ++ [(ci, 0)]) (mbase σ ci) (nw σ ci 0) := by
  refine ⟨rfl, fun b i hb => ?_⟩
  rw [rd_nw]
  unfold mbase
  split
  · rfl
  · rw [if_pos]
    simp at hb
    omega
theorem mbase_n (σ : pS) (ci : Nat) (k i : Int) (h : 1 ≤ k) : mbase σ ci (((σ.1.length : Nat) : Int) + k) i = 0 := by
  unfold mbase
  rw [if_neg (by omega), if_neg (by omega)]
theorem mbase_o (σ : pS) (ci : Nat) (b i : Int) (h : b < ((σ.1.length : Nat) : Int)) : mbase σ ci b i = rd σ b i := by
  unfold mbase
  rw [if_neg (by omega), if_pos h]
theorem pSz_app {σ τ : pS} {r : List (Nat × Nat)} (h : τ.1 = σ.1 ++ r) : pSz τ = pSz σ + (r.map (fun q => if q.1 < 50 then (pFt q.1).length else q.2)).sum := by
  unfold pSz
  rw [h, List.map_append, List.sum_append]
set_option maxRecDepth 100000 in
theorem g_X10_skier_0 {d : Nat} {σ : pS} {Q : Option pV → pS → Prop} {Q1 : Option pV → pS → Prop} (hd : 2 ≤ d) (hst : Stat σ) (x1 : Int)  (f1 : pC mX10_within 0 [(0, x1), (0, 4)] σ (fun r τ => r = some (0, b2i (vWithin x1 4)) ∧ τ = σ)) (k1 : ∀ (c1 : (vWithin x1 4) = false), Q (some (0, (-1))) σ) (g1 : ∀ (c2 : (vWithin x1 4) = true), inR (rd σ 0 14)) (f2 : ∀ (c2 : (vWithin x1 4) = true) (c3 : (rd σ 0 14) < 8), pC mX5_init 1 [(2, ((σ.1.length : Nat) : Int)), (0, x1), (2, (rd σ 0 7))] (nw σ 5 0) Q1) (g2 : ∀ (c2 : (vWithin x1 4) = true) (c3 : (rd σ 0 14) < 8) (τ2 : pS) (e2 : pLe (nw σ 5 0) τ2) (q2 : Q1 none τ2), 0 ≤ (rd σ 0 14) ∧ (rd σ 0 14) < 8) (g3 : ∀ (c2 : (vWithin x1 4) = true) (c3 : (rd σ 0 14) < 8) (τ2 : pS) (e2 : pLe (nw σ 5 0) τ2) (q2 : Q1 none τ2), Inst5 τ2 ((σ.1.length : Nat) : Int)) (k2 : ∀ (c2 : (vWithin x1 4) = true) (c3 : (rd σ 0 14) < 8) (τ2 : pS) (e2 : pLe (nw σ 5 0) τ2) (q2 : Q1 none τ2), Q (some (0, (((rd τ2 0 14) + 1) - 1))) (wr (wr τ2 43 (rd σ 0 14) ((σ.1.length : Nat) : Int)) 0 14 ((rd τ2 0 14) + 1))) (k3 : ∀ (c2 : (vWithin x1 4) = true) (c4 : 8 ≤ (rd σ 0 14)), Q (some (0, (-1))) σ) : pC mX10_skier d [(2, 0), (0, x1)] σ Q := by
  show pR mX10_skier d 0 [(2, 0), (0, x1)] [] σ Q
  refine pGo (s_iload_n dX10_skier_0 rfl) ?_
  refine pGo (s_iconst dX10_skier_1) ?_
  refine p_callS (As := [(0, x1), (0, 4)]) (st := []) (n := 2) (d' := 0) (Q1 := (fun r τ => r = some (0, b2i (vWithin x1 4)) ∧ τ = σ)) ok_X10_within ml_X10_138 sm_X10_within dX10_skier_2 (pargs_of rfl) rfl (Nat.le_of_ble_eq_true rfl) (by omega) f1 (fun r1 τ1 e1 q1 w1 => ?_)
  obtain ⟨rfl, t1⟩ := q1
  rw [t1]
  show pR mX10_skier d 5 [(2, 0), (0, x1)] [(0, (b2i (vWithin x1 4)))] σ Q
  refine p_ifeqB (tgt := 17) dX10_skier_5 (by decide) (fun c1 => ?_) (fun c2 => ?_)
  · refine pGo (s_iconst dX10_skier_17) ?_
    exact pEnd (r := (some (0, (-1)))) dX10_skier_18 ⟨_, rfl⟩ (k1 c1)
  · refine pGo (s_aload_n dX10_skier_8 rfl (by decide)) ?_
    refine pGoE (y := (rd σ 0 14)) (s_getI pc10 fl_X10_194 dX10_skier_9 (ob_0 hst) rfl (by decide)) rfl ?_
    refine pGo (s_bipush dX10_skier_12 (by decide)) ?_
    refine p_iclt (tgt := 19) dX10_skier_14 (by decide) (g1 c2) (by decide) (fun c3 => ?_) (fun c4 => ?_)
    · refine pGo (s_aload_n dX10_skier_19 rfl (by decide)) ?_
      refine pGoE (y := 43) (s_getF pc10 fl_X10_70 dX10_skier_20 (ob_0 hst) rfl (by decide)) (by decide) ?_
      refine pGo (s_aload_n dX10_skier_23 rfl (by decide)) ?_
      refine pGoE (y := (rd σ 0 14)) (s_getI pc10 fl_X10_194 dX10_skier_24 (ob_0 hst) rfl (by decide)) rfl ?_
      refine pGo (s_new pc5 (by decide +kernel) cl_X10_68 in_X5 ii_X5 dX10_skier_27) ?_
      refine pGo (s_dup dX10_skier_30 (show (2 : Nat) ≠ 1 by decide)) ?_
      refine pGo (s_iload_n dX10_skier_31 rfl) ?_
      refine pGo (s_aload_n dX10_skier_32 rfl (by decide)) ?_
      refine pGoE (y := (rd σ 0 7)) (s_getR pc10 fl_X10_27 dX10_skier_33 (ob_0 (Stat.le hst (pLe_nw _ 5 0))) rfl rfl) (rd_nw_s hst (by decide)) ?_
      refine p_callI (As := [(0, x1), (2, (rd σ 0 7))]) (st := [(2, ((σ.1.length : Nat) : Int)), (0, (rd σ 0 14)), (2, 43)]) (n := 2) (d' := 1) (Q1 := Q1) (by omega) ok_X5_init rfl ml_X10_197 im_X5_init rfl dX10_skier_36 (pargs_of rfl) rfl (Nat.le_of_ble_eq_true rfl) (by omega) (f2 c2 c3) (fun r2 τ2 e2 q2 w2 => ?_)
      obtain rfl : r2 = none := w2
      have S2 : Stat τ2 := (Stat.le (σ := (nw σ 5 0)) (Stat.le hst (pLe_nw _ 5 0)) e2)
      show pR mX10_skier d 39 [(2, 0), (0, x1)] [(2, ((σ.1.length : Nat) : Int)), (0, (rd σ 0 14)), (2, 43)] τ2 Q
      refine pGo (s_aast dX10_skier_39 (ob_43 S2) (bnd (g2 c2 c3 τ2 e2 q2)) (g3 c2 c3 τ2 e2 q2).o0) ?_
      refine pGo (s_aload_n dX10_skier_40 rfl (by decide)) ?_
      refine pGo (s_dup dX10_skier_41 (by decide)) ?_
      refine pGoE (y := (rd τ2 0 14)) (s_getI pc10 fl_X10_194 dX10_skier_42 (ob_0 S2) rfl (by decide)) (rd_wr_a _ (by decide)) ?_
      refine pGo (s_iconst dX10_skier_45) ?_
      refine pGo (s_iadd dX10_skier_46) ?_
      refine pGo (s_putI pc10 fl_X10_194 dX10_skier_47 (ob_0 S2) rfl rfl rfl rfl) ?_
      refine pGo (s_aload_n dX10_skier_50 rfl (by decide)) ?_
      refine pGoE (y := ((rd τ2 0 14) + 1)) (s_getI pc10 fl_X10_194 dX10_skier_51 (ob_0 S2) rfl (by decide)) (rd_wr_same _ _ _ _) ?_
      refine pGo (s_iconst dX10_skier_54) ?_
      refine pGo (s_isub dX10_skier_55) ?_
      exact pEnd (r := (some (0, (((rd τ2 0 14) + 1) - 1)))) dX10_skier_56 ⟨_, rfl⟩ (k2 c2 c3 τ2 e2 q2)
    · refine pGo (s_iconst dX10_skier_17) ?_
      exact pEnd (r := (some (0, (-1)))) dX10_skier_18 ⟨_, rfl⟩ (k3 c2 c4)
set_option maxRecDepth 100000 in
theorem g_X10_mountain_0 {d : Nat} {σ : pS} {Q : Option pV → pS → Prop} {Q1 : Option pV → pS → Prop} {Q2 : Option pV → pS → Prop} {Q3 : Option pV → pS → Prop} {Q4 : Option pV → pS → Prop} {Q5 : Option pV → pS → Prop} {Q6 : Option pV → pS → Prop} (hd : 11 ≤ d) (hst : Stat σ)   (f1 : pC mX6_init 1 [(2, ((σ.1.length : Nat) : Int))] (nw σ 6 0) Q1) (f2 : ∀ (τ1 : pS) (e1 : pLe (nw σ 6 0) τ1) (q1 : Q1 none τ1), pC mX10_cutTape 10 [(2, 0)] τ1 Q2) (f3 : ∀ (τ1 : pS) (e1 : pLe (nw σ 6 0) τ1) (q1 : Q1 none τ1) (τ2 : pS) (e2 : pLe τ1 τ2) (q2 : Q2 none τ2), pC mX6_read 5 [(2, ((σ.1.length : Nat) : Int)), (2, 2)] τ2 Q3) (g1 : ∀ (τ1 : pS) (e1 : pLe (nw σ 6 0) τ1) (q1 : Q1 none τ1) (τ2 : pS) (e2 : pLe τ1 τ2) (q2 : Q2 none τ2), Inst6 τ2 ((σ.1.length : Nat) : Int)) (f4 : ∀ (τ1 : pS) (e1 : pLe (nw σ 6 0) τ1) (q1 : Q1 none τ1) (τ2 : pS) (e2 : pLe τ1 τ2) (q2 : Q2 none τ2) (v3 : Int) (b3 : v3 = 0 ∨ v3 = 1) (τ3 : pS) (e3 : pLe τ2 τ3) (q3 : Q3 (some (0, v3)) τ3), pC mX10_keepFault 0 [(2, 0)] τ3 Q4) (g2 : ∀ (τ1 : pS) (e1 : pLe (nw σ 6 0) τ1) (q1 : Q1 none τ1) (τ2 : pS) (e2 : pLe τ1 τ2) (q2 : Q2 none τ2) (v3 : Int) (b3 : v3 = 0 ∨ v3 = 1) (τ3 : pS) (e3 : pLe τ2 τ3) (q3 : Q3 (some (0, v3)) τ3) (τ4 : pS) (e4 : pLe τ3 τ4) (q4 : Q4 none τ4), inR v3) (f5 : ∀ (τ1 : pS) (e1 : pLe (nw σ 6 0) τ1) (q1 : Q1 none τ1) (τ2 : pS) (e2 : pLe τ1 τ2) (q2 : Q2 none τ2) (v3 : Int) (b3 : v3 = 0 ∨ v3 = 1) (τ3 : pS) (e3 : pLe τ2 τ3) (q3 : Q3 (some (0, v3)) τ3) (τ4 : pS) (e4 : pLe τ3 τ4) (q4 : Q4 none τ4) (c1 : v3 ≠ 0), pC mX0_forgetWays 1 [(2, 44)] (wr (wr (wr τ4 0 7 ((σ.1.length : Nat) : Int)) 0 6 ((rd τ4 0 6) + 1)) 29 5 0) Q5) (f6 : ∀ (τ1 : pS) (e1 : pLe (nw σ 6 0) τ1) (q1 : Q1 none τ1) (τ2 : pS) (e2 : pLe τ1 τ2) (q2 : Q2 none τ2) (v3 : Int) (b3 : v3 = 0 ∨ v3 = 1) (τ3 : pS) (e3 : pLe τ2 τ3) (q3 : Q3 (some (0, v3)) τ3) (τ4 : pS) (e4 : pLe τ3 τ4) (q4 : Q4 none τ4) (c1 : v3 ≠ 0) (τ5 : pS) (e5 : pLe (wr (wr (wr τ4 0 7 ((σ.1.length : Nat) : Int)) 0 6 ((rd τ4 0 6) + 1)) 29 5 0) τ5) (q5 : Q5 none τ5), pC mX7_forget 3 [(2, 61), (2, (rd τ5 0 7))] (wr τ5 50 2 0) Q6) (k1 : ∀ (τ1 : pS) (e1 : pLe (nw σ 6 0) τ1) (q1 : Q1 none τ1) (τ2 : pS) (e2 : pLe τ1 τ2) (q2 : Q2 none τ2) (v3 : Int) (b3 : v3 = 0 ∨ v3 = 1) (τ3 : pS) (e3 : pLe τ2 τ3) (q3 : Q3 (some (0, v3)) τ3) (τ4 : pS) (e4 : pLe τ3 τ4) (q4 : Q4 none τ4) (c1 : v3 ≠ 0) (τ5 : pS) (e5 : pLe (wr (wr (wr τ4 0 7 ((σ.1.length : Nat) : Int)) 0 6 ((rd τ4 0 6) + 1)) 29 5 0) τ5) (q5 : Q5 none τ5) (τ6 : pS) (e6 : pLe (wr τ5 50 2 0) τ6) (q6 : Q6 none τ6), Q (some (0, (rd τ6 ((σ.1.length : Nat) : Int) 2))) τ6) (k2 : ∀ (τ1 : pS) (e1 : pLe (nw σ 6 0) τ1) (q1 : Q1 none τ1) (τ2 : pS) (e2 : pLe τ1 τ2) (q2 : Q2 none τ2) (v3 : Int) (b3 : v3 = 0 ∨ v3 = 1) (τ3 : pS) (e3 : pLe τ2 τ3) (q3 : Q3 (some (0, v3)) τ3) (τ4 : pS) (e4 : pLe τ3 τ4) (q4 : Q4 none τ4) (c2 : v3 = 0), Q (some (0, (-1))) τ4) : pC mX10_mountain d [(2, 0)] σ Q := by
  show pR mX10_mountain d 0 [(2, 0), (9, 0), (9, 0)] [] σ Q
  refine pGo (s_new pc6 (by decide +kernel) cl_X10_24 in_X6 ii_X6 dX10_mountain_0) ?_
  refine pGo (s_dup dX10_mountain_3 (show (2 : Nat) ≠ 1 by decide)) ?_
  refine p_callI (As := []) (st := [(2, ((σ.1.length : Nat) : Int))]) (n := 0) (d' := 1) (Q1 := Q1) (by omega) ok_X6_init rfl ml_X10_26 im_X6_init rfl dX10_mountain_4 (pargs_of rfl) rfl (Nat.le_of_ble_eq_true rfl) (by omega) f1 (fun r1 τ1 e1 q1 w1 => ?_)
  obtain rfl : r1 = none := w1
  have S1 : Stat τ1 := (Stat.le (σ := (nw σ 6 0)) (Stat.le hst (pLe_nw _ 6 0)) e1)
  show pR mX10_mountain d 7 [(2, 0), (9, 0), (9, 0)] [(2, ((σ.1.length : Nat) : Int))] τ1 Q
  refine pGoL (ls2 := [(2, 0), (2, ((σ.1.length : Nat) : Int)), (9, 0)]) (s_astore_n dX10_mountain_7 (by decide) rfl (by omega)) rfl ?_
  refine pGo (s_aload_n dX10_mountain_8 rfl (by decide)) ?_
  refine p_callV (As := []) (st := []) (n := 0) (d' := 10) (Q1 := Q2) pc10 ok_X10_cutTape ml_X10_103 im_X10_cutTape se_X10_cutTape dX10_mountain_9 (ob_0 S1) (pargs_of rfl) rfl (Nat.le_of_ble_eq_true rfl) (by omega) (f2 τ1 e1 q1) (fun r2 τ2 e2 q2 w2 => ?_)
  obtain rfl : r2 = none := w2
  have S2 : Stat τ2 := (Stat.le (σ := τ1) S1 e2)
  show pR mX10_mountain d 12 [(2, 0), (2, ((σ.1.length : Nat) : Int)), (9, 0)] [] τ2 Q
  refine pGo (s_aload_n dX10_mountain_12 rfl (by omega)) ?_
  refine pGo (s_aload_n dX10_mountain_13 rfl (by decide)) ?_
  refine pGoE (y := 2) (s_getF pc10 fl_X10_16 dX10_mountain_14 (ob_0 S2) rfl (by decide)) (by decide) ?_
  refine p_callV (As := [(2, 2)]) (st := []) (n := 1) (d' := 5) (Q1 := Q3) pc6 ok_X6_read ml_X10_106 im_X6_read se_X6_read dX10_mountain_17 (g1 τ1 e1 q1 τ2 e2 q2).o0 (pargs_of rfl) rfl (Nat.le_of_ble_eq_true rfl) (by omega) (f3 τ1 e1 q1 τ2 e2 q2) (fun r3 τ3 e3 q3 w3 => ?_)
  obtain ⟨v3, rfl, b3⟩ := pRok_z w3
  have S3 : Stat τ3 := (Stat.le (σ := τ2) S2 e3)
  have J3_0 : Inst6 τ3 ((σ.1.length : Nat) : Int) := Inst6.le (σ := τ2) (g1 τ1 e1 q1 τ2 e2 q2) e3
  show pR mX10_mountain d 20 [(2, 0), (2, ((σ.1.length : Nat) : Int)), (9, 0)] [(0, v3)] τ3 Q
  refine pGoL (ls2 := [(2, 0), (2, ((σ.1.length : Nat) : Int)), (0, v3)]) (s_istore_n dX10_mountain_20 (by decide) rfl) rfl ?_
  refine pGo (s_aload_n dX10_mountain_21 rfl (by decide)) ?_
  refine p_callV (As := []) (st := []) (n := 0) (d' := 0) (Q1 := Q4) pc10 ok_X10_keepFault ml_X10_110 im_X10_keepFault se_X10_keepFault dX10_mountain_22 (ob_0 S3) (pargs_of rfl) rfl (Nat.le_of_ble_eq_true rfl) (by omega) (f4 τ1 e1 q1 τ2 e2 q2 v3 b3 τ3 e3 q3) (fun r4 τ4 e4 q4 w4 => ?_)
  obtain rfl : r4 = none := w4
  have S4 : Stat τ4 := (Stat.le (σ := τ3) S3 e4)
  have J4_0 : Inst6 τ4 ((σ.1.length : Nat) : Int) := Inst6.le (σ := τ3) J3_0 e4
  show pR mX10_mountain d 25 [(2, 0), (2, ((σ.1.length : Nat) : Int)), (0, v3)] [] τ4 Q
  refine pGo (s_iload_n dX10_mountain_25 rfl) ?_
  refine p_ifne (tgt := 31) dX10_mountain_26 (by decide) (g2 τ1 e1 q1 τ2 e2 q2 v3 b3 τ3 e3 q3 τ4 e4 q4) (fun c1 => ?_) (fun c2 => ?_)
  · refine pGo (s_aload_n dX10_mountain_31 rfl (by decide)) ?_
    refine pGo (s_aload_n dX10_mountain_32 rfl J4_0.pos) ?_
    refine pGo (s_putR pc10 fl_X10_27 dX10_mountain_33 (ob_0 S4) rfl rfl rfl rfl) ?_
    refine pGo (s_aload_n dX10_mountain_36 rfl (by decide)) ?_
    refine pGo (s_dup dX10_mountain_37 (by decide)) ?_
    refine pGoE (y := (rd τ4 0 6)) (s_getI pc10 fl_X10_113 dX10_mountain_38 (ob_0 S4) rfl (by decide)) (rd_wr_i _ (by decide)) ?_
    refine pGo (s_iconst dX10_mountain_41) ?_
    refine pGo (s_iadd dX10_mountain_42) ?_
    refine pGo (s_putI pc10 fl_X10_113 dX10_mountain_43 (ob_0 S4) rfl rfl rfl rfl) ?_
    refine pGo (s_aload_n dX10_mountain_46 rfl (by decide)) ?_
    refine pGoE (y := 29) (s_getF pc10 fl_X10_47 dX10_mountain_47 (ob_0 S4) rfl (by decide)) (by decide) ?_
    refine pGo (s_iconst dX10_mountain_50) ?_
    refine pGo (s_putI pc8 fl_X10_116 dX10_mountain_51 (ob_29 S4) rfl rfl rfl rfl) ?_
    refine pGo (s_aload_n dX10_mountain_54 rfl (by decide)) ?_
    refine pGoE (y := 44) (s_getF pc10 fl_X10_77 dX10_mountain_55 (ob_0 S4) rfl (by decide)) (by decide) ?_
    refine p_callV (As := []) (st := []) (n := 0) (d' := 1) (Q1 := Q5) pc0 ok_X0_forgetWays ml_X10_119 im_X0_forgetWays se_X0_forgetWays dX10_mountain_58 (ob_44 S4) (pargs_of rfl) rfl (Nat.le_of_ble_eq_true rfl) (by omega) (f5 τ1 e1 q1 τ2 e2 q2 v3 b3 τ3 e3 q3 τ4 e4 q4 c1) (fun r5 τ5 e5 q5 w5 => ?_)
    obtain rfl : r5 = none := w5
    have S5 : Stat τ5 := (Stat.le (σ := (wr (wr (wr τ4 0 7 ((σ.1.length : Nat) : Int)) 0 6 ((rd τ4 0 6) + 1)) 29 5 0)) S4 e5)
    have J5_0 : Inst6 τ5 ((σ.1.length : Nat) : Int) := Inst6.le (σ := (wr (wr (wr τ4 0 7 ((σ.1.length : Nat) : Int)) 0 6 ((rd τ4 0 6) + 1)) 29 5 0)) J4_0 e5
    show pR mX10_mountain d 61 [(2, 0), (2, ((σ.1.length : Nat) : Int)), (0, v3)] [] τ5 Q
    refine pGo (s_aload_n dX10_mountain_61 rfl (by decide)) ?_
    refine pGoE (y := 50) (s_getF pc10 fl_X10_86 dX10_mountain_62 (ob_0 S5) rfl (by decide)) (by decide) ?_
    refine pGo (s_iconst dX10_mountain_65) ?_
    refine pGo (s_putZ pc1 fl_X10_122 dX10_mountain_66 (ob_50 S5) rfl rfl rfl rfl (by decide)) ?_
    refine pGo (s_aload_n dX10_mountain_69 rfl (by decide)) ?_
    refine pGoE (y := 61) (s_getF pc10 fl_X10_93 dX10_mountain_70 (ob_0 S5) rfl (by decide)) (by decide) ?_
    refine pGo (s_aload_n dX10_mountain_73 rfl (by decide)) ?_
    refine pGoE (y := (rd τ5 0 7)) (s_getR pc10 fl_X10_27 dX10_mountain_74 (ob_0 S5) rfl rfl) (rd_wr_a _ (by decide)) ?_
    refine p_callV (As := [(2, (rd τ5 0 7))]) (st := []) (n := 1) (d' := 3) (Q1 := Q6) pc7 ok_X7_forget ml_X10_126 im_X7_forget se_X7_forget dX10_mountain_77 (ob_61 S5) (pargs_of rfl) rfl (Nat.le_of_ble_eq_true rfl) (by omega) (f6 τ1 e1 q1 τ2 e2 q2 v3 b3 τ3 e3 q3 τ4 e4 q4 c1 τ5 e5 q5) (fun r6 τ6 e6 q6 w6 => ?_)
    obtain rfl : r6 = none := w6
    have S6 : Stat τ6 := (Stat.le (σ := (wr τ5 50 2 0)) S5 e6)
    have J6_0 : Inst6 τ6 ((σ.1.length : Nat) : Int) := Inst6.le (σ := (wr τ5 50 2 0)) J5_0 e6
    show pR mX10_mountain d 80 [(2, 0), (2, ((σ.1.length : Nat) : Int)), (0, v3)] [] τ6 Q
    refine pGo (s_aload_n dX10_mountain_80 rfl J6_0.pos) ?_
    refine pGoE (y := (rd τ6 ((σ.1.length : Nat) : Int) 2)) (s_getI pc6 fl_X10_129 dX10_mountain_81 J6_0.o0 rfl (by decide)) rfl ?_
    exact pEnd (r := (some (0, (rd τ6 ((σ.1.length : Nat) : Int) 2)))) dX10_mountain_84 ⟨_, rfl⟩ (k1 τ1 e1 q1 τ2 e2 q2 v3 b3 τ3 e3 q3 τ4 e4 q4 c1 τ5 e5 q5 τ6 e6 q6)
  · refine pGo (s_iconst dX10_mountain_29) ?_
    exact pEnd (r := (some (0, (-1)))) dX10_mountain_30 ⟨_, rfl⟩ (k2 τ1 e1 q1 τ2 e2 q2 v3 b3 τ3 e3 q3 τ4 e4 q4 c2)
set_option maxRecDepth 100000 in
theorem g_X10_law_0 {d : Nat} {σ : pS} {Q : Option pV → pS → Prop} {Q1 : Option pV → pS → Prop} {Q2 : Option pV → pS → Prop} {Q3 : Option pV → pS → Prop} {Q4 : Option pV → pS → Prop} (hd : 63 ≤ d) (hst : Stat σ)   (g1 : inR (rd σ 0 1)) (f1 : ∀ (c1 : (rd σ 0 1) ≤ 500), pC mX10_cutTape 10 [(2, 0)] σ Q1) (f2 : ∀ (c1 : (rd σ 0 1) ≤ 500) (τ1 : pS) (e1 : pLe σ τ1) (q1 : Q1 none τ1), pC mX2_init 1 [(2, ((τ1.1.length : Nat) : Int)), (0, (rd τ1 2 3))] (nw τ1 2 0) Q2) (f3 : ∀ (c1 : (rd σ 0 1) ≤ 500) (τ1 : pS) (e1 : pLe σ τ1) (q1 : Q1 none τ1) (τ2 : pS) (e2 : pLe (nw τ1 2 0) τ2) (q2 : Q2 none τ2), pC mX2_read 62 [(2, ((τ1.1.length : Nat) : Int)), (2, 2)] τ2 Q3) (g2 : ∀ (c1 : (rd σ 0 1) ≤ 500) (τ1 : pS) (e1 : pLe σ τ1) (q1 : Q1 none τ1) (τ2 : pS) (e2 : pLe (nw τ1 2 0) τ2) (q2 : Q2 none τ2), Inst2 τ2 ((τ1.1.length : Nat) : Int) ((max 1 (rd τ1 2 3)).toNat)) (f4 : ∀ (c1 : (rd σ 0 1) ≤ 500) (τ1 : pS) (e1 : pLe σ τ1) (q1 : Q1 none τ1) (τ2 : pS) (e2 : pLe (nw τ1 2 0) τ2) (q2 : Q2 none τ2) (v3 : Int) (b3 : v3 = 0 ∨ v3 = 1) (τ3 : pS) (e3 : pLe τ2 τ3) (q3 : Q3 (some (0, v3)) τ3), pC mX10_keepFault 0 [(2, 0)] τ3 Q4) (g3 : ∀ (c1 : (rd σ 0 1) ≤ 500) (τ1 : pS) (e1 : pLe σ τ1) (q1 : Q1 none τ1) (τ2 : pS) (e2 : pLe (nw τ1 2 0) τ2) (q2 : Q2 none τ2) (v3 : Int) (b3 : v3 = 0 ∨ v3 = 1) (τ3 : pS) (e3 : pLe τ2 τ3) (q3 : Q3 (some (0, v3)) τ3) (τ4 : pS) (e4 : pLe τ3 τ4) (q4 : Q4 none τ4), inR v3) (k1 : ∀ (c1 : (rd σ 0 1) ≤ 500) (τ1 : pS) (e1 : pLe σ τ1) (q1 : Q1 none τ1) (τ2 : pS) (e2 : pLe (nw τ1 2 0) τ2) (q2 : Q2 none τ2) (v3 : Int) (b3 : v3 = 0 ∨ v3 = 1) (τ3 : pS) (e3 : pLe τ2 τ3) (q3 : Q3 (some (0, v3)) τ3) (τ4 : pS) (e4 : pLe τ3 τ4) (q4 : Q4 none τ4) (c3 : v3 ≠ 0), Q (some (0, (rd (wr (wr (wr τ4 0 8 ((τ1.1.length : Nat) : Int)) 0 6 ((rd τ4 0 6) + 1)) 50 2 0) ((τ1.1.length : Nat) : Int) 4))) (wr (wr (wr τ4 0 8 ((τ1.1.length : Nat) : Int)) 0 6 ((rd τ4 0 6) + 1)) 50 2 0)) (k2 : ∀ (c1 : (rd σ 0 1) ≤ 500) (τ1 : pS) (e1 : pLe σ τ1) (q1 : Q1 none τ1) (τ2 : pS) (e2 : pLe (nw τ1 2 0) τ2) (q2 : Q2 none τ2) (v3 : Int) (b3 : v3 = 0 ∨ v3 = 1) (τ3 : pS) (e3 : pLe τ2 τ3) (q3 : Q3 (some (0, v3)) τ3) (τ4 : pS) (e4 : pLe τ3 τ4) (q4 : Q4 none τ4) (c4 : v3 = 0), Q (some (0, (-1))) τ4) (k3 : ∀ (c2 : 500 < (rd σ 0 1)), Q (some (0, (-2))) σ) : pC mX10_law d [(2, 0)] σ Q := by
  show pR mX10_law d 0 [(2, 0), (9, 0), (9, 0)] [] σ Q
  refine pGo (s_aload_n dX10_law_0 rfl (by decide)) ?_
  refine pGoE (y := (rd σ 0 1)) (s_getI pc10 fl_X10_97 dX10_law_1 (ob_0 hst) rfl (by decide)) rfl ?_
  refine pGo (s_sipush dX10_law_4 (by decide)) ?_
  refine p_icle (tgt := 13) dX10_law_7 (by decide) g1 (by decide) (fun c1 => ?_) (fun c2 => ?_)
  · refine pGo (s_aload_n dX10_law_13 rfl (by decide)) ?_
    refine p_callV (As := []) (st := []) (n := 0) (d' := 10) (Q1 := Q1) pc10 ok_X10_cutTape ml_X10_103 im_X10_cutTape se_X10_cutTape dX10_law_14 (ob_0 hst) (pargs_of rfl) rfl (Nat.le_of_ble_eq_true rfl) (by omega) (f1 c1) (fun r1 τ1 e1 q1 w1 => ?_)
    obtain rfl : r1 = none := w1
    have S1 : Stat τ1 := (Stat.le (σ := σ) hst e1)
    show pR mX10_law d 17 [(2, 0), (9, 0), (9, 0)] [] τ1 Q
    refine pGo (s_new pc2 (by decide +kernel) cl_X10_31 in_X2 ii_X2 dX10_law_17) ?_
    refine pGo (s_dup dX10_law_20 (show (2 : Nat) ≠ 1 by decide)) ?_
    refine pGo (s_aload_n dX10_law_21 rfl (by decide)) ?_
    refine pGoE (y := 2) (s_getF pc10 fl_X10_16 dX10_law_22 (ob_0 (Stat.le S1 (pLe_nw _ 2 0))) rfl (by decide)) (by decide) ?_
    refine pGoE (y := (rd τ1 2 3)) (s_getI pc9 fl_X10_132 dX10_law_25 (ob_2 (Stat.le S1 (pLe_nw _ 2 0))) rfl (by decide)) (rd_nw_s S1 (by decide)) ?_
    refine p_callI (As := [(0, (rd τ1 2 3))]) (st := [(2, ((τ1.1.length : Nat) : Int))]) (n := 1) (d' := 1) (Q1 := Q2) (by omega) ok_X2_init rfl ml_X10_33 im_X2_init rfl dX10_law_28 (pargs_of rfl) rfl (Nat.le_of_ble_eq_true rfl) (by omega) (f2 c1 τ1 e1 q1) (fun r2 τ2 e2 q2 w2 => ?_)
    obtain rfl : r2 = none := w2
    have S2 : Stat τ2 := (Stat.le (σ := (nw τ1 2 0)) (Stat.le S1 (pLe_nw _ 2 0)) e2)
    show pR mX10_law d 31 [(2, 0), (9, 0), (9, 0)] [(2, ((τ1.1.length : Nat) : Int))] τ2 Q
    refine pGoL (ls2 := [(2, 0), (2, ((τ1.1.length : Nat) : Int)), (9, 0)]) (s_astore_n dX10_law_31 (by decide) rfl (by omega)) rfl ?_
    refine pGo (s_aload_n dX10_law_32 rfl (by omega)) ?_
    refine pGo (s_aload_n dX10_law_33 rfl (by decide)) ?_
    refine pGoE (y := 2) (s_getF pc10 fl_X10_16 dX10_law_34 (ob_0 S2) rfl (by decide)) (by decide) ?_
    refine p_callV (As := [(2, 2)]) (st := []) (n := 1) (d' := 62) (Q1 := Q3) pc2 ok_X2_read ml_X10_133 im_X2_read se_X2_read dX10_law_37 (g2 c1 τ1 e1 q1 τ2 e2 q2).o0 (pargs_of rfl) rfl (Nat.le_of_ble_eq_true rfl) (by omega) (f3 c1 τ1 e1 q1 τ2 e2 q2) (fun r3 τ3 e3 q3 w3 => ?_)
    obtain ⟨v3, rfl, b3⟩ := pRok_z w3
    have S3 : Stat τ3 := (Stat.le (σ := τ2) S2 e3)
    have J3_0 : Inst2 τ3 ((τ1.1.length : Nat) : Int) ((max 1 (rd τ1 2 3)).toNat) := Inst2.le (σ := τ2) (g2 c1 τ1 e1 q1 τ2 e2 q2) e3
    show pR mX10_law d 40 [(2, 0), (2, ((τ1.1.length : Nat) : Int)), (9, 0)] [(0, v3)] τ3 Q
    refine pGoL (ls2 := [(2, 0), (2, ((τ1.1.length : Nat) : Int)), (0, v3)]) (s_istore_n dX10_law_40 (by decide) rfl) rfl ?_
    refine pGo (s_aload_n dX10_law_41 rfl (by decide)) ?_
    refine p_callV (As := []) (st := []) (n := 0) (d' := 0) (Q1 := Q4) pc10 ok_X10_keepFault ml_X10_110 im_X10_keepFault se_X10_keepFault dX10_law_42 (ob_0 S3) (pargs_of rfl) rfl (Nat.le_of_ble_eq_true rfl) (by omega) (f4 c1 τ1 e1 q1 τ2 e2 q2 v3 b3 τ3 e3 q3) (fun r4 τ4 e4 q4 w4 => ?_)
    obtain rfl : r4 = none := w4
    have S4 : Stat τ4 := (Stat.le (σ := τ3) S3 e4)
    have J4_0 : Inst2 τ4 ((τ1.1.length : Nat) : Int) ((max 1 (rd τ1 2 3)).toNat) := Inst2.le (σ := τ3) J3_0 e4
    show pR mX10_law d 45 [(2, 0), (2, ((τ1.1.length : Nat) : Int)), (0, v3)] [] τ4 Q
    refine pGo (s_iload_n dX10_law_45 rfl) ?_
    refine p_ifne (tgt := 51) dX10_law_46 (by decide) (g3 c1 τ1 e1 q1 τ2 e2 q2 v3 b3 τ3 e3 q3 τ4 e4 q4) (fun c3 => ?_) (fun c4 => ?_)
    · refine pGo (s_aload_n dX10_law_51 rfl (by decide)) ?_
      refine pGo (s_aload_n dX10_law_52 rfl J4_0.pos) ?_
      refine pGo (s_putR pc10 fl_X10_36 dX10_law_53 (ob_0 S4) rfl rfl rfl rfl) ?_
      refine pGo (s_aload_n dX10_law_56 rfl (by decide)) ?_
      refine pGo (s_dup dX10_law_57 (by decide)) ?_
      refine pGoE (y := (rd τ4 0 6)) (s_getI pc10 fl_X10_113 dX10_law_58 (ob_0 S4) rfl (by decide)) (rd_wr_i _ (by decide)) ?_
      refine pGo (s_iconst dX10_law_61) ?_
      refine pGo (s_iadd dX10_law_62) ?_
      refine pGo (s_putI pc10 fl_X10_113 dX10_law_63 (ob_0 S4) rfl rfl rfl rfl) ?_
      refine pGo (s_aload_n dX10_law_66 rfl (by decide)) ?_
      refine pGoE (y := 50) (s_getF pc10 fl_X10_86 dX10_law_67 (ob_0 S4) rfl (by decide)) (by decide) ?_
      refine pGo (s_iconst dX10_law_70) ?_
      refine pGo (s_putZ pc1 fl_X10_122 dX10_law_71 (ob_50 S4) rfl rfl rfl rfl (by decide)) ?_
      refine pGo (s_aload_n dX10_law_74 rfl J4_0.pos) ?_
      refine pGoE (y := (rd (wr (wr (wr τ4 0 8 ((τ1.1.length : Nat) : Int)) 0 6 ((rd τ4 0 6) + 1)) 50 2 0) ((τ1.1.length : Nat) : Int) 4)) (s_getI pc2 fl_X10_134 dX10_law_75 J4_0.o0 rfl (by decide)) rfl ?_
      exact pEnd (r := (some (0, (rd (wr (wr (wr τ4 0 8 ((τ1.1.length : Nat) : Int)) 0 6 ((rd τ4 0 6) + 1)) 50 2 0) ((τ1.1.length : Nat) : Int) 4)))) dX10_law_78 ⟨_, rfl⟩ (k1 c1 τ1 e1 q1 τ2 e2 q2 v3 b3 τ3 e3 q3 τ4 e4 q4 c3)
    · refine pGo (s_iconst dX10_law_49) ?_
      exact pEnd (r := (some (0, (-1)))) dX10_law_50 ⟨_, rfl⟩ (k2 c1 τ1 e1 q1 τ2 e2 q2 v3 b3 τ3 e3 q3 τ4 e4 q4 c4)
  · refine pGo (s_bipush dX10_law_10 (by decide)) ?_
    exact pEnd (r := (some (0, (-2)))) dX10_law_12 ⟨_, rfl⟩ (k3 c2)
theorem skierI_C {d : Nat} {σ : pS} (hd : 1 ≤ d) {x s : Int} (hs : 0 ≤ s) : pC mX5_init d [(2, ((σ.1.length : Nat) : Int)), (0, x), (2, s)] (nw σ 5 0) (fun r τ => r = none ∧ τ.1 = σ.1 ++ (5, 5) :: [(50, 480), (50, 480), (50, 541), (50, 541), (50, 17)] ∧ Inst5 τ ((σ.1.length : Nat) : Int) ∧ (∀ b i : Int, b < ((σ.1.length : Nat) : Int) → rd τ b i = rd σ b i) ∧ rd τ ((σ.1.length : Nat) : Int) 0 = x ∧ rd τ ((σ.1.length : Nat) : Int) 7 = -1 ∧ rd τ ((σ.1.length : Nat) : Int) 8 = 0) := by
  refine g_X5_init_0 hd x s hs (Mk_start σ 5) (fun k i h1 _ => mbase_n σ 5 k i h1) (fun τ h => ?_)
  refine ⟨rfl, h.1, ⟨h.obB, h.obr (j := 0) rfl rfl, h.obr (j := 1) rfl rfl, h.obr (j := 2) rfl rfl, h.obr (j := 3) rfl rfl, h.obr (j := 4) rfl rfl⟩, fun b i hb => ?_, ?_, ?_, ?_⟩
  · rw [h.2 b i (by simp; omega), wrm_n (by omega), wrm_n (by omega), wrm_n (by omega), mbase_o σ 5 b i hb]
  · rw [h.2 _ _ (by simp; omega), wrm_n (by omega), wrm_s]
  · rw [h.2 _ _ (by simp; omega), wrm_n (by omega), wrm_n (by omega), wrm_s]
  · rw [h.2 _ _ (by simp; omega), wrm_n (by omega), wrm_n (by omega), wrm_n (by omega)]; unfold mbase; rw [if_pos rfl]; rfl
theorem op_skier {n d : Nat} {σ : pS} (hd : 100 ≤ d) (h : RB n σ) (hn : n < 512) {x1 : Int} (h1 : inR x1) : pC mX10_skier d [(2, 0), (0, x1)] σ (fun r τ => pC mX11_skier d [(2, 68), (0, x1)] τ (fun q υ => q = r ∧ RB (n + 1) υ)) := by
  have H := RB.up h hn
  obtain ⟨S, Z, T, F, C, L, W, P, K, R, D, E⟩ := h
  obtain ⟨l0, l1, l2, l3, l4, l5, l6, l7, l8, l9, l10, l11, l12⟩ := id L
  obtain ⟨s1, s2, s3, s4, s5⟩ := id K
  have hlen := S.len
  refine g_X10_skier_0 (by omega) S x1 (within_C S h1 (by decide)) ?_ (fun _ => by omega) (fun _ _ => skierI_C (by omega) (by omega)) ?_ ?_ ?_ ?_
  · intro c1
    refine g_X11_skier_0 (by omega) S x1 (isSkill_C S h1) ?_ ?_ ?_ ?_ ?_
    all_goals first
      | (intros; omega)
      | (intros; exact ⟨rfl, H⟩)
      | (intro c2; rw [c1] at c2; cases c2)
      | (intro c2 c3; rw [c1] at c2; cases c2)
  · intros; omega
  · intro c1 c2 τ2 e2 q2
    exact q2.2.2.1
  · intro c1 c2 τ e2 q2
    obtain ⟨-, q1, q3, q4, q5, q6, q7⟩ := q2
    have k1 := vWithin_t c1
    have hl : pLe σ τ := pLe.tr (pLe_nw σ 5 0) e2
    have r14 : rd τ 0 14 = rd σ 0 14 := q4 _ _ (by omega)
    rw [r14]
    have S2 : Stat τ := S.le hl
    have r64 : rd (wr (wr τ 43 (rd σ 0 14) ((σ.1.length : Nat) : Int)) 0 14 (rd σ 0 14 + 1)) 68 64 = rd σ 68 64 := by rw [rd_wr_a _ (by decide), rd_wr_a _ (by decide), q4 _ _ (by omega)]
    refine g_X11_skier_0 (by omega) S2.wr.wr x1 (isSkill_C S2.wr.wr h1) ?_ ?_ ?_ ?_ ?_
    · intro c3; rw [c1] at c3; cases c3
    · intros; omega
    · intros; omega
    · intro c3 c4
      refine ⟨by rw [r64, s1], ?_⟩
      rw [r64, ← s1]
      have l' : pLe σ (wr (wr (wr (wr τ 43 (rd σ 0 14) ((σ.1.length : Nat) : Int)) 0 14 (rd σ 0 14 + 1)) 107 (rd σ 0 14) x1) 68 64 (rd σ 0 14 + 1)) := pLe.tr hl (pLe.tr (pLe.tr (pLe.tr (pLe.wr _ (by decide)) (pLe.wr _ (by decide))) (pLe.wr _ (by decide))) (pLe.wr _ (by decide)))
      have fr : ∀ a i : Int, a < ((σ.1.length : Nat) : Int) → ¬ (a = 43 ∧ i = rd σ 0 14) → ¬ (a = 0 ∧ i = 14) → ¬ (a = 107 ∧ i = rd σ 0 14) → ¬ (a = 68 ∧ i = 64) → rd (wr (wr (wr (wr τ 43 (rd σ 0 14) ((σ.1.length : Nat) : Int)) 0 14 (rd σ 0 14 + 1)) 107 (rd σ 0 14) x1) 68 64 (rd σ 0 14 + 1)) a i = rd σ a i := fun a i p0 p1 p2 p3 p4 => by
        rw [rd_wr_n p4, rd_wr_n p3, rd_wr_n p2, rd_wr_n p1, q4 _ _ p0]
      have hS6 := ob_lt l1.2.2.2.2.2.2.2.2.2.2
      have hz : RSz (n + 1) (wr (wr (wr (wr τ 43 (rd σ 0 14) ((σ.1.length : Nat) : Int)) 0 14 (rd σ 0 14 + 1)) 107 (rd σ 0 14) x1) 68 64 (rd σ 0 14 + 1)) := by
        have e1 : (wr (wr (wr (wr τ 43 (rd σ 0 14) ((σ.1.length : Nat) : Int)) 0 14 (rd σ 0 14 + 1)) 107 (rd σ 0 14) x1) 68 64 (rd σ 0 14 + 1)).1 = σ.1 ++ (5, 5) :: [(50, 480), (50, 480), (50, 541), (50, 541), (50, 17)] := q1
        have e2 := pSz_app e1
        have e3 : (List.map (fun q : Nat × Nat => if q.1 < 50 then (pFt q.1).length else q.2) ((5, 5) :: [(50, 480), (50, 480), (50, 541), (50, 541), (50, 17)])).sum = 2068 := by decide
        rw [e3] at e2
        have e4 := congrArg List.length e1
        simp only [List.length_append, List.length_cons, List.length_nil] at e4
        unfold RSz at *
        omega
      generalize hυ : (wr (wr (wr (wr τ 43 (rd σ 0 14) ((σ.1.length : Nat) : Int)) 0 14 (rd σ 0 14 + 1)) 107 (rd σ 0 14) x1) 68 64 (rd σ 0 14 + 1)) = υ at *
      have v1 : rd υ 0 14 = rd σ 0 14 + 1 := by subst hυ; simp only [rd_wr]; simp
      have v2 : rd υ 68 64 = rd σ 0 14 + 1 := by subst hυ; simp only [rd_wr]; simp
      have v3 : rd υ 43 (rd σ 0 14) = ((σ.1.length : Nat) : Int) := by subst hυ; simp only [rd_wr]; simp
      have v4 : rd υ 107 (rd σ 0 14) = x1 := by subst hυ; simp only [rd_wr]; simp
      have v5 : rd υ ((σ.1.length : Nat) : Int) 0 = x1 := by subst hυ; rw [rd_wr_n (by omega), rd_wr_n (by omega), rd_wr_n (by omega), rd_wr_n (by omega), q5]
      have v8 : rd υ ((σ.1.length : Nat) : Int) 7 = -1 := by subst hυ; rw [rd_wr_n (by omega), rd_wr_n (by omega), rd_wr_n (by omega), rd_wr_n (by omega), q6]
      have v9 : rd υ ((σ.1.length : Nat) : Int) 8 = 0 := by subst hυ; rw [rd_wr_n (by omega), rd_wr_n (by omega), rd_wr_n (by omega), rd_wr_n (by omega), q7]
      have v6 : Inst5 υ ((σ.1.length : Nat) : Int) := by subst hυ; exact q3
      have v7 : ∀ j : Int, j ≠ rd σ 0 14 → rd υ 43 j = rd σ 43 j ∧ rd υ 107 j = rd σ 107 j := fun j hj => ⟨fr _ _ (by omega) (by omega) (by omega) (by omega) (by omega), fr _ _ (by omega) (by omega) (by omega) (by omega) (by omega)⟩
      refine ⟨S.le l', hz, T.mv ?_, F.mv ?_, (C.mv ?_).up hn, L.mv l' ?_, W.mv ?_, P.mv ?_, ⟨by omega, by omega, by omega, fun j j0 j1 => ?ska, fun i j i0 ij j1 => ?skb⟩, R.mv ?_, D.mv ?_, RLaw.mv E.1 l' ?_, RLook.mv E.2.1 ?_ (fr _ _ (by omega) (by omega) (by omega) (by omega) (by omega)) (fr _ _ (by omega) (by omega) (by omega) (by omega) (by omega)) (fun a i q1 q2 => fr _ _ (by omega) (by omega) (by omega) (by omega) (by omega)), fun j j0 j1 => ?skc, RSwp.mv E.2.2.2 ?_⟩
      case ska =>
        by_cases hj : j = rd σ 0 14
        · subst hj
          rw [v3, v4, v5]
          exact ⟨hlen, v6, rfl, by omega, by omega⟩
        · obtain ⟨y1, y2, y3, y4, y5⟩ := s4 j j0 (by omega)
          obtain ⟨y6, y7⟩ := v7 j hj
          rw [y6, y7]
          have := ob_lt y2.1
          refine ⟨y1, Inst5.le y2 l', ?_, y4, y5⟩
          rw [fr _ _ (by omega) (by omega) (by omega) (by omega) (by omega)]
          exact y3
      case skb =>
        obtain ⟨y1, y2, y3, y4, y5⟩ := s4 i i0 (by omega)
        have := ob_lt y2.1
        obtain ⟨y6, -⟩ := v7 i (by omega)
        by_cases hj : j = rd σ 0 14
        · subst hj
          rw [v3, y6]
          omega
        · obtain ⟨y8, -⟩ := v7 j hj
          rw [y6, y8]
          exact s5 i j i0 ij (by omega)
      case skc =>
        have m : same σ υ MF := fun x y p => fr _ _ (by unfold MF at p; omega) (by unfold MF at p; omega) (by unfold MF at p; omega) (by unfold MF at p; omega) (by unfold MF at p; omega)
        have e6 : rd υ 0 6 = rd σ 0 6 := fr _ _ (by omega) (by omega) (by omega) (by omega) (by omega)
        have e7 : rd υ 0 7 = rd σ 0 7 := fr _ _ (by omega) (by omega) (by omega) (by omega) (by omega)
        have c6 := C.2.2.2.1
        by_cases hj : j = rd σ 0 14
        · subst hj
          rw [v3, e6, v8, v9]
          exact ⟨hlen, by omega, by omega, by decide, fun q => by omega⟩
        · obtain ⟨y6, y7⟩ := v7 j hj
          obtain ⟨x1, x2, x3, x4, x5⟩ := E.2.2.1 j j0 (by omega)
          obtain ⟨z1, z2, -⟩ := s4 j j0 (by omega)
          have := ob_lt z2.2.2.2.2.2
          have ez : ∀ b i : Int, rd σ 43 j ≤ b → b ≤ rd σ 43 j + 5 → rd υ b i = rd σ b i := fun b i p1 p2 => fr _ _ (by omega) (by omega) (by omega) (by omega) (by omega)
          rw [y6, y7, e6, ez _ 7 (by omega) (by omega), ez _ 8 (by omega) (by omega)]
          exact ⟨x1, x2, x3, x4, fun q => ((x5 q).mv m e7).at (ez _ _ (by omega) (by omega)) (fun b i q1 q2 => ez _ _ (by omega) (by omega))⟩
      all_goals
        intro x y p
        first
          | unfold PTap at p
          | unfold PFau at p
          | unfold PClk at p
          | unfold PSlo at p
          | unfold PWin at p
          | unfold PPas at p
          | unfold PCro at p
          | unfold PDay at p
          | (have hL5 := ob_lt E.1.2.1.choose_spec.1.o5; have hL1 := E.1.1; unfold PLaw at p)
          | unfold MF at p
          | unfold PSwp at p
        exact fr _ _ (by omega) (by omega) (by omega) (by omega) (by omega)
    · intros; omega
  · intro c1 c2
    refine g_X11_skier_0 (by omega) S x1 (isSkill_C S h1) ?_ ?_ ?_ ?_ ?_
    all_goals first
      | (intros; omega)
      | (intros; exact ⟨rfl, H⟩)
      | (intro c3; rw [c1] at c3; cases c3)
