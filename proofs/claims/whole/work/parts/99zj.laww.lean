/-! walks: the reference reads a law -/
set_option maxRecDepth 100000 in
theorem g_X11_settle_0 {d : Nat} {σ : pS} {Q : Option pV → pS → Prop} {Q1 : Option pV → pS → Prop} (hd : 2 ≤ d) (hst : Stat σ) (x1 : Int)  (f1 : pC mX11_top 0 [(2, 68)] σ (fun r τ => r = some (0, (vTop σ)) ∧ τ = σ)) (g1 : inR (vTop σ)) (k1 : ∀ (c1 : (vTop σ) = 28), Q none σ) (f2 : ∀ (c2 : (vTop σ) ≠ 28), pC mX11_top 0 [(2, 68)] σ (fun r τ => r = some (0, (vTop σ)) ∧ τ = σ)) (g2 : ∀ (c2 : (vTop σ) ≠ 28), inR x1) (k2 : ∀ (c2 : (vTop σ) ≠ 28) (c3 : (vTop σ) < x1), Q none σ) (f3 : ∀ (c2 : (vTop σ) ≠ 28) (c4 : x1 ≤ (vTop σ)), pC mX11_pop 1 [(2, 68)] σ Q1) (k3 : ∀ (c2 : (vTop σ) ≠ 28) (c4 : x1 ≤ (vTop σ)) (τ3 : pS) (e3 : pLe σ τ3) (q3 : Q1 none τ3), pR mX11_settle d 0 [(2, 68), (0, x1)] [] τ3 Q) : pR mX11_settle d 0 [(2, 68), (0, x1)] [] σ Q := by
  refine pGo (s_aload_n dX11_settle_0 rfl (by decide)) ?_
  refine p_callV (As := []) (st := []) (n := 0) (d' := 0) (Q1 := (fun r τ => r = some (0, (vTop σ)) ∧ τ = σ)) pc11 ok_X11_top ml_X11_403 im_X11_top se_X11_top dX11_settle_1 (ob_68 hst) (pargs_of rfl) rfl (Nat.le_of_ble_eq_true rfl) (by omega) f1 (fun r1 τ1 e1 q1 w1 => ?_)
  obtain ⟨rfl, t1⟩ := q1
  rw [t1]
  show pR mX11_settle d 4 [(2, 68), (0, x1)] [(0, (vTop σ))] σ Q
  refine pGo (s_bipush dX11_settle_4 (by decide)) ?_
  refine p_iceq (tgt := 24) dX11_settle_6 (by decide) g1 (by decide) (fun c1 => ?_) (fun c2 => ?_)
  · exact pEnd (r := none) dX11_settle_24 rfl (k1 c1)
  · refine pGo (s_aload_n dX11_settle_9 rfl (by decide)) ?_
    refine p_callV (As := []) (st := []) (n := 0) (d' := 0) (Q1 := (fun r τ => r = some (0, (vTop σ)) ∧ τ = σ)) pc11 ok_X11_top ml_X11_403 im_X11_top se_X11_top dX11_settle_10 (ob_68 hst) (pargs_of rfl) rfl (Nat.le_of_ble_eq_true rfl) (by omega) (f2 c2) (fun r2 τ2 e2 q2 w2 => ?_)
    obtain ⟨rfl, t2⟩ := q2
    rw [t2]
    show pR mX11_settle d 13 [(2, 68), (0, x1)] [(0, (vTop σ))] σ Q
    refine pGo (s_iload_n dX11_settle_13 rfl) ?_
    refine p_iclt (tgt := 24) dX11_settle_14 (by decide) g1 (g2 c2) (fun c3 => ?_) (fun c4 => ?_)
    · exact pEnd (r := none) dX11_settle_24 rfl (k2 c2 c3)
    · refine pGo (s_aload_n dX11_settle_17 rfl (by decide)) ?_
      refine p_callV (As := []) (st := []) (n := 0) (d' := 1) (Q1 := Q1) pc11 ok_X11_pop ml_X11_407 im_X11_pop se_X11_pop dX11_settle_18 (ob_68 hst) (pargs_of rfl) rfl (Nat.le_of_ble_eq_true rfl) (by omega) (f3 c2 c4) (fun r3 τ3 e3 q3 w3 => ?_)
      obtain rfl : r3 = none := w3
      have S3 : Stat τ3 := (Stat.le (σ := σ) hst e3)
      show pR mX11_settle d 21 [(2, 68), (0, x1)] [] τ3 Q
      refine pGo (s_goto (tgt := 0) dX11_settle_21 (by decide)) ?_
      exact (k3 c2 c4 τ3 e3 q3)
set_option maxRecDepth 100000 in
theorem g_X11_settleOnes_0 {d : Nat} {σ : pS} {Q : Option pV → pS → Prop} {Q1 : Option pV → pS → Prop} {Q2 : Option pV → pS → Prop} (hd : 2 ≤ d) (hst : Stat σ) (x1 : Int)  (f1 : pC mX11_top 0 [(2, 68)] σ (fun r τ => r = some (0, (vTop σ)) ∧ τ = σ)) (g1 : inR (vTop σ)) (k1 : ∀ (c1 : (vTop σ) = 28), Q none σ) (g2 : ∀ (c2 : (vTop σ) ≠ 28), inR x1) (f2 : ∀ (c2 : (vTop σ) ≠ 28) (c3 : x1 = 0), pC mX11_pop 1 [(2, 68)] σ Q1) (k2 : ∀ (c2 : (vTop σ) ≠ 28) (c3 : x1 = 0) (τ2 : pS) (e2 : pLe σ τ2) (q2 : Q1 none τ2), pR mX11_settleOnes d 0 [(2, 68), (0, x1)] [] τ2 Q) (f3 : ∀ (c2 : (vTop σ) ≠ 28) (c4 : x1 ≠ 0), pC mX11_top 0 [(2, 68)] σ (fun r τ => r = some (0, (vTop σ)) ∧ τ = σ)) (k3 : ∀ (c2 : (vTop σ) ≠ 28) (c4 : x1 ≠ 0) (c5 : (vTop σ) = 21), Q none σ) (f4 : ∀ (c2 : (vTop σ) ≠ 28) (c4 : x1 ≠ 0) (c6 : (vTop σ) ≠ 21), pC mX11_pop 1 [(2, 68)] σ Q2) (k4 : ∀ (c2 : (vTop σ) ≠ 28) (c4 : x1 ≠ 0) (c6 : (vTop σ) ≠ 21) (τ4 : pS) (e4 : pLe σ τ4) (q4 : Q2 none τ4), pR mX11_settleOnes d 0 [(2, 68), (0, x1)] [] τ4 Q) : pR mX11_settleOnes d 0 [(2, 68), (0, x1)] [] σ Q := by
  refine pGo (s_aload_n dX11_settleOnes_0 rfl (by decide)) ?_
  refine p_callV (As := []) (st := []) (n := 0) (d' := 0) (Q1 := (fun r τ => r = some (0, (vTop σ)) ∧ τ = σ)) pc11 ok_X11_top ml_X11_403 im_X11_top se_X11_top dX11_settleOnes_1 (ob_68 hst) (pargs_of rfl) rfl (Nat.le_of_ble_eq_true rfl) (by omega) f1 (fun r1 τ1 e1 q1 w1 => ?_)
  obtain ⟨rfl, t1⟩ := q1
  rw [t1]
  show pR mX11_settleOnes d 4 [(2, 68), (0, x1)] [(0, (vTop σ))] σ Q
  refine pGo (s_bipush dX11_settleOnes_4 (by decide)) ?_
  refine p_iceq (tgt := 29) dX11_settleOnes_6 (by decide) g1 (by decide) (fun c1 => ?_) (fun c2 => ?_)
  · exact pEnd (r := none) dX11_settleOnes_29 rfl (k1 c1)
  · refine pGo (s_iload_n dX11_settleOnes_9 rfl) ?_
    refine p_ifeq (tgt := 22) dX11_settleOnes_10 (by decide) (g2 c2) (fun c3 => ?_) (fun c4 => ?_)
    · refine pGo (s_aload_n dX11_settleOnes_22 rfl (by decide)) ?_
      refine p_callV (As := []) (st := []) (n := 0) (d' := 1) (Q1 := Q1) pc11 ok_X11_pop ml_X11_407 im_X11_pop se_X11_pop dX11_settleOnes_23 (ob_68 hst) (pargs_of rfl) rfl (Nat.le_of_ble_eq_true rfl) (by omega) (f2 c2 c3) (fun r2 τ2 e2 q2 w2 => ?_)
      obtain rfl : r2 = none := w2
      have S2 : Stat τ2 := (Stat.le (σ := σ) hst e2)
      show pR mX11_settleOnes d 26 [(2, 68), (0, x1)] [] τ2 Q
      refine pGo (s_goto (tgt := 0) dX11_settleOnes_26 (by decide)) ?_
      exact (k2 c2 c3 τ2 e2 q2)
    · refine pGo (s_aload_n dX11_settleOnes_13 rfl (by decide)) ?_
      refine p_callV (As := []) (st := []) (n := 0) (d' := 0) (Q1 := (fun r τ => r = some (0, (vTop σ)) ∧ τ = σ)) pc11 ok_X11_top ml_X11_403 im_X11_top se_X11_top dX11_settleOnes_14 (ob_68 hst) (pargs_of rfl) rfl (Nat.le_of_ble_eq_true rfl) (by omega) (f3 c2 c4) (fun r3 τ3 e3 q3 w3 => ?_)
      obtain ⟨rfl, t3⟩ := q3
      rw [t3]
      show pR mX11_settleOnes d 17 [(2, 68), (0, x1)] [(0, (vTop σ))] σ Q
      refine pGo (s_bipush dX11_settleOnes_17 (by decide)) ?_
      refine p_iceq (tgt := 29) dX11_settleOnes_19 (by decide) g1 (by decide) (fun c5 => ?_) (fun c6 => ?_)
      · exact pEnd (r := none) dX11_settleOnes_29 rfl (k3 c2 c4 c5)
      · refine pGo (s_aload_n dX11_settleOnes_22 rfl (by decide)) ?_
        refine p_callV (As := []) (st := []) (n := 0) (d' := 1) (Q1 := Q2) pc11 ok_X11_pop ml_X11_407 im_X11_pop se_X11_pop dX11_settleOnes_23 (ob_68 hst) (pargs_of rfl) rfl (Nat.le_of_ble_eq_true rfl) (by omega) (f4 c2 c4 c6) (fun r4 τ4 e4 q4 w4 => ?_)
        obtain rfl : r4 = none := w4
        have S4 : Stat τ4 := (Stat.le (σ := σ) hst e4)
        show pR mX11_settleOnes d 26 [(2, 68), (0, x1)] [] τ4 Q
        refine pGo (s_goto (tgt := 0) dX11_settleOnes_26 (by decide)) ?_
        exact (k4 c2 c4 c6 τ4 e4 q4)
set_option maxRecDepth 100000 in
theorem g_X11_operand_0 {d : Nat} {σ : pS} {Q : Option pV → pS → Prop} (hd : 2 ≤ d) (hst : Stat σ) (x1 : Int)  (f1 : pC mX11_named 0 [(2, 68)] σ (fun r τ => r = some (0, (vNam σ)) ∧ τ = σ)) (g1 : inR (rd σ 68 6)) (g2 : ∀ (c1 : (rd σ 68 6) = 2), inR x1) (k1 : ∀ (c1 : (rd σ 68 6) = 2) (c3 : x1 ≠ 0), pR mX11_operand d 53 [(2, 68), (0, x1), (0, (vNam σ)), (0, 1), (0, 0)] [] σ Q) (k2 : ∀ (c1 : (rd σ 68 6) = 2) (c4 : x1 = 0) (c5 : (rd σ 68 6) = 40), pR mX11_operand d 53 [(2, 68), (0, x1), (0, (vNam σ)), (0, 1), (0, 1)] [] σ Q) (f2 : ∀ (c1 : (rd σ 68 6) = 2) (c4 : x1 = 0) (c6 : (rd σ 68 6) ≠ 40), pC mX11_isWord 0 [(2, 68), (1, 7237492)] σ (fun r τ => r = some (0, b2i (vIsW σ 7237492)) ∧ τ = σ)) (k3 : ∀ (c1 : (rd σ 68 6) = 2) (c4 : x1 = 0) (c6 : (rd σ 68 6) ≠ 40) (c7 : (vIsW σ 7237492) = false), pR mX11_operand d 53 [(2, 68), (0, x1), (0, (vNam σ)), (0, 1), (0, 0)] [] σ Q) (k4 : ∀ (c1 : (rd σ 68 6) = 2) (c4 : x1 = 0) (c6 : (rd σ 68 6) ≠ 40) (c8 : (vIsW σ 7237492) = true), pR mX11_operand d 53 [(2, 68), (0, x1), (0, (vNam σ)), (0, 1), (0, 1)] [] σ Q) (g3 : ∀ (c2 : (rd σ 68 6) ≠ 2), inR (vNam σ)) (g4 : ∀ (c2 : (rd σ 68 6) ≠ 2) (c9 : (vNam σ) < 0), inR x1) (k5 : ∀ (c2 : (rd σ 68 6) ≠ 2) (c9 : (vNam σ) < 0) (c11 : x1 ≠ 0), pR mX11_operand d 53 [(2, 68), (0, x1), (0, (vNam σ)), (0, 0), (0, 0)] [] σ Q) (k6 : ∀ (c2 : (rd σ 68 6) ≠ 2) (c9 : (vNam σ) < 0) (c12 : x1 = 0) (c13 : (rd σ 68 6) = 40), pR mX11_operand d 53 [(2, 68), (0, x1), (0, (vNam σ)), (0, 0), (0, 1)] [] σ Q) (f3 : ∀ (c2 : (rd σ 68 6) ≠ 2) (c9 : (vNam σ) < 0) (c12 : x1 = 0) (c14 : (rd σ 68 6) ≠ 40), pC mX11_isWord 0 [(2, 68), (1, 7237492)] σ (fun r τ => r = some (0, b2i (vIsW σ 7237492)) ∧ τ = σ)) (k7 : ∀ (c2 : (rd σ 68 6) ≠ 2) (c9 : (vNam σ) < 0) (c12 : x1 = 0) (c14 : (rd σ 68 6) ≠ 40) (c15 : (vIsW σ 7237492) = false), pR mX11_operand d 53 [(2, 68), (0, x1), (0, (vNam σ)), (0, 0), (0, 0)] [] σ Q) (k8 : ∀ (c2 : (rd σ 68 6) ≠ 2) (c9 : (vNam σ) < 0) (c12 : x1 = 0) (c14 : (rd σ 68 6) ≠ 40) (c16 : (vIsW σ 7237492) = true), pR mX11_operand d 53 [(2, 68), (0, x1), (0, (vNam σ)), (0, 0), (0, 1)] [] σ Q) (g5 : ∀ (c2 : (rd σ 68 6) ≠ 2) (c10 : 0 ≤ (vNam σ)), inR x1) (k9 : ∀ (c2 : (rd σ 68 6) ≠ 2) (c10 : 0 ≤ (vNam σ)) (c17 : x1 ≠ 0), pR mX11_operand d 53 [(2, 68), (0, x1), (0, (vNam σ)), (0, 1), (0, 0)] [] σ Q) (k10 : ∀ (c2 : (rd σ 68 6) ≠ 2) (c10 : 0 ≤ (vNam σ)) (c18 : x1 = 0) (c19 : (rd σ 68 6) = 40), pR mX11_operand d 53 [(2, 68), (0, x1), (0, (vNam σ)), (0, 1), (0, 1)] [] σ Q) (f4 : ∀ (c2 : (rd σ 68 6) ≠ 2) (c10 : 0 ≤ (vNam σ)) (c18 : x1 = 0) (c20 : (rd σ 68 6) ≠ 40), pC mX11_isWord 0 [(2, 68), (1, 7237492)] σ (fun r τ => r = some (0, b2i (vIsW σ 7237492)) ∧ τ = σ)) (k11 : ∀ (c2 : (rd σ 68 6) ≠ 2) (c10 : 0 ≤ (vNam σ)) (c18 : x1 = 0) (c20 : (rd σ 68 6) ≠ 40) (c21 : (vIsW σ 7237492) = false), pR mX11_operand d 53 [(2, 68), (0, x1), (0, (vNam σ)), (0, 1), (0, 0)] [] σ Q) (k12 : ∀ (c2 : (rd σ 68 6) ≠ 2) (c10 : 0 ≤ (vNam σ)) (c18 : x1 = 0) (c20 : (rd σ 68 6) ≠ 40) (c22 : (vIsW σ 7237492) = true), pR mX11_operand d 53 [(2, 68), (0, x1), (0, (vNam σ)), (0, 1), (0, 1)] [] σ Q) : pC mX11_operand d [(2, 68), (0, x1)] σ Q := by
  show pR mX11_operand d 0 [(2, 68), (0, x1), (9, 0), (9, 0), (9, 0)] [] σ Q
  refine pGo (s_aload_n dX11_operand_0 rfl (by decide)) ?_
  refine p_callV (As := []) (st := []) (n := 0) (d' := 0) (Q1 := (fun r τ => r = some (0, (vNam σ)) ∧ τ = σ)) pc11 ok_X11_named ml_X11_422 im_X11_named se_X11_named dX11_operand_1 (ob_68 hst) (pargs_of rfl) rfl (Nat.le_of_ble_eq_true rfl) (by omega) f1 (fun r1 τ1 e1 q1 w1 => ?_)
  obtain ⟨rfl, t1⟩ := q1
  rw [t1]
  show pR mX11_operand d 4 [(2, 68), (0, x1), (9, 0), (9, 0), (9, 0)] [(0, (vNam σ))] σ Q
  refine pGoL (ls2 := [(2, 68), (0, x1), (0, (vNam σ)), (9, 0), (9, 0)]) (s_istore_n dX11_operand_4 (by decide) rfl) rfl ?_
  refine pGo (s_aload_n dX11_operand_5 rfl (by decide)) ?_
  refine pGoE (y := (rd σ 68 6)) (s_getI pc11 fl_X11_260 dX11_operand_6 (ob_68 hst) rfl (by decide)) rfl ?_
  refine pGo (s_iconst dX11_operand_9) ?_
  refine p_iceq (tgt := 17) dX11_operand_10 (by decide) g1 (by decide) (fun c1 => ?_) (fun c2 => ?_)
  · refine pGo (s_iconst dX11_operand_17) ?_
    refine pGo (s_goto (tgt := 22) dX11_operand_18 (by decide)) ?_
    refine pGoL (ls2 := [(2, 68), (0, x1), (0, (vNam σ)), (0, 1), (9, 0)]) (s_istore_n dX11_operand_22 (by decide) rfl) rfl ?_
    refine pGo (s_iload_n dX11_operand_23 rfl) ?_
    refine p_ifne (tgt := 50) dX11_operand_24 (by decide) (g2 c1) (fun c3 => ?_) (fun c4 => ?_)
    · refine pGo (s_iconst dX11_operand_50) ?_
      refine pGoL (ls2 := [(2, 68), (0, x1), (0, (vNam σ)), (0, 1), (0, 0)]) (s_istore dX11_operand_51 (by decide) rfl) rfl ?_
      exact (k1 c1 c3)
    · refine pGo (s_aload_n dX11_operand_27 rfl (by decide)) ?_
      refine pGoE (y := (rd σ 68 6)) (s_getI pc11 fl_X11_260 dX11_operand_28 (ob_68 hst) rfl (by decide)) rfl ?_
      refine pGo (s_bipush dX11_operand_31 (by decide)) ?_
      refine p_iceq (tgt := 46) dX11_operand_33 (by decide) g1 (by decide) (fun c5 => ?_) (fun c6 => ?_)
      · refine pGo (s_iconst dX11_operand_46) ?_
        refine pGo (s_goto (tgt := 51) dX11_operand_47 (by decide)) ?_
        refine pGoL (ls2 := [(2, 68), (0, x1), (0, (vNam σ)), (0, 1), (0, 1)]) (s_istore dX11_operand_51 (by decide) rfl) rfl ?_
        exact (k2 c1 c4 c5)
      · refine pGo (s_aload_n dX11_operand_36 rfl (by decide)) ?_
        refine pGo (s_ldc2 (n := 7237492) dX11_operand_37 kl_X11_304 (by decide)) ?_
        refine p_callV (As := [(1, 7237492)]) (st := []) (n := 1) (d' := 0) (Q1 := (fun r τ => r = some (0, b2i (vIsW σ 7237492)) ∧ τ = σ)) pc11 ok_X11_isWord ml_X11_312 im_X11_isWord se_X11_isWord dX11_operand_40 (ob_68 hst) (pargs_of rfl) rfl (Nat.le_of_ble_eq_true rfl) (by omega) (f2 c1 c4 c6) (fun r2 τ2 e2 q2 w2 => ?_)
        obtain ⟨rfl, t2⟩ := q2
        rw [t2]
        show pR mX11_operand d 43 [(2, 68), (0, x1), (0, (vNam σ)), (0, 1), (9, 0)] [(0, (b2i (vIsW σ 7237492)))] σ Q
        refine p_ifeqB (tgt := 50) dX11_operand_43 (by decide) (fun c7 => ?_) (fun c8 => ?_)
        · refine pGo (s_iconst dX11_operand_50) ?_
          refine pGoL (ls2 := [(2, 68), (0, x1), (0, (vNam σ)), (0, 1), (0, 0)]) (s_istore dX11_operand_51 (by decide) rfl) rfl ?_
          exact (k3 c1 c4 c6 c7)
        · refine pGo (s_iconst dX11_operand_46) ?_
          refine pGo (s_goto (tgt := 51) dX11_operand_47 (by decide)) ?_
          refine pGoL (ls2 := [(2, 68), (0, x1), (0, (vNam σ)), (0, 1), (0, 1)]) (s_istore dX11_operand_51 (by decide) rfl) rfl ?_
          exact (k4 c1 c4 c6 c8)
  · refine pGo (s_iload_n dX11_operand_13 rfl) ?_
    refine p_iflt (tgt := 21) dX11_operand_14 (by decide) (g3 c2) (fun c9 => ?_) (fun c10 => ?_)
    · refine pGo (s_iconst dX11_operand_21) ?_
      refine pGoL (ls2 := [(2, 68), (0, x1), (0, (vNam σ)), (0, 0), (9, 0)]) (s_istore_n dX11_operand_22 (by decide) rfl) rfl ?_
      refine pGo (s_iload_n dX11_operand_23 rfl) ?_
      refine p_ifne (tgt := 50) dX11_operand_24 (by decide) (g4 c2 c9) (fun c11 => ?_) (fun c12 => ?_)
      · refine pGo (s_iconst dX11_operand_50) ?_
        refine pGoL (ls2 := [(2, 68), (0, x1), (0, (vNam σ)), (0, 0), (0, 0)]) (s_istore dX11_operand_51 (by decide) rfl) rfl ?_
        exact (k5 c2 c9 c11)
      · refine pGo (s_aload_n dX11_operand_27 rfl (by decide)) ?_
        refine pGoE (y := (rd σ 68 6)) (s_getI pc11 fl_X11_260 dX11_operand_28 (ob_68 hst) rfl (by decide)) rfl ?_
        refine pGo (s_bipush dX11_operand_31 (by decide)) ?_
        refine p_iceq (tgt := 46) dX11_operand_33 (by decide) g1 (by decide) (fun c13 => ?_) (fun c14 => ?_)
        · refine pGo (s_iconst dX11_operand_46) ?_
          refine pGo (s_goto (tgt := 51) dX11_operand_47 (by decide)) ?_
          refine pGoL (ls2 := [(2, 68), (0, x1), (0, (vNam σ)), (0, 0), (0, 1)]) (s_istore dX11_operand_51 (by decide) rfl) rfl ?_
          exact (k6 c2 c9 c12 c13)
        · refine pGo (s_aload_n dX11_operand_36 rfl (by decide)) ?_
          refine pGo (s_ldc2 (n := 7237492) dX11_operand_37 kl_X11_304 (by decide)) ?_
          refine p_callV (As := [(1, 7237492)]) (st := []) (n := 1) (d' := 0) (Q1 := (fun r τ => r = some (0, b2i (vIsW σ 7237492)) ∧ τ = σ)) pc11 ok_X11_isWord ml_X11_312 im_X11_isWord se_X11_isWord dX11_operand_40 (ob_68 hst) (pargs_of rfl) rfl (Nat.le_of_ble_eq_true rfl) (by omega) (f3 c2 c9 c12 c14) (fun r3 τ3 e3 q3 w3 => ?_)
          obtain ⟨rfl, t3⟩ := q3
          rw [t3]
          show pR mX11_operand d 43 [(2, 68), (0, x1), (0, (vNam σ)), (0, 0), (9, 0)] [(0, (b2i (vIsW σ 7237492)))] σ Q
          refine p_ifeqB (tgt := 50) dX11_operand_43 (by decide) (fun c15 => ?_) (fun c16 => ?_)
          · refine pGo (s_iconst dX11_operand_50) ?_
            refine pGoL (ls2 := [(2, 68), (0, x1), (0, (vNam σ)), (0, 0), (0, 0)]) (s_istore dX11_operand_51 (by decide) rfl) rfl ?_
            exact (k7 c2 c9 c12 c14 c15)
          · refine pGo (s_iconst dX11_operand_46) ?_
            refine pGo (s_goto (tgt := 51) dX11_operand_47 (by decide)) ?_
            refine pGoL (ls2 := [(2, 68), (0, x1), (0, (vNam σ)), (0, 0), (0, 1)]) (s_istore dX11_operand_51 (by decide) rfl) rfl ?_
            exact (k8 c2 c9 c12 c14 c16)
    · refine pGo (s_iconst dX11_operand_17) ?_
      refine pGo (s_goto (tgt := 22) dX11_operand_18 (by decide)) ?_
      refine pGoL (ls2 := [(2, 68), (0, x1), (0, (vNam σ)), (0, 1), (9, 0)]) (s_istore_n dX11_operand_22 (by decide) rfl) rfl ?_
      refine pGo (s_iload_n dX11_operand_23 rfl) ?_
      refine p_ifne (tgt := 50) dX11_operand_24 (by decide) (g5 c2 c10) (fun c17 => ?_) (fun c18 => ?_)
      · refine pGo (s_iconst dX11_operand_50) ?_
        refine pGoL (ls2 := [(2, 68), (0, x1), (0, (vNam σ)), (0, 1), (0, 0)]) (s_istore dX11_operand_51 (by decide) rfl) rfl ?_
        exact (k9 c2 c10 c17)
      · refine pGo (s_aload_n dX11_operand_27 rfl (by decide)) ?_
        refine pGoE (y := (rd σ 68 6)) (s_getI pc11 fl_X11_260 dX11_operand_28 (ob_68 hst) rfl (by decide)) rfl ?_
        refine pGo (s_bipush dX11_operand_31 (by decide)) ?_
        refine p_iceq (tgt := 46) dX11_operand_33 (by decide) g1 (by decide) (fun c19 => ?_) (fun c20 => ?_)
        · refine pGo (s_iconst dX11_operand_46) ?_
          refine pGo (s_goto (tgt := 51) dX11_operand_47 (by decide)) ?_
          refine pGoL (ls2 := [(2, 68), (0, x1), (0, (vNam σ)), (0, 1), (0, 1)]) (s_istore dX11_operand_51 (by decide) rfl) rfl ?_
          exact (k10 c2 c10 c18 c19)
        · refine pGo (s_aload_n dX11_operand_36 rfl (by decide)) ?_
          refine pGo (s_ldc2 (n := 7237492) dX11_operand_37 kl_X11_304 (by decide)) ?_
          refine p_callV (As := [(1, 7237492)]) (st := []) (n := 1) (d' := 0) (Q1 := (fun r τ => r = some (0, b2i (vIsW σ 7237492)) ∧ τ = σ)) pc11 ok_X11_isWord ml_X11_312 im_X11_isWord se_X11_isWord dX11_operand_40 (ob_68 hst) (pargs_of rfl) rfl (Nat.le_of_ble_eq_true rfl) (by omega) (f4 c2 c10 c18 c20) (fun r4 τ4 e4 q4 w4 => ?_)
          obtain ⟨rfl, t4⟩ := q4
          rw [t4]
          show pR mX11_operand d 43 [(2, 68), (0, x1), (0, (vNam σ)), (0, 1), (9, 0)] [(0, (b2i (vIsW σ 7237492)))] σ Q
          refine p_ifeqB (tgt := 50) dX11_operand_43 (by decide) (fun c21 => ?_) (fun c22 => ?_)
          · refine pGo (s_iconst dX11_operand_50) ?_
            refine pGoL (ls2 := [(2, 68), (0, x1), (0, (vNam σ)), (0, 1), (0, 0)]) (s_istore dX11_operand_51 (by decide) rfl) rfl ?_
            exact (k11 c2 c10 c18 c20 c21)
          · refine pGo (s_iconst dX11_operand_46) ?_
            refine pGo (s_goto (tgt := 51) dX11_operand_47 (by decide)) ?_
            refine pGoL (ls2 := [(2, 68), (0, x1), (0, (vNam σ)), (0, 1), (0, 1)]) (s_istore dX11_operand_51 (by decide) rfl) rfl ?_
            exact (k12 c2 c10 c18 c20 c22)
set_option maxRecDepth 100000 in
theorem g_X11_operand_53 {d : Nat} {σ : pS} {Q : Option pV → pS → Prop} {Q1 : Option pV → pS → Prop} {Q2 : Option pV → pS → Prop} {Q3 : Option pV → pS → Prop} (hd : 2 ≤ d) (hst : Stat σ) (x1 : Int) (x2 : Int) (x3 : Int) (x4 : Int)  (g1 : inR x3) (g2 : ∀ (c1 : x3 ≠ 0), inR x4) (k1 : ∀ (c1 : x3 ≠ 0) (c3 : x4 = 0), pR mX11_operand d 76 [(2, 68), (0, x1), (0, x2), (0, x3), (0, x4)] [] σ Q) (g3 : ∀ (c1 : x3 ≠ 0) (c4 : x4 ≠ 0), inR (rd σ 68 49)) (f1 : ∀ (c1 : x3 ≠ 0) (c4 : x4 ≠ 0) (c5 : 7 ≤ (rd σ 68 49)), pC mX11_wrong 0 [(2, 68), (0, 2)] σ Q1) (k2 : ∀ (c1 : x3 ≠ 0) (c4 : x4 ≠ 0) (c5 : 7 ≤ (rd σ 68 49)) (τ1 : pS) (e1 : pLe σ τ1) (q1 : Q1 none τ1), pR mX11_operand d 120 [(2, 68), (0, x1), (0, x2), (0, x3), (0, x4)] [] τ1 Q) (k3 : ∀ (c1 : x3 ≠ 0) (c4 : x4 ≠ 0) (c6 : (rd σ 68 49) < 7), pR mX11_operand d 76 [(2, 68), (0, x1), (0, x2), (0, x3), (0, x4)] [] σ Q) (g4 : ∀ (c2 : x3 = 0), inR x4) (f2 : ∀ (c2 : x3 = 0) (c7 : x4 = 0), pC mX11_wrong 0 [(2, 68), (0, 2)] σ Q2) (k4 : ∀ (c2 : x3 = 0) (c7 : x4 = 0) (τ2 : pS) (e2 : pLe σ τ2) (q2 : Q2 none τ2), pR mX11_operand d 120 [(2, 68), (0, x1), (0, x2), (0, x3), (0, x4)] [] τ2 Q) (k5 : ∀ (c2 : x3 = 0) (c8 : x4 ≠ 0) (c9 : x4 = 0), pR mX11_operand d 76 [(2, 68), (0, x1), (0, x2), (0, x3), (0, x4)] [] σ Q) (g5 : ∀ (c2 : x3 = 0) (c8 : x4 ≠ 0) (c10 : x4 ≠ 0), inR (rd σ 68 49)) (f3 : ∀ (c2 : x3 = 0) (c8 : x4 ≠ 0) (c10 : x4 ≠ 0) (c11 : 7 ≤ (rd σ 68 49)), pC mX11_wrong 0 [(2, 68), (0, 2)] σ Q3) (k6 : ∀ (c2 : x3 = 0) (c8 : x4 ≠ 0) (c10 : x4 ≠ 0) (c11 : 7 ≤ (rd σ 68 49)) (τ3 : pS) (e3 : pLe σ τ3) (q3 : Q3 none τ3), pR mX11_operand d 120 [(2, 68), (0, x1), (0, x2), (0, x3), (0, x4)] [] τ3 Q) (k7 : ∀ (c2 : x3 = 0) (c8 : x4 ≠ 0) (c10 : x4 ≠ 0) (c12 : (rd σ 68 49) < 7), pR mX11_operand d 76 [(2, 68), (0, x1), (0, x2), (0, x3), (0, x4)] [] σ Q) : pR mX11_operand d 53 [(2, 68), (0, x1), (0, x2), (0, x3), (0, x4)] [] σ Q := by
  refine pGo (s_iload_n dX11_operand_53 rfl) ?_
  refine p_ifne (tgt := 62) dX11_operand_54 (by decide) g1 (fun c1 => ?_) (fun c2 => ?_)
  · refine pGo (s_iload dX11_operand_62 rfl) ?_
    refine p_ifeq (tgt := 76) dX11_operand_64 (by decide) (g2 c1) (fun c3 => ?_) (fun c4 => ?_)
    · exact (k1 c1 c3)
    · refine pGo (s_aload_n dX11_operand_67 rfl (by decide)) ?_
      refine pGoE (y := (rd σ 68 49)) (s_getI pc11 fl_X11_396 dX11_operand_68 (ob_68 hst) rfl (by decide)) rfl ?_
      refine pGo (s_bipush dX11_operand_71 (by decide)) ?_
      refine p_icge (tgt := 89) dX11_operand_73 (by decide) (g3 c1 c4) (by decide) (fun c5 => ?_) (fun c6 => ?_)
      · refine pGo (s_aload_n dX11_operand_89 rfl (by decide)) ?_
        refine pGo (s_iconst dX11_operand_90) ?_
        refine p_callV (As := [(0, 2)]) (st := []) (n := 1) (d' := 0) (Q1 := Q1) pc11 ok_X11_wrong ml_X11_316 im_X11_wrong se_X11_wrong dX11_operand_91 (ob_68 hst) (pargs_of rfl) rfl (Nat.le_of_ble_eq_true rfl) (by omega) (f1 c1 c4 c5) (fun r1 τ1 e1 q1 w1 => ?_)
        obtain rfl : r1 = none := w1
        have S1 : Stat τ1 := (Stat.le (σ := σ) hst e1)
        show pR mX11_operand d 94 [(2, 68), (0, x1), (0, x2), (0, x3), (0, x4)] [] τ1 Q
        refine pGo (s_goto (tgt := 120) dX11_operand_94 (by decide)) ?_
        exact (k2 c1 c4 c5 τ1 e1 q1)
      · exact (k3 c1 c4 c6)
  · refine pGo (s_iload dX11_operand_57 rfl) ?_
    refine p_ifeq (tgt := 89) dX11_operand_59 (by decide) (g4 c2) (fun c7 => ?_) (fun c8 => ?_)
    · refine pGo (s_aload_n dX11_operand_89 rfl (by decide)) ?_
      refine pGo (s_iconst dX11_operand_90) ?_
      refine p_callV (As := [(0, 2)]) (st := []) (n := 1) (d' := 0) (Q1 := Q2) pc11 ok_X11_wrong ml_X11_316 im_X11_wrong se_X11_wrong dX11_operand_91 (ob_68 hst) (pargs_of rfl) rfl (Nat.le_of_ble_eq_true rfl) (by omega) (f2 c2 c7) (fun r2 τ2 e2 q2 w2 => ?_)
      obtain rfl : r2 = none := w2
      have S2 : Stat τ2 := (Stat.le (σ := σ) hst e2)
      show pR mX11_operand d 94 [(2, 68), (0, x1), (0, x2), (0, x3), (0, x4)] [] τ2 Q
      refine pGo (s_goto (tgt := 120) dX11_operand_94 (by decide)) ?_
      exact (k4 c2 c7 τ2 e2 q2)
    · refine pGo (s_iload dX11_operand_62 rfl) ?_
      refine p_ifeq (tgt := 76) dX11_operand_64 (by decide) (g4 c2) (fun c9 => ?_) (fun c10 => ?_)
      · exact (k5 c2 c8 c9)
      · refine pGo (s_aload_n dX11_operand_67 rfl (by decide)) ?_
        refine pGoE (y := (rd σ 68 49)) (s_getI pc11 fl_X11_396 dX11_operand_68 (ob_68 hst) rfl (by decide)) rfl ?_
        refine pGo (s_bipush dX11_operand_71 (by decide)) ?_
        refine p_icge (tgt := 89) dX11_operand_73 (by decide) (g5 c2 c8 c10) (by decide) (fun c11 => ?_) (fun c12 => ?_)
        · refine pGo (s_aload_n dX11_operand_89 rfl (by decide)) ?_
          refine pGo (s_iconst dX11_operand_90) ?_
          refine p_callV (As := [(0, 2)]) (st := []) (n := 1) (d' := 0) (Q1 := Q3) pc11 ok_X11_wrong ml_X11_316 im_X11_wrong se_X11_wrong dX11_operand_91 (ob_68 hst) (pargs_of rfl) rfl (Nat.le_of_ble_eq_true rfl) (by omega) (f3 c2 c8 c10 c11) (fun r3 τ3 e3 q3 w3 => ?_)
          obtain rfl : r3 = none := w3
          have S3 : Stat τ3 := (Stat.le (σ := σ) hst e3)
          show pR mX11_operand d 94 [(2, 68), (0, x1), (0, x2), (0, x3), (0, x4)] [] τ3 Q
          refine pGo (s_goto (tgt := 120) dX11_operand_94 (by decide)) ?_
          exact (k6 c2 c8 c10 c11 τ3 e3 q3)
        · exact (k7 c2 c8 c10 c12)
set_option maxRecDepth 100000 in
theorem g_X11_operand_76 {d : Nat} {σ : pS} {Q : Option pV → pS → Prop} {Q1 : Option pV → pS → Prop} (hd : 2 ≤ d) (hst : Stat σ) (x1 : Int) (x2 : Int) (x3 : Int) (x4 : Int)  (g1 : inR x3) (k1 : ∀ (c1 : x3 = 0), pR mX11_operand d 97 [(2, 68), (0, x1), (0, x2), (0, x3), (0, x4)] [] σ Q) (g2 : ∀ (c2 : x3 ≠ 0), inR (rd σ 68 45)) (k2 : ∀ (c2 : x3 ≠ 0) (c3 : (rd σ 68 45) ≠ 40), pR mX11_operand d 97 [(2, 68), (0, x1), (0, x2), (0, x3), (0, x4)] [] σ Q) (f1 : ∀ (c2 : x3 ≠ 0) (c4 : (rd σ 68 45) = 40), pC mX11_wrong 0 [(2, 68), (0, 2)] σ Q1) (k3 : ∀ (c2 : x3 ≠ 0) (c4 : (rd σ 68 45) = 40) (τ1 : pS) (e1 : pLe σ τ1) (q1 : Q1 none τ1), pR mX11_operand d 120 [(2, 68), (0, x1), (0, x2), (0, x3), (0, x4)] [] τ1 Q) : pR mX11_operand d 76 [(2, 68), (0, x1), (0, x2), (0, x3), (0, x4)] [] σ Q := by
  refine pGo (s_iload_n dX11_operand_76 rfl) ?_
  refine p_ifeq (tgt := 97) dX11_operand_77 (by decide) g1 (fun c1 => ?_) (fun c2 => ?_)
  · exact (k1 c1)
  · refine pGo (s_aload_n dX11_operand_80 rfl (by decide)) ?_
    refine pGoE (y := (rd σ 68 45)) (s_getI pc11 fl_X11_425 dX11_operand_81 (ob_68 hst) rfl (by decide)) rfl ?_
    refine pGo (s_bipush dX11_operand_84 (by decide)) ?_
    refine p_icne (tgt := 97) dX11_operand_86 (by decide) (g2 c2) (by decide) (fun c3 => ?_) (fun c4 => ?_)
    · exact (k2 c2 c3)
    · refine pGo (s_aload_n dX11_operand_89 rfl (by decide)) ?_
      refine pGo (s_iconst dX11_operand_90) ?_
      refine p_callV (As := [(0, 2)]) (st := []) (n := 1) (d' := 0) (Q1 := Q1) pc11 ok_X11_wrong ml_X11_316 im_X11_wrong se_X11_wrong dX11_operand_91 (ob_68 hst) (pargs_of rfl) rfl (Nat.le_of_ble_eq_true rfl) (by omega) (f1 c2 c4) (fun r1 τ1 e1 q1 w1 => ?_)
      obtain rfl : r1 = none := w1
      have S1 : Stat τ1 := (Stat.le (σ := σ) hst e1)
      show pR mX11_operand d 94 [(2, 68), (0, x1), (0, x2), (0, x3), (0, x4)] [] τ1 Q
      refine pGo (s_goto (tgt := 120) dX11_operand_94 (by decide)) ?_
      exact (k3 c2 c4 τ1 e1 q1)
set_option maxRecDepth 100000 in
theorem g_X11_operand_97 {d : Nat} {σ : pS} {Q : Option pV → pS → Prop} {Q1 : Option pV → pS → Prop} {Q2 : Option pV → pS → Prop} (hd : 2 ≤ d) (hst : Stat σ) (x1 : Int) (x2 : Int) (x3 : Int) (x4 : Int)  (g1 : inR (rd σ 68 50)) (k1 : ∀ (c1 : (rd σ 68 50) ≠ 0), pR mX11_operand d 120 [(2, 68), (0, x1), (0, x2), (0, x3), (0, x4)] [] σ Q) (g2 : ∀ (c2 : (rd σ 68 50) = 0), inR x2) (f1 : ∀ (c2 : (rd σ 68 50) = 0) (c3 : x2 = 4), pC mX11_wrong 0 [(2, 68), (0, 6)] σ Q1) (k2 : ∀ (c2 : (rd σ 68 50) = 0) (c3 : x2 = 4) (τ1 : pS) (e1 : pLe σ τ1) (q1 : Q1 none τ1), pR mX11_operand d 120 [(2, 68), (0, x1), (0, x2), (0, x3), (0, x4)] [] τ1 Q) (k3 : ∀ (c2 : (rd σ 68 50) = 0) (c4 : x2 ≠ 4) (c5 : x2 ≠ 5), pR mX11_operand d 120 [(2, 68), (0, x1), (0, x2), (0, x3), (0, x4)] [] σ Q) (f2 : ∀ (c2 : (rd σ 68 50) = 0) (c4 : x2 ≠ 4) (c6 : x2 = 5), pC mX11_wrong 0 [(2, 68), (0, 6)] σ Q2) (k4 : ∀ (c2 : (rd σ 68 50) = 0) (c4 : x2 ≠ 4) (c6 : x2 = 5) (τ2 : pS) (e2 : pLe σ τ2) (q2 : Q2 none τ2), pR mX11_operand d 120 [(2, 68), (0, x1), (0, x2), (0, x3), (0, x4)] [] τ2 Q) : pR mX11_operand d 97 [(2, 68), (0, x1), (0, x2), (0, x3), (0, x4)] [] σ Q := by
  refine pGo (s_aload_n dX11_operand_97 rfl (by decide)) ?_
  refine pGoE (y := (rd σ 68 50)) (s_getI pc11 fl_X11_428 dX11_operand_98 (ob_68 hst) rfl (by decide)) rfl ?_
  refine p_ifne (tgt := 120) dX11_operand_101 (by decide) g1 (fun c1 => ?_) (fun c2 => ?_)
  · exact (k1 c1)
  · refine pGo (s_iload_n dX11_operand_104 rfl) ?_
    refine pGo (s_iconst dX11_operand_105) ?_
    refine p_iceq (tgt := 114) dX11_operand_106 (by decide) (g2 c2) (by decide) (fun c3 => ?_) (fun c4 => ?_)
    · refine pGo (s_aload_n dX11_operand_114 rfl (by decide)) ?_
      refine pGo (s_bipush dX11_operand_115 (by decide)) ?_
      refine p_callV (As := [(0, 6)]) (st := []) (n := 1) (d' := 0) (Q1 := Q1) pc11 ok_X11_wrong ml_X11_316 im_X11_wrong se_X11_wrong dX11_operand_117 (ob_68 hst) (pargs_of rfl) rfl (Nat.le_of_ble_eq_true rfl) (by omega) (f1 c2 c3) (fun r1 τ1 e1 q1 w1 => ?_)
      obtain rfl : r1 = none := w1
      have S1 : Stat τ1 := (Stat.le (σ := σ) hst e1)
      show pR mX11_operand d 120 [(2, 68), (0, x1), (0, x2), (0, x3), (0, x4)] [] τ1 Q
      exact (k2 c2 c3 τ1 e1 q1)
    · refine pGo (s_iload_n dX11_operand_109 rfl) ?_
      refine pGo (s_iconst dX11_operand_110) ?_
      refine p_icne (tgt := 120) dX11_operand_111 (by decide) (g2 c2) (by decide) (fun c5 => ?_) (fun c6 => ?_)
      · exact (k3 c2 c4 c5)
      · refine pGo (s_aload_n dX11_operand_114 rfl (by decide)) ?_
        refine pGo (s_bipush dX11_operand_115 (by decide)) ?_
        refine p_callV (As := [(0, 6)]) (st := []) (n := 1) (d' := 0) (Q1 := Q2) pc11 ok_X11_wrong ml_X11_316 im_X11_wrong se_X11_wrong dX11_operand_117 (ob_68 hst) (pargs_of rfl) rfl (Nat.le_of_ble_eq_true rfl) (by omega) (f2 c2 c4 c6) (fun r2 τ2 e2 q2 w2 => ?_)
        obtain rfl : r2 = none := w2
        have S2 : Stat τ2 := (Stat.le (σ := σ) hst e2)
        show pR mX11_operand d 120 [(2, 68), (0, x1), (0, x2), (0, x3), (0, x4)] [] τ2 Q
        exact (k4 c2 c4 c6 τ2 e2 q2)
set_option maxRecDepth 100000 in
theorem g_X11_operand_120 {d : Nat} {σ : pS} {Q : Option pV → pS → Prop} {Q1 : Option pV → pS → Prop} {Q2 : Option pV → pS → Prop} {Q3 : Option pV → pS → Prop} {Q4 : Option pV → pS → Prop} {Q5 : Option pV → pS → Prop} {Q6 : Option pV → pS → Prop} {Q7 : Option pV → pS → Prop} {Q8 : Option pV → pS → Prop} (hd : 2 ≤ d) (hst : Stat σ) (x1 : Int) (x2 : Int) (x3 : Int) (x4 : Int)  (g1 : inR (rd σ 68 2)) (g2 : ∀ (c1 : (rd σ 68 2) ≤ 0), inR x4) (g3 : ∀ (c1 : (rd σ 68 2) ≤ 0) (c3 : x4 = 0), inR x2) (f1 : ∀ (c1 : (rd σ 68 2) ≤ 0) (c3 : x4 = 0) (c5 : x2 < 0), pC mX11_step 0 [(2, 68), (0, 0), (0, (rd σ 68 8))] (wr σ 68 45 ((rd σ 68 45) + 1)) Q1) (f2 : ∀ (c1 : (rd σ 68 2) ≤ 0) (c3 : x4 = 0) (c5 : x2 < 0) (τ1 : pS) (e1 : pLe (wr σ 68 45 ((rd σ 68 45) + 1)) τ1) (q1 : Q1 none τ1), pC mX11_next 1 [(2, 68)] τ1 Q2) (g4 : ∀ (c1 : (rd σ 68 2) ≤ 0) (c3 : x4 = 0) (c5 : x2 < 0) (τ1 : pS) (e1 : pLe (wr σ 68 45 ((rd σ 68 45) + 1)) τ1) (q1 : Q1 none τ1) (τ2 : pS) (e2 : pLe τ1 τ2) (q2 : Q2 none τ2), inR x1) (k1 : ∀ (c1 : (rd σ 68 2) ≤ 0) (c3 : x4 = 0) (c5 : x2 < 0) (τ1 : pS) (e1 : pLe (wr σ 68 45 ((rd σ 68 45) + 1)) τ1) (q1 : Q1 none τ1) (τ2 : pS) (e2 : pLe τ1 τ2) (q2 : Q2 none τ2) (c7 : x1 ≠ 2), Q (some (0, 3)) τ2) (k2 : ∀ (c1 : (rd σ 68 2) ≤ 0) (c3 : x4 = 0) (c5 : x2 < 0) (τ1 : pS) (e1 : pLe (wr σ 68 45 ((rd σ 68 45) + 1)) τ1) (q1 : Q1 none τ1) (τ2 : pS) (e2 : pLe τ1 τ2) (q2 : Q2 none τ2) (c8 : x1 = 2), Q (some (0, 4)) τ2) (f3 : ∀ (c1 : (rd σ 68 2) ≤ 0) (c3 : x4 = 0) (c6 : 0 ≤ x2), pC mX11_step 0 [(2, 68), (0, x2), (0, (rd σ 68 8))] (wr σ 68 45 ((rd σ 68 45) + 1)) Q3) (f4 : ∀ (c1 : (rd σ 68 2) ≤ 0) (c3 : x4 = 0) (c6 : 0 ≤ x2) (τ3 : pS) (e3 : pLe (wr σ 68 45 ((rd σ 68 45) + 1)) τ3) (q3 : Q3 none τ3), pC mX11_next 1 [(2, 68)] τ3 Q4) (g5 : ∀ (c1 : (rd σ 68 2) ≤ 0) (c3 : x4 = 0) (c6 : 0 ≤ x2) (τ3 : pS) (e3 : pLe (wr σ 68 45 ((rd σ 68 45) + 1)) τ3) (q3 : Q3 none τ3) (τ4 : pS) (e4 : pLe τ3 τ4) (q4 : Q4 none τ4), inR x1) (k3 : ∀ (c1 : (rd σ 68 2) ≤ 0) (c3 : x4 = 0) (c6 : 0 ≤ x2) (τ3 : pS) (e3 : pLe (wr σ 68 45 ((rd σ 68 45) + 1)) τ3) (q3 : Q3 none τ3) (τ4 : pS) (e4 : pLe τ3 τ4) (q4 : Q4 none τ4) (c9 : x1 ≠ 2), Q (some (0, 3)) τ4) (k4 : ∀ (c1 : (rd σ 68 2) ≤ 0) (c3 : x4 = 0) (c6 : 0 ≤ x2) (τ3 : pS) (e3 : pLe (wr σ 68 45 ((rd σ 68 45) + 1)) τ3) (q3 : Q3 none τ3) (τ4 : pS) (e4 : pLe τ3 τ4) (q4 : Q4 none τ4) (c10 : x1 = 2), Q (some (0, 4)) τ4) (g6 : ∀ (c1 : (rd σ 68 2) ≤ 0) (c4 : x4 ≠ 0), inR (rd σ 68 6)) (f5 : ∀ (c1 : (rd σ 68 2) ≤ 0) (c4 : x4 ≠ 0) (c11 : (rd σ 68 6) ≠ 40), pC mX11_hold 0 [(2, 68), (0, 20)] σ Q5) (f6 : ∀ (c1 : (rd σ 68 2) ≤ 0) (c4 : x4 ≠ 0) (c11 : (rd σ 68 6) ≠ 40) (τ5 : pS) (e5 : pLe σ τ5) (q5 : Q5 none τ5), pC mX11_next 1 [(2, 68)] τ5 Q6) (k5 : ∀ (c1 : (rd σ 68 2) ≤ 0) (c4 : x4 ≠ 0) (c11 : (rd σ 68 6) ≠ 40) (τ5 : pS) (e5 : pLe σ τ5) (q5 : Q5 none τ5) (τ6 : pS) (e6 : pLe τ5 τ6) (q6 : Q6 none τ6), Q (some (0, 0)) τ6) (f7 : ∀ (c1 : (rd σ 68 2) ≤ 0) (c4 : x4 ≠ 0) (c12 : (rd σ 68 6) = 40), pC mX11_hold 0 [(2, 68), (0, 28)] σ Q7) (f8 : ∀ (c1 : (rd σ 68 2) ≤ 0) (c4 : x4 ≠ 0) (c12 : (rd σ 68 6) = 40) (τ7 : pS) (e7 : pLe σ τ7) (q7 : Q7 none τ7), pC mX11_next 1 [(2, 68)] τ7 Q8) (k6 : ∀ (c1 : (rd σ 68 2) ≤ 0) (c4 : x4 ≠ 0) (c12 : (rd σ 68 6) = 40) (τ7 : pS) (e7 : pLe σ τ7) (q7 : Q7 none τ7) (τ8 : pS) (e8 : pLe τ7 τ8) (q8 : Q8 none τ8), Q (some (0, 0)) τ8) (k7 : ∀ (c2 : 0 < (rd σ 68 2)), Q (some (0, x1)) σ) : pR mX11_operand d 120 [(2, 68), (0, x1), (0, x2), (0, x3), (0, x4)] [] σ Q := by
  refine pGo (s_aload_n dX11_operand_120 rfl (by decide)) ?_
  refine pGoE (y := (rd σ 68 2)) (s_getI pc11 fl_X11_273 dX11_operand_121 (ob_68 hst) rfl (by decide)) rfl ?_
  refine p_ifle (tgt := 129) dX11_operand_124 (by decide) g1 (fun c1 => ?_) (fun c2 => ?_)
  · refine pGo (s_iload dX11_operand_129 rfl) ?_
    refine p_ifeq (tgt := 160) dX11_operand_131 (by decide) (g2 c1) (fun c3 => ?_) (fun c4 => ?_)
    · refine pGo (s_aload_n dX11_operand_160 rfl (by decide)) ?_
      refine pGo (s_dup dX11_operand_161 (by decide)) ?_
      refine pGoE (y := (rd σ 68 45)) (s_getI pc11 fl_X11_425 dX11_operand_162 (ob_68 hst) rfl (by decide)) rfl ?_
      refine pGo (s_iconst dX11_operand_165) ?_
      refine pGo (s_iadd dX11_operand_166) ?_
      refine pGo (s_putI pc11 fl_X11_425 dX11_operand_167 (ob_68 hst) rfl rfl rfl rfl) ?_
      refine pGo (s_aload_n dX11_operand_170 rfl (by decide)) ?_
      refine pGo (s_iload_n dX11_operand_171 rfl) ?_
      refine p_iflt (tgt := 179) dX11_operand_172 (by decide) (g3 c1 c3) (fun c5 => ?_) (fun c6 => ?_)
      · refine pGo (s_iconst dX11_operand_179) ?_
        refine pGo (s_aload_n dX11_operand_180 rfl (by decide)) ?_
        refine pGoE (y := (rd σ 68 8)) (s_getI pc11 fl_X11_257 dX11_operand_181 (ob_68 hst) rfl (by decide)) (rd_wr_i _ (by decide)) ?_
        refine p_callV (As := [(0, 0), (0, (rd σ 68 8))]) (st := []) (n := 2) (d' := 0) (Q1 := Q1) pc11 ok_X11_step ml_X11_399 im_X11_step se_X11_step dX11_operand_184 (ob_68 hst) (pargs_of rfl) rfl (Nat.le_of_ble_eq_true rfl) (by omega) (f1 c1 c3 c5) (fun r1 τ1 e1 q1 w1 => ?_)
        obtain rfl : r1 = none := w1
        have S1 : Stat τ1 := (Stat.le (σ := (wr σ 68 45 ((rd σ 68 45) + 1))) hst e1)
        show pR mX11_operand d 187 [(2, 68), (0, x1), (0, x2), (0, x3), (0, x4)] [] τ1 Q
        refine pGo (s_aload_n dX11_operand_187 rfl (by decide)) ?_
        refine p_callV (As := []) (st := []) (n := 0) (d' := 1) (Q1 := Q2) pc11 ok_X11_next ml_X11_319 im_X11_next se_X11_next dX11_operand_188 (ob_68 S1) (pargs_of rfl) rfl (Nat.le_of_ble_eq_true rfl) (by omega) (f2 c1 c3 c5 τ1 e1 q1) (fun r2 τ2 e2 q2 w2 => ?_)
        obtain rfl : r2 = none := w2
        have S2 : Stat τ2 := (Stat.le (σ := τ1) S1 e2)
        show pR mX11_operand d 191 [(2, 68), (0, x1), (0, x2), (0, x3), (0, x4)] [] τ2 Q
        refine pGo (s_iload_n dX11_operand_191 rfl) ?_
        refine pGo (s_iconst dX11_operand_192) ?_
        refine p_icne (tgt := 200) dX11_operand_193 (by decide) (g4 c1 c3 c5 τ1 e1 q1 τ2 e2 q2) (by decide) (fun c7 => ?_) (fun c8 => ?_)
        · refine pGo (s_iconst dX11_operand_200) ?_
          exact pEnd (r := (some (0, 3))) dX11_operand_201 ⟨_, rfl⟩ (k1 c1 c3 c5 τ1 e1 q1 τ2 e2 q2 c7)
        · refine pGo (s_iconst dX11_operand_196) ?_
          refine pGo (s_goto (tgt := 201) dX11_operand_197 (by decide)) ?_
          exact pEnd (r := (some (0, 4))) dX11_operand_201 ⟨_, rfl⟩ (k2 c1 c3 c5 τ1 e1 q1 τ2 e2 q2 c8)
      · refine pGo (s_iload_n dX11_operand_175 rfl) ?_
        refine pGo (s_goto (tgt := 180) dX11_operand_176 (by decide)) ?_
        refine pGo (s_aload_n dX11_operand_180 rfl (by decide)) ?_
        refine pGoE (y := (rd σ 68 8)) (s_getI pc11 fl_X11_257 dX11_operand_181 (ob_68 hst) rfl (by decide)) (rd_wr_i _ (by decide)) ?_
        refine p_callV (As := [(0, x2), (0, (rd σ 68 8))]) (st := []) (n := 2) (d' := 0) (Q1 := Q3) pc11 ok_X11_step ml_X11_399 im_X11_step se_X11_step dX11_operand_184 (ob_68 hst) (pargs_of rfl) rfl (Nat.le_of_ble_eq_true rfl) (by omega) (f3 c1 c3 c6) (fun r3 τ3 e3 q3 w3 => ?_)
        obtain rfl : r3 = none := w3
        have S3 : Stat τ3 := (Stat.le (σ := (wr σ 68 45 ((rd σ 68 45) + 1))) hst e3)
        show pR mX11_operand d 187 [(2, 68), (0, x1), (0, x2), (0, x3), (0, x4)] [] τ3 Q
        refine pGo (s_aload_n dX11_operand_187 rfl (by decide)) ?_
        refine p_callV (As := []) (st := []) (n := 0) (d' := 1) (Q1 := Q4) pc11 ok_X11_next ml_X11_319 im_X11_next se_X11_next dX11_operand_188 (ob_68 S3) (pargs_of rfl) rfl (Nat.le_of_ble_eq_true rfl) (by omega) (f4 c1 c3 c6 τ3 e3 q3) (fun r4 τ4 e4 q4 w4 => ?_)
        obtain rfl : r4 = none := w4
        have S4 : Stat τ4 := (Stat.le (σ := τ3) S3 e4)
        show pR mX11_operand d 191 [(2, 68), (0, x1), (0, x2), (0, x3), (0, x4)] [] τ4 Q
        refine pGo (s_iload_n dX11_operand_191 rfl) ?_
        refine pGo (s_iconst dX11_operand_192) ?_
        refine p_icne (tgt := 200) dX11_operand_193 (by decide) (g5 c1 c3 c6 τ3 e3 q3 τ4 e4 q4) (by decide) (fun c9 => ?_) (fun c10 => ?_)
        · refine pGo (s_iconst dX11_operand_200) ?_
          exact pEnd (r := (some (0, 3))) dX11_operand_201 ⟨_, rfl⟩ (k3 c1 c3 c6 τ3 e3 q3 τ4 e4 q4 c9)
        · refine pGo (s_iconst dX11_operand_196) ?_
          refine pGo (s_goto (tgt := 201) dX11_operand_197 (by decide)) ?_
          exact pEnd (r := (some (0, 4))) dX11_operand_201 ⟨_, rfl⟩ (k4 c1 c3 c6 τ3 e3 q3 τ4 e4 q4 c10)
    · refine pGo (s_aload_n dX11_operand_134 rfl (by decide)) ?_
      refine pGo (s_aload_n dX11_operand_135 rfl (by decide)) ?_
      refine pGoE (y := (rd σ 68 6)) (s_getI pc11 fl_X11_260 dX11_operand_136 (ob_68 hst) rfl (by decide)) rfl ?_
      refine pGo (s_bipush dX11_operand_139 (by decide)) ?_
      refine p_icne (tgt := 149) dX11_operand_141 (by decide) (g6 c1 c4) (by decide) (fun c11 => ?_) (fun c12 => ?_)
      · refine pGo (s_bipush dX11_operand_149 (by decide)) ?_
        refine p_callV (As := [(0, 20)]) (st := []) (n := 1) (d' := 0) (Q1 := Q5) pc11 ok_X11_hold ml_X11_431 im_X11_hold se_X11_hold dX11_operand_151 (ob_68 hst) (pargs_of rfl) rfl (Nat.le_of_ble_eq_true rfl) (by omega) (f5 c1 c4 c11) (fun r5 τ5 e5 q5 w5 => ?_)
        obtain rfl : r5 = none := w5
        have S5 : Stat τ5 := (Stat.le (σ := σ) hst e5)
        show pR mX11_operand d 154 [(2, 68), (0, x1), (0, x2), (0, x3), (0, x4)] [] τ5 Q
        refine pGo (s_aload_n dX11_operand_154 rfl (by decide)) ?_
        refine p_callV (As := []) (st := []) (n := 0) (d' := 1) (Q1 := Q6) pc11 ok_X11_next ml_X11_319 im_X11_next se_X11_next dX11_operand_155 (ob_68 S5) (pargs_of rfl) rfl (Nat.le_of_ble_eq_true rfl) (by omega) (f6 c1 c4 c11 τ5 e5 q5) (fun r6 τ6 e6 q6 w6 => ?_)
        obtain rfl : r6 = none := w6
        have S6 : Stat τ6 := (Stat.le (σ := τ5) S5 e6)
        show pR mX11_operand d 158 [(2, 68), (0, x1), (0, x2), (0, x3), (0, x4)] [] τ6 Q
        refine pGo (s_iconst dX11_operand_158) ?_
        exact pEnd (r := (some (0, 0))) dX11_operand_159 ⟨_, rfl⟩ (k5 c1 c4 c11 τ5 e5 q5 τ6 e6 q6)
      · refine pGo (s_bipush dX11_operand_144 (by decide)) ?_
        refine pGo (s_goto (tgt := 151) dX11_operand_146 (by decide)) ?_
        refine p_callV (As := [(0, 28)]) (st := []) (n := 1) (d' := 0) (Q1 := Q7) pc11 ok_X11_hold ml_X11_431 im_X11_hold se_X11_hold dX11_operand_151 (ob_68 hst) (pargs_of rfl) rfl (Nat.le_of_ble_eq_true rfl) (by omega) (f7 c1 c4 c12) (fun r7 τ7 e7 q7 w7 => ?_)
        obtain rfl : r7 = none := w7
        have S7 : Stat τ7 := (Stat.le (σ := σ) hst e7)
        show pR mX11_operand d 154 [(2, 68), (0, x1), (0, x2), (0, x3), (0, x4)] [] τ7 Q
        refine pGo (s_aload_n dX11_operand_154 rfl (by decide)) ?_
        refine p_callV (As := []) (st := []) (n := 0) (d' := 1) (Q1 := Q8) pc11 ok_X11_next ml_X11_319 im_X11_next se_X11_next dX11_operand_155 (ob_68 S7) (pargs_of rfl) rfl (Nat.le_of_ble_eq_true rfl) (by omega) (f8 c1 c4 c12 τ7 e7 q7) (fun r8 τ8 e8 q8 w8 => ?_)
        obtain rfl : r8 = none := w8
        have S8 : Stat τ8 := (Stat.le (σ := τ7) S7 e8)
        show pR mX11_operand d 158 [(2, 68), (0, x1), (0, x2), (0, x3), (0, x4)] [] τ8 Q
        refine pGo (s_iconst dX11_operand_158) ?_
        exact pEnd (r := (some (0, 0))) dX11_operand_159 ⟨_, rfl⟩ (k6 c1 c4 c12 τ7 e7 q7 τ8 e8 q8)
  · refine pGo (s_iload_n dX11_operand_127 rfl) ?_
    exact pEnd (r := (some (0, x1))) dX11_operand_128 ⟨_, rfl⟩ (k7 c2)
set_option maxRecDepth 100000 in
theorem g_X11_sign_0 {d : Nat} {σ : pS} {Q : Option pV → pS → Prop} (hd : 3 ≤ d) (hst : Stat σ) (x1 : Int)  (g1 : inR x1) (k1 : ∀ (c1 : x1 = 5), pR mX11_sign d 64 [(2, 68), (0, x1), (9, 0)] [] σ Q) (g2 : ∀ (c2 : x1 ≠ 5), inR (rd σ 68 6)) (k2 : ∀ (c2 : x1 ≠ 5) (c3 : (rd σ 68 6) = 43), pR mX11_sign d 23 [(2, 68), (0, x1), (9, 0)] [] σ Q) (k3 : ∀ (c2 : x1 ≠ 5) (c4 : (rd σ 68 6) ≠ 43) (c5 : (rd σ 68 6) ≠ 45), pR mX11_sign d 64 [(2, 68), (0, x1), (9, 0)] [] σ Q) (k4 : ∀ (c2 : x1 ≠ 5) (c4 : (rd σ 68 6) ≠ 43) (c6 : (rd σ 68 6) = 45), pR mX11_sign d 23 [(2, 68), (0, x1), (9, 0)] [] σ Q) : pC mX11_sign d [(2, 68), (0, x1)] σ Q := by
  show pR mX11_sign d 0 [(2, 68), (0, x1), (9, 0)] [] σ Q
  refine pGo (s_iload_n dX11_sign_0 rfl) ?_
  refine pGo (s_iconst dX11_sign_1) ?_
  refine p_iceq (tgt := 64) dX11_sign_2 (by decide) g1 (by decide) (fun c1 => ?_) (fun c2 => ?_)
  · exact (k1 c1)
  · refine pGo (s_aload_n dX11_sign_5 rfl (by decide)) ?_
    refine pGoE (y := (rd σ 68 6)) (s_getI pc11 fl_X11_260 dX11_sign_6 (ob_68 hst) rfl (by decide)) rfl ?_
    refine pGo (s_bipush dX11_sign_9 (by decide)) ?_
    refine p_iceq (tgt := 23) dX11_sign_11 (by decide) (g2 c2) (by decide) (fun c3 => ?_) (fun c4 => ?_)
    · exact (k2 c2 c3)
    · refine pGo (s_aload_n dX11_sign_14 rfl (by decide)) ?_
      refine pGoE (y := (rd σ 68 6)) (s_getI pc11 fl_X11_260 dX11_sign_15 (ob_68 hst) rfl (by decide)) rfl ?_
      refine pGo (s_bipush dX11_sign_18 (by decide)) ?_
      refine p_icne (tgt := 64) dX11_sign_20 (by decide) (g2 c2) (by decide) (fun c5 => ?_) (fun c6 => ?_)
      · exact (k3 c2 c4 c5)
      · exact (k4 c2 c4 c6)
set_option maxRecDepth 100000 in
theorem g_X11_sign_23 {d : Nat} {σ : pS} {Q : Option pV → pS → Prop} {Q1 : Option pV → pS → Prop} {Q2 : Option pV → pS → Prop} {Q3 : Option pV → pS → Prop} {Q4 : Option pV → pS → Prop} {Q5 : Option pV → pS → Prop} (hd : 3 ≤ d) (hst : Stat σ) (x1 : Int) (u2 : pV) (hu2 : u2.1 ≠ 1) (f1 : pC mX11_settle 2 [(2, 68), (0, 26)] σ Q1) (g1 : ∀ (τ1 : pS) (e1 : pLe σ τ1) (q1 : Q1 none τ1), inR (rd τ1 68 6)) (f2 : ∀ (τ1 : pS) (e1 : pLe σ τ1) (q1 : Q1 none τ1) (c1 : (rd τ1 68 6) ≠ 43), pC mX11_hold 0 [(2, 68), (0, 27)] τ1 Q2) (f3 : ∀ (τ1 : pS) (e1 : pLe σ τ1) (q1 : Q1 none τ1) (c1 : (rd τ1 68 6) ≠ 43) (τ2 : pS) (e2 : pLe τ1 τ2) (q2 : Q2 none τ2), pC mX11_next 1 [(2, 68)] τ2 Q3) (g2 : ∀ (τ1 : pS) (e1 : pLe σ τ1) (q1 : Q1 none τ1) (c1 : (rd τ1 68 6) ≠ 43) (τ2 : pS) (e2 : pLe τ1 τ2) (q2 : Q2 none τ2) (τ3 : pS) (e3 : pLe τ2 τ3) (q3 : Q3 none τ3), inR x1) (k1 : ∀ (τ1 : pS) (e1 : pLe σ τ1) (q1 : Q1 none τ1) (c1 : (rd τ1 68 6) ≠ 43) (τ2 : pS) (e2 : pLe τ1 τ2) (q2 : Q2 none τ2) (τ3 : pS) (e3 : pLe τ2 τ3) (q3 : Q3 none τ3) (c3 : x1 ≠ 3), Q (some (0, 2)) τ3) (k2 : ∀ (τ1 : pS) (e1 : pLe σ τ1) (q1 : Q1 none τ1) (c1 : (rd τ1 68 6) ≠ 43) (τ2 : pS) (e2 : pLe τ1 τ2) (q2 : Q2 none τ2) (τ3 : pS) (e3 : pLe τ2 τ3) (q3 : Q3 none τ3) (c4 : x1 = 3), Q (some (0, 1)) τ3) (f4 : ∀ (τ1 : pS) (e1 : pLe σ τ1) (q1 : Q1 none τ1) (c2 : (rd τ1 68 6) = 43), pC mX11_hold 0 [(2, 68), (0, 26)] τ1 Q4) (f5 : ∀ (τ1 : pS) (e1 : pLe σ τ1) (q1 : Q1 none τ1) (c2 : (rd τ1 68 6) = 43) (τ4 : pS) (e4 : pLe τ1 τ4) (q4 : Q4 none τ4), pC mX11_next 1 [(2, 68)] τ4 Q5) (g3 : ∀ (τ1 : pS) (e1 : pLe σ τ1) (q1 : Q1 none τ1) (c2 : (rd τ1 68 6) = 43) (τ4 : pS) (e4 : pLe τ1 τ4) (q4 : Q4 none τ4) (τ5 : pS) (e5 : pLe τ4 τ5) (q5 : Q5 none τ5), inR x1) (k3 : ∀ (τ1 : pS) (e1 : pLe σ τ1) (q1 : Q1 none τ1) (c2 : (rd τ1 68 6) = 43) (τ4 : pS) (e4 : pLe τ1 τ4) (q4 : Q4 none τ4) (τ5 : pS) (e5 : pLe τ4 τ5) (q5 : Q5 none τ5) (c5 : x1 ≠ 3), Q (some (0, 2)) τ5) (k4 : ∀ (τ1 : pS) (e1 : pLe σ τ1) (q1 : Q1 none τ1) (c2 : (rd τ1 68 6) = 43) (τ4 : pS) (e4 : pLe τ1 τ4) (q4 : Q4 none τ4) (τ5 : pS) (e5 : pLe τ4 τ5) (q5 : Q5 none τ5) (c6 : x1 = 3), Q (some (0, 1)) τ5) : pR mX11_sign d 23 [(2, 68), (0, x1), u2] [] σ Q := by
  refine pGo (s_aload_n dX11_sign_23 rfl (by decide)) ?_
  refine pGo (s_bipush dX11_sign_24 (by decide)) ?_
  refine p_callV (As := [(0, 26)]) (st := []) (n := 1) (d' := 2) (Q1 := Q1) pc11 ok_X11_settle ml_X11_419 im_X11_settle se_X11_settle dX11_sign_26 (ob_68 hst) (pargs_of rfl) rfl (Nat.le_of_ble_eq_true rfl) (by omega) f1 (fun r1 τ1 e1 q1 w1 => ?_)
  obtain rfl : r1 = none := w1
  have S1 : Stat τ1 := (Stat.le (σ := σ) hst e1)
  show pR mX11_sign d 29 [(2, 68), (0, x1), u2] [] τ1 Q
  refine pGo (s_aload_n dX11_sign_29 rfl (by decide)) ?_
  refine pGo (s_aload_n dX11_sign_30 rfl (by decide)) ?_
  refine pGoE (y := (rd τ1 68 6)) (s_getI pc11 fl_X11_260 dX11_sign_31 (ob_68 S1) rfl (by decide)) rfl ?_
  refine pGo (s_bipush dX11_sign_34 (by decide)) ?_
  refine p_icne (tgt := 44) dX11_sign_36 (by decide) (g1 τ1 e1 q1) (by decide) (fun c1 => ?_) (fun c2 => ?_)
  · refine pGo (s_bipush dX11_sign_44 (by decide)) ?_
    refine p_callV (As := [(0, 27)]) (st := []) (n := 1) (d' := 0) (Q1 := Q2) pc11 ok_X11_hold ml_X11_431 im_X11_hold se_X11_hold dX11_sign_46 (ob_68 S1) (pargs_of rfl) rfl (Nat.le_of_ble_eq_true rfl) (by omega) (f2 τ1 e1 q1 c1) (fun r2 τ2 e2 q2 w2 => ?_)
    obtain rfl : r2 = none := w2
    have S2 : Stat τ2 := (Stat.le (σ := τ1) S1 e2)
    show pR mX11_sign d 49 [(2, 68), (0, x1), u2] [] τ2 Q
    refine pGo (s_aload_n dX11_sign_49 rfl (by decide)) ?_
    refine p_callV (As := []) (st := []) (n := 0) (d' := 1) (Q1 := Q3) pc11 ok_X11_next ml_X11_319 im_X11_next se_X11_next dX11_sign_50 (ob_68 S2) (pargs_of rfl) rfl (Nat.le_of_ble_eq_true rfl) (by omega) (f3 τ1 e1 q1 c1 τ2 e2 q2) (fun r3 τ3 e3 q3 w3 => ?_)
    obtain rfl : r3 = none := w3
    have S3 : Stat τ3 := (Stat.le (σ := τ2) S2 e3)
    show pR mX11_sign d 53 [(2, 68), (0, x1), u2] [] τ3 Q
    refine pGo (s_iload_n dX11_sign_53 rfl) ?_
    refine pGo (s_iconst dX11_sign_54) ?_
    refine p_icne (tgt := 62) dX11_sign_55 (by decide) (g2 τ1 e1 q1 c1 τ2 e2 q2 τ3 e3 q3) (by decide) (fun c3 => ?_) (fun c4 => ?_)
    · refine pGo (s_iconst dX11_sign_62) ?_
      exact pEnd (r := (some (0, 2))) dX11_sign_63 ⟨_, rfl⟩ (k1 τ1 e1 q1 c1 τ2 e2 q2 τ3 e3 q3 c3)
    · refine pGo (s_iconst dX11_sign_58) ?_
      refine pGo (s_goto (tgt := 63) dX11_sign_59 (by decide)) ?_
      exact pEnd (r := (some (0, 1))) dX11_sign_63 ⟨_, rfl⟩ (k2 τ1 e1 q1 c1 τ2 e2 q2 τ3 e3 q3 c4)
  · refine pGo (s_bipush dX11_sign_39 (by decide)) ?_
    refine pGo (s_goto (tgt := 46) dX11_sign_41 (by decide)) ?_
    refine p_callV (As := [(0, 26)]) (st := []) (n := 1) (d' := 0) (Q1 := Q4) pc11 ok_X11_hold ml_X11_431 im_X11_hold se_X11_hold dX11_sign_46 (ob_68 S1) (pargs_of rfl) rfl (Nat.le_of_ble_eq_true rfl) (by omega) (f4 τ1 e1 q1 c2) (fun r4 τ4 e4 q4 w4 => ?_)
    obtain rfl : r4 = none := w4
    have S4 : Stat τ4 := (Stat.le (σ := τ1) S1 e4)
    show pR mX11_sign d 49 [(2, 68), (0, x1), u2] [] τ4 Q
    refine pGo (s_aload_n dX11_sign_49 rfl (by decide)) ?_
    refine p_callV (As := []) (st := []) (n := 0) (d' := 1) (Q1 := Q5) pc11 ok_X11_next ml_X11_319 im_X11_next se_X11_next dX11_sign_50 (ob_68 S4) (pargs_of rfl) rfl (Nat.le_of_ble_eq_true rfl) (by omega) (f5 τ1 e1 q1 c2 τ4 e4 q4) (fun r5 τ5 e5 q5 w5 => ?_)
    obtain rfl : r5 = none := w5
    have S5 : Stat τ5 := (Stat.le (σ := τ4) S4 e5)
    show pR mX11_sign d 53 [(2, 68), (0, x1), u2] [] τ5 Q
    refine pGo (s_iload_n dX11_sign_53 rfl) ?_
    refine pGo (s_iconst dX11_sign_54) ?_
    refine p_icne (tgt := 62) dX11_sign_55 (by decide) (g3 τ1 e1 q1 c2 τ4 e4 q4 τ5 e5 q5) (by decide) (fun c5 => ?_) (fun c6 => ?_)
    · refine pGo (s_iconst dX11_sign_62) ?_
      exact pEnd (r := (some (0, 2))) dX11_sign_63 ⟨_, rfl⟩ (k3 τ1 e1 q1 c2 τ4 e4 q4 τ5 e5 q5 c5)
    · refine pGo (s_iconst dX11_sign_58) ?_
      refine pGo (s_goto (tgt := 63) dX11_sign_59 (by decide)) ?_
      exact pEnd (r := (some (0, 1))) dX11_sign_63 ⟨_, rfl⟩ (k4 τ1 e1 q1 c2 τ4 e4 q4 τ5 e5 q5 c6)
set_option maxRecDepth 100000 in
theorem g_X11_sign_64 {d : Nat} {σ : pS} {Q : Option pV → pS → Prop} (hd : 3 ≤ d) (hst : Stat σ) (x1 : Int) (u2 : pV) (hu2 : u2.1 ≠ 1) (g1 : inR x1) (k1 : ∀ (c1 : x1 ≠ 3), pR mX11_sign d 142 [(2, 68), (0, x1), u2] [] σ Q) (g2 : ∀ (c2 : x1 = 3), inR (rd σ 68 6)) (k2 : ∀ (c2 : x1 = 3) (c3 : (rd σ 68 6) = 61), pR mX11_sign d 96 [(2, 68), (0, x1), u2] [] σ Q) (k3 : ∀ (c2 : x1 = 3) (c4 : (rd σ 68 6) ≠ 61) (c5 : (rd σ 68 6) = 60), pR mX11_sign d 96 [(2, 68), (0, x1), u2] [] σ Q) (k4 : ∀ (c2 : x1 = 3) (c4 : (rd σ 68 6) ≠ 61) (c6 : (rd σ 68 6) ≠ 60) (c7 : (rd σ 68 6) ≠ 62), pR mX11_sign d 142 [(2, 68), (0, x1), u2] [] σ Q) (k5 : ∀ (c2 : x1 = 3) (c4 : (rd σ 68 6) ≠ 61) (c6 : (rd σ 68 6) ≠ 60) (c8 : (rd σ 68 6) = 62), pR mX11_sign d 96 [(2, 68), (0, x1), u2] [] σ Q) : pR mX11_sign d 64 [(2, 68), (0, x1), u2] [] σ Q := by
  refine pGo (s_iload_n dX11_sign_64 rfl) ?_
  refine pGo (s_iconst dX11_sign_65) ?_
  refine p_icne (tgt := 142) dX11_sign_66 (by decide) g1 (by decide) (fun c1 => ?_) (fun c2 => ?_)
  · exact (k1 c1)
  · refine pGo (s_aload_n dX11_sign_69 rfl (by decide)) ?_
    refine pGoE (y := (rd σ 68 6)) (s_getI pc11 fl_X11_260 dX11_sign_70 (ob_68 hst) rfl (by decide)) rfl ?_
    refine pGo (s_bipush dX11_sign_73 (by decide)) ?_
    refine p_iceq (tgt := 96) dX11_sign_75 (by decide) (g2 c2) (by decide) (fun c3 => ?_) (fun c4 => ?_)
    · exact (k2 c2 c3)
    · refine pGo (s_aload_n dX11_sign_78 rfl (by decide)) ?_
      refine pGoE (y := (rd σ 68 6)) (s_getI pc11 fl_X11_260 dX11_sign_79 (ob_68 hst) rfl (by decide)) rfl ?_
      refine pGo (s_bipush dX11_sign_82 (by decide)) ?_
      refine p_iceq (tgt := 96) dX11_sign_84 (by decide) (g2 c2) (by decide) (fun c5 => ?_) (fun c6 => ?_)
      · exact (k3 c2 c4 c5)
      · refine pGo (s_aload_n dX11_sign_87 rfl (by decide)) ?_
        refine pGoE (y := (rd σ 68 6)) (s_getI pc11 fl_X11_260 dX11_sign_88 (ob_68 hst) rfl (by decide)) rfl ?_
        refine pGo (s_bipush dX11_sign_91 (by decide)) ?_
        refine p_icne (tgt := 142) dX11_sign_93 (by decide) (g2 c2) (by decide) (fun c7 => ?_) (fun c8 => ?_)
        · exact (k4 c2 c4 c6 c7)
        · exact (k5 c2 c4 c6 c8)
set_option maxRecDepth 100000 in
theorem g_X11_sign_96 {d : Nat} {σ : pS} {Q : Option pV → pS → Prop} {Q1 : Option pV → pS → Prop} {Q2 : Option pV → pS → Prop} {Q3 : Option pV → pS → Prop} {Q4 : Option pV → pS → Prop} {Q5 : Option pV → pS → Prop} {Q6 : Option pV → pS → Prop} {Q7 : Option pV → pS → Prop} (hd : 3 ≤ d) (hst : Stat σ) (x1 : Int) (u2 : pV) (hu2 : u2.1 ≠ 1) (f1 : pC mX11_settle 2 [(2, 68), (0, 26)] σ Q1) (g1 : ∀ (τ1 : pS) (e1 : pLe σ τ1) (q1 : Q1 none τ1), inR (rd τ1 68 6)) (f2 : ∀ (τ1 : pS) (e1 : pLe σ τ1) (q1 : Q1 none τ1) (c1 : (rd τ1 68 6) ≠ 61) (c3 : (rd τ1 68 6) ≠ 60), pC mX11_hold 0 [(2, 68), (0, 25)] τ1 Q2) (f3 : ∀ (τ1 : pS) (e1 : pLe σ τ1) (q1 : Q1 none τ1) (c1 : (rd τ1 68 6) ≠ 61) (c3 : (rd τ1 68 6) ≠ 60) (τ2 : pS) (e2 : pLe τ1 τ2) (q2 : Q2 none τ2), pC mX11_next 1 [(2, 68)] τ2 Q3) (k1 : ∀ (τ1 : pS) (e1 : pLe σ τ1) (q1 : Q1 none τ1) (c1 : (rd τ1 68 6) ≠ 61) (c3 : (rd τ1 68 6) ≠ 60) (τ2 : pS) (e2 : pLe τ1 τ2) (q2 : Q2 none τ2) (τ3 : pS) (e3 : pLe τ2 τ3) (q3 : Q3 none τ3), Q (some (0, 2)) τ3) (f4 : ∀ (τ1 : pS) (e1 : pLe σ τ1) (q1 : Q1 none τ1) (c1 : (rd τ1 68 6) ≠ 61) (c4 : (rd τ1 68 6) = 60), pC mX11_hold 0 [(2, 68), (0, 24)] τ1 Q4) (f5 : ∀ (τ1 : pS) (e1 : pLe σ τ1) (q1 : Q1 none τ1) (c1 : (rd τ1 68 6) ≠ 61) (c4 : (rd τ1 68 6) = 60) (τ4 : pS) (e4 : pLe τ1 τ4) (q4 : Q4 none τ4), pC mX11_next 1 [(2, 68)] τ4 Q5) (k2 : ∀ (τ1 : pS) (e1 : pLe σ τ1) (q1 : Q1 none τ1) (c1 : (rd τ1 68 6) ≠ 61) (c4 : (rd τ1 68 6) = 60) (τ4 : pS) (e4 : pLe τ1 τ4) (q4 : Q4 none τ4) (τ5 : pS) (e5 : pLe τ4 τ5) (q5 : Q5 none τ5), Q (some (0, 2)) τ5) (f6 : ∀ (τ1 : pS) (e1 : pLe σ τ1) (q1 : Q1 none τ1) (c2 : (rd τ1 68 6) = 61), pC mX11_hold 0 [(2, 68), (0, 23)] τ1 Q6) (f7 : ∀ (τ1 : pS) (e1 : pLe σ τ1) (q1 : Q1 none τ1) (c2 : (rd τ1 68 6) = 61) (τ6 : pS) (e6 : pLe τ1 τ6) (q6 : Q6 none τ6), pC mX11_next 1 [(2, 68)] τ6 Q7) (k3 : ∀ (τ1 : pS) (e1 : pLe σ τ1) (q1 : Q1 none τ1) (c2 : (rd τ1 68 6) = 61) (τ6 : pS) (e6 : pLe τ1 τ6) (q6 : Q6 none τ6) (τ7 : pS) (e7 : pLe τ6 τ7) (q7 : Q7 none τ7), Q (some (0, 2)) τ7) : pR mX11_sign d 96 [(2, 68), (0, x1), u2] [] σ Q := by
  refine pGo (s_aload_n dX11_sign_96 rfl (by decide)) ?_
  refine pGo (s_bipush dX11_sign_97 (by decide)) ?_
  refine p_callV (As := [(0, 26)]) (st := []) (n := 1) (d' := 2) (Q1 := Q1) pc11 ok_X11_settle ml_X11_419 im_X11_settle se_X11_settle dX11_sign_99 (ob_68 hst) (pargs_of rfl) rfl (Nat.le_of_ble_eq_true rfl) (by omega) f1 (fun r1 τ1 e1 q1 w1 => ?_)
  obtain rfl : r1 = none := w1
  have S1 : Stat τ1 := (Stat.le (σ := σ) hst e1)
  show pR mX11_sign d 102 [(2, 68), (0, x1), u2] [] τ1 Q
  refine pGo (s_aload_n dX11_sign_102 rfl (by decide)) ?_
  refine pGo (s_aload_n dX11_sign_103 rfl (by decide)) ?_
  refine pGoE (y := (rd τ1 68 6)) (s_getI pc11 fl_X11_260 dX11_sign_104 (ob_68 S1) rfl (by decide)) rfl ?_
  refine pGo (s_bipush dX11_sign_107 (by decide)) ?_
  refine p_icne (tgt := 117) dX11_sign_109 (by decide) (g1 τ1 e1 q1) (by decide) (fun c1 => ?_) (fun c2 => ?_)
  · refine pGo (s_aload_n dX11_sign_117 rfl (by decide)) ?_
    refine pGoE (y := (rd τ1 68 6)) (s_getI pc11 fl_X11_260 dX11_sign_118 (ob_68 S1) rfl (by decide)) rfl ?_
    refine pGo (s_bipush dX11_sign_121 (by decide)) ?_
    refine p_icne (tgt := 131) dX11_sign_123 (by decide) (g1 τ1 e1 q1) (by decide) (fun c3 => ?_) (fun c4 => ?_)
    · refine pGo (s_bipush dX11_sign_131 (by decide)) ?_
      refine p_callV (As := [(0, 25)]) (st := []) (n := 1) (d' := 0) (Q1 := Q2) pc11 ok_X11_hold ml_X11_431 im_X11_hold se_X11_hold dX11_sign_133 (ob_68 S1) (pargs_of rfl) rfl (Nat.le_of_ble_eq_true rfl) (by omega) (f2 τ1 e1 q1 c1 c3) (fun r2 τ2 e2 q2 w2 => ?_)
      obtain rfl : r2 = none := w2
      have S2 : Stat τ2 := (Stat.le (σ := τ1) S1 e2)
      show pR mX11_sign d 136 [(2, 68), (0, x1), u2] [] τ2 Q
      refine pGo (s_aload_n dX11_sign_136 rfl (by decide)) ?_
      refine p_callV (As := []) (st := []) (n := 0) (d' := 1) (Q1 := Q3) pc11 ok_X11_next ml_X11_319 im_X11_next se_X11_next dX11_sign_137 (ob_68 S2) (pargs_of rfl) rfl (Nat.le_of_ble_eq_true rfl) (by omega) (f3 τ1 e1 q1 c1 c3 τ2 e2 q2) (fun r3 τ3 e3 q3 w3 => ?_)
      obtain rfl : r3 = none := w3
      have S3 : Stat τ3 := (Stat.le (σ := τ2) S2 e3)
      show pR mX11_sign d 140 [(2, 68), (0, x1), u2] [] τ3 Q
      refine pGo (s_iconst dX11_sign_140) ?_
      exact pEnd (r := (some (0, 2))) dX11_sign_141 ⟨_, rfl⟩ (k1 τ1 e1 q1 c1 c3 τ2 e2 q2 τ3 e3 q3)
    · refine pGo (s_bipush dX11_sign_126 (by decide)) ?_
      refine pGo (s_goto (tgt := 133) dX11_sign_128 (by decide)) ?_
      refine p_callV (As := [(0, 24)]) (st := []) (n := 1) (d' := 0) (Q1 := Q4) pc11 ok_X11_hold ml_X11_431 im_X11_hold se_X11_hold dX11_sign_133 (ob_68 S1) (pargs_of rfl) rfl (Nat.le_of_ble_eq_true rfl) (by omega) (f4 τ1 e1 q1 c1 c4) (fun r4 τ4 e4 q4 w4 => ?_)
      obtain rfl : r4 = none := w4
      have S4 : Stat τ4 := (Stat.le (σ := τ1) S1 e4)
      show pR mX11_sign d 136 [(2, 68), (0, x1), u2] [] τ4 Q
      refine pGo (s_aload_n dX11_sign_136 rfl (by decide)) ?_
      refine p_callV (As := []) (st := []) (n := 0) (d' := 1) (Q1 := Q5) pc11 ok_X11_next ml_X11_319 im_X11_next se_X11_next dX11_sign_137 (ob_68 S4) (pargs_of rfl) rfl (Nat.le_of_ble_eq_true rfl) (by omega) (f5 τ1 e1 q1 c1 c4 τ4 e4 q4) (fun r5 τ5 e5 q5 w5 => ?_)
      obtain rfl : r5 = none := w5
      have S5 : Stat τ5 := (Stat.le (σ := τ4) S4 e5)
      show pR mX11_sign d 140 [(2, 68), (0, x1), u2] [] τ5 Q
      refine pGo (s_iconst dX11_sign_140) ?_
      exact pEnd (r := (some (0, 2))) dX11_sign_141 ⟨_, rfl⟩ (k2 τ1 e1 q1 c1 c4 τ4 e4 q4 τ5 e5 q5)
  · refine pGo (s_bipush dX11_sign_112 (by decide)) ?_
    refine pGo (s_goto (tgt := 133) dX11_sign_114 (by decide)) ?_
    refine p_callV (As := [(0, 23)]) (st := []) (n := 1) (d' := 0) (Q1 := Q6) pc11 ok_X11_hold ml_X11_431 im_X11_hold se_X11_hold dX11_sign_133 (ob_68 S1) (pargs_of rfl) rfl (Nat.le_of_ble_eq_true rfl) (by omega) (f6 τ1 e1 q1 c2) (fun r6 τ6 e6 q6 w6 => ?_)
    obtain rfl : r6 = none := w6
    have S6 : Stat τ6 := (Stat.le (σ := τ1) S1 e6)
    show pR mX11_sign d 136 [(2, 68), (0, x1), u2] [] τ6 Q
    refine pGo (s_aload_n dX11_sign_136 rfl (by decide)) ?_
    refine p_callV (As := []) (st := []) (n := 0) (d' := 1) (Q1 := Q7) pc11 ok_X11_next ml_X11_319 im_X11_next se_X11_next dX11_sign_137 (ob_68 S6) (pargs_of rfl) rfl (Nat.le_of_ble_eq_true rfl) (by omega) (f7 τ1 e1 q1 c2 τ6 e6 q6) (fun r7 τ7 e7 q7 w7 => ?_)
    obtain rfl : r7 = none := w7
    have S7 : Stat τ7 := (Stat.le (σ := τ6) S6 e7)
    show pR mX11_sign d 140 [(2, 68), (0, x1), u2] [] τ7 Q
    refine pGo (s_iconst dX11_sign_140) ?_
    exact pEnd (r := (some (0, 2))) dX11_sign_141 ⟨_, rfl⟩ (k3 τ1 e1 q1 c2 τ6 e6 q6 τ7 e7 q7)
set_option maxRecDepth 100000 in
theorem g_X11_sign_142 {d : Nat} {σ : pS} {Q : Option pV → pS → Prop} (hd : 3 ≤ d) (hst : Stat σ) (x1 : Int) (u2 : pV) (hu2 : u2.1 ≠ 1) (g1 : inR x1) (k1 : ∀ (c1 : x1 = 3), pR mX11_sign d 201 [(2, 68), (0, x1), u2] [] σ Q) (f1 : ∀ (c2 : x1 ≠ 3), pC mX11_isWord 0 [(2, 68), (1, 6385252)] σ (fun r τ => r = some (0, b2i (vIsW σ 6385252)) ∧ τ = σ)) (k2 : ∀ (c2 : x1 ≠ 3) (c3 : (vIsW σ 6385252) = true), pR mX11_sign d 167 [(2, 68), (0, x1), u2] [] σ Q) (f2 : ∀ (c2 : x1 ≠ 3) (c4 : (vIsW σ 6385252) = false), pC mX11_isWord 0 [(2, 68), (1, 28530)] σ (fun r τ => r = some (0, b2i (vIsW σ 28530)) ∧ τ = σ)) (k3 : ∀ (c2 : x1 ≠ 3) (c4 : (vIsW σ 6385252) = false) (c5 : (vIsW σ 28530) = false), pR mX11_sign d 201 [(2, 68), (0, x1), u2] [] σ Q) (k4 : ∀ (c2 : x1 ≠ 3) (c4 : (vIsW σ 6385252) = false) (c6 : (vIsW σ 28530) = true), pR mX11_sign d 167 [(2, 68), (0, x1), u2] [] σ Q) : pR mX11_sign d 142 [(2, 68), (0, x1), u2] [] σ Q := by
  refine pGo (s_iload_n dX11_sign_142 rfl) ?_
  refine pGo (s_iconst dX11_sign_143) ?_
  refine p_iceq (tgt := 201) dX11_sign_144 (by decide) g1 (by decide) (fun c1 => ?_) (fun c2 => ?_)
  · exact (k1 c1)
  · refine pGo (s_aload_n dX11_sign_147 rfl (by decide)) ?_
    refine pGo (s_ldc2 (n := 6385252) dX11_sign_148 kl_X11_302 (by decide)) ?_
    refine p_callV (As := [(1, 6385252)]) (st := []) (n := 1) (d' := 0) (Q1 := (fun r τ => r = some (0, b2i (vIsW σ 6385252)) ∧ τ = σ)) pc11 ok_X11_isWord ml_X11_312 im_X11_isWord se_X11_isWord dX11_sign_151 (ob_68 hst) (pargs_of rfl) rfl (Nat.le_of_ble_eq_true rfl) (by omega) (f1 c2) (fun r1 τ1 e1 q1 w1 => ?_)
    obtain ⟨rfl, t1⟩ := q1
    rw [t1]
    show pR mX11_sign d 154 [(2, 68), (0, x1), u2] [(0, (b2i (vIsW σ 6385252)))] σ Q
    refine p_ifneB (tgt := 167) dX11_sign_154 (by decide) (fun c3 => ?_) (fun c4 => ?_)
    · exact (k2 c2 c3)
    · refine pGo (s_aload_n dX11_sign_157 rfl (by decide)) ?_
      refine pGo (s_ldc2 (n := 28530) dX11_sign_158 kl_X11_300 (by decide)) ?_
      refine p_callV (As := [(1, 28530)]) (st := []) (n := 1) (d' := 0) (Q1 := (fun r τ => r = some (0, b2i (vIsW σ 28530)) ∧ τ = σ)) pc11 ok_X11_isWord ml_X11_312 im_X11_isWord se_X11_isWord dX11_sign_161 (ob_68 hst) (pargs_of rfl) rfl (Nat.le_of_ble_eq_true rfl) (by omega) (f2 c2 c4) (fun r2 τ2 e2 q2 w2 => ?_)
      obtain ⟨rfl, t2⟩ := q2
      rw [t2]
      show pR mX11_sign d 164 [(2, 68), (0, x1), u2] [(0, (b2i (vIsW σ 28530)))] σ Q
      refine p_ifeqB (tgt := 201) dX11_sign_164 (by decide) (fun c5 => ?_) (fun c6 => ?_)
      · exact (k3 c2 c4 c5)
      · exact (k4 c2 c4 c6)
set_option maxRecDepth 100000 in
theorem g_X11_sign_167 {d : Nat} {σ : pS} {Q : Option pV → pS → Prop} {Q1 : Option pV → pS → Prop} {Q2 : Option pV → pS → Prop} {Q3 : Option pV → pS → Prop} {Q4 : Option pV → pS → Prop} {Q5 : Option pV → pS → Prop} (hd : 3 ≤ d) (hst : Stat σ) (x1 : Int) (u2 : pV) (hu2 : u2.1 ≠ 1) (f1 : pC mX11_isWord 0 [(2, 68), (1, 6385252)] σ (fun r τ => r = some (0, b2i (vIsW σ 6385252)) ∧ τ = σ)) (f2 : pC mX11_settleOnes 2 [(2, 68), (0, (b2i (vIsW σ 6385252)))] σ Q1) (f3 : ∀ (τ2 : pS) (e2 : pLe σ τ2) (q2 : Q1 none τ2) (c1 : (vIsW σ 6385252) = false), pC mX11_hold 0 [(2, 68), (0, 21)] τ2 Q2) (f4 : ∀ (τ2 : pS) (e2 : pLe σ τ2) (q2 : Q1 none τ2) (c1 : (vIsW σ 6385252) = false) (τ3 : pS) (e3 : pLe τ2 τ3) (q3 : Q2 none τ3), pC mX11_next 1 [(2, 68)] τ3 Q3) (k1 : ∀ (τ2 : pS) (e2 : pLe σ τ2) (q2 : Q1 none τ2) (c1 : (vIsW σ 6385252) = false) (τ3 : pS) (e3 : pLe τ2 τ3) (q3 : Q2 none τ3) (τ4 : pS) (e4 : pLe τ3 τ4) (q4 : Q3 none τ4), Q (some (0, 0)) τ4) (f5 : ∀ (τ2 : pS) (e2 : pLe σ τ2) (q2 : Q1 none τ2) (c2 : (vIsW σ 6385252) = true), pC mX11_hold 0 [(2, 68), (0, 22)] τ2 Q4) (f6 : ∀ (τ2 : pS) (e2 : pLe σ τ2) (q2 : Q1 none τ2) (c2 : (vIsW σ 6385252) = true) (τ5 : pS) (e5 : pLe τ2 τ5) (q5 : Q4 none τ5), pC mX11_next 1 [(2, 68)] τ5 Q5) (k2 : ∀ (τ2 : pS) (e2 : pLe σ τ2) (q2 : Q1 none τ2) (c2 : (vIsW σ 6385252) = true) (τ5 : pS) (e5 : pLe τ2 τ5) (q5 : Q4 none τ5) (τ6 : pS) (e6 : pLe τ5 τ6) (q6 : Q5 none τ6), Q (some (0, 0)) τ6) : pR mX11_sign d 167 [(2, 68), (0, x1), u2] [] σ Q := by
  refine pGo (s_aload_n dX11_sign_167 rfl (by decide)) ?_
  refine pGo (s_ldc2 (n := 6385252) dX11_sign_168 kl_X11_302 (by decide)) ?_
  refine p_callV (As := [(1, 6385252)]) (st := []) (n := 1) (d' := 0) (Q1 := (fun r τ => r = some (0, b2i (vIsW σ 6385252)) ∧ τ = σ)) pc11 ok_X11_isWord ml_X11_312 im_X11_isWord se_X11_isWord dX11_sign_171 (ob_68 hst) (pargs_of rfl) rfl (Nat.le_of_ble_eq_true rfl) (by omega) f1 (fun r1 τ1 e1 q1 w1 => ?_)
  obtain ⟨rfl, t1⟩ := q1
  rw [t1]
  show pR mX11_sign d 174 [(2, 68), (0, x1), u2] [(0, (b2i (vIsW σ 6385252)))] σ Q
  refine pGoL (ls2 := [(2, 68), (0, x1), (0, (b2i (vIsW σ 6385252)))]) (s_istore_n dX11_sign_174 (by decide) rfl) rfl ?_
  refine pGo (s_aload_n dX11_sign_175 rfl (by decide)) ?_
  refine pGo (s_iload_n dX11_sign_176 rfl) ?_
  refine p_callV (As := [(0, (b2i (vIsW σ 6385252)))]) (st := []) (n := 1) (d' := 2) (Q1 := Q1) pc11 ok_X11_settleOnes ml_X11_434 im_X11_settleOnes se_X11_settleOnes dX11_sign_177 (ob_68 hst) (pargs_of rfl) rfl (Nat.le_of_ble_eq_true rfl) (by omega) f2 (fun r2 τ2 e2 q2 w2 => ?_)
  obtain rfl : r2 = none := w2
  have S2 : Stat τ2 := (Stat.le (σ := σ) hst e2)
  show pR mX11_sign d 180 [(2, 68), (0, x1), (0, (b2i (vIsW σ 6385252)))] [] τ2 Q
  refine pGo (s_aload_n dX11_sign_180 rfl (by decide)) ?_
  refine pGo (s_iload_n dX11_sign_181 rfl) ?_
  refine p_ifeqB (tgt := 190) dX11_sign_182 (by decide) (fun c1 => ?_) (fun c2 => ?_)
  · refine pGo (s_bipush dX11_sign_190 (by decide)) ?_
    refine p_callV (As := [(0, 21)]) (st := []) (n := 1) (d' := 0) (Q1 := Q2) pc11 ok_X11_hold ml_X11_431 im_X11_hold se_X11_hold dX11_sign_192 (ob_68 S2) (pargs_of rfl) rfl (Nat.le_of_ble_eq_true rfl) (by omega) (f3 τ2 e2 q2 c1) (fun r3 τ3 e3 q3 w3 => ?_)
    obtain rfl : r3 = none := w3
    have S3 : Stat τ3 := (Stat.le (σ := τ2) S2 e3)
    show pR mX11_sign d 195 [(2, 68), (0, x1), (0, (b2i (vIsW σ 6385252)))] [] τ3 Q
    refine pGo (s_aload_n dX11_sign_195 rfl (by decide)) ?_
    refine p_callV (As := []) (st := []) (n := 0) (d' := 1) (Q1 := Q3) pc11 ok_X11_next ml_X11_319 im_X11_next se_X11_next dX11_sign_196 (ob_68 S3) (pargs_of rfl) rfl (Nat.le_of_ble_eq_true rfl) (by omega) (f4 τ2 e2 q2 c1 τ3 e3 q3) (fun r4 τ4 e4 q4 w4 => ?_)
    obtain rfl : r4 = none := w4
    have S4 : Stat τ4 := (Stat.le (σ := τ3) S3 e4)
    show pR mX11_sign d 199 [(2, 68), (0, x1), (0, (b2i (vIsW σ 6385252)))] [] τ4 Q
    refine pGo (s_iconst dX11_sign_199) ?_
    exact pEnd (r := (some (0, 0))) dX11_sign_200 ⟨_, rfl⟩ (k1 τ2 e2 q2 c1 τ3 e3 q3 τ4 e4 q4)
  · refine pGo (s_bipush dX11_sign_185 (by decide)) ?_
    refine pGo (s_goto (tgt := 192) dX11_sign_187 (by decide)) ?_
    refine p_callV (As := [(0, 22)]) (st := []) (n := 1) (d' := 0) (Q1 := Q4) pc11 ok_X11_hold ml_X11_431 im_X11_hold se_X11_hold dX11_sign_192 (ob_68 S2) (pargs_of rfl) rfl (Nat.le_of_ble_eq_true rfl) (by omega) (f5 τ2 e2 q2 c2) (fun r5 τ5 e5 q5 w5 => ?_)
    obtain rfl : r5 = none := w5
    have S5 : Stat τ5 := (Stat.le (σ := τ2) S2 e5)
    show pR mX11_sign d 195 [(2, 68), (0, x1), (0, (b2i (vIsW σ 6385252)))] [] τ5 Q
    refine pGo (s_aload_n dX11_sign_195 rfl (by decide)) ?_
    refine p_callV (As := []) (st := []) (n := 0) (d' := 1) (Q1 := Q5) pc11 ok_X11_next ml_X11_319 im_X11_next se_X11_next dX11_sign_196 (ob_68 S5) (pargs_of rfl) rfl (Nat.le_of_ble_eq_true rfl) (by omega) (f6 τ2 e2 q2 c2 τ5 e5 q5) (fun r6 τ6 e6 q6 w6 => ?_)
    obtain rfl : r6 = none := w6
    have S6 : Stat τ6 := (Stat.le (σ := τ5) S5 e6)
    show pR mX11_sign d 199 [(2, 68), (0, x1), (0, (b2i (vIsW σ 6385252)))] [] τ6 Q
    refine pGo (s_iconst dX11_sign_199) ?_
    exact pEnd (r := (some (0, 0))) dX11_sign_200 ⟨_, rfl⟩ (k2 τ2 e2 q2 c2 τ5 e5 q5 τ6 e6 q6)
set_option maxRecDepth 100000 in
theorem g_X11_sign_201 {d : Nat} {σ : pS} {Q : Option pV → pS → Prop} {Q1 : Option pV → pS → Prop} {Q2 : Option pV → pS → Prop} (hd : 3 ≤ d) (hst : Stat σ) (x1 : Int) (u2 : pV) (hu2 : u2.1 ≠ 1) (g1 : inR x1) (k1 : ∀ (c1 : x1 = 3), pR mX11_sign d 253 [(2, 68), (0, x1), u2] [] σ Q) (g2 : ∀ (c2 : x1 ≠ 3), inR (rd σ 68 6)) (k2 : ∀ (c2 : x1 ≠ 3) (c3 : (rd σ 68 6) ≠ 41), pR mX11_sign d 253 [(2, 68), (0, x1), u2] [] σ Q) (f1 : ∀ (c2 : x1 ≠ 3) (c4 : (rd σ 68 6) = 41), pC mX11_isOpen 0 [(2, 68)] σ (fun r τ => r = some (0, b2i (vIsO σ)) ∧ τ = σ)) (k3 : ∀ (c2 : x1 ≠ 3) (c4 : (rd σ 68 6) = 41) (c5 : (vIsO σ) = false), pR mX11_sign d 253 [(2, 68), (0, x1), u2] [] σ Q) (f2 : ∀ (c2 : x1 ≠ 3) (c4 : (rd σ 68 6) = 41) (c6 : (vIsO σ) = true), pC mX11_settle 2 [(2, 68), (0, 0)] σ Q1) (f3 : ∀ (c2 : x1 ≠ 3) (c4 : (rd σ 68 6) = 41) (c6 : (vIsO σ) = true) (τ2 : pS) (e2 : pLe σ τ2) (q2 : Q1 none τ2), pC mX11_next 1 [(2, 68)] (wr (wr τ2 68 48 ((rd τ2 68 48) - 1)) 68 49 ((rd τ2 68 49) - 1)) Q2) (k4 : ∀ (c2 : x1 ≠ 3) (c4 : (rd σ 68 6) = 41) (c6 : (vIsO σ) = true) (τ2 : pS) (e2 : pLe σ τ2) (q2 : Q1 none τ2) (τ3 : pS) (e3 : pLe (wr (wr τ2 68 48 ((rd τ2 68 48) - 1)) 68 49 ((rd τ2 68 49) - 1)) τ3) (q3 : Q2 none τ3), Q (some (0, 5)) τ3) : pR mX11_sign d 201 [(2, 68), (0, x1), u2] [] σ Q := by
  refine pGo (s_iload_n dX11_sign_201 rfl) ?_
  refine pGo (s_iconst dX11_sign_202) ?_
  refine p_iceq (tgt := 253) dX11_sign_203 (by decide) g1 (by decide) (fun c1 => ?_) (fun c2 => ?_)
  · exact (k1 c1)
  · refine pGo (s_aload_n dX11_sign_206 rfl (by decide)) ?_
    refine pGoE (y := (rd σ 68 6)) (s_getI pc11 fl_X11_260 dX11_sign_207 (ob_68 hst) rfl (by decide)) rfl ?_
    refine pGo (s_bipush dX11_sign_210 (by decide)) ?_
    refine p_icne (tgt := 253) dX11_sign_212 (by decide) (g2 c2) (by decide) (fun c3 => ?_) (fun c4 => ?_)
    · exact (k2 c2 c3)
    · refine pGo (s_aload_n dX11_sign_215 rfl (by decide)) ?_
      refine p_callV (As := []) (st := []) (n := 0) (d' := 0) (Q1 := (fun r τ => r = some (0, b2i (vIsO σ)) ∧ τ = σ)) pc11 ok_X11_isOpen ml_X11_410 im_X11_isOpen se_X11_isOpen dX11_sign_216 (ob_68 hst) (pargs_of rfl) rfl (Nat.le_of_ble_eq_true rfl) (by omega) (f1 c2 c4) (fun r1 τ1 e1 q1 w1 => ?_)
      obtain ⟨rfl, t1⟩ := q1
      rw [t1]
      show pR mX11_sign d 219 [(2, 68), (0, x1), u2] [(0, (b2i (vIsO σ)))] σ Q
      refine p_ifeqB (tgt := 253) dX11_sign_219 (by decide) (fun c5 => ?_) (fun c6 => ?_)
      · exact (k3 c2 c4 c5)
      · refine pGo (s_aload_n dX11_sign_222 rfl (by decide)) ?_
        refine pGo (s_iconst dX11_sign_223) ?_
        refine p_callV (As := [(0, 0)]) (st := []) (n := 1) (d' := 2) (Q1 := Q1) pc11 ok_X11_settle ml_X11_419 im_X11_settle se_X11_settle dX11_sign_224 (ob_68 hst) (pargs_of rfl) rfl (Nat.le_of_ble_eq_true rfl) (by omega) (f2 c2 c4 c6) (fun r2 τ2 e2 q2 w2 => ?_)
        obtain rfl : r2 = none := w2
        have S2 : Stat τ2 := (Stat.le (σ := σ) hst e2)
        show pR mX11_sign d 227 [(2, 68), (0, x1), u2] [] τ2 Q
        refine pGo (s_aload_n dX11_sign_227 rfl (by decide)) ?_
        refine pGo (s_dup dX11_sign_228 (by decide)) ?_
        refine pGoE (y := (rd τ2 68 48)) (s_getI pc11 fl_X11_393 dX11_sign_229 (ob_68 S2) rfl (by decide)) rfl ?_
        refine pGo (s_iconst dX11_sign_232) ?_
        refine pGo (s_isub dX11_sign_233) ?_
        refine pGo (s_putI pc11 fl_X11_393 dX11_sign_234 (ob_68 S2) rfl rfl rfl rfl) ?_
        refine pGo (s_aload_n dX11_sign_237 rfl (by decide)) ?_
        refine pGo (s_dup dX11_sign_238 (by decide)) ?_
        refine pGoE (y := (rd τ2 68 49)) (s_getI pc11 fl_X11_396 dX11_sign_239 (ob_68 S2) rfl (by decide)) (rd_wr_i _ (by decide)) ?_
        refine pGo (s_iconst dX11_sign_242) ?_
        refine pGo (s_isub dX11_sign_243) ?_
        refine pGo (s_putI pc11 fl_X11_396 dX11_sign_244 (ob_68 S2) rfl rfl rfl rfl) ?_
        refine pGo (s_aload_n dX11_sign_247 rfl (by decide)) ?_
        refine p_callV (As := []) (st := []) (n := 0) (d' := 1) (Q1 := Q2) pc11 ok_X11_next ml_X11_319 im_X11_next se_X11_next dX11_sign_248 (ob_68 S2) (pargs_of rfl) rfl (Nat.le_of_ble_eq_true rfl) (by omega) (f3 c2 c4 c6 τ2 e2 q2) (fun r3 τ3 e3 q3 w3 => ?_)
        obtain rfl : r3 = none := w3
        have S3 : Stat τ3 := (Stat.le (σ := (wr (wr τ2 68 48 ((rd τ2 68 48) - 1)) 68 49 ((rd τ2 68 49) - 1))) S2 e3)
        show pR mX11_sign d 251 [(2, 68), (0, x1), u2] [] τ3 Q
        refine pGo (s_iconst dX11_sign_251) ?_
        exact pEnd (r := (some (0, 5))) dX11_sign_252 ⟨_, rfl⟩ (k4 c2 c4 c6 τ2 e2 q2 τ3 e3 q3)
set_option maxRecDepth 100000 in
theorem g_X11_sign_253 {d : Nat} {σ : pS} {Q : Option pV → pS → Prop} {Q1 : Option pV → pS → Prop} (hd : 3 ≤ d) (hst : Stat σ) (x1 : Int) (u2 : pV) (hu2 : u2.1 ≠ 1) (f1 : pC mX11_wrong 0 [(2, 68), (0, 2)] σ Q1) (k1 : ∀ (τ1 : pS) (e1 : pLe σ τ1) (q1 : Q1 none τ1), Q (some (0, x1)) τ1) : pR mX11_sign d 253 [(2, 68), (0, x1), u2] [] σ Q := by
  refine pGo (s_aload_n dX11_sign_253 rfl (by decide)) ?_
  refine pGo (s_iconst dX11_sign_254) ?_
  refine p_callV (As := [(0, 2)]) (st := []) (n := 1) (d' := 0) (Q1 := Q1) pc11 ok_X11_wrong ml_X11_316 im_X11_wrong se_X11_wrong dX11_sign_255 (ob_68 hst) (pargs_of rfl) rfl (Nat.le_of_ble_eq_true rfl) (by omega) f1 (fun r1 τ1 e1 q1 w1 => ?_)
  obtain rfl : r1 = none := w1
  have S1 : Stat τ1 := (Stat.le (σ := σ) hst e1)
  show pR mX11_sign d 258 [(2, 68), (0, x1), u2] [] τ1 Q
  refine pGo (s_iload_n dX11_sign_258 rfl) ?_
  exact pEnd (r := (some (0, x1))) dX11_sign_259 ⟨_, rfl⟩ (k1 τ1 e1 q1)
set_option maxRecDepth 100000 in
theorem g_X11_readE_0 {d : Nat} {σ : pS} {Q : Option pV → pS → Prop} (hd : 4 ≤ d) (hst : Stat σ)   (k1 : pR mX11_readE d 14 [(2, 68), (0, 0), (0, 1), (9, 0)] [] (wr (wr σ 68 48 0) 68 49 0) Q) : pC mX11_readE d [(2, 68)] σ Q := by
  show pR mX11_readE d 0 [(2, 68), (9, 0), (9, 0), (9, 0)] [] σ Q
  refine pGo (s_aload_n dX11_readE_0 rfl (by decide)) ?_
  refine pGo (s_iconst dX11_readE_1) ?_
  refine pGo (s_putI pc11 fl_X11_393 dX11_readE_2 (ob_68 hst) rfl rfl rfl rfl) ?_
  refine pGo (s_aload_n dX11_readE_5 rfl (by decide)) ?_
  refine pGo (s_iconst dX11_readE_6) ?_
  refine pGo (s_putI pc11 fl_X11_396 dX11_readE_7 (ob_68 hst) rfl rfl rfl rfl) ?_
  refine pGo (s_iconst dX11_readE_10) ?_
  refine pGoL (ls2 := [(2, 68), (0, 0), (9, 0), (9, 0)]) (s_istore_n dX11_readE_11 (by decide) rfl) rfl ?_
  refine pGo (s_iconst dX11_readE_12) ?_
  refine pGoL (ls2 := [(2, 68), (0, 0), (0, 1), (9, 0)]) (s_istore_n dX11_readE_13 (by decide) rfl) rfl ?_
  exact k1
set_option maxRecDepth 100000 in
theorem g_X11_readE_14 {d : Nat} {σ : pS} {Q : Option pV → pS → Prop} (hd : 4 ≤ d) (hst : Stat σ) (x1 : Int) (x2 : Int) (u3 : pV) (hu3 : u3.1 ≠ 1) (g1 : inR (rd σ 68 2)) (k1 : ∀ (c1 : (rd σ 68 2) ≠ 0), pR mX11_readE d 100 [(2, 68), (0, x1), (0, x2), u3] [] σ Q) (g2 : ∀ (c2 : (rd σ 68 2) = 0), inR x2) (k2 : ∀ (c2 : (rd σ 68 2) = 0) (c3 : x2 = 0), pR mX11_readE d 100 [(2, 68), (0, x1), (0, x2), u3] [] σ Q) (g3 : ∀ (c2 : (rd σ 68 2) = 0) (c4 : x2 ≠ 0), inR x1) (k3 : ∀ (c2 : (rd σ 68 2) = 0) (c4 : x2 ≠ 0) (c5 : x1 = 4), pR mX11_readE d 41 [(2, 68), (0, x1), (0, x2), (0, 1)] [] σ Q) (k4 : ∀ (c2 : (rd σ 68 2) = 0) (c4 : x2 ≠ 0) (c6 : x1 ≠ 4) (c7 : x1 ≠ 5), pR mX11_readE d 41 [(2, 68), (0, x1), (0, x2), (0, 0)] [] σ Q) (k5 : ∀ (c2 : (rd σ 68 2) = 0) (c4 : x2 ≠ 0) (c6 : x1 ≠ 4) (c8 : x1 = 5), pR mX11_readE d 41 [(2, 68), (0, x1), (0, x2), (0, 1)] [] σ Q) : pR mX11_readE d 14 [(2, 68), (0, x1), (0, x2), u3] [] σ Q := by
  refine pGo (s_aload_n dX11_readE_14 rfl (by decide)) ?_
  refine pGoE (y := (rd σ 68 2)) (s_getI pc11 fl_X11_273 dX11_readE_15 (ob_68 hst) rfl (by decide)) rfl ?_
  refine p_ifne (tgt := 100) dX11_readE_18 (by decide) g1 (fun c1 => ?_) (fun c2 => ?_)
  · exact (k1 c1)
  · refine pGo (s_iload_n dX11_readE_21 rfl) ?_
    refine p_ifeq (tgt := 100) dX11_readE_22 (by decide) (g2 c2) (fun c3 => ?_) (fun c4 => ?_)
    · exact (k2 c2 c3)
    · refine pGo (s_iload_n dX11_readE_25 rfl) ?_
      refine pGo (s_iconst dX11_readE_26) ?_
      refine p_iceq (tgt := 35) dX11_readE_27 (by decide) (g3 c2 c4) (by decide) (fun c5 => ?_) (fun c6 => ?_)
      · refine pGo (s_iconst dX11_readE_35) ?_
        refine pGo (s_goto (tgt := 40) dX11_readE_36 (by decide)) ?_
        refine pGoL (ls2 := [(2, 68), (0, x1), (0, x2), (0, 1)]) (s_istore_n dX11_readE_40 (by decide) rfl) rfl ?_
        exact (k3 c2 c4 c5)
      · refine pGo (s_iload_n dX11_readE_30 rfl) ?_
        refine pGo (s_iconst dX11_readE_31) ?_
        refine p_icne (tgt := 39) dX11_readE_32 (by decide) (g3 c2 c4) (by decide) (fun c7 => ?_) (fun c8 => ?_)
        · refine pGo (s_iconst dX11_readE_39) ?_
          refine pGoL (ls2 := [(2, 68), (0, x1), (0, x2), (0, 0)]) (s_istore_n dX11_readE_40 (by decide) rfl) rfl ?_
          exact (k4 c2 c4 c6 c7)
        · refine pGo (s_iconst dX11_readE_35) ?_
          refine pGo (s_goto (tgt := 40) dX11_readE_36 (by decide)) ?_
          refine pGoL (ls2 := [(2, 68), (0, x1), (0, x2), (0, 1)]) (s_istore_n dX11_readE_40 (by decide) rfl) rfl ?_
          exact (k5 c2 c4 c6 c8)
set_option maxRecDepth 100000 in
theorem g_X11_readE_41 {d : Nat} {σ : pS} {Q : Option pV → pS → Prop} (hd : 4 ≤ d) (hst : Stat σ) (x1 : Int) (x2 : Int) (x3 : Int)  (g1 : inR x3) (k1 : ∀ (c1 : x3 = 0), pR mX11_readE d 67 [(2, 68), (0, x1), (0, 1), (0, x3)] [] σ Q) (g2 : ∀ (c2 : x3 ≠ 0), inR (rd σ 68 6)) (k2 : ∀ (c2 : x3 ≠ 0) (c3 : (rd σ 68 6) ≠ 59), pR mX11_readE d 67 [(2, 68), (0, x1), (0, 1), (0, x3)] [] σ Q) (f1 : ∀ (c2 : x3 ≠ 0) (c4 : (rd σ 68 6) = 59), pC mX11_isOpen 0 [(2, 68)] σ (fun r τ => r = some (0, b2i (vIsO σ)) ∧ τ = σ)) (k3 : ∀ (c2 : x3 ≠ 0) (c4 : (rd σ 68 6) = 59) (c5 : (vIsO σ) = false), pR mX11_readE d 67 [(2, 68), (0, x1), (0, 0), (0, x3)] [] σ Q) (k4 : ∀ (c2 : x3 ≠ 0) (c4 : (rd σ 68 6) = 59) (c6 : (vIsO σ) = true), pR mX11_readE d 67 [(2, 68), (0, x1), (0, 1), (0, x3)] [] σ Q) : pR mX11_readE d 41 [(2, 68), (0, x1), (0, x2), (0, x3)] [] σ Q := by
  refine pGo (s_iload_n dX11_readE_41 rfl) ?_
  refine p_ifeq (tgt := 61) dX11_readE_42 (by decide) g1 (fun c1 => ?_) (fun c2 => ?_)
  · refine pGo (s_iconst dX11_readE_61) ?_
    refine pGo (s_goto (tgt := 66) dX11_readE_62 (by decide)) ?_
    refine pGoL (ls2 := [(2, 68), (0, x1), (0, 1), (0, x3)]) (s_istore_n dX11_readE_66 (by decide) rfl) rfl ?_
    exact (k1 c1)
  · refine pGo (s_aload_n dX11_readE_45 rfl (by decide)) ?_
    refine pGoE (y := (rd σ 68 6)) (s_getI pc11 fl_X11_260 dX11_readE_46 (ob_68 hst) rfl (by decide)) rfl ?_
    refine pGo (s_bipush dX11_readE_49 (by decide)) ?_
    refine p_icne (tgt := 61) dX11_readE_51 (by decide) (g2 c2) (by decide) (fun c3 => ?_) (fun c4 => ?_)
    · refine pGo (s_iconst dX11_readE_61) ?_
      refine pGo (s_goto (tgt := 66) dX11_readE_62 (by decide)) ?_
      refine pGoL (ls2 := [(2, 68), (0, x1), (0, 1), (0, x3)]) (s_istore_n dX11_readE_66 (by decide) rfl) rfl ?_
      exact (k2 c2 c3)
    · refine pGo (s_aload_n dX11_readE_54 rfl (by decide)) ?_
      refine p_callV (As := []) (st := []) (n := 0) (d' := 0) (Q1 := (fun r τ => r = some (0, b2i (vIsO σ)) ∧ τ = σ)) pc11 ok_X11_isOpen ml_X11_410 im_X11_isOpen se_X11_isOpen dX11_readE_55 (ob_68 hst) (pargs_of rfl) rfl (Nat.le_of_ble_eq_true rfl) (by omega) (f1 c2 c4) (fun r1 τ1 e1 q1 w1 => ?_)
      obtain ⟨rfl, t1⟩ := q1
      rw [t1]
      show pR mX11_readE d 58 [(2, 68), (0, x1), (0, x2), (0, x3)] [(0, (b2i (vIsO σ)))] σ Q
      refine p_ifeqB (tgt := 65) dX11_readE_58 (by decide) (fun c5 => ?_) (fun c6 => ?_)
      · refine pGo (s_iconst dX11_readE_65) ?_
        refine pGoL (ls2 := [(2, 68), (0, x1), (0, 0), (0, x3)]) (s_istore_n dX11_readE_66 (by decide) rfl) rfl ?_
        exact (k3 c2 c4 c5)
      · refine pGo (s_iconst dX11_readE_61) ?_
        refine pGo (s_goto (tgt := 66) dX11_readE_62 (by decide)) ?_
        refine pGoL (ls2 := [(2, 68), (0, x1), (0, 1), (0, x3)]) (s_istore_n dX11_readE_66 (by decide) rfl) rfl ?_
        exact (k4 c2 c4 c6)
set_option maxRecDepth 100000 in
theorem g_X11_readE_67 {d : Nat} {σ : pS} {Q : Option pV → pS → Prop} {Q1 : Option pV → pS → Prop} {Q2 : Option pV → pS → Prop} {Q3 : Option pV → pS → Prop} (hd : 4 ≤ d) (hst : Stat σ) (x1 : Int) (x2 : Int) (x3 : Int)  (g1 : inR x2) (g2 : ∀ (c1 : x2 ≠ 0), inR x1) (f1 : ∀ (c1 : x2 ≠ 0) (c3 : x1 = 3), pC mX11_sign 3 [(2, 68), (0, x1)] σ Q1) (k1 : ∀ (c1 : x2 ≠ 0) (c3 : x1 = 3) (v1 : Int) (τ1 : pS) (e1 : pLe σ τ1) (q1 : Q1 (some (0, v1)) τ1), pR mX11_readE d 14 [(2, 68), (0, v1), (0, x2), (0, x3)] [] τ1 Q) (g3 : ∀ (c1 : x2 ≠ 0) (c4 : x1 ≠ 3), inR x3) (f2 : ∀ (c1 : x2 ≠ 0) (c4 : x1 ≠ 3) (c5 : x3 = 0), pC mX11_operand 2 [(2, 68), (0, x1)] σ Q2) (k2 : ∀ (c1 : x2 ≠ 0) (c4 : x1 ≠ 3) (c5 : x3 = 0) (v2 : Int) (τ2 : pS) (e2 : pLe σ τ2) (q2 : Q2 (some (0, v2)) τ2), pR mX11_readE d 14 [(2, 68), (0, v2), (0, x2), (0, x3)] [] τ2 Q) (f3 : ∀ (c1 : x2 ≠ 0) (c4 : x1 ≠ 3) (c6 : x3 ≠ 0), pC mX11_sign 3 [(2, 68), (0, x1)] σ Q3) (k3 : ∀ (c1 : x2 ≠ 0) (c4 : x1 ≠ 3) (c6 : x3 ≠ 0) (v3 : Int) (τ3 : pS) (e3 : pLe σ τ3) (q3 : Q3 (some (0, v3)) τ3), pR mX11_readE d 14 [(2, 68), (0, v3), (0, x2), (0, x3)] [] τ3 Q) (k4 : ∀ (c2 : x2 = 0), pR mX11_readE d 14 [(2, 68), (0, x1), (0, x2), (0, x3)] [] σ Q) : pR mX11_readE d 67 [(2, 68), (0, x1), (0, x2), (0, x3)] [] σ Q := by
  refine pGo (s_iload_n dX11_readE_67 rfl) ?_
  refine p_ifne (tgt := 74) dX11_readE_68 (by decide) g1 (fun c1 => ?_) (fun c2 => ?_)
  · refine pGo (s_iload_n dX11_readE_74 rfl) ?_
    refine pGo (s_iconst dX11_readE_75) ?_
    refine p_iceq (tgt := 83) dX11_readE_76 (by decide) (g2 c1) (by decide) (fun c3 => ?_) (fun c4 => ?_)
    · refine pGo (s_aload_n dX11_readE_83 rfl (by decide)) ?_
      refine pGo (s_iload_n dX11_readE_84 rfl) ?_
      refine p_callV (As := [(0, x1)]) (st := []) (n := 1) (d' := 3) (Q1 := Q1) pc11 ok_X11_sign ml_X11_413 im_X11_sign se_X11_sign dX11_readE_85 (ob_68 hst) (pargs_of rfl) rfl (Nat.le_of_ble_eq_true rfl) (by omega) (f1 c1 c3) (fun r1 τ1 e1 q1 w1 => ?_)
      obtain ⟨v1, rfl⟩ := w1
      have S1 : Stat τ1 := (Stat.le (σ := σ) hst e1)
      show pR mX11_readE d 88 [(2, 68), (0, x1), (0, x2), (0, x3)] [(0, v1)] τ1 Q
      refine pGo (s_goto (tgt := 96) dX11_readE_88 (by decide)) ?_
      refine pGoL (ls2 := [(2, 68), (0, v1), (0, x2), (0, x3)]) (s_istore_n dX11_readE_96 (by decide) rfl) rfl ?_
      refine pGo (s_goto (tgt := 14) dX11_readE_97 (by decide)) ?_
      exact (k1 c1 c3 v1 τ1 e1 q1)
    · refine pGo (s_iload_n dX11_readE_79 rfl) ?_
      refine p_ifeq (tgt := 91) dX11_readE_80 (by decide) (g3 c1 c4) (fun c5 => ?_) (fun c6 => ?_)
      · refine pGo (s_aload_n dX11_readE_91 rfl (by decide)) ?_
        refine pGo (s_iload_n dX11_readE_92 rfl) ?_
        refine p_callV (As := [(0, x1)]) (st := []) (n := 1) (d' := 2) (Q1 := Q2) pc11 ok_X11_operand ml_X11_416 im_X11_operand se_X11_operand dX11_readE_93 (ob_68 hst) (pargs_of rfl) rfl (Nat.le_of_ble_eq_true rfl) (by omega) (f2 c1 c4 c5) (fun r2 τ2 e2 q2 w2 => ?_)
        obtain ⟨v2, rfl⟩ := w2
        have S2 : Stat τ2 := (Stat.le (σ := σ) hst e2)
        show pR mX11_readE d 96 [(2, 68), (0, x1), (0, x2), (0, x3)] [(0, v2)] τ2 Q
        refine pGoL (ls2 := [(2, 68), (0, v2), (0, x2), (0, x3)]) (s_istore_n dX11_readE_96 (by decide) rfl) rfl ?_
        refine pGo (s_goto (tgt := 14) dX11_readE_97 (by decide)) ?_
        exact (k2 c1 c4 c5 v2 τ2 e2 q2)
      · refine pGo (s_aload_n dX11_readE_83 rfl (by decide)) ?_
        refine pGo (s_iload_n dX11_readE_84 rfl) ?_
        refine p_callV (As := [(0, x1)]) (st := []) (n := 1) (d' := 3) (Q1 := Q3) pc11 ok_X11_sign ml_X11_413 im_X11_sign se_X11_sign dX11_readE_85 (ob_68 hst) (pargs_of rfl) rfl (Nat.le_of_ble_eq_true rfl) (by omega) (f3 c1 c4 c6) (fun r3 τ3 e3 q3 w3 => ?_)
        obtain ⟨v3, rfl⟩ := w3
        have S3 : Stat τ3 := (Stat.le (σ := σ) hst e3)
        show pR mX11_readE d 88 [(2, 68), (0, x1), (0, x2), (0, x3)] [(0, v3)] τ3 Q
        refine pGo (s_goto (tgt := 96) dX11_readE_88 (by decide)) ?_
        refine pGoL (ls2 := [(2, 68), (0, v3), (0, x2), (0, x3)]) (s_istore_n dX11_readE_96 (by decide) rfl) rfl ?_
        refine pGo (s_goto (tgt := 14) dX11_readE_97 (by decide)) ?_
        exact (k3 c1 c4 c6 v3 τ3 e3 q3)
  · refine pGo (s_goto (tgt := 14) dX11_readE_71 (by decide)) ?_
    exact (k4 c2)
set_option maxRecDepth 100000 in
theorem g_X11_readE_100 {d : Nat} {σ : pS} {Q : Option pV → pS → Prop} {Q1 : Option pV → pS → Prop} (hd : 4 ≤ d) (hst : Stat σ) (x1 : Int) (x2 : Int) (u3 : pV) (hu3 : u3.1 ≠ 1) (g1 : inR (rd σ 68 2)) (k1 : ∀ (c1 : (rd σ 68 2) ≠ 0), Q none σ) (f1 : ∀ (c2 : (rd σ 68 2) = 0), pC mX11_settle 2 [(2, 68), (0, 0)] σ Q1) (k2 : ∀ (c2 : (rd σ 68 2) = 0) (τ1 : pS) (e1 : pLe σ τ1) (q1 : Q1 none τ1), Q none τ1) : pR mX11_readE d 100 [(2, 68), (0, x1), (0, x2), u3] [] σ Q := by
  refine pGo (s_aload_n dX11_readE_100 rfl (by decide)) ?_
  refine pGoE (y := (rd σ 68 2)) (s_getI pc11 fl_X11_273 dX11_readE_101 (ob_68 hst) rfl (by decide)) rfl ?_
  refine p_ifne (tgt := 112) dX11_readE_104 (by decide) g1 (fun c1 => ?_) (fun c2 => ?_)
  · exact pEnd (r := none) dX11_readE_112 rfl (k1 c1)
  · refine pGo (s_aload_n dX11_readE_107 rfl (by decide)) ?_
    refine pGo (s_iconst dX11_readE_108) ?_
    refine p_callV (As := [(0, 0)]) (st := []) (n := 1) (d' := 2) (Q1 := Q1) pc11 ok_X11_settle ml_X11_419 im_X11_settle se_X11_settle dX11_readE_109 (ob_68 hst) (pargs_of rfl) rfl (Nat.le_of_ble_eq_true rfl) (by omega) (f1 c2) (fun r1 τ1 e1 q1 w1 => ?_)
    obtain rfl : r1 = none := w1
    have S1 : Stat τ1 := (Stat.le (σ := σ) hst e1)
    show pR mX11_readE d 112 [(2, 68), (0, x1), (0, x2), u3] [] τ1 Q
    exact pEnd (r := none) dX11_readE_112 rfl (k2 c2 τ1 e1 q1)
set_option maxRecDepth 100000 in
theorem g_X11_readShut_0 {d : Nat} {σ : pS} {Q : Option pV → pS → Prop} {Q1 : Option pV → pS → Prop} (hd : 5 ≤ d) (hst : Stat σ)   (f1 : pC mX11_wantWord 2 [(2, 68), (1, 1936225652)] σ Q1) (g1 : ∀ (τ1 : pS) (e1 : pLe σ τ1) (q1 : Q1 none τ1), inR (rd τ1 68 2)) (f2 : ∀ (τ1 : pS) (e1 : pLe σ τ1) (q1 : Q1 none τ1) (c1 : (rd τ1 68 2) ≤ 0), pC mX11_isWord 0 [(2, 68), (1, 1818846836)] τ1 (fun r τ => r = some (0, b2i (vIsW τ1 1818846836)) ∧ τ = τ1)) (f3 : ∀ (τ1 : pS) (e1 : pLe σ τ1) (q1 : Q1 none τ1) (c1 : (rd τ1 68 2) ≤ 0) (c3 : (vIsW τ1 1818846836) = false), pC mX11_isWord 0 [(2, 68), (1, 7501166)] τ1 (fun r τ => r = some (0, b2i (vIsW τ1 7501166)) ∧ τ = τ1)) (k1 : ∀ (τ1 : pS) (e1 : pLe σ τ1) (q1 : Q1 none τ1) (c1 : (rd τ1 68 2) ≤ 0) (c3 : (vIsW τ1 1818846836) = false) (c5 : (vIsW τ1 7501166) = false), pR mX11_readShut d 45 [(2, 68), (0, (-1))] [] τ1 Q) (k2 : ∀ (τ1 : pS) (e1 : pLe σ τ1) (q1 : Q1 none τ1) (c1 : (rd τ1 68 2) ≤ 0) (c3 : (vIsW τ1 1818846836) = false) (c6 : (vIsW τ1 7501166) = true), pR mX11_readShut d 45 [(2, 68), (0, 1)] [] τ1 Q) (k3 : ∀ (τ1 : pS) (e1 : pLe σ τ1) (q1 : Q1 none τ1) (c1 : (rd τ1 68 2) ≤ 0) (c4 : (vIsW τ1 1818846836) = true), pR mX11_readShut d 45 [(2, 68), (0, 0)] [] τ1 Q) (k4 : ∀ (τ1 : pS) (e1 : pLe σ τ1) (q1 : Q1 none τ1) (c2 : 0 < (rd τ1 68 2)), Q none τ1) : pC mX11_readShut d [(2, 68)] σ Q := by
  show pR mX11_readShut d 0 [(2, 68), (9, 0)] [] σ Q
  refine pGo (s_aload_n dX11_readShut_0 rfl (by decide)) ?_
  refine pGo (s_ldc2 (n := 1936225652) dX11_readShut_1 kl_X11_296 (by decide)) ?_
  refine p_callV (As := [(1, 1936225652)]) (st := []) (n := 1) (d' := 2) (Q1 := Q1) pc11 ok_X11_wantWord ml_X11_338 im_X11_wantWord se_X11_wantWord dX11_readShut_4 (ob_68 hst) (pargs_of rfl) rfl (Nat.le_of_ble_eq_true rfl) (by omega) f1 (fun r1 τ1 e1 q1 w1 => ?_)
  obtain rfl : r1 = none := w1
  have S1 : Stat τ1 := (Stat.le (σ := σ) hst e1)
  show pR mX11_readShut d 7 [(2, 68), (9, 0)] [] τ1 Q
  refine pGo (s_aload_n dX11_readShut_7 rfl (by decide)) ?_
  refine pGoE (y := (rd τ1 68 2)) (s_getI pc11 fl_X11_273 dX11_readShut_8 (ob_68 S1) rfl (by decide)) rfl ?_
  refine p_ifle (tgt := 15) dX11_readShut_11 (by decide) (g1 τ1 e1 q1) (fun c1 => ?_) (fun c2 => ?_)
  · refine pGo (s_aload_n dX11_readShut_15 rfl (by decide)) ?_
    refine pGo (s_ldc2 (n := 1818846836) dX11_readShut_16 kl_X11_276 (by decide)) ?_
    refine p_callV (As := [(1, 1818846836)]) (st := []) (n := 1) (d' := 0) (Q1 := (fun r τ => r = some (0, b2i (vIsW τ1 1818846836)) ∧ τ = τ1)) pc11 ok_X11_isWord ml_X11_312 im_X11_isWord se_X11_isWord dX11_readShut_19 (ob_68 S1) (pargs_of rfl) rfl (Nat.le_of_ble_eq_true rfl) (by omega) (f2 τ1 e1 q1 c1) (fun r2 τ2 e2 q2 w2 => ?_)
    obtain ⟨rfl, t2⟩ := q2
    rw [t2]
    show pR mX11_readShut d 22 [(2, 68), (9, 0)] [(0, (b2i (vIsW τ1 1818846836)))] τ1 Q
    refine p_ifeqB (tgt := 29) dX11_readShut_22 (by decide) (fun c3 => ?_) (fun c4 => ?_)
    · refine pGo (s_aload_n dX11_readShut_29 rfl (by decide)) ?_
      refine pGo (s_ldc2 (n := 7501166) dX11_readShut_30 kl_X11_278 (by decide)) ?_
      refine p_callV (As := [(1, 7501166)]) (st := []) (n := 1) (d' := 0) (Q1 := (fun r τ => r = some (0, b2i (vIsW τ1 7501166)) ∧ τ = τ1)) pc11 ok_X11_isWord ml_X11_312 im_X11_isWord se_X11_isWord dX11_readShut_33 (ob_68 S1) (pargs_of rfl) rfl (Nat.le_of_ble_eq_true rfl) (by omega) (f3 τ1 e1 q1 c1 c3) (fun r3 τ3 e3 q3 w3 => ?_)
      obtain ⟨rfl, t3⟩ := q3
      rw [t3]
      show pR mX11_readShut d 36 [(2, 68), (9, 0)] [(0, (b2i (vIsW τ1 7501166)))] τ1 Q
      refine p_ifeqB (tgt := 43) dX11_readShut_36 (by decide) (fun c5 => ?_) (fun c6 => ?_)
      · refine pGo (s_iconst dX11_readShut_43) ?_
        refine pGoL (ls2 := [(2, 68), (0, (-1))]) (s_istore_n dX11_readShut_44 (by decide) rfl) rfl ?_
        exact (k1 τ1 e1 q1 c1 c3 c5)
      · refine pGo (s_iconst dX11_readShut_39) ?_
        refine pGo (s_goto (tgt := 44) dX11_readShut_40 (by decide)) ?_
        refine pGoL (ls2 := [(2, 68), (0, 1)]) (s_istore_n dX11_readShut_44 (by decide) rfl) rfl ?_
        exact (k2 τ1 e1 q1 c1 c3 c6)
    · refine pGo (s_iconst dX11_readShut_25) ?_
      refine pGo (s_goto (tgt := 44) dX11_readShut_26 (by decide)) ?_
      refine pGoL (ls2 := [(2, 68), (0, 0)]) (s_istore_n dX11_readShut_44 (by decide) rfl) rfl ?_
      exact (k3 τ1 e1 q1 c1 c4)
  · exact pEnd (r := none) dX11_readShut_14 rfl (k4 τ1 e1 q1 c2)
set_option maxRecDepth 100000 in
theorem g_X11_readShut_45 {d : Nat} {σ : pS} {Q : Option pV → pS → Prop} {Q1 : Option pV → pS → Prop} {Q2 : Option pV → pS → Prop} (hd : 5 ≤ d) (hst : Stat σ) (x1 : Int)  (g1 : inR x1) (f1 : ∀ (c1 : x1 < 0), pC mX11_wrong 0 [(2, 68), (0, 2)] σ Q1) (k1 : ∀ (c1 : x1 < 0) (τ1 : pS) (e1 : pLe σ τ1) (q1 : Q1 none τ1), pR mX11_readShut d 63 [(2, 68), (0, x1)] [] τ1 Q) (g2 : ∀ (c2 : 0 ≤ x1), 0 ≤ x1 ∧ x1 < 2) (g3 : ∀ (c2 : 0 ≤ x1), inR (rd σ 93 x1)) (k2 : ∀ (c2 : 0 ≤ x1) (c3 : (rd σ 93 x1) = 0), pR mX11_readShut d 63 [(2, 68), (0, x1)] [] σ Q) (f2 : ∀ (c2 : 0 ≤ x1) (c4 : (rd σ 93 x1) ≠ 0), pC mX11_wrong 0 [(2, 68), (0, 2)] σ Q2) (k3 : ∀ (c2 : 0 ≤ x1) (c4 : (rd σ 93 x1) ≠ 0) (τ2 : pS) (e2 : pLe σ τ2) (q2 : Q2 none τ2), pR mX11_readShut d 63 [(2, 68), (0, x1)] [] τ2 Q) : pR mX11_readShut d 45 [(2, 68), (0, x1)] [] σ Q := by
  refine pGo (s_iload_n dX11_readShut_45 rfl) ?_
  refine p_iflt (tgt := 58) dX11_readShut_46 (by decide) g1 (fun c1 => ?_) (fun c2 => ?_)
  · refine pGo (s_aload_n dX11_readShut_58 rfl (by decide)) ?_
    refine pGo (s_iconst dX11_readShut_59) ?_
    refine p_callV (As := [(0, 2)]) (st := []) (n := 1) (d' := 0) (Q1 := Q1) pc11 ok_X11_wrong ml_X11_316 im_X11_wrong se_X11_wrong dX11_readShut_60 (ob_68 hst) (pargs_of rfl) rfl (Nat.le_of_ble_eq_true rfl) (by omega) (f1 c1) (fun r1 τ1 e1 q1 w1 => ?_)
    obtain rfl : r1 = none := w1
    have S1 : Stat τ1 := (Stat.le (σ := σ) hst e1)
    show pR mX11_readShut d 63 [(2, 68), (0, x1)] [] τ1 Q
    exact (k1 c1 τ1 e1 q1)
  · refine pGo (s_aload_n dX11_readShut_49 rfl (by decide)) ?_
    refine pGoE (y := 93) (s_getF pc11 fl_X11_88 dX11_readShut_50 (ob_68 hst) rfl (by decide)) (by decide) ?_
    refine pGo (s_iload_n dX11_readShut_53 rfl) ?_
    refine pGoE (y := (rd σ 93 x1)) (s_zald dX11_readShut_54 (ob_93 hst) (bnd (g2 c2))) rfl ?_
    refine p_ifeq (tgt := 63) dX11_readShut_55 (by decide) (g3 c2) (fun c3 => ?_) (fun c4 => ?_)
    · exact (k2 c2 c3)
    · refine pGo (s_aload_n dX11_readShut_58 rfl (by decide)) ?_
      refine pGo (s_iconst dX11_readShut_59) ?_
      refine p_callV (As := [(0, 2)]) (st := []) (n := 1) (d' := 0) (Q1 := Q2) pc11 ok_X11_wrong ml_X11_316 im_X11_wrong se_X11_wrong dX11_readShut_60 (ob_68 hst) (pargs_of rfl) rfl (Nat.le_of_ble_eq_true rfl) (by omega) (f2 c2 c4) (fun r2 τ2 e2 q2 w2 => ?_)
      obtain rfl : r2 = none := w2
      have S2 : Stat τ2 := (Stat.le (σ := σ) hst e2)
      show pR mX11_readShut d 63 [(2, 68), (0, x1)] [] τ2 Q
      exact (k3 c2 c4 τ2 e2 q2)
set_option maxRecDepth 100000 in
theorem g_X11_readShut_63 {d : Nat} {σ : pS} {Q : Option pV → pS → Prop} {Q1 : Option pV → pS → Prop} {Q2 : Option pV → pS → Prop} (hd : 5 ≤ d) (hst : Stat σ) (x1 : Int)  (g1 : inR (rd σ 68 2)) (f1 : ∀ (c1 : (rd σ 68 2) ≤ 0), pC mX11_next 1 [(2, 68)] σ Q1) (f2 : ∀ (c1 : (rd σ 68 2) ≤ 0) (τ1 : pS) (e1 : pLe σ τ1) (q1 : Q1 none τ1), pC mX11_wantWord 2 [(2, 68), (1, 26982)] τ1 Q2) (g2 : ∀ (c1 : (rd σ 68 2) ≤ 0) (τ1 : pS) (e1 : pLe σ τ1) (q1 : Q1 none τ1) (τ2 : pS) (e2 : pLe τ1 τ2) (q2 : Q2 none τ2), inR (rd τ2 68 2)) (g3 : ∀ (c1 : (rd σ 68 2) ≤ 0) (τ1 : pS) (e1 : pLe σ τ1) (q1 : Q1 none τ1) (τ2 : pS) (e2 : pLe τ1 τ2) (q2 : Q2 none τ2) (c3 : (rd τ2 68 2) ≤ 0), inR x1) (k1 : ∀ (c1 : (rd σ 68 2) ≤ 0) (τ1 : pS) (e1 : pLe σ τ1) (q1 : Q1 none τ1) (τ2 : pS) (e2 : pLe τ1 τ2) (q2 : Q2 none τ2) (c3 : (rd τ2 68 2) ≤ 0) (c5 : x1 ≠ 1), pR mX11_readShut d 104 [(2, 68), (0, x1)] [] (wr τ2 68 50 0) Q) (k2 : ∀ (c1 : (rd σ 68 2) ≤ 0) (τ1 : pS) (e1 : pLe σ τ1) (q1 : Q1 none τ1) (τ2 : pS) (e2 : pLe τ1 τ2) (q2 : Q2 none τ2) (c3 : (rd τ2 68 2) ≤ 0) (c6 : x1 = 1), pR mX11_readShut d 104 [(2, 68), (0, x1)] [] (wr τ2 68 50 1) Q) (k3 : ∀ (c1 : (rd σ 68 2) ≤ 0) (τ1 : pS) (e1 : pLe σ τ1) (q1 : Q1 none τ1) (τ2 : pS) (e2 : pLe τ1 τ2) (q2 : Q2 none τ2) (c4 : 0 < (rd τ2 68 2)), Q none τ2) (k4 : ∀ (c2 : 0 < (rd σ 68 2)), Q none σ) : pR mX11_readShut d 63 [(2, 68), (0, x1)] [] σ Q := by
  refine pGo (s_aload_n dX11_readShut_63 rfl (by decide)) ?_
  refine pGoE (y := (rd σ 68 2)) (s_getI pc11 fl_X11_273 dX11_readShut_64 (ob_68 hst) rfl (by decide)) rfl ?_
  refine p_ifle (tgt := 71) dX11_readShut_67 (by decide) g1 (fun c1 => ?_) (fun c2 => ?_)
  · refine pGo (s_aload_n dX11_readShut_71 rfl (by decide)) ?_
    refine p_callV (As := []) (st := []) (n := 0) (d' := 1) (Q1 := Q1) pc11 ok_X11_next ml_X11_319 im_X11_next se_X11_next dX11_readShut_72 (ob_68 hst) (pargs_of rfl) rfl (Nat.le_of_ble_eq_true rfl) (by omega) (f1 c1) (fun r1 τ1 e1 q1 w1 => ?_)
    obtain rfl : r1 = none := w1
    have S1 : Stat τ1 := (Stat.le (σ := σ) hst e1)
    show pR mX11_readShut d 75 [(2, 68), (0, x1)] [] τ1 Q
    refine pGo (s_aload_n dX11_readShut_75 rfl (by decide)) ?_
    refine pGo (s_ldc2 (n := 26982) dX11_readShut_76 kl_X11_298 (by decide)) ?_
    refine p_callV (As := [(1, 26982)]) (st := []) (n := 1) (d' := 2) (Q1 := Q2) pc11 ok_X11_wantWord ml_X11_338 im_X11_wantWord se_X11_wantWord dX11_readShut_79 (ob_68 S1) (pargs_of rfl) rfl (Nat.le_of_ble_eq_true rfl) (by omega) (f2 c1 τ1 e1 q1) (fun r2 τ2 e2 q2 w2 => ?_)
    obtain rfl : r2 = none := w2
    have S2 : Stat τ2 := (Stat.le (σ := τ1) S1 e2)
    show pR mX11_readShut d 82 [(2, 68), (0, x1)] [] τ2 Q
    refine pGo (s_aload_n dX11_readShut_82 rfl (by decide)) ?_
    refine pGoE (y := (rd τ2 68 2)) (s_getI pc11 fl_X11_273 dX11_readShut_83 (ob_68 S2) rfl (by decide)) rfl ?_
    refine p_ifle (tgt := 90) dX11_readShut_86 (by decide) (g2 c1 τ1 e1 q1 τ2 e2 q2) (fun c3 => ?_) (fun c4 => ?_)
    · refine pGo (s_aload_n dX11_readShut_90 rfl (by decide)) ?_
      refine pGo (s_iload_n dX11_readShut_91 rfl) ?_
      refine pGo (s_iconst dX11_readShut_92) ?_
      refine p_icne (tgt := 100) dX11_readShut_93 (by decide) (g3 c1 τ1 e1 q1 τ2 e2 q2 c3) (by decide) (fun c5 => ?_) (fun c6 => ?_)
      · refine pGo (s_iconst dX11_readShut_100) ?_
        refine pGo (s_putZ pc11 fl_X11_428 dX11_readShut_101 (ob_68 S2) rfl rfl rfl rfl (by decide)) ?_
        exact (k1 c1 τ1 e1 q1 τ2 e2 q2 c3 c5)
      · refine pGo (s_iconst dX11_readShut_96) ?_
        refine pGo (s_goto (tgt := 101) dX11_readShut_97 (by decide)) ?_
        refine pGo (s_putZ pc11 fl_X11_428 dX11_readShut_101 (ob_68 S2) rfl rfl rfl rfl (by decide)) ?_
        exact (k2 c1 τ1 e1 q1 τ2 e2 q2 c3 c6)
    · exact pEnd (r := none) dX11_readShut_89 rfl (k3 c1 τ1 e1 q1 τ2 e2 q2 c4)
  · exact pEnd (r := none) dX11_readShut_70 rfl (k4 c2)
set_option maxRecDepth 100000 in
theorem g_X11_readShut_104 {d : Nat} {σ : pS} {Q : Option pV → pS → Prop} {Q1 : Option pV → pS → Prop} {Q2 : Option pV → pS → Prop} (hd : 5 ≤ d) (hst : Stat σ) (x1 : Int)  (g1 : 0 ≤ x1 ∧ x1 < 2) (f1 : pC mX11_readE 4 [(2, 68)] (wr σ 87 x1 (rd σ 68 44)) Q1) (g2 : ∀ (τ1 : pS) (e1 : pLe (wr σ 87 x1 (rd σ 68 44)) τ1) (q1 : Q1 none τ1), inR (rd τ1 68 2)) (f2 : ∀ (τ1 : pS) (e1 : pLe (wr σ 87 x1 (rd σ 68 44)) τ1) (q1 : Q1 none τ1) (c1 : (rd τ1 68 2) ≤ 0), pC mX11_next 1 [(2, 68)] (wr (wr (wr τ1 88 x1 (rd τ1 68 44)) 93 x1 1) 68 20 ((rd τ1 68 20) + 1)) Q2) (k1 : ∀ (τ1 : pS) (e1 : pLe (wr σ 87 x1 (rd σ 68 44)) τ1) (q1 : Q1 none τ1) (c1 : (rd τ1 68 2) ≤ 0) (τ2 : pS) (e2 : pLe (wr (wr (wr τ1 88 x1 (rd τ1 68 44)) 93 x1 1) 68 20 ((rd τ1 68 20) + 1)) τ2) (q2 : Q2 none τ2), Q none τ2) (k2 : ∀ (τ1 : pS) (e1 : pLe (wr σ 87 x1 (rd σ 68 44)) τ1) (q1 : Q1 none τ1) (c2 : 0 < (rd τ1 68 2)), Q none τ1) : pR mX11_readShut d 104 [(2, 68), (0, x1)] [] σ Q := by
  refine pGo (s_aload_n dX11_readShut_104 rfl (by decide)) ?_
  refine pGoE (y := 87) (s_getF pc11 fl_X11_70 dX11_readShut_105 (ob_68 hst) rfl (by decide)) (by decide) ?_
  refine pGo (s_iload_n dX11_readShut_108 rfl) ?_
  refine pGo (s_aload_n dX11_readShut_109 rfl (by decide)) ?_
  refine pGoE (y := (rd σ 68 44)) (s_getI pc11 fl_X11_390 dX11_readShut_110 (ob_68 hst) rfl (by decide)) rfl ?_
  refine pGo (s_iast dX11_readShut_113 (ob_87 hst) (bnd g1)) ?_
  refine pGo (s_aload_n dX11_readShut_114 rfl (by decide)) ?_
  refine p_callV (As := []) (st := []) (n := 0) (d' := 4) (Q1 := Q1) pc11 ok_X11_readE ml_X11_437 im_X11_readE se_X11_readE dX11_readShut_115 (ob_68 hst) (pargs_of rfl) rfl (Nat.le_of_ble_eq_true rfl) (by omega) f1 (fun r1 τ1 e1 q1 w1 => ?_)
  obtain rfl : r1 = none := w1
  have S1 : Stat τ1 := (Stat.le (σ := (wr σ 87 x1 (rd σ 68 44))) hst e1)
  show pR mX11_readShut d 118 [(2, 68), (0, x1)] [] τ1 Q
  refine pGo (s_aload_n dX11_readShut_118 rfl (by decide)) ?_
  refine pGoE (y := (rd τ1 68 2)) (s_getI pc11 fl_X11_273 dX11_readShut_119 (ob_68 S1) rfl (by decide)) rfl ?_
  refine p_ifle (tgt := 126) dX11_readShut_122 (by decide) (g2 τ1 e1 q1) (fun c1 => ?_) (fun c2 => ?_)
  · refine pGo (s_aload_n dX11_readShut_126 rfl (by decide)) ?_
    refine pGoE (y := 88) (s_getF pc11 fl_X11_73 dX11_readShut_127 (ob_68 S1) rfl (by decide)) (by decide) ?_
    refine pGo (s_iload_n dX11_readShut_130 rfl) ?_
    refine pGo (s_aload_n dX11_readShut_131 rfl (by decide)) ?_
    refine pGoE (y := (rd τ1 68 44)) (s_getI pc11 fl_X11_390 dX11_readShut_132 (ob_68 S1) rfl (by decide)) rfl ?_
    refine pGo (s_iast dX11_readShut_135 (ob_88 S1) (bnd g1)) ?_
    refine pGo (s_aload_n dX11_readShut_136 rfl (by decide)) ?_
    refine pGoE (y := 93) (s_getF pc11 fl_X11_88 dX11_readShut_137 (ob_68 S1) rfl (by decide)) (by decide) ?_
    refine pGo (s_iload_n dX11_readShut_140 rfl) ?_
    refine pGo (s_iconst dX11_readShut_141) ?_
    refine pGo (s_zast dX11_readShut_142 (ob_93 S1) (bnd g1) (by decide)) ?_
    refine pGo (s_aload_n dX11_readShut_143 rfl (by decide)) ?_
    refine pGo (s_dup dX11_readShut_144 (by decide)) ?_
    refine pGoE (y := (rd τ1 68 20)) (s_getI pc11 fl_X11_357 dX11_readShut_145 (ob_68 S1) rfl (by decide)) ((rd_wr_a _ (by decide)).trans (rd_wr_a _ (by decide))) ?_
    refine pGo (s_iconst dX11_readShut_148) ?_
    refine pGo (s_iadd dX11_readShut_149) ?_
    refine pGo (s_putI pc11 fl_X11_357 dX11_readShut_150 (ob_68 S1) rfl rfl rfl rfl) ?_
    refine pGo (s_aload_n dX11_readShut_153 rfl (by decide)) ?_
    refine p_callV (As := []) (st := []) (n := 0) (d' := 1) (Q1 := Q2) pc11 ok_X11_next ml_X11_319 im_X11_next se_X11_next dX11_readShut_154 (ob_68 S1) (pargs_of rfl) rfl (Nat.le_of_ble_eq_true rfl) (by omega) (f2 τ1 e1 q1 c1) (fun r2 τ2 e2 q2 w2 => ?_)
    obtain rfl : r2 = none := w2
    have S2 : Stat τ2 := (Stat.le (σ := (wr (wr (wr τ1 88 x1 (rd τ1 68 44)) 93 x1 1) 68 20 ((rd τ1 68 20) + 1))) S1 e2)
    show pR mX11_readShut d 157 [(2, 68), (0, x1)] [] τ2 Q
    exact pEnd (r := none) dX11_readShut_157 rfl (k1 τ1 e1 q1 c1 τ2 e2 q2)
  · exact pEnd (r := none) dX11_readShut_125 rfl (k2 τ1 e1 q1 c2)
set_option maxRecDepth 100000 in
theorem g_X11_law_0 {d : Nat} {σ : pS} {Q : Option pV → pS → Prop} {Q1 : Option pV → pS → Prop} (hd : 6 ≤ d) (hst : Stat σ)   (g1 : inR (rd σ 68 1)) (f1 : ∀ (c1 : (rd σ 68 1) ≤ 500), pC mX11_begin 2 [(2, 68)] (wr (wr (wr (wr (wr σ 68 44 0) 68 45 0) 68 20 0) 93 0 0) 93 1 0) Q1) (k1 : ∀ (c1 : (rd σ 68 1) ≤ 500) (τ1 : pS) (e1 : pLe (wr (wr (wr (wr (wr σ 68 44 0) 68 45 0) 68 20 0) 93 0 0) 93 1 0) τ1) (q1 : Q1 none τ1), pR mX11_law d 46 [(2, 68), (9, 0)] [] τ1 Q) (k2 : ∀ (c2 : 500 < (rd σ 68 1)), Q (some (0, (-2))) σ) : pC mX11_law d [(2, 68)] σ Q := by
  show pR mX11_law d 0 [(2, 68), (9, 0)] [] σ Q
  refine pGo (s_aload_n dX11_law_0 rfl (by decide)) ?_
  refine pGoE (y := (rd σ 68 1)) (s_getI pc11 fl_X11_233 dX11_law_1 (ob_68 hst) rfl (by decide)) rfl ?_
  refine pGo (s_sipush dX11_law_4 (by decide)) ?_
  refine p_icle (tgt := 13) dX11_law_7 (by decide) g1 (by decide) (fun c1 => ?_) (fun c2 => ?_)
  · refine pGo (s_aload_n dX11_law_13 rfl (by decide)) ?_
    refine pGo (s_iconst dX11_law_14) ?_
    refine pGo (s_putI pc11 fl_X11_390 dX11_law_15 (ob_68 hst) rfl rfl rfl rfl) ?_
    refine pGo (s_aload_n dX11_law_18 rfl (by decide)) ?_
    refine pGo (s_iconst dX11_law_19) ?_
    refine pGo (s_putI pc11 fl_X11_425 dX11_law_20 (ob_68 hst) rfl rfl rfl rfl) ?_
    refine pGo (s_aload_n dX11_law_23 rfl (by decide)) ?_
    refine pGo (s_iconst dX11_law_24) ?_
    refine pGo (s_putI pc11 fl_X11_357 dX11_law_25 (ob_68 hst) rfl rfl rfl rfl) ?_
    refine pGo (s_aload_n dX11_law_28 rfl (by decide)) ?_
    refine pGoE (y := 93) (s_getF pc11 fl_X11_88 dX11_law_29 (ob_68 hst) rfl (by decide)) (by decide) ?_
    refine pGo (s_iconst dX11_law_32) ?_
    refine pGo (s_iconst dX11_law_33) ?_
    refine pGo (s_zast dX11_law_34 (ob_93 hst) (by decide) (by decide)) ?_
    refine pGo (s_aload_n dX11_law_35 rfl (by decide)) ?_
    refine pGoE (y := 93) (s_getF pc11 fl_X11_88 dX11_law_36 (ob_68 hst) rfl (by decide)) (by decide) ?_
    refine pGo (s_iconst dX11_law_39) ?_
    refine pGo (s_iconst dX11_law_40) ?_
    refine pGo (s_zast dX11_law_41 (ob_93 hst) (by decide) (by decide)) ?_
    refine pGo (s_aload_n dX11_law_42 rfl (by decide)) ?_
    refine p_callV (As := []) (st := []) (n := 0) (d' := 2) (Q1 := Q1) pc11 ok_X11_begin ml_X11_360 im_X11_begin se_X11_begin dX11_law_43 (ob_68 hst) (pargs_of rfl) rfl (Nat.le_of_ble_eq_true rfl) (by omega) (f1 c1) (fun r1 τ1 e1 q1 w1 => ?_)
    obtain rfl : r1 = none := w1
    have S1 : Stat τ1 := (Stat.le (σ := (wr (wr (wr (wr (wr σ 68 44 0) 68 45 0) 68 20 0) 93 0 0) 93 1 0)) hst e1)
    show pR mX11_law d 46 [(2, 68), (9, 0)] [] τ1 Q
    exact (k1 c1 τ1 e1 q1)
  · refine pGo (s_bipush dX11_law_10 (by decide)) ?_
    exact pEnd (r := (some (0, (-2)))) dX11_law_12 ⟨_, rfl⟩ (k2 c2)
set_option maxRecDepth 100000 in
theorem g_X11_law_46 {d : Nat} {σ : pS} {Q : Option pV → pS → Prop} {Q1 : Option pV → pS → Prop} (hd : 6 ≤ d) (hst : Stat σ) (u1 : pV) (hu1 : u1.1 ≠ 1) (g1 : inR (rd σ 68 2)) (k1 : ∀ (c1 : (rd σ 68 2) ≠ 0) (c3 : (rd σ 68 2) ≤ 0), pR mX11_law d 78 [(2, 68), (0, 0)] [] σ Q) (k2 : ∀ (c1 : (rd σ 68 2) ≠ 0) (c4 : 0 < (rd σ 68 2)), Q (some (0, (-1))) σ) (g2 : ∀ (c2 : (rd σ 68 2) = 0), inR (rd σ 68 6)) (k3 : ∀ (c2 : (rd σ 68 2) = 0) (c5 : (rd σ 68 6) = 0) (c7 : (rd σ 68 2) ≤ 0), pR mX11_law d 78 [(2, 68), (0, 0)] [] σ Q) (k4 : ∀ (c2 : (rd σ 68 2) = 0) (c5 : (rd σ 68 6) = 0) (c8 : 0 < (rd σ 68 2)), Q (some (0, (-1))) σ) (f1 : ∀ (c2 : (rd σ 68 2) = 0) (c6 : (rd σ 68 6) ≠ 0), pC mX11_readShut 5 [(2, 68)] σ Q1) (k5 : ∀ (c2 : (rd σ 68 2) = 0) (c6 : (rd σ 68 6) ≠ 0) (τ1 : pS) (e1 : pLe σ τ1) (q1 : Q1 none τ1), pR mX11_law d 46 [(2, 68), u1] [] τ1 Q) : pR mX11_law d 46 [(2, 68), u1] [] σ Q := by
  refine pGo (s_aload_n dX11_law_46 rfl (by decide)) ?_
  refine pGoE (y := (rd σ 68 2)) (s_getI pc11 fl_X11_273 dX11_law_47 (ob_68 hst) rfl (by decide)) rfl ?_
  refine p_ifne (tgt := 67) dX11_law_50 (by decide) g1 (fun c1 => ?_) (fun c2 => ?_)
  · refine pGo (s_aload_n dX11_law_67 rfl (by decide)) ?_
    refine pGoE (y := (rd σ 68 2)) (s_getI pc11 fl_X11_273 dX11_law_68 (ob_68 hst) rfl (by decide)) rfl ?_
    refine p_ifle (tgt := 76) dX11_law_71 (by decide) g1 (fun c3 => ?_) (fun c4 => ?_)
    · refine pGo (s_iconst dX11_law_76) ?_
      refine pGoL (ls2 := [(2, 68), (0, 0)]) (s_istore_n dX11_law_77 (by decide) rfl) rfl ?_
      exact (k1 c1 c3)
    · refine pGo (s_iconst dX11_law_74) ?_
      exact pEnd (r := (some (0, (-1)))) dX11_law_75 ⟨_, rfl⟩ (k2 c1 c4)
  · refine pGo (s_aload_n dX11_law_53 rfl (by decide)) ?_
    refine pGoE (y := (rd σ 68 6)) (s_getI pc11 fl_X11_260 dX11_law_54 (ob_68 hst) rfl (by decide)) rfl ?_
    refine p_ifeq (tgt := 67) dX11_law_57 (by decide) (g2 c2) (fun c5 => ?_) (fun c6 => ?_)
    · refine pGo (s_aload_n dX11_law_67 rfl (by decide)) ?_
      refine pGoE (y := (rd σ 68 2)) (s_getI pc11 fl_X11_273 dX11_law_68 (ob_68 hst) rfl (by decide)) rfl ?_
      refine p_ifle (tgt := 76) dX11_law_71 (by decide) g1 (fun c7 => ?_) (fun c8 => ?_)
      · refine pGo (s_iconst dX11_law_76) ?_
        refine pGoL (ls2 := [(2, 68), (0, 0)]) (s_istore_n dX11_law_77 (by decide) rfl) rfl ?_
        exact (k3 c2 c5 c7)
      · refine pGo (s_iconst dX11_law_74) ?_
        exact pEnd (r := (some (0, (-1)))) dX11_law_75 ⟨_, rfl⟩ (k4 c2 c5 c8)
    · refine pGo (s_aload_n dX11_law_60 rfl (by decide)) ?_
      refine p_callV (As := []) (st := []) (n := 0) (d' := 5) (Q1 := Q1) pc11 ok_X11_readShut ml_X11_440 im_X11_readShut se_X11_readShut dX11_law_61 (ob_68 hst) (pargs_of rfl) rfl (Nat.le_of_ble_eq_true rfl) (by omega) (f1 c2 c6) (fun r1 τ1 e1 q1 w1 => ?_)
      obtain rfl : r1 = none := w1
      have S1 : Stat τ1 := (Stat.le (σ := σ) hst e1)
      show pR mX11_law d 64 [(2, 68), u1] [] τ1 Q
      refine pGo (s_goto (tgt := 46) dX11_law_64 (by decide)) ?_
      exact (k5 c2 c6 τ1 e1 q1)
set_option maxRecDepth 100000 in
theorem g_X11_law_78 {d : Nat} {σ : pS} {Q : Option pV → pS → Prop} (hd : 6 ≤ d) (hst : Stat σ) (x1 : Int)  (g1 : inR x1) (g2 : inR (rd σ 68 44)) (k1 : ∀ (c1 : (rd σ 68 44) ≤ x1), pR mX11_law d 118 [(2, 68), (0, 0)] [] σ Q) (g3 : ∀ (c2 : x1 < (rd σ 68 44)), 0 ≤ x1 ∧ x1 < 600) (k2 : ∀ (c2 : x1 < (rd σ 68 44)), pR mX11_law d 78 [(2, 68), (0, (x1 + 1))] [] (wr (wr σ 89 x1 (rd σ 85 x1)) 90 x1 (rd σ 86 x1)) Q) : pR mX11_law d 78 [(2, 68), (0, x1)] [] σ Q := by
  refine pGo (s_iload_n dX11_law_78 rfl) ?_
  refine pGo (s_aload_n dX11_law_79 rfl (by decide)) ?_
  refine pGoE (y := (rd σ 68 44)) (s_getI pc11 fl_X11_390 dX11_law_80 (ob_68 hst) rfl (by decide)) rfl ?_
  refine p_icge (tgt := 116) dX11_law_83 (by decide) g1 g2 (fun c1 => ?_) (fun c2 => ?_)
  · refine pGo (s_iconst dX11_law_116) ?_
    refine pGoL (ls2 := [(2, 68), (0, 0)]) (s_istore_n dX11_law_117 (by decide) rfl) rfl ?_
    exact (k1 c1)
  · refine pGo (s_aload_n dX11_law_86 rfl (by decide)) ?_
    refine pGoE (y := 89) (s_getF pc11 fl_X11_76 dX11_law_87 (ob_68 hst) rfl (by decide)) (by decide) ?_
    refine pGo (s_iload_n dX11_law_90 rfl) ?_
    refine pGo (s_aload_n dX11_law_91 rfl (by decide)) ?_
    refine pGoE (y := 85) (s_getF pc11 fl_X11_64 dX11_law_92 (ob_68 hst) rfl (by decide)) (by decide) ?_
    refine pGo (s_iload_n dX11_law_95 rfl) ?_
    refine pGoE (y := (rd σ 85 x1)) (s_iald dX11_law_96 (ob_85 hst) (bnd (g3 c2))) rfl ?_
    refine pGo (s_iast dX11_law_97 (ob_89 hst) (bnd (g3 c2))) ?_
    refine pGo (s_aload_n dX11_law_98 rfl (by decide)) ?_
    refine pGoE (y := 90) (s_getF pc11 fl_X11_79 dX11_law_99 (ob_68 hst) rfl (by decide)) (by decide) ?_
    refine pGo (s_iload_n dX11_law_102 rfl) ?_
    refine pGo (s_aload_n dX11_law_103 rfl (by decide)) ?_
    refine pGoE (y := 86) (s_getF pc11 fl_X11_67 dX11_law_104 (ob_68 hst) rfl (by decide)) (by decide) ?_
    refine pGo (s_iload_n dX11_law_107 rfl) ?_
    refine pGoE (y := (rd σ 86 x1)) (s_iald dX11_law_108 (ob_86 hst) (bnd (g3 c2))) (rd_wr_a _ (by decide)) ?_
    refine pGo (s_iast dX11_law_109 (ob_90 hst) (bnd (g3 c2))) ?_
    refine pGoL (ls2 := [(2, 68), (0, (x1 + 1))]) (s_iinc dX11_law_110 (by decide) rfl rfl) rfl ?_
    refine pGo (s_goto (tgt := 78) dX11_law_113 (by decide)) ?_
    exact (k2 c2)
set_option maxRecDepth 100000 in
theorem g_X11_law_118 {d : Nat} {σ : pS} {Q : Option pV → pS → Prop} (hd : 6 ≤ d) (hst : Stat σ) (x1 : Int)  (g1 : inR x1) (k1 : ∀ (c1 : 2 ≤ x1), Q (some (0, (rd σ 68 20))) (wr (wr σ 68 46 (rd σ 68 20)) 68 78 0)) (g2 : ∀ (c2 : x1 < 2), 0 ≤ x1 ∧ x1 < 2) (g3 : ∀ (c2 : x1 < 2), (rd σ 93 x1) = 0 ∨ (rd σ 93 x1) = 1) (k2 : ∀ (c2 : x1 < 2), pR mX11_law d 118 [(2, 68), (0, (x1 + 1))] [] (wr (wr (wr σ 94 x1 (rd σ 93 x1)) 91 x1 (rd σ 87 x1)) 92 x1 (rd σ 88 x1)) Q) : pR mX11_law d 118 [(2, 68), (0, x1)] [] σ Q := by
  refine pGo (s_iload_n dX11_law_118 rfl) ?_
  refine pGo (s_iconst dX11_law_119) ?_
  refine p_icge (tgt := 165) dX11_law_120 (by decide) g1 (by decide) (fun c1 => ?_) (fun c2 => ?_)
  · refine pGo (s_aload_n dX11_law_165 rfl (by decide)) ?_
    refine pGo (s_aload_n dX11_law_166 rfl (by decide)) ?_
    refine pGoE (y := (rd σ 68 20)) (s_getI pc11 fl_X11_357 dX11_law_167 (ob_68 hst) rfl (by decide)) rfl ?_
    refine pGo (s_putI pc11 fl_X11_443 dX11_law_170 (ob_68 hst) rfl rfl rfl rfl) ?_
    refine pGo (s_aload_n dX11_law_173 rfl (by decide)) ?_
    refine pGo (s_iconst dX11_law_174) ?_
    refine pGo (s_putZ pc11 fl_X11_381 dX11_law_175 (ob_68 hst) rfl rfl rfl rfl (by decide)) ?_
    refine pGo (s_aload_n dX11_law_178 rfl (by decide)) ?_
    refine pGoE (y := (rd σ 68 20)) (s_getI pc11 fl_X11_443 dX11_law_179 (ob_68 hst) rfl (by decide)) ((rd_wr_i _ (by decide)).trans (rd_wr_same _ _ _ _)) ?_
    exact pEnd (r := (some (0, (rd σ 68 20)))) dX11_law_182 ⟨_, rfl⟩ (k1 c1)
  · refine pGo (s_aload_n dX11_law_123 rfl (by decide)) ?_
    refine pGoE (y := 94) (s_getF pc11 fl_X11_91 dX11_law_124 (ob_68 hst) rfl (by decide)) (by decide) ?_
    refine pGo (s_iload_n dX11_law_127 rfl) ?_
    refine pGo (s_aload_n dX11_law_128 rfl (by decide)) ?_
    refine pGoE (y := 93) (s_getF pc11 fl_X11_88 dX11_law_129 (ob_68 hst) rfl (by decide)) (by decide) ?_
    refine pGo (s_iload_n dX11_law_132 rfl) ?_
    refine pGoE (y := (rd σ 93 x1)) (s_zald dX11_law_133 (ob_93 hst) (bnd (g2 c2))) rfl ?_
    refine pGo (s_zast dX11_law_134 (ob_94 hst) (bnd (g2 c2)) (g3 c2)) ?_
    refine pGo (s_aload_n dX11_law_135 rfl (by decide)) ?_
    refine pGoE (y := 91) (s_getF pc11 fl_X11_82 dX11_law_136 (ob_68 hst) rfl (by decide)) (by decide) ?_
    refine pGo (s_iload_n dX11_law_139 rfl) ?_
    refine pGo (s_aload_n dX11_law_140 rfl (by decide)) ?_
    refine pGoE (y := 87) (s_getF pc11 fl_X11_70 dX11_law_141 (ob_68 hst) rfl (by decide)) (by decide) ?_
    refine pGo (s_iload_n dX11_law_144 rfl) ?_
    refine pGoE (y := (rd σ 87 x1)) (s_iald dX11_law_145 (ob_87 hst) (bnd (g2 c2))) (rd_wr_a _ (by decide)) ?_
    refine pGo (s_iast dX11_law_146 (ob_91 hst) (bnd (g2 c2))) ?_
    refine pGo (s_aload_n dX11_law_147 rfl (by decide)) ?_
    refine pGoE (y := 92) (s_getF pc11 fl_X11_85 dX11_law_148 (ob_68 hst) rfl (by decide)) (by decide) ?_
    refine pGo (s_iload_n dX11_law_151 rfl) ?_
    refine pGo (s_aload_n dX11_law_152 rfl (by decide)) ?_
    refine pGoE (y := 88) (s_getF pc11 fl_X11_73 dX11_law_153 (ob_68 hst) rfl (by decide)) (by decide) ?_
    refine pGo (s_iload_n dX11_law_156 rfl) ?_
    refine pGoE (y := (rd σ 88 x1)) (s_iald dX11_law_157 (ob_88 hst) (bnd (g2 c2))) ((rd_wr_a _ (by decide)).trans (rd_wr_a _ (by decide))) ?_
    refine pGo (s_iast dX11_law_158 (ob_92 hst) (bnd (g2 c2))) ?_
    refine pGoL (ls2 := [(2, 68), (0, (x1 + 1))]) (s_iinc dX11_law_159 (by decide) rfl rfl) rfl ?_
    refine pGo (s_goto (tgt := 118) dX11_law_162 (by decide)) ?_
    exact (k2 c2)
