/-! walks: laws, small functions -/
def vPM (k : Int) : Bool := decide (k = 43 ∨ k = 45)
def vTop (s : pS) : Int := if rd s 68 48 = 0 then 28 else rd s 95 (rd s 68 48 - 1)
def vIsO (s : pS) : Bool := decide (∃ i : Nat, i < (rd s 68 48).toNat ∧ rd s 95 (i : Int) = 28)
def vNam (s : pS) : Int := if vIsW s 1752135026 = true then 1 else if vIsW s 2003398244 = true then 2 else if vIsW s 440005915496 = true then 3 else if vIsW s 1936617335 = true then 4 else if vIsW s 444300616805 = true then 5 else if vIsW s 499850634611 = true then 6 else -1
set_option maxRecDepth 100000 in
theorem g_X2_put_0 {d : Nat} {σ : pS} {Q : Option pV → pS → Prop} (hd : 0 ≤ d) (hst : Stat σ) (a0 : Int) (x1 : Int) (x2 : Int) {na0 : Nat} (Ia0 : Inst2 σ a0 na0) (g1 : inR (rd σ a0 2)) (g2 : inR (na0 : Int)) (k1 : ∀ (c1 : (na0 : Int) ≤ (rd σ a0 2)), Q none σ) (g3 : ∀ (c2 : (rd σ a0 2) < (na0 : Int)), 0 ≤ (rd σ a0 2) ∧ (rd σ a0 2) < (na0 : Int) ∧ (rd σ a0 2) < 2147483648) (k2 : ∀ (c2 : (rd σ a0 2) < (na0 : Int)), Q none (wr (wr (wr σ (a0 + 4) (rd σ a0 2) x1) (a0 + 5) (rd σ a0 2) x2) a0 2 ((rd σ a0 2) + 1))) : pC mX2_put d [(2, a0), (0, x1), (0, x2)] σ Q := by
  show pR mX2_put d 0 [(2, a0), (0, x1), (0, x2)] [] σ Q
  refine pGo (s_aload_n dX2_put_0 rfl Ia0.pos) ?_
  refine pGoE (y := (rd σ a0 2)) (s_getI pc2 fl_X2_98 dX2_put_1 Ia0.o0 rfl (by decide)) rfl ?_
  refine pGo (s_aload_n dX2_put_4 rfl Ia0.pos) ?_
  refine pGo (s_getF pc2 fl_X2_27 dX2_put_5 Ia0.o0 rfl (by decide)) ?_
  refine pGo (s_alen dX2_put_8 Ia0.o4) ?_
  refine p_icge (tgt := 42) dX2_put_9 (by decide) g1 g2 (fun c1 => ?_) (fun c2 => ?_)
  · exact pEnd (r := none) dX2_put_42 rfl (k1 c1)
  · refine pGo (s_aload_n dX2_put_12 rfl Ia0.pos) ?_
    refine pGo (s_getF pc2 fl_X2_27 dX2_put_13 Ia0.o0 rfl (by decide)) ?_
    refine pGo (s_aload_n dX2_put_16 rfl Ia0.pos) ?_
    refine pGoE (y := (rd σ a0 2)) (s_getI pc2 fl_X2_98 dX2_put_17 Ia0.o0 rfl (by decide)) rfl ?_
    refine pGo (s_iload_n dX2_put_20 rfl) ?_
    refine pGo (s_iast dX2_put_21 Ia0.o4 (g3 c2)) ?_
    refine pGo (s_aload_n dX2_put_22 rfl Ia0.pos) ?_
    refine pGo (s_getF pc2 fl_X2_30 dX2_put_23 Ia0.o0 rfl (by decide)) ?_
    refine pGo (s_aload_n dX2_put_26 rfl Ia0.pos) ?_
    refine pGoE (y := (rd σ a0 2)) (s_getI pc2 fl_X2_98 dX2_put_27 Ia0.o0 rfl (by decide)) (rd_wr_a _ (by omega)) ?_
    refine pGo (s_iload_n dX2_put_30 rfl) ?_
    refine pGo (s_iast dX2_put_31 Ia0.o5 (g3 c2)) ?_
    refine pGo (s_aload_n dX2_put_32 rfl Ia0.pos) ?_
    refine pGo (s_dup dX2_put_33 (show (2 : Nat) ≠ 1 by decide)) ?_
    refine pGoE (y := (rd σ a0 2)) (s_getI pc2 fl_X2_98 dX2_put_34 Ia0.o0 rfl (by decide)) ((rd_wr_a _ (by omega)).trans (rd_wr_a _ (by omega))) ?_
    refine pGo (s_iconst dX2_put_37) ?_
    refine pGo (s_iadd dX2_put_38) ?_
    refine pGo (s_putI pc2 fl_X2_98 dX2_put_39 Ia0.o0 rfl rfl rfl rfl) ?_
    exact pEnd (r := none) dX2_put_42 rfl (k2 c2)
set_option maxRecDepth 100000 in
theorem g_X2_isPlusOrMinus_0 {d : Nat} {σ : pS} {Q : Option pV → pS → Prop} (hd : 0 ≤ d) (hst : Stat σ) (x1 : Int)  (g1 : inR x1) (k1 : ∀ (c1 : x1 = 43), Q (some (0, 1)) σ) (k2 : ∀ (c2 : x1 ≠ 43) (c3 : x1 ≠ 45), Q (some (0, 0)) σ) (k3 : ∀ (c2 : x1 ≠ 43) (c4 : x1 = 45), Q (some (0, 1)) σ) : pC mX2_isPlusOrMinus d [(0, x1)] σ Q := by
  show pR mX2_isPlusOrMinus d 0 [(0, x1)] [] σ Q
  refine pGo (s_iload_n dX2_isPlusOrMinus_0 rfl) ?_
  refine pGo (s_bipush dX2_isPlusOrMinus_1 (by decide)) ?_
  refine p_iceq (tgt := 12) dX2_isPlusOrMinus_3 (by decide) g1 (by decide) (fun c1 => ?_) (fun c2 => ?_)
  · refine pGo (s_iconst dX2_isPlusOrMinus_12) ?_
    refine pGo (s_goto (tgt := 17) dX2_isPlusOrMinus_13 (by decide)) ?_
    exact pEnd (r := (some (0, 1))) dX2_isPlusOrMinus_17 (Or.inr rfl) (k1 c1)
  · refine pGo (s_iload_n dX2_isPlusOrMinus_6 rfl) ?_
    refine pGo (s_bipush dX2_isPlusOrMinus_7 (by decide)) ?_
    refine p_icne (tgt := 16) dX2_isPlusOrMinus_9 (by decide) g1 (by decide) (fun c3 => ?_) (fun c4 => ?_)
    · refine pGo (s_iconst dX2_isPlusOrMinus_16) ?_
      exact pEnd (r := (some (0, 0))) dX2_isPlusOrMinus_17 (Or.inl rfl) (k2 c2 c3)
    · refine pGo (s_iconst dX2_isPlusOrMinus_12) ?_
      refine pGo (s_goto (tgt := 17) dX2_isPlusOrMinus_13 (by decide)) ?_
      exact pEnd (r := (some (0, 1))) dX2_isPlusOrMinus_17 (Or.inr rfl) (k3 c2 c4)
set_option maxRecDepth 100000 in
theorem g_X11_step_0 {d : Nat} {σ : pS} {Q : Option pV → pS → Prop} (hd : 0 ≤ d) (hst : Stat σ) (x1 : Int) (x2 : Int)  (g1 : 0 ≤ (rd σ 68 44) ∧ (rd σ 68 44) < 600) (k1 : Q none (wr (wr (wr σ 85 (rd σ 68 44) x1) 86 (rd σ 68 44) x2) 68 44 ((rd σ 68 44) + 1))) : pC mX11_step d [(2, 68), (0, x1), (0, x2)] σ Q := by
  show pR mX11_step d 0 [(2, 68), (0, x1), (0, x2)] [] σ Q
  refine pGo (s_aload_n dX11_step_0 rfl (by decide)) ?_
  refine pGoE (y := 85) (s_getF pc11 fl_X11_64 dX11_step_1 (ob_68 hst) rfl (by decide)) (by decide) ?_
  refine pGo (s_aload_n dX11_step_4 rfl (by decide)) ?_
  refine pGoE (y := (rd σ 68 44)) (s_getI pc11 fl_X11_390 dX11_step_5 (ob_68 hst) rfl (by decide)) rfl ?_
  refine pGo (s_iload_n dX11_step_8 rfl) ?_
  refine pGo (s_iast dX11_step_9 (ob_85 hst) (bnd g1)) ?_
  refine pGo (s_aload_n dX11_step_10 rfl (by decide)) ?_
  refine pGoE (y := 86) (s_getF pc11 fl_X11_67 dX11_step_11 (ob_68 hst) rfl (by decide)) (by decide) ?_
  refine pGo (s_aload_n dX11_step_14 rfl (by decide)) ?_
  refine pGoE (y := (rd σ 68 44)) (s_getI pc11 fl_X11_390 dX11_step_15 (ob_68 hst) rfl (by decide)) (rd_wr_a _ (by decide)) ?_
  refine pGo (s_iload_n dX11_step_18 rfl) ?_
  refine pGo (s_iast dX11_step_19 (ob_86 hst) (bnd g1)) ?_
  refine pGo (s_aload_n dX11_step_20 rfl (by decide)) ?_
  refine pGo (s_dup dX11_step_21 (by decide)) ?_
  refine pGoE (y := (rd σ 68 44)) (s_getI pc11 fl_X11_390 dX11_step_22 (ob_68 hst) rfl (by decide)) ((rd_wr_a _ (by decide)).trans (rd_wr_a _ (by decide))) ?_
  refine pGo (s_iconst dX11_step_25) ?_
  refine pGo (s_iadd dX11_step_26) ?_
  refine pGo (s_putI pc11 fl_X11_390 dX11_step_27 (ob_68 hst) rfl rfl rfl rfl) ?_
  exact pEnd (r := none) dX11_step_30 rfl k1
set_option maxRecDepth 100000 in
theorem g_X11_top_0 {d : Nat} {σ : pS} {Q : Option pV → pS → Prop} (hd : 0 ≤ d) (hst : Stat σ)   (g1 : inR (rd σ 68 48)) (g2 : ∀ (c1 : (rd σ 68 48) ≠ 0), 0 ≤ ((rd σ 68 48) - 1) ∧ ((rd σ 68 48) - 1) < 300) (k1 : ∀ (c1 : (rd σ 68 48) ≠ 0), Q (some (0, (rd σ 95 ((rd σ 68 48) - 1)))) σ) (k2 : ∀ (c2 : (rd σ 68 48) = 0), Q (some (0, 28)) σ) : pC mX11_top d [(2, 68)] σ Q := by
  show pR mX11_top d 0 [(2, 68)] [] σ Q
  refine pGo (s_aload_n dX11_top_0 rfl (by decide)) ?_
  refine pGoE (y := (rd σ 68 48)) (s_getI pc11 fl_X11_393 dX11_top_1 (ob_68 hst) rfl (by decide)) rfl ?_
  refine p_ifne (tgt := 12) dX11_top_4 (by decide) g1 (fun c1 => ?_) (fun c2 => ?_)
  · refine pGo (s_aload_n dX11_top_12 rfl (by decide)) ?_
    refine pGoE (y := 95) (s_getF pc11 fl_X11_94 dX11_top_13 (ob_68 hst) rfl (by decide)) (by decide) ?_
    refine pGo (s_aload_n dX11_top_16 rfl (by decide)) ?_
    refine pGoE (y := (rd σ 68 48)) (s_getI pc11 fl_X11_393 dX11_top_17 (ob_68 hst) rfl (by decide)) rfl ?_
    refine pGo (s_iconst dX11_top_20) ?_
    refine pGo (s_isub dX11_top_21) ?_
    refine pGoE (y := (rd σ 95 ((rd σ 68 48) - 1))) (s_iald dX11_top_22 (ob_95 hst) (bnd (g2 c1))) rfl ?_
    exact pEnd (r := (some (0, (rd σ 95 ((rd σ 68 48) - 1))))) dX11_top_23 ⟨_, rfl⟩ (k1 c1)
  · refine pGo (s_bipush dX11_top_7 (by decide)) ?_
    refine pGo (s_goto (tgt := 23) dX11_top_9 (by decide)) ?_
    exact pEnd (r := (some (0, 28))) dX11_top_23 ⟨_, rfl⟩ (k2 c2)
set_option maxRecDepth 100000 in
theorem g_X11_hold_0 {d : Nat} {σ : pS} {Q : Option pV → pS → Prop} (hd : 0 ≤ d) (hst : Stat σ) (x1 : Int)  (g1 : 0 ≤ (rd σ 68 48) ∧ (rd σ 68 48) < 300) (g2 : inR x1) (k1 : ∀ (c1 : x1 = 28), Q none (wr (wr (wr σ 95 (rd σ 68 48) x1) 68 48 ((rd σ 68 48) + 1)) 68 49 ((rd σ 68 49) + 1))) (k2 : ∀ (c2 : x1 ≠ 28) (c3 : x1 ≠ 20), Q none (wr (wr σ 95 (rd σ 68 48) x1) 68 48 ((rd σ 68 48) + 1))) (k3 : ∀ (c2 : x1 ≠ 28) (c4 : x1 = 20), Q none (wr (wr (wr σ 95 (rd σ 68 48) x1) 68 48 ((rd σ 68 48) + 1)) 68 49 ((rd σ 68 49) + 1))) : pC mX11_hold d [(2, 68), (0, x1)] σ Q := by
  show pR mX11_hold d 0 [(2, 68), (0, x1)] [] σ Q
  refine pGo (s_aload_n dX11_hold_0 rfl (by decide)) ?_
  refine pGoE (y := 95) (s_getF pc11 fl_X11_94 dX11_hold_1 (ob_68 hst) rfl (by decide)) (by decide) ?_
  refine pGo (s_aload_n dX11_hold_4 rfl (by decide)) ?_
  refine pGoE (y := (rd σ 68 48)) (s_getI pc11 fl_X11_393 dX11_hold_5 (ob_68 hst) rfl (by decide)) rfl ?_
  refine pGo (s_iload_n dX11_hold_8 rfl) ?_
  refine pGo (s_iast dX11_hold_9 (ob_95 hst) (bnd g1)) ?_
  refine pGo (s_aload_n dX11_hold_10 rfl (by decide)) ?_
  refine pGo (s_dup dX11_hold_11 (by decide)) ?_
  refine pGoE (y := (rd σ 68 48)) (s_getI pc11 fl_X11_393 dX11_hold_12 (ob_68 hst) rfl (by decide)) (rd_wr_a _ (by decide)) ?_
  refine pGo (s_iconst dX11_hold_15) ?_
  refine pGo (s_iadd dX11_hold_16) ?_
  refine pGo (s_putI pc11 fl_X11_393 dX11_hold_17 (ob_68 hst) rfl rfl rfl rfl) ?_
  refine pGo (s_iload_n dX11_hold_20 rfl) ?_
  refine pGo (s_bipush dX11_hold_21 (by decide)) ?_
  refine p_iceq (tgt := 32) dX11_hold_23 (by decide) g2 (by decide) (fun c1 => ?_) (fun c2 => ?_)
  · refine pGo (s_aload_n dX11_hold_32 rfl (by decide)) ?_
    refine pGo (s_dup dX11_hold_33 (by decide)) ?_
    refine pGoE (y := (rd σ 68 49)) (s_getI pc11 fl_X11_396 dX11_hold_34 (ob_68 hst) rfl (by decide)) ((rd_wr_i _ (by decide)).trans (rd_wr_a _ (by decide))) ?_
    refine pGo (s_iconst dX11_hold_37) ?_
    refine pGo (s_iadd dX11_hold_38) ?_
    refine pGo (s_putI pc11 fl_X11_396 dX11_hold_39 (ob_68 hst) rfl rfl rfl rfl) ?_
    exact pEnd (r := none) dX11_hold_42 rfl (k1 c1)
  · refine pGo (s_iload_n dX11_hold_26 rfl) ?_
    refine pGo (s_bipush dX11_hold_27 (by decide)) ?_
    refine p_icne (tgt := 42) dX11_hold_29 (by decide) g2 (by decide) (fun c3 => ?_) (fun c4 => ?_)
    · exact pEnd (r := none) dX11_hold_42 rfl (k2 c2 c3)
    · refine pGo (s_aload_n dX11_hold_32 rfl (by decide)) ?_
      refine pGo (s_dup dX11_hold_33 (by decide)) ?_
      refine pGoE (y := (rd σ 68 49)) (s_getI pc11 fl_X11_396 dX11_hold_34 (ob_68 hst) rfl (by decide)) ((rd_wr_i _ (by decide)).trans (rd_wr_a _ (by decide))) ?_
      refine pGo (s_iconst dX11_hold_37) ?_
      refine pGo (s_iadd dX11_hold_38) ?_
      refine pGo (s_putI pc11 fl_X11_396 dX11_hold_39 (ob_68 hst) rfl rfl rfl rfl) ?_
      exact pEnd (r := none) dX11_hold_42 rfl (k3 c2 c4)
set_option maxRecDepth 100000 in
theorem g_X11_pop_0 {d : Nat} {σ : pS} {Q : Option pV → pS → Prop} {Q1 : Option pV → pS → Prop} {Q2 : Option pV → pS → Prop} (hd : 1 ≤ d) (hst : Stat σ)   (g1 : 0 ≤ ((rd σ 68 48) - 1) ∧ ((rd σ 68 48) - 1) < 300) (g2 : inR (rd σ 95 ((rd σ 68 48) - 1))) (f1 : ∀ (c1 : (rd σ 95 ((rd σ 68 48) - 1)) ≠ 20), pC mX11_step 0 [(2, 68), (0, (rd σ 95 ((rd σ 68 48) - 1))), (0, 0)] (wr σ 68 48 ((rd σ 68 48) - 1)) Q1) (k1 : ∀ (c1 : (rd σ 95 ((rd σ 68 48) - 1)) ≠ 20) (τ1 : pS) (e1 : pLe (wr σ 68 48 ((rd σ 68 48) - 1)) τ1) (q1 : Q1 none τ1), Q none τ1) (f2 : ∀ (c2 : (rd σ 95 ((rd σ 68 48) - 1)) = 20), pC mX11_step 0 [(2, 68), (0, (rd σ 95 ((rd σ 68 48) - 1))), (0, 0)] (wr (wr σ 68 48 ((rd σ 68 48) - 1)) 68 49 ((rd σ 68 49) - 1)) Q2) (k2 : ∀ (c2 : (rd σ 95 ((rd σ 68 48) - 1)) = 20) (τ2 : pS) (e2 : pLe (wr (wr σ 68 48 ((rd σ 68 48) - 1)) 68 49 ((rd σ 68 49) - 1)) τ2) (q2 : Q2 none τ2), Q none τ2) : pC mX11_pop d [(2, 68)] σ Q := by
  show pR mX11_pop d 0 [(2, 68)] [] σ Q
  refine pGo (s_aload_n dX11_pop_0 rfl (by decide)) ?_
  refine pGo (s_dup dX11_pop_1 (by decide)) ?_
  refine pGoE (y := (rd σ 68 48)) (s_getI pc11 fl_X11_393 dX11_pop_2 (ob_68 hst) rfl (by decide)) rfl ?_
  refine pGo (s_iconst dX11_pop_5) ?_
  refine pGo (s_isub dX11_pop_6) ?_
  refine pGo (s_putI pc11 fl_X11_393 dX11_pop_7 (ob_68 hst) rfl rfl rfl rfl) ?_
  refine pGo (s_aload_n dX11_pop_10 rfl (by decide)) ?_
  refine pGoE (y := 95) (s_getF pc11 fl_X11_94 dX11_pop_11 (ob_68 hst) rfl (by decide)) (by decide) ?_
  refine pGo (s_aload_n dX11_pop_14 rfl (by decide)) ?_
  refine pGoE (y := ((rd σ 68 48) - 1)) (s_getI pc11 fl_X11_393 dX11_pop_15 (ob_68 hst) rfl (by decide)) (rd_wr_same _ _ _ _) ?_
  refine pGoE (y := (rd σ 95 ((rd σ 68 48) - 1))) (s_iald dX11_pop_18 (ob_95 hst) (bnd g1)) (rd_wr_a _ (by decide)) ?_
  refine pGo (s_bipush dX11_pop_19 (by decide)) ?_
  refine p_icne (tgt := 34) dX11_pop_21 (by decide) g2 (by decide) (fun c1 => ?_) (fun c2 => ?_)
  · refine pGo (s_aload_n dX11_pop_34 rfl (by decide)) ?_
    refine pGo (s_aload_n dX11_pop_35 rfl (by decide)) ?_
    refine pGoE (y := 95) (s_getF pc11 fl_X11_94 dX11_pop_36 (ob_68 hst) rfl (by decide)) (by decide) ?_
    refine pGo (s_aload_n dX11_pop_39 rfl (by decide)) ?_
    refine pGoE (y := ((rd σ 68 48) - 1)) (s_getI pc11 fl_X11_393 dX11_pop_40 (ob_68 hst) rfl (by decide)) (rd_wr_same _ _ _ _) ?_
    refine pGoE (y := (rd σ 95 ((rd σ 68 48) - 1))) (s_iald dX11_pop_43 (ob_95 hst) (bnd g1)) (rd_wr_a _ (by decide)) ?_
    refine pGo (s_iconst dX11_pop_44) ?_
    refine p_callV (As := [(0, (rd σ 95 ((rd σ 68 48) - 1))), (0, 0)]) (st := []) (n := 2) (d' := 0) (Q1 := Q1) pc11 ok_X11_step ml_X11_399 im_X11_step se_X11_step dX11_pop_45 (ob_68 hst) (pargs_of rfl) rfl (Nat.le_of_ble_eq_true rfl) (by omega) (f1 c1) (fun r1 τ1 e1 q1 w1 => ?_)
    obtain rfl : r1 = none := w1
    have S1 : Stat τ1 := (Stat.le (σ := (wr σ 68 48 ((rd σ 68 48) - 1))) hst e1)
    show pR mX11_pop d 48 [(2, 68)] [] τ1 Q
    exact pEnd (r := none) dX11_pop_48 rfl (k1 c1 τ1 e1 q1)
  · refine pGo (s_aload_n dX11_pop_24 rfl (by decide)) ?_
    refine pGo (s_dup dX11_pop_25 (by decide)) ?_
    refine pGoE (y := (rd σ 68 49)) (s_getI pc11 fl_X11_396 dX11_pop_26 (ob_68 hst) rfl (by decide)) (rd_wr_i _ (by decide)) ?_
    refine pGo (s_iconst dX11_pop_29) ?_
    refine pGo (s_isub dX11_pop_30) ?_
    refine pGo (s_putI pc11 fl_X11_396 dX11_pop_31 (ob_68 hst) rfl rfl rfl rfl) ?_
    refine pGo (s_aload_n dX11_pop_34 rfl (by decide)) ?_
    refine pGo (s_aload_n dX11_pop_35 rfl (by decide)) ?_
    refine pGoE (y := 95) (s_getF pc11 fl_X11_94 dX11_pop_36 (ob_68 hst) rfl (by decide)) (by decide) ?_
    refine pGo (s_aload_n dX11_pop_39 rfl (by decide)) ?_
    refine pGoE (y := ((rd σ 68 48) - 1)) (s_getI pc11 fl_X11_393 dX11_pop_40 (ob_68 hst) rfl (by decide)) ((rd_wr_i _ (by decide)).trans (rd_wr_same _ _ _ _)) ?_
    refine pGoE (y := (rd σ 95 ((rd σ 68 48) - 1))) (s_iald dX11_pop_43 (ob_95 hst) (bnd g1)) ((rd_wr_a _ (by decide)).trans (rd_wr_a _ (by decide))) ?_
    refine pGo (s_iconst dX11_pop_44) ?_
    refine p_callV (As := [(0, (rd σ 95 ((rd σ 68 48) - 1))), (0, 0)]) (st := []) (n := 2) (d' := 0) (Q1 := Q2) pc11 ok_X11_step ml_X11_399 im_X11_step se_X11_step dX11_pop_45 (ob_68 hst) (pargs_of rfl) rfl (Nat.le_of_ble_eq_true rfl) (by omega) (f2 c2) (fun r2 τ2 e2 q2 w2 => ?_)
    obtain rfl : r2 = none := w2
    have S2 : Stat τ2 := (Stat.le (σ := (wr (wr σ 68 48 ((rd σ 68 48) - 1)) 68 49 ((rd σ 68 49) - 1))) hst e2)
    show pR mX11_pop d 48 [(2, 68)] [] τ2 Q
    exact pEnd (r := none) dX11_pop_48 rfl (k2 c2 τ2 e2 q2)
set_option maxRecDepth 100000 in
theorem g_X11_isOpen_0 {d : Nat} {σ : pS} {Q : Option pV → pS → Prop} (hd : 0 ≤ d) (hst : Stat σ)   (k1 : pR mX11_isOpen d 4 [(2, 68), (0, 0), (0, 0)] [] σ Q) : pC mX11_isOpen d [(2, 68)] σ Q := by
  show pR mX11_isOpen d 0 [(2, 68), (9, 0), (9, 0)] [] σ Q
  refine pGo (s_iconst dX11_isOpen_0) ?_
  refine pGoL (ls2 := [(2, 68), (0, 0), (9, 0)]) (s_istore_n dX11_isOpen_1 (by decide) rfl) rfl ?_
  refine pGo (s_iconst dX11_isOpen_2) ?_
  refine pGoL (ls2 := [(2, 68), (0, 0), (0, 0)]) (s_istore_n dX11_isOpen_3 (by decide) rfl) rfl ?_
  exact k1
set_option maxRecDepth 100000 in
theorem g_X11_isOpen_4 {d : Nat} {σ : pS} {Q : Option pV → pS → Prop} (hd : 0 ≤ d) (hst : Stat σ) (x1 : Int) (x2 : Int)  (g1 : inR x2) (g2 : inR (rd σ 68 48)) (k1 : ∀ (c1 : (rd σ 68 48) ≤ x2), Q (some (0, x1)) σ) (g3 : ∀ (c1 : (rd σ 68 48) ≤ x2), x1 = 0 ∨ x1 = 1) (g4 : ∀ (c2 : x2 < (rd σ 68 48)), inR x1) (k2 : ∀ (c2 : x2 < (rd σ 68 48)) (c3 : x1 ≠ 0), pR mX11_isOpen d 4 [(2, 68), (0, 1), (0, (x2 + 1))] [] σ Q) (g5 : ∀ (c2 : x2 < (rd σ 68 48)) (c4 : x1 = 0), 0 ≤ x2 ∧ x2 < 300) (g6 : ∀ (c2 : x2 < (rd σ 68 48)) (c4 : x1 = 0), inR (rd σ 95 x2)) (k3 : ∀ (c2 : x2 < (rd σ 68 48)) (c4 : x1 = 0) (c5 : (rd σ 95 x2) ≠ 28), pR mX11_isOpen d 4 [(2, 68), (0, 0), (0, (x2 + 1))] [] σ Q) (k4 : ∀ (c2 : x2 < (rd σ 68 48)) (c4 : x1 = 0) (c6 : (rd σ 95 x2) = 28), pR mX11_isOpen d 4 [(2, 68), (0, 1), (0, (x2 + 1))] [] σ Q) : pR mX11_isOpen d 4 [(2, 68), (0, x1), (0, x2)] [] σ Q := by
  refine pGo (s_iload_n dX11_isOpen_4 rfl) ?_
  refine pGo (s_aload_n dX11_isOpen_5 rfl (by decide)) ?_
  refine pGoE (y := (rd σ 68 48)) (s_getI pc11 fl_X11_393 dX11_isOpen_6 (ob_68 hst) rfl (by decide)) rfl ?_
  refine p_icge (tgt := 39) dX11_isOpen_9 (by decide) g1 g2 (fun c1 => ?_) (fun c2 => ?_)
  · refine pGo (s_iload_n dX11_isOpen_39 rfl) ?_
    exact pEnd (r := (some (0, x1))) dX11_isOpen_40 (pRok_01 (g3 c1)) (k1 c1)
  · refine pGo (s_iload_n dX11_isOpen_12 rfl) ?_
    refine p_ifne (tgt := 27) dX11_isOpen_13 (by decide) (g4 c2) (fun c3 => ?_) (fun c4 => ?_)
    · refine pGo (s_iconst dX11_isOpen_27) ?_
      refine pGo (s_goto (tgt := 32) dX11_isOpen_28 (by decide)) ?_
      refine pGoL (ls2 := [(2, 68), (0, 1), (0, x2)]) (s_istore_n dX11_isOpen_32 (by decide) rfl) rfl ?_
      refine pGoL (ls2 := [(2, 68), (0, 1), (0, (x2 + 1))]) (s_iinc dX11_isOpen_33 (by decide) rfl rfl) rfl ?_
      refine pGo (s_goto (tgt := 4) dX11_isOpen_36 (by decide)) ?_
      exact (k2 c2 c3)
    · refine pGo (s_aload_n dX11_isOpen_16 rfl (by decide)) ?_
      refine pGoE (y := 95) (s_getF pc11 fl_X11_94 dX11_isOpen_17 (ob_68 hst) rfl (by decide)) (by decide) ?_
      refine pGo (s_iload_n dX11_isOpen_20 rfl) ?_
      refine pGoE (y := (rd σ 95 x2)) (s_iald dX11_isOpen_21 (ob_95 hst) (bnd (g5 c2 c4))) rfl ?_
      refine pGo (s_bipush dX11_isOpen_22 (by decide)) ?_
      refine p_icne (tgt := 31) dX11_isOpen_24 (by decide) (g6 c2 c4) (by decide) (fun c5 => ?_) (fun c6 => ?_)
      · refine pGo (s_iconst dX11_isOpen_31) ?_
        refine pGoL (ls2 := [(2, 68), (0, 0), (0, x2)]) (s_istore_n dX11_isOpen_32 (by decide) rfl) rfl ?_
        refine pGoL (ls2 := [(2, 68), (0, 0), (0, (x2 + 1))]) (s_iinc dX11_isOpen_33 (by decide) rfl rfl) rfl ?_
        refine pGo (s_goto (tgt := 4) dX11_isOpen_36 (by decide)) ?_
        exact (k3 c2 c4 c5)
      · refine pGo (s_iconst dX11_isOpen_27) ?_
        refine pGo (s_goto (tgt := 32) dX11_isOpen_28 (by decide)) ?_
        refine pGoL (ls2 := [(2, 68), (0, 1), (0, x2)]) (s_istore_n dX11_isOpen_32 (by decide) rfl) rfl ?_
        refine pGoL (ls2 := [(2, 68), (0, 1), (0, (x2 + 1))]) (s_iinc dX11_isOpen_33 (by decide) rfl rfl) rfl ?_
        refine pGo (s_goto (tgt := 4) dX11_isOpen_36 (by decide)) ?_
        exact (k4 c2 c4 c6)
set_option maxRecDepth 100000 in
theorem g_X11_named_0 {d : Nat} {σ : pS} {Q : Option pV → pS → Prop} (hd : 0 ≤ d) (hst : Stat σ)   (g1 : inR (rd σ 68 6)) (g2 : ∀ (c1 : (rd σ 68 6) = 1), inL (rd σ 68 9)) (k1 : ∀ (c1 : (rd σ 68 6) = 1) (c3 : (l_cmp (rd σ 68 9) 1752135026) ≠ 0) (c5 : (l_cmp (rd σ 68 9) 2003398244) ≠ 0) (c7 : (l_cmp (rd σ 68 9) 440005915496) ≠ 0) (c9 : (l_cmp (rd σ 68 9) 1936617335) ≠ 0) (c11 : (l_cmp (rd σ 68 9) 444300616805) ≠ 0) (c13 : (l_cmp (rd σ 68 9) 499850634611) ≠ 0), Q (some (0, (-1))) σ) (k2 : ∀ (c1 : (rd σ 68 6) = 1) (c3 : (l_cmp (rd σ 68 9) 1752135026) ≠ 0) (c5 : (l_cmp (rd σ 68 9) 2003398244) ≠ 0) (c7 : (l_cmp (rd σ 68 9) 440005915496) ≠ 0) (c9 : (l_cmp (rd σ 68 9) 1936617335) ≠ 0) (c11 : (l_cmp (rd σ 68 9) 444300616805) ≠ 0) (c14 : (l_cmp (rd σ 68 9) 499850634611) = 0), Q (some (0, 6)) σ) (k3 : ∀ (c1 : (rd σ 68 6) = 1) (c3 : (l_cmp (rd σ 68 9) 1752135026) ≠ 0) (c5 : (l_cmp (rd σ 68 9) 2003398244) ≠ 0) (c7 : (l_cmp (rd σ 68 9) 440005915496) ≠ 0) (c9 : (l_cmp (rd σ 68 9) 1936617335) ≠ 0) (c12 : (l_cmp (rd σ 68 9) 444300616805) = 0), Q (some (0, 5)) σ) (k4 : ∀ (c1 : (rd σ 68 6) = 1) (c3 : (l_cmp (rd σ 68 9) 1752135026) ≠ 0) (c5 : (l_cmp (rd σ 68 9) 2003398244) ≠ 0) (c7 : (l_cmp (rd σ 68 9) 440005915496) ≠ 0) (c10 : (l_cmp (rd σ 68 9) 1936617335) = 0), Q (some (0, 4)) σ) (k5 : ∀ (c1 : (rd σ 68 6) = 1) (c3 : (l_cmp (rd σ 68 9) 1752135026) ≠ 0) (c5 : (l_cmp (rd σ 68 9) 2003398244) ≠ 0) (c8 : (l_cmp (rd σ 68 9) 440005915496) = 0), Q (some (0, 3)) σ) (k6 : ∀ (c1 : (rd σ 68 6) = 1) (c3 : (l_cmp (rd σ 68 9) 1752135026) ≠ 0) (c6 : (l_cmp (rd σ 68 9) 2003398244) = 0), Q (some (0, 2)) σ) (k7 : ∀ (c1 : (rd σ 68 6) = 1) (c4 : (l_cmp (rd σ 68 9) 1752135026) = 0), Q (some (0, 1)) σ) (k8 : ∀ (c2 : (rd σ 68 6) ≠ 1), Q (some (0, (-1))) σ) : pC mX11_named d [(2, 68)] σ Q := by
  show pR mX11_named d 0 [(2, 68)] [] σ Q
  refine pGo (s_aload_n dX11_named_0 rfl (by decide)) ?_
  refine pGoE (y := (rd σ 68 6)) (s_getI pc11 fl_X11_260 dX11_named_1 (ob_68 hst) rfl (by decide)) rfl ?_
  refine pGo (s_iconst dX11_named_4) ?_
  refine p_iceq (tgt := 12) dX11_named_5 (by decide) g1 (by decide) (fun c1 => ?_) (fun c2 => ?_)
  · refine pGo (s_aload_n dX11_named_12 rfl (by decide)) ?_
    refine pGoE (y := (rd σ 68 9)) (s_getJ pc11 fl_X11_253 dX11_named_13 (ob_68 hst) rfl rfl) rfl ?_
    refine pGo (s_ldc2 (n := 1752135026) dX11_named_16 kl_X11_306 (by decide)) ?_
    refine pGo (s_lcmp dX11_named_19 (g2 c1) (by decide)) ?_
    refine p_ifne (tgt := 27) dX11_named_20 (by decide) (l_cmp_R _ _) (fun c3 => ?_) (fun c4 => ?_)
    · refine pGo (s_aload_n dX11_named_27 rfl (by decide)) ?_
      refine pGoE (y := (rd σ 68 9)) (s_getJ pc11 fl_X11_253 dX11_named_28 (ob_68 hst) rfl rfl) rfl ?_
      refine pGo (s_ldc2 (n := 2003398244) dX11_named_31 kl_X11_308 (by decide)) ?_
      refine pGo (s_lcmp dX11_named_34 (g2 c1) (by decide)) ?_
      refine p_ifne (tgt := 42) dX11_named_35 (by decide) (l_cmp_R _ _) (fun c5 => ?_) (fun c6 => ?_)
      · refine pGo (s_aload_n dX11_named_42 rfl (by decide)) ?_
        refine pGoE (y := (rd σ 68 9)) (s_getJ pc11 fl_X11_253 dX11_named_43 (ob_68 hst) rfl rfl) rfl ?_
        refine pGo (s_ldc2 (n := 440005915496) dX11_named_46 kl_X11_310 (by decide)) ?_
        refine pGo (s_lcmp dX11_named_49 (g2 c1) (by decide)) ?_
        refine p_ifne (tgt := 57) dX11_named_50 (by decide) (l_cmp_R _ _) (fun c7 => ?_) (fun c8 => ?_)
        · refine pGo (s_aload_n dX11_named_57 rfl (by decide)) ?_
          refine pGoE (y := (rd σ 68 9)) (s_getJ pc11 fl_X11_253 dX11_named_58 (ob_68 hst) rfl rfl) rfl ?_
          refine pGo (s_ldc2 (n := 1936617335) dX11_named_61 kl_X11_294 (by decide)) ?_
          refine pGo (s_lcmp dX11_named_64 (g2 c1) (by decide)) ?_
          refine p_ifne (tgt := 72) dX11_named_65 (by decide) (l_cmp_R _ _) (fun c9 => ?_) (fun c10 => ?_)
          · refine pGo (s_aload_n dX11_named_72 rfl (by decide)) ?_
            refine pGoE (y := (rd σ 68 9)) (s_getJ pc11 fl_X11_253 dX11_named_73 (ob_68 hst) rfl rfl) rfl ?_
            refine pGo (s_ldc2 (n := 444300616805) dX11_named_76 kl_X11_292 (by decide)) ?_
            refine pGo (s_lcmp dX11_named_79 (g2 c1) (by decide)) ?_
            refine p_ifne (tgt := 87) dX11_named_80 (by decide) (l_cmp_R _ _) (fun c11 => ?_) (fun c12 => ?_)
            · refine pGo (s_aload_n dX11_named_87 rfl (by decide)) ?_
              refine pGoE (y := (rd σ 68 9)) (s_getJ pc11 fl_X11_253 dX11_named_88 (ob_68 hst) rfl rfl) rfl ?_
              refine pGo (s_ldc2 (n := 499850634611) dX11_named_91 kl_X11_282 (by decide)) ?_
              refine pGo (s_lcmp dX11_named_94 (g2 c1) (by decide)) ?_
              refine p_ifne (tgt := 103) dX11_named_95 (by decide) (l_cmp_R _ _) (fun c13 => ?_) (fun c14 => ?_)
              · refine pGo (s_iconst dX11_named_103) ?_
                exact pEnd (r := (some (0, (-1)))) dX11_named_104 ⟨_, rfl⟩ (k1 c1 c3 c5 c7 c9 c11 c13)
              · refine pGo (s_bipush dX11_named_98 (by decide)) ?_
                refine pGo (s_goto (tgt := 104) dX11_named_100 (by decide)) ?_
                exact pEnd (r := (some (0, 6))) dX11_named_104 ⟨_, rfl⟩ (k2 c1 c3 c5 c7 c9 c11 c14)
            · refine pGo (s_iconst dX11_named_83) ?_
              refine pGo (s_goto (tgt := 104) dX11_named_84 (by decide)) ?_
              exact pEnd (r := (some (0, 5))) dX11_named_104 ⟨_, rfl⟩ (k3 c1 c3 c5 c7 c9 c12)
          · refine pGo (s_iconst dX11_named_68) ?_
            refine pGo (s_goto (tgt := 104) dX11_named_69 (by decide)) ?_
            exact pEnd (r := (some (0, 4))) dX11_named_104 ⟨_, rfl⟩ (k4 c1 c3 c5 c7 c10)
        · refine pGo (s_iconst dX11_named_53) ?_
          refine pGo (s_goto (tgt := 104) dX11_named_54 (by decide)) ?_
          exact pEnd (r := (some (0, 3))) dX11_named_104 ⟨_, rfl⟩ (k5 c1 c3 c5 c8)
      · refine pGo (s_iconst dX11_named_38) ?_
        refine pGo (s_goto (tgt := 104) dX11_named_39 (by decide)) ?_
        exact pEnd (r := (some (0, 2))) dX11_named_104 ⟨_, rfl⟩ (k6 c1 c3 c6)
    · refine pGo (s_iconst dX11_named_23) ?_
      refine pGo (s_goto (tgt := 104) dX11_named_24 (by decide)) ?_
      exact pEnd (r := (some (0, 1))) dX11_named_104 ⟨_, rfl⟩ (k7 c1 c4)
  · refine pGo (s_iconst dX11_named_8) ?_
    refine pGo (s_goto (tgt := 104) dX11_named_9 (by decide)) ?_
    exact pEnd (r := (some (0, (-1)))) dX11_named_104 ⟨_, rfl⟩ (k8 c2)
