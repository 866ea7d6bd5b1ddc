/-! walks: small functions -/
def vWithin (n b : Int) : Bool := decide (0 ≤ n ∧ n < b)
def vHour (m : Int) : Int := if m < 480 then m / 60 else 7
def vWay (lifts runs w : Int) : Bool := decide ((0 ≤ w ∧ w < lifts) ∨ (6 ≤ w ∧ w < 6 + runs))
def vIn (way : Int) : Int := if 10 ≤ way ∧ way < 17 then way - 4 else if 0 ≤ way ∧ way < 6 then way else -1
def vWayOf (lifts runs way : Int) : Int := if vWay lifts runs (vIn way) then vIn way else -1
def vOuter (w : Int) : Int := if w < 6 then w else w + 4
def vHas (lifts runs way : Int) : Bool := decide ((0 ≤ way ∧ way < lifts) ∨ (10 ≤ way ∧ way < 10 + runs))
def vDayMin (hasDay m : Int) : Bool := decide (hasDay ≠ 0 ∧ 0 ≤ m ∧ m < 480)
def vCounts (told untold k : Int) : Bool := decide (told ≤ k ∧ (untold < 0 ∨ k < untold))
def vAsk (skill fr minute to : Int) : Bool := decide (0 ≤ skill ∧ skill < 4 ∧ 0 ≤ fr ∧ fr < 10 ∧ 0 ≤ to ∧ to < 10 ∧ 0 ≤ minute ∧ minute < 481)
set_option maxRecDepth 100000 in
theorem g_X10_within_0 {d : Nat} {σ : pS} {Q : Option pV → pS → Prop} (hd : 0 ≤ d) (hst : Stat σ) (x1 : Int) (x2 : Int)  (g1 : inR x1) (k1 : ∀ (c1 : x1 < 0), Q (some (0, 0)) σ) (g2 : ∀ (c2 : 0 ≤ x1), inR x2) (k2 : ∀ (c2 : 0 ≤ x1) (c3 : x2 ≤ x1), Q (some (0, 0)) σ) (k3 : ∀ (c2 : 0 ≤ x1) (c4 : x1 < x2), Q (some (0, 1)) σ) : pC mX10_within d [(0, x1), (0, x2)] σ Q := by
  show pR mX10_within d 0 [(0, x1), (0, x2)] [] σ Q
  refine pGo (s_iload_n dX10_within_0 rfl) ?_
  refine p_iflt (tgt := 13) dX10_within_1 (by decide) g1 (fun c1 => ?_) (fun c2 => ?_)
  · refine pGo (s_iconst dX10_within_13) ?_
    exact pEnd (r := (some (0, 0))) dX10_within_14 (Or.inl rfl) (k1 c1)
  · refine pGo (s_iload_n dX10_within_4 rfl) ?_
    refine pGo (s_iload_n dX10_within_5 rfl) ?_
    refine p_icge (tgt := 13) dX10_within_6 (by decide) g1 (g2 c2) (fun c3 => ?_) (fun c4 => ?_)
    · refine pGo (s_iconst dX10_within_13) ?_
      exact pEnd (r := (some (0, 0))) dX10_within_14 (Or.inl rfl) (k2 c2 c3)
    · refine pGo (s_iconst dX10_within_9) ?_
      refine pGo (s_goto (tgt := 14) dX10_within_10 (by decide)) ?_
      exact pEnd (r := (some (0, 1))) dX10_within_14 (Or.inr rfl) (k3 c2 c4)
set_option maxRecDepth 100000 in
theorem g_X10_hourOf_0 {d : Nat} {σ : pS} {Q : Option pV → pS → Prop} (hd : 0 ≤ d) (hst : Stat σ) (x1 : Int)  (g1 : inR x1) (k1 : ∀ (c1 : 480 ≤ x1), Q (some (0, 7)) σ) (g2 : ∀ (c2 : x1 < 480), 0 ≤ x1 ∧ x1 < 2147483648) (k2 : ∀ (c2 : x1 < 480), Q (some (0, (x1 / 60))) σ) : pC mX10_hourOf d [(0, x1)] σ Q := by
  show pR mX10_hourOf d 0 [(0, x1)] [] σ Q
  refine pGo (s_iload_n dX10_hourOf_0 rfl) ?_
  refine pGo (s_sipush dX10_hourOf_1 (by decide)) ?_
  refine p_icge (tgt := 14) dX10_hourOf_4 (by decide) g1 (by decide) (fun c1 => ?_) (fun c2 => ?_)
  · refine pGo (s_bipush dX10_hourOf_14 (by decide)) ?_
    exact pEnd (r := (some (0, 7))) dX10_hourOf_16 ⟨_, rfl⟩ (k1 c1)
  · refine pGo (s_iload_n dX10_hourOf_7 rfl) ?_
    refine pGo (s_bipush dX10_hourOf_8 (by decide)) ?_
    refine pGo (s_idivp dX10_hourOf_10 (g2 c2) (by decide)) ?_
    refine pGo (s_goto (tgt := 16) dX10_hourOf_11 (by decide)) ?_
    exact pEnd (r := (some (0, (x1 / 60)))) dX10_hourOf_16 ⟨_, rfl⟩ (k2 c2)
set_option maxRecDepth 100000 in
theorem g_X11_hourOf_0 {d : Nat} {σ : pS} {Q : Option pV → pS → Prop} (hd : 0 ≤ d) (hst : Stat σ) (x1 : Int)  (g1 : 0 ≤ x1 ∧ x1 < 2147483648) (g2 : inR (x1 / 60)) (k1 : ∀ (c1 : (x1 / 60) ≤ 7), Q (some (0, (x1 / 60))) σ) (k2 : ∀ (c2 : 7 < (x1 / 60)), Q (some (0, 7)) σ) : pC mX11_hourOf d [(0, x1)] σ Q := by
  show pR mX11_hourOf d 0 [(0, x1)] [] σ Q
  refine pGo (s_iload_n dX11_hourOf_0 rfl) ?_
  refine pGo (s_bipush dX11_hourOf_1 (by decide)) ?_
  refine pGo (s_idivp dX11_hourOf_3 g1 (by decide)) ?_
  refine pGo (s_bipush dX11_hourOf_4 (by decide)) ?_
  refine p_icle (tgt := 14) dX11_hourOf_6 (by decide) g2 (by decide) (fun c1 => ?_) (fun c2 => ?_)
  · refine pGo (s_iload_n dX11_hourOf_14 rfl) ?_
    refine pGo (s_bipush dX11_hourOf_15 (by decide)) ?_
    refine pGo (s_idivp dX11_hourOf_17 g1 (by decide)) ?_
    exact pEnd (r := (some (0, (x1 / 60)))) dX11_hourOf_18 ⟨_, rfl⟩ (k1 c1)
  · refine pGo (s_bipush dX11_hourOf_9 (by decide)) ?_
    refine pGo (s_goto (tgt := 18) dX11_hourOf_11 (by decide)) ?_
    exact pEnd (r := (some (0, 7))) dX11_hourOf_18 ⟨_, rfl⟩ (k2 c2)
set_option maxRecDepth 100000 in
theorem g_X11_isWay_0 {d : Nat} {σ : pS} {Q : Option pV → pS → Prop} (hd : 0 ≤ d) (hst : Stat σ) (x1 : Int)  (g1 : inR x1) (k1 : ∀ (c1 : x1 < 0) (c3 : x1 < 6), Q (some (0, 0)) σ) (g2 : ∀ (c1 : x1 < 0) (c4 : 6 ≤ x1), inR (6 + (rd σ 68 31))) (k2 : ∀ (c1 : x1 < 0) (c4 : 6 ≤ x1) (c5 : (6 + (rd σ 68 31)) ≤ x1), Q (some (0, 0)) σ) (k3 : ∀ (c1 : x1 < 0) (c4 : 6 ≤ x1) (c6 : x1 < (6 + (rd σ 68 31))), Q (some (0, 1)) σ) (g3 : ∀ (c2 : 0 ≤ x1), inR (rd σ 68 30)) (k4 : ∀ (c2 : 0 ≤ x1) (c7 : x1 < (rd σ 68 30)), Q (some (0, 1)) σ) (k5 : ∀ (c2 : 0 ≤ x1) (c8 : (rd σ 68 30) ≤ x1) (c9 : x1 < 6), Q (some (0, 0)) σ) (g4 : ∀ (c2 : 0 ≤ x1) (c8 : (rd σ 68 30) ≤ x1) (c10 : 6 ≤ x1), inR (6 + (rd σ 68 31))) (k6 : ∀ (c2 : 0 ≤ x1) (c8 : (rd σ 68 30) ≤ x1) (c10 : 6 ≤ x1) (c11 : (6 + (rd σ 68 31)) ≤ x1), Q (some (0, 0)) σ) (k7 : ∀ (c2 : 0 ≤ x1) (c8 : (rd σ 68 30) ≤ x1) (c10 : 6 ≤ x1) (c12 : x1 < (6 + (rd σ 68 31))), Q (some (0, 1)) σ) : pC mX11_isWay d [(2, 68), (0, x1)] σ Q := by
  show pR mX11_isWay d 0 [(2, 68), (0, x1)] [] σ Q
  refine pGo (s_iload_n dX11_isWay_0 rfl) ?_
  refine p_iflt (tgt := 12) dX11_isWay_1 (by decide) g1 (fun c1 => ?_) (fun c2 => ?_)
  · refine pGo (s_iload_n dX11_isWay_12 rfl) ?_
    refine pGo (s_bipush dX11_isWay_13 (by decide)) ?_
    refine p_iclt (tgt := 33) dX11_isWay_15 (by decide) g1 (by decide) (fun c3 => ?_) (fun c4 => ?_)
    · refine pGo (s_iconst dX11_isWay_33) ?_
      exact pEnd (r := (some (0, 0))) dX11_isWay_34 (Or.inl rfl) (k1 c1 c3)
    · refine pGo (s_iload_n dX11_isWay_18 rfl) ?_
      refine pGo (s_bipush dX11_isWay_19 (by decide)) ?_
      refine pGo (s_aload_n dX11_isWay_21 rfl (by decide)) ?_
      refine pGoE (y := (rd σ 68 31)) (s_getI pc11 fl_X11_369 dX11_isWay_22 (ob_68 hst) rfl (by decide)) rfl ?_
      refine pGo (s_iadd dX11_isWay_25) ?_
      refine p_icge (tgt := 33) dX11_isWay_26 (by decide) g1 (g2 c1 c4) (fun c5 => ?_) (fun c6 => ?_)
      · refine pGo (s_iconst dX11_isWay_33) ?_
        exact pEnd (r := (some (0, 0))) dX11_isWay_34 (Or.inl rfl) (k2 c1 c4 c5)
      · refine pGo (s_iconst dX11_isWay_29) ?_
        refine pGo (s_goto (tgt := 34) dX11_isWay_30 (by decide)) ?_
        exact pEnd (r := (some (0, 1))) dX11_isWay_34 (Or.inr rfl) (k3 c1 c4 c6)
  · refine pGo (s_iload_n dX11_isWay_4 rfl) ?_
    refine pGo (s_aload_n dX11_isWay_5 rfl (by decide)) ?_
    refine pGoE (y := (rd σ 68 30)) (s_getI pc11 fl_X11_366 dX11_isWay_6 (ob_68 hst) rfl (by decide)) rfl ?_
    refine p_iclt (tgt := 29) dX11_isWay_9 (by decide) g1 (g3 c2) (fun c7 => ?_) (fun c8 => ?_)
    · refine pGo (s_iconst dX11_isWay_29) ?_
      refine pGo (s_goto (tgt := 34) dX11_isWay_30 (by decide)) ?_
      exact pEnd (r := (some (0, 1))) dX11_isWay_34 (Or.inr rfl) (k4 c2 c7)
    · refine pGo (s_iload_n dX11_isWay_12 rfl) ?_
      refine pGo (s_bipush dX11_isWay_13 (by decide)) ?_
      refine p_iclt (tgt := 33) dX11_isWay_15 (by decide) g1 (by decide) (fun c9 => ?_) (fun c10 => ?_)
      · refine pGo (s_iconst dX11_isWay_33) ?_
        exact pEnd (r := (some (0, 0))) dX11_isWay_34 (Or.inl rfl) (k5 c2 c8 c9)
      · refine pGo (s_iload_n dX11_isWay_18 rfl) ?_
        refine pGo (s_bipush dX11_isWay_19 (by decide)) ?_
        refine pGo (s_aload_n dX11_isWay_21 rfl (by decide)) ?_
        refine pGoE (y := (rd σ 68 31)) (s_getI pc11 fl_X11_369 dX11_isWay_22 (ob_68 hst) rfl (by decide)) rfl ?_
        refine pGo (s_iadd dX11_isWay_25) ?_
        refine p_icge (tgt := 33) dX11_isWay_26 (by decide) g1 (g4 c2 c8 c10) (fun c11 => ?_) (fun c12 => ?_)
        · refine pGo (s_iconst dX11_isWay_33) ?_
          exact pEnd (r := (some (0, 0))) dX11_isWay_34 (Or.inl rfl) (k6 c2 c8 c10 c11)
        · refine pGo (s_iconst dX11_isWay_29) ?_
          refine pGo (s_goto (tgt := 34) dX11_isWay_30 (by decide)) ?_
          exact pEnd (r := (some (0, 1))) dX11_isWay_34 (Or.inr rfl) (k7 c2 c8 c10 c12)
set_option maxRecDepth 100000 in
theorem g_X11_wayOf_0 {d : Nat} {σ : pS} {Q : Option pV → pS → Prop} (hd : 1 ≤ d) (hst : Stat σ) (x1 : Int)  (g1 : inR x1) (f1 : ∀ (c1 : x1 < 10) (c3 : x1 < 0), pC mX11_isWay 0 [(2, 68), (0, (-1))] σ (fun r τ => r = some (0, b2i (vWay (rd σ 68 30) (rd σ 68 31) (-1))) ∧ τ = σ)) (k1 : ∀ (c1 : x1 < 10) (c3 : x1 < 0) (c5 : (vWay (rd σ 68 30) (rd σ 68 31) (-1)) = false), Q (some (0, (-1))) σ) (k2 : ∀ (c1 : x1 < 10) (c3 : x1 < 0) (c6 : (vWay (rd σ 68 30) (rd σ 68 31) (-1)) = true), Q (some (0, (-1))) σ) (f2 : ∀ (c1 : x1 < 10) (c4 : 0 ≤ x1) (c7 : 6 ≤ x1), pC mX11_isWay 0 [(2, 68), (0, (-1))] σ (fun r τ => r = some (0, b2i (vWay (rd σ 68 30) (rd σ 68 31) (-1))) ∧ τ = σ)) (k3 : ∀ (c1 : x1 < 10) (c4 : 0 ≤ x1) (c7 : 6 ≤ x1) (c9 : (vWay (rd σ 68 30) (rd σ 68 31) (-1)) = false), Q (some (0, (-1))) σ) (k4 : ∀ (c1 : x1 < 10) (c4 : 0 ≤ x1) (c7 : 6 ≤ x1) (c10 : (vWay (rd σ 68 30) (rd σ 68 31) (-1)) = true), Q (some (0, (-1))) σ) (f3 : ∀ (c1 : x1 < 10) (c4 : 0 ≤ x1) (c8 : x1 < 6), pC mX11_isWay 0 [(2, 68), (0, x1)] σ (fun r τ => r = some (0, b2i (vWay (rd σ 68 30) (rd σ 68 31) x1)) ∧ τ = σ)) (k5 : ∀ (c1 : x1 < 10) (c4 : 0 ≤ x1) (c8 : x1 < 6) (c11 : (vWay (rd σ 68 30) (rd σ 68 31) x1) = false), Q (some (0, (-1))) σ) (k6 : ∀ (c1 : x1 < 10) (c4 : 0 ≤ x1) (c8 : x1 < 6) (c12 : (vWay (rd σ 68 30) (rd σ 68 31) x1) = true), Q (some (0, x1)) σ) (f4 : ∀ (c2 : 10 ≤ x1) (c13 : 17 ≤ x1) (c15 : x1 < 0), pC mX11_isWay 0 [(2, 68), (0, (-1))] σ (fun r τ => r = some (0, b2i (vWay (rd σ 68 30) (rd σ 68 31) (-1))) ∧ τ = σ)) (k7 : ∀ (c2 : 10 ≤ x1) (c13 : 17 ≤ x1) (c15 : x1 < 0) (c17 : (vWay (rd σ 68 30) (rd σ 68 31) (-1)) = false), Q (some (0, (-1))) σ) (k8 : ∀ (c2 : 10 ≤ x1) (c13 : 17 ≤ x1) (c15 : x1 < 0) (c18 : (vWay (rd σ 68 30) (rd σ 68 31) (-1)) = true), Q (some (0, (-1))) σ) (f5 : ∀ (c2 : 10 ≤ x1) (c13 : 17 ≤ x1) (c16 : 0 ≤ x1) (c19 : 6 ≤ x1), pC mX11_isWay 0 [(2, 68), (0, (-1))] σ (fun r τ => r = some (0, b2i (vWay (rd σ 68 30) (rd σ 68 31) (-1))) ∧ τ = σ)) (k9 : ∀ (c2 : 10 ≤ x1) (c13 : 17 ≤ x1) (c16 : 0 ≤ x1) (c19 : 6 ≤ x1) (c21 : (vWay (rd σ 68 30) (rd σ 68 31) (-1)) = false), Q (some (0, (-1))) σ) (k10 : ∀ (c2 : 10 ≤ x1) (c13 : 17 ≤ x1) (c16 : 0 ≤ x1) (c19 : 6 ≤ x1) (c22 : (vWay (rd σ 68 30) (rd σ 68 31) (-1)) = true), Q (some (0, (-1))) σ) (f6 : ∀ (c2 : 10 ≤ x1) (c13 : 17 ≤ x1) (c16 : 0 ≤ x1) (c20 : x1 < 6), pC mX11_isWay 0 [(2, 68), (0, x1)] σ (fun r τ => r = some (0, b2i (vWay (rd σ 68 30) (rd σ 68 31) x1)) ∧ τ = σ)) (k11 : ∀ (c2 : 10 ≤ x1) (c13 : 17 ≤ x1) (c16 : 0 ≤ x1) (c20 : x1 < 6) (c23 : (vWay (rd σ 68 30) (rd σ 68 31) x1) = false), Q (some (0, (-1))) σ) (k12 : ∀ (c2 : 10 ≤ x1) (c13 : 17 ≤ x1) (c16 : 0 ≤ x1) (c20 : x1 < 6) (c24 : (vWay (rd σ 68 30) (rd σ 68 31) x1) = true), Q (some (0, x1)) σ) (f7 : ∀ (c2 : 10 ≤ x1) (c14 : x1 < 17), pC mX11_isWay 0 [(2, 68), (0, ((6 + x1) - 10))] σ (fun r τ => r = some (0, b2i (vWay (rd σ 68 30) (rd σ 68 31) ((6 + x1) - 10))) ∧ τ = σ)) (k13 : ∀ (c2 : 10 ≤ x1) (c14 : x1 < 17) (c25 : (vWay (rd σ 68 30) (rd σ 68 31) ((6 + x1) - 10)) = false), Q (some (0, (-1))) σ) (k14 : ∀ (c2 : 10 ≤ x1) (c14 : x1 < 17) (c26 : (vWay (rd σ 68 30) (rd σ 68 31) ((6 + x1) - 10)) = true), Q (some (0, ((6 + x1) - 10))) σ) : pC mX11_wayOf d [(2, 68), (0, x1)] σ Q := by
  show pR mX11_wayOf d 0 [(2, 68), (0, x1), (9, 0)] [] σ Q
  refine pGo (s_iload_n dX11_wayOf_0 rfl) ?_
  refine pGo (s_bipush dX11_wayOf_1 (by decide)) ?_
  refine p_iclt (tgt := 22) dX11_wayOf_3 (by decide) g1 (by decide) (fun c1 => ?_) (fun c2 => ?_)
  · refine pGo (s_iload_n dX11_wayOf_22 rfl) ?_
    refine p_iflt (tgt := 36) dX11_wayOf_23 (by decide) g1 (fun c3 => ?_) (fun c4 => ?_)
    · refine pGo (s_iconst dX11_wayOf_36) ?_
      refine pGoL (ls2 := [(2, 68), (0, x1), (0, (-1))]) (s_istore_n dX11_wayOf_37 (by decide) rfl) rfl ?_
      refine pGo (s_aload_n dX11_wayOf_38 rfl (by decide)) ?_
      refine pGo (s_iload_n dX11_wayOf_39 rfl) ?_
      refine p_callV (As := [(0, (-1))]) (st := []) (n := 1) (d' := 0) (Q1 := (fun r τ => r = some (0, b2i (vWay (rd σ 68 30) (rd σ 68 31) (-1))) ∧ τ = σ)) pc11 ok_X11_isWay ml_X11_387 im_X11_isWay se_X11_isWay dX11_wayOf_40 (ob_68 hst) (pargs_of rfl) rfl (Nat.le_of_ble_eq_true rfl) (by omega) (f1 c1 c3) (fun r1 τ1 e1 q1 w1 => ?_)
      obtain ⟨rfl, t1⟩ := q1
      rw [t1]
      show pR mX11_wayOf d 43 [(2, 68), (0, x1), (0, (-1))] [(0, (b2i (vWay (rd σ 68 30) (rd σ 68 31) (-1))))] σ Q
      refine p_ifeqB (tgt := 50) dX11_wayOf_43 (by decide) (fun c5 => ?_) (fun c6 => ?_)
      · refine pGo (s_iconst dX11_wayOf_50) ?_
        exact pEnd (r := (some (0, (-1)))) dX11_wayOf_51 ⟨_, rfl⟩ (k1 c1 c3 c5)
      · refine pGo (s_iload_n dX11_wayOf_46 rfl) ?_
        refine pGo (s_goto (tgt := 51) dX11_wayOf_47 (by decide)) ?_
        exact pEnd (r := (some (0, (-1)))) dX11_wayOf_51 ⟨_, rfl⟩ (k2 c1 c3 c6)
    · refine pGo (s_iload_n dX11_wayOf_26 rfl) ?_
      refine pGo (s_bipush dX11_wayOf_27 (by decide)) ?_
      refine p_icge (tgt := 36) dX11_wayOf_29 (by decide) g1 (by decide) (fun c7 => ?_) (fun c8 => ?_)
      · refine pGo (s_iconst dX11_wayOf_36) ?_
        refine pGoL (ls2 := [(2, 68), (0, x1), (0, (-1))]) (s_istore_n dX11_wayOf_37 (by decide) rfl) rfl ?_
        refine pGo (s_aload_n dX11_wayOf_38 rfl (by decide)) ?_
        refine pGo (s_iload_n dX11_wayOf_39 rfl) ?_
        refine p_callV (As := [(0, (-1))]) (st := []) (n := 1) (d' := 0) (Q1 := (fun r τ => r = some (0, b2i (vWay (rd σ 68 30) (rd σ 68 31) (-1))) ∧ τ = σ)) pc11 ok_X11_isWay ml_X11_387 im_X11_isWay se_X11_isWay dX11_wayOf_40 (ob_68 hst) (pargs_of rfl) rfl (Nat.le_of_ble_eq_true rfl) (by omega) (f2 c1 c4 c7) (fun r2 τ2 e2 q2 w2 => ?_)
        obtain ⟨rfl, t2⟩ := q2
        rw [t2]
        show pR mX11_wayOf d 43 [(2, 68), (0, x1), (0, (-1))] [(0, (b2i (vWay (rd σ 68 30) (rd σ 68 31) (-1))))] σ Q
        refine p_ifeqB (tgt := 50) dX11_wayOf_43 (by decide) (fun c9 => ?_) (fun c10 => ?_)
        · refine pGo (s_iconst dX11_wayOf_50) ?_
          exact pEnd (r := (some (0, (-1)))) dX11_wayOf_51 ⟨_, rfl⟩ (k3 c1 c4 c7 c9)
        · refine pGo (s_iload_n dX11_wayOf_46 rfl) ?_
          refine pGo (s_goto (tgt := 51) dX11_wayOf_47 (by decide)) ?_
          exact pEnd (r := (some (0, (-1)))) dX11_wayOf_51 ⟨_, rfl⟩ (k4 c1 c4 c7 c10)
      · refine pGo (s_iload_n dX11_wayOf_32 rfl) ?_
        refine pGo (s_goto (tgt := 37) dX11_wayOf_33 (by decide)) ?_
        refine pGoL (ls2 := [(2, 68), (0, x1), (0, x1)]) (s_istore_n dX11_wayOf_37 (by decide) rfl) rfl ?_
        refine pGo (s_aload_n dX11_wayOf_38 rfl (by decide)) ?_
        refine pGo (s_iload_n dX11_wayOf_39 rfl) ?_
        refine p_callV (As := [(0, x1)]) (st := []) (n := 1) (d' := 0) (Q1 := (fun r τ => r = some (0, b2i (vWay (rd σ 68 30) (rd σ 68 31) x1)) ∧ τ = σ)) pc11 ok_X11_isWay ml_X11_387 im_X11_isWay se_X11_isWay dX11_wayOf_40 (ob_68 hst) (pargs_of rfl) rfl (Nat.le_of_ble_eq_true rfl) (by omega) (f3 c1 c4 c8) (fun r3 τ3 e3 q3 w3 => ?_)
        obtain ⟨rfl, t3⟩ := q3
        rw [t3]
        show pR mX11_wayOf d 43 [(2, 68), (0, x1), (0, x1)] [(0, (b2i (vWay (rd σ 68 30) (rd σ 68 31) x1)))] σ Q
        refine p_ifeqB (tgt := 50) dX11_wayOf_43 (by decide) (fun c11 => ?_) (fun c12 => ?_)
        · refine pGo (s_iconst dX11_wayOf_50) ?_
          exact pEnd (r := (some (0, (-1)))) dX11_wayOf_51 ⟨_, rfl⟩ (k5 c1 c4 c8 c11)
        · refine pGo (s_iload_n dX11_wayOf_46 rfl) ?_
          refine pGo (s_goto (tgt := 51) dX11_wayOf_47 (by decide)) ?_
          exact pEnd (r := (some (0, x1))) dX11_wayOf_51 ⟨_, rfl⟩ (k6 c1 c4 c8 c12)
  · refine pGo (s_iload_n dX11_wayOf_6 rfl) ?_
    refine pGo (s_bipush dX11_wayOf_7 (by decide)) ?_
    refine p_icge (tgt := 22) dX11_wayOf_9 (by decide) g1 (by decide) (fun c13 => ?_) (fun c14 => ?_)
    · refine pGo (s_iload_n dX11_wayOf_22 rfl) ?_
      refine p_iflt (tgt := 36) dX11_wayOf_23 (by decide) g1 (fun c15 => ?_) (fun c16 => ?_)
      · refine pGo (s_iconst dX11_wayOf_36) ?_
        refine pGoL (ls2 := [(2, 68), (0, x1), (0, (-1))]) (s_istore_n dX11_wayOf_37 (by decide) rfl) rfl ?_
        refine pGo (s_aload_n dX11_wayOf_38 rfl (by decide)) ?_
        refine pGo (s_iload_n dX11_wayOf_39 rfl) ?_
        refine p_callV (As := [(0, (-1))]) (st := []) (n := 1) (d' := 0) (Q1 := (fun r τ => r = some (0, b2i (vWay (rd σ 68 30) (rd σ 68 31) (-1))) ∧ τ = σ)) pc11 ok_X11_isWay ml_X11_387 im_X11_isWay se_X11_isWay dX11_wayOf_40 (ob_68 hst) (pargs_of rfl) rfl (Nat.le_of_ble_eq_true rfl) (by omega) (f4 c2 c13 c15) (fun r4 τ4 e4 q4 w4 => ?_)
        obtain ⟨rfl, t4⟩ := q4
        rw [t4]
        show pR mX11_wayOf d 43 [(2, 68), (0, x1), (0, (-1))] [(0, (b2i (vWay (rd σ 68 30) (rd σ 68 31) (-1))))] σ Q
        refine p_ifeqB (tgt := 50) dX11_wayOf_43 (by decide) (fun c17 => ?_) (fun c18 => ?_)
        · refine pGo (s_iconst dX11_wayOf_50) ?_
          exact pEnd (r := (some (0, (-1)))) dX11_wayOf_51 ⟨_, rfl⟩ (k7 c2 c13 c15 c17)
        · refine pGo (s_iload_n dX11_wayOf_46 rfl) ?_
          refine pGo (s_goto (tgt := 51) dX11_wayOf_47 (by decide)) ?_
          exact pEnd (r := (some (0, (-1)))) dX11_wayOf_51 ⟨_, rfl⟩ (k8 c2 c13 c15 c18)
      · refine pGo (s_iload_n dX11_wayOf_26 rfl) ?_
        refine pGo (s_bipush dX11_wayOf_27 (by decide)) ?_
        refine p_icge (tgt := 36) dX11_wayOf_29 (by decide) g1 (by decide) (fun c19 => ?_) (fun c20 => ?_)
        · refine pGo (s_iconst dX11_wayOf_36) ?_
          refine pGoL (ls2 := [(2, 68), (0, x1), (0, (-1))]) (s_istore_n dX11_wayOf_37 (by decide) rfl) rfl ?_
          refine pGo (s_aload_n dX11_wayOf_38 rfl (by decide)) ?_
          refine pGo (s_iload_n dX11_wayOf_39 rfl) ?_
          refine p_callV (As := [(0, (-1))]) (st := []) (n := 1) (d' := 0) (Q1 := (fun r τ => r = some (0, b2i (vWay (rd σ 68 30) (rd σ 68 31) (-1))) ∧ τ = σ)) pc11 ok_X11_isWay ml_X11_387 im_X11_isWay se_X11_isWay dX11_wayOf_40 (ob_68 hst) (pargs_of rfl) rfl (Nat.le_of_ble_eq_true rfl) (by omega) (f5 c2 c13 c16 c19) (fun r5 τ5 e5 q5 w5 => ?_)
          obtain ⟨rfl, t5⟩ := q5
          rw [t5]
          show pR mX11_wayOf d 43 [(2, 68), (0, x1), (0, (-1))] [(0, (b2i (vWay (rd σ 68 30) (rd σ 68 31) (-1))))] σ Q
          refine p_ifeqB (tgt := 50) dX11_wayOf_43 (by decide) (fun c21 => ?_) (fun c22 => ?_)
          · refine pGo (s_iconst dX11_wayOf_50) ?_
            exact pEnd (r := (some (0, (-1)))) dX11_wayOf_51 ⟨_, rfl⟩ (k9 c2 c13 c16 c19 c21)
          · refine pGo (s_iload_n dX11_wayOf_46 rfl) ?_
            refine pGo (s_goto (tgt := 51) dX11_wayOf_47 (by decide)) ?_
            exact pEnd (r := (some (0, (-1)))) dX11_wayOf_51 ⟨_, rfl⟩ (k10 c2 c13 c16 c19 c22)
        · refine pGo (s_iload_n dX11_wayOf_32 rfl) ?_
          refine pGo (s_goto (tgt := 37) dX11_wayOf_33 (by decide)) ?_
          refine pGoL (ls2 := [(2, 68), (0, x1), (0, x1)]) (s_istore_n dX11_wayOf_37 (by decide) rfl) rfl ?_
          refine pGo (s_aload_n dX11_wayOf_38 rfl (by decide)) ?_
          refine pGo (s_iload_n dX11_wayOf_39 rfl) ?_
          refine p_callV (As := [(0, x1)]) (st := []) (n := 1) (d' := 0) (Q1 := (fun r τ => r = some (0, b2i (vWay (rd σ 68 30) (rd σ 68 31) x1)) ∧ τ = σ)) pc11 ok_X11_isWay ml_X11_387 im_X11_isWay se_X11_isWay dX11_wayOf_40 (ob_68 hst) (pargs_of rfl) rfl (Nat.le_of_ble_eq_true rfl) (by omega) (f6 c2 c13 c16 c20) (fun r6 τ6 e6 q6 w6 => ?_)
          obtain ⟨rfl, t6⟩ := q6
          rw [t6]
          show pR mX11_wayOf d 43 [(2, 68), (0, x1), (0, x1)] [(0, (b2i (vWay (rd σ 68 30) (rd σ 68 31) x1)))] σ Q
          refine p_ifeqB (tgt := 50) dX11_wayOf_43 (by decide) (fun c23 => ?_) (fun c24 => ?_)
          · refine pGo (s_iconst dX11_wayOf_50) ?_
            exact pEnd (r := (some (0, (-1)))) dX11_wayOf_51 ⟨_, rfl⟩ (k11 c2 c13 c16 c20 c23)
          · refine pGo (s_iload_n dX11_wayOf_46 rfl) ?_
            refine pGo (s_goto (tgt := 51) dX11_wayOf_47 (by decide)) ?_
            exact pEnd (r := (some (0, x1))) dX11_wayOf_51 ⟨_, rfl⟩ (k12 c2 c13 c16 c20 c24)
    · refine pGo (s_bipush dX11_wayOf_12 (by decide)) ?_
      refine pGo (s_iload_n dX11_wayOf_14 rfl) ?_
      refine pGo (s_iadd dX11_wayOf_15) ?_
      refine pGo (s_bipush dX11_wayOf_16 (by decide)) ?_
      refine pGo (s_isub dX11_wayOf_18) ?_
      refine pGo (s_goto (tgt := 37) dX11_wayOf_19 (by decide)) ?_
      refine pGoL (ls2 := [(2, 68), (0, x1), (0, ((6 + x1) - 10))]) (s_istore_n dX11_wayOf_37 (by decide) rfl) rfl ?_
      refine pGo (s_aload_n dX11_wayOf_38 rfl (by decide)) ?_
      refine pGo (s_iload_n dX11_wayOf_39 rfl) ?_
      refine p_callV (As := [(0, ((6 + x1) - 10))]) (st := []) (n := 1) (d' := 0) (Q1 := (fun r τ => r = some (0, b2i (vWay (rd σ 68 30) (rd σ 68 31) ((6 + x1) - 10))) ∧ τ = σ)) pc11 ok_X11_isWay ml_X11_387 im_X11_isWay se_X11_isWay dX11_wayOf_40 (ob_68 hst) (pargs_of rfl) rfl (Nat.le_of_ble_eq_true rfl) (by omega) (f7 c2 c14) (fun r7 τ7 e7 q7 w7 => ?_)
      obtain ⟨rfl, t7⟩ := q7
      rw [t7]
      show pR mX11_wayOf d 43 [(2, 68), (0, x1), (0, ((6 + x1) - 10))] [(0, (b2i (vWay (rd σ 68 30) (rd σ 68 31) ((6 + x1) - 10))))] σ Q
      refine p_ifeqB (tgt := 50) dX11_wayOf_43 (by decide) (fun c25 => ?_) (fun c26 => ?_)
      · refine pGo (s_iconst dX11_wayOf_50) ?_
        exact pEnd (r := (some (0, (-1)))) dX11_wayOf_51 ⟨_, rfl⟩ (k13 c2 c14 c25)
      · refine pGo (s_iload_n dX11_wayOf_46 rfl) ?_
        refine pGo (s_goto (tgt := 51) dX11_wayOf_47 (by decide)) ?_
        exact pEnd (r := (some (0, ((6 + x1) - 10)))) dX11_wayOf_51 ⟨_, rfl⟩ (k14 c2 c14 c26)
set_option maxRecDepth 100000 in
theorem g_X11_outer_0 {d : Nat} {σ : pS} {Q : Option pV → pS → Prop} (hd : 0 ≤ d) (hst : Stat σ) (x1 : Int)  (g1 : inR x1) (k1 : ∀ (c1 : 6 ≤ x1), Q (some (0, ((10 + x1) - 6))) σ) (k2 : ∀ (c2 : x1 < 6), Q (some (0, x1)) σ) : pC mX11_outer d [(0, x1)] σ Q := by
  show pR mX11_outer d 0 [(0, x1)] [] σ Q
  refine pGo (s_iload_n dX11_outer_0 rfl) ?_
  refine pGo (s_bipush dX11_outer_1 (by decide)) ?_
  refine p_icge (tgt := 10) dX11_outer_3 (by decide) g1 (by decide) (fun c1 => ?_) (fun c2 => ?_)
  · refine pGo (s_bipush dX11_outer_10 (by decide)) ?_
    refine pGo (s_iload_n dX11_outer_12 rfl) ?_
    refine pGo (s_iadd dX11_outer_13) ?_
    refine pGo (s_bipush dX11_outer_14 (by decide)) ?_
    refine pGo (s_isub dX11_outer_16) ?_
    exact pEnd (r := (some (0, ((10 + x1) - 6)))) dX11_outer_17 ⟨_, rfl⟩ (k1 c1)
  · refine pGo (s_iload_n dX11_outer_6 rfl) ?_
    refine pGo (s_goto (tgt := 17) dX11_outer_7 (by decide)) ?_
    exact pEnd (r := (some (0, x1))) dX11_outer_17 ⟨_, rfl⟩ (k2 c2)
set_option maxRecDepth 100000 in
theorem g_X11_isPlace_0 {d : Nat} {σ : pS} {Q : Option pV → pS → Prop} (hd : 0 ≤ d) (hst : Stat σ) (x1 : Int)  (g1 : inR x1) (k1 : ∀ (c1 : x1 < 0), Q (some (0, 0)) σ) (k2 : ∀ (c2 : 0 ≤ x1) (c3 : 10 ≤ x1), Q (some (0, 0)) σ) (k3 : ∀ (c2 : 0 ≤ x1) (c4 : x1 < 10), Q (some (0, 1)) σ) : pC mX11_isPlace d [(0, x1)] σ Q := by
  show pR mX11_isPlace d 0 [(0, x1)] [] σ Q
  refine pGo (s_iload_n dX11_isPlace_0 rfl) ?_
  refine p_iflt (tgt := 14) dX11_isPlace_1 (by decide) g1 (fun c1 => ?_) (fun c2 => ?_)
  · refine pGo (s_iconst dX11_isPlace_14) ?_
    exact pEnd (r := (some (0, 0))) dX11_isPlace_15 (Or.inl rfl) (k1 c1)
  · refine pGo (s_iload_n dX11_isPlace_4 rfl) ?_
    refine pGo (s_bipush dX11_isPlace_5 (by decide)) ?_
    refine p_icge (tgt := 14) dX11_isPlace_7 (by decide) g1 (by decide) (fun c3 => ?_) (fun c4 => ?_)
    · refine pGo (s_iconst dX11_isPlace_14) ?_
      exact pEnd (r := (some (0, 0))) dX11_isPlace_15 (Or.inl rfl) (k2 c2 c3)
    · refine pGo (s_iconst dX11_isPlace_10) ?_
      refine pGo (s_goto (tgt := 15) dX11_isPlace_11 (by decide)) ?_
      exact pEnd (r := (some (0, 1))) dX11_isPlace_15 (Or.inr rfl) (k3 c2 c4)
set_option maxRecDepth 100000 in
theorem g_X11_isSkill_0 {d : Nat} {σ : pS} {Q : Option pV → pS → Prop} (hd : 0 ≤ d) (hst : Stat σ) (x1 : Int)  (g1 : inR x1) (k1 : ∀ (c1 : x1 < 0), Q (some (0, 0)) σ) (k2 : ∀ (c2 : 0 ≤ x1) (c3 : 3 < x1), Q (some (0, 0)) σ) (k3 : ∀ (c2 : 0 ≤ x1) (c4 : x1 ≤ 3), Q (some (0, 1)) σ) : pC mX11_isSkill d [(0, x1)] σ Q := by
  show pR mX11_isSkill d 0 [(0, x1)] [] σ Q
  refine pGo (s_iload_n dX11_isSkill_0 rfl) ?_
  refine p_iflt (tgt := 13) dX11_isSkill_1 (by decide) g1 (fun c1 => ?_) (fun c2 => ?_)
  · refine pGo (s_iconst dX11_isSkill_13) ?_
    exact pEnd (r := (some (0, 0))) dX11_isSkill_14 (Or.inl rfl) (k1 c1)
  · refine pGo (s_iload_n dX11_isSkill_4 rfl) ?_
    refine pGo (s_iconst dX11_isSkill_5) ?_
    refine p_icgt (tgt := 13) dX11_isSkill_6 (by decide) g1 (by decide) (fun c3 => ?_) (fun c4 => ?_)
    · refine pGo (s_iconst dX11_isSkill_13) ?_
      exact pEnd (r := (some (0, 0))) dX11_isSkill_14 (Or.inl rfl) (k2 c2 c3)
    · refine pGo (s_iconst dX11_isSkill_9) ?_
      refine pGo (s_goto (tgt := 14) dX11_isSkill_10 (by decide)) ?_
      exact pEnd (r := (some (0, 1))) dX11_isSkill_14 (Or.inr rfl) (k3 c2 c4)
set_option maxRecDepth 100000 in
theorem g_X11_isMinute_0 {d : Nat} {σ : pS} {Q : Option pV → pS → Prop} (hd : 0 ≤ d) (hst : Stat σ) (x1 : Int)  (g1 : inR x1) (k1 : ∀ (c1 : x1 < 0), Q (some (0, 0)) σ) (k2 : ∀ (c2 : 0 ≤ x1) (c3 : 540 < x1), Q (some (0, 0)) σ) (k3 : ∀ (c2 : 0 ≤ x1) (c4 : x1 ≤ 540), Q (some (0, 1)) σ) : pC mX11_isMinute d [(0, x1)] σ Q := by
  show pR mX11_isMinute d 0 [(0, x1)] [] σ Q
  refine pGo (s_iload_n dX11_isMinute_0 rfl) ?_
  refine p_iflt (tgt := 15) dX11_isMinute_1 (by decide) g1 (fun c1 => ?_) (fun c2 => ?_)
  · refine pGo (s_iconst dX11_isMinute_15) ?_
    exact pEnd (r := (some (0, 0))) dX11_isMinute_16 (Or.inl rfl) (k1 c1)
  · refine pGo (s_iload_n dX11_isMinute_4 rfl) ?_
    refine pGo (s_sipush dX11_isMinute_5 (by decide)) ?_
    refine p_icgt (tgt := 15) dX11_isMinute_8 (by decide) g1 (by decide) (fun c3 => ?_) (fun c4 => ?_)
    · refine pGo (s_iconst dX11_isMinute_15) ?_
      exact pEnd (r := (some (0, 0))) dX11_isMinute_16 (Or.inl rfl) (k2 c2 c3)
    · refine pGo (s_iconst dX11_isMinute_11) ?_
      refine pGo (s_goto (tgt := 16) dX11_isMinute_12 (by decide)) ?_
      exact pEnd (r := (some (0, 1))) dX11_isMinute_16 (Or.inr rfl) (k3 c2 c4)
set_option maxRecDepth 100000 in
theorem g_X11_isSkier_0 {d : Nat} {σ : pS} {Q : Option pV → pS → Prop} (hd : 0 ≤ d) (hst : Stat σ) (x1 : Int)  (g1 : inR x1) (k1 : ∀ (c1 : x1 < 0), Q (some (0, 0)) σ) (g2 : ∀ (c2 : 0 ≤ x1), inR (rd σ 68 64)) (k2 : ∀ (c2 : 0 ≤ x1) (c3 : (rd σ 68 64) ≤ x1), Q (some (0, 0)) σ) (k3 : ∀ (c2 : 0 ≤ x1) (c4 : x1 < (rd σ 68 64)), Q (some (0, 1)) σ) : pC mX11_isSkier d [(2, 68), (0, x1)] σ Q := by
  show pR mX11_isSkier d 0 [(2, 68), (0, x1)] [] σ Q
  refine pGo (s_iload_n dX11_isSkier_0 rfl) ?_
  refine p_iflt (tgt := 16) dX11_isSkier_1 (by decide) g1 (fun c1 => ?_) (fun c2 => ?_)
  · refine pGo (s_iconst dX11_isSkier_16) ?_
    exact pEnd (r := (some (0, 0))) dX11_isSkier_17 (Or.inl rfl) (k1 c1)
  · refine pGo (s_iload_n dX11_isSkier_4 rfl) ?_
    refine pGo (s_aload_n dX11_isSkier_5 rfl (by decide)) ?_
    refine pGoE (y := (rd σ 68 64)) (s_getI pc11 fl_X11_509 dX11_isSkier_6 (ob_68 hst) rfl (by decide)) rfl ?_
    refine p_icge (tgt := 16) dX11_isSkier_9 (by decide) g1 (g2 c2) (fun c3 => ?_) (fun c4 => ?_)
    · refine pGo (s_iconst dX11_isSkier_16) ?_
      exact pEnd (r := (some (0, 0))) dX11_isSkier_17 (Or.inl rfl) (k2 c2 c3)
    · refine pGo (s_iconst dX11_isSkier_12) ?_
      refine pGo (s_goto (tgt := 17) dX11_isSkier_13 (by decide)) ?_
      exact pEnd (r := (some (0, 1))) dX11_isSkier_17 (Or.inr rfl) (k3 c2 c4)
set_option maxRecDepth 100000 in
theorem g_X11_isDayMinute_0 {d : Nat} {σ : pS} {Q : Option pV → pS → Prop} (hd : 0 ≤ d) (hst : Stat σ) (x1 : Int)  (g1 : inR (rd σ 68 78)) (k1 : ∀ (c1 : (rd σ 68 78) = 0), Q (some (0, 0)) σ) (g2 : ∀ (c2 : (rd σ 68 78) ≠ 0), inR x1) (k2 : ∀ (c2 : (rd σ 68 78) ≠ 0) (c3 : x1 < 0), Q (some (0, 0)) σ) (k3 : ∀ (c2 : (rd σ 68 78) ≠ 0) (c4 : 0 ≤ x1) (c5 : 480 ≤ x1), Q (some (0, 0)) σ) (k4 : ∀ (c2 : (rd σ 68 78) ≠ 0) (c4 : 0 ≤ x1) (c6 : x1 < 480), Q (some (0, 1)) σ) : pC mX11_isDayMinute d [(2, 68), (0, x1)] σ Q := by
  show pR mX11_isDayMinute d 0 [(2, 68), (0, x1)] [] σ Q
  refine pGo (s_aload_n dX11_isDayMinute_0 rfl (by decide)) ?_
  refine pGoE (y := (rd σ 68 78)) (s_getI pc11 fl_X11_381 dX11_isDayMinute_1 (ob_68 hst) rfl (by decide)) rfl ?_
  refine p_ifeq (tgt := 22) dX11_isDayMinute_4 (by decide) g1 (fun c1 => ?_) (fun c2 => ?_)
  · refine pGo (s_iconst dX11_isDayMinute_22) ?_
    exact pEnd (r := (some (0, 0))) dX11_isDayMinute_23 (Or.inl rfl) (k1 c1)
  · refine pGo (s_iload_n dX11_isDayMinute_7 rfl) ?_
    refine p_iflt (tgt := 22) dX11_isDayMinute_8 (by decide) (g2 c2) (fun c3 => ?_) (fun c4 => ?_)
    · refine pGo (s_iconst dX11_isDayMinute_22) ?_
      exact pEnd (r := (some (0, 0))) dX11_isDayMinute_23 (Or.inl rfl) (k2 c2 c3)
    · refine pGo (s_iload_n dX11_isDayMinute_11 rfl) ?_
      refine pGo (s_sipush dX11_isDayMinute_12 (by decide)) ?_
      refine p_icge (tgt := 22) dX11_isDayMinute_15 (by decide) (g2 c2) (by decide) (fun c5 => ?_) (fun c6 => ?_)
      · refine pGo (s_iconst dX11_isDayMinute_22) ?_
        exact pEnd (r := (some (0, 0))) dX11_isDayMinute_23 (Or.inl rfl) (k3 c2 c4 c5)
      · refine pGo (s_iconst dX11_isDayMinute_18) ?_
        refine pGo (s_goto (tgt := 23) dX11_isDayMinute_19 (by decide)) ?_
        exact pEnd (r := (some (0, 1))) dX11_isDayMinute_23 (Or.inr rfl) (k4 c2 c4 c6)
set_option maxRecDepth 100000 in
theorem g_X11_counts_0 {d : Nat} {σ : pS} {Q : Option pV → pS → Prop} (hd : 0 ≤ d) (hst : Stat σ) (x1 : Int) (x2 : Int) (x3 : Int)  (g1 : inR x1) (g2 : inR x3) (k1 : ∀ (c1 : x3 < x1), Q (some (0, 0)) σ) (g3 : ∀ (c2 : x1 ≤ x3), inR x2) (k2 : ∀ (c2 : x1 ≤ x3) (c3 : x2 < 0), Q (some (0, 1)) σ) (k3 : ∀ (c2 : x1 ≤ x3) (c4 : 0 ≤ x2) (c5 : x2 ≤ x3), Q (some (0, 0)) σ) (k4 : ∀ (c2 : x1 ≤ x3) (c4 : 0 ≤ x2) (c6 : x3 < x2), Q (some (0, 1)) σ) : pC mX11_counts d [(0, x1), (0, x2), (0, x3)] σ Q := by
  show pR mX11_counts d 0 [(0, x1), (0, x2), (0, x3)] [] σ Q
  refine pGo (s_iload_n dX11_counts_0 rfl) ?_
  refine pGo (s_iload_n dX11_counts_1 rfl) ?_
  refine p_icgt (tgt := 18) dX11_counts_2 (by decide) g1 g2 (fun c1 => ?_) (fun c2 => ?_)
  · refine pGo (s_iconst dX11_counts_18) ?_
    exact pEnd (r := (some (0, 0))) dX11_counts_19 (Or.inl rfl) (k1 c1)
  · refine pGo (s_iload_n dX11_counts_5 rfl) ?_
    refine p_iflt (tgt := 14) dX11_counts_6 (by decide) (g3 c2) (fun c3 => ?_) (fun c4 => ?_)
    · refine pGo (s_iconst dX11_counts_14) ?_
      refine pGo (s_goto (tgt := 19) dX11_counts_15 (by decide)) ?_
      exact pEnd (r := (some (0, 1))) dX11_counts_19 (Or.inr rfl) (k2 c2 c3)
    · refine pGo (s_iload_n dX11_counts_9 rfl) ?_
      refine pGo (s_iload_n dX11_counts_10 rfl) ?_
      refine p_icle (tgt := 18) dX11_counts_11 (by decide) (g3 c2) g2 (fun c5 => ?_) (fun c6 => ?_)
      · refine pGo (s_iconst dX11_counts_18) ?_
        exact pEnd (r := (some (0, 0))) dX11_counts_19 (Or.inl rfl) (k3 c2 c4 c5)
      · refine pGo (s_iconst dX11_counts_14) ?_
        refine pGo (s_goto (tgt := 19) dX11_counts_15 (by decide)) ?_
        exact pEnd (r := (some (0, 1))) dX11_counts_19 (Or.inr rfl) (k4 c2 c4 c6)
set_option maxRecDepth 100000 in
theorem g_X6_has_0 {d : Nat} {σ : pS} {Q : Option pV → pS → Prop} (hd : 1 ≤ d) (hst : Stat σ) (a0 : Int) (x1 : Int) (Ia0 : Inst6 σ a0) (f1 : pC mX10_within 0 [(0, x1), (0, (rd σ a0 0))] σ (fun r τ => r = some (0, b2i (vWithin x1 (rd σ a0 0))) ∧ τ = σ)) (k1 : ∀ (c1 : (vWithin x1 (rd σ a0 0)) = true), Q (some (0, 1)) σ) (g1 : ∀ (c2 : (vWithin x1 (rd σ a0 0)) = false), inR x1) (k2 : ∀ (c2 : (vWithin x1 (rd σ a0 0)) = false) (c3 : x1 < 10), Q (some (0, 0)) σ) (g2 : ∀ (c2 : (vWithin x1 (rd σ a0 0)) = false) (c4 : 10 ≤ x1), inR (10 + (rd σ a0 1))) (k3 : ∀ (c2 : (vWithin x1 (rd σ a0 0)) = false) (c4 : 10 ≤ x1) (c5 : (10 + (rd σ a0 1)) ≤ x1), Q (some (0, 0)) σ) (k4 : ∀ (c2 : (vWithin x1 (rd σ a0 0)) = false) (c4 : 10 ≤ x1) (c6 : x1 < (10 + (rd σ a0 1))), Q (some (0, 1)) σ) : pC mX6_has d [(2, a0), (0, x1)] σ Q := by
  show pR mX6_has d 0 [(2, a0), (0, x1)] [] σ Q
  refine pGo (s_iload_n dX6_has_0 rfl) ?_
  refine pGo (s_aload_n dX6_has_1 rfl Ia0.pos) ?_
  refine pGoE (y := (rd σ a0 0)) (s_getI pc6 fl_X6_44 dX6_has_2 Ia0.o0 rfl (by decide)) rfl ?_
  refine p_callS (As := [(0, x1), (0, (rd σ a0 0))]) (st := []) (n := 2) (d' := 0) (Q1 := (fun r τ => r = some (0, b2i (vWithin x1 (rd σ a0 0))) ∧ τ = σ)) ok_X10_within ml_X6_48 sm_X10_within dX6_has_5 (pargs_of rfl) rfl (Nat.le_of_ble_eq_true rfl) (by omega) f1 (fun r1 τ1 e1 q1 w1 => ?_)
  obtain ⟨rfl, t1⟩ := q1
  rw [t1]
  show pR mX6_has d 8 [(2, a0), (0, x1)] [(0, (b2i (vWithin x1 (rd σ a0 0))))] σ Q
  refine p_ifneB (tgt := 28) dX6_has_8 (by decide) (fun c1 => ?_) (fun c2 => ?_)
  · refine pGo (s_iconst dX6_has_28) ?_
    refine pGo (s_goto (tgt := 33) dX6_has_29 (by decide)) ?_
    exact pEnd (r := (some (0, 1))) dX6_has_33 (Or.inr rfl) (k1 c1)
  · refine pGo (s_iload_n dX6_has_11 rfl) ?_
    refine pGo (s_bipush dX6_has_12 (by decide)) ?_
    refine p_iclt (tgt := 32) dX6_has_14 (by decide) (g1 c2) (by decide) (fun c3 => ?_) (fun c4 => ?_)
    · refine pGo (s_iconst dX6_has_32) ?_
      exact pEnd (r := (some (0, 0))) dX6_has_33 (Or.inl rfl) (k2 c2 c3)
    · refine pGo (s_iload_n dX6_has_17 rfl) ?_
      refine pGo (s_bipush dX6_has_18 (by decide)) ?_
      refine pGo (s_aload_n dX6_has_20 rfl Ia0.pos) ?_
      refine pGoE (y := (rd σ a0 1)) (s_getI pc6 fl_X6_52 dX6_has_21 Ia0.o0 rfl (by decide)) rfl ?_
      refine pGo (s_iadd dX6_has_24) ?_
      refine p_icge (tgt := 32) dX6_has_25 (by decide) (g1 c2) (g2 c2 c4) (fun c5 => ?_) (fun c6 => ?_)
      · refine pGo (s_iconst dX6_has_32) ?_
        exact pEnd (r := (some (0, 0))) dX6_has_33 (Or.inl rfl) (k3 c2 c4 c5)
      · refine pGo (s_iconst dX6_has_28) ?_
        refine pGo (s_goto (tgt := 33) dX6_has_29 (by decide)) ?_
        exact pEnd (r := (some (0, 1))) dX6_has_33 (Or.inr rfl) (k4 c2 c4 c6)
set_option maxRecDepth 100000 in
theorem g_X10_canAsk_0 {d : Nat} {σ : pS} {Q : Option pV → pS → Prop} (hd : 1 ≤ d) (hst : Stat σ) (x1 : Int) (x2 : Int) (x3 : Int) (x4 : Int)  (f1 : pC mX10_within 0 [(0, x1), (0, 4)] σ (fun r τ => r = some (0, b2i (vWithin x1 4)) ∧ τ = σ)) (k1 : ∀ (c1 : (vWithin x1 4) = false), Q (some (0, 0)) σ) (f2 : ∀ (c2 : (vWithin x1 4) = true), pC mX10_within 0 [(0, x2), (0, 10)] σ (fun r τ => r = some (0, b2i (vWithin x2 10)) ∧ τ = σ)) (k2 : ∀ (c2 : (vWithin x1 4) = true) (c3 : (vWithin x2 10) = false), Q (some (0, 0)) σ) (f3 : ∀ (c2 : (vWithin x1 4) = true) (c4 : (vWithin x2 10) = true), pC mX10_within 0 [(0, x4), (0, 10)] σ (fun r τ => r = some (0, b2i (vWithin x4 10)) ∧ τ = σ)) (k3 : ∀ (c2 : (vWithin x1 4) = true) (c4 : (vWithin x2 10) = true) (c5 : (vWithin x4 10) = false), Q (some (0, 0)) σ) (f4 : ∀ (c2 : (vWithin x1 4) = true) (c4 : (vWithin x2 10) = true) (c6 : (vWithin x4 10) = true), pC mX10_within 0 [(0, x3), (0, 481)] σ (fun r τ => r = some (0, b2i (vWithin x3 481)) ∧ τ = σ)) (k4 : ∀ (c2 : (vWithin x1 4) = true) (c4 : (vWithin x2 10) = true) (c6 : (vWithin x4 10) = true) (c7 : (vWithin x3 481) = false), Q (some (0, 0)) σ) (k5 : ∀ (c2 : (vWithin x1 4) = true) (c4 : (vWithin x2 10) = true) (c6 : (vWithin x4 10) = true) (c8 : (vWithin x3 481) = true), Q (some (0, 1)) σ) : pC mX10_canAsk d [(2, 0), (0, x1), (0, x2), (0, x3), (0, x4)] σ Q := by
  show pR mX10_canAsk d 0 [(2, 0), (0, x1), (0, x2), (0, x3), (0, x4)] [] σ Q
  refine pGo (s_iload_n dX10_canAsk_0 rfl) ?_
  refine pGo (s_iconst dX10_canAsk_1) ?_
  refine p_callS (As := [(0, x1), (0, 4)]) (st := []) (n := 2) (d' := 0) (Q1 := (fun r τ => r = some (0, b2i (vWithin x1 4)) ∧ τ = σ)) ok_X10_within ml_X10_138 sm_X10_within dX10_canAsk_2 (pargs_of rfl) rfl (Nat.le_of_ble_eq_true rfl) (by omega) f1 (fun r1 τ1 e1 q1 w1 => ?_)
  obtain ⟨rfl, t1⟩ := q1
  rw [t1]
  show pR mX10_canAsk d 5 [(2, 0), (0, x1), (0, x2), (0, x3), (0, x4)] [(0, (b2i (vWithin x1 4)))] σ Q
  refine p_ifeqB (tgt := 41) dX10_canAsk_5 (by decide) (fun c1 => ?_) (fun c2 => ?_)
  · refine pGo (s_iconst dX10_canAsk_41) ?_
    exact pEnd (r := (some (0, 0))) dX10_canAsk_42 (Or.inl rfl) (k1 c1)
  · refine pGo (s_iload_n dX10_canAsk_8 rfl) ?_
    refine pGo (s_bipush dX10_canAsk_9 (by decide)) ?_
    refine p_callS (As := [(0, x2), (0, 10)]) (st := []) (n := 2) (d' := 0) (Q1 := (fun r τ => r = some (0, b2i (vWithin x2 10)) ∧ τ = σ)) ok_X10_within ml_X10_138 sm_X10_within dX10_canAsk_11 (pargs_of rfl) rfl (Nat.le_of_ble_eq_true rfl) (by omega) (f2 c2) (fun r2 τ2 e2 q2 w2 => ?_)
    obtain ⟨rfl, t2⟩ := q2
    rw [t2]
    show pR mX10_canAsk d 14 [(2, 0), (0, x1), (0, x2), (0, x3), (0, x4)] [(0, (b2i (vWithin x2 10)))] σ Q
    refine p_ifeqB (tgt := 41) dX10_canAsk_14 (by decide) (fun c3 => ?_) (fun c4 => ?_)
    · refine pGo (s_iconst dX10_canAsk_41) ?_
      exact pEnd (r := (some (0, 0))) dX10_canAsk_42 (Or.inl rfl) (k2 c2 c3)
    · refine pGo (s_iload dX10_canAsk_17 rfl) ?_
      refine pGo (s_bipush dX10_canAsk_19 (by decide)) ?_
      refine p_callS (As := [(0, x4), (0, 10)]) (st := []) (n := 2) (d' := 0) (Q1 := (fun r τ => r = some (0, b2i (vWithin x4 10)) ∧ τ = σ)) ok_X10_within ml_X10_138 sm_X10_within dX10_canAsk_21 (pargs_of rfl) rfl (Nat.le_of_ble_eq_true rfl) (by omega) (f3 c2 c4) (fun r3 τ3 e3 q3 w3 => ?_)
      obtain ⟨rfl, t3⟩ := q3
      rw [t3]
      show pR mX10_canAsk d 24 [(2, 0), (0, x1), (0, x2), (0, x3), (0, x4)] [(0, (b2i (vWithin x4 10)))] σ Q
      refine p_ifeqB (tgt := 41) dX10_canAsk_24 (by decide) (fun c5 => ?_) (fun c6 => ?_)
      · refine pGo (s_iconst dX10_canAsk_41) ?_
        exact pEnd (r := (some (0, 0))) dX10_canAsk_42 (Or.inl rfl) (k3 c2 c4 c5)
      · refine pGo (s_iload_n dX10_canAsk_27 rfl) ?_
        refine pGo (s_sipush dX10_canAsk_28 (by decide)) ?_
        refine p_callS (As := [(0, x3), (0, 481)]) (st := []) (n := 2) (d' := 0) (Q1 := (fun r τ => r = some (0, b2i (vWithin x3 481)) ∧ τ = σ)) ok_X10_within ml_X10_138 sm_X10_within dX10_canAsk_31 (pargs_of rfl) rfl (Nat.le_of_ble_eq_true rfl) (by omega) (f4 c2 c4 c6) (fun r4 τ4 e4 q4 w4 => ?_)
        obtain ⟨rfl, t4⟩ := q4
        rw [t4]
        show pR mX10_canAsk d 34 [(2, 0), (0, x1), (0, x2), (0, x3), (0, x4)] [(0, (b2i (vWithin x3 481)))] σ Q
        refine p_ifeqB (tgt := 41) dX10_canAsk_34 (by decide) (fun c7 => ?_) (fun c8 => ?_)
        · refine pGo (s_iconst dX10_canAsk_41) ?_
          exact pEnd (r := (some (0, 0))) dX10_canAsk_42 (Or.inl rfl) (k4 c2 c4 c6 c7)
        · refine pGo (s_iconst dX10_canAsk_37) ?_
          refine pGo (s_goto (tgt := 42) dX10_canAsk_38 (by decide)) ?_
          exact pEnd (r := (some (0, 1))) dX10_canAsk_42 (Or.inr rfl) (k5 c2 c4 c6 c8)
