/-! walks: ways in time, small functions -/
/-- what the small functions of ways answer -/
def vFits (s : pS) (a w sk : Int) : Bool := decide (rd s (a + 9) w ≤ sk)
def vMinX (s : pS) (a w sk : Int) : Int := if w < 10 then rd s (a + 4) w else max 1 (rd s (a + 4) w - (rd s (a + 4) w * (sk - rd s (a + 9) w)).tdiv 4)
def vBy (s : pS) (sk w m : Int) : Int := if 480 < m ∨ goS s sk w = false ∨ rd s 104 (482 * w + m) < 0 then -1 else rd s 104 (482 * w + m) + minS s sk w
def foN (s : pS) (w : Int) : Nat → Int → Int
  | 0, _ => -1
  | n + 1, t => if rd s (rd s 35 4 + 7) w ≤ t then -1 else if vShutAt s w t = true then foN s w n ((vHour t + 1) * 60) else t
def vFO (s : pS) (w m : Int) : Int := foN s w 9 (max m (rd s (rd s 35 4 + 6) w))
def loN (s : pS) (w : Int) : Nat → Int → Int
  | 0, _ => -1
  | n + 1, t => if t < rd s (rd s 35 4 + 6) w then -1 else if vShutAt s w t = true then loN s w n (vHour t * 60 - 1) else t
def vLO (s : pS) (w m : Int) : Int := loN s w 9 (min m (rd s (rd s 35 4 + 7) w - 1))
def vBehind (s : pS) (w sk m : Int) : Int := if vFits s (rd s 35 4) w sk = false then -1 else if vFO s w m = -1 then -1 else vFO s w m + vMinX s (rd s 35 4) w sk
set_option maxRecDepth 100000 in
theorem g_X6_fits_0 {d : Nat} {σ : pS} {Q : Option pV → pS → Prop} (hd : 0 ≤ d) (hst : Stat σ) (a0 : Int) (x1 : Int) (x2 : Int) (Ia0 : Inst6 σ a0) (g1 : 0 ≤ x1 ∧ x1 < 17) (g2 : inR (rd σ (a0 + 9) x1)) (g3 : inR x2) (k1 : ∀ (c1 : x2 < (rd σ (a0 + 9) x1)), Q (some (0, 0)) σ) (k2 : ∀ (c2 : (rd σ (a0 + 9) x1) ≤ x2), Q (some (0, 1)) σ) : pC mX6_fits d [(2, a0), (0, x1), (0, x2)] σ Q := by
  show pR mX6_fits d 0 [(2, a0), (0, x1), (0, x2)] [] σ Q
  refine pGo (s_aload_n dX6_fits_0 rfl Ia0.pos) ?_
  refine pGo (s_getF pc6 fl_X6_38 dX6_fits_1 Ia0.o0 rfl (by decide)) ?_
  refine pGo (s_iload_n dX6_fits_4 rfl) ?_
  refine pGoE (y := (rd σ (a0 + 9) x1)) (s_iald dX6_fits_5 Ia0.o9 (bnd g1)) rfl ?_
  refine pGo (s_iload_n dX6_fits_6 rfl) ?_
  refine p_icgt (tgt := 14) dX6_fits_7 (by decide) g2 g3 (fun c1 => ?_) (fun c2 => ?_)
  · refine pGo (s_iconst dX6_fits_14) ?_
    exact pEnd (r := (some (0, 0))) dX6_fits_15 (Or.inl rfl) (k1 c1)
  · refine pGo (s_iconst dX6_fits_10) ?_
    refine pGo (s_goto (tgt := 15) dX6_fits_11 (by decide)) ?_
    exact pEnd (r := (some (0, 1))) dX6_fits_15 (Or.inr rfl) (k2 c2)
set_option maxRecDepth 100000 in
theorem g_X6_minutes_0 {d : Nat} {σ : pS} {Q : Option pV → pS → Prop} (hd : 1 ≤ d) (hst : Stat σ) (a0 : Int) (x1 : Int) (x2 : Int) (Ia0 : Inst6 σ a0) (g1 : inR x1) (g2 : ∀ (c1 : 10 ≤ x1), 0 ≤ x1 ∧ x1 < 17) (g3 : ∀ (c1 : 10 ≤ x1), inR ((rd σ (a0 + 4) x1) * (x2 - (rd σ (a0 + 9) x1)))) (g4 : ∀ (c1 : 10 ≤ x1), inR ((rd σ (a0 + 4) x1) - (((rd σ (a0 + 4) x1) * (x2 - (rd σ (a0 + 9) x1))).tdiv 4))) (k1 : ∀ (c1 : 10 ≤ x1), Q (some (0, (max 1 ((rd σ (a0 + 4) x1) - (((rd σ (a0 + 4) x1) * (x2 - (rd σ (a0 + 9) x1))).tdiv 4))))) σ) (g5 : ∀ (c2 : x1 < 10), 0 ≤ x1 ∧ x1 < 17) (k2 : ∀ (c2 : x1 < 10), Q (some (0, (rd σ (a0 + 4) x1))) σ) : pC mX6_minutes d [(2, a0), (0, x1), (0, x2)] σ Q := by
  show pR mX6_minutes d 0 [(2, a0), (0, x1), (0, x2)] [] σ Q
  refine pGo (s_iload_n dX6_minutes_0 rfl) ?_
  refine pGo (s_bipush dX6_minutes_1 (by decide)) ?_
  refine p_icge (tgt := 13) dX6_minutes_3 (by decide) g1 (by decide) (fun c1 => ?_) (fun c2 => ?_)
  · refine pGo (s_iconst dX6_minutes_13) ?_
    refine pGo (s_aload_n dX6_minutes_14 rfl Ia0.pos) ?_
    refine pGo (s_getF pc6 fl_X6_22 dX6_minutes_15 Ia0.o0 rfl (by decide)) ?_
    refine pGo (s_iload_n dX6_minutes_18 rfl) ?_
    refine pGoE (y := (rd σ (a0 + 4) x1)) (s_iald dX6_minutes_19 Ia0.o4 (bnd (g2 c1))) rfl ?_
    refine pGo (s_aload_n dX6_minutes_20 rfl Ia0.pos) ?_
    refine pGo (s_getF pc6 fl_X6_22 dX6_minutes_21 Ia0.o0 rfl (by decide)) ?_
    refine pGo (s_iload_n dX6_minutes_24 rfl) ?_
    refine pGoE (y := (rd σ (a0 + 4) x1)) (s_iald dX6_minutes_25 Ia0.o4 (bnd (g2 c1))) rfl ?_
    refine pGo (s_iload_n dX6_minutes_26 rfl) ?_
    refine pGo (s_aload_n dX6_minutes_27 rfl Ia0.pos) ?_
    refine pGo (s_getF pc6 fl_X6_38 dX6_minutes_28 Ia0.o0 rfl (by decide)) ?_
    refine pGo (s_iload_n dX6_minutes_31 rfl) ?_
    refine pGoE (y := (rd σ (a0 + 9) x1)) (s_iald dX6_minutes_32 Ia0.o9 (bnd (g2 c1))) rfl ?_
    refine pGo (s_isub dX6_minutes_33) ?_
    refine pGo (s_imul dX6_minutes_34) ?_
    refine pGo (s_iconst dX6_minutes_35) ?_
    refine pGo (s_idiv dX6_minutes_36 (g3 c1) (by decide) (by decide)) ?_
    refine pGo (s_isub dX6_minutes_37) ?_
    refine pGo (s_mmax (by omega) mj_X6_55 (Nat.le_of_ble_eq_true rfl) dX6_minutes_38 (by decide) (g4 c1)) ?_
    exact pEnd (r := (some (0, (max 1 ((rd σ (a0 + 4) x1) - (((rd σ (a0 + 4) x1) * (x2 - (rd σ (a0 + 9) x1))).tdiv 4)))))) dX6_minutes_41 ⟨_, rfl⟩ (k1 c1)
  · refine pGo (s_aload_n dX6_minutes_6 rfl Ia0.pos) ?_
    refine pGo (s_getF pc6 fl_X6_22 dX6_minutes_7 Ia0.o0 rfl (by decide)) ?_
    refine pGo (s_iload_n dX6_minutes_10 rfl) ?_
    refine pGoE (y := (rd σ (a0 + 4) x1)) (s_iald dX6_minutes_11 Ia0.o4 (bnd (g5 c2))) rfl ?_
    exact pEnd (r := (some (0, (rd σ (a0 + 4) x1)))) dX6_minutes_12 ⟨_, rfl⟩ (k2 c2)
set_option maxRecDepth 100000 in
theorem g_X11_canGo_0 {d : Nat} {σ : pS} {Q : Option pV → pS → Prop} (hd : 1 ≤ d) (hst : Stat σ) (x1 : Int) (x2 : Int)  (f1 : pC mX11_isWay 0 [(2, 68), (0, x2)] σ (fun r τ => r = some (0, b2i (vWay (rd σ 68 30) (rd σ 68 31) x2)) ∧ τ = σ)) (k1 : ∀ (c1 : (vWay (rd σ 68 30) (rd σ 68 31) x2) = false), Q (some (0, 0)) σ) (g1 : ∀ (c2 : (vWay (rd σ 68 30) (rd σ 68 31) x2) = true), inR x2) (k2 : ∀ (c2 : (vWay (rd σ 68 30) (rd σ 68 31) x2) = true) (c3 : x2 < 6), Q (some (0, 1)) σ) (g2 : ∀ (c2 : (vWay (rd σ 68 30) (rd σ 68 31) x2) = true) (c4 : 6 ≤ x2), 0 ≤ x2 ∧ x2 < 13) (g3 : ∀ (c2 : (vWay (rd σ 68 30) (rd σ 68 31) x2) = true) (c4 : 6 ≤ x2), inR (rd σ 80 x2)) (g4 : ∀ (c2 : (vWay (rd σ 68 30) (rd σ 68 31) x2) = true) (c4 : 6 ≤ x2), inR x1) (k3 : ∀ (c2 : (vWay (rd σ 68 30) (rd σ 68 31) x2) = true) (c4 : 6 ≤ x2) (c5 : x1 < (rd σ 80 x2)), Q (some (0, 0)) σ) (k4 : ∀ (c2 : (vWay (rd σ 68 30) (rd σ 68 31) x2) = true) (c4 : 6 ≤ x2) (c6 : (rd σ 80 x2) ≤ x1), Q (some (0, 1)) σ) : pC mX11_canGo d [(2, 68), (0, x1), (0, x2)] σ Q := by
  show pR mX11_canGo d 0 [(2, 68), (0, x1), (0, x2)] [] σ Q
  refine pGo (s_aload_n dX11_canGo_0 rfl (by decide)) ?_
  refine pGo (s_iload_n dX11_canGo_1 rfl) ?_
  refine p_callV (As := [(0, x2)]) (st := []) (n := 1) (d' := 0) (Q1 := (fun r τ => r = some (0, b2i (vWay (rd σ 68 30) (rd σ 68 31) x2)) ∧ τ = σ)) pc11 ok_X11_isWay ml_X11_387 im_X11_isWay se_X11_isWay dX11_canGo_2 (ob_68 hst) (pargs_of rfl) rfl (Nat.le_of_ble_eq_true rfl) (by omega) f1 (fun r1 τ1 e1 q1 w1 => ?_)
  obtain ⟨rfl, t1⟩ := q1
  rw [t1]
  show pR mX11_canGo d 5 [(2, 68), (0, x1), (0, x2)] [(0, (b2i (vWay (rd σ 68 30) (rd σ 68 31) x2)))] σ Q
  refine p_ifeqB (tgt := 28) dX11_canGo_5 (by decide) (fun c1 => ?_) (fun c2 => ?_)
  · refine pGo (s_iconst dX11_canGo_28) ?_
    exact pEnd (r := (some (0, 0))) dX11_canGo_29 (Or.inl rfl) (k1 c1)
  · refine pGo (s_iload_n dX11_canGo_8 rfl) ?_
    refine pGo (s_bipush dX11_canGo_9 (by decide)) ?_
    refine p_iclt (tgt := 24) dX11_canGo_11 (by decide) (g1 c2) (by decide) (fun c3 => ?_) (fun c4 => ?_)
    · refine pGo (s_iconst dX11_canGo_24) ?_
      refine pGo (s_goto (tgt := 29) dX11_canGo_25 (by decide)) ?_
      exact pEnd (r := (some (0, 1))) dX11_canGo_29 (Or.inr rfl) (k2 c2 c3)
    · refine pGo (s_aload_n dX11_canGo_14 rfl (by decide)) ?_
      refine pGoE (y := 80) (s_getF pc11 fl_X11_48 dX11_canGo_15 (ob_68 hst) rfl (by decide)) (by decide) ?_
      refine pGo (s_iload_n dX11_canGo_18 rfl) ?_
      refine pGoE (y := (rd σ 80 x2)) (s_iald dX11_canGo_19 (ob_80 hst) (bnd (g2 c2 c4))) rfl ?_
      refine pGo (s_iload_n dX11_canGo_20 rfl) ?_
      refine p_icgt (tgt := 28) dX11_canGo_21 (by decide) (g3 c2 c4) (g4 c2 c4) (fun c5 => ?_) (fun c6 => ?_)
      · refine pGo (s_iconst dX11_canGo_28) ?_
        exact pEnd (r := (some (0, 0))) dX11_canGo_29 (Or.inl rfl) (k3 c2 c4 c5)
      · refine pGo (s_iconst dX11_canGo_24) ?_
        refine pGo (s_goto (tgt := 29) dX11_canGo_25 (by decide)) ?_
        exact pEnd (r := (some (0, 1))) dX11_canGo_29 (Or.inr rfl) (k4 c2 c4 c6)
set_option maxRecDepth 100000 in
theorem g_X11_minutesOf_0 {d : Nat} {σ : pS} {Q : Option pV → pS → Prop} (hd : 0 ≤ d) (hst : Stat σ) (x1 : Int) (x2 : Int)  (g1 : inR x2) (g2 : ∀ (c1 : 6 ≤ x2), 0 ≤ x2 ∧ x2 < 13) (g3 : ∀ (c1 : 6 ≤ x2), inR ((rd σ 79 x2) * (x1 - (rd σ 80 x2)))) (g4 : ∀ (c1 : 6 ≤ x2), inR ((rd σ 79 x2) - (((rd σ 79 x2) * (x1 - (rd σ 80 x2))).tdiv 4))) (k1 : ∀ (c1 : 6 ≤ x2) (c3 : 1 ≤ ((rd σ 79 x2) - (((rd σ 79 x2) * (x1 - (rd σ 80 x2))).tdiv 4))), Q (some (0, ((rd σ 79 x2) - (((rd σ 79 x2) * (x1 - (rd σ 80 x2))).tdiv 4)))) σ) (k2 : ∀ (c1 : 6 ≤ x2) (c4 : ((rd σ 79 x2) - (((rd σ 79 x2) * (x1 - (rd σ 80 x2))).tdiv 4)) < 1), Q (some (0, 1)) σ) (g5 : ∀ (c2 : x2 < 6), 0 ≤ x2 ∧ x2 < 13) (k3 : ∀ (c2 : x2 < 6), Q (some (0, (rd σ 79 x2))) σ) : pC mX11_minutesOf d [(2, 68), (0, x1), (0, x2)] σ Q := by
  show pR mX11_minutesOf d 0 [(2, 68), (0, x1), (0, x2), (9, 0)] [] σ Q
  refine pGo (s_iload_n dX11_minutesOf_0 rfl) ?_
  refine pGo (s_bipush dX11_minutesOf_1 (by decide)) ?_
  refine p_icge (tgt := 13) dX11_minutesOf_3 (by decide) g1 (by decide) (fun c1 => ?_) (fun c2 => ?_)
  · refine pGo (s_aload_n dX11_minutesOf_13 rfl (by decide)) ?_
    refine pGoE (y := 79) (s_getF pc11 fl_X11_45 dX11_minutesOf_14 (ob_68 hst) rfl (by decide)) (by decide) ?_
    refine pGo (s_iload_n dX11_minutesOf_17 rfl) ?_
    refine pGoE (y := (rd σ 79 x2)) (s_iald dX11_minutesOf_18 (ob_79 hst) (bnd (g2 c1))) rfl ?_
    refine pGo (s_aload_n dX11_minutesOf_19 rfl (by decide)) ?_
    refine pGoE (y := 79) (s_getF pc11 fl_X11_45 dX11_minutesOf_20 (ob_68 hst) rfl (by decide)) (by decide) ?_
    refine pGo (s_iload_n dX11_minutesOf_23 rfl) ?_
    refine pGoE (y := (rd σ 79 x2)) (s_iald dX11_minutesOf_24 (ob_79 hst) (bnd (g2 c1))) rfl ?_
    refine pGo (s_iload_n dX11_minutesOf_25 rfl) ?_
    refine pGo (s_aload_n dX11_minutesOf_26 rfl (by decide)) ?_
    refine pGoE (y := 80) (s_getF pc11 fl_X11_48 dX11_minutesOf_27 (ob_68 hst) rfl (by decide)) (by decide) ?_
    refine pGo (s_iload_n dX11_minutesOf_30 rfl) ?_
    refine pGoE (y := (rd σ 80 x2)) (s_iald dX11_minutesOf_31 (ob_80 hst) (bnd (g2 c1))) rfl ?_
    refine pGo (s_isub dX11_minutesOf_32) ?_
    refine pGo (s_imul dX11_minutesOf_33) ?_
    refine pGo (s_iconst dX11_minutesOf_34) ?_
    refine pGo (s_idiv dX11_minutesOf_35 (g3 c1) (by decide) (by decide)) ?_
    refine pGo (s_isub dX11_minutesOf_36) ?_
    refine pGoL (ls2 := [(2, 68), (0, x1), (0, x2), (0, ((rd σ 79 x2) - (((rd σ 79 x2) * (x1 - (rd σ 80 x2))).tdiv 4)))]) (s_istore_n dX11_minutesOf_37 (by decide) rfl) rfl ?_
    refine pGo (s_iload_n dX11_minutesOf_38 rfl) ?_
    refine pGo (s_iconst dX11_minutesOf_39) ?_
    refine p_icge (tgt := 47) dX11_minutesOf_40 (by decide) (g4 c1) (by decide) (fun c3 => ?_) (fun c4 => ?_)
    · refine pGo (s_iload_n dX11_minutesOf_47 rfl) ?_
      exact pEnd (r := (some (0, ((rd σ 79 x2) - (((rd σ 79 x2) * (x1 - (rd σ 80 x2))).tdiv 4))))) dX11_minutesOf_48 ⟨_, rfl⟩ (k1 c1 c3)
    · refine pGo (s_iconst dX11_minutesOf_43) ?_
      refine pGo (s_goto (tgt := 48) dX11_minutesOf_44 (by decide)) ?_
      exact pEnd (r := (some (0, 1))) dX11_minutesOf_48 ⟨_, rfl⟩ (k2 c1 c4)
  · refine pGo (s_aload_n dX11_minutesOf_6 rfl (by decide)) ?_
    refine pGoE (y := 79) (s_getF pc11 fl_X11_45 dX11_minutesOf_7 (ob_68 hst) rfl (by decide)) (by decide) ?_
    refine pGo (s_iload_n dX11_minutesOf_10 rfl) ?_
    refine pGoE (y := (rd σ 79 x2)) (s_iald dX11_minutesOf_11 (ob_79 hst) (bnd (g5 c2))) rfl ?_
    exact pEnd (r := (some (0, (rd σ 79 x2)))) dX11_minutesOf_12 ⟨_, rfl⟩ (k3 c2)
set_option maxRecDepth 100000 in
theorem g_X11_by_0 {d : Nat} {σ : pS} {Q : Option pV → pS → Prop} (hd : 2 ≤ d) (hst : Stat σ) (x1 : Int) (x2 : Int) (x3 : Int)  (g1 : inR x3) (k1 : ∀ (c1 : 480 < x3), Q (some (0, (-1))) σ) (f1 : ∀ (c2 : x3 ≤ 480), pC mX11_canGo 1 [(2, 68), (0, x1), (0, x2)] σ (fun r τ => r = some (0, b2i (goS σ x1 x2)) ∧ τ = σ)) (k2 : ∀ (c2 : x3 ≤ 480) (c3 : (goS σ x1 x2) = false), Q (some (0, (-1))) σ) (g2 : ∀ (c2 : x3 ≤ 480) (c4 : (goS σ x1 x2) = true), 0 ≤ ((482 * x2) + x3) ∧ ((482 * x2) + x3) < 6266) (g3 : ∀ (c2 : x3 ≤ 480) (c4 : (goS σ x1 x2) = true), inR (rd σ 104 ((482 * x2) + x3))) (f2 : ∀ (c2 : x3 ≤ 480) (c4 : (goS σ x1 x2) = true) (c5 : 0 ≤ (rd σ 104 ((482 * x2) + x3))), pC mX11_minutesOf 0 [(2, 68), (0, x1), (0, x2)] σ (fun r τ => r = some (0, (minS σ x1 x2)) ∧ τ = σ)) (k3 : ∀ (c2 : x3 ≤ 480) (c4 : (goS σ x1 x2) = true) (c5 : 0 ≤ (rd σ 104 ((482 * x2) + x3))), Q (some (0, ((rd σ 104 ((482 * x2) + x3)) + (minS σ x1 x2)))) σ) (k4 : ∀ (c2 : x3 ≤ 480) (c4 : (goS σ x1 x2) = true) (c6 : (rd σ 104 ((482 * x2) + x3)) < 0), Q (some (0, (-1))) σ) : pC mX11_by d [(2, 68), (0, x1), (0, x2), (0, x3)] σ Q := by
  show pR mX11_by d 0 [(2, 68), (0, x1), (0, x2), (0, x3)] [] σ Q
  refine pGo (s_iload_n dX11_by_0 rfl) ?_
  refine pGo (s_sipush dX11_by_1 (by decide)) ?_
  refine p_icgt (tgt := 31) dX11_by_4 (by decide) g1 (by decide) (fun c1 => ?_) (fun c2 => ?_)
  · refine pGo (s_iconst dX11_by_31) ?_
    exact pEnd (r := (some (0, (-1)))) dX11_by_32 ⟨_, rfl⟩ (k1 c1)
  · refine pGo (s_aload_n dX11_by_7 rfl (by decide)) ?_
    refine pGo (s_iload_n dX11_by_8 rfl) ?_
    refine pGo (s_iload_n dX11_by_9 rfl) ?_
    refine p_callV (As := [(0, x1), (0, x2)]) (st := []) (n := 2) (d' := 1) (Q1 := (fun r τ => r = some (0, b2i (goS σ x1 x2)) ∧ τ = σ)) pc11 ok_X11_canGo ml_X11_483 im_X11_canGo se_X11_canGo dX11_by_10 (ob_68 hst) (pargs_of rfl) rfl (Nat.le_of_ble_eq_true rfl) (by omega) (f1 c2) (fun r1 τ1 e1 q1 w1 => ?_)
    obtain ⟨rfl, t1⟩ := q1
    rw [t1]
    show pR mX11_by d 13 [(2, 68), (0, x1), (0, x2), (0, x3)] [(0, (b2i (goS σ x1 x2)))] σ Q
    refine p_ifeqB (tgt := 31) dX11_by_13 (by decide) (fun c3 => ?_) (fun c4 => ?_)
    · refine pGo (s_iconst dX11_by_31) ?_
      exact pEnd (r := (some (0, (-1)))) dX11_by_32 ⟨_, rfl⟩ (k2 c2 c3)
    · refine pGo (s_aload_n dX11_by_16 rfl (by decide)) ?_
      refine pGoE (y := 104) (s_getF pc11 fl_X11_121 dX11_by_17 (ob_68 hst) rfl (by decide)) (by decide) ?_
      refine pGo (s_sipush dX11_by_20 (by decide)) ?_
      refine pGo (s_iload_n dX11_by_23 rfl) ?_
      refine pGo (s_imul dX11_by_24) ?_
      refine pGo (s_iload_n dX11_by_25 rfl) ?_
      refine pGo (s_iadd dX11_by_26) ?_
      refine pGoE (y := (rd σ 104 ((482 * x2) + x3))) (s_iald dX11_by_27 (ob_104 hst) (bnd (g2 c2 c4))) rfl ?_
      refine p_ifge (tgt := 33) dX11_by_28 (by decide) (g3 c2 c4) (fun c5 => ?_) (fun c6 => ?_)
      · refine pGo (s_aload_n dX11_by_33 rfl (by decide)) ?_
        refine pGoE (y := 104) (s_getF pc11 fl_X11_121 dX11_by_34 (ob_68 hst) rfl (by decide)) (by decide) ?_
        refine pGo (s_sipush dX11_by_37 (by decide)) ?_
        refine pGo (s_iload_n dX11_by_40 rfl) ?_
        refine pGo (s_imul dX11_by_41) ?_
        refine pGo (s_iload_n dX11_by_42 rfl) ?_
        refine pGo (s_iadd dX11_by_43) ?_
        refine pGoE (y := (rd σ 104 ((482 * x2) + x3))) (s_iald dX11_by_44 (ob_104 hst) (bnd (g2 c2 c4))) rfl ?_
        refine pGo (s_aload_n dX11_by_45 rfl (by decide)) ?_
        refine pGo (s_iload_n dX11_by_46 rfl) ?_
        refine pGo (s_iload_n dX11_by_47 rfl) ?_
        refine p_callV (As := [(0, x1), (0, x2)]) (st := [(0, (rd σ 104 ((482 * x2) + x3)))]) (n := 2) (d' := 0) (Q1 := (fun r τ => r = some (0, (minS σ x1 x2)) ∧ τ = σ)) pc11 ok_X11_minutesOf ml_X11_486 im_X11_minutesOf se_X11_minutesOf dX11_by_48 (ob_68 hst) (pargs_of rfl) rfl (Nat.le_of_ble_eq_true rfl) (by omega) (f2 c2 c4 c5) (fun r2 τ2 e2 q2 w2 => ?_)
        obtain ⟨rfl, t2⟩ := q2
        rw [t2]
        show pR mX11_by d 51 [(2, 68), (0, x1), (0, x2), (0, x3)] [(0, (minS σ x1 x2)), (0, (rd σ 104 ((482 * x2) + x3)))] σ Q
        refine pGo (s_iadd dX11_by_51) ?_
        exact pEnd (r := (some (0, ((rd σ 104 ((482 * x2) + x3)) + (minS σ x1 x2))))) dX11_by_52 ⟨_, rfl⟩ (k3 c2 c4 c5)
      · refine pGo (s_iconst dX11_by_31) ?_
        exact pEnd (r := (some (0, (-1)))) dX11_by_32 ⟨_, rfl⟩ (k4 c2 c4 c6)
set_option maxRecDepth 100000 in
theorem g_X4_behind_0 {d : Nat} {σ : pS} {Q : Option pV → pS → Prop} (hd : 3 ≤ d) (hst : Stat σ) (x1 : Int) (x2 : Int) (x3 : Int)  (f1 : pC mX6_fits 0 [(2, (rd σ 35 4)), (0, x1), (0, x2)] σ (fun r τ => r = some (0, b2i (vFits σ (rd σ 35 4) x1 x2)) ∧ τ = σ)) (g1 : Inst6 σ (rd σ 35 4)) (f2 : ∀ (c1 : (vFits σ (rd σ 35 4) x1 x2) = true), pC mX3_firstOpen 2 [(2, 35), (0, x1), (0, x3)] σ (fun r τ => r = some (0, (vFO σ x1 x3)) ∧ τ = σ)) (g2 : ∀ (c1 : (vFits σ (rd σ 35 4) x1 x2) = true), inR (vFO σ x1 x3)) (f3 : ∀ (c1 : (vFits σ (rd σ 35 4) x1 x2) = true) (c3 : (vFO σ x1 x3) ≠ (-1)), pC mX6_minutes 1 [(2, (rd σ 35 4)), (0, x1), (0, x2)] σ (fun r τ => r = some (0, (vMinX σ (rd σ 35 4) x1 x2)) ∧ τ = σ)) (k1 : ∀ (c1 : (vFits σ (rd σ 35 4) x1 x2) = true) (c3 : (vFO σ x1 x3) ≠ (-1)), Q (some (0, ((vFO σ x1 x3) + (vMinX σ (rd σ 35 4) x1 x2)))) σ) (k2 : ∀ (c1 : (vFits σ (rd σ 35 4) x1 x2) = true) (c4 : (vFO σ x1 x3) = (-1)), Q (some (0, (-1))) σ) (k3 : ∀ (c2 : (vFits σ (rd σ 35 4) x1 x2) = false), Q (some (0, (-1))) σ) : pC mX4_behind d [(2, 40), (0, x1), (0, x2), (0, x3)] σ Q := by
  show pR mX4_behind d 0 [(2, 40), (0, x1), (0, x2), (0, x3), (9, 0)] [] σ Q
  refine pGo (s_aload_n dX4_behind_0 rfl (by decide)) ?_
  refine pGoE (y := 35) (s_getF pc4 fl_X4_18 dX4_behind_1 (ob_40 hst) rfl (by decide)) (by decide) ?_
  refine pGoE (y := (rd σ 35 4)) (s_getR pc3 fl_X4_29 dX4_behind_4 (ob_35 hst) rfl rfl) rfl ?_
  refine pGo (s_iload_n dX4_behind_7 rfl) ?_
  refine pGo (s_iload_n dX4_behind_8 rfl) ?_
  refine p_callV (As := [(0, x1), (0, x2)]) (st := []) (n := 2) (d' := 0) (Q1 := (fun r τ => r = some (0, b2i (vFits σ (rd σ 35 4) x1 x2)) ∧ τ = σ)) pc6 ok_X6_fits ml_X4_55 im_X6_fits se_X6_fits dX4_behind_9 g1.o0 (pargs_of rfl) rfl (Nat.le_of_ble_eq_true rfl) (by omega) f1 (fun r1 τ1 e1 q1 w1 => ?_)
  obtain ⟨rfl, t1⟩ := q1
  rw [t1]
  show pR mX4_behind d 12 [(2, 40), (0, x1), (0, x2), (0, x3), (9, 0)] [(0, (b2i (vFits σ (rd σ 35 4) x1 x2)))] σ Q
  refine p_ifneB (tgt := 17) dX4_behind_12 (by decide) (fun c1 => ?_) (fun c2 => ?_)
  · refine pGo (s_aload_n dX4_behind_17 rfl (by decide)) ?_
    refine pGoE (y := 35) (s_getF pc4 fl_X4_18 dX4_behind_18 (ob_40 hst) rfl (by decide)) (by decide) ?_
    refine pGo (s_iload_n dX4_behind_21 rfl) ?_
    refine pGo (s_iload_n dX4_behind_22 rfl) ?_
    refine p_callV (As := [(0, x1), (0, x3)]) (st := []) (n := 2) (d' := 2) (Q1 := (fun r τ => r = some (0, (vFO σ x1 x3)) ∧ τ = σ)) pc3 ok_X3_firstOpen ml_X4_58 im_X3_firstOpen se_X3_firstOpen dX4_behind_23 (ob_35 hst) (pargs_of rfl) rfl (Nat.le_of_ble_eq_true rfl) (by omega) (f2 c1) (fun r2 τ2 e2 q2 w2 => ?_)
    obtain ⟨rfl, t2⟩ := q2
    rw [t2]
    show pR mX4_behind d 26 [(2, 40), (0, x1), (0, x2), (0, x3), (9, 0)] [(0, (vFO σ x1 x3))] σ Q
    refine pGoL (ls2 := [(2, 40), (0, x1), (0, x2), (0, x3), (0, (vFO σ x1 x3))]) (s_istore dX4_behind_26 (by decide) rfl) rfl ?_
    refine pGo (s_iload dX4_behind_28 rfl) ?_
    refine pGo (s_iconst dX4_behind_30) ?_
    refine p_icne (tgt := 38) dX4_behind_31 (by decide) (g2 c1) (by decide) (fun c3 => ?_) (fun c4 => ?_)
    · refine pGo (s_iload dX4_behind_38 rfl) ?_
      refine pGo (s_aload_n dX4_behind_40 rfl (by decide)) ?_
      refine pGoE (y := 35) (s_getF pc4 fl_X4_18 dX4_behind_41 (ob_40 hst) rfl (by decide)) (by decide) ?_
      refine pGoE (y := (rd σ 35 4)) (s_getR pc3 fl_X4_29 dX4_behind_44 (ob_35 hst) rfl rfl) rfl ?_
      refine pGo (s_iload_n dX4_behind_47 rfl) ?_
      refine pGo (s_iload_n dX4_behind_48 rfl) ?_
      refine p_callV (As := [(0, x1), (0, x2)]) (st := [(0, (vFO σ x1 x3))]) (n := 2) (d' := 1) (Q1 := (fun r τ => r = some (0, (vMinX σ (rd σ 35 4) x1 x2)) ∧ τ = σ)) pc6 ok_X6_minutes ml_X4_62 im_X6_minutes se_X6_minutes dX4_behind_49 g1.o0 (pargs_of rfl) rfl (Nat.le_of_ble_eq_true rfl) (by omega) (f3 c1 c3) (fun r3 τ3 e3 q3 w3 => ?_)
      obtain ⟨rfl, t3⟩ := q3
      rw [t3]
      show pR mX4_behind d 52 [(2, 40), (0, x1), (0, x2), (0, x3), (0, (vFO σ x1 x3))] [(0, (vMinX σ (rd σ 35 4) x1 x2)), (0, (vFO σ x1 x3))] σ Q
      refine pGo (s_iadd dX4_behind_52) ?_
      exact pEnd (r := (some (0, ((vFO σ x1 x3) + (vMinX σ (rd σ 35 4) x1 x2))))) dX4_behind_53 ⟨_, rfl⟩ (k1 c1 c3)
    · refine pGo (s_iconst dX4_behind_34) ?_
      refine pGo (s_goto (tgt := 53) dX4_behind_35 (by decide)) ?_
      exact pEnd (r := (some (0, (-1)))) dX4_behind_53 ⟨_, rfl⟩ (k2 c1 c4)
  · refine pGo (s_iconst dX4_behind_15) ?_
    exact pEnd (r := (some (0, (-1)))) dX4_behind_16 ⟨_, rfl⟩ (k3 c2)
