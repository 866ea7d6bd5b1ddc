/-! walks: the reference reads a mountain -/
section PZA
variable {M : pM} {d pc : Nat} {ls st : List pV} {σ : pS} {a : Int}
theorem s_zastA {x : Nat} {i v : Int} (hd : decode M.2.1 pc = .ok (.bastore, 1)) (ho : ob σ a = some (52, x)) (hi : 0 ≤ i ∧ i < (x : Int) ∧ i < 2147483648) : pStep M d pc ls ((0, v) :: (0, i) :: (2, a) :: st) σ (pc + 1) ls st (wr σ a i (i_and v 1)) := by
  refine pStep.write (pLe.wr σ (ob_some ho).1) rfl rfl ?_
  intro p l e R s m args below meth c H locs cells slots Q g lsA hC hU hS hH k
  obtain ⟨h1, h2⟩ := i32_in (n := x) hi.1 hi.2.1 (by omega)
  rw [List.map_cons, List.map_cons, List.map_cons, pval_2 (ob_some ho).1]
  refine W.zast hC.1 hC.2.1 (cell_int (t := 2) (U := s) hH ho (by decide)) ((hU.1.2 2 _ rfl).1 x (fun j => .int (Int32.ofInt (rd σ a j)))) (fun q => by cases q) (by show ¬ (_ ∨ (arrV _ _ _).slots.size ≤ _); rw [arrV_size]; exact h1) rfl rfl hd fun H1 e z oq => ?_
  rw [h2] at e ⊢
  have hn : narrow .boolean (.int (Int32.ofInt v)) = .int (Int32.ofInt (i_and v 1)) := by rw [i_and, Int32.ofInt_toInt]; rfl
  rw [hn] at e
  exact k H1 _ (hS.put z oq (Nat.le_add_right _ _)) (st_int (t := 2) hH ho (by decide) hi.1 e z oq)
end PZA
set_option maxRecDepth 100000 in
theorem g_X11_isTold_0 {d : Nat} {σ : pS} {Q : Option pV → pS → Prop} (hd : 0 ≤ d) (hst : Stat σ) (x1 : Int)  (k1 : pR mX11_isTold d 5 [(2, 68), (1, x1), (9, 0), (0, 0), (0, 0)] [] σ Q) : pC mX11_isTold d [(2, 68), (1, x1)] σ Q := by
  show pR mX11_isTold d 0 [(2, 68), (1, x1), (9, 0), (9, 0), (9, 0)] [] σ Q
  refine pGo (s_iconst dX11_isTold_0) ?_
  refine pGoL (ls2 := [(2, 68), (1, x1), (9, 0), (0, 0), (9, 0)]) (s_istore_n dX11_isTold_1 (by decide) rfl) rfl ?_
  refine pGo (s_iconst dX11_isTold_2) ?_
  refine pGoL (ls2 := [(2, 68), (1, x1), (9, 0), (0, 0), (0, 0)]) (s_istore dX11_isTold_3 (by decide) rfl) rfl ?_
  exact k1
set_option maxRecDepth 100000 in
theorem g_X11_isTold_5 {d : Nat} {σ : pS} {Q : Option pV → pS → Prop} (hd : 0 ≤ d) (hst : Stat σ) (x1 : Int) (x3 : Int) (x4 : Int)  (g1 : inR x4) (g2 : inR (rd σ 68 17)) (k1 : ∀ (c1 : (rd σ 68 17) ≤ x4), pR mX11_isTold d 46 [(2, 68), (1, x1), (9, 0), (0, x3), (0, 6)] [] σ Q) (g3 : ∀ (c2 : x4 < (rd σ 68 17)), inR x3) (k2 : ∀ (c2 : x4 < (rd σ 68 17)) (c3 : x3 ≠ 0), pR mX11_isTold d 5 [(2, 68), (1, x1), (9, 0), (0, 1), (0, (x4 + 1))] [] σ Q) (g4 : ∀ (c2 : x4 < (rd σ 68 17)) (c4 : x3 = 0), 0 ≤ x4 ∧ x4 < 13) (g5 : ∀ (c2 : x4 < (rd σ 68 17)) (c4 : x3 = 0), inL (rd σ 70 x4)) (g6 : ∀ (c2 : x4 < (rd σ 68 17)) (c4 : x3 = 0), inL x1) (k3 : ∀ (c2 : x4 < (rd σ 68 17)) (c4 : x3 = 0) (c5 : (l_cmp (rd σ 70 x4) x1) ≠ 0), pR mX11_isTold d 5 [(2, 68), (1, x1), (9, 0), (0, 0), (0, (x4 + 1))] [] σ Q) (k4 : ∀ (c2 : x4 < (rd σ 68 17)) (c4 : x3 = 0) (c6 : (l_cmp (rd σ 70 x4) x1) = 0), pR mX11_isTold d 5 [(2, 68), (1, x1), (9, 0), (0, 1), (0, (x4 + 1))] [] σ Q) : pR mX11_isTold d 5 [(2, 68), (1, x1), (9, 0), (0, x3), (0, x4)] [] σ Q := by
  refine pGo (s_iload dX11_isTold_5 rfl) ?_
  refine pGo (s_aload_n dX11_isTold_7 rfl (by decide)) ?_
  refine pGoE (y := (rd σ 68 17)) (s_getI pc11 fl_X11_322 dX11_isTold_8 (ob_68 hst) rfl (by decide)) rfl ?_
  refine p_icge (tgt := 42) dX11_isTold_11 (by decide) g1 g2 (fun c1 => ?_) (fun c2 => ?_)
  · refine pGo (s_bipush dX11_isTold_42 (by decide)) ?_
    refine pGoL (ls2 := [(2, 68), (1, x1), (9, 0), (0, x3), (0, 6)]) (s_istore dX11_isTold_44 (by decide) rfl) rfl ?_
    exact (k1 c1)
  · refine pGo (s_iload_n dX11_isTold_14 rfl) ?_
    refine p_ifne (tgt := 30) dX11_isTold_15 (by decide) (g3 c2) (fun c3 => ?_) (fun c4 => ?_)
    · refine pGo (s_iconst dX11_isTold_30) ?_
      refine pGo (s_goto (tgt := 35) dX11_isTold_31 (by decide)) ?_
      refine pGoL (ls2 := [(2, 68), (1, x1), (9, 0), (0, 1), (0, x4)]) (s_istore_n dX11_isTold_35 (by decide) rfl) rfl ?_
      refine pGoL (ls2 := [(2, 68), (1, x1), (9, 0), (0, 1), (0, (x4 + 1))]) (s_iinc dX11_isTold_36 (by decide) rfl rfl) rfl ?_
      refine pGo (s_goto (tgt := 5) dX11_isTold_39 (by decide)) ?_
      exact (k2 c2 c3)
    · refine pGo (s_aload_n dX11_isTold_18 rfl (by decide)) ?_
      refine pGoE (y := 70) (s_getF pc11 fl_X11_17 dX11_isTold_19 (ob_68 hst) rfl (by decide)) (by decide) ?_
      refine pGo (s_iload dX11_isTold_22 rfl) ?_
      refine pGoE (y := (rd σ 70 x4)) (s_lald dX11_isTold_24 (ob_70 hst) (bnd (g4 c2 c4))) rfl ?_
      refine pGo (s_lload_n dX11_isTold_25 rfl) ?_
      refine pGo (s_lcmp dX11_isTold_26 (g5 c2 c4) (g6 c2 c4)) ?_
      refine p_ifne (tgt := 34) dX11_isTold_27 (by decide) (l_cmp_R _ _) (fun c5 => ?_) (fun c6 => ?_)
      · refine pGo (s_iconst dX11_isTold_34) ?_
        refine pGoL (ls2 := [(2, 68), (1, x1), (9, 0), (0, 0), (0, x4)]) (s_istore_n dX11_isTold_35 (by decide) rfl) rfl ?_
        refine pGoL (ls2 := [(2, 68), (1, x1), (9, 0), (0, 0), (0, (x4 + 1))]) (s_iinc dX11_isTold_36 (by decide) rfl rfl) rfl ?_
        refine pGo (s_goto (tgt := 5) dX11_isTold_39 (by decide)) ?_
        exact (k3 c2 c4 c5)
      · refine pGo (s_iconst dX11_isTold_30) ?_
        refine pGo (s_goto (tgt := 35) dX11_isTold_31 (by decide)) ?_
        refine pGoL (ls2 := [(2, 68), (1, x1), (9, 0), (0, 1), (0, x4)]) (s_istore_n dX11_isTold_35 (by decide) rfl) rfl ?_
        refine pGoL (ls2 := [(2, 68), (1, x1), (9, 0), (0, 1), (0, (x4 + 1))]) (s_iinc dX11_isTold_36 (by decide) rfl rfl) rfl ?_
        refine pGo (s_goto (tgt := 5) dX11_isTold_39 (by decide)) ?_
        exact (k4 c2 c4 c6)
set_option maxRecDepth 100000 in
theorem g_X11_isTold_46 {d : Nat} {σ : pS} {Q : Option pV → pS → Prop} (hd : 0 ≤ d) (hst : Stat σ) (x1 : Int) (x3 : Int) (x4 : Int)  (g1 : inR x4) (g2 : inR (6 + (rd σ 68 18))) (k1 : ∀ (c1 : (6 + (rd σ 68 18)) ≤ x4), Q (some (0, x3)) σ) (g3 : ∀ (c1 : (6 + (rd σ 68 18)) ≤ x4), x3 = 0 ∨ x3 = 1) (g4 : ∀ (c2 : x4 < (6 + (rd σ 68 18))), inR x3) (k2 : ∀ (c2 : x4 < (6 + (rd σ 68 18))) (c3 : x3 ≠ 0), pR mX11_isTold d 46 [(2, 68), (1, x1), (9, 0), (0, 1), (0, (x4 + 1))] [] σ Q) (g5 : ∀ (c2 : x4 < (6 + (rd σ 68 18))) (c4 : x3 = 0), 0 ≤ x4 ∧ x4 < 13) (g6 : ∀ (c2 : x4 < (6 + (rd σ 68 18))) (c4 : x3 = 0), inL (rd σ 70 x4)) (g7 : ∀ (c2 : x4 < (6 + (rd σ 68 18))) (c4 : x3 = 0), inL x1) (k3 : ∀ (c2 : x4 < (6 + (rd σ 68 18))) (c4 : x3 = 0) (c5 : (l_cmp (rd σ 70 x4) x1) ≠ 0), pR mX11_isTold d 46 [(2, 68), (1, x1), (9, 0), (0, 0), (0, (x4 + 1))] [] σ Q) (k4 : ∀ (c2 : x4 < (6 + (rd σ 68 18))) (c4 : x3 = 0) (c6 : (l_cmp (rd σ 70 x4) x1) = 0), pR mX11_isTold d 46 [(2, 68), (1, x1), (9, 0), (0, 1), (0, (x4 + 1))] [] σ Q) : pR mX11_isTold d 46 [(2, 68), (1, x1), (9, 0), (0, x3), (0, x4)] [] σ Q := by
  refine pGo (s_iload dX11_isTold_46 rfl) ?_
  refine pGo (s_bipush dX11_isTold_48 (by decide)) ?_
  refine pGo (s_aload_n dX11_isTold_50 rfl (by decide)) ?_
  refine pGoE (y := (rd σ 68 18)) (s_getI pc11 fl_X11_325 dX11_isTold_51 (ob_68 hst) rfl (by decide)) rfl ?_
  refine pGo (s_iadd dX11_isTold_54) ?_
  refine p_icge (tgt := 86) dX11_isTold_55 (by decide) g1 g2 (fun c1 => ?_) (fun c2 => ?_)
  · refine pGo (s_iload_n dX11_isTold_86 rfl) ?_
    exact pEnd (r := (some (0, x3))) dX11_isTold_87 (pRok_01 (g3 c1)) (k1 c1)
  · refine pGo (s_iload_n dX11_isTold_58 rfl) ?_
    refine p_ifne (tgt := 74) dX11_isTold_59 (by decide) (g4 c2) (fun c3 => ?_) (fun c4 => ?_)
    · refine pGo (s_iconst dX11_isTold_74) ?_
      refine pGo (s_goto (tgt := 79) dX11_isTold_75 (by decide)) ?_
      refine pGoL (ls2 := [(2, 68), (1, x1), (9, 0), (0, 1), (0, x4)]) (s_istore_n dX11_isTold_79 (by decide) rfl) rfl ?_
      refine pGoL (ls2 := [(2, 68), (1, x1), (9, 0), (0, 1), (0, (x4 + 1))]) (s_iinc dX11_isTold_80 (by decide) rfl rfl) rfl ?_
      refine pGo (s_goto (tgt := 46) dX11_isTold_83 (by decide)) ?_
      exact (k2 c2 c3)
    · refine pGo (s_aload_n dX11_isTold_62 rfl (by decide)) ?_
      refine pGoE (y := 70) (s_getF pc11 fl_X11_17 dX11_isTold_63 (ob_68 hst) rfl (by decide)) (by decide) ?_
      refine pGo (s_iload dX11_isTold_66 rfl) ?_
      refine pGoE (y := (rd σ 70 x4)) (s_lald dX11_isTold_68 (ob_70 hst) (bnd (g5 c2 c4))) rfl ?_
      refine pGo (s_lload_n dX11_isTold_69 rfl) ?_
      refine pGo (s_lcmp dX11_isTold_70 (g6 c2 c4) (g7 c2 c4)) ?_
      refine p_ifne (tgt := 78) dX11_isTold_71 (by decide) (l_cmp_R _ _) (fun c5 => ?_) (fun c6 => ?_)
      · refine pGo (s_iconst dX11_isTold_78) ?_
        refine pGoL (ls2 := [(2, 68), (1, x1), (9, 0), (0, 0), (0, x4)]) (s_istore_n dX11_isTold_79 (by decide) rfl) rfl ?_
        refine pGoL (ls2 := [(2, 68), (1, x1), (9, 0), (0, 0), (0, (x4 + 1))]) (s_iinc dX11_isTold_80 (by decide) rfl rfl) rfl ?_
        refine pGo (s_goto (tgt := 46) dX11_isTold_83 (by decide)) ?_
        exact (k3 c2 c4 c5)
      · refine pGo (s_iconst dX11_isTold_74) ?_
        refine pGo (s_goto (tgt := 79) dX11_isTold_75 (by decide)) ?_
        refine pGoL (ls2 := [(2, 68), (1, x1), (9, 0), (0, 1), (0, x4)]) (s_istore_n dX11_isTold_79 (by decide) rfl) rfl ?_
        refine pGoL (ls2 := [(2, 68), (1, x1), (9, 0), (0, 1), (0, (x4 + 1))]) (s_iinc dX11_isTold_80 (by decide) rfl rfl) rfl ?_
        refine pGo (s_goto (tgt := 46) dX11_isTold_83 (by decide)) ?_
        exact (k4 c2 c4 c6)
set_option maxRecDepth 100000 in
theorem g_X11_readWayL_0 {d : Nat} {σ : pS} {Q : Option pV → pS → Prop} {Q1 : Option pV → pS → Prop} {Q2 : Option pV → pS → Prop} {Q3 : Option pV → pS → Prop} (hd : 3 ≤ d) (hst : Stat σ)   (f1 : pC mX11_isName 0 [(2, 68)] σ (fun r τ => r = some (0, b2i (vIsN σ)) ∧ τ = σ)) (f2 : ∀ (c1 : (vIsN σ) = true), pC mX11_isTold 0 [(2, 68), (1, (rd σ 68 9))] σ Q1) (g1 : ∀ (c1 : (vIsN σ) = true) (v2 : Int) (b2 : v2 = 0 ∨ v2 = 1) (τ2 : pS) (e2 : pLe σ τ2) (q2 : Q1 (some (0, v2)) τ2), inR v2) (k1 : ∀ (c1 : (vIsN σ) = true) (v2 : Int) (b2 : v2 = 0 ∨ v2 = 1) (τ2 : pS) (e2 : pLe σ τ2) (q2 : Q1 (some (0, v2)) τ2) (c3 : v2 = 0), pR mX11_readWay d 50 [(2, 68), (0, 1), (0, (rd σ 68 17)), (9, 0), (9, 0)] [] τ2 Q) (f3 : ∀ (c1 : (vIsN σ) = true) (v2 : Int) (b2 : v2 = 0 ∨ v2 = 1) (τ2 : pS) (e2 : pLe σ τ2) (q2 : Q1 (some (0, v2)) τ2) (c4 : v2 ≠ 0), pC mX11_wrong 0 [(2, 68), (0, 3)] τ2 Q2) (k2 : ∀ (c1 : (vIsN σ) = true) (v2 : Int) (b2 : v2 = 0 ∨ v2 = 1) (τ2 : pS) (e2 : pLe σ τ2) (q2 : Q1 (some (0, v2)) τ2) (c4 : v2 ≠ 0) (τ3 : pS) (e3 : pLe τ2 τ3) (q3 : Q2 none τ3), pR mX11_readWay d 50 [(2, 68), (0, 1), (0, (rd σ 68 17)), (9, 0), (9, 0)] [] τ3 Q) (f4 : ∀ (c2 : (vIsN σ) = false), pC mX11_wrong 0 [(2, 68), (0, 2)] σ Q3) (k3 : ∀ (c2 : (vIsN σ) = false) (τ4 : pS) (e4 : pLe σ τ4) (q4 : Q3 none τ4), pR mX11_readWay d 50 [(2, 68), (0, 1), (0, (rd σ 68 17)), (9, 0), (9, 0)] [] τ4 Q) : pC mX11_readWay d [(2, 68), (0, 1)] σ Q := by
  show pR mX11_readWay d 0 [(2, 68), (0, 1), (9, 0), (9, 0), (9, 0)] [] σ Q
  refine pGo (s_iload_n dX11_readWay_0 rfl) ?_
  refine p_ifeq (tgt := 11) dX11_readWay_1 (by decide) (by decide) (fun q => absurd q (by decide)) (fun _ => ?_)
  refine pGo (s_aload_n dX11_readWay_4 rfl (by decide)) ?_
  refine pGoE (y := (rd σ 68 17)) (s_getI pc11 fl_X11_322 dX11_readWay_5 (ob_68 hst) rfl (by decide)) rfl ?_
  refine pGo (s_goto (tgt := 18) dX11_readWay_8 (by decide)) ?_
  refine pGoL (ls2 := [(2, 68), (0, 1), (0, (rd σ 68 17)), (9, 0), (9, 0)]) (s_istore_n dX11_readWay_18 (by decide) rfl) rfl ?_
  refine pGo (s_aload_n dX11_readWay_19 rfl (by decide)) ?_
  refine p_callV (As := []) (st := []) (n := 0) (d' := 0) (Q1 := (fun r τ => r = some (0, b2i (vIsN σ)) ∧ τ = σ)) pc11 ok_X11_isName ml_X11_328 im_X11_isName se_X11_isName dX11_readWay_20 (ob_68 hst) (pargs_of rfl) rfl (Nat.le_of_ble_eq_true rfl) (by omega) f1 (fun r1 τ1 e1 q1 w1 => ?_)
  obtain ⟨rfl, t1⟩ := q1
  rw [t1]
  show pR mX11_readWay d 23 [(2, 68), (0, 1), (0, (rd σ 68 17)), (9, 0), (9, 0)] [(0, (b2i (vIsN σ)))] σ Q
  refine p_ifneB (tgt := 34) dX11_readWay_23 (by decide) (fun c1 => ?_) (fun c2 => ?_)
  · refine pGo (s_aload_n dX11_readWay_34 rfl (by decide)) ?_
    refine pGo (s_aload_n dX11_readWay_35 rfl (by decide)) ?_
    refine pGoE (y := (rd σ 68 9)) (s_getJ pc11 fl_X11_253 dX11_readWay_36 (ob_68 hst) rfl rfl) rfl ?_
    refine p_callV (As := [(1, (rd σ 68 9))]) (st := []) (n := 1) (d' := 0) (Q1 := Q1) pc11 ok_X11_isTold ml_X11_332 im_X11_isTold se_X11_isTold dX11_readWay_39 (ob_68 hst) (pargs_of rfl) rfl (Nat.le_of_ble_eq_true rfl) (by omega) (f2 c1) (fun r2 τ2 e2 q2 w2 => ?_)
    obtain ⟨v2, rfl, b2⟩ := pRok_z w2
    have S2 : Stat τ2 := (Stat.le (σ := σ) hst e2)
    show pR mX11_readWay d 42 [(2, 68), (0, 1), (0, (rd σ 68 17)), (9, 0), (9, 0)] [(0, v2)] τ2 Q
    refine p_ifeq (tgt := 50) dX11_readWay_42 (by decide) (g1 c1 v2 b2 τ2 e2 q2) (fun c3 => ?_) (fun c4 => ?_)
    · exact (k1 c1 v2 b2 τ2 e2 q2 c3)
    · refine pGo (s_aload_n dX11_readWay_45 rfl (by decide)) ?_
      refine pGo (s_iconst dX11_readWay_46) ?_
      refine p_callV (As := [(0, 3)]) (st := []) (n := 1) (d' := 0) (Q1 := Q2) pc11 ok_X11_wrong ml_X11_316 im_X11_wrong se_X11_wrong dX11_readWay_47 (ob_68 S2) (pargs_of rfl) rfl (Nat.le_of_ble_eq_true rfl) (by omega) (f3 c1 v2 b2 τ2 e2 q2 c4) (fun r3 τ3 e3 q3 w3 => ?_)
      obtain rfl : r3 = none := w3
      have S3 : Stat τ3 := (Stat.le (σ := τ2) S2 e3)
      show pR mX11_readWay d 50 [(2, 68), (0, 1), (0, (rd σ 68 17)), (9, 0), (9, 0)] [] τ3 Q
      exact (k2 c1 v2 b2 τ2 e2 q2 c4 τ3 e3 q3)
  · refine pGo (s_aload_n dX11_readWay_26 rfl (by decide)) ?_
    refine pGo (s_iconst dX11_readWay_27) ?_
    refine p_callV (As := [(0, 2)]) (st := []) (n := 1) (d' := 0) (Q1 := Q3) pc11 ok_X11_wrong ml_X11_316 im_X11_wrong se_X11_wrong dX11_readWay_28 (ob_68 hst) (pargs_of rfl) rfl (Nat.le_of_ble_eq_true rfl) (by omega) (f4 c2) (fun r4 τ4 e4 q4 w4 => ?_)
    obtain rfl : r4 = none := w4
    have S4 : Stat τ4 := (Stat.le (σ := σ) hst e4)
    show pR mX11_readWay d 31 [(2, 68), (0, 1), (0, (rd σ 68 17)), (9, 0), (9, 0)] [] τ4 Q
    refine pGo (s_goto (tgt := 50) dX11_readWay_31 (by decide)) ?_
    exact (k3 c2 τ4 e4 q4)
set_option maxRecDepth 100000 in
theorem g_X11_readWayL_50 {d : Nat} {σ : pS} {Q : Option pV → pS → Prop} {Q1 : Option pV → pS → Prop} {Q2 : Option pV → pS → Prop} {Q3 : Option pV → pS → Prop} {Q4 : Option pV → pS → Prop} {Q5 : Option pV → pS → Prop} {Q6 : Option pV → pS → Prop} {Q7 : Option pV → pS → Prop} {Q8 : Option pV → pS → Prop} {Q9 : Option pV → pS → Prop} {Q10 : Option pV → pS → Prop} {Q11 : Option pV → pS → Prop} {Q12 : Option pV → pS → Prop} (hd : 3 ≤ d) (hst : Stat σ) (x2 : Int) (u3 : pV) (u4 : pV) (hu3 : u3.1 ≠ 1) (hu4 : u4.1 ≠ 1) (g1 : inR (rd σ 68 2)) (f1 : ∀ (c1 : (rd σ 68 2) ≤ 0), pC mX11_next 1 [(2, 68)] σ Q1) (f2 : ∀ (c1 : (rd σ 68 2) ≤ 0) (τ1 : pS) (e1 : pLe σ τ1) (q1 : Q1 none τ1), pC mX11_point 2 [(2, 68), (0, (-1))] τ1 Q2) (g2 : ∀ (c1 : (rd σ 68 2) ≤ 0) (τ1 : pS) (e1 : pLe σ τ1) (q1 : Q1 none τ1) (v2 : Int) (τ2 : pS) (e2 : pLe τ1 τ2) (q2 : Q2 (some (0, v2)) τ2), 0 ≤ x2 ∧ x2 < 13) (f3 : ∀ (c1 : (rd σ 68 2) ≤ 0) (τ1 : pS) (e1 : pLe σ τ1) (q1 : Q1 none τ1) (v2 : Int) (τ2 : pS) (e2 : pLe τ1 τ2) (q2 : Q2 (some (0, v2)) τ2), pC mX11_point 2 [(2, 68), (0, v2)] (wr τ2 71 x2 v2) Q3) (f4 : ∀ (c1 : (rd σ 68 2) ≤ 0) (τ1 : pS) (e1 : pLe σ τ1) (q1 : Q1 none τ1) (v2 : Int) (τ2 : pS) (e2 : pLe τ1 τ2) (q2 : Q2 (some (0, v2)) τ2) (v3 : Int) (τ3 : pS) (e3 : pLe (wr τ2 71 x2 v2) τ3) (q3 : Q3 (some (0, v3)) τ3), pC mX11_wantWord 2 [(2, 68), (1, 499850634611)] (wr τ3 72 x2 v3) Q4) (f5 : ∀ (c1 : (rd σ 68 2) ≤ 0) (τ1 : pS) (e1 : pLe σ τ1) (q1 : Q1 none τ1) (v2 : Int) (τ2 : pS) (e2 : pLe τ1 τ2) (q2 : Q2 (some (0, v2)) τ2) (v3 : Int) (τ3 : pS) (e3 : pLe (wr τ2 71 x2 v2) τ3) (q3 : Q3 (some (0, v3)) τ3) (τ4 : pS) (e4 : pLe (wr τ3 72 x2 v3) τ4) (q4 : Q4 none τ4), pC mX11_told 2 [(2, 68), (0, 1), (0, 30)] τ4 Q5) (f6 : ∀ (c1 : (rd σ 68 2) ≤ 0) (τ1 : pS) (e1 : pLe σ τ1) (q1 : Q1 none τ1) (v2 : Int) (τ2 : pS) (e2 : pLe τ1 τ2) (q2 : Q2 (some (0, v2)) τ2) (v3 : Int) (τ3 : pS) (e3 : pLe (wr τ2 71 x2 v2) τ3) (q3 : Q3 (some (0, v3)) τ3) (τ4 : pS) (e4 : pLe (wr τ3 72 x2 v3) τ4) (q4 : Q4 none τ4) (v5 : Int) (τ5 : pS) (e5 : pLe τ4 τ5) (q5 : Q5 (some (0, v5)) τ5), pC mX11_wantWord 2 [(2, 68), (1, 495622124659)] (wr τ5 73 x2 v5) Q6) (f7 : ∀ (c1 : (rd σ 68 2) ≤ 0) (τ1 : pS) (e1 : pLe σ τ1) (q1 : Q1 none τ1) (v2 : Int) (τ2 : pS) (e2 : pLe τ1 τ2) (q2 : Q2 (some (0, v2)) τ2) (v3 : Int) (τ3 : pS) (e3 : pLe (wr τ2 71 x2 v2) τ3) (q3 : Q3 (some (0, v3)) τ3) (τ4 : pS) (e4 : pLe (wr τ3 72 x2 v3) τ4) (q4 : Q4 none τ4) (v5 : Int) (τ5 : pS) (e5 : pLe τ4 τ5) (q5 : Q5 (some (0, v5)) τ5) (τ6 : pS) (e6 : pLe (wr τ5 73 x2 v5) τ6) (q6 : Q6 none τ6), pC mX11_told 2 [(2, 68), (0, 1), (0, 99)] τ6 Q7) (f8 : ∀ (c1 : (rd σ 68 2) ≤ 0) (τ1 : pS) (e1 : pLe σ τ1) (q1 : Q1 none τ1) (v2 : Int) (τ2 : pS) (e2 : pLe τ1 τ2) (q2 : Q2 (some (0, v2)) τ2) (v3 : Int) (τ3 : pS) (e3 : pLe (wr τ2 71 x2 v2) τ3) (q3 : Q3 (some (0, v3)) τ3) (τ4 : pS) (e4 : pLe (wr τ3 72 x2 v3) τ4) (q4 : Q4 none τ4) (v5 : Int) (τ5 : pS) (e5 : pLe τ4 τ5) (q5 : Q5 (some (0, v5)) τ5) (τ6 : pS) (e6 : pLe (wr τ5 73 x2 v5) τ6) (q6 : Q6 none τ6) (v7 : Int) (τ7 : pS) (e7 : pLe τ6 τ7) (q7 : Q7 (some (0, v7)) τ7), pC mX11_wantWord 2 [(2, 68), (1, 1718775661)] (wr τ7 74 x2 v7) Q8) (f9 : ∀ (c1 : (rd σ 68 2) ≤ 0) (τ1 : pS) (e1 : pLe σ τ1) (q1 : Q1 none τ1) (v2 : Int) (τ2 : pS) (e2 : pLe τ1 τ2) (q2 : Q2 (some (0, v2)) τ2) (v3 : Int) (τ3 : pS) (e3 : pLe (wr τ2 71 x2 v2) τ3) (q3 : Q3 (some (0, v3)) τ3) (τ4 : pS) (e4 : pLe (wr τ3 72 x2 v3) τ4) (q4 : Q4 none τ4) (v5 : Int) (τ5 : pS) (e5 : pLe τ4 τ5) (q5 : Q5 (some (0, v5)) τ5) (τ6 : pS) (e6 : pLe (wr τ5 73 x2 v5) τ6) (q6 : Q6 none τ6) (v7 : Int) (τ7 : pS) (e7 : pLe τ6 τ7) (q7 : Q7 (some (0, v7)) τ7) (τ8 : pS) (e8 : pLe (wr τ7 74 x2 v7) τ8) (q8 : Q8 none τ8), pC mX11_told 2 [(2, 68), (0, 0), (0, 480)] τ8 Q9) (f10 : ∀ (c1 : (rd σ 68 2) ≤ 0) (τ1 : pS) (e1 : pLe σ τ1) (q1 : Q1 none τ1) (v2 : Int) (τ2 : pS) (e2 : pLe τ1 τ2) (q2 : Q2 (some (0, v2)) τ2) (v3 : Int) (τ3 : pS) (e3 : pLe (wr τ2 71 x2 v2) τ3) (q3 : Q3 (some (0, v3)) τ3) (τ4 : pS) (e4 : pLe (wr τ3 72 x2 v3) τ4) (q4 : Q4 none τ4) (v5 : Int) (τ5 : pS) (e5 : pLe τ4 τ5) (q5 : Q5 (some (0, v5)) τ5) (τ6 : pS) (e6 : pLe (wr τ5 73 x2 v5) τ6) (q6 : Q6 none τ6) (v7 : Int) (τ7 : pS) (e7 : pLe τ6 τ7) (q7 : Q7 (some (0, v7)) τ7) (τ8 : pS) (e8 : pLe (wr τ7 74 x2 v7) τ8) (q8 : Q8 none τ8) (v9 : Int) (τ9 : pS) (e9 : pLe τ8 τ9) (q9 : Q9 (some (0, v9)) τ9), pC mX11_wantWord 2 [(2, 68), (1, 29807)] (wr τ9 75 x2 v9) Q10) (f11 : ∀ (c1 : (rd σ 68 2) ≤ 0) (τ1 : pS) (e1 : pLe σ τ1) (q1 : Q1 none τ1) (v2 : Int) (τ2 : pS) (e2 : pLe τ1 τ2) (q2 : Q2 (some (0, v2)) τ2) (v3 : Int) (τ3 : pS) (e3 : pLe (wr τ2 71 x2 v2) τ3) (q3 : Q3 (some (0, v3)) τ3) (τ4 : pS) (e4 : pLe (wr τ3 72 x2 v3) τ4) (q4 : Q4 none τ4) (v5 : Int) (τ5 : pS) (e5 : pLe τ4 τ5) (q5 : Q5 (some (0, v5)) τ5) (τ6 : pS) (e6 : pLe (wr τ5 73 x2 v5) τ6) (q6 : Q6 none τ6) (v7 : Int) (τ7 : pS) (e7 : pLe τ6 τ7) (q7 : Q7 (some (0, v7)) τ7) (τ8 : pS) (e8 : pLe (wr τ7 74 x2 v7) τ8) (q8 : Q8 none τ8) (v9 : Int) (τ9 : pS) (e9 : pLe τ8 τ9) (q9 : Q9 (some (0, v9)) τ9) (τ10 : pS) (e10 : pLe (wr τ9 75 x2 v9) τ10) (q10 : Q10 none τ10), pC mX11_told 2 [(2, 68), (0, ((rd τ10 75 x2) + 1)), (0, 480)] τ10 Q11) (g3 : ∀ (c1 : (rd σ 68 2) ≤ 0) (τ1 : pS) (e1 : pLe σ τ1) (q1 : Q1 none τ1) (v2 : Int) (τ2 : pS) (e2 : pLe τ1 τ2) (q2 : Q2 (some (0, v2)) τ2) (v3 : Int) (τ3 : pS) (e3 : pLe (wr τ2 71 x2 v2) τ3) (q3 : Q3 (some (0, v3)) τ3) (τ4 : pS) (e4 : pLe (wr τ3 72 x2 v3) τ4) (q4 : Q4 none τ4) (v5 : Int) (τ5 : pS) (e5 : pLe τ4 τ5) (q5 : Q5 (some (0, v5)) τ5) (τ6 : pS) (e6 : pLe (wr τ5 73 x2 v5) τ6) (q6 : Q6 none τ6) (v7 : Int) (τ7 : pS) (e7 : pLe τ6 τ7) (q7 : Q7 (some (0, v7)) τ7) (τ8 : pS) (e8 : pLe (wr τ7 74 x2 v7) τ8) (q8 : Q8 none τ8) (v9 : Int) (τ9 : pS) (e9 : pLe τ8 τ9) (q9 : Q9 (some (0, v9)) τ9) (τ10 : pS) (e10 : pLe (wr τ9 75 x2 v9) τ10) (q10 : Q10 none τ10) (v11 : Int) (τ11 : pS) (e11 : pLe τ10 τ11) (q11 : Q11 (some (0, v11)) τ11), inR (rd τ11 68 2)) (f12 : ∀ (c1 : (rd σ 68 2) ≤ 0) (τ1 : pS) (e1 : pLe σ τ1) (q1 : Q1 none τ1) (v2 : Int) (τ2 : pS) (e2 : pLe τ1 τ2) (q2 : Q2 (some (0, v2)) τ2) (v3 : Int) (τ3 : pS) (e3 : pLe (wr τ2 71 x2 v2) τ3) (q3 : Q3 (some (0, v3)) τ3) (τ4 : pS) (e4 : pLe (wr τ3 72 x2 v3) τ4) (q4 : Q4 none τ4) (v5 : Int) (τ5 : pS) (e5 : pLe τ4 τ5) (q5 : Q5 (some (0, v5)) τ5) (τ6 : pS) (e6 : pLe (wr τ5 73 x2 v5) τ6) (q6 : Q6 none τ6) (v7 : Int) (τ7 : pS) (e7 : pLe τ6 τ7) (q7 : Q7 (some (0, v7)) τ7) (τ8 : pS) (e8 : pLe (wr τ7 74 x2 v7) τ8) (q8 : Q8 none τ8) (v9 : Int) (τ9 : pS) (e9 : pLe τ8 τ9) (q9 : Q9 (some (0, v9)) τ9) (τ10 : pS) (e10 : pLe (wr τ9 75 x2 v9) τ10) (q10 : Q10 none τ10) (v11 : Int) (τ11 : pS) (e11 : pLe τ10 τ11) (q11 : Q11 (some (0, v11)) τ11) (c3 : (rd τ11 68 2) ≤ 0), pC mX11_isWord 0 [(2, 68), (1, 1734440037)] (wr τ11 76 x2 v11) (fun r τ => r = some (0, b2i (vIsW (wr τ11 76 x2 v11) 1734440037)) ∧ τ = (wr τ11 76 x2 v11))) (g4 : ∀ (c1 : (rd σ 68 2) ≤ 0) (τ1 : pS) (e1 : pLe σ τ1) (q1 : Q1 none τ1) (v2 : Int) (τ2 : pS) (e2 : pLe τ1 τ2) (q2 : Q2 (some (0, v2)) τ2) (v3 : Int) (τ3 : pS) (e3 : pLe (wr τ2 71 x2 v2) τ3) (q3 : Q3 (some (0, v3)) τ3) (τ4 : pS) (e4 : pLe (wr τ3 72 x2 v3) τ4) (q4 : Q4 none τ4) (v5 : Int) (τ5 : pS) (e5 : pLe τ4 τ5) (q5 : Q5 (some (0, v5)) τ5) (τ6 : pS) (e6 : pLe (wr τ5 73 x2 v5) τ6) (q6 : Q6 none τ6) (v7 : Int) (τ7 : pS) (e7 : pLe τ6 τ7) (q7 : Q7 (some (0, v7)) τ7) (τ8 : pS) (e8 : pLe (wr τ7 74 x2 v7) τ8) (q8 : Q8 none τ8) (v9 : Int) (τ9 : pS) (e9 : pLe τ8 τ9) (q9 : Q9 (some (0, v9)) τ9) (τ10 : pS) (e10 : pLe (wr τ9 75 x2 v9) τ10) (q10 : Q10 none τ10) (v11 : Int) (τ11 : pS) (e11 : pLe τ10 τ11) (q11 : Q11 (some (0, v11)) τ11) (c3 : (rd τ11 68 2) ≤ 0), 0 ≤ x2 ∧ x2 < 6) (g5 : ∀ (c1 : (rd σ 68 2) ≤ 0) (τ1 : pS) (e1 : pLe σ τ1) (q1 : Q1 none τ1) (v2 : Int) (τ2 : pS) (e2 : pLe τ1 τ2) (q2 : Q2 (some (0, v2)) τ2) (v3 : Int) (τ3 : pS) (e3 : pLe (wr τ2 71 x2 v2) τ3) (q3 : Q3 (some (0, v3)) τ3) (τ4 : pS) (e4 : pLe (wr τ3 72 x2 v3) τ4) (q4 : Q4 none τ4) (v5 : Int) (τ5 : pS) (e5 : pLe τ4 τ5) (q5 : Q5 (some (0, v5)) τ5) (τ6 : pS) (e6 : pLe (wr τ5 73 x2 v5) τ6) (q6 : Q6 none τ6) (v7 : Int) (τ7 : pS) (e7 : pLe τ6 τ7) (q7 : Q7 (some (0, v7)) τ7) (τ8 : pS) (e8 : pLe (wr τ7 74 x2 v7) τ8) (q8 : Q8 none τ8) (v9 : Int) (τ9 : pS) (e9 : pLe τ8 τ9) (q9 : Q9 (some (0, v9)) τ9) (τ10 : pS) (e10 : pLe (wr τ9 75 x2 v9) τ10) (q10 : Q10 none τ10) (v11 : Int) (τ11 : pS) (e11 : pLe τ10 τ11) (q11 : Q11 (some (0, v11)) τ11) (c3 : (rd τ11 68 2) ≤ 0), inR (b2i (vIsW (wr τ11 76 x2 v11) 1734440037))) (k1 : ∀ (c1 : (rd σ 68 2) ≤ 0) (τ1 : pS) (e1 : pLe σ τ1) (q1 : Q1 none τ1) (v2 : Int) (τ2 : pS) (e2 : pLe τ1 τ2) (q2 : Q2 (some (0, v2)) τ2) (v3 : Int) (τ3 : pS) (e3 : pLe (wr τ2 71 x2 v2) τ3) (q3 : Q3 (some (0, v3)) τ3) (τ4 : pS) (e4 : pLe (wr τ3 72 x2 v3) τ4) (q4 : Q4 none τ4) (v5 : Int) (τ5 : pS) (e5 : pLe τ4 τ5) (q5 : Q5 (some (0, v5)) τ5) (τ6 : pS) (e6 : pLe (wr τ5 73 x2 v5) τ6) (q6 : Q6 none τ6) (v7 : Int) (τ7 : pS) (e7 : pLe τ6 τ7) (q7 : Q7 (some (0, v7)) τ7) (τ8 : pS) (e8 : pLe (wr τ7 74 x2 v7) τ8) (q8 : Q8 none τ8) (v9 : Int) (τ9 : pS) (e9 : pLe τ8 τ9) (q9 : Q9 (some (0, v9)) τ9) (τ10 : pS) (e10 : pLe (wr τ9 75 x2 v9) τ10) (q10 : Q10 none τ10) (v11 : Int) (τ11 : pS) (e11 : pLe τ10 τ11) (q11 : Q11 (some (0, v11)) τ11) (c3 : (rd τ11 68 2) ≤ 0) (c5 : (b2i (vIsW (wr τ11 76 x2 v11) 1734440037)) = 0), Q none (wr (wr (wr (wr τ11 76 x2 v11) 83 x2 (b2i (vIsW (wr τ11 76 x2 v11) 1734440037))) 68 17 ((rd τ11 68 17) + 1)) 70 x2 (rd σ 68 9))) (f13 : ∀ (c1 : (rd σ 68 2) ≤ 0) (τ1 : pS) (e1 : pLe σ τ1) (q1 : Q1 none τ1) (v2 : Int) (τ2 : pS) (e2 : pLe τ1 τ2) (q2 : Q2 (some (0, v2)) τ2) (v3 : Int) (τ3 : pS) (e3 : pLe (wr τ2 71 x2 v2) τ3) (q3 : Q3 (some (0, v3)) τ3) (τ4 : pS) (e4 : pLe (wr τ3 72 x2 v3) τ4) (q4 : Q4 none τ4) (v5 : Int) (τ5 : pS) (e5 : pLe τ4 τ5) (q5 : Q5 (some (0, v5)) τ5) (τ6 : pS) (e6 : pLe (wr τ5 73 x2 v5) τ6) (q6 : Q6 none τ6) (v7 : Int) (τ7 : pS) (e7 : pLe τ6 τ7) (q7 : Q7 (some (0, v7)) τ7) (τ8 : pS) (e8 : pLe (wr τ7 74 x2 v7) τ8) (q8 : Q8 none τ8) (v9 : Int) (τ9 : pS) (e9 : pLe τ8 τ9) (q9 : Q9 (some (0, v9)) τ9) (τ10 : pS) (e10 : pLe (wr τ9 75 x2 v9) τ10) (q10 : Q10 none τ10) (v11 : Int) (τ11 : pS) (e11 : pLe τ10 τ11) (q11 : Q11 (some (0, v11)) τ11) (c3 : (rd τ11 68 2) ≤ 0) (c6 : (b2i (vIsW (wr τ11 76 x2 v11) 1734440037)) ≠ 0), pC mX11_next 1 [(2, 68)] (wr (wr τ11 76 x2 v11) 83 x2 (b2i (vIsW (wr τ11 76 x2 v11) 1734440037))) Q12) (k2 : ∀ (c1 : (rd σ 68 2) ≤ 0) (τ1 : pS) (e1 : pLe σ τ1) (q1 : Q1 none τ1) (v2 : Int) (τ2 : pS) (e2 : pLe τ1 τ2) (q2 : Q2 (some (0, v2)) τ2) (v3 : Int) (τ3 : pS) (e3 : pLe (wr τ2 71 x2 v2) τ3) (q3 : Q3 (some (0, v3)) τ3) (τ4 : pS) (e4 : pLe (wr τ3 72 x2 v3) τ4) (q4 : Q4 none τ4) (v5 : Int) (τ5 : pS) (e5 : pLe τ4 τ5) (q5 : Q5 (some (0, v5)) τ5) (τ6 : pS) (e6 : pLe (wr τ5 73 x2 v5) τ6) (q6 : Q6 none τ6) (v7 : Int) (τ7 : pS) (e7 : pLe τ6 τ7) (q7 : Q7 (some (0, v7)) τ7) (τ8 : pS) (e8 : pLe (wr τ7 74 x2 v7) τ8) (q8 : Q8 none τ8) (v9 : Int) (τ9 : pS) (e9 : pLe τ8 τ9) (q9 : Q9 (some (0, v9)) τ9) (τ10 : pS) (e10 : pLe (wr τ9 75 x2 v9) τ10) (q10 : Q10 none τ10) (v11 : Int) (τ11 : pS) (e11 : pLe τ10 τ11) (q11 : Q11 (some (0, v11)) τ11) (c3 : (rd τ11 68 2) ≤ 0) (c6 : (b2i (vIsW (wr τ11 76 x2 v11) 1734440037)) ≠ 0) (τ13 : pS) (e13 : pLe (wr (wr τ11 76 x2 v11) 83 x2 (b2i (vIsW (wr τ11 76 x2 v11) 1734440037))) τ13) (q13 : Q12 none τ13), Q none (wr (wr τ13 68 17 ((rd τ13 68 17) + 1)) 70 x2 (rd σ 68 9))) (k3 : ∀ (c1 : (rd σ 68 2) ≤ 0) (τ1 : pS) (e1 : pLe σ τ1) (q1 : Q1 none τ1) (v2 : Int) (τ2 : pS) (e2 : pLe τ1 τ2) (q2 : Q2 (some (0, v2)) τ2) (v3 : Int) (τ3 : pS) (e3 : pLe (wr τ2 71 x2 v2) τ3) (q3 : Q3 (some (0, v3)) τ3) (τ4 : pS) (e4 : pLe (wr τ3 72 x2 v3) τ4) (q4 : Q4 none τ4) (v5 : Int) (τ5 : pS) (e5 : pLe τ4 τ5) (q5 : Q5 (some (0, v5)) τ5) (τ6 : pS) (e6 : pLe (wr τ5 73 x2 v5) τ6) (q6 : Q6 none τ6) (v7 : Int) (τ7 : pS) (e7 : pLe τ6 τ7) (q7 : Q7 (some (0, v7)) τ7) (τ8 : pS) (e8 : pLe (wr τ7 74 x2 v7) τ8) (q8 : Q8 none τ8) (v9 : Int) (τ9 : pS) (e9 : pLe τ8 τ9) (q9 : Q9 (some (0, v9)) τ9) (τ10 : pS) (e10 : pLe (wr τ9 75 x2 v9) τ10) (q10 : Q10 none τ10) (v11 : Int) (τ11 : pS) (e11 : pLe τ10 τ11) (q11 : Q11 (some (0, v11)) τ11) (c4 : 0 < (rd τ11 68 2)), Q none (wr τ11 76 x2 v11)) (k4 : ∀ (c2 : 0 < (rd σ 68 2)), Q none σ) : pR mX11_readWay d 50 [(2, 68), (0, 1), (0, x2), u3, u4] [] σ Q := by
  refine pGo (s_aload_n dX11_readWay_50 rfl (by decide)) ?_
  refine pGoE (y := (rd σ 68 2)) (s_getI pc11 fl_X11_273 dX11_readWay_51 (ob_68 hst) rfl (by decide)) rfl ?_
  refine p_ifle (tgt := 58) dX11_readWay_54 (by decide) g1 (fun c1 => ?_) (fun c2 => ?_)
  · refine pGo (s_aload_n dX11_readWay_58 rfl (by decide)) ?_
    refine pGoE (y := (rd σ 68 9)) (s_getJ pc11 fl_X11_253 dX11_readWay_59 (ob_68 hst) rfl rfl) rfl ?_
    refine pGoL (ls2 := [(2, 68), (0, 1), (0, x2), (1, (rd σ 68 9)), (9, 0)]) (s_lstore_n dX11_readWay_62 (by decide) rfl) rfl ?_
    refine pGo (s_aload_n dX11_readWay_63 rfl (by decide)) ?_
    refine p_callV (As := []) (st := []) (n := 0) (d' := 1) (Q1 := Q1) pc11 ok_X11_next ml_X11_319 im_X11_next se_X11_next dX11_readWay_64 (ob_68 hst) (pargs_of rfl) rfl (Nat.le_of_ble_eq_true rfl) (by omega) (f1 c1) (fun r1 τ1 e1 q1 w1 => ?_)
    obtain rfl : r1 = none := w1
    have S1 : Stat τ1 := (Stat.le (σ := σ) hst e1)
    show pR mX11_readWay d 67 [(2, 68), (0, 1), (0, x2), (1, (rd σ 68 9)), (9, 0)] [] τ1 Q
    refine pGo (s_aload_n dX11_readWay_67 rfl (by decide)) ?_
    refine pGoE (y := 71) (s_getF pc11 fl_X11_21 dX11_readWay_68 (ob_68 S1) rfl (by decide)) (by decide) ?_
    refine pGo (s_iload_n dX11_readWay_71 rfl) ?_
    refine pGo (s_aload_n dX11_readWay_72 rfl (by decide)) ?_
    refine pGo (s_iconst dX11_readWay_73) ?_
    refine p_callV (As := [(0, (-1))]) (st := [(0, x2), (2, 71)]) (n := 1) (d' := 2) (Q1 := Q2) pc11 ok_X11_point ml_X11_335 im_X11_point se_X11_point dX11_readWay_74 (ob_68 S1) (pargs_of rfl) rfl (Nat.le_of_ble_eq_true rfl) (by omega) (f2 c1 τ1 e1 q1) (fun r2 τ2 e2 q2 w2 => ?_)
    obtain ⟨v2, rfl⟩ := w2
    have S2 : Stat τ2 := (Stat.le (σ := τ1) S1 e2)
    show pR mX11_readWay d 77 [(2, 68), (0, 1), (0, x2), (1, (rd σ 68 9)), (9, 0)] [(0, v2), (0, x2), (2, 71)] τ2 Q
    refine pGo (s_iast dX11_readWay_77 (ob_71 S2) (bnd (g2 c1 τ1 e1 q1 v2 τ2 e2 q2))) ?_
    refine pGo (s_aload_n dX11_readWay_78 rfl (by decide)) ?_
    refine pGoE (y := 72) (s_getF pc11 fl_X11_24 dX11_readWay_79 (ob_68 S2) rfl (by decide)) (by decide) ?_
    refine pGo (s_iload_n dX11_readWay_82 rfl) ?_
    refine pGo (s_aload_n dX11_readWay_83 rfl (by decide)) ?_
    refine pGo (s_aload_n dX11_readWay_84 rfl (by decide)) ?_
    refine pGoE (y := 71) (s_getF pc11 fl_X11_21 dX11_readWay_85 (ob_68 S2) rfl (by decide)) (by decide) ?_
    refine pGo (s_iload_n dX11_readWay_88 rfl) ?_
    refine pGoE (y := v2) (s_iald dX11_readWay_89 (ob_71 S2) (bnd (g2 c1 τ1 e1 q1 v2 τ2 e2 q2))) (rd_wr_same _ _ _ _) ?_
    refine p_callV (As := [(0, v2)]) (st := [(0, x2), (2, 72)]) (n := 1) (d' := 2) (Q1 := Q3) pc11 ok_X11_point ml_X11_335 im_X11_point se_X11_point dX11_readWay_90 (ob_68 S2) (pargs_of rfl) rfl (Nat.le_of_ble_eq_true rfl) (by omega) (f3 c1 τ1 e1 q1 v2 τ2 e2 q2) (fun r3 τ3 e3 q3 w3 => ?_)
    obtain ⟨v3, rfl⟩ := w3
    have S3 : Stat τ3 := (Stat.le (σ := (wr τ2 71 x2 v2)) S2 e3)
    show pR mX11_readWay d 93 [(2, 68), (0, 1), (0, x2), (1, (rd σ 68 9)), (9, 0)] [(0, v3), (0, x2), (2, 72)] τ3 Q
    refine pGo (s_iast dX11_readWay_93 (ob_72 S3) (bnd (g2 c1 τ1 e1 q1 v2 τ2 e2 q2))) ?_
    refine pGo (s_iload_n dX11_readWay_94 rfl) ?_
    refine p_ifne (tgt := 117) dX11_readWay_95 (by decide) (by decide) (fun _ => ?_) (fun q => absurd q (by decide))
    refine pGo (s_aload_n dX11_readWay_117 rfl (by decide)) ?_
    refine pGo (s_ldc2 (n := 499850634611) dX11_readWay_118 kl_X11_282 (by decide)) ?_
    refine p_callV (As := [(1, 499850634611)]) (st := []) (n := 1) (d' := 2) (Q1 := Q4) pc11 ok_X11_wantWord ml_X11_338 im_X11_wantWord se_X11_wantWord dX11_readWay_121 (ob_68 S3) (pargs_of rfl) rfl (Nat.le_of_ble_eq_true rfl) (by omega) (f4 c1 τ1 e1 q1 v2 τ2 e2 q2 v3 τ3 e3 q3) (fun r4 τ4 e4 q4 w4 => ?_)
    obtain rfl : r4 = none := w4
    have S4 : Stat τ4 := (Stat.le (σ := (wr τ3 72 x2 v3)) S3 e4)
    show pR mX11_readWay d 124 [(2, 68), (0, 1), (0, x2), (1, (rd σ 68 9)), (9, 0)] [] τ4 Q
    refine pGo (s_aload_n dX11_readWay_124 rfl (by decide)) ?_
    refine pGoE (y := 73) (s_getF pc11 fl_X11_27 dX11_readWay_125 (ob_68 S4) rfl (by decide)) (by decide) ?_
    refine pGo (s_iload_n dX11_readWay_128 rfl) ?_
    refine pGo (s_aload_n dX11_readWay_129 rfl (by decide)) ?_
    refine pGo (s_iconst dX11_readWay_130) ?_
    refine pGo (s_iload_n dX11_readWay_131 rfl) ?_
    refine p_ifeq (tgt := 140) dX11_readWay_132 (by decide) (by decide) (fun q => absurd q (by decide)) (fun _ => ?_)
    refine pGo (s_bipush dX11_readWay_135 (by decide)) ?_
    refine pGo (s_goto (tgt := 142) dX11_readWay_137 (by decide)) ?_
    refine p_callV (As := [(0, 1), (0, 30)]) (st := [(0, x2), (2, 73)]) (n := 2) (d' := 2) (Q1 := Q5) pc11 ok_X11_told ml_X11_342 im_X11_told se_X11_told dX11_readWay_142 (ob_68 S4) (pargs_of rfl) rfl (Nat.le_of_ble_eq_true rfl) (by omega) (f5 c1 τ1 e1 q1 v2 τ2 e2 q2 v3 τ3 e3 q3 τ4 e4 q4) (fun r5 τ5 e5 q5 w5 => ?_)
    obtain ⟨v5, rfl⟩ := w5
    have S5 : Stat τ5 := (Stat.le (σ := τ4) S4 e5)
    show pR mX11_readWay d 145 [(2, 68), (0, 1), (0, x2), (1, (rd σ 68 9)), (9, 0)] [(0, v5), (0, x2), (2, 73)] τ5 Q
    refine pGo (s_iast dX11_readWay_145 (ob_73 S5) (bnd (g2 c1 τ1 e1 q1 v2 τ2 e2 q2))) ?_
    refine pGo (s_iload_n dX11_readWay_146 rfl) ?_
    refine p_ifeq (tgt := 266) dX11_readWay_147 (by decide) (by decide) (fun q => absurd q (by decide)) (fun _ => ?_)
    refine pGo (s_aload_n dX11_readWay_150 rfl (by decide)) ?_
    refine pGo (s_ldc2 (n := 495622124659) dX11_readWay_151 kl_X11_284 (by decide)) ?_
    refine p_callV (As := [(1, 495622124659)]) (st := []) (n := 1) (d' := 2) (Q1 := Q6) pc11 ok_X11_wantWord ml_X11_338 im_X11_wantWord se_X11_wantWord dX11_readWay_154 (ob_68 S5) (pargs_of rfl) rfl (Nat.le_of_ble_eq_true rfl) (by omega) (f6 c1 τ1 e1 q1 v2 τ2 e2 q2 v3 τ3 e3 q3 τ4 e4 q4 v5 τ5 e5 q5) (fun r6 τ6 e6 q6 w6 => ?_)
    obtain rfl : r6 = none := w6
    have S6 : Stat τ6 := (Stat.le (σ := (wr τ5 73 x2 v5)) S5 e6)
    show pR mX11_readWay d 157 [(2, 68), (0, 1), (0, x2), (1, (rd σ 68 9)), (9, 0)] [] τ6 Q
    refine pGo (s_aload_n dX11_readWay_157 rfl (by decide)) ?_
    refine pGoE (y := 74) (s_getF pc11 fl_X11_30 dX11_readWay_158 (ob_68 S6) rfl (by decide)) (by decide) ?_
    refine pGo (s_iload_n dX11_readWay_161 rfl) ?_
    refine pGo (s_aload_n dX11_readWay_162 rfl (by decide)) ?_
    refine pGo (s_iconst dX11_readWay_163) ?_
    refine pGo (s_bipush dX11_readWay_164 (by decide)) ?_
    refine p_callV (As := [(0, 1), (0, 99)]) (st := [(0, x2), (2, 74)]) (n := 2) (d' := 2) (Q1 := Q7) pc11 ok_X11_told ml_X11_342 im_X11_told se_X11_told dX11_readWay_166 (ob_68 S6) (pargs_of rfl) rfl (Nat.le_of_ble_eq_true rfl) (by omega) (f7 c1 τ1 e1 q1 v2 τ2 e2 q2 v3 τ3 e3 q3 τ4 e4 q4 v5 τ5 e5 q5 τ6 e6 q6) (fun r7 τ7 e7 q7 w7 => ?_)
    obtain ⟨v7, rfl⟩ := w7
    have S7 : Stat τ7 := (Stat.le (σ := τ6) S6 e7)
    show pR mX11_readWay d 169 [(2, 68), (0, 1), (0, x2), (1, (rd σ 68 9)), (9, 0)] [(0, v7), (0, x2), (2, 74)] τ7 Q
    refine pGo (s_iast dX11_readWay_169 (ob_74 S7) (bnd (g2 c1 τ1 e1 q1 v2 τ2 e2 q2))) ?_
    refine pGo (s_aload_n dX11_readWay_170 rfl (by decide)) ?_
    refine pGo (s_ldc2 (n := 1718775661) dX11_readWay_171 kl_X11_286 (by decide)) ?_
    refine p_callV (As := [(1, 1718775661)]) (st := []) (n := 1) (d' := 2) (Q1 := Q8) pc11 ok_X11_wantWord ml_X11_338 im_X11_wantWord se_X11_wantWord dX11_readWay_174 (ob_68 S7) (pargs_of rfl) rfl (Nat.le_of_ble_eq_true rfl) (by omega) (f8 c1 τ1 e1 q1 v2 τ2 e2 q2 v3 τ3 e3 q3 τ4 e4 q4 v5 τ5 e5 q5 τ6 e6 q6 v7 τ7 e7 q7) (fun r8 τ8 e8 q8 w8 => ?_)
    obtain rfl : r8 = none := w8
    have S8 : Stat τ8 := (Stat.le (σ := (wr τ7 74 x2 v7)) S7 e8)
    show pR mX11_readWay d 177 [(2, 68), (0, 1), (0, x2), (1, (rd σ 68 9)), (9, 0)] [] τ8 Q
    refine pGo (s_aload_n dX11_readWay_177 rfl (by decide)) ?_
    refine pGoE (y := 75) (s_getF pc11 fl_X11_33 dX11_readWay_178 (ob_68 S8) rfl (by decide)) (by decide) ?_
    refine pGo (s_iload_n dX11_readWay_181 rfl) ?_
    refine pGo (s_aload_n dX11_readWay_182 rfl (by decide)) ?_
    refine pGo (s_iconst dX11_readWay_183) ?_
    refine pGo (s_sipush dX11_readWay_184 (by decide)) ?_
    refine p_callV (As := [(0, 0), (0, 480)]) (st := [(0, x2), (2, 75)]) (n := 2) (d' := 2) (Q1 := Q9) pc11 ok_X11_told ml_X11_342 im_X11_told se_X11_told dX11_readWay_187 (ob_68 S8) (pargs_of rfl) rfl (Nat.le_of_ble_eq_true rfl) (by omega) (f9 c1 τ1 e1 q1 v2 τ2 e2 q2 v3 τ3 e3 q3 τ4 e4 q4 v5 τ5 e5 q5 τ6 e6 q6 v7 τ7 e7 q7 τ8 e8 q8) (fun r9 τ9 e9 q9 w9 => ?_)
    obtain ⟨v9, rfl⟩ := w9
    have S9 : Stat τ9 := (Stat.le (σ := τ8) S8 e9)
    show pR mX11_readWay d 190 [(2, 68), (0, 1), (0, x2), (1, (rd σ 68 9)), (9, 0)] [(0, v9), (0, x2), (2, 75)] τ9 Q
    refine pGo (s_iast dX11_readWay_190 (ob_75 S9) (bnd (g2 c1 τ1 e1 q1 v2 τ2 e2 q2))) ?_
    refine pGo (s_aload_n dX11_readWay_191 rfl (by decide)) ?_
    refine pGo (s_ldc2 (n := 29807) dX11_readWay_192 kl_X11_288 (by decide)) ?_
    refine p_callV (As := [(1, 29807)]) (st := []) (n := 1) (d' := 2) (Q1 := Q10) pc11 ok_X11_wantWord ml_X11_338 im_X11_wantWord se_X11_wantWord dX11_readWay_195 (ob_68 S9) (pargs_of rfl) rfl (Nat.le_of_ble_eq_true rfl) (by omega) (f10 c1 τ1 e1 q1 v2 τ2 e2 q2 v3 τ3 e3 q3 τ4 e4 q4 v5 τ5 e5 q5 τ6 e6 q6 v7 τ7 e7 q7 τ8 e8 q8 v9 τ9 e9 q9) (fun r10 τ10 e10 q10 w10 => ?_)
    obtain rfl : r10 = none := w10
    have S10 : Stat τ10 := (Stat.le (σ := (wr τ9 75 x2 v9)) S9 e10)
    show pR mX11_readWay d 198 [(2, 68), (0, 1), (0, x2), (1, (rd σ 68 9)), (9, 0)] [] τ10 Q
    refine pGo (s_aload_n dX11_readWay_198 rfl (by decide)) ?_
    refine pGoE (y := 76) (s_getF pc11 fl_X11_36 dX11_readWay_199 (ob_68 S10) rfl (by decide)) (by decide) ?_
    refine pGo (s_iload_n dX11_readWay_202 rfl) ?_
    refine pGo (s_aload_n dX11_readWay_203 rfl (by decide)) ?_
    refine pGo (s_aload_n dX11_readWay_204 rfl (by decide)) ?_
    refine pGoE (y := 75) (s_getF pc11 fl_X11_33 dX11_readWay_205 (ob_68 S10) rfl (by decide)) (by decide) ?_
    refine pGo (s_iload_n dX11_readWay_208 rfl) ?_
    refine pGoE (y := (rd τ10 75 x2)) (s_iald dX11_readWay_209 (ob_75 S10) (bnd (g2 c1 τ1 e1 q1 v2 τ2 e2 q2))) rfl ?_
    refine pGo (s_iconst dX11_readWay_210) ?_
    refine pGo (s_iadd dX11_readWay_211) ?_
    refine pGo (s_sipush dX11_readWay_212 (by decide)) ?_
    refine p_callV (As := [(0, ((rd τ10 75 x2) + 1)), (0, 480)]) (st := [(0, x2), (2, 76)]) (n := 2) (d' := 2) (Q1 := Q11) pc11 ok_X11_told ml_X11_342 im_X11_told se_X11_told dX11_readWay_215 (ob_68 S10) (pargs_of rfl) rfl (Nat.le_of_ble_eq_true rfl) (by omega) (f11 c1 τ1 e1 q1 v2 τ2 e2 q2 v3 τ3 e3 q3 τ4 e4 q4 v5 τ5 e5 q5 τ6 e6 q6 v7 τ7 e7 q7 τ8 e8 q8 v9 τ9 e9 q9 τ10 e10 q10) (fun r11 τ11 e11 q11 w11 => ?_)
    obtain ⟨v11, rfl⟩ := w11
    have S11 : Stat τ11 := (Stat.le (σ := τ10) S10 e11)
    show pR mX11_readWay d 218 [(2, 68), (0, 1), (0, x2), (1, (rd σ 68 9)), (9, 0)] [(0, v11), (0, x2), (2, 76)] τ11 Q
    refine pGo (s_iast dX11_readWay_218 (ob_76 S11) (bnd (g2 c1 τ1 e1 q1 v2 τ2 e2 q2))) ?_
    refine pGo (s_aload_n dX11_readWay_219 rfl (by decide)) ?_
    refine pGoE (y := (rd τ11 68 2)) (s_getI pc11 fl_X11_273 dX11_readWay_220 (ob_68 S11) rfl (by decide)) (rd_wr_a _ (by decide)) ?_
    refine p_ifle (tgt := 227) dX11_readWay_223 (by decide) (g3 c1 τ1 e1 q1 v2 τ2 e2 q2 v3 τ3 e3 q3 τ4 e4 q4 v5 τ5 e5 q5 τ6 e6 q6 v7 τ7 e7 q7 τ8 e8 q8 v9 τ9 e9 q9 τ10 e10 q10 v11 τ11 e11 q11) (fun c3 => ?_) (fun c4 => ?_)
    · refine pGo (s_aload_n dX11_readWay_227 rfl (by decide)) ?_
      refine pGoE (y := 83) (s_getF pc11 fl_X11_57 dX11_readWay_228 (ob_68 S11) rfl (by decide)) (by decide) ?_
      refine pGo (s_iload_n dX11_readWay_231 rfl) ?_
      refine pGo (s_aload_n dX11_readWay_232 rfl (by decide)) ?_
      refine pGo (s_ldc2 (n := 1734440037) dX11_readWay_233 kl_X11_290 (by decide)) ?_
      refine p_callV (As := [(1, 1734440037)]) (st := [(0, x2), (2, 83)]) (n := 1) (d' := 0) (Q1 := (fun r τ => r = some (0, b2i (vIsW (wr τ11 76 x2 v11) 1734440037)) ∧ τ = (wr τ11 76 x2 v11))) pc11 ok_X11_isWord ml_X11_312 im_X11_isWord se_X11_isWord dX11_readWay_236 (ob_68 S11) (pargs_of rfl) rfl (Nat.le_of_ble_eq_true rfl) (by omega) (f12 c1 τ1 e1 q1 v2 τ2 e2 q2 v3 τ3 e3 q3 τ4 e4 q4 v5 τ5 e5 q5 τ6 e6 q6 v7 τ7 e7 q7 τ8 e8 q8 v9 τ9 e9 q9 τ10 e10 q10 v11 τ11 e11 q11 c3) (fun r12 τ12 e12 q12 w12 => ?_)
      obtain ⟨rfl, t12⟩ := q12
      rw [t12]
      show pR mX11_readWay d 239 [(2, 68), (0, 1), (0, x2), (1, (rd σ 68 9)), (9, 0)] [(0, (b2i (vIsW (wr τ11 76 x2 v11) 1734440037))), (0, x2), (2, 83)] (wr τ11 76 x2 v11) Q
      refine pGo (s_zast dX11_readWay_239 (ob_83 S11) (bnd (g4 c1 τ1 e1 q1 v2 τ2 e2 q2 v3 τ3 e3 q3 τ4 e4 q4 v5 τ5 e5 q5 τ6 e6 q6 v7 τ7 e7 q7 τ8 e8 q8 v9 τ9 e9 q9 τ10 e10 q10 v11 τ11 e11 q11 c3)) (b2i_01 _)) ?_
      refine pGo (s_aload_n dX11_readWay_240 rfl (by decide)) ?_
      refine pGoE (y := 83) (s_getF pc11 fl_X11_57 dX11_readWay_241 (ob_68 S11) rfl (by decide)) (by decide) ?_
      refine pGo (s_iload_n dX11_readWay_244 rfl) ?_
      refine pGoE (y := (b2i (vIsW (wr τ11 76 x2 v11) 1734440037))) (s_zald dX11_readWay_245 (ob_83 S11) (bnd (g4 c1 τ1 e1 q1 v2 τ2 e2 q2 v3 τ3 e3 q3 τ4 e4 q4 v5 τ5 e5 q5 τ6 e6 q6 v7 τ7 e7 q7 τ8 e8 q8 v9 τ9 e9 q9 τ10 e10 q10 v11 τ11 e11 q11 c3))) (rd_wr_same _ _ _ _) ?_
      refine p_ifeq (tgt := 253) dX11_readWay_246 (by decide) (g5 c1 τ1 e1 q1 v2 τ2 e2 q2 v3 τ3 e3 q3 τ4 e4 q4 v5 τ5 e5 q5 τ6 e6 q6 v7 τ7 e7 q7 τ8 e8 q8 v9 τ9 e9 q9 τ10 e10 q10 v11 τ11 e11 q11 c3) (fun c5 => ?_) (fun c6 => ?_)
      · refine pGo (s_aload_n dX11_readWay_253 rfl (by decide)) ?_
        refine pGo (s_dup dX11_readWay_254 (by decide)) ?_
        refine pGoE (y := (rd τ11 68 17)) (s_getI pc11 fl_X11_322 dX11_readWay_255 (ob_68 S11) rfl (by decide)) ((rd_wr_a _ (by decide)).trans (rd_wr_a _ (by decide))) ?_
        refine pGo (s_iconst dX11_readWay_258) ?_
        refine pGo (s_iadd dX11_readWay_259) ?_
        refine pGo (s_putI pc11 fl_X11_322 dX11_readWay_260 (ob_68 S11) rfl rfl rfl rfl) ?_
        refine pGo (s_goto (tgt := 305) dX11_readWay_263 (by decide)) ?_
        refine pGo (s_aload_n dX11_readWay_305 rfl (by decide)) ?_
        refine pGoE (y := 70) (s_getF pc11 fl_X11_17 dX11_readWay_306 (ob_68 S11) rfl (by decide)) (by decide) ?_
        refine pGo (s_iload_n dX11_readWay_309 rfl) ?_
        refine pGo (s_lload_n dX11_readWay_310 rfl) ?_
        refine pGo (s_last dX11_readWay_311 (ob_70 S11) (bnd (g2 c1 τ1 e1 q1 v2 τ2 e2 q2))) ?_
        exact pEnd (r := none) dX11_readWay_312 rfl (k1 c1 τ1 e1 q1 v2 τ2 e2 q2 v3 τ3 e3 q3 τ4 e4 q4 v5 τ5 e5 q5 τ6 e6 q6 v7 τ7 e7 q7 τ8 e8 q8 v9 τ9 e9 q9 τ10 e10 q10 v11 τ11 e11 q11 c3 c5)
      · refine pGo (s_aload_n dX11_readWay_249 rfl (by decide)) ?_
        refine p_callV (As := []) (st := []) (n := 0) (d' := 1) (Q1 := Q12) pc11 ok_X11_next ml_X11_319 im_X11_next se_X11_next dX11_readWay_250 (ob_68 S11) (pargs_of rfl) rfl (Nat.le_of_ble_eq_true rfl) (by omega) (f13 c1 τ1 e1 q1 v2 τ2 e2 q2 v3 τ3 e3 q3 τ4 e4 q4 v5 τ5 e5 q5 τ6 e6 q6 v7 τ7 e7 q7 τ8 e8 q8 v9 τ9 e9 q9 τ10 e10 q10 v11 τ11 e11 q11 c3 c6) (fun r13 τ13 e13 q13 w13 => ?_)
        obtain rfl : r13 = none := w13
        have S13 : Stat τ13 := (Stat.le (σ := (wr (wr τ11 76 x2 v11) 83 x2 (b2i (vIsW (wr τ11 76 x2 v11) 1734440037)))) S11 e13)
        show pR mX11_readWay d 253 [(2, 68), (0, 1), (0, x2), (1, (rd σ 68 9)), (9, 0)] [] τ13 Q
        refine pGo (s_aload_n dX11_readWay_253 rfl (by decide)) ?_
        refine pGo (s_dup dX11_readWay_254 (by decide)) ?_
        refine pGoE (y := (rd τ13 68 17)) (s_getI pc11 fl_X11_322 dX11_readWay_255 (ob_68 S13) rfl (by decide)) rfl ?_
        refine pGo (s_iconst dX11_readWay_258) ?_
        refine pGo (s_iadd dX11_readWay_259) ?_
        refine pGo (s_putI pc11 fl_X11_322 dX11_readWay_260 (ob_68 S13) rfl rfl rfl rfl) ?_
        refine pGo (s_goto (tgt := 305) dX11_readWay_263 (by decide)) ?_
        refine pGo (s_aload_n dX11_readWay_305 rfl (by decide)) ?_
        refine pGoE (y := 70) (s_getF pc11 fl_X11_17 dX11_readWay_306 (ob_68 S13) rfl (by decide)) (by decide) ?_
        refine pGo (s_iload_n dX11_readWay_309 rfl) ?_
        refine pGo (s_lload_n dX11_readWay_310 rfl) ?_
        refine pGo (s_last dX11_readWay_311 (ob_70 S13) (bnd (g2 c1 τ1 e1 q1 v2 τ2 e2 q2))) ?_
        exact pEnd (r := none) dX11_readWay_312 rfl (k2 c1 τ1 e1 q1 v2 τ2 e2 q2 v3 τ3 e3 q3 τ4 e4 q4 v5 τ5 e5 q5 τ6 e6 q6 v7 τ7 e7 q7 τ8 e8 q8 v9 τ9 e9 q9 τ10 e10 q10 v11 τ11 e11 q11 c3 c6 τ13 e13 q13)
    · exact pEnd (r := none) dX11_readWay_226 rfl (k3 c1 τ1 e1 q1 v2 τ2 e2 q2 v3 τ3 e3 q3 τ4 e4 q4 v5 τ5 e5 q5 τ6 e6 q6 v7 τ7 e7 q7 τ8 e8 q8 v9 τ9 e9 q9 τ10 e10 q10 v11 τ11 e11 q11 c4)
  · exact pEnd (r := none) dX11_readWay_57 rfl (k4 c2)
set_option maxRecDepth 100000 in
theorem g_X11_readWayR_0 {d : Nat} {σ : pS} {Q : Option pV → pS → Prop} {Q1 : Option pV → pS → Prop} {Q2 : Option pV → pS → Prop} {Q3 : Option pV → pS → Prop} (hd : 3 ≤ d) (hst : Stat σ)   (f1 : pC mX11_isName 0 [(2, 68)] σ (fun r τ => r = some (0, b2i (vIsN σ)) ∧ τ = σ)) (f2 : ∀ (c1 : (vIsN σ) = true), pC mX11_isTold 0 [(2, 68), (1, (rd σ 68 9))] σ Q1) (g1 : ∀ (c1 : (vIsN σ) = true) (v2 : Int) (b2 : v2 = 0 ∨ v2 = 1) (τ2 : pS) (e2 : pLe σ τ2) (q2 : Q1 (some (0, v2)) τ2), inR v2) (k1 : ∀ (c1 : (vIsN σ) = true) (v2 : Int) (b2 : v2 = 0 ∨ v2 = 1) (τ2 : pS) (e2 : pLe σ τ2) (q2 : Q1 (some (0, v2)) τ2) (c3 : v2 = 0), pR mX11_readWay d 50 [(2, 68), (0, 0), (0, (6 + (rd σ 68 18))), (9, 0), (9, 0)] [] τ2 Q) (f3 : ∀ (c1 : (vIsN σ) = true) (v2 : Int) (b2 : v2 = 0 ∨ v2 = 1) (τ2 : pS) (e2 : pLe σ τ2) (q2 : Q1 (some (0, v2)) τ2) (c4 : v2 ≠ 0), pC mX11_wrong 0 [(2, 68), (0, 3)] τ2 Q2) (k2 : ∀ (c1 : (vIsN σ) = true) (v2 : Int) (b2 : v2 = 0 ∨ v2 = 1) (τ2 : pS) (e2 : pLe σ τ2) (q2 : Q1 (some (0, v2)) τ2) (c4 : v2 ≠ 0) (τ3 : pS) (e3 : pLe τ2 τ3) (q3 : Q2 none τ3), pR mX11_readWay d 50 [(2, 68), (0, 0), (0, (6 + (rd σ 68 18))), (9, 0), (9, 0)] [] τ3 Q) (f4 : ∀ (c2 : (vIsN σ) = false), pC mX11_wrong 0 [(2, 68), (0, 2)] σ Q3) (k3 : ∀ (c2 : (vIsN σ) = false) (τ4 : pS) (e4 : pLe σ τ4) (q4 : Q3 none τ4), pR mX11_readWay d 50 [(2, 68), (0, 0), (0, (6 + (rd σ 68 18))), (9, 0), (9, 0)] [] τ4 Q) : pC mX11_readWay d [(2, 68), (0, 0)] σ Q := by
  show pR mX11_readWay d 0 [(2, 68), (0, 0), (9, 0), (9, 0), (9, 0)] [] σ Q
  refine pGo (s_iload_n dX11_readWay_0 rfl) ?_
  refine p_ifeq (tgt := 11) dX11_readWay_1 (by decide) (by decide) (fun _ => ?_) (fun q => absurd q (by decide))
  refine pGo (s_bipush dX11_readWay_11 (by decide)) ?_
  refine pGo (s_aload_n dX11_readWay_13 rfl (by decide)) ?_
  refine pGoE (y := (rd σ 68 18)) (s_getI pc11 fl_X11_325 dX11_readWay_14 (ob_68 hst) rfl (by decide)) rfl ?_
  refine pGo (s_iadd dX11_readWay_17) ?_
  refine pGoL (ls2 := [(2, 68), (0, 0), (0, (6 + (rd σ 68 18))), (9, 0), (9, 0)]) (s_istore_n dX11_readWay_18 (by decide) rfl) rfl ?_
  refine pGo (s_aload_n dX11_readWay_19 rfl (by decide)) ?_
  refine p_callV (As := []) (st := []) (n := 0) (d' := 0) (Q1 := (fun r τ => r = some (0, b2i (vIsN σ)) ∧ τ = σ)) pc11 ok_X11_isName ml_X11_328 im_X11_isName se_X11_isName dX11_readWay_20 (ob_68 hst) (pargs_of rfl) rfl (Nat.le_of_ble_eq_true rfl) (by omega) f1 (fun r1 τ1 e1 q1 w1 => ?_)
  obtain ⟨rfl, t1⟩ := q1
  rw [t1]
  show pR mX11_readWay d 23 [(2, 68), (0, 0), (0, (6 + (rd σ 68 18))), (9, 0), (9, 0)] [(0, (b2i (vIsN σ)))] σ Q
  refine p_ifneB (tgt := 34) dX11_readWay_23 (by decide) (fun c1 => ?_) (fun c2 => ?_)
  · refine pGo (s_aload_n dX11_readWay_34 rfl (by decide)) ?_
    refine pGo (s_aload_n dX11_readWay_35 rfl (by decide)) ?_
    refine pGoE (y := (rd σ 68 9)) (s_getJ pc11 fl_X11_253 dX11_readWay_36 (ob_68 hst) rfl rfl) rfl ?_
    refine p_callV (As := [(1, (rd σ 68 9))]) (st := []) (n := 1) (d' := 0) (Q1 := Q1) pc11 ok_X11_isTold ml_X11_332 im_X11_isTold se_X11_isTold dX11_readWay_39 (ob_68 hst) (pargs_of rfl) rfl (Nat.le_of_ble_eq_true rfl) (by omega) (f2 c1) (fun r2 τ2 e2 q2 w2 => ?_)
    obtain ⟨v2, rfl, b2⟩ := pRok_z w2
    have S2 : Stat τ2 := (Stat.le (σ := σ) hst e2)
    show pR mX11_readWay d 42 [(2, 68), (0, 0), (0, (6 + (rd σ 68 18))), (9, 0), (9, 0)] [(0, v2)] τ2 Q
    refine p_ifeq (tgt := 50) dX11_readWay_42 (by decide) (g1 c1 v2 b2 τ2 e2 q2) (fun c3 => ?_) (fun c4 => ?_)
    · exact (k1 c1 v2 b2 τ2 e2 q2 c3)
    · refine pGo (s_aload_n dX11_readWay_45 rfl (by decide)) ?_
      refine pGo (s_iconst dX11_readWay_46) ?_
      refine p_callV (As := [(0, 3)]) (st := []) (n := 1) (d' := 0) (Q1 := Q2) pc11 ok_X11_wrong ml_X11_316 im_X11_wrong se_X11_wrong dX11_readWay_47 (ob_68 S2) (pargs_of rfl) rfl (Nat.le_of_ble_eq_true rfl) (by omega) (f3 c1 v2 b2 τ2 e2 q2 c4) (fun r3 τ3 e3 q3 w3 => ?_)
      obtain rfl : r3 = none := w3
      have S3 : Stat τ3 := (Stat.le (σ := τ2) S2 e3)
      show pR mX11_readWay d 50 [(2, 68), (0, 0), (0, (6 + (rd σ 68 18))), (9, 0), (9, 0)] [] τ3 Q
      exact (k2 c1 v2 b2 τ2 e2 q2 c4 τ3 e3 q3)
  · refine pGo (s_aload_n dX11_readWay_26 rfl (by decide)) ?_
    refine pGo (s_iconst dX11_readWay_27) ?_
    refine p_callV (As := [(0, 2)]) (st := []) (n := 1) (d' := 0) (Q1 := Q3) pc11 ok_X11_wrong ml_X11_316 im_X11_wrong se_X11_wrong dX11_readWay_28 (ob_68 hst) (pargs_of rfl) rfl (Nat.le_of_ble_eq_true rfl) (by omega) (f4 c2) (fun r4 τ4 e4 q4 w4 => ?_)
    obtain rfl : r4 = none := w4
    have S4 : Stat τ4 := (Stat.le (σ := σ) hst e4)
    show pR mX11_readWay d 31 [(2, 68), (0, 0), (0, (6 + (rd σ 68 18))), (9, 0), (9, 0)] [] τ4 Q
    refine pGo (s_goto (tgt := 50) dX11_readWay_31 (by decide)) ?_
    exact (k3 c2 τ4 e4 q4)
set_option maxRecDepth 100000 in
theorem g_X11_readWayR_50 {d : Nat} {σ : pS} {Q : Option pV → pS → Prop} {Q1 : Option pV → pS → Prop} {Q2 : Option pV → pS → Prop} {Q3 : Option pV → pS → Prop} {Q4 : Option pV → pS → Prop} {Q5 : Option pV → pS → Prop} {Q6 : Option pV → pS → Prop} {Q7 : Option pV → pS → Prop} {Q8 : Option pV → pS → Prop} {Q9 : Option pV → pS → Prop} (hd : 3 ≤ d) (hst : Stat σ) (x2 : Int) (u3 : pV) (u4 : pV) (hu3 : u3.1 ≠ 1) (hu4 : u4.1 ≠ 1) (g1 : inR (rd σ 68 2)) (f1 : ∀ (c1 : (rd σ 68 2) ≤ 0), pC mX11_next 1 [(2, 68)] σ Q1) (f2 : ∀ (c1 : (rd σ 68 2) ≤ 0) (τ1 : pS) (e1 : pLe σ τ1) (q1 : Q1 none τ1), pC mX11_point 2 [(2, 68), (0, (-1))] τ1 Q2) (g2 : ∀ (c1 : (rd σ 68 2) ≤ 0) (τ1 : pS) (e1 : pLe σ τ1) (q1 : Q1 none τ1) (v2 : Int) (τ2 : pS) (e2 : pLe τ1 τ2) (q2 : Q2 (some (0, v2)) τ2), 0 ≤ x2 ∧ x2 < 13) (f3 : ∀ (c1 : (rd σ 68 2) ≤ 0) (τ1 : pS) (e1 : pLe σ τ1) (q1 : Q1 none τ1) (v2 : Int) (τ2 : pS) (e2 : pLe τ1 τ2) (q2 : Q2 (some (0, v2)) τ2), pC mX11_point 2 [(2, 68), (0, v2)] (wr τ2 71 x2 v2) Q3) (f4 : ∀ (c1 : (rd σ 68 2) ≤ 0) (τ1 : pS) (e1 : pLe σ τ1) (q1 : Q1 none τ1) (v2 : Int) (τ2 : pS) (e2 : pLe τ1 τ2) (q2 : Q2 (some (0, v2)) τ2) (v3 : Int) (τ3 : pS) (e3 : pLe (wr τ2 71 x2 v2) τ3) (q3 : Q3 (some (0, v3)) τ3), pC mX11_wantWord 2 [(2, 68), (1, 444300616805)] (wr τ3 72 x2 v3) Q4) (f5 : ∀ (c1 : (rd σ 68 2) ≤ 0) (τ1 : pS) (e1 : pLe σ τ1) (q1 : Q1 none τ1) (v2 : Int) (τ2 : pS) (e2 : pLe τ1 τ2) (q2 : Q2 (some (0, v2)) τ2) (v3 : Int) (τ3 : pS) (e3 : pLe (wr τ2 71 x2 v2) τ3) (q3 : Q3 (some (0, v3)) τ3) (τ4 : pS) (e4 : pLe (wr τ3 72 x2 v3) τ4) (q4 : Q4 none τ4), pC mX11_told 2 [(2, 68), (0, 0), (0, 3)] τ4 Q5) (f6 : ∀ (c1 : (rd σ 68 2) ≤ 0) (τ1 : pS) (e1 : pLe σ τ1) (q1 : Q1 none τ1) (v2 : Int) (τ2 : pS) (e2 : pLe τ1 τ2) (q2 : Q2 (some (0, v2)) τ2) (v3 : Int) (τ3 : pS) (e3 : pLe (wr τ2 71 x2 v2) τ3) (q3 : Q3 (some (0, v3)) τ3) (τ4 : pS) (e4 : pLe (wr τ3 72 x2 v3) τ4) (q4 : Q4 none τ4) (v5 : Int) (τ5 : pS) (e5 : pLe τ4 τ5) (q5 : Q5 (some (0, v5)) τ5), pC mX11_wantWord 2 [(2, 68), (1, 499850634611)] (wr τ5 74 x2 v5) Q6) (f7 : ∀ (c1 : (rd σ 68 2) ≤ 0) (τ1 : pS) (e1 : pLe σ τ1) (q1 : Q1 none τ1) (v2 : Int) (τ2 : pS) (e2 : pLe τ1 τ2) (q2 : Q2 (some (0, v2)) τ2) (v3 : Int) (τ3 : pS) (e3 : pLe (wr τ2 71 x2 v2) τ3) (q3 : Q3 (some (0, v3)) τ3) (τ4 : pS) (e4 : pLe (wr τ3 72 x2 v3) τ4) (q4 : Q4 none τ4) (v5 : Int) (τ5 : pS) (e5 : pLe τ4 τ5) (q5 : Q5 (some (0, v5)) τ5) (τ6 : pS) (e6 : pLe (wr τ5 74 x2 v5) τ6) (q6 : Q6 none τ6), pC mX11_told 2 [(2, 68), (0, 1), (0, 60)] τ6 Q7) (f8 : ∀ (c1 : (rd σ 68 2) ≤ 0) (τ1 : pS) (e1 : pLe σ τ1) (q1 : Q1 none τ1) (v2 : Int) (τ2 : pS) (e2 : pLe τ1 τ2) (q2 : Q2 (some (0, v2)) τ2) (v3 : Int) (τ3 : pS) (e3 : pLe (wr τ2 71 x2 v2) τ3) (q3 : Q3 (some (0, v3)) τ3) (τ4 : pS) (e4 : pLe (wr τ3 72 x2 v3) τ4) (q4 : Q4 none τ4) (v5 : Int) (τ5 : pS) (e5 : pLe τ4 τ5) (q5 : Q5 (some (0, v5)) τ5) (τ6 : pS) (e6 : pLe (wr τ5 74 x2 v5) τ6) (q6 : Q6 none τ6) (v7 : Int) (τ7 : pS) (e7 : pLe τ6 τ7) (q7 : Q7 (some (0, v7)) τ7), pC mX11_wantWord 2 [(2, 68), (1, 1936617335)] (wr τ7 73 x2 v7) Q8) (f9 : ∀ (c1 : (rd σ 68 2) ≤ 0) (τ1 : pS) (e1 : pLe σ τ1) (q1 : Q1 none τ1) (v2 : Int) (τ2 : pS) (e2 : pLe τ1 τ2) (q2 : Q2 (some (0, v2)) τ2) (v3 : Int) (τ3 : pS) (e3 : pLe (wr τ2 71 x2 v2) τ3) (q3 : Q3 (some (0, v3)) τ3) (τ4 : pS) (e4 : pLe (wr τ3 72 x2 v3) τ4) (q4 : Q4 none τ4) (v5 : Int) (τ5 : pS) (e5 : pLe τ4 τ5) (q5 : Q5 (some (0, v5)) τ5) (τ6 : pS) (e6 : pLe (wr τ5 74 x2 v5) τ6) (q6 : Q6 none τ6) (v7 : Int) (τ7 : pS) (e7 : pLe τ6 τ7) (q7 : Q7 (some (0, v7)) τ7) (τ8 : pS) (e8 : pLe (wr τ7 73 x2 v7) τ8) (q8 : Q8 none τ8), pC mX11_told 2 [(2, 68), (0, 0), (0, 300)] τ8 Q9) (g3 : ∀ (c1 : (rd σ 68 2) ≤ 0) (τ1 : pS) (e1 : pLe σ τ1) (q1 : Q1 none τ1) (v2 : Int) (τ2 : pS) (e2 : pLe τ1 τ2) (q2 : Q2 (some (0, v2)) τ2) (v3 : Int) (τ3 : pS) (e3 : pLe (wr τ2 71 x2 v2) τ3) (q3 : Q3 (some (0, v3)) τ3) (τ4 : pS) (e4 : pLe (wr τ3 72 x2 v3) τ4) (q4 : Q4 none τ4) (v5 : Int) (τ5 : pS) (e5 : pLe τ4 τ5) (q5 : Q5 (some (0, v5)) τ5) (τ6 : pS) (e6 : pLe (wr τ5 74 x2 v5) τ6) (q6 : Q6 none τ6) (v7 : Int) (τ7 : pS) (e7 : pLe τ6 τ7) (q7 : Q7 (some (0, v7)) τ7) (τ8 : pS) (e8 : pLe (wr τ7 73 x2 v7) τ8) (q8 : Q8 none τ8) (v9 : Int) (τ9 : pS) (e9 : pLe τ8 τ9) (q9 : Q9 (some (0, v9)) τ9), inR (rd τ9 68 2)) (k1 : ∀ (c1 : (rd σ 68 2) ≤ 0) (τ1 : pS) (e1 : pLe σ τ1) (q1 : Q1 none τ1) (v2 : Int) (τ2 : pS) (e2 : pLe τ1 τ2) (q2 : Q2 (some (0, v2)) τ2) (v3 : Int) (τ3 : pS) (e3 : pLe (wr τ2 71 x2 v2) τ3) (q3 : Q3 (some (0, v3)) τ3) (τ4 : pS) (e4 : pLe (wr τ3 72 x2 v3) τ4) (q4 : Q4 none τ4) (v5 : Int) (τ5 : pS) (e5 : pLe τ4 τ5) (q5 : Q5 (some (0, v5)) τ5) (τ6 : pS) (e6 : pLe (wr τ5 74 x2 v5) τ6) (q6 : Q6 none τ6) (v7 : Int) (τ7 : pS) (e7 : pLe τ6 τ7) (q7 : Q7 (some (0, v7)) τ7) (τ8 : pS) (e8 : pLe (wr τ7 73 x2 v7) τ8) (q8 : Q8 none τ8) (v9 : Int) (τ9 : pS) (e9 : pLe τ8 τ9) (q9 : Q9 (some (0, v9)) τ9) (c3 : (rd τ9 68 2) ≤ 0), Q none (wr (wr (wr τ9 75 x2 v9) 68 18 ((rd τ9 68 18) + 1)) 70 x2 (rd σ 68 9))) (k2 : ∀ (c1 : (rd σ 68 2) ≤ 0) (τ1 : pS) (e1 : pLe σ τ1) (q1 : Q1 none τ1) (v2 : Int) (τ2 : pS) (e2 : pLe τ1 τ2) (q2 : Q2 (some (0, v2)) τ2) (v3 : Int) (τ3 : pS) (e3 : pLe (wr τ2 71 x2 v2) τ3) (q3 : Q3 (some (0, v3)) τ3) (τ4 : pS) (e4 : pLe (wr τ3 72 x2 v3) τ4) (q4 : Q4 none τ4) (v5 : Int) (τ5 : pS) (e5 : pLe τ4 τ5) (q5 : Q5 (some (0, v5)) τ5) (τ6 : pS) (e6 : pLe (wr τ5 74 x2 v5) τ6) (q6 : Q6 none τ6) (v7 : Int) (τ7 : pS) (e7 : pLe τ6 τ7) (q7 : Q7 (some (0, v7)) τ7) (τ8 : pS) (e8 : pLe (wr τ7 73 x2 v7) τ8) (q8 : Q8 none τ8) (v9 : Int) (τ9 : pS) (e9 : pLe τ8 τ9) (q9 : Q9 (some (0, v9)) τ9) (c4 : 0 < (rd τ9 68 2)), Q none (wr τ9 75 x2 v9)) (k3 : ∀ (c2 : 0 < (rd σ 68 2)), Q none σ) : pR mX11_readWay d 50 [(2, 68), (0, 0), (0, x2), u3, u4] [] σ Q := by
  refine pGo (s_aload_n dX11_readWay_50 rfl (by decide)) ?_
  refine pGoE (y := (rd σ 68 2)) (s_getI pc11 fl_X11_273 dX11_readWay_51 (ob_68 hst) rfl (by decide)) rfl ?_
  refine p_ifle (tgt := 58) dX11_readWay_54 (by decide) g1 (fun c1 => ?_) (fun c2 => ?_)
  · refine pGo (s_aload_n dX11_readWay_58 rfl (by decide)) ?_
    refine pGoE (y := (rd σ 68 9)) (s_getJ pc11 fl_X11_253 dX11_readWay_59 (ob_68 hst) rfl rfl) rfl ?_
    refine pGoL (ls2 := [(2, 68), (0, 0), (0, x2), (1, (rd σ 68 9)), (9, 0)]) (s_lstore_n dX11_readWay_62 (by decide) rfl) rfl ?_
    refine pGo (s_aload_n dX11_readWay_63 rfl (by decide)) ?_
    refine p_callV (As := []) (st := []) (n := 0) (d' := 1) (Q1 := Q1) pc11 ok_X11_next ml_X11_319 im_X11_next se_X11_next dX11_readWay_64 (ob_68 hst) (pargs_of rfl) rfl (Nat.le_of_ble_eq_true rfl) (by omega) (f1 c1) (fun r1 τ1 e1 q1 w1 => ?_)
    obtain rfl : r1 = none := w1
    have S1 : Stat τ1 := (Stat.le (σ := σ) hst e1)
    show pR mX11_readWay d 67 [(2, 68), (0, 0), (0, x2), (1, (rd σ 68 9)), (9, 0)] [] τ1 Q
    refine pGo (s_aload_n dX11_readWay_67 rfl (by decide)) ?_
    refine pGoE (y := 71) (s_getF pc11 fl_X11_21 dX11_readWay_68 (ob_68 S1) rfl (by decide)) (by decide) ?_
    refine pGo (s_iload_n dX11_readWay_71 rfl) ?_
    refine pGo (s_aload_n dX11_readWay_72 rfl (by decide)) ?_
    refine pGo (s_iconst dX11_readWay_73) ?_
    refine p_callV (As := [(0, (-1))]) (st := [(0, x2), (2, 71)]) (n := 1) (d' := 2) (Q1 := Q2) pc11 ok_X11_point ml_X11_335 im_X11_point se_X11_point dX11_readWay_74 (ob_68 S1) (pargs_of rfl) rfl (Nat.le_of_ble_eq_true rfl) (by omega) (f2 c1 τ1 e1 q1) (fun r2 τ2 e2 q2 w2 => ?_)
    obtain ⟨v2, rfl⟩ := w2
    have S2 : Stat τ2 := (Stat.le (σ := τ1) S1 e2)
    show pR mX11_readWay d 77 [(2, 68), (0, 0), (0, x2), (1, (rd σ 68 9)), (9, 0)] [(0, v2), (0, x2), (2, 71)] τ2 Q
    refine pGo (s_iast dX11_readWay_77 (ob_71 S2) (bnd (g2 c1 τ1 e1 q1 v2 τ2 e2 q2))) ?_
    refine pGo (s_aload_n dX11_readWay_78 rfl (by decide)) ?_
    refine pGoE (y := 72) (s_getF pc11 fl_X11_24 dX11_readWay_79 (ob_68 S2) rfl (by decide)) (by decide) ?_
    refine pGo (s_iload_n dX11_readWay_82 rfl) ?_
    refine pGo (s_aload_n dX11_readWay_83 rfl (by decide)) ?_
    refine pGo (s_aload_n dX11_readWay_84 rfl (by decide)) ?_
    refine pGoE (y := 71) (s_getF pc11 fl_X11_21 dX11_readWay_85 (ob_68 S2) rfl (by decide)) (by decide) ?_
    refine pGo (s_iload_n dX11_readWay_88 rfl) ?_
    refine pGoE (y := v2) (s_iald dX11_readWay_89 (ob_71 S2) (bnd (g2 c1 τ1 e1 q1 v2 τ2 e2 q2))) (rd_wr_same _ _ _ _) ?_
    refine p_callV (As := [(0, v2)]) (st := [(0, x2), (2, 72)]) (n := 1) (d' := 2) (Q1 := Q3) pc11 ok_X11_point ml_X11_335 im_X11_point se_X11_point dX11_readWay_90 (ob_68 S2) (pargs_of rfl) rfl (Nat.le_of_ble_eq_true rfl) (by omega) (f3 c1 τ1 e1 q1 v2 τ2 e2 q2) (fun r3 τ3 e3 q3 w3 => ?_)
    obtain ⟨v3, rfl⟩ := w3
    have S3 : Stat τ3 := (Stat.le (σ := (wr τ2 71 x2 v2)) S2 e3)
    show pR mX11_readWay d 93 [(2, 68), (0, 0), (0, x2), (1, (rd σ 68 9)), (9, 0)] [(0, v3), (0, x2), (2, 72)] τ3 Q
    refine pGo (s_iast dX11_readWay_93 (ob_72 S3) (bnd (g2 c1 τ1 e1 q1 v2 τ2 e2 q2))) ?_
    refine pGo (s_iload_n dX11_readWay_94 rfl) ?_
    refine p_ifne (tgt := 117) dX11_readWay_95 (by decide) (by decide) (fun q => absurd q (by decide)) (fun _ => ?_)
    refine pGo (s_aload_n dX11_readWay_98 rfl (by decide)) ?_
    refine pGo (s_ldc2 (n := 444300616805) dX11_readWay_99 kl_X11_292 (by decide)) ?_
    refine p_callV (As := [(1, 444300616805)]) (st := []) (n := 1) (d' := 2) (Q1 := Q4) pc11 ok_X11_wantWord ml_X11_338 im_X11_wantWord se_X11_wantWord dX11_readWay_102 (ob_68 S3) (pargs_of rfl) rfl (Nat.le_of_ble_eq_true rfl) (by omega) (f4 c1 τ1 e1 q1 v2 τ2 e2 q2 v3 τ3 e3 q3) (fun r4 τ4 e4 q4 w4 => ?_)
    obtain rfl : r4 = none := w4
    have S4 : Stat τ4 := (Stat.le (σ := (wr τ3 72 x2 v3)) S3 e4)
    show pR mX11_readWay d 105 [(2, 68), (0, 0), (0, x2), (1, (rd σ 68 9)), (9, 0)] [] τ4 Q
    refine pGo (s_aload_n dX11_readWay_105 rfl (by decide)) ?_
    refine pGoE (y := 74) (s_getF pc11 fl_X11_30 dX11_readWay_106 (ob_68 S4) rfl (by decide)) (by decide) ?_
    refine pGo (s_iload_n dX11_readWay_109 rfl) ?_
    refine pGo (s_aload_n dX11_readWay_110 rfl (by decide)) ?_
    refine pGo (s_iconst dX11_readWay_111) ?_
    refine pGo (s_iconst dX11_readWay_112) ?_
    refine p_callV (As := [(0, 0), (0, 3)]) (st := [(0, x2), (2, 74)]) (n := 2) (d' := 2) (Q1 := Q5) pc11 ok_X11_told ml_X11_342 im_X11_told se_X11_told dX11_readWay_113 (ob_68 S4) (pargs_of rfl) rfl (Nat.le_of_ble_eq_true rfl) (by omega) (f5 c1 τ1 e1 q1 v2 τ2 e2 q2 v3 τ3 e3 q3 τ4 e4 q4) (fun r5 τ5 e5 q5 w5 => ?_)
    obtain ⟨v5, rfl⟩ := w5
    have S5 : Stat τ5 := (Stat.le (σ := τ4) S4 e5)
    show pR mX11_readWay d 116 [(2, 68), (0, 0), (0, x2), (1, (rd σ 68 9)), (9, 0)] [(0, v5), (0, x2), (2, 74)] τ5 Q
    refine pGo (s_iast dX11_readWay_116 (ob_74 S5) (bnd (g2 c1 τ1 e1 q1 v2 τ2 e2 q2))) ?_
    refine pGo (s_aload_n dX11_readWay_117 rfl (by decide)) ?_
    refine pGo (s_ldc2 (n := 499850634611) dX11_readWay_118 kl_X11_282 (by decide)) ?_
    refine p_callV (As := [(1, 499850634611)]) (st := []) (n := 1) (d' := 2) (Q1 := Q6) pc11 ok_X11_wantWord ml_X11_338 im_X11_wantWord se_X11_wantWord dX11_readWay_121 (ob_68 S5) (pargs_of rfl) rfl (Nat.le_of_ble_eq_true rfl) (by omega) (f6 c1 τ1 e1 q1 v2 τ2 e2 q2 v3 τ3 e3 q3 τ4 e4 q4 v5 τ5 e5 q5) (fun r6 τ6 e6 q6 w6 => ?_)
    obtain rfl : r6 = none := w6
    have S6 : Stat τ6 := (Stat.le (σ := (wr τ5 74 x2 v5)) S5 e6)
    show pR mX11_readWay d 124 [(2, 68), (0, 0), (0, x2), (1, (rd σ 68 9)), (9, 0)] [] τ6 Q
    refine pGo (s_aload_n dX11_readWay_124 rfl (by decide)) ?_
    refine pGoE (y := 73) (s_getF pc11 fl_X11_27 dX11_readWay_125 (ob_68 S6) rfl (by decide)) (by decide) ?_
    refine pGo (s_iload_n dX11_readWay_128 rfl) ?_
    refine pGo (s_aload_n dX11_readWay_129 rfl (by decide)) ?_
    refine pGo (s_iconst dX11_readWay_130) ?_
    refine pGo (s_iload_n dX11_readWay_131 rfl) ?_
    refine p_ifeq (tgt := 140) dX11_readWay_132 (by decide) (by decide) (fun _ => ?_) (fun q => absurd q (by decide))
    refine pGo (s_bipush dX11_readWay_140 (by decide)) ?_
    refine p_callV (As := [(0, 1), (0, 60)]) (st := [(0, x2), (2, 73)]) (n := 2) (d' := 2) (Q1 := Q7) pc11 ok_X11_told ml_X11_342 im_X11_told se_X11_told dX11_readWay_142 (ob_68 S6) (pargs_of rfl) rfl (Nat.le_of_ble_eq_true rfl) (by omega) (f7 c1 τ1 e1 q1 v2 τ2 e2 q2 v3 τ3 e3 q3 τ4 e4 q4 v5 τ5 e5 q5 τ6 e6 q6) (fun r7 τ7 e7 q7 w7 => ?_)
    obtain ⟨v7, rfl⟩ := w7
    have S7 : Stat τ7 := (Stat.le (σ := τ6) S6 e7)
    show pR mX11_readWay d 145 [(2, 68), (0, 0), (0, x2), (1, (rd σ 68 9)), (9, 0)] [(0, v7), (0, x2), (2, 73)] τ7 Q
    refine pGo (s_iast dX11_readWay_145 (ob_73 S7) (bnd (g2 c1 τ1 e1 q1 v2 τ2 e2 q2))) ?_
    refine pGo (s_iload_n dX11_readWay_146 rfl) ?_
    refine p_ifeq (tgt := 266) dX11_readWay_147 (by decide) (by decide) (fun _ => ?_) (fun q => absurd q (by decide))
    refine pGo (s_aload_n dX11_readWay_266 rfl (by decide)) ?_
    refine pGo (s_ldc2 (n := 1936617335) dX11_readWay_267 kl_X11_294 (by decide)) ?_
    refine p_callV (As := [(1, 1936617335)]) (st := []) (n := 1) (d' := 2) (Q1 := Q8) pc11 ok_X11_wantWord ml_X11_338 im_X11_wantWord se_X11_wantWord dX11_readWay_270 (ob_68 S7) (pargs_of rfl) rfl (Nat.le_of_ble_eq_true rfl) (by omega) (f8 c1 τ1 e1 q1 v2 τ2 e2 q2 v3 τ3 e3 q3 τ4 e4 q4 v5 τ5 e5 q5 τ6 e6 q6 v7 τ7 e7 q7) (fun r8 τ8 e8 q8 w8 => ?_)
    obtain rfl : r8 = none := w8
    have S8 : Stat τ8 := (Stat.le (σ := (wr τ7 73 x2 v7)) S7 e8)
    show pR mX11_readWay d 273 [(2, 68), (0, 0), (0, x2), (1, (rd σ 68 9)), (9, 0)] [] τ8 Q
    refine pGo (s_aload_n dX11_readWay_273 rfl (by decide)) ?_
    refine pGoE (y := 75) (s_getF pc11 fl_X11_33 dX11_readWay_274 (ob_68 S8) rfl (by decide)) (by decide) ?_
    refine pGo (s_iload_n dX11_readWay_277 rfl) ?_
    refine pGo (s_aload_n dX11_readWay_278 rfl (by decide)) ?_
    refine pGo (s_iconst dX11_readWay_279) ?_
    refine pGo (s_sipush dX11_readWay_280 (by decide)) ?_
    refine p_callV (As := [(0, 0), (0, 300)]) (st := [(0, x2), (2, 75)]) (n := 2) (d' := 2) (Q1 := Q9) pc11 ok_X11_told ml_X11_342 im_X11_told se_X11_told dX11_readWay_283 (ob_68 S8) (pargs_of rfl) rfl (Nat.le_of_ble_eq_true rfl) (by omega) (f9 c1 τ1 e1 q1 v2 τ2 e2 q2 v3 τ3 e3 q3 τ4 e4 q4 v5 τ5 e5 q5 τ6 e6 q6 v7 τ7 e7 q7 τ8 e8 q8) (fun r9 τ9 e9 q9 w9 => ?_)
    obtain ⟨v9, rfl⟩ := w9
    have S9 : Stat τ9 := (Stat.le (σ := τ8) S8 e9)
    show pR mX11_readWay d 286 [(2, 68), (0, 0), (0, x2), (1, (rd σ 68 9)), (9, 0)] [(0, v9), (0, x2), (2, 75)] τ9 Q
    refine pGo (s_iast dX11_readWay_286 (ob_75 S9) (bnd (g2 c1 τ1 e1 q1 v2 τ2 e2 q2))) ?_
    refine pGo (s_aload_n dX11_readWay_287 rfl (by decide)) ?_
    refine pGoE (y := (rd τ9 68 2)) (s_getI pc11 fl_X11_273 dX11_readWay_288 (ob_68 S9) rfl (by decide)) (rd_wr_a _ (by decide)) ?_
    refine p_ifle (tgt := 295) dX11_readWay_291 (by decide) (g3 c1 τ1 e1 q1 v2 τ2 e2 q2 v3 τ3 e3 q3 τ4 e4 q4 v5 τ5 e5 q5 τ6 e6 q6 v7 τ7 e7 q7 τ8 e8 q8 v9 τ9 e9 q9) (fun c3 => ?_) (fun c4 => ?_)
    · refine pGo (s_aload_n dX11_readWay_295 rfl (by decide)) ?_
      refine pGo (s_dup dX11_readWay_296 (by decide)) ?_
      refine pGoE (y := (rd τ9 68 18)) (s_getI pc11 fl_X11_325 dX11_readWay_297 (ob_68 S9) rfl (by decide)) (rd_wr_a _ (by decide)) ?_
      refine pGo (s_iconst dX11_readWay_300) ?_
      refine pGo (s_iadd dX11_readWay_301) ?_
      refine pGo (s_putI pc11 fl_X11_325 dX11_readWay_302 (ob_68 S9) rfl rfl rfl rfl) ?_
      refine pGo (s_aload_n dX11_readWay_305 rfl (by decide)) ?_
      refine pGoE (y := 70) (s_getF pc11 fl_X11_17 dX11_readWay_306 (ob_68 S9) rfl (by decide)) (by decide) ?_
      refine pGo (s_iload_n dX11_readWay_309 rfl) ?_
      refine pGo (s_lload_n dX11_readWay_310 rfl) ?_
      refine pGo (s_last dX11_readWay_311 (ob_70 S9) (bnd (g2 c1 τ1 e1 q1 v2 τ2 e2 q2))) ?_
      exact pEnd (r := none) dX11_readWay_312 rfl (k1 c1 τ1 e1 q1 v2 τ2 e2 q2 v3 τ3 e3 q3 τ4 e4 q4 v5 τ5 e5 q5 τ6 e6 q6 v7 τ7 e7 q7 τ8 e8 q8 v9 τ9 e9 q9 c3)
    · exact pEnd (r := none) dX11_readWay_294 rfl (k2 c1 τ1 e1 q1 v2 τ2 e2 q2 v3 τ3 e3 q3 τ4 e4 q4 v5 τ5 e5 q5 τ6 e6 q6 v7 τ7 e7 q7 τ8 e8 q8 v9 τ9 e9 q9 c4)
  · exact pEnd (r := none) dX11_readWay_57 rfl (k3 c2)
set_option maxRecDepth 100000 in
theorem g_X11_readLine_0 {d : Nat} {σ : pS} {Q : Option pV → pS → Prop} {Q1 : Option pV → pS → Prop} {Q2 : Option pV → pS → Prop} {Q3 : Option pV → pS → Prop} {Q4 : Option pV → pS → Prop} (hd : 4 ≤ d) (hst : Stat σ)   (f1 : pC mX11_isWord 0 [(2, 68), (1, 1818846836)] σ (fun r τ => r = some (0, b2i (vIsW σ 1818846836)) ∧ τ = σ)) (f2 : pC mX11_isWord 0 [(2, 68), (1, 7501166)] σ (fun r τ => r = some (0, b2i (vIsW σ 7501166)) ∧ τ = σ)) (f3 : ∀ (c1 : (vIsW σ 1818846836) = false) (c3 : (vIsW σ 7501166) = false), pC mX11_isWord 0 [(2, 68), (1, 1752132965)] σ (fun r τ => r = some (0, b2i (vIsW σ 1752132965)) ∧ τ = σ)) (f4 : ∀ (c1 : (vIsW σ 1818846836) = false) (c3 : (vIsW σ 7501166) = false) (c5 : (vIsW σ 1752132965) = false), pC mX11_wrong 0 [(2, 68), (0, 2)] σ Q1) (k1 : ∀ (c1 : (vIsW σ 1818846836) = false) (c3 : (vIsW σ 7501166) = false) (c5 : (vIsW σ 1752132965) = false) (τ4 : pS) (e4 : pLe σ τ4) (q4 : Q1 none τ4), pR mX11_readLine d 70 [(2, 68), (0, (b2i (vIsW σ 1818846836))), (0, (b2i (vIsW σ 7501166)))] [] τ4 Q) (g1 : ∀ (c1 : (vIsW σ 1818846836) = false) (c3 : (vIsW σ 7501166) = false) (c6 : (vIsW σ 1752132965) = true), inR (rd σ 68 21)) (k2 : ∀ (c1 : (vIsW σ 1818846836) = false) (c3 : (vIsW σ 7501166) = false) (c6 : (vIsW σ 1752132965) = true) (c7 : (rd σ 68 21) = 0), pR mX11_readLine d 70 [(2, 68), (0, (b2i (vIsW σ 1818846836))), (0, (b2i (vIsW σ 7501166)))] [] σ Q) (f5 : ∀ (c1 : (vIsW σ 1818846836) = false) (c3 : (vIsW σ 7501166) = false) (c6 : (vIsW σ 1752132965) = true) (c8 : (rd σ 68 21) ≠ 0), pC mX11_wrong 0 [(2, 68), (0, 2)] σ Q2) (k3 : ∀ (c1 : (vIsW σ 1818846836) = false) (c3 : (vIsW σ 7501166) = false) (c6 : (vIsW σ 1752132965) = true) (c8 : (rd σ 68 21) ≠ 0) (τ5 : pS) (e5 : pLe σ τ5) (q5 : Q2 none τ5), pR mX11_readLine d 70 [(2, 68), (0, (b2i (vIsW σ 1818846836))), (0, (b2i (vIsW σ 7501166)))] [] τ5 Q) (g2 : ∀ (c1 : (vIsW σ 1818846836) = false) (c4 : (vIsW σ 7501166) = true), inR (rd σ 68 18)) (k4 : ∀ (c1 : (vIsW σ 1818846836) = false) (c4 : (vIsW σ 7501166) = true) (c9 : (rd σ 68 18) ≠ 7), pR mX11_readLine d 70 [(2, 68), (0, (b2i (vIsW σ 1818846836))), (0, (b2i (vIsW σ 7501166)))] [] σ Q) (f6 : ∀ (c1 : (vIsW σ 1818846836) = false) (c4 : (vIsW σ 7501166) = true) (c10 : (rd σ 68 18) = 7), pC mX11_wrong 0 [(2, 68), (0, 2)] σ Q3) (k5 : ∀ (c1 : (vIsW σ 1818846836) = false) (c4 : (vIsW σ 7501166) = true) (c10 : (rd σ 68 18) = 7) (τ6 : pS) (e6 : pLe σ τ6) (q6 : Q3 none τ6), pR mX11_readLine d 70 [(2, 68), (0, (b2i (vIsW σ 1818846836))), (0, (b2i (vIsW σ 7501166)))] [] τ6 Q) (g3 : ∀ (c2 : (vIsW σ 1818846836) = true), inR (rd σ 68 17)) (k6 : ∀ (c2 : (vIsW σ 1818846836) = true) (c11 : (rd σ 68 17) ≠ 6), pR mX11_readLine d 70 [(2, 68), (0, (b2i (vIsW σ 1818846836))), (0, (b2i (vIsW σ 7501166)))] [] σ Q) (f7 : ∀ (c2 : (vIsW σ 1818846836) = true) (c12 : (rd σ 68 17) = 6), pC mX11_wrong 0 [(2, 68), (0, 2)] σ Q4) (k7 : ∀ (c2 : (vIsW σ 1818846836) = true) (c12 : (rd σ 68 17) = 6) (τ7 : pS) (e7 : pLe σ τ7) (q7 : Q4 none τ7), pR mX11_readLine d 70 [(2, 68), (0, (b2i (vIsW σ 1818846836))), (0, (b2i (vIsW σ 7501166)))] [] τ7 Q) : pC mX11_readLine d [(2, 68)] σ Q := by
  show pR mX11_readLine d 0 [(2, 68), (9, 0), (9, 0)] [] σ Q
  refine pGo (s_aload_n dX11_readLine_0 rfl (by decide)) ?_
  refine pGo (s_ldc2 (n := 1818846836) dX11_readLine_1 kl_X11_276 (by decide)) ?_
  refine p_callV (As := [(1, 1818846836)]) (st := []) (n := 1) (d' := 0) (Q1 := (fun r τ => r = some (0, b2i (vIsW σ 1818846836)) ∧ τ = σ)) pc11 ok_X11_isWord ml_X11_312 im_X11_isWord se_X11_isWord dX11_readLine_4 (ob_68 hst) (pargs_of rfl) rfl (Nat.le_of_ble_eq_true rfl) (by omega) f1 (fun r1 τ1 e1 q1 w1 => ?_)
  obtain ⟨rfl, t1⟩ := q1
  rw [t1]
  show pR mX11_readLine d 7 [(2, 68), (9, 0), (9, 0)] [(0, (b2i (vIsW σ 1818846836)))] σ Q
  refine pGoL (ls2 := [(2, 68), (0, (b2i (vIsW σ 1818846836))), (9, 0)]) (s_istore_n dX11_readLine_7 (by decide) rfl) rfl ?_
  refine pGo (s_aload_n dX11_readLine_8 rfl (by decide)) ?_
  refine pGo (s_ldc2 (n := 7501166) dX11_readLine_9 kl_X11_278 (by decide)) ?_
  refine p_callV (As := [(1, 7501166)]) (st := []) (n := 1) (d' := 0) (Q1 := (fun r τ => r = some (0, b2i (vIsW σ 7501166)) ∧ τ = σ)) pc11 ok_X11_isWord ml_X11_312 im_X11_isWord se_X11_isWord dX11_readLine_12 (ob_68 hst) (pargs_of rfl) rfl (Nat.le_of_ble_eq_true rfl) (by omega) f2 (fun r2 τ2 e2 q2 w2 => ?_)
  obtain ⟨rfl, t2⟩ := q2
  rw [t2]
  show pR mX11_readLine d 15 [(2, 68), (0, (b2i (vIsW σ 1818846836))), (9, 0)] [(0, (b2i (vIsW σ 7501166)))] σ Q
  refine pGoL (ls2 := [(2, 68), (0, (b2i (vIsW σ 1818846836))), (0, (b2i (vIsW σ 7501166)))]) (s_istore_n dX11_readLine_15 (by decide) rfl) rfl ?_
  refine pGo (s_iload_n dX11_readLine_16 rfl) ?_
  refine p_ifeqB (tgt := 32) dX11_readLine_17 (by decide) (fun c1 => ?_) (fun c2 => ?_)
  · refine pGo (s_iload_n dX11_readLine_32 rfl) ?_
    refine p_ifeqB (tgt := 48) dX11_readLine_33 (by decide) (fun c3 => ?_) (fun c4 => ?_)
    · refine pGo (s_aload_n dX11_readLine_48 rfl (by decide)) ?_
      refine pGo (s_ldc2 (n := 1752132965) dX11_readLine_49 kl_X11_280 (by decide)) ?_
      refine p_callV (As := [(1, 1752132965)]) (st := []) (n := 1) (d' := 0) (Q1 := (fun r τ => r = some (0, b2i (vIsW σ 1752132965)) ∧ τ = σ)) pc11 ok_X11_isWord ml_X11_312 im_X11_isWord se_X11_isWord dX11_readLine_52 (ob_68 hst) (pargs_of rfl) rfl (Nat.le_of_ble_eq_true rfl) (by omega) (f3 c1 c3) (fun r3 τ3 e3 q3 w3 => ?_)
      obtain ⟨rfl, t3⟩ := q3
      rw [t3]
      show pR mX11_readLine d 55 [(2, 68), (0, (b2i (vIsW σ 1818846836))), (0, (b2i (vIsW σ 7501166)))] [(0, (b2i (vIsW σ 1752132965)))] σ Q
      refine p_ifeqB (tgt := 65) dX11_readLine_55 (by decide) (fun c5 => ?_) (fun c6 => ?_)
      · refine pGo (s_aload_n dX11_readLine_65 rfl (by decide)) ?_
        refine pGo (s_iconst dX11_readLine_66) ?_
        refine p_callV (As := [(0, 2)]) (st := []) (n := 1) (d' := 0) (Q1 := Q1) pc11 ok_X11_wrong ml_X11_316 im_X11_wrong se_X11_wrong dX11_readLine_67 (ob_68 hst) (pargs_of rfl) rfl (Nat.le_of_ble_eq_true rfl) (by omega) (f4 c1 c3 c5) (fun r4 τ4 e4 q4 w4 => ?_)
        obtain rfl : r4 = none := w4
        have S4 : Stat τ4 := (Stat.le (σ := σ) hst e4)
        show pR mX11_readLine d 70 [(2, 68), (0, (b2i (vIsW σ 1818846836))), (0, (b2i (vIsW σ 7501166)))] [] τ4 Q
        exact (k1 c1 c3 c5 τ4 e4 q4)
      · refine pGo (s_aload_n dX11_readLine_58 rfl (by decide)) ?_
        refine pGoE (y := (rd σ 68 21)) (s_getI pc11 fl_X11_346 dX11_readLine_59 (ob_68 hst) rfl (by decide)) rfl ?_
        refine p_ifeq (tgt := 70) dX11_readLine_62 (by decide) (g1 c1 c3 c6) (fun c7 => ?_) (fun c8 => ?_)
        · exact (k2 c1 c3 c6 c7)
        · refine pGo (s_aload_n dX11_readLine_65 rfl (by decide)) ?_
          refine pGo (s_iconst dX11_readLine_66) ?_
          refine p_callV (As := [(0, 2)]) (st := []) (n := 1) (d' := 0) (Q1 := Q2) pc11 ok_X11_wrong ml_X11_316 im_X11_wrong se_X11_wrong dX11_readLine_67 (ob_68 hst) (pargs_of rfl) rfl (Nat.le_of_ble_eq_true rfl) (by omega) (f5 c1 c3 c6 c8) (fun r5 τ5 e5 q5 w5 => ?_)
          obtain rfl : r5 = none := w5
          have S5 : Stat τ5 := (Stat.le (σ := σ) hst e5)
          show pR mX11_readLine d 70 [(2, 68), (0, (b2i (vIsW σ 1818846836))), (0, (b2i (vIsW σ 7501166)))] [] τ5 Q
          exact (k3 c1 c3 c6 c8 τ5 e5 q5)
    · refine pGo (s_aload_n dX11_readLine_36 rfl (by decide)) ?_
      refine pGoE (y := (rd σ 68 18)) (s_getI pc11 fl_X11_325 dX11_readLine_37 (ob_68 hst) rfl (by decide)) rfl ?_
      refine pGo (s_bipush dX11_readLine_40 (by decide)) ?_
      refine p_icne (tgt := 70) dX11_readLine_42 (by decide) (g2 c1 c4) (by decide) (fun c9 => ?_) (fun c10 => ?_)
      · exact (k4 c1 c4 c9)
      · refine pGo (s_goto (tgt := 65) dX11_readLine_45 (by decide)) ?_
        refine pGo (s_aload_n dX11_readLine_65 rfl (by decide)) ?_
        refine pGo (s_iconst dX11_readLine_66) ?_
        refine p_callV (As := [(0, 2)]) (st := []) (n := 1) (d' := 0) (Q1 := Q3) pc11 ok_X11_wrong ml_X11_316 im_X11_wrong se_X11_wrong dX11_readLine_67 (ob_68 hst) (pargs_of rfl) rfl (Nat.le_of_ble_eq_true rfl) (by omega) (f6 c1 c4 c10) (fun r6 τ6 e6 q6 w6 => ?_)
        obtain rfl : r6 = none := w6
        have S6 : Stat τ6 := (Stat.le (σ := σ) hst e6)
        show pR mX11_readLine d 70 [(2, 68), (0, (b2i (vIsW σ 1818846836))), (0, (b2i (vIsW σ 7501166)))] [] τ6 Q
        exact (k5 c1 c4 c10 τ6 e6 q6)
  · refine pGo (s_aload_n dX11_readLine_20 rfl (by decide)) ?_
    refine pGoE (y := (rd σ 68 17)) (s_getI pc11 fl_X11_322 dX11_readLine_21 (ob_68 hst) rfl (by decide)) rfl ?_
    refine pGo (s_bipush dX11_readLine_24 (by decide)) ?_
    refine p_icne (tgt := 70) dX11_readLine_26 (by decide) (g3 c2) (by decide) (fun c11 => ?_) (fun c12 => ?_)
    · exact (k6 c2 c11)
    · refine pGo (s_goto (tgt := 65) dX11_readLine_29 (by decide)) ?_
      refine pGo (s_aload_n dX11_readLine_65 rfl (by decide)) ?_
      refine pGo (s_iconst dX11_readLine_66) ?_
      refine p_callV (As := [(0, 2)]) (st := []) (n := 1) (d' := 0) (Q1 := Q4) pc11 ok_X11_wrong ml_X11_316 im_X11_wrong se_X11_wrong dX11_readLine_67 (ob_68 hst) (pargs_of rfl) rfl (Nat.le_of_ble_eq_true rfl) (by omega) (f7 c2 c12) (fun r7 τ7 e7 q7 w7 => ?_)
      obtain rfl : r7 = none := w7
      have S7 : Stat τ7 := (Stat.le (σ := σ) hst e7)
      show pR mX11_readLine d 70 [(2, 68), (0, (b2i (vIsW σ 1818846836))), (0, (b2i (vIsW σ 7501166)))] [] τ7 Q
      exact (k7 c2 c12 τ7 e7 q7)
set_option maxRecDepth 100000 in
theorem g_X11_readLine_70 {d : Nat} {σ : pS} {Q : Option pV → pS → Prop} {Q1 : Option pV → pS → Prop} {Q2 : Option pV → pS → Prop} {Q3 : Option pV → pS → Prop} {Q4 : Option pV → pS → Prop} (hd : 4 ≤ d) (hst : Stat σ) (x1 : Int) (x2 : Int)  (g1 : inR (rd σ 68 2)) (f1 : ∀ (c1 : (rd σ 68 2) ≤ 0), pC mX11_next 1 [(2, 68)] σ Q1) (g2 : ∀ (c1 : (rd σ 68 2) ≤ 0) (τ1 : pS) (e1 : pLe σ τ1) (q1 : Q1 none τ1), inR x1) (f2 : ∀ (c1 : (rd σ 68 2) ≤ 0) (τ1 : pS) (e1 : pLe σ τ1) (q1 : Q1 none τ1) (c3 : x1 ≠ 0), pC mX11_readWay 3 [(2, 68), (0, x1)] τ1 Q2) (k1 : ∀ (c1 : (rd σ 68 2) ≤ 0) (τ1 : pS) (e1 : pLe σ τ1) (q1 : Q1 none τ1) (c3 : x1 ≠ 0) (τ2 : pS) (e2 : pLe τ1 τ2) (q2 : Q2 none τ2), pR mX11_readLine d 112 [(2, 68), (0, x1), (0, x2)] [] τ2 Q) (g3 : ∀ (c1 : (rd σ 68 2) ≤ 0) (τ1 : pS) (e1 : pLe σ τ1) (q1 : Q1 none τ1) (c4 : x1 = 0), inR x2) (f3 : ∀ (c1 : (rd σ 68 2) ≤ 0) (τ1 : pS) (e1 : pLe σ τ1) (q1 : Q1 none τ1) (c4 : x1 = 0) (c5 : x2 = 0), pC mX11_point 2 [(2, 68), (0, (-1))] τ1 Q3) (k2 : ∀ (c1 : (rd σ 68 2) ≤ 0) (τ1 : pS) (e1 : pLe σ τ1) (q1 : Q1 none τ1) (c4 : x1 = 0) (c5 : x2 = 0) (v3 : Int) (τ3 : pS) (e3 : pLe τ1 τ3) (q3 : Q3 (some (0, v3)) τ3), pR mX11_readLine d 112 [(2, 68), (0, x1), (0, x2)] [] (wr (wr τ3 68 19 v3) 68 21 1) Q) (f4 : ∀ (c1 : (rd σ 68 2) ≤ 0) (τ1 : pS) (e1 : pLe σ τ1) (q1 : Q1 none τ1) (c4 : x1 = 0) (c6 : x2 ≠ 0), pC mX11_readWay 3 [(2, 68), (0, x1)] τ1 Q4) (k3 : ∀ (c1 : (rd σ 68 2) ≤ 0) (τ1 : pS) (e1 : pLe σ τ1) (q1 : Q1 none τ1) (c4 : x1 = 0) (c6 : x2 ≠ 0) (τ4 : pS) (e4 : pLe τ1 τ4) (q4 : Q4 none τ4), pR mX11_readLine d 112 [(2, 68), (0, x1), (0, x2)] [] τ4 Q) (k4 : ∀ (c2 : 0 < (rd σ 68 2)), Q none σ) : pR mX11_readLine d 70 [(2, 68), (0, x1), (0, x2)] [] σ Q := by
  refine pGo (s_aload_n dX11_readLine_70 rfl (by decide)) ?_
  refine pGoE (y := (rd σ 68 2)) (s_getI pc11 fl_X11_273 dX11_readLine_71 (ob_68 hst) rfl (by decide)) rfl ?_
  refine p_ifle (tgt := 78) dX11_readLine_74 (by decide) g1 (fun c1 => ?_) (fun c2 => ?_)
  · refine pGo (s_aload_n dX11_readLine_78 rfl (by decide)) ?_
    refine p_callV (As := []) (st := []) (n := 0) (d' := 1) (Q1 := Q1) pc11 ok_X11_next ml_X11_319 im_X11_next se_X11_next dX11_readLine_79 (ob_68 hst) (pargs_of rfl) rfl (Nat.le_of_ble_eq_true rfl) (by omega) (f1 c1) (fun r1 τ1 e1 q1 w1 => ?_)
    obtain rfl : r1 = none := w1
    have S1 : Stat τ1 := (Stat.le (σ := σ) hst e1)
    show pR mX11_readLine d 82 [(2, 68), (0, x1), (0, x2)] [] τ1 Q
    refine pGo (s_iload_n dX11_readLine_82 rfl) ?_
    refine p_ifne (tgt := 90) dX11_readLine_83 (by decide) (g2 c1 τ1 e1 q1) (fun c3 => ?_) (fun c4 => ?_)
    · refine pGo (s_aload_n dX11_readLine_90 rfl (by decide)) ?_
      refine pGo (s_iload_n dX11_readLine_91 rfl) ?_
      refine p_callV (As := [(0, x1)]) (st := []) (n := 1) (d' := 3) (Q1 := Q2) pc11 ok_X11_readWay ml_X11_350 im_X11_readWay se_X11_readWay dX11_readLine_92 (ob_68 S1) (pargs_of rfl) rfl (Nat.le_of_ble_eq_true rfl) (by omega) (f2 c1 τ1 e1 q1 c3) (fun r2 τ2 e2 q2 w2 => ?_)
      obtain rfl : r2 = none := w2
      have S2 : Stat τ2 := (Stat.le (σ := τ1) S1 e2)
      show pR mX11_readLine d 95 [(2, 68), (0, x1), (0, x2)] [] τ2 Q
      refine pGo (s_goto (tgt := 112) dX11_readLine_95 (by decide)) ?_
      exact (k1 c1 τ1 e1 q1 c3 τ2 e2 q2)
    · refine pGo (s_iload_n dX11_readLine_86 rfl) ?_
      refine p_ifeq (tgt := 98) dX11_readLine_87 (by decide) (g3 c1 τ1 e1 q1 c4) (fun c5 => ?_) (fun c6 => ?_)
      · refine pGo (s_aload_n dX11_readLine_98 rfl (by decide)) ?_
        refine pGo (s_aload_n dX11_readLine_99 rfl (by decide)) ?_
        refine pGo (s_iconst dX11_readLine_100) ?_
        refine p_callV (As := [(0, (-1))]) (st := [(2, 68)]) (n := 1) (d' := 2) (Q1 := Q3) pc11 ok_X11_point ml_X11_335 im_X11_point se_X11_point dX11_readLine_101 (ob_68 S1) (pargs_of rfl) rfl (Nat.le_of_ble_eq_true rfl) (by omega) (f3 c1 τ1 e1 q1 c4 c5) (fun r3 τ3 e3 q3 w3 => ?_)
        obtain ⟨v3, rfl⟩ := w3
        have S3 : Stat τ3 := (Stat.le (σ := τ1) S1 e3)
        show pR mX11_readLine d 104 [(2, 68), (0, x1), (0, x2)] [(0, v3), (2, 68)] τ3 Q
        refine pGo (s_putI pc11 fl_X11_354 dX11_readLine_104 (ob_68 S3) rfl rfl rfl rfl) ?_
        refine pGo (s_aload_n dX11_readLine_107 rfl (by decide)) ?_
        refine pGo (s_iconst dX11_readLine_108) ?_
        refine pGo (s_putZ pc11 fl_X11_346 dX11_readLine_109 (ob_68 S3) rfl rfl rfl rfl (by decide)) ?_
        exact (k2 c1 τ1 e1 q1 c4 c5 v3 τ3 e3 q3)
      · refine pGo (s_aload_n dX11_readLine_90 rfl (by decide)) ?_
        refine pGo (s_iload_n dX11_readLine_91 rfl) ?_
        refine p_callV (As := [(0, x1)]) (st := []) (n := 1) (d' := 3) (Q1 := Q4) pc11 ok_X11_readWay ml_X11_350 im_X11_readWay se_X11_readWay dX11_readLine_92 (ob_68 S1) (pargs_of rfl) rfl (Nat.le_of_ble_eq_true rfl) (by omega) (f4 c1 τ1 e1 q1 c4 c6) (fun r4 τ4 e4 q4 w4 => ?_)
        obtain rfl : r4 = none := w4
        have S4 : Stat τ4 := (Stat.le (σ := τ1) S1 e4)
        show pR mX11_readLine d 95 [(2, 68), (0, x1), (0, x2)] [] τ4 Q
        refine pGo (s_goto (tgt := 112) dX11_readLine_95 (by decide)) ?_
        exact (k3 c1 τ1 e1 q1 c4 c6 τ4 e4 q4)
  · exact pEnd (r := none) dX11_readLine_77 rfl (k4 c2)
set_option maxRecDepth 100000 in
theorem g_X11_readLine_112 {d : Nat} {σ : pS} {Q : Option pV → pS → Prop} {Q1 : Option pV → pS → Prop} (hd : 4 ≤ d) (hst : Stat σ) (x1 : Int) (x2 : Int)  (g1 : inR (rd σ 68 2)) (k1 : ∀ (c1 : (rd σ 68 2) ≠ 0), pR mX11_readLine d 133 [(2, 68), (0, x1), (0, x2)] [] σ Q) (g2 : ∀ (c2 : (rd σ 68 2) = 0), inR (rd σ 68 6)) (k2 : ∀ (c2 : (rd σ 68 2) = 0) (c3 : (rd σ 68 6) = 59), pR mX11_readLine d 133 [(2, 68), (0, x1), (0, x2)] [] σ Q) (f1 : ∀ (c2 : (rd σ 68 2) = 0) (c4 : (rd σ 68 6) ≠ 59), pC mX11_wrong 0 [(2, 68), (0, 2)] σ Q1) (k3 : ∀ (c2 : (rd σ 68 2) = 0) (c4 : (rd σ 68 6) ≠ 59) (τ1 : pS) (e1 : pLe σ τ1) (q1 : Q1 none τ1), pR mX11_readLine d 133 [(2, 68), (0, x1), (0, x2)] [] τ1 Q) : pR mX11_readLine d 112 [(2, 68), (0, x1), (0, x2)] [] σ Q := by
  refine pGo (s_aload_n dX11_readLine_112 rfl (by decide)) ?_
  refine pGoE (y := (rd σ 68 2)) (s_getI pc11 fl_X11_273 dX11_readLine_113 (ob_68 hst) rfl (by decide)) rfl ?_
  refine p_ifne (tgt := 133) dX11_readLine_116 (by decide) g1 (fun c1 => ?_) (fun c2 => ?_)
  · exact (k1 c1)
  · refine pGo (s_aload_n dX11_readLine_119 rfl (by decide)) ?_
    refine pGoE (y := (rd σ 68 6)) (s_getI pc11 fl_X11_260 dX11_readLine_120 (ob_68 hst) rfl (by decide)) rfl ?_
    refine pGo (s_bipush dX11_readLine_123 (by decide)) ?_
    refine p_iceq (tgt := 133) dX11_readLine_125 (by decide) (g2 c2) (by decide) (fun c3 => ?_) (fun c4 => ?_)
    · exact (k2 c2 c3)
    · refine pGo (s_aload_n dX11_readLine_128 rfl (by decide)) ?_
      refine pGo (s_iconst dX11_readLine_129) ?_
      refine p_callV (As := [(0, 2)]) (st := []) (n := 1) (d' := 0) (Q1 := Q1) pc11 ok_X11_wrong ml_X11_316 im_X11_wrong se_X11_wrong dX11_readLine_130 (ob_68 hst) (pargs_of rfl) rfl (Nat.le_of_ble_eq_true rfl) (by omega) (f1 c2 c4) (fun r1 τ1 e1 q1 w1 => ?_)
      obtain rfl : r1 = none := w1
      have S1 : Stat τ1 := (Stat.le (σ := σ) hst e1)
      show pR mX11_readLine d 133 [(2, 68), (0, x1), (0, x2)] [] τ1 Q
      exact (k3 c2 c4 τ1 e1 q1)
set_option maxRecDepth 100000 in
theorem g_X11_readLine_133 {d : Nat} {σ : pS} {Q : Option pV → pS → Prop} {Q1 : Option pV → pS → Prop} (hd : 4 ≤ d) (hst : Stat σ) (x1 : Int) (x2 : Int)  (g1 : inR (rd σ 68 2)) (f1 : ∀ (c1 : (rd σ 68 2) ≤ 0), pC mX11_next 1 [(2, 68)] σ Q1) (k1 : ∀ (c1 : (rd σ 68 2) ≤ 0) (τ1 : pS) (e1 : pLe σ τ1) (q1 : Q1 none τ1), Q none (wr τ1 68 20 ((rd τ1 68 20) + 1))) (k2 : ∀ (c2 : 0 < (rd σ 68 2)), Q none σ) : pR mX11_readLine d 133 [(2, 68), (0, x1), (0, x2)] [] σ Q := by
  refine pGo (s_aload_n dX11_readLine_133 rfl (by decide)) ?_
  refine pGoE (y := (rd σ 68 2)) (s_getI pc11 fl_X11_273 dX11_readLine_134 (ob_68 hst) rfl (by decide)) rfl ?_
  refine p_ifle (tgt := 141) dX11_readLine_137 (by decide) g1 (fun c1 => ?_) (fun c2 => ?_)
  · refine pGo (s_aload_n dX11_readLine_141 rfl (by decide)) ?_
    refine p_callV (As := []) (st := []) (n := 0) (d' := 1) (Q1 := Q1) pc11 ok_X11_next ml_X11_319 im_X11_next se_X11_next dX11_readLine_142 (ob_68 hst) (pargs_of rfl) rfl (Nat.le_of_ble_eq_true rfl) (by omega) (f1 c1) (fun r1 τ1 e1 q1 w1 => ?_)
    obtain rfl : r1 = none := w1
    have S1 : Stat τ1 := (Stat.le (σ := σ) hst e1)
    show pR mX11_readLine d 145 [(2, 68), (0, x1), (0, x2)] [] τ1 Q
    refine pGo (s_aload_n dX11_readLine_145 rfl (by decide)) ?_
    refine pGo (s_dup dX11_readLine_146 (by decide)) ?_
    refine pGoE (y := (rd τ1 68 20)) (s_getI pc11 fl_X11_357 dX11_readLine_147 (ob_68 S1) rfl (by decide)) rfl ?_
    refine pGo (s_iconst dX11_readLine_150) ?_
    refine pGo (s_iadd dX11_readLine_151) ?_
    refine pGo (s_putI pc11 fl_X11_357 dX11_readLine_152 (ob_68 S1) rfl rfl rfl rfl) ?_
    exact pEnd (r := none) dX11_readLine_155 rfl (k1 c1 τ1 e1 q1)
  · exact pEnd (r := none) dX11_readLine_140 rfl (k2 c2)
set_option maxRecDepth 100000 in
theorem g_X11_mountain_0 {d : Nat} {σ : pS} {Q : Option pV → pS → Prop} {Q1 : Option pV → pS → Prop} (hd : 5 ≤ d) (hst : Stat σ)   (f1 : pC mX11_begin 2 [(2, 68)] (wr (wr (wr (wr (wr σ 68 17 0) 68 18 0) 68 19 0) 68 20 0) 68 21 0) Q1) (k1 : ∀ (τ1 : pS) (e1 : pLe (wr (wr (wr (wr (wr σ 68 17 0) 68 18 0) 68 19 0) 68 20 0) 68 21 0) τ1) (q1 : Q1 none τ1), pR mX11_mountain d 29 [(2, 68), (9, 0)] [] τ1 Q) : pC mX11_mountain d [(2, 68)] σ Q := by
  show pR mX11_mountain d 0 [(2, 68), (9, 0)] [] σ Q
  refine pGo (s_aload_n dX11_mountain_0 rfl (by decide)) ?_
  refine pGo (s_iconst dX11_mountain_1) ?_
  refine pGo (s_putI pc11 fl_X11_322 dX11_mountain_2 (ob_68 hst) rfl rfl rfl rfl) ?_
  refine pGo (s_aload_n dX11_mountain_5 rfl (by decide)) ?_
  refine pGo (s_iconst dX11_mountain_6) ?_
  refine pGo (s_putI pc11 fl_X11_325 dX11_mountain_7 (ob_68 hst) rfl rfl rfl rfl) ?_
  refine pGo (s_aload_n dX11_mountain_10 rfl (by decide)) ?_
  refine pGo (s_iconst dX11_mountain_11) ?_
  refine pGo (s_putI pc11 fl_X11_354 dX11_mountain_12 (ob_68 hst) rfl rfl rfl rfl) ?_
  refine pGo (s_aload_n dX11_mountain_15 rfl (by decide)) ?_
  refine pGo (s_iconst dX11_mountain_16) ?_
  refine pGo (s_putI pc11 fl_X11_357 dX11_mountain_17 (ob_68 hst) rfl rfl rfl rfl) ?_
  refine pGo (s_aload_n dX11_mountain_20 rfl (by decide)) ?_
  refine pGo (s_iconst dX11_mountain_21) ?_
  refine pGo (s_putZ pc11 fl_X11_346 dX11_mountain_22 (ob_68 hst) rfl rfl rfl rfl (by decide)) ?_
  refine pGo (s_aload_n dX11_mountain_25 rfl (by decide)) ?_
  refine p_callV (As := []) (st := []) (n := 0) (d' := 2) (Q1 := Q1) pc11 ok_X11_begin ml_X11_360 im_X11_begin se_X11_begin dX11_mountain_26 (ob_68 hst) (pargs_of rfl) rfl (Nat.le_of_ble_eq_true rfl) (by omega) f1 (fun r1 τ1 e1 q1 w1 => ?_)
  obtain rfl : r1 = none := w1
  have S1 : Stat τ1 := (Stat.le (σ := (wr (wr (wr (wr (wr σ 68 17 0) 68 18 0) 68 19 0) 68 20 0) 68 21 0)) hst e1)
  show pR mX11_mountain d 29 [(2, 68), (9, 0)] [] τ1 Q
  exact (k1 τ1 e1 q1)
set_option maxRecDepth 100000 in
theorem g_X11_mountain_29 {d : Nat} {σ : pS} {Q : Option pV → pS → Prop} {Q1 : Option pV → pS → Prop} (hd : 5 ≤ d) (hst : Stat σ) (u1 : pV) (hu1 : u1.1 ≠ 1) (g1 : inR (rd σ 68 2)) (k1 : ∀ (c1 : (rd σ 68 2) ≠ 0) (c3 : (rd σ 68 2) ≤ 0), pR mX11_mountain d 61 [(2, 68), (0, 0)] [] σ Q) (k2 : ∀ (c1 : (rd σ 68 2) ≠ 0) (c4 : 0 < (rd σ 68 2)), Q (some (0, (-1))) σ) (g2 : ∀ (c2 : (rd σ 68 2) = 0), inR (rd σ 68 6)) (k3 : ∀ (c2 : (rd σ 68 2) = 0) (c5 : (rd σ 68 6) = 0) (c7 : (rd σ 68 2) ≤ 0), pR mX11_mountain d 61 [(2, 68), (0, 0)] [] σ Q) (k4 : ∀ (c2 : (rd σ 68 2) = 0) (c5 : (rd σ 68 6) = 0) (c8 : 0 < (rd σ 68 2)), Q (some (0, (-1))) σ) (f1 : ∀ (c2 : (rd σ 68 2) = 0) (c6 : (rd σ 68 6) ≠ 0), pC mX11_readLine 4 [(2, 68)] σ Q1) (k5 : ∀ (c2 : (rd σ 68 2) = 0) (c6 : (rd σ 68 6) ≠ 0) (τ1 : pS) (e1 : pLe σ τ1) (q1 : Q1 none τ1), pR mX11_mountain d 29 [(2, 68), u1] [] τ1 Q) : pR mX11_mountain d 29 [(2, 68), u1] [] σ Q := by
  refine pGo (s_aload_n dX11_mountain_29 rfl (by decide)) ?_
  refine pGoE (y := (rd σ 68 2)) (s_getI pc11 fl_X11_273 dX11_mountain_30 (ob_68 hst) rfl (by decide)) rfl ?_
  refine p_ifne (tgt := 50) dX11_mountain_33 (by decide) g1 (fun c1 => ?_) (fun c2 => ?_)
  · refine pGo (s_aload_n dX11_mountain_50 rfl (by decide)) ?_
    refine pGoE (y := (rd σ 68 2)) (s_getI pc11 fl_X11_273 dX11_mountain_51 (ob_68 hst) rfl (by decide)) rfl ?_
    refine p_ifle (tgt := 59) dX11_mountain_54 (by decide) g1 (fun c3 => ?_) (fun c4 => ?_)
    · refine pGo (s_iconst dX11_mountain_59) ?_
      refine pGoL (ls2 := [(2, 68), (0, 0)]) (s_istore_n dX11_mountain_60 (by decide) rfl) rfl ?_
      exact (k1 c1 c3)
    · refine pGo (s_iconst dX11_mountain_57) ?_
      exact pEnd (r := (some (0, (-1)))) dX11_mountain_58 ⟨_, rfl⟩ (k2 c1 c4)
  · refine pGo (s_aload_n dX11_mountain_36 rfl (by decide)) ?_
    refine pGoE (y := (rd σ 68 6)) (s_getI pc11 fl_X11_260 dX11_mountain_37 (ob_68 hst) rfl (by decide)) rfl ?_
    refine p_ifeq (tgt := 50) dX11_mountain_40 (by decide) (g2 c2) (fun c5 => ?_) (fun c6 => ?_)
    · refine pGo (s_aload_n dX11_mountain_50 rfl (by decide)) ?_
      refine pGoE (y := (rd σ 68 2)) (s_getI pc11 fl_X11_273 dX11_mountain_51 (ob_68 hst) rfl (by decide)) rfl ?_
      refine p_ifle (tgt := 59) dX11_mountain_54 (by decide) g1 (fun c7 => ?_) (fun c8 => ?_)
      · refine pGo (s_iconst dX11_mountain_59) ?_
        refine pGoL (ls2 := [(2, 68), (0, 0)]) (s_istore_n dX11_mountain_60 (by decide) rfl) rfl ?_
        exact (k3 c2 c5 c7)
      · refine pGo (s_iconst dX11_mountain_57) ?_
        exact pEnd (r := (some (0, (-1)))) dX11_mountain_58 ⟨_, rfl⟩ (k4 c2 c5 c8)
    · refine pGo (s_aload_n dX11_mountain_43 rfl (by decide)) ?_
      refine p_callV (As := []) (st := []) (n := 0) (d' := 4) (Q1 := Q1) pc11 ok_X11_readLine ml_X11_363 im_X11_readLine se_X11_readLine dX11_mountain_44 (ob_68 hst) (pargs_of rfl) rfl (Nat.le_of_ble_eq_true rfl) (by omega) (f1 c2 c6) (fun r1 τ1 e1 q1 w1 => ?_)
      obtain rfl : r1 = none := w1
      have S1 : Stat τ1 := (Stat.le (σ := σ) hst e1)
      show pR mX11_mountain d 47 [(2, 68), u1] [] τ1 Q
      refine pGo (s_goto (tgt := 29) dX11_mountain_47 (by decide)) ?_
      exact (k5 c2 c6 τ1 e1 q1)
set_option maxRecDepth 100000 in
theorem g_X11_mountain_61 {d : Nat} {σ : pS} {Q : Option pV → pS → Prop} (hd : 5 ≤ d) (hst : Stat σ) (x1 : Int)  (g1 : inR x1) (k1 : ∀ (c1 : 13 ≤ x1), pR mX11_mountain d 207 [(2, 68), (0, 0)] [] (wr (wr (wr (wr (wr (wr σ 68 30 (rd σ 68 17)) 68 31 (rd σ 68 18)) 68 32 (rd σ 68 19)) 68 33 (rd σ 68 20)) 68 65 0) 68 78 0) Q) (g2 : ∀ (c2 : x1 < 13), 0 ≤ x1 ∧ x1 < 13) (k2 : ∀ (c2 : x1 < 13) (c3 : 6 ≤ x1), pR mX11_mountain d 61 [(2, 68), (0, (x1 + 1))] [] (wr (wr (wr (wr (wr (wr σ 77 x1 (rd σ 71 x1)) 78 x1 (rd σ 72 x1)) 79 x1 (rd σ 73 x1)) 80 x1 (rd σ 74 x1)) 81 x1 (rd σ 75 x1)) 82 x1 (rd σ 76 x1)) Q) (g3 : ∀ (c2 : x1 < 13) (c4 : x1 < 6), 0 ≤ x1 ∧ x1 < 6) (k3 : ∀ (c2 : x1 < 13) (c4 : x1 < 6), pR mX11_mountain d 61 [(2, 68), (0, (x1 + 1))] [] (wr (wr (wr (wr (wr (wr (wr σ 77 x1 (rd σ 71 x1)) 78 x1 (rd σ 72 x1)) 79 x1 (rd σ 73 x1)) 80 x1 (rd σ 74 x1)) 81 x1 (rd σ 75 x1)) 82 x1 (rd σ 76 x1)) 84 x1 (i_and (rd σ 83 x1) 1)) Q) : pR mX11_mountain d 61 [(2, 68), (0, x1)] [] σ Q := by
  refine pGo (s_iload_n dX11_mountain_61 rfl) ?_
  refine pGo (s_bipush dX11_mountain_62 (by decide)) ?_
  refine p_icge (tgt := 163) dX11_mountain_64 (by decide) g1 (by decide) (fun c1 => ?_) (fun c2 => ?_)
  · refine pGo (s_aload_n dX11_mountain_163 rfl (by decide)) ?_
    refine pGo (s_aload_n dX11_mountain_164 rfl (by decide)) ?_
    refine pGoE (y := (rd σ 68 17)) (s_getI pc11 fl_X11_322 dX11_mountain_165 (ob_68 hst) rfl (by decide)) rfl ?_
    refine pGo (s_putI pc11 fl_X11_366 dX11_mountain_168 (ob_68 hst) rfl rfl rfl rfl) ?_
    refine pGo (s_aload_n dX11_mountain_171 rfl (by decide)) ?_
    refine pGo (s_aload_n dX11_mountain_172 rfl (by decide)) ?_
    refine pGoE (y := (rd σ 68 18)) (s_getI pc11 fl_X11_325 dX11_mountain_173 (ob_68 hst) rfl (by decide)) (rd_wr_i _ (by decide)) ?_
    refine pGo (s_putI pc11 fl_X11_369 dX11_mountain_176 (ob_68 hst) rfl rfl rfl rfl) ?_
    refine pGo (s_aload_n dX11_mountain_179 rfl (by decide)) ?_
    refine pGo (s_aload_n dX11_mountain_180 rfl (by decide)) ?_
    refine pGoE (y := (rd σ 68 19)) (s_getI pc11 fl_X11_354 dX11_mountain_181 (ob_68 hst) rfl (by decide)) ((rd_wr_i _ (by decide)).trans (rd_wr_i _ (by decide))) ?_
    refine pGo (s_putI pc11 fl_X11_372 dX11_mountain_184 (ob_68 hst) rfl rfl rfl rfl) ?_
    refine pGo (s_aload_n dX11_mountain_187 rfl (by decide)) ?_
    refine pGo (s_aload_n dX11_mountain_188 rfl (by decide)) ?_
    refine pGoE (y := (rd σ 68 20)) (s_getI pc11 fl_X11_357 dX11_mountain_189 (ob_68 hst) rfl (by decide)) ((rd_wr_i _ (by decide)).trans ((rd_wr_i _ (by decide)).trans (rd_wr_i _ (by decide)))) ?_
    refine pGo (s_putI pc11 fl_X11_375 dX11_mountain_192 (ob_68 hst) rfl rfl rfl rfl) ?_
    refine pGo (s_aload_n dX11_mountain_195 rfl (by decide)) ?_
    refine pGo (s_iconst dX11_mountain_196) ?_
    refine pGo (s_putI pc11 fl_X11_378 dX11_mountain_197 (ob_68 hst) rfl rfl rfl rfl) ?_
    refine pGo (s_aload_n dX11_mountain_200 rfl (by decide)) ?_
    refine pGo (s_iconst dX11_mountain_201) ?_
    refine pGo (s_putZ pc11 fl_X11_381 dX11_mountain_202 (ob_68 hst) rfl rfl rfl rfl (by decide)) ?_
    refine pGo (s_iconst dX11_mountain_205) ?_
    refine pGoL (ls2 := [(2, 68), (0, 0)]) (s_istore_n dX11_mountain_206 (by decide) rfl) rfl ?_
    exact (k1 c1)
  · refine pGo (s_aload_n dX11_mountain_67 rfl (by decide)) ?_
    refine pGoE (y := 77) (s_getF pc11 fl_X11_39 dX11_mountain_68 (ob_68 hst) rfl (by decide)) (by decide) ?_
    refine pGo (s_iload_n dX11_mountain_71 rfl) ?_
    refine pGo (s_aload_n dX11_mountain_72 rfl (by decide)) ?_
    refine pGoE (y := 71) (s_getF pc11 fl_X11_21 dX11_mountain_73 (ob_68 hst) rfl (by decide)) (by decide) ?_
    refine pGo (s_iload_n dX11_mountain_76 rfl) ?_
    refine pGoE (y := (rd σ 71 x1)) (s_iald dX11_mountain_77 (ob_71 hst) (bnd (g2 c2))) rfl ?_
    refine pGo (s_iast dX11_mountain_78 (ob_77 hst) (bnd (g2 c2))) ?_
    refine pGo (s_aload_n dX11_mountain_79 rfl (by decide)) ?_
    refine pGoE (y := 78) (s_getF pc11 fl_X11_42 dX11_mountain_80 (ob_68 hst) rfl (by decide)) (by decide) ?_
    refine pGo (s_iload_n dX11_mountain_83 rfl) ?_
    refine pGo (s_aload_n dX11_mountain_84 rfl (by decide)) ?_
    refine pGoE (y := 72) (s_getF pc11 fl_X11_24 dX11_mountain_85 (ob_68 hst) rfl (by decide)) (by decide) ?_
    refine pGo (s_iload_n dX11_mountain_88 rfl) ?_
    refine pGoE (y := (rd σ 72 x1)) (s_iald dX11_mountain_89 (ob_72 hst) (bnd (g2 c2))) (rd_wr_a _ (by decide)) ?_
    refine pGo (s_iast dX11_mountain_90 (ob_78 hst) (bnd (g2 c2))) ?_
    refine pGo (s_aload_n dX11_mountain_91 rfl (by decide)) ?_
    refine pGoE (y := 79) (s_getF pc11 fl_X11_45 dX11_mountain_92 (ob_68 hst) rfl (by decide)) (by decide) ?_
    refine pGo (s_iload_n dX11_mountain_95 rfl) ?_
    refine pGo (s_aload_n dX11_mountain_96 rfl (by decide)) ?_
    refine pGoE (y := 73) (s_getF pc11 fl_X11_27 dX11_mountain_97 (ob_68 hst) rfl (by decide)) (by decide) ?_
    refine pGo (s_iload_n dX11_mountain_100 rfl) ?_
    refine pGoE (y := (rd σ 73 x1)) (s_iald dX11_mountain_101 (ob_73 hst) (bnd (g2 c2))) ((rd_wr_a _ (by decide)).trans (rd_wr_a _ (by decide))) ?_
    refine pGo (s_iast dX11_mountain_102 (ob_79 hst) (bnd (g2 c2))) ?_
    refine pGo (s_aload_n dX11_mountain_103 rfl (by decide)) ?_
    refine pGoE (y := 80) (s_getF pc11 fl_X11_48 dX11_mountain_104 (ob_68 hst) rfl (by decide)) (by decide) ?_
    refine pGo (s_iload_n dX11_mountain_107 rfl) ?_
    refine pGo (s_aload_n dX11_mountain_108 rfl (by decide)) ?_
    refine pGoE (y := 74) (s_getF pc11 fl_X11_30 dX11_mountain_109 (ob_68 hst) rfl (by decide)) (by decide) ?_
    refine pGo (s_iload_n dX11_mountain_112 rfl) ?_
    refine pGoE (y := (rd σ 74 x1)) (s_iald dX11_mountain_113 (ob_74 hst) (bnd (g2 c2))) ((rd_wr_a _ (by decide)).trans ((rd_wr_a _ (by decide)).trans (rd_wr_a _ (by decide)))) ?_
    refine pGo (s_iast dX11_mountain_114 (ob_80 hst) (bnd (g2 c2))) ?_
    refine pGo (s_aload_n dX11_mountain_115 rfl (by decide)) ?_
    refine pGoE (y := 81) (s_getF pc11 fl_X11_51 dX11_mountain_116 (ob_68 hst) rfl (by decide)) (by decide) ?_
    refine pGo (s_iload_n dX11_mountain_119 rfl) ?_
    refine pGo (s_aload_n dX11_mountain_120 rfl (by decide)) ?_
    refine pGoE (y := 75) (s_getF pc11 fl_X11_33 dX11_mountain_121 (ob_68 hst) rfl (by decide)) (by decide) ?_
    refine pGo (s_iload_n dX11_mountain_124 rfl) ?_
    refine pGoE (y := (rd σ 75 x1)) (s_iald dX11_mountain_125 (ob_75 hst) (bnd (g2 c2))) ((rd_wr_a _ (by decide)).trans ((rd_wr_a _ (by decide)).trans ((rd_wr_a _ (by decide)).trans (rd_wr_a _ (by decide))))) ?_
    refine pGo (s_iast dX11_mountain_126 (ob_81 hst) (bnd (g2 c2))) ?_
    refine pGo (s_aload_n dX11_mountain_127 rfl (by decide)) ?_
    refine pGoE (y := 82) (s_getF pc11 fl_X11_54 dX11_mountain_128 (ob_68 hst) rfl (by decide)) (by decide) ?_
    refine pGo (s_iload_n dX11_mountain_131 rfl) ?_
    refine pGo (s_aload_n dX11_mountain_132 rfl (by decide)) ?_
    refine pGoE (y := 76) (s_getF pc11 fl_X11_36 dX11_mountain_133 (ob_68 hst) rfl (by decide)) (by decide) ?_
    refine pGo (s_iload_n dX11_mountain_136 rfl) ?_
    refine pGoE (y := (rd σ 76 x1)) (s_iald dX11_mountain_137 (ob_76 hst) (bnd (g2 c2))) ((rd_wr_a _ (by decide)).trans ((rd_wr_a _ (by decide)).trans ((rd_wr_a _ (by decide)).trans ((rd_wr_a _ (by decide)).trans (rd_wr_a _ (by decide)))))) ?_
    refine pGo (s_iast dX11_mountain_138 (ob_82 hst) (bnd (g2 c2))) ?_
    refine pGo (s_iload_n dX11_mountain_139 rfl) ?_
    refine pGo (s_bipush dX11_mountain_140 (by decide)) ?_
    refine p_icge (tgt := 157) dX11_mountain_142 (by decide) g1 (by decide) (fun c3 => ?_) (fun c4 => ?_)
    · refine pGoL (ls2 := [(2, 68), (0, (x1 + 1))]) (s_iinc dX11_mountain_157 (by decide) rfl rfl) rfl ?_
      refine pGo (s_goto (tgt := 61) dX11_mountain_160 (by decide)) ?_
      exact (k2 c2 c3)
    · refine pGo (s_aload_n dX11_mountain_145 rfl (by decide)) ?_
      refine pGoE (y := 84) (s_getF pc11 fl_X11_61 dX11_mountain_146 (ob_68 hst) rfl (by decide)) (by decide) ?_
      refine pGo (s_iload_n dX11_mountain_149 rfl) ?_
      refine pGo (s_aload_n dX11_mountain_150 rfl (by decide)) ?_
      refine pGoE (y := 83) (s_getF pc11 fl_X11_57 dX11_mountain_151 (ob_68 hst) rfl (by decide)) (by decide) ?_
      refine pGo (s_iload_n dX11_mountain_154 rfl) ?_
      refine pGoE (y := (rd σ 83 x1)) (s_zald dX11_mountain_155 (ob_83 hst) (bnd (g3 c2 c4))) ((rd_wr_a _ (by decide)).trans ((rd_wr_a _ (by decide)).trans ((rd_wr_a _ (by decide)).trans ((rd_wr_a _ (by decide)).trans ((rd_wr_a _ (by decide)).trans (rd_wr_a _ (by decide))))))) ?_
      refine pGo (s_zastA dX11_mountain_156 (ob_84 hst) (bnd (g3 c2 c4))) ?_
      refine pGoL (ls2 := [(2, 68), (0, (x1 + 1))]) (s_iinc dX11_mountain_157 (by decide) rfl rfl) rfl ?_
      refine pGo (s_goto (tgt := 61) dX11_mountain_160 (by decide)) ?_
      exact (k3 c2 c4)
set_option maxRecDepth 100000 in
theorem g_X11_mountain_207 {d : Nat} {σ : pS} {Q : Option pV → pS → Prop} (hd : 5 ≤ d) (hst : Stat σ) (x1 : Int)  (g1 : inR x1) (k1 : ∀ (c1 : 10 ≤ x1), pR mX11_mountain d 228 [(2, 68), (0, 0)] [] σ Q) (g2 : ∀ (c2 : x1 < 10), 0 ≤ x1 ∧ x1 < 10) (k2 : ∀ (c2 : x1 < 10), pR mX11_mountain d 207 [(2, 68), (0, (x1 + 1))] [] (wr σ 121 x1 0) Q) : pR mX11_mountain d 207 [(2, 68), (0, x1)] [] σ Q := by
  refine pGo (s_iload_n dX11_mountain_207 rfl) ?_
  refine pGo (s_bipush dX11_mountain_208 (by decide)) ?_
  refine p_icge (tgt := 226) dX11_mountain_210 (by decide) g1 (by decide) (fun c1 => ?_) (fun c2 => ?_)
  · refine pGo (s_iconst dX11_mountain_226) ?_
    refine pGoL (ls2 := [(2, 68), (0, 0)]) (s_istore_n dX11_mountain_227 (by decide) rfl) rfl ?_
    exact (k1 c1)
  · refine pGo (s_aload_n dX11_mountain_213 rfl (by decide)) ?_
    refine pGoE (y := 121) (s_getF pc11 fl_X11_172 dX11_mountain_214 (ob_68 hst) rfl (by decide)) (by decide) ?_
    refine pGo (s_iload_n dX11_mountain_217 rfl) ?_
    refine pGo (s_iconst dX11_mountain_218) ?_
    refine pGo (s_iast dX11_mountain_219 (ob_121 hst) (bnd (g2 c2))) ?_
    refine pGoL (ls2 := [(2, 68), (0, (x1 + 1))]) (s_iinc dX11_mountain_220 (by decide) rfl rfl) rfl ?_
    refine pGo (s_goto (tgt := 207) dX11_mountain_223 (by decide)) ?_
    exact (k2 c2)
set_option maxRecDepth 100000 in
theorem g_X11_mountain_228 {d : Nat} {σ : pS} {Q : Option pV → pS → Prop} {Q1 : Option pV → pS → Prop} (hd : 5 ≤ d) (hst : Stat σ) (x1 : Int)  (g1 : inR x1) (f1 : ∀ (c1 : 7 ≤ x1), pC mX11_measure 1 [(2, 68)] σ Q1) (k1 : ∀ (c1 : 7 ≤ x1) (τ1 : pS) (e1 : pLe σ τ1) (q1 : Q1 none τ1), Q (some (0, (rd τ1 68 33))) τ1) (g2 : ∀ (c2 : x1 < 7), 0 ≤ x1 ∧ x1 < 7) (k2 : ∀ (c2 : x1 < 7), pR mX11_mountain d 228 [(2, 68), (0, (x1 + 1))] [] (wr σ 123 x1 0) Q) : pR mX11_mountain d 228 [(2, 68), (0, x1)] [] σ Q := by
  refine pGo (s_iload_n dX11_mountain_228 rfl) ?_
  refine pGo (s_bipush dX11_mountain_229 (by decide)) ?_
  refine p_icge (tgt := 247) dX11_mountain_231 (by decide) g1 (by decide) (fun c1 => ?_) (fun c2 => ?_)
  · refine pGo (s_aload_n dX11_mountain_247 rfl (by decide)) ?_
    refine p_callV (As := []) (st := []) (n := 0) (d' := 1) (Q1 := Q1) pc11 ok_X11_measure ml_X11_384 im_X11_measure se_X11_measure dX11_mountain_248 (ob_68 hst) (pargs_of rfl) rfl (Nat.le_of_ble_eq_true rfl) (by omega) (f1 c1) (fun r1 τ1 e1 q1 w1 => ?_)
    obtain rfl : r1 = none := w1
    have S1 : Stat τ1 := (Stat.le (σ := σ) hst e1)
    show pR mX11_mountain d 251 [(2, 68), (0, x1)] [] τ1 Q
    refine pGo (s_aload_n dX11_mountain_251 rfl (by decide)) ?_
    refine pGoE (y := (rd τ1 68 33)) (s_getI pc11 fl_X11_375 dX11_mountain_252 (ob_68 S1) rfl (by decide)) rfl ?_
    exact pEnd (r := (some (0, (rd τ1 68 33)))) dX11_mountain_255 ⟨_, rfl⟩ (k1 c1 τ1 e1 q1)
  · refine pGo (s_aload_n dX11_mountain_234 rfl (by decide)) ?_
    refine pGoE (y := 123) (s_getF pc11 fl_X11_178 dX11_mountain_235 (ob_68 hst) rfl (by decide)) (by decide) ?_
    refine pGo (s_iload_n dX11_mountain_238 rfl) ?_
    refine pGo (s_iconst dX11_mountain_239) ?_
    refine pGo (s_iast dX11_mountain_240 (ob_123 hst) (bnd (g2 c2))) ?_
    refine pGoL (ls2 := [(2, 68), (0, (x1 + 1))]) (s_iinc dX11_mountain_241 (by decide) rfl rfl) rfl ?_
    refine pGo (s_goto (tgt := 228) dX11_mountain_244 (by decide)) ?_
    exact (k2 c2)
