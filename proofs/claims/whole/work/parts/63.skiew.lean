/-! walks: the class reckons a skier -/
set_option maxRecDepth 100000 in
theorem g_X5_findPasses_0 {d : Nat} {σ : pS} {Q : Option pV → pS → Prop} {Q1 : Option pV → pS → Prop} (hd : 1 ≤ d) (hst : Stat σ) (a0 : Int) (x2 : Int) (Ia0 : Inst5 σ a0) (f1 : pC mJ7_fill_53178 0 [(2, (a0 + 1)), (0, (-1))] σ Q1) (k1 : ∀ (τ1 : pS) (e1 : pLe σ τ1) (q1 : Q1 none τ1), pR mX5_findPasses d 10 [(2, a0), (2, 29), (0, x2), (0, 0), (9, 0), (9, 0), (9, 0)] [] τ1 Q) : pC mX5_findPasses d [(2, a0), (2, 29), (0, x2)] σ Q := by
  show pR mX5_findPasses d 0 [(2, a0), (2, 29), (0, x2), (9, 0), (9, 0), (9, 0), (9, 0)] [] σ Q
  refine pGo (s_aload_n dX5_findPasses_0 rfl Ia0.pos) ?_
  refine pGo (s_getF pc5 fl_X5_9 dX5_findPasses_1 Ia0.o0 rfl (by decide)) ?_
  refine pGo (s_iconst dX5_findPasses_4) ?_
  refine p_callS (As := [(2, (a0 + 1)), (0, (-1))]) (st := []) (n := 2) (d' := 0) (Q1 := Q1) ok_J7_fill_53178 ml_X5_76 sm_J7_fill_53178 dX5_findPasses_5 (pargs_of rfl) rfl (Nat.le_of_ble_eq_true rfl) (by omega) f1 (fun r1 τ1 e1 q1 w1 => ?_)
  obtain rfl : r1 = none := w1
  have S1 : Stat τ1 := (Stat.le (σ := σ) hst e1)
  have J1_0 : Inst5 τ1 a0 := Inst5.le (σ := σ) Ia0 e1
  show pR mX5_findPasses d 8 [(2, a0), (2, 29), (0, x2), (9, 0), (9, 0), (9, 0), (9, 0)] [] τ1 Q
  refine pGo (s_iconst dX5_findPasses_8) ?_
  refine pGoL (ls2 := [(2, a0), (2, 29), (0, x2), (0, 0), (9, 0), (9, 0), (9, 0)]) (s_istore_n dX5_findPasses_9 (by decide) rfl) rfl ?_
  exact (k1 τ1 e1 q1)
set_option maxRecDepth 100000 in
theorem g_X5_findPasses_10 {d : Nat} {σ : pS} {Q : Option pV → pS → Prop} (hd : 1 ≤ d) (hst : Stat σ) (x0 : Int) (x2 : Int) (x3 : Int) (u4 : pV) (u5 : pV) (u6 : pV) (Ix0 : Inst5 σ x0) (hu4 : u4.1 ≠ 1) (hu5 : u5.1 ≠ 1) (hu6 : u6.1 ≠ 1) (g1 : inR x3) (g2 : inR (rd σ 29 5)) (k1 : ∀ (c1 : (rd σ 29 5) ≤ x3), Q none σ) (g3 : ∀ (c2 : x3 < (rd σ 29 5)), 0 ≤ x3 ∧ x3 < 100) (g4 : ∀ (c2 : x3 < (rd σ 29 5)), inR (rd σ 32 x3)) (g5 : ∀ (c2 : x3 < (rd σ 29 5)), inR x2) (k2 : ∀ (c2 : x3 < (rd σ 29 5)) (c3 : (rd σ 32 x3) ≠ x2), pR mX5_findPasses d 10 [(2, x0), (2, 29), (0, x2), (0, (x3 + 1)), u4, u5, u6] [] σ Q) (f1 : ∀ (c2 : x3 < (rd σ 29 5)) (c4 : (rd σ 32 x3) = x2), pC mX8_counts 0 [(2, 29), (0, x3), (0, (rd σ x0 8))] σ (fun r τ => r = some (0, b2i (vCounts (rd σ (29 + 1) x3) (rd σ (29 + 2) x3) (rd σ x0 8))) ∧ τ = σ)) (k3 : ∀ (c2 : x3 < (rd σ 29 5)) (c4 : (rd σ 32 x3) = x2) (c5 : (vCounts (rd σ (29 + 1) x3) (rd σ (29 + 2) x3) (rd σ x0 8)) = false), pR mX5_findPasses d 10 [(2, x0), (2, 29), (0, x2), (0, (x3 + 1)), u4, u5, u6] [] σ Q) (g6 : ∀ (c2 : x3 < (rd σ 29 5)) (c4 : (rd σ 32 x3) = x2) (c6 : (vCounts (rd σ (29 + 1) x3) (rd σ (29 + 2) x3) (rd σ x0 8)) = true), 0 ≤ (rd σ 34 x3) ∧ (rd σ 34 x3) < 480) (g7 : ∀ (c2 : x3 < (rd σ 29 5)) (c4 : (rd σ 32 x3) = x2) (c6 : (vCounts (rd σ (29 + 1) x3) (rd σ (29 + 2) x3) (rd σ x0 8)) = true), inR (rd σ (x0 + 1) (rd σ 34 x3))) (k4 : ∀ (c2 : x3 < (rd σ 29 5)) (c4 : (rd σ 32 x3) = x2) (c6 : (vCounts (rd σ (29 + 1) x3) (rd σ (29 + 2) x3) (rd σ x0 8)) = true) (c7 : (rd σ (x0 + 1) (rd σ 34 x3)) = (-1)), pR mX5_findPasses d 10 [(2, x0), (2, 29), (0, x2), (0, (x3 + 1)), (0, (rd σ 33 x3)), (0, (rd σ 34 x3)), (0, 1)] [] (wr σ (x0 + 1) (rd σ 34 x3) (rd σ 33 x3)) Q) (g8 : ∀ (c2 : x3 < (rd σ 29 5)) (c4 : (rd σ 32 x3) = x2) (c6 : (vCounts (rd σ (29 + 1) x3) (rd σ (29 + 2) x3) (rd σ x0 8)) = true) (c8 : (rd σ (x0 + 1) (rd σ 34 x3)) ≠ (-1)), inR (rd σ 33 x3)) (k5 : ∀ (c2 : x3 < (rd σ 29 5)) (c4 : (rd σ 32 x3) = x2) (c6 : (vCounts (rd σ (29 + 1) x3) (rd σ (29 + 2) x3) (rd σ x0 8)) = true) (c8 : (rd σ (x0 + 1) (rd σ 34 x3)) ≠ (-1)) (c9 : (rd σ (x0 + 1) (rd σ 34 x3)) ≠ (rd σ 33 x3)), pR mX5_findPasses d 10 [(2, x0), (2, 29), (0, x2), (0, (x3 + 1)), (0, (rd σ 33 x3)), (0, (rd σ 34 x3)), (0, 0)] [] (wr σ (x0 + 1) (rd σ 34 x3) (-2)) Q) (k6 : ∀ (c2 : x3 < (rd σ 29 5)) (c4 : (rd σ 32 x3) = x2) (c6 : (vCounts (rd σ (29 + 1) x3) (rd σ (29 + 2) x3) (rd σ x0 8)) = true) (c8 : (rd σ (x0 + 1) (rd σ 34 x3)) ≠ (-1)) (c10 : (rd σ (x0 + 1) (rd σ 34 x3)) = (rd σ 33 x3)), pR mX5_findPasses d 10 [(2, x0), (2, 29), (0, x2), (0, (x3 + 1)), (0, (rd σ 33 x3)), (0, (rd σ 34 x3)), (0, 1)] [] (wr σ (x0 + 1) (rd σ 34 x3) (rd σ 33 x3)) Q) : pR mX5_findPasses d 10 [(2, x0), (2, 29), (0, x2), (0, x3), u4, u5, u6] [] σ Q := by
  refine pGo (s_iload_n dX5_findPasses_10 rfl) ?_
  refine pGo (s_aload_n dX5_findPasses_11 rfl (by decide)) ?_
  refine pGoE (y := (rd σ 29 5)) (s_getI pc8 fl_X5_82 dX5_findPasses_12 (ob_29 hst) rfl (by decide)) rfl ?_
  refine p_icge (tgt := 111) dX5_findPasses_15 (by decide) g1 g2 (fun c1 => ?_) (fun c2 => ?_)
  · exact pEnd (r := none) dX5_findPasses_111 rfl (k1 c1)
  · refine pGo (s_aload_n dX5_findPasses_18 rfl (by decide)) ?_
    refine pGoE (y := 32) (s_getF pc8 fl_X5_87 dX5_findPasses_19 (ob_29 hst) rfl (by decide)) (by decide) ?_
    refine pGo (s_iload_n dX5_findPasses_22 rfl) ?_
    refine pGoE (y := (rd σ 32 x3)) (s_iald dX5_findPasses_23 (ob_32 hst) (bnd (g3 c2))) rfl ?_
    refine pGo (s_iload_n dX5_findPasses_24 rfl) ?_
    refine p_icne (tgt := 105) dX5_findPasses_25 (by decide) (g4 c2) (g5 c2) (fun c3 => ?_) (fun c4 => ?_)
    · refine pGoL (ls2 := [(2, x0), (2, 29), (0, x2), (0, (x3 + 1)), u4, u5, u6]) (s_iinc dX5_findPasses_105 (by decide) rfl rfl) rfl ?_
      refine pGo (s_goto (tgt := 10) dX5_findPasses_108 (by decide)) ?_
      exact (k2 c2 c3)
    · refine pGo (s_aload_n dX5_findPasses_28 rfl (by decide)) ?_
      refine pGo (s_iload_n dX5_findPasses_29 rfl) ?_
      refine pGo (s_aload_n dX5_findPasses_30 rfl Ix0.pos) ?_
      refine pGoE (y := (rd σ x0 8)) (s_getI pc5 fl_X5_43 dX5_findPasses_31 Ix0.o0 rfl (by decide)) rfl ?_
      refine p_callV (As := [(0, x3), (0, (rd σ x0 8))]) (st := []) (n := 2) (d' := 0) (Q1 := (fun r τ => r = some (0, b2i (vCounts (rd σ (29 + 1) x3) (rd σ (29 + 2) x3) (rd σ x0 8))) ∧ τ = σ)) pc8 ok_X8_counts ml_X5_90 im_X8_counts se_X8_counts dX5_findPasses_34 (ob_29 hst) (pargs_of rfl) rfl (Nat.le_of_ble_eq_true rfl) (by omega) (f1 c2 c4) (fun r1 τ1 e1 q1 w1 => ?_)
      obtain ⟨rfl, t1⟩ := q1
      rw [t1]
      show pR mX5_findPasses d 37 [(2, x0), (2, 29), (0, x2), (0, x3), u4, u5, u6] [(0, (b2i (vCounts (rd σ (29 + 1) x3) (rd σ (29 + 2) x3) (rd σ x0 8))))] σ Q
      refine p_ifeqB (tgt := 105) dX5_findPasses_37 (by decide) (fun c5 => ?_) (fun c6 => ?_)
      · refine pGoL (ls2 := [(2, x0), (2, 29), (0, x2), (0, (x3 + 1)), u4, u5, u6]) (s_iinc dX5_findPasses_105 (by decide) rfl rfl) rfl ?_
        refine pGo (s_goto (tgt := 10) dX5_findPasses_108 (by decide)) ?_
        exact (k3 c2 c4 c5)
      · refine pGo (s_aload_n dX5_findPasses_40 rfl (by decide)) ?_
        refine pGoE (y := 33) (s_getF pc8 fl_X5_93 dX5_findPasses_41 (ob_29 hst) rfl (by decide)) (by decide) ?_
        refine pGo (s_iload_n dX5_findPasses_44 rfl) ?_
        refine pGoE (y := (rd σ 33 x3)) (s_iald dX5_findPasses_45 (ob_33 hst) (bnd (g3 c2))) rfl ?_
        refine pGoL (ls2 := [(2, x0), (2, 29), (0, x2), (0, x3), (0, (rd σ 33 x3)), u5, u6]) (s_istore dX5_findPasses_46 (by decide) rfl) rfl ?_
        refine pGo (s_aload_n dX5_findPasses_48 rfl (by decide)) ?_
        refine pGoE (y := 34) (s_getF pc8 fl_X5_96 dX5_findPasses_49 (ob_29 hst) rfl (by decide)) (by decide) ?_
        refine pGo (s_iload_n dX5_findPasses_52 rfl) ?_
        refine pGoE (y := (rd σ 34 x3)) (s_iald dX5_findPasses_53 (ob_34 hst) (bnd (g3 c2))) rfl ?_
        refine pGoL (ls2 := [(2, x0), (2, 29), (0, x2), (0, x3), (0, (rd σ 33 x3)), (0, (rd σ 34 x3)), u6]) (s_istore dX5_findPasses_54 (by decide) rfl) rfl ?_
        refine pGo (s_aload_n dX5_findPasses_56 rfl Ix0.pos) ?_
        refine pGo (s_getF pc5 fl_X5_9 dX5_findPasses_57 Ix0.o0 rfl (by decide)) ?_
        refine pGo (s_iload dX5_findPasses_60 rfl) ?_
        refine pGoE (y := (rd σ (x0 + 1) (rd σ 34 x3))) (s_iald dX5_findPasses_62 Ix0.o1 (bnd (g6 c2 c4 c6))) rfl ?_
        refine pGo (s_iconst dX5_findPasses_63) ?_
        refine p_iceq (tgt := 79) dX5_findPasses_64 (by decide) (g7 c2 c4 c6) (by decide) (fun c7 => ?_) (fun c8 => ?_)
        · refine pGo (s_iconst dX5_findPasses_79) ?_
          refine pGo (s_goto (tgt := 84) dX5_findPasses_80 (by decide)) ?_
          refine pGoL (ls2 := [(2, x0), (2, 29), (0, x2), (0, x3), (0, (rd σ 33 x3)), (0, (rd σ 34 x3)), (0, 1)]) (s_istore dX5_findPasses_84 (by decide) rfl) rfl ?_
          refine pGo (s_aload_n dX5_findPasses_86 rfl Ix0.pos) ?_
          refine pGo (s_getF pc5 fl_X5_9 dX5_findPasses_87 Ix0.o0 rfl (by decide)) ?_
          refine pGo (s_iload dX5_findPasses_90 rfl) ?_
          refine pGo (s_iload dX5_findPasses_92 rfl) ?_
          refine p_ifeq (tgt := 102) dX5_findPasses_94 (by decide) (by decide) (fun q => absurd q (by decide)) (fun _ => ?_)
          refine pGo (s_iload dX5_findPasses_97 rfl) ?_
          refine pGo (s_goto (tgt := 104) dX5_findPasses_99 (by decide)) ?_
          refine pGo (s_iast dX5_findPasses_104 Ix0.o1 (bnd (g6 c2 c4 c6))) ?_
          refine pGoL (ls2 := [(2, x0), (2, 29), (0, x2), (0, (x3 + 1)), (0, (rd σ 33 x3)), (0, (rd σ 34 x3)), (0, 1)]) (s_iinc dX5_findPasses_105 (by decide) rfl rfl) rfl ?_
          refine pGo (s_goto (tgt := 10) dX5_findPasses_108 (by decide)) ?_
          exact (k4 c2 c4 c6 c7)
        · refine pGo (s_aload_n dX5_findPasses_67 rfl Ix0.pos) ?_
          refine pGo (s_getF pc5 fl_X5_9 dX5_findPasses_68 Ix0.o0 rfl (by decide)) ?_
          refine pGo (s_iload dX5_findPasses_71 rfl) ?_
          refine pGoE (y := (rd σ (x0 + 1) (rd σ 34 x3))) (s_iald dX5_findPasses_73 Ix0.o1 (bnd (g6 c2 c4 c6))) rfl ?_
          refine pGo (s_iload dX5_findPasses_74 rfl) ?_
          refine p_icne (tgt := 83) dX5_findPasses_76 (by decide) (g7 c2 c4 c6) (g8 c2 c4 c6 c8) (fun c9 => ?_) (fun c10 => ?_)
          · refine pGo (s_iconst dX5_findPasses_83) ?_
            refine pGoL (ls2 := [(2, x0), (2, 29), (0, x2), (0, x3), (0, (rd σ 33 x3)), (0, (rd σ 34 x3)), (0, 0)]) (s_istore dX5_findPasses_84 (by decide) rfl) rfl ?_
            refine pGo (s_aload_n dX5_findPasses_86 rfl Ix0.pos) ?_
            refine pGo (s_getF pc5 fl_X5_9 dX5_findPasses_87 Ix0.o0 rfl (by decide)) ?_
            refine pGo (s_iload dX5_findPasses_90 rfl) ?_
            refine pGo (s_iload dX5_findPasses_92 rfl) ?_
            refine p_ifeq (tgt := 102) dX5_findPasses_94 (by decide) (by decide) (fun _ => ?_) (fun q => absurd q (by decide))
            refine pGo (s_bipush dX5_findPasses_102 (by decide)) ?_
            refine pGo (s_iast dX5_findPasses_104 Ix0.o1 (bnd (g6 c2 c4 c6))) ?_
            refine pGoL (ls2 := [(2, x0), (2, 29), (0, x2), (0, (x3 + 1)), (0, (rd σ 33 x3)), (0, (rd σ 34 x3)), (0, 0)]) (s_iinc dX5_findPasses_105 (by decide) rfl rfl) rfl ?_
            refine pGo (s_goto (tgt := 10) dX5_findPasses_108 (by decide)) ?_
            exact (k5 c2 c4 c6 c8 c9)
          · refine pGo (s_iconst dX5_findPasses_79) ?_
            refine pGo (s_goto (tgt := 84) dX5_findPasses_80 (by decide)) ?_
            refine pGoL (ls2 := [(2, x0), (2, 29), (0, x2), (0, x3), (0, (rd σ 33 x3)), (0, (rd σ 34 x3)), (0, 1)]) (s_istore dX5_findPasses_84 (by decide) rfl) rfl ?_
            refine pGo (s_aload_n dX5_findPasses_86 rfl Ix0.pos) ?_
            refine pGo (s_getF pc5 fl_X5_9 dX5_findPasses_87 Ix0.o0 rfl (by decide)) ?_
            refine pGo (s_iload dX5_findPasses_90 rfl) ?_
            refine pGo (s_iload dX5_findPasses_92 rfl) ?_
            refine p_ifeq (tgt := 102) dX5_findPasses_94 (by decide) (by decide) (fun q => absurd q (by decide)) (fun _ => ?_)
            refine pGo (s_iload dX5_findPasses_97 rfl) ?_
            refine pGo (s_goto (tgt := 104) dX5_findPasses_99 (by decide)) ?_
            refine pGo (s_iast dX5_findPasses_104 Ix0.o1 (bnd (g6 c2 c4 c6))) ?_
            refine pGoL (ls2 := [(2, x0), (2, 29), (0, x2), (0, (x3 + 1)), (0, (rd σ 33 x3)), (0, (rd σ 34 x3)), (0, 1)]) (s_iinc dX5_findPasses_105 (by decide) rfl rfl) rfl ?_
            refine pGo (s_goto (tgt := 10) dX5_findPasses_108 (by decide)) ?_
            exact (k6 c2 c4 c6 c8 c10)
set_option maxRecDepth 100000 in
theorem g_X5_findBeginnings_0 {d : Nat} {σ : pS} {Q : Option pV → pS → Prop} (hd : 4 ≤ d) (hst : Stat σ) (a0 : Int) (Ia0 : Inst5 σ a0) (k1 : pR mX5_findBeginnings d 7 [(2, a0), (2, 35), (0, 1000000), (0, 479), (9, 0), (9, 0), (9, 0)] [] σ Q) : pC mX5_findBeginnings d [(2, a0), (2, 35)] σ Q := by
  show pR mX5_findBeginnings d 0 [(2, a0), (2, 35), (9, 0), (9, 0), (9, 0), (9, 0), (9, 0)] [] σ Q
  refine pGo (s_ldc (n := 1000000) dX5_findBeginnings_0 kc_X5_99 (by decide)) ?_
  refine pGoL (ls2 := [(2, a0), (2, 35), (0, 1000000), (9, 0), (9, 0), (9, 0), (9, 0)]) (s_istore_n dX5_findBeginnings_2 (by decide) rfl) rfl ?_
  refine pGo (s_sipush dX5_findBeginnings_3 (by decide)) ?_
  refine pGoL (ls2 := [(2, a0), (2, 35), (0, 1000000), (0, 479), (9, 0), (9, 0), (9, 0)]) (s_istore_n dX5_findBeginnings_6 (by decide) rfl) rfl ?_
  exact k1
set_option maxRecDepth 100000 in
theorem g_X5_findBeginnings_7 {d : Nat} {σ : pS} {Q : Option pV → pS → Prop} (hd : 4 ≤ d) (hst : Stat σ) (x0 : Int) (x2 : Int) (x3 : Int) (u4 : pV) (u5 : pV) (u6 : pV) (Ix0 : Inst5 σ x0) (hu4 : u4.1 ≠ 1) (hu5 : u5.1 ≠ 1) (hu6 : u6.1 ≠ 1) (g1 : inR x3) (k1 : ∀ (c1 : x3 < 0), Q none σ) (k2 : ∀ (c2 : 0 ≤ x3), pR mX5_findBeginnings d 17 [(2, x0), (2, 35), (0, x2), (0, x3), (0, 0), (0, 0), u6] [] σ Q) : pR mX5_findBeginnings d 7 [(2, x0), (2, 35), (0, x2), (0, x3), u4, u5, u6] [] σ Q := by
  refine pGo (s_iload_n dX5_findBeginnings_7 rfl) ?_
  refine p_iflt (tgt := 117) dX5_findBeginnings_8 (by decide) g1 (fun c1 => ?_) (fun c2 => ?_)
  · exact pEnd (r := none) dX5_findBeginnings_117 rfl (k1 c1)
  · refine pGo (s_iconst dX5_findBeginnings_11) ?_
    refine pGoL (ls2 := [(2, x0), (2, 35), (0, x2), (0, x3), (0, 0), u5, u6]) (s_istore dX5_findBeginnings_12 (by decide) rfl) rfl ?_
    refine pGo (s_iconst dX5_findBeginnings_14) ?_
    refine pGoL (ls2 := [(2, x0), (2, 35), (0, x2), (0, x3), (0, 0), (0, 0), u6]) (s_istore dX5_findBeginnings_15 (by decide) rfl) rfl ?_
    exact (k2 c2)
set_option maxRecDepth 100000 in
theorem g_X5_findBeginnings_17 {d : Nat} {σ : pS} {Q : Option pV → pS → Prop} (hd : 4 ≤ d) (hst : Stat σ) (x0 : Int) (x2 : Int) (x3 : Int) (x4 : Int) (x5 : Int) (u6 : pV) (Ix0 : Inst5 σ x0) (hu6 : u6.1 ≠ 1) (g1 : inR x5) (g2 : ∀ (c1 : 17 ≤ x5), 0 ≤ x3 ∧ x3 < 480) (g3 : ∀ (c1 : 17 ≤ x5), inR (rd σ (x0 + 1) x3)) (k1 : ∀ (c1 : 17 ≤ x5) (c3 : (rd σ (x0 + 1) x3) ≠ (-1)), pR mX5_findBeginnings d 7 [(2, x0), (2, 35), (0, x3), (0, (x3 + (-1))), (0, x4), (0, x5), u6] [] (wr σ (x0 + 2) x3 x4) Q) (k2 : ∀ (c1 : 17 ≤ x5) (c4 : (rd σ (x0 + 1) x3) = (-1)), pR mX5_findBeginnings d 7 [(2, x0), (2, 35), (0, x2), (0, (x3 + (-1))), (0, x4), (0, x5), u6] [] (wr σ (x0 + 2) x3 x4) Q) (g4 : ∀ (c2 : x5 < 17), 0 ≤ x5 ∧ x5 < 17) (g5 : ∀ (c2 : x5 < 17), inR (x3 + (rd σ (x0 + 5) x5))) (g6 : ∀ (c2 : x5 < 17), inR x2) (k3 : ∀ (c2 : x5 < 17) (c5 : x2 < (x3 + (rd σ (x0 + 5) x5))), pR mX5_findBeginnings d 17 [(2, x0), (2, 35), (0, x2), (0, x3), (0, x4), (0, (x5 + 1)), (0, 0)] [] σ Q) (f1 : ∀ (c2 : x5 < 17) (c6 : (x3 + (rd σ (x0 + 5) x5)) ≤ x2), pC mX6_has 1 [(2, (rd σ x0 6)), (0, x5)] σ (fun r τ => r = some (0, b2i (vHas (rd σ (rd σ x0 6) 0) (rd σ (rd σ x0 6) 1) x5)) ∧ τ = σ)) (g7 : ∀ (c2 : x5 < 17) (c6 : (x3 + (rd σ (x0 + 5) x5)) ≤ x2), Inst6 σ (rd σ x0 6)) (k4 : ∀ (c2 : x5 < 17) (c6 : (x3 + (rd σ (x0 + 5) x5)) ≤ x2) (c7 : (vHas (rd σ (rd σ x0 6) 0) (rd σ (rd σ x0 6) 1) x5) = false), pR mX5_findBeginnings d 17 [(2, x0), (2, 35), (0, x2), (0, x3), (0, x4), (0, (x5 + 1)), (0, 1)] [] σ Q) (f2 : ∀ (c2 : x5 < 17) (c6 : (x3 + (rd σ (x0 + 5) x5)) ≤ x2) (c8 : (vHas (rd σ (rd σ x0 6) 0) (rd σ (rd σ x0 6) 1) x5) = true), pC mX5_mayBegin 3 [(2, x0), (2, 35), (0, x5), (0, x3)] σ (fun r τ => r = some (0, b2i (vMay σ x0 x5 x3)) ∧ τ = σ)) (k5 : ∀ (c2 : x5 < 17) (c6 : (x3 + (rd σ (x0 + 5) x5)) ≤ x2) (c8 : (vHas (rd σ (rd σ x0 6) 0) (rd σ (rd σ x0 6) 1) x5) = true) (c9 : (vMay σ x0 x5 x3) = false), pR mX5_findBeginnings d 17 [(2, x0), (2, 35), (0, x2), (0, x3), (0, x4), (0, (x5 + 1)), (0, 1)] [] σ Q) (k6 : ∀ (c2 : x5 < 17) (c6 : (x3 + (rd σ (x0 + 5) x5)) ≤ x2) (c8 : (vHas (rd σ (rd σ x0 6) 0) (rd σ (rd σ x0 6) 1) x5) = true) (c10 : (vMay σ x0 x5 x3) = true), pR mX5_findBeginnings d 17 [(2, x0), (2, 35), (0, x2), (0, x3), (0, (i_or x4 (i_shl 1 x5))), (0, (x5 + 1)), (0, 1)] [] σ Q) : pR mX5_findBeginnings d 17 [(2, x0), (2, 35), (0, x2), (0, x3), (0, x4), (0, x5), u6] [] σ Q := by
  refine pGo (s_iload dX5_findBeginnings_17 rfl) ?_
  refine pGo (s_bipush dX5_findBeginnings_19 (by decide)) ?_
  refine p_icge (tgt := 87) dX5_findBeginnings_21 (by decide) g1 (by decide) (fun c1 => ?_) (fun c2 => ?_)
  · refine pGo (s_aload_n dX5_findBeginnings_87 rfl Ix0.pos) ?_
    refine pGo (s_getF pc5 fl_X5_15 dX5_findBeginnings_88 Ix0.o0 rfl (by decide)) ?_
    refine pGo (s_iload_n dX5_findBeginnings_91 rfl) ?_
    refine pGo (s_iload dX5_findBeginnings_92 rfl) ?_
    refine pGo (s_iast dX5_findBeginnings_94 Ix0.o2 (bnd (g2 c1))) ?_
    refine pGo (s_aload_n dX5_findBeginnings_95 rfl Ix0.pos) ?_
    refine pGo (s_getF pc5 fl_X5_9 dX5_findBeginnings_96 Ix0.o0 rfl (by decide)) ?_
    refine pGo (s_iload_n dX5_findBeginnings_99 rfl) ?_
    refine pGoE (y := (rd σ (x0 + 1) x3)) (s_iald dX5_findBeginnings_100 Ix0.o1 (bnd (g2 c1))) (rd_wr_a _ (by omega)) ?_
    refine pGo (s_iconst dX5_findBeginnings_101) ?_
    refine p_icne (tgt := 109) dX5_findBeginnings_102 (by decide) (g3 c1) (by decide) (fun c3 => ?_) (fun c4 => ?_)
    · refine pGo (s_iload_n dX5_findBeginnings_109 rfl) ?_
      refine pGoL (ls2 := [(2, x0), (2, 35), (0, x3), (0, x3), (0, x4), (0, x5), u6]) (s_istore_n dX5_findBeginnings_110 (by decide) rfl) rfl ?_
      refine pGoL (ls2 := [(2, x0), (2, 35), (0, x3), (0, (x3 + (-1))), (0, x4), (0, x5), u6]) (s_iinc dX5_findBeginnings_111 (by decide) rfl rfl) rfl ?_
      refine pGo (s_goto (tgt := 7) dX5_findBeginnings_114 (by decide)) ?_
      exact (k1 c1 c3)
    · refine pGo (s_iload_n dX5_findBeginnings_105 rfl) ?_
      refine pGo (s_goto (tgt := 110) dX5_findBeginnings_106 (by decide)) ?_
      refine pGoL (ls2 := [(2, x0), (2, 35), (0, x2), (0, x3), (0, x4), (0, x5), u6]) (s_istore_n dX5_findBeginnings_110 (by decide) rfl) rfl ?_
      refine pGoL (ls2 := [(2, x0), (2, 35), (0, x2), (0, (x3 + (-1))), (0, x4), (0, x5), u6]) (s_iinc dX5_findBeginnings_111 (by decide) rfl rfl) rfl ?_
      refine pGo (s_goto (tgt := 7) dX5_findBeginnings_114 (by decide)) ?_
      exact (k2 c1 c4)
  · refine pGo (s_iload_n dX5_findBeginnings_24 rfl) ?_
    refine pGo (s_aload_n dX5_findBeginnings_25 rfl Ix0.pos) ?_
    refine pGo (s_getF pc5 fl_X5_24 dX5_findBeginnings_26 Ix0.o0 rfl (by decide)) ?_
    refine pGo (s_iload dX5_findBeginnings_29 rfl) ?_
    refine pGoE (y := (rd σ (x0 + 5) x5)) (s_iald dX5_findBeginnings_31 Ix0.o5 (bnd (g4 c2))) rfl ?_
    refine pGo (s_iadd dX5_findBeginnings_32) ?_
    refine pGo (s_iload_n dX5_findBeginnings_33 rfl) ?_
    refine p_icgt (tgt := 41) dX5_findBeginnings_34 (by decide) (g5 c2) (g6 c2) (fun c5 => ?_) (fun c6 => ?_)
    · refine pGo (s_iconst dX5_findBeginnings_41) ?_
      refine pGoL (ls2 := [(2, x0), (2, 35), (0, x2), (0, x3), (0, x4), (0, x5), (0, 0)]) (s_istore dX5_findBeginnings_42 (by decide) rfl) rfl ?_
      refine pGo (s_iload dX5_findBeginnings_44 rfl) ?_
      refine p_ifeq (tgt := 81) dX5_findBeginnings_46 (by decide) (by decide) (fun _ => ?_) (fun q => absurd q (by decide))
      refine pGoL (ls2 := [(2, x0), (2, 35), (0, x2), (0, x3), (0, x4), (0, (x5 + 1)), (0, 0)]) (s_iinc dX5_findBeginnings_81 (by decide) rfl rfl) rfl ?_
      refine pGo (s_goto (tgt := 17) dX5_findBeginnings_84 (by decide)) ?_
      exact (k3 c2 c5)
    · refine pGo (s_iconst dX5_findBeginnings_37) ?_
      refine pGo (s_goto (tgt := 42) dX5_findBeginnings_38 (by decide)) ?_
      refine pGoL (ls2 := [(2, x0), (2, 35), (0, x2), (0, x3), (0, x4), (0, x5), (0, 1)]) (s_istore dX5_findBeginnings_42 (by decide) rfl) rfl ?_
      refine pGo (s_iload dX5_findBeginnings_44 rfl) ?_
      refine p_ifeq (tgt := 81) dX5_findBeginnings_46 (by decide) (by decide) (fun q => absurd q (by decide)) (fun _ => ?_)
      refine pGo (s_aload_n dX5_findBeginnings_49 rfl Ix0.pos) ?_
      refine pGoE (y := (rd σ x0 6)) (s_getR pc5 fl_X5_34 dX5_findBeginnings_50 Ix0.o0 rfl rfl) rfl ?_
      refine pGo (s_iload dX5_findBeginnings_53 rfl) ?_
      refine p_callV (As := [(0, x5)]) (st := []) (n := 1) (d' := 1) (Q1 := (fun r τ => r = some (0, b2i (vHas (rd σ (rd σ x0 6) 0) (rd σ (rd σ x0 6) 1) x5)) ∧ τ = σ)) pc6 ok_X6_has ml_X5_100 im_X6_has se_X6_has dX5_findBeginnings_55 (g7 c2 c6).o0 (pargs_of rfl) rfl (Nat.le_of_ble_eq_true rfl) (by omega) (f1 c2 c6) (fun r1 τ1 e1 q1 w1 => ?_)
      obtain ⟨rfl, t1⟩ := q1
      rw [t1]
      show pR mX5_findBeginnings d 58 [(2, x0), (2, 35), (0, x2), (0, x3), (0, x4), (0, x5), (0, 1)] [(0, (b2i (vHas (rd σ (rd σ x0 6) 0) (rd σ (rd σ x0 6) 1) x5)))] σ Q
      refine p_ifeqB (tgt := 81) dX5_findBeginnings_58 (by decide) (fun c7 => ?_) (fun c8 => ?_)
      · refine pGoL (ls2 := [(2, x0), (2, 35), (0, x2), (0, x3), (0, x4), (0, (x5 + 1)), (0, 1)]) (s_iinc dX5_findBeginnings_81 (by decide) rfl rfl) rfl ?_
        refine pGo (s_goto (tgt := 17) dX5_findBeginnings_84 (by decide)) ?_
        exact (k4 c2 c6 c7)
      · refine pGo (s_aload_n dX5_findBeginnings_61 rfl Ix0.pos) ?_
        refine pGo (s_aload_n dX5_findBeginnings_62 rfl (by decide)) ?_
        refine pGo (s_iload dX5_findBeginnings_63 rfl) ?_
        refine pGo (s_iload_n dX5_findBeginnings_65 rfl) ?_
        refine p_callV (As := [(2, 35), (0, x5), (0, x3)]) (st := []) (n := 3) (d' := 3) (Q1 := (fun r τ => r = some (0, b2i (vMay σ x0 x5 x3)) ∧ τ = σ)) pc5 ok_X5_mayBegin ml_X5_104 im_X5_mayBegin se_X5_mayBegin dX5_findBeginnings_66 Ix0.o0 (pargs_of rfl) rfl (Nat.le_of_ble_eq_true rfl) (by omega) (f2 c2 c6 c8) (fun r2 τ2 e2 q2 w2 => ?_)
        obtain ⟨rfl, t2⟩ := q2
        rw [t2]
        show pR mX5_findBeginnings d 69 [(2, x0), (2, 35), (0, x2), (0, x3), (0, x4), (0, x5), (0, 1)] [(0, (b2i (vMay σ x0 x5 x3)))] σ Q
        refine p_ifeqB (tgt := 81) dX5_findBeginnings_69 (by decide) (fun c9 => ?_) (fun c10 => ?_)
        · refine pGoL (ls2 := [(2, x0), (2, 35), (0, x2), (0, x3), (0, x4), (0, (x5 + 1)), (0, 1)]) (s_iinc dX5_findBeginnings_81 (by decide) rfl rfl) rfl ?_
          refine pGo (s_goto (tgt := 17) dX5_findBeginnings_84 (by decide)) ?_
          exact (k5 c2 c6 c8 c9)
        · refine pGo (s_iload dX5_findBeginnings_72 rfl) ?_
          refine pGo (s_iconst dX5_findBeginnings_74) ?_
          refine pGo (s_iload dX5_findBeginnings_75 rfl) ?_
          refine pGo (s_ishl dX5_findBeginnings_77) ?_
          refine pGo (s_ior dX5_findBeginnings_78) ?_
          refine pGoL (ls2 := [(2, x0), (2, 35), (0, x2), (0, x3), (0, (i_or x4 (i_shl 1 x5))), (0, x5), (0, 1)]) (s_istore dX5_findBeginnings_79 (by decide) rfl) rfl ?_
          refine pGoL (ls2 := [(2, x0), (2, 35), (0, x2), (0, x3), (0, (i_or x4 (i_shl 1 x5))), (0, (x5 + 1)), (0, 1)]) (s_iinc dX5_findBeginnings_81 (by decide) rfl rfl) rfl ?_
          refine pGo (s_goto (tgt := 17) dX5_findBeginnings_84 (by decide)) ?_
          exact (k6 c2 c6 c8 c10)
set_option maxRecDepth 100000 in
theorem g_X5_findReached_0 {d : Nat} {σ : pS} {Q : Option pV → pS → Prop} {Q1 : Option pV → pS → Prop} (hd : 1 ≤ d) (hst : Stat σ) (a0 : Int) (Ia0 : Inst5 σ a0) (f1 : pC mJ7_fill_53178 0 [(2, (a0 + 3)), (0, 0)] σ Q1) (g1 : ∀ (τ1 : pS) (e1 : pLe σ τ1) (q1 : Q1 none τ1), Inst6 τ1 (rd τ1 a0 6)) (k1 : ∀ (τ1 : pS) (e1 : pLe σ τ1) (q1 : Q1 none τ1), pR mX5_findReached d 25 [(2, a0), (0, 0), (9, 0), (9, 0), (9, 0)] [] (wr τ1 (a0 + 3) 0 (i_shl 1 (rd τ1 (rd τ1 a0 6) 3))) Q) : pC mX5_findReached d [(2, a0)] σ Q := by
  show pR mX5_findReached d 0 [(2, a0), (9, 0), (9, 0), (9, 0), (9, 0)] [] σ Q
  refine pGo (s_aload_n dX5_findReached_0 rfl Ia0.pos) ?_
  refine pGo (s_getF pc5 fl_X5_18 dX5_findReached_1 Ia0.o0 rfl (by decide)) ?_
  refine pGo (s_iconst dX5_findReached_4) ?_
  refine p_callS (As := [(2, (a0 + 3)), (0, 0)]) (st := []) (n := 2) (d' := 0) (Q1 := Q1) ok_J7_fill_53178 ml_X5_76 sm_J7_fill_53178 dX5_findReached_5 (pargs_of rfl) rfl (Nat.le_of_ble_eq_true rfl) (by omega) f1 (fun r1 τ1 e1 q1 w1 => ?_)
  obtain rfl : r1 = none := w1
  have S1 : Stat τ1 := (Stat.le (σ := σ) hst e1)
  have J1_0 : Inst5 τ1 a0 := Inst5.le (σ := σ) Ia0 e1
  show pR mX5_findReached d 8 [(2, a0), (9, 0), (9, 0), (9, 0), (9, 0)] [] τ1 Q
  refine pGo (s_aload_n dX5_findReached_8 rfl J1_0.pos) ?_
  refine pGo (s_getF pc5 fl_X5_18 dX5_findReached_9 J1_0.o0 rfl (by decide)) ?_
  refine pGo (s_iconst dX5_findReached_12) ?_
  refine pGo (s_iconst dX5_findReached_13) ?_
  refine pGo (s_aload_n dX5_findReached_14 rfl J1_0.pos) ?_
  refine pGoE (y := (rd τ1 a0 6)) (s_getR pc5 fl_X5_34 dX5_findReached_15 J1_0.o0 rfl rfl) rfl ?_
  refine pGoE (y := (rd τ1 (rd τ1 a0 6) 3)) (s_getI pc6 fl_X5_118 dX5_findReached_18 (g1 τ1 e1 q1).o0 rfl (by decide)) rfl ?_
  refine pGo (s_ishl dX5_findReached_21) ?_
  refine pGo (s_iast dX5_findReached_22 J1_0.o3 (by decide)) ?_
  refine pGo (s_iconst dX5_findReached_23) ?_
  refine pGoL (ls2 := [(2, a0), (0, 0), (9, 0), (9, 0), (9, 0)]) (s_istore_n dX5_findReached_24 (by decide) rfl) rfl ?_
  exact (k1 τ1 e1 q1)
set_option maxRecDepth 100000 in
theorem g_X5_findReached_25 {d : Nat} {σ : pS} {Q : Option pV → pS → Prop} (hd : 1 ≤ d) (hst : Stat σ) (x0 : Int) (x1 : Int) (u2 : pV) (u3 : pV) (u4 : pV) (Ix0 : Inst5 σ x0) (hu2 : u2.1 ≠ 1) (hu3 : u3.1 ≠ 1) (hu4 : u4.1 ≠ 1) (g1 : inR x1) (k1 : ∀ (c1 : 540 ≤ x1), Q none σ) (g2 : ∀ (c2 : x1 < 540), 0 ≤ x1 ∧ x1 < 541) (f1 : ∀ (c2 : x1 < 540), pC mX5_mayStay 0 [(2, x0), (0, x1)] σ (fun r τ => r = some (0, b2i (vStay σ x0 x1)) ∧ τ = σ)) (k2 : ∀ (c2 : x1 < 540) (c3 : (vStay σ x0 x1) = false) (c5 : 480 ≤ x1), pR mX5_findReached d 84 [(2, x0), (0, x1), (0, (rd σ (x0 + 3) x1)), (0, 0), (0, 0)] [] σ Q) (g3 : ∀ (c2 : x1 < 540) (c3 : (vStay σ x0 x1) = false) (c6 : x1 < 480), inR (rd σ (x0 + 3) x1)) (k3 : ∀ (c2 : x1 < 540) (c3 : (vStay σ x0 x1) = false) (c6 : x1 < 480) (c7 : (rd σ (x0 + 3) x1) = 0), pR mX5_findReached d 84 [(2, x0), (0, x1), (0, (rd σ (x0 + 3) x1)), (0, 0), (0, 0)] [] σ Q) (g4 : ∀ (c2 : x1 < 540) (c3 : (vStay σ x0 x1) = false) (c6 : x1 < 480) (c8 : (rd σ (x0 + 3) x1) ≠ 0), 0 ≤ x1 ∧ x1 < 480) (k4 : ∀ (c2 : x1 < 540) (c3 : (vStay σ x0 x1) = false) (c6 : x1 < 480) (c8 : (rd σ (x0 + 3) x1) ≠ 0), pR mX5_findReached d 84 [(2, x0), (0, x1), (0, (rd σ (x0 + 3) x1)), (0, (rd σ (x0 + 2) x1)), (0, 0)] [] σ Q) (g5 : ∀ (c2 : x1 < 540) (c4 : (vStay σ x0 x1) = true), 0 ≤ (x1 + 1) ∧ (x1 + 1) < 541) (k5 : ∀ (c2 : x1 < 540) (c4 : (vStay σ x0 x1) = true) (c9 : 480 ≤ x1), pR mX5_findReached d 84 [(2, x0), (0, x1), (0, (rd σ (x0 + 3) x1)), (0, 0), (0, 0)] [] (wr σ (x0 + 3) (x1 + 1) (i_or (rd σ (x0 + 3) (x1 + 1)) (rd σ (x0 + 3) x1))) Q) (g6 : ∀ (c2 : x1 < 540) (c4 : (vStay σ x0 x1) = true) (c10 : x1 < 480), inR (rd σ (x0 + 3) x1)) (k6 : ∀ (c2 : x1 < 540) (c4 : (vStay σ x0 x1) = true) (c10 : x1 < 480) (c11 : (rd σ (x0 + 3) x1) = 0), pR mX5_findReached d 84 [(2, x0), (0, x1), (0, (rd σ (x0 + 3) x1)), (0, 0), (0, 0)] [] (wr σ (x0 + 3) (x1 + 1) (i_or (rd σ (x0 + 3) (x1 + 1)) (rd σ (x0 + 3) x1))) Q) (g7 : ∀ (c2 : x1 < 540) (c4 : (vStay σ x0 x1) = true) (c10 : x1 < 480) (c12 : (rd σ (x0 + 3) x1) ≠ 0), 0 ≤ x1 ∧ x1 < 480) (k7 : ∀ (c2 : x1 < 540) (c4 : (vStay σ x0 x1) = true) (c10 : x1 < 480) (c12 : (rd σ (x0 + 3) x1) ≠ 0), pR mX5_findReached d 84 [(2, x0), (0, x1), (0, (rd σ (x0 + 3) x1)), (0, (rd σ (x0 + 2) x1)), (0, 0)] [] (wr σ (x0 + 3) (x1 + 1) (i_or (rd σ (x0 + 3) (x1 + 1)) (rd σ (x0 + 3) x1))) Q) : pR mX5_findReached d 25 [(2, x0), (0, x1), u2, u3, u4] [] σ Q := by
  refine pGo (s_iload_n dX5_findReached_25 rfl) ?_
  refine pGo (s_sipush dX5_findReached_26 (by decide)) ?_
  refine p_icge (tgt := 161) dX5_findReached_29 (by decide) g1 (by decide) (fun c1 => ?_) (fun c2 => ?_)
  · exact pEnd (r := none) dX5_findReached_161 rfl (k1 c1)
  · refine pGo (s_aload_n dX5_findReached_32 rfl Ix0.pos) ?_
    refine pGo (s_getF pc5 fl_X5_18 dX5_findReached_33 Ix0.o0 rfl (by decide)) ?_
    refine pGo (s_iload_n dX5_findReached_36 rfl) ?_
    refine pGoE (y := (rd σ (x0 + 3) x1)) (s_iald dX5_findReached_37 Ix0.o3 (bnd (g2 c2))) rfl ?_
    refine pGoL (ls2 := [(2, x0), (0, x1), (0, (rd σ (x0 + 3) x1)), u3, u4]) (s_istore_n dX5_findReached_38 (by decide) rfl) rfl ?_
    refine pGo (s_aload_n dX5_findReached_39 rfl Ix0.pos) ?_
    refine pGo (s_iload_n dX5_findReached_40 rfl) ?_
    refine p_callV (As := [(0, x1)]) (st := []) (n := 1) (d' := 0) (Q1 := (fun r τ => r = some (0, b2i (vStay σ x0 x1)) ∧ τ = σ)) pc5 ok_X5_mayStay ml_X5_121 im_X5_mayStay se_X5_mayStay dX5_findReached_41 Ix0.o0 (pargs_of rfl) rfl (Nat.le_of_ble_eq_true rfl) (by omega) (f1 c2) (fun r1 τ1 e1 q1 w1 => ?_)
    obtain ⟨rfl, t1⟩ := q1
    rw [t1]
    show pR mX5_findReached d 44 [(2, x0), (0, x1), (0, (rd σ (x0 + 3) x1)), u3, u4] [(0, (b2i (vStay σ x0 x1)))] σ Q
    refine p_ifeqB (tgt := 59) dX5_findReached_44 (by decide) (fun c3 => ?_) (fun c4 => ?_)
    · refine pGo (s_iload_n dX5_findReached_59 rfl) ?_
      refine pGo (s_sipush dX5_findReached_60 (by decide)) ?_
      refine p_icge (tgt := 79) dX5_findReached_63 (by decide) g1 (by decide) (fun c5 => ?_) (fun c6 => ?_)
      · refine pGo (s_iconst dX5_findReached_79) ?_
        refine pGoL (ls2 := [(2, x0), (0, x1), (0, (rd σ (x0 + 3) x1)), (0, 0), u4]) (s_istore_n dX5_findReached_80 (by decide) rfl) rfl ?_
        refine pGo (s_iconst dX5_findReached_81) ?_
        refine pGoL (ls2 := [(2, x0), (0, x1), (0, (rd σ (x0 + 3) x1)), (0, 0), (0, 0)]) (s_istore dX5_findReached_82 (by decide) rfl) rfl ?_
        exact (k2 c2 c3 c5)
      · refine pGo (s_iload_n dX5_findReached_66 rfl) ?_
        refine p_ifeq (tgt := 79) dX5_findReached_67 (by decide) (g3 c2 c3 c6) (fun c7 => ?_) (fun c8 => ?_)
        · refine pGo (s_iconst dX5_findReached_79) ?_
          refine pGoL (ls2 := [(2, x0), (0, x1), (0, (rd σ (x0 + 3) x1)), (0, 0), u4]) (s_istore_n dX5_findReached_80 (by decide) rfl) rfl ?_
          refine pGo (s_iconst dX5_findReached_81) ?_
          refine pGoL (ls2 := [(2, x0), (0, x1), (0, (rd σ (x0 + 3) x1)), (0, 0), (0, 0)]) (s_istore dX5_findReached_82 (by decide) rfl) rfl ?_
          exact (k3 c2 c3 c6 c7)
        · refine pGo (s_aload_n dX5_findReached_70 rfl Ix0.pos) ?_
          refine pGo (s_getF pc5 fl_X5_15 dX5_findReached_71 Ix0.o0 rfl (by decide)) ?_
          refine pGo (s_iload_n dX5_findReached_74 rfl) ?_
          refine pGoE (y := (rd σ (x0 + 2) x1)) (s_iald dX5_findReached_75 Ix0.o2 (bnd (g4 c2 c3 c6 c8))) rfl ?_
          refine pGo (s_goto (tgt := 80) dX5_findReached_76 (by decide)) ?_
          refine pGoL (ls2 := [(2, x0), (0, x1), (0, (rd σ (x0 + 3) x1)), (0, (rd σ (x0 + 2) x1)), u4]) (s_istore_n dX5_findReached_80 (by decide) rfl) rfl ?_
          refine pGo (s_iconst dX5_findReached_81) ?_
          refine pGoL (ls2 := [(2, x0), (0, x1), (0, (rd σ (x0 + 3) x1)), (0, (rd σ (x0 + 2) x1)), (0, 0)]) (s_istore dX5_findReached_82 (by decide) rfl) rfl ?_
          exact (k4 c2 c3 c6 c8)
    · refine pGo (s_aload_n dX5_findReached_47 rfl Ix0.pos) ?_
      refine pGo (s_getF pc5 fl_X5_18 dX5_findReached_48 Ix0.o0 rfl (by decide)) ?_
      refine pGo (s_iload_n dX5_findReached_51 rfl) ?_
      refine pGo (s_iconst dX5_findReached_52) ?_
      refine pGo (s_iadd dX5_findReached_53) ?_
      refine pGo (s_dup2 dX5_findReached_54 (show (0 : Nat) ≠ 1 by decide) (show (2 : Nat) ≠ 1 by decide)) ?_
      refine pGoE (y := (rd σ (x0 + 3) (x1 + 1))) (s_iald dX5_findReached_55 Ix0.o3 (bnd (g5 c2 c4))) rfl ?_
      refine pGo (s_iload_n dX5_findReached_56 rfl) ?_
      refine pGo (s_ior dX5_findReached_57) ?_
      refine pGo (s_iast dX5_findReached_58 Ix0.o3 (bnd (g5 c2 c4))) ?_
      refine pGo (s_iload_n dX5_findReached_59 rfl) ?_
      refine pGo (s_sipush dX5_findReached_60 (by decide)) ?_
      refine p_icge (tgt := 79) dX5_findReached_63 (by decide) g1 (by decide) (fun c9 => ?_) (fun c10 => ?_)
      · refine pGo (s_iconst dX5_findReached_79) ?_
        refine pGoL (ls2 := [(2, x0), (0, x1), (0, (rd σ (x0 + 3) x1)), (0, 0), u4]) (s_istore_n dX5_findReached_80 (by decide) rfl) rfl ?_
        refine pGo (s_iconst dX5_findReached_81) ?_
        refine pGoL (ls2 := [(2, x0), (0, x1), (0, (rd σ (x0 + 3) x1)), (0, 0), (0, 0)]) (s_istore dX5_findReached_82 (by decide) rfl) rfl ?_
        exact (k5 c2 c4 c9)
      · refine pGo (s_iload_n dX5_findReached_66 rfl) ?_
        refine p_ifeq (tgt := 79) dX5_findReached_67 (by decide) (g6 c2 c4 c10) (fun c11 => ?_) (fun c12 => ?_)
        · refine pGo (s_iconst dX5_findReached_79) ?_
          refine pGoL (ls2 := [(2, x0), (0, x1), (0, (rd σ (x0 + 3) x1)), (0, 0), u4]) (s_istore_n dX5_findReached_80 (by decide) rfl) rfl ?_
          refine pGo (s_iconst dX5_findReached_81) ?_
          refine pGoL (ls2 := [(2, x0), (0, x1), (0, (rd σ (x0 + 3) x1)), (0, 0), (0, 0)]) (s_istore dX5_findReached_82 (by decide) rfl) rfl ?_
          exact (k6 c2 c4 c10 c11)
        · refine pGo (s_aload_n dX5_findReached_70 rfl Ix0.pos) ?_
          refine pGo (s_getF pc5 fl_X5_15 dX5_findReached_71 Ix0.o0 rfl (by decide)) ?_
          refine pGo (s_iload_n dX5_findReached_74 rfl) ?_
          refine pGoE (y := (rd σ (x0 + 2) x1)) (s_iald dX5_findReached_75 Ix0.o2 (bnd (g7 c2 c4 c10 c12))) (rd_wr_a _ (by omega)) ?_
          refine pGo (s_goto (tgt := 80) dX5_findReached_76 (by decide)) ?_
          refine pGoL (ls2 := [(2, x0), (0, x1), (0, (rd σ (x0 + 3) x1)), (0, (rd σ (x0 + 2) x1)), u4]) (s_istore_n dX5_findReached_80 (by decide) rfl) rfl ?_
          refine pGo (s_iconst dX5_findReached_81) ?_
          refine pGoL (ls2 := [(2, x0), (0, x1), (0, (rd σ (x0 + 3) x1)), (0, (rd σ (x0 + 2) x1)), (0, 0)]) (s_istore dX5_findReached_82 (by decide) rfl) rfl ?_
          exact (k7 c2 c4 c10 c12)
set_option maxRecDepth 100000 in
theorem g_X5_findReached_84 {d : Nat} {σ : pS} {Q : Option pV → pS → Prop} (hd : 1 ≤ d) (hst : Stat σ) (x0 : Int) (x1 : Int) (x2 : Int) (x3 : Int) (x4 : Int) (Ix0 : Inst5 σ x0) (g1 : inR x4) (k1 : ∀ (c1 : 17 ≤ x4), pR mX5_findReached d 25 [(2, x0), (0, (x1 + 1)), (0, x2), (0, x3), (0, x4)] [] σ Q) (g2 : ∀ (c2 : x4 < 17), inR (i_shr x3 x4)) (k2 : ∀ (c2 : x4 < 17) (c3 : (i_shr x3 x4) = 0), pR mX5_findReached d 25 [(2, x0), (0, (x1 + 1)), (0, x2), (0, x3), (0, x4)] [] σ Q) (g3 : ∀ (c2 : x4 < 17) (c4 : (i_shr x3 x4) ≠ 0), Inst6 σ (rd σ x0 6)) (g4 : ∀ (c2 : x4 < 17) (c4 : (i_shr x3 x4) ≠ 0), 0 ≤ x4 ∧ x4 < 17) (g5 : ∀ (c2 : x4 < 17) (c4 : (i_shr x3 x4) ≠ 0), inR (i_and (i_and (i_shr x3 x4) (i_shr x2 (rd σ ((rd σ x0 6) + 2) x4))) 1)) (k3 : ∀ (c2 : x4 < 17) (c4 : (i_shr x3 x4) ≠ 0) (c5 : (i_and (i_and (i_shr x3 x4) (i_shr x2 (rd σ ((rd σ x0 6) + 2) x4))) 1) = 0), pR mX5_findReached d 84 [(2, x0), (0, x1), (0, x2), (0, x3), (0, (x4 + 1))] [] σ Q) (g6 : ∀ (c2 : x4 < 17) (c4 : (i_shr x3 x4) ≠ 0) (c6 : (i_and (i_and (i_shr x3 x4) (i_shr x2 (rd σ ((rd σ x0 6) + 2) x4))) 1) ≠ 0), 0 ≤ (x1 + (rd σ (x0 + 5) x4)) ∧ (x1 + (rd σ (x0 + 5) x4)) < 541) (k4 : ∀ (c2 : x4 < 17) (c4 : (i_shr x3 x4) ≠ 0) (c6 : (i_and (i_and (i_shr x3 x4) (i_shr x2 (rd σ ((rd σ x0 6) + 2) x4))) 1) ≠ 0), pR mX5_findReached d 84 [(2, x0), (0, x1), (0, x2), (0, x3), (0, (x4 + 1))] [] (wr σ (x0 + 3) (x1 + (rd σ (x0 + 5) x4)) (i_or (rd σ (x0 + 3) (x1 + (rd σ (x0 + 5) x4))) (i_shl 1 (rd σ ((rd σ x0 6) + 3) x4)))) Q) : pR mX5_findReached d 84 [(2, x0), (0, x1), (0, x2), (0, x3), (0, x4)] [] σ Q := by
  refine pGo (s_iload dX5_findReached_84 rfl) ?_
  refine pGo (s_bipush dX5_findReached_86 (by decide)) ?_
  refine p_icge (tgt := 155) dX5_findReached_88 (by decide) g1 (by decide) (fun c1 => ?_) (fun c2 => ?_)
  · refine pGoL (ls2 := [(2, x0), (0, (x1 + 1)), (0, x2), (0, x3), (0, x4)]) (s_iinc dX5_findReached_155 (by decide) rfl rfl) rfl ?_
    refine pGo (s_goto (tgt := 25) dX5_findReached_158 (by decide)) ?_
    exact (k1 c1)
  · refine pGo (s_iload_n dX5_findReached_91 rfl) ?_
    refine pGo (s_iload dX5_findReached_92 rfl) ?_
    refine pGo (s_ishr dX5_findReached_94) ?_
    refine p_ifeq (tgt := 155) dX5_findReached_95 (by decide) (g2 c2) (fun c3 => ?_) (fun c4 => ?_)
    · refine pGoL (ls2 := [(2, x0), (0, (x1 + 1)), (0, x2), (0, x3), (0, x4)]) (s_iinc dX5_findReached_155 (by decide) rfl rfl) rfl ?_
      refine pGo (s_goto (tgt := 25) dX5_findReached_158 (by decide)) ?_
      exact (k2 c2 c3)
    · refine pGo (s_iload_n dX5_findReached_98 rfl) ?_
      refine pGo (s_iload dX5_findReached_99 rfl) ?_
      refine pGo (s_ishr dX5_findReached_101) ?_
      refine pGo (s_iload_n dX5_findReached_102 rfl) ?_
      refine pGo (s_aload_n dX5_findReached_103 rfl Ix0.pos) ?_
      refine pGoE (y := (rd σ x0 6)) (s_getR pc5 fl_X5_34 dX5_findReached_104 Ix0.o0 rfl rfl) rfl ?_
      refine pGo (s_getF pc6 fl_X5_69 dX5_findReached_107 (g3 c2 c4).o0 rfl (by decide)) ?_
      refine pGo (s_iload dX5_findReached_110 rfl) ?_
      refine pGoE (y := (rd σ ((rd σ x0 6) + 2) x4)) (s_iald dX5_findReached_112 (g3 c2 c4).o2 (bnd (g4 c2 c4))) rfl ?_
      refine pGo (s_ishr dX5_findReached_113) ?_
      refine pGo (s_iand dX5_findReached_114) ?_
      refine pGo (s_iconst dX5_findReached_115) ?_
      refine pGo (s_iand dX5_findReached_116) ?_
      refine p_ifeq (tgt := 149) dX5_findReached_117 (by decide) (g5 c2 c4) (fun c5 => ?_) (fun c6 => ?_)
      · refine pGoL (ls2 := [(2, x0), (0, x1), (0, x2), (0, x3), (0, (x4 + 1))]) (s_iinc dX5_findReached_149 (by decide) rfl rfl) rfl ?_
        refine pGo (s_goto (tgt := 84) dX5_findReached_152 (by decide)) ?_
        exact (k3 c2 c4 c5)
      · refine pGo (s_aload_n dX5_findReached_120 rfl Ix0.pos) ?_
        refine pGo (s_getF pc5 fl_X5_18 dX5_findReached_121 Ix0.o0 rfl (by decide)) ?_
        refine pGo (s_iload_n dX5_findReached_124 rfl) ?_
        refine pGo (s_aload_n dX5_findReached_125 rfl Ix0.pos) ?_
        refine pGo (s_getF pc5 fl_X5_24 dX5_findReached_126 Ix0.o0 rfl (by decide)) ?_
        refine pGo (s_iload dX5_findReached_129 rfl) ?_
        refine pGoE (y := (rd σ (x0 + 5) x4)) (s_iald dX5_findReached_131 Ix0.o5 (bnd (g4 c2 c4))) rfl ?_
        refine pGo (s_iadd dX5_findReached_132) ?_
        refine pGo (s_dup2 dX5_findReached_133 (show (0 : Nat) ≠ 1 by decide) (show (2 : Nat) ≠ 1 by decide)) ?_
        refine pGoE (y := (rd σ (x0 + 3) (x1 + (rd σ (x0 + 5) x4)))) (s_iald dX5_findReached_134 Ix0.o3 (bnd (g6 c2 c4 c6))) rfl ?_
        refine pGo (s_iconst dX5_findReached_135) ?_
        refine pGo (s_aload_n dX5_findReached_136 rfl Ix0.pos) ?_
        refine pGoE (y := (rd σ x0 6)) (s_getR pc5 fl_X5_34 dX5_findReached_137 Ix0.o0 rfl rfl) rfl ?_
        refine pGo (s_getF pc6 fl_X5_124 dX5_findReached_140 (g3 c2 c4).o0 rfl (by decide)) ?_
        refine pGo (s_iload dX5_findReached_143 rfl) ?_
        refine pGoE (y := (rd σ ((rd σ x0 6) + 3) x4)) (s_iald dX5_findReached_145 (g3 c2 c4).o3 (bnd (g4 c2 c4))) rfl ?_
        refine pGo (s_ishl dX5_findReached_146) ?_
        refine pGo (s_ior dX5_findReached_147) ?_
        refine pGo (s_iast dX5_findReached_148 Ix0.o3 (bnd (g6 c2 c4 c6))) ?_
        refine pGoL (ls2 := [(2, x0), (0, x1), (0, x2), (0, x3), (0, (x4 + 1))]) (s_iinc dX5_findReached_149 (by decide) rfl rfl) rfl ?_
        refine pGo (s_goto (tgt := 84) dX5_findReached_152 (by decide)) ?_
        exact (k4 c2 c4 c6)
set_option maxRecDepth 100000 in
theorem g_X5_findGoesOn_0 {d : Nat} {σ : pS} {Q : Option pV → pS → Prop} {Q1 : Option pV → pS → Prop} (hd : 1 ≤ d) (hst : Stat σ) (a0 : Int) (Ia0 : Inst5 σ a0) (f1 : pC mJ7_fill_53178 0 [(2, (a0 + 4)), (0, 1023)] σ Q1) (k1 : ∀ (τ1 : pS) (e1 : pLe σ τ1) (q1 : Q1 none τ1), pR mX5_findGoesOn d 14 [(2, a0), (0, 479), (9, 0), (9, 0)] [] τ1 Q) : pC mX5_findGoesOn d [(2, a0)] σ Q := by
  show pR mX5_findGoesOn d 0 [(2, a0), (9, 0), (9, 0), (9, 0)] [] σ Q
  refine pGo (s_aload_n dX5_findGoesOn_0 rfl Ia0.pos) ?_
  refine pGo (s_getF pc5 fl_X5_21 dX5_findGoesOn_1 Ia0.o0 rfl (by decide)) ?_
  refine pGo (s_sipush dX5_findGoesOn_4 (by decide)) ?_
  refine p_callS (As := [(2, (a0 + 4)), (0, 1023)]) (st := []) (n := 2) (d' := 0) (Q1 := Q1) ok_J7_fill_53178 ml_X5_76 sm_J7_fill_53178 dX5_findGoesOn_7 (pargs_of rfl) rfl (Nat.le_of_ble_eq_true rfl) (by omega) f1 (fun r1 τ1 e1 q1 w1 => ?_)
  obtain rfl : r1 = none := w1
  have S1 : Stat τ1 := (Stat.le (σ := σ) hst e1)
  have J1_0 : Inst5 τ1 a0 := Inst5.le (σ := σ) Ia0 e1
  show pR mX5_findGoesOn d 10 [(2, a0), (9, 0), (9, 0), (9, 0)] [] τ1 Q
  refine pGo (s_sipush dX5_findGoesOn_10 (by decide)) ?_
  refine pGoL (ls2 := [(2, a0), (0, 479), (9, 0), (9, 0)]) (s_istore_n dX5_findGoesOn_13 (by decide) rfl) rfl ?_
  exact (k1 τ1 e1 q1)
set_option maxRecDepth 100000 in
theorem g_X5_findGoesOn_14 {d : Nat} {σ : pS} {Q : Option pV → pS → Prop} (hd : 1 ≤ d) (hst : Stat σ) (x0 : Int) (x1 : Int) (u2 : pV) (u3 : pV) (Ix0 : Inst5 σ x0) (hu2 : u2.1 ≠ 1) (hu3 : u3.1 ≠ 1) (g1 : inR x1) (k1 : ∀ (c1 : x1 < 0), Q none σ) (f1 : ∀ (c2 : 0 ≤ x1), pC mX5_mayStay 0 [(2, x0), (0, x1)] σ (fun r τ => r = some (0, b2i (vStay σ x0 x1)) ∧ τ = σ)) (k2 : ∀ (c2 : 0 ≤ x1) (c3 : (vStay σ x0 x1) = false), pR mX5_findGoesOn d 41 [(2, x0), (0, x1), (0, 0), (0, 0)] [] σ Q) (g2 : ∀ (c2 : 0 ≤ x1) (c4 : (vStay σ x0 x1) = true), 0 ≤ (x1 + 1) ∧ (x1 + 1) < 541) (k3 : ∀ (c2 : 0 ≤ x1) (c4 : (vStay σ x0 x1) = true), pR mX5_findGoesOn d 41 [(2, x0), (0, x1), (0, (rd σ (x0 + 4) (x1 + 1))), (0, 0)] [] σ Q) : pR mX5_findGoesOn d 14 [(2, x0), (0, x1), u2, u3] [] σ Q := by
  refine pGo (s_iload_n dX5_findGoesOn_14 rfl) ?_
  refine p_iflt (tgt := 89) dX5_findGoesOn_15 (by decide) g1 (fun c1 => ?_) (fun c2 => ?_)
  · exact pEnd (r := none) dX5_findGoesOn_89 rfl (k1 c1)
  · refine pGo (s_aload_n dX5_findGoesOn_18 rfl Ix0.pos) ?_
    refine pGo (s_iload_n dX5_findGoesOn_19 rfl) ?_
    refine p_callV (As := [(0, x1)]) (st := []) (n := 1) (d' := 0) (Q1 := (fun r τ => r = some (0, b2i (vStay σ x0 x1)) ∧ τ = σ)) pc5 ok_X5_mayStay ml_X5_121 im_X5_mayStay se_X5_mayStay dX5_findGoesOn_20 Ix0.o0 (pargs_of rfl) rfl (Nat.le_of_ble_eq_true rfl) (by omega) (f1 c2) (fun r1 τ1 e1 q1 w1 => ?_)
    obtain ⟨rfl, t1⟩ := q1
    rw [t1]
    show pR mX5_findGoesOn d 23 [(2, x0), (0, x1), u2, u3] [(0, (b2i (vStay σ x0 x1)))] σ Q
    refine p_ifeqB (tgt := 37) dX5_findGoesOn_23 (by decide) (fun c3 => ?_) (fun c4 => ?_)
    · refine pGo (s_iconst dX5_findGoesOn_37) ?_
      refine pGoL (ls2 := [(2, x0), (0, x1), (0, 0), u3]) (s_istore_n dX5_findGoesOn_38 (by decide) rfl) rfl ?_
      refine pGo (s_iconst dX5_findGoesOn_39) ?_
      refine pGoL (ls2 := [(2, x0), (0, x1), (0, 0), (0, 0)]) (s_istore_n dX5_findGoesOn_40 (by decide) rfl) rfl ?_
      exact (k2 c2 c3)
    · refine pGo (s_aload_n dX5_findGoesOn_26 rfl Ix0.pos) ?_
      refine pGo (s_getF pc5 fl_X5_21 dX5_findGoesOn_27 Ix0.o0 rfl (by decide)) ?_
      refine pGo (s_iload_n dX5_findGoesOn_30 rfl) ?_
      refine pGo (s_iconst dX5_findGoesOn_31) ?_
      refine pGo (s_iadd dX5_findGoesOn_32) ?_
      refine pGoE (y := (rd σ (x0 + 4) (x1 + 1))) (s_iald dX5_findGoesOn_33 Ix0.o4 (bnd (g2 c2 c4))) rfl ?_
      refine pGo (s_goto (tgt := 38) dX5_findGoesOn_34 (by decide)) ?_
      refine pGoL (ls2 := [(2, x0), (0, x1), (0, (rd σ (x0 + 4) (x1 + 1))), u3]) (s_istore_n dX5_findGoesOn_38 (by decide) rfl) rfl ?_
      refine pGo (s_iconst dX5_findGoesOn_39) ?_
      refine pGoL (ls2 := [(2, x0), (0, x1), (0, (rd σ (x0 + 4) (x1 + 1))), (0, 0)]) (s_istore_n dX5_findGoesOn_40 (by decide) rfl) rfl ?_
      exact (k3 c2 c4)
set_option maxRecDepth 100000 in
theorem g_X5_findGoesOn_41 {d : Nat} {σ : pS} {Q : Option pV → pS → Prop} (hd : 1 ≤ d) (hst : Stat σ) (x0 : Int) (x1 : Int) (x2 : Int) (x3 : Int) (Ix0 : Inst5 σ x0) (g1 : inR x3) (g2 : ∀ (c1 : 17 ≤ x3), 0 ≤ x1 ∧ x1 < 541) (k1 : ∀ (c1 : 17 ≤ x3), pR mX5_findGoesOn d 14 [(2, x0), (0, (x1 + (-1))), (0, x2), (0, x3)] [] (wr σ (x0 + 4) x1 x2) Q) (f1 : ∀ (c2 : x3 < 17), pC mX5_leadsOn 0 [(2, x0), (0, x3), (0, x1)] σ (fun r τ => r = some (0, b2i (vLeads σ x0 x3 x1)) ∧ τ = σ)) (k2 : ∀ (c2 : x3 < 17) (c3 : (vLeads σ x0 x3 x1) = false), pR mX5_findGoesOn d 41 [(2, x0), (0, x1), (0, x2), (0, (x3 + 1))] [] σ Q) (g3 : ∀ (c2 : x3 < 17) (c4 : (vLeads σ x0 x3 x1) = true), Inst6 σ (rd σ x0 6)) (g4 : ∀ (c2 : x3 < 17) (c4 : (vLeads σ x0 x3 x1) = true), 0 ≤ x3 ∧ x3 < 17) (k3 : ∀ (c2 : x3 < 17) (c4 : (vLeads σ x0 x3 x1) = true), pR mX5_findGoesOn d 41 [(2, x0), (0, x1), (0, (i_or x2 (i_shl 1 (rd σ ((rd σ x0 6) + 2) x3)))), (0, (x3 + 1))] [] σ Q) : pR mX5_findGoesOn d 41 [(2, x0), (0, x1), (0, x2), (0, x3)] [] σ Q := by
  refine pGo (s_iload_n dX5_findGoesOn_41 rfl) ?_
  refine pGo (s_bipush dX5_findGoesOn_42 (by decide)) ?_
  refine p_icge (tgt := 76) dX5_findGoesOn_44 (by decide) g1 (by decide) (fun c1 => ?_) (fun c2 => ?_)
  · refine pGo (s_aload_n dX5_findGoesOn_76 rfl Ix0.pos) ?_
    refine pGo (s_getF pc5 fl_X5_21 dX5_findGoesOn_77 Ix0.o0 rfl (by decide)) ?_
    refine pGo (s_iload_n dX5_findGoesOn_80 rfl) ?_
    refine pGo (s_iload_n dX5_findGoesOn_81 rfl) ?_
    refine pGo (s_iast dX5_findGoesOn_82 Ix0.o4 (bnd (g2 c1))) ?_
    refine pGoL (ls2 := [(2, x0), (0, (x1 + (-1))), (0, x2), (0, x3)]) (s_iinc dX5_findGoesOn_83 (by decide) rfl rfl) rfl ?_
    refine pGo (s_goto (tgt := 14) dX5_findGoesOn_86 (by decide)) ?_
    exact (k1 c1)
  · refine pGo (s_aload_n dX5_findGoesOn_47 rfl Ix0.pos) ?_
    refine pGo (s_iload_n dX5_findGoesOn_48 rfl) ?_
    refine pGo (s_iload_n dX5_findGoesOn_49 rfl) ?_
    refine p_callV (As := [(0, x3), (0, x1)]) (st := []) (n := 2) (d' := 0) (Q1 := (fun r τ => r = some (0, b2i (vLeads σ x0 x3 x1)) ∧ τ = σ)) pc5 ok_X5_leadsOn ml_X5_72 im_X5_leadsOn se_X5_leadsOn dX5_findGoesOn_50 Ix0.o0 (pargs_of rfl) rfl (Nat.le_of_ble_eq_true rfl) (by omega) (f1 c2) (fun r1 τ1 e1 q1 w1 => ?_)
    obtain ⟨rfl, t1⟩ := q1
    rw [t1]
    show pR mX5_findGoesOn d 53 [(2, x0), (0, x1), (0, x2), (0, x3)] [(0, (b2i (vLeads σ x0 x3 x1)))] σ Q
    refine p_ifeqB (tgt := 70) dX5_findGoesOn_53 (by decide) (fun c3 => ?_) (fun c4 => ?_)
    · refine pGoL (ls2 := [(2, x0), (0, x1), (0, x2), (0, (x3 + 1))]) (s_iinc dX5_findGoesOn_70 (by decide) rfl rfl) rfl ?_
      refine pGo (s_goto (tgt := 41) dX5_findGoesOn_73 (by decide)) ?_
      exact (k2 c2 c3)
    · refine pGo (s_iload_n dX5_findGoesOn_56 rfl) ?_
      refine pGo (s_iconst dX5_findGoesOn_57) ?_
      refine pGo (s_aload_n dX5_findGoesOn_58 rfl Ix0.pos) ?_
      refine pGoE (y := (rd σ x0 6)) (s_getR pc5 fl_X5_34 dX5_findGoesOn_59 Ix0.o0 rfl rfl) rfl ?_
      refine pGo (s_getF pc6 fl_X5_69 dX5_findGoesOn_62 (g3 c2 c4).o0 rfl (by decide)) ?_
      refine pGo (s_iload_n dX5_findGoesOn_65 rfl) ?_
      refine pGoE (y := (rd σ ((rd σ x0 6) + 2) x3)) (s_iald dX5_findGoesOn_66 (g3 c2 c4).o2 (bnd (g4 c2 c4))) rfl ?_
      refine pGo (s_ishl dX5_findGoesOn_67) ?_
      refine pGo (s_ior dX5_findGoesOn_68) ?_
      refine pGoL (ls2 := [(2, x0), (0, x1), (0, (i_or x2 (i_shl 1 (rd σ ((rd σ x0 6) + 2) x3)))), (0, x3)]) (s_istore_n dX5_findGoesOn_69 (by decide) rfl) rfl ?_
      refine pGoL (ls2 := [(2, x0), (0, x1), (0, (i_or x2 (i_shl 1 (rd σ ((rd σ x0 6) + 2) x3)))), (0, (x3 + 1))]) (s_iinc dX5_findGoesOn_70 (by decide) rfl rfl) rfl ?_
      refine pGo (s_goto (tgt := 41) dX5_findGoesOn_73 (by decide)) ?_
      exact (k3 c2 c4)
set_option maxRecDepth 100000 in
theorem g_X5_reckon_0 {d : Nat} {σ : pS} {Q : Option pV → pS → Prop} (hd : 5 ≤ d) (hst : Stat σ) (a0 : Int) (x3 : Int) (Ia0 : Inst5 σ a0) (k1 : pR mX5_reckon d 19 [(2, a0), (2, 35), (2, 29), (0, x3), (0, 0)] [] (wr (wr σ a0 8 (rd σ 35 6)) a0 6 (rd (wr σ a0 8 (rd σ 35 6)) 35 4)) Q) : pC mX5_reckon d [(2, a0), (2, 35), (2, 29), (0, x3)] σ Q := by
  show pR mX5_reckon d 0 [(2, a0), (2, 35), (2, 29), (0, x3), (9, 0)] [] σ Q
  refine pGo (s_aload_n dX5_reckon_0 rfl Ia0.pos) ?_
  refine pGo (s_aload_n dX5_reckon_1 rfl (by decide)) ?_
  refine pGoE (y := (rd σ 35 6)) (s_getI pc3 fl_X5_38 dX5_reckon_2 (ob_35 hst) rfl (by decide)) rfl ?_
  refine pGo (s_putI pc5 fl_X5_43 dX5_reckon_5 Ia0.o0 rfl rfl rfl rfl) ?_
  refine pGo (s_aload_n dX5_reckon_8 rfl Ia0.pos) ?_
  refine pGo (s_aload_n dX5_reckon_9 rfl (by decide)) ?_
  refine pGoE (y := (rd (wr σ a0 8 (rd σ 35 6)) 35 4)) (s_getR pc3 fl_X5_44 dX5_reckon_10 (ob_35 hst) rfl rfl) rfl ?_
  refine pGo (s_putR pc5 fl_X5_34 dX5_reckon_13 Ia0.o0 rfl rfl rfl rfl) ?_
  refine pGo (s_iconst dX5_reckon_16) ?_
  refine pGoL (ls2 := [(2, a0), (2, 35), (2, 29), (0, x3), (0, 0)]) (s_istore dX5_reckon_17 (by decide) rfl) rfl ?_
  exact k1
set_option maxRecDepth 100000 in
theorem g_X5_reckon_19 {d : Nat} {σ : pS} {Q : Option pV → pS → Prop} {Q1 : Option pV → pS → Prop} {Q2 : Option pV → pS → Prop} {Q3 : Option pV → pS → Prop} {Q4 : Option pV → pS → Prop} (hd : 5 ≤ d) (hst : Stat σ) (x0 : Int) (x3 : Int) (x4 : Int) (Ix0 : Inst5 σ x0) (g1 : inR x4) (f1 : ∀ (c1 : 17 ≤ x4), pC mX5_findPasses 1 [(2, x0), (2, 29), (0, x3)] σ Q1) (f2 : ∀ (c1 : 17 ≤ x4) (τ1 : pS) (e1 : pLe σ τ1) (q1 : Q1 none τ1), pC mX5_findBeginnings 4 [(2, x0), (2, 35)] τ1 Q2) (f3 : ∀ (c1 : 17 ≤ x4) (τ1 : pS) (e1 : pLe σ τ1) (q1 : Q1 none τ1) (τ2 : pS) (e2 : pLe τ1 τ2) (q2 : Q2 none τ2), pC mX5_findReached 1 [(2, x0)] τ2 Q3) (f4 : ∀ (c1 : 17 ≤ x4) (τ1 : pS) (e1 : pLe σ τ1) (q1 : Q1 none τ1) (τ2 : pS) (e2 : pLe τ1 τ2) (q2 : Q2 none τ2) (τ3 : pS) (e3 : pLe τ2 τ3) (q3 : Q3 none τ3), pC mX5_findGoesOn 1 [(2, x0)] τ3 Q4) (k1 : ∀ (c1 : 17 ≤ x4) (τ1 : pS) (e1 : pLe σ τ1) (q1 : Q1 none τ1) (τ2 : pS) (e2 : pLe τ1 τ2) (q2 : Q2 none τ2) (τ3 : pS) (e3 : pLe τ2 τ3) (q3 : Q3 none τ3) (τ4 : pS) (e4 : pLe τ3 τ4) (q4 : Q4 none τ4), Q none τ4) (f5 : ∀ (c2 : x4 < 17), pC mX6_minutes 1 [(2, (rd σ x0 6)), (0, x4), (0, (rd σ x0 0))] σ (fun r τ => r = some (0, (vMinX σ (rd σ x0 6) x4 (rd σ x0 0))) ∧ τ = σ)) (g2 : ∀ (c2 : x4 < 17), Inst6 σ (rd σ x0 6)) (g3 : ∀ (c2 : x4 < 17), 0 ≤ x4 ∧ x4 < 17) (k2 : ∀ (c2 : x4 < 17), pR mX5_reckon d 19 [(2, x0), (2, 35), (2, 29), (0, x3), (0, (x4 + 1))] [] (wr σ (x0 + 5) x4 (vMinX σ (rd σ x0 6) x4 (rd σ x0 0))) Q) : pR mX5_reckon d 19 [(2, x0), (2, 35), (2, 29), (0, x3), (0, x4)] [] σ Q := by
  refine pGo (s_iload dX5_reckon_19 rfl) ?_
  refine pGo (s_bipush dX5_reckon_21 (by decide)) ?_
  refine p_icge (tgt := 52) dX5_reckon_23 (by decide) g1 (by decide) (fun c1 => ?_) (fun c2 => ?_)
  · refine pGo (s_aload_n dX5_reckon_52 rfl Ix0.pos) ?_
    refine pGo (s_aload_n dX5_reckon_53 rfl (by decide)) ?_
    refine pGo (s_iload_n dX5_reckon_54 rfl) ?_
    refine p_callV (As := [(2, 29), (0, x3)]) (st := []) (n := 2) (d' := 1) (Q1 := Q1) pc5 ok_X5_findPasses ml_X5_50 im_X5_findPasses se_X5_findPasses dX5_reckon_55 Ix0.o0 (pargs_of rfl) rfl (Nat.le_of_ble_eq_true rfl) (by omega) (f1 c1) (fun r1 τ1 e1 q1 w1 => ?_)
    obtain rfl : r1 = none := w1
    have S1 : Stat τ1 := (Stat.le (σ := σ) hst e1)
    have J1_0 : Inst5 τ1 x0 := Inst5.le (σ := σ) Ix0 e1
    show pR mX5_reckon d 58 [(2, x0), (2, 35), (2, 29), (0, x3), (0, x4)] [] τ1 Q
    refine pGo (s_aload_n dX5_reckon_58 rfl J1_0.pos) ?_
    refine pGo (s_aload_n dX5_reckon_59 rfl (by decide)) ?_
    refine p_callV (As := [(2, 35)]) (st := []) (n := 1) (d' := 4) (Q1 := Q2) pc5 ok_X5_findBeginnings ml_X5_54 im_X5_findBeginnings se_X5_findBeginnings dX5_reckon_60 J1_0.o0 (pargs_of rfl) rfl (Nat.le_of_ble_eq_true rfl) (by omega) (f2 c1 τ1 e1 q1) (fun r2 τ2 e2 q2 w2 => ?_)
    obtain rfl : r2 = none := w2
    have S2 : Stat τ2 := (Stat.le (σ := τ1) S1 e2)
    have J2_0 : Inst5 τ2 x0 := Inst5.le (σ := τ1) J1_0 e2
    show pR mX5_reckon d 63 [(2, x0), (2, 35), (2, 29), (0, x3), (0, x4)] [] τ2 Q
    refine pGo (s_aload_n dX5_reckon_63 rfl J2_0.pos) ?_
    refine p_callV (As := []) (st := []) (n := 0) (d' := 1) (Q1 := Q3) pc5 ok_X5_findReached ml_X5_58 im_X5_findReached se_X5_findReached dX5_reckon_64 J2_0.o0 (pargs_of rfl) rfl (Nat.le_of_ble_eq_true rfl) (by omega) (f3 c1 τ1 e1 q1 τ2 e2 q2) (fun r3 τ3 e3 q3 w3 => ?_)
    obtain rfl : r3 = none := w3
    have S3 : Stat τ3 := (Stat.le (σ := τ2) S2 e3)
    have J3_0 : Inst5 τ3 x0 := Inst5.le (σ := τ2) J2_0 e3
    show pR mX5_reckon d 67 [(2, x0), (2, 35), (2, 29), (0, x3), (0, x4)] [] τ3 Q
    refine pGo (s_aload_n dX5_reckon_67 rfl J3_0.pos) ?_
    refine p_callV (As := []) (st := []) (n := 0) (d' := 1) (Q1 := Q4) pc5 ok_X5_findGoesOn ml_X5_61 im_X5_findGoesOn se_X5_findGoesOn dX5_reckon_68 J3_0.o0 (pargs_of rfl) rfl (Nat.le_of_ble_eq_true rfl) (by omega) (f4 c1 τ1 e1 q1 τ2 e2 q2 τ3 e3 q3) (fun r4 τ4 e4 q4 w4 => ?_)
    obtain rfl : r4 = none := w4
    have S4 : Stat τ4 := (Stat.le (σ := τ3) S3 e4)
    have J4_0 : Inst5 τ4 x0 := Inst5.le (σ := τ3) J3_0 e4
    show pR mX5_reckon d 71 [(2, x0), (2, 35), (2, 29), (0, x3), (0, x4)] [] τ4 Q
    exact pEnd (r := none) dX5_reckon_71 rfl (k1 c1 τ1 e1 q1 τ2 e2 q2 τ3 e3 q3 τ4 e4 q4)
  · refine pGo (s_aload_n dX5_reckon_26 rfl Ix0.pos) ?_
    refine pGo (s_getF pc5 fl_X5_24 dX5_reckon_27 Ix0.o0 rfl (by decide)) ?_
    refine pGo (s_iload dX5_reckon_30 rfl) ?_
    refine pGo (s_aload_n dX5_reckon_32 rfl Ix0.pos) ?_
    refine pGoE (y := (rd σ x0 6)) (s_getR pc5 fl_X5_34 dX5_reckon_33 Ix0.o0 rfl rfl) rfl ?_
    refine pGo (s_iload dX5_reckon_36 rfl) ?_
    refine pGo (s_aload_n dX5_reckon_38 rfl Ix0.pos) ?_
    refine pGoE (y := (rd σ x0 0)) (s_getI pc5 fl_X5_31 dX5_reckon_39 Ix0.o0 rfl (by decide)) rfl ?_
    refine p_callV (As := [(0, x4), (0, (rd σ x0 0))]) (st := [(0, x4), (2, (x0 + 5))]) (n := 2) (d' := 1) (Q1 := (fun r τ => r = some (0, (vMinX σ (rd σ x0 6) x4 (rd σ x0 0))) ∧ τ = σ)) pc6 ok_X6_minutes ml_X5_45 im_X6_minutes se_X6_minutes dX5_reckon_42 (g2 c2).o0 (pargs_of rfl) rfl (Nat.le_of_ble_eq_true rfl) (by omega) (f5 c2) (fun r5 τ5 e5 q5 w5 => ?_)
    obtain ⟨rfl, t5⟩ := q5
    rw [t5]
    show pR mX5_reckon d 45 [(2, x0), (2, 35), (2, 29), (0, x3), (0, x4)] [(0, (vMinX σ (rd σ x0 6) x4 (rd σ x0 0))), (0, x4), (2, (x0 + 5))] σ Q
    refine pGo (s_iast dX5_reckon_45 Ix0.o5 (bnd (g3 c2))) ?_
    refine pGoL (ls2 := [(2, x0), (2, 35), (2, 29), (0, x3), (0, (x4 + 1))]) (s_iinc dX5_reckon_46 (by decide) rfl rfl) rfl ?_
    refine pGo (s_goto (tgt := 19) dX5_reckon_49 (by decide)) ?_
    exact (k2 c2)
set_option maxRecDepth 100000 in
theorem g_X5_canRide_0 {d : Nat} {σ : pS} {Q : Option pV → pS → Prop} (hd : 1 ≤ d) (hst : Stat σ) (a0 : Int) (x1 : Int) (x2 : Int) (Ia0 : Inst5 σ a0) (g1 : 0 ≤ x1 ∧ x1 < 17) (g2 : inR ((x2 - (rd σ (a0 + 5) x1)) + 1)) (k1 : pR mX5_canRide d 18 [(2, a0), (0, x1), (0, x2), (0, (max 0 ((x2 - (rd σ (a0 + 5) x1)) + 1))), (0, (max 0 ((x2 - (rd σ (a0 + 5) x1)) + 1)))] [] σ Q) : pC mX5_canRide d [(2, a0), (0, x1), (0, x2)] σ Q := by
  show pR mX5_canRide d 0 [(2, a0), (0, x1), (0, x2), (9, 0), (9, 0)] [] σ Q
  refine pGo (s_iconst dX5_canRide_0) ?_
  refine pGo (s_iload_n dX5_canRide_1 rfl) ?_
  refine pGo (s_aload_n dX5_canRide_2 rfl Ia0.pos) ?_
  refine pGo (s_getF pc5 fl_X5_24 dX5_canRide_3 Ia0.o0 rfl (by decide)) ?_
  refine pGo (s_iload_n dX5_canRide_6 rfl) ?_
  refine pGoE (y := (rd σ (a0 + 5) x1)) (s_iald dX5_canRide_7 Ia0.o5 (bnd g1)) rfl ?_
  refine pGo (s_isub dX5_canRide_8) ?_
  refine pGo (s_iconst dX5_canRide_9) ?_
  refine pGo (s_iadd dX5_canRide_10) ?_
  refine pGo (s_mmax (by omega) mj_X5_64 (Nat.le_of_ble_eq_true rfl) dX5_canRide_11 (by decide) g2) ?_
  refine pGoL (ls2 := [(2, a0), (0, x1), (0, x2), (0, (max 0 ((x2 - (rd σ (a0 + 5) x1)) + 1))), (9, 0)]) (s_istore_n dX5_canRide_14 (by decide) rfl) rfl ?_
  refine pGo (s_iload_n dX5_canRide_15 rfl) ?_
  refine pGoL (ls2 := [(2, a0), (0, x1), (0, x2), (0, (max 0 ((x2 - (rd σ (a0 + 5) x1)) + 1))), (0, (max 0 ((x2 - (rd σ (a0 + 5) x1)) + 1)))]) (s_istore dX5_canRide_16 (by decide) rfl) rfl ?_
  exact k1
set_option maxRecDepth 100000 in
theorem g_X5_canRide_18 {d : Nat} {σ : pS} {Q : Option pV → pS → Prop} (hd : 1 ≤ d) (hst : Stat σ) (x0 : Int) (x1 : Int) (x2 : Int) (x3 : Int) (x4 : Int) (Ix0 : Inst5 σ x0) (g1 : inR x4) (g2 : inR x2) (k1 : ∀ (c1 : x2 < x4), Q (some (0, 0)) σ) (k2 : ∀ (c2 : x4 ≤ x2) (c3 : 480 ≤ x4), Q (some (0, 0)) σ) (g3 : ∀ (c2 : x4 ≤ x2) (c4 : x4 < 480), 0 ≤ x4 ∧ x4 < 541) (g4 : ∀ (c2 : x4 ≤ x2) (c4 : x4 < 480), Inst6 σ (rd σ x0 6)) (g5 : ∀ (c2 : x4 ≤ x2) (c4 : x4 < 480), 0 ≤ x1 ∧ x1 < 17) (g6 : ∀ (c2 : x4 ≤ x2) (c4 : x4 < 480), inR (i_and (i_shr (rd σ (x0 + 3) x4) (rd σ ((rd σ x0 6) + 2) x1)) 1)) (k3 : ∀ (c2 : x4 ≤ x2) (c4 : x4 < 480) (c5 : (i_and (i_shr (rd σ (x0 + 3) x4) (rd σ ((rd σ x0 6) + 2) x1)) 1) = 0), pR mX5_canRide d 18 [(2, x0), (0, x1), (0, x2), (0, x3), (0, (x4 + 1))] [] σ Q) (f1 : ∀ (c2 : x4 ≤ x2) (c4 : x4 < 480) (c6 : (i_and (i_shr (rd σ (x0 + 3) x4) (rd σ ((rd σ x0 6) + 2) x1)) 1) ≠ 0), pC mX5_leadsOn 0 [(2, x0), (0, x1), (0, x4)] σ (fun r τ => r = some (0, b2i (vLeads σ x0 x1 x4)) ∧ τ = σ)) (k4 : ∀ (c2 : x4 ≤ x2) (c4 : x4 < 480) (c6 : (i_and (i_shr (rd σ (x0 + 3) x4) (rd σ ((rd σ x0 6) + 2) x1)) 1) ≠ 0) (c7 : (vLeads σ x0 x1 x4) = false), pR mX5_canRide d 18 [(2, x0), (0, x1), (0, x2), (0, x3), (0, (x4 + 1))] [] σ Q) (k5 : ∀ (c2 : x4 ≤ x2) (c4 : x4 < 480) (c6 : (i_and (i_shr (rd σ (x0 + 3) x4) (rd σ ((rd σ x0 6) + 2) x1)) 1) ≠ 0) (c8 : (vLeads σ x0 x1 x4) = true), Q (some (0, 1)) σ) : pR mX5_canRide d 18 [(2, x0), (0, x1), (0, x2), (0, x3), (0, x4)] [] σ Q := by
  refine pGo (s_iload dX5_canRide_18 rfl) ?_
  refine pGo (s_iload_n dX5_canRide_20 rfl) ?_
  refine p_icgt (tgt := 72) dX5_canRide_21 (by decide) g1 g2 (fun c1 => ?_) (fun c2 => ?_)
  · refine pGo (s_iconst dX5_canRide_72) ?_
    exact pEnd (r := (some (0, 0))) dX5_canRide_73 (Or.inl rfl) (k1 c1)
  · refine pGo (s_iload dX5_canRide_24 rfl) ?_
    refine pGo (s_sipush dX5_canRide_26 (by decide)) ?_
    refine p_icge (tgt := 72) dX5_canRide_29 (by decide) g1 (by decide) (fun c3 => ?_) (fun c4 => ?_)
    · refine pGo (s_iconst dX5_canRide_72) ?_
      exact pEnd (r := (some (0, 0))) dX5_canRide_73 (Or.inl rfl) (k2 c2 c3)
    · refine pGo (s_aload_n dX5_canRide_32 rfl Ix0.pos) ?_
      refine pGo (s_getF pc5 fl_X5_18 dX5_canRide_33 Ix0.o0 rfl (by decide)) ?_
      refine pGo (s_iload dX5_canRide_36 rfl) ?_
      refine pGoE (y := (rd σ (x0 + 3) x4)) (s_iald dX5_canRide_38 Ix0.o3 (bnd (g3 c2 c4))) rfl ?_
      refine pGo (s_aload_n dX5_canRide_39 rfl Ix0.pos) ?_
      refine pGoE (y := (rd σ x0 6)) (s_getR pc5 fl_X5_34 dX5_canRide_40 Ix0.o0 rfl rfl) rfl ?_
      refine pGo (s_getF pc6 fl_X5_69 dX5_canRide_43 (g4 c2 c4).o0 rfl (by decide)) ?_
      refine pGo (s_iload_n dX5_canRide_46 rfl) ?_
      refine pGoE (y := (rd σ ((rd σ x0 6) + 2) x1)) (s_iald dX5_canRide_47 (g4 c2 c4).o2 (bnd (g5 c2 c4))) rfl ?_
      refine pGo (s_ishr dX5_canRide_48) ?_
      refine pGo (s_iconst dX5_canRide_49) ?_
      refine pGo (s_iand dX5_canRide_50) ?_
      refine p_ifeq (tgt := 66) dX5_canRide_51 (by decide) (g6 c2 c4) (fun c5 => ?_) (fun c6 => ?_)
      · refine pGoL (ls2 := [(2, x0), (0, x1), (0, x2), (0, x3), (0, (x4 + 1))]) (s_iinc dX5_canRide_66 (by decide) rfl rfl) rfl ?_
        refine pGo (s_goto (tgt := 18) dX5_canRide_69 (by decide)) ?_
        exact (k3 c2 c4 c5)
      · refine pGo (s_aload_n dX5_canRide_54 rfl Ix0.pos) ?_
        refine pGo (s_iload_n dX5_canRide_55 rfl) ?_
        refine pGo (s_iload dX5_canRide_56 rfl) ?_
        refine p_callV (As := [(0, x1), (0, x4)]) (st := []) (n := 2) (d' := 0) (Q1 := (fun r τ => r = some (0, b2i (vLeads σ x0 x1 x4)) ∧ τ = σ)) pc5 ok_X5_leadsOn ml_X5_72 im_X5_leadsOn se_X5_leadsOn dX5_canRide_58 Ix0.o0 (pargs_of rfl) rfl (Nat.le_of_ble_eq_true rfl) (by omega) (f1 c2 c4 c6) (fun r1 τ1 e1 q1 w1 => ?_)
        obtain ⟨rfl, t1⟩ := q1
        rw [t1]
        show pR mX5_canRide d 61 [(2, x0), (0, x1), (0, x2), (0, x3), (0, x4)] [(0, (b2i (vLeads σ x0 x1 x4)))] σ Q
        refine p_ifeqB (tgt := 66) dX5_canRide_61 (by decide) (fun c7 => ?_) (fun c8 => ?_)
        · refine pGoL (ls2 := [(2, x0), (0, x1), (0, x2), (0, x3), (0, (x4 + 1))]) (s_iinc dX5_canRide_66 (by decide) rfl rfl) rfl ?_
          refine pGo (s_goto (tgt := 18) dX5_canRide_69 (by decide)) ?_
          exact (k4 c2 c4 c6 c7)
        · refine pGo (s_iconst dX5_canRide_64) ?_
          exact pEnd (r := (some (0, 1))) dX5_canRide_65 (Or.inr rfl) (k5 c2 c4 c6 c8)
