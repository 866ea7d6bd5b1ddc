/-! walks: the reference traces a skier -/
set_option maxRecDepth 100000 in
theorem g_X11_trace_0 {d : Nat} {σ : pS} {Q : Option pV → pS → Prop} {Q1 : Option pV → pS → Prop} (hd : 3 ≤ d) (hst : Stat σ) (x1 : Int) (x2 : Int)  (f1 : pC mX11_know 2 [(2, 68), (0, x2)] σ Q1) (k1 : ∀ (τ1 : pS) (e1 : pLe σ τ1) (q1 : Q1 none τ1), pR mX11_trace d 7 [(2, 68), (0, x1), (0, x2), (0, 0), (9, 0), (9, 0), (9, 0)] [] τ1 Q) : pC mX11_trace d [(2, 68), (0, x1), (0, x2)] σ Q := by
  show pR mX11_trace d 0 [(2, 68), (0, x1), (0, x2), (9, 0), (9, 0), (9, 0), (9, 0)] [] σ Q
  refine pGo (s_aload_n dX11_trace_0 rfl (by decide)) ?_
  refine pGo (s_iload_n dX11_trace_1 rfl) ?_
  refine p_callV (As := [(0, x2)]) (st := []) (n := 1) (d' := 2) (Q1 := Q1) pc11 ok_X11_know ml_X11_480 im_X11_know se_X11_know dX11_trace_2 (ob_68 hst) (pargs_of rfl) rfl (Nat.le_of_ble_eq_true rfl) (by omega) f1 (fun r1 τ1 e1 q1 w1 => ?_)
  obtain rfl : r1 = none := w1
  have S1 : Stat τ1 := (Stat.le (σ := σ) hst e1)
  show pR mX11_trace d 5 [(2, 68), (0, x1), (0, x2), (9, 0), (9, 0), (9, 0), (9, 0)] [] τ1 Q
  refine pGo (s_iconst dX11_trace_5) ?_
  refine pGoL (ls2 := [(2, 68), (0, x1), (0, x2), (0, 0), (9, 0), (9, 0), (9, 0)]) (s_istore_n dX11_trace_6 (by decide) rfl) rfl ?_
  exact (k1 τ1 e1 q1)
set_option maxRecDepth 100000 in
theorem g_X11_trace_7 {d : Nat} {σ : pS} {Q : Option pV → pS → Prop} (hd : 3 ≤ d) (hst : Stat σ) (x1 : Int) (x2 : Int) (x3 : Int) (u4 : pV) (u5 : pV) (u6 : pV) (hu4 : u4.1 ≠ 1) (hu5 : u5.1 ≠ 1) (hu6 : u6.1 ≠ 1) (g1 : inR x3) (k1 : ∀ (c1 : 601 ≤ x3), pR mX11_trace d 29 [(2, 68), (0, x1), (0, x2), (0, 0), u4, u5, u6] [] σ Q) (g2 : ∀ (c2 : x3 < 601), 0 ≤ x3 ∧ x3 < 601) (k2 : ∀ (c2 : x3 < 601), pR mX11_trace d 7 [(2, 68), (0, x1), (0, x2), (0, (x3 + 1)), u4, u5, u6] [] (wr σ 113 x3 (-1)) Q) : pR mX11_trace d 7 [(2, 68), (0, x1), (0, x2), (0, x3), u4, u5, u6] [] σ Q := by
  refine pGo (s_iload_n dX11_trace_7 rfl) ?_
  refine pGo (s_sipush dX11_trace_8 (by decide)) ?_
  refine p_icge (tgt := 27) dX11_trace_11 (by decide) g1 (by decide) (fun c1 => ?_) (fun c2 => ?_)
  · refine pGo (s_iconst dX11_trace_27) ?_
    refine pGoL (ls2 := [(2, 68), (0, x1), (0, x2), (0, 0), u4, u5, u6]) (s_istore_n dX11_trace_28 (by decide) rfl) rfl ?_
    exact (k1 c1)
  · refine pGo (s_aload_n dX11_trace_14 rfl (by decide)) ?_
    refine pGoE (y := 113) (s_getF pc11 fl_X11_148 dX11_trace_15 (ob_68 hst) rfl (by decide)) (by decide) ?_
    refine pGo (s_iload_n dX11_trace_18 rfl) ?_
    refine pGo (s_iconst dX11_trace_19) ?_
    refine pGo (s_iast dX11_trace_20 (ob_113 hst) (bnd (g2 c2))) ?_
    refine pGoL (ls2 := [(2, 68), (0, x1), (0, x2), (0, (x3 + 1)), u4, u5, u6]) (s_iinc dX11_trace_21 (by decide) rfl rfl) rfl ?_
    refine pGo (s_goto (tgt := 7) dX11_trace_24 (by decide)) ?_
    exact (k2 c2)
set_option maxRecDepth 100000 in
theorem g_X11_trace_29 {d : Nat} {σ : pS} {Q : Option pV → pS → Prop} (hd : 3 ≤ d) (hst : Stat σ) (x1 : Int) (x2 : Int) (x3 : Int) (u4 : pV) (u5 : pV) (u6 : pV) (hu4 : u4.1 ≠ 1) (hu5 : u5.1 ≠ 1) (hu6 : u6.1 ≠ 1) (g1 : inR x3) (g2 : inR (rd σ 68 65)) (k1 : ∀ (c1 : (rd σ 68 65) ≤ x3), pR mX11_trace d 142 [(2, 68), (0, x1), (0, x2), (0, 600), u4, u5, u6] [] (wr σ 114 601 1000000) Q) (g3 : ∀ (c2 : x3 < (rd σ 68 65)), 0 ≤ x3 ∧ x3 < 100) (g4 : ∀ (c2 : x3 < (rd σ 68 65)), inR (rd σ 108 x3)) (g5 : ∀ (c2 : x3 < (rd σ 68 65)), inR x1) (k2 : ∀ (c2 : x3 < (rd σ 68 65)) (c3 : (rd σ 108 x3) ≠ x1), pR mX11_trace d 29 [(2, 68), (0, x1), (0, x2), (0, (x3 + 1)), u4, u5, u6] [] σ Q) (f1 : ∀ (c2 : x3 < (rd σ 68 65)) (c4 : (rd σ 108 x3) = x1), pC mX11_counts 0 [(0, (rd σ 111 x3)), (0, (rd σ 112 x3)), (0, x2)] σ (fun r τ => r = some (0, b2i (vCounts (rd σ 111 x3) (rd σ 112 x3) x2)) ∧ τ = σ)) (g6 : ∀ (c2 : x3 < (rd σ 68 65)) (c4 : (rd σ 108 x3) = x1) (c5 : (vCounts (rd σ 111 x3) (rd σ 112 x3) x2) = true), 0 ≤ (rd σ 110 x3) ∧ (rd σ 110 x3) < 601) (g7 : ∀ (c2 : x3 < (rd σ 68 65)) (c4 : (rd σ 108 x3) = x1) (c5 : (vCounts (rd σ 111 x3) (rd σ 112 x3) x2) = true), inR (rd σ 113 (rd σ 110 x3))) (k3 : ∀ (c2 : x3 < (rd σ 68 65)) (c4 : (rd σ 108 x3) = x1) (c5 : (vCounts (rd σ 111 x3) (rd σ 112 x3) x2) = true) (c7 : (rd σ 113 (rd σ 110 x3)) = (-1)), pR mX11_trace d 29 [(2, 68), (0, x1), (0, x2), (0, (x3 + 1)), (0, (rd σ 110 x3)), u5, u6] [] (wr σ 113 (rd σ 110 x3) (rd σ 109 x3)) Q) (g8 : ∀ (c2 : x3 < (rd σ 68 65)) (c4 : (rd σ 108 x3) = x1) (c5 : (vCounts (rd σ 111 x3) (rd σ 112 x3) x2) = true) (c8 : (rd σ 113 (rd σ 110 x3)) ≠ (-1)), inR (rd σ 109 x3)) (k4 : ∀ (c2 : x3 < (rd σ 68 65)) (c4 : (rd σ 108 x3) = x1) (c5 : (vCounts (rd σ 111 x3) (rd σ 112 x3) x2) = true) (c8 : (rd σ 113 (rd σ 110 x3)) ≠ (-1)) (c9 : (rd σ 113 (rd σ 110 x3)) ≠ (rd σ 109 x3)), pR mX11_trace d 29 [(2, 68), (0, x1), (0, x2), (0, (x3 + 1)), (0, (rd σ 110 x3)), u5, u6] [] (wr σ 113 (rd σ 110 x3) (-2)) Q) (k5 : ∀ (c2 : x3 < (rd σ 68 65)) (c4 : (rd σ 108 x3) = x1) (c5 : (vCounts (rd σ 111 x3) (rd σ 112 x3) x2) = true) (c8 : (rd σ 113 (rd σ 110 x3)) ≠ (-1)) (c10 : (rd σ 113 (rd σ 110 x3)) = (rd σ 109 x3)), pR mX11_trace d 29 [(2, 68), (0, x1), (0, x2), (0, (x3 + 1)), (0, (rd σ 110 x3)), u5, u6] [] (wr σ 113 (rd σ 110 x3) (rd σ 109 x3)) Q) (k6 : ∀ (c2 : x3 < (rd σ 68 65)) (c4 : (rd σ 108 x3) = x1) (c6 : (vCounts (rd σ 111 x3) (rd σ 112 x3) x2) = false), pR mX11_trace d 29 [(2, 68), (0, x1), (0, x2), (0, (x3 + 1)), u4, u5, u6] [] σ Q) : pR mX11_trace d 29 [(2, 68), (0, x1), (0, x2), (0, x3), u4, u5, u6] [] σ Q := by
  refine pGo (s_iload_n dX11_trace_29 rfl) ?_
  refine pGo (s_aload_n dX11_trace_30 rfl (by decide)) ?_
  refine pGoE (y := (rd σ 68 65)) (s_getI pc11 fl_X11_378 dX11_trace_31 (ob_68 hst) rfl (by decide)) rfl ?_
  refine p_icge (tgt := 128) dX11_trace_34 (by decide) g1 g2 (fun c1 => ?_) (fun c2 => ?_)
  · refine pGo (s_aload_n dX11_trace_128 rfl (by decide)) ?_
    refine pGoE (y := 114) (s_getF pc11 fl_X11_151 dX11_trace_129 (ob_68 hst) rfl (by decide)) (by decide) ?_
    refine pGo (s_sipush dX11_trace_132 (by decide)) ?_
    refine pGo (s_ldc (n := 1000000) dX11_trace_135 kc_X11_232 (by decide)) ?_
    refine pGo (s_iast dX11_trace_137 (ob_114 hst) (by decide)) ?_
    refine pGo (s_sipush dX11_trace_138 (by decide)) ?_
    refine pGoL (ls2 := [(2, 68), (0, x1), (0, x2), (0, 600), u4, u5, u6]) (s_istore_n dX11_trace_141 (by decide) rfl) rfl ?_
    exact (k1 c1)
  · refine pGo (s_aload_n dX11_trace_37 rfl (by decide)) ?_
    refine pGoE (y := 108) (s_getF pc11 fl_X11_133 dX11_trace_38 (ob_68 hst) rfl (by decide)) (by decide) ?_
    refine pGo (s_iload_n dX11_trace_41 rfl) ?_
    refine pGoE (y := (rd σ 108 x3)) (s_iald dX11_trace_42 (ob_108 hst) (bnd (g3 c2))) rfl ?_
    refine pGo (s_iload_n dX11_trace_43 rfl) ?_
    refine p_icne (tgt := 122) dX11_trace_44 (by decide) (g4 c2) (g5 c2) (fun c3 => ?_) (fun c4 => ?_)
    · refine pGoL (ls2 := [(2, 68), (0, x1), (0, x2), (0, (x3 + 1)), u4, u5, u6]) (s_iinc dX11_trace_122 (by decide) rfl rfl) rfl ?_
      refine pGo (s_goto (tgt := 29) dX11_trace_125 (by decide)) ?_
      exact (k2 c2 c3)
    · refine pGo (s_aload_n dX11_trace_47 rfl (by decide)) ?_
      refine pGoE (y := 111) (s_getF pc11 fl_X11_142 dX11_trace_48 (ob_68 hst) rfl (by decide)) (by decide) ?_
      refine pGo (s_iload_n dX11_trace_51 rfl) ?_
      refine pGoE (y := (rd σ 111 x3)) (s_iald dX11_trace_52 (ob_111 hst) (bnd (g3 c2))) rfl ?_
      refine pGo (s_aload_n dX11_trace_53 rfl (by decide)) ?_
      refine pGoE (y := 112) (s_getF pc11 fl_X11_145 dX11_trace_54 (ob_68 hst) rfl (by decide)) (by decide) ?_
      refine pGo (s_iload_n dX11_trace_57 rfl) ?_
      refine pGoE (y := (rd σ 112 x3)) (s_iald dX11_trace_58 (ob_112 hst) (bnd (g3 c2))) rfl ?_
      refine pGo (s_iload_n dX11_trace_59 rfl) ?_
      refine p_callS (As := [(0, (rd σ 111 x3)), (0, (rd σ 112 x3)), (0, x2)]) (st := []) (n := 3) (d' := 0) (Q1 := (fun r τ => r = some (0, b2i (vCounts (rd σ 111 x3) (rd σ 112 x3) x2)) ∧ τ = σ)) ok_X11_counts ml_X11_453 sm_X11_counts dX11_trace_60 (pargs_of rfl) rfl (Nat.le_of_ble_eq_true rfl) (by omega) (f1 c2 c4) (fun r1 τ1 e1 q1 w1 => ?_)
      obtain ⟨rfl, t1⟩ := q1
      rw [t1]
      show pR mX11_trace d 63 [(2, 68), (0, x1), (0, x2), (0, x3), u4, u5, u6] [(0, (b2i (vCounts (rd σ 111 x3) (rd σ 112 x3) x2)))] σ Q
      refine p_ifneB (tgt := 69) dX11_trace_63 (by decide) (fun c5 => ?_) (fun c6 => ?_)
      · refine pGo (s_aload_n dX11_trace_69 rfl (by decide)) ?_
        refine pGoE (y := 110) (s_getF pc11 fl_X11_139 dX11_trace_70 (ob_68 hst) rfl (by decide)) (by decide) ?_
        refine pGo (s_iload_n dX11_trace_73 rfl) ?_
        refine pGoE (y := (rd σ 110 x3)) (s_iald dX11_trace_74 (ob_110 hst) (bnd (g3 c2))) rfl ?_
        refine pGoL (ls2 := [(2, 68), (0, x1), (0, x2), (0, x3), (0, (rd σ 110 x3)), u5, u6]) (s_istore dX11_trace_75 (by decide) rfl) rfl ?_
        refine pGo (s_aload_n dX11_trace_77 rfl (by decide)) ?_
        refine pGoE (y := 113) (s_getF pc11 fl_X11_148 dX11_trace_78 (ob_68 hst) rfl (by decide)) (by decide) ?_
        refine pGo (s_iload dX11_trace_81 rfl) ?_
        refine pGo (s_aload_n dX11_trace_83 rfl (by decide)) ?_
        refine pGoE (y := 113) (s_getF pc11 fl_X11_148 dX11_trace_84 (ob_68 hst) rfl (by decide)) (by decide) ?_
        refine pGo (s_iload dX11_trace_87 rfl) ?_
        refine pGoE (y := (rd σ 113 (rd σ 110 x3))) (s_iald dX11_trace_89 (ob_113 hst) (bnd (g6 c2 c4 c5))) rfl ?_
        refine pGo (s_iconst dX11_trace_90) ?_
        refine p_iceq (tgt := 110) dX11_trace_91 (by decide) (g7 c2 c4 c5) (by decide) (fun c7 => ?_) (fun c8 => ?_)
        · refine pGo (s_aload_n dX11_trace_110 rfl (by decide)) ?_
          refine pGoE (y := 109) (s_getF pc11 fl_X11_136 dX11_trace_111 (ob_68 hst) rfl (by decide)) (by decide) ?_
          refine pGo (s_iload_n dX11_trace_114 rfl) ?_
          refine pGoE (y := (rd σ 109 x3)) (s_iald dX11_trace_115 (ob_109 hst) (bnd (g3 c2))) rfl ?_
          refine pGo (s_goto (tgt := 121) dX11_trace_116 (by decide)) ?_
          refine pGo (s_iast dX11_trace_121 (ob_113 hst) (bnd (g6 c2 c4 c5))) ?_
          refine pGoL (ls2 := [(2, 68), (0, x1), (0, x2), (0, (x3 + 1)), (0, (rd σ 110 x3)), u5, u6]) (s_iinc dX11_trace_122 (by decide) rfl rfl) rfl ?_
          refine pGo (s_goto (tgt := 29) dX11_trace_125 (by decide)) ?_
          exact (k3 c2 c4 c5 c7)
        · refine pGo (s_aload_n dX11_trace_94 rfl (by decide)) ?_
          refine pGoE (y := 113) (s_getF pc11 fl_X11_148 dX11_trace_95 (ob_68 hst) rfl (by decide)) (by decide) ?_
          refine pGo (s_iload dX11_trace_98 rfl) ?_
          refine pGoE (y := (rd σ 113 (rd σ 110 x3))) (s_iald dX11_trace_100 (ob_113 hst) (bnd (g6 c2 c4 c5))) rfl ?_
          refine pGo (s_aload_n dX11_trace_101 rfl (by decide)) ?_
          refine pGoE (y := 109) (s_getF pc11 fl_X11_136 dX11_trace_102 (ob_68 hst) rfl (by decide)) (by decide) ?_
          refine pGo (s_iload_n dX11_trace_105 rfl) ?_
          refine pGoE (y := (rd σ 109 x3)) (s_iald dX11_trace_106 (ob_109 hst) (bnd (g3 c2))) rfl ?_
          refine p_icne (tgt := 119) dX11_trace_107 (by decide) (g7 c2 c4 c5) (g8 c2 c4 c5 c8) (fun c9 => ?_) (fun c10 => ?_)
          · refine pGo (s_bipush dX11_trace_119 (by decide)) ?_
            refine pGo (s_iast dX11_trace_121 (ob_113 hst) (bnd (g6 c2 c4 c5))) ?_
            refine pGoL (ls2 := [(2, 68), (0, x1), (0, x2), (0, (x3 + 1)), (0, (rd σ 110 x3)), u5, u6]) (s_iinc dX11_trace_122 (by decide) rfl rfl) rfl ?_
            refine pGo (s_goto (tgt := 29) dX11_trace_125 (by decide)) ?_
            exact (k4 c2 c4 c5 c8 c9)
          · refine pGo (s_aload_n dX11_trace_110 rfl (by decide)) ?_
            refine pGoE (y := 109) (s_getF pc11 fl_X11_136 dX11_trace_111 (ob_68 hst) rfl (by decide)) (by decide) ?_
            refine pGo (s_iload_n dX11_trace_114 rfl) ?_
            refine pGoE (y := (rd σ 109 x3)) (s_iald dX11_trace_115 (ob_109 hst) (bnd (g3 c2))) rfl ?_
            refine pGo (s_goto (tgt := 121) dX11_trace_116 (by decide)) ?_
            refine pGo (s_iast dX11_trace_121 (ob_113 hst) (bnd (g6 c2 c4 c5))) ?_
            refine pGoL (ls2 := [(2, 68), (0, x1), (0, x2), (0, (x3 + 1)), (0, (rd σ 110 x3)), u5, u6]) (s_iinc dX11_trace_122 (by decide) rfl rfl) rfl ?_
            refine pGo (s_goto (tgt := 29) dX11_trace_125 (by decide)) ?_
            exact (k5 c2 c4 c5 c8 c10)
      · refine pGo (s_goto (tgt := 122) dX11_trace_66 (by decide)) ?_
        refine pGoL (ls2 := [(2, 68), (0, x1), (0, x2), (0, (x3 + 1)), u4, u5, u6]) (s_iinc dX11_trace_122 (by decide) rfl rfl) rfl ?_
        refine pGo (s_goto (tgt := 29) dX11_trace_125 (by decide)) ?_
        exact (k6 c2 c4 c6)
set_option maxRecDepth 100000 in
theorem g_X11_trace_142 {d : Nat} {σ : pS} {Q : Option pV → pS → Prop} (hd : 3 ≤ d) (hst : Stat σ) (x1 : Int) (x2 : Int) (x3 : Int) (u4 : pV) (u5 : pV) (u6 : pV) (hu4 : u4.1 ≠ 1) (hu5 : u5.1 ≠ 1) (hu6 : u6.1 ≠ 1) (g1 : inR x3) (k1 : ∀ (c1 : x3 < 0), pR mX11_trace d 182 [(2, 68), (0, x1), (0, x2), (0, 0), u4, u5, u6] [] σ Q) (g2 : ∀ (c2 : 0 ≤ x3), 0 ≤ x3 ∧ x3 < 601) (g3 : ∀ (c2 : 0 ≤ x3), inR (rd σ 113 x3)) (g4 : ∀ (c2 : 0 ≤ x3) (c3 : (rd σ 113 x3) ≠ (-1)), 0 ≤ x3 ∧ x3 < 602) (k2 : ∀ (c2 : 0 ≤ x3) (c3 : (rd σ 113 x3) ≠ (-1)), pR mX11_trace d 142 [(2, 68), (0, x1), (0, x2), (0, (x3 + (-1))), u4, u5, u6] [] (wr σ 114 x3 x3) Q) (g5 : ∀ (c2 : 0 ≤ x3) (c4 : (rd σ 113 x3) = (-1)), 0 ≤ (x3 + 1) ∧ (x3 + 1) < 602) (g6 : ∀ (c2 : 0 ≤ x3) (c4 : (rd σ 113 x3) = (-1)), 0 ≤ x3 ∧ x3 < 602) (k3 : ∀ (c2 : 0 ≤ x3) (c4 : (rd σ 113 x3) = (-1)), pR mX11_trace d 142 [(2, 68), (0, x1), (0, x2), (0, (x3 + (-1))), u4, u5, u6] [] (wr σ 114 x3 (rd σ 114 (x3 + 1))) Q) : pR mX11_trace d 142 [(2, 68), (0, x1), (0, x2), (0, x3), u4, u5, u6] [] σ Q := by
  refine pGo (s_iload_n dX11_trace_142 rfl) ?_
  refine p_iflt (tgt := 180) dX11_trace_143 (by decide) g1 (fun c1 => ?_) (fun c2 => ?_)
  · refine pGo (s_iconst dX11_trace_180) ?_
    refine pGoL (ls2 := [(2, 68), (0, x1), (0, x2), (0, 0), u4, u5, u6]) (s_istore_n dX11_trace_181 (by decide) rfl) rfl ?_
    exact (k1 c1)
  · refine pGo (s_aload_n dX11_trace_146 rfl (by decide)) ?_
    refine pGoE (y := 114) (s_getF pc11 fl_X11_151 dX11_trace_147 (ob_68 hst) rfl (by decide)) (by decide) ?_
    refine pGo (s_iload_n dX11_trace_150 rfl) ?_
    refine pGo (s_aload_n dX11_trace_151 rfl (by decide)) ?_
    refine pGoE (y := 113) (s_getF pc11 fl_X11_148 dX11_trace_152 (ob_68 hst) rfl (by decide)) (by decide) ?_
    refine pGo (s_iload_n dX11_trace_155 rfl) ?_
    refine pGoE (y := (rd σ 113 x3)) (s_iald dX11_trace_156 (ob_113 hst) (bnd (g2 c2))) rfl ?_
    refine pGo (s_iconst dX11_trace_157) ?_
    refine p_icne (tgt := 172) dX11_trace_158 (by decide) (g3 c2) (by decide) (fun c3 => ?_) (fun c4 => ?_)
    · refine pGo (s_iload_n dX11_trace_172 rfl) ?_
      refine pGo (s_iast dX11_trace_173 (ob_114 hst) (bnd (g4 c2 c3))) ?_
      refine pGoL (ls2 := [(2, 68), (0, x1), (0, x2), (0, (x3 + (-1))), u4, u5, u6]) (s_iinc dX11_trace_174 (by decide) rfl rfl) rfl ?_
      refine pGo (s_goto (tgt := 142) dX11_trace_177 (by decide)) ?_
      exact (k2 c2 c3)
    · refine pGo (s_aload_n dX11_trace_161 rfl (by decide)) ?_
      refine pGoE (y := 114) (s_getF pc11 fl_X11_151 dX11_trace_162 (ob_68 hst) rfl (by decide)) (by decide) ?_
      refine pGo (s_iload_n dX11_trace_165 rfl) ?_
      refine pGo (s_iconst dX11_trace_166) ?_
      refine pGo (s_iadd dX11_trace_167) ?_
      refine pGoE (y := (rd σ 114 (x3 + 1))) (s_iald dX11_trace_168 (ob_114 hst) (bnd (g5 c2 c4))) rfl ?_
      refine pGo (s_goto (tgt := 173) dX11_trace_169 (by decide)) ?_
      refine pGo (s_iast dX11_trace_173 (ob_114 hst) (bnd (g6 c2 c4))) ?_
      refine pGoL (ls2 := [(2, 68), (0, x1), (0, x2), (0, (x3 + (-1))), u4, u5, u6]) (s_iinc dX11_trace_174 (by decide) rfl rfl) rfl ?_
      refine pGo (s_goto (tgt := 142) dX11_trace_177 (by decide)) ?_
      exact (k3 c2 c4)
set_option maxRecDepth 100000 in
theorem g_X11_trace_182 {d : Nat} {σ : pS} {Q : Option pV → pS → Prop} (hd : 3 ≤ d) (hst : Stat σ) (x1 : Int) (x2 : Int) (x3 : Int) (u4 : pV) (u5 : pV) (u6 : pV) (hu4 : u4.1 ≠ 1) (hu5 : u5.1 ≠ 1) (hu6 : u6.1 ≠ 1) (g1 : inR x3) (k1 : ∀ (c1 : 6010 ≤ x3), pR mX11_trace d 234 [(2, 68), (0, x1), (0, x2), (0, 0), u4, u5, u6] [] σ Q) (g2 : ∀ (c2 : x3 < 6010), inR (rd σ 68 32)) (g3 : ∀ (c2 : x3 < 6010) (c3 : x3 ≠ (rd σ 68 32)), 0 ≤ x3 ∧ x3 < 6010) (k2 : ∀ (c2 : x3 < 6010) (c3 : x3 ≠ (rd σ 68 32)) (c5 : x3 ≤ 5409), pR mX11_trace d 182 [(2, 68), (0, x1), (0, x2), (0, (x3 + 1)), u4, u5, u6] [] (wr (wr σ 115 x3 0) 116 x3 0) Q) (k3 : ∀ (c2 : x3 < 6010) (c3 : x3 ≠ (rd σ 68 32)) (c6 : 5409 < x3), pR mX11_trace d 182 [(2, 68), (0, x1), (0, x2), (0, (x3 + 1)), u4, u5, u6] [] (wr (wr σ 115 x3 0) 116 x3 1) Q) (g4 : ∀ (c2 : x3 < 6010) (c4 : x3 = (rd σ 68 32)), 0 ≤ x3 ∧ x3 < 6010) (k4 : ∀ (c2 : x3 < 6010) (c4 : x3 = (rd σ 68 32)) (c7 : x3 ≤ 5409), pR mX11_trace d 182 [(2, 68), (0, x1), (0, x2), (0, (x3 + 1)), u4, u5, u6] [] (wr (wr σ 115 x3 1) 116 x3 0) Q) (k5 : ∀ (c2 : x3 < 6010) (c4 : x3 = (rd σ 68 32)) (c8 : 5409 < x3), pR mX11_trace d 182 [(2, 68), (0, x1), (0, x2), (0, (x3 + 1)), u4, u5, u6] [] (wr (wr σ 115 x3 1) 116 x3 1) Q) : pR mX11_trace d 182 [(2, 68), (0, x1), (0, x2), (0, x3), u4, u5, u6] [] σ Q := by
  refine pGo (s_iload_n dX11_trace_182 rfl) ?_
  refine pGo (s_sipush dX11_trace_183 (by decide)) ?_
  refine p_icge (tgt := 232) dX11_trace_186 (by decide) g1 (by decide) (fun c1 => ?_) (fun c2 => ?_)
  · refine pGo (s_iconst dX11_trace_232) ?_
    refine pGoL (ls2 := [(2, 68), (0, x1), (0, x2), (0, 0), u4, u5, u6]) (s_istore_n dX11_trace_233 (by decide) rfl) rfl ?_
    exact (k1 c1)
  · refine pGo (s_aload_n dX11_trace_189 rfl (by decide)) ?_
    refine pGoE (y := 115) (s_getF pc11 fl_X11_154 dX11_trace_190 (ob_68 hst) rfl (by decide)) (by decide) ?_
    refine pGo (s_iload_n dX11_trace_193 rfl) ?_
    refine pGo (s_iload_n dX11_trace_194 rfl) ?_
    refine pGo (s_aload_n dX11_trace_195 rfl (by decide)) ?_
    refine pGoE (y := (rd σ 68 32)) (s_getI pc11 fl_X11_372 dX11_trace_196 (ob_68 hst) rfl (by decide)) rfl ?_
    refine p_icne (tgt := 206) dX11_trace_199 (by decide) g1 (g2 c2) (fun c3 => ?_) (fun c4 => ?_)
    · refine pGo (s_iconst dX11_trace_206) ?_
      refine pGo (s_zast dX11_trace_207 (ob_115 hst) (bnd (g3 c2 c3)) (by decide)) ?_
      refine pGo (s_aload_n dX11_trace_208 rfl (by decide)) ?_
      refine pGoE (y := 116) (s_getF pc11 fl_X11_157 dX11_trace_209 (ob_68 hst) rfl (by decide)) (by decide) ?_
      refine pGo (s_iload_n dX11_trace_212 rfl) ?_
      refine pGo (s_iload_n dX11_trace_213 rfl) ?_
      refine pGo (s_sipush dX11_trace_214 (by decide)) ?_
      refine p_icle (tgt := 224) dX11_trace_217 (by decide) g1 (by decide) (fun c5 => ?_) (fun c6 => ?_)
      · refine pGo (s_iconst dX11_trace_224) ?_
        refine pGo (s_zast dX11_trace_225 (ob_116 hst) (bnd (g3 c2 c3)) (by decide)) ?_
        refine pGoL (ls2 := [(2, 68), (0, x1), (0, x2), (0, (x3 + 1)), u4, u5, u6]) (s_iinc dX11_trace_226 (by decide) rfl rfl) rfl ?_
        refine pGo (s_goto (tgt := 182) dX11_trace_229 (by decide)) ?_
        exact (k2 c2 c3 c5)
      · refine pGo (s_iconst dX11_trace_220) ?_
        refine pGo (s_goto (tgt := 225) dX11_trace_221 (by decide)) ?_
        refine pGo (s_zast dX11_trace_225 (ob_116 hst) (bnd (g3 c2 c3)) (by decide)) ?_
        refine pGoL (ls2 := [(2, 68), (0, x1), (0, x2), (0, (x3 + 1)), u4, u5, u6]) (s_iinc dX11_trace_226 (by decide) rfl rfl) rfl ?_
        refine pGo (s_goto (tgt := 182) dX11_trace_229 (by decide)) ?_
        exact (k3 c2 c3 c6)
    · refine pGo (s_iconst dX11_trace_202) ?_
      refine pGo (s_goto (tgt := 207) dX11_trace_203 (by decide)) ?_
      refine pGo (s_zast dX11_trace_207 (ob_115 hst) (bnd (g4 c2 c4)) (by decide)) ?_
      refine pGo (s_aload_n dX11_trace_208 rfl (by decide)) ?_
      refine pGoE (y := 116) (s_getF pc11 fl_X11_157 dX11_trace_209 (ob_68 hst) rfl (by decide)) (by decide) ?_
      refine pGo (s_iload_n dX11_trace_212 rfl) ?_
      refine pGo (s_iload_n dX11_trace_213 rfl) ?_
      refine pGo (s_sipush dX11_trace_214 (by decide)) ?_
      refine p_icle (tgt := 224) dX11_trace_217 (by decide) g1 (by decide) (fun c7 => ?_) (fun c8 => ?_)
      · refine pGo (s_iconst dX11_trace_224) ?_
        refine pGo (s_zast dX11_trace_225 (ob_116 hst) (bnd (g4 c2 c4)) (by decide)) ?_
        refine pGoL (ls2 := [(2, 68), (0, x1), (0, x2), (0, (x3 + 1)), u4, u5, u6]) (s_iinc dX11_trace_226 (by decide) rfl rfl) rfl ?_
        refine pGo (s_goto (tgt := 182) dX11_trace_229 (by decide)) ?_
        exact (k4 c2 c4 c7)
      · refine pGo (s_iconst dX11_trace_220) ?_
        refine pGo (s_goto (tgt := 225) dX11_trace_221 (by decide)) ?_
        refine pGo (s_zast dX11_trace_225 (ob_116 hst) (bnd (g4 c2 c4)) (by decide)) ?_
        refine pGoL (ls2 := [(2, 68), (0, x1), (0, x2), (0, (x3 + 1)), u4, u5, u6]) (s_iinc dX11_trace_226 (by decide) rfl rfl) rfl ?_
        refine pGo (s_goto (tgt := 182) dX11_trace_229 (by decide)) ?_
        exact (k5 c2 c4 c8)
set_option maxRecDepth 100000 in
theorem g_X11_trace_234 {d : Nat} {σ : pS} {Q : Option pV → pS → Prop} (hd : 3 ≤ d) (hst : Stat σ) (x1 : Int) (x2 : Int) (x3 : Int) (u4 : pV) (u5 : pV) (u6 : pV) (hu4 : u4.1 ≠ 1) (hu5 : u5.1 ≠ 1) (hu6 : u6.1 ≠ 1) (g1 : inR x3) (k1 : ∀ (c1 : 540 < x3), pR mX11_trace d 390 [(2, 68), (0, x1), (0, x2), (0, 540), u4, u5, u6] [] σ Q) (k2 : ∀ (c2 : x3 ≤ 540), pR mX11_trace d 244 [(2, 68), (0, x1), (0, x2), (0, x3), (0, 0), u5, u6] [] σ Q) : pR mX11_trace d 234 [(2, 68), (0, x1), (0, x2), (0, x3), u4, u5, u6] [] σ Q := by
  refine pGo (s_iload_n dX11_trace_234 rfl) ?_
  refine pGo (s_sipush dX11_trace_235 (by decide)) ?_
  refine p_icgt (tgt := 386) dX11_trace_238 (by decide) g1 (by decide) (fun c1 => ?_) (fun c2 => ?_)
  · refine pGo (s_sipush dX11_trace_386 (by decide)) ?_
    refine pGoL (ls2 := [(2, 68), (0, x1), (0, x2), (0, 540), u4, u5, u6]) (s_istore_n dX11_trace_389 (by decide) rfl) rfl ?_
    exact (k1 c1)
  · refine pGo (s_iconst dX11_trace_241) ?_
    refine pGoL (ls2 := [(2, 68), (0, x1), (0, x2), (0, x3), (0, 0), u5, u6]) (s_istore dX11_trace_242 (by decide) rfl) rfl ?_
    exact (k2 c2)
set_option maxRecDepth 100000 in
theorem g_X11_trace_244 {d : Nat} {σ : pS} {Q : Option pV → pS → Prop} (hd : 3 ≤ d) (hst : Stat σ) (x1 : Int) (x2 : Int) (x3 : Int) (x4 : Int) (u5 : pV) (u6 : pV) (hu5 : u5.1 ≠ 1) (hu6 : u6.1 ≠ 1) (g1 : inR x4) (k1 : ∀ (c1 : 10 ≤ x4), pR mX11_trace d 234 [(2, 68), (0, x1), (0, x2), (0, (x3 + 1)), (0, x4), u5, u6] [] σ Q) (g2 : ∀ (c2 : x4 < 10), 0 ≤ ((10 * x3) + x4) ∧ ((10 * x3) + x4) < 6010) (g3 : ∀ (c2 : x4 < 10), inR (rd σ 115 ((10 * x3) + x4))) (g4 : ∀ (c2 : x4 < 10) (c3 : (rd σ 115 ((10 * x3) + x4)) ≠ 0), 0 ≤ x3 ∧ x3 < 601) (g5 : ∀ (c2 : x4 < 10) (c3 : (rd σ 115 ((10 * x3) + x4)) ≠ 0), inR (rd σ 113 x3)) (k2 : ∀ (c2 : x4 < 10) (c3 : (rd σ 115 ((10 * x3) + x4)) ≠ 0) (c5 : (rd σ 113 x3) ≠ (-1)), pR mX11_trace d 298 [(2, 68), (0, x1), (0, x2), (0, x3), (0, x4), (0, 0), u6] [] σ Q) (g6 : ∀ (c2 : x4 < 10) (c3 : (rd σ 115 ((10 * x3) + x4)) ≠ 0) (c6 : (rd σ 113 x3) = (-1)), 0 ≤ (((10 * x3) + 10) + x4) ∧ (((10 * x3) + 10) + x4) < 6010) (k3 : ∀ (c2 : x4 < 10) (c3 : (rd σ 115 ((10 * x3) + x4)) ≠ 0) (c6 : (rd σ 113 x3) = (-1)), pR mX11_trace d 298 [(2, 68), (0, x1), (0, x2), (0, x3), (0, x4), (0, 0), u6] [] (wr σ 115 (((10 * x3) + 10) + x4) 1) Q) (k4 : ∀ (c2 : x4 < 10) (c4 : (rd σ 115 ((10 * x3) + x4)) = 0), pR mX11_trace d 244 [(2, 68), (0, x1), (0, x2), (0, x3), (0, (x4 + 1)), u5, u6] [] σ Q) : pR mX11_trace d 244 [(2, 68), (0, x1), (0, x2), (0, x3), (0, x4), u5, u6] [] σ Q := by
  refine pGo (s_iload dX11_trace_244 rfl) ?_
  refine pGo (s_bipush dX11_trace_246 (by decide)) ?_
  refine p_icge (tgt := 380) dX11_trace_248 (by decide) g1 (by decide) (fun c1 => ?_) (fun c2 => ?_)
  · refine pGoL (ls2 := [(2, 68), (0, x1), (0, x2), (0, (x3 + 1)), (0, x4), u5, u6]) (s_iinc dX11_trace_380 (by decide) rfl rfl) rfl ?_
    refine pGo (s_goto (tgt := 234) dX11_trace_383 (by decide)) ?_
    exact (k1 c1)
  · refine pGo (s_aload_n dX11_trace_251 rfl (by decide)) ?_
    refine pGoE (y := 115) (s_getF pc11 fl_X11_154 dX11_trace_252 (ob_68 hst) rfl (by decide)) (by decide) ?_
    refine pGo (s_bipush dX11_trace_255 (by decide)) ?_
    refine pGo (s_iload_n dX11_trace_257 rfl) ?_
    refine pGo (s_imul dX11_trace_258) ?_
    refine pGo (s_iload dX11_trace_259 rfl) ?_
    refine pGo (s_iadd dX11_trace_261) ?_
    refine pGoE (y := (rd σ 115 ((10 * x3) + x4))) (s_zald dX11_trace_262 (ob_115 hst) (bnd (g2 c2))) rfl ?_
    refine p_ifne (tgt := 269) dX11_trace_263 (by decide) (g3 c2) (fun c3 => ?_) (fun c4 => ?_)
    · refine pGo (s_aload_n dX11_trace_269 rfl (by decide)) ?_
      refine pGoE (y := 113) (s_getF pc11 fl_X11_148 dX11_trace_270 (ob_68 hst) rfl (by decide)) (by decide) ?_
      refine pGo (s_iload_n dX11_trace_273 rfl) ?_
      refine pGoE (y := (rd σ 113 x3)) (s_iald dX11_trace_274 (ob_113 hst) (bnd (g4 c2 c3))) rfl ?_
      refine pGo (s_iconst dX11_trace_275) ?_
      refine p_icne (tgt := 295) dX11_trace_276 (by decide) (g5 c2 c3) (by decide) (fun c5 => ?_) (fun c6 => ?_)
      · refine pGo (s_iconst dX11_trace_295) ?_
        refine pGoL (ls2 := [(2, 68), (0, x1), (0, x2), (0, x3), (0, x4), (0, 0), u6]) (s_istore dX11_trace_296 (by decide) rfl) rfl ?_
        exact (k2 c2 c3 c5)
      · refine pGo (s_aload_n dX11_trace_279 rfl (by decide)) ?_
        refine pGoE (y := 115) (s_getF pc11 fl_X11_154 dX11_trace_280 (ob_68 hst) rfl (by decide)) (by decide) ?_
        refine pGo (s_bipush dX11_trace_283 (by decide)) ?_
        refine pGo (s_iload_n dX11_trace_285 rfl) ?_
        refine pGo (s_imul dX11_trace_286) ?_
        refine pGo (s_bipush dX11_trace_287 (by decide)) ?_
        refine pGo (s_iadd dX11_trace_289) ?_
        refine pGo (s_iload dX11_trace_290 rfl) ?_
        refine pGo (s_iadd dX11_trace_292) ?_
        refine pGo (s_iconst dX11_trace_293) ?_
        refine pGo (s_zast dX11_trace_294 (ob_115 hst) (bnd (g6 c2 c3 c6)) (by decide)) ?_
        refine pGo (s_iconst dX11_trace_295) ?_
        refine pGoL (ls2 := [(2, 68), (0, x1), (0, x2), (0, x3), (0, x4), (0, 0), u6]) (s_istore dX11_trace_296 (by decide) rfl) rfl ?_
        exact (k3 c2 c3 c6)
    · refine pGo (s_goto (tgt := 374) dX11_trace_266 (by decide)) ?_
      refine pGoL (ls2 := [(2, 68), (0, x1), (0, x2), (0, x3), (0, (x4 + 1)), u5, u6]) (s_iinc dX11_trace_374 (by decide) rfl rfl) rfl ?_
      refine pGo (s_goto (tgt := 244) dX11_trace_377 (by decide)) ?_
      exact (k4 c2 c4)
set_option maxRecDepth 100000 in
theorem g_X11_trace_298 {d : Nat} {σ : pS} {Q : Option pV → pS → Prop} (hd : 3 ≤ d) (hst : Stat σ) (x1 : Int) (x2 : Int) (x3 : Int) (x4 : Int) (x5 : Int) (u6 : pV) (hu6 : u6.1 ≠ 1) (g1 : inR x5) (k1 : ∀ (c1 : 13 ≤ x5), pR mX11_trace d 244 [(2, 68), (0, x1), (0, x2), (0, x3), (0, (x4 + 1)), (0, x5), u6] [] σ Q) (f1 : ∀ (c2 : x5 < 13), pC mX11_isWay 0 [(2, 68), (0, x5)] σ (fun r τ => r = some (0, b2i (vWay (rd σ 68 30) (rd σ 68 31) x5)) ∧ τ = σ)) (k2 : ∀ (c2 : x5 < 13) (c3 : (vWay (rd σ 68 30) (rd σ 68 31) x5) = false), pR mX11_trace d 298 [(2, 68), (0, x1), (0, x2), (0, x3), (0, x4), (0, (x5 + 1)), u6] [] σ Q) (g2 : ∀ (c2 : x5 < 13) (c4 : (vWay (rd σ 68 30) (rd σ 68 31) x5) = true), 0 ≤ x5 ∧ x5 < 13) (g3 : ∀ (c2 : x5 < 13) (c4 : (vWay (rd σ 68 30) (rd σ 68 31) x5) = true), inR (rd σ 77 x5)) (g4 : ∀ (c2 : x5 < 13) (c4 : (vWay (rd σ 68 30) (rd σ 68 31) x5) = true), inR x4) (k3 : ∀ (c2 : x5 < 13) (c4 : (vWay (rd σ 68 30) (rd σ 68 31) x5) = true) (c5 : (rd σ 77 x5) ≠ x4), pR mX11_trace d 298 [(2, 68), (0, x1), (0, x2), (0, x3), (0, x4), (0, (x5 + 1)), u6] [] σ Q) (f2 : ∀ (c2 : x5 < 13) (c4 : (vWay (rd σ 68 30) (rd σ 68 31) x5) = true) (c6 : (rd σ 77 x5) = x4), pC mX11_starts 2 [(2, 68), (0, x1), (0, x5), (0, x3)] σ (fun r τ => r = some (0, b2i (vStarts σ x1 x5 x3)) ∧ τ = σ)) (k4 : ∀ (c2 : x5 < 13) (c4 : (vWay (rd σ 68 30) (rd σ 68 31) x5) = true) (c6 : (rd σ 77 x5) = x4) (c7 : (vStarts σ x1 x5 x3) = false), pR mX11_trace d 298 [(2, 68), (0, x1), (0, x2), (0, x3), (0, x4), (0, (x5 + 1)), u6] [] σ Q) (g5 : ∀ (c2 : x5 < 13) (c4 : (vWay (rd σ 68 30) (rd σ 68 31) x5) = true) (c6 : (rd σ 77 x5) = x4) (c8 : (vStarts σ x1 x5 x3) = true), 0 ≤ x1 ∧ x1 < 8) (f3 : ∀ (c2 : x5 < 13) (c4 : (vWay (rd σ 68 30) (rd σ 68 31) x5) = true) (c6 : (rd σ 77 x5) = x4) (c8 : (vStarts σ x1 x5 x3) = true), pC mX11_minutesOf 0 [(2, 68), (0, (rd σ 107 x1)), (0, x5)] σ (fun r τ => r = some (0, (minS σ (rd σ 107 x1) x5)) ∧ τ = σ)) (g6 : ∀ (c2 : x5 < 13) (c4 : (vWay (rd σ 68 30) (rd σ 68 31) x5) = true) (c6 : (rd σ 77 x5) = x4) (c8 : (vStarts σ x1 x5 x3) = true), 0 ≤ ((10 * (x3 + (minS σ (rd σ 107 x1) x5))) + (rd σ 78 x5)) ∧ ((10 * (x3 + (minS σ (rd σ 107 x1) x5))) + (rd σ 78 x5)) < 6010) (k5 : ∀ (c2 : x5 < 13) (c4 : (vWay (rd σ 68 30) (rd σ 68 31) x5) = true) (c6 : (rd σ 77 x5) = x4) (c8 : (vStarts σ x1 x5 x3) = true), pR mX11_trace d 298 [(2, 68), (0, x1), (0, x2), (0, x3), (0, x4), (0, (x5 + 1)), u6] [] (wr σ 115 ((10 * (x3 + (minS σ (rd σ 107 x1) x5))) + (rd σ 78 x5)) 1) Q) : pR mX11_trace d 298 [(2, 68), (0, x1), (0, x2), (0, x3), (0, x4), (0, x5), u6] [] σ Q := by
  refine pGo (s_iload dX11_trace_298 rfl) ?_
  refine pGo (s_bipush dX11_trace_300 (by decide)) ?_
  refine p_icge (tgt := 374) dX11_trace_302 (by decide) g1 (by decide) (fun c1 => ?_) (fun c2 => ?_)
  · refine pGoL (ls2 := [(2, 68), (0, x1), (0, x2), (0, x3), (0, (x4 + 1)), (0, x5), u6]) (s_iinc dX11_trace_374 (by decide) rfl rfl) rfl ?_
    refine pGo (s_goto (tgt := 244) dX11_trace_377 (by decide)) ?_
    exact (k1 c1)
  · refine pGo (s_aload_n dX11_trace_305 rfl (by decide)) ?_
    refine pGo (s_iload dX11_trace_306 rfl) ?_
    refine p_callV (As := [(0, x5)]) (st := []) (n := 1) (d' := 0) (Q1 := (fun r τ => r = some (0, b2i (vWay (rd σ 68 30) (rd σ 68 31) x5)) ∧ τ = σ)) pc11 ok_X11_isWay ml_X11_387 im_X11_isWay se_X11_isWay dX11_trace_308 (ob_68 hst) (pargs_of rfl) rfl (Nat.le_of_ble_eq_true rfl) (by omega) (f1 c2) (fun r1 τ1 e1 q1 w1 => ?_)
    obtain ⟨rfl, t1⟩ := q1
    rw [t1]
    show pR mX11_trace d 311 [(2, 68), (0, x1), (0, x2), (0, x3), (0, x4), (0, x5), u6] [(0, (b2i (vWay (rd σ 68 30) (rd σ 68 31) x5)))] σ Q
    refine p_ifeqB (tgt := 368) dX11_trace_311 (by decide) (fun c3 => ?_) (fun c4 => ?_)
    · refine pGoL (ls2 := [(2, 68), (0, x1), (0, x2), (0, x3), (0, x4), (0, (x5 + 1)), u6]) (s_iinc dX11_trace_368 (by decide) rfl rfl) rfl ?_
      refine pGo (s_goto (tgt := 298) dX11_trace_371 (by decide)) ?_
      exact (k2 c2 c3)
    · refine pGo (s_aload_n dX11_trace_314 rfl (by decide)) ?_
      refine pGoE (y := 77) (s_getF pc11 fl_X11_39 dX11_trace_315 (ob_68 hst) rfl (by decide)) (by decide) ?_
      refine pGo (s_iload dX11_trace_318 rfl) ?_
      refine pGoE (y := (rd σ 77 x5)) (s_iald dX11_trace_320 (ob_77 hst) (bnd (g2 c2 c4))) rfl ?_
      refine pGo (s_iload dX11_trace_321 rfl) ?_
      refine p_icne (tgt := 368) dX11_trace_323 (by decide) (g3 c2 c4) (g4 c2 c4) (fun c5 => ?_) (fun c6 => ?_)
      · refine pGoL (ls2 := [(2, 68), (0, x1), (0, x2), (0, x3), (0, x4), (0, (x5 + 1)), u6]) (s_iinc dX11_trace_368 (by decide) rfl rfl) rfl ?_
        refine pGo (s_goto (tgt := 298) dX11_trace_371 (by decide)) ?_
        exact (k3 c2 c4 c5)
      · refine pGo (s_aload_n dX11_trace_326 rfl (by decide)) ?_
        refine pGo (s_iload_n dX11_trace_327 rfl) ?_
        refine pGo (s_iload dX11_trace_328 rfl) ?_
        refine pGo (s_iload_n dX11_trace_330 rfl) ?_
        refine p_callV (As := [(0, x1), (0, x5), (0, x3)]) (st := []) (n := 3) (d' := 2) (Q1 := (fun r τ => r = some (0, b2i (vStarts σ x1 x5 x3)) ∧ τ = σ)) pc11 ok_X11_starts ml_X11_515 im_X11_starts se_X11_starts dX11_trace_331 (ob_68 hst) (pargs_of rfl) rfl (Nat.le_of_ble_eq_true rfl) (by omega) (f2 c2 c4 c6) (fun r2 τ2 e2 q2 w2 => ?_)
        obtain ⟨rfl, t2⟩ := q2
        rw [t2]
        show pR mX11_trace d 334 [(2, 68), (0, x1), (0, x2), (0, x3), (0, x4), (0, x5), u6] [(0, (b2i (vStarts σ x1 x5 x3)))] σ Q
        refine p_ifeqB (tgt := 368) dX11_trace_334 (by decide) (fun c7 => ?_) (fun c8 => ?_)
        · refine pGoL (ls2 := [(2, 68), (0, x1), (0, x2), (0, x3), (0, x4), (0, (x5 + 1)), u6]) (s_iinc dX11_trace_368 (by decide) rfl rfl) rfl ?_
          refine pGo (s_goto (tgt := 298) dX11_trace_371 (by decide)) ?_
          exact (k4 c2 c4 c6 c7)
        · refine pGo (s_aload_n dX11_trace_337 rfl (by decide)) ?_
          refine pGoE (y := 115) (s_getF pc11 fl_X11_154 dX11_trace_338 (ob_68 hst) rfl (by decide)) (by decide) ?_
          refine pGo (s_bipush dX11_trace_341 (by decide)) ?_
          refine pGo (s_iload_n dX11_trace_343 rfl) ?_
          refine pGo (s_aload_n dX11_trace_344 rfl (by decide)) ?_
          refine pGo (s_aload_n dX11_trace_345 rfl (by decide)) ?_
          refine pGoE (y := 107) (s_getF pc11 fl_X11_130 dX11_trace_346 (ob_68 hst) rfl (by decide)) (by decide) ?_
          refine pGo (s_iload_n dX11_trace_349 rfl) ?_
          refine pGoE (y := (rd σ 107 x1)) (s_iald dX11_trace_350 (ob_107 hst) (bnd (g5 c2 c4 c6 c8))) rfl ?_
          refine pGo (s_iload dX11_trace_351 rfl) ?_
          refine p_callV (As := [(0, (rd σ 107 x1)), (0, x5)]) (st := [(0, x3), (0, 10), (2, 115)]) (n := 2) (d' := 0) (Q1 := (fun r τ => r = some (0, (minS σ (rd σ 107 x1) x5)) ∧ τ = σ)) pc11 ok_X11_minutesOf ml_X11_486 im_X11_minutesOf se_X11_minutesOf dX11_trace_353 (ob_68 hst) (pargs_of rfl) rfl (Nat.le_of_ble_eq_true rfl) (by omega) (f3 c2 c4 c6 c8) (fun r3 τ3 e3 q3 w3 => ?_)
          obtain ⟨rfl, t3⟩ := q3
          rw [t3]
          show pR mX11_trace d 356 [(2, 68), (0, x1), (0, x2), (0, x3), (0, x4), (0, x5), u6] [(0, (minS σ (rd σ 107 x1) x5)), (0, x3), (0, 10), (2, 115)] σ Q
          refine pGo (s_iadd dX11_trace_356) ?_
          refine pGo (s_imul dX11_trace_357) ?_
          refine pGo (s_aload_n dX11_trace_358 rfl (by decide)) ?_
          refine pGoE (y := 78) (s_getF pc11 fl_X11_42 dX11_trace_359 (ob_68 hst) rfl (by decide)) (by decide) ?_
          refine pGo (s_iload dX11_trace_362 rfl) ?_
          refine pGoE (y := (rd σ 78 x5)) (s_iald dX11_trace_364 (ob_78 hst) (bnd (g2 c2 c4))) rfl ?_
          refine pGo (s_iadd dX11_trace_365) ?_
          refine pGo (s_iconst dX11_trace_366) ?_
          refine pGo (s_zast dX11_trace_367 (ob_115 hst) (bnd (g6 c2 c4 c6 c8)) (by decide)) ?_
          refine pGoL (ls2 := [(2, 68), (0, x1), (0, x2), (0, x3), (0, x4), (0, (x5 + 1)), u6]) (s_iinc dX11_trace_368 (by decide) rfl rfl) rfl ?_
          refine pGo (s_goto (tgt := 298) dX11_trace_371 (by decide)) ?_
          exact (k5 c2 c4 c6 c8)
set_option maxRecDepth 100000 in
theorem g_X11_trace_390 {d : Nat} {σ : pS} {Q : Option pV → pS → Prop} (hd : 3 ≤ d) (hst : Stat σ) (x1 : Int) (x2 : Int) (x3 : Int) (u4 : pV) (u5 : pV) (u6 : pV) (hu4 : u4.1 ≠ 1) (hu5 : u5.1 ≠ 1) (hu6 : u6.1 ≠ 1) (g1 : inR x3) (k1 : ∀ (c1 : x3 < 0), Q none σ) (k2 : ∀ (c2 : 0 ≤ x3), pR mX11_trace d 397 [(2, 68), (0, x1), (0, x2), (0, x3), (0, 0), u5, u6] [] σ Q) : pR mX11_trace d 390 [(2, 68), (0, x1), (0, x2), (0, x3), u4, u5, u6] [] σ Q := by
  refine pGo (s_iload_n dX11_trace_390 rfl) ?_
  refine p_iflt (tgt := 558) dX11_trace_391 (by decide) g1 (fun c1 => ?_) (fun c2 => ?_)
  · exact pEnd (r := none) dX11_trace_558 rfl (k1 c1)
  · refine pGo (s_iconst dX11_trace_394) ?_
    refine pGoL (ls2 := [(2, 68), (0, x1), (0, x2), (0, x3), (0, 0), u5, u6]) (s_istore dX11_trace_395 (by decide) rfl) rfl ?_
    exact (k2 c2)
set_option maxRecDepth 100000 in
theorem g_X11_trace_397 {d : Nat} {σ : pS} {Q : Option pV → pS → Prop} (hd : 3 ≤ d) (hst : Stat σ) (x1 : Int) (x2 : Int) (x3 : Int) (x4 : Int) (u5 : pV) (u6 : pV) (hu5 : u5.1 ≠ 1) (hu6 : u6.1 ≠ 1) (g1 : inR x4) (k1 : ∀ (c1 : 10 ≤ x4), pR mX11_trace d 390 [(2, 68), (0, x1), (0, x2), (0, (x3 + (-1))), (0, x4), u5, u6] [] σ Q) (g2 : ∀ (c2 : x4 < 10), 0 ≤ x3 ∧ x3 < 601) (g3 : ∀ (c2 : x4 < 10), inR (rd σ 113 x3)) (k2 : ∀ (c2 : x4 < 10) (c3 : (rd σ 113 x3) ≠ (-1)), pR mX11_trace d 442 [(2, 68), (0, x1), (0, x2), (0, x3), (0, x4), (0, 0), (0, 0)] [] σ Q) (g4 : ∀ (c2 : x4 < 10) (c4 : (rd σ 113 x3) = (-1)), 0 ≤ (((10 * x3) + 10) + x4) ∧ (((10 * x3) + 10) + x4) < 6010) (g5 : ∀ (c2 : x4 < 10) (c4 : (rd σ 113 x3) = (-1)), inR (rd σ 116 (((10 * x3) + 10) + x4))) (k3 : ∀ (c2 : x4 < 10) (c4 : (rd σ 113 x3) = (-1)) (c5 : (rd σ 116 (((10 * x3) + 10) + x4)) = 0), pR mX11_trace d 442 [(2, 68), (0, x1), (0, x2), (0, x3), (0, x4), (0, 0), (0, 0)] [] σ Q) (k4 : ∀ (c2 : x4 < 10) (c4 : (rd σ 113 x3) = (-1)) (c6 : (rd σ 116 (((10 * x3) + 10) + x4)) ≠ 0), pR mX11_trace d 442 [(2, 68), (0, x1), (0, x2), (0, x3), (0, x4), (0, 1), (0, 0)] [] σ Q) : pR mX11_trace d 397 [(2, 68), (0, x1), (0, x2), (0, x3), (0, x4), u5, u6] [] σ Q := by
  refine pGo (s_iload dX11_trace_397 rfl) ?_
  refine pGo (s_bipush dX11_trace_399 (by decide)) ?_
  refine p_icge (tgt := 552) dX11_trace_401 (by decide) g1 (by decide) (fun c1 => ?_) (fun c2 => ?_)
  · refine pGoL (ls2 := [(2, 68), (0, x1), (0, x2), (0, (x3 + (-1))), (0, x4), u5, u6]) (s_iinc dX11_trace_552 (by decide) rfl rfl) rfl ?_
    refine pGo (s_goto (tgt := 390) dX11_trace_555 (by decide)) ?_
    exact (k1 c1)
  · refine pGo (s_aload_n dX11_trace_404 rfl (by decide)) ?_
    refine pGoE (y := 113) (s_getF pc11 fl_X11_148 dX11_trace_405 (ob_68 hst) rfl (by decide)) (by decide) ?_
    refine pGo (s_iload_n dX11_trace_408 rfl) ?_
    refine pGoE (y := (rd σ 113 x3)) (s_iald dX11_trace_409 (ob_113 hst) (bnd (g2 c2))) rfl ?_
    refine pGo (s_iconst dX11_trace_410) ?_
    refine p_icne (tgt := 436) dX11_trace_411 (by decide) (g3 c2) (by decide) (fun c3 => ?_) (fun c4 => ?_)
    · refine pGo (s_iconst dX11_trace_436) ?_
      refine pGoL (ls2 := [(2, 68), (0, x1), (0, x2), (0, x3), (0, x4), (0, 0), u6]) (s_istore dX11_trace_437 (by decide) rfl) rfl ?_
      refine pGo (s_iconst dX11_trace_439) ?_
      refine pGoL (ls2 := [(2, 68), (0, x1), (0, x2), (0, x3), (0, x4), (0, 0), (0, 0)]) (s_istore dX11_trace_440 (by decide) rfl) rfl ?_
      exact (k2 c2 c3)
    · refine pGo (s_aload_n dX11_trace_414 rfl (by decide)) ?_
      refine pGoE (y := 116) (s_getF pc11 fl_X11_157 dX11_trace_415 (ob_68 hst) rfl (by decide)) (by decide) ?_
      refine pGo (s_bipush dX11_trace_418 (by decide)) ?_
      refine pGo (s_iload_n dX11_trace_420 rfl) ?_
      refine pGo (s_imul dX11_trace_421) ?_
      refine pGo (s_bipush dX11_trace_422 (by decide)) ?_
      refine pGo (s_iadd dX11_trace_424) ?_
      refine pGo (s_iload dX11_trace_425 rfl) ?_
      refine pGo (s_iadd dX11_trace_427) ?_
      refine pGoE (y := (rd σ 116 (((10 * x3) + 10) + x4))) (s_zald dX11_trace_428 (ob_116 hst) (bnd (g4 c2 c4))) rfl ?_
      refine p_ifeq (tgt := 436) dX11_trace_429 (by decide) (g5 c2 c4) (fun c5 => ?_) (fun c6 => ?_)
      · refine pGo (s_iconst dX11_trace_436) ?_
        refine pGoL (ls2 := [(2, 68), (0, x1), (0, x2), (0, x3), (0, x4), (0, 0), u6]) (s_istore dX11_trace_437 (by decide) rfl) rfl ?_
        refine pGo (s_iconst dX11_trace_439) ?_
        refine pGoL (ls2 := [(2, 68), (0, x1), (0, x2), (0, x3), (0, x4), (0, 0), (0, 0)]) (s_istore dX11_trace_440 (by decide) rfl) rfl ?_
        exact (k3 c2 c4 c5)
      · refine pGo (s_iconst dX11_trace_432) ?_
        refine pGo (s_goto (tgt := 437) dX11_trace_433 (by decide)) ?_
        refine pGoL (ls2 := [(2, 68), (0, x1), (0, x2), (0, x3), (0, x4), (0, 1), u6]) (s_istore dX11_trace_437 (by decide) rfl) rfl ?_
        refine pGo (s_iconst dX11_trace_439) ?_
        refine pGoL (ls2 := [(2, 68), (0, x1), (0, x2), (0, x3), (0, x4), (0, 1), (0, 0)]) (s_istore dX11_trace_440 (by decide) rfl) rfl ?_
        exact (k4 c2 c4 c6)
set_option maxRecDepth 100000 in
theorem g_X11_trace_442 {d : Nat} {σ : pS} {Q : Option pV → pS → Prop} (hd : 3 ≤ d) (hst : Stat σ) (x1 : Int) (x2 : Int) (x3 : Int) (x4 : Int) (x5 : Int) (x6 : Int)  (g1 : inR x6) (g2 : ∀ (c1 : 13 ≤ x6), 0 ≤ ((10 * x3) + x4) ∧ ((10 * x3) + x4) < 6010) (g3 : ∀ (c1 : 13 ≤ x6), x5 = 0 ∨ x5 = 1) (k1 : ∀ (c1 : 13 ≤ x6), pR mX11_trace d 397 [(2, 68), (0, x1), (0, x2), (0, x3), (0, (x4 + 1)), (0, x5), (0, x6)] [] (wr σ 116 ((10 * x3) + x4) x5) Q) (g4 : ∀ (c2 : x6 < 13), inR x5) (g5 : ∀ (c2 : x6 < 13) (c3 : x5 ≠ 0), 0 ≤ ((10 * x3) + x4) ∧ ((10 * x3) + x4) < 6010) (g6 : ∀ (c2 : x6 < 13) (c3 : x5 ≠ 0), x5 = 0 ∨ x5 = 1) (k2 : ∀ (c2 : x6 < 13) (c3 : x5 ≠ 0), pR mX11_trace d 397 [(2, 68), (0, x1), (0, x2), (0, x3), (0, (x4 + 1)), (0, x5), (0, x6)] [] (wr σ 116 ((10 * x3) + x4) x5) Q) (f1 : ∀ (c2 : x6 < 13) (c4 : x5 = 0), pC mX11_isWay 0 [(2, 68), (0, x6)] σ (fun r τ => r = some (0, b2i (vWay (rd σ 68 30) (rd σ 68 31) x6)) ∧ τ = σ)) (k3 : ∀ (c2 : x6 < 13) (c4 : x5 = 0) (c5 : (vWay (rd σ 68 30) (rd σ 68 31) x6) = false), pR mX11_trace d 442 [(2, 68), (0, x1), (0, x2), (0, x3), (0, x4), (0, 0), (0, (x6 + 1))] [] σ Q) (g7 : ∀ (c2 : x6 < 13) (c4 : x5 = 0) (c6 : (vWay (rd σ 68 30) (rd σ 68 31) x6) = true), 0 ≤ x6 ∧ x6 < 13) (g8 : ∀ (c2 : x6 < 13) (c4 : x5 = 0) (c6 : (vWay (rd σ 68 30) (rd σ 68 31) x6) = true), inR (rd σ 77 x6)) (g9 : ∀ (c2 : x6 < 13) (c4 : x5 = 0) (c6 : (vWay (rd σ 68 30) (rd σ 68 31) x6) = true), inR x4) (k4 : ∀ (c2 : x6 < 13) (c4 : x5 = 0) (c6 : (vWay (rd σ 68 30) (rd σ 68 31) x6) = true) (c7 : (rd σ 77 x6) ≠ x4), pR mX11_trace d 442 [(2, 68), (0, x1), (0, x2), (0, x3), (0, x4), (0, 0), (0, (x6 + 1))] [] σ Q) (f2 : ∀ (c2 : x6 < 13) (c4 : x5 = 0) (c6 : (vWay (rd σ 68 30) (rd σ 68 31) x6) = true) (c8 : (rd σ 77 x6) = x4), pC mX11_starts 2 [(2, 68), (0, x1), (0, x6), (0, x3)] σ (fun r τ => r = some (0, b2i (vStarts σ x1 x6 x3)) ∧ τ = σ)) (k5 : ∀ (c2 : x6 < 13) (c4 : x5 = 0) (c6 : (vWay (rd σ 68 30) (rd σ 68 31) x6) = true) (c8 : (rd σ 77 x6) = x4) (c9 : (vStarts σ x1 x6 x3) = false), pR mX11_trace d 442 [(2, 68), (0, x1), (0, x2), (0, x3), (0, x4), (0, 0), (0, (x6 + 1))] [] σ Q) (g10 : ∀ (c2 : x6 < 13) (c4 : x5 = 0) (c6 : (vWay (rd σ 68 30) (rd σ 68 31) x6) = true) (c8 : (rd σ 77 x6) = x4) (c10 : (vStarts σ x1 x6 x3) = true), 0 ≤ x1 ∧ x1 < 8) (f3 : ∀ (c2 : x6 < 13) (c4 : x5 = 0) (c6 : (vWay (rd σ 68 30) (rd σ 68 31) x6) = true) (c8 : (rd σ 77 x6) = x4) (c10 : (vStarts σ x1 x6 x3) = true), pC mX11_minutesOf 0 [(2, 68), (0, (rd σ 107 x1)), (0, x6)] σ (fun r τ => r = some (0, (minS σ (rd σ 107 x1) x6)) ∧ τ = σ)) (g11 : ∀ (c2 : x6 < 13) (c4 : x5 = 0) (c6 : (vWay (rd σ 68 30) (rd σ 68 31) x6) = true) (c8 : (rd σ 77 x6) = x4) (c10 : (vStarts σ x1 x6 x3) = true), 0 ≤ ((10 * (x3 + (minS σ (rd σ 107 x1) x6))) + (rd σ 78 x6)) ∧ ((10 * (x3 + (minS σ (rd σ 107 x1) x6))) + (rd σ 78 x6)) < 6010) (g12 : ∀ (c2 : x6 < 13) (c4 : x5 = 0) (c6 : (vWay (rd σ 68 30) (rd σ 68 31) x6) = true) (c8 : (rd σ 77 x6) = x4) (c10 : (vStarts σ x1 x6 x3) = true), inR (rd σ 116 ((10 * (x3 + (minS σ (rd σ 107 x1) x6))) + (rd σ 78 x6)))) (k6 : ∀ (c2 : x6 < 13) (c4 : x5 = 0) (c6 : (vWay (rd σ 68 30) (rd σ 68 31) x6) = true) (c8 : (rd σ 77 x6) = x4) (c10 : (vStarts σ x1 x6 x3) = true) (c11 : (rd σ 116 ((10 * (x3 + (minS σ (rd σ 107 x1) x6))) + (rd σ 78 x6))) = 0), pR mX11_trace d 442 [(2, 68), (0, x1), (0, x2), (0, x3), (0, x4), (0, 0), (0, (x6 + 1))] [] σ Q) (k7 : ∀ (c2 : x6 < 13) (c4 : x5 = 0) (c6 : (vWay (rd σ 68 30) (rd σ 68 31) x6) = true) (c8 : (rd σ 77 x6) = x4) (c10 : (vStarts σ x1 x6 x3) = true) (c12 : (rd σ 116 ((10 * (x3 + (minS σ (rd σ 107 x1) x6))) + (rd σ 78 x6))) ≠ 0), pR mX11_trace d 442 [(2, 68), (0, x1), (0, x2), (0, x3), (0, x4), (0, 1), (0, (x6 + 1))] [] σ Q) : pR mX11_trace d 442 [(2, 68), (0, x1), (0, x2), (0, x3), (0, x4), (0, x5), (0, x6)] [] σ Q := by
  refine pGo (s_iload dX11_trace_442 rfl) ?_
  refine pGo (s_bipush dX11_trace_444 (by decide)) ?_
  refine p_icge (tgt := 532) dX11_trace_446 (by decide) g1 (by decide) (fun c1 => ?_) (fun c2 => ?_)
  · refine pGo (s_aload_n dX11_trace_532 rfl (by decide)) ?_
    refine pGoE (y := 116) (s_getF pc11 fl_X11_157 dX11_trace_533 (ob_68 hst) rfl (by decide)) (by decide) ?_
    refine pGo (s_bipush dX11_trace_536 (by decide)) ?_
    refine pGo (s_iload_n dX11_trace_538 rfl) ?_
    refine pGo (s_imul dX11_trace_539) ?_
    refine pGo (s_iload dX11_trace_540 rfl) ?_
    refine pGo (s_iadd dX11_trace_542) ?_
    refine pGo (s_iload dX11_trace_543 rfl) ?_
    refine pGo (s_zast dX11_trace_545 (ob_116 hst) (bnd (g2 c1)) (g3 c1)) ?_
    refine pGoL (ls2 := [(2, 68), (0, x1), (0, x2), (0, x3), (0, (x4 + 1)), (0, x5), (0, x6)]) (s_iinc dX11_trace_546 (by decide) rfl rfl) rfl ?_
    refine pGo (s_goto (tgt := 397) dX11_trace_549 (by decide)) ?_
    exact (k1 c1)
  · refine pGo (s_iload dX11_trace_449 rfl) ?_
    refine p_ifne (tgt := 532) dX11_trace_451 (by decide) (g4 c2) (fun c3 => ?_) (fun c4 => ?_)
    · refine pGo (s_aload_n dX11_trace_532 rfl (by decide)) ?_
      refine pGoE (y := 116) (s_getF pc11 fl_X11_157 dX11_trace_533 (ob_68 hst) rfl (by decide)) (by decide) ?_
      refine pGo (s_bipush dX11_trace_536 (by decide)) ?_
      refine pGo (s_iload_n dX11_trace_538 rfl) ?_
      refine pGo (s_imul dX11_trace_539) ?_
      refine pGo (s_iload dX11_trace_540 rfl) ?_
      refine pGo (s_iadd dX11_trace_542) ?_
      refine pGo (s_iload dX11_trace_543 rfl) ?_
      refine pGo (s_zast dX11_trace_545 (ob_116 hst) (bnd (g5 c2 c3)) (g6 c2 c3)) ?_
      refine pGoL (ls2 := [(2, 68), (0, x1), (0, x2), (0, x3), (0, (x4 + 1)), (0, x5), (0, x6)]) (s_iinc dX11_trace_546 (by decide) rfl rfl) rfl ?_
      refine pGo (s_goto (tgt := 397) dX11_trace_549 (by decide)) ?_
      exact (k2 c2 c3)
    · refine pGo (s_aload_n dX11_trace_454 rfl (by decide)) ?_
      refine pGo (s_iload dX11_trace_455 rfl) ?_
      refine p_callV (As := [(0, x6)]) (st := []) (n := 1) (d' := 0) (Q1 := (fun r τ => r = some (0, b2i (vWay (rd σ 68 30) (rd σ 68 31) x6)) ∧ τ = σ)) pc11 ok_X11_isWay ml_X11_387 im_X11_isWay se_X11_isWay dX11_trace_457 (ob_68 hst) (pargs_of rfl) rfl (Nat.le_of_ble_eq_true rfl) (by omega) (f1 c2 c4) (fun r1 τ1 e1 q1 w1 => ?_)
      obtain ⟨rfl, t1⟩ := q1
      rw [t1]
      show pR mX11_trace d 460 [(2, 68), (0, x1), (0, x2), (0, x3), (0, x4), (0, x5), (0, x6)] [(0, (b2i (vWay (rd σ 68 30) (rd σ 68 31) x6)))] σ Q
      refine p_ifeqB (tgt := 523) dX11_trace_460 (by decide) (fun c5 => ?_) (fun c6 => ?_)
      · refine pGo (s_iconst dX11_trace_523) ?_
        refine pGoL (ls2 := [(2, 68), (0, x1), (0, x2), (0, x3), (0, x4), (0, 0), (0, x6)]) (s_istore dX11_trace_524 (by decide) rfl) rfl ?_
        refine pGoL (ls2 := [(2, 68), (0, x1), (0, x2), (0, x3), (0, x4), (0, 0), (0, (x6 + 1))]) (s_iinc dX11_trace_526 (by decide) rfl rfl) rfl ?_
        refine pGo (s_goto (tgt := 442) dX11_trace_529 (by decide)) ?_
        exact (k3 c2 c4 c5)
      · refine pGo (s_aload_n dX11_trace_463 rfl (by decide)) ?_
        refine pGoE (y := 77) (s_getF pc11 fl_X11_39 dX11_trace_464 (ob_68 hst) rfl (by decide)) (by decide) ?_
        refine pGo (s_iload dX11_trace_467 rfl) ?_
        refine pGoE (y := (rd σ 77 x6)) (s_iald dX11_trace_469 (ob_77 hst) (bnd (g7 c2 c4 c6))) rfl ?_
        refine pGo (s_iload dX11_trace_470 rfl) ?_
        refine p_icne (tgt := 523) dX11_trace_472 (by decide) (g8 c2 c4 c6) (g9 c2 c4 c6) (fun c7 => ?_) (fun c8 => ?_)
        · refine pGo (s_iconst dX11_trace_523) ?_
          refine pGoL (ls2 := [(2, 68), (0, x1), (0, x2), (0, x3), (0, x4), (0, 0), (0, x6)]) (s_istore dX11_trace_524 (by decide) rfl) rfl ?_
          refine pGoL (ls2 := [(2, 68), (0, x1), (0, x2), (0, x3), (0, x4), (0, 0), (0, (x6 + 1))]) (s_iinc dX11_trace_526 (by decide) rfl rfl) rfl ?_
          refine pGo (s_goto (tgt := 442) dX11_trace_529 (by decide)) ?_
          exact (k4 c2 c4 c6 c7)
        · refine pGo (s_aload_n dX11_trace_475 rfl (by decide)) ?_
          refine pGo (s_iload_n dX11_trace_476 rfl) ?_
          refine pGo (s_iload dX11_trace_477 rfl) ?_
          refine pGo (s_iload_n dX11_trace_479 rfl) ?_
          refine p_callV (As := [(0, x1), (0, x6), (0, x3)]) (st := []) (n := 3) (d' := 2) (Q1 := (fun r τ => r = some (0, b2i (vStarts σ x1 x6 x3)) ∧ τ = σ)) pc11 ok_X11_starts ml_X11_515 im_X11_starts se_X11_starts dX11_trace_480 (ob_68 hst) (pargs_of rfl) rfl (Nat.le_of_ble_eq_true rfl) (by omega) (f2 c2 c4 c6 c8) (fun r2 τ2 e2 q2 w2 => ?_)
          obtain ⟨rfl, t2⟩ := q2
          rw [t2]
          show pR mX11_trace d 483 [(2, 68), (0, x1), (0, x2), (0, x3), (0, x4), (0, x5), (0, x6)] [(0, (b2i (vStarts σ x1 x6 x3)))] σ Q
          refine p_ifeqB (tgt := 523) dX11_trace_483 (by decide) (fun c9 => ?_) (fun c10 => ?_)
          · refine pGo (s_iconst dX11_trace_523) ?_
            refine pGoL (ls2 := [(2, 68), (0, x1), (0, x2), (0, x3), (0, x4), (0, 0), (0, x6)]) (s_istore dX11_trace_524 (by decide) rfl) rfl ?_
            refine pGoL (ls2 := [(2, 68), (0, x1), (0, x2), (0, x3), (0, x4), (0, 0), (0, (x6 + 1))]) (s_iinc dX11_trace_526 (by decide) rfl rfl) rfl ?_
            refine pGo (s_goto (tgt := 442) dX11_trace_529 (by decide)) ?_
            exact (k5 c2 c4 c6 c8 c9)
          · refine pGo (s_aload_n dX11_trace_486 rfl (by decide)) ?_
            refine pGoE (y := 116) (s_getF pc11 fl_X11_157 dX11_trace_487 (ob_68 hst) rfl (by decide)) (by decide) ?_
            refine pGo (s_bipush dX11_trace_490 (by decide)) ?_
            refine pGo (s_iload_n dX11_trace_492 rfl) ?_
            refine pGo (s_aload_n dX11_trace_493 rfl (by decide)) ?_
            refine pGo (s_aload_n dX11_trace_494 rfl (by decide)) ?_
            refine pGoE (y := 107) (s_getF pc11 fl_X11_130 dX11_trace_495 (ob_68 hst) rfl (by decide)) (by decide) ?_
            refine pGo (s_iload_n dX11_trace_498 rfl) ?_
            refine pGoE (y := (rd σ 107 x1)) (s_iald dX11_trace_499 (ob_107 hst) (bnd (g10 c2 c4 c6 c8 c10))) rfl ?_
            refine pGo (s_iload dX11_trace_500 rfl) ?_
            refine p_callV (As := [(0, (rd σ 107 x1)), (0, x6)]) (st := [(0, x3), (0, 10), (2, 116)]) (n := 2) (d' := 0) (Q1 := (fun r τ => r = some (0, (minS σ (rd σ 107 x1) x6)) ∧ τ = σ)) pc11 ok_X11_minutesOf ml_X11_486 im_X11_minutesOf se_X11_minutesOf dX11_trace_502 (ob_68 hst) (pargs_of rfl) rfl (Nat.le_of_ble_eq_true rfl) (by omega) (f3 c2 c4 c6 c8 c10) (fun r3 τ3 e3 q3 w3 => ?_)
            obtain ⟨rfl, t3⟩ := q3
            rw [t3]
            show pR mX11_trace d 505 [(2, 68), (0, x1), (0, x2), (0, x3), (0, x4), (0, x5), (0, x6)] [(0, (minS σ (rd σ 107 x1) x6)), (0, x3), (0, 10), (2, 116)] σ Q
            refine pGo (s_iadd dX11_trace_505) ?_
            refine pGo (s_imul dX11_trace_506) ?_
            refine pGo (s_aload_n dX11_trace_507 rfl (by decide)) ?_
            refine pGoE (y := 78) (s_getF pc11 fl_X11_42 dX11_trace_508 (ob_68 hst) rfl (by decide)) (by decide) ?_
            refine pGo (s_iload dX11_trace_511 rfl) ?_
            refine pGoE (y := (rd σ 78 x6)) (s_iald dX11_trace_513 (ob_78 hst) (bnd (g7 c2 c4 c6))) rfl ?_
            refine pGo (s_iadd dX11_trace_514) ?_
            refine pGoE (y := (rd σ 116 ((10 * (x3 + (minS σ (rd σ 107 x1) x6))) + (rd σ 78 x6)))) (s_zald dX11_trace_515 (ob_116 hst) (bnd (g11 c2 c4 c6 c8 c10))) rfl ?_
            refine p_ifeq (tgt := 523) dX11_trace_516 (by decide) (g12 c2 c4 c6 c8 c10) (fun c11 => ?_) (fun c12 => ?_)
            · refine pGo (s_iconst dX11_trace_523) ?_
              refine pGoL (ls2 := [(2, 68), (0, x1), (0, x2), (0, x3), (0, x4), (0, 0), (0, x6)]) (s_istore dX11_trace_524 (by decide) rfl) rfl ?_
              refine pGoL (ls2 := [(2, 68), (0, x1), (0, x2), (0, x3), (0, x4), (0, 0), (0, (x6 + 1))]) (s_iinc dX11_trace_526 (by decide) rfl rfl) rfl ?_
              refine pGo (s_goto (tgt := 442) dX11_trace_529 (by decide)) ?_
              exact (k6 c2 c4 c6 c8 c10 c11)
            · refine pGo (s_iconst dX11_trace_519) ?_
              refine pGo (s_goto (tgt := 524) dX11_trace_520 (by decide)) ?_
              refine pGoL (ls2 := [(2, 68), (0, x1), (0, x2), (0, x3), (0, x4), (0, 1), (0, x6)]) (s_istore dX11_trace_524 (by decide) rfl) rfl ?_
              refine pGoL (ls2 := [(2, 68), (0, x1), (0, x2), (0, x3), (0, x4), (0, 1), (0, (x6 + 1))]) (s_iinc dX11_trace_526 (by decide) rfl rfl) rfl ?_
              refine pGo (s_goto (tgt := 442) dX11_trace_529 (by decide)) ?_
              exact (k7 c2 c4 c6 c8 c10 c12)
set_option maxRecDepth 100000 in
theorem g_X11_canRide_0 {d : Nat} {σ : pS} {Q : Option pV → pS → Prop} (hd : 3 ≤ d) (hst : Stat σ) (x1 : Int) (x2 : Int) (x3 : Int)  (g1 : 0 ≤ x1 ∧ x1 < 8) (f1 : pC mX11_minutesOf 0 [(2, 68), (0, (rd σ 107 x1)), (0, x2)] σ (fun r τ => r = some (0, (minS σ (rd σ 107 x1) x2)) ∧ τ = σ)) (g2 : inR ((x3 - (minS σ (rd σ 107 x1) x2)) + 1)) (k1 : ∀ (c1 : 0 ≤ ((x3 - (minS σ (rd σ 107 x1) x2)) + 1)), pR mX11_canRide d 37 [(2, 68), (0, x1), (0, x2), (0, x3), (0, (minS σ (rd σ 107 x1) x2)), (0, 0), (0, ((x3 - (minS σ (rd σ 107 x1) x2)) + 1))] [] σ Q) (k2 : ∀ (c2 : ((x3 - (minS σ (rd σ 107 x1) x2)) + 1) < 0), pR mX11_canRide d 37 [(2, 68), (0, x1), (0, x2), (0, x3), (0, (minS σ (rd σ 107 x1) x2)), (0, 0), (0, 0)] [] σ Q) : pC mX11_canRide d [(2, 68), (0, x1), (0, x2), (0, x3)] σ Q := by
  show pR mX11_canRide d 0 [(2, 68), (0, x1), (0, x2), (0, x3), (9, 0), (9, 0), (9, 0)] [] σ Q
  refine pGo (s_aload_n dX11_canRide_0 rfl (by decide)) ?_
  refine pGo (s_aload_n dX11_canRide_1 rfl (by decide)) ?_
  refine pGoE (y := 107) (s_getF pc11 fl_X11_130 dX11_canRide_2 (ob_68 hst) rfl (by decide)) (by decide) ?_
  refine pGo (s_iload_n dX11_canRide_5 rfl) ?_
  refine pGoE (y := (rd σ 107 x1)) (s_iald dX11_canRide_6 (ob_107 hst) (bnd g1)) rfl ?_
  refine pGo (s_iload_n dX11_canRide_7 rfl) ?_
  refine p_callV (As := [(0, (rd σ 107 x1)), (0, x2)]) (st := []) (n := 2) (d' := 0) (Q1 := (fun r τ => r = some (0, (minS σ (rd σ 107 x1) x2)) ∧ τ = σ)) pc11 ok_X11_minutesOf ml_X11_486 im_X11_minutesOf se_X11_minutesOf dX11_canRide_8 (ob_68 hst) (pargs_of rfl) rfl (Nat.le_of_ble_eq_true rfl) (by omega) f1 (fun r1 τ1 e1 q1 w1 => ?_)
  obtain ⟨rfl, t1⟩ := q1
  rw [t1]
  show pR mX11_canRide d 11 [(2, 68), (0, x1), (0, x2), (0, x3), (9, 0), (9, 0), (9, 0)] [(0, (minS σ (rd σ 107 x1) x2))] σ Q
  refine pGoL (ls2 := [(2, 68), (0, x1), (0, x2), (0, x3), (0, (minS σ (rd σ 107 x1) x2)), (9, 0), (9, 0)]) (s_istore dX11_canRide_11 (by decide) rfl) rfl ?_
  refine pGo (s_iconst dX11_canRide_13) ?_
  refine pGoL (ls2 := [(2, 68), (0, x1), (0, x2), (0, x3), (0, (minS σ (rd σ 107 x1) x2)), (0, 0), (9, 0)]) (s_istore dX11_canRide_14 (by decide) rfl) rfl ?_
  refine pGo (s_iload_n dX11_canRide_16 rfl) ?_
  refine pGo (s_iload dX11_canRide_17 rfl) ?_
  refine pGo (s_isub dX11_canRide_19) ?_
  refine pGo (s_iconst dX11_canRide_20) ?_
  refine pGo (s_iadd dX11_canRide_21) ?_
  refine p_ifge (tgt := 29) dX11_canRide_22 (by decide) g2 (fun c1 => ?_) (fun c2 => ?_)
  · refine pGo (s_iload_n dX11_canRide_29 rfl) ?_
    refine pGo (s_iload dX11_canRide_30 rfl) ?_
    refine pGo (s_isub dX11_canRide_32) ?_
    refine pGo (s_iconst dX11_canRide_33) ?_
    refine pGo (s_iadd dX11_canRide_34) ?_
    refine pGoL (ls2 := [(2, 68), (0, x1), (0, x2), (0, x3), (0, (minS σ (rd σ 107 x1) x2)), (0, 0), (0, ((x3 - (minS σ (rd σ 107 x1) x2)) + 1))]) (s_istore dX11_canRide_35 (by decide) rfl) rfl ?_
    exact (k1 c1)
  · refine pGo (s_iconst dX11_canRide_25) ?_
    refine pGo (s_goto (tgt := 35) dX11_canRide_26 (by decide)) ?_
    refine pGoL (ls2 := [(2, 68), (0, x1), (0, x2), (0, x3), (0, (minS σ (rd σ 107 x1) x2)), (0, 0), (0, 0)]) (s_istore dX11_canRide_35 (by decide) rfl) rfl ?_
    exact (k2 c2)
set_option maxRecDepth 100000 in
theorem g_X11_canRide_37 {d : Nat} {σ : pS} {Q : Option pV → pS → Prop} (hd : 3 ≤ d) (hst : Stat σ) (x1 : Int) (x2 : Int) (x3 : Int) (x4 : Int) (x5 : Int) (x6 : Int)  (g1 : inR x6) (g2 : inR x3) (k1 : ∀ (c1 : x3 < x6), Q (some (0, x5)) σ) (g3 : ∀ (c1 : x3 < x6), x5 = 0 ∨ x5 = 1) (g4 : ∀ (c2 : x6 ≤ x3), inR x5) (k2 : ∀ (c2 : x6 ≤ x3) (c3 : x5 ≠ 0), Q (some (0, x5)) σ) (g5 : ∀ (c2 : x6 ≤ x3) (c3 : x5 ≠ 0), x5 = 0 ∨ x5 = 1) (g6 : ∀ (c2 : x6 ≤ x3) (c4 : x5 = 0), 0 ≤ x2 ∧ x2 < 13) (g7 : ∀ (c2 : x6 ≤ x3) (c4 : x5 = 0), 0 ≤ ((10 * x6) + (rd σ 77 x2)) ∧ ((10 * x6) + (rd σ 77 x2)) < 6010) (g8 : ∀ (c2 : x6 ≤ x3) (c4 : x5 = 0), inR (rd σ 115 ((10 * x6) + (rd σ 77 x2)))) (k3 : ∀ (c2 : x6 ≤ x3) (c4 : x5 = 0) (c5 : (rd σ 115 ((10 * x6) + (rd σ 77 x2))) = 0), pR mX11_canRide d 37 [(2, 68), (0, x1), (0, x2), (0, x3), (0, x4), (0, 0), (0, (x6 + 1))] [] σ Q) (f1 : ∀ (c2 : x6 ≤ x3) (c4 : x5 = 0) (c6 : (rd σ 115 ((10 * x6) + (rd σ 77 x2))) ≠ 0), pC mX11_starts 2 [(2, 68), (0, x1), (0, x2), (0, x6)] σ (fun r τ => r = some (0, b2i (vStarts σ x1 x2 x6)) ∧ τ = σ)) (k4 : ∀ (c2 : x6 ≤ x3) (c4 : x5 = 0) (c6 : (rd σ 115 ((10 * x6) + (rd σ 77 x2))) ≠ 0) (c7 : (vStarts σ x1 x2 x6) = false), pR mX11_canRide d 37 [(2, 68), (0, x1), (0, x2), (0, x3), (0, x4), (0, 0), (0, (x6 + 1))] [] σ Q) (g9 : ∀ (c2 : x6 ≤ x3) (c4 : x5 = 0) (c6 : (rd σ 115 ((10 * x6) + (rd σ 77 x2))) ≠ 0) (c8 : (vStarts σ x1 x2 x6) = true), 0 ≤ ((10 * (x6 + x4)) + (rd σ 78 x2)) ∧ ((10 * (x6 + x4)) + (rd σ 78 x2)) < 6010) (g10 : ∀ (c2 : x6 ≤ x3) (c4 : x5 = 0) (c6 : (rd σ 115 ((10 * x6) + (rd σ 77 x2))) ≠ 0) (c8 : (vStarts σ x1 x2 x6) = true), inR (rd σ 116 ((10 * (x6 + x4)) + (rd σ 78 x2)))) (k5 : ∀ (c2 : x6 ≤ x3) (c4 : x5 = 0) (c6 : (rd σ 115 ((10 * x6) + (rd σ 77 x2))) ≠ 0) (c8 : (vStarts σ x1 x2 x6) = true) (c9 : (rd σ 116 ((10 * (x6 + x4)) + (rd σ 78 x2))) = 0), pR mX11_canRide d 37 [(2, 68), (0, x1), (0, x2), (0, x3), (0, x4), (0, 0), (0, (x6 + 1))] [] σ Q) (k6 : ∀ (c2 : x6 ≤ x3) (c4 : x5 = 0) (c6 : (rd σ 115 ((10 * x6) + (rd σ 77 x2))) ≠ 0) (c8 : (vStarts σ x1 x2 x6) = true) (c10 : (rd σ 116 ((10 * (x6 + x4)) + (rd σ 78 x2))) ≠ 0), pR mX11_canRide d 37 [(2, 68), (0, x1), (0, x2), (0, x3), (0, x4), (0, 1), (0, (x6 + 1))] [] σ Q) : pR mX11_canRide d 37 [(2, 68), (0, x1), (0, x2), (0, x3), (0, x4), (0, x5), (0, x6)] [] σ Q := by
  refine pGo (s_iload dX11_canRide_37 rfl) ?_
  refine pGo (s_iload_n dX11_canRide_39 rfl) ?_
  refine p_icgt (tgt := 115) dX11_canRide_40 (by decide) g1 g2 (fun c1 => ?_) (fun c2 => ?_)
  · refine pGo (s_iload dX11_canRide_115 rfl) ?_
    exact pEnd (r := (some (0, x5))) dX11_canRide_117 (pRok_01 (g3 c1)) (k1 c1)
  · refine pGo (s_iload dX11_canRide_43 rfl) ?_
    refine p_ifne (tgt := 115) dX11_canRide_45 (by decide) (g4 c2) (fun c3 => ?_) (fun c4 => ?_)
    · refine pGo (s_iload dX11_canRide_115 rfl) ?_
      exact pEnd (r := (some (0, x5))) dX11_canRide_117 (pRok_01 (g5 c2 c3)) (k2 c2 c3)
    · refine pGo (s_aload_n dX11_canRide_48 rfl (by decide)) ?_
      refine pGoE (y := 115) (s_getF pc11 fl_X11_154 dX11_canRide_49 (ob_68 hst) rfl (by decide)) (by decide) ?_
      refine pGo (s_bipush dX11_canRide_52 (by decide)) ?_
      refine pGo (s_iload dX11_canRide_54 rfl) ?_
      refine pGo (s_imul dX11_canRide_56) ?_
      refine pGo (s_aload_n dX11_canRide_57 rfl (by decide)) ?_
      refine pGoE (y := 77) (s_getF pc11 fl_X11_39 dX11_canRide_58 (ob_68 hst) rfl (by decide)) (by decide) ?_
      refine pGo (s_iload_n dX11_canRide_61 rfl) ?_
      refine pGoE (y := (rd σ 77 x2)) (s_iald dX11_canRide_62 (ob_77 hst) (bnd (g6 c2 c4))) rfl ?_
      refine pGo (s_iadd dX11_canRide_63) ?_
      refine pGoE (y := (rd σ 115 ((10 * x6) + (rd σ 77 x2)))) (s_zald dX11_canRide_64 (ob_115 hst) (bnd (g7 c2 c4))) rfl ?_
      refine p_ifeq (tgt := 106) dX11_canRide_65 (by decide) (g8 c2 c4) (fun c5 => ?_) (fun c6 => ?_)
      · refine pGo (s_iconst dX11_canRide_106) ?_
        refine pGoL (ls2 := [(2, 68), (0, x1), (0, x2), (0, x3), (0, x4), (0, 0), (0, x6)]) (s_istore dX11_canRide_107 (by decide) rfl) rfl ?_
        refine pGoL (ls2 := [(2, 68), (0, x1), (0, x2), (0, x3), (0, x4), (0, 0), (0, (x6 + 1))]) (s_iinc dX11_canRide_109 (by decide) rfl rfl) rfl ?_
        refine pGo (s_goto (tgt := 37) dX11_canRide_112 (by decide)) ?_
        exact (k3 c2 c4 c5)
      · refine pGo (s_aload_n dX11_canRide_68 rfl (by decide)) ?_
        refine pGo (s_iload_n dX11_canRide_69 rfl) ?_
        refine pGo (s_iload_n dX11_canRide_70 rfl) ?_
        refine pGo (s_iload dX11_canRide_71 rfl) ?_
        refine p_callV (As := [(0, x1), (0, x2), (0, x6)]) (st := []) (n := 3) (d' := 2) (Q1 := (fun r τ => r = some (0, b2i (vStarts σ x1 x2 x6)) ∧ τ = σ)) pc11 ok_X11_starts ml_X11_515 im_X11_starts se_X11_starts dX11_canRide_73 (ob_68 hst) (pargs_of rfl) rfl (Nat.le_of_ble_eq_true rfl) (by omega) (f1 c2 c4 c6) (fun r1 τ1 e1 q1 w1 => ?_)
        obtain ⟨rfl, t1⟩ := q1
        rw [t1]
        show pR mX11_canRide d 76 [(2, 68), (0, x1), (0, x2), (0, x3), (0, x4), (0, x5), (0, x6)] [(0, (b2i (vStarts σ x1 x2 x6)))] σ Q
        refine p_ifeqB (tgt := 106) dX11_canRide_76 (by decide) (fun c7 => ?_) (fun c8 => ?_)
        · refine pGo (s_iconst dX11_canRide_106) ?_
          refine pGoL (ls2 := [(2, 68), (0, x1), (0, x2), (0, x3), (0, x4), (0, 0), (0, x6)]) (s_istore dX11_canRide_107 (by decide) rfl) rfl ?_
          refine pGoL (ls2 := [(2, 68), (0, x1), (0, x2), (0, x3), (0, x4), (0, 0), (0, (x6 + 1))]) (s_iinc dX11_canRide_109 (by decide) rfl rfl) rfl ?_
          refine pGo (s_goto (tgt := 37) dX11_canRide_112 (by decide)) ?_
          exact (k4 c2 c4 c6 c7)
        · refine pGo (s_aload_n dX11_canRide_79 rfl (by decide)) ?_
          refine pGoE (y := 116) (s_getF pc11 fl_X11_157 dX11_canRide_80 (ob_68 hst) rfl (by decide)) (by decide) ?_
          refine pGo (s_bipush dX11_canRide_83 (by decide)) ?_
          refine pGo (s_iload dX11_canRide_85 rfl) ?_
          refine pGo (s_iload dX11_canRide_87 rfl) ?_
          refine pGo (s_iadd dX11_canRide_89) ?_
          refine pGo (s_imul dX11_canRide_90) ?_
          refine pGo (s_aload_n dX11_canRide_91 rfl (by decide)) ?_
          refine pGoE (y := 78) (s_getF pc11 fl_X11_42 dX11_canRide_92 (ob_68 hst) rfl (by decide)) (by decide) ?_
          refine pGo (s_iload_n dX11_canRide_95 rfl) ?_
          refine pGoE (y := (rd σ 78 x2)) (s_iald dX11_canRide_96 (ob_78 hst) (bnd (g6 c2 c4))) rfl ?_
          refine pGo (s_iadd dX11_canRide_97) ?_
          refine pGoE (y := (rd σ 116 ((10 * (x6 + x4)) + (rd σ 78 x2)))) (s_zald dX11_canRide_98 (ob_116 hst) (bnd (g9 c2 c4 c6 c8))) rfl ?_
          refine p_ifeq (tgt := 106) dX11_canRide_99 (by decide) (g10 c2 c4 c6 c8) (fun c9 => ?_) (fun c10 => ?_)
          · refine pGo (s_iconst dX11_canRide_106) ?_
            refine pGoL (ls2 := [(2, 68), (0, x1), (0, x2), (0, x3), (0, x4), (0, 0), (0, x6)]) (s_istore dX11_canRide_107 (by decide) rfl) rfl ?_
            refine pGoL (ls2 := [(2, 68), (0, x1), (0, x2), (0, x3), (0, x4), (0, 0), (0, (x6 + 1))]) (s_iinc dX11_canRide_109 (by decide) rfl rfl) rfl ?_
            refine pGo (s_goto (tgt := 37) dX11_canRide_112 (by decide)) ?_
            exact (k5 c2 c4 c6 c8 c9)
          · refine pGo (s_iconst dX11_canRide_102) ?_
            refine pGo (s_goto (tgt := 107) dX11_canRide_103 (by decide)) ?_
            refine pGoL (ls2 := [(2, 68), (0, x1), (0, x2), (0, x3), (0, x4), (0, 1), (0, x6)]) (s_istore dX11_canRide_107 (by decide) rfl) rfl ?_
            refine pGoL (ls2 := [(2, 68), (0, x1), (0, x2), (0, x3), (0, x4), (0, 1), (0, (x6 + 1))]) (s_iinc dX11_canRide_109 (by decide) rfl rfl) rfl ?_
            refine pGo (s_goto (tgt := 37) dX11_canRide_112 (by decide)) ?_
            exact (k6 c2 c4 c6 c8 c10)
set_option maxRecDepth 100000 in
theorem g_X11_can_0 {d : Nat} {σ : pS} {Q : Option pV → pS → Prop} {Q1 : Option pV → pS → Prop} (hd : 4 ≤ d) (hst : Stat σ) (x1 : Int) (x2 : Int) (x3 : Int) (x4 : Int)  (f1 : pC mX11_isSkier 0 [(2, 68), (0, x1)] σ (fun r τ => r = some (0, b2i (vWithin x1 (rd σ 68 64))) ∧ τ = σ)) (k1 : ∀ (c1 : (vWithin x1 (rd σ 68 64)) = false), Q (some (0, (-1))) σ) (f2 : ∀ (c2 : (vWithin x1 (rd σ 68 64)) = true), pC mX11_isPlace 0 [(0, x2)] σ (fun r τ => r = some (0, b2i (vWithin x2 10)) ∧ τ = σ)) (k2 : ∀ (c2 : (vWithin x1 (rd σ 68 64)) = true) (c3 : (vWithin x2 10) = false), Q (some (0, (-1))) σ) (f3 : ∀ (c2 : (vWithin x1 (rd σ 68 64)) = true) (c4 : (vWithin x2 10) = true), pC mX11_isMinute 0 [(0, x3)] σ (fun r τ => r = some (0, b2i (vWithin x3 541)) ∧ τ = σ)) (f4 : ∀ (c2 : (vWithin x1 (rd σ 68 64)) = true) (c4 : (vWithin x2 10) = true) (c5 : (vWithin x3 541) = true), pC mX11_trace 3 [(2, 68), (0, x1), (0, x4)] σ Q1) (f5 : ∀ (c2 : (vWithin x1 (rd σ 68 64)) = true) (c4 : (vWithin x2 10) = true) (c5 : (vWithin x3 541) = true) (τ4 : pS) (e4 : pLe σ τ4) (q4 : Q1 none τ4), pC mX11_canBe 0 [(2, 68), (0, x2), (0, x3)] τ4 (fun r τ => r = some (0, b2i (vCanBe τ4 x2 x3)) ∧ τ = τ4)) (k3 : ∀ (c2 : (vWithin x1 (rd σ 68 64)) = true) (c4 : (vWithin x2 10) = true) (c5 : (vWithin x3 541) = true) (τ4 : pS) (e4 : pLe σ τ4) (q4 : Q1 none τ4) (c7 : (vCanBe τ4 x2 x3) = false), Q (some (0, 0)) τ4) (k4 : ∀ (c2 : (vWithin x1 (rd σ 68 64)) = true) (c4 : (vWithin x2 10) = true) (c5 : (vWithin x3 541) = true) (τ4 : pS) (e4 : pLe σ τ4) (q4 : Q1 none τ4) (c8 : (vCanBe τ4 x2 x3) = true), Q (some (0, 1)) τ4) (k5 : ∀ (c2 : (vWithin x1 (rd σ 68 64)) = true) (c4 : (vWithin x2 10) = true) (c6 : (vWithin x3 541) = false), Q (some (0, (-1))) σ) : pC mX11_can d [(2, 68), (0, x1), (0, x2), (0, x3), (0, x4)] σ Q := by
  show pR mX11_can d 0 [(2, 68), (0, x1), (0, x2), (0, x3), (0, x4)] [] σ Q
  refine pGo (s_aload_n dX11_can_0 rfl (by decide)) ?_
  refine pGo (s_iload_n dX11_can_1 rfl) ?_
  refine p_callV (As := [(0, x1)]) (st := []) (n := 1) (d' := 0) (Q1 := (fun r τ => r = some (0, b2i (vWithin x1 (rd σ 68 64))) ∧ τ = σ)) pc11 ok_X11_isSkier ml_X11_512 im_X11_isSkier se_X11_isSkier dX11_can_2 (ob_68 hst) (pargs_of rfl) rfl (Nat.le_of_ble_eq_true rfl) (by omega) f1 (fun r1 τ1 e1 q1 w1 => ?_)
  obtain ⟨rfl, t1⟩ := q1
  rw [t1]
  show pR mX11_can d 5 [(2, 68), (0, x1), (0, x2), (0, x3), (0, x4)] [(0, (b2i (vWithin x1 (rd σ 68 64))))] σ Q
  refine p_ifeqB (tgt := 22) dX11_can_5 (by decide) (fun c1 => ?_) (fun c2 => ?_)
  · refine pGo (s_iconst dX11_can_22) ?_
    exact pEnd (r := (some (0, (-1)))) dX11_can_23 ⟨_, rfl⟩ (k1 c1)
  · refine pGo (s_iload_n dX11_can_8 rfl) ?_
    refine p_callS (As := [(0, x2)]) (st := []) (n := 1) (d' := 0) (Q1 := (fun r τ => r = some (0, b2i (vWithin x2 10)) ∧ τ = σ)) ok_X11_isPlace ml_X11_496 sm_X11_isPlace dX11_can_9 (pargs_of rfl) rfl (Nat.le_of_ble_eq_true rfl) (by omega) (f2 c2) (fun r2 τ2 e2 q2 w2 => ?_)
    obtain ⟨rfl, t2⟩ := q2
    rw [t2]
    show pR mX11_can d 12 [(2, 68), (0, x1), (0, x2), (0, x3), (0, x4)] [(0, (b2i (vWithin x2 10)))] σ Q
    refine p_ifeqB (tgt := 22) dX11_can_12 (by decide) (fun c3 => ?_) (fun c4 => ?_)
    · refine pGo (s_iconst dX11_can_22) ?_
      exact pEnd (r := (some (0, (-1)))) dX11_can_23 ⟨_, rfl⟩ (k2 c2 c3)
    · refine pGo (s_iload_n dX11_can_15 rfl) ?_
      refine p_callS (As := [(0, x3)]) (st := []) (n := 1) (d' := 0) (Q1 := (fun r τ => r = some (0, b2i (vWithin x3 541)) ∧ τ = σ)) ok_X11_isMinute ml_X11_518 sm_X11_isMinute dX11_can_16 (pargs_of rfl) rfl (Nat.le_of_ble_eq_true rfl) (by omega) (f3 c2 c4) (fun r3 τ3 e3 q3 w3 => ?_)
      obtain ⟨rfl, t3⟩ := q3
      rw [t3]
      show pR mX11_can d 19 [(2, 68), (0, x1), (0, x2), (0, x3), (0, x4)] [(0, (b2i (vWithin x3 541)))] σ Q
      refine p_ifneB (tgt := 24) dX11_can_19 (by decide) (fun c5 => ?_) (fun c6 => ?_)
      · refine pGo (s_aload_n dX11_can_24 rfl (by decide)) ?_
        refine pGo (s_iload_n dX11_can_25 rfl) ?_
        refine pGo (s_iload dX11_can_26 rfl) ?_
        refine p_callV (As := [(0, x1), (0, x4)]) (st := []) (n := 2) (d' := 3) (Q1 := Q1) pc11 ok_X11_trace ml_X11_521 im_X11_trace se_X11_trace dX11_can_28 (ob_68 hst) (pargs_of rfl) rfl (Nat.le_of_ble_eq_true rfl) (by omega) (f4 c2 c4 c5) (fun r4 τ4 e4 q4 w4 => ?_)
        obtain rfl : r4 = none := w4
        have S4 : Stat τ4 := (Stat.le (σ := σ) hst e4)
        show pR mX11_can d 31 [(2, 68), (0, x1), (0, x2), (0, x3), (0, x4)] [] τ4 Q
        refine pGo (s_aload_n dX11_can_31 rfl (by decide)) ?_
        refine pGo (s_iload_n dX11_can_32 rfl) ?_
        refine pGo (s_iload_n dX11_can_33 rfl) ?_
        refine p_callV (As := [(0, x2), (0, x3)]) (st := []) (n := 2) (d' := 0) (Q1 := (fun r τ => r = some (0, b2i (vCanBe τ4 x2 x3)) ∧ τ = τ4)) pc11 ok_X11_canBe ml_X11_524 im_X11_canBe se_X11_canBe dX11_can_34 (ob_68 S4) (pargs_of rfl) rfl (Nat.le_of_ble_eq_true rfl) (by omega) (f5 c2 c4 c5 τ4 e4 q4) (fun r5 τ5 e5 q5 w5 => ?_)
        obtain ⟨rfl, t5⟩ := q5
        rw [t5]
        show pR mX11_can d 37 [(2, 68), (0, x1), (0, x2), (0, x3), (0, x4)] [(0, (b2i (vCanBe τ4 x2 x3)))] τ4 Q
        refine p_ifeqB (tgt := 44) dX11_can_37 (by decide) (fun c7 => ?_) (fun c8 => ?_)
        · refine pGo (s_iconst dX11_can_44) ?_
          exact pEnd (r := (some (0, 0))) dX11_can_45 ⟨_, rfl⟩ (k3 c2 c4 c5 τ4 e4 q4 c7)
        · refine pGo (s_iconst dX11_can_40) ?_
          refine pGo (s_goto (tgt := 45) dX11_can_41 (by decide)) ?_
          exact pEnd (r := (some (0, 1))) dX11_can_45 ⟨_, rfl⟩ (k4 c2 c4 c5 τ4 e4 q4 c8)
      · refine pGo (s_iconst dX11_can_22) ?_
        exact pEnd (r := (some (0, (-1)))) dX11_can_23 ⟨_, rfl⟩ (k5 c2 c4 c6)
set_option maxRecDepth 100000 in
theorem g_X11_canOn_0 {d : Nat} {σ : pS} {Q : Option pV → pS → Prop} {Q1 : Option pV → pS → Prop} {Q2 : Option pV → pS → Prop} (hd : 4 ≤ d) (hst : Stat σ) (x1 : Int) (x2 : Int) (x3 : Int) (x4 : Int)  (f1 : pC mX11_wayOf 1 [(2, 68), (0, x2)] σ (fun r τ => r = some (0, (vWayOf (rd σ 68 30) (rd σ 68 31) x2)) ∧ τ = σ)) (f2 : pC mX11_isSkier 0 [(2, 68), (0, x1)] σ (fun r τ => r = some (0, b2i (vWithin x1 (rd σ 68 64))) ∧ τ = σ)) (k1 : ∀ (c1 : (vWithin x1 (rd σ 68 64)) = false), Q (some (0, (-1))) σ) (g1 : ∀ (c2 : (vWithin x1 (rd σ 68 64)) = true), inR (vWayOf (rd σ 68 30) (rd σ 68 31) x2)) (k2 : ∀ (c2 : (vWithin x1 (rd σ 68 64)) = true) (c3 : (vWayOf (rd σ 68 30) (rd σ 68 31) x2) < 0), Q (some (0, (-1))) σ) (f3 : ∀ (c2 : (vWithin x1 (rd σ 68 64)) = true) (c4 : 0 ≤ (vWayOf (rd σ 68 30) (rd σ 68 31) x2)), pC mX11_isMinute 0 [(0, x3)] σ (fun r τ => r = some (0, b2i (vWithin x3 541)) ∧ τ = σ)) (f4 : ∀ (c2 : (vWithin x1 (rd σ 68 64)) = true) (c4 : 0 ≤ (vWayOf (rd σ 68 30) (rd σ 68 31) x2)) (c5 : (vWithin x3 541) = true), pC mX11_trace 3 [(2, 68), (0, x1), (0, x4)] σ Q1) (f5 : ∀ (c2 : (vWithin x1 (rd σ 68 64)) = true) (c4 : 0 ≤ (vWayOf (rd σ 68 30) (rd σ 68 31) x2)) (c5 : (vWithin x3 541) = true) (τ4 : pS) (e4 : pLe σ τ4) (q4 : Q1 none τ4), pC mX11_canRide 3 [(2, 68), (0, x1), (0, (vWayOf (rd σ 68 30) (rd σ 68 31) x2)), (0, x3)] τ4 Q2) (g2 : ∀ (c2 : (vWithin x1 (rd σ 68 64)) = true) (c4 : 0 ≤ (vWayOf (rd σ 68 30) (rd σ 68 31) x2)) (c5 : (vWithin x3 541) = true) (τ4 : pS) (e4 : pLe σ τ4) (q4 : Q1 none τ4) (v5 : Int) (b5 : v5 = 0 ∨ v5 = 1) (τ5 : pS) (e5 : pLe τ4 τ5) (q5 : Q2 (some (0, v5)) τ5), inR v5) (k3 : ∀ (c2 : (vWithin x1 (rd σ 68 64)) = true) (c4 : 0 ≤ (vWayOf (rd σ 68 30) (rd σ 68 31) x2)) (c5 : (vWithin x3 541) = true) (τ4 : pS) (e4 : pLe σ τ4) (q4 : Q1 none τ4) (v5 : Int) (b5 : v5 = 0 ∨ v5 = 1) (τ5 : pS) (e5 : pLe τ4 τ5) (q5 : Q2 (some (0, v5)) τ5) (c7 : v5 = 0), Q (some (0, 0)) τ5) (k4 : ∀ (c2 : (vWithin x1 (rd σ 68 64)) = true) (c4 : 0 ≤ (vWayOf (rd σ 68 30) (rd σ 68 31) x2)) (c5 : (vWithin x3 541) = true) (τ4 : pS) (e4 : pLe σ τ4) (q4 : Q1 none τ4) (v5 : Int) (b5 : v5 = 0 ∨ v5 = 1) (τ5 : pS) (e5 : pLe τ4 τ5) (q5 : Q2 (some (0, v5)) τ5) (c8 : v5 ≠ 0), Q (some (0, 1)) τ5) (k5 : ∀ (c2 : (vWithin x1 (rd σ 68 64)) = true) (c4 : 0 ≤ (vWayOf (rd σ 68 30) (rd σ 68 31) x2)) (c6 : (vWithin x3 541) = false), Q (some (0, (-1))) σ) : pC mX11_canOn d [(2, 68), (0, x1), (0, x2), (0, x3), (0, x4)] σ Q := by
  show pR mX11_canOn d 0 [(2, 68), (0, x1), (0, x2), (0, x3), (0, x4), (9, 0)] [] σ Q
  refine pGo (s_aload_n dX11_canOn_0 rfl (by decide)) ?_
  refine pGo (s_iload_n dX11_canOn_1 rfl) ?_
  refine p_callV (As := [(0, x2)]) (st := []) (n := 1) (d' := 1) (Q1 := (fun r τ => r = some (0, (vWayOf (rd σ 68 30) (rd σ 68 31) x2)) ∧ τ = σ)) pc11 ok_X11_wayOf ml_X11_477 im_X11_wayOf se_X11_wayOf dX11_canOn_2 (ob_68 hst) (pargs_of rfl) rfl (Nat.le_of_ble_eq_true rfl) (by omega) f1 (fun r1 τ1 e1 q1 w1 => ?_)
  obtain ⟨rfl, t1⟩ := q1
  rw [t1]
  show pR mX11_canOn d 5 [(2, 68), (0, x1), (0, x2), (0, x3), (0, x4), (9, 0)] [(0, (vWayOf (rd σ 68 30) (rd σ 68 31) x2))] σ Q
  refine pGoL (ls2 := [(2, 68), (0, x1), (0, x2), (0, x3), (0, x4), (0, (vWayOf (rd σ 68 30) (rd σ 68 31) x2))]) (s_istore dX11_canOn_5 (by decide) rfl) rfl ?_
  refine pGo (s_aload_n dX11_canOn_7 rfl (by decide)) ?_
  refine pGo (s_iload_n dX11_canOn_8 rfl) ?_
  refine p_callV (As := [(0, x1)]) (st := []) (n := 1) (d' := 0) (Q1 := (fun r τ => r = some (0, b2i (vWithin x1 (rd σ 68 64))) ∧ τ = σ)) pc11 ok_X11_isSkier ml_X11_512 im_X11_isSkier se_X11_isSkier dX11_canOn_9 (ob_68 hst) (pargs_of rfl) rfl (Nat.le_of_ble_eq_true rfl) (by omega) f2 (fun r2 τ2 e2 q2 w2 => ?_)
  obtain ⟨rfl, t2⟩ := q2
  rw [t2]
  show pR mX11_canOn d 12 [(2, 68), (0, x1), (0, x2), (0, x3), (0, x4), (0, (vWayOf (rd σ 68 30) (rd σ 68 31) x2))] [(0, (b2i (vWithin x1 (rd σ 68 64))))] σ Q
  refine p_ifeqB (tgt := 27) dX11_canOn_12 (by decide) (fun c1 => ?_) (fun c2 => ?_)
  · refine pGo (s_iconst dX11_canOn_27) ?_
    exact pEnd (r := (some (0, (-1)))) dX11_canOn_28 ⟨_, rfl⟩ (k1 c1)
  · refine pGo (s_iload dX11_canOn_15 rfl) ?_
    refine p_iflt (tgt := 27) dX11_canOn_17 (by decide) (g1 c2) (fun c3 => ?_) (fun c4 => ?_)
    · refine pGo (s_iconst dX11_canOn_27) ?_
      exact pEnd (r := (some (0, (-1)))) dX11_canOn_28 ⟨_, rfl⟩ (k2 c2 c3)
    · refine pGo (s_iload_n dX11_canOn_20 rfl) ?_
      refine p_callS (As := [(0, x3)]) (st := []) (n := 1) (d' := 0) (Q1 := (fun r τ => r = some (0, b2i (vWithin x3 541)) ∧ τ = σ)) ok_X11_isMinute ml_X11_518 sm_X11_isMinute dX11_canOn_21 (pargs_of rfl) rfl (Nat.le_of_ble_eq_true rfl) (by omega) (f3 c2 c4) (fun r3 τ3 e3 q3 w3 => ?_)
      obtain ⟨rfl, t3⟩ := q3
      rw [t3]
      show pR mX11_canOn d 24 [(2, 68), (0, x1), (0, x2), (0, x3), (0, x4), (0, (vWayOf (rd σ 68 30) (rd σ 68 31) x2))] [(0, (b2i (vWithin x3 541)))] σ Q
      refine p_ifneB (tgt := 29) dX11_canOn_24 (by decide) (fun c5 => ?_) (fun c6 => ?_)
      · refine pGo (s_aload_n dX11_canOn_29 rfl (by decide)) ?_
        refine pGo (s_iload_n dX11_canOn_30 rfl) ?_
        refine pGo (s_iload dX11_canOn_31 rfl) ?_
        refine p_callV (As := [(0, x1), (0, x4)]) (st := []) (n := 2) (d' := 3) (Q1 := Q1) pc11 ok_X11_trace ml_X11_521 im_X11_trace se_X11_trace dX11_canOn_33 (ob_68 hst) (pargs_of rfl) rfl (Nat.le_of_ble_eq_true rfl) (by omega) (f4 c2 c4 c5) (fun r4 τ4 e4 q4 w4 => ?_)
        obtain rfl : r4 = none := w4
        have S4 : Stat τ4 := (Stat.le (σ := σ) hst e4)
        show pR mX11_canOn d 36 [(2, 68), (0, x1), (0, x2), (0, x3), (0, x4), (0, (vWayOf (rd σ 68 30) (rd σ 68 31) x2))] [] τ4 Q
        refine pGo (s_aload_n dX11_canOn_36 rfl (by decide)) ?_
        refine pGo (s_iload_n dX11_canOn_37 rfl) ?_
        refine pGo (s_iload dX11_canOn_38 rfl) ?_
        refine pGo (s_iload_n dX11_canOn_40 rfl) ?_
        refine p_callV (As := [(0, x1), (0, (vWayOf (rd σ 68 30) (rd σ 68 31) x2)), (0, x3)]) (st := []) (n := 3) (d' := 3) (Q1 := Q2) pc11 ok_X11_canRide ml_X11_527 im_X11_canRide se_X11_canRide dX11_canOn_41 (ob_68 S4) (pargs_of rfl) rfl (Nat.le_of_ble_eq_true rfl) (by omega) (f5 c2 c4 c5 τ4 e4 q4) (fun r5 τ5 e5 q5 w5 => ?_)
        obtain ⟨v5, rfl, b5⟩ := pRok_z w5
        have S5 : Stat τ5 := (Stat.le (σ := τ4) S4 e5)
        show pR mX11_canOn d 44 [(2, 68), (0, x1), (0, x2), (0, x3), (0, x4), (0, (vWayOf (rd σ 68 30) (rd σ 68 31) x2))] [(0, v5)] τ5 Q
        refine p_ifeq (tgt := 51) dX11_canOn_44 (by decide) (g2 c2 c4 c5 τ4 e4 q4 v5 b5 τ5 e5 q5) (fun c7 => ?_) (fun c8 => ?_)
        · refine pGo (s_iconst dX11_canOn_51) ?_
          exact pEnd (r := (some (0, 0))) dX11_canOn_52 ⟨_, rfl⟩ (k3 c2 c4 c5 τ4 e4 q4 v5 b5 τ5 e5 q5 c7)
        · refine pGo (s_iconst dX11_canOn_47) ?_
          refine pGo (s_goto (tgt := 52) dX11_canOn_48 (by decide)) ?_
          exact pEnd (r := (some (0, 1))) dX11_canOn_52 ⟨_, rfl⟩ (k4 c2 c4 c5 τ4 e4 q4 v5 b5 τ5 e5 q5 c8)
      · refine pGo (s_iconst dX11_canOn_27) ?_
        exact pEnd (r := (some (0, (-1)))) dX11_canOn_28 ⟨_, rfl⟩ (k5 c2 c4 c6)
set_option maxRecDepth 100000 in
theorem g_X11_places_0 {d : Nat} {σ : pS} {Q : Option pV → pS → Prop} {Q1 : Option pV → pS → Prop} (hd : 4 ≤ d) (hst : Stat σ) (x1 : Int) (x2 : Int) (x3 : Int)  (f1 : pC mX11_isSkier 0 [(2, 68), (0, x1)] σ (fun r τ => r = some (0, b2i (vWithin x1 (rd σ 68 64))) ∧ τ = σ)) (k1 : ∀ (c1 : (vWithin x1 (rd σ 68 64)) = false), Q (some (0, (-1))) σ) (f2 : ∀ (c2 : (vWithin x1 (rd σ 68 64)) = true), pC mX11_isMinute 0 [(0, x2)] σ (fun r τ => r = some (0, b2i (vWithin x2 541)) ∧ τ = σ)) (f3 : ∀ (c2 : (vWithin x1 (rd σ 68 64)) = true) (c3 : (vWithin x2 541) = true), pC mX11_trace 3 [(2, 68), (0, x1), (0, x3)] σ Q1) (k2 : ∀ (c2 : (vWithin x1 (rd σ 68 64)) = true) (c3 : (vWithin x2 541) = true) (τ3 : pS) (e3 : pLe σ τ3) (q3 : Q1 none τ3), pR mX11_places d 29 [(2, 68), (0, x1), (0, x2), (0, x3), (0, 0), (0, 0)] [] τ3 Q) (k3 : ∀ (c2 : (vWithin x1 (rd σ 68 64)) = true) (c4 : (vWithin x2 541) = false), Q (some (0, (-1))) σ) : pC mX11_places d [(2, 68), (0, x1), (0, x2), (0, x3)] σ Q := by
  show pR mX11_places d 0 [(2, 68), (0, x1), (0, x2), (0, x3), (9, 0), (9, 0)] [] σ Q
  refine pGo (s_aload_n dX11_places_0 rfl (by decide)) ?_
  refine pGo (s_iload_n dX11_places_1 rfl) ?_
  refine p_callV (As := [(0, x1)]) (st := []) (n := 1) (d' := 0) (Q1 := (fun r τ => r = some (0, b2i (vWithin x1 (rd σ 68 64))) ∧ τ = σ)) pc11 ok_X11_isSkier ml_X11_512 im_X11_isSkier se_X11_isSkier dX11_places_2 (ob_68 hst) (pargs_of rfl) rfl (Nat.le_of_ble_eq_true rfl) (by omega) f1 (fun r1 τ1 e1 q1 w1 => ?_)
  obtain ⟨rfl, t1⟩ := q1
  rw [t1]
  show pR mX11_places d 5 [(2, 68), (0, x1), (0, x2), (0, x3), (9, 0), (9, 0)] [(0, (b2i (vWithin x1 (rd σ 68 64))))] σ Q
  refine p_ifeqB (tgt := 15) dX11_places_5 (by decide) (fun c1 => ?_) (fun c2 => ?_)
  · refine pGo (s_iconst dX11_places_15) ?_
    exact pEnd (r := (some (0, (-1)))) dX11_places_16 ⟨_, rfl⟩ (k1 c1)
  · refine pGo (s_iload_n dX11_places_8 rfl) ?_
    refine p_callS (As := [(0, x2)]) (st := []) (n := 1) (d' := 0) (Q1 := (fun r τ => r = some (0, b2i (vWithin x2 541)) ∧ τ = σ)) ok_X11_isMinute ml_X11_518 sm_X11_isMinute dX11_places_9 (pargs_of rfl) rfl (Nat.le_of_ble_eq_true rfl) (by omega) (f2 c2) (fun r2 τ2 e2 q2 w2 => ?_)
    obtain ⟨rfl, t2⟩ := q2
    rw [t2]
    show pR mX11_places d 12 [(2, 68), (0, x1), (0, x2), (0, x3), (9, 0), (9, 0)] [(0, (b2i (vWithin x2 541)))] σ Q
    refine p_ifneB (tgt := 17) dX11_places_12 (by decide) (fun c3 => ?_) (fun c4 => ?_)
    · refine pGo (s_aload_n dX11_places_17 rfl (by decide)) ?_
      refine pGo (s_iload_n dX11_places_18 rfl) ?_
      refine pGo (s_iload_n dX11_places_19 rfl) ?_
      refine p_callV (As := [(0, x1), (0, x3)]) (st := []) (n := 2) (d' := 3) (Q1 := Q1) pc11 ok_X11_trace ml_X11_521 im_X11_trace se_X11_trace dX11_places_20 (ob_68 hst) (pargs_of rfl) rfl (Nat.le_of_ble_eq_true rfl) (by omega) (f3 c2 c3) (fun r3 τ3 e3 q3 w3 => ?_)
      obtain rfl : r3 = none := w3
      have S3 : Stat τ3 := (Stat.le (σ := σ) hst e3)
      show pR mX11_places d 23 [(2, 68), (0, x1), (0, x2), (0, x3), (9, 0), (9, 0)] [] τ3 Q
      refine pGo (s_iconst dX11_places_23) ?_
      refine pGoL (ls2 := [(2, 68), (0, x1), (0, x2), (0, x3), (0, 0), (9, 0)]) (s_istore dX11_places_24 (by decide) rfl) rfl ?_
      refine pGo (s_iconst dX11_places_26) ?_
      refine pGoL (ls2 := [(2, 68), (0, x1), (0, x2), (0, x3), (0, 0), (0, 0)]) (s_istore dX11_places_27 (by decide) rfl) rfl ?_
      exact (k2 c2 c3 τ3 e3 q3)
    · refine pGo (s_iconst dX11_places_15) ?_
      exact pEnd (r := (some (0, (-1)))) dX11_places_16 ⟨_, rfl⟩ (k3 c2 c4)
set_option maxRecDepth 100000 in
theorem g_X11_places_29 {d : Nat} {σ : pS} {Q : Option pV → pS → Prop} (hd : 4 ≤ d) (hst : Stat σ) (x1 : Int) (x2 : Int) (x3 : Int) (x4 : Int) (x5 : Int)  (g1 : inR x5) (k1 : ∀ (c1 : 10 ≤ x5), pR mX11_places d 65 [(2, 68), (0, x1), (0, x2), (0, x3), (0, x4), (0, 0)] [] σ Q) (f1 : ∀ (c2 : x5 < 10), pC mX11_canBe 0 [(2, 68), (0, x5), (0, x2)] σ (fun r τ => r = some (0, b2i (vCanBe σ x5 x2)) ∧ τ = σ)) (k2 : ∀ (c2 : x5 < 10) (c3 : (vCanBe σ x5 x2) = false), pR mX11_places d 29 [(2, 68), (0, x1), (0, x2), (0, x3), (0, (x4 + 0)), (0, (x5 + 1))] [] σ Q) (k3 : ∀ (c2 : x5 < 10) (c4 : (vCanBe σ x5 x2) = true), pR mX11_places d 29 [(2, 68), (0, x1), (0, x2), (0, x3), (0, (x4 + 1)), (0, (x5 + 1))] [] σ Q) : pR mX11_places d 29 [(2, 68), (0, x1), (0, x2), (0, x3), (0, x4), (0, x5)] [] σ Q := by
  refine pGo (s_iload dX11_places_29 rfl) ?_
  refine pGo (s_bipush dX11_places_31 (by decide)) ?_
  refine p_icge (tgt := 62) dX11_places_33 (by decide) g1 (by decide) (fun c1 => ?_) (fun c2 => ?_)
  · refine pGo (s_iconst dX11_places_62) ?_
    refine pGoL (ls2 := [(2, 68), (0, x1), (0, x2), (0, x3), (0, x4), (0, 0)]) (s_istore dX11_places_63 (by decide) rfl) rfl ?_
    exact (k1 c1)
  · refine pGo (s_iload dX11_places_36 rfl) ?_
    refine pGo (s_aload_n dX11_places_38 rfl (by decide)) ?_
    refine pGo (s_iload dX11_places_39 rfl) ?_
    refine pGo (s_iload_n dX11_places_41 rfl) ?_
    refine p_callV (As := [(0, x5), (0, x2)]) (st := [(0, x4)]) (n := 2) (d' := 0) (Q1 := (fun r τ => r = some (0, b2i (vCanBe σ x5 x2)) ∧ τ = σ)) pc11 ok_X11_canBe ml_X11_524 im_X11_canBe se_X11_canBe dX11_places_42 (ob_68 hst) (pargs_of rfl) rfl (Nat.le_of_ble_eq_true rfl) (by omega) (f1 c2) (fun r1 τ1 e1 q1 w1 => ?_)
    obtain ⟨rfl, t1⟩ := q1
    rw [t1]
    show pR mX11_places d 45 [(2, 68), (0, x1), (0, x2), (0, x3), (0, x4), (0, x5)] [(0, (b2i (vCanBe σ x5 x2))), (0, x4)] σ Q
    refine p_ifeqB (tgt := 52) dX11_places_45 (by decide) (fun c3 => ?_) (fun c4 => ?_)
    · refine pGo (s_iconst dX11_places_52) ?_
      refine pGo (s_iadd dX11_places_53) ?_
      refine pGoL (ls2 := [(2, 68), (0, x1), (0, x2), (0, x3), (0, (x4 + 0)), (0, x5)]) (s_istore dX11_places_54 (by decide) rfl) rfl ?_
      refine pGoL (ls2 := [(2, 68), (0, x1), (0, x2), (0, x3), (0, (x4 + 0)), (0, (x5 + 1))]) (s_iinc dX11_places_56 (by decide) rfl rfl) rfl ?_
      refine pGo (s_goto (tgt := 29) dX11_places_59 (by decide)) ?_
      exact (k2 c2 c3)
    · refine pGo (s_iconst dX11_places_48) ?_
      refine pGo (s_goto (tgt := 53) dX11_places_49 (by decide)) ?_
      refine pGo (s_iadd dX11_places_53) ?_
      refine pGoL (ls2 := [(2, 68), (0, x1), (0, x2), (0, x3), (0, (x4 + 1)), (0, x5)]) (s_istore dX11_places_54 (by decide) rfl) rfl ?_
      refine pGoL (ls2 := [(2, 68), (0, x1), (0, x2), (0, x3), (0, (x4 + 1)), (0, (x5 + 1))]) (s_iinc dX11_places_56 (by decide) rfl rfl) rfl ?_
      refine pGo (s_goto (tgt := 29) dX11_places_59 (by decide)) ?_
      exact (k3 c2 c4)
set_option maxRecDepth 100000 in
theorem g_X11_places_65 {d : Nat} {σ : pS} {Q : Option pV → pS → Prop} {Q1 : Option pV → pS → Prop} (hd : 4 ≤ d) (hst : Stat σ) (x1 : Int) (x2 : Int) (x3 : Int) (x4 : Int) (x5 : Int)  (g1 : inR x5) (k1 : ∀ (c1 : 13 ≤ x5), Q (some (0, x4)) σ) (f1 : ∀ (c2 : x5 < 13), pC mX11_isWay 0 [(2, 68), (0, x5)] σ (fun r τ => r = some (0, b2i (vWay (rd σ 68 30) (rd σ 68 31) x5)) ∧ τ = σ)) (k2 : ∀ (c2 : x5 < 13) (c3 : (vWay (rd σ 68 30) (rd σ 68 31) x5) = false), pR mX11_places d 65 [(2, 68), (0, x1), (0, x2), (0, x3), (0, (x4 + 0)), (0, (x5 + 1))] [] σ Q) (f2 : ∀ (c2 : x5 < 13) (c4 : (vWay (rd σ 68 30) (rd σ 68 31) x5) = true), pC mX11_canRide 3 [(2, 68), (0, x1), (0, x5), (0, x2)] σ Q1) (g2 : ∀ (c2 : x5 < 13) (c4 : (vWay (rd σ 68 30) (rd σ 68 31) x5) = true) (v2 : Int) (b2 : v2 = 0 ∨ v2 = 1) (τ2 : pS) (e2 : pLe σ τ2) (q2 : Q1 (some (0, v2)) τ2), inR v2) (k3 : ∀ (c2 : x5 < 13) (c4 : (vWay (rd σ 68 30) (rd σ 68 31) x5) = true) (v2 : Int) (b2 : v2 = 0 ∨ v2 = 1) (τ2 : pS) (e2 : pLe σ τ2) (q2 : Q1 (some (0, v2)) τ2) (c5 : v2 = 0), pR mX11_places d 65 [(2, 68), (0, x1), (0, x2), (0, x3), (0, (x4 + 0)), (0, (x5 + 1))] [] τ2 Q) (k4 : ∀ (c2 : x5 < 13) (c4 : (vWay (rd σ 68 30) (rd σ 68 31) x5) = true) (v2 : Int) (b2 : v2 = 0 ∨ v2 = 1) (τ2 : pS) (e2 : pLe σ τ2) (q2 : Q1 (some (0, v2)) τ2) (c6 : v2 ≠ 0), pR mX11_places d 65 [(2, 68), (0, x1), (0, x2), (0, x3), (0, (x4 + 1)), (0, (x5 + 1))] [] τ2 Q) : pR mX11_places d 65 [(2, 68), (0, x1), (0, x2), (0, x3), (0, x4), (0, x5)] [] σ Q := by
  refine pGo (s_iload dX11_places_65 rfl) ?_
  refine pGo (s_bipush dX11_places_67 (by decide)) ?_
  refine p_icge (tgt := 108) dX11_places_69 (by decide) g1 (by decide) (fun c1 => ?_) (fun c2 => ?_)
  · refine pGo (s_iload dX11_places_108 rfl) ?_
    exact pEnd (r := (some (0, x4))) dX11_places_110 ⟨_, rfl⟩ (k1 c1)
  · refine pGo (s_iload dX11_places_72 rfl) ?_
    refine pGo (s_aload_n dX11_places_74 rfl (by decide)) ?_
    refine pGo (s_iload dX11_places_75 rfl) ?_
    refine p_callV (As := [(0, x5)]) (st := [(0, x4)]) (n := 1) (d' := 0) (Q1 := (fun r τ => r = some (0, b2i (vWay (rd σ 68 30) (rd σ 68 31) x5)) ∧ τ = σ)) pc11 ok_X11_isWay ml_X11_387 im_X11_isWay se_X11_isWay dX11_places_77 (ob_68 hst) (pargs_of rfl) rfl (Nat.le_of_ble_eq_true rfl) (by omega) (f1 c2) (fun r1 τ1 e1 q1 w1 => ?_)
    obtain ⟨rfl, t1⟩ := q1
    rw [t1]
    show pR mX11_places d 80 [(2, 68), (0, x1), (0, x2), (0, x3), (0, x4), (0, x5)] [(0, (b2i (vWay (rd σ 68 30) (rd σ 68 31) x5))), (0, x4)] σ Q
    refine p_ifeqB (tgt := 98) dX11_places_80 (by decide) (fun c3 => ?_) (fun c4 => ?_)
    · refine pGo (s_iconst dX11_places_98) ?_
      refine pGo (s_iadd dX11_places_99) ?_
      refine pGoL (ls2 := [(2, 68), (0, x1), (0, x2), (0, x3), (0, (x4 + 0)), (0, x5)]) (s_istore dX11_places_100 (by decide) rfl) rfl ?_
      refine pGoL (ls2 := [(2, 68), (0, x1), (0, x2), (0, x3), (0, (x4 + 0)), (0, (x5 + 1))]) (s_iinc dX11_places_102 (by decide) rfl rfl) rfl ?_
      refine pGo (s_goto (tgt := 65) dX11_places_105 (by decide)) ?_
      exact (k2 c2 c3)
    · refine pGo (s_aload_n dX11_places_83 rfl (by decide)) ?_
      refine pGo (s_iload_n dX11_places_84 rfl) ?_
      refine pGo (s_iload dX11_places_85 rfl) ?_
      refine pGo (s_iload_n dX11_places_87 rfl) ?_
      refine p_callV (As := [(0, x1), (0, x5), (0, x2)]) (st := [(0, x4)]) (n := 3) (d' := 3) (Q1 := Q1) pc11 ok_X11_canRide ml_X11_527 im_X11_canRide se_X11_canRide dX11_places_88 (ob_68 hst) (pargs_of rfl) rfl (Nat.le_of_ble_eq_true rfl) (by omega) (f2 c2 c4) (fun r2 τ2 e2 q2 w2 => ?_)
      obtain ⟨v2, rfl, b2⟩ := pRok_z w2
      have S2 : Stat τ2 := (Stat.le (σ := σ) hst e2)
      show pR mX11_places d 91 [(2, 68), (0, x1), (0, x2), (0, x3), (0, x4), (0, x5)] [(0, v2), (0, x4)] τ2 Q
      refine p_ifeq (tgt := 98) dX11_places_91 (by decide) (g2 c2 c4 v2 b2 τ2 e2 q2) (fun c5 => ?_) (fun c6 => ?_)
      · refine pGo (s_iconst dX11_places_98) ?_
        refine pGo (s_iadd dX11_places_99) ?_
        refine pGoL (ls2 := [(2, 68), (0, x1), (0, x2), (0, x3), (0, (x4 + 0)), (0, x5)]) (s_istore dX11_places_100 (by decide) rfl) rfl ?_
        refine pGoL (ls2 := [(2, 68), (0, x1), (0, x2), (0, x3), (0, (x4 + 0)), (0, (x5 + 1))]) (s_iinc dX11_places_102 (by decide) rfl rfl) rfl ?_
        refine pGo (s_goto (tgt := 65) dX11_places_105 (by decide)) ?_
        exact (k3 c2 c4 v2 b2 τ2 e2 q2 c5)
      · refine pGo (s_iconst dX11_places_94) ?_
        refine pGo (s_goto (tgt := 99) dX11_places_95 (by decide)) ?_
        refine pGo (s_iadd dX11_places_99) ?_
        refine pGoL (ls2 := [(2, 68), (0, x1), (0, x2), (0, x3), (0, (x4 + 1)), (0, x5)]) (s_istore dX11_places_100 (by decide) rfl) rfl ?_
        refine pGoL (ls2 := [(2, 68), (0, x1), (0, x2), (0, x3), (0, (x4 + 1)), (0, (x5 + 1))]) (s_iinc dX11_places_102 (by decide) rfl rfl) rfl ?_
        refine pGo (s_goto (tgt := 65) dX11_places_105 (by decide)) ?_
        exact (k4 c2 c4 v2 b2 τ2 e2 q2 c6)
set_option maxRecDepth 100000 in
theorem g_X11_meet_0 {d : Nat} {σ : pS} {Q : Option pV → pS → Prop} {Q1 : Option pV → pS → Prop} (hd : 4 ≤ d) (hst : Stat σ) (x1 : Int) (x2 : Int) (x3 : Int) (x4 : Int) (x5 : Int)  (f1 : pC mX11_isSkier 0 [(2, 68), (0, x1)] σ (fun r τ => r = some (0, b2i (vWithin x1 (rd σ 68 64))) ∧ τ = σ)) (k1 : ∀ (c1 : (vWithin x1 (rd σ 68 64)) = false), Q (some (0, (-1))) σ) (f2 : ∀ (c2 : (vWithin x1 (rd σ 68 64)) = true), pC mX11_isSkier 0 [(2, 68), (0, x2)] σ (fun r τ => r = some (0, b2i (vWithin x2 (rd σ 68 64))) ∧ τ = σ)) (k2 : ∀ (c2 : (vWithin x1 (rd σ 68 64)) = true) (c3 : (vWithin x2 (rd σ 68 64)) = false), Q (some (0, (-1))) σ) (g1 : ∀ (c2 : (vWithin x1 (rd σ 68 64)) = true) (c4 : (vWithin x2 (rd σ 68 64)) = true), inR x1) (g2 : ∀ (c2 : (vWithin x1 (rd σ 68 64)) = true) (c4 : (vWithin x2 (rd σ 68 64)) = true), inR x2) (k3 : ∀ (c2 : (vWithin x1 (rd σ 68 64)) = true) (c4 : (vWithin x2 (rd σ 68 64)) = true) (c5 : x1 = x2), Q (some (0, (-1))) σ) (f3 : ∀ (c2 : (vWithin x1 (rd σ 68 64)) = true) (c4 : (vWithin x2 (rd σ 68 64)) = true) (c6 : x1 ≠ x2), pC mX11_isPlace 0 [(0, x3)] σ (fun r τ => r = some (0, b2i (vWithin x3 10)) ∧ τ = σ)) (k4 : ∀ (c2 : (vWithin x1 (rd σ 68 64)) = true) (c4 : (vWithin x2 (rd σ 68 64)) = true) (c6 : x1 ≠ x2) (c7 : (vWithin x3 10) = false), Q (some (0, (-1))) σ) (f4 : ∀ (c2 : (vWithin x1 (rd σ 68 64)) = true) (c4 : (vWithin x2 (rd σ 68 64)) = true) (c6 : x1 ≠ x2) (c8 : (vWithin x3 10) = true), pC mX11_isMinute 0 [(0, x4)] σ (fun r τ => r = some (0, b2i (vWithin x4 541)) ∧ τ = σ)) (f5 : ∀ (c2 : (vWithin x1 (rd σ 68 64)) = true) (c4 : (vWithin x2 (rd σ 68 64)) = true) (c6 : x1 ≠ x2) (c8 : (vWithin x3 10) = true) (c9 : (vWithin x4 541) = true), pC mX11_trace 3 [(2, 68), (0, x1), (0, x5)] σ Q1) (k5 : ∀ (c2 : (vWithin x1 (rd σ 68 64)) = true) (c4 : (vWithin x2 (rd σ 68 64)) = true) (c6 : x1 ≠ x2) (c8 : (vWithin x3 10) = true) (c9 : (vWithin x4 541) = true) (τ5 : pS) (e5 : pLe σ τ5) (q5 : Q1 none τ5), pR mX11_meet d 48 [(2, 68), (0, x1), (0, x2), (0, x3), (0, x4), (0, x5), (0, 0)] [] τ5 Q) (k6 : ∀ (c2 : (vWithin x1 (rd σ 68 64)) = true) (c4 : (vWithin x2 (rd σ 68 64)) = true) (c6 : x1 ≠ x2) (c8 : (vWithin x3 10) = true) (c10 : (vWithin x4 541) = false), Q (some (0, (-1))) σ) : pC mX11_meet d [(2, 68), (0, x1), (0, x2), (0, x3), (0, x4), (0, x5)] σ Q := by
  show pR mX11_meet d 0 [(2, 68), (0, x1), (0, x2), (0, x3), (0, x4), (0, x5), (9, 0)] [] σ Q
  refine pGo (s_aload_n dX11_meet_0 rfl (by decide)) ?_
  refine pGo (s_iload_n dX11_meet_1 rfl) ?_
  refine p_callV (As := [(0, x1)]) (st := []) (n := 1) (d' := 0) (Q1 := (fun r τ => r = some (0, b2i (vWithin x1 (rd σ 68 64))) ∧ τ = σ)) pc11 ok_X11_isSkier ml_X11_512 im_X11_isSkier se_X11_isSkier dX11_meet_2 (ob_68 hst) (pargs_of rfl) rfl (Nat.le_of_ble_eq_true rfl) (by omega) f1 (fun r1 τ1 e1 q1 w1 => ?_)
  obtain ⟨rfl, t1⟩ := q1
  rw [t1]
  show pR mX11_meet d 5 [(2, 68), (0, x1), (0, x2), (0, x3), (0, x4), (0, x5), (9, 0)] [(0, (b2i (vWithin x1 (rd σ 68 64))))] σ Q
  refine p_ifeqB (tgt := 36) dX11_meet_5 (by decide) (fun c1 => ?_) (fun c2 => ?_)
  · refine pGo (s_iconst dX11_meet_36) ?_
    exact pEnd (r := (some (0, (-1)))) dX11_meet_37 ⟨_, rfl⟩ (k1 c1)
  · refine pGo (s_aload_n dX11_meet_8 rfl (by decide)) ?_
    refine pGo (s_iload_n dX11_meet_9 rfl) ?_
    refine p_callV (As := [(0, x2)]) (st := []) (n := 1) (d' := 0) (Q1 := (fun r τ => r = some (0, b2i (vWithin x2 (rd σ 68 64))) ∧ τ = σ)) pc11 ok_X11_isSkier ml_X11_512 im_X11_isSkier se_X11_isSkier dX11_meet_10 (ob_68 hst) (pargs_of rfl) rfl (Nat.le_of_ble_eq_true rfl) (by omega) (f2 c2) (fun r2 τ2 e2 q2 w2 => ?_)
    obtain ⟨rfl, t2⟩ := q2
    rw [t2]
    show pR mX11_meet d 13 [(2, 68), (0, x1), (0, x2), (0, x3), (0, x4), (0, x5), (9, 0)] [(0, (b2i (vWithin x2 (rd σ 68 64))))] σ Q
    refine p_ifeqB (tgt := 36) dX11_meet_13 (by decide) (fun c3 => ?_) (fun c4 => ?_)
    · refine pGo (s_iconst dX11_meet_36) ?_
      exact pEnd (r := (some (0, (-1)))) dX11_meet_37 ⟨_, rfl⟩ (k2 c2 c3)
    · refine pGo (s_iload_n dX11_meet_16 rfl) ?_
      refine pGo (s_iload_n dX11_meet_17 rfl) ?_
      refine p_iceq (tgt := 36) dX11_meet_18 (by decide) (g1 c2 c4) (g2 c2 c4) (fun c5 => ?_) (fun c6 => ?_)
      · refine pGo (s_iconst dX11_meet_36) ?_
        exact pEnd (r := (some (0, (-1)))) dX11_meet_37 ⟨_, rfl⟩ (k3 c2 c4 c5)
      · refine pGo (s_iload_n dX11_meet_21 rfl) ?_
        refine p_callS (As := [(0, x3)]) (st := []) (n := 1) (d' := 0) (Q1 := (fun r τ => r = some (0, b2i (vWithin x3 10)) ∧ τ = σ)) ok_X11_isPlace ml_X11_496 sm_X11_isPlace dX11_meet_22 (pargs_of rfl) rfl (Nat.le_of_ble_eq_true rfl) (by omega) (f3 c2 c4 c6) (fun r3 τ3 e3 q3 w3 => ?_)
        obtain ⟨rfl, t3⟩ := q3
        rw [t3]
        show pR mX11_meet d 25 [(2, 68), (0, x1), (0, x2), (0, x3), (0, x4), (0, x5), (9, 0)] [(0, (b2i (vWithin x3 10)))] σ Q
        refine p_ifeqB (tgt := 36) dX11_meet_25 (by decide) (fun c7 => ?_) (fun c8 => ?_)
        · refine pGo (s_iconst dX11_meet_36) ?_
          exact pEnd (r := (some (0, (-1)))) dX11_meet_37 ⟨_, rfl⟩ (k4 c2 c4 c6 c7)
        · refine pGo (s_iload dX11_meet_28 rfl) ?_
          refine p_callS (As := [(0, x4)]) (st := []) (n := 1) (d' := 0) (Q1 := (fun r τ => r = some (0, b2i (vWithin x4 541)) ∧ τ = σ)) ok_X11_isMinute ml_X11_518 sm_X11_isMinute dX11_meet_30 (pargs_of rfl) rfl (Nat.le_of_ble_eq_true rfl) (by omega) (f4 c2 c4 c6 c8) (fun r4 τ4 e4 q4 w4 => ?_)
          obtain ⟨rfl, t4⟩ := q4
          rw [t4]
          show pR mX11_meet d 33 [(2, 68), (0, x1), (0, x2), (0, x3), (0, x4), (0, x5), (9, 0)] [(0, (b2i (vWithin x4 541)))] σ Q
          refine p_ifneB (tgt := 38) dX11_meet_33 (by decide) (fun c9 => ?_) (fun c10 => ?_)
          · refine pGo (s_aload_n dX11_meet_38 rfl (by decide)) ?_
            refine pGo (s_iload_n dX11_meet_39 rfl) ?_
            refine pGo (s_iload dX11_meet_40 rfl) ?_
            refine p_callV (As := [(0, x1), (0, x5)]) (st := []) (n := 2) (d' := 3) (Q1 := Q1) pc11 ok_X11_trace ml_X11_521 im_X11_trace se_X11_trace dX11_meet_42 (ob_68 hst) (pargs_of rfl) rfl (Nat.le_of_ble_eq_true rfl) (by omega) (f5 c2 c4 c6 c8 c9) (fun r5 τ5 e5 q5 w5 => ?_)
            obtain rfl : r5 = none := w5
            have S5 : Stat τ5 := (Stat.le (σ := σ) hst e5)
            show pR mX11_meet d 45 [(2, 68), (0, x1), (0, x2), (0, x3), (0, x4), (0, x5), (9, 0)] [] τ5 Q
            refine pGo (s_iconst dX11_meet_45) ?_
            refine pGoL (ls2 := [(2, 68), (0, x1), (0, x2), (0, x3), (0, x4), (0, x5), (0, 0)]) (s_istore dX11_meet_46 (by decide) rfl) rfl ?_
            exact (k5 c2 c4 c6 c8 c9 τ5 e5 q5)
          · refine pGo (s_iconst dX11_meet_36) ?_
            exact pEnd (r := (some (0, (-1)))) dX11_meet_37 ⟨_, rfl⟩ (k6 c2 c4 c6 c8 c10)
set_option maxRecDepth 100000 in
theorem g_X11_meet_48 {d : Nat} {σ : pS} {Q : Option pV → pS → Prop} {Q1 : Option pV → pS → Prop} (hd : 4 ≤ d) (hst : Stat σ) (x1 : Int) (x2 : Int) (x3 : Int) (x4 : Int) (x5 : Int) (x6 : Int)  (g1 : inR x6) (f1 : ∀ (c1 : 540 < x6), pC mX11_trace 3 [(2, 68), (0, x2), (0, x5)] σ Q1) (k1 : ∀ (c1 : 540 < x6) (τ1 : pS) (e1 : pLe σ τ1) (q1 : Q1 none τ1), pR mX11_meet d 87 [(2, 68), (0, x1), (0, x2), (0, x3), (0, x4), (0, x5), (0, x4)] [] τ1 Q) (f2 : ∀ (c2 : x6 ≤ 540), pC mX11_canBe 0 [(2, 68), (0, x3), (0, x6)] σ (fun r τ => r = some (0, b2i (vCanBe σ x3 x6)) ∧ τ = σ)) (g2 : ∀ (c2 : x6 ≤ 540), 0 ≤ x6 ∧ x6 < 6010) (k2 : ∀ (c2 : x6 ≤ 540), pR mX11_meet d 48 [(2, 68), (0, x1), (0, x2), (0, x3), (0, x4), (0, x5), (0, (x6 + 1))] [] (wr σ 117 x6 (b2i (vCanBe σ x3 x6))) Q) : pR mX11_meet d 48 [(2, 68), (0, x1), (0, x2), (0, x3), (0, x4), (0, x5), (0, x6)] [] σ Q := by
  refine pGo (s_iload dX11_meet_48 rfl) ?_
  refine pGo (s_sipush dX11_meet_50 (by decide)) ?_
  refine p_icgt (tgt := 76) dX11_meet_53 (by decide) g1 (by decide) (fun c1 => ?_) (fun c2 => ?_)
  · refine pGo (s_aload_n dX11_meet_76 rfl (by decide)) ?_
    refine pGo (s_iload_n dX11_meet_77 rfl) ?_
    refine pGo (s_iload dX11_meet_78 rfl) ?_
    refine p_callV (As := [(0, x2), (0, x5)]) (st := []) (n := 2) (d' := 3) (Q1 := Q1) pc11 ok_X11_trace ml_X11_521 im_X11_trace se_X11_trace dX11_meet_80 (ob_68 hst) (pargs_of rfl) rfl (Nat.le_of_ble_eq_true rfl) (by omega) (f1 c1) (fun r1 τ1 e1 q1 w1 => ?_)
    obtain rfl : r1 = none := w1
    have S1 : Stat τ1 := (Stat.le (σ := σ) hst e1)
    show pR mX11_meet d 83 [(2, 68), (0, x1), (0, x2), (0, x3), (0, x4), (0, x5), (0, x6)] [] τ1 Q
    refine pGo (s_iload dX11_meet_83 rfl) ?_
    refine pGoL (ls2 := [(2, 68), (0, x1), (0, x2), (0, x3), (0, x4), (0, x5), (0, x4)]) (s_istore dX11_meet_85 (by decide) rfl) rfl ?_
    exact (k1 c1 τ1 e1 q1)
  · refine pGo (s_aload_n dX11_meet_56 rfl (by decide)) ?_
    refine pGoE (y := 117) (s_getF pc11 fl_X11_160 dX11_meet_57 (ob_68 hst) rfl (by decide)) (by decide) ?_
    refine pGo (s_iload dX11_meet_60 rfl) ?_
    refine pGo (s_aload_n dX11_meet_62 rfl (by decide)) ?_
    refine pGo (s_iload_n dX11_meet_63 rfl) ?_
    refine pGo (s_iload dX11_meet_64 rfl) ?_
    refine p_callV (As := [(0, x3), (0, x6)]) (st := [(0, x6), (2, 117)]) (n := 2) (d' := 0) (Q1 := (fun r τ => r = some (0, b2i (vCanBe σ x3 x6)) ∧ τ = σ)) pc11 ok_X11_canBe ml_X11_524 im_X11_canBe se_X11_canBe dX11_meet_66 (ob_68 hst) (pargs_of rfl) rfl (Nat.le_of_ble_eq_true rfl) (by omega) (f2 c2) (fun r2 τ2 e2 q2 w2 => ?_)
    obtain ⟨rfl, t2⟩ := q2
    rw [t2]
    show pR mX11_meet d 69 [(2, 68), (0, x1), (0, x2), (0, x3), (0, x4), (0, x5), (0, x6)] [(0, (b2i (vCanBe σ x3 x6))), (0, x6), (2, 117)] σ Q
    refine pGo (s_zast dX11_meet_69 (ob_117 hst) (bnd (g2 c2)) (b2i_01 _)) ?_
    refine pGoL (ls2 := [(2, 68), (0, x1), (0, x2), (0, x3), (0, x4), (0, x5), (0, (x6 + 1))]) (s_iinc dX11_meet_70 (by decide) rfl rfl) rfl ?_
    refine pGo (s_goto (tgt := 48) dX11_meet_73 (by decide)) ?_
    exact (k2 c2)
set_option maxRecDepth 100000 in
theorem g_X11_meet_87 {d : Nat} {σ : pS} {Q : Option pV → pS → Prop} (hd : 4 ≤ d) (hst : Stat σ) (x1 : Int) (x2 : Int) (x3 : Int) (x4 : Int) (x5 : Int) (x6 : Int)  (g1 : inR x6) (k1 : ∀ (c1 : 540 < x6), Q (some (0, (-1))) σ) (g2 : ∀ (c2 : x6 ≤ 540), 0 ≤ x6 ∧ x6 < 6010) (g3 : ∀ (c2 : x6 ≤ 540), inR (rd σ 117 x6)) (k2 : ∀ (c2 : x6 ≤ 540) (c3 : (rd σ 117 x6) = 0), pR mX11_meet d 87 [(2, 68), (0, x1), (0, x2), (0, x3), (0, x4), (0, x5), (0, (x6 + 1))] [] σ Q) (f1 : ∀ (c2 : x6 ≤ 540) (c4 : (rd σ 117 x6) ≠ 0), pC mX11_canBe 0 [(2, 68), (0, x3), (0, x6)] σ (fun r τ => r = some (0, b2i (vCanBe σ x3 x6)) ∧ τ = σ)) (k3 : ∀ (c2 : x6 ≤ 540) (c4 : (rd σ 117 x6) ≠ 0) (c5 : (vCanBe σ x3 x6) = false), pR mX11_meet d 87 [(2, 68), (0, x1), (0, x2), (0, x3), (0, x4), (0, x5), (0, (x6 + 1))] [] σ Q) (k4 : ∀ (c2 : x6 ≤ 540) (c4 : (rd σ 117 x6) ≠ 0) (c6 : (vCanBe σ x3 x6) = true), Q (some (0, x6)) σ) : pR mX11_meet d 87 [(2, 68), (0, x1), (0, x2), (0, x3), (0, x4), (0, x5), (0, x6)] [] σ Q := by
  refine pGo (s_iload dX11_meet_87 rfl) ?_
  refine pGo (s_sipush dX11_meet_89 (by decide)) ?_
  refine p_icgt (tgt := 124) dX11_meet_92 (by decide) g1 (by decide) (fun c1 => ?_) (fun c2 => ?_)
  · refine pGo (s_iconst dX11_meet_124) ?_
    exact pEnd (r := (some (0, (-1)))) dX11_meet_125 ⟨_, rfl⟩ (k1 c1)
  · refine pGo (s_aload_n dX11_meet_95 rfl (by decide)) ?_
    refine pGoE (y := 117) (s_getF pc11 fl_X11_160 dX11_meet_96 (ob_68 hst) rfl (by decide)) (by decide) ?_
    refine pGo (s_iload dX11_meet_99 rfl) ?_
    refine pGoE (y := (rd σ 117 x6)) (s_zald dX11_meet_101 (ob_117 hst) (bnd (g2 c2))) rfl ?_
    refine p_ifeq (tgt := 118) dX11_meet_102 (by decide) (g3 c2) (fun c3 => ?_) (fun c4 => ?_)
    · refine pGoL (ls2 := [(2, 68), (0, x1), (0, x2), (0, x3), (0, x4), (0, x5), (0, (x6 + 1))]) (s_iinc dX11_meet_118 (by decide) rfl rfl) rfl ?_
      refine pGo (s_goto (tgt := 87) dX11_meet_121 (by decide)) ?_
      exact (k2 c2 c3)
    · refine pGo (s_aload_n dX11_meet_105 rfl (by decide)) ?_
      refine pGo (s_iload_n dX11_meet_106 rfl) ?_
      refine pGo (s_iload dX11_meet_107 rfl) ?_
      refine p_callV (As := [(0, x3), (0, x6)]) (st := []) (n := 2) (d' := 0) (Q1 := (fun r τ => r = some (0, b2i (vCanBe σ x3 x6)) ∧ τ = σ)) pc11 ok_X11_canBe ml_X11_524 im_X11_canBe se_X11_canBe dX11_meet_109 (ob_68 hst) (pargs_of rfl) rfl (Nat.le_of_ble_eq_true rfl) (by omega) (f1 c2 c4) (fun r1 τ1 e1 q1 w1 => ?_)
      obtain ⟨rfl, t1⟩ := q1
      rw [t1]
      show pR mX11_meet d 112 [(2, 68), (0, x1), (0, x2), (0, x3), (0, x4), (0, x5), (0, x6)] [(0, (b2i (vCanBe σ x3 x6)))] σ Q
      refine p_ifeqB (tgt := 118) dX11_meet_112 (by decide) (fun c5 => ?_) (fun c6 => ?_)
      · refine pGoL (ls2 := [(2, 68), (0, x1), (0, x2), (0, x3), (0, x4), (0, x5), (0, (x6 + 1))]) (s_iinc dX11_meet_118 (by decide) rfl rfl) rfl ?_
        refine pGo (s_goto (tgt := 87) dX11_meet_121 (by decide)) ?_
        exact (k3 c2 c4 c5)
      · refine pGo (s_iload dX11_meet_115 rfl) ?_
        exact pEnd (r := (some (0, x6))) dX11_meet_117 ⟨_, rfl⟩ (k4 c2 c4 c6)
