/-! walks: minutes between -/
set_option maxRecDepth 100000 in
theorem g_X11_measure_0 {d : Nat} {σ : pS} {Q : Option pV → pS → Prop} (hd : 1 ≤ d) (hst : Stat σ)   (k1 : pR mX11_measure d 2 [(2, 68), (0, 0), (9, 0), (9, 0)] [] σ Q) : pC mX11_measure d [(2, 68)] σ Q := by
  show pR mX11_measure d 0 [(2, 68), (9, 0), (9, 0), (9, 0)] [] σ Q
  refine pGo (s_iconst dX11_measure_0) ?_
  refine pGoL (ls2 := [(2, 68), (0, 0), (9, 0), (9, 0)]) (s_istore_n dX11_measure_1 (by decide) rfl) rfl ?_
  exact k1
set_option maxRecDepth 100000 in
theorem g_X11_measure_2 {d : Nat} {σ : pS} {Q : Option pV → pS → Prop} (hd : 1 ≤ d) (hst : Stat σ) (x1 : Int) (u2 : pV) (u3 : pV) (hu2 : u2.1 ≠ 1) (hu3 : u3.1 ≠ 1) (g1 : inR x1) (k1 : ∀ (c1 : 100 ≤ x1), pR mX11_measure d 39 [(2, 68), (0, 0), u2, u3] [] σ Q) (g2 : ∀ (c2 : x1 < 100), 0 ≤ x1 ∧ x1 < 2147483648) (g3 : ∀ (c2 : x1 < 100), inR (x1 / 10)) (g4 : ∀ (c2 : x1 < 100), inR (x1 % 10)) (g5 : ∀ (c2 : x1 < 100) (c3 : (x1 / 10) ≠ (x1 % 10)), 0 ≤ x1 ∧ x1 < 100) (k2 : ∀ (c2 : x1 < 100) (c3 : (x1 / 10) ≠ (x1 % 10)), pR mX11_measure d 2 [(2, 68), (0, (x1 + 1)), u2, u3] [] (wr σ 133 x1 1000000) Q) (g6 : ∀ (c2 : x1 < 100) (c4 : (x1 / 10) = (x1 % 10)), 0 ≤ x1 ∧ x1 < 100) (k3 : ∀ (c2 : x1 < 100) (c4 : (x1 / 10) = (x1 % 10)), pR mX11_measure d 2 [(2, 68), (0, (x1 + 1)), u2, u3] [] (wr σ 133 x1 0) Q) : pR mX11_measure d 2 [(2, 68), (0, x1), u2, u3] [] σ Q := by
  refine pGo (s_iload_n dX11_measure_2 rfl) ?_
  refine pGo (s_bipush dX11_measure_3 (by decide)) ?_
  refine p_icge (tgt := 37) dX11_measure_5 (by decide) g1 (by decide) (fun c1 => ?_) (fun c2 => ?_)
  · refine pGo (s_iconst dX11_measure_37) ?_
    refine pGoL (ls2 := [(2, 68), (0, 0), u2, u3]) (s_istore_n dX11_measure_38 (by decide) rfl) rfl ?_
    exact (k1 c1)
  · refine pGo (s_aload_n dX11_measure_8 rfl (by decide)) ?_
    refine pGoE (y := 133) (s_getF pc11 fl_X11_208 dX11_measure_9 (ob_68 hst) rfl (by decide)) (by decide) ?_
    refine pGo (s_iload_n dX11_measure_12 rfl) ?_
    refine pGo (s_iload_n dX11_measure_13 rfl) ?_
    refine pGo (s_bipush dX11_measure_14 (by decide)) ?_
    refine pGo (s_idivp dX11_measure_16 (g2 c2) (by decide)) ?_
    refine pGo (s_iload_n dX11_measure_17 rfl) ?_
    refine pGo (s_bipush dX11_measure_18 (by decide)) ?_
    refine pGo (s_iremp dX11_measure_20 (g2 c2) (by decide)) ?_
    refine p_icne (tgt := 28) dX11_measure_21 (by decide) (g3 c2) (g4 c2) (fun c3 => ?_) (fun c4 => ?_)
    · refine pGo (s_ldc (n := 1000000) dX11_measure_28 kc_X11_232 (by decide)) ?_
      refine pGo (s_iast dX11_measure_30 (ob_133 hst) (bnd (g5 c2 c3))) ?_
      refine pGoL (ls2 := [(2, 68), (0, (x1 + 1)), u2, u3]) (s_iinc dX11_measure_31 (by decide) rfl rfl) rfl ?_
      refine pGo (s_goto (tgt := 2) dX11_measure_34 (by decide)) ?_
      exact (k2 c2 c3)
    · refine pGo (s_iconst dX11_measure_24) ?_
      refine pGo (s_goto (tgt := 30) dX11_measure_25 (by decide)) ?_
      refine pGo (s_iast dX11_measure_30 (ob_133 hst) (bnd (g6 c2 c4))) ?_
      refine pGoL (ls2 := [(2, 68), (0, (x1 + 1)), u2, u3]) (s_iinc dX11_measure_31 (by decide) rfl rfl) rfl ?_
      refine pGo (s_goto (tgt := 2) dX11_measure_34 (by decide)) ?_
      exact (k3 c2 c4)
set_option maxRecDepth 100000 in
theorem g_X11_measure_39 {d : Nat} {σ : pS} {Q : Option pV → pS → Prop} (hd : 1 ≤ d) (hst : Stat σ) (x1 : Int) (u2 : pV) (u3 : pV) (hu2 : u2.1 ≠ 1) (hu3 : u3.1 ≠ 1) (g1 : inR x1) (k1 : ∀ (c1 : 13 ≤ x1), pR mX11_measure d 118 [(2, 68), (0, 0), u2, u3] [] σ Q) (f1 : ∀ (c2 : x1 < 13), pC mX11_isWay 0 [(2, 68), (0, x1)] σ (fun r τ => r = some (0, b2i (vWay (rd σ 68 30) (rd σ 68 31) x1)) ∧ τ = σ)) (k2 : ∀ (c2 : x1 < 13) (c3 : (vWay (rd σ 68 30) (rd σ 68 31) x1) = false), pR mX11_measure d 39 [(2, 68), (0, (x1 + 1)), u2, u3] [] σ Q) (g2 : ∀ (c2 : x1 < 13) (c4 : (vWay (rd σ 68 30) (rd σ 68 31) x1) = true), 0 ≤ x1 ∧ x1 < 13) (g3 : ∀ (c2 : x1 < 13) (c4 : (vWay (rd σ 68 30) (rd σ 68 31) x1) = true), 0 ≤ ((10 * (rd σ 77 x1)) + (rd σ 78 x1)) ∧ ((10 * (rd σ 77 x1)) + (rd σ 78 x1)) < 100) (g4 : ∀ (c2 : x1 < 13) (c4 : (vWay (rd σ 68 30) (rd σ 68 31) x1) = true), inR (rd σ 79 x1)) (g5 : ∀ (c2 : x1 < 13) (c4 : (vWay (rd σ 68 30) (rd σ 68 31) x1) = true), inR (rd σ 133 ((10 * (rd σ 77 x1)) + (rd σ 78 x1)))) (k3 : ∀ (c2 : x1 < 13) (c4 : (vWay (rd σ 68 30) (rd σ 68 31) x1) = true) (c5 : (rd σ 133 ((10 * (rd σ 77 x1)) + (rd σ 78 x1))) ≤ (rd σ 79 x1)), pR mX11_measure d 39 [(2, 68), (0, (x1 + 1)), u2, u3] [] σ Q) (k4 : ∀ (c2 : x1 < 13) (c4 : (vWay (rd σ 68 30) (rd σ 68 31) x1) = true) (c6 : (rd σ 79 x1) < (rd σ 133 ((10 * (rd σ 77 x1)) + (rd σ 78 x1)))), pR mX11_measure d 39 [(2, 68), (0, (x1 + 1)), u2, u3] [] (wr σ 133 ((10 * (rd σ 77 x1)) + (rd σ 78 x1)) (rd σ 79 x1)) Q) : pR mX11_measure d 39 [(2, 68), (0, x1), u2, u3] [] σ Q := by
  refine pGo (s_iload_n dX11_measure_39 rfl) ?_
  refine pGo (s_bipush dX11_measure_40 (by decide)) ?_
  refine p_icge (tgt := 116) dX11_measure_42 (by decide) g1 (by decide) (fun c1 => ?_) (fun c2 => ?_)
  · refine pGo (s_iconst dX11_measure_116) ?_
    refine pGoL (ls2 := [(2, 68), (0, 0), u2, u3]) (s_istore_n dX11_measure_117 (by decide) rfl) rfl ?_
    exact (k1 c1)
  · refine pGo (s_aload_n dX11_measure_45 rfl (by decide)) ?_
    refine pGo (s_iload_n dX11_measure_46 rfl) ?_
    refine p_callV (As := [(0, x1)]) (st := []) (n := 1) (d' := 0) (Q1 := (fun r τ => r = some (0, b2i (vWay (rd σ 68 30) (rd σ 68 31) x1)) ∧ τ = σ)) pc11 ok_X11_isWay ml_X11_387 im_X11_isWay se_X11_isWay dX11_measure_47 (ob_68 hst) (pargs_of rfl) rfl (Nat.le_of_ble_eq_true rfl) (by omega) (f1 c2) (fun r1 τ1 e1 q1 w1 => ?_)
    obtain ⟨rfl, t1⟩ := q1
    rw [t1]
    show pR mX11_measure d 50 [(2, 68), (0, x1), u2, u3] [(0, (b2i (vWay (rd σ 68 30) (rd σ 68 31) x1)))] σ Q
    refine p_ifeqB (tgt := 110) dX11_measure_50 (by decide) (fun c3 => ?_) (fun c4 => ?_)
    · refine pGoL (ls2 := [(2, 68), (0, (x1 + 1)), u2, u3]) (s_iinc dX11_measure_110 (by decide) rfl rfl) rfl ?_
      refine pGo (s_goto (tgt := 39) dX11_measure_113 (by decide)) ?_
      exact (k2 c2 c3)
    · refine pGo (s_aload_n dX11_measure_53 rfl (by decide)) ?_
      refine pGoE (y := 79) (s_getF pc11 fl_X11_45 dX11_measure_54 (ob_68 hst) rfl (by decide)) (by decide) ?_
      refine pGo (s_iload_n dX11_measure_57 rfl) ?_
      refine pGoE (y := (rd σ 79 x1)) (s_iald dX11_measure_58 (ob_79 hst) (bnd (g2 c2 c4))) rfl ?_
      refine pGo (s_aload_n dX11_measure_59 rfl (by decide)) ?_
      refine pGoE (y := 133) (s_getF pc11 fl_X11_208 dX11_measure_60 (ob_68 hst) rfl (by decide)) (by decide) ?_
      refine pGo (s_bipush dX11_measure_63 (by decide)) ?_
      refine pGo (s_aload_n dX11_measure_65 rfl (by decide)) ?_
      refine pGoE (y := 77) (s_getF pc11 fl_X11_39 dX11_measure_66 (ob_68 hst) rfl (by decide)) (by decide) ?_
      refine pGo (s_iload_n dX11_measure_69 rfl) ?_
      refine pGoE (y := (rd σ 77 x1)) (s_iald dX11_measure_70 (ob_77 hst) (bnd (g2 c2 c4))) rfl ?_
      refine pGo (s_imul dX11_measure_71) ?_
      refine pGo (s_aload_n dX11_measure_72 rfl (by decide)) ?_
      refine pGoE (y := 78) (s_getF pc11 fl_X11_42 dX11_measure_73 (ob_68 hst) rfl (by decide)) (by decide) ?_
      refine pGo (s_iload_n dX11_measure_76 rfl) ?_
      refine pGoE (y := (rd σ 78 x1)) (s_iald dX11_measure_77 (ob_78 hst) (bnd (g2 c2 c4))) rfl ?_
      refine pGo (s_iadd dX11_measure_78) ?_
      refine pGoE (y := (rd σ 133 ((10 * (rd σ 77 x1)) + (rd σ 78 x1)))) (s_iald dX11_measure_79 (ob_133 hst) (bnd (g3 c2 c4))) rfl ?_
      refine p_icge (tgt := 110) dX11_measure_80 (by decide) (g4 c2 c4) (g5 c2 c4) (fun c5 => ?_) (fun c6 => ?_)
      · refine pGoL (ls2 := [(2, 68), (0, (x1 + 1)), u2, u3]) (s_iinc dX11_measure_110 (by decide) rfl rfl) rfl ?_
        refine pGo (s_goto (tgt := 39) dX11_measure_113 (by decide)) ?_
        exact (k3 c2 c4 c5)
      · refine pGo (s_aload_n dX11_measure_83 rfl (by decide)) ?_
        refine pGoE (y := 133) (s_getF pc11 fl_X11_208 dX11_measure_84 (ob_68 hst) rfl (by decide)) (by decide) ?_
        refine pGo (s_bipush dX11_measure_87 (by decide)) ?_
        refine pGo (s_aload_n dX11_measure_89 rfl (by decide)) ?_
        refine pGoE (y := 77) (s_getF pc11 fl_X11_39 dX11_measure_90 (ob_68 hst) rfl (by decide)) (by decide) ?_
        refine pGo (s_iload_n dX11_measure_93 rfl) ?_
        refine pGoE (y := (rd σ 77 x1)) (s_iald dX11_measure_94 (ob_77 hst) (bnd (g2 c2 c4))) rfl ?_
        refine pGo (s_imul dX11_measure_95) ?_
        refine pGo (s_aload_n dX11_measure_96 rfl (by decide)) ?_
        refine pGoE (y := 78) (s_getF pc11 fl_X11_42 dX11_measure_97 (ob_68 hst) rfl (by decide)) (by decide) ?_
        refine pGo (s_iload_n dX11_measure_100 rfl) ?_
        refine pGoE (y := (rd σ 78 x1)) (s_iald dX11_measure_101 (ob_78 hst) (bnd (g2 c2 c4))) rfl ?_
        refine pGo (s_iadd dX11_measure_102) ?_
        refine pGo (s_aload_n dX11_measure_103 rfl (by decide)) ?_
        refine pGoE (y := 79) (s_getF pc11 fl_X11_45 dX11_measure_104 (ob_68 hst) rfl (by decide)) (by decide) ?_
        refine pGo (s_iload_n dX11_measure_107 rfl) ?_
        refine pGoE (y := (rd σ 79 x1)) (s_iald dX11_measure_108 (ob_79 hst) (bnd (g2 c2 c4))) rfl ?_
        refine pGo (s_iast dX11_measure_109 (ob_133 hst) (bnd (g3 c2 c4))) ?_
        refine pGoL (ls2 := [(2, 68), (0, (x1 + 1)), u2, u3]) (s_iinc dX11_measure_110 (by decide) rfl rfl) rfl ?_
        refine pGo (s_goto (tgt := 39) dX11_measure_113 (by decide)) ?_
        exact (k4 c2 c4 c6)
set_option maxRecDepth 100000 in
theorem g_X11_measure_118 {d : Nat} {σ : pS} {Q : Option pV → pS → Prop} (hd : 1 ≤ d) (hst : Stat σ) (x1 : Int) (u2 : pV) (u3 : pV) (hu2 : u2.1 ≠ 1) (hu3 : u3.1 ≠ 1) (g1 : inR x1) (k1 : ∀ (c1 : 10 ≤ x1), Q none σ) (k2 : ∀ (c2 : x1 < 10), pR mX11_measure d 126 [(2, 68), (0, x1), (0, 0), u3] [] σ Q) : pR mX11_measure d 118 [(2, 68), (0, x1), u2, u3] [] σ Q := by
  refine pGo (s_iload_n dX11_measure_118 rfl) ?_
  refine pGo (s_bipush dX11_measure_119 (by decide)) ?_
  refine p_icge (tgt := 229) dX11_measure_121 (by decide) g1 (by decide) (fun c1 => ?_) (fun c2 => ?_)
  · exact pEnd (r := none) dX11_measure_229 rfl (k1 c1)
  · refine pGo (s_iconst dX11_measure_124) ?_
    refine pGoL (ls2 := [(2, 68), (0, x1), (0, 0), u3]) (s_istore_n dX11_measure_125 (by decide) rfl) rfl ?_
    exact (k2 c2)
set_option maxRecDepth 100000 in
theorem g_X11_measure_126 {d : Nat} {σ : pS} {Q : Option pV → pS → Prop} (hd : 1 ≤ d) (hst : Stat σ) (x1 : Int) (x2 : Int) (u3 : pV) (hu3 : u3.1 ≠ 1) (g1 : inR x2) (k1 : ∀ (c1 : 10 ≤ x2), pR mX11_measure d 118 [(2, 68), (0, (x1 + 1)), (0, x2), u3] [] σ Q) (k2 : ∀ (c2 : x2 < 10), pR mX11_measure d 134 [(2, 68), (0, x1), (0, x2), (0, 0)] [] σ Q) : pR mX11_measure d 126 [(2, 68), (0, x1), (0, x2), u3] [] σ Q := by
  refine pGo (s_iload_n dX11_measure_126 rfl) ?_
  refine pGo (s_bipush dX11_measure_127 (by decide)) ?_
  refine p_icge (tgt := 223) dX11_measure_129 (by decide) g1 (by decide) (fun c1 => ?_) (fun c2 => ?_)
  · refine pGoL (ls2 := [(2, 68), (0, (x1 + 1)), (0, x2), u3]) (s_iinc dX11_measure_223 (by decide) rfl rfl) rfl ?_
    refine pGo (s_goto (tgt := 118) dX11_measure_226 (by decide)) ?_
    exact (k1 c1)
  · refine pGo (s_iconst dX11_measure_132) ?_
    refine pGoL (ls2 := [(2, 68), (0, x1), (0, x2), (0, 0)]) (s_istore_n dX11_measure_133 (by decide) rfl) rfl ?_
    exact (k2 c2)
set_option maxRecDepth 100000 in
theorem g_X11_measure_134 {d : Nat} {σ : pS} {Q : Option pV → pS → Prop} (hd : 1 ≤ d) (hst : Stat σ) (x1 : Int) (x2 : Int) (x3 : Int)  (g1 : inR x3) (k1 : ∀ (c1 : 10 ≤ x3), pR mX11_measure d 126 [(2, 68), (0, x1), (0, (x2 + 1)), (0, x3)] [] σ Q) (g2 : ∀ (c2 : x3 < 10), 0 ≤ ((10 * x2) + x1) ∧ ((10 * x2) + x1) < 100) (g3 : ∀ (c2 : x3 < 10), 0 ≤ ((10 * x1) + x3) ∧ ((10 * x1) + x3) < 100) (g4 : ∀ (c2 : x3 < 10), 0 ≤ ((10 * x2) + x3) ∧ ((10 * x2) + x3) < 100) (g5 : ∀ (c2 : x3 < 10), inR ((rd σ 133 ((10 * x2) + x1)) + (rd σ 133 ((10 * x1) + x3)))) (g6 : ∀ (c2 : x3 < 10), inR (rd σ 133 ((10 * x2) + x3))) (k2 : ∀ (c2 : x3 < 10) (c3 : (rd σ 133 ((10 * x2) + x3)) ≤ ((rd σ 133 ((10 * x2) + x1)) + (rd σ 133 ((10 * x1) + x3)))), pR mX11_measure d 134 [(2, 68), (0, x1), (0, x2), (0, (x3 + 1))] [] σ Q) (k3 : ∀ (c2 : x3 < 10) (c4 : ((rd σ 133 ((10 * x2) + x1)) + (rd σ 133 ((10 * x1) + x3))) < (rd σ 133 ((10 * x2) + x3))), pR mX11_measure d 134 [(2, 68), (0, x1), (0, x2), (0, (x3 + 1))] [] (wr σ 133 ((10 * x2) + x3) ((rd σ 133 ((10 * x2) + x1)) + (rd σ 133 ((10 * x1) + x3)))) Q) : pR mX11_measure d 134 [(2, 68), (0, x1), (0, x2), (0, x3)] [] σ Q := by
  refine pGo (s_iload_n dX11_measure_134 rfl) ?_
  refine pGo (s_bipush dX11_measure_135 (by decide)) ?_
  refine p_icge (tgt := 217) dX11_measure_137 (by decide) g1 (by decide) (fun c1 => ?_) (fun c2 => ?_)
  · refine pGoL (ls2 := [(2, 68), (0, x1), (0, (x2 + 1)), (0, x3)]) (s_iinc dX11_measure_217 (by decide) rfl rfl) rfl ?_
    refine pGo (s_goto (tgt := 126) dX11_measure_220 (by decide)) ?_
    exact (k1 c1)
  · refine pGo (s_aload_n dX11_measure_140 rfl (by decide)) ?_
    refine pGoE (y := 133) (s_getF pc11 fl_X11_208 dX11_measure_141 (ob_68 hst) rfl (by decide)) (by decide) ?_
    refine pGo (s_bipush dX11_measure_144 (by decide)) ?_
    refine pGo (s_iload_n dX11_measure_146 rfl) ?_
    refine pGo (s_imul dX11_measure_147) ?_
    refine pGo (s_iload_n dX11_measure_148 rfl) ?_
    refine pGo (s_iadd dX11_measure_149) ?_
    refine pGoE (y := (rd σ 133 ((10 * x2) + x1))) (s_iald dX11_measure_150 (ob_133 hst) (bnd (g2 c2))) rfl ?_
    refine pGo (s_aload_n dX11_measure_151 rfl (by decide)) ?_
    refine pGoE (y := 133) (s_getF pc11 fl_X11_208 dX11_measure_152 (ob_68 hst) rfl (by decide)) (by decide) ?_
    refine pGo (s_bipush dX11_measure_155 (by decide)) ?_
    refine pGo (s_iload_n dX11_measure_157 rfl) ?_
    refine pGo (s_imul dX11_measure_158) ?_
    refine pGo (s_iload_n dX11_measure_159 rfl) ?_
    refine pGo (s_iadd dX11_measure_160) ?_
    refine pGoE (y := (rd σ 133 ((10 * x1) + x3))) (s_iald dX11_measure_161 (ob_133 hst) (bnd (g3 c2))) rfl ?_
    refine pGo (s_iadd dX11_measure_162) ?_
    refine pGo (s_aload_n dX11_measure_163 rfl (by decide)) ?_
    refine pGoE (y := 133) (s_getF pc11 fl_X11_208 dX11_measure_164 (ob_68 hst) rfl (by decide)) (by decide) ?_
    refine pGo (s_bipush dX11_measure_167 (by decide)) ?_
    refine pGo (s_iload_n dX11_measure_169 rfl) ?_
    refine pGo (s_imul dX11_measure_170) ?_
    refine pGo (s_iload_n dX11_measure_171 rfl) ?_
    refine pGo (s_iadd dX11_measure_172) ?_
    refine pGoE (y := (rd σ 133 ((10 * x2) + x3))) (s_iald dX11_measure_173 (ob_133 hst) (bnd (g4 c2))) rfl ?_
    refine p_icge (tgt := 211) dX11_measure_174 (by decide) (g5 c2) (g6 c2) (fun c3 => ?_) (fun c4 => ?_)
    · refine pGoL (ls2 := [(2, 68), (0, x1), (0, x2), (0, (x3 + 1))]) (s_iinc dX11_measure_211 (by decide) rfl rfl) rfl ?_
      refine pGo (s_goto (tgt := 134) dX11_measure_214 (by decide)) ?_
      exact (k2 c2 c3)
    · refine pGo (s_aload_n dX11_measure_177 rfl (by decide)) ?_
      refine pGoE (y := 133) (s_getF pc11 fl_X11_208 dX11_measure_178 (ob_68 hst) rfl (by decide)) (by decide) ?_
      refine pGo (s_bipush dX11_measure_181 (by decide)) ?_
      refine pGo (s_iload_n dX11_measure_183 rfl) ?_
      refine pGo (s_imul dX11_measure_184) ?_
      refine pGo (s_iload_n dX11_measure_185 rfl) ?_
      refine pGo (s_iadd dX11_measure_186) ?_
      refine pGo (s_aload_n dX11_measure_187 rfl (by decide)) ?_
      refine pGoE (y := 133) (s_getF pc11 fl_X11_208 dX11_measure_188 (ob_68 hst) rfl (by decide)) (by decide) ?_
      refine pGo (s_bipush dX11_measure_191 (by decide)) ?_
      refine pGo (s_iload_n dX11_measure_193 rfl) ?_
      refine pGo (s_imul dX11_measure_194) ?_
      refine pGo (s_iload_n dX11_measure_195 rfl) ?_
      refine pGo (s_iadd dX11_measure_196) ?_
      refine pGoE (y := (rd σ 133 ((10 * x2) + x1))) (s_iald dX11_measure_197 (ob_133 hst) (bnd (g2 c2))) rfl ?_
      refine pGo (s_aload_n dX11_measure_198 rfl (by decide)) ?_
      refine pGoE (y := 133) (s_getF pc11 fl_X11_208 dX11_measure_199 (ob_68 hst) rfl (by decide)) (by decide) ?_
      refine pGo (s_bipush dX11_measure_202 (by decide)) ?_
      refine pGo (s_iload_n dX11_measure_204 rfl) ?_
      refine pGo (s_imul dX11_measure_205) ?_
      refine pGo (s_iload_n dX11_measure_206 rfl) ?_
      refine pGo (s_iadd dX11_measure_207) ?_
      refine pGoE (y := (rd σ 133 ((10 * x1) + x3))) (s_iald dX11_measure_208 (ob_133 hst) (bnd (g3 c2))) rfl ?_
      refine pGo (s_iadd dX11_measure_209) ?_
      refine pGo (s_iast dX11_measure_210 (ob_133 hst) (bnd (g4 c2))) ?_
      refine pGoL (ls2 := [(2, 68), (0, x1), (0, x2), (0, (x3 + 1))]) (s_iinc dX11_measure_211 (by decide) rfl rfl) rfl ?_
      refine pGo (s_goto (tgt := 134) dX11_measure_214 (by decide)) ?_
      exact (k3 c2 c4)
set_option maxRecDepth 100000 in
theorem g_X7_findBetween_0 {d : Nat} {σ : pS} {Q : Option pV → pS → Prop} (hd : 2 ≤ d) (hst : Stat σ)   (k1 : pR mX7_findBetween d 2 [(2, 61), (0, 0), (9, 0), (9, 0)] [] σ Q) : pC mX7_findBetween d [(2, 61)] σ Q := by
  show pR mX7_findBetween d 0 [(2, 61), (9, 0), (9, 0), (9, 0)] [] σ Q
  refine pGo (s_iconst dX7_findBetween_0) ?_
  refine pGoL (ls2 := [(2, 61), (0, 0), (9, 0), (9, 0)]) (s_istore_n dX7_findBetween_1 (by decide) rfl) rfl ?_
  exact k1
set_option maxRecDepth 100000 in
theorem g_X7_findBetween_2 {d : Nat} {σ : pS} {Q : Option pV → pS → Prop} (hd : 2 ≤ d) (hst : Stat σ) (x1 : Int) (u2 : pV) (u3 : pV) (hu2 : u2.1 ≠ 1) (hu3 : u3.1 ≠ 1) (g1 : inR x1) (k1 : ∀ (c1 : 100 ≤ x1), pR mX7_findBetween d 42 [(2, 61), (0, 0), u2, u3] [] σ Q) (g2 : ∀ (c2 : x1 < 100), 0 ≤ x1 ∧ x1 < 2147483648) (g3 : ∀ (c2 : x1 < 100), inR (x1 / 10)) (g4 : ∀ (c2 : x1 < 100), inR (x1 % 10)) (g5 : ∀ (c2 : x1 < 100) (c3 : (x1 / 10) ≠ (x1 % 10)), 0 ≤ x1 ∧ x1 < 100) (k2 : ∀ (c2 : x1 < 100) (c3 : (x1 / 10) ≠ (x1 % 10)), pR mX7_findBetween d 2 [(2, 61), (0, (x1 + 1)), u2, u3] [] (wr σ 63 x1 1000000) Q) (g6 : ∀ (c2 : x1 < 100) (c4 : (x1 / 10) = (x1 % 10)), 0 ≤ x1 ∧ x1 < 100) (k3 : ∀ (c2 : x1 < 100) (c4 : (x1 / 10) = (x1 % 10)), pR mX7_findBetween d 2 [(2, 61), (0, (x1 + 1)), u2, u3] [] (wr σ 63 x1 0) Q) : pR mX7_findBetween d 2 [(2, 61), (0, x1), u2, u3] [] σ Q := by
  refine pGo (s_iload_n dX7_findBetween_2 rfl) ?_
  refine pGo (s_aload_n dX7_findBetween_3 rfl (by decide)) ?_
  refine pGoE (y := 63) (s_getF pc7 fl_X7_15 dX7_findBetween_4 (ob_61 hst) rfl (by decide)) (by decide) ?_
  refine pGoE (y := 100) (s_alen dX7_findBetween_7 (ob_63 hst)) rfl ?_
  refine p_icge (tgt := 40) dX7_findBetween_8 (by decide) g1 (by decide) (fun c1 => ?_) (fun c2 => ?_)
  · refine pGo (s_iconst dX7_findBetween_40) ?_
    refine pGoL (ls2 := [(2, 61), (0, 0), u2, u3]) (s_istore_n dX7_findBetween_41 (by decide) rfl) rfl ?_
    exact (k1 c1)
  · refine pGo (s_aload_n dX7_findBetween_11 rfl (by decide)) ?_
    refine pGoE (y := 63) (s_getF pc7 fl_X7_15 dX7_findBetween_12 (ob_61 hst) rfl (by decide)) (by decide) ?_
    refine pGo (s_iload_n dX7_findBetween_15 rfl) ?_
    refine pGo (s_iload_n dX7_findBetween_16 rfl) ?_
    refine pGo (s_bipush dX7_findBetween_17 (by decide)) ?_
    refine pGo (s_idivp dX7_findBetween_19 (g2 c2) (by decide)) ?_
    refine pGo (s_iload_n dX7_findBetween_20 rfl) ?_
    refine pGo (s_bipush dX7_findBetween_21 (by decide)) ?_
    refine pGo (s_iremp dX7_findBetween_23 (g2 c2) (by decide)) ?_
    refine p_icne (tgt := 31) dX7_findBetween_24 (by decide) (g3 c2) (g4 c2) (fun c3 => ?_) (fun c4 => ?_)
    · refine pGo (s_ldc (n := 1000000) dX7_findBetween_31 kc_X7_54 (by decide)) ?_
      refine pGo (s_iast dX7_findBetween_33 (ob_63 hst) (bnd (g5 c2 c3))) ?_
      refine pGoL (ls2 := [(2, 61), (0, (x1 + 1)), u2, u3]) (s_iinc dX7_findBetween_34 (by decide) rfl rfl) rfl ?_
      refine pGo (s_goto (tgt := 2) dX7_findBetween_37 (by decide)) ?_
      exact (k2 c2 c3)
    · refine pGo (s_iconst dX7_findBetween_27) ?_
      refine pGo (s_goto (tgt := 33) dX7_findBetween_28 (by decide)) ?_
      refine pGo (s_iast dX7_findBetween_33 (ob_63 hst) (bnd (g6 c2 c4))) ?_
      refine pGoL (ls2 := [(2, 61), (0, (x1 + 1)), u2, u3]) (s_iinc dX7_findBetween_34 (by decide) rfl rfl) rfl ?_
      refine pGo (s_goto (tgt := 2) dX7_findBetween_37 (by decide)) ?_
      exact (k3 c2 c4)
set_option maxRecDepth 100000 in
theorem g_X7_findBetween_42 {d : Nat} {σ : pS} {Q : Option pV → pS → Prop} (hd : 2 ≤ d) (hst : Stat σ) (x1 : Int) (u2 : pV) (u3 : pV) (hu2 : u2.1 ≠ 1) (hu3 : u3.1 ≠ 1) (g1 : inR x1) (k1 : ∀ (c1 : 17 ≤ x1), pR mX7_findBetween d 114 [(2, 61), (0, 0), u2, u3] [] σ Q) (f1 : ∀ (c2 : x1 < 17), pC mX6_has 1 [(2, (rd σ 61 6)), (0, x1)] σ (fun r τ => r = some (0, b2i (vHas (rd σ (rd σ 61 6) 0) (rd σ (rd σ 61 6) 1) x1)) ∧ τ = σ)) (g2 : ∀ (c2 : x1 < 17), Inst6 σ (rd σ 61 6)) (k2 : ∀ (c2 : x1 < 17) (c3 : (vHas (rd σ (rd σ 61 6) 0) (rd σ (rd σ 61 6) 1) x1) = false), pR mX7_findBetween d 42 [(2, 61), (0, (x1 + 1)), u2, u3] [] σ Q) (g3 : ∀ (c2 : x1 < 17) (c4 : (vHas (rd σ (rd σ 61 6) 0) (rd σ (rd σ 61 6) 1) x1) = true), 0 ≤ x1 ∧ x1 < 17) (g4 : ∀ (c2 : x1 < 17) (c4 : (vHas (rd σ (rd σ 61 6) 0) (rd σ (rd σ 61 6) 1) x1) = true), 0 ≤ (((rd σ ((rd σ 61 6) + 2) x1) * 10) + (rd σ ((rd σ 61 6) + 3) x1)) ∧ (((rd σ ((rd σ 61 6) + 2) x1) * 10) + (rd σ ((rd σ 61 6) + 3) x1)) < 100) (g5 : ∀ (c2 : x1 < 17) (c4 : (vHas (rd σ (rd σ 61 6) 0) (rd σ (rd σ 61 6) 1) x1) = true), inR (rd σ 63 (((rd σ ((rd σ 61 6) + 2) x1) * 10) + (rd σ ((rd σ 61 6) + 3) x1)))) (g6 : ∀ (c2 : x1 < 17) (c4 : (vHas (rd σ (rd σ 61 6) 0) (rd σ (rd σ 61 6) 1) x1) = true), inR (rd σ ((rd σ 61 6) + 4) x1)) (k3 : ∀ (c2 : x1 < 17) (c4 : (vHas (rd σ (rd σ 61 6) 0) (rd σ (rd σ 61 6) 1) x1) = true), pR mX7_findBetween d 42 [(2, 61), (0, (x1 + 1)), (0, (((rd σ ((rd σ 61 6) + 2) x1) * 10) + (rd σ ((rd σ 61 6) + 3) x1))), u3] [] (wr σ 63 (((rd σ ((rd σ 61 6) + 2) x1) * 10) + (rd σ ((rd σ 61 6) + 3) x1)) (min (rd σ 63 (((rd σ ((rd σ 61 6) + 2) x1) * 10) + (rd σ ((rd σ 61 6) + 3) x1))) (rd σ ((rd σ 61 6) + 4) x1))) Q) : pR mX7_findBetween d 42 [(2, 61), (0, x1), u2, u3] [] σ Q := by
  refine pGo (s_iload_n dX7_findBetween_42 rfl) ?_
  refine pGo (s_bipush dX7_findBetween_43 (by decide)) ?_
  refine p_icge (tgt := 112) dX7_findBetween_45 (by decide) g1 (by decide) (fun c1 => ?_) (fun c2 => ?_)
  · refine pGo (s_iconst dX7_findBetween_112) ?_
    refine pGoL (ls2 := [(2, 61), (0, 0), u2, u3]) (s_istore_n dX7_findBetween_113 (by decide) rfl) rfl ?_
    exact (k1 c1)
  · refine pGo (s_aload_n dX7_findBetween_48 rfl (by decide)) ?_
    refine pGoE (y := (rd σ 61 6)) (s_getR pc7 fl_X7_34 dX7_findBetween_49 (ob_61 hst) rfl rfl) rfl ?_
    refine pGo (s_iload_n dX7_findBetween_52 rfl) ?_
    refine p_callV (As := [(0, x1)]) (st := []) (n := 1) (d' := 1) (Q1 := (fun r τ => r = some (0, b2i (vHas (rd σ (rd σ 61 6) 0) (rd σ (rd σ 61 6) 1) x1)) ∧ τ = σ)) pc6 ok_X6_has ml_X7_62 im_X6_has se_X6_has dX7_findBetween_53 (g2 c2).o0 (pargs_of rfl) rfl (Nat.le_of_ble_eq_true rfl) (by omega) (f1 c2) (fun r1 τ1 e1 q1 w1 => ?_)
    obtain ⟨rfl, t1⟩ := q1
    rw [t1]
    show pR mX7_findBetween d 56 [(2, 61), (0, x1), u2, u3] [(0, (b2i (vHas (rd σ (rd σ 61 6) 0) (rd σ (rd σ 61 6) 1) x1)))] σ Q
    refine p_ifeqB (tgt := 106) dX7_findBetween_56 (by decide) (fun c3 => ?_) (fun c4 => ?_)
    · refine pGoL (ls2 := [(2, 61), (0, (x1 + 1)), u2, u3]) (s_iinc dX7_findBetween_106 (by decide) rfl rfl) rfl ?_
      refine pGo (s_goto (tgt := 42) dX7_findBetween_109 (by decide)) ?_
      exact (k2 c2 c3)
    · refine pGo (s_aload_n dX7_findBetween_59 rfl (by decide)) ?_
      refine pGoE (y := (rd σ 61 6)) (s_getR pc7 fl_X7_34 dX7_findBetween_60 (ob_61 hst) rfl rfl) rfl ?_
      refine pGo (s_getF pc6 fl_X7_68 dX7_findBetween_63 (g2 c2).o0 rfl (by decide)) ?_
      refine pGo (s_iload_n dX7_findBetween_66 rfl) ?_
      refine pGoE (y := (rd σ ((rd σ 61 6) + 2) x1)) (s_iald dX7_findBetween_67 (g2 c2).o2 (bnd (g3 c2 c4))) rfl ?_
      refine pGo (s_bipush dX7_findBetween_68 (by decide)) ?_
      refine pGo (s_imul dX7_findBetween_70) ?_
      refine pGo (s_aload_n dX7_findBetween_71 rfl (by decide)) ?_
      refine pGoE (y := (rd σ 61 6)) (s_getR pc7 fl_X7_34 dX7_findBetween_72 (ob_61 hst) rfl rfl) rfl ?_
      refine pGo (s_getF pc6 fl_X7_71 dX7_findBetween_75 (g2 c2).o0 rfl (by decide)) ?_
      refine pGo (s_iload_n dX7_findBetween_78 rfl) ?_
      refine pGoE (y := (rd σ ((rd σ 61 6) + 3) x1)) (s_iald dX7_findBetween_79 (g2 c2).o3 (bnd (g3 c2 c4))) rfl ?_
      refine pGo (s_iadd dX7_findBetween_80) ?_
      refine pGoL (ls2 := [(2, 61), (0, x1), (0, (((rd σ ((rd σ 61 6) + 2) x1) * 10) + (rd σ ((rd σ 61 6) + 3) x1))), u3]) (s_istore_n dX7_findBetween_81 (by decide) rfl) rfl ?_
      refine pGo (s_aload_n dX7_findBetween_82 rfl (by decide)) ?_
      refine pGoE (y := 63) (s_getF pc7 fl_X7_15 dX7_findBetween_83 (ob_61 hst) rfl (by decide)) (by decide) ?_
      refine pGo (s_iload_n dX7_findBetween_86 rfl) ?_
      refine pGo (s_aload_n dX7_findBetween_87 rfl (by decide)) ?_
      refine pGoE (y := 63) (s_getF pc7 fl_X7_15 dX7_findBetween_88 (ob_61 hst) rfl (by decide)) (by decide) ?_
      refine pGo (s_iload_n dX7_findBetween_91 rfl) ?_
      refine pGoE (y := (rd σ 63 (((rd σ ((rd σ 61 6) + 2) x1) * 10) + (rd σ ((rd σ 61 6) + 3) x1)))) (s_iald dX7_findBetween_92 (ob_63 hst) (bnd (g4 c2 c4))) rfl ?_
      refine pGo (s_aload_n dX7_findBetween_93 rfl (by decide)) ?_
      refine pGoE (y := (rd σ 61 6)) (s_getR pc7 fl_X7_34 dX7_findBetween_94 (ob_61 hst) rfl rfl) rfl ?_
      refine pGo (s_getF pc6 fl_X7_74 dX7_findBetween_97 (g2 c2).o0 rfl (by decide)) ?_
      refine pGo (s_iload_n dX7_findBetween_100 rfl) ?_
      refine pGoE (y := (rd σ ((rd σ 61 6) + 4) x1)) (s_iald dX7_findBetween_101 (g2 c2).o4 (bnd (g3 c2 c4))) rfl ?_
      refine pGo (s_mmin (by omega) mj_X7_77 (Nat.le_of_ble_eq_true rfl) dX7_findBetween_102 (g5 c2 c4) (g6 c2 c4)) ?_
      refine pGo (s_iast dX7_findBetween_105 (ob_63 hst) (bnd (g4 c2 c4))) ?_
      refine pGoL (ls2 := [(2, 61), (0, (x1 + 1)), (0, (((rd σ ((rd σ 61 6) + 2) x1) * 10) + (rd σ ((rd σ 61 6) + 3) x1))), u3]) (s_iinc dX7_findBetween_106 (by decide) rfl rfl) rfl ?_
      refine pGo (s_goto (tgt := 42) dX7_findBetween_109 (by decide)) ?_
      exact (k3 c2 c4)
set_option maxRecDepth 100000 in
theorem g_X7_findBetween_114 {d : Nat} {σ : pS} {Q : Option pV → pS → Prop} (hd : 2 ≤ d) (hst : Stat σ) (x1 : Int) (u2 : pV) (u3 : pV) (hu2 : u2.1 ≠ 1) (hu3 : u3.1 ≠ 1) (g1 : inR x1) (k1 : ∀ (c1 : 10 ≤ x1), Q none σ) (k2 : ∀ (c2 : x1 < 10), pR mX7_findBetween d 122 [(2, 61), (0, x1), (0, 0), u3] [] σ Q) : pR mX7_findBetween d 114 [(2, 61), (0, x1), u2, u3] [] σ Q := by
  refine pGo (s_iload_n dX7_findBetween_114 rfl) ?_
  refine pGo (s_bipush dX7_findBetween_115 (by decide)) ?_
  refine p_icge (tgt := 189) dX7_findBetween_117 (by decide) g1 (by decide) (fun c1 => ?_) (fun c2 => ?_)
  · exact pEnd (r := none) dX7_findBetween_189 rfl (k1 c1)
  · refine pGo (s_iconst dX7_findBetween_120) ?_
    refine pGoL (ls2 := [(2, 61), (0, x1), (0, 0), u3]) (s_istore_n dX7_findBetween_121 (by decide) rfl) rfl ?_
    exact (k2 c2)
set_option maxRecDepth 100000 in
theorem g_X7_findBetween_122 {d : Nat} {σ : pS} {Q : Option pV → pS → Prop} (hd : 2 ≤ d) (hst : Stat σ) (x1 : Int) (x2 : Int) (u3 : pV) (hu3 : u3.1 ≠ 1) (g1 : inR x2) (k1 : ∀ (c1 : 100 ≤ x2), pR mX7_findBetween d 114 [(2, 61), (0, (x1 + 1)), (0, x2), u3] [] σ Q) (g2 : ∀ (c2 : x2 < 100), 0 ≤ x2 ∧ x2 < 2147483648) (g3 : ∀ (c2 : x2 < 100), 0 ≤ (((x2 / 10) * 10) + x1) ∧ (((x2 / 10) * 10) + x1) < 100) (g4 : ∀ (c2 : x2 < 100), 0 ≤ ((x1 * 10) + (x2 % 10)) ∧ ((x1 * 10) + (x2 % 10)) < 100) (g5 : ∀ (c2 : x2 < 100), 0 ≤ x2 ∧ x2 < 100) (g6 : ∀ (c2 : x2 < 100), inR (rd σ 63 x2)) (g7 : ∀ (c2 : x2 < 100), inR ((rd σ 63 (((x2 / 10) * 10) + x1)) + (rd σ 63 ((x1 * 10) + (x2 % 10))))) (k2 : ∀ (c2 : x2 < 100), pR mX7_findBetween d 122 [(2, 61), (0, x1), (0, (x2 + 1)), (0, ((rd σ 63 (((x2 / 10) * 10) + x1)) + (rd σ 63 ((x1 * 10) + (x2 % 10)))))] [] (wr σ 63 x2 (min (rd σ 63 x2) ((rd σ 63 (((x2 / 10) * 10) + x1)) + (rd σ 63 ((x1 * 10) + (x2 % 10)))))) Q) : pR mX7_findBetween d 122 [(2, 61), (0, x1), (0, x2), u3] [] σ Q := by
  refine pGo (s_iload_n dX7_findBetween_122 rfl) ?_
  refine pGo (s_aload_n dX7_findBetween_123 rfl (by decide)) ?_
  refine pGoE (y := 63) (s_getF pc7 fl_X7_15 dX7_findBetween_124 (ob_61 hst) rfl (by decide)) (by decide) ?_
  refine pGoE (y := 100) (s_alen dX7_findBetween_127 (ob_63 hst)) rfl ?_
  refine p_icge (tgt := 183) dX7_findBetween_128 (by decide) g1 (by decide) (fun c1 => ?_) (fun c2 => ?_)
  · refine pGoL (ls2 := [(2, 61), (0, (x1 + 1)), (0, x2), u3]) (s_iinc dX7_findBetween_183 (by decide) rfl rfl) rfl ?_
    refine pGo (s_goto (tgt := 114) dX7_findBetween_186 (by decide)) ?_
    exact (k1 c1)
  · refine pGo (s_aload_n dX7_findBetween_131 rfl (by decide)) ?_
    refine pGoE (y := 63) (s_getF pc7 fl_X7_15 dX7_findBetween_132 (ob_61 hst) rfl (by decide)) (by decide) ?_
    refine pGo (s_iload_n dX7_findBetween_135 rfl) ?_
    refine pGo (s_bipush dX7_findBetween_136 (by decide)) ?_
    refine pGo (s_idivp dX7_findBetween_138 (g2 c2) (by decide)) ?_
    refine pGo (s_bipush dX7_findBetween_139 (by decide)) ?_
    refine pGo (s_imul dX7_findBetween_141) ?_
    refine pGo (s_iload_n dX7_findBetween_142 rfl) ?_
    refine pGo (s_iadd dX7_findBetween_143) ?_
    refine pGoE (y := (rd σ 63 (((x2 / 10) * 10) + x1))) (s_iald dX7_findBetween_144 (ob_63 hst) (bnd (g3 c2))) rfl ?_
    refine pGo (s_aload_n dX7_findBetween_145 rfl (by decide)) ?_
    refine pGoE (y := 63) (s_getF pc7 fl_X7_15 dX7_findBetween_146 (ob_61 hst) rfl (by decide)) (by decide) ?_
    refine pGo (s_iload_n dX7_findBetween_149 rfl) ?_
    refine pGo (s_bipush dX7_findBetween_150 (by decide)) ?_
    refine pGo (s_imul dX7_findBetween_152) ?_
    refine pGo (s_iload_n dX7_findBetween_153 rfl) ?_
    refine pGo (s_bipush dX7_findBetween_154 (by decide)) ?_
    refine pGo (s_iremp dX7_findBetween_156 (g2 c2) (by decide)) ?_
    refine pGo (s_iadd dX7_findBetween_157) ?_
    refine pGoE (y := (rd σ 63 ((x1 * 10) + (x2 % 10)))) (s_iald dX7_findBetween_158 (ob_63 hst) (bnd (g4 c2))) rfl ?_
    refine pGo (s_iadd dX7_findBetween_159) ?_
    refine pGoL (ls2 := [(2, 61), (0, x1), (0, x2), (0, ((rd σ 63 (((x2 / 10) * 10) + x1)) + (rd σ 63 ((x1 * 10) + (x2 % 10)))))]) (s_istore_n dX7_findBetween_160 (by decide) rfl) rfl ?_
    refine pGo (s_aload_n dX7_findBetween_161 rfl (by decide)) ?_
    refine pGoE (y := 63) (s_getF pc7 fl_X7_15 dX7_findBetween_162 (ob_61 hst) rfl (by decide)) (by decide) ?_
    refine pGo (s_iload_n dX7_findBetween_165 rfl) ?_
    refine pGo (s_aload_n dX7_findBetween_166 rfl (by decide)) ?_
    refine pGoE (y := 63) (s_getF pc7 fl_X7_15 dX7_findBetween_167 (ob_61 hst) rfl (by decide)) (by decide) ?_
    refine pGo (s_iload_n dX7_findBetween_170 rfl) ?_
    refine pGoE (y := (rd σ 63 x2)) (s_iald dX7_findBetween_171 (ob_63 hst) (bnd (g5 c2))) rfl ?_
    refine pGo (s_iload_n dX7_findBetween_172 rfl) ?_
    refine pGo (s_mmin (by omega) mj_X7_77 (Nat.le_of_ble_eq_true rfl) dX7_findBetween_173 (g6 c2) (g7 c2)) ?_
    refine pGo (s_iast dX7_findBetween_176 (ob_63 hst) (bnd (g5 c2))) ?_
    refine pGoL (ls2 := [(2, 61), (0, x1), (0, (x2 + 1)), (0, ((rd σ 63 (((x2 / 10) * 10) + x1)) + (rd σ 63 ((x1 * 10) + (x2 % 10)))))]) (s_iinc dX7_findBetween_177 (by decide) rfl rfl) rfl ?_
    refine pGo (s_goto (tgt := 122) dX7_findBetween_180 (by decide)) ?_
    exact (k2 c2)
set_option maxRecDepth 100000 in
theorem g_X7_findAbove_0 {d : Nat} {σ : pS} {Q : Option pV → pS → Prop} {Q1 : Option pV → pS → Prop} (hd : 1 ≤ d) (hst : Stat σ)   (f1 : pC mJ7_fill_53178 0 [(2, 64), (0, 0)] σ Q1) (k1 : ∀ (τ1 : pS) (e1 : pLe σ τ1) (q1 : Q1 none τ1), pR mX7_findAbove d 10 [(2, 61), (0, 0), (9, 0)] [] τ1 Q) : pC mX7_findAbove d [(2, 61)] σ Q := by
  show pR mX7_findAbove d 0 [(2, 61), (9, 0), (9, 0)] [] σ Q
  refine pGo (s_aload_n dX7_findAbove_0 rfl (by decide)) ?_
  refine pGoE (y := 64) (s_getF pc7 fl_X7_18 dX7_findAbove_1 (ob_61 hst) rfl (by decide)) (by decide) ?_
  refine pGo (s_iconst dX7_findAbove_4) ?_
  refine p_callS (As := [(2, 64), (0, 0)]) (st := []) (n := 2) (d' := 0) (Q1 := Q1) ok_J7_fill_53178 ml_X7_38 sm_J7_fill_53178 dX7_findAbove_5 (pargs_of rfl) rfl (Nat.le_of_ble_eq_true rfl) (by omega) f1 (fun r1 τ1 e1 q1 w1 => ?_)
  obtain rfl : r1 = none := w1
  have S1 : Stat τ1 := (Stat.le (σ := σ) hst e1)
  show pR mX7_findAbove d 8 [(2, 61), (9, 0), (9, 0)] [] τ1 Q
  refine pGo (s_iconst dX7_findAbove_8) ?_
  refine pGoL (ls2 := [(2, 61), (0, 0), (9, 0)]) (s_istore_n dX7_findAbove_9 (by decide) rfl) rfl ?_
  exact (k1 τ1 e1 q1)
set_option maxRecDepth 100000 in
theorem g_X7_findAbove_10 {d : Nat} {σ : pS} {Q : Option pV → pS → Prop} (hd : 1 ≤ d) (hst : Stat σ) (x1 : Int) (u2 : pV) (hu2 : u2.1 ≠ 1) (g1 : Inst6 σ (rd σ 61 6)) (g2 : inR x1) (g3 : inR (rd σ (rd σ 61 6) 1)) (k1 : ∀ (c1 : (rd σ (rd σ 61 6) 1) ≤ x1), Q none σ) (k2 : ∀ (c2 : x1 < (rd σ (rd σ 61 6) 1)), pR mX7_findAbove d 23 [(2, 61), (0, x1), (0, 0)] [] σ Q) : pR mX7_findAbove d 10 [(2, 61), (0, x1), u2] [] σ Q := by
  refine pGo (s_iload_n dX7_findAbove_10 rfl) ?_
  refine pGo (s_aload_n dX7_findAbove_11 rfl (by decide)) ?_
  refine pGoE (y := (rd σ 61 6)) (s_getR pc7 fl_X7_34 dX7_findAbove_12 (ob_61 hst) rfl rfl) rfl ?_
  refine pGoE (y := (rd σ (rd σ 61 6) 1)) (s_getI pc6 fl_X7_83 dX7_findAbove_15 g1.o0 rfl (by decide)) rfl ?_
  refine p_icge (tgt := 85) dX7_findAbove_18 (by decide) g2 g3 (fun c1 => ?_) (fun c2 => ?_)
  · exact pEnd (r := none) dX7_findAbove_85 rfl (k1 c1)
  · refine pGo (s_iconst dX7_findAbove_21) ?_
    refine pGoL (ls2 := [(2, 61), (0, x1), (0, 0)]) (s_istore_n dX7_findAbove_22 (by decide) rfl) rfl ?_
    exact (k2 c2)
set_option maxRecDepth 100000 in
theorem g_X7_findAbove_23 {d : Nat} {σ : pS} {Q : Option pV → pS → Prop} (hd : 1 ≤ d) (hst : Stat σ) (x1 : Int) (x2 : Int)  (g1 : Inst6 σ (rd σ 61 6)) (g2 : inR x2) (g3 : inR (rd σ (rd σ 61 6) 1)) (k1 : ∀ (c1 : (rd σ (rd σ 61 6) 1) ≤ x2), pR mX7_findAbove d 10 [(2, 61), (0, (x1 + 1)), (0, x2)] [] σ Q) (g4 : ∀ (c2 : x2 < (rd σ (rd σ 61 6) 1)), 0 ≤ (10 + x2) ∧ (10 + x2) < 17) (g5 : ∀ (c2 : x2 < (rd σ (rd σ 61 6) 1)), 0 ≤ (10 + x1) ∧ (10 + x1) < 17) (g6 : ∀ (c2 : x2 < (rd σ (rd σ 61 6) 1)), inR (rd σ ((rd σ 61 6) + 3) (10 + x2))) (g7 : ∀ (c2 : x2 < (rd σ (rd σ 61 6) 1)), inR (rd σ ((rd σ 61 6) + 2) (10 + x1))) (k2 : ∀ (c2 : x2 < (rd σ (rd σ 61 6) 1)) (c3 : (rd σ ((rd σ 61 6) + 3) (10 + x2)) ≠ (rd σ ((rd σ 61 6) + 2) (10 + x1))), pR mX7_findAbove d 23 [(2, 61), (0, x1), (0, (x2 + 1))] [] σ Q) (g8 : ∀ (c2 : x2 < (rd σ (rd σ 61 6) 1)) (c4 : (rd σ ((rd σ 61 6) + 3) (10 + x2)) = (rd σ ((rd σ 61 6) + 2) (10 + x1))), 0 ≤ x1 ∧ x1 < 7) (k3 : ∀ (c2 : x2 < (rd σ (rd σ 61 6) 1)) (c4 : (rd σ ((rd σ 61 6) + 3) (10 + x2)) = (rd σ ((rd σ 61 6) + 2) (10 + x1))), pR mX7_findAbove d 23 [(2, 61), (0, x1), (0, (x2 + 1))] [] (wr σ 64 x1 (i_or (rd σ 64 x1) (i_shl 1 x2))) Q) : pR mX7_findAbove d 23 [(2, 61), (0, x1), (0, x2)] [] σ Q := by
  refine pGo (s_iload_n dX7_findAbove_23 rfl) ?_
  refine pGo (s_aload_n dX7_findAbove_24 rfl (by decide)) ?_
  refine pGoE (y := (rd σ 61 6)) (s_getR pc7 fl_X7_34 dX7_findAbove_25 (ob_61 hst) rfl rfl) rfl ?_
  refine pGoE (y := (rd σ (rd σ 61 6) 1)) (s_getI pc6 fl_X7_83 dX7_findAbove_28 g1.o0 rfl (by decide)) rfl ?_
  refine p_icge (tgt := 79) dX7_findAbove_31 (by decide) g2 g3 (fun c1 => ?_) (fun c2 => ?_)
  · refine pGoL (ls2 := [(2, 61), (0, (x1 + 1)), (0, x2)]) (s_iinc dX7_findAbove_79 (by decide) rfl rfl) rfl ?_
    refine pGo (s_goto (tgt := 10) dX7_findAbove_82 (by decide)) ?_
    exact (k1 c1)
  · refine pGo (s_aload_n dX7_findAbove_34 rfl (by decide)) ?_
    refine pGoE (y := (rd σ 61 6)) (s_getR pc7 fl_X7_34 dX7_findAbove_35 (ob_61 hst) rfl rfl) rfl ?_
    refine pGo (s_getF pc6 fl_X7_71 dX7_findAbove_38 g1.o0 rfl (by decide)) ?_
    refine pGo (s_bipush dX7_findAbove_41 (by decide)) ?_
    refine pGo (s_iload_n dX7_findAbove_43 rfl) ?_
    refine pGo (s_iadd dX7_findAbove_44) ?_
    refine pGoE (y := (rd σ ((rd σ 61 6) + 3) (10 + x2))) (s_iald dX7_findAbove_45 g1.o3 (bnd (g4 c2))) rfl ?_
    refine pGo (s_aload_n dX7_findAbove_46 rfl (by decide)) ?_
    refine pGoE (y := (rd σ 61 6)) (s_getR pc7 fl_X7_34 dX7_findAbove_47 (ob_61 hst) rfl rfl) rfl ?_
    refine pGo (s_getF pc6 fl_X7_68 dX7_findAbove_50 g1.o0 rfl (by decide)) ?_
    refine pGo (s_bipush dX7_findAbove_53 (by decide)) ?_
    refine pGo (s_iload_n dX7_findAbove_55 rfl) ?_
    refine pGo (s_iadd dX7_findAbove_56) ?_
    refine pGoE (y := (rd σ ((rd σ 61 6) + 2) (10 + x1))) (s_iald dX7_findAbove_57 g1.o2 (bnd (g5 c2))) rfl ?_
    refine p_icne (tgt := 73) dX7_findAbove_58 (by decide) (g6 c2) (g7 c2) (fun c3 => ?_) (fun c4 => ?_)
    · refine pGoL (ls2 := [(2, 61), (0, x1), (0, (x2 + 1))]) (s_iinc dX7_findAbove_73 (by decide) rfl rfl) rfl ?_
      refine pGo (s_goto (tgt := 23) dX7_findAbove_76 (by decide)) ?_
      exact (k2 c2 c3)
    · refine pGo (s_aload_n dX7_findAbove_61 rfl (by decide)) ?_
      refine pGoE (y := 64) (s_getF pc7 fl_X7_18 dX7_findAbove_62 (ob_61 hst) rfl (by decide)) (by decide) ?_
      refine pGo (s_iload_n dX7_findAbove_65 rfl) ?_
      refine pGo (s_dup2 dX7_findAbove_66 (show (0 : Nat) ≠ 1 by decide) (show (2 : Nat) ≠ 1 by decide)) ?_
      refine pGoE (y := (rd σ 64 x1)) (s_iald dX7_findAbove_67 (ob_64 hst) (bnd (g8 c2 c4))) rfl ?_
      refine pGo (s_iconst dX7_findAbove_68) ?_
      refine pGo (s_iload_n dX7_findAbove_69 rfl) ?_
      refine pGo (s_ishl dX7_findAbove_70) ?_
      refine pGo (s_ior dX7_findAbove_71) ?_
      refine pGo (s_iast dX7_findAbove_72 (ob_64 hst) (bnd (g8 c2 c4))) ?_
      refine pGoL (ls2 := [(2, 61), (0, x1), (0, (x2 + 1))]) (s_iinc dX7_findAbove_73 (by decide) rfl rfl) rfl ?_
      refine pGo (s_goto (tgt := 23) dX7_findAbove_76 (by decide)) ?_
      exact (k3 c2 c4)
set_option maxRecDepth 100000 in
theorem g_X7_forget_0 {d : Nat} {σ : pS} {Q : Option pV → pS → Prop} {Q1 : Option pV → pS → Prop} {Q2 : Option pV → pS → Prop} {Q3 : Option pV → pS → Prop} (hd : 3 ≤ d) (hst : Stat σ) (x1 : Int) (Ix1 : Inst6 σ x1) (f1 : pC mJ7_fill_53178 0 [(2, 62), (0, (-2))] (wr σ 61 6 x1) Q1) (f2 : ∀ (τ1 : pS) (e1 : pLe (wr σ 61 6 x1) τ1) (q1 : Q1 none τ1), pC mX7_findBetween 2 [(2, 61)] τ1 Q2) (f3 : ∀ (τ1 : pS) (e1 : pLe (wr σ 61 6 x1) τ1) (q1 : Q1 none τ1) (τ2 : pS) (e2 : pLe τ1 τ2) (q2 : Q2 none τ2), pC mX7_findAbove 1 [(2, 61)] τ2 Q3) (k1 : ∀ (τ1 : pS) (e1 : pLe (wr σ 61 6 x1) τ1) (q1 : Q1 none τ1) (τ2 : pS) (e2 : pLe τ1 τ2) (q2 : Q2 none τ2) (τ3 : pS) (e3 : pLe τ2 τ3) (q3 : Q3 none τ3), Q none τ3) : pC mX7_forget d [(2, 61), (2, x1)] σ Q := by
  show pR mX7_forget d 0 [(2, 61), (2, x1)] [] σ Q
  refine pGo (s_aload_n dX7_forget_0 rfl (by decide)) ?_
  refine pGo (s_aload_n dX7_forget_1 rfl Ix1.pos) ?_
  refine pGo (s_putR pc7 fl_X7_34 dX7_forget_2 (ob_61 hst) rfl rfl rfl rfl) ?_
  refine pGo (s_aload_n dX7_forget_5 rfl (by decide)) ?_
  refine pGoE (y := 62) (s_getF pc7 fl_X7_9 dX7_forget_6 (ob_61 hst) rfl (by decide)) (by decide) ?_
  refine pGo (s_bipush dX7_forget_9 (by decide)) ?_
  refine p_callS (As := [(2, 62), (0, (-2))]) (st := []) (n := 2) (d' := 0) (Q1 := Q1) ok_J7_fill_53178 ml_X7_38 sm_J7_fill_53178 dX7_forget_11 (pargs_of rfl) rfl (Nat.le_of_ble_eq_true rfl) (by omega) f1 (fun r1 τ1 e1 q1 w1 => ?_)
  obtain rfl : r1 = none := w1
  have S1 : Stat τ1 := (Stat.le (σ := (wr σ 61 6 x1)) hst e1)
  have J1_0 : Inst6 τ1 x1 := Inst6.le (σ := (wr σ 61 6 x1)) Ix1 e1
  show pR mX7_forget d 14 [(2, 61), (2, x1)] [] τ1 Q
  refine pGo (s_aload_n dX7_forget_14 rfl (by decide)) ?_
  refine p_callV (As := []) (st := []) (n := 0) (d' := 2) (Q1 := Q2) pc7 ok_X7_findBetween ml_X7_44 im_X7_findBetween se_X7_findBetween dX7_forget_15 (ob_61 S1) (pargs_of rfl) rfl (Nat.le_of_ble_eq_true rfl) (by omega) (f2 τ1 e1 q1) (fun r2 τ2 e2 q2 w2 => ?_)
  obtain rfl : r2 = none := w2
  have S2 : Stat τ2 := (Stat.le (σ := τ1) S1 e2)
  have J2_0 : Inst6 τ2 x1 := Inst6.le (σ := τ1) J1_0 e2
  show pR mX7_forget d 18 [(2, 61), (2, x1)] [] τ2 Q
  refine pGo (s_aload_n dX7_forget_18 rfl (by decide)) ?_
  refine p_callV (As := []) (st := []) (n := 0) (d' := 1) (Q1 := Q3) pc7 ok_X7_findAbove ml_X7_47 im_X7_findAbove se_X7_findAbove dX7_forget_19 (ob_61 S2) (pargs_of rfl) rfl (Nat.le_of_ble_eq_true rfl) (by omega) (f3 τ1 e1 q1 τ2 e2 q2) (fun r3 τ3 e3 q3 w3 => ?_)
  obtain rfl : r3 = none := w3
  have S3 : Stat τ3 := (Stat.le (σ := τ2) S2 e3)
  have J3_0 : Inst6 τ3 x1 := Inst6.le (σ := τ2) J2_0 e3
  show pR mX7_forget d 22 [(2, 61), (2, x1)] [] τ3 Q
  exact pEnd (r := none) dX7_forget_22 rfl (k1 τ1 e1 q1 τ2 e2 q2 τ3 e3 q3)
