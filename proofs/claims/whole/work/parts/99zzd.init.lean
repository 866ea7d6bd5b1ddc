/-! what forgets, while the class is being made (cell 0 and what comes last are not ready) -/
def StatM (σ : pS) : Prop := ∀ k : Nat, 1 ≤ k → k < 68 → ob σ (k : Int) = some (statOb k)
theorem StatM.wr {σ : pS} {a i v : Int} (h : StatM σ) : StatM (wr σ a i v) := h
theorem StatM.le {σ τ : pS} (h : StatM σ) (e : pLe σ τ) : StatM τ := fun k h1 hk => e.2.2.1 _ _ (h k h1 hk) (statFull k (by omega))
theorem StatM.fl {σ : pS} {a n v : Int} (h : StatM σ) : StatM (fl σ a n v) := h
theorem StatM.eq {σ τ : pS} (h : StatM σ) (e : τ.1 = σ.1) : StatM τ := fun k h1 hk => (ob_eq e _).trans (h k h1 hk)
theorem oM_61 {σ : pS} (h : StatM σ) : ob σ 61 = some (7, 6) := h 61 (by decide) (by decide)
theorem oM_62 {σ : pS} (h : StatM σ) : ob σ 62 = some (50, 20) := h 62 (by decide) (by decide)
theorem oM_63 {σ : pS} (h : StatM σ) : ob σ 63 = some (50, 100) := h 63 (by decide) (by decide)
theorem oM_64 {σ : pS} (h : StatM σ) : ob σ 64 = some (50, 7) := h 64 (by decide) (by decide)
set_option maxRecDepth 100000 in
theorem g_J7_fill_53178_0M {d : Nat} {σ : pS} {Q : Option pV → pS → Prop} (hd : 0 ≤ d) (hst : StatM σ) (x1 : Int) (x2 : Int) {nx1 : Nat} (Ix1 : ob σ x1 = some (50, nx1)) (k1 : pR mJ7_fill_53178 d 5 [(2, x1), (0, x2), (0, 0), (0, (nx1 : Int))] [] σ Q) : pC mJ7_fill_53178 d [(2, x1), (0, x2)] σ Q := by
  show pR mJ7_fill_53178 d 0 [(2, x1), (0, x2), (9, 0), (9, 0)] [] σ Q
  refine pGo (s_iconst dJ7_fill_53178_0) ?_
  refine pGoL (ls2 := [(2, x1), (0, x2), (0, 0), (9, 0)]) (s_istore_n dJ7_fill_53178_1 (by decide) rfl) rfl ?_
  refine pGo (s_aload_n dJ7_fill_53178_2 rfl (ob_some Ix1).1) ?_
  refine pGo (s_alen dJ7_fill_53178_3 Ix1) ?_
  refine pGoL (ls2 := [(2, x1), (0, x2), (0, 0), (0, (nx1 : Int))]) (s_istore_n dJ7_fill_53178_4 (by decide) rfl) rfl ?_
  exact k1
set_option maxRecDepth 100000 in
theorem g_J7_fill_53178_5M {d : Nat} {σ : pS} {Q : Option pV → pS → Prop} (hd : 0 ≤ d) (hst : StatM σ) (x0 : Int) (x1 : Int) (x2 : Int) (x3 : Int) {nx0 : Nat} (Ix0 : ob σ x0 = some (50, nx0)) (g1 : inR x2) (g2 : inR x3) (k1 : ∀ (c1 : x3 ≤ x2), Q none σ) (g3 : ∀ (c2 : x2 < x3), 0 ≤ x2 ∧ x2 < (nx0 : Int) ∧ x2 < 2147483648) (k2 : ∀ (c2 : x2 < x3), pR mJ7_fill_53178 d 5 [(2, x0), (0, x1), (0, (x2 + 1)), (0, x3)] [] (wr σ x0 x2 x1) Q) : pR mJ7_fill_53178 d 5 [(2, x0), (0, x1), (0, x2), (0, x3)] [] σ Q := by
  refine pGo (s_iload_n dJ7_fill_53178_5 rfl) ?_
  refine pGo (s_iload_n dJ7_fill_53178_6 rfl) ?_
  refine p_icge (tgt := 20) dJ7_fill_53178_7 (by decide) g1 g2 (fun c1 => ?_) (fun c2 => ?_)
  · exact pEnd (r := none) dJ7_fill_53178_20 rfl (k1 c1)
  · refine pGo (s_aload_n dJ7_fill_53178_10 rfl (ob_some Ix0).1) ?_
    refine pGo (s_iload_n dJ7_fill_53178_11 rfl) ?_
    refine pGo (s_iload_n dJ7_fill_53178_12 rfl) ?_
    refine pGo (s_iast dJ7_fill_53178_13 Ix0 (g3 c2)) ?_
    refine pGoL (ls2 := [(2, x0), (0, x1), (0, (x2 + 1)), (0, x3)]) (s_iinc dJ7_fill_53178_14 (by decide) rfl rfl) rfl ?_
    refine pGo (s_goto (tgt := 5) dJ7_fill_53178_17 (by decide)) ?_
    exact (k2 c2)
theorem fill_loopM {d : Nat} {σ : pS} (hst : StatM σ) {a v : Int} {n : Nat} (ho : ob σ a = some (50, n)) (hn : n < 2147483648) : ∀ (m : Nat) (i : Int), 0 ≤ i → i + m = n → pR mJ7_fill_53178 d 5 [(2, a), (0, v), (0, i), (0, (n : Int))] [] (fl σ a i v) (fun r τ => r = none ∧ τ = fl σ a n v) := by
  intro m
  induction m with
  | zero =>
    intro i h0 hi
    refine g_J7_fill_53178_5M (nx0 := n) (Nat.zero_le d) hst.fl a v i n ho (by omega) (by omega) (fun _ => ⟨rfl, ?_⟩) (fun c => by omega) (fun c => by omega)
    rw [show i = (n : Int) by omega]
  | succ m ih =>
    intro i h0 hi
    refine g_J7_fill_53178_5M (nx0 := n) (Nat.zero_le d) hst.fl a v i n ho (by omega) (by omega) (fun c => by omega) (fun c => by omega) (fun c => ?_)
    rw [fl_s σ a i v h0]
    exact ih (i + 1) (by omega) (by omega)
theorem fill_CM {d : Nat} {σ : pS} (hst : StatM σ) {a v : Int} {n : Nat} (ho : ob σ a = some (50, n)) (hn : n < 2147483648) : pC mJ7_fill_53178 d [(2, a), (0, v)] σ (fun r τ => r = none ∧ τ = fl σ a n v) := by
  refine g_J7_fill_53178_0M (nx1 := n) (Nat.zero_le d) hst a v ho ?_
  have := fill_loopM (d := d) hst (v := v) ho hn n 0 (by omega) (by omega)
  rw [fl_0] at this
  exact this
set_option maxRecDepth 100000 in
theorem g_X10_within_0M {d : Nat} {σ : pS} {Q : Option pV → pS → Prop} (hd : 0 ≤ d) (hst : StatM σ) (x1 : Int) (x2 : Int)  (g1 : inR x1) (k1 : ∀ (c1 : x1 < 0), Q (some (0, 0)) σ) (g2 : ∀ (c2 : 0 ≤ x1), inR x2) (k2 : ∀ (c2 : 0 ≤ x1) (c3 : x2 ≤ x1), Q (some (0, 0)) σ) (k3 : ∀ (c2 : 0 ≤ x1) (c4 : x1 < x2), Q (some (0, 1)) σ) : pC mX10_within d [(0, x1), (0, x2)] σ Q := by
  show pR mX10_within d 0 [(0, x1), (0, x2)] [] σ Q
  refine pGo (s_iload_n dX10_within_0 rfl) ?_
  refine p_iflt (tgt := 13) dX10_within_1 (by decide) g1 (fun c1 => ?_) (fun c2 => ?_)
  · refine pGo (s_iconst dX10_within_13) ?_
    exact pEnd (r := (some (0, 0))) dX10_within_14 (Or.inl rfl) (k1 c1)
  · refine pGo (s_iload_n dX10_within_4 rfl) ?_
    refine pGo (s_iload_n dX10_within_5 rfl) ?_
    refine p_icge (tgt := 13) dX10_within_6 (by decide) g1 (g2 c2) (fun c3 => ?_) (fun c4 => ?_)
    · refine pGo (s_iconst dX10_within_13) ?_
      exact pEnd (r := (some (0, 0))) dX10_within_14 (Or.inl rfl) (k2 c2 c3)
    · refine pGo (s_iconst dX10_within_9) ?_
      refine pGo (s_goto (tgt := 14) dX10_within_10 (by decide)) ?_
      exact pEnd (r := (some (0, 1))) dX10_within_14 (Or.inr rfl) (k3 c2 c4)
set_option maxRecDepth 100000 in
theorem g_X6_has_0M {d : Nat} {σ : pS} {Q : Option pV → pS → Prop} (hd : 1 ≤ d) (hst : StatM σ) (a0 : Int) (x1 : Int) (Ia0 : Inst6 σ a0) (f1 : pC mX10_within 0 [(0, x1), (0, (rd σ a0 0))] σ (fun r τ => r = some (0, b2i (vWithin x1 (rd σ a0 0))) ∧ τ = σ)) (k1 : ∀ (c1 : (vWithin x1 (rd σ a0 0)) = true), Q (some (0, 1)) σ) (g1 : ∀ (c2 : (vWithin x1 (rd σ a0 0)) = false), inR x1) (k2 : ∀ (c2 : (vWithin x1 (rd σ a0 0)) = false) (c3 : x1 < 10), Q (some (0, 0)) σ) (g2 : ∀ (c2 : (vWithin x1 (rd σ a0 0)) = false) (c4 : 10 ≤ x1), inR (10 + (rd σ a0 1))) (k3 : ∀ (c2 : (vWithin x1 (rd σ a0 0)) = false) (c4 : 10 ≤ x1) (c5 : (10 + (rd σ a0 1)) ≤ x1), Q (some (0, 0)) σ) (k4 : ∀ (c2 : (vWithin x1 (rd σ a0 0)) = false) (c4 : 10 ≤ x1) (c6 : x1 < (10 + (rd σ a0 1))), Q (some (0, 1)) σ) : pC mX6_has d [(2, a0), (0, x1)] σ Q := by
  show pR mX6_has d 0 [(2, a0), (0, x1)] [] σ Q
  refine pGo (s_iload_n dX6_has_0 rfl) ?_
  refine pGo (s_aload_n dX6_has_1 rfl Ia0.pos) ?_
  refine pGoE (y := (rd σ a0 0)) (s_getI pc6 fl_X6_44 dX6_has_2 Ia0.o0 rfl (by decide)) rfl ?_
  refine p_callS (As := [(0, x1), (0, (rd σ a0 0))]) (st := []) (n := 2) (d' := 0) (Q1 := (fun r τ => r = some (0, b2i (vWithin x1 (rd σ a0 0))) ∧ τ = σ)) ok_X10_within ml_X6_48 sm_X10_within dX6_has_5 (pargs_of rfl) rfl (Nat.le_of_ble_eq_true rfl) (by omega) f1 (fun r1 τ1 e1 q1 w1 => ?_)
  obtain ⟨rfl, t1⟩ := q1
  rw [t1]
  show pR mX6_has d 8 [(2, a0), (0, x1)] [(0, (b2i (vWithin x1 (rd σ a0 0))))] σ Q
  refine p_ifneB (tgt := 28) dX6_has_8 (by decide) (fun c1 => ?_) (fun c2 => ?_)
  · refine pGo (s_iconst dX6_has_28) ?_
    refine pGo (s_goto (tgt := 33) dX6_has_29 (by decide)) ?_
    exact pEnd (r := (some (0, 1))) dX6_has_33 (Or.inr rfl) (k1 c1)
  · refine pGo (s_iload_n dX6_has_11 rfl) ?_
    refine pGo (s_bipush dX6_has_12 (by decide)) ?_
    refine p_iclt (tgt := 32) dX6_has_14 (by decide) (g1 c2) (by decide) (fun c3 => ?_) (fun c4 => ?_)
    · refine pGo (s_iconst dX6_has_32) ?_
      exact pEnd (r := (some (0, 0))) dX6_has_33 (Or.inl rfl) (k2 c2 c3)
    · refine pGo (s_iload_n dX6_has_17 rfl) ?_
      refine pGo (s_bipush dX6_has_18 (by decide)) ?_
      refine pGo (s_aload_n dX6_has_20 rfl Ia0.pos) ?_
      refine pGoE (y := (rd σ a0 1)) (s_getI pc6 fl_X6_52 dX6_has_21 Ia0.o0 rfl (by decide)) rfl ?_
      refine pGo (s_iadd dX6_has_24) ?_
      refine p_icge (tgt := 32) dX6_has_25 (by decide) (g1 c2) (g2 c2 c4) (fun c5 => ?_) (fun c6 => ?_)
      · refine pGo (s_iconst dX6_has_32) ?_
        exact pEnd (r := (some (0, 0))) dX6_has_33 (Or.inl rfl) (k3 c2 c4 c5)
      · refine pGo (s_iconst dX6_has_28) ?_
        refine pGo (s_goto (tgt := 33) dX6_has_29 (by decide)) ?_
        exact pEnd (r := (some (0, 1))) dX6_has_33 (Or.inr rfl) (k4 c2 c4 c6)
theorem within_CM {d : Nat} {σ : pS} (hst : StatM σ) {n b : Int} (hn : inR n) (hb : inR b) : pC mX10_within d [(0, n), (0, b)] σ (fun r τ => r = some (0, b2i (vWithin n b)) ∧ τ = σ) := by
  refine g_X10_within_0M (Nat.zero_le d) hst n b hn ?_ ?_ ?_ ?_
  all_goals first | (intros; omega) | (intros; refine ⟨?_, rfl⟩; unfold vWithin; first | exact b2i_one (by omega) | exact b2i_zero (by omega))
theorem has_CM {d : Nat} {σ : pS} (hd : 1 ≤ d) (hst : StatM σ) {a w : Int} (hI : Inst6 σ a) (hw : inR w) (hl : 0 ≤ rd σ a 0 ∧ rd σ a 0 ≤ 6) (hr : 0 ≤ rd σ a 1 ∧ rd σ a 1 ≤ 7) : pC mX6_has d [(2, a), (0, w)] σ (fun r τ => r = some (0, b2i (vHas (rd σ a 0) (rd σ a 1) w)) ∧ τ = σ) := by
  refine g_X6_has_0M hd hst a w hI (within_CM hst hw (by omega)) (fun c => ⟨?_, rfl⟩) (fun _ => hw) (fun c c2 => ⟨?_, rfl⟩) (by omega) (fun c c2 c3 => ⟨?_, rfl⟩) (fun c c2 c3 => ⟨?_, rfl⟩)
  · have := vWithin_t c; unfold vHas; exact b2i_one (by omega)
  · have := vWithin_f c; unfold vHas; exact b2i_zero (by omega)
  · have := vWithin_f c; unfold vHas; exact b2i_zero (by omega)
  · unfold vHas; exact b2i_one (by omega)
set_option maxRecDepth 100000 in
theorem g_X7_findBetween_0M {d : Nat} {σ : pS} {Q : Option pV → pS → Prop} (hd : 2 ≤ d) (hst : StatM σ)   (k1 : pR mX7_findBetween d 2 [(2, 61), (0, 0), (9, 0), (9, 0)] [] σ Q) : pC mX7_findBetween d [(2, 61)] σ Q := by
  show pR mX7_findBetween d 0 [(2, 61), (9, 0), (9, 0), (9, 0)] [] σ Q
  refine pGo (s_iconst dX7_findBetween_0) ?_
  refine pGoL (ls2 := [(2, 61), (0, 0), (9, 0), (9, 0)]) (s_istore_n dX7_findBetween_1 (by decide) rfl) rfl ?_
  exact k1
set_option maxRecDepth 100000 in
theorem g_X7_findBetween_2M {d : Nat} {σ : pS} {Q : Option pV → pS → Prop} (hd : 2 ≤ d) (hst : StatM σ) (x1 : Int) (u2 : pV) (u3 : pV) (hu2 : u2.1 ≠ 1) (hu3 : u3.1 ≠ 1) (g1 : inR x1) (k1 : ∀ (c1 : 100 ≤ x1), pR mX7_findBetween d 42 [(2, 61), (0, 0), u2, u3] [] σ Q) (g2 : ∀ (c2 : x1 < 100), 0 ≤ x1 ∧ x1 < 2147483648) (g3 : ∀ (c2 : x1 < 100), inR (x1 / 10)) (g4 : ∀ (c2 : x1 < 100), inR (x1 % 10)) (g5 : ∀ (c2 : x1 < 100) (c3 : (x1 / 10) ≠ (x1 % 10)), 0 ≤ x1 ∧ x1 < 100) (k2 : ∀ (c2 : x1 < 100) (c3 : (x1 / 10) ≠ (x1 % 10)), pR mX7_findBetween d 2 [(2, 61), (0, (x1 + 1)), u2, u3] [] (wr σ 63 x1 1000000) Q) (g6 : ∀ (c2 : x1 < 100) (c4 : (x1 / 10) = (x1 % 10)), 0 ≤ x1 ∧ x1 < 100) (k3 : ∀ (c2 : x1 < 100) (c4 : (x1 / 10) = (x1 % 10)), pR mX7_findBetween d 2 [(2, 61), (0, (x1 + 1)), u2, u3] [] (wr σ 63 x1 0) Q) : pR mX7_findBetween d 2 [(2, 61), (0, x1), u2, u3] [] σ Q := by
  refine pGo (s_iload_n dX7_findBetween_2 rfl) ?_
  refine pGo (s_aload_n dX7_findBetween_3 rfl (by decide)) ?_
  refine pGoE (y := 63) (s_getF pc7 fl_X7_15 dX7_findBetween_4 (oM_61 hst) rfl (by decide)) (by decide) ?_
  refine pGoE (y := 100) (s_alen dX7_findBetween_7 (oM_63 hst)) rfl ?_
  refine p_icge (tgt := 40) dX7_findBetween_8 (by decide) g1 (by decide) (fun c1 => ?_) (fun c2 => ?_)
  · refine pGo (s_iconst dX7_findBetween_40) ?_
    refine pGoL (ls2 := [(2, 61), (0, 0), u2, u3]) (s_istore_n dX7_findBetween_41 (by decide) rfl) rfl ?_
    exact (k1 c1)
  · refine pGo (s_aload_n dX7_findBetween_11 rfl (by decide)) ?_
    refine pGoE (y := 63) (s_getF pc7 fl_X7_15 dX7_findBetween_12 (oM_61 hst) rfl (by decide)) (by decide) ?_
    refine pGo (s_iload_n dX7_findBetween_15 rfl) ?_
    refine pGo (s_iload_n dX7_findBetween_16 rfl) ?_
    refine pGo (s_bipush dX7_findBetween_17 (by decide)) ?_
    refine pGo (s_idivp dX7_findBetween_19 (g2 c2) (by decide)) ?_
    refine pGo (s_iload_n dX7_findBetween_20 rfl) ?_
    refine pGo (s_bipush dX7_findBetween_21 (by decide)) ?_
    refine pGo (s_iremp dX7_findBetween_23 (g2 c2) (by decide)) ?_
    refine p_icne (tgt := 31) dX7_findBetween_24 (by decide) (g3 c2) (g4 c2) (fun c3 => ?_) (fun c4 => ?_)
    · refine pGo (s_ldc (n := 1000000) dX7_findBetween_31 kc_X7_54 (by decide)) ?_
      refine pGo (s_iast dX7_findBetween_33 (oM_63 hst) (bnd (g5 c2 c3))) ?_
      refine pGoL (ls2 := [(2, 61), (0, (x1 + 1)), u2, u3]) (s_iinc dX7_findBetween_34 (by decide) rfl rfl) rfl ?_
      refine pGo (s_goto (tgt := 2) dX7_findBetween_37 (by decide)) ?_
      exact (k2 c2 c3)
    · refine pGo (s_iconst dX7_findBetween_27) ?_
      refine pGo (s_goto (tgt := 33) dX7_findBetween_28 (by decide)) ?_
      refine pGo (s_iast dX7_findBetween_33 (oM_63 hst) (bnd (g6 c2 c4))) ?_
      refine pGoL (ls2 := [(2, 61), (0, (x1 + 1)), u2, u3]) (s_iinc dX7_findBetween_34 (by decide) rfl rfl) rfl ?_
      refine pGo (s_goto (tgt := 2) dX7_findBetween_37 (by decide)) ?_
      exact (k3 c2 c4)
set_option maxRecDepth 100000 in
theorem g_X7_findBetween_42M {d : Nat} {σ : pS} {Q : Option pV → pS → Prop} (hd : 2 ≤ d) (hst : StatM σ) (x1 : Int) (u2 : pV) (u3 : pV) (hu2 : u2.1 ≠ 1) (hu3 : u3.1 ≠ 1) (g1 : inR x1) (k1 : ∀ (c1 : 17 ≤ x1), pR mX7_findBetween d 114 [(2, 61), (0, 0), u2, u3] [] σ Q) (f1 : ∀ (c2 : x1 < 17), pC mX6_has 1 [(2, (rd σ 61 6)), (0, x1)] σ (fun r τ => r = some (0, b2i (vHas (rd σ (rd σ 61 6) 0) (rd σ (rd σ 61 6) 1) x1)) ∧ τ = σ)) (g2 : ∀ (c2 : x1 < 17), Inst6 σ (rd σ 61 6)) (k2 : ∀ (c2 : x1 < 17) (c3 : (vHas (rd σ (rd σ 61 6) 0) (rd σ (rd σ 61 6) 1) x1) = false), pR mX7_findBetween d 42 [(2, 61), (0, (x1 + 1)), u2, u3] [] σ Q) (g3 : ∀ (c2 : x1 < 17) (c4 : (vHas (rd σ (rd σ 61 6) 0) (rd σ (rd σ 61 6) 1) x1) = true), 0 ≤ x1 ∧ x1 < 17) (g4 : ∀ (c2 : x1 < 17) (c4 : (vHas (rd σ (rd σ 61 6) 0) (rd σ (rd σ 61 6) 1) x1) = true), 0 ≤ (((rd σ ((rd σ 61 6) + 2) x1) * 10) + (rd σ ((rd σ 61 6) + 3) x1)) ∧ (((rd σ ((rd σ 61 6) + 2) x1) * 10) + (rd σ ((rd σ 61 6) + 3) x1)) < 100) (g5 : ∀ (c2 : x1 < 17) (c4 : (vHas (rd σ (rd σ 61 6) 0) (rd σ (rd σ 61 6) 1) x1) = true), inR (rd σ 63 (((rd σ ((rd σ 61 6) + 2) x1) * 10) + (rd σ ((rd σ 61 6) + 3) x1)))) (g6 : ∀ (c2 : x1 < 17) (c4 : (vHas (rd σ (rd σ 61 6) 0) (rd σ (rd σ 61 6) 1) x1) = true), inR (rd σ ((rd σ 61 6) + 4) x1)) (k3 : ∀ (c2 : x1 < 17) (c4 : (vHas (rd σ (rd σ 61 6) 0) (rd σ (rd σ 61 6) 1) x1) = true), pR mX7_findBetween d 42 [(2, 61), (0, (x1 + 1)), (0, (((rd σ ((rd σ 61 6) + 2) x1) * 10) + (rd σ ((rd σ 61 6) + 3) x1))), u3] [] (wr σ 63 (((rd σ ((rd σ 61 6) + 2) x1) * 10) + (rd σ ((rd σ 61 6) + 3) x1)) (min (rd σ 63 (((rd σ ((rd σ 61 6) + 2) x1) * 10) + (rd σ ((rd σ 61 6) + 3) x1))) (rd σ ((rd σ 61 6) + 4) x1))) Q) : pR mX7_findBetween d 42 [(2, 61), (0, x1), u2, u3] [] σ Q := by
  refine pGo (s_iload_n dX7_findBetween_42 rfl) ?_
  refine pGo (s_bipush dX7_findBetween_43 (by decide)) ?_
  refine p_icge (tgt := 112) dX7_findBetween_45 (by decide) g1 (by decide) (fun c1 => ?_) (fun c2 => ?_)
  · refine pGo (s_iconst dX7_findBetween_112) ?_
    refine pGoL (ls2 := [(2, 61), (0, 0), u2, u3]) (s_istore_n dX7_findBetween_113 (by decide) rfl) rfl ?_
    exact (k1 c1)
  · refine pGo (s_aload_n dX7_findBetween_48 rfl (by decide)) ?_
    refine pGoE (y := (rd σ 61 6)) (s_getR pc7 fl_X7_34 dX7_findBetween_49 (oM_61 hst) rfl rfl) rfl ?_
    refine pGo (s_iload_n dX7_findBetween_52 rfl) ?_
    refine p_callV (As := [(0, x1)]) (st := []) (n := 1) (d' := 1) (Q1 := (fun r τ => r = some (0, b2i (vHas (rd σ (rd σ 61 6) 0) (rd σ (rd σ 61 6) 1) x1)) ∧ τ = σ)) pc6 ok_X6_has ml_X7_62 im_X6_has se_X6_has dX7_findBetween_53 (g2 c2).o0 (pargs_of rfl) rfl (Nat.le_of_ble_eq_true rfl) (by omega) (f1 c2) (fun r1 τ1 e1 q1 w1 => ?_)
    obtain ⟨rfl, t1⟩ := q1
    rw [t1]
    show pR mX7_findBetween d 56 [(2, 61), (0, x1), u2, u3] [(0, (b2i (vHas (rd σ (rd σ 61 6) 0) (rd σ (rd σ 61 6) 1) x1)))] σ Q
    refine p_ifeqB (tgt := 106) dX7_findBetween_56 (by decide) (fun c3 => ?_) (fun c4 => ?_)
    · refine pGoL (ls2 := [(2, 61), (0, (x1 + 1)), u2, u3]) (s_iinc dX7_findBetween_106 (by decide) rfl rfl) rfl ?_
      refine pGo (s_goto (tgt := 42) dX7_findBetween_109 (by decide)) ?_
      exact (k2 c2 c3)
    · refine pGo (s_aload_n dX7_findBetween_59 rfl (by decide)) ?_
      refine pGoE (y := (rd σ 61 6)) (s_getR pc7 fl_X7_34 dX7_findBetween_60 (oM_61 hst) rfl rfl) rfl ?_
      refine pGo (s_getF pc6 fl_X7_68 dX7_findBetween_63 (g2 c2).o0 rfl (by decide)) ?_
      refine pGo (s_iload_n dX7_findBetween_66 rfl) ?_
      refine pGoE (y := (rd σ ((rd σ 61 6) + 2) x1)) (s_iald dX7_findBetween_67 (g2 c2).o2 (bnd (g3 c2 c4))) rfl ?_
      refine pGo (s_bipush dX7_findBetween_68 (by decide)) ?_
      refine pGo (s_imul dX7_findBetween_70) ?_
      refine pGo (s_aload_n dX7_findBetween_71 rfl (by decide)) ?_
      refine pGoE (y := (rd σ 61 6)) (s_getR pc7 fl_X7_34 dX7_findBetween_72 (oM_61 hst) rfl rfl) rfl ?_
      refine pGo (s_getF pc6 fl_X7_71 dX7_findBetween_75 (g2 c2).o0 rfl (by decide)) ?_
      refine pGo (s_iload_n dX7_findBetween_78 rfl) ?_
      refine pGoE (y := (rd σ ((rd σ 61 6) + 3) x1)) (s_iald dX7_findBetween_79 (g2 c2).o3 (bnd (g3 c2 c4))) rfl ?_
      refine pGo (s_iadd dX7_findBetween_80) ?_
      refine pGoL (ls2 := [(2, 61), (0, x1), (0, (((rd σ ((rd σ 61 6) + 2) x1) * 10) + (rd σ ((rd σ 61 6) + 3) x1))), u3]) (s_istore_n dX7_findBetween_81 (by decide) rfl) rfl ?_
      refine pGo (s_aload_n dX7_findBetween_82 rfl (by decide)) ?_
      refine pGoE (y := 63) (s_getF pc7 fl_X7_15 dX7_findBetween_83 (oM_61 hst) rfl (by decide)) (by decide) ?_
      refine pGo (s_iload_n dX7_findBetween_86 rfl) ?_
      refine pGo (s_aload_n dX7_findBetween_87 rfl (by decide)) ?_
      refine pGoE (y := 63) (s_getF pc7 fl_X7_15 dX7_findBetween_88 (oM_61 hst) rfl (by decide)) (by decide) ?_
      refine pGo (s_iload_n dX7_findBetween_91 rfl) ?_
      refine pGoE (y := (rd σ 63 (((rd σ ((rd σ 61 6) + 2) x1) * 10) + (rd σ ((rd σ 61 6) + 3) x1)))) (s_iald dX7_findBetween_92 (oM_63 hst) (bnd (g4 c2 c4))) rfl ?_
      refine pGo (s_aload_n dX7_findBetween_93 rfl (by decide)) ?_
      refine pGoE (y := (rd σ 61 6)) (s_getR pc7 fl_X7_34 dX7_findBetween_94 (oM_61 hst) rfl rfl) rfl ?_
      refine pGo (s_getF pc6 fl_X7_74 dX7_findBetween_97 (g2 c2).o0 rfl (by decide)) ?_
      refine pGo (s_iload_n dX7_findBetween_100 rfl) ?_
      refine pGoE (y := (rd σ ((rd σ 61 6) + 4) x1)) (s_iald dX7_findBetween_101 (g2 c2).o4 (bnd (g3 c2 c4))) rfl ?_
      refine pGo (s_mmin (by omega) mj_X7_77 (Nat.le_of_ble_eq_true rfl) dX7_findBetween_102 (g5 c2 c4) (g6 c2 c4)) ?_
      refine pGo (s_iast dX7_findBetween_105 (oM_63 hst) (bnd (g4 c2 c4))) ?_
      refine pGoL (ls2 := [(2, 61), (0, (x1 + 1)), (0, (((rd σ ((rd σ 61 6) + 2) x1) * 10) + (rd σ ((rd σ 61 6) + 3) x1))), u3]) (s_iinc dX7_findBetween_106 (by decide) rfl rfl) rfl ?_
      refine pGo (s_goto (tgt := 42) dX7_findBetween_109 (by decide)) ?_
      exact (k3 c2 c4)
set_option maxRecDepth 100000 in
theorem g_X7_findBetween_114M {d : Nat} {σ : pS} {Q : Option pV → pS → Prop} (hd : 2 ≤ d) (hst : StatM σ) (x1 : Int) (u2 : pV) (u3 : pV) (hu2 : u2.1 ≠ 1) (hu3 : u3.1 ≠ 1) (g1 : inR x1) (k1 : ∀ (c1 : 10 ≤ x1), Q none σ) (k2 : ∀ (c2 : x1 < 10), pR mX7_findBetween d 122 [(2, 61), (0, x1), (0, 0), u3] [] σ Q) : pR mX7_findBetween d 114 [(2, 61), (0, x1), u2, u3] [] σ Q := by
  refine pGo (s_iload_n dX7_findBetween_114 rfl) ?_
  refine pGo (s_bipush dX7_findBetween_115 (by decide)) ?_
  refine p_icge (tgt := 189) dX7_findBetween_117 (by decide) g1 (by decide) (fun c1 => ?_) (fun c2 => ?_)
  · exact pEnd (r := none) dX7_findBetween_189 rfl (k1 c1)
  · refine pGo (s_iconst dX7_findBetween_120) ?_
    refine pGoL (ls2 := [(2, 61), (0, x1), (0, 0), u3]) (s_istore_n dX7_findBetween_121 (by decide) rfl) rfl ?_
    exact (k2 c2)
set_option maxRecDepth 100000 in
theorem g_X7_findBetween_122M {d : Nat} {σ : pS} {Q : Option pV → pS → Prop} (hd : 2 ≤ d) (hst : StatM σ) (x1 : Int) (x2 : Int) (u3 : pV) (hu3 : u3.1 ≠ 1) (g1 : inR x2) (k1 : ∀ (c1 : 100 ≤ x2), pR mX7_findBetween d 114 [(2, 61), (0, (x1 + 1)), (0, x2), u3] [] σ Q) (g2 : ∀ (c2 : x2 < 100), 0 ≤ x2 ∧ x2 < 2147483648) (g3 : ∀ (c2 : x2 < 100), 0 ≤ (((x2 / 10) * 10) + x1) ∧ (((x2 / 10) * 10) + x1) < 100) (g4 : ∀ (c2 : x2 < 100), 0 ≤ ((x1 * 10) + (x2 % 10)) ∧ ((x1 * 10) + (x2 % 10)) < 100) (g5 : ∀ (c2 : x2 < 100), 0 ≤ x2 ∧ x2 < 100) (g6 : ∀ (c2 : x2 < 100), inR (rd σ 63 x2)) (g7 : ∀ (c2 : x2 < 100), inR ((rd σ 63 (((x2 / 10) * 10) + x1)) + (rd σ 63 ((x1 * 10) + (x2 % 10))))) (k2 : ∀ (c2 : x2 < 100), pR mX7_findBetween d 122 [(2, 61), (0, x1), (0, (x2 + 1)), (0, ((rd σ 63 (((x2 / 10) * 10) + x1)) + (rd σ 63 ((x1 * 10) + (x2 % 10)))))] [] (wr σ 63 x2 (min (rd σ 63 x2) ((rd σ 63 (((x2 / 10) * 10) + x1)) + (rd σ 63 ((x1 * 10) + (x2 % 10)))))) Q) : pR mX7_findBetween d 122 [(2, 61), (0, x1), (0, x2), u3] [] σ Q := by
  refine pGo (s_iload_n dX7_findBetween_122 rfl) ?_
  refine pGo (s_aload_n dX7_findBetween_123 rfl (by decide)) ?_
  refine pGoE (y := 63) (s_getF pc7 fl_X7_15 dX7_findBetween_124 (oM_61 hst) rfl (by decide)) (by decide) ?_
  refine pGoE (y := 100) (s_alen dX7_findBetween_127 (oM_63 hst)) rfl ?_
  refine p_icge (tgt := 183) dX7_findBetween_128 (by decide) g1 (by decide) (fun c1 => ?_) (fun c2 => ?_)
  · refine pGoL (ls2 := [(2, 61), (0, (x1 + 1)), (0, x2), u3]) (s_iinc dX7_findBetween_183 (by decide) rfl rfl) rfl ?_
    refine pGo (s_goto (tgt := 114) dX7_findBetween_186 (by decide)) ?_
    exact (k1 c1)
  · refine pGo (s_aload_n dX7_findBetween_131 rfl (by decide)) ?_
    refine pGoE (y := 63) (s_getF pc7 fl_X7_15 dX7_findBetween_132 (oM_61 hst) rfl (by decide)) (by decide) ?_
    refine pGo (s_iload_n dX7_findBetween_135 rfl) ?_
    refine pGo (s_bipush dX7_findBetween_136 (by decide)) ?_
    refine pGo (s_idivp dX7_findBetween_138 (g2 c2) (by decide)) ?_
    refine pGo (s_bipush dX7_findBetween_139 (by decide)) ?_
    refine pGo (s_imul dX7_findBetween_141) ?_
    refine pGo (s_iload_n dX7_findBetween_142 rfl) ?_
    refine pGo (s_iadd dX7_findBetween_143) ?_
    refine pGoE (y := (rd σ 63 (((x2 / 10) * 10) + x1))) (s_iald dX7_findBetween_144 (oM_63 hst) (bnd (g3 c2))) rfl ?_
    refine pGo (s_aload_n dX7_findBetween_145 rfl (by decide)) ?_
    refine pGoE (y := 63) (s_getF pc7 fl_X7_15 dX7_findBetween_146 (oM_61 hst) rfl (by decide)) (by decide) ?_
    refine pGo (s_iload_n dX7_findBetween_149 rfl) ?_
    refine pGo (s_bipush dX7_findBetween_150 (by decide)) ?_
    refine pGo (s_imul dX7_findBetween_152) ?_
    refine pGo (s_iload_n dX7_findBetween_153 rfl) ?_
    refine pGo (s_bipush dX7_findBetween_154 (by decide)) ?_
    refine pGo (s_iremp dX7_findBetween_156 (g2 c2) (by decide)) ?_
    refine pGo (s_iadd dX7_findBetween_157) ?_
    refine pGoE (y := (rd σ 63 ((x1 * 10) + (x2 % 10)))) (s_iald dX7_findBetween_158 (oM_63 hst) (bnd (g4 c2))) rfl ?_
    refine pGo (s_iadd dX7_findBetween_159) ?_
    refine pGoL (ls2 := [(2, 61), (0, x1), (0, x2), (0, ((rd σ 63 (((x2 / 10) * 10) + x1)) + (rd σ 63 ((x1 * 10) + (x2 % 10)))))]) (s_istore_n dX7_findBetween_160 (by decide) rfl) rfl ?_
    refine pGo (s_aload_n dX7_findBetween_161 rfl (by decide)) ?_
    refine pGoE (y := 63) (s_getF pc7 fl_X7_15 dX7_findBetween_162 (oM_61 hst) rfl (by decide)) (by decide) ?_
    refine pGo (s_iload_n dX7_findBetween_165 rfl) ?_
    refine pGo (s_aload_n dX7_findBetween_166 rfl (by decide)) ?_
    refine pGoE (y := 63) (s_getF pc7 fl_X7_15 dX7_findBetween_167 (oM_61 hst) rfl (by decide)) (by decide) ?_
    refine pGo (s_iload_n dX7_findBetween_170 rfl) ?_
    refine pGoE (y := (rd σ 63 x2)) (s_iald dX7_findBetween_171 (oM_63 hst) (bnd (g5 c2))) rfl ?_
    refine pGo (s_iload_n dX7_findBetween_172 rfl) ?_
    refine pGo (s_mmin (by omega) mj_X7_77 (Nat.le_of_ble_eq_true rfl) dX7_findBetween_173 (g6 c2) (g7 c2)) ?_
    refine pGo (s_iast dX7_findBetween_176 (oM_63 hst) (bnd (g5 c2))) ?_
    refine pGoL (ls2 := [(2, 61), (0, x1), (0, (x2 + 1)), (0, ((rd σ 63 (((x2 / 10) * 10) + x1)) + (rd σ 63 ((x1 * 10) + (x2 % 10)))))]) (s_iinc dX7_findBetween_177 (by decide) rfl rfl) rfl ?_
    refine pGo (s_goto (tgt := 122) dX7_findBetween_180 (by decide)) ?_
    exact (k2 c2)
set_option maxRecDepth 100000 in
theorem g_X7_findAbove_0M {d : Nat} {σ : pS} {Q : Option pV → pS → Prop} {Q1 : Option pV → pS → Prop} (hd : 1 ≤ d) (hst : StatM σ)   (f1 : pC mJ7_fill_53178 0 [(2, 64), (0, 0)] σ Q1) (k1 : ∀ (τ1 : pS) (e1 : pLe σ τ1) (q1 : Q1 none τ1), pR mX7_findAbove d 10 [(2, 61), (0, 0), (9, 0)] [] τ1 Q) : pC mX7_findAbove d [(2, 61)] σ Q := by
  show pR mX7_findAbove d 0 [(2, 61), (9, 0), (9, 0)] [] σ Q
  refine pGo (s_aload_n dX7_findAbove_0 rfl (by decide)) ?_
  refine pGoE (y := 64) (s_getF pc7 fl_X7_18 dX7_findAbove_1 (oM_61 hst) rfl (by decide)) (by decide) ?_
  refine pGo (s_iconst dX7_findAbove_4) ?_
  refine p_callS (As := [(2, 64), (0, 0)]) (st := []) (n := 2) (d' := 0) (Q1 := Q1) ok_J7_fill_53178 ml_X7_38 sm_J7_fill_53178 dX7_findAbove_5 (pargs_of rfl) rfl (Nat.le_of_ble_eq_true rfl) (by omega) f1 (fun r1 τ1 e1 q1 w1 => ?_)
  obtain rfl : r1 = none := w1
  have S1 : StatM τ1 := (StatM.le (σ := σ) hst e1)
  show pR mX7_findAbove d 8 [(2, 61), (9, 0), (9, 0)] [] τ1 Q
  refine pGo (s_iconst dX7_findAbove_8) ?_
  refine pGoL (ls2 := [(2, 61), (0, 0), (9, 0)]) (s_istore_n dX7_findAbove_9 (by decide) rfl) rfl ?_
  exact (k1 τ1 e1 q1)
set_option maxRecDepth 100000 in
theorem g_X7_findAbove_10M {d : Nat} {σ : pS} {Q : Option pV → pS → Prop} (hd : 1 ≤ d) (hst : StatM σ) (x1 : Int) (u2 : pV) (hu2 : u2.1 ≠ 1) (g1 : Inst6 σ (rd σ 61 6)) (g2 : inR x1) (g3 : inR (rd σ (rd σ 61 6) 1)) (k1 : ∀ (c1 : (rd σ (rd σ 61 6) 1) ≤ x1), Q none σ) (k2 : ∀ (c2 : x1 < (rd σ (rd σ 61 6) 1)), pR mX7_findAbove d 23 [(2, 61), (0, x1), (0, 0)] [] σ Q) : pR mX7_findAbove d 10 [(2, 61), (0, x1), u2] [] σ Q := by
  refine pGo (s_iload_n dX7_findAbove_10 rfl) ?_
  refine pGo (s_aload_n dX7_findAbove_11 rfl (by decide)) ?_
  refine pGoE (y := (rd σ 61 6)) (s_getR pc7 fl_X7_34 dX7_findAbove_12 (oM_61 hst) rfl rfl) rfl ?_
  refine pGoE (y := (rd σ (rd σ 61 6) 1)) (s_getI pc6 fl_X7_83 dX7_findAbove_15 g1.o0 rfl (by decide)) rfl ?_
  refine p_icge (tgt := 85) dX7_findAbove_18 (by decide) g2 g3 (fun c1 => ?_) (fun c2 => ?_)
  · exact pEnd (r := none) dX7_findAbove_85 rfl (k1 c1)
  · refine pGo (s_iconst dX7_findAbove_21) ?_
    refine pGoL (ls2 := [(2, 61), (0, x1), (0, 0)]) (s_istore_n dX7_findAbove_22 (by decide) rfl) rfl ?_
    exact (k2 c2)
set_option maxRecDepth 100000 in
theorem g_X7_findAbove_23M {d : Nat} {σ : pS} {Q : Option pV → pS → Prop} (hd : 1 ≤ d) (hst : StatM σ) (x1 : Int) (x2 : Int)  (g1 : Inst6 σ (rd σ 61 6)) (g2 : inR x2) (g3 : inR (rd σ (rd σ 61 6) 1)) (k1 : ∀ (c1 : (rd σ (rd σ 61 6) 1) ≤ x2), pR mX7_findAbove d 10 [(2, 61), (0, (x1 + 1)), (0, x2)] [] σ Q) (g4 : ∀ (c2 : x2 < (rd σ (rd σ 61 6) 1)), 0 ≤ (10 + x2) ∧ (10 + x2) < 17) (g5 : ∀ (c2 : x2 < (rd σ (rd σ 61 6) 1)), 0 ≤ (10 + x1) ∧ (10 + x1) < 17) (g6 : ∀ (c2 : x2 < (rd σ (rd σ 61 6) 1)), inR (rd σ ((rd σ 61 6) + 3) (10 + x2))) (g7 : ∀ (c2 : x2 < (rd σ (rd σ 61 6) 1)), inR (rd σ ((rd σ 61 6) + 2) (10 + x1))) (k2 : ∀ (c2 : x2 < (rd σ (rd σ 61 6) 1)) (c3 : (rd σ ((rd σ 61 6) + 3) (10 + x2)) ≠ (rd σ ((rd σ 61 6) + 2) (10 + x1))), pR mX7_findAbove d 23 [(2, 61), (0, x1), (0, (x2 + 1))] [] σ Q) (g8 : ∀ (c2 : x2 < (rd σ (rd σ 61 6) 1)) (c4 : (rd σ ((rd σ 61 6) + 3) (10 + x2)) = (rd σ ((rd σ 61 6) + 2) (10 + x1))), 0 ≤ x1 ∧ x1 < 7) (k3 : ∀ (c2 : x2 < (rd σ (rd σ 61 6) 1)) (c4 : (rd σ ((rd σ 61 6) + 3) (10 + x2)) = (rd σ ((rd σ 61 6) + 2) (10 + x1))), pR mX7_findAbove d 23 [(2, 61), (0, x1), (0, (x2 + 1))] [] (wr σ 64 x1 (i_or (rd σ 64 x1) (i_shl 1 x2))) Q) : pR mX7_findAbove d 23 [(2, 61), (0, x1), (0, x2)] [] σ Q := by
  refine pGo (s_iload_n dX7_findAbove_23 rfl) ?_
  refine pGo (s_aload_n dX7_findAbove_24 rfl (by decide)) ?_
  refine pGoE (y := (rd σ 61 6)) (s_getR pc7 fl_X7_34 dX7_findAbove_25 (oM_61 hst) rfl rfl) rfl ?_
  refine pGoE (y := (rd σ (rd σ 61 6) 1)) (s_getI pc6 fl_X7_83 dX7_findAbove_28 g1.o0 rfl (by decide)) rfl ?_
  refine p_icge (tgt := 79) dX7_findAbove_31 (by decide) g2 g3 (fun c1 => ?_) (fun c2 => ?_)
  · refine pGoL (ls2 := [(2, 61), (0, (x1 + 1)), (0, x2)]) (s_iinc dX7_findAbove_79 (by decide) rfl rfl) rfl ?_
    refine pGo (s_goto (tgt := 10) dX7_findAbove_82 (by decide)) ?_
    exact (k1 c1)
  · refine pGo (s_aload_n dX7_findAbove_34 rfl (by decide)) ?_
    refine pGoE (y := (rd σ 61 6)) (s_getR pc7 fl_X7_34 dX7_findAbove_35 (oM_61 hst) rfl rfl) rfl ?_
    refine pGo (s_getF pc6 fl_X7_71 dX7_findAbove_38 g1.o0 rfl (by decide)) ?_
    refine pGo (s_bipush dX7_findAbove_41 (by decide)) ?_
    refine pGo (s_iload_n dX7_findAbove_43 rfl) ?_
    refine pGo (s_iadd dX7_findAbove_44) ?_
    refine pGoE (y := (rd σ ((rd σ 61 6) + 3) (10 + x2))) (s_iald dX7_findAbove_45 g1.o3 (bnd (g4 c2))) rfl ?_
    refine pGo (s_aload_n dX7_findAbove_46 rfl (by decide)) ?_
    refine pGoE (y := (rd σ 61 6)) (s_getR pc7 fl_X7_34 dX7_findAbove_47 (oM_61 hst) rfl rfl) rfl ?_
    refine pGo (s_getF pc6 fl_X7_68 dX7_findAbove_50 g1.o0 rfl (by decide)) ?_
    refine pGo (s_bipush dX7_findAbove_53 (by decide)) ?_
    refine pGo (s_iload_n dX7_findAbove_55 rfl) ?_
    refine pGo (s_iadd dX7_findAbove_56) ?_
    refine pGoE (y := (rd σ ((rd σ 61 6) + 2) (10 + x1))) (s_iald dX7_findAbove_57 g1.o2 (bnd (g5 c2))) rfl ?_
    refine p_icne (tgt := 73) dX7_findAbove_58 (by decide) (g6 c2) (g7 c2) (fun c3 => ?_) (fun c4 => ?_)
    · refine pGoL (ls2 := [(2, 61), (0, x1), (0, (x2 + 1))]) (s_iinc dX7_findAbove_73 (by decide) rfl rfl) rfl ?_
      refine pGo (s_goto (tgt := 23) dX7_findAbove_76 (by decide)) ?_
      exact (k2 c2 c3)
    · refine pGo (s_aload_n dX7_findAbove_61 rfl (by decide)) ?_
      refine pGoE (y := 64) (s_getF pc7 fl_X7_18 dX7_findAbove_62 (oM_61 hst) rfl (by decide)) (by decide) ?_
      refine pGo (s_iload_n dX7_findAbove_65 rfl) ?_
      refine pGo (s_dup2 dX7_findAbove_66 (show (0 : Nat) ≠ 1 by decide) (show (2 : Nat) ≠ 1 by decide)) ?_
      refine pGoE (y := (rd σ 64 x1)) (s_iald dX7_findAbove_67 (oM_64 hst) (bnd (g8 c2 c4))) rfl ?_
      refine pGo (s_iconst dX7_findAbove_68) ?_
      refine pGo (s_iload_n dX7_findAbove_69 rfl) ?_
      refine pGo (s_ishl dX7_findAbove_70) ?_
      refine pGo (s_ior dX7_findAbove_71) ?_
      refine pGo (s_iast dX7_findAbove_72 (oM_64 hst) (bnd (g8 c2 c4))) ?_
      refine pGoL (ls2 := [(2, 61), (0, x1), (0, (x2 + 1))]) (s_iinc dX7_findAbove_73 (by decide) rfl rfl) rfl ?_
      refine pGo (s_goto (tgt := 23) dX7_findAbove_76 (by decide)) ?_
      exact (k3 c2 c4)
set_option maxRecDepth 100000 in
theorem g_X7_forget_0M {d : Nat} {σ : pS} {Q : Option pV → pS → Prop} {Q1 : Option pV → pS → Prop} {Q2 : Option pV → pS → Prop} {Q3 : Option pV → pS → Prop} (hd : 3 ≤ d) (hst : StatM σ) (x1 : Int) (Ix1 : Inst6 σ x1) (f1 : pC mJ7_fill_53178 0 [(2, 62), (0, (-2))] (wr σ 61 6 x1) Q1) (f2 : ∀ (τ1 : pS) (e1 : pLe (wr σ 61 6 x1) τ1) (q1 : Q1 none τ1), pC mX7_findBetween 2 [(2, 61)] τ1 Q2) (f3 : ∀ (τ1 : pS) (e1 : pLe (wr σ 61 6 x1) τ1) (q1 : Q1 none τ1) (τ2 : pS) (e2 : pLe τ1 τ2) (q2 : Q2 none τ2), pC mX7_findAbove 1 [(2, 61)] τ2 Q3) (k1 : ∀ (τ1 : pS) (e1 : pLe (wr σ 61 6 x1) τ1) (q1 : Q1 none τ1) (τ2 : pS) (e2 : pLe τ1 τ2) (q2 : Q2 none τ2) (τ3 : pS) (e3 : pLe τ2 τ3) (q3 : Q3 none τ3), Q none τ3) : pC mX7_forget d [(2, 61), (2, x1)] σ Q := by
  show pR mX7_forget d 0 [(2, 61), (2, x1)] [] σ Q
  refine pGo (s_aload_n dX7_forget_0 rfl (by decide)) ?_
  refine pGo (s_aload_n dX7_forget_1 rfl Ix1.pos) ?_
  refine pGo (s_putR pc7 fl_X7_34 dX7_forget_2 (oM_61 hst) rfl rfl rfl rfl) ?_
  refine pGo (s_aload_n dX7_forget_5 rfl (by decide)) ?_
  refine pGoE (y := 62) (s_getF pc7 fl_X7_9 dX7_forget_6 (oM_61 hst) rfl (by decide)) (by decide) ?_
  refine pGo (s_bipush dX7_forget_9 (by decide)) ?_
  refine p_callS (As := [(2, 62), (0, (-2))]) (st := []) (n := 2) (d' := 0) (Q1 := Q1) ok_J7_fill_53178 ml_X7_38 sm_J7_fill_53178 dX7_forget_11 (pargs_of rfl) rfl (Nat.le_of_ble_eq_true rfl) (by omega) f1 (fun r1 τ1 e1 q1 w1 => ?_)
  obtain rfl : r1 = none := w1
  have S1 : StatM τ1 := (StatM.le (σ := (wr σ 61 6 x1)) hst e1)
  have J1_0 : Inst6 τ1 x1 := Inst6.le (σ := (wr σ 61 6 x1)) Ix1 e1
  show pR mX7_forget d 14 [(2, 61), (2, x1)] [] τ1 Q
  refine pGo (s_aload_n dX7_forget_14 rfl (by decide)) ?_
  refine p_callV (As := []) (st := []) (n := 0) (d' := 2) (Q1 := Q2) pc7 ok_X7_findBetween ml_X7_44 im_X7_findBetween se_X7_findBetween dX7_forget_15 (oM_61 S1) (pargs_of rfl) rfl (Nat.le_of_ble_eq_true rfl) (by omega) (f2 τ1 e1 q1) (fun r2 τ2 e2 q2 w2 => ?_)
  obtain rfl : r2 = none := w2
  have S2 : StatM τ2 := (StatM.le (σ := τ1) S1 e2)
  have J2_0 : Inst6 τ2 x1 := Inst6.le (σ := τ1) J1_0 e2
  show pR mX7_forget d 18 [(2, 61), (2, x1)] [] τ2 Q
  refine pGo (s_aload_n dX7_forget_18 rfl (by decide)) ?_
  refine p_callV (As := []) (st := []) (n := 0) (d' := 1) (Q1 := Q3) pc7 ok_X7_findAbove ml_X7_47 im_X7_findAbove se_X7_findAbove dX7_forget_19 (oM_61 S2) (pargs_of rfl) rfl (Nat.le_of_ble_eq_true rfl) (by omega) (f3 τ1 e1 q1 τ2 e2 q2) (fun r3 τ3 e3 q3 w3 => ?_)
  obtain rfl : r3 = none := w3
  have S3 : StatM τ3 := (StatM.le (σ := τ2) S2 e3)
  have J3_0 : Inst6 τ3 x1 := Inst6.le (σ := τ2) J2_0 e3
  show pR mX7_forget d 22 [(2, 61), (2, x1)] [] τ3 Q
  exact pEnd (r := none) dX7_forget_22 rfl (k1 τ1 e1 q1 τ2 e2 q2 τ3 e3 q3)
theorem between_CM {d : Nat} {σ : pS} (hd : 2 ≤ d) (S : StatM σ) {M : Int} (hM : rd σ 61 6 = M) (hm : M = 6 ∨ 141 ≤ M) (I : Inst6 σ M) (hl : 0 ≤ rd σ M 0 ∧ rd σ M 0 ≤ 6) (hr : 0 ≤ rd σ M 1 ∧ rd σ M 1 ≤ 7) (Y : fwY (vWay (rd σ M 0) (rd σ M 1)) (inFr (rd σ (M + 2))) (inFr (rd σ (M + 3))) (inFr (rd σ (M + 4)))) : pC mX7_findBetween d [(2, 61)] σ (fun r τ => r = none ∧ hol 63 σ (fwS (fwW (vWay (rd σ M 0) (rd σ M 1)) (inFr (rd σ (M + 2))) (inFr (rd σ (M + 3))) (inFr (rd σ (M + 4))) 13) 1000) τ) := by
  obtain ⟨W, hW⟩ : ∃ W, W = fwW (vWay (rd σ M 0) (rd σ M 1)) (inFr (rd σ (M + 2))) (inFr (rd σ (M + 3))) (inFr (rd σ (M + 4))) := ⟨_, rfl⟩
  rw [← hW]
  have WR : ∀ k : Nat, k ≤ 13 → fwR (W k) := by rw [hW]; exact fwW_R Y
  have SR := fwS_R (WR 13 (Nat.le_refl _))
  have inner : ∀ (o : Nat), o < 10 → (∀ (τ : pS) (u3 : pV), u3.1 ≠ 1 → hol 63 σ (fwS (W 13) (100 * (o + 1))) τ → pR mX7_findBetween d 114 [(2, 61), (0, ((o : Int) + 1)), (0, 100), u3] [] τ (fun r τ => r = none ∧ hol 63 σ (fwS (W 13) 1000) τ)) → ∀ (m i : Nat) (τ : pS) (u3 : pV), u3.1 ≠ 1 → i + m = 100 → hol 63 σ (fwS (W 13) (100 * o + i)) τ → pR mX7_findBetween d 122 [(2, 61), (0, (o : Int)), (0, (i : Int)), u3] [] τ (fun r τ => r = none ∧ hol 63 σ (fwS (W 13) 1000) τ) := fun o ho go m => by
    induction m with
    | zero =>
      intro i τ u3 hu hi h
      have ei : i = 100 := by omega
      subst ei
      exact g_X7_findBetween_122M hd (S.eq h.1) (o : Int) 100 u3 hu (by decide) (fun _ => go τ u3 hu h) (fun c => by omega) (fun c => by omega) (fun c => by omega) (fun c => by omega) (fun c => by omega) (fun c => by omega) (fun c => by omega)
    | succ m ih =>
      intro i τ u3 hu hi h
      have ex : (i : Int) + 1 = ((i + 1 : Nat) : Int) := by omega
      have r1 := SR (100 * o + i) (by omega) i (by omega)
      have r2 := SR (100 * o + i) (by omega) (10 * (i / 10) + o) (by omega)
      have r3 := SR (100 * o + i) (by omega) (10 * o + i % 10) (by omega)
      rw [← h.2.2 _ (by omega)] at r1
      rw [← h.2.2 _ (by omega), show ((10 * (i / 10) + o : Nat) : Int) = (i : Int) / 10 * 10 + (o : Int) by omega] at r2
      rw [← h.2.2 _ (by omega), show ((10 * o + i % 10 : Nat) : Int) = (o : Int) * 10 + (i : Int) % 10 by omega] at r3
      have e : fwS (W 13) (100 * o + (i + 1)) = updF (fwS (W 13) (100 * o + i)) (i : Int) (min (rd τ 63 (i : Int)) (rd τ 63 ((i : Int) / 10 * 10 + (o : Int)) + rd τ 63 ((o : Int) * 10 + (i : Int) % 10))) := by
        show fwG (fwS (W 13) (100 * o + i)) (100 * o + i) = _
        unfold fwG
        rw [show (100 * o + i) % 100 = i by omega, show (100 * o + i) / 100 = o by omega, show (100 * o + i) % 10 = i % 10 by omega, h.2.2 i (by omega), h.at (i := (i : Int) / 10 * 10 + (o : Int)) (by omega) (by omega), h.at (i := (o : Int) * 10 + (i : Int) % 10) (by omega) (by omega), show ((10 * (i / 10) + o : Nat) : Int) = (i : Int) / 10 * 10 + (o : Int) by omega, show ((10 * o + i % 10 : Nat) : Int) = (o : Int) * 10 + (i : Int) % 10 by omega]
      refine g_X7_findBetween_122M hd (S.eq h.1) (o : Int) (i : Int) u3 hu (by unfold inR; omega) (fun c => by omega) (fun _ => by omega) (fun _ => by omega) (fun _ => by omega) (fun _ => by omega) (fun _ => by unfold inR; omega) (fun _ => by unfold inR; omega) (fun _ => ?_)
      rw [ex]
      refine ih (i + 1) _ _ (show (0 : Nat) ≠ 1 by decide) (by omega) ?_
      rw [e]
      exact h.put _ _
  have outer : ∀ (m o : Nat) (τ : pS) (u2 u3 : pV), u2.1 ≠ 1 → u3.1 ≠ 1 → o + m = 10 → hol 63 σ (fwS (W 13) (100 * o)) τ → pR mX7_findBetween d 114 [(2, 61), (0, (o : Int)), u2, u3] [] τ (fun r τ => r = none ∧ hol 63 σ (fwS (W 13) 1000) τ) := fun m => by
    induction m with
    | zero =>
      intro o τ u2 u3 hu2 hu3 ho h
      have eo : o = 10 := by omega
      subst eo
      exact g_X7_findBetween_114M hd (S.eq h.1) 10 u2 u3 hu2 hu3 (by decide) (fun _ => ⟨rfl, h⟩) (fun c => by omega)
    | succ m ih =>
      intro o τ u2 u3 hu2 hu3 ho h
      have ex : (o : Int) + 1 = ((o + 1 : Nat) : Int) := by omega
      exact g_X7_findBetween_114M hd (S.eq h.1) (o : Int) u2 u3 hu2 hu3 (by unfold inR; omega) (fun c => by omega) (fun _ => inner o (by omega) (fun τ' u3' hu' h' => by rw [ex]; exact ih (o + 1) τ' (0, 100) u3' (show (0 : Nat) ≠ 1 by decide) hu' (by omega) h') 100 0 τ u3 hu3 (by omega) h)
  have ways : ∀ (m j : Nat) (τ : pS) (u2 u3 : pV), u2.1 ≠ 1 → u3.1 ≠ 1 → j + m = 17 → hol 63 σ (W (cw j)) τ → pR mX7_findBetween d 42 [(2, 61), (0, (j : Int)), u2, u3] [] τ (fun r τ => r = none ∧ hol 63 σ (fwS (W 13) 1000) τ) := fun m => by
    induction m with
    | zero =>
      intro j τ u2 u3 hu2 hu3 hj h
      have ej : j = 17 := by omega
      subst ej
      exact g_X7_findBetween_42M hd (S.eq h.1) 17 u2 u3 hu2 hu3 (by decide) (fun _ => outer 10 0 τ u2 u3 hu2 hu3 rfl h) (fun c => by omega) (fun c => by omega) (fun c => by omega) (fun c => by omega) (fun c => by omega) (fun c => by omega) (fun c => by omega) (fun c => by omega)
    | succ m ih =>
      intro j τ u2 u3 hu2 hu3 hj h
      have ex : (j : Int) + 1 = ((j + 1 : Nat) : Int) := by omega
      have eM : rd τ 61 6 = M := (h.2.1 _ _ (by decide)).trans hM
      have e0 : rd τ M 0 = rd σ M 0 := h.2.1 _ _ (by omega)
      have e1 : rd τ M 1 = rd σ M 1 := h.2.1 _ _ (by omega)
      have e2 : rd τ (M + 2) (j : Int) = rd σ (M + 2) (j : Int) := h.2.1 _ _ (by omega)
      have e3 : rd τ (M + 3) (j : Int) = rd σ (M + 3) (j : Int) := h.2.1 _ _ (by omega)
      have e4 : rd τ (M + 4) (j : Int) = rd σ (M + 4) (j : Int) := h.2.1 _ _ (by omega)
      have I' : Inst6 τ M := I.eq h.1
      have yes : vHas (rd τ M 0) (rd τ M 1) (j : Int) = true → cw (j + 1) = cw j + 1 ∧ ((0 ≤ rd τ (M + 2) (j : Int) ∧ rd τ (M + 2) (j : Int) < 10) ∧ (0 ≤ rd τ (M + 3) (j : Int) ∧ rd τ (M + 3) (j : Int) < 10) ∧ 1 ≤ rd τ (M + 4) (j : Int) ∧ rd τ (M + 4) (j : Int) ≤ 60) ∧ W (cw j + 1) = updF (W (cw j)) (rd τ (M + 2) (j : Int) * 10 + rd τ (M + 3) (j : Int)) (min (W (cw j) (rd τ (M + 2) (j : Int) * 10 + rd τ (M + 3) (j : Int))) (rd τ (M + 4) (j : Int))) := fun c => by
        rw [e0, e1] at c
        obtain ⟨a1, a2, a3, a4⟩ := cw_yes hl.2 hr.2 c
        have y := Y (cw j) a4 a2
        unfold inFr at y
        rw [a3] at y
        rw [e2, e3, e4]
        refine ⟨a1, y, ?_⟩
        rw [hW]
        refine (if_pos a2).trans ?_
        unfold inFr
        rw [a3, Int.mul_comm 10]
      refine g_X7_findBetween_42M hd (S.eq h.1) (j : Int) u2 u3 hu2 hu3 (by unfold inR; omega) (fun c => by omega) ?_ ?_ ?_ ?_ ?_ ?_ ?_ ?_
      all_goals rw [eM]
      · intro _; exact has_CM (Nat.le_refl 1) (S.eq h.1) I' (by unfold inR; omega) (by omega) (by omega)
      · intro _; exact I'
      · intro _ c3
        rw [ex]
        refine ih (j + 1) τ u2 u3 hu2 hu3 (by omega) ?_
        rw [e0, e1] at c3
        rcases cw_no hl.2 hr.2 (by omega) c3 with z | ⟨z1, z2⟩
        · rw [z]; exact h
        · rw [z1]
          have : W (cw j + 1) = W (cw j) := by rw [hW]; exact if_neg (by rw [z2]; decide)
          rw [this]; exact h
      · intro _ _; omega
      · intro _ c4; have := (yes c4).2.1; omega
      · intro _ c4
        have y := (yes c4).2.1
        have q := cw_lt (j := j) (by omega)
        rw [h.at (by omega) (by omega)]
        have := WR (cw j) (by omega) (rd τ (M + 2) (j : Int) * 10 + rd τ (M + 3) (j : Int)).toNat (by omega)
        rw [show (((rd τ (M + 2) (j : Int) * 10 + rd τ (M + 3) (j : Int)).toNat : Nat) : Int) = rd τ (M + 2) (j : Int) * 10 + rd τ (M + 3) (j : Int) by omega] at this
        unfold inR; omega
      · intro _ c4; have y := (yes c4).2.1; unfold inR; omega
      · intro _ c4
        obtain ⟨y1, y, y2⟩ := yes c4
        rw [ex]
        refine ih (j + 1) _ _ u3 (show (0 : Nat) ≠ 1 by decide) hu3 (by omega) ?_
        rw [y1, y2, ← h.at (by omega) (by omega)]
        exact h.put _ _
  have init : ∀ (m j : Nat) (τ : pS), j + m = 100 → τ.1 = σ.1 → (∀ b i : Int, b ≠ 63 → rd τ b i = rd σ b i) → (∀ i : Nat, i < j → rd τ 63 (i : Int) = fwI (i : Int)) → pR mX7_findBetween d 2 [(2, 61), (0, (j : Int)), (9, 0), (9, 0)] [] τ (fun r τ => r = none ∧ hol 63 σ (fwS (W 13) 1000) τ) := fun m => by
    induction m with
    | zero =>
      intro j τ hj F1 F2 all
      have ej : j = 100 := by omega
      subst ej
      exact g_X7_findBetween_2M hd (S.eq F1) 100 (9, 0) (9, 0) (by decide) (by decide) (by decide) (fun _ => ways 17 0 τ (9, 0) (9, 0) (by decide) (by decide) rfl (by rw [hW]; exact ⟨F1, F2, all⟩)) (fun c => by omega) (fun c => by omega) (fun c => by omega) (fun c => by omega) (fun c => by omega) (fun c => by omega) (fun c => by omega)
    | succ m ih =>
      intro j τ hj F1 F2 all
      have ex : (j : Int) + 1 = ((j + 1 : Nat) : Int) := by omega
      have nx : ∀ v : Int, v = fwI (j : Int) → pR mX7_findBetween d 2 [(2, 61), (0, ((j : Int) + 1)), (9, 0), (9, 0)] [] (wr τ 63 (j : Int) v) (fun r τ => r = none ∧ hol 63 σ (fwS (W 13) 1000) τ) := fun v ev => by
        rw [ex]
        refine ih (j + 1) _ (by omega) F1 (fun b i hb => by rw [rd_wr_n (by omega)]; exact F2 b i hb) (fun i hi => ?_)
        by_cases z : i = j
        · rw [z, rd_wr_same]; exact ev
        · rw [rd_wr_n (by omega)]; exact all i (by omega)
      refine g_X7_findBetween_2M hd (S.eq F1) (j : Int) (9, 0) (9, 0) (by decide) (by decide) (by unfold inR; omega) (fun c => by omega) (fun _ => by omega) (fun _ => by unfold inR; omega) (fun _ => by unfold inR; omega) (fun _ _ => by omega) (fun _ c3 => nx _ (by unfold fwI; rw [if_neg c3])) (fun _ _ => by omega) (fun _ c4 => nx _ (by unfold fwI; rw [if_pos c4]))
  exact g_X7_findBetween_0M hd S (init 100 0 σ rfl rfl (fun _ _ _ => rfl) (fun i hi => by omega))
theorem above_CM {d : Nat} {σ : pS} (hd : 1 ≤ d) (S : StatM σ) {M : Int} (hM : rd σ 61 6 = M) (hm : M = 6 ∨ 141 ≤ M) (I : Inst6 σ M) {R : Nat} (hr : rd σ M 1 = (R : Int)) (r7 : R ≤ 7) (hv : ∀ w : Nat, w < 17 → inR (rd σ (M + 2) (w : Int)) ∧ inR (rd σ (M + 3) (w : Int))) : pC mX7_findAbove d [(2, 61)] σ (fun r τ => r = none ∧ abv σ M R τ) := by
  have row : ∀ (τ : pS) (r o : Nat) (b : Nat), Prop := fun τ r o b => bq (rd τ 64 (r : Int)) b = decide (b < o ∧ rd σ (M + 3) ((10 + b : Nat) : Int) = rd σ (M + 2) ((10 + r : Nat) : Int))
  have inner : ∀ (r : Nat), r < R → (∀ (τ : pS) (u2 : pV), u2.1 ≠ 1 → τ.1 = σ.1 → (∀ b i : Int, b ≠ 64 → rd τ b i = rd σ b i) → (∀ x : Nat, x < r + 1 → ∀ b : Nat, b < 32 → bq (rd τ 64 (x : Int)) b = decide (b < R ∧ rd σ (M + 3) ((10 + b : Nat) : Int) = rd σ (M + 2) ((10 + x : Nat) : Int))) → (∀ x : Nat, r + 1 ≤ x → x < 7 → rd τ 64 (x : Int) = 0) → pR mX7_findAbove d 10 [(2, 61), (0, ((r : Int) + 1)), u2] [] τ (fun r τ => r = none ∧ abv σ M R τ)) → ∀ (m o : Nat) (τ : pS), o + m = R → τ.1 = σ.1 → (∀ b i : Int, b ≠ 64 → rd τ b i = rd σ b i) → (∀ x : Nat, x < r → ∀ b : Nat, b < 32 → bq (rd τ 64 (x : Int)) b = decide (b < R ∧ rd σ (M + 3) ((10 + b : Nat) : Int) = rd σ (M + 2) ((10 + x : Nat) : Int))) → (∀ b : Nat, b < 32 → bq (rd τ 64 (r : Int)) b = decide (b < o ∧ rd σ (M + 3) ((10 + b : Nat) : Int) = rd σ (M + 2) ((10 + r : Nat) : Int))) → (∀ x : Nat, r + 1 ≤ x → x < 7 → rd τ 64 (x : Int) = 0) → pR mX7_findAbove d 23 [(2, 61), (0, (r : Int)), (0, (o : Int))] [] τ (fun r τ => r = none ∧ abv σ M R τ) := fun r hrR go m => by
    induction m with
    | zero =>
      intro o τ ho F1 F2 A B Z
      have eo : o = R := by omega
      subst eo
      have eM : rd τ 61 6 = M := (F2 _ _ (by decide)).trans hM
      have e1 : rd τ M 1 = (o : Int) := (F2 _ _ (by omega)).trans hr
      refine g_X7_findAbove_23M hd (S.eq F1) (r : Int) (o : Int) (by rw [eM]; exact I.eq F1) (by unfold inR; omega) (by rw [eM, e1]; unfold inR; omega) (fun _ => go τ (0, (o : Int)) (show (0 : Nat) ≠ 1 by decide) F1 F2 (fun x hx b hb => ?_) Z) (fun c => by rw [eM, e1] at c; omega) (fun c => by rw [eM, e1] at c; omega) (fun c => by rw [eM, e1] at c; omega) (fun c => by rw [eM, e1] at c; omega) (fun c => by rw [eM, e1] at c; omega) (fun c => by rw [eM, e1] at c; omega) (fun c => by rw [eM, e1] at c; omega)
      by_cases y : x = r
      · rw [y]; exact B b hb
      · exact A x (by omega) b hb
    | succ m ih =>
      intro o τ ho F1 F2 A B Z
      have ex : (o : Int) + 1 = ((o + 1 : Nat) : Int) := by omega
      have eM : rd τ 61 6 = M := (F2 _ _ (by decide)).trans hM
      have e1 : rd τ M 1 = (R : Int) := (F2 _ _ (by omega)).trans hr
      have e3 : rd τ (M + 3) (10 + (o : Int)) = rd σ (M + 3) ((10 + o : Nat) : Int) := F2 _ _ (by omega)
      have e2 : rd τ (M + 2) (10 + (r : Int)) = rd σ (M + 2) ((10 + r : Nat) : Int) := F2 _ _ (by omega)
      refine g_X7_findAbove_23M hd (S.eq F1) (r : Int) (o : Int) (by rw [eM]; exact I.eq F1) (by unfold inR; omega) (by rw [eM, e1]; unfold inR; omega) (fun c => by rw [eM, e1] at c; omega) (fun _ => by omega) (fun _ => by omega) (fun _ => by rw [eM, e3]; exact (hv _ (by omega)).2) (fun _ => by rw [eM, e2]; exact (hv _ (by omega)).1) (fun _ c3 => ?_) (fun _ _ => by omega) (fun _ c4 => ?_)
      · rw [eM, e3, e2] at c3
        rw [ex]
        refine ih (o + 1) τ (by omega) F1 F2 A (fun b hb => ?_) Z
        rw [B b hb]
        refine decide_eq_decide.mpr ⟨fun z => ⟨by omega, z.2⟩, fun z => ⟨?_, z.2⟩⟩
        refine Nat.lt_of_le_of_ne (by omega) (fun y => c3 ?_)
        rw [← y]; exact z.2
      · rw [eM, e3, e2] at c4
        rw [ex]
        refine ih (o + 1) _ (by omega) F1 (fun b i hb => by rw [rd_wr_n (by omega)]; exact F2 b i hb) (fun x hx b hb => by rw [rd_wr_n (by omega)]; exact A x hx b hb) (fun b hb => ?_) (fun x hx1 hx2 => by rw [rd_wr_n (by omega)]; exact Z x hx1 hx2)
        rw [rd_wr_same, bq_or, B b hb, bq_shl1 (by omega) hb]
        by_cases y : b = o
        · rw [y, decide_eq_true (show ((o : Nat) : Int) = (o : Int) from rfl), Bool.or_true, decide_eq_true ⟨by omega, c4⟩]
        · rw [decide_eq_false (show ¬ ((b : Nat) : Int) = (o : Int) by omega), Bool.or_false]
          exact decide_eq_decide.mpr ⟨fun z => ⟨by omega, z.2⟩, fun z => ⟨by omega, z.2⟩⟩
  have outer : ∀ (m r : Nat) (τ : pS) (u2 : pV), u2.1 ≠ 1 → r + m = R → τ.1 = σ.1 → (∀ b i : Int, b ≠ 64 → rd τ b i = rd σ b i) → (∀ x : Nat, x < r → ∀ b : Nat, b < 32 → bq (rd τ 64 (x : Int)) b = decide (b < R ∧ rd σ (M + 3) ((10 + b : Nat) : Int) = rd σ (M + 2) ((10 + x : Nat) : Int))) → (∀ x : Nat, r ≤ x → x < 7 → rd τ 64 (x : Int) = 0) → pR mX7_findAbove d 10 [(2, 61), (0, (r : Int)), u2] [] τ (fun r τ => r = none ∧ abv σ M R τ) := fun m => by
    induction m with
    | zero =>
      intro r τ u2 hu hrm F1 F2 A Z
      have er : r = R := by omega
      subst er
      have eM : rd τ 61 6 = M := (F2 _ _ (by decide)).trans hM
      have e1 : rd τ M 1 = (r : Int) := (F2 _ _ (by omega)).trans hr
      exact g_X7_findAbove_10M hd (S.eq F1) (r : Int) u2 hu (by rw [eM]; exact I.eq F1) (by unfold inR; omega) (by rw [eM, e1]; unfold inR; omega) (fun _ => ⟨rfl, F1, F2, A⟩) (fun c => by rw [eM, e1] at c; omega)
    | succ m ih =>
      intro r τ u2 hu hrm F1 F2 A Z
      have ex : (r : Int) + 1 = ((r + 1 : Nat) : Int) := by omega
      have eM : rd τ 61 6 = M := (F2 _ _ (by decide)).trans hM
      have e1 : rd τ M 1 = (R : Int) := (F2 _ _ (by omega)).trans hr
      refine g_X7_findAbove_10M hd (S.eq F1) (r : Int) u2 hu (by rw [eM]; exact I.eq F1) (by unfold inR; omega) (by rw [eM, e1]; unfold inR; omega) (fun c => by rw [eM, e1] at c; omega) (fun _ => inner r (by omega) (fun τ' u2' hu' G1 G2 G3 G4 => by rw [ex]; exact ih (r + 1) τ' u2' hu' (by omega) G1 G2 G3 G4) R 0 τ (by omega) F1 F2 A (fun b hb => ?_) (fun x hx1 hx2 => Z x (by omega) hx2))
      rw [Z r (by omega) (by omega), bq_0, decide_eq_false (fun z => by omega)]
  refine g_X7_findAbove_0M (Q1 := fun r τ => r = none ∧ τ = fl σ 64 (7 : Nat) 0) hd S (fill_CM S (oM_64 S) (by decide)) (fun τ1 _ q1 => ?_)
  rw [q1.2]
  exact outer R 0 _ (9, 0) (by decide) (by omega) rfl (fun b i hb => by rw [rd_fl, if_neg (by omega)]) (fun x hx => by omega) (fun x _ hx => by rw [rd_fl, if_pos (by omega)])
theorem forget_CM {d : Nat} {σ : pS} (hd : 3 ≤ d) (S : StatM σ) {M : Int} (hm : M = 6 ∨ 141 ≤ M) (I : Inst6 σ M) {L R : Nat} (hl : rd σ M 0 = (L : Int)) (hr : rd σ M 1 = (R : Int)) (l6 : L ≤ 6) (r7 : R ≤ 7) (hv : ∀ w : Nat, w < 17 → inR (rd σ (M + 2) (w : Int)) ∧ inR (rd σ (M + 3) (w : Int))) (Y : fwY (vWay (L : Int) (R : Int)) (inFr (rd σ (M + 2))) (inFr (rd σ (M + 3))) (inFr (rd σ (M + 4)))) : pC mX7_forget d [(2, 61), (2, M)] σ (fgQ σ M L R) := by
  obtain ⟨s1, hs1⟩ : ∃ s, s = fl (wr σ 61 6 M) 62 (20 : Nat) (-2) := ⟨_, rfl⟩
  have f1 : ∀ a i : Int, ¬ (a = 62) → ¬ (a = 61 ∧ i = 6) → rd s1 a i = rd σ a i := fun a i h1 h2 => by rw [hs1, rd_fl, if_neg (by omega), rd_wr_n (by omega)]
  have e1 : s1.1 = σ.1 := by rw [hs1]; rfl
  have m1 : rd s1 61 6 = M := by rw [hs1, rd_fl, if_neg (by omega), rd_wr_same]
  have g2 : rd s1 (M + 2) = rd σ (M + 2) := funext fun i => f1 _ i (by omega) (by omega)
  have g3 : rd s1 (M + 3) = rd σ (M + 3) := funext fun i => f1 _ i (by omega) (by omega)
  have g4 : rd s1 (M + 4) = rd σ (M + 4) := funext fun i => f1 _ i (by omega) (by omega)
  have g0 : rd s1 M 0 = rd σ M 0 := f1 _ _ (by omega) (by omega)
  have gr : rd s1 M 1 = rd σ M 1 := f1 _ _ (by omega) (by omega)
  have B := between_CM (d := 2) (Nat.le_refl 2) (S.eq e1) m1 hm (I.eq e1) (by omega) (by omega) (by rw [g0, gr, hl, hr, g2, g3, g4]; exact Y)
  obtain ⟨r2, s2, q2, le2, -, B⟩ := B.fix
  have f2 := q2.2.2.1
  have A := above_CM (d := 1) (Nat.le_refl 1) (S.eq (q2.2.1.trans e1)) (M := M) (R := R) ((f2 _ _ (by decide)).trans m1) hm (I.eq (q2.2.1.trans e1)) ((f2 _ _ (by omega)).trans (gr.trans hr)) r7 (fun w hw => by rw [f2 _ _ (by omega), f2 _ _ (by omega), g2, g3]; exact hv w hw)
  refine g_X7_forget_0M (Q1 := fun r τ => r = none ∧ τ = s1) (Q2 := fun r τ => r = r2 ∧ τ = s2) (Q3 := fun r τ => r = none ∧ abv s2 M R τ) hd S M I ?_ (fun τ1 _ q => ?_) (fun τ1 _ _ τ2 _ q => ?_) (fun τ1 _ _ τ2 _ q τ3 _ q3 => ?_)
  · rw [hs1]
    exact fill_CM S.wr (oM_62 S.wr) (by decide)
  · rw [q.2]; exact B
  · rw [q.2]; exact A
  · obtain ⟨-, y1, y2, y3⟩ := q3
    have F : ∀ a i : Int, ¬ (62 ≤ a ∧ a ≤ 64) → ¬ (a = 61 ∧ i = 6) → rd τ3 a i = rd σ a i := fun a i h1 h2 => by rw [y2 _ _ (by omega), f2 _ _ (by omega), f1 _ _ (by omega) h2]
    refine ⟨rfl, y1.trans (q2.2.1.trans e1), F, ?_, fun i i0 i1 => ?_, fun i hi => ?_, fun x hx o ho => ?_⟩
    · rw [y2 _ _ (by omega), f2 _ _ (by omega), m1]
    · rw [y2 _ _ (by omega), f2 _ _ (by omega), hs1, rd_fl, if_pos (by omega)]
    · rw [y2 _ _ (by omega), q2.2.2.2 i hi, g0, gr, hl, hr, g2, g3, g4]
    · rw [y3 x hx o ho, f2 _ _ (by omega), f2 _ _ (by omega), g2, g3]
