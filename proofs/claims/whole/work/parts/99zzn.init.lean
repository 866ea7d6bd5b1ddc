/-! the reference's object: its loop; its constructor, whole -/
set_option maxRecDepth 100000 in
theorem g_X11_init_597 {d : Nat} {σ : pS} {Q : Option pV → pS → Prop} (hd : 1 ≤ d) (hst : Stat σ) (x1 : Int)  (g1 : inR x1) (k1 : ∀ (c1 : 100 ≤ x1), Q none σ) (g2 : ∀ (c2 : x1 < 100), 0 ≤ x1 ∧ x1 < 2147483648) (g3 : ∀ (c2 : x1 < 100), inR (x1 / 10)) (g4 : ∀ (c2 : x1 < 100), inR (x1 % 10)) (g5 : ∀ (c2 : x1 < 100) (c3 : (x1 / 10) ≠ (x1 % 10)), 0 ≤ x1 ∧ x1 < 100) (k2 : ∀ (c2 : x1 < 100) (c3 : (x1 / 10) ≠ (x1 % 10)), pR mX11_init d 597 [(2, 68), (0, (x1 + 1))] [] (wr σ 133 x1 1000000) Q) (g6 : ∀ (c2 : x1 < 100) (c4 : (x1 / 10) = (x1 % 10)), 0 ≤ x1 ∧ x1 < 100) (k3 : ∀ (c2 : x1 < 100) (c4 : (x1 / 10) = (x1 % 10)), pR mX11_init d 597 [(2, 68), (0, (x1 + 1))] [] (wr σ 133 x1 0) Q) : pR mX11_init d 597 [(2, 68), (0, x1)] [] σ Q := by
  refine pGo (s_iload_n dX11_init_597 rfl) ?_
  refine pGo (s_bipush dX11_init_598 (by decide)) ?_
  refine p_icge (tgt := 632) dX11_init_600 (by decide) g1 (by decide) (fun c1 => ?_) (fun c2 => ?_)
  · exact pEnd (r := none) dX11_init_632 rfl (k1 c1)
  · refine pGo (s_aload_n dX11_init_603 rfl (by decide)) ?_
    refine pGoE (y := 133) (s_getF pc11 fl_X11_208 dX11_init_604 (ob_68 hst) rfl (by decide)) (by decide) ?_
    refine pGo (s_iload_n dX11_init_607 rfl) ?_
    refine pGo (s_iload_n dX11_init_608 rfl) ?_
    refine pGo (s_bipush dX11_init_609 (by decide)) ?_
    refine pGo (s_idivp dX11_init_611 (g2 c2) (by decide)) ?_
    refine pGo (s_iload_n dX11_init_612 rfl) ?_
    refine pGo (s_bipush dX11_init_613 (by decide)) ?_
    refine pGo (s_iremp dX11_init_615 (g2 c2) (by decide)) ?_
    refine p_icne (tgt := 623) dX11_init_616 (by decide) (g3 c2) (g4 c2) (fun c3 => ?_) (fun c4 => ?_)
    · refine pGo (s_ldc (n := 1000000) dX11_init_623 kc_X11_232 (by decide)) ?_
      refine pGo (s_iast dX11_init_625 (ob_133 hst) (bnd (g5 c2 c3))) ?_
      refine pGoL (ls2 := [(2, 68), (0, (x1 + 1))]) (s_iinc dX11_init_626 (by decide) rfl rfl) rfl ?_
      refine pGo (s_goto (tgt := 597) dX11_init_629 (by decide)) ?_
      exact (k2 c2 c3)
    · refine pGo (s_iconst dX11_init_619) ?_
      refine pGo (s_goto (tgt := 625) dX11_init_620 (by decide)) ?_
      refine pGo (s_iast dX11_init_625 (ob_133 hst) (bnd (g6 c2 c4))) ?_
      refine pGoL (ls2 := [(2, 68), (0, (x1 + 1))]) (s_iinc dX11_init_626 (by decide) rfl rfl) rfl ?_
      refine pGo (s_goto (tgt := 597) dX11_init_629 (by decide)) ?_
      exact (k3 c2 c4)
theorem X11_loop {d : Nat} {Q : Option pV → pS → Prop} (hd : 1 ≤ d) : ∀ (k : Nat) (σ : pS) (x : Int), Stat σ → 0 ≤ x → x + (k : Int) = 100 → (∀ i : Int, 0 ≤ i → i < x → rd σ 133 i = fwI i) → (∀ τ : pS, τ.1 = σ.1 → (∀ a i : Int, a ≠ 133 → rd τ a i = rd σ a i) → (∀ i : Int, 0 ≤ i → i < 100 → rd τ 133 i = fwI i) → Q none τ) → pR mX11_init d 597 [(2, 68), (0, x)] [] σ Q
  | 0, σ, x, S, h0, e, hf, kQ => by
    refine g_X11_init_597 hd S x ⟨by omega, by omega⟩ (fun _ => kQ σ rfl (fun _ _ _ => rfl) (fun i i0 i1 => hf i i0 (by omega))) (fun c => ?_) (fun c => ?_) (fun c => ?_) (fun c => ?_) (fun c => ?_) (fun c => ?_) (fun c => ?_)
    all_goals exact absurd c (by omega)
  | k + 1, σ, x, S, h0, e, hf, kQ => by
    have st : ∀ v : Int, v = fwI x → pR mX11_init d 597 [(2, 68), (0, (x + 1))] [] (wr σ 133 x v) Q := fun v hv => by
      refine X11_loop hd k (wr σ 133 x v) (x + 1) S.wr (by omega) (by omega) (fun i i0 i1 => ?_) (fun τ e1 e2 e3 => kQ τ e1 (fun a i ha => (e2 a i ha).trans (rd_wr_a _ ha)) e3)
      by_cases q : i = x
      · rw [q, rd_wr_same]; exact hv
      · rw [rd_wr_i _ q]; exact hf i i0 (by omega)
    exact g_X11_init_597 hd S x ⟨by omega, by omega⟩ (fun c => absurd c (by omega)) (fun _ => ⟨h0, by omega⟩) (fun _ => ⟨by omega, by omega⟩) (fun _ => ⟨by omega, by omega⟩) (fun _ _ => ⟨h0, by omega⟩) (fun _ c => st _ (by unfold fwI; rw [if_neg c])) (fun _ _ => ⟨h0, by omega⟩) (fun _ c => st _ (by unfold fwI; rw [if_pos c]))
def cel68 : List (Nat × Nat) := (10, 10) :: [(51, 1400), (9, 3), (50, 1401), (50, 1401), (53, 1401), (6, 10), (53, 17), (50, 17), (50, 17), (50, 17), (50, 6), (50, 17), (50, 17), (52, 17), (50, 17), (50, 17), (2, 5), (50, 2), (50, 2), (50, 41), (50, 1), (50, 1), (8, 5), (50, 60), (50, 60), (50, 60), (50, 60), (50, 60), (8, 5), (50, 100), (50, 100), (50, 100), (50, 100), (50, 100), (3, 4), (50, 8), (50, 8), (50, 8), (50, 8), (4, 3), (50, 10), (50, 10), (54, 8), (0, 5), (50, 20), (50, 20), (50, 60), (50, 10), (50, 7), (1, 12), (50, 4800), (50, 4800), (50, 3360), (50, 17), (50, 17), (50, 4800), (50, 10), (50, 10), (50, 17), (50, 17), (7, 6), (50, 20), (50, 100), (50, 7), (50, 7), (50, 2), (50, 2)]
def statL : List (Nat × Nat) := (List.range 141).map statOb
theorem cel_eq : cel68 ++ (11, 72) :: [(50, 1400), (53, 13), (50, 13), (50, 13), (50, 13), (50, 13), (50, 13), (50, 13), (50, 13), (50, 13), (50, 13), (50, 13), (50, 13), (50, 13), (52, 6), (52, 6), (50, 600), (50, 600), (50, 2), (50, 2), (50, 600), (50, 600), (50, 2), (50, 2), (52, 2), (52, 2), (50, 300), (50, 60), (50, 60), (50, 60), (50, 60), (50, 60), (50, 8), (50, 8), (50, 60), (50, 6266), (52, 104), (50, 10), (50, 8), (50, 100), (50, 100), (50, 100), (50, 100), (50, 100), (50, 601), (50, 602), (52, 6010), (52, 6010), (52, 6010), (50, 20), (50, 20), (50, 60), (50, 10), (50, 10), (50, 7), (50, 10), (50, 6), (50, 5410), (50, 7), (50, 13), (50, 6), (50, 4800), (50, 4800), (50, 3360), (50, 100), (50, 8), (50, 8), (50, 8), (50, 8), (50, 8), (50, 7), (50, 8)] = statL := by decide +kernel
theorem statL_len : ((statL.length : Nat) : Int) = 141 := by decide +kernel
theorem Stat_of {τ : pS} (h : τ.1 = statL) : Stat τ := fun k hk => by
  unfold ob
  rw [if_neg (by omega), h, Int.toNat_natCast]
  unfold statL
  rw [List.getElem?_map, List.getElem?_range hk]
  rfl
theorem X11_init_C {d : Nat} {σ : pS} (hd : 1 ≤ d) {m : Int → Int → Int} (h0 : Mk (cel68 ++ [(11, 0)]) m σ) (hm : ∀ k i : Int, 1 ≤ k → k ≤ 72 → m (68 + k) i = 0) : pC mX11_init d [(2, 68)] σ (fun r υ => r = none ∧ υ.1 = statL ∧ (∀ a i : Int, a < 141 → a ≠ 133 → rd υ a i = wrm m 68 3 (-1) a i) ∧ ∀ i : Int, 0 ≤ i → i < 100 → rd υ 133 i = fwI i) := by
  have e : ((cel68.length : Nat) : Int) = 68 := by decide +kernel
  have w := @g_X11_init_0 d σ (fun r υ => r = none ∧ υ.1 = statL ∧ (∀ a i : Int, a < 141 → a ≠ 133 → rd υ a i = wrm m 68 3 (-1) a i) ∧ ∀ i : Int, 0 ≤ i → i < 100 → rd υ 133 i = fwI i) hd cel68 m h0 (fun k i a b => by rw [e]; exact hm k i a b)
  rw [e, cel_eq] at w
  refine w (fun τ hτ => ?_)
  refine X11_loop hd 100 τ 0 (Stat_of hτ.1) (by decide) (by decide) (fun i a b => absurd b (by omega)) (fun υ e1 e2 e3 => ⟨rfl, e1.trans hτ.1, fun a i ha hb => (e2 a i hb).trans (hτ.2 a i ?_), e3⟩)
  rw [statL_len]; exact ha
