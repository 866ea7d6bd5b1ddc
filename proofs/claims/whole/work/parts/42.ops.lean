/-! simple calls, continued -/
theorem has_wayOf {a b x : Int} (ha : 0 ≤ a ∧ a ≤ 6) (hb : 0 ≤ b ∧ b ≤ 7) (h : vHas a b x = true) : vWay a b (vWayOf a b x) = true ∧ vOuter (vWayOf a b x) = x ∧ 0 ≤ vWayOf a b x ∧ vWayOf a b x < 13 ∧ (vWayOf a b x < 6 ↔ x < 10) ∧ (vWayOf a b x = if x < 10 then x else x - 4) := by
  have h := vHas_t h
  have e : vIn x = if x < 10 then x else x - 4 := by unfold vIn; repeat' split <;> omega
  have w : vWay a b (vIn x) = true := by
    unfold vWay
    rw [e]
    simp only [decide_eq_true_eq]
    split <;> omega
  have f : vWayOf a b x = vIn x := by unfold vWayOf; rw [if_pos w]
  rw [f]
  refine ⟨w, ?_⟩
  rw [e]
  unfold vOuter
  repeat' split <;> omega
theorem has_noWay {a b x : Int} (ha : 0 ≤ a ∧ a ≤ 6) (hb : 0 ≤ b ∧ b ≤ 7) (h : vHas a b x = false) : vWayOf a b x = -1 := by
  have h := vHas_f h
  unfold vWayOf
  rw [if_neg]
  intro c
  have c := vWay_t c
  revert c
  unfold vIn
  repeat' split <;> omega
theorem op_wait {n d : Nat} {σ : pS} (hd : 100 ≤ d) (h : RB n σ) (hn : n < 512) {x1 : Int} (h1 : inR x1) {x2 : Int} (h2 : inR x2) {x3 : Int} (h3 : inR x3) : pC mX10_wait d [(2, 0), (0, x1), (0, x2), (0, x3)] σ (fun r τ => pC mX11_wait d [(2, 68), (0, x1), (0, x2), (0, x3)] τ (fun q υ => q = r ∧ RB (n + 1) υ)) := by
  have H := RB.up h hn
  obtain ⟨S, Z, T, F, C, L, W, P, K, R, D, E⟩ := h
  obtain ⟨d1, d2, d3⟩ := id D
  refine g_X10_wait_0 (by omega) S x1 x2 x3 (by omega) ?_ (fun _ => within_C S h1 (by decide)) ?_ (fun _ _ => within_C S h2 (by decide)) (fun _ _ _ => within_C S h3 (by decide)) (fun _ _ _ _ => h3) ?_ ?_ ?_ ?_ ?_ ?_
  all_goals first
    | (intro c1 c2 c3 c4 c5; have := vWithin_t c2; have := vWithin_t c3; have := vWithin_t c4)
    | (intro c1 c2 c3 c4; have := vWithin_t c2; have := vWithin_t c3; have := vWithin_f c4)
    | (intro c1 c2 c3; have := vWithin_t c2; have := vWithin_f c3)
    | (intro c1 c2; have := vWithin_f c2)
    | intro c1
  all_goals first
    | omega
    | (refine g_X11_wait_0 (by omega) S x1 x2 x3 (isPlace_C S h1) ?_ (fun _ => isDayMinute_C S h2 (by omega)) ?_ ?_ ?_ ?_ ?_ ?_ ?_
       all_goals first
        | (intros; omega)
        | (intros; exfalso; simp only [vWithin, vDayMin, vHas, decide_eq_true_eq, decide_eq_false_iff_not] at *; omega)
        | (intros; exact ⟨rfl, H⟩)
        | (intros; refine ⟨?_, H⟩; rw [((d3 (by omega)).1 (x2 * 10 + x1) (by omega) (by omega)).1, show 10 * x2 + x1 = x2 * 10 + x1 by omega])
        | (intros; refine ⟨?_, H⟩; rw [((d3 (by omega)).1 (x2 * 10 + x1) (by omega) (by omega)).2, show 10 * x2 + x1 = x2 * 10 + x1 by omega]))
theorem op_snow {n d : Nat} {σ : pS} (hd : 100 ≤ d) (h : RB n σ) (hn : n < 512) {x1 : Int} (h1 : inR x1) {x2 : Int} (h2 : inR x2) : pC mX10_snow d [(2, 0), (0, x1), (0, x2)] σ (fun r τ => pC mX11_snow d [(2, 68), (0, x1), (0, x2)] τ (fun q υ => q = r ∧ RB (n + 1) υ)) := by
  have H := RB.up h hn
  obtain ⟨S, Z, T, F, C, L, W, P, K, R, D, E⟩ := h
  obtain ⟨l0, l1, l2, l3, l4, l5, l6, l7, l8, l9, l10, l11, l12⟩ := id L
  obtain ⟨d1, d2, d3⟩ := id D
  refine g_X10_snow_0 (by omega) S x1 x2 (by omega) ?_ (fun _ => l1) (fun _ => within_C S h1 (by omega)) ?_ (fun _ _ => within_C S h2 (by decide)) ?_ ?_ ?_
  all_goals first
    | (intro c1 c2 c3; have := vWithin_t c2; have := vWithin_t c3)
    | (intro c1 c2 c3; have := vWithin_t c2; have := vWithin_f c3)
    | (intro c1 c2; have := vWithin_f c2)
    | intro c1
  all_goals first
    | omega
    | (refine g_X11_snow_0 (by omega) S x1 x2 h1 ?_ ?_ ?_ (fun _ _ => isDayMinute_C S h2 (by omega)) ?_ ?_ ?_
       all_goals first
        | (intros; omega)
        | (intros; exfalso; simp only [vWithin, vDayMin, vHas, decide_eq_true_eq, decide_eq_false_iff_not] at *; omega)
        | (intros; exact ⟨rfl, H⟩)
        | (intros; refine ⟨?_, H⟩; rw [(d3 (by omega)).2.1 x2 x1 (by omega) (by omega) (by omega) (by omega)]))
theorem op_took {n d : Nat} {σ : pS} (hd : 100 ≤ d) (h : RB n σ) (hn : n < 512) {x1 : Int} (h1 : inR x1) {x2 : Int} (h2 : inR x2) : pC mX10_took d [(2, 0), (0, x1), (0, x2)] σ (fun r τ => pC mX11_took d [(2, 68), (0, x1), (0, x2)] τ (fun q υ => q = r ∧ RB (n + 1) υ)) := by
  have H := RB.up h hn
  obtain ⟨S, Z, T, F, C, L, W, P, K, R, D, E⟩ := h
  obtain ⟨l0, l1, l2, l3, l4, l5, l6, l7, l8, l9, l10, l11, l12⟩ := id L
  obtain ⟨d1, d2, d3⟩ := id D
  have HW := has_wayOf (x := x1) l3 l5
  have HN := has_noWay (x := x1) l3 l5
  refine g_X10_took_0 (by omega) S x1 x2 (by omega) ?_ (fun _ => has_C (by omega) S l1 h1 (by omega) (by omega)) (fun _ => l1) ?_ (fun _ _ => within_C S h2 (by decide)) ?_ ?_ ?_ ?_ ?_ ?_
  all_goals first
    | (intro c1 c2 c3 c4; have := vWithin_t c3; rw [l2, l4] at c2; have hw := HW c2)
    | (intro c1 c2 c3; have := vWithin_t c3; rw [l2, l4] at c2; have hw := HW c2)
    | (intro c1 c2 c3; have := vWithin_f c3; rw [l2, l4] at c2; have hw := HW c2)
    | (intro c1 c2; rw [l2, l4] at c2; have hw := HN c2)
    | intro c1
  all_goals try have hv := vHas_t c2
  all_goals first
    | omega
    | (refine g_X11_took_0 (by omega) S x1 x2 (wayOf_C (by omega) S h1 l3 l5) ?_ ?_ ?_ ?_ ?_ ?_ ?_ ?_ ?_ ?_ ?_
       all_goals first
        | (intros; omega)
        | (have : vWayOf (rd σ 68 30) (rd σ 68 31) x1 = -1 ∨ vWay (rd σ 68 30) (rd σ 68 31) (vWayOf (rd σ 68 30) (rd σ 68 31) x1) = true := by unfold vWayOf; split <;> simp_all
           rcases this with this | this
           · omega
           · have := vWay_t this; omega)
        | (intros; exact ⟨rfl, H⟩)
        | (intros; refine ⟨?_, H⟩; rw [← (d3 (by omega)).2.2.1 _ hw.1, hw.2.1])
        | (intros; refine ⟨?_, H⟩; rw [show x1 = 10 + (x1 - 10) by omega, (d3 (by omega)).2.2.2.2 (x1 - 10) (by omega) (by omega)])
        | (intros; refine ⟨?_, H⟩; have := hw.2.2.2.2.2; rw [if_pos (by omega)] at this; rw [this, (d3 (by omega)).2.2.2.1 x1 (by omega) (by omega)]))
