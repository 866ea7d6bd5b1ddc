/-! air, open -/
theorem lookD.mf {σ τ : pS} {k : Int} (h : lookD σ k τ) (hl : rd σ 0 8 = 17 ∨ 141 ≤ rd σ 0 8) : same σ τ MF := fun a i p => h.2.1 a i (by unfold MF at p; omega) (by unfold MF at p; omega) (by unfold MF at p; omega)
theorem lookD.slo {σ τ : pS} {k : Int} (h : lookD σ k τ) (L : RSlo σ) (A : RLaw σ) : ∀ b i : Int, rd σ 0 7 ≤ b → b ≤ rd σ 0 7 + 10 → rd τ b i = rd σ b i := fun b i b0 b1 => by
  obtain ⟨n2, I2, -⟩ := A.2.1
  have := law_apart L I2
  have := L.1
  exact h.2.1 b i (by omega) (by omega) (by omega)
theorem knFr.mf {σ τ : pS} (h : knFr σ τ) : same σ τ MF := fun a i p => h.2 a i (by unfold MF at p; omega)
theorem openX_eq {σ τ : pS} {k w m : Int} (L : RSlo σ) (q : KLook σ k τ) (es : ∀ b i : Int, rd σ 0 7 ≤ b → b ≤ rd σ 0 7 + 10 → rd τ b i = rd σ b i) (hw : vWay (rd σ 68 30) (rd σ 68 31) w = true) (hm : 0 ≤ m) : vOpenX τ (vOuter w) m = openS σ k w m ∧ vShutAt τ (vOuter w) m = shutS σ k w (vHour m) := by
  obtain ⟨l0, l1, l2, l3, l4, l5, l6, l7, l8, l9, l10, l11, l12⟩ := id L
  have r := vHour_R hm
  have e := (q.2 (vHour m) r.1 r.2).2.2.2 w hw
  have t := vWay_t hw
  have es2 : vShutAt τ (vOuter w) m = shutS σ k w (vHour m) := e
  refine ⟨?_, es2⟩
  have d1 : (rd τ (rd τ 35 4 + 6) (vOuter w) ≤ m ∧ m < rd τ (rd τ 35 4 + 7) (vOuter w)) ↔ vOn σ w m = true := by
    rw [q.1, es _ _ (by omega) (by omega), es _ _ (by omega) (by omega)]
    unfold vOn
    simp only [decide_eq_true_eq]
    by_cases c : w < 6
    · have := l10 w (by omega) (by omega)
      rw [show vOuter w = w by unfold vOuter; rw [if_pos c]]
      omega
    · have := l11 (w - 6) (by omega) (by omega)
      rw [show vOuter w = 10 + (w - 6) by unfold vOuter; rw [if_neg c]; omega]
      omega
  unfold vOpenX openS
  rw [es2]
  cases hv : vOn σ w m
  · have : ¬ (rd τ (rd τ 35 4 + 6) (vOuter w) ≤ m ∧ m < rd τ (rd τ 35 4 + 7) (vOuter w)) := fun z => by rw [d1.mp z] at hv; cases hv
    rw [decide_eq_false (fun z => this ⟨z.1, z.2.1⟩)]
    rfl
  · have := d1.mpr hv
    cases hs : shutS σ k w (vHour m)
    · exact decide_eq_true ⟨this.1, this.2, rfl⟩
    · exact decide_eq_false (fun z => by cases z.2.2)
theorem RB.law {n : Nat} {σ : pS} (h : RB n σ) : RLaw σ := h.2.2.2.2.2.2.2.2.2.2.2.1
theorem RB.slo {n : Nat} {σ : pS} (h : RB n σ) : RSlo σ := h.2.2.2.2.2.1
theorem RB.win {n : Nat} {σ : pS} (h : RB n σ) : RWin σ := h.2.2.2.2.2.2.1
theorem RB.ext {n : Nat} {σ : pS} (h : RB n σ) : RExt σ := h.2.2.2.2.2.2.2.2.2.2.2
theorem RB.clk {n : Nat} {σ : pS} (h : RB n σ) : RClk n σ := h.2.2.2.2.1
theorem RB.look_C {n d : Nat} {σ : pS} (h : RB n σ) (hd : 4 ≤ d) {k : Int} (hk : inR k) : pC mX10_look d [(2, 0), (0, k)] σ (fun r τ => r = none ∧ lookD σ k τ) := by
  have c := h.clk
  unfold RClk at c
  exact xlook_C hd h.1 h.win h.slo h.law h.ext.2.1 (by unfold inR; omega) hk
theorem op_air {n d : Nat} {σ : pS} (hd : 100 ≤ d) (h : RB n σ) (hn : n < 512) {x1 x2 x3 : Int} (h1 : inR x1) (h2 : inR x2) (h3 : inR x3) : pC mX10_air d [(2, 0), (0, x1), (0, x2), (0, x3)] σ (fun r τ => pC mX11_air d [(2, 68), (0, x1), (0, x2), (0, x3)] τ (fun q υ => q = r ∧ RB (n + 1) υ)) := by
  have H := RB.up h hn
  have S := h.1
  have fin : ∀ τ : pS, lookD σ x3 τ → 0 ≤ x1 → x1 < 8 → 0 ≤ x2 → x2 < 2 → ∀ v : Int, v = (if x2 = 0 then rd τ 36 x1 else rd τ 37 x1) → pC mX11_air d [(2, 68), (0, x1), (0, x2), (0, x3)] τ (fun q υ => q = some (0, v) ∧ RB (n + 1) υ) := fun τ q a0 a1 b0 b1 v hv => by
    have H1 := h.look q h3
    have m := q.mf h.law.1
    obtain ⟨k1, k2, -⟩ := q.2.2.1.2 x1 a0 a1
    refine g_X11_air_0 (by omega) H1.1 x1 x2 x3 (by omega) (fun c => by omega) (fun c c2 => by omega) (fun c c2 => by omega) (fun c c2 c3 => by omega) (fun _ _ _ _ => blow_C (by omega) H1.1 H1.win h3) (fun _ _ _ _ _ _ _ _ => by omega) (fun _ _ _ _ υ e q5 c9 => ?_) (fun _ _ _ _ _ _ _ _ => by omega) (fun _ _ _ _ υ e q5 c9 => ?_) (fun c c2 c3 c4 => by omega)
    · obtain ⟨-, i1, i2⟩ := q5
      have := (i2 x1.toNat (by omega)).2
      rw [show ((x1.toNat : Nat) : Int) = x1 by omega] at this
      exact ⟨by rw [this, hv, if_neg c9, k2, wFresh_eq m], RB.up (H1.kn ⟨i1.1, fun a i p => i1.2 a i (by omega) (by omega)⟩) hn⟩
    · obtain ⟨-, i1, i2⟩ := q5
      have := (i2 x1.toNat (by omega)).1
      rw [show ((x1.toNat : Nat) : Int) = x1 by omega] at this
      exact ⟨by rw [this, hv, if_pos c9, k1, wWind_eqm m], RB.up (H1.kn ⟨i1.1, fun a i p => i1.2 a i (by omega) (by omega)⟩) hn⟩
  refine g_X10_air_0 (by omega) S x1 x2 x3 (within_C S h1 (by decide)) (fun c => ?_) (fun _ => within_C S h2 (by decide)) (fun _ _ => h.look_C (by omega) h3) (fun _ _ _ _ _ => h2) (fun c _ _ _ _ _ => by have := vWithin_t c; omega) (fun c c2 τ _ q c5 => ?_) (fun c _ _ _ _ _ => by have := vWithin_t c; omega) (fun c c2 τ _ q c5 => ?_) (fun c c2 => ?_)
  · have := vWithin_f c
    refine g_X11_air_0 (Q1 := fun _ _ => True) (by omega) S x1 x2 x3 h1 ?_ ?_ ?_ ?_ ?_ ?_ ?_ ?_ ?_ ?_
    all_goals first | (intros; omega) | (intros; exact ⟨rfl, H⟩)
  · have := vWithin_t c
    have := vWithin_t c2
    exact fin τ q.2 (by omega) (by omega) (by omega) (by omega) _ (by rw [if_neg c5])
  · have := vWithin_t c
    have := vWithin_t c2
    exact fin τ q.2 (by omega) (by omega) (by omega) (by omega) _ (by rw [if_pos c5])
  · have := vWithin_t c
    have := vWithin_f c2
    refine g_X11_air_0 (Q1 := fun _ _ => True) (by omega) S x1 x2 x3 h1 ?_ ?_ ?_ ?_ ?_ ?_ ?_ ?_ ?_ ?_
    all_goals first | (intros; omega) | (intros; exact ⟨rfl, H⟩)
theorem op_open {n d : Nat} {σ : pS} (hd : 100 ≤ d) (h : RB n σ) (hn : n < 512) {x1 x2 x3 : Int} (h1 : inR x1) (h2 : inR x2) (h3 : inR x3) : pC mX10_open d [(2, 0), (0, x1), (0, x2), (0, x3)] σ (fun r τ => pC mX11_open d [(2, 68), (0, x1), (0, x2), (0, x3)] τ (fun q υ => q = r ∧ RB (n + 1) υ)) := by
  have H := RB.up h hn
  have S := h.1
  obtain ⟨l0, l1, l2, l3, l4, l5, l6, l7, l8, l9, l10, l11, l12⟩ := id h.slo
  have HW := has_wayOf (x := x1) l3 l5
  have HN := has_noWay (x := x1) l3 l5
  have wR : ∀ a b x : Int, a ≤ 6 → b ≤ 7 → inR (vWayOf a b x) := fun a b x ha hb => by
    have : vWayOf a b x = -1 ∨ vWay a b (vWayOf a b x) = true := by unfold vWayOf; split <;> simp_all
    rcases this with e | e
    · rw [e]; decide
    · have := vWay_t e; constructor <;> omega
  have none : (vHas (rd σ 68 30) (rd σ 68 31) x1 = false ∨ x2 < 0 ∨ 480 < x2) → pC mX11_open d [(2, 68), (0, x1), (0, x2), (0, x3)] σ (fun q υ => q = some (0, (-1)) ∧ RB (n + 1) υ) := fun hc => by
    refine g_X11_open_0 (Q1 := fun _ _ => True) (by omega) S x1 x2 x3 (wayOf_C (by omega) S h1 l3 l5) (wR _ _ _ l3.2 l5.2) (fun _ => ⟨rfl, H⟩) (fun _ => h2) (fun _ _ => ⟨rfl, H⟩) (fun c c2 c3 => ?_) (fun c c2 c3 => ?_) (fun c c2 c3 => ?_) (fun c c2 c3 => ?_) (fun _ _ _ => ⟨rfl, H⟩)
    all_goals
      exfalso
      rcases hc with hc | hc | hc
      · have := HN hc; omega
      · omega
      · omega
  have fin : ∀ τ : pS, lookD σ x3 τ → vHas (rd σ 68 30) (rd σ 68 31) x1 = true → 0 ≤ x2 → x2 < 481 → pC mX11_open d [(2, 68), (0, x1), (0, x2), (0, x3)] τ (fun q υ => q = some (0, b2i (vOpenX τ x1 x2)) ∧ RB (n + 1) υ) := fun τ q hh b0 b1 => by
    have H1 := h.look q h3
    have m := q.mf h.law.1
    obtain ⟨v1, v2, v3, v4, v5, v6⟩ := HW hh
    have ex := (openX_eq h.slo q.2.2.1 (q.slo h.slo h.law) v1 b0).1
    rw [v2] at ex
    have n30 : rd τ 68 30 = rd σ 68 30 := MF.fld m (by omega)
    have n31 : rd τ 68 31 = rd σ 68 31 := MF.fld m (by omega)
    have ew : vWayOf (rd τ 68 30) (rd τ 68 31) x1 = vWayOf (rd σ 68 30) (rd σ 68 31) x1 := by rw [n30, n31]
    have opn : ∀ υ : pS, knowD τ x3 υ → vOpenM υ (vWayOf (rd τ 68 30) (rd τ 68 31) x1) x2 = vOpenX τ x1 x2 := fun υ i => by
      rw [ew, ex, vOpenM_kn i.1.1 (i.2 _ v3 (by omega)).1 b0, openS_eq m]
    refine g_X11_open_0 (by omega) H1.1 x1 x2 x3 (wayOf_C (by omega) H1.1 h1 (by rw [n30]; exact l3) (by rw [n31]; exact l5)) (by rw [ew]; exact wR _ _ _ l3.2 l5.2) (fun c => by rw [ew] at c; omega) (fun _ => h2) (fun c c2 => by omega) (fun _ _ _ => know_C (by omega) H1.1 H1.win H1.slo H1.law h3) (fun c c2 c3 υ e i => ?_) (fun c c2 c3 υ e i c7 => ?_) (fun c c2 c3 υ e i c7 => ?_) (fun c c2 c3 => by omega)
    · have t := vWay_t v1
      have fr := i.2.1.1
      have hr := vHour_R b0
      rw [ew]
      refine isOpenAt_C (by omega) (H1.1.eq fr.1) ⟨v3, v4⟩ (by omega) (fun q => ?_) (fun q => ?_) ?_
      · have := l10 _ v3 (by omega)
        rw [fr.2 81 _ (by omega), MF.row m (by omega)]
        unfold inR; omega
      · have := l10 _ v3 (by omega)
        rw [fr.2 82 _ (by omega), MF.row m (by omega)]
        unfold inR; omega
      · rw [(i.2.2 _ v3 (by omega)).1 _ hr.1 (by omega)]
        exact b2i_R _
    · rw [opn υ i.2] at c7
      rw [c7]
      exact ⟨rfl, RB.up (H1.kn i.2.1.1) hn⟩
    · rw [opn υ i.2] at c7
      rw [c7]
      exact ⟨rfl, RB.up (H1.kn i.2.1.1) hn⟩
  refine g_X10_open_0 (by omega) S x1 x2 x3 (has_C (by omega) S l1 h1 (by omega) (by omega)) l1 (fun c => ?_) (fun _ => within_C S h2 (by decide)) (fun _ _ => h.look_C (by omega) h3) (fun c c2 τ e q => ?_) (fun c c2 τ e q c5 => ?_) (fun c c2 τ e q c5 => ?_) (fun c c2 => ?_)
  · rw [l2, l4] at c
    exact none (Or.inl c)
  · rw [l2, l4] at c
    have := vWithin_t c2
    have t := vHas_t c
    have e4 := q.2.2.2.1.1
    have es := q.2.slo h.slo h.law
    refine isOpenX_C (by omega) (S.le e) (by rw [e4]; exact l1.le e) (by omega) (by omega) ?_ ?_
    · have := l12 x1 (by omega) (by omega)
      rw [e4, es _ _ (by omega) (by omega)]; unfold inR; omega
    · have := l12 x1 (by omega) (by omega)
      rw [e4, es _ _ (by omega) (by omega)]; unfold inR; omega
  · rw [l2, l4] at c
    have := vWithin_t c2
    have := fin τ q.2 c (by omega) (by omega)
    rw [c5] at this
    exact this
  · rw [l2, l4] at c
    have := vWithin_t c2
    have := fin τ q.2 c (by omega) (by omega)
    rw [c5] at this
    exact this
  · have := vWithin_f c2
    exact none (Or.inr (by omega))
