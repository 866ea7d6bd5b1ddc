/-! turn, pass -/
theorem addTurn_C {d : Nat} {σ : pS} (hst : Stat σ) {p c w : Int} (hp : 0 ≤ p ∧ p < 10) (hc : rd σ 48 p = c) (h0 : 0 ≤ c) (h1 : c ≤ 6) : pC mX0_addTurn d [(2, 44), (0, p), (0, w)] σ (fun r τ => (c = 6 ∧ r = some (0, (-1)) ∧ τ = σ) ∨ (c < 6 ∧ r = some (0, c + 1) ∧ τ = (wr (wr σ 47 (p * 6 + c) w) 48 p (c + 1)))) := by
  refine g_X0_addTurn_0 (Nat.zero_le d) hst p w hp (by omega) (by intros; omega) ?_ ?_
  · intro c1; rw [hc]; exact Or.inr ⟨by omega, rfl, rfl⟩
  · intro c1; exact Or.inl ⟨by omega, rfl, rfl⟩
theorem op_turn {n d : Nat} {σ : pS} (hd : 100 ≤ d) (h : RB n σ) (hn : n < 512) {x1 : Int} (h1 : inR x1) : pC mX10_turn d [(2, 0), (0, x1)] σ (fun r τ => pC mX11_turn d [(2, 68), (0, x1)] τ (fun q υ => q = r ∧ RB (n + 1) υ)) := by
  have H := RB.up h hn
  obtain ⟨S, Z, T, F, C, L, W, P, K, R, D, E⟩ := h
  obtain ⟨l0, l1, l2, l3, l4, l5, l6, l7, l8, l9, l10, l11, l12⟩ := id L
  obtain ⟨w1, w2, w3, w4, w5, w6⟩ := id R
  have HW := has_wayOf (x := x1) l3 l5
  have HN := has_noWay (x := x1) l3 l5
  by_cases hh : vHas (rd σ 68 30) (rd σ 68 31) x1 = true
  · obtain ⟨v1, v2, v3, v4, v5, v6⟩ := HW hh
    have hv := vHas_t hh
    obtain ⟨m1, m2, m3, m4⟩ := l9 _ v1
    rw [v2] at m1
    obtain ⟨r1, r2, r3, r4⟩ := w5 (rd σ 77 (vWayOf (rd σ 68 30) (rd σ 68 31) x1)) m2 m3
    refine g_X10_turn_0 (by omega) S x1 (has_C (by omega) S l1 h1 (by omega) (by omega)) l1 ?_ (fun _ => by omega) (fun _ => addTurn_C S ⟨by omega, by omega⟩ (by rw [m1]; exact r1) r2 r3) ?_
    · intro c1
      rw [l2, l4, hh] at c1
      cases c1
    · intro c1 u2 τ2 e2 q2
      rcases q2 with ⟨a1, a2, a3⟩ | ⟨a1, a2, a3⟩
      · subst a3
        have a5 := so_inj a2
        subst a5
        refine g_X11_turn_0 (by omega) S x1 (wayOf_C (by omega) S h1 l3 l5) ?_ ?_ ?_ ?_ ?_ ?_ ?_ ?_
        all_goals first
          | (intros; omega)
          | (intros; exact ⟨rfl, H⟩)
      · rw [m1] at a3
        subst a3
        have a5 := so_inj a2
        subst a5
        have b1 : rd (wr (wr σ 47 (rd σ 77 (vWayOf (rd σ 68 30) (rd σ 68 31) x1) * 6 + rd σ 121 (rd σ 77 (vWayOf (rd σ 68 30) (rd σ 68 31) x1))) x1) 48 (rd σ 77 (vWayOf (rd σ 68 30) (rd σ 68 31) x1)) (rd σ 121 (rd σ 77 (vWayOf (rd σ 68 30) (rd σ 68 31) x1)) + 1)) 68 30 = rd σ 68 30 := by rw [rd_wr_a _ (by decide), rd_wr_a _ (by decide)]
        have b2 : rd (wr (wr σ 47 (rd σ 77 (vWayOf (rd σ 68 30) (rd σ 68 31) x1) * 6 + rd σ 121 (rd σ 77 (vWayOf (rd σ 68 30) (rd σ 68 31) x1))) x1) 48 (rd σ 77 (vWayOf (rd σ 68 30) (rd σ 68 31) x1)) (rd σ 121 (rd σ 77 (vWayOf (rd σ 68 30) (rd σ 68 31) x1)) + 1)) 68 31 = rd σ 68 31 := by rw [rd_wr_a _ (by decide), rd_wr_a _ (by decide)]
        have b3 : ∀ i : Int, rd (wr (wr σ 47 (rd σ 77 (vWayOf (rd σ 68 30) (rd σ 68 31) x1) * 6 + rd σ 121 (rd σ 77 (vWayOf (rd σ 68 30) (rd σ 68 31) x1))) x1) 48 (rd σ 77 (vWayOf (rd σ 68 30) (rd σ 68 31) x1)) (rd σ 121 (rd σ 77 (vWayOf (rd σ 68 30) (rd σ 68 31) x1)) + 1)) 77 i = rd σ 77 i := fun i => by rw [rd_wr_a _ (by decide), rd_wr_a _ (by decide)]
        have b4 : ∀ i : Int, rd (wr (wr σ 47 (rd σ 77 (vWayOf (rd σ 68 30) (rd σ 68 31) x1) * 6 + rd σ 121 (rd σ 77 (vWayOf (rd σ 68 30) (rd σ 68 31) x1))) x1) 48 (rd σ 77 (vWayOf (rd σ 68 30) (rd σ 68 31) x1)) (rd σ 121 (rd σ 77 (vWayOf (rd σ 68 30) (rd σ 68 31) x1)) + 1)) 121 i = rd σ 121 i := fun i => by rw [rd_wr_a _ (by decide), rd_wr_a _ (by decide)]
        have b5 : ∀ i : Int, rd (wr (wr σ 47 (rd σ 77 (vWayOf (rd σ 68 30) (rd σ 68 31) x1) * 6 + rd σ 121 (rd σ 77 (vWayOf (rd σ 68 30) (rd σ 68 31) x1))) x1) 48 (rd σ 77 (vWayOf (rd σ 68 30) (rd σ 68 31) x1)) (rd σ 121 (rd σ 77 (vWayOf (rd σ 68 30) (rd σ 68 31) x1)) + 1)) 120 i = rd σ 120 i := fun i => by rw [rd_wr_a _ (by decide), rd_wr_a _ (by decide)]
        refine g_X11_turn_0 (by omega) S.wr.wr x1 (wayOf_C (by omega) S.wr.wr h1 (by rw [b1]; exact l3) (by rw [b2]; exact l5)) ?_ ?_ ?_ ?_ ?_ ?_ ?_ ?_
        all_goals rw [b1, b2]
        all_goals try rw [b3]
        all_goals try rw [b4]
        all_goals first
          | (intros; omega)
          | (intros; refine ⟨rfl, ?_⟩)
        refine ⟨S, Z.up rfl, ?tap, ?fau, ?clk, ?slo, ?win, ?pas, ?ski, ?cro, ?day, ?ext⟩
        case tap =>
          refine RTap.mv T ?_
          refine same.wr ?_ (fun x y p => by unfold PTap at p; omega)
          refine same.wr ?_ (fun x y p => by unfold PTap at p; omega)
          refine same.wr ?_ (fun x y p => by unfold PTap at p; omega)
          refine same.wr ?_ (fun x y p => by unfold PTap at p; omega)
          exact same.rf
        case fau =>
          refine RFau.mv F ?_
          refine same.wr ?_ (fun x y p => by unfold PFau at p; omega)
          refine same.wr ?_ (fun x y p => by unfold PFau at p; omega)
          refine same.wr ?_ (fun x y p => by unfold PFau at p; omega)
          refine same.wr ?_ (fun x y p => by unfold PFau at p; omega)
          exact same.rf
        case clk =>
          refine RClk.up (RClk.mv C ?_) hn
          refine same.wr ?_ (fun x y p => by unfold PClk at p; omega)
          refine same.wr ?_ (fun x y p => by unfold PClk at p; omega)
          refine same.wr ?_ (fun x y p => by unfold PClk at p; omega)
          refine same.wr ?_ (fun x y p => by unfold PClk at p; omega)
          exact same.rf
        case slo =>
          refine RSlo.mv L (pLe.tr (pLe.tr (pLe.tr (pLe.wr _ (by decide)) (pLe.wr _ (by decide))) (pLe.wr _ (by decide))) (pLe.wr _ (by decide))) ?_
          refine same.wr ?_ (fun x y p => by unfold PSlo at p; omega)
          refine same.wr ?_ (fun x y p => by unfold PSlo at p; omega)
          refine same.wr ?_ (fun x y p => by unfold PSlo at p; omega)
          refine same.wr ?_ (fun x y p => by unfold PSlo at p; omega)
          exact same.rf
        case win =>
          refine RWin.mv W ?_
          refine same.wr ?_ (fun x y p => by unfold PWin at p; omega)
          refine same.wr ?_ (fun x y p => by unfold PWin at p; omega)
          refine same.wr ?_ (fun x y p => by unfold PWin at p; omega)
          refine same.wr ?_ (fun x y p => by unfold PWin at p; omega)
          exact same.rf
        case pas =>
          refine RPas.mv P ?_
          refine same.wr ?_ (fun x y p => by unfold PPas at p; omega)
          refine same.wr ?_ (fun x y p => by unfold PPas at p; omega)
          refine same.wr ?_ (fun x y p => by unfold PPas at p; omega)
          refine same.wr ?_ (fun x y p => by unfold PPas at p; omega)
          exact same.rf
        case ski =>
          refine RSki.mv K (pLe.tr (pLe.tr (pLe.tr (pLe.wr _ (by decide)) (pLe.wr _ (by decide))) (pLe.wr _ (by decide))) (pLe.wr _ (by decide))) ?_ (fun j h0 h1 h2 => by rw [rd_wr_n (by omega)]; rw [rd_wr_n (by omega)]; rw [rd_wr_n (by omega)]; rw [rd_wr_n (by omega)])
          refine same.wr ?_ (fun x y p => by unfold PSki at p; omega)
          refine same.wr ?_ (fun x y p => by unfold PSki at p; omega)
          refine same.wr ?_ (fun x y p => by unfold PSki at p; omega)
          refine same.wr ?_ (fun x y p => by unfold PSki at p; omega)
          exact same.rf
        case cro =>
            refine ⟨?_, ?_, ?_, fun j h0 h1 => ?_, fun p hp0 hp1 => ?_, fun r hr0 hr1 => ?_⟩
            · simp only [rd_wr]; simp; omega
            · simp only [rd_wr]; simp; omega
            · simp only [rd_wr]; simp; omega
            · have := w4 j h0 (by simpa [rd_wr] using h1)
              simp only [rd_wr]
              simpa using this
            · obtain ⟨y1, y2, y3, y4⟩ := w5 p hp0 hp1
              by_cases hp : p = rd σ 77 (vWayOf (rd σ 68 30) (rd σ 68 31) x1)
              · subst hp
                refine ⟨by simp only [rd_wr]; simp, by simp only [rd_wr]; simp; omega, by simp only [rd_wr]; simp; omega, fun j j0 j1 => ?_⟩
                have j1 : j < rd σ 121 (rd σ 77 (vWayOf (rd σ 68 30) (rd σ 68 31) x1)) + 1 := by simpa [rd_wr] using j1
                by_cases hj : j = rd σ 121 (rd σ 77 (vWayOf (rd σ 68 30) (rd σ 68 31) x1))
                · subst hj
                  simp only [rd_wr]
                  simp
                  exact ⟨v2.symm, v1⟩
                · have := y4 j j0 (by omega)
                  simp only [rd_wr]
                  simp [hj]
                  exact this
              · refine ⟨?_, ?_, ?_, fun j j0 j1 => ?_⟩
                · simp only [rd_wr]; simp [hp]; exact y1
                · simp only [rd_wr]; simp [hp]; exact y2
                · simp only [rd_wr]; simp [hp]; exact y3
                · have j1 : j < rd σ 121 p := by simpa [rd_wr, hp] using j1
                  have := y4 j j0 j1
                  rw [rd_wr_a _ (by decide), rd_wr_a _ (by decide), rd_wr_a _ (by decide), rd_wr_n (by omega), rd_wr_a _ (by decide), rd_wr_n (by omega), rd_wr_a _ (by decide), rd_wr_a _ (by decide)]
                  simp only [rd_wr]
                  simp
                  exact this
            · have := w6 r hr0 hr1
              simp only [rd_wr]
              simpa using this
        case day =>
          refine RDay.mv D ?_
          refine same.wr ?_ (fun x y p => by unfold PDay at p; omega)
          refine same.wr ?_ (fun x y p => by unfold PDay at p; omega)
          refine same.wr ?_ (fun x y p => by unfold PDay at p; omega)
          refine same.wr ?_ (fun x y p => by unfold PDay at p; omega)
          exact same.rf
        case ext =>
          refine RExt.mv E (pLe.tr (pLe.tr (pLe.tr (pLe.wr _ (by decide)) (pLe.wr _ (by decide))) (pLe.wr _ (by decide))) (pLe.wr _ (by decide))) ?_
          refine same.wr ?_ (fun x y p => by unfold PExt MF at p; omega)
          refine same.wr ?_ (fun x y p => by unfold PExt MF at p; omega)
          refine same.wr ?_ (fun x y p => by unfold PExt MF at p; omega)
          refine same.wr ?_ (fun x y p => by unfold PExt MF at p; omega)
          exact same.rf
  · have hh : vHas (rd σ 68 30) (rd σ 68 31) x1 = false := by simpa using hh
    have hn1 := HN hh
    refine g_X10_turn_0 (by omega) S x1 (has_C (by omega) S l1 h1 (by omega) (by omega)) l1 ?_ ?_ (Q1 := fun _ _ => True) ?_ ?_
    · intro c1
      refine g_X11_turn_0 (by omega) S x1 (wayOf_C (by omega) S h1 l3 l5) ?_ ?_ ?_ ?_ ?_ ?_ ?_ ?_
      all_goals first
        | (intros; omega)
        | (intros; exact ⟨rfl, H⟩)
    all_goals
      intro c1
      rw [l2, l4, hh] at c1
      cases c1
theorem op_pass {n d : Nat} {σ : pS} (hd : 100 ≤ d) (h : RB n σ) (hn : n < 512) {x1 : Int} (h1 : inR x1) {x2 : Int} (h2 : inR x2) {x3 : Int} (h3 : inR x3) : pC mX10_pass d [(2, 0), (0, x1), (0, x2), (0, x3)] σ (fun r τ => pC mX11_pass d [(2, 68), (0, x1), (0, x2), (0, x3)] τ (fun q υ => q = r ∧ RB (n + 1) υ)) := by
  have H := RB.up h hn
  obtain ⟨S, Z, T, F, C, L, W, P, K, R, D, E⟩ := h
  obtain ⟨l0, l1, l2, l3, l4, l5, l6, l7, l8, l9, l10, l11, l12⟩ := id L
  obtain ⟨t1, t2, t3, t4, t5, t6⟩ := id C
  obtain ⟨w1, w2, w3, w4⟩ := id P
  obtain ⟨s1, s2, s3, s4, s5⟩ := id K
  have z : ∀ v : Int, rd (wr σ 0 6 v) 29 5 = rd σ 68 65 := fun v => (rd_wr_a _ (by decide)).trans w1
  have gz : 0 ≤ x2 → x2 < rd σ 68 30 → rd σ (rd σ 0 7 + 8) x2 = rd σ 84 x2 ∧ (rd σ (rd σ 0 7 + 8) x2 = 0 ∨ rd σ (rd σ 0 7 + 8) x2 = 1) := fun p1 p2 => ⟨(l10 x2 p1 p2).2.2.2.2.2.2.2.2.1, (l12 x2 p1 (by omega)).2.2.2.2.2.2.2.2.2.2.1⟩
  refine g_X10_pass_0 (by omega) S x1 x2 x3 (within_C S h1 (by omega)) ?_ (fun _ => l1) (fun _ => within_C S h2 (by omega)) ?_ (fun _ _ => within_C S h3 (by decide)) ?_ ?_ (fun _ _ _ _ => tell_C S.wr (inst8_29 S) (z _) w2 (by omega) (by decide)) ?_ ?_ ?_
  · intro c1
    have := vWithin_f c1
    refine g_X11_pass_0 (by omega) S x1 x2 x3 ?_ ?_ (fun _ => isSkier_C S h1 (by omega)) ?_ ?_ ?_ ?_ ?_ ?_ ?_ ?_ ?_ ?_ ?_ ?_ ?_
    all_goals first
      | (intros; omega)
      | (intros; exfalso; simp only [vWithin, decide_eq_true_eq, decide_eq_false_iff_not] at *; omega)
      | (intros; exact ⟨rfl, H⟩)
  · intro c1 c2
    have := vWithin_t c1
    have := vWithin_f c2
    refine g_X11_pass_0 (by omega) S x1 x2 x3 ?_ ?_ (fun _ => isSkier_C S h1 (by omega)) ?_ ?_ ?_ ?_ ?_ ?_ ?_ ?_ ?_ ?_ ?_ ?_ ?_
    all_goals first
      | (intros; omega)
      | (intros; exfalso; simp only [vWithin, decide_eq_true_eq, decide_eq_false_iff_not] at *; omega)
      | (intros; exact ⟨rfl, H⟩)
  · intro c1 c2 c3
    have := vWithin_t c2
    omega
  · intro c1 c2 c3
    have := vWithin_t c2
    have := gz (by omega) (by omega)
    omega
  · intro c1 c2 c3 c4 v4 τ4 e4 q4
    have k1 := vWithin_t c1
    have k2 := vWithin_t c2
    have k3 := vWithin_t c3
    have k4 := gz (by omega) (by omega)
    rcases q4 with ⟨a1, a2, a3⟩ | ⟨a1, a2, a3⟩
    · subst a3
      have a4 := so_inj a2
      subst a4
      have q : rd (wr σ 0 6 (rd σ 0 6 + 1)) 68 65 = rd σ 68 65 := rd_wr_a _ (by decide)
      have q2 : rd (wr σ 0 6 (rd σ 0 6 + 1)) 68 64 = rd σ 68 64 := rd_wr_a _ (by decide)
      refine g_X11_pass_0 (by omega) S.wr x1 x2 x3 ?_ ?_ (fun _ => isSkier_C S.wr h1 (by omega)) ?_ ?_ ?_ ?_ ?_ ?_ ?_ ?_ ?_ ?_ ?_ ?_ ?_
      all_goals first
        | (intros; omega)
        | (intros; exfalso; simp only [vWithin, decide_eq_true_eq, decide_eq_false_iff_not] at *; omega)
        | (intros; refine ⟨rfl, ?_⟩)
      refine ⟨S, Z.up rfl, ?tap, ?fau, ?clk, ?slo, ?win, ?pas, ?ski, ?cro, ?day, ?ext⟩
      case tap =>
        refine RTap.mv T ?_
        refine same.wr ?_ (fun x y p => by unfold PTap at p; omega)
        exact same.rf
      case fau =>
        refine RFau.mv F ?_
        refine same.wr ?_ (fun x y p => by unfold PFau at p; omega)
        exact same.rf
      case clk =>
          refine ⟨?_, ?_, ?_, ?_, ?_, ?_⟩
          · simp only [rd_wr]; simp; omega
          · simp only [rd_wr]; simp; omega
          · simp only [rd_wr]; simp; omega
          · simp only [rd_wr]; simp; omega
          · simp only [rd_wr]; simp; omega
          · omega
      case slo =>
        refine RSlo.mv L (pLe.wr _ (by decide)) ?_
        refine same.wr ?_ (fun x y p => by unfold PSlo at p; omega)
        exact same.rf
      case win =>
        refine RWin.mv W ?_
        refine same.wr ?_ (fun x y p => by unfold PWin at p; omega)
        exact same.rf
      case pas =>
        refine RPas.mv P ?_
        refine same.wr ?_ (fun x y p => by unfold PPas at p; omega)
        exact same.rf
      case ski =>
        refine RSki.mv K (pLe.wr _ (by decide)) ?_ (fun j h0 h1 h2 => by rw [rd_wr_n (by omega)])
        refine same.wr ?_ (fun x y p => by unfold PSki at p; omega)
        exact same.rf
      case cro =>
        refine RCro.mv R ?_
        refine same.wr ?_ (fun x y p => by unfold PCro at p; omega)
        exact same.rf
      case day =>
        refine RDay.mv D ?_
        refine same.wr ?_ (fun x y p => by unfold PDay at p; omega)
        exact same.rf
      case ext =>
        refine RExt.bump E (pLe.wr _ (by decide)) (by simp only [rd_wr]; simp) ?_ (fun a i q => by rw [rd_wr_n (by omega)])
        refine same.wr ?_ (fun x y p => by unfold PLsw at p; omega)
        exact same.rf
    · subst a3
      have a4 := so_inj a2
      subst a4
      simp only [Int.reduceAdd]
      have q1 : rd (wr (wr (wr (wr (wr (wr (wr σ 0 6 (rd σ 0 6 + 1)) 30 (rd σ 68 65) (rd σ 0 5)) 31 (rd σ 68 65) (-1)) 32 (rd σ 68 65) x1) 33 (rd σ 68 65) x2) 34 (rd σ 68 65) x3) 29 5 (rd σ 68 65 + 1)) 68 65 = rd σ 68 65 := by rw [rd_wr_a _ (by decide), rd_wr_a _ (by decide), rd_wr_a _ (by decide), rd_wr_a _ (by decide), rd_wr_a _ (by decide), rd_wr_a _ (by decide), rd_wr_a _ (by decide)]
      have q2 : rd (wr (wr (wr (wr (wr (wr (wr σ 0 6 (rd σ 0 6 + 1)) 30 (rd σ 68 65) (rd σ 0 5)) 31 (rd σ 68 65) (-1)) 32 (rd σ 68 65) x1) 33 (rd σ 68 65) x2) 34 (rd σ 68 65) x3) 29 5 (rd σ 68 65 + 1)) 68 52 = rd σ 68 52 := by rw [rd_wr_a _ (by decide), rd_wr_a _ (by decide), rd_wr_a _ (by decide), rd_wr_a _ (by decide), rd_wr_a _ (by decide), rd_wr_a _ (by decide), rd_wr_a _ (by decide)]
      have q3 : rd (wr (wr (wr (wr (wr (wr (wr σ 0 6 (rd σ 0 6 + 1)) 30 (rd σ 68 65) (rd σ 0 5)) 31 (rd σ 68 65) (-1)) 32 (rd σ 68 65) x1) 33 (rd σ 68 65) x2) 34 (rd σ 68 65) x3) 29 5 (rd σ 68 65 + 1)) 68 64 = rd σ 68 64 := by rw [rd_wr_a _ (by decide), rd_wr_a _ (by decide), rd_wr_a _ (by decide), rd_wr_a _ (by decide), rd_wr_a _ (by decide), rd_wr_a _ (by decide), rd_wr_a _ (by decide)]
      have q4 : rd (wr (wr (wr (wr (wr (wr (wr σ 0 6 (rd σ 0 6 + 1)) 30 (rd σ 68 65) (rd σ 0 5)) 31 (rd σ 68 65) (-1)) 32 (rd σ 68 65) x1) 33 (rd σ 68 65) x2) 34 (rd σ 68 65) x3) 29 5 (rd σ 68 65 + 1)) 68 30 = rd σ 68 30 := by rw [rd_wr_a _ (by decide), rd_wr_a _ (by decide), rd_wr_a _ (by decide), rd_wr_a _ (by decide), rd_wr_a _ (by decide), rd_wr_a _ (by decide), rd_wr_a _ (by decide)]
      have q5 : ∀ i : Int, rd (wr (wr (wr (wr (wr (wr (wr σ 0 6 (rd σ 0 6 + 1)) 30 (rd σ 68 65) (rd σ 0 5)) 31 (rd σ 68 65) (-1)) 32 (rd σ 68 65) x1) 33 (rd σ 68 65) x2) 34 (rd σ 68 65) x3) 29 5 (rd σ 68 65 + 1)) 84 i = rd σ 84 i := fun i => by rw [rd_wr_a _ (by decide), rd_wr_a _ (by decide), rd_wr_a _ (by decide), rd_wr_a _ (by decide), rd_wr_a _ (by decide), rd_wr_a _ (by decide), rd_wr_a _ (by decide)]
      have q6 := q5 x2
      refine g_X11_pass_0 (by omega) S.wr.wr.wr.wr.wr.wr.wr x1 x2 x3 ?_ ?_ (fun _ => isSkier_C S.wr.wr.wr.wr.wr.wr.wr h1 (by omega)) ?_ ?_ ?_ ?_ ?_ ?_ ?_ ?_ ?_ ?_ ?_ ?_ ?_
      all_goals first
        | (intros; omega)
        | (intros; exfalso; simp only [vWithin, decide_eq_true_eq, decide_eq_false_iff_not] at *; omega)
        | (intros; refine ⟨by rw [q1, show rd σ 68 65 + 1 - 1 = rd σ 68 65 by omega], ?_⟩)
      rw [q1, q2]
      refine ⟨S, Z.up rfl, ?tap, ?fau, ?clk, ?slo, ?win, ?pas, ?ski, ?cro, ?day, ?ext⟩
      case tap =>
        refine RTap.mv T ?_
        refine same.wr ?_ (fun x y p => by unfold PTap at p; omega)
        refine same.wr ?_ (fun x y p => by unfold PTap at p; omega)
        refine same.wr ?_ (fun x y p => by unfold PTap at p; omega)
        refine same.wr ?_ (fun x y p => by unfold PTap at p; omega)
        refine same.wr ?_ (fun x y p => by unfold PTap at p; omega)
        refine same.wr ?_ (fun x y p => by unfold PTap at p; omega)
        refine same.wr ?_ (fun x y p => by unfold PTap at p; omega)
        refine same.wr ?_ (fun x y p => by unfold PTap at p; omega)
        refine same.wr ?_ (fun x y p => by unfold PTap at p; omega)
        refine same.wr ?_ (fun x y p => by unfold PTap at p; omega)
        refine same.wr ?_ (fun x y p => by unfold PTap at p; omega)
        refine same.wr ?_ (fun x y p => by unfold PTap at p; omega)
        refine same.wr ?_ (fun x y p => by unfold PTap at p; omega)
        exact same.rf
      case fau =>
        refine RFau.mv F ?_
        refine same.wr ?_ (fun x y p => by unfold PFau at p; omega)
        refine same.wr ?_ (fun x y p => by unfold PFau at p; omega)
        refine same.wr ?_ (fun x y p => by unfold PFau at p; omega)
        refine same.wr ?_ (fun x y p => by unfold PFau at p; omega)
        refine same.wr ?_ (fun x y p => by unfold PFau at p; omega)
        refine same.wr ?_ (fun x y p => by unfold PFau at p; omega)
        refine same.wr ?_ (fun x y p => by unfold PFau at p; omega)
        refine same.wr ?_ (fun x y p => by unfold PFau at p; omega)
        refine same.wr ?_ (fun x y p => by unfold PFau at p; omega)
        refine same.wr ?_ (fun x y p => by unfold PFau at p; omega)
        refine same.wr ?_ (fun x y p => by unfold PFau at p; omega)
        refine same.wr ?_ (fun x y p => by unfold PFau at p; omega)
        refine same.wr ?_ (fun x y p => by unfold PFau at p; omega)
        exact same.rf
      case clk =>
          refine ⟨?_, ?_, ?_, ?_, ?_, ?_⟩
          · simp only [rd_wr]; simp; omega
          · simp only [rd_wr]; simp; omega
          · simp only [rd_wr]; simp; omega
          · simp only [rd_wr]; simp; omega
          · simp only [rd_wr]; simp; omega
          · omega
      case slo =>
        refine RSlo.mv L (pLe.tr (pLe.tr (pLe.tr (pLe.tr (pLe.tr (pLe.tr (pLe.tr (pLe.tr (pLe.tr (pLe.tr (pLe.tr (pLe.tr (pLe.wr _ (by decide)) (pLe.wr _ (by decide))) (pLe.wr _ (by decide))) (pLe.wr _ (by decide))) (pLe.wr _ (by decide))) (pLe.wr _ (by decide))) (pLe.wr _ (by decide))) (pLe.wr _ (by decide))) (pLe.wr _ (by decide))) (pLe.wr _ (by decide))) (pLe.wr _ (by decide))) (pLe.wr _ (by decide))) (pLe.wr _ (by decide))) ?_
        refine same.wr ?_ (fun x y p => by unfold PSlo at p; omega)
        refine same.wr ?_ (fun x y p => by unfold PSlo at p; omega)
        refine same.wr ?_ (fun x y p => by unfold PSlo at p; omega)
        refine same.wr ?_ (fun x y p => by unfold PSlo at p; omega)
        refine same.wr ?_ (fun x y p => by unfold PSlo at p; omega)
        refine same.wr ?_ (fun x y p => by unfold PSlo at p; omega)
        refine same.wr ?_ (fun x y p => by unfold PSlo at p; omega)
        refine same.wr ?_ (fun x y p => by unfold PSlo at p; omega)
        refine same.wr ?_ (fun x y p => by unfold PSlo at p; omega)
        refine same.wr ?_ (fun x y p => by unfold PSlo at p; omega)
        refine same.wr ?_ (fun x y p => by unfold PSlo at p; omega)
        refine same.wr ?_ (fun x y p => by unfold PSlo at p; omega)
        refine same.wr ?_ (fun x y p => by unfold PSlo at p; omega)
        exact same.rf
      case win =>
        refine RWin.mv W ?_
        refine same.wr ?_ (fun x y p => by unfold PWin at p; omega)
        refine same.wr ?_ (fun x y p => by unfold PWin at p; omega)
        refine same.wr ?_ (fun x y p => by unfold PWin at p; omega)
        refine same.wr ?_ (fun x y p => by unfold PWin at p; omega)
        refine same.wr ?_ (fun x y p => by unfold PWin at p; omega)
        refine same.wr ?_ (fun x y p => by unfold PWin at p; omega)
        refine same.wr ?_ (fun x y p => by unfold PWin at p; omega)
        refine same.wr ?_ (fun x y p => by unfold PWin at p; omega)
        refine same.wr ?_ (fun x y p => by unfold PWin at p; omega)
        refine same.wr ?_ (fun x y p => by unfold PWin at p; omega)
        refine same.wr ?_ (fun x y p => by unfold PWin at p; omega)
        refine same.wr ?_ (fun x y p => by unfold PWin at p; omega)
        refine same.wr ?_ (fun x y p => by unfold PWin at p; omega)
        exact same.rf
      case pas =>
          refine ⟨?_, ?_, ?_, fun j h0 h1 => ?_⟩
          · simp only [rd_wr]; simp
          · simp only [rd_wr]; simp; omega
          · simp only [rd_wr]; simp; omega
          · have hc : j < rd σ 68 65 + 1 := by simpa [rd_wr] using h1
            by_cases hj : j = rd σ 68 65
            · subst hj
              simp only [rd_wr]
              simp
              omega
            · have := w4 j h0 (by omega)
              simp only [rd_wr]
              simp [hj]
              omega
      case ski =>
        refine RSki.mv K (pLe.tr (pLe.tr (pLe.tr (pLe.tr (pLe.tr (pLe.tr (pLe.tr (pLe.tr (pLe.tr (pLe.tr (pLe.tr (pLe.tr (pLe.wr _ (by decide)) (pLe.wr _ (by decide))) (pLe.wr _ (by decide))) (pLe.wr _ (by decide))) (pLe.wr _ (by decide))) (pLe.wr _ (by decide))) (pLe.wr _ (by decide))) (pLe.wr _ (by decide))) (pLe.wr _ (by decide))) (pLe.wr _ (by decide))) (pLe.wr _ (by decide))) (pLe.wr _ (by decide))) (pLe.wr _ (by decide))) ?_ (fun j h0 h1 h2 => by rw [rd_wr_n (by omega)]; rw [rd_wr_n (by omega)]; rw [rd_wr_n (by omega)]; rw [rd_wr_n (by omega)]; rw [rd_wr_n (by omega)]; rw [rd_wr_n (by omega)]; rw [rd_wr_n (by omega)]; rw [rd_wr_n (by omega)]; rw [rd_wr_n (by omega)]; rw [rd_wr_n (by omega)]; rw [rd_wr_n (by omega)]; rw [rd_wr_n (by omega)]; rw [rd_wr_n (by omega)])
        refine same.wr ?_ (fun x y p => by unfold PSki at p; omega)
        refine same.wr ?_ (fun x y p => by unfold PSki at p; omega)
        refine same.wr ?_ (fun x y p => by unfold PSki at p; omega)
        refine same.wr ?_ (fun x y p => by unfold PSki at p; omega)
        refine same.wr ?_ (fun x y p => by unfold PSki at p; omega)
        refine same.wr ?_ (fun x y p => by unfold PSki at p; omega)
        refine same.wr ?_ (fun x y p => by unfold PSki at p; omega)
        refine same.wr ?_ (fun x y p => by unfold PSki at p; omega)
        refine same.wr ?_ (fun x y p => by unfold PSki at p; omega)
        refine same.wr ?_ (fun x y p => by unfold PSki at p; omega)
        refine same.wr ?_ (fun x y p => by unfold PSki at p; omega)
        refine same.wr ?_ (fun x y p => by unfold PSki at p; omega)
        refine same.wr ?_ (fun x y p => by unfold PSki at p; omega)
        exact same.rf
      case cro =>
        refine RCro.mv R ?_
        refine same.wr ?_ (fun x y p => by unfold PCro at p; omega)
        refine same.wr ?_ (fun x y p => by unfold PCro at p; omega)
        refine same.wr ?_ (fun x y p => by unfold PCro at p; omega)
        refine same.wr ?_ (fun x y p => by unfold PCro at p; omega)
        refine same.wr ?_ (fun x y p => by unfold PCro at p; omega)
        refine same.wr ?_ (fun x y p => by unfold PCro at p; omega)
        refine same.wr ?_ (fun x y p => by unfold PCro at p; omega)
        refine same.wr ?_ (fun x y p => by unfold PCro at p; omega)
        refine same.wr ?_ (fun x y p => by unfold PCro at p; omega)
        refine same.wr ?_ (fun x y p => by unfold PCro at p; omega)
        refine same.wr ?_ (fun x y p => by unfold PCro at p; omega)
        refine same.wr ?_ (fun x y p => by unfold PCro at p; omega)
        refine same.wr ?_ (fun x y p => by unfold PCro at p; omega)
        exact same.rf
      case day =>
        refine RDay.mv D ?_
        refine same.wr ?_ (fun x y p => by unfold PDay at p; omega)
        refine same.wr ?_ (fun x y p => by unfold PDay at p; omega)
        refine same.wr ?_ (fun x y p => by unfold PDay at p; omega)
        refine same.wr ?_ (fun x y p => by unfold PDay at p; omega)
        refine same.wr ?_ (fun x y p => by unfold PDay at p; omega)
        refine same.wr ?_ (fun x y p => by unfold PDay at p; omega)
        refine same.wr ?_ (fun x y p => by unfold PDay at p; omega)
        refine same.wr ?_ (fun x y p => by unfold PDay at p; omega)
        refine same.wr ?_ (fun x y p => by unfold PDay at p; omega)
        refine same.wr ?_ (fun x y p => by unfold PDay at p; omega)
        refine same.wr ?_ (fun x y p => by unfold PDay at p; omega)
        refine same.wr ?_ (fun x y p => by unfold PDay at p; omega)
        refine same.wr ?_ (fun x y p => by unfold PDay at p; omega)
        exact same.rf
      case ext =>
        refine RExt.bump E (pLe.tr (pLe.tr (pLe.tr (pLe.tr (pLe.tr (pLe.tr (pLe.tr (pLe.tr (pLe.tr (pLe.tr (pLe.tr (pLe.tr (pLe.wr _ (by decide)) (pLe.wr _ (by decide))) (pLe.wr _ (by decide))) (pLe.wr _ (by decide))) (pLe.wr _ (by decide))) (pLe.wr _ (by decide))) (pLe.wr _ (by decide))) (pLe.wr _ (by decide))) (pLe.wr _ (by decide))) (pLe.wr _ (by decide))) (pLe.wr _ (by decide))) (pLe.wr _ (by decide))) (pLe.wr _ (by decide))) (by simp only [rd_wr]; simp) ?_ (fun a i q => by rw [rd_wr_n (by omega)]; rw [rd_wr_n (by omega)]; rw [rd_wr_n (by omega)]; rw [rd_wr_n (by omega)]; rw [rd_wr_n (by omega)]; rw [rd_wr_n (by omega)]; rw [rd_wr_n (by omega)]; rw [rd_wr_n (by omega)]; rw [rd_wr_n (by omega)]; rw [rd_wr_n (by omega)]; rw [rd_wr_n (by omega)]; rw [rd_wr_n (by omega)]; rw [rd_wr_n (by omega)])
        refine same.wr ?_ (fun x y p => by unfold PLsw at p; omega)
        refine same.wr ?_ (fun x y p => by unfold PLsw at p; omega)
        refine same.wr ?_ (fun x y p => by unfold PLsw at p; omega)
        refine same.wr ?_ (fun x y p => by unfold PLsw at p; omega)
        refine same.wr ?_ (fun x y p => by unfold PLsw at p; omega)
        refine same.wr ?_ (fun x y p => by unfold PLsw at p; omega)
        refine same.wr ?_ (fun x y p => by unfold PLsw at p; omega)
        refine same.wr ?_ (fun x y p => by unfold PLsw at p; omega)
        refine same.wr ?_ (fun x y p => by unfold PLsw at p; omega)
        refine same.wr ?_ (fun x y p => by unfold PLsw at p; omega)
        refine same.wr ?_ (fun x y p => by unfold PLsw at p; omega)
        refine same.wr ?_ (fun x y p => by unfold PLsw at p; omega)
        refine same.wr ?_ (fun x y p => by unfold PLsw at p; omega)
        exact same.rf
  · intro c1 c2 c3 c4
    have := vWithin_t c1
    have := vWithin_t c2
    have := vWithin_t c3
    have := gz (by omega) (by omega)
    refine g_X11_pass_0 (by omega) S x1 x2 x3 ?_ ?_ (fun _ => isSkier_C S h1 (by omega)) ?_ ?_ ?_ ?_ ?_ ?_ ?_ ?_ ?_ ?_ ?_ ?_ ?_
    all_goals first
      | (intros; omega)
      | (intros; exfalso; simp only [vWithin, decide_eq_true_eq, decide_eq_false_iff_not] at *; omega)
      | (intros; exact ⟨rfl, H⟩)
  · intro c1 c2 c3
    have := vWithin_t c1
    have := vWithin_t c2
    have := vWithin_f c3
    refine g_X11_pass_0 (by omega) S x1 x2 x3 ?_ ?_ (fun _ => isSkier_C S h1 (by omega)) ?_ ?_ ?_ ?_ ?_ ?_ ?_ ?_ ?_ ?_ ?_ ?_ ?_
    all_goals first
      | (intros; omega)
      | (intros; exfalso; simp only [vWithin, decide_eq_true_eq, decide_eq_false_iff_not] at *; omega)
      | (intros; exact ⟨rfl, H⟩)
