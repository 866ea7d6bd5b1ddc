/-! simple calls, continued -/
theorem op_untell {n d : Nat} {σ : pS} (hd : 100 ≤ d) (h : RB n σ) (hn : n < 512) {x1 : Int} (h1 : inR x1) : pC mX10_untell d [(2, 0), (0, x1)] σ (fun r τ => pC mX11_untell d [(2, 68), (0, x1)] τ (fun q υ => q = r ∧ RB (n + 1) υ)) := by
  have H := RB.up h hn
  obtain ⟨S, Z, T, F, C, L, W, P, K, R, D, E⟩ := h
  obtain ⟨t1, t2, t3, t4, t5, t6⟩ := id C
  obtain ⟨w1, w2, w3, w4⟩ := id W
  have z : ∀ v : Int, rd (wr σ 0 6 v) 23 5 = rd σ 68 51 := fun v => (rd_wr_a _ (by decide)).trans w1
  have zu : ∀ v j : Int, rd (wr σ 0 6 v) 25 j = rd σ 25 j := fun v j => rd_wr_a _ (by decide)
  have zm : ∀ v j : Int, rd (wr σ 0 6 v) 100 j = rd σ 100 j := fun v j => rd_wr_a _ (by decide)
  have zc : ∀ v : Int, rd (wr σ 0 6 v) 68 51 = rd σ 68 51 := fun v => rd_wr_a _ (by decide)
  refine g_X10_untell_0 (by omega) S x1 (takeBack_C (by omega) S.wr (inst8_23 S) (z _) w2 (by omega) (by decide) h1 (fun j h0 h1 => ?_)) ?_
  · have := w4 j h0 h1
    have := zu (rd σ 0 6 + 1) j
    simp only [Int.reduceAdd]
    omega
  · intro v1 b1 τ1 e1 q1
    simp only [Int.reduceAdd] at q1
    have := zu (rd σ 0 6 + 1) x1
    have := zm (rd σ 0 6 + 1) x1
    have := zc (rd σ 0 6 + 1)
    rcases q1 with ⟨a1, a2, a3⟩ | ⟨a0, a1, a4, a2, a3⟩
    · subst a3
      have a5 := so_inj a2
      subst a5
      have : 0 ≤ x1 → x1 < rd σ 68 51 → rd σ 25 x1 = rd σ 100 x1 ∧ -1 ≤ rd σ 100 x1 ∧ rd σ 100 x1 ≤ 100000 := fun p1 p2 => by
        have := w4 x1 p1 p2
        omega
      refine g_X11_untell_0 (by omega) S.wr x1 ?_ ?_ ?_ ?_ ?_ ?_ ?_ ?_ <;> first | (intros; omega) | (intros; refine ⟨rfl, ?_⟩)
      all_goals
        refine ⟨S, Z.up rfl, ?tap, ?fau, ?clk, ?slo, ?win, ?pas, ?ski, ?cro, ?day, ?ext⟩
        case tap =>
          refine RTap.mv T ?_
          refine same.wr ?_ (fun x y p => by unfold PTap at p; omega)
          exact same.rf
        case fau =>
          refine RFau.mv F ?_
          refine same.wr ?_ (fun x y p => by unfold PFau at p; omega)
          exact same.rf
        case clk =>
            refine ⟨?_, ?_, ?_, ?_, ?_, ?_⟩
            · simp only [rd_wr]; simp; omega
            · simp only [rd_wr]; simp; omega
            · simp only [rd_wr]; simp; omega
            · simp only [rd_wr]; simp; omega
            · simp only [rd_wr]; simp; omega
            · omega
        case slo =>
          refine RSlo.mv L (pLe.wr _ (by decide)) ?_
          refine same.wr ?_ (fun x y p => by unfold PSlo at p; omega)
          exact same.rf
        case win =>
          refine RWin.mv W ?_
          refine same.wr ?_ (fun x y p => by unfold PWin at p; omega)
          exact same.rf
        case pas =>
          refine RPas.mv P ?_
          refine same.wr ?_ (fun x y p => by unfold PPas at p; omega)
          exact same.rf
        case ski =>
          refine RSki.mv K (pLe.wr _ (by decide)) ?_ (fun j h0 h1 h2 => by rw [rd_wr_n (by omega)])
          refine same.wr ?_ (fun x y p => by unfold PSki at p; omega)
          exact same.rf
        case cro =>
          refine RCro.mv R ?_
          refine same.wr ?_ (fun x y p => by unfold PCro at p; omega)
          exact same.rf
        case day =>
          refine RDay.mv D ?_
          refine same.wr ?_ (fun x y p => by unfold PDay at p; omega)
          exact same.rf
        case ext =>
          refine RExt.bump E (pLe.wr _ (by decide)) (by simp only [rd_wr]; simp) ?_ (fun a i q => by rw [rd_wr_n (by omega)])
          refine same.wr ?_ (fun x y p => by unfold PLsw at p; omega)
          exact same.rf
    · subst a3
      have a5 := so_inj a2
      subst a5
      have u1 : rd (wr (wr σ 0 6 (rd σ 0 6 + 1)) 25 x1 (rd σ 0 5)) 68 51 = rd σ 68 51 := by rw [rd_wr_a _ (by decide), rd_wr_a _ (by decide)]
      have u2 : rd (wr (wr σ 0 6 (rd σ 0 6 + 1)) 25 x1 (rd σ 0 5)) 100 x1 = rd σ 100 x1 := by rw [rd_wr_a _ (by decide), rd_wr_a _ (by decide)]
      have u3 : rd (wr (wr σ 0 6 (rd σ 0 6 + 1)) 25 x1 (rd σ 0 5)) 68 52 = rd σ 68 52 := by rw [rd_wr_a _ (by decide), rd_wr_a _ (by decide)]
      have := w4 x1 a0 a1
      refine g_X11_untell_0 (by omega) S.wr.wr x1 ?_ ?_ ?_ ?_ ?_ ?_ ?_ ?_ <;> first | (intros; omega) | (intros; refine ⟨rfl, ?_⟩)
      rw [u3]
      refine ⟨S, Z.up rfl, ?tap, ?fau, ?clk, ?slo, ?win, ?pas, ?ski, ?cro, ?day, ?ext⟩
      case tap =>
        refine RTap.mv T ?_
        refine same.wr ?_ (fun x y p => by unfold PTap at p; omega)
        refine same.wr ?_ (fun x y p => by unfold PTap at p; omega)
        refine same.wr ?_ (fun x y p => by unfold PTap at p; omega)
        exact same.rf
      case fau =>
        refine RFau.mv F ?_
        refine same.wr ?_ (fun x y p => by unfold PFau at p; omega)
        refine same.wr ?_ (fun x y p => by unfold PFau at p; omega)
        refine same.wr ?_ (fun x y p => by unfold PFau at p; omega)
        exact same.rf
      case clk =>
          refine ⟨?_, ?_, ?_, ?_, ?_, ?_⟩
          · simp only [rd_wr]; simp; omega
          · simp only [rd_wr]; simp; omega
          · simp only [rd_wr]; simp; omega
          · simp only [rd_wr]; simp; omega
          · simp only [rd_wr]; simp; omega
          · omega
      case slo =>
        refine RSlo.mv L (pLe.tr (pLe.tr (pLe.wr _ (by decide)) (pLe.wr _ (by decide))) (pLe.wr _ (by decide))) ?_
        refine same.wr ?_ (fun x y p => by unfold PSlo at p; omega)
        refine same.wr ?_ (fun x y p => by unfold PSlo at p; omega)
        refine same.wr ?_ (fun x y p => by unfold PSlo at p; omega)
        exact same.rf
      case win =>
          refine ⟨?_, ?_, ?_, fun j h0 h1 => ?_⟩
          · simp only [rd_wr]; simp; omega
          · simp only [rd_wr]; simp; omega
          · simp only [rd_wr]; simp; omega
          · have hc : j < rd σ 68 51 := by simpa [rd_wr] using h1
            have := w4 j h0 hc
            by_cases hj : j = x1
            · subst hj
              simp only [rd_wr]
              simp
              omega
            · simp only [rd_wr]
              simp [hj]
              omega
      case pas =>
        refine RPas.mv P ?_
        refine same.wr ?_ (fun x y p => by unfold PPas at p; omega)
        refine same.wr ?_ (fun x y p => by unfold PPas at p; omega)
        refine same.wr ?_ (fun x y p => by unfold PPas at p; omega)
        exact same.rf
      case ski =>
        refine RSki.mv K (pLe.tr (pLe.tr (pLe.wr _ (by decide)) (pLe.wr _ (by decide))) (pLe.wr _ (by decide))) ?_ (fun j h0 h1 h2 => by rw [rd_wr_n (by omega)]; rw [rd_wr_n (by omega)]; rw [rd_wr_n (by omega)])
        refine same.wr ?_ (fun x y p => by unfold PSki at p; omega)
        refine same.wr ?_ (fun x y p => by unfold PSki at p; omega)
        refine same.wr ?_ (fun x y p => by unfold PSki at p; omega)
        exact same.rf
      case cro =>
        refine RCro.mv R ?_
        refine same.wr ?_ (fun x y p => by unfold PCro at p; omega)
        refine same.wr ?_ (fun x y p => by unfold PCro at p; omega)
        refine same.wr ?_ (fun x y p => by unfold PCro at p; omega)
        exact same.rf
      case day =>
        refine RDay.mv D ?_
        refine same.wr ?_ (fun x y p => by unfold PDay at p; omega)
        refine same.wr ?_ (fun x y p => by unfold PDay at p; omega)
        refine same.wr ?_ (fun x y p => by unfold PDay at p; omega)
        exact same.rf
      case ext =>
        refine RExt.bump E (pLe.tr (pLe.tr (pLe.wr _ (by decide)) (pLe.wr _ (by decide))) (pLe.wr _ (by decide))) (by simp only [rd_wr]; simp) ?_ (fun a i q => by rw [rd_wr_n (by omega)]; rw [rd_wr_n (by omega)]; rw [rd_wr_n (by omega)])
        refine same.wr ?_ (fun x y p => by unfold PLsw at p; omega)
        refine same.wr ?_ (fun x y p => by unfold PLsw at p; omega)
        refine same.wr ?_ (fun x y p => by unfold PLsw at p; omega)
        exact same.rf
theorem op_unpass {n d : Nat} {σ : pS} (hd : 100 ≤ d) (h : RB n σ) (hn : n < 512) {x1 : Int} (h1 : inR x1) : pC mX10_unpass d [(2, 0), (0, x1)] σ (fun r τ => pC mX11_unpass d [(2, 68), (0, x1)] τ (fun q υ => q = r ∧ RB (n + 1) υ)) := by
  have H := RB.up h hn
  obtain ⟨S, Z, T, F, C, L, W, P, K, R, D, E⟩ := h
  obtain ⟨t1, t2, t3, t4, t5, t6⟩ := id C
  obtain ⟨w1, w2, w3, w4⟩ := id P
  have z : ∀ v : Int, rd (wr σ 0 6 v) 29 5 = rd σ 68 65 := fun v => (rd_wr_a _ (by decide)).trans w1
  have zu : ∀ v j : Int, rd (wr σ 0 6 v) 31 j = rd σ 31 j := fun v j => rd_wr_a _ (by decide)
  have zm : ∀ v j : Int, rd (wr σ 0 6 v) 112 j = rd σ 112 j := fun v j => rd_wr_a _ (by decide)
  have zc : ∀ v : Int, rd (wr σ 0 6 v) 68 65 = rd σ 68 65 := fun v => rd_wr_a _ (by decide)
  refine g_X10_unpass_0 (by omega) S x1 (takeBack_C (by omega) S.wr (inst8_29 S) (z _) w2 (by omega) (by decide) h1 (fun j h0 h1 => ?_)) ?_
  · have := w4 j h0 h1
    have := zu (rd σ 0 6 + 1) j
    simp only [Int.reduceAdd]
    omega
  · intro v1 b1 τ1 e1 q1
    simp only [Int.reduceAdd] at q1
    have := zu (rd σ 0 6 + 1) x1
    have := zm (rd σ 0 6 + 1) x1
    have := zc (rd σ 0 6 + 1)
    rcases q1 with ⟨a1, a2, a3⟩ | ⟨a0, a1, a4, a2, a3⟩
    · subst a3
      have a5 := so_inj a2
      subst a5
      have : 0 ≤ x1 → x1 < rd σ 68 65 → rd σ 31 x1 = rd σ 112 x1 ∧ -1 ≤ rd σ 112 x1 ∧ rd σ 112 x1 ≤ 100000 := fun p1 p2 => by
        have := w4 x1 p1 p2
        omega
      refine g_X11_unpass_0 (by omega) S.wr x1 ?_ ?_ ?_ ?_ ?_ ?_ ?_ ?_ <;> first | (intros; omega) | (intros; refine ⟨rfl, ?_⟩)
      all_goals
        refine ⟨S, Z.up rfl, ?tap, ?fau, ?clk, ?slo, ?win, ?pas, ?ski, ?cro, ?day, ?ext⟩
        case tap =>
          refine RTap.mv T ?_
          refine same.wr ?_ (fun x y p => by unfold PTap at p; omega)
          exact same.rf
        case fau =>
          refine RFau.mv F ?_
          refine same.wr ?_ (fun x y p => by unfold PFau at p; omega)
          exact same.rf
        case clk =>
            refine ⟨?_, ?_, ?_, ?_, ?_, ?_⟩
            · simp only [rd_wr]; simp; omega
            · simp only [rd_wr]; simp; omega
            · simp only [rd_wr]; simp; omega
            · simp only [rd_wr]; simp; omega
            · simp only [rd_wr]; simp; omega
            · omega
        case slo =>
          refine RSlo.mv L (pLe.wr _ (by decide)) ?_
          refine same.wr ?_ (fun x y p => by unfold PSlo at p; omega)
          exact same.rf
        case win =>
          refine RWin.mv W ?_
          refine same.wr ?_ (fun x y p => by unfold PWin at p; omega)
          exact same.rf
        case pas =>
          refine RPas.mv P ?_
          refine same.wr ?_ (fun x y p => by unfold PPas at p; omega)
          exact same.rf
        case ski =>
          refine RSki.mv K (pLe.wr _ (by decide)) ?_ (fun j h0 h1 h2 => by rw [rd_wr_n (by omega)])
          refine same.wr ?_ (fun x y p => by unfold PSki at p; omega)
          exact same.rf
        case cro =>
          refine RCro.mv R ?_
          refine same.wr ?_ (fun x y p => by unfold PCro at p; omega)
          exact same.rf
        case day =>
          refine RDay.mv D ?_
          refine same.wr ?_ (fun x y p => by unfold PDay at p; omega)
          exact same.rf
        case ext =>
          refine RExt.bump E (pLe.wr _ (by decide)) (by simp only [rd_wr]; simp) ?_ (fun a i q => by rw [rd_wr_n (by omega)])
          refine same.wr ?_ (fun x y p => by unfold PLsw at p; omega)
          exact same.rf
    · subst a3
      have a5 := so_inj a2
      subst a5
      have u1 : rd (wr (wr σ 0 6 (rd σ 0 6 + 1)) 31 x1 (rd σ 0 5)) 68 65 = rd σ 68 65 := by rw [rd_wr_a _ (by decide), rd_wr_a _ (by decide)]
      have u2 : rd (wr (wr σ 0 6 (rd σ 0 6 + 1)) 31 x1 (rd σ 0 5)) 112 x1 = rd σ 112 x1 := by rw [rd_wr_a _ (by decide), rd_wr_a _ (by decide)]
      have u3 : rd (wr (wr σ 0 6 (rd σ 0 6 + 1)) 31 x1 (rd σ 0 5)) 68 52 = rd σ 68 52 := by rw [rd_wr_a _ (by decide), rd_wr_a _ (by decide)]
      have := w4 x1 a0 a1
      refine g_X11_unpass_0 (by omega) S.wr.wr x1 ?_ ?_ ?_ ?_ ?_ ?_ ?_ ?_ <;> first | (intros; omega) | (intros; refine ⟨rfl, ?_⟩)
      rw [u3]
      refine ⟨S, Z.up rfl, ?tap, ?fau, ?clk, ?slo, ?win, ?pas, ?ski, ?cro, ?day, ?ext⟩
      case tap =>
        refine RTap.mv T ?_
        refine same.wr ?_ (fun x y p => by unfold PTap at p; omega)
        refine same.wr ?_ (fun x y p => by unfold PTap at p; omega)
        refine same.wr ?_ (fun x y p => by unfold PTap at p; omega)
        exact same.rf
      case fau =>
        refine RFau.mv F ?_
        refine same.wr ?_ (fun x y p => by unfold PFau at p; omega)
        refine same.wr ?_ (fun x y p => by unfold PFau at p; omega)
        refine same.wr ?_ (fun x y p => by unfold PFau at p; omega)
        exact same.rf
      case clk =>
          refine ⟨?_, ?_, ?_, ?_, ?_, ?_⟩
          · simp only [rd_wr]; simp; omega
          · simp only [rd_wr]; simp; omega
          · simp only [rd_wr]; simp; omega
          · simp only [rd_wr]; simp; omega
          · simp only [rd_wr]; simp; omega
          · omega
      case slo =>
        refine RSlo.mv L (pLe.tr (pLe.tr (pLe.wr _ (by decide)) (pLe.wr _ (by decide))) (pLe.wr _ (by decide))) ?_
        refine same.wr ?_ (fun x y p => by unfold PSlo at p; omega)
        refine same.wr ?_ (fun x y p => by unfold PSlo at p; omega)
        refine same.wr ?_ (fun x y p => by unfold PSlo at p; omega)
        exact same.rf
      case win =>
        refine RWin.mv W ?_
        refine same.wr ?_ (fun x y p => by unfold PWin at p; omega)
        refine same.wr ?_ (fun x y p => by unfold PWin at p; omega)
        refine same.wr ?_ (fun x y p => by unfold PWin at p; omega)
        exact same.rf
      case pas =>
          refine ⟨?_, ?_, ?_, fun j h0 h1 => ?_⟩
          · simp only [rd_wr]; simp; omega
          · simp only [rd_wr]; simp; omega
          · simp only [rd_wr]; simp; omega
          · have hc : j < rd σ 68 65 := by simpa [rd_wr] using h1
            have := w4 j h0 hc
            by_cases hj : j = x1
            · subst hj
              simp only [rd_wr]
              simp
              omega
            · simp only [rd_wr]
              simp [hj]
              omega
      case ski =>
        refine RSki.mv K (pLe.tr (pLe.tr (pLe.wr _ (by decide)) (pLe.wr _ (by decide))) (pLe.wr _ (by decide))) ?_ (fun j h0 h1 h2 => by rw [rd_wr_n (by omega)]; rw [rd_wr_n (by omega)]; rw [rd_wr_n (by omega)])
        refine same.wr ?_ (fun x y p => by unfold PSki at p; omega)
        refine same.wr ?_ (fun x y p => by unfold PSki at p; omega)
        refine same.wr ?_ (fun x y p => by unfold PSki at p; omega)
        exact same.rf
      case cro =>
        refine RCro.mv R ?_
        refine same.wr ?_ (fun x y p => by unfold PCro at p; omega)
        refine same.wr ?_ (fun x y p => by unfold PCro at p; omega)
        refine same.wr ?_ (fun x y p => by unfold PCro at p; omega)
        exact same.rf
      case day =>
        refine RDay.mv D ?_
        refine same.wr ?_ (fun x y p => by unfold PDay at p; omega)
        refine same.wr ?_ (fun x y p => by unfold PDay at p; omega)
        refine same.wr ?_ (fun x y p => by unfold PDay at p; omega)
        exact same.rf
      case ext =>
        refine RExt.bump E (pLe.tr (pLe.tr (pLe.wr _ (by decide)) (pLe.wr _ (by decide))) (pLe.wr _ (by decide))) (by simp only [rd_wr]; simp) ?_ (fun a i q => by rw [rd_wr_n (by omega)]; rw [rd_wr_n (by omega)]; rw [rd_wr_n (by omega)])
        refine same.wr ?_ (fun x y p => by unfold PLsw at p; omega)
        refine same.wr ?_ (fun x y p => by unfold PLsw at p; omega)
        refine same.wr ?_ (fun x y p => by unfold PLsw at p; omega)
        exact same.rf
theorem addArrivals_C {d : Nat} {σ : pS} (hst : Stat σ) {c x y : Int} (hc : rd σ 44 2 = c) (h0 : 0 ≤ c) (h1 : c ≤ 20) : pC mX0_addArrivals d [(2, 44), (0, x), (0, y)] σ (fun r τ => (c = 20 ∧ r = some (0, (-1)) ∧ τ = σ) ∨ (c < 20 ∧ r = some (0, c + 1) ∧ τ = (wr (wr (wr σ 45 c x) 46 c y) 44 2 (c + 1)))) := by
  refine g_X0_addArrivals_0 (Nat.zero_le d) hst x y (by omega) (by intros; omega) ?_ ?_
  · intro c1; rw [hc]; exact Or.inr ⟨by omega, rfl, rfl⟩
  · intro c1; exact Or.inl ⟨by omega, rfl, rfl⟩
theorem op_arrive {n d : Nat} {σ : pS} (hd : 100 ≤ d) (h : RB n σ) (hn : n < 512) {x1 : Int} (h1 : inR x1) {x2 : Int} (h2 : inR x2) : pC mX10_arrive d [(2, 0), (0, x1), (0, x2)] σ (fun r τ => pC mX11_arrive d [(2, 68), (0, x1), (0, x2)] τ (fun q υ => q = r ∧ RB (n + 1) υ)) := by
  have H := RB.up h hn
  obtain ⟨S, Z, T, F, C, L, W, P, K, R, D, E⟩ := h
  obtain ⟨w1, w2, w3, w4, w5, w6⟩ := id R
  refine g_X10_arrive_0 (by omega) S x1 x2 (within_C S h1 (by decide)) ?_ (fun _ => h2) ?_ (fun _ _ _ => addArrivals_C S w1 w2 w3) ?_ ?_
  · intro c1
    have := vWithin_f c1
    refine g_X11_arrive_0 (by omega) S x1 x2 ?_ ?_ ?_ ?_ ?_ ?_ ?_ ?_ ?_ ?_ <;> first | (intros; omega) | (intros; exact ⟨rfl, H⟩)
  · intro c1 c2
    have := vWithin_t c1
    refine g_X11_arrive_0 (by omega) S x1 x2 ?_ ?_ ?_ ?_ ?_ ?_ ?_ ?_ ?_ ?_ <;> first | (intros; omega) | (intros; exact ⟨rfl, H⟩)
  · intro c1 c2 c3 v2 τ2 e2 q2
    have := vWithin_t c1
    rcases q2 with ⟨a1, a2, a3⟩ | ⟨a1, a2, a3⟩
    · subst a3
      have a5 := so_inj a2
      subst a5
      refine g_X11_arrive_0 (by omega) S x1 x2 ?_ ?_ ?_ ?_ ?_ ?_ ?_ ?_ ?_ ?_ <;> first | (intros; omega) | (intros; exact ⟨rfl, H⟩)
    · subst a3
      have a5 := so_inj a2
      subst a5
      have u1 : rd (wr (wr (wr σ 45 (rd σ 68 77) x1) 46 (rd σ 68 77) x2) 44 2 (rd σ 68 77 + 1)) 68 77 = rd σ 68 77 := by rw [rd_wr_a _ (by decide), rd_wr_a _ (by decide), rd_wr_a _ (by decide)]
      refine g_X11_arrive_0 (by omega) S.wr.wr.wr x1 x2 ?_ ?_ ?_ ?_ ?_ ?_ ?_ ?_ ?_ ?_ <;> first | (intros; omega) | (intros; refine ⟨by rw [u1], ?_⟩)
      rw [u1]
      refine ⟨S, Z.up rfl, ?tap, ?fau, ?clk, ?slo, ?win, ?pas, ?ski, ?cro, ?day, ?ext⟩
      case tap =>
        refine RTap.mv T ?_
        refine same.wr ?_ (fun x y p => by unfold PTap at p; omega)
        refine same.wr ?_ (fun x y p => by unfold PTap at p; omega)
        refine same.wr ?_ (fun x y p => by unfold PTap at p; omega)
        refine same.wr ?_ (fun x y p => by unfold PTap at p; omega)
        refine same.wr ?_ (fun x y p => by unfold PTap at p; omega)
        refine same.wr ?_ (fun x y p => by unfold PTap at p; omega)
        exact same.rf
      case fau =>
        refine RFau.mv F ?_
        refine same.wr ?_ (fun x y p => by unfold PFau at p; omega)
        refine same.wr ?_ (fun x y p => by unfold PFau at p; omega)
        refine same.wr ?_ (fun x y p => by unfold PFau at p; omega)
        refine same.wr ?_ (fun x y p => by unfold PFau at p; omega)
        refine same.wr ?_ (fun x y p => by unfold PFau at p; omega)
        refine same.wr ?_ (fun x y p => by unfold PFau at p; omega)
        exact same.rf
      case clk =>
        refine RClk.up (RClk.mv C ?_) hn
        refine same.wr ?_ (fun x y p => by unfold PClk at p; omega)
        refine same.wr ?_ (fun x y p => by unfold PClk at p; omega)
        refine same.wr ?_ (fun x y p => by unfold PClk at p; omega)
        refine same.wr ?_ (fun x y p => by unfold PClk at p; omega)
        refine same.wr ?_ (fun x y p => by unfold PClk at p; omega)
        refine same.wr ?_ (fun x y p => by unfold PClk at p; omega)
        exact same.rf
      case slo =>
        refine RSlo.mv L (pLe.tr (pLe.tr (pLe.tr (pLe.tr (pLe.tr (pLe.wr _ (by decide)) (pLe.wr _ (by decide))) (pLe.wr _ (by decide))) (pLe.wr _ (by decide))) (pLe.wr _ (by decide))) (pLe.wr _ (by decide))) ?_
        refine same.wr ?_ (fun x y p => by unfold PSlo at p; omega)
        refine same.wr ?_ (fun x y p => by unfold PSlo at p; omega)
        refine same.wr ?_ (fun x y p => by unfold PSlo at p; omega)
        refine same.wr ?_ (fun x y p => by unfold PSlo at p; omega)
        refine same.wr ?_ (fun x y p => by unfold PSlo at p; omega)
        refine same.wr ?_ (fun x y p => by unfold PSlo at p; omega)
        exact same.rf
      case win =>
        refine RWin.mv W ?_
        refine same.wr ?_ (fun x y p => by unfold PWin at p; omega)
        refine same.wr ?_ (fun x y p => by unfold PWin at p; omega)
        refine same.wr ?_ (fun x y p => by unfold PWin at p; omega)
        refine same.wr ?_ (fun x y p => by unfold PWin at p; omega)
        refine same.wr ?_ (fun x y p => by unfold PWin at p; omega)
        refine same.wr ?_ (fun x y p => by unfold PWin at p; omega)
        exact same.rf
      case pas =>
        refine RPas.mv P ?_
        refine same.wr ?_ (fun x y p => by unfold PPas at p; omega)
        refine same.wr ?_ (fun x y p => by unfold PPas at p; omega)
        refine same.wr ?_ (fun x y p => by unfold PPas at p; omega)
        refine same.wr ?_ (fun x y p => by unfold PPas at p; omega)
        refine same.wr ?_ (fun x y p => by unfold PPas at p; omega)
        refine same.wr ?_ (fun x y p => by unfold PPas at p; omega)
        exact same.rf
      case ski =>
        refine RSki.mv K (pLe.tr (pLe.tr (pLe.tr (pLe.tr (pLe.tr (pLe.wr _ (by decide)) (pLe.wr _ (by decide))) (pLe.wr _ (by decide))) (pLe.wr _ (by decide))) (pLe.wr _ (by decide))) (pLe.wr _ (by decide))) ?_ (fun j h0 h1 h2 => by rw [rd_wr_n (by omega)]; rw [rd_wr_n (by omega)]; rw [rd_wr_n (by omega)]; rw [rd_wr_n (by omega)]; rw [rd_wr_n (by omega)]; rw [rd_wr_n (by omega)])
        refine same.wr ?_ (fun x y p => by unfold PSki at p; omega)
        refine same.wr ?_ (fun x y p => by unfold PSki at p; omega)
        refine same.wr ?_ (fun x y p => by unfold PSki at p; omega)
        refine same.wr ?_ (fun x y p => by unfold PSki at p; omega)
        refine same.wr ?_ (fun x y p => by unfold PSki at p; omega)
        refine same.wr ?_ (fun x y p => by unfold PSki at p; omega)
        exact same.rf
      case cro =>
          refine ⟨?_, ?_, ?_, fun j h0 h1 => ?_, fun p hp0 hp1 => ?_, fun r hr0 hr1 => ?_⟩
          · simp only [rd_wr]; simp
          · simp only [rd_wr]; simp; omega
          · simp only [rd_wr]; simp; omega
          · have hc : j < rd σ 68 77 + 1 := by simpa [rd_wr] using h1
            by_cases hj : j = rd σ 68 77
            · subst hj
              simp only [rd_wr]
              simp
              omega
            · have := w4 j h0 (by omega)
              simp only [rd_wr]
              simp [hj]
              omega
          · have := w5 p hp0 hp1
            simp only [rd_wr]
            simpa using this
          · have := w6 r hr0 hr1
            simp only [rd_wr]
            simpa using this
      case day =>
        refine RDay.mv D ?_
        refine same.wr ?_ (fun x y p => by unfold PDay at p; omega)
        refine same.wr ?_ (fun x y p => by unfold PDay at p; omega)
        refine same.wr ?_ (fun x y p => by unfold PDay at p; omega)
        refine same.wr ?_ (fun x y p => by unfold PDay at p; omega)
        refine same.wr ?_ (fun x y p => by unfold PDay at p; omega)
        refine same.wr ?_ (fun x y p => by unfold PDay at p; omega)
        exact same.rf
      case ext =>
        refine RExt.mv E (pLe.tr (pLe.tr (pLe.tr (pLe.tr (pLe.tr (pLe.wr _ (by decide)) (pLe.wr _ (by decide))) (pLe.wr _ (by decide))) (pLe.wr _ (by decide))) (pLe.wr _ (by decide))) (pLe.wr _ (by decide))) ?_
        refine same.wr ?_ (fun x y p => by unfold PExt MF at p; omega)
        refine same.wr ?_ (fun x y p => by unfold PExt MF at p; omega)
        refine same.wr ?_ (fun x y p => by unfold PExt MF at p; omega)
        refine same.wr ?_ (fun x y p => by unfold PExt MF at p; omega)
        refine same.wr ?_ (fun x y p => by unfold PExt MF at p; omega)
        refine same.wr ?_ (fun x y p => by unfold PExt MF at p; omega)
        exact same.rf
  · intro c1 c2 c3
    have := vWithin_t c1
    refine g_X11_arrive_0 (by omega) S x1 x2 ?_ ?_ ?_ ?_ ?_ ?_ ?_ ?_ ?_ ?_ <;> first | (intros; omega) | (intros; exact ⟨rfl, H⟩)
theorem op_make {n d : Nat} {σ : pS} (hd : 100 ≤ d) (h : RB n σ) (hn : n < 512) {x1 : Int} (h1 : inR x1) {x2 : Int} (h2 : inR x2) : pC mX10_make d [(2, 0), (0, x1), (0, x2)] σ (fun r τ => pC mX11_make d [(2, 68), (0, x1), (0, x2)] τ (fun q υ => q = r ∧ RB (n + 1) υ)) := by
  have H := RB.up h hn
  obtain ⟨S, Z, T, F, C, L, W, P, K, R, D, E⟩ := h
  obtain ⟨l0, l1, l2, l3, l4, l5, l6, l7, l8, l9, l10, l11, l12⟩ := id L
  obtain ⟨w1, w2, w3, w4, w5, w6⟩ := id R
  refine g_X10_make_0 (by omega) S x1 x2 l1 (within_C S h1 (by omega)) ?_ (fun _ => within_C S h2 (by decide)) ?_ ?_ ?_
  · intro c1
    have := vWithin_f c1
    refine g_X11_make_0 (by omega) S x1 x2 ?_ ?_ ?_ ?_ ?_ ?_ ?_ ?_ ?_ <;> first | (intros; omega) | (intros; exact ⟨rfl, H⟩)
  · intro c1 c2
    have := vWithin_t c1
    omega
  · intro c1 c2
    have := vWithin_t c1
    have := vWithin_t c2
    have u1 : rd (wr σ 49 x1 x2) 68 31 = rd σ 68 31 := rd_wr_a _ (by decide)
    refine g_X11_make_0 (by omega) S.wr x1 x2 ?_ ?_ ?_ ?_ ?_ ?_ ?_ ?_ ?_ <;> first | (intros; omega) | (intros; refine ⟨rfl, ?_⟩)
    refine ⟨S, Z.up rfl, ?tap, ?fau, ?clk, ?slo, ?win, ?pas, ?ski, ?cro, ?day, ?ext⟩
    case tap =>
      refine RTap.mv T ?_
      refine same.wr ?_ (fun x y p => by unfold PTap at p; omega)
      refine same.wr ?_ (fun x y p => by unfold PTap at p; omega)
      exact same.rf
    case fau =>
      refine RFau.mv F ?_
      refine same.wr ?_ (fun x y p => by unfold PFau at p; omega)
      refine same.wr ?_ (fun x y p => by unfold PFau at p; omega)
      exact same.rf
    case clk =>
      refine RClk.up (RClk.mv C ?_) hn
      refine same.wr ?_ (fun x y p => by unfold PClk at p; omega)
      refine same.wr ?_ (fun x y p => by unfold PClk at p; omega)
      exact same.rf
    case slo =>
      refine RSlo.mv L (pLe.tr (pLe.wr _ (by decide)) (pLe.wr _ (by decide))) ?_
      refine same.wr ?_ (fun x y p => by unfold PSlo at p; omega)
      refine same.wr ?_ (fun x y p => by unfold PSlo at p; omega)
      exact same.rf
    case win =>
      refine RWin.mv W ?_
      refine same.wr ?_ (fun x y p => by unfold PWin at p; omega)
      refine same.wr ?_ (fun x y p => by unfold PWin at p; omega)
      exact same.rf
    case pas =>
      refine RPas.mv P ?_
      refine same.wr ?_ (fun x y p => by unfold PPas at p; omega)
      refine same.wr ?_ (fun x y p => by unfold PPas at p; omega)
      exact same.rf
    case ski =>
      refine RSki.mv K (pLe.tr (pLe.wr _ (by decide)) (pLe.wr _ (by decide))) ?_ (fun j h0 h1 h2 => by rw [rd_wr_n (by omega)]; rw [rd_wr_n (by omega)])
      refine same.wr ?_ (fun x y p => by unfold PSki at p; omega)
      refine same.wr ?_ (fun x y p => by unfold PSki at p; omega)
      exact same.rf
    case cro =>
        refine ⟨?_, ?_, ?_, fun j h0 h1 => ?_, fun p hp0 hp1 => ?_, fun r hr0 hr1 => ?_⟩
        · simp only [rd_wr]; simp; omega
        · simp only [rd_wr]; simp; omega
        · simp only [rd_wr]; simp; omega
        · have := w4 j h0 (by simpa [rd_wr] using h1)
          simp only [rd_wr]
          simpa using this
        · have := w5 p hp0 hp1
          simp only [rd_wr]
          simpa using this
        · have := w6 r hr0 hr1
          by_cases hj : r = x1
          · subst hj
            simp only [rd_wr]
            simp
            omega
          · simp only [rd_wr]
            simp [hj]
            omega
    case day =>
      refine RDay.mv D ?_
      refine same.wr ?_ (fun x y p => by unfold PDay at p; omega)
      refine same.wr ?_ (fun x y p => by unfold PDay at p; omega)
      exact same.rf
    case ext =>
      refine RExt.mv E (pLe.tr (pLe.wr _ (by decide)) (pLe.wr _ (by decide))) ?_
      refine same.wr ?_ (fun x y p => by unfold PExt MF at p; omega)
      refine same.wr ?_ (fun x y p => by unfold PExt MF at p; omega)
      exact same.rf
  · intro c1 c2
    have := vWithin_t c1
    have := vWithin_f c2
    refine g_X11_make_0 (by omega) S x1 x2 ?_ ?_ ?_ ?_ ?_ ?_ ?_ ?_ ?_ <;> first | (intros; omega) | (intros; exact ⟨rfl, H⟩)
theorem op_about {n d : Nat} {σ : pS} (hd : 100 ≤ d) (h : RB n σ) (hn : n < 512) {x1 : Int} (h1 : inR x1) : pC mX10_about d [(2, 0), (0, x1)] σ (fun r τ => pC mX11_about d [(2, 68), (0, x1)] τ (fun q υ => q = r ∧ RB (n + 1) υ)) := by
  have H := RB.up h hn
  obtain ⟨S, Z, T, F, C, L, W, P, K, R, D, E⟩ := h
  obtain ⟨l0, l1, l2, l3, l4, l5, l6, l7, l8, l9, l10, l11, l12⟩ := id L
  refine g_X10_about_0 (by omega) S x1 ?_ ?_ ?_ ?_ ?_ ?_ ?_ ?_ ?_ ?_ ?_ ?_ ?_ ?_ ?_ ?_ <;> first | omega | (intros; exact l1) | intro c1
  all_goals
    refine g_X11_about_0 (by omega) S x1 ?_ ?_ ?_ ?_ ?_ ?_ ?_ ?_ ?_ ?_ ?_ ?_ <;> first | omega | (intros; omega) | (intros; refine ⟨?_, H⟩)
  all_goals first | rfl | (rw [l2]) | (rw [l4]) | (rw [l6]) | (rw [l7]) | (rw [W.1]) | (rw [P.1]) | (rw [K.1]) | (rw [R.1]) | (rw [C.1]) | (rw [T.1])
