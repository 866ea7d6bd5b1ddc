/-! simple calls: class and reference one behind the other -/
def RB (n : Nat) (σ : pS) : Prop := Stat σ ∧ RSz n σ ∧ RTap σ ∧ RFau σ ∧ RClk n σ ∧ RSlo σ ∧ RWin σ ∧ RPas σ ∧ RSki σ ∧ RCro σ ∧ RDay σ ∧ RExt σ
theorem RClk.up {n : Nat} {σ : pS} (h : RClk n σ) (hn : n < 512) : RClk (n + 1) σ := by
  unfold RClk at *
  omega
theorem RSz.up {n : Nat} {σ τ : pS} (h : RSz n σ) (e : τ.1 = σ.1) : RSz (n + 1) τ := by
  unfold RSz pSz at *
  rw [e]
  omega
theorem RB.up {n : Nat} {σ : pS} (h : RB n σ) (hn : n < 512) : RB (n + 1) σ := ⟨h.1, h.2.1.up rfl, h.2.2.1, h.2.2.2.1, h.2.2.2.2.1.up hn, h.2.2.2.2.2⟩
theorem op_end {n d : Nat} {σ : pS} (hd : 100 ≤ d) (h : RB n σ) (hn : n < 512) {x1 : Int} (h1 : inR x1) : pC mX10_end d [(2, 0), (0, x1)] σ (fun r τ => pC mX11_end d [(2, 68), (0, x1)] τ (fun q υ => q = r ∧ RB (n + 1) υ)) := by
  have H := RB.up h hn
  obtain ⟨S, Z, T, F, C, L, W, P, K, R, D, E⟩ := h
  obtain ⟨t1, t2, t3, t4⟩ := id T
  refine g_X10_end_0 (by omega) S x1 h1 ?_ ?_ ?_ ?_
  · intro c1
    refine g_X11_end_0 (by omega) S x1 h1 ?_ ?_ ?_ ?_ <;> first | (intros; omega) | (intros; exact ⟨rfl, H⟩)
  · intros; omega
  · intro c1 c2
    have q : rd (wr σ 0 1 x1) 68 1 = rd σ 68 1 := rd_wr_a _ (by decide)
    refine g_X11_end_0 (by omega) S.wr x1 h1 ?_ ?_ ?_ ?_
    · intros; omega
    · intros; omega
    · intro c3 c4
      refine ⟨rfl, ?_⟩
      refine ⟨S, Z.up rfl, ?tap, ?fau, ?clk, ?slo, ?win, ?pas, ?ski, ?cro, ?day, ?ext⟩
      case tap =>
          refine ⟨?_, ?_, ?_, fun i h0 h1 => ?_⟩
          · rw [rd_wr_same, rd_wr_a _ (by decide), rd_wr_same]
          · rw [rd_wr_same]; omega
          · rw [rd_wr_same]; omega
          · rw [rd_wr_n (by omega), rd_wr_n (by omega), rd_wr_n (by omega), rd_wr_n (by omega)]; exact t4 i h0 h1
      case fau =>
        refine RFau.mv F ?_
        refine same.wr ?_ (fun x y p => by unfold PFau at p; omega)
        refine same.wr ?_ (fun x y p => by unfold PFau at p; omega)
        exact same.rf
      case clk =>
        refine RClk.up (RClk.mv C ?_) hn
        refine same.wr ?_ (fun x y p => by unfold PClk at p; omega)
        refine same.wr ?_ (fun x y p => by unfold PClk at p; omega)
        exact same.rf
      case slo =>
        refine RSlo.mv L (pLe.tr (pLe.wr _ (by decide)) (pLe.wr _ (by decide))) ?_
        refine same.wr ?_ (fun x y p => by unfold PSlo at p; omega)
        refine same.wr ?_ (fun x y p => by unfold PSlo at p; omega)
        exact same.rf
      case win =>
        refine RWin.mv W ?_
        refine same.wr ?_ (fun x y p => by unfold PWin at p; omega)
        refine same.wr ?_ (fun x y p => by unfold PWin at p; omega)
        exact same.rf
      case pas =>
        refine RPas.mv P ?_
        refine same.wr ?_ (fun x y p => by unfold PPas at p; omega)
        refine same.wr ?_ (fun x y p => by unfold PPas at p; omega)
        exact same.rf
      case ski =>
        refine RSki.mv K (pLe.tr (pLe.wr _ (by decide)) (pLe.wr _ (by decide))) ?_ (fun j h0 h1 h2 => by rw [rd_wr_n (by omega)]; rw [rd_wr_n (by omega)])
        refine same.wr ?_ (fun x y p => by unfold PSki at p; omega)
        refine same.wr ?_ (fun x y p => by unfold PSki at p; omega)
        exact same.rf
      case cro =>
        refine RCro.mv R ?_
        refine same.wr ?_ (fun x y p => by unfold PCro at p; omega)
        refine same.wr ?_ (fun x y p => by unfold PCro at p; omega)
        exact same.rf
      case day =>
        refine RDay.mv D ?_
        refine same.wr ?_ (fun x y p => by unfold PDay at p; omega)
        refine same.wr ?_ (fun x y p => by unfold PDay at p; omega)
        exact same.rf
      case ext =>
        refine RExt.mv E (pLe.tr (pLe.wr _ (by decide)) (pLe.wr _ (by decide))) ?_
        refine same.wr ?_ (fun x y p => by unfold PExt MF at p; omega)
        refine same.wr ?_ (fun x y p => by unfold PExt MF at p; omega)
        exact same.rf
    · intros; omega
  · intro c1 c2
    refine g_X11_end_0 (by omega) S x1 h1 ?_ ?_ ?_ ?_ <;> first | (intros; omega) | (intros; exact ⟨rfl, H⟩)
theorem op_fault {n d : Nat} {σ : pS} (hd : 100 ≤ d) (h : RB n σ) (hn : n < 512) {x1 : Int} (h1 : inR x1) : pC mX10_fault d [(2, 0), (0, x1)] σ (fun r τ => pC mX11_fault d [(2, 68), (0, x1)] τ (fun q υ => q = r ∧ RB (n + 1) υ)) := by
  have H := RB.up h hn
  obtain ⟨S, Z, T, F, C, L, W, P, K, R, D, E⟩ := h
  refine g_X10_fault_0 (by omega) S x1 h1 ?_ ?_ ?_
  · intros
    refine g_X11_fault_0 (by omega) S x1 h1 ?_ ?_ ?_ <;> first | (intros; omega) | (intros; exact ⟨rfl, H⟩)
  · intros
    refine g_X11_fault_0 (by omega) S x1 h1 ?_ ?_ ?_ <;> first | (intros; omega) | (intros; exact ⟨by rw [F.2], H⟩)
  · intros
    refine g_X11_fault_0 (by omega) S x1 h1 ?_ ?_ ?_ <;> first | (intros; omega) | (intros; exact ⟨by rw [F.1], H⟩)
theorem op_later {n d : Nat} {σ : pS} (hd : 100 ≤ d) (h : RB n σ) (hn : n < 512) {x1 : Int} (h1 : inR x1) : pC mX10_later d [(2, 0), (0, x1)] σ (fun r τ => pC mX11_later d [(2, 68), (0, x1)] τ (fun q υ => q = r ∧ RB (n + 1) υ)) := by
  have H := RB.up h hn
  obtain ⟨S, Z, T, F, C, L, W, P, K, R, D, E⟩ := h
  obtain ⟨t1, t2, t3, t4, t5, t6⟩ := id C
  refine g_X10_later_0 (by omega) S x1 h1 ?_ ?_ ?_ ?_ ?_
  · intros
    refine g_X11_later_0 (by omega) S x1 h1 ?_ ?_ ?_ ?_ ?_ <;> first | (intros; omega) | (intros; exact ⟨rfl, H⟩)
  · intros
    refine g_X11_later_0 (by omega) S x1 h1 ?_ ?_ ?_ ?_ ?_ <;> first | (intros; omega) | (intros; exact ⟨rfl, H⟩)
  · intros; omega
  · intro c1 c2 c3
    have q : rd (wr σ 0 5 (rd σ 0 5 + x1)) 68 52 = rd σ 68 52 := rd_wr_a _ (by decide)
    refine g_X11_later_0 (by omega) S.wr x1 h1 ?_ ?_ ?_ ?_ ?_
    · intros; omega
    · intros; omega
    · intros; omega
    · intro c3 c4 c5
      refine ⟨by rw [q, t1], ?_⟩
      rw [q]
      refine ⟨S, Z.up rfl, ?tap, ?fau, ?clk, ?slo, ?win, ?pas, ?ski, ?cro, ?day, ?ext⟩
      case tap =>
        refine RTap.mv T ?_
        refine same.wr ?_ (fun x y p => by unfold PTap at p; omega)
        refine same.wr ?_ (fun x y p => by unfold PTap at p; omega)
        exact same.rf
      case fau =>
        refine RFau.mv F ?_
        refine same.wr ?_ (fun x y p => by unfold PFau at p; omega)
        refine same.wr ?_ (fun x y p => by unfold PFau at p; omega)
        exact same.rf
      case clk =>
          refine ⟨?_, ?_, ?_, ?_, ?_, ?_⟩
          · rw [rd_wr_same, rd_wr_a _ (by decide), rd_wr_same]; omega
          · rw [rd_wr_same]; omega
          · rw [rd_wr_same]; omega
          · rw [rd_wr_n (by omega), rd_wr_n (by omega)]; omega
          · rw [rd_wr_n (by omega), rd_wr_n (by omega)]; omega
          · omega
      case slo =>
        refine RSlo.mv L (pLe.tr (pLe.wr _ (by decide)) (pLe.wr _ (by decide))) ?_
        refine same.wr ?_ (fun x y p => by unfold PSlo at p; omega)
        refine same.wr ?_ (fun x y p => by unfold PSlo at p; omega)
        exact same.rf
      case win =>
        refine RWin.mv W ?_
        refine same.wr ?_ (fun x y p => by unfold PWin at p; omega)
        refine same.wr ?_ (fun x y p => by unfold PWin at p; omega)
        exact same.rf
      case pas =>
        refine RPas.mv P ?_
        refine same.wr ?_ (fun x y p => by unfold PPas at p; omega)
        refine same.wr ?_ (fun x y p => by unfold PPas at p; omega)
        exact same.rf
      case ski =>
        refine RSki.mv K (pLe.tr (pLe.wr _ (by decide)) (pLe.wr _ (by decide))) ?_ (fun j h0 h1 h2 => by rw [rd_wr_n (by omega)]; rw [rd_wr_n (by omega)])
        refine same.wr ?_ (fun x y p => by unfold PSki at p; omega)
        refine same.wr ?_ (fun x y p => by unfold PSki at p; omega)
        exact same.rf
      case cro =>
        refine RCro.mv R ?_
        refine same.wr ?_ (fun x y p => by unfold PCro at p; omega)
        refine same.wr ?_ (fun x y p => by unfold PCro at p; omega)
        exact same.rf
      case day =>
        refine RDay.mv D ?_
        refine same.wr ?_ (fun x y p => by unfold PDay at p; omega)
        refine same.wr ?_ (fun x y p => by unfold PDay at p; omega)
        exact same.rf
      case ext =>
        refine RExt.mv E (pLe.tr (pLe.wr _ (by decide)) (pLe.wr _ (by decide))) ?_
        refine same.wr ?_ (fun x y p => by unfold PExt MF at p; omega)
        refine same.wr ?_ (fun x y p => by unfold PExt MF at p; omega)
        exact same.rf
    · intros; omega
  · intros
    refine g_X11_later_0 (by omega) S x1 h1 ?_ ?_ ?_ ?_ ?_ <;> first | (intros; omega) | (intros; exact ⟨rfl, H⟩)
theorem tell_C {d : Nat} {σ : pS} (hst : Stat σ) {a c t x y z : Int} {n : Nat} (I : Inst8 σ a n) (hc : rd σ a 5 = c) (h0 : 0 ≤ c) (h1 : c ≤ n) (hn : n < 2147483648) : pC mX8_tell d [(2, a), (0, t), (0, x), (0, y), (0, z)] σ (fun r τ => (c = n ∧ r = some (0, (-1)) ∧ τ = σ) ∨ (c < n ∧ r = some (0, c) ∧ τ = (wr (wr (wr (wr (wr (wr σ (a + 1) c t) (a + 2) c (-1)) (a + 3) c x) (a + 4) c y) (a + 5) c z) a 5 (c + 1)))) := by
  refine g_X8_tell_0 (Nat.zero_le d) hst a t x y z I ?_ ?_ ?_ ?_ ?_
  · omega
  · omega
  · intros; omega
  · intro c1
    refine Or.inr ⟨by omega, ?_, ?_⟩
    · rw [hc, show c + 1 - 1 = c by omega]
    · rw [hc]
  · intros; exact Or.inl ⟨by omega, rfl, rfl⟩
theorem takeBack_C {d : Nat} {σ : pS} (hd : 1 ≤ d) (hst : Stat σ) {a c x t : Int} {n : Nat} (I : Inst8 σ a n) (hc : rd σ a 5 = c) (h0 : 0 ≤ c) (h1 : c ≤ n) (hn : n < 2147483648) (hx : inR x) (hu : ∀ j : Int, 0 ≤ j → j < c → -1 ≤ rd σ (a + 2) j ∧ rd σ (a + 2) j ≤ 100000) : pC mX8_takeBack d [(2, a), (0, x), (0, t)] σ (fun r τ => (¬ (0 ≤ x ∧ x < c ∧ rd σ (a + 2) x = -1) ∧ r = some (0, 0) ∧ τ = σ) ∨ (0 ≤ x ∧ x < c ∧ rd σ (a + 2) x = -1 ∧ r = some (0, 1) ∧ τ = wr σ (a + 2) x t)) := by
  refine g_X8_takeBack_0 hd hst a x t I (within_C hst hx (by omega)) ?_ ?_ ?_ ?_ ?_
  · intro c1; have := vWithin_f c1; exact Or.inl ⟨by omega, rfl, rfl⟩
  · intro c1; have := vWithin_t c1; omega
  · intro c1; have := vWithin_t c1; have := hu x (by omega) (by omega); omega
  · intro c1 c2; have := vWithin_t c1; exact Or.inr ⟨by omega, by omega, c2, rfl, rfl⟩
  · intro c1 c2; have := vWithin_t c1; exact Or.inl ⟨by omega, rfl, rfl⟩
theorem op_weather {n d : Nat} {σ : pS} (hd : 100 ≤ d) (h : RB n σ) (hn : n < 512) {x1 : Int} (h1 : inR x1) {x2 : Int} (h2 : inR x2) {x3 : Int} (h3 : inR x3) : pC mX10_weather d [(2, 0), (0, x1), (0, x2), (0, x3)] σ (fun r τ => pC mX11_weather d [(2, 68), (0, x1), (0, x2), (0, x3)] τ (fun q υ => q = r ∧ RB (n + 1) υ)) := by
  have H := RB.up h hn
  obtain ⟨S, Z, T, F, C, L, W, P, K, R, D, E⟩ := h
  obtain ⟨t1, t2, t3, t4, t5, t6⟩ := id C
  obtain ⟨w1, w2, w3, w4⟩ := id W
  have z : ∀ v : Int, rd (wr σ 0 6 v) 23 5 = rd σ 68 51 := fun v => (rd_wr_a _ (by decide)).trans w1
  refine g_X10_weather_0 (by omega) S x1 x2 x3 (within_C S h1 (by decide)) ?_ (fun _ => within_C S h2 (by decide)) ?_ (fun _ _ => within_C S h3 (by decide)) (fun _ _ _ => tell_C S.wr (inst8_23 S) (z _) w2 (by omega) (by decide)) ?_ ?_
  · intro c1
    have := vWithin_f c1
    refine g_X11_weather_0 (by omega) S x1 x2 x3 ?_ ?_ ?_ ?_ ?_ ?_ ?_ ?_ ?_ ?_ ?_ ?_ ?_ <;> first | (intros; omega) | (intros; exact ⟨rfl, H⟩)
  · intro c1 c2
    have := vWithin_t c1
    have := vWithin_f c2
    refine g_X11_weather_0 (by omega) S x1 x2 x3 ?_ ?_ ?_ ?_ ?_ ?_ ?_ ?_ ?_ ?_ ?_ ?_ ?_ <;> first | (intros; omega) | (intros; exact ⟨rfl, H⟩)
  · intro c1 c2 c3 v4 τ4 e4 q4
    have := vWithin_t c1
    have := vWithin_t c2
    have := vWithin_t c3
    rcases q4 with ⟨a1, a2, a3⟩ | ⟨a1, a2, a3⟩
    · subst a3
      have a4 := so_inj a2
      subst a4
      have q : rd (wr σ 0 6 (rd σ 0 6 + 1)) 68 51 = rd σ 68 51 := rd_wr_a _ (by decide)
      refine g_X11_weather_0 (by omega) S.wr x1 x2 x3 ?_ ?_ ?_ ?_ ?_ ?_ ?_ ?_ ?_ ?_ ?_ ?_ ?_ <;> first | (intros; omega) | (intros; refine ⟨rfl, ?_⟩)
      refine ⟨S, Z.up rfl, ?tap, ?fau, ?clk, ?slo, ?win, ?pas, ?ski, ?cro, ?day, ?ext⟩
      case tap =>
        refine RTap.mv T ?_
        refine same.wr ?_ (fun x y p => by unfold PTap at p; omega)
        exact same.rf
      case fau =>
        refine RFau.mv F ?_
        refine same.wr ?_ (fun x y p => by unfold PFau at p; omega)
        exact same.rf
      case clk =>
          refine ⟨?_, ?_, ?_, ?_, ?_, ?_⟩
          · simp only [rd_wr]; simp; omega
          · simp only [rd_wr]; simp; omega
          · simp only [rd_wr]; simp; omega
          · simp only [rd_wr]; simp; omega
          · simp only [rd_wr]; simp; omega
          · omega
      case slo =>
        refine RSlo.mv L (pLe.wr _ (by decide)) ?_
        refine same.wr ?_ (fun x y p => by unfold PSlo at p; omega)
        exact same.rf
      case win =>
        refine RWin.mv W ?_
        refine same.wr ?_ (fun x y p => by unfold PWin at p; omega)
        exact same.rf
      case pas =>
        refine RPas.mv P ?_
        refine same.wr ?_ (fun x y p => by unfold PPas at p; omega)
        exact same.rf
      case ski =>
        refine RSki.mv K (pLe.wr _ (by decide)) ?_ (fun j h0 h1 h2 => by rw [rd_wr_n (by omega)])
        refine same.wr ?_ (fun x y p => by unfold PSki at p; omega)
        exact same.rf
      case cro =>
        refine RCro.mv R ?_
        refine same.wr ?_ (fun x y p => by unfold PCro at p; omega)
        exact same.rf
      case day =>
        refine RDay.mv D ?_
        refine same.wr ?_ (fun x y p => by unfold PDay at p; omega)
        exact same.rf
      case ext =>
        refine RExt.bump E (pLe.wr _ (by decide)) (by simp only [rd_wr]; simp) ?_ (fun a i q => by rw [rd_wr_n (by omega)])
        refine same.wr ?_ (fun x y p => by unfold PLsw at p; omega)
        exact same.rf
    · subst a3
      have a4 := so_inj a2
      subst a4
      simp only [Int.reduceAdd]
      have q : ∀ τ : pS, τ = (wr (wr (wr (wr (wr (wr (wr σ 0 6 (rd σ 0 6 + 1)) 24 (rd σ 68 51) (rd σ 0 5)) 25 (rd σ 68 51) (-1)) 26 (rd σ 68 51) x1) 27 (rd σ 68 51) x2) 28 (rd σ 68 51) x3) 23 5 (rd σ 68 51 + 1)) → rd τ 68 51 = rd σ 68 51 ∧ rd τ 68 52 = rd σ 68 52 := fun τ e => by
        subst e
        constructor
        · rw [rd_wr_a _ (by decide), rd_wr_a _ (by decide), rd_wr_a _ (by decide), rd_wr_a _ (by decide), rd_wr_a _ (by decide), rd_wr_a _ (by decide), rd_wr_a _ (by decide)]
        · rw [rd_wr_a _ (by decide), rd_wr_a _ (by decide), rd_wr_a _ (by decide), rd_wr_a _ (by decide), rd_wr_a _ (by decide), rd_wr_a _ (by decide), rd_wr_a _ (by decide)]
      obtain ⟨q1, q2⟩ := q _ rfl
      refine g_X11_weather_0 (by omega) S.wr.wr.wr.wr.wr.wr.wr x1 x2 x3 ?_ ?_ ?_ ?_ ?_ ?_ ?_ ?_ ?_ ?_ ?_ ?_ ?_ <;> first | (intros; omega) | (intros; refine ⟨by rw [q1, show rd σ 68 51 + 1 - 1 = rd σ 68 51 by omega], ?_⟩)
      rw [q1, q2]
      refine ⟨S, Z.up rfl, ?tap, ?fau, ?clk, ?slo, ?win, ?pas, ?ski, ?cro, ?day, ?ext⟩
      case tap =>
        refine RTap.mv T ?_
        refine same.wr ?_ (fun x y p => by unfold PTap at p; omega)
        refine same.wr ?_ (fun x y p => by unfold PTap at p; omega)
        refine same.wr ?_ (fun x y p => by unfold PTap at p; omega)
        refine same.wr ?_ (fun x y p => by unfold PTap at p; omega)
        refine same.wr ?_ (fun x y p => by unfold PTap at p; omega)
        refine same.wr ?_ (fun x y p => by unfold PTap at p; omega)
        refine same.wr ?_ (fun x y p => by unfold PTap at p; omega)
        refine same.wr ?_ (fun x y p => by unfold PTap at p; omega)
        refine same.wr ?_ (fun x y p => by unfold PTap at p; omega)
        refine same.wr ?_ (fun x y p => by unfold PTap at p; omega)
        refine same.wr ?_ (fun x y p => by unfold PTap at p; omega)
        refine same.wr ?_ (fun x y p => by unfold PTap at p; omega)
        refine same.wr ?_ (fun x y p => by unfold PTap at p; omega)
        exact same.rf
      case fau =>
        refine RFau.mv F ?_
        refine same.wr ?_ (fun x y p => by unfold PFau at p; omega)
        refine same.wr ?_ (fun x y p => by unfold PFau at p; omega)
        refine same.wr ?_ (fun x y p => by unfold PFau at p; omega)
        refine same.wr ?_ (fun x y p => by unfold PFau at p; omega)
        refine same.wr ?_ (fun x y p => by unfold PFau at p; omega)
        refine same.wr ?_ (fun x y p => by unfold PFau at p; omega)
        refine same.wr ?_ (fun x y p => by unfold PFau at p; omega)
        refine same.wr ?_ (fun x y p => by unfold PFau at p; omega)
        refine same.wr ?_ (fun x y p => by unfold PFau at p; omega)
        refine same.wr ?_ (fun x y p => by unfold PFau at p; omega)
        refine same.wr ?_ (fun x y p => by unfold PFau at p; omega)
        refine same.wr ?_ (fun x y p => by unfold PFau at p; omega)
        refine same.wr ?_ (fun x y p => by unfold PFau at p; omega)
        exact same.rf
      case clk =>
          refine ⟨?_, ?_, ?_, ?_, ?_, ?_⟩
          · simp only [rd_wr]; simp; omega
          · simp only [rd_wr]; simp; omega
          · simp only [rd_wr]; simp; omega
          · simp only [rd_wr]; simp; omega
          · simp only [rd_wr]; simp; omega
          · omega
      case slo =>
        refine RSlo.mv L (pLe.tr (pLe.tr (pLe.tr (pLe.tr (pLe.tr (pLe.tr (pLe.tr (pLe.tr (pLe.tr (pLe.tr (pLe.tr (pLe.tr (pLe.wr _ (by decide)) (pLe.wr _ (by decide))) (pLe.wr _ (by decide))) (pLe.wr _ (by decide))) (pLe.wr _ (by decide))) (pLe.wr _ (by decide))) (pLe.wr _ (by decide))) (pLe.wr _ (by decide))) (pLe.wr _ (by decide))) (pLe.wr _ (by decide))) (pLe.wr _ (by decide))) (pLe.wr _ (by decide))) (pLe.wr _ (by decide))) ?_
        refine same.wr ?_ (fun x y p => by unfold PSlo at p; omega)
        refine same.wr ?_ (fun x y p => by unfold PSlo at p; omega)
        refine same.wr ?_ (fun x y p => by unfold PSlo at p; omega)
        refine same.wr ?_ (fun x y p => by unfold PSlo at p; omega)
        refine same.wr ?_ (fun x y p => by unfold PSlo at p; omega)
        refine same.wr ?_ (fun x y p => by unfold PSlo at p; omega)
        refine same.wr ?_ (fun x y p => by unfold PSlo at p; omega)
        refine same.wr ?_ (fun x y p => by unfold PSlo at p; omega)
        refine same.wr ?_ (fun x y p => by unfold PSlo at p; omega)
        refine same.wr ?_ (fun x y p => by unfold PSlo at p; omega)
        refine same.wr ?_ (fun x y p => by unfold PSlo at p; omega)
        refine same.wr ?_ (fun x y p => by unfold PSlo at p; omega)
        refine same.wr ?_ (fun x y p => by unfold PSlo at p; omega)
        exact same.rf
      case win =>
          refine ⟨?_, ?_, ?_, fun j h0 h1 => ?_⟩
          · simp only [rd_wr]; simp
          · simp only [rd_wr]; simp; omega
          · simp only [rd_wr]; simp; omega
          · have hc : j < rd σ 68 51 + 1 := by simpa [rd_wr] using h1
            by_cases hj : j = rd σ 68 51
            · subst hj
              simp only [rd_wr]
              simp
              omega
            · have := w4 j h0 (by omega)
              simp only [rd_wr]
              simp [hj]
              omega
      case pas =>
        refine RPas.mv P ?_
        refine same.wr ?_ (fun x y p => by unfold PPas at p; omega)
        refine same.wr ?_ (fun x y p => by unfold PPas at p; omega)
        refine same.wr ?_ (fun x y p => by unfold PPas at p; omega)
        refine same.wr ?_ (fun x y p => by unfold PPas at p; omega)
        refine same.wr ?_ (fun x y p => by unfold PPas at p; omega)
        refine same.wr ?_ (fun x y p => by unfold PPas at p; omega)
        refine same.wr ?_ (fun x y p => by unfold PPas at p; omega)
        refine same.wr ?_ (fun x y p => by unfold PPas at p; omega)
        refine same.wr ?_ (fun x y p => by unfold PPas at p; omega)
        refine same.wr ?_ (fun x y p => by unfold PPas at p; omega)
        refine same.wr ?_ (fun x y p => by unfold PPas at p; omega)
        refine same.wr ?_ (fun x y p => by unfold PPas at p; omega)
        refine same.wr ?_ (fun x y p => by unfold PPas at p; omega)
        exact same.rf
      case ski =>
        refine RSki.mv K (pLe.tr (pLe.tr (pLe.tr (pLe.tr (pLe.tr (pLe.tr (pLe.tr (pLe.tr (pLe.tr (pLe.tr (pLe.tr (pLe.tr (pLe.wr _ (by decide)) (pLe.wr _ (by decide))) (pLe.wr _ (by decide))) (pLe.wr _ (by decide))) (pLe.wr _ (by decide))) (pLe.wr _ (by decide))) (pLe.wr _ (by decide))) (pLe.wr _ (by decide))) (pLe.wr _ (by decide))) (pLe.wr _ (by decide))) (pLe.wr _ (by decide))) (pLe.wr _ (by decide))) (pLe.wr _ (by decide))) ?_ (fun j h0 h1 h2 => by rw [rd_wr_n (by omega)]; rw [rd_wr_n (by omega)]; rw [rd_wr_n (by omega)]; rw [rd_wr_n (by omega)]; rw [rd_wr_n (by omega)]; rw [rd_wr_n (by omega)]; rw [rd_wr_n (by omega)]; rw [rd_wr_n (by omega)]; rw [rd_wr_n (by omega)]; rw [rd_wr_n (by omega)]; rw [rd_wr_n (by omega)]; rw [rd_wr_n (by omega)]; rw [rd_wr_n (by omega)])
        refine same.wr ?_ (fun x y p => by unfold PSki at p; omega)
        refine same.wr ?_ (fun x y p => by unfold PSki at p; omega)
        refine same.wr ?_ (fun x y p => by unfold PSki at p; omega)
        refine same.wr ?_ (fun x y p => by unfold PSki at p; omega)
        refine same.wr ?_ (fun x y p => by unfold PSki at p; omega)
        refine same.wr ?_ (fun x y p => by unfold PSki at p; omega)
        refine same.wr ?_ (fun x y p => by unfold PSki at p; omega)
        refine same.wr ?_ (fun x y p => by unfold PSki at p; omega)
        refine same.wr ?_ (fun x y p => by unfold PSki at p; omega)
        refine same.wr ?_ (fun x y p => by unfold PSki at p; omega)
        refine same.wr ?_ (fun x y p => by unfold PSki at p; omega)
        refine same.wr ?_ (fun x y p => by unfold PSki at p; omega)
        refine same.wr ?_ (fun x y p => by unfold PSki at p; omega)
        exact same.rf
      case cro =>
        refine RCro.mv R ?_
        refine same.wr ?_ (fun x y p => by unfold PCro at p; omega)
        refine same.wr ?_ (fun x y p => by unfold PCro at p; omega)
        refine same.wr ?_ (fun x y p => by unfold PCro at p; omega)
        refine same.wr ?_ (fun x y p => by unfold PCro at p; omega)
        refine same.wr ?_ (fun x y p => by unfold PCro at p; omega)
        refine same.wr ?_ (fun x y p => by unfold PCro at p; omega)
        refine same.wr ?_ (fun x y p => by unfold PCro at p; omega)
        refine same.wr ?_ (fun x y p => by unfold PCro at p; omega)
        refine same.wr ?_ (fun x y p => by unfold PCro at p; omega)
        refine same.wr ?_ (fun x y p => by unfold PCro at p; omega)
        refine same.wr ?_ (fun x y p => by unfold PCro at p; omega)
        refine same.wr ?_ (fun x y p => by unfold PCro at p; omega)
        refine same.wr ?_ (fun x y p => by unfold PCro at p; omega)
        exact same.rf
      case day =>
        refine RDay.mv D ?_
        refine same.wr ?_ (fun x y p => by unfold PDay at p; omega)
        refine same.wr ?_ (fun x y p => by unfold PDay at p; omega)
        refine same.wr ?_ (fun x y p => by unfold PDay at p; omega)
        refine same.wr ?_ (fun x y p => by unfold PDay at p; omega)
        refine same.wr ?_ (fun x y p => by unfold PDay at p; omega)
        refine same.wr ?_ (fun x y p => by unfold PDay at p; omega)
        refine same.wr ?_ (fun x y p => by unfold PDay at p; omega)
        refine same.wr ?_ (fun x y p => by unfold PDay at p; omega)
        refine same.wr ?_ (fun x y p => by unfold PDay at p; omega)
        refine same.wr ?_ (fun x y p => by unfold PDay at p; omega)
        refine same.wr ?_ (fun x y p => by unfold PDay at p; omega)
        refine same.wr ?_ (fun x y p => by unfold PDay at p; omega)
        refine same.wr ?_ (fun x y p => by unfold PDay at p; omega)
        exact same.rf
      case ext =>
        refine RExt.bump E (pLe.tr (pLe.tr (pLe.tr (pLe.tr (pLe.tr (pLe.tr (pLe.tr (pLe.tr (pLe.tr (pLe.tr (pLe.tr (pLe.tr (pLe.wr _ (by decide)) (pLe.wr _ (by decide))) (pLe.wr _ (by decide))) (pLe.wr _ (by decide))) (pLe.wr _ (by decide))) (pLe.wr _ (by decide))) (pLe.wr _ (by decide))) (pLe.wr _ (by decide))) (pLe.wr _ (by decide))) (pLe.wr _ (by decide))) (pLe.wr _ (by decide))) (pLe.wr _ (by decide))) (pLe.wr _ (by decide))) (by simp only [rd_wr]; simp) ?_ (fun a i q => by rw [rd_wr_n (by omega)]; rw [rd_wr_n (by omega)]; rw [rd_wr_n (by omega)]; rw [rd_wr_n (by omega)]; rw [rd_wr_n (by omega)]; rw [rd_wr_n (by omega)]; rw [rd_wr_n (by omega)]; rw [rd_wr_n (by omega)]; rw [rd_wr_n (by omega)]; rw [rd_wr_n (by omega)]; rw [rd_wr_n (by omega)]; rw [rd_wr_n (by omega)]; rw [rd_wr_n (by omega)])
        refine same.wr ?_ (fun x y p => by unfold PLsw at p; omega)
        refine same.wr ?_ (fun x y p => by unfold PLsw at p; omega)
        refine same.wr ?_ (fun x y p => by unfold PLsw at p; omega)
        refine same.wr ?_ (fun x y p => by unfold PLsw at p; omega)
        refine same.wr ?_ (fun x y p => by unfold PLsw at p; omega)
        refine same.wr ?_ (fun x y p => by unfold PLsw at p; omega)
        refine same.wr ?_ (fun x y p => by unfold PLsw at p; omega)
        refine same.wr ?_ (fun x y p => by unfold PLsw at p; omega)
        refine same.wr ?_ (fun x y p => by unfold PLsw at p; omega)
        refine same.wr ?_ (fun x y p => by unfold PLsw at p; omega)
        refine same.wr ?_ (fun x y p => by unfold PLsw at p; omega)
        refine same.wr ?_ (fun x y p => by unfold PLsw at p; omega)
        refine same.wr ?_ (fun x y p => by unfold PLsw at p; omega)
        exact same.rf
  · intro c1 c2 c3
    have := vWithin_t c1
    have := vWithin_t c2
    have := vWithin_f c3
    refine g_X11_weather_0 (by omega) S x1 x2 x3 ?_ ?_ ?_ ?_ ?_ ?_ ?_ ?_ ?_ ?_ ?_ ?_ ?_ <;> first | (intros; omega) | (intros; exact ⟨rfl, H⟩)
