/-! simple calls: class and reference one behind the other -/
def RB (n : Nat) (σ : pS) : Prop := Stat σ ∧ RSz n σ ∧ RTap σ ∧ RFau σ ∧ RClk n σ ∧ RSlo σ ∧ RWin σ ∧ RPas σ ∧ RSki σ ∧ RCro σ ∧ RDay σ
theorem RClk.up {n : Nat} {σ : pS} (h : RClk n σ) (hn : n < 512) : RClk (n + 1) σ := by
  unfold RClk at *
  omega
theorem RSz.up {n : Nat} {σ τ : pS} (h : RSz n σ) (e : τ.1 = σ.1) : RSz (n + 1) τ := by
  unfold RSz pSz at *
  rw [e]
  omega
theorem RB.up {n : Nat} {σ : pS} (h : RB n σ) (hn : n < 512) : RB (n + 1) σ := ⟨h.1, h.2.1.up rfl, h.2.2.1, h.2.2.2.1, h.2.2.2.2.1.up hn, h.2.2.2.2.2⟩
theorem op_end {n d : Nat} {σ : pS} (hd : 100 ≤ d) (h : RB n σ) (hn : n < 512) {x1 : Int} (h1 : inR x1) : pC mX10_end d [(2, 0), (0, x1)] σ (fun r τ => pC mX11_end d [(2, 68), (0, x1)] τ (fun q υ => q = r ∧ RB (n + 1) υ)) := by
  have H := RB.up h hn
  obtain ⟨S, Z, T, F, C, L, W, P, K, R, D⟩ := h
  obtain ⟨t1, t2, t3, t4⟩ := id T
  refine g_X10_end_0 (by omega) S x1 h1 ?_ ?_ ?_ ?_
  · intro c1
    refine g_X11_end_0 (by omega) S x1 h1 ?_ ?_ ?_ ?_ <;> first | (intros; omega) | (intros; exact ⟨rfl, H⟩)
  · intros; omega
  · intro c1 c2
    have q : rd (wr σ 0 1 x1) 68 1 = rd σ 68 1 := rd_wr_a _ (by decide)
    refine g_X11_end_0 (by omega) S.wr x1 h1 ?_ ?_ ?_ ?_
    · intros; omega
    · intros; omega
    · intro c3 c4
      refine ⟨rfl, ?_⟩
      refine ⟨S, Z.up rfl, ?tap, ?fau, ?clk, ?slo, ?win, ?pas, ?ski, ?cro, ?day⟩
      case tap =>
          refine ⟨?_, ?_, ?_, fun i h0 h1 => ?_⟩
          · rw [rd_wr_same, rd_wr_a _ (by decide), rd_wr_same]
          · rw [rd_wr_same]; omega
          · rw [rd_wr_same]; omega
          · rw [rd_wr_n (by omega), rd_wr_n (by omega), rd_wr_n (by omega), rd_wr_n (by omega)]; exact t4 i h0 h1
      case fau =>
        refine RFau.mv F ?_
        refine same.wr ?_ (fun x y p => by unfold PFau at p; omega)
        refine same.wr ?_ (fun x y p => by unfold PFau at p; omega)
        exact same.rf
      case clk =>
        refine RClk.up (RClk.mv C ?_) hn
        refine same.wr ?_ (fun x y p => by unfold PClk at p; omega)
        refine same.wr ?_ (fun x y p => by unfold PClk at p; omega)
        exact same.rf
      case slo =>
        refine RSlo.mv L (pLe.tr (pLe.wr _ (by decide)) (pLe.wr _ (by decide))) ?_
        refine same.wr ?_ (fun x y p => by unfold PSlo at p; omega)
        refine same.wr ?_ (fun x y p => by unfold PSlo at p; omega)
        exact same.rf
      case win =>
        refine RWin.mv W ?_
        refine same.wr ?_ (fun x y p => by unfold PWin at p; omega)
        refine same.wr ?_ (fun x y p => by unfold PWin at p; omega)
        exact same.rf
      case pas =>
        refine RPas.mv P ?_
        refine same.wr ?_ (fun x y p => by unfold PPas at p; omega)
        refine same.wr ?_ (fun x y p => by unfold PPas at p; omega)
        exact same.rf
      case ski =>
        refine RSki.mv K (pLe.tr (pLe.wr _ (by decide)) (pLe.wr _ (by decide))) ?_ (fun j h0 h1 h2 => by rw [rd_wr_n (by omega)]; rw [rd_wr_n (by omega)])
        refine same.wr ?_ (fun x y p => by unfold PSki at p; omega)
        refine same.wr ?_ (fun x y p => by unfold PSki at p; omega)
        exact same.rf
      case cro =>
        refine RCro.mv R ?_
        refine same.wr ?_ (fun x y p => by unfold PCro at p; omega)
        refine same.wr ?_ (fun x y p => by unfold PCro at p; omega)
        exact same.rf
      case day =>
        refine RDay.mv D ?_
        refine same.wr ?_ (fun x y p => by unfold PDay at p; omega)
        refine same.wr ?_ (fun x y p => by unfold PDay at p; omega)
        exact same.rf
    · intros; omega
  · intro c1 c2
    refine g_X11_end_0 (by omega) S x1 h1 ?_ ?_ ?_ ?_ <;> first | (intros; omega) | (intros; exact ⟨rfl, H⟩)
theorem op_fault {n d : Nat} {σ : pS} (hd : 100 ≤ d) (h : RB n σ) (hn : n < 512) {x1 : Int} (h1 : inR x1) : pC mX10_fault d [(2, 0), (0, x1)] σ (fun r τ => pC mX11_fault d [(2, 68), (0, x1)] τ (fun q υ => q = r ∧ RB (n + 1) υ)) := by
  have H := RB.up h hn
  obtain ⟨S, Z, T, F, C, L, W, P, K, R, D⟩ := h
  refine g_X10_fault_0 (by omega) S x1 h1 ?_ ?_ ?_
  · intros
    refine g_X11_fault_0 (by omega) S x1 h1 ?_ ?_ ?_ <;> first | (intros; omega) | (intros; exact ⟨rfl, H⟩)
  · intros
    refine g_X11_fault_0 (by omega) S x1 h1 ?_ ?_ ?_ <;> first | (intros; omega) | (intros; exact ⟨by rw [F.2], H⟩)
  · intros
    refine g_X11_fault_0 (by omega) S x1 h1 ?_ ?_ ?_ <;> first | (intros; omega) | (intros; exact ⟨by rw [F.1], H⟩)
theorem op_later {n d : Nat} {σ : pS} (hd : 100 ≤ d) (h : RB n σ) (hn : n < 512) {x1 : Int} (h1 : inR x1) : pC mX10_later d [(2, 0), (0, x1)] σ (fun r τ => pC mX11_later d [(2, 68), (0, x1)] τ (fun q υ => q = r ∧ RB (n + 1) υ)) := by
  have H := RB.up h hn
  obtain ⟨S, Z, T, F, C, L, W, P, K, R, D⟩ := h
  obtain ⟨t1, t2, t3, t4, t5, t6⟩ := id C
  refine g_X10_later_0 (by omega) S x1 h1 ?_ ?_ ?_ ?_ ?_
  · intros
    refine g_X11_later_0 (by omega) S x1 h1 ?_ ?_ ?_ ?_ ?_ <;> first | (intros; omega) | (intros; exact ⟨rfl, H⟩)
  · intros
    refine g_X11_later_0 (by omega) S x1 h1 ?_ ?_ ?_ ?_ ?_ <;> first | (intros; omega) | (intros; exact ⟨rfl, H⟩)
  · intros; omega
  · intro c1 c2 c3
    have q : rd (wr σ 0 5 (rd σ 0 5 + x1)) 68 52 = rd σ 68 52 := rd_wr_a _ (by decide)
    refine g_X11_later_0 (by omega) S.wr x1 h1 ?_ ?_ ?_ ?_ ?_
    · intros; omega
    · intros; omega
    · intros; omega
    · intro c3 c4 c5
      refine ⟨by rw [q, t1], ?_⟩
      rw [q]
      refine ⟨S, Z.up rfl, ?tap, ?fau, ?clk, ?slo, ?win, ?pas, ?ski, ?cro, ?day⟩
      case tap =>
        refine RTap.mv T ?_
        refine same.wr ?_ (fun x y p => by unfold PTap at p; omega)
        refine same.wr ?_ (fun x y p => by unfold PTap at p; omega)
        exact same.rf
      case fau =>
        refine RFau.mv F ?_
        refine same.wr ?_ (fun x y p => by unfold PFau at p; omega)
        refine same.wr ?_ (fun x y p => by unfold PFau at p; omega)
        exact same.rf
      case clk =>
          refine ⟨?_, ?_, ?_, ?_, ?_, ?_⟩
          · rw [rd_wr_same, rd_wr_a _ (by decide), rd_wr_same]; omega
          · rw [rd_wr_same]; omega
          · rw [rd_wr_same]; omega
          · rw [rd_wr_n (by omega), rd_wr_n (by omega)]; omega
          · rw [rd_wr_n (by omega), rd_wr_n (by omega)]; omega
          · omega
      case slo =>
        refine RSlo.mv L (pLe.tr (pLe.wr _ (by decide)) (pLe.wr _ (by decide))) ?_
        refine same.wr ?_ (fun x y p => by unfold PSlo at p; omega)
        refine same.wr ?_ (fun x y p => by unfold PSlo at p; omega)
        exact same.rf
      case win =>
        refine RWin.mv W ?_
        refine same.wr ?_ (fun x y p => by unfold PWin at p; omega)
        refine same.wr ?_ (fun x y p => by unfold PWin at p; omega)
        exact same.rf
      case pas =>
        refine RPas.mv P ?_
        refine same.wr ?_ (fun x y p => by unfold PPas at p; omega)
        refine same.wr ?_ (fun x y p => by unfold PPas at p; omega)
        exact same.rf
      case ski =>
        refine RSki.mv K (pLe.tr (pLe.wr _ (by decide)) (pLe.wr _ (by decide))) ?_ (fun j h0 h1 h2 => by rw [rd_wr_n (by omega)]; rw [rd_wr_n (by omega)])
        refine same.wr ?_ (fun x y p => by unfold PSki at p; omega)
        refine same.wr ?_ (fun x y p => by unfold PSki at p; omega)
        exact same.rf
      case cro =>
        refine RCro.mv R ?_
        refine same.wr ?_ (fun x y p => by unfold PCro at p; omega)
        refine same.wr ?_ (fun x y p => by unfold PCro at p; omega)
        exact same.rf
      case day =>
        refine RDay.mv D ?_
        refine same.wr ?_ (fun x y p => by unfold PDay at p; omega)
        refine same.wr ?_ (fun x y p => by unfold PDay at p; omega)
        exact same.rf
    · intros; omega
  · intros
    refine g_X11_later_0 (by omega) S x1 h1 ?_ ?_ ?_ ?_ ?_ <;> first | (intros; omega) | (intros; exact ⟨rfl, H⟩)
