/-! the reference's know -/
def opN (σ : pS) (k w : Int) : Nat → Int
  | 0 => -1
  | j + 1 => if vWay (rd σ 68 30) (rd σ 68 31) w = true ∧ openS σ k w (480 - (j : Int)) = true then 480 - (j : Int) else opN σ k w j
/-- the first minute from m on at which a way is open; -1 -/
def nextOpen (σ : pS) (k w m : Int) : Int := opN σ k w (481 - m).toNat
def knFr (σ τ : pS) : Prop := τ.1 = σ.1 ∧ ∀ a i : Int, ¬ (101 ≤ a ∧ a ≤ 105) → rd τ a i = rd σ a i
theorem knFr.wr {σ τ : pS} {a i v : Int} (h : knFr σ τ) (ha : 101 ≤ a ∧ a ≤ 105) : knFr σ (wr τ a i v) := ⟨h.1, fun b j p => by rw [rd_wr_n (by omega)]; exact h.2 b j p⟩
theorem knFr.q {σ τ υ : pS} (h : knFr σ τ) (q : qRow τ υ 103) : knFr σ υ := ⟨q.1.trans h.1, fun b j p => (q.2 b j (by omega)).trans (h.2 b j p)⟩
def knA (σ : pS) (k : Int) (τ : pS) : Prop := knFr σ τ ∧ ∀ h : Int, 0 ≤ h → h < 8 → rd τ 101 h = wWind σ k h.toNat ∧ rd τ 102 h = wFresh σ k h
theorem knA.wr {σ τ : pS} {k a i v : Int} (h : knA σ k τ) (ha : 103 ≤ a ∧ a ≤ 105) : knA σ k (wr τ a i v) := ⟨h.1.wr (by omega), fun r r0 r1 => by rw [rd_wr_n (by omega), rd_wr_n (by omega)]; exact h.2 r r0 r1⟩
theorem knA.q {σ τ υ : pS} {k : Int} (h : knA σ k τ) (q : qRow τ υ 103) : knA σ k υ := ⟨h.1.q q, fun r r0 r1 => by rw [q.2 _ _ (by omega), q.2 _ _ (by omega)]; exact h.2 r r0 r1⟩
def knS (σ : pS) (k w : Int) (n : Nat) (τ : pS) : Prop := ∀ h : Int, 0 ≤ h → h < (n : Int) → rd τ 105 (8 * w + h) = b2i (shutS σ k w h)
def knO (σ : pS) (k w : Int) (j : Nat) (τ : pS) : Prop := ∀ m : Int, 480 - (j : Int) < m → m ≤ 481 → rd τ 104 (482 * w + m) = nextOpen σ k w m
def knW (σ : pS) (k : Int) (n : Nat) (τ : pS) : Prop := knA σ k τ ∧ ∀ w : Int, 0 ≤ w → w < (n : Int) → knS σ k w 8 τ ∧ knO σ k w 481 τ
/-- behind the reference's know -/
def knowD (σ : pS) (k : Int) (τ : pS) : Prop := knW σ k 13 τ
theorem sumF_cg {f g : Int → Int} {n : Nat} (h : ∀ i : Int, 0 ≤ i → i < (n : Int) → f i = g i) : sumF f n = sumF g n := by
  induction n with
  | zero => rfl
  | succ n ih =>
    show sumF f n + f (n : Int) = sumF g n + g (n : Int)
    rw [ih (fun i i0 i1 => h i i0 (by omega)), h (n : Int) (by omega) (by omega)]
theorem vVal_uM {σ τ : pS} {k w h : Int} (i : knA σ k τ) (hh : 0 ≤ h ∧ h < 8) : (fun a n => vVal τ a n w h) = (fun a n => uM σ k w h a n) := by
  funext a n
  obtain ⟨i1, i2⟩ := i
  unfold vVal uM
  rw [(i2 h hh.1 hh.2).1, (i2 h hh.1 hh.2).2, i1.2 81 w (by omega), i1.2 80 w (by omega), i1.2 79 w (by omega), sumF_cg (f := fun i => rd τ 102 i) (g := fun i => wFresh σ k i) (fun i i0 i1 => (i2 i i0 (by omega)).2)]
theorem vOn_kn {σ τ : pS} (i : knFr σ τ) (w m : Int) : vOn τ w m = vOn σ w m := by
  unfold vOn
  rw [i.2 81 w (by omega), i.2 82 w (by omega)]
theorem vOpenM_kn {σ τ : pS} {k w m : Int} (i : knFr σ τ) (s : knS σ k w 8 τ) (hm : 0 ≤ m) : vOpenM τ w m = openS σ k w m := by
  have r := vHour_R hm
  have e := s (vHour m) r.1 (by omega)
  unfold vOpenM openS
  rw [e, vOn_kn i]
  cases vOn σ w m <;> cases shutS σ k w (vHour m) <;> rfl
theorem know_m {d : Nat} {σ : pS} {Q : Option pV → pS → Prop} (hd : 2 ≤ d) (S : Stat σ) (L : RSlo σ) {k : Int} (w : Nat) (hw : w < 13) (K : ∀ τ : pS, knW σ k (w + 1) τ → pR mX11_know d 7 [(2, 68), (0, k), (0, (w : Int) + 1), (0, -1)] [] τ Q) :
    ∀ (r j : Nat) (τ : pS), j + r = 481 → knW σ k w τ → knS σ k (w : Int) 8 τ → knO σ k (w : Int) j τ → pR mX11_know d 90 [(2, 68), (0, k), (0, (w : Int)), (0, 480 - (j : Int))] [] τ Q := by
  obtain ⟨l0, l1, l2, l3, l4, l5, l6, l7, l8, l9, l10, l11, l12⟩ := id L
  intro r
  induction r with
  | zero =>
    intro j τ hj i s o
    have e : j = 481 := by omega
    subst e
    refine g_X11_know_90 hd (S.eq i.1.1.1) k (w : Int) _ (by omega) (fun _ => K τ ⟨i.1, fun w' w0 w1 => ?_⟩) (fun c => by omega) (fun c => by omega) (fun c => by omega) (fun c => by omega) (fun c => by omega) (fun c => by omega) (fun c => by omega) (fun c => by omega) (fun c => by omega) (fun c => by omega)
    by_cases c : w' = (w : Int)
    · subst c; exact ⟨s, o⟩
    · exact i.2 w' w0 (by omega)
  | succ r ih =>
    intro j τ hj i s o
    have fr := i.1.1
    have n30 : rd τ 68 30 = rd σ 68 30 := fr.2 _ _ (by omega)
    have n31 : rd τ 68 31 = rd σ 68 31 := fr.2 _ _ (by omega)
    have em : ((480 : Int) - (j : Int)) = ((480 - j : Nat) : Int) := by omega
    have nx : nextOpen σ k (w : Int) (480 - (j : Int)) = if vWay (rd σ 68 30) (rd σ 68 31) (w : Int) = true ∧ openS σ k (w : Int) (480 - (j : Int)) = true then 480 - (j : Int) else opN σ k (w : Int) j := by
      unfold nextOpen
      rw [show (481 - ((480 : Int) - (j : Int))).toNat = j + 1 by omega]
      rfl
    have oj : rd τ 104 (482 * (w : Int) + (480 - (j : Int)) + 1) = opN σ k (w : Int) j := by
      have := o (480 - (j : Int) + 1) (by omega) (by omega)
      rw [show 482 * (w : Int) + (480 - (j : Int)) + 1 = 482 * (w : Int) + (480 - (j : Int) + 1) by omega, this]
      unfold nextOpen
      rw [show (481 - ((480 : Int) - (j : Int) + 1)).toNat = j by omega]
    have go : ∀ v : Int, v = nextOpen σ k (w : Int) (480 - (j : Int)) → pR mX11_know d 90 [(2, 68), (0, k), (0, (w : Int)), (0, 480 - (j : Int) + (-1))] [] (wr τ 104 (482 * (w : Int) + (480 - (j : Int))) v) Q := fun v hv => by
      have := ih (j + 1) (wr τ 104 (482 * (w : Int) + (480 - (j : Int))) v) (by omega) ⟨i.1.wr (by omega), fun w' w0 w1 => ⟨fun h h0 h1 => ?_, fun m m0 m1 => ?_⟩⟩ (fun h h0 h1 => ?_) (fun m m0 m1 => ?_)
      · rw [show (480 : Int) - (j : Int) + (-1) = 480 - ((j + 1 : Nat) : Int) by omega]
        exact this
      · rw [rd_wr_n (by omega)]; exact (i.2 w' w0 w1).1 h h0 h1
      · rw [rd_wr_n (by omega)]; exact (i.2 w' w0 w1).2 m m0 m1
      · rw [rd_wr_n (by omega)]; exact s h h0 h1
      · by_cases c : m = 480 - (j : Int)
        · subst c; rw [rd_wr_same]; exact hv
        · rw [rd_wr_n (by omega)]; exact o m (by omega) m1
    refine g_X11_know_90 hd (S.eq fr.1) k (w : Int) _ (by omega) (fun c => by omega) (fun _ => isWay_C (S.eq fr.1) (by omega) (by rw [n30]; exact l3) (by rw [n31]; exact l5)) (fun _ _ => by omega) (fun _ _ => by omega) (fun _ c => go _ ?_) (fun _ c => isOpenAt_C (by omega) (S.eq fr.1) (by omega) (by omega) (fun q => ?_) (fun q => ?_) ?_) (fun _ _ _ => by omega) (fun _ _ _ => by omega) (fun _ c c2 => go _ ?_) (fun _ _ _ => by omega) (fun _ c c2 => go _ ?_)
    · rw [n30, n31] at c
      rw [oj, nx, c]
      simp
    · rw [n30, n31] at c
      have t := vWay_t c
      have := l10 (w : Int) (by omega) (by omega)
      rw [fr.2 81 _ (by omega)]
      unfold inR; omega
    · rw [n30, n31] at c
      have t := vWay_t c
      have := l10 (w : Int) (by omega) (by omega)
      rw [fr.2 82 _ (by omega)]
      unfold inR; omega
    · have hr := vHour_R (m := 480 - (j : Int)) (by omega)
      rw [s _ hr.1 (by omega)]
      exact b2i_R _
    · rw [vOpenM_kn fr s (by omega)] at c2
      rw [oj, nx, c2]
      simp
    · rw [n30, n31] at c
      rw [vOpenM_kn fr s (by omega)] at c2
      rw [nx, c, c2]
      simp
theorem know_h {d : Nat} {σ : pS} {Q : Option pV → pS → Prop} (hd : 2 ≤ d) (S : Stat σ) (W : RWin σ) (L : RSlo σ) (A : RLaw σ) {k : Int} (w : Nat) (hw : w < 13) (K : ∀ τ : pS, knW σ k (w + 1) τ → pR mX11_know d 7 [(2, 68), (0, k), (0, (w : Int) + 1), (0, -1)] [] τ Q) :
    ∀ (r h : Nat) (τ : pS), h + r = 8 → knW σ k w τ → knS σ k (w : Int) h τ → pR mX11_know d 15 [(2, 68), (0, k), (0, (w : Int)), (0, (h : Int))] [] τ Q := by
  obtain ⟨l0, l1, l2, l3, l4, l5, l6, l7, l8, l9, l10, l11, l12⟩ := id L
  intro r
  induction r with
  | zero =>
    intro h τ hh i s
    have e : h = 8 := by omega
    subst e
    refine g_X11_know_15 (Q1 := fun _ _ => True) (Q2 := fun _ _ => True) hd (S.eq i.1.1.1) k (w : Int) _ (by omega) (fun _ => by omega) (fun _ => ?_) (fun c => by omega) (fun c => by omega) (fun c => by omega) (fun c => by omega) (fun c => by omega) (fun c => by omega) (fun c => by omega) (fun c => by omega) (fun c => by omega) (fun c => by omega) (fun c => by omega) (fun c => by omega) (fun c => by omega) (fun c => by omega) (fun c => by omega) (fun c => by omega)
    refine know_m hd S L w hw K 481 0 _ (by omega) ⟨i.1.wr (by omega), fun w' w0 w1 => ⟨fun h h0 h1 => ?_, fun m m0 m1 => ?_⟩⟩ (fun h h0 h1 => ?_) (fun m m0 m1 => ?_)
    · rw [rd_wr_n (by omega)]; exact (i.2 w' w0 w1).1 h h0 h1
    · rw [rd_wr_n (by omega)]; exact (i.2 w' w0 w1).2 m m0 m1
    · rw [rd_wr_n (by omega)]; exact s h h0 h1
    · have e : m = 481 := by omega
      subst e
      rw [rd_wr_same]
      rfl
  | succ r ih =>
    intro h τ hh i s
    have fr := i.1.1
    have n30 : rd τ 68 30 = rd σ 68 30 := fr.2 _ _ (by omega)
    have n31 : rd τ 68 31 = rd σ 68 31 := fr.2 _ _ (by omega)
    have go : ∀ (υ : pS) (v : Int), (υ = τ ∨ qRow τ υ 103) → v = b2i (shutS σ k (w : Int) (h : Int)) → pR mX11_know d 15 [(2, 68), (0, k), (0, (w : Int)), (0, (h : Int) + 1)] [] (wr υ 105 (8 * (w : Int) + (h : Int)) v) Q := fun υ v hq hv => by
      have hq : qRow τ υ 103 := by
        rcases hq with rfl | hq
        · exact ⟨rfl, fun _ _ _ => rfl⟩
        · exact hq
      have := ih (h + 1) (wr υ 105 (8 * (w : Int) + (h : Int)) v) (by omega) ⟨(i.1.q hq).wr (by omega), fun w' w0 w1 => ⟨fun h' h0 h1 => ?_, fun m m0 m1 => ?_⟩⟩ (fun h' h0 h1 => ?_)
      · simpa using this
      · rw [rd_wr_n (by omega), hq.2 _ _ (by omega)]; exact (i.2 w' w0 w1).1 h' h0 h1
      · rw [rd_wr_n (by omega), hq.2 _ _ (by omega)]; exact (i.2 w' w0 w1).2 m m0 m1
      · by_cases c : h' = (h : Int)
        · subst c; rw [rd_wr_same]; exact hv
        · rw [rd_wr_n (by omega), hq.2 _ _ (by omega)]; exact s h' h0 (by omega)
    have a2 := A.2.2
    have eM : ∀ y, mList τ y = mList σ y := fun y => by
      unfold mList
      simp only [fr.2 89 _ (by omega), fr.2 90 _ (by omega), fr.2 91 _ (by omega), fr.2 92 _ (by omega), fr.2 94 _ (by omega)]
    have ev : (fun a n => vVal τ a n (w : Int) (h : Int)) = (fun a n => uM σ k (w : Int) (h : Int) a n) := vVal_uM i.1 (by omega)
    have hold : ∀ y : Int, y = (if (w : Int) < 6 then 0 else 1) → vWay (rd τ 68 30) (rd τ 68 31) (w : Int) = true → pC mX11_holds 1 [(2, 68), (0, y), (0, (w : Int)), (0, (h : Int))] τ (fun r υ => r = some (0, b2i (shutS σ k (w : Int) (h : Int))) ∧ qRow τ υ 103) := fun y hy c => by
      rw [n30, n31] at c
      have y0 : 0 ≤ y ∧ y < 2 := by rw [hy]; split <;> omega
      have := holds_C (w := (w : Int)) (h := (h : Int)) (O := mList σ y) (Nat.le_refl 1) (S.eq fr.1) y0 (by omega) (by omega) (by rw [← eM]; refine mList_seg ?_; rw [fr.2 94 _ (by omega), fr.2 91 _ (by omega), fr.2 92 _ (by omega)]; exact (a2 y y0.1 y0.2).1) (by rw [ev]; refine law_fineM (a2 y y0.1 y0.2).2 (fun a n n0 n1 _ _ q => uM_R W L c (by omega) n0 n1 (by rw [← hy]; exact q)))
      rw [ev] at this
      unfold shutS
      rw [c, Bool.true_and, ← hy]
      exact this
    refine g_X11_know_15 hd (S.eq fr.1) k (w : Int) _ (by omega) (fun c => by omega) (fun c => by omega) (fun _ => isWay_C (S.eq fr.1) (by omega) (by rw [n30]; exact l3) (by rw [n31]; exact l5)) (fun _ _ => by omega) (fun _ c => go τ _ (Or.inl rfl) ?_) (fun _ _ => by omega) (fun _ c c2 => hold 1 (by rw [if_neg (by omega)]) c) (fun _ _ _ v b _ _ _ => by omega) (fun _ _ _ v b _ _ _ _ => by omega) (fun _ c c2 v b υ e q c5 => go υ _ (Or.inr q.2) ?_) (fun _ _ _ v b _ _ _ _ => by omega) (fun _ c c2 v b υ e q c5 => go υ _ (Or.inr q.2) ?_) (fun _ c c2 => hold 0 (by rw [if_pos (by omega)]) c) (fun _ _ _ v b _ _ _ => by omega) (fun _ _ _ v b _ _ _ _ => by omega) (fun _ c c2 v b υ e q c5 => go υ _ (Or.inr q.2) ?_) (fun _ _ _ v b _ _ _ _ => by omega) (fun _ c c2 v b υ e q c5 => go υ _ (Or.inr q.2) ?_)
    · rw [n30, n31] at c
      unfold shutS
      rw [c]
      rfl
    · rw [← so_inj q.1, c5]
    · have := so_inj q.1; rw [← this]; omega
    · rw [← so_inj q.1, c5]
    · have := so_inj q.1; rw [← this]; omega
theorem know_C {d : Nat} {σ : pS} (hd : 2 ≤ d) (S : Stat σ) (W : RWin σ) (L : RSlo σ) (A : RLaw σ) {k : Int} (hk : inR k) : pC mX11_know d [(2, 68), (0, k)] σ (fun r τ => r = none ∧ knowD σ k τ) := by
  have loop : ∀ (r w : Nat) (τ : pS) (u : pV), u.1 ≠ 1 → w + r = 13 → knW σ k w τ → pR mX11_know d 7 [(2, 68), (0, k), (0, (w : Int)), u] [] τ (fun r τ => r = none ∧ knowD σ k τ) := by
    intro r
    induction r with
    | zero =>
      intro w τ u hu hw i
      have e : w = 13 := by omega
      subst e
      exact g_X11_know_7 hd (S.eq i.1.1.1) k _ u hu (by omega) (fun _ => ⟨rfl, i⟩) (fun c => by omega)
    | succ r ih =>
      intro w τ u hu hw i
      refine g_X11_know_7 hd (S.eq i.1.1.1) k _ u hu (by omega) (fun c => by omega) (fun _ => ?_)
      exact know_h hd S W L A w (by omega) (fun τ' i' => by
        have := ih (w + 1) τ' (0, -1) (show (0 : Nat) ≠ 1 by decide) (by omega) i'
        simpa using this) 8 0 τ (by omega) i (fun h h0 h1 => by omega)
  refine g_X11_know_0 hd S k (blow_C (by omega) S W hk) (fun τ1 e1 q1 => ?_)
  obtain ⟨-, i1, i2⟩ := q1
  refine loop 13 0 τ1 (9, 0) (by decide) (by omega) ⟨⟨⟨i1.1, fun a i p => i1.2 a i (by omega) (by omega)⟩, fun h h0 h1 => ?_⟩, fun w w0 w1 => by omega⟩
  have := i2 h.toNat (by omega)
  rw [show ((h.toNat : Nat) : Int) = h by omega] at this
  exact this
theorem RB.kn {n : Nat} {σ τ : pS} (h : RB n σ) (q : knFr σ τ) : RB n τ := by
  obtain ⟨S, Z, T, F, C, L, W, P, K, R, D, E⟩ := h
  obtain ⟨q1, q2⟩ := q
  have l0 := L.1
  have le : pLe σ τ := ⟨by rw [q1]; exact Nat.le_refl _, by unfold pSz; rw [q1]; exact Nat.le_refl _, fun a q h _ => by rw [ob_eq q1]; exact h, fun a i ha => q2 a i (by omega)⟩
  refine ⟨S.le le, ?_, T.mv ?_, F.mv ?_, C.mv ?_, L.mv le ?_, W.mv ?_, P.mv ?_, K.mv le ?_ (fun j h0 h1 h2 => q2 _ _ (by omega)), R.mv ?_, D.mv ?_, E.mv le ?_⟩
  · unfold RSz pSz at *
    rw [q1]
    exact Z
  all_goals
    intro x y p
    first
      | unfold PTap at p
      | unfold PFau at p
      | unfold PClk at p
      | unfold PSlo at p
      | unfold PWin at p
      | unfold PPas at p
      | unfold PSki at p
      | unfold PCro at p
      | unfold PDay at p
      | unfold PExt MF at p
    exact q2 _ _ (by omega)
