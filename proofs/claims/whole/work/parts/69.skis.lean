/-! the reference traces a skier -/
def TV (σ : pS) (k : Int) (τ : pS) : Prop := τ.1 = σ.1 ∧ (∀ a i : Int, ¬ (101 ≤ a ∧ a ≤ 105) → ¬ (113 ≤ a ∧ a ≤ 116) → rd τ a i = rd σ a i) ∧ ∀ w : Int, 0 ≤ w → w < 13 → knS σ k w 8 τ ∧ knO σ k w 481 τ
theorem TV.wr {σ τ : pS} {k a i v : Int} (h : TV σ k τ) (ha : 113 ≤ a ∧ a ≤ 116) : TV σ k (wr τ a i v) := ⟨h.1, fun b j p p2 => by rw [rd_wr_n (by omega)]; exact h.2.1 b j p p2, fun w w0 w1 => ⟨fun r r0 r1 => by rw [rd_wr_n (by omega)]; exact (h.2.2 w w0 w1).1 r r0 r1, fun m m0 m1 => by rw [rd_wr_n (by omega)]; exact (h.2.2 w w0 w1).2 m m0 m1⟩⟩
theorem TV.mf {σ τ : pS} {k : Int} (h : TV σ k τ) : same σ τ MF := fun a i p => h.2.1 a i (by unfold MF at p; omega) (by unfold MF at p; omega)
theorem TV.st {σ τ : pS} {k : Int} (h : TV σ k τ) (S : Stat σ) : Stat τ := S.eq h.1
theorem TV.le {σ τ : pS} {k : Int} (h : TV σ k τ) : pLe σ τ := ⟨by rw [h.1]; exact Nat.le_refl _, by unfold pSz; rw [h.1]; exact Nat.le_refl _, fun a q x _ => by rw [ob_eq h.1]; exact x, fun a i ha => h.2.1 a i (by omega) (by omega)⟩
theorem TV.slo {σ τ : pS} {k : Int} (h : TV σ k τ) (L : RSlo σ) : RSlo τ := by
  have l0 := L.1
  exact L.mv h.le (fun x y p => h.2.1 x y (by unfold PSlo at p; omega) (by unfold PSlo at p; omega))
theorem nextOpen_eq {σ τ : pS} (m : same σ τ MF) (k w t : Int) : nextOpen τ k w t = nextOpen σ k w t := opN_eq m k w _
theorem TV.rv {σ τ : pS} {k : Int} (h : TV σ k τ) : RV τ k τ := ⟨rfl, fun _ _ _ => rfl, fun w w0 w1 => ⟨fun r r0 r1 => by rw [shutS_eq h.mf]; exact (h.2.2 w w0 w1).1 r r0 r1, fun m m0 m1 => by rw [nextOpen_eq h.mf]; exact (h.2.2 w w0 w1).2 m m0 m1⟩⟩
theorem knowD.tv {σ τ : pS} {k : Int} (h : knowD σ k τ) : TV σ k τ := ⟨h.1.1.1, fun a i p _ => h.1.1.2 a i p, fun w w0 w1 => h.2 w w0 w1⟩
set_option maxHeartbeats 4000000 in
theorem starts_C {d : Nat} {τ : pS} (hd : 2 ≤ d) (S : Stat τ) (L : RSlo τ) {k : Int} (h : RV τ k τ) {s w m : Int} (hs : 0 ≤ s ∧ s < 8) (h107 : 0 ≤ rd τ 107 s ∧ rd τ 107 s < 4) (hw : 0 ≤ w ∧ w < 13) (hm : 0 ≤ m ∧ m ≤ 540) (h113 : inR (rd τ 113 m)) (h114 : inR (rd τ 114 (m + 1))) : pC mX11_starts d [(2, 68), (0, s), (0, w), (0, m)] τ (fun r υ => r = some (0, b2i (vStarts τ s w m)) ∧ υ = τ) := by
  have iw : ∀ {d : Nat}, pC mX11_isWay d [(2, 68), (0, w)] τ (fun r υ => r = some (0, b2i (vWay (rd τ 68 30) (rd τ 68 31) w)) ∧ υ = τ) := h.isWay_C S L (by omega)
  have mo : ∀ {d : Nat}, vWay (rd τ 68 30) (rd τ 68 31) w = true → pC mX11_minutesOf d [(2, 68), (0, rd τ 107 s), (0, w)] τ (fun r υ => r = some (0, minS τ (rd τ 107 s) w) ∧ υ = τ) := fun c => minutesOf_C S L h c h107
  have cg : ∀ {d : Nat}, 1 ≤ d → pC mX11_canGo d [(2, 68), (0, rd τ 107 s), (0, w)] τ (fun r υ => r = some (0, b2i (goS τ (rd τ 107 s) w)) ∧ υ = τ) := fun hd => canGo_C hd S L h hw h107
  have mR : vWay (rd τ 68 30) (rd τ 68 31) w = true → 1 ≤ minS τ (rd τ 107 s) w ∧ minS τ (rd τ 107 s) w ≤ 105 := fun c => by have := minS_R L (w := w) c h107; omega
  have hr := vHour_R hm.1
  have io : ∀ {d : Nat}, 1 ≤ d → vWay (rd τ 68 30) (rd τ 68 31) w = true → pC mX11_isOpenAt d [(2, 68), (0, w), (0, m)] τ (fun r υ => r = some (0, b2i (vOpenM τ w m)) ∧ υ = τ) := fun hd c => by
    have t := vWay_t c
    have l3 := L.2.2.2.1
    have l10 := L.2.2.2.2.2.2.2.2.2.2.1
    refine isOpenAt_C hd S hw (by omega) (fun q => ?_) (fun q => ?_) ?_
    · have := l10 w (by omega) (by omega); unfold inR; omega
    · have := l10 w (by omega) (by omega); unfold inR; omega
    · rw [(h.2.2 w hw.1 hw.2).1 _ hr.1 (by omega)]; exact b2i_R _
  have h84 : vWay (rd τ 68 30) (rd τ 68 31) w = true → w < 6 → rd τ 84 w = 0 ∨ rd τ 84 w = 1 := fun c c6 => by
    have t := vWay_t c
    have g := L.2.2.2.2.2.2.2.2.2.2.1 w (by omega) (by omega)
    have b := L.2.2.2.2.2.2.2.2.2.2.2.2 w (by omega) (by omega)
    rw [← g.2.2.2.2.2.2.2.2.1]
    exact b.2.2.2.2.2.2.2.2.2.2.1
  clear L
  refine g_X11_starts_0 hd S s w m ?_ ?_ (fun _ => iw) ?_ ?_ ?_ ?_ ?_ (fun _ c _ _ => mo c) ?_ ?_ ?_ (fun _ _ _ _ _ _ => cg (Nat.le_refl 1)) ?_ (fun _ c _ _ _ _ _ _ => io (Nat.le_refl 1) c) ?_ ?_ ?_ ?_ ?_ (fun _ c _ _ _ _ _ _ _ => io (Nat.le_refl 1) c) ?_ ?_ ?_ ?_ ?_ ?_ ?_ (fun _ c _ _ _ => mo c) ?_ ?_ (fun _ _ _ _ _ _ _ => cg (Nat.le_refl 1)) ?_ (fun _ c _ _ _ _ _ _ _ => io (Nat.le_refl 1) c) ?_ ?_ ?_ ?_ ?_ (fun _ c _ _ _ _ _ _ _ _ => io (Nat.le_refl 1) c) ?_ ?_ ?_ ?_ ?_ ?_
  all_goals
    try unfold vStarts
    intros
    first
      | omega
      | exact h113
      | exact h114
      | (have := mR (by assumption); unfold inR; omega)
      | (have := h84 (by assumption) (by assumption); unfold inR; omega)
      | (exfalso; omega)
      | exact ⟨b2i_zero (fun z => by omega), rfl⟩
      | exact ⟨b2i_zero (fun z => by simp_all), rfl⟩
      | (have := h84 (by assumption) (by assumption); exact ⟨b2i_zero (fun z => by rcases z.2.2.2.2 with z5 | ⟨z5, z6, z7⟩ <;> omega), rfl⟩)
      | exact ⟨b2i_zero (fun z => by rcases z.2.2.2.2 with z5 | ⟨z5, z6, z7⟩ <;> first | omega | simp_all), rfl⟩
      | exact ⟨b2i_one ⟨by assumption, by assumption, by omega, by assumption, Or.inl (by assumption)⟩, rfl⟩
      | exact ⟨b2i_one ⟨by assumption, by assumption, by omega, by assumption, Or.inr ⟨by assumption, by omega, by assumption⟩⟩, rfl⟩
theorem starts_eq {σ τ : pS} {k s w m : Int} (h : TV σ k τ) (hw : 0 ≤ w ∧ w < 13) (hm : 0 ≤ m) (h113 : rd τ 113 m = pAt σ k s m) (h114 : rd τ 114 (m + 1) = nextS σ k s (m + 1)) : vStarts τ s w m = stS σ k s (rd σ 107 s) w m := by
  have mf := h.mf
  have hr := vHour_R hm
  have e1 : vOpenM τ w m = openS σ k w m := by
    have e := (h.2.2 w hw.1 hw.2).1 (vHour m) hr.1 (by omega)
    unfold vOpenM openS vOn
    rw [e, MF.row mf (a := 81) (by omega), MF.row mf (a := 82) (by omega)]
    cases shutS σ k w (vHour m)
    · simp [b2i]
    · simp [b2i]
  unfold vStarts stS
  rw [h113, h114, e1, h.2.1 107 _ (by omega) (by omega), goS_eq mf, minS_eq mf, MF.fld mf (i := 30) (by omega), MF.fld mf (i := 31) (by omega), MF.row mf (a := 84) (by omega)]
/-- the passes and the next passes stand -/
def tPN (σ : pS) (k s : Int) (τ : pS) : Prop := TV σ k τ ∧ (∀ m : Int, 0 ≤ m → m < 601 → rd τ 113 m = pAt σ k s m) ∧ ∀ m : Int, 0 ≤ m → m ≤ 601 → rd τ 114 m = nextS σ k s m
theorem tPN.wr {σ τ : pS} {k s a i v : Int} (h : tPN σ k s τ) (ha : 115 ≤ a ∧ a ≤ 116) : tPN σ k s (wr τ a i v) := ⟨h.1.wr (by omega), fun m m0 m1 => by rw [rd_wr_n (by omega)]; exact h.2.1 m m0 m1, fun m m0 m1 => by rw [rd_wr_n (by omega)]; exact h.2.2 m m0 m1⟩
/-- a row of answers -/
def rB (τ : pS) (r t p : Int) (P : Prop) : Prop := (rd τ r (10 * t + p) = 0 ∨ rd τ r (10 * t + p) = 1) ∧ (rd τ r (10 * t + p) ≠ 0 ↔ P)
theorem rB.b2i {τ : pS} {r t p : Int} {b : Bool} (h : rB τ r t p (b = true)) : rd τ r (10 * t + p) = b2i b := by
  rcases h.1 with e | e
  · cases b
    · exact e
    · exact absurd e (h.2.mpr rfl)
  · cases b
    · have := h.2.mp (by omega); cases this
    · exact e
theorem rB.cg {τ : pS} {r t p : Int} {P P' : Prop} (h : rB τ r t p P) (e : P' ↔ P) : rB τ r t p P' := ⟨h.1, h.2.trans e.symm⟩
theorem rB.set {τ : pS} {r t p t0 p0 : Int} {P P' : Prop} (hp : 0 ≤ p ∧ p < 10) (hp0 : 0 ≤ p0 ∧ p0 < 10) (h : rB τ r t p P) (e : P' ↔ P ∨ (t = t0 ∧ p = p0)) : rB (wr τ r (10 * t0 + p0) 1) r t p P' := by
  by_cases c : t = t0 ∧ p = p0
  · obtain ⟨rfl, rfl⟩ := c
    unfold rB
    rw [rd_wr_same]
    exact ⟨Or.inr rfl, fun _ => e.mpr (Or.inr ⟨rfl, rfl⟩), fun _ => by decide⟩
  · unfold rB
    rw [rd_wr_i _ (by omega)]
    refine ⟨h.1, h.2.trans ?_⟩
    exact ⟨fun z => e.mpr (Or.inl z), fun z => (e.mp z).resolve_right c⟩
def traceD (σ : pS) (k s : Int) (τ : pS) : Prop := tPN σ k s τ ∧ (∀ m p : Int, 0 ≤ m → m ≤ 600 → 0 ≤ p → p < 10 → rd τ 115 (10 * m + p) = b2i (cameS σ k s (rd σ 107 s) m p)) ∧ ∀ m p : Int, 0 ≤ m → m ≤ 600 → 0 ≤ p → p < 10 → rd τ 116 (10 * m + p) = b2i (goesS σ k s (rd σ 107 s) m p)
def cmA (σ : pS) (τ : pS) (P : Int → Int → Prop) : Prop := ∀ m p : Int, 0 ≤ m → m ≤ 600 → 0 ≤ p → p < 10 → rB τ 115 m p (P m p)
def gA (τ : pS) : Prop := ∀ m p : Int, 541 ≤ m → m ≤ 600 → 0 ≤ p → p < 10 → rd τ 116 (10 * m + p) = 1
theorem gA.wr {τ : pS} {i v : Int} (h : gA τ) : gA (wr τ 115 i v) := fun m p m0 m1 p0 p1 => by rw [rd_wr_n (by omega)]; exact h m p m0 m1 p0 p1
section
variable {d : Nat} {σ : pS} {k s : Int}
theorem cmX_cgp {σ : pS} {k s sk : Int} {j : Nat} {A A' : Int → Prop} {B B' : Nat → Prop} {m p : Int} (hA : pAt σ k s (j : Int) = -1 → cmN σ k s sk j (j : Int) p = true → (A p ↔ A' p)) (hB : ∀ w : Nat, w < 13 → cHit σ k s sk j w → (B w ↔ B' w)) : cmX σ k s sk j A B m p ↔ cmX σ k s sk j A' B' m p := by
  unfold cmX
  constructor
  · rintro (h | ⟨h1, h2, h3, h4⟩ | ⟨w, h1, h2, h3, h4, h5⟩)
    · exact Or.inl h
    · exact Or.inr (Or.inl ⟨h1, h2, h3, (hA h2 h3).mp h4⟩)
    · exact Or.inr (Or.inr ⟨w, h1, h2, h3, h4, (hB w h1 h2).mp h5⟩)
  · rintro (h | ⟨h1, h2, h3, h4⟩ | ⟨w, h1, h2, h3, h4, h5⟩)
    · exact Or.inl h
    · exact Or.inr (Or.inl ⟨h1, h2, h3, (hA h2 h3).mpr h4⟩)
    · exact Or.inr (Or.inr ⟨w, h1, h2, h3, h4, (hB w h1 h2).mpr h5⟩)
/-- what the reference's loops ask for -/
def tOk (d : Nat) (σ : pS) (k s : Int) : Prop := 3 ≤ d ∧ Stat σ ∧ RSlo σ ∧ RPas σ ∧ (0 ≤ s ∧ s < 8) ∧ (0 ≤ rd σ 107 s ∧ rd σ 107 s < 4) ∧ inR k
theorem starts_T (o : tOk d σ k s) {τ : pS} (h : tPN σ k s τ) {w m : Int} (hw : 0 ≤ w ∧ w < 13) (hm : 0 ≤ m ∧ m ≤ 540) : pC mX11_starts 2 [(2, 68), (0, s), (0, w), (0, m)] τ (fun r υ => r = some (0, b2i (vStarts τ s w m)) ∧ υ = τ) ∧ vStarts τ s w m = stS σ k s (rd σ 107 s) w m := by
  obtain ⟨o1, S, L, P, o2, o3, o4⟩ := o
  have e107 : rd τ 107 s = rd σ 107 s := h.1.2.1 _ _ (by omega) (by omega)
  have pa := (pAt_R P k s m).2
  have nx := next_R (σ := σ) (k := k) (s := s) (m := m + 1) (by omega)
  have l3 := L.2.2.2.1
  refine ⟨starts_C (Nat.le_refl 2) (h.1.st S) (h.1.slo L) h.1.rv o2 (by rw [e107]; exact o3) hw hm ?_ ?_, starts_eq h.1 hw hm.1 (h.2.1 m hm.1 (by omega)) (h.2.2 (m + 1) (by omega) (by omega))⟩
  · rw [h.2.1 m hm.1 (by omega)]; unfold inR; omega
  · rw [h.2.2 (m + 1) (by omega) (by omega)]; unfold inR; omega
theorem minutes_T (o : tOk d σ k s) {τ : pS} (h : tPN σ k s τ) {w : Int} (hw : wyS σ w = true) : pC mX11_minutesOf 0 [(2, 68), (0, rd τ 107 s), (0, w)] τ (fun r υ => r = some (0, minS τ (rd τ 107 s) w) ∧ υ = τ) ∧ minS τ (rd τ 107 s) w = minS σ (rd σ 107 s) w := by
  obtain ⟨o1, S, L, P, o2, o3, o4⟩ := o
  have e107 : rd τ 107 s = rd σ 107 s := h.1.2.1 _ _ (by omega) (by omega)
  exact ⟨minutesOf_C (h.1.st S) (h.1.slo L) h.1.rv (by rw [wys_eq h.1.mf]; exact hw) (by rw [e107]; exact o3), by rw [e107, minS_eq h.1.mf]⟩
theorem isWay_T (o : tOk d σ k s) {τ : pS} (h : tPN σ k s τ) {w : Int} (hw : inR w) : pC mX11_isWay 0 [(2, 68), (0, w)] τ (fun r υ => r = some (0, b2i (vWay (rd τ 68 30) (rd τ 68 31) w)) ∧ υ = τ) ∧ vWay (rd τ 68 30) (rd τ 68 31) w = wyS σ w := by
  obtain ⟨o1, S, L, P, o2, o3, o4⟩ := o
  exact ⟨h.1.rv.isWay_C (h.1.st S) (h.1.slo L) hw, by rw [MF.fld h.1.mf (i := 30) (by omega), MF.fld h.1.mf (i := 31) (by omega)]; rfl⟩
/-- the ways of a place -/
theorem tr_298 (o : tOk d σ k s) {Q : Option pV → pS → Prop} {j p0 : Nat} (hj : j ≤ 540) (hp0 : p0 < 10) (hc : cmN σ k s (rd σ 107 s) j (j : Int) (p0 : Int) = true) {u6 : pV} (hu : u6.1 ≠ 1)
    (K : ∀ (τ : pS), tPN σ k s τ → gA τ → cmA σ τ (cmX σ k s (rd σ 107 s) j (fun p => p < ((p0 + 1 : Nat) : Int)) (fun w => rd σ 77 (w : Int) < ((p0 + 1 : Nat) : Int))) → pR mX11_trace d 244 [(2, 68), (0, s), (0, k), (0, (j : Int)), (0, ((p0 + 1 : Nat) : Int)), (0, 13), u6] [] τ Q) :
    ∀ (r n : Nat) (τ : pS), n + r = 13 → tPN σ k s τ → gA τ → cmA σ τ (cmX σ k s (rd σ 107 s) j (fun p => p < ((p0 + 1 : Nat) : Int)) (fun w => rd σ 77 (w : Int) < (p0 : Int) ∨ (rd σ 77 (w : Int) = (p0 : Int) ∧ w < n))) → pR mX11_trace d 298 [(2, 68), (0, s), (0, k), (0, (j : Int)), (0, (p0 : Int)), (0, (n : Int)), u6] [] τ Q := by
  have o' := o
  obtain ⟨o1, S, L, P, o2, o3, o4⟩ := o'
  intro r
  induction r with
  | zero =>
    intro n τ hn h g v
    have e : n = 13 := by omega
    subst e
    refine g_X11_trace_298 o1 (h.1.st S) s k (j : Int) (p0 : Int) _ u6 hu (by decide) (fun _ => ?_) (fun c => by omega) (fun c => by omega) (fun c => by omega) (fun c => by omega) (fun c => by omega) (fun c => by omega) (fun c => by omega) (fun c => by omega) (fun c => by omega) (fun c => by omega) (fun c => by omega) (fun c => by omega)
    rw [show (p0 : Int) + 1 = ((p0 + 1 : Nat) : Int) by omega]
    exact K τ h g (fun m p m0 m1 q0 q1 => (v m p m0 m1 q0 q1).cg (cmX_cg (fun _ _ _ => Iff.rfl) (fun w hw _ => by show rd σ 77 (w : Int) < ((p0 + 1 : Nat) : Int) ↔ (rd σ 77 (w : Int) < (p0 : Int) ∨ (rd σ 77 (w : Int) = (p0 : Int) ∧ w < 13)); omega) m p))
  | succ r ih =>
    intro n τ hn h g v
    have iw := isWay_T o h (w := (n : Int)) (by omega)
    have st := starts_T o h (w := (n : Int)) (m := (j : Int)) (by omega) (by omega)
    have e77 : rd τ 77 (n : Int) = rd σ 77 (n : Int) := h.1.2.1 _ _ (by omega) (by omega)
    have e78 : rd τ 78 (n : Int) = rd σ 78 (n : Int) := h.1.2.1 _ _ (by omega) (by omega)
    have no : (∀ w : Nat, w < 13 → cHit σ k s (rd σ 107 s) j w → w = n → rd σ 77 (w : Int) ≠ (p0 : Int)) → pR mX11_trace d 298 [(2, 68), (0, s), (0, k), (0, (j : Int)), (0, (p0 : Int)), (0, (n : Int) + 1), u6] [] τ Q := fun c => by
      rw [show (n : Int) + 1 = ((n + 1 : Nat) : Int) by omega]
      refine ih (n + 1) τ (by omega) h g (fun m p m0 m1 q0 q1 => (v m p m0 m1 q0 q1).cg (cmX_cg (fun _ _ _ => Iff.rfl) (fun w hw hh => ?_) m p))
      have := c w hw hh
      show (rd σ 77 (w : Int) < (p0 : Int) ∨ (rd σ 77 (w : Int) = (p0 : Int) ∧ w < n + 1)) ↔ (rd σ 77 (w : Int) < (p0 : Int) ∨ (rd σ 77 (w : Int) = (p0 : Int) ∧ w < n))
      omega
    refine g_X11_trace_298 o1 (h.1.st S) s k (j : Int) (p0 : Int) _ u6 hu (by omega) (fun c => by omega) (fun _ => iw.1) (fun _ c => no (fun w hw hh e => ?_)) (fun _ _ => by omega) (fun _ c => ?_) (fun _ _ => by omega) (fun _ c c5 => no (fun w hw hh e => ?_)) (fun _ _ _ => st.1) (fun _ c c6 c7 => no (fun w hw hh e => ?_)) (fun _ _ _ _ => o2) (fun _ c _ _ => (minutes_T o h (by rw [← iw.2]; exact c)).1) (fun _ c c6 c8 => ?_) (fun _ c c6 c8 => ?_)
    · subst e
      rw [iw.2] at c
      have := (st_facts L P o3 hh.1).1
      rw [c] at this; cases this
    · rw [iw.2] at c
      have := L.ends c
      rw [e77]; unfold inR; omega
    · subst e
      rw [e77] at c5
      exact c5
    · subst e
      rw [st.2] at c7
      have := hh.1
      rw [c7] at this; cases this
    · rw [iw.2] at c
      have := L.ends c
      rw [st.2] at c8
      have f := st_facts L P o3 c8
      rw [(minutes_T o h c).2, e78]
      omega
    · rw [iw.2] at c
      have en := L.ends c
      rw [st.2] at c8
      have f := st_facts L P o3 c8
      rw [(minutes_T o h c).2, e78, show (n : Int) + 1 = ((n + 1 : Nat) : Int) by omega]
      rw [e77] at c6
      have hit : cHit σ k s (rd σ 107 s) j n := ⟨c8, by rw [c6]; exact hc⟩
      refine ih (n + 1) _ (by omega) (h.wr (by omega)) g.wr (fun m p m0 m1 q0 q1 => ?_)
      exact (v m p m0 m1 q0 q1).set ⟨q0, q1⟩ ⟨en.2.2.1, en.2.2.2⟩ (cmX_add (by omega) hit (fun w hw hh => by
        show (rd σ 77 (w : Int) < (p0 : Int) ∨ (rd σ 77 (w : Int) = (p0 : Int) ∧ w < n + 1)) ↔ (rd σ 77 (w : Int) < (p0 : Int) ∨ (rd σ 77 (w : Int) = (p0 : Int) ∧ w < n)) ∨ w = n
        constructor
        · rintro (z | z)
          · exact Or.inl (Or.inl z)
          · by_cases z2 : w = n
            · exact Or.inr z2
            · exact Or.inl (Or.inr ⟨z.1, by omega⟩)
        · rintro ((z | z) | z)
          · exact Or.inl z
          · exact Or.inr ⟨z.1, by omega⟩
          · subst z; exact Or.inr ⟨c6, by omega⟩) m p)
/-- the places of a minute -/
theorem tr_244 (o : tOk d σ k s) {Q : Option pV → pS → Prop} {j : Nat} (hj : j ≤ 540)
    (K : ∀ (τ : pS) (u4 u5 u6 : pV), u4.1 ≠ 1 → u5.1 ≠ 1 → u6.1 ≠ 1 → tPN σ k s τ → gA τ → cmA σ τ (fun m p => cmN σ k s (rd σ 107 s) (j + 1) m p = true) → pR mX11_trace d 234 [(2, 68), (0, s), (0, k), (0, ((j + 1 : Nat) : Int)), u4, u5, u6] [] τ Q) :
    ∀ (r p0 : Nat) (τ : pS) (u5 u6 : pV), p0 + r = 10 → u5.1 ≠ 1 → u6.1 ≠ 1 → tPN σ k s τ → gA τ → cmA σ τ (cmX σ k s (rd σ 107 s) j (fun p => p < (p0 : Int)) (fun w => rd σ 77 (w : Int) < (p0 : Int))) → pR mX11_trace d 244 [(2, 68), (0, s), (0, k), (0, (j : Int)), (0, (p0 : Int)), u5, u6] [] τ Q := by
  have o' := o
  obtain ⟨o1, S, L, P, o2, o3, o4⟩ := o'
  have l3 := L.2.2.2.1
  intro r
  induction r with
  | zero =>
    intro p0 τ u5 u6 hp h5 h6 h g v
    have e : p0 = 10 := by omega
    subst e
    refine g_X11_trace_244 o1 (h.1.st S) s k (j : Int) _ u5 u6 h5 h6 (by decide) (fun _ => ?_) (fun c => by omega) (fun c => by omega) (fun c => by omega) (fun c => by omega) (fun c => by omega) (fun c => by omega) (fun c => by omega) (fun c => by omega)
    rw [show (j : Int) + 1 = ((j + 1 : Nat) : Int) by omega]
    refine K τ _ u5 u6 (show (0 : Nat) ≠ 1 by decide) h5 h6 h g (fun m p m0 m1 q0 q1 => (v m p m0 m1 q0 q1).cg ?_)
    show cmN σ k s (rd σ 107 s) (j + 1) m p = true ↔ _
    rw [cmX_all]
    exact cmX_cgp (fun _ _ => ⟨fun _ => by show p < ((10 : Nat) : Int); omega, fun _ => trivial⟩) (fun w hw hh => ⟨fun _ => by have := L.ends (st_facts L P o3 hh.1).1; show rd σ 77 (w : Int) < ((10 : Nat) : Int); omega, fun _ => trivial⟩)
  | succ r ih =>
    intro p0 τ u5 u6 hp h5 h6 h g v
    have vj := v (j : Int) (p0 : Int) (by omega) (by omega) (by omega) (by omega)
    have vj' : rd τ 115 (10 * (j : Int) + (p0 : Int)) ≠ 0 ↔ cmN σ k s (rd σ 107 s) j (j : Int) (p0 : Int) = true := vj.2.trans (cmX_old L P o3 (Int.le_refl _))
    have pa := pAt_R P k s (j : Int)
    have e113 := h.2.1 (j : Int) (by omega) (by omega)
    refine g_X11_trace_244 o1 (h.1.st S) s k (j : Int) _ u5 u6 h5 h6 (by omega) (fun c => by omega) (fun _ => by omega) (fun _ => by have := vj.1; unfold inR; omega) (fun _ _ => by omega) (fun _ _ => by rw [e113]; unfold inR; omega) (fun _ c3 c5 => ?_) (fun _ _ _ => by omega) (fun _ c3 c6 => ?_) (fun _ c4 => ?_)
    · rw [e113] at c5
      refine tr_298 o hj (by omega) (vj'.mp c3) h6 (fun τ' h' g' v' => ih (p0 + 1) τ' _ u6 (by omega) (show (0 : Nat) ≠ 1 by decide) h6 h' g' v') 13 0 τ rfl h g (fun m p m0 m1 q0 q1 => (v m p m0 m1 q0 q1).cg (cmX_cg (fun z => absurd z c5) (fun w hw _ => ?_) m p))
      show (rd σ 77 (w : Int) < (p0 : Int) ∨ (rd σ 77 (w : Int) = (p0 : Int) ∧ w < 0)) ↔ rd σ 77 (w : Int) < (p0 : Int)
      omega
    · rw [e113] at c6
      rw [show 10 * (j : Int) + 10 + (p0 : Int) = 10 * ((j : Int) + 1) + (p0 : Int) by omega]
      refine tr_298 o hj (by omega) (vj'.mp c3) h6 (fun τ' h' g' v' => ih (p0 + 1) τ' _ u6 (by omega) (show (0 : Nat) ≠ 1 by decide) h6 h' g' v') 13 0 _ rfl (h.wr (by omega)) g.wr (fun m p m0 m1 q0 q1 => ?_)
      refine (v m p m0 m1 q0 q1).set ⟨q0, q1⟩ (by omega) ?_
      refine (cmX_stay (q := (p0 : Int)) (A := fun p => p < (p0 : Int)) c6 (vj'.mp c3) (fun p => by show p < ((p0 + 1 : Nat) : Int) ↔ _; omega) m p).trans (or_congr (cmX_cg (fun _ _ _ => Iff.rfl) (fun w hw _ => ?_) m p) Iff.rfl)
      show (rd σ 77 (w : Int) < (p0 : Int) ∨ (rd σ 77 (w : Int) = (p0 : Int) ∧ w < 0)) ↔ rd σ 77 (w : Int) < (p0 : Int)
      omega
    · have nc : ¬ cmN σ k s (rd σ 107 s) j (j : Int) (p0 : Int) = true := fun z => vj'.mpr z c4
      rw [show (p0 : Int) + 1 = ((p0 + 1 : Nat) : Int) by omega]
      refine ih (p0 + 1) τ u5 u6 (by omega) h5 h6 h g (fun m p m0 m1 q0 q1 => (v m p m0 m1 q0 q1).cg (cmX_cg (fun _ q hq => ?_) (fun w hw hh => ?_) m p))
      · have : q ≠ (p0 : Int) := fun z => nc (by rw [← z]; exact hq)
        show q < ((p0 + 1 : Nat) : Int) ↔ q < (p0 : Int)
        omega
      · have : rd σ 77 (w : Int) ≠ (p0 : Int) := fun z => nc (by rw [← z]; exact hh.2)
        show rd σ 77 (w : Int) < ((p0 + 1 : Nat) : Int) ↔ rd σ 77 (w : Int) < (p0 : Int)
        omega
/-- where he came, all minutes -/
theorem tr_234 (o : tOk d σ k s) {Q : Option pV → pS → Prop}
    (K : ∀ (τ : pS) (u4 u5 u6 : pV), u4.1 ≠ 1 → u5.1 ≠ 1 → u6.1 ≠ 1 → tPN σ k s τ → gA τ → cmA σ τ (fun m p => cameS σ k s (rd σ 107 s) m p = true) → pR mX11_trace d 390 [(2, 68), (0, s), (0, k), (0, 540), u4, u5, u6] [] τ Q) :
    ∀ (r j : Nat) (τ : pS) (u4 u5 u6 : pV), j + r = 541 → u4.1 ≠ 1 → u5.1 ≠ 1 → u6.1 ≠ 1 → tPN σ k s τ → gA τ → cmA σ τ (fun m p => cmN σ k s (rd σ 107 s) j m p = true) → pR mX11_trace d 234 [(2, 68), (0, s), (0, k), (0, (j : Int)), u4, u5, u6] [] τ Q := by
  have o' := o
  obtain ⟨o1, S, L, P, o2, o3, o4⟩ := o'
  intro r
  induction r with
  | zero =>
    intro j τ u4 u5 u6 hj h4 h5 h6 h g v
    have e : j = 541 := by omega
    subst e
    exact g_X11_trace_234 o1 (h.1.st S) s k _ u4 u5 u6 h4 h5 h6 (by decide) (fun _ => K τ u4 u5 u6 h4 h5 h6 h g v) (fun c => by omega)
  | succ r ih =>
    intro j τ u4 u5 u6 hj h4 h5 h6 h g v
    refine g_X11_trace_234 o1 (h.1.st S) s k _ u4 u5 u6 h4 h5 h6 (by omega) (fun c => by omega) (fun _ => ?_)
    refine tr_244 o (by omega) (fun τ' u4 u5 u6 h4 h5 h6 h' g' v' => ih (j + 1) τ' u4 u5 u6 (by omega) h4 h5 h6 h' g' v') 10 0 τ u5 u6 rfl h5 h6 h g (fun m p m0 m1 q0 q1 => (v m p m0 m1 q0 q1).cg ?_)
    show _ ↔ cmN σ k s (rd σ 107 s) j m p = true
    rw [← cmX_none]
    exact cmX_cgp (fun _ _ => ⟨fun z => by omega, False.elim⟩) (fun w hw hh => ⟨fun z => by have z : rd σ 77 (w : Int) < ((0 : Nat) : Int) := z; have := L.ends (st_facts L P o3 hh.1).1; omega, False.elim⟩)
/-- what stands behind a minute and, in it, ahead of a place -/
def gsA (σ : pS) (k s : Int) (τ : pS) (m p0 : Int) : Prop := ∀ t p : Int, 0 ≤ t → t ≤ 600 → 0 ≤ p → p < 10 → (m < t ∨ (t = m ∧ p < p0)) → rd τ 116 (10 * t + p) = b2i (goesS σ k s (rd σ 107 s) t p)
def cmB (σ : pS) (k s : Int) (τ : pS) : Prop := ∀ m p : Int, 0 ≤ m → m ≤ 600 → 0 ≤ p → p < 10 → rd τ 115 (10 * m + p) = b2i (cameS σ k s (rd σ 107 s) m p)
theorem cmB.wr {τ : pS} {i v : Int} (h : cmB σ k s τ) : cmB σ k s (wr τ 116 i v) := fun m p m0 m1 p0 p1 => by rw [rd_wr_n (by omega)]; exact h m p m0 m1 p0 p1
theorem gsA.wr {τ : pS} {m p0 v : Int} (hp : 0 ≤ p0 ∧ p0 < 10) (h : gsA σ k s τ m p0) (hv : v = b2i (goesS σ k s (rd σ 107 s) m p0)) : gsA σ k s (wr τ 116 (10 * m + p0) v) m (p0 + 1) := fun t p t0 t1 q0 q1 c => by
  by_cases e : t = m ∧ p = p0
  · obtain ⟨rfl, rfl⟩ := e
    rw [rd_wr_same, hv]
  · rw [rd_wr_i _ (by omega)]
    exact h t p t0 t1 q0 q1 (by omega)
theorem tr_442 (o : tOk d σ k s) {Q : Option pV → pS → Prop} {m p0 : Int} (hm : 0 ≤ m ∧ m ≤ 540) (hp : 0 ≤ p0 ∧ p0 < 10) {τ : pS} (h : tPN σ k s τ) (g : gsA σ k s τ m p0)
    (K : ∀ (v x6 : Int), v = b2i (goesS σ k s (rd σ 107 s) m p0) → pR mX11_trace d 397 [(2, 68), (0, s), (0, k), (0, m), (0, p0 + 1), (0, v), (0, x6)] [] (wr τ 116 (10 * m + p0) v) Q) :
    ∀ (r n : Nat) (x5 : Int), n + r = 13 → (x5 = 0 ∨ x5 = 1) → (x5 ≠ 0 ↔ (pAt σ k s m = -1 ∧ goesS σ k s (rd σ 107 s) (m + 1) p0 = true) ∨ ∃ w : Nat, w < n ∧ gHit σ k s (rd σ 107 s) m p0 w) → pR mX11_trace d 442 [(2, 68), (0, s), (0, k), (0, m), (0, p0), (0, x5), (0, (n : Int))] [] τ Q := by
  have o' := o
  obtain ⟨o1, S, L, P, o2, o3, o4⟩ := o'
  have grec := goes_rec L P (k := k) (s := s) o3 (p := p0) hm.1 hm.2
  have bv : ∀ x5 : Int, (x5 = 0 ∨ x5 = 1) → (x5 ≠ 0 ↔ goesS σ k s (rd σ 107 s) m p0 = true) → x5 = b2i (goesS σ k s (rd σ 107 s) m p0) := fun x5 h1 h2 => by
    rcases h1 with e | e
    · cases z : goesS σ k s (rd σ 107 s) m p0
      · exact e
      · rw [z] at h2; exact absurd e (h2.mpr rfl)
    · rw [h2.mp (by omega)]; exact e
  intro r
  induction r with
  | zero =>
    intro n x5 hn h01 hx
    have e : n = 13 := by omega
    subst e
    exact g_X11_trace_442 o1 (h.1.st S) s k m p0 x5 _ (by decide) (fun _ => by omega) (fun _ => h01) (fun _ => K x5 _ (bv x5 h01 (hx.trans grec.symm))) (fun c => by omega) (fun c => by omega) (fun c => by omega) (fun c => by omega) (fun c => by omega) (fun c => by omega) (fun c => by omega) (fun c => by omega) (fun c => by omega) (fun c => by omega) (fun c => by omega) (fun c => by omega) (fun c => by omega) (fun c => by omega) (fun c => by omega) (fun c => by omega) (fun c => by omega) (fun c => by omega)
  | succ r ih =>
    intro n x5 hn h01 hx
    have iw := isWay_T o h (w := (n : Int)) (by omega)
    have st := starts_T o h (w := (n : Int)) (m := m) (by omega) (by omega)
    have e77 : rd τ 77 (n : Int) = rd σ 77 (n : Int) := h.1.2.1 _ _ (by omega) (by omega)
    have e78 : rd τ 78 (n : Int) = rd σ 78 (n : Int) := h.1.2.1 _ _ (by omega) (by omega)
    have no : x5 = 0 → ¬ gHit σ k s (rd σ 107 s) m p0 n → pR mX11_trace d 442 [(2, 68), (0, s), (0, k), (0, m), (0, p0), (0, 0), (0, (n : Int) + 1)] [] τ Q := fun c c2 => by
      rw [show (n : Int) + 1 = ((n + 1 : Nat) : Int) by omega]
      refine ih (n + 1) 0 (by omega) (Or.inl rfl) ⟨fun z => absurd rfl z, fun z => ?_⟩
      exfalso
      refine hx.mpr ?_ c
      rcases z with z | ⟨w, w1, w2⟩
      · exact Or.inl z
      · by_cases e : w = n
        · subst e; exact absurd w2 c2
        · exact Or.inr ⟨w, by omega, w2⟩
    have r5 : inR x5 := by rcases h01 with e | e <;> rw [e] <;> decide
    refine g_X11_trace_442 o1 (h.1.st S) s k m p0 x5 _ (by omega) (fun c => by omega) (fun c => by omega) (fun c => by omega) (fun _ => r5) (fun _ _ => by omega) (fun _ _ => h01) (fun _ c3 => K x5 _ (bv x5 h01 ⟨fun _ => ?_, fun _ => c3⟩)) (fun _ _ => iw.1) (fun _ c4 c5 => no c4 (fun z => ?_)) (fun _ _ _ => by omega) (fun _ _ c => ?_) (fun _ _ _ => by omega) (fun _ c4 c6 c7 => no c4 (fun z => c7 (e77.trans z.1))) (fun _ _ _ _ => st.1) (fun _ c4 c6 c8 c9 => no c4 (fun z => ?_)) (fun _ _ _ _ _ => o2) (fun _ _ c _ _ => (minutes_T o h (by rw [← iw.2]; exact c)).1) (fun _ c4 c c8 c10 => ?_) (fun _ c4 c c8 c10 => ?_) (fun _ c4 c c8 c10 c11 => no c4 (fun z => ?_)) (fun _ c4 c c8 c10 c12 => ?_)
    · refine grec.mpr ((hx.mp c3).imp id (fun ⟨w, w1, w2⟩ => ⟨w, by omega, w2⟩))
    · rw [iw.2] at c5
      have := (st_facts L P o3 z.2.1).1
      rw [c5] at this; cases this
    · rw [iw.2] at c
      have := L.ends c
      rw [e77]; unfold inR; omega
    · rw [st.2] at c9
      have := z.2.1
      rw [c9] at this; cases this
    · rw [iw.2] at c
      have := L.ends c
      rw [st.2] at c10
      have f := st_facts L P o3 c10
      rw [(minutes_T o h c).2, e78]
      omega
    · rw [iw.2] at c
      have := L.ends c
      rw [st.2] at c10
      have f := st_facts L P o3 c10
      rw [(minutes_T o h c).2, e78, g _ _ (by omega) (by omega) this.2.2.1 this.2.2.2 (by omega)]
      exact b2i_R _
    · rw [iw.2] at c
      have := L.ends c
      rw [st.2] at c10
      have f := st_facts L P o3 c10
      rw [(minutes_T o h c).2, e78, g _ _ (by omega) (by omega) this.2.2.1 this.2.2.2 (by omega), z.2.2] at c11
      exact absurd c11 (by decide)
    · rw [iw.2] at c
      have := L.ends c
      rw [st.2] at c10
      have f := st_facts L P o3 c10
      rw [(minutes_T o h c).2, e78, g _ _ (by omega) (by omega) this.2.2.1 this.2.2.2 (by omega)] at c12
      rw [e77] at c8
      rw [show (n : Int) + 1 = ((n + 1 : Nat) : Int) by omega]
      exact ih (n + 1) 1 (by omega) (Or.inr rfl) ⟨fun _ => Or.inr ⟨n, by omega, c8, c10, b2i_ne0.mp c12⟩, fun _ => by decide⟩
theorem tr_397 (o : tOk d σ k s) {Q : Option pV → pS → Prop} {m : Int} (hm : 0 ≤ m ∧ m ≤ 540)
    (K : ∀ (τ : pS) (u4 u5 u6 : pV), u4.1 ≠ 1 → u5.1 ≠ 1 → u6.1 ≠ 1 → tPN σ k s τ → cmB σ k s τ → gsA σ k s τ (m - 1) 0 → pR mX11_trace d 390 [(2, 68), (0, s), (0, k), (0, m - 1), u4, u5, u6] [] τ Q) :
    ∀ (r : Nat) (p0 : Int) (τ : pS) (u5 u6 : pV), p0 + (r : Int) = 10 → 0 ≤ p0 → u5.1 ≠ 1 → u6.1 ≠ 1 → tPN σ k s τ → cmB σ k s τ → gsA σ k s τ m p0 → pR mX11_trace d 397 [(2, 68), (0, s), (0, k), (0, m), (0, p0), u5, u6] [] τ Q := by
  have o' := o
  obtain ⟨o1, S, L, P, o2, o3, o4⟩ := o'
  have l3 := L.2.2.2.1
  intro r
  induction r with
  | zero =>
    intro p0 τ u5 u6 hp hp0 h5 h6 h cb g
    refine g_X11_trace_397 o1 (h.1.st S) s k m p0 u5 u6 h5 h6 (by omega) (fun _ => ?_) (fun c => by omega) (fun c => by omega) (fun c => by omega) (fun c => by omega) (fun c => by omega) (fun c => by omega) (fun c => by omega)
    rw [show m + (-1) = m - 1 by omega]
    exact K τ _ u5 u6 (show (0 : Nat) ≠ 1 by decide) h5 h6 h cb (fun t p t0 t1 q0 q1 c => g t p t0 t1 q0 q1 (by omega))
  | succ r ih =>
    intro p0 τ u5 u6 hp hp0 h5 h6 h cb g
    have pa := pAt_R P k s m
    have e113 := h.2.1 m (by omega) (by omega)
    have gn := g (m + 1) p0 (by omega) (by omega) hp0 (by omega) (by omega)
    have K2 : ∀ (v x6 : Int), v = b2i (goesS σ k s (rd σ 107 s) m p0) → pR mX11_trace d 397 [(2, 68), (0, s), (0, k), (0, m), (0, p0 + 1), (0, v), (0, x6)] [] (wr τ 116 (10 * m + p0) v) Q := fun v x6 hv => ih (p0 + 1) _ _ _ (by omega) (by omega) (show (0 : Nat) ≠ 1 by decide) (show (0 : Nat) ≠ 1 by decide) (h.wr (by omega)) cb.wr (gsA.wr (by omega) g hv)
    have ei : 10 * m + 10 + p0 = 10 * (m + 1) + p0 := by omega
    refine g_X11_trace_397 o1 (h.1.st S) s k m p0 u5 u6 h5 h6 (by omega) (fun c => by omega) (fun _ => by omega) (fun _ => by rw [e113]; unfold inR; omega) (fun _ c3 => ?_) (fun _ _ => by omega) (fun _ _ => by rw [ei, gn]; exact b2i_R _) (fun _ c4 c5 => ?_) (fun _ c4 c6 => ?_)
    · rw [e113] at c3
      refine tr_442 o hm (by omega) h g K2 13 0 0 rfl (Or.inl rfl) ⟨fun z => absurd rfl z, fun z => ?_⟩
      exfalso
      rcases z with z | ⟨w, w1, -⟩
      · exact c3 z.1
      · omega
    · rw [ei, gn] at c5
      refine tr_442 o hm (by omega) h g K2 13 0 0 rfl (Or.inl rfl) ⟨fun z => absurd rfl z, fun z => ?_⟩
      exfalso
      rcases z with z | ⟨w, w1, -⟩
      · rw [z.2] at c5; exact absurd c5 (by decide)
      · omega
    · rw [ei, gn] at c6
      rw [e113] at c4
      exact tr_442 o hm (by omega) h g K2 13 0 1 rfl (Or.inr rfl) ⟨fun _ => Or.inl ⟨c4, b2i_ne0.mp c6⟩, fun _ => by decide⟩
theorem tr_390 (o : tOk d σ k s) {Q : Option pV → pS → Prop}
    (K : ∀ τ : pS, traceD σ k s τ → Q none τ) :
    ∀ (r : Nat) (τ : pS) (u4 u5 u6 : pV), r ≤ 541 → u4.1 ≠ 1 → u5.1 ≠ 1 → u6.1 ≠ 1 → tPN σ k s τ → cmB σ k s τ → gsA σ k s τ ((r : Int) - 1) 0 → pR mX11_trace d 390 [(2, 68), (0, s), (0, k), (0, (r : Int) - 1), u4, u5, u6] [] τ Q := by
  have o' := o
  obtain ⟨o1, S, L, P, o2, o3, o4⟩ := o'
  intro r
  induction r with
  | zero =>
    intro τ u4 u5 u6 hr h4 h5 h6 h cb g
    exact g_X11_trace_390 o1 (h.1.st S) s k _ u4 u5 u6 h4 h5 h6 (by decide) (fun _ => K τ ⟨h, cb, fun m p m0 m1 p0 p1 => g m p m0 m1 p0 p1 (by omega)⟩) (fun c => by omega)
  | succ r ih =>
    intro τ u4 u5 u6 hr h4 h5 h6 h cb g
    have en : (((r + 1 : Nat) : Int) - 1) = (r : Int) := by omega
    rw [en] at g ⊢
    refine g_X11_trace_390 o1 (h.1.st S) s k _ u4 u5 u6 h4 h5 h6 (by omega) (fun c => by omega) (fun _ => ?_)
    exact tr_397 o (by omega) (fun τ u4 u5 u6 h4 h5 h6 h cb g => ih τ u4 u5 u6 (by omega) h4 h5 h6 h cb g) 10 0 τ u5 u6 (by decide) (by decide) h5 h6 h cb g
/-- at first: home at minute 0, all behind the last minute -/
theorem tr_182 (o : tOk d σ k s) {Q : Option pV → pS → Prop} (K : ∀ τ : pS, traceD σ k s τ → Q none τ) :
    ∀ (r n : Nat) (τ : pS) (u4 u5 u6 : pV), n + r = 6010 → u4.1 ≠ 1 → u5.1 ≠ 1 → u6.1 ≠ 1 → tPN σ k s τ → (∀ i : Int, 0 ≤ i → i < (n : Int) → rd τ 115 i = (if i = rd σ 68 32 then 1 else 0) ∧ rd τ 116 i = (if 5409 < i then 1 else 0)) → pR mX11_trace d 182 [(2, 68), (0, s), (0, k), (0, (n : Int)), u4, u5, u6] [] τ Q := by
  have o' := o
  obtain ⟨o1, S, L, P, o2, o3, o4⟩ := o'
  have l8 := L.2.2.2.2.2.2.2.2.1
  intro r
  induction r with
  | zero =>
    intro n τ u4 u5 u6 hn h4 h5 h6 h v
    have e : n = 6010 := by omega
    subst e
    refine g_X11_trace_182 o1 (h.1.st S) s k _ u4 u5 u6 h4 h5 h6 (by decide) (fun _ => ?_) (fun c => by omega) (fun c => by omega) (fun c => by omega) (fun c => by omega) (fun c => by omega) (fun c => by omega) (fun c => by omega)
    refine tr_234 o (fun τ u4 u5 u6 h4 h5 h6 h g v => ?_) 541 0 τ u4 u5 u6 rfl h4 h5 h6 h (fun m p m0 m1 p0 p1 => ?_) (fun m p m0 m1 p0 p1 => ?_)
    · exact tr_390 o K 541 τ u4 u5 u6 (Nat.le_refl _) h4 h5 h6 h (fun m p m0 m1 p0 p1 => (v m p m0 m1 p0 p1).b2i) (fun t p t0 t1 p0 p1 c => by rw [g t p (by omega) t1 p0 p1, goes_hi (by omega)]; rfl)
    · rw [(v _ (by omega) (by omega)).2, if_pos (by omega)]
    · have e := (v (10 * m + p) (by omega) (by omega)).1
      unfold rB
      rw [e]
      show (_ ∨ _) ∧ (_ ↔ decide (m = 0 ∧ p = rd σ 68 32) = true)
      rw [decide_eq_true_eq]
      by_cases c : 10 * m + p = rd σ 68 32
      · rw [if_pos c]; exact ⟨Or.inr rfl, fun _ => by omega, fun _ => by decide⟩
      · rw [if_neg c]; exact ⟨Or.inl rfl, fun z => absurd rfl z, fun z => by omega⟩
  | succ r ih =>
    intro n τ u4 u5 u6 hn h4 h5 h6 h v
    have e32 : rd τ 68 32 = rd σ 68 32 := h.1.2.1 _ _ (by omega) (by omega)
    have go : ∀ a b : Int, a = (if (n : Int) = rd σ 68 32 then 1 else 0) → b = (if 5409 < (n : Int) then 1 else 0) → pR mX11_trace d 182 [(2, 68), (0, s), (0, k), (0, (n : Int) + 1), u4, u5, u6] [] (wr (wr τ 115 (n : Int) a) 116 (n : Int) b) Q := fun a b ha hb => by
      rw [show (n : Int) + 1 = ((n + 1 : Nat) : Int) by omega]
      refine ih (n + 1) _ u4 u5 u6 (by omega) h4 h5 h6 ((h.wr (by omega)).wr (by omega)) (fun i i0 i1 => ?_)
      by_cases c : i = (n : Int)
      · subst c
        rw [rd_wr_n (by omega), rd_wr_same, rd_wr_same]
        exact ⟨ha, hb⟩
      · rw [rd_wr_n (by omega), rd_wr_n (by omega), rd_wr_n (by omega), rd_wr_n (by omega)]
        exact v i i0 (by omega)
    refine g_X11_trace_182 o1 (h.1.st S) s k _ u4 u5 u6 h4 h5 h6 (by omega) (fun c => by omega) (fun _ => by rw [e32]; unfold inR; omega) (fun _ _ => by omega) (fun _ c3 c5 => ?_) (fun _ c3 c6 => ?_) (fun _ _ => by omega) (fun _ c4 c7 => ?_) (fun _ c4 c8 => ?_)
    · rw [e32] at c3; exact go 0 0 (by rw [if_neg c3]) (by rw [if_neg (by omega)])
    · rw [e32] at c3; exact go 0 1 (by rw [if_neg c3]) (by rw [if_pos c6])
    · rw [e32] at c4; exact go 1 0 (by rw [if_pos c4]) (by rw [if_neg (by omega)])
    · rw [e32] at c4; exact go 1 1 (by rw [if_pos c4]) (by rw [if_pos c8])
/-- the next passes -/
theorem tr_142 (o : tOk d σ k s) {Q : Option pV → pS → Prop} (K : ∀ τ : pS, traceD σ k s τ → Q none τ) :
    ∀ (n : Nat) (τ : pS) (u4 u5 u6 : pV), n ≤ 601 → u4.1 ≠ 1 → u5.1 ≠ 1 → u6.1 ≠ 1 → TV σ k τ → (∀ m : Int, 0 ≤ m → m < 601 → rd τ 113 m = pAt σ k s m) → (∀ m : Int, (n : Int) ≤ m → m ≤ 601 → rd τ 114 m = nextS σ k s m) → pR mX11_trace d 142 [(2, 68), (0, s), (0, k), (0, (n : Int) - 1), u4, u5, u6] [] τ Q := by
  have o' := o
  obtain ⟨o1, S, L, P, o2, o3, o4⟩ := o'
  have l3 := L.2.2.2.1
  intro n
  induction n with
  | zero =>
    intro τ u4 u5 u6 hn h4 h5 h6 h p v
    refine g_X11_trace_142 o1 (h.st S) s k _ u4 u5 u6 h4 h5 h6 (by decide) (fun _ => ?_) (fun c => by omega) (fun c => by omega) (fun c => by omega) (fun c => by omega) (fun c => by omega) (fun c => by omega) (fun c => by omega)
    exact tr_182 o K 6010 0 τ u4 u5 u6 rfl h4 h5 h6 ⟨h, p, fun m m0 m1 => v m (by omega) m1⟩ (fun i i0 i1 => by omega)
  | succ n ih =>
    intro τ u4 u5 u6 hn h4 h5 h6 h p v
    have en : (((n + 1 : Nat) : Int) - 1) = (n : Int) := by omega
    rw [en]
    have pa := pAt_R P k s (n : Int)
    have e113 := p (n : Int) (by omega) (by omega)
    have nx := next_rec (σ := σ) (k := k) (s := s) (m := (n : Int)) (by omega)
    have go : ∀ x : Int, x = nextS σ k s (n : Int) → pR mX11_trace d 142 [(2, 68), (0, s), (0, k), (0, (n : Int) + (-1)), u4, u5, u6] [] (wr τ 114 (n : Int) x) Q := fun x hx => by
      rw [show (n : Int) + (-1) = (n : Int) - 1 by omega]
      refine ih _ u4 u5 u6 (by omega) h4 h5 h6 (h.wr (by omega)) (fun m m0 m1 => by rw [rd_wr_n (by omega)]; exact p m m0 m1) (fun m m0 m1 => ?_)
      by_cases c : m = (n : Int)
      · subst c; rw [rd_wr_same]; exact hx
      · rw [rd_wr_i _ c]; exact v m (by omega) m1
    refine g_X11_trace_142 o1 (h.st S) s k _ u4 u5 u6 h4 h5 h6 (by omega) (fun c => by omega) (fun _ => by omega) (fun _ => by rw [e113]; unfold inR; omega) (fun _ _ => by omega) (fun _ c3 => go _ ?_) (fun _ _ => by omega) (fun _ _ => by omega) (fun _ c4 => go _ ?_)
    · rw [e113] at c3; rw [nx, if_neg c3]
    · rw [e113] at c4; rw [nx, if_pos c4]; exact v _ (by omega) (by omega)
/-- the passes -/
theorem tr_29 (o : tOk d σ k s) {Q : Option pV → pS → Prop} (K : ∀ τ : pS, traceD σ k s τ → Q none τ) :
    ∀ (r x : Nat) (τ : pS) (u4 u5 u6 : pV), x + r = (rd σ 68 65).toNat → u4.1 ≠ 1 → u5.1 ≠ 1 → u6.1 ≠ 1 → TV σ k τ → (∀ m : Int, 0 ≤ m → m < 601 → rd τ 113 m = pAtN σ k s m x) → pR mX11_trace d 29 [(2, 68), (0, s), (0, k), (0, (x : Int)), u4, u5, u6] [] τ Q := by
  have o' := o
  obtain ⟨o1, S, L, P, o2, o3, o4⟩ := o'
  have l3 := L.2.2.2.1
  have p1 := P.2.1
  have p2 := P.2.2.1
  intro r
  induction r with
  | zero =>
    intro x τ u4 u5 u6 hx h4 h5 h6 h v
    have e65 : rd τ 68 65 = rd σ 68 65 := h.2.1 _ _ (by omega) (by omega)
    refine g_X11_trace_29 o1 (h.st S) s k _ u4 u5 u6 h4 h5 h6 (by omega) (by rw [e65]; unfold inR; omega) (fun _ => ?_) (fun c => by omega) (fun c => by omega) (fun c => by omega) (fun c => by omega) (fun c => by omega) (fun c => by omega) (fun c => by omega) (fun c => by omega) (fun c => by omega) (fun c => by omega) (fun c => by omega) (fun c => by omega)
    refine tr_142 o K 601 _ u4 u5 u6 (Nat.le_refl _) h4 h5 h6 (h.wr (by omega)) (fun m m0 m1 => ?_) (fun m m0 m1 => ?_)
    · rw [rd_wr_n (by omega), v m m0 m1, show x = (rd σ 68 65).toNat by omega]; rfl
    · rw [show m = 601 by omega, rd_wr_same, next_top (by omega)]
  | succ r ih =>
    intro x τ u4 u5 u6 hx h4 h5 h6 h v
    have e65 : rd τ 68 65 = rd σ 68 65 := h.2.1 _ _ (by omega) (by omega)
    have f108 : rd τ 108 (x : Int) = rd σ 108 (x : Int) := h.2.1 _ _ (by omega) (by omega)
    have f109 : rd τ 109 (x : Int) = rd σ 109 (x : Int) := h.2.1 _ _ (by omega) (by omega)
    have f110 : rd τ 110 (x : Int) = rd σ 110 (x : Int) := h.2.1 _ _ (by omega) (by omega)
    have f111 : rd τ 111 (x : Int) = rd σ 111 (x : Int) := h.2.1 _ _ (by omega) (by omega)
    have f112 : rd τ 112 (x : Int) = rd σ 112 (x : Int) := h.2.1 _ _ (by omega) (by omega)
    obtain ⟨y1, y2, y3, y4, y5, y6, y7, y8, y9, y10, y11, y12, y13, y14, y15, y16⟩ := P.2.2.2 (x : Int) (by omega) (by omega)
    have no : ¬ (rd σ 108 (x : Int) = s ∧ vCounts (rd σ 111 (x : Int)) (rd σ 112 (x : Int)) k = true) → pR mX11_trace d 29 [(2, 68), (0, s), (0, k), (0, (x : Int) + 1), u4, u5, u6] [] τ Q := fun c => by
      rw [show (x : Int) + 1 = ((x + 1 : Nat) : Int) by omega]
      refine ih (x + 1) τ u4 u5 u6 (by omega) h4 h5 h6 h (fun m m0 m1 => ?_)
      rw [v m m0 m1, pAtN_s, if_neg]
      intro z
      have := pHit_t z
      exact c ⟨this.1, this.2.1⟩
    have go : ∀ (x' : Int) (u4 : pV), u4.1 ≠ 1 → rd σ 108 (x : Int) = s → vCounts (rd σ 111 (x : Int)) (rd σ 112 (x : Int)) k = true → x' = (if pAtN σ k s (rd σ 110 (x : Int)) x = -1 ∨ pAtN σ k s (rd σ 110 (x : Int)) x = rd σ 109 (x : Int) then rd σ 109 (x : Int) else -2) → pR mX11_trace d 29 [(2, 68), (0, s), (0, k), (0, (x : Int) + 1), u4, u5, u6] [] (wr τ 113 (rd σ 110 (x : Int)) x') Q := fun x' u4 h4 c1 c2 hv => by
      rw [show (x : Int) + 1 = ((x + 1 : Nat) : Int) by omega]
      refine ih (x + 1) _ u4 u5 u6 (by omega) h4 h5 h6 (h.wr (by omega)) (fun m m0 m1 => ?_)
      rw [pAtN_s]
      by_cases z : m = rd σ 110 (x : Int)
      · subst z
        rw [rd_wr_same, if_pos (show pHit σ k s (rd σ 110 (x : Int)) (x : Int) = true from decide_eq_true ⟨c1, c2, rfl⟩), hv]
      · rw [rd_wr_i _ z, v m m0 m1, if_neg]
        intro z2
        exact z (pHit_t z2).2.2.symm
    have i0 := v (rd σ 110 (x : Int)) y15 (by omega)
    have pNR := (pAtN_R P (k := k) (s := s) (m := rd σ 110 (x : Int)) x (by omega)).2
    refine g_X11_trace_29 o1 (h.st S) s k _ u4 u5 u6 h4 h5 h6 (by omega) (by rw [e65]; unfold inR; omega) (fun c => by omega) (fun _ => by omega) (fun _ => by rw [f108]; unfold inR; omega) (fun _ => by omega) (fun _ c => ?_) (fun _ c => ?_) (fun _ _ _ => by rw [f110]; omega) (fun _ _ _ => by rw [f110, i0]; unfold inR; omega) (fun _ c c5 c7 => ?_) (fun _ _ _ _ => by rw [f109]; unfold inR; omega) (fun _ c c5 c8 c9 => ?_) (fun _ c c5 c8 c10 => ?_) (fun _ c c6 => ?_)
    · rw [f108] at c; exact no (fun z => c z.1)
    · exact counts_CM (h.st S) (by rw [f111]; unfold inR; omega) (by rw [f112]; unfold inR; omega) o4
    · rw [f108] at c
      rw [f111, f112] at c5
      rw [f110, i0] at c7
      rw [f109, f110]
      exact go _ _ (show (0 : Nat) ≠ 1 by decide) c c5 (by rw [if_pos (Or.inl c7)])
    · rw [f108] at c
      rw [f111, f112] at c5
      rw [f110, i0] at c8
      rw [f110, f109, i0] at c9
      rw [f110]
      exact go _ _ (show (0 : Nat) ≠ 1 by decide) c c5 (by rw [if_neg (by omega)])
    · rw [f108] at c
      rw [f111, f112] at c5
      rw [f110, f109, i0] at c10
      rw [f109, f110]
      exact go _ _ (show (0 : Nat) ≠ 1 by decide) c c5 (by rw [if_pos (Or.inr c10)])
    · rw [f111, f112] at c6
      exact no (fun z => by rw [z.2] at c6; cases c6)
theorem trace_C (o : tOk d σ k s) (W : RWin σ) (A : RLaw σ) : pC mX11_trace d [(2, 68), (0, s), (0, k)] σ (fun r τ => r = none ∧ traceD σ k s τ) := by
  have o' := o
  obtain ⟨o1, S, L, P, o2, o3, o4⟩ := o'
  have p1 := P.2.1
  refine g_X11_trace_0 (Q1 := fun r τ => r = none ∧ knowD σ k τ) o1 S s k (know_C (by omega) S W L A o4) (fun τ1 e1 q1 => ?_)
  have fill : ∀ (n i : Nat) (τ : pS), i + n = 601 → TV σ k τ → (∀ m : Int, 0 ≤ m → m < (i : Int) → rd τ 113 m = -1) → pR mX11_trace d 7 [(2, 68), (0, s), (0, k), (0, (i : Int)), (9, 0), (9, 0), (9, 0)] [] τ (fun r τ => r = none ∧ traceD σ k s τ) := by
    intro n
    induction n with
    | zero =>
      intro i τ hi h v
      have e : i = 601 := by omega
      subst e
      refine g_X11_trace_7 o1 (h.st S) s k _ (9, 0) (9, 0) (9, 0) (by decide) (by decide) (by decide) (by decide) (fun _ => ?_) (fun c => by omega) (fun c => by omega)
      exact tr_29 o (fun τ h => ⟨rfl, h⟩) (rd σ 68 65).toNat 0 τ _ _ _ (by omega) (by decide) (by decide) (by decide) h (fun m m0 m1 => v m m0 (by omega))
    | succ n ih =>
      intro i τ hi h v
      refine g_X11_trace_7 o1 (h.st S) s k _ (9, 0) (9, 0) (9, 0) (by decide) (by decide) (by decide) (by omega) (fun c => by omega) (fun _ => by omega) (fun _ => ?_)
      rw [show (i : Int) + 1 = ((i + 1 : Nat) : Int) by omega]
      refine ih (i + 1) _ (by omega) (h.wr (by omega)) (fun m m0 m1 => ?_)
      by_cases c : m = (i : Int)
      · subst c; rw [rd_wr_same]
      · rw [rd_wr_i _ c]; exact v m m0 (by omega)
  exact fill 601 0 τ1 rfl q1.2.tv (fun m m0 m1 => by omega)
end
