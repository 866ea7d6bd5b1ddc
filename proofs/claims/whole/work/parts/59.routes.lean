/-! the class's ways, the reference's ways: one row of ways for both; frames -/
def FrA (a : Int) : Prop := (2 < a ∧ a < 6) ∨ a = 41 ∨ a = 42 ∨ (56 ≤ a ∧ a ≤ 60) ∨ (65 ≤ a ∧ a ≤ 67) ∨ (70 ≤ a ∧ a ≤ 76) ∨ (85 ≤ a ∧ a ≤ 88) ∨ a = 95 ∨ (101 ≤ a ∧ a ≤ 106) ∨ (113 ≤ a ∧ a ≤ 117) ∨ a = 122 ∨ (124 ≤ a ∧ a ≤ 127) ∨ (134 ≤ a ∧ a ≤ 140)
theorem RB.fr {n : Nat} {σ τ : pS} (h : RB n σ) (q1 : τ.1 = σ.1) (q2 : ∀ a i : Int, ¬ FrA a → rd τ a i = rd σ a i) : RB n τ := by
  obtain ⟨S, Z, T, F, C, L, W, P, K, R, D, E⟩ := h
  have l0 := L.1
  have le : pLe σ τ := ⟨by rw [q1]; exact Nat.le_refl _, by unfold pSz; rw [q1]; exact Nat.le_refl _, fun a q h _ => by rw [ob_eq q1]; exact h, fun a i ha => q2 a i (by unfold FrA; omega)⟩
  refine ⟨S.le le, ?_, T.mv ?_, F.mv ?_, C.mv ?_, L.mv le ?_, W.mv ?_, P.mv ?_, K.mv le ?_ (fun j h0 h1 h2 => q2 _ _ (by unfold FrA; omega)), R.mv ?_, D.mv ?_, E.mv le ?_⟩
  · unfold RSz pSz at *
    rw [q1]
    exact Z
  all_goals
    intro x y p
    first
      | unfold PTap at p
      | unfold PFau at p
      | unfold PClk at p
      | unfold PSlo at p
      | unfold PWin at p
      | unfold PPas at p
      | unfold PSki at p
      | unfold PCro at p
      | unfold PDay at p
      | unfold PExt MF at p
    exact q2 _ _ (by unfold FrA; omega)
section
variable {wy : Int → Bool} {fr to : Int → Int} {F : Int → Int → Int}
/-- the first from j on -/
def fsN (C : Int → Bool) : Nat → Nat → Int
  | 0, _ => -1
  | n + 1, j => if C (j : Int) = true then (j : Int) else fsN C n (j + 1)
theorem fsN_skip {C : Int → Bool} {n j : Nat} (h : C (j : Int) = false) : fsN C (n + 1) j = fsN C n (j + 1) := by
  show (if C (j : Int) = true then (j : Int) else fsN C n (j + 1)) = _
  rw [if_neg (by rw [h]; simp)]
theorem fsN_hit {C : Int → Bool} {n j : Nat} (h : C (j : Int) = true) : fsN C (n + 1) j = (j : Int) := if_pos h
theorem fsN_spec {C : Int → Bool} : ∀ n j : Nat, (fsN C n j = -1 ∧ ∀ w : Int, (j : Int) ≤ w → w < (j : Int) + (n : Int) → C w = false) ∨ ((j : Int) ≤ fsN C n j ∧ fsN C n j < (j : Int) + (n : Int) ∧ C (fsN C n j) = true ∧ ∀ w : Int, (j : Int) ≤ w → w < fsN C n j → C w = false)
  | 0, j => Or.inl ⟨rfl, fun w w0 w1 => by omega⟩
  | n + 1, j => by
    cases c : C (j : Int)
    · rw [fsN_skip c]
      rcases fsN_spec (C := C) n (j + 1) with ⟨h1, h2⟩ | ⟨h1, h2, h3, h4⟩
      · refine Or.inl ⟨h1, fun w w0 w1 => ?_⟩
        by_cases e : w = (j : Int)
        · rw [e]; exact c
        · exact h2 w (by omega) (by omega)
      · refine Or.inr ⟨by omega, by omega, h3, fun w w0 w1 => ?_⟩
        by_cases e : w = (j : Int)
        · rw [e]; exact c
        · exact h4 w (by omega) w1
    · rw [fsN_hit c]
      exact Or.inr ⟨Int.le_refl _, by omega, c, fun w w0 w1 => by omega⟩
def fsW (C : Int → Bool) : Int := fsN C 13 0
/-- whether a way, begun from p at m on, leads on in time: l the last minutes -/
def leadB (wy : Int → Bool) (fr to : Int → Int) (F : Int → Int → Int) (l : Int → Int) (p m w : Int) : Bool := wy w && decide (fr w = p ∧ F w m ≠ -1 ∧ F w m ≤ l (to w))
theorem leadB_t {l : Int → Int} {p m w : Int} (h : leadB wy fr to F l p m w = true) : wy w = true ∧ fr w = p ∧ F w m ≠ -1 ∧ F w m ≤ l (to w) := by simpa [leadB] using h
theorem leadB_f {l : Int → Int} {p m w : Int} (h : ¬ (fr w = p ∧ F w m ≠ -1 ∧ F w m ≤ l (to w))) : leadB wy fr to F l p m w = false := by unfold leadB; rw [decide_eq_false h, Bool.and_false]
/-- the n-th of the ways -/
def wN (wy : Int → Bool) (fr to : Int → Int) (F : Int → Int → Int) (l : Int → Int) (g : Int) : Nat → Int → Int → Int
  | 0, p, m => if p = g then -1 else vOuter (fsW (leadB wy fr to F l p m))
  | n + 1, p, m => if p = g then -1 else wN wy fr to F l g n (to (fsW (leadB wy fr to F l p m))) (F (fsW (leadB wy fr to F l p m)) m)
theorem wN_at {l : Int → Int} {g m : Int} (n : Nat) : wN wy fr to F l g n g m = -1 := by cases n <;> exact if_pos rfl
def isL (wy : Int → Bool) (fr to : Int → Int) (F : Int → Int → Int) (g v : Int) (l : Int → Int) : Prop := ∀ q : Int, 0 ≤ q → q < 10 → isLast wy fr to F g v q (l q)
/-- one leads on -/
theorem lead_ex (ok : gOk wy fr to F) {p m g v : Int} (h0 : 0 ≤ m) (hs : isSoon wy fr to F p m g v) (hv : v ≠ 1000000) (hpg : p ≠ g) {l : Int → Int} (hl : isL wy fr to F g v l) : 0 ≤ fsW (leadB wy fr to F l p m) ∧ fsW (leadB wy fr to F l p m) < 13 ∧ leadB wy fr to F l p m (fsW (leadB wy fr to F l p m)) = true := by
  rcases hs.2 with e | ⟨ws, e⟩
  · exact absurd e hv
  · match ws, e with
    | [], e => exact absurd e.1 hpg
    | w :: ws, e =>
      obtain ⟨a1, a2, a3, a4⟩ := e
      have f := ok.2.1 w m a1.2.2 h0
      have t := ok.1 w a1.2.2
      have b := (hl (to w) t.2.2.1 t.2.2.2).1 ws (F w m) v (by omega) a4 (Int.le_refl _)
      have c : leadB wy fr to F l p m w = true := by unfold leadB; rw [a1.2.2, decide_eq_true ⟨a2, a3, b⟩]; rfl
      rcases fsN_spec (C := leadB wy fr to F l p m) 13 0 with ⟨s1, s2⟩ | ⟨s1, s2, s3, s4⟩
      · have := s2 w (by omega) (by omega)
        rw [c] at this; cases this
      · unfold fsW
        exact ⟨by omega, by omega, s3⟩
/-- what leads on leads there as soon -/
theorem lead_step (ok : gOk wy fr to F) {p m g v w : Int} (h0 : 0 ≤ m) (hw : 0 ≤ w ∧ w < 13) (hs : isSoon wy fr to F p m g v) {l : Int → Int} (hl : isL wy fr to F g v l) (h : leadB wy fr to F l p m w = true) : isSoon wy fr to F (to w) (F w m) g v ∧ m < F w m ∧ F w m ≤ 540 := by
  obtain ⟨h1, h2, h3, h4⟩ := leadB_t h
  have f := ok.2.1 w m h1 h0
  have t := ok.1 w h1
  refine ⟨⟨fun ws t hr => hs.1 (w :: ws) t ⟨⟨hw.1, hw.2, h1⟩, h2, h3, hr⟩, ?_⟩, by omega, by omega⟩
  rcases (hl (to w) t.2.2.1 t.2.2.2).2 with c | ⟨c0, ws, s, c1, c2⟩
  · omega
  · obtain ⟨s', k1, k2⟩ := tRun_mono ok (by omega) h4 c2
    have := hs.1 (w :: ws) s' ⟨⟨hw.1, hw.2, h1⟩, h2, h3, k2⟩
    have e : s' = v := by omega
    subst e
    exact Or.inr ⟨ws, k2⟩
theorem isSoon.le (ok : gOk wy fr to F) {p m g v : Int} (h0 : 0 ≤ m) (h1 : m ≤ 540) (hs : isSoon wy fr to F p m g v) (hv : v ≠ 1000000) : m ≤ v ∧ v ≤ 540 := by
  rcases hs.2 with e | ⟨ws, e⟩
  · exact absurd e hv
  · have := tRun_le ok h0 e
    omega
theorem isSoon.ge (ok : gOk wy fr to F) {p m g v : Int} (h0 : 0 ≤ m) (h1 : m ≤ 540) (hs : isSoon wy fr to F p m g v) : 0 ≤ v ∧ v ≤ 1000000 := by
  by_cases c : v = 1000000
  · omega
  · have := hs.le ok h0 h1 c; omega
end
theorem cw_lt {j : Nat} (h : j < 17) : cw j < 13 := by have := cw_eq j; omega
theorem nextWay_C {d : Nat} {σ τ : pS} (hd : 4 ≤ d) (S : Stat σ) (L : RSlo σ) {k : Int} (h : CV σ k τ) {sk p m : Int} (hs : 0 ≤ sk ∧ sk < 4) (hp : 0 ≤ p ∧ p < 10) (hm : 0 ≤ m ∧ m ≤ 540) {l : Int → Int} (hl : rowIs τ 42 l) (hR : ∀ q : Int, 0 ≤ q → q < 10 → inR (l q)) : pC mX4_nextWay d [(2, 40), (0, sk), (0, p), (0, m)] τ (fun r υ => r = some (0, vOuter (fsW (leadB (wyS σ) (rd σ 77) (rd σ 78) (FS σ k sk) l p m))) ∧ υ = τ) := by
  have S2 := h.st S
  have l3 := L.2.2.2.1
  have l5 := L.2.2.2.2.2.1
  have l0 := L.1
  have I := h.i6 L
  have loop : ∀ (n j : Nat) (u6 : pV), j + n = 17 → u6.1 ≠ 1 → pR mX4_nextWay d 12 [(2, 40), (0, sk), (0, p), (0, m), (2, rd τ 35 4), (0, (j : Int)), u6] [] τ (fun r υ => r = some (0, vOuter (fsN (leadB (wyS σ) (rd σ 77) (rd σ 78) (FS σ k sk) l p m) (13 - cw j) (cw j))) ∧ υ = τ) := by
    intro n
    induction n with
    | zero =>
      intro j u6 hj hu
      have e : j = 17 := by omega
      subst e
      exact g_X4_nextWay_12 hd S2 sk p m _ _ u6 I hu (by decide) (fun _ => ⟨rfl, rfl⟩) (fun c => by omega) (fun c => by omega) (fun c => by omega) (fun c => by omega) (fun c => by omega) (fun c => by omega) (fun c => by omega) (fun c => by omega) (fun c => by omega) (fun c => by omega) (fun c => by omega) (fun c => by omega) (fun c => by omega)
    | succ n ih =>
      intro j u6 hj hu
      have cl := cw_lt (j := j) (by omega)
      have go : ∀ u6 : pV, u6.1 ≠ 1 → (cw (j + 1) = cw j ∨ (cw (j + 1) = cw j + 1 ∧ leadB (wyS σ) (rd σ 77) (rd σ 78) (FS σ k sk) l p m ((cw j : Nat) : Int) = false)) → pR mX4_nextWay d 12 [(2, 40), (0, sk), (0, p), (0, m), (2, rd τ 35 4), (0, (j : Int) + 1), u6] [] τ (fun r υ => r = some (0, vOuter (fsN (leadB (wyS σ) (rd σ 77) (rd σ 78) (FS σ k sk) l p m) (13 - cw j) (cw j))) ∧ υ = τ) := fun u6 hu hc => by
        rw [show (j : Int) + 1 = ((j + 1 : Nat) : Int) by omega]
        have := ih (j + 1) u6 (by omega) hu
        rcases hc with e | ⟨e, e2⟩
        · rw [e] at this; exact this
        · rw [e] at this
          rw [show 13 - cw j = (12 - cw j) + 1 by omega, fsN_skip e2, show 12 - cw j = 13 - (cw j + 1) by omega]
          exact this
      have wyf : ∀ w, vWay (rd σ 68 30) (rd σ 68 31) w = false → leadB (wyS σ) (rd σ 77) (rd σ 78) (FS σ k sk) l p m w = false := fun w c => by
        have : wyS σ w = false := c
        unfold leadB; rw [this, Bool.false_and]
      have key : ∀ c : vHas (rd τ (rd τ 35 4) 0) (rd τ (rd τ 35 4) 1) (j : Int) = true, cw (j + 1) = cw j + 1 ∧ wyS σ ((cw j : Nat) : Int) = true ∧ vOuter ((cw j : Nat) : Int) = (j : Int) ∧ rd τ (rd τ 35 4 + 2) (j : Int) = rd σ 77 ((cw j : Nat) : Int) ∧ rd τ (rd τ 35 4 + 3) (j : Int) = rd σ 78 ((cw j : Nat) : Int) ∧ vBehind τ (j : Int) sk m = FS σ k sk ((cw j : Nat) : Int) m ∧ 0 ≤ rd σ 77 ((cw j : Nat) : Int) ∧ rd σ 77 ((cw j : Nat) : Int) < 10 ∧ 0 ≤ rd σ 78 ((cw j : Nat) : Int) ∧ rd σ 78 ((cw j : Nat) : Int) < 10 := fun c => by
        rw [h.has L] at c
        obtain ⟨y1, y2, y3, y4⟩ := cw_yes l3.2 l5.2 c
        have e := h.ends L y2
        have b := h.behind L (sk := sk) (m := m) y2 hs hm.1
        rw [y3] at e b
        exact ⟨y1, y2, y3, e.1, e.2.1, b, e.2.2.1, e.2.2.2.1, e.2.2.2.2.1, e.2.2.2.2.2⟩
      refine g_X4_nextWay_12 hd S2 sk p m _ _ u6 I hu (by omega) (fun c => by omega) (fun _ => h.has_C S L (by omega) (by omega)) (fun _ c => ?_) (fun _ _ => by omega) (fun _ c => ?_) (fun _ _ => by omega) (fun _ c c5 => ?_) (fun _ c c6 => ?_) (fun _ c c6 => ?_) (fun _ c c6 c7 => ?_) (fun _ c c6 c8 => ?_) (fun _ c c6 c8 => ?_) (fun _ c c6 c8 c9 => ?_) (fun _ c c6 c8 c10 => ?_)
      · rw [h.has L] at c
        refine go u6 hu ?_
        rcases cw_no l3.2 l5.2 (by omega) c with e | ⟨e, e2⟩
        · exact Or.inl e
        · exact Or.inr ⟨e, wyf _ e2⟩
      · obtain ⟨y1, y2, y3, y4, y5, y6, y7, y8, y9, y10⟩ := key c
        rw [y4]; unfold inR; omega
      · obtain ⟨y1, y2, y3, y4, y5, y6, y7, y8, y9, y10⟩ := key c
        rw [y4] at c5
        exact go u6 hu (Or.inr ⟨y1, leadB_f (fun z => c5 z.1)⟩)
      · obtain ⟨y1, y2, y3, y4, y5, y6, y7, y8, y9, y10⟩ := key c
        refine behind_C (Nat.le_refl 3) S L h (by omega) hs ⟨hm.1, by omega⟩ ?_
        have := h.fo L y2 hm.1
        rw [y3] at this
        rw [this]
        have := nextOpen_spec L (k := k) y2 hm.1
        unfold inR; omega
      · obtain ⟨y1, y2, y3, y4, y5, y6, y7, y8, y9, y10⟩ := key c
        rw [y6]
        have := FS_R L (k := k) (m := m) y2 hs hm.1
        unfold inR; omega
      · obtain ⟨y1, y2, y3, y4, y5, y6, y7, y8, y9, y10⟩ := key c
        rw [y6] at c7
        exact go _ (show (0 : Nat) ≠ 1 by decide) (Or.inr ⟨y1, leadB_f (fun z => z.2.1 c7)⟩)
      · obtain ⟨y1, y2, y3, y4, y5, y6, y7, y8, y9, y10⟩ := key c
        rw [y5]; exact ⟨y9, y10⟩
      · obtain ⟨y1, y2, y3, y4, y5, y6, y7, y8, y9, y10⟩ := key c
        rw [y5, hl _ y9 y10]; exact hR _ y9 y10
      · obtain ⟨y1, y2, y3, y4, y5, y6, y7, y8, y9, y10⟩ := key c
        rw [y5, y6, hl _ y9 y10] at c9
        exact go _ (show (0 : Nat) ≠ 1 by decide) (Or.inr ⟨y1, leadB_f (fun z => by omega)⟩)
      · obtain ⟨y1, y2, y3, y4, y5, y6, y7, y8, y9, y10⟩ := key c
        rw [y5, y6, hl _ y9 y10] at c10
        rw [y4] at c6
        rw [y6] at c8
        have e : leadB (wyS σ) (rd σ 77) (rd σ 78) (FS σ k sk) l p m ((cw j : Nat) : Int) = true := by unfold leadB; rw [y2, decide_eq_true ⟨c6, c8, c10⟩]; rfl
        rw [show 13 - cw j = (12 - cw j) + 1 by omega, fsN_hit e, y3]
        exact ⟨rfl, rfl⟩
  refine g_X4_nextWay_0 hd S2 sk p m (by rw [h.s4]; omega) ?_
  exact loop 17 0 (9, 0) rfl (by decide)
def fr2 (σ τ : pS) (a b : Int) : Prop := τ.1 = σ.1 ∧ ∀ x i : Int, x ≠ a → x ≠ b → rd τ x i = rd σ x i
theorem wayOf_CX {d : Nat} {σ τ : pS} (hd : 6 ≤ d) (S : Stat σ) (L : RSlo σ) {k : Int} (h : CV σ k τ) {sk p m t n : Int} (hs : 0 ≤ sk ∧ sk < 4) (hp : 0 ≤ p ∧ p < 10) (hm : 0 ≤ m ∧ m ≤ 540) (ht : 0 ≤ t ∧ t < 10) (hn : 0 ≤ n ∧ n < 2147483648) : pC mX4_wayOf d [(2, 40), (0, sk), (0, p), (0, m), (0, t), (0, n)] τ (fun r υ => ∃ v, isSoon (wyS σ) (rd σ 77) (rd σ 78) (FS σ k sk) p m t v ∧ fr2 τ υ 41 42 ∧ ((v = 1000000 ∧ r = some (0, (-1))) ∨ (v ≠ 1000000 ∧ ∃ l, isL (wyS σ) (rd σ 77) (rd σ 78) (FS σ k sk) t v l ∧ r = some (0, wN (wyS σ) (rd σ 77) (rd σ 78) (FS σ k sk) l t n.toNat p m)))) := by
  have ok := FS_ok L k hs
  refine g_X4_wayOf_0 (Q1 := fun r υ => ∃ v, isSoon (wyS σ) (rd σ 77) (rd σ 78) (FS σ k sk) p m t v ∧ r = some (0, soonA v) ∧ qRow τ υ 41) (Q2 := fun r υ => r = none ∧ ∃ v, isSoon (wyS σ) (rd σ 77) (rd σ 78) (FS σ k sk) p m t v ∧ v ≠ 1000000 ∧ CV σ k υ ∧ fr2 τ υ 41 42 ∧ isL (wyS σ) (rd σ 77) (rd σ 78) (FS σ k sk) t v (rd υ 42)) hd (h.st S) sk p m t n (first_C (by omega) S L h hs hp hm ht) (fun v1 τ1 e1 q1 => ?_) (fun v1 τ1 e1 q1 c1 => ?_) (fun v1 τ1 e1 q1 c1 τ2 e2 q2 => ?_) (fun v1 τ1 e1 q1 c2 => ?_)
  · obtain ⟨v, y1, y2, y3⟩ := q1
    have := y1.ge ok hm.1 hm.2
    rw [so_inj y2]
    unfold soonA
    split <;> (unfold inR; omega)
  · obtain ⟨v, y1, y2, y3⟩ := q1
    have y2 := so_inj y2
    have nv : v ≠ 1000000 := fun z => by unfold soonA at y2; rw [if_pos z] at y2; exact c1 y2
    have e : soonA v = v := by unfold soonA; rw [if_neg nv]
    have b := y1.le ok hm.1 hm.2 nv
    rw [y2, e]
    have h1 := h.q L y3 (by omega)
    exact (latest_C (Nat.le_refl 4) S L h1 hs ht (by omega)).mono (fun r υ _ q => ⟨q.1, v, y1, nv, h1.q L q.2.1 (by omega), ⟨q.2.1.1.trans y3.1, fun x i x1 x2 => (q.2.1.2 x i x2).trans (y3.2 x i x1)⟩, q.2.2⟩)
  · obtain ⟨-, v, y1, nv, h2, f2, il⟩ := q2
    have loop : ∀ (fu i : Nat) (p' m' : Int) (u : pV), i + fu = 541 → (i : Int) ≤ n → (i : Int) ≤ m' → isSoon (wyS σ) (rd σ 77) (rd σ 78) (FS σ k sk) p' m' t v → 0 ≤ p' ∧ p' < 10 → 0 ≤ m' ∧ m' ≤ 540 → u.1 ≠ 1 → pR mX4_wayOf d 37 [(2, 40), (0, sk), (0, p), (0, m), (0, t), (0, n), (0, v1), (0, p'), (0, m'), (0, (i : Int)), u] [] τ2 (fun r υ => r = some (0, wN (wyS σ) (rd σ 77) (rd σ 78) (FS σ k sk) (rd τ2 42) t (n - (i : Int)).toNat p' m') ∧ υ = τ2) := by
      intro fu
      induction fu with
      | zero => intro i p' m' u hi hn hm' hs' hp' hmm hu; omega
      | succ fu ih =>
        intro i p' m' u hi hin hm' hs' hp' hmm hu
        have ex := fun hne : p' ≠ t => lead_ex ok hmm.1 hs' nv hne il
        have lt : ∀ w : Int, leadB (wyS σ) (rd σ 77) (rd σ 78) (FS σ k sk) (rd τ2 42) p' m' w = true → wyS σ w = true ∧ rd σ 77 w = p' ∧ FS σ k sk w m' ≠ -1 ∧ FS σ k sk w m' ≤ rd τ2 42 (rd σ 78 w) := fun w hw => leadB_t hw
        refine g_X4_wayOf_37 (Q1 := fun r υ => r = some (0, vOuter (fsW (leadB (wyS σ) (rd σ 77) (rd σ 78) (FS σ k sk) (rd τ2 42) p' m'))) ∧ υ = τ2) hd (h2.st S) sk p m t n v1 p' m' _ u hu (by omega) (fun c => by omega) (fun _ => by omega) (fun _ => by omega) (fun _ c => ?_) (fun _ _ => ?_) (fun _ c4 w τ3 e3 q3 => ?_) (fun _ c4 w τ3 e3 q3 c5 => ?_) (fun _ _ _ _ _ _ _ => by omega) (fun _ c4 w τ3 e3 q3 c6 c7 => ?_) (fun _ c4 w τ3 e3 q3 c6 c7 => ?_) (fun _ c4 w τ3 e3 q3 c6 c7 => ?_) (fun _ c4 w τ3 e3 q3 c6 c7 => ?_) (fun _ c4 w τ3 e3 q3 c6 c8 => ?_)
        · subst c
          rw [wN_at]
          exact ⟨rfl, rfl⟩
        · exact nextWay_C (Nat.le_refl 4) S L h2 hs hp' hmm (fun q q0 q1 => rfl) (fun q q0 q1 => by
            rcases (il q q0 q1).2 with e | ⟨e, ws, s, s1, s2⟩
            · rw [e]; decide
            · have := tRun_le ok e s2
              have := y1.le ok hm.1 hm.2 nv
              unfold inR; omega)
        · have e := ex c4
          have o := vOuter_of (lt _ e.2.2).1 L.2.2.2.1.2 L.2.2.2.2.2.1.2
          rw [so_inj q3.1]
          unfold inR; omega
        · have e := ex c4
          have o := vOuter_of (lt _ e.2.2).1 L.2.2.2.1.2 L.2.2.2.2.2.1.2
          rw [so_inj q3.1] at c5
          omega
        · obtain ⟨q4, q5⟩ := q3
          subst q5
          have e := ex c4
          have o := vOuter_of (lt _ e.2.2).1 L.2.2.2.1.2 L.2.2.2.2.2.1.2
          rw [so_inj q4]
          refine behind_C (Nat.le_refl 3) S L h2 ⟨o.1, o.2.1⟩ hs ⟨hmm.1, by omega⟩ ?_
          rw [h2.fo L (lt _ e.2.2).1 hmm.1]
          have := nextOpen_spec L (k := k) (lt _ e.2.2).1 hmm.1
          unfold inR; omega
        · rw [q3.2]; exact h2.i6 L
        · have e := ex c4
          have o := vOuter_of (lt _ e.2.2).1 L.2.2.2.1.2 L.2.2.2.2.2.1.2
          rw [so_inj q3.1]
          exact ⟨o.1, o.2.1⟩
        · obtain ⟨q4, q5⟩ := q3
          subst q5
          have e := ex c4
          obtain ⟨w1, w2, w3, w4⟩ := lt _ e.2.2
          have st := lead_step ok hmm.1 ⟨e.1, e.2.1⟩ hs' il e.2.2
          have en := h2.ends L w1
          rw [so_inj q4, en.2.1, h2.behind L w1 hs hmm.1, show (i : Int) + 1 = ((i + 1 : Nat) : Int) by omega]
          have := ih (i + 1) _ _ (0, vOuter (fsW (leadB (wyS σ) (rd σ 77) (rd σ 78) (FS σ k sk) (rd τ3 42) p' m'))) (by omega) (by omega) (by omega) st.1 ⟨en.2.2.2.2.1, en.2.2.2.2.2⟩ ⟨by omega, st.2.2⟩ (show (0 : Nat) ≠ 1 by decide)
          rw [show (n - (i : Int)).toNat = (n - ((i + 1 : Nat) : Int)).toNat + 1 by omega]
          have ew : wN (wyS σ) (rd σ 77) (rd σ 78) (FS σ k sk) (rd τ3 42) t ((n - ((i + 1 : Nat) : Int)).toNat + 1) p' m' = wN (wyS σ) (rd σ 77) (rd σ 78) (FS σ k sk) (rd τ3 42) t (n - ((i + 1 : Nat) : Int)).toNat (rd σ 78 (fsW (leadB (wyS σ) (rd σ 77) (rd σ 78) (FS σ k sk) (rd τ3 42) p' m'))) (FS σ k sk (fsW (leadB (wyS σ) (rd σ 77) (rd σ 78) (FS σ k sk) (rd τ3 42) p' m')) m') := if_neg c4
          rw [ew]
          exact this
        · obtain ⟨q4, q5⟩ := q3
          subst q5
          rw [so_inj q4, show (n - (i : Int)).toNat = 0 by omega]
          refine ⟨?_, rfl⟩
          show _ = some (0, if p' = t then -1 else _)
          rw [if_neg c4]
    have := loop 541 0 p m (9, 0) rfl (by omega) (by omega) y1 hp hm (by decide)
    refine pR.mono this (fun r υ _ q => ⟨v, y1, by rw [q.2]; exact f2, Or.inr ⟨nv, _, il, ?_⟩⟩)
    rw [q.1]
    simp
  · obtain ⟨v, y1, y2, y3⟩ := q1
    have y2 := so_inj y2
    refine ⟨v, y1, ⟨y3.1, fun x i x1 x2 => y3.2 x i x1⟩, Or.inl ⟨?_, rfl⟩⟩
    by_cases c : v = 1000000
    · exact c
    · have b := y1.le ok hm.1 hm.2 c
      unfold soonA at y2
      rw [if_neg c] at y2
      omega
theorem lastAt_C {d : Nat} {σ τ : pS} (hd : 5 ≤ d) (S : Stat σ) (L : RSlo σ) {k : Int} (h : CV σ k τ) {sk p t : Int} (hs : 0 ≤ sk ∧ sk < 4) (hp : 0 ≤ p ∧ p < 10) (ht : 0 ≤ t ∧ t < 10) : pC mX4_lastMinuteAt d [(2, 40), (0, sk), (0, p), (0, t)] τ (fun r υ => ∃ v, isLast (wyS σ) (rd σ 77) (rd σ 78) (FS σ k sk) t 1000000 p v ∧ r = some (0, v) ∧ qRow τ υ 42) :=
  g_X4_lastMinuteAt_0 hd (h.st S) sk p t (latest_C (by omega) S L h hs ht (by omega)) (fun _ _ _ => hp) (fun υ e q => ⟨_, q.2.2 p hp.1 hp.2, rfl, q.2.1⟩)
