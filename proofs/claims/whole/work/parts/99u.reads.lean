/-! the reference reads lines -/
def mOB (K V : Nat → Int) (s : mdS) (φ : pS) : Prop := rd φ 68 17 = (mL s : Int) ∧ rd φ 68 18 = (mR s : Int) ∧ rd φ 68 19 = mHm s ∧ rd φ 68 21 = b2i (mTd s) ∧ (∀ w : Nat, w < mL s → rd φ 70 (w : Int) = cd (V (mB s w + 1)) ∧ (∀ a : Int, 71 ≤ a → a ≤ 76 → rd φ a (w : Int) = liftG V (mB s w) a) ∧ rd φ 83 (w : Int) = b2i (decide (K (mB s w + 12) = 7))) ∧ ∀ r : Nat, r < mR s → rd φ 70 ((6 + r : Nat) : Int) = cd (V (mB s (10 + r) + 1)) ∧ ∀ a : Int, 71 ≤ a → a ≤ 75 → rd φ a ((6 + r : Nat) : Int) = runG V (mB s (10 + r)) a
def rlFr (φ τ : pS) : Prop := τ.1 = φ.1 ∧ ∀ a i : Int, ¬ (a = 68 ∧ ((2 ≤ i ∧ i ≤ 9 ∧ i ≠ 5) ∨ (17 ≤ i ∧ i ≤ 21))) → ¬ (70 ≤ a ∧ a ≤ 76) → a ≠ 83 → rd τ a i = rd φ a i
theorem rlFr.rf (φ : pS) : rlFr φ φ := ⟨rfl, fun _ _ _ _ _ => rfl⟩
theorem rlFr.tr {σ τ υ : pS} (h : rlFr σ τ) (g : rlFr τ υ) : rlFr σ υ := ⟨g.1.trans h.1, fun a i q1 q2 q3 => (g.2 a i q1 q2 q3).trans (h.2 a i q1 q2 q3)⟩
theorem mFr.rl {φ τ : pS} (h : mFr φ τ) : rlFr φ τ := ⟨h.1, fun a i q _ _ => h.2 a i (by omega)⟩
theorem wyM.rl {x : Int} {φ τ : pS} (h : wyM x φ τ) : rlFr φ τ := ⟨h.1, fun a i q1 q2 q3 => h.2 a i (by omega) (by omega) (by omega)⟩
theorem mOB.mF {K V : Nat → Int} {s : mdS} {φ τ : pS} (h : mOB K V s φ) (f : mFr φ τ) : mOB K V s τ := by
  obtain ⟨h1, h2, h3, h4, h5, h6⟩ := h
  refine ⟨(f.2 _ _ (by omega)).trans h1, (f.2 _ _ (by omega)).trans h2, (f.2 _ _ (by omega)).trans h3, (f.2 _ _ (by omega)).trans h4, fun w hw => ?_, fun r hr => ?_⟩
  · obtain ⟨a1, a2, a3⟩ := h5 w hw
    exact ⟨(f.2 _ _ (by omega)).trans a1, fun a a0 a1 => (f.2 _ _ (by omega)).trans (a2 a a0 a1), (f.2 _ _ (by omega)).trans a3⟩
  · obtain ⟨a1, a2⟩ := h6 r hr
    exact ⟨(f.2 _ _ (by omega)).trans a1, fun a a0 a1 => (f.2 _ _ (by omega)).trans (a2 a a0 a1)⟩
theorem mInv.nm {σ : pS} {n : Int} {K P V E : Nat → Int} {c : Nat} (T : TK σ n K P V E c) {s : mdS} (I : mInv K P V c s) {w : Nat} (h : w < mL s ∨ (10 ≤ w ∧ w < 10 + mR s)) : (∃ l : List Int, isLs l ∧ V (mB s w + 1) = w32 l) ∧ V (mB s w + 1) < 1099511627776 := by
  have R := T.R
  obtain ⟨i1, i2, i3, i4, i5, i6, i7⟩ := I
  rcases h with z | z
  · obtain ⟨b, nt, e⟩ := i6 w z
    have q := lift_none R b e
    exact ⟨T.wordV (R.lt (by omega) (by omega)) q.1, q.2.1.2⟩
  · obtain ⟨b, nt, e⟩ := i7 w z.1 z.2
    have q := run_none R b e
    exact ⟨T.wordV (R.lt (by omega) (by omega)) q.1, q.2.1.2⟩
theorem mOB.nt {σ : pS} {n : Int} {K P V E : Nat → Int} {c : Nat} (T : TK σ n K P V E c) {s : mdS} {φ : pS} (I : mInv K P V c s) (B : mOB K V s φ) {v : Int} (hv : ∃ l : List Int, isLs l ∧ v = w32 l) : tdM φ (mL s) (mR s) (cd v) ↔ ntS V s v = false := by
  have i1 := I.1
  have i2 := I.2.1
  unfold ntS
  rw [decide_eq_false_iff_not]
  constructor
  · intro ⟨k, k1, k2, k3⟩ h
    by_cases z : k < mL s
    · rw [(B.2.2.2.2.1 k z).1] at k3
      exact h k (by omega) (decide_eq_true (Or.inl z)) (cd_inj (I.nm T (Or.inl z)).1 hv k3)
    · obtain ⟨r, rfl⟩ : ∃ r, k = 6 + r := ⟨k - 6, by omega⟩
      rw [(B.2.2.2.2.2 r (by omega)).1] at k3
      exact h (10 + r) (by omega) (decide_eq_true (Or.inr (by omega))) (cd_inj (I.nm T (Or.inr (by omega))).1 hv k3)
  · intro h
    refine Classical.byContradiction fun no => h fun w hw ht e => no ?_
    unfold mTold at ht
    have ht := of_decide_eq_true ht
    rcases ht with z | z
    · exact ⟨w, by omega, Or.inl z, by rw [(B.2.2.2.2.1 w z).1, e]⟩
    · obtain ⟨r, rfl⟩ : ∃ r, w = 10 + r := ⟨w - 10, by omega⟩
      exact ⟨6 + r, by omega, Or.inr (by omega), by rw [(B.2.2.2.2.2 r (by omega)).1, e]⟩
theorem mOB.nmL {σ : pS} {n : Int} {K P V E : Nat → Int} {c : Nat} (T : TK σ n K P V E c) {s : mdS} {φ : pS} (I : mInv K P V c s) (B : mOB K V s φ) (k : Nat) (hk : k < mL s ∨ (6 ≤ k ∧ k < 6 + mR s)) : inL (rd φ 70 (k : Int)) := by
  have i1 := I.1
  rcases hk with z | z
  · rw [(B.2.2.2.2.1 k z).1]
    have := I.nm T (Or.inl z)
    exact cd_L this.1 this.2
  · obtain ⟨r, rfl⟩ : ∃ r, k = 6 + r := ⟨k - 6, by omega⟩
    rw [(B.2.2.2.2.2 r (by omega)).1]
    have := I.nm T (w := 10 + r) (Or.inr (by omega))
    exact cd_L this.1 this.2
/-- the name of a way is looked at -/
theorem wayName {σ : pS} {n : Int} {K P V E : Nat → Int} {c : Nat} {x : Int} {φ : pS} {s : mdS} {j : Nat} (S : Stat φ) (T : TK σ n K P V E c) (I : mInv K P V c s) (B : mOB K V s φ) (H : mSt σ n K P V E c none (j + 1) φ) :
    (inR (rd φ 68 6) ∧ (rd φ 68 6 = 1 → inL (rd φ 68 9)) ∧ (vIsN φ = true ↔ K (j + 1) = 18)) ∧
    (K (j + 1) = 18 → pC mX11_isTold 0 [(2, 68), (1, rd φ 68 9)] φ (fun r τ => ∃ v, r = some (0, v) ∧ (v = 0 ∨ v = 1) ∧ (v = 1 ↔ ntS V s (V (j + 1)) = false) ∧ τ = φ)) ∧
    (K (j + 1) ≠ 18 → pC mX11_wrong 0 [(2, 68), (0, 2)] φ (fun r τ => r = none ∧ rBd σ n K P V E c x φ (oo (ck K P (decide (K (j + 1) = 18)) 2 (j + 1)) (ck K P (ntS V s (V (j + 1))) 3 (j + 1))) (j + 1) (fun a => rd φ a x) τ)) ∧
    (K (j + 1) = 18 → ntS V s (V (j + 1)) = false → pC mX11_wrong 0 [(2, 68), (0, 3)] φ (fun r τ => r = none ∧ rBd σ n K P V E c x φ (oo (ck K P (decide (K (j + 1) = 18)) 2 (j + 1)) (ck K P (ntS V s (V (j + 1))) 3 (j + 1))) (j + 1) (fun a => rd φ a x) τ)) ∧
    (K (j + 1) = 18 → ntS V s (V (j + 1)) = true → rBd σ n K P V E c x φ (oo (ck K P (decide (K (j + 1) = 18)) 2 (j + 1)) (ck K P (ntS V s (V (j + 1))) 3 (j + 1))) (j + 1) (fun a => rd φ a x) φ) := by
  have R := T.R
  have hc := (H.2.1 rfl).2.2
  have so := hc.sort R
  have wd := hc.word R
  have b0 : rBd σ n K P V E c x φ none (j + 1) (fun a => rd φ a x) φ := ⟨H, ⟨rfl, fun _ _ _ _ _ => rfl⟩, ⟨rfl, rfl⟩, fun _ _ _ _ => rfl⟩
  refine ⟨⟨by unfold inR; omega, fun z => (wd.2.2 z).2.1, by rw [wd.2.1]; exact decide_eq_true_iff⟩, fun k => ?_, fun k => ?_, fun k y => ?_, fun k y => ?_⟩
  · have jc : j + 1 < c := R.lt hc.1 (by omega)
    have w := wd.2.2 (so.2.2.2.1.mp (by omega))
    refine (isTold_C S B.1 B.2.1 I.1 I.2.1 w.2.1 (fun k hk => B.nmL T I k hk)).mono fun r τ _ ⟨v, q1, q2, q3, q4⟩ => ⟨v, q1, q2, ?_, q4⟩
    rw [q3, w.1]
    exact B.nt T I (T.wordV jc k)
  · refine (wrong_M S R H (w := 2) (by decide) (j + 1)).mono fun r τ _ q => ⟨q.1, rB_fr b0 q.2.1 ?_ (fun _ => rfl)⟩
    have := q.2.2
    rw [ck_f (decide_eq_false k)]
    exact this
  · refine (wrong_M S R H (w := 3) (by decide) (j + 1)).mono fun r τ _ q => ⟨q.1, rB_fr b0 q.2.1 ?_ (fun _ => rfl)⟩
    have := q.2.2
    rw [ck_t (decide_eq_true k), ck_f y]
    exact this
  · rw [ck_t (decide_eq_true k), ck_t y]
    exact b0
theorem readWayL_C {σ : pS} {n : Int} {K P V E : Nat → Int} {c d : Nat} {φ : pS} {s : mdS} {j : Nat} (hd : 3 ≤ d) (S : Stat φ) (T : TK σ n K P V E c) (I : mInv K P V c s) (B : mOB K V s φ) (H : mSt σ n K P V E c none (j + 1) φ) (l6 : mL s < 6) : pC mX11_readWay d [(2, 68), (0, 1)] φ (liftM σ n K P V E c (mL s : Int) φ (ntS V s (V (j + 1))) j) := by
  obtain ⟨⟨w1, w2, w3⟩, w4, w5, w6, w7⟩ := wayName (x := (mL s : Int)) S T I B H
  have go : ∀ τ : pS, rBd σ n K P V E c (mL s : Int) φ (oo (ck K P (decide (K (j + 1) = 18)) 2 (j + 1)) (ck K P (ntS V s (V (j + 1))) 3 (j + 1))) (j + 1) (fun a => rd φ a (mL s : Int)) τ → pR mX11_readWay d 50 [(2, 68), (0, 1), (0, (rd φ 68 17)), (9, 0), (9, 0)] [] τ (liftM σ n K P V E c (mL s : Int) φ (ntS V s (V (j + 1))) j) := fun τ h => by
    rw [B.1]
    exact readWayL_50 hd S T h rfl (by omega) (9, 0) (9, 0) (by decide) (by decide)
  refine g_X11_readWayL_0 (Q1 := fun r τ => ∃ v, r = some (0, v) ∧ (v = 0 ∨ v = 1) ∧ (v = 1 ↔ ntS V s (V (j + 1)) = false) ∧ τ = φ) (Q2 := fun r τ => r = none ∧ rBd σ n K P V E c (mL s : Int) φ (oo (ck K P (decide (K (j + 1) = 18)) 2 (j + 1)) (ck K P (ntS V s (V (j + 1))) 3 (j + 1))) (j + 1) (fun a => rd φ a (mL s : Int)) τ) (Q3 := fun r τ => r = none ∧ rBd σ n K P V E c (mL s : Int) φ (oo (ck K P (decide (K (j + 1) = 18)) 2 (j + 1)) (ck K P (ntS V s (V (j + 1))) 3 (j + 1))) (j + 1) (fun a => rd φ a (mL s : Int)) τ) hd S (isName_C S w1 w2) (fun c1 => w4 (w3.mp c1)) (fun _ v2 b2 _ _ _ => by unfold inR; omega) (fun c1 v2 b2 τ2 _ q2 c3 => ?_) (fun c1 v2 b2 τ2 _ q2 c4 => ?_) (fun c1 v2 b2 τ2 _ q2 c4 τ3 _ q3 => go τ3 q3.2) (fun c2 => w5 (fun z => by rw [w3.mpr z] at c2; cases c2)) (fun c2 τ4 _ q4 => go τ4 q4.2)
  · obtain ⟨v, e, a1, a2, a3⟩ := q2
    have e := so_inj e
    rw [a3]
    refine go φ (w7 (w3.mp c1) ?_)
    cases y : ntS V s (V (j + 1)) with
    | true => rfl
    | false => have := a2.mpr y; omega
  · obtain ⟨v, e, a1, a2, a3⟩ := q2
    have e := so_inj e
    rw [a3]
    exact w6 (w3.mp c1) (a2.mp (by omega))
theorem readWayR_C {σ : pS} {n : Int} {K P V E : Nat → Int} {c d : Nat} {φ : pS} {s : mdS} {j : Nat} (hd : 3 ≤ d) (S : Stat φ) (T : TK σ n K P V E c) (I : mInv K P V c s) (B : mOB K V s φ) (H : mSt σ n K P V E c none (j + 1) φ) (r7 : mR s < 7) : pC mX11_readWay d [(2, 68), (0, 0)] φ (runM σ n K P V E c ((6 + mR s : Nat) : Int) φ (ntS V s (V (j + 1))) j) := by
  obtain ⟨⟨w1, w2, w3⟩, w4, w5, w6, w7⟩ := wayName (x := ((6 + mR s : Nat) : Int)) S T I B H
  have go : ∀ τ : pS, rBd σ n K P V E c ((6 + mR s : Nat) : Int) φ (oo (ck K P (decide (K (j + 1) = 18)) 2 (j + 1)) (ck K P (ntS V s (V (j + 1))) 3 (j + 1))) (j + 1) (fun a => rd φ a ((6 + mR s : Nat) : Int)) τ → pR mX11_readWay d 50 [(2, 68), (0, 0), (0, (6 + (rd φ 68 18))), (9, 0), (9, 0)] [] τ (runM σ n K P V E c ((6 + mR s : Nat) : Int) φ (ntS V s (V (j + 1))) j) := fun τ h => by
    rw [B.2.1, show (6 : Int) + (mR s : Int) = ((6 + mR s : Nat) : Int) by omega]
    exact readWayR_50 hd S T h rfl (by omega) (9, 0) (9, 0) (by decide) (by decide)
  refine g_X11_readWayR_0 (Q1 := fun r τ => ∃ v, r = some (0, v) ∧ (v = 0 ∨ v = 1) ∧ (v = 1 ↔ ntS V s (V (j + 1)) = false) ∧ τ = φ) (Q2 := fun r τ => r = none ∧ rBd σ n K P V E c ((6 + mR s : Nat) : Int) φ (oo (ck K P (decide (K (j + 1) = 18)) 2 (j + 1)) (ck K P (ntS V s (V (j + 1))) 3 (j + 1))) (j + 1) (fun a => rd φ a ((6 + mR s : Nat) : Int)) τ) (Q3 := fun r τ => r = none ∧ rBd σ n K P V E c ((6 + mR s : Nat) : Int) φ (oo (ck K P (decide (K (j + 1) = 18)) 2 (j + 1)) (ck K P (ntS V s (V (j + 1))) 3 (j + 1))) (j + 1) (fun a => rd φ a ((6 + mR s : Nat) : Int)) τ) hd S (isName_C S w1 w2) (fun c1 => w4 (w3.mp c1)) (fun _ v2 b2 _ _ _ => by unfold inR; omega) (fun c1 v2 b2 τ2 _ q2 c3 => ?_) (fun c1 v2 b2 τ2 _ q2 c4 => ?_) (fun c1 v2 b2 τ2 _ q2 c4 τ3 _ q3 => go τ3 q3.2) (fun c2 => w5 (fun z => by rw [w3.mpr z] at c2; cases c2)) (fun c2 τ4 _ q4 => go τ4 q4.2)
  · obtain ⟨v, e, a1, a2, a3⟩ := q2
    have e := so_inj e
    rw [a3]
    refine go φ (w7 (w3.mp c1) ?_)
    cases y : ntS V s (V (j + 1)) with
    | true => rfl
    | false => have := a2.mpr y; omega
  · obtain ⟨v, e, a1, a2, a3⟩ := q2
    have e := so_inj e
    rw [a3]
    exact w6 (w3.mp c1) (a2.mp (by omega))
