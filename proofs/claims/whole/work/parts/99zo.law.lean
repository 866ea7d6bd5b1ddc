/-! the class reads what AND, OR, NOT and brackets join -/
section LWE
variable {K P V : Nat → Int} {c : Nat} {l : Int} {m : Nat} {rn : Bool}
theorem lwQ.to {X : lR} {σ τ : pS} {r : Option pV} (H : lwQ K P V c l m rn X σ r τ) {F : lq → lR} (hF : ∀ q, X = .inr q → ∃ q', F q = .inr q' ∧ qJ q' = qJ q ∧ qU q' = qU q ∧ qB q' = qB q) : lwQ K P V c l m rn (lbd X F) σ r τ := by
  cases X with
  | inl x0 => exact lwQ.bad (x := x0) rfl H.1 (H.2.1 x0 rfl).1 (H.2.1 x0 rfl).2.1 (H.2.1 x0 rfl).2.2
  | inr q =>
    obtain ⟨q', e1, e2, e3, e4⟩ := hF q rfl
    exact lwQ.ok (q := q') e1 H.1 (H.2.2 q rfl).1 ((H.2.2 q rfl).2.cong e2 e3 e4)
/-- what a deeper descent is known to do -/
def lwH (K P V : Nat → Int) (c : Nat) (l : Int) (m : Nat) (rn : Bool) (rec : Nat → lq → lR) (dE e0 : Nat) : Prop := ∀ (oth : Nat) (q : lq) (σ : pS), e0 < oth → oth ≤ 7 → Stat σ → Inst2 σ l m → lwS K P V c l rn q σ → lwI q → pC mX2_readEither dE [(2, l), (2, 2), (0, (oth : Int))] σ (lwQ K P V c l m rn (rec oth q) σ)
theorem nest_C {dE e0 : Nat} {rec : Nat → lq → lR} (hE : 11 ≤ dE) (R : tkR K V c) (hl : 141 ≤ l) (hm : c < m ∧ m < 100000) (hr : recOk c rn rec) (hH : lwH K P V c l m rn rec dE e0) {q : lq} {σ : pS} {dep : Nat} {x2 : Int} (S : Stat σ) (I : Inst2 σ l m) (s : lwS K P V c l rn q σ) (i : lwI q) (h0 : e0 ≤ dep) (h7 : dep ≤ 7) (ex : x2 = (dep : Int)) (k40 : K (qJ q) = 40) : pC mX2_readNested (dE + 1) [(2, l), (2, 2), (0, x2)] σ (lwQ K P V c l m rn (nsF K P rec dep q) σ) := by
  subst ex
  obtain ⟨eK, jc, rK⟩ := s.k R
  have jl : qJ q < c := R.lt jc (by omega)
  by_cases h6 : 6 < dep
  · have e0 : nsF K P rec dep q = .inl (flt K P 2 (qJ q)) := if_pos h6
    have n6 : ¬ (dep : Int) ≤ 6 := by omega
    exact g_X2_readNested_0 (Q1 := fun _ _ => True) (Q2 := fun _ _ => True) (Q3 := fun _ _ => True) (Q4 := lwQ K P V c l m rn (nsF K P rec dep q) σ) (by omega) S l dep I (by unfold inR; omega) (fun c1 => absurd c1 n6) (fun c1 => absurd c1 n6) (fun c1 => absurd c1 n6) (fun c1 => absurd c1 n6) (fun c1 => absurd c1 n6) (fun c1 => absurd c1 n6) (fun c1 => absurd c1 n6) (fun c1 => absurd c1 n6) (fun _ => failQ S R hl hm (lwF.rf l σ) s i (by decide) e0) (fun _ _ _ _ _ z => z)
  · have e1 : nsF K P rec dep q = lbd (rec (dep + 1) (qNx q)) (fun q2 => if K (qJ q2) = 41 then .inr (qNx q2) else .inl (flt K P 2 (qJ q2))) := if_neg h6
    rw [e1]
    have f2 : ∀ τ : pS, lwF l σ τ → lwS K P V c l rn (qNx q) τ → pC mX2_readEither dE [(2, l), (2, 2), (0, (dep : Int) + 1)] τ (lwQ K P V c l m rn (rec (dep + 1) (qNx q)) σ) := fun τ f y => (hH (dep + 1) (qNx q) τ (by omega) (by omega) (S.eq f.1) (I.eq f.1) y i.nx).mono fun r υ _ z => lwQ.tr f z
    cases hX : rec (dep + 1) (qNx q) with
    | inl x =>
      rw [hX] at f2
      exact g_X2_readNested_0 (Q1 := fun r τ => r = none ∧ lwF l σ τ ∧ lwS K P V c l rn (qNx q) τ) (Q2 := lwQ K P V c l m rn (.inl x) σ) (Q3 := fun _ _ => True) (Q4 := fun _ _ => True) (by omega) S l dep I (by unfold inR; omega) (fun _ => stepQ S R hl (lwF.rf l σ) s (by omega)) (fun _ τ1 _ q1 => f2 τ1 q1.2.1 q1.2.2) (fun _ _ _ _ v2 b2 _ _ _ => by unfold inR; omega) (fun _ _ _ _ v2 _ τ2 _ q2 _ => lwQ.bad (x := x) rfl q2.1 rfl (q2.2.1 x rfl).2.1 (q2.2.1 x rfl).2.2) (fun _ _ _ _ v2 _ τ2 _ q2 c4 => absurd q2.v0 c4) (fun _ _ _ _ v2 _ τ2 _ q2 c4 => absurd q2.v0 c4) (fun _ _ _ _ v2 _ τ2 _ q2 c4 => absurd q2.v0 c4) (fun _ _ _ _ v2 _ τ2 _ q2 c4 => absurd q2.v0 c4) (fun c2 => by omega) (fun c2 => by omega)
    | inr q2 =>
      rw [hX] at f2
      have x2 := hr (dep + 1) (qNx q) q2 (show qJ q + 1 ≤ c by omega) hX
      have i2 := x2.1.inv i.nx
      let X3 : lR := if K (qJ q2) = 41 then .inr (qNx q2) else .inl (flt K P 2 (qJ q2))
      show pC mX2_readNested (dE + 1) [(2, l), (2, 2), (0, (dep : Int))] σ (lwQ K P V c l m rn X3 σ)
      refine g_X2_readNested_0 (Q1 := fun r τ => r = none ∧ lwF l σ τ ∧ lwS K P V c l rn (qNx q) τ) (Q2 := lwQ K P V c l m rn (.inr q2) σ) (Q3 := lwQ K P V c l m rn X3 σ) (Q4 := fun _ _ => True) (by omega) S l dep I (by unfold inR; omega) (fun _ => stepQ S R hl (lwF.rf l σ) s (by omega)) (fun _ τ1 _ q1 => f2 τ1 q1.2.1 q1.2.2) (fun _ _ _ _ v2 b2 _ _ _ => by unfold inR; omega) (fun _ _ _ _ v2 _ τ2 _ q2 c3 => by rw [q2.v1] at c3; cases c3) (fun _ _ _ _ v2 _ τ2 _ z _ => expQ (S.eq z.1.1) R hl hm z.1 (z.2.2 q2 rfl).2 i2 (by decide)) (fun _ _ _ _ _ _ _ _ _ _ v3 b3 _ _ _ => by unfold inR; omega) (fun _ _ _ _ _ _ _ _ _ _ v3 _ τ3 _ z c5 => ?_) (fun _ _ _ _ _ _ _ _ _ _ v3 b3 τ3 _ z c6 => ?_) (fun c2 => by omega) (fun c2 => by omega)
      · rw [c5] at z; exact z
      · have e : v3 = 1 := by omega
        rw [e] at z; exact z
def onG (K P V : Nat → Int) (rn : Bool) (rec : Nat → lq → lR) (n oth f dep : Nat) (q : lq) : lR := match ntF K P f dep q with
  | .inl x => .inl x
  | .inr (dep', q1) => lbd (if K (qJ q1) = 40 then nsF K P rec dep' q1 else cmF K P V rn n q1) (fun q3 => .inr (qNt (dep' - oth) q3))
theorem one_L {dE e0 : Nat} {rec : Nat → lq → lR} (hE : 11 ≤ dE) (R : tkR K V c) (hc : c ≤ 500) (hl : 141 ≤ l) (hm : c < m ∧ m < 100000) {n : Nat} (hn : c < n) (hr : recOk c rn rec) (hH : lwH K P V c l m rn rec dE e0) : ∀ (f dep : Nat) {q : lq} {σ : pS} {x3 x4 : Int}, Stat σ → Inst2 σ l m → lwS K P V c l rn q σ → lwI q → e0 ≤ dep → dep ≤ 7 → x3 = (dep : Int) → x4 = x3 - (e0 : Int) → 7 < f + dep → pR mX2_readOne (dE + 2) 5 [(2, l), (2, 2), (0, (e0 : Int)), (0, x3), (0, x4)] [] σ (lwQ K P V c l m rn (onG K P V rn rec n e0 f dep q) σ)
  | 0, dep, q, σ, x3, x4, _, _, _, _, _, _, _, _, _ => by omega
  | f + 1, dep, q, σ, x3, x4, S, I, s, i, h0, h7, e3, e4, hf => by
    obtain ⟨eK, jc, rK⟩ := s.k R
    have n1 : ¬ 500 ≤ x4 := by omega
    have e1 : K (qJ q) ≠ 14 → onG K P V rn rec n e0 (f + 1) dep q = lbd (if K (qJ q) = 40 then nsF K P rec dep q else cmF K P V rn n q) (fun q3 => .inr (qNt (dep - e0) q3)) := fun z => by
      unfold onG
      rw [show ntF K P (f + 1) dep q = .inr (dep, q) from if_neg z]
    have e2 : K (qJ q) = 14 → onG K P V rn rec n e0 (f + 1) dep q = if 6 < dep then .inl (flt K P 2 (qJ q)) else onG K P V rn rec n e0 f (dep + 1) (qNx q) := fun z => by
      unfold onG
      rw [show ntF K P (f + 1) dep q = if 6 < dep then .inl (flt K P 2 (qJ q)) else ntF K P f (dep + 1) (qNx q) from if_pos z]
      by_cases w : 6 < dep
      · rw [if_pos w, if_pos w]
      · rw [if_neg w, if_neg w]
    have par : (x3 - (e0 : Int)) % 2 = 0 ↔ (dep - e0) % 2 = 0 := by omega
    have sub : 0 ≤ x3 - (e0 : Int) ∧ x3 - (e0 : Int) < 2147483648 := by omega
    have rm : inR ((x3 - (e0 : Int)) % 2) := by unfold inR; omega
    have t0 : ∀ (X : lR) (r : Option pV) (τ : pS), lwQ K P V c l m rn X σ r τ → (x3 - (e0 : Int)) % 2 = 0 → lwQ K P V c l m rn (lbd X (fun q3 => .inr (qNt (dep - e0) q3))) σ r τ := fun X r τ z y => z.to (fun q1 _ => ⟨_, rfl, rfl, rfl, by
      show qB q1 ++ (if (dep - e0) % 2 = 0 then [] else [((20 : Int), (0 : Int))]) = qB q1
      rw [if_pos (par.mp y), List.append_nil]⟩)
    have t1 : ∀ (X : lR) (v : Int) (τ υ : pS), lwQ K P V c l m rn X σ (some (0, v)) τ → lwP K P V c l m rn X 20 σ υ → (x3 - (e0 : Int)) % 2 ≠ 0 → lwQ K P V c l m rn (lbd X (fun q3 => .inr (qNt (dep - e0) q3))) σ (some (0, v)) υ := fun X v τ υ z w y => w.to z (lwF.rf l σ) (fun q1 _ => ⟨_, rfl, rfl, rfl, by
      show qB q1 ++ (if (dep - e0) % 2 = 0 then [] else [((20 : Int), (0 : Int))]) = qB q1 ++ [(20, 0)]
      rw [if_neg (fun x => y (par.mpr x))]⟩)
    let XC : lR := cmF K P V rn n q
    let XN : lR := nsF K P rec dep q
    have hiC : ∀ q1, XC = .inr q1 → lwI q1 := fun q1 e => (cmF_ext R jc e).1.inv i
    have hiN : K (qJ q) = 40 → ∀ q1, XN = .inr q1 → lwI q1 := fun k40 q1 e => by
      have e : nsF K P rec dep q = .inr q1 := e
      unfold nsF at e
      split at e
      · cases e
      · obtain ⟨q2, a1, a2⟩ := lbd_ok e
        have jl : qJ q < c := R.lt jc (by omega)
        have r := hr (dep + 1) (qNx q) q2 (show qJ q + 1 ≤ c by omega) a1
        split at a2
        · rw [← Sum.inr.inj a2]; exact (r.1.inv i.nx).nx
        · cases a2
    let PF : Option pV → pS → Prop := lwQ K P V c l m rn (.inl (flt K P 2 (qJ q))) σ
    have ab : ∀ {a : Prop}, 500 ≤ x4 → a := fun z => absurd z n1
    refine g_X2_readOne_5 (Q1 := fun _ _ => True) (Q2 := fun _ _ => True) (Q3 := fun _ _ => True) (Q4 := fun _ _ => True) (Q5 := lwQ K P V c l m rn XC σ) (Q6 := fun r υ => r = none ∧ lwP K P V c l m rn XC 20 σ υ) (Q7 := lwQ K P V c l m rn XN σ) (Q8 := fun r υ => r = none ∧ lwP K P V c l m rn XN 20 σ υ) (Q9 := fun r τ => r = none ∧ lwF l σ τ ∧ lwS K P V c l rn (qNx q) τ) (Q10 := PF) (by omega) S l (e0 : Int) x3 x4 I (by unfold inR; omega)
      (fun z => ab z) (fun z => ab z) (fun z => ab z) (fun z => ab z) (fun z => ab z) (fun z => ab z) (fun z => ab z) (fun z => ab z) (fun z => ab z) (fun z => ab z) (fun z => ab z) (fun z => ab z) (fun z => ab z) (fun z => ab z)
      (fun _ => kind_C S R s.1) (fun _ => rK) (fun _ _ => kind_C S R s.1)
      (fun _ _ _ => cmp_C (Nat.le_refl _) R hc hl hm hn S I s i) (fun _ _ _ _ _ _ _ _ => sub) (fun _ _ _ _ _ _ _ _ => rm) (fun _ c9 c11 v b τ e z c13 => ?_) (fun _ _ _ v b τ e z _ => putQ (S.eq z.1.1) hl (I.eq z.1.1) hm z hiC rfl (by decide)) (fun _ c9 c11 v b τ e z c14 τ9 e9 z9 => ?_)
      (fun _ _ c12 => nest_C hE R hl hm hr hH S I s i h0 h7 e3 (eK.symm.trans c12)) (fun _ _ _ _ _ _ _ _ => sub) (fun _ _ _ _ _ _ _ _ => rm) (fun _ c9 c12 v b τ e z c15 => ?_) (fun _ _ c12 v b τ e z _ => putQ (S.eq z.1.1) hl (I.eq z.1.1) hm z (hiN (eK.symm.trans c12)) rfl (by decide)) (fun _ c9 c12 v b τ e z c16 τ9 e9 z9 => ?_)
      (fun _ _ => by unfold inR; omega) (fun _ c10 _ => stepQ S R hl (lwF.rf l σ) s (by rw [← eK]; omega)) (fun _ c10 c17 τ e z => ?_) (fun _ _ _ => failQ S R hl hm (lwF.rf l σ) s i (by decide) rfl) (fun _ c10 c18 v b τ e z => ?_)
    · rw [e1 (by rw [← eK]; exact c9), if_neg (by rw [← eK]; exact c11)]
      exact t0 XC _ τ z c13
    · rw [e1 (by rw [← eK]; exact c9), if_neg (by rw [← eK]; exact c11)]
      exact t1 XC v τ τ9 z z9.2 c14
    · rw [e1 (by rw [← eK]; exact c9), if_pos (by rw [← eK]; exact c12)]
      exact t0 XN _ τ z c15
    · rw [e1 (by rw [← eK]; exact c9), if_pos (by rw [← eK]; exact c12)]
      exact t1 XN v τ τ9 z z9.2 c16
    · rw [e2 (by rw [← eK]; exact c10), if_neg (by omega)]
      exact pR.mono (one_L hE R hc hl hm hn hr hH f (dep + 1) (S.eq z.2.1.1) (I.eq z.2.1.1) z.2.2 i.nx (by omega) (by omega) (by omega) (by omega) (by omega)) fun r υ _ w => lwQ.tr z.2.1 w
    · rw [e2 (by rw [← eK]; exact c10), if_pos (by omega)]
      exact z
theorem one_C {dE oth : Nat} {rec : Nat → lq → lR} (hE : 11 ≤ dE) (R : tkR K V c) (hc : c ≤ 500) (hl : 141 ≤ l) (hm : c < m ∧ m < 100000) {n : Nat} (hn : c < n) (hr : recOk c rn rec) (hH : lwH K P V c l m rn rec dE oth) {q : lq} {σ : pS} (S : Stat σ) (I : Inst2 σ l m) (s : lwS K P V c l rn q σ) (i : lwI q) (h7 : oth ≤ 7) : pC mX2_readOne (dE + 2) [(2, l), (2, 2), (0, (oth : Int))] σ (lwQ K P V c l m rn (onF K P V rn rec n oth q) σ) :=
  g_X2_readOne_0 (by omega) S l (oth : Int) I (one_L hE R hc hl hm hn hr hH 9 oth S I s i (Nat.le_refl _) h7 rfl (by omega) (by omega))
/-! loops -/
theorem boL_bad {d : Nat} {σ : pS} {x2 x4 : Int} {Q : Option pV → pS → Prop} (hd : 12 ≤ d) (S : Stat σ) (I : Inst2 σ l m) (h4 : inR x4) (k : Q (some (0, 0)) σ) : pR mX2_readBoth d 10 [(2, l), (2, 2), (0, x2), (0, 0), (0, x4)] [] σ Q :=
  g_X2_readBoth_10 (Q1 := fun _ _ => True) (Q2 := fun _ _ => True) (Q3 := fun _ _ => True) hd S l x2 0 x4 I h4 (fun _ => k) (fun _ => Or.inl rfl) (fun _ => by decide) (fun _ _ => k) (fun _ _ => Or.inl rfl) (fun _ c4 => absurd rfl c4) (fun _ c4 => absurd rfl c4) (fun _ c4 => absurd rfl c4) (fun _ c4 => absurd rfl c4) (fun _ c4 => absurd rfl c4) (fun _ c4 => absurd rfl c4) (fun _ c4 => absurd rfl c4) (fun _ c4 => absurd rfl c4)
theorem qPt_inv {ty : Bool} {q q1 : lq} {op : Int} (u : ext c rn ty (qNx q) q1) (i : lwI q) : lwI (qPt q1 op) := by
  have i1 := u.inv i.nx
  obtain ⟨X, Y, h1, h2, h3, h4, h5, h6, h7⟩ := u
  have z := h7.2.2.2.2.2.2.1
  have y := i.1
  have z : Y.length ≤ qJ q1 - (qJ q + 1) := z
  have h5 : qJ q + 1 ≤ qJ q1 := h5
  have h2 : qB q1 = qB q ++ Y := h2
  refine ⟨?_, i1.2⟩
  show (qB q1 ++ [(op, (0 : Int))]).length ≤ qJ q1
  rw [h2, List.length_append, List.length_append]
  show (qB q).length + Y.length + 1 ≤ qJ q1
  omega
theorem boL_C {dE oth : Nat} {rec : Nat → lq → lR} (hE : 11 ≤ dE) (R : tkR K V c) (hc : c ≤ 500) (hl : 141 ≤ l) (hm : c < m ∧ m < 100000) {n : Nat} (hn : c < n) (hr : recOk c rn rec) (hH : lwH K P V c l m rn rec dE oth) (h7 : oth ≤ 7) : ∀ (f : Nat) {q : lq} {σ : pS} {x4 : Int}, Stat σ → Inst2 σ l m → lwS K P V c l rn q σ → lwI q → 0 ≤ x4 → x4 + 1 ≤ (qJ q : Int) → c - qJ q < f → pR mX2_readBoth (dE + 3) 10 [(2, l), (2, 2), (0, (oth : Int)), (0, 1), (0, x4)] [] σ (lwQ K P V c l m rn (boL K P V rn rec n oth f q) σ)
  | 0, q, σ, x4, _, _, _, _, _, _, hf => by omega
  | f + 1, q, σ, x4, S, I, s, i, h3, h4, hf => by
    obtain ⟨eK, jc, rK⟩ := s.k R
    have e0 : boL K P V rn rec n oth (f + 1) q = if K (qJ q) = 13 then lbd (onF K P V rn rec n oth (qNx q)) (fun q1 => boL K P V rn rec n oth f (qPt q1 22)) else .inr q := rfl
    refine g_X2_readBoth_10 (Q1 := fun r τ => r = none ∧ lwF l σ τ ∧ lwS K P V c l rn (qNx q) τ) (Q2 := lwQ K P V c l m rn (onF K P V rn rec n oth (qNx q)) σ) (Q3 := fun r υ => r = none ∧ lwP K P V c l m rn (onF K P V rn rec n oth (qNx q)) 22 σ υ) (by omega) S l (oth : Int) 1 x4 I (by unfold inR; omega) (fun c1 => by omega) (fun _ => Or.inr rfl) (fun _ => by decide) (fun _ c3 => by omega) (fun _ _ => Or.inr rfl)
      (fun _ _ => kind_C S R s.1) (fun _ _ => rK) (fun _ _ c5 => lwQ.ok (e0.trans (if_neg (by rw [← eK]; exact c5))) (lwF.rf l σ) rfl s) (fun _ _ _ => Or.inr rfl)
      (fun _ _ c6 => ?_) (fun _ _ c6 τ e4 q4 => ?_) (fun _ _ c6 τ e4 q4 v b τ5 e5 q5 => ?_) (fun _ _ c6 τ e4 q4 v b τ5 e5 q5 τ6 e6 q6 => ?_)
    all_goals have k2 : K (qJ q) = 13 := eK.symm.trans c6
    all_goals have jl : qJ q < c := R.lt jc (by omega)
    · exact stepQ S R hl (lwF.rf l σ) s (by omega)
    · exact (one_C hE R hc hl hm hn hr hH (S.eq q4.2.1.1) (I.eq q4.2.1.1) q4.2.2 i.nx h7).mono fun r υ _ z => lwQ.tr q4.2.1 z
    · exact putQ (S.eq q5.1.1) hl (I.eq q5.1.1) hm q5 (fun q1 e => (onF_ext R hr (q := qNx q) (show qJ q + 1 ≤ c by omega) e).1.inv i.nx) rfl (by decide)
    · rw [e0, if_pos k2]
      have S6 : Stat τ6 := S.eq q6.2.1.1
      have I6 : Inst2 τ6 l m := I.eq q6.2.1.1
      cases hX : onF K P V rn rec n oth (qNx q) with
      | inl x =>
        rw [hX] at q5 q6
        rw [q5.v0]
        exact boL_bad (by omega) S6 I6 (by unfold inR; omega) (lwQ.bad (x := x) rfl q6.2.1 rfl (q6.2.2.1 x rfl).1 (q6.2.2.1 x rfl).2)
      | inr q1 =>
        rw [hX] at q5 q6
        rw [q5.v1]
        have u := onF_ext R hr (q := qNx q) (show qJ q + 1 ≤ c by omega) hX
        have u2 : qJ q + 1 < qJ q1 := u.2
        have uj := u.1.jc
        exact pR.mono (boL_C hE R hc hl hm hn hr hH h7 f (q := qPt q1 22) S6 I6 (q6.2.2.2 q1 rfl) (qPt_inv u.1 i) (by omega) (show x4 + 1 + 1 ≤ (qJ q1 : Int) by omega) (show c - qJ q1 < f by omega)) fun r υ _ z => lwQ.tr q6.2.1 z
theorem both_C {dE oth : Nat} {rec : Nat → lq → lR} (hE : 11 ≤ dE) (R : tkR K V c) (hc : c ≤ 500) (hl : 141 ≤ l) (hm : c < m ∧ m < 100000) {n : Nat} (hn : c < n) (hr : recOk c rn rec) (hH : lwH K P V c l m rn rec dE oth) (h7 : oth ≤ 7) {q : lq} {σ : pS} (S : Stat σ) (I : Inst2 σ l m) (s : lwS K P V c l rn q σ) (i : lwI q) : pC mX2_readBoth (dE + 3) [(2, l), (2, 2), (0, (oth : Int))] σ (lwQ K P V c l m rn (boF K P V rn rec n oth q) σ) := by
  obtain ⟨eK, jc, rK⟩ := s.k R
  refine g_X2_readBoth_0 (Q1 := lwQ K P V c l m rn (onF K P V rn rec n oth q) σ) (by omega) S l (oth : Int) I (one_C hE R hc hl hm hn hr hH S I s i h7) (fun v b τ e q1 => ?_)
  unfold boF
  have S1 : Stat τ := S.eq q1.1.1
  have I1 : Inst2 τ l m := I.eq q1.1.1
  cases hX : onF K P V rn rec n oth q with
  | inl x =>
    rw [hX] at q1
    rw [q1.v0]
    exact boL_bad (by omega) S1 I1 (by decide) (lwQ.bad (x := x) rfl q1.1 rfl (q1.2.1 x rfl).2.1 (q1.2.1 x rfl).2.2)
  | inr q' =>
    rw [hX] at q1
    rw [q1.v1]
    have u := onF_ext R hr jc hX
    have u2 := u.2
    exact pR.mono (boL_C hE R hc hl hm hn hr hH h7 n S1 I1 (q1.2.2 q' rfl).2 (u.1.inv i) (by omega) (by omega) (by omega)) fun r υ _ z => lwQ.tr q1.1 z
theorem eiL_bad {d : Nat} {σ : pS} {x2 x4 : Int} {Q : Option pV → pS → Prop} (hd : 12 ≤ d) (S : Stat σ) (I : Inst2 σ l m) (h4 : inR x4) (k : Q (some (0, 0)) σ) : pR mX2_readEither d 22 [(2, l), (2, 2), (0, x2), (0, 0), (0, x4)] [] σ Q :=
  g_X2_readEither_22 (Q1 := fun _ _ => True) (Q2 := fun _ _ => True) (Q3 := fun _ _ => True) hd S l x2 0 x4 I h4 (fun _ => k) (fun _ => Or.inl rfl) (fun _ => by decide) (fun _ _ => k) (fun _ _ => Or.inl rfl) (fun _ c4 => absurd rfl c4) (fun _ c4 => absurd rfl c4) (fun _ c4 => absurd rfl c4) (fun _ c4 => absurd rfl c4) (fun _ c4 => absurd rfl c4) (fun _ c4 => absurd rfl c4) (fun _ c4 => absurd rfl c4) (fun _ c4 => absurd rfl c4)
theorem eiL_C {dE oth : Nat} {rec : Nat → lq → lR} (hE : 11 ≤ dE) (R : tkR K V c) (hc : c ≤ 500) (hl : 141 ≤ l) (hm : c < m ∧ m < 100000) {n : Nat} (hn : c < n) (hr : recOk c rn rec) (hH : lwH K P V c l m rn rec dE oth) (h7 : oth ≤ 7) : ∀ (f : Nat) {q : lq} {σ : pS} {x4 : Int}, Stat σ → Inst2 σ l m → lwS K P V c l rn q σ → lwI q → 0 ≤ x4 → x4 + 1 ≤ (qJ q : Int) → c - qJ q < f → pR mX2_readEither (dE + 4) 22 [(2, l), (2, 2), (0, (oth : Int)), (0, 1), (0, x4)] [] σ (lwQ K P V c l m rn (eiL K P V rn rec n oth f q) σ)
  | 0, q, σ, x4, _, _, _, _, _, _, hf => by omega
  | f + 1, q, σ, x4, S, I, s, i, h3, h4, hf => by
    obtain ⟨eK, jc, rK⟩ := s.k R
    have e0 : eiL K P V rn rec n oth (f + 1) q = if K (qJ q) = 12 then lbd (boF K P V rn rec n oth (qNx q)) (fun q1 => eiL K P V rn rec n oth f (qPt q1 21)) else .inr q := rfl
    refine g_X2_readEither_22 (Q1 := fun r τ => r = none ∧ lwF l σ τ ∧ lwS K P V c l rn (qNx q) τ) (Q2 := lwQ K P V c l m rn (boF K P V rn rec n oth (qNx q)) σ) (Q3 := fun r υ => r = none ∧ lwP K P V c l m rn (boF K P V rn rec n oth (qNx q)) 21 σ υ) (by omega) S l (oth : Int) 1 x4 I (by unfold inR; omega) (fun c1 => by omega) (fun _ => Or.inr rfl) (fun _ => by decide) (fun _ c3 => by omega) (fun _ _ => Or.inr rfl)
      (fun _ _ => kind_C S R s.1) (fun _ _ => rK) (fun _ _ c5 => lwQ.ok (e0.trans (if_neg (by rw [← eK]; exact c5))) (lwF.rf l σ) rfl s) (fun _ _ _ => Or.inr rfl)
      (fun _ _ c6 => ?_) (fun _ _ c6 τ e4 q4 => ?_) (fun _ _ c6 τ e4 q4 v b τ5 e5 q5 => ?_) (fun _ _ c6 τ e4 q4 v b τ5 e5 q5 τ6 e6 q6 => ?_)
    all_goals have k2 : K (qJ q) = 12 := eK.symm.trans c6
    all_goals have jl : qJ q < c := R.lt jc (by omega)
    · exact stepQ S R hl (lwF.rf l σ) s (by omega)
    · exact (both_C hE R hc hl hm hn hr hH h7 (S.eq q4.2.1.1) (I.eq q4.2.1.1) q4.2.2 i.nx).mono fun r υ _ z => lwQ.tr q4.2.1 z
    · exact putQ (S.eq q5.1.1) hl (I.eq q5.1.1) hm q5 (fun q1 e => (boF_ext R hr (q := qNx q) (show qJ q + 1 ≤ c by omega) e).1.inv i.nx) rfl (by decide)
    · rw [e0, if_pos k2]
      have S6 : Stat τ6 := S.eq q6.2.1.1
      have I6 : Inst2 τ6 l m := I.eq q6.2.1.1
      cases hX : boF K P V rn rec n oth (qNx q) with
      | inl x =>
        rw [hX] at q5 q6
        rw [q5.v0]
        exact eiL_bad (by omega) S6 I6 (by unfold inR; omega) (lwQ.bad (x := x) rfl q6.2.1 rfl (q6.2.2.1 x rfl).1 (q6.2.2.1 x rfl).2)
      | inr q1 =>
        rw [hX] at q5 q6
        rw [q5.v1]
        have u := boF_ext R hr (q := qNx q) (show qJ q + 1 ≤ c by omega) hX
        have u2 : qJ q + 1 < qJ q1 := u.2.1
        have uj := u.1.jc
        exact pR.mono (eiL_C hE R hc hl hm hn hr hH h7 f (q := qPt q1 21) S6 I6 (q6.2.2.2 q1 rfl) (qPt_inv u.1 i) (by omega) (show x4 + 1 + 1 ≤ (qJ q1 : Int) by omega) (show c - qJ q1 < f by omega)) fun r υ _ z => lwQ.tr q6.2.1 z
theorem either_C (R : tkR K V c) (hc : c ≤ 500) (hl : 141 ≤ l) (hm : c < m ∧ m < 100000) {n : Nat} (hn : c < n) : ∀ (D dE oth : Nat) {q : lq} {σ : pS}, 15 + 4 * D ≤ dE → 9 ≤ D + oth → oth ≤ 7 → Stat σ → Inst2 σ l m → lwS K P V c l rn q σ → lwI q → pC mX2_readEither dE [(2, l), (2, 2), (0, (oth : Int))] σ (lwQ K P V c l m rn (eiF K P V rn n D oth q) σ)
  | 0, dE, oth, q, σ, _, h9, h7, _, _, _, _ => by omega
  | D + 1, dE', oth, q, σ, hE, h9, h7, S, I, s, i => by
    obtain ⟨dE, eE⟩ : ∃ dE, dE' = dE + 4 := ⟨dE' - 4, by omega⟩
    subst eE
    obtain ⟨eK, jc, rK⟩ := s.k R
    have hr : recOk c rn (eiF K P V rn n D) := eiF_ok R n D
    have hH : lwH K P V c l m rn (eiF K P V rn n D) dE oth := fun oth' q' σ' a1 a2 a3 a4 a5 a6 => either_C R hc hl hm hn D dE oth' (by omega) (by omega) a2 a3 a4 a5 a6
    have h11 : 11 ≤ dE := by omega
    refine g_X2_readEither_0 (Q1 := lwQ K P V c l m rn (boF K P V rn (eiF K P V rn n D) n oth q) σ) (Q2 := fun _ _ => True) (by omega) S l (oth : Int) I (by unfold inR; omega) (fun _ => both_C h11 R hc hl hm hn hr hH h7 S I s i) (fun _ v b τ e q1 => ?_) (fun c2 => by omega) (fun c2 => by omega)
    show pR mX2_readEither (dE + 4) 22 _ [] τ (lwQ K P V c l m rn (lbd (boF K P V rn (eiF K P V rn n D) n oth q) (eiL K P V rn (eiF K P V rn n D) n oth n)) σ)
    have S1 : Stat τ := S.eq q1.1.1
    have I1 : Inst2 τ l m := I.eq q1.1.1
    cases hX : boF K P V rn (eiF K P V rn n D) n oth q with
    | inl x =>
      rw [hX] at q1
      rw [q1.v0]
      exact eiL_bad (by omega) S1 I1 (by decide) (lwQ.bad (x := x) rfl q1.1 rfl (q1.2.1 x rfl).2.1 (q1.2.1 x rfl).2.2)
    | inr q' =>
      rw [hX] at q1
      rw [q1.v1]
      have u := boF_ext R hr jc hX
      have u2 := u.2.1
      exact pR.mono (eiL_C h11 R hc hl hm hn hr hH h7 n S1 I1 (q1.2.2 q' rfl).2 (u.1.inv i) (by omega) (by omega) (by omega)) fun r υ _ z => lwQ.tr q1.1 z
end LWE
