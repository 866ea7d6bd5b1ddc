/-! the class reads sums, comparisons and what joins them -/
def lwI (q : lq) : Prop := (qB q).length ≤ qJ q ∧ qU q ≤ 40
theorem ext.inv {c : Nat} {rn ty : Bool} {q q' : lq} (h : ext c rn ty q q') (i : lwI q) : lwI q' := by
  obtain ⟨X, Y, h1, h2, h3, h4, h5, h6, h7⟩ := h
  refine ⟨?_, h4⟩
  have z := h7.2.2.2.2.2.2.1
  have y := i.1
  rw [h2, List.length_append]; omega
theorem lwI.nx {q : lq} (i : lwI q) : lwI (qNx q) := ⟨Nat.le_succ_of_le i.1, i.2⟩
theorem lwQ.v0 {K P V : Nat → Int} {c : Nat} {l : Int} {m : Nat} {rn : Bool} {x : Int × Int} {σ τ : pS} {v : Int} (h : lwQ K P V c l m rn (.inl x) σ (some (0, v)) τ) : v = 0 := so_inj (h.2.1 x rfl).1
theorem lwQ.v1 {K P V : Nat → Int} {c : Nat} {l : Int} {m : Nat} {rn : Bool} {q : lq} {σ τ : pS} {v : Int} (h : lwQ K P V c l m rn (.inr q) σ (some (0, v)) τ) : v = 1 := so_inj (h.2.2 q rfl).1
theorem lwS.cong {K P V : Nat → Int} {c : Nat} {l : Int} {rn : Bool} {q q' : lq} {τ : pS} (h : lwS K P V c l rn q τ) (eJ : qJ q' = qJ q) (eU : qU q' = qU q) (eB : qB q' = qB q) : lwS K P V c l rn q' τ := by
  obtain ⟨h1, h2, h3, h4, h5⟩ := h
  refine ⟨?_, ?_, ?_, h4, ?_⟩
  · rw [eJ]; exact h1
  · rw [eB]; exact h2
  · rw [eU]; exact h3
  · rw [eB]; exact h5
/-- where a step has been put down behind what was read -/
def lwP (K P V : Nat → Int) (c : Nat) (l : Int) (m : Nat) (rn : Bool) (X : lR) (op : Int) (σ υ : pS) : Prop := lwF l σ υ ∧ (∀ x : Int × Int, X = .inl x → cSt K P V c (some x) 0 υ ∧ 0 ≤ rd υ l 2 ∧ rd υ l 2 ≤ (m : Int)) ∧ ∀ q : lq, X = .inr q → lwS K P V c l rn (qPt q op) υ
section LWC
variable {K P V : Nat → Int} {c : Nat} {l : Int} {m : Nat} {rn : Bool}
theorem putQ {d : Nat} {X : lR} {σ τ : pS} {v x y op : Int} (S : Stat τ) (hl : 141 ≤ l) (I : Inst2 τ l m) (hm : c < m ∧ m < 100000) (H : lwQ K P V c l m rn X σ (some (0, v)) τ) (hi : ∀ q, X = .inr q → lwI q) (hx : x = lCode op) (h0 : op ≠ 0) : pC mX2_put d [(2, l), (0, x), (0, y)] τ (fun r υ => r = none ∧ lwP K P V c l m rn X op σ υ) := by
  cases X with
  | inl x0 =>
    obtain ⟨-, s, b⟩ := H.2.1 x0 rfl
    exact (bad_put S hl I hm.2 s b).mono fun r υ _ z => ⟨z.1, H.1.tr z.2.1, fun x e => by rw [← Sum.inl.inj e]; exact z.2.2, fun q e => (by cases e)⟩
  | inr q =>
    obtain ⟨-, s⟩ := H.2.2 q rfl
    have jc := (s.1.2.1 rfl).2.2.2
    have i := (hi q rfl).1
    exact (lw_put (p := (op, 0)) (q' := qPt q op) S hl I s ⟨by omega, hm.2⟩ hx (fun e => absurd e h0) rfl rfl rfl).mono fun r υ _ z => ⟨z.1, H.1.tr z.2.1, fun x e => (by cases e), fun q' e => by rw [← Sum.inr.inj e]; exact z.2.2⟩
theorem lwP.to {X : lR} {op v : Int} {σ σ' σ0 τ υ : pS} (G : lwP K P V c l m rn X op σ' υ) (H : lwQ K P V c l m rn X σ (some (0, v)) τ) (f : lwF l σ0 σ') {F : lq → lR} (hF : ∀ q, X = .inr q → ∃ q', F q = .inr q' ∧ qJ q' = qJ q ∧ qU q' = qU q ∧ qB q' = qB q ++ [(op, 0)]) : lwQ K P V c l m rn (lbd X F) σ0 (some (0, v)) υ := by
  cases X with
  | inl x0 =>
    obtain ⟨s, b⟩ := G.2.1 x0 rfl
    exact lwQ.bad (x := x0) rfl (f.tr G.1) (by rw [H.v0]) s b
  | inr q =>
    obtain ⟨q', e1, e2, e3, e4⟩ := hF q rfl
    exact lwQ.ok (q := q') e1 (f.tr G.1) (by rw [H.v1]) ((G.2.2 q rfl).cong e2 e3 e4)
theorem stepQ {d : Nat} {q : lq} {σ τ : pS} (S : Stat τ) (R : tkR K V c) (hl : 141 ≤ l) (f : lwF l σ τ) (s : lwS K P V c l rn q τ) (h : K (qJ q) ≠ 21) : pC mX9_step d [(2, 2)] τ (fun r υ => r = none ∧ lwF l σ υ ∧ lwS K P V c l rn (qNx q) υ) :=
  (step_C S R s.1 (fun _ => R.lt (s.1.2.1 rfl).2.2.2 h)).mono fun r υ _ y => ⟨y.1, f.tr y.2.1.lw, s.cf hl y.2.1 y.2.2 rfl rfl⟩
theorem failQ {d : Nat} {q : lq} {X : lR} {w : Int} {σ τ : pS} (S : Stat τ) (R : tkR K V c) (hl : 141 ≤ l) (hm : c < m ∧ m < 100000) (f : lwF l σ τ) (s : lwS K P V c l rn q τ) (i : lwI q) (hw : 0 < w ∧ w < 100) (e : X = .inl (flt K P w (qJ q))) : pC mX9_fail d [(2, 2), (0, w)] τ (lwQ K P V c l m rn X σ) :=
  (fail_C S R s.1 hw 0).mono fun r υ _ z => lwQ.bad e (f.tr z.2.1.lw) z.1 z.2.2 (by
    rw [z.2.1.2 _ _ (by omega), s.2.1]
    have := i.1
    have := (s.1.2.1 rfl).2.2.2
    omega)
theorem lwS.k {q : lq} {τ : pS} (s : lwS K P V c l rn q τ) (R : tkR K V c) : vTkK τ = K (qJ q) ∧ qJ q ≤ c ∧ inR (vTkK τ) := by
  obtain ⟨e1, e2⟩ := s.1.kind R
  obtain ⟨e3, e4, e5⟩ := e1 rfl
  exact ⟨e3, e5, by unfold inR; omega⟩
theorem expQ {q : lq} {k : Int} {σ τ : pS} (S : Stat τ) (R : tkR K V c) (hl : 141 ≤ l) (hm : c < m ∧ m < 100000) (f : lwF l σ τ) (s : lwS K P V c l rn q τ) (i : lwI q) (hk : 0 ≤ k ∧ k ≤ 62 ∧ k ≠ 21) : pC mX9_expect 1 [(2, 2), (0, k)] τ (lwQ K P V c l m rn (if K (qJ q) = k then .inr (qNx q) else .inl (flt K P 2 (qJ q))) σ) := by
  refine (expect_C (Nat.le_refl _) S R s.1 hk).mono fun r υ _ z => ?_
  rw [oo_none] at z
  by_cases e : K (qJ q) = k
  · rw [ck_t (decide_eq_true e)] at z
    exact lwQ.ok (if_pos e) (f.tr z.2.1.lw) z.1 (s.cf hl z.2.1 z.2.2 rfl rfl)
  · rw [ck_f (decide_eq_false e)] at z
    refine lwQ.bad (if_neg e) (f.tr z.2.1.lw) z.1 (z.2.2.to rfl (fun e => (by cases e))) ?_
    rw [z.2.1.2 _ _ (by omega), s.2.1]
    have := i.1
    have := (s.1.2.1 rfl).2.2.2
    omega
theorem lwF.eq {σ τ : pS} (f : lwF l σ τ) : τ.1 = σ.1 := f.1
theorem vPM_iff (k : Int) : vPM k = true ↔ (k = 43 ∨ k = 45) := ⟨of_decide_eq_true, decide_eq_true⟩
theorem isPM_C {d : Nat} {σ : pS} (S : Stat σ) {k : Int} (hk : inR k) : pC mX2_isPlusOrMinus d [(0, k)] σ (fun r τ => r = some (0, b2i (vPM k)) ∧ τ = σ) := by
  refine g_X2_isPlusOrMinus_0 (Nat.zero_le d) S k hk (fun c1 => ⟨?_, rfl⟩) (fun c2 c3 => ⟨?_, rfl⟩) (fun c2 c4 => ⟨?_, rfl⟩)
  · rw [(vPM_iff k).mpr (Or.inl c1)]; rfl
  · have z : vPM k = false := by
      cases y : vPM k with
      | false => rfl
      | true => rcases (vPM_iff k).mp y with x | x <;> contradiction
    rw [z]; rfl
  · rw [(vPM_iff k).mpr (Or.inr c4)]; rfl
/-! sums -/
theorem sumL_bad {d : Nat} {σ : pS} {x3 : Int} {u4 : pV} {Q : Option pV → pS → Prop} (hd : 2 ≤ d) (S : Stat σ) (I : Inst2 σ l m) (hu : u4.1 ≠ 1) (h3 : inR x3) (k : Q (some (0, 0)) σ) : pR mX2_readSum d 8 [(2, l), (2, 2), (0, 0), (0, x3), u4] [] σ Q :=
  g_X2_readSum_8 (Q1 := fun _ _ => True) (Q2 := fun _ _ => True) (Q3 := fun _ _ => True) hd S l 0 x3 u4 I hu h3 (fun _ => k) (fun _ => Or.inl rfl) (fun _ => by decide) (fun _ _ => k) (fun _ _ => Or.inl rfl) (fun _ c4 => absurd rfl c4) (fun _ c4 => absurd rfl c4) (fun _ c4 => absurd rfl c4) (fun _ c4 => absurd rfl c4) (fun _ c4 => absurd rfl c4) (fun _ c4 => absurd rfl c4) (fun _ c4 => absurd rfl c4) (fun _ c4 => absurd rfl c4) (fun _ c4 => absurd rfl c4)
theorem sumL_C {d : Nat} (hd : 2 ≤ d) (R : tkR K V c) (hc : c ≤ 500) (hl : 141 ≤ l) (hm : c < m ∧ m < 100000) : ∀ (n : Nat) {q : lq} {σ : pS} {x3 : Int} {u4 : pV}, Stat σ → Inst2 σ l m → lwS K P V c l rn q σ → lwI q → u4.1 ≠ 1 → 0 ≤ x3 → x3 + 1 ≤ (qJ q : Int) → c - qJ q < n → pR mX2_readSum d 8 [(2, l), (2, 2), (0, 1), (0, x3), u4] [] σ (lwQ K P V c l m rn (suL K P V rn n q) σ)
  | 0, q, σ, x3, u4, _, _, _, _, _, _, _, hn => by omega
  | n + 1, q, σ, x3, u4, S, I, s, i, hu, h3, h4, hn => by
    obtain ⟨eK, jc, rK⟩ := s.k R
    have e0 : suL K P V rn (n + 1) q = if K (qJ q) = 43 ∨ K (qJ q) = 45 then lbd (unF K P V rn (qNx q)) (fun q1 => suL K P V rn n (qPt q1 (pmC (K (qJ q))))) else .inr q := rfl
    refine g_X2_readSum_8 (Q1 := fun r τ => r = none ∧ lwF l σ τ ∧ lwS K P V c l rn (qNx q) τ) (Q2 := lwQ K P V c l m rn (unF K P V rn (qNx q)) σ) (Q3 := fun r υ => r = none ∧ lwP K P V c l m rn (unF K P V rn (qNx q)) (pmC (K (qJ q))) σ υ) hd S l 1 x3 u4 I hu (by unfold inR; omega) (fun c1 => by omega) (fun _ => Or.inr rfl) (fun _ => by decide) (fun _ c3 => by omega) (fun _ _ => Or.inr rfl)
      (fun _ _ => kind_C S R s.1) (fun _ _ => isPM_C S rK) (fun _ _ c5 => lwQ.ok (e0.trans (if_neg (fun z => by rw [← eK] at z; rw [(vPM_iff _).mpr z] at c5; cases c5))) (lwF.rf l σ) rfl s) (fun _ _ _ => Or.inr rfl) (fun _ _ _ => kind_C S R s.1)
      (fun _ _ c6 => ?_) (fun _ _ c6 τ e4 q4 => ?_) (fun _ _ c6 τ e4 q4 v b τ5 e5 q5 => ?_) (fun _ _ c6 τ e4 q4 v b τ5 e5 q5 τ6 e6 q6 => ?_)
    all_goals have k2 : K (qJ q) = 43 ∨ K (qJ q) = 45 := by rw [← eK]; exact (vPM_iff _).mp c6
    all_goals have jl : qJ q < c := R.lt jc (by omega)
    · exact stepQ S R hl (lwF.rf l σ) s (by omega)
    · exact (lawUnit_C (Nat.le_refl _) (S.eq q4.2.1.1) R hl (I.eq q4.2.1.1) hm q4.2.2 i.nx.1 i.nx.2).mono fun r υ _ z => lwQ.tr q4.2.1 z
    · exact putQ (S.eq q5.1.1) hl (I.eq q5.1.1) hm q5 (fun q1 e => (unF_ext R e (show qJ q + 1 ≤ c by omega)).1.inv i.nx) (by rw [eK]; unfold pmC; rcases k2 with z | z <;> rw [z] <;> rfl) (by unfold pmC; split <;> decide)
    · rw [e0, if_pos k2]
      have S6 : Stat τ6 := S.eq q6.2.1.1
      have I6 : Inst2 τ6 l m := I.eq q6.2.1.1
      cases hX : unF K P V rn (qNx q) with
      | inl x =>
        rw [hX] at q5 q6
        rw [q5.v0]
        exact sumL_bad hd S6 I6 (show (0 : Nat) ≠ 1 by decide) (by unfold inR; omega) (lwQ.bad (x := x) rfl q6.2.1 rfl (q6.2.2.1 x rfl).1 (q6.2.2.1 x rfl).2)
      | inr q1 =>
        rw [hX] at q5 q6
        rw [q5.v1]
        have u := unF_ext R hX (show qJ q + 1 ≤ c by omega)
        have u2 : qJ q1 = qJ q + 1 + 1 := u.2.1
        have i1 := u.1.inv i.nx
        have i2 : lwI (qPt q1 (pmC (K (qJ q)))) := ⟨by
          obtain ⟨X, Y, h1, h2, h3, h4, h5, h6, h7⟩ := u.1
          have z := h7.2.2.2.2.2.2.1
          have y := i.1
          have z : Y.length ≤ qJ q1 - (qJ q + 1) := z
          have h2 : qB q1 = qB q ++ Y := h2
          show (qB q1 ++ [(pmC (K (qJ q)), (0 : Int))]).length ≤ qJ q1
          rw [h2, List.length_append, List.length_append]
          show (qB q).length + Y.length + 1 ≤ qJ q1
          omega, i1.2⟩
        have uj := u.1.jc
        exact pR.mono (sumL_C hd R hc hl hm n (q := qPt q1 (pmC (K (qJ q)))) S6 I6 (q6.2.2.2 q1 rfl) i2 (show (0 : Nat) ≠ 1 by decide) (by omega) (show x3 + 1 + 1 ≤ (qJ q1 : Int) by omega) (show c - qJ q1 < n by omega)) fun r υ _ z => lwQ.tr q6.2.1 z
theorem sum_C {d : Nat} (hd : 2 ≤ d) (R : tkR K V c) (hc : c ≤ 500) (hl : 141 ≤ l) (hm : c < m ∧ m < 100000) {n : Nat} (hn : c < n) {q : lq} {σ : pS} (S : Stat σ) (I : Inst2 σ l m) (s : lwS K P V c l rn q σ) (i : lwI q) : pC mX2_readSum d [(2, l), (2, 2)] σ (lwQ K P V c l m rn (suF K P V rn n q) σ) := by
  obtain ⟨eK, jc, rK⟩ := s.k R
  refine g_X2_readSum_0 (Q1 := lwQ K P V c l m rn (unF K P V rn q) σ) hd S l I (lawUnit_C (Nat.le_refl _) S R hl I hm s i.1 i.2) (fun v b τ e q1 => ?_)
  unfold suF
  have S1 : Stat τ := S.eq q1.1.1
  have I1 : Inst2 τ l m := I.eq q1.1.1
  cases hX : unF K P V rn q with
  | inl x =>
    rw [hX] at q1
    rw [q1.v0]
    exact sumL_bad hd S1 I1 (show (9 : Nat) ≠ 1 by decide) (by decide) (lwQ.bad (x := x) rfl q1.1 rfl (q1.2.1 x rfl).2.1 (q1.2.1 x rfl).2.2)
  | inr q' =>
    rw [hX] at q1
    rw [q1.v1]
    have u := unF_ext R hX jc
    have u2 := u.2.1
    exact pR.mono (sumL_C hd R hc hl hm n S1 I1 (q1.2.2 q' rfl).2 (u.1.inv i) (show (9 : Nat) ≠ 1 by decide) (by omega) (by omega) (by omega)) fun r υ _ z => lwQ.tr q1.1 z
/-! comparisons -/
theorem cmp_C {d : Nat} (hd : 3 ≤ d) (R : tkR K V c) (hc : c ≤ 500) (hl : 141 ≤ l) (hm : c < m ∧ m < 100000) {n : Nat} (hn : c < n) {q : lq} {σ : pS} (S : Stat σ) (I : Inst2 σ l m) (s : lwS K P V c l rn q σ) (i : lwI q) : pC mX2_readComparison d [(2, l), (2, 2)] σ (lwQ K P V c l m rn (cmF K P V rn n q) σ) := by
  obtain ⟨eK, jc, rK⟩ := s.k R
  have f1 := sum_C (d := 2) (Nat.le_refl _) R hc hl hm hn S I s i
  unfold cmF
  cases hX : suF K P V rn n q with
  | inl x =>
    rw [hX] at f1
    have z : ∀ v1 τ1, lwQ K P V c l m rn (.inl x) σ (some (0, v1)) τ1 → v1 = 0 := fun v1 τ1 q1 => q1.v0
    exact g_X2_readComparison_0 (Q1 := lwQ K P V c l m rn (.inl x) σ) (Q2 := fun _ _ => True) (Q3 := fun _ _ => True) (Q4 := fun _ _ => True) (Q5 := fun _ _ => True) (Q6 := fun _ _ => True) (Q7 := fun _ _ => True) (Q8 := fun _ _ => True) (Q9 := fun _ _ => True) (Q10 := fun _ _ => True) (Q11 := fun _ _ => True) hd S l I f1 (fun v1 b _ _ _ => by unfold inR; omega)
      (fun v1 _ τ1 _ q1 c1 => absurd (z v1 τ1 q1) c1) (fun v1 _ τ1 _ q1 c1 => absurd (z v1 τ1 q1) c1) (fun v1 _ τ1 _ q1 c1 => absurd (z v1 τ1 q1) c1) (fun v1 _ τ1 _ q1 c1 => absurd (z v1 τ1 q1) c1) (fun v1 _ τ1 _ q1 c1 => absurd (z v1 τ1 q1) c1) (fun v1 _ τ1 _ q1 c1 => absurd (z v1 τ1 q1) c1) (fun v1 _ τ1 _ q1 c1 => absurd (z v1 τ1 q1) c1) (fun v1 _ τ1 _ q1 c1 => absurd (z v1 τ1 q1) c1) (fun v1 _ τ1 _ q1 c1 => absurd (z v1 τ1 q1) c1) (fun v1 _ τ1 _ q1 c1 => absurd (z v1 τ1 q1) c1) (fun v1 _ τ1 _ q1 c1 => absurd (z v1 τ1 q1) c1) (fun v1 _ τ1 _ q1 c1 => absurd (z v1 τ1 q1) c1) (fun v1 _ τ1 _ q1 c1 => absurd (z v1 τ1 q1) c1) (fun v1 _ τ1 _ q1 c1 => absurd (z v1 τ1 q1) c1) (fun v1 _ τ1 _ q1 c1 => absurd (z v1 τ1 q1) c1) (fun v1 _ τ1 _ q1 c1 => absurd (z v1 τ1 q1) c1)
      (fun v1 _ τ1 _ q1 _ => lwQ.bad (x := x) rfl q1.1 rfl (q1.2.1 x rfl).2.1 (q1.2.1 x rfl).2.2)
  | inr q1 =>
    rw [hX] at f1
    have x1 := (suF_ext R jc hX).1
    have i1 := x1.inv i
    have j1 := x1.jc
    show pC mX2_readComparison d [(2, l), (2, 2)] σ (lwQ K P V c l m rn (if K (qJ q1) = 60 ∨ K (qJ q1) = 61 ∨ K (qJ q1) = 62 then lbd (suF K P V rn n (qNx q1)) (fun q2 => .inr (qPt q2 (cmC (K (qJ q1))))) else .inl (flt K P 2 (qJ q1))) σ)
    let PS : Option pV → pS → Prop := fun r τ => r = none ∧ lwF l σ τ ∧ lwS K P V c l rn (qNx q1) τ
    let PM : Option pV → pS → Prop := lwQ K P V c l m rn (suF K P V rn n (qNx q1)) σ
    let PP : Option pV → pS → Prop := fun r τ => r = none ∧ lwP K P V c l m rn (suF K P V rn n (qNx q1)) (cmC (K (qJ q1))) σ τ
    let PF : Option pV → pS → Prop := lwQ K P V c l m rn (.inl (flt K P 2 (qJ q1))) σ
    have sv : ∀ (v : Int) (τ : pS), lwQ K P V c l m rn (.inr q1) σ (some (0, v)) τ → Stat τ ∧ Inst2 τ l m ∧ lwF l σ τ ∧ lwS K P V c l rn q1 τ ∧ v = 1 ∧ vTkK τ = K (qJ q1) := fun v τ z => ⟨S.eq z.1.1, I.eq z.1.1, z.1, (z.2.2 q1 rfl).2, z.v1, ((z.2.2 q1 rfl).2.k R).1⟩
    have st : ∀ (v : Int) (τ : pS), lwQ K P V c l m rn (.inr q1) σ (some (0, v)) τ → (vTkK τ = 60 ∨ vTkK τ = 61 ∨ vTkK τ = 62) → pC mX9_step 0 [(2, 2)] τ PS := fun v τ z y => by
      obtain ⟨y1, y2, y3, y4, y5, y6⟩ := sv v τ z
      exact stepQ y1 R hl y3 y4 (by rw [← y6]; omega)
    have sm : ∀ τ : pS, PS none τ → (K (qJ q1) ≠ 21) → pC mX2_readSum 2 [(2, l), (2, 2)] τ PM := fun τ z y => by
      have jl : qJ q1 < c := R.lt j1 y
      exact (sum_C (d := 2) (Nat.le_refl _) R hc hl hm hn (S.eq z.2.1.1) (I.eq z.2.1.1) z.2.2 i1.nx).mono fun r υ _ w => lwQ.tr z.2.1 w
    have pt : ∀ (v : Int) (τ τ4 : pS) (v4 : Int), lwQ K P V c l m rn (.inr q1) σ (some (0, v)) τ → (vTkK τ = 60 ∨ vTkK τ = 61 ∨ vTkK τ = 62) → PM (some (0, v4)) τ4 → pC mX2_put 0 [(2, l), (0, vTkK τ), (0, 0)] τ4 PP := fun v τ τ4 v4 z y w => by
      obtain ⟨y1, y2, y3, y4, y5, y6⟩ := sv v τ z
      have jl : qJ q1 < c := R.lt j1 (by omega)
      refine putQ (S.eq w.1.1) hl (I.eq w.1.1) hm w (fun q2 e => (suF_ext R (q := qNx q1) (show qJ q1 + 1 ≤ c by omega) e).1.inv i1.nx) ?_ ?_
      · rw [y6] at y ⊢
        unfold cmC
        rcases y with z | z | z <;> rw [z] <;> rfl
      · unfold cmC
        split
        · decide
        · split <;> decide
    have en : ∀ (v : Int) (τ τ4 τ5 : pS) (v4 : Int), lwQ K P V c l m rn (.inr q1) σ (some (0, v)) τ → (vTkK τ = 60 ∨ vTkK τ = 61 ∨ vTkK τ = 62) → PM (some (0, v4)) τ4 → PP none τ5 → lwQ K P V c l m rn (if K (qJ q1) = 60 ∨ K (qJ q1) = 61 ∨ K (qJ q1) = 62 then lbd (suF K P V rn n (qNx q1)) (fun q2 => .inr (qPt q2 (cmC (K (qJ q1))))) else .inl (flt K P 2 (qJ q1))) σ (some (0, v4)) τ5 := fun v τ τ4 τ5 v4 z y w p => by
      obtain ⟨y1, y2, y3, y4, y5, y6⟩ := sv v τ z
      rw [if_pos (by rw [← y6]; exact y)]
      exact p.2.to w (lwF.rf l σ) (fun q2 _ => ⟨_, rfl, rfl, rfl, rfl⟩)
    refine g_X2_readComparison_0 (Q1 := lwQ K P V c l m rn (.inr q1) σ) (Q2 := PS) (Q3 := PM) (Q4 := PP) (Q5 := PS) (Q6 := PM) (Q7 := PP) (Q8 := PS) (Q9 := PM) (Q10 := PP) (Q11 := PF) hd S l I f1 (fun v1 b _ _ _ => by unfold inR; omega)
      (fun v1 _ τ1 _ z _ => kind_C (sv v1 τ1 z).1 R (sv v1 τ1 z).2.2.2.1.1) (fun v1 _ τ1 _ z _ => ((sv v1 τ1 z).2.2.2.1.k R).2.2)
      (fun v1 _ τ1 _ z _ c3 => st v1 τ1 z (by omega)) (fun v1 _ τ1 _ z _ c3 τ3 _ z3 => sm τ3 z3 (by rw [← (sv v1 τ1 z).2.2.2.2.2]; omega)) (fun v1 _ τ1 _ z _ c3 τ3 _ z3 v4 _ τ4 _ z4 => pt v1 τ1 τ4 v4 z (by omega) z4) (fun v1 _ τ1 _ z _ c3 τ3 _ z3 v4 _ τ4 _ z4 τ5 _ z5 => en v1 τ1 τ4 τ5 v4 z (by omega) z4 z5)
      (fun v1 _ τ1 _ z _ _ c3 => st v1 τ1 z (by omega)) (fun v1 _ τ1 _ z _ _ c3 τ3 _ z3 => sm τ3 z3 (by rw [← (sv v1 τ1 z).2.2.2.2.2]; omega)) (fun v1 _ τ1 _ z _ _ c3 τ3 _ z3 v4 _ τ4 _ z4 => pt v1 τ1 τ4 v4 z (by omega) z4) (fun v1 _ τ1 _ z _ _ c3 τ3 _ z3 v4 _ τ4 _ z4 τ5 _ z5 => en v1 τ1 τ4 τ5 v4 z (by omega) z4 z5)
      (fun v1 _ τ1 _ z _ _ _ c3 => st v1 τ1 z (by omega)) (fun v1 _ τ1 _ z _ _ _ c3 τ3 _ z3 => sm τ3 z3 (by rw [← (sv v1 τ1 z).2.2.2.2.2]; omega)) (fun v1 _ τ1 _ z _ _ _ c3 τ3 _ z3 v4 _ τ4 _ z4 => pt v1 τ1 τ4 v4 z (by omega) z4) (fun v1 _ τ1 _ z _ _ _ c3 τ3 _ z3 v4 _ τ4 _ z4 τ5 _ z5 => en v1 τ1 τ4 τ5 v4 z (by omega) z4 z5)
      (fun v1 _ τ1 _ z _ _ _ _ => ?_) (fun v1 _ τ1 _ z _ c4 c6 c8 v12 _ τ12 _ z12 => ?_) (fun v1 _ τ1 _ z c2 => ?_)
    · obtain ⟨y1, y2, y3, y4, y5, y6⟩ := sv v1 τ1 z
      exact failQ y1 R hl hm y3 y4 i1 (by decide) rfl
    · obtain ⟨y1, y2, y3, y4, y5, y6⟩ := sv v1 τ1 z
      rw [if_neg (by rw [← y6]; omega)]
      exact z12
    · rw [z.v1] at c2; cases c2
end LWC
