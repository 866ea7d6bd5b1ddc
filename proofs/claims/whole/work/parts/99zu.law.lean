/-! a line of a law: the model; the class -/
abbrev lst : Type := lq × (Bool → Option ((Nat × Nat) × (Nat × Nat))) × Nat
def enF (K P V : Nat → Int) (rn : Bool) (n : Nat) (q : lq) : lR := lbd (eiF K P V rn n 9 0 q) (fun q' => if K (qJ q') = 59 then .inr q' else .inl (flt K P 2 (qJ q')))
def lnF (K P V : Nat → Int) (n : Nat) (s : lst) : Sum (Int × Int) lst := if K (qJ s.1) ≠ 10 then .inl (flt K P 2 (qJ s.1)) else if ¬ (K (qJ s.1 + 1) = 0 ∨ K (qJ s.1 + 1) = 1) ∨ s.2.1 (decide (K (qJ s.1 + 1) = 1)) ≠ none then .inl (flt K P 2 (qJ s.1 + 1)) else if K (qJ s.1 + 2) ≠ 11 then .inl (flt K P 2 (qJ s.1 + 2)) else match enF K P V (decide (K (qJ s.1 + 1) = 1)) n (qNx (qNx (qNx s.1))) with
  | .inl x => .inl x
  | .inr q' => .inr (qNx q', (fun y => if y = decide (K (qJ s.1 + 1) = 1) then some (((qA s.1).length, (qA q').length), ((qB s.1).length, (qB q').length)) else s.2.1 y), s.2.2 + 1)
/-- the class's rows of a line -/
def FG (l : Int) (σ τ : pS) (g1 g2 : Int → Int) : Prop := τ.1 = σ.1 ∧ (∀ a i : Int, ¬ (a = 2 ∧ 4 ≤ i ∧ i ≤ 6) → ¬ (a = l ∧ (i = 2 ∨ i = 3 ∨ i = 5)) → ¬ (l + 1 ≤ a ∧ a ≤ l + 5 ∧ a ≠ l + 3) → rd τ a i = rd σ a i) ∧ (∀ i, rd τ (l + 1) i = g1 i) ∧ ∀ i, rd τ (l + 2) i = g2 i
theorem FG.rf {l : Int} (σ : pS) : FG l σ σ (fun i => rd σ (l + 1) i) (fun i => rd σ (l + 2) i) := ⟨rfl, fun _ _ _ _ _ => rfl, fun _ => rfl, fun _ => rfl⟩
theorem FG.lw {l : Int} {σ τ υ : pS} {g1 g2 : Int → Int} (h : FG l σ τ g1 g2) (hl : 141 ≤ l) (f : lwF l τ υ) : FG l σ υ g1 g2 :=
  ⟨f.1.trans h.1, fun a i q1 q2 q3 => (f.2 a i q1 (by omega) (by omega) (by omega)).trans (h.2.1 a i q1 q2 q3), fun i => (f.2 _ _ (by omega) (by omega) (by omega) (by omega)).trans (h.2.2.1 i), fun i => (f.2 _ _ (by omega) (by omega) (by omega) (by omega)).trans (h.2.2.2 i)⟩
theorem FG.w5 {l v : Int} {σ τ : pS} {g1 g2 : Int → Int} (h : FG l σ τ g1 g2) : FG l σ (wr τ l 5 v) g1 g2 :=
  ⟨h.1, fun a i q1 q2 q3 => by rw [rd_wr_n (by omega)]; exact h.2.1 a i q1 q2 q3, fun i => by rw [rd_wr_n (by omega)]; exact h.2.2.1 i, fun i => by rw [rd_wr_n (by omega)]; exact h.2.2.2 i⟩
theorem FG.w1 {l y v : Int} {σ τ : pS} {g1 g2 : Int → Int} (h : FG l σ τ g1 g2) : FG l σ (wr τ (l + 1) y v) (updF g1 y v) g2 :=
  ⟨h.1, fun a i q1 q2 q3 => by rw [rd_wr_n (by omega)]; exact h.2.1 a i q1 q2 q3, fun i => by
    unfold updF
    by_cases z : i = y
    · rw [if_pos z, z, rd_wr_same]
    · rw [if_neg z, rd_wr_n (by omega)]; exact h.2.2.1 i, fun i => by rw [rd_wr_n (by omega)]; exact h.2.2.2 i⟩
theorem FG.w2 {l y v : Int} {σ τ : pS} {g1 g2 : Int → Int} (h : FG l σ τ g1 g2) : FG l σ (wr τ (l + 2) y v) g1 (updF g2 y v) :=
  ⟨h.1, fun a i q1 q2 q3 => by rw [rd_wr_n (by omega)]; exact h.2.1 a i q1 q2 q3, fun i => by rw [rd_wr_n (by omega)]; exact h.2.2.1 i, fun i => by
    unfold updF
    by_cases z : i = y
    · rw [if_pos z, z, rd_wr_same]
    · rw [if_neg z, rd_wr_n (by omega)]; exact h.2.2.2 i⟩
def lcS (K P V : Nat → Int) (c : Nat) (l : Int) (s : lst) (τ : pS) : Prop := (∃ rn0, lwS K P V c l rn0 s.1 τ) ∧ ∀ y : Bool, (s.2.1 y = none → rd τ (l + 1) (b2i y) = -1) ∧ ∀ v, s.2.1 y = some v → rd τ (l + 1) (b2i y) = (v.2.1 : Int) ∧ rd τ (l + 2) (b2i y) = (v.2.2 : Int)
def lgF (l : Int) (σ τ : pS) : Prop := τ.1 = σ.1 ∧ ∀ a i : Int, ¬ (a = 2 ∧ 4 ≤ i ∧ i ≤ 6) → ¬ (a = l ∧ (i = 2 ∨ i = 3 ∨ i = 5)) → ¬ (l + 1 ≤ a ∧ a ≤ l + 5 ∧ a ≠ l + 3) → rd τ a i = rd σ a i
def llQ (K P V : Nat → Int) (c : Nat) (l : Int) (X : Sum (Int × Int) lst) (σ : pS) (r : Option pV) (τ : pS) : Prop := lgF l σ τ ∧ (∀ x : Int × Int, X = .inl x → r = some (0, 0) ∧ cSt K P V c (some x) 0 τ) ∧ ∀ s' : lst, X = .inr s' → r = some (0, 1) ∧ lcS K P V c l s' τ
theorem llQ.bad {K P V : Nat → Int} {c : Nat} {l : Int} {X : Sum (Int × Int) lst} {x : Int × Int} {σ τ : pS} {r : Option pV} (e : X = .inl x) (f : lgF l σ τ) (hr : r = some (0, 0)) (s : cSt K P V c (some x) 0 τ) : llQ K P V c l X σ r τ := by
  subst e
  refine ⟨f, fun y e => ?_, fun q e => (by cases e)⟩
  rw [← Sum.inl.inj e]; exact ⟨hr, s⟩
section LWL
variable {K P V : Nat → Int} {c : Nat} {l : Int} {m : Nat}
theorem lwS.w5 {rn0 y : Bool} {q : lq} {τ : pS} (h : lwS K P V c l rn0 q τ) (hl : 141 ≤ l) : lwS K P V c l y q (wr τ l 5 (b2i y)) := by
  obtain ⟨h1, h2, h3, h4, h5⟩ := h
  exact ⟨h1.wr (by omega), by rw [rd_wr_n (by omega)]; exact h2, by rw [rd_wr_n (by omega)]; exact h3, rd_wr_same _ _ _ _, fun i p e => by rw [rd_wr_n (by omega), rd_wr_n (by omega)]; exact h5 i p e⟩
theorem lwS.w12 {rn : Bool} {q : lq} {τ : pS} {a i v : Int} (h : lwS K P V c l rn q τ) (hl : 141 ≤ l) (ha : a = l + 1 ∨ a = l + 2) : lwS K P V c l rn q (wr τ a i v) := by
  obtain ⟨h1, h2, h3, h4, h5⟩ := h
  exact ⟨h1.wr (by omega), by rw [rd_wr_n (by omega)]; exact h2, by rw [rd_wr_n (by omega)]; exact h3, by rw [rd_wr_n (by omega)]; exact h4, fun i p e => by rw [rd_wr_n (by omega), rd_wr_n (by omega)]; exact h5 i p e⟩
/-- what the parts of a line leave, a line of kind y -/
def LPS (K P V : Nat → Int) (c : Nat) (l : Int) (y : Bool) (σ : pS) (q : lq) (r : Option pV) (τ : pS) : Prop := r = none ∧ FG l σ τ (fun i => rd σ (l + 1) i) (fun i => rd σ (l + 2) i) ∧ lwS K P V c l y q τ
def LPE (K P V : Nat → Int) (c : Nat) (l : Int) (m : Nat) (y : Bool) (σ : pS) (q : lq) (r : Option pV) (τ : pS) : Prop := FG l σ τ (fun i => rd σ (l + 1) i) (fun i => rd σ (l + 2) i) ∧ ∃ τ5, lwQ K P V c l m y (if K (qJ q) = 11 then .inr (qNx q) else .inl (flt K P 2 (qJ q))) τ5 r τ
def LPI (K P V : Nat → Int) (c : Nat) (l : Int) (m : Nat) (y : Bool) (n : Nat) (σ : pS) (q : lq) (r : Option pV) (τ : pS) : Prop := FG l σ τ (updF (fun i => rd σ (l + 1) i) (b2i y) ((qB q).length : Int)) (fun i => rd σ (l + 2) i) ∧ ∃ τ5, lwQ K P V c l m y (eiF K P V y n 9 0 q) τ5 r τ
def LPJ (K P V : Nat → Int) (c : Nat) (l : Int) (m : Nat) (y : Bool) (n : Nat) (σ : pS) (q : lq) (r : Option pV) (τ : pS) : Prop := ∀ q4, eiF K P V y n 9 0 q = .inr q4 → FG l σ τ (updF (fun i => rd σ (l + 1) i) (b2i y) ((qB q).length : Int)) (updF (fun i => rd σ (l + 2) i) (b2i y) ((qB q4).length : Int)) ∧ ∃ τ5, lwQ K P V c l m y (if K (qJ q4) = 59 then .inr (qNx q4) else .inl (flt K P 2 (qJ q4))) τ5 r τ
theorem FG.g {σ τ : pS} {g1 g2 : Int → Int} (h : FG l σ τ g1 g2) : lgF l σ τ := ⟨h.1, h.2.1⟩
theorem lps_C {y : Bool} {q : lq} {σ τ : pS} (S0 : Stat σ) (R : tkR K V c) (hl : 141 ≤ l) (f : FG l σ τ (fun i => rd σ (l + 1) i) (fun i => rd σ (l + 2) i)) (s : lwS K P V c l y q τ) (h : K (qJ q) ≠ 21) : pC mX9_step 0 [(2, 2)] τ (LPS K P V c l y σ (qNx q)) :=
  (stepQ (S0.eq f.1) R hl (lwF.rf l τ) s h).mono fun r υ _ z => ⟨z.1, f.lw hl z.2.1, z.2.2⟩
theorem lpe_C {y : Bool} {q : lq} {σ τ : pS} (S0 : Stat σ) (R : tkR K V c) (hl : 141 ≤ l) (hm : c < m ∧ m < 100000) (i : lwI q) (h : LPS K P V c l y σ q none τ) : pC mX9_expect 1 [(2, 2), (0, 11)] τ (LPE K P V c l m y σ q) :=
  (expQ (S0.eq h.2.1.1) R hl hm (lwF.rf l τ) h.2.2 i (by decide)).mono fun r υ _ z => ⟨h.2.1.lw hl z.1, τ, z⟩
theorem LPE.v {y : Bool} {q : lq} {σ τ : pS} {v : Int} (h : LPE K P V c l m y σ q (some (0, v)) τ) : (K (qJ q) = 11 → v = 1 ∧ lwS K P V c l y (qNx q) τ) ∧ (K (qJ q) ≠ 11 → v = 0 ∧ cSt K P V c (some (flt K P 2 (qJ q))) 0 τ) := by
  obtain ⟨f, τ5, z⟩ := h
  refine ⟨fun e => ?_, fun e => ?_⟩
  · rw [if_pos e] at z; exact ⟨z.v1, (z.2.2 _ rfl).2⟩
  · rw [if_neg e] at z; exact ⟨z.v0, (z.2.1 _ rfl).2.1⟩
theorem lpi_C {dE n : Nat} {y : Bool} {q : lq} {σ τ : pS} {yi v : Int} (S0 : Stat σ) (I0 : Inst2 σ l m) (R : tkR K V c) (hc : c ≤ 500) (hn : c < n) (hE : 51 ≤ dE) (hl : 141 ≤ l) (hm : c < m ∧ m < 100000) (i : lwI q) (ey : yi = b2i y) (f : FG l σ τ (fun i => rd σ (l + 1) i) (fun i => rd σ (l + 2) i)) (s : lwS K P V c l y q τ) (ev : v = rd τ l 2) : pC mX2_readEither dE [(2, l), (2, 2), (0, 0)] (wr τ (l + 1) yi v) (LPI K P V c l m y n σ q) := by
  subst ey
  have e2 : v = ((qB q).length : Int) := ev.trans s.2.1
  subst e2
  have f1 : FG l σ (wr τ (l + 1) (b2i y) ((qB q).length : Int)) _ _ := f.w1
  exact (either_C R hc hl hm hn 9 dE 0 (by omega) (by omega) (by omega) (S0.eq f1.1) (I0.eq f1.1) (s.w12 hl (Or.inl rfl)) i).mono fun r υ _ z => ⟨f1.lw hl z.1, _, z⟩
theorem lpj_C {n : Nat} {y : Bool} {q q4 : lq} {σ τ : pS} {yi v v7 : Int} (S0 : Stat σ) (R : tkR K V c) (hl : 141 ≤ l) (hm : c < m ∧ m < 100000) (i : lwI q) (hj : qJ q ≤ c) (ey : yi = b2i y) (e4 : eiF K P V y n 9 0 q = .inr q4) (h : LPI K P V c l m y n σ q (some (0, v7)) τ) (ev : v = rd τ l 2) : pC mX9_expect 1 [(2, 2), (0, 59)] (wr τ (l + 2) yi v) (LPJ K P V c l m y n σ q) := by
  subst ey
  obtain ⟨f, τ5, z⟩ := h
  rw [e4] at z
  have s := (z.2.2 q4 rfl).2
  have e2 : v = ((qB q4).length : Int) := ev.trans s.2.1
  subst e2
  have f1 : FG l σ (wr τ (l + 2) (b2i y) ((qB q4).length : Int)) _ _ := f.w2
  refine (expQ (S0.eq f1.1) R hl hm (lwF.rf l _) (s.w12 hl (Or.inr rfl)) ((eiF_ok R n 9 0 q q4 hj e4).1.inv i) (by decide)).mono fun r υ _ y q5 e5 => ?_
  have eq5 : q4 = q5 := Sum.inr.inj (e4.symm.trans e5)
  subst eq5
  exact ⟨f1.lw hl y.1, _, y⟩
/-- the parts of a line of kind y, put together -/
theorem line_fin {n : Nat} {y : Bool} {s : lst} {σ : pS} (k10 : K (qJ s.1) = 10) (ky : y = decide (K (qJ s.1 + 1) = 1)) (k01 : K (qJ s.1 + 1) = 0 ∨ K (qJ s.1 + 1) = 1) (fy : s.2.1 y = none) (H : lcS K P V c l s σ) :
    (K (qJ s.1 + 2) ≠ 11 → lnF K P V n s = .inl (flt K P 2 (qJ s.1 + 2))) ∧ (K (qJ s.1 + 2) = 11 → (∀ x, eiF K P V y n 9 0 (qNx (qNx (qNx s.1))) = .inl x → lnF K P V n s = .inl x) ∧ ∀ q4, eiF K P V y n 9 0 (qNx (qNx (qNx s.1))) = .inr q4 → (K (qJ q4) ≠ 59 → lnF K P V n s = .inl (flt K P 2 (qJ q4))) ∧ (K (qJ q4) = 59 → ∃ s', lnF K P V n s = .inr s' ∧ s'.1 = qNx q4 ∧ ∀ τ, FG l σ τ (updF (fun i => rd σ (l + 1) i) (b2i y) ((qB s.1).length : Int)) (updF (fun i => rd σ (l + 2) i) (b2i y) ((qB q4).length : Int)) → lwS K P V c l y (qNx q4) τ → lcS K P V c l s' τ)) := by
  subst ky
  have e0 : lnF K P V n s = if K (qJ s.1 + 2) ≠ 11 then .inl (flt K P 2 (qJ s.1 + 2)) else match enF K P V (decide (K (qJ s.1 + 1) = 1)) n (qNx (qNx (qNx s.1))) with
    | .inl x => .inl x
    | .inr q' => .inr (qNx q', (fun y => if y = decide (K (qJ s.1 + 1) = 1) then some (((qA s.1).length, (qA q').length), ((qB s.1).length, (qB q').length)) else s.2.1 y), s.2.2 + 1) := by
    unfold lnF
    rw [if_neg (fun z => z k10), if_neg (fun z => by rcases z with z | z; exact z k01; exact z fy)]
  refine ⟨fun z => by rw [e0, if_pos z], fun z => ?_⟩
  rw [if_neg (fun w => w z)] at e0
  refine ⟨fun x e => ?_, fun q4 e => ⟨fun k59 => ?_, fun k59 => ?_⟩⟩
  · have e1 : enF K P V (decide (K (qJ s.1 + 1) = 1)) n (qNx (qNx (qNx s.1))) = .inl x := by unfold enF; rw [e]; rfl
    rw [e1] at e0; exact e0
  · have e1 : enF K P V (decide (K (qJ s.1 + 1) = 1)) n (qNx (qNx (qNx s.1))) = .inl (flt K P 2 (qJ q4)) := by unfold enF; rw [e]; exact if_neg k59
    rw [e1] at e0; exact e0
  · have e1 : enF K P V (decide (K (qJ s.1 + 1) = 1)) n (qNx (qNx (qNx s.1))) = .inr q4 := by unfold enF; rw [e]; exact if_pos k59
    rw [e1] at e0
    refine ⟨_, e0, rfl, fun τ f S => ⟨⟨_, S⟩, fun y => ?_⟩⟩
    have g1 : ∀ v v' : Bool, v ≠ v' → b2i v ≠ b2i v' := fun v v' h => by cases v <;> cases v' <;> first | exact absurd rfl h | decide
    by_cases z : y = decide (K (qJ s.1 + 1) = 1)
    · refine ⟨fun e => ?_, fun v e => ?_⟩
      · have e : (if y = decide (K (qJ s.1 + 1) = 1) then some (((qA s.1).length, (qA q4).length), ((qB s.1).length, (qB q4).length)) else s.2.1 y) = none := e
        rw [if_pos z] at e; cases e
      · have e : (if y = decide (K (qJ s.1 + 1) = 1) then some (((qA s.1).length, (qA q4).length), ((qB s.1).length, (qB q4).length)) else s.2.1 y) = some v := e
        rw [if_pos z] at e
        have e := Option.some.inj e
        rw [f.2.2.1, f.2.2.2, ← e, z]
        unfold updF
        rw [if_pos rfl, if_pos rfl]
        exact ⟨rfl, rfl⟩
    · have ne := g1 _ _ z
      have e1 : rd τ (l + 1) (b2i y) = rd σ (l + 1) (b2i y) := by
        rw [f.2.2.1]
        unfold updF
        rw [if_neg ne]
      have e2 : rd τ (l + 2) (b2i y) = rd σ (l + 2) (b2i y) := by
        rw [f.2.2.2]
        unfold updF
        rw [if_neg ne]
      rw [e1, e2]
      refine ⟨fun e => (H.2 y).1 ?_, fun v e => (H.2 y).2 v ?_⟩
      · have e : (if y = decide (K (qJ s.1 + 1) = 1) then some (((qA s.1).length, (qA q4).length), ((qB s.1).length, (qB q4).length)) else s.2.1 y) = none := e
        rw [if_neg z] at e; exact e
      · have e : (if y = decide (K (qJ s.1 + 1) = 1) then some (((qA s.1).length, (qA q4).length), ((qB s.1).length, (qB q4).length)) else s.2.1 y) = some v := e
        rw [if_neg z] at e; exact e
end LWL
