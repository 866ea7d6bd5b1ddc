/-! the reference reads a line of a law -/
def lmF (φ τ : pS) : Prop := τ.1 = φ.1 ∧ ∀ a i : Int, ¬ (a = 68 ∧ ((2 ≤ i ∧ i ≤ 9 ∧ i ≠ 5) ∨ i = 20 ∨ i = 44 ∨ i = 45 ∨ (48 ≤ i ∧ i ≤ 50))) → ¬ (85 ≤ a ∧ a ≤ 88) → a ≠ 93 → a ≠ 95 → rd τ a i = rd φ a i
theorem lmF.rf (φ : pS) : lmF φ φ := ⟨rfl, fun _ _ _ _ _ _ => rfl⟩
theorem lmF.tr {σ τ υ : pS} (h : lmF σ τ) (g : lmF τ υ) : lmF σ υ := ⟨g.1.trans h.1, fun a i q1 q2 q3 q4 => (g.2 a i q1 q2 q3 q4).trans (h.2 a i q1 q2 q3 q4)⟩
theorem mFr.lm {φ τ : pS} (h : mFr φ τ) : lmF φ τ := ⟨h.1, fun a i q _ _ _ => h.2 a i (by omega)⟩
theorem eFr.lm {φ τ : pS} (h : eFr φ τ) : lmF φ τ := ⟨h.1, fun a i q1 q2 q3 q4 => h.2 a i (by omega) (by omega) (by omega) q4⟩
theorem lmF.wr {φ τ : pS} {a i v : Int} (h : lmF φ τ) (ha : (a = 68 ∧ (i = 20 ∨ i = 50)) ∨ a = 87 ∨ a = 88 ∨ a = 93) : lmF φ (wr τ a i v) := ⟨h.1, fun b j q1 q2 q3 q4 => by rw [rd_wr_n (by omega)]; exact h.2 b j q1 q2 q3 q4⟩
def lmP (σ : pS) (n : Int) (K P V E : Nat → Int) (c : Nat) (s : lst) (j : Nat) (φ : pS) : Prop := mSt σ n K P V E c none j φ ∧ (rd φ 68 44 = ((qA s.1).length : Int) ∧ ∀ (i : Nat) (p : Int × Int), (qA s.1)[i]? = some p → rd φ 85 (i : Int) = p.1 ∧ rd φ 86 (i : Int) = p.2) ∧ rd φ 68 45 = (qU s.1 : Int) ∧ rd φ 68 20 = (s.2.2 : Int) ∧ ∀ y : Bool, (s.2.1 y = none → rd φ 93 (b2i y) = 0) ∧ ∀ v, s.2.1 y = some v → rd φ 93 (b2i y) = 1 ∧ rd φ 87 (b2i y) = (v.1.1 : Int) ∧ rd φ 88 (b2i y) = (v.1.2 : Int)
def llM (σ : pS) (n : Int) (K P V E : Nat → Int) (c : Nat) (X : Sum (Int × Int) lst) (φ : pS) (r : Option pV) (τ : pS) : Prop := r = none ∧ lmF φ τ ∧ (∀ x, X = .inl x → mSt σ n K P V E c (some x) 0 τ) ∧ ∀ s', X = .inr s' → lmP σ n K P V E c s' (qJ s'.1) τ
theorem llM.bad {σ : pS} {n : Int} {K P V E : Nat → Int} {c : Nat} {X : Sum (Int × Int) lst} {x : Int × Int} {φ τ : pS} (e : X = .inl x) (f : lmF φ τ) (s : mSt σ n K P V E c (some x) 0 τ) : llM σ n K P V E c X φ none τ := by
  subst e
  exact ⟨rfl, f, fun y e => by rw [← Sum.inl.inj e]; exact s, fun q e => (by cases e)⟩
theorem lnF_at {K P V : Nat → Int} {n : Nat} {y : Bool} {s : lst} (k10 : K (qJ s.1) = 10) (ky : y = decide (K (qJ s.1 + 1) = 1)) (k01 : K (qJ s.1 + 1) = 0 ∨ K (qJ s.1 + 1) = 1) (fy : s.2.1 y = none) : (K (qJ s.1 + 2) ≠ 11 → lnF K P V n s = .inl (flt K P 2 (qJ s.1 + 2))) ∧ (K (qJ s.1 + 2) = 11 → (∀ x, enF K P V y n (qNx (qNx (qNx s.1))) = .inl x → lnF K P V n s = .inl x) ∧ ∀ q', enF K P V y n (qNx (qNx (qNx s.1))) = .inr q' → lnF K P V n s = .inr (qNx q', (fun y' => if y' = y then some (((qA s.1).length, (qA q').length), ((qB s.1).length, (qB q').length)) else s.2.1 y'), s.2.2 + 1)) := by
  subst ky
  have e0 : lnF K P V n s = if K (qJ s.1 + 2) ≠ 11 then .inl (flt K P 2 (qJ s.1 + 2)) else match enF K P V (decide (K (qJ s.1 + 1) = 1)) n (qNx (qNx (qNx s.1))) with
    | .inl x => .inl x
    | .inr q' => .inr (qNx q', (fun y => if y = decide (K (qJ s.1 + 1) = 1) then some (((qA s.1).length, (qA q').length), ((qB s.1).length, (qB q').length)) else s.2.1 y), s.2.2 + 1) := by
    unfold lnF
    rw [if_neg (fun z => z k10), if_neg (fun z => by rcases z with z | z; exact z k01; exact z fy)]
    rfl
  refine ⟨fun z => by rw [e0, if_pos z], fun z => ?_⟩
  rw [if_neg (fun w => w z)] at e0
  exact ⟨fun x e => by rw [e] at e0; exact e0, fun q' e => by rw [e] at e0; exact e0⟩
section LML
variable {σ : pS} {n : Int} {K P V E : Nat → Int} {c : Nat}
theorem lmP.of {s : lst} {j k : Nat} {φ τ : pS} (h : lmP σ n K P V E c s j φ) (f : mFr φ τ) (m : mSt σ n K P V E c none k τ) : lmP σ n K P V E c s k τ := by
  obtain ⟨h1, ⟨h2, h2'⟩, h3, h4, h5⟩ := h
  refine ⟨m, ⟨?_, fun i p e => ?_⟩, ?_, ?_, fun y => ?_⟩
  · rw [f.2 _ _ (by omega)]; exact h2
  · rw [f.2 _ _ (by omega), f.2 _ _ (by omega)]; exact h2' i p e
  · rw [f.2 _ _ (by omega)]; exact h3
  · rw [f.2 _ _ (by omega)]; exact h4
  · rw [f.2 _ _ (by omega), f.2 _ _ (by omega), f.2 _ _ (by omega)]; exact h5 y
theorem lmP.w50 {s : lst} {j : Nat} {v : Int} {φ : pS} (h : lmP σ n K P V E c s j φ) : lmP σ n K P V E c s j (wr φ 68 50 v) := by
  obtain ⟨h1, ⟨h2, h2'⟩, h3, h4, h5⟩ := h
  refine ⟨h1.wr (by omega), ⟨?_, fun i p e => ?_⟩, ?_, ?_, fun y => ?_⟩
  · rw [rd_wr_n (by omega)]; exact h2
  · rw [rd_wr_n (by omega), rd_wr_n (by omega)]; exact h2' i p e
  · rw [rd_wr_n (by omega)]; exact h3
  · rw [rd_wr_n (by omega)]; exact h4
  · rw [rd_wr_n (by omega), rd_wr_n (by omega), rd_wr_n (by omega)]; exact h5 y
theorem lm_104 {d m : Nat} {s : lst} {y : Bool} {φ ψ : pS} (hd : 5 ≤ d) (S : Stat φ) (T : TK σ n K P V E c) (hc : c ≤ 500) (hm : c < m) (I : lsI c s) (f : lmF φ ψ) (h : lmP σ n K P V E c s (qJ s.1 + 3) ψ) (h50 : rd ψ 68 50 = b2i y) (k10 : K (qJ s.1) = 10) (ky : y = decide (K (qJ s.1 + 1) = 1)) (k01 : K (qJ s.1 + 1) = 0 ∨ K (qJ s.1 + 1) = 1) (k11 : K (qJ s.1 + 2) = 11) (fy : s.2.1 y = none) : pR mX11_readShut d 104 [(2, 68), (0, b2i y)] [] ψ (llM σ n K P V E c (lnF K P V m s) φ) := by
  obtain ⟨h1, ⟨h2, h2'⟩, h3, h4, h5⟩ := id h
  have jc := (h1.2.1 rfl).2.2.1
  have L := (lnF_at (P := P) (V := V) (n := m) k10 ky k01 fy).2 k11
  have Sψ := S.eq f.1
  have yb : b2i y = 0 ∨ b2i y = 1 := by cases y; exact Or.inl rfl; exact Or.inr rfl
  have f1 : lmF φ (wr ψ 87 (b2i y) (rd ψ 68 44)) := f.wr (by omega)
  have es : eSt σ n K P V E c (wr ψ 87 (b2i y) (rd ψ 68 44)) (qA (qNx (qNx (qNx s.1)))) [] (qU (qNx (qNx (qNx s.1)))) (qJ (qNx (qNx (qNx s.1)))) (wr (wr (wr ψ 87 (b2i y) (rd ψ 68 44)) 68 48 0) 68 49 0) := by
    refine ⟨((eFr.rf _).wr (by omega)).wr (by omega), ((h1.wr (by omega)).wr (by omega)).wr (by omega), ⟨?_, fun i p e => ?_⟩, ⟨?_, ?_, trivial, fun x hx => (by cases hx)⟩, ?_⟩
    · rw [rd_wr_n (by omega), rd_wr_n (by omega), rd_wr_n (by omega)]; exact h2
    · rw [rd_wr_n (by omega), rd_wr_n (by omega), rd_wr_n (by omega), rd_wr_n (by omega), rd_wr_n (by omega), rd_wr_n (by omega)]; exact h2' i p e
    · rw [rd_wr_n (by omega), rd_wr_same]; rfl
    · rw [rd_wr_same]; rfl
    · rw [rd_wr_n (by omega), rd_wr_n (by omega), rd_wr_n (by omega)]; exact h3
  let Q1 : Option pV → pS → Prop := fun r υ => r = none ∧ (∀ x, enF K P V y m (qNx (qNx (qNx s.1))) = .inl x → fEnd σ n K P V E c (wr ψ 87 (b2i y) (rd ψ 68 44)) x υ) ∧ ∀ q', enF K P V y m (qNx (qNx (qNx s.1))) = .inr q' → K (qJ q') = 59 ∧ eSt σ n K P V E c (wr ψ 87 (b2i y) (rd ψ 68 44)) (qA q') [] (qU q') (qJ q') υ
  have pE : pC mX11_readE 4 [(2, 68)] (wr ψ 87 (b2i y) (rd ψ 68 44)) Q1 := by
    refine readE_M (rn := y) (m := m) (q := qNx (qNx (qNx s.1))) (Nat.le_refl _) (show Stat (wr ψ 87 (b2i y) (rd ψ 68 44)) from Sψ.wr) T hc hm (by rw [rd_wr_n (by omega)]; exact h50) (show (qA s.1).length ≤ qJ s.1 + 1 + 1 + 1 by have := I.2.1; omega) I.1.2 (show qJ s.1 + 1 + 1 + 1 ≤ c by omega) es (fun x e υ z => ⟨rfl, fun x' e' => ?_, fun q' e' => ?_⟩) (fun q' e k59 υ z => ⟨rfl, fun x' e' => ?_, fun q2 e' => ?_⟩)
    · have : (Sum.inl x : lR) = .inl x' := e.symm.trans e'
      rw [← Sum.inl.inj this]; exact z
    · have : (Sum.inl x : lR) = .inr q' := e.symm.trans e'
      cases this
    · have e3 : enF K P V y m (qNx (qNx (qNx s.1))) = .inr q' := by unfold enF; rw [e]; exact if_pos k59
      rw [e3] at e'; cases e'
    · have e3 : enF K P V y m (qNx (qNx (qNx s.1))) = .inr q' := by unfold enF; rw [e]; exact if_pos k59
      rw [e3] at e'
      rw [← Sum.inr.inj e']; exact ⟨k59, z⟩
  cases hX : enF K P V y m (qNx (qNx (qNx s.1))) with
  | inl x =>
    have bad : ∀ υ, Q1 none υ → lmF φ υ ∧ mSt σ n K P V E c (some x) 0 υ := fun υ q => by
      have z := q.2.1 x hX
      exact ⟨f1.tr z.1.lm, z.2⟩
    have no : ∀ υ, Q1 none υ → ¬ rd υ 68 2 ≤ 0 := fun υ q z => by
      have := (bad υ q).2.fault.2.1 z
      cases this
    exact g_X11_readShut_104 (Q1 := Q1) (Q2 := fun _ _ => True) hd Sψ (b2i y) (by omega) pE (fun υ _ q => (bad υ q).2.fault.1) (fun υ _ q c1 => absurd c1 (no υ q)) (fun υ _ q c1 => absurd c1 (no υ q)) (fun υ _ q c2 => llM.bad (L.1 x hX) (bad υ q).1 (bad υ q).2)
  | inr q' =>
    have en := L.2 q' hX
    have gd : ∀ υ, Q1 none υ → K (qJ q') = 59 ∧ eSt σ n K P V E c (wr ψ 87 (b2i y) (rd ψ 68 44)) (qA q') [] (qU q') (qJ q') υ := fun υ q => q.2.2 q' hX
    refine g_X11_readShut_104 (Q1 := Q1) (Q2 := fun r υ => llM σ n K P V E c (lnF K P V m s) φ r υ) hd Sψ (b2i y) (by omega) pE (fun υ _ q => (gd υ q).2.2.1.fault.1) (fun τ1 _ q _ => ?_) (fun _ _ _ _ υ _ q => q) (fun υ _ q c2 => absurd rfl ((gd υ q).2.2.1.fault.2.2.1 c2))
    obtain ⟨k59, e1, e2, ⟨e3, e3'⟩, e4, e5⟩ := gd τ1 q
    have jl := T.R.lt (e2.2.1 rfl).2.2.1 (show K (qJ q') ≠ 21 by omega)
    have f3 : lmF φ (wr (wr (wr τ1 88 (b2i y) (rd τ1 68 44)) 93 (b2i y) 1) 68 20 ((rd τ1 68 20) + 1)) := (((f1.tr e1.lm).wr (by omega)).wr (by omega)).wr (by omega)
    refine (next_M (Nat.le_refl _) (S.eq f3.1) T (((e2.wr (by omega)).wr (by omega)).wr (by omega)) jl (by omega)).mono fun r υ _ z => ?_
    obtain ⟨z1, z2, z3⟩ := z
    have fm := z2.m
    refine ⟨z1, f3.tr fm.lm, fun x e => ?_, fun s' e => ?_⟩
    · rw [en] at e; cases e
    · rw [en] at e
      rw [← Sum.inr.inj e]
      refine ⟨z3, ⟨?_, fun i p ep => ?_⟩, ?_, ?_, fun y' => ?_⟩
      · rw [fm.2 _ _ (by omega), rd_wr_n (by omega), rd_wr_n (by omega), rd_wr_n (by omega)]; exact e3
      · rw [fm.2 _ _ (by omega), fm.2 _ _ (by omega), rd_wr_n (by omega), rd_wr_n (by omega), rd_wr_n (by omega), rd_wr_n (by omega), rd_wr_n (by omega), rd_wr_n (by omega)]; exact e3' i p ep
      · rw [fm.2 _ _ (by omega), rd_wr_n (by omega), rd_wr_n (by omega), rd_wr_n (by omega)]; exact e5
      · rw [fm.2 _ _ (by omega), rd_wr_same, e1.2 68 20 (by omega) (by omega) (by omega) (by omega), rd_wr_n (by omega), h4]; rfl
      · have g1 : ∀ v v' : Bool, v ≠ v' → b2i v ≠ b2i v' := fun v v' h => by cases v <;> cases v' <;> first | exact absurd rfl h | decide
        rw [fm.2 _ _ (by omega), fm.2 _ _ (by omega), fm.2 _ _ (by omega)]
        by_cases w : y' = y
        · subst w
          refine ⟨fun e => ?_, fun v e => ?_⟩
          · have e : (if y' = y' then some (((qA s.1).length, (qA q').length), ((qB s.1).length, (qB q').length)) else s.2.1 y') = none := e
            rw [if_pos rfl] at e; cases e
          · have e : (if y' = y' then some (((qA s.1).length, (qA q').length), ((qB s.1).length, (qB q').length)) else s.2.1 y') = some v := e
            rw [if_pos rfl] at e
            rw [← Option.some.inj e]
            refine ⟨by rw [rd_wr_n (by omega), rd_wr_same], ?_, ?_⟩
            · rw [rd_wr_n (by omega), rd_wr_n (by omega), rd_wr_n (by omega), e1.2 87 _ (by omega) (by omega) (by omega) (by omega), rd_wr_same]; exact h2
            · rw [rd_wr_n (by omega), rd_wr_n (by omega), rd_wr_same]; exact e3
        · have ne := g1 _ _ w
          have r93 : rd (wr (wr (wr τ1 88 (b2i y) (rd τ1 68 44)) 93 (b2i y) 1) 68 20 ((rd τ1 68 20) + 1)) 93 (b2i y') = rd ψ 93 (b2i y') := by
            rw [rd_wr_n (by omega), rd_wr_n (by omega), rd_wr_n (by omega), e1.2 93 _ (by omega) (by omega) (by omega) (by omega), rd_wr_n (by omega)]
          have r87 : rd (wr (wr (wr τ1 88 (b2i y) (rd τ1 68 44)) 93 (b2i y) 1) 68 20 ((rd τ1 68 20) + 1)) 87 (b2i y') = rd ψ 87 (b2i y') := by
            rw [rd_wr_n (by omega), rd_wr_n (by omega), rd_wr_n (by omega), e1.2 87 _ (by omega) (by omega) (by omega) (by omega), rd_wr_n (by omega)]
          have r88 : rd (wr (wr (wr τ1 88 (b2i y) (rd τ1 68 44)) 93 (b2i y) 1) 68 20 ((rd τ1 68 20) + 1)) 88 (b2i y') = rd ψ 88 (b2i y') := by
            rw [rd_wr_n (by omega), rd_wr_n (by omega), rd_wr_n (by omega), e1.2 88 _ (by omega) (by omega) (by omega) (by omega), rd_wr_n (by omega)]
          rw [r93, r87, r88]
          refine ⟨fun e => (h5 y').1 ?_, fun v e => (h5 y').2 v ?_⟩
          · have e : (if y' = y then some (((qA s.1).length, (qA q').length), ((qB s.1).length, (qB q').length)) else s.2.1 y') = none := e
            rw [if_neg w] at e; exact e
          · have e : (if y' = y then some (((qA s.1).length, (qA q').length), ((qB s.1).length, (qB q').length)) else s.2.1 y') = some v := e
            rw [if_neg w] at e; exact e
theorem lm_63F {d : Nat} {x1 : Int} {x : Int × Int} {ψ : pS} {Q : Option pV → pS → Prop} (hd : 5 ≤ d) (S : Stat ψ) (h : mSt σ n K P V E c (some x) 0 ψ) (k : Q none ψ) : pR mX11_readShut d 63 [(2, 68), (0, x1)] [] ψ Q := by
  have z := h.fault
  have ne : ¬ rd ψ 68 2 ≤ 0 := fun y => (by cases z.2.1 y)
  exact g_X11_readShut_63 (Q1 := fun _ _ => True) (Q2 := fun _ _ => True) hd S x1 z.1 (fun y => absurd y ne) (fun y => absurd y ne) (fun y => absurd y ne) (fun y => absurd y ne) (fun y => absurd y ne) (fun y => absurd y ne) (fun y => absurd y ne) (fun _ => k)
theorem lm_63 {d m : Nat} {s : lst} {y : Bool} {φ ψ : pS} (hd : 5 ≤ d) (S : Stat φ) (T : TK σ n K P V E c) (hc : c ≤ 500) (hm : c < m) (I : lsI c s) (f : lmF φ ψ) (h : lmP σ n K P V E c s (qJ s.1 + 1) ψ) (k10 : K (qJ s.1) = 10) (ky : K (qJ s.1 + 1) = b2i y) (fy : s.2.1 y = none) : pR mX11_readShut d 63 [(2, 68), (0, b2i y)] [] ψ (llM σ n K P V E c (lnF K P V m s) φ) := by
  have Sψ := S.eq f.1
  have jc := (h.1.2.1 rfl).2.2.1
  have z2 := (h.1.2.1 rfl).1
  have yb : b2i y = 0 ∨ b2i y = 1 := by cases y; exact Or.inl rfl; exact Or.inr rfl
  have jl := T.R.lt jc (by omega)
  have ky' : y = decide (K (qJ s.1 + 1) = 1) := by
    cases y
    · rw [ky]; rfl
    · rw [ky]; rfl
  have L := lnF_at (P := P) (V := V) (n := m) k10 ky' (by omega) fy
  let Q1 : Option pV → pS → Prop := fun r υ => r = none ∧ lmF φ υ ∧ lmP σ n K P V E c s (qJ s.1 + 2) υ
  let Q2 : Option pV → pS → Prop := fun r υ => r = none ∧ lmF φ υ ∧ (K (qJ s.1 + 2) = 11 → lmP σ n K P V E c s (qJ s.1 + 3) υ) ∧ (K (qJ s.1 + 2) ≠ 11 → mSt σ n K P V E c (some (flt K P 2 (qJ s.1 + 2))) 0 υ)
  have p1 : pC mX11_next 1 [(2, 68)] ψ Q1 := (next_M (Nat.le_refl _) Sψ T h.1 jl (by omega)).mono fun r υ _ z => ⟨z.1, f.tr z.2.1.m.lm, h.of z.2.1.m z.2.2⟩
  have p2 : ∀ υ, Q1 none υ → pC mX11_wantWord 2 [(2, 68), (1, 26982)] υ Q2 := fun υ q => (wantWord_M (Nat.le_refl _) (S.eq q.2.1.1) T q.2.2.1 (q := 11) (by decide) (by decide)).mono fun r τ _ z => by
    obtain ⟨z1, z2, z3⟩ := z
    refine ⟨z1, q.2.1.tr z2.lm, fun k => ?_, fun k => ?_⟩
    · rw [oo_none, ck_t (b := decide (K (qJ s.1 + 2) = ((11 : Nat) : Int))) (decide_eq_true k)] at z3
      exact q.2.2.of z2 z3
    · rw [oo_none, ck_f (b := decide (K (qJ s.1 + 2) = ((11 : Nat) : Int))) (decide_eq_false k)] at z3
      exact z3.to rfl (fun e => (by cases e))
  have ft : ∀ υ, Q2 none υ → inR (rd υ 68 2) ∧ (rd υ 68 2 ≤ 0 → K (qJ s.1 + 2) = 11) ∧ (0 < rd υ 68 2 → K (qJ s.1 + 2) ≠ 11) := fun υ q => by
    by_cases k : K (qJ s.1 + 2) = 11
    · have z := (q.2.2.1 k).1.fault
      exact ⟨z.1, fun _ => k, fun y => absurd rfl (z.2.2.1 y)⟩
    · have z := (q.2.2.2 k).fault
      exact ⟨z.1, fun y => (by cases z.2.1 y), fun _ => k⟩
  have go : ∀ v : Int, v = b2i y → ∀ υ, Q2 none υ → rd υ 68 2 ≤ 0 → pR mX11_readShut d 104 [(2, 68), (0, b2i y)] [] (wr υ 68 50 v) (llM σ n K P V E c (lnF K P V m s) φ) := fun v ev υ q c3 => by
    have k := (ft υ q).2.1 c3
    exact lm_104 hd S T hc hm I (q.2.1.wr (by omega)) (q.2.2.1 k).w50 (by rw [rd_wr_same]; exact ev) k10 ky' (by omega) k fy
  refine g_X11_readShut_63 (Q1 := Q1) (Q2 := Q2) hd Sψ (b2i y) (by unfold inR; omega) (fun _ => p1) (fun _ υ _ q => p2 υ q) (fun _ _ _ _ υ _ q => (ft υ q).1) (fun _ _ _ _ _ _ _ _ => by unfold inR; omega) (fun _ _ _ _ υ _ q c3 c5 => go 0 (by omega) υ q c3) (fun _ _ _ _ υ _ q c3 c6 => go 1 c6.symm υ q c3) (fun _ _ _ _ υ _ q c4 => ?_) (fun c2 => by omega)
  have k := (ft υ q).2.2 c4
  exact llM.bad (L.1 k) q.2.1 (q.2.2.2 k)
theorem readShut_M {d m : Nat} {s : lst} {φ : pS} (hd : 5 ≤ d) (S : Stat φ) (T : TK σ n K P V E c) (hc : c ≤ 500) (hm : c < m) (I : lsI c s) (h : lmP σ n K P V E c s (qJ s.1) φ) : pC mX11_readShut d [(2, 68)] φ (llM σ n K P V E c (lnF K P V m s) φ) := by
  have R := T.R
  let Q1 : Option pV → pS → Prop := fun r υ => r = none ∧ lmF φ υ ∧ (K (qJ s.1) = 10 → lmP σ n K P V E c s (qJ s.1 + 1) υ) ∧ (K (qJ s.1) ≠ 10 → mSt σ n K P V E c (some (flt K P 2 (qJ s.1))) 0 υ)
  have p1 : pC mX11_wantWord 2 [(2, 68), (1, 1936225652)] φ Q1 := (wantWord_M (Nat.le_refl _) S T h.1 (q := 10) (by decide) (by decide)).mono fun r τ _ z => by
    obtain ⟨z1, z2, z3⟩ := z
    refine ⟨z1, z2.lm, fun k => ?_, fun k => ?_⟩
    · rw [oo_none, ck_t (b := decide (K (qJ s.1) = ((10 : Nat) : Int))) (decide_eq_true k)] at z3
      exact h.of z2 z3
    · rw [oo_none, ck_f (b := decide (K (qJ s.1) = ((10 : Nat) : Int))) (decide_eq_false k)] at z3
      exact z3.to rfl (fun e => (by cases e))
  have ft : ∀ υ, Q1 none υ → inR (rd υ 68 2) ∧ (rd υ 68 2 ≤ 0 → K (qJ s.1) = 10) ∧ (0 < rd υ 68 2 → K (qJ s.1) ≠ 10) := fun υ q => by
    by_cases k : K (qJ s.1) = 10
    · have z := (q.2.2.1 k).1.fault
      exact ⟨z.1, fun _ => k, fun y => absurd rfl (z.2.2.1 y)⟩
    · have z := (q.2.2.2 k).fault
      exact ⟨z.1, fun y => (by cases z.2.1 y), fun _ => k⟩
  have wd : ∀ υ, Q1 none υ → rd υ 68 2 ≤ 0 → ∀ q : Nat, q < 18 → ∀ x : Int, x = kwc q → inL x → pC mX11_isWord 0 [(2, 68), (1, x)] υ (fun r τ => r = some (0, b2i (vIsW υ x)) ∧ τ = υ) ∧ vIsW υ x = decide (K (qJ s.1 + 1) = (q : Int)) := fun υ z c1 q hq x hx hL => by
    have H := z.2.2.1 ((ft υ z).2.1 c1)
    have hcc := (H.1.2.1 rfl).2.2
    have so := hcc.sort R
    have s6 := so.2.2.2.2.2.2
    exact ⟨isWord_C (S.eq z.2.1.1) (by unfold inR; omega) (fun y => ((hcc.word R).2.2 y).2.1) hL, by rw [hx]; exact (hcc.word R).1 q hq⟩
  have bad : ∀ υ, Q1 none υ → rd υ 68 2 ≤ 0 → (¬ (K (qJ s.1 + 1) = 0 ∨ K (qJ s.1 + 1) = 1) ∨ s.2.1 (decide (K (qJ s.1 + 1) = 1)) ≠ none) → lnF K P V m s = .inl (flt K P 2 (qJ s.1 + 1)) := fun υ q c1 z => by
    unfold lnF
    rw [if_neg (fun y => y ((ft υ q).2.1 c1)), if_pos z]
  have wr2 : ∀ υ, Q1 none υ → rd υ 68 2 ≤ 0 → pC mX11_wrong 0 [(2, 68), (0, 2)] υ (fun r τ => r = none ∧ lmF φ τ ∧ mSt σ n K P V E c (some (flt K P 2 (qJ s.1 + 1))) 0 τ) := fun υ q c1 =>
    (wrong_M (S.eq q.2.1.1) R (q.2.2.1 ((ft υ q).2.1 c1)).1 (by decide) 0).mono fun r τ _ z => ⟨z.1, q.2.1.tr z.2.1.lm, z.2.2⟩
  have g45 : ∀ υ, Q1 none υ → rd υ 68 2 ≤ 0 → ∀ y : Bool, K (qJ s.1 + 1) = b2i y → pR mX11_readShut d 45 [(2, 68), (0, b2i y)] [] υ (llM σ n K P V E c (lnF K P V m s) φ) := fun υ q c1 y ky => by
    have k10 := (ft υ q).2.1 c1
    have H := q.2.2.1 k10
    have yb : b2i y = 0 ∨ b2i y = 1 := by cases y; exact Or.inl rfl; exact Or.inr rfl
    have yd : decide (K (qJ s.1 + 1) = 1) = y := by rw [ky]; cases y <;> rfl
    have r93 : rd υ 93 (b2i y) = 0 ∧ s.2.1 y = none ∨ rd υ 93 (b2i y) = 1 ∧ s.2.1 y ≠ none := by
      cases e : s.2.1 y with
      | none => exact Or.inl ⟨(H.2.2.2.2 y).1 e, rfl⟩
      | some v => exact Or.inr ⟨((H.2.2.2.2 y).2 v e).1, fun z => by cases z⟩
    refine g_X11_readShut_45 (Q1 := fun _ _ => True) (Q2 := fun r τ => r = none ∧ lmF φ τ ∧ mSt σ n K P V E c (some (flt K P 2 (qJ s.1 + 1))) 0 τ) hd (S.eq q.2.1.1) (b2i y) (by unfold inR; omega) (fun c => by omega) (fun c => by omega) (fun _ => by omega) (fun _ => by unfold inR; omega) (fun _ c3 => ?_) (fun _ _ => wr2 υ q c1) (fun _ c4 τ _ z => ?_)
    · rcases r93 with z | z
      · exact lm_63 hd S T hc hm I q.2.1 H k10 ky z.2
      · omega
    · rcases r93 with w | w
      · omega
      · exact lm_63F hd (S.eq z.2.1.1) z.2.2 (llM.bad (bad υ q c1 (Or.inr (by rw [yd]; exact w.2))) z.2.1 z.2.2)
  refine g_X11_readShut_0 (Q1 := Q1) hd S p1 (fun υ _ q => (ft υ q).1) (fun υ _ q c1 => (wd υ q c1 0 (by decide) 1818846836 (by decide) (by decide)).1) (fun υ _ q c1 _ => (wd υ q c1 1 (by decide) 7501166 (by decide) (by decide)).1) (fun υ _ q c1 c3 c5 => ?_) (fun υ _ q c1 c3 c6 => ?_) (fun υ _ q c1 c4 => ?_) (fun υ _ q c2 => llM.bad (show lnF K P V m s = .inl (flt K P 2 (qJ s.1)) by unfold lnF; rw [if_pos ((ft υ q).2.2 c2)]) q.2.1 (q.2.2.2 ((ft υ q).2.2 c2)))
  · rw [(wd υ q c1 0 (by decide) 1818846836 (by decide) (by decide)).2] at c3
    rw [(wd υ q c1 1 (by decide) 7501166 (by decide) (by decide)).2] at c5
    have n0 : K (qJ s.1 + 1) ≠ 0 := of_decide_eq_false c3
    have n1 : K (qJ s.1 + 1) ≠ 1 := of_decide_eq_false c5
    have b := bad υ q c1 (Or.inl (by omega))
    exact g_X11_readShut_45 (Q1 := fun r τ => r = none ∧ lmF φ τ ∧ mSt σ n K P V E c (some (flt K P 2 (qJ s.1 + 1))) 0 τ) (Q2 := fun _ _ => True) hd (S.eq q.2.1.1) (-1) (by decide) (fun _ => wr2 υ q c1) (fun _ τ _ z => lm_63F hd (S.eq z.2.1.1) z.2.2 (llM.bad b z.2.1 z.2.2)) (fun c => by omega) (fun c => by omega) (fun c => by omega) (fun c => by omega) (fun c => by omega)
  · rw [(wd υ q c1 1 (by decide) 7501166 (by decide) (by decide)).2] at c6
    exact g45 υ q c1 true (of_decide_eq_true c6)
  · rw [(wd υ q c1 0 (by decide) 1818846836 (by decide) (by decide)).2] at c4
    exact g45 υ q c1 false (of_decide_eq_true c4)
end LML
