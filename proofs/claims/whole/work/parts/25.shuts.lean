/-! the law's value: a list of steps and a stack; the class's shuts -/
def lOp (op n : Int) (u : Int → Int) (st : List Int) : List Int :=
  if op = 14 then (match st with | x :: r => (1 - x) :: r | [] => [])
  else if op = 19 then n :: st
  else if vWU op = true then u op :: st
  else (match st with | x :: y :: r => vJoin op y x :: r | r => r)
def lRun (u : Int → Int) : List (Int × Int) → List Int → List Int
  | [], st => st
  | p :: r, st => lRun u r (lOp p.1 p.2 u st)
def lGood (u : Int → Int) : List (Int × Int) → List Int → Prop
  | [], st => ∀ x ∈ st, inR x
  | p :: r, st => (∀ x ∈ st, inR x) ∧ st.length ≤ 40 ∧ inR p.1 ∧ (p.1 = 14 → 1 ≤ st.length) ∧ (p.1 ≠ 14 → p.1 ≠ 19 → vWU p.1 = false → 2 ≤ st.length) ∧ lGood u r (lOp p.1 p.2 u st)
theorem lRun_app (u : Int → Int) (P Q : List (Int × Int)) (st : List Int) : lRun u (P ++ Q) st = lRun u Q (lRun u P st) := by
  induction P generalizing st with
  | nil => rfl
  | cons p r ih => exact ih _
def rep (f : Int → Int) : List Int → Prop
  | [] => True
  | x :: r => f (r.length : Int) = x ∧ rep f r
theorem rep.cg {f g : Int → Int} : ∀ {st : List Int}, rep f st → (∀ i : Int, 0 ≤ i → i < st.length → g i = f i) → rep g st
  | [], _, _ => trivial
  | x :: r, h, e => ⟨(e _ (by omega) (by simp only [List.length_cons]; omega)).trans h.1, rep.cg h.2 (fun i h0 h1 => e i h0 (by simp only [List.length_cons]; omega))⟩
def qRow (σ τ : pS) (a : Int) : Prop := τ.1 = σ.1 ∧ ∀ b i : Int, b ≠ a → rd τ b i = rd σ b i
theorem qRow.wr {σ τ : pS} {a i v : Int} (h : qRow σ τ a) : qRow σ (wr τ a i v) a := ⟨h.1, fun b j hb => by rw [rd_wr_a _ hb]; exact h.2 b j hb⟩
theorem lGood.now {u : Int → Int} : ∀ {P : List (Int × Int)} {st : List Int}, lGood u P st → ∀ x ∈ st, inR x
  | [], _, h => h
  | _ :: _, _, h => h.1
def lTrue (st : List Int) : Bool := match st.getLast? with
  | some x => decide (x ≠ 0)
  | none => false
theorem rep.bot {f : Int → Int} : ∀ {st : List Int}, rep f st → 0 < st.length → st.getLast? = some (f 0)
  | [], _, h => absurd h (by simp)
  | [a], h, _ => by rw [← h.1]; rfl
  | a :: b :: r, h, _ => by
    have := rep.bot (st := b :: r) h.2 (by simp)
    rw [List.getLast?_cons_cons]
    exact this
theorem vUnit_eq {σ τ : pS} {a : Int} (q : qRow σ τ a) (h1 : a ≠ 35) (h2 : a ≠ 36) (h3 : a ≠ 37) (h4 : a ≠ 38) (hs : rd σ 35 4 + 10 < a ∨ a < rd σ 35 4) (op w h : Int) : vUnit τ op w h = vUnit σ op w h := by
  unfold vUnit
  rw [q.2 35 4 (by omega), q.2 36 h (by omega), q.2 37 h (by omega), q.2 38 h (by omega), q.2 (rd σ 35 4 + 10) w (by omega), q.2 (rd σ 35 4 + 9) w (by omega), q.2 (rd σ 35 4 + 4) w (by omega)]
theorem shuts_loop {d : Nat} {σ : pS} {Q : Option pV → pS → Prop} (hd : 1 ≤ d) (S : Stat σ) {l w h y : Int} {n2 : Nat} (hl : l = 17 ∨ 141 ≤ l) (I2 : Inst2 σ l n2) (I6 : Inst6 σ (rd σ 35 4)) (hw : 0 ≤ w ∧ w < 17) (hh : 0 ≤ h ∧ h < 8) (hy : 0 ≤ y ∧ y < 2) (hn : n2 < 2147483648) (hs : rd σ 35 4 + 10 < l + 3 ∨ l + 3 < rd σ 35 4) (hb : 0 ≤ rd σ (l + 2) y ∧ rd σ (l + 2) y ≤ n2) :
    ∀ (P : List (Int × Int)) (i : Int) (τ : pS) (st : List Int) (u7 : pV), u7.1 ≠ 1 → 0 ≤ i → i + P.length = rd σ (l + 2) y → (∀ (j : Nat) (p : Int × Int), P[j]? = some p → rd σ (l + 4) (i + j) = p.1 ∧ rd σ (l + 5) (i + j) = p.2) → lGood (fun op => vUnit σ op w h) P st → st.length ≤ 41 → qRow σ τ (l + 3) → rep (fun k => rd τ (l + 3) k) st →
      (∀ (τ' : pS), qRow σ τ' (l + 3) → Q (some (0, b2i (lTrue (lRun (fun op => vUnit σ op w h) P st)))) τ') →
      pR mX2_shuts d 25 [(2, l), (2, 35), (0, w), (0, h), (0, y), (0, (st.length : Int)), (0, i), u7] [] τ Q := by
  intro P
  induction P with
  | nil =>
    intro i τ st u7 h7 hi he hP hg hz hq hr K
    have S2 : Stat τ := S.eq hq.1
    have e2 : rd τ (l + 2) y = rd σ (l + 2) y := hq.2 _ _ (by omega)
    have K := K τ hq
    have bR : 0 < (st.length : Int) → inR (rd τ (l + 3) 0) := fun c => by
      have := hr.bot (by omega)
      exact hg.now _ (List.mem_of_getLast? this)
    have kb : 0 < (st.length : Int) → lTrue (lRun (fun op => vUnit σ op w h) [] st) = decide (rd τ (l + 3) 0 ≠ 0) := fun c => by
      have := hr.bot (by omega)
      show lTrue st = _
      unfold lTrue
      rw [this]
    have kn : (st.length : Int) ≤ 0 → lTrue (lRun (fun op => vUnit σ op w h) [] st) = false := fun c => by
      have : st = [] := List.eq_nil_of_length_eq_zero (by omega)
      subst this
      rfl
    simp only [List.length_nil] at he
    refine g_X2_shuts_25 hd S2 l w h y (st.length : Int) i u7 (I2.eq hq.1) h7 (by omega) (fun c => by omega) (fun c => by omega) (fun c => by omega) (fun c => by omega) (fun c => by omega) (fun _ => hy) (fun _ => by omega) (fun _ _ => by omega) (fun _ _ c => ?_) (fun _ _ c => bR c) (fun _ _ c c2 => ?_) (fun _ _ c c2 => ?_) (fun _ c => by omega) (fun _ c => by omega) (fun _ c => by omega) (fun _ c => by omega) (fun _ c => by omega) (fun _ c => by omega) (fun _ c => by omega) (fun _ c => by omega) (fun _ c => by omega) (fun _ c => by omega) (fun _ c => by omega) (fun _ c => by omega) (fun _ c => by omega) (fun _ c => by omega) (fun _ c => by omega) (fun _ c => by omega) (fun _ c => by omega) (fun _ c => by omega) (fun _ c => by omega) (fun _ c => by omega) (fun _ c => by omega) (fun _ c => by omega) (fun _ c => by omega) (fun _ c => by omega) (fun _ c => by omega) (fun _ c => by omega) (fun _ c => by omega)
    · rw [kn c] at K; exact K
    · rw [kb c, decide_eq_false (by simpa using c2)] at K; exact K
    · rw [kb c, decide_eq_true c2] at K; exact K
  | cons p P ih =>
    intro i τ st u7 h7 hi he hP hg hz hq hr K
    have S2 : Stat τ := S.eq hq.1
    have e2 : rd τ (l + 2) y = rd σ (l + 2) y := hq.2 _ _ (by omega)
    obtain ⟨p4, p5⟩ := hP 0 p rfl
    rw [show i + ((0 : Nat) : Int) = i by omega] at p4 p5
    have e4 : rd τ (l + 4) i = p.1 := (hq.2 _ _ (by omega)).trans p4
    have e5 : rd τ (l + 5) i = p.2 := (hq.2 _ _ (by omega)).trans p5
    have e35 : rd τ 35 4 = rd σ 35 4 := hq.2 _ _ (by omega)
    have eu : ∀ op : Int, vUnit τ op w h = vUnit σ op w h := fun op => vUnit_eq hq (by omega) (by omega) (by omega) (by omega) hs op w h
    obtain ⟨g1, g2, g3, g4, g5, g6⟩ := hg
    simp only [List.length_cons] at he
    have hP' : ∀ (j : Nat) (q : Int × Int), P[j]? = some q → rd σ (l + 4) (i + 1 + j) = q.1 ∧ rd σ (l + 5) (i + 1 + j) = q.2 := fun j q hj => by
      have := hP (j + 1) q (by simpa using hj)
      rw [show i + 1 + (j : Int) = i + ((j + 1 : Nat) : Int) by omega]
      exact this
    have go : ∀ (τ' : pS) (v : pV) (st' : List Int) (z : Int), v.1 ≠ 1 → qRow σ τ' (l + 3) → st' = lOp p.1 p.2 (fun op => vUnit σ op w h) st → z = (st'.length : Int) → st'.length ≤ 41 → rep (fun k => rd τ' (l + 3) k) st' → pR mX2_shuts d 25 [(2, l), (2, 35), (0, w), (0, h), (0, y), (0, z), (0, i + 1), v] [] τ' Q := fun τ' v st' z hv q1 q2 q3 q4 q5 => by
      subst q3
      subst q2
      exact ih (i + 1) τ' _ v hv (by omega) (by omega) hP' g6 q4 q1 q5 K
    rw [← e4] at go g3 g4 g5
    rw [← e5] at go
    have nz : (rd τ (l + 4) i, rd τ (l + 4) i).1 = rd τ (l + 4) i := rfl
    have push : ∀ x : Int, rep (fun k => rd (wr τ (l + 3) (st.length : Int) x) (l + 3) k) (x :: st) := fun x => ⟨rd_wr_same _ _ _ _, hr.cg (fun k _ k1 => rd_wr_i _ (by omega))⟩
    refine g_X2_shuts_25 hd S2 l w h y (st.length : Int) i u7 (I2.eq hq.1) h7 (by omega) (fun c => by omega) (fun c => by omega) (fun c => by omega) (fun c => by omega) (fun c => by omega) (fun _ => hy) (fun _ => by omega) (fun _ c => by omega) (fun _ c => by omega) (fun _ c => by omega) (fun _ c => by omega) (fun _ c => by omega) (fun _ c => by omega) (fun _ c => g3) (fun _ c _ _ => by omega) (fun _ _ _ _ c => by omega) (fun _ _ _ c _ c2 => absurd c c2) (fun _ _ _ c _ c2 => absurd c c2) (fun _ _ _ c _ c2 => absurd c c2) (fun _ _ _ c _ _ => by omega) (fun _ _ c1 c2 _ _ => ?kn) (fun _ _ _ _ => isWordUnit_C S2 g3) (fun _ _ _ _ _ => by omega) (fun _ _ c1 c2 c3 c4 => by have := g5 c1 c2 c3; omega) (fun _ _ _ _ _ _ => by omega) (fun _ _ _ _ _ _ => by omega) (fun _ _ c1 c2 c3 c4 => ?fj) (fun _ _ c1 c2 c3 c4 => ?kj) (fun _ _ _ _ _ => by omega) (fun _ _ _ _ _ c => by omega) (fun _ _ c1 c2 c3 c4 c5 => unit_C S2 g3 (by rw [e35]; exact I6.eq hq.1) hw hh) (fun _ _ _ _ _ _ _ => by omega) (fun _ _ c1 c2 c3 c4 c5 => ?ku) (fun _ _ _ c _ _ c2 => absurd c2 c) (fun _ _ _ c _ _ c2 => absurd c2 c) (fun _ _ _ => by omega) (fun _ _ c1 c2 => by have := g4 c1; omega) (fun _ _ _ _ => by omega) (fun _ _ c1 c2 => ?kt)
    case kn =>
      refine go _ _ (rd τ (l + 5) i :: st) _ (show (0 : Nat) ≠ 1 by decide) hq.wr ?_ (by simp) (by simp; omega) (push _)
      unfold lOp
      rw [if_neg c1, if_pos c2]
    case ku =>
      rw [eu]
      refine go _ _ (vUnit σ (rd τ (l + 4) i) w h :: st) _ (show (0 : Nat) ≠ 1 by decide) hq.wr ?_ (by simp) (by simp; omega) (push _)
      unfold lOp
      rw [if_neg c1, if_neg c2, if_pos c3]
    case fj =>
      cases st with
      | nil => simp at c4
      | cons x r =>
        cases r with
        | nil => simp at c4
        | cons z r =>
          obtain ⟨r1, r2, r3⟩ := hr
          simp only [List.length_cons] at r1 r2 ⊢
          refine joined_C S2 g3 ?_ ?_
          · rw [show (((r.length + 1 + 1 : Nat) : Int) + (-1)) - 1 = ((r.length : Nat) : Int) by omega, r2]; exact g1 z (by simp)
          · rw [show (((r.length + 1 + 1 : Nat) : Int) + (-1)) = ((r.length + 1 : Nat) : Int) by omega, r1]; exact g1 x (by simp)
    case kj =>
      cases st with
      | nil => simp at c4
      | cons x r =>
        cases r with
        | nil => simp at c4
        | cons z r =>
          obtain ⟨r1, r2, r3⟩ := hr
          simp only [List.length_cons] at r1 r2 ⊢
          rw [show (((r.length + 1 + 1 : Nat) : Int) + (-1)) - 1 = ((r.length : Nat) : Int) by omega, show (((r.length + 1 + 1 : Nat) : Int) + (-1)) = ((r.length + 1 : Nat) : Int) by omega, r1, r2]
          refine go _ _ (vJoin (rd τ (l + 4) i) z x :: r) _ (show (0 : Nat) ≠ 1 by decide) hq.wr ?_ (by simp) (by simp at hz ⊢; omega) ⟨rd_wr_same _ _ _ _, r3.cg (fun k _ k1 => rd_wr_i _ (by omega))⟩
          unfold lOp
          rw [if_neg c1, if_neg c2, if_neg (by rw [c3]; decide)]
    case kt =>
      cases st with
      | nil => simp at c2
      | cons x r =>
        obtain ⟨r1, r2⟩ := hr
        simp only [List.length_cons] at r1 ⊢
        rw [show ((r.length + 1 : Nat) : Int) - 1 = ((r.length : Nat) : Int) by omega, r1]
        refine go _ _ ((1 - x) :: r) _ (show (0 : Nat) ≠ 1 by decide) hq.wr ?_ (by simp) (by simp at hz ⊢; omega) ⟨rd_wr_same _ _ _ _, r2.cg (fun k _ k1 => rd_wr_i _ (by omega))⟩
        unfold lOp
        rw [if_pos c1]
