/-! the reference's holds: a list of steps in its own codes -/
def mJoin (what x y : Int) : Int := if what = 21 then (if 0 < x + y then 1 else 0) else if what = 22 then (if 1 < x + y then 1 else 0) else if what = 23 then (if x = y then 1 else 0) else if what = 24 then (if x < y then 1 else 0) else if what = 25 then (if y < x then 1 else 0) else if what = 26 then x + y else x - y
def mOp (what n : Int) (u : Int → Int → Int) (st : List Int) : List Int :=
  if what < 20 then u what n :: st
  else if what = 20 then (match st with | x :: r => (1 - x) :: r | [] => [])
  else (match st with | x :: y :: r => mJoin what y x :: r | r => r)
def mRun (u : Int → Int → Int) : List (Int × Int) → List Int → List Int
  | [], st => st
  | p :: r, st => mRun u r (mOp p.1 p.2 u st)
def inM (x : Int) : Prop := -500000000 ≤ x ∧ x ≤ 500000000
def mGood (u : Int → Int → Int) : List (Int × Int) → List Int → Prop
  | [], st => (∀ x ∈ st, inM x) ∧ 0 < st.length
  | p :: r, st => (∀ x ∈ st, inM x) ∧ st.length ≤ 59 ∧ inR p.1 ∧ (p.1 = 20 → 1 ≤ st.length) ∧ (20 < p.1 → 2 ≤ st.length) ∧ mGood u r (mOp p.1 p.2 u st)
def mTrue (st : List Int) : Bool := match st.getLast? with
  | some x => decide (x = 1)
  | none => false
theorem vVal_eq {σ τ : pS} (q : qRow σ τ 103) (what n w h : Int) : vVal τ what n w h = vVal σ what n w h := by
  have e : (fun i => rd τ 102 i) = (fun i => rd σ 102 i) := funext fun i => q.2 102 i (by decide)
  unfold vVal
  rw [e, q.2 101 h (by decide), q.2 102 h (by decide), q.2 81 w (by decide), q.2 80 w (by decide), q.2 79 w (by decide)]
theorem holds_loop {d : Nat} {σ : pS} {Q : Option pV → pS → Prop} (hd : 1 ≤ d) (S : Stat σ) {y w h : Int} (hy : 0 ≤ y ∧ y < 2) (hw : 0 ≤ w ∧ w < 13) (hh : 0 ≤ h ∧ h < 8) (hb : rd σ 92 y ≤ 600) :
    ∀ (P : List (Int × Int)) (i : Int) (τ : pS) (st : List Int) (u6 u7 u8 : pV), u6.1 ≠ 1 → u7.1 ≠ 1 → u8.1 ≠ 1 → 0 ≤ i → i + P.length = rd σ 92 y → (∀ (j : Nat) (p : Int × Int), P[j]? = some p → rd σ 89 (i + j) = p.1 ∧ rd σ 90 (i + j) = p.2) → mGood (fun a n => vVal σ a n w h) P st → st.length ≤ 60 → qRow σ τ 103 → rep (fun k => rd τ 103 k) st →
      (∀ (τ' : pS), qRow σ τ' 103 → Q (some (0, b2i (mTrue (mRun (fun a n => vVal σ a n w h) P st)))) τ') →
      pR mX11_holds d 22 [(2, 68), (0, y), (0, w), (0, h), (0, (st.length : Int)), (0, i), u6, u7, u8] [] τ Q := by
  intro P
  induction P with
  | nil =>
    intro i τ st u6 u7 u8 h6 h7 h8 hi he hP hg hz hq hr K
    have S2 : Stat τ := S.eq hq.1
    have e2 : rd τ 92 y = rd σ 92 y := hq.2 _ _ (by decide)
    have K := K τ hq
    have b := hr.bot hg.2
    have bm := hg.1 _ (List.mem_of_getLast? b)
    have kb : mTrue (mRun (fun a n => vVal σ a n w h) [] st) = decide (rd τ 103 0 = 1) := by
      show mTrue st = _
      unfold mTrue
      rw [b]
    have bR : inR (rd τ 103 0) := by unfold inM at bm; constructor <;> omega
    simp only [List.length_nil] at he
    refine g_X11_holds_22 hd S2 y w h (st.length : Int) i u6 u7 u8 h6 h7 h8 hy (by omega) (by omega) (fun _ => bR) (fun _ c => ?_) (fun _ c => ?_) (fun c => by omega) (fun c => by omega) (fun c => by omega) (fun c => by omega) (fun c => by omega) (fun c => by omega) (fun c => by omega) (fun c => by omega) (fun c => by omega) (fun c => by omega) (fun c => by omega) (fun c => by omega) (fun c => by omega) (fun c => by omega) (fun c => by omega) (fun c => by omega) (fun c => by omega) (fun c => by omega) (fun c => by omega) (fun c => by omega) (fun c => by omega) (fun c => by omega) (fun c => by omega) (fun c => by omega) (fun c => by omega) (fun c => by omega) (Q1 := fun _ _ => True) (fun c => by omega) (fun c => by omega) (fun c => by omega)
    · rw [kb, decide_eq_false c] at K; exact K
    · rw [kb, decide_eq_true c] at K; exact K
  | cons p P ih =>
    intro i τ st u6 u7 u8 h6 h7 h8 hi he hP hg hz hq hr K
    have S2 : Stat τ := S.eq hq.1
    have e2 : rd τ 92 y = rd σ 92 y := hq.2 _ _ (by decide)
    obtain ⟨p4, p5⟩ := hP 0 p rfl
    rw [show i + ((0 : Nat) : Int) = i by omega] at p4 p5
    have e4 : rd τ 89 i = p.1 := (hq.2 _ _ (by decide)).trans p4
    have e5 : rd τ 90 i = p.2 := (hq.2 _ _ (by decide)).trans p5
    obtain ⟨g1, g2, g3, g4, g5, g6⟩ := hg
    simp only [List.length_cons] at he
    have hP' : ∀ (j : Nat) (q : Int × Int), P[j]? = some q → rd σ 89 (i + 1 + j) = q.1 ∧ rd σ 90 (i + 1 + j) = q.2 := fun j q hj => by
      have := hP (j + 1) q (by simpa using hj)
      rw [show i + 1 + (j : Int) = i + ((j + 1 : Nat) : Int) by omega]
      exact this
    have go : ∀ (τ' : pS) (v6 v7 v8 : pV) (st' : List Int) (z : Int), v6.1 ≠ 1 → v7.1 ≠ 1 → v8.1 ≠ 1 → qRow σ τ' 103 → st' = mOp p.1 p.2 (fun a n => vVal σ a n w h) st → z = (st'.length : Int) → st'.length ≤ 60 → rep (fun k => rd τ' 103 k) st' → pR mX11_holds d 22 [(2, 68), (0, y), (0, w), (0, h), (0, z), (0, i + 1), v6, v7, v8] [] τ' Q := fun τ' v6 v7 v8 st' z a6 a7 a8 q1 q2 q3 q4 q5 => by
      subst q3
      subst q2
      exact ih (i + 1) τ' _ v6 v7 v8 a6 a7 a8 (by omega) (by omega) hP' g6 q4 q1 q5 K
    rw [← e4] at go g3 g4 g5
    rw [← e5] at go
    have n0 : (0 : Nat) ≠ 1 := by decide
    have jn : 20 < rd τ 89 i → inM (rd τ 103 ((st.length : Int) + (-1) - 1)) ∧ inM (rd τ 103 ((st.length : Int) + (-1))) ∧ ∀ (v : Int) (v6 v7 v8 : pV), v6.1 ≠ 1 → v7.1 ≠ 1 → v8.1 ≠ 1 → v = mJoin (rd τ 89 i) (rd τ 103 ((st.length : Int) + (-1) - 1)) (rd τ 103 ((st.length : Int) + (-1))) → pR mX11_holds d 22 [(2, 68), (0, y), (0, w), (0, h), (0, (st.length : Int) + (-1)), (0, i + 1), v6, v7, v8] [] (wr τ 103 ((st.length : Int) + (-1) - 1) v) Q := fun c => by
      have c4 := g5 c
      cases st with
      | nil => simp at c4
      | cons x r =>
        cases r with
        | nil => simp at c4
        | cons z r =>
          obtain ⟨r1, r2, r3⟩ := hr
          simp only [List.length_cons] at r1 r2 ⊢
          rw [show (((r.length + 1 + 1 : Nat) : Int) + (-1)) - 1 = ((r.length : Nat) : Int) by omega, show (((r.length + 1 + 1 : Nat) : Int) + (-1)) = ((r.length + 1 : Nat) : Int) by omega, r1, r2]
          refine ⟨g1 z (by simp), g1 x (by simp), fun v v6 v7 v8 a6 a7 a8 hv => ?_⟩
          subst hv
          refine go _ _ _ _ (mJoin (rd τ 89 i) z x :: r) _ a6 a7 a8 hq.wr ?_ (by simp) (by simp at hz ⊢; omega) ⟨rd_wr_same _ _ _ _, r3.cg (fun k _ k1 => rd_wr_i _ (by omega))⟩
          unfold mOp
          rw [if_neg (by omega), if_neg (by omega)]
    have jR : 20 < rd τ 89 i → inR (rd τ 103 ((st.length : Int) + (-1) - 1)) ∧ inR (rd τ 103 ((st.length : Int) + (-1))) ∧ inR (rd τ 103 ((st.length : Int) + (-1) - 1) + rd τ 103 ((st.length : Int) + (-1))) := fun c => by
      obtain ⟨a, b, -⟩ := jn c
      unfold inM at a b
      unfold inR
      omega
    refine g_X11_holds_22 hd S2 y w h (st.length : Int) i u6 u7 u8 h6 h7 h8 hy (by omega) (by omega) (fun c => by omega) (fun c => by omega) (fun c => by omega) (fun _ => by omega) (fun _ => g3) (fun _ c1 c2 => by have := g5 (by omega); omega) (fun _ c1 c2 => by have := g5 (by omega); omega)
      (fun _ c1 c2 c3 => (jn (by omega)).2.2 _ _ _ _ n0 n0 n0 (by unfold mJoin; rw [if_neg (by omega), if_neg (by omega), if_neg (by omega), if_neg (by omega), if_neg (by omega), if_neg (by omega)]))
      (fun _ c1 c2 c3 => (jR (by omega)).2.2)
      (fun _ c1 c2 c3 c4 => (jn (by omega)).2.2 _ _ _ _ n0 n0 n0 (by unfold mJoin; rw [if_pos c3, if_neg (by omega)]))
      (fun _ c1 c2 c3 c4 => (jn (by omega)).2.2 _ _ _ _ n0 n0 n0 (by unfold mJoin; rw [if_pos c3, if_pos c4]))
      (fun _ c1 c2 c3 => (jR (by omega)).2.2)
      (fun _ c1 c2 c3 c4 => (jn (by omega)).2.2 _ _ _ _ n0 n0 n0 (by unfold mJoin; rw [if_neg (by omega), if_pos c3, if_neg (by omega)]))
      (fun _ c1 c2 c3 c4 => (jn (by omega)).2.2 _ _ _ _ n0 n0 n0 (by unfold mJoin; rw [if_neg (by omega), if_pos c3, if_pos c4]))
      (fun _ c1 c2 c3 => (jR (by omega)).1) (fun _ c1 c2 c3 => (jR (by omega)).2.1)
      (fun _ c1 c2 c3 c4 => (jn (by omega)).2.2 _ _ _ _ n0 n0 n0 (by unfold mJoin; rw [if_neg (by omega), if_neg (by omega), if_pos c3, if_neg c4]))
      (fun _ c1 c2 c3 c4 => (jn (by omega)).2.2 _ _ _ _ n0 n0 n0 (by unfold mJoin; rw [if_neg (by omega), if_neg (by omega), if_pos c3, if_pos c4]))
      (fun _ c1 c2 c3 => (jR (by omega)).1) (fun _ c1 c2 c3 => (jR (by omega)).2.1)
      (fun _ c1 c2 c3 c4 => (jn (by omega)).2.2 _ _ _ _ n0 n0 n0 (by unfold mJoin; rw [if_neg (by omega), if_neg (by omega), if_neg (by omega), if_pos c3, if_neg (by omega)]))
      (fun _ c1 c2 c3 c4 => (jn (by omega)).2.2 _ _ _ _ n0 n0 n0 (by unfold mJoin; rw [if_neg (by omega), if_neg (by omega), if_neg (by omega), if_pos c3, if_pos c4]))
      (fun _ c1 c2 c3 => (jR (by omega)).1) (fun _ c1 c2 c3 => (jR (by omega)).2.1)
      (fun _ c1 c2 c3 c4 => (jn (by omega)).2.2 _ _ _ _ n0 n0 n0 (by unfold mJoin; rw [if_neg (by omega), if_neg (by omega), if_neg (by omega), if_neg (by omega), if_pos c3, if_neg (by omega)]))
      (fun _ c1 c2 c3 c4 => (jn (by omega)).2.2 _ _ _ _ n0 n0 n0 (by unfold mJoin; rw [if_neg (by omega), if_neg (by omega), if_neg (by omega), if_neg (by omega), if_pos c3, if_pos c4]))
      (fun _ c1 c2 c3 => (jn (by omega)).2.2 _ _ _ _ n0 n0 n0 (by unfold mJoin; rw [if_neg (by omega), if_neg (by omega), if_neg (by omega), if_neg (by omega), if_neg (by omega), if_pos c3]))
      (fun _ c1 c2 => by have := g4 c2; omega) (fun _ c1 c2 => ?kt) (fun _ c => valueOf_C S2 g3 hw hh) (fun _ c v1 τ1 e1 q1 => by omega) (fun _ c v1 τ1 e1 q1 => ?kv)
    case kt =>
      cases st with
      | nil => have := g4 c2; simp at this
      | cons x r =>
        obtain ⟨r1, r2⟩ := hr
        simp only [List.length_cons] at r1 ⊢
        rw [show ((r.length + 1 : Nat) : Int) - 1 = ((r.length : Nat) : Int) by omega, r1]
        refine go _ _ _ _ ((1 - x) :: r) _ n0 h7 h8 hq.wr ?_ (by simp) (by simp at hz ⊢; omega) ⟨rd_wr_same _ _ _ _, r2.cg (fun k _ k1 => rd_wr_i _ (by omega))⟩
        unfold mOp
        rw [if_neg (by omega), if_pos c2]
    case kv =>
      obtain ⟨q2, q3⟩ := q1
      subst q3
      have q4 := so_inj q2
      subst q4
      refine go _ _ _ _ (vVal τ1 (rd τ1 89 i) (rd τ1 90 i) w h :: st) _ n0 h7 h8 hq.wr ?_ (by simp) (by simp; omega) ⟨rd_wr_same _ _ _ _, hr.cg (fun k _ k1 => rd_wr_i _ (by omega))⟩
      unfold mOp
      rw [if_pos c, vVal_eq hq]
