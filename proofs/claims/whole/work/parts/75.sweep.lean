/-! sweeps, pure: sorted by their starts -/
section
variable {R : Int} {fr to tk far : Int → Int} {n : Int}
def swSt (R : Int) (fr to far : Int → Int) (c : Bool × Int) (s : swS) : Int := max (swAt c.1 s.2.1 + far (10 * swAt c.1 s.1 + fr (6 + c.2))) (swReady fr to s.2.2 c.2 R.toNat)
theorem swEnds_eq (c : Bool × Int) (s : swS) : swEnds R fr to tk far c s = swSt R fr to far c s + tk (6 + c.2) := rfl
theorem ready_s {dn : Int → Int} {run : Int} {N : Nat} : swReady fr to dn run (N + 1) = if to (6 + (N : Int)) = fr (6 + run) then (if swReady fr to dn run N < 0 ∨ dn (N : Int) < 0 then -1 else max (swReady fr to dn run N) (dn (N : Int))) else swReady fr to dn run N := rfl
theorem ready_cg {dn dn' : Int → Int} {run : Int} : ∀ {N : Nat}, (∀ i : Nat, i < N → to (6 + (i : Int)) = fr (6 + run) → dn (i : Int) = dn' (i : Int)) → swReady fr to dn run N = swReady fr to dn' run N
  | 0, _ => rfl
  | N + 1, h => by
    rw [ready_s, ready_s, ready_cg (fun i hi => h i (by omega))]
    by_cases c : to (6 + (N : Int)) = fr (6 + run)
    · rw [if_pos c, if_pos c, h N (by omega) c]
    · rw [if_neg c, if_neg c]
theorem ready_pos {dn : Int → Int} {run : Int} : ∀ {N : Nat}, 0 ≤ swReady fr to dn run N ↔ ∀ i : Nat, i < N → to (6 + (i : Int)) = fr (6 + run) → 0 ≤ dn (i : Int)
  | 0 => ⟨fun _ i hi => by omega, fun _ => Int.le_refl _⟩
  | N + 1 => by
    have ih := ready_pos (dn := dn) (run := run) (N := N)
    rw [ready_s]
    by_cases c : to (6 + (N : Int)) = fr (6 + run)
    · rw [if_pos c]
      constructor
      · intro h i hi e
        by_cases z : swReady fr to dn run N < 0 ∨ dn (N : Int) < 0
        · rw [if_pos z] at h; omega
        · by_cases y : i = N
          · subst y; omega
          · exact ih.mp (by omega) i (by omega) e
      · intro h
        have h1 := ih.mpr (fun i hi e => h i (by omega) e)
        have h2 := h N (by omega) c
        rw [if_neg (by omega)]
        omega
    · rw [if_neg c, ih]
      constructor
      · intro h i hi e
        by_cases y : i = N
        · subst y; exact absurd e c
        · exact h i (by omega) e
      · intro h i hi e
        exact h i (by omega) e
theorem ready_ge {dn : Int → Int} {run : Int} : ∀ {N : Nat}, 0 ≤ swReady fr to dn run N → ∀ i : Nat, i < N → to (6 + (i : Int)) = fr (6 + run) → dn (i : Int) ≤ swReady fr to dn run N
  | 0, _, i, hi, _ => by omega
  | N + 1, h, i, hi, e => by
    rw [ready_s] at h ⊢
    by_cases c : to (6 + (N : Int)) = fr (6 + run)
    · rw [if_pos c] at h ⊢
      by_cases z : swReady fr to dn run N < 0 ∨ dn (N : Int) < 0
      · rw [if_pos z] at h; omega
      · rw [if_neg z]
        by_cases y : i = N
        · subst y; omega
        · have := ready_ge (dn := dn) (run := run) (N := N) (by omega) i (by omega) e
          omega
    · rw [if_neg c] at h ⊢
      by_cases y : i = N
      · subst y; exact absurd e c
      · exact ready_ge h i (by omega) e
/-- what the tables hold -/
def swOk (R : Int) (fr to tk far : Int → Int) : Prop := (0 ≤ R ∧ R ≤ 7) ∧ (∀ r : Int, 0 ≤ r → r < R → 1 ≤ tk (6 + r) ∧ tk (6 + r) ≤ 60 ∧ 0 ≤ fr (6 + r) ∧ fr (6 + r) < 10 ∧ 0 ≤ to (6 + r) ∧ to (6 + r) < 10) ∧ ∀ i : Int, 0 ≤ i → i < 100 → 0 ≤ far i ∧ far i ≤ 1000000
/-- what a state holds -/
def swI (s : swS) : Prop := (0 ≤ s.1.1 ∧ s.1.1 < 10) ∧ (0 ≤ s.1.2 ∧ s.1.2 < 10) ∧ 0 ≤ s.2.1.1 ∧ 0 ≤ s.2.1.2
theorem swI.st {s : swS} (h : swI s) (b : Bool) : (0 ≤ swAt b s.1 ∧ swAt b s.1 < 10) ∧ 0 ≤ swAt b s.2.1 := by
  obtain ⟨h1, h2, h3, h4⟩ := h
  cases b
  · exact ⟨h1, h3⟩
  · exact ⟨h2, h4⟩
theorem swI.farR (o : swOk R fr to tk far) {s : swS} (h : swI s) {c : Bool × Int} (hc : 0 ≤ c.2 ∧ c.2 < R) : 0 ≤ far (10 * swAt c.1 s.1 + fr (6 + c.2)) ∧ far (10 * swAt c.1 s.1 + fr (6 + c.2)) ≤ 1000000 := by
  have a := h.st c.1
  have b := o.2.1 c.2 hc.1 hc.2
  exact o.2.2 _ (by omega) (by omega)
theorem swI.stR (o : swOk R fr to tk far) {s : swS} (h : swI s) {c : Bool × Int} (hc : 0 ≤ c.2 ∧ c.2 < R) : swAt c.1 s.2.1 ≤ swSt R fr to far c s ∧ 0 ≤ swSt R fr to far c s := by
  have a := h.st c.1
  have b := h.farR o hc
  unfold swSt
  omega
theorem swI.go (o : swOk R fr to tk far) {s : swS} (h : swI s) {c : Bool × Int} (hc : 0 ≤ c.2 ∧ c.2 < R) : swI (swGo R fr to tk far c s) := by
  have a := h.stR o hc
  have b := o.2.1 c.2 hc.1 hc.2
  obtain ⟨h1, h2, h3, h4⟩ := h
  obtain ⟨cb, cr⟩ := c
  have e := swEnds_eq (R := R) (fr := fr) (to := to) (tk := tk) (far := far) (cb, cr) s
  cases cb
  · exact ⟨⟨b.2.2.2.2.1, b.2.2.2.2.2⟩, h2, by show 0 ≤ swEnds R fr to tk far (false, cr) s; rw [e]; show 0 ≤ _ + tk (6 + cr); simp only at a b; omega, h4⟩
  · exact ⟨h1, ⟨b.2.2.2.2.1, b.2.2.2.2.2⟩, h3, by show 0 ≤ swEnds R fr to tk far (true, cr) s; rw [e]; show 0 ≤ _ + tk (6 + cr); simp only at a b; omega⟩
theorem swAt_put_ne {b c : Bool} (h : b ≠ c) (q : Int × Int) (v : Int) : swAt b (swPut c q v) = swAt b q := by
  cases b <;> cases c <;> first | rfl | exact absurd rfl h
theorem swAt_put (b : Bool) (q : Int × Int) (v : Int) : swAt b (swPut b q v) = v := by cases b <;> rfl
theorem swPut_swap {b c : Bool} (h : b ≠ c) (q : Int × Int) (v w : Int) : swPut b (swPut c q w) v = swPut c (swPut b q v) w := by
  cases b <;> cases c <;> first | rfl | exact absurd rfl h
theorem go_dn (c : Bool × Int) (s : swS) (r : Int) : (swGo R fr to tk far c s).2.2 r = if r = c.2 then swEnds R fr to tk far c s else s.2.2 r := rfl
/-- nothing of one is asked of the other -/
theorem st_indep {c x : Bool × Int} {s : swS} (hb : c.1 ≠ x.1) (ha : ¬ to (6 + x.2) = fr (6 + c.2)) : swSt R fr to far c (swGo R fr to tk far x s) = swSt R fr to far c s ∧ swReady fr to (swGo R fr to tk far x s).2.2 c.2 R.toNat = swReady fr to s.2.2 c.2 R.toNat := by
  have e : swReady fr to (swGo R fr to tk far x s).2.2 c.2 R.toNat = swReady fr to s.2.2 c.2 R.toNat := ready_cg (fun i hi ea => by
    rw [go_dn, if_neg]
    intro z
    rw [z] at ea
    exact ha ea)
  refine ⟨?_, e⟩
  unfold swSt
  rw [e]
  show max (swAt c.1 (swPut x.1 s.2.1 _) + far (10 * swAt c.1 (swPut x.1 s.1 _) + fr (6 + c.2))) _ = _
  rw [swAt_put_ne hb, swAt_put_ne hb]
theorem swap_can {c x : Bool × Int} {s : swS} (hx : swCan R fr to far n x s) (hc : swCan R fr to far n c (swGo R fr to tk far x s)) (hE : 0 ≤ swEnds R fr to tk far x s) (hb : c.1 ≠ x.1) (ha : ¬ to (6 + x.2) = fr (6 + c.2)) : c.2 ≠ x.2 ∧ ¬ to (6 + c.2) = fr (6 + x.2) ∧ swCan R fr to far n c s ∧ swCan R fr to far n x (swGo R fr to tk far c s) ∧ swGo R fr to tk far x (swGo R fr to tk far c s) = swGo R fr to tk far c (swGo R fr to tk far x s) := by
  obtain ⟨x1, x2, x3, x4, x5, x6⟩ := hx
  obtain ⟨c1, c2, c3, c4, c5, c6⟩ := hc
  have ne : c.2 ≠ x.2 := fun z => by
    rw [go_dn, if_pos z] at c4; omega
  have cd : s.2.2 c.2 < 0 := by rw [go_dn, if_neg ne] at c4; exact c4
  have na : ¬ to (6 + c.2) = fr (6 + x.2) := fun z => by
    have := ready_pos.mp x5 c.2.toNat (by omega) (by rw [show ((c.2.toNat : Nat) : Int) = c.2 by omega]; exact z)
    rw [show ((c.2.toNat : Nat) : Int) = c.2 by omega] at this
    omega
  have ic := st_indep (R := R) (tk := tk) (far := far) (s := s) hb ha
  have ix := st_indep (R := R) (tk := tk) (far := far) (c := x) (x := c) (s := s) (Ne.symm hb) na
  refine ⟨ne, na, ⟨c1, c2, c3, cd, by rw [ic.2] at c5; exact c5, ?_⟩, ⟨x1, x2, x3, by rw [go_dn, if_neg (Ne.symm ne)]; exact x4, by rw [ix.2]; exact x5, ?_⟩, ?_⟩
  · have : swAt c.1 (swPut x.1 s.1 (to (6 + x.2))) = swAt c.1 s.1 := swAt_put_ne hb _ _
    rw [show (swGo R fr to tk far x s).1 = swPut x.1 s.1 (to (6 + x.2)) from rfl, this] at c6
    exact c6
  · rw [show (swGo R fr to tk far c s).1 = swPut c.1 s.1 (to (6 + c.2)) from rfl, swAt_put_ne (Ne.symm hb)]
    exact x6
  · have ec : swEnds R fr to tk far c (swGo R fr to tk far x s) = swEnds R fr to tk far c s := by rw [swEnds_eq, swEnds_eq, ic.1]
    have ex : swEnds R fr to tk far x (swGo R fr to tk far c s) = swEnds R fr to tk far x s := by rw [swEnds_eq, swEnds_eq, ix.1]
    show (swPut x.1 (swPut c.1 s.1 (to (6 + c.2))) (to (6 + x.2)), swPut x.1 (swPut c.1 s.2.1 (swEnds R fr to tk far c s)) (swEnds R fr to tk far x (swGo R fr to tk far c s)), fun r => if r = x.2 then swEnds R fr to tk far x (swGo R fr to tk far c s) else (if r = c.2 then swEnds R fr to tk far c s else s.2.2 r)) = (swPut c.1 (swPut x.1 s.1 (to (6 + x.2))) (to (6 + c.2)), swPut c.1 (swPut x.1 s.2.1 (swEnds R fr to tk far x s)) (swEnds R fr to tk far c (swGo R fr to tk far x s)), fun r => if r = c.2 then swEnds R fr to tk far c (swGo R fr to tk far x s) else (if r = x.2 then swEnds R fr to tk far x s else s.2.2 r))
    rw [ec, ex, swPut_swap (Ne.symm hb), swPut_swap (Ne.symm hb)]
    congr 2
    funext r
    by_cases z : r = x.2
    · rw [if_pos z, if_neg (fun y => ne (y.symm.trans z)), if_pos z]
    · rw [if_neg z, if_neg z]
/-- begun never earlier than the one before -/
def swSort (R : Int) (fr to tk far : Int → Int) : Int → List (Bool × Int) → swS → Prop
  | _, [], _ => True
  | m, c :: cs, s => m ≤ swSt R fr to far c s ∧ swSort R fr to tk far (swSt R fr to far c s) cs (swGo R fr to tk far c s)
theorem sort_le {cs : List (Bool × Int)} {s : swS} {m m' : Int} (h : swSort R fr to tk far m cs s) (hm : m' ≤ m) : swSort R fr to tk far m' cs s := by
  cases cs with
  | nil => trivial
  | cons c cs => exact ⟨by have := h.1; omega, h.2⟩
theorem sw_insert (o : swOk R fr to tk far) : ∀ (cs : List (Bool × Int)) (s : swS) (c : Bool × Int) (m : Int) (t : swS), swI s → swCan R fr to far n c s → m ≤ swSt R fr to far c s → swRun R fr to tk far n cs (swGo R fr to tk far c s) t → swSort R fr to tk far m cs (swGo R fr to tk far c s) → ∃ ds, ds.length = cs.length + 1 ∧ swRun R fr to tk far n ds s t ∧ swSort R fr to tk far m ds s
  | [], s, c, m, t, hi, hc, hm, hr, hs => ⟨[c], rfl, ⟨hc, hr⟩, hm, trivial⟩
  | d :: cs, s, c, m, t, hi, hc, hm, hr, hs => by
    by_cases q : swSt R fr to far c s ≤ swSt R fr to far d (swGo R fr to tk far c s)
    · exact ⟨c :: d :: cs, rfl, ⟨hc, hr⟩, hm, q, hs.2⟩
    · obtain ⟨hd, hr⟩ := hr
      obtain ⟨hs1, hs2⟩ := hs
      have tc := o.2.1 c.2 hc.1 hc.2.1
      have ic := hi.go o ⟨hc.1, hc.2.1⟩
      have rc := hi.stR o ⟨hc.1, hc.2.1⟩
      have hb : d.1 ≠ c.1 := fun z => by
        have := (ic.stR o ⟨hd.1, hd.2.1⟩).1
        rw [z, show (swGo R fr to tk far c s).2.1 = swPut c.1 s.2.1 (swEnds R fr to tk far c s) from rfl, swAt_put, swEnds_eq] at this
        omega
      have hE : 0 ≤ swEnds R fr to tk far c s := by rw [swEnds_eq]; omega
      have ha : ¬ to (6 + c.2) = fr (6 + d.2) := fun z => by
        have g := ready_ge hd.2.2.2.2.1 c.2.toNat (by have := hc.2.1; have := hc.1; omega) (by rw [show ((c.2.toNat : Nat) : Int) = c.2 by have := hc.1; omega]; exact z)
        rw [show ((c.2.toNat : Nat) : Int) = c.2 by have := hc.1; omega, go_dn, if_pos rfl, swEnds_eq] at g
        have : swReady fr to (swGo R fr to tk far c s).2.2 d.2 R.toNat ≤ swSt R fr to far d (swGo R fr to tk far c s) := by unfold swSt; omega
        omega
      obtain ⟨ne, na, cd, cc, e⟩ := swap_can (tk := tk) hc hd hE hb ha
      have i1 := st_indep (R := R) (tk := tk) (far := far) (s := s) hb ha
      have i2 := st_indep (R := R) (tk := tk) (far := far) (c := c) (x := d) (s := s) (Ne.symm hb) na
      rw [i1.1] at q hs1 hs2
      rw [← e] at hr hs2
      obtain ⟨ds, l1, l2, l3⟩ := sw_insert o cs (swGo R fr to tk far d s) c (swSt R fr to far d s) t (hi.go o ⟨hd.1, hd.2.1⟩) cc (by rw [i2.1]; omega) hr hs2
      exact ⟨d :: ds, by simp only [List.length_cons]; omega, ⟨cd, l2⟩, hs1, l3⟩
theorem sw_sort (o : swOk R fr to tk far) : ∀ (cs : List (Bool × Int)) (s t : swS), swI s → swRun R fr to tk far n cs s t → ∃ ds, ds.length = cs.length ∧ swRun R fr to tk far n ds s t ∧ swSort R fr to tk far 0 ds s
  | [], s, t, hi, hr => ⟨[], rfl, hr, trivial⟩
  | c :: cs, s, t, hi, hr => by
    obtain ⟨ds, l1, l2, l3⟩ := sw_sort o cs (swGo R fr to tk far c s) t (hi.go o ⟨hr.1.1, hr.1.2.1⟩) hr.2
    obtain ⟨es, m1, m2, m3⟩ := sw_insert o ds s c 0 t hi hr.1 (hi.stR o ⟨hr.1.1, hr.1.2.1⟩).2 l2 l3
    exact ⟨es, by simp only [List.length_cons]; omega, m2, m3⟩
/-! the two change their parts -/
def swFl (s : swS) : swS := ((s.1.2, s.1.1), (s.2.1.2, s.2.1.1), s.2.2)
def flc (c : Bool × Int) : Bool × Int := (!c.1, c.2)
theorem fl_at (b : Bool) (q : Int × Int) : swAt (!b) (q.2, q.1) = swAt b q := by cases b <;> rfl
theorem fl_st (c : Bool × Int) (s : swS) : swSt R fr to far (flc c) (swFl s) = swSt R fr to far c s := by
  unfold swSt
  show max (swAt (!c.1) (s.2.1.2, s.2.1.1) + far (10 * swAt (!c.1) (s.1.2, s.1.1) + fr (6 + c.2))) (swReady fr to s.2.2 c.2 R.toNat) = _
  rw [fl_at, fl_at]
theorem fl_go (c : Bool × Int) (s : swS) : swGo R fr to tk far (flc c) (swFl s) = swFl (swGo R fr to tk far c s) := by
  have e : swEnds R fr to tk far (flc c) (swFl s) = swEnds R fr to tk far c s := by rw [swEnds_eq, swEnds_eq, fl_st]; rfl
  obtain ⟨b, r⟩ := c
  unfold swGo
  rw [e]
  cases b <;> rfl
theorem fl_can (hn : n ≠ 1) {c : Bool × Int} {s : swS} (h : swCan R fr to far n c s) : swCan R fr to far n (flc c) (swFl s) := by
  obtain ⟨h1, h2, h3, h4, h5, h6⟩ := h
  refine ⟨h1, h2, fun _ => hn, h4, h5, ?_⟩
  show far (10 * swAt (!c.1) (s.1.2, s.1.1) + fr (6 + c.2)) < 1000000
  rw [fl_at]; exact h6
theorem fl_run (hn : n ≠ 1) : ∀ {cs : List (Bool × Int)} {s t : swS}, swRun R fr to tk far n cs s t → swRun R fr to tk far n (cs.map flc) (swFl s) (swFl t)
  | [], s, t, h => by
    have h : s = t := h
    subst h; exact rfl
  | c :: cs, s, t, h => ⟨fl_can hn h.1, by rw [fl_go]; exact fl_run hn h.2⟩
theorem fl_sort : ∀ {cs : List (Bool × Int)} {s : swS} {m : Int}, swSort R fr to tk far m cs s → swSort R fr to tk far m (cs.map flc) (swFl s)
  | [], _, _, _ => trivial
  | c :: cs, s, m, h => ⟨by rw [fl_st]; exact h.1, by rw [fl_st, fl_go]; exact fl_sort h.2⟩
/-! the value of a run -/
def swVal (s : swS) : Int := max s.2.1.1 s.2.1.2
/-- when each is free is when his last run was swept -/
def swV (R : Int) (s : swS) : Prop := (s.2.1.1 = 0 ∨ ∃ r : Int, 0 ≤ r ∧ r < R ∧ s.2.2 r = s.2.1.1) ∧ (s.2.1.2 = 0 ∨ ∃ r : Int, 0 ≤ r ∧ r < R ∧ s.2.2 r = s.2.1.2) ∧ ∀ r : Int, 0 ≤ r → r < R → s.2.2 r ≤ swVal s
theorem swMax_le {f : Int → Int} {m : Int} (hm : 0 ≤ m) : ∀ N : Nat, (∀ i : Int, 0 ≤ i → i < (N : Int) → f i ≤ m) → swMax f N ≤ m
  | 0, _ => hm
  | N + 1, h => by
    have h1 := swMax_le hm N (fun i i0 i1 => h i i0 (by omega))
    have h2 := h (N : Int) (by omega) (by omega)
    show max (swMax f N) (f (N : Int)) ≤ m
    omega
theorem swMax_ge {f : Int → Int} : ∀ N : Nat, 0 ≤ swMax f N ∧ ∀ i : Int, 0 ≤ i → i < (N : Int) → f i ≤ swMax f N
  | 0 => ⟨Int.le_refl _, fun i i0 i1 => by omega⟩
  | N + 1 => by
    have ih := swMax_ge (f := f) N
    refine ⟨by show 0 ≤ max (swMax f N) (f (N : Int)); omega, fun i i0 i1 => ?_⟩
    show f i ≤ max (swMax f N) (f (N : Int))
    by_cases c : i = (N : Int)
    · subst c; omega
    · have := ih.2 i i0 (by omega)
      omega
theorem swV_max {s : swS} (hR : 0 ≤ R) (hi : swI s) (h : swV R s) : swMax s.2.2 R.toNat = swVal s := by
  obtain ⟨h1, h2, h3⟩ := h
  have a := swMax_le (f := s.2.2) (m := swVal s) (by unfold swVal; have := hi.2.2.1; omega) R.toNat (fun i i0 i1 => h3 i i0 (by omega))
  have b := swMax_ge (f := s.2.2) R.toNat
  have c1 : s.2.1.1 ≤ swMax s.2.2 R.toNat := by
    rcases h1 with e | ⟨r, r0, r1, e⟩
    · omega
    · have := b.2 r r0 (by omega); omega
  have c2 : s.2.1.2 ≤ swMax s.2.2 R.toNat := by
    rcases h2 with e | ⟨r, r0, r1, e⟩
    · omega
    · have := b.2 r r0 (by omega); omega
  unfold swVal at *
  omega
theorem swV.go (o : swOk R fr to tk far) {s : swS} (hi : swI s) (h : swV R s) {c : Bool × Int} (hc : swCan R fr to far n c s) : swV R (swGo R fr to tk far c s) := by
  obtain ⟨h1, h2, h3⟩ := h
  have rc := hi.stR o ⟨hc.1, hc.2.1⟩
  have tc := o.2.1 c.2 hc.1 hc.2.1
  have e := swEnds_eq (R := R) (fr := fr) (to := to) (tk := tk) (far := far) c s
  obtain ⟨i1, i2, i3, i4⟩ := hi
  have keep : ∀ v : Int, 0 ≤ v → (v = 0 ∨ ∃ r : Int, 0 ≤ r ∧ r < R ∧ s.2.2 r = v) → (v = 0 ∨ ∃ r : Int, 0 ≤ r ∧ r < R ∧ (swGo R fr to tk far c s).2.2 r = v) := fun v v0 hv => by
    rcases hv with z | ⟨r, r0, r1, z⟩
    · exact Or.inl z
    · refine Or.inr ⟨r, r0, r1, ?_⟩
      rw [go_dn, if_neg]
      · exact z
      · intro y
        have := hc.2.2.2.1
        rw [← y] at this
        omega
  have new : ∃ r : Int, 0 ≤ r ∧ r < R ∧ (swGo R fr to tk far c s).2.2 r = swEnds R fr to tk far c s := ⟨c.2, hc.1, hc.2.1, by rw [go_dn, if_pos rfl]⟩
  obtain ⟨cb, cr⟩ := c
  cases cb
  · refine ⟨Or.inr new, keep _ i4 h2, fun r r0 r1 => ?_⟩
    have rc1 : s.2.1.1 ≤ swSt R fr to far (false, cr) s := rc.1
    have tc1 := tc.1
    simp only at tc1
    have e' : swEnds R fr to tk far (false, cr) s = swSt R fr to far (false, cr) s + tk (6 + cr) := e
    have h3' := h3 r r0 r1
    rw [go_dn]
    show _ ≤ max (swEnds R fr to tk far (false, cr) s) s.2.1.2
    unfold swVal at h3'
    split <;> omega
  · refine ⟨keep _ i3 h1, Or.inr new, fun r r0 r1 => ?_⟩
    have rc1 : s.2.1.2 ≤ swSt R fr to far (true, cr) s := rc.1
    have tc1 := tc.1
    simp only at tc1
    have e' : swEnds R fr to tk far (true, cr) s = swSt R fr to far (true, cr) s + tk (6 + cr) := e
    have h3' := h3 r r0 r1
    rw [go_dn]
    show _ ≤ max s.2.1.1 (swEnds R fr to tk far (true, cr) s)
    unfold swVal at h3'
    split <;> omega
/-- what is left to sweep, its minutes -/
def swU (tk : Int → Int) (R : Int) (s : swS) : Int := sumF (fun r => if s.2.2 r < 0 then tk (6 + r) else 0) R.toNat
def swK (R : Int) (s : swS) : Int := sumF (fun r => if s.2.2 r < 0 then 1 else 0) R.toNat
theorem sumF_upd {f g : Int → Int} {i : Int} (h : ∀ r : Int, r ≠ i → g r = f r) : ∀ N : Nat, 0 ≤ i → sumF g N = sumF f N + (if i < (N : Int) then g i - f i else 0)
  | 0, hi => by rw [if_neg (by omega)]; rfl
  | N + 1, hi => by
    show sumF g N + g (N : Int) = sumF f N + f (N : Int) + _
    rw [sumF_upd h N hi]
    by_cases c : i = (N : Int)
    · subst c
      rw [if_neg (by omega), if_pos (by omega)]
      omega
    · rw [h (N : Int) (fun z => c z.symm)]
      by_cases c2 : i < (N : Int)
      · rw [if_pos c2, if_pos (by omega)]; omega
      · rw [if_neg c2, if_neg (by omega)]; omega
theorem go_U (o : swOk R fr to tk far) {s : swS} (hi : swI s) {c : Bool × Int} (hc : swCan R fr to far n c s) : swU tk R (swGo R fr to tk far c s) = swU tk R s - tk (6 + c.2) ∧ swK R (swGo R fr to tk far c s) = swK R s - 1 := by
  have rc := hi.stR o ⟨hc.1, hc.2.1⟩
  have tc := o.2.1 c.2 hc.1 hc.2.1
  have e := swEnds_eq (R := R) (fr := fr) (to := to) (tk := tk) (far := far) c s
  have e1 : (swGo R fr to tk far c s).2.2 c.2 = swEnds R fr to tk far c s := by rw [go_dn, if_pos rfl]
  have e2 : ∀ r : Int, r ≠ c.2 → (swGo R fr to tk far c s).2.2 r = s.2.2 r := fun r hr => by rw [go_dn, if_neg hr]
  constructor
  · unfold swU
    rw [sumF_upd (f := fun r => if s.2.2 r < 0 then tk (6 + r) else 0) (i := c.2) (fun r hr => by
      show (if (swGo R fr to tk far c s).2.2 r < 0 then tk (6 + r) else 0) = _
      rw [e2 r hr]) R.toNat hc.1, if_pos (by have := hc.2.1; omega)]
    show _ + ((if (swGo R fr to tk far c s).2.2 c.2 < 0 then tk (6 + c.2) else 0) - (if s.2.2 c.2 < 0 then tk (6 + c.2) else 0)) = _
    rw [e1, if_neg (by omega), if_pos hc.2.2.2.1]
    omega
  · unfold swK
    rw [sumF_upd (f := fun r => if s.2.2 r < 0 then 1 else 0) (i := c.2) (fun r hr => by
      show (if (swGo R fr to tk far c s).2.2 r < 0 then (1 : Int) else 0) = _
      rw [e2 r hr]) R.toNat hc.1, if_pos (by have := hc.2.1; omega)]
    show _ + ((if (swGo R fr to tk far c s).2.2 c.2 < 0 then (1 : Int) else 0) - (if s.2.2 c.2 < 0 then 1 else 0)) = _
    rw [e1, if_neg (by omega), if_pos hc.2.2.2.1]
    omega
theorem sumF_pos {f : Int → Int} : ∀ {N : Nat}, (∀ i : Int, 0 ≤ i → i < (N : Int) → 0 ≤ f i) → 0 ≤ sumF f N
  | 0, _ => Int.le_refl _
  | N + 1, h => by
    have := sumF_pos (f := f) (N := N) (fun i i0 i1 => h i i0 (by omega))
    have := h (N : Int) (by omega) (by omega)
    show 0 ≤ sumF f N + f (N : Int)
    omega
theorem sumF_0 {f : Int → Int} : ∀ {N : Nat}, (∀ i : Int, 0 ≤ i → i < (N : Int) → 0 ≤ f i) → sumF f N = 0 → ∀ i : Int, 0 ≤ i → i < (N : Int) → f i = 0
  | 0, _, _, i, i0, i1 => by omega
  | N + 1, h, e, i, i0, i1 => by
    have p := sumF_pos (f := f) (N := N) (fun i i0 i1 => h i i0 (by omega))
    have q := h (N : Int) (by omega) (by omega)
    have e : sumF f N + f (N : Int) = 0 := e
    by_cases c : i = (N : Int)
    · subst c; omega
    · exact sumF_0 (N := N) (fun i i0 i1 => h i i0 (by omega)) (by omega) i i0 (by omega)
theorem K_0 {s : swS} (h : swK R s = 0) : ∀ r : Int, 0 ≤ r → r < R → 0 ≤ s.2.2 r := fun r r0 r1 => by
  have := sumF_0 (f := fun r => if s.2.2 r < 0 then (1 : Int) else 0) (N := R.toNat) (fun i _ _ => by show 0 ≤ (if s.2.2 i < 0 then (1 : Int) else 0); split <;> omega) h r r0 (by omega)
  by_cases c : s.2.2 r < 0
  · have t : (if s.2.2 r < 0 then (1 : Int) else 0) = 0 := this
    rw [if_pos c] at t
    omega
  · omega
theorem U_0 {s : swS} (h : ∀ r : Int, 0 ≤ r → r < R → 0 ≤ s.2.2 r) : swU tk R s = 0 := by
  have : ∀ N : Nat, (N : Int) ≤ R → sumF (fun r => if s.2.2 r < 0 then tk (6 + r) else 0) N = 0 := fun N => by
    induction N with
    | zero => intro _; rfl
    | succ N ih =>
      intro hN
      show sumF _ N + (if s.2.2 (N : Int) < 0 then tk (6 + (N : Int)) else 0) = 0
      rw [ih (by omega), if_neg (by have := h (N : Int) (by omega) (by omega); omega)]
      rfl
  unfold swU
  by_cases c : 0 ≤ R
  · exact this R.toNat (by omega)
  · rw [show R.toNat = 0 by omega]; rfl
/-- along a run: free later, as much later as is swept -/
theorem run_grow (o : swOk R fr to tk far) : ∀ {ds : List (Bool × Int)} {s t : swS}, swI s → swRun R fr to tk far n ds s t → swI t ∧ s.2.1.1 ≤ t.2.1.1 ∧ s.2.1.2 ≤ t.2.1.2 ∧ s.2.1.1 + s.2.1.2 + swU tk R s ≤ t.2.1.1 + t.2.1.2 + swU tk R t ∧ swK R t = swK R s - ds.length ∧ (n = 1 → t.2.1.2 = s.2.1.2) ∧ (swV R s → swV R t)
  | [], s, t, hi, h => by
    have h : s = t := h
    subst h
    exact ⟨hi, Int.le_refl _, Int.le_refl _, Int.le_refl _, by simp, fun _ => rfl, id⟩
  | c :: ds, s, t, hi, h => by
    obtain ⟨hc, hr⟩ := h
    have ih := run_grow o (hi.go o ⟨hc.1, hc.2.1⟩) hr
    have gu := go_U o hi hc
    have rc := hi.stR o ⟨hc.1, hc.2.1⟩
    have tc := o.2.1 c.2 hc.1 hc.2.1
    have e := swEnds_eq (R := R) (fr := fr) (to := to) (tk := tk) (far := far) c s
    have hv : swV R s → swV R (swGo R fr to tk far c s) := fun v => v.go o hi hc
    rw [gu.1, gu.2] at ih
    obtain ⟨j1, j2, j3, j4, j5, j6, j7⟩ := ih
    have n1 := hc.2.2.1
    obtain ⟨cb, cr⟩ := c
    simp only [List.length_cons]
    cases cb
    · have a1 : (swGo R fr to tk far (false, cr) s).2.1.1 = swEnds R fr to tk far (false, cr) s := rfl
      have a2 : (swGo R fr to tk far (false, cr) s).2.1.2 = s.2.1.2 := rfl
      have rc1 : s.2.1.1 ≤ swSt R fr to far (false, cr) s := rc.1
      simp only at e tc j4
      exact ⟨j1, by omega, j3, by omega, by omega, j6, fun v => j7 (hv v)⟩
    · have a1 : (swGo R fr to tk far (true, cr) s).2.1.1 = s.2.1.1 := rfl
      have a2 : (swGo R fr to tk far (true, cr) s).2.1.2 = swEnds R fr to tk far (true, cr) s := rfl
      have rc1 : s.2.1.2 ≤ swSt R fr to far (true, cr) s := rc.1
      simp only at e tc j4
      exact ⟨j1, j2, by omega, by omega, by omega, fun h => absurd h (n1 rfl), fun v => j7 (hv v)⟩
end
