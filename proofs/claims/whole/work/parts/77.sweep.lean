/-! the class's least; the relation behind it -/
/-- no run is longer than the walks -/
theorem run_bound {σ : pS} (L : RSlo σ) (Z : RSwp σ) {n : Int} : ∀ {ds : List (Bool × Int)} {s t : swS}, swI s → swV (rd σ 68 31) s → swRun (rd σ 68 31) (rd σ 77) (rd σ 78) (rd σ 79) (rd σ 133) n ds s t → swVal t ≤ swVal s + 70060 * (ds.length : Int)
  | [], s, t, hi, hv, h => by
    have h : s = t := h
    subst h
    simp
  | c :: ds, s, t, hi, hv, h => by
    have ok := sw_ok L Z
    obtain ⟨hc, hr⟩ := h
    have ih := run_bound L Z (hi.go ok ⟨hc.1, hc.2.1⟩) (hv.go ok hi hc) hr
    have tc := ok.2.1 c.2 hc.1 hc.2.1
    have st := hi.st c.1
    have fa := Z.2.1 (10 * swAt c.1 s.1 + rd σ 77 (6 + c.2)) (by omega) (by omega)
    have ff := hc.2.2.2.2.2
    have ry : swReady (rd σ 77) (rd σ 78) s.2.2 c.2 (rd σ 68 31).toNat ≤ swVal s := ready_le (by unfold swVal; have := hi.2.2.1; omega) _ (fun j j0 j1 => hv.2.2 j j0 (by omega))
    have a3 : swAt c.1 s.2.1 ≤ swVal s := by unfold swVal; cases c.1 <;> simp only [swAt, if_true, if_false] <;> first | omega | (simp; omega)
    have e : swEnds (rd σ 68 31) (rd σ 77) (rd σ 78) (rd σ 79) (rd σ 133) c s ≤ swVal s + 70060 := by
      rw [swEnds_eq]; unfold swSt; omega
    have g : swVal (swGo (rd σ 68 31) (rd σ 77) (rd σ 78) (rd σ 79) (rd σ 133) c s) ≤ swVal s + 70060 := by
      unfold swVal at *
      obtain ⟨cb, cr⟩ := c
      cases cb
      · show max (swEnds (rd σ 68 31) (rd σ 77) (rd σ 78) (rd σ 79) (rd σ 133) (false, cr) s) s.2.1.2 ≤ _
        omega
      · show max s.2.1.1 (swEnds (rd σ 68 31) (rd σ 77) (rd σ 78) (rd σ 79) (rd σ 133) (true, cr) s) ≤ _
        omega
    simp only [List.length_cons]
    omega
theorem swI_start {p : Int} (hp : 0 ≤ p ∧ p < 10) : swI (swStart p) := ⟨hp, hp, Int.le_refl _, Int.le_refl _⟩
theorem swV_start {R p : Int} : swV R (swStart p) := ⟨Or.inl rfl, Or.inl rfl, fun r r0 r1 => by show (-1 : Int) ≤ max 0 0; omega⟩
theorem swK_start {R p : Int} (hR : 0 ≤ R) : swK R (swStart p) = R := by
  have : ∀ N : Nat, sumF (fun r => if (swStart p).2.2 r < 0 then (1 : Int) else 0) N = (N : Int) := fun N => by
    induction N with
    | zero => rfl
    | succ N ih =>
      show sumF _ N + (1 : Int) = _
      rw [ih]
      omega
  unfold swK
  rw [this]
  omega
theorem best_of {σ : pS} (L : RSlo σ) (Z : RSwp σ) {n p b : Int} (hn : n = 1 ∨ n = 2) (hp : 0 ≤ p ∧ p < 10) (h : minR 1000000 (Cl σ n 0 0 (swStart p) (rd σ 68 31).toNat) b) : isBest σ p n (if b = 1000000 then -1 else b) := by
  have ok := sw_ok L Z
  have R7 := L.2.2.2.2.2.1
  have hi := swI_start hp
  have hv : swV (rd σ 68 31) (swStart p) := swV_start
  have v0 : swVal (swStart p) = 0 := rfl
  have all : ∀ cs t, swRun (rd σ 68 31) (rd σ 77) (rd σ 78) (rd σ 79) (rd σ 133) n cs (swStart p) t → (cs.length : Int) = rd σ 68 31 → Cl σ n 0 0 (swStart p) (rd σ 68 31).toNat (swVal t) ∧ swMax t.2.2 (rd σ 68 31).toNat = swVal t ∧ swVal t < 1000000 ∧ 0 ≤ swVal t := fun cs t hr hl => by
    have g := run_grow ok hi hr
    have bnd := run_bound L Z hi hv hr
    have gi := g.1.2.2
    have ev := swV_max R7.1 g.1 (g.2.2.2.2.2.2 hv)
    refine ⟨?_, ev, by omega, by unfold swVal; omega⟩
    obtain ⟨ds, l1, l2, l3⟩ := sw_sort ok cs _ t hi hr
    by_cases c : ∀ c rest, ds = c :: rest → c.1 = false
    · exact ⟨ds, t, by omega, l2, l3, fun _ => c, rfl⟩
    · have hn1 : n ≠ 1 := fun z => c (fun d rest e => by
        rw [e] at l2
        have := l2.1.2.2.1
        cases y : d.1
        · rfl
        · exact absurd z (this y))
      refine ⟨ds.map flc, swFl t, by rw [List.length_map]; omega, fl_run hn1 l2, fl_sort l3, fun _ d rest e => ?_, by show max t.2.1.1 t.2.1.2 = max t.2.1.2 t.2.1.1; omega⟩
      match ds, e, c with
      | d' :: ds', e, c =>
        have e1 : d = flc d' := by
          have := List.head_eq_of_cons_eq e
          exact this.symm
        rw [e1]
        show (!d'.1) = false
        cases y : d'.1
        · exact absurd (fun d rest e => by
            have := List.head_eq_of_cons_eq e
            rw [← this]; exact y) c
        · rfl
  constructor
  · intro cs t hr hl
    obtain ⟨a1, a2, a3, a4⟩ := all cs t hr hl
    have := h.2.1 _ a1
    rw [a2, if_neg (by omega)]
    rcases h.2.2 with e | e
    · omega
    · obtain ⟨ds, t', l, hr', -, -, e'⟩ := e
      have := (all ds t' hr' (by omega)).2.2.2
      omega
  · by_cases c : b = 1000000
    · left; rw [if_pos c]
    · right
      rw [if_neg c]
      rcases h.2.2 with e | ⟨ds, t', l, hr', -, -, e'⟩
      · exact absurd e c
      · have a := all ds t' hr' (by omega)
        exact ⟨by omega, ds, t', hr', by omega, by rw [a.2.1]; exact e'.symm⟩
theorem least_C {n0 d : Nat} {σ : pS} (h : RB n0 σ) (hd : 45 ≤ d) {p n : Int} (hp : 0 ≤ p ∧ p < 10) (hn : 1 ≤ n ∧ n ≤ 2) : pC mX7_least d [(2, 61), (0, p), (0, n)] σ (fun r υ => ∃ v, isBest σ p n v ∧ r = some (0, v) ∧ υ.1 = σ.1 ∧ (∀ a i : Int, ¬ (65 ≤ a ∧ a ≤ 67) → ¬ (a = 61 ∧ (i = 7 ∨ i = 8)) → ¬ (a = 62 ∧ i = (n - 1) * 10 + p) → rd υ a i = rd σ a i) ∧ rd υ 62 ((n - 1) * 10 + p) = v) := by
  have S := h.1
  have L := h.slo
  have Z : RSwp σ := h.ext.2.2.2
  have R7 := L.2.2.2.2.2.1
  have za := Z.2.2.2 p n hp.1 hp.2 hn.1 hn.2
  have hn' : n = 1 ∨ n = 2 := by omega
  have S1 : Stat (wr (wr σ 61 7 n) 61 8 1000000) := Stat.wr (Stat.wr S)
  have fin : ∀ τ : pS, cOk σ (swStart p) 0 τ → rd τ 61 7 = n → minR 1000000 (Cl σ n 0 0 (swStart p) (rd σ 68 31).toNat) (rd τ 61 8) → ∀ v : Int, v = (if rd τ 61 8 = 1000000 then -1 else rd τ 61 8) → ∃ v', isBest σ p n v' ∧ some ((0 : Nat), v) = some (0, v') ∧ (wr τ 62 ((n - 1) * 10 + p) v).1 = σ.1 ∧ (∀ a i : Int, ¬ (65 ≤ a ∧ a ≤ 67) → ¬ (a = 61 ∧ (i = 7 ∨ i = 8)) → ¬ (a = 62 ∧ i = (n - 1) * 10 + p) → rd (wr τ 62 ((n - 1) * 10 + p) v) a i = rd σ a i) ∧ rd (wr τ 62 ((n - 1) * 10 + p) v) 62 ((n - 1) * 10 + p) = v' := fun τ c h7 m v hv => by
    refine ⟨v, by rw [hv]; exact best_of L Z hn' hp m, rfl, c.1.1, fun a i c1 c2 c3 => ?_, by rw [rd_wr_same]⟩
    rw [rd_wr_n c3]
    exact c.1.2 a i c1 c2
  refine g_X7_least_0 (Q1 := fun r υ => r = none ∧ υ = fl (wr (wr σ 61 7 n) 61 8 1000000) 66 (2 : Nat) p) (Q2 := fun r υ => r = none ∧ υ = fl (fl (wr (wr σ 61 7 n) 61 8 1000000) 66 (2 : Nat) p) 67 (2 : Nat) 0) (Q3 := gPost σ n 0 0 (swStart p) 0 (rd σ 68 31).toNat 1000000) (by omega) S p n (by omega) za.1 (fun c => ?_) (fun _ => fill_C S1 (ob_66 S1) (by decide)) (fun _ τ1 e1 q1 => by rw [q1.2]; exact fill_C (Stat.fl S1) (ob_67 (Stat.fl S1)) (by decide)) (fun _ τ1 e1 q1 τ2 e2 q2 => ?_) (fun _ τ1 e1 q1 τ2 e2 q2 τ3 e3 q3 => ?_) (fun _ τ1 e1 q1 τ2 e2 q2 τ3 e3 q3 c3 => fin τ3 q3.2.1 q3.2.2.1 q3.2.2.2 _ (by rw [if_neg c3])) (fun _ τ1 e1 q1 τ2 e2 q2 τ3 e3 q3 c4 => fin τ3 q3.2.1 q3.2.2.1 q3.2.2.2 _ (by rw [if_pos c4]))
  · rcases za.2 with e | e
    · exact absurd e c
    · exact ⟨_, e, rfl, rfl, fun a i _ _ _ => rfl, rfl⟩
  · rw [q2.2]
    have fr : ∀ a i : Int, ¬ (65 ≤ a ∧ a ≤ 67) → ¬ (a = 61 ∧ (i = 7 ∨ i = 8)) → rd (fl (fl (wr (wr σ 61 7 n) 61 8 1000000) 66 (2 : Nat) p) 67 (2 : Nat) 0) a i = rd σ a i := fun a i c1 c2 => by
      rw [rd_fl, if_neg (by omega), rd_fl, if_neg (by omega), rd_wr_n (by omega), rd_wr_n (by omega)]
    have := goOn_C S L Z hn' (rd σ 68 31).toNat (d - 1) (swStart p) 0 0 1000000 (fl (fl (wr (wr σ 61 7 n) 61 8 1000000) 66 (2 : Nat) p) 67 (2 : Nat) 0) 0 (by omega) (by omega) ⟨⟨rfl, fr⟩, ⟨?_, ?_, ?_, ?_, fun r hr => ⟨?_, fun c => ?_⟩⟩, swI_start hp, swV_start, by show (0 : Int) ≤ _; decide⟩ (by rw [swK_start R7.1]; omega) (fun _ => rfl) ?_ ?_ (by decide) (by decide)
    · exact this
    · rw [rd_fl, if_neg (by omega), rd_fl, if_pos ⟨rfl, by decide, by decide⟩]; rfl
    · rw [rd_fl, if_neg (by omega), rd_fl, if_pos ⟨rfl, by decide, by decide⟩]; rfl
    · rw [rd_fl, if_pos ⟨rfl, by decide, by decide⟩]; rfl
    · rw [rd_fl, if_pos ⟨rfl, by decide, by decide⟩]; rfl
    · rw [bq_0]; rfl
    · exact absurd c (by show ¬ (0 : Int) ≤ -1; decide)
    · rw [rd_fl, if_neg (by omega), rd_fl, if_neg (by omega), rd_wr_n (by omega), rd_wr_same]
    · rw [rd_fl, if_neg (by omega), rd_fl, if_neg (by omega), rd_wr_same]
  · have m := q3.2.2.2
    rcases m.2.2 with e | ⟨ds, t, l, hr, -, -, e⟩
    · rw [e]; decide
    · have g := run_grow (sw_ok L Z) (swI_start hp) hr
      have := g.1.2.2
      have := m.1
      unfold swVal at e
      unfold inR
      omega
/-- the relation, an answer of the sweeps put down -/
theorem RB.swp {n0 : Nat} {σ τ : pS} (h : RB n0 σ) {p n v : Int} (hp : 0 ≤ p ∧ p < 10) (hn : 1 ≤ n ∧ n ≤ 2) (q1 : τ.1 = σ.1) (q2 : ∀ a i : Int, ¬ (65 ≤ a ∧ a ≤ 67) → ¬ (a = 61 ∧ (i = 7 ∨ i = 8)) → ¬ (a = 62 ∧ i = (n - 1) * 10 + p) → rd τ a i = rd σ a i) (hv : rd τ 62 ((n - 1) * 10 + p) = v) (hb : isBest σ p n v) (hr : inR v) : RB n0 τ := by
  obtain ⟨S, Z, T, F, C, L, W, P, K, R, D, E⟩ := h
  have l0 := L.1
  obtain ⟨k1, k2, k3, k4, k5⟩ := id K
  have le : pLe σ τ := ⟨by rw [q1]; exact Nat.le_refl _, by unfold pSz; rw [q1]; exact Nat.le_refl _, fun a q h _ => by rw [ob_eq q1]; exact h, fun a i ha => q2 a i (by omega) (by omega) (by omega)⟩
  have m : same σ τ MF := fun a i p => q2 a i (by unfold MF at p; omega) (by unfold MF at p; omega) (by unfold MF at p; omega)
  have e6 : rd τ 0 6 = rd σ 0 6 := q2 _ _ (by omega) (by omega) (by omega)
  have e7 : rd τ 0 7 = rd σ 0 7 := q2 _ _ (by omega) (by omega) (by omega)
  obtain ⟨z1, z2, z3, z4⟩ := E.2.2.2
  have hl := E.1.1
  have zz : RSwp τ := by
    refine ⟨?_, fun i i0 i1 => ?_, fun r r0 r1 o ho => ?_, fun p' n' p0 p1 n0 n1 => ?_⟩
    · rw [e7, q2 _ _ (by omega) (by omega) (by omega)]; exact z1
    · rw [q2 _ _ (by omega) (by omega) (by omega), q2 _ _ (by omega) (by omega) (by omega)]; exact z2 i i0 i1
    · rw [q2 64 _ (by omega) (by omega) (by omega), q2 68 _ (by omega) (by omega) (by omega), q2 77 _ (by omega) (by omega) (by omega), q2 78 _ (by omega) (by omega) (by omega)]
      rw [q2 68 _ (by omega) (by omega) (by omega)] at r1
      exact z3 r r0 r1 o ho
    · rw [isBest_eq m]
      by_cases c : (n' - 1) * 10 + p' = (n - 1) * 10 + p
      · have en : n' = n := by omega
        have ep : p' = p := by omega
        subst en
        subst ep
        rw [hv]
        exact ⟨hr, Or.inr hb⟩
      · rw [q2 62 _ (by omega) (by omega) (by omega)]
        exact z4 p' n' p0 p1 n0 n1
  refine ⟨S.le le, ?_, T.mv ?_, F.mv ?_, C.mv ?_, L.mv le ?_, W.mv ?_, P.mv ?_, K.mv le ?_ (fun j h0 h1 h2 => q2 _ _ (by omega) (by omega) (by omega)), R.mv ?_, D.mv ?_, RLaw.mv E.1 le ?_, E.2.1.mv m e6 e7 (fun a i b0 b1 => q2 a i (by omega) (by omega) (by omega)), E.2.2.1.mv m e6 e7 (q2 _ _ (by omega) (by omega) (by omega)) (fun j j0 j1 => ⟨q2 _ _ (by omega) (by omega) (by omega), q2 _ _ (by omega) (by omega) (by omega)⟩) (fun j b i j0 j1 b0 b1 => ?_), zz⟩
  · unfold RSz pSz at *
    rw [q1]
    exact Z
  case refine_12 =>
    have := (k4 j j0 j1).1
    exact q2 _ _ (by omega) (by omega) (by omega)
  all_goals
    intro x y p
    first
      | unfold PTap at p
      | unfold PFau at p
      | unfold PClk at p
      | unfold PSlo at p
      | unfold PWin at p
      | unfold PPas at p
      | unfold PSki at p
      | unfold PCro at p
      | unfold PDay at p
      | unfold PLaw at p
    exact q2 _ _ (by omega) (by omega) (by omega)
