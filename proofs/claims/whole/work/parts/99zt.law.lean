/-! the reference's reader does what the grammar says -/
theorem pm_R (k : Int) : pmC k ≠ 28 ∧ 26 ≤ pmC k ∧ pmC k ≤ 27 := by unfold pmC; split <;> decide
theorem cm_R (k : Int) : 23 ≤ cmC k ∧ cmC k ≤ 25 := by
  unfold cmC
  split
  · decide
  · split <;> decide
theorem dpW_rep (k : Nat) (w : List Int) : dpW (List.replicate k 20 ++ w) = k + dpW w := by
  induction k with
  | zero => show dpW w = 0 + dpW w; omega
  | succ k ih =>
    show (if (20 : Int) = 20 ∨ (20 : Int) = 28 then 1 else 0) + dpW (List.replicate k 20 ++ w) = _
    rw [if_pos (by decide), ih]; omega
theorem rep_mid (k : Nat) (x : Int) (w : List Int) : List.replicate k x ++ x :: w = x :: (List.replicate k x ++ w) := by
  induction k with
  | zero => rfl
  | succ k ih => show x :: (List.replicate k x ++ x :: w) = _; rw [ih]; rfl
theorem hdT_rep (k : Nat) (w : List Int) (h : hdT w = 28 ∨ hdT w < 26) : hdT (List.replicate k 20 ++ w) = 28 ∨ hdT (List.replicate k 20 ++ w) < 26 := by
  cases k with
  | zero => exact h
  | succ k => exact Or.inr (show (20 : Int) < 26 by decide)
def Sim (σ : pS) (n : Int) (K P V E : Nat → Int) (c : Nat) (φ0 : pS) (d : Nat) (s : cfg) (X : lR) (w : List Int) (ok : Int → List Int → lq → Prop) : Prop := (∀ x, X = .inl x → Rfl σ n K P V E c φ0 d s x) ∧ ∀ q', X = .inr q' → ∃ (now : Int) (A : List (Int × Int)) (pend : List Int), Rch σ n K P V E c φ0 d s (now, A, pend ++ w, qU q', qJ q') ∧ A ++ pend.map zz = qA q' ∧ A.length + (pend ++ w).length ≤ qJ q' ∧ qU q' ≤ 40 ∧ ok now pend q'
section LRSim
variable {σ : pS} {n : Int} {K P V E : Nat → Int} {c : Nat} {φ0 : pS} {d : Nat} {rn : Bool}
theorem Sim.of {s s' : cfg} {X : lR} {w : List Int} {ok : Int → List Int → lq → Prop} (h : Rch σ n K P V E c φ0 d s s') (g : Sim σ n K P V E c φ0 d s' X w ok) : Sim σ n K P V E c φ0 d s X w ok :=
  ⟨fun x e => h.fl (g.1 x e), fun q' e => by
    obtain ⟨now, A, pend, z, y⟩ := g.2 q' e
    exact ⟨now, A, pend, h.tr z, y⟩⟩
theorem Sim.bad {s : cfg} {x : Int × Int} {w : List Int} {ok : Int → List Int → lq → Prop} (h : Rfl σ n K P V E c φ0 d s x) : Sim σ n K P V E c φ0 d s (.inl x) w ok :=
  ⟨fun y e => by rw [← Sum.inl.inj e]; exact h, fun q e => (by cases e)⟩
theorem Sim.here {now : Int} {A : List (Int × Int)} {pend w : List Int} {q : lq} {ok : Int → List Int → lq → Prop} (h1 : A ++ pend.map zz = qA q) (h2 : A.length + (pend ++ w).length ≤ qJ q) (h3 : qU q ≤ 40) (h4 : ok now pend q) : Sim σ n K P V E c φ0 d (now, A, pend ++ w, qU q, qJ q) (.inr q) w ok :=
  ⟨fun x e => (by cases e), fun q' e => by rw [← Sum.inr.inj e]; exact ⟨now, A, pend, Rch.rf _, h1, h2, h3, h4⟩⟩
theorem Sim.bind {s : cfg} {X : lR} {w w2 : List Int} {ok ok2 : Int → List Int → lq → Prop} {F : lq → lR} (h : Sim σ n K P V E c φ0 d s X w ok) (g : ∀ (now : Int) (A : List (Int × Int)) (pend : List Int) (q : lq), X = .inr q → A ++ pend.map zz = qA q → A.length + (pend ++ w).length ≤ qJ q → qU q ≤ 40 → ok now pend q → Sim σ n K P V E c φ0 d (now, A, pend ++ w, qU q, qJ q) (F q) w2 ok2) : Sim σ n K P V E c φ0 d s (lbd X F) w2 ok2 := by
  cases X with
  | inl x => exact Sim.bad (h.1 x rfl)
  | inr q =>
    obtain ⟨now, A, pend, z, y1, y2, y3, y4⟩ := h.2 q rfl
    exact Sim.of z (g now A pend q rfl y1 y2 y3 y4)
theorem Sim.mono {s : cfg} {X : lR} {w : List Int} {ok ok2 : Int → List Int → lq → Prop} (h : Sim σ n K P V E c φ0 d s X w ok) (g : ∀ now pend q, X = .inr q → ok now pend q → ok2 now pend q) : Sim σ n K P V E c φ0 d s X w ok2 :=
  ⟨h.1, fun q e => by
    obtain ⟨now, A, pend, z, y1, y2, y3, y4⟩ := h.2 q e
    exact ⟨now, A, pend, z, y1, y2, y3, g now pend q e y4⟩⟩
theorem Sim.base {s : cfg} {X : lR} {p1 w : List Int} {ok ok2 : Int → List Int → lq → Prop} {F : lq → lR} {G : lq → lq} (h : Sim σ n K P V E c φ0 d s X (p1 ++ w) ok) (hF : ∀ q, F q = .inr (G q)) (gA : ∀ q, qA (G q) = qA q ++ p1.map zz) (gU : ∀ q, qU (G q) = qU q) (gJ : ∀ q, qJ (G q) = qJ q) (g : ∀ now pend q, ok now pend q → ok2 now (pend ++ p1) (G q)) : Sim σ n K P V E c φ0 d s (lbd X F) w ok2 := by
  cases X with
  | inl x => exact Sim.bad (h.1 x rfl)
  | inr q =>
    obtain ⟨now, A, pend, z, y1, y2, y3, y4⟩ := h.2 q rfl
    refine ⟨fun x e => ?_, fun q' e => ?_⟩
    · have e : F q = .inl x := e
      rw [hF q] at e; cases e
    · have e : F q = .inr q' := e
      rw [hF q] at e
      rw [← Sum.inr.inj e]
      refine ⟨now, A, pend ++ p1, ?_, ?_, ?_, ?_, g _ _ _ y4⟩
      · rw [gU, gJ, List.append_assoc]; exact z
      · rw [List.map_append, ← List.append_assoc, y1, gA]
      · rw [gJ, List.append_assoc]; exact y2
      · rw [gU]; exact y3
def okS (now : Int) (now' : Int) (pend : List Int) (_ : lq) : Prop := now' = now ∧ pend.length ≤ 1 ∧ ∀ p ∈ pend, 26 ≤ p ∧ p ≤ 27
theorem un_S {now : Int} {w : List Int} {q : lq} (hd : 4 ≤ d) (S0 : Stat φ0) (T : TK σ n K P V E c) (hc : c ≤ 500) (h50 : rd φ0 68 50 = b2i rn) (hn : now = 0 ∨ now = 1 ∨ now = 2) (h0 : now = 0 → K (qJ q) ≠ 14 ∧ K (qJ q) ≠ 40) (hA : (qA q).length + w.length ≤ qJ q) (hw : w.length < 300) (hu : qU q ≤ 40) : Sim σ n K P V E c φ0 d (now, qA q, w, qU q, qJ q) (unF K P V rn q) w (fun now' pend _ => now' = (if now = 2 then 4 else 3) ∧ pend = []) := by
  have g := R_un (A := qA q) (B := qB q) (u := qU q) (j := qJ q) hd S0 T hc h50 hn h0 hA hw hu
  refine ⟨g.1, fun q' e => ?_⟩
  obtain ⟨g1, g2, g3, g4⟩ := g.2 q' e
  have u40 := (unF_u40 e)
  refine ⟨_, qA q', [], g1, List.append_nil _, ?_, by omega, rfl, rfl⟩
  rw [g2, g3, List.length_append]
  show (qA q).length + 1 + w.length ≤ qJ q + 1
  omega
where
  unF_u40 {q q' : lq} (h : unF K P V rn q = .inr q') : qU q < 40 := by
    unfold unF at h
    split at h
    · cases h
    · rename_i z
      by_cases y : 40 ≤ qU q
      · exact absurd (Or.inr y) z
      · omega
theorem suL_S {w : List Int} (hd : 4 ≤ d) (S0 : Stat φ0) (T : TK σ n K P V E c) (hc : c ≤ 500) (h50 : rd φ0 68 50 = b2i rn) (hw : hdT w = 28 ∨ hdT w < 26) (hl : w.length ≤ 100) : ∀ (m : Nat) (q : lq) (now : Int) (A : List (Int × Int)) (pend : List Int), now = 3 ∨ now = 4 → A ++ pend.map zz = qA q → A.length + (pend ++ w).length ≤ qJ q → qU q ≤ 40 → pend.length ≤ 1 → (∀ p ∈ pend, 26 ≤ p ∧ p ≤ 27) → Sim σ n K P V E c φ0 d (now, A, pend ++ w, qU q, qJ q) (suL K P V rn m q) w (okS now)
  | 0, q, now, A, pend, hn, h1, h2, h3, h4, h5 => Sim.here h1 h2 h3 ⟨rfl, h4, h5⟩
  | m + 1, q, now, A, pend, hn, h1, h2, h3, h4, h5 => by
    show Sim σ n K P V E c φ0 d (now, A, pend ++ w, qU q, qJ q) (if K (qJ q) = 43 ∨ K (qJ q) = 45 then lbd (unF K P V rn (qNx q)) (fun q1 => suL K P V rn m (qPt q1 (pmC (K (qJ q))))) else .inr q) w (okS now)
    by_cases z : K (qJ q) = 43 ∨ K (qJ q) = 45
    · rw [if_pos z]
      have pm := pm_R (K (qJ q))
      have st := R_pm (A := A) (pend := pend) (u := qU q) hd S0 T hc h2 (by rw [List.length_append]; omega) hn z hw (fun p hp => ⟨by have := h5 p hp; omega, (h5 p hp).1⟩)
      rw [h1] at st
      have lA : (qA q).length + w.length ≤ qJ q := by
        rw [← h1, List.length_append, List.length_map]
        rw [List.length_append] at h2
        omega
      refine Sim.of st (Sim.bind (un_S (q := qNx q) (w := pmC (K (qJ q)) :: w) hd S0 T hc h50 (by by_cases y : now = 3; rw [if_pos y]; omega; rw [if_neg y]; omega) (fun y => by by_cases x : now = 3; rw [if_pos x] at y; cases y; rw [if_neg x] at y; cases y) (show (qA q).length + (w.length + 1) ≤ qJ q + 1 by omega) (show w.length + 1 < 300 by omega) h3) (fun now' A1 pend1 q1 e g1 g2 g3 g4 => ?_))
      obtain ⟨g4, g5⟩ := g4
      subst g5
      have en : now' = now := by
        rw [g4]
        rcases hn with y | y
        · rw [y]; rfl
        · rw [y]; rfl
      rw [en]
      have g1 : A1 = qA q1 := (List.append_nil _).symm.trans g1
      exact suL_S hd S0 T hc h50 hw hl m (qPt q1 (pmC (K (qJ q)))) now A1 [pmC (K (qJ q))] hn (by rw [g1]; rfl) g2 g3 (Nat.le_refl _) (fun p hp => by rw [List.mem_singleton.mp hp]; exact pm.2)
    · rw [if_neg z]; exact Sim.here h1 h2 h3 ⟨rfl, h4, h5⟩
theorem suF_S {now : Int} {w : List Int} {q : lq} {m : Nat} (hd : 4 ≤ d) (S0 : Stat φ0) (T : TK σ n K P V E c) (hc : c ≤ 500) (h50 : rd φ0 68 50 = b2i rn) (hn : now = 0 ∨ now = 1 ∨ now = 2) (h0 : now = 0 → K (qJ q) ≠ 14 ∧ K (qJ q) ≠ 40) (hA : (qA q).length + w.length ≤ qJ q) (hw : hdT w = 28 ∨ hdT w < 26) (hl : w.length ≤ 100) (hu : qU q ≤ 40) : Sim σ n K P V E c φ0 d (now, qA q, w, qU q, qJ q) (suF K P V rn m q) w (okS (if now = 2 then 4 else 3)) := by
  refine Sim.bind (un_S hd S0 T hc h50 hn h0 hA (by omega) hu) (fun now' A1 pend1 q1 e g1 g2 g3 g4 => ?_)
  obtain ⟨g4, g5⟩ := g4
  subst g5
  rw [g4]
  exact suL_S hd S0 T hc h50 hw hl m q1 _ A1 [] (by split; exact Or.inr rfl; exact Or.inl rfl) g1 g2 g3 (by decide) (fun p hp => by cases hp)
def okC (now' : Int) (pend : List Int) (_ : lq) : Prop := now' = 4 ∧ pend.length ≤ 2 ∧ ∀ p ∈ pend, 23 ≤ p ∧ p ≤ 27
theorem cmF_S {w : List Int} {q : lq} {m : Nat} (hd : 4 ≤ d) (S0 : Stat φ0) (T : TK σ n K P V E c) (hc : c ≤ 500) (hm : c < m) (h50 : rd φ0 68 50 = b2i rn) (h0 : K (qJ q) ≠ 14 ∧ K (qJ q) ≠ 40) (hA : (qA q).length + w.length ≤ qJ q) (hw : hdT w = 28 ∨ hdT w < 26) (hl : w.length ≤ 90) (hu : qU q ≤ 40) (hj : qJ q ≤ c) : Sim σ n K P V E c φ0 d (0, qA q, w, qU q, qJ q) (cmF K P V rn m q) w okC := by
  refine Sim.bind (suF_S (m := m) hd S0 T hc h50 (Or.inl rfl) (fun _ => h0) hA hw (by omega) hu) (fun now' A1 pend1 q1 e g1 g2 g3 g4 => ?_)
  obtain ⟨g4, g5, g6⟩ := g4
  have g4 : now' = 3 := g4
  subst g4
  have x := suF_ext T.R hj e
  have st := x.2.2 hm
  have pl : (pend1 ++ w).length < 300 := by rw [List.length_append]; omega
  have pq : ∀ p ∈ pend1, p ≠ 28 ∧ 26 ≤ p := fun p hp => ⟨by have := g6 p hp; omega, (g6 p hp).1⟩
  by_cases z : K (qJ q1) = 60 ∨ K (qJ q1) = 61 ∨ K (qJ q1) = 62
  · rw [if_pos z]
    have cm := cm_R (K (qJ q1))
    have stp := R_cm (A := A1) (pend := pend1) (u := qU q1) hd S0 T hc g2 pl z hw pq
    rw [g1] at stp
    have lA : (qA q1).length + w.length ≤ qJ q1 := by
      rw [← g1, List.length_append, List.length_map]
      rw [List.length_append] at g2
      omega
    refine Sim.of stp (Sim.base (p1 := [cmC (K (qJ q1))]) (w := w) (suF_S (q := qNx q1) (w := cmC (K (qJ q1)) :: w) (m := m) hd S0 T hc h50 (Or.inr (Or.inr rfl)) (fun y => by cases y) (show (qA q1).length + (w.length + 1) ≤ qJ q1 + 1 by omega) (Or.inr (show cmC (K (qJ q1)) < 26 by omega)) (show w.length + 1 ≤ 100 by omega) g3) (fun q2 => rfl) (fun q2 => rfl) (fun q2 => rfl) (fun q2 => rfl) (fun now2 pend2 q2 y => ?_))
    obtain ⟨y1, y2, y3⟩ := y
    refine ⟨y1, by rw [List.length_append]; show pend2.length + 1 ≤ 2; omega, fun p hp => ?_⟩
    rcases List.mem_append.mp hp with h | h
    · have := y3 p h; omega
    · rw [List.mem_singleton.mp h]; omega
  · rw [if_neg z]
    exact Sim.bad (R_F hd S0 T pl (Or.inl rfl) (Or.inl rfl) (Or.inr (fun y => by omega)) (Or.inr z) (Or.inl rfl))
theorem nt_R (hd : 4 ≤ d) (S0 : Stat φ0) (T : TK σ n K P V E c) (hc : c ≤ 500) (h50 : rd φ0 68 50 = b2i rn) {u : Nat} {A : List (Int × Int)} (hu : u ≤ 40) : ∀ (f dep : Nat) (q : lq) (w : List Int), dpW w = dep → A.length + w.length ≤ qJ q → w.length + f < 300 → (∀ x, ntF K P f dep q = .inl x → Rfl σ n K P V E c φ0 d (0, A, w, u, qJ q) x) ∧ ∀ dep' q1, ntF K P f dep q = .inr (dep', q1) → dep ≤ dep' ∧ Rch σ n K P V E c φ0 d (0, A, w, u, qJ q) (0, A, List.replicate (dep' - dep) 20 ++ w, u, qJ q1) ∧ A.length + (List.replicate (dep' - dep) (20 : Int) ++ w).length ≤ qJ q1
  | 0, dep, q, w, hdp, hA, hl => by
    refine ⟨fun x e => ?_, fun dep' q1 e => ?_⟩
    · have e : Sum.inr (dep, q) = (Sum.inl x : Sum (Int × Int) (Nat × lq)) := e
      cases e
    · have e : Sum.inr (dep, q) = (Sum.inr (dep', q1) : Sum (Int × Int) (Nat × lq)) := e
      have e := Sum.inr.inj e
      have e1 : dep = dep' := congrArg Prod.fst e
      have e2 : q = q1 := congrArg Prod.snd e
      subst e1 e2
      rw [Nat.sub_self]
      exact ⟨Nat.le_refl _, Rch.rf _, hA⟩
  | f + 1, dep, q, w, hdp, hA, hl => by
    have e0 : ntF K P (f + 1) dep q = if K (qJ q) = 14 then (if 6 < dep then .inl (flt K P 2 (qJ q)) else ntF K P f (dep + 1) (qNx q)) else .inr (dep, q) := rfl
    rw [e0]
    by_cases z : K (qJ q) = 14
    · rw [if_pos z]
      have st := R_op (A := A) (w := w) (u := u) hd S0 T hc h50 (Or.inl z) hA (by omega) hu
      by_cases y : 6 < dep
      · rw [if_pos y]
        refine ⟨fun x e => ?_, fun dep' q1 e => (by cases e)⟩
        rw [← Sum.inl.inj e]; exact st.1 (by omega)
      · rw [if_neg y]
        have s2 := st.2 (by omega)
        rw [if_pos z] at s2
        have ih := nt_R hd S0 T hc h50 hu f (dep + 1) (qNx q) (20 :: w) (by
          show (if (20 : Int) = 20 ∨ (20 : Int) = 28 then 1 else 0) + dpW w = dep + 1
          rw [if_pos (by decide)]; omega) (show A.length + (w.length + 1) ≤ qJ q + 1 by omega) (show w.length + 1 + f < 300 by omega)
        refine ⟨fun x e => s2.fl (ih.1 x e), fun dep' q1 e => ?_⟩
        obtain ⟨i1, i2, i3⟩ := ih.2 dep' q1 e
        have ek : List.replicate (dep' - (dep + 1)) (20 : Int) ++ 20 :: w = List.replicate (dep' - dep) 20 ++ w := by
          rw [rep_mid, show dep' - dep = (dep' - (dep + 1)) + 1 by omega]; rfl
        rw [ek] at i2 i3
        exact ⟨by omega, s2.tr i2, i3⟩
    · rw [if_neg z]
      refine ⟨fun x e => (by cases e), fun dep' q1 e => ?_⟩
      have e := Sum.inr.inj e
      have e1 : dep = dep' := congrArg Prod.fst e
      have e2 : q = q1 := congrArg Prod.snd e
      subst e1 e2
      rw [Nat.sub_self]
      exact ⟨Nat.le_refl _, Rch.rf _, hA⟩
def okN (K : Nat → Int) (now' : Int) (q : lq) : Prop := (now' = 4 ∨ now' = 5) ∧ (now' = 4 → K (qJ q) ≠ 43 ∧ K (qJ q) ≠ 45)
def okO (K : Nat → Int) (l : Nat) (now' : Int) (pend : List Int) (q : lq) : Prop := okN K now' q ∧ (∀ p ∈ pend, p ≠ 28 ∧ p ≠ 21) ∧ pend.length ≤ l
def okE (K : Nat → Int) (now' : Int) (pend : List Int) (q : lq) : Prop := okN K now' q ∧ (∀ p ∈ pend, p ≠ 28) ∧ pend.length ≤ 11 ∧ K (qJ q) ≠ 13 ∧ K (qJ q) ≠ 12
def SimH (σ : pS) (n : Int) (K P V E : Nat → Int) (c : Nat) (φ0 : pS) (d : Nat) (rec : Nat → lq → lR) (e0 : Nat) : Prop := ∀ (oth : Nat) (q : lq) (w : List Int), e0 < oth → oth ≤ 7 → dpW w = oth → hdT w = 28 → w.length ≤ 5 * oth → (qA q).length + w.length ≤ qJ q → qU q ≤ 40 → qJ q ≤ c → Sim σ n K P V E c φ0 d (0, qA q, w, qU q, qJ q) (rec oth q) w (okE K)
theorem len_A {A : List (Int × Int)} {pend w : List Int} {q : lq} (g1 : A ++ pend.map zz = qA q) (g2 : A.length + (pend ++ w).length ≤ qJ q) : (qA q).length + w.length ≤ qJ q := by
  rw [← g1, List.length_append, List.length_map]
  rw [List.length_append] at g2
  omega
theorem onF_S {rec : Nat → lq → lR} {m oth : Nat} {w : List Int} {q : lq} (hd : 4 ≤ d) (S0 : Stat φ0) (T : TK σ n K P V E c) (hc : c ≤ 500) (hm : c < m) (h50 : rd φ0 68 50 = b2i rn) (hr : recOk c rn rec) (hH : SimH σ n K P V E c φ0 d rec oth) (h7 : oth ≤ 7) (hdp : dpW w = oth) (hw : hdT w = 28 ∨ hdT w < 26) (hl : w.length ≤ 5 * oth + 2) (hA : (qA q).length + w.length ≤ qJ q) (hu : qU q ≤ 40) (hj : qJ q ≤ c) : Sim σ n K P V E c φ0 d (0, qA q, w, qU q, qJ q) (onF K P V rn rec m oth q) w (okO K 9) := by
  have nt := nt_R (A := qA q) hd S0 T hc h50 hu 9 oth q w hdp hA (by omega)
  unfold onF
  cases e : ntF K P 9 oth q with
  | inl x => exact Sim.bad (nt.1 x e)
  | inr y =>
    obtain ⟨dep, q1⟩ := y
    obtain ⟨n1, n2, n3⟩ := nt.2 dep q1 e
    obtain ⟨x1, x2, x3, x4, x5, x6⟩ := ntF_ext T.R 9 oth hj e
    obtain ⟨s14, s7⟩ := ntF_stop 9 oth (by omega) e h7
    have ew : dpW (List.replicate (dep - oth) 20 ++ w) = dep := by rw [dpW_rep]; omega
    have hw1 := hdT_rep (dep - oth) w hw
    have l1 : (List.replicate (dep - oth) (20 : Int) ++ w).length = dep - oth + w.length := by rw [List.length_append, List.length_replicate]
    rw [← x3] at n2 n3
    rw [← x5] at n2 hu
    have core : Sim σ n K P V E c φ0 d (0, qA q1, List.replicate (dep - oth) 20 ++ w, qU q1, qJ q1) (if K (qJ q1) = 40 then nsF K P rec dep q1 else cmF K P V rn m q1) (List.replicate (dep - oth) 20 ++ w) (okO K 2) := by
      by_cases z : K (qJ q1) = 40
      · rw [if_pos z]
        have st := R_op (A := qA q1) (w := List.replicate (dep - oth) 20 ++ w) (u := qU q1) hd S0 T hc h50 (Or.inr z) n3 (by omega) hu
        unfold nsF
        by_cases y : 6 < dep
        · rw [if_pos y]
          exact Sim.bad (st.1 (by omega))
        · rw [if_neg y]
          have s2 := st.2 (by omega)
          rw [if_neg (by omega)] at s2
          have jl : qJ q1 < c := T.R.lt x6 (by omega)
          refine Sim.of s2 (Sim.bind (hH (dep + 1) (qNx q1) (28 :: (List.replicate (dep - oth) 20 ++ w)) (by omega) (by omega) (by
            show (if (28 : Int) = 20 ∨ (28 : Int) = 28 then 1 else 0) + dpW (List.replicate (dep - oth) 20 ++ w) = dep + 1
            rw [if_pos (by decide)]; omega) rfl (by rw [List.length_cons]; omega) (by rw [List.length_cons]; show (qA q1).length + _ ≤ qJ q1 + 1; omega) hu (show qJ q1 + 1 ≤ c by omega)) (fun now2 A2 pend2 q2 e2 g1 g2 g3 g4 => ?_))
          obtain ⟨⟨a1, a2⟩, a3, a4, a5, a6⟩ := g4
          have pl : (pend2 ++ 28 :: (List.replicate (dep - oth) 20 ++ w)).length < 300 := by rw [List.length_append, List.length_cons]; omega
          by_cases k41 : K (qJ q2) = 41
          · rw [if_pos k41]
            have s3 := R_cl (A := A2) (pend := pend2) (w := List.replicate (dep - oth) 20 ++ w) (u := qU q2) hd S0 T hc g2 pl a1 k41 a3
            rw [g1] at s3
            have la := len_A g1 g2
            rw [List.length_cons] at la
            exact Sim.of s3 (Sim.here (q := qNx q2) (pend := []) (List.append_nil _) (show (qA q2).length + (List.replicate (dep - oth) (20 : Int) ++ w).length ≤ qJ q2 + 1 by omega) g3 ⟨⟨Or.inr rfl, fun h => (by cases h)⟩, fun p hp => (by cases hp), by decide⟩)
          · rw [if_neg k41]
            exact Sim.bad (R_F hd S0 T pl (by omega) (Or.inr (Or.inr (List.mem_append_right _ List.mem_cons_self))) (by
              rcases a1 with h | h
              · exact Or.inr (fun y => by have := a2 h; omega)
              · exact Or.inl h) (Or.inl (by omega)) (Or.inr ⟨a5, a6, Or.inl k41⟩))
      · rw [if_neg z]
        refine (cmF_S hd S0 T hc hm h50 ⟨s14, z⟩ n3 hw1 (by omega) hu x6).mono (fun now' pend' q' e y => ?_)
        obtain ⟨y1, y2, y3⟩ := y
        exact ⟨⟨Or.inl y1, fun _ => (cmF_ext T.R x6 e).2.2 hm⟩, fun p hp => by have := y3 p hp; omega, y2⟩
    rw [← x3, ← x5] at *
    refine Sim.of n2 (Sim.base core (fun q3 => rfl) (fun q3 => ?_) (fun q3 => rfl) (fun q3 => rfl) (fun now' pend' q' y => ?_))
    · show qA q3 ++ List.replicate (dep - oth) ((20 : Int), (0 : Int)) = _
      rw [List.map_replicate]; rfl
    · obtain ⟨y1, y2, y3⟩ := y
      refine ⟨y1, fun p hp => ?_, by rw [List.length_append, List.length_replicate]; omega⟩
      rcases List.mem_append.mp hp with h | h
      · exact y2 p h
      · rw [(List.mem_replicate.mp h).2]; decide
theorem boL_S {rec : Nat → lq → lR} {m oth : Nat} {w : List Int} (hd : 4 ≤ d) (S0 : Stat φ0) (T : TK σ n K P V E c) (hc : c ≤ 500) (hm : c < m) (h50 : rd φ0 68 50 = b2i rn) (hr : recOk c rn rec) (hH : SimH σ n K P V E c φ0 d rec oth) (h7 : oth ≤ 7) (hdp : dpW w = oth) (hw : hdT w = 28 ∨ hdT w = 21) (hl : w.length ≤ 5 * oth + 1) : ∀ (f : Nat) (q : lq) (now : Int) (A : List (Int × Int)) (pend : List Int), A ++ pend.map zz = qA q → A.length + (pend ++ w).length ≤ qJ q → qU q ≤ 40 → qJ q ≤ c → okO K 10 now pend q → Sim σ n K P V E c φ0 d (now, A, pend ++ w, qU q, qJ q) (boL K P V rn rec m oth f q) w (okO K 10)
  | 0, q, now, A, pend, h1, h2, h3, hj, h4 => Sim.here h1 h2 h3 h4
  | f + 1, q, now, A, pend, h1, h2, h3, hj, h4 => by
    show Sim σ n K P V E c φ0 d (now, A, pend ++ w, qU q, qJ q) (if K (qJ q) = 13 then lbd (onF K P V rn rec m oth (qNx q)) (fun q1 => boL K P V rn rec m oth f (qPt q1 22)) else .inr q) w (okO K 10)
    by_cases z : K (qJ q) = 13
    · rw [if_pos z]
      have la := len_A h1 h2
      have jl : qJ q < c := T.R.lt hj (by omega)
      have pl : (pend ++ w).length < 300 := by rw [List.length_append]; have := h4.2.2; omega
      have st := R_jo (A := A) (pend := pend) (u := qU q) hd S0 T hc h2 pl h4.1.1 (Or.inl z) (by rcases hw with y | y; exact Or.inl y; exact Or.inr ⟨z, y⟩) (fun p hp => ⟨(h4.2.1 p hp).1, fun _ => (h4.2.1 p hp).2⟩)
      rw [h1, if_pos z] at st
      refine Sim.of st (Sim.bind (onF_S (q := qNx q) (w := 22 :: w) hd S0 T hc hm h50 hr hH h7 (by
        show (if (22 : Int) = 20 ∨ (22 : Int) = 28 then 1 else 0) + dpW w = oth
        rw [if_neg (by decide)]; omega) (Or.inr (show (22 : Int) < 26 by decide)) (show w.length + 1 ≤ 5 * oth + 2 by omega) (show (qA q).length + (w.length + 1) ≤ qJ q + 1 by omega) h3 (show qJ q + 1 ≤ c by omega)) (fun now1 A1 pend1 q1 e g1 g2 g3 g4 => ?_))
      have u := onF_ext T.R hr (q := qNx q) (show qJ q + 1 ≤ c by omega) e
      have ep : pend1 ++ 22 :: w = (pend1 ++ [22]) ++ w := by rw [List.append_assoc]; rfl
      rw [ep] at g2 ⊢
      refine boL_S hd S0 T hc hm h50 hr hH h7 hdp hw hl f (qPt q1 22) now1 A1 (pend1 ++ [22]) (by rw [List.map_append, ← List.append_assoc, g1]; rfl) g2 g3 u.1.jc ⟨g4.1, fun p hp => ?_, by rw [List.length_append]; have := g4.2.2; show pend1.length + 1 ≤ 10; omega⟩
      rcases List.mem_append.mp hp with h | h
      · exact g4.2.1 p h
      · rw [List.mem_singleton.mp h]; decide
    · rw [if_neg z]; exact Sim.here h1 h2 h3 h4
theorem boF_S {rec : Nat → lq → lR} {m oth : Nat} {w : List Int} {q : lq} (hd : 4 ≤ d) (S0 : Stat φ0) (T : TK σ n K P V E c) (hc : c ≤ 500) (hm : c < m) (h50 : rd φ0 68 50 = b2i rn) (hr : recOk c rn rec) (hH : SimH σ n K P V E c φ0 d rec oth) (h7 : oth ≤ 7) (hdp : dpW w = oth) (hw : hdT w = 28 ∨ hdT w = 21) (hl : w.length ≤ 5 * oth + 1) (hA : (qA q).length + w.length ≤ qJ q) (hu : qU q ≤ 40) (hj : qJ q ≤ c) : Sim σ n K P V E c φ0 d (0, qA q, w, qU q, qJ q) (boF K P V rn rec m oth q) w (okO K 10) :=
  Sim.bind (onF_S hd S0 T hc hm h50 hr hH h7 hdp (by omega) (by omega) hA hu hj) (fun now1 A1 pend1 q1 e g1 g2 g3 g4 => boL_S hd S0 T hc hm h50 hr hH h7 hdp hw hl m q1 now1 A1 pend1 g1 g2 g3 (onF_ext T.R hr hj e).1.jc ⟨g4.1, g4.2.1, by have := g4.2.2; omega⟩)
def okI (K : Nat → Int) (now' : Int) (pend : List Int) (q : lq) : Prop := okN K now' q ∧ (∀ p ∈ pend, p ≠ 28) ∧ pend.length ≤ 11 ∧ K (qJ q) ≠ 13
theorem eiL_S {rec : Nat → lq → lR} {m oth : Nat} {w : List Int} (hd : 4 ≤ d) (S0 : Stat φ0) (T : TK σ n K P V E c) (hc : c ≤ 500) (hm : c < m) (h50 : rd φ0 68 50 = b2i rn) (hr : recOk c rn rec) (hH : SimH σ n K P V E c φ0 d rec oth) (h7 : oth ≤ 7) (hdp : dpW w = oth) (hw : hdT w = 28) (hl : w.length ≤ 5 * oth) : ∀ (f : Nat) (q : lq) (now : Int) (A : List (Int × Int)) (pend : List Int), A ++ pend.map zz = qA q → A.length + (pend ++ w).length ≤ qJ q → qU q ≤ 40 → qJ q ≤ c → okI K now pend q → Sim σ n K P V E c φ0 d (now, A, pend ++ w, qU q, qJ q) (eiL K P V rn rec m oth f q) w (okI K)
  | 0, q, now, A, pend, h1, h2, h3, hj, h4 => Sim.here h1 h2 h3 h4
  | f + 1, q, now, A, pend, h1, h2, h3, hj, h4 => by
    show Sim σ n K P V E c φ0 d (now, A, pend ++ w, qU q, qJ q) (if K (qJ q) = 12 then lbd (boF K P V rn rec m oth (qNx q)) (fun q1 => eiL K P V rn rec m oth f (qPt q1 21)) else .inr q) w (okI K)
    by_cases z : K (qJ q) = 12
    · rw [if_pos z]
      have la := len_A h1 h2
      have jl : qJ q < c := T.R.lt hj (by omega)
      have pl : (pend ++ w).length < 300 := by rw [List.length_append]; have := h4.2.2.1; omega
      have st := R_jo (A := A) (pend := pend) (u := qU q) hd S0 T hc h2 pl h4.1.1 (Or.inr z) (Or.inl hw) (fun p hp => ⟨h4.2.1 p hp, fun y => by omega⟩)
      rw [h1, if_neg (by omega)] at st
      refine Sim.of st (Sim.bind (boF_S (q := qNx q) (w := 21 :: w) hd S0 T hc hm h50 hr hH h7 (by
        show (if (21 : Int) = 20 ∨ (21 : Int) = 28 then 1 else 0) + dpW w = oth
        rw [if_neg (by decide)]; omega) (Or.inr rfl) (show w.length + 1 ≤ 5 * oth + 1 by omega) (show (qA q).length + (w.length + 1) ≤ qJ q + 1 by omega) h3 (show qJ q + 1 ≤ c by omega)) (fun now1 A1 pend1 q1 e g1 g2 g3 g4 => ?_))
      have u := boF_ext T.R hr (q := qNx q) (show qJ q + 1 ≤ c by omega) e
      have ep : pend1 ++ 21 :: w = (pend1 ++ [21]) ++ w := by rw [List.append_assoc]; rfl
      rw [ep] at g2 ⊢
      refine eiL_S hd S0 T hc hm h50 hr hH h7 hdp hw hl f (qPt q1 21) now1 A1 (pend1 ++ [21]) (by rw [List.map_append, ← List.append_assoc, g1]; rfl) g2 g3 u.1.jc ⟨g4.1, fun p hp => ?_, by rw [List.length_append]; have := g4.2.2; show pend1.length + 1 ≤ 11; omega, u.2.2 hm⟩
      rcases List.mem_append.mp hp with h | h
      · exact (g4.2.1 p h).1
      · rw [List.mem_singleton.mp h]; decide
    · rw [if_neg z]; exact Sim.here h1 h2 h3 h4
theorem eiF_S {m : Nat} (hd : 4 ≤ d) (S0 : Stat φ0) (T : TK σ n K P V E c) (hc : c ≤ 500) (hm : c < m) (h50 : rd φ0 68 50 = b2i rn) : ∀ (D oth : Nat) (q : lq) (w : List Int), 9 ≤ D + oth → oth ≤ 7 → dpW w = oth → hdT w = 28 → w.length ≤ 5 * oth → (qA q).length + w.length ≤ qJ q → qU q ≤ 40 → qJ q ≤ c → Sim σ n K P V E c φ0 d (0, qA q, w, qU q, qJ q) (eiF K P V rn m D oth q) w (okE K)
  | 0, oth, q, w, h9, h7, _, _, _, _, _, _ => by omega
  | D + 1, oth, q, w, h9, h7, hdp, hw, hl, hA, hu, hj => by
    have hr : recOk c rn (eiF K P V rn m D) := eiF_ok T.R m D
    have hH : SimH σ n K P V E c φ0 d (eiF K P V rn m D) oth := fun oth' q' w' a1 a2 a3 a4 a5 a6 a7 a8 => eiF_S hd S0 T hc hm h50 D oth' q' w' (by omega) a2 a3 a4 a5 a6 a7 a8
    show Sim σ n K P V E c φ0 d (0, qA q, w, qU q, qJ q) (lbd (boF K P V rn (eiF K P V rn m D) m oth q) (eiL K P V rn (eiF K P V rn m D) m oth m)) w (okE K)
    refine Sim.bind (boF_S hd S0 T hc hm h50 hr hH h7 hdp (Or.inl hw) (by omega) hA hu hj) (fun now1 A1 pend1 q1 e g1 g2 g3 g4 => ?_)
    have u := boF_ext T.R hr hj e
    refine (eiL_S hd S0 T hc hm h50 hr hH h7 hdp hw hl m q1 now1 A1 pend1 g1 g2 g3 u.1.jc ⟨g4.1, fun p hp => (g4.2.1 p hp).1, by have := g4.2.2; omega, u.2.2 hm⟩).mono (fun now' pend' q' e' y => ?_)
    have u2 := eiL_ext T.R hr (oth := oth) (n := m) m u.1 e'
    exact ⟨y.1, y.2.1, y.2.2.1, y.2.2.2, u2.2.2 (by have := u.1.jc; omega)⟩
/-- a condition, read through to its end -/
theorem readE_M {m : Nat} {q : lq} {τ : pS} {Q : Option pV → pS → Prop} (hd : 4 ≤ d) (S0 : Stat φ0) (T : TK σ n K P V E c) (hc : c ≤ 500) (hm : c < m) (h50 : rd φ0 68 50 = b2i rn) (hA : (qA q).length ≤ qJ q) (hu : qU q ≤ 40) (hj : qJ q ≤ c) (h : eSt σ n K P V E c φ0 (qA q) [] (qU q) (qJ q) (wr (wr τ 68 48 0) 68 49 0))
    (kB : ∀ x, lbd (eiF K P V rn m 9 0 q) (fun q' => if K (qJ q') = 59 then .inr q' else .inl (flt K P 2 (qJ q'))) = .inl x → ∀ υ, fEnd σ n K P V E c φ0 x υ → Q none υ)
    (kG : ∀ q', eiF K P V rn m 9 0 q = .inr q' → K (qJ q') = 59 → ∀ υ, eSt σ n K P V E c φ0 (qA q') [] (qU q') (qJ q') υ → Q none υ) : pC mX11_readE d [(2, 68)] τ Q := by
  have S : Stat τ := S0.eq h.1.1
  refine g_X11_readE_0 hd S ?_
  refine (show goC σ n K P V E c φ0 d (0, qA q, [], qU q, qJ q) Q from ?_) _ (9, 0) (by decide) h
  have s := eiF_S (m := m) (rn := rn) hd S0 T hc hm h50 9 0 q [] (by omega) (by omega) rfl rfl (Nat.le_refl _) hA hu hj
  cases e : eiF K P V rn m 9 0 q with
  | inl x => exact s.1 x e Q (kB x (by rw [e]; rfl))
  | inr q' =>
    obtain ⟨now, A, pend, g1, g2, g3, g4, ⟨g5, g6⟩, g7, g8, g9, g10⟩ := s.2 q' e
    rw [List.append_nil] at g1 g3
    have jc := (eiF_ok T.R m 9 0 q q' hj e).1.jc
    refine g1 Q ?_
    by_cases k59 : K (qJ q') = 59
    · exact go_end hd S0 T.R ⟨by omega, by omega⟩ g5 k59 g7 (fun υ hυ => kG q' e k59 υ (by rw [← g2]; exact hυ))
    · refine R_F hd S0 T (by omega) (by omega) (Or.inr (Or.inl k59)) (by
        rcases g5 with z | z
        · exact Or.inr (fun y => by have := g6 z; omega)
        · exact Or.inl z) (Or.inl (by omega)) (Or.inr ⟨g9, g10, Or.inr (fun z => g7 28 z rfl)⟩) Q (kB _ ?_)
      rw [e]
      exact if_neg k59
end LRSim
