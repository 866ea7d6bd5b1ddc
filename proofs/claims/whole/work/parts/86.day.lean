/-! a day: takeRounds, takeTurns -/
def tkFr (m : Int) (τ υ : pS) : Prop := υ.1 = τ.1 ∧ ∀ a i : Int, ¬ (a = 54 ∨ (a = 56 ∧ 10 * (m + 1) ≤ i) ∨ a = 58 ∨ a = 59 ∨ a = 60) → rd υ a i = rd τ a i
theorem tkFr.rf {m : Int} {τ : pS} : tkFr m τ τ := ⟨rfl, fun _ _ _ => rfl⟩
theorem tkFr.tr {m : Int} {τ υ φ : pS} (h : tkFr m τ υ) (g : tkFr m υ φ) : tkFr m τ φ := ⟨g.1.trans h.1, fun a i p => (g.2 a i p).trans (h.2 a i p)⟩
theorem tkFr.cx {σ τ υ : pS} {m k : Int} (q : tkFr m τ υ) (h : CX σ k τ) (L : RSlo σ) : CX σ k υ := h.fr L q.1 (fun a i p => q.2 a i (by omega))
theorem cl_z {σ : pS} (L : RSlo σ) {m w a i : Int} (hw : wyS σ w = true) (h : ¬ (a = 54 ∨ (a = 56 ∧ 10 * (m + 1) ≤ i) ∨ a = 58 ∨ a = 59 ∨ a = 60)) : cl σ m w a i = 0 := by
  have e := L.2.2.2.2.2.2.2.2.2.1 w hw
  by_cases c : a = 56
  · unfold cl
    rw [if_neg (by omega), if_neg (by omega), if_neg (by omega), if_pos c, if_neg (by omega)]
  · exact (cl_dl L hw).2.2.2.2 a i (by omega) c (by omega) (by omega)
theorem DRow.nx {σ τ υ : pS} {m : Int} {S T : Int → Int → Int} (h : DRow σ m S τ) (q : ∀ a i : Int, a ≠ 58 → rd υ a i = rd τ a i) (t : ∀ a i : Int, a ≠ 122 → a ≠ 124 → T a i = S a i) (n : ∀ p : Int, 0 ≤ p → p < 10 → rd υ 58 p = T 122 p) : DRow σ m T υ := by
  refine ⟨fun l l0 l1 => ⟨?_, ?_⟩, fun r r0 r1 => ⟨?_, ?_⟩, fun w hw => ?_, n, fun c c0 c1 => ?_⟩
  · rw [q _ _ (by decide), t _ _ (by decide) (by decide)]; exact (h.1 l l0 l1).1
  · rw [q _ _ (by decide), t _ _ (by decide) (by decide)]; exact (h.1 l l0 l1).2
  · rw [q _ _ (by decide), t _ _ (by decide) (by decide)]; exact (h.2.1 r r0 r1).1
  · rw [q _ _ (by decide)]; exact (h.2.1 r r0 r1).2
  · rw [q _ _ (by decide), t _ _ (by decide) (by decide)]; exact h.2.2.1 w hw
  · rw [q _ _ (by decide), t _ _ (by decide) (by decide)]; exact h.2.2.2.2 c c0 c1
theorem dl_oth {σ : pS} {m w a i : Int} (h : a ≠ 125 ∧ a ≠ 126 ∧ a ≠ 127 ∧ a ≠ 128) : dl σ m w a i = 0 := by
  unfold dl
  rw [if_neg h.1, if_neg h.2.2.2, if_neg h.2.2.1, if_neg h.2.1]
theorem DRow.take {σ τ υ : pS} (L : RSlo σ) {m w R : Int} {S : Int → Int → Int} (h : DRow σ m S τ) (hw : wyS σ w = true) (q : ∀ a i : Int, rd υ a i = rd τ a i + R * cl σ m w a i) : DRow σ m (fun a x => S a x + R * dl σ m w a x) υ := by
  have c := cl_dl L (m := m) hw
  refine h.add (E := fun a i => R * cl σ m w a i) (D := fun a i => R * dl σ m w a i) q (fun a i _ _ => rfl) (fun l => ?_) (fun r => ?_) (fun v hv => ?_) (fun x hx => ?_) (fun i => ?_) (fun i => ?_) (fun p p0 p1 => ?_)
  · show R * _ = R * _; rw [c.1]
  · show R * _ = R * _; rw [c.2.1]
  · show R * _ = R * _; rw [c.2.2.1 v hv]
  · show R * _ = R * _; rw [c.2.2.2.1 x hx]
  · show R * _ = 0; rw [c.2.2.2.2 _ _ (by decide) (by decide) (by decide) (by decide), Int.mul_zero]
  · show R * _ = 0; rw [dl_oth (by decide), Int.mul_zero]
  · show _ = _ + R * _
    rw [q, dl_oth (by decide), c.2.2.2.2 _ _ (by decide) (by decide) (by decide) (by decide), h.2.2.2.1 p p0 p1]
theorem rTimes_pos {σ : pS} {p w i : Int} {s : Nat} (h0 : 0 ≤ i) (h1 : i < (s : Int)) (e : rV σ p i = w) : 1 ≤ rTimes σ p s w := by
  have a : rTimes σ p (i.toNat + 1) w ≤ rTimes σ p s w := sumF_le (fun i _ => by show (0 : Int) ≤ if _ then _ else _; split <;> omega) (by omega)
  have b : rTimes σ p (i.toNat + 1) w = rTimes σ p i.toNat w + 1 := by
    show sumF _ i.toNat + (if _ then _ else _) = _
    rw [show ((i.toNat : Nat) : Int) = i by omega, if_pos e]
    rfl
  have := rTimes_R (σ := σ) (p := p) (w := w) i.toNat
  omega
theorem rIn_R {σ : pS} {k m p : Int} {S : Int → Int → Int} : ∀ s : Nat, 0 ≤ rIn σ k m p S s ∧ rIn σ k m p S s ≤ s
  | 0 => ⟨Int.le_refl _, Int.le_refl _⟩
  | s + 1 => by
    have := rIn_R (σ := σ) (k := k) (m := m) (p := p) (S := S) s
    have e : rIn σ k m p S (s + 1) = rIn σ k m p S s + (if rC σ k m p S (s : Int) = true then 1 else 0) := rfl
    rw [e]
    split <;> omega
theorem rLast_R {σ : pS} {k m p j : Int} {D : Int → Int → Int} (hS : dSn σ D) (hy : wyS σ (rV σ p j) = true) (hc : rC σ k m p D j = true) : 0 ≤ rLast σ p D (rV σ p j) ∧ rLast σ p D (rV σ p j) ≤ 1000000 := by
  unfold rLast
  split
  · omega
  · rename_i w6
    split
    · omega
    · rename_i t0
      have rt := rTimes_R (σ := σ) (p := p) (w := rV σ p j) (rd σ 121 p).toNat
      have sn : 10 ≤ D 127 (rV σ p j - 6) := by
        unfold rC dCan at hc
        simp only [Bool.and_eq_true, decide_eq_true_eq] at hc
        omega
      have sr := hS _ (by omega) hy
      refine ⟨Int.ediv_nonneg (by omega) rt.1, ?_⟩
      have := Int.ediv_le_self (a := D 127 (rV σ p j - 6) - 10 + 1) (rTimes σ p (rd σ 121 p).toNat (rV σ p j)) (by omega)
      omega
theorem takeRounds_C {d : Nat} {σ τ : pS} (hd : 4 ≤ d) (S : Stat σ) (L : RSlo σ) (C : RCro σ) {k m p many : Int} {D : Int → Int → Int} (h : CX σ k τ) (hp : 0 ≤ p ∧ p < 10) (hm : 0 ≤ m ∧ m < 480) (hD : DRow σ m D τ) (hS : dSn σ D) (hN : dNx σ D) (hmany : 0 ≤ many ∧ many ≤ 100000) : pC mX1_takeRounds d [(2, 50), (0, p), (0, many), (0, m)] τ (fun r υ => ∃ t : Nat, r = some (0, (t : Int)) ∧ (t : Int) ≤ many ∧ tkFr m τ υ ∧ DRow σ m (dTurns σ k m p t D) υ ∧ dTurns σ k m p t D 124 p = D 124 p - t) := by
  have S2 := h.1.st S
  have cp := dOk_p C hp
  have hN' := hN p hp.1 hp.2
  have e48 : rd τ 48 p = rd σ 121 p := (h.2 _ _ (by omega) (by omega)).trans cp.1
  have zero : (fun r υ => ∃ t : Nat, r = some (0, (t : Int)) ∧ (t : Int) ≤ many ∧ tkFr m τ υ ∧ DRow σ m (dTurns σ k m p t D) υ ∧ dTurns σ k m p t D 124 p = D 124 p - t) (some (0, (0 : Int))) τ := ⟨0, rfl, hmany.1, tkFr.rf, hD, by show D 124 p = _; simp⟩
  obtain ⟨s, es⟩ : ∃ s : Nat, rd σ 121 p = (s : Int) := ⟨(rd σ 121 p).toNat, by omega⟩
  have ets : (rd σ 121 p).toNat = s := by omega
  have bulk : ∀ (R : Nat), 1 ≤ R → 0 < rIn σ k m p D s → (R : Int) * rIn σ k m p D s ≤ many → (R : Int) ≤ 100000 → (∀ w : Int, 6 ≤ w → dCan σ k m D w = true → (∃ i : Int, 0 ≤ i ∧ i < (s : Int) ∧ rV σ p i = w) → (R : Int) * rTimes σ p s w ≤ D 127 (w - 6) - 9) → ∀ (n i : Nat) (υ : pS), i + n = s → tkFr m τ υ → DRow σ m (rAll σ k m p D R i) υ → (∀ q : Int, rd υ 58 q = rd τ 58 q) → pR mX1_takeRounds d 140 [(2, 50), (0, p), (0, many), (0, m), (0, p * 6), (0, (s : Int)), (0, rIn σ k m p D s), (0, (R : Int)), (0, kSeek σ k m p D (D 122 p + s - 1) ((s : Int) - 1)), (0, p * 6 + (i : Int))] [] υ (fun r υ => ∃ t : Nat, r = some (0, (t : Int)) ∧ (t : Int) ≤ many ∧ tkFr m τ υ ∧ DRow σ m (dTurns σ k m p t D) υ ∧ dTurns σ k m p t D 124 p = D 124 p - t) := fun R r1 hI hmy rR hR n => by
    have rn := rIn_R (σ := σ) (k := k) (m := m) (p := p) (S := D) s
    obtain ⟨en, k0, k1⟩ := rounds_end (σ := σ) (k := k) (m := m) (p := p) (S := D) es rfl ⟨hN'.1, by have := hN'.2.2; omega⟩ r1 hI hR
    have pos : 0 ≤ (R : Int) * rIn σ k m p D s := Int.mul_nonneg (by omega) rn.1
    induction n with
    | zero =>
      intro i υ hi F Di e58
      have es2 : i = s := by omega
      subst es2
      have S3 : Stat υ := S2.eq F.1
      have fin : ∀ v : Int, v = (kSeek σ k m p D (D 122 p + (i : Int) - 1) ((i : Int) - 1) + 1) % (i : Int) → ∃ t : Nat, some ((0 : Nat), (R : Int) * rIn σ k m p D i) = some (0, (t : Int)) ∧ (t : Int) ≤ many ∧ tkFr m τ (wr υ 58 p v) ∧ DRow σ m (dTurns σ k m p t D) (wr υ 58 p v) ∧ dTurns σ k m p t D 124 p = D 124 p - t := fun v hv => by
        refine ⟨((R : Int) * rIn σ k m p D i).toNat, by rw [show ((((R : Int) * rIn σ k m p D i).toNat : Nat) : Int) = (R : Int) * rIn σ k m p D i by omega], by omega, F.tr ⟨rfl, fun a x c => rd_wr_n (by omega)⟩, Di.nx (fun a x c => rd_wr_n (fun z => c z.1)) (fun a x a1 a2 => by rw [en, if_neg a1, if_neg a2]) (fun q q0 q1 => ?_), ?_⟩
        · rw [en, if_pos rfl, rd_wr]
          by_cases z : q = p
          · rw [if_pos ⟨rfl, z⟩, if_pos z, hv]
          · rw [if_neg (fun y => z y.2), if_neg z, e58, hD.2.2.2.1 q q0 q1]
        · rw [en, if_neg (by decide), if_pos rfl, if_pos rfl]
          omega
      refine g_X1_takeRounds_140 (Q1 := fun _ _ => True) hd S3 p many m (p * 6) (i : Int) _ _ _ _ (by unfold inR; omega) (by unfold inR; omega) (fun _ => by unfold inR; omega) (fun _ => by unfold inR; omega) (fun _ _ => hp) (fun c1 c3 => fin 0 ?_) (fun _ _ => hp) (fun c1 c4 => fin _ ?_) (fun c => by omega) (fun c => by omega) (fun c => by omega) (fun c => by omega) (fun c => by omega)
      · rw [show kSeek σ k m p D (D 122 p + (i : Int) - 1) ((i : Int) - 1) + 1 = (i : Int) by omega, Int.emod_self]
      · rw [Int.emod_eq_of_lt (by omega) (by omega)]
    | succ n ih =>
      intro i υ hi F Di e58
      have S3 : Stat υ := S2.eq F.1
      have cx := F.cx h L
      have ci := cp.2.2.2 (i : Int) (by omega) (by omega)
      have Sn : dSn σ (rAll σ k m p D R i) := fun w w6 hw => by
        have a := rAll_low (i := i) (by omega) hR w6 (by omega)
        have b := hS w w6 hw
        have := a.2.1 b.1
        omega
      have t := tk_C (Nat.le_refl 2) S L C cx hp hm Di Sn (j := (i : Int)) ⟨by omega, by omega⟩
      have cc : rC σ k m p (rAll σ k m p D R i) (i : Int) = rC σ k m p D (i : Int) := by
        cases z : rC σ k m p D (i : Int)
        · exact dCan_le (fun w6 => (rAll_low (i := i) (by omega) hR w6 (by omega)).1) z
        · exact dCan_eq (fun w6 => (rAll_low (i := i) (by omega) hR w6 (by omega)).2.2 (by omega) rfl z (by omega)) z
      have ix : p * 6 + (i : Int) + 1 = p * 6 + ((i + 1 : Nat) : Int) := by omega
      refine g_X1_takeRounds_140 (Q1 := fun r φ => r = none ∧ φ.1 = υ.1 ∧ ∀ a x : Int, rd φ a x = rd υ a x + (R : Int) * cl σ m (rV σ p (i : Int)) a x) hd S3 p many m (p * 6) (s : Int) _ _ _ _ (by unfold inR; omega) (by unfold inR; omega) (fun c => by omega) (fun c => by omega) (fun c => by omega) (fun c => by omega) (fun c => by omega) (fun c => by omega) (fun _ => by omega) (fun _ => by rw [t.1]; exact t.2.1) (fun _ c5 => ?_) (fun _ c6 => by rw [t.1]; exact take_C (Nat.le_refl 1) S L cx ci.2.1 hm) (fun _ c6 τ2 e2 q2 => ?_)
      · rw [t.1, t.2.2, cc] at c5
        rw [ix]
        refine ih (i + 1) υ (by omega) F ?_ e58
        have e : rAll σ k m p D R (i + 1) = rAll σ k m p D R i := by
          funext a x
          show D a x + (R : Int) * (sumF _ i + (if _ then _ else _)) = _
          rw [c5, if_neg (by decide), Int.add_zero]
          rfl
        rw [e]; exact Di
      · rw [t.1, t.2.2, cc] at c6
        rw [ix]
        have cz := (cl_dl L (m := m) ci.2.1).2.2.2.2
        refine ih (i + 1) τ2 (by omega) (F.tr ⟨q2.2.1, fun a x c => by rw [q2.2.2, cl_z L ci.2.1 c, Int.mul_zero, Int.add_zero]⟩) ?_ (fun q => by rw [q2.2.2, cz 58 q (by decide) (by decide) (by decide) (by decide), Int.mul_zero, Int.add_zero]; exact e58 q)
        have e : rAll σ k m p D R (i + 1) = fun a x => rAll σ k m p D R i a x + (R : Int) * dl σ m (rV σ p (i : Int)) a x := by
          funext a x
          show D a x + (R : Int) * (sumF _ i + (if _ then _ else _)) = D a x + (R : Int) * sumF _ i + _
          rw [if_pos c6, Int.mul_add, Int.add_assoc]
        rw [e]
        exact Di.take L ci.2.1 q2.2.2
  have loop : ∀ (n i : Nat) (x7 : Int) (u9 : pV), u9.1 ≠ 1 → i + n = s → 0 ≤ x7 → x7 ≤ many → (∀ t : Int, 0 ≤ t → t < (i : Int) → rC σ k m p D t = true → x7 ≤ rLast σ p D (rV σ p t)) → pR mX1_takeRounds d 27 [(2, 50), (0, p), (0, many), (0, m), (0, p * 6), (0, (s : Int)), (0, rIn σ k m p D i), (0, x7), (0, p * 6 + (i : Int)), u9] [] τ (fun r υ => ∃ t : Nat, r = some (0, (t : Int)) ∧ (t : Int) ≤ many ∧ tkFr m τ υ ∧ DRow σ m (dTurns σ k m p t D) υ ∧ dTurns σ k m p t D 124 p = D 124 p - t) := fun n => by
    induction n with
    | zero =>
      intro i x7 u9 hu hi x0 x1 all
      have es2 : i = s := by omega
      subst es2
      have rn := rIn_R (σ := σ) (k := k) (m := m) (p := p) (S := D) i
      have dv : rIn σ k m p D i ≠ 0 → 0 ≤ many / rIn σ k m p D i ∧ many / rIn σ k m p D i ≤ many := fun _ => ⟨Int.ediv_nonneg hmany.1 rn.1, Int.ediv_le_self _ hmany.1⟩
      refine g_X1_takeRounds_27 (Q1 := fun r υ => r = some (0, kSeek σ k m p D (D 122 p + i - 1) ((i : Int) - 1)) ∧ υ = τ) (Q2 := fun _ _ => True) hd S2 p many m (p * 6) (i : Int) _ x7 _ u9 hu (by unfold inR; omega) (by unfold inR; omega) (fun _ => by unfold inR; omega) (fun _ _ => by omega) (fun _ c3 => by omega) (fun _ _ => by unfold inR; omega) (fun _ c3 => by have := dv c3; unfold inR; omega) (fun _ c3 => by have := dv c3; unfold inR; omega) (fun _ _ _ => hp) (fun _ c3 _ => ?_) (fun _ c3 c5 v1 τ1 e1 q1 => ?_) (fun _ _ _ => zero) (fun _ _ => zero) (fun c => by omega) (fun c => by omega) (fun c => by omega) (fun c => by omega) (fun c => by omega) (fun c => by omega) (fun c => by omega)
      · rw [hD.2.2.2.1 p hp.1 hp.2]
        have := hN'.2.2
        exact takeable_C (Nat.le_refl 3) S L C h hp hm hD hS (by omega) (Or.inl (by omega))
      · obtain ⟨q1, q1'⟩ := q1
        have ev : v1 = kSeek σ k m p D (D 122 p + i - 1) ((i : Int) - 1) := by
          have := congrArg (fun o => (o.getD (0, 0)).2) q1
          exact this
        have dvv := dv c3
        have nR : ((min x7 (many / rIn σ k m p D i)).toNat : Int) = min x7 (many / rIn σ k m p D i) := by omega
        rw [ev, q1', ← nR]
        have := bulk (min x7 (many / rIn σ k m p D i)).toNat (by omega) (by omega) (by
          rw [nR]
          exact (Int.le_ediv_iff_mul_le (by omega)).mp (by omega)) (by omega) (fun w w6 wc ⟨j, j0, j1, jw⟩ => by
          have a := all j j0 j1 (by unfold rC; rw [jw]; exact wc)
          have t1 := rTimes_pos (s := i) j0 j1 jw
          rw [jw] at a
          unfold rLast at a
          rw [if_neg (by omega), ets, if_neg (by omega)] at a
          have := (Int.le_ediv_iff_mul_le (by omega : 0 < rTimes σ p i w)).mp (Int.le_trans (show ((min x7 (many / rIn σ k m p D i)).toNat : Int) ≤ x7 by omega) a)
          omega) i 0 τ (by omega) tkFr.rf (by
          have e : rAll σ k m p D ((min x7 (many / rIn σ k m p D i)).toNat : Int) 0 = D := by
            funext a x
            show D a x + _ * (0 : Int) = D a x
            rw [Int.mul_zero, Int.add_zero]
          rw [e]; exact hD) (fun _ => rfl)
        rw [show p * 6 + ((0 : Nat) : Int) = p * 6 by omega] at this
        exact this
    | succ n ih =>
      intro i x7 u9 hu hi x0 x1 all
      have rn := rIn_R (σ := σ) (k := k) (m := m) (p := p) (S := D) i
      have ci := cp.2.2.2 (i : Int) (by omega) (by omega)
      have t := tk_C (Nat.le_refl 2) S L C h hp hm hD hS (j := (i : Int)) ⟨by omega, by omega⟩
      have ix : p * 6 + (i : Int) + 1 = p * 6 + ((i + 1 : Nat) : Int) := by omega
      refine g_X1_takeRounds_27 (Q1 := fun _ _ => True) (Q2 := fun r υ => r = some (0, rLast σ p D (rV σ p (i : Int))) ∧ υ = τ) hd S2 p many m (p * 6) (s : Int) _ x7 _ u9 hu (by unfold inR; omega) (by unfold inR; omega) (fun c => by omega) (fun c => by omega) (fun c => by omega) (fun c => by omega) (fun c => by omega) (fun c => by omega) (fun c => by omega) (fun c => by omega) (fun c => by omega) (fun c => by omega) (fun c => by omega) (fun _ => by omega) (fun _ => by rw [t.1]; exact t.2.1) (fun _ c7 => ?_) (fun _ c8 => ?_) (fun _ _ _ _ _ _ => by unfold inR; omega) (fun _ c8 v3 τ3 e3 q3 => ?_) (fun _ c8 v3 τ3 e3 q3 => ?_)
      · rw [t.1, t.2.2] at c7
        rw [ix]
        have := ih (i + 1) x7 u9 hu (by omega) x0 x1 (fun j j0 j1 jc => by
          by_cases z : j = (i : Int)
          · rw [z, c7] at jc; cases jc
          · exact all j j0 (by omega) jc)
        have e : rIn σ k m p D (i + 1) = rIn σ k m p D i := by
          show _ + (if _ then _ else _) = _
          rw [c7, if_neg (by decide)]
          exact Int.add_zero _
        rw [e] at this
        exact this
      · rw [t.1, t.2.2] at c8
        rw [t.1]
        exact roundsOf_C S L C h hp hm hD hS ⟨by omega, by omega⟩ c8
      · rw [t.1, t.2.2] at c8
        have ev : v3 = rLast σ p D (rV σ p (i : Int)) := congrArg (fun o => (o.getD (0, 0)).2) q3.1
        have := rLast_R hS ci.2.1 c8
        unfold inR
        omega
      · rw [t.1, t.2.2] at c8
        have ev : v3 = rLast σ p D (rV σ p (i : Int)) := congrArg (fun o => (o.getD (0, 0)).2) q3.1
        have lr := rLast_R hS ci.2.1 c8
        rw [ix, q3.2, ev]
        have := ih (i + 1) (min x7 (rLast σ p D (rV σ p (i : Int)))) u9 hu (by omega) (by omega) (by omega) (fun j j0 j1 jc => by
          by_cases z : j = (i : Int)
          · rw [z]; omega
          · have := all j j0 (by omega) jc; omega)
        have e : rIn σ k m p D (i + 1) = rIn σ k m p D i + 1 := by
          show _ + (if _ then _ else _) = _
          rw [if_pos c8]
          rfl
        rw [e] at this
        exact this
  refine g_X1_takeRounds_0 hd S2 p many m hp ?_
  rw [e48, es]
  have := loop s 0 many (9, 0) (by decide) (by omega) hmany.1 (Int.le_refl _) (fun t t0 t1 => by omega)
  rw [show p * 6 + ((0 : Nat) : Int) = p * 6 by omega] at this
  exact this
