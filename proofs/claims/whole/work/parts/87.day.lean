/-! a day: takeTurns -/
theorem dWay_rV {σ : pS} {p x : Int} : dWay σ p x = rV σ p (x % rd σ 121 p) := rfl
theorem seek_same {σ : pS} {k m p : Int} {D : Int → Int → Int} : dSeek (fun n => rC σ k m p D ((D 122 p + n * 1) % rd σ 121 p)) (rd σ 121 p).toNat 0 = dSeek (fun j => dCan σ k m D (dWay σ p (D 122 p + j))) (rd σ 121 p).toNat 0 := by
  have : (fun n => rC σ k m p D ((D 122 p + n * 1) % rd σ 121 p)) = (fun j => dCan σ k m D (dWay σ p (D 122 p + j))) := by
    funext n
    rw [Int.mul_one]
    rfl
  rw [this]
theorem dSeek_ge {f : Int → Bool} : ∀ {n : Nat} {x i : Int}, dSeek f n x = some i → x ≤ i
  | 0, _, _, e => by cases e
  | n + 1, x, i, e => by
    unfold dSeek at e
    by_cases c : f x = true
    · rw [if_pos c] at e; cases e; exact Int.le_refl _
    · rw [if_neg c] at e
      have := dSeek_ge e
      omega
theorem takeTurns_C {d : Nat} {σ τ : pS} (hd : 5 ≤ d) (S : Stat σ) (L : RSlo σ) (C : RCro σ) {k m p many : Int} {D : Int → Int → Int} (h : CX σ k τ) (hp : 0 ≤ p ∧ p < 10) (hm : 0 ≤ m ∧ m < 480) (hD : DRow σ m D τ) (hS : dSn σ D) (hN : dNx σ D) (hmany : 0 ≤ many ∧ many ≤ 100000) (h124 : D 124 p = many) : pC mX1_takeTurns d [(2, 50), (0, p), (0, many), (0, m)] τ (fun r υ => r = some (0, dTurns σ k m p many.toNat D 124 p) ∧ tkFr m τ υ ∧ DRow σ m (dTurns σ k m p many.toNat D) υ) := by
  have S2 := h.1.st S
  have cp := dOk_p C hp
  have loop : ∀ (n : Nat) (x5 : Int) (a : Nat) (left : Int) (u6 : pV) (υ : pS), u6.1 ≠ 1 → 0 ≤ x5 → x5 + n = many → (a : Int) + left = many → 0 ≤ left → left + x5 ≤ many → DRow σ m (dTurns σ k m p a D) υ → dTurns σ k m p a D 124 p = left → tkFr m τ υ → pR mX1_takeTurns d 6 [(2, 50), (0, p), (0, many), (0, m), (0, left), (0, x5), u6] [] υ (fun r υ => r = some (0, dTurns σ k m p many.toNat D 124 p) ∧ tkFr m τ υ ∧ DRow σ m (dTurns σ k m p many.toNat D) υ) := fun n => by
    induction n with
    | zero =>
      intro x5 a left u6 υ hu x0 x1 hal l0 l1 Di e124 F
      have ea : many.toNat = a := by omega
      exact g_X1_takeTurns_6 (Q1 := fun _ _ => True) (Q2 := fun _ _ => True) (Q3 := fun _ _ => True) hd (S2.eq F.1) p many m left x5 u6 hu (by unfold inR; omega) (by unfold inR; omega) (fun _ => by rw [ea, e124]; exact ⟨rfl, F, Di⟩) (fun c => by omega) (fun c => by omega) (fun c => by omega) (fun c => by omega) (fun c => by omega) (fun c => by omega) (fun c => by omega) (fun c => by omega) (fun c => by omega) (fun c => by omega) (fun c => by omega) (fun c => by omega) (fun c => by omega) (fun c => by omega) (fun c => by omega)
    | succ n ih =>
      intro x5 a left u6 υ hu x0 x1 hal l0 l1 Di e124 F
      have cx := F.cx h L
      have okA := dTurns_ok C (k := k) (m := m) hp a hS hN
      obtain ⟨r1, φ1, ⟨t, rfl, t1, t2, t3, t4⟩, ok1, run1⟩ := takeRounds_C (d := 4) (Nat.le_refl 4) S L C cx hp hm Di okA.1 okA.2 ⟨l0, by omega⟩
      have F1 := F.tr t2
      have cx1 := F1.cx h L
      have D1 : DRow σ m (dTurns σ k m p (a + t) D) φ1 := by rw [dTurns_add]; exact t3
      have e1 : dTurns σ k m p (a + t) D 124 p = left - t := by rw [dTurns_add, t4, e124]
      have ok2 := dTurns_ok C (k := k) (m := m) hp (a + t) hS hN
      have n2 := ok2.2 p hp.1 hp.2
      have e58 : rd φ1 58 p = dTurns σ k m p (a + t) D 122 p := D1.2.2.2.1 p hp.1 hp.2
      have e48 : rd φ1 48 p = rd σ 121 p := (cx1.2 _ _ (by omega) (by omega)).trans cp.1
      have tkb := takeable_C (d := 3) (Nat.le_refl 3) S L C cx1 hp hm D1 ok2.1 (fr := dTurns σ k m p (a + t) D 122 p) (st := 1) (by omega) (Or.inl (by omega))
      have go0 : left - (t : Int) ≤ 0 → pR mX1_takeTurns d 6 [(2, 50), (0, p), (0, many), (0, m), (0, left - (t : Int)), (0, x5 + 1), u6] [] φ1 (fun r υ => r = some (0, dTurns σ k m p many.toNat D 124 p) ∧ tkFr m τ υ ∧ DRow σ m (dTurns σ k m p many.toNat D) υ) := fun c => ih (x5 + 1) (a + t) _ u6 φ1 hu (by omega) (by omega) (by omega) (by omega) (by omega) D1 e1 F1
      cases hO : dOne σ k m p (dTurns σ k m p (a + t) D) with
      | none =>
        have sk : kSeek σ k m p (dTurns σ k m p (a + t) D) (dTurns σ k m p (a + t) D 122 p) 1 = -1 := by
          unfold kSeek
          rw [seek_same]
          unfold dOne at hO
          cases e : dSeek (fun j => dCan σ k m (dTurns σ k m p (a + t) D) (dWay σ p (dTurns σ k m p (a + t) D 122 p + j))) (rd σ 121 p).toNat 0 with
          | none => rfl
          | some j => rw [e] at hO; cases hO
        refine g_X1_takeTurns_6 (Q1 := fun r φ => r = some (0, (t : Int)) ∧ φ = φ1) (Q2 := fun r φ => r = some (0, kSeek σ k m p (dTurns σ k m p (a + t) D) (dTurns σ k m p (a + t) D 122 p) 1) ∧ φ = φ1) (Q3 := fun _ _ => True) hd (S2.eq F.1) p many m left x5 u6 hu (by unfold inR; omega) (by unfold inR; omega) (fun c => by omega) (fun _ => by unfold inR; omega) (fun _ c3 => ?_) (fun _ c4 => ⟨_, φ1, ⟨rfl, rfl⟩, ok1, run1⟩) (fun _ _ v1 τ1 _ q1 => ?_) (fun _ _ v1 τ1 _ q1 c5 => ?_) (fun _ _ _ _ _ _ _ => hp) (fun _ _ v1 τ1 _ q1 c6 => ?_) (fun _ _ v1 τ1 _ q1 c6 v2 τ2 _ q2 => ?_) (fun _ _ v1 τ1 _ q1 c6 v2 τ2 _ q2 c7 => ?_) (fun _ _ v1 τ1 _ q1 c6 v2 τ2 _ q2 c7 => ?_) (fun _ _ v1 τ1 _ q1 c6 v2 τ2 _ q2 c7 => ?_) (fun _ _ v1 τ1 _ q1 c6 v2 τ2 _ q2 c7 => ?_) (fun _ _ v1 τ1 _ q1 c6 v2 τ2 _ q2 c7 => ?_) (fun _ _ v1 τ1 _ q1 c6 v2 τ2 _ q2 c7 => ?_) (fun _ _ v1 τ1 _ q1 c6 v2 τ2 _ q2 c8 => ?_)
        · have ea : many.toNat = a := by omega
          rw [ea, e124]; exact ⟨rfl, F, Di⟩
        · have ev : v1 = (t : Int) := congrArg (fun o => (o.getD (0, 0)).2) q1.1
          unfold inR; omega
        · have ev : v1 = (t : Int) := congrArg (fun o => (o.getD (0, 0)).2) q1.1
          rw [ev, q1.2]; rw [ev] at c5; exact go0 c5
        · rw [q1.2, e58]; exact tkb
        · have ev : v2 = -1 := (congrArg (fun o => (o.getD (0, 0)).2) q2.1).trans sk
          rw [ev]; decide
        all_goals have ev : v2 = -1 := (congrArg (fun o => (o.getD (0, 0)).2) q2.1).trans sk
        · exact absurd ev c7
        · exact absurd ev c7
        · exact absurd ev c7
        · exact absurd ev c7
        · exact absurd ev c7
        · exact absurd ev c7
        · have ew : v1 = (t : Int) := congrArg (fun o => (o.getD (0, 0)).2) q1.1
          have e : dTurns σ k m p many.toNat D = dTurns σ k m p (a + t) D := by
            rw [show many.toNat = (a + t) + (many.toNat - (a + t)) by omega, dTurns_add, dTurns_none hO]
          rw [e, q2.2, ew, e1]
          exact ⟨rfl, F1, D1⟩
      | some T =>
        obtain ⟨j, j0, sk, jc, jT⟩ : ∃ j : Int, 0 ≤ j ∧ kSeek σ k m p (dTurns σ k m p (a + t) D) (dTurns σ k m p (a + t) D 122 p) 1 = (dTurns σ k m p (a + t) D 122 p + j) % rd σ 121 p ∧ 0 < rd σ 121 p ∧ T = dTake σ m p (dWay σ p (dTurns σ k m p (a + t) D 122 p + j)) ((dTurns σ k m p (a + t) D 122 p + j + 1) % rd σ 121 p) (dTurns σ k m p (a + t) D) := by
          obtain ⟨j', b0, b1, _, _⟩ := dOne_spec hO
          unfold kSeek
          rw [seek_same]
          unfold dOne at hO
          cases e : dSeek (fun j => dCan σ k m (dTurns σ k m p (a + t) D) (dWay σ p (dTurns σ k m p (a + t) D 122 p + j))) (rd σ 121 p).toNat 0 with
          | none => rw [e] at hO; cases hO
          | some j =>
            rw [e] at hO
            have eT : dTake σ m p (dWay σ p (dTurns σ k m p (a + t) D 122 p + j)) ((dTurns σ k m p (a + t) D 122 p + j + 1) % rd σ 121 p) (dTurns σ k m p (a + t) D) = T := Option.some.inj hO
            refine ⟨j, dSeek_ge e, ?_, by omega, eT.symm⟩
            show (dTurns σ k m p (a + t) D 122 p + j * 1) % rd σ 121 p = _
            rw [Int.mul_one]
        generalize hy : (dTurns σ k m p (a + t) D 122 p + j) % rd σ 121 p = y at *
        have y0 : 0 ≤ y := by rw [← hy]; exact Int.emod_nonneg _ (by omega)
        have y1 : y < rd σ 121 p := by rw [← hy]; exact Int.emod_lt_of_pos _ jc
        have cy := cp.2.2.2 y y0 y1
        have e47 : rd φ1 47 (p * 6 + y) = vOuter (rV σ p y) := (cx1.2 _ _ (by omega) (by omega)).trans cy.1
        have ewy : dWay σ p (dTurns σ k m p (a + t) D 122 p + j) = rV σ p y := by rw [dWay_rV, hy]
        have enx : (dTurns σ k m p (a + t) D 122 p + j + 1) % rd σ 121 p = (y + 1) % rd σ 121 p := by rw [← hy, Int.emod_add_emod]
        rw [ewy, enx] at jT
        have cz := (cl_dl L (m := m) cy.2.1).2.2.2.2
        have nxt : ∀ (v : Int) (φ3 : pS), (φ3.1 = φ1.1 ∧ ∀ a i : Int, rd φ3 a i = rd φ1 a i + 1 * cl σ m (rV σ p y) a i) → v = (y + 1) % rd σ 121 p → 0 < left - (t : Int) → pR mX1_takeTurns d 6 [(2, 50), (0, p), (0, many), (0, m), (0, (left - (t : Int)) + (-1)), (0, x5 + 1), (0, y)] [] (wr φ3 58 p v) (fun r υ => r = some (0, dTurns σ k m p many.toNat D 124 p) ∧ tkFr m τ υ ∧ DRow σ m (dTurns σ k m p many.toNat D) υ) := fun v φ3 q3 hv pos => by
          have eT : dTurns σ k m p (a + t + 1) D = T := dTurns_succ hO
          have fr3 : tkFr m φ1 φ3 := ⟨q3.1, fun b x c => by rw [q3.2, cl_z L cy.2.1 c, Int.mul_zero, Int.add_zero]⟩
          refine ih (x5 + 1) (a + t + 1) _ (0, y) (wr φ3 58 p v) (show (0 : Nat) ≠ 1 by decide) (by omega) (by omega) (by omega) (by omega) (by omega) ?_ ?_ ((F1.tr fr3).tr ⟨rfl, fun b x c => rd_wr_n (by omega)⟩)
          · rw [eT]
            refine (D1.take L cy.2.1 q3.2).nx (fun b x c => rd_wr_n (fun z => c z.1)) (fun b x b1 b2 => ?_) (fun q q0 q1 => ?_)
            · rw [jT]
              show (if b = 122 then _ else if b = 124 then _ else _) = _
              rw [if_neg b1, if_neg b2, Int.one_mul]
            · rw [jT]
              show _ = (if (122 : Int) = 122 then (if q = p then _ else _) else _)
              rw [if_pos rfl, rd_wr]
              by_cases z : q = p
              · rw [if_pos ⟨rfl, z⟩, if_pos z, hv]
              · rw [if_neg (fun w => z w.2), if_neg z, q3.2, cz 58 q (by decide) (by decide) (by decide) (by decide), Int.mul_zero, Int.add_zero]
                exact D1.2.2.2.1 q q0 q1
          · rw [eT, jT]
            show (if p = p then _ else _) = _
            rw [if_pos rfl, e1]
            omega
        refine g_X1_takeTurns_6 (Q1 := fun r φ => r = some (0, (t : Int)) ∧ φ = φ1) (Q2 := fun r φ => r = some (0, kSeek σ k m p (dTurns σ k m p (a + t) D) (dTurns σ k m p (a + t) D 122 p) 1) ∧ φ = φ1) (Q3 := fun r φ => r = none ∧ φ.1 = φ1.1 ∧ ∀ a i : Int, rd φ a i = rd φ1 a i + 1 * cl σ m (rV σ p y) a i) hd (S2.eq F.1) p many m left x5 u6 hu (by unfold inR; omega) (by unfold inR; omega) (fun c => by omega) (fun _ => by unfold inR; omega) (fun _ c3 => ?_) (fun _ c4 => ⟨_, φ1, ⟨rfl, rfl⟩, ok1, run1⟩) (fun _ _ v1 τ1 _ q1 => ?_) (fun _ _ v1 τ1 _ q1 c5 => ?_) (fun _ _ _ _ _ _ _ => hp) (fun _ _ v1 τ1 _ q1 c6 => ?_) (fun _ _ v1 τ1 _ q1 c6 v2 τ2 _ q2 => ?_) (fun _ _ v1 τ1 _ q1 c6 v2 τ2 _ q2 c7 => ?_) (fun _ _ v1 τ1 _ q1 c6 v2 τ2 _ q2 c7 => ?_) (fun _ _ v1 τ1 _ q1 c6 v2 τ2 _ q2 c7 τ3 _ q3 => ?_) (fun _ _ v1 τ1 _ q1 c6 v2 τ2 _ q2 c7 τ3 _ q3 => ?_) (fun _ _ v1 τ1 _ q1 c6 v2 τ2 _ q2 c7 τ3 _ q3 c9 => ?_) (fun _ _ v1 τ1 _ q1 c6 v2 τ2 _ q2 c7 τ3 _ q3 c10 => ?_) (fun _ _ v1 τ1 _ q1 c6 v2 τ2 _ q2 c8 => ?_)
        · have ea : many.toNat = a := by omega
          rw [ea, e124]; exact ⟨rfl, F, Di⟩
        · have ev : v1 = (t : Int) := congrArg (fun o => (o.getD (0, 0)).2) q1.1
          unfold inR; omega
        · have ev : v1 = (t : Int) := congrArg (fun o => (o.getD (0, 0)).2) q1.1
          rw [ev, q1.2]; rw [ev] at c5; exact go0 c5
        · rw [q1.2, e58]; exact tkb
        all_goals have ev : v2 = y := (congrArg (fun o => (o.getD (0, 0)).2) q2.1).trans sk
        · rw [ev]; unfold inR; omega
        · omega
        · rw [q2.2, ev, e47]
          exact take_C (Nat.le_refl 1) S L cx1 cy.2.1 hm
        · unfold inR; omega
        · rw [q3.2.2, cz 48 p (by decide) (by decide) (by decide) (by decide), e48]; unfold inR; omega
        · have ew : v1 = (t : Int) := congrArg (fun o => (o.getD (0, 0)).2) q1.1
          rw [q3.2.2, cz 48 p (by decide) (by decide) (by decide) (by decide), e48] at c9
          rw [ev, ew]
          exact nxt 0 τ3 q3.2 (by rw [show y + 1 = rd σ 121 p by omega, Int.emod_self]) (by omega)
        · have ew : v1 = (t : Int) := congrArg (fun o => (o.getD (0, 0)).2) q1.1
          rw [q3.2.2, cz 48 p (by decide) (by decide) (by decide) (by decide), e48] at c10
          rw [ev, ew]
          exact nxt (y + 1) τ3 q3.2 (by rw [Int.emod_eq_of_lt (by omega) (by omega)]) (by omega)
        · omega
  refine g_X1_takeTurns_0 hd S2 p many m ?_
  exact loop many.toNat 0 0 many (9, 0) τ (by decide) (by omega) (by omega) (by omega) hmany.1 (by omega) hD h124 tkFr.rf
