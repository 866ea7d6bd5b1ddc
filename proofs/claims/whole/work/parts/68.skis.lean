/-! the class reckons a skier: where he came, from where he goes on -/
theorem cw_mono {i j : Nat} (h : i ≤ j) : cw i ≤ cw j := by
  have e1 := cw_eq i
  have e2 := cw_eq j
  omega
theorem cw_outer {a b w : Int} (hb : a ≤ 6) (h : vWay a b w = true) : cw (vOuter w).toNat = w.toNat ∧ 0 ≤ vOuter w ∧ 0 ≤ w := by
  have t := vWay_t h
  have e := cw_eq (vOuter w).toNat
  unfold vOuter at *
  split at e <;> (rename_i c; first | rw [if_pos c] | rw [if_neg c]) <;> omega
theorem shr_bit {x k : Int} (hk : 0 ≤ k ∧ k < 32) : bq (i_shr x k) 0 = bq x k.toNat := by
  rw [bq_shr hk (by omega), Nat.zero_add]
theorem mayStay_C {d : Nat} {τ : pS} (S : Stat τ) {a m : Int} (I : Inst5 τ a) (hm : 0 ≤ m ∧ m < 2147483648) (hR : m < 480 → inR (rd τ (a + 1) m)) : pC mX5_mayStay d [(2, a), (0, m)] τ (fun r υ => r = some (0, b2i (vStay τ a m)) ∧ υ = τ) := by
  refine g_X5_mayStay_0 (Nat.zero_le d) S a m I (by unfold inR; omega) (fun c => ⟨?_, rfl⟩) (fun c => by omega) hR (fun c c3 => ⟨?_, rfl⟩) (fun c c4 => ⟨?_, rfl⟩)
  · unfold vStay; exact b2i_one (Or.inl c)
  · unfold vStay; exact b2i_zero (by omega)
  · unfold vStay; exact b2i_one (Or.inr c4)
theorem stay_eq {σ τ : pS} (P : RPas σ) {k s a m : Int} (hm : 0 ≤ m) (hA : paO σ k s a τ) : vStay τ a m = decide (pAt σ k s m = -1) := by
  unfold vStay
  refine decide_eq_decide.mpr ?_
  by_cases c : m < 480
  · rw [hA m hm c]; omega
  · have := (pAt_R P k s m).1; omega
theorem leads_C5 {d : Nat} {σ τ : pS} (S : Stat σ) (L : RSlo σ) {k sk a : Int} (h : SKH σ k sk a τ) {j : Int} {m : Int} (hj : 0 ≤ j ∧ j < 17) (hm : 0 ≤ m ∧ m < 480) (hi : bq (rd τ (a + 2) m) j.toNat = true → 0 ≤ m + rd τ (a + 5) j ∧ m + rd τ (a + 5) j < 541) : pC mX5_leadsOn d [(2, a), (0, j), (0, m)] τ (fun r υ => r = some (0, b2i (vLeads τ a j m)) ∧ υ = τ) := by
  have S2 := h.st S
  have b := h.1.bounds L hj
  have t1 : i_and (i_shr (rd τ (a + 2) m) j) 1 ≠ 0 ↔ vBit (rd τ (a + 2) m) j = true := by unfold vBit; rw [decide_eq_true_eq]
  refine g_X5_leadsOn_0 (Nat.zero_le d) S2 a j m h.2.1 hm (i_and_in _ _) (fun _ => hj) (fun c => hi ?_) (fun _ => by rw [h.s6]; exact h.1.i6 L) (fun _ => i_and_in _ _) (fun c c3 => ⟨?_, rfl⟩) (fun c c4 => ⟨?_, rfl⟩) (fun c => ⟨?_, rfl⟩)
  · rw [← vBit_bq (by omega)]; exact t1.mp c
  · unfold vLeads; exact b2i_zero (fun z => by have z2 := z.2; unfold vBit at z2; rw [decide_eq_true_eq] at z2; exact z2 c3)
  · unfold vLeads; exact b2i_one ⟨t1.mp c, by unfold vBit; exact decide_eq_true c4⟩
  · unfold vLeads; exact b2i_zero (fun z => t1.mpr z.1 c)
/-- where he came: a bit a place -/
def cmO (σ : pS) (k s sk a : Int) (τ : pS) : Prop := ∀ m : Int, 0 ≤ m → m ≤ 540 → ∀ p : Nat, p < 10 → (bq (rd τ (a + 3) m) p = true ↔ cameS σ k s sk m (p : Int) = true)
def gsO (σ : pS) (k s sk a : Int) (τ : pS) : Prop := ∀ m : Int, 0 ≤ m → m ≤ 540 → ∀ p : Nat, p < 10 → (bq (rd τ (a + 4) m) p = true ↔ goesS σ k s sk m (p : Int) = true)
def rgO (a : Int) (τ : pS) : Prop := ∀ m : Int, 0 ≤ m → m ≤ 540 → inR (rd τ (a + 3) m)
theorem i_shl_in (x y : Int) : inR (i_shl x y) := by
  have h1 := Int32.le_toInt (Int32.ofInt x <<< (Int32.ofInt y &&& 31))
  have h2 := Int32.toInt_lt (Int32.ofInt x <<< (Int32.ofInt y &&& 31))
  unfold i_shl
  constructor <;> omega
theorem rgO.wr {a i v : Int} {τ : pS} (h : rgO a τ) (hv : inR v) : rgO a (wr τ (a + 3) i v) := fun m m0 m1 => by
  by_cases c : m = i
  · rw [c, rd_wr_same]; exact hv
  · rw [rd_wr_i _ c]; exact h m m0 m1
theorem reach_C {d : Nat} {σ τ : pS} (hd : 1 ≤ d) (S : Stat σ) (L : RSlo σ) (P : RPas σ) {k s sk a : Int} (h : SKH σ k sk a τ) (hs : 0 ≤ sk ∧ sk < 4) (hA : paO σ k s a τ) (hM : mnO σ sk a τ) (hB : bgO σ k s sk a τ) : pC mX5_findReached d [(2, a)] τ (fun r υ => r = none ∧ qRow τ υ (a + 3) ∧ cmO σ k s sk a υ) := by
  have S2 := h.st S
  have l0 := L.1
  have l3 := L.2.2.2.1
  have l5 := L.2.2.2.2.2.1
  have l8 := L.2.2.2.2.2.2.2.2.1
  have ways : ∀ (j : Nat) (here ws : Int) (υ0 : pS), j < 540 → (∀ i : Nat, i < 17 → ∀ x : Int, 0 ≤ x → x < 10 → (hasS σ i = true → x = rd σ 77 ((cw i : Nat) : Int)) → ((bq ws i && bq here x.toNat) = true ↔ hasS σ i = true ∧ cHit σ k s sk j (cw i))) → (∀ (υ : pS) (x2 x3 x4 : Int), qRow τ υ (a + 3) → rgO a υ → (∀ m : Int, 0 ≤ m → m ≤ 540 → ∀ p : Nat, p < 10 → (bq (rd υ (a + 3) m) p = true ↔ cmN σ k s sk (j + 1) m (p : Int) = true)) → pR mX5_findReached d 25 [(2, a), (0, (j : Int) + 1), (0, x2), (0, x3), (0, x4)] [] υ (fun r υ => r = none ∧ qRow τ υ (a + 3) ∧ cmO σ k s sk a υ)) → ∀ (r i : Nat) (υ : pS), i + r = 17 → qRow τ υ (a + 3) → rgO a υ → (∀ m : Int, 0 ≤ m → m ≤ 540 → ∀ p : Nat, p < 10 → (bq (rd υ (a + 3) m) p = true ↔ cmX σ k s sk j (fun _ => True) (fun w => w < cw i) m (p : Int))) → pR mX5_findReached d 84 [(2, a), (0, (j : Int)), (0, here), (0, ws), (0, (i : Int))] [] υ (fun r υ => r = none ∧ qRow τ υ (a + 3) ∧ cmO σ k s sk a υ) := by
    intro j here ws υ0 hj hw K r
    induction r with
    | zero =>
      intro i υ hi q g v
      have e : i = 17 := by omega
      subst e
      have h' := h.fr L (q.skf (by omega))
      refine g_X5_findReached_84 hd (h'.st S) a (j : Int) here ws _ h'.2.1 (by decide) (fun _ => K υ _ _ _ q g (fun m m0 m1 p hp => ?_)) (fun c => by omega) (fun c => by omega) (fun c => by omega) (fun c => by omega) (fun c => by omega) (fun c => by omega) (fun c => by omega) (fun c => by omega)
      rw [v m m0 m1 p hp, cmX_all]
      exact cmX_cg (fun _ _ _ => Iff.rfl) (fun w hw _ => ⟨fun _ => trivial, fun _ => by show w < cw 17; have := cw_eq 17; omega⟩) m (p : Int)
    | succ r ih =>
      intro i υ hi q g v
      have h' := h.fr L (q.skf (by omega))
      have S3 := h'.st S
      have bd := h'.1.bounds L (w := (i : Int)) (by omega)
      have es : rd υ (rd υ a 6 + 2) (i : Int) = rd υ (rd υ 35 4 + 2) (i : Int) := by rw [h'.s6]
      have stR : 0 ≤ rd υ (rd υ a 6 + 2) (i : Int) ∧ rd υ (rd υ a 6 + 2) (i : Int) < 10 := by rw [es]; omega
      have hwi := hw i (by omega) (rd υ (rd υ a 6 + 2) (i : Int)) stR.1 stR.2 (fun c => (h'.row L c).1)
      have tst : i_and (i_and (i_shr ws (i : Int)) (i_shr here (rd υ (rd υ a 6 + 2) (i : Int)))) 1 ≠ 0 ↔ hasS σ i = true ∧ cHit σ k s sk j (cw i) := by
        rw [and1_ne0, bq_and, shr_bit (by omega), shr_bit (by omega), show ((i : Nat) : Int).toNat = i by omega]
        exact hwi
      have noH : ∀ (w : Nat), w < 13 → cHit σ k s sk j w → ¬ (hasS σ i = true ∧ cHit σ k s sk j (cw i)) → (w < cw i ↔ w < cw (i + 1)) := fun w w1 hh c => by
        constructor
        · intro z; have := cw_mono (show i ≤ i + 1 by omega); omega
        · intro z
          cases e : hasS σ i
          · rcases cw_no l3.2 l5.2 (by omega) e with y | ⟨y, y2⟩
            · omega
            · by_cases z2 : w < cw i
              · exact z2
              · have z3 : w = cw i := by omega
                subst z3
                have := (st_facts L P hs hh.1).1
                rw [show wyS σ ((cw i : Nat) : Int) = false from y2] at this
                cases this
          · have y := hasS_t L e
            by_cases z2 : w < cw i
            · exact z2
            · have z3 : w = cw i := by omega
              subst z3
              exact absurd ⟨e, hh⟩ c
      refine g_X5_findReached_84 hd S3 a (j : Int) here ws _ h'.2.1 (by omega) (fun c => by omega) (fun _ => i_shr_in _ _) (fun _ c3 => ?_) (fun _ _ => by rw [h'.s6]; exact h'.1.i6 L) (fun _ _ => by omega) (fun _ _ => i_and_in _ _) (fun _ _ c5 => ?_) (fun _ _ c6 => ?_) (fun _ _ c6 => ?_)
      · refine K υ _ _ _ q g (fun m m0 m1 p hp => ?_)
        rw [v m m0 m1 p hp, cmX_all]
        refine cmX_cg (fun _ _ _ => Iff.rfl) (fun w hw' hh => ⟨fun _ => trivial, fun _ => ?_⟩) m (p : Int)
        have wy := (st_facts L P hs hh.1).1
        have o := vOuter_of wy l3.2 l5.2
        have co := cw_outer l3.2 wy
        by_cases z : w < cw i
        · exact z
        · exfalso
          have ge : i ≤ (vOuter (w : Int)).toNat := by
            by_cases z2 : i ≤ (vOuter (w : Int)).toNat
            · exact z2
            · have h1 : hasS σ (vOuter (w : Int)).toNat = true := by
                unfold hasS
                rw [show (((vOuter (w : Int)).toNat : Nat) : Int) = vOuter (w : Int) by omega]
                exact o.2.2.1
              have h2 := (hasS_t L h1).1
              have h3 := cw_mono (show (vOuter (w : Int)).toNat + 1 ≤ i by omega)
              omega
          have h1 : hasS σ (vOuter (w : Int)).toNat = true := by
            unfold hasS
            rw [show (((vOuter (w : Int)).toNat : Nat) : Int) = vOuter (w : Int) by omega]
            exact o.2.2.1
          have e2 : cw (vOuter (w : Int)).toNat = w := by omega
          have en := L.ends wy
          have := (hw (vOuter (w : Int)).toNat (by omega) (rd σ 77 (w : Int)) en.1 en.2.1 (fun _ => by rw [e2])).mpr ⟨h1, by rw [e2]; exact hh⟩
          rw [Bool.and_eq_true] at this
          have b1 := bq_shr (x := ws) (k := (i : Int)) (j := (vOuter (w : Int)).toNat - i) (by omega) (by omega)
          rw [c3, bq_0, show (vOuter (w : Int)).toNat - i + ((i : Nat) : Int).toNat = (vOuter (w : Int)).toNat by omega, this.1] at b1
          cases b1
      · rw [show (i : Int) + 1 = ((i + 1 : Nat) : Int) by omega]
        refine ih (i + 1) υ (by omega) q g (fun m m0 m1 p hp => ?_)
        rw [v m m0 m1 p hp]
        exact cmX_cg (fun _ _ _ => Iff.rfl) (fun w w1 hh => noH w w1 hh (fun z => tst.mpr z c5)) m (p : Int)
      · obtain ⟨c7, c8⟩ := tst.mp c6
        have y := hasS_t L c7
        have f := st_facts L P hs c8.1
        rw [(show rd υ (a + 5) (i : Int) = rd τ (a + 5) (i : Int) from q.2 _ _ (by omega)), hM.at L c7]
        omega
      · obtain ⟨c7, c8⟩ := tst.mp c6
        have y := hasS_t L c7
        have f := st_facts L P hs c8.1
        have row := h'.row L c7
        rw [(show rd υ (a + 5) (i : Int) = rd τ (a + 5) (i : Int) from q.2 _ _ (by omega)), hM.at L c7, row.2.1, show (i : Int) + 1 = ((i + 1 : Nat) : Int) by omega]
        refine ih (i + 1) _ (by omega) q.wr (g.wr (i_or_in _ _)) (fun m m0 m1 p hp => ?_)
        rw [cmX_add (n := cw i) (B := fun w => w < cw i) y.2.2.2.1 c8 (fun w w1 hh => by show w < cw (i + 1) ↔ _; omega)]
        by_cases z : m = (j : Int) + minS σ sk ((cw i : Nat) : Int)
        · rw [z, rd_wr_same, bq_set (by omega) (by omega), Bool.or_eq_true, decide_eq_true_eq, v _ (by omega) (by omega) p hp]
          constructor
          · rintro (z | z)
            · exact Or.inl z
            · exact Or.inr ⟨rfl, z⟩
          · rintro (z | ⟨-, z⟩)
            · exact Or.inl z
            · exact Or.inr z
        · rw [rd_wr_i _ z, v m m0 m1 p hp]
          constructor
          · exact Or.inl
          · rintro (y | y)
            · exact y
            · exact absurd y.1 z
  have outer : ∀ (n j : Nat) (υ : pS) (u2 u3 u4 : pV), j + n = 540 → u2.1 ≠ 1 → u3.1 ≠ 1 → u4.1 ≠ 1 → qRow τ υ (a + 3) → rgO a υ → (∀ m : Int, 0 ≤ m → m ≤ 540 → ∀ p : Nat, p < 10 → (bq (rd υ (a + 3) m) p = true ↔ cmN σ k s sk j m (p : Int) = true)) → pR mX5_findReached d 25 [(2, a), (0, (j : Int)), u2, u3, u4] [] υ (fun r υ => r = none ∧ qRow τ υ (a + 3) ∧ cmO σ k s sk a υ) := by
    intro n
    induction n with
    | zero =>
      intro j υ u2 u3 u4 hj h2 h3 h4 q g v
      have e : j = 540 := by omega
      subst e
      have h' := h.fr L (q.skf (by omega))
      refine g_X5_findReached_25 hd (h'.st S) a _ u2 u3 u4 h'.2.1 h2 h3 h4 (by decide) (fun _ => ⟨rfl, q, fun m m0 m1 p hp => ?_⟩) (fun c => by omega) (fun c => by omega) (fun c => by omega) (fun c => by omega) (fun c => by omega) (fun c => by omega) (fun c => by omega) (fun c => by omega) (fun c => by omega) (fun c => by omega) (fun c => by omega) (fun c => by omega) (fun c => by omega)
      rw [v m m0 m1 p hp]
      have e := cmN_old L P hs (k := k) (s := s) (j := 540) (n := 1) (m := m) (p := (p : Int)) (by omega)
      show _ ↔ cmN σ k s sk (540 + 1) m (p : Int) = true
      rw [e]
    | succ n ih =>
      intro j υ u2 u3 u4 hj h2 h3 h4 q g v
      have h' := h.fr L (q.skf (by omega))
      have S3 := h'.st S
      have A' : paO σ k s a υ := fun m m0 m1 => (q.2 _ _ (by omega)).trans (hA m m0 m1)
      have pAR := fun m => pAt_R P k s m
      have hst := stay_eq (τ := υ) (a := a) (m := (j : Int)) P (by omega) A'
      have bg : ∀ i : Nat, i < 32 → (j : Int) < 480 → bq (rd υ (a + 2) (j : Int)) i = (hasS σ i && stS σ k s sk ((cw i : Nat) : Int) (j : Int)) := fun i hi hj => by
        rw [(show rd υ (a + 2) (j : Int) = rd τ (a + 2) (j : Int) from q.2 _ _ (by omega))]
        exact hB _ (by omega) hj i hi
      have hw0 : ((480 : Int) ≤ (j : Int) ∨ rd υ (a + 3) (j : Int) = 0) → ∀ i : Nat, i < 17 → ∀ x : Int, 0 ≤ x → x < 10 → (hasS σ i = true → x = rd σ 77 ((cw i : Nat) : Int)) → ((bq 0 i && bq (rd υ (a + 3) (j : Int)) x.toNat) = true ↔ hasS σ i = true ∧ cHit σ k s sk j (cw i)) := fun c i hi x x0 x1 hx => by
        rw [bq_0, Bool.false_and]
        constructor
        · intro z; cases z
        · rintro ⟨z1, z2, z3⟩
          exfalso
          rcases c with c | c
          · have := st_facts L P hs z2; omega
          · have := (v (j : Int) (by omega) (by omega) x.toNat (by omega)).mpr (by rw [show ((x.toNat : Nat) : Int) = x by omega, hx z1]; exact z3)
            rw [c, bq_0] at this
            cases this
      have hw1 : (j : Int) < 480 → ∀ i : Nat, i < 17 → ∀ x : Int, 0 ≤ x → x < 10 → (hasS σ i = true → x = rd σ 77 ((cw i : Nat) : Int)) → ((bq (rd υ (a + 2) (j : Int)) i && bq (rd υ (a + 3) (j : Int)) x.toNat) = true ↔ hasS σ i = true ∧ cHit σ k s sk j (cw i)) := fun c i hi x x0 x1 hx => by
        rw [bg i (by omega) c, Bool.and_eq_true, Bool.and_eq_true, v (j : Int) (by omega) (by omega) x.toNat (by omega), show ((x.toNat : Nat) : Int) = x by omega]
        constructor
        · rintro ⟨⟨z1, z2⟩, z3⟩
          rw [hx z1] at z3
          exact ⟨z1, z2, z3⟩
        · rintro ⟨z1, z2, z3⟩
          rw [hx z1]
          exact ⟨⟨z1, z2⟩, z3⟩
      have K : ∀ (υ : pS) (x2 x3 x4 : Int), qRow τ υ (a + 3) → rgO a υ → (∀ m : Int, 0 ≤ m → m ≤ 540 → ∀ p : Nat, p < 10 → (bq (rd υ (a + 3) m) p = true ↔ cmN σ k s sk (j + 1) m (p : Int) = true)) → pR mX5_findReached d 25 [(2, a), (0, (j : Int) + 1), (0, x2), (0, x3), (0, x4)] [] υ (fun r υ => r = none ∧ qRow τ υ (a + 3) ∧ cmO σ k s sk a υ) := fun υ x2 x3 x4 q g v => by
        rw [show (j : Int) + 1 = ((j + 1 : Nat) : Int) by omega]
        exact ih (j + 1) υ _ _ _ (by omega) (show (0 : Nat) ≠ 1 by decide) (show (0 : Nat) ≠ 1 by decide) (show (0 : Nat) ≠ 1 by decide) q g v
      have w0 : ∀ w : Nat, w < cw 0 ↔ False := fun w => ⟨fun h => by rw [show cw 0 = 0 from rfl] at h; omega, False.elim⟩
      have v0 : pAt σ k s (j : Int) ≠ -1 → ∀ m : Int, 0 ≤ m → m ≤ 540 → ∀ p : Nat, p < 10 → (bq (rd υ (a + 3) m) p = true ↔ cmX σ k s sk j (fun _ => True) (fun w => w < cw 0) m (p : Int)) := fun c m m0 m1 p hp => by
        rw [v m m0 m1 p hp, ← cmX_none]
        exact cmX_cg (fun z => absurd z c) (fun w _ _ => (w0 w).symm) m (p : Int)
      have v1 : pAt σ k s (j : Int) = -1 → ∀ m : Int, 0 ≤ m → m ≤ 540 → ∀ p : Nat, p < 10 → (bq (rd (wr υ (a + 3) ((j : Int) + 1) (i_or (rd υ (a + 3) ((j : Int) + 1)) (rd υ (a + 3) (j : Int)))) (a + 3) m) p = true ↔ cmX σ k s sk j (fun _ => True) (fun w => w < cw 0) m (p : Int)) := fun c m m0 m1 p hp => by
        have e : cmX σ k s sk j (fun _ => True) (fun w => w < cw 0) m (p : Int) ↔ cmN σ k s sk j m (p : Int) = true ∨ (m = (j : Int) + 1 ∧ cmN σ k s sk j (j : Int) (p : Int) = true) := by
          unfold cmX
          constructor
          · rintro (z | ⟨z1, z2, z3, z4⟩ | ⟨w, z1, z2, z3, z4, z5⟩)
            · exact Or.inl z
            · exact Or.inr ⟨z1, z3⟩
            · exact ((w0 w).mp z5).elim
          · rintro (z | ⟨z1, z2⟩)
            · exact Or.inl z
            · exact Or.inr (Or.inl ⟨z1, c, z2, trivial⟩)
        rw [e]
        by_cases z : m = (j : Int) + 1
        · rw [z, rd_wr_same, bq_or, Bool.or_eq_true, v _ (by omega) (by omega) p hp, v (j : Int) (by omega) (by omega) p hp]
          constructor
          · rintro (z | z)
            · exact Or.inl z
            · exact Or.inr ⟨rfl, z⟩
          · rintro (z | ⟨-, z⟩)
            · exact Or.inl z
            · exact Or.inr z
        · rw [rd_wr_i _ z, v m m0 m1 p hp]
          constructor
          · exact Or.inl
          · rintro (y | y)
            · exact y
            · exact absurd y.1 z
      have hR : (j : Int) < 480 → inR (rd υ (a + 1) (j : Int)) := fun c => by
        have := (pAR (j : Int)).2
        rw [A' _ (by omega) c]; unfold inR; omega
      refine g_X5_findReached_25 hd S3 a _ u2 u3 u4 h'.2.1 h2 h3 h4 (by omega) (fun c => by omega) (fun _ => by omega) (fun _ => mayStay_C S3 h'.2.1 (by omega) hR) (fun _ c3 c5 => ?_) (fun _ c3 c6 => ?_) (fun _ c3 c6 c7 => ?_) (fun _ _ _ _ => by omega) (fun _ c3 c6 c8 => ?_) (fun _ _ => by omega) (fun _ c4 c9 => ?_) (fun _ c4 c10 => ?_) (fun _ c4 c10 c11 => ?_) (fun _ _ _ _ => by omega) (fun _ c4 c10 c12 => ?_)
      · rw [hst] at c3
        exact ways j _ 0 υ (by omega) (hw0 (Or.inl c5)) K 17 0 υ rfl q g (v0 (of_decide_eq_false c3))
      · exact g _ (by omega) (by omega)
      · rw [hst] at c3
        exact ways j _ 0 υ (by omega) (hw0 (Or.inr c7)) K 17 0 υ rfl q g (v0 (of_decide_eq_false c3))
      · rw [hst] at c3
        exact ways j _ _ υ (by omega) (hw1 c6) K 17 0 υ rfl q g (v0 (of_decide_eq_false c3))
      · rw [hst] at c4
        exact ways j _ 0 υ (by omega) (hw0 (Or.inl c9)) K 17 0 _ rfl q.wr (g.wr (i_or_in _ _)) (v1 (of_decide_eq_true c4))
      · exact g _ (by omega) (by omega)
      · rw [hst] at c4
        exact ways j _ 0 υ (by omega) (hw0 (Or.inr c11)) K 17 0 _ rfl q.wr (g.wr (i_or_in _ _)) (v1 (of_decide_eq_true c4))
      · rw [hst] at c4
        exact ways j _ _ υ (by omega) (hw1 c10) K 17 0 _ rfl q.wr (g.wr (i_or_in _ _)) (v1 (of_decide_eq_true c4))
  have qf : qRow τ (fl τ (a + 3) (541 : Nat) 0) (a + 3) := ⟨rfl, fun b i hb => by rw [rd_fl, if_neg (fun z => hb z.1)]⟩
  have hf := h.fr L (qf.skf (by omega))
  refine g_X5_findReached_0 (Q1 := fun r υ => r = none ∧ υ = fl τ (a + 3) (541 : Nat) 0) hd S2 a h.2.1 (fill_C S2 h.2.1.o3 (by decide)) (fun τ1 e1 q1 => ?_) (fun τ1 e1 q1 => ?_)
  · rw [q1.2, hf.s6]; exact hf.1.i6 L
  · rw [q1.2]
    have eh : rd (fl τ (a + 3) (541 : Nat) 0) (rd (fl τ (a + 3) (541 : Nat) 0) a 6) 3 = rd σ 68 32 := by
      rw [hf.2.2.2.2.1, hf.1.2.1 _ _ (by omega) (by omega)]
      exact L.2.2.2.2.2.2.2.1
    rw [eh]
    have rv : ∀ m : Int, 0 ≤ m → m ≤ 540 → rd (wr (fl τ (a + 3) (541 : Nat) 0) (a + 3) 0 (i_shl 1 (rd σ 68 32))) (a + 3) m = if m = 0 then i_shl 1 (rd σ 68 32) else 0 := fun m m0 m1 => by
      by_cases c : m = 0
      · rw [if_pos c, c, rd_wr_same]
      · rw [if_neg c, rd_wr_i _ c, rd_fl, if_pos ⟨rfl, m0, by omega⟩]
    refine outer 540 0 _ (9, 0) (9, 0) (9, 0) rfl (by decide) (by decide) (by decide) qf.wr (fun m m0 m1 => ?_) (fun m m0 m1 p hp => ?_)
    · rw [rv m m0 m1]
      split
      · exact i_shl_in _ _
      · decide
    · rw [rv m m0 m1]
      show _ ↔ decide (m = 0 ∧ (p : Int) = rd σ 68 32) = true
      rw [decide_eq_true_eq]
      by_cases c : m = 0
      · rw [if_pos c, bq_shl1 (by omega) (by omega), decide_eq_true_eq]
        exact ⟨fun z => ⟨c, z⟩, fun z => z.2⟩
      · rw [if_neg c, bq_0]
        exact ⟨fun z => (by cases z), fun z => absurd z.1 c⟩
theorem goes_C {d : Nat} {σ τ : pS} (hd : 1 ≤ d) (S : Stat σ) (L : RSlo σ) (P : RPas σ) {k s sk a : Int} (h : SKH σ k sk a τ) (hs : 0 ≤ sk ∧ sk < 4) (hA : paO σ k s a τ) (hM : mnO σ sk a τ) (hB : bgO σ k s sk a τ) : pC mX5_findGoesOn d [(2, a)] τ (fun r υ => r = none ∧ qRow τ υ (a + 4) ∧ gsO σ k s sk a υ) := by
  have S2 := h.st S
  have l0 := L.1
  have l3 := L.2.2.2.1
  have l5 := L.2.2.2.2.2.1
  have pAR := fun m => pAt_R P k s m
  have outer : ∀ (n : Nat) (υ : pS) (u2 u3 : pV), n ≤ 480 → u2.1 ≠ 1 → u3.1 ≠ 1 → qRow τ υ (a + 4) → (∀ m : Int, (n : Int) ≤ m → m ≤ 540 → ∀ p : Nat, p < 10 → (bq (rd υ (a + 4) m) p = true ↔ goesS σ k s sk m (p : Int) = true)) → pR mX5_findGoesOn d 14 [(2, a), (0, (n : Int) - 1), u2, u3] [] υ (fun r υ => r = none ∧ qRow τ υ (a + 4) ∧ gsO σ k s sk a υ) := by
    intro n
    induction n with
    | zero =>
      intro υ u2 u3 hn h2 h3 q v
      have h' := h.fr L (q.skf (by omega))
      exact g_X5_findGoesOn_14 hd (h'.st S) a _ u2 u3 h'.2.1 h2 h3 (by decide) (fun _ => ⟨rfl, q, fun m m0 m1 => v m (by omega) m1⟩) (fun c => by omega) (fun c => by omega) (fun c => by omega) (fun c => by omega)
    | succ n ih =>
      intro υ u2 u3 hn h2 h3 q v
      have en : (((n + 1 : Nat) : Int) - 1) = (n : Int) := by omega
      rw [en]
      have h' := h.fr L (q.skf (by omega))
      have S3 := h'.st S
      have A' : paO σ k s a υ := fun m m0 m1 => (q.2 _ _ (by omega)).trans (hA m m0 m1)
      have hst := stay_eq (τ := υ) (a := a) (m := (n : Int)) P (by omega) A'
      have bg : ∀ i : Nat, i < 32 → bq (rd υ (a + 2) (n : Int)) i = (hasS σ i && stS σ k s sk ((cw i : Nat) : Int) (n : Int)) := fun i hi => by
        rw [(show rd υ (a + 2) (n : Int) = rd τ (a + 2) (n : Int) from q.2 _ _ (by omega))]
        exact hB _ (by omega) (by omega) i hi
      have ld : ∀ i : Nat, i < 17 → (vLeads υ a (i : Int) (n : Int) = true ↔ hasS σ i = true ∧ stS σ k s sk ((cw i : Nat) : Int) (n : Int) = true ∧ goesS σ k s sk ((n : Int) + minS σ sk ((cw i : Nat) : Int)) (rd σ 78 ((cw i : Nat) : Int)) = true) := fun i hi => by
        unfold vLeads
        rw [decide_eq_true_eq, vBit_bq (by omega), show ((i : Nat) : Int).toNat = i by omega, bg i (by omega), Bool.and_eq_true]
        constructor
        · rintro ⟨⟨z1, z2⟩, z3⟩
          have f := st_facts L P hs z2
          have row := h'.row L z1
          rw [(show rd υ (a + 5) (i : Int) = rd τ (a + 5) (i : Int) from q.2 _ _ (by omega)), hM.at L z1, row.2.1, vBit_bq (by omega), v _ (by omega) (by omega) _ (by omega), show (((rd σ 78 ((cw i : Nat) : Int)).toNat : Nat) : Int) = rd σ 78 ((cw i : Nat) : Int) by omega] at z3
          exact ⟨z1, z2, z3⟩
        · rintro ⟨z1, z2, z3⟩
          have f := st_facts L P hs z2
          have row := h'.row L z1
          refine ⟨⟨z1, z2⟩, ?_⟩
          rw [(show rd υ (a + 5) (i : Int) = rd τ (a + 5) (i : Int) from q.2 _ _ (by omega)), hM.at L z1, row.2.1, vBit_bq (by omega), v _ (by omega) (by omega) _ (by omega), show (((rd σ 78 ((cw i : Nat) : Int)).toNat : Nat) : Int) = rd σ 78 ((cw i : Nat) : Int) by omega]
          exact z3
      have inner : ∀ (r i : Nat) (x2 : Int), i + r = 17 → (∀ p : Nat, p < 10 → (bq x2 p = true ↔ (pAt σ k s (n : Int) = -1 ∧ goesS σ k s sk ((n : Int) + 1) (p : Int) = true) ∨ ∃ w : Nat, w < cw i ∧ gHit σ k s sk (n : Int) (p : Int) w)) → pR mX5_findGoesOn d 41 [(2, a), (0, (n : Int)), (0, x2), (0, (i : Int))] [] υ (fun r υ => r = none ∧ qRow τ υ (a + 4) ∧ gsO σ k s sk a υ) := by
        intro r
        induction r with
        | zero =>
          intro i x2 hi hb
          have e : i = 17 := by omega
          subst e
          refine g_X5_findGoesOn_41 hd S3 a (n : Int) x2 _ h'.2.1 (by decide) (fun _ => by omega) (fun _ => ?_) (fun c => by omega) (fun c => by omega) (fun c => by omega) (fun c => by omega) (fun c => by omega)
          rw [show (n : Int) + (-1) = (n : Int) - 1 by omega]
          refine ih _ _ _ (by omega) (show (0 : Nat) ≠ 1 by decide) (show (0 : Nat) ≠ 1 by decide) q.wr (fun m m0 m1 p hp => ?_)
          by_cases c : m = (n : Int)
          · subst c
            rw [rd_wr_same]
            exact (hb p hp).trans (goes_rec L P hs (by omega) (by omega)).symm
          · rw [rd_wr_i _ c]; exact v m (by omega) m1 p hp
        | succ r ihr =>
          intro i x2 hi hb
          have go : ∀ x2' : Int, (∀ p : Nat, p < 10 → (bq x2' p = true ↔ bq x2 p = true ∨ (hasS σ i = true ∧ gHit σ k s sk (n : Int) (p : Int) (cw i)))) → pR mX5_findGoesOn d 41 [(2, a), (0, (n : Int)), (0, x2'), (0, (i : Int) + 1)] [] υ (fun r υ => r = none ∧ qRow τ υ (a + 4) ∧ gsO σ k s sk a υ) := fun x2' hx => by
            rw [show (i : Int) + 1 = ((i + 1 : Nat) : Int) by omega]
            refine ihr (i + 1) x2' (by omega) (fun p hp => ?_)
            rw [hx p hp, hb p hp]
            have mono := cw_mono (show i ≤ i + 1 by omega)
            constructor
            · rintro ((z | ⟨w, w1, w2⟩) | ⟨z1, z2⟩)
              · exact Or.inl z
              · exact Or.inr ⟨w, by omega, w2⟩
              · have := (hasS_t L z1).1
                exact Or.inr ⟨cw i, by omega, z2⟩
            · rintro (z | ⟨w, w1, w2⟩)
              · exact Or.inl (Or.inl z)
              · by_cases c : w < cw i
                · exact Or.inl (Or.inr ⟨w, c, w2⟩)
                · cases e : hasS σ i
                  · exfalso
                    rcases cw_no l3.2 l5.2 (by omega) e with y | ⟨y, y2⟩
                    · omega
                    · have z3 : w = cw i := by omega
                      subst z3
                      have := (st_facts L P hs w2.2.1).1
                      rw [show wyS σ ((cw i : Nat) : Int) = false from y2] at this
                      cases this
                  · have y := (hasS_t L e).1
                    have z3 : w = cw i := by omega
                    subst z3
                    exact Or.inr ⟨rfl, w2⟩
          refine g_X5_findGoesOn_41 hd S3 a (n : Int) x2 _ h'.2.1 (by omega) (fun c => by omega) (fun c => by omega) (fun _ => leads_C5 S L h' (by omega) (by omega) (fun c => ?_)) (fun _ c3 => go x2 (fun p hp => ?_)) (fun _ _ => by rw [h'.s6]; exact h'.1.i6 L) (fun _ _ => by omega) (fun _ c4 => ?_)
          · rw [show ((i : Nat) : Int).toNat = i by omega, bg i (by omega), Bool.and_eq_true] at c
            have f := st_facts L P hs c.2
            rw [(show rd υ (a + 5) (i : Int) = rd τ (a + 5) (i : Int) from q.2 _ _ (by omega)), hM.at L c.1]
            omega
          · constructor
            · exact Or.inl
            · rintro (z | ⟨z1, z2⟩)
              · exact z
              · have := (ld i (by omega)).mpr ⟨z1, z2.2.1, z2.2.2⟩
                rw [c3] at this; cases this
          · obtain ⟨z1, z2, z3⟩ := (ld i (by omega)).mp c4
            have row := h'.row L z1
            rw [row.1]
            refine go _ (fun p hp => ?_)
            rw [bq_set (by omega) (by omega), Bool.or_eq_true, decide_eq_true_eq]
            constructor
            · rintro (z | z)
              · exact Or.inl z
              · exact Or.inr ⟨z1, z.symm, z2, z3⟩
            · rintro (z | z)
              · exact Or.inl z
              · exact Or.inr z.2.1.symm
      have w0 : ∀ w : Nat, w < cw 0 ↔ False := fun w => ⟨fun h => by rw [show cw 0 = 0 from rfl] at h; omega, False.elim⟩
      refine g_X5_findGoesOn_14 hd S3 a _ u2 u3 h'.2.1 h2 h3 (by omega) (fun c => by omega) (fun _ => mayStay_C S3 h'.2.1 (by omega) (fun c => ?_)) (fun _ c3 => inner 17 0 0 rfl (fun p hp => ?_)) (fun _ _ => by omega) (fun _ c4 => inner 17 0 _ rfl (fun p hp => ?_))
      · have := (pAR (n : Int)).2
        rw [A' _ (by omega) c]; unfold inR; omega
      · rw [hst] at c3
        rw [bq_0]
        constructor
        · intro z; cases z
        · rintro (z | ⟨w, z, -⟩)
          · exact absurd z.1 (of_decide_eq_false c3)
          · exact ((w0 w).mp z).elim
      · rw [hst] at c4
        rw [v _ (by omega) (by omega) p hp]
        constructor
        · intro z; exact Or.inl ⟨of_decide_eq_true c4, z⟩
        · rintro (z | ⟨w, z, -⟩)
          · exact z.2
          · exact ((w0 w).mp z).elim
  refine g_X5_findGoesOn_0 (Q1 := fun r υ => r = none ∧ υ = fl τ (a + 4) (541 : Nat) 1023) hd S2 a h.2.1 (fill_C S2 h.2.1.o4 (by decide)) (fun τ1 e1 q1 => ?_)
  rw [q1.2]
  refine outer 480 _ (9, 0) (9, 0) (Nat.le_refl _) (by decide) (by decide) ⟨rfl, fun b i hb => by rw [rd_fl, if_neg (fun z => hb z.1)]⟩ (fun m m0 m1 p hp => ?_)
  rw [rd_fl, if_pos ⟨rfl, by omega, by omega⟩]
  have g1 := goes_480 L P (k := k) (s := s) hs (p := (p : Int)) 61 m (by omega) (by omega)
  have b1 : ∀ p : Fin 10, bq 1023 p.val = true := by decide +kernel
  exact ⟨fun _ => g1, fun _ => b1 ⟨p, hp⟩⟩
/-- behind the class's reckoning of a skier -/
def reckD (σ : pS) (k s sk a : Int) (τ υ : pS) : Prop := υ.1 = τ.1 ∧ (∀ b i : Int, ¬ (a + 1 ≤ b ∧ b ≤ a + 5) → ¬ (b = a ∧ (i = 6 ∨ i = 8)) → rd υ b i = rd τ b i) ∧ KSk σ k s sk a υ ∧ rd υ a 8 = k
theorem reckon_C {d : Nat} {σ τ : pS} (hd : 5 ≤ d) (S : Stat σ) (L : RSlo σ) (P : RPas σ) {k s sk a : Int} (hc : CV σ k τ) (hI : Inst5 τ a) (ha : 141 ≤ a ∧ (a + 5 < rd σ 0 7 ∨ rd σ 0 7 + 10 < a)) (h0 : rd τ a 0 = sk) (h35 : rd τ 35 6 = k) (hp : ∀ b i : Int, 29 ≤ b → b ≤ 34 → rd τ b i = rd σ b i) (hs : 0 ≤ sk ∧ sk < 4) (hk : inR k) (hn : inR s) : pC mX5_reckon d [(2, a), (2, 35), (2, 29), (0, s)] τ (fun r υ => r = none ∧ reckD σ k s sk a τ υ) := by
  have S2 := hc.st S
  have l0 := L.1
  have l3 := L.2.2.2.1
  have l5 := L.2.2.2.2.2.1
  have e4 : rd (wr τ a 8 (rd τ 35 6)) 35 4 = rd σ 0 7 := by rw [rd_wr_n (by omega)]; exact hc.s4
  have hst : SKH σ k sk a (wr (wr τ a 8 (rd τ 35 6)) a 6 (rd (wr τ a 8 (rd τ 35 6)) 35 4)) := by
    refine ⟨⟨hc.1, fun b i b0 b1 => ?_, hc.2.2.at ?_ (fun b i b0 b1 => ?_)⟩, hI, ha, ?_, ?_, ?_, fun b i b0 b1 => ?_⟩
    · rw [rd_wr_n (by omega), rd_wr_n (by omega)]; exact hc.2.1 b i b0 b1
    · rw [rd_wr_n (by omega), rd_wr_n (by omega)]
    · rw [rd_wr_n (by omega), rd_wr_n (by omega)]
    · rw [rd_wr_n (by omega), rd_wr_n (by omega)]; exact h0
    · rw [rd_wr_same]; exact e4
    · rw [rd_wr_n (by omega), rd_wr_same]; exact h35
    · rw [rd_wr_n (by omega), rd_wr_n (by omega)]; exact hp b i b0 b1
  generalize ht : wr (wr τ a 8 (rd τ 35 6)) a 6 (rd (wr τ a 8 (rd τ 35 6)) 35 4) = τ1 at hst
  have fr0 : ∀ b i : Int, ¬ (b = a ∧ (i = 6 ∨ i = 8)) → rd τ1 b i = rd τ b i := fun b i c => by
    rw [← ht, rd_wr_n (by omega), rd_wr_n (by omega)]
  have loop : ∀ (n j : Nat) (υ : pS), j + n = 17 → qRow τ1 υ (a + 5) → (∀ i : Int, 0 ≤ i → i < (j : Int) → rd υ (a + 5) i = vMinX τ1 (rd τ1 a 6) i sk) → pR mX5_reckon d 19 [(2, a), (2, 35), (2, 29), (0, s), (0, (j : Int))] [] υ (fun r υ => r = none ∧ reckD σ k s sk a τ υ) := by
    intro n
    induction n with
    | zero =>
      intro j υ hj q v
      have e : j = 17 := by omega
      subst e
      have h' := hst.fr L (q.skf (by omega))
      have mn : mnO σ sk a υ := by
        refine ⟨fun i i0 i1 => ?_, fun w hw => ?_⟩
        · have b := hst.1.bounds L ⟨i0, i1⟩
          rw [v i i0 (by omega), hst.s6]
          have p := prod_R (a := rd τ1 (rd τ1 35 4 + 4) i) (b := sk - rd τ1 (rd τ1 35 4 + 9) i) (by omega) (by omega)
          unfold vMinX
          split <;> omega
        · have o := vOuter_of hw l3.2 l5.2
          rw [v _ o.1 (by omega), hst.s6]
          exact (hst.1.mins L hw hs).1
      refine g_X5_reckon_19 (Q1 := fun r ω => r = none ∧ qRow υ ω (a + 1) ∧ paO σ k s a ω) (Q2 := fun r ω => r = none ∧ skF a υ ω ∧ mnO σ sk a ω ∧ paO σ k s a ω ∧ bgO σ k s sk a ω) (Q3 := fun r ω => r = none ∧ skF a υ ω ∧ mnO σ sk a ω ∧ paO σ k s a ω ∧ bgO σ k s sk a ω ∧ cmO σ k s sk a ω) (Q4 := fun r ω => r = none ∧ skF a υ ω ∧ mnO σ sk a ω ∧ bgO σ k s sk a ω ∧ cmO σ k s sk a ω ∧ gsO σ k s sk a ω) hd (h'.st S) a s _ h'.2.1 (by decide) (fun _ => passes_C (Nat.le_refl 1) S L P h' hk hn) (fun _ ω1 e1 q1 => ?_) (fun _ ω1 e1 q1 ω2 e2 q2 => ?_) (fun _ ω1 e1 q1 ω2 e2 q2 ω3 e3 q3 => ?_) (fun _ ω1 e1 q1 ω2 e2 q2 ω3 e3 q3 ω4 e4' q4 => ⟨rfl, ?_⟩) (fun c => by omega) (fun c => by omega) (fun c => by omega) (fun c => by omega)
      · obtain ⟨-, q5, q6⟩ := q1
        have f1 : skF a υ ω1 := q5.skf (by omega)
        have m1 : mnO σ sk a ω1 := by
          unfold mnO
          simp only [q5.2 (a + 5) _ (by omega)]
          exact mn
        exact (begin_C (Nat.le_refl 4) S L P (h'.fr L f1) hs q6 m1).mono (fun r ω _ ⟨y1, y2, y3⟩ => ⟨y1, ⟨y2.1.trans f1.1, fun b i c => (y2.2 b i (by omega)).trans (f1.2 b i c)⟩, by
          unfold mnO
          simp only [y2.2 (a + 5) _ (by omega)]
          exact m1, fun m m0 m1 => (y2.2 _ _ (by omega)).trans (q6 m m0 m1), y3⟩)
      · obtain ⟨-, f1, m1, p1, b1⟩ := q2
        exact (reach_C (Nat.le_refl 1) S L P (h'.fr L f1) hs p1 m1 b1).mono (fun r ω _ ⟨y1, y2, y3⟩ => ⟨y1, ⟨y2.1.trans f1.1, fun b i c => (y2.2 b i (by omega)).trans (f1.2 b i c)⟩, by
          unfold mnO
          simp only [y2.2 (a + 5) _ (by omega)]
          exact m1, fun m m0 m1 => (y2.2 _ _ (by omega)).trans (p1 m m0 m1), fun m m0 m1 j hj => by rw [y2.2 _ _ (by omega)]; exact b1 m m0 m1 j hj, y3⟩)
      · obtain ⟨-, f1, m1, p1, b1, c1⟩ := q3
        exact (goes_C (Nat.le_refl 1) S L P (h'.fr L f1) hs p1 m1 b1).mono (fun r ω _ ⟨y1, y2, y3⟩ => ⟨y1, ⟨y2.1.trans f1.1, fun b i c => (y2.2 b i (by omega)).trans (f1.2 b i c)⟩, by
          unfold mnO
          simp only [y2.2 (a + 5) _ (by omega)]
          exact m1, fun m m0 m1 j hj => by rw [y2.2 _ _ (by omega)]; exact b1 m m0 m1 j hj, fun m m0 m1 p hp => by rw [y2.2 _ _ (by omega)]; exact c1 m m0 m1 p hp, y3⟩)
      · obtain ⟨-, f1, m1, b1, c1, g1⟩ := q4
        have hw := h'.fr L f1
        refine ⟨?_, fun b i c c2 => ?_, ⟨hw.2.2.2.2.1, fun w hw => m1.2 w hw, fun m w m0 m2 hw => ?_, fun m p m0 m2 p0 p1 => ⟨?_, ?_⟩⟩, hw.2.2.2.2.2.1⟩
        · rw [f1.1, q.1, ← ht]; rfl
        · rw [f1.2 b i c, q.2 b i (by omega), fr0 b i c2]
        · have o := vOuter_of hw l3.2 l5.2
          have co := cw_outer l3.2 hw
          rw [vBit_bq (by omega), b1 m m0 m2 _ (by omega)]
          have h1 : hasS σ (vOuter w).toNat = true := by
            unfold hasS
            rw [show (((vOuter w).toNat : Nat) : Int) = vOuter w by omega]
            exact o.2.2.1
          rw [h1, Bool.true_and, show ((cw (vOuter w).toNat : Nat) : Int) = w by omega]
        · rw [vBit_bq (by omega)]
          have := c1 m m0 m2 p.toNat (by omega)
          rw [show ((p.toNat : Nat) : Int) = p by omega] at this
          exact Bool.eq_iff_iff.mpr this
        · rw [vBit_bq (by omega)]
          have := g1 m m0 m2 p.toNat (by omega)
          rw [show ((p.toNat : Nat) : Int) = p by omega] at this
          exact Bool.eq_iff_iff.mpr this
    | succ n ih =>
      intro j υ hj q v
      have h' := hst.fr L (q.skf (by omega))
      have bd := h'.1.bounds L (w := (j : Int)) (by omega)
      have I6 : Inst6 υ (rd υ a 6) := by rw [h'.s6]; exact h'.1.i6 L
      refine g_X5_reckon_19 (Q1 := fun _ _ => True) (Q2 := fun _ _ => True) (Q3 := fun _ _ => True) (Q4 := fun _ _ => True) hd (h'.st S) a s _ h'.2.1 (by omega) (fun c => by omega) (fun c => by omega) (fun c => by omega) (fun c => by omega) (fun c => by omega) (fun _ => minutes_C (Nat.le_refl 1) (h'.st S) I6 (by omega) (by rw [h'.s6]; omega) (by rw [h'.s6]; omega) (by rw [h'.2.2.2.1]; exact hs)) (fun _ => I6) (fun _ => by omega) (fun _ => ?_)
      rw [show (j : Int) + 1 = ((j + 1 : Nat) : Int) by omega]
      refine ih (j + 1) _ (by omega) q.wr (fun i i0 i1 => ?_)
      by_cases c : i = (j : Int)
      · subst c
        rw [rd_wr_same, h'.2.2.2.1, h'.2.2.2.2.1, hst.2.2.2.2.1]
        have e1 : ∀ x : Int, rd υ (rd σ 0 7 + 4) x = rd τ1 (rd σ 0 7 + 4) x := fun x => q.2 _ _ (by omega)
        have e2 : ∀ x : Int, rd υ (rd σ 0 7 + 9) x = rd τ1 (rd σ 0 7 + 9) x := fun x => q.2 _ _ (by omega)
        unfold vMinX
        rw [e1, e2]
      · rw [rd_wr_i _ c]; exact v i i0 (by omega)
  refine g_X5_reckon_0 hd S2 a s hI ?_
  rw [ht]
  exact loop 17 0 τ1 rfl (qRow.rf τ1 _) (fun i i0 i1 => by omega)
