/-! the class reads a mountain's lines -/
theorem liftF_eq {K V : Nat → Int} {σ : pS} {a0 x : Int} {j : Nat} (h : ∀ m : Int, 1 ≤ m → m ≤ 10 → rd σ (a0 + m) x = 0) (m : Int) (m0 : 1 ≤ m) (m1 : m ≤ 10) : liftF K V σ a0 x j m = liftV K V j m := by
  have hm : m = 1 ∨ m = 2 ∨ m = 3 ∨ m = 4 ∨ m = 5 ∨ m = 6 ∨ m = 7 ∨ m = 8 ∨ m = 9 ∨ m = 10 := by omega
  rcases hm with rfl | rfl | rfl | rfl | rfl | rfl | rfl | rfl | rfl | rfl
  iterate 8 exact rfl
  · exact h 9 (by decide) (by decide)
  · exact h 10 (by decide) (by decide)
theorem runF_eq {V : Nat → Int} {σ : pS} {a0 x : Int} {j : Nat} (h : ∀ m : Int, 1 ≤ m → m ≤ 10 → rd σ (a0 + m) x = 0) (m : Int) (m0 : 1 ≤ m) (m1 : m ≤ 10) : runF V σ a0 x j m = runV V j m := by
  have hm : m = 1 ∨ m = 2 ∨ m = 3 ∨ m = 4 ∨ m = 5 ∨ m = 6 ∨ m = 7 ∨ m = 8 ∨ m = 9 ∨ m = 10 := by omega
  rcases hm with rfl | rfl | rfl | rfl | rfl | rfl | rfl | rfl | rfl | rfl
  · exact rfl
  · exact rfl
  · exact rfl
  · exact rfl
  · exact h 5 (by decide) (by decide)
  · exact h 6 (by decide) (by decide)
  · exact rfl
  · exact h 8 (by decide) (by decide)
  · exact rfl
  · exact rfl
def lnFr (a0 : Int) (σ τ : pS) : Prop := τ.1 = σ.1 ∧ ∀ a i : Int, ¬ (a = 2 ∧ 4 ≤ i ∧ i ≤ 6) → ¬ (a0 ≤ a ∧ a ≤ a0 + 10) → rd τ a i = rd σ a i
def lineQ (K P V : Nat → Int) (c : Nat) (a0 : Int) (s : mdS) (σ : pS) (r : Option pV) (τ : pS) : Prop := r = some (0, b2i (decide (lineO K P V s = none))) ∧ cSt K P V c (lineO K P V s) (mAt (lineN K V s)) τ ∧ lnFr a0 σ τ ∧ rd τ a0 2 = rd σ a0 2 ∧ (lineO K P V s = none → cOB K V a0 (lineN K V s) τ)
theorem readLine_C {K P V : Nat → Int} {c d : Nat} {σ : pS} {s : mdS} (hd : 4 ≤ d) (S : Stat σ) (R : tkR K V c) (H : cSt K P V c none (mAt s) σ) (jc : mAt s < c) {a0 : Int} (ha : 141 ≤ a0) (I : Inst6 σ a0) (M : mInv K P V c s) (B : cOB K V a0 s σ) : pC mX6_readLine d [(2, a0), (2, 2)] σ (lineQ K P V c a0 s σ) := by
  have kS := H.kind R
  have eK := (kS.1 rfl).1
  have i1 := M.1
  have i2 := M.2.1
  have b0 := B.1
  have b1 := B.2.1
  have b4 := B.2.2.2.1
  have b4R : rd σ a0 4 = 0 ∨ rd σ a0 4 = 1 := by rw [b4]; cases mTd s; exact Or.inl rfl; exact Or.inr rfl
  have nt : K (mAt s + 1) = 18 → nmF σ a0 (V (mAt s + 1)) = ntS V s (V (mAt s + 1)) := fun z => by
    by_cases y : mAt s + 1 < c
    · exact B.nt R M ((R.2.2 _ y).2.2.2 (by omega)).1
    · have : mAt s + 1 = c := by omega
      rw [this, R.2.1] at z
      exact absurd z (by decide)
  have fail : lineO K P V s = some (if K (mAt s) = 22 then 1 else 2, P (mAt s)) → pC mX9_fail 0 [(2, 2), (0, 2)] σ (lineQ K P V c a0 s σ) := fun e => (fail_C S R H (by decide) (mAt (lineN K V s))).mono fun r τ _ q => by
    unfold lineQ
    rw [e]
    exact ⟨q.1, q.2.2, ⟨q.2.1.1, fun a i y _ => q.2.1.2 a i y⟩, q.2.1.2 _ _ (by omega), fun z => (by cases z)⟩
  have home : K (mAt s) = 2 → mTd s = false → pC mX6_readHome 2 [(2, a0), (2, 2)] σ (lineQ K P V c a0 s σ) := fun k2 td => (readHome_C (Nat.le_refl 2) S R H jc ha I).mono fun r τ _ q => by
    have e : lineO K P V s = homeO K P (mAt s) := by
      unfold lineO
      rw [if_neg (fun z => by omega), if_neg (fun z => by omega), if_pos ⟨k2, td⟩]
    have en : lineN K V s = ((mL s, mR s), mN s + 1, (true, V (mAt s + 1)), mB s, mAt s + 3) := (if_neg (by omega)).trans (if_neg (by omega))
    unfold lineQ
    rw [e, en]
    refine ⟨q.1, q.2.1, ⟨q.2.2.1.1, fun a i y1 y2 => q.2.2.1.2 a i y1 (by omega)⟩, q.2.2.1.2 _ _ (by omega) (by omega), fun z => ⟨?_, ?_, (q.2.2.2 z).1, (q.2.2.2 z).2, fun w hw m m0 m1 => ?_⟩⟩
    · exact (q.2.2.1.2 _ _ (by omega) (by omega)).trans b0
    · exact (q.2.2.1.2 _ _ (by omega) (by omega)).trans b1
    · exact (q.2.2.1.2 _ _ (by omega) (by omega)).trans (B.2.2.2.2 w hw m m0 m1)
  have zer : ∀ w : Nat, w < 17 → ¬ (w < mL s) → ¬ (10 ≤ w ∧ w < 10 + mR s) → ∀ m : Int, 1 ≤ m → m ≤ 10 → rd σ (a0 + m) w = 0 := fun w hw z1 z2 m m0 m1 => by
    rw [B.2.2.2.2 w hw m m0 m1]
    unfold wayV
    rw [if_neg z1, if_neg z2]
  have lift : K (mAt s) = 0 → mL s < 6 → pC mX6_readLift 3 [(2, a0), (2, 2), (0, (rd σ a0 0))] σ (lineQ K P V c a0 s σ) := fun k0 l6 => (readLift_C (Nat.le_refl 3) S R H jc ha I (by omega) (fun i hi => B.nR R M i hi)).mono fun r τ _ q => by
    have e : lineO K P V s = liftO K P V (nmF σ a0 (V (mAt s + 1))) (mAt s) := by
      unfold lineO
      rw [if_pos ⟨k0, l6⟩]
      exact liftO_nt (fun z => (nt z).symm)
    have en : lineN K V s = ((mL s + 1, mR s), mN s + 1, (mTd s, mHm s), (fun w => if w = mL s then mAt s else mB s w), lsc K (mAt s) + 1) := if_pos k0
    unfold lineQ
    rw [e, en]
    refine ⟨q.1, q.2.1, ⟨q.2.2.1.1, fun a i y1 y2 => q.2.2.1.2 a i y1 (by omega) (by omega)⟩, q.2.2.1.2 _ _ (by omega) (by omega) (by omega), fun z => ⟨?_, ?_, ?_, ?_, fun w hw m m0 m1 => ?_⟩⟩
    · rw [(q.2.2.2 z).2 0, if_pos rfl, b0]; rfl
    · rw [(q.2.2.2 z).2 1, if_neg (by decide)]; exact b1
    · rw [(q.2.2.2 z).2 3, if_neg (by decide)]; exact B.2.2.1
    · rw [(q.2.2.2 z).2 4, if_neg (by decide)]; exact b4
    · by_cases y : w = mL s
      · subst y
        have ev : wayV K V ((mL s + 1, mR s), mN s + 1, (mTd s, mHm s), (fun w => if w = mL s then mAt s else mB s w), lsc K (mAt s) + 1) (mL s) m = liftV K V (mAt s) m := by
          unfold wayV
          show (if mL s < mL s + 1 then liftV K V (if mL s = mL s then mAt s else mB s (mL s)) m else if 10 ≤ mL s ∧ mL s < 10 + mR s then runV V (if mL s = mL s then mAt s else mB s (mL s)) m else 0) = _
          rw [if_pos (show mL s < mL s + 1 by omega), if_pos rfl]
        rw [ev, ← liftF_eq (fun m m0 m1 => zer (mL s) hw (by omega) (by omega) m m0 m1) m m0 m1, ← b0]
        exact (q.2.2.2 z).1 m m0 m1
      · have ev : wayV K V ((mL s + 1, mR s), mN s + 1, (mTd s, mHm s), (fun w => if w = mL s then mAt s else mB s w), lsc K (mAt s) + 1) w m = wayV K V s w m := by
          unfold wayV
          show (if w < mL s + 1 then liftV K V (if w = mL s then mAt s else mB s w) m else if 10 ≤ w ∧ w < 10 + mR s then runV V (if w = mL s then mAt s else mB s w) m else 0) = _
          rw [if_neg y]
          by_cases y2 : w < mL s
          · rw [if_pos (by omega), if_pos y2]
          · rw [if_neg (by omega), if_neg y2]
        rw [ev, ← B.2.2.2.2 w hw m m0 m1]
        exact q.2.2.1.2 _ _ (by omega) (by omega) (by omega)
  have run : K (mAt s) = 1 → mR s < 7 → pC mX6_readRun 3 [(2, a0), (2, 2), (0, (10 + (rd σ a0 1)))] σ (lineQ K P V c a0 s σ) := fun k1 r7 => (readRun_C (Nat.le_refl 3) S R H jc ha I (by omega) (fun i hi => B.nR R M i hi)).mono fun r τ _ q => by
    have e : lineO K P V s = runO K P V (nmF σ a0 (V (mAt s + 1))) (mAt s) := by
      unfold lineO
      rw [if_neg (fun z => by omega), if_pos ⟨k1, r7⟩]
      exact runO_nt (fun z => (nt z).symm)
    have en : lineN K V s = ((mL s, mR s + 1), mN s + 1, (mTd s, mHm s), (fun w => if w = 10 + mR s then mAt s else mB s w), mAt s + 11) := (if_neg (by omega)).trans (if_pos k1)
    unfold lineQ
    rw [e, en]
    refine ⟨q.1, q.2.1, ⟨q.2.2.1.1, fun a i y1 y2 => q.2.2.1.2 a i y1 (by omega) (by omega)⟩, q.2.2.1.2 _ _ (by omega) (by omega) (by omega), fun z => ⟨?_, ?_, ?_, ?_, fun w hw m m0 m1 => ?_⟩⟩
    · rw [(q.2.2.2 z).2 0, if_neg (by decide)]; exact b0
    · rw [(q.2.2.2 z).2 1, if_pos rfl, b1]; rfl
    · rw [(q.2.2.2 z).2 3, if_neg (by decide)]; exact B.2.2.1
    · rw [(q.2.2.2 z).2 4, if_neg (by decide)]; exact b4
    · by_cases y : w = 10 + mR s
      · subst y
        have ev : wayV K V ((mL s, mR s + 1), mN s + 1, (mTd s, mHm s), (fun w => if w = 10 + mR s then mAt s else mB s w), mAt s + 11) (10 + mR s) m = runV V (mAt s) m := by
          unfold wayV
          show (if 10 + mR s < mL s then liftV K V (if 10 + mR s = 10 + mR s then mAt s else mB s (10 + mR s)) m else if 10 ≤ 10 + mR s ∧ 10 + mR s < 10 + (mR s + 1) then runV V (if 10 + mR s = 10 + mR s then mAt s else mB s (10 + mR s)) m else 0) = _
          rw [if_neg (by omega), if_pos (by omega), if_pos rfl]
        have ex : 10 + rd σ a0 1 = ((10 + mR s : Nat) : Int) := by omega
        rw [ev, ← runF_eq (fun m m0 m1 => zer (10 + mR s) hw (by omega) (by omega) m m0 m1) m m0 m1, ← ex]
        exact (q.2.2.2 z).1 m m0 m1
      · have ev : wayV K V ((mL s, mR s + 1), mN s + 1, (mTd s, mHm s), (fun w => if w = 10 + mR s then mAt s else mB s w), mAt s + 11) w m = wayV K V s w m := by
          unfold wayV
          show (if w < mL s then liftV K V (if w = 10 + mR s then mAt s else mB s w) m else if 10 ≤ w ∧ w < 10 + (mR s + 1) then runV V (if w = 10 + mR s then mAt s else mB s w) m else 0) = _
          rw [if_neg y]
          by_cases y2 : w < mL s
          · rw [if_pos y2, if_pos y2]
          · rw [if_neg y2, if_neg y2]
            by_cases y3 : 10 ≤ w ∧ w < 10 + mR s
            · rw [if_pos (by omega), if_pos y3]
            · rw [if_neg (by omega), if_neg y3]
        rw [ev, ← B.2.2.2.2 w hw m m0 m1]
        exact q.2.2.1.2 _ _ (by omega) (by omega) (by omega)
  have lo : ∀ z1 : ¬ (K (mAt s) = 0 ∧ mL s < 6), ∀ z2 : ¬ (K (mAt s) = 1 ∧ mR s < 7), ∀ z3 : ¬ (K (mAt s) = 2 ∧ mTd s = false), lineO K P V s = some (if K (mAt s) = 22 then 1 else 2, P (mAt s)) := fun z1 z2 z3 => by
    unfold lineO
    rw [if_neg z1, if_neg z2, if_neg z3]
  have tdT : rd σ a0 4 ≠ 0 → mTd s = true := fun h => by
    rw [b4] at h
    cases e : mTd s with
    | true => rfl
    | false => rw [e] at h; exact absurd rfl h
  have tdF : rd σ a0 4 = 0 → mTd s = false := fun h => by
    rw [b4] at h
    cases e : mTd s with
    | false => rfl
    | true => rw [e] at h; exact absurd h (by decide)
  exact g_X6_readLine_0 (Q1 := lineQ K P V c a0 s σ) (Q2 := lineQ K P V c a0 s σ) (Q3 := lineQ K P V c a0 s σ) (Q4 := lineQ K P V c a0 s σ) (Q5 := lineQ K P V c a0 s σ) (Q6 := lineQ K P V c a0 s σ) (Q7 := lineQ K P V c a0 s σ) (Q8 := lineQ K P V c a0 s σ) (Q9 := lineQ K P V c a0 s σ) (Q10 := lineQ K P V c a0 s σ) (Q11 := lineQ K P V c a0 s σ) (Q12 := lineQ K P V c a0 s σ) (Q13 := lineQ K P V c a0 s σ) (Q14 := lineQ K P V c a0 s σ) (Q15 := lineQ K P V c a0 s σ) hd S a0 I (kind_C S R H) (by unfold inR; omega) (fun c1 c3 c5 => fail (lo (fun z => by omega) (fun z => by omega) (fun z => by omega))) (fun _ _ _ _ _ _ _ q => q) (fun _ _ _ => by unfold inR; omega) (fun c1 c3 c6 c7 => fail (lo (fun z => by omega) (fun z => by omega) (fun z => by have := tdT c7; rw [z.2] at this; cases this))) (fun _ _ _ _ _ _ _ _ q => q) (fun c1 c3 c6 c8 => home (by omega) (tdF c8)) (fun _ _ _ _ _ _ _ _ q => q) (fun _ _ => by unfold inR; omega) (fun c1 c4 c9 c11 => fail (lo (fun z => by omega) (fun z => by omega) (fun z => by omega))) (fun _ _ _ _ _ _ _ _ q => q) (fun _ c4 _ c12 => by omega) (fun _ c4 _ c12 _ => absurd (c4.symm.trans c12) (by decide)) (fun _ _ _ _ _ _ _ _ _ q => q) (fun _ c4 _ c12 _ => absurd (c4.symm.trans c12) (by decide)) (fun _ _ _ _ _ _ _ _ _ q => q) (fun _ c4 c10 => run (by omega) (by omega)) (fun _ _ _ _ _ _ _ q => q) (fun _ => by unfold inR; omega) (fun c2 c15 c17 c19 => fail (lo (fun z => by omega) (fun z => by omega) (fun z => by omega))) (fun _ _ _ _ _ _ _ _ q => q) (fun c2 _ _ c20 => absurd (c2.symm.trans c20) (by decide)) (fun c2 _ _ c20 _ => absurd (c2.symm.trans c20) (by decide)) (fun _ _ _ _ _ _ _ _ _ q => q) (fun c2 _ _ c20 _ => absurd (c2.symm.trans c20) (by decide)) (fun _ _ _ _ _ _ _ _ _ q => q) (fun c2 _ c18 => absurd (c2.symm.trans c18) (by decide)) (fun c2 _ c18 _ _ => absurd (c2.symm.trans c18) (by decide)) (fun _ _ _ _ _ _ _ _ _ q => q) (fun c2 _ c18 _ _ => absurd (c2.symm.trans c18) (by decide)) (fun c2 _ c18 _ _ _ => absurd (c2.symm.trans c18) (by decide)) (fun _ _ _ _ _ _ _ _ _ _ q => q) (fun c2 _ c18 _ _ _ => absurd (c2.symm.trans c18) (by decide)) (fun _ _ _ _ _ _ _ _ _ _ q => q) (fun c2 _ c18 _ => absurd (c2.symm.trans c18) (by decide)) (fun _ _ _ _ _ _ _ _ q => q) (fun c2 c16 => lift (by omega) (by omega)) (fun _ _ _ _ _ _ q => q)
def runs (K P V : Nat → Int) : Nat → mdS → mdS → Prop
  | 0, s, t => s = t
  | n + 1, s, t => K (mAt s) ≠ 21 ∧ lineO K P V s = none ∧ runs K P V n (lineN K V s) t
def rdQ (K P V : Nat → Int) (c : Nat) (a0 : Int) (s : mdS) (σ : pS) (r : Option pV) (τ : pS) : Prop := ∃ n t, runs K P V n s t ∧ mInv K P V c t ∧ lnFr a0 σ τ ∧ ((K (mAt t) = 21 ∧ r = some (0, 1) ∧ cSt K P V c none (mAt t) τ ∧ cOB K V a0 t τ ∧ rd τ a0 2 = mN t) ∨ (K (mAt t) ≠ 21 ∧ ∃ x, lineO K P V t = some x ∧ r = some (0, 0) ∧ cSt K P V c (some x) 0 τ))
theorem lnFr.tr {a0 : Int} {σ τ υ : pS} (h : lnFr a0 σ τ) (g : lnFr a0 τ υ) : lnFr a0 σ υ := ⟨g.1.trans h.1, fun a i q1 q2 => (g.2 a i q1 q2).trans (h.2 a i q1 q2)⟩
theorem read_C {K P V : Nat → Int} {c d : Nat} {σ : pS} {s : mdS} (hd : 5 ≤ d) (S : Stat σ) (R : tkR K V c) (H : cSt K P V c none (mAt s) σ) {a0 : Int} (ha : 141 ≤ a0) (I : Inst6 σ a0) (M : mInv K P V c s) (B : cOB K V a0 s σ) (h2 : rd σ a0 2 = mN s) (n0 : mN s = 0) : pC mX6_read d [(2, a0), (2, 2)] σ (rdQ K P V c a0 s σ) := by
  have c14 := R.1
  have loop : ∀ (m : Nat) (s : mdS) (φ : pS), c - mAt s ≤ m → lnFr a0 σ φ → cSt K P V c none (mAt s) φ → mInv K P V c s → cOB K V a0 s φ → rd φ a0 2 = mN s → pR mX6_read d 2 [(2, a0), (2, 2), (0, (mN s : Int))] [] φ (rdQ K P V c a0 s σ) := fun m => by
    induction m with
    | zero =>
      intro s φ hm F H M B h2
      have S2 := S.eq F.1
      have I2 : Inst6 φ a0 := I.eq F.1
      have kS := H.kind R
      have eK := (kS.1 rfl).1
      have ac := M.2.2.2.2.1
      have nA := M.2.2.2.1
      have k21 : K (mAt s) = 21 := by rw [show mAt s = c by omega]; exact R.2.1
      exact g_X6_read_2 (Q1 := fun _ _ => True) hd S2 a0 (mN s : Int) I2 (by unfold inR; omega) (fun c1 => by omega) (fun _ => kind_C S2 R H) (fun _ => by unfold inR; omega) (fun _ _ => ⟨0, s, rfl, M, F, Or.inl ⟨k21, rfl, H, B, h2⟩⟩) (fun _ c4 => absurd (eK.trans k21) c4) (fun _ c4 => absurd (eK.trans k21) c4) (fun _ c4 => absurd (eK.trans k21) c4) (fun _ c4 => absurd (eK.trans k21) c4)
    | succ m ih =>
      intro s φ hm F H M B h2
      have S2 := S.eq F.1
      have I2 : Inst6 φ a0 := I.eq F.1
      have kS := H.kind R
      have eK := (kS.1 rfl).1
      have ac := M.2.2.2.2.1
      have nA := M.2.2.2.1
      refine g_X6_read_2 (Q1 := lineQ K P V c a0 s φ) hd S2 a0 (mN s : Int) I2 (by unfold inR; omega) (fun c1 => by omega) (fun _ => kind_C S2 R H) (fun _ => by unfold inR; omega) (fun _ c3 => ⟨0, s, rfl, M, F, Or.inl ⟨eK.symm.trans c3, rfl, H, B, h2⟩⟩) (fun _ c4 => readLine_C (Nat.le_refl 4) S2 R H (R.lt ac (by rw [← eK]; exact c4)) ha I2 M B) (fun _ _ v2 b2 _ _ _ => by unfold inR; omega) (fun _ c4 v2 b2 τ2 _ q2 c5 => ?_) (fun _ c4 v2 b2 τ2 _ q2 c6 => ?_)
      · have lt : mAt s < c := R.lt ac (by rw [← eK]; exact c4)
        have o : lineO K P V s = none := by
          have := so_inj q2.1
          by_cases z : lineO K P V s = none
          · exact z
          · rw [decide_eq_false z] at this; exact absurd this c5
        have N := lineN_inv R M lt o
        have q := q2
        rw [lineQ, o] at q
        have B2 := q.2.2.2.2 rfl
        have go := ih (lineN K V s) (wr τ2 a0 2 ((rd τ2 a0 2) + 1)) (by omega) ((F.tr q.2.2.1).tr ⟨rfl, fun a i _ y => rd_wr_n (by omega)⟩) (q.2.1.wr (by omega)) N.1 ⟨by rw [rd_wr_n (by omega)]; exact B2.1, by rw [rd_wr_n (by omega)]; exact B2.2.1, by rw [rd_wr_n (by omega)]; exact B2.2.2.1, by rw [rd_wr_n (by omega)]; exact B2.2.2.2.1, fun w hw m m0 m1 => by rw [rd_wr_n (by omega)]; exact B2.2.2.2.2 w hw m m0 m1⟩ (by rw [rd_wr_same, q.2.2.2.1, h2, N.2.2]; omega)
        rw [show ((mN (lineN K V s) : Nat) : Int) = (mN s : Int) + 1 by rw [N.2.2]; omega] at go
        exact go.mono fun r τ _ ⟨n, t, r1, r2⟩ => ⟨n + 1, t, ⟨by rw [← eK]; exact c4, o, r1⟩, r2⟩
      · have lt : mAt s < c := R.lt ac (by rw [← eK]; exact c4)
        cases o : lineO K P V s with
        | none =>
          have := so_inj q2.1
          rw [decide_eq_true o] at this
          exact absurd (this.symm.trans c6) (by decide)
        | some x =>
          have q := q2
          rw [lineQ, o] at q
          exact ⟨0, s, rfl, M, F.tr q.2.2.1, Or.inr ⟨by rw [← eK]; exact c4, x, o, rfl, q.2.1.to rfl (fun z => (by cases z))⟩⟩
  have := loop (c - mAt s) s σ (Nat.le_refl _) ⟨rfl, fun _ _ _ _ => rfl⟩ H M B h2
  rw [n0] at this
  exact g_X6_read_0 hd S a0 I this
