/-! the lines of a law: what they give; the class reads them -/
def segO (y : Bool) (A B : List (Int × Int)) (v : (Nat × Nat) × (Nat × Nat)) : Prop := ∃ (X Y pA sA pB sB : List (Int × Int)) (du dj : Nat), A = pA ++ X ++ sA ∧ v.1 = (pA.length, pA.length + X.length) ∧ B = pB ++ Y ++ sB ∧ v.2 = (pB.length, pB.length + Y.length) ∧ sgO y true X Y du dj ∧ du ≤ 40 ∧ dj ≤ 600
theorem segO.app {y : Bool} {A B A' B' : List (Int × Int)} {v : (Nat × Nat) × (Nat × Nat)} (h : segO y A B v) : segO y (A ++ A') (B ++ B') v := by
  obtain ⟨X, Y, pA, sA, pB, sB, du, dj, h1, h2, h3, h4, h5⟩ := h
  exact ⟨X, Y, pA, sA ++ A', pB, sB ++ B', du, dj, by rw [h1, List.append_assoc], h2, by rw [h3, List.append_assoc], h4, h5⟩
theorem segO.le {y : Bool} {A B : List (Int × Int)} {v : (Nat × Nat) × (Nat × Nat)} (h : segO y A B v) : v.1.1 ≤ v.1.2 ∧ v.1.2 ≤ A.length ∧ v.2.1 ≤ v.2.2 ∧ v.2.2 ≤ B.length := by
  obtain ⟨X, Y, pA, sA, pB, sB, du, dj, h1, h2, h3, h4, h5⟩ := h
  rw [h1, h2, h3, h4]
  simp only [List.length_append]
  omega
def lsI (c : Nat) (s : lst) : Prop := lwI s.1 ∧ (qA s.1).length ≤ qJ s.1 ∧ qJ s.1 ≤ c ∧ s.2.2 ≤ qJ s.1 ∧ ∀ y v, s.2.1 y = some v → segO y (qA s.1) (qB s.1) v
def lruns (K P V : Nat → Int) (n : Nat) : Nat → lst → lst → Prop
  | 0, s, t => s = t
  | k + 1, s, t => K (qJ s.1) ≠ 21 ∧ ∃ s1, lnF K P V n s = .inr s1 ∧ lruns K P V n k s1 t
theorem lnF_ok {K P V : Nat → Int} {n : Nat} {s s' : lst} (h : lnF K P V n s = .inr s') : K (qJ s.1) = 10 ∧ (K (qJ s.1 + 1) = 0 ∨ K (qJ s.1 + 1) = 1) ∧ K (qJ s.1 + 2) = 11 ∧ s.2.1 (decide (K (qJ s.1 + 1) = 1)) = none ∧ ∃ q', eiF K P V (decide (K (qJ s.1 + 1) = 1)) n 9 0 (qNx (qNx (qNx s.1))) = .inr q' ∧ K (qJ q') = 59 ∧ s' = (qNx q', (fun y => if y = decide (K (qJ s.1 + 1) = 1) then some (((qA s.1).length, (qA q').length), ((qB s.1).length, (qB q').length)) else s.2.1 y), s.2.2 + 1) := by
  unfold lnF at h
  split at h
  · cases h
  · rename_i h1
    split at h
    · cases h
    · rename_i h2
      split at h
      · cases h
      · rename_i h3
        split at h
        · cases h
        · rename_i q' e
          obtain ⟨q2, e1, e2⟩ := lbd_ok (r := eiF K P V (decide (K (qJ s.1 + 1) = 1)) n 9 0 (qNx (qNx (qNx s.1)))) e
          split at e2
          · rename_i k59
            have e2 := Sum.inr.inj e2
            refine ⟨?_, ?_, ?_, ?_, q2, e1, k59, ?_⟩
            · by_cases z : K (qJ s.1) = 10
              · exact z
              · exact absurd z h1
            · by_cases z : K (qJ s.1 + 1) = 0 ∨ K (qJ s.1 + 1) = 1
              · exact z
              · exact absurd (Or.inl z) h2
            · by_cases z : K (qJ s.1 + 2) = 11
              · exact z
              · exact absurd z h3
            · cases z : s.2.1 (decide (K (qJ s.1 + 1) = 1)) with
              | none => rfl
              | some v => exact absurd (Or.inr (by rw [z]; intro w; cases w)) h2
            · rw [← Sum.inr.inj h, ← e2]
          · cases e2
theorem lnF_inv {K P V : Nat → Int} {c n : Nat} {s s' : lst} (R : tkR K V c) (hc : c ≤ 500) (I : lsI c s) (h : lnF K P V n s = .inr s') : lsI c s' ∧ qJ s.1 < qJ s'.1 ∧ s'.2.2 = s.2.2 + 1 := by
  obtain ⟨k10, k01, k11, fy, q', e, k59, es⟩ := lnF_ok h
  obtain ⟨i1, i2, i3, i4, i5⟩ := I
  have j1 := R.lt i3 (by omega)
  have j2 := R.lt (i := qJ s.1 + 1) (by omega) (by omega)
  have j3 := R.lt (i := qJ s.1 + 2) (by omega) (by omega)
  obtain ⟨x, xl⟩ := eiF_ok R n 9 0 (qNx (qNx (qNx s.1))) q' (show qJ s.1 + 1 + 1 + 1 ≤ c by omega) e
  have i6 := x.inv i1.nx.nx.nx
  obtain ⟨X, Y, h1, h2, h3, h4, h5, h6, h7⟩ := x
  have h1 : qA q' = qA s.1 ++ X := h1
  have h2 : qB q' = qB s.1 ++ Y := h2
  have h3 : qU s.1 ≤ qU q' := h3
  have h5 : qJ s.1 + 1 + 1 + 1 ≤ qJ q' := h5
  have h7 : sgO (decide (K (qJ s.1 + 1) = 1)) true X Y (qU q' - qU s.1) (qJ q' - (qJ s.1 + 1 + 1 + 1)) := h7
  have lX := h7.2.2.2.2.2.1
  have jq := R.lt h6 (by omega)
  subst es
  refine ⟨⟨i6.nx, ?_, ?_, ?_, fun y v ev => ?_⟩, ?_, rfl⟩
  · show (qA q').length ≤ qJ q' + 1
    rw [h1, List.length_append]; omega
  · show qJ q' + 1 ≤ c
    omega
  · show s.2.2 + 1 ≤ qJ q' + 1
    omega
  · have ev : (if y = decide (K (qJ s.1 + 1) = 1) then some (((qA s.1).length, (qA q').length), ((qB s.1).length, (qB q').length)) else s.2.1 y) = some v := ev
    show segO y (qA q') (qB q') v
    by_cases z : y = decide (K (qJ s.1 + 1) = 1)
    · rw [if_pos z] at ev
      have ev := Option.some.inj ev
      refine ⟨X, Y, qA s.1, [], qB s.1, [], _, _, by rw [List.append_nil]; exact h1, ?_, by rw [List.append_nil]; exact h2, ?_, by rw [z]; exact h7, by omega, by omega⟩
      · rw [← ev]
        show ((qA s.1).length, (qA q').length) = _
        rw [h1, List.length_append]
      · rw [← ev]
        show ((qB s.1).length, (qB q').length) = _
        rw [h2, List.length_append]
    · rw [if_neg z] at ev
      rw [h1, h2]
      exact (i5 y v ev).app
  · show qJ s.1 < qJ q' + 1
    omega
def lhF (l : Int) (σ τ : pS) : Prop := τ.1 = σ.1 ∧ ∀ a i : Int, ¬ (a = 2 ∧ 4 ≤ i ∧ i ≤ 6) → ¬ (a = l ∧ 2 ≤ i ∧ i ≤ 5) → ¬ (l + 1 ≤ a ∧ a ≤ l + 5 ∧ a ≠ l + 3) → rd τ a i = rd σ a i
theorem lhF.tr {l : Int} {σ τ υ : pS} (h : lhF l σ τ) (g : lhF l τ υ) : lhF l σ υ := ⟨g.1.trans h.1, fun a i q1 q2 q3 => (g.2 a i q1 q2 q3).trans (h.2 a i q1 q2 q3)⟩
theorem lgF.h {l : Int} {σ τ : pS} (h : lgF l σ τ) : lhF l σ τ := ⟨h.1, fun a i q1 q2 q3 => h.2 a i q1 (by omega) q3⟩
def lrdQ (K P V : Nat → Int) (c : Nat) (l : Int) (n : Nat) (s : lst) (σ : pS) (r : Option pV) (τ : pS) : Prop := ∃ k t, lruns K P V n k s t ∧ lsI c t ∧ lhF l σ τ ∧ ((K (qJ t.1) = 21 ∧ r = some (0, 1) ∧ lcS K P V c l t τ ∧ rd τ l 4 = (t.2.2 : Int)) ∨ (K (qJ t.1) ≠ 21 ∧ ∃ x, lnF K P V n t = .inl x ∧ r = some (0, 0) ∧ cSt K P V c (some x) 0 τ))
theorem lcS.w4 {K P V : Nat → Int} {c : Nat} {l v : Int} {s : lst} {τ : pS} (h : lcS K P V c l s τ) (hl : 141 ≤ l) : lcS K P V c l s (wr τ l 4 v) := by
  obtain ⟨⟨rn0, h1, h2, h3, h4, h5⟩, hf⟩ := h
  refine ⟨⟨rn0, h1.wr (by omega), by rw [rd_wr_n (by omega)]; exact h2, by rw [rd_wr_n (by omega)]; exact h3, by rw [rd_wr_n (by omega)]; exact h4, fun i p e => by rw [rd_wr_n (by omega), rd_wr_n (by omega)]; exact h5 i p e⟩, fun y => ?_⟩
  rw [rd_wr_n (by omega), rd_wr_n (by omega)]
  exact hf y
theorem lawRead_C {K P V : Nat → Int} {c m n d : Nat} {l : Int} {s : lst} {σ : pS} (hd : 62 ≤ d) (S : Stat σ) (I : Inst2 σ l m) (R : tkR K V c) (hc : c ≤ 500) (hn : c < n) (hl : 141 ≤ l) (hm : c < m ∧ m < 100000) (Is : lsI c s) (H : lcS K P V c l s σ) (h4 : rd σ l 4 = (s.2.2 : Int)) (n0 : s.2.2 = 0) : pC mX2_read d [(2, l), (2, 2)] σ (lrdQ K P V c l n s σ) := by
  have loop : ∀ (f : Nat) (s : lst) (φ : pS), c - qJ s.1 ≤ f → lhF l σ φ → lsI c s → lcS K P V c l s φ → rd φ l 4 = (s.2.2 : Int) → pR mX2_read d 2 [(2, l), (2, 2), (0, (s.2.2 : Int))] [] φ (lrdQ K P V c l n s σ) := fun f => by
    induction f with
    | zero =>
      intro s φ hf F Is H h4
      obtain ⟨⟨rn0, Hs⟩, -⟩ := id H
      obtain ⟨eK, jc, rK⟩ := Hs.k R
      have n5 := Is.2.2.2.1
      have k21 : K (qJ s.1) = 21 := by rw [show qJ s.1 = c by omega]; exact R.2.1
      exact g_X2_read_2 (Q1 := fun _ _ => True) hd (S.eq F.1) l (s.2.2 : Int) (I.eq F.1) (by unfold inR; omega) (fun c1 => by omega) (fun _ => kind_C (S.eq F.1) R Hs.1) (fun _ => rK) (fun _ c3 => ⟨0, s, rfl, Is, F, Or.inl ⟨k21, rfl, H, h4⟩⟩) (fun _ c4 => absurd (eK.trans k21) c4) (fun _ c4 => absurd (eK.trans k21) c4) (fun _ c4 => absurd (eK.trans k21) c4) (fun _ c4 => absurd (eK.trans k21) c4)
    | succ f ih =>
      intro s φ hf F Is H h4
      obtain ⟨⟨rn0, Hs⟩, -⟩ := id H
      obtain ⟨eK, jc, rK⟩ := Hs.k R
      have n5 := Is.2.2.2.1
      have Sφ := S.eq F.1
      have Iφ := I.eq F.1
      refine g_X2_read_2 (Q1 := llQ K P V c l (lnF K P V n s) φ) hd Sφ l (s.2.2 : Int) Iφ (by unfold inR; omega) (fun c1 => by omega) (fun _ => kind_C Sφ R Hs.1) (fun _ => rK) (fun _ c3 => ⟨0, s, rfl, Is, F, Or.inl ⟨eK.symm.trans c3, rfl, H, h4⟩⟩) (fun _ _ => lawLine_C (Nat.le_refl _) Sφ Iφ R hc hn hl hm Is.1 (fun y v e => by have := (Is.2.2.2.2 y v e).le; have := Is.1.1; omega) H) (fun _ _ v b _ _ _ => by unfold inR; omega) (fun _ c4 v b τ e z c5 => ?_) (fun _ c4 v b τ e z c6 => ?_)
      · have k21 : K (qJ s.1) ≠ 21 := fun y => c4 (eK.trans y)
        cases hX : lnF K P V n s with
        | inl x => exact absurd (so_inj (z.2.1 x hX).1) c5
        | inr s1 =>
          obtain ⟨z1, z2, z3⟩ := lnF_inv R hc Is hX
          have H1 := (z.2.2 s1 hX).2
          have e4 : rd τ l 4 = (s.2.2 : Int) := by rw [z.1.2 l 4 (by omega) (by omega) (by omega)]; exact h4
          have j1 := z1.2.2.1
          have F2 : lhF l σ (wr τ l 4 ((rd τ l 4) + 1)) := ⟨z.1.1.trans F.1, fun a i q1 q2 q3 => by rw [rd_wr_n (by omega)]; exact (F.tr z.1.h).2 a i q1 q2 q3⟩
          have g := ih s1 (wr τ l 4 ((rd τ l 4) + 1)) (by omega) F2 z1 (H1.w4 hl) (by rw [rd_wr_same, e4, z3]; rfl)
          rw [z3] at g
          exact pR.mono g fun r υ _ ⟨k, t, y1, y2⟩ => ⟨k + 1, t, ⟨k21, s1, hX, y1⟩, y2⟩
      · have k21 : K (qJ s.1) ≠ 21 := fun y => c4 (eK.trans y)
        cases hX : lnF K P V n s with
        | inl x => exact ⟨0, s, rfl, Is, F.tr z.1.h, Or.inr ⟨k21, x, hX, rfl, (z.2.1 x hX).2⟩⟩
        | inr s1 =>
          have := so_inj (z.2.2 s1 hX).1
          omega
  have g := loop (c - qJ s.1) s σ (Nat.le_refl _) ⟨rfl, fun _ _ _ _ _ => rfl⟩ Is H h4
  rw [n0] at g
  exact g_X2_read_0 hd S l I g
