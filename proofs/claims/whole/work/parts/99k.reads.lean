/-! the class reads the lines of a mountain -/
def wkL : List pV → List pV → Prop
  | [], [] => True
  | a :: t, b :: u => (a.1 = 9 ∨ a = b) ∧ wkL t u
  | _, _ => False
theorem wkL_at : ∀ {l m : List pV}, wkL l m → ∀ (i : Nat) (v : pV), l[i]? = some v → ∃ w, m[i]? = some w ∧ (v.1 = 9 ∨ v = w)
  | [], _, _, i, v, h => by simp at h
  | a :: t, [], e, _, _, _ => by exact absurd e (by simp [wkL])
  | a :: t, b :: u, e, 0, v, h => ⟨b, rfl, by simp at h; rw [← h]; exact e.1⟩
  | a :: t, b :: u, e, i + 1, v, h => by
    obtain ⟨w, h1, h2⟩ := wkL_at e.2 i v (by simpa using h)
    exact ⟨w, by simpa using h1, h2⟩
/-- locals may be forgotten -/
theorem pR.weak {M : pM} {d pc : Nat} {ls ls' st : List pV} {σ : pS} {Q : Option pV → pS → Prop} (h : pR M d pc ls' st σ Q) (e : wkL ls' ls) : pR M d pc ls st σ Q := by
  obtain ⟨r, τ, q, w, le, k⟩ := h
  refine ⟨r, τ, q, w, le, ?_⟩
  intro p l ee R s m args below meth c H locs cells slots Q g lsA hC hU hS hH hl
  refine k p l ee R s m args below meth c H locs cells slots Q g lsA hC hU hS hH ⟨hl.1, hl.2.1, fun x hx => hl.2.2 x ?_⟩
  obtain ⟨j, v, h1, h2, h3⟩ := (plv_mem g x ls' 0).mp hx
  obtain ⟨w2, h4, h5⟩ := wkL_at e j v h1
  refine (plv_mem g x ls 0).mpr ⟨j, v, ?_, h2, h3⟩
  rcases h5 with z | z
  · exact absurd z h2
  · rw [z]; exact h4
theorem hasName_C {d : Nat} {σ : pS} (S : Stat σ) {a0 v : Int} (ha : 141 ≤ a0) (I : Inst6 σ a0) (hr : ∀ i : Nat, i < 17 → inL (rd σ (a0 + 1) (i : Int))) (hv : inL v) : pC mX6_hasName d [(2, a0), (1, v)] σ (fun r τ => r = some (0, b2i (decide (∃ i : Nat, i < 17 ∧ rd σ (a0 + 1) (i : Int) = v))) ∧ τ = σ) := by
  have loop : ∀ (m j : Nat), j + m = 17 → (∀ i : Nat, i < j → rd σ (a0 + 1) (i : Int) ≠ v) → pR mX6_hasName d 12 [(2, a0), (1, v), (9, 0), (2, (a0 + 1)), (0, 17), (0, (j : Int)), (9, 0), (9, 0)] [] σ (fun r τ => r = some (0, b2i (decide (∃ i : Nat, i < 17 ∧ rd σ (a0 + 1) (i : Int) = v))) ∧ τ = σ) := fun m => by
    induction m with
    | zero =>
      intro j hj all
      exact g_X6_hasName_12 (Nat.zero_le d) S a0 v 17 (j : Int) (9, 0) (9, 0) I (by decide) (by decide) (by unfold inR; omega) (by decide) (fun _ => ⟨b2i_zero (fun ⟨i, i1, i2⟩ => all i (by omega) i2), rfl⟩) (fun c => by omega) (fun c => by omega) (fun c => by omega) (fun c => by omega) (fun c => by omega) (fun c => by omega)
    | succ m ih =>
      intro j hj all
      refine g_X6_hasName_12 (Nat.zero_le d) S a0 v 17 (j : Int) (9, 0) (9, 0) I (by decide) (by decide) (by unfold inR; omega) (by decide) (fun c => by omega) (fun _ => by omega) (fun _ => by omega) (fun _ => hr j (by omega)) (fun _ => hv) (fun _ c3 => ?_) (fun _ c4 => ⟨b2i_one ⟨j, by omega, l_cmp0.mp c4⟩, rfl⟩)
      refine pR.weak (ih (j + 1) (by omega) (fun i hi => ?_)) ⟨Or.inr rfl, Or.inr rfl, Or.inl rfl, Or.inr rfl, Or.inr rfl, Or.inr rfl, Or.inl rfl, Or.inl rfl, trivial⟩
      by_cases z : i = j
      · rw [z]; exact fun y => c3 (l_cmp0.mpr y)
      · exact all i (by omega)
  exact g_X6_hasName_0 (Nat.zero_le d) S a0 v I (by omega) (loop 17 0 rfl (fun i hi => by omega))
/-- one way's cells change -/
def wyF (a0 x : Int) (σ τ : pS) : Prop := τ.1 = σ.1 ∧ ∀ a i : Int, ¬ (a = 2 ∧ 4 ≤ i ∧ i ≤ 6) → ¬ (a0 < a ∧ a ≤ a0 + 10 ∧ i = x) → ¬ (a = a0 ∧ (i = 0 ∨ i = 1)) → rd τ a i = rd σ a i
theorem wyF.rf (a0 x : Int) (σ : pS) : wyF a0 x σ σ := ⟨rfl, fun _ _ _ _ _ => rfl⟩
theorem wyF.tr {a0 x : Int} {σ τ υ : pS} (h : wyF a0 x σ τ) (g : cFr τ υ) : wyF a0 x σ υ := ⟨g.1.trans h.1, fun a i q1 q2 q3 => (g.2 a i q1).trans (h.2 a i q1 q2 q3)⟩
theorem wyF_w {a0 x : Int} {σ τ : pS} {k v : Int} (h : wyF a0 x σ τ) (hk : 1 ≤ k ∧ k ≤ 10) : wyF a0 x σ (wr τ (a0 + k) x v) := ⟨h.1, fun a i q1 q2 q3 => by rw [rd_wr_n (by omega)]; exact h.2 a i q1 q2 q3⟩
theorem wyF_w0 {a0 x : Int} {σ τ : pS} {k v : Int} (h : wyF a0 x σ τ) (hk : k = 0 ∨ k = 1) : wyF a0 x σ (wr τ a0 k v) := ⟨h.1, fun a i q1 q2 q3 => by rw [rd_wr_n (by omega)]; exact h.2 a i q1 q2 q3⟩
def endsO (K P V : Nat → Int) (nt : Bool) (j : Nat) : pO := oo (ck K P (decide (K j = 18)) 2 j) (oo (ck K P nt 3 j) (oo (ck K P (decide (K (j + 1) = 20)) 2 (j + 1)) (oo (ck K P (decide (K (j + 2) = 20)) 2 (j + 2)) (ck K P (decide (V (j + 2) ≠ V (j + 1))) 5 (j + 2)))))
def nmF (σ : pS) (a0 v : Int) : Bool := !(decide (∃ i : Nat, i < 17 ∧ rd σ (a0 + 1) (i : Int) = v))
def endQ (K P V : Nat → Int) (c : Nat) (a0 x : Int) (j : Nat) (σ : pS) (r : Option pV) (τ : pS) : Prop := r = some (0, b2i (decide (endsO K P V (nmF σ a0 (V j)) j = none))) ∧ cSt K P V c (endsO K P V (nmF σ a0 (V j)) j) (j + 3) τ ∧ wyF a0 x σ τ ∧ (∀ i : Int, rd τ a0 i = rd σ a0 i) ∧ (∀ k : Int, 4 ≤ k → k ≤ 10 → rd τ (a0 + k) x = rd σ (a0 + k) x) ∧ (endsO K P V (nmF σ a0 (V j)) j = none → rd τ (a0 + 1) x = V j ∧ rd τ (a0 + 2) x = V (j + 1) ∧ rd τ (a0 + 3) x = V (j + 2))
theorem readEnds_C {K P V : Nat → Int} {c d j : Nat} {σ : pS} (hd : 1 ≤ d) (S : Stat σ) (R : tkR K V c) (H : cSt K P V c none j σ) {a0 x : Int} (ha : 141 ≤ a0) (I : Inst6 σ a0) (hx : 0 ≤ x ∧ x < 17) (hr : ∀ i : Nat, i < 17 → inL (rd σ (a0 + 1) (i : Int))) : pC mX6_readEnds d [(2, a0), (2, 2), (0, x)] σ (endQ K P V c a0 x j σ) := by
  have kS := H.kind R
  have eK := (kS.1 rfl).1
  have eV := (kS.1 rfl).2.1
  have jc := (kS.1 rfl).2.2
  have sk : ∀ τ : pS, wyF a0 x σ τ → Stat τ := fun τ f => S.eq f.1
  have c0 := R.1
  have ends : ∀ o : pO, o = endsO K P V (nmF σ a0 (V j)) j → o ≠ none → ∀ φ : pS, wyF a0 x σ φ → (∀ i : Int, rd φ a0 i = rd σ a0 i) → (∀ k : Int, 4 ≤ k → k ≤ 10 → rd φ (a0 + k) x = rd σ (a0 + k) x) → ∀ (r : Option pV) (τ : pS), (r = some (0, 0) ∧ cFr φ τ ∧ cSt K P V c o (j + 3) τ) → endQ K P V c a0 x j σ r τ := fun o eo ne φ F F0 F4 r τ q => by
    unfold endQ
    rw [← eo]
    refine ⟨by rw [q.1, decide_eq_false ne]; rfl, q.2.2, F.tr q.2.1, fun i => (q.2.1.2 _ _ (by omega)).trans (F0 i), fun k k0 k1 => (q.2.1.2 _ _ (by omega)).trans (F4 k k0 k1), fun z => absurd z ne⟩
  by_cases n18 : K j = 18
  · have jlt : j < c := R.lt jc (by omega)
    have nR := (R.2.2 j jlt).2.2.2 (by omega)
    cases nt : nmF σ a0 (V j) with
    | false =>
      have has : b2i (decide (∃ i : Nat, i < 17 ∧ rd σ (a0 + 1) (i : Int) = V j)) = 1 := by
        unfold nmF at nt
        rw [Bool.not_eq_false'] at nt
        rw [nt]; rfl
      have eo : some (if K j = 22 then 1 else 3, P j) = endsO K P V (nmF σ a0 (V j)) j := by
        unfold endsO
        rw [ck_t (decide_eq_true n18), nt, ck_f rfl]; rfl
      refine g_X6_readEnds_0 (Q1 := fun r τ => r = some (0, 1) ∧ τ = σ) (Q2 := fun _ _ => True) (Q3 := fun _ _ => True) (Q4 := fun _ _ => True) (Q5 := fun _ _ => True) (Q6 := fun _ _ => True) (Q7 := fun _ _ => True) (Q8 := fun r τ => r = some (0, 0) ∧ cFr σ τ ∧ cSt K P V c (some (if K j = 22 then 1 else 3, P j)) (j + 3) τ) (Q9 := fun _ _ => True) hd S a0 x I (kind_C S R H) (by unfold inR; omega) (fun _ => value_C S R H) (fun _ => ?_) (fun _ v3 b3 _ _ _ => by unfold inR; omega) (fun _ v3 b3 τ3 _ q3 c3 => ?_) (fun _ v3 b3 τ3 _ q3 c3 => ?_) (fun _ v3 b3 τ3 _ q3 c3 => ?_) (fun _ v3 b3 τ3 _ q3 c3 => ?_) (fun _ v3 b3 τ3 _ q3 c3 => ?_) (fun _ v3 b3 τ3 _ q3 c3 => ?_) (fun _ v3 b3 τ3 _ q3 c3 => ?_) (fun _ v3 b3 τ3 _ q3 c3 => ?_) (fun _ v3 b3 τ3 _ q3 c3 => ?_) (fun _ v3 b3 τ3 _ q3 c3 => ?_) (fun _ v3 b3 τ3 _ q3 c3 => ?_) (fun _ v3 b3 τ3 _ q3 c3 => ?_) (fun _ v3 b3 τ3 _ q3 c3 => ?_) (fun _ v3 b3 τ3 _ q3 c3 => ?_) (fun _ v3 b3 τ3 _ q3 c3 => ?_) (fun _ v3 b3 τ3 _ q3 c3 => ?_) (fun _ v3 b3 τ3 _ q3 c3 => ?_) (fun _ v3 b3 τ3 _ q3 c3 => ?_) (fun _ v3 b3 τ3 _ q3 c3 => ?_) (fun _ v3 b3 τ3 _ q3 c3 => ?_) (fun _ v3 b3 τ3 _ q3 c4 => ?_) (fun _ v3 b3 τ3 _ q3 c4 v15 b15 τ15 _ q15 => ?_) (fun c2 => absurd (eK.trans n18) c2) (fun c2 => absurd (eK.trans n18) c2)
      · rw [eV]
        refine (hasName_C S ha I hr (by unfold inL; omega)).mono fun r τ _ q => ⟨by rw [q.1, has], q.2⟩
      iterate 20 exact absurd (so_inj q3.1) (by omega)
      · rw [q3.2]; exact fail_C S R H (by decide) _
      · exact ends _ eo (fun z => (by cases z)) σ (wyF.rf _ _ _) (fun _ => rfl) (fun _ _ _ => rfl) _ _ ⟨q15.1, q15.2⟩
    | true =>
      have has : b2i (decide (∃ i : Nat, i < 17 ∧ rd σ (a0 + 1) (i : Int) = V j)) = 0 := by
        unfold nmF at nt
        rw [Bool.not_eq_true'] at nt
        rw [nt]; rfl
      have eo : endsO K P V (nmF σ a0 (V j)) j = oo (ck K P (decide (K (j + 1) = 20)) 2 (j + 1)) (oo (ck K P (decide (K (j + 2) = 20)) 2 (j + 2)) (ck K P (decide (V (j + 2) ≠ V (j + 1))) 5 (j + 2))) := by
        unfold endsO
        rw [ck_t (decide_eq_true n18), nt, ck_t rfl]; rfl
      have w1 : wyF a0 x σ (wr σ (a0 + 1) x (vTkV σ)) := wyF_w (wyF.rf a0 x σ) (by decide)
      refine g_X6_readEnds_0 (Q1 := fun r τ => r = some (0, 0) ∧ τ = σ) (Q2 := fun r τ => r = none ∧ cSt K P V c none (j + 1) τ ∧ wyF a0 x σ τ ∧ (∀ i : Int, rd τ a0 i = rd σ a0 i) ∧ (∀ k : Int, 4 ≤ k → k ≤ 10 → rd τ (a0 + k) x = rd σ (a0 + k) x) ∧ rd τ (a0 + 1) x = V j) (Q3 := fun r τ => r = none ∧ cSt K P V c none (j + 2) τ ∧ wyF a0 x σ τ ∧ (∀ i : Int, rd τ a0 i = rd σ a0 i) ∧ (∀ k : Int, 4 ≤ k → k ≤ 10 → rd τ (a0 + k) x = rd σ (a0 + k) x) ∧ rd τ (a0 + 1) x = V j ∧ rd τ (a0 + 2) x = V (j + 1) ∧ K (j + 1) = 20) (Q4 := fun r τ => r = none ∧ cSt K P V c none (j + 3) τ ∧ wyF a0 x σ τ ∧ (∀ i : Int, rd τ a0 i = rd σ a0 i) ∧ (∀ k : Int, 4 ≤ k → k ≤ 10 → rd τ (a0 + k) x = rd σ (a0 + k) x) ∧ rd τ (a0 + 1) x = V j ∧ rd τ (a0 + 2) x = V (j + 1) ∧ rd τ (a0 + 3) x = V (j + 2)) (Q5 := endQ K P V c a0 x j σ) (Q6 := endQ K P V c a0 x j σ) (Q7 := endQ K P V c a0 x j σ) (Q8 := fun _ _ => True) (Q9 := fun _ _ => True) hd S a0 x I (kind_C S R H) (by unfold inR; omega) (fun _ => value_C S R H) (fun _ => ?_) (fun _ v3 b3 _ _ _ => by unfold inR; omega) (fun _ v3 b3 τ3 _ q3 c3 => ?_) (fun _ v3 b3 τ3 _ q3 c3 => hx) (fun _ v3 b3 τ3 _ q3 c3 => ?_) (fun _ v3 b3 τ3 _ q3 c3 τ5 _ q5 => ?_) (fun _ v3 b3 τ3 _ q3 c3 τ5 _ q5 => ?_) (fun _ v3 b3 τ3 _ q3 c3 τ5 _ q5 c5 => ?_) (fun _ v3 b3 τ3 _ q3 c3 τ5 _ q5 c5 => ?_) (fun _ v3 b3 τ3 _ q3 c3 τ5 _ q5 c5 τ8 _ q8 => ?_) (fun _ v3 b3 τ3 _ q3 c3 τ5 _ q5 c5 τ8 _ q8 => ?_) (fun _ v3 b3 τ3 _ q3 c3 τ5 _ q5 c5 τ8 _ q8 c7 => ?_) (fun _ v3 b3 τ3 _ q3 c3 τ5 _ q5 c5 τ8 _ q8 c7 => ?_) (fun _ v3 b3 τ3 _ q3 c3 τ5 _ q5 c5 τ8 _ q8 c7 => ?_) (fun _ v3 b3 τ3 _ q3 c3 τ5 _ q5 c5 τ8 _ q8 c7 c9 => ?_) (fun _ v3 b3 τ3 _ q3 c3 τ5 _ q5 c5 τ8 _ q8 c7 c9 τ11 _ q11 => ?_) (fun _ v3 b3 τ3 _ q3 c3 τ5 _ q5 c5 τ8 _ q8 c7 c10 => ?_) (fun _ v3 b3 τ3 _ q3 c3 τ5 _ q5 c5 τ8 _ q8 c7 c10 v12 b12 τ12 _ q12 => q12) (fun _ v3 b3 τ3 _ q3 c3 τ5 _ q5 c5 τ8 _ q8 c8 => ?_) (fun _ v3 b3 τ3 _ q3 c3 τ5 _ q5 c5 τ8 _ q8 c8 v13 b13 τ13 _ q13 => q13) (fun _ v3 b3 τ3 _ q3 c3 τ5 _ q5 c6 => ?_) (fun _ v3 b3 τ3 _ q3 c3 τ5 _ q5 c6 v14 b14 τ14 _ q14 => q14) (fun _ v3 b3 τ3 _ q3 c4 => ?_) (fun _ v3 b3 τ3 _ q3 c4 v15 b15 τ15 _ q15 => ?_) (fun c2 => absurd (eK.trans n18) c2) (fun c2 => absurd (eK.trans n18) c2)
      · rw [eV]
        refine (hasName_C S ha I hr (by unfold inL; omega)).mono fun r τ _ q => ⟨by rw [q.1, has], q.2⟩
      · rw [q3.2]; exact value_C S R H
      · rw [q3.2]
        refine (step_C S.wr R (H.wr (by omega)) (fun _ => jlt)).mono fun r τ _ q => ⟨q.1, q.2.2, w1.tr q.2.1, fun i => ?_, fun k k0 k1 => ?_, ?_⟩
        · rw [q.2.1.2 _ _ (by omega), rd_wr_n (by omega)]
        · rw [q.2.1.2 _ _ (by omega), rd_wr_n (by omega)]
        · rw [q.2.1.2 _ _ (by omega), rd_wr_same]; exact eV
      · exact kind_C (sk _ q5.2.2.1) R q5.2.1
      · have := (q5.2.1.kind R).2; unfold inR; omega
      · exact value_C (sk _ q5.2.2.1) R q5.2.1
      · have kk := (q5.2.1.kind R).1 rfl
        have w2 : wyF a0 x σ (wr τ5 (a0 + 2) x (vTkV τ5)) := wyF_w q5.2.2.1 (by decide)
        refine (step_C (sk _ w2) R (q5.2.1.wr (by omega)) (fun _ => R.lt kk.2.2 (by omega))).mono fun r τ _ q => ⟨q.1, q.2.2, w2.tr q.2.1, fun i => ?_, fun k k0 k1 => ?_, ?_, ?_, by omega⟩
        · rw [q.2.1.2 _ _ (by omega), rd_wr_n (by omega)]; exact q5.2.2.2.1 i
        · rw [q.2.1.2 _ _ (by omega), rd_wr_n (by omega)]; exact q5.2.2.2.2.1 k k0 k1
        · rw [q.2.1.2 _ _ (by omega), rd_wr_n (by omega)]; exact q5.2.2.2.2.2
        · rw [q.2.1.2 _ _ (by omega), rd_wr_same]; exact kk.2.1
      · exact kind_C (sk _ q8.2.2.1) R q8.2.1
      · have := (q8.2.1.kind R).2; unfold inR; omega
      · exact value_C (sk _ q8.2.2.1) R q8.2.1
      · have kk := (q8.2.1.kind R).1 rfl
        have := (R.2.2 (j + 2) (R.lt kk.2.2 (by omega))).2.1 (by omega)
        unfold inR; omega
      · have k1 := (q5.2.1.kind R).1 rfl
        have := (R.2.2 (j + 1) (R.lt k1.2.2 (by omega))).2.1 (by omega)
        rw [q8.2.2.2.2.2.2.1]
        unfold inR; omega
      · have kk := (q8.2.1.kind R).1 rfl
        have w3 : wyF a0 x σ (wr τ8 (a0 + 3) x (vTkV τ8)) := wyF_w q8.2.2.1 (by decide)
        refine (step_C (sk _ w3) R (q8.2.1.wr (by omega)) (fun _ => R.lt kk.2.2 (by omega))).mono fun r τ _ q => ⟨q.1, q.2.2, w3.tr q.2.1, fun i => ?_, fun k k0 k1 => ?_, ?_, ?_, ?_⟩
        · rw [q.2.1.2 _ _ (by omega), rd_wr_n (by omega)]; exact q8.2.2.2.1 i
        · rw [q.2.1.2 _ _ (by omega), rd_wr_n (by omega)]; exact q8.2.2.2.2.1 k k0 k1
        · rw [q.2.1.2 _ _ (by omega), rd_wr_n (by omega)]; exact q8.2.2.2.2.2.1
        · rw [q.2.1.2 _ _ (by omega), rd_wr_n (by omega)]; exact q8.2.2.2.2.2.2.1
        · rw [q.2.1.2 _ _ (by omega), rd_wr_same]; exact kk.2.1
      · have k2 := (q8.2.1.kind R).1 rfl
        have z : endsO K P V (nmF σ a0 (V j)) j = none := by
          rw [eo, ck_t (decide_eq_true q8.2.2.2.2.2.2.2), ck_t (decide_eq_true (by omega)), ck_t (decide_eq_true (by rw [← k2.2.1, ← q8.2.2.2.2.2.2.1]; exact c9))]; rfl
        unfold endQ
        rw [z]
        exact ⟨rfl, q11.2.1, q11.2.2.1, q11.2.2.2.1, q11.2.2.2.2.1, fun _ => q11.2.2.2.2.2⟩
      · have k2 := (q8.2.1.kind R).1 rfl
        have w3 : wyF a0 x σ (wr τ8 (a0 + 3) x (vTkV τ8)) := wyF_w q8.2.2.1 (by decide)
        refine (fail_C (sk _ w3) R (q8.2.1.wr (by omega)) (w := 5) (by decide) (j + 3)).mono fun r τ _ q => ends _ ?_ (fun z => (by cases z)) _ w3 (fun i => ?_) (fun k k0 k1 => ?_) _ _ ⟨q.1, q.2.1, q.2.2⟩
        · rw [eo, ck_t (decide_eq_true q8.2.2.2.2.2.2.2), ck_t (decide_eq_true (by omega)), ck_f (decide_eq_false (fun z => z (by rw [← k2.2.1, ← q8.2.2.2.2.2.2.1]; exact c10)))]; rfl
        · rw [rd_wr_n (by omega)]; exact q8.2.2.2.1 i
        · rw [rd_wr_n (by omega)]; exact q8.2.2.2.2.1 k k0 k1
      · have k2 := (q8.2.1.kind R).1 rfl
        refine (fail_C (sk _ q8.2.2.1) R q8.2.1 (w := 2) (by decide) (j + 3)).mono fun r τ _ q => ends _ ?_ (fun z => (by cases z)) _ q8.2.2.1 q8.2.2.2.1 q8.2.2.2.2.1 _ _ ⟨q.1, q.2.1, q.2.2⟩
        rw [eo, ck_t (decide_eq_true q8.2.2.2.2.2.2.2), ck_f (decide_eq_false (by omega))]; rfl
      · have k2 := (q5.2.1.kind R).1 rfl
        refine (fail_C (sk _ q5.2.2.1) R q5.2.1 (w := 2) (by decide) (j + 3)).mono fun r τ _ q => ends _ ?_ (fun z => (by cases z)) _ q5.2.2.1 q5.2.2.2.1 q5.2.2.2.2.1 _ _ ⟨q.1, q.2.1, q.2.2⟩
        rw [eo, ck_f (decide_eq_false (by omega))]; rfl
      · exact absurd (so_inj q3.1) c4
      · exact absurd (so_inj q3.1) c4
  · have eo : some (if K j = 22 then 1 else 2, P j) = endsO K P V (nmF σ a0 (V j)) j := by
      unfold endsO
      rw [ck_f (decide_eq_false n18)]; rfl
    have no : ¬ (vTkK σ = 18) := by omega
    exact g_X6_readEnds_0 (Q1 := fun _ _ => True) (Q2 := fun _ _ => True) (Q3 := fun _ _ => True) (Q4 := fun _ _ => True) (Q5 := fun _ _ => True) (Q6 := fun _ _ => True) (Q7 := fun _ _ => True) (Q8 := fun _ _ => True) (Q9 := fun r τ => r = some (0, 0) ∧ cFr σ τ ∧ cSt K P V c (some (if K j = 22 then 1 else 2, P j)) (j + 3) τ) hd S a0 x I (kind_C S R H) (by unfold inR; omega) (fun c1 => absurd c1 no) (fun c1 => absurd c1 no) (fun c1 => absurd c1 no) (fun c1 => absurd c1 no) (fun c1 => absurd c1 no) (fun c1 => absurd c1 no) (fun c1 => absurd c1 no) (fun c1 => absurd c1 no) (fun c1 => absurd c1 no) (fun c1 => absurd c1 no) (fun c1 => absurd c1 no) (fun c1 => absurd c1 no) (fun c1 => absurd c1 no) (fun c1 => absurd c1 no) (fun c1 => absurd c1 no) (fun c1 => absurd c1 no) (fun c1 => absurd c1 no) (fun c1 => absurd c1 no) (fun c1 => absurd c1 no) (fun c1 => absurd c1 no) (fun c1 => absurd c1 no) (fun c1 => absurd c1 no) (fun c1 => absurd c1 no) (fun c1 => absurd c1 no) (fun c1 => absurd c1 no) (fun _ => fail_C S R H (by decide) _) (fun _ v16 _ τ16 _ q => ends _ eo (fun z => (by cases z)) σ (wyF.rf _ _ _) (fun _ => rfl) (fun _ _ _ => rfl) _ _ ⟨q.1, q.2.1, q.2.2⟩)
