/-! the reference reads a way -/
def tdM (φ : pS) (L R : Nat) (x : Int) : Prop := ∃ k : Nat, k < 13 ∧ (k < L ∨ (6 ≤ k ∧ k < 6 + R)) ∧ rd φ 70 (k : Int) = x
theorem isTold_C {d : Nat} {φ : pS} (S : Stat φ) {L R : Nat} (hL : rd φ 68 17 = (L : Int)) (hR : rd φ 68 18 = (R : Int)) (lL : L ≤ 6) (lR : R ≤ 7) {x : Int} (hx : inL x) (hr : ∀ k : Nat, k < L ∨ (6 ≤ k ∧ k < 6 + R) → inL (rd φ 70 (k : Int))) : pC mX11_isTold d [(2, 68), (1, x)] φ (fun r τ => ∃ v, r = some (0, v) ∧ (v = 0 ∨ v = 1) ∧ (v = 1 ↔ tdM φ L R x) ∧ τ = φ) := by
  have loop2 : ∀ (m j : Nat) (v : Int), j + m = 6 + R → 6 ≤ j → (v = 0 ∨ v = 1) → (v = 1 ↔ ∃ k : Nat, (k < L ∨ (6 ≤ k ∧ k < j)) ∧ rd φ 70 (k : Int) = x) → pR mX11_isTold d 46 [(2, 68), (1, x), (9, 0), (0, v), (0, (j : Int))] [] φ (fun r τ => ∃ v, r = some (0, v) ∧ (v = 0 ∨ v = 1) ∧ (v = 1 ↔ tdM φ L R x) ∧ τ = φ) := fun m => by
    induction m with
    | zero =>
      intro j v hj j6 hv all
      refine g_X11_isTold_46 (Nat.zero_le d) S x v (j : Int) (by unfold inR; omega) (by unfold inR; omega) (fun _ => ⟨v, rfl, hv, ?_, rfl⟩) (fun _ => hv) (fun c => by omega) (fun c => by omega) (fun c => by omega) (fun c => by omega) (fun c => by omega) (fun c => by omega) (fun c => by omega)
      rw [all]
      exact ⟨fun ⟨k, k1, k2⟩ => ⟨k, by omega, by omega, k2⟩, fun ⟨k, _, k1, k2⟩ => ⟨k, by omega, k2⟩⟩
    | succ m ih =>
      intro j v hj j6 hv all
      have ex : (j : Int) + 1 = ((j + 1 : Nat) : Int) := by omega
      refine g_X11_isTold_46 (Nat.zero_le d) S x v (j : Int) (by unfold inR; omega) (by unfold inR; omega) (fun c => by omega) (fun _ => hv) (fun _ => by unfold inR; omega) (fun _ c3 => ?_) (fun _ _ => by omega) (fun _ _ => hr j (by omega)) (fun _ _ => hx) (fun _ c4 c5 => ?_) (fun _ c4 c6 => ?_)
      · rw [ex]
        refine ih (j + 1) 1 (by omega) (by omega) (Or.inr rfl) ⟨fun _ => ?_, fun _ => rfl⟩
        obtain ⟨k, k1, k2⟩ := all.mp (by omega)
        exact ⟨k, by omega, k2⟩
      · rw [ex]
        refine ih (j + 1) 0 (by omega) (by omega) (Or.inl rfl) ⟨fun z => by omega, fun ⟨k, k1, k2⟩ => ?_⟩
        by_cases z : k = j
        · rw [z] at k2; exact absurd (l_cmp0.mpr k2) c5
        · have := all.mpr ⟨k, by omega, k2⟩; omega
      · rw [ex]
        exact ih (j + 1) 1 (by omega) (by omega) (Or.inr rfl) ⟨fun _ => ⟨j, by omega, l_cmp0.mp c6⟩, fun _ => rfl⟩
  have loop1 : ∀ (m j : Nat) (v : Int), j + m = L → (v = 0 ∨ v = 1) → (v = 1 ↔ ∃ k : Nat, k < j ∧ rd φ 70 (k : Int) = x) → pR mX11_isTold d 5 [(2, 68), (1, x), (9, 0), (0, v), (0, (j : Int))] [] φ (fun r τ => ∃ v, r = some (0, v) ∧ (v = 0 ∨ v = 1) ∧ (v = 1 ↔ tdM φ L R x) ∧ τ = φ) := fun m => by
    induction m with
    | zero =>
      intro j v hj hv all
      refine g_X11_isTold_5 (Nat.zero_le d) S x v (j : Int) (by unfold inR; omega) (by unfold inR; omega) (fun _ => ?_) (fun c => by omega) (fun c => by omega) (fun c => by omega) (fun c => by omega) (fun c => by omega) (fun c => by omega) (fun c => by omega)
      refine loop2 R 6 v rfl (by omega) hv ?_
      rw [all]
      exact ⟨fun ⟨k, k1, k2⟩ => ⟨k, by omega, k2⟩, fun ⟨k, k1, k2⟩ => ⟨k, by omega, k2⟩⟩
    | succ m ih =>
      intro j v hj hv all
      have ex : (j : Int) + 1 = ((j + 1 : Nat) : Int) := by omega
      refine g_X11_isTold_5 (Nat.zero_le d) S x v (j : Int) (by unfold inR; omega) (by unfold inR; omega) (fun c => by omega) (fun _ => by unfold inR; omega) (fun _ c3 => ?_) (fun _ _ => by omega) (fun _ _ => hr j (by omega)) (fun _ _ => hx) (fun _ c4 c5 => ?_) (fun _ c4 c6 => ?_)
      · rw [ex]
        refine ih (j + 1) 1 (by omega) (Or.inr rfl) ⟨fun _ => ?_, fun _ => rfl⟩
        obtain ⟨k, k1, k2⟩ := all.mp (by omega)
        exact ⟨k, by omega, k2⟩
      · rw [ex]
        refine ih (j + 1) 0 (by omega) (Or.inl rfl) ⟨fun z => by omega, fun ⟨k, k1, k2⟩ => ?_⟩
        by_cases z : k = j
        · rw [z] at k2; exact absurd (l_cmp0.mpr k2) c5
        · have := all.mpr ⟨k, by omega, k2⟩; omega
      · rw [ex]
        exact ih (j + 1) 1 (by omega) (Or.inr rfl) ⟨fun _ => ⟨j, by omega, l_cmp0.mp c6⟩, fun _ => rfl⟩
  exact g_X11_isTold_0 (Nat.zero_le d) S x (loop1 L 0 0 (by omega) (Or.inl rfl) ⟨fun z => by omega, fun ⟨k, k1, _⟩ => by omega⟩)
def wyM (x : Int) (φ τ : pS) : Prop := τ.1 = φ.1 ∧ ∀ a i : Int, ¬ (a = 68 ∧ 2 ≤ i ∧ i ≤ 9 ∧ i ≠ 5) → ¬ (((70 ≤ a ∧ a ≤ 76) ∨ a = 83) ∧ i = x) → ¬ (a = 68 ∧ (i = 17 ∨ i = 18)) → rd τ a i = rd φ a i
def rBd (σ : pS) (n : Int) (K P V E : Nat → Int) (c : Nat) (x : Int) (φ : pS) (o : pO) (k : Nat) (F : Int → Int) (τ : pS) : Prop := mSt σ n K P V E c o k τ ∧ wyM x φ τ ∧ (rd τ 68 17 = rd φ 68 17 ∧ rd τ 68 18 = rd φ 68 18) ∧ (o = none → ∀ a : Int, 71 ≤ a → a ≤ 76 → rd τ a x = F a)
section PRB
variable {σ : pS} {n : Int} {K P V E : Nat → Int} {c d : Nat} {x : Int} {φ ψ : pS} {o : pO} {k : Nat} {F : Int → Int}
theorem rB_fr (h : rBd σ n K P V E c x φ o k F ψ) {τ : pS} {o' : pO} {k' : Nat} (f : mFr ψ τ) (s : mSt σ n K P V E c o' k' τ) (m : o' = none → o = none) : rBd σ n K P V E c x φ o' k' F τ :=
  ⟨s, ⟨f.1.trans h.2.1.1, fun a i y1 y2 y3 => (f.2 a i y1).trans (h.2.1.2 a i y1 y2 y3)⟩, ⟨(f.2 _ _ (by omega)).trans h.2.2.1.1, (f.2 _ _ (by omega)).trans h.2.2.1.2⟩, fun z a a0 a1 => (f.2 _ _ (by omega)).trans (h.2.2.2 (m z) a a0 a1)⟩
theorem rB_wr (h : rBd σ n K P V E c x φ o k F ψ) {a v w : Int} (ha : 71 ≤ a ∧ a ≤ 76) (e : o = none → v = w) : rBd σ n K P V E c x φ o k (updF F a w) (wr ψ a x v) :=
  ⟨h.1.wr (by omega), ⟨h.2.1.1, fun b i y1 y2 y3 => by rw [rd_wr_n (by omega)]; exact h.2.1.2 b i y1 y2 y3⟩, ⟨by rw [rd_wr_n (by omega)]; exact h.2.2.1.1, by rw [rd_wr_n (by omega)]; exact h.2.2.1.2⟩, fun z b b0 b1 => by
    unfold updF
    by_cases y : b = a
    · rw [y, if_pos rfl, rd_wr_same]; exact e z
    · rw [if_neg y, rd_wr_n (by omega)]; exact h.2.2.2 z b b0 b1⟩
def tdO (K P V : Nat → Int) (lo hi : Int) (j : Nat) : pO := oo (ck K P (decide (K j = 19)) 2 j) (ck K P (decide (lo ≤ V j ∧ V j ≤ hi)) 4 j)
def ptO (K P V : Nat → Int) (v : Int) (j : Nat) : pO := oo (ck K P (decide (K j = 20)) 2 j) (ck K P (decide (V j ≠ v)) 5 j)
theorem rB_told (hd : 2 ≤ d) (S : Stat φ) (T : TK σ n K P V E c) (h : rBd σ n K P V E c x φ o k F ψ) {lo hi : Int} (hl : o = none → inR lo) (hh : inR hi) : pC mX11_told d [(2, 68), (0, lo), (0, hi)] ψ (fun r τ => ∃ v, r = some (0, v) ∧ rBd σ n K P V E c x φ (oo o (tdO K P V lo hi k)) (k + 1) F τ ∧ (oo o (tdO K P V lo hi k) = none → v = V k)) :=
  (told_M hd (S.eq h.2.1.1) T h.1 hl hh).mono fun r τ _ ⟨v, q1, q2, q3, q4⟩ => ⟨v, q1, rB_fr h q2 q3 (fun e => (oo_none_iff.mp e).1), q4⟩
theorem rB_point (hd : 2 ≤ d) (S : Stat φ) (T : TK σ n K P V E c) (h : rBd σ n K P V E c x φ o k F ψ) {v : Int} (hl : o = none → inR v) : pC mX11_point d [(2, 68), (0, v)] ψ (fun r τ => ∃ w, r = some (0, w) ∧ rBd σ n K P V E c x φ (oo o (ptO K P V v k)) (k + 1) F τ ∧ (oo o (ptO K P V v k) = none → w = V k)) :=
  (point_M hd (S.eq h.2.1.1) T h.1 hl).mono fun r τ _ ⟨v, q1, q2, q3, q4⟩ => ⟨v, q1, rB_fr h q2 q3 (fun e => (oo_none_iff.mp e).1), q4⟩
theorem rB_want (hd : 2 ≤ d) (S : Stat φ) (T : TK σ n K P V E c) (h : rBd σ n K P V E c x φ o k F ψ) (q : Nat) (hq : q < 18) {w : Int} (hw : w = kwc q) : pC mX11_wantWord d [(2, 68), (1, w)] ψ (fun r τ => r = none ∧ rBd σ n K P V E c x φ (oo o (ck K P (decide (K k = (q : Int))) 2 k)) (k + 1) F τ) :=
  (wantWord_M hd (S.eq h.2.1.1) T h.1 hq hw).mono fun r τ _ ⟨q1, q2, q3⟩ => ⟨q1, rB_fr h q2 q3 (fun e => (oo_none_iff.mp e).1)⟩
end PRB
theorem pt_neg {K P V : Nat → Int} {c : Nat} (R : tkR K V c) {j : Nat} (hj : j ≤ c) : ptO K P V (-1) j = ck K P (decide (K j = 20)) 2 j := by
  unfold ptO
  by_cases z : K j = 20
  · have := (R.2.2 j (R.lt hj (by omega))).2.1 z
    rw [ck_t (decide_eq_true z), ck_t (decide_eq_true (by omega))]; rfl
  · rw [ck_f (decide_eq_false z)]; rfl
def liftW (K P V : Nat → Int) (nt : Bool) (j : Nat) : pO := oo (endsO K P V nt (j + 1)) (oo (numO K P V 3 1 30 (j + 4)) (oo (numO K P V 4 1 99 (j + 6)) (oo (numO K P V 5 0 480 (j + 8)) (numO K P V 6 (V (j + 9) + 1) 480 (j + 10)))))
def runW (K P V : Nat → Int) (nt : Bool) (j : Nat) : pO := oo (endsO K P V nt (j + 1)) (oo (numO K P V 8 0 3 (j + 4)) (oo (numO K P V 3 1 60 (j + 6)) (numO K P V 9 0 300 (j + 8))))
theorem liftO_W {K P V : Nat → Int} {nt : Bool} {j : Nat} : liftO K P V nt j = oo (liftW K P V nt j) (ck K P (decide (K (lsc K j) = 59)) 2 (lsc K j)) := by
  unfold liftO liftW
  rw [oo_assoc, oo_assoc, oo_assoc, oo_assoc]
theorem runO_W {K P V : Nat → Int} {nt : Bool} {j : Nat} : runO K P V nt j = oo (runW K P V nt j) (ck K P (decide (K (j + 10) = 59)) 2 (j + 10)) := by
  unfold runO runW
  rw [oo_assoc, oo_assoc, oo_assoc]
theorem b2i_0 {b : Bool} (h : b2i b = 0) : b = false := by cases b; rfl; exact absurd h (by decide)
theorem b2i_n {b : Bool} (h : b2i b ≠ 0) : b = true := by cases b; exact absurd rfl h; rfl
def liftG (V : Nat → Int) (j : Nat) (a : Int) : Int := if a = 71 then V (j + 2) else if a = 72 then V (j + 3) else if a = 73 then V (j + 5) else if a = 74 then V (j + 7) else if a = 75 then V (j + 9) else V (j + 11)
def runG (V : Nat → Int) (j : Nat) (a : Int) : Int := if a = 71 then V (j + 2) else if a = 72 then V (j + 3) else if a = 73 then V (j + 7) else if a = 74 then V (j + 5) else V (j + 9)
def liftM (σ : pS) (n : Int) (K P V E : Nat → Int) (c : Nat) (x : Int) (φ : pS) (nt : Bool) (j : Nat) (r : Option pV) (τ : pS) : Prop := r = none ∧ mSt σ n K P V E c (liftW K P V nt j) (lsc K j) τ ∧ wyM x φ τ ∧ (liftW K P V nt j = none → rd τ 68 17 = rd φ 68 17 + 1 ∧ rd τ 68 18 = rd φ 68 18 ∧ rd τ 70 x = cd (V (j + 1)) ∧ (∀ a : Int, 71 ≤ a → a ≤ 76 → rd τ a x = liftG V j a) ∧ rd τ 83 x = b2i (decide (K (j + 12) = 7)))
def runM (σ : pS) (n : Int) (K P V E : Nat → Int) (c : Nat) (x : Int) (φ : pS) (nt : Bool) (j : Nat) (r : Option pV) (τ : pS) : Prop := r = none ∧ mSt σ n K P V E c (runW K P V nt j) (j + 10) τ ∧ wyM x φ τ ∧ (runW K P V nt j = none → rd τ 68 17 = rd φ 68 17 ∧ rd τ 68 18 = rd φ 68 18 + 1 ∧ rd τ 70 x = cd (V (j + 1)) ∧ ∀ a : Int, 71 ≤ a → a ≤ 75 → rd τ a x = runG V j a)
theorem mSt.fault {σ : pS} {n : Int} {K P V E : Nat → Int} {c : Nat} {o : pO} {k : Nat} {φ : pS} (H : mSt σ n K P V E c o k φ) : inR (rd φ 68 2) ∧ (rd φ 68 2 ≤ 0 → o = none) ∧ (0 < rd φ 68 2 → o ≠ none) ∧ (rd φ 68 2 = 0 ↔ o = none) := by
  cases o with
  | none =>
    have := (H.2.1 rfl).1
    exact ⟨by unfold inR; omega, fun _ => rfl, fun z => by omega, ⟨fun _ => rfl, fun _ => this⟩⟩
  | some y =>
    obtain ⟨f, p⟩ := y
    have := H.2.2 f p rfl
    exact ⟨by unfold inR; omega, fun z => by omega, fun z y => (by cases y), ⟨fun z => by omega, fun y => (by cases y)⟩⟩
theorem liftG_eq {V : Nat → Int} {j : Nat} {F : Int → Int} (a : Int) (a0 : 71 ≤ a) (a1 : a ≤ 76) : updF (updF (updF (updF (updF (updF F 71 (V (j + 2))) 72 (V (j + 3))) 73 (V (j + 5))) 74 (V (j + 7))) 75 (V (j + 9))) 76 (V (j + 11)) a = liftG V j a := by
  have : a = 71 ∨ a = 72 ∨ a = 73 ∨ a = 74 ∨ a = 75 ∨ a = 76 := by omega
  rcases this with rfl | rfl | rfl | rfl | rfl | rfl <;> rfl
theorem runG_eq {V : Nat → Int} {j : Nat} {F : Int → Int} (a : Int) (a0 : 71 ≤ a) (a1 : a ≤ 75) : updF (updF (updF (updF (updF F 71 (V (j + 2))) 72 (V (j + 3))) 74 (V (j + 5))) 73 (V (j + 7))) 75 (V (j + 9)) a = runG V j a := by
  have : a = 71 ∨ a = 72 ∨ a = 73 ∨ a = 74 ∨ a = 75 := by omega
  rcases this with rfl | rfl | rfl | rfl | rfl <;> rfl
theorem b2i_Ri (b : Bool) : inR (b2i b) := by cases b <;> decide
theorem readWayL_50 {σ : pS} {n : Int} {K P V E : Nat → Int} {c d : Nat} {x : Int} {φ ψ : pS} {o1 : pO} {nt : Bool} {j : Nat} (hd : 3 ≤ d) (S : Stat φ) (T : TK σ n K P V E c) (h : rBd σ n K P V E c x φ o1 (j + 1) (fun a => rd φ a x) ψ) (eo : o1 = oo (ck K P (decide (K (j + 1) = 18)) 2 (j + 1)) (ck K P nt 3 (j + 1))) (hx : 0 ≤ x ∧ x < 6) (u3 u4 : pV) (hu3 : u3.1 ≠ 1) (hu4 : u4.1 ≠ 1) : pR mX11_readWay d 50 [(2, 68), (0, 1), (0, x), u3, u4] [] ψ (liftM σ n K P V E c x φ nt j) := by
  have R := T.R
  have f0 := h.1.fault
  by_cases z : o1 = none
  · subst z
    have e18 : ck K P (decide (K (j + 1) = 18)) 2 (j + 1) = none := (oo_none_iff.mp eo.symm).1
    have ent : ck K P nt 3 (j + 1) = none := (oo_none_iff.mp eo.symm).2
    have k18 : K (j + 1) = 18 := of_decide_eq_true (ck_none.mp e18)
    have hc := (h.1.2.1 rfl).2.2
    have wd := (hc.word R).2.2 ((hc.sort R).2.2.2.1.mp (by omega))
    have jc : j + 1 < c := R.lt hc.1 (by omega)
    obtain ⟨p1, hp1⟩ : ∃ p, p = ptO K P V (-1) (j + 2) := ⟨_, rfl⟩
    obtain ⟨p2, hp2⟩ : ∃ p, p = oo p1 (ptO K P V (V (j + 2)) (j + 3)) := ⟨_, rfl⟩
    obtain ⟨p3, hp3⟩ : ∃ p, p = oo p2 (ck K P (decide (K (j + 4) = ((3 : Nat) : Int))) 2 (j + 4)) := ⟨_, rfl⟩
    obtain ⟨p4, hp4⟩ : ∃ p, p = oo p3 (tdO K P V 1 30 (j + 5)) := ⟨_, rfl⟩
    obtain ⟨p5, hp5⟩ : ∃ p, p = oo p4 (ck K P (decide (K (j + 6) = ((4 : Nat) : Int))) 2 (j + 6)) := ⟨_, rfl⟩
    obtain ⟨p6, hp6⟩ : ∃ p, p = oo p5 (tdO K P V 1 99 (j + 7)) := ⟨_, rfl⟩
    obtain ⟨p7, hp7⟩ : ∃ p, p = oo p6 (ck K P (decide (K (j + 8) = ((5 : Nat) : Int))) 2 (j + 8)) := ⟨_, rfl⟩
    obtain ⟨p8, hp8⟩ : ∃ p, p = oo p7 (tdO K P V 0 480 (j + 9)) := ⟨_, rfl⟩
    obtain ⟨p9, hp9⟩ : ∃ p, p = oo p8 (ck K P (decide (K (j + 10) = ((6 : Nat) : Int))) 2 (j + 10)) := ⟨_, rfl⟩
    obtain ⟨p10, hp10⟩ : ∃ p, p = oo p9 (tdO K P V (V (j + 9) + 1) 480 (j + 11)) := ⟨_, rfl⟩
    have ew : liftW K P V nt j = p10 := by
      have q1 : endsO K P V nt (j + 1) = oo (ck K P (decide (K (j + 1) = 18)) 2 (j + 1)) (oo (ck K P nt 3 (j + 1)) (oo (ck K P (decide (K (j + 2) = 20)) 2 (j + 2)) (ptO K P V (V (j + 2)) (j + 3)))) := rfl
      have q2 : numO K P V 3 1 30 (j + 4) = oo (ck K P (decide (K (j + 4) = ((3 : Nat) : Int))) 2 (j + 4)) (tdO K P V 1 30 (j + 5)) := rfl
      have q3 : numO K P V 4 1 99 (j + 6) = oo (ck K P (decide (K (j + 6) = ((4 : Nat) : Int))) 2 (j + 6)) (tdO K P V 1 99 (j + 7)) := rfl
      have q4 : numO K P V 5 0 480 (j + 8) = oo (ck K P (decide (K (j + 8) = ((5 : Nat) : Int))) 2 (j + 8)) (tdO K P V 0 480 (j + 9)) := rfl
      have q5 : numO K P V 6 (V (j + 9) + 1) 480 (j + 10) = oo (ck K P (decide (K (j + 10) = ((6 : Nat) : Int))) 2 (j + 10)) (tdO K P V (V (j + 9) + 1) 480 (j + 11)) := rfl
      unfold liftW
      rw [hp10, hp9, hp8, hp7, hp6, hp5, hp4, hp3, hp2, hp1, q1, q2, q3, q4, q5, e18, ent, pt_neg R (by omega)]
      simp only [oo_none, oo_assoc]
    have sub9 : p10 = none → p9 = none := fun y => (oo_none_iff.mp (hp10.symm.trans y)).1
    have kk : ∀ ψ : pS, mSt σ n K P V E c p10 (j + 12) ψ → p10 = none → inR (rd ψ 68 6) ∧ (rd ψ 68 6 = 1 → inL (rd ψ 68 9)) ∧ vIsW ψ 1734440037 = decide (K (j + 12) = 7) ∧ j + 12 ≤ c := fun ψ H y => by
      have hc := (H.2.1 y).2.2
      have so := hc.sort R
      exact ⟨by unfold inR; omega, fun w => ((hc.word R).2.2 w).2.1, (hc.word R).1 7 (by decide), hc.1⟩
    refine g_X11_readWayL_50 (Q1 := fun r τ => r = none ∧ rBd σ n K P V E c x φ none (j + 2) (fun a => rd φ a x) τ)
      (Q2 := fun r τ => ∃ v, r = some (0, v) ∧ rBd σ n K P V E c x φ p1 (j + 3) (fun a => rd φ a x) τ ∧ (p1 = none → v = V (j + 2)))
      (Q3 := fun r τ => ∃ v, r = some (0, v) ∧ rBd σ n K P V E c x φ p2 (j + 4) (updF (fun a => rd φ a x) 71 (V (j + 2))) τ ∧ (p2 = none → v = V (j + 3)))
      (Q4 := fun r τ => r = none ∧ rBd σ n K P V E c x φ p3 (j + 5) (updF (updF (fun a => rd φ a x) 71 (V (j + 2))) 72 (V (j + 3))) τ)
      (Q5 := fun r τ => ∃ v, r = some (0, v) ∧ rBd σ n K P V E c x φ p4 (j + 6) (updF (updF (fun a => rd φ a x) 71 (V (j + 2))) 72 (V (j + 3))) τ ∧ (p4 = none → v = V (j + 5)))
      (Q6 := fun r τ => r = none ∧ rBd σ n K P V E c x φ p5 (j + 7) (updF (updF (updF (fun a => rd φ a x) 71 (V (j + 2))) 72 (V (j + 3))) 73 (V (j + 5))) τ)
      (Q7 := fun r τ => ∃ v, r = some (0, v) ∧ rBd σ n K P V E c x φ p6 (j + 8) (updF (updF (updF (fun a => rd φ a x) 71 (V (j + 2))) 72 (V (j + 3))) 73 (V (j + 5))) τ ∧ (p6 = none → v = V (j + 7)))
      (Q8 := fun r τ => r = none ∧ rBd σ n K P V E c x φ p7 (j + 9) (updF (updF (updF (updF (fun a => rd φ a x) 71 (V (j + 2))) 72 (V (j + 3))) 73 (V (j + 5))) 74 (V (j + 7))) τ)
      (Q9 := fun r τ => ∃ v, r = some (0, v) ∧ rBd σ n K P V E c x φ p8 (j + 10) (updF (updF (updF (updF (fun a => rd φ a x) 71 (V (j + 2))) 72 (V (j + 3))) 73 (V (j + 5))) 74 (V (j + 7))) τ ∧ (p8 = none → v = V (j + 9)))
      (Q10 := fun r τ => r = none ∧ rBd σ n K P V E c x φ p9 (j + 11) (updF (updF (updF (updF (updF (fun a => rd φ a x) 71 (V (j + 2))) 72 (V (j + 3))) 73 (V (j + 5))) 74 (V (j + 7))) 75 (V (j + 9))) τ)
      (Q11 := fun r τ => ∃ v, r = some (0, v) ∧ rBd σ n K P V E c x φ p10 (j + 12) (updF (updF (updF (updF (updF (fun a => rd φ a x) 71 (V (j + 2))) 72 (V (j + 3))) 73 (V (j + 5))) 74 (V (j + 7))) 75 (V (j + 9))) τ ∧ (p10 = none → v = V (j + 11)))
      (Q12 := fun r τ => r = none ∧ p10 = none ∧ K (j + 12) = 7 ∧ mSt σ n K P V E c none (j + 13) τ ∧ wyM x φ τ ∧ rd τ 68 17 = rd φ 68 17 ∧ rd τ 68 18 = rd φ 68 18 ∧ (∀ a : Int, 71 ≤ a → a ≤ 76 → rd τ a x = liftG V j a) ∧ rd τ 83 x = 1)
      hd (S.eq h.2.1.1) x u3 u4 hu3 hu4 f0.1 (fun _ => ?_) (fun _ τ1 _ q1 => ?_) (fun _ τ1 _ q1 v2 τ2 _ q2 => by omega) (fun _ τ1 _ q1 v2 τ2 _ q2 => ?_) (fun _ τ1 _ q1 v2 τ2 _ q2 v3 τ3 _ q3 => ?_) (fun _ τ1 _ q1 v2 τ2 _ q2 v3 τ3 _ q3 τ4 _ q4 => ?_) (fun _ τ1 _ q1 v2 τ2 _ q2 v3 τ3 _ q3 τ4 _ q4 v5 τ5 _ q5 => ?_) (fun _ τ1 _ q1 v2 τ2 _ q2 v3 τ3 _ q3 τ4 _ q4 v5 τ5 _ q5 τ6 _ q6 => ?_) (fun _ τ1 _ q1 v2 τ2 _ q2 v3 τ3 _ q3 τ4 _ q4 v5 τ5 _ q5 τ6 _ q6 v7 τ7 _ q7 => ?_) (fun _ τ1 _ q1 v2 τ2 _ q2 v3 τ3 _ q3 τ4 _ q4 v5 τ5 _ q5 τ6 _ q6 v7 τ7 _ q7 τ8 _ q8 => ?_) (fun _ τ1 _ q1 v2 τ2 _ q2 v3 τ3 _ q3 τ4 _ q4 v5 τ5 _ q5 τ6 _ q6 v7 τ7 _ q7 τ8 _ q8 v9 τ9 _ q9 => ?_) (fun _ τ1 _ q1 v2 τ2 _ q2 v3 τ3 _ q3 τ4 _ q4 v5 τ5 _ q5 τ6 _ q6 v7 τ7 _ q7 τ8 _ q8 v9 τ9 _ q9 τ10 _ q10 => ?_) (fun _ τ1 _ q1 v2 τ2 _ q2 v3 τ3 _ q3 τ4 _ q4 v5 τ5 _ q5 τ6 _ q6 v7 τ7 _ q7 τ8 _ q8 v9 τ9 _ q9 τ10 _ q10 v11 τ11 _ q11 => ?_) (fun _ τ1 _ q1 v2 τ2 _ q2 v3 τ3 _ q3 τ4 _ q4 v5 τ5 _ q5 τ6 _ q6 v7 τ7 _ q7 τ8 _ q8 v9 τ9 _ q9 τ10 _ q10 v11 τ11 _ q11 c3 => ?_) (fun _ τ1 _ q1 v2 τ2 _ q2 v3 τ3 _ q3 τ4 _ q4 v5 τ5 _ q5 τ6 _ q6 v7 τ7 _ q7 τ8 _ q8 v9 τ9 _ q9 τ10 _ q10 v11 τ11 _ q11 c3 => by omega) (fun _ τ1 _ q1 v2 τ2 _ q2 v3 τ3 _ q3 τ4 _ q4 v5 τ5 _ q5 τ6 _ q6 v7 τ7 _ q7 τ8 _ q8 v9 τ9 _ q9 τ10 _ q10 v11 τ11 _ q11 c3 => b2i_Ri _) (fun _ τ1 _ q1 v2 τ2 _ q2 v3 τ3 _ q3 τ4 _ q4 v5 τ5 _ q5 τ6 _ q6 v7 τ7 _ q7 τ8 _ q8 v9 τ9 _ q9 τ10 _ q10 v11 τ11 _ q11 c3 c5 => ?_) (fun _ τ1 _ q1 v2 τ2 _ q2 v3 τ3 _ q3 τ4 _ q4 v5 τ5 _ q5 τ6 _ q6 v7 τ7 _ q7 τ8 _ q8 v9 τ9 _ q9 τ10 _ q10 v11 τ11 _ q11 c3 c6 => ?_) (fun _ τ1 _ q1 v2 τ2 _ q2 v3 τ3 _ q3 τ4 _ q4 v5 τ5 _ q5 τ6 _ q6 v7 τ7 _ q7 τ8 _ q8 v9 τ9 _ q9 τ10 _ q10 v11 τ11 _ q11 c3 c6 τ13 _ q13 => ?_) (fun _ τ1 _ q1 v2 τ2 _ q2 v3 τ3 _ q3 τ4 _ q4 v5 τ5 _ q5 τ6 _ q6 v7 τ7 _ q7 τ8 _ q8 v9 τ9 _ q9 τ10 _ q10 v11 τ11 _ q11 c4 => ?_) (fun c2 => absurd rfl (f0.2.2.1 c2))
    · exact (next_M (Nat.le_refl 1) (S.eq h.2.1.1) T h.1 jc (by omega)).mono fun r τ _ q => ⟨q.1, rB_fr h q.2.1.m q.2.2 (fun y => y)⟩
    · have := rB_point (Nat.le_refl 2) S T q1.2 (v := -1) (fun _ => by decide)
      rw [oo_none, ← hp1] at this
      exact this
    · obtain ⟨v, e, b, ev⟩ := q2
      have e := so_inj e
      subst e
      have ge : p1 = none → 0 ≤ V (j + 2) ∧ V (j + 2) ≤ 9 := fun y => by
        rw [hp1, pt_neg R (by omega)] at y
        have k20 : K (j + 2) = 20 := of_decide_eq_true (ck_none.mp y)
        exact (R.2.2 _ (R.lt (by omega) (by omega))).2.1 k20
      have := rB_point (Nat.le_refl 2) S T (rB_wr b (a := 71) (by decide) ev) (v := v2) (fun y => by rw [ev y]; have := ge y; unfold inR; omega)
      rw [oo_cg (b' := ptO K P V (V (j + 2)) (j + 3)) (fun y => by rw [ev y]), ← hp2] at this
      exact this
    · obtain ⟨v, e, b, ev⟩ := q3
      have e := so_inj e
      subst e
      have := rB_want (Nat.le_refl 2) S T (rB_wr b (a := 72) (by decide) ev) 3 (by decide) (w := 499850634611) rfl
      rw [← hp3] at this
      exact this
    · have := rB_told (Nat.le_refl 2) S T q4.2 (lo := 1) (hi := 30) (fun _ => by decide) (by decide)
      rw [← hp4] at this
      exact this
    · obtain ⟨v, e, b, ev⟩ := q5
      have e := so_inj e
      subst e
      have := rB_want (Nat.le_refl 2) S T (rB_wr b (a := 73) (by decide) ev) 4 (by decide) (w := 495622124659) rfl
      rw [← hp5] at this
      exact this
    · have := rB_told (Nat.le_refl 2) S T q6.2 (lo := 1) (hi := 99) (fun _ => by decide) (by decide)
      rw [← hp6] at this
      exact this
    · obtain ⟨v, e, b, ev⟩ := q7
      have e := so_inj e
      subst e
      have := rB_want (Nat.le_refl 2) S T (rB_wr b (a := 74) (by decide) ev) 5 (by decide) (w := 1718775661) rfl
      rw [← hp7] at this
      exact this
    · have := rB_told (Nat.le_refl 2) S T q8.2 (lo := 0) (hi := 480) (fun _ => by decide) (by decide)
      rw [← hp8] at this
      exact this
    · obtain ⟨v, e, b, ev⟩ := q9
      have e := so_inj e
      subst e
      have := rB_want (Nat.le_refl 2) S T (rB_wr b (a := 75) (by decide) ev) 6 (by decide) (w := 29807) rfl
      rw [← hp9] at this
      exact this
    · have e75 : p9 = none → rd τ10 75 x = V (j + 9) := fun y => q10.2.2.2.2 y 75 (by decide) (by decide)
      have ge : p9 = none → 0 ≤ V (j + 9) ∧ V (j + 9) ≤ 480 := fun y => by
        have y8 := (oo_none_iff.mp (hp9.symm.trans y)).1
        have y9 := (oo_none_iff.mp (hp8.symm.trans y8)).2
        have y10 := of_decide_eq_true (ck_none.mp (oo_none_iff.mp y9).2)
        exact y10
      have := rB_told (Nat.le_refl 2) S T q10.2 (lo := rd τ10 75 x + 1) (hi := 480) (fun y => by rw [e75 y]; have := ge y; unfold inR; omega) (by decide)
      rw [oo_cg (b' := tdO K P V (V (j + 9) + 1) 480 (j + 11)) (fun y => by rw [e75 y]), ← hp10] at this
      exact this
    · obtain ⟨v, e, b, ev⟩ := q11
      exact b.1.fault.1
    · obtain ⟨v, e, b, ev⟩ := q11
      have e := so_inj e
      subst e
      have y := b.1.fault.2.1 c3
      have bw := rB_wr b (a := 76) (by decide) ev
      have k := kk _ bw.1 y
      exact isWord_C (S.eq bw.2.1.1) k.1 k.2.1 (by decide)
    · obtain ⟨v, e, b, ev⟩ := q11
      have e := so_inj e
      subst e
      have y := b.1.fault.2.1 c3
      have bw := rB_wr b (a := 76) (by decide) ev
      have k := kk _ bw.1 y
      have k7 : ¬ K (j + 12) = 7 := by
        have := b2i_0 c5
        rw [k.2.2.1] at this
        exact of_decide_eq_false this
      have el : lsc K j = j + 12 := if_neg k7
      refine ⟨rfl, ?_, ⟨bw.2.1.1, fun a i y1 y2 y3 => by rw [rd_wr_n (by omega), rd_wr_n (by omega), rd_wr_n (by omega)]; exact bw.2.1.2 a i y1 y2 y3⟩, fun _ => ⟨?_, ?_, ?_, fun a a0 a1 => ?_, ?_⟩⟩
      · rw [ew, el]; exact ((bw.1.wr (by omega)).wr (by omega)).wr (by omega)
      · rw [rd_wr_n (by omega), rd_wr_same, b.2.2.1.1]
      · rw [rd_wr_n (by omega), rd_wr_n (by omega), rd_wr_n (by omega)]; exact bw.2.2.1.2
      · rw [rd_wr_same]; exact wd.1
      · rw [rd_wr_n (by omega), rd_wr_n (by omega), rd_wr_n (by omega), bw.2.2.2 y a a0 a1]; exact liftG_eq a a0 a1
      · rw [rd_wr_n (by omega), rd_wr_n (by omega), rd_wr_same, k.2.2.1]
    · obtain ⟨v, e, b, ev⟩ := q11
      have e := so_inj e
      subst e
      have y := b.1.fault.2.1 c3
      have bw := rB_wr b (a := 76) (by decide) ev
      have k := kk _ bw.1 y
      have wT := b2i_n c6
      have k7 : K (j + 12) = 7 := by
        have t := wT
        rw [k.2.2.1] at t
        exact of_decide_eq_true t
      rw [wT]
      have H13 := bw.1.wr (a := 83) (i := x) (v := b2i true) (by omega)
      rw [y] at H13
      refine (next_M (Nat.le_refl 1) (S.eq bw.2.1.1).wr T H13 (R.lt k.2.2.2 (by omega)) (by omega)).mono fun r τ _ q => ⟨q.1, y, k7, q.2.2, ⟨q.2.1.1.trans bw.2.1.1, fun a i y1 y2 y3 => ?_⟩, ?_, ?_, fun a a0 a1 => ?_, ?_⟩
      · rw [q.2.1.m.2 a i y1, rd_wr_n (by omega)]; exact bw.2.1.2 a i y1 y2 y3
      · rw [q.2.1.m.2 _ _ (by omega), rd_wr_n (by omega)]; exact bw.2.2.1.1
      · rw [q.2.1.m.2 _ _ (by omega), rd_wr_n (by omega)]; exact bw.2.2.1.2
      · rw [q.2.1.m.2 _ _ (by omega), rd_wr_n (by omega), bw.2.2.2 y a a0 a1]; exact liftG_eq a a0 a1
      · rw [q.2.1.m.2 _ _ (by omega), rd_wr_same]; rfl
    · obtain ⟨y1, y2, y3, y4, y5, y6, y7, y8⟩ := q13.2
      have el : lsc K j = j + 13 := if_pos y2
      refine ⟨rfl, ?_, ⟨y4.1, fun a i z1 z2 z3 => by rw [rd_wr_n (by omega), rd_wr_n (by omega)]; exact y4.2 a i z1 z2 z3⟩, fun _ => ⟨?_, ?_, ?_, fun a a0 a1 => ?_, ?_⟩⟩
      · rw [ew, el, y1]; exact (y3.wr (by omega)).wr (by omega)
      · rw [rd_wr_n (by omega), rd_wr_same, y5]
      · rw [rd_wr_n (by omega), rd_wr_n (by omega)]; exact y6
      · rw [rd_wr_same]; exact wd.1
      · rw [rd_wr_n (by omega), rd_wr_n (by omega)]; exact y7 a a0 a1
      · rw [rd_wr_n (by omega), rd_wr_n (by omega), y8, decide_eq_true y2]; rfl
    · obtain ⟨v, e, b, ev⟩ := q11
      have y := b.1.fault.2.2.1 c4
      have e := so_inj e
      subst e
      have bw := rB_wr b (a := 76) (by decide) ev
      exact ⟨rfl, by rw [ew]; exact bw.1.to rfl (fun z => absurd z y), bw.2.1, fun z => absurd (ew.symm.trans z) y⟩
  · have ew : liftW K P V nt j = o1 := by
      have q1 : endsO K P V nt (j + 1) = oo o1 (oo (ck K P (decide (K (j + 2) = 20)) 2 (j + 2)) (ptO K P V (V (j + 2)) (j + 3))) := by
        rw [eo, oo_assoc]; rfl
      unfold liftW
      rw [q1]
      cases ho : o1 with
      | none => exact absurd ho z
      | some y => rfl
    have c2 : ¬ (rd ψ 68 2 ≤ 0) := fun y => z (f0.2.1 y)
    exact g_X11_readWayL_50 (Q1 := fun _ _ => True) (Q2 := fun _ _ => True) (Q3 := fun _ _ => True) (Q4 := fun _ _ => True) (Q5 := fun _ _ => True) (Q6 := fun _ _ => True) (Q7 := fun _ _ => True) (Q8 := fun _ _ => True) (Q9 := fun _ _ => True) (Q10 := fun _ _ => True) (Q11 := fun _ _ => True) (Q12 := fun _ _ => True) hd (S.eq h.2.1.1) x u3 u4 hu3 hu4 f0.1 (fun c1 => absurd c1 c2) (fun c1 => absurd c1 c2) (fun c1 => absurd c1 c2) (fun c1 => absurd c1 c2) (fun c1 => absurd c1 c2) (fun c1 => absurd c1 c2) (fun c1 => absurd c1 c2) (fun c1 => absurd c1 c2) (fun c1 => absurd c1 c2) (fun c1 => absurd c1 c2) (fun c1 => absurd c1 c2) (fun c1 => absurd c1 c2) (fun c1 => absurd c1 c2) (fun c1 => absurd c1 c2) (fun c1 => absurd c1 c2) (fun c1 => absurd c1 c2) (fun c1 => absurd c1 c2) (fun c1 => absurd c1 c2) (fun c1 => absurd c1 c2) (fun c1 => absurd c1 c2) (fun _ => ⟨rfl, by rw [ew]; exact h.1.to rfl (fun y => absurd y z), h.2.1, fun y => absurd (ew.symm.trans y) z⟩)
