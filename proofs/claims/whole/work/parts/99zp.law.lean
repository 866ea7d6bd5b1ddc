/-! the reference reads a law: its rows -/
def dpW : List Int → Nat
  | [] => 0
  | x :: w => (if x = 20 ∨ x = 28 then 1 else 0) + dpW w
def stk (τ : pS) : List Int → Prop
  | [] => True
  | x :: r => rd τ 95 (r.length : Int) = x ∧ stk τ r
def hdT : List Int → Int
  | [] => 28
  | x :: _ => x
theorem stk.of {τ υ : pS} : ∀ {w : List Int}, stk τ w → (∀ i : Nat, i < w.length → rd υ 95 (i : Int) = rd τ 95 (i : Int)) → stk υ w
  | [], _, _ => trivial
  | x :: r, h, e => ⟨(e r.length (Nat.lt_succ_self _)).trans h.1, stk.of h.2 fun i hi => e i (Nat.lt_succ_of_lt hi)⟩
theorem stk.mem {τ : pS} {y : Int} : ∀ {w : List Int}, stk τ w → ((∃ i : Nat, i < w.length ∧ rd τ 95 (i : Int) = y) ↔ y ∈ w)
  | [], _ => ⟨fun ⟨i, hi, _⟩ => absurd hi (Nat.not_lt_zero i), fun h => by cases h⟩
  | x :: r, h => by
    have ih := stk.mem (y := y) h.2
    refine ⟨fun ⟨i, hi, e⟩ => ?_, fun m => ?_⟩
    · by_cases z : i < r.length
      · exact List.mem_cons_of_mem _ (ih.mp ⟨i, z, e⟩)
      · have ei : i = r.length := by
          have hi : i < r.length + 1 := hi
          omega
        rw [ei, h.1] at e
        rw [e]; exact List.mem_cons_self
    · rcases List.mem_cons.mp m with z | z
      · exact ⟨r.length, Nat.lt_succ_self _, h.1.trans z.symm⟩
      · obtain ⟨i, hi, e⟩ := ih.mpr z
        exact ⟨i, Nat.lt_succ_of_lt hi, e⟩
theorem dpW_le (w : List Int) : dpW w ≤ w.length := by
  induction w with
  | nil => exact Nat.le_refl _
  | cons x r ih =>
    show (if x = 20 ∨ x = 28 then 1 else 0) + dpW r ≤ r.length + 1
    split <;> omega
def eFr (φ τ : pS) : Prop := τ.1 = φ.1 ∧ ∀ a i : Int, ¬ (a = 68 ∧ ((2 ≤ i ∧ i ≤ 9 ∧ i ≠ 5) ∨ i = 44 ∨ i = 45 ∨ i = 48 ∨ i = 49)) → a ≠ 85 → a ≠ 86 → a ≠ 95 → rd τ a i = rd φ a i
theorem eFr.rf (φ : pS) : eFr φ φ := ⟨rfl, fun _ _ _ _ _ _ => rfl⟩
theorem eFr.tr {σ τ υ : pS} (h : eFr σ τ) (g : eFr τ υ) : eFr σ υ := ⟨g.1.trans h.1, fun a i q1 q2 q3 q4 => (g.2 a i q1 q2 q3 q4).trans (h.2 a i q1 q2 q3 q4)⟩
theorem mFr.e {φ τ : pS} (h : mFr φ τ) : eFr φ τ := ⟨h.1, fun a i q _ _ _ => h.2 a i (by omega)⟩
theorem eFr.wr {φ τ : pS} {a i v : Int} (h : eFr φ τ) (ha : (a = 68 ∧ (i = 44 ∨ i = 45 ∨ i = 48 ∨ i = 49)) ∨ a = 85 ∨ a = 86 ∨ a = 95) : eFr φ (wr τ a i v) := ⟨h.1, fun b j q1 q2 q3 q4 => by rw [rd_wr_n (by omega)]; exact h.2 b j q1 q2 q3 q4⟩
def eSt (σ : pS) (n : Int) (K P V E : Nat → Int) (c : Nat) (φ0 : pS) (A : List (Int × Int)) (w : List Int) (u j : Nat) (τ : pS) : Prop := eFr φ0 τ ∧ mSt σ n K P V E c none j τ ∧ (rd τ 68 44 = (A.length : Int) ∧ ∀ (i : Nat) (p : Int × Int), A[i]? = some p → rd τ 85 (i : Int) = p.1 ∧ rd τ 86 (i : Int) = p.2) ∧ (rd τ 68 48 = (w.length : Int) ∧ rd τ 68 49 = (dpW w : Int) ∧ stk τ w ∧ ∀ x ∈ w, 20 ≤ x ∧ x ≤ 28) ∧ rd τ 68 45 = (u : Int)
section LRS
variable {σ : pS} {n : Int} {K P V E : Nat → Int} {c : Nat} {φ0 : pS}
theorem eSt.hd {A : List (Int × Int)} {w : List Int} {u j : Nat} {τ : pS} (h : eSt σ n K P V E c φ0 A w u j τ) : vTop τ = hdT w ∧ 20 ≤ hdT w ∧ hdT w ≤ 28 := by
  obtain ⟨h1, h2, h3, ⟨h4, h5, h6, h7⟩, h8⟩ := h
  cases w with
  | nil =>
    refine ⟨?_, by decide, by decide⟩
    unfold vTop
    have h4 : rd τ 68 48 = 0 := h4
    rw [if_pos h4]; rfl
  | cons x r =>
    refine ⟨?_, (h7 x List.mem_cons_self).1, (h7 x List.mem_cons_self).2⟩
    unfold vTop
    have e : rd τ 68 48 = (r.length : Int) + 1 := h4
    rw [if_neg (by omega), e, show (r.length : Int) + 1 - 1 = (r.length : Int) by omega]
    exact h6.1
theorem top_E {d : Nat} {A : List (Int × Int)} {w : List Int} {u j : Nat} {τ : pS} (S : Stat τ) (h : eSt σ n K P V E c φ0 A w u j τ) (hw : w.length < 300) : pC mX11_top d [(2, 68)] τ (fun r υ => r = some (0, vTop τ) ∧ υ = τ) := by
  have h4 := h.2.2.2.1.1
  refine g_X11_top_0 (Nat.zero_le d) S (by unfold inR; omega) (fun c1 => by omega) (fun c1 => ⟨?_, rfl⟩) (fun c2 => ⟨?_, rfl⟩)
  · unfold vTop
    rw [if_neg c1]
  · unfold vTop
    rw [if_pos c2]
theorem isOpen_E {d : Nat} {A : List (Int × Int)} {w : List Int} {u j : Nat} {τ : pS} (S : Stat τ) (h : eSt σ n K P V E c φ0 A w u j τ) (hw : w.length < 300) : pC mX11_isOpen d [(2, 68)] τ (fun r υ => r = some (0, b2i (vIsO τ)) ∧ υ = τ) := by
  have h4 := h.2.2.2.1.1
  have h6 := h.2.2.2.1.2.2.1
  have h7 := h.2.2.2.1.2.2.2
  have loop : ∀ (m i : Nat) (b : Bool), w.length = i + m → (b = true ↔ ∃ k : Nat, k < i ∧ rd τ 95 (k : Int) = 28) → pR mX11_isOpen d 4 [(2, 68), (0, b2i b), (0, (i : Int))] [] τ (fun r υ => r = some (0, b2i (vIsO τ)) ∧ υ = τ) := fun m => by
    induction m with
    | zero =>
      intro i b e hb
      have eb : vIsO τ = b := by
        unfold vIsO
        rw [h4]
        cases b with
        | true =>
          obtain ⟨k, hk, ek⟩ := hb.mp rfl
          exact decide_eq_true ⟨k, by omega, ek⟩
        | false =>
          refine decide_eq_false fun ⟨k, hk, ek⟩ => ?_
          have := hb.mpr ⟨k, by omega, ek⟩
          cases this
      rw [eb]
      exact g_X11_isOpen_4 (Nat.zero_le d) S (b2i b) (i : Int) (by unfold inR; omega) (by unfold inR; omega) (fun _ => ⟨rfl, rfl⟩) (fun _ => by cases b <;> decide) (fun c2 => by omega) (fun c2 => by omega) (fun c2 => by omega) (fun c2 => by omega) (fun c2 => by omega) (fun c2 => by omega)
    | succ m ih =>
      intro i b e hb
      have mem : rd τ 95 (i : Int) ∈ w := (stk.mem h6).mp ⟨i, by omega, rfl⟩
      have rg := h7 _ mem
      refine g_X11_isOpen_4 (Nat.zero_le d) S (b2i b) (i : Int) (by unfold inR; omega) (by unfold inR; omega) (fun c1 => by omega) (fun _ => by cases b <;> decide) (fun _ => b2i_Ri b) (fun _ c3 => ?_) (fun _ _ => by omega) (fun _ _ => by unfold inR; omega) (fun _ c4 c5 => ?_) (fun _ c4 c6 => ?_)
      · have eb := b2i_n c3
        exact ih (i + 1) true (by omega) ⟨fun _ => by obtain ⟨k, hk, ek⟩ := hb.mp eb; exact ⟨k, by omega, ek⟩, fun _ => rfl⟩
      · have eb := b2i_0 c4
        refine ih (i + 1) false (by omega) ⟨fun z => (by cases z), fun ⟨k, hk, ek⟩ => ?_⟩
        by_cases z : k = i
        · rw [z] at ek; exact absurd ek c5
        · have := hb.mpr ⟨k, by omega, ek⟩
          rw [eb] at this; exact this
      · exact ih (i + 1) true (by omega) ⟨fun _ => ⟨i, by omega, c6⟩, fun _ => rfl⟩
  exact g_X11_isOpen_0 (Nat.zero_le d) S (loop w.length 0 false (by omega) ⟨fun z => (by cases z), fun ⟨k, hk, _⟩ => absurd hk (Nat.not_lt_zero k)⟩)
theorem eSt.op {A : List (Int × Int)} {w : List Int} {u j : Nat} {τ : pS} (h : eSt σ n K P V E c φ0 A w u j τ) : vIsO τ = decide (28 ∈ w) := by
  have h4 := h.2.2.2.1.1
  have m := stk.mem (y := 28) h.2.2.2.1.2.2.1
  unfold vIsO
  rw [h4]
  by_cases z : (28 : Int) ∈ w
  · rw [decide_eq_true z]
    obtain ⟨i, hi, e⟩ := m.mpr z
    exact decide_eq_true ⟨i, by omega, e⟩
  · rw [decide_eq_false z]
    exact decide_eq_false fun ⟨i, hi, e⟩ => z (m.mp ⟨i, by omega, e⟩)
theorem step_E {d : Nat} {A : List (Int × Int)} {w : List Int} {u j : Nat} {τ : pS} {x1 x2 : Int} (S : Stat τ) (h : eSt σ n K P V E c φ0 A w u j τ) (hA : A.length < 600) : pC mX11_step d [(2, 68), (0, x1), (0, x2)] τ (fun r υ => r = none ∧ eSt σ n K P V E c φ0 (A ++ [(x1, x2)]) w u j υ) := by
  obtain ⟨h1, h2, ⟨h3, h3'⟩, ⟨h4, h5, h6, h7⟩, h8⟩ := h
  refine g_X11_step_0 (Nat.zero_le d) S x1 x2 (by omega) ⟨rfl, ((h1.wr (by omega)).wr (by omega)).wr (by omega), ((h2.wr (by omega)).wr (by omega)).wr (by omega), ⟨?_, fun i p e => ?_⟩, ⟨?_, ?_, h6.of (fun i hi => ?_), h7⟩, ?_⟩
  · rw [rd_wr_same, h3]
    simp only [List.length_append, List.length_cons, List.length_nil]; omega
  · rw [h3]
    by_cases z : i < A.length
    · rw [List.getElem?_append_left z] at e
      rw [rd_wr_n (by omega), rd_wr_n (by omega), rd_wr_n (by omega), rd_wr_n (by omega), rd_wr_n (by omega), rd_wr_n (by omega)]
      exact h3' i p e
    · rw [List.getElem?_append_right (by omega)] at e
      have ei : i = A.length := by
        by_cases y : i - A.length = 0
        · omega
        · rw [List.getElem?_eq_none (by simp; omega)] at e; cases e
      subst ei
      rw [Nat.sub_self] at e
      have ep : (x1, x2) = p := Option.some.inj e
      rw [← ep]
      exact ⟨by rw [rd_wr_n (by omega), rd_wr_n (by omega), rd_wr_same], by rw [rd_wr_n (by omega), rd_wr_same]⟩
  · rw [rd_wr_n (by omega), rd_wr_n (by omega), rd_wr_n (by omega)]; exact h4
  · rw [rd_wr_n (by omega), rd_wr_n (by omega), rd_wr_n (by omega)]; exact h5
  · rw [rd_wr_n (by omega), rd_wr_n (by omega), rd_wr_n (by omega)]
  · rw [rd_wr_n (by omega), rd_wr_n (by omega), rd_wr_n (by omega)]; exact h8
theorem hold_E {d : Nat} {A : List (Int × Int)} {w : List Int} {u j : Nat} {τ : pS} {x : Int} (S : Stat τ) (h : eSt σ n K P V E c φ0 A w u j τ) (hw : w.length < 300) (hx : 20 ≤ x ∧ x ≤ 28) : pC mX11_hold d [(2, 68), (0, x)] τ (fun r υ => r = none ∧ eSt σ n K P V E c φ0 A (x :: w) u j υ) := by
  obtain ⟨h1, h2, ⟨h3, h3'⟩, ⟨h4, h5, h6, h7⟩, h8⟩ := h
  have m : ∀ y ∈ x :: w, 20 ≤ y ∧ y ≤ 28 := fun y hy => by
    rcases List.mem_cons.mp hy with z | z
    · rw [z]; exact hx
    · exact h7 y z
  have deep : (x = 28 ∨ x = 20) → eSt σ n K P V E c φ0 A (x :: w) u j (wr (wr (wr τ 95 (rd τ 68 48) x) 68 48 ((rd τ 68 48) + 1)) 68 49 ((rd τ 68 49) + 1)) := fun hx' => by
    refine ⟨((h1.wr (by omega)).wr (by omega)).wr (by omega), ((h2.wr (by omega)).wr (by omega)).wr (by omega), ⟨?_, fun i p e => ?_⟩, ⟨?_, ?_, ⟨?_, h6.of (fun i hi => ?_)⟩, m⟩, ?_⟩
    · rw [rd_wr_n (by omega), rd_wr_n (by omega), rd_wr_n (by omega)]; exact h3
    · rw [rd_wr_n (by omega), rd_wr_n (by omega), rd_wr_n (by omega), rd_wr_n (by omega), rd_wr_n (by omega), rd_wr_n (by omega)]; exact h3' i p e
    · rw [rd_wr_n (by omega), rd_wr_same, h4]; rfl
    · rw [rd_wr_same, h5]
      show (dpW w : Int) + 1 = (((if x = 20 ∨ x = 28 then 1 else 0) + dpW w : Nat) : Int)
      rw [if_pos (by omega)]; omega
    · rw [rd_wr_n (by omega), rd_wr_n (by omega), h4, rd_wr_same]
    · rw [rd_wr_n (by omega), rd_wr_n (by omega), rd_wr_n (by omega)]
    · rw [rd_wr_n (by omega), rd_wr_n (by omega), rd_wr_n (by omega)]; exact h8
  refine g_X11_hold_0 (Nat.zero_le d) S x (by omega) (by unfold inR; omega) (fun c1 => ⟨rfl, deep (Or.inl c1)⟩) (fun c2 c3 => ⟨rfl, (h1.wr (by omega)).wr (by omega), (h2.wr (by omega)).wr (by omega), ⟨?_, fun i p e => ?_⟩, ⟨?_, ?_, ⟨?_, h6.of (fun i hi => ?_)⟩, m⟩, ?_⟩) (fun c2 c4 => ⟨rfl, deep (Or.inr c4)⟩)
  · rw [rd_wr_n (by omega), rd_wr_n (by omega)]; exact h3
  · rw [rd_wr_n (by omega), rd_wr_n (by omega), rd_wr_n (by omega), rd_wr_n (by omega)]; exact h3' i p e
  · rw [rd_wr_same, h4]; rfl
  · rw [rd_wr_n (by omega), rd_wr_n (by omega), h5]
    show (dpW w : Int) = (((if x = 20 ∨ x = 28 then 1 else 0) + dpW w : Nat) : Int)
    rw [if_neg (by omega)]; omega
  · rw [rd_wr_n (by omega), h4, rd_wr_same]
  · rw [rd_wr_n (by omega), rd_wr_n (by omega)]
  · rw [rd_wr_n (by omega), rd_wr_n (by omega)]; exact h8
theorem eSt.drop {A : List (Int × Int)} {w : List Int} {x : Int} {u j : Nat} {τ : pS} (h : eSt σ n K P V E c φ0 A (x :: w) u j τ) (hx : x = 20 ∨ x = 28) : eSt σ n K P V E c φ0 A w u j (wr (wr τ 68 48 ((rd τ 68 48) - 1)) 68 49 ((rd τ 68 49) - 1)) := by
  obtain ⟨h1, h2, ⟨h3, h3'⟩, ⟨h4, h5, h6, h7⟩, h8⟩ := h
  have h4 : rd τ 68 48 = (w.length : Int) + 1 := h4
  have h5 : rd τ 68 49 = (((if x = 20 ∨ x = 28 then 1 else 0) + dpW w : Nat) : Int) := h5
  rw [if_pos hx] at h5
  refine ⟨(h1.wr (by omega)).wr (by omega), (h2.wr (by omega)).wr (by omega), ⟨?_, fun i p e => ?_⟩, ⟨?_, ?_, h6.2.of (fun i hi => ?_), fun y hy => h7 y (List.mem_cons_of_mem _ hy)⟩, ?_⟩
  · rw [rd_wr_n (by omega), rd_wr_n (by omega)]; exact h3
  · rw [rd_wr_n (by omega), rd_wr_n (by omega), rd_wr_n (by omega), rd_wr_n (by omega)]; exact h3' i p e
  · rw [rd_wr_n (by omega), rd_wr_same]; omega
  · rw [rd_wr_same]; omega
  · rw [rd_wr_n (by omega), rd_wr_n (by omega)]
  · rw [rd_wr_n (by omega), rd_wr_n (by omega)]; exact h8
theorem pop_E {d : Nat} {A : List (Int × Int)} {w : List Int} {x : Int} {u j : Nat} {τ : pS} (hd : 1 ≤ d) (S : Stat τ) (h : eSt σ n K P V E c φ0 A (x :: w) u j τ) (hw : w.length < 300) (hA : A.length < 600) (hx : x ≠ 28) : pC mX11_pop d [(2, 68)] τ (fun r υ => r = none ∧ eSt σ n K P V E c φ0 (A ++ [(x, 0)]) w u j υ) := by
  have h' := h
  obtain ⟨h1, h2, ⟨h3, h3'⟩, ⟨h4, h5, h6, h7⟩, h8⟩ := h
  have h4 : rd τ 68 48 = (w.length : Int) + 1 := h4
  have ex : rd τ 95 ((rd τ 68 48) - 1) = x := by rw [h4, show (w.length : Int) + 1 - 1 = (w.length : Int) by omega]; exact h6.1
  have rx := h7 x List.mem_cons_self
  refine g_X11_pop_0 (Q1 := fun r υ => r = none ∧ eSt σ n K P V E c φ0 (A ++ [(x, 0)]) w u j υ) (Q2 := fun r υ => r = none ∧ eSt σ n K P V E c φ0 (A ++ [(x, 0)]) w u j υ) hd S (by omega) (by rw [ex]; unfold inR; omega) (fun c1 => ?_) (fun _ _ _ q => q) (fun c2 => ?_) (fun _ _ _ q => q)
  · rw [ex] at c1 ⊢
    refine step_E S.wr ?_ hA
    have h5 : rd τ 68 49 = (((if x = 20 ∨ x = 28 then 1 else 0) + dpW w : Nat) : Int) := h5
    rw [if_neg (by omega)] at h5
    refine ⟨h1.wr (by omega), h2.wr (by omega), ⟨?_, fun i p e => ?_⟩, ⟨?_, ?_, h6.2.of (fun i hi => ?_), fun y hy => h7 y (List.mem_cons_of_mem _ hy)⟩, ?_⟩
    · rw [rd_wr_n (by omega)]; exact h3
    · rw [rd_wr_n (by omega), rd_wr_n (by omega)]; exact h3' i p e
    · rw [rd_wr_same]; omega
    · rw [rd_wr_n (by omega)]; omega
    · rw [rd_wr_n (by omega)]
    · rw [rd_wr_n (by omega)]; exact h8
  · rw [ex] at c2 ⊢
    exact step_E S.wr.wr (h'.drop (Or.inl c2)) hA
/-- pops -/
theorem settle_E {d : Nat} {w : List Int} {u j : Nat} {x1 : Int} (hd : 2 ≤ d) (S0 : Stat φ0) (hx : inR x1) (hw : hdT w = 28 ∨ hdT w < x1) : ∀ (pend : List Int) {A : List (Int × Int)} {τ : pS}, (∀ p ∈ pend, p ≠ 28 ∧ x1 ≤ p) → eSt σ n K P V E c φ0 A (pend ++ w) u j τ → A.length + pend.length < 600 ∧ pend.length + w.length < 300 → pR mX11_settle d 0 [(2, 68), (0, x1)] [] τ (fun r υ => r = none ∧ eSt σ n K P V E c φ0 (A ++ pend.map (fun p => (p, (0 : Int)))) w u j υ)
  | [], A, τ, _, h, hb => by
    have S : Stat τ := S0.eq h.1.1
    have hb : A.length + 0 < 600 ∧ 0 + w.length < 300 := hb
    have h : eSt σ n K P V E c φ0 A w u j τ := h
    have t := h.hd
    have h' : eSt σ n K P V E c φ0 (A ++ [].map (fun p => (p, (0 : Int)))) w u j τ := by rw [List.map_nil, List.append_nil]; exact h
    exact g_X11_settle_0 (Q1 := fun _ _ => True) hd S x1 (top_E S h (by omega)) (by rw [t.1]; unfold inR; omega) (fun _ => ⟨rfl, h'⟩) (fun _ => top_E S h (by omega)) (fun _ => hx) (fun _ _ => ⟨rfl, h'⟩) (fun c2 c4 => by rw [t.1] at c2 c4; omega) (fun c2 c4 => by rw [t.1] at c2 c4; omega)
  | p :: r, A, τ, hp, h, hb => by
    have S : Stat τ := S0.eq h.1.1
    have hb : A.length + (r.length + 1) < 600 ∧ (r.length + 1) + w.length < 300 := hb
    have t := h.hd
    have t1 : vTop τ = p := t.1
    have hp1 := hp p List.mem_cons_self
    have lw : (p :: r ++ w).length < 300 := by simp only [List.length_append, List.length_cons]; omega
    have lw2 : (r ++ w).length < 300 := by simp only [List.length_append]; omega
    refine g_X11_settle_0 (Q1 := fun r' υ => r' = none ∧ eSt σ n K P V E c φ0 (A ++ [(p, 0)]) (r ++ w) u j υ) hd S x1 (top_E S h lw) (by rw [t.1]; unfold inR; omega) (fun c1 => by rw [t1] at c1; exact absurd c1 hp1.1) (fun _ => top_E S h lw) (fun _ => hx) (fun _ c3 => by rw [t1] at c3; omega) (fun _ _ => pop_E (Nat.le_refl _) S h lw2 (by omega) hp1.1) (fun _ _ τ1 _ q => ?_)
    have g := settle_E hd S0 hx hw r (fun y hy => hp y (List.mem_cons_of_mem _ hy)) q.2 (by simp only [List.length_append, List.length_cons, List.length_nil]; omega)
    rw [List.append_assoc] at g
    exact g
theorem settleOnes_E {d : Nat} {w : List Int} {u j : Nat} {b : Bool} (hd : 2 ≤ d) (S0 : Stat φ0) (hw : hdT w = 28 ∨ (b = true ∧ hdT w = 21)) : ∀ (pend : List Int) {A : List (Int × Int)} {τ : pS}, (∀ p ∈ pend, p ≠ 28 ∧ (b = true → p ≠ 21)) → eSt σ n K P V E c φ0 A (pend ++ w) u j τ → A.length + pend.length < 600 ∧ pend.length + w.length < 300 → pR mX11_settleOnes d 0 [(2, 68), (0, b2i b)] [] τ (fun r υ => r = none ∧ eSt σ n K P V E c φ0 (A ++ pend.map (fun p => (p, (0 : Int)))) w u j υ)
  | [], A, τ, _, h, hb => by
    have S : Stat τ := S0.eq h.1.1
    have hb : A.length + 0 < 600 ∧ 0 + w.length < 300 := hb
    have h : eSt σ n K P V E c φ0 A w u j τ := h
    have t := h.hd
    have h' : eSt σ n K P V E c φ0 (A ++ [].map (fun p => (p, (0 : Int)))) w u j τ := by rw [List.map_nil, List.append_nil]; exact h
    refine g_X11_settleOnes_0 (Q1 := fun _ _ => True) (Q2 := fun _ _ => True) hd S (b2i b) (top_E S h (by omega)) (by rw [t.1]; unfold inR; omega) (fun _ => ⟨rfl, h'⟩) (fun _ => b2i_Ri b) (fun c2 c3 => ?_) (fun c2 c3 => ?_) (fun _ _ => top_E S h (by omega)) (fun _ _ _ => ⟨rfl, h'⟩) (fun c2 c4 c6 => ?_) (fun c2 c4 c6 => ?_)
    all_goals rw [t.1] at c2
    · have := b2i_0 c3
      rcases hw with z | z
      · exact absurd z c2
      · rw [this] at z; cases z.1
    · have := b2i_0 c3
      rcases hw with z | z
      · exact absurd z c2
      · rw [this] at z; cases z.1
    · rw [t.1] at c6; omega
    · rw [t.1] at c6; omega
  | p :: r, A, τ, hp, h, hb => by
    have S : Stat τ := S0.eq h.1.1
    have hb : A.length + (r.length + 1) < 600 ∧ (r.length + 1) + w.length < 300 := hb
    have t := h.hd
    have t1 : vTop τ = p := t.1
    have hp1 := hp p List.mem_cons_self
    have lw : (p :: r ++ w).length < 300 := by simp only [List.length_append, List.length_cons]; omega
    have lw2 : (r ++ w).length < 300 := by simp only [List.length_append]; omega
    have nx : ∀ τ1, (none : Option pV) = none ∧ eSt σ n K P V E c φ0 (A ++ [(p, 0)]) (r ++ w) u j τ1 → pR mX11_settleOnes d 0 [(2, 68), (0, b2i b)] [] τ1 (fun r' υ => r' = none ∧ eSt σ n K P V E c φ0 (A ++ (p :: r).map (fun p => (p, (0 : Int)))) w u j υ) := fun τ1 q => by
      have g := settleOnes_E hd S0 hw r (fun y hy => hp y (List.mem_cons_of_mem _ hy)) q.2 (by simp only [List.length_append, List.length_cons, List.length_nil]; omega)
      rw [List.append_assoc] at g
      exact g
    exact g_X11_settleOnes_0 (Q1 := fun r' υ => r' = none ∧ eSt σ n K P V E c φ0 (A ++ [(p, 0)]) (r ++ w) u j υ) (Q2 := fun r' υ => r' = none ∧ eSt σ n K P V E c φ0 (A ++ [(p, 0)]) (r ++ w) u j υ) hd S (b2i b) (top_E S h lw) (by rw [t.1]; unfold inR; omega) (fun c1 => by rw [t1] at c1; exact absurd c1 hp1.1) (fun _ => b2i_Ri b) (fun _ _ => pop_E (Nat.le_refl _) S h lw2 (by omega) hp1.1) (fun _ _ τ1 _ q => nx τ1 q) (fun _ _ => top_E S h lw) (fun _ c4 c5 => by rw [t1] at c5; exact absurd c5 (hp1.2 (b2i_n c4))) (fun _ _ _ => pop_E (Nat.le_refl _) S h lw2 (by omega) hp1.1) (fun _ _ _ τ1 _ q => nx τ1 q)
end LRS
