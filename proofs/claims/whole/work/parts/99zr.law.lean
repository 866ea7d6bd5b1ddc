/-! the reference reads a sign -/
section LRG
variable {σ : pS} {n : Int} {K P V E : Nat → Int} {c : Nat} {φ0 : pS}
theorem eSt.so {A : List (Int × Int)} {w : List Int} {u j : Nat} {τ : pS} (h : eSt σ n K P V E c φ0 A w u j τ) (R : tkR K V c) : (∀ k : Int, 40 ≤ k → (K j = k ↔ rd τ 68 6 = k)) ∧ inR (rd τ 68 6) ∧ rd τ 68 2 = 0 ∧ j ≤ c ∧ (K j = 21 ↔ rd τ 68 6 = 0) := by
  have hc := (h.2.1.2.1 rfl).2.2
  have so := hc.sort R
  have s6 := so.2.2.2.2.2.2
  exact ⟨so.2.2.2.2.2.1, by unfold inR; omega, (h.2.1.2.1 rfl).1, hc.1, so.2.2.2.2.1⟩
theorem eSt.wd {d : Nat} {A : List (Int × Int)} {w : List Int} {u j : Nat} {τ : pS} (S0 : Stat φ0) (h : eSt σ n K P V E c φ0 A w u j τ) (R : tkR K V c) {q : Nat} (hq : q < 18) {x : Int} (hx : x = kwc q) (hL : inL x) : pC mX11_isWord d [(2, 68), (1, x)] τ (fun r υ => r = some (0, b2i (vIsW τ x)) ∧ υ = τ) ∧ vIsW τ x = decide (K j = (q : Int)) := by
  have hc := (h.2.1.2.1 rfl).2.2
  have so := hc.sort R
  have s6 := so.2.2.2.2.2.2
  exact ⟨isWord_C (S0.eq h.1.1) (by unfold inR; omega) (fun z => ((hc.word R).2.2 z).2.1) hL, by rw [hx]; exact (hc.word R).1 q hq⟩
theorem sg_F {d : Nat} {A : List (Int × Int)} {w : List Int} {u j : Nat} {now : Int} {u2 : pV} {τ : pS} {Q : Option pV → pS → Prop} (hd : 3 ≤ d) (hu2 : u2.1 ≠ 1) (S0 : Stat φ0) (T : TK σ n K P V E c) (h : eSt σ n K P V E c φ0 A w u j τ) (k : ∀ υ, fEnd σ n K P V E c φ0 (flt K P 2 j) υ → Q (some (0, now)) υ) : pR mX11_sign d 253 [(2, 68), (0, now), u2] [] τ Q :=
  g_X11_sign_253 (Q1 := fun r υ => r = none ∧ fEnd σ n K P V E c φ0 (flt K P 2 j) υ) hd (S0.eq h.1.1) now u2 hu2 (wr_E S0 T h (by decide)) (fun υ _ q => k υ q.2)
theorem sg_201F {d : Nat} {A : List (Int × Int)} {w : List Int} {u j : Nat} {now : Int} {u2 : pV} {τ : pS} {Q : Option pV → pS → Prop} (hd : 3 ≤ d) (hu2 : u2.1 ≠ 1) (S0 : Stat φ0) (T : TK σ n K P V E c) (h : eSt σ n K P V E c φ0 A w u j τ) (hw : w.length < 300) (hn : now = 3 ∨ now = 4 ∨ now = 5) (hf : now = 3 ∨ K j ≠ 41 ∨ 28 ∉ w) (k : ∀ υ, fEnd σ n K P V E c φ0 (flt K P 2 j) υ → Q (some (0, now)) υ) : pR mX11_sign d 201 [(2, 68), (0, now), u2] [] τ Q := by
  have S := S0.eq h.1.1
  obtain ⟨so, s6, s2, jc, -⟩ := h.so T.R
  have s41 := so 41 (by decide)
  have f := sg_F (w := w) hd hu2 S0 T h k
  have no : now ≠ 3 → rd τ 68 6 = 41 → vIsO τ = true → False := fun c2 c4 c6 => by
    rw [h.op] at c6
    have c6 := of_decide_eq_true c6
    rcases hf with z | z | z
    · exact c2 z
    · exact z (s41.mpr c4)
    · exact z c6
  exact g_X11_sign_201 (Q1 := fun _ _ => True) (Q2 := fun _ _ => True) hd S now u2 hu2 (by unfold inR; omega) (fun _ => f) (fun _ => s6) (fun _ _ => f) (fun _ _ => isOpen_E S h hw) (fun _ _ _ => f) (fun c2 c4 c6 => (no c2 c4 c6).elim) (fun c2 c4 c6 => (no c2 c4 c6).elim) (fun c2 c4 c6 => (no c2 c4 c6).elim)
theorem sg_201 {d : Nat} {A : List (Int × Int)} {pend w : List Int} {u j : Nat} {now : Int} {u2 : pV} {τ : pS} {Q : Option pV → pS → Prop} (hd : 3 ≤ d) (hu2 : u2.1 ≠ 1) (S0 : Stat φ0) (T : TK σ n K P V E c) (h : eSt σ n K P V E c φ0 A (pend ++ 28 :: w) u j τ) (hb : A.length + pend.length < 600 ∧ pend.length + (w.length + 1) < 300) (hp : ∀ p ∈ pend, p ≠ 28) (hn : now = 4 ∨ now = 5) (k41 : K j = 41) (k : ∀ υ, eSt σ n K P V E c φ0 (A ++ pend.map (fun p => (p, (0 : Int)))) w u (j + 1) υ → Q (some (0, 5)) υ) : pR mX11_sign d 201 [(2, 68), (0, now), u2] [] τ Q := by
  have S := S0.eq h.1.1
  obtain ⟨so, s6, s2, jc, -⟩ := h.so T.R
  have s41 := so 41 (by decide)
  have rg := h.2.2.2.1.2.2.2
  have hw : (pend ++ 28 :: w).length < 300 := by simp only [List.length_append, List.length_cons]; omega
  have op : vIsO τ = true := by
    rw [h.op]
    exact decide_eq_true (List.mem_append_right _ List.mem_cons_self)
  refine g_X11_sign_201 (Q1 := fun r υ => r = none ∧ eSt σ n K P V E c φ0 (A ++ pend.map (fun p => (p, (0 : Int)))) (28 :: w) u j υ) (Q2 := fun r υ => r = none ∧ eSt σ n K P V E c φ0 (A ++ pend.map (fun p => (p, (0 : Int)))) w u (j + 1) υ) hd S now u2 hu2 (by unfold inR; omega) (fun _ => by omega) (fun _ => s6) (fun _ c3 => absurd (s41.mp k41) c3) (fun _ _ => isOpen_E S h hw) (fun _ _ c5 => by rw [op] at c5; cases c5) (fun _ _ _ => ?_) (fun _ _ _ τ2 _ q => nx_E S0 T (q.2.drop (Or.inr rfl)) (by omega) (by omega)) (fun _ _ _ _ _ _ τ3 _ q => k τ3 q.2)
  exact settle_E (Nat.le_refl _) S0 (by decide) (Or.inl rfl) pend (fun p hp' => ⟨hp p hp', by have := rg p (List.mem_append_left _ hp'); omega⟩) h hb
/-- from 142 on: AND, OR, a closing bracket, or a fault -/
theorem sg_142F {d : Nat} {A : List (Int × Int)} {w : List Int} {u j : Nat} {now : Int} {u2 : pV} {τ : pS} {Q : Option pV → pS → Prop} (hd : 3 ≤ d) (hu2 : u2.1 ≠ 1) (S0 : Stat φ0) (T : TK σ n K P V E c) (h : eSt σ n K P V E c φ0 A w u j τ) (hw : w.length < 300) (hn : now = 3 ∨ now = 4 ∨ now = 5) (hf : now = 3 ∨ (K j ≠ 13 ∧ K j ≠ 12 ∧ (K j ≠ 41 ∨ 28 ∉ w))) (k : ∀ υ, fEnd σ n K P V E c φ0 (flt K P 2 j) υ → Q (some (0, now)) υ) : pR mX11_sign d 142 [(2, 68), (0, now), u2] [] τ Q := by
  have S := S0.eq h.1.1
  have a := h.wd (d := 0) S0 T.R (q := 13) (by decide) (x := 6385252) (by decide) (by decide)
  have b := h.wd (d := 0) S0 T.R (q := 12) (by decide) (x := 28530) (by decide) (by decide)
  have g := sg_201F hd hu2 S0 T h hw hn (by rcases hf with z | z; exact Or.inl z; exact Or.inr z.2.2) k
  refine g_X11_sign_142 hd S now u2 hu2 (by unfold inR; omega) (fun _ => g) (fun _ => a.1) (fun c2 c3 => ?_) (fun _ _ => b.1) (fun _ _ _ => g) (fun c2 _ c6 => ?_)
  · rw [a.2] at c3
    rcases hf with z | z
    · exact absurd z c2
    · exact absurd (of_decide_eq_true c3) z.1
  · rw [b.2] at c6
    rcases hf with z | z
    · exact absurd z c2
    · exact absurd (of_decide_eq_true c6) z.2.1
theorem sg_142C {d : Nat} {A : List (Int × Int)} {pend w : List Int} {u j : Nat} {now : Int} {u2 : pV} {τ : pS} {Q : Option pV → pS → Prop} (hd : 3 ≤ d) (hu2 : u2.1 ≠ 1) (S0 : Stat φ0) (T : TK σ n K P V E c) (h : eSt σ n K P V E c φ0 A (pend ++ 28 :: w) u j τ) (hb : A.length + pend.length < 600 ∧ pend.length + (w.length + 1) < 300) (hp : ∀ p ∈ pend, p ≠ 28) (hn : now = 4 ∨ now = 5) (k41 : K j = 41) (k : ∀ υ, eSt σ n K P V E c φ0 (A ++ pend.map (fun p => (p, (0 : Int)))) w u (j + 1) υ → Q (some (0, 5)) υ) : pR mX11_sign d 142 [(2, 68), (0, now), u2] [] τ Q := by
  have S := S0.eq h.1.1
  have a := h.wd (d := 0) S0 T.R (q := 13) (by decide) (x := 6385252) (by decide) (by decide)
  have b := h.wd (d := 0) S0 T.R (q := 12) (by decide) (x := 28530) (by decide) (by decide)
  refine g_X11_sign_142 hd S now u2 hu2 (by unfold inR; omega) (fun _ => by omega) (fun _ => a.1) (fun c2 c3 => ?_) (fun _ _ => b.1) (fun _ _ _ => sg_201 hd hu2 S0 T h hb hp hn k41 k) (fun c2 _ c6 => ?_)
  · rw [a.2] at c3
    have := of_decide_eq_true c3
    have : K j = 13 := this
    omega
  · rw [b.2] at c6
    have := of_decide_eq_true c6
    have : K j = 12 := this
    omega
theorem sg_142J {d : Nat} {A : List (Int × Int)} {pend w : List Int} {u j : Nat} {now : Int} {u2 : pV} {τ : pS} {Q : Option pV → pS → Prop} (hd : 3 ≤ d) (hu2 : u2.1 ≠ 1) (S0 : Stat φ0) (T : TK σ n K P V E c) (h : eSt σ n K P V E c φ0 A (pend ++ w) u j τ) (hb : A.length + pend.length < 600 ∧ pend.length + w.length < 300) (hn : now = 4 ∨ now = 5) (hk : K j = 13 ∨ K j = 12) (hw : hdT w = 28 ∨ (K j = 13 ∧ hdT w = 21)) (hp : ∀ p ∈ pend, p ≠ 28 ∧ (K j = 13 → p ≠ 21)) (k : ∀ υ, eSt σ n K P V E c φ0 (A ++ pend.map (fun p => (p, (0 : Int)))) ((if K j = 13 then 22 else 21) :: w) u (j + 1) υ → Q (some (0, 0)) υ) : pR mX11_sign d 142 [(2, 68), (0, now), u2] [] τ Q := by
  have S := S0.eq h.1.1
  have a := h.wd (d := 0) S0 T.R (q := 13) (by decide) (x := 6385252) (by decide) (by decide)
  have b := h.wd (d := 0) S0 T.R (q := 12) (by decide) (x := 28530) (by decide) (by decide)
  have e13 : vIsW τ 6385252 = true ↔ K j = 13 := by rw [a.2]; exact ⟨fun z => of_decide_eq_true z, fun z => decide_eq_true z⟩
  have e12 : vIsW τ 28530 = true ↔ K j = 12 := by rw [b.2]; exact ⟨fun z => of_decide_eq_true z, fun z => decide_eq_true z⟩
  have go : pR mX11_sign d 167 [(2, 68), (0, now), u2] [] τ Q := by
    refine g_X11_sign_167 (Q1 := fun r υ => r = none ∧ eSt σ n K P V E c φ0 (A ++ pend.map (fun p => (p, (0 : Int)))) w u j υ) (Q2 := fun r υ => r = none ∧ eSt σ n K P V E c φ0 (A ++ pend.map (fun p => (p, (0 : Int)))) (21 :: w) u j υ) (Q3 := fun r υ => r = none ∧ eSt σ n K P V E c φ0 (A ++ pend.map (fun p => (p, (0 : Int)))) (21 :: w) u (j + 1) υ) (Q4 := fun r υ => r = none ∧ eSt σ n K P V E c φ0 (A ++ pend.map (fun p => (p, (0 : Int)))) (22 :: w) u j υ) (Q5 := fun r υ => r = none ∧ eSt σ n K P V E c φ0 (A ++ pend.map (fun p => (p, (0 : Int)))) (22 :: w) u (j + 1) υ) hd S now u2 hu2 a.1 ?_ (fun τ2 _ q _ => hold_E (S0.eq q.2.1.1) q.2 (by omega) (by decide)) (fun _ _ _ _ τ3 _ q => nx_E S0 T q.2 (by omega) (by omega)) (fun _ _ _ c1 _ _ _ τ4 _ q => ?_) (fun τ2 _ q _ => hold_E (S0.eq q.2.1.1) q.2 (by omega) (by decide)) (fun _ _ _ _ τ3 _ q => nx_E S0 T q.2 (by omega) (by omega)) (fun _ _ _ c2 _ _ _ τ5 _ q => ?_)
    · exact settleOnes_E (Nat.le_refl _) S0 (by rcases hw with z | z; exact Or.inl z; exact Or.inr ⟨e13.mpr z.1, z.2⟩) pend (fun p hp' => ⟨(hp p hp').1, fun z => (hp p hp').2 (e13.mp z)⟩) h hb
    · have := k τ4
      rw [if_neg (fun z => by rw [e13.mpr z] at c1; cases c1)] at this
      exact this q.2
    · have := k τ5
      rw [if_pos (e13.mp c2)] at this
      exact this q.2
  refine g_X11_sign_142 hd S now u2 hu2 (by unfold inR; omega) (fun _ => by omega) (fun _ => a.1) (fun _ _ => go) (fun _ _ => b.1) (fun _ c4 c5 => ?_) (fun _ _ _ => go)
  rcases hk with z | z
  · rw [e13.mpr z] at c4; cases c4
  · rw [e12.mpr z] at c5; cases c5
/-- comparisons -/
theorem sg_96 {d : Nat} {A : List (Int × Int)} {pend w : List Int} {u j : Nat} {u2 : pV} {τ : pS} {Q : Option pV → pS → Prop} (hd : 3 ≤ d) (hu2 : u2.1 ≠ 1) (S0 : Stat φ0) (T : TK σ n K P V E c) (h : eSt σ n K P V E c φ0 A (pend ++ w) u j τ) (hb : A.length + pend.length < 600 ∧ pend.length + w.length < 300) (hk : K j = 60 ∨ K j = 61 ∨ K j = 62) (hw : hdT w = 28 ∨ hdT w < 26) (hp : ∀ p ∈ pend, p ≠ 28 ∧ 26 ≤ p) (k : ∀ υ, eSt σ n K P V E c φ0 (A ++ pend.map (fun p => (p, (0 : Int)))) (cmC (K j) :: w) u (j + 1) υ → Q (some (0, 2)) υ) : pR mX11_sign d 96 [(2, 68), (0, 3), u2] [] τ Q := by
  have S := S0.eq h.1.1
  have so1 : ∀ υ, eSt σ n K P V E c φ0 (A ++ pend.map (fun p => (p, (0 : Int)))) w u j υ → inR (rd υ 68 6) ∧ (K j = 61 ↔ rd υ 68 6 = 61) ∧ (K j = 60 ↔ rd υ 68 6 = 60) := fun υ q => by
    obtain ⟨so, s6, -⟩ := q.so T.R
    exact ⟨s6, so 61 (by decide), so 60 (by decide)⟩
  have en : ∀ (y : Int) (υ : pS), y = cmC (K j) → eSt σ n K P V E c φ0 (A ++ pend.map (fun p => (p, (0 : Int)))) (y :: w) u (j + 1) υ → Q (some (0, 2)) υ := fun y υ e q => by rw [e] at q; exact k υ q
  refine g_X11_sign_96 (Q1 := fun r υ => r = none ∧ eSt σ n K P V E c φ0 (A ++ pend.map (fun p => (p, (0 : Int)))) w u j υ) (Q2 := fun r υ => r = none ∧ eSt σ n K P V E c φ0 (A ++ pend.map (fun p => (p, (0 : Int)))) (25 :: w) u j υ) (Q3 := fun r υ => r = none ∧ eSt σ n K P V E c φ0 (A ++ pend.map (fun p => (p, (0 : Int)))) (25 :: w) u (j + 1) υ) (Q4 := fun r υ => r = none ∧ eSt σ n K P V E c φ0 (A ++ pend.map (fun p => (p, (0 : Int)))) (24 :: w) u j υ) (Q5 := fun r υ => r = none ∧ eSt σ n K P V E c φ0 (A ++ pend.map (fun p => (p, (0 : Int)))) (24 :: w) u (j + 1) υ) (Q6 := fun r υ => r = none ∧ eSt σ n K P V E c φ0 (A ++ pend.map (fun p => (p, (0 : Int)))) (23 :: w) u j υ) (Q7 := fun r υ => r = none ∧ eSt σ n K P V E c φ0 (A ++ pend.map (fun p => (p, (0 : Int)))) (23 :: w) u (j + 1) υ) hd S 3 u2 hu2 (settle_E (Nat.le_refl _) S0 (by decide) hw pend hp h hb) (fun τ1 _ q => (so1 τ1 q.2).1)
    (fun τ1 _ q _ _ => hold_E (S0.eq q.2.1.1) q.2 (by omega) (by decide)) (fun _ _ _ _ _ τ3 _ q => nx_E S0 T q.2 (by omega) (by omega)) (fun τ1 _ q1 c1 c3 _ _ _ τ3 _ q => en 25 τ3 ?_ q.2)
    (fun τ1 _ q _ _ => hold_E (S0.eq q.2.1.1) q.2 (by omega) (by decide)) (fun _ _ _ _ _ τ3 _ q => nx_E S0 T q.2 (by omega) (by omega)) (fun τ1 _ q1 c1 c3 _ _ _ τ3 _ q => en 24 τ3 ?_ q.2)
    (fun τ1 _ q _ => hold_E (S0.eq q.2.1.1) q.2 (by omega) (by decide)) (fun _ _ _ _ τ3 _ q => nx_E S0 T q.2 (by omega) (by omega)) (fun τ1 _ q1 c2 _ _ _ τ3 _ q => en 23 τ3 ?_ q.2)
  all_goals obtain ⟨-, s61, s60⟩ := so1 τ1 q1.2
  · unfold cmC
    rw [if_neg (by omega), if_neg (by omega)]
  · unfold cmC
    rw [if_neg (by omega), if_pos (by omega)]
  · unfold cmC
    rw [if_pos (by omega)]
theorem sg_64 {d : Nat} {A : List (Int × Int)} {w : List Int} {u j : Nat} {now : Int} {u2 : pV} {τ : pS} {Q : Option pV → pS → Prop} (hd : 3 ≤ d) (hu2 : u2.1 ≠ 1) (S0 : Stat φ0) (T : TK σ n K P V E c) (h : eSt σ n K P V E c φ0 A w u j τ) (hn : now = 3 ∨ now = 4 ∨ now = 5) (k1 : now = 3 → K j = 60 ∨ K j = 61 ∨ K j = 62 → pR mX11_sign d 96 [(2, 68), (0, now), u2] [] τ Q) (k2 : (now ≠ 3 ∨ ¬ (K j = 60 ∨ K j = 61 ∨ K j = 62)) → pR mX11_sign d 142 [(2, 68), (0, now), u2] [] τ Q) : pR mX11_sign d 64 [(2, 68), (0, now), u2] [] τ Q := by
  have S := S0.eq h.1.1
  obtain ⟨so, s6, s2, jc, -⟩ := h.so T.R
  have s60 := so 60 (by decide)
  have s61 := so 61 (by decide)
  have s62 := so 62 (by decide)
  exact g_X11_sign_64 hd S now u2 hu2 (by unfold inR; omega) (fun c1 => k2 (Or.inl c1)) (fun _ => s6) (fun c2 c3 => k1 c2 (by omega)) (fun c2 c4 c5 => k1 c2 (by omega)) (fun c2 c4 c6 c7 => k2 (Or.inr (by omega))) (fun c2 c4 c6 c8 => k1 c2 (by omega))
theorem sg_0 {d : Nat} {A : List (Int × Int)} {w : List Int} {u j : Nat} {now : Int} {τ : pS} {Q : Option pV → pS → Prop} (hd : 3 ≤ d) (S0 : Stat φ0) (T : TK σ n K P V E c) (h : eSt σ n K P V E c φ0 A w u j τ) (hn : now = 3 ∨ now = 4 ∨ now = 5) (k1 : now ≠ 5 → K j = 43 ∨ K j = 45 → pR mX11_sign d 23 [(2, 68), (0, now), (9, 0)] [] τ Q) (k2 : (now = 5 ∨ ¬ (K j = 43 ∨ K j = 45)) → pR mX11_sign d 64 [(2, 68), (0, now), (9, 0)] [] τ Q) : pC mX11_sign d [(2, 68), (0, now)] τ Q := by
  have S := S0.eq h.1.1
  obtain ⟨so, s6, s2, jc, -⟩ := h.so T.R
  have s43 := so 43 (by decide)
  have s45 := so 45 (by decide)
  exact g_X11_sign_0 hd S now (by unfold inR; omega) (fun c1 => k2 (Or.inl c1)) (fun _ => s6) (fun c2 c3 => k1 c2 (by omega)) (fun c2 c4 c5 => k2 (Or.inr (by omega))) (fun c2 c4 c6 => k1 c2 (by omega))
theorem sgn_pm {d : Nat} {A : List (Int × Int)} {pend w : List Int} {u j : Nat} {now : Int} {τ : pS} {Q : Option pV → pS → Prop} (hd : 3 ≤ d) (S0 : Stat φ0) (T : TK σ n K P V E c) (h : eSt σ n K P V E c φ0 A (pend ++ w) u j τ) (hb : A.length + pend.length < 600 ∧ pend.length + w.length < 300) (hn : now = 3 ∨ now = 4) (hk : K j = 43 ∨ K j = 45) (hw : hdT w = 28 ∨ hdT w < 26) (hp : ∀ p ∈ pend, p ≠ 28 ∧ 26 ≤ p) (k : ∀ υ, eSt σ n K P V E c φ0 (A ++ pend.map (fun p => (p, (0 : Int)))) (pmC (K j) :: w) u (j + 1) υ → Q (some (0, if now = 3 then 1 else 2)) υ) : pC mX11_sign d [(2, 68), (0, now)] τ Q := by
  have S := S0.eq h.1.1
  have so1 : ∀ υ, eSt σ n K P V E c φ0 (A ++ pend.map (fun p => (p, (0 : Int)))) w u j υ → inR (rd υ 68 6) ∧ (K j = 43 ↔ rd υ 68 6 = 43) := fun υ q => by
    obtain ⟨so, s6, -⟩ := q.so T.R
    exact ⟨s6, so 43 (by decide)⟩
  have en : ∀ (y : Int) (υ : pS), y = pmC (K j) → eSt σ n K P V E c φ0 (A ++ pend.map (fun p => (p, (0 : Int)))) (y :: w) u (j + 1) υ → Q (some (0, if now = 3 then 1 else 2)) υ := fun y υ e q => by rw [e] at q; exact k υ q
  refine sg_0 hd S0 T h (by omega) (fun _ _ => ?_) (fun z => by omega)
  have e27 : K j ≠ 43 → 27 = pmC (K j) := fun z => by unfold pmC; rw [if_neg z]
  have e26 : K j = 43 → 26 = pmC (K j) := fun z => by unfold pmC; rw [if_pos z]
  refine g_X11_sign_23 (Q1 := fun r υ => r = none ∧ eSt σ n K P V E c φ0 (A ++ pend.map (fun p => (p, (0 : Int)))) w u j υ) (Q2 := fun r υ => r = none ∧ eSt σ n K P V E c φ0 (A ++ pend.map (fun p => (p, (0 : Int)))) (27 :: w) u j υ) (Q3 := fun r υ => r = none ∧ eSt σ n K P V E c φ0 (A ++ pend.map (fun p => (p, (0 : Int)))) (27 :: w) u (j + 1) υ) (Q4 := fun r υ => r = none ∧ eSt σ n K P V E c φ0 (A ++ pend.map (fun p => (p, (0 : Int)))) (26 :: w) u j υ) (Q5 := fun r υ => r = none ∧ eSt σ n K P V E c φ0 (A ++ pend.map (fun p => (p, (0 : Int)))) (26 :: w) u (j + 1) υ) hd S now (9, 0) (by decide) (settle_E (Nat.le_refl _) S0 (by decide) hw pend hp h hb) (fun τ1 _ q => (so1 τ1 q.2).1)
    (fun τ1 _ q _ => hold_E (S0.eq q.2.1.1) q.2 (by omega) (by decide)) (fun _ _ _ _ τ3 _ q => nx_E S0 T q.2 (by omega) (by omega)) (fun _ _ _ _ _ _ _ _ _ _ => by unfold inR; omega) (fun τ1 _ q1 c1 _ _ _ τ3 _ q c3 => ?_) (fun τ1 _ q1 c1 _ _ _ τ3 _ q c3 => ?_)
    (fun τ1 _ q _ => hold_E (S0.eq q.2.1.1) q.2 (by omega) (by decide)) (fun _ _ _ _ τ3 _ q => nx_E S0 T q.2 (by omega) (by omega)) (fun _ _ _ _ _ _ _ _ _ _ => by unfold inR; omega) (fun τ1 _ q1 c1 _ _ _ τ3 _ q c3 => ?_) (fun τ1 _ q1 c1 _ _ _ τ3 _ q c3 => ?_)
  all_goals obtain ⟨-, s43⟩ := so1 τ1 q1.2
  · have := en 27 τ3 (e27 (by omega)) q.2
    rw [if_neg c3] at this; exact this
  · have := en 27 τ3 (e27 (by omega)) q.2
    rw [if_pos c3] at this; exact this
  · have := en 26 τ3 (e26 (by omega)) q.2
    rw [if_neg c3] at this; exact this
  · have := en 26 τ3 (e26 (by omega)) q.2
    rw [if_pos c3] at this; exact this
theorem sgn_cm {d : Nat} {A : List (Int × Int)} {pend w : List Int} {u j : Nat} {τ : pS} {Q : Option pV → pS → Prop} (hd : 3 ≤ d) (S0 : Stat φ0) (T : TK σ n K P V E c) (h : eSt σ n K P V E c φ0 A (pend ++ w) u j τ) (hb : A.length + pend.length < 600 ∧ pend.length + w.length < 300) (hk : K j = 60 ∨ K j = 61 ∨ K j = 62) (hw : hdT w = 28 ∨ hdT w < 26) (hp : ∀ p ∈ pend, p ≠ 28 ∧ 26 ≤ p) (k : ∀ υ, eSt σ n K P V E c φ0 (A ++ pend.map (fun p => (p, (0 : Int)))) (cmC (K j) :: w) u (j + 1) υ → Q (some (0, 2)) υ) : pC mX11_sign d [(2, 68), (0, 3)] τ Q :=
  sg_0 hd S0 T h (by decide) (fun _ z => by omega) (fun _ => sg_64 hd (by decide) S0 T h (by decide) (fun _ _ => sg_96 hd (by decide) S0 T h hb hk hw hp k) (fun z => by omega))
theorem sgn_jo {d : Nat} {A : List (Int × Int)} {pend w : List Int} {u j : Nat} {now : Int} {τ : pS} {Q : Option pV → pS → Prop} (hd : 3 ≤ d) (S0 : Stat φ0) (T : TK σ n K P V E c) (h : eSt σ n K P V E c φ0 A (pend ++ w) u j τ) (hb : A.length + pend.length < 600 ∧ pend.length + w.length < 300) (hn : now = 4 ∨ now = 5) (hk : K j = 13 ∨ K j = 12) (hw : hdT w = 28 ∨ (K j = 13 ∧ hdT w = 21)) (hp : ∀ p ∈ pend, p ≠ 28 ∧ (K j = 13 → p ≠ 21)) (k : ∀ υ, eSt σ n K P V E c φ0 (A ++ pend.map (fun p => (p, (0 : Int)))) ((if K j = 13 then 22 else 21) :: w) u (j + 1) υ → Q (some (0, 0)) υ) : pC mX11_sign d [(2, 68), (0, now)] τ Q :=
  sg_0 hd S0 T h (by omega) (fun _ z => by omega) (fun _ => sg_64 hd (by decide) S0 T h (by omega) (fun z _ => by omega) (fun _ => sg_142J hd (by decide) S0 T h hb hn hk hw hp k))
theorem sgn_cl {d : Nat} {A : List (Int × Int)} {pend w : List Int} {u j : Nat} {now : Int} {τ : pS} {Q : Option pV → pS → Prop} (hd : 3 ≤ d) (S0 : Stat φ0) (T : TK σ n K P V E c) (h : eSt σ n K P V E c φ0 A (pend ++ 28 :: w) u j τ) (hb : A.length + pend.length < 600 ∧ pend.length + (w.length + 1) < 300) (hp : ∀ p ∈ pend, p ≠ 28) (hn : now = 4 ∨ now = 5) (k41 : K j = 41) (k : ∀ υ, eSt σ n K P V E c φ0 (A ++ pend.map (fun p => (p, (0 : Int)))) w u (j + 1) υ → Q (some (0, 5)) υ) : pC mX11_sign d [(2, 68), (0, now)] τ Q :=
  sg_0 hd S0 T h (by omega) (fun _ z => by omega) (fun _ => sg_64 hd (by decide) S0 T h (by omega) (fun z _ => by omega) (fun _ => sg_142C hd (by decide) S0 T h hb hp hn k41 k))
theorem sgn_F {d : Nat} {A : List (Int × Int)} {w : List Int} {u j : Nat} {now : Int} {τ : pS} {Q : Option pV → pS → Prop} (hd : 3 ≤ d) (S0 : Stat φ0) (T : TK σ n K P V E c) (h : eSt σ n K P V E c φ0 A w u j τ) (hw : w.length < 300) (hn : now = 3 ∨ now = 4 ∨ now = 5) (h5 : now = 5 ∨ ¬ (K j = 43 ∨ K j = 45)) (h3 : now ≠ 3 ∨ ¬ (K j = 60 ∨ K j = 61 ∨ K j = 62)) (hf : now = 3 ∨ (K j ≠ 13 ∧ K j ≠ 12 ∧ (K j ≠ 41 ∨ 28 ∉ w))) (k : ∀ υ, fEnd σ n K P V E c φ0 (flt K P 2 j) υ → Q (some (0, now)) υ) : pC mX11_sign d [(2, 68), (0, now)] τ Q :=
  sg_0 hd S0 T h hn (fun z1 z2 => by omega) (fun _ => sg_64 hd (by decide) S0 T h hn (fun z1 z2 => by omega) (fun _ => sg_142F hd (by decide) S0 T h hw hn hf k))
end LRG
