/-! the reference reads an operand and a sign -/
def nmK (k : Int) : Int := if k = 15 then 1 else if k = 16 then 2 else if k = 17 then 3 else if k = 9 then 4 else if k = 8 then 5 else if k = 3 then 6 else -1
theorem nmK_un (k : Int) : (isUn k = true ↔ (k = 19 ∨ 0 ≤ nmK k)) ∧ (isUn k = true → uCo k = if nmK k < 0 then 0 else nmK k) ∧ (nmK k = 4 ↔ k = 9) ∧ (nmK k = 5 ↔ k = 8) ∧ -1 ≤ nmK k ∧ nmK k ≤ 6 ∧ (0 ≤ nmK k → k ≠ 19) := by
  by_cases c15 : k = 15
  · rw [c15]; decide
  by_cases c16 : k = 16
  · rw [c16]; decide
  by_cases c17 : k = 17
  · rw [c17]; decide
  by_cases c9 : k = 9
  · rw [c9]; decide
  by_cases c8 : k = 8
  · rw [c8]; decide
  by_cases c3 : k = 3
  · rw [c3]; decide
  by_cases c19 : k = 19
  · rw [c19]; decide
  have e : nmK k = -1 := by
    unfold nmK
    rw [if_neg c15, if_neg c16, if_neg c17, if_neg c9, if_neg c8, if_neg c3]
  have f : isUn k = false := decide_eq_false fun z => by omega
  rw [e, f]
  exact ⟨⟨fun z => (by cases z), fun z => by omega⟩, fun z => (by cases z), ⟨fun z => by omega, fun z => by omega⟩, ⟨fun z => by omega, fun z => by omega⟩, by decide, by decide, fun z => by omega⟩
def fEnd (σ : pS) (n : Int) (K P V E : Nat → Int) (c : Nat) (φ0 : pS) (x : Int × Int) (υ : pS) : Prop := eFr φ0 υ ∧ mSt σ n K P V E c (some x) 0 υ
section LRO
variable {σ : pS} {n : Int} {K P V E : Nat → Int} {c : Nat} {φ0 : pS} {rn : Bool}
theorem named_E {d : Nat} {τ : pS} (S : Stat τ) (h6 : inR (rd τ 68 6)) (h9 : rd τ 68 6 = 1 → inL (rd τ 68 9)) : pC mX11_named d [(2, 68)] τ (fun r υ => r = some (0, vNam τ) ∧ υ = τ) := by
  have y : ∀ {x : Int}, rd τ 68 6 = 1 → l_cmp (rd τ 68 9) x = 0 → vIsW τ x = true := fun a b => decide_eq_true ⟨a, l_cmp0.mp b⟩
  have no : ∀ {x : Int}, l_cmp (rd τ 68 9) x ≠ 0 → ¬ vIsW τ x = true := fun b z => b (l_cmp0.mpr (of_decide_eq_true z).2)
  have nw : rd τ 68 6 ≠ 1 → ∀ {x : Int}, ¬ vIsW τ x = true := fun a x z => a (of_decide_eq_true z).1
  refine g_X11_named_0 (Nat.zero_le d) S h6 h9 (fun c1 c3 c5 c7 c9 c11 c13 => ⟨?_, rfl⟩) (fun c1 c3 c5 c7 c9 c11 c13 => ⟨?_, rfl⟩) (fun c1 c3 c5 c7 c9 c11 => ⟨?_, rfl⟩) (fun c1 c3 c5 c7 c9 => ⟨?_, rfl⟩) (fun c1 c3 c5 c7 => ⟨?_, rfl⟩) (fun c1 c3 c5 => ⟨?_, rfl⟩) (fun c1 c3 => ⟨?_, rfl⟩) (fun c2 => ⟨?_, rfl⟩)
  all_goals unfold vNam
  · rw [if_neg (no c3), if_neg (no c5), if_neg (no c7), if_neg (no c9), if_neg (no c11), if_neg (no c13)]
  · rw [if_neg (no c3), if_neg (no c5), if_neg (no c7), if_neg (no c9), if_neg (no c11), if_pos (y c1 c13)]
  · rw [if_neg (no c3), if_neg (no c5), if_neg (no c7), if_neg (no c9), if_pos (y c1 c11)]
  · rw [if_neg (no c3), if_neg (no c5), if_neg (no c7), if_pos (y c1 c9)]
  · rw [if_neg (no c3), if_neg (no c5), if_pos (y c1 c7)]
  · rw [if_neg (no c3), if_pos (y c1 c5)]
  · rw [if_pos (y c1 c3)]
  · rw [if_neg (nw c2), if_neg (nw c2), if_neg (nw c2), if_neg (nw c2), if_neg (nw c2), if_neg (nw c2)]
theorem nm_K {j : Nat} {τ : pS} (wd : ∀ q : Nat, q < 18 → vIsW τ (kwc q) = decide (K j = (q : Int))) : vNam τ = nmK (K j) := by
  have w15 : vIsW τ 1752135026 = decide (K j = 15) := wd 15 (by decide)
  have w16 : vIsW τ 2003398244 = decide (K j = 16) := wd 16 (by decide)
  have w17 : vIsW τ 440005915496 = decide (K j = 17) := wd 17 (by decide)
  have w9 : vIsW τ 1936617335 = decide (K j = 9) := wd 9 (by decide)
  have w8 : vIsW τ 444300616805 = decide (K j = 8) := wd 8 (by decide)
  have w3 : vIsW τ 499850634611 = decide (K j = 3) := wd 3 (by decide)
  unfold vNam nmK
  rw [w15, w16, w17, w9, w8, w3]
  simp only [decide_eq_true_eq]
theorem eSt.nx {A : List (Int × Int)} {w : List Int} {u j k : Nat} {τ υ : pS} (h : eSt σ n K P V E c φ0 A w u j τ) (f : nxFr τ υ) (s : mSt σ n K P V E c none k υ) : eSt σ n K P V E c φ0 A w u k υ := by
  obtain ⟨h1, h2, ⟨h3, h3'⟩, ⟨h4, h5, h6, h7⟩, h8⟩ := h
  refine ⟨h1.tr f.m.e, s, ⟨?_, fun i p e => ?_⟩, ⟨?_, ?_, h6.of (fun i hi => f.2 _ _ (by omega)), h7⟩, ?_⟩
  · rw [f.2 _ _ (by omega)]; exact h3
  · rw [f.2 _ _ (by omega), f.2 _ _ (by omega)]; exact h3' i p e
  · rw [f.2 _ _ (by omega)]; exact h4
  · rw [f.2 _ _ (by omega)]; exact h5
  · rw [f.2 _ _ (by omega)]; exact h8
theorem nx_E {A : List (Int × Int)} {w : List Int} {u j : Nat} {τ : pS} (S0 : Stat φ0) (T : TK σ n K P V E c) (h : eSt σ n K P V E c φ0 A w u j τ) (h21 : K j ≠ 21) (h22 : K j ≠ 22) : pC mX11_next 1 [(2, 68)] τ (fun r υ => r = none ∧ eSt σ n K P V E c φ0 A w u (j + 1) υ) :=
  (next_M (Nat.le_refl _) (S0.eq h.1.1) T h.2.1 (T.R.lt (h.2.1.2.1 rfl).2.2.1 h21) h22).mono fun r υ _ q => ⟨q.1, h.nx q.2.1 q.2.2⟩
theorem wr_E {A : List (Int × Int)} {w : List Int} {u j : Nat} {m : Int} {τ : pS} (S0 : Stat φ0) (T : TK σ n K P V E c) (h : eSt σ n K P V E c φ0 A w u j τ) (hm : 0 < m ∧ m < 100) : pC mX11_wrong 0 [(2, 68), (0, m)] τ (fun r υ => r = none ∧ fEnd σ n K P V E c φ0 (flt K P m j) υ) :=
  (wrong_M (S0.eq h.1.1) T.R h.2.1 hm 0).mono fun r υ _ q => ⟨q.1, h.1.tr q.2.1.e, q.2.2⟩
theorem eSt.un {A : List (Int × Int)} {w : List Int} {u j : Nat} {τ : pS} (h : eSt σ n K P V E c φ0 A w u j τ) : eSt σ n K P V E c φ0 A w (u + 1) j (wr τ 68 45 ((rd τ 68 45) + 1)) := by
  obtain ⟨h1, h2, ⟨h3, h3'⟩, ⟨h4, h5, h6, h7⟩, h8⟩ := h
  refine ⟨h1.wr (by omega), h2.wr (by omega), ⟨?_, fun i p e => ?_⟩, ⟨?_, ?_, h6.of (fun i hi => rd_wr_n (by omega)), h7⟩, ?_⟩
  · rw [rd_wr_n (by omega)]; exact h3
  · rw [rd_wr_n (by omega), rd_wr_n (by omega)]; exact h3' i p e
  · rw [rd_wr_n (by omega)]; exact h4
  · rw [rd_wr_n (by omega)]; exact h5
  · rw [rd_wr_same, h8]; rfl
theorem op_F {d : Nat} {x1 x2 x3 x4 : Int} {x : Int × Int} {υ : pS} {Q : Option pV → pS → Prop} (hd : 2 ≤ d) (S0 : Stat φ0) (f : fEnd σ n K P V E c φ0 x υ) (k : Q (some (0, x1)) υ) : pR mX11_operand d 120 [(2, 68), (0, x1), (0, x2), (0, x3), (0, x4)] [] υ Q := by
  have z := f.2.fault
  have ne : ¬ rd υ 68 2 ≤ 0 := fun y => (by cases z.2.1 y)
  exact g_X11_operand_120 (Q1 := fun _ _ => True) (Q2 := fun _ _ => True) (Q3 := fun _ _ => True) (Q4 := fun _ _ => True) (Q5 := fun _ _ => True) (Q6 := fun _ _ => True) (Q7 := fun _ _ => True) (Q8 := fun _ _ => True) hd (S0.eq f.1.1) x1 x2 x3 x4 z.1 (fun y => absurd y ne) (fun y => absurd y ne) (fun y => absurd y ne) (fun y => absurd y ne) (fun y => absurd y ne) (fun y => absurd y ne) (fun y => absurd y ne) (fun y => absurd y ne) (fun y => absurd y ne) (fun y => absurd y ne) (fun y => absurd y ne) (fun y => absurd y ne) (fun y => absurd y ne) (fun y => absurd y ne) (fun y => absurd y ne) (fun y => absurd y ne) (fun y => absurd y ne) (fun y => absurd y ne) (fun y => absurd y ne) (fun _ => k)
/-- what an operand gives -/
def opU (σ : pS) (n : Int) (K P V E : Nat → Int) (c : Nat) (φ0 : pS) (rn : Bool) (A : List (Int × Int)) (w : List Int) (u j : Nat) (now : Int) (Q : Option pV → pS → Prop) : Prop := isUn (K j) = true → u < 40 → ¬ (rn = false ∧ (K j = 9 ∨ K j = 8)) → ∀ υ, eSt σ n K P V E c φ0 (A ++ [(uCo (K j), uNum K V j)]) w (u + 1) (j + 1) υ → Q (some (0, if now = 2 then 4 else 3)) υ
def opO (σ : pS) (n : Int) (K P V E : Nat → Int) (c : Nat) (φ0 : pS) (A : List (Int × Int)) (w : List Int) (u j : Nat) (now : Int) (Q : Option pV → pS → Prop) : Prop := now = 0 → (K j = 14 ∨ K j = 40) → dpW w < 7 → ∀ υ, eSt σ n K P V E c φ0 A ((if K j = 14 then 20 else 28) :: w) u (j + 1) υ → Q (some (0, 0)) υ
def opF (σ : pS) (n : Int) (K P V E : Nat → Int) (c : Nat) (φ0 : pS) (rn : Bool) (w : List Int) (u j : Nat) (now : Int) (Q : Option pV → pS → Prop) : Prop := ∀ (m : Int) (υ : pS), fEnd σ n K P V E c φ0 (flt K P m j) υ → ((m = 2 ∧ ((isUn (K j) = false ∧ ¬ (now = 0 ∧ (K j = 14 ∨ K j = 40))) ∨ (now = 0 ∧ (K j = 14 ∨ K j = 40) ∧ 7 ≤ dpW w) ∨ (isUn (K j) = true ∧ 40 ≤ u))) ∨ (m = 6 ∧ isUn (K j) = true ∧ u < 40 ∧ rn = false ∧ (K j = 9 ∨ K j = 8))) → Q (some (0, now)) υ
theorem un_no {k : Int} (h : isUn k = true) : k ≠ 14 ∧ k ≠ 40 ∧ k ≠ 21 ∧ k ≠ 22 := by
  have h : k = 19 ∨ k = 15 ∨ k = 16 ∨ k = 17 ∨ k = 9 ∨ k = 8 ∨ k = 3 := of_decide_eq_true h
  omega
theorem op_U {d : Nat} {A : List (Int × Int)} {w : List Int} {u j : Nat} {now x2 x3 x4 : Int} {τ : pS} {Q : Option pV → pS → Prop} (hd : 2 ≤ d) (S0 : Stat φ0) (T : TK σ n K P V E c) (h : eSt σ n K P V E c φ0 A w u j τ) (hA : A.length < 600) (hn : now = 0 ∨ now = 1 ∨ now = 2) (e2 : x2 = nmK (K j)) (e4 : x4 = 0) (un : isUn (K j) = true) (k : ∀ υ, eSt σ n K P V E c φ0 (A ++ [(uCo (K j), uNum K V j)]) w (u + 1) (j + 1) υ → Q (some (0, if now = 2 then 4 else 3)) υ) : pR mX11_operand d 120 [(2, 68), (0, now), (0, x2), (0, x3), (0, x4)] [] τ Q := by
  have S := S0.eq h.1.1
  have R := T.R
  have hc := (h.2.1.2.1 rfl).2.2
  have z2 := (h.2.1.2.1 rfl).1
  have so := hc.sort R
  have w8 : rd τ 68 6 = 1 → rd τ 68 8 = 0 := fun z => ((hc.word R).2.2 z).2.2.1
  have nm := nmK_un (K j)
  have no := un_no un
  have ne : ¬ x4 ≠ 0 := fun y => y e4
  have st : ∀ y : Int, y = uCo (K j) → pC mX11_step 0 [(2, 68), (0, y), (0, (rd τ 68 8))] (wr τ 68 45 ((rd τ 68 45) + 1)) (fun r υ => r = none ∧ eSt σ n K P V E c φ0 (A ++ [(uCo (K j), uNum K V j)]) w (u + 1) j υ) := fun y ey => by
    have e8 : rd τ 68 8 = uNum K V j := by
      unfold uNum
      by_cases c19 : K j = 19
      · rw [if_pos c19]
        rcases hc.2.2 with ⟨a1, a2, a3⟩ | ⟨a1, a2⟩
        · have := so.2.1.mp c19; omega
        · have c2 := so.2.1.mp c19
          rcases a2 with ⟨b1, _⟩ | ⟨b1, _⟩ | ⟨_, _, b, _⟩ | ⟨b1, _⟩ | ⟨b1, b2, _⟩
          · omega
          · omega
          · exact b
          · omega
          · have w := vSig_R b1; omega
      · rw [if_neg c19]
        have un' : K j = 19 ∨ K j = 15 ∨ K j = 16 ∨ K j = 17 ∨ K j = 9 ∨ K j = 8 ∨ K j = 3 := of_decide_eq_true un
        exact w8 (so.2.2.2.1.mp (by omega))
    rw [ey, e8]
    exact step_E (S.wr) h.un hA
  have nx : ∀ υ, eSt σ n K P V E c φ0 (A ++ [(uCo (K j), uNum K V j)]) w (u + 1) j υ → pC mX11_next 1 [(2, 68)] υ (fun r υ => r = none ∧ eSt σ n K P V E c φ0 (A ++ [(uCo (K j), uNum K V j)]) w (u + 1) (j + 1) υ) := fun υ q => nx_E S0 T q no.2.2.1 no.2.2.2
  have uc := nm.2.1 un
  refine g_X11_operand_120 (Q1 := fun r υ => r = none ∧ eSt σ n K P V E c φ0 (A ++ [(uCo (K j), uNum K V j)]) w (u + 1) j υ) (Q2 := fun r υ => r = none ∧ eSt σ n K P V E c φ0 (A ++ [(uCo (K j), uNum K V j)]) w (u + 1) (j + 1) υ) (Q3 := fun r υ => r = none ∧ eSt σ n K P V E c φ0 (A ++ [(uCo (K j), uNum K V j)]) w (u + 1) j υ) (Q4 := fun r υ => r = none ∧ eSt σ n K P V E c φ0 (A ++ [(uCo (K j), uNum K V j)]) w (u + 1) (j + 1) υ) (Q5 := fun _ _ => True) (Q6 := fun _ _ => True) (Q7 := fun _ _ => True) (Q8 := fun _ _ => True) hd S now x2 x3 x4 (by unfold inR; omega) (fun _ => by unfold inR; omega) (fun _ _ => by unfold inR; omega)
    (fun _ _ c5 => st 0 (by rw [uc, if_pos (by omega)])) (fun _ _ _ τ1 _ q => nx τ1 q.2) (fun _ _ _ _ _ _ _ _ _ => by unfold inR; omega) (fun _ _ _ _ _ _ τ2 _ q c7 => ?_) (fun _ _ _ _ _ _ τ2 _ q c8 => ?_)
    (fun _ _ c6 => st x2 (by rw [uc, if_neg (by omega), e2])) (fun _ _ _ τ1 _ q => nx τ1 q.2) (fun _ _ _ _ _ _ _ _ _ => by unfold inR; omega) (fun _ _ _ _ _ _ τ2 _ q c7 => ?_) (fun _ _ _ _ _ _ τ2 _ q c8 => ?_)
    (fun _ c4 => absurd c4 ne) (fun _ c4 => absurd c4 ne) (fun _ c4 => absurd c4 ne) (fun _ c4 => absurd c4 ne) (fun _ c4 => absurd c4 ne) (fun _ c4 => absurd c4 ne) (fun _ c4 => absurd c4 ne) (fun c2 => by omega)
  · have := k τ2 q.2; rw [if_neg c7] at this; exact this
  · have := k τ2 q.2; rw [if_pos c8] at this; exact this
  · have := k τ2 q.2; rw [if_neg c7] at this; exact this
  · have := k τ2 q.2; rw [if_pos c8] at this; exact this
theorem op_O {d : Nat} {A : List (Int × Int)} {w : List Int} {u j : Nat} {now x2 x3 x4 : Int} {τ : pS} {Q : Option pV → pS → Prop} (hd : 2 ≤ d) (S0 : Stat φ0) (T : TK σ n K P V E c) (h : eSt σ n K P V E c φ0 A w u j τ) (hw : w.length < 300) (e4 : x4 = 1) (hk : K j = 14 ∨ K j = 40) (k : ∀ υ, eSt σ n K P V E c φ0 A ((if K j = 14 then 20 else 28) :: w) u (j + 1) υ → Q (some (0, 0)) υ) : pR mX11_operand d 120 [(2, 68), (0, now), (0, x2), (0, x3), (0, x4)] [] τ Q := by
  have S := S0.eq h.1.1
  have R := T.R
  have hc := (h.2.1.2.1 rfl).2.2
  have z2 := (h.2.1.2.1 rfl).1
  have so := hc.sort R
  have ne : ¬ x4 = 0 := by omega
  have hl : ∀ y : Int, y = (if K j = 14 then 20 else 28) → pC mX11_hold 0 [(2, 68), (0, y)] τ (fun r υ => r = none ∧ eSt σ n K P V E c φ0 A ((if K j = 14 then 20 else 28) :: w) u j υ) := fun y ey => by
    rw [ey]
    exact hold_E S h hw (by split <;> decide)
  have s40 := so.2.2.2.2.2.1 40 (by decide)
  have s0 := so.2.2.2.2.2.2
  refine g_X11_operand_120 (Q1 := fun _ _ => True) (Q2 := fun _ _ => True) (Q3 := fun _ _ => True) (Q4 := fun _ _ => True) (Q5 := fun r υ => r = none ∧ eSt σ n K P V E c φ0 A ((if K j = 14 then 20 else 28) :: w) u j υ) (Q6 := fun r υ => r = none ∧ eSt σ n K P V E c φ0 A ((if K j = 14 then 20 else 28) :: w) u (j + 1) υ) (Q7 := fun r υ => r = none ∧ eSt σ n K P V E c φ0 A ((if K j = 14 then 20 else 28) :: w) u j υ) (Q8 := fun r υ => r = none ∧ eSt σ n K P V E c φ0 A ((if K j = 14 then 20 else 28) :: w) u (j + 1) υ) hd S now x2 x3 x4 (by unfold inR; omega) (fun _ => by unfold inR; omega) (fun _ c3 => absurd c3 ne)
    (fun _ c3 => absurd c3 ne) (fun _ c3 => absurd c3 ne) (fun _ c3 => absurd c3 ne) (fun _ c3 => absurd c3 ne) (fun _ c3 => absurd c3 ne)
    (fun _ c3 => absurd c3 ne) (fun _ c3 => absurd c3 ne) (fun _ c3 => absurd c3 ne) (fun _ c3 => absurd c3 ne) (fun _ c3 => absurd c3 ne)
    (fun _ _ => by unfold inR; omega) (fun _ _ c11 => hl 20 (by rw [if_pos (by omega)])) (fun _ _ _ τ1 _ q => nx_E S0 T q.2 (by omega) (by omega)) (fun _ _ _ _ _ _ τ2 _ q => k τ2 q.2)
    (fun _ _ c12 => hl 28 (by rw [if_neg (by omega)])) (fun _ _ _ τ1 _ q => nx_E S0 T q.2 (by omega) (by omega)) (fun _ _ _ _ _ _ τ2 _ q => k τ2 q.2) (fun c2 => by omega)
theorem op_97 {d : Nat} {A : List (Int × Int)} {w : List Int} {u j : Nat} {now x2 x3 x4 : Int} {τ : pS} {Q : Option pV → pS → Prop} (hd : 2 ≤ d) (S0 : Stat φ0) (T : TK σ n K P V E c) (h50 : rd φ0 68 50 = b2i rn) (h : eSt σ n K P V E c φ0 A w u j τ) (hA : A.length < 600) (hw : w.length < 300) (hn : now = 0 ∨ now = 1 ∨ now = 2) (e2 : x2 = nmK (K j)) (e4 : x4 = b2i (decide (now = 0 ∧ (K j = 14 ∨ K j = 40)))) (hok : (isUn (K j) = true ∧ u < 40) ∨ (now = 0 ∧ (K j = 14 ∨ K j = 40) ∧ dpW w < 7))
    (kU : opU σ n K P V E c φ0 rn A w u j now Q) (kO : opO σ n K P V E c φ0 A w u j now Q) (kF : opF σ n K P V E c φ0 rn w u j now Q) : pR mX11_operand d 97 [(2, 68), (0, now), (0, x2), (0, x3), (0, x4)] [] τ Q := by
  have S := S0.eq h.1.1
  have nm := nmK_un (K j)
  have e50 : rd τ 68 50 = b2i rn := by rw [h.1.2 68 50 (by omega) (by decide) (by decide) (by decide)]; exact h50
  have go : (x2 ≠ 4 ∧ x2 ≠ 5) ∨ rn = true → pR mX11_operand d 120 [(2, 68), (0, now), (0, x2), (0, x3), (0, x4)] [] τ Q := fun z => by
    have nr : ¬ (rn = false ∧ (K j = 9 ∨ K j = 8)) := fun y => by
      rcases z with z | z
      · omega
      · rw [z] at y; cases y.1
    rcases hok with ⟨o1, o2⟩ | ⟨o1, o2, o3⟩
    · have no := un_no o1
      exact op_U hd S0 T h hA hn e2 (by rw [e4, decide_eq_false (by omega)]; rfl) o1 (kU o1 o2 nr)
    · exact op_O hd S0 T h hw (by rw [e4, decide_eq_true ⟨o1, o2⟩]; rfl) o2 (kO o1 o2 o3)
  have bad : rn = false → (x2 = 4 ∨ x2 = 5) → ∀ υ, fEnd σ n K P V E c φ0 (flt K P 6 j) υ → Q (some (0, now)) υ := fun z1 z2 υ f => by
    have un : isUn (K j) = true := nm.1.mpr (Or.inr (by omega))
    have no := un_no un
    exact kF 6 υ f (Or.inr ⟨rfl, un, by omega, z1, by omega⟩)
  refine g_X11_operand_97 (Q1 := fun r υ => r = none ∧ fEnd σ n K P V E c φ0 (flt K P 6 j) υ) (Q2 := fun r υ => r = none ∧ fEnd σ n K P V E c φ0 (flt K P 6 j) υ) hd S now x2 x3 x4 (by rw [e50]; exact b2i_Ri _) (fun c1 => go (Or.inr (b2i_n (by rw [← e50]; exact c1)))) (fun _ => by unfold inR; omega) (fun _ _ => wr_E S0 T h (by decide)) (fun c2 c3 υ _ q => op_F hd S0 q.2 (bad (b2i_0 (by rw [← e50]; exact c2)) (Or.inl c3) υ q.2)) (fun _ c4 c5 => go (Or.inl ⟨c4, c5⟩)) (fun _ _ _ => wr_E S0 T h (by decide)) (fun c2 _ c6 υ _ q => op_F hd S0 q.2 (bad (b2i_0 (by rw [← e50]; exact c2)) (Or.inr c6) υ q.2))
theorem op_76 {d : Nat} {A : List (Int × Int)} {w : List Int} {u j : Nat} {now x2 x3 x4 : Int} {τ : pS} {Q : Option pV → pS → Prop} (hd : 2 ≤ d) (S0 : Stat φ0) (T : TK σ n K P V E c) (h50 : rd φ0 68 50 = b2i rn) (h : eSt σ n K P V E c φ0 A w u j τ) (hA : A.length < 600) (hw : w.length < 300) (hu : u ≤ 40) (hn : now = 0 ∨ now = 1 ∨ now = 2) (e2 : x2 = nmK (K j)) (e3 : x3 = b2i (isUn (K j))) (e4 : x4 = b2i (decide (now = 0 ∧ (K j = 14 ∨ K j = 40)))) (hok : isUn (K j) = true ∨ (now = 0 ∧ (K j = 14 ∨ K j = 40) ∧ dpW w < 7))
    (kU : opU σ n K P V E c φ0 rn A w u j now Q) (kO : opO σ n K P V E c φ0 A w u j now Q) (kF : opF σ n K P V E c φ0 rn w u j now Q) : pR mX11_operand d 76 [(2, 68), (0, now), (0, x2), (0, x3), (0, x4)] [] τ Q := by
  have S := S0.eq h.1.1
  have e45 := h.2.2.2.2
  refine g_X11_operand_76 (Q1 := fun r υ => r = none ∧ fEnd σ n K P V E c φ0 (flt K P 2 j) υ) hd S now x2 x3 x4 (by rw [e3]; exact b2i_Ri _) (fun c1 => ?_) (fun _ => by unfold inR; omega) (fun c2 c3 => ?_) (fun _ _ => wr_E S0 T h (by decide)) (fun c2 c4 υ _ q => ?_)
  · have f := b2i_0 (by rw [← e3]; exact c1)
    refine op_97 hd S0 T h50 h hA hw hn e2 e4 (Or.inr ?_) kU kO kF
    rcases hok with z | z
    · rw [z] at f; cases f
    · exact z
  · exact op_97 hd S0 T h50 h hA hw hn e2 e4 (Or.inl ⟨b2i_n (by rw [← e3]; exact c2), by omega⟩) kU kO kF
  · exact op_F hd S0 q.2 (kF 2 υ q.2 (Or.inl ⟨rfl, Or.inr (Or.inr ⟨b2i_n (by rw [← e3]; exact c2), by omega⟩)⟩))
theorem op_53 {d : Nat} {A : List (Int × Int)} {w : List Int} {u j : Nat} {now x2 x3 x4 : Int} {τ : pS} {Q : Option pV → pS → Prop} (hd : 2 ≤ d) (S0 : Stat φ0) (T : TK σ n K P V E c) (h50 : rd φ0 68 50 = b2i rn) (h : eSt σ n K P V E c φ0 A w u j τ) (hA : A.length < 600) (hw : w.length < 300) (hu : u ≤ 40) (hn : now = 0 ∨ now = 1 ∨ now = 2) (e2 : x2 = nmK (K j)) (e3 : x3 = b2i (isUn (K j))) (e4 : x4 = b2i (decide (now = 0 ∧ (K j = 14 ∨ K j = 40))))
    (kU : opU σ n K P V E c φ0 rn A w u j now Q) (kO : opO σ n K P V E c φ0 A w u j now Q) (kF : opF σ n K P V E c φ0 rn w u j now Q) : pR mX11_operand d 53 [(2, 68), (0, now), (0, x2), (0, x3), (0, x4)] [] τ Q := by
  have S := S0.eq h.1.1
  have e49 := h.2.2.2.1.2.1
  have dl := dpW_le w
  have t4 : x4 ≠ 0 → now = 0 ∧ (K j = 14 ∨ K j = 40) := fun z => of_decide_eq_true (b2i_n (by rw [← e4]; exact z))
  have n4 : x4 = 0 → ¬ (now = 0 ∧ (K j = 14 ∨ K j = 40)) := fun z => of_decide_eq_false (b2i_0 (by rw [← e4]; exact z))
  have t3 : x3 ≠ 0 → isUn (K j) = true := fun z => b2i_n (by rw [← e3]; exact z)
  have n3 : x3 = 0 → isUn (K j) = false := fun z => b2i_0 (by rw [← e3]; exact z)
  refine g_X11_operand_53 (Q1 := fun r υ => r = none ∧ fEnd σ n K P V E c φ0 (flt K P 2 j) υ) (Q2 := fun r υ => r = none ∧ fEnd σ n K P V E c φ0 (flt K P 2 j) υ) (Q3 := fun r υ => r = none ∧ fEnd σ n K P V E c φ0 (flt K P 2 j) υ) hd S now x2 x3 x4 (by rw [e3]; exact b2i_Ri _) (fun _ => by rw [e4]; exact b2i_Ri _) (fun c1 c3 => ?_) (fun _ _ => by unfold inR; omega) (fun _ _ _ => wr_E S0 T h (by decide)) (fun c1 c4 c5 υ _ q => ?_) (fun c1 c4 c6 => ?_) (fun _ => by rw [e4]; exact b2i_Ri _) (fun _ _ => wr_E S0 T h (by decide)) (fun c2 c7 υ _ q => ?_) (fun c2 c8 c9 => absurd c9 c8) (fun _ _ _ => by unfold inR; omega) (fun _ _ _ _ => wr_E S0 T h (by decide)) (fun c2 c8 c10 c11 υ _ q => ?_) (fun c2 c8 c10 c12 => ?_)
  · exact op_76 hd S0 T h50 h hA hw hu hn e2 e3 e4 (Or.inl (t3 c1)) kU kO kF
  · exact op_F hd S0 q.2 (kF 2 υ q.2 (Or.inl ⟨rfl, Or.inr (Or.inl ⟨(t4 c4).1, (t4 c4).2, by omega⟩)⟩))
  · exact op_76 hd S0 T h50 h hA hw hu hn e2 e3 e4 (Or.inl (t3 c1)) kU kO kF
  · exact op_F hd S0 q.2 (kF 2 υ q.2 (Or.inl ⟨rfl, Or.inl ⟨n3 c2, n4 c7⟩⟩))
  · exact op_F hd S0 q.2 (kF 2 υ q.2 (Or.inl ⟨rfl, Or.inr (Or.inl ⟨(t4 c8).1, (t4 c8).2, by omega⟩)⟩))
  · exact op_76 hd S0 T h50 h hA hw hu hn e2 e3 e4 (Or.inr ⟨(t4 c8).1, (t4 c8).2, by omega⟩) kU kO kF
theorem op_E {d : Nat} {A : List (Int × Int)} {w : List Int} {u j : Nat} {now : Int} {τ : pS} {Q : Option pV → pS → Prop} (hd : 2 ≤ d) (S0 : Stat φ0) (T : TK σ n K P V E c) (h50 : rd φ0 68 50 = b2i rn) (h : eSt σ n K P V E c φ0 A w u j τ) (hA : A.length < 600) (hw : w.length < 300) (hu : u ≤ 40) (hn : now = 0 ∨ now = 1 ∨ now = 2)
    (kU : opU σ n K P V E c φ0 rn A w u j now Q) (kO : opO σ n K P V E c φ0 A w u j now Q) (kF : opF σ n K P V E c φ0 rn w u j now Q) : pC mX11_operand d [(2, 68), (0, now)] τ Q := by
  have S := S0.eq h.1.1
  have R := T.R
  have hc := (h.2.1.2.1 rfl).2.2
  have so := hc.sort R
  have nm := nmK_un (K j)
  have e2 : vNam τ = nmK (K j) := nm_K (hc.word R).1
  have s40 := so.2.2.2.2.2.1 40 (by decide)
  have w14 : vIsW τ 7237492 = decide (K j = 14) := (hc.word R).1 14 (by decide)
  have h6 : inR (rd τ 68 6) := by unfold inR; omega
  have h9 : rd τ 68 6 = 1 → inL (rd τ 68 9) := fun z => ((hc.word R).2.2 z).2.1
  have is := isWord_C (d := 0) S h6 h9 (show inL 7237492 by decide)
  have go : ∀ x3 x4 : Int, x3 = b2i (isUn (K j)) → x4 = b2i (decide (now = 0 ∧ (K j = 14 ∨ K j = 40))) → pR mX11_operand d 53 [(2, 68), (0, now), (0, (vNam τ)), (0, x3), (0, x4)] [] τ Q := fun x3 x4 e3 e4 => op_53 hd S0 T h50 h hA hw hu hn e2 e3 e4 kU kO kF
  have uT : (K j = 19 ∨ 0 ≤ vNam τ) → (1 : Int) = b2i (isUn (K j)) := fun z => by rw [nm.1.mpr (by rw [← e2]; exact z)]; rfl
  have uF : K j ≠ 19 → vNam τ < 0 → (0 : Int) = b2i (isUn (K j)) := fun z1 z2 => by
    cases y : isUn (K j) with
    | false => rfl
    | true => have := nm.1.mp y; omega
  have oF : ¬ (now = 0 ∧ (K j = 14 ∨ K j = 40)) → (0 : Int) = b2i (decide (now = 0 ∧ (K j = 14 ∨ K j = 40))) := fun z => by rw [decide_eq_false z]; rfl
  have oT : (now = 0 ∧ (K j = 14 ∨ K j = 40)) → (1 : Int) = b2i (decide (now = 0 ∧ (K j = 14 ∨ K j = 40))) := fun z => by rw [decide_eq_true z]; rfl
  have wT : vIsW τ 7237492 = true → K j = 14 := fun z => by rw [w14] at z; exact of_decide_eq_true z
  have wF : vIsW τ 7237492 = false → K j ≠ 14 := fun z => by rw [w14] at z; exact of_decide_eq_false z
  exact g_X11_operand_0 hd S now (named_E S h6 h9) h6 (fun _ => by unfold inR; omega)
    (fun c1 c3 => go 1 0 (uT (by omega)) (oF (by omega))) (fun c1 c4 c5 => go 1 1 (uT (by omega)) (oT (by omega))) (fun _ _ _ => is) (fun c1 c4 c6 c7 => go 1 0 (uT (by omega)) (oF (by have := wF c7; omega))) (fun c1 c4 c6 c8 => go 1 1 (uT (by omega)) (oT (by have := wT c8; omega)))
    (fun _ => by rw [e2]; unfold inR; omega) (fun _ _ => by unfold inR; omega)
    (fun c2 c9 c11 => go 0 0 (uF (by omega) c9) (oF (by omega))) (fun c2 c9 c12 c13 => go 0 1 (uF (by omega) c9) (oT (by omega))) (fun _ _ _ _ => is) (fun c2 c9 c12 c14 c15 => go 0 0 (uF (by omega) c9) (oF (by have := wF c15; omega))) (fun c2 c9 c12 c14 c16 => go 0 1 (uF (by omega) c9) (oT (by have := wT c16; omega)))
    (fun _ _ => by unfold inR; omega)
    (fun c2 c10 c17 => go 1 0 (uT (by omega)) (oF (by omega))) (fun c2 c10 c18 c19 => go 1 1 (uT (by omega)) (oT (by omega))) (fun _ _ _ _ => is) (fun c2 c10 c18 c20 c21 => go 1 0 (uT (by omega)) (oF (by have := wF c21; omega))) (fun c2 c10 c18 c20 c22 => go 1 1 (uT (by omega)) (oT (by have := wT c22; omega)))
end LRO
