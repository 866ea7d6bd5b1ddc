/-! the reference's tokens: contracts -/
theorem isWord_C {d : Nat} {φ : pS} (S : Stat φ) {x : Int} (h6 : inR (rd φ 68 6)) (h9 : rd φ 68 6 = 1 → inL (rd φ 68 9)) (hx : inL x) : pC mX11_isWord d [(2, 68), (1, x)] φ (fun r τ => r = some (0, b2i (vIsW φ x)) ∧ τ = φ) := by
  refine g_X11_isWord_0 (Nat.zero_le d) S x h6 (fun c1 => ⟨?_, rfl⟩) (fun c2 => h9 c2) (fun _ => hx) (fun c2 c3 => ⟨?_, rfl⟩) (fun c2 c4 => ⟨?_, rfl⟩)
  · exact b2i_zero (fun z => c1 z.1)
  · exact b2i_zero (fun z => c3 (l_cmp0.mpr z.2))
  · exact b2i_one ⟨c2, l_cmp0.mp c4⟩
theorem isName_C {d : Nat} {φ : pS} (S : Stat φ) (h6 : inR (rd φ 68 6)) (h9 : rd φ 68 6 = 1 → inL (rd φ 68 9)) : pC mX11_isName d [(2, 68)] φ (fun r τ => r = some (0, b2i (vIsN φ)) ∧ τ = φ) := by
  have no : ∀ q : Int, q ∈ kwW → l_cmp (rd φ 68 9) q = 0 → some ((0 : Nat), (0 : Int)) = some (0, b2i (vIsN φ)) := fun q hq e => b2i_zero (fun z => z.2 (by rw [l_cmp0.mp e]; exact hq))
  refine g_X11_isName_0 (Nat.zero_le d) S h6 (fun c1 => h9 c1) ?_ ?_ ?_ ?_ ?_ ?_ ?_ ?_ ?_ ?_ ?_ ?_ ?_ ?_ ?_ ?_ ?_ ?_ ?_ ?_
  · intro _ e; exact ⟨no _ (by decide) e, rfl⟩
  · intro _ _ e; exact ⟨no _ (by decide) e, rfl⟩
  · intro _ _ _ e; exact ⟨no _ (by decide) e, rfl⟩
  · intro _ _ _ _ e; exact ⟨no _ (by decide) e, rfl⟩
  · intro _ _ _ _ _ e; exact ⟨no _ (by decide) e, rfl⟩
  · intro _ _ _ _ _ _ e; exact ⟨no _ (by decide) e, rfl⟩
  · intro _ _ _ _ _ _ _ e; exact ⟨no _ (by decide) e, rfl⟩
  · intro _ _ _ _ _ _ _ _ e; exact ⟨no _ (by decide) e, rfl⟩
  · intro _ _ _ _ _ _ _ _ _ e; exact ⟨no _ (by decide) e, rfl⟩
  · intro _ _ _ _ _ _ _ _ _ _ _ e; exact ⟨no _ (by decide) e, rfl⟩
  · intro _ _ _ _ _ _ _ _ _ _ _ _ e; exact ⟨no _ (by decide) e, rfl⟩
  · intro _ _ _ _ _ _ _ _ _ _ _ _ _ e; exact ⟨no _ (by decide) e, rfl⟩
  · intro _ _ _ _ _ _ _ _ _ _ _ _ _ _ e; exact ⟨no _ (by decide) e, rfl⟩
  · intro _ _ _ _ _ _ _ _ _ _ _ _ _ _ _ e; exact ⟨no _ (by decide) e, rfl⟩
  · intro _ _ _ _ _ _ _ _ _ _ _ _ _ _ _ _ e; exact ⟨no _ (by decide) e, rfl⟩
  · intro _ _ _ _ _ _ _ _ _ _ _ _ _ _ _ _ _ e; exact ⟨no _ (by decide) e, rfl⟩
  · intro _ _ _ _ _ _ _ _ _ _ _ _ _ _ _ _ _ _ e; exact ⟨no _ (by decide) e, rfl⟩
  · intro c1 n0 n1 n2 n3 n4 n5 n6 n7 n8 n9 n10 n11 n12 n13 n14 n15 n16 n17
    refine ⟨b2i_one ⟨c1, fun z => ?_⟩, rfl⟩
    simp only [kwW, List.mem_cons, List.not_mem_nil, or_false] at z
    rcases z with z | z | z | z | z | z | z | z | z | z | z | z | z | z | z | z | z | z
    · exact n0 (l_cmp0.mpr z)
    · exact n1 (l_cmp0.mpr z)
    · exact n2 (l_cmp0.mpr z)
    · exact n3 (l_cmp0.mpr z)
    · exact n4 (l_cmp0.mpr z)
    · exact n5 (l_cmp0.mpr z)
    · exact n6 (l_cmp0.mpr z)
    · exact n7 (l_cmp0.mpr z)
    · exact n8 (l_cmp0.mpr z)
    · exact n9 (l_cmp0.mpr z)
    · exact n10 (l_cmp0.mpr z)
    · exact n11 (l_cmp0.mpr z)
    · exact n12 (l_cmp0.mpr z)
    · exact n13 (l_cmp0.mpr z)
    · exact n14 (l_cmp0.mpr z)
    · exact n15 (l_cmp0.mpr z)
    · exact n16 (l_cmp0.mpr z)
    · exact n17 (l_cmp0.mpr z)
  · intro _ _ _ _ _ _ _ _ _ _ e; exact ⟨no _ (by decide) e, rfl⟩
  · intro c2; exact ⟨b2i_zero (fun z => c2 z.1), rfl⟩
theorem wrong_M {σ : pS} {n : Int} {K P V E : Nat → Int} {c d : Nat} {o : pO} {j : Nat} {φ : pS} (S : Stat φ) (R : tkR K V c) (H : mSt σ n K P V E c o j φ) {w : Int} (hw : 0 < w ∧ w < 100) (k : Nat) : pC mX11_wrong d [(2, 68), (0, w)] φ (fun r τ => r = none ∧ mFr φ τ ∧ mSt σ n K P V E c (oo o (some (if K j = 22 then 1 else w, P j))) k τ) := by
  cases o with
  | some x =>
    obtain ⟨f, p⟩ := x
    have e := H.2.2 f p rfl
    exact g_X11_wrong_0 (Nat.zero_le d) S w (by unfold inR; omega) (fun c1 => by omega) (fun c1 => by omega) (fun c1 => by omega) (fun _ => ⟨rfl, mFr.rf φ, H.to rfl (fun e => (by cases e))⟩)
  | none =>
    obtain ⟨e2, e3, hc⟩ := H.2.1 rfl
    have so := hc.sort R
    have fin : ∀ f : Int, 0 < f → f < 100 → mFr φ (wr (wr φ 68 2 f) 68 3 (rd φ 68 7)) ∧ mSt σ n K P V E c (some (f, P j)) k (wr (wr φ 68 2 f) 68 3 (rd φ 68 7)) := fun f f0 f1 => ⟨⟨rfl, fun a i q => by rw [rd_wr_n (by omega), rd_wr_n (by omega)]⟩, (H.1.wr (by decide)).wr (by decide), fun e => (by cases e), fun f2 p2 e => by
      have e := Option.some.inj e
      have ef : f = f2 := congrArg Prod.fst e
      have ep : P j = p2 := congrArg Prod.snd e
      rw [rd_wr_n (by omega), rd_wr_same, rd_wr_same]
      exact ⟨ef, by omega, by omega, hc.2.1.trans ep⟩⟩
    refine g_X11_wrong_0 (Nat.zero_le d) S w (by unfold inR; omega) (fun _ => by unfold inR; omega) (fun _ c3 => ⟨rfl, ?_⟩) (fun _ c4 => ⟨rfl, ?_⟩) (fun c2 => by omega)
    · rw [oo_none, if_neg (by omega)]; exact fin w hw.1 hw.2
    · rw [oo_none, if_pos (by omega)]; exact fin 1 (by decide) (by decide)
theorem next_E {σ : pS} {n : Int} {K P V E : Nat → Int} {c d : Nat} {φ : pS} (hd : 1 ≤ d) (S : Stat φ) (T : TK σ n K P V E c) {i : Nat} (hi : i ≤ c) (M : txM σ n φ) (h4 : rd φ 68 4 = E i) (h2 : rd φ 68 2 = 0) (h3 : rd φ 68 3 = -1) (hE : 0 ≤ E i ∧ E i ≤ n) : pC mX11_next d [(2, 68)] φ (fun r τ => r = none ∧ nxFr φ τ ∧ mSt σ n K P V E c none i τ) := by
  refine (next_C hd S T.1 M h4 hE).mono fun r τ _ ⟨q1, F, p, b, pn, e7, q2⟩ => ⟨q1, F, ⟨(F.2 68 5 (by omega)).trans M.1, fun x x0 x1 => (F.2 69 x (by omega)).trans (M.2 x x0 x1)⟩, fun _ => ⟨(F.2 68 2 (by omega)).trans h2, (F.2 68 3 (by omega)).trans h3, hi, ?_⟩, fun f p e => (by cases e)⟩
  by_cases z : i = c
  · subst z
    have B := T.2.2.2.2.1
    have en := T.2.2.2.2.2.2
    rcases q2 with ⟨a1, a2, a3⟩ | ⟨a1, a2, a3⟩
    · exact ⟨by rw [e7, a1, en], Or.inl ⟨rfl, a2, a3⟩⟩
    · exact absurd (B.2 p b.1 a1) a2
  · obtain ⟨t1, t2, t3, t4, t5⟩ := T.2.2.1 i (by omega)
    rcases q2 with ⟨a1, a2, a3⟩ | ⟨a1, a2, a3⟩
    · exact absurd (b.2 (P i) t1.1 (by omega)) t4
    · have ep : p = P i := by
        rcases Int.lt_trichotomy p (P i) with y | y | y
        · exact absurd (t1.2 p b.1 y) a2
        · exact y
        · exact absurd (b.2 (P i) t1.1 y) t4
      rw [ep] at e7 a3
      exact ⟨e7, Or.inr ⟨by omega, a3 _ _ _ t5⟩⟩
theorem next_M {σ : pS} {n : Int} {K P V E : Nat → Int} {c d : Nat} {j : Nat} {φ : pS} (hd : 1 ≤ d) (S : Stat φ) (T : TK σ n K P V E c) (H : mSt σ n K P V E c none j φ) (hj : j < c) (hk : K j ≠ 22) : pC mX11_next d [(2, 68)] φ (fun r τ => r = none ∧ nxFr φ τ ∧ mSt σ n K P V E c none (j + 1) τ) := by
  obtain ⟨e2, e3, h1, h2, h3⟩ := H.2.1 rfl
  have t := T.2.2.1 j hj
  have te := tokT_e ⟨t.2.1, t.2.2.1⟩ t.2.2.2.2
  have e4 : rd φ 68 4 = E (j + 1) := by
    rcases h3 with ⟨a1, _⟩ | ⟨a1, a2⟩
    · omega
    · rcases a2 with ⟨b1, _⟩ | ⟨_, _, _, b, _⟩ | ⟨_, _, _, b, _⟩ | ⟨_, _, b, _⟩ | ⟨_, _, b⟩
      · exact absurd b1 hk
      · exact b
      · exact b
      · exact b
      · exact b
  exact next_E hd S T (by omega) H.1 e4 e2 e3 (by have := t.2.1; omega)
theorem mSt.ck {σ : pS} {n : Int} {K P V E : Nat → Int} {c : Nat} {j k : Nat} {φ : pS} {b : Bool} {w : Int} (h : b = false) (H : mSt σ n K P V E c (oo none (some (if K j = 22 then 1 else w, P j))) k φ) : mSt σ n K P V E c (ck K P b w j) k φ := by
  rw [ck_f h]; exact H
theorem wantWord_M {σ : pS} {n : Int} {K P V E : Nat → Int} {c d : Nat} {o : pO} {j : Nat} {φ : pS} (hd : 2 ≤ d) (S : Stat φ) (T : TK σ n K P V E c) (H : mSt σ n K P V E c o j φ) {q : Nat} (hq : q < 18) {x : Int} (hx : x = kwc q) : pC mX11_wantWord d [(2, 68), (1, x)] φ (fun r τ => r = none ∧ mFr φ τ ∧ mSt σ n K P V E c (oo o (ck K P (decide (K j = (q : Int))) 2 j)) (j + 1) τ) := by
  have R := T.R
  have xL : inL x := by
    have : ∀ q : Fin 18, -9223372036854775808 ≤ kwc q.val ∧ kwc q.val < 9223372036854775808 := by decide
    rw [hx]; exact this ⟨q, hq⟩
  cases o with
  | some y =>
    obtain ⟨f, p⟩ := y
    have e := H.2.2 f p rfl
    exact g_X11_wantWord_0 (Q1 := fun _ _ => True) (Q2 := fun _ _ => True) (Q3 := fun _ _ => True) hd S x (by unfold inR; omega) (fun c1 => by omega) (fun c1 => by omega) (fun c1 => by omega) (fun c1 => by omega) (fun c1 => by omega) (fun c1 => by omega) (fun _ => ⟨rfl, mFr.rf φ, H.to rfl (fun e => (by cases e))⟩)
  | none =>
    obtain ⟨e2, e3, hc⟩ := H.2.1 rfl
    have so := hc.sort R
    have wd := hc.word R
    have ew : vIsW φ x = decide (K j = (q : Int)) := by rw [hx]; exact wd.1 q hq
    refine g_X11_wantWord_0 (Q1 := fun r τ => r = some (0, b2i (decide (K j = (q : Int)))) ∧ τ = φ) (Q2 := fun r τ => r = none ∧ nxFr φ τ ∧ mSt σ n K P V E c none (j + 1) τ) (Q3 := fun r τ => r = none ∧ mFr φ τ ∧ mSt σ n K P V E c (oo none (some (if K j = 22 then 1 else 2, P j))) (j + 1) τ) hd S x (by unfold inR; omega) (fun _ => ?_) (fun _ v1 b1 _ _ _ => by unfold inR; omega) (fun _ v1 b1 τ1 _ q1 c3 => ?_) (fun _ v1 b1 τ1 _ q1 c3 τ2 _ q2 => ?_) (fun _ v1 b1 τ1 _ q1 c4 => ?_) (fun _ v1 b1 τ1 _ q1 c4 τ3 _ q3 => ?_) (fun c2 => by omega)
    · rw [← ew]; exact isWord_C S (by unfold inR; omega) (fun z => (wd.2.2 z).2.1) xL
    · have kq : K j = (q : Int) := by
        by_cases z : K j = (q : Int)
        · exact z
        · have := so_inj q1.1; rw [decide_eq_false z] at this; exact absurd this c3
      rw [q1.2]; exact next_M (Nat.le_refl 1) S T H (R.lt hc.1 (by omega)) (by omega)
    · have kq : K j = (q : Int) := by
        by_cases z : K j = (q : Int)
        · exact z
        · have := so_inj q1.1; rw [decide_eq_false z] at this; exact absurd this c3
      rw [oo_none, ck_t (decide_eq_true kq)]
      exact ⟨rfl, q2.2.1.m, q2.2.2⟩
    · rw [q1.2]; exact wrong_M S R H (by decide) _
    · have kq : ¬ K j = (q : Int) := fun z => by
        have := so_inj q1.1; rw [decide_eq_true z] at this; exact absurd (this.symm.trans c4) (by decide)
      rw [oo_none]
      exact ⟨rfl, q3.2.1, mSt.ck (decide_eq_false kq) q3.2.2⟩
theorem told_M {σ : pS} {n : Int} {K P V E : Nat → Int} {c d : Nat} {o : pO} {j : Nat} {φ : pS} (hd : 2 ≤ d) (S : Stat φ) (T : TK σ n K P V E c) (H : mSt σ n K P V E c o j φ) {lo hi : Int} (hl : o = none → inR lo) (hh : inR hi) : pC mX11_told d [(2, 68), (0, lo), (0, hi)] φ (fun r τ => ∃ v, r = some (0, v) ∧ mFr φ τ ∧ mSt σ n K P V E c (oo o (oo (ck K P (decide (K j = 19)) 2 j) (ck K P (decide (lo ≤ V j ∧ V j ≤ hi)) 4 j))) (j + 1) τ ∧ (oo o (oo (ck K P (decide (K j = 19)) 2 j) (ck K P (decide (lo ≤ V j ∧ V j ≤ hi)) 4 j)) = none → v = V j)) := by
  have R := T.R
  cases o with
  | some y =>
    obtain ⟨f, p⟩ := y
    have e := H.2.2 f p rfl
    exact g_X11_told_0 (Q1 := fun _ _ => True) (Q2 := fun _ _ => True) (Q3 := fun _ _ => True) (Q4 := fun _ _ => True) (Q5 := fun _ _ => True) (Q6 := fun _ _ => True) (Q7 := fun _ _ => True) hd S lo hi (by unfold inR; omega) (fun c1 => by omega) (fun c1 => by omega) (fun c1 => by omega) (fun c1 => by omega) (fun c1 => by omega) (fun c1 => by omega) (fun c1 => by omega) (fun c1 => by omega) (fun c1 => by omega) (fun c1 => by omega) (fun c1 => by omega) (fun c1 => by omega) (fun c1 => by omega) (fun c1 => by omega) (fun c1 => by omega) (fun c1 => by omega) (fun c1 => by omega) (fun c1 => by omega) (fun c1 => by omega) (fun c1 => by omega) (fun c1 => by omega) (fun c1 => by omega) (fun _ => ⟨0, rfl, mFr.rf φ, H.to rfl (fun e => (by cases e)), fun e => (by cases e)⟩)
  | none =>
    obtain ⟨e2, e3, hc⟩ := H.2.1 rfl
    have so := hc.sort R
    by_cases k19 : K j = 19
    · have s2 : rd φ 68 6 = 2 := so.2.1.mp k19
      have jc : j < c := R.lt hc.1 (by omega)
      have v8 : rd φ 68 8 = V j ∧ 0 ≤ V j ∧ V j ≤ 9999 := by
        obtain ⟨h1, h2, h3⟩ := hc
        rcases h3 with ⟨a1, a2, a3⟩ | ⟨a1, a2⟩
        · omega
        · rcases a2 with ⟨b1, _⟩ | ⟨b1, _⟩ | ⟨_, _, b, _, b2, b3⟩ | ⟨b, _⟩ | ⟨b1, _⟩
          · omega
          · omega
          · exact ⟨b, b2, b3⟩
          · omega
          · have := vSig_R b1; omega
      have t1 : ck K P (decide (K j = 19)) 2 j = none := ck_t (decide_eq_true k19)
      rw [t1]
      have bad : ¬ (lo ≤ V j ∧ V j ≤ hi) → ∀ (r : Option pV) (τ : pS), (r = none ∧ mFr φ τ ∧ mSt σ n K P V E c (oo none (some (if K j = 22 then 1 else 4, P j))) (j + 1) τ) → rd τ 68 2 ≠ 0 ∧ inR (rd τ 68 2) ∧ ∃ v, some ((0 : Nat), rd τ 68 8) = some (0, v) ∧ mFr φ τ ∧ mSt σ n K P V E c (oo none (oo none (ck K P (decide (lo ≤ V j ∧ V j ≤ hi)) 4 j))) (j + 1) τ ∧ (oo none (oo none (ck K P (decide (lo ≤ V j ∧ V j ≤ hi)) 4 j)) = none → v = V j) := fun z r τ q => by
        have e := q.2.2.2.2 _ _ rfl
        refine ⟨by omega, by unfold inR; omega, _, rfl, q.2.1, mSt.ck (decide_eq_false z) q.2.2, fun y => ?_⟩
        rw [oo_none, oo_none, ck_f (decide_eq_false z)] at y
        cases y
      refine g_X11_told_0 (Q1 := fun r τ => r = none ∧ mFr φ τ ∧ mSt σ n K P V E c (oo none (some (if K j = 22 then 1 else 4, P j))) (j + 1) τ) (Q2 := fun _ _ => True) (Q3 := fun r τ => r = none ∧ nxFr φ τ ∧ mSt σ n K P V E c none (j + 1) τ) (Q4 := fun r τ => r = none ∧ mFr φ τ ∧ mSt σ n K P V E c (oo none (some (if K j = 22 then 1 else 4, P j))) (j + 1) τ) (Q5 := fun _ _ => True) (Q6 := fun _ _ => True) (Q7 := fun _ _ => True) hd S lo hi (by unfold inR; omega) (fun _ => by unfold inR; omega) (fun _ _ => by unfold inR; omega) (fun _ _ => hl rfl) (fun _ _ c5 => wrong_M S R H (by decide) _) (fun _ _ c5 τ1 _ q1 => (bad (by omega) _ _ q1).2.1) (fun _ _ c5 τ1 _ q1 _ => (bad (by omega) _ _ q1).2.2) (fun _ _ c5 τ1 _ q1 c8 => absurd c8 (bad (by omega) _ _ q1).1) (fun _ _ c5 τ1 _ q1 c8 => absurd c8 (bad (by omega) _ _ q1).1) (fun _ _ _ => hh) (fun _ _ _ _ c11 => absurd e2 c11) (fun _ _ c6 c9 _ => next_M (Nat.le_refl 1) S T H jc (by omega)) (fun _ _ c6 c9 _ τ3 _ q3 => ?_) (fun _ _ c6 c10 => wrong_M S R H (by decide) _) (fun _ _ c6 c10 τ4 _ q4 => (bad (by omega) _ _ q4).2.1) (fun _ _ c6 c10 τ4 _ q4 _ => (bad (by omega) _ _ q4).2.2) (fun _ _ c6 c10 τ4 _ q4 c14 => absurd c14 (bad (by omega) _ _ q4).1) (fun _ _ c6 c10 τ4 _ q4 c14 => absurd c14 (bad (by omega) _ _ q4).1) (fun _ c4 => absurd s2 c4) (fun _ c4 => absurd s2 c4) (fun _ c4 => absurd s2 c4) (fun _ c4 => absurd s2 c4) (fun _ c4 => absurd s2 c4) (fun c2 => by omega)
      have g : ck K P (decide (lo ≤ V j ∧ V j ≤ hi)) 4 j = none := ck_t (decide_eq_true (by omega))
      rw [g]
      exact ⟨_, rfl, q3.2.1.m, q3.2.2, fun _ => v8.1⟩
    · have s2 : rd φ 68 6 ≠ 2 := fun z => k19 (so.2.1.mpr z)
      have t1 : ck K P (decide (K j = 19)) 2 j = some (if K j = 22 then 1 else 2, P j) := ck_f (decide_eq_false k19)
      rw [t1]
      have bad : ∀ (r : Option pV) (τ : pS), (r = none ∧ mFr φ τ ∧ mSt σ n K P V E c (oo none (some (if K j = 22 then 1 else 2, P j))) (j + 1) τ) → rd τ 68 2 ≠ 0 ∧ inR (rd τ 68 2) := fun r τ q => by
        have e := q.2.2.2.2 _ _ rfl
        exact ⟨by omega, by unfold inR; omega⟩
      exact g_X11_told_0 (Q1 := fun _ _ => True) (Q2 := fun _ _ => True) (Q3 := fun _ _ => True) (Q4 := fun _ _ => True) (Q5 := fun _ _ => True) (Q6 := fun r τ => r = none ∧ mFr φ τ ∧ mSt σ n K P V E c (oo none (some (if K j = 22 then 1 else 2, P j))) (j + 1) τ) (Q7 := fun _ _ => True) hd S lo hi (by unfold inR; omega) (fun _ => by unfold inR; omega) (fun _ c3 => absurd c3 s2) (fun _ c3 => absurd c3 s2) (fun _ c3 => absurd c3 s2) (fun _ c3 => absurd c3 s2) (fun _ c3 => absurd c3 s2) (fun _ c3 => absurd c3 s2) (fun _ c3 => absurd c3 s2) (fun _ c3 => absurd c3 s2) (fun _ c3 => absurd c3 s2) (fun _ c3 => absurd c3 s2) (fun _ c3 => absurd c3 s2) (fun _ c3 => absurd c3 s2) (fun _ c3 => absurd c3 s2) (fun _ c3 => absurd c3 s2) (fun _ c3 => absurd c3 s2) (fun _ c3 => absurd c3 s2) (fun _ _ => wrong_M S R H (by decide) _) (fun _ _ τ6 _ q6 => (bad _ _ q6).2) (fun _ _ τ6 _ q6 _ => ⟨_, rfl, q6.2.1, q6.2.2, fun y => (by cases y)⟩) (fun _ _ τ6 _ q6 c16 => absurd c16 (bad _ _ q6).1) (fun _ _ τ6 _ q6 c16 => absurd c16 (bad _ _ q6).1) (fun c2 => by omega)
theorem point_M {σ : pS} {n : Int} {K P V E : Nat → Int} {c d : Nat} {o : pO} {j : Nat} {φ : pS} (hd : 2 ≤ d) (S : Stat φ) (T : TK σ n K P V E c) (H : mSt σ n K P V E c o j φ) {x : Int} (hx : o = none → inR x) : pC mX11_point d [(2, 68), (0, x)] φ (fun r τ => ∃ v, r = some (0, v) ∧ mFr φ τ ∧ mSt σ n K P V E c (oo o (oo (ck K P (decide (K j = 20)) 2 j) (ck K P (decide (V j ≠ x)) 5 j))) (j + 1) τ ∧ (oo o (oo (ck K P (decide (K j = 20)) 2 j) (ck K P (decide (V j ≠ x)) 5 j)) = none → v = V j)) := by
  have R := T.R
  cases o with
  | some y =>
    obtain ⟨f, p⟩ := y
    have e := H.2.2 f p rfl
    exact g_X11_point_0 (Q1 := fun _ _ => True) (Q2 := fun _ _ => True) (Q3 := fun _ _ => True) (Q4 := fun _ _ => True) (Q5 := fun _ _ => True) hd S x (by unfold inR; omega) (fun c1 => by omega) (fun c1 => by omega) (fun c1 => by omega) (fun c1 => by omega) (fun c1 => by omega) (fun c1 => by omega) (fun c1 => by omega) (fun c1 => by omega) (fun c1 => by omega) (fun c1 => by omega) (fun c1 => by omega) (fun c1 => by omega) (fun c1 => by omega) (fun c1 => by omega) (fun c1 => by omega) (fun c1 => by omega) (fun _ => ⟨0, rfl, mFr.rf φ, H.to rfl (fun e => (by cases e)), fun e => (by cases e)⟩)
  | none =>
    obtain ⟨e2, e3, hc⟩ := H.2.1 rfl
    have so := hc.sort R
    by_cases k20 : K j = 20
    · have s3 : rd φ 68 6 = 3 := so.2.2.1.mp k20
      have jc : j < c := R.lt hc.1 (by omega)
      have v8 : rd φ 68 8 = V j ∧ 0 ≤ V j ∧ V j ≤ 9 := by
        obtain ⟨h1, h2, h3⟩ := hc
        rcases h3 with ⟨a1, a2, a3⟩ | ⟨a1, a2⟩
        · omega
        · rcases a2 with ⟨b1, _⟩ | ⟨_, _, b, _, b2, b3⟩ | ⟨b1, _⟩ | ⟨b, _⟩ | ⟨b1, _⟩
          · omega
          · exact ⟨b, b2, b3⟩
          · omega
          · omega
          · have := vSig_R b1; omega
      have t1 : ck K P (decide (K j = 20)) 2 j = none := ck_t (decide_eq_true k20)
      rw [t1]
      refine g_X11_point_0 (Q1 := fun r τ => r = none ∧ nxFr φ τ ∧ mSt σ n K P V E c none (j + 1) τ) (Q2 := fun r τ => r = none ∧ mFr φ τ ∧ mSt σ n K P V E c (oo none (some (if K j = 22 then 1 else 5, P j))) (j + 1) τ) (Q3 := fun _ _ => True) (Q4 := fun _ _ => True) (Q5 := fun _ _ => True) hd S x (by unfold inR; omega) (fun _ => by unfold inR; omega) (fun _ _ => by unfold inR; omega) (fun _ _ => hx rfl) (fun _ _ _ c7 => absurd e2 c7) (fun _ _ _ _ => next_M (Nat.le_refl 1) S T H jc (by omega)) (fun _ _ c5 _ τ1 _ q1 => ?_) (fun _ _ _ => wrong_M S R H (by decide) _) (fun _ _ _ τ2 _ q2 => ?_) (fun _ _ c6 τ2 _ q2 _ => ?_) (fun _ _ _ τ2 _ q2 c10 => ?_) (fun _ _ _ τ2 _ q2 c10 => ?_) (fun _ c4 => absurd s3 c4) (fun _ c4 => absurd s3 c4) (fun _ c4 => absurd s3 c4) (fun _ c4 => absurd s3 c4) (fun _ c4 => absurd s3 c4) (fun c2 => by omega)
      · have g : ck K P (decide (V j ≠ x)) 5 j = none := ck_t (decide_eq_true (by omega))
        rw [g]
        exact ⟨_, rfl, q1.2.1.m, q1.2.2, fun _ => v8.1⟩
      · have e := q2.2.2.2.2 _ _ rfl; unfold inR; omega
      · refine ⟨_, rfl, q2.2.1, mSt.ck (decide_eq_false (fun z => z (by omega))) q2.2.2, fun y => ?_⟩
        rw [oo_none, oo_none, ck_f (decide_eq_false (fun z => z (by omega)))] at y
        cases y
      · have e := q2.2.2.2.2 _ _ rfl; omega
      · have e := q2.2.2.2.2 _ _ rfl; omega
    · have s3 : rd φ 68 6 ≠ 3 := fun z => k20 (so.2.2.1.mpr z)
      have t1 : ck K P (decide (K j = 20)) 2 j = some (if K j = 22 then 1 else 2, P j) := ck_f (decide_eq_false k20)
      rw [t1]
      exact g_X11_point_0 (Q1 := fun _ _ => True) (Q2 := fun _ _ => True) (Q3 := fun _ _ => True) (Q4 := fun r τ => r = none ∧ mFr φ τ ∧ mSt σ n K P V E c (oo none (some (if K j = 22 then 1 else 2, P j))) (j + 1) τ) (Q5 := fun _ _ => True) hd S x (by unfold inR; omega) (fun _ => by unfold inR; omega) (fun _ c3 => absurd c3 s3) (fun _ c3 => absurd c3 s3) (fun _ c3 => absurd c3 s3) (fun _ c3 => absurd c3 s3) (fun _ c3 => absurd c3 s3) (fun _ c3 => absurd c3 s3) (fun _ c3 => absurd c3 s3) (fun _ c3 => absurd c3 s3) (fun _ c3 => absurd c3 s3) (fun _ c3 => absurd c3 s3) (fun _ _ => wrong_M S R H (by decide) _) (fun _ _ τ4 _ q4 => by have e := q4.2.2.2.2 _ _ rfl; unfold inR; omega) (fun _ _ τ4 _ q4 _ => ⟨_, rfl, q4.2.1, q4.2.2, fun y => (by cases y)⟩) (fun _ _ τ4 _ q4 c12 => by have e := q4.2.2.2.2 _ _ rfl; omega) (fun _ _ τ4 _ q4 c12 => by have e := q4.2.2.2.2 _ _ rfl; omega) (fun c2 => by omega)
