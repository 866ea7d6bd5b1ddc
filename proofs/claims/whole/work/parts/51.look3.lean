/-! the class's look as a whole; the relation behind it -/
def lkFr (σ : pS) (l : Int) (τ : pS) : Prop := τ.1 = σ.1 ∧ ∀ a i : Int, ¬ (36 ≤ a ∧ a ≤ 39) → a ≠ l + 3 → ¬ (a = 35 ∧ (i = 4 ∨ i = 6)) → rd τ a i = rd σ a i
theorem lkFr.wr {σ τ : pS} {l a i v : Int} (h : lkFr σ l τ) (ha : 36 ≤ a ∧ a ≤ 39) : lkFr σ l (wr τ a i v) := ⟨h.1, fun b j p1 p2 p3 => by rw [rd_wr_n (by omega)]; exact h.2 b j p1 p2 p3⟩
theorem lkFr.q {σ τ υ : pS} {l : Int} (h : lkFr σ l τ) (q : qRow τ υ (l + 3)) : lkFr σ l υ := ⟨q.1.trans h.1, fun b j p1 p2 p3 => (q.2 b j p2).trans (h.2 b j p1 p2 p3)⟩
def kIn (σ : pS) (l k : Int) (h : Nat) (τ : pS) : Prop := lkFr σ l τ ∧ rd τ 35 4 = rd σ 0 7 ∧ rd τ 35 6 = k ∧ (∀ j : Int, (h : Int) ≤ j → j < 8 → rd τ 36 j = (if wTel σ k j < 0 then -1 else rd σ 97 (wTel σ k j))) ∧ (∀ j : Int, 0 ≤ j → j < 8 → rd τ 37 j = wFresh σ k j) ∧ ∀ j : Int, 0 ≤ j → j < (h : Int) → rd τ 36 j = wWind σ k j.toNat ∧ rd τ 38 j = sumF (fun i => wFresh σ k i) (j.toNat + 1) ∧ ∀ w : Int, vWay (rd σ 68 30) (rd σ 68 31) w = true → vBit (rd τ 39 j) (vOuter w) = shutS σ k w j
theorem vOuter_of {a b w : Int} (h : vWay a b w = true) (ha : a ≤ 6) (hb : b ≤ 7) : 0 ≤ vOuter w ∧ vOuter w < 17 ∧ vHas a b (vOuter w) = true ∧ (w < 6 ↔ vOuter w < 10) := by
  have := vWay_t h
  unfold vOuter vHas
  simp only [decide_eq_true_eq]
  split <;> omega
theorem vInner_of {a b j : Int} (h : vHas a b j = true) (ha : a ≤ 6) (hb : b ≤ 7) : ∃ w : Int, vOuter w = j ∧ vWay a b w = true := by
  have := vHas_t h
  by_cases c : j < 10
  · refine ⟨j, ?_, ?_⟩
    · unfold vOuter; rw [if_pos (by omega)]
    · unfold vWay; simp only [decide_eq_true_eq]; omega
  · refine ⟨j - 4, ?_, ?_⟩
    · unfold vOuter; rw [if_neg (by omega)]; omega
    · unfold vWay; simp only [decide_eq_true_eq]; omega
theorem unit_same {σ τ : pS} (L : RSlo σ) {k w h : Int} (hw : vWay (rd σ 68 30) (rd σ 68 31) w = true) (e4 : rd τ 35 4 = rd σ 0 7) (e36 : rd τ 36 h = wWind σ k h.toNat) (e37 : rd τ 37 h = wFresh σ k h) (e38 : rd τ 38 h = sumF (fun i => wFresh σ k i) (h.toNat + 1)) (es : ∀ b i : Int, rd σ 0 7 ≤ b → b ≤ rd σ 0 7 + 10 → rd τ b i = rd σ b i) :
    ∀ a n : Int, 1 ≤ a → a ≤ 6 → ((if w < 6 then (0 : Int) else 1) = 0 → a ≠ 4 ∧ a ≠ 5) → vUnit τ (lCode a) (vOuter w) h = uM σ k w h a n := by
  intro a n a1 a2 hy
  obtain ⟨l0, l1, l2, l3, l4, l5, l6, l7, l8, l9, l10, l11, l12⟩ := id L
  have t := vWay_t hw
  have m := l9 w hw
  have c : a = 1 ∨ a = 2 ∨ a = 3 ∨ a = 4 ∨ a = 5 ∨ a = 6 := by omega
  rcases c with rfl | rfl | rfl | rfl | rfl | rfl
  · rfl
  · show rd τ 36 h = wWind σ k h.toNat
    exact e36
  · show rd τ 37 h = wFresh σ k h
    exact e37
  · have c6 : ¬ w < 6 := fun q => by rw [if_pos q] at hy; exact (hy rfl).1 rfl
    have r := l11 (w - 6) (by omega) (by omega)
    rw [show 6 + (w - 6) = w by omega] at r
    show rd τ (rd τ 35 4 + 10) (vOuter w) + rd τ 38 h = rd σ 81 w + sumF (fun i => wFresh σ k i) (h.toNat + 1)
    rw [e38, e4, es _ _ (by omega) (by omega), show vOuter w = 10 + (w - 6) by unfold vOuter; rw [if_neg c6]; omega, r.2.2.2.1]
  · have c6 : ¬ w < 6 := fun q => by rw [if_pos q] at hy; exact (hy rfl).2 rfl
    have r := l11 (w - 6) (by omega) (by omega)
    rw [show 6 + (w - 6) = w by omega] at r
    show rd τ (rd τ 35 4 + 9) (vOuter w) = rd σ 80 w
    rw [e4, es _ _ (by omega) (by omega), show vOuter w = 10 + (w - 6) by unfold vOuter; rw [if_neg c6]; omega, r.1]
  · show rd τ (rd τ 35 4 + 4) (vOuter w) = rd σ 79 w
    rw [e4, es _ _ (by omega) (by omega), m.2.2.2.2.2.2.1]
theorem law_apart {σ : pS} (L : RSlo σ) {l : Int} {n2 : Nat} (I2 : Inst2 σ l n2) : rd σ 0 7 + 10 < l + 3 ∨ l + 3 < rd σ 0 7 := by
  by_cases c : rd σ 0 7 ≤ l + 3 ∧ l + 3 ≤ rd σ 0 7 + 10
  · exact absurd rfl (Inst6.ne L.2.1 c I2.o3)
  · omega
theorem look_out {d : Nat} {σ : pS} (hd : 3 ≤ d) (S : Stat σ) (W : RWin σ) (L : RSlo σ) (A : RLaw σ) {k : Int} (hk : inR k) : ∀ (m h : Nat) (τ : pS), h + m = 8 → kIn σ (rd σ 0 8) k h τ → pR mX3_look d 102 [(2, 35), (2, rd σ 0 7), (2, rd σ 0 8), (2, 23), (0, k), (0, wPrev σ k h), (0, sumF (fun i => wFresh σ k i) h), (0, (h : Int))] [] τ (fun r υ => r = none ∧ kIn σ (rd σ 0 8) k 8 υ) := by
  obtain ⟨hl, ⟨n2, I2, hn2, a1⟩, a2⟩ := A
  obtain ⟨l0, l1, l2, l3, l4, l5, l6, l7, l8, l9, l10, l11, l12⟩ := id L
  have hs := law_apart L I2
  intro m
  induction m with
  | zero =>
    intro h τ hm i
    have e : h = 8 := by omega
    subst e
    refine g_X3_look_102 (Q1 := fun _ _ => True) (Q2 := fun _ _ => True) hd (S.eq i.1.1) (rd σ 0 7) (rd σ 0 8) k _ _ _ (l1.eq i.1.1) (I2.eq i.1.1) (by omega) (fun _ => ⟨rfl, i⟩) (fun c => by omega) (fun c => by omega) (fun c => by omega) (fun c => by omega) (fun c => by omega) (fun c => by omega)
  | succ m ih =>
    intro h τ hm i
    obtain ⟨i1, i2, i3, i4, i5, i6⟩ := id i
    have ew : rd τ 36 (h : Int) = (if wTel σ k (h : Int) < 0 then -1 else rd σ 97 (wTel σ k (h : Int))) := i4 _ (by omega) (by omega)
    have ef : rd τ 37 (h : Int) = wFresh σ k (h : Int) := i5 _ (by omega) (by omega)
    have tr := wTel_R σ W k (h : Int)
    have w97 : 0 ≤ wTel σ k (h : Int) → 0 ≤ rd σ 97 (wTel σ k (h : Int)) := fun q => by have := W.2.2.2 (wTel σ k (h : Int)) q (by omega); omega
    have go : ∀ (x : Int), x = wWind σ k h →
        pC mX3_shutIn 2 [(2, 35), (0, (h : Int)), (2, rd σ 0 8)] (wr (wr τ 36 (h : Int) x) 38 (h : Int) (sumF (fun i => wFresh σ k i) h + rd τ 37 (h : Int))) (fun r υ => ∃ v, r = some (0, v) ∧ pR mX3_look d 102 [(2, 35), (2, rd σ 0 7), (2, rd σ 0 8), (2, 23), (0, k), (0, x), (0, sumF (fun i => wFresh σ k i) h + rd τ 37 (h : Int)), (0, (h : Int) + 1)] [] (wr υ 39 (h : Int) v) (fun r υ => r = none ∧ kIn σ (rd σ 0 8) k 8 υ)) := fun x hx => by
      subst hx
      have es : sumF (fun i => wFresh σ k i) h + rd τ 37 (h : Int) = sumF (fun i => wFresh σ k i) (h + 1) := by rw [ef]; rfl
      rw [es]
      have f1 : lkFr σ (rd σ 0 8) (wr (wr τ 36 (h : Int) (wWind σ k h)) 38 (h : Int) (sumF (fun i => wFresh σ k i) (h + 1))) := (i1.wr (by omega)).wr (by omega)
      have f4 : rd (wr (wr τ 36 (h : Int) (wWind σ k h)) 38 (h : Int) (sumF (fun i => wFresh σ k i) (h + 1))) 35 4 = rd σ 0 7 := by rw [rd_wr_n (by omega), rd_wr_n (by omega)]; exact i2
      have f6 : rd (wr (wr τ 36 (h : Int) (wWind σ k h)) 38 (h : Int) (sumF (fun i => wFresh σ k i) (h + 1))) 35 6 = k := by rw [rd_wr_n (by omega), rd_wr_n (by omega)]; exact i3
      have f36 : ∀ j : Int, rd (wr (wr τ 36 (h : Int) (wWind σ k h)) 38 (h : Int) (sumF (fun i => wFresh σ k i) (h + 1))) 36 j = if j = (h : Int) then wWind σ k h else rd τ 36 j := fun j => by
        rw [rd_wr_n (by omega), rd_wr]
        by_cases c : j = (h : Int)
        · rw [if_pos ⟨rfl, c⟩, if_pos c]
        · rw [if_neg (fun q => c q.2), if_neg c]
      have f37 : ∀ j : Int, rd (wr (wr τ 36 (h : Int) (wWind σ k h)) 38 (h : Int) (sumF (fun i => wFresh σ k i) (h + 1))) 37 j = rd τ 37 j := fun j => by rw [rd_wr_n (by omega), rd_wr_n (by omega)]
      have f38 : ∀ j : Int, rd (wr (wr τ 36 (h : Int) (wWind σ k h)) 38 (h : Int) (sumF (fun i => wFresh σ k i) (h + 1))) 38 j = if j = (h : Int) then sumF (fun i => wFresh σ k i) (h + 1) else rd τ 38 j := fun j => by
        rw [rd_wr]
        by_cases c : j = (h : Int)
        · rw [if_pos ⟨rfl, c⟩, if_pos c]
        · rw [if_neg (fun q => c q.2), if_neg c, rd_wr_n (by omega)]
      have f39 : ∀ j : Int, rd (wr (wr τ 36 (h : Int) (wWind σ k h)) 38 (h : Int) (sumF (fun i => wFresh σ k i) (h + 1))) 39 j = rd τ 39 j := fun j => by rw [rd_wr_n (by omega), rd_wr_n (by omega)]
      generalize (wr (wr τ 36 (h : Int) (wWind σ k h)) 38 (h : Int) (sumF (fun i => wFresh σ k i) (h + 1))) = τ1 at f1 f4 f6 f36 f37 f38 f39
      have fs : ∀ b i : Int, rd σ 0 7 ≤ b → b ≤ rd σ 0 7 + 10 → rd τ1 b i = rd σ b i := fun b i p1 p2 => f1.2 b i (by omega) (by omega) (by omega)
      have us : ∀ w : Int, vWay (rd σ 68 30) (rd σ 68 31) w = true → ∀ a n : Int, 1 ≤ a → a ≤ 6 → ((if w < 6 then (0 : Int) else 1) = 0 → a ≠ 4 ∧ a ≠ 5) → vUnit τ1 (lCode a) (vOuter w) (h : Int) = uM σ k w (h : Int) a n := fun w hw => unit_same L hw f4 (by rw [f36, if_pos rfl]; rfl) (by rw [f37]; exact ef) (by rw [f38, if_pos rfl]; rfl) fs
      have hB : ∀ j : Int, hasB τ1 j = vHas (rd σ 68 30) (rd σ 68 31) j := fun j => by
        unfold hasB
        rw [f4, fs _ _ (by omega) (by omega), fs _ _ (by omega) (by omega), l2, l4]
      have lr : ∀ w : Int, lawRel (if w < 6 then (0 : Int) else 1) (mList σ (if w < 6 then 0 else 1)) (cList σ (rd σ 0 8) (if w < 6 then 0 else 1)) := fun w => (a2 _ (by split <;> omega) (by split <;> omega)).2
      have yy : ∀ w : Int, vWay (rd σ 68 30) (rd σ 68 31) w = true → (if vOuter w < 10 then (0 : Int) else 1) = if w < 6 then 0 else 1 := fun w hw => by
        have := (vOuter_of hw l3.2 l5.2).2.2.2
        by_cases c : w < 6
        · rw [if_pos c, if_pos (this.mp c)]
        · rw [if_neg c, if_neg (fun q => c (this.mpr q))]
      refine pC.mono (shutIn_C (O := fun y => cList σ (rd σ 0 8) y) (n2 := n2) (by omega) (S.eq f1.1) hl (I2.eq f1.1) (by rw [f4]; exact l1.eq f1.1) (by omega) (by omega) (by rw [f4]; exact hs) (by rw [f4, fs _ _ (by omega) (by omega), l2]; exact l3) (by rw [f4, fs _ _ (by omega) (by omega), l4]; exact l5) (fun y y0 y1 => lSeg_mv (fun b i p1 p2 p3 => f1.2 b i (by omega) (by omega) (by omega)) (cList_seg (a1 y y0 y1))) (fun j hj => ?_)) (fun r υ le1 q => ?_)
      · rw [hB] at hj
        obtain ⟨w, rfl, hw⟩ := vInner_of hj l3.2 l5.2
        rw [yy w hw]
        exact law_fineL (lr w) (u := fun a n => uM σ k w (h : Int) a n) (fun n => rfl) (us w hw) (fun a n n0 n1 _ _ hy => uM_R W L hw (by omega) n0 n1 hy)
      · obtain ⟨v, rfl, q1, q2⟩ := q
        refine ⟨v, rfl, ?_⟩
        have e1 : wPrev σ k (h + 1) = wWind σ k h := rfl
        rw [← e1]
        have := ih (h + 1) (wr υ 39 (h : Int) v) (by omega) ?_
        · simpa using this
        · refine ⟨(f1.q q1).wr (by omega), ?_, ?_, fun j j0 j1 => ?_, fun j j0 j1 => ?_, fun j j0 j1 => ?_⟩
          · rw [rd_wr_n (by omega), q1.2 _ _ (by omega)]; exact f4
          · rw [rd_wr_n (by omega), q1.2 _ _ (by omega)]; exact f6
          · rw [rd_wr_n (by omega), q1.2 _ _ (by omega), f36, if_neg (by omega)]; exact i4 j (by omega) j1
          · rw [rd_wr_n (by omega), q1.2 _ _ (by omega), f37]; exact i5 j j0 j1
          · rw [rd_wr_n (by omega), rd_wr_n (by omega), q1.2 _ _ (by omega), q1.2 _ _ (by omega), f36, f38]
            by_cases c : j = (h : Int)
            · subst c
              rw [if_pos rfl, if_pos rfl]
              refine ⟨rfl, rfl, fun w hw => ?_⟩
              obtain ⟨o0, o1, o2, -⟩ := vOuter_of hw l3.2 l5.2
              have b := q2 (vOuter w).toNat (by omega)
              rw [show (((vOuter w).toNat : Nat) : Int) = vOuter w by omega, hB, o2, Bool.true_and] at b
              rw [rd_wr_same, vBit_bq (by omega), b]
              unfold shB shutS
              rw [yy w hw, hw, Bool.true_and]
              exact law_same (lr w) (u := fun a n => uM σ k w (h : Int) a n) (fun n => rfl) (us w hw)
            · rw [if_neg c, if_neg c]
              have := i6 j j0 (by omega)
              refine ⟨this.1, this.2.1, fun w hw => ?_⟩
              rw [rd_wr_n (by omega), q1.2 _ _ (by omega), f39]
              exact this.2.2 w hw
    refine g_X3_look_102 hd (S.eq i1.1) (rd σ 0 7) (rd σ 0 8) k _ _ _ (l1.eq i1.1) (I2.eq i1.1) (by omega) (fun c => by omega) (fun _ => by omega) (fun _ => ?_) (fun _ c => go _ ?_) (fun _ c v τ1 le1 q => ?_) (fun _ c => go _ ?_) (fun _ c v τ1 le1 q => ?_)
    · have := W.2.2.2 (wTel σ k (h : Int))
      rw [ew]
      split
      · decide
      · have := this (by omega) (by omega); constructor <;> omega
    · rw [wWind_eq]
      rw [ew] at c ⊢
      by_cases q : wTel σ k (h : Int) < 0
      · rw [if_pos q] at c; exact absurd rfl c
      · rw [if_neg q, if_neg q]
    · obtain ⟨v', e, r⟩ := q
      have := so_inj e
      subst this
      exact r
    · rw [wWind_eq]
      rw [ew] at c
      by_cases q : wTel σ k (h : Int) < 0
      · rw [if_pos q]
      · rw [if_neg q] at c; have := w97 (by omega); omega
    · obtain ⟨v', e, r⟩ := q
      have := so_inj e
      subst this
      exact r
theorem look_C {d : Nat} {σ : pS} (hd : 3 ≤ d) (S : Stat σ) (W : RWin σ) (L : RSlo σ) (A : RLaw σ) {k : Int} (hk : inR k) : pC mX3_look d [(2, 35), (2, rd σ 0 7), (2, rd σ 0 8), (2, 23), (0, k)] σ (fun r υ => r = none ∧ kIn σ (rd σ 0 8) k 8 υ) := by
  obtain ⟨hl, ⟨n2, I2, hn2, a1⟩, a2⟩ := id A
  have l0 := L.1
  have l1 := L.2.1
  refine g_X3_look_0 (Q1 := fun r τ => r = none ∧ τ = fl (wr (wr σ 35 4 (rd σ 0 7)) 35 6 k) 36 (8 : Nat) (-1)) (Q2 := fun r τ => r = none ∧ τ = fl (fl (wr (wr σ 35 4 (rd σ 0 7)) 35 6 k) 36 (8 : Nat) (-1)) 37 (8 : Nat) 0) hd S (rd σ 0 7) (rd σ 0 8) k l1 I2 (fill_C (Stat.wr (Stat.wr S)) (ob_36 (Stat.wr (Stat.wr S))) (by decide)) (fun τ1 e1 q1 => by rw [q1.2]; exact fill_C (Stat.fl (Stat.wr (Stat.wr S))) (ob_37 (Stat.fl (Stat.wr (Stat.wr S)))) (by decide)) (fun τ1 e1 q1 τ2 e2 q2 => ?_)
  obtain ⟨-, q1⟩ := q1
  obtain ⟨-, q2⟩ := q2
  subst q1
  subst q2
  refine look_in hd S W l1 I2 hk (s := rd σ 0 7) (l := rd σ 0 8) (fun τ i => ?_) (rd σ 68 51).toNat 0 _ (9, 0) (9, 0) (by decide) (by decide) (by have := W.2.1; omega) ?_
  · obtain ⟨i1, i2, i3, i4⟩ := i
    have := look_out hd S W L A hk 8 0 τ (by omega) ⟨⟨i1.1, fun a i p1 p2 p3 => i1.2 a i (by omega) (by omega) (by omega) (by omega) (by omega)⟩, i2, i3, fun j j0 j1 => ?_, fun j j0 j1 => ?_, fun j j0 j1 => by omega⟩
    · exact this
    · exact (i4 j (by omega) j1).1
    · exact (i4 j j0 j1).2
  · refine ⟨⟨rfl, fun a i p1 p2 p3 p4 p5 => ?_⟩, ?_, ?_, fun h h0 h1 => ⟨?_, ?_⟩⟩
    · rw [rd_fl, if_neg (by omega), rd_fl, if_neg (by omega), rd_wr_n (by omega), rd_wr_n (by omega)]
    · rw [rd_fl, if_neg (by omega), rd_fl, if_neg (by omega), rd_wr_n (by omega), rd_wr_same]
    · rw [rd_fl, if_neg (by omega), rd_fl, if_neg (by omega), rd_wr_same]
    · rw [rd_fl, if_neg (by omega), rd_fl, if_pos ⟨rfl, h0, h1⟩]; rfl
    · rw [rd_fl, if_pos ⟨rfl, h0, h1⟩]; rfl
/-- behind the class's look -/
def lookD (σ : pS) (k : Int) (τ : pS) : Prop := τ.1 = σ.1 ∧ (∀ a i : Int, ¬ (36 ≤ a ∧ a ≤ 39) → a ≠ rd σ 0 8 + 3 → ¬ (a = 35 ∧ (i = 4 ∨ i = 5 ∨ i = 6)) → rd τ a i = rd σ a i) ∧ KLook σ k τ ∧ rd τ 35 5 = rd σ 0 6 ∧ rd τ 35 6 = k
theorem kIn.look {σ τ : pS} {l k : Int} (h : kIn σ l k 8 τ) : KLook σ k τ := ⟨h.2.1, fun j j0 j1 => by
  obtain ⟨a, b, c⟩ := h.2.2.2.2.2 j j0 (by omega)
  exact ⟨a, h.2.2.2.2.1 j j0 j1, b, c⟩⟩
theorem xlook_C {d : Nat} {σ : pS} (hd : 4 ≤ d) (S : Stat σ) (W : RWin σ) (L : RSlo σ) (A : RLaw σ) (O : RLook σ) (h6 : inR (rd σ 0 6)) {k : Int} (hk : inR k) : pC mX10_look d [(2, 0), (0, k)] σ (fun r τ => r = none ∧ lookD σ k τ) := by
  obtain ⟨o1, o2, o3, o4⟩ := O
  have hl := A.1
  have fin : ∀ τ1 : pS, kIn σ (rd σ 0 8) k 8 τ1 → lookD σ k (wr τ1 35 5 (rd τ1 0 6)) := fun τ1 q => by
    have e6 : rd τ1 0 6 = rd σ 0 6 := q.1.2 _ _ (by omega) (by omega) (by omega)
    refine ⟨q.1.1, fun a i p1 p2 p3 => ?_, q.look.at (rd_wr_n (by omega)) (fun a i p1 p2 => rd_wr_n (by omega)), by rw [rd_wr_same]; exact e6, by rw [rd_wr_n (by omega)]; exact q.2.2.1⟩
    rw [rd_wr_n (by omega)]
    exact q.1.2 a i p1 p2 (by omega)
  refine g_X10_look_0 hd S k (by unfold inR at *; omega) h6 (fun _ => look_C (by omega) S W L A hk) (fun _ τ1 e1 q => ⟨rfl, fin τ1 q.2⟩) (fun _ => o3) (fun _ => hk) (fun c c2 => ⟨rfl, rfl, fun _ _ _ _ _ => rfl, ?_, c, c2⟩) (fun _ _ => look_C (by omega) S W L A hk) (fun _ _ τ1 e1 q => ⟨rfl, fin τ1 q.2⟩)
  have := o4 c
  rw [c2] at this
  exact this
theorem RB.look {n : Nat} {σ τ : pS} {k : Int} (h : RB n σ) (q : lookD σ k τ) (hk : inR k) : RB n τ := by
  obtain ⟨S, Z, T, F, C, L, W, P, K, R, D, E⟩ := h
  obtain ⟨q1, q2, q3, q4, q5⟩ := q
  obtain ⟨hl, ⟨n2, I2, hn2, a1⟩, a2⟩ := id E.1
  have l0 := L.1
  have hs := law_apart L I2
  have le : pLe σ τ := ⟨by rw [q1]; exact Nat.le_refl _, by unfold pSz; rw [q1]; exact Nat.le_refl _, fun a q h _ => by rw [ob_eq q1]; exact h, fun a i ha => q2 a i (by omega) (by omega) (by omega)⟩
  have m : same σ τ MF := fun a i p => q2 a i (by unfold MF at p; omega) (by unfold MF at p; omega) (by unfold MF at p; omega)
  have e6 : rd τ 0 6 = rd σ 0 6 := q2 _ _ (by omega) (by omega) (by omega)
  have e7 : rd τ 0 7 = rd σ 0 7 := q2 _ _ (by omega) (by omega) (by omega)
  have sk : ∀ j b i : Int, 0 ≤ j → j < rd σ 68 64 → rd σ 43 j ≤ b → b ≤ rd σ 43 j + 5 → rd τ b i = rd σ b i := fun j b i j0 j1 b0 b1 => by
    obtain ⟨y1, y2, -⟩ := K.2.2.2.1 j j0 j1
    exact q2 b i (by omega) (Inst5.ne y2 ⟨b0, b1⟩ I2.o3) (by omega)
  refine ⟨S.le le, ?_, T.mv ?_, F.mv ?_, C.mv ?_, L.mv le ?_, W.mv ?_, P.mv ?_, K.mv le ?_ (fun j h0 h1 h2 => sk j _ _ h0 h1 (by omega) (by omega)), R.mv ?_, D.mv ?_, RLaw.mv E.1 le ?_, ⟨?_, ?_, ?_, fun _ => ?_⟩, E.2.2.1.mv m e6 e7 (q2 _ _ (by omega) (by omega) (by omega)) (fun j j0 j1 => ⟨q2 _ _ (by omega) (by omega) (by omega), q2 _ _ (by omega) (by omega) (by omega)⟩) sk, RSwp.mv E.2.2.2 ?_⟩
  · unfold RSz pSz at *
    rw [q1]
    exact Z
  case refine_12 => rw [q4]; have := C.2.2.2.1; omega
  case refine_13 => rw [q4, e6]; exact Int.le_refl _
  case refine_14 => rw [q5]; exact hk
  case refine_15 => rw [q5]; exact (q3.mv m e7)
  all_goals
    intro x y p
    first
      | unfold PTap at p
      | unfold PFau at p
      | unfold PClk at p
      | unfold PSlo at p
      | unfold PWin at p
      | unfold PPas at p
      | unfold PSki at p
      | unfold PCro at p
      | unfold PDay at p
      | unfold PLaw at p
      | unfold PSwp at p
    exact q2 _ _ (by omega) (by omega) (by omega)
