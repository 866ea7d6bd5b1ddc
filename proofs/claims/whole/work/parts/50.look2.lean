/-! the class's look: what is shut; the relation is kept -/
theorem lSeg_mv {σ τ : pS} {l y : Int} {n : Nat} {O : Option (List (Int × Int))} (q : ∀ b i : Int, l + 1 ≤ b → b ≤ l + 5 → b ≠ l + 3 → rd τ b i = rd σ b i) (h : lSeg σ l y n O) : lSeg τ l y n O := by
  cases O with
  | none =>
    show rd τ (l + 1) y = -1
    rw [q _ _ (by omega) (by omega) (by omega)]
    exact h
  | some P =>
    obtain ⟨h1, h2, h3, h4⟩ := h
    have e1 := q (l + 1) y (by omega) (by omega) (by omega)
    have e2 := q (l + 2) y (by omega) (by omega) (by omega)
    refine ⟨by rw [e1]; exact h1, by rw [e1, e2]; exact h2, by rw [e2]; exact h3, fun j p hj => ?_⟩
    rw [e1, q (l + 4) _ (by omega) (by omega) (by omega), q (l + 5) _ (by omega) (by omega) (by omega)]
    exact h4 j p hj
theorem lSeg_q {σ τ : pS} {l y : Int} {n : Nat} {O : Option (List (Int × Int))} (q : qRow σ τ (l + 3)) (h : lSeg σ l y n O) : lSeg τ l y n O := lSeg_mv (fun b i _ _ h => q.2 b i h) h
theorem qRow.tr {σ τ υ : pS} {a : Int} (h : qRow σ τ a) (g : qRow τ υ a) : qRow σ υ a := ⟨g.1.trans h.1, fun b i hb => (g.2 b i hb).trans (h.2 b i hb)⟩
def hasB (τ : pS) (j : Int) : Bool := vHas (rd τ (rd τ 35 4) 0) (rd τ (rd τ 35 4) 1) j
def shB (τ : pS) (O : Int → Option (List (Int × Int))) (h j : Int) : Bool := lVal (fun op => vUnit τ op j h) (O (if j < 10 then 0 else 1))
theorem shutIn_C {d : Nat} {τ : pS} (hd : 2 ≤ d) (S : Stat τ) {l h : Int} {n2 : Nat} (hl : l = 17 ∨ 141 ≤ l) (I2 : Inst2 τ l n2) (I6 : Inst6 τ (rd τ 35 4)) (hh : 0 ≤ h ∧ h < 8) (hn : n2 < 2147483648) (hs : rd τ 35 4 + 10 < l + 3 ∨ l + 3 < rd τ 35 4) (h0 : 0 ≤ rd τ (rd τ 35 4) 0 ∧ rd τ (rd τ 35 4) 0 ≤ 6) (h1 : 0 ≤ rd τ (rd τ 35 4) 1 ∧ rd τ (rd τ 35 4) 1 ≤ 7)
    {O : Int → Option (List (Int × Int))} (hO : ∀ y : Int, 0 ≤ y → y < 2 → lSeg τ l y n2 (O y)) (hg : ∀ j : Int, hasB τ j = true → lFine (fun op => vUnit τ op j h) (O (if j < 10 then 0 else 1))) :
    pC mX3_shutIn d [(2, 35), (0, h), (2, l)] τ (fun r υ => ∃ v, r = some (0, v) ∧ qRow τ υ (l + 3) ∧ ∀ j : Nat, j < 17 → bq v j = (hasB τ (j : Int) && shB τ O h (j : Int))) := by
  have loop : ∀ (m i : Nat) (υ : pS) (x : Int), i + m = 17 → qRow τ υ (l + 3) → (∀ j : Nat, j < 32 → bq x j = (decide (j < i) && (hasB τ (j : Int) && shB τ O h (j : Int)))) → pR mX3_shutIn d 5 [(2, 35), (0, h), (2, l), (0, x), (0, (i : Int))] [] υ (fun r υ => ∃ v, r = some (0, v) ∧ qRow τ υ (l + 3) ∧ ∀ j : Nat, j < 17 → bq v j = (hasB τ (j : Int) && shB τ O h (j : Int))) := by
    intro m
    induction m with
    | zero =>
      intro i υ x hi q hx
      refine g_X3_shutIn_5 (Q1 := fun _ _ => True) hd (S.eq q.1) h l x (i : Int) (I2.eq q.1) (by omega) (fun _ => ⟨x, rfl, q, fun j hj => ?_⟩) (fun c => by omega) (fun c => by omega) (fun c => by omega) (fun c => by omega) (fun c => by omega) (fun c => by omega) (fun c => by omega)
      rw [hx j (by omega), decide_eq_true (by omega : j < i), Bool.true_and]
    | succ m ih =>
      intro i υ x hi q hx
      have e35 : rd υ 35 4 = rd τ 35 4 := q.2 _ _ (by omega)
      have e0 : rd υ (rd τ 35 4) 0 = rd τ (rd τ 35 4) 0 := q.2 _ _ (by omega)
      have e1 : rd υ (rd τ 35 4) 1 = rd τ (rd τ 35 4) 1 := q.2 _ _ (by omega)
      have I6' : Inst6 υ (rd υ 35 4) := by rw [e35]; exact I6.eq q.1
      have hB : vHas (rd υ (rd υ 35 4) 0) (rd υ (rd υ 35 4) 1) (i : Int) = hasB τ (i : Int) := by unfold hasB; rw [e35, e0, e1]
      have eu : (fun op => vUnit υ op (i : Int) h) = (fun op => vUnit τ op (i : Int) h) := funext fun op => vUnit_eq q (by omega) (by omega) (by omega) (by omega) hs op _ h
      have step : ∀ (υ' : pS) (x' : Int), qRow τ υ' (l + 3) → (∀ j : Nat, j < 32 → bq x' j = (bq x j || (decide (j = i) && (hasB τ (j : Int) && shB τ O h (j : Int))))) → pR mX3_shutIn d 5 [(2, 35), (0, h), (2, l), (0, x'), (0, (i : Int) + 1)] [] υ' (fun r υ => ∃ v, r = some (0, v) ∧ qRow τ υ (l + 3) ∧ ∀ j : Nat, j < 17 → bq v j = (hasB τ (j : Int) && shB τ O h (j : Int))) := fun υ' x' q' hx' => by
        have := ih (i + 1) υ' x' (by omega) q' (fun j hj => by
          rw [hx' j hj, hx j hj]
          by_cases c : j = i
          · subst c; simp
          · by_cases c2 : j < i
            · rw [decide_eq_true c2, decide_eq_false c, decide_eq_true (by omega : j < i + 1)]; simp
            · rw [decide_eq_false c2, decide_eq_false c, decide_eq_false (by omega : ¬ j < i + 1)]; simp)
        simpa using this
      refine g_X3_shutIn_5 hd (S.eq q.1) h l x (i : Int) (I2.eq q.1) (by omega) (fun c => by omega) (fun _ => has_C (by omega) (S.eq q.1) I6' (by omega) (by rw [e35, e0]; exact h0) (by rw [e35, e1]; exact h1)) (fun _ => I6') (fun _ c => ?_) (fun _ c => shuts_C (O := O (if (i : Int) < 10 then 0 else 1)) (by omega) (S.eq q.1) hl (I2.eq q.1) I6' (by omega) hh hn (by rw [e35]; exact hs) (lSeg_q q (hO _ (by split <;> omega) (by split <;> omega))) (by rw [eu]; exact hg _ (hB.symm.trans c))) (fun _ _ v2 b2 _ _ _ => by omega) (fun _ c v2 b2 τ2 e2 q2 c5 => ?_) (fun _ c v2 b2 τ2 e2 q2 c5 => ?_)
      · rw [hB] at c
        refine step υ x q (fun j hj => ?_)
        by_cases e : j = i
        · subst e; rw [c]; simp
        · rw [decide_eq_false e]; simp
      · rw [hB] at c
        obtain ⟨q3, q4⟩ := q2
        have q5 := so_inj q3
        rw [c5, eu] at q5
        have q6 : shB τ O h (i : Int) = false := b2i_eq0.mp q5.symm
        refine step τ2 x (q.tr q4) (fun j hj => ?_)
        by_cases e : j = i
        · subst e; rw [q6]; simp
        · rw [decide_eq_false e]; simp
      · rw [hB] at c
        obtain ⟨q3, q4⟩ := q2
        have q5 := so_inj q3
        rw [eu] at q5
        have q6 : shB τ O h (i : Int) = true := b2i_ne0.mp (by rw [q5] at c5; exact c5)
        refine step τ2 _ (q.tr q4) (fun j hj => ?_)
        rw [bq_set (by omega) hj]
        by_cases e : j = i
        · subst e; rw [q6, c]; simp
        · rw [decide_eq_false e, decide_eq_false (by omega)]; simp
  exact g_X3_shutIn_0 hd S h l I2 (loop 17 0 τ 0 rfl ⟨rfl, fun _ _ _ => rfl⟩ (fun j hj => by rw [bq_0]; simp))
/-! the class's law and the reference's mean the same -/
theorem mRun_cg {u v : Int → Int → Int} : ∀ {P : List (Int × Int)} {st : List Int}, (∀ p ∈ P, p.1 < 20 → u p.1 p.2 = v p.1 p.2) → mRun u P st = mRun v P st
  | [], _, _ => rfl
  | p :: P, st, h => by
    show mRun u P (mOp p.1 p.2 u st) = mRun v P (mOp p.1 p.2 v st)
    have e : mOp p.1 p.2 u st = mOp p.1 p.2 v st := by
      unfold mOp
      by_cases c : p.1 < 20
      · rw [if_pos c, if_pos c, h p List.mem_cons_self c]
      · rw [if_neg c, if_neg c]
    rw [e]
    exact mRun_cg (fun q hq => h q (List.mem_cons_of_mem _ hq))
theorem kOk_one {st : List Int} (h : kOk [true] st) : ∃ x : Int, st = [x] ∧ (x = 0 ∨ x = 1) := by
  match st, h with
  | [x], h => exact ⟨x, rfl, h.1 rfl⟩
theorem law_ty {y : Int} {P : List (Int × Int)} (h : lawOne y P) (u : Int → Int → Int) : ∃ x : Int, mRun u P [] = [x] ∧ (x = 0 ∨ x = 1) := by
  have f : uFits (fun a n => if a = 0 then n else u a n) (fun c => if c = 15 then u 1 0 else 0) → True := fun _ => trivial
  have key : ∀ {P : List (Int × Int)} {ks ks' : List Bool} {st : List Int}, kOk ks st → tyRun P ks = some ks' → kOk ks' (mRun u P st) := by
    intro P
    induction P with
    | nil =>
      intro ks ks' st h t
      obtain rfl : ks = ks' := by simpa [tyRun] using t
      exact h
    | cons p P ih =>
      intro ks ks' st h t
      unfold tyRun at t
      split at t
      · next k1 e => exact ih (h.ty (n := p.2) (u := u) e) t
      · cases t
  exact kOk_one (key (ks := []) (st := []) trivial h.1)
theorem lOp_n (op n : Int) (v : Int → Int) (st : List Int) : lOp op (if op = 19 then n else 0) v st = lOp op n v st := by
  by_cases c : op = 19
  · rw [if_pos c]
  · unfold lOp
    rw [if_neg c, if_neg c]
theorem lRun_n (v : Int → Int) : ∀ (Q : List (Int × Int)) (st : List Int), lRun v (Q.map lNm) st = lRun v Q st
  | [], _ => rfl
  | p :: r, st => by
    show lRun v (r.map lNm) (lOp p.1 (if p.1 = 19 then p.2 else 0) v st) = lRun v r (lOp p.1 p.2 v st)
    rw [lOp_n, lRun_n v r]
theorem lGood_n (v : Int → Int) : ∀ (Q : List (Int × Int)) (st : List Int), lGood v (Q.map lNm) st ↔ lGood v Q st
  | [], _ => Iff.rfl
  | p :: r, st => by
    show ((∀ x ∈ st, inR x) ∧ st.length ≤ 40 ∧ inR p.1 ∧ (p.1 = 14 → 1 ≤ st.length) ∧ (p.1 ≠ 14 → p.1 ≠ 19 → vWU p.1 = false → 2 ≤ st.length) ∧ lGood v (r.map lNm) (lOp p.1 (if p.1 = 19 then p.2 else 0) v st)) ↔ ((∀ x ∈ st, inR x) ∧ st.length ≤ 40 ∧ inR p.1 ∧ (p.1 = 14 → 1 ≤ st.length) ∧ (p.1 ≠ 14 → p.1 ≠ 19 → vWU p.1 = false → 2 ≤ st.length) ∧ lGood v r (lOp p.1 p.2 v st))
    rw [lOp_n, lGood_n v r]
theorem law_same {y : Int} {u : Int → Int → Int} {v : Int → Int} {O O' : Option (List (Int × Int))} (h : lawRel y O O') (hu : ∀ n, u 0 n = n) (hf : ∀ a n, 1 ≤ a → a ≤ 6 → (y = 0 → a ≠ 4 ∧ a ≠ 5) → v (lCode a) = u a n) : lVal v O' = mVal u O := by
  match O, O', h with
  | none, none, _ => rfl
  | some P, some Q, h =>
    obtain ⟨P', eQ, h1, h2, h3⟩ := h
    have f : uFits (fun a n => if 1 ≤ a ∧ a ≤ 6 then v (lCode a) else u a n) v := ⟨fun n => (if_neg (by omega)).trans (hu n), fun a n a1 a2 => by show _ = if _ then _ else _; rw [if_pos ⟨a1, a2⟩]⟩
    have e : mRun (fun a n => if 1 ≤ a ∧ a ≤ 6 then v (lCode a) else u a n) P' [] = mRun u P' [] := mRun_cg (fun p hp _ => by
      show (if _ then _ else _) = _
      split
      · next c => exact hf _ _ c.1 c.2 ((h2.2.2.2 p hp).2.2)
      · rfl)
    have r := (lRun_tr f (ks := []) (st := []) trivial h2.1).1
    obtain ⟨x, x1, x2⟩ := law_ty h1 u
    show lTrue (lRun v Q []) = mTrue (mRun u P [])
    rw [← lRun_n v Q, eQ, lRun_n]
    rw [r, e, ← h3 u, x1]
    rcases x2 with rfl | rfl <;> rfl
theorem law_fineL {y : Int} {u : Int → Int → Int} {v : Int → Int} {O O' : Option (List (Int × Int))} (h : lawRel y O O') (hu : ∀ n, u 0 n = n) (hf : ∀ a n, 1 ≤ a → a ≤ 6 → (y = 0 → a ≠ 4 ∧ a ≠ 5) → v (lCode a) = u a n) (hb : ∀ a n, 0 ≤ n → n ≤ 9999 → 0 ≤ a → a ≤ 6 → (y = 0 → a ≠ 4 ∧ a ≠ 5) → (u a n).natAbs ≤ 10000) : lFine v O' := by
  match O, O', h with
  | none, none, _ => trivial
  | some P, some Q, h =>
    obtain ⟨P', eQ, h1, h2, h3⟩ := h
    have f : uFits (fun a n => if 1 ≤ a ∧ a ≤ 6 then v (lCode a) else u a n) v := ⟨fun n => (if_neg (by omega)).trans (hu n), fun a n a1 a2 => by show _ = if _ then _ else _; rw [if_pos ⟨a1, a2⟩]⟩
    show lGood v Q []
    rw [← lGood_n v Q, eQ, lGood_n]
    refine lGood_of f (k := 0) (ks := []) (st := []) trivial h2.1 (Nat.le_refl _) (by have := h2.2.2.1; omega) (fun p hp p0 p1 => ?_) (by have := h2.2.1; simpa using this)
    obtain ⟨a1, a2, a3⟩ := h2.2.2.2 p hp
    split
    · next c => rw [hf _ p.2 c.1 c.2 a3]; exact hb _ _ a1 a2 p0 p1 a3
    · exact hb _ _ a1 a2 p0 p1 a3
theorem law_fineM {y : Int} {u : Int → Int → Int} {O O' : Option (List (Int × Int))} (h : lawRel y O O') (hb : ∀ a n, 0 ≤ n → n ≤ 9999 → 0 ≤ a → a ≤ 6 → (y = 0 → a ≠ 4 ∧ a ≠ 5) → (u a n).natAbs ≤ 10000) : mFine u O := by
  match O, O', h with
  | none, none, _ => trivial
  | some P, some Q, h =>
    obtain ⟨P', eQ, h1, h2, h3⟩ := h
    refine mGood_of (k := 0) (ks := []) (st := []) trivial h1.1 (by decide) (Nat.le_refl _) (by have := h1.2.2.1; omega) (fun p hp p0 p1 => ?_) (by have := h1.2.1; simpa using this)
    obtain ⟨a1, a2, a3⟩ := h1.2.2.2 p hp
    exact hb _ _ a1 a2 p0 p1 a3
theorem cList_seg {σ : pS} {l y : Int} {n2 : Nat} (h : rd σ (l + 1) y = -1 ∨ (0 ≤ rd σ (l + 1) y ∧ rd σ (l + 1) y ≤ rd σ (l + 2) y ∧ rd σ (l + 2) y ≤ n2)) : lSeg σ l y n2 (cList σ l y) := by
  unfold cList
  by_cases c : rd σ (l + 1) y = -1
  · rw [if_pos c]; exact c
  · rw [if_neg c]
    refine ⟨by omega, by simp; omega, by omega, fun j p hj => ?_⟩
    rw [List.getElem?_map] at hj
    by_cases hjl : j < (rd σ (l + 2) y - rd σ (l + 1) y).toNat
    · rw [List.getElem?_range hjl] at hj
      obtain rfl := Option.some.inj hj
      exact ⟨rfl, rfl⟩
    · rw [List.getElem?_eq_none (by simp; omega)] at hj
      cases hj
theorem mList_seg {σ : pS} {y : Int} (h : rd σ 94 y = 0 ∨ (rd σ 94 y = 1 ∧ 0 ≤ rd σ 91 y ∧ rd σ 91 y ≤ rd σ 92 y ∧ rd σ 92 y ≤ 600)) : mSeg σ y (mList σ y) := by
  unfold mList
  by_cases c : rd σ 94 y = 1
  · rw [if_pos c]
    refine ⟨c, by omega, by simp; omega, by omega, fun j p hj => ?_⟩
    rw [List.getElem?_map] at hj
    by_cases hjl : j < (rd σ 92 y - rd σ 91 y).toNat
    · rw [List.getElem?_range hjl] at hj
      obtain rfl := Option.some.inj hj
      exact ⟨rfl, rfl⟩
    · rw [List.getElem?_eq_none (by simp; omega)] at hj
      cases hj
  · rw [if_neg c]
    show rd σ 94 y = 0
    omega
theorem Inst5.ne {σ : pS} {a b c : Int} (h : Inst5 σ a) (hb : a ≤ b ∧ b ≤ a + 5) (hc : ob σ c = some (50, 41)) : b ≠ c := by
  intro e
  subst e
  have : b = a ∨ b = a + 1 ∨ b = a + 2 ∨ b = a + 3 ∨ b = a + 4 ∨ b = a + 5 := by omega
  rcases this with rfl | rfl | rfl | rfl | rfl | rfl
  · rw [h.o0] at hc; simp at hc
  · rw [h.o1] at hc; simp at hc
  · rw [h.o2] at hc; simp at hc
  · rw [h.o3] at hc; simp at hc
  · rw [h.o4] at hc; simp at hc
  · rw [h.o5] at hc; simp at hc
theorem Inst6.ne {σ : pS} {a b c : Int} (h : Inst6 σ a) (hb : a ≤ b ∧ b ≤ a + 10) (hc : ob σ c = some (50, 41)) : b ≠ c := by
  intro e
  subst e
  have : b = a ∨ b = a + 1 ∨ b = a + 2 ∨ b = a + 3 ∨ b = a + 4 ∨ b = a + 5 ∨ b = a + 6 ∨ b = a + 7 ∨ b = a + 8 ∨ b = a + 9 ∨ b = a + 10 := by omega
  rcases this with rfl | rfl | rfl | rfl | rfl | rfl | rfl | rfl | rfl | rfl | rfl
  · rw [h.o0] at hc; simp at hc
  · rw [h.o1] at hc; simp at hc
  · rw [h.o2] at hc; simp at hc
  · rw [h.o3] at hc; simp at hc
  · rw [h.o4] at hc; simp at hc
  · rw [h.o5] at hc; simp at hc
  · rw [h.o6] at hc; simp at hc
  · rw [h.o7] at hc; simp at hc
  · rw [h.o8] at hc; simp at hc
  · rw [h.o9] at hc; simp at hc
  · rw [h.o10] at hc; simp at hc
theorem wTel_R (σ : pS) (W : RWin σ) (k h : Int) : -1 ≤ wTel σ k h ∧ wTel σ k h < rd σ 68 51 := by
  have := wLast_lt σ k h (rd σ 68 51).toNat
  have := W.2.1
  unfold wTel
  omega
theorem wFresh_R {σ : pS} (W : RWin σ) (k h : Int) : 0 ≤ wFresh σ k h ∧ wFresh σ k h ≤ 40 := by
  have r := wTel_R σ W k h
  unfold wFresh
  split
  · omega
  · have := W.2.2.2 (wTel σ k h) (by omega) (by omega)
    omega
theorem wWind_R {σ : pS} (W : RWin σ) (k : Int) (h : Nat) : 0 ≤ wWind σ k h ∧ wWind σ k h ≤ 99 := by
  induction h with
  | zero =>
    have r := wTel_R σ W k 0
    unfold wWind
    split
    · omega
    · have := W.2.2.2 (wTel σ k 0) (by omega) (by omega)
      omega
  | succ h ih =>
    have r := wTel_R σ W k ((h + 1 : Nat) : Int)
    unfold wWind
    split
    · exact ih
    · have := W.2.2.2 (wTel σ k ((h + 1 : Nat) : Int)) (by omega) (by omega)
      omega
theorem sumF_R {f : Int → Int} (hf : ∀ i, 0 ≤ f i ∧ f i ≤ 40) (n : Nat) : 0 ≤ sumF f n ∧ sumF f n ≤ 40 * n := by
  induction n with
  | zero => exact ⟨Int.le_refl _, by simp [sumF]⟩
  | succ n ih =>
    have := hf (n : Int)
    show 0 ≤ sumF f n + f (n : Int) ∧ sumF f n + f (n : Int) ≤ _
    omega
theorem uM_R {σ : pS} (W : RWin σ) (L : RSlo σ) {k w h : Int} (hw : vWay (rd σ 68 30) (rd σ 68 31) w = true) (hh : 0 ≤ h ∧ h < 8) {a n : Int} (n0 : 0 ≤ n) (n1 : n ≤ 9999) (hy : (if w < 6 then (0 : Int) else 1) = 0 → a ≠ 4 ∧ a ≠ 5) : (uM σ k w h a n).natAbs ≤ 10000 := by
  obtain ⟨l0, l1, l2, l3, l4, l5, l6, l7, l8, l9, l10, l11, l12⟩ := id L
  have t := vWay_t hw
  have m := l9 w hw
  have f1 := wFresh_R W k h
  have f2 := wWind_R W k h.toNat
  have f3 := sumF_R (f := fun i => wFresh σ k i) (fun i => wFresh_R W k i) (h.toNat + 1)
  unfold uM
  by_cases c : w < 6
  · rw [if_pos c] at hy
    have := hy rfl
    rw [if_neg (by omega : ¬ a = 4), if_neg (by omega : ¬ a = 5)]
    repeat' split
    all_goals omega
  · have := l11 (w - 6) (by omega) (by omega)
    rw [show 6 + (w - 6) = w by omega] at this
    repeat' split
    all_goals omega
