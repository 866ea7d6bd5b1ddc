/-! the law's grammar: the model -/
abbrev lq : Type := Nat × Nat × List (Int × Int) × List (Int × Int)
abbrev lR : Type := Sum (Int × Int) lq
def qJ (q : lq) : Nat := q.1
def qU (q : lq) : Nat := q.2.1
def qA (q : lq) : List (Int × Int) := q.2.2.1
def qB (q : lq) : List (Int × Int) := q.2.2.2
def qNx (q : lq) : lq := (qJ q + 1, qU q, qA q, qB q)
def qPt (q : lq) (a : Int) : lq := (qJ q, qU q, qA q ++ [(a, 0)], qB q ++ [(a, 0)])
def qNt (k : Nat) (q : lq) : lq := (qJ q, qU q, qA q ++ List.replicate k (20, 0), qB q ++ (if k % 2 = 0 then [] else [(20, 0)]))
def lbd (r : lR) (f : lq → lR) : lR := match r with
  | .inl x => .inl x
  | .inr q => f q
theorem lbd_ok {r : lR} {f : lq → lR} {q' : lq} (h : lbd r f = .inr q') : ∃ q, r = .inr q ∧ f q = .inr q' := by
  cases r with
  | inl x => cases h
  | inr q => exact ⟨q, rfl, h⟩
def flt (K P : Nat → Int) (w : Int) (j : Nat) : Int × Int := (if K j = 22 then 1 else w, P j)
def isUn (k : Int) : Bool := decide (k = 19 ∨ k = 15 ∨ k = 16 ∨ k = 17 ∨ k = 9 ∨ k = 8 ∨ k = 3)
def uCo (k : Int) : Int := if k = 19 then 0 else if k = 15 then 1 else if k = 16 then 2 else if k = 17 then 3 else if k = 9 then 4 else if k = 8 then 5 else 6
def uNum (K V : Nat → Int) (j : Nat) : Int := if K j = 19 then V j else 0
def unF (K P V : Nat → Int) (rn : Bool) (q : lq) : lR := if isUn (K (qJ q)) = false ∨ 40 ≤ qU q then .inl (flt K P 2 (qJ q)) else if rn = false ∧ (K (qJ q) = 9 ∨ K (qJ q) = 8) then .inl (flt K P 6 (qJ q)) else .inr (qJ q + 1, qU q + 1, qA q ++ [(uCo (K (qJ q)), uNum K V (qJ q))], qB q ++ [(uCo (K (qJ q)), uNum K V (qJ q))])
def pmC (k : Int) : Int := if k = 43 then 26 else 27
def cmC (k : Int) : Int := if k = 61 then 23 else if k = 60 then 24 else 25
def suL (K P V : Nat → Int) (rn : Bool) : Nat → lq → lR
  | 0, q => .inr q
  | n + 1, q => if K (qJ q) = 43 ∨ K (qJ q) = 45 then lbd (unF K P V rn (qNx q)) (fun q1 => suL K P V rn n (qPt q1 (pmC (K (qJ q))))) else .inr q
def suF (K P V : Nat → Int) (rn : Bool) (n : Nat) (q : lq) : lR := lbd (unF K P V rn q) (suL K P V rn n)
def cmF (K P V : Nat → Int) (rn : Bool) (n : Nat) (q : lq) : lR := lbd (suF K P V rn n q) (fun q1 => if K (qJ q1) = 60 ∨ K (qJ q1) = 61 ∨ K (qJ q1) = 62 then lbd (suF K P V rn n (qNx q1)) (fun q2 => .inr (qPt q2 (cmC (K (qJ q1))))) else .inl (flt K P 2 (qJ q1)))
def ntF (K P : Nat → Int) : Nat → Nat → lq → Sum (Int × Int) (Nat × lq)
  | 0, dep, q => .inr (dep, q)
  | n + 1, dep, q => if K (qJ q) = 14 then (if 6 < dep then .inl (flt K P 2 (qJ q)) else ntF K P n (dep + 1) (qNx q)) else .inr (dep, q)
def nsF (K P : Nat → Int) (rec : Nat → lq → lR) (dep : Nat) (q : lq) : lR := if 6 < dep then .inl (flt K P 2 (qJ q)) else lbd (rec (dep + 1) (qNx q)) (fun q2 => if K (qJ q2) = 41 then .inr (qNx q2) else .inl (flt K P 2 (qJ q2)))
def onF (K P V : Nat → Int) (rn : Bool) (rec : Nat → lq → lR) (n oth : Nat) (q : lq) : lR := match ntF K P 9 oth q with
  | .inl x => .inl x
  | .inr (dep, q1) => lbd (if K (qJ q1) = 40 then nsF K P rec dep q1 else cmF K P V rn n q1) (fun q3 => .inr (qNt (dep - oth) q3))
def boL (K P V : Nat → Int) (rn : Bool) (rec : Nat → lq → lR) (n oth : Nat) : Nat → lq → lR
  | 0, q => .inr q
  | m + 1, q => if K (qJ q) = 13 then lbd (onF K P V rn rec n oth (qNx q)) (fun q1 => boL K P V rn rec n oth m (qPt q1 22)) else .inr q
def boF (K P V : Nat → Int) (rn : Bool) (rec : Nat → lq → lR) (n oth : Nat) (q : lq) : lR := lbd (onF K P V rn rec n oth q) (boL K P V rn rec n oth n)
def eiL (K P V : Nat → Int) (rn : Bool) (rec : Nat → lq → lR) (n oth : Nat) : Nat → lq → lR
  | 0, q => .inr q
  | m + 1, q => if K (qJ q) = 12 then lbd (boF K P V rn rec n oth (qNx q)) (fun q1 => eiL K P V rn rec n oth m (qPt q1 21)) else .inr q
def eiF (K P V : Nat → Int) (rn : Bool) (n : Nat) : Nat → Nat → lq → lR
  | 0, _, _ => .inl (0, 0)
  | D + 1, oth, q => lbd (boF K P V rn (eiF K P V rn n D) n oth q) (eiL K P V rn (eiF K P V rn n D) n oth n)
/-! what the lists are -/
theorem tyRun_app (X Y : List (Int × Int)) (ks ks' : List Bool) (h : tyRun X ks = some ks') : tyRun (X ++ Y) ks = tyRun Y ks' := by
  induction X generalizing ks with
  | nil => cases h; rfl
  | cons p r ih =>
    show (match tyOp p.1 ks with | some ks' => tyRun (r ++ Y) ks' | none => none) = _
    have h : (match tyOp p.1 ks with | some ks' => tyRun r ks' | none => none) = some ks' := h
    cases e : tyOp p.1 ks with
    | none => rw [e] at h; cases h
    | some k2 => rw [e] at h; exact ih k2 h
theorem mRun_app (u : Int → Int → Int) (X Y : List (Int × Int)) (st : List Int) : mRun u (X ++ Y) st = mRun u Y (mRun u X st) := by
  induction X generalizing st with
  | nil => rfl
  | cons p r ih => exact ih _
theorem nU_app (X Y : List (Int × Int)) : nU (X ++ Y) = nU X + nU Y := by
  induction X with
  | nil => show nU Y = 0 + nU Y; omega
  | cons p r ih => show (if p.1 ≤ 6 then 1 else 0) + nU (r ++ Y) = (if p.1 ≤ 6 then 1 else 0) + nU r + nU Y; omega
def stepOk (rn : Bool) (p : Int × Int) : Prop := 0 ≤ p.2 ∧ p.2 ≤ 9999 ∧ (rn = false → p.1 ≠ 4 ∧ p.1 ≠ 5)
def sgO (rn ty : Bool) (X Y : List (Int × Int)) (du dj : Nat) : Prop := (∀ ks, tyRun X ks = some (ty :: ks)) ∧ (∀ ks, tyRun Y ks = some (ty :: ks)) ∧ (∀ (u : Int → Int → Int) (st : List Int), ∃ x, mRun u X st = x :: st ∧ mRun u Y st = x :: st) ∧ nU X = du ∧ nU Y = du ∧ X.length ≤ dj ∧ Y.length ≤ dj ∧ (∀ p ∈ X, stepOk rn p) ∧ ∀ p ∈ Y, stepOk rn p
theorem sg_bin {rn ta tr : Bool} {X Y X2 Y2 : List (Int × Int)} {du dj du2 dj2 : Nat} {op : Int} (h1 : sgO rn ta X Y du dj) (h2 : sgO rn ta X2 Y2 du2 dj2) (h3 : 20 < op) (h4 : ∀ ks, tyOp op (ta :: ta :: ks) = some (tr :: ks)) : sgO rn tr (X ++ X2 ++ [(op, 0)]) (Y ++ Y2 ++ [(op, 0)]) (du + du2) (dj + dj2 + 1) := by
  obtain ⟨a1, a2, a3, a4, a5, a6, a7, a8, a9⟩ := h1
  obtain ⟨b1, b2, b3, b4, b5, b6, b7, b8, b9⟩ := h2
  have ty1 : ∀ ks, tyRun [(op, (0 : Int))] (ta :: ta :: ks) = some (tr :: ks) := fun ks => by
    show (match tyOp op (ta :: ta :: ks) with | some ks' => tyRun [] ks' | none => none) = _
    rw [h4]; rfl
  have so : stepOk rn (op, (0 : Int)) := ⟨Int.le_refl _, (by decide : (0 : Int) ≤ 9999), fun _ => ⟨by show op ≠ 4; omega, by show op ≠ 5; omega⟩⟩
  have n1 : nU [(op, (0 : Int))] = 0 := by
    show (if op ≤ 6 then 1 else 0) + 0 = 0
    rw [if_neg (by omega)]
  refine ⟨fun ks => ?_, fun ks => ?_, fun u st => ?_, ?_, ?_, ?_, ?_, fun p hp => ?_, fun p hp => ?_⟩
  · rw [tyRun_app _ _ ks (ta :: ta :: ks) (by rw [tyRun_app _ _ ks _ (a1 ks)]; exact b1 _)]; exact ty1 ks
  · rw [tyRun_app _ _ ks (ta :: ta :: ks) (by rw [tyRun_app _ _ ks _ (a2 ks)]; exact b2 _)]; exact ty1 ks
  · obtain ⟨x, x1, x2⟩ := a3 u st
    obtain ⟨y, y1, y2⟩ := b3 u (x :: st)
    have m : mRun u [(op, (0 : Int))] (y :: x :: st) = mJoin op x y :: st := by
      show mOp op 0 u (y :: x :: st) = _
      unfold mOp
      rw [if_neg (by omega), if_neg (by omega)]
    exact ⟨mJoin op x y, by rw [mRun_app, mRun_app, x1, y1, m], by rw [mRun_app, mRun_app, x2, y2, m]⟩
  · rw [nU_app, nU_app, n1, a4, b4]; omega
  · rw [nU_app, nU_app, n1, a5, b5]; omega
  · simp only [List.length_append, List.length_cons, List.length_nil]; omega
  · simp only [List.length_append, List.length_cons, List.length_nil]; omega
  · rcases List.mem_append.mp hp with z | z
    · rcases List.mem_append.mp z with y | y
      · exact a8 p y
      · exact b8 p y
    · rw [List.mem_singleton.mp z]; exact so
  · rcases List.mem_append.mp hp with z | z
    · rcases List.mem_append.mp z with y | y
      · exact a9 p y
      · exact b9 p y
    · rw [List.mem_singleton.mp z]; exact so
theorem ty_nots (k : Nat) (ks : List Bool) : tyRun (List.replicate k ((20 : Int), (0 : Int))) (true :: ks) = some (true :: ks) := by
  induction k with
  | zero => rfl
  | succ k ih => exact ih
theorem m_nots (u : Int → Int → Int) (k : Nat) (x : Int) (st : List Int) : mRun u (List.replicate k ((20 : Int), (0 : Int))) (x :: st) = (if k % 2 = 0 then x else 1 - x) :: st := by
  induction k generalizing x with
  | zero => rfl
  | succ k ih =>
    show mRun u (List.replicate k ((20 : Int), (0 : Int))) ((1 - x) :: st) = _
    rw [ih]
    by_cases c : k % 2 = 0
    · rw [if_pos c, if_neg (by omega)]
    · rw [if_neg c, if_pos (by omega), show 1 - (1 - x) = x by omega]
theorem nU_nots (k : Nat) : nU (List.replicate k ((20 : Int), (0 : Int))) = 0 := by
  induction k with
  | zero => rfl
  | succ k ih => show 0 + nU (List.replicate k ((20 : Int), (0 : Int))) = 0; omega
theorem sg_not {rn : Bool} {X Y : List (Int × Int)} {du dj : Nat} (k : Nat) (h : sgO rn true X Y du dj) : sgO rn true (X ++ List.replicate k (20, 0)) (Y ++ (if k % 2 = 0 then [] else [(20, 0)])) du (dj + k) := by
  obtain ⟨a1, a2, a3, a4, a5, a6, a7, a8, a9⟩ := h
  have so : stepOk rn ((20 : Int), (0 : Int)) := ⟨Int.le_refl _, (by decide : (0 : Int) ≤ 9999), fun _ => ⟨(by decide : (20 : Int) ≠ 4), (by decide : (20 : Int) ≠ 5)⟩⟩
  refine ⟨fun ks => ?_, fun ks => ?_, fun u st => ?_, ?_, ?_, ?_, ?_, fun p hp => ?_, fun p hp => ?_⟩
  · rw [tyRun_app _ _ ks _ (a1 ks)]; exact ty_nots k ks
  · rw [tyRun_app _ _ ks _ (a2 ks)]
    split
    · rfl
    · rfl
  · obtain ⟨x, x1, x2⟩ := a3 u st
    refine ⟨if k % 2 = 0 then x else 1 - x, by rw [mRun_app, x1, m_nots], ?_⟩
    rw [mRun_app, x2]
    by_cases c : k % 2 = 0
    · rw [if_pos c, if_pos c]; rfl
    · rw [if_neg c, if_neg c]; rfl
  · rw [nU_app, nU_nots, a4]; omega
  · rw [nU_app, a5]
    split
    · rfl
    · rfl
  · simp only [List.length_append, List.length_replicate]; omega
  · split
    · simp only [List.append_nil]; omega
    · simp only [List.length_append, List.length_cons, List.length_nil]; omega
  · rcases List.mem_append.mp hp with z | z
    · exact a8 p z
    · rw [(List.mem_replicate.mp z).2]; exact so
  · rcases List.mem_append.mp hp with z | z
    · exact a9 p z
    · split at z
      · cases z
      · rw [List.mem_singleton.mp z]; exact so
theorem sgO.wk {rn ty : Bool} {X Y : List (Int × Int)} {du dj dj' : Nat} (h : sgO rn ty X Y du dj) (e : dj ≤ dj') : sgO rn ty X Y du dj' :=
  ⟨h.1, h.2.1, h.2.2.1, h.2.2.2.1, h.2.2.2.2.1, Nat.le_trans h.2.2.2.2.2.1 e, Nat.le_trans h.2.2.2.2.2.2.1 e, h.2.2.2.2.2.2.2⟩
def ext (c : Nat) (rn ty : Bool) (q q' : lq) : Prop := ∃ X Y, qA q' = qA q ++ X ∧ qB q' = qB q ++ Y ∧ qU q ≤ qU q' ∧ qU q' ≤ 40 ∧ qJ q ≤ qJ q' ∧ qJ q' ≤ c ∧ sgO rn ty X Y (qU q' - qU q) (qJ q' - qJ q)
theorem ext_pre {c : Nat} {rn ty : Bool} {q q' : lq} (h : ext c rn ty (qNx q) q') : ext c rn ty q q' := by
  obtain ⟨X, Y, h1, h2, h3, h4, h5, h6, h7⟩ := h
  have h5 : qJ q + 1 ≤ qJ q' := h5
  refine ⟨X, Y, h1, h2, h3, h4, by omega, h6, h7.wk ?_⟩
  show qJ q' - (qJ q + 1) ≤ qJ q' - qJ q
  omega
theorem ext_post {c : Nat} {rn ty : Bool} {q q' : lq} (h : ext c rn ty q q') (hc : qJ q' < c) : ext c rn ty q (qNx q') := by
  obtain ⟨X, Y, h1, h2, h3, h4, h5, h6, h7⟩ := h
  exact ⟨X, Y, h1, h2, h3, h4, show qJ q ≤ qJ q' + 1 by omega, show qJ q' + 1 ≤ c by omega, h7.wk (show qJ q' - qJ q ≤ qJ q' + 1 - qJ q by omega)⟩
theorem ext_bin {c : Nat} {rn ta tr : Bool} {q q1 q2 : lq} {op : Int} (h1 : ext c rn ta q q1) (h2 : ext c rn ta (qNx q1) q2) (h3 : 20 < op) (h4 : ∀ ks, tyOp op (ta :: ta :: ks) = some (tr :: ks)) : ext c rn tr q (qPt q2 op) := by
  obtain ⟨X, Y, a1, a2, a3, a4, a5, a6, a7⟩ := h1
  obtain ⟨X2, Y2, b1, b2, b3, b4, b5, b6, b7⟩ := h2
  have b3 : qU q1 ≤ qU q2 := b3
  have b5 : qJ q1 + 1 ≤ qJ q2 := b5
  have g := sg_bin a7 b7 h3 h4
  have e1 : qU q1 - qU q + (qU q2 - qU (qNx q1)) = qU q2 - qU q := by
    show qU q1 - qU q + (qU q2 - qU q1) = _
    omega
  have e2 : qJ q1 - qJ q + (qJ q2 - qJ (qNx q1)) + 1 ≤ qJ q2 - qJ q := by
    show qJ q1 - qJ q + (qJ q2 - (qJ q1 + 1)) + 1 ≤ _
    omega
  rw [e1] at g
  refine ⟨X ++ X2 ++ [(op, 0)], Y ++ Y2 ++ [(op, 0)], ?_, ?_, show qU q ≤ qU q2 by omega, b4, show qJ q ≤ qJ q2 by omega, b6, g.wk e2⟩
  · show qA q2 ++ [(op, 0)] = _
    rw [b1, show qA (qNx q1) = qA q1 from rfl, a1]
    simp only [List.append_assoc]
  · show qB q2 ++ [(op, 0)] = _
    rw [b2, show qB (qNx q1) = qB q1 from rfl, a2]
    simp only [List.append_assoc]
theorem ext_not {c : Nat} {rn : Bool} {q q1 q3 : lq} {k : Nat} (h : ext c rn true q1 q3) (hj : qJ q + k ≤ qJ q1) (hA : qA q1 = qA q) (hB : qB q1 = qB q) (hU : qU q1 = qU q) : ext c rn true q (qNt k q3) := by
  obtain ⟨X, Y, a1, a2, a3, a4, a5, a6, a7⟩ := h
  rw [hA] at a1
  rw [hB] at a2
  rw [hU] at a3 a7
  refine ⟨X ++ List.replicate k (20, 0), Y ++ (if k % 2 = 0 then [] else [(20, 0)]), ?_, ?_, a3, a4, show qJ q ≤ qJ q3 by omega, a6, (sg_not k a7).wk (show qJ q3 - qJ q1 + k ≤ qJ q3 - qJ q by omega)⟩
  · show qA q3 ++ _ = _
    rw [a1, List.append_assoc]
  · show qB q3 ++ _ = _
    rw [a2, List.append_assoc]
