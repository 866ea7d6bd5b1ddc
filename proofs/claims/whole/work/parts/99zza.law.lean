/-! law(): the step -/
theorem lwz {n m : Nat} {σ υ : pS} (h : RSz n σ) (e : υ.1 = σ.1 ++ lawL m) (hm : m ≤ 501) : RSz (n + 1) υ := by
  have e2 := pSz_app e
  have e3 : (List.map (fun q : Nat × Nat => if q.1 < 50 then (pFt q.1).length else q.2) (lawL m)).sum = (pFt 2).length + (2 + (2 + (41 + (m + (m + 0))))) := rfl
  have e6 : (pFt 2).length ≤ 100 := by decide
  rw [e3] at e2
  have e4 := congrArg List.length e
  have e5 : (lawL m).length = 6 := rfl
  rw [List.length_append, e5] at e4
  unfold RSz at *
  omega
theorem lawBad {n m : Nat} {σ υ : pS} {f p : Int} (h : RB n σ) (hn : n < 512) (hm : m ≤ 501) (e : υ.1 = σ.1 ++ lawL m) (l : pLe σ υ) (t0 : rd υ 0 1 = 0) (t1 : rd υ 68 1 = 0) (a3 : rd υ 0 3 = f) (b3 : rd υ 68 2 = f) (a4 : rd υ 0 4 = p) (b4 : rd υ 68 3 = p) (fr : ∀ a i : Int, a < ((σ.1.length : Nat) : Int) → ¬ (2 ≤ a ∧ a ≤ 5) → ¬ (a = 0 ∧ (i = 1 ∨ i = 3 ∨ i = 4)) → ¬ (a = 68 ∧ ((1 ≤ i ∧ i ≤ 9) ∨ i = 20 ∨ i = 44 ∨ i = 45 ∨ (48 ≤ i ∧ i ≤ 50))) → ¬ (85 ≤ a ∧ a ≤ 88) → a ≠ 93 → a ≠ 95 → rd υ a i = rd σ a i) : RB (n + 1) υ := by
  obtain ⟨S, Z, T, F, C, L, W, P, K, R, D, E⟩ := h
  have hlen := S.len
  have hS6 := ob_lt L.2.1.2.2.2.2.2.2.2.2.2.2
  have hL1 := E.1.1
  have hL5 := ob_lt E.1.2.1.choose_spec.1.o5
  have hs0 := L.1
  obtain ⟨s1, s2, s3, s4, s5⟩ := id K
  have m' : same σ υ MF := fun x y q => by unfold MF at q; exact fr _ _ (by omega) (by omega) (by omega) (by omega) (by omega) (by omega) (by omega)
  have fe : ∀ j : Int, 0 ≤ j → j < rd σ 68 64 → ∀ b i : Int, rd σ 43 j ≤ b → b ≤ rd σ 43 j + 5 → rd υ b i = rd σ b i := fun j j0 j1 b i b0 b1 => by
    obtain ⟨y1, y2, -⟩ := s4 j j0 j1
    have := ob_lt y2.2.2.2.2.2
    exact fr _ _ (by omega) (by omega) (by omega) (by omega) (by omega) (by omega) (by omega)
  have e6 : rd υ 0 6 = rd σ 0 6 := fr _ _ (by omega) (by omega) (by omega) (by omega) (by omega) (by omega) (by omega)
  have e7 : rd υ 0 7 = rd σ 0 7 := fr _ _ (by omega) (by omega) (by omega) (by omega) (by omega) (by omega) (by omega)
  have e64 : rd υ 68 64 = rd σ 68 64 := fr _ _ (by omega) (by omega) (by omega) (by omega) (by omega) (by omega) (by omega)
  refine ⟨S.le l, lwz Z e hm, ⟨t0.trans t1.symm, by omega, by omega, fun i i0 i1 => ?_⟩, ⟨a3.trans b3.symm, a4.trans b4.symm⟩, (C.mv ?_).up hn, L.mv l ?_, W.mv ?_, P.mv ?_, K.mv l ?_ (fun j j0 j1 _ => fe j j0 j1 _ _ (by omega) (by omega)), R.mv ?_, D.mv ?_, RLaw.mv E.1 l ?_, RLook.mv E.2.1 m' e6 e7 (fun a i q1 q2 => fr _ _ (by omega) (by omega) (by omega) (by omega) (by omega) (by omega) (by omega)), RSkC.mv E.2.2.1 m' e6 e7 e64 (fun j j0 j1 => ⟨fr _ _ (by omega) (by omega) (by omega) (by omega) (by omega) (by omega) (by omega), fr _ _ (by omega) (by omega) (by omega) (by omega) (by omega) (by omega) (by omega)⟩) (fun j b i j0 j1 b0 b1 => fe j j0 j1 b i b0 b1), RSwp.mv E.2.2.2 ?_⟩
  · rw [fr 69 i (by omega) (by omega) (by omega) (by omega) (by omega) (by omega) (by omega), fr 1 i (by omega) (by omega) (by omega) (by omega) (by omega) (by omega) (by omega)]
    exact T.2.2.2 i i0 i1
  all_goals
    intro x y q
    first
      | unfold PClk at q
      | unfold PSlo at q
      | unfold PWin at q
      | unfold PPas at q
      | unfold PSki at q
      | unfold PCro at q
      | unfold PDay at q
      | unfold PLaw at q
      | unfold PSwp at q
    exact fr _ _ (by omega) (by omega) (by omega) (by omega) (by omega) (by omega) (by omega)
theorem lcode19 (a : Int) (h : lCode a = 19) : a = 0 := by
  unfold lCode at h
  by_cases z : a = 0
  · exact z
  · rw [if_neg z] at h
    repeat (split at h; · omega)
    omega
theorem seg_map {A pA X sA : List (Int × Int)} {F G : Int → Int} (e : A = pA ++ X ++ sA) (h : ∀ (i : Nat) (p : Int × Int), A[i]? = some p → F (i : Int) = p.1 ∧ G (i : Int) = p.2) : (List.range X.length).map (fun (j : Nat) => (F ((pA.length : Int) + (j : Int)), G ((pA.length : Int) + (j : Int)))) = X := by
  refine List.ext_getElem (by simp) (fun i h1 h2 => ?_)
  have g := h (pA.length + i) X[i] (by rw [e, List.append_assoc, List.getElem?_append_right (by omega), Nat.add_sub_cancel_left, List.getElem?_append_left h2, List.getElem?_eq_getElem h2])
  rw [List.getElem_map, List.getElem_range]
  rw [show ((pA.length + i : Nat) : Int) = (pA.length : Int) + (i : Int) by omega] at g
  rw [g.1, g.2]
theorem seg_lNm {A pA X sA : List (Int × Int)} {F G : Int → Int} (e : A = pA ++ X ++ sA) (h : ∀ (i : Nat) (p : Int × Int), A[i]? = some p → F (i : Int) = lCode p.1 ∧ (p.1 = 0 → G (i : Int) = p.2)) : ((List.range X.length).map (fun (j : Nat) => (F ((pA.length : Int) + (j : Int)), G ((pA.length : Int) + (j : Int))))).map lNm = (lTr X).map lNm := by
  show _ = (X.map (fun p : Int × Int => (lCode p.1, p.2))).map lNm
  refine List.ext_getElem (by simp) (fun i h1 h2 => ?_)
  have hX : i < X.length := by simpa using h1
  have g := h (pA.length + i) X[i] (by rw [e, List.append_assoc, List.getElem?_append_right (by omega), Nat.add_sub_cancel_left, List.getElem?_append_left hX, List.getElem?_eq_getElem hX])
  rw [List.getElem_map, List.getElem_map, List.getElem_range, List.getElem_map, List.getElem_map]
  rw [show ((pA.length + i : Nat) : Int) = (pA.length : Int) + (i : Int) by omega] at g
  unfold lNm
  show (F _, if F _ = 19 then G _ else 0) = (lCode X[i].1, if lCode X[i].1 = 19 then X[i].2 else 0)
  rw [g.1]
  by_cases z : lCode X[i].1 = 19
  · rw [if_pos z, if_pos z, g.2 (lcode19 _ z)]
  · rw [if_neg z, if_neg z]
theorem lawOne_of {y : Bool} {X : List (Int × Int)} {du dj : Nat} (t : ∀ ks, tyRun X ks = some (true :: ks)) (u : nU X = du) (d : du ≤ 40) (l : X.length ≤ dj) (j : dj ≤ 600) (s : ∀ p ∈ X, stepOk y p) : lawOne (b2i y) X :=
  ⟨t [], by omega, by omega, fun p hp => ⟨(s p hp).1, (s p hp).2.1, fun z => (s p hp).2.2 (b2i_0 z)⟩⟩
