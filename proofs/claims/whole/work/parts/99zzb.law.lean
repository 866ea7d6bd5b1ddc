/-! law(): a new law stands in both -/
theorem lawGood {n c : Nat} {σ τ φ υ : pS} {t : lst} (h : RB n σ) (hn : n < 512) (hc : c ≤ 500) (It : lsI c t) (e : υ.1 = σ.1 ++ lawL (c + 1)) (l : pLe σ υ) (I2 : Inst2 υ ((σ.1.length : Nat) : Int) (c + 1)) (G : lawG t σ ((σ.1.length : Nat) : Int) τ) (t1 : rd φ 68 1 = 0) (b3 : rd φ 68 2 = 0) (b4 : rd φ 68 3 = -1) (M44 : ∀ (i : Nat) (p : Int × Int), (qA t.1)[i]? = some p → rd φ 85 (i : Int) = p.1 ∧ rd φ 86 (i : Int) = p.2) (Mh : ∀ y : Bool, (t.2.1 y = none → rd φ 93 (b2i y) = 0) ∧ ∀ v, t.2.1 y = some v → rd φ 93 (b2i y) = 1 ∧ rd φ 87 (b2i y) = (v.1.1 : Int) ∧ rd φ 88 (b2i y) = (v.1.2 : Int)) (F1 : ∀ a i : Int, ¬ (a = 68 ∧ ((1 ≤ i ∧ i ≤ 9) ∨ i = 20 ∨ i = 44 ∨ i = 45 ∨ (48 ≤ i ∧ i ≤ 50))) → ¬ (85 ≤ a ∧ a ≤ 88) → a ≠ 93 → a ≠ 95 → rd φ a i = rd τ a i) (U : finL (qA t.1).length φ υ) : RB (n + 1) υ := by
  obtain ⟨S, Z, T, F, C, L, W, PS, Ki, Rc, D, E⟩ := h
  have hlen := S.len
  have hL1 := E.1.1
  have hL5 := ob_lt E.1.2.1.choose_spec.1.o5
  have hS6 := ob_lt L.2.1.2.2.2.2.2.2.2.2.2.2
  have hs0 := L.1
  obtain ⟨A, hA⟩ : ∃ A : Int, A = ((σ.1.length : Nat) : Int) := ⟨_, rfl⟩
  rw [← hA] at I2 G hlen hL5 hS6
  obtain ⟨g1, g3, g4, g6, g8, g50, gB, gf, gF⟩ := G
  obtain ⟨u0, u89, u94, ⟨u46, u78⟩, uF⟩ := U
  obtain ⟨s1, s2, s3, s4, s5⟩ := id Ki
  have fφ : ∀ a i : Int, ¬ (a = 68 ∧ ((1 ≤ i ∧ i ≤ 9) ∨ i = 20 ∨ i = 44 ∨ i = 45 ∨ i = 46 ∨ i = 78 ∨ (48 ≤ i ∧ i ≤ 50))) → ¬ (85 ≤ a ∧ a ≤ 95) → rd υ a i = rd τ a i := fun a i b1 b2 => (uF a i (by omega) (by omega) (by omega)).trans (F1 a i (by omega) (by omega) (by omega) (by omega))
  have fr : ∀ a i : Int, a < A → ¬ (2 ≤ a ∧ a ≤ 5) → ¬ (a = 0 ∧ (i = 1 ∨ i = 3 ∨ i = 4 ∨ i = 6 ∨ i = 8)) → ¬ (a = 50 ∧ i = 2) → ¬ (a = 68 ∧ ((1 ≤ i ∧ i ≤ 9) ∨ i = 20 ∨ i = 44 ∨ i = 45 ∨ i = 46 ∨ i = 78 ∨ (48 ≤ i ∧ i ≤ 50))) → ¬ (85 ≤ a ∧ a ≤ 95) → rd υ a i = rd σ a i := fun a i p1 p2 p3 p4 b1 b2 => (fφ a i b1 b2).trans (gF a i p1 p2 p3 p4)
  have big : ∀ a i : Int, A ≤ a → rd υ a i = rd τ a i := fun a i p => fφ a i (by omega) (by omega)
  have lo : ∀ a i : Int, a = 0 ∨ a = 50 → rd υ a i = rd τ a i := fun a i p => fφ a i (by omega) (by omega)
  have hz : RSz (n + 1) υ := lwz Z e (by omega)
  have k6 : rd υ 0 6 = rd σ 0 6 + 1 := (lo _ _ (by omega)).trans g6
  have k8 : rd υ 0 8 = A := (lo _ _ (by omega)).trans g8
  have k64 : rd υ 68 64 = rd σ 68 64 := fr _ _ (by omega) (by omega) (by omega) (by omega) (by omega) (by omega)
  have sB : ∀ j : Int, 0 ≤ j → j < rd σ 68 64 → 141 ≤ rd σ 43 j ∧ rd σ 43 j + 5 < A := fun j j0 j1 => by
    obtain ⟨y1, y2, -⟩ := s4 j j0 j1
    have := ob_lt y2.2.2.2.2.2
    omega
  have fS : ∀ j : Int, 0 ≤ j → j < rd σ 68 64 → ∀ i : Int, rd υ (rd σ 43 j) i = rd σ (rd σ 43 j) i := fun j j0 j1 i => by
    have := sB j j0 j1
    exact fr _ _ (by omega) (by omega) (by omega) (by omega) (by omega) (by omega)
  have r43 : ∀ j : Int, rd υ 43 j = rd σ 43 j := fun j => fr _ _ (by omega) (by omega) (by omega) (by omega) (by omega) (by omega)
  have r35 : ∀ j : Int, rd υ 35 j = rd σ 35 j := fun j => fr _ _ (by omega) (by omega) (by omega) (by omega) (by omega) (by omega)
  have c6 := C.2.2.2.1
  have c7 := C.2.2.2.2.1
  have k52 : rd υ 68 52 = rd σ 68 52 := fr _ _ (by omega) (by omega) (by omega) (by omega) (by omega) (by omega)
  have k5 : rd υ 0 5 = rd σ 0 5 := fr _ _ (by omega) (by omega) (by omega) (by omega) (by omega) (by omega)
  have z1 : rd υ 68 1 = 0 := (uF _ _ (by omega) (by omega) (by omega)).trans t1
  have z2 : rd υ 68 2 = 0 := (uF _ _ (by omega) (by omega) (by omega)).trans b3
  have z3 : rd υ 68 3 = -1 := (uF _ _ (by omega) (by omega) (by omega)).trans b4
  have o1 : rd υ 0 1 = 0 := (lo _ _ (by omega)).trans g1
  have o3 : rd υ 0 3 = 0 := (lo _ _ (by omega)).trans g3
  have o4 : rd υ 0 4 = -1 := (lo _ _ (by omega)).trans g4
  have k50 : rd υ 50 2 = 0 := (lo _ _ (by omega)).trans g50
  have lenB : (qB t.1).length ≤ c := Nat.le_trans It.1.1 It.2.2.1
  have lenA : (qA t.1).length ≤ c := Nat.le_trans It.2.1 It.2.2.1
  have b01 : ∀ y : Bool, 0 ≤ b2i y ∧ b2i y < 2 := fun y => by cases y <;> decide
  have law : RLaw υ := by
    unfold RLaw
    rw [k8]
    refine ⟨Or.inr (by omega), ⟨c + 1, I2, by omega, fun y y0 y1 => ?_⟩, fun y y0 y1 => ?_⟩
    · obtain ⟨Y, rfl⟩ : ∃ Y : Bool, y = b2i Y := by
        by_cases w : y = 0
        · exact ⟨false, w⟩
        · exact ⟨true, by show y = 1; omega⟩
      rw [big _ _ (by omega), big _ _ (by omega)]
      cases ev : t.2.1 Y with
      | none => exact Or.inl ((gf Y).1 ev)
      | some v =>
        obtain ⟨q1, q2⟩ := (gf Y).2 v ev
        have le := (It.2.2.2.2 Y v ev).le
        exact Or.inr (by omega)
    · obtain ⟨Y, rfl⟩ : ∃ Y : Bool, y = b2i Y := by
        by_cases w : y = 0
        · exact ⟨false, w⟩
        · exact ⟨true, by show y = 1; omega⟩
      obtain ⟨v1, v2, v3⟩ := u94 (b2i Y) (b01 Y).1 (b01 Y).2
      cases ev : t.2.1 Y with
      | none =>
        have e94 : rd υ 94 (b2i Y) = 0 := v1.trans ((Mh Y).1 ev)
        have eA : rd υ (A + 1) (b2i Y) = -1 := (big _ _ (by omega)).trans ((gf Y).1 ev)
        refine ⟨Or.inl e94, ?_⟩
        unfold mList cList
        rw [if_neg (by omega), if_pos eA]
        trivial
      | some v =>
        obtain ⟨m1, m2, m3⟩ := (Mh Y).2 v ev
        obtain ⟨q1, q2⟩ := (gf Y).2 v ev
        have sg := It.2.2.2.2 Y v ev
        have le := sg.le
        have e94 : rd υ 94 (b2i Y) = 1 := v1.trans m1
        have e91 : rd υ 91 (b2i Y) = (v.1.1 : Int) := v2.trans m2
        have e92 : rd υ 92 (b2i Y) = (v.1.2 : Int) := v3.trans m3
        have eA1 : rd υ (A + 1) (b2i Y) = (v.2.1 : Int) := (big _ _ (by omega)).trans q1
        have eA2 : rd υ (A + 2) (b2i Y) = (v.2.2 : Int) := (big _ _ (by omega)).trans q2
        refine ⟨Or.inr ⟨e94, by omega, by omega, by omega⟩, ?_⟩
        obtain ⟨X, Y', pA, sA, pB, sB', du, dj, h1, h2, h3, h4, ⟨x1, x2, x3, x4, x5, x6, x7, x8, x9⟩, h6, h7⟩ := sg
        have eM : mList υ (b2i Y) = some X := by
          unfold mList
          rw [if_pos e94, e91, e92, h2, show (((pA.length + X.length : Nat) : Int) - (pA.length : Int)).toNat = X.length by omega]
          refine congrArg some (seg_map (F := fun i => rd υ 89 i) (G := fun i => rd υ 90 i) h1 (fun i p ep => ?_))
          have hi : i < (qA t.1).length := by
            by_cases w : i < (qA t.1).length
            · exact w
            · rw [List.getElem?_eq_none (by omega)] at ep; cases ep
          have a := u89 i hi
          have b := M44 i p ep
          exact ⟨a.1.trans b.1, a.2.trans b.2⟩
        have eC : cList υ A (b2i Y) = some ((List.range Y'.length).map (fun (j : Nat) => (rd υ (A + 4) ((pB.length : Int) + (j : Int)), rd υ (A + 5) ((pB.length : Int) + (j : Int))))) := by
          unfold cList
          rw [if_neg (by omega), eA1, eA2, h4, show (((pB.length + Y'.length : Nat) : Int) - (pB.length : Int)).toNat = Y'.length by omega]
        rw [eM, eC]
        refine ⟨Y', seg_lNm (F := fun i => rd υ (A + 4) i) (G := fun i => rd υ (A + 5) i) h3 (fun i p ep => ?_), lawOne_of x1 x4 h6 x6 h7 x8, lawOne_of x2 x5 h6 x7 h7 x9, fun u => ?_⟩
        · show rd υ (A + 4) (i : Int) = _ ∧ (_ → rd υ (A + 5) (i : Int) = _)
          rw [big _ _ (by omega), big _ _ (by omega)]
          exact gB i p ep
        · obtain ⟨x, w1, w2⟩ := x3 u []
          exact w1.trans w2.symm
  refine ⟨S.le l, hz, ⟨o1.trans z1.symm, by omega, by omega, fun i i0 i1 => ?_⟩, ⟨o3.trans z2.symm, o4.trans z3.symm⟩, ⟨?_, ?_, ?_, ?_, ?_, ?_⟩, L.mv l ?_, W.mv ?_, PS.mv ?_, Ki.mv l ?_ (fun j j0 j1 y => fS j j0 j1 0), Rc.mv ?_, ⟨k50.trans u78.symm, Or.inl u78, fun q => by omega⟩, law, ⟨?_, ?_, ?_, fun q => ?_⟩, fun j j0 j1 => ?_, RSwp.mv E.2.2.2 ?_⟩
  · rw [fr 69 i (by omega) (by omega) (by omega) (by omega) (by omega) (by omega), fr 1 i (by omega) (by omega) (by omega) (by omega) (by omega) (by omega)]
    exact T.2.2.2 i i0 i1
  · rw [k5, k52]; exact C.1
  · rw [k52]; exact C.2.1
  · rw [k52]; exact C.2.2.1
  · omega
  · rw [k6]; omega
  · omega
  · intro x y q
    unfold PSlo at q
    exact fr _ _ (by omega) (by omega) (by omega) (by omega) (by omega) (by omega)
  · intro x y q
    unfold PWin at q
    exact fr _ _ (by omega) (by omega) (by omega) (by omega) (by omega) (by omega)
  · intro x y q
    unfold PPas at q
    exact fr _ _ (by omega) (by omega) (by omega) (by omega) (by omega) (by omega)
  · intro x y q
    unfold PSki at q
    exact fr _ _ (by omega) (by omega) (by omega) (by omega) (by omega) (by omega)
  · intro x y q
    unfold PCro at q
    exact fr _ _ (by omega) (by omega) (by omega) (by omega) (by omega) (by omega)
  · rw [r35]; exact E.2.1.1
  · rw [r35, k6]; have := E.2.1.2.1; omega
  · rw [r35]; exact E.2.1.2.2.1
  · rw [r35, k6] at q; have := E.2.1.2.1; omega
  · rw [k64] at j1
    obtain ⟨x1, x2, x3, x4, x5⟩ := E.2.2.1 j j0 j1
    rw [r43, fS j j0 j1, fS j j0 j1, k6]
    exact ⟨x1, x2, by omega, x4, fun q => by omega⟩
  · intro x y q
    unfold PSwp at q
    exact fr _ _ (by omega) (by omega) (by omega) (by omega) (by omega) (by omega)
