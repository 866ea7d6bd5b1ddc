/-! mountain(): the step -/
/-- nothing that the relation speaks of has changed but the tape and the fault -/
theorem mntBad {n : Nat} {σ υ : pS} {f p : Int} (h : RB n σ) (hn : n < 512) (e : υ.1 = σ.1 ++ sloL) (l : pLe σ υ) (t0 : rd υ 0 1 = 0) (t1 : rd υ 68 1 = 0) (a3 : rd υ 0 3 = f) (b3 : rd υ 68 2 = f) (a4 : rd υ 0 4 = p) (b4 : rd υ 68 3 = p) (fr : ∀ a i : Int, a < ((σ.1.length : Nat) : Int) → ¬ (2 ≤ a ∧ a ≤ 5) → ¬ (a = 0 ∧ (i = 1 ∨ i = 3 ∨ i = 4)) → ¬ (a = 68 ∧ ((1 ≤ i ∧ i ≤ 9) ∨ (17 ≤ i ∧ i ≤ 21))) → ¬ (70 ≤ a ∧ a ≤ 76) → a ≠ 83 → rd υ a i = rd σ a i) : RB (n + 1) υ := by
  obtain ⟨S, Z, T, F, C, L, W, P, K, R, D, E⟩ := h
  have hlen := S.len
  have hS6 := ob_lt L.2.1.2.2.2.2.2.2.2.2.2.2
  have hL1 := E.1.1
  have hL5 := ob_lt E.1.2.1.choose_spec.1.o5
  have hs0 := L.1
  obtain ⟨s1, s2, s3, s4, s5⟩ := id K
  have m : same σ υ MF := fun x y q => by unfold MF at q; exact fr _ _ (by omega) (by omega) (by omega) (by omega) (by omega) (by omega)
  have fe : ∀ j : Int, 0 ≤ j → j < rd σ 68 64 → ∀ b i : Int, rd σ 43 j ≤ b → b ≤ rd σ 43 j + 5 → rd υ b i = rd σ b i := fun j j0 j1 b i b0 b1 => by
    obtain ⟨y1, y2, -⟩ := s4 j j0 j1
    have := ob_lt y2.2.2.2.2.2
    exact fr _ _ (by omega) (by omega) (by omega) (by omega) (by omega) (by omega)
  have e6 : rd υ 0 6 = rd σ 0 6 := fr _ _ (by omega) (by omega) (by omega) (by omega) (by omega) (by omega)
  have e7 : rd υ 0 7 = rd σ 0 7 := fr _ _ (by omega) (by omega) (by omega) (by omega) (by omega) (by omega)
  have e64 : rd υ 68 64 = rd σ 68 64 := fr _ _ (by omega) (by omega) (by omega) (by omega) (by omega) (by omega)
  refine ⟨S.le l, szl Z e, ⟨t0.trans t1.symm, by omega, by omega, fun i i0 i1 => ?_⟩, ⟨a3.trans b3.symm, a4.trans b4.symm⟩, (C.mv ?_).up hn, L.mv l ?_, W.mv ?_, P.mv ?_, K.mv l ?_ (fun j j0 j1 _ => fe j j0 j1 _ _ (by omega) (by omega)), R.mv ?_, D.mv ?_, RLaw.mv E.1 l ?_, RLook.mv E.2.1 m e6 e7 (fun a i q1 q2 => fr _ _ (by omega) (by omega) (by omega) (by omega) (by omega) (by omega)), RSkC.mv E.2.2.1 m e6 e7 e64 (fun j j0 j1 => ⟨fr _ _ (by omega) (by omega) (by omega) (by omega) (by omega) (by omega), fr _ _ (by omega) (by omega) (by omega) (by omega) (by omega) (by omega)⟩) (fun j b i j0 j1 b0 b1 => fe j j0 j1 b i b0 b1), RSwp.mv E.2.2.2 ?_⟩
  · rw [fr 69 i (by omega) (by omega) (by omega) (by omega) (by omega) (by omega), fr 1 i (by omega) (by omega) (by omega) (by omega) (by omega) (by omega)]
    exact T.2.2.2 i i0 i1
  all_goals
    intro x y q
    first
      | unfold PClk at q
      | unfold PSlo at q
      | unfold PWin at q
      | unfold PPas at q
      | unfold PSki at q
      | unfold PCro at q
      | unfold PDay at q
      | unfold PLaw at q
      | unfold PSwp at q
    exact fr _ _ (by omega) (by omega) (by omega) (by omega) (by omega) (by omega)
theorem i_and01 (b : Bool) : i_and (b2i b) 1 = b2i b := by cases b <;> rfl
/-- a new mountain stands in both -/
theorem mntGood {n : Nat} {σ τ φ υ : pS} {K P V : Nat → Int} {c : Nat} {t : mdS} (h : RB n σ) (hn : n < 512) (R : tkR K V c) (It : mInv K P V c t) (e : υ.1 = σ.1 ++ sloL) (l : pLe σ υ) (I6 : Inst6 υ ((σ.1.length : Nat) : Int)) (G : mntG K V t σ ((σ.1.length : Nat) : Int) τ) (t1 : rd φ 68 1 = 0) (b3 : rd φ 68 2 = 0) (b4 : rd φ 68 3 = -1) (M : mOB K V t φ) (e20 : rd φ 68 20 = mN t) (F1 : ∀ a i : Int, ¬ (a = 68 ∧ ((1 ≤ i ∧ i ≤ 9) ∨ (17 ≤ i ∧ i ≤ 21))) → ¬ (70 ≤ a ∧ a ≤ 76) → a ≠ 83 → rd φ a i = rd τ a i) (U : finM φ υ) : RB (n + 1) υ := by
  obtain ⟨S, Z, T, F, C, L, W, PS, Ki, Rc, D, E⟩ := h
  have hlen := S.len
  have hL1 := E.1.1
  have hL5 := ob_lt E.1.2.1.choose_spec.1.o5
  obtain ⟨A, hA⟩ : ∃ A : Int, A = ((σ.1.length : Nat) : Int) := ⟨_, rfl⟩
  rw [← hA] at I6 G hlen hL5
  obtain ⟨g1, g3, g4, g6, g7, g29, g48, g49, g50, g61, g62, g63, g64, gB, g2, gF⟩ := G
  obtain ⟨u0, ⟨u30, u31, u32, u33, u65, u78⟩, uR, u84, u121, u123, u133, uF⟩ := U
  obtain ⟨s1, s2, s3, s4, s5⟩ := id Ki
  have i1 := It.1
  have i2 := It.2.1
  -- what the reference leaves as the class had it
  have fφ : ∀ a i : Int, ¬ (77 ≤ a ∧ a ≤ 82) → a ≠ 84 → a ≠ 121 → a ≠ 123 → a ≠ 133 → ¬ (a = 68 ∧ ((1 ≤ i ∧ i ≤ 9) ∨ (17 ≤ i ∧ i ≤ 21) ∨ (30 ≤ i ∧ i ≤ 33) ∨ i = 65 ∨ i = 78)) → ¬ (70 ≤ a ∧ a ≤ 76) → a ≠ 83 → rd υ a i = rd τ a i := fun a i b1 b2 b3 b4 b5 b6 b7 b8 => (uF a i b1 b2 b3 b4 b5 (by omega)).trans (F1 a i (by omega) b7 b8)
  have fr : ∀ a i : Int, a < A → ¬ (2 ≤ a ∧ a ≤ 5) → ¬ (a = 0 ∧ (i = 1 ∨ i = 3 ∨ i = 4 ∨ i = 6 ∨ i = 7)) → ¬ (a = 29 ∧ i = 5) → ¬ (a = 48 ∨ a = 49) → ¬ (a = 50 ∧ i = 2) → ¬ (a = 61 ∧ i = 6) → ¬ (62 ≤ a ∧ a ≤ 64) → ¬ (77 ≤ a ∧ a ≤ 82) → a ≠ 84 → a ≠ 121 → a ≠ 123 → a ≠ 133 → ¬ (a = 68 ∧ ((1 ≤ i ∧ i ≤ 9) ∨ (17 ≤ i ∧ i ≤ 21) ∨ (30 ≤ i ∧ i ≤ 33) ∨ i = 65 ∨ i = 78)) → ¬ (70 ≤ a ∧ a ≤ 76) → a ≠ 83 → rd υ a i = rd σ a i := fun a i p1 p2 p3 p4 p5 p6 p7 p8 b1 b2 b3 b4 b5 b6 b7 b8 => (fφ a i b1 b2 b3 b4 b5 b6 b7 b8).trans (gF a i p1 p2 p3 p4 p5 p6 p7 p8)
  have big : ∀ a i : Int, A ≤ a → rd υ a i = rd τ a i := fun a i p => fφ a i (by omega) (by omega) (by omega) (by omega) (by omega) (by omega) (by omega) (by omega)
  have lo : ∀ a i : Int, a = 0 ∨ a = 29 ∨ a = 48 ∨ a = 49 ∨ a = 50 ∨ a = 61 ∨ a = 62 ∨ a = 63 ∨ a = 64 → rd υ a i = rd τ a i := fun a i p => fφ a i (by omega) (by omega) (by omega) (by omega) (by omega) (by omega) (by omega) (by omega)
  have uB : cOB K V A t υ := ⟨by rw [big _ _ (by omega)]; exact gB.1, by rw [big _ _ (by omega)]; exact gB.2.1, by rw [big _ _ (by omega)]; exact gB.2.2.1, by rw [big _ _ (by omega)]; exact gB.2.2.2.1, fun w hw m m0 m1 => by rw [big _ _ (by omega)]; exact gB.2.2.2.2 w hw m m0 m1⟩
  have k30 : rd υ 68 30 = mL t := u30.trans M.1
  have k31 : rd υ 68 31 = mR t := u31.trans M.2.1
  have sL : RSlo υ := by
    refine mkRSlo R hlen I6 It uB (by rw [big _ _ (by omega)]; exact g2) (by rw [lo _ _ (by omega)]; exact g7) k30 k31 (u32.trans M.2.2.1) (u33.trans e20) (fun w hw => ⟨fun a a0 a1 => ?_, ?_⟩) (fun r hr a a0 a1 => ?_)
    · rw [uR a _ a0 a1 (by omega) (by omega)]
      exact (M.2.2.2.2.1 w hw).2.1 (a - 6) (by omega) (by omega)
    · rw [u84 _ (by omega) (by omega), (M.2.2.2.2.1 w hw).2.2]
      exact i_and01 _
    · rw [uR a _ a0 (by omega) (by omega) (by omega)]
      exact (M.2.2.2.2.2 r hr).2 (a - 6) (by omega) (by omega)
  have hz : RSz (n + 1) υ := szl Z e
  have k6 : rd υ 0 6 = rd σ 0 6 + 1 := (lo _ _ (by omega)).trans g6
  have k64 : rd υ 68 64 = rd σ 68 64 := fr _ _ (by omega) (by omega) (by omega) (by omega) (by omega) (by omega) (by omega) (by omega) (by omega) (by omega) (by omega) (by omega) (by omega) (by omega) (by omega) (by omega)
  have fS : ∀ j : Int, 0 ≤ j → j < rd σ 68 64 → 141 ≤ rd σ 43 j → rd σ 43 j + 5 < A → ∀ i : Int, rd υ (rd σ 43 j) i = rd σ (rd σ 43 j) i := fun j j0 j1 y1 y2 i => fr _ _ (by omega) (by omega) (by omega) (by omega) (by omega) (by omega) (by omega) (by omega) (by omega) (by omega) (by omega) (by omega) (by omega) (by omega) (by omega) (by omega)
  have sB : ∀ j : Int, 0 ≤ j → j < rd σ 68 64 → 141 ≤ rd σ 43 j ∧ rd σ 43 j + 5 < A := fun j j0 j1 => by
    obtain ⟨y1, y2, -⟩ := s4 j j0 j1
    have := ob_lt y2.2.2.2.2.2
    omega
  have r43 : ∀ j : Int, rd υ 43 j = rd σ 43 j := fun j => fr _ _ (by omega) (by omega) (by omega) (by omega) (by omega) (by omega) (by omega) (by omega) (by omega) (by omega) (by omega) (by omega) (by omega) (by omega) (by omega) (by omega)
  have r35 : ∀ j : Int, rd υ 35 j = rd σ 35 j := fun j => fr _ _ (by omega) (by omega) (by omega) (by omega) (by omega) (by omega) (by omega) (by omega) (by omega) (by omega) (by omega) (by omega) (by omega) (by omega) (by omega) (by omega)
  have c6 := C.2.2.2.1
  have c7 := C.2.2.2.2.1
  have k52 : rd υ 68 52 = rd σ 68 52 := fr _ _ (by omega) (by omega) (by omega) (by omega) (by omega) (by omega) (by omega) (by omega) (by omega) (by omega) (by omega) (by omega) (by omega) (by omega) (by omega) (by omega)
  have k5 : rd υ 0 5 = rd σ 0 5 := fr _ _ (by omega) (by omega) (by omega) (by omega) (by omega) (by omega) (by omega) (by omega) (by omega) (by omega) (by omega) (by omega) (by omega) (by omega) (by omega) (by omega)
  have z1 : rd υ 68 1 = 0 := (uF _ _ (by omega) (by omega) (by omega) (by omega) (by omega) (by omega)).trans t1
  have z2 : rd υ 68 2 = 0 := (uF _ _ (by omega) (by omega) (by omega) (by omega) (by omega) (by omega)).trans b3
  have z3 : rd υ 68 3 = -1 := (uF _ _ (by omega) (by omega) (by omega) (by omega) (by omega) (by omega)).trans b4
  have o1 : rd υ 0 1 = 0 := (lo _ _ (by omega)).trans g1
  have o3 : rd υ 0 3 = 0 := (lo _ _ (by omega)).trans g3
  have o4 : rd υ 0 4 = -1 := (lo _ _ (by omega)).trans g4
  have k29 : rd υ 29 5 = 0 := (lo _ _ (by omega)).trans g29
  have k50 : rd υ 50 2 = 0 := (lo _ _ (by omega)).trans g50
  have k77 : rd υ 68 77 = rd σ 68 77 := fr _ _ (by omega) (by omega) (by omega) (by omega) (by omega) (by omega) (by omega) (by omega) (by omega) (by omega) (by omega) (by omega) (by omega) (by omega) (by omega) (by omega)
  have k44 : rd υ 44 2 = rd σ 44 2 := fr _ _ (by omega) (by omega) (by omega) (by omega) (by omega) (by omega) (by omega) (by omega) (by omega) (by omega) (by omega) (by omega) (by omega) (by omega) (by omega) (by omega)
  refine ⟨S.le l, hz, ⟨o1.trans z1.symm, by omega, by omega, fun i i0 i1 => ?_⟩, ⟨o3.trans z2.symm, o4.trans z3.symm⟩, ⟨?_, ?_, ?_, ?_, ?_, ?_⟩, sL, W.mv ?_, ⟨k29.trans u65.symm, by omega, by omega, fun j j0 j1 => by omega⟩, Ki.mv l ?_ (fun j j0 j1 y => fS j j0 j1 y (sB j j0 j1).2 0), ⟨?_, ?_, ?_, fun j j0 j1 => ?_, fun p p0 p1 => ?_, fun r r0 r1 => ?_⟩, ⟨k50.trans u78.symm, Or.inl u78, fun q => by omega⟩, RLaw.mv E.1 l ?_, ⟨?_, ?_, ?_, fun q => ?_⟩, fun j j0 j1 => ?_, ?_, fun i i0 i1 => ?_, fun r r0 r1 o ho => ?_, fun p q p0 p1 q0 q1 => ?_⟩
  · rw [fr 69 i (by omega) (by omega) (by omega) (by omega) (by omega) (by omega) (by omega) (by omega) (by omega) (by omega) (by omega) (by omega) (by omega) (by omega) (by omega) (by omega), fr 1 i (by omega) (by omega) (by omega) (by omega) (by omega) (by omega) (by omega) (by omega) (by omega) (by omega) (by omega) (by omega) (by omega) (by omega) (by omega) (by omega)]
    exact T.2.2.2 i i0 i1
  · rw [k5, k52]; exact C.1
  · rw [k52]; exact C.2.1
  · rw [k52]; exact C.2.2.1
  · omega
  · rw [k6]; omega
  · omega
  · intro x y q
    unfold PWin at q
    exact fr _ _ (by omega) (by omega) (by omega) (by omega) (by omega) (by omega) (by omega) (by omega) (by omega) (by omega) (by omega) (by omega) (by omega) (by omega) (by omega) (by omega)
  · intro x y q
    unfold PSki at q
    exact fr _ _ (by omega) (by omega) (by omega) (by omega) (by omega) (by omega) (by omega) (by omega) (by omega) (by omega) (by omega) (by omega) (by omega) (by omega) (by omega) (by omega)
  · rw [k44, k77]; exact Rc.1
  · rw [k77]; exact Rc.2.1
  · rw [k77]; exact Rc.2.2.1
  · rw [k77] at j1
    rw [fr 45 j (by omega) (by omega) (by omega) (by omega) (by omega) (by omega) (by omega) (by omega) (by omega) (by omega) (by omega) (by omega) (by omega) (by omega) (by omega) (by omega), fr 46 j (by omega) (by omega) (by omega) (by omega) (by omega) (by omega) (by omega) (by omega) (by omega) (by omega) (by omega) (by omega) (by omega) (by omega) (by omega) (by omega), fr 118 j (by omega) (by omega) (by omega) (by omega) (by omega) (by omega) (by omega) (by omega) (by omega) (by omega) (by omega) (by omega) (by omega) (by omega) (by omega) (by omega), fr 119 j (by omega) (by omega) (by omega) (by omega) (by omega) (by omega) (by omega) (by omega) (by omega) (by omega) (by omega) (by omega) (by omega) (by omega) (by omega) (by omega)]
    exact Rc.2.2.2.1 j j0 j1
  · rw [lo _ _ (by omega), g48 p p0 p1, u121 p p0 p1]
    exact ⟨rfl, by omega, by omega, fun j j0 j1 => by omega⟩
  · rw [lo _ _ (by omega), g49 r r0 r1, u123 r r0 r1]
    exact ⟨rfl, by omega, by omega⟩
  · intro x y q
    unfold PLaw at q
    exact fr _ _ (by omega) (by omega) (by omega) (by omega) (by omega) (by omega) (by omega) (by omega) (by omega) (by omega) (by omega) (by omega) (by omega) (by omega) (by omega) (by omega)
  · rw [r35]; exact E.2.1.1
  · rw [r35, k6]; have := E.2.1.2.1; omega
  · rw [r35]; exact E.2.1.2.2.1
  · rw [r35, k6] at q; have := E.2.1.2.1; omega
  · rw [k64] at j1
    obtain ⟨x1, x2, x3, x4, x5⟩ := E.2.2.1 j j0 j1
    have y := (sB j j0 j1).2
    rw [r43, fS j j0 j1 x1 y, fS j j0 j1 x1 y, k6]
    exact ⟨x1, x2, by omega, x4, fun q => by omega⟩
  · rw [lo _ _ (by omega), lo _ _ (by omega), g61, g7]
  · have Y : fwY (vWay (mL t : Int) (mR t : Int)) (inFr (rd τ (A + 2))) (inFr (rd τ (A + 3))) (inFr (rd τ (A + 4))) := gB.Y R It
    have ew : fwW (vWay (rd φ 68 17) (rd φ 68 18)) (rd φ 71) (rd φ 72) (rd φ 73) 13 = fwW (vWay (mL t : Int) (mR t : Int)) (inFr (rd τ (A + 2))) (inFr (rd τ (A + 3))) (inFr (rd τ (A + 4))) 13 := by
      rw [M.1, M.2.1]
      exact fwW_cg (fun k hk z => rowsAgree It gB M k hk z) 13 (Nat.le_refl _)
    have q63 := g63 i.toNat (by omega)
    have q133 := u133 i.toNat (by omega)
    rw [show ((i.toNat : Nat) : Int) = i by omega] at q63 q133
    rw [lo _ _ (by omega), q63, q133, ew]
    exact ⟨rfl, fwAll_R Y i i0 i1⟩
  · rw [k31] at r1 ⊢
    obtain ⟨k, rfl⟩ : ∃ k : Nat, r = (k : Int) := ⟨r.toNat, by omega⟩
    rw [lo _ _ (by omega), g64 k (by omega) o ho]
    refine decide_eq_decide.mpr ⟨fun z => ?_, fun z => ?_⟩
    · have a1 := rowsAgree It gB M (6 + o) (by omega) (by unfold vWay; exact decide_eq_true (Or.inr (by omega)))
      have a2 := rowsAgree It gB M (6 + k) (by omega) (by unfold vWay; exact decide_eq_true (Or.inr (by omega)))
      have w1 : vOuter ((6 + o : Nat) : Int) = ((10 + o : Nat) : Int) := (if_neg (by omega)).trans (by omega)
      have w2 : vOuter ((6 + k : Nat) : Int) = ((10 + k : Nat) : Int) := (if_neg (by omega)).trans (by omega)
      have b1 := a1.2.1
      have b2 := a2.1
      unfold inFr at b1 b2
      rw [w1] at b1
      rw [w2] at b2
      refine ⟨by omega, ?_⟩
      rw [show (6 : Int) + (o : Int) = ((6 + o : Nat) : Int) by omega, show (6 : Int) + (k : Int) = ((6 + k : Nat) : Int) by omega, uR 78 _ (by decide) (by decide) (by omega) (by omega), uR 77 _ (by decide) (by decide) (by omega) (by omega)]
      show rd φ 72 _ = rd φ 71 _
      rw [b1, b2]
      exact z.2
    · have a1 := rowsAgree It gB M (6 + o) (by omega) (by unfold vWay; exact decide_eq_true (Or.inr (by omega)))
      have a2 := rowsAgree It gB M (6 + k) (by omega) (by unfold vWay; exact decide_eq_true (Or.inr (by omega)))
      have w1 : vOuter ((6 + o : Nat) : Int) = ((10 + o : Nat) : Int) := (if_neg (by omega)).trans (by omega)
      have w2 : vOuter ((6 + k : Nat) : Int) = ((10 + k : Nat) : Int) := (if_neg (by omega)).trans (by omega)
      have b1 := a1.2.1
      have b2 := a2.1
      unfold inFr at b1 b2
      rw [w1] at b1
      rw [w2] at b2
      refine ⟨by omega, ?_⟩
      have z2 := z.2
      rw [show (6 : Int) + (o : Int) = ((6 + o : Nat) : Int) by omega, show (6 : Int) + (k : Int) = ((6 + k : Nat) : Int) by omega, uR 78 _ (by decide) (by decide) (by omega) (by omega), uR 77 _ (by decide) (by decide) (by omega) (by omega)] at z2
      have z2 : rd φ 72 ((6 + o : Nat) : Int) = rd φ 71 ((6 + k : Nat) : Int) := z2
      rw [b1, b2] at z2
      exact z2
  · rw [lo _ _ (by omega), g62 _ (by omega) (by omega)]
    exact ⟨by decide, Or.inl rfl⟩
