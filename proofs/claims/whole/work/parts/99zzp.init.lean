/-! the relation holds when both objects are new -/
set_option maxRecDepth 100000 in
theorem Beg_RB {L : Nat} {xs : Nat → Int32} {ω : pS} (h : Beg L xs ω) : RB 0 ω := by
  obtain ⟨hc, hf, h61, h62, h63, h133, h683⟩ := h
  have S : Stat ω := Stat_of hc
  have g : ∀ a i v : Int, aBeg a i → m10 (m00 L xs) a i = v → rd ω a i = v := fun a i v q e => (hf a i q).trans e
  have r01 : rd ω 0 1 = 0 := g _ _ _ (by unfold aBeg; omega) rfl
  have r03 : rd ω 0 3 = 0 := g _ _ _ (by unfold aBeg; omega) rfl
  have r04 : rd ω 0 4 = -1 := g _ _ _ (by unfold aBeg; omega) rfl
  have r05 : rd ω 0 5 = 0 := g _ _ _ (by unfold aBeg; omega) rfl
  have r06 : rd ω 0 6 = 0 := g _ _ _ (by unfold aBeg; omega) rfl
  have r07 : rd ω 0 7 = 6 := g _ _ _ (by unfold aBeg; omega) rfl
  have r08 : rd ω 0 8 = 17 := g _ _ _ (by unfold aBeg; omega) rfl
  have r014 : rd ω 0 14 = 0 := g _ _ _ (by unfold aBeg; omega) rfl
  have m1 : rd ω 68 1 = 0 := g _ _ _ (by unfold aBeg; omega) rfl
  have m2 : rd ω 68 2 = 0 := g _ _ _ (by unfold aBeg; omega) rfl
  have m30 : rd ω 68 30 = 0 := g _ _ _ (by unfold aBeg; omega) rfl
  have m31 : rd ω 68 31 = 0 := g _ _ _ (by unfold aBeg; omega) rfl
  have m32 : rd ω 68 32 = 0 := g _ _ _ (by unfold aBeg; omega) rfl
  have m33 : rd ω 68 33 = 0 := g _ _ _ (by unfold aBeg; omega) rfl
  have m51 : rd ω 68 51 = 0 := g _ _ _ (by unfold aBeg; omega) rfl
  have m52 : rd ω 68 52 = 0 := g _ _ _ (by unfold aBeg; omega) rfl
  have m64 : rd ω 68 64 = 0 := g _ _ _ (by unfold aBeg; omega) rfl
  have m65 : rd ω 68 65 = 0 := g _ _ _ (by unfold aBeg; omega) rfl
  have m77 : rd ω 68 77 = 0 := g _ _ _ (by unfold aBeg; omega) rfl
  have m78 : rd ω 68 78 = 0 := g _ _ _ (by unfold aBeg; omega) rfl
  have a1 : ∀ i, rd ω 1 i = 0 := fun i => g _ _ _ (by unfold aBeg; omega) rfl
  have a69 : ∀ i, rd ω 69 i = 0 := fun i => g _ _ _ (by unfold aBeg; omega) rfl
  have r60 : rd ω 6 0 = 0 := g _ _ _ (by unfold aBeg; omega) rfl
  have r61 : rd ω 6 1 = 0 := g _ _ _ (by unfold aBeg; omega) rfl
  have r62 : rd ω 6 2 = 0 := g _ _ _ (by unfold aBeg; omega) rfl
  have r63 : rd ω 6 3 = 0 := g _ _ _ (by unfold aBeg; omega) rfl
  have w2 : ∀ i, rd ω (6 + 2) i = 0 := fun i => g _ _ _ (by unfold aBeg; omega) rfl
  have w3 : ∀ i, rd ω (6 + 3) i = 0 := fun i => g _ _ _ (by unfold aBeg; omega) rfl
  have w4 : ∀ i, rd ω (6 + 4) i = 0 := fun i => g _ _ _ (by unfold aBeg; omega) rfl
  have w6 : ∀ i, rd ω (6 + 6) i = 0 := fun i => g _ _ _ (by unfold aBeg; omega) rfl
  have w7 : ∀ i, rd ω (6 + 7) i = 0 := fun i => g _ _ _ (by unfold aBeg; omega) rfl
  have w8 : ∀ i, rd ω (6 + 8) i = 0 := fun i => g _ _ _ (by unfold aBeg; omega) rfl
  have w9 : ∀ i, rd ω (6 + 9) i = 0 := fun i => g _ _ _ (by unfold aBeg; omega) rfl
  have r235 : rd ω 23 5 = 0 := g _ _ _ (by unfold aBeg; omega) rfl
  have r295 : rd ω 29 5 = 0 := g _ _ _ (by unfold aBeg; omega) rfl
  have r355 : rd ω 35 5 = -1 := g _ _ _ (by unfold aBeg; omega) rfl
  have r356 : rd ω 35 6 = 0 := g _ _ _ (by unfold aBeg; omega) rfl
  have r442 : rd ω 44 2 = 0 := g _ _ _ (by unfold aBeg; omega) rfl
  have a48 : ∀ i, rd ω 48 i = 0 := fun i => g _ _ _ (by unfold aBeg; omega) rfl
  have a49 : ∀ i, rd ω 49 i = 0 := fun i => g _ _ _ (by unfold aBeg; omega) rfl
  have a121 : ∀ i, rd ω 121 i = 0 := fun i => g _ _ _ (by unfold aBeg; omega) rfl
  have a123 : ∀ i, rd ω 123 i = 0 := fun i => g _ _ _ (by unfold aBeg; omega) rfl
  have a94 : ∀ i, rd ω 94 i = 0 := fun i => g _ _ _ (by unfold aBeg; omega) rfl
  have r502 : rd ω 50 2 = 0 := g _ _ _ (by unfold aBeg; omega) rfl
  have l1 : ∀ y : Int, 0 ≤ y → y < 2 → rd ω (17 + 1) y = -1 := fun y y0 y1 => by
    rcases (show y = 0 ∨ y = 1 by omega) with rfl | rfl
    · exact g _ _ _ (by unfold aBeg; omega) rfl
    · exact g _ _ _ (by unfold aBeg; omega) rfl
  refine ⟨S, ?_, ?_, ⟨r03.trans m2.symm, r04.trans h683.symm⟩, ?_, ?_, ?_, ?_, ?_, ?_, ?_, ?_, ?_, ?_, ?_⟩
  · unfold RSz pSz
    rw [hc]
    exact ⟨by decide +kernel, by decide +kernel⟩
  · exact ⟨r01.trans m1.symm, by omega, by omega, fun i _ _ => by rw [a69, a1]; decide⟩
  · exact ⟨r05.trans m52.symm, by omega, by omega, by omega, by omega, by decide⟩
  · unfold RSlo
    rw [r07]
    refine ⟨Or.inl rfl, ⟨S 6 (by decide), S 7 (by decide), S 8 (by decide), S 9 (by decide), S 10 (by decide), S 11 (by decide), S 12 (by decide), S 13 (by decide), S 14 (by decide), S 15 (by decide), S 16 (by decide)⟩, r60.trans m30.symm, ⟨by omega, by omega⟩, r61.trans m31.symm, ⟨by omega, by omega⟩, r62.trans m33.symm, r63.trans m32.symm, ⟨by omega, by omega⟩, fun w hw => ?_, fun l l0 l1 => ?_, fun r r0 r1 => ?_, fun w w0 w1 => ?_⟩
    · have := vWay_t hw
      exact absurd this (by omega)
    · exact absurd l1 (by omega)
    · exact absurd r1 (by omega)
    · rw [w2, w3, w4, w6, w7, w8, w9]
      decide
  · exact ⟨r235.trans m51.symm, by omega, by omega, fun j j0 j1 => absurd j1 (by omega)⟩
  · exact ⟨r295.trans m65.symm, by omega, by omega, fun j j0 j1 => absurd j1 (by omega)⟩
  · exact ⟨r014.trans m64.symm, by omega, by omega, fun j j0 j1 => absurd j1 (by omega), fun i j i0 i1 j1 => absurd j1 (by omega)⟩
  · refine ⟨r442.trans m77.symm, by omega, by omega, fun j j0 j1 => absurd j1 (by omega), fun p p0 p1 => ?_, fun r r0 r1 => ?_⟩
    · rw [a48, a121]
      exact ⟨rfl, by decide, by decide, fun j j0 j1 => absurd j1 (by omega)⟩
    · rw [a49, a123]
      exact ⟨rfl, by decide, by decide⟩
  · exact ⟨r502.trans m78.symm, Or.inl m78, fun q => absurd q (by omega)⟩
  · unfold RLaw
    rw [r08]
    refine ⟨Or.inl rfl, ⟨1, ⟨S 17 (by decide), S 18 (by decide), S 19 (by decide), S 20 (by decide), S 21 (by decide), S 22 (by decide)⟩, by decide, fun y y0 y1 => Or.inl (l1 y y0 y1)⟩, fun y y0 y1 => ⟨Or.inl (a94 y), ?_⟩⟩
    have e1 : mList ω y = none := by
      unfold mList
      rw [if_neg (by rw [a94]; decide)]
    have e2 : cList ω 17 y = none := by
      unfold cList
      rw [if_pos (l1 y y0 y1)]
    rw [e1, e2]
    exact True.intro
  · exact ⟨by omega, by omega, ⟨by omega, by omega⟩, fun q => absurd q (by omega)⟩
  · exact fun j j0 j1 => absurd j1 (by omega)
  · refine ⟨h61.trans r07.symm, fun i i0 i1 => ?_, fun r r0 r1 => absurd r1 (by omega), fun p n p0 p1 n0 n1 => ?_⟩
    · rw [h63 i i0 i1, h133 i i0 i1]
      unfold fwI
      exact ⟨rfl, by split <;> omega, by split <;> omega⟩
    · rw [h62 _ (by omega) (by omega)]
      exact ⟨by decide, Or.inl rfl⟩
