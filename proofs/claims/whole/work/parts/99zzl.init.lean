/-! the class's object, made whole -/
theorem arr68 : ∀ k : Fin 68, (k.val = 1 ∨ (3 ≤ k.val ∧ k.val ≤ 5) ∨ (7 ≤ k.val ∧ k.val ≤ 16) ∨ (18 ≤ k.val ∧ k.val ≤ 22) ∨ (24 ≤ k.val ∧ k.val ≤ 28) ∨ (30 ≤ k.val ∧ k.val ≤ 34) ∨ (36 ≤ k.val ∧ k.val ≤ 39) ∨ (41 ≤ k.val ∧ k.val ≤ 42) ∨ (45 ≤ k.val ∧ k.val ≤ 49) ∨ (51 ≤ k.val ∧ k.val ≤ 60) ∨ (62 ≤ k.val ∧ k.val ≤ 67)) → 50 ≤ (statOb k.val).1 ∧ (statOb k.val).1 ≤ 53 := by decide
def m10 (m : Int → Int → Int) : Int → Int → Int := (wrm (wrm (wrm (wrm (wrm (wrm (wrm (wrm (wrm (wrm m 2 6 (-1)) 0 4 (-1)) 0 7 6) 18 0 (-1)) 18 1 (-1)) 19 0 (-1)) 19 1 (-1)) 0 8 17) 35 5 (-1)) 35 4 6)
set_option maxRecDepth 100000 in
theorem X10_init_C {d : Nat} {σ : pS} (hd : 5 ≤ d) {m : Int → Int → Int} (h0 : Mk [(10, 0)] m σ) (hm : ∀ b i : Int, 1 ≤ b → b < 68 → m b i = pdf (statOb b.toNat).1 i) (hs : ∀ i : Int, m 6 i = pdf 6 i) : pC mX10_init d [(2, 0)] σ (fun r υ => r = none ∧ ∃ τ υ', Mk ((10, 9) :: [(51, 1400), (9, 3), (50, 1401), (50, 1401), (53, 1401), (6, 10), (53, 17), (50, 17), (50, 17), (50, 17), (50, 6), (50, 17), (50, 17), (52, 17), (50, 17), (50, 17), (2, 5), (50, 2), (50, 2), (50, 41), (50, 1), (50, 1), (8, 5), (50, 60), (50, 60), (50, 60), (50, 60), (50, 60), (8, 5), (50, 100), (50, 100), (50, 100), (50, 100), (50, 100), (3, 4), (50, 8), (50, 8), (50, 8), (50, 8), (4, 3), (50, 10), (50, 10), (54, 8), (0, 5), (50, 20), (50, 20), (50, 60), (50, 10), (50, 7), (1, 12), (50, 4800), (50, 4800), (50, 3360), (50, 17), (50, 17), (50, 4800), (50, 10), (50, 10), (50, 17), (50, 17), (7, 6), (50, 20), (50, 100), (50, 7), (50, 7), (50, 2), (50, 2)]) (m10 m) τ ∧ fgQ τ 6 0 0 none υ' ∧ υ = fs1 υ' 0 10 9) := by
  have az : ∀ b i : Int, (b = 1 ∨ (3 ≤ b ∧ b ≤ 5) ∨ (7 ≤ b ∧ b ≤ 16) ∨ (18 ≤ b ∧ b ≤ 22) ∨ (24 ≤ b ∧ b ≤ 28) ∨ (30 ≤ b ∧ b ≤ 34) ∨ (36 ≤ b ∧ b ≤ 39) ∨ (41 ≤ b ∧ b ≤ 42) ∨ (45 ≤ b ∧ b ≤ 49) ∨ (51 ≤ b ∧ b ≤ 60) ∨ (62 ≤ b ∧ b ≤ 67)) → m b i = 0 := fun b i h => by
    have a := arr68 ⟨b.toNat, by omega⟩ (by show _; simp only; omega)
    rw [hm b i (by omega) (by omega)]
    exact pdf_arr a.1 a.2 i
  refine X10_init_24 hd h0 (fun b i h => az b i (by omega)) (fun i => hm 2 i (by decide) (by decide)) (fun τ1 h1 => ?_)
  refine X10_init_52 hd h1 (fun b i h => by repeat rw [wrm_n (by omega)]
                                            exact az b i (by omega)) (fun i => by repeat rw [wrm_n (by omega)]
                                                                                  exact hm 6 i (by decide) (by decide)) (fun i => by repeat rw [wrm_n (by omega)]
                                                                                                                                     exact hm 17 i (by decide) (by decide)) (fun τ2 h2 => ?_)
  refine X10_init_108 hd h2 (fun b i h => ?_) (by simp [wrm]) (fun i => ?_) (fun i => ?_) (fun i => ?_) (fun i => ?_) (fun τ3 h3 => ?_)
  · repeat rw [wrm_n (by omega)]
    exact az b i (by omega)
  · repeat rw [wrm_n (by omega)]
    exact hm 23 i (by decide) (by decide)
  · repeat rw [wrm_n (by omega)]
    exact hm 29 i (by decide) (by decide)
  · repeat rw [wrm_n (by omega)]
    exact hm 35 i (by decide) (by decide)
  · repeat rw [wrm_n (by omega)]
    exact hm 40 i (by decide) (by decide)
  refine X10_init_117 h3 (fun i => ?_) (fun τ4 h4 => ?_)
  · repeat rw [wrm_n (by omega)]
    exact hm 43 i (by decide) (by decide)
  refine X10_init_147 hd h4 (fun b i h => ?_) (fun i => ?_) (fun i => ?_) (fun τ5 h5 => ?_)
  · repeat rw [wrm_n (by omega)]
    exact az b i (by omega)
  · repeat rw [wrm_n (by omega)]
    exact hm 44 i (by decide) (by decide)
  · repeat rw [wrm_n (by omega)]
    exact hm 50 i (by decide) (by decide)
  refine X10_init_162 hd h5 (fun b i h => ?_) (by simp [wrm]) (fun i => ?_) ⟨?_, ?_⟩ (fun i => ⟨?_, ?_⟩) (fun τ υ h F => ⟨rfl, τ, υ, h, F, rfl⟩)
  · repeat rw [wrm_n (by omega)]
    exact az b i (by omega)
  · repeat rw [wrm_n (by omega)]
    exact hm 61 i (by decide) (by decide)
  · repeat rw [wrm_n (by omega)]
    exact hs 0
  · repeat rw [wrm_n (by omega)]
    exact hs 1
  · repeat rw [wrm_n (by omega)]
    exact az 8 i (by omega)
  · repeat rw [wrm_n (by omega)]
    exact az 9 i (by omega)
