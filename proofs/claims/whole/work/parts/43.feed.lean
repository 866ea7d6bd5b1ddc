/-! turn, pass, feed -/
theorem i_b_eq (x : Int) : i_b x = x.bmod 256 := by
  unfold i_b
  rw [Int8.toInt_toInt32, Int32.toInt_toInt8, Int32.toInt_ofInt]
  exact Int.bmod_bmod_of_dvd (by decide)
theorem i_b_r (x : Int) : -128 ≤ i_b x ∧ i_b x < 128 := by
  rw [i_b_eq]
  have h1 := @Int.le_bmod x 256 (by decide)
  have h2 := @Int.bmod_lt x 256 (by decide)
  omega
theorem i_b_id {x : Int} (h : -128 ≤ x ∧ x < 128) : i_b x = x := by
  rw [i_b_eq, Int.bmod_eq_of_le] <;> omega
theorem i_b_b (x : Int) : i_b (i_b x) = i_b x := i_b_id (i_b_r x)
theorem i_and_255 (x : Int) : i_and x 255 = x % 256 := by
  unfold i_and
  have e : (Int32.ofInt x &&& Int32.ofInt 255).toBitVec = BitVec.ofInt 32 x &&& 255#32 := rfl
  have n : (BitVec.ofInt 32 x &&& 255#32).toNat = (BitVec.ofInt 32 x).toNat % 256 := by
    rw [BitVec.toNat_and]
    exact Nat.and_two_pow_sub_one_eq_mod _ 8
  have z : ((BitVec.ofInt 32 x).toNat : Int) = x % 4294967296 := by
    rw [BitVec.toNat_ofInt]
    omega
  show (Int32.ofInt x &&& Int32.ofInt 255).toBitVec.toInt = x % 256
  rw [e, BitVec.toInt_eq_toNat_of_lt (by rw [n]; omega), n]
  omega
theorem i_and_b (x : Int) : i_and x 255 = i_b x % 256 := by
  rw [i_and_255, i_b_eq]
  exact (Int.bmod_emod).symm
/-- four numbers put on a row behind its filled part -/
def put4 (f : Int → Int) (σ : pS) (A B t : Int) : pS := (σ.1, fun x y => if x = B ∧ y = 1 then t + 4 else if x = A ∧ t ≤ y ∧ y < t + 4 then f (y - t) else σ.2 x y)
theorem rd_put4 (f : Int → Int) (σ : pS) (A B t x y : Int) : rd (put4 f σ A B t) x y = if x = B ∧ y = 1 then t + 4 else if x = A ∧ t ≤ y ∧ y < t + 4 then f (y - t) else rd σ x y := rfl
theorem put4_eq (f : Int → Int) (σ : pS) {A B t : Int} (h : A ≠ B) : wr (wr (wr (wr (wr (wr (wr (wr σ A t (f 0)) B 1 (t + 1)) A (t + 1) (f 1)) B 1 (t + 1 + 1)) A (t + 1 + 1) (f 2)) B 1 (t + 1 + 1 + 1)) A (t + 1 + 1 + 1) (f 3)) B 1 (t + 1 + 1 + 1 + 1) = put4 f σ A B t := by
  refine pS_ext rfl ?_
  intro x y
  rw [rd_put4]
  simp only [rd_wr]
  by_cases hB : x = B ∧ y = 1
  · rw [if_pos hB, if_pos hB]; omega
  · simp only [if_neg hB]
    by_cases hA : x = A
    · subst hA
      by_cases c3 : y = t + 1 + 1 + 1
      · rw [if_pos ⟨rfl, c3⟩, if_pos (by omega), c3, show t + 1 + 1 + 1 - t = 3 by omega]
      · rw [if_neg (fun q => c3 q.2)]
        by_cases c2 : y = t + 1 + 1
        · rw [if_pos ⟨rfl, c2⟩, if_pos (by omega), c2, show t + 1 + 1 - t = 2 by omega]
        · rw [if_neg (fun q => c2 q.2)]
          by_cases c1 : y = t + 1
          · rw [if_pos ⟨rfl, c1⟩, if_pos (by omega), c1, show t + 1 - t = 1 by omega]
          · rw [if_neg (fun q => c1 q.2)]
            by_cases c0 : y = t
            · rw [if_pos ⟨rfl, c0⟩, if_pos (by omega), c0, show t - t = 0 by omega]
            · rw [if_neg (fun q => c0 q.2), if_neg (by omega)]
    · rw [if_neg (fun q => hA q.1), if_neg (fun q => hA q.1), if_neg (fun q => hA q.1), if_neg (fun q => hA q.1), if_neg (fun q => hA q.1)]
def bC (v k : Int) : Int := i_b (i_b (i_shr v (24 - 8 * k)))
def bM (v k : Int) : Int := i_and (i_shr v (24 - 8 * k)) 255
theorem putOnTape_C {d : Nat} {σ : pS} (hst : Stat σ) {x t : Int} (h : rd σ 0 1 = t) (h0 : 0 ≤ t) (h1 : t + 4 ≤ 1400) : pC mX10_putOnTape d [(2, 0), (0, x)] σ (fun r τ => r = none ∧ τ = put4 (bC x) σ 1 0 t) := by
  refine g_X10_putOnTape_0 (Nat.zero_le d) hst x ?_
  have e1 : rd (wr (wr σ 1 t (bC x 0)) 0 1 (t + 1)) 0 1 = t + 1 := rd_wr_same _ _ _ _
  have e2 : rd (wr (wr (wr (wr σ 1 t (bC x 0)) 0 1 (t + 1)) 1 (t + 1) (bC x 1)) 0 1 (t + 1 + 1)) 0 1 = t + 1 + 1 := rd_wr_same _ _ _ _
  have e3 : rd (wr (wr (wr (wr (wr (wr σ 1 t (bC x 0)) 0 1 (t + 1)) 1 (t + 1) (bC x 1)) 0 1 (t + 1 + 1)) 1 (t + 1 + 1) (bC x 2)) 0 1 (t + 1 + 1 + 1)) 0 1 = t + 1 + 1 + 1 := rd_wr_same _ _ _ _
  refine g_X10_putOnTape_3 (Nat.zero_le d) hst x 24 (by omega) (fun _ => by omega) (fun _ => by omega) (fun _ _ => by omega) (fun _ _ => by omega) (fun _ _ => ?_)
  rw [h]
  refine g_X10_putOnTape_3 (Nat.zero_le d) hst.wr.wr x (24 + -8) (by omega) (fun _ => by omega) (fun _ => by rw [rd_wr_same]; omega) (fun _ q => by rw [rd_wr_same] at q; omega) (fun _ _ => by rw [rd_wr_same]; omega) (fun _ _ => ?_)
  rw [rd_wr_same]
  refine g_X10_putOnTape_3 (Nat.zero_le d) hst.wr.wr.wr.wr x (24 + -8 + -8) (by omega) (fun _ => by omega) (fun _ => by rw [rd_wr_same]; omega) (fun _ q => by rw [rd_wr_same] at q; omega) (fun _ _ => by rw [rd_wr_same]; omega) (fun _ _ => ?_)
  rw [rd_wr_same]
  refine g_X10_putOnTape_3 (Nat.zero_le d) hst.wr.wr.wr.wr.wr.wr x (24 + -8 + -8 + -8) (by omega) (fun _ => by omega) (fun _ => by rw [rd_wr_same]; omega) (fun _ q => by rw [rd_wr_same] at q; omega) (fun _ _ => by rw [rd_wr_same]; omega) (fun _ _ => ?_)
  rw [rd_wr_same]
  refine g_X10_putOnTape_3 (Nat.zero_le d) hst.wr.wr.wr.wr.wr.wr.wr.wr x (24 + -8 + -8 + -8 + -8) (by omega) (fun _ => ⟨rfl, ?_⟩) (fun q => by omega) (fun q => by omega) (fun q => by omega) (fun q => by omega)
  rw [← put4_eq (bC x) σ (by decide)]
  rfl
theorem four_C {d : Nat} {σ : pS} (hst : Stat σ) {x t : Int} (h : rd σ 68 1 = t) (h0 : 0 ≤ t) (h1 : t + 4 ≤ 1400) : pC mX11_four d [(2, 68), (0, x)] σ (fun r τ => r = none ∧ τ = put4 (bM x) σ 69 68 t) := by
  refine g_X11_four_0 (Nat.zero_le d) hst x ?_
  refine g_X11_four_3 (Nat.zero_le d) hst x 24 (by omega) (fun _ => by omega) (fun _ => by omega) (fun _ => ?_)
  rw [h]
  refine g_X11_four_3 (Nat.zero_le d) hst.wr.wr x (24 + -8) (by omega) (fun _ => by omega) (fun _ => by rw [rd_wr_same]; omega) (fun _ => ?_)
  rw [rd_wr_same]
  refine g_X11_four_3 (Nat.zero_le d) hst.wr.wr.wr.wr x (24 + -8 + -8) (by omega) (fun _ => by omega) (fun _ => by rw [rd_wr_same]; omega) (fun _ => ?_)
  rw [rd_wr_same]
  refine g_X11_four_3 (Nat.zero_le d) hst.wr.wr.wr.wr.wr.wr x (24 + -8 + -8 + -8) (by omega) (fun _ => by omega) (fun _ => by rw [rd_wr_same]; omega) (fun _ => ?_)
  rw [rd_wr_same]
  refine g_X11_four_3 (Nat.zero_le d) hst.wr.wr.wr.wr.wr.wr.wr.wr x (24 + -8 + -8 + -8 + -8) (by omega) (fun _ => ⟨rfl, ?_⟩) (fun q => by omega) (fun q => by omega)
  rw [← put4_eq (bM x) σ (by decide)]
  rfl
theorem Stat.put4 {σ : pS} {f : Int → Int} {A B t : Int} (h : Stat σ) : Stat (put4 f σ A B t) := h
theorem pLe.put4 (σ : pS) {f : Int → Int} {A B t : Int} (hA : 0 ≤ A) (hB : 0 ≤ B) : pLe σ (put4 f σ A B t) := ⟨Nat.le_refl _, Nat.le_refl _, fun _ _ h _ => h, fun b j hb => by rw [rd_put4, if_neg (by omega), if_neg (by omega)]⟩
theorem put4_B (f : Int → Int) (σ : pS) (A B t : Int) : rd (put4 f σ A B t) B 1 = t + 4 := by rw [rd_put4, if_pos ⟨rfl, rfl⟩]
theorem same.put4 {σ τ : pS} {P : Int → Int → Prop} {f : Int → Int} {A B t : Int} (h : same σ τ P) (hn : ∀ x y : Int, P x y → ¬ (x = B ∧ y = 1) ∧ ¬ x = A) : same σ (put4 f τ A B t) P := fun x y p => by
  rw [rd_put4, if_neg (hn x y p).1, if_neg (fun q => (hn x y p).2 q.1)]
  exact h x y p
def put20 (f : Int → Int → Int) (σ : pS) (A B t a b c d e : Int) : pS := put4 (f e) (put4 (f d) (put4 (f c) (put4 (f b) (put4 (f a) σ A B t) A B (t + 4)) A B (t + 8)) A B (t + 12)) A B (t + 16)
def pick5 (f : Int → Int → Int) (a b c d e j : Int) : Int := if j < 4 then f a j else if j < 8 then f b (j - 4) else if j < 12 then f c (j - 8) else if j < 16 then f d (j - 12) else f e (j - 16)
theorem rd_put20 (f : Int → Int → Int) (σ : pS) {A B t a b c d e x y : Int} (h : A ≠ B) : rd (put20 f σ A B t a b c d e) x y = if x = B ∧ y = 1 then t + 20 else if x = A ∧ t ≤ y ∧ y < t + 20 then pick5 f a b c d e (y - t) else rd σ x y := by
  unfold put20
  simp only [rd_put4]
  by_cases hB : x = B ∧ y = 1
  · rw [if_pos hB, if_pos hB]; omega
  · simp only [if_neg hB]
    by_cases hA : x = A
    · subst hA
      unfold pick5
      by_cases k1 : t ≤ y ∧ y < t + 20
      · rw [if_pos (show x = x ∧ t ≤ y ∧ y < t + 20 from ⟨rfl, k1⟩)]
        by_cases c1 : y < t + 4
        · rw [if_neg (by omega), if_neg (by omega), if_neg (by omega), if_neg (by omega), if_pos (by omega), if_pos (by omega)]
        · by_cases c2 : y < t + 8
          · rw [if_neg (by omega), if_neg (by omega), if_neg (by omega), if_pos (by omega), if_neg (by omega), if_pos (by omega), show y - (t + 4) = y - t - 4 by omega]
          · by_cases c3 : y < t + 12
            · rw [if_neg (by omega), if_neg (by omega), if_pos (by omega), if_neg (by omega), if_neg (by omega), if_pos (by omega), show y - (t + 8) = y - t - 8 by omega]
            · by_cases c4 : y < t + 16
              · rw [if_neg (by omega), if_pos (by omega), if_neg (by omega), if_neg (by omega), if_neg (by omega), if_pos (by omega), show y - (t + 12) = y - t - 12 by omega]
              · rw [if_pos (by omega), if_neg (by omega), if_neg (by omega), if_neg (by omega), if_neg (by omega), show y - (t + 16) = y - t - 16 by omega]
      · rw [if_neg (by omega), if_neg (by omega), if_neg (by omega), if_neg (by omega), if_neg (by omega), if_neg (by omega)]
    · rw [if_neg (fun q => hA q.1), if_neg (fun q => hA q.1), if_neg (fun q => hA q.1), if_neg (fun q => hA q.1), if_neg (fun q => hA q.1), if_neg (fun q => hA q.1)]
theorem pick5_CM (a b c d e j : Int) : pick5 bM a b c d e j = pick5 bC a b c d e j % 256 ∧ -128 ≤ pick5 bC a b c d e j ∧ pick5 bC a b c d e j < 128 := by
  have k : ∀ v i : Int, bM v i = bC v i % 256 ∧ -128 ≤ bC v i ∧ bC v i < 128 := fun v i => by
    unfold bM bC
    rw [i_and_b, i_b_b]
    exact ⟨rfl, i_b_r _⟩
  unfold pick5
  repeat' split
  all_goals exact k _ _
