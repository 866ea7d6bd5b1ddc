/-! the reference's text is the class's -/
theorem mod_sig {c : Int} (h : -128 ≤ c ∧ c < 128) : vLet (c % 256) = vLet c ∧ vDig (c % 256) = vDig c ∧ vSig (c % 256) = vSig c ∧ (blk (c % 256) ↔ blk c) ∧ (c % 256 = 112 ↔ c = 112) ∧ 0 ≤ c % 256 ∧ c % 256 < 256 := by
  refine ⟨?_, ?_, ?_, ?_, by omega, by omega, by omega⟩
  · unfold vLet; congr 1; apply propext; omega
  · unfold vDig; congr 1; apply propext; omega
  · unfold vSig; congr 1; apply propext; omega
  · unfold blk; omega
theorem let_mod {c : Int} (h : -128 ≤ c ∧ c < 128) (l : vLet c = true ∨ vDig c = true ∨ vSig c = true) : c % 256 = c := by
  unfold vLet vDig vSig at l
  simp only [decide_eq_true_eq] at l
  omega
/-- the reference holds the text of σ, n bytes long -/
def txM (σ : pS) (n : Int) (φ : pS) : Prop := rd φ 68 5 = n ∧ ∀ i : Int, 0 ≤ i → i < n → rd φ 69 i = rd σ 1 i % 256
theorem txM.here {σ φ : pS} {n k : Int} (h : txM σ n φ) (h4 : 0 ≤ rd φ 68 4 + k) : vHere φ k = if rd φ 68 4 + k < n then rd σ 1 (rd φ 68 4 + k) % 256 else -1 := by
  unfold vHere
  rw [h.1]
  split
  · rename_i c; exact h.2 _ h4 c
  · rfl
theorem txM.wr {σ φ : pS} {n i v : Int} (h : txM σ n φ) (hi : i ≠ 5) : txM σ n (wr φ 68 i v) := ⟨by rw [rd_wr_n (by omega)]; exact h.1, fun j j0 j1 => by rw [rd_wr_n (by omega)]; exact h.2 j j0 j1⟩
