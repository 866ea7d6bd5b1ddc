/-! the words: which is told -/
def wkA : Nat → Int
  | 0 => 0
  | j + 1 => if sCh 0 (j : Int) = 32 then 0 else wkA j * 32 + sCh 0 (j : Int) - 97 + 1
def wkN : Nat → Int
  | 0 => 0
  | j + 1 => if sCh 0 (j : Int) = 32 then wkN j + 1 else wkN j
theorem wk_all : ∀ j : Fin 85, (-9223372036854775808 ≤ wkA j.val ∧ wkA j.val < 9223372036854775808) ∧ 0 ≤ sCh 0 ((j.val : Nat) : Int) ∧ sCh 0 ((j.val : Nat) : Int) < 256 := by decide +kernel
def wkOut (code v : Int) : Prop := (∃ j : Nat, j < 85 ∧ sCh 0 (j : Int) = 32 ∧ wkA j = code ∧ v = wkN j) ∨ (v = 18 ∧ ∀ j : Nat, j < 85 → sCh 0 (j : Int) = 32 → wkA j ≠ code)
theorem l_cmp0 {x y : Int} : l_cmp x y = 0 ↔ x = y := by
  unfold l_cmp
  split
  · constructor
    · intro h; exact absurd h (by decide)
    · intro h; omega
  · split
    · rename_i h; exact ⟨fun _ => h, fun _ => rfl⟩
    · rename_i h; exact ⟨fun z => absurd z (by decide), fun z => absurd z h⟩
theorem wordKind_C {d : Nat} {σ : pS} (hd : 5 ≤ d) (S : Stat σ) {code : Int} (hc : inL code) : pC mX9_wordKind d [(1, code)] σ (fun r τ => ∃ v, r = some (0, v) ∧ wkOut code v ∧ τ = σ) := by
  have loop : ∀ (n j : Nat) (u6 : pV), u6.1 ≠ 1 → j + n = 85 → (∀ i : Nat, i < j → sCh 0 (i : Int) = 32 → wkA i ≠ code) → pR mX9_wordKind d 8 [(1, code), (9, 0), (1, wkA j), (9, 0), (0, wkN j), (0, (j : Int)), u6] [] σ (fun r τ => ∃ v, r = some (0, v) ∧ wkOut code v ∧ τ = σ) := fun n => by
    induction n with
    | zero =>
      intro j u6 hu hj all
      refine g_X9_wordKind_8 hd S code (wkA j) (wkN j) (j : Int) u6 hu (len0_C (by omega) S) (by unfold inR; omega) (fun _ => ⟨18, rfl, Or.inr ⟨rfl, fun i hi => all i (by omega)⟩, rfl⟩) (fun c => by omega) (fun c => by omega) (fun c => by omega) (fun c => by omega) (fun c => by omega) (fun c => by omega) (fun c => by omega)
    | succ n ih =>
      intro j u6 hu hj all
      have w := wk_all ⟨j, by omega⟩
      have eA : wkA (j + 1) = if sCh 0 (j : Int) = 32 then 0 else wkA j * 32 + sCh 0 (j : Int) - 97 + 1 := rfl
      have eN : wkN (j + 1) = if sCh 0 (j : Int) = 32 then wkN j + 1 else wkN j := rfl
      refine g_X9_wordKind_8 hd S code (wkA j) (wkN j) (j : Int) u6 hu (len0_C (by omega) S) (by unfold inR; omega) (fun c => by omega) (fun _ => charAt0_C (by omega) S (by omega)) (fun _ => by have := w.2; unfold inR; simp only at this; omega) (fun _ _ => w.1) (fun _ _ => hc) (fun _ c3 c5 => ?_) (fun _ c3 c6 => ⟨wkN j, rfl, Or.inl ⟨j, by omega, c3, l_cmp0.mp c6, rfl⟩, rfl⟩) (fun _ c4 => ?_)
      · have := ih (j + 1) (0, sCh 0 (j : Int)) (show (0 : Nat) ≠ 1 by decide) (by omega) (fun i hi hs => by
          by_cases z : i = j
          · rw [z]; exact fun y => c5 (l_cmp0.mpr y)
          · exact all i (by omega) hs)
        rw [eA, eN, if_pos c3, if_pos c3] at this
        exact this
      · have := ih (j + 1) (0, sCh 0 (j : Int)) (show (0 : Nat) ≠ 1 by decide) (by omega) (fun i hi hs => by
          by_cases z : i = j
          · rw [z] at hs; exact absurd hs c4
          · exact all i (by omega) hs)
        rw [eA, eN, if_neg c4, if_neg c4] at this
        exact this
  exact g_X9_wordKind_0 hd S code (loop 85 0 (9, 0) (by decide) rfl (fun i hi => by omega))
