/-! the class cuts a text -/
def blks (σ : pS) (a b : Int) : Prop := a ≤ b ∧ ∀ x : Int, a ≤ x → x < b → blk (rd σ 1 x)
def ctFr (σ τ : pS) : Prop := τ.1 = σ.1 ∧ ∀ a i : Int, a ≠ 3 → a ≠ 4 → a ≠ 5 → ¬ (a = 2 ∧ 3 ≤ i ∧ i ≤ 6) → rd τ a i = rd σ a i
/-- c tokens are cut, up to the place x; E i stands behind the token before the i-th -/
def toks (σ : pS) (n : Int) (τ : pS) (c : Nat) (E : Nat → Int) (x : Int) : Prop := E 0 = 0 ∧ (∀ i : Nat, i < c → blks σ (E i) (rd τ 4 (i : Int)) ∧ 0 ≤ rd τ 4 (i : Int) ∧ rd τ 4 (i : Int) < n ∧ ¬ blk (rd σ 1 (rd τ 4 (i : Int))) ∧ tokT σ n (rd τ 4 (i : Int)) (rd τ 3 (i : Int)) (rd τ 5 (i : Int)) (E (i + 1))) ∧ blks σ (E c) x
def cutD (σ : pS) (n : Int) (r : Option pV) (τ : pS) : Prop := r = none ∧ ctFr σ τ ∧ rd τ 2 4 = 0 ∧ rd τ 2 5 = 0 ∧ rd τ 2 6 = -1 ∧ ∃ (c : Nat) (E : Nat → Int), (c : Int) ≤ n ∧ rd τ 2 3 = (c : Int) + 1 ∧ toks σ n τ c E n ∧ rd τ 3 (c : Int) = 21 ∧ rd τ 4 (c : Int) = n
theorem isRun_cg {T U : Int → Int} (h : ∀ x, U x = T x) {n p : Int} {f : Int → Bool} {l : Nat} (r : isRun U n f p l) : isRun T n f p l := by
  have : U = T := funext h
  rw [← this]; exact r
theorem tokT_cg {σ τ : pS} (h : ∀ x : Int, rd τ 1 x = rd σ 1 x) {n p k v e : Int} (t : tokT τ n p k v e) : tokT σ n p k v e := by
  have e1 : rd τ 1 = rd σ 1 := funext h
  have e2 : vIsP τ p n = vIsP σ p n := by unfold vIsP; rw [e1]
  unfold tokT at *
  rw [e1, e2] at t
  exact t
theorem cut_C {d : Nat} {σ : pS} (hd : 9 ≤ d) (S : Stat σ) {n : Int} (X : txt σ n) : pC mX9_cut d [(2, 2), (2, 1), (0, n)] σ (cutD σ n) := by
  have n0 := X.1
  have n1 := X.2.1
  have fin : ∀ (τ : pS) (c : Nat) (E : Nat → Int), ctFr σ τ → rd τ 2 4 = 0 → rd τ 2 5 = 0 → rd τ 2 6 = -1 → (c : Int) ≤ n → rd τ 2 3 = (c : Int) → toks σ n τ c E n → cutD σ n none (pPut τ 21 n 0) := fun τ c E F e4 e5 e6 cn ec tk => by
    unfold pPut
    rw [ec]
    refine ⟨rfl, ⟨F.1, fun a i a3 a4 a5 a2 => by rw [rd_wr_n (by omega), rd_wr_n (by omega), rd_wr_n (by omega), rd_wr_n (by omega)]; exact F.2 a i a3 a4 a5 a2⟩, ?_, ?_, ?_, c, E, cn, rd_wr_same _ _ _ _, ⟨tk.1, fun i hi => ?_, tk.2.2⟩, ?_, ?_⟩
    · rw [rd_wr_n (by omega), rd_wr_n (by omega), rd_wr_n (by omega), rd_wr_n (by omega)]; exact e4
    · rw [rd_wr_n (by omega), rd_wr_n (by omega), rd_wr_n (by omega), rd_wr_n (by omega)]; exact e5
    · rw [rd_wr_n (by omega), rd_wr_n (by omega), rd_wr_n (by omega), rd_wr_n (by omega)]; exact e6
    · have f4 : rd (wr (wr (wr (wr τ 3 (c : Int) 21) 4 (c : Int) n) 5 (c : Int) 0) 2 3 ((c : Int) + 1)) 4 (i : Int) = rd τ 4 (i : Int) := by rw [rd_wr_n (by omega), rd_wr_n (by omega), rd_wr_n (by omega), rd_wr_n (by omega)]
      have f3 : rd (wr (wr (wr (wr τ 3 (c : Int) 21) 4 (c : Int) n) 5 (c : Int) 0) 2 3 ((c : Int) + 1)) 3 (i : Int) = rd τ 3 (i : Int) := by rw [rd_wr_n (by omega), rd_wr_n (by omega), rd_wr_n (by omega), rd_wr_n (by omega)]
      have f5 : rd (wr (wr (wr (wr τ 3 (c : Int) 21) 4 (c : Int) n) 5 (c : Int) 0) 2 3 ((c : Int) + 1)) 5 (i : Int) = rd τ 5 (i : Int) := by rw [rd_wr_n (by omega), rd_wr_n (by omega), rd_wr_n (by omega), rd_wr_n (by omega)]
      rw [f4, f3, f5]
      exact tk.2.1 i hi
    · rw [rd_wr_n (by omega), rd_wr_n (by omega), rd_wr_n (by omega), rd_wr_same]
    · rw [rd_wr_n (by omega), rd_wr_n (by omega), rd_wr_same]
  have loop : ∀ (m : Nat) (x y : Int) (τ : pS) (c : Nat) (E : Nat → Int), x + m = n → 0 ≤ y → y ≤ x → (c : Int) ≤ x → ctFr σ τ → rd τ 2 4 = 0 → rd τ 2 5 = 0 → rd τ 2 6 = -1 → rd τ 2 3 = (c : Int) → toks σ n τ c E x → pR mX9_cut d 25 [(2, 2), (2, 1), (0, n), (0, x), (0, y)] [] τ (cutD σ n) := fun m => by
    induction m using Nat.strongRecOn with
    | _ m ih =>
      intro x y τ c E hx y0 yx cx F e4 e5 e6 ec tk
      have S2 := S.eq F.1
      have e1 : ∀ z : Int, rd τ 1 z = rd σ 1 z := fun z => F.2 1 z (by decide) (by decide) (by decide) (by omega)
      have X2 : txt τ n := ⟨n0, n1, fun i i0 i1 => by rw [e1]; exact X.2.2 i i0 i1⟩
      by_cases z : x = n
      · rw [z] at tk cx
        exact g_X9_cut_25 (Q1 := fun r υ => r = none ∧ υ = pPut τ 21 n 0) (Q2 := fun r υ => r = none ∧ υ = pPut τ 21 n 0) (Q3 := fun _ _ => True) hd S2 n x y (by unfold inR; omega) (by unfold inR; omega) (fun _ => put_C S2 (by omega)) (fun _ τ1 _ q1 => by rw [q1.2]; exact fin τ c E F e4 e5 e6 cx ec tk) (fun _ => by unfold inR; omega) (fun _ _ => put_C S2 (by omega)) (fun _ _ τ2 _ q2 => by rw [q2.2]; exact fin τ c E F e4 e5 e6 cx ec tk) (fun _ c => by omega) (fun _ c => by omega)
      · refine g_X9_cut_25 (Q1 := fun _ _ => True) (Q2 := fun _ _ => True) (Q3 := fun r υ => (blk (rd τ 1 x) ∧ r = some (0, x + 1) ∧ υ = τ) ∨ (¬ blk (rd τ 1 x) ∧ ∃ k v e, tokT τ n x k v e ∧ r = some (0, e) ∧ υ = pPut τ k x v)) hd S2 n x y (by unfold inR; omega) (by unfold inR; omega) (fun c => by omega) (fun c => by omega) (fun _ => by unfold inR; omega) (fun _ c => by omega) (fun _ c => by omega) (fun _ _ => cutOne_C (Nat.le_refl 8) S2 ⟨by omega, by omega⟩ X2 (by omega)) (fun _ _ v3 τ3 _ q3 => ?_)
        rcases q3 with ⟨b, ev, eτ⟩ | ⟨nb, k, v, e, tt, ev, eτ⟩
        · have e3 : v3 = x + 1 := congrArg (fun o => (o.getD (0, 0)).2) ev
          rw [e3, eτ]
          refine ih (m - 1) (by omega) (x + 1) (y + 1) τ c E (by omega) (by omega) (by omega) (by omega) F e4 e5 e6 ec ⟨tk.1, tk.2.1, by have := tk.2.2.1; omega, fun q q0 q1 => ?_⟩
          by_cases w : q = x
          · rw [w, ← e1]; exact b
          · exact tk.2.2.2 q q0 (by omega)
        · have e3 : v3 = e := congrArg (fun o => (o.getD (0, 0)).2) ev
          have te := tokT_e ⟨by omega, by omega⟩ tt
          rw [e3, eτ]
          unfold pPut
          rw [ec]
          refine ih (n - e).toNat (by omega) e (y + 1) _ (c + 1) (fun i => if i = c + 1 then e else E i) (by omega) (by omega) (by omega) (by omega) ⟨F.1, fun a i a3 a4 a5 a2 => by rw [rd_wr_n (by omega), rd_wr_n (by omega), rd_wr_n (by omega), rd_wr_n (by omega)]; exact F.2 a i a3 a4 a5 a2⟩ ?_ ?_ ?_ (by rw [rd_wr_same]; omega) ⟨by show (if 0 = c + 1 then e else E 0) = 0; rw [if_neg (by omega)]; exact tk.1, fun i hi => ?_, ?_⟩
          · rw [rd_wr_n (by omega), rd_wr_n (by omega), rd_wr_n (by omega), rd_wr_n (by omega)]; exact e4
          · rw [rd_wr_n (by omega), rd_wr_n (by omega), rd_wr_n (by omega), rd_wr_n (by omega)]; exact e5
          · rw [rd_wr_n (by omega), rd_wr_n (by omega), rd_wr_n (by omega), rd_wr_n (by omega)]; exact e6
          · show blks σ (if i = c + 1 then e else E i) _ ∧ _ ∧ _ ∧ _ ∧ tokT σ n _ _ _ (if i + 1 = c + 1 then e else E (i + 1))
            rw [if_neg (by omega)]
            by_cases w : i = c
            · subst w
              rw [if_pos rfl]
              have f4 : rd (wr (wr (wr (wr τ 3 (i : Int) k) 4 (i : Int) x) 5 (i : Int) v) 2 3 ((i : Int) + 1)) 4 (i : Int) = x := by rw [rd_wr_n (by omega), rd_wr_n (by omega), rd_wr_same]
              have f3 : rd (wr (wr (wr (wr τ 3 (i : Int) k) 4 (i : Int) x) 5 (i : Int) v) 2 3 ((i : Int) + 1)) 3 (i : Int) = k := by rw [rd_wr_n (by omega), rd_wr_n (by omega), rd_wr_n (by omega), rd_wr_same]
              have f5 : rd (wr (wr (wr (wr τ 3 (i : Int) k) 4 (i : Int) x) 5 (i : Int) v) 2 3 ((i : Int) + 1)) 5 (i : Int) = v := by rw [rd_wr_n (by omega), rd_wr_same]
              rw [f4, f3, f5]
              exact ⟨tk.2.2, by omega, by omega, by rw [← e1]; exact nb, tokT_cg e1 tt⟩
            · rw [if_neg (by omega)]
              have f : ∀ a : Int, a = 3 ∨ a = 4 ∨ a = 5 → rd (wr (wr (wr (wr τ 3 (c : Int) k) 4 (c : Int) x) 5 (c : Int) v) 2 3 ((c : Int) + 1)) a (i : Int) = rd τ a (i : Int) := fun a _ => by rw [rd_wr_n (by omega), rd_wr_n (by omega), rd_wr_n (by omega), rd_wr_n (by omega)]
              rw [f 4 (by decide), f 3 (by decide), f 5 (by decide)]
              exact tk.2.1 i (by omega)
          · show blks σ (if c + 1 = c + 1 then e else E (c + 1)) e
            rw [if_pos rfl]
            exact ⟨Int.le_refl _, fun q q0 q1 => by omega⟩
  refine g_X9_cut_0 hd S n (loop n.toNat 0 0 _ 0 (fun _ => 0) (by omega) (by omega) (by omega) (by omega) ⟨rfl, fun a i a3 a4 a5 a2 => by rw [rd_wr_n (by omega), rd_wr_n (by omega), rd_wr_n (by omega), rd_wr_n (by omega)]⟩ ?_ ?_ ?_ ?_ ⟨rfl, fun i hi => by omega, Int.le_refl _, fun q q0 q1 => by
    have q0 : (0 : Int) ≤ q := q0
    omega⟩)
  · rw [rd_wr_n (by omega), rd_wr_n (by omega), rd_wr_same]
  · rw [rd_wr_n (by omega), rd_wr_same]
  · rw [rd_wr_same]
  · rw [rd_wr_n (by omega), rd_wr_n (by omega), rd_wr_n (by omega), rd_wr_same]; rfl
