/-! the class sweeps -/
theorem sw_ok {σ : pS} (L : RSlo σ) (Z : RSwp σ) : swOk (rd σ 68 31) (rd σ 77) (rd σ 78) (rd σ 79) (rd σ 133) := by
  refine ⟨L.2.2.2.2.2.1, fun r r0 r1 => ?_, fun i i0 i1 => ?_⟩
  · have m := L.2.2.2.2.2.2.2.2.2.1 (6 + r) (by unfold vWay; exact decide_eq_true (by omega))
    omega
  · have := Z.2.1 i i0 i1
    omega
/-- the class's rows of a run of it -/
theorem sw_rows {σ : pS} (L : RSlo σ) {r : Int} (r0 : 0 ≤ r) (r1 : r < rd σ 68 31) : rd σ (rd σ 0 7 + 2) (10 + r) = rd σ 77 (6 + r) ∧ rd σ (rd σ 0 7 + 3) (10 + r) = rd σ 78 (6 + r) ∧ rd σ (rd σ 0 7 + 4) (10 + r) = rd σ 79 (6 + r) := by
  have m := L.2.2.2.2.2.2.2.2.2.1 (6 + r) (by unfold vWay; exact decide_eq_true (by omega))
  rw [show vOuter (6 + r) = 10 + r by unfold vOuter; rw [if_neg (by omega)]; omega] at m
  exact ⟨m.1, m.2.2.2.1, m.2.2.2.2.2.2.1⟩
def cF (σ τ : pS) : Prop := τ.1 = σ.1 ∧ ∀ a i : Int, ¬ (65 ≤ a ∧ a ≤ 67) → ¬ (a = 61 ∧ (i = 7 ∨ i = 8)) → rd τ a i = rd σ a i
theorem cF.wr {σ τ : pS} {a i v : Int} (h : cF σ τ) (ha : (65 ≤ a ∧ a ≤ 67) ∨ (a = 61 ∧ (i = 7 ∨ i = 8))) : cF σ (wr τ a i v) := ⟨h.1, fun b j c1 c2 => by rw [rd_wr_n (by omega)]; exact h.2 b j c1 c2⟩
/-- the class's rows hold a state; bg the runs begun -/
def mS (σ : pS) (s : swS) (bg : Int) (τ : pS) : Prop := rd τ 66 0 = s.1.1 ∧ rd τ 66 1 = s.1.2 ∧ rd τ 67 0 = s.2.1.1 ∧ rd τ 67 1 = s.2.1.2 ∧ ∀ r : Nat, (r : Int) < rd σ 68 31 → bq bg r = decide (0 ≤ s.2.2 (r : Int)) ∧ (0 ≤ s.2.2 (r : Int) → rd τ 65 (r : Int) = s.2.2 (r : Int))
/-- what the class's search stands on -/
def cOk (σ : pS) (s : swS) (bg : Int) (τ : pS) : Prop := cF σ τ ∧ mS σ s bg τ ∧ swI s ∧ swV (rd σ 68 31) s ∧ swVal s ≤ 1000000
theorem ready_le {fr to dn : Int → Int} {run m : Int} (hm : 0 ≤ m) : ∀ N : Nat, (∀ i : Int, 0 ≤ i → i < (N : Int) → dn i ≤ m) → swReady fr to dn run N ≤ m
  | 0, _ => hm
  | N + 1, h => by
    have h1 := ready_le (fr := fr) (to := to) (dn := dn) (run := run) hm N (fun i i0 i1 => h i i0 (by omega))
    have h2 := h (N : Int) (by omega) (by omega)
    rw [ready_s]
    split
    · split <;> omega
    · omega
theorem and_ne {x y : Int} (h : i_and x y ≠ 0) : ∃ k : Nat, k < 32 ∧ bq x k = true ∧ bq y k = true := by
  by_cases c : ∃ k : Nat, k < 32 ∧ bq x k = true ∧ bq y k = true
  · exact c
  · refine absurd (bq_ext (i_and_in _ _) (by decide) (fun k hk => ?_)) h
    rw [bq_and, bq_0]
    cases e1 : bq x k
    · rfl
    · cases e2 : bq y k
      · rfl
      · exact absurd ⟨k, hk, e1, e2⟩ c
theorem bq_m1 : ∀ k : Fin 32, bq (-1) k.val = true := by decide +kernel
theorem bq_not (x : Int) {k : Nat} (hk : k < 32) : bq (i_xor x (-1)) k = !bq x k := by
  rw [bq_xor, bq_m1 ⟨k, hk⟩, Bool.xor_true]
section
variable {d : Nat} {σ τ : pS} {s : swS} {bg : Int}
theorem cOk.z6 (h : cOk σ s bg τ) (Z : RSwp σ) : rd τ 61 6 = rd σ 0 7 := (h.1.2 _ _ (by omega) (by omega)).trans Z.1
theorem cOk.I6 (h : cOk σ s bg τ) (L : RSlo σ) (Z : RSwp σ) : Inst6 τ (rd τ 61 6) := by rw [h.z6 Z]; exact L.2.1.eq h.1.1
theorem cOk.R (h : cOk σ s bg τ) (L : RSlo σ) (Z : RSwp σ) : rd τ (rd τ 61 6) 1 = rd σ 68 31 := by
  have l0 := L.1
  rw [h.z6 Z, h.1.2 _ _ (by omega) (by omega)]
  exact L.2.2.2.2.1
theorem cOk.rows (h : cOk σ s bg τ) (L : RSlo σ) (Z : RSwp σ) {r : Int} (r0 : 0 ≤ r) (r1 : r < rd σ 68 31) : rd τ (rd τ 61 6 + 2) (10 + r) = rd σ 77 (6 + r) ∧ rd τ (rd τ 61 6 + 3) (10 + r) = rd σ 78 (6 + r) ∧ rd τ (rd τ 61 6 + 4) (10 + r) = rd σ 79 (6 + r) := by
  have l0 := L.1
  rw [h.z6 Z, h.1.2 _ _ (by omega) (by omega), h.1.2 _ _ (by omega) (by omega), h.1.2 _ _ (by omega) (by omega)]
  exact sw_rows L r0 r1
theorem cOk.at (h : cOk σ s bg τ) {one : Int} (ho : 0 ≤ one ∧ one < 2) : rd τ 66 one = swAt (decide (one = 1)) s.1 ∧ rd τ 67 one = swAt (decide (one = 1)) s.2.1 := by
  obtain ⟨m1, m2, m3, m4, m5⟩ := h.2.1
  rcases (show one = 0 ∨ one = 1 by omega) with e | e
  · subst e; exact ⟨m1, m3⟩
  · subst e; exact ⟨m2, m4⟩
theorem cOk.above (h : cOk σ s bg τ) (Z : RSwp σ) {r : Int} (r0 : 0 ≤ r) (r1 : r < rd σ 68 31) {o : Nat} (ho : o < 32) : bq (rd τ 64 r) o = decide ((o : Int) < rd σ 68 31 ∧ rd σ 78 (6 + (o : Int)) = rd σ 77 (6 + r)) := by
  rw [h.1.2 _ _ (by omega) (by omega)]
  exact Z.2.2.1 r r0 r1 o ho
theorem startOf_C (hd : 1 ≤ d) (S : Stat σ) (L : RSlo σ) (Z : RSwp σ) (h : cOk σ s bg τ) {one run : Int} (ho : 0 ≤ one ∧ one < 2) (hr : 0 ≤ run ∧ run < rd σ 68 31) (hy : 0 ≤ swReady (rd σ 77) (rd σ 78) s.2.2 run (rd σ 68 31).toNat) : pC mX7_startOf d [(2, 61), (0, one), (0, run)] τ (fun r υ => r = some (0, swSt (rd σ 68 31) (rd σ 77) (rd σ 78) (rd σ 133) (decide (one = 1), run) s) ∧ υ = τ) := by
  have S2 := S.eq h.1.1
  have ok := sw_ok L Z
  obtain ⟨a1, a2⟩ := h.at ho
  obtain ⟨w1, w2, w3⟩ := h.rows L Z hr.1 hr.2
  have hR := h.R L Z
  have R7 := L.2.2.2.2.2.1
  have st := h.2.2.1.st (decide (one = 1))
  have fR := h.2.2.1.farR ok (c := (decide (one = 1), run)) hr
  simp only at fR
  have bo := ok.2.1 run hr.1 hr.2
  have en : rd τ 63 (rd τ 66 one * 10 + rd τ (rd τ 61 6 + 2) (10 + run)) = rd σ 133 (10 * swAt (decide (one = 1)) s.1 + rd σ 77 (6 + run)) := by
    rw [w1, a1, h.1.2 _ _ (by omega) (by omega), show swAt (decide (one = 1)) s.1 * 10 + rd σ 77 (6 + run) = 10 * swAt (decide (one = 1)) s.1 + rd σ 77 (6 + run) by omega]
    exact (Z.2.1 _ (by omega) (by omega)).1
  have vR := h.2.2.2.1
  have v6 := h.2.2.2.2
  have loop : ∀ (n i : Nat), (i : Int) + (n : Int) = rd σ 68 31 → pR mX7_startOf d 38 [(2, 61), (0, one), (0, run), (0, max (swAt (decide (one = 1)) s.2.1 + rd σ 133 (10 * swAt (decide (one = 1)) s.1 + rd σ 77 (6 + run))) (swReady (rd σ 77) (rd σ 78) s.2.2 run i)), (0, (i : Int))] [] τ (fun r υ => r = some (0, swSt (rd σ 68 31) (rd σ 77) (rd σ 78) (rd σ 133) (decide (one = 1), run) s) ∧ υ = τ) := by
    intro n
    induction n with
    | zero =>
      intro i hi
      refine g_X7_startOf_38 hd S2 one run _ _ (h.I6 L Z) (by omega) (by rw [hR]; unfold inR; omega) (fun _ => ⟨?_, rfl⟩) (fun c => by omega) (fun c => by omega) (fun c => by omega) (fun c => by omega) (fun c => by omega) (fun c => by omega) (fun c => by omega)
      rw [show i = (rd σ 68 31).toNat by omega]
      rfl
    | succ n ih =>
      intro i hi
      have yi : 0 ≤ swReady (rd σ 77) (rd σ 78) s.2.2 run i := ready_pos.mpr (fun j hj e => ready_pos.mp hy j (by omega) e)
      have yl : swReady (rd σ 77) (rd σ 78) s.2.2 run i ≤ swVal s := ready_le (by unfold swVal; have := h.2.2.1.2.2.1; omega) i (fun j j0 j1 => vR.2.2 j j0 (by omega))
      have f1 : swAt (decide (one = 1)) s.2.1 ≤ swVal s := by unfold swVal; cases decide (one = 1) <;> simp only [swAt, if_true, if_false] <;> first | omega | (simp; omega)
      have ab := h.above Z hr.1 hr.2 (o := i) (by omega)
      have tst : i_and (i_shr (rd τ 64 run) (i : Int)) 1 ≠ 0 ↔ rd σ 78 (6 + (i : Int)) = rd σ 77 (6 + run) := by
        rw [and1_ne0, shr_bit (by omega), show ((i : Nat) : Int).toNat = i by omega, ab, decide_eq_true_eq]
        exact ⟨fun z => z.2, fun z => ⟨by omega, z⟩⟩
      have dn : i_and (i_shr (rd τ 64 run) (i : Int)) 1 ≠ 0 → rd τ 65 (i : Int) = s.2.2 (i : Int) ∧ 0 ≤ s.2.2 (i : Int) ∧ s.2.2 (i : Int) ≤ 1000000 := fun c => by
        have p := ready_pos.mp hy i (by omega) (tst.mp c)
        have q := vR.2.2 (i : Int) (by omega) (by omega)
        exact ⟨((h.2.1.2.2.2.2 i (by omega)).2 p), p, by omega⟩
      refine g_X7_startOf_38 hd S2 one run _ _ (h.I6 L Z) (by omega) (by rw [hR]; unfold inR; omega) (fun c => by omega) (fun _ => by omega) (fun _ => i_and_in _ _) (fun _ c => ?_) (fun _ _ => by omega) (fun _ _ => by unfold inR; omega) (fun _ c => by have := dn c; unfold inR; omega) (fun _ c => ?_)
      · rw [show (i : Int) + 1 = ((i + 1 : Nat) : Int) by omega]
        have := ih (i + 1) (by omega)
        rw [ready_s, if_neg (fun z => tst.mpr z c)] at this
        exact this
      · rw [show (i : Int) + 1 = ((i + 1 : Nat) : Int) by omega]
        have := ih (i + 1) (by omega)
        have p := dn c
        rw [ready_s, if_pos (tst.mp c), if_neg (by omega)] at this
        rw [p.1]
        have e : ∀ x y z : Int, max (max x y) z = max x (max y z) := fun x y z => by omega
        rw [e]
        exact this
  refine g_X7_startOf_0 hd S2 one run ho (h.I6 L Z) (by omega) (by rw [w1, a1]; omega) ?_
  rw [en, a2]
  have := loop (rd σ 68 31).toNat 0 (by omega)
  rw [show swReady (rd σ 77) (rd σ 78) s.2.2 run 0 = 0 from rfl, show max (swAt (decide (one = 1)) s.2.1 + rd σ 133 (10 * swAt (decide (one = 1)) s.1 + rd σ 77 (6 + run))) 0 = swAt (decide (one = 1)) s.2.1 + rd σ 133 (10 * swAt (decide (one = 1)) s.1 + rd σ 77 (6 + run)) by omega] at this
  exact this
theorem better_C (S : Stat σ) (L : RSlo σ) (Z : RSwp σ) (h : cOk σ s bg τ) {n b : Int} (hn : n = 1 ∨ n = 2) (h7 : rd τ 61 7 = n) (h8 : rd τ 61 8 = b) (hb : 0 ≤ b ∧ b ≤ 1000000) : pC mX7_canBeBetter d [(2, 61), (0, bg)] τ (fun r υ => r = some (0, b2i (decide (s.2.1.1 + s.2.1.2 + swU (rd σ 79) (rd σ 68 31) s < b * n))) ∧ υ = τ) := by
  have S2 := S.eq h.1.1
  have ok := sw_ok L Z
  have hR := h.R L Z
  have R7 := L.2.2.2.2.2.1
  obtain ⟨m1, m2, m3, m4, m5⟩ := h.2.1
  have v6 := h.2.2.2.2
  have i3 := h.2.2.1.2.2
  have vv : s.2.1.1 ≤ 1000000 ∧ s.2.1.2 ≤ 1000000 := by unfold swVal at v6; omega
  have bn : b * n = b ∨ b * n = 2 * b := by rcases hn with e | e <;> subst e <;> omega
  have sR : ∀ i : Nat, (i : Int) ≤ rd σ 68 31 → 0 ≤ sumF (fun r => if s.2.2 r < 0 then rd σ 79 (6 + r) else 0) i ∧ sumF (fun r => if s.2.2 r < 0 then rd σ 79 (6 + r) else 0) i ≤ 60 * (i : Int) := fun i => by
    induction i with
    | zero => intro _; exact ⟨Int.le_refl _, Int.le_refl _⟩
    | succ i ih =>
      intro hi
      have a := ih (by omega)
      have b := ok.2.1 (i : Int) (by omega) (by omega)
      have c : (if s.2.2 (i : Int) < 0 then rd σ 79 (6 + (i : Int)) else 0) = rd σ 79 (6 + (i : Int)) ∨ (if s.2.2 (i : Int) < 0 then rd σ 79 (6 + (i : Int)) else 0) = 0 := by
        by_cases z : s.2.2 (i : Int) < 0
        · left; rw [if_pos z]
        · right; rw [if_neg z]
      show 0 ≤ sumF _ i + (if s.2.2 (i : Int) < 0 then rd σ 79 (6 + (i : Int)) else 0) ∧ sumF _ i + (if s.2.2 (i : Int) < 0 then rd σ 79 (6 + (i : Int)) else 0) ≤ 60 * ((i + 1 : Nat) : Int)
      omega
  have loop : ∀ (k i : Nat), (i : Int) + (k : Int) = rd σ 68 31 → pR mX7_canBeBetter d 16 [(2, 61), (0, bg), (0, s.2.1.1 + s.2.1.2 + sumF (fun r => if s.2.2 r < 0 then rd σ 79 (6 + r) else 0) i), (0, (i : Int))] [] τ (fun r υ => r = some (0, b2i (decide (s.2.1.1 + s.2.1.2 + swU (rd σ 79) (rd σ 68 31) s < b * n))) ∧ υ = τ) := by
    intro k
    induction k with
    | zero =>
      intro i hi
      have e : (rd σ 68 31).toNat = i := by omega
      have sr := sR i (by omega)
      have eu : swU (rd σ 79) (rd σ 68 31) s = sumF (fun r => if s.2.2 r < 0 then rd σ 79 (6 + r) else 0) i := by unfold swU; rw [e]
      refine g_X7_canBeBetter_16 (Nat.zero_le d) S2 bg _ _ (h.I6 L Z) (by omega) (by rw [hR]; unfold inR; omega) (fun _ => by unfold inR; omega) (fun _ => by rw [h8, h7]; unfold inR; omega) (fun _ c3 => ⟨?_, rfl⟩) (fun _ c4 => ⟨?_, rfl⟩) (fun c => by omega) (fun c => by omega) (fun c => by omega) (fun c => by omega)
      · rw [h8, h7] at c3
        rw [eu]
        exact b2i_zero (by omega)
      · rw [h8, h7] at c4
        rw [eu]
        exact b2i_one c4
    | succ k ih =>
      intro i hi
      have mi := (m5 i (by omega)).1
      have tst : i_and (i_shr bg (i : Int)) 1 ≠ 0 ↔ 0 ≤ s.2.2 (i : Int) := by
        rw [and1_ne0, shr_bit (by omega), show ((i : Nat) : Int).toNat = i by omega, mi, decide_eq_true_eq]
      have go : ∀ x : Int, x = s.2.1.1 + s.2.1.2 + (sumF (fun r => if s.2.2 r < 0 then rd σ 79 (6 + r) else 0) i + (if s.2.2 (i : Int) < 0 then rd σ 79 (6 + (i : Int)) else 0)) → pR mX7_canBeBetter d 16 [(2, 61), (0, bg), (0, x), (0, (i : Int) + 1)] [] τ (fun r υ => r = some (0, b2i (decide (s.2.1.1 + s.2.1.2 + swU (rd σ 79) (rd σ 68 31) s < b * n))) ∧ υ = τ) := fun x hx => by
        rw [show (i : Int) + 1 = ((i + 1 : Nat) : Int) by omega, hx]
        exact ih (i + 1) (by omega)
      refine g_X7_canBeBetter_16 (Nat.zero_le d) S2 bg _ _ (h.I6 L Z) (by omega) (by rw [hR]; unfold inR; omega) (fun c => by omega) (fun c => by omega) (fun c => by omega) (fun c => by omega) (fun _ => i_and_in _ _) (fun _ c5 => go _ ?_) (fun _ _ => by omega) (fun _ c6 => go _ ?_)
      · have := tst.mp c5
        rw [if_neg (by omega)]; omega
      · have : ¬ 0 ≤ s.2.2 (i : Int) := fun z => tst.mpr z c6
        rw [if_pos (by omega), (h.rows L Z (r := (i : Int)) (by omega) (by omega)).2.2]; omega
  refine g_X7_canBeBetter_0 (Nat.zero_le d) S2 bg ?_
  rw [m3, m4]
  have := loop (rd σ 68 31).toNat 0 (by omega)
  rw [show s.2.1.1 + s.2.1.2 + sumF (fun r => if s.2.2 r < 0 then rd σ 79 (6 + r) else 0) 0 = s.2.1.1 + s.2.1.2 from Int.add_zero _] at this
  exact this
end
/-- the least of a bound and a set -/
def minR (b : Int) (S : Int → Prop) (b' : Int) : Prop := b' ≤ b ∧ (∀ v, S v → b' ≤ v) ∧ (b' = b ∨ S b')
theorem minR.or {b b1 b2 : Int} {S T U : Int → Prop} (h1 : minR b S b1) (h2 : minR b1 T b2) (hU : ∀ v, U v ↔ S v ∨ T v) : minR b U b2 := by
  refine ⟨Int.le_trans h2.1 h1.1, fun v hv => ?_, ?_⟩
  · rcases (hU v).mp hv with z | z
    · exact Int.le_trans h2.1 (h1.2.1 v z)
    · exact h2.2.1 v z
  · rcases h2.2.2 with z | z
    · rcases h1.2.2 with y | y
      · exact Or.inl (z.trans y)
      · exact Or.inr ((hU b2).mpr (Or.inl (z ▸ y)))
    · exact Or.inr ((hU b2).mpr (Or.inr z))
theorem minR.skip {b : Int} {S : Int → Prop} (h : ∀ v, S v → b ≤ v) : minR b S b := ⟨Int.le_refl _, h, Or.inl rfl⟩
theorem minR.cg {b b' : Int} {S T : Int → Prop} (h : minR b S b') (e : ∀ v, T v ↔ S v) : minR b T b' := ⟨h.1, fun v hv => h.2.1 v ((e v).mp hv), h.2.2.imp id (fun z => (e b').mpr z)⟩
/-- the values of the completions, begun from m on; the first by whom -/
def Cl (σ : pS) (n : Int) (dp : Nat) (m : Int) (s : swS) (q : Nat) (v : Int) : Prop := ∃ ds t, ds.length = q ∧ swRun (rd σ 68 31) (rd σ 77) (rd σ 78) (rd σ 79) (rd σ 133) n ds s t ∧ swSort (rd σ 68 31) (rd σ 77) (rd σ 78) (rd σ 79) (rd σ 133) m ds s ∧ (dp = 0 → ∀ c rest, ds = c :: rest → c.1 = false) ∧ v = swVal t
/-- those that begin so -/
def ClD (σ : pS) (n : Int) (m : Int) (s : swS) (q : Nat) (c : Bool × Int) (v : Int) : Prop := ∃ rest t, rest.length = q ∧ swCan (rd σ 68 31) (rd σ 77) (rd σ 78) (rd σ 133) n c s ∧ m ≤ swSt (rd σ 68 31) (rd σ 77) (rd σ 78) (rd σ 133) c s ∧ swRun (rd σ 68 31) (rd σ 77) (rd σ 78) (rd σ 79) (rd σ 133) n rest (swGo (rd σ 68 31) (rd σ 77) (rd σ 78) (rd σ 79) (rd σ 133) c s) t ∧ swSort (rd σ 68 31) (rd σ 77) (rd σ 78) (rd σ 79) (rd σ 133) (swSt (rd σ 68 31) (rd σ 77) (rd σ 78) (rd σ 133) c s) rest (swGo (rd σ 68 31) (rd σ 77) (rd σ 78) (rd σ 79) (rd σ 133) c s) ∧ v = swVal t
/-- those whose first is one of the first i -/
def ClI (σ : pS) (n : Int) (m : Int) (s : swS) (q : Nat) (i : Int) (v : Int) : Prop := ∃ c, (if c.1 then rd σ 68 31 else 0) + c.2 < i ∧ ClD σ n m s q c v
def gPost (σ : pS) (n : Int) (dp : Nat) (m : Int) (s : swS) (bg : Int) (q : Nat) (b : Int) (r : Option pV) (υ : pS) : Prop := r = none ∧ cOk σ s bg υ ∧ rd υ 61 7 = n ∧ minR b (Cl σ n dp m s q) (rd υ 61 8)
theorem D_ge {σ : pS} (o : swOk (rd σ 68 31) (rd σ 77) (rd σ 78) (rd σ 79) (rd σ 133) ) {n m : Int} {s : swS} (hi : swI s) {q : Nat} {c : Bool × Int} {v : Int} (h : ClD σ n m s q c v) : swEnds (rd σ 68 31) (rd σ 77) (rd σ 78) (rd σ 79) (rd σ 133) c s ≤ v := by
  obtain ⟨rest, t, l, hc, hm, hr, hs, e⟩ := h
  have g := run_grow o (hi.go o ⟨hc.1, hc.2.1⟩) hr
  rw [e]
  unfold swVal
  obtain ⟨cb, cr⟩ := c
  cases cb
  · have a1 : (swGo (rd σ 68 31) (rd σ 77) (rd σ 78) (rd σ 79) (rd σ 133) (false, cr) s).2.1.1 = swEnds (rd σ 68 31) (rd σ 77) (rd σ 78) (rd σ 79) (rd σ 133) (false, cr) s := rfl
    omega
  · have a2 : (swGo (rd σ 68 31) (rd σ 77) (rd σ 78) (rd σ 79) (rd σ 133) (true, cr) s).2.1.2 = swEnds (rd σ 68 31) (rd σ 77) (rd σ 78) (rd σ 79) (rd σ 133) (true, cr) s := rfl
    omega
theorem Cl_ge {σ : pS} (o : swOk (rd σ 68 31) (rd σ 77) (rd σ 78) (rd σ 79) (rd σ 133) ) {n m : Int} (hn : n = 1 ∨ n = 2) {s : swS} (hi : swI s) {dp q : Nat} (hK : swK (rd σ 68 31) s = (q : Int)) (h1 : n = 1 → s.2.1.2 = 0) {v : Int} (h : Cl σ n dp m s q v) : s.2.1.1 + s.2.1.2 + swU (rd σ 79) (rd σ 68 31) s ≤ v * n := by
  obtain ⟨ds, t, l, hr, hs, hw, e⟩ := h
  have g := run_grow o hi hr
  have k0 := K_0 (R := rd σ 68 31) (s := t) (by rw [g.2.2.2.2.1, hK, l]; omega)
  have u0 := U_0 (tk := rd σ 79) k0
  rw [u0] at g
  have gi := g.1.2.2
  rcases hn with z | z
  · have := g.2.2.2.2.2.1 z
    have := h1 z
    subst z
    rw [e]
    unfold swVal
    omega
  · subst z
    rw [e]
    unfold swVal
    omega
theorem cOk_go {σ τ : pS} (ok : swOk (rd σ 68 31) (rd σ 77) (rd σ 78) (rd σ 79) (rd σ 133) ) {s : swS} {bg n : Int} (h : cOk σ s bg τ) {one run : Int} (ho : 0 ≤ one ∧ one < 2) (hc : swCan (rd σ 68 31) (rd σ 77) (rd σ 78) (rd σ 133) n (decide (one = 1), run) s) (hE : swEnds (rd σ 68 31) (rd σ 77) (rd σ 78) (rd σ 79) (rd σ 133) (decide (one = 1), run) s ≤ 1000000) : cOk σ (swGo (rd σ 68 31) (rd σ 77) (rd σ 78) (rd σ 79) (rd σ 133) (decide (one = 1), run) s) (i_or bg (i_shl 1 run)) (wr (wr (wr τ 66 one (rd σ 78 (6 + run))) 67 one (swEnds (rd σ 68 31) (rd σ 77) (rd σ 78) (rd σ 79) (rd σ 133) (decide (one = 1), run) s)) 65 run (swEnds (rd σ 68 31) (rd σ 77) (rd σ 78) (rd σ 79) (rd σ 133) (decide (one = 1), run) s)) := by
  obtain ⟨h1, ⟨m1, m2, m3, m4, m5⟩, h3, h4, h5⟩ := h
  have r0 : 0 ≤ run := hc.1
  have r1 : run < rd σ 68 31 := hc.2.1
  have R7 := ok.1
  have rc := h3.stR ok (c := (decide (one = 1), run)) ⟨r0, r1⟩
  have tc := ok.2.1 run r0 r1
  have e : swEnds (rd σ 68 31) (rd σ 77) (rd σ 78) (rd σ 79) (rd σ 133) (decide (one = 1), run) s = swSt (rd σ 68 31) (rd σ 77) (rd σ 78) (rd σ 133) (decide (one = 1), run) s + rd σ 79 (6 + run) := rfl
  refine ⟨((h1.wr (by omega)).wr (by omega)).wr (by omega), ?_, h3.go ok ⟨r0, r1⟩, h4.go ok h3 hc, ?_⟩
  · have bits : ∀ r : Nat, (r : Int) < rd σ 68 31 → bq (i_or bg (i_shl 1 run)) r = decide (0 ≤ (swGo (rd σ 68 31) (rd σ 77) (rd σ 78) (rd σ 79) (rd σ 133) (decide (one = 1), run) s).2.2 (r : Int)) ∧ (0 ≤ (swGo (rd σ 68 31) (rd σ 77) (rd σ 78) (rd σ 79) (rd σ 133) (decide (one = 1), run) s).2.2 (r : Int) → rd (wr (wr (wr τ 66 one (rd σ 78 (6 + run))) 67 one (swEnds (rd σ 68 31) (rd σ 77) (rd σ 78) (rd σ 79) (rd σ 133) (decide (one = 1), run) s)) 65 run (swEnds (rd σ 68 31) (rd σ 77) (rd σ 78) (rd σ 79) (rd σ 133) (decide (one = 1), run) s)) 65 (r : Int) = (swGo (rd σ 68 31) (rd σ 77) (rd σ 78) (rd σ 79) (rd σ 133) (decide (one = 1), run) s).2.2 (r : Int)) := fun r hr => by
      rw [bq_set (by omega) (by omega), go_dn]
      show (bq bg r || decide ((r : Int) = run)) = decide (0 ≤ if (r : Int) = run then _ else _) ∧ (0 ≤ (if (r : Int) = run then _ else _) → _ = if (r : Int) = run then _ else _)
      by_cases c : (r : Int) = run
      · rw [if_pos c, decide_eq_true c, Bool.or_true, c, rd_wr_same]
        exact ⟨(decide_eq_true (by omega)).symm, fun _ => rfl⟩
      · rw [if_neg c, decide_eq_false c, Bool.or_false, rd_wr_i _ c, rd_wr_n (by omega), rd_wr_n (by omega)]
        exact m5 r hr
    rcases (show one = 0 ∨ one = 1 by omega) with z | z
    · subst z
      refine ⟨?_, ?_, ?_, ?_, bits⟩
      · rw [rd_wr_n (by omega), rd_wr_n (by omega), rd_wr_same]; rfl
      · rw [rd_wr_n (by omega), rd_wr_n (by omega), rd_wr_n (by omega)]; exact m2
      · rw [rd_wr_n (by omega), rd_wr_same]; rfl
      · rw [rd_wr_n (by omega), rd_wr_n (by omega), rd_wr_n (by omega)]; exact m4
    · subst z
      refine ⟨?_, ?_, ?_, ?_, bits⟩
      · rw [rd_wr_n (by omega), rd_wr_n (by omega), rd_wr_n (by omega)]; exact m1
      · rw [rd_wr_n (by omega), rd_wr_n (by omega), rd_wr_same]; rfl
      · rw [rd_wr_n (by omega), rd_wr_n (by omega), rd_wr_n (by omega)]; exact m3
      · rw [rd_wr_n (by omega), rd_wr_same]; rfl
  · unfold swVal at h5 ⊢
    rcases (show one = 0 ∨ one = 1 by omega) with z | z
    · subst z
      show max (swEnds (rd σ 68 31) (rd σ 77) (rd σ 78) (rd σ 79) (rd σ 133) (decide ((0 : Int) = 1), run) s) s.2.1.2 ≤ _
      omega
    · subst z
      show max s.2.1.1 (swEnds (rd σ 68 31) (rd σ 77) (rd σ 78) (rd σ 79) (rd σ 133) (decide ((1 : Int) = 1), run) s) ≤ _
      omega
theorem cOk_back {σ τ υ : pS} {s : swS} {bg bg' n : Int} (h : cOk σ s bg τ) {one run : Int} (ho : 0 ≤ one ∧ one < 2) (hc : swCan (rd σ 68 31) (rd σ 77) (rd σ 78) (rd σ 133) n (decide (one = 1), run) s) (h' : cOk σ (swGo (rd σ 68 31) (rd σ 77) (rd σ 78) (rd σ 79) (rd σ 133) (decide (one = 1), run) s) bg' υ) : cOk σ s bg (wr (wr υ 66 one (rd τ 66 one)) 67 one (rd τ 67 one)) := by
  obtain ⟨h1, ⟨m1, m2, m3, m4, m5⟩, h3⟩ := h
  obtain ⟨g1, ⟨n1, n2, n3, n4, n5⟩, g3⟩ := h'
  have bits : ∀ r : Nat, (r : Int) < rd σ 68 31 → bq bg r = decide (0 ≤ s.2.2 (r : Int)) ∧ (0 ≤ s.2.2 (r : Int) → rd (wr (wr υ 66 one (rd τ 66 one)) 67 one (rd τ 67 one)) 65 (r : Int) = s.2.2 (r : Int)) := fun r hr => by
    refine ⟨(m5 r hr).1, fun p => ?_⟩
    have ne : (r : Int) ≠ run := fun z => by
      have := hc.2.2.2.1
      simp only at this
      rw [← z] at this
      omega
    have e : (swGo (rd σ 68 31) (rd σ 77) (rd σ 78) (rd σ 79) (rd σ 133) (decide (one = 1), run) s).2.2 (r : Int) = s.2.2 (r : Int) := by rw [go_dn, if_neg ne]
    rw [rd_wr_n (by omega), rd_wr_n (by omega), (n5 r hr).2 (by rw [e]; exact p), e]
  refine ⟨(g1.wr (by omega)).wr (by omega), ?_, h3⟩
  rcases (show one = 0 ∨ one = 1 by omega) with z | z
  · subst z
    refine ⟨?_, ?_, ?_, ?_, bits⟩
    · rw [rd_wr_n (by omega), rd_wr_same]; exact m1
    · rw [rd_wr_n (by omega), rd_wr_n (by omega)]; exact n2
    · rw [rd_wr_same]; exact m3
    · rw [rd_wr_n (by omega), rd_wr_n (by omega)]; exact n4
  · subst z
    refine ⟨?_, ?_, ?_, ?_, bits⟩
    · rw [rd_wr_n (by omega), rd_wr_n (by omega)]; exact n1
    · rw [rd_wr_n (by omega), rd_wr_same]; exact m2
    · rw [rd_wr_n (by omega), rd_wr_n (by omega)]; exact n3
    · rw [rd_wr_same]; exact m4
theorem goOn_C {σ : pS} (S : Stat σ) (L : RSlo σ) (Z : RSwp σ) {n : Int} (hn : n = 1 ∨ n = 2) : ∀ (q : Nat) (d : Nat) (s : swS) (m bg b : Int) (τ : pS) (dp : Nat), (dp : Int) + (q : Int) = rd σ 68 31 → 2 * q + 14 ≤ d → cOk σ s bg τ → swK (rd σ 68 31) s = (q : Int) → (n = 1 → s.2.1.2 = 0) → rd τ 61 7 = n → rd τ 61 8 = b → 0 ≤ b ∧ b ≤ 1000000 → 0 ≤ m ∧ m ≤ 1000000 → pC mX7_goOn d [(2, 61), (0, bg), (0, m), (0, (dp : Int))] τ (gPost σ n dp m s bg q b) := by
  have ok := sw_ok L Z
  have R7 := L.2.2.2.2.2.1
  intro q
  induction q with
  | zero =>
    intro d s m bg b τ dp hq hd h hK h1 h7 h8 hb hm
    have S2 := S.eq h.1.1
    have hR := h.R L Z
    have hv := h.2.2.2.2
    obtain ⟨m1, m2, m3, m4, m5⟩ := h.2.1
    have i3 := h.2.2.1.2.2
    refine g_X7_goOn_0 (Q1 := fun _ _ => True) (by omega) S2 bg m _ (h.I6 L Z) (by omega) (by rw [hR]; unfold inR; omega) (fun c => by omega) (fun c => by omega) (fun c => by omega) (fun c => by omega) (fun c => by omega) (fun c => by omega) (fun _ => by rw [m3]; unfold swVal at hv; unfold inR; omega) (fun _ => by rw [m4]; unfold swVal at hv; unfold inR; omega) (fun _ => by rw [h8]; unfold inR; omega) (fun _ => by rw [m3, m4]; unfold swVal at hv; unfold inR; omega) (fun _ => ⟨rfl, ⟨h.1.wr (by omega), ⟨by rw [rd_wr_n (by omega)]; exact m1, by rw [rd_wr_n (by omega)]; exact m2, by rw [rd_wr_n (by omega)]; exact m3, by rw [rd_wr_n (by omega)]; exact m4, fun r hr => by rw [rd_wr_n (by omega)]; exact m5 r hr⟩, h.2.2⟩, by rw [rd_wr_n (by omega)]; exact h7, ?_⟩)
    rw [rd_wr_same, m3, m4, h8]
    refine ⟨by omega, fun v hv => ?_, ?_⟩
    · obtain ⟨ds, t, l, hr, hs, hw, e⟩ := hv
      match ds, l, hr with
      | [], _, hr =>
        have hr : s = t := hr
        subst hr
        rw [e]; unfold swVal; omega
    · by_cases c : b ≤ max s.2.1.1 s.2.1.2
      · left; omega
      · right
        exact ⟨[], s, rfl, rfl, trivial, fun _ c rest z => (by cases z), (by unfold swVal; omega)⟩
  | succ q ih =>
    intro d s m bg b τ dp hq hd h hK h1 h7 h8 hb hm
    have S2 := S.eq h.1.1
    have hR := h.R L Z
    have i3 := h.2.2.1.2.2
    -- the loop
    have loop : ∀ (who : Int), (who = 1 ∨ who = n) → (dp = 0 → who = 1) → (dp ≠ 0 → who = n) → ∀ (k i : Nat) (τ : pS) (u6 u7 u8 : pV), (i : Int) + (k : Int) = who * rd σ 68 31 → u6.1 ≠ 1 → u7.1 ≠ 1 → u8.1 ≠ 1 → cOk σ s bg τ → rd τ 61 7 = n → (0 ≤ rd τ 61 8 ∧ rd τ 61 8 ≤ 1000000) → minR b (ClI σ n m s q (i : Int)) (rd τ 61 8) → pR mX7_goOn d 70 [(2, 61), (0, bg), (0, m), (0, (dp : Int)), (0, who), (0, (i : Int)), u6, u7, u8] [] τ (gPost σ n dp m s bg (q + 1) b) := by
      intro who hw hw0 hw1 k
      have wR : who * rd σ 68 31 = rd σ 68 31 ∨ who * rd σ 68 31 = 2 * rd σ 68 31 := by
        rcases hn with e | e <;> rcases hw with f | f <;> subst e <;> subst f <;> omega
      induction k with
      | zero =>
        intro i τ u6 u7 u8 hi h6 h7u h8u h h7 hb' mn
        have S2 := S.eq h.1.1
        have hR := h.R L Z
        refine g_X7_goOn_70 (Q1 := fun _ _ => True) (Q2 := fun _ _ => True) (by omega) S2 bg m _ who _ u6 u7 u8 h6 h7u h8u (h.I6 L Z) (by omega) (by rw [hR]; unfold inR; omega) (fun _ => ⟨rfl, h, h7, mn.cg (fun v => ?_)⟩) (fun c => by rw [hR] at c; omega) (fun c => by rw [hR] at c; omega) (fun c => by rw [hR] at c; omega) (fun c => by rw [hR] at c; omega) (fun c => by rw [hR] at c; omega) (fun c => by rw [hR] at c; omega) (fun c => by rw [hR] at c; omega) (fun c => by rw [hR] at c; omega) (fun c => by rw [hR] at c; omega) (fun c => by rw [hR] at c; omega) (fun c => by rw [hR] at c; omega) (fun c => by rw [hR] at c; omega) (fun c => by rw [hR] at c; omega) (fun c => by rw [hR] at c; omega) (fun c => by rw [hR] at c; omega) (fun c => by rw [hR] at c; omega) (fun c => by rw [hR] at c; omega) (fun c => by rw [hR] at c; omega)
        constructor
        · rintro ⟨ds, t, l, hr, hs, hw2, e⟩
          match ds, l, hr, hs, hw2 with
          | c :: rest, l, hr, hs, hw2 =>
            refine ⟨c, ?_, rest, t, by simpa using l, hr.1, hs.1, hr.2, hs.2, e⟩
            have c1 := hr.1.1
            have c2 := hr.1.2.1
            have c3 := hr.1.2.2.1
            by_cases z : dp = 0
            · have := hw2 z c rest rfl
              rw [this]
              have := hw0 z
              subst this
              show 0 + c.2 < (i : Int)
              omega
            · have hwn := hw1 z
              cases cb : c.1
              · show 0 + c.2 < (i : Int)
                rcases hn with e | e <;> omega
              · have hn2 : n = 2 := by have := c3 cb; omega
                show rd σ 68 31 + c.2 < (i : Int)
                rw [hwn, hn2] at hi
                omega
        · rintro ⟨c, ci, rest, t, l, hc, hm', hr, hs, e⟩
          refine ⟨c :: rest, t, by simp [l], ⟨hc, hr⟩, ⟨hm', hs⟩, fun z c' rest' e' => ?_, e⟩
          have hw1' := hw0 z
          subst hw1'
          cases e'
          cases cb : c.1
          · rfl
          · rw [cb] at ci
            have ci : rd σ 68 31 + c.2 < (i : Int) := ci
            have := hc.1
            omega
      | succ k ihk =>
        intro i τ u6 u7 u8 hi h6 h7u h8u h h7 hb' mn
        have S2 := S.eq h.1.1
        have hR := h.R L Z
        have Rp : 0 < rd σ 68 31 := by omega
        obtain ⟨m1, m2, m3, m4, m5⟩ := id h.2.1
        -- the candidate
        have hone : (i : Int) / rd σ 68 31 = (if rd σ 68 31 ≤ (i : Int) then 1 else 0) ∧ (i : Int) % rd σ 68 31 = (if rd σ 68 31 ≤ (i : Int) then (i : Int) - rd σ 68 31 else (i : Int)) := by
          by_cases c : rd σ 68 31 ≤ (i : Int)
          · rw [if_pos c, if_pos c]
            have e : (i : Int) = ((i : Int) - rd σ 68 31) + rd σ 68 31 * 1 := by omega
            constructor
            · rw [e, Int.add_mul_ediv_left _ _ (by omega), Int.ediv_eq_zero_of_lt (by omega) (by omega)]; rfl
            · rw [e, Int.add_mul_emod_self_left, Int.emod_eq_of_lt (by omega) (by omega)]
              omega
          · rw [if_neg c, if_neg c]
            exact ⟨Int.ediv_eq_zero_of_lt (by omega) (by omega), Int.emod_eq_of_lt (by omega) (by omega)⟩
        generalize hx : (i : Int) / rd σ 68 31 = one at hone
        generalize hy : (i : Int) % rd σ 68 31 = run at hone
        have o01 : 0 ≤ one ∧ one < 2 := by rw [hone.1]; split <;> omega
        have r01 : 0 ≤ run ∧ run < rd σ 68 31 := by rw [hone.2]; split <;> omega
        have idx : ∀ c : Bool × Int, 0 ≤ c.2 → c.2 < rd σ 68 31 → ((if c.1 then rd σ 68 31 else 0) + c.2 < ((i + 1 : Nat) : Int) ↔ (if c.1 then rd σ 68 31 else 0) + c.2 < (i : Int) ∨ c = (decide (one = 1), run)) := fun c c0 c1 => by
          obtain ⟨cb, cr⟩ := c
          simp only at c0 c1
          have h1 := hone.1
          have h2 := hone.2
          by_cases z : rd σ 68 31 ≤ (i : Int)
          · rw [if_pos z] at h1 h2
            rw [h1, h2]
            cases cb
            · simp
              omega
            · simp
              omega
          · rw [if_neg z] at h1 h2
            rw [h1, h2]
            cases cb
            · simp
              omega
            · simp
              omega
        have stp : ∀ v, ClI σ n m s q ((i + 1 : Nat) : Int) v ↔ ClI σ n m s q (i : Int) v ∨ ClD σ n m s q (decide (one = 1), run) v := fun v => by
          constructor
          · rintro ⟨c, ci, hD⟩
            have hc := hD.choose_spec.choose_spec.2.1
            rcases (idx c hc.1 hc.2.1).mp ci with z | z
            · exact Or.inl ⟨c, z, hD⟩
            · subst z; exact Or.inr hD
          · rintro (⟨c, ci, hD⟩ | hD)
            · have hc := hD.choose_spec.choose_spec.2.1
              exact ⟨c, (idx c hc.1 hc.2.1).mpr (Or.inl ci), hD⟩
            · exact ⟨_, (idx _ r01.1 r01.2).mpr (Or.inr rfl), hD⟩
        have next : ∀ (τ' : pS) (u6 u7 u8 : pV), u6.1 ≠ 1 → u7.1 ≠ 1 → u8.1 ≠ 1 → cOk σ s bg τ' → rd τ' 61 7 = n → minR (rd τ 61 8) (ClD σ n m s q (decide (one = 1), run)) (rd τ' 61 8) → 0 ≤ rd τ' 61 8 → pR mX7_goOn d 70 [(2, 61), (0, bg), (0, m), (0, (dp : Int)), (0, who), (0, (i : Int) + 1), u6, u7, u8] [] τ' (gPost σ n dp m s bg (q + 1) b) := fun τ' u6 u7 u8 h6 h7u h8u h' h7' mn' p' => by
          rw [show (i : Int) + 1 = ((i + 1 : Nat) : Int) by omega]
          exact ihk (i + 1) τ' u6 u7 u8 (by omega) h6 h7u h8u h' h7' ⟨p', by have := mn'.1; omega⟩ (mn.or mn' stp)
        have skip : ∀ (u6 u7 u8 : pV), u6.1 ≠ 1 → u7.1 ≠ 1 → u8.1 ≠ 1 → (∀ v, ClD σ n m s q (decide (one = 1), run) v → rd τ 61 8 ≤ v) → pR mX7_goOn d 70 [(2, 61), (0, bg), (0, m), (0, (dp : Int)), (0, who), (0, (i : Int) + 1), u6, u7, u8] [] τ (gPost σ n dp m s bg (q + 1) b) := fun u6 u7 u8 h6 h7u h8u hv => next τ u6 u7 u8 h6 h7u h8u h h7 (minR.skip hv) hb'.1
        have stB : swSt (rd σ 68 31) (rd σ 77) (rd σ 78) (rd σ 133) (decide (one = 1), run) s ≤ 2000000 ∧ 0 ≤ swSt (rd σ 68 31) (rd σ 77) (rd σ 78) (rd σ 133) (decide (one = 1), run) s := by
          have a1 := h.2.2.1.farR ok (c := (decide (one = 1), run)) r01
          have a2 : swReady (rd σ 77) (rd σ 78) s.2.2 run (rd σ 68 31).toNat ≤ swVal s := ready_le (by unfold swVal; omega) _ (fun j j0 j1 => h.2.2.2.1.2.2 j j0 (by omega))
          have a3 : swAt (decide (one = 1)) s.2.1 ≤ swVal s := by unfold swVal; cases decide (one = 1) <;> simp only [swAt, if_true, if_false] <;> first | omega | (simp; omega)
          have a4 := (h.2.2.1.stR ok (c := (decide (one = 1), run)) r01).2
          have a5 := h.2.2.2.2
          refine ⟨?_, a4⟩
          unfold swSt
          simp only at a1 ⊢
          omega
        have bo := ok.2.1 run r01.1 r01.2
        have bgr : i_and (i_shr bg run) 1 ≠ 0 ↔ 0 ≤ s.2.2 run := by
          have := (m5 run.toNat (by omega)).1
          rw [and1_ne0, shr_bit (by omega), this, show ((run.toNat : Nat) : Int) = run by omega, decide_eq_true_eq]
        have can : i_and (i_shr bg run) 1 = 0 → i_and (rd τ 64 run) (i_xor bg (-1)) = 0 → 0 ≤ swReady (rd σ 77) (rd σ 78) s.2.2 run (rd σ 68 31).toNat := fun c1 c2 => by
          refine ready_pos.mpr (fun o ho e => ?_)
          have a := h.above Z r01.1 r01.2 (o := o) (by omega)
          rw [decide_eq_true (⟨by omega, e⟩ : (o : Int) < rd σ 68 31 ∧ rd σ 78 (6 + (o : Int)) = rd σ 77 (6 + run))] at a
          have c3 : bq (i_and (rd τ 64 run) (i_xor bg (-1))) o = false := by rw [c2, bq_0]
          rw [bq_and, a, Bool.true_and, bq_not bg (by omega), (m5 o (by omega)).1] at c3
          by_cases z : 0 ≤ s.2.2 (o : Int)
          · exact z
          · rw [decide_eq_false z] at c3; cases c3
        refine g_X7_goOn_70 (Q1 := fun r υ => r = some (0, swSt (rd σ 68 31) (rd σ 77) (rd σ 78) (rd σ 133) (decide (one = 1), run) s) ∧ υ = τ) (Q2 := fun r υ => r = none ∧ cOk σ s bg υ ∧ rd υ 61 7 = n ∧ 0 ≤ rd υ 61 8 ∧ minR (rd τ 61 8) (ClD σ n m s q (decide (one = 1), run)) (rd υ 61 8)) (by omega) S2 bg m _ who _ u6 u7 u8 h6 h7u h8u (h.I6 L Z) (by omega) (by rw [hR]; unfold inR; omega) (fun c => by rw [hR] at c; omega) (fun _ => by omega) (fun _ => by rw [hR]; omega) (fun _ => i_and_in _ _) (fun _ c3 => ?_) (fun _ _ => by rw [hR, hy]; omega) (fun _ _ => i_and_in _ _) (fun _ c4 c5 => ?_) (fun _ c4 c6 => ?_) (fun _ c4 c6 v1 τ1 e1 q1 => ?_) (fun _ _ _ _ _ _ _ => by unfold inR; omega) (fun _ c4 c6 v1 τ1 e1 q1 c7 => ?_) (fun _ c4 c6 v1 τ1 e1 q1 c8 => ?_) (fun _ c4 c6 v1 τ1 e1 q1 c8 => by rw [hR, hy]; omega) (fun _ c4 c6 v1 τ1 e1 q1 c8 => ?_) (fun _ c4 c6 v1 τ1 e1 q1 c8 => ?_) (fun _ c4 c6 v1 τ1 e1 q1 c8 c9 => ?_) (fun _ c4 c6 v1 τ1 e1 q1 c8 c10 => ?_) (fun _ c4 c6 v1 τ1 e1 q1 c8 c10 τ2 e2 q2 => ?_)
        · rw [hR, hy] at c3
          refine skip _ _ u8 (show (0 : Nat) ≠ 1 by decide) (show (0 : Nat) ≠ 1 by decide) h8u (fun v hD => ?_)
          obtain ⟨rest, t, l, hc, hm', hr, hs, e⟩ := hD
          have a1 := hc.2.2.2.1
          have a2 := bgr.mp c3
          simp only at a1
          omega
        · rw [hR, hy] at c5
          refine skip _ _ u8 (show (0 : Nat) ≠ 1 by decide) (show (0 : Nat) ≠ 1 by decide) h8u (fun v hD => ?_)
          obtain ⟨rest, t, l, hc, hm', hr, hs, e⟩ := hD
          exfalso
          obtain ⟨o, o1, o2, o3⟩ := and_ne c5
          have a := h.above Z r01.1 r01.2 (o := o) o1
          rw [o2] at a
          have a := of_decide_eq_true a.symm
          have p := ready_pos.mp hc.2.2.2.2.1 o (by omega) a.2
          rw [bq_not bg o1, (m5 o (by omega)).1, decide_eq_true p] at o3
          cases o3
        · rw [hR, hy] at c4 c6
          rw [hR, hx, hy]
          exact startOf_C (Nat.le_refl 1) S L Z h o01 r01 (can c4 c6)
        all_goals
          obtain ⟨q1, q1'⟩ := q1
          subst q1'
          have v1e := so_inj q1
          rw [hR, hy] at c4 c6
          have hcan := can c4 c6
        · rw [v1e]; unfold inR; omega
        · refine skip _ _ _ (show (0 : Nat) ≠ 1 by decide) (show (0 : Nat) ≠ 1 by decide) (show (0 : Nat) ≠ 1 by decide) (fun v hD => ?_)
          obtain ⟨rest, t, l, hc, hm', hr, hs, e⟩ := hD
          omega
        · exact h.I6 L Z
        · rw [hR, hy, (h.rows L Z r01.1 r01.2).2.2, v1e]; unfold inR; omega
        · unfold inR; omega
        · rw [hR, hy, (h.rows L Z r01.1 r01.2).2.2] at c9
          refine skip _ _ _ (show (0 : Nat) ≠ 1 by decide) (show (0 : Nat) ≠ 1 by decide) (show (0 : Nat) ≠ 1 by decide) (fun v hD => ?_)
          have := D_ge ok h.2.2.1 hD
          rw [swEnds_eq] at this
          simp only at this
          omega
        · rw [hR, hy, (h.rows L Z r01.1 r01.2).2.2] at c10
          rw [hR, hx, hy]
          have hc : swCan (rd σ 68 31) (rd σ 77) (rd σ 78) (rd σ 133) n (decide (one = 1), run) s := by
            refine ⟨r01.1, r01.2, fun z => ?_, ?_, hcan, ?_⟩
            · have z := of_decide_eq_true z
              have h1' := hone.1
              rw [z] at h1'
              rcases hn with e | e
              · exfalso
                rcases hw with f | f
                · rw [f] at hi; split at h1' <;> omega
                · rw [f, e] at hi; split at h1' <;> omega
              · omega
            · show s.2.2 run < 0
              have : ¬ 0 ≤ s.2.2 run := fun z => bgr.mpr z c4
              omega
            · show rd σ 133 (10 * swAt (decide (one = 1)) s.1 + rd σ 77 (6 + run)) < 1000000
              have : swAt (decide (one = 1)) s.2.1 + rd σ 133 (10 * swAt (decide (one = 1)) s.1 + rd σ 77 (6 + run)) ≤ swSt (rd σ 68 31) (rd σ 77) (rd σ 78) (rd σ 133) (decide (one = 1), run) s := by
                unfold swSt
                simp only
                omega
              have := (h.2.2.1.st (decide (one = 1))).2
              omega
          have eE : swEnds (rd σ 68 31) (rd σ 77) (rd σ 78) (rd σ 79) (rd σ 133) (decide (one = 1), run) s = v1 + rd σ 79 (6 + run) := by rw [swEnds_eq, ← v1e]
          have go := cOk_go ok h o01 hc (by omega)
          have gu := go_U ok h.2.2.1 hc
          have w := h.rows L Z r01.1 r01.2
          have l0 := L.1
          have ew : rd (wr τ1 66 one (rd τ1 (rd τ1 61 6 + 3) (10 + run))) (rd τ1 61 6 + 4) (10 + run) = rd σ 79 (6 + run) := by
            rw [rd_wr_n (by have := h.z6 Z; omega)]; exact w.2.2
          refine g_X7_goDown_0 (Q1 := gPost σ n (dp + 1) v1 (swGo (rd σ 68 31) (rd σ 77) (rd σ 78) (rd σ 79) (rd σ 133) (decide (one = 1), run) s) (i_or bg (i_shl 1 run)) q (rd τ1 61 8)) (by omega) S2 one run bg v1 _ o01 (h.I6 L Z) (by omega) (by omega) ?_ (fun υ e3 q3 => ?_)
          · rw [ew, w.2.1, ← eE, show (dp : Int) + 1 = ((dp + 1 : Nat) : Int) by omega]
            refine ih (d - 1 - 1) _ v1 _ (rd τ1 61 8) _ (dp + 1) (by omega) (by omega) go (by rw [gu.2, hK]; omega) (fun z => ?_) (by rw [rd_wr_n (by omega), rd_wr_n (by omega), rd_wr_n (by omega)]; exact h7) (by rw [rd_wr_n (by omega), rd_wr_n (by omega), rd_wr_n (by omega)]) hb' (by omega)
            have c3 := hc.2.2.1
            rcases (show one = 0 ∨ one = 1 by omega) with y | y
            · subst y; exact h1 z
            · subst y; exact absurd z (c3 rfl)
          · obtain ⟨-, y2, y3, y4⟩ := q3
            refine ⟨rfl, cOk_back h o01 hc y2, by rw [rd_wr_n (by omega), rd_wr_n (by omega)]; exact y3, ?_, ?_⟩
            · rw [rd_wr_n (by omega), rd_wr_n (by omega)]
              rcases y4.2.2 with y | y
              · rw [y]; exact hb'.1
              · obtain ⟨ds, t, l, hr, hs, hw2, e⟩ := y
                have g := run_grow ok go.2.2.1 hr
                have := g.1.2.2
                rw [e]; unfold swVal; omega
            · rw [rd_wr_n (by omega), rd_wr_n (by omega)]
              refine y4.cg (fun v => ?_)
              constructor
              · rintro ⟨rest, t, l, -, -, hr, hs, e⟩
                rw [← v1e] at hs
                exact ⟨rest, t, l, hr, hs, fun z => (by omega), e⟩
              · rintro ⟨ds, t, l, hr, hs, -, e⟩
                rw [v1e] at hs
                exact ⟨ds, t, l, hc, by omega, hr, hs, e⟩
        · exact next τ2 _ _ _ (show (0 : Nat) ≠ 1 by decide) (show (0 : Nat) ≠ 1 by decide) (show (0 : Nat) ≠ 1 by decide) q2.2.1 q2.2.2.1 q2.2.2.2.2 q2.2.2.2.1
    have emp : minR b (ClI σ n m s q 0) b := minR.skip (fun v hv => by
      obtain ⟨c, ci, rest, t, l, hc, -⟩ := hv
      have := hc.1
      split at ci <;> omega)
    have nR : 0 ≤ n * rd σ 68 31 := by rcases hn with e | e <;> subst e <;> omega
    refine g_X7_goOn_0 (Q1 := fun r υ => r = some (0, b2i (decide (s.2.1.1 + s.2.1.2 + swU (rd σ 79) (rd σ 68 31) s < b * n))) ∧ υ = τ) (by omega) S2 bg m _ (h.I6 L Z) (by omega) (by rw [hR]; unfold inR; omega) (fun _ c => by omega) (fun _ _ => better_C S L Z h hn h7 h8 hb) (fun _ _ v b' τ1 e1 q1 => by omega) (fun _ _ v b' τ1 e1 q1 c5 c7 => ?_) (fun _ _ v b' τ1 e1 q1 c5 c8 => ?_) (fun _ _ v b' τ1 e1 q1 c6 => ?_) (fun c => by rw [hR] at c; omega) (fun c => by rw [hR] at c; omega) (fun c => by rw [hR] at c; omega) (fun c => by rw [hR] at c; omega) (fun c => by rw [hR] at c; omega)
    · obtain ⟨-, q2⟩ := q1
      subst q2
      rw [h7]
      exact loop n (Or.inr rfl) (fun z => by omega) (fun _ => rfl) (n * rd σ 68 31).toNat 0 τ1 (9, 0) (9, 0) (9, 0) (by omega) (by decide) (by decide) (by decide) h h7 (by rw [h8]; exact hb) (by rw [h8]; exact emp)
    · obtain ⟨-, q2⟩ := q1
      subst q2
      exact loop 1 (Or.inl rfl) (fun _ => rfl) (fun z => by omega) (rd σ 68 31).toNat 0 τ1 (9, 0) (9, 0) (9, 0) (by omega) (by decide) (by decide) (by decide) h h7 (by rw [h8]; exact hb) (by rw [h8]; exact emp)
    · obtain ⟨q1, q2⟩ := q1
      subst q2
      have z := of_decide_eq_false (b2i_f' (so_inj q1) c6)
      refine ⟨rfl, h, h7, ?_⟩
      rw [h8]
      refine minR.skip (fun v hv => ?_)
      have := Cl_ge ok hn h.2.2.1 hK h1 hv
      rcases hn with e | e <;> subst e <;> omega
