/-! the reference sweeps -/
theorem ready_m1 {fr to dn : Int → Int} {run : Int} : ∀ {N : Nat}, swReady fr to dn run N < 0 → swReady fr to dn run N = -1
  | 0, h => absurd h (by show ¬ (0 : Int) < 0; decide)
  | N + 1, h => by
    have ih := @ready_m1 fr to dn run N
    rw [ready_s] at h ⊢
    by_cases c : to (6 + (N : Int)) = fr (6 + run)
    · rw [if_pos c] at h ⊢
      by_cases z : swReady fr to dn run N < 0 ∨ dn (N : Int) < 0
      · rw [if_pos z]
      · rw [if_neg z] at h; omega
    · rw [if_neg c] at h ⊢; exact ih h
def swF (σ τ : pS) : Prop := τ.1 = σ.1 ∧ ∀ a i : Int, ¬ (134 ≤ a ∧ a ≤ 140) → rd τ a i = rd σ a i
theorem swF.wr {σ τ : pS} {a i v : Int} (h : swF σ τ) (ha : 134 ≤ a ∧ a ≤ 140) : swF σ (wr τ a i v) := ⟨h.1, fun b j c => by rw [rd_wr_n (by omega)]; exact h.2 b j c⟩
/-- the row of what is done holds a state's -/
def dnR (σ : pS) (s : swS) (τ : pS) : Prop := ∀ r : Int, 0 ≤ r → r < rd σ 68 31 → rd τ 139 r = s.2.2 r
/-- where the two stand, when they are free, at a depth -/
def atR (s : swS) (i : Int) (τ : pS) : Prop := rd τ 134 i = s.1.1 ∧ rd τ 135 i = s.1.2 ∧ rd τ 136 i = s.2.1.1 ∧ rd τ 137 i = s.2.1.2
def lvF (i : Int) (τ υ : pS) : Prop := ∀ a k : Int, ((134 ≤ a ∧ a ≤ 138) ∨ a = 140) → k < i → rd υ a k = rd τ a k
theorem lvF.tr {i : Int} {σ τ υ : pS} (h : lvF i σ τ) (g : lvF i τ υ) : lvF i σ υ := fun a k ha hk => (g a k ha hk).trans (h a k ha hk)
theorem lvF.le {i j : Int} {σ τ : pS} (h : lvF i σ τ) (hj : j ≤ i) : lvF j σ τ := fun a k ha hk => h a k ha (by omega)
theorem lvF.rf {i : Int} {σ : pS} : lvF i σ σ := fun _ _ _ _ => rfl
theorem lvF.wr {i a k v : Int} {σ τ : pS} (h : lvF i σ τ) (ha : a = 139 ∨ i ≤ k) : lvF i σ (wr τ a k v) := fun b j hb hj => by rw [rd_wr_n (by omega)]; exact h b j hb hj
def gW (τ : pS) (i run e a0 a1 f0 f1 : Int) : pS := wr (wr (wr (wr (wr (wr τ 139 run e) 140 i run) 134 (i + 1) a0) 135 (i + 1) a1) 136 (i + 1) f0) 137 (i + 1) f1
section
variable {d : Nat} {σ τ : pS} {s : swS} {n : Int}
theorem readyAt_C (S : Stat σ) (L : RSlo σ) (h : swF σ τ) (hd : dnR σ s τ) (hv : ∀ r : Int, 0 ≤ r → r < rd σ 68 31 → -1 ≤ s.2.2 r ∧ s.2.2 r ≤ 1000000) {run : Int} (hr : 0 ≤ run ∧ run < rd σ 68 31) : pC mX11_readyAt d [(2, 68), (0, run)] τ (fun r υ => r = some (0, swReady (rd σ 77) (rd σ 78) s.2.2 run (rd σ 68 31).toNat) ∧ υ = τ) := by
  have S2 := S.eq h.1
  have R7 := L.2.2.2.2.2.1
  have eR : rd τ 68 31 = rd σ 68 31 := h.2 _ _ (by omega)
  have e77 : ∀ i : Int, rd τ 77 i = rd σ 77 i := fun i => h.2 _ _ (by omega)
  have e78 : ∀ i : Int, rd τ 78 i = rd σ 78 i := fun i => h.2 _ _ (by omega)
  have wy : ∀ r : Int, 0 ≤ r → r < rd σ 68 31 → wyS σ (6 + r) = true := fun r r0 r1 => by unfold wyS vWay; exact decide_eq_true (by omega)
  have en := L.ends (wy run hr.1 hr.2)
  have loop : ∀ (k i : Nat), (i : Int) + (k : Int) = rd σ 68 31 → 0 ≤ swReady (rd σ 77) (rd σ 78) s.2.2 run i → pR mX11_readyAt d 4 [(2, 68), (0, run), (0, swReady (rd σ 77) (rd σ 78) s.2.2 run i), (0, (i : Int))] [] τ (fun r υ => r = some (0, swReady (rd σ 77) (rd σ 78) s.2.2 run (rd σ 68 31).toNat) ∧ υ = τ) := by
    intro k
    induction k with
    | zero =>
      intro i hi hp
      refine g_X11_readyAt_4 (Nat.zero_le d) S2 run _ _ (by omega) (by rw [eR]; unfold inR; omega) (fun _ => ⟨by rw [show i = (rd σ 68 31).toNat by omega], rfl⟩) (fun c => by omega) (fun c => by omega) (fun c => by omega) (fun c => by omega) (fun c => by omega) (fun c => by omega) (fun c => by omega) (fun c => by omega) (fun c => by omega) (fun c => by omega) (fun c => by omega)
    | succ k ih =>
      intro i hi hp
      have ei := L.ends (wy (i : Int) (by omega) (by omega))
      have di := hd (i : Int) (by omega) (by omega)
      have vi := hv (i : Int) (by omega) (by omega)
      have rl : swReady (rd σ 77) (rd σ 78) s.2.2 run i ≤ 1000000 := ready_le (by decide) i (fun j j0 j1 => (hv j j0 (by omega)).2)
      have go : ∀ x : Int, x = swReady (rd σ 77) (rd σ 78) s.2.2 run (i + 1) → 0 ≤ x → pR mX11_readyAt d 4 [(2, 68), (0, run), (0, x), (0, (i : Int) + 1)] [] τ (fun r υ => r = some (0, swReady (rd σ 77) (rd σ 78) s.2.2 run (rd σ 68 31).toNat) ∧ υ = τ) := fun x hx h0 => by
        rw [show (i : Int) + 1 = ((i + 1 : Nat) : Int) by omega, hx]
        exact ih (i + 1) (by omega) (by rw [← hx]; exact h0)
      refine g_X11_readyAt_4 (Nat.zero_le d) S2 run _ _ (by omega) (by rw [eR]; unfold inR; omega) (fun c => by omega) (fun _ => by omega) (fun _ => by omega) (fun _ => by rw [e78]; unfold inR; omega) (fun _ => by rw [e77]; unfold inR; omega) (fun _ _ => by omega) (fun _ _ => by rw [di]; unfold inR; omega) (fun _ _ _ => by unfold inR; omega) (fun _ c3 c5 c7 => ?_) (fun _ c3 c5 c8 => ?_) (fun _ c3 c6 => ⟨?_, rfl⟩) (fun _ c4 => ?_)
      · rw [e77, e78] at c3
        rw [di] at c5 c7
        refine go _ ?_ hp
        rw [ready_s, if_pos c3, if_neg (by omega)]
        omega
      · rw [e77, e78] at c3
        rw [di] at c5 c8
        rw [di]
        refine go _ ?_ c5
        rw [ready_s, if_pos c3, if_neg (by omega)]
        omega
      · rw [e77, e78] at c3
        rw [di] at c6
        have : swReady (rd σ 77) (rd σ 78) s.2.2 run (rd σ 68 31).toNat < 0 := by
          by_cases z : 0 ≤ swReady (rd σ 77) (rd σ 78) s.2.2 run (rd σ 68 31).toNat
          · have := ready_pos.mp z i (by omega) c3
            omega
          · omega
        rw [ready_m1 this]
      · rw [e77, e78] at c4
        refine go _ ?_ hp
        rw [ready_s, if_neg c4]
  exact g_X11_readyAt_0 (Nat.zero_le d) S2 run (loop (rd σ 68 31).toNat 0 (by omega) (by show (0 : Int) ≤ 0; decide))
set_option maxHeartbeats 4000000 in
theorem goesOn_C (S : Stat σ) (L : RSlo σ) (Z : RSwp σ) (h : swF σ τ) (hd : dnR σ s τ) {i : Int} (ha : atR s i τ) (hs : swI s) (hv : ∀ r : Int, 0 ≤ r → r < rd σ 68 31 → -1 ≤ s.2.2 r ∧ s.2.2 r ≤ 1000000) (hf : s.2.1.1 ≤ 1000000 ∧ s.2.1.2 ≤ 1000000) (hn : n = 1 ∨ n = 2) {b : Int} (hb : -1 ≤ b ∧ b ≤ 1000000) (hi : 0 ≤ i ∧ i < rd σ 68 31) {cb : Bool} {run : Int} (hr : 0 ≤ run ∧ run < rd σ 68 31) (hp : rd τ 138 i = 2 * run + (if cb then 1 else 0)) : pC mX11_goesOn 1 [(2, 68), (0, i), (0, n), (0, b)] τ (fun r υ => ((swCan (rd σ 68 31) (rd σ 77) (rd σ 78) (rd σ 133) n (cb, run) s ∧ (b < 0 ∨ swEnds (rd σ 68 31) (rd σ 77) (rd σ 78) (rd σ 79) (rd σ 133) (cb, run) s < b)) ∧ r = some (0, 1) ∧ υ = gW τ i run (swEnds (rd σ 68 31) (rd σ 77) (rd σ 78) (rd σ 79) (rd σ 133) (cb, run) s) (swGo (rd σ 68 31) (rd σ 77) (rd σ 78) (rd σ 79) (rd σ 133) (cb, run) s).1.1 (swGo (rd σ 68 31) (rd σ 77) (rd σ 78) (rd σ 79) (rd σ 133) (cb, run) s).1.2 (swGo (rd σ 68 31) (rd σ 77) (rd σ 78) (rd σ 79) (rd σ 133) (cb, run) s).2.1.1 (swGo (rd σ 68 31) (rd σ 77) (rd σ 78) (rd σ 79) (rd σ 133) (cb, run) s).2.1.2) ∨ (¬ (swCan (rd σ 68 31) (rd σ 77) (rd σ 78) (rd σ 133) n (cb, run) s ∧ (b < 0 ∨ swEnds (rd σ 68 31) (rd σ 77) (rd σ 78) (rd σ 79) (rd σ 133) (cb, run) s < b)) ∧ r = some (0, 0) ∧ υ = τ)) := by
  have S2 := S.eq h.1
  have R7 := L.2.2.2.2.2.1
  have ok := sw_ok L Z
  have bo := ok.2.1 run hr.1 hr.2
  have fR := hs.farR ok (c := (cb, run)) hr
  simp only at fR
  have e77 : rd τ 77 (6 + run) = rd σ 77 (6 + run) := h.2 _ _ (by omega)
  have e78 : rd τ 78 (6 + run) = rd σ 78 (6 + run) := h.2 _ _ (by omega)
  have e79 : rd τ 79 (6 + run) = rd σ 79 (6 + run) := h.2 _ _ (by omega)
  have e133 : ∀ j : Int, rd τ 133 j = rd σ 133 j := fun j => h.2 _ _ (by omega)
  have dr := hd run hr.1 hr.2
  have vr := hv run hr.1 hr.2
  obtain ⟨a0, a1, a2, a3⟩ := ha
  obtain ⟨i1, i2, i3, i4⟩ := id hs
  have rl : swReady (rd σ 77) (rd σ 78) s.2.2 run (rd σ 68 31).toNat ≤ 1000000 := ready_le (by decide) _ (fun j j0 j1 => (hv j j0 (by omega)).2)
  have rm : swReady (rd σ 77) (rd σ 78) s.2.2 run (rd σ 68 31).toNat < 0 → swReady (rd σ 77) (rd σ 78) s.2.2 run (rd σ 68 31).toNat = -1 := ready_m1
  have R := fun {d : Nat} => readyAt_C (d := d) S L h hd hv hr
  have eE : swEnds (rd σ 68 31) (rd σ 77) (rd σ 78) (rd σ 79) (rd σ 133) (cb, run) s = max (swAt cb s.2.1 + rd σ 133 (10 * swAt cb s.1 + rd σ 77 (6 + run))) (swReady (rd σ 77) (rd σ 78) s.2.2 run (rd σ 68 31).toNat) + rd σ 79 (6 + run) := rfl
  have canI : (cb = true → n ≠ 1) → s.2.2 run < 0 → 0 ≤ swReady (rd σ 77) (rd σ 78) s.2.2 run (rd σ 68 31).toNat → rd σ 133 (10 * swAt cb s.1 + rd σ 77 (6 + run)) < 1000000 → swCan (rd σ 68 31) (rd σ 77) (rd σ 78) (rd σ 133) n (cb, run) s := fun h1 h2 h3 h4 => ⟨hr.1, hr.2, h1, h2, h3, h4⟩
  generalize hE : swEnds (rd σ 68 31) (rd σ 77) (rd σ 78) (rd σ 79) (rd σ 133) (cb, run) s = E at eE ⊢
  have dv : (2 * run + (if cb then 1 else 0)) / 2 = run ∧ (2 * run + (if cb then 1 else 0)) % 2 = (if cb then 1 else 0) := by cases cb <;> simp <;> omega
  cases cb
  · have p2 : rd τ 138 i / 2 = run := by rw [hp]; exact dv.1
    have p3 : rd τ 138 i % 2 = 0 := by rw [hp]; exact dv.2
    have g1 : (swGo (rd σ 68 31) (rd σ 77) (rd σ 78) (rd σ 79) (rd σ 133) (false, run) s).1.1 = rd σ 78 (6 + run) := rfl
    have g2 : (swGo (rd σ 68 31) (rd σ 77) (rd σ 78) (rd σ 79) (rd σ 133) (false, run) s).1.2 = s.1.2 := rfl
    have g3 : (swGo (rd σ 68 31) (rd σ 77) (rd σ 78) (rd σ 79) (rd σ 133) (false, run) s).2.1.1 = E := hE
    have g4 : (swGo (rd σ 68 31) (rd σ 77) (rd σ 78) (rd σ 79) (rd σ 133) (false, run) s).2.1.2 = s.2.1.2 := rfl
    have eE : E = max (s.2.1.1 + rd σ 133 (10 * s.1.1 + rd σ 77 (6 + run))) (swReady (rd σ 77) (rd σ 78) s.2.2 run (rd σ 68 31).toNat) + rd σ 79 (6 + run) := eE
    have fR : 0 ≤ rd σ 133 (10 * s.1.1 + rd σ 77 (6 + run)) ∧ rd σ 133 (10 * s.1.1 + rd σ 77 (6 + run)) ≤ 1000000 := fR
    have canI' := fun h2 h3 (h4 : rd σ 133 (10 * s.1.1 + rd σ 77 (6 + run)) < 1000000) => canI (fun z => by cases z) h2 h3 h4
    have canE : swCan (rd σ 68 31) (rd σ 77) (rd σ 78) (rd σ 133) n (false, run) s → s.2.2 run < 0 ∧ 0 ≤ swReady (rd σ 77) (rd σ 78) s.2.2 run (rd σ 68 31).toNat ∧ rd σ 133 (10 * s.1.1 + rd σ 77 (6 + run)) < 1000000 := fun z => z.2.2.2
    rw [g1, g2, g3, g4]
    refine g_X11_goesOn_0 (Q1 := fun r υ => r = some (0, swReady (rd σ 77) (rd σ 78) s.2.2 run (rd σ 68 31).toNat) ∧ υ = τ) (Q2 := fun _ _ => True) (Nat.le_refl 1) S2 i n b ?_ ?_ ?_ ?_ ?_ ?_ ?_ ?_ ?_ ?_ ?_ ?_ ?_ ?_ ?_ ?_ ?_ ?_ ?_ ?_ ?_ ?_ ?_ ?_ ?_ ?_ ?_ ?_ ?_ ?_ ?_ ?_ ?_ ?_ ?_ ?_ ?_ ?_ ?_ ?_ ?_ ?_ ?_ ?_ ?_ ?_ ?_ ?_ ?_ ?_ ?_ ?_ ?_ ?_ ?_ ?_
    all_goals sorry
  · sorry
end
