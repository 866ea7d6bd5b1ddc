/-! the reference sweeps -/
theorem ready_m1 {fr to dn : Int → Int} {run : Int} : ∀ {N : Nat}, swReady fr to dn run N < 0 → swReady fr to dn run N = -1
  | 0, h => absurd h (by show ¬ (0 : Int) < 0; decide)
  | N + 1, h => by
    have ih := @ready_m1 fr to dn run N
    rw [ready_s] at h ⊢
    by_cases c : to (6 + (N : Int)) = fr (6 + run)
    · rw [if_pos c] at h ⊢
      by_cases z : swReady fr to dn run N < 0 ∨ dn (N : Int) < 0
      · rw [if_pos z]
      · rw [if_neg z] at h; omega
    · rw [if_neg c] at h ⊢; exact ih h
def swF (σ τ : pS) : Prop := τ.1 = σ.1 ∧ ∀ a i : Int, ¬ (134 ≤ a ∧ a ≤ 140) → rd τ a i = rd σ a i
theorem swF.wr {σ τ : pS} {a i v : Int} (h : swF σ τ) (ha : 134 ≤ a ∧ a ≤ 140) : swF σ (wr τ a i v) := ⟨h.1, fun b j c => by rw [rd_wr_n (by omega)]; exact h.2 b j c⟩
/-- the row of what is done holds a state's -/
def dnR (σ : pS) (s : swS) (τ : pS) : Prop := ∀ r : Int, 0 ≤ r → r < rd σ 68 31 → rd τ 139 r = s.2.2 r
/-- where the two stand, when they are free, at a depth -/
def atR (s : swS) (i : Int) (τ : pS) : Prop := rd τ 134 i = s.1.1 ∧ rd τ 135 i = s.1.2 ∧ rd τ 136 i = s.2.1.1 ∧ rd τ 137 i = s.2.1.2
def lvF (i : Int) (τ υ : pS) : Prop := ∀ a k : Int, ((134 ≤ a ∧ a ≤ 138) ∨ a = 140) → k < i → rd υ a k = rd τ a k
theorem lvF.tr {i : Int} {σ τ υ : pS} (h : lvF i σ τ) (g : lvF i τ υ) : lvF i σ υ := fun a k ha hk => (g a k ha hk).trans (h a k ha hk)
theorem lvF.le {i j : Int} {σ τ : pS} (h : lvF i σ τ) (hj : j ≤ i) : lvF j σ τ := fun a k ha hk => h a k ha (by omega)
theorem lvF.rf {i : Int} {σ : pS} : lvF i σ σ := fun _ _ _ _ => rfl
theorem lvF.wr {i a k v : Int} {σ τ : pS} (h : lvF i σ τ) (ha : a = 139 ∨ i ≤ k) : lvF i σ (wr τ a k v) := fun b j hb hj => by rw [rd_wr_n (by omega)]; exact h b j hb hj
def goW (τ : pS) (i run e a0 a1 f0 f1 : Int) : pS := wr (wr (wr (wr (wr (wr τ 139 run e) 140 i run) 134 (i + 1) a0) 135 (i + 1) a1) 136 (i + 1) f0) 137 (i + 1) f1
theorem goW0 {τ : pS} {i run e e' a0 a1 f1 : Int} (h : e' = e) : wr (wr (wr (wr (wr (wr τ 139 run e') 140 i run) 134 (i + 1) a0) 135 (i + 1) a1) 136 (i + 1) e') 137 (i + 1) f1 = goW τ i run e a0 a1 e f1 := by subst h; rfl
theorem goW1 {τ : pS} {i run e e' a0 a1 f0 : Int} (h : e' = e) : wr (wr (wr (wr (wr (wr τ 139 run e') 140 i run) 134 (i + 1) a0) 135 (i + 1) a1) 136 (i + 1) f0) 137 (i + 1) e' = goW τ i run e a0 a1 f0 e := by subst h; rfl
section
variable {d : Nat} {σ τ : pS} {s : swS} {n : Int}
theorem readyAt_C (S : Stat σ) (L : RSlo σ) (h : swF σ τ) (hd : dnR σ s τ) (hv : ∀ r : Int, 0 ≤ r → r < rd σ 68 31 → -1 ≤ s.2.2 r ∧ s.2.2 r ≤ 1000000) {run : Int} (hr : 0 ≤ run ∧ run < rd σ 68 31) : pC mX11_readyAt d [(2, 68), (0, run)] τ (fun r υ => r = some (0, swReady (rd σ 77) (rd σ 78) s.2.2 run (rd σ 68 31).toNat) ∧ υ = τ) := by
  have S2 := S.eq h.1
  have R7 := L.2.2.2.2.2.1
  have eR : rd τ 68 31 = rd σ 68 31 := h.2 _ _ (by omega)
  have e77 : ∀ i : Int, rd τ 77 i = rd σ 77 i := fun i => h.2 _ _ (by omega)
  have e78 : ∀ i : Int, rd τ 78 i = rd σ 78 i := fun i => h.2 _ _ (by omega)
  have wy : ∀ r : Int, 0 ≤ r → r < rd σ 68 31 → wyS σ (6 + r) = true := fun r r0 r1 => by unfold wyS vWay; exact decide_eq_true (by omega)
  have en := L.ends (wy run hr.1 hr.2)
  have loop : ∀ (k i : Nat), (i : Int) + (k : Int) = rd σ 68 31 → 0 ≤ swReady (rd σ 77) (rd σ 78) s.2.2 run i → pR mX11_readyAt d 4 [(2, 68), (0, run), (0, swReady (rd σ 77) (rd σ 78) s.2.2 run i), (0, (i : Int))] [] τ (fun r υ => r = some (0, swReady (rd σ 77) (rd σ 78) s.2.2 run (rd σ 68 31).toNat) ∧ υ = τ) := by
    intro k
    induction k with
    | zero =>
      intro i hi hp
      refine g_X11_readyAt_4 (Nat.zero_le d) S2 run _ _ (by omega) (by rw [eR]; unfold inR; omega) (fun _ => ⟨by rw [show i = (rd σ 68 31).toNat by omega], rfl⟩) (fun c => by omega) (fun c => by omega) (fun c => by omega) (fun c => by omega) (fun c => by omega) (fun c => by omega) (fun c => by omega) (fun c => by omega) (fun c => by omega) (fun c => by omega) (fun c => by omega)
    | succ k ih =>
      intro i hi hp
      have ei := L.ends (wy (i : Int) (by omega) (by omega))
      have di := hd (i : Int) (by omega) (by omega)
      have vi := hv (i : Int) (by omega) (by omega)
      have rl : swReady (rd σ 77) (rd σ 78) s.2.2 run i ≤ 1000000 := ready_le (by decide) i (fun j j0 j1 => (hv j j0 (by omega)).2)
      have go : ∀ x : Int, x = swReady (rd σ 77) (rd σ 78) s.2.2 run (i + 1) → 0 ≤ x → pR mX11_readyAt d 4 [(2, 68), (0, run), (0, x), (0, (i : Int) + 1)] [] τ (fun r υ => r = some (0, swReady (rd σ 77) (rd σ 78) s.2.2 run (rd σ 68 31).toNat) ∧ υ = τ) := fun x hx h0 => by
        rw [show (i : Int) + 1 = ((i + 1 : Nat) : Int) by omega, hx]
        exact ih (i + 1) (by omega) (by rw [← hx]; exact h0)
      refine g_X11_readyAt_4 (Nat.zero_le d) S2 run _ _ (by omega) (by rw [eR]; unfold inR; omega) (fun c => by omega) (fun _ => by omega) (fun _ => by omega) (fun _ => by rw [e78]; unfold inR; omega) (fun _ => by rw [e77]; unfold inR; omega) (fun _ _ => by omega) (fun _ _ => by rw [di]; unfold inR; omega) (fun _ _ _ => by unfold inR; omega) (fun _ c3 c5 c7 => ?_) (fun _ c3 c5 c8 => ?_) (fun _ c3 c6 => ⟨?_, rfl⟩) (fun _ c4 => ?_)
      · rw [e77, e78] at c3
        rw [di] at c5 c7
        refine go _ ?_ hp
        rw [ready_s, if_pos c3, if_neg (by omega)]
        omega
      · rw [e77, e78] at c3
        rw [di] at c5 c8
        rw [di]
        refine go _ ?_ c5
        rw [ready_s, if_pos c3, if_neg (by omega)]
        omega
      · rw [e77, e78] at c3
        rw [di] at c6
        have : swReady (rd σ 77) (rd σ 78) s.2.2 run (rd σ 68 31).toNat < 0 := by
          by_cases z : 0 ≤ swReady (rd σ 77) (rd σ 78) s.2.2 run (rd σ 68 31).toNat
          · have := ready_pos.mp z i (by omega) c3
            omega
          · omega
        rw [ready_m1 this]
      · rw [e77, e78] at c4
        refine go _ ?_ hp
        rw [ready_s, if_neg c4]
  exact g_X11_readyAt_0 (Nat.zero_le d) S2 run (loop (rd σ 68 31).toNat 0 (by omega) (by show (0 : Int) ≤ 0; decide))
set_option maxHeartbeats 4000000 in
theorem goesOn_C (S : Stat σ) (L : RSlo σ) (Z : RSwp σ) (h : swF σ τ) (hd : dnR σ s τ) {i : Int} (ha : atR s i τ) (hs : swI s) (hv : ∀ r : Int, 0 ≤ r → r < rd σ 68 31 → -1 ≤ s.2.2 r ∧ s.2.2 r ≤ 1000000) (hf : s.2.1.1 ≤ 1000000 ∧ s.2.1.2 ≤ 1000000) (hn : n = 1 ∨ n = 2) {b : Int} (hb : -1 ≤ b ∧ b ≤ 1000000) (hi : 0 ≤ i ∧ i < rd σ 68 31) {cb : Bool} {run : Int} (hr : 0 ≤ run ∧ run < rd σ 68 31) (hp : rd τ 138 i = 2 * run + (if cb then 1 else 0)) : pC mX11_goesOn 1 [(2, 68), (0, i), (0, n), (0, b)] τ (fun r υ => ((swCan (rd σ 68 31) (rd σ 77) (rd σ 78) (rd σ 133) n (cb, run) s ∧ (b < 0 ∨ swEnds (rd σ 68 31) (rd σ 77) (rd σ 78) (rd σ 79) (rd σ 133) (cb, run) s < b)) ∧ r = some (0, 1) ∧ υ = goW τ i run (swEnds (rd σ 68 31) (rd σ 77) (rd σ 78) (rd σ 79) (rd σ 133) (cb, run) s) (swGo (rd σ 68 31) (rd σ 77) (rd σ 78) (rd σ 79) (rd σ 133) (cb, run) s).1.1 (swGo (rd σ 68 31) (rd σ 77) (rd σ 78) (rd σ 79) (rd σ 133) (cb, run) s).1.2 (swGo (rd σ 68 31) (rd σ 77) (rd σ 78) (rd σ 79) (rd σ 133) (cb, run) s).2.1.1 (swGo (rd σ 68 31) (rd σ 77) (rd σ 78) (rd σ 79) (rd σ 133) (cb, run) s).2.1.2) ∨ (¬ (swCan (rd σ 68 31) (rd σ 77) (rd σ 78) (rd σ 133) n (cb, run) s ∧ (b < 0 ∨ swEnds (rd σ 68 31) (rd σ 77) (rd σ 78) (rd σ 79) (rd σ 133) (cb, run) s < b)) ∧ r = some (0, 0) ∧ υ = τ)) := by
  have S2 := S.eq h.1
  have R7 := L.2.2.2.2.2.1
  have ok := sw_ok L Z
  have bo := ok.2.1 run hr.1 hr.2
  have fR := hs.farR ok (c := (cb, run)) hr
  simp only at fR
  have e77 : rd τ 77 (6 + run) = rd σ 77 (6 + run) := h.2 _ _ (by omega)
  have e78 : rd τ 78 (6 + run) = rd σ 78 (6 + run) := h.2 _ _ (by omega)
  have e79 : rd τ 79 (6 + run) = rd σ 79 (6 + run) := h.2 _ _ (by omega)
  have e133 : ∀ j : Int, rd τ 133 j = rd σ 133 j := fun j => h.2 _ _ (by omega)
  have dr := hd run hr.1 hr.2
  have vr := hv run hr.1 hr.2
  obtain ⟨a0, a1, a2, a3⟩ := ha
  obtain ⟨i1, i2, i3, i4⟩ := id hs
  have rl : swReady (rd σ 77) (rd σ 78) s.2.2 run (rd σ 68 31).toNat ≤ 1000000 := ready_le (by decide) _ (fun j j0 j1 => (hv j j0 (by omega)).2)
  have rm : swReady (rd σ 77) (rd σ 78) s.2.2 run (rd σ 68 31).toNat < 0 → swReady (rd σ 77) (rd σ 78) s.2.2 run (rd σ 68 31).toNat = -1 := ready_m1
  have R := fun {d : Nat} => readyAt_C (d := d) S L h hd hv hr
  have eE : swEnds (rd σ 68 31) (rd σ 77) (rd σ 78) (rd σ 79) (rd σ 133) (cb, run) s = max (swAt cb s.2.1 + rd σ 133 (10 * swAt cb s.1 + rd σ 77 (6 + run))) (swReady (rd σ 77) (rd σ 78) s.2.2 run (rd σ 68 31).toNat) + rd σ 79 (6 + run) := rfl
  have canI : (cb = true → n ≠ 1) → s.2.2 run < 0 → 0 ≤ swReady (rd σ 77) (rd σ 78) s.2.2 run (rd σ 68 31).toNat → rd σ 133 (10 * swAt cb s.1 + rd σ 77 (6 + run)) < 1000000 → swCan (rd σ 68 31) (rd σ 77) (rd σ 78) (rd σ 133) n (cb, run) s := fun h1 h2 h3 h4 => ⟨hr.1, hr.2, h1, h2, h3, h4⟩
  generalize hE : swEnds (rd σ 68 31) (rd σ 77) (rd σ 78) (rd σ 79) (rd σ 133) (cb, run) s = E at eE ⊢
  have dv : (2 * run + (if cb then 1 else 0)) / 2 = run ∧ (2 * run + (if cb then 1 else 0)) % 2 = (if cb then 1 else 0) := by cases cb <;> simp <;> omega
  cases cb
  · have p2 : rd τ 138 i / 2 = run := by rw [hp]; exact dv.1
    have p3 : rd τ 138 i % 2 = 0 := by rw [hp]; exact dv.2
    have g1 : (swGo (rd σ 68 31) (rd σ 77) (rd σ 78) (rd σ 79) (rd σ 133) (false, run) s).1.1 = rd σ 78 (6 + run) := rfl
    have g2 : (swGo (rd σ 68 31) (rd σ 77) (rd σ 78) (rd σ 79) (rd σ 133) (false, run) s).1.2 = s.1.2 := rfl
    have g3 : (swGo (rd σ 68 31) (rd σ 77) (rd σ 78) (rd σ 79) (rd σ 133) (false, run) s).2.1.1 = E := hE
    have g4 : (swGo (rd σ 68 31) (rd σ 77) (rd σ 78) (rd σ 79) (rd σ 133) (false, run) s).2.1.2 = s.2.1.2 := rfl
    have eE : E = max (s.2.1.1 + rd σ 133 (10 * s.1.1 + rd σ 77 (6 + run))) (swReady (rd σ 77) (rd σ 78) s.2.2 run (rd σ 68 31).toNat) + rd σ 79 (6 + run) := eE
    have fR : 0 ≤ rd σ 133 (10 * s.1.1 + rd σ 77 (6 + run)) ∧ rd σ 133 (10 * s.1.1 + rd σ 77 (6 + run)) ≤ 1000000 := fR
    have canI' := fun h2 h3 (h4 : rd σ 133 (10 * s.1.1 + rd σ 77 (6 + run)) < 1000000) => canI (fun z => by cases z) h2 h3 h4
    have canE : swCan (rd σ 68 31) (rd σ 77) (rd σ 78) (rd σ 133) n (false, run) s → s.2.2 run < 0 ∧ 0 ≤ swReady (rd σ 77) (rd σ 78) s.2.2 run (rd σ 68 31).toNat ∧ rd σ 133 (10 * s.1.1 + rd σ 77 (6 + run)) < 1000000 := fun z => z.2.2.2
    rw [g1, g2, g3, g4]
    refine g_X11_goesOn_0 (Q1 := fun r υ => r = some (0, swReady (rd σ 77) (rd σ 78) s.2.2 run (rd σ 68 31).toNat) ∧ υ = τ) (Q2 := fun _ _ => True) (Nat.le_refl 1) S2 i n b ?_ ?_ ?_ ?_ ?_ ?_ ?_ ?_ ?_ ?_ ?_ ?_ ?_ ?_ ?_ ?_ ?_ ?_ ?_ ?_ ?_ ?_ ?_ ?_ ?_ ?_ ?_ ?_ ?_ ?_ ?_ ?_ ?_ ?_ ?_ ?_ ?_ ?_ ?_ ?_ ?_ ?_ ?_ ?_ ?_ ?_ ?_ ?_ ?_ ?_ ?_ ?_ ?_ ?_ ?_
    all_goals
      intros
      try (obtain ⟨qq, q2⟩ := (by assumption : some ((0 : Nat), _) = some (0, swReady (rd σ 77) (rd σ 78) s.2.2 run (rd σ 68 31).toNat) ∧ _ = τ); subst q2; have qv := so_inj qq)
      try simp only [p2, p3, e77, e78, e79, e133, dr, a0, a1, a2, a3] at *
      first
        | omega
        | (unfold inR; omega)
        | exact R
        | exact Or.inl ⟨⟨canI' (by omega) (by omega) (by omega), by omega⟩, (by first | rfl | trivial), goW0 (by omega)⟩
        | exact Or.inr ⟨fun z => by have z1 := canE z.1; have z2 := z.2; omega, (by first | rfl | trivial), (by first | rfl | trivial)⟩
        | (exfalso; omega)
        | skip
  · have p2 : rd τ 138 i / 2 = run := by rw [hp]; exact dv.1
    have p3 : rd τ 138 i % 2 = 1 := by rw [hp]; exact dv.2
    have g1 : (swGo (rd σ 68 31) (rd σ 77) (rd σ 78) (rd σ 79) (rd σ 133) (true, run) s).1.1 = s.1.1 := rfl
    have g2 : (swGo (rd σ 68 31) (rd σ 77) (rd σ 78) (rd σ 79) (rd σ 133) (true, run) s).1.2 = rd σ 78 (6 + run) := rfl
    have g3 : (swGo (rd σ 68 31) (rd σ 77) (rd σ 78) (rd σ 79) (rd σ 133) (true, run) s).2.1.1 = s.2.1.1 := rfl
    have g4 : (swGo (rd σ 68 31) (rd σ 77) (rd σ 78) (rd σ 79) (rd σ 133) (true, run) s).2.1.2 = E := hE
    have eE : E = max (s.2.1.2 + rd σ 133 (10 * s.1.2 + rd σ 77 (6 + run))) (swReady (rd σ 77) (rd σ 78) s.2.2 run (rd σ 68 31).toNat) + rd σ 79 (6 + run) := eE
    have fR : 0 ≤ rd σ 133 (10 * s.1.2 + rd σ 77 (6 + run)) ∧ rd σ 133 (10 * s.1.2 + rd σ 77 (6 + run)) ≤ 1000000 := fR
    have canI' := fun (h1 : n ≠ 1) h2 h3 (h4 : rd σ 133 (10 * s.1.2 + rd σ 77 (6 + run)) < 1000000) => canI (fun _ => h1) h2 h3 h4
    have canE : swCan (rd σ 68 31) (rd σ 77) (rd σ 78) (rd σ 133) n (true, run) s → n ≠ 1 ∧ s.2.2 run < 0 ∧ 0 ≤ swReady (rd σ 77) (rd σ 78) s.2.2 run (rd σ 68 31).toNat ∧ rd σ 133 (10 * s.1.2 + rd σ 77 (6 + run)) < 1000000 := fun z => ⟨z.2.2.1 rfl, z.2.2.2⟩
    rw [g1, g2, g3, g4]
    refine g_X11_goesOn_0 (Q1 := fun _ _ => True) (Q2 := fun r υ => r = some (0, swReady (rd σ 77) (rd σ 78) s.2.2 run (rd σ 68 31).toNat) ∧ υ = τ) (Nat.le_refl 1) S2 i n b ?_ ?_ ?_ ?_ ?_ ?_ ?_ ?_ ?_ ?_ ?_ ?_ ?_ ?_ ?_ ?_ ?_ ?_ ?_ ?_ ?_ ?_ ?_ ?_ ?_ ?_ ?_ ?_ ?_ ?_ ?_ ?_ ?_ ?_ ?_ ?_ ?_ ?_ ?_ ?_ ?_ ?_ ?_ ?_ ?_ ?_ ?_ ?_ ?_ ?_ ?_ ?_ ?_ ?_ ?_
    all_goals
      intros
      try (obtain ⟨qq, q2⟩ := (by assumption : some ((0 : Nat), _) = some (0, swReady (rd σ 77) (rd σ 78) s.2.2 run (rd σ 68 31).toNat) ∧ _ = τ); subst q2; have qv := so_inj qq)
      try simp only [p2, p3, e77, e78, e79, e133, dr, a0, a1, a2, a3] at *
      first
        | omega
        | (unfold inR; omega)
        | exact R
        | exact Or.inl ⟨⟨canI' (by omega) (by omega) (by omega) (by omega), by omega⟩, (by first | rfl | trivial), goW1 (by omega)⟩
        | exact Or.inr ⟨fun z => by have z1 := canE z.1; have z2 := z.2; omega, (by first | rfl | trivial), (by first | rfl | trivial)⟩
        | (exfalso; omega)
        | skip
end
/-- the least so far, -1 none -/
def minB (b : Int) (S : Int → Prop) (b' : Int) : Prop := (b ≠ -1 → b' ≠ -1 ∧ b' ≤ b) ∧ (∀ v, S v → b' ≠ -1 ∧ b' ≤ v) ∧ (b' = b ∨ S b')
theorem minB.or {b b1 b2 : Int} {S T U : Int → Prop} (h1 : minB b S b1) (h2 : minB b1 T b2) (hU : ∀ v, U v ↔ S v ∨ T v) : minB b U b2 := by
  have key : ∀ x : Int, b1 ≠ -1 ∧ b1 ≤ x → b2 ≠ -1 ∧ b2 ≤ x := fun x z => by
    have := h2.1 z.1
    exact ⟨this.1, by omega⟩
  refine ⟨fun z => key b (h1.1 z), fun v hv => ?_, ?_⟩
  · rcases (hU v).mp hv with z | z
    · exact key v (h1.2.1 v z)
    · exact h2.2.1 v z
  · rcases h2.2.2 with z | z
    · rcases h1.2.2 with y | y
      · exact Or.inl (z.trans y)
      · exact Or.inr ((hU b2).mpr (Or.inl (z ▸ y)))
    · exact Or.inr ((hU b2).mpr (Or.inr z))
theorem minB.skip {b : Int} {S : Int → Prop} (h : ∀ v, S v → b ≠ -1 ∧ b ≤ v) : minB b S b := ⟨fun z => ⟨z, Int.le_refl _⟩, h, Or.inl rfl⟩
theorem minB.cg {b b' : Int} {S T : Int → Prop} (h : minB b S b') (e : ∀ v, T v ↔ S v) : minB b T b' := ⟨h.1, fun v hv => h.2.1 v ((e v).mp hv), h.2.2.imp id (fun z => (e b').mpr z)⟩
/-- the values of all completions; of those that begin so; of those whose first is one from j on -/
def Cm (σ : pS) (n : Int) (s : swS) (q : Nat) (v : Int) : Prop := ∃ cs t, cs.length = q ∧ swRun (rd σ 68 31) (rd σ 77) (rd σ 78) (rd σ 79) (rd σ 133) n cs s t ∧ v = swMax t.2.2 (rd σ 68 31).toNat
def CmD (σ : pS) (n : Int) (s : swS) (q : Nat) (c : Bool × Int) (v : Int) : Prop := swCan (rd σ 68 31) (rd σ 77) (rd σ 78) (rd σ 133) n c s ∧ Cm σ n (swGo (rd σ 68 31) (rd σ 77) (rd σ 78) (rd σ 79) (rd σ 133) c s) q v
def CmI (σ : pS) (n : Int) (s : swS) (q : Nat) (j : Int) (v : Int) : Prop := ∃ c, j ≤ 2 * c.2 + (if c.1 then 1 else 0) ∧ CmD σ n s q c v
/-- what a state of the reference's search holds -/
def swT (σ : pS) (s : swS) : Prop := swI s ∧ swV (rd σ 68 31) s ∧ swVal s ≤ 1000000 ∧ ∀ r : Int, s.2.2 r = -1 ∨ 0 ≤ s.2.2 r
theorem swT.dnv {σ : pS} {s : swS} (h : swT σ s) : ∀ r : Int, 0 ≤ r → r < rd σ 68 31 → -1 ≤ s.2.2 r ∧ s.2.2 r ≤ 1000000 := fun r r0 r1 => by
  have a := h.2.1.2.2 r r0 r1
  have b := h.2.2.2 r
  have c := h.2.2.1
  omega
theorem swT.go {σ : pS} (L : RSlo σ) (Z : RSwp σ) {n : Int} {s : swS} (h : swT σ s) {c : Bool × Int} (hc : swCan (rd σ 68 31) (rd σ 77) (rd σ 78) (rd σ 133) n c s) (hE : swEnds (rd σ 68 31) (rd σ 77) (rd σ 78) (rd σ 79) (rd σ 133) c s ≤ 1000000) : swT σ (swGo (rd σ 68 31) (rd σ 77) (rd σ 78) (rd σ 79) (rd σ 133) c s) := by
  have ok := sw_ok L Z
  have rc := h.1.stR ok (c := c) ⟨hc.1, hc.2.1⟩
  have tc := ok.2.1 c.2 hc.1 hc.2.1
  have e : swEnds (rd σ 68 31) (rd σ 77) (rd σ 78) (rd σ 79) (rd σ 133) c s = swSt (rd σ 68 31) (rd σ 77) (rd σ 78) (rd σ 133) c s + rd σ 79 (6 + c.2) := rfl
  refine ⟨h.1.go ok ⟨hc.1, hc.2.1⟩, h.2.1.go ok h.1 hc, ?_, fun r => ?_⟩
  · have v := h.2.2.1
    unfold swVal at v ⊢
    obtain ⟨cb, cr⟩ := c
    cases cb
    · show max (swEnds (rd σ 68 31) (rd σ 77) (rd σ 78) (rd σ 79) (rd σ 133) (false, cr) s) s.2.1.2 ≤ _
      omega
    · show max s.2.1.1 (swEnds (rd σ 68 31) (rd σ 77) (rd σ 78) (rd σ 79) (rd σ 133) (true, cr) s) ≤ _
      omega
  · rw [go_dn]
    split
    · right; omega
    · exact h.2.2.2 r
theorem CmD_ge {σ : pS} (L : RSlo σ) (Z : RSwp σ) {n : Int} {s : swS} (h : swT σ s) {q : Nat} {c : Bool × Int} {v : Int} (hD : CmD σ n s q c v) : swEnds (rd σ 68 31) (rd σ 77) (rd σ 78) (rd σ 79) (rd σ 133) c s ≤ v := by
  have ok := sw_ok L Z
  have R7 := L.2.2.2.2.2.1
  obtain ⟨hc, cs, t, l, hr, e⟩ := hD
  have g := run_grow ok (h.1.go ok ⟨hc.1, hc.2.1⟩) hr
  rw [e, swV_max R7.1 g.1 (g.2.2.2.2.2.2 (h.2.1.go ok h.1 hc))]
  unfold swVal
  obtain ⟨cb, cr⟩ := c
  cases cb
  · have a1 : (swGo (rd σ 68 31) (rd σ 77) (rd σ 78) (rd σ 79) (rd σ 133) (false, cr) s).2.1.1 = swEnds (rd σ 68 31) (rd σ 77) (rd σ 78) (rd σ 79) (rd σ 133) (false, cr) s := rfl
    omega
  · have a2 : (swGo (rd σ 68 31) (rd σ 77) (rd σ 78) (rd σ 79) (rd σ 133) (true, cr) s).2.1.2 = swEnds (rd σ 68 31) (rd σ 77) (rd σ 78) (rd σ 79) (rd σ 133) (true, cr) s := rfl
    omega
/-- at the loop's head: a depth, its state, the candidates from j on still to try -/
def hdI (σ : pS) (s : swS) (i j : Int) (τ : pS) : Prop := swF σ τ ∧ atR s i τ ∧ rd τ 138 i = j - 1 ∧ (1 ≤ j → -1 ≤ rd τ 140 i ∧ rd τ 140 i < rd σ 68 31) ∧ (∀ r : Int, 0 ≤ r → r < rd σ 68 31 → (j = 0 ∨ r ≠ rd τ 140 i) → rd τ 139 r = s.2.2 r) ∧ (1 ≤ j → 0 ≤ rd τ 140 i → s.2.2 (rd τ 140 i) = -1)
theorem goW_at {τ : pS} {i run e a0 a1 f0 f1 : Int} : rd (goW τ i run e a0 a1 f0 f1) 139 run = e ∧ (∀ r : Int, r ≠ run → rd (goW τ i run e a0 a1 f0 f1) 139 r = rd τ 139 r) ∧ rd (goW τ i run e a0 a1 f0 f1) 140 i = run ∧ (∀ k : Int, rd (goW τ i run e a0 a1 f0 f1) 138 k = rd τ 138 k) ∧ (rd (goW τ i run e a0 a1 f0 f1) 134 (i + 1) = a0 ∧ rd (goW τ i run e a0 a1 f0 f1) 135 (i + 1) = a1 ∧ rd (goW τ i run e a0 a1 f0 f1) 136 (i + 1) = f0 ∧ rd (goW τ i run e a0 a1 f0 f1) 137 (i + 1) = f1) ∧ (∀ a k : Int, 134 ≤ a → a ≤ 137 → k ≠ i + 1 → rd (goW τ i run e a0 a1 f0 f1) a k = rd τ a k) ∧ ∀ k : Int, k ≠ i → rd (goW τ i run e a0 a1 f0 f1) 140 k = rd τ 140 k := by
  unfold goW
  refine ⟨?_, fun r hr => ?_, ?_, fun k => ?_, ⟨?_, ?_, ?_, ?_⟩, fun a k h1 h2 h3 => ?_, fun k hk => ?_⟩
  · rw [rd_wr_n (by omega), rd_wr_n (by omega), rd_wr_n (by omega), rd_wr_n (by omega), rd_wr_n (by omega), rd_wr_same]
  · rw [rd_wr_n (by omega), rd_wr_n (by omega), rd_wr_n (by omega), rd_wr_n (by omega), rd_wr_n (by omega), rd_wr_n (by omega)]
  · rw [rd_wr_n (by omega), rd_wr_n (by omega), rd_wr_n (by omega), rd_wr_n (by omega), rd_wr_same]
  · rw [rd_wr_n (by omega), rd_wr_n (by omega), rd_wr_n (by omega), rd_wr_n (by omega), rd_wr_n (by omega), rd_wr_n (by omega)]
  · rw [rd_wr_n (by omega), rd_wr_n (by omega), rd_wr_n (by omega), rd_wr_same]
  · rw [rd_wr_n (by omega), rd_wr_n (by omega), rd_wr_same]
  · rw [rd_wr_n (by omega), rd_wr_same]
  · rw [rd_wr_same]
  · rw [rd_wr_n (by omega), rd_wr_n (by omega), rd_wr_n (by omega), rd_wr_n (by omega), rd_wr_n (by omega), rd_wr_n (by omega)]
  · rw [rd_wr_n (by omega), rd_wr_n (by omega), rd_wr_n (by omega), rd_wr_n (by omega), rd_wr_n (by omega), rd_wr_n (by omega)]
/-- the end of all runs -/
theorem sw_211 {d : Nat} {σ τ : pS} (hd : 2 ≤ d) (S : Stat σ) (L : RSlo σ) {Q : Option pV → pS → Prop} (h : swF σ τ) {s : swS} (hr : dnR σ s τ) (hv : ∀ r : Int, 0 ≤ r → r < rd σ 68 31 → -1 ≤ s.2.2 r ∧ s.2.2 r ≤ 1000000) {x1 x2 x3 b : Int} (hb : -1 ≤ b ∧ b ≤ 1000000)
    (K : ∀ (b' x5 x6 : Int), minB b (fun v => v = swMax s.2.2 (rd σ 68 31).toNat) b' → (-1 ≤ b' ∧ b' ≤ 1000000) → pR mX11_sweep d 89 [(2, 68), (0, x1), (0, x2), (0, x3), (0, b'), (0, x5), (0, x6)] [] τ Q) :
    ∀ (k i : Nat), (i : Int) + (k : Int) = rd σ 68 31 → pR mX11_sweep d 211 [(2, 68), (0, x1), (0, x2), (0, x3), (0, b), (0, swMax s.2.2 i), (0, (i : Int))] [] τ Q := by
  have S2 := S.eq h.1
  have R7 := L.2.2.2.2.2.1
  have eR : rd τ 68 31 = rd σ 68 31 := h.2 _ _ (by omega)
  have mR : ∀ i : Nat, (i : Int) ≤ rd σ 68 31 → 0 ≤ swMax s.2.2 i ∧ swMax s.2.2 i ≤ 1000000 := fun i hi => ⟨(swMax_ge i).1, swMax_le (by decide) i (fun j j0 j1 => (hv j j0 (by omega)).2)⟩
  intro k
  induction k with
  | zero =>
    intro i hi
    have e : i = (rd σ 68 31).toNat := by omega
    have m := mR i (by omega)
    rw [e] at m ⊢
    refine g_X11_sweep_211 hd S2 x1 x2 x3 b _ _ (by omega) (by rw [eR]; unfold inR; omega) (fun _ => by unfold inR; omega) (fun _ c3 => K _ _ _ ⟨fun z => by omega, fun v hv => by omega, Or.inr rfl⟩ (by omega)) (fun _ _ => by unfold inR; omega) (fun _ c4 c5 => K _ _ _ ⟨fun z => ⟨z, Int.le_refl _⟩, fun v hv => by omega, Or.inl rfl⟩ hb) (fun _ c4 c6 => K _ _ _ ⟨fun z => by omega, fun v hv => by omega, Or.inr rfl⟩ (by omega)) (fun c => by omega) (fun c => by omega) (fun c => by omega) (fun c => by omega) (fun c => by omega)
  | succ k ih =>
    intro i hi
    have m := mR i (by omega)
    have di := hr (i : Int) (by omega) (by omega)
    have vi := hv (i : Int) (by omega) (by omega)
    have go : ∀ x : Int, x = max (swMax s.2.2 i) (s.2.2 (i : Int)) → pR mX11_sweep d 211 [(2, 68), (0, x1), (0, x2), (0, x3), (0, b), (0, x), (0, (i : Int) + 1)] [] τ Q := fun x hx => by
      rw [show (i : Int) + 1 = ((i + 1 : Nat) : Int) by omega, hx]
      exact ih (i + 1) (by omega)
    refine g_X11_sweep_211 hd S2 x1 x2 x3 b _ _ (by omega) (by rw [eR]; unfold inR; omega) (fun c => by omega) (fun c => by omega) (fun c => by omega) (fun c => by omega) (fun c => by omega) (fun _ => by omega) (fun _ => by rw [di]; unfold inR; omega) (fun _ => by unfold inR; omega) (fun _ c => go _ (by rw [di] at c; omega)) (fun _ c => go _ (by rw [di] at c ⊢; omega))
theorem idx_of {R j : Int} (hj : 0 ≤ j ∧ j < 2 * R) : 0 ≤ j / 2 ∧ j / 2 < R ∧ j = 2 * (j / 2) + (if decide (j % 2 = 1) then 1 else 0) ∧ ∀ c : Bool × Int, 2 * c.2 + (if c.1 then 1 else 0) = j → c = (decide (j % 2 = 1), j / 2) := by
  refine ⟨by omega, by omega, ?_, fun c hc => ?_⟩
  · by_cases e : j % 2 = 1
    · rw [decide_eq_true e]; simp; omega
    · rw [decide_eq_false e]; simp; omega
  · obtain ⟨cb, cr⟩ := c
    cases cb
    · have hc : 2 * cr + 0 = j := hc
      rw [decide_eq_false (by omega), show j / 2 = cr by omega]
    · have hc : 2 * cr + 1 = j := hc
      rw [decide_eq_true (by omega), show j / 2 = cr by omega]
theorem CmI_s {σ : pS} {n : Int} {s : swS} {q : Nat} {j : Int} (hj : 0 ≤ j ∧ j < 2 * rd σ 68 31) (v : Int) : CmI σ n s q j v ↔ CmD σ n s q (decide (j % 2 = 1), j / 2) v ∨ CmI σ n s q (j + 1) v := by
  obtain ⟨h1, h2, h3, h4⟩ := idx_of hj
  constructor
  · rintro ⟨c, ci, hD⟩
    by_cases e : 2 * c.2 + (if c.1 then 1 else 0) = j
    · rw [← h4 c e]; exact Or.inl hD
    · exact Or.inr ⟨c, by omega, hD⟩
  · rintro (hD | ⟨c, ci, hD⟩)
    · exact ⟨_, by rw [← h3]; exact Int.le_refl _, hD⟩
    · exact ⟨c, by omega, hD⟩
theorem CmI_e {σ : pS} {n : Int} {s : swS} {q : Nat} {j : Int} (hj : 2 * rd σ 68 31 ≤ j) (v : Int) : ¬ CmI σ n s q j v := by
  rintro ⟨c, ci, hD⟩
  have := hD.1.2.1
  split at ci <;> omega
theorem CmI_0 {σ : pS} {n : Int} {s : swS} {q : Nat} (v : Int) : CmI σ n s q 0 v ↔ Cm σ n s (q + 1) v := by
  constructor
  · rintro ⟨c, ci, hc, cs, t, l, hr, e⟩
    exact ⟨c :: cs, t, by simp [l], ⟨hc, hr⟩, e⟩
  · rintro ⟨cs, t, l, hr, e⟩
    match cs, l, hr with
    | c :: cs, l, hr => exact ⟨c, by have := hr.1.1; split <;> omega, hr.1, cs, t, by simpa using l, hr.2, e⟩
theorem lvl_step {d : Nat} {σ : pS} (hd : 2 ≤ d) (S : Stat σ) (L : RSlo σ) (Z : RSwp σ) {Q : Option pV → pS → Prop} {n x1 : Int} (hn : n = 1 ∨ n = 2) (q : Nat) (i : Int) (s : swS) (hi : i + ((q + 1 : Nat) : Int) = rd σ 68 31) (hi0 : 0 ≤ i) (hs : swT σ s) (hB : swVal s ≤ 70060 * i) (τ0 : pS)
    (F : ∀ (j b : Int) (c : Bool × Int) (τ : pS) (u5 u6 : pV), u5.1 ≠ 1 → u6.1 ≠ 1 → swCan (rd σ 68 31) (rd σ 77) (rd σ 78) (rd σ 133) n c s → (-1 ≤ b ∧ b ≤ 1000000) → swEnds (rd σ 68 31) (rd σ 77) (rd σ 78) (rd σ 79) (rd σ 133) c s ≤ 70060 * (i + 1) → swF σ τ → dnR σ (swGo (rd σ 68 31) (rd σ 77) (rd σ 78) (rd σ 79) (rd σ 133) c s) τ → atR (swGo (rd σ 68 31) (rd σ 77) (rd σ 78) (rd σ 79) (rd σ 133) c s) (i + 1) τ → atR s i τ → rd τ 138 i = j → rd τ 140 i = c.2 → 0 ≤ j → lvF i τ0 τ →
      (∀ (υ : pS) (b' : Int) (u5 u6 : pV), u5.1 ≠ 1 → u6.1 ≠ 1 → hdI σ s i (j + 1) υ → lvF i τ0 υ → minB b (CmD σ n s q c) b' → (-1 ≤ b' ∧ b' ≤ 1000000) → pR mX11_sweep d 89 [(2, 68), (0, x1), (0, n), (0, i), (0, b'), u5, u6] [] υ Q) →
      (rd σ 68 31 ≤ i + 1 → pR mX11_sweep d 211 [(2, 68), (0, x1), (0, n), (0, i), (0, b), (0, 0), (0, 0)] [] τ Q) ∧ (i + 1 < rd σ 68 31 → pR mX11_sweep d 89 [(2, 68), (0, x1), (0, n), (0, i + 1), (0, b), u5, u6] [] (wr (wr τ 138 (i + 1) (-1)) 140 (i + 1) (-1)) Q)) :
    ∀ (k : Nat) (j b : Int) (τ : pS) (u5 u6 : pV), j + (k : Int) = 2 * rd σ 68 31 → 0 ≤ j → (-1 ≤ b ∧ b ≤ 1000000) → u5.1 ≠ 1 → u6.1 ≠ 1 → hdI σ s i j τ → lvF i τ0 τ →
    (∀ (υ : pS) (b' : Int) (u5 u6 : pV), u5.1 ≠ 1 → u6.1 ≠ 1 → swF σ υ → lvF i τ0 υ → dnR σ s υ → minB b (CmI σ n s q j) b' → (-1 ≤ b' ∧ b' ≤ 1000000) → pR mX11_sweep d 89 [(2, 68), (0, x1), (0, n), (0, i - 1), (0, b'), u5, u6] [] υ Q) → pR mX11_sweep d 89 [(2, 68), (0, x1), (0, n), (0, i), (0, b), u5, u6] [] τ Q := by
  have ok := sw_ok L Z
  have R7 := L.2.2.2.2.2.1
  intro k
  induction k with
  | zero =>
    intro j b τ u5 u6 hk hj hb h5 h6 H lv K
    have at123 : ∀ υ : pS, swF σ υ → rd υ 138 i = j - 1 → dnR σ s υ → lvF i τ0 υ → pR mX11_sweep d 123 [(2, 68), (0, x1), (0, n), (0, i), (0, b), u5, u6] [] υ Q := fun υ f p dr lv => by
      have eR : rd υ 68 31 = rd σ 68 31 := f.2 _ _ (by omega)
      refine g_X11_sweep_123 (Q1 := fun _ _ => True) hd (S.eq f.1) x1 n i b u5 u6 h5 h6 (by omega) (by rw [p]; unfold inR; omega) (by rw [eR]; unfold inR; omega) (fun c => by rw [p, eR] at c; omega) (fun c => by rw [p, eR] at c; omega) (fun c => by rw [p, eR] at c; omega) (fun c => by rw [p, eR] at c; omega) (fun c => by rw [p, eR] at c; omega) (fun c => by rw [p, eR] at c; omega) (fun c => by rw [p, eR] at c; omega) (fun c => by rw [p, eR] at c; omega) (fun c => ?_)
      rw [show i + (-1) = i - 1 by omega]
      exact K _ b u5 u6 h5 h6 ((f.wr (by omega)).wr (by omega)) ((lv.wr (by omega)).wr (by omega)) (fun r r0 r1 => by rw [rd_wr_n (by omega), rd_wr_n (by omega)]; exact dr r r0 r1) (minB.skip (fun v hv => absurd hv (CmI_e (by omega) v))) hb
    obtain ⟨f, at', p, o1, dr, oo⟩ := H
    refine g_X11_sweep_89 hd (S.eq f.1) x1 n i b u5 u6 h5 h6 (by omega) (fun c => by omega) (fun _ => by omega) (fun _ => by rw [p]; unfold inR; omega) (fun _ c3 => at123 τ f p (fun r r0 r1 => dr r r0 r1 (Or.inl (by rw [p] at c3; omega))) lv) (fun _ c4 => by rw [p] at c4; have := o1 (by omega); unfold inR; omega) (fun _ _ c5 => at123 τ f p (fun r r0 r1 => dr r r0 r1 (Or.inr (by omega))) lv) (fun _ c4 _ => by rw [p] at c4; have := o1 (by omega); omega) (fun _ c4 c6 => at123 _ (f.wr (by omega)) (by rw [rd_wr_n (by omega)]; exact p) (fun r r0 r1 => ?_) (lv.wr (by omega)))
    · by_cases z : r = rd τ 140 i
      · rw [z, rd_wr_same]; rw [p] at c4; exact (oo (by omega) c6).symm
      · rw [rd_wr_i _ z]; exact dr r r0 r1 (Or.inr z)
  | succ k ih =>
    intro j b τ u5 u6 hk hj hb h5 h6 H lv K
    obtain ⟨x1', x2', x3', x4'⟩ := idx_of (R := rd σ 68 31) (j := j) (by omega)
    generalize hc1 : decide (j % 2 = 1) = cb at x3' x4'
    generalize hc2 : j / 2 = run at x1' x2' x3' x4'
    have stp := fun v => CmI_s (σ := σ) (n := n) (s := s) (q := q) (j := j) (by omega) v
    rw [hc1, hc2] at stp
    have next : ∀ (υ : pS) (b1 : Int) (u5 u6 : pV), u5.1 ≠ 1 → u6.1 ≠ 1 → hdI σ s i (j + 1) υ → lvF i τ0 υ → minB b (CmD σ n s q (cb, run)) b1 → (-1 ≤ b1 ∧ b1 ≤ 1000000) → pR mX11_sweep d 89 [(2, 68), (0, x1), (0, n), (0, i), (0, b1), u5, u6] [] υ Q := fun υ b1 u5 u6 h5 h6 hh lv1 m1 r1 =>
      ih (j + 1) b1 υ u5 u6 (by omega) (by omega) r1 h5 h6 hh lv1 (fun ω b2 v5 v6 g5 g6 fo lo dro m2 r2 => K ω b2 v5 v6 g5 g6 fo lo dro (m1.or m2 stp) r2)
    have at123 : ∀ υ : pS, swF σ υ → atR s i υ → rd υ 138 i = j - 1 → dnR σ s υ → lvF i τ0 υ → pR mX11_sweep d 123 [(2, 68), (0, x1), (0, n), (0, i), (0, b), u5, u6] [] υ Q := fun υ f at' p dr lv => by
      have eR : rd υ 68 31 = rd σ 68 31 := f.2 _ _ (by omega)
      have fb : swF σ (wr (wr υ 140 i (-1)) 138 i (rd υ 138 i + 1)) := (f.wr (by omega)).wr (by omega)
      have ab : atR s i (wr (wr υ 140 i (-1)) 138 i (rd υ 138 i + 1)) := by
        obtain ⟨a0, a1, a2, a3⟩ := at'
        refine ⟨?_, ?_, ?_, ?_⟩ <;> rw [rd_wr_n (by omega), rd_wr_n (by omega)] <;> assumption
      have db : dnR σ s (wr (wr υ 140 i (-1)) 138 i (rd υ 138 i + 1)) := fun r r0 r1 => by rw [rd_wr_n (by omega), rd_wr_n (by omega)]; exact dr r r0 r1
      have pb : rd (wr (wr υ 140 i (-1)) 138 i (rd υ 138 i + 1)) 138 i = j := by rw [rd_wr_same, p]; omega
      have ob : rd (wr (wr υ 140 i (-1)) 138 i (rd υ 138 i + 1)) 140 i = -1 := by rw [rd_wr_n (by omega), rd_wr_same]
      have lb : lvF i τ0 (wr (wr υ 140 i (-1)) 138 i (rd υ 138 i + 1)) := (lv.wr (by omega)).wr (by omega)
      generalize hβ : wr (wr υ 140 i (-1)) 138 i (rd υ 138 i + 1) = β at fb ab db pb ob lb
      have vv := hs.2.2.1
      have i3 := hs.1.2.2
      have G := goesOn_C (n := n) (cb := cb) S L Z fb db ab hs.1 hs.dnv (by unfold swVal at vv; omega) hn hb (by omega) ⟨x1', x2'⟩ (by rw [pb]; exact x3')
      have fB : b < 0 ∨ 0 ≤ b := by omega
      have hE1 : swCan (rd σ 68 31) (rd σ 77) (rd σ 78) (rd σ 133) n (cb, run) s → swEnds (rd σ 68 31) (rd σ 77) (rd σ 78) (rd σ 79) (rd σ 133) (cb, run) s ≤ 70060 * (i + 1) := fun hc => by
        have st := hs.1.st cb
        have bo := ok.2.1 run x1' x2'
        have fa := Z.2.1 (10 * swAt cb s.1 + rd σ 77 (6 + run)) (by omega) (by omega)
        have ff := hc.2.2.2.2.2
        have a2 : swReady (rd σ 77) (rd σ 78) s.2.2 run (rd σ 68 31).toNat ≤ swVal s := ready_le (by unfold swVal; omega) _ (fun r r0 r1 => hs.2.1.2.2 r r0 (by omega))
        have a3 : swAt cb s.2.1 ≤ swVal s := by unfold swVal; cases cb <;> simp only [swAt, if_true, if_false] <;> first | omega | (simp; omega)
        rw [swEnds_eq]
        unfold swSt
        simp only at ff ⊢
        omega
      have tail : ∀ ω : pS, swCan (rd σ 68 31) (rd σ 77) (rd σ 78) (rd σ 133) n (cb, run) s → swEnds (rd σ 68 31) (rd σ 77) (rd σ 78) (rd σ 79) (rd σ 133) (cb, run) s ≤ 70060 * (i + 1) → ω = goW β i run (swEnds (rd σ 68 31) (rd σ 77) (rd σ 78) (rd σ 79) (rd σ 133) (cb, run) s) (swGo (rd σ 68 31) (rd σ 77) (rd σ 78) (rd σ 79) (rd σ 133) (cb, run) s).1.1 (swGo (rd σ 68 31) (rd σ 77) (rd σ 78) (rd σ 79) (rd σ 133) (cb, run) s).1.2 (swGo (rd σ 68 31) (rd σ 77) (rd σ 78) (rd σ 79) (rd σ 133) (cb, run) s).2.1.1 (swGo (rd σ 68 31) (rd σ 77) (rd σ 78) (rd σ 79) (rd σ 133) (cb, run) s).2.1.2 → (rd σ 68 31 ≤ i + 1 → pR mX11_sweep d 211 [(2, 68), (0, x1), (0, n), (0, i), (0, b), (0, 0), (0, 0)] [] ω Q) ∧ (i + 1 < rd σ 68 31 → pR mX11_sweep d 89 [(2, 68), (0, x1), (0, n), (0, i + 1), (0, b), u5, u6] [] (wr (wr ω 138 (i + 1) (-1)) 140 (i + 1) (-1)) Q) := fun ω hc hE hω => by
        obtain ⟨g1, g2, g3, g4, g5, g6, g7⟩ := goW_at (τ := β) (i := i) (run := run) (e := swEnds (rd σ 68 31) (rd σ 77) (rd σ 78) (rd σ 79) (rd σ 133) (cb, run) s) (a0 := (swGo (rd σ 68 31) (rd σ 77) (rd σ 78) (rd σ 79) (rd σ 133) (cb, run) s).1.1) (a1 := (swGo (rd σ 68 31) (rd σ 77) (rd σ 78) (rd σ 79) (rd σ 133) (cb, run) s).1.2) (f0 := (swGo (rd σ 68 31) (rd σ 77) (rd σ 78) (rd σ 79) (rd σ 133) (cb, run) s).2.1.1) (f1 := (swGo (rd σ 68 31) (rd σ 77) (rd σ 78) (rd σ 79) (rd σ 133) (cb, run) s).2.1.2)
        rw [← hω] at g1 g2 g3 g4 g5 g6 g7
        refine F j b (cb, run) ω u5 u6 h5 h6 hc hb hE ?_ (fun r r0 r1 => ?_) g5 ?_ ((g4 i).trans pb) g3 hj ?_ (fun υ' b' v5 v6 w5 w6 hh ll mm rr => next υ' b' v5 v6 w5 w6 hh ll mm rr)
        · rw [hω]
          exact (((((fb.wr (by omega)).wr (by omega)).wr (by omega)).wr (by omega)).wr (by omega)).wr (by omega)
        · rw [go_dn]
          by_cases z : r = run
          · rw [if_pos z, z]; exact g1
          · rw [if_neg z, g2 r z]; exact db r r0 r1
        · obtain ⟨a0, a1, a2, a3⟩ := ab
          refine ⟨?_, ?_, ?_, ?_⟩ <;> rw [g6 _ _ (by omega) (by omega) (by omega)] <;> assumption
        · rw [hω]
          exact (((((lb.wr (by omega)).wr (by omega)).wr (by omega)).wr (by omega)).wr (by omega)).wr (by omega)
      refine g_X11_sweep_123 (Q1 := fun r ω => ((swCan (rd σ 68 31) (rd σ 77) (rd σ 78) (rd σ 133) n (cb, run) s ∧ (b < 0 ∨ swEnds (rd σ 68 31) (rd σ 77) (rd σ 78) (rd σ 79) (rd σ 133) (cb, run) s < b)) ∧ r = some (0, 1) ∧ ω = goW β i run (swEnds (rd σ 68 31) (rd σ 77) (rd σ 78) (rd σ 79) (rd σ 133) (cb, run) s) (swGo (rd σ 68 31) (rd σ 77) (rd σ 78) (rd σ 79) (rd σ 133) (cb, run) s).1.1 (swGo (rd σ 68 31) (rd σ 77) (rd σ 78) (rd σ 79) (rd σ 133) (cb, run) s).1.2 (swGo (rd σ 68 31) (rd σ 77) (rd σ 78) (rd σ 79) (rd σ 133) (cb, run) s).2.1.1 (swGo (rd σ 68 31) (rd σ 77) (rd σ 78) (rd σ 79) (rd σ 133) (cb, run) s).2.1.2) ∨ (¬ (swCan (rd σ 68 31) (rd σ 77) (rd σ 78) (rd σ 133) n (cb, run) s ∧ (b < 0 ∨ swEnds (rd σ 68 31) (rd σ 77) (rd σ 78) (rd σ 79) (rd σ 133) (cb, run) s < b)) ∧ r = some (0, 0) ∧ ω = β)) hd (S.eq f.1) x1 n i b u5 u6 h5 h6 (by omega) (by rw [p]; unfold inR; omega) (by rw [eR]; unfold inR; omega) (fun _ => by rw [hβ]; exact G) (fun _ v bb ω e z => by omega) (fun _ v bb ω e z c => by unfold inR; omega) (fun _ v bb ω e z c => ?_) (fun _ v bb ω e z c c5 => ?_) (fun _ v bb ω e z c c6 => by omega) (fun _ v bb ω e z c c6 => ?_) (fun _ v bb ω e z c => ?_) (fun c => by rw [p, eR] at c; omega)
      · rcases z with ⟨z1, z2, z3⟩ | ⟨z1, z2, z3⟩
        · rw [z3, show rd (goW β i run (swEnds (rd σ 68 31) (rd σ 77) (rd σ 78) (rd σ 79) (rd σ 133) (cb, run) s) (swGo (rd σ 68 31) (rd σ 77) (rd σ 78) (rd σ 79) (rd σ 133) (cb, run) s).1.1 (swGo (rd σ 68 31) (rd σ 77) (rd σ 78) (rd σ 79) (rd σ 133) (cb, run) s).1.2 (swGo (rd σ 68 31) (rd σ 77) (rd σ 78) (rd σ 79) (rd σ 133) (cb, run) s).2.1.1 (swGo (rd σ 68 31) (rd σ 77) (rd σ 78) (rd σ 79) (rd σ 133) (cb, run) s).2.1.2) 68 31 = rd β 68 31 by unfold goW; rw [rd_wr_n (by omega), rd_wr_n (by omega), rd_wr_n (by omega), rd_wr_n (by omega), rd_wr_n (by omega), rd_wr_n (by omega)], fb.2 _ _ (by omega)]
          unfold inR; omega
        · exact absurd (so_inj z2) c
      · rcases z with ⟨z1, z2, z3⟩ | ⟨z1, z2, z3⟩
        · have e31 : rd ω 68 31 = rd σ 68 31 := by rw [z3, show rd (goW β i run (swEnds (rd σ 68 31) (rd σ 77) (rd σ 78) (rd σ 79) (rd σ 133) (cb, run) s) (swGo (rd σ 68 31) (rd σ 77) (rd σ 78) (rd σ 79) (rd σ 133) (cb, run) s).1.1 (swGo (rd σ 68 31) (rd σ 77) (rd σ 78) (rd σ 79) (rd σ 133) (cb, run) s).1.2 (swGo (rd σ 68 31) (rd σ 77) (rd σ 78) (rd σ 79) (rd σ 133) (cb, run) s).2.1.1 (swGo (rd σ 68 31) (rd σ 77) (rd σ 78) (rd σ 79) (rd σ 133) (cb, run) s).2.1.2) 68 31 = rd β 68 31 by unfold goW; rw [rd_wr_n (by omega), rd_wr_n (by omega), rd_wr_n (by omega), rd_wr_n (by omega), rd_wr_n (by omega), rd_wr_n (by omega)], fb.2 _ _ (by omega)]
          rw [e31] at c5
          exact (tail ω z1.1 (hE1 z1.1) z3).1 c5
        · exact absurd (so_inj z2) c
      · rcases z with ⟨z1, z2, z3⟩ | ⟨z1, z2, z3⟩
        · have e31 : rd ω 68 31 = rd σ 68 31 := by rw [z3, show rd (goW β i run (swEnds (rd σ 68 31) (rd σ 77) (rd σ 78) (rd σ 79) (rd σ 133) (cb, run) s) (swGo (rd σ 68 31) (rd σ 77) (rd σ 78) (rd σ 79) (rd σ 133) (cb, run) s).1.1 (swGo (rd σ 68 31) (rd σ 77) (rd σ 78) (rd σ 79) (rd σ 133) (cb, run) s).1.2 (swGo (rd σ 68 31) (rd σ 77) (rd σ 78) (rd σ 79) (rd σ 133) (cb, run) s).2.1.1 (swGo (rd σ 68 31) (rd σ 77) (rd σ 78) (rd σ 79) (rd σ 133) (cb, run) s).2.1.2) 68 31 = rd β 68 31 by unfold goW; rw [rd_wr_n (by omega), rd_wr_n (by omega), rd_wr_n (by omega), rd_wr_n (by omega), rd_wr_n (by omega), rd_wr_n (by omega)], fb.2 _ _ (by omega)]
          rw [e31] at c6
          exact (tail ω z1.1 (hE1 z1.1) z3).2 c6
        · exact absurd (so_inj z2) c
      · rcases z with ⟨z1, z2, z3⟩ | ⟨z1, z2, z3⟩
        · have := so_inj z2; omega
        · subst z3
          refine next ω b u5 u6 h5 h6 ⟨fb, ab, by omega, fun _ => by omega, fun r r0 r1 _ => db r r0 r1, fun _ z => by omega⟩ lb (minB.skip (fun v' hD => ?_)) hb
          have ge := CmD_ge L Z hs hD
          have : ¬ (b < 0 ∨ swEnds (rd σ 68 31) (rd σ 77) (rd σ 78) (rd σ 79) (rd σ 133) (cb, run) s < b) := fun z => z1 ⟨hD.1, z⟩
          omega
    obtain ⟨f, at', p, o1, dr, oo⟩ := H
    refine g_X11_sweep_89 hd (S.eq f.1) x1 n i b u5 u6 h5 h6 (by omega) (fun c => by omega) (fun _ => by omega) (fun _ => by rw [p]; unfold inR; omega) (fun _ c3 => at123 τ f at' p (fun r r0 r1 => dr r r0 r1 (Or.inl (by rw [p] at c3; omega))) lv) (fun _ c4 => by rw [p] at c4; have := o1 (by omega); unfold inR; omega) (fun _ _ c5 => at123 τ f at' p (fun r r0 r1 => dr r r0 r1 (Or.inr (by omega))) lv) (fun _ c4 _ => by rw [p] at c4; have := o1 (by omega); omega) (fun _ c4 c6 => at123 _ (f.wr (by omega)) ?_ (by rw [rd_wr_n (by omega)]; exact p) (fun r r0 r1 => ?_) (lv.wr (by omega)))
    · obtain ⟨a0, a1, a2, a3⟩ := at'
      refine ⟨?_, ?_, ?_, ?_⟩ <;> rw [rd_wr_n (by omega)] <;> assumption
    · by_cases z : r = rd τ 140 i
      · rw [z, rd_wr_same]; rw [p] at c4; exact (oo (by omega) c6).symm
      · rw [rd_wr_i _ z]; exact dr r r0 r1 (Or.inr z)
theorem lvl_C {d : Nat} {σ : pS} (hd : 2 ≤ d) (S : Stat σ) (L : RSlo σ) (Z : RSwp σ) {Q : Option pV → pS → Prop} {n x1 : Int} (hn : n = 1 ∨ n = 2) : ∀ (q : Nat) (i : Int) (s : swS), i + ((q + 1 : Nat) : Int) = rd σ 68 31 → 0 ≤ i → swT σ s → swVal s ≤ 70060 * i → ∀ (k : Nat) (j b : Int) (τ0 τ : pS) (u5 u6 : pV), j + (k : Int) = 2 * rd σ 68 31 → 0 ≤ j → (-1 ≤ b ∧ b ≤ 1000000) → u5.1 ≠ 1 → u6.1 ≠ 1 → hdI σ s i j τ → lvF i τ0 τ →
    (∀ (υ : pS) (b' : Int) (u5 u6 : pV), u5.1 ≠ 1 → u6.1 ≠ 1 → swF σ υ → lvF i τ0 υ → dnR σ s υ → minB b (CmI σ n s q j) b' → (-1 ≤ b' ∧ b' ≤ 1000000) → pR mX11_sweep d 89 [(2, 68), (0, x1), (0, n), (0, i - 1), (0, b'), u5, u6] [] υ Q) → pR mX11_sweep d 89 [(2, 68), (0, x1), (0, n), (0, i), (0, b), u5, u6] [] τ Q := by
  have ok := sw_ok L Z
  have R7 := L.2.2.2.2.2.1
  intro q
  induction q with
  | zero =>
    intro i s hi hi0 hs hB k j b τ0 τ u5 u6 hk hj hb h5 h6 H lv K
    refine lvl_step hd S L Z hn 0 i s hi hi0 hs hB τ0 (fun j b c τ u5 u6 h5 h6 hc hb hE f dr a1 a0 p o hj lv Kc => ⟨fun _ => ?_, fun c => by omega⟩) k j b τ u5 u6 hk hj hb h5 h6 H lv K
    have t1 := hs.go L Z hc (by omega)
    have := sw_211 (x1 := x1) (x2 := n) (x3 := i) hd S L f dr t1.dnv hb (fun b' x5 x6 m r => Kc τ b' _ _ (show (0 : Nat) ≠ 1 by decide) (show (0 : Nat) ≠ 1 by decide) ⟨f, a0, by omega, fun _ => ⟨by have := hc.1; omega, by rw [o]; exact hc.2.1⟩, fun r r0 r1 hr => ?_, fun _ _ => ?_⟩ lv (m.cg (fun v => ?_)) r) (rd σ 68 31).toNat 0 (by omega)
    · exact this
    · rw [dr r r0 r1, go_dn, if_neg (by rw [← o]; exact hr.resolve_left (by omega))]
    · rw [o]
      have := hs.2.2.2 c.2
      have := hc.2.2.2.1
      omega
    · constructor
      · rintro ⟨-, cs, t, l, hr, e⟩
        match cs, l, hr with
        | [], _, hr =>
          have hr : swGo (rd σ 68 31) (rd σ 77) (rd σ 78) (rd σ 79) (rd σ 133) c s = t := hr
          rw [e, hr]
      · intro e
        exact ⟨hc, [], _, rfl, rfl, e⟩
  | succ q ihq =>
    intro i s hi hi0 hs hB k j b τ0 τ u5 u6 hk hj hb h5 h6 H lv K
    refine lvl_step hd S L Z hn (q + 1) i s hi hi0 hs hB τ0 (fun j b c τ u5 u6 h5 h6 hc hb hE f dr a1 a0 p o hj lv Kc => ⟨fun c => by omega, fun _ => ?_⟩) k j b τ u5 u6 hk hj hb h5 h6 H lv K
    have t1 := hs.go L Z hc (by omega)
    have vB : swVal (swGo (rd σ 68 31) (rd σ 77) (rd σ 78) (rd σ 79) (rd σ 133) c s) ≤ 70060 * (i + 1) := by
      unfold swVal at hB ⊢
      obtain ⟨cb, cr⟩ := c
      cases cb
      · show max (swEnds (rd σ 68 31) (rd σ 77) (rd σ 78) (rd σ 79) (rd σ 133) (false, cr) s) s.2.1.2 ≤ _
        omega
      · show max s.2.1.1 (swEnds (rd σ 68 31) (rd σ 77) (rd σ 78) (rd σ 79) (rd σ 133) (true, cr) s) ≤ _
        omega
    have hc0 := hc.1
    have l2 : lvF (i + 1) τ (wr (wr τ 138 (i + 1) (-1)) 140 (i + 1) (-1)) := (lvF.rf.wr (by omega)).wr (by omega)
    refine ihq (i + 1) (swGo (rd σ 68 31) (rd σ 77) (rd σ 78) (rd σ 79) (rd σ 133) c s) (by omega) (by omega) t1 vB (2 * rd σ 68 31).toNat 0 b τ _ u5 u6 (by omega) (by omega) hb h5 h6 ⟨(f.wr (by omega)).wr (by omega), ?_, ?_, fun z => by omega, fun r r0 r1 _ => ?_, fun z => by omega⟩ l2 (fun υ b' v5 v6 w5 w6 fυ lυ dυ m r => ?_)
    · obtain ⟨b0, b1, b2, b3⟩ := a1
      refine ⟨?_, ?_, ?_, ?_⟩ <;> rw [rd_wr_n (by omega), rd_wr_n (by omega)] <;> assumption
    · rw [rd_wr_n (by omega), rd_wr_same]; rfl
    · rw [rd_wr_n (by omega), rd_wr_n (by omega)]; exact dr r r0 r1
    · rw [show i + 1 - 1 = i by omega]
      have e : ∀ a : Int, ((134 ≤ a ∧ a ≤ 138) ∨ a = 140) → rd υ a i = rd τ a i := fun a ha => lυ a i ha (by omega)
      obtain ⟨b0, b1, b2, b3⟩ := a0
      have eo : rd υ 140 i = c.2 := (e 140 (by omega)).trans o
      refine Kc υ b' v5 v6 w5 w6 ⟨fυ, ⟨(e 134 (by omega)).trans b0, (e 135 (by omega)).trans b1, (e 136 (by omega)).trans b2, (e 137 (by omega)).trans b3⟩, by rw [e 138 (by omega), p]; omega, fun _ => ⟨by omega, by rw [eo]; exact hc.2.1⟩, fun r r0 r1 hr => ?_, fun _ _ => ?_⟩ (lv.tr (lυ.le (by omega))) (m.cg (fun v => ?_)) r
      · rw [dυ r r0 r1, go_dn, if_neg (by rw [← eo]; exact hr.resolve_left (by omega))]
      · rw [eo]
        have := hs.2.2.2 c.2
        have := hc.2.2.2.1
        omega
      · rw [CmI_0]
        exact ⟨fun z => z.2, fun z => ⟨hc, z⟩⟩
/-- two answers that are least are one -/
theorem isBest.uniq {σ : pS} {p n v v' : Int} (h : isBest σ p n v) (h' : isBest σ p n v') : v = v' := by
  rcases h.2 with e | ⟨e, cs, t, hr, hl, ev⟩
  · rcases h'.2 with e' | ⟨e', cs', t', hr', hl', ev'⟩
    · rw [e, e']
    · exact absurd e (h.1 cs' t' hr' hl').1
  · rcases h'.2 with e' | ⟨e', cs', t', hr', hl', ev'⟩
    · exact absurd e' (h'.1 cs t hr hl).1
    · have a := (h.1 cs' t' hr' hl').2
      have b := (h'.1 cs t hr hl).2
      omega
theorem sweepM_C {d : Nat} {σ : pS} (hd : 2 ≤ d) (S : Stat σ) (L : RSlo σ) (Z : RSwp σ) {p n : Int} (hp : 0 ≤ p ∧ p < 10) (hn : 1 ≤ n ∧ n ≤ 2) (hR : rd σ 68 31 ≠ 0) : pR mX11_sweep d 30 [(2, 68), (0, p), (0, n), (0, 0), (9, 0), (9, 0), (9, 0)] [] σ (fun r υ => ∃ v, isBest σ p n v ∧ r = some (0, v) ∧ swF σ υ) := by
  have R7 := L.2.2.2.2.2.1
  have ok := sw_ok L Z
  have hn' : n = 1 ∨ n = 2 := by omega
  have fill : ∀ (k i : Nat) (τ : pS), i + k = 7 → swF σ τ → (∀ r : Int, 0 ≤ r → r < (i : Int) → rd τ 139 r = -1) → pR mX11_sweep d 30 [(2, 68), (0, p), (0, n), (0, (i : Int)), (9, 0), (9, 0), (9, 0)] [] τ (fun r υ => ∃ v, isBest σ p n v ∧ r = some (0, v) ∧ swF σ υ) := by
    intro k
    induction k with
    | zero =>
      intro i τ hi f v
      have e : i = 7 := by omega
      subst e
      refine g_X11_sweep_30 hd (S.eq f.1) p n _ (9, 0) (9, 0) (9, 0) (by decide) (by decide) (by decide) (by decide) (fun _ => ?_) (fun c => by omega) (fun c => by omega)
      have f' : swF σ (wr (wr (wr (wr (wr τ 134 0 p) 135 0 p) 136 0 0) 137 0 0) 138 0 (-1)) := ((((f.wr (by omega)).wr (by omega)).wr (by omega)).wr (by omega)).wr (by omega)
      have st : swT σ (swStart p) := ⟨swI_start hp, swV_start, by show (0 : Int) ≤ _; decide, fun _ => Or.inl rfl⟩
      refine lvl_C (Q := fun r υ => ∃ v, isBest σ p n v ∧ r = some (0, v) ∧ swF σ υ) hd S L Z hn' ((rd σ 68 31).toNat - 1) 0 (swStart p) (by omega) (by decide) st (by show (0 : Int) ≤ _; decide) (2 * rd σ 68 31).toNat 0 (-1) _ _ (9, 0) (9, 0) (by omega) (by decide) (by decide) (by decide) (by decide) ⟨f', ⟨?_, ?_, ?_, ?_⟩, ?_, fun z => by omega, fun r r0 r1 _ => ?_, fun z => by omega⟩ lvF.rf (fun υ b' u5 u6 h5 h6 fυ lυ dυ m r => ?_)
      · rw [rd_wr_n (by omega), rd_wr_n (by omega), rd_wr_n (by omega), rd_wr_n (by omega), rd_wr_same]; rfl
      · rw [rd_wr_n (by omega), rd_wr_n (by omega), rd_wr_n (by omega), rd_wr_same]; rfl
      · rw [rd_wr_n (by omega), rd_wr_n (by omega), rd_wr_same]; rfl
      · rw [rd_wr_n (by omega), rd_wr_same]; rfl
      · rw [rd_wr_same]; rfl
      · rw [rd_wr_n (by omega), rd_wr_n (by omega), rd_wr_n (by omega), rd_wr_n (by omega), rd_wr_n (by omega)]
        exact v r r0 (by omega)
      · have m' := m.cg (T := Cm σ n (swStart p) ((rd σ 68 31).toNat - 1 + 1)) (fun v => (CmI_0 v).symm)
        rw [show (rd σ 68 31).toNat - 1 + 1 = (rd σ 68 31).toNat by omega] at m'
        refine g_X11_sweep_89 hd (S.eq fυ.1) p n _ b' u5 u6 h5 h6 (by decide) (fun _ => ⟨b', ⟨fun cs t hr hl => ?_, ?_⟩, rfl, fυ⟩) (fun c => by omega) (fun c => by omega) (fun c => by omega) (fun c => by omega) (fun c => by omega) (fun c => by omega) (fun c => by omega)
        · exact m'.2.1 _ ⟨cs, t, by omega, hr, rfl⟩
        · rcases m'.2.2 with e | ⟨cs, t, l, hr, e⟩
          · exact Or.inl e
          · refine Or.inr ⟨?_, cs, t, hr, by omega, e.symm⟩
            rw [e]
            exact (swMax_ge _).1
    | succ k ih =>
      intro i τ hi f v
      refine g_X11_sweep_30 hd (S.eq f.1) p n _ (9, 0) (9, 0) (9, 0) (by decide) (by decide) (by decide) (by omega) (fun c => by omega) (fun _ => by omega) (fun _ => ?_)
      rw [show (i : Int) + 1 = ((i + 1 : Nat) : Int) by omega]
      refine ih (i + 1) _ (by omega) (f.wr (by omega)) (fun r r0 r1 => ?_)
      by_cases c : r = (i : Int)
      · subst c; rw [rd_wr_same]
      · rw [rd_wr_i _ c]; exact v r r0 (by omega)
  exact fill 7 0 σ rfl ⟨rfl, fun _ _ _ => rfl⟩ (fun r r0 r1 => by omega)
theorem op_sweep {n d : Nat} {σ : pS} (hd : 100 ≤ d) (h : RB n σ) (hn : n < 512) {x1 x2 : Int} (h1 : inR x1) (h2 : inR x2) : pC mX10_sweep d [(2, 0), (0, x1), (0, x2)] σ (fun r τ => pC mX11_sweep d [(2, 68), (0, x1), (0, x2)] τ (fun q υ => q = r ∧ RB (n + 1) υ)) := by
  have S := h.1
  have H := RB.up h hn
  have no : (vWithin x1 10 = false ∨ x2 < 1 ∨ 2 < x2) → pC mX11_sweep d [(2, 68), (0, x1), (0, x2)] σ (fun q υ => q = some (0, (-1)) ∧ RB (n + 1) υ) := fun c => by
    refine g_X11_sweep_0 (by omega) S x1 x2 (isPlace_C S h1) (fun _ => ⟨rfl, H⟩) (fun _ => h2) (fun _ _ => ⟨rfl, H⟩) (fun c1 c2 c3 => ?_) (fun c1 c2 c3 => ?_) (fun c1 c2 c3 => ?_) (fun _ _ _ => ⟨rfl, H⟩)
    all_goals
      intros
      exfalso
      rcases c with c | c
      · rw [c] at c1; cases c1
      · omega
  refine g_X10_sweep_0 (Q1 := fun r υ => ∃ v, isBest σ x1 x2 v ∧ r = some (0, v) ∧ υ.1 = σ.1 ∧ (∀ a i : Int, ¬ (65 ≤ a ∧ a ≤ 67) → ¬ (a = 61 ∧ (i = 7 ∨ i = 8)) → ¬ (a = 62 ∧ i = (x2 - 1) * 10 + x1) → rd υ a i = rd σ a i) ∧ rd υ 62 ((x2 - 1) * 10 + x1) = v) (by omega) S x1 x2 (within_C S h1 (by decide)) (fun c => no (Or.inl c)) (fun _ => h2) (fun _ c => no (Or.inr (Or.inl c))) (fun c c4 c5 => ?_) (fun c c4 c5 v τ e q => ?_) (fun _ _ c => no (Or.inr (Or.inr c)))
  · have c := vWithin_t c
    exact (least_C h (d := 45) (by omega) c ⟨c4, c5⟩).deep (by omega)
  · have c' := vWithin_t c
    obtain ⟨v', q1, q2, q3, q4, q5⟩ := q
    have ev := so_inj q2
    have vR : inR v' := by
      rcases q1.2 with z | ⟨z, cs, t, hr, hl, ez⟩
      · rw [z]; decide
      · have L := h.slo
        have Z : RSwp σ := h.ext.2.2.2
        have ok := sw_ok L Z
        have R7 := L.2.2.2.2.2.1
        have g := run_grow ok (swI_start c') hr
        have b := run_bound L Z (swI_start c') swV_start hr
        rw [swV_max R7.1 g.1 (g.2.2.2.2.2.2 swV_start)] at ez
        have : swVal (swStart x1) = 0 := rfl
        unfold inR; omega
    have Hτ := h.swp c' ⟨c4, c5⟩ q3 q4 q5 q1 vR
    have m : same σ τ MF := fun a i p => q4 a i (by unfold MF at p; omega) (by unfold MF at p; omega) (by unfold MF at p; omega)
    have Zτ : RSwp τ := Hτ.ext.2.2.2
    have eR : rd τ 68 31 = rd σ 68 31 := MF.fld m (by omega)
    refine g_X11_sweep_0 (by omega) Hτ.1 x1 x2 (isPlace_C Hτ.1 h1) (fun z => by rw [z] at c; cases c) (fun _ => h2) (fun _ z => by omega) (fun _ _ _ => by have := Hτ.slo.2.2.2.2.2.1; unfold inR; omega) (fun _ _ _ c7 => ?_) (fun _ _ _ c8 => ?_) (fun _ _ z => by omega)
    · refine pR.mono (sweepM_C (by omega) Hτ.1 Hτ.slo Zτ c' ⟨c4, c5⟩ c7) (fun r υ _ z => ?_)
      obtain ⟨w, z1, z2, z3⟩ := z
      have e1 := (isBest_eq m x1 x2 w).mp z1
      rw [z2, ev, isBest.uniq e1 q1]
      exact ⟨rfl, RB.up (Hτ.fr z3.1 (fun a i pp => z3.2 a i (fun zz => pp (by unfold FrA; omega)))) hn⟩
    · have z0 : isBest σ x1 x2 0 := by
        have r0 : rd σ 68 31 = 0 := by rw [← eR]; exact c8
        unfold isBest
        rw [r0]
        refine ⟨fun cs t hr hl => ⟨by decide, ?_⟩, Or.inr ⟨Int.le_refl _, [], swStart x1, rfl, rfl, rfl⟩⟩
        exact (swMax_ge _).1
      rw [ev, isBest.uniq q1 z0]
      exact ⟨rfl, RB.up Hτ hn⟩
