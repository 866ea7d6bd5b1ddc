/-! places, meet -/
/-- how many of the first n -/
def cntN (f : Nat → Bool) : Nat → Int
  | 0 => 0
  | n + 1 => cntN f n + b2i (f n)
theorem cntN_R (f : Nat → Bool) : ∀ n : Nat, 0 ≤ cntN f n ∧ cntN f n ≤ (n : Int)
  | 0 => ⟨Int.le_refl _, Int.le_refl _⟩
  | n + 1 => by
    have := cntN_R f n
    have := b2i_01 (f n)
    show 0 ≤ cntN f n + b2i (f n) ∧ cntN f n + b2i (f n) ≤ ((n + 1 : Nat) : Int)
    omega
theorem cntN_cg {f g : Nat → Bool} : ∀ {n : Nat}, (∀ i : Nat, i < n → f i = g i) → cntN f n = cntN g n
  | 0, _ => rfl
  | n + 1, h => by
    show cntN f n + b2i (f n) = cntN g n + b2i (g n)
    rw [cntN_cg (fun i hi => h i (by omega)), h n (by omega)]
def plS (σ : pS) (k s m : Int) : Int := cntN (fun p => stdS σ k s (p : Int) m) 10 + cntN (fun w => wyS σ (w : Int) && rideB σ k s (w : Int) m) 13
theorem places_X {d : Nat} {σ τ : pS} (hd : 7 ≤ d) (S : Stat σ) (L : RSlo σ) (P : RPas σ) {k s a x1 x3 : Int} (hsk : 0 ≤ rd σ 107 s ∧ rd σ 107 s < 4) (h : SKH σ k (rd σ 107 s) a τ) (K : KSk σ k s (rd σ 107 s) a τ) (h07 : rd τ 0 7 = rd σ 0 7) {m : Int} (hm : 0 ≤ m ∧ m ≤ 540) : pR mX10_places d 22 [(2, 0), (0, x1), (0, m), (0, x3), (2, a), (0, 0), (0, 0)] [] τ (fun r υ => r = some (0, plS σ k s m) ∧ υ = τ) := by
  have S2 := h.st S
  have l3 := L.2.2.2.1
  have l5 := L.2.2.2.2.2.1
  have I6 : Inst6 τ (rd τ 0 7) := by rw [h07, ← h.2.2.2.2.1, h.s6]; exact h.1.i6 L
  have eh : ∀ j : Nat, vHas (rd τ (rd τ 0 7) 0) (rd τ (rd τ 0 7) 1) (j : Int) = hasS σ j := fun j => by
    have := h.has L j
    rw [h.2.2.2.2.1] at this
    rw [h07]; exact this
  have ways : ∀ (n j : Nat), j + n = 17 → pR mX10_places d 59 [(2, 0), (0, x1), (0, m), (0, x3), (2, a), (0, cntN (fun p => stdS σ k s (p : Int) m) 10 + cntN (fun w => wyS σ (w : Int) && rideB σ k s (w : Int) m) (cw j)), (0, (j : Int))] [] τ (fun r υ => r = some (0, plS σ k s m) ∧ υ = τ) := by
    intro n
    induction n with
    | zero =>
      intro j hj
      have e : j = 17 := by omega
      subst e
      exact g_X10_places_59 (Q1 := fun _ _ => True) hd S2 x1 m x3 a _ _ h.2.1 (by decide) (fun _ => ⟨rfl, rfl⟩) (fun c => by omega) (fun c => by omega) (fun c => by omega) (fun c => by omega) (fun c => by omega) (fun c => by omega) (fun c => by omega)
    | succ n ih =>
      intro j hj
      have go : ∀ (x v : Int), x = cntN (fun p => stdS σ k s (p : Int) m) 10 + cntN (fun w => wyS σ (w : Int) && rideB σ k s (w : Int) m) (cw (j + 1)) → pR mX10_places d 59 [(2, 0), (0, x1), (0, m), (0, x3), (2, a), (0, x), (0, (j : Int) + 1)] [] τ (fun r υ => r = some (0, plS σ k s m) ∧ υ = τ) := fun x v hx => by
        rw [show (j : Int) + 1 = ((j + 1 : Nat) : Int) by omega, hx]
        exact ih (j + 1) (by omega)
      refine g_X10_places_59 (Q1 := fun r υ => r = some (0, b2i (rideB σ k s ((cw j : Nat) : Int) m)) ∧ υ = τ) hd S2 x1 m x3 a _ _ h.2.1 (by omega) (fun c => by omega) (fun _ => has_C (Nat.le_refl 1) S2 I6 (by omega) (by rw [h07, ← h.2.2.2.2.1, h.s6, show rd τ (rd τ 35 4) 0 = rd σ 68 30 by rw [h.1.s4, h.1.2.1 _ _ (by omega) (by omega)]; exact L.2.2.1]; exact l3) (by rw [h07, ← h.2.2.2.2.1, h.s6, show rd τ (rd τ 35 4) 1 = rd σ 68 31 by rw [h.1.s4, h.1.2.1 _ _ (by omega) (by omega)]; exact L.2.2.2.2.1]; exact l5)) (fun _ => I6) (fun _ c => go _ 0 ?_) (fun _ c => ?_) (fun _ _ _ _ _ _ _ => by omega) (fun _ c v b υ e q c5 => ?_) (fun _ c v b υ e q c6 => ?_)
      · rw [eh] at c
        rcases cw_no l3.2 l5.2 (by omega) c with e | ⟨e, e2⟩
        · rw [e]; omega
        · rw [e]
          show _ = _ + (cntN _ (cw j) + b2i (wyS σ ((cw j : Nat) : Int) && rideB σ k s ((cw j : Nat) : Int) m))
          rw [show wyS σ ((cw j : Nat) : Int) = false from e2, Bool.false_and]
          show _ = _ + (_ + 0)
          omega
      · rw [eh] at c
        exact rideX_C (Nat.le_refl 1) S L P hsk h K c hm
      · rw [eh] at c
        obtain ⟨y1, y2, y3, y4, y5⟩ := hasS_t L c
        have z := b2i_f' (so_inj q.1) c5
        rw [q.2]
        refine go _ 0 ?_
        rw [y1]
        show _ = _ + (cntN _ (cw j) + b2i (wyS σ ((cw j : Nat) : Int) && rideB σ k s ((cw j : Nat) : Int) m))
        rw [z, Bool.and_false]
        show _ = _ + (_ + 0)
        omega
      · rw [eh] at c
        obtain ⟨y1, y2, y3, y4, y5⟩ := hasS_t L c
        have z := b2i_t' (so_inj q.1) c6
        rw [q.2]
        refine go _ 0 ?_
        rw [y1]
        show _ = _ + (cntN _ (cw j) + b2i (wyS σ ((cw j : Nat) : Int) && rideB σ k s ((cw j : Nat) : Int) m))
        rw [z, y2]
        show _ = _ + (_ + 1)
        omega
  have pls : ∀ (n p : Nat), p + n = 10 → pR mX10_places d 22 [(2, 0), (0, x1), (0, m), (0, x3), (2, a), (0, cntN (fun p => stdS σ k s (p : Int) m) p), (0, (p : Int))] [] τ (fun r υ => r = some (0, plS σ k s m) ∧ υ = τ) := by
    intro n
    induction n with
    | zero =>
      intro p hp
      have e : p = 10 := by omega
      subst e
      refine g_X10_places_22 hd S2 x1 m x3 a _ _ h.2.1 (by decide) (fun _ => ?_) (fun c => by omega) (fun c => by omega) (fun c => by omega)
      have := ways 17 0 rfl
      rw [show cw 0 = 0 from rfl] at this
      rw [show cntN (fun p => stdS σ k s (p : Int) m) 10 + cntN (fun w => wyS σ (w : Int) && rideB σ k s (w : Int) m) 0 = cntN (fun p => stdS σ k s (p : Int) m) 10 from Int.add_zero _] at this
      exact this
    | succ n ih =>
      intro p hp
      have se := stand_eq K hm (p := (p : Int)) (by omega)
      refine g_X10_places_22 hd S2 x1 m x3 a _ _ h.2.1 (by omega) (fun c => by omega) (fun _ => stand_C S2 h.2.1 (by omega)) (fun _ c => ?_) (fun _ c => ?_)
      · rw [se] at c
        rw [show (p : Int) + 1 = ((p + 1 : Nat) : Int) by omega]
        have := ih (p + 1) (by omega)
        rw [show cntN (fun p => stdS σ k s (p : Int) m) (p + 1) = cntN (fun p => stdS σ k s (p : Int) m) p + b2i (stdS σ k s (p : Int) m) from rfl, c] at this
        exact this
      · rw [se] at c
        rw [show (p : Int) + 1 = ((p + 1 : Nat) : Int) by omega]
        have := ih (p + 1) (by omega)
        rw [show cntN (fun p => stdS σ k s (p : Int) m) (p + 1) = cntN (fun p => stdS σ k s (p : Int) m) p + b2i (stdS σ k s (p : Int) m) from rfl, c] at this
        exact this
  exact pls 10 0 rfl
theorem places_M {d : Nat} {σ τ : pS} {k s : Int} (hd : 4 ≤ d) (o : tOk 3 σ k s) (h : traceD σ k s τ) {x3 m : Int} (hm : 0 ≤ m ∧ m ≤ 540) : pR mX11_places d 29 [(2, 68), (0, s), (0, m), (0, x3), (0, 0), (0, 0)] [] τ (fun r υ => r = some (0, plS σ k s m) ∧ υ = τ) := by
  have o' := o
  obtain ⟨o1, S, L, P, o2, o3, o4⟩ := o'
  have S2 := h.1.1.st S
  have ways : ∀ (n w : Nat), w + n = 13 → pR mX11_places d 65 [(2, 68), (0, s), (0, m), (0, x3), (0, cntN (fun p => stdS σ k s (p : Int) m) 10 + cntN (fun w => wyS σ (w : Int) && rideB σ k s (w : Int) m) w), (0, (w : Int))] [] τ (fun r υ => r = some (0, plS σ k s m) ∧ υ = τ) := by
    intro n
    induction n with
    | zero =>
      intro w hw
      have e : w = 13 := by omega
      subst e
      exact g_X11_places_65 (Q1 := fun _ _ => True) hd S2 s m x3 _ _ (by decide) (fun _ => ⟨rfl, rfl⟩) (fun c => by omega) (fun c => by omega) (fun c => by omega) (fun c => by omega) (fun c => by omega) (fun c => by omega)
    | succ n ih =>
      intro w hw
      have iw := isWay_T o h.1 (w := (w : Int)) (by omega)
      have go : ∀ (x : Int), x = cntN (fun p => stdS σ k s (p : Int) m) 10 + (cntN (fun w => wyS σ (w : Int) && rideB σ k s (w : Int) m) w + b2i (wyS σ (w : Int) && rideB σ k s (w : Int) m)) → pR mX11_places d 65 [(2, 68), (0, s), (0, m), (0, x3), (0, x), (0, (w : Int) + 1)] [] τ (fun r υ => r = some (0, plS σ k s m) ∧ υ = τ) := fun x hx => by
        rw [show (w : Int) + 1 = ((w + 1 : Nat) : Int) by omega, hx]
        exact ih (w + 1) (by omega)
      refine g_X11_places_65 (Q1 := fun r υ => r = some (0, b2i (rideB σ k s (w : Int) m)) ∧ υ = τ) hd S2 s m x3 _ _ (by omega) (fun c => by omega) (fun _ => iw.1) (fun _ c => go _ ?_) (fun _ c => rideM_C o h (by rw [← iw.2]; exact c) hm) (fun _ _ _ _ _ _ _ => by omega) (fun _ c v b υ e q c5 => ?_) (fun _ c v b υ e q c6 => ?_)
      · rw [iw.2] at c
        rw [c, Bool.false_and]
        show _ = _ + (_ + 0)
        omega
      · rw [iw.2] at c
        rw [q.2]
        refine go _ ?_
        rw [b2i_f' (so_inj q.1) c5, Bool.and_false]
        show _ = _ + (_ + 0)
        omega
      · rw [iw.2] at c
        rw [q.2]
        refine go _ ?_
        rw [b2i_t' (so_inj q.1) c6, c]
        show _ = _ + (_ + 1)
        omega
  have pls : ∀ (n p : Nat), p + n = 10 → pR mX11_places d 29 [(2, 68), (0, s), (0, m), (0, x3), (0, cntN (fun p => stdS σ k s (p : Int) m) p), (0, (p : Int))] [] τ (fun r υ => r = some (0, plS σ k s m) ∧ υ = τ) := by
    intro n
    induction n with
    | zero =>
      intro p hp
      have e : p = 10 := by omega
      subst e
      refine g_X11_places_29 hd S2 s m x3 _ _ (by decide) (fun _ => ?_) (fun c => by omega) (fun c => by omega) (fun c => by omega)
      have := ways 13 0 rfl
      rw [show cntN (fun p => stdS σ k s (p : Int) m) 10 + cntN (fun w => wyS σ (w : Int) && rideB σ k s (w : Int) m) 0 = cntN (fun p => stdS σ k s (p : Int) m) 10 from Int.add_zero _] at this
      exact this
    | succ n ih =>
      intro p hp
      have se := canBe_eq h.2 hm (p := (p : Int)) (by omega)
      refine g_X11_places_29 hd S2 s m x3 _ _ (by omega) (fun c => by omega) (fun _ => canBe_C S2 h.2 hm (by omega)) (fun _ c => ?_) (fun _ c => ?_)
      · rw [se] at c
        rw [show (p : Int) + 1 = ((p + 1 : Nat) : Int) by omega]
        have := ih (p + 1) (by omega)
        rw [show cntN (fun p => stdS σ k s (p : Int) m) (p + 1) = cntN (fun p => stdS σ k s (p : Int) m) p + b2i (stdS σ k s (p : Int) m) from rfl, c] at this
        exact this
      · rw [se] at c
        rw [show (p : Int) + 1 = ((p + 1 : Nat) : Int) by omega]
        have := ih (p + 1) (by omega)
        rw [show cntN (fun p => stdS σ k s (p : Int) m) (p + 1) = cntN (fun p => stdS σ k s (p : Int) m) p + b2i (stdS σ k s (p : Int) m) from rfl, c] at this
        exact this
  exact pls 10 0 rfl
theorem op_places {n d : Nat} {σ : pS} (hd : 100 ≤ d) (h : RB n σ) (hn : n < 512) {x1 x2 x3 : Int} (h1 : inR x1) (h2 : inR x2) (h3 : inR x3) : pC mX10_places d [(2, 0), (0, x1), (0, x2), (0, x3)] σ (fun r τ => pC mX11_places d [(2, 68), (0, x1), (0, x2), (0, x3)] τ (fun q υ => q = r ∧ RB (n + 1) υ)) := by
  have S := h.1
  obtain ⟨k1, k2, k3, k4, k5⟩ := h.ski
  refine g_X10_places_0 (Q1 := fun r τ => (¬ ((0 ≤ x1 ∧ x1 < rd σ 68 64) ∧ 0 ≤ x2 ∧ x2 < 541) ∧ r = some (2, (-1)) ∧ τ = σ) ∨ (((0 ≤ x1 ∧ x1 < rd σ 68 64) ∧ 0 ≤ x2 ∧ x2 < 541) ∧ r = some (2, rd σ 43 x1) ∧ RB n τ ∧ seenD σ x3 x1 τ ∧ ∀ b i : Int, ¬ (35 ≤ b ∧ b ≤ 39) → b ≠ rd σ 0 8 + 3 → ¬ (rd σ 43 x1 ≤ b ∧ b ≤ rd σ 43 x1 + 5) → rd τ b i = rd σ b i)) (by omega) S x1 x2 x3 (h.seen_C (Nat.le_refl 6) h1 h2 h3) (fun v τ e q c => ?_) (fun v τ e q c => ?_)
  · rcases q with ⟨q1, q2, -⟩ | ⟨q1, q2, q3, q4, q5⟩
    · rw [so_inj q2] at c; omega
    rw [so_inj q2]
    have sk := (k4 x1 q1.1.1 q1.1.2).2.2
    have e7 := seen_107 h q1.1 q5
    refine pR.mono (places_X (by omega) S h.slo h.pas (by omega) q4.2.2.1 q4.2.1 q4.2.2.2.2 (by omega)) (fun r υ _ z => ?_)
    obtain ⟨z1, z2⟩ := z
    subst z2
    rw [z1]
    have o := q3.tok (d := 3) (Nat.le_refl 3) (k := x3) (s := x1) (by rw [e7.2]; exact q1.1) h3
    have pe : plS υ x3 x1 x2 = plS σ x3 x1 x2 := by
      unfold plS
      simp only [stdS_eq q4.1 (e7.1 x1), rideB_eq q4.1 (e7.1 x1), wys_eq q4.1]
    refine g_X11_places_0 (Q1 := fun r ω => r = none ∧ traceD υ x3 x1 ω) (by omega) q3.1 x1 x2 x3 (isSkier_C q3.1 h1 (by rw [e7.2]; unfold inR; omega)) (fun z => by have := vWithin_f z; rw [e7.2] at this; omega) (fun _ => isMinute_C q3.1 h2) (fun _ _ => trace_C o q3.win q3.law) (fun _ _ ω e4 p => ?_) (fun _ z => by have := vWithin_f z; omega)
    refine pR.mono (places_M (by omega) o p.2 (by omega)) (fun r ω' _ z => ?_)
    rw [z.1, z.2, pe]
    exact ⟨rfl, RB.up (q3.trace p.2) hn⟩
  · rcases q with ⟨q1, -, rfl⟩ | ⟨q1, q2, -⟩
    · have H := RB.up h hn
      refine g_X11_places_0 (Q1 := fun _ _ => True) (by omega) S x1 x2 x3 (isSkier_C S h1 (by unfold inR; omega)) (fun _ => ⟨rfl, H⟩) (fun _ => isMinute_C S h2) (fun c1 c2 => ?_) (fun c1 c2 => ?_) (fun _ _ => ⟨rfl, H⟩)
      all_goals
        intros
        exfalso
        have c1 := vWithin_t c1
        have c2 := vWithin_t c2
        exact q1 ⟨c1, c2⟩
    · have := (k4 x1 q1.1.1 q1.1.2).1
      rw [so_inj q2] at c; omega
/-- the first minute at which both stand there -/
def metS (σ : pS) (k a b p m : Int) : Bool := stdS σ k a p m && stdS σ k b p m
theorem meet_X {d : Nat} {σ τ : pS} (hd : 7 ≤ d) (S : Stat τ) {k s t a b x1 x2 p x4 x5 : Int} (Ia : Inst5 τ a) (Ib : Inst5 τ b) (Ka : KSk σ k s (rd σ 107 s) a τ) (Kb : KSk σ k t (rd σ 107 t) b τ) (hp : 0 ≤ p ∧ p < 10) : ∀ (n m : Nat), m + n = 541 → pR mX10_meet d 54 [(2, 0), (0, x1), (0, x2), (0, p), (0, x4), (0, x5), (2, a), (2, b), (0, (m : Int))] [] τ (fun r υ => r = some (0, fsN (metS σ k s t p) n m) ∧ υ = τ) := by
  intro n
  induction n with
  | zero =>
    intro m hm
    have e : m = 541 := by omega
    subst e
    exact g_X10_meet_54 hd S x1 x2 p x4 x5 a b _ Ia Ib (by decide) (fun _ => ⟨rfl, rfl⟩) (fun c => by omega) (fun c => by omega) (fun c => by omega) (fun c => by omega) (fun c => by omega)
  | succ n ih =>
    intro m hm
    have ea := stand_eq Ka (m := (m : Int)) (by omega) hp
    have eb := stand_eq Kb (m := (m : Int)) (by omega) hp
    have no : metS σ k s t p (m : Int) = false → pR mX10_meet d 54 [(2, 0), (0, x1), (0, x2), (0, p), (0, x4), (0, x5), (2, a), (2, b), (0, (m : Int) + 1)] [] τ (fun r υ => r = some (0, fsN (metS σ k s t p) (n + 1) m) ∧ υ = τ) := fun c => by
      rw [fsN_skip c, show (m : Int) + 1 = ((m + 1 : Nat) : Int) by omega]
      exact ih (m + 1) (by omega)
    refine g_X10_meet_54 hd S x1 x2 p x4 x5 a b _ Ia Ib (by omega) (fun c => by omega) (fun _ => stand_C S Ia (by omega)) (fun _ c => no ?_) (fun _ _ => stand_C S Ib (by omega)) (fun _ _ c => no ?_) (fun _ c c6 => ?_)
    · rw [ea] at c; unfold metS; rw [c, Bool.false_and]
    · rw [eb] at c; unfold metS; rw [c, Bool.and_false]
    · rw [ea] at c
      rw [eb] at c6
      have : metS σ k s t p (m : Int) = true := by unfold metS; rw [c, c6]; rfl
      rw [fsN_hit this]
      exact ⟨rfl, rfl⟩
theorem meet_M2 {d : Nat} {σ τ : pS} {k t x1 x2 x4 x5 p : Int} (hd : 4 ≤ d) (S : Stat τ) (h : tB σ k t τ) (f : Int → Bool) (hf : ∀ m : Int, 0 ≤ m → m ≤ 540 → rd τ 117 m = b2i (f m)) (hp : 0 ≤ p ∧ p < 10) : ∀ (n m : Nat), m + n = 541 → pR mX11_meet d 87 [(2, 68), (0, x1), (0, x2), (0, p), (0, x4), (0, x5), (0, (m : Int))] [] τ (fun r υ => r = some (0, fsN (fun m => f m && stdS σ k t p m) n m) ∧ υ = τ) := by
  intro n
  induction n with
  | zero =>
    intro m hm
    have e : m = 541 := by omega
    subst e
    exact g_X11_meet_87 hd S x1 x2 p x4 x5 _ (by decide) (fun _ => ⟨rfl, rfl⟩) (fun c => by omega) (fun c => by omega) (fun c => by omega) (fun c => by omega) (fun c => by omega) (fun c => by omega)
  | succ n ih =>
    intro m hm
    have e7 := hf (m : Int) (by omega) (by omega)
    have eb := canBe_eq h (m := (m : Int)) (by omega) hp
    have no : (f (m : Int) && stdS σ k t p (m : Int)) = false → pR mX11_meet d 87 [(2, 68), (0, x1), (0, x2), (0, p), (0, x4), (0, x5), (0, (m : Int) + 1)] [] τ (fun r υ => r = some (0, fsN (fun m => f m && stdS σ k t p m) (n + 1) m) ∧ υ = τ) := fun c => by
      rw [fsN_skip (C := fun m => f m && stdS σ k t p m) c, show (m : Int) + 1 = ((m + 1 : Nat) : Int) by omega]
      exact ih (m + 1) (by omega)
    refine g_X11_meet_87 hd S x1 x2 p x4 x5 _ (by omega) (fun c => by omega) (fun _ => by omega) (fun _ => by rw [e7]; exact b2i_R _) (fun _ c => no ?_) (fun _ _ => canBe_C S h (by omega) hp) (fun _ c c5 => no ?_) (fun _ c c6 => ?_)
    · rw [e7] at c; rw [b2i_eq0.mp c, Bool.false_and]
    · rw [eb] at c5; rw [c5, Bool.and_false]
    · rw [e7] at c
      rw [eb] at c6
      have : (f (m : Int) && stdS σ k t p (m : Int)) = true := by rw [b2i_ne0.mp c, c6]; rfl
      rw [fsN_hit (C := fun m => f m && stdS σ k t p m) this]
      exact ⟨rfl, rfl⟩
theorem meet_M1 {d : Nat} {σ τ0 : pS} {Q : Option pV → pS → Prop} {k s t x4 p : Int} (hd : 4 ≤ d) (S : Stat τ0) (hp : 0 ≤ p ∧ p < 10) (Q1 : Option pV → pS → Prop)
    (F : ∀ τ : pS, qRow τ0 τ 117 → (∀ m : Int, 0 ≤ m → m ≤ 540 → rd τ 117 m = b2i (stdS σ k s p m)) → pC mX11_trace 3 [(2, 68), (0, t), (0, k)] τ Q1)
    (K : ∀ τ υ : pS, qRow τ0 τ 117 → (∀ m : Int, 0 ≤ m → m ≤ 540 → rd τ 117 m = b2i (stdS σ k s p m)) → Q1 none υ → pR mX11_meet d 87 [(2, 68), (0, s), (0, t), (0, p), (0, x4), (0, k), (0, x4)] [] υ Q) :
    ∀ (n m : Nat) (τ : pS), m + n = 541 → tB σ k s τ → qRow τ0 τ 117 → (∀ i : Int, 0 ≤ i → i < (m : Int) → rd τ 117 i = b2i (stdS σ k s p i)) → pR mX11_meet d 48 [(2, 68), (0, s), (0, t), (0, p), (0, x4), (0, k), (0, (m : Int))] [] τ Q := by
  intro n
  induction n with
  | zero =>
    intro m τ hm h q v
    have e : m = 541 := by omega
    subst e
    have v' : ∀ i : Int, 0 ≤ i → i ≤ 540 → rd τ 117 i = b2i (stdS σ k s p i) := fun i i0 i1 => v i i0 (by omega)
    exact g_X11_meet_48 (Q1 := Q1) hd (S.eq q.1) s t p x4 k _ (by decide) (fun _ => F τ q v') (fun _ υ e y => K τ υ q v' y) (fun c => by omega) (fun c => by omega) (fun c => by omega)
  | succ n ih =>
    intro m τ hm h q v
    have S2 := S.eq q.1
    refine g_X11_meet_48 (Q1 := fun _ _ => True) hd S2 s t p x4 k _ (by omega) (fun c => by omega) (fun c => by omega) (fun _ => canBe_C S2 h (by omega) hp) (fun _ => by omega) (fun _ => ?_)
    rw [show (m : Int) + 1 = ((m + 1 : Nat) : Int) by omega, canBe_eq h (by omega) hp]
    refine ih (m + 1) _ (by omega) ⟨fun a b a0 a1 b0 b1 => by rw [rd_wr_n (by omega)]; exact h.1 a b a0 a1 b0 b1, fun a b a0 a1 b0 b1 => by rw [rd_wr_n (by omega)]; exact h.2 a b a0 a1 b0 b1⟩ q.wr (fun i i0 i1 => ?_)
    by_cases c : i = (m : Int)
    · subst c; rw [rd_wr_same]
    · rw [rd_wr_i _ c]; exact v i i0 (by omega)
theorem fsN_cg {C D : Int → Bool} (h : ∀ i : Int, C i = D i) (n m : Nat) : fsN C n m = fsN D n m := by rw [show C = D from funext h]
def seenP (n : Nat) (σ : pS) (k s m : Int) (r : Option pV) (τ : pS) : Prop := (¬ ((0 ≤ s ∧ s < rd σ 68 64) ∧ 0 ≤ m ∧ m < 541) ∧ r = some (2, (-1)) ∧ τ = σ) ∨ (((0 ≤ s ∧ s < rd σ 68 64) ∧ 0 ≤ m ∧ m < 541) ∧ r = some (2, rd σ 43 s) ∧ RB n τ ∧ seenD σ k s τ ∧ ∀ b i : Int, ¬ (35 ≤ b ∧ b ≤ 39) → b ≠ rd σ 0 8 + 3 → ¬ (rd σ 43 s ≤ b ∧ b ≤ rd σ 43 s + 5) → rd τ b i = rd σ b i)
theorem seenP.rb {n : Nat} {σ τ : pS} {k s m : Int} {r : Option pV} (q : seenP n σ k s m r τ) (h : RB n σ) : RB n τ ∧ rd τ 68 64 = rd σ 68 64 := by
  rcases q with ⟨-, -, rfl⟩ | ⟨q1, -, q3, -, q5⟩
  · exact ⟨h, rfl⟩
  · exact ⟨q3, (seen_107 h q1.1 q5).2⟩
theorem op_meet {n d : Nat} {σ : pS} (hd : 100 ≤ d) (h : RB n σ) (hn : n < 512) {x1 x2 x3 x4 x5 : Int} (h1 : inR x1) (h2 : inR x2) (h3 : inR x3) (h4 : inR x4) (h5 : inR x5) : pC mX10_meet d [(2, 0), (0, x1), (0, x2), (0, x3), (0, x4), (0, x5)] σ (fun r τ => pC mX11_meet d [(2, 68), (0, x1), (0, x2), (0, x3), (0, x4), (0, x5)] τ (fun q υ => q = r ∧ RB (n + 1) υ)) := by
  have S := h.1
  obtain ⟨k1, k2, k3, k4, k5⟩ := h.ski
  have no : ∀ τ : pS, RB n τ → rd τ 68 64 = rd σ 68 64 → ¬ ((((0 ≤ x1 ∧ x1 < rd σ 68 64) ∧ 0 ≤ x4 ∧ x4 < 541) ∧ (0 ≤ x2 ∧ x2 < rd σ 68 64)) ∧ x1 ≠ x2 ∧ 0 ≤ x3 ∧ x3 < 10) → pC mX11_meet d [(2, 68), (0, x1), (0, x2), (0, x3), (0, x4), (0, x5)] τ (fun q υ => q = some (0, (-1)) ∧ RB (n + 1) υ) := fun τ H e c => by
    refine g_X11_meet_0 (Q1 := fun _ _ => True) (by omega) H.1 x1 x2 x3 x4 x5 (isSkier_C H.1 h1 (by rw [e]; unfold inR; omega)) (fun _ => ⟨rfl, RB.up H hn⟩) (fun _ => isSkier_C H.1 h2 (by rw [e]; unfold inR; omega)) (fun _ _ => ⟨rfl, RB.up H hn⟩) (fun _ _ => h1) (fun _ _ => h2) (fun _ _ _ => ⟨rfl, RB.up H hn⟩) (fun _ _ _ => isPlace_C H.1 h3) (fun _ _ _ _ => ⟨rfl, RB.up H hn⟩) (fun _ _ _ _ => isMinute_C H.1 h4) ?_ ?_ (fun _ _ _ _ _ => ⟨rfl, RB.up H hn⟩)
    all_goals
      intro c1 c2 c3 c4 c5
      intros
      exfalso
      have c1 := vWithin_t c1
      have c2 := vWithin_t c2
      have c4 := vWithin_t c4
      have c5 := vWithin_t c5
      rw [e] at c1 c2
      omega
  refine g_X10_meet_0 (Q1 := seenP n σ x5 x1 x4) (Q2 := fun r υ => ∃ r2 τ, seenP n σ x5 x1 x4 r2 τ ∧ seenP n τ x5 x2 x4 r υ) (by omega) S x1 x2 x3 x4 x5 h1 h2 (fun c => no σ h rfl (by omega)) (fun _ => within_C S h3 (by decide)) (fun _ _ => h.seen_C (Nat.le_refl 6) h1 h4 h5) (fun c c3 v τ e q => ?_) (fun c c3 v τ e q v3 υ e3 q3 c5 => ?_) (fun c c3 v τ e q v3 υ e3 q3 c6 c7 => ?_) (fun c c3 v τ e q v3 υ e3 q3 c6 c8 => ?_) (fun _ c => no σ h rfl (by have := vWithin_f c; omega))
  · exact ((q.rb h).1.seen_C (Nat.le_refl 6) h2 h4 h5).mono (fun r υ _ z => ⟨_, τ, q, z⟩)
  · obtain ⟨r2, τ', q', q4⟩ := q3
    have t := q'.rb h
    have t2 := q4.rb t.1
    rcases q with ⟨q1, -⟩ | ⟨q1, q2, -⟩
    · exact no υ t2.1 (t2.2.trans t.2) (fun z => q1 z.1.1)
    · have := (k4 x1 q1.1.1 q1.1.2).1
      rw [so_inj q2] at c5; omega
  · obtain ⟨r2, τ', q', q4⟩ := q3
    have t := q'.rb h
    have t2 := q4.rb t.1
    have c3 := vWithin_t c3
    rcases q with ⟨-, q2, -⟩ | ⟨q1, q2, -⟩
    · rw [so_inj q2] at c6; omega
    rcases q4 with ⟨-, q5, -⟩ | ⟨q4, q5, q6, q7, q8⟩
    · rw [so_inj q5] at c7; omega
    rcases q' with ⟨z1, -⟩ | ⟨-, -, z3, z4, z5⟩
    · exact absurd q1 z1
    have ev := so_inj q2
    have ev3 := so_inj q5
    have e7 := seen_107 h q1.1 z5
    have e7' := seen_107 z3 q4.1 q8
    rw [e7.2] at q4
    have a1 := k4 x1 q1.1.1 q1.1.2
    have a2 := k4 x2 q4.1.1 q4.1.2
    have ne : rd σ 43 x1 ≠ rd σ 43 x2 := by
      by_cases c2 : x1 < x2
      · exact k5 x1 x2 q1.1.1 c2 q4.1.2
      · exact fun z => k5 x2 x1 q4.1.1 (by omega) q1.1.2 z.symm
    have dj := i5_i5 a1.2.1 a2.2.1 ne
    obtain ⟨hl, ⟨n2, I2, hn2, al⟩, al2⟩ := id h.law
    have e08 : rd τ' 0 8 = rd σ 0 8 := z5 _ _ (by omega) (by omega) (by omega)
    have ap := i5_i2 a1.2.1 I2
    rw [z4.2.2.2.1 x2] at q8 ev3
    rw [e08] at q8
    have Ka : KSk σ x5 x1 (rd σ 107 x1) (rd σ 43 x1) υ := z4.2.1.at (q8 _ _ (by omega) (by omega) (by omega)) (fun b i b0 b1 => q8 b i (by omega) (by omega) (by omega))
    have Kb0 := q7.2.1
    rw [z4.2.2.2.1 x2, e7.1 x2] at Kb0
    have Kb : KSk σ x5 x2 (rd σ 107 x2) (rd σ 43 x2) υ := Kb0.mv z4.1.symm z4.2.2.2.2.symm
    have Ib := q7.2.2.1.2.1
    rw [z4.2.2.2.1 x2] at Ib
    have e43 : rd υ 43 x1 = rd σ 43 x1 := (q7.2.2.2.1 x1).trans (z4.2.2.2.1 x1)
    have e64 : rd υ 68 64 = rd σ 68 64 := t2.2.trans t.2
    have Ia : Inst5 υ (rd σ 43 x1) := by
      have := (q6.ski.2.2.2.1 x1 q1.1.1 (by rw [e64]; exact q1.1.2)).2.1
      rw [e43] at this
      exact this
    have m : same σ υ MF := z4.1.tr q7.1
    have e107 : ∀ i : Int, rd υ 107 i = rd σ 107 i := fun i => (e7'.1 i).trans (e7.1 i)
    rw [ev, ev3]
    have mx := meet_X (d := d) (x1 := x1) (x2 := x2) (x4 := x4) (x5 := x5) (by omega) q6.1 Ia Ib Ka Kb c3 (541 - x4.toNat) x4.toNat (by omega)
    rw [show ((x4.toNat : Nat) : Int) = x4 by omega] at mx
    refine pR.mono mx (fun r υ' _ z => ?_)
    obtain ⟨y1, y2⟩ := z
    subst y2
    rw [y1]
    have oa := q6.tok (d := 3) (Nat.le_refl 3) (k := x5) (s := x1) (by rw [e64]; exact q1.1) h5
    refine g_X11_meet_0 (Q1 := fun r ω => r = none ∧ traceD υ' x5 x1 ω) (by omega) q6.1 x1 x2 x3 x4 x5 (isSkier_C q6.1 h1 (by rw [e64]; unfold inR; omega)) (fun z => by have := vWithin_f z; rw [e64] at this; omega) (fun _ => isSkier_C q6.1 h2 (by rw [e64]; unfold inR; omega)) (fun _ z => by have := vWithin_f z; rw [e64] at this; omega) (fun _ _ => h1) (fun _ _ => h2) (fun _ _ z => absurd z c) (fun _ _ _ => isPlace_C q6.1 h3) (fun _ _ _ z => by have := vWithin_f z; omega) (fun _ _ _ _ => isMinute_C q6.1 h4) (fun _ _ _ _ _ => trace_C oa q6.win q6.law) (fun _ _ _ _ _ ω e4 p => ?_) (fun _ _ _ _ z => by have := vWithin_f z; omega)
    have Hw := q6.trace p.2
    have rbq : ∀ τ : pS, qRow ω τ 117 → RB n τ := fun τ q => Hw.fr q.1 (q.fr (by unfold FrA; omega))
    have e64w : ∀ τ : pS, qRow ω τ 117 → rd τ 68 64 = rd σ 68 64 := fun τ q => (q.2 _ _ (by omega)).trans ((p.2.1.1.2.1 _ _ (by omega) (by omega)).trans e64)
    refine meet_M1 (σ := υ') (τ0 := ω) (by omega) Hw.1 c3 (fun r β => r = none ∧ ∃ τ, qRow ω τ 117 ∧ (∀ m : Int, 0 ≤ m → m ≤ 540 → rd τ 117 m = b2i (stdS υ' x5 x1 x3 m)) ∧ traceD τ x5 x2 β) (fun τ q v => ?_) (fun τ β q v y => ?_) 541 0 ω rfl p.2.2 (qRow.rf ω 117) (fun i i0 i1 => by omega)
    · exact (trace_C ((rbq τ q).tok (Nat.le_refl 3) (by rw [e64w τ q]; exact q4.1) h5) (rbq τ q).win (rbq τ q).law).mono (fun r β _ z => ⟨z.1, τ, q, v, z.2⟩)
    · obtain ⟨-, τ2, y2, y3, y4⟩ := y
      have Hb := (rbq τ2 y2).trace y4
      have mm : same υ' τ2 MF := (fun a i pp => (y2.2 a i (by unfold MF at pp; omega)).trans (p.2.1.1.mf a i pp))
      have e1072 : rd τ2 107 x2 = rd υ' 107 x2 := (y2.2 _ _ (by omega)).trans (p.2.1.1.2.1 _ _ (by omega) (by omega))
      have := meet_M2 (d := d) (x1 := x1) (x2 := x2) (x4 := x4) (x5 := x5) (by omega) Hb.1 y4.2 (fun m => stdS υ' x5 x1 x3 m) (fun m m0 m1 => (y4.1.1.2.1 117 m (by omega) (by omega)).trans (y3 m m0 m1)) c3 (541 - x4.toNat) x4.toNat (by omega)
      rw [show ((x4.toNat : Nat) : Int) = x4 by omega] at this
      refine pR.mono this (fun r β' _ z => ?_)
      rw [z.1, z.2]
      refine ⟨?_, RB.up Hb hn⟩
      rw [fsN_cg (D := metS σ x5 x1 x2 x3) (fun i => ?_)]
      unfold metS
      rw [stdS_eq mm e1072, stdS_eq m (e107 x1), stdS_eq m (e107 x2)]
  · obtain ⟨r2, τ', q', q4⟩ := q3
    have t := q'.rb h
    have t2 := q4.rb t.1
    rcases q with ⟨-, q2, -⟩ | ⟨q1, q2, -⟩
    · rw [so_inj q2] at c6; omega
    rcases q4 with ⟨q4, -⟩ | ⟨q4, q5, -⟩
    · rw [t.2] at q4
      exact no υ t2.1 (t2.2.trans t.2) (fun z => q4 ⟨z.1.2, q1.2⟩)
    · have := ((q'.rb h).1.ski.2.2.2.1 x2 q4.1.1 q4.1.2).1
      rw [so_inj q5] at c8; omega
