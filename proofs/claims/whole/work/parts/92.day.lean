/-! a day: the reference's parts -/
def RX (σ : pS) (k : Int) (φ : pS) : Prop := φ.1 = σ.1 ∧ (∀ a i : Int, ((77 ≤ a ∧ a ≤ 82) ∨ (118 ≤ a ∧ a ≤ 121) ∨ a = 123 ∨ (a = 68 ∧ (i = 30 ∨ i = 31 ∨ i = 32 ∨ i = 77))) → rd φ a i = rd σ a i) ∧ (∀ r : Int, 0 ≤ r → r < 8 → rd φ 101 r = wWind σ k r.toNat ∧ rd φ 102 r = wFresh σ k r) ∧ ∀ w : Int, 0 ≤ w → w < 13 → knS σ k w 8 φ
def dFr (φ ψ : pS) : Prop := ψ.1 = φ.1 ∧ ∀ a i : Int, a ≠ 122 → ¬ (124 ≤ a ∧ a ≤ 129) → rd ψ a i = rd φ a i
theorem RX.fr {σ φ ψ : pS} {k : Int} (h : RX σ k φ) (q1 : ψ.1 = φ.1) (q2 : ∀ a i : Int, a ≠ 122 → ¬ (124 ≤ a ∧ a ≤ 132) → rd ψ a i = rd φ a i) : RX σ k ψ := ⟨q1.trans h.1, fun a i p => (q2 a i (by omega) (by omega)).trans (h.2.1 a i p), fun r r0 r1 => by rw [q2 101 r (by decide) (by decide), q2 102 r (by decide) (by decide)]; exact h.2.2.1 r r0 r1, fun w w0 w1 r r0 r1 => (q2 105 _ (by decide) (by decide)).trans (h.2.2.2 w w0 w1 r r0 r1)⟩
def DM (σ : pS) (M : Int) (D : Int → Int → Int) (φ : pS) : Prop := (∀ p : Int, 0 ≤ p → p < 10 → rd φ 124 p = D 124 p ∧ rd φ 122 p = D 122 p) ∧ (∀ l : Int, 0 ≤ l → l < 6 → rd φ 125 l = D 125 l ∧ rd φ 129 l = D 129 l) ∧ (∀ r : Int, 0 ≤ r → r < rd σ 68 31 → rd φ 127 r = D 127 r) ∧ (∀ w : Int, 0 ≤ w → w < 13 → rd φ 128 w = D 128 w) ∧ ∀ c : Int, 10 * M ≤ c → c < 5410 → rd φ 126 c = D 126 c
theorem mSnow_C {d : Nat} {σ φ : pS} (S : Stat σ) (L : RSlo σ) (W : RWin σ) {k m M : Int} {D : Int → Int → Int} (h : RX σ k φ) (hm : 0 ≤ m ∧ m < 480) (hD : DM σ M D φ) : pC mX11_snowAt d [(2, 68), (0, m)] φ (fun r ψ => r = none ∧ dFr φ ψ ∧ DM σ M (dSnow σ k m D) ψ) := by
  have b2 := L.2.2.2.2.2.1.2
  have b0 := L.2.2.2.2.2.1.1
  have loop : ∀ (n i : Nat) (ψ : pS), (i : Int) + n = rd σ 68 31 → (ψ.1 = φ.1 ∧ ∀ a x : Int, a ≠ 127 → rd ψ a x = rd φ a x) → (∀ r : Int, 0 ≤ r → r < rd σ 68 31 → rd ψ 127 r = if r < (i : Int) then dSnow σ k m D 127 r else D 127 r) → pR mX11_snowAt d 2 [(2, 68), (0, m), (0, (i : Int))] [] ψ (fun r ψ => r = none ∧ dFr φ ψ ∧ DM σ M (dSnow σ k m D) ψ) := fun n => by
    induction n with
    | zero =>
      intro i ψ hi F e
      have rx := h.fr F.1 (fun a x _ p => F.2 a x (by omega))
      have e31 : rd ψ 68 31 = rd σ 68 31 := rx.2.1 _ _ (by omega)
      refine g_X11_snowAt_2 (Nat.zero_le d) (S.eq rx.1) m (i : Int) (by unfold inR; omega) (by rw [e31]; unfold inR; omega) (fun _ => ⟨rfl, ⟨F.1, fun a x a1 a2 => F.2 a x (by omega)⟩, ?_⟩) (fun c => by rw [e31] at c; omega) (fun c => by rw [e31] at c; omega) (fun c => by rw [e31] at c; omega) (fun c => by rw [e31] at c; omega) (fun c => by rw [e31] at c; omega) (fun c => by rw [e31] at c; omega) (fun c => by rw [e31] at c; omega) (fun c => by rw [e31] at c; omega) (fun c => by rw [e31] at c; omega) (fun c => by rw [e31] at c; omega) (fun c => by rw [e31] at c; omega) (fun c => by rw [e31] at c; omega)
      exact ⟨fun p p0 p1 => by rw [F.2 _ _ (by decide), F.2 _ _ (by decide)]; exact hD.1 p p0 p1, fun l l0 l1 => by rw [F.2 _ _ (by decide), F.2 _ _ (by decide)]; exact hD.2.1 l l0 l1, fun r r0 r1 => by rw [e r r0 r1, if_pos (by omega)], fun w w0 w1 => by rw [F.2 _ _ (by decide)]; exact hD.2.2.2.1 w w0 w1, fun c c0 c1 => by rw [F.2 _ _ (by decide)]; exact hD.2.2.2.2 c c0 c1⟩
    | succ n ih =>
      intro i ψ hi F e
      have rx := h.fr F.1 (fun a x _ p => F.2 a x (by omega))
      have e31 : rd ψ 68 31 = rd σ 68 31 := rx.2.1 _ _ (by omega)
      have kl := rx.2.2.1 (m / 60) (by omega) (by omega)
      have wr0 := wWind_R W k (m / 60).toNat
      have e123 : rd ψ 123 (i : Int) = rd σ 123 (i : Int) := rx.2.1 _ _ (by omega)
      have ei := e (i : Int) (by omega) (by omega)
      rw [if_neg (by omega)] at ei
      have sn : dSnow σ k m D 127 (i : Int) = D 127 (i : Int) + (if m % 60 = 0 then 10 * wFresh σ k (m / 60) else 0) + (if wWind σ k (m / 60).toNat < 30 then rd σ 123 (i : Int) else 0) := rfl
      have nx : ∀ ξ : pS, (ξ.1 = ψ.1 ∧ ∀ a x : Int, ¬ (a = 127 ∧ x = (i : Int)) → rd ξ a x = rd ψ a x) → rd ξ 127 (i : Int) = dSnow σ k m D 127 (i : Int) → pR mX11_snowAt d 2 [(2, 68), (0, m), (0, (i : Int) + 1)] [] ξ (fun r ψ => r = none ∧ dFr φ ψ ∧ DM σ M (dSnow σ k m D) ψ) := fun ξ q e2 => by
        rw [show (i : Int) + 1 = ((i + 1 : Nat) : Int) by omega]
        refine ih (i + 1) ξ (by omega) ⟨q.1.trans F.1, fun a x c => (q.2 a x (fun z => c z.1)).trans (F.2 a x c)⟩ (fun r r0 r1 => ?_)
        by_cases z : r = (i : Int)
        · rw [z, e2, if_pos (by omega)]
        · rw [q.2 _ _ (by omega), e r r0 r1]
          by_cases y : r < (i : Int)
          · rw [if_pos y, if_pos (by omega)]
          · rw [if_neg y, if_neg (by omega)]
      refine g_X11_snowAt_2 (Nat.zero_le d) (S.eq rx.1) m (i : Int) (by unfold inR; omega) (by rw [e31]; unfold inR; omega) (fun c => by rw [e31] at c; omega) (fun _ => by omega) (fun _ => by unfold inR; omega) (fun _ _ => by omega) (fun _ _ => by rw [kl.1]; unfold inR; omega) (fun _ c3 c5 => nx _ ⟨rfl, fun _ _ _ => rfl⟩ ?_) (fun _ _ _ => by omega) (fun _ c3 c6 => nx _ ⟨rfl, fun a x p => rd_wr_n p⟩ ?_) (fun _ _ => by omega) (fun _ _ => by omega) (fun _ _ => by rw [kl.1]; unfold inR; omega) (fun _ c4 c7 => nx _ ⟨rfl, fun a x p => rd_wr_n p⟩ ?_) (fun _ c4 c8 => nx _ ⟨rfl, fun a x p => by rw [rd_wr_n p, rd_wr_n p]⟩ ?_)
      · rw [kl.1] at c5
        rw [sn, if_neg c3, if_neg (by omega), ei]; omega
      · rw [kl.1] at c6
        rw [sn, if_neg c3, if_pos c6, rd_wr_same, ei, e123]; omega
      · rw [kl.1] at c7
        rw [sn, if_pos c4, if_neg (by omega), rd_wr_same, ei, kl.2]; omega
      · rw [kl.1] at c8
        rw [sn, if_pos c4, if_pos c8, rd_wr_same, ei, kl.2, e123]
  exact g_X11_snowAt_0 (Nat.zero_le d) (S.eq h.1) m (loop (rd σ 68 31).toNat 0 φ (by omega) ⟨rfl, fun _ _ _ => rfl⟩ (fun r r0 r1 => by rw [if_neg (by omega)]; exact hD.2.2.1 r r0 r1))
theorem canTake_C {d : Nat} {σ φ : pS} (S : Stat σ) (L : RSlo σ) {k m M w : Int} {D : Int → Int → Int} (h : RX σ k φ) (hm : 0 ≤ m ∧ m < 480) (hD : DM σ M D φ) (hS : dSn σ D) (hw : wyS σ w = true) : pC mX11_canTake d [(2, 68), (0, w), (0, m)] φ (fun r ψ => r = some (0, b2i (vCT φ w m)) ∧ ψ = φ) ∧ vCT φ w m = dCan σ k m D w := by
  have b1 := L.2.2.2.1.2
  have b2 := L.2.2.2.2.2.1.2
  have tw := vWay_t hw
  have e105 : rd φ 105 (8 * w + m / 60) = b2i (shutS σ k w (m / 60)) := h.2.2.2 w (by omega) (by omega) (m / 60) (by omega) (by omega)
  have e82 : rd φ 82 w = rd σ 82 w := h.2.1 _ _ (by omega)
  have r82 : w < 6 → inR (rd φ 82 w) := fun c => by rw [e82]; have := L.2.2.2.2.2.2.2.2.2.2.1 w (by omega) (by omega); unfold inR; omega
  have e127 : 6 ≤ w → rd φ 127 (w - 6) = D 127 (w - 6) := fun c => hD.2.2.1 _ (by omega) (by omega)
  constructor
  · refine g_X11_canTake_0 (Nat.zero_le d) (S.eq h.1) w m (by omega) (by omega) (by rw [e105]; exact b2i_R _) (fun _ => by unfold inR; omega) (fun _ _ => by omega) (fun _ c => by rw [e127 c]; have := hS w c hw; unfold inR; omega) (fun c1 c3 c5 => ⟨?_, rfl⟩) (fun c1 c3 c6 => ⟨?_, rfl⟩) (fun _ _ => by omega) (fun _ _ => by unfold inR; omega) (fun _ c => r82 c) (fun c1 c4 c7 => ⟨?_, rfl⟩) (fun c1 c4 c8 => ⟨?_, rfl⟩) (fun c2 => ⟨?_, rfl⟩)
    · unfold vCT; exact b2i_zero (by omega)
    · unfold vCT; exact b2i_one ⟨c1, Or.inr ⟨c3, c6⟩⟩
    · unfold vCT; exact b2i_zero (by omega)
    · unfold vCT; exact b2i_one ⟨c1, Or.inl ⟨c4, c8⟩⟩
    · unfold vCT; exact b2i_zero (fun z => c2 z.1)
  · unfold vCT dCan
    rw [e105, e82]
    cases shutS σ k w (m / 60)
    · rw [Bool.not_false, Bool.true_and]
      by_cases c : w < 6
      · congr 1
        apply propext
        constructor
        · intro z; exact Or.inl (by omega)
        · intro z; exact ⟨rfl, Or.inl (by omega)⟩
      · rw [e127 (by omega)]
        congr 1
        apply propext
        constructor
        · intro z; exact Or.inr (by omega)
        · intro z; exact ⟨rfl, Or.inr (by omega)⟩
    · rw [Bool.not_true, Bool.false_and]
      exact decide_eq_false (fun z => absurd z.1 (by decide))
theorem mTake_C {d : Nat} {σ φ : pS} (hd : 1 ≤ d) (S : Stat σ) (L : RSlo σ) (C : RCro σ) {k m M p : Int} {D : Int → Int → Int} (h : RX σ k φ) (hp : 0 ≤ p ∧ p < 10) (hm : 0 ≤ m ∧ m < 480) (hD : DM σ M D φ) (hS : dSn σ D) (hN : dNx σ D) : pC mX11_takeTurn d [(2, 68), (0, p), (0, m)] φ (fun r ψ => (r = some (0, 0) ∧ dOne σ k m p D = none ∧ ψ = φ) ∨ (∃ T, r = some (0, 1) ∧ dOne σ k m p D = some T ∧ dFr φ ψ ∧ DM σ M T ψ)) := by
  have b1 := L.2.2.2.1.2
  have b2 := L.2.2.2.2.2.1.2
  have S2 := S.eq h.1
  have cp := dOk_p C hp
  have np := hN p hp.1 hp.2
  have e121 : rd φ 121 p = rd σ 121 p := h.2.1 _ _ (by omega)
  have e122 : rd φ 122 p = D 122 p := (hD.1 p hp.1 hp.2).2
  have loop : ∀ (n : Nat) (x3 : Int) (u4 : pV), u4.1 ≠ 1 → 0 ≤ x3 → x3 + n = rd σ 121 p → dSeek (fun j => dCan σ k m D (dWay σ p (D 122 p + j))) (rd σ 121 p).toNat 0 = dSeek (fun j => dCan σ k m D (dWay σ p (D 122 p + j))) n x3 → pR mX11_takeTurn d 2 [(2, 68), (0, p), (0, m), (0, x3), u4] [] φ (fun r ψ => (r = some (0, 0) ∧ dOne σ k m p D = none ∧ ψ = φ) ∨ (∃ T, r = some (0, 1) ∧ dOne σ k m p D = some T ∧ dFr φ ψ ∧ DM σ M T ψ)) := fun n => by
    induction n with
    | zero =>
      intro x3 u4 hu x0 x1 sk
      refine g_X11_takeTurn_2 hd S2 p m x3 u4 hu hp (by unfold inR; omega) (by rw [e121]; unfold inR; omega) (fun _ => Or.inl ⟨rfl, ?_, rfl⟩) (fun c => by omega) (fun c => by omega) (fun c => by omega) (fun c => by omega) (fun c => by omega) (fun c => by omega) (fun c => by omega) (fun c => by omega) (fun c => by omega) (fun c => by omega) (fun c => by omega) (fun c => by omega) (fun c => by omega)
      unfold dOne
      rw [sk]
      rfl
    | succ n ih =>
      intro x3 u4 hu x0 x1 sk
      have pos : 0 < rd σ 121 p := by omega
      have m0 := Int.emod_nonneg (D 122 p + x3) (b := rd σ 121 p) (by omega)
      have m1 := Int.emod_lt_of_pos (D 122 p + x3) pos
      have n0 := Int.emod_nonneg (D 122 p + x3 + 1) (b := rd σ 121 p) (by omega)
      have cw := cp.2.2.2 _ m0 m1
      have e120 : rd φ 120 (6 * p + (rd φ 122 p + x3) % rd φ 121 p) = dWay σ p (D 122 p + x3) := by
        rw [e121, e122]; exact h.2.1 _ _ (by omega)
      have ewd : rV σ p ((D 122 p + x3) % rd σ 121 p) = dWay σ p (D 122 p + x3) := rfl
      rw [ewd] at cw
      have ct := canTake_C (d := 0) S L h hm hD hS cw.2.1
      have tw := vWay_t cw.2.1
      have lw := L.2.2.2.2.2.2.2.2.2.1 _ cw.2.1
      generalize hwg : dWay σ p (D 122 p + x3) = w at *
      have e79 : rd φ 79 w = rd σ 79 w := h.2.1 _ _ (by omega)
      have e78 : rd φ 78 w = rd σ 78 w := h.2.1 _ _ (by omega)
      have one : dCan σ k m D w = true → dOne σ k m p D = some (dTake σ m p w ((D 122 p + x3 + 1) % rd σ 121 p) D) := fun c => by
        unfold dOne
        rw [sk]
        unfold dSeek
        rw [if_pos (by show dCan σ k m D (dWay σ p (D 122 p + x3)) = true; rw [hwg]; exact c)]
        show some (dTake σ m p (dWay σ p (D 122 p + x3)) _ D) = _
        rw [hwg]
      refine g_X11_takeTurn_2 hd S2 p m x3 u4 hu hp (by unfold inR; omega) (by rw [e121]; unfold inR; omega) (fun c => by omega) (fun _ => by omega) (fun _ => by omega) (fun _ => by rw [e121, e122]; omega) (fun _ => by rw [e120]; exact ct.1) (fun _ _ => by omega) (fun _ _ => by rw [e120]; unfold inR; omega) (fun _ _ c5 => by rw [e120] at c5 ⊢; omega) (fun _ _ c5 => by rw [e120] at c5 ⊢; omega) (fun _ _ c5 => by rw [e120] at c5 ⊢; rw [e79, e78]; omega) (fun _ c3 c5 => Or.inr ?_) (fun _ _ c6 => by rw [e120] at c6 ⊢; omega) (fun _ c3 c6 => Or.inr ?_) (fun _ c4 => ?_)
      · rw [e120] at c3 c5
        rw [ct.2] at c3
        refine ⟨_, rfl, one c3, ⟨rfl, fun a x a1 a2 => by rw [rd_wr_n (by omega), rd_wr_n (by omega), rd_wr_n (by omega), rd_wr_n (by omega), rd_wr_n (by omega)]⟩, ?_⟩
        rw [e120, e121, e122, e79, e78]
        have f124 : ∀ i : Int, dTake σ m p w ((D 122 p + x3 + 1) % rd σ 121 p) D 124 i = if i = p then D 124 i - 1 else D 124 i := fun i => rfl
        have f122 : ∀ i : Int, dTake σ m p w ((D 122 p + x3 + 1) % rd σ 121 p) D 122 i = if i = p then (D 122 p + x3 + 1) % rd σ 121 p else D 122 i := fun i => rfl
        have f125 : ∀ i : Int, dTake σ m p w ((D 122 p + x3 + 1) % rd σ 121 p) D 125 i = D 125 i + (if i = w ∧ w < 6 then 1 else 0) := fun i => rfl
        have f126 : ∀ i : Int, dTake σ m p w ((D 122 p + x3 + 1) % rd σ 121 p) D 126 i = D 126 i + (if i = 10 * (m + rd σ 79 w) + rd σ 78 w ∧ 6 ≤ w then 1 else 0) := fun i => rfl
        have f127 : ∀ i : Int, dTake σ m p w ((D 122 p + x3 + 1) % rd σ 121 p) D 127 i = D 127 i + (if i = w - 6 ∧ 6 ≤ w then -1 else 0) := fun i => rfl
        have f128 : ∀ i : Int, dTake σ m p w ((D 122 p + x3 + 1) % rd σ 121 p) D 128 i = D 128 i + (if i = w ∧ 6 ≤ w then 1 else 0) := fun i => rfl
        have f129 : ∀ i : Int, dTake σ m p w ((D 122 p + x3 + 1) % rd σ 121 p) D 129 i = D 129 i := fun i => Int.add_zero _
        refine ⟨fun q q0 q1 => ⟨?_, ?_⟩, fun l l0 l1 => ⟨?_, ?_⟩, fun r r0 r1 => ?_, fun v v0 v1 => ?_, fun c c0 c1 => ?_⟩
        · have := (hD.1 q q0 q1).1
          rw [f124, rd_wr_n (by omega), rd_wr_n (by omega), rd_wr_n (by omega), rd_wr]
          by_cases z : q = p
          · rw [if_pos ⟨rfl, z⟩, if_pos z, ← z, this]
          · rw [if_neg (fun y => z y.2), if_neg z, rd_wr_n (by omega)]; exact this
        · rw [f122, rd_wr_n (by omega), rd_wr_n (by omega), rd_wr_n (by omega), rd_wr_n (by omega), rd_wr]
          by_cases z : q = p
          · rw [if_pos ⟨rfl, z⟩, if_pos z]
          · rw [if_neg (fun y => z y.2), if_neg z]; exact (hD.1 q q0 q1).2
        · rw [f125, rd_wr_n (by omega), rd_wr_n (by omega), rd_wr_n (by omega), rd_wr_n (by omega), rd_wr_n (by omega), if_neg (by omega)]
          have := (hD.2.1 l l0 l1).1; omega
        · rw [f129, rd_wr_n (by omega), rd_wr_n (by omega), rd_wr_n (by omega), rd_wr_n (by omega), rd_wr_n (by omega)]
          exact (hD.2.1 l l0 l1).2
        · have := hD.2.2.1 r r0 r1
          rw [f127, rd_wr_n (by omega), rd_wr]
          by_cases z : r = w - 6
          · rw [if_pos ⟨rfl, z⟩, if_pos ⟨z, c5⟩, ← z, this]; omega
          · rw [if_neg (fun y => z y.2), if_neg (fun y => z y.1), rd_wr_n (by omega), rd_wr_n (by omega), rd_wr_n (by omega)]; omega
        · have := hD.2.2.2.1 v v0 v1
          rw [f128, rd_wr_n (by omega), rd_wr_n (by omega), rd_wr]
          by_cases z : v = w
          · rw [if_pos ⟨rfl, z⟩, if_pos ⟨z, c5⟩, ← z, this]
          · rw [if_neg (fun y => z y.2), if_neg (fun y => z y.1), rd_wr_n (by omega), rd_wr_n (by omega)]; omega
        · have := hD.2.2.2.2 c c0 c1
          rw [f126, rd_wr]
          by_cases z : c = 10 * (m + rd σ 79 w) + rd σ 78 w
          · rw [if_pos ⟨rfl, z⟩, if_pos ⟨z, c5⟩, ← z, this]
          · rw [if_neg (fun y => z y.2), if_neg (fun y => z y.1), rd_wr_n (by omega), rd_wr_n (by omega), rd_wr_n (by omega), rd_wr_n (by omega)]; omega
      · rw [e120] at c3 c6
        rw [ct.2] at c3
        refine ⟨_, rfl, one c3, ⟨rfl, fun a x a1 a2 => by rw [rd_wr_n (by omega), rd_wr_n (by omega), rd_wr_n (by omega)]⟩, ?_⟩
        rw [e120, e121, e122]
        have f124 : ∀ i : Int, dTake σ m p w ((D 122 p + x3 + 1) % rd σ 121 p) D 124 i = if i = p then D 124 i - 1 else D 124 i := fun i => rfl
        have f122 : ∀ i : Int, dTake σ m p w ((D 122 p + x3 + 1) % rd σ 121 p) D 122 i = if i = p then (D 122 p + x3 + 1) % rd σ 121 p else D 122 i := fun i => rfl
        have f125 : ∀ i : Int, dTake σ m p w ((D 122 p + x3 + 1) % rd σ 121 p) D 125 i = D 125 i + (if i = w ∧ w < 6 then 1 else 0) := fun i => rfl
        have f126 : ∀ i : Int, dTake σ m p w ((D 122 p + x3 + 1) % rd σ 121 p) D 126 i = D 126 i + (if i = 10 * (m + rd σ 79 w) + rd σ 78 w ∧ 6 ≤ w then 1 else 0) := fun i => rfl
        have f127 : ∀ i : Int, dTake σ m p w ((D 122 p + x3 + 1) % rd σ 121 p) D 127 i = D 127 i + (if i = w - 6 ∧ 6 ≤ w then -1 else 0) := fun i => rfl
        have f128 : ∀ i : Int, dTake σ m p w ((D 122 p + x3 + 1) % rd σ 121 p) D 128 i = D 128 i + (if i = w ∧ 6 ≤ w then 1 else 0) := fun i => rfl
        have f129 : ∀ i : Int, dTake σ m p w ((D 122 p + x3 + 1) % rd σ 121 p) D 129 i = D 129 i := fun i => Int.add_zero _
        refine ⟨fun q q0 q1 => ⟨?_, ?_⟩, fun l l0 l1 => ⟨?_, ?_⟩, fun r r0 r1 => ?_, fun v v0 v1 => ?_, fun c c0 c1 => ?_⟩
        · have := (hD.1 q q0 q1).1
          rw [f124, rd_wr_n (by omega), rd_wr]
          by_cases z : q = p
          · rw [if_pos ⟨rfl, z⟩, if_pos z, ← z, this]
          · rw [if_neg (fun y => z y.2), if_neg z, rd_wr_n (by omega)]; exact this
        · rw [f122, rd_wr_n (by omega), rd_wr_n (by omega), rd_wr]
          by_cases z : q = p
          · rw [if_pos ⟨rfl, z⟩, if_pos z]
          · rw [if_neg (fun y => z y.2), if_neg z]; exact (hD.1 q q0 q1).2
        · have := (hD.2.1 l l0 l1).1
          rw [f125, rd_wr]
          by_cases z : l = w
          · rw [if_pos ⟨rfl, z⟩, if_pos ⟨z, c6⟩, ← z, this]
          · rw [if_neg (fun y => z y.2), if_neg (fun y => z y.1), rd_wr_n (by omega), rd_wr_n (by omega)]; omega
        · rw [f129, rd_wr_n (by omega), rd_wr_n (by omega), rd_wr_n (by omega)]
          exact (hD.2.1 l l0 l1).2
        · have := hD.2.2.1 r r0 r1
          rw [f127, rd_wr_n (by omega), rd_wr_n (by omega), rd_wr_n (by omega), if_neg (by omega)]; omega
        · have := hD.2.2.2.1 v v0 v1
          rw [f128, rd_wr_n (by omega), rd_wr_n (by omega), rd_wr_n (by omega), if_neg (by omega)]; omega
        · have := hD.2.2.2.2 c c0 c1
          rw [f126, rd_wr_n (by omega), rd_wr_n (by omega), rd_wr_n (by omega), if_neg (by omega)]; omega
      · rw [e120, ct.2] at c4
        refine ih (x3 + 1) (0, _) (show (0 : Nat) ≠ 1 by decide) (by omega) (by omega) ?_
        rw [sk]
        conv => lhs; unfold dSeek
        rw [if_neg (by show ¬ dCan σ k m D (dWay σ p (D 122 p + x3)) = true; rw [hwg, c4]; decide)]
  exact g_X11_takeTurn_0 hd S2 p m (loop (rd σ 121 p).toNat 0 (9, 0) (by decide) (by omega) (by omega) rfl)
