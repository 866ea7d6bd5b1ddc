/-! a day: the reference runs it through -/
def LogM (σ : pS) (k : Int) (m : Nat) (τ : pS) : Prop := ∀ t : Nat, t < m → (∀ p : Int, 0 ≤ p → p < 10 → rd τ 130 (10 * (t : Int) + p) = dDay σ k (t + 1) 124 p ∧ rd τ 131 (10 * (t : Int) + p) = qS σ (dDay σ k (t + 1)) p (rd σ 68 30).toNat) ∧ ∀ r : Int, 0 ≤ r → r < rd σ 68 31 → rd τ 132 (7 * (t : Int) + r) = dDay σ k (t + 1) 127 r
theorem LogM.fr {σ τ υ : pS} {k : Int} {m : Nat} (h : LogM σ k m τ) (q : ∀ a i : Int, a = 130 ∨ a = 131 ∨ a = 132 → rd υ a i = rd τ a i) : LogM σ k m υ := fun t ht => ⟨fun p p0 p1 => by rw [q 130 _ (by decide), q 131 _ (by decide)]; exact (h t ht).1 p p0 p1, fun r r0 r1 => by rw [q 132 _ (by decide)]; exact (h t ht).2 r r0 r1⟩
theorem DM.fr {σ φ ψ : pS} {M M2 : Int} {D T : Int → Int → Int} (h : DM σ M D φ) (hm : M ≤ M2) (q : ∀ a i : Int, a = 122 ∨ (124 ≤ a ∧ a ≤ 129) → rd ψ a i = rd φ a i) (t : ∀ a i : Int, (a = 126 → 10 * M2 ≤ i) → T a i = D a i) : DM σ M2 T ψ := ⟨fun p p0 p1 => by rw [q 124 _ (by decide), q 122 _ (by decide), t 124 _ (by omega), t 122 _ (by omega)]; exact h.1 p p0 p1, fun l l0 l1 => by rw [q 125 _ (by decide), q 129 _ (by decide), t 125 _ (by omega), t 129 _ (by omega)]; exact h.2.1 l l0 l1, fun r r0 r1 => by rw [q 127 _ (by decide), t 127 _ (by omega)]; exact h.2.2.1 r r0 r1, fun w w0 w1 => by rw [q 128 _ (by decide), t 128 _ (by omega)]; exact h.2.2.2.1 w w0 w1, fun c c0 c1 => by rw [q 126 _ (by decide), t 126 _ (fun _ => c0)]; exact h.2.2.2.2 c (by omega) c1⟩
def mdFr (φ ψ : pS) : Prop := ψ.1 = φ.1 ∧ ∀ a i : Int, a ≠ 122 → ¬ (124 ≤ a ∧ a ≤ 132) → rd ψ a i = rd φ a i
theorem mdFr.tr {φ ψ ξ : pS} (h : mdFr φ ψ) (g : mdFr ψ ξ) : mdFr φ ξ := ⟨g.1.trans h.1, fun a i p q => (g.2 a i p q).trans (h.2 a i p q)⟩
theorem dFr.md {φ ψ : pS} (h : dFr φ ψ) : mdFr φ ψ := ⟨h.1, fun a i p q => h.2 a i p (by omega)⟩
def dayM (σ : pS) (k : Int) (φ : pS) (r : Option pV) (ψ : pS) : Prop := r = some (0, dAns σ k) ∧ mdFr φ ψ ∧ DM σ 480 (dDay σ k 480) ψ ∧ LogM σ k 480 ψ
theorem mDays_C {d : Nat} {σ φ : pS} (hd : 3 ≤ d) (S : Stat σ) (L : RSlo σ) (W : RWin σ) (C : RCro σ) {k : Int} (h : RX σ k φ) : ∀ (n i : Nat) (u3 u4 : pV) (ψ : pS), u3.1 ≠ 1 → u4.1 ≠ 1 → i + n = 480 → mdFr φ ψ → DM σ (i : Int) (dDay σ k i) ψ → LogM σ k i ψ → pR mX11_day d 145 [(2, 68), (0, k), (0, (i : Int)), u3, u4] [] ψ (dayM σ k φ)
  | 0, i, u3, u4, ψ, hu3, hu4, hi, F, DD, LG => by
    have e480 : i = 480 := by omega
    subst e480
    have rx := h.fr F.1 F.2
    have e32 : rd ψ 68 32 = rd σ 68 32 := rx.2.1 _ _ (by omega)
    have hh := L.2.2.2.2.2.2.2.2.1
    refine g_X11_day_145 (Q1 := fun _ _ => True) hd (S.eq rx.1) k _ u3 u4 hu3 hu4 (by decide) (fun _ => by rw [e32]; exact hh) (fun _ => by rw [e32]; omega) (fun _ => ⟨?_, F, DD, LG⟩) (fun c => absurd c (by decide)) (fun c => absurd c (by decide))
    rw [e32, (DD.1 _ hh.1 hh.2).1]
    have := ((LG 479 (by decide)).1 _ hh.1 hh.2).2
    rw [show (10 : Int) * ((479 : Nat) : Int) + rd σ 68 32 = 4790 + rd σ 68 32 by omega] at this
    rw [this]
    rfl
  | n + 1, i, u3, u4, ψ, hu3, hu4, hi, F, DD, LG => by
    obtain ⟨Z, hZ⟩ : ∃ Z : Nat, Z = 5410 := ⟨_, rfl⟩
    have rx := h.fr F.1 F.2
    have hh := L.2.2.2.2.2.2.2.2.1
    have b1 := L.2.2.2.1.2
    have b0 := L.2.2.2.1.1
    have hm : 0 ≤ (i : Int) ∧ (i : Int) < 480 := by omega
    have t := totA_R C (i : Int)
    have t1 := totA_R C ((i : Int) + 1)
    have ok0 := ((dDay_ok hZ W C L (k := k) i (by omega)).snow W C L (k := k)).come hZ C L hm
    rw [← t.2.2.1] at ok0
    have okA := fun j hj => dAll_ok hZ C L (k := k) hm (by omega) (by omega) ok0 j hj
    generalize hB : dCome σ (i : Int) (dSnow σ k (i : Int) (dDay σ k i)) = B at ok0 okA
    have okL := fun l hl => dLifts_ok hZ L (k := k) hm t1.2.1 (okA 10 (Nat.le_refl _)) l hl
    have eMin : dDay σ k (i + 1) = dLifts σ k (i : Int) (dAll σ k (i : Int) B 10) (rd σ 68 30).toNat := by rw [← hB]; rfl
    have lifts : ∀ (n2 l : Nat) (u : pV) (χ : pS), u.1 ≠ 1 → (l : Int) + n2 = rd σ 68 30 → mdFr φ χ → DM σ ((i : Int) + 1) (dLifts σ k (i : Int) (dAll σ k (i : Int) B 10) l) χ → LogM σ k i χ → pR mX11_day d 300 [(2, 68), (0, k), (0, (i : Int)), (0, (l : Int)), u] [] χ (dayM σ k φ) := fun n2 => by
      induction n2 with
      | zero =>
        intro l u χ hu hl F2 D2 LG2
        have rx2 := h.fr F2.1 F2.2
        have e30 : rd χ 68 30 = rd σ 68 30 := rx2.2.1 _ _ (by omega)
        have el : (rd σ 68 30).toNat = l := by omega
        rw [el] at eMin
        rw [← eMin] at D2
        refine g_X11_day_300 (Q1 := fun r ξ => r = none ∧ mNt σ (i : Int) (dDay σ k (i + 1)) χ ξ) (Q2 := fun _ _ => True) hd (S.eq rx2.1) k (i : Int) (l : Int) u hu (by unfold inR; omega) (by rw [e30]; unfold inR; omega) (fun _ => mNote_C S L rx2 hm D2) (fun _ τ1 _ q1 => ?_) (fun c => by rw [e30] at c; omega) (fun c => by rw [e30] at c; omega)
        obtain ⟨-, ⟨f1, f2, f3, f4⟩, k1, k2⟩ := q1
        rw [show (i : Int) + 1 = ((i + 1 : Nat) : Int) by omega] at D2 ⊢
        refine mDays_C hd S L W C h n (i + 1) (0, _) u τ1 (show (0 : Nat) ≠ 1 by decide) hu (by omega) (F2.tr ⟨f1, fun a x a1 a2 => f2 a x (by omega) (by omega) (by omega)⟩) (D2.fr (Int.le_refl _) (fun a x p => f2 a x (by omega) (by omega) (by omega)) (fun _ _ _ => rfl)) (fun t ht => ?_)
        by_cases z : t = i
        · subst z; exact ⟨k1, k2⟩
        · have lt := LG2 t (by omega)
          have b2 := L.2.2.2.2.2.1.2
          exact ⟨fun p p0 p1 => by rw [f3 130 _ (Or.inl rfl) (by omega), f3 131 _ (Or.inr rfl) (by omega)]; exact lt.1 p p0 p1, fun r r0 r1 => by rw [f4 _ (by omega)]; exact lt.2 r r0 r1⟩
      | succ n2 ih2 =>
        intro l u χ hu hl F2 D2 LG2
        have rx2 := h.fr F2.1 F2.2
        have e30 : rd χ 68 30 = rd σ 68 30 := rx2.2.1 _ _ (by omega)
        refine g_X11_day_300 (Q1 := fun _ _ => True) (Q2 := fun r ξ => r = none ∧ dFr χ ξ ∧ DM σ ((i : Int) + 1) (dLift σ k (i : Int) (l : Int) (dLifts σ k (i : Int) (dAll σ k (i : Int) B 10) l)) ξ) hd (S.eq rx2.1) k (i : Int) (l : Int) u hu (by unfold inR; omega) (by rw [e30]; unfold inR; omega) (fun c => by rw [e30] at c; omega) (fun c => by rw [e30] at c; omega) (fun _ => mLift_C (Nat.le_refl 2) S L hZ rx2 ⟨by omega, by omega⟩ hm D2 (okL l (by omega)) t1.2.1) (fun _ τ2 _ q2 => ?_)
        rw [show (l : Int) + 1 = ((l + 1 : Nat) : Int) by omega]
        exact ih2 (l + 1) u τ2 hu (by omega) (F2.tr q2.2.1.md) q2.2.2 (LG2.fr (fun a x p => q2.2.1.2 a x (by omega) (by omega)))
    have places : ∀ (n2 j : Nat) (u : pV) (χ : pS), u.1 ≠ 1 → j + n2 = 10 → mdFr φ χ → DM σ ((i : Int) + 1) (dAll σ k (i : Int) B j) χ → LogM σ k i χ → pR mX11_day d 237 [(2, 68), (0, k), (0, (i : Int)), (0, (j : Int)), u] [] χ (dayM σ k φ) := fun n2 => by
      induction n2 with
      | zero =>
        intro j u χ hu hj F2 D2 LG2
        have e10 : j = 10 := by omega
        subst e10
        exact g_X11_day_237 hd (S.eq (F2.1.trans h.1)) k (i : Int) _ u hu (by decide) (fun _ => lifts (rd σ 68 30).toNat 0 u χ hu (by omega) F2 D2 LG2) (fun c => absurd c (by decide)) (fun c => absurd c (by decide)) (fun c => absurd c (by decide)) (fun c => absurd c (by decide))
      | succ n2 ih2 =>
        intro j u χ hu hj F2 D2 LG2
        have ok := okA j (by omega)
        have m0 := ok.1.1 (j : Int) (by omega) (by omega)
        have m1 := (ok.1.le hZ).1 (j : Int) (by omega) (by omega)
        rw [ok.2.1] at m1
        have e124 := (D2.1 (j : Int) (by omega) (by omega)).1
        generalize hA : dAll σ k (i : Int) B j = A at ok m0 m1 e124 D2
        have nxt : ∀ (χ : pS) (x4 : Int), mdFr φ χ → DM σ ((i : Int) + 1) (dTurns σ k (i : Int) (j : Int) (A 124 (j : Int)).toNat A) χ → LogM σ k i χ → pR mX11_day d 237 [(2, 68), (0, k), (0, (i : Int)), (0, (j : Int) + 1), (0, x4)] [] χ (dayM σ k φ) := fun χ x4 F3 D3 LG3 => by
          rw [show (j : Int) + 1 = ((j + 1 : Nat) : Int) by omega]
          refine ih2 (j + 1) (0, x4) χ (show (0 : Nat) ≠ 1 by decide) (by omega) F3 ?_ LG3
          have e : dAll σ k (i : Int) B (j + 1) = dTurns σ k (i : Int) (j : Int) (A 124 (j : Int)).toNat A := by rw [← hA]; rfl
          rw [e]; exact D3
        have stop : ∀ (χ : pS), mdFr φ χ → DM σ ((i : Int) + 1) (dTurns σ k (i : Int) (j : Int) (A 124 (j : Int)).toNat A) χ → LogM σ k i χ → pR mX11_day d 259 [(2, 68), (0, k), (0, (i : Int)), (0, (j : Int)), (0, 0)] [] χ (dayM σ k φ) := fun χ F3 D3 LG3 =>
          g_X11_day_259 (Q1 := fun _ _ => True) hd (S.eq (F3.1.trans h.1)) k (i : Int) (j : Int) 0 (by decide) (fun _ => nxt χ 0 F3 D3 LG3) (fun c => absurd rfl c) (fun c => absurd rfl c) (fun c => absurd rfl c) (fun c => absurd rfl c) (fun c => absurd rfl c) (fun c => absurd rfl c) (fun c => absurd rfl c)
        have turns : ∀ (n3 a : Nat) (χ : pS), (a : Int) + n3 = A 124 (j : Int) → 0 < n3 → mdFr φ χ → DM σ ((i : Int) + 1) (dTurns σ k (i : Int) (j : Int) a A) χ → dTurns σ k (i : Int) (j : Int) a A 124 (j : Int) = A 124 (j : Int) - a → LogM σ k i χ → pR mX11_day d 259 [(2, 68), (0, k), (0, (i : Int)), (0, (j : Int)), (0, 1)] [] χ (dayM σ k φ) := fun n3 => by
          induction n3 with
          | zero => intro a χ ha h0; omega
          | succ n3 ih3 =>
            intro a χ ha h0 F3 D3 e3 LG3
            have rx3 := h.fr F3.1 F3.2
            have okT := dTurns_ok C (k := k) (m := (i : Int)) (p := (j : Int)) ⟨by omega, by omega⟩ a (ok.sn L (by omega)) ok.2.2.1
            refine g_X11_day_259 (Q1 := fun r ξ => (r = some (0, 0) ∧ dOne σ k (i : Int) (j : Int) (dTurns σ k (i : Int) (j : Int) a A) = none ∧ ξ = χ) ∨ (∃ T, r = some (0, 1) ∧ dOne σ k (i : Int) (j : Int) (dTurns σ k (i : Int) (j : Int) a A) = some T ∧ dFr χ ξ ∧ DM σ ((i : Int) + 1) T ξ)) hd (S.eq rx3.1) k (i : Int) (j : Int) 1 (by decide) (fun c => absurd c (by decide)) (fun _ => mTake_C (Nat.le_refl 1) S L C rx3 ⟨by omega, by omega⟩ hm D3 okT.1 okT.2) (fun _ v1 bb τ1 _ q1 => by unfold inR; omega) (fun _ v1 bb τ1 _ q1 c3 => ?_) (fun _ v1 bb τ1 _ q1 c4 => by omega) (fun _ v1 bb τ1 _ q1 c4 => ?_) (fun _ v1 bb τ1 _ q1 c4 c5 => ?_) (fun _ v1 bb τ1 _ q1 c4 c6 => ?_)
            · rcases q1 with ⟨_, q2, q3⟩ | ⟨T, q2, _⟩
              · rw [q3]
                refine stop χ F3 ?_ LG3
                rw [show (A 124 (j : Int)).toNat = a + ((A 124 (j : Int)).toNat - a) by omega, dTurns_add, dTurns_none q2]
                exact D3
              · have : v1 = 1 := congrArg (fun o => (o.getD (0, 0)).2) q2
                omega
            all_goals
              rcases q1 with ⟨q2, _⟩ | ⟨T, _, qT, qF, qD⟩
              · have : v1 = 0 := congrArg (fun o => (o.getD (0, 0)).2) q2
                omega
            all_goals
              have eT := dTurns_succ qT
              have oT := (dOne_ok C ⟨by omega, by omega⟩ qT okT.1 okT.2).2.2
              have eq := (qD.1 (j : Int) (by omega) (by omega)).1
              rw [← eT] at oT qD eq
            · rw [eq, oT, e3]; unfold inR; omega
            · rw [eq, oT, e3] at c5
              refine stop τ1 (F3.tr qF.md) ?_ (LG3.fr (fun a x p => qF.2 a x (by omega) (by omega)))
              rw [show (A 124 (j : Int)).toNat = a + 1 by omega]
              exact qD
            · rw [eq, oT, e3] at c6
              exact ih3 (a + 1) τ1 (by omega) (by omega) (F3.tr qF.md) qD (by rw [oT, e3]; omega) (LG3.fr (fun a x p => qF.2 a x (by omega) (by omega)))
        refine g_X11_day_237 hd (S.eq (F2.1.trans h.1)) k (i : Int) (j : Int) u hu (by unfold inR; omega) (fun c => by omega) (fun _ => by omega) (fun _ => by rw [e124]; unfold inR; omega) (fun _ c3 => ?_) (fun _ c4 => ?_)
        · rw [e124] at c3
          refine stop χ F2 ?_ LG2
          rw [show (A 124 (j : Int)).toNat = 0 by omega]
          exact D2
        · rw [e124] at c4
          exact turns (A 124 (j : Int)).toNat 0 χ (by omega) (by omega) F2 D2 (by show A 124 (j : Int) = _; omega) LG2
    have come : ∀ (D0 : Int → Int → Int), (∀ a x : Int, a ≠ 124 → (a = 126 → 10 * ((i : Int) + 1) ≤ x) → B a x = D0 a x) → (∀ q : Int, 0 ≤ q → q < 10 → B 124 q = D0 124 q + D0 126 (10 * (i : Int) + q)) → ∀ (n2 j : Nat) (u : pV) (χ χ0 : pS), u.1 ≠ 1 → j + n2 = 10 → mdFr φ χ → DM σ (i : Int) D0 χ0 → (∀ a x : Int, a ≠ 124 → rd χ a x = rd χ0 a x) → (∀ q : Int, 0 ≤ q → q < 10 → rd χ 124 q = if q < (j : Int) then B 124 q else D0 124 q) → LogM σ k i χ → pR mX11_day d 203 [(2, 68), (0, k), (0, (i : Int)), (0, (j : Int)), u] [] χ (dayM σ k φ) := fun D0 hD0 hD1 n2 => by
      induction n2 with
      | zero =>
        intro j u χ χ0 hu hj F2 D2 fr e LG2
        have e10 : j = 10 := by omega
        subst e10
        refine g_X11_day_203 hd (S.eq (F2.1.trans h.1)) k (i : Int) _ u hu (by decide) (fun _ => places 10 0 u χ hu rfl F2 ⟨fun q q0 q1 => ⟨?_, ?_⟩, fun l l0 l1 => ⟨?_, ?_⟩, fun r r0 r1 => ?_, fun w w0 w1 => ?_, fun c c0 c1 => ?_⟩ LG2) (fun c => absurd c (by decide)) (fun c => absurd c (by decide)) (fun c => absurd c (by decide))
        · rw [e q q0 q1, if_pos (by omega)]; rfl
        · show _ = B 122 q
          rw [fr _ _ (by decide), hD0 _ _ (by decide) (by omega)]; exact (D2.1 q q0 q1).2
        · show _ = B 125 l
          rw [fr _ _ (by decide), hD0 _ _ (by decide) (by omega)]; exact (D2.2.1 l l0 l1).1
        · show _ = B 129 l
          rw [fr _ _ (by decide), hD0 _ _ (by decide) (by omega)]; exact (D2.2.1 l l0 l1).2
        · show _ = B 127 r
          rw [fr _ _ (by decide), hD0 _ _ (by decide) (by omega)]; exact D2.2.2.1 r r0 r1
        · show _ = B 128 w
          rw [fr _ _ (by decide), hD0 _ _ (by decide) (by omega)]; exact D2.2.2.2.1 w w0 w1
        · show _ = B 126 c
          rw [fr _ _ (by decide), hD0 _ _ (by decide) (fun _ => c0)]; exact D2.2.2.2.2 c (by omega) c1
      | succ n2 ih2 =>
        intro j u χ χ0 hu hj F2 D2 fr e LG2
        refine g_X11_day_203 hd (S.eq (F2.1.trans h.1)) k (i : Int) (j : Int) u hu (by unfold inR; omega) (fun c => by omega) (fun _ => by omega) (fun _ => by omega) (fun _ => ?_)
        rw [show (j : Int) + 1 = ((j + 1 : Nat) : Int) by omega]
        refine ih2 (j + 1) u _ χ0 hu (by omega) (F2.tr ⟨rfl, fun a x a1 a2 => rd_wr_n (by omega)⟩) D2 (fun a x a1 => by rw [rd_wr_n (by omega)]; exact fr a x a1) (fun q q0 q1 => ?_) (LG2.fr (fun a x p => rd_wr_n (by omega)))
        rw [rd_wr]
        by_cases z : q = (j : Int)
        · rw [if_pos ⟨rfl, z⟩, if_pos (by omega), z, hD1 _ (by omega) (by omega), e _ (by omega) (by omega), if_neg (by omega), fr 126 _ (by decide), D2.2.2.2.2 _ (by omega) (by omega)]
        · rw [if_neg (fun y => z y.2), e q q0 q1]
          by_cases y : q < (j : Int)
          · rw [if_pos y, if_pos (by omega)]
          · rw [if_neg y, if_neg (by omega)]
    have arrive : ∀ (n2 j : Nat) (u : pV) (χ χ0 : pS), u.1 ≠ 1 → (j : Int) + n2 = rd σ 68 77 → mdFr φ χ → DM σ (i : Int) (dSnow σ k (i : Int) (dDay σ k i)) χ0 → (∀ a x : Int, a ≠ 124 → rd χ a x = rd χ0 a x) → (∀ q : Int, 0 ≤ q → q < 10 → rd χ 124 q = dDay σ k i 124 q + (if q = rd σ 68 32 then sumF (fun n => if rd σ 118 n = (i : Int) then rd σ 119 n else 0) j else 0)) → LogM σ k i χ → pR mX11_day d 159 [(2, 68), (0, k), (0, (i : Int)), (0, (j : Int)), u] [] χ (dayM σ k φ) := fun n2 => by
      have c2 := C.2.2.1
      induction n2 with
      | zero =>
        intro j u χ χ0 hu hj F2 D2 fr e LG2
        have rx2 := h.fr F2.1 F2.2
        have e77 : rd χ 68 77 = rd σ 68 77 := rx2.2.1 _ _ (by omega)
        have ej : (rd σ 68 77).toNat = j := by omega
        refine g_X11_day_159 hd (S.eq rx2.1) k (i : Int) (j : Int) u hu (by unfold inR; omega) (by rw [e77]; unfold inR; omega) (fun _ => ?_) (fun c => by rw [e77] at c; omega) (fun c => by rw [e77] at c; omega) (fun c => by rw [e77] at c; omega) (fun c => by rw [e77] at c; omega) (fun c => by rw [e77] at c; omega) (fun c => by rw [e77] at c; omega)
        refine come (fun a x => if a = 124 then dDay σ k i 124 x + (if x = rd σ 68 32 then arS σ (i : Int) else 0) else dSnow σ k (i : Int) (dDay σ k i) a x) (fun a x a1 a2 => ?_) (fun q q0 q1 => ?_) 10 0 u χ χ hu rfl F2 ⟨fun q q0 q1 => ⟨?_, ?_⟩, fun l l0 l1 => ⟨?_, ?_⟩, fun r r0 r1 => ?_, fun w w0 w1 => ?_, fun c c0 c1 => ?_⟩ (fun _ _ _ => rfl) (fun q q0 q1 => ?_) LG2
        · show B a x = (if a = 124 then _ else _)
          rw [if_neg a1, ← hB]
          show (if a = 124 then _ else if a = 126 ∧ 10 * (i : Int) ≤ x ∧ x < 10 * (i : Int) + 10 then _ else _) = _
          rw [if_neg a1, if_neg (fun z => by have := a2 z.1; omega)]
        · show B 124 q = (if (124 : Int) = 124 then _ else _) + (if (126 : Int) = 124 then _ else _)
          rw [if_pos rfl, if_neg (show ¬ ((126 : Int) = 124) by decide), ← hB]
          rfl
        · show _ = (if (124 : Int) = 124 then _ else _)
          rw [if_pos rfl, e q q0 q1, ← ej]; rfl
        · show _ = (if (122 : Int) = 124 then _ else _)
          rw [if_neg (by decide), fr _ _ (by decide)]; exact (D2.1 q q0 q1).2
        · show _ = (if (125 : Int) = 124 then _ else _)
          rw [if_neg (by decide), fr _ _ (by decide)]; exact (D2.2.1 l l0 l1).1
        · show _ = (if (129 : Int) = 124 then _ else _)
          rw [if_neg (by decide), fr _ _ (by decide)]; exact (D2.2.1 l l0 l1).2
        · show _ = (if (127 : Int) = 124 then _ else _)
          rw [if_neg (by decide), fr _ _ (by decide)]; exact D2.2.2.1 r r0 r1
        · show _ = (if (128 : Int) = 124 then _ else _)
          rw [if_neg (by decide), fr _ _ (by decide)]; exact D2.2.2.2.1 w w0 w1
        · show _ = (if (126 : Int) = 124 then _ else _)
          rw [if_neg (by decide), fr _ _ (by decide)]; exact D2.2.2.2.2 c c0 c1
        · rw [if_neg (by omega)]
          show _ = (if (124 : Int) = 124 then _ else _)
          rw [if_pos rfl, e q q0 q1, ← ej]; rfl
      | succ n2 ih2 =>
        intro j u χ χ0 hu hj F2 D2 fr e LG2
        have rx2 := h.fr F2.1 F2.2
        have e77 : rd χ 68 77 = rd σ 68 77 := rx2.2.1 _ _ (by omega)
        have e32 : rd χ 68 32 = rd σ 68 32 := rx2.2.1 _ _ (by omega)
        have e118 : rd χ 118 (j : Int) = rd σ 118 (j : Int) := rx2.2.1 _ _ (by omega)
        have e119 : rd χ 119 (j : Int) = rd σ 119 (j : Int) := rx2.2.1 _ _ (by omega)
        have c3 := C.2.2.2.1 (j : Int) (by omega) (by omega)
        have es : sumF (fun n => if rd σ 118 n = (i : Int) then rd σ 119 n else 0) (j + 1) = sumF (fun n => if rd σ 118 n = (i : Int) then rd σ 119 n else 0) j + (if rd σ 118 (j : Int) = (i : Int) then rd σ 119 (j : Int) else 0) := rfl
        refine g_X11_day_159 hd (S.eq rx2.1) k (i : Int) (j : Int) u hu (by unfold inR; omega) (by rw [e77]; unfold inR; omega) (fun c => by rw [e77] at c; omega) (fun _ => by omega) (fun _ => by rw [e118]; unfold inR; omega) (fun _ => by unfold inR; omega) (fun _ c3 => ?_) (fun _ _ => by rw [e32]; exact hh) (fun _ c4 => ?_)
        · rw [e118] at c3
          rw [show (j : Int) + 1 = ((j + 1 : Nat) : Int) by omega]
          refine ih2 (j + 1) u χ χ0 hu (by omega) F2 D2 fr (fun q q0 q1 => ?_) LG2
          rw [e q q0 q1, es, if_neg c3, Int.add_zero]
        · rw [e118] at c4
          rw [show (j : Int) + 1 = ((j + 1 : Nat) : Int) by omega]
          refine ih2 (j + 1) u _ χ0 hu (by omega) (F2.tr ⟨rfl, fun a x a1 a2 => rd_wr_n (by omega)⟩) D2 (fun a x a1 => by rw [rd_wr_n (by omega)]; exact fr a x a1) (fun q q0 q1 => ?_) (LG2.fr (fun a x p => rd_wr_n (by omega)))
          rw [rd_wr, e32, e119, es, if_pos c4]
          by_cases z : q = rd σ 68 32
          · rw [if_pos ⟨rfl, z⟩, if_pos z, e _ hh.1 hh.2, if_pos rfl, z]; omega
          · rw [if_neg (fun y => z y.2), if_neg z, e q q0 q1, if_neg z]
    refine g_X11_day_145 (Q1 := fun r χ => r = none ∧ dFr ψ χ ∧ DM σ (i : Int) (dSnow σ k (i : Int) (dDay σ k i)) χ) hd (S.eq rx.1) k (i : Int) u3 u4 hu3 hu4 (by unfold inR; omega) (fun c => by omega) (fun c => by omega) (fun c => by omega) (fun _ => mSnow_C S L W rx hm DD) (fun _ τ1 _ q1 => ?_)
    refine arrive (rd σ 68 77).toNat 0 u4 τ1 τ1 hu4 (by have := C.2.1; omega) (F.tr q1.2.1.md) q1.2.2 (fun _ _ _ => rfl) (fun q q0 q1' => ?_) (LG.fr (fun a x p => q1.2.1.2 a x (by omega) (by omega)))
    rw [(q1.2.2.1 q q0 q1').1]
    show dDay σ k i 124 q = dDay σ k i 124 q + (if _ then (0 : Int) else 0)
    split <;> omega
