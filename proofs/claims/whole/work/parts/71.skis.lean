/-! can, canOn, places, meet -/
theorem RB.tok {n d : Nat} {σ : pS} (h : RB n σ) (hd : 3 ≤ d) {k s : Int} (hs : 0 ≤ s ∧ s < rd σ 68 64) (hk : inR k) : tOk d σ k s := by
  obtain ⟨k1, k2, k3, k4, k5⟩ := h.ski
  obtain ⟨y1, y2, y3, y4, y5⟩ := k4 s hs.1 hs.2
  exact ⟨hd, h.1, h.slo, h.pas, by omega, by omega, hk⟩
theorem RB.trace {n : Nat} {σ τ : pS} (h : RB n σ) {k s : Int} (q : traceD σ k s τ) : RB n τ := h.fr q.1.1.1 (fun a i p => q.1.1.2.1 a i (by unfold FrA at p; omega) (by unfold FrA at p; omega))
theorem cameS_eq {σ τ : pS} (m : same σ τ MF) (k s sk t p : Int) : cameS τ k s sk t p = cameS σ k s sk t p := cmN_eq m k s sk 541 t p
theorem goesS_eq {σ τ : pS} (m : same σ τ MF) (k s sk t p : Int) : goesS τ k s sk t p = goesS σ k s sk t p := gsN_eq m k s sk 541 t p
theorem stand_C {d : Nat} {τ : pS} (S : Stat τ) {a p m : Int} (I : Inst5 τ a) (hm : 0 ≤ m ∧ m < 541) : pC mX5_canStand d [(2, a), (0, p), (0, m)] τ (fun r υ => r = some (0, b2i (vStand τ a p m)) ∧ υ = τ) := by
  refine g_X5_canStand_0 (Nat.zero_le d) S a p m I hm (i_and_in _ _) (fun c => ⟨?_, rfl⟩) (fun c => ⟨?_, rfl⟩)
  · unfold vStand; exact b2i_zero (fun z => z c)
  · unfold vStand; exact b2i_one c
def stdS (σ : pS) (k s p m : Int) : Bool := cameS σ k s (rd σ 107 s) m p && goesS σ k s (rd σ 107 s) m p
theorem stand_eq {σ τ : pS} {k s a p m : Int} (K : KSk σ k s (rd σ 107 s) a τ) (hm : 0 ≤ m ∧ m ≤ 540) (hp : 0 ≤ p ∧ p < 10) : vStand τ a p m = stdS σ k s p m := by
  have := K.2.2.2 m p hm.1 hm.2 hp.1 hp.2
  rw [vBit_bq (by omega), vBit_bq (by omega)] at this
  unfold vStand stdS
  apply Bool.eq_iff_iff.mpr
  rw [decide_eq_true_eq, andshl_ne0 _ (by omega), bq_and, Bool.and_eq_true, Bool.and_eq_true, this.1, this.2]
def tB (σ : pS) (k s : Int) (τ : pS) : Prop := (∀ m p : Int, 0 ≤ m → m ≤ 600 → 0 ≤ p → p < 10 → rd τ 115 (10 * m + p) = b2i (cameS σ k s (rd σ 107 s) m p)) ∧ ∀ m p : Int, 0 ≤ m → m ≤ 600 → 0 ≤ p → p < 10 → rd τ 116 (10 * m + p) = b2i (goesS σ k s (rd σ 107 s) m p)
theorem canBe_C {d : Nat} {σ τ : pS} (S : Stat τ) {k s p m : Int} (h : tB σ k s τ) (hm : 0 ≤ m ∧ m ≤ 540) (hp : 0 ≤ p ∧ p < 10) : pC mX11_canBe d [(2, 68), (0, p), (0, m)] τ (fun r υ => r = some (0, b2i (vCanBe τ p m)) ∧ υ = τ) := by
  have e1 := h.1 m p hm.1 (by omega) hp.1 hp.2
  have e2 := h.2 m p hm.1 (by omega) hp.1 hp.2
  refine g_X11_canBe_0 (Nat.zero_le d) S p m (by omega) (by rw [e1]; exact b2i_R _) (fun c => ⟨?_, rfl⟩) (fun _ => by rw [e2]; exact b2i_R _) (fun c c3 => ⟨?_, rfl⟩) (fun c c4 => ⟨?_, rfl⟩)
  · unfold vCanBe; exact b2i_zero (fun z => z.1 c)
  · unfold vCanBe; exact b2i_zero (fun z => z.2 c3)
  · unfold vCanBe; exact b2i_one ⟨c, c4⟩
theorem canBe_eq {σ τ : pS} {k s p m : Int} (h : tB σ k s τ) (hm : 0 ≤ m ∧ m ≤ 540) (hp : 0 ≤ p ∧ p < 10) : vCanBe τ p m = stdS σ k s p m := by
  have e1 := h.1 m p hm.1 (by omega) hp.1 hp.2
  have e2 := h.2 m p hm.1 (by omega) hp.1 hp.2
  unfold vCanBe stdS
  rw [e1, e2]
  cases cameS σ k s (rd σ 107 s) m p <;> cases goesS σ k s (rd σ 107 s) m p <;> rfl
/-- whether a skier can be on a way -/
def rdH (σ : pS) (k s w : Int) (b : Nat) : Prop := cameS σ k s (rd σ 107 s) (b : Int) (rd σ 77 w) = true ∧ stS σ k s (rd σ 107 s) w (b : Int) = true ∧ goesS σ k s (rd σ 107 s) ((b : Int) + minS σ (rd σ 107 s) w) (rd σ 78 w) = true
def rideB (σ : pS) (k s w m : Int) : Bool := (List.range 541).any (fun b => decide (m - minS σ (rd σ 107 s) w + 1 ≤ (b : Int) ∧ (b : Int) ≤ m) && (cameS σ k s (rd σ 107 s) (b : Int) (rd σ 77 w) && (stS σ k s (rd σ 107 s) w (b : Int) && goesS σ k s (rd σ 107 s) ((b : Int) + minS σ (rd σ 107 s) w) (rd σ 78 w))))
theorem rideB_iff {σ : pS} {k s w m : Int} : rideB σ k s w m = true ↔ ∃ b : Nat, b < 541 ∧ (m - minS σ (rd σ 107 s) w + 1 ≤ (b : Int) ∧ (b : Int) ≤ m) ∧ rdH σ k s w b := by
  unfold rideB rdH
  simp only [List.any_eq_true, List.mem_range, Bool.and_eq_true, decide_eq_true_eq]
theorem rideB_f {σ : pS} {k s w m : Int} (h : ∀ b : Nat, b < 541 → (m - minS σ (rd σ 107 s) w + 1 ≤ (b : Int) ∧ (b : Int) ≤ m) → ¬ rdH σ k s w b) : rideB σ k s w m = false := by
  cases e : rideB σ k s w m
  · rfl
  · obtain ⟨b, b1, b2, b3⟩ := rideB_iff.mp e
    exact absurd b3 (h b b1 b2)
theorem rideX_C {d : Nat} {σ τ : pS} (hd : 1 ≤ d) (S : Stat σ) (L : RSlo σ) (P : RPas σ) {k s a : Int} (hsk : 0 ≤ rd σ 107 s ∧ rd σ 107 s < 4) (h : SKH σ k (rd σ 107 s) a τ) (K : KSk σ k s (rd σ 107 s) a τ) {j : Nat} (hj : hasS σ j = true) {m : Int} (hm : 0 ≤ m ∧ m ≤ 540) : pC mX5_canRide d [(2, a), (0, (j : Int)), (0, m)] τ (fun r υ => r = some (0, b2i (rideB σ k s ((cw j : Nat) : Int) m)) ∧ υ = τ) := by
  have S2 := h.st S
  obtain ⟨y1, y2, y3, y4, y5⟩ := hasS_t L hj
  have row := h.row L hj
  have mn : rd τ (a + 5) (j : Int) = minS σ (rd σ 107 s) ((cw j : Nat) : Int) := by rw [← y3]; exact K.2.1 _ y2
  have mR := minS_R L y2 hsk
  have bg : ∀ b : Int, 0 ≤ b → b < 480 → bq (rd τ (a + 2) b) j = stS σ k s (rd σ 107 s) ((cw j : Nat) : Int) b := fun b b0 b1 => by
    have := K.2.2.1 b _ b0 b1 y2
    rw [y3, vBit_bq (by omega), show ((j : Nat) : Int).toNat = j by omega] at this
    exact this
  have cb : ∀ b p : Int, 0 ≤ b → b ≤ 540 → 0 ≤ p → p < 10 → (i_and (i_shr (rd τ (a + 3) b) p) 1 ≠ 0 ↔ cameS σ k s (rd σ 107 s) b p = true) := fun b p b0 b1 p0 p1 => by
    have := (K.2.2.2 b p b0 b1 p0 p1).1
    unfold vBit at this
    rw [← this, decide_eq_true_eq]
  have ld : ∀ b : Int, 0 ≤ b → b < 480 → (vLeads τ a (j : Int) b = true ↔ stS σ k s (rd σ 107 s) ((cw j : Nat) : Int) b = true ∧ goesS σ k s (rd σ 107 s) (b + minS σ (rd σ 107 s) ((cw j : Nat) : Int)) (rd σ 78 ((cw j : Nat) : Int)) = true) := fun b b0 b1 => by
    unfold vLeads
    rw [decide_eq_true_eq, vBit_bq (by omega), show ((j : Nat) : Int).toNat = j by omega, bg b b0 b1, mn, row.2.1]
    constructor
    · rintro ⟨z1, z2⟩
      have f := st_facts L P hsk z1
      rw [(K.2.2.2 _ _ (by omega) (by omega) row.2.2.2.2.1 row.2.2.2.2.2).2] at z2
      exact ⟨z1, z2⟩
    · rintro ⟨z1, z2⟩
      have f := st_facts L P hsk z1
      refine ⟨z1, ?_⟩
      rw [(K.2.2.2 _ _ (by omega) (by omega) row.2.2.2.2.1 row.2.2.2.2.2).2]
      exact z2
  have loop : ∀ (n b : Nat) (x3 : Int), (b : Int) + (n : Int) = m + 1 → (∀ b' : Nat, b' < b → m - minS σ (rd σ 107 s) ((cw j : Nat) : Int) + 1 ≤ (b' : Int) → ¬ rdH σ k s ((cw j : Nat) : Int) b') → m - minS σ (rd σ 107 s) ((cw j : Nat) : Int) + 1 ≤ (b : Int) → pR mX5_canRide d 18 [(2, a), (0, (j : Int)), (0, m), (0, x3), (0, (b : Int))] [] τ (fun r υ => r = some (0, b2i (rideB σ k s ((cw j : Nat) : Int) m)) ∧ υ = τ) := by
    intro n
    induction n with
    | zero =>
      intro b x3 hb hn hle
      refine g_X5_canRide_18 hd S2 a (j : Int) m x3 _ h.2.1 (by omega) (by omega) (fun _ => ⟨?_, rfl⟩) (fun c => by omega) (fun c => by omega) (fun c => by omega) (fun c => by omega) (fun c => by omega) (fun c => by omega) (fun c => by omega) (fun c => by omega) (fun c => by omega)
      rw [rideB_f (fun b' b1 b2 => hn b' (by omega) b2.1)]
      rfl
    | succ n ih =>
      intro b x3 hb hn hle
      have no : ¬ rdH σ k s ((cw j : Nat) : Int) b → pR mX5_canRide d 18 [(2, a), (0, (j : Int)), (0, m), (0, x3), (0, (b : Int) + 1)] [] τ (fun r υ => r = some (0, b2i (rideB σ k s ((cw j : Nat) : Int) m)) ∧ υ = τ) := fun c => by
        rw [show (b : Int) + 1 = ((b + 1 : Nat) : Int) by omega]
        refine ih (b + 1) x3 (by omega) (fun b' b1 b2 => ?_) (by omega)
        by_cases e : b' = b
        · subst e; exact c
        · exact hn b' (by omega) b2
      have stR : 0 ≤ rd τ (rd τ a 6 + 2) (j : Int) ∧ rd τ (rd τ a 6 + 2) (j : Int) < 10 := by rw [row.1]; exact ⟨row.2.2.1, row.2.2.2.1⟩
      refine g_X5_canRide_18 hd S2 a (j : Int) m x3 _ h.2.1 (by omega) (by omega) (fun c => by omega) (fun _ c3 => ⟨?_, rfl⟩) (fun _ _ => by omega) (fun _ _ => by rw [h.s6]; exact h.1.i6 L) (fun _ _ => by omega) (fun _ _ => i_and_in _ _) (fun _ c4 c5 => no (fun z => ?_)) (fun _ c4 _ => leads_C5 S L h (by omega) (by omega) (fun z => ?_)) (fun _ c4 c6 c7 => no (fun z => ?_)) (fun _ c4 c6 c8 => ⟨?_, rfl⟩)
      · rw [rideB_f (fun b' b1 b2 => ?_)]
        · rfl
        · by_cases c : b' < b
          · exact hn b' c b2.1
          · intro z
            have := st_facts L P hsk z.2.1
            omega
      · rw [row.1] at c5
        exact (cb _ _ (by omega) (by omega) row.2.2.1 row.2.2.2.1).mpr z.1 c5
      · rw [show ((j : Nat) : Int).toNat = j by omega, bg _ (by omega) c4] at z
        have f := st_facts L P hsk z
        rw [mn]; omega
      · have := (ld _ (by omega) c4).mpr z.2
        rw [c7] at this; cases this
      · rw [row.1] at c6
        have z1 := (cb _ _ (by omega) (by omega) row.2.2.1 row.2.2.2.1).mp c6
        have z2 := (ld _ (by omega) c4).mp c8
        rw [rideB_iff.mpr ⟨b, by omega, ⟨hle, by omega⟩, z1, z2⟩]
        rfl
  refine g_X5_canRide_0 hd S2 a (j : Int) m h.2.1 (by omega) (by rw [mn]; unfold inR; omega) ?_
  rw [mn]
  generalize hx : max 0 (m - minS σ (rd σ 107 s) ((cw j : Nat) : Int) + 1) = x
  have e : x = ((x.toNat : Nat) : Int) := by omega
  rw [e]
  exact loop (m + 1 - x).toNat x.toNat _ (by omega) (fun b' b1 b2 => by omega) (by omega)
theorem rideM_C {d : Nat} {σ τ : pS} {k s : Int} (o : tOk d σ k s) (h : traceD σ k s τ) {w m : Int} (hw : wyS σ w = true) (hm : 0 ≤ m ∧ m ≤ 540) : pC mX11_canRide d [(2, 68), (0, s), (0, w), (0, m)] τ (fun r υ => r = some (0, b2i (rideB σ k s w m)) ∧ υ = τ) := by
  have o' := o
  obtain ⟨o1, S, L, P, o2, o3, o4⟩ := o'
  have S2 := h.1.1.st S
  have t := vWay_t hw
  have l3 := L.2.2.2.1
  have l5 := L.2.2.2.2.2.1
  have mT := minutes_T o h.1 hw
  have mR := minS_R L hw o3
  have en := L.ends hw
  have e77 : rd τ 77 w = rd σ 77 w := h.1.1.2.1 _ _ (by omega) (by omega)
  have e78 : rd τ 78 w = rd σ 78 w := h.1.1.2.1 _ _ (by omega) (by omega)
  have loop : ∀ (n b : Nat), (b : Int) + (n : Int) = m + 1 → (∀ b' : Nat, b' < b → m - minS σ (rd σ 107 s) w + 1 ≤ (b' : Int) → ¬ rdH σ k s w b') → m - minS σ (rd σ 107 s) w + 1 ≤ (b : Int) → pR mX11_canRide d 37 [(2, 68), (0, s), (0, w), (0, m), (0, minS σ (rd σ 107 s) w), (0, 0), (0, (b : Int))] [] τ (fun r υ => r = some (0, b2i (rideB σ k s w m)) ∧ υ = τ) := by
    intro n
    induction n with
    | zero =>
      intro b hb hn hle
      refine g_X11_canRide_37 o1 S2 s w m _ 0 _ (by omega) (by omega) (fun _ => ⟨?_, rfl⟩) (fun _ => Or.inl rfl) (fun c => by omega) (fun c => by omega) (fun c => by omega) (fun c => by omega) (fun c => by omega) (fun c => by omega) (fun c => by omega) (fun c => by omega) (fun c => by omega) (fun c => by omega) (fun c => by omega) (fun c => by omega) (fun c => by omega)
      rw [rideB_f (fun b' b1 b2 => hn b' (by omega) b2.1)]
      rfl
    | succ n ih =>
      intro b hb hn hle
      have st := starts_T o h.1 (w := w) (m := (b : Int)) (by omega) (by omega)
      have cm := h.2.1 (b : Int) (rd σ 77 w) (by omega) (by omega) en.1 en.2.1
      have no : ¬ rdH σ k s w b → pR mX11_canRide d 37 [(2, 68), (0, s), (0, w), (0, m), (0, minS σ (rd σ 107 s) w), (0, 0), (0, (b : Int) + 1)] [] τ (fun r υ => r = some (0, b2i (rideB σ k s w m)) ∧ υ = τ) := fun c => by
        rw [show (b : Int) + 1 = ((b + 1 : Nat) : Int) by omega]
        refine ih (b + 1) (by omega) (fun b' b1 b2 => ?_) (by omega)
        by_cases e : b' = b
        · subst e; exact c
        · exact hn b' (by omega) b2
      have yes : rdH σ k s w b → ∀ x6 : Int, inR x6 → pR mX11_canRide d 37 [(2, 68), (0, s), (0, w), (0, m), (0, minS σ (rd σ 107 s) w), (0, 1), (0, x6)] [] τ (fun r υ => r = some (0, b2i (rideB σ k s w m)) ∧ υ = τ) := fun c x6 hx => by
        have e : rideB σ k s w m = true := rideB_iff.mpr ⟨b, by omega, ⟨hle, by omega⟩, c⟩
        refine g_X11_canRide_37 o1 S2 s w m _ 1 x6 hx (by omega) (fun _ => ⟨by rw [e]; rfl, rfl⟩) (fun _ => Or.inr rfl) (fun _ => by decide) (fun _ _ => ⟨by rw [e]; rfl, rfl⟩) (fun _ _ => Or.inr rfl) (fun _ c => by omega) (fun _ c => by omega) (fun _ c => by omega) (fun _ c => by omega) (fun _ c => by omega) (fun _ c => by omega) (fun _ c => by omega) (fun _ c => by omega) (fun _ c => by omega) (fun _ c => by omega)
      refine g_X11_canRide_37 o1 S2 s w m _ 0 _ (by omega) (by omega) (fun c => by omega) (fun c => by omega) (fun _ => by decide) (fun _ c => absurd rfl c) (fun _ c => absurd rfl c) (fun _ _ => by omega) (fun _ _ => by rw [e77]; omega) (fun _ _ => by rw [e77, cm]; exact b2i_R _) (fun _ _ c5 => no (fun z => ?_)) (fun _ _ _ => st.1) (fun _ _ c6 c7 => no (fun z => ?_)) (fun _ _ c6 c8 => ?_) (fun _ _ c6 c8 => ?_) (fun _ _ c6 c8 c9 => no (fun z => ?_)) (fun _ _ c6 c8 c10 => yes ?_ _ (by unfold inR; omega))
      · rw [e77, cm, z.1] at c5; exact absurd c5 (by decide)
      · rw [st.2, z.2.1] at c7; cases c7
      · rw [st.2] at c8
        have f := st_facts L P o3 c8
        rw [e78]; omega
      · rw [st.2] at c8
        have f := st_facts L P o3 c8
        rw [e78, h.2.2 _ _ (by omega) (by omega) en.2.2.1 en.2.2.2]; exact b2i_R _
      · have f := st_facts L P o3 z.2.1
        rw [e78, h.2.2 _ _ (by omega) (by omega) en.2.2.1 en.2.2.2, z.2.2] at c9
        exact absurd c9 (by decide)
      · rw [st.2] at c8
        have f := st_facts L P o3 c8
        rw [e78, h.2.2 _ _ (by omega) (by omega) en.2.2.1 en.2.2.2] at c10
        rw [e77, cm] at c6
        exact ⟨b2i_ne0.mp c6, c8, b2i_ne0.mp c10⟩
  refine g_X11_canRide_0 o1 S2 s w m o2 mT.1 (by rw [mT.2]; unfold inR; omega) (fun c => ?_) (fun c => ?_)
  · rw [mT.2] at c ⊢
    generalize hx : m - minS σ (rd σ 107 s) w + 1 = x at c ⊢
    have e : x = ((x.toNat : Nat) : Int) := by omega
    rw [e]
    exact loop (m + 1 - x).toNat x.toNat (by omega) (fun b' b1 b2 => by omega) (by omega)
  · rw [mT.2] at c ⊢
    exact loop (m + 1).toNat 0 (by omega) (fun b' b1 b2 => by omega) (by omega)
theorem stdS_eq {σ τ : pS} (m : same σ τ MF) {s : Int} (e : rd τ 107 s = rd σ 107 s) (k p t : Int) : stdS τ k s p t = stdS σ k s p t := by
  unfold stdS
  rw [e, cameS_eq m, goesS_eq m]
theorem rideB_eq {σ τ : pS} (m : same σ τ MF) {s : Int} (e : rd τ 107 s = rd σ 107 s) (k w t : Int) : rideB τ k s w t = rideB σ k s w t := by
  unfold rideB
  simp only [e, cameS_eq m, goesS_eq m, stS_eq m, minS_eq m, MF.row m (a := 77) (by omega), MF.row m (a := 78) (by omega)]
/-- the class's state behind a skier seen, as the reference meets it -/
theorem seen_107 {n : Nat} {σ τ : pS} (h : RB n σ) {s : Int} (hs : 0 ≤ s ∧ s < rd σ 68 64) (fr : ∀ b i : Int, ¬ (35 ≤ b ∧ b ≤ 39) → b ≠ rd σ 0 8 + 3 → ¬ (rd σ 43 s ≤ b ∧ b ≤ rd σ 43 s + 5) → rd τ b i = rd σ b i) : (∀ i : Int, rd τ 107 i = rd σ 107 i) ∧ rd τ 68 64 = rd σ 68 64 := by
  obtain ⟨k1, k2, k3, k4, k5⟩ := h.ski
  obtain ⟨y1, y2, y3⟩ := k4 s hs.1 hs.2
  have hl := h.law.1
  exact ⟨fun i => fr _ _ (by omega) (by omega) (by omega), fr _ _ (by omega) (by omega) (by omega)⟩
theorem op_can {n d : Nat} {σ : pS} (hd : 100 ≤ d) (h : RB n σ) (hn : n < 512) {x1 x2 x3 x4 : Int} (h1 : inR x1) (h2 : inR x2) (h3 : inR x3) (h4 : inR x4) : pC mX10_can d [(2, 0), (0, x1), (0, x2), (0, x3), (0, x4)] σ (fun r τ => pC mX11_can d [(2, 68), (0, x1), (0, x2), (0, x3), (0, x4)] τ (fun q υ => q = r ∧ RB (n + 1) υ)) := by
  have S := h.1
  obtain ⟨k1, k2, k3, k4, k5⟩ := h.ski
  have no : ∀ τ : pS, RB n τ → rd τ 68 64 = rd σ 68 64 → ¬ (((0 ≤ x1 ∧ x1 < rd σ 68 64) ∧ 0 ≤ x3 ∧ x3 < 541) ∧ 0 ≤ x2 ∧ x2 < 10) → pC mX11_can d [(2, 68), (0, x1), (0, x2), (0, x3), (0, x4)] τ (fun q υ => q = some (0, (-1)) ∧ RB (n + 1) υ) := fun τ H e c => by
    refine g_X11_can_0 (Q1 := fun _ _ => True) (by omega) H.1 x1 x2 x3 x4 (isSkier_C H.1 h1 (by rw [e]; unfold inR; omega)) (fun _ => ⟨rfl, RB.up H hn⟩) (fun _ => isPlace_C H.1 h2) (fun _ _ => ⟨rfl, RB.up H hn⟩) (fun _ _ => isMinute_C H.1 h3) ?_ ?_ ?_ ?_ (fun _ _ _ => ⟨rfl, RB.up H hn⟩)
    all_goals
      intro c1 c2 c3
      intros
      exfalso
      have c1 := vWithin_t c1
      have c2 := vWithin_t c2
      have c3 := vWithin_t c3
      rw [e] at c1
      omega
  refine g_X10_can_0 (Q1 := fun r τ => (¬ ((0 ≤ x1 ∧ x1 < rd σ 68 64) ∧ 0 ≤ x3 ∧ x3 < 541) ∧ r = some (2, (-1)) ∧ τ = σ) ∨ (((0 ≤ x1 ∧ x1 < rd σ 68 64) ∧ 0 ≤ x3 ∧ x3 < 541) ∧ r = some (2, rd σ 43 x1) ∧ RB n τ ∧ seenD σ x4 x1 τ ∧ ∀ b i : Int, ¬ (35 ≤ b ∧ b ≤ 39) → b ≠ rd σ 0 8 + 3 → ¬ (rd σ 43 x1 ≤ b ∧ b ≤ rd σ 43 x1 + 5) → rd τ b i = rd σ b i)) (by omega) S x1 x2 x3 x4 (h.seen_C (Nat.le_refl 6) h1 h3 h4) (fun v τ e q c => ?_) (fun v τ e q c => within_C (h.1.le e) h2 (by decide)) (fun v τ e q c c3 => ?_) (fun v τ e q c c3 => ?_) (fun v τ e q c c3 c5 => ?_) (fun v τ e q c c3 c5 => ?_) (fun v τ e q c c4 => ?_)
  · rcases q with ⟨q1, -, rfl⟩ | ⟨q1, q2, -⟩
    · exact no _ h rfl (fun z => q1 z.1)
    · have := (k4 x1 q1.1.1 q1.1.2).1
      rw [so_inj q2] at c; omega
  case refine_6 =>
    have c4 := vWithin_f c4
    rcases q with ⟨q1, -, rfl⟩ | ⟨q1, q2, q3, q4, q5⟩
    · exact no _ h rfl (fun z => q1 z.1)
    · exact no _ q3 (seen_107 h q1.1 q5).2 (by omega)
  all_goals
    rcases q with ⟨q1, q2, -⟩ | ⟨q1, q2, q3, q4, q5⟩
    · rw [so_inj q2] at c; omega
    have ev := so_inj q2
    have c3 := vWithin_t c3
  · rw [ev]; exact stand_C q3.1 q4.2.2.1.2.1 q1.2
  · rw [ev]; exact q4.2.2.1.2.1
  all_goals
    rw [ev, stand_eq q4.2.1 (by omega) c3] at c5
    have e7 := seen_107 h q1.1 q5
    have o := q3.tok (d := 3) (Nat.le_refl 3) (k := x4) (s := x1) (by rw [e7.2]; exact q1.1) h4
    refine g_X11_can_0 (Q1 := fun r ω => r = none ∧ traceD τ x4 x1 ω) (by omega) q3.1 x1 x2 x3 x4 (isSkier_C q3.1 h1 (by rw [e7.2]; unfold inR; omega)) (fun z => by have := vWithin_f z; rw [e7.2] at this; omega) (fun _ => isPlace_C q3.1 h2) (fun _ z => by have := vWithin_f z; omega) (fun _ _ => isMinute_C q3.1 h3) (fun _ _ _ => trace_C o q3.win q3.law) (fun _ _ _ ω e4 p => canBe_C (q3.trace p.2).1 p.2.2 (by omega) c3) (fun _ _ _ ω e4 p z => ?_) (fun _ _ _ ω e4 p z => ?_) (fun _ _ z => by have := vWithin_f z; omega)
    · rw [canBe_eq p.2.2 (by omega) c3, stdS_eq q4.1 (e7.1 x1)] at z
      first
        | exact ⟨rfl, RB.up (q3.trace p.2) hn⟩
        | (rw [c5] at z; cases z)
    · rw [canBe_eq p.2.2 (by omega) c3, stdS_eq q4.1 (e7.1 x1)] at z
      first
        | exact ⟨rfl, RB.up (q3.trace p.2) hn⟩
        | (rw [c5] at z; cases z)
theorem op_canOn {n d : Nat} {σ : pS} (hd : 100 ≤ d) (h : RB n σ) (hn : n < 512) {x1 x2 x3 x4 : Int} (h1 : inR x1) (h2 : inR x2) (h3 : inR x3) (h4 : inR x4) : pC mX10_canOn d [(2, 0), (0, x1), (0, x2), (0, x3), (0, x4)] σ (fun r τ => pC mX11_canOn d [(2, 68), (0, x1), (0, x2), (0, x3), (0, x4)] τ (fun q υ => q = r ∧ RB (n + 1) υ)) := by
  have S := h.1
  have L := h.slo
  have P := h.pas
  obtain ⟨k1, k2, k3, k4, k5⟩ := h.ski
  have l3 := L.2.2.2.1
  have l5 := L.2.2.2.2.2.1
  have HW := has_wayOf (x := x2) l3 l5
  have HN := has_noWay (x := x2) l3 l5
  have wR : inR (vWayOf (rd σ 68 30) (rd σ 68 31) x2) := by
    cases e : vHas (rd σ 68 30) (rd σ 68 31) x2
    · rw [HN e]; decide
    · have := HW e; unfold inR; omega
  have wE : ∀ τ : pS, same σ τ MF → vWayOf (rd τ 68 30) (rd τ 68 31) x2 = vWayOf (rd σ 68 30) (rd σ 68 31) x2 := fun τ m => by rw [MF.fld m (i := 30) (by omega), MF.fld m (i := 31) (by omega)]
  have no : ∀ τ : pS, RB n τ → same σ τ MF → rd τ 68 64 = rd σ 68 64 → ¬ (((0 ≤ x1 ∧ x1 < rd σ 68 64) ∧ 0 ≤ x3 ∧ x3 < 541) ∧ vHas (rd σ 68 30) (rd σ 68 31) x2 = true) → pC mX11_canOn d [(2, 68), (0, x1), (0, x2), (0, x3), (0, x4)] τ (fun q υ => q = some (0, (-1)) ∧ RB (n + 1) υ) := fun τ H m e c => by
    refine g_X11_canOn_0 (Q1 := fun _ _ => True) (Q2 := fun _ _ => True) (by omega) H.1 x1 x2 x3 x4 (wayOf_C (Nat.le_refl 1) H.1 h2 (by rw [MF.fld m (i := 30) (by omega)]; exact l3) (by rw [MF.fld m (i := 31) (by omega)]; exact l5)) (isSkier_C H.1 h1 (by rw [e]; unfold inR; omega)) (fun _ => ⟨rfl, RB.up H hn⟩) (fun _ => by rw [wE τ m]; exact wR) (fun _ _ => ⟨rfl, RB.up H hn⟩) (fun _ _ => isMinute_C H.1 h3) ?_ ?_ ?_ ?_ ?_ (fun _ _ _ => ⟨rfl, RB.up H hn⟩)
    all_goals
      intro c1 c2 c3
      intros
      exfalso
      have c1 := vWithin_t c1
      have c3 := vWithin_t c3
      rw [e] at c1
      rw [wE τ m] at c2
      cases hh : vHas (rd σ 68 30) (rd σ 68 31) x2
      · rw [HN hh] at c2; omega
      · exact c ⟨⟨c1, c3⟩, hh⟩
  refine g_X10_canOn_0 (Q1 := fun r τ => (¬ ((0 ≤ x1 ∧ x1 < rd σ 68 64) ∧ 0 ≤ x3 ∧ x3 < 541) ∧ r = some (2, (-1)) ∧ τ = σ) ∨ (((0 ≤ x1 ∧ x1 < rd σ 68 64) ∧ 0 ≤ x3 ∧ x3 < 541) ∧ r = some (2, rd σ 43 x1) ∧ RB n τ ∧ seenD σ x4 x1 τ ∧ ∀ b i : Int, ¬ (35 ≤ b ∧ b ≤ 39) → b ≠ rd σ 0 8 + 3 → ¬ (rd σ 43 x1 ≤ b ∧ b ≤ rd σ 43 x1 + 5) → rd τ b i = rd σ b i)) (Q2 := fun r υ => ∃ τ, ((0 ≤ x1 ∧ x1 < rd σ 68 64) ∧ 0 ≤ x3 ∧ x3 < 541) ∧ RB n τ ∧ seenD σ x4 x1 τ ∧ (∀ b i : Int, ¬ (35 ≤ b ∧ b ≤ 39) → b ≠ rd σ 0 8 + 3 → ¬ (rd σ 43 x1 ≤ b ∧ b ≤ rd σ 43 x1 + 5) → rd τ b i = rd σ b i) ∧ vHas (rd σ 68 30) (rd σ 68 31) x2 = true ∧ r = some (0, b2i (rideB σ x4 x1 (vWayOf (rd σ 68 30) (rd σ 68 31) x2) x3)) ∧ υ = τ) (by omega) S x1 x2 x3 x4 (h.seen_C (Nat.le_refl 6) h1 h3 h4) (fun v τ e q c => ?_) (fun v τ e q c => ?_) (fun v τ e q c => ?_) (fun v τ e q c c3 => ?_) (fun v τ e q c c3 => ?_) (fun v τ e q c c3 v3 b3 υ e3 q3 => by omega) (fun v τ e q c c3 v3 b3 υ e3 q3 c5 => ?_) (fun v τ e q c c3 v3 b3 υ e3 q3 c6 => ?_) (fun v τ e q c c4 => ?_)
  · rcases q with ⟨q1, -, rfl⟩ | ⟨q1, q2, -⟩
    · exact no _ h (fun _ _ _ => rfl) rfl (fun z => q1 z.1)
    · have := (k4 x1 q1.1.1 q1.1.2).1
      rw [so_inj q2] at c; omega
  case refine_6 =>
    clear c
    obtain ⟨τ', z1, z2, z3, z4, z5, z6, z7⟩ := q3
    subst z7
    have e7 := seen_107 h z1.1 z4
    have o := z2.tok (d := 3) (Nat.le_refl 3) (k := x4) (s := x1) (by rw [e7.2]; exact z1.1) h4
    obtain ⟨w1, w2, w3, w4, w5, w6⟩ := HW z5
    have m := z3.1
    have ww : wyS υ (vWayOf (rd σ 68 30) (rd σ 68 31) x2) = true := by rw [wys_eq m]; exact w1
    have z8 := b2i_f' (so_inj z6) c5
    refine g_X11_canOn_0 (Q1 := fun r ω => r = none ∧ traceD υ x4 x1 ω) (Q2 := fun r ω' => ∃ ω, traceD υ x4 x1 ω ∧ r = some (0, b2i (rideB υ x4 x1 (vWayOf (rd σ 68 30) (rd σ 68 31) x2) x3)) ∧ ω' = ω) (by omega) z2.1 x1 x2 x3 x4 (wayOf_C (Nat.le_refl 1) z2.1 h2 (by rw [MF.fld m (i := 30) (by omega)]; exact l3) (by rw [MF.fld m (i := 31) (by omega)]; exact l5)) (isSkier_C z2.1 h1 (by rw [e7.2]; unfold inR; omega)) (fun z => by have := vWithin_f z; rw [e7.2] at this; omega) (fun _ => by rw [wE υ m]; exact wR) (fun _ z => by rw [wE υ m] at z; omega) (fun _ _ => isMinute_C z2.1 h3) (fun _ _ _ => trace_C o z2.win z2.law) (fun _ _ _ ω e4 p => ?_) (fun _ _ _ ω e4 p v5 b5 ω' e5 p5 => by omega) (fun _ _ _ ω e4 p v5 b5 ω' e5 p5 z => ?_) (fun _ _ _ ω e4 p v5 b5 ω' e5 p5 z => ?_) (fun _ _ z => by have := vWithin_f z; omega)
    · rw [wE υ m]
      exact (rideM_C o p.2 ww (by omega)).mono (fun r ω' _ y => ⟨ω, p.2, y.1, y.2⟩)
    · obtain ⟨ω2, p6, p7, p8⟩ := p5
      subst p8
      exact ⟨rfl, RB.up (z2.trace p6) hn⟩
    · obtain ⟨ω2, p6, p7, p8⟩ := p5
      have := b2i_t' (so_inj p7) z
      rw [rideB_eq m (e7.1 x1), z8] at this
      cases this
  case refine_7 =>
    clear c
    obtain ⟨τ', z1, z2, z3, z4, z5, z6, z7⟩ := q3
    subst z7
    have e7 := seen_107 h z1.1 z4
    have o := z2.tok (d := 3) (Nat.le_refl 3) (k := x4) (s := x1) (by rw [e7.2]; exact z1.1) h4
    obtain ⟨w1, w2, w3, w4, w5, w6⟩ := HW z5
    have m := z3.1
    have ww : wyS υ (vWayOf (rd σ 68 30) (rd σ 68 31) x2) = true := by rw [wys_eq m]; exact w1
    have z8 := b2i_t' (so_inj z6) c6
    refine g_X11_canOn_0 (Q1 := fun r ω => r = none ∧ traceD υ x4 x1 ω) (Q2 := fun r ω' => ∃ ω, traceD υ x4 x1 ω ∧ r = some (0, b2i (rideB υ x4 x1 (vWayOf (rd σ 68 30) (rd σ 68 31) x2) x3)) ∧ ω' = ω) (by omega) z2.1 x1 x2 x3 x4 (wayOf_C (Nat.le_refl 1) z2.1 h2 (by rw [MF.fld m (i := 30) (by omega)]; exact l3) (by rw [MF.fld m (i := 31) (by omega)]; exact l5)) (isSkier_C z2.1 h1 (by rw [e7.2]; unfold inR; omega)) (fun z => by have := vWithin_f z; rw [e7.2] at this; omega) (fun _ => by rw [wE υ m]; exact wR) (fun _ z => by rw [wE υ m] at z; omega) (fun _ _ => isMinute_C z2.1 h3) (fun _ _ _ => trace_C o z2.win z2.law) (fun _ _ _ ω e4 p => ?_) (fun _ _ _ ω e4 p v5 b5 ω' e5 p5 => by omega) (fun _ _ _ ω e4 p v5 b5 ω' e5 p5 z => ?_) (fun _ _ _ ω e4 p v5 b5 ω' e5 p5 z => ?_) (fun _ _ z => by have := vWithin_f z; omega)
    · rw [wE υ m]
      exact (rideM_C o p.2 ww (by omega)).mono (fun r ω' _ y => ⟨ω, p.2, y.1, y.2⟩)
    · obtain ⟨ω2, p6, p7, p8⟩ := p5
      have := b2i_f' (so_inj p7) z
      rw [rideB_eq m (e7.1 x1), z8] at this
      cases this
    · obtain ⟨ω2, p6, p7, p8⟩ := p5
      subst p8
      exact ⟨rfl, RB.up (z2.trace p6) hn⟩
  all_goals
    rcases q with ⟨q1, q2, -⟩ | ⟨q1, q2, q3, q4, q5⟩
    · rw [so_inj q2] at c; omega
    have ev := so_inj q2
    have m := q4.1
    have I6 : Inst6 τ (rd τ 0 7) := q3.slo.2.1
    have e0 : rd τ (rd τ 0 7) 0 = rd σ 68 30 := q3.slo.2.2.1.trans (MF.fld m (i := 30) (by omega))
    have e1 : rd τ (rd τ 0 7) 1 = rd σ 68 31 := q3.slo.2.2.2.2.1.trans (MF.fld m (i := 31) (by omega))
  · exact has_C (Nat.le_refl 1) q3.1 I6 h2 (by rw [e0]; exact l3) (by rw [e1]; exact l5)
  · exact I6
  · rw [e0, e1] at c3
    have hl := vHas_lt l3.2 l5.2 c3
    have hj : hasS σ x2.toNat = true := by unfold hasS; rw [show ((x2.toNat : Nat) : Int) = x2 by omega]; exact c3
    obtain ⟨y1, y2, y3, y4, y5⟩ := hasS_t L hj
    obtain ⟨w1, w2, w3, w4, w5, w6⟩ := HW c3
    have ew : ((cw x2.toNat : Nat) : Int) = vWayOf (rd σ 68 30) (rd σ 68 31) x2 := by
      have := cw_eq x2.toNat
      unfold vOuter at y3
      split at y3 <;> split at w6 <;> omega
    have sk := (k4 x1 q1.1.1 q1.1.2).2.2
    have := rideX_C (Nat.le_refl 1) S L P (by omega) q4.2.2.1 q4.2.1 hj (m := x3) (by omega)
    rw [show ((x2.toNat : Nat) : Int) = x2 by omega, ew] at this
    rw [ev]
    exact this.mono (fun r υ _ z => ⟨τ, q1, q3, q4, q5, c3, z.1, z.2⟩)
  · rw [ev]; exact q4.2.2.1.2.1
  · rw [e0, e1] at c4
    exact no _ q3 m (seen_107 h q1.1 q5).2 (fun z => by rw [c4] at z; cases z.2)
