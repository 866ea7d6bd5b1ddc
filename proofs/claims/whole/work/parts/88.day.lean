/-! a day: the model, minute by minute; what holds in it -/
def arS (σ : pS) (m : Int) : Int := sumF (fun n => if rd σ 118 n = m then rd σ 119 n else 0) (rd σ 68 77).toNat
def dSnow (σ : pS) (k m : Int) (S : Int → Int → Int) : Int → Int → Int := fun a i => if a = 127 then S a i + (if m % 60 = 0 then 10 * wFresh σ k (m / 60) else 0) + (if wWind σ k (m / 60).toNat < 30 then rd σ 123 i else 0) else S a i
def dCome (σ : pS) (m : Int) (S : Int → Int → Int) : Int → Int → Int := fun a i => if a = 124 then S a i + (if i = rd σ 68 32 then arS σ m else 0) + S 126 (10 * m + i) else if a = 126 ∧ 10 * m ≤ i ∧ i < 10 * m + 10 then 0 else S a i
def dAll (σ : pS) (k m : Int) (S : Int → Int → Int) : Nat → Int → Int → Int
  | 0 => S
  | n + 1 => dTurns σ k m (n : Int) (dAll σ k m S n 124 (n : Int)).toNat (dAll σ k m S n)
def dOn (σ : pS) (k m l : Int) (S : Int → Int → Int) : Int := if openS σ k l m = true then min (S 125 l) (rd σ 80 l) else 0
def dL1 (σ : pS) (k m l : Int) (S : Int → Int → Int) : Int → Int → Int := fun a i => if a = 125 then (if i = l then S a i - dOn σ k m l S else S a i) else if a = 128 then (if i = l then S a i + dOn σ k m l S else S a i) else if a = 126 then (if i = 10 * (m + rd σ 79 l) + rd σ 78 l then S a i + dOn σ k m l S else S a i) else S a i
def dL2 (σ : pS) (m l : Int) (S : Int → Int → Int) : Int → Int → Int := fun a i => if m + 1 = rd σ 82 l then (if a = 124 then (if i = rd σ 77 l then S a i + S 125 l else S a i) else if a = 125 then (if i = l then 0 else S a i) else S a i) else S a i
def dL3 (l : Int) (S : Int → Int → Int) : Int → Int → Int := fun a i => if a = 129 then (if i = l then max (S a i) (S 125 l) else S a i) else S a i
def dLift (σ : pS) (k m l : Int) (S : Int → Int → Int) : Int → Int → Int := dL3 l (dL2 σ m l (dL1 σ k m l S))
def dLifts (σ : pS) (k m : Int) (S : Int → Int → Int) : Nat → Int → Int → Int
  | 0 => S
  | n + 1 => dLift σ k m (n : Int) (dLifts σ k m S n)
def dMin (σ : pS) (k m : Int) (S : Int → Int → Int) : Int → Int → Int := dLifts σ k m (dAll σ k m (dCome σ m (dSnow σ k m S)) 10) (rd σ 68 30).toNat
def dInit (σ : pS) : Int → Int → Int := fun a i => if a = 127 then 10 * rd σ 81 (6 + i) else 0
def dDay (σ : pS) (k : Int) : Nat → Int → Int → Int
  | 0 => dInit σ
  | m + 1 => dMin σ k (m : Int) (dDay σ k m)
/-- all the people there are -/
def dTot (Z : Nat) (S : Int → Int → Int) : Int := sumF (S 124) 10 + sumF (S 125) 6 + sumF (S 126) Z
def totA (σ : pS) (m : Int) : Int := sumF (fun n => if rd σ 118 n < m then rd σ 119 n else 0) (rd σ 68 77).toNat
def dPos (S : Int → Int → Int) : Prop := (∀ p : Int, 0 ≤ p → p < 10 → 0 ≤ S 124 p) ∧ (∀ l : Int, 0 ≤ l → l < 6 → 0 ≤ S 125 l) ∧ ∀ c : Int, 0 ≤ c → c < 5410 → 0 ≤ S 126 c
theorem sumF_one {f : Int → Int} : ∀ {n : Nat} {i : Int}, (∀ i : Int, 0 ≤ i → i < (n : Int) → 0 ≤ f i) → 0 ≤ i → i < (n : Int) → f i ≤ sumF f n
  | 0, _, _, _, _ => by omega
  | n + 1, i, h, i0, i1 => by
    have e : sumF f (n + 1) = sumF f n + f (n : Int) := rfl
    have a := sumF_pos (f := f) (N := n) (fun i i0 i1 => h i i0 (by omega))
    have b := h (n : Int) (by omega) (by omega)
    by_cases c : i = (n : Int)
    · subst c; omega
    · have := sumF_one (f := f) (n := n) (fun i i0 i1 => h i i0 (by omega)) i0 (by omega)
      omega
theorem dPos.le {Z : Nat} (hZ : Z = 5410) {S : Int → Int → Int} (h : dPos S) : (∀ p : Int, 0 ≤ p → p < 10 → S 124 p ≤ dTot Z S) ∧ (∀ l : Int, 0 ≤ l → l < 6 → S 125 l ≤ dTot Z S) ∧ ∀ c : Int, 0 ≤ c → c < 5410 → S 126 c ≤ dTot Z S := by
  have a := sumF_pos (f := S 124) (N := 10) (fun i i0 i1 => h.1 i i0 (by omega))
  have b := sumF_pos (f := S 125) (N := 6) (fun i i0 i1 => h.2.1 i i0 (by omega))
  have c := sumF_pos (f := S 126) (N := Z) (fun i i0 i1 => h.2.2 i i0 (by omega))
  unfold dTot
  refine ⟨fun p p0 p1 => ?_, fun p p0 p1 => ?_, fun p p0 p1 => ?_⟩
  · have := sumF_one (f := S 124) (n := 10) (fun i i0 i1 => h.1 i i0 (by omega)) p0 (by omega); omega
  · have := sumF_one (f := S 125) (n := 6) (fun i i0 i1 => h.2.1 i i0 (by omega)) p0 (by omega); omega
  · have := sumF_one (f := S 126) (n := Z) (fun i i0 i1 => h.2.2 i i0 (by omega)) p0 (by omega); omega
theorem sumF_ad (f g : Int → Int) : ∀ n : Nat, sumF (fun i => f i + g i) n = sumF f n + sumF g n
  | 0 => rfl
  | n + 1 => by
    have := sumF_ad f g n
    show sumF (fun i => f i + g i) n + (f n + g n) = sumF f n + f n + (sumF g n + g n)
    omega
theorem sumF_at (i v : Int) (n : Nat) (i0 : 0 ≤ i) : sumF (fun x => if x = i then v else 0) n = if i < (n : Int) then v else 0 := by
  have a := sumF_upd (f := fun x => 0 * x) (g := fun x => if x = i then v else 0) (i := i) (fun r hr => by show (if _ then _ else _) = 0 * r; rw [if_neg hr]; omega) n i0
  rw [sumF_mul] at a
  rw [a]
  split
  · rw [if_pos rfl]; omega
  · omega
theorem totA_R {σ : pS} (C : RCro σ) (m : Int) : 0 ≤ totA σ m ∧ totA σ m ≤ 10000 ∧ totA σ (m + 1) = totA σ m + arS σ m ∧ 0 ≤ arS σ m := by
  obtain ⟨c0, c1, c2, c3, -⟩ := C
  have b : ∀ i : Int, 0 ≤ i → i < ((rd σ 68 77).toNat : Int) → 1 ≤ rd σ 119 i ∧ rd σ 119 i ≤ 500 := fun i i0 i1 => by have := c3 i i0 (by omega); omega
  refine ⟨sumF_pos (fun i i0 i1 => by have := b i i0 i1; show (0 : Int) ≤ if _ then _ else _; split <;> omega), ?_, ?_, sumF_pos (fun i i0 i1 => by have := b i i0 i1; show (0 : Int) ≤ if _ then _ else _; split <;> omega)⟩
  · have g : ∀ n : Nat, n ≤ (rd σ 68 77).toNat → sumF (fun n => if rd σ 118 n < m then rd σ 119 n else 0) n ≤ 500 * n := fun n => by
      induction n with
      | zero => intro _; exact Int.le_refl _
      | succ n ih =>
        intro hn
        have := ih (by omega)
        have q := b (n : Int) (by omega) (by omega)
        show sumF _ n + (if _ then _ else _) ≤ _
        split <;> omega
    have := g _ (Nat.le_refl _)
    unfold totA
    omega
  · unfold totA arS
    rw [← sumF_ad]
    refine sumF_cg (fun i i0 i1 => ?_)
    show (if _ then _ else _) = (if _ then _ else _) + (if _ then _ else _)
    split <;> split <;> split <;> omega
/-- what holds of the model before minute m -/
def dOk (σ : pS) (Z : Nat) (m : Int) (N : Int) (S : Int → Int → Int) : Prop := dPos S ∧ dTot Z S = N ∧ dNx σ S ∧ (∀ r : Int, 0 ≤ r → r < rd σ 68 31 → 0 ≤ S 127 r ∧ S 127 r ≤ 3000 + 420 * m) ∧ ∀ l : Int, 0 ≤ l → l < 6 → 0 ≤ S 129 l ∧ S 129 l ≤ 10000
theorem dOk.sn {σ : pS} {Z : Nat} {m N : Int} {S : Int → Int → Int} (h : dOk σ Z m N S) (L : RSlo σ) (hm : m ≤ 480) : dSn σ S := fun w w6 hw => by
  have t := vWay_t hw
  have b1 := L.2.2.2.1.2
  have := h.2.2.2.1 (w - 6) (by omega) (by omega)
  omega
theorem dOk.snow {σ : pS} {Z : Nat} {k m N : Int} {S : Int → Int → Int} (h : dOk σ Z m N S) (W : RWin σ) (C : RCro σ) (L : RSlo σ) : dOk σ Z (m + 1) N (dSnow σ k m S) := by
  obtain ⟨h1, h2, h3, h4, h5⟩ := h
  refine ⟨h1, h2, h3, fun r r0 r1 => ?_, h5⟩
  have a := h4 r r0 r1
  have f := wFresh_R W k (m / 60)
  have b2 := L.2.2.2.2.2.1.2
  have c := C.2.2.2.2.2 r r0 (by omega)
  have e : dSnow σ k m S 127 r = S 127 r + (if m % 60 = 0 then 10 * wFresh σ k (m / 60) else 0) + (if wWind σ k (m / 60).toNat < 30 then rd σ 123 r else 0) := rfl
  rw [e]
  split <;> split <;> omega
theorem dOk.come {σ : pS} {Z : Nat} (hZ : Z = 5410) {m M N : Int} {S : Int → Int → Int} (h : dOk σ Z M N S) (C : RCro σ) (L : RSlo σ) (hm : 0 ≤ m ∧ m < 480) : dOk σ Z M (N + arS σ m) (dCome σ m S) := by
  obtain ⟨h1, h2, h3, h4, h5⟩ := h
  have ar := (totA_R C m).2.2.2
  have c126 : ∀ i : Int, dCome σ m S 126 i = if 10 * m ≤ i ∧ i < 10 * m + 10 then 0 else S 126 i := fun i => by
    show (if (126 : Int) = 124 then _ else if (126 : Int) = 126 ∧ 10 * m ≤ i ∧ i < 10 * m + 10 then 0 else S 126 i) = _
    rw [if_neg (by decide)]
    by_cases c : 10 * m ≤ i ∧ i < 10 * m + 10
    · rw [if_pos ⟨rfl, c⟩, if_pos c]
    · rw [if_neg (fun z => c z.2), if_neg c]
  have hh := L.2.2.2.2.2.2.2.2.1
  refine ⟨⟨fun p p0 p1 => ?_, h1.2.1, fun c c0 c1 => ?_⟩, ?_, h3, h4, h5⟩
  · have a := h1.1 p p0 p1
    have b := h1.2.2 (10 * m + p) (by omega) (by omega)
    show 0 ≤ S 124 p + (if _ then _ else _) + S 126 (10 * m + p)
    split <;> omega
  · rw [c126]
    have := h1.2.2 c c0 c1
    split <;> omega
  · have e1 : sumF (dCome σ m S 124) 10 = sumF (S 124) 10 + arS σ m + sumF (fun i => S 126 (10 * m + i)) 10 := by
      have x1 := sumF_ad (fun i => S 124 i + (if i = rd σ 68 32 then arS σ m else 0)) (fun i => S 126 (10 * m + i)) 10
      have x2 := sumF_ad (S 124) (fun i => if i = rd σ 68 32 then arS σ m else 0) 10
      rw [sumF_at _ _ _ hh.1, if_pos (by omega)] at x2
      have x0 : sumF (dCome σ m S 124) 10 = sumF (fun i => (S 124 i + (if i = rd σ 68 32 then arS σ m else 0)) + S 126 (10 * m + i)) 10 := rfl
      omega
    have sp : ∀ f : Int → Int, sumF f Z = sumF f (10 * m).toNat + sumF (fun i => f (10 * m + i)) 10 + sumF (fun i => f (10 * m + 10 + i)) (5400 - (10 * m).toNat) := fun f => by
      rw [show Z = ((10 * m).toNat + 10) + (5400 - (10 * m).toNat) by omega, sumF_add, sumF_add]
      have e1 : (((10 * m).toNat : Nat) : Int) = 10 * m := by omega
      have e2 : (((10 * m).toNat + 10 : Nat) : Int) = 10 * m + 10 := by omega
      rw [e1, e2]
    have e2 : sumF (dCome σ m S 126) Z = sumF (S 126) Z - sumF (fun i => S 126 (10 * m + i)) 10 := by
      rw [sp, sp (S 126)]
      have y1 : sumF (dCome σ m S 126) (10 * m).toNat = sumF (S 126) (10 * m).toNat := sumF_cg (fun i i0 i1 => by
        rw [c126, if_neg (by omega)])
      have y2 : sumF (fun i => dCome σ m S 126 (10 * m + i)) 10 = sumF (fun i => 0 * i) 10 := sumF_cg (fun i i0 i1 => by
        show dCome σ m S 126 (10 * m + i) = 0 * i
        rw [c126, if_pos (by omega)]; omega)
      have y3 : sumF (fun i => dCome σ m S 126 (10 * m + 10 + i)) (5400 - (10 * m).toNat) = sumF (fun i => S 126 (10 * m + 10 + i)) (5400 - (10 * m).toNat) := sumF_cg (fun i i0 i1 => by
        show dCome σ m S 126 (10 * m + 10 + i) = S 126 (10 * m + 10 + i)
        rw [c126, if_neg (by omega)])
      rw [sumF_mul] at y2
      omega
    have e3 : sumF (dCome σ m S 125) 6 = sumF (S 125) 6 := rfl
    unfold dTot at *
    omega
theorem dOne_tot {σ : pS} {Z : Nat} (hZ : Z = 5410) (C : RCro σ) (L : RSlo σ) {k m p M N : Int} {S T : Int → Int → Int} (hp : 0 ≤ p ∧ p < 10) (hm : 0 ≤ m ∧ m < 480) (hM : M ≤ 480) (hM0 : 0 ≤ M) (h : dOne σ k m p S = some T) (o : dOk σ Z M N S) (pos : 0 < S 124 p) : dOk σ Z M N T := by
  have q := dOne_ok C hp h (o.sn L hM) o.2.2.1
  obtain ⟨j, j0, j1, jc, e⟩ := dOne_spec h
  obtain ⟨h1, h2, h3, h4, h5⟩ := o
  have tm := (dOk_p C hp).2.1
  have cw := (dOk_p C hp).2.2.2 ((S 122 p + j) % rd σ 121 p) (Int.emod_nonneg _ (by omega)) (Int.emod_lt_of_pos _ (by omega))
  have ew : rV σ p ((S 122 p + j) % rd σ 121 p) = dWay σ p (S 122 p + j) := rfl
  rw [ew] at cw
  generalize dWay σ p (S 122 p + j) = w at *
  have tw := vWay_t cw.2.1
  have b1 := L.2.2.2.1.2
  have b2 := L.2.2.2.2.2.1.2
  have lw := L.2.2.2.2.2.2.2.2.2.1 w cw.2.1
  have t124 : ∀ i : Int, T 124 i = if i = p then S 124 i - 1 else S 124 i := fun i => by rw [e]; rfl
  have t125 : ∀ i : Int, T 125 i = S 125 i + (if i = w ∧ w < 6 then 1 else 0) := fun i => by rw [e]; rfl
  have t126 : ∀ i : Int, T 126 i = S 126 i + (if i = 10 * (m + rd σ 79 w) + rd σ 78 w ∧ 6 ≤ w then 1 else 0) := fun i => by rw [e]; rfl
  have t127 : ∀ i : Int, T 127 i = S 127 i + (if i = w - 6 ∧ 6 ≤ w then -1 else 0) := fun i => by rw [e]; rfl
  have t129 : ∀ i : Int, T 129 i = S 129 i := fun i => by rw [e]; exact Int.add_zero _
  refine ⟨⟨fun x x0 x1 => ?_, fun x x0 x1 => ?_, fun x x0 x1 => ?_⟩, ?_, q.2.1, fun r r0 r1 => ⟨?_, ?_⟩, fun l l0 l1 => by rw [t129]; exact h5 l l0 l1⟩
  · rw [t124]; have := h1.1 x x0 x1; split
    · rename_i z; subst z; omega
    · exact this
  · rw [t125]; have := h1.2.1 x x0 x1; split <;> omega
  · rw [t126]; have := h1.2.2 x x0 x1; split <;> omega
  · have a := sumF_upd (f := S 124) (g := T 124) (i := p) (fun r hr => by rw [t124, if_neg hr]) 10 hp.1
    rw [if_pos (by omega), t124, if_pos rfl] at a
    unfold dTot at *
    by_cases c : w < 6
    · have b := sumF_upd (f := S 125) (g := T 125) (i := w) (fun r hr => by rw [t125, if_neg (fun z => hr z.1)]; omega) 6 (by omega)
      rw [if_pos (by omega), t125, if_pos ⟨rfl, c⟩] at b
      have d : sumF (T 126) Z = sumF (S 126) Z := sumF_cg (fun i _ _ => by rw [t126, if_neg (by omega)]; omega)
      omega
    · have b := sumF_upd (f := S 126) (g := T 126) (i := 10 * (m + rd σ 79 w) + rd σ 78 w) (fun r hr => by rw [t126, if_neg (fun z => hr z.1)]; omega) Z (by omega)
      rw [if_pos (by omega), t126, if_pos ⟨rfl, by omega⟩] at b
      have d : sumF (T 125) 6 = sumF (S 125) 6 := sumF_cg (fun i _ _ => by rw [t125, if_neg (by omega)]; omega)
      omega
  · have := q.1 (6 + r) (by omega) (by unfold wyS vWay; exact decide_eq_true (Or.inr ⟨by omega, by omega⟩))
    rw [show 6 + r - 6 = r by omega] at this
    exact this.1
  · rw [t127]; have := h4 r r0 r1; split <;> omega
theorem dTurns_tot {σ : pS} {Z : Nat} (hZ : Z = 5410) (C : RCro σ) (L : RSlo σ) {k m p M N : Int} (hp : 0 ≤ p ∧ p < 10) (hm : 0 ≤ m ∧ m < 480) (hM : M ≤ 480) (hM0 : 0 ≤ M) : ∀ (n : Nat) {S : Int → Int → Int}, dOk σ Z M N S → (n : Int) ≤ S 124 p → dOk σ Z M N (dTurns σ k m p n S)
  | 0, S, o, _ => o
  | n + 1, S, o, hn => by
    cases h : dOne σ k m p S with
    | none => rw [dTurns_none h]; exact o
    | some T =>
      rw [dTurns_s h]
      have e := (dOne_ok C hp h (o.sn L hM) o.2.2.1).2.2
      exact dTurns_tot hZ C L hp hm hM hM0 n (dOne_tot hZ C L hp hm hM hM0 h o (by omega)) (by omega)
theorem dAll_ok {σ : pS} {Z : Nat} (hZ : Z = 5410) (C : RCro σ) (L : RSlo σ) {k m M N : Int} {S : Int → Int → Int} (hm : 0 ≤ m ∧ m < 480) (hM : M ≤ 480) (hM0 : 0 ≤ M) (o : dOk σ Z M N S) : ∀ n : Nat, n ≤ 10 → dOk σ Z M N (dAll σ k m S n)
  | 0, _ => o
  | n + 1, hn => by
    have ih := dAll_ok hZ C L (k := k) hm hM hM0 o n (by omega)
    have := ih.1.1 (n : Int) (by omega) (by omega)
    exact dTurns_tot hZ C L ⟨by omega, by omega⟩ hm hM hM0 _ ih (by omega)
theorem dLift_ok {σ : pS} {Z : Nat} (hZ : Z = 5410) (L : RSlo σ) {k m l M N : Int} {S : Int → Int → Int} (hm : 0 ≤ m ∧ m < 480) (hl : 0 ≤ l ∧ l < rd σ 68 30) (hN : N ≤ 10000) (o : dOk σ Z M N S) : dOk σ Z M N (dLift σ k m l S) := by
  obtain ⟨h1, h2, h3, h4, h5⟩ := o
  have b1 := L.2.2.2.1.2
  have hw : wyS σ l = true := by unfold wyS vWay; exact decide_eq_true (Or.inl hl)
  have lw := L.2.2.2.2.2.2.2.2.2.1 l hw
  have ll := L.2.2.2.2.2.2.2.2.2.2.1 l hl.1 hl.2
  have q0 := h1.2.1 l hl.1 (by omega)
  have n0 : 0 ≤ dOn σ k m l S ∧ dOn σ k m l S ≤ S 125 l := by unfold dOn; split <;> omega
  generalize hn : dOn σ k m l S = n at n0
  have a1 : ∀ i : Int, dL1 σ k m l S 125 i = if i = l then S 125 i - n else S 125 i := fun i => by rw [← hn]; rfl
  have a2 : ∀ i : Int, dL1 σ k m l S 126 i = if i = 10 * (m + rd σ 79 l) + rd σ 78 l then S 126 i + n else S 126 i := fun i => by rw [← hn]; rfl
  have a3 : ∀ i : Int, dL1 σ k m l S 124 i = S 124 i := fun i => rfl
  have p1 : dPos (dL1 σ k m l S) := ⟨fun x x0 x1 => h1.1 x x0 x1, fun x x0 x1 => by
    rw [a1]; have := h1.2.1 x x0 x1
    split
    · rename_i z; subst z; omega
    · exact this, fun x x0 x1 => by rw [a2]; have := h1.2.2 x x0 x1; split <;> omega⟩
  have t1 : dTot Z (dL1 σ k m l S) = N := by
    have x := sumF_upd (f := S 125) (g := dL1 σ k m l S 125) (i := l) (fun r hr => by rw [a1, if_neg hr]) 6 hl.1
    rw [if_pos (by omega), a1, if_pos rfl] at x
    have y := sumF_upd (f := S 126) (g := dL1 σ k m l S 126) (i := 10 * (m + rd σ 79 l) + rd σ 78 l) (fun r hr => by rw [a2, if_neg hr]) Z (by omega)
    rw [if_pos (by omega), a2, if_pos rfl] at y
    have z : sumF (dL1 σ k m l S 124) 10 = sumF (S 124) 10 := rfl
    unfold dTot at *
    omega
  have q1 := p1.2.1 l hl.1 (by omega)
  have p2 : dPos (dL2 σ m l (dL1 σ k m l S)) ∧ dTot Z (dL2 σ m l (dL1 σ k m l S)) = N := by
    by_cases c : m + 1 = rd σ 82 l
    · have c1 : ∀ i : Int, dL2 σ m l (dL1 σ k m l S) 124 i = if i = rd σ 77 l then dL1 σ k m l S 124 i + dL1 σ k m l S 125 l else dL1 σ k m l S 124 i := fun i => by show (if _ then _ else _) = _; rw [if_pos c, if_pos rfl]
      have c2 : ∀ i : Int, dL2 σ m l (dL1 σ k m l S) 125 i = if i = l then 0 else dL1 σ k m l S 125 i := fun i => by show (if _ then _ else _) = _; rw [if_pos c, if_neg (by decide), if_pos rfl]
      have c3 : ∀ i : Int, dL2 σ m l (dL1 σ k m l S) 126 i = dL1 σ k m l S 126 i := fun i => by show (if _ then _ else _) = _; rw [if_pos c, if_neg (by decide), if_neg (by decide)]
      refine ⟨⟨fun x x0 x1 => by rw [c1]; have := p1.1 x x0 x1; split <;> omega, fun x x0 x1 => by rw [c2]; have := p1.2.1 x x0 x1; split <;> omega, fun x x0 x1 => by rw [c3]; exact p1.2.2 x x0 x1⟩, ?_⟩
      have x := sumF_upd (f := dL1 σ k m l S 125) (g := dL2 σ m l (dL1 σ k m l S) 125) (i := l) (fun r hr => by rw [c2, if_neg hr]) 6 hl.1
      rw [if_pos (by omega), c2, if_pos rfl] at x
      have y := sumF_upd (f := dL1 σ k m l S 124) (g := dL2 σ m l (dL1 σ k m l S) 124) (i := rd σ 77 l) (fun r hr => by rw [c1, if_neg hr]) 10 (by omega)
      rw [if_pos (by omega), c1, if_pos rfl] at y
      have z : sumF (dL2 σ m l (dL1 σ k m l S) 126) Z = sumF (dL1 σ k m l S 126) Z := sumF_cg (fun i _ _ => c3 i)
      unfold dTot at *
      omega
    · have e : dL2 σ m l (dL1 σ k m l S) = dL1 σ k m l S := by
        funext a i
        show (if _ then _ else _) = _
        rw [if_neg c]
      rw [e]
      exact ⟨p1, t1⟩
  refine ⟨p2.1, p2.2, ?_, ?_, fun x x0 x1 => ?_⟩
  · have e : ∀ i : Int, dLift σ k m l S 122 i = S 122 i := fun i => by
      show (if m + 1 = rd σ 82 l then S 122 i else S 122 i) = _
      split <;> rfl
    intro p pa pb
    rw [e]; exact h3 p pa pb
  · have e : ∀ i : Int, dLift σ k m l S 127 i = S 127 i := fun i => by
      show (if m + 1 = rd σ 82 l then S 127 i else S 127 i) = _
      split <;> rfl
    intro r r0 r1
    rw [e]; exact h4 r r0 r1
  · have e : ∀ i : Int, dL2 σ m l (dL1 σ k m l S) 129 i = S 129 i := fun i => by
      show (if m + 1 = rd σ 82 l then S 129 i else S 129 i) = _
      split <;> rfl
    have f : dLift σ k m l S 129 x = if x = l then max (dL2 σ m l (dL1 σ k m l S) 129 x) (dL2 σ m l (dL1 σ k m l S) 125 l) else dL2 σ m l (dL1 σ k m l S) 129 x := rfl
    rw [f, e]
    have u := p2.1.2.1 l hl.1 (by omega)
    have v := (p2.1.le hZ).2.1 l hl.1 (by omega)
    have := h5 x x0 x1
    rw [p2.2] at v
    split <;> omega
theorem dLifts_ok {σ : pS} {Z : Nat} (hZ : Z = 5410) (L : RSlo σ) {k m M N : Int} {S : Int → Int → Int} (hm : 0 ≤ m ∧ m < 480) (hN : N ≤ 10000) (o : dOk σ Z M N S) : ∀ n : Nat, (n : Int) ≤ rd σ 68 30 → dOk σ Z M N (dLifts σ k m S n)
  | 0, _ => o
  | n + 1, hn => dLift_ok hZ L hm ⟨by omega, by omega⟩ hN (dLifts_ok hZ L hm hN o n (by omega))
theorem dDay_ok {σ : pS} {Z : Nat} (hZ : Z = 5410) (W : RWin σ) (C : RCro σ) (L : RSlo σ) {k : Int} : ∀ m : Nat, m ≤ 480 → dOk σ Z (m : Int) (totA σ (m : Int)) (dDay σ k m)
  | 0, _ => by
    have c := C
    obtain ⟨c0, c1, c2, c3, c4, -⟩ := c
    have z : ∀ n : Nat, sumF (fun _ => (0 : Int)) n = 0 := fun n => by
      induction n with
      | zero => rfl
      | succ n ih => show sumF _ n + (0 : Int) = 0; rw [ih]; rfl
    refine ⟨⟨fun _ _ _ => Int.le_refl _, fun _ _ _ => Int.le_refl _, fun _ _ _ => Int.le_refl _⟩, ?_, fun p p0 p1 => ⟨Int.le_refl _, show (0 : Int) ≤ 6 by decide, fun q => q⟩, fun r r0 r1 => ?_, fun _ _ _ => ⟨Int.le_refl _, show (0 : Int) ≤ 10000 by decide⟩⟩
    · have e : totA σ ((0 : Nat) : Int) = sumF (fun _ => (0 : Int)) (rd σ 68 77).toNat := sumF_cg (fun i i0 i1 => by
        have := c3 i i0 (by omega)
        show (if _ then _ else _) = _
        rw [if_neg (by omega)])
      rw [e, z]
      show sumF (fun _ => (0 : Int)) 10 + sumF (fun _ => (0 : Int)) 6 + sumF (fun _ => (0 : Int)) Z = 0
      rw [z, z, z]
      rfl
    · have := L.2.2.2.2.2.2.2.2.2.2.2.1 r r0 r1
      show 0 ≤ 10 * rd σ 81 (6 + r) ∧ 10 * rd σ 81 (6 + r) ≤ 3000 + 420 * ((0 : Nat) : Int)
      omega
  | m + 1, hm => by
    have ih := dDay_ok hZ W C L (k := k) m (by omega)
    have t := totA_R C (m : Int)
    have t1 := totA_R C ((m : Int) + 1)
    have a := (ih.snow W C L (k := k)).come hZ C L (m := (m : Int)) ⟨by omega, by omega⟩
    rw [← t.2.2.1] at a
    have b := dAll_ok hZ C L (k := k) (m := (m : Int)) ⟨by omega, by omega⟩ (by omega) (by omega) a 10 (Nat.le_refl _)
    have c := dLifts_ok hZ L (k := k) (m := (m : Int)) ⟨by omega, by omega⟩ t1.2.1 b (rd σ 68 30).toNat (by have := L.2.2.2.1; omega)
    rw [show ((m + 1 : Nat) : Int) = (m : Int) + 1 by omega]
    exact c
