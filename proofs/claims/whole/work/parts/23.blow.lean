/-! the wind and the fresh snow as known at a time; the reference's blow -/
def wHit (s : pS) (k h t : Int) : Bool := decide (rd s 96 t = h ∧ vCounts (rd s 99 t) (rd s 100 t) k = true)
def wLast (s : pS) (k h : Int) : Nat → Int
  | 0 => -1
  | n + 1 => if wHit s k h (n : Int) then (n : Int) else wLast s k h n
def wTel (s : pS) (k h : Int) : Int := wLast s k h (rd s 68 51).toNat
def wFresh (s : pS) (k h : Int) : Int := if wTel s k h < 0 then 0 else rd s 98 (wTel s k h)
def wWind (s : pS) (k : Int) : Nat → Int
  | 0 => if wTel s k 0 < 0 then 0 else rd s 97 (wTel s k 0)
  | h + 1 => if wTel s k ((h + 1 : Nat) : Int) < 0 then wWind s k h else rd s 97 (wTel s k ((h + 1 : Nat) : Int))
def wPrev (s : pS) (k : Int) : Nat → Int
  | 0 => 0
  | h + 1 => wWind s k h
theorem wWind_eq (s : pS) (k : Int) (h : Nat) : wWind s k h = if wTel s k (h : Int) < 0 then wPrev s k h else rd s 97 (wTel s k (h : Int)) := by
  cases h with
  | zero => rfl
  | succ h => rfl
theorem wLast_lt (s : pS) (k h : Int) (n : Nat) : -1 ≤ wLast s k h n ∧ wLast s k h n < n := by
  induction n with
  | zero =>
    unfold wLast
    omega
  | succ n ih =>
    unfold wLast
    split <;> omega
def wFr (σ τ : pS) : Prop := τ.1 = σ.1 ∧ ∀ a i : Int, a ≠ 101 → a ≠ 102 → rd τ a i = rd σ a i
theorem wFr.wr {σ τ : pS} (h : wFr σ τ) {a i v : Int} (ha : a = 101 ∨ a = 102) : wFr σ (wr τ a i v) := ⟨h.1, fun b j h1 h2 => by rw [rd_wr_n (by omega)]; exact h.2 b j h1 h2⟩
def wDone (σ : pS) (k : Int) (h : Nat) (τ : pS) : Prop := wFr σ τ ∧ ∀ j : Nat, j < h → rd τ 101 (j : Int) = wWind σ k j ∧ rd τ 102 (j : Int) = wFresh σ k (j : Int)
def wHalf (σ : pS) (k : Int) (h t : Nat) (τ : pS) : Prop := wDone σ k h τ ∧ rd τ 101 (h : Int) = (if wLast σ k (h : Int) t < 0 then wPrev σ k h else rd σ 97 (wLast σ k (h : Int) t)) ∧ rd τ 102 (h : Int) = (if wLast σ k (h : Int) t < 0 then 0 else rd σ 98 (wLast σ k (h : Int) t))
theorem blow_in {d : Nat} {σ : pS} {Q : Option pV → pS → Prop} (hd : 1 ≤ d) (S : Stat σ) (W : RWin σ) {k : Int} (hk : inR k) {h : Nat} (hh : h < 8)
    (K : ∀ τ : pS, wDone σ k (h + 1) τ → pR mX11_blow d 2 [(2, 68), (0, k), (0, (h : Int) + 1), (0, rd σ 68 51)] [] τ Q) :
    ∀ (m t : Nat) (τ : pS), (t : Int) + m = rd σ 68 51 → wHalf σ k h t τ → pR mX11_blow d 39 [(2, 68), (0, k), (0, (h : Int)), (0, (t : Int))] [] τ Q := by
  obtain ⟨w1, w2, w3, w4⟩ := id W
  intro m
  induction m with
  | zero =>
    intro t τ ht hi
    obtain ⟨⟨⟨i1, i2⟩, i3⟩, i4, i5⟩ := hi
    have S2 : Stat τ := fun q hq => by unfold ob; rw [i1]; exact S q hq
    have n51 : rd τ 68 51 = rd σ 68 51 := i2 _ _ (by decide) (by decide)
    refine g_X11_blow_39 hd S2 k (h : Int) (t : Int) (by omega) (by omega) (fun _ => ?_) (fun c => by omega) (fun c => by omega) (fun c => by omega) (fun c => by omega) (fun c => by omega) (fun c => by omega) (fun c => by omega) (fun c => by omega)
    rw [show (t : Int) = rd σ 68 51 by omega]
    refine K τ ⟨⟨i1, i2⟩, fun j hj => ?_⟩
    by_cases e : j = h
    · subst e
      have et : t = (rd σ 68 51).toNat := by omega
      subst et
      refine ⟨?_, ?_⟩
      · rw [i4, wWind_eq]; rfl
      · rw [i5]; rfl
    · exact i3 j (by omega)
  | succ m ih =>
    intro t τ ht hi
    obtain ⟨⟨⟨i1, i2⟩, i3⟩, i4, i5⟩ := id hi
    have S2 : Stat τ := fun q hq => by unfold ob; rw [i1]; exact S q hq
    have n51 : rd τ 68 51 = rd σ 68 51 := i2 _ _ (by decide) (by decide)
    have n96 : rd τ 96 (t : Int) = rd σ 96 (t : Int) := i2 _ _ (by decide) (by decide)
    have n97 : rd τ 97 (t : Int) = rd σ 97 (t : Int) := i2 _ _ (by decide) (by decide)
    have n98 : rd τ 98 (t : Int) = rd σ 98 (t : Int) := i2 _ _ (by decide) (by decide)
    have n99 : rd τ 99 (t : Int) = rd σ 99 (t : Int) := i2 _ _ (by decide) (by decide)
    have n100 : rd τ 100 (t : Int) = rd σ 100 (t : Int) := i2 _ _ (by decide) (by decide)
    have r := w4 (t : Int) (by omega) (by omega)
    have no : wHit σ k (h : Int) (t : Int) = false → wLast σ k (h : Int) (t + 1) = wLast σ k (h : Int) t := fun q => by
      show (if wHit σ k (h : Int) (t : Int) then (t : Int) else wLast σ k (h : Int) t) = _
      rw [q]; rfl
    have yes : wHit σ k (h : Int) (t : Int) = true → wLast σ k (h : Int) (t + 1) = (t : Int) := fun q => by
      show (if wHit σ k (h : Int) (t : Int) then (t : Int) else wLast σ k (h : Int) t) = _
      rw [q]; rfl
    refine g_X11_blow_39 hd S2 k (h : Int) (t : Int) (by omega) (by omega) (fun c => by omega) (fun c => by omega) (fun c => by omega) (fun c => by omega) (fun c c2 => ?_) (fun c c2 => counts_CM S2 (by omega) (by omega) hk) (fun c c2 c3 => by omega) (fun c c2 c3 => ?_) (fun c c2 c3 => ?_)
    · have e := no (by unfold wHit; simp; intro q; omega)
      have := ih (t + 1) τ (by omega) ⟨⟨⟨i1, i2⟩, i3⟩, by rw [e]; exact i4, by rw [e]; exact i5⟩
      simpa using this
    · rw [n99, n100] at c3
      have e := yes (by unfold wHit; simp; exact ⟨by omega, c3⟩)
      have := ih (t + 1) (wr (wr τ 101 (h : Int) (rd τ 97 (t : Int))) 102 (h : Int) (rd τ 98 (t : Int))) (by omega) ⟨⟨(wFr.wr (wFr.wr ⟨i1, i2⟩ (Or.inl rfl)) (Or.inr rfl)), fun j hj => by
        have := i3 j hj
        rw [rd_wr_n (by omega), rd_wr_n (by omega), rd_wr_n (by omega), rd_wr_n (by omega)]
        exact this⟩, by rw [e, if_neg (by omega), rd_wr_n (by omega), rd_wr_same, n97], by rw [e, if_neg (by omega), rd_wr_same, n98]⟩
      simpa using this
    · rw [n99, n100] at c3
      have e := no (by unfold wHit; simp; intro q; exact c3)
      have := ih (t + 1) τ (by omega) ⟨⟨⟨i1, i2⟩, i3⟩, by rw [e]; exact i4, by rw [e]; exact i5⟩
      simpa using this
theorem wDone.half {σ τ : pS} {k : Int} {h : Nat} (i : wDone σ k h τ) (hh : h < 8) : wHalf σ k h 0 (wr (wr τ 101 (h : Int) (wPrev σ k h)) 102 (h : Int) 0) := by
  obtain ⟨i1, i2⟩ := i
  refine ⟨⟨wFr.wr (wFr.wr i1 (Or.inl rfl)) (Or.inr rfl), fun j hj => ?_⟩, ?_, ?_⟩
  · rw [rd_wr_n (by omega), rd_wr_n (by omega), rd_wr_n (by omega), rd_wr_n (by omega)]
    exact i2 j hj
  · rw [rd_wr_n (by omega), rd_wr_same]
    rfl
  · rw [rd_wr_same]
    rfl
theorem blow_out {d : Nat} {σ : pS} {Q : Option pV → pS → Prop} (hd : 1 ≤ d) (S : Stat σ) (W : RWin σ) {k : Int} (hk : inR k)
    (K : ∀ τ : pS, wDone σ k 8 τ → Q none τ) :
    ∀ (m h : Nat) (τ : pS) (u : pV), u.1 ≠ 1 → h + m = 8 → wDone σ k h τ → pR mX11_blow d 2 [(2, 68), (0, k), (0, (h : Int)), u] [] τ Q := by
  obtain ⟨w1, w2, w3, w4⟩ := id W
  intro m
  induction m with
  | zero =>
    intro h τ u hu hm i
    have S2 : Stat τ := fun q hq => by unfold ob; rw [i.1.1]; exact S q hq
    have e : h = 8 := by omega
    subst e
    refine g_X11_blow_2 hd S2 k _ u hu (by omega) (fun _ => K τ i) (fun c => by omega) (fun c => by omega) (fun c => by omega) (fun c => by omega) (fun c => by omega)
  | succ m ih =>
    intro h τ u hu hm i
    have S2 : Stat τ := fun q hq => by unfold ob; rw [i.1.1]; exact S q hq
    have go : pR mX11_blow d 39 [(2, 68), (0, k), (0, (h : Int)), (0, 0)] [] (wr (wr τ 101 (h : Int) (wPrev σ k h)) 102 (h : Int) 0) Q := by
      refine blow_in hd S W hk (h := h) (by omega) (fun υ j => ?_) (rd σ 68 51).toNat 0 _ (by omega) (wDone.half i (by omega))
      have := ih (h + 1) υ (0, rd σ 68 51) (show (0 : Nat) ≠ 1 by decide) (by omega) j
      simpa using this
    refine g_X11_blow_2 hd S2 k (h : Int) u hu (by omega) (fun c => by omega) (fun _ _ => by omega) (fun _ _ => by omega) (fun _ c => ?_) (fun _ _ => by omega) (fun _ c => ?_)
    · have e : rd τ 101 ((h : Int) - 1) = wPrev σ k h := by
        cases h with
        | zero => omega
        | succ h =>
          have := (i.2 h (by omega)).1
          rw [show (((h + 1 : Nat) : Int) - 1) = (h : Int) by omega]
          exact this
      rw [e]
      exact go
    · have e : wPrev σ k h = 0 := by
        have : h = 0 := by omega
        subst this
        rfl
      rw [e] at go
      exact go
theorem blow_C {d : Nat} {σ : pS} (hd : 1 ≤ d) (S : Stat σ) (W : RWin σ) {k : Int} (hk : inR k) : pC mX11_blow d [(2, 68), (0, k)] σ (fun r τ => r = none ∧ wDone σ k 8 τ) :=
  g_X11_blow_0 hd S k (blow_out hd S W hk (fun τ i => ⟨rfl, i⟩) 8 0 σ (9, 0) (by decide) rfl ⟨⟨rfl, fun _ _ _ _ => rfl⟩, fun j hj => absurd hj (by omega)⟩)
