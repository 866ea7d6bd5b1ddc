/-! ways in time, pure: runs of ways, the soonest and the last minute, rounds of bettering -/
section
variable {wy : Int → Bool} {fr to : Int → Int} {F : Int → Int → Int}
/-- from p at m by these ways to q at t -/
def tRun (wy : Int → Bool) (fr to : Int → Int) (F : Int → Int → Int) : List Int → Int → Int → Int → Int → Prop
  | [], p, m, q, t => p = q ∧ m = t
  | w :: ws, p, m, q, t => (0 ≤ w ∧ w < 13 ∧ wy w = true) ∧ fr w = p ∧ F w m ≠ -1 ∧ tRun wy fr to F ws (to w) (F w m) q t
def gOk (wy : Int → Bool) (fr to : Int → Int) (F : Int → Int → Int) : Prop := (∀ w, wy w = true → 0 ≤ fr w ∧ fr w < 10 ∧ 0 ≤ to w ∧ to w < 10) ∧ (∀ w m, wy w = true → 0 ≤ m → F w m = -1 ∨ (m < F w m ∧ F w m ≤ 540)) ∧ ∀ w m m', wy w = true → 0 ≤ m → m ≤ m' → F w m' ≠ -1 → F w m ≠ -1 ∧ F w m ≤ F w m'
theorem tRun_snoc : ∀ {ws : List Int} {p m q t w : Int}, tRun wy fr to F ws p m q t → (0 ≤ w ∧ w < 13 ∧ wy w = true) → fr w = q → F w t ≠ -1 → tRun wy fr to F (ws ++ [w]) p m (to w) (F w t)
  | [], p, m, q, t, w, h, h1, h2, h3 => by
    obtain ⟨rfl, rfl⟩ := h
    exact ⟨h1, h2, h3, rfl, rfl⟩
  | _ :: _, _, _, _, _, _, h, h1, h2, h3 => ⟨h.1, h.2.1, h.2.2.1, tRun_snoc h.2.2.2 h1 h2 h3⟩
theorem tRun_split : ∀ {A B : List Int} {p m q t : Int}, tRun wy fr to F (A ++ B) p m q t → ∃ r s, tRun wy fr to F A p m r s ∧ tRun wy fr to F B r s q t
  | [], _, p, m, _, _, h => ⟨p, m, ⟨rfl, rfl⟩, h⟩
  | _ :: _, _, _, _, _, _, h => by
    obtain ⟨r, s, h1, h2⟩ := tRun_split h.2.2.2
    exact ⟨r, s, ⟨h.1, h.2.1, h.2.2.1, h1⟩, h2⟩
theorem tRun_le (g : gOk wy fr to F) : ∀ {ws : List Int} {p m q t : Int}, 0 ≤ m → tRun wy fr to F ws p m q t → m + ws.length ≤ t ∧ (m ≤ 540 → t ≤ 540)
  | [], p, m, q, t, h0, h => by
    obtain ⟨rfl, rfl⟩ := h
    simp
  | w :: ws, p, m, q, t, h0, h => by
    obtain ⟨h1, h2, h3, h4⟩ := h
    have f := g.2.1 w m h1.2.2 h0
    have ih := tRun_le g (by omega) h4
    simp only [List.length_cons]
    omega
theorem tRun_mono (g : gOk wy fr to F) : ∀ {ws : List Int} {p m m' q t : Int}, 0 ≤ m' → m' ≤ m → tRun wy fr to F ws p m q t → ∃ t', t' ≤ t ∧ tRun wy fr to F ws p m' q t'
  | [], p, m, m', q, t, h0, h1, h => by
    obtain ⟨rfl, rfl⟩ := h
    exact ⟨m', h1, rfl, rfl⟩
  | w :: ws, p, m, m', q, t, h0, h1, h => by
    obtain ⟨a1, a2, a3, a4⟩ := h
    obtain ⟨f1, f2⟩ := g.2.2 w m' m a1.2.2 h0 h1 a3
    have f3 := g.2.1 w m' a1.2.2 h0
    obtain ⟨t', b1, b2⟩ := tRun_mono g (by omega) f2 a4
    exact ⟨t', b1, a1, a2, f1, b2⟩
theorem tRun_last (g : gOk wy fr to F) (p : Int) : ∀ {ws : List Int} {p0 m0 q t : Int}, 0 ≤ m0 → tRun wy fr to F ws p0 m0 q t → (p0 ≠ p ∧ ∀ w ∈ ws, to w ≠ p) ∨ ∃ C s, m0 ≤ s ∧ tRun wy fr to F C p s q t ∧ ∀ w ∈ C, to w ≠ p ∧ w ∈ ws
  | [], p0, m0, q, t, h0, h => by
    by_cases c : p0 = p
    · subst c
      exact Or.inr ⟨[], m0, Int.le_refl _, h, fun w hw => by cases hw⟩
    · exact Or.inl ⟨c, fun w hw => by cases hw⟩
  | w :: ws, p0, m0, q, t, h0, h => by
    obtain ⟨a1, a2, a3, a4⟩ := id h
    have f := g.2.1 w m0 a1.2.2 h0
    rcases tRun_last g p (by omega) a4 with ⟨b1, b2⟩ | ⟨C, s, b1, b2, b3⟩
    · by_cases c : p0 = p
      · subst c
        refine Or.inr ⟨w :: ws, m0, Int.le_refl _, h, fun x hx => ⟨?_, hx⟩⟩
        rcases List.mem_cons.mp hx with rfl | hx
        · exact b1
        · exact b2 x hx
      · refine Or.inl ⟨c, fun x hx => ?_⟩
        rcases List.mem_cons.mp hx with rfl | hx
        · exact b1
        · exact b2 x hx
    · exact Or.inr ⟨C, s, by omega, b2, fun x hx => ⟨(b3 x hx).1, List.mem_cons_of_mem _ (b3 x hx).2⟩⟩
theorem tRun_short (g : gOk wy fr to F) : ∀ (n : Nat) (V : List Int), V.length ≤ n → ∀ {ws : List Int} {p m q t : Int}, 0 ≤ m → p ∈ V → (∀ w ∈ ws, to w ∈ V) → tRun wy fr to F ws p m q t → ∃ ws' t', ws'.length + 1 ≤ n ∧ t' ≤ t ∧ tRun wy fr to F ws' p m q t' := by
  intro n
  induction n with
  | zero =>
    intro V hV ws p m q t h0 hp hw h
    have : V = [] := List.eq_nil_of_length_eq_zero (by omega)
    subst this
    cases hp
  | succ n ih =>
    intro V hV ws p m q t h0 hp hw h
    have key : ∃ C s, m ≤ s ∧ tRun wy fr to F C p s q t ∧ ∀ w ∈ C, to w ≠ p ∧ w ∈ ws := by
      rcases tRun_last g p h0 h with ⟨b1, -⟩ | b
      · exact absurd rfl b1
      · exact b
    obtain ⟨C, s, c1, c2, c3⟩ := key
    obtain ⟨t1, d1, d2⟩ := tRun_mono g h0 c1 c2
    match C, c3, d2 with
    | [], c3, d2 => exact ⟨[], t1, by simp, d1, d2⟩
    | w :: C', c3, d2 =>
      obtain ⟨e1, e2, e3, e4⟩ := d2
      have f := g.2.1 w m e1.2.2 h0
      have er : ∀ x ∈ w :: C', to x ∈ V.erase p := fun x hx => (List.mem_erase_of_ne (c3 x hx).1).mpr (hw x (c3 x hx).2)
      obtain ⟨ws', t', k1, k2, k3⟩ := ih (V.erase p) (by rw [List.length_erase_of_mem hp]; omega) (by omega) (er w List.mem_cons_self) (fun x hx => er x (List.mem_cons_of_mem _ hx)) e4
      exact ⟨w :: ws', t', by simp only [List.length_cons]; omega, by omega, e1, e2, e3, k3⟩
theorem tRun_ways : ∀ {ws : List Int} {p m q t : Int}, tRun wy fr to F ws p m q t → ∀ w ∈ ws, wy w = true
  | [], _, _, _, _, _ => fun w hw => by cases hw
  | v :: ws, _, _, _, _, h => fun w hw => by
    rcases List.mem_cons.mp hw with rfl | hw
    · exact h.1.2.2
    · exact tRun_ways h.2.2.2 w hw
theorem tRun_ten (g : gOk wy fr to F) {ws : List Int} {p m q t : Int} (h0 : 0 ≤ m) (hp : 0 ≤ p ∧ p < 10) (h : tRun wy fr to F ws p m q t) : ∃ ws' t', ws'.length ≤ 10 ∧ t' ≤ t ∧ tRun wy fr to F ws' p m q t' := by
  have mem : ∀ x : Int, 0 ≤ x → x < 10 → x ∈ ([0, 1, 2, 3, 4, 5, 6, 7, 8, 9] : List Int) := fun x x0 x1 => by
    simp only [List.mem_cons, List.not_mem_nil, or_false]
    omega
  obtain ⟨ws', t', a, b, c⟩ := tRun_short g 10 [0, 1, 2, 3, 4, 5, 6, 7, 8, 9] (Nat.le_refl _) h0 (mem p hp.1 hp.2) (fun w hw => by
    have := g.1 w (tRun_ways h w hw)
    exact mem _ this.2.2.1 this.2.2.2) h
  exact ⟨ws', t', by omega, b, c⟩
/-- v is the soonest minute at q for one who stands at p at m; 1000000: he can't come -/
def isSoon (wy : Int → Bool) (fr to : Int → Int) (F : Int → Int → Int) (p m q v : Int) : Prop := (∀ ws t, tRun wy fr to F ws p m q t → v ≤ t) ∧ (v = 1000000 ∨ ∃ ws, tRun wy fr to F ws p m q v)
theorem isSoon.uniq (g : gOk wy fr to F) {p m q v v' : Int} (h0 : 0 ≤ m) (h1 : m ≤ 540) (h : isSoon wy fr to F p m q v) (h' : isSoon wy fr to F p m q v') : v = v' := by
  have b : ∀ x : Int, (∃ ws, tRun wy fr to F ws p m q x) → x ≤ 540 := fun x ⟨ws, h⟩ => (tRun_le g h0 h).2 h1
  rcases h.2 with e | ⟨ws, e⟩
  · rcases h'.2 with e' | ⟨ws', e'⟩
    · rw [e, e']
    · have := h.1 ws' v' e'
      have := b v' ⟨ws', e'⟩
      omega
  · rcases h'.2 with e' | ⟨ws', e'⟩
    · have := h'.1 ws v e
      have := b v ⟨ws, e⟩
      omega
    · have := h.1 ws' v' e'
      have := h'.1 ws v e
      omega
/-- one way bettered, forward -/
def rCond (wy : Int → Bool) (fr to : Int → Int) (F : Int → Int → Int) (a : Int → Int) (w : Int) : Bool := wy w && decide (a (fr w) ≠ 1000000 ∧ F w (a (fr w)) ≠ -1 ∧ F w (a (fr w)) < a (to w))
def rlx (wy : Int → Bool) (fr to : Int → Int) (F : Int → Int → Int) (a : Int → Int) (w q : Int) : Int := if rCond wy fr to F a w = true ∧ q = to w then F w (a (fr w)) else a q
def rPass (wy : Int → Bool) (fr to : Int → Int) (F : Int → Int → Int) (a : Int → Int) : Nat → Int → Int
  | 0 => a
  | n + 1 => rlx wy fr to F (rPass wy fr to F a n) (n : Int)
def rCh (wy : Int → Bool) (fr to : Int → Int) (F : Int → Int → Int) (a : Int → Int) : Nat → Bool
  | 0 => false
  | n + 1 => rCh wy fr to F a n || rCond wy fr to F (rPass wy fr to F a n) (n : Int)
def rIter (wy : Int → Bool) (fr to : Int → Int) (F : Int → Int → Int) (a : Int → Int) : Nat → Int → Int
  | 0 => a
  | r + 1 => rPass wy fr to F (rIter wy fr to F a r) 13
theorem rCond_t {a : Int → Int} {w : Int} (h : rCond wy fr to F a w = true) : wy w = true ∧ a (fr w) ≠ 1000000 ∧ F w (a (fr w)) ≠ -1 ∧ F w (a (fr w)) < a (to w) := by simpa [rCond] using h
theorem rlx_le (a : Int → Int) (w q : Int) : rlx wy fr to F a w q ≤ a q := by
  unfold rlx
  split
  · next c => have := rCond_t c.1; rw [c.2]; omega
  · omega
theorem rPass_le (a : Int → Int) (n : Nat) (q : Int) : rPass wy fr to F a n q ≤ a q := by
  induction n with
  | zero => exact Int.le_refl _
  | succ n ih => exact Int.le_trans (rlx_le _ _ _) ih
/-- what stands there was reached -/
def rAtt (wy : Int → Bool) (fr to : Int → Int) (F : Int → Int → Int) (p m : Int) (a : Int → Int) : Prop := ∀ q, a q = 1000000 ∨ ∃ ws, tRun wy fr to F ws p m q (a q)
theorem rAtt.rlx {p m : Int} {a : Int → Int} {w : Int} (hw : 0 ≤ w ∧ w < 13) (h : rAtt wy fr to F p m a) : rAtt wy fr to F p m (rlx wy fr to F a w) := by
  intro q
  unfold Jvm.Pilot.@@N@@.rlx
  split
  · next c =>
    obtain ⟨c1, c2, c3, c4⟩ := rCond_t c.1
    rcases h (fr w) with e | ⟨ws, e⟩
    · exact absurd e c2
    · exact Or.inr ⟨ws ++ [w], by rw [c.2]; exact tRun_snoc e ⟨hw.1, hw.2, c1⟩ rfl c3⟩
  · exact h q
theorem rAtt.pass {p m : Int} {a : Int → Int} (h : rAtt wy fr to F p m a) (n : Nat) (hn : n ≤ 13) : rAtt wy fr to F p m (rPass wy fr to F a n) := by
  induction n with
  | zero => exact h
  | succ n ih => exact rAtt.rlx (by omega) (ih (by omega))
theorem rAtt.iter {p m : Int} {a : Int → Int} (h : rAtt wy fr to F p m a) (r : Nat) : rAtt wy fr to F p m (rIter wy fr to F a r) := by
  induction r with
  | zero => exact h
  | succ r ih => exact rAtt.pass ih 13 (Nat.le_refl _)
theorem rAtt.pos (g : gOk wy fr to F) {p m : Int} {a : Int → Int} (h0 : 0 ≤ m) (h1 : m ≤ 540) (h : rAtt wy fr to F p m a) (q : Int) : 0 ≤ a q ∧ (a q ≤ 540 ∨ a q = 1000000) := by
  rcases h q with e | ⟨ws, e⟩
  · omega
  · have := tRun_le g h0 e
    omega
theorem rPass_done (g : gOk wy fr to F) {p m : Int} {a : Int → Int} (h0 : 0 ≤ m) (h1 : m ≤ 540) (h : rAtt wy fr to F p m a) (n : Nat) (hn : n ≤ 13) : ∀ w t : Int, 0 ≤ w → w < (n : Int) → wy w = true → a (fr w) ≤ t → t ≤ 540 → F w t ≠ -1 → rPass wy fr to F a n (to w) ≤ F w t := by
  induction n with
  | zero => intro w t w0 w1; omega
  | succ n ih =>
    intro w t w0 w1 hw ht ht2 hF
    have le := rlx_le (wy := wy) (fr := fr) (to := to) (F := F) (rPass wy fr to F a n) (n : Int) (to w)
    by_cases c : w = (n : Int)
    · subst c
      have b1 := rPass_le (wy := wy) (fr := fr) (to := to) (F := F) a n (fr (n : Int))
      have b2 := ((h.pass n (by omega)).pos g h0 h1 (fr (n : Int))).1
      obtain ⟨f1, f2⟩ := g.2.2 _ (rPass wy fr to F a n (fr (n : Int))) t hw b2 (by omega) hF
      show rlx wy fr to F (rPass wy fr to F a n) (n : Int) (to (n : Int)) ≤ _
      by_cases c2 : F (n : Int) (rPass wy fr to F a n (fr (n : Int))) < rPass wy fr to F a n (to (n : Int))
      · have : rCond wy fr to F (rPass wy fr to F a n) (n : Int) = true := by
          unfold rCond
          rw [hw, decide_eq_true ⟨by omega, f1, c2⟩]
          rfl
        unfold rlx
        rw [if_pos ⟨this, rfl⟩]
        exact f2
      · omega
    · exact Int.le_trans le (ih (by omega) w t w0 (by omega) hw ht ht2 hF)
theorem rIter_lev (g : gOk wy fr to F) {p m : Int} {a : Int → Int} (h0 : 0 ≤ m) (h1 : m ≤ 540) (h : rAtt wy fr to F p m a) (hp : a p ≤ m) : ∀ (r : Nat) (ws : List Int) (q t : Int), ws.length ≤ r → tRun wy fr to F ws p m q t → rIter wy fr to F a r q ≤ t := by
  intro r
  induction r with
  | zero =>
    intro ws q t hl hr
    have : ws = [] := List.eq_nil_of_length_eq_zero (by omega)
    subst this
    obtain ⟨rfl, rfl⟩ := hr
    exact hp
  | succ r ih =>
    intro ws q t hl hr
    rcases List.eq_nil_or_concat ws with e | ⟨A, w, e⟩
    · subst e
      exact Int.le_trans (rPass_le _ _ _) (ih [] q t (by simp) hr)
    · rw [List.concat_eq_append] at e
      subst e
      obtain ⟨s, u, k1, k2⟩ := tRun_split hr
      obtain ⟨c1, c2, c3, c4, c5⟩ := k2
      have := ih A s u (by simp at hl; omega) k1
      have b := (tRun_le g h0 k1).2 h1
      subst c2
      subst c4
      subst c5
      exact rPass_done g h0 h1 (h.iter r) 13 (Nat.le_refl _) w u c1.1 c1.2.1 c1.2.2 this b c3
theorem rCh_false {a : Int → Int} : ∀ {n : Nat}, rCh wy fr to F a n = false → rPass wy fr to F a n = a
  | 0, _ => rfl
  | n + 1, h => by
    have h : (rCh wy fr to F a n || rCond wy fr to F (rPass wy fr to F a n) (n : Int)) = false := h
    rw [Bool.or_eq_false_iff] at h
    have ih := rCh_false h.1
    funext q
    show rlx wy fr to F (rPass wy fr to F a n) (n : Int) q = a q
    unfold rlx
    rw [if_neg (fun z => by rw [h.2] at z; cases z.1), ih]
/-- what is closed and was reached is the soonest -/
theorem rClosed (g : gOk wy fr to F) {p m : Int} {a : Int → Int} (h0 : 0 ≤ m) (h1 : m ≤ 540) (h : rAtt wy fr to F p m a) (hp : a p ≤ m) (hc : rCh wy fr to F a 13 = false) (q : Int) : isSoon wy fr to F p m q (a q) := by
  have e := rCh_false hc
  have it : ∀ r : Nat, rIter wy fr to F a r = a := fun r => by
    induction r with
    | zero => rfl
    | succ r ih =>
      show rPass wy fr to F (rIter wy fr to F a r) 13 = a
      rw [ih]
      exact e
  refine ⟨fun ws t hr => ?_, h q⟩
  have := rIter_lev g h0 h1 h hp ws.length ws q t (Nat.le_refl _) hr
  rw [it] at this
  exact this
/-- ten rounds are enough -/
theorem rTen (g : gOk wy fr to F) {p m : Int} {a : Int → Int} (h0 : 0 ≤ m) (h1 : m ≤ 540) (h : rAtt wy fr to F p m a) (hp : a p ≤ m) (hpp : 0 ≤ p ∧ p < 10) (q : Int) : isSoon wy fr to F p m q (rIter wy fr to F a 10 q) := by
  refine ⟨fun ws t hr => ?_, h.iter 10 q⟩
  obtain ⟨ws', t', k1, k2, k3⟩ := tRun_ten g h0 hpp hr
  exact Int.le_trans (rIter_lev g h0 h1 h hp 10 ws' q t' k1 k3) k2
/-- a round that betters something makes the sum less -/
def rSum (a : Int → Int) : Nat → Int
  | 0 => 0
  | n + 1 => rSum a n + a (n : Int)
theorem rSum_le {a b : Int → Int} (h : ∀ q, a q ≤ b q) (n : Nat) : rSum a n ≤ rSum b n := by
  induction n with
  | zero => exact Int.le_refl _
  | succ n ih => have := h (n : Int); unfold rSum; omega
theorem rSum_lt {a b : Int → Int} (h : ∀ q, a q ≤ b q) {n : Nat} {q : Int} (q0 : 0 ≤ q) (q1 : q < (n : Int)) (hq : a q < b q) : rSum a n < rSum b n := by
  induction n with
  | zero => omega
  | succ n ih =>
    unfold rSum
    by_cases c : q = (n : Int)
    · subst c
      have := rSum_le h n
      omega
    · have := ih (by omega)
      have := h (n : Int)
      omega
theorem rCh_sum (g : gOk wy fr to F) {a : Int → Int} : ∀ {n : Nat}, rCh wy fr to F a n = true → rSum (rPass wy fr to F a n) 10 < rSum a 10
  | 0, h => by cases h
  | n + 1, h => by
    have h : (rCh wy fr to F a n || rCond wy fr to F (rPass wy fr to F a n) (n : Int)) = true := h
    rw [Bool.or_eq_true] at h
    rcases h with h | h
    · exact Int.lt_of_le_of_lt (rSum_le (rlx_le _ _) 10) (rCh_sum g h)
    · obtain ⟨c1, c2, c3, c4⟩ := rCond_t h
      have t := g.1 _ c1
      refine Int.lt_of_lt_of_le (rSum_lt (rlx_le _ _) t.2.2.1 (by omega) ?_) (rSum_le (rPass_le a n) 10)
      unfold rlx
      rw [if_pos ⟨h, rfl⟩]
      exact c4
theorem rSum_pos {a : Int → Int} (h : ∀ q, 0 ≤ a q) (n : Nat) : 0 ≤ rSum a n := by
  induction n with
  | zero => exact Int.le_refl _
  | succ n ih => have := h (n : Int); unfold rSum; omega
end
section
variable {wy : Int → Bool} {fr to : Int → Int} {F G : Int → Int → Int}
/-- the last minute at which a way is begun so as to come by a minute -/
def galois (wy : Int → Bool) (F G : Int → Int → Int) : Prop := ∀ w m t, wy w = true → 0 ≤ m → (m ≤ G w t ↔ F w m ≠ -1 ∧ F w m ≤ t)
/-- v is the last minute from which one comes from q to g by b; -1: none -/
def isLast (wy : Int → Bool) (fr to : Int → Int) (F : Int → Int → Int) (g b q v : Int) : Prop := (∀ ws m t, 0 ≤ m → tRun wy fr to F ws q m g t → t ≤ b → m ≤ v) ∧ (v = -1 ∨ (0 ≤ v ∧ ∃ ws t, t ≤ b ∧ tRun wy fr to F ws q v g t))
def bCond (wy : Int → Bool) (fr to : Int → Int) (G : Int → Int → Int) (a : Int → Int) (w : Int) : Bool := wy w && decide (a (to w) ≠ -1 ∧ a (fr w) < G w (a (to w)))
def blx (wy : Int → Bool) (fr to : Int → Int) (G : Int → Int → Int) (a : Int → Int) (w q : Int) : Int := if bCond wy fr to G a w = true ∧ q = fr w then G w (a (to w)) else a q
def bPass (wy : Int → Bool) (fr to : Int → Int) (G : Int → Int → Int) (a : Int → Int) : Nat → Int → Int
  | 0 => a
  | n + 1 => blx wy fr to G (bPass wy fr to G a n) (n : Int)
def bCh (wy : Int → Bool) (fr to : Int → Int) (G : Int → Int → Int) (a : Int → Int) : Nat → Bool
  | 0 => false
  | n + 1 => bCh wy fr to G a n || bCond wy fr to G (bPass wy fr to G a n) (n : Int)
def bIter (wy : Int → Bool) (fr to : Int → Int) (G : Int → Int → Int) (a : Int → Int) : Nat → Int → Int
  | 0 => a
  | r + 1 => bPass wy fr to G (bIter wy fr to G a r) 13
theorem bCond_t {a : Int → Int} {w : Int} (h : bCond wy fr to G a w = true) : wy w = true ∧ a (to w) ≠ -1 ∧ a (fr w) < G w (a (to w)) := by simpa [bCond] using h
theorem blx_le (a : Int → Int) (w q : Int) : a q ≤ blx wy fr to G a w q := by
  unfold blx
  split
  · next c => have := bCond_t c.1; rw [c.2]; omega
  · omega
theorem bPass_le (a : Int → Int) (n : Nat) (q : Int) : a q ≤ bPass wy fr to G a n q := by
  induction n with
  | zero => exact Int.le_refl _
  | succ n ih => exact Int.le_trans ih (blx_le _ _ _)
def bAtt (wy : Int → Bool) (fr to : Int → Int) (F : Int → Int → Int) (g b : Int) (a : Int → Int) : Prop := ∀ q, a q = -1 ∨ (0 ≤ a q ∧ ∃ ws t, t ≤ b ∧ tRun wy fr to F ws q (a q) g t)
theorem bAtt.blx (ok : gOk wy fr to F) (ga : galois wy F G) {g b : Int} {a : Int → Int} {w : Int} (hw : 0 ≤ w ∧ w < 13) (h : bAtt wy fr to F g b a) : bAtt wy fr to F g b (blx wy fr to G a w) := by
  intro q
  unfold Jvm.Pilot.@@N@@.blx
  split
  · next c =>
    obtain ⟨c1, c2, c3⟩ := bCond_t c.1
    have lo : -1 ≤ a (fr w) := by
      rcases h (fr w) with e | ⟨e, -⟩ <;> omega
    rcases h (to w) with e | ⟨e0, ws, t, e1, e2⟩
    · exact absurd e c2
    · refine Or.inr ⟨by omega, ?_⟩
      obtain ⟨f1, f2⟩ := (ga w (G w (a (to w))) (a (to w)) c1 (by omega)).mp (Int.le_refl _)
      have f3 := ok.2.1 w (G w (a (to w))) c1 (by omega)
      obtain ⟨t', k1, k2⟩ := tRun_mono ok (by omega) f2 e2
      exact ⟨w :: ws, t', by omega, ⟨hw.1, hw.2, c1⟩, c.2.symm, f1, k2⟩
  · exact h q
theorem bAtt.pass (ok : gOk wy fr to F) (ga : galois wy F G) {g b : Int} {a : Int → Int} (h : bAtt wy fr to F g b a) (n : Nat) (hn : n ≤ 13) : bAtt wy fr to F g b (bPass wy fr to G a n) := by
  induction n with
  | zero => exact h
  | succ n ih => exact bAtt.blx ok ga (by omega) (ih (by omega))
theorem bAtt.iter (ok : gOk wy fr to F) (ga : galois wy F G) {g b : Int} {a : Int → Int} (h : bAtt wy fr to F g b a) (r : Nat) : bAtt wy fr to F g b (bIter wy fr to G a r) := by
  induction r with
  | zero => exact h
  | succ r ih => exact bAtt.pass ok ga ih 13 (Nat.le_refl _)
theorem bPass_done (ga : galois wy F G) {a : Int → Int} (n : Nat) : ∀ w m : Int, 0 ≤ w → w < (n : Int) → wy w = true → 0 ≤ m → 0 ≤ F w m → F w m ≤ a (to w) → m ≤ bPass wy fr to G a n (fr w) := by
  induction n with
  | zero => intro w m w0 w1; omega
  | succ n ih =>
    intro w m w0 w1 hw h0 hF1 hF2
    have le := blx_le (wy := wy) (fr := fr) (to := to) (G := G) (bPass wy fr to G a n) (n : Int) (fr w)
    by_cases c : w = (n : Int)
    · subst c
      have b1 := bPass_le (wy := wy) (fr := fr) (to := to) (G := G) a n (to (n : Int))
      have b2 := (ga (n : Int) m (bPass wy fr to G a n (to (n : Int))) hw h0).mpr ⟨by omega, by omega⟩
      show m ≤ blx wy fr to G (bPass wy fr to G a n) (n : Int) (fr (n : Int))
      by_cases c2 : bPass wy fr to G a n (fr (n : Int)) < G (n : Int) (bPass wy fr to G a n (to (n : Int)))
      · have : bCond wy fr to G (bPass wy fr to G a n) (n : Int) = true := by
          unfold bCond
          rw [hw, decide_eq_true ⟨by omega, c2⟩]
          rfl
        unfold blx
        rw [if_pos ⟨this, rfl⟩]
        exact b2
      · omega
    · exact Int.le_trans (ih w m w0 (by omega) hw h0 hF1 hF2) le
theorem bIter_lev (ok : gOk wy fr to F) (ga : galois wy F G) {g b : Int} {a : Int → Int} (hg : b ≤ a g) : ∀ (r : Nat) (ws : List Int) (q m t : Int), ws.length ≤ r → 0 ≤ m → tRun wy fr to F ws q m g t → t ≤ b → m ≤ bIter wy fr to G a r q := by
  intro r
  induction r with
  | zero =>
    intro ws q m t hl h0 hr ht
    have : ws = [] := List.eq_nil_of_length_eq_zero (by omega)
    subst this
    obtain ⟨rfl, rfl⟩ := hr
    show m ≤ a q
    omega
  | succ r ih =>
    intro ws q m t hl h0 hr ht
    match ws, hl, hr with
    | [], hl, hr => exact Int.le_trans (ih [] q m t (by simp) h0 hr ht) (bPass_le _ _ _)
    | w :: ws, hl, hr =>
      obtain ⟨c1, c2, c3, c4⟩ := hr
      have f := ok.2.1 w m c1.2.2 h0
      have := ih ws (to w) (F w m) t (by simp at hl; omega) (by omega) c4 ht
      subst c2
      exact bPass_done ga 13 w m c1.1 c1.2.1 c1.2.2 h0 (by omega) this
theorem bCh_false {a : Int → Int} : ∀ {n : Nat}, bCh wy fr to G a n = false → bPass wy fr to G a n = a
  | 0, _ => rfl
  | n + 1, h => by
    have h : (bCh wy fr to G a n || bCond wy fr to G (bPass wy fr to G a n) (n : Int)) = false := h
    rw [Bool.or_eq_false_iff] at h
    have ih := bCh_false h.1
    funext q
    show blx wy fr to G (bPass wy fr to G a n) (n : Int) q = a q
    unfold blx
    rw [if_neg (fun z => by rw [h.2] at z; cases z.1), ih]
theorem bClosed (ok : gOk wy fr to F) (ga : galois wy F G) {g b : Int} {a : Int → Int} (h : bAtt wy fr to F g b a) (hg : b ≤ a g) (hc : bCh wy fr to G a 13 = false) (q : Int) : isLast wy fr to F g b q (a q) := by
  have e := bCh_false hc
  have it : ∀ r : Nat, bIter wy fr to G a r = a := fun r => by
    induction r with
    | zero => rfl
    | succ r ih =>
      show bPass wy fr to G (bIter wy fr to G a r) 13 = a
      rw [ih]
      exact e
  refine ⟨fun ws m t h0 hr ht => ?_, h q⟩
  have := bIter_lev ok ga hg ws.length ws q m t (Nat.le_refl _) h0 hr ht
  rw [it] at this
  exact this
theorem bTen (ok : gOk wy fr to F) (ga : galois wy F G) {g b : Int} {a : Int → Int} (h : bAtt wy fr to F g b a) (hg : b ≤ a g) {q : Int} (hq : 0 ≤ q ∧ q < 10) : isLast wy fr to F g b q (bIter wy fr to G a 10 q) := by
  refine ⟨fun ws m t h0 hr ht => ?_, bAtt.iter ok ga h 10 q⟩
  obtain ⟨ws', t', k1, k2, k3⟩ := tRun_ten ok h0 hq hr
  exact bIter_lev ok ga hg 10 ws' q m t' k1 h0 k3 (by omega)
/-- to be in time, seen from behind and from the front -/
theorem lead_iff (ok : gOk wy fr to F) {p m g v w x l : Int} (h0 : 0 ≤ m) (h1 : m ≤ 540) (hw : 0 ≤ w ∧ w < 13 ∧ wy w = true) (hp : fr w = p) (hF : F w m ≠ -1) (hs : isSoon wy fr to F p m g v) (hv : v ≠ 1000000) (hx : isSoon wy fr to F (to w) (F w m) g x) (hl : isLast wy fr to F g v (to w) l) : x = v ↔ F w m ≤ l := by
  have f := ok.2.1 w m hw.2.2 h0
  constructor
  · intro e
    subst e
    rcases hx.2 with e | ⟨ws, e⟩
    · exact absurd e hv
    · exact hl.1 ws (F w m) x (by omega) e (Int.le_refl _)
  · intro e
    rcases hl.2 with c | ⟨c0, ws, t, c1, c2⟩
    · omega
    · obtain ⟨t', k1, k2⟩ := tRun_mono ok (by omega) e c2
      have a1 := hx.1 ws t' k2
      rcases hx.2 with d | ⟨ws2, d⟩
      · have := (tRun_le ok (by omega) k2).2 (by omega)
        omega
      · have := hs.1 (w :: ws2) x ⟨hw, hp, hF, d⟩
        omega
end
