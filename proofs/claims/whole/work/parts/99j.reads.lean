/-! faults of a text: the first of a row of checks; the class's tokens read on -/
abbrev pO : Type := Option (Int × Int)
def oo (a b : pO) : pO := match a with
  | none => b
  | some x => some x
theorem oo_none (b : pO) : oo none b = b := rfl
theorem oo_some (x : Int × Int) (b : pO) : oo (some x) b = some x := rfl
theorem oo_assoc (a b e : pO) : oo (oo a b) e = oo a (oo b e) := by cases a <;> rfl
theorem oo_n (a : pO) : oo a none = a := by cases a <;> rfl
theorem oo_none_iff {a b : pO} : oo a b = none ↔ a = none ∧ b = none := by
  cases a
  · exact ⟨fun h => ⟨rfl, h⟩, fun h => h.2⟩
  · exact ⟨fun h => (by cases h), fun h => (by cases h.1)⟩
def ck (K P : Nat → Int) (b : Bool) (w : Int) (j : Nat) : pO := if b = true then none else some (if K j = 22 then 1 else w, P j)
theorem ck_t {K P : Nat → Int} {b : Bool} {w : Int} {j : Nat} (h : b = true) : ck K P b w j = none := if_pos h
theorem ck_f {K P : Nat → Int} {b : Bool} {w : Int} {j : Nat} (h : b = false) : ck K P b w j = some (if K j = 22 then 1 else w, P j) := if_neg (by rw [h]; decide)
theorem ck_none {K P : Nat → Int} {b : Bool} {w : Int} {j : Nat} : ck K P b w j = none ↔ b = true := by
  cases b
  · exact ⟨fun h => (by cases h), fun h => (by cases h)⟩
  · exact ⟨fun _ => rfl, fun _ => rfl⟩
def tkC (K P V : Nat → Int) (c : Nat) (τ : pS) : Prop := rd τ 2 3 = (c : Int) + 1 ∧ ∀ i : Nat, rd τ 3 (i : Int) = K i ∧ rd τ 4 (i : Int) = P i ∧ rd τ 5 (i : Int) = V i
def tkR (K V : Nat → Int) (c : Nat) : Prop := c ≤ 1400 ∧ K c = 21 ∧ ∀ i : Nat, i < c → (0 ≤ K i ∧ K i ≤ 62 ∧ K i ≠ 21) ∧ (K i = 20 → 0 ≤ V i ∧ V i ≤ 9) ∧ (K i = 19 → 0 ≤ V i ∧ V i ≤ 9999) ∧ (K i ≤ 18 → 0 < V i ∧ V i < 1099511627776)
def cSt (K P V : Nat → Int) (c : Nat) (o : pO) (j : Nat) (τ : pS) : Prop := tkC K P V c τ ∧ (o = none → rd τ 2 5 = 0 ∧ rd τ 2 6 = -1 ∧ rd τ 2 4 = (j : Int) ∧ j ≤ c) ∧ (∀ f p : Int, o = some (f, p) → rd τ 2 5 = f ∧ 0 < f ∧ f < 100 ∧ rd τ 2 6 = p) ∧ 0 ≤ rd τ 2 4 ∧ rd τ 2 4 ≤ (c : Int)
def cFr (σ τ : pS) : Prop := τ.1 = σ.1 ∧ ∀ a i : Int, ¬ (a = 2 ∧ 4 ≤ i ∧ i ≤ 6) → rd τ a i = rd σ a i
theorem cFr.rf (σ : pS) : cFr σ σ := ⟨rfl, fun _ _ _ => rfl⟩
theorem cFr.tr {σ τ υ : pS} (h : cFr σ τ) (g : cFr τ υ) : cFr σ υ := ⟨g.1.trans h.1, fun a i q => (g.2 a i q).trans (h.2 a i q)⟩
theorem cSt.of {K P V : Nat → Int} {c : Nat} {o : pO} {j : Nat} {σ τ : pS} (H : cSt K P V c o j σ) (e2 : ∀ i : Int, rd τ 2 i = rd σ 2 i) (er : ∀ a i : Int, 3 ≤ a → a ≤ 5 → rd τ a i = rd σ a i) : cSt K P V c o j τ := by
  obtain ⟨⟨h1, h2⟩, h3, h4, h5, h6⟩ := H
  refine ⟨⟨(e2 3).trans h1, fun i => ?_⟩, fun e => ?_, fun f p e => ?_, ?_, ?_⟩
  · rw [er 3 _ (by omega) (by omega), er 4 _ (by omega) (by omega), er 5 _ (by omega) (by omega)]; exact h2 i
  · rw [e2, e2, e2]; exact h3 e
  · rw [e2, e2]; exact h4 f p e
  · rw [e2]; exact h5
  · rw [e2]; exact h6
theorem cSt.wr {K P V : Nat → Int} {c : Nat} {o : pO} {j : Nat} {σ : pS} {a i v : Int} (H : cSt K P V c o j σ) (ha : a < 2 ∨ 5 < a) : cSt K P V c o j (wr σ a i v) :=
  H.of (fun x => rd_wr_n (by omega)) (fun b x _ _ => rd_wr_n (by omega))
theorem cSt.to {K P V : Nat → Int} {c : Nat} {o q : pO} {j k : Nat} {σ : pS} (H : cSt K P V c o j σ) (e : o = q) (hk : o = none → j = k) : cSt K P V c q k σ := by
  subst e
  exact ⟨H.1, fun e => by rw [← hk e]; exact H.2.1 e, H.2.2⟩
theorem tkR.kR {K V : Nat → Int} {c : Nat} (R : tkR K V c) {i : Nat} (h : i ≤ c) : 0 ≤ K i ∧ K i ≤ 62 := by
  by_cases z : i = c
  · rw [z, R.2.1]; decide
  · have := (R.2.2 i (by omega)).1; omega
theorem tkR.lt {K V : Nat → Int} {c : Nat} (R : tkR K V c) {i : Nat} (h : i ≤ c) (h2 : K i ≠ 21) : i < c := by
  by_cases z : i = c
  · rw [z, R.2.1] at h2; exact absurd rfl h2
  · omega
theorem cSt.kind {K P V : Nat → Int} {c : Nat} {o : pO} {j : Nat} {σ : pS} (R : tkR K V c) (H : cSt K P V c o j σ) : (o = none → vTkK σ = K j ∧ vTkV σ = V j ∧ j ≤ c) ∧ 0 ≤ vTkK σ ∧ vTkK σ ≤ 62 := by
  obtain ⟨⟨h1, h2⟩, h3, h4, h5, h6⟩ := H
  have eK : vTkK σ = K (rd σ 2 4).toNat := by
    unfold vTkK
    rw [if_pos (by omega), ← (h2 _).1, show (((rd σ 2 4).toNat : Nat) : Int) = rd σ 2 4 by omega]
  have eV : vTkV σ = V (rd σ 2 4).toNat := by
    unfold vTkV
    rw [if_pos (by omega), ← (h2 _).2.2, show (((rd σ 2 4).toNat : Nat) : Int) = rd σ 2 4 by omega]
  have := R.kR (i := (rd σ 2 4).toNat) (by omega)
  refine ⟨fun e => ?_, by omega, by omega⟩
  obtain ⟨_, _, e4, hj⟩ := h3 e
  rw [eK, eV, e4]
  exact ⟨rfl, rfl, hj⟩
theorem kind_C {K P V : Nat → Int} {c d : Nat} {o : pO} {j : Nat} {σ : pS} (S : Stat σ) (R : tkR K V c) (H : cSt K P V c o j σ) : pC mX9_kind d [(2, 2)] σ (fun r τ => r = some (0, vTkK σ) ∧ τ = σ) := by
  have c0 := R.1
  obtain ⟨⟨h1, h2⟩, h3, h4, h5, h6⟩ := H
  refine g_X9_kind_0 (Nat.zero_le d) S (by unfold inR; omega) (by unfold inR; omega) (fun c1 => by omega) (fun _ => by omega) (fun c2 => ⟨?_, rfl⟩)
  unfold vTkK
  rw [if_pos c2]
theorem value_C {K P V : Nat → Int} {c d : Nat} {o : pO} {j : Nat} {σ : pS} (S : Stat σ) (R : tkR K V c) (H : cSt K P V c o j σ) : pC mX9_value d [(2, 2)] σ (fun r τ => r = some (1, vTkV σ) ∧ τ = σ) := by
  have c0 := R.1
  obtain ⟨⟨h1, h2⟩, h3, h4, h5, h6⟩ := H
  refine g_X9_value_0 (Nat.zero_le d) S (by unfold inR; omega) (by unfold inR; omega) (fun c1 => by omega) (fun _ => by omega) (fun c2 => ⟨?_, rfl⟩)
  unfold vTkV
  rw [if_pos c2]
theorem step_C {K P V : Nat → Int} {c d : Nat} {o : pO} {j : Nat} {σ : pS} (S : Stat σ) (R : tkR K V c) (H : cSt K P V c o j σ) (hj : o = none → j < c) : pC mX9_step d [(2, 2)] σ (fun r τ => r = none ∧ cFr σ τ ∧ cSt K P V c o (j + 1) τ) := by
  have c0 := R.1
  obtain ⟨⟨h1, h2⟩, h3, h4, h5, h6⟩ := H
  refine g_X9_step_0 (Nat.zero_le d) S (by unfold inR; omega) (by unfold inR; omega) (fun c1 => ⟨rfl, cFr.rf σ, ⟨h1, h2⟩, fun e => ?_, h4, h5, h6⟩) (fun c2 => ⟨rfl, ⟨rfl, fun a i q => rd_wr_n (by omega)⟩, ⟨by rw [rd_wr_n (by omega)]; exact h1, fun i => by rw [rd_wr_n (by omega), rd_wr_n (by omega), rd_wr_n (by omega)]; exact h2 i⟩, fun e => ?_, fun f p e => by rw [rd_wr_n (by omega), rd_wr_n (by omega)]; exact h4 f p e, by rw [rd_wr_same]; omega, by rw [rd_wr_same]; omega⟩)
  · have := h3 e; have := hj e; omega
  · have := h3 e; have := hj e
    rw [rd_wr_n (by omega), rd_wr_n (by omega), rd_wr_same]
    omega
theorem fail_C {K P V : Nat → Int} {c d : Nat} {o : pO} {j : Nat} {σ : pS} (S : Stat σ) (R : tkR K V c) (H : cSt K P V c o j σ) {w : Int} (hw : 0 < w ∧ w < 100) (k : Nat) : pC mX9_fail d [(2, 2), (0, w)] σ (fun r τ => r = some (0, 0) ∧ cFr σ τ ∧ cSt K P V c (oo o (some (if K j = 22 then 1 else w, P j))) k τ) := by
  have c0 := R.1
  have HH := H
  obtain ⟨⟨h1, h2⟩, h3, h4, h5, h6⟩ := H
  cases o with
  | some x =>
    obtain ⟨f, p⟩ := x
    have e := h4 f p rfl
    exact g_X9_fail_0 (Nat.zero_le d) S w (by unfold inR; omega) (fun _ => ⟨rfl, cFr.rf σ, HH.to rfl (fun e => (by cases e))⟩) (fun c2 => by omega) (fun c2 => by omega) (fun c2 => by omega) (fun c2 => by omega) (fun c2 => by omega) (fun c2 => by omega) (fun c2 => by omega) (fun c2 => by omega) (fun c2 => by omega) (fun c2 => by omega) (fun c2 => by omega)
  | none =>
    obtain ⟨e5, e6, e4, hj⟩ := h3 rfl
    have eK : rd σ 3 (rd σ 2 4) = K j := by rw [e4]; exact (h2 j).1
    have eP : rd σ 4 (rd σ 2 4) = P j := by rw [e4]; exact (h2 j).2.1
    have kR := R.kR hj
    have fin : ∀ f : Int, 0 < f → f < 100 → cFr σ (wr (wr σ 2 5 f) 2 6 (rd σ 4 (rd σ 2 4))) ∧ cSt K P V c (some (f, P j)) k (wr (wr σ 2 5 f) 2 6 (rd σ 4 (rd σ 2 4))) := fun f f0 f1 => ⟨⟨rfl, fun a i q => by rw [rd_wr_n (by omega), rd_wr_n (by omega)]⟩, ⟨by rw [rd_wr_n (by omega), rd_wr_n (by omega)]; exact h1, fun i => by rw [rd_wr_n (by omega), rd_wr_n (by omega), rd_wr_n (by omega), rd_wr_n (by omega), rd_wr_n (by omega), rd_wr_n (by omega)]; exact h2 i⟩, fun e => (by cases e), fun f2 p2 e => (by
      cases e
      rw [rd_wr_n (by omega), rd_wr_same, rd_wr_same]
      exact ⟨rfl, f0, f1, eP⟩), by rw [rd_wr_n (by omega), rd_wr_n (by omega)]; exact h5, by rw [rd_wr_n (by omega), rd_wr_n (by omega)]; exact h6⟩
    refine g_X9_fail_0 (Nat.zero_le d) S w (by unfold inR; omega) (fun c1 => by omega) (fun _ => by unfold inR; omega) (fun _ => by unfold inR; omega) (fun _ _ c5 => by omega) (fun _ _ _ => by omega) (fun _ c3 c6 => by omega) (fun _ _ => by omega) (fun _ _ => by rw [eK]; unfold inR; omega) (fun _ c4 _ c9 => by omega) (fun _ _ c7 _ => ⟨rfl, ?_⟩) (fun _ c4 _ c11 => by omega) (fun _ _ c8 _ => ⟨rfl, ?_⟩)
    · rw [eK] at c7
      rw [oo_none, if_neg c7]
      exact fin w hw.1 hw.2
    · rw [eK] at c8
      rw [oo_none, if_pos c8]
      exact fin 1 (by decide) (by decide)
theorem expect_C {K P V : Nat → Int} {c d : Nat} {o : pO} {j : Nat} {σ : pS} (hd : 1 ≤ d) (S : Stat σ) (R : tkR K V c) (H : cSt K P V c o j σ) {k : Int} (hk : 0 ≤ k ∧ k ≤ 62 ∧ k ≠ 21) : pC mX9_expect d [(2, 2), (0, k)] σ (fun r τ => r = some (0, b2i (decide (oo o (ck K P (decide (K j = k)) 2 j) = none))) ∧ cFr σ τ ∧ cSt K P V c (oo o (ck K P (decide (K j = k)) 2 j)) (j + 1) τ) := by
  have hK := H.kind R
  cases o with
  | some x =>
    obtain ⟨f, p⟩ := x
    have e := H.2.2.1 f p rfl
    exact g_X9_expect_0 (Q1 := fun r τ => r = some (0, 0) ∧ cFr σ τ ∧ cSt K P V c (oo (some (f, p)) (some (if K j = 22 then 1 else 2, P j))) (j + 1) τ) (Q2 := fun _ _ => True) (Q3 := fun _ _ => True) (Q4 := fun _ _ => True) hd S k (by unfold inR; omega) (fun _ => fail_C S R H (by decide) _) (fun _ v1 _ τ1 _ q1 => ⟨q1.1, q1.2.1, q1.2.2⟩) (fun c2 => by omega) (fun c2 => by omega) (fun c2 => by omega) (fun c2 => by omega) (fun c2 => by omega) (fun c2 => by omega) (fun c2 => by omega)
  | none =>
    obtain ⟨e5, e6, e4, hj⟩ := H.2.1 rfl
    have eK := (hK.1 rfl).1
    refine g_X9_expect_0 (Q1 := fun _ _ => True) (Q2 := fun r τ => r = some (0, vTkK σ) ∧ τ = σ) (Q3 := fun r τ => r = none ∧ cFr σ τ ∧ cSt K P V c none (j + 1) τ) (Q4 := fun r τ => r = some (0, 0) ∧ cFr σ τ ∧ cSt K P V c (oo none (some (if K j = 22 then 1 else 2, P j))) (j + 1) τ) hd S k (by unfold inR; omega) (fun c1 => by omega) (fun c1 => by omega) (fun _ => kind_C S R H) (fun _ v2 τ2 _ q2 => by have := so_inj q2.1; unfold inR; omega) (fun _ v2 τ2 _ q2 => by unfold inR; omega) (fun _ v2 τ2 _ q2 c3 => ?_) (fun _ v2 τ2 _ q2 c3 τ3 _ q3 => ?_) (fun _ v2 τ2 _ q2 c4 => ?_) (fun _ v2 τ2 _ q2 c4 v4 _ τ4 _ q4 => ?_)
    · have ev := so_inj q2.1
      rw [q2.2]
      exact step_C S R H (fun _ => R.lt hj (by rw [← eK, ← ev, c3]; exact hk.2.2))
    · have ev := so_inj q2.1
      rw [oo_none, ck_t (decide_eq_true (by rw [← eK, ← ev, c3]))]
      exact ⟨rfl, q3.2⟩
    · rw [q2.2]
      exact fail_C S R H (by decide) _
    · have ev := so_inj q2.1
      rw [oo_none, ck_f (decide_eq_false (by rw [← eK, ← ev]; exact c4))]
      exact ⟨q4.1, q4.2⟩
def numO (K P V : Nat → Int) (k lo hi : Int) (j : Nat) : pO := oo (ck K P (decide (K j = k)) 2 j) (oo (ck K P (decide (K (j + 1) = 19)) 2 (j + 1)) (ck K P (decide (lo ≤ V (j + 1) ∧ V (j + 1) ≤ hi)) 4 (j + 1)))
theorem number_C {K P V : Nat → Int} {c d : Nat} {o : pO} {j : Nat} {σ : pS} (hd : 2 ≤ d) (S : Stat σ) (R : tkR K V c) (H : cSt K P V c o j σ) {k lo hi : Int} (hk : 0 ≤ k ∧ k ≤ 62 ∧ k ≠ 21) (hl : inR lo) (hh : inR hi) : pC mX9_numberBehind d [(2, 2), (0, k), (0, lo), (0, hi)] σ (fun r τ => ∃ v, r = some (0, v) ∧ cFr σ τ ∧ cSt K P V c (oo o (numO K P V k lo hi j)) (j + 2) τ ∧ (oo o (numO K P V k lo hi j) = none → v = V (j + 1)) ∧ (v = -1 ∨ (v = V (j + 1) ∧ 0 ≤ v ∧ v ≤ 9999 ∧ lo ≤ v ∧ v ≤ hi))) := by
  have sk : ∀ τ : pS, cFr σ τ → Stat τ := fun τ f => S.eq f.1
  by_cases z : oo o (ck K P (decide (K j = k)) 2 j) = none
  · have zo := oo_none_iff.mp z
    have hj := H.2.1 zo.1
    have kj : K j = k := of_decide_eq_true (ck_none.mp zo.2)
    have jc : j < c := R.lt hj.2.2.2 (by rw [kj]; exact hk.2.2)
    have e0 : oo o (numO K P V k lo hi j) = oo (ck K P (decide (K (j + 1) = 19)) 2 (j + 1)) (ck K P (decide (lo ≤ V (j + 1) ∧ V (j + 1) ≤ hi)) 4 (j + 1)) := by
      unfold numO
      rw [zo.1, zo.2, oo_none, oo_none]
    rw [e0]
    refine g_X9_numberBehind_0 (Q1 := fun r τ => r = some (0, 1) ∧ cFr σ τ ∧ cSt K P V c none (j + 1) τ) (Q2 := fun r τ => r = some (0, K (j + 1)) ∧ cFr σ τ ∧ cSt K P V c none (j + 1) τ) (Q3 := fun r τ => r = some (1, V (j + 1)) ∧ cFr σ τ ∧ cSt K P V c none (j + 1) τ) (Q4 := fun r τ => r = some (0, 0) ∧ cFr σ τ ∧ cSt K P V c (some (if K (j + 1) = 22 then 1 else 4, P (j + 1))) (j + 2) τ) (Q5 := fun r τ => r = none ∧ cFr σ τ ∧ cSt K P V c none (j + 2) τ) (Q6 := fun r τ => r = some (0, 0) ∧ cFr σ τ ∧ cSt K P V c (some (if K (j + 1) = 22 then 1 else 4, P (j + 1))) (j + 2) τ) (Q7 := fun r τ => r = some (0, 0) ∧ cFr σ τ ∧ cSt K P V c (some (if K (j + 1) = 22 then 1 else 2, P (j + 1))) (j + 2) τ) hd S k lo hi ?_ (fun v1 b1 _ _ _ => by unfold inR; omega) (fun v1 b1 τ1 _ q1 _ => ?_) (fun v1 b1 τ1 _ q1 _ v2 τ2 _ q2 => ?_) (fun v1 b1 τ1 _ q1 _ v2 τ2 _ q2 _ => ?_) (fun v1 b1 τ1 _ q1 _ v2 τ2 _ q2 c3 v3 τ3 _ q3 => ?_) (fun v1 b1 τ1 _ q1 _ v2 τ2 _ q2 c3 v3 τ3 _ q3 => hl) (fun v1 b1 τ1 _ q1 _ v2 τ2 _ q2 c3 v3 τ3 _ q3 c5 => ?_) (fun v1 b1 τ1 _ q1 _ v2 τ2 _ q2 c3 v3 τ3 _ q3 c5 v4 b4 τ4 _ q4 => ?_) (fun v1 b1 τ1 _ q1 _ v2 τ2 _ q2 c3 v3 τ3 _ q3 c6 => hh) (fun v1 b1 τ1 _ q1 _ v2 τ2 _ q2 c3 v3 τ3 _ q3 c6 c7 => ?_) (fun v1 b1 τ1 _ q1 _ v2 τ2 _ q2 c3 v3 τ3 _ q3 c6 c7 τ5 _ q5 => ?_) (fun v1 b1 τ1 _ q1 _ v2 τ2 _ q2 c3 v3 τ3 _ q3 c6 c8 => ?_) (fun v1 b1 τ1 _ q1 _ v2 τ2 _ q2 c3 v3 τ3 _ q3 c6 c8 v6 b6 τ6 _ q6 => ?_) (fun v1 b1 τ1 _ q1 _ v2 τ2 _ q2 c4 => ?_) (fun v1 b1 τ1 _ q1 _ v2 τ2 _ q2 c4 v7 b7 τ7 _ q7 => ?_) (fun v1 b1 τ1 _ q1 c2 => ?_)
    · refine (expect_C (Nat.le_refl 1) S R H hk).mono fun r τ _ ⟨q1, q2, q3⟩ => ⟨?_, q2, ?_⟩
      · rw [q1, z]; rfl
      · rw [z] at q3; exact q3
    · refine (kind_C (sk τ1 q1.2.1) R q1.2.2).mono fun r τ _ q => ?_
      rw [q.2]
      exact ⟨by rw [q.1, ((q1.2.2.kind R).1 rfl).1], q1.2⟩
    · have := so_inj q2.1
      have := R.kR (i := j + 1) (by omega)
      unfold inR; omega
    · refine (value_C (sk τ2 q2.2.1) R q2.2.2).mono fun r τ _ q => ?_
      rw [q.2]
      exact ⟨by rw [q.1, ((q2.2.2.kind R).1 rfl).2.1], q2.2⟩
    all_goals try have ev2 := so_inj q2.1
    · have ev := so_inj q3.1
      have := (R.2.2 (j + 1) (R.lt (by omega) (by omega))).2.2.1 (by omega)
      unfold inR; omega
    · exact (fail_C (sk τ3 q3.2.1) R q3.2.2 (by decide) _).mono fun r τ _ q => ⟨q.1, q3.2.1.tr q.2.1, q.2.2⟩
    · have ev := so_inj q3.1
      have n1 : decide (K (j + 1) = 19) = true := decide_eq_true (by omega)
      have n2 : decide (lo ≤ V (j + 1) ∧ V (j + 1) ≤ hi) = false := decide_eq_false (by omega)
      rw [ck_t n1, ck_f n2, oo_none]
      exact ⟨-1, rfl, q4.2.1, q4.2.2, fun e => (by cases e), Or.inl rfl⟩
    · have ev := so_inj q3.1
      exact (step_C (sk τ3 q3.2.1) R q3.2.2 (fun _ => R.lt (by omega) (by omega))).mono fun r τ _ q => ⟨q.1, q3.2.1.tr q.2.1, q.2.2⟩
    · have ev := so_inj q3.1
      have n1 : decide (K (j + 1) = 19) = true := decide_eq_true (by omega)
      have n2 : decide (lo ≤ V (j + 1) ∧ V (j + 1) ≤ hi) = true := decide_eq_true (by omega)
      have := (R.2.2 (j + 1) (R.lt (by omega) (by omega))).2.2.1 (by omega)
      rw [ck_t n1, ck_t n2, oo_none]
      exact ⟨v3, rfl, q5.2.1, q5.2.2, fun _ => ev, Or.inr ⟨ev, by omega, by omega, by omega, by omega⟩⟩
    · exact (fail_C (sk τ3 q3.2.1) R q3.2.2 (by decide) _).mono fun r τ _ q => ⟨q.1, q3.2.1.tr q.2.1, q.2.2⟩
    · have ev := so_inj q3.1
      have n1 : decide (K (j + 1) = 19) = true := decide_eq_true (by omega)
      have n2 : decide (lo ≤ V (j + 1) ∧ V (j + 1) ≤ hi) = false := decide_eq_false (by omega)
      rw [ck_t n1, ck_f n2, oo_none]
      exact ⟨-1, rfl, q6.2.1, q6.2.2, fun e => (by cases e), Or.inl rfl⟩
    · exact (fail_C (sk τ2 q2.2.1) R q2.2.2 (by decide) _).mono fun r τ _ q => ⟨q.1, q2.2.1.tr q.2.1, q.2.2⟩
    · have n1 : decide (K (j + 1) = 19) = false := decide_eq_false (by omega)
      rw [ck_f n1, oo_some]
      exact ⟨-1, rfl, q7.2.1, q7.2.2, fun e => (by cases e), Or.inl rfl⟩
    · have := so_inj q1.1; omega
  · have e0 : oo o (numO K P V k lo hi j) = oo o (ck K P (decide (K j = k)) 2 j) := by
      unfold numO
      rw [← oo_assoc]
      cases h : oo o (ck K P (decide (K j = k)) 2 j) with
      | none => exact absurd h z
      | some x => rfl
    rw [e0]
    have zf : b2i (decide (oo o (ck K P (decide (K j = k)) 2 j) = none)) = 0 := by rw [decide_eq_false z]; rfl
    refine g_X9_numberBehind_0 (Q1 := fun r τ => r = some (0, 0) ∧ cFr σ τ ∧ cSt K P V c (oo o (ck K P (decide (K j = k)) 2 j)) (j + 1) τ) (Q2 := fun _ _ => True) (Q3 := fun _ _ => True) (Q4 := fun _ _ => True) (Q5 := fun _ _ => True) (Q6 := fun _ _ => True) (Q7 := fun _ _ => True) hd S k lo hi ?_ (fun v1 b1 _ _ _ => by unfold inR; omega) (fun v1 b1 τ1 _ q1 c1 => ?_) (fun v1 b1 τ1 _ q1 c1 => ?_) (fun v1 b1 τ1 _ q1 c1 => ?_) (fun v1 b1 τ1 _ q1 c1 => ?_) (fun v1 b1 τ1 _ q1 c1 => ?_) (fun v1 b1 τ1 _ q1 c1 => ?_) (fun v1 b1 τ1 _ q1 c1 => ?_) (fun v1 b1 τ1 _ q1 c1 => ?_) (fun v1 b1 τ1 _ q1 c1 => ?_) (fun v1 b1 τ1 _ q1 c1 => ?_) (fun v1 b1 τ1 _ q1 c1 => ?_) (fun v1 b1 τ1 _ q1 c1 => ?_) (fun v1 b1 τ1 _ q1 c1 => ?_) (fun v1 b1 τ1 _ q1 c1 => ?_) (fun v1 b1 τ1 _ q1 c2 => ?_)
    · exact (expect_C (Nat.le_refl 1) S R H hk).mono fun r τ _ ⟨q1, q2, q3⟩ => ⟨by rw [q1, zf], q2, q3⟩
    iterate 14 exact absurd (so_inj q1.1) c1
    · exact ⟨-1, rfl, q1.2.1, q1.2.2.to rfl (fun e => absurd e z), fun e => absurd e z, Or.inl rfl⟩
