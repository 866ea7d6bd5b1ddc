/-! skiers, pure: what came, what goes on, as propositions -/
theorem pHit_t {σ : pS} {k s m x : Int} (h : pHit σ k s m x = true) : rd σ 108 x = s ∧ vCounts (rd σ 111 x) (rd σ 112 x) k = true ∧ rd σ 110 x = m := by simpa [pHit] using h
theorem pHit_f {σ : pS} {k s m x : Int} (h : ¬ (rd σ 108 x = s ∧ vCounts (rd σ 111 x) (rd σ 112 x) k = true ∧ rd σ 110 x = m)) : pHit σ k s m x = false := decide_eq_false h
theorem pAtN_s {σ : pS} {k s m : Int} {n : Nat} : pAtN σ k s m (n + 1) = if pHit σ k s m (n : Int) = true then (if pAtN σ k s m n = -1 ∨ pAtN σ k s m n = rd σ 109 (n : Int) then rd σ 109 (n : Int) else -2) else pAtN σ k s m n := rfl
theorem pAtN_R {σ : pS} (P : RPas σ) {k s m : Int} : ∀ n : Nat, (n : Int) ≤ rd σ 68 65 → (pAtN σ k s m n = -1 ∨ (0 ≤ m ∧ m < 480)) ∧ (pAtN σ k s m n = -1 ∨ pAtN σ k s m n = -2 ∨ (0 ≤ pAtN σ k s m n ∧ pAtN σ k s m n < rd σ 68 30 ∧ rd σ 84 (pAtN σ k s m n) = 1))
  | 0, _ => ⟨Or.inl rfl, Or.inl rfl⟩
  | n + 1, h => by
    have ih := pAtN_R P (k := k) (s := s) (m := m) n (by omega)
    obtain ⟨p1, p2, p3, p4, p5, p6, p7, p8, p9, p10, p11, p12, p13, p14, p15, p16⟩ := P.2.2.2 (n : Int) (by omega) (by omega)
    rw [pAtN_s]
    by_cases c : pHit σ k s m (n : Int) = true
    · rw [if_pos c]
      have c := pHit_t c
      refine ⟨Or.inr (by omega), ?_⟩
      split
      · exact Or.inr (Or.inr ⟨p11, p12, p13⟩)
      · exact Or.inr (Or.inl rfl)
    · rw [if_neg c]; exact ih
theorem pAt_R {σ : pS} (P : RPas σ) (k s m : Int) : (pAt σ k s m = -1 ∨ (0 ≤ m ∧ m < 480)) ∧ (pAt σ k s m = -1 ∨ pAt σ k s m = -2 ∨ (0 ≤ pAt σ k s m ∧ pAt σ k s m < rd σ 68 30 ∧ rd σ 84 (pAt σ k s m) = 1)) := pAtN_R P _ (by have := P.2.1; omega)
theorem nxN_s {σ : pS} {k s : Int} {j : Nat} : nxN σ k s (j + 1) = if pAt σ k s (600 - (j : Int)) = -1 then nxN σ k s j else 600 - (j : Int) := rfl
theorem next_rec {σ : pS} {k s m : Int} (h : m ≤ 600) : nextS σ k s m = if pAt σ k s m = -1 then nextS σ k s (m + 1) else m := by
  unfold nextS
  rw [show (601 - m).toNat = (601 - (m + 1)).toNat + 1 by omega, nxN_s, show (600 : Int) - (((601 - (m + 1)).toNat : Nat) : Int) = m by omega]
theorem next_top {σ : pS} {k s m : Int} (h : 601 ≤ m) : nextS σ k s m = 1000000 := by
  unfold nextS
  rw [show (601 - m).toNat = 0 by omega]
  rfl
theorem nxN_hi {σ : pS} (P : RPas σ) {k s : Int} : ∀ j : Nat, j ≤ 121 → nxN σ k s j = 1000000
  | 0, _ => rfl
  | j + 1, h => by
    rw [nxN_s, nxN_hi P j (by omega), if_pos]
    have := (pAt_R P k s (600 - (j : Int))).1
    omega
theorem next_hi {σ : pS} (P : RPas σ) {k s m : Int} (h : 480 ≤ m) : nextS σ k s m = 1000000 := nxN_hi P _ (by omega)
theorem nxN_R {σ : pS} {k s : Int} : ∀ j : Nat, nxN σ k s j = 1000000 ∨ (601 - (j : Int) ≤ nxN σ k s j ∧ nxN σ k s j ≤ 600)
  | 0 => Or.inl rfl
  | j + 1 => by
    have := nxN_R (σ := σ) (k := k) (s := s) j
    rw [nxN_s]
    split <;> omega
theorem next_R {σ : pS} {k s m : Int} (h : m ≤ 601) : nextS σ k s m = 1000000 ∨ (m ≤ nextS σ k s m ∧ nextS σ k s m ≤ 600) := by
  have := nxN_R (σ := σ) (k := k) (s := s) (601 - m).toNat
  unfold nextS
  omega
theorem st_t {σ : pS} {k s sk w m : Int} (h : stS σ k s sk w m = true) : m ≤ 480 ∧ wyS σ w = true ∧ ¬ (pAt σ k s m = -2 ∨ (0 ≤ pAt σ k s m ∧ pAt σ k s m ≠ w)) ∧ m + minS σ sk w ≤ nextS σ k s (m + 1) ∧ (pAt σ k s m = w ∨ (goS σ sk w = true ∧ ¬ (w < 6 ∧ rd σ 84 w = 1) ∧ openS σ k w m = true)) := of_decide_eq_true h
theorem st_facts {σ : pS} (L : RSlo σ) (P : RPas σ) {k s sk w m : Int} (hs : 0 ≤ sk ∧ sk < 4) (h : stS σ k s sk w m = true) : wyS σ w = true ∧ m < 480 ∧ 1 ≤ minS σ sk w ∧ minS σ sk w ≤ 60 := by
  obtain ⟨h1, h2, h3, h4, h5⟩ := st_t h
  have mR := minS_R L h2 hs
  have t := vWay_t h2
  refine ⟨h2, ?_, mR.1, ?_⟩
  · rcases h5 with e | ⟨-, -, e⟩
    · have := (pAt_R P k s m).1; omega
    · exact openS_lt L h2 e
  · rcases h5 with e | ⟨e, -⟩
    · have := (pAt_R P k s m).2
      have l3 := L.2.2.2.1
      have tk := (L.2.2.2.2.2.2.2.2.2.1 w h2).2.2.2.2.2.2
      unfold minS
      rw [if_pos (by omega)]
      omega
    · exact mR.2.2 e
/-- what the class asks: a gate's lift by its pass alone, others without one -/
theorem st_eq {σ : pS} (L : RSlo σ) (P : RPas σ) {k s sk w m : Int} (hw : wyS σ w = true) (hm : m < 480) (h84 : rd σ 84 w = 0 ∨ rd σ 84 w = 1) : stS σ k s sk w m = (decide (m + minS σ sk w ≤ nextS σ k s (m + 1)) && (if w < 6 ∧ rd σ 84 w ≠ 0 then decide (pAt σ k s m = w) else decide (pAt σ k s m = -1 ∧ goS σ sk w = true ∧ openS σ k w m = true))) := by
  have t := vWay_t hw
  have R := (pAt_R P k s m).2
  have l3 := L.2.2.2.1
  have hw' : vWay (rd σ 68 30) (rd σ 68 31) w = true := hw
  apply Bool.eq_iff_iff.mpr
  rw [Bool.and_eq_true, decide_eq_true_eq]
  by_cases c : w < 6 ∧ rd σ 84 w ≠ 0
  · rw [if_pos c, decide_eq_true_eq]
    constructor
    · intro h
      obtain ⟨h1, h2, h3, h4, h5⟩ := st_t h
      refine ⟨h4, ?_⟩
      rcases h5 with e | ⟨-, e, -⟩
      · exact e
      · exact absurd ⟨c.1, by omega⟩ e
    · rintro ⟨h4, e⟩
      exact decide_eq_true ⟨by omega, hw', by omega, h4, Or.inl e⟩
  · rw [if_neg c, decide_eq_true_eq]
    have ne : ¬ (0 ≤ pAt σ k s m ∧ pAt σ k s m = w) := fun z => by
      rcases R with e | e | e
      · omega
      · omega
      · rw [z.2] at e
        exact c ⟨by omega, by omega⟩
    constructor
    · intro h
      obtain ⟨h1, h2, h3, h4, h5⟩ := st_t h
      refine ⟨h4, ?_⟩
      rcases h5 with e | ⟨e1, e2, e3⟩
      · exact absurd ⟨by omega, e⟩ ne
      · exact ⟨by omega, e1, e3⟩
    · rintro ⟨h4, e1, e2, e3⟩
      exact decide_eq_true ⟨by omega, hw', by omega, h4, Or.inr ⟨e2, fun z => c ⟨z.1, by omega⟩, e3⟩⟩
/-- a way that is begun in a minute from where one came -/
def cHit (σ : pS) (k s sk : Int) (j w : Nat) : Prop := stS σ k s sk (w : Int) (j : Int) = true ∧ cmN σ k s sk j (j : Int) (rd σ 77 (w : Int)) = true
def cmX (σ : pS) (k s sk : Int) (j : Nat) (A : Int → Prop) (B : Nat → Prop) (m p : Int) : Prop := cmN σ k s sk j m p = true ∨ (m = (j : Int) + 1 ∧ pAt σ k s (j : Int) = -1 ∧ cmN σ k s sk j (j : Int) p = true ∧ A p) ∨ ∃ w : Nat, w < 13 ∧ cHit σ k s sk j w ∧ m = (j : Int) + minS σ sk (w : Int) ∧ rd σ 78 (w : Int) = p ∧ B w
theorem cmX_all {σ : pS} {k s sk : Int} {j : Nat} {m p : Int} : cmN σ k s sk (j + 1) m p = true ↔ cmX σ k s sk j (fun _ => True) (fun _ => True) m p := by
  show (cmN σ k s sk j m p || (decide (m = (j : Int) + 1 ∧ pAt σ k s (j : Int) = -1) && cmN σ k s sk j (j : Int) p) || (List.range 13).any (fun w => stS σ k s sk (w : Int) (j : Int) && cmN σ k s sk j (j : Int) (rd σ 77 (w : Int)) && decide (m = (j : Int) + minS σ sk (w : Int) ∧ rd σ 78 (w : Int) = p))) = true ↔ _
  simp only [Bool.or_eq_true, Bool.and_eq_true, decide_eq_true_eq, List.any_eq_true, List.mem_range]
  unfold cmX cHit
  constructor
  · rintro ((h | h) | ⟨w, h1, h2, h3⟩)
    · exact Or.inl h
    · exact Or.inr (Or.inl ⟨h.1.1, h.1.2, h.2, trivial⟩)
    · exact Or.inr (Or.inr ⟨w, h1, h2, h3.1, h3.2, trivial⟩)
  · rintro (h | h | ⟨w, h1, h2, h3, h4, -⟩)
    · exact Or.inl (Or.inl h)
    · exact Or.inl (Or.inr ⟨⟨h.1, h.2.1⟩, h.2.2.1⟩)
    · exact Or.inr ⟨w, h1, h2, h3, h4⟩
theorem cmX_cg {σ : pS} {k s sk : Int} {j : Nat} {A A' : Int → Prop} {B B' : Nat → Prop} (hA : pAt σ k s (j : Int) = -1 → ∀ p, cmN σ k s sk j (j : Int) p = true → (A p ↔ A' p)) (hB : ∀ w : Nat, w < 13 → cHit σ k s sk j w → (B w ↔ B' w)) (m p : Int) : cmX σ k s sk j A B m p ↔ cmX σ k s sk j A' B' m p := by
  unfold cmX
  constructor
  · rintro (h | ⟨h1, h2, h3, h4⟩ | ⟨w, h1, h2, h3, h4, h5⟩)
    · exact Or.inl h
    · exact Or.inr (Or.inl ⟨h1, h2, h3, (hA h2 p h3).mp h4⟩)
    · exact Or.inr (Or.inr ⟨w, h1, h2, h3, h4, (hB w h1 h2).mp h5⟩)
  · rintro (h | ⟨h1, h2, h3, h4⟩ | ⟨w, h1, h2, h3, h4, h5⟩)
    · exact Or.inl h
    · exact Or.inr (Or.inl ⟨h1, h2, h3, (hA h2 p h3).mpr h4⟩)
    · exact Or.inr (Or.inr ⟨w, h1, h2, h3, h4, (hB w h1 h2).mpr h5⟩)
theorem cmX_none {σ : pS} {k s sk : Int} {j : Nat} {m p : Int} : cmX σ k s sk j (fun _ => False) (fun _ => False) m p ↔ cmN σ k s sk j m p = true := by
  unfold cmX
  constructor
  · rintro (h | ⟨-, -, -, h⟩ | ⟨w, -, -, -, -, h⟩)
    · exact h
    · exact h.elim
    · exact h.elim
  · exact Or.inl
/-- one way more -/
theorem cmX_add {σ : pS} {k s sk : Int} {j n : Nat} {A : Int → Prop} {B B' : Nat → Prop} (hn : n < 13) (hh : cHit σ k s sk j n) (hB : ∀ w : Nat, w < 13 → cHit σ k s sk j w → (B' w ↔ B w ∨ w = n)) (m p : Int) : cmX σ k s sk j A B' m p ↔ cmX σ k s sk j A B m p ∨ (m = (j : Int) + minS σ sk (n : Int) ∧ p = rd σ 78 (n : Int)) := by
  unfold cmX
  constructor
  · rintro (h | h | ⟨w, h1, h2, h3, h4, h5⟩)
    · exact Or.inl (Or.inl h)
    · exact Or.inl (Or.inr (Or.inl h))
    · rcases (hB w h1 h2).mp h5 with h6 | h6
      · exact Or.inl (Or.inr (Or.inr ⟨w, h1, h2, h3, h4, h6⟩))
      · subst h6; exact Or.inr ⟨h3, h4.symm⟩
  · rintro ((h | h | ⟨w, h1, h2, h3, h4, h5⟩) | ⟨h3, h4⟩)
    · exact Or.inl h
    · exact Or.inr (Or.inl h)
    · exact Or.inr (Or.inr ⟨w, h1, h2, h3, h4, (hB w h1 h2).mpr (Or.inl h5)⟩)
    · exact Or.inr (Or.inr ⟨n, hn, hh, h3, h4.symm, (hB n hn hh).mpr (Or.inr rfl)⟩)
/-- one place more that stays -/
theorem cmX_stay {σ : pS} {k s sk : Int} {j : Nat} {q : Int} {A A' : Int → Prop} {B : Nat → Prop} (hp : pAt σ k s (j : Int) = -1) (hh : cmN σ k s sk j (j : Int) q = true) (hA : ∀ p, A' p ↔ A p ∨ p = q) (m p : Int) : cmX σ k s sk j A' B m p ↔ cmX σ k s sk j A B m p ∨ (m = (j : Int) + 1 ∧ p = q) := by
  unfold cmX
  constructor
  · rintro (h | ⟨h1, h2, h3, h4⟩ | h)
    · exact Or.inl (Or.inl h)
    · rcases (hA p).mp h4 with h5 | h5
      · exact Or.inl (Or.inr (Or.inl ⟨h1, h2, h3, h5⟩))
      · exact Or.inr ⟨h1, h5⟩
    · exact Or.inl (Or.inr (Or.inr h))
  · rintro ((h | ⟨h1, h2, h3, h4⟩ | h) | ⟨h1, h2⟩)
    · exact Or.inl h
    · exact Or.inr (Or.inl ⟨h1, h2, h3, (hA p).mpr (Or.inl h4)⟩)
    · exact Or.inr (Or.inr h)
    · exact Or.inr (Or.inl ⟨h1, hp, by rw [h2]; exact hh, (hA p).mpr (Or.inr h2)⟩)
/-- the minute itself and those before aren't touched -/
theorem cmX_old {σ : pS} (L : RSlo σ) (P : RPas σ) {k s sk : Int} (hs : 0 ≤ sk ∧ sk < 4) {j : Nat} {A : Int → Prop} {B : Nat → Prop} {m p : Int} (hm : m ≤ (j : Int)) : cmX σ k s sk j A B m p ↔ cmN σ k s sk j m p = true := by
  unfold cmX
  constructor
  · rintro (h | ⟨h1, -⟩ | ⟨w, h1, h2, h3, h4, h5⟩)
    · exact h
    · omega
    · have := st_facts L P hs h2.1; omega
  · exact Or.inl
theorem cmN_old {σ : pS} (L : RSlo σ) (P : RPas σ) {k s sk : Int} (hs : 0 ≤ sk ∧ sk < 4) {j n : Nat} {m p : Int} (hm : m ≤ (j : Int)) : cmN σ k s sk (j + n) m p = cmN σ k s sk j m p := by
  induction n with
  | zero => rfl
  | succ n ih =>
    rw [← ih]
    apply Bool.eq_iff_iff.mpr
    rw [show j + (n + 1) = (j + n) + 1 by omega, cmX_all]
    exact cmX_old L P hs (by omega)
/-! what goes on -/
theorem gsN_s {σ : pS} {k s sk : Int} {j : Nat} {m p : Int} : gsN σ k s sk (j + 1) m p = if m = 540 - (j : Int) then ((decide (pAt σ k s m = -1) && gsN σ k s sk j (m + 1) p) || (List.range 13).any (fun w => vWay (rd σ 68 30) (rd σ 68 31) (w : Int) && decide (rd σ 77 (w : Int) = p) && stS σ k s sk (w : Int) m && gsN σ k s sk j (m + minS σ sk (w : Int)) (rd σ 78 (w : Int)))) else gsN σ k s sk j m p := rfl
theorem gsN_eq' {σ : pS} {k s sk : Int} {m p : Int} : ∀ n : Nat, gsN σ k s sk ((541 - m).toNat + n) m p = gsN σ k s sk (541 - m).toNat m p
  | 0 => rfl
  | n + 1 => by
    rw [← gsN_eq' n, show (541 - m).toNat + (n + 1) = ((541 - m).toNat + n) + 1 by omega, gsN_s, if_neg (by omega)]
theorem gs_eq {σ : pS} {k s sk : Int} {m p : Int} (j : Nat) (h0 : 0 ≤ m) (hj : 541 - m ≤ (j : Int)) : gsN σ k s sk j m p = goesS σ k s sk m p := by
  have e1 := gsN_eq' (σ := σ) (k := k) (s := s) (sk := sk) (m := m) (p := p) (j - (541 - m).toNat)
  have e2 := gsN_eq' (σ := σ) (k := k) (s := s) (sk := sk) (m := m) (p := p) (541 - (541 - m).toNat)
  rw [show (541 - m).toNat + (j - (541 - m).toNat) = j by omega] at e1
  rw [show (541 - m).toNat + (541 - (541 - m).toNat) = 541 by omega] at e2
  unfold goesS
  rw [e1, e2]
theorem goes_hi {σ : pS} {k s sk : Int} {m p : Int} (h : 540 < m) : goesS σ k s sk m p = true := by
  rw [← gs_eq 0 (by omega) (by omega)]
  exact decide_eq_true h
/-- from where, by which ways one goes on -/
def gHit (σ : pS) (k s sk m p : Int) (w : Nat) : Prop := rd σ 77 (w : Int) = p ∧ stS σ k s sk (w : Int) m = true ∧ goesS σ k s sk (m + minS σ sk (w : Int)) (rd σ 78 (w : Int)) = true
theorem goes_rec {σ : pS} (L : RSlo σ) (P : RPas σ) {k s sk : Int} (hs : 0 ≤ sk ∧ sk < 4) {m p : Int} (h0 : 0 ≤ m) (h1 : m ≤ 540) : goesS σ k s sk m p = true ↔ (pAt σ k s m = -1 ∧ goesS σ k s sk (m + 1) p = true) ∨ ∃ w : Nat, w < 13 ∧ gHit σ k s sk m p w := by
  rw [← gs_eq ((540 - m).toNat + 1) h0 (by omega), gsN_s, if_pos (by omega), gs_eq (540 - m).toNat (by omega) (by omega)]
  simp only [Bool.or_eq_true, Bool.and_eq_true, decide_eq_true_eq, List.any_eq_true, List.mem_range]
  unfold gHit
  constructor
  · rintro (h | ⟨w, a1, ⟨⟨a2, a3⟩, a4⟩, a5⟩)
    · exact Or.inl h
    · have f := st_facts L P hs a4
      rw [gs_eq (540 - m).toNat (by omega) (by omega)] at a5
      exact Or.inr ⟨w, a1, a3, a4, a5⟩
  · rintro (h | ⟨w, a1, a3, a4, a5⟩)
    · exact Or.inl h
    · have f := st_facts L P hs a4
      refine Or.inr ⟨w, a1, ⟨⟨f.1, a3⟩, a4⟩, ?_⟩
      rw [gs_eq (540 - m).toNat (by omega) (by omega)]
      exact a5
theorem goes_480 {σ : pS} (L : RSlo σ) (P : RPas σ) {k s sk : Int} (hs : 0 ≤ sk ∧ sk < 4) {p : Int} : ∀ (n : Nat) (m : Int), 480 ≤ m → 541 - m ≤ (n : Int) → goesS σ k s sk m p = true
  | 0, m, h, hn => goes_hi (by omega)
  | n + 1, m, h, hn => by
    by_cases c : 540 < m
    · exact goes_hi c
    · refine (goes_rec L P hs (by omega) (by omega)).mpr (Or.inl ⟨?_, goes_480 L P hs n (m + 1) (by omega) (by omega)⟩)
      have := (pAt_R P k s m).1
      omega
