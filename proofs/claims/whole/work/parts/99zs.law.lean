/-! the reference's reader, step by step -/
abbrev cfg : Type := Int × List (Int × Int) × List Int × Nat × Nat
def zz (p : Int) : Int × Int := (p, 0)
def goC (σ : pS) (n : Int) (K P V E : Nat → Int) (c : Nat) (φ0 : pS) (d : Nat) (s : cfg) (Q : Option pV → pS → Prop) : Prop := ∀ (τ : pS) (u3 : pV), u3.1 ≠ 1 → eSt σ n K P V E c φ0 s.2.1 s.2.2.1 s.2.2.2.1 s.2.2.2.2 τ → pR mX11_readE d 14 [(2, 68), (0, s.1), (0, 1), u3] [] τ Q
def Rch (σ : pS) (n : Int) (K P V E : Nat → Int) (c : Nat) (φ0 : pS) (d : Nat) (s s' : cfg) : Prop := ∀ Q : Option pV → pS → Prop, goC σ n K P V E c φ0 d s' Q → goC σ n K P V E c φ0 d s Q
def Rfl (σ : pS) (n : Int) (K P V E : Nat → Int) (c : Nat) (φ0 : pS) (d : Nat) (s : cfg) (x : Int × Int) : Prop := ∀ Q : Option pV → pS → Prop, (∀ τ, fEnd σ n K P V E c φ0 x τ → Q none τ) → goC σ n K P V E c φ0 d s Q
section LRR
variable {σ : pS} {n : Int} {K P V E : Nat → Int} {c : Nat} {φ0 : pS} {d : Nat} {rn : Bool}
theorem Rch.rf (s : cfg) : Rch σ n K P V E c φ0 d s s := fun _ h => h
theorem Rch.tr {s s' t : cfg} (h : Rch σ n K P V E c φ0 d s s') (g : Rch σ n K P V E c φ0 d s' t) : Rch σ n K P V E c φ0 d s t := fun Q z => h Q (g Q z)
theorem Rch.fl {s s' : cfg} {x : Int × Int} (h : Rch σ n K P V E c φ0 d s s') (g : Rfl σ n K P V E c φ0 d s' x) : Rfl σ n K P V E c φ0 d s x := fun Q z => h Q (g Q z)
theorem goF {v : Int} {u3 : pV} {x : Int × Int} {τ : pS} {Q : Option pV → pS → Prop} (hd : 4 ≤ d) (S0 : Stat φ0) (hu : u3.1 ≠ 1) (f : fEnd σ n K P V E c φ0 x τ) (k : Q none τ) : pR mX11_readE d 14 [(2, 68), (0, v), (0, 1), u3] [] τ Q := by
  have S := S0.eq f.1.1
  have z := f.2.fault
  have ne : rd τ 68 2 ≠ 0 := fun y => (by cases z.2.2.2.mp y)
  refine g_X11_readE_14 hd S v 1 u3 hu z.1 (fun _ => ?_) (fun c2 => absurd c2 ne) (fun c2 => absurd c2 ne) (fun c2 => absurd c2 ne) (fun c2 => absurd c2 ne) (fun c2 => absurd c2 ne) (fun c2 => absurd c2 ne)
  exact g_X11_readE_100 (Q1 := fun _ _ => True) hd S v 1 u3 hu z.1 (fun _ => k) (fun c2 => absurd c2 ne) (fun c2 => absurd c2 ne)
/-- what a step of the reader leaves -/
def stQ (d : Nat) (Q : Option pV → pS → Prop) (r : Option pV) (υ : pS) : Prop := ∀ v : Int, r = some (0, v) → ∀ u3 : pV, u3.1 ≠ 1 → pR mX11_readE d 14 [(2, 68), (0, v), (0, 1), u3] [] υ Q
theorem go_67 {now x3 : Int} {A : List (Int × Int)} {w : List Int} {u j : Nat} {τ : pS} {Q : Option pV → pS → Prop} (hd : 4 ≤ d) (S0 : Stat φ0) (h : eSt σ n K P V E c φ0 A w u j τ) (hn : inR now) (e3 : x3 = 0 ∨ x3 = 1) (hx : now = 3 → x3 = 0) (kO : now ≠ 3 → x3 = 0 → pC mX11_operand 2 [(2, 68), (0, now)] τ (stQ d Q)) (kS : (now = 3 ∨ x3 = 1) → pC mX11_sign 3 [(2, 68), (0, now)] τ (stQ d Q)) : pR mX11_readE d 67 [(2, 68), (0, now), (0, 1), (0, x3)] [] τ Q :=
  g_X11_readE_67 (Q1 := stQ d Q) (Q2 := stQ d Q) (Q3 := stQ d Q) hd (S0.eq h.1.1) now 1 x3 (by decide) (fun _ => hn) (fun _ c3 => kS (Or.inl c3)) (fun _ _ v τ1 _ q => q v rfl _ (show (0 : Nat) ≠ 1 by decide)) (fun _ _ => by unfold inR; omega) (fun _ c4 c5 => kO c4 c5) (fun _ _ _ v τ1 _ q => q v rfl _ (show (0 : Nat) ≠ 1 by decide)) (fun _ _ c6 => kS (Or.inr (by omega))) (fun _ _ _ v τ1 _ q => q v rfl _ (show (0 : Nat) ≠ 1 by decide)) (fun c2 => by omega)
theorem go_op {now : Int} {A : List (Int × Int)} {w : List Int} {u j : Nat} {Q : Option pV → pS → Prop} (hd : 4 ≤ d) (S0 : Stat φ0) (R : tkR K V c) (hn : now = 0 ∨ now = 1 ∨ now = 2) (k : ∀ τ, eSt σ n K P V E c φ0 A w u j τ → pC mX11_operand 2 [(2, 68), (0, now)] τ (stQ d Q)) : goC σ n K P V E c φ0 d (now, A, w, u, j) Q := fun τ u3 hu h => by
  have S := S0.eq h.1.1
  obtain ⟨so, s6, s2, jc, -⟩ := h.so R
  have g := go_67 (x3 := 0) hd S0 h (by unfold inR; omega) (Or.inl rfl) (fun _ => rfl) (fun _ _ => k τ h) (fun z => by omega)
  refine g_X11_readE_14 hd S now 1 u3 hu (by unfold inR; omega) (fun c1 => absurd s2 c1) (fun _ => by decide) (fun _ c3 => by omega) (fun _ _ => by unfold inR; omega) (fun _ _ c5 => by omega) (fun _ _ c6 c7 => ?_) (fun _ _ _ c8 => by omega)
  exact g_X11_readE_41 hd S now 1 0 (by decide) (fun _ => g) (fun c2 => absurd rfl c2) (fun c2 => absurd rfl c2) (fun c2 => absurd rfl c2) (fun c2 => absurd rfl c2) (fun c2 => absurd rfl c2)
theorem go_sg {now : Int} {A : List (Int × Int)} {w : List Int} {u j : Nat} {Q : Option pV → pS → Prop} (hd : 4 ≤ d) (S0 : Stat φ0) (R : tkR K V c) (hw : w.length < 300) (hn : now = 3 ∨ ((now = 4 ∨ now = 5) ∧ (K j ≠ 59 ∨ 28 ∈ w))) (k : ∀ τ, eSt σ n K P V E c φ0 A w u j τ → pC mX11_sign 3 [(2, 68), (0, now)] τ (stQ d Q)) : goC σ n K P V E c φ0 d (now, A, w, u, j) Q := fun τ u3 hu h => by
  have h : eSt σ n K P V E c φ0 A w u j τ := h
  have S := S0.eq h.1.1
  obtain ⟨so, s6, s2, jc, -⟩ := h.so R
  have s59 := so 59 (by decide)
  show pR mX11_readE d 14 [(2, 68), (0, now), (0, 1), u3] [] τ Q
  have rn' : inR now := by unfold inR; omega
  by_cases z : now = 3
  · have g := go_67 (x3 := 0) hd S0 h rn' (Or.inl rfl) (fun _ => rfl) (fun y _ => absurd z y) (fun _ => k τ h)
    refine g_X11_readE_14 hd S now 1 u3 hu (by unfold inR; omega) (fun c1 => absurd s2 c1) (fun _ => by decide) (fun _ c3 => by omega) (fun _ _ => rn') (fun _ _ c5 => by omega) (fun _ _ c6 c7 => ?_) (fun _ _ _ c8 => by omega)
    exact g_X11_readE_41 hd S now 1 0 (by decide) (fun _ => g) (fun c2 => absurd rfl c2) (fun c2 => absurd rfl c2) (fun c2 => absurd rfl c2) (fun c2 => absurd rfl c2) (fun c2 => absurd rfl c2)
  · have g := go_67 (x3 := 1) hd S0 h rn' (Or.inr rfl) (fun y => absurd y z) (fun _ y => by omega) (fun _ => k τ h)
    have g41 : pR mX11_readE d 41 [(2, 68), (0, now), (0, 1), (0, 1)] [] τ Q := by
      refine g_X11_readE_41 hd S now 1 1 (by decide) (fun c1 => by omega) (fun _ => s6) (fun _ _ => g) (fun _ _ => isOpen_E S h hw) (fun _ c4 c5 => ?_) (fun _ _ _ => g)
      rw [h.op] at c5
      have := of_decide_eq_false c5
      rcases hn with y | ⟨_, y | y⟩
      · exact absurd y z
      · exact absurd (s59.mpr c4) y
      · exact absurd y this
    exact g_X11_readE_14 hd S now 1 u3 hu (by unfold inR; omega) (fun c1 => absurd s2 c1) (fun _ => by decide) (fun _ c3 => by omega) (fun _ _ => rn') (fun _ _ _ => g41) (fun _ _ c6 c7 => by omega) (fun _ _ _ _ => g41)
/-- the end of a condition -/
theorem go_end {now : Int} {A : List (Int × Int)} {w : List Int} {u j : Nat} {Q : Option pV → pS → Prop} (hd : 4 ≤ d) (S0 : Stat φ0) (R : tkR K V c) (hb : A.length + w.length < 600 ∧ w.length < 300) (hn : now = 4 ∨ now = 5) (k59 : K j = 59) (hp : ∀ p ∈ w, p ≠ 28) (k : ∀ υ, eSt σ n K P V E c φ0 (A ++ w.map zz) [] u j υ → Q none υ) : goC σ n K P V E c φ0 d (now, A, w, u, j) Q := fun τ u3 hu h => by
  have h : eSt σ n K P V E c φ0 A w u j τ := h
  have S := S0.eq h.1.1
  obtain ⟨so, s6, s2, jc, -⟩ := h.so R
  have s59 := so 59 (by decide)
  have rg := h.2.2.2.1.2.2.2
  have rn' : inR now := by unfold inR; omega
  show pR mX11_readE d 14 [(2, 68), (0, now), (0, 1), u3] [] τ Q
  have no : (28 : Int) ∉ w := fun z => hp 28 z rfl
  have h' : eSt σ n K P V E c φ0 A (w ++ []) u j τ := by rw [List.append_nil]; exact h
  have g100 : ∀ x2 : Int, ∀ u4 : pV, u4.1 ≠ 1 → pR mX11_readE d 100 [(2, 68), (0, now), (0, x2), u4] [] τ Q := fun x2 u4 hu4 =>
    g_X11_readE_100 (Q1 := fun r υ => r = none ∧ eSt σ n K P V E c φ0 (A ++ w.map zz) [] u j υ) hd S now x2 u4 hu4 (by unfold inR; omega) (fun c1 => absurd s2 c1) (fun _ => settle_E (Nat.le_refl _) S0 (by decide) (Or.inl rfl) w (fun p hp' => ⟨hp p hp', by have := rg p hp'; omega⟩) h' ⟨by omega, by show w.length + 0 < 300; omega⟩) (fun _ υ _ q => k υ q.2)
  have g14 : pR mX11_readE d 14 [(2, 68), (0, now), (0, 0), (0, 1)] [] τ Q :=
    g_X11_readE_14 hd S now 0 (0, 1) (by decide) (by unfold inR; omega) (fun c1 => absurd s2 c1) (fun _ => by decide) (fun _ _ => g100 0 (0, 1) (by decide)) (fun _ c4 => absurd rfl c4) (fun _ c4 => absurd rfl c4) (fun _ c4 => absurd rfl c4) (fun _ c4 => absurd rfl c4)
  have g67 : pR mX11_readE d 67 [(2, 68), (0, now), (0, 0), (0, 1)] [] τ Q :=
    g_X11_readE_67 (Q1 := fun _ _ => True) (Q2 := fun _ _ => True) (Q3 := fun _ _ => True) hd S now 0 1 (by decide) (fun c1 => absurd rfl c1) (fun c1 => absurd rfl c1) (fun c1 => absurd rfl c1) (fun c1 => absurd rfl c1) (fun c1 => absurd rfl c1) (fun c1 => absurd rfl c1) (fun c1 => absurd rfl c1) (fun c1 => absurd rfl c1) (fun _ => g14)
  have g41 : pR mX11_readE d 41 [(2, 68), (0, now), (0, 1), (0, 1)] [] τ Q :=
    g_X11_readE_41 hd S now 1 1 (by decide) (fun c1 => by omega) (fun _ => s6) (fun _ c3 => absurd (s59.mp k59) c3) (fun _ _ => isOpen_E S h hb.2) (fun _ _ _ => g67) (fun _ _ c6 => by rw [h.op] at c6; exact absurd (of_decide_eq_true c6) no)
  exact g_X11_readE_14 hd S now 1 u3 hu (by unfold inR; omega) (fun c1 => absurd s2 c1) (fun _ => by decide) (fun _ c3 => by omega) (fun _ _ => rn') (fun _ _ _ => g41) (fun _ _ c6 c7 => by omega) (fun _ _ _ _ => g41)
/-! steps -/
theorem eSt.jc {A : List (Int × Int)} {w : List Int} {u j : Nat} {τ : pS} (h : eSt σ n K P V E c φ0 A w u j τ) : j ≤ c := (h.2.1.2.1 rfl).2.2.1
theorem stQ_F {x : Int × Int} {υ : pS} {Q : Option pV → pS → Prop} {r : Option pV} (hd : 4 ≤ d) (S0 : Stat φ0) (f : fEnd σ n K P V E c φ0 x υ) (k : Q none υ) : stQ d Q r υ := fun _ _ _ hu => goF hd S0 hu f k
theorem stQ_G {v : Int} {A : List (Int × Int)} {w : List Int} {u j : Nat} {υ : pS} {Q : Option pV → pS → Prop} (g : goC σ n K P V E c φ0 d (v, A, w, u, j) Q) (h : eSt σ n K P V E c φ0 A w u j υ) : stQ d Q (some (0, v)) υ := fun v' e u3 hu => by
  have e' : v = v' := so_inj e
  rw [← e']; exact g υ u3 hu h
/-- a unit -/
theorem R_un {now : Int} {A B : List (Int × Int)} {w : List Int} {u j : Nat} (hd : 4 ≤ d) (S0 : Stat φ0) (T : TK σ n K P V E c) (hc : c ≤ 500) (h50 : rd φ0 68 50 = b2i rn) (hn : now = 0 ∨ now = 1 ∨ now = 2) (h0 : now = 0 → K j ≠ 14 ∧ K j ≠ 40) (hA : A.length + w.length ≤ j) (hw : w.length < 300) (hu : u ≤ 40) :
    (∀ x, unF K P V rn (j, u, A, B) = .inl x → Rfl σ n K P V E c φ0 d (now, A, w, u, j) x) ∧ ∀ q', unF K P V rn (j, u, A, B) = .inr q' → Rch σ n K P V E c φ0 d (now, A, w, u, j) (if now = 2 then 4 else 3, qA q', w, qU q', qJ q') ∧ qA q' = A ++ [(uCo (K j), uNum K V j)] ∧ qJ q' = j + 1 ∧ qU q' = u + 1 := by
  have no : ¬ (now = 0 ∧ (K j = 14 ∨ K j = 40)) := fun z => by have := h0 z.1; omega
  have core : ∀ Q : Option pV → pS → Prop, (∀ x, unF K P V rn (j, u, A, B) = .inl x → ∀ τ, fEnd σ n K P V E c φ0 x τ → Q none τ) → (∀ q', unF K P V rn (j, u, A, B) = .inr q' → goC σ n K P V E c φ0 d (if now = 2 then 4 else 3, qA q', w, qU q', qJ q') Q) → goC σ n K P V E c φ0 d (now, A, w, u, j) Q := fun Q k1 k2 => by
    refine go_op hd S0 T.R hn (fun τ h => ?_)
    have jc := h.jc
    refine op_E (Nat.le_refl _) S0 T h50 h (by omega) hw hu hn (fun z1 z2 z3 υ hυ => ?_) (fun z1 z2 => absurd ⟨z1, z2⟩ no) (fun m υ f z => ?_)
    · have e : unF K P V rn (j, u, A, B) = .inr (j + 1, u + 1, A ++ [(uCo (K j), uNum K V j)], B ++ [(uCo (K j), uNum K V j)]) := (if_neg (fun y => by rcases y with y | y; rw [show qJ (j, u, A, B) = j from rfl, z1] at y; cases y; exact absurd (show 40 ≤ u from y) (by omega))).trans (if_neg z3)
      exact stQ_G (k2 _ e) hυ
    · refine stQ_F hd S0 f (k1 _ ?_ υ f)
      rcases z with ⟨e, z⟩ | ⟨e, z1, z2, z3, z4⟩
      · rw [e]
        refine if_pos ?_
        rcases z with ⟨z, _⟩ | ⟨z1, z2, _⟩ | ⟨_, z⟩
        · exact Or.inl z
        · exact absurd ⟨z1, z2⟩ no
        · exact Or.inr z
      · rw [e]
        exact (if_neg (fun y => by rcases y with y | y; rw [show qJ (j, u, A, B) = j from rfl, z1] at y; cases y; exact absurd (show 40 ≤ u from y) (by omega))).trans (if_pos ⟨z3, z4⟩)
  refine ⟨fun x e Q k => core Q (fun y ey => ?_) (fun q' ey => ?_), fun q' e => ⟨fun Q k => core Q (fun y ey => ?_) (fun q2 ey => ?_), ?_⟩⟩
  · rw [e] at ey; rw [← Sum.inl.inj ey]; exact k
  · rw [e] at ey; cases ey
  · rw [e] at ey; cases ey
  · rw [e] at ey; rw [← Sum.inr.inj ey]; exact k
  · unfold unF at e
    split at e
    · cases e
    · split at e
      · cases e
      · rw [← Sum.inr.inj e]; exact ⟨rfl, rfl, rfl⟩
/-- NOT and an opening bracket -/
theorem R_op {A : List (Int × Int)} {w : List Int} {u j : Nat} (hd : 4 ≤ d) (S0 : Stat φ0) (T : TK σ n K P V E c) (hc : c ≤ 500) (h50 : rd φ0 68 50 = b2i rn) (hk : K j = 14 ∨ K j = 40) (hA : A.length + w.length ≤ j) (hw : w.length < 300) (hu : u ≤ 40) :
    (7 ≤ dpW w → Rfl σ n K P V E c φ0 d (0, A, w, u, j) (flt K P 2 j)) ∧ (dpW w < 7 → Rch σ n K P V E c φ0 d (0, A, w, u, j) (0, A, (if K j = 14 then 20 else 28) :: w, u, j + 1)) := by
  have un : isUn (K j) = false := by
    cases z : isUn (K j) with
    | false => rfl
    | true => have := un_no z; omega
  have core : ∀ Q : Option pV → pS → Prop, (7 ≤ dpW w → ∀ τ, fEnd σ n K P V E c φ0 (flt K P 2 j) τ → Q none τ) → (dpW w < 7 → goC σ n K P V E c φ0 d (0, A, (if K j = 14 then 20 else 28) :: w, u, j + 1) Q) → goC σ n K P V E c φ0 d (0, A, w, u, j) Q := fun Q k1 k2 => by
    refine go_op hd S0 T.R (Or.inl rfl) (fun τ h => ?_)
    have jc := h.jc
    refine op_E (Nat.le_refl _) S0 T h50 h (by omega) hw hu (Or.inl rfl) (fun z1 => by rw [un] at z1; cases z1) (fun _ _ z3 υ hυ => stQ_G (k2 z3) hυ) (fun m υ f z => ?_)
    rcases z with ⟨e, z⟩ | ⟨e, z1, _⟩
    · rw [e] at f
      rcases z with ⟨_, z⟩ | ⟨_, _, z⟩ | ⟨z, _⟩
      · exact absurd ⟨rfl, hk⟩ z
      · exact stQ_F hd S0 f (k1 z υ f)
      · rw [un] at z; cases z
    · rw [un] at z1; cases z1
  exact ⟨fun z Q k => core Q (fun _ => k) (fun y => by omega), fun z Q k => core Q (fun y => by omega) (fun _ => k)⟩
theorem R_pm {now : Int} {A : List (Int × Int)} {pend w : List Int} {u j : Nat} (hd : 4 ≤ d) (S0 : Stat φ0) (T : TK σ n K P V E c) (hc : c ≤ 500) (hA : A.length + (pend ++ w).length ≤ j) (hl : (pend ++ w).length < 300) (hn : now = 3 ∨ now = 4) (hk : K j = 43 ∨ K j = 45) (hw : hdT w = 28 ∨ hdT w < 26) (hp : ∀ p ∈ pend, p ≠ 28 ∧ 26 ≤ p) : Rch σ n K P V E c φ0 d (now, A, pend ++ w, u, j) (if now = 3 then 1 else 2, A ++ pend.map zz, pmC (K j) :: w, u, j + 1) := fun Q k =>
  go_sg hd S0 T.R hl (by rcases hn with z | z; exact Or.inl z; exact Or.inr ⟨Or.inl z, Or.inl (by omega)⟩) (fun τ h => by
    have jc := h.jc
    rw [List.length_append] at hA hl
    exact sgn_pm (Nat.le_refl _) S0 T h ⟨by omega, hl⟩ hn hk hw hp (fun υ hυ => stQ_G k hυ))
theorem R_cm {A : List (Int × Int)} {pend w : List Int} {u j : Nat} (hd : 4 ≤ d) (S0 : Stat φ0) (T : TK σ n K P V E c) (hc : c ≤ 500) (hA : A.length + (pend ++ w).length ≤ j) (hl : (pend ++ w).length < 300) (hk : K j = 60 ∨ K j = 61 ∨ K j = 62) (hw : hdT w = 28 ∨ hdT w < 26) (hp : ∀ p ∈ pend, p ≠ 28 ∧ 26 ≤ p) : Rch σ n K P V E c φ0 d (3, A, pend ++ w, u, j) (2, A ++ pend.map zz, cmC (K j) :: w, u, j + 1) := fun Q k =>
  go_sg hd S0 T.R hl (Or.inl rfl) (fun τ h => by
    have jc := h.jc
    rw [List.length_append] at hA hl
    exact sgn_cm (Nat.le_refl _) S0 T h ⟨by omega, hl⟩ hk hw hp (fun υ hυ => stQ_G k hυ))
theorem R_jo {now : Int} {A : List (Int × Int)} {pend w : List Int} {u j : Nat} (hd : 4 ≤ d) (S0 : Stat φ0) (T : TK σ n K P V E c) (hc : c ≤ 500) (hA : A.length + (pend ++ w).length ≤ j) (hl : (pend ++ w).length < 300) (hn : now = 4 ∨ now = 5) (hk : K j = 13 ∨ K j = 12) (hw : hdT w = 28 ∨ (K j = 13 ∧ hdT w = 21)) (hp : ∀ p ∈ pend, p ≠ 28 ∧ (K j = 13 → p ≠ 21)) : Rch σ n K P V E c φ0 d (now, A, pend ++ w, u, j) (0, A ++ pend.map zz, (if K j = 13 then 22 else 21) :: w, u, j + 1) := fun Q k =>
  go_sg hd S0 T.R hl (Or.inr ⟨hn, Or.inl (by omega)⟩) (fun τ h => by
    have jc := h.jc
    rw [List.length_append] at hA hl
    exact sgn_jo (Nat.le_refl _) S0 T h ⟨by omega, hl⟩ hn hk hw hp (fun υ hυ => stQ_G k hυ))
theorem R_cl {now : Int} {A : List (Int × Int)} {pend w : List Int} {u j : Nat} (hd : 4 ≤ d) (S0 : Stat φ0) (T : TK σ n K P V E c) (hc : c ≤ 500) (hA : A.length + (pend ++ 28 :: w).length ≤ j) (hl : (pend ++ 28 :: w).length < 300) (hn : now = 4 ∨ now = 5) (hk : K j = 41) (hp : ∀ p ∈ pend, p ≠ 28) : Rch σ n K P V E c φ0 d (now, A, pend ++ 28 :: w, u, j) (5, A ++ pend.map zz, w, u, j + 1) := fun Q k =>
  go_sg hd S0 T.R hl (Or.inr ⟨hn, Or.inl (by omega)⟩) (fun τ h => by
    have jc := h.jc
    rw [List.length_append] at hA hl
    rw [List.length_cons] at hA hl
    exact sgn_cl (Nat.le_refl _) S0 T h ⟨by omega, hl⟩ hp hn hk (fun υ hυ => stQ_G k hυ))
theorem R_F {now : Int} {A : List (Int × Int)} {w : List Int} {u j : Nat} (hd : 4 ≤ d) (S0 : Stat φ0) (T : TK σ n K P V E c) (hw : w.length < 300) (hn : now = 3 ∨ now = 4 ∨ now = 5) (h59 : now = 3 ∨ K j ≠ 59 ∨ 28 ∈ w) (h5 : now = 5 ∨ ¬ (K j = 43 ∨ K j = 45)) (h3 : now ≠ 3 ∨ ¬ (K j = 60 ∨ K j = 61 ∨ K j = 62)) (hf : now = 3 ∨ (K j ≠ 13 ∧ K j ≠ 12 ∧ (K j ≠ 41 ∨ 28 ∉ w))) : Rfl σ n K P V E c φ0 d (now, A, w, u, j) (flt K P 2 j) := fun Q k =>
  go_sg hd S0 T.R hw (by
    rcases h59 with z | z
    · exact Or.inl z
    · rcases hn with y | y
      · exact Or.inl y
      · exact Or.inr ⟨y, z⟩) (fun τ h => sgn_F (Nat.le_refl _) S0 T h hw hn h5 h3 hf (fun υ f => stQ_F hd S0 f (k υ f)))
end LRR
