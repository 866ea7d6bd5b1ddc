/-! the class's mountain() -/
theorem pC.fix {M : pM} {d : Nat} {As : List pV} {σ : pS} {Q : Option pV → pS → Prop} (h : pC M d As σ Q) : ∃ r τ, Q r τ ∧ pLe σ τ ∧ pRok M.2.2.2 r ∧ pC M d As σ (fun r' τ' => r' = r ∧ τ' = τ) := by
  obtain ⟨r, τ, q, ok, rn⟩ := h
  exact ⟨r, τ, q, rn.1, ok, r, τ, ⟨rfl, rfl⟩, ok, rn⟩
def fgQ (σ : pS) (M : Int) (L R : Nat) (r : Option pV) (τ : pS) : Prop := r = none ∧ τ.1 = σ.1 ∧ (∀ a i : Int, ¬ (62 ≤ a ∧ a ≤ 64) → ¬ (a = 61 ∧ i = 6) → rd τ a i = rd σ a i) ∧ rd τ 61 6 = M ∧ (∀ i : Int, 0 ≤ i → i < 20 → rd τ 62 i = -2) ∧ (∀ i : Nat, i < 100 → rd τ 63 (i : Int) = fwS (fwW (vWay (L : Int) (R : Int)) (inFr (rd σ (M + 2))) (inFr (rd σ (M + 3))) (inFr (rd σ (M + 4))) 13) 1000 (i : Int)) ∧ ∀ r : Nat, r < R → ∀ o : Nat, o < 32 → bq (rd τ 64 (r : Int)) o = decide (o < R ∧ rd σ (M + 3) ((10 + o : Nat) : Int) = rd σ (M + 2) ((10 + r : Nat) : Int))
theorem forget_C {d : Nat} {σ : pS} (hd : 3 ≤ d) (S : Stat σ) {M : Int} (hm : M = 6 ∨ 141 ≤ M) (I : Inst6 σ M) {L R : Nat} (hl : rd σ M 0 = (L : Int)) (hr : rd σ M 1 = (R : Int)) (l6 : L ≤ 6) (r7 : R ≤ 7) (hv : ∀ w : Nat, w < 17 → inR (rd σ (M + 2) (w : Int)) ∧ inR (rd σ (M + 3) (w : Int))) (Y : fwY (vWay (L : Int) (R : Int)) (inFr (rd σ (M + 2))) (inFr (rd σ (M + 3))) (inFr (rd σ (M + 4)))) : pC mX7_forget d [(2, 61), (2, M)] σ (fgQ σ M L R) := by
  obtain ⟨s1, hs1⟩ : ∃ s, s = fl (wr σ 61 6 M) 62 (20 : Nat) (-2) := ⟨_, rfl⟩
  have f1 : ∀ a i : Int, ¬ (a = 62) → ¬ (a = 61 ∧ i = 6) → rd s1 a i = rd σ a i := fun a i h1 h2 => by rw [hs1, rd_fl, if_neg (by omega), rd_wr_n (by omega)]
  have e1 : s1.1 = σ.1 := by rw [hs1]; rfl
  have m1 : rd s1 61 6 = M := by rw [hs1, rd_fl, if_neg (by omega), rd_wr_same]
  have g2 : rd s1 (M + 2) = rd σ (M + 2) := funext fun i => f1 _ i (by omega) (by omega)
  have g3 : rd s1 (M + 3) = rd σ (M + 3) := funext fun i => f1 _ i (by omega) (by omega)
  have g4 : rd s1 (M + 4) = rd σ (M + 4) := funext fun i => f1 _ i (by omega) (by omega)
  have g0 : rd s1 M 0 = rd σ M 0 := f1 _ _ (by omega) (by omega)
  have gr : rd s1 M 1 = rd σ M 1 := f1 _ _ (by omega) (by omega)
  have B := between_C (d := 2) (Nat.le_refl 2) (S.eq e1) m1 hm (I.eq e1) (by omega) (by omega) (by rw [g0, gr, hl, hr, g2, g3, g4]; exact Y)
  obtain ⟨r2, s2, q2, le2, -, B⟩ := B.fix
  have f2 := q2.2.2.1
  have A := above_C (d := 1) (Nat.le_refl 1) (S.eq (q2.2.1.trans e1)) (M := M) (R := R) ((f2 _ _ (by decide)).trans m1) hm (I.eq (q2.2.1.trans e1)) ((f2 _ _ (by omega)).trans (gr.trans hr)) r7 (fun w hw => by rw [f2 _ _ (by omega), f2 _ _ (by omega), g2, g3]; exact hv w hw)
  refine g_X7_forget_0 (Q1 := fun r τ => r = none ∧ τ = s1) (Q2 := fun r τ => r = r2 ∧ τ = s2) (Q3 := fun r τ => r = none ∧ abv s2 M R τ) hd S M I ?_ (fun τ1 _ q => ?_) (fun τ1 _ _ τ2 _ q => ?_) (fun τ1 _ _ τ2 _ q τ3 _ q3 => ?_)
  · rw [hs1]
    exact fill_C S.wr (ob_62 S.wr) (by decide)
  · rw [q.2]; exact B
  · rw [q.2]; exact A
  · obtain ⟨-, y1, y2, y3⟩ := q3
    have F : ∀ a i : Int, ¬ (62 ≤ a ∧ a ≤ 64) → ¬ (a = 61 ∧ i = 6) → rd τ3 a i = rd σ a i := fun a i h1 h2 => by rw [y2 _ _ (by omega), f2 _ _ (by omega), f1 _ _ (by omega) h2]
    refine ⟨rfl, y1.trans (q2.2.1.trans e1), F, ?_, fun i i0 i1 => ?_, fun i hi => ?_, fun x hx o ho => ?_⟩
    · rw [y2 _ _ (by omega), f2 _ _ (by omega), m1]
    · rw [y2 _ _ (by omega), f2 _ _ (by omega), hs1, rd_fl, if_pos (by omega)]
    · rw [y2 _ _ (by omega), q2.2.2.2 i hi, g0, gr, hl, hr, g2, g3, g4]
    · rw [y3 x hx o ho, f2 _ _ (by omega), f2 _ _ (by omega), g2, g3]
/-- the cut text -/
theorem cut_TK {σ τ1 τ : pS} {n : Int} {r : Option pV} (h : cutD τ1 n r τ) (e : ∀ x : Int, rd τ1 1 x = rd σ 1 x) (X : txt σ n) : ∃ (c : Nat) (E : Nat → Int), TK σ n (fun i => rd τ 3 (i : Int)) (fun i => rd τ 4 (i : Int)) (fun i => rd τ 5 (i : Int)) E c ∧ cSt (fun i => rd τ 3 (i : Int)) (fun i => rd τ 4 (i : Int)) (fun i => rd τ 5 (i : Int)) c none 0 τ := by
  obtain ⟨h1, h2, h3, h4, h5, c, E, h6, h7, ⟨h8, h9, h10⟩, h11, h12⟩ := h
  have bk : ∀ a b : Int, blks τ1 a b → blks σ a b := fun a b y => ⟨y.1, fun x x0 x1 => by rw [← e]; exact y.2 x x0 x1⟩
  refine ⟨c, E, ⟨X, h6, fun i hi => ?_, h8, bk _ _ h10, h11, h12⟩, ⟨h7, fun i => ⟨rfl, rfl, rfl⟩⟩, fun _ => ⟨h4, h5, h3, Nat.zero_le _⟩, fun f p q => (by cases q), by omega, by omega⟩
  obtain ⟨a1, a2, a3, a4, a5⟩ := h9 i hi
  exact ⟨bk _ _ a1, a2, a3, by rw [← e]; exact a4, tokT_cg e a5⟩
def mS0 : mdS := ((0, 0), 0, (false, 0), (fun _ => 0), 0)
theorem mS0_inv (K P V : Nat → Int) (c : Nat) : mInv K P V c mS0 := ⟨Nat.zero_le _, Nat.zero_le _, ⟨Int.le_refl _, show (0 : Int) ≤ 9 by decide⟩, Nat.le_refl _, Nat.zero_le _, fun w hw => absurd hw (Nat.not_lt_zero _), fun w h1 h2 => by
  have h2 : w < 10 + 0 := h2
  omega⟩
def sloL : List (Nat × Nat) := (6, 10) :: [(53, 17), (50, 17), (50, 17), (50, 17), (50, 6), (50, 17), (50, 17), (52, 17), (50, 17), (50, 17)]
def slIn (σ : pS) (r : Option pV) (τ : pS) : Prop := r = none ∧ τ.1 = σ.1 ++ sloL ∧ Inst6 τ ((σ.1.length : Nat) : Int) ∧ (∀ b i : Int, b < ((σ.1.length : Nat) : Int) → rd τ b i = rd σ b i) ∧ (∀ i : Int, rd τ ((σ.1.length : Nat) : Int) i = pdf 6 i) ∧ ∀ k i : Int, 1 ≤ k → k ≤ 10 → rd τ (((σ.1.length : Nat) : Int) + k) i = 0
theorem slopesI_C {d : Nat} {σ : pS} (hd : 1 ≤ d) : pC mX6_init d [(2, ((σ.1.length : Nat) : Int))] (nw σ 6 0) (slIn σ) := by
  refine g_X6_init_0 hd (Mk_start σ 6) (fun k i h1 _ => mbase_n σ 6 k i h1) (fun τ h => ?_)
  refine ⟨rfl, h.1, ⟨h.obB, h.obr (j := 0) rfl rfl, h.obr (j := 1) rfl rfl, h.obr (j := 2) rfl rfl, h.obr (j := 3) rfl rfl, h.obr (j := 4) rfl rfl, h.obr (j := 5) rfl rfl, h.obr (j := 6) rfl rfl, h.obr (j := 7) rfl rfl, h.obr (j := 8) rfl rfl, h.obr (j := 9) rfl rfl⟩, fun b i hb => ?_, fun i => ?_, fun k i k1 k2 => ?_⟩
  · rw [h.2 b i (by simp; omega), mbase_o σ 6 b i hb]
  · rw [h.2 _ _ (by simp; omega)]; unfold mbase; rw [if_pos rfl]
  · rw [h.2 _ _ (by simp; omega), mbase_n σ 6 k i k1]
theorem cutTape_C {d : Nat} {σ : pS} (hd : 10 ≤ d) (S : Stat σ) {n : Int} (hn : rd σ 0 1 = n) (X : txt σ n) : pC mX10_cutTape d [(2, 0)] σ (fun r τ => r = none ∧ ∃ φ, cutD σ n none φ ∧ τ = wr φ 0 1 0) := by
  refine g_X10_cutTape_0 (Q1 := cutD σ n) hd S (by rw [hn]; exact cut_C (Nat.le_refl 9) S X) (fun τ1 _ q => ⟨rfl, τ1, q, rfl⟩)
def mntF (σ : pS) (f p : Int) (τ : pS) : Prop := rd τ 0 1 = 0 ∧ rd τ 0 3 = f ∧ rd τ 0 4 = p ∧ ∀ a i : Int, a < ((σ.1.length : Nat) : Int) → ¬ (2 ≤ a ∧ a ≤ 5) → ¬ (a = 0 ∧ (i = 1 ∨ i = 3 ∨ i = 4)) → rd τ a i = rd σ a i
def mntG (K V : Nat → Int) (t : mdS) (σ : pS) (A : Int) (τ : pS) : Prop := rd τ 0 1 = 0 ∧ rd τ 0 3 = 0 ∧ rd τ 0 4 = -1 ∧ rd τ 0 6 = rd σ 0 6 + 1 ∧ rd τ 0 7 = A ∧ rd τ 29 5 = 0 ∧ (∀ i : Int, 0 ≤ i → i < 10 → rd τ 48 i = 0) ∧ (∀ i : Int, 0 ≤ i → i < 7 → rd τ 49 i = 0) ∧ rd τ 50 2 = 0 ∧ rd τ 61 6 = A ∧ (∀ i : Int, 0 ≤ i → i < 20 → rd τ 62 i = -2) ∧ (∀ i : Nat, i < 100 → rd τ 63 (i : Int) = fwS (fwW (vWay (mL t : Int) (mR t : Int)) (inFr (rd τ (A + 2))) (inFr (rd τ (A + 3))) (inFr (rd τ (A + 4))) 13) 1000 (i : Int)) ∧ (∀ r : Nat, r < mR t → ∀ o : Nat, o < 32 → bq (rd τ 64 (r : Int)) o = decide (o < mR t ∧ rd τ (A + 3) ((10 + o : Nat) : Int) = rd τ (A + 2) ((10 + r : Nat) : Int))) ∧ cOB K V A t τ ∧ rd τ A 2 = mN t ∧ ∀ a i : Int, a < A → ¬ (2 ≤ a ∧ a ≤ 5) → ¬ (a = 0 ∧ (i = 1 ∨ i = 3 ∨ i = 4 ∨ i = 6 ∨ i = 7)) → ¬ (a = 29 ∧ i = 5) → ¬ (a = 48 ∨ a = 49) → ¬ (a = 50 ∧ i = 2) → ¬ (a = 61 ∧ i = 6) → ¬ (62 ≤ a ∧ a ≤ 64) → rd τ a i = rd σ a i
def mntQ (σ : pS) (r : Option pV) (τ : pS) : Prop := ∃ (K P V E : Nat → Int) (c k : Nat) (t : mdS), TK σ (rd σ 0 1) K P V E c ∧ runs K P V k mS0 t ∧ mInv K P V c t ∧ pLe σ τ ∧ τ.1 = σ.1 ++ sloL ∧ Inst6 τ ((σ.1.length : Nat) : Int) ∧ ((K (mAt t) ≠ 21 ∧ ∃ f p : Int, lineO K P V t = some (f, p) ∧ r = some (0, -1) ∧ mntF σ f p τ) ∨ (K (mAt t) = 21 ∧ r = some (0, (mN t : Int)) ∧ mntG K V t σ ((σ.1.length : Nat) : Int) τ))
theorem wayV_R {K P V : Nat → Int} {c : Nat} (R : tkR K V c) {t : mdS} (I : mInv K P V c t) (w : Nat) (m : Int) (m0 : 1 ≤ m) (m1 : m ≤ 10) : 0 ≤ wayV K V t w m ∧ (m ≠ 1 → wayV K V t w m ≤ 480) ∧ ((m = 2 ∨ m = 3) → wayV K V t w m ≤ 9) ∧ (m = 4 → wayV K V t w m ≤ 60) ∧ (m = 8 → wayV K V t w m ≤ 1) ∧ (m = 9 → wayV K V t w m ≤ 3) := by
  obtain ⟨i1, i2, i3, i4, i5, i6, i7⟩ := I
  have hm : m = 1 ∨ m = 2 ∨ m = 3 ∨ m = 4 ∨ m = 5 ∨ m = 6 ∨ m = 7 ∨ m = 8 ∨ m = 9 ∨ m = 10 := by omega
  unfold wayV
  by_cases z : w < mL t
  · rw [if_pos z]
    obtain ⟨b, nt, h⟩ := i6 w z
    have q := lift_none R b h
    have g : 0 ≤ b2i (decide (K (mB t w + 12) = 7)) ∧ b2i (decide (K (mB t w + 12) = 7)) ≤ 1 := by cases decide (K (mB t w + 12) = 7) <;> decide
    refine ⟨?_, fun h1 => ?_, fun h2 => ?_, fun h4 => ?_, fun h8 => ?_, fun h9 => ?_⟩ <;> rcases hm with rfl | rfl | rfl | rfl | rfl | rfl | rfl | rfl | rfl | rfl <;> unfold liftV <;> simp only [Int.reduceEq, ↓reduceIte] <;> omega
  · rw [if_neg z]
    by_cases z2 : 10 ≤ w ∧ w < 10 + mR t
    · rw [if_pos z2]
      obtain ⟨b, nt, h⟩ := i7 w z2.1 z2.2
      have q := run_none R b h
      refine ⟨?_, fun h1 => ?_, fun h2 => ?_, fun h4 => ?_, fun h8 => ?_, fun h9 => ?_⟩ <;> rcases hm with rfl | rfl | rfl | rfl | rfl | rfl | rfl | rfl | rfl | rfl <;> unfold runV <;> simp only [Int.reduceEq, ↓reduceIte] <;> omega
    · rw [if_neg z2]
      omega
