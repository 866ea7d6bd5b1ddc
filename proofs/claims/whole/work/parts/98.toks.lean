/-! signs of a text: small contracts; the codes of words -/
theorem isLetter_C {d : Nat} {σ : pS} (S : Stat σ) {c : Int} (hc : inR c) : pC mX9_isLetter d [(0, c)] σ (fun r τ => r = some (0, b2i (vLet c)) ∧ τ = σ) := by
  refine g_X9_isLetter_0 (Nat.zero_le d) S c hc (fun c1 => ⟨?_, rfl⟩) (fun c2 c3 => ⟨?_, rfl⟩) (fun c2 c4 => ⟨?_, rfl⟩)
  · unfold vLet; exact b2i_zero (by omega)
  · unfold vLet; exact b2i_zero (by omega)
  · unfold vLet; exact b2i_one (by omega)
theorem isDigit_C {d : Nat} {σ : pS} (S : Stat σ) {c : Int} (hc : inR c) : pC mX9_isDigit d [(0, c)] σ (fun r τ => r = some (0, b2i (vDig c)) ∧ τ = σ) := by
  refine g_X9_isDigit_0 (Nat.zero_le d) S c hc (fun c1 => ⟨?_, rfl⟩) (fun c2 c3 => ⟨?_, rfl⟩) (fun c2 c4 => ⟨?_, rfl⟩)
  · unfold vDig; exact b2i_zero (by omega)
  · unfold vDig; exact b2i_zero (by omega)
  · unfold vDig; exact b2i_one (by omega)
theorem mLetter_C {d : Nat} {σ : pS} (S : Stat σ) {c : Int} (hc : inR c) : pC mX11_isLetter d [(0, c)] σ (fun r τ => r = some (0, b2i (vLet c)) ∧ τ = σ) := by
  refine g_X11_isLetter_0 (Nat.zero_le d) S c hc (fun c1 => ⟨?_, rfl⟩) (fun c2 c3 => ⟨?_, rfl⟩) (fun c2 c4 => ⟨?_, rfl⟩)
  · unfold vLet; exact b2i_zero (by omega)
  · unfold vLet; exact b2i_zero (by omega)
  · unfold vLet; exact b2i_one (by omega)
theorem mDigit_C {d : Nat} {σ : pS} (S : Stat σ) {c : Int} (hc : inR c) : pC mX11_isDigit d [(0, c)] σ (fun r τ => r = some (0, b2i (vDig c)) ∧ τ = σ) := by
  refine g_X11_isDigit_0 (Nat.zero_le d) S c hc (fun c1 => ⟨?_, rfl⟩) (fun c2 c3 => ⟨?_, rfl⟩) (fun c2 c4 => ⟨?_, rfl⟩)
  · unfold vDig; exact b2i_zero (by omega)
  · unfold vDig; exact b2i_zero (by omega)
  · unfold vDig; exact b2i_one (by omega)
theorem mSign_C {d : Nat} {σ : pS} (S : Stat σ) {c : Int} (hc : inR c) : pC mX11_isSign d [(0, c)] σ (fun r τ => r = some (0, b2i (vSig c)) ∧ τ = σ) := by
  refine g_X11_isSign_0 (Nat.zero_le d) S c hc (fun _ => ⟨?_, rfl⟩) (fun _ _ => ⟨?_, rfl⟩) (fun _ _ _ => ⟨?_, rfl⟩) (fun _ _ _ _ => ⟨?_, rfl⟩) (fun _ _ _ _ _ => ⟨?_, rfl⟩) (fun _ _ _ _ _ _ => ⟨?_, rfl⟩) (fun _ _ _ _ _ _ _ => ⟨?_, rfl⟩) (fun _ _ _ _ _ _ _ _ => ⟨?_, rfl⟩) (fun _ _ _ _ _ _ _ _ => ⟨?_, rfl⟩)
  case refine_8 => unfold vSig; exact b2i_zero (by omega)
  all_goals unfold vSig; exact b2i_one (by omega)
theorem sig_all : ∀ n : Fin 128, (decide (0 ≤ sIdx (i_c ((n.val : Nat) : Int))) = vSig ((n.val : Nat) : Int)) ∧ -1 ≤ sIdx (i_c ((n.val : Nat) : Int)) ∧ sIdx (i_c ((n.val : Nat) : Int)) ≤ 8 ∧ i_c ((n.val : Nat) : Int) = ((n.val : Nat) : Int) := by decide +kernel
theorem isSign_C {d : Nat} {σ : pS} (hd : 7 ≤ d) (S : Stat σ) {c : Int} (hc : -128 ≤ c ∧ c < 128) : pC mX9_isSign d [(0, c)] σ (fun r τ => r = some (0, b2i (vSig c)) ∧ τ = σ) := by
  have al : 0 < c → (decide (0 ≤ sIdx (i_c c)) = vSig c) ∧ -1 ≤ sIdx (i_c c) ∧ sIdx (i_c c) ≤ 8 ∧ i_c c = c := fun h => by
    have := sig_all ⟨c.toNat, by omega⟩
    rw [show ((c.toNat : Nat) : Int) = c by omega] at this
    exact this
  refine g_X9_isSign_0 hd S c (by unfold inR; omega) (fun c1 => ⟨?_, rfl⟩) (fun c2 => indexOf_C (Nat.le_refl 6) S (by have := al c2; unfold inR; omega)) (fun c2 => by have := al c2; unfold inR; omega) (fun c2 c3 => ⟨?_, rfl⟩) (fun c2 c4 => ⟨?_, rfl⟩)
  · unfold vSig; exact b2i_zero (by omega)
  · rw [← (al c2).1]; exact b2i_zero (by omega)
  · rw [← (al c2).1]; exact b2i_one c4
theorem here_C {d : Nat} {σ : pS} (S : Stat σ) {k : Int} (h4 : 0 ≤ rd σ 68 4 ∧ rd σ 68 4 ≤ 1400) (h5 : rd σ 68 5 ≤ 1400 ∧ 0 ≤ rd σ 68 5) (hk : 0 ≤ k ∧ k ≤ 2000) : pC mX11_here d [(2, 68), (0, k)] σ (fun r τ => r = some (0, vHere σ k) ∧ τ = σ) := by
  refine g_X11_here_0 (Nat.zero_le d) S k (by unfold inR; omega) (by unfold inR; omega) (fun c1 => ⟨?_, rfl⟩) (fun c2 => by omega) (fun c2 => ⟨?_, rfl⟩)
  · unfold vHere; rw [if_neg (by omega)]
  · unfold vHere; rw [if_pos c2]
theorem isPlaceT_C {d : Nat} {σ : pS} (hd : 1 ≤ d) (S : Stat σ) {p n : Int} (hp : 0 ≤ p ∧ p < n) (hn : n ≤ 1400) (hT : ∀ i : Int, 0 ≤ i → i < 1400 → -128 ≤ rd σ 1 i ∧ rd σ 1 i < 128) : pC mX9_isPlace d [(2, 1), (0, p), (0, n)] σ (fun r τ => r = some (0, b2i (vIsP σ p n)) ∧ τ = σ) := by
  have t0 := hT p hp.1 (by omega)
  have t1 : p + 1 < n → -128 ≤ rd σ 1 (p + 1) ∧ rd σ 1 (p + 1) < 128 := fun h => hT _ (by omega) (by omega)
  have t2 : p + 2 < n → -128 ≤ rd σ 1 (p + 2) ∧ rd σ 1 (p + 2) < 128 := fun h => hT _ (by omega) (by omega)
  refine g_X9_isPlace_0 hd S p n (by omega) (by unfold inR; omega) (fun c1 => ⟨?_, rfl⟩) (fun _ => by unfold inR; omega) (fun _ => by unfold inR; omega) (fun c2 c3 => ⟨?_, rfl⟩) (fun _ _ => by omega) (fun _ c4 => isDigit_C S (by have := t1 c4; unfold inR; omega)) (fun _ _ _ => by unfold inR; omega) (fun c2 c4 c5 c7 => ⟨?_, rfl⟩) (fun _ _ _ _ => by omega) (fun _ _ _ c8 => isLetter_C S (by have := t2 c8; unfold inR; omega)) (fun c2 c4 c5 c8 c9 => ⟨?_, rfl⟩) (fun _ _ _ c8 _ => isDigit_C S (by have := t2 c8; unfold inR; omega)) (fun c2 c4 c5 c8 c10 c11 => ⟨?_, rfl⟩) (fun c2 c4 c5 c8 c10 c12 => ⟨?_, rfl⟩) (fun c2 c4 c6 => ⟨?_, rfl⟩)
  · unfold vIsP; exact b2i_zero (fun z => c1 z.1)
  · unfold vIsP; exact b2i_zero (fun z => by have := z.2.1; omega)
  · unfold vIsP; exact b2i_one ⟨c2, c4, c5, Or.inl c7⟩
  · unfold vIsP; exact b2i_zero (fun z => by rcases z.2.2.2 with y | y; omega; rw [c9] at y; cases y.1)
  · unfold vIsP; exact b2i_zero (fun z => by rcases z.2.2.2 with y | y; omega; rw [c11] at y; cases y.2)
  · unfold vIsP; exact b2i_one ⟨c2, c4, c5, Or.inr ⟨c10, c12⟩⟩
  · unfold vIsP; exact b2i_zero (fun z => by rw [c6] at z; cases z.2.2.1)
/-- the class's code of letters, the last one first; and the reference's -/
def w32 : List Int → Int
  | [] => 0
  | c :: t => w32 t * 32 + c - 97 + 1
def w256 : List Int → Int
  | [] => 0
  | c :: t => w256 t * 256 + c
def isLs (l : List Int) : Prop := ∀ c ∈ l, 97 ≤ c ∧ c ≤ 122
theorem w32_R : ∀ {l : List Int}, isLs l → 0 ≤ w32 l ∧ w32 l < 32 ^ l.length
  | [], _ => ⟨Int.le_refl _, by decide⟩
  | c :: t, h => by
    have a := w32_R (l := t) (fun x hx => h x (List.mem_cons_of_mem _ hx))
    have b := h c (List.mem_cons_self)
    show 0 ≤ w32 t * 32 + c - 97 + 1 ∧ w32 t * 32 + c - 97 + 1 < 32 ^ (t.length + 1)
    rw [Int.pow_succ]
    omega
theorem w256_R : ∀ {l : List Int}, isLs l → 0 ≤ w256 l ∧ w256 l < 256 ^ l.length
  | [], _ => ⟨Int.le_refl _, by decide⟩
  | c :: t, h => by
    have a := w256_R (l := t) (fun x hx => h x (List.mem_cons_of_mem _ hx))
    have b := h c (List.mem_cons_self)
    show 0 ≤ w256 t * 256 + c ∧ w256 t * 256 + c < 256 ^ (t.length + 1)
    rw [Int.pow_succ]
    omega
theorem w32_inj : ∀ {l m : List Int}, isLs l → isLs m → w32 l = w32 m → l = m
  | [], [], _, _, _ => rfl
  | [], c :: t, _, h, e => by
    have a := (w32_R (l := t) (fun x hx => h x (List.mem_cons_of_mem _ hx))).1
    have b := h c (List.mem_cons_self)
    have e : (0 : Int) = w32 t * 32 + c - 97 + 1 := e
    omega
  | c :: t, [], h, _, e => by
    have a := (w32_R (l := t) (fun x hx => h x (List.mem_cons_of_mem _ hx))).1
    have b := h c (List.mem_cons_self)
    have e : w32 t * 32 + c - 97 + 1 = 0 := e
    omega
  | c :: t, c2 :: t2, h, h2, e => by
    have b := h c (List.mem_cons_self)
    have b2 := h2 c2 (List.mem_cons_self)
    have e : w32 t * 32 + c - 97 + 1 = w32 t2 * 32 + c2 - 97 + 1 := e
    rw [show c = c2 by omega, w32_inj (fun x hx => h x (List.mem_cons_of_mem _ hx)) (fun x hx => h2 x (List.mem_cons_of_mem _ hx)) (show w32 t = w32 t2 by omega)]
theorem w256_inj : ∀ {l m : List Int}, isLs l → isLs m → w256 l = w256 m → l = m
  | [], [], _, _, _ => rfl
  | [], c :: t, _, h, e => by
    have a := (w256_R (l := t) (fun x hx => h x (List.mem_cons_of_mem _ hx))).1
    have b := h c (List.mem_cons_self)
    have e : (0 : Int) = w256 t * 256 + c := e
    omega
  | c :: t, [], h, _, e => by
    have a := (w256_R (l := t) (fun x hx => h x (List.mem_cons_of_mem _ hx))).1
    have b := h c (List.mem_cons_self)
    have e : w256 t * 256 + c = 0 := e
    omega
  | c :: t, c2 :: t2, h, h2, e => by
    have b := h c (List.mem_cons_self)
    have b2 := h2 c2 (List.mem_cons_self)
    have e : w256 t * 256 + c = w256 t2 * 256 + c2 := e
    rw [show c = c2 by omega, w256_inj (fun x hx => h x (List.mem_cons_of_mem _ hx)) (fun x hx => h2 x (List.mem_cons_of_mem _ hx)) (show w256 t = w256 t2 by omega)]
theorem w256_top : ∀ {t : List Int} {c : Int}, isLs (c :: t) → w256 (c :: t) < 123 * 256 ^ t.length
  | [], c, h => by
    have b := h c (List.mem_cons_self)
    show 0 * 256 + c < 123 * 1
    omega
  | c2 :: t, c, h => by
    have a := w256_top (t := t) (c := c2) (fun x hx => h x (List.mem_cons_of_mem _ hx))
    have b := h c (List.mem_cons_self)
    show w256 (c2 :: t) * 256 + c < 123 * 256 ^ (t.length + 1)
    rw [Int.pow_succ]
    omega
theorem shl_or {w c : Int} (hw : 0 ≤ w ∧ w < 36028797018963968) (hc : 0 ≤ c ∧ c < 256) : l_or (l_shl w 8) c = w * 256 + c := by
  have hw2 := hw.2
  obtain ⟨a, rfl⟩ := Int.eq_ofNat_of_zero_le hw.1
  obtain ⟨b, rfl⟩ := Int.eq_ofNat_of_zero_le hc.1
  have e8 : (Int32.ofInt 8).toInt64 &&& 63 = (8 : Int64) := by decide
  unfold l_or l_shl
  rw [e8, Int64.ofInt_toInt]
  have n1 : (Int64.ofInt (a : Int) <<< (8 : Int64) ||| Int64.ofInt (b : Int)).toBitVec.toNat = a * 256 + b := by
    rw [Int64.toBitVec_or, BitVec.toNat_or, Int64.toBitVec_shiftLeft]
    rw [Int64.toBitVec_ofInt, Int64.toBitVec_ofInt]
    have e9 : ((8 : Int64).toBitVec.smod 64) = (8#64) := by decide
    rw [e9]
    rw [BitVec.shiftLeft_eq', BitVec.toNat_shiftLeft]
    have ea : (BitVec.ofInt 64 (a : Int)).toNat = a := by rw [BitVec.toNat_ofInt]; omega
    have eb : (BitVec.ofInt 64 (b : Int)).toNat = b := by rw [BitVec.toNat_ofInt]; omega
    rw [ea, eb]
    have := Nat.shiftLeft_add_eq_or_of_lt (b := b) (i := 8) (by omega) a
    rw [show (8#64).toNat = 8 by decide]
    rw [Nat.mod_eq_of_lt (by rw [Nat.shiftLeft_eq]; omega), ← this, Nat.shiftLeft_eq]
  show (Int64.ofInt (a : Int) <<< (8 : Int64) ||| Int64.ofInt (b : Int)).toBitVec.toInt = _
  rw [BitVec.toInt_eq_toNat_of_lt (by rw [n1]; omega), n1]
  simp
