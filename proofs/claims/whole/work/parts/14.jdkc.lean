/-! contracts of Arrays.fill and of String's methods -/
/-- a row filled up to n -/
def fl (σ : pS) (a n v : Int) : pS := (σ.1, fun x y => if x = a ∧ 0 ≤ y ∧ y < n then v else σ.2 x y)
theorem rd_fl (σ : pS) (a n v x y : Int) : rd (fl σ a n v) x y = if x = a ∧ 0 ≤ y ∧ y < n then v else rd σ x y := rfl
theorem ob_fl (σ : pS) (a n v x : Int) : ob (fl σ a n v) x = ob σ x := rfl
theorem fl_0 (σ : pS) (a v : Int) : fl σ a 0 v = σ := by
  unfold fl
  congr 1
  funext x y
  rw [if_neg (by omega)]
theorem pS_ext {σ τ : pS} (h1 : σ.1 = τ.1) (h2 : ∀ x y, rd σ x y = rd τ x y) : σ = τ := Prod.ext h1 (funext fun x => funext fun y => h2 x y)
theorem fl_s (σ : pS) (a i v : Int) (h : 0 ≤ i) : wr (fl σ a i v) a i v = fl σ a (i + 1) v := by
  refine pS_ext (show (wr (fl σ a i v) a i v).1 = (fl σ a (i + 1) v).1 from rfl) ?_
  intro x y
  rw [rd_wr, rd_fl, rd_fl]
  grind
theorem Stat.fl {σ : pS} {a n v : Int} (h : Stat σ) : Stat (fl σ a n v) := h
theorem pLe.fl (σ : pS) {a n v : Int} (h : 0 ≤ a) : pLe σ (fl σ a n v) := ⟨Nat.le_refl _, Nat.le_refl _, fun _ _ h _ => h, fun b j hb => by rw [rd_fl, if_neg (by omega)]⟩
theorem fill_loop {d : Nat} {σ : pS} (hst : Stat σ) {a v : Int} {n : Nat} (ho : ob σ a = some (50, n)) (hn : n < 2147483648) : ∀ (m : Nat) (i : Int), 0 ≤ i → i + m = n → pR mJ7_fill_53178 d 5 [(2, a), (0, v), (0, i), (0, (n : Int))] [] (fl σ a i v) (fun r τ => r = none ∧ τ = fl σ a n v) := by
  intro m
  induction m with
  | zero =>
    intro i h0 hi
    refine g_J7_fill_53178_5 (nx0 := n) (Nat.zero_le d) hst.fl a v i n ho (by omega) (by omega) (fun _ => ⟨rfl, ?_⟩) (fun c => by omega) (fun c => by omega)
    rw [show i = (n : Int) by omega]
  | succ m ih =>
    intro i h0 hi
    refine g_J7_fill_53178_5 (nx0 := n) (Nat.zero_le d) hst.fl a v i n ho (by omega) (by omega) (fun c => by omega) (fun c => by omega) (fun c => ?_)
    rw [fl_s σ a i v h0]
    exact ih (i + 1) (by omega) (by omega)
theorem fill_C {d : Nat} {σ : pS} (hst : Stat σ) {a v : Int} {n : Nat} (ho : ob σ a = some (50, n)) (hn : n < 2147483648) : pC mJ7_fill_53178 d [(2, a), (0, v)] σ (fun r τ => r = none ∧ τ = fl σ a n v) := by
  refine g_J7_fill_53178_0 (nx1 := n) (Nat.zero_le d) hst a v ho ?_
  have := fill_loop (d := d) hst (v := v) ho hn n 0 (by omega) (by omega)
  rw [fl_0] at this
  exact this
theorem len0_C {d : Nat} {σ : pS} (hd : 1 ≤ d) (hst : Stat σ) : pC mJ0_length_8abf5 d [(4, 0)] σ (fun r τ => r = some (0, 85) ∧ τ = σ) :=
  g_J0_length_8abf5_s0_0 hd hst (g_J0_coder_7d493_s0_0 (by omega) hst ⟨rfl, rfl⟩) ⟨by rw [show i_shr 85 0 = 85 by decide], rfl⟩
theorem len1_C {d : Nat} {σ : pS} (hd : 1 ≤ d) (hst : Stat σ) : pC mJ0_length_8abf5 d [(4, 1)] σ (fun r τ => r = some (0, 8) ∧ τ = σ) :=
  g_J0_length_8abf5_s1_0 hd hst (g_J0_coder_7d493_s1_0 (by omega) hst ⟨rfl, rfl⟩) ⟨by rw [show i_shr 8 0 = 8 by decide], rfl⟩
theorem charAt0_C {d : Nat} {σ : pS} (hd : 4 ≤ d) (hst : Stat σ) {k : Int} (hk : 0 ≤ k ∧ k < 85) : pC mJ0_charAt_5068e d [(4, 0), (0, k)] σ (fun r τ => r = some (0, sCh 0 k) ∧ τ = σ) := by
  have h85 : sLen 0 = 85 := by decide
  refine g_J0_charAt_5068e_0 hd hst k (g_J0_isLatin1_aae02_s0_0 (by omega) hst ⟨rfl, rfl⟩) ?_ ⟨rfl, rfl⟩ (narC0 ⟨_, rfl⟩)
  refine g_J1_charAt_3b067_0 (Q1 := fun r τ => r = none ∧ τ = σ) (by omega) hst k ?_ (fun τ _ _ => by omega) (fun τ _ q => ⟨rfl, q.2⟩)
  exact g_J0_checkIndex_df160_0 (by omega) hst k 85 (g_J3_checkIndex_8e157_0 (by omega) hst k 85 (by omega) (by omega) (by omega) (fun _ _ => ⟨rfl, rfl⟩) (by omega)) ⟨rfl, rfl⟩
/-- where a byte stands in the text of signs, from a place on -/
def sIx (c : Int) : Nat → Int → Int
  | 0, _ => -1
  | m + 1, i => if sByt 1 i = i_b c then i else sIx c m (i + 1)
def sIdx (c : Int) : Int := if 0 ≤ c ∧ c ≤ 255 then sIx c 8 0 else -1
theorem sByt_R (i : Nat) (j : Int) : inR (sByt i j) := by
  unfold sByt
  have h1 := Int32.le_toInt ((pByt.getD i []).getD j.toNat 0)
  have h2 := Int32.toInt_lt ((pByt.getD i []).getD j.toNat 0)
  omega
theorem i_b_R (x : Int) : inR (i_b x) := by
  unfold i_b
  have h1 := Int32.le_toInt (Int32.ofInt x).toInt8.toInt32
  have h2 := Int32.toInt_lt (Int32.ofInt x).toInt8.toInt32
  omega
theorem ix_loop {d : Nat} {σ : pS} (hst : Stat σ) (c : Int) : ∀ (m : Nat) (i : Int), 0 ≤ i → i + m = 8 → pR mJ1_indexOfChar_4cfef d 7 [(5, 1), (0, c), (0, 0), (0, 8), (0, i_b c), (0, i)] [] σ (fun r τ => r = some (0, sIx c m i) ∧ τ = σ) := by
  have h8 : sLen 1 = 8 := by decide
  intro m
  induction m with
  | zero =>
    intro i h0 hi
    exact g_J1_indexOfChar_4cfef_7 (Nat.zero_le d) hst c 0 8 (i_b c) i (by omega) (by omega) (fun _ => ⟨rfl, rfl⟩) (fun q => by omega) (fun q => by omega) (fun q => by omega) (fun q => by omega) (fun q => by omega)
  | succ m ih =>
    intro i h0 hi
    refine g_J1_indexOfChar_4cfef_7 (Nat.zero_le d) hst c 0 8 (i_b c) i (by omega) (by omega) (fun q => by omega) (fun q => by omega) (fun _ => sByt_R _ _) (fun _ => i_b_R _) (fun q hne => ?_) (fun q he => ?_)
    · rw [show sIx c (m + 1) i = sIx c m (i + 1) from if_neg hne]
      exact ih (i + 1) (by omega) (by omega)
    · rw [show sIx c (m + 1) i = i from if_pos he]
      exact ⟨rfl, rfl⟩
theorem indexOf_C {d : Nat} {σ : pS} (hd : 6 ≤ d) (hst : Stat σ) {c : Int} (hc : inR c) : pC mJ0_indexOf_0f7a4 d [(4, 1), (0, c)] σ (fun r τ => r = some (0, sIdx c) ∧ τ = σ) := by
  refine g_J0_indexOf_0f7a4_0 (Q1 := fun r τ => r = some (0, sIdx c) ∧ τ = σ) hd hst c ?_ (fun v τ _ q => q)
  refine g_J0_indexOf_7cf53_0 (Q1 := fun r τ => r = some (0, sIdx c) ∧ τ = σ) (by omega) hst c 0 (g_J0_isLatin1_aae02_s1_0 (by omega) hst ⟨rfl, rfl⟩) (len1_C (by omega) hst) ?_ (fun v τ _ q => q)
  refine g_J1_indexOf_4cfef_0 (Q1 := fun r τ => r = some (0, sIx c 8 0) ∧ τ = σ) (by omega) hst c 0 8 ?_ (fun _ => by omega) (fun _ => by omega) (fun _ => by omega) (fun _ => by omega) (fun h1 h2 => ?_) (fun h1 h2 v τ _ q => ?_) (fun h1 h2 => by omega) (fun h1 => ?_)
  · refine g_J1_canEncode_9a6ad_0 (by omega) hst c hc (fun h => ⟨?_, rfl⟩) (fun h h2 => ⟨?_, rfl⟩) (fun h h2 => ⟨?_, rfl⟩)
    · rw [show sEnc c = false by unfold sEnc; simp; omega]; rfl
    · rw [show sEnc c = false by unfold sEnc; simp; omega]; rfl
    · rw [show sEnc c = true by unfold sEnc; simp; omega]; rfl
  · refine g_J1_indexOfChar_4cfef_0 (by omega) hst c (max 0 0) (min 8 8) ?_
    exact ix_loop hst c 8 0 (by omega) (by omega)
  · have : 0 ≤ c ∧ c ≤ 255 := by unfold sEnc at h1; simpa using h1
    rw [sIdx, if_pos this]; exact q
  · have : ¬ (0 ≤ c ∧ c ≤ 255) := by unfold sEnc at h1; simpa using h1
    rw [sIdx, if_neg this]; exact ⟨rfl, rfl⟩
