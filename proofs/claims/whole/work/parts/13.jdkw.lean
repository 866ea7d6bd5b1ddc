/-! walks of Arrays.fill and of String's methods over the two constants -/
def sCh (i : Nat) (j : Int) : Int := i_c (i_and (sByt i j) 255)
def sEnc (c : Int) : Bool := decide (0 ≤ c ∧ c ≤ 255)
theorem narC0 {x : Int} (h : ∃ y, x = i_c y) : narrow .char (.int (Int32.ofInt x)) = .int (Int32.ofInt x) := by obtain ⟨y, rfl⟩ := h; exact nar_c y
set_option maxRecDepth 100000 in
theorem g_J7_fill_53178_0 {d : Nat} {σ : pS} {Q : Option pV → pS → Prop} (hd : 0 ≤ d) (hst : Stat σ) (x1 : Int) (x2 : Int) {nx1 : Nat} (Ix1 : ob σ x1 = some (50, nx1)) (k1 : pR mJ7_fill_53178 d 5 [(2, x1), (0, x2), (0, 0), (0, (nx1 : Int))] [] σ Q) : pC mJ7_fill_53178 d [(2, x1), (0, x2)] σ Q := by
  show pR mJ7_fill_53178 d 0 [(2, x1), (0, x2), (9, 0), (9, 0)] [] σ Q
  refine pGo (s_iconst dJ7_fill_53178_0) ?_
  refine pGoL (ls2 := [(2, x1), (0, x2), (0, 0), (9, 0)]) (s_istore_n dJ7_fill_53178_1 (by decide) rfl) rfl ?_
  refine pGo (s_aload_n dJ7_fill_53178_2 rfl (ob_some Ix1).1) ?_
  refine pGo (s_alen dJ7_fill_53178_3 Ix1) ?_
  refine pGoL (ls2 := [(2, x1), (0, x2), (0, 0), (0, (nx1 : Int))]) (s_istore_n dJ7_fill_53178_4 (by decide) rfl) rfl ?_
  exact k1
set_option maxRecDepth 100000 in
theorem g_J7_fill_53178_5 {d : Nat} {σ : pS} {Q : Option pV → pS → Prop} (hd : 0 ≤ d) (hst : Stat σ) (x0 : Int) (x1 : Int) (x2 : Int) (x3 : Int) {nx0 : Nat} (Ix0 : ob σ x0 = some (50, nx0)) (g1 : inR x2) (g2 : inR x3) (k1 : ∀ (c1 : x3 ≤ x2), Q none σ) (g3 : ∀ (c2 : x2 < x3), 0 ≤ x2 ∧ x2 < (nx0 : Int) ∧ x2 < 2147483648) (k2 : ∀ (c2 : x2 < x3), pR mJ7_fill_53178 d 5 [(2, x0), (0, x1), (0, (x2 + 1)), (0, x3)] [] (wr σ x0 x2 x1) Q) : pR mJ7_fill_53178 d 5 [(2, x0), (0, x1), (0, x2), (0, x3)] [] σ Q := by
  refine pGo (s_iload_n dJ7_fill_53178_5 rfl) ?_
  refine pGo (s_iload_n dJ7_fill_53178_6 rfl) ?_
  refine p_icge (tgt := 20) dJ7_fill_53178_7 (by decide) g1 g2 (fun c1 => ?_) (fun c2 => ?_)
  · exact pEnd (r := none) dJ7_fill_53178_20 rfl (k1 c1)
  · refine pGo (s_aload_n dJ7_fill_53178_10 rfl (ob_some Ix0).1) ?_
    refine pGo (s_iload_n dJ7_fill_53178_11 rfl) ?_
    refine pGo (s_iload_n dJ7_fill_53178_12 rfl) ?_
    refine pGo (s_iast dJ7_fill_53178_13 Ix0 (g3 c2)) ?_
    refine pGoL (ls2 := [(2, x0), (0, x1), (0, (x2 + 1)), (0, x3)]) (s_iinc dJ7_fill_53178_14 (by decide) rfl rfl) rfl ?_
    refine pGo (s_goto (tgt := 5) dJ7_fill_53178_17 (by decide)) ?_
    exact (k2 c2)
set_option maxRecDepth 100000 in
theorem g_J0_coder_7d493_s0_0 {d : Nat} {σ : pS} {Q : Option pV → pS → Prop} (hd : 0 ≤ d) (hst : Stat σ)   (k1 : Q (some (0, 0)) σ) : pC mJ0_coder_7d493 d [(4, 0)] σ Q := by
  show pR mJ0_coder_7d493 d 0 [(4, 0)] [] σ Q
  refine pGo (s_cs jf_J0_38 dJ0_coder_7d493_0) ?_
  refine p_ifeq (tgt := 13) dJ0_coder_7d493_3 (by decide) (by decide) (fun q => absurd q (by decide)) (fun _ => ?_)
  refine pGo (s_aload5 dJ0_coder_7d493_6 rfl (by decide)) ?_
  refine pGo (s_strC (i := 0) (by decide) jf_J0_15 dJ0_coder_7d493_7) ?_
  refine pGo (s_goto (tgt := 14) dJ0_coder_7d493_10 (by decide)) ?_
  exact pEnd (r := (some (0, 0))) dJ0_coder_7d493_14 ⟨_, rfl, rfl⟩ k1
set_option maxRecDepth 100000 in
theorem g_J0_isLatin1_aae02_s0_0 {d : Nat} {σ : pS} {Q : Option pV → pS → Prop} (hd : 0 ≤ d) (hst : Stat σ)   (k1 : Q (some (0, 1)) σ) : pC mJ0_isLatin1_aae02 d [(4, 0)] σ Q := by
  show pR mJ0_isLatin1_aae02 d 0 [(4, 0)] [] σ Q
  refine pGo (s_cs jf_J0_38 dJ0_isLatin1_aae02_0) ?_
  refine p_ifeq (tgt := 17) dJ0_isLatin1_aae02_3 (by decide) (by decide) (fun q => absurd q (by decide)) (fun _ => ?_)
  refine pGo (s_aload5 dJ0_isLatin1_aae02_6 rfl (by decide)) ?_
  refine pGo (s_strC (i := 0) (by decide) jf_J0_15 dJ0_isLatin1_aae02_7) ?_
  refine p_ifne (tgt := 17) dJ0_isLatin1_aae02_10 (by decide) (by decide) (fun q => absurd q (by decide)) (fun _ => ?_)
  refine pGo (s_iconst dJ0_isLatin1_aae02_13) ?_
  refine pGo (s_goto (tgt := 18) dJ0_isLatin1_aae02_14 (by decide)) ?_
  exact pEnd (r := (some (0, 1))) dJ0_isLatin1_aae02_18 (Or.inr rfl) k1
set_option maxRecDepth 100000 in
theorem g_J0_length_8abf5_s0_0 {d : Nat} {σ : pS} {Q : Option pV → pS → Prop} (hd : 1 ≤ d) (hst : Stat σ)   (f1 : pC mJ0_coder_7d493 0 [(4, 0)] σ (fun r τ => r = some (0, 0) ∧ τ = σ)) (k1 : Q (some (0, (i_shr 85 0))) σ) : pC mJ0_length_8abf5 d [(4, 0)] σ Q := by
  show pR mJ0_length_8abf5 d 0 [(4, 0)] [] σ Q
  refine pGo (s_aload5 dJ0_length_8abf5_0 rfl (by decide)) ?_
  refine pGo (s_strV (i := 0) (by decide) jf_J0_9 dJ0_length_8abf5_1) ?_
  refine pGoE (y := 85) (s_sblen (i := 0) (by decide) dJ0_length_8abf5_4) (by decide) ?_
  refine pGo (s_aload5 dJ0_length_8abf5_5 rfl (by decide)) ?_
  refine p_callVs (i := 0) (As := []) (st := [(0, 85)]) (n := 0) (d' := 0) (Q1 := (fun r τ => r = some (0, 0) ∧ τ = σ)) (by decide) ok_J0_coder_7d493 ml_J0_335 im_J0_coder_7d493 se_J0_coder_7d493 dJ0_length_8abf5_6 (pargs_of rfl) rfl (Nat.le_of_ble_eq_true rfl) (by omega) f1 (fun r1 τ1 e1 q1 w1 => ?_)
  obtain ⟨rfl, t1⟩ := q1
  rw [t1]
  show pR mJ0_length_8abf5 d 9 [(4, 0)] [(0, 0), (0, 85)] σ Q
  refine pGo (s_ishr dJ0_length_8abf5_9) ?_
  exact pEnd (r := (some (0, (i_shr 85 0)))) dJ0_length_8abf5_10 ⟨_, rfl⟩ k1
set_option maxRecDepth 100000 in
theorem g_J0_coder_7d493_s1_0 {d : Nat} {σ : pS} {Q : Option pV → pS → Prop} (hd : 0 ≤ d) (hst : Stat σ)   (k1 : Q (some (0, 0)) σ) : pC mJ0_coder_7d493 d [(4, 1)] σ Q := by
  show pR mJ0_coder_7d493 d 0 [(4, 1)] [] σ Q
  refine pGo (s_cs jf_J0_38 dJ0_coder_7d493_0) ?_
  refine p_ifeq (tgt := 13) dJ0_coder_7d493_3 (by decide) (by decide) (fun q => absurd q (by decide)) (fun _ => ?_)
  refine pGo (s_aload5 dJ0_coder_7d493_6 rfl (by decide)) ?_
  refine pGo (s_strC (i := 1) (by decide) jf_J0_15 dJ0_coder_7d493_7) ?_
  refine pGo (s_goto (tgt := 14) dJ0_coder_7d493_10 (by decide)) ?_
  exact pEnd (r := (some (0, 0))) dJ0_coder_7d493_14 ⟨_, rfl, rfl⟩ k1
set_option maxRecDepth 100000 in
theorem g_J0_isLatin1_aae02_s1_0 {d : Nat} {σ : pS} {Q : Option pV → pS → Prop} (hd : 0 ≤ d) (hst : Stat σ)   (k1 : Q (some (0, 1)) σ) : pC mJ0_isLatin1_aae02 d [(4, 1)] σ Q := by
  show pR mJ0_isLatin1_aae02 d 0 [(4, 1)] [] σ Q
  refine pGo (s_cs jf_J0_38 dJ0_isLatin1_aae02_0) ?_
  refine p_ifeq (tgt := 17) dJ0_isLatin1_aae02_3 (by decide) (by decide) (fun q => absurd q (by decide)) (fun _ => ?_)
  refine pGo (s_aload5 dJ0_isLatin1_aae02_6 rfl (by decide)) ?_
  refine pGo (s_strC (i := 1) (by decide) jf_J0_15 dJ0_isLatin1_aae02_7) ?_
  refine p_ifne (tgt := 17) dJ0_isLatin1_aae02_10 (by decide) (by decide) (fun q => absurd q (by decide)) (fun _ => ?_)
  refine pGo (s_iconst dJ0_isLatin1_aae02_13) ?_
  refine pGo (s_goto (tgt := 18) dJ0_isLatin1_aae02_14 (by decide)) ?_
  exact pEnd (r := (some (0, 1))) dJ0_isLatin1_aae02_18 (Or.inr rfl) k1
set_option maxRecDepth 100000 in
theorem g_J0_length_8abf5_s1_0 {d : Nat} {σ : pS} {Q : Option pV → pS → Prop} (hd : 1 ≤ d) (hst : Stat σ)   (f1 : pC mJ0_coder_7d493 0 [(4, 1)] σ (fun r τ => r = some (0, 0) ∧ τ = σ)) (k1 : Q (some (0, (i_shr 8 0))) σ) : pC mJ0_length_8abf5 d [(4, 1)] σ Q := by
  show pR mJ0_length_8abf5 d 0 [(4, 1)] [] σ Q
  refine pGo (s_aload5 dJ0_length_8abf5_0 rfl (by decide)) ?_
  refine pGo (s_strV (i := 1) (by decide) jf_J0_9 dJ0_length_8abf5_1) ?_
  refine pGoE (y := 8) (s_sblen (i := 1) (by decide) dJ0_length_8abf5_4) (by decide) ?_
  refine pGo (s_aload5 dJ0_length_8abf5_5 rfl (by decide)) ?_
  refine p_callVs (i := 1) (As := []) (st := [(0, 8)]) (n := 0) (d' := 0) (Q1 := (fun r τ => r = some (0, 0) ∧ τ = σ)) (by decide) ok_J0_coder_7d493 ml_J0_335 im_J0_coder_7d493 se_J0_coder_7d493 dJ0_length_8abf5_6 (pargs_of rfl) rfl (Nat.le_of_ble_eq_true rfl) (by omega) f1 (fun r1 τ1 e1 q1 w1 => ?_)
  obtain ⟨rfl, t1⟩ := q1
  rw [t1]
  show pR mJ0_length_8abf5 d 9 [(4, 1)] [(0, 0), (0, 8)] σ Q
  refine pGo (s_ishr dJ0_length_8abf5_9) ?_
  exact pEnd (r := (some (0, (i_shr 8 0)))) dJ0_length_8abf5_10 ⟨_, rfl⟩ k1
set_option maxRecDepth 100000 in
theorem g_J3_checkIndex_8e157_0 {d : Nat} {σ : pS} {Q : Option pV → pS → Prop} (hd : 0 ≤ d) (hst : Stat σ) (x1 : Int) (x2 : Int)  (g1 : inR x1) (g2 : ∀ (c1 : x1 < 0), False) (g3 : ∀ (c2 : 0 ≤ x1), inR x2) (k1 : ∀ (c2 : 0 ≤ x1) (c3 : x1 < x2), Q (some (0, x1)) σ) (g4 : ∀ (c2 : 0 ≤ x1) (c4 : x2 ≤ x1), False) : pC mJ3_checkIndex_8e157 d [(0, x1), (0, x2), (6, 0)] σ Q := by
  show pR mJ3_checkIndex_8e157 d 0 [(0, x1), (0, x2), (6, 0)] [] σ Q
  refine pGo (s_iload_n dJ3_checkIndex_8e157_0 rfl) ?_
  refine p_iflt (tgt := 9) dJ3_checkIndex_8e157_1 (by decide) g1 (fun c1 => ?_) (fun c2 => ?_)
  · exact False.elim (g2 c1)
  · refine pGo (s_iload_n dJ3_checkIndex_8e157_4 rfl) ?_
    refine pGo (s_iload_n dJ3_checkIndex_8e157_5 rfl) ?_
    refine p_iclt (tgt := 16) dJ3_checkIndex_8e157_6 (by decide) g1 (g3 c2) (fun c3 => ?_) (fun c4 => ?_)
    · refine pGo (s_iload_n dJ3_checkIndex_8e157_16 rfl) ?_
      exact pEnd (r := (some (0, x1))) dJ3_checkIndex_8e157_17 ⟨_, rfl⟩ (k1 c2 c3)
    · exact False.elim (g4 c2 c4)
set_option maxRecDepth 100000 in
theorem g_J0_checkIndex_df160_0 {d : Nat} {σ : pS} {Q : Option pV → pS → Prop} (hd : 1 ≤ d) (hst : Stat σ) (x1 : Int) (x2 : Int)  (f1 : pC mJ3_checkIndex_8e157 0 [(0, x1), (0, x2), (6, 0)] σ (fun r τ => r = some (0, x1) ∧ τ = σ)) (k1 : Q none σ) : pC mJ0_checkIndex_df160 d [(0, x1), (0, x2)] σ Q := by
  show pR mJ0_checkIndex_df160 d 0 [(0, x1), (0, x2)] [] σ Q
  refine pGo (s_iload_n dJ0_checkIndex_df160_0 rfl) ?_
  refine pGo (s_iload_n dJ0_checkIndex_df160_1 rfl) ?_
  refine pGo (s_fm jf_J0_1053 dJ0_checkIndex_df160_2) ?_
  refine p_callS (As := [(0, x1), (0, x2), (6, 0)]) (st := []) (n := 3) (d' := 0) (Q1 := (fun r τ => r = some (0, x1) ∧ τ = σ)) ok_J3_checkIndex_8e157 ml_J0_1059 sm_J3_checkIndex_8e157 dJ0_checkIndex_df160_5 (pargs_of rfl) rfl (Nat.le_of_ble_eq_true rfl) (by omega) f1 (fun r1 τ1 e1 q1 w1 => ?_)
  obtain ⟨rfl, t1⟩ := q1
  rw [t1]
  show pR mJ0_checkIndex_df160 d 8 [(0, x1), (0, x2)] [(0, x1)] σ Q
  refine pGo (s_pop dJ0_checkIndex_df160_8 (show (0 : Nat) ≠ 1 by decide)) ?_
  exact pEnd (r := none) dJ0_checkIndex_df160_9 rfl k1
set_option maxRecDepth 100000 in
theorem g_J1_charAt_3b067_0 {d : Nat} {σ : pS} {Q : Option pV → pS → Prop} {Q1 : Option pV → pS → Prop} (hd : 2 ≤ d) (hst : Stat σ) (x2 : Int)  (f1 : pC mJ0_checkIndex_df160 1 [(0, x2), (0, 85)] σ Q1) (g1 : ∀ (τ1 : pS) (e1 : pLe σ τ1) (q1 : Q1 none τ1), 0 ≤ x2 ∧ x2 < sLen 0) (k1 : ∀ (τ1 : pS) (e1 : pLe σ τ1) (q1 : Q1 none τ1), Q (some (0, (i_c (i_and (sByt 0 x2) 255)))) τ1) : pC mJ1_charAt_3b067 d [(5, 0), (0, x2)] σ Q := by
  show pR mJ1_charAt_3b067 d 0 [(5, 0), (0, x2)] [] σ Q
  refine pGo (s_iload_n dJ1_charAt_3b067_0 rfl) ?_
  refine pGo (s_aload5 dJ1_charAt_3b067_1 rfl (by decide)) ?_
  refine pGoE (y := 85) (s_sblen (i := 0) (by decide) dJ1_charAt_3b067_2) (by decide) ?_
  refine p_callS (As := [(0, x2), (0, 85)]) (st := []) (n := 2) (d' := 1) (Q1 := Q1) ok_J0_checkIndex_df160 ml_J1_9 sm_J0_checkIndex_df160 dJ1_charAt_3b067_3 (pargs_of rfl) rfl (Nat.le_of_ble_eq_true rfl) (by omega) f1 (fun r1 τ1 e1 q1 w1 => ?_)
  obtain rfl : r1 = none := w1
  have S1 : Stat τ1 := (Stat.le (σ := σ) hst e1)
  show pR mJ1_charAt_3b067 d 6 [(5, 0), (0, x2)] [] τ1 Q
  refine pGo (s_aload5 dJ1_charAt_3b067_6 rfl (by decide)) ?_
  refine pGo (s_iload_n dJ1_charAt_3b067_7 rfl) ?_
  refine pGo (s_sbald (i := 0) (by decide) (g1 τ1 e1 q1) dJ1_charAt_3b067_8) ?_
  refine pGo (s_sipush dJ1_charAt_3b067_9 (by decide)) ?_
  refine pGo (s_iand dJ1_charAt_3b067_12) ?_
  refine pGo (s_i2c dJ1_charAt_3b067_13) ?_
  exact pEnd (r := (some (0, (i_c (i_and (sByt 0 x2) 255))))) dJ1_charAt_3b067_14 ⟨_, rfl, nar_c _⟩ (k1 τ1 e1 q1)
set_option maxRecDepth 100000 in
theorem g_J0_charAt_5068e_0 {d : Nat} {σ : pS} {Q : Option pV → pS → Prop} (hd : 4 ≤ d) (hst : Stat σ) (x1 : Int)  (f1 : pC mJ0_isLatin1_aae02 0 [(4, 0)] σ (fun r τ => r = some (0, 1) ∧ τ = σ)) (f2 : pC mJ1_charAt_3b067 2 [(5, 0), (0, x1)] σ (fun r τ => r = some (0, (sCh 0 x1)) ∧ τ = σ)) (k1 : Q (some (0, (sCh 0 x1))) σ) (g1 : narrow .char (.int (Int32.ofInt (sCh 0 x1))) = .int (Int32.ofInt (sCh 0 x1))) : pC mJ0_charAt_5068e d [(4, 0), (0, x1)] σ Q := by
  show pR mJ0_charAt_5068e d 0 [(4, 0), (0, x1)] [] σ Q
  refine pGo (s_aload5 dJ0_charAt_5068e_0 rfl (by decide)) ?_
  refine p_callVs (i := 0) (As := []) (st := []) (n := 0) (d' := 0) (Q1 := (fun r τ => r = some (0, 1) ∧ τ = σ)) (by decide) ok_J0_isLatin1_aae02 ml_J0_492 im_J0_isLatin1_aae02 se_J0_isLatin1_aae02 dJ0_charAt_5068e_1 (pargs_of rfl) rfl (Nat.le_of_ble_eq_true rfl) (by omega) f1 (fun r1 τ1 e1 q1 w1 => ?_)
  obtain ⟨rfl, t1⟩ := q1
  rw [t1]
  show pR mJ0_charAt_5068e d 4 [(4, 0), (0, x1)] [(0, 1)] σ Q
  refine p_ifeq (tgt := 16) dJ0_charAt_5068e_4 (by decide) (by decide) (fun q => absurd q (by decide)) (fun _ => ?_)
  refine pGo (s_aload5 dJ0_charAt_5068e_7 rfl (by decide)) ?_
  refine pGo (s_strV (i := 0) (by decide) jf_J0_9 dJ0_charAt_5068e_8) ?_
  refine pGo (s_iload_n dJ0_charAt_5068e_11 rfl) ?_
  refine p_callS (As := [(5, 0), (0, x1)]) (st := []) (n := 2) (d' := 2) (Q1 := (fun r τ => r = some (0, (sCh 0 x1)) ∧ τ = σ)) ok_J1_charAt_3b067 ml_J0_495 sm_J1_charAt_3b067 dJ0_charAt_5068e_12 (pargs_of rfl) rfl (Nat.le_of_ble_eq_true rfl) (by omega) f2 (fun r2 τ2 e2 q2 w2 => ?_)
  obtain ⟨rfl, t2⟩ := q2
  rw [t2]
  show pR mJ0_charAt_5068e d 15 [(4, 0), (0, x1)] [(0, (sCh 0 x1))] σ Q
  exact pEnd (r := (some (0, (sCh 0 x1)))) dJ0_charAt_5068e_15 ⟨_, rfl, g1⟩ k1
set_option maxRecDepth 100000 in
theorem g_J1_canEncode_9a6ad_0 {d : Nat} {σ : pS} {Q : Option pV → pS → Prop} (hd : 0 ≤ d) (hst : Stat σ) (x1 : Int)  (g1 : inR x1) (k1 : ∀ (c1 : x1 < 0), Q (some (0, 0)) σ) (k2 : ∀ (c2 : 0 ≤ x1) (c3 : 255 < x1), Q (some (0, 0)) σ) (k3 : ∀ (c2 : 0 ≤ x1) (c4 : x1 ≤ 255), Q (some (0, 1)) σ) : pC mJ1_canEncode_9a6ad d [(0, x1)] σ Q := by
  show pR mJ1_canEncode_9a6ad d 0 [(0, x1)] [] σ Q
  refine pGo (s_iload_n dJ1_canEncode_9a6ad_0 rfl) ?_
  refine p_iflt (tgt := 15) dJ1_canEncode_9a6ad_1 (by decide) g1 (fun c1 => ?_) (fun c2 => ?_)
  · refine pGo (s_iconst dJ1_canEncode_9a6ad_15) ?_
    exact pEnd (r := (some (0, 0))) dJ1_canEncode_9a6ad_16 (Or.inl rfl) (k1 c1)
  · refine pGo (s_iload_n dJ1_canEncode_9a6ad_4 rfl) ?_
    refine pGo (s_sipush dJ1_canEncode_9a6ad_5 (by decide)) ?_
    refine p_icgt (tgt := 15) dJ1_canEncode_9a6ad_8 (by decide) g1 (by decide) (fun c3 => ?_) (fun c4 => ?_)
    · refine pGo (s_iconst dJ1_canEncode_9a6ad_15) ?_
      exact pEnd (r := (some (0, 0))) dJ1_canEncode_9a6ad_16 (Or.inl rfl) (k2 c2 c3)
    · refine pGo (s_iconst dJ1_canEncode_9a6ad_11) ?_
      refine pGo (s_goto (tgt := 16) dJ1_canEncode_9a6ad_12 (by decide)) ?_
      exact pEnd (r := (some (0, 1))) dJ1_canEncode_9a6ad_16 (Or.inr rfl) (k3 c2 c4)
set_option maxRecDepth 100000 in
theorem g_J1_indexOfChar_4cfef_0 {d : Nat} {σ : pS} {Q : Option pV → pS → Prop} (hd : 0 ≤ d) (hst : Stat σ) (x2 : Int) (x3 : Int) (x4 : Int)  (k1 : pR mJ1_indexOfChar_4cfef d 7 [(5, 1), (0, x2), (0, x3), (0, x4), (0, (i_b x2)), (0, x3)] [] σ Q) : pC mJ1_indexOfChar_4cfef d [(5, 1), (0, x2), (0, x3), (0, x4)] σ Q := by
  show pR mJ1_indexOfChar_4cfef d 0 [(5, 1), (0, x2), (0, x3), (0, x4), (9, 0), (9, 0)] [] σ Q
  refine pGo (s_iload_n dJ1_indexOfChar_4cfef_0 rfl) ?_
  refine pGo (s_i2b dJ1_indexOfChar_4cfef_1) ?_
  refine pGoL (ls2 := [(5, 1), (0, x2), (0, x3), (0, x4), (0, (i_b x2)), (9, 0)]) (s_istore dJ1_indexOfChar_4cfef_2 (by decide) rfl) rfl ?_
  refine pGo (s_iload_n dJ1_indexOfChar_4cfef_4 rfl) ?_
  refine pGoL (ls2 := [(5, 1), (0, x2), (0, x3), (0, x4), (0, (i_b x2)), (0, x3)]) (s_istore dJ1_indexOfChar_4cfef_5 (by decide) rfl) rfl ?_
  exact k1
set_option maxRecDepth 100000 in
theorem g_J1_indexOfChar_4cfef_7 {d : Nat} {σ : pS} {Q : Option pV → pS → Prop} (hd : 0 ≤ d) (hst : Stat σ) (x1 : Int) (x2 : Int) (x3 : Int) (x4 : Int) (x5 : Int)  (g1 : inR x5) (g2 : inR x3) (k1 : ∀ (c1 : x3 ≤ x5), Q (some (0, (-1))) σ) (g3 : ∀ (c2 : x5 < x3), 0 ≤ x5 ∧ x5 < sLen 1) (g4 : ∀ (c2 : x5 < x3), inR (sByt 1 x5)) (g5 : ∀ (c2 : x5 < x3), inR x4) (k2 : ∀ (c2 : x5 < x3) (c3 : (sByt 1 x5) ≠ x4), pR mJ1_indexOfChar_4cfef d 7 [(5, 1), (0, x1), (0, x2), (0, x3), (0, x4), (0, (x5 + 1))] [] σ Q) (k3 : ∀ (c2 : x5 < x3) (c4 : (sByt 1 x5) = x4), Q (some (0, x5)) σ) : pR mJ1_indexOfChar_4cfef d 7 [(5, 1), (0, x1), (0, x2), (0, x3), (0, x4), (0, x5)] [] σ Q := by
  refine pGo (s_iload dJ1_indexOfChar_4cfef_7 rfl) ?_
  refine pGo (s_iload_n dJ1_indexOfChar_4cfef_9 rfl) ?_
  refine p_icge (tgt := 31) dJ1_indexOfChar_4cfef_10 (by decide) g1 g2 (fun c1 => ?_) (fun c2 => ?_)
  · refine pGo (s_iconst dJ1_indexOfChar_4cfef_31) ?_
    exact pEnd (r := (some (0, (-1)))) dJ1_indexOfChar_4cfef_32 ⟨_, rfl⟩ (k1 c1)
  · refine pGo (s_aload5 dJ1_indexOfChar_4cfef_13 rfl (by decide)) ?_
    refine pGo (s_iload dJ1_indexOfChar_4cfef_14 rfl) ?_
    refine pGo (s_sbald (i := 1) (by decide) (g3 c2) dJ1_indexOfChar_4cfef_16) ?_
    refine pGo (s_iload dJ1_indexOfChar_4cfef_17 rfl) ?_
    refine p_icne (tgt := 25) dJ1_indexOfChar_4cfef_19 (by decide) (g4 c2) (g5 c2) (fun c3 => ?_) (fun c4 => ?_)
    · refine pGoL (ls2 := [(5, 1), (0, x1), (0, x2), (0, x3), (0, x4), (0, (x5 + 1))]) (s_iinc dJ1_indexOfChar_4cfef_25 (by decide) rfl rfl) rfl ?_
      refine pGo (s_goto (tgt := 7) dJ1_indexOfChar_4cfef_28 (by decide)) ?_
      exact (k2 c2 c3)
    · refine pGo (s_iload dJ1_indexOfChar_4cfef_22 rfl) ?_
      exact pEnd (r := (some (0, x5))) dJ1_indexOfChar_4cfef_24 ⟨_, rfl⟩ (k3 c2 c4)
set_option maxRecDepth 100000 in
theorem g_J1_indexOf_4cfef_0 {d : Nat} {σ : pS} {Q : Option pV → pS → Prop} {Q1 : Option pV → pS → Prop} (hd : 1 ≤ d) (hst : Stat σ) (x2 : Int) (x3 : Int) (x4 : Int)  (f1 : pC mJ1_canEncode_9a6ad 0 [(0, x2)] σ (fun r τ => r = some (0, b2i (sEnc x2)) ∧ τ = σ)) (g1 : ∀ (c1 : (sEnc x2) = true), inR x3) (g2 : ∀ (c1 : (sEnc x2) = true), inR x4) (g3 : ∀ (c1 : (sEnc x2) = true), inR (max x3 0)) (g4 : ∀ (c1 : (sEnc x2) = true), inR (min x4 8)) (f2 : ∀ (c1 : (sEnc x2) = true) (c3 : (max x3 0) < (min x4 8)), pC mJ1_indexOfChar_4cfef 0 [(5, 1), (0, x2), (0, (max x3 0)), (0, (min x4 8))] σ Q1) (k1 : ∀ (c1 : (sEnc x2) = true) (c3 : (max x3 0) < (min x4 8)) (v2 : Int) (τ2 : pS) (e2 : pLe σ τ2) (q2 : Q1 (some (0, v2)) τ2), Q (some (0, v2)) τ2) (k2 : ∀ (c1 : (sEnc x2) = true) (c4 : (min x4 8) ≤ (max x3 0)), Q (some (0, (-1))) σ) (k3 : ∀ (c2 : (sEnc x2) = false), Q (some (0, (-1))) σ) : pC mJ1_indexOf_4cfef d [(5, 1), (0, x2), (0, x3), (0, x4)] σ Q := by
  show pR mJ1_indexOf_4cfef d 0 [(5, 1), (0, x2), (0, x3), (0, x4)] [] σ Q
  refine pGo (s_iload_n dJ1_indexOf_4cfef_0 rfl) ?_
  refine p_callS (As := [(0, x2)]) (st := []) (n := 1) (d' := 0) (Q1 := (fun r τ => r = some (0, b2i (sEnc x2)) ∧ τ = σ)) ok_J1_canEncode_9a6ad ml_J1_88 sm_J1_canEncode_9a6ad dJ1_indexOf_4cfef_1 (pargs_of rfl) rfl (Nat.le_of_ble_eq_true rfl) (by omega) f1 (fun r1 τ1 e1 q1 w1 => ?_)
  obtain ⟨rfl, t1⟩ := q1
  rw [t1]
  show pR mJ1_indexOf_4cfef d 4 [(5, 1), (0, x2), (0, x3), (0, x4)] [(0, (b2i (sEnc x2)))] σ Q
  refine p_ifneB (tgt := 9) dJ1_indexOf_4cfef_4 (by decide) (fun c1 => ?_) (fun c2 => ?_)
  · refine pGo (s_iload_n dJ1_indexOf_4cfef_9 rfl) ?_
    refine pGo (s_iconst dJ1_indexOf_4cfef_10) ?_
    refine pGo (s_mmax (by omega) mj_J1_92 (Nat.le_of_ble_eq_true rfl) dJ1_indexOf_4cfef_11 (g1 c1) (by decide)) ?_
    refine pGoL (ls2 := [(5, 1), (0, x2), (0, (max x3 0)), (0, x4)]) (s_istore_n dJ1_indexOf_4cfef_14 (by decide) rfl) rfl ?_
    refine pGo (s_iload_n dJ1_indexOf_4cfef_15 rfl) ?_
    refine pGo (s_aload5 dJ1_indexOf_4cfef_16 rfl (by decide)) ?_
    refine pGoE (y := 8) (s_sblen (i := 1) (by decide) dJ1_indexOf_4cfef_17) (by decide) ?_
    refine pGo (s_mmin (by omega) mj_J1_38 (Nat.le_of_ble_eq_true rfl) dJ1_indexOf_4cfef_18 (g2 c1) (by decide)) ?_
    refine pGoL (ls2 := [(5, 1), (0, x2), (0, (max x3 0)), (0, (min x4 8))]) (s_istore_n dJ1_indexOf_4cfef_21 (by decide) rfl) rfl ?_
    refine pGo (s_iload_n dJ1_indexOf_4cfef_22 rfl) ?_
    refine pGo (s_iload_n dJ1_indexOf_4cfef_23 rfl) ?_
    refine p_iclt (tgt := 29) dJ1_indexOf_4cfef_24 (by decide) (g3 c1) (g4 c1) (fun c3 => ?_) (fun c4 => ?_)
    · refine pGo (s_aload5 dJ1_indexOf_4cfef_29 rfl (by decide)) ?_
      refine pGo (s_iload_n dJ1_indexOf_4cfef_30 rfl) ?_
      refine pGo (s_iload_n dJ1_indexOf_4cfef_31 rfl) ?_
      refine pGo (s_iload_n dJ1_indexOf_4cfef_32 rfl) ?_
      refine p_callS (As := [(5, 1), (0, x2), (0, (max x3 0)), (0, (min x4 8))]) (st := []) (n := 4) (d' := 0) (Q1 := Q1) ok_J1_indexOfChar_4cfef ml_J1_95 sm_J1_indexOfChar_4cfef dJ1_indexOf_4cfef_33 (pargs_of rfl) rfl (Nat.le_of_ble_eq_true rfl) (by omega) (f2 c1 c3) (fun r2 τ2 e2 q2 w2 => ?_)
      obtain ⟨v2, rfl⟩ := w2
      have S2 : Stat τ2 := (Stat.le (σ := σ) hst e2)
      show pR mJ1_indexOf_4cfef d 36 [(5, 1), (0, x2), (0, (max x3 0)), (0, (min x4 8))] [(0, v2)] τ2 Q
      exact pEnd (r := (some (0, v2))) dJ1_indexOf_4cfef_36 ⟨_, rfl⟩ (k1 c1 c3 v2 τ2 e2 q2)
    · refine pGo (s_iconst dJ1_indexOf_4cfef_27) ?_
      exact pEnd (r := (some (0, (-1)))) dJ1_indexOf_4cfef_28 ⟨_, rfl⟩ (k2 c1 c4)
  · refine pGo (s_iconst dJ1_indexOf_4cfef_7) ?_
    exact pEnd (r := (some (0, (-1)))) dJ1_indexOf_4cfef_8 ⟨_, rfl⟩ (k3 c2)
set_option maxRecDepth 100000 in
theorem g_J0_indexOf_7cf53_0 {d : Nat} {σ : pS} {Q : Option pV → pS → Prop} {Q1 : Option pV → pS → Prop} (hd : 5 ≤ d) (hst : Stat σ) (x1 : Int) (x2 : Int)  (f1 : pC mJ0_isLatin1_aae02 0 [(4, 1)] σ (fun r τ => r = some (0, 1) ∧ τ = σ)) (f2 : pC mJ0_length_8abf5 1 [(4, 1)] σ (fun r τ => r = some (0, 8) ∧ τ = σ)) (f3 : pC mJ1_indexOf_4cfef 1 [(5, 1), (0, x1), (0, x2), (0, 8)] σ Q1) (k1 : ∀ (v3 : Int) (τ3 : pS) (e3 : pLe σ τ3) (q3 : Q1 (some (0, v3)) τ3), Q (some (0, v3)) τ3) : pC mJ0_indexOf_7cf53 d [(4, 1), (0, x1), (0, x2)] σ Q := by
  show pR mJ0_indexOf_7cf53 d 0 [(4, 1), (0, x1), (0, x2)] [] σ Q
  refine pGo (s_aload5 dJ0_indexOf_7cf53_0 rfl (by decide)) ?_
  refine p_callVs (i := 1) (As := []) (st := []) (n := 0) (d' := 0) (Q1 := (fun r τ => r = some (0, 1) ∧ τ = σ)) (by decide) ok_J0_isLatin1_aae02 ml_J0_492 im_J0_isLatin1_aae02 se_J0_isLatin1_aae02 dJ0_indexOf_7cf53_1 (pargs_of rfl) rfl (Nat.le_of_ble_eq_true rfl) (by omega) f1 (fun r1 τ1 e1 q1 w1 => ?_)
  obtain ⟨rfl, t1⟩ := q1
  rw [t1]
  show pR mJ0_indexOf_7cf53 d 4 [(4, 1), (0, x1), (0, x2)] [(0, 1)] σ Q
  refine p_ifeq (tgt := 23) dJ0_indexOf_7cf53_4 (by decide) (by decide) (fun q => absurd q (by decide)) (fun _ => ?_)
  refine pGo (s_aload5 dJ0_indexOf_7cf53_7 rfl (by decide)) ?_
  refine pGo (s_strV (i := 1) (by decide) jf_J0_9 dJ0_indexOf_7cf53_8) ?_
  refine pGo (s_iload_n dJ0_indexOf_7cf53_11 rfl) ?_
  refine pGo (s_iload_n dJ0_indexOf_7cf53_12 rfl) ?_
  refine pGo (s_aload5 dJ0_indexOf_7cf53_13 rfl (by decide)) ?_
  refine p_callVs (i := 1) (As := []) (st := [(0, x2), (0, x1), (5, 1)]) (n := 0) (d' := 1) (Q1 := (fun r τ => r = some (0, 8) ∧ τ = σ)) (by decide) ok_J0_length_8abf5 ml_J0_505 im_J0_length_8abf5 se_J0_length_8abf5 dJ0_indexOf_7cf53_14 (pargs_of rfl) rfl (Nat.le_of_ble_eq_true rfl) (by omega) f2 (fun r2 τ2 e2 q2 w2 => ?_)
  obtain ⟨rfl, t2⟩ := q2
  rw [t2]
  show pR mJ0_indexOf_7cf53 d 17 [(4, 1), (0, x1), (0, x2)] [(0, 8), (0, x2), (0, x1), (5, 1)] σ Q
  refine p_callS (As := [(5, 1), (0, x1), (0, x2), (0, 8)]) (st := []) (n := 4) (d' := 1) (Q1 := Q1) ok_J1_indexOf_4cfef ml_J0_637 sm_J1_indexOf_4cfef dJ0_indexOf_7cf53_17 (pargs_of rfl) rfl (Nat.le_of_ble_eq_true rfl) (by omega) f3 (fun r3 τ3 e3 q3 w3 => ?_)
  obtain ⟨v3, rfl⟩ := w3
  have S3 : Stat τ3 := (Stat.le (σ := σ) hst e3)
  show pR mJ0_indexOf_7cf53 d 20 [(4, 1), (0, x1), (0, x2)] [(0, v3)] τ3 Q
  refine pGo (s_goto (tgt := 36) dJ0_indexOf_7cf53_20 (by decide)) ?_
  exact pEnd (r := (some (0, v3))) dJ0_indexOf_7cf53_36 ⟨_, rfl⟩ (k1 v3 τ3 e3 q3)
set_option maxRecDepth 100000 in
theorem g_J0_indexOf_0f7a4_0 {d : Nat} {σ : pS} {Q : Option pV → pS → Prop} {Q1 : Option pV → pS → Prop} (hd : 6 ≤ d) (hst : Stat σ) (x1 : Int)  (f1 : pC mJ0_indexOf_7cf53 5 [(4, 1), (0, x1), (0, 0)] σ Q1) (k1 : ∀ (v1 : Int) (τ1 : pS) (e1 : pLe σ τ1) (q1 : Q1 (some (0, v1)) τ1), Q (some (0, v1)) τ1) : pC mJ0_indexOf_0f7a4 d [(4, 1), (0, x1)] σ Q := by
  show pR mJ0_indexOf_0f7a4 d 0 [(4, 1), (0, x1)] [] σ Q
  refine pGo (s_aload5 dJ0_indexOf_0f7a4_0 rfl (by decide)) ?_
  refine pGo (s_iload_n dJ0_indexOf_0f7a4_1 rfl) ?_
  refine pGo (s_iconst dJ0_indexOf_0f7a4_2) ?_
  refine p_callVs (i := 1) (As := [(0, x1), (0, 0)]) (st := []) (n := 2) (d' := 5) (Q1 := Q1) (by decide) ok_J0_indexOf_7cf53 ml_J0_633 im_J0_indexOf_7cf53 se_J0_indexOf_7cf53 dJ0_indexOf_0f7a4_3 (pargs_of rfl) rfl (Nat.le_of_ble_eq_true rfl) (by omega) f1 (fun r1 τ1 e1 q1 w1 => ?_)
  obtain ⟨v1, rfl⟩ := w1
  have S1 : Stat τ1 := (Stat.le (σ := σ) hst e1)
  show pR mJ0_indexOf_0f7a4 d 6 [(4, 1), (0, x1)] [(0, v1)] τ1 Q
  exact pEnd (r := (some (0, v1))) dJ0_indexOf_0f7a4_6 ⟨_, rfl⟩ (k1 v1 τ1 e1 q1)
