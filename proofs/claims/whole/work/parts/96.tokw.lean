/-! walks: the class cuts a text -/
/-- signs of a text -/
def vLet (c : Int) : Bool := decide (97 ≤ c ∧ c ≤ 122)
def vDig (c : Int) : Bool := decide (48 ≤ c ∧ c ≤ 57)
def vSig (c : Int) : Bool := decide (c = 59 ∨ c = 40 ∨ c = 41 ∨ c = 60 ∨ c = 62 ∨ c = 61 ∨ c = 43 ∨ c = 45)
def vHere (s : pS) (k : Int) : Int := if rd s 68 4 + k < rd s 68 5 then rd s 69 (rd s 68 4 + k) else -1
def vIsP (s : pS) (p n : Int) : Bool := decide (rd s 1 p = 112 ∧ p + 1 < n ∧ vDig (rd s 1 (p + 1)) = true ∧ (n ≤ p + 2 ∨ (vLet (rd s 1 (p + 2)) = false ∧ vDig (rd s 1 (p + 2)) = false)))
set_option maxRecDepth 100000 in
theorem g_X9_isLetter_0 {d : Nat} {σ : pS} {Q : Option pV → pS → Prop} (hd : 0 ≤ d) (hst : Stat σ) (x1 : Int)  (g1 : inR x1) (k1 : ∀ (c1 : x1 < 97), Q (some (0, 0)) σ) (k2 : ∀ (c2 : 97 ≤ x1) (c3 : 122 < x1), Q (some (0, 0)) σ) (k3 : ∀ (c2 : 97 ≤ x1) (c4 : x1 ≤ 122), Q (some (0, 1)) σ) : pC mX9_isLetter d [(0, x1)] σ Q := by
  show pR mX9_isLetter d 0 [(0, x1)] [] σ Q
  refine pGo (s_iload_n dX9_isLetter_0 rfl) ?_
  refine pGo (s_bipush dX9_isLetter_1 (by decide)) ?_
  refine p_iclt (tgt := 16) dX9_isLetter_3 (by decide) g1 (by decide) (fun c1 => ?_) (fun c2 => ?_)
  · refine pGo (s_iconst dX9_isLetter_16) ?_
    exact pEnd (r := (some (0, 0))) dX9_isLetter_17 (Or.inl rfl) (k1 c1)
  · refine pGo (s_iload_n dX9_isLetter_6 rfl) ?_
    refine pGo (s_bipush dX9_isLetter_7 (by decide)) ?_
    refine p_icgt (tgt := 16) dX9_isLetter_9 (by decide) g1 (by decide) (fun c3 => ?_) (fun c4 => ?_)
    · refine pGo (s_iconst dX9_isLetter_16) ?_
      exact pEnd (r := (some (0, 0))) dX9_isLetter_17 (Or.inl rfl) (k2 c2 c3)
    · refine pGo (s_iconst dX9_isLetter_12) ?_
      refine pGo (s_goto (tgt := 17) dX9_isLetter_13 (by decide)) ?_
      exact pEnd (r := (some (0, 1))) dX9_isLetter_17 (Or.inr rfl) (k3 c2 c4)
set_option maxRecDepth 100000 in
theorem g_X9_isDigit_0 {d : Nat} {σ : pS} {Q : Option pV → pS → Prop} (hd : 0 ≤ d) (hst : Stat σ) (x1 : Int)  (g1 : inR x1) (k1 : ∀ (c1 : x1 < 48), Q (some (0, 0)) σ) (k2 : ∀ (c2 : 48 ≤ x1) (c3 : 57 < x1), Q (some (0, 0)) σ) (k3 : ∀ (c2 : 48 ≤ x1) (c4 : x1 ≤ 57), Q (some (0, 1)) σ) : pC mX9_isDigit d [(0, x1)] σ Q := by
  show pR mX9_isDigit d 0 [(0, x1)] [] σ Q
  refine pGo (s_iload_n dX9_isDigit_0 rfl) ?_
  refine pGo (s_bipush dX9_isDigit_1 (by decide)) ?_
  refine p_iclt (tgt := 16) dX9_isDigit_3 (by decide) g1 (by decide) (fun c1 => ?_) (fun c2 => ?_)
  · refine pGo (s_iconst dX9_isDigit_16) ?_
    exact pEnd (r := (some (0, 0))) dX9_isDigit_17 (Or.inl rfl) (k1 c1)
  · refine pGo (s_iload_n dX9_isDigit_6 rfl) ?_
    refine pGo (s_bipush dX9_isDigit_7 (by decide)) ?_
    refine p_icgt (tgt := 16) dX9_isDigit_9 (by decide) g1 (by decide) (fun c3 => ?_) (fun c4 => ?_)
    · refine pGo (s_iconst dX9_isDigit_16) ?_
      exact pEnd (r := (some (0, 0))) dX9_isDigit_17 (Or.inl rfl) (k2 c2 c3)
    · refine pGo (s_iconst dX9_isDigit_12) ?_
      refine pGo (s_goto (tgt := 17) dX9_isDigit_13 (by decide)) ?_
      exact pEnd (r := (some (0, 1))) dX9_isDigit_17 (Or.inr rfl) (k3 c2 c4)
set_option maxRecDepth 100000 in
theorem g_X9_isSign_0 {d : Nat} {σ : pS} {Q : Option pV → pS → Prop} (hd : 7 ≤ d) (hst : Stat σ) (x1 : Int)  (g1 : inR x1) (k1 : ∀ (c1 : x1 ≤ 0), Q (some (0, 0)) σ) (f1 : ∀ (c2 : 0 < x1), pC mJ0_indexOf_0f7a4 6 [(4, 1), (0, (i_c x1))] σ (fun r τ => r = some (0, (sIdx (i_c x1))) ∧ τ = σ)) (g2 : ∀ (c2 : 0 < x1), inR (sIdx (i_c x1))) (k2 : ∀ (c2 : 0 < x1) (c3 : (sIdx (i_c x1)) < 0), Q (some (0, 0)) σ) (k3 : ∀ (c2 : 0 < x1) (c4 : 0 ≤ (sIdx (i_c x1))), Q (some (0, 1)) σ) : pC mX9_isSign d [(0, x1)] σ Q := by
  show pR mX9_isSign d 0 [(0, x1)] [] σ Q
  refine pGo (s_iload_n dX9_isSign_0 rfl) ?_
  refine p_ifle (tgt := 18) dX9_isSign_1 (by decide) g1 (fun c1 => ?_) (fun c2 => ?_)
  · refine pGo (s_iconst dX9_isSign_18) ?_
    exact pEnd (r := (some (0, 0))) dX9_isSign_19 (Or.inl rfl) (k1 c1)
  · refine pGo (s_ldcS (i := 1) dX9_isSign_4 rfl (by decide)) ?_
    refine pGo (s_iload_n dX9_isSign_6 rfl) ?_
    refine pGo (s_i2c dX9_isSign_7) ?_
    refine p_callVs (i := 1) (As := [(0, (i_c x1))]) (st := []) (n := 1) (d' := 6) (Q1 := (fun r τ => r = some (0, (sIdx (i_c x1))) ∧ τ = σ)) (by decide) ok_J0_indexOf_0f7a4 ml_X9_101 im_J0_indexOf_0f7a4 se_J0_indexOf_0f7a4 dX9_isSign_8 (pargs_of rfl) rfl (Nat.le_of_ble_eq_true rfl) (by omega) (f1 c2) (fun r1 τ1 e1 q1 w1 => ?_)
    obtain ⟨rfl, t1⟩ := q1
    rw [t1]
    show pR mX9_isSign d 11 [(0, x1)] [(0, (sIdx (i_c x1)))] σ Q
    refine p_iflt (tgt := 18) dX9_isSign_11 (by decide) (g2 c2) (fun c3 => ?_) (fun c4 => ?_)
    · refine pGo (s_iconst dX9_isSign_18) ?_
      exact pEnd (r := (some (0, 0))) dX9_isSign_19 (Or.inl rfl) (k2 c2 c3)
    · refine pGo (s_iconst dX9_isSign_14) ?_
      refine pGo (s_goto (tgt := 19) dX9_isSign_15 (by decide)) ?_
      exact pEnd (r := (some (0, 1))) dX9_isSign_19 (Or.inr rfl) (k3 c2 c4)
set_option maxRecDepth 100000 in
theorem g_X9_isPlace_0 {d : Nat} {σ : pS} {Q : Option pV → pS → Prop} (hd : 1 ≤ d) (hst : Stat σ) (x2 : Int) (x3 : Int)  (g1 : 0 ≤ x2 ∧ x2 < 1400) (g2 : inR (rd σ 1 x2)) (k1 : ∀ (c1 : (rd σ 1 x2) ≠ 112), Q (some (0, 0)) σ) (g3 : ∀ (c2 : (rd σ 1 x2) = 112), inR (x2 + 1)) (g4 : ∀ (c2 : (rd σ 1 x2) = 112), inR x3) (k2 : ∀ (c2 : (rd σ 1 x2) = 112) (c3 : x3 ≤ (x2 + 1)), Q (some (0, 0)) σ) (g5 : ∀ (c2 : (rd σ 1 x2) = 112) (c4 : (x2 + 1) < x3), 0 ≤ (x2 + 1) ∧ (x2 + 1) < 1400) (f1 : ∀ (c2 : (rd σ 1 x2) = 112) (c4 : (x2 + 1) < x3), pC mX9_isDigit 0 [(0, (rd σ 1 (x2 + 1)))] σ (fun r τ => r = some (0, b2i (vDig (rd σ 1 (x2 + 1)))) ∧ τ = σ)) (g6 : ∀ (c2 : (rd σ 1 x2) = 112) (c4 : (x2 + 1) < x3) (c5 : (vDig (rd σ 1 (x2 + 1))) = true), inR (x2 + 2)) (k3 : ∀ (c2 : (rd σ 1 x2) = 112) (c4 : (x2 + 1) < x3) (c5 : (vDig (rd σ 1 (x2 + 1))) = true) (c7 : x3 ≤ (x2 + 2)), Q (some (0, 1)) σ) (g7 : ∀ (c2 : (rd σ 1 x2) = 112) (c4 : (x2 + 1) < x3) (c5 : (vDig (rd σ 1 (x2 + 1))) = true) (c8 : (x2 + 2) < x3), 0 ≤ (x2 + 2) ∧ (x2 + 2) < 1400) (f2 : ∀ (c2 : (rd σ 1 x2) = 112) (c4 : (x2 + 1) < x3) (c5 : (vDig (rd σ 1 (x2 + 1))) = true) (c8 : (x2 + 2) < x3), pC mX9_isLetter 0 [(0, (rd σ 1 (x2 + 2)))] σ (fun r τ => r = some (0, b2i (vLet (rd σ 1 (x2 + 2)))) ∧ τ = σ)) (k4 : ∀ (c2 : (rd σ 1 x2) = 112) (c4 : (x2 + 1) < x3) (c5 : (vDig (rd σ 1 (x2 + 1))) = true) (c8 : (x2 + 2) < x3) (c9 : (vLet (rd σ 1 (x2 + 2))) = true), Q (some (0, 0)) σ) (f3 : ∀ (c2 : (rd σ 1 x2) = 112) (c4 : (x2 + 1) < x3) (c5 : (vDig (rd σ 1 (x2 + 1))) = true) (c8 : (x2 + 2) < x3) (c10 : (vLet (rd σ 1 (x2 + 2))) = false), pC mX9_isDigit 0 [(0, (rd σ 1 (x2 + 2)))] σ (fun r τ => r = some (0, b2i (vDig (rd σ 1 (x2 + 2)))) ∧ τ = σ)) (k5 : ∀ (c2 : (rd σ 1 x2) = 112) (c4 : (x2 + 1) < x3) (c5 : (vDig (rd σ 1 (x2 + 1))) = true) (c8 : (x2 + 2) < x3) (c10 : (vLet (rd σ 1 (x2 + 2))) = false) (c11 : (vDig (rd σ 1 (x2 + 2))) = true), Q (some (0, 0)) σ) (k6 : ∀ (c2 : (rd σ 1 x2) = 112) (c4 : (x2 + 1) < x3) (c5 : (vDig (rd σ 1 (x2 + 1))) = true) (c8 : (x2 + 2) < x3) (c10 : (vLet (rd σ 1 (x2 + 2))) = false) (c12 : (vDig (rd σ 1 (x2 + 2))) = false), Q (some (0, 1)) σ) (k7 : ∀ (c2 : (rd σ 1 x2) = 112) (c4 : (x2 + 1) < x3) (c6 : (vDig (rd σ 1 (x2 + 1))) = false), Q (some (0, 0)) σ) : pC mX9_isPlace d [(2, 1), (0, x2), (0, x3)] σ Q := by
  show pR mX9_isPlace d 0 [(2, 1), (0, x2), (0, x3)] [] σ Q
  refine pGo (s_aload_n dX9_isPlace_0 rfl (by decide)) ?_
  refine pGo (s_iload_n dX9_isPlace_1 rfl) ?_
  refine pGoE (y := (rd σ 1 x2)) (s_bald dX9_isPlace_2 (ob_1 hst) (bnd g1)) rfl ?_
  refine pGo (s_bipush dX9_isPlace_3 (by decide)) ?_
  refine p_icne (tgt := 26) dX9_isPlace_5 (by decide) g2 (by decide) (fun c1 => ?_) (fun c2 => ?_)
  · refine pGo (s_iconst dX9_isPlace_26) ?_
    exact pEnd (r := (some (0, 0))) dX9_isPlace_27 (Or.inl rfl) (k1 c1)
  · refine pGo (s_iload_n dX9_isPlace_8 rfl) ?_
    refine pGo (s_iconst dX9_isPlace_9) ?_
    refine pGo (s_iadd dX9_isPlace_10) ?_
    refine pGo (s_iload_n dX9_isPlace_11 rfl) ?_
    refine p_icge (tgt := 26) dX9_isPlace_12 (by decide) (g3 c2) (g4 c2) (fun c3 => ?_) (fun c4 => ?_)
    · refine pGo (s_iconst dX9_isPlace_26) ?_
      exact pEnd (r := (some (0, 0))) dX9_isPlace_27 (Or.inl rfl) (k2 c2 c3)
    · refine pGo (s_aload_n dX9_isPlace_15 rfl (by decide)) ?_
      refine pGo (s_iload_n dX9_isPlace_16 rfl) ?_
      refine pGo (s_iconst dX9_isPlace_17) ?_
      refine pGo (s_iadd dX9_isPlace_18) ?_
      refine pGoE (y := (rd σ 1 (x2 + 1))) (s_bald dX9_isPlace_19 (ob_1 hst) (bnd (g5 c2 c4))) rfl ?_
      refine p_callS (As := [(0, (rd σ 1 (x2 + 1)))]) (st := []) (n := 1) (d' := 0) (Q1 := (fun r τ => r = some (0, b2i (vDig (rd σ 1 (x2 + 1)))) ∧ τ = σ)) ok_X9_isDigit ml_X9_67 sm_X9_isDigit dX9_isPlace_20 (pargs_of rfl) rfl (Nat.le_of_ble_eq_true rfl) (by omega) (f1 c2 c4) (fun r1 τ1 e1 q1 w1 => ?_)
      obtain ⟨rfl, t1⟩ := q1
      rw [t1]
      show pR mX9_isPlace d 23 [(2, 1), (0, x2), (0, x3)] [(0, (b2i (vDig (rd σ 1 (x2 + 1)))))] σ Q
      refine p_ifneB (tgt := 28) dX9_isPlace_23 (by decide) (fun c5 => ?_) (fun c6 => ?_)
      · refine pGo (s_iload_n dX9_isPlace_28 rfl) ?_
        refine pGo (s_iconst dX9_isPlace_29) ?_
        refine pGo (s_iadd dX9_isPlace_30) ?_
        refine pGo (s_iload_n dX9_isPlace_31 rfl) ?_
        refine p_icge (tgt := 57) dX9_isPlace_32 (by decide) (g6 c2 c4 c5) (g4 c2) (fun c7 => ?_) (fun c8 => ?_)
        · refine pGo (s_iconst dX9_isPlace_57) ?_
          refine pGo (s_goto (tgt := 62) dX9_isPlace_58 (by decide)) ?_
          exact pEnd (r := (some (0, 1))) dX9_isPlace_62 (Or.inr rfl) (k3 c2 c4 c5 c7)
        · refine pGo (s_aload_n dX9_isPlace_35 rfl (by decide)) ?_
          refine pGo (s_iload_n dX9_isPlace_36 rfl) ?_
          refine pGo (s_iconst dX9_isPlace_37) ?_
          refine pGo (s_iadd dX9_isPlace_38) ?_
          refine pGoE (y := (rd σ 1 (x2 + 2))) (s_bald dX9_isPlace_39 (ob_1 hst) (bnd (g7 c2 c4 c5 c8))) rfl ?_
          refine p_callS (As := [(0, (rd σ 1 (x2 + 2)))]) (st := []) (n := 1) (d' := 0) (Q1 := (fun r τ => r = some (0, b2i (vLet (rd σ 1 (x2 + 2)))) ∧ τ = σ)) ok_X9_isLetter ml_X9_61 sm_X9_isLetter dX9_isPlace_40 (pargs_of rfl) rfl (Nat.le_of_ble_eq_true rfl) (by omega) (f2 c2 c4 c5 c8) (fun r2 τ2 e2 q2 w2 => ?_)
          obtain ⟨rfl, t2⟩ := q2
          rw [t2]
          show pR mX9_isPlace d 43 [(2, 1), (0, x2), (0, x3)] [(0, (b2i (vLet (rd σ 1 (x2 + 2)))))] σ Q
          refine p_ifneB (tgt := 61) dX9_isPlace_43 (by decide) (fun c9 => ?_) (fun c10 => ?_)
          · refine pGo (s_iconst dX9_isPlace_61) ?_
            exact pEnd (r := (some (0, 0))) dX9_isPlace_62 (Or.inl rfl) (k4 c2 c4 c5 c8 c9)
          · refine pGo (s_aload_n dX9_isPlace_46 rfl (by decide)) ?_
            refine pGo (s_iload_n dX9_isPlace_47 rfl) ?_
            refine pGo (s_iconst dX9_isPlace_48) ?_
            refine pGo (s_iadd dX9_isPlace_49) ?_
            refine pGoE (y := (rd σ 1 (x2 + 2))) (s_bald dX9_isPlace_50 (ob_1 hst) (bnd (g7 c2 c4 c5 c8))) rfl ?_
            refine p_callS (As := [(0, (rd σ 1 (x2 + 2)))]) (st := []) (n := 1) (d' := 0) (Q1 := (fun r τ => r = some (0, b2i (vDig (rd σ 1 (x2 + 2)))) ∧ τ = σ)) ok_X9_isDigit ml_X9_67 sm_X9_isDigit dX9_isPlace_51 (pargs_of rfl) rfl (Nat.le_of_ble_eq_true rfl) (by omega) (f3 c2 c4 c5 c8 c10) (fun r3 τ3 e3 q3 w3 => ?_)
            obtain ⟨rfl, t3⟩ := q3
            rw [t3]
            show pR mX9_isPlace d 54 [(2, 1), (0, x2), (0, x3)] [(0, (b2i (vDig (rd σ 1 (x2 + 2)))))] σ Q
            refine p_ifneB (tgt := 61) dX9_isPlace_54 (by decide) (fun c11 => ?_) (fun c12 => ?_)
            · refine pGo (s_iconst dX9_isPlace_61) ?_
              exact pEnd (r := (some (0, 0))) dX9_isPlace_62 (Or.inl rfl) (k5 c2 c4 c5 c8 c10 c11)
            · refine pGo (s_iconst dX9_isPlace_57) ?_
              refine pGo (s_goto (tgt := 62) dX9_isPlace_58 (by decide)) ?_
              exact pEnd (r := (some (0, 1))) dX9_isPlace_62 (Or.inr rfl) (k6 c2 c4 c5 c8 c10 c12)
      · refine pGo (s_iconst dX9_isPlace_26) ?_
        exact pEnd (r := (some (0, 0))) dX9_isPlace_27 (Or.inl rfl) (k7 c2 c4 c6)
set_option maxRecDepth 100000 in
theorem g_X11_isLetter_0 {d : Nat} {σ : pS} {Q : Option pV → pS → Prop} (hd : 0 ≤ d) (hst : Stat σ) (x1 : Int)  (g1 : inR x1) (k1 : ∀ (c1 : x1 < 97), Q (some (0, 0)) σ) (k2 : ∀ (c2 : 97 ≤ x1) (c3 : 122 < x1), Q (some (0, 0)) σ) (k3 : ∀ (c2 : 97 ≤ x1) (c4 : x1 ≤ 122), Q (some (0, 1)) σ) : pC mX11_isLetter d [(0, x1)] σ Q := by
  show pR mX11_isLetter d 0 [(0, x1)] [] σ Q
  refine pGo (s_iload_n dX11_isLetter_0 rfl) ?_
  refine pGo (s_bipush dX11_isLetter_1 (by decide)) ?_
  refine p_iclt (tgt := 16) dX11_isLetter_3 (by decide) g1 (by decide) (fun c1 => ?_) (fun c2 => ?_)
  · refine pGo (s_iconst dX11_isLetter_16) ?_
    exact pEnd (r := (some (0, 0))) dX11_isLetter_17 (Or.inl rfl) (k1 c1)
  · refine pGo (s_iload_n dX11_isLetter_6 rfl) ?_
    refine pGo (s_bipush dX11_isLetter_7 (by decide)) ?_
    refine p_icgt (tgt := 16) dX11_isLetter_9 (by decide) g1 (by decide) (fun c3 => ?_) (fun c4 => ?_)
    · refine pGo (s_iconst dX11_isLetter_16) ?_
      exact pEnd (r := (some (0, 0))) dX11_isLetter_17 (Or.inl rfl) (k2 c2 c3)
    · refine pGo (s_iconst dX11_isLetter_12) ?_
      refine pGo (s_goto (tgt := 17) dX11_isLetter_13 (by decide)) ?_
      exact pEnd (r := (some (0, 1))) dX11_isLetter_17 (Or.inr rfl) (k3 c2 c4)
set_option maxRecDepth 100000 in
theorem g_X11_isDigit_0 {d : Nat} {σ : pS} {Q : Option pV → pS → Prop} (hd : 0 ≤ d) (hst : Stat σ) (x1 : Int)  (g1 : inR x1) (k1 : ∀ (c1 : x1 < 48), Q (some (0, 0)) σ) (k2 : ∀ (c2 : 48 ≤ x1) (c3 : 57 < x1), Q (some (0, 0)) σ) (k3 : ∀ (c2 : 48 ≤ x1) (c4 : x1 ≤ 57), Q (some (0, 1)) σ) : pC mX11_isDigit d [(0, x1)] σ Q := by
  show pR mX11_isDigit d 0 [(0, x1)] [] σ Q
  refine pGo (s_iload_n dX11_isDigit_0 rfl) ?_
  refine pGo (s_bipush dX11_isDigit_1 (by decide)) ?_
  refine p_iclt (tgt := 16) dX11_isDigit_3 (by decide) g1 (by decide) (fun c1 => ?_) (fun c2 => ?_)
  · refine pGo (s_iconst dX11_isDigit_16) ?_
    exact pEnd (r := (some (0, 0))) dX11_isDigit_17 (Or.inl rfl) (k1 c1)
  · refine pGo (s_iload_n dX11_isDigit_6 rfl) ?_
    refine pGo (s_bipush dX11_isDigit_7 (by decide)) ?_
    refine p_icgt (tgt := 16) dX11_isDigit_9 (by decide) g1 (by decide) (fun c3 => ?_) (fun c4 => ?_)
    · refine pGo (s_iconst dX11_isDigit_16) ?_
      exact pEnd (r := (some (0, 0))) dX11_isDigit_17 (Or.inl rfl) (k2 c2 c3)
    · refine pGo (s_iconst dX11_isDigit_12) ?_
      refine pGo (s_goto (tgt := 17) dX11_isDigit_13 (by decide)) ?_
      exact pEnd (r := (some (0, 1))) dX11_isDigit_17 (Or.inr rfl) (k3 c2 c4)
set_option maxRecDepth 100000 in
theorem g_X11_isSign_0 {d : Nat} {σ : pS} {Q : Option pV → pS → Prop} (hd : 0 ≤ d) (hst : Stat σ) (x1 : Int)  (g1 : inR x1) (k1 : ∀ (c1 : x1 = 59), Q (some (0, 1)) σ) (k2 : ∀ (c2 : x1 ≠ 59) (c3 : x1 = 40), Q (some (0, 1)) σ) (k3 : ∀ (c2 : x1 ≠ 59) (c4 : x1 ≠ 40) (c5 : x1 = 41), Q (some (0, 1)) σ) (k4 : ∀ (c2 : x1 ≠ 59) (c4 : x1 ≠ 40) (c6 : x1 ≠ 41) (c7 : x1 = 60), Q (some (0, 1)) σ) (k5 : ∀ (c2 : x1 ≠ 59) (c4 : x1 ≠ 40) (c6 : x1 ≠ 41) (c8 : x1 ≠ 60) (c9 : x1 = 62), Q (some (0, 1)) σ) (k6 : ∀ (c2 : x1 ≠ 59) (c4 : x1 ≠ 40) (c6 : x1 ≠ 41) (c8 : x1 ≠ 60) (c10 : x1 ≠ 62) (c11 : x1 = 61), Q (some (0, 1)) σ) (k7 : ∀ (c2 : x1 ≠ 59) (c4 : x1 ≠ 40) (c6 : x1 ≠ 41) (c8 : x1 ≠ 60) (c10 : x1 ≠ 62) (c12 : x1 ≠ 61) (c13 : x1 = 43), Q (some (0, 1)) σ) (k8 : ∀ (c2 : x1 ≠ 59) (c4 : x1 ≠ 40) (c6 : x1 ≠ 41) (c8 : x1 ≠ 60) (c10 : x1 ≠ 62) (c12 : x1 ≠ 61) (c14 : x1 ≠ 43) (c15 : x1 ≠ 45), Q (some (0, 0)) σ) (k9 : ∀ (c2 : x1 ≠ 59) (c4 : x1 ≠ 40) (c6 : x1 ≠ 41) (c8 : x1 ≠ 60) (c10 : x1 ≠ 62) (c12 : x1 ≠ 61) (c14 : x1 ≠ 43) (c16 : x1 = 45), Q (some (0, 1)) σ) : pC mX11_isSign d [(0, x1)] σ Q := by
  show pR mX11_isSign d 0 [(0, x1)] [] σ Q
  refine pGo (s_iload_n dX11_isSign_0 rfl) ?_
  refine pGo (s_bipush dX11_isSign_1 (by decide)) ?_
  refine p_iceq (tgt := 48) dX11_isSign_3 (by decide) g1 (by decide) (fun c1 => ?_) (fun c2 => ?_)
  · refine pGo (s_iconst dX11_isSign_48) ?_
    refine pGo (s_goto (tgt := 53) dX11_isSign_49 (by decide)) ?_
    exact pEnd (r := (some (0, 1))) dX11_isSign_53 (Or.inr rfl) (k1 c1)
  · refine pGo (s_iload_n dX11_isSign_6 rfl) ?_
    refine pGo (s_bipush dX11_isSign_7 (by decide)) ?_
    refine p_iceq (tgt := 48) dX11_isSign_9 (by decide) g1 (by decide) (fun c3 => ?_) (fun c4 => ?_)
    · refine pGo (s_iconst dX11_isSign_48) ?_
      refine pGo (s_goto (tgt := 53) dX11_isSign_49 (by decide)) ?_
      exact pEnd (r := (some (0, 1))) dX11_isSign_53 (Or.inr rfl) (k2 c2 c3)
    · refine pGo (s_iload_n dX11_isSign_12 rfl) ?_
      refine pGo (s_bipush dX11_isSign_13 (by decide)) ?_
      refine p_iceq (tgt := 48) dX11_isSign_15 (by decide) g1 (by decide) (fun c5 => ?_) (fun c6 => ?_)
      · refine pGo (s_iconst dX11_isSign_48) ?_
        refine pGo (s_goto (tgt := 53) dX11_isSign_49 (by decide)) ?_
        exact pEnd (r := (some (0, 1))) dX11_isSign_53 (Or.inr rfl) (k3 c2 c4 c5)
      · refine pGo (s_iload_n dX11_isSign_18 rfl) ?_
        refine pGo (s_bipush dX11_isSign_19 (by decide)) ?_
        refine p_iceq (tgt := 48) dX11_isSign_21 (by decide) g1 (by decide) (fun c7 => ?_) (fun c8 => ?_)
        · refine pGo (s_iconst dX11_isSign_48) ?_
          refine pGo (s_goto (tgt := 53) dX11_isSign_49 (by decide)) ?_
          exact pEnd (r := (some (0, 1))) dX11_isSign_53 (Or.inr rfl) (k4 c2 c4 c6 c7)
        · refine pGo (s_iload_n dX11_isSign_24 rfl) ?_
          refine pGo (s_bipush dX11_isSign_25 (by decide)) ?_
          refine p_iceq (tgt := 48) dX11_isSign_27 (by decide) g1 (by decide) (fun c9 => ?_) (fun c10 => ?_)
          · refine pGo (s_iconst dX11_isSign_48) ?_
            refine pGo (s_goto (tgt := 53) dX11_isSign_49 (by decide)) ?_
            exact pEnd (r := (some (0, 1))) dX11_isSign_53 (Or.inr rfl) (k5 c2 c4 c6 c8 c9)
          · refine pGo (s_iload_n dX11_isSign_30 rfl) ?_
            refine pGo (s_bipush dX11_isSign_31 (by decide)) ?_
            refine p_iceq (tgt := 48) dX11_isSign_33 (by decide) g1 (by decide) (fun c11 => ?_) (fun c12 => ?_)
            · refine pGo (s_iconst dX11_isSign_48) ?_
              refine pGo (s_goto (tgt := 53) dX11_isSign_49 (by decide)) ?_
              exact pEnd (r := (some (0, 1))) dX11_isSign_53 (Or.inr rfl) (k6 c2 c4 c6 c8 c10 c11)
            · refine pGo (s_iload_n dX11_isSign_36 rfl) ?_
              refine pGo (s_bipush dX11_isSign_37 (by decide)) ?_
              refine p_iceq (tgt := 48) dX11_isSign_39 (by decide) g1 (by decide) (fun c13 => ?_) (fun c14 => ?_)
              · refine pGo (s_iconst dX11_isSign_48) ?_
                refine pGo (s_goto (tgt := 53) dX11_isSign_49 (by decide)) ?_
                exact pEnd (r := (some (0, 1))) dX11_isSign_53 (Or.inr rfl) (k7 c2 c4 c6 c8 c10 c12 c13)
              · refine pGo (s_iload_n dX11_isSign_42 rfl) ?_
                refine pGo (s_bipush dX11_isSign_43 (by decide)) ?_
                refine p_icne (tgt := 52) dX11_isSign_45 (by decide) g1 (by decide) (fun c15 => ?_) (fun c16 => ?_)
                · refine pGo (s_iconst dX11_isSign_52) ?_
                  exact pEnd (r := (some (0, 0))) dX11_isSign_53 (Or.inl rfl) (k8 c2 c4 c6 c8 c10 c12 c14 c15)
                · refine pGo (s_iconst dX11_isSign_48) ?_
                  refine pGo (s_goto (tgt := 53) dX11_isSign_49 (by decide)) ?_
                  exact pEnd (r := (some (0, 1))) dX11_isSign_53 (Or.inr rfl) (k9 c2 c4 c6 c8 c10 c12 c14 c16)
set_option maxRecDepth 100000 in
theorem g_X11_here_0 {d : Nat} {σ : pS} {Q : Option pV → pS → Prop} (hd : 0 ≤ d) (hst : Stat σ) (x1 : Int)  (g1 : inR ((rd σ 68 4) + x1)) (g2 : inR (rd σ 68 5)) (k1 : ∀ (c1 : (rd σ 68 5) ≤ ((rd σ 68 4) + x1)), Q (some (0, (-1))) σ) (g3 : ∀ (c2 : ((rd σ 68 4) + x1) < (rd σ 68 5)), 0 ≤ ((rd σ 68 4) + x1) ∧ ((rd σ 68 4) + x1) < 1400) (k2 : ∀ (c2 : ((rd σ 68 4) + x1) < (rd σ 68 5)), Q (some (0, (rd σ 69 ((rd σ 68 4) + x1)))) σ) : pC mX11_here d [(2, 68), (0, x1)] σ Q := by
  show pR mX11_here d 0 [(2, 68), (0, x1)] [] σ Q
  refine pGo (s_aload_n dX11_here_0 rfl (by decide)) ?_
  refine pGoE (y := (rd σ 68 4)) (s_getI pc11 fl_X11_240 dX11_here_1 (ob_68 hst) rfl (by decide)) rfl ?_
  refine pGo (s_iload_n dX11_here_4 rfl) ?_
  refine pGo (s_iadd dX11_here_5) ?_
  refine pGo (s_aload_n dX11_here_6 rfl (by decide)) ?_
  refine pGoE (y := (rd σ 68 5)) (s_getI pc11 fl_X11_243 dX11_here_7 (ob_68 hst) rfl (by decide)) rfl ?_
  refine p_icge (tgt := 27) dX11_here_10 (by decide) g1 g2 (fun c1 => ?_) (fun c2 => ?_)
  · refine pGo (s_iconst dX11_here_27) ?_
    exact pEnd (r := (some (0, (-1)))) dX11_here_28 ⟨_, rfl⟩ (k1 c1)
  · refine pGo (s_aload_n dX11_here_13 rfl (by decide)) ?_
    refine pGoE (y := 69) (s_getF pc11 fl_X11_7 dX11_here_14 (ob_68 hst) rfl (by decide)) (by decide) ?_
    refine pGo (s_aload_n dX11_here_17 rfl (by decide)) ?_
    refine pGoE (y := (rd σ 68 4)) (s_getI pc11 fl_X11_240 dX11_here_18 (ob_68 hst) rfl (by decide)) rfl ?_
    refine pGo (s_iload_n dX11_here_21 rfl) ?_
    refine pGo (s_iadd dX11_here_22) ?_
    refine pGoE (y := (rd σ 69 ((rd σ 68 4) + x1))) (s_iald dX11_here_23 (ob_69 hst) (bnd (g3 c2))) rfl ?_
    refine pGo (s_goto (tgt := 28) dX11_here_24 (by decide)) ?_
    exact pEnd (r := (some (0, (rd σ 69 ((rd σ 68 4) + x1))))) dX11_here_28 ⟨_, rfl⟩ (k2 c2)
set_option maxRecDepth 100000 in
theorem g_X9_kind_0 {d : Nat} {σ : pS} {Q : Option pV → pS → Prop} (hd : 0 ≤ d) (hst : Stat σ)   (g1 : inR (rd σ 2 4)) (g2 : inR (rd σ 2 3)) (k1 : ∀ (c1 : (rd σ 2 3) ≤ (rd σ 2 4)), Q (some (0, 21)) σ) (g3 : ∀ (c2 : (rd σ 2 4) < (rd σ 2 3)), 0 ≤ (rd σ 2 4) ∧ (rd σ 2 4) < 1401) (k2 : ∀ (c2 : (rd σ 2 4) < (rd σ 2 3)), Q (some (0, (rd σ 3 (rd σ 2 4)))) σ) : pC mX9_kind d [(2, 2)] σ Q := by
  show pR mX9_kind d 0 [(2, 2)] [] σ Q
  refine pGo (s_aload_n dX9_kind_0 rfl (by decide)) ?_
  refine pGoE (y := (rd σ 2 4)) (s_getI pc9 fl_X9_29 dX9_kind_1 (ob_2 hst) rfl (by decide)) rfl ?_
  refine pGo (s_aload_n dX9_kind_4 rfl (by decide)) ?_
  refine pGoE (y := (rd σ 2 3)) (s_getI pc9 fl_X9_26 dX9_kind_5 (ob_2 hst) rfl (by decide)) rfl ?_
  refine p_icge (tgt := 23) dX9_kind_8 (by decide) g1 g2 (fun c1 => ?_) (fun c2 => ?_)
  · refine pGo (s_bipush dX9_kind_23 (by decide)) ?_
    exact pEnd (r := (some (0, 21))) dX9_kind_25 ⟨_, rfl⟩ (k1 c1)
  · refine pGo (s_aload_n dX9_kind_11 rfl (by decide)) ?_
    refine pGoE (y := 3) (s_getF pc9 fl_X9_9 dX9_kind_12 (ob_2 hst) rfl (by decide)) (by decide) ?_
    refine pGo (s_aload_n dX9_kind_15 rfl (by decide)) ?_
    refine pGoE (y := (rd σ 2 4)) (s_getI pc9 fl_X9_29 dX9_kind_16 (ob_2 hst) rfl (by decide)) rfl ?_
    refine pGoE (y := (rd σ 3 (rd σ 2 4))) (s_iald dX9_kind_19 (ob_3 hst) (bnd (g3 c2))) rfl ?_
    refine pGo (s_goto (tgt := 25) dX9_kind_20 (by decide)) ?_
    exact pEnd (r := (some (0, (rd σ 3 (rd σ 2 4))))) dX9_kind_25 ⟨_, rfl⟩ (k2 c2)
set_option maxRecDepth 100000 in
theorem g_X9_value_0 {d : Nat} {σ : pS} {Q : Option pV → pS → Prop} (hd : 0 ≤ d) (hst : Stat σ)   (g1 : inR (rd σ 2 4)) (g2 : inR (rd σ 2 3)) (k1 : ∀ (c1 : (rd σ 2 3) ≤ (rd σ 2 4)), Q (some (1, 0)) σ) (g3 : ∀ (c2 : (rd σ 2 4) < (rd σ 2 3)), 0 ≤ (rd σ 2 4) ∧ (rd σ 2 4) < 1401) (k2 : ∀ (c2 : (rd σ 2 4) < (rd σ 2 3)), Q (some (1, (rd σ 5 (rd σ 2 4)))) σ) : pC mX9_value d [(2, 2)] σ Q := by
  show pR mX9_value d 0 [(2, 2)] [] σ Q
  refine pGo (s_aload_n dX9_value_0 rfl (by decide)) ?_
  refine pGoE (y := (rd σ 2 4)) (s_getI pc9 fl_X9_29 dX9_value_1 (ob_2 hst) rfl (by decide)) rfl ?_
  refine pGo (s_aload_n dX9_value_4 rfl (by decide)) ?_
  refine pGoE (y := (rd σ 2 3)) (s_getI pc9 fl_X9_26 dX9_value_5 (ob_2 hst) rfl (by decide)) rfl ?_
  refine p_icge (tgt := 23) dX9_value_8 (by decide) g1 g2 (fun c1 => ?_) (fun c2 => ?_)
  · refine pGo (s_lconst dX9_value_23 (v := 0) (by decide)) ?_
    exact pEnd (r := (some (1, 0))) dX9_value_24 ⟨_, rfl⟩ (k1 c1)
  · refine pGo (s_aload_n dX9_value_11 rfl (by decide)) ?_
    refine pGoE (y := 5) (s_getF pc9 fl_X9_18 dX9_value_12 (ob_2 hst) rfl (by decide)) (by decide) ?_
    refine pGo (s_aload_n dX9_value_15 rfl (by decide)) ?_
    refine pGoE (y := (rd σ 2 4)) (s_getI pc9 fl_X9_29 dX9_value_16 (ob_2 hst) rfl (by decide)) rfl ?_
    refine pGoE (y := (rd σ 5 (rd σ 2 4))) (s_lald dX9_value_19 (ob_5 hst) (bnd (g3 c2))) rfl ?_
    refine pGo (s_goto (tgt := 24) dX9_value_20 (by decide)) ?_
    exact pEnd (r := (some (1, (rd σ 5 (rd σ 2 4))))) dX9_value_24 ⟨_, rfl⟩ (k2 c2)
set_option maxRecDepth 100000 in
theorem g_X9_step_0 {d : Nat} {σ : pS} {Q : Option pV → pS → Prop} (hd : 0 ≤ d) (hst : Stat σ)   (g1 : inR (rd σ 2 4)) (g2 : inR ((rd σ 2 3) - 1)) (k1 : ∀ (c1 : ((rd σ 2 3) - 1) ≤ (rd σ 2 4)), Q none σ) (k2 : ∀ (c2 : (rd σ 2 4) < ((rd σ 2 3) - 1)), Q none (wr σ 2 4 ((rd σ 2 4) + 1))) : pC mX9_step d [(2, 2)] σ Q := by
  show pR mX9_step d 0 [(2, 2)] [] σ Q
  refine pGo (s_aload_n dX9_step_0 rfl (by decide)) ?_
  refine pGoE (y := (rd σ 2 4)) (s_getI pc9 fl_X9_29 dX9_step_1 (ob_2 hst) rfl (by decide)) rfl ?_
  refine pGo (s_aload_n dX9_step_4 rfl (by decide)) ?_
  refine pGoE (y := (rd σ 2 3)) (s_getI pc9 fl_X9_26 dX9_step_5 (ob_2 hst) rfl (by decide)) rfl ?_
  refine pGo (s_iconst dX9_step_8) ?_
  refine pGo (s_isub dX9_step_9) ?_
  refine p_icge (tgt := 23) dX9_step_10 (by decide) g1 g2 (fun c1 => ?_) (fun c2 => ?_)
  · exact pEnd (r := none) dX9_step_23 rfl (k1 c1)
  · refine pGo (s_aload_n dX9_step_13 rfl (by decide)) ?_
    refine pGo (s_dup dX9_step_14 (by decide)) ?_
    refine pGoE (y := (rd σ 2 4)) (s_getI pc9 fl_X9_29 dX9_step_15 (ob_2 hst) rfl (by decide)) rfl ?_
    refine pGo (s_iconst dX9_step_18) ?_
    refine pGo (s_iadd dX9_step_19) ?_
    refine pGo (s_putI pc9 fl_X9_29 dX9_step_20 (ob_2 hst) rfl rfl rfl rfl) ?_
    exact pEnd (r := none) dX9_step_23 rfl (k2 c2)
set_option maxRecDepth 100000 in
theorem g_X9_put_0 {d : Nat} {σ : pS} {Q : Option pV → pS → Prop} (hd : 0 ≤ d) (hst : Stat σ) (x1 : Int) (x2 : Int) (x3 : Int)  (g1 : inR (rd σ 2 3)) (k1 : ∀ (c1 : 1401 ≤ (rd σ 2 3)), Q none σ) (g2 : ∀ (c2 : (rd σ 2 3) < 1401), 0 ≤ (rd σ 2 3) ∧ (rd σ 2 3) < 1401) (k2 : ∀ (c2 : (rd σ 2 3) < 1401), Q none (wr (wr (wr (wr σ 3 (rd σ 2 3) x1) 4 (rd σ 2 3) x2) 5 (rd σ 2 3) x3) 2 3 ((rd σ 2 3) + 1))) : pC mX9_put d [(2, 2), (0, x1), (0, x2), (1, x3)] σ Q := by
  show pR mX9_put d 0 [(2, 2), (0, x1), (0, x2), (1, x3), (9, 0)] [] σ Q
  refine pGo (s_aload_n dX9_put_0 rfl (by decide)) ?_
  refine pGoE (y := (rd σ 2 3)) (s_getI pc9 fl_X9_26 dX9_put_1 (ob_2 hst) rfl (by decide)) rfl ?_
  refine pGo (s_aload_n dX9_put_4 rfl (by decide)) ?_
  refine pGoE (y := 3) (s_getF pc9 fl_X9_9 dX9_put_5 (ob_2 hst) rfl (by decide)) (by decide) ?_
  refine pGoE (y := 1401) (s_alen dX9_put_8 (ob_3 hst)) rfl ?_
  refine p_icge (tgt := 52) dX9_put_9 (by decide) g1 (by decide) (fun c1 => ?_) (fun c2 => ?_)
  · exact pEnd (r := none) dX9_put_52 rfl (k1 c1)
  · refine pGo (s_aload_n dX9_put_12 rfl (by decide)) ?_
    refine pGoE (y := 3) (s_getF pc9 fl_X9_9 dX9_put_13 (ob_2 hst) rfl (by decide)) (by decide) ?_
    refine pGo (s_aload_n dX9_put_16 rfl (by decide)) ?_
    refine pGoE (y := (rd σ 2 3)) (s_getI pc9 fl_X9_26 dX9_put_17 (ob_2 hst) rfl (by decide)) rfl ?_
    refine pGo (s_iload_n dX9_put_20 rfl) ?_
    refine pGo (s_iast dX9_put_21 (ob_3 hst) (bnd (g2 c2))) ?_
    refine pGo (s_aload_n dX9_put_22 rfl (by decide)) ?_
    refine pGoE (y := 4) (s_getF pc9 fl_X9_15 dX9_put_23 (ob_2 hst) rfl (by decide)) (by decide) ?_
    refine pGo (s_aload_n dX9_put_26 rfl (by decide)) ?_
    refine pGoE (y := (rd σ 2 3)) (s_getI pc9 fl_X9_26 dX9_put_27 (ob_2 hst) rfl (by decide)) (rd_wr_a _ (by decide)) ?_
    refine pGo (s_iload_n dX9_put_30 rfl) ?_
    refine pGo (s_iast dX9_put_31 (ob_4 hst) (bnd (g2 c2))) ?_
    refine pGo (s_aload_n dX9_put_32 rfl (by decide)) ?_
    refine pGoE (y := 5) (s_getF pc9 fl_X9_18 dX9_put_33 (ob_2 hst) rfl (by decide)) (by decide) ?_
    refine pGo (s_aload_n dX9_put_36 rfl (by decide)) ?_
    refine pGoE (y := (rd σ 2 3)) (s_getI pc9 fl_X9_26 dX9_put_37 (ob_2 hst) rfl (by decide)) ((rd_wr_a _ (by decide)).trans (rd_wr_a _ (by decide))) ?_
    refine pGo (s_lload_n dX9_put_40 rfl) ?_
    refine pGo (s_last dX9_put_41 (ob_5 hst) (bnd (g2 c2))) ?_
    refine pGo (s_aload_n dX9_put_42 rfl (by decide)) ?_
    refine pGo (s_dup dX9_put_43 (by decide)) ?_
    refine pGoE (y := (rd σ 2 3)) (s_getI pc9 fl_X9_26 dX9_put_44 (ob_2 hst) rfl (by decide)) ((rd_wr_a _ (by decide)).trans ((rd_wr_a _ (by decide)).trans (rd_wr_a _ (by decide)))) ?_
    refine pGo (s_iconst dX9_put_47) ?_
    refine pGo (s_iadd dX9_put_48) ?_
    refine pGo (s_putI pc9 fl_X9_26 dX9_put_49 (ob_2 hst) rfl rfl rfl rfl) ?_
    exact pEnd (r := none) dX9_put_52 rfl (k2 c2)
set_option maxRecDepth 100000 in
theorem g_X9_wordKind_0 {d : Nat} {σ : pS} {Q : Option pV → pS → Prop} (hd : 5 ≤ d) (hst : Stat σ) (x1 : Int)  (k1 : pR mX9_wordKind d 8 [(1, x1), (9, 0), (1, 0), (9, 0), (0, 0), (0, 0), (9, 0)] [] σ Q) : pC mX9_wordKind d [(1, x1)] σ Q := by
  show pR mX9_wordKind d 0 [(1, x1), (9, 0), (9, 0), (9, 0), (9, 0), (9, 0), (9, 0)] [] σ Q
  refine pGo (s_lconst dX9_wordKind_0 (v := 0) (by decide)) ?_
  refine pGoL (ls2 := [(1, x1), (9, 0), (1, 0), (9, 0), (9, 0), (9, 0), (9, 0)]) (s_lstore_n dX9_wordKind_1 (by decide) rfl) rfl ?_
  refine pGo (s_iconst dX9_wordKind_2) ?_
  refine pGoL (ls2 := [(1, x1), (9, 0), (1, 0), (9, 0), (0, 0), (9, 0), (9, 0)]) (s_istore dX9_wordKind_3 (by decide) rfl) rfl ?_
  refine pGo (s_iconst dX9_wordKind_5) ?_
  refine pGoL (ls2 := [(1, x1), (9, 0), (1, 0), (9, 0), (0, 0), (0, 0), (9, 0)]) (s_istore dX9_wordKind_6 (by decide) rfl) rfl ?_
  exact k1
set_option maxRecDepth 100000 in
theorem g_X9_wordKind_8 {d : Nat} {σ : pS} {Q : Option pV → pS → Prop} (hd : 5 ≤ d) (hst : Stat σ) (x0 : Int) (x2 : Int) (x4 : Int) (x5 : Int) (u6 : pV) (hu6 : u6.1 ≠ 1) (f1 : pC mJ0_length_8abf5 1 [(4, 0)] σ (fun r τ => r = some (0, 85) ∧ τ = σ)) (g1 : inR x5) (k1 : ∀ (c1 : 85 ≤ x5), Q (some (0, 18)) σ) (f2 : ∀ (c2 : x5 < 85), pC mJ0_charAt_5068e 4 [(4, 0), (0, x5)] σ (fun r τ => r = some (0, (sCh 0 x5)) ∧ τ = σ)) (g2 : ∀ (c2 : x5 < 85), inR (sCh 0 x5)) (g3 : ∀ (c2 : x5 < 85) (c3 : (sCh 0 x5) = 32), inL x2) (g4 : ∀ (c2 : x5 < 85) (c3 : (sCh 0 x5) = 32), inL x0) (k2 : ∀ (c2 : x5 < 85) (c3 : (sCh 0 x5) = 32) (c5 : (l_cmp x2 x0) ≠ 0), pR mX9_wordKind d 8 [(1, x0), (9, 0), (1, 0), (9, 0), (0, (x4 + 1)), (0, (x5 + 1)), (0, (sCh 0 x5))] [] σ Q) (k3 : ∀ (c2 : x5 < 85) (c3 : (sCh 0 x5) = 32) (c6 : (l_cmp x2 x0) = 0), Q (some (0, x4)) σ) (k4 : ∀ (c2 : x5 < 85) (c4 : (sCh 0 x5) ≠ 32), pR mX9_wordKind d 8 [(1, x0), (9, 0), (1, ((((x2 * 32) + (sCh 0 x5)) - 97) + 1)), (9, 0), (0, x4), (0, (x5 + 1)), (0, (sCh 0 x5))] [] σ Q) : pR mX9_wordKind d 8 [(1, x0), (9, 0), (1, x2), (9, 0), (0, x4), (0, x5), u6] [] σ Q := by
  refine pGo (s_iload dX9_wordKind_8 rfl) ?_
  refine pGo (s_ldcS (i := 0) dX9_wordKind_10 rfl (by decide)) ?_
  refine p_callVs (i := 0) (As := []) (st := [(0, x5)]) (n := 0) (d' := 1) (Q1 := (fun r τ => r = some (0, 85) ∧ τ = σ)) (by decide) ok_J0_length_8abf5 ml_X9_90 im_J0_length_8abf5 se_J0_length_8abf5 dX9_wordKind_12 (pargs_of rfl) rfl (Nat.le_of_ble_eq_true rfl) (by omega) f1 (fun r1 τ1 e1 q1 w1 => ?_)
  obtain ⟨rfl, t1⟩ := q1
  rw [t1]
  show pR mX9_wordKind d 15 [(1, x0), (9, 0), (1, x2), (9, 0), (0, x4), (0, x5), u6] [(0, 85), (0, x5)] σ Q
  refine p_icge (tgt := 73) dX9_wordKind_15 (by decide) g1 (by decide) (fun c1 => ?_) (fun c2 => ?_)
  · refine pGo (s_bipush dX9_wordKind_73 (by decide)) ?_
    exact pEnd (r := (some (0, 18))) dX9_wordKind_75 ⟨_, rfl⟩ (k1 c1)
  · refine pGo (s_ldcS (i := 0) dX9_wordKind_18 rfl (by decide)) ?_
    refine pGo (s_iload dX9_wordKind_20 rfl) ?_
    refine p_callVs (i := 0) (As := [(0, x5)]) (st := []) (n := 1) (d' := 4) (Q1 := (fun r τ => r = some (0, (sCh 0 x5)) ∧ τ = σ)) (by decide) ok_J0_charAt_5068e ml_X9_95 im_J0_charAt_5068e se_J0_charAt_5068e dX9_wordKind_22 (pargs_of rfl) rfl (Nat.le_of_ble_eq_true rfl) (by omega) (f2 c2) (fun r2 τ2 e2 q2 w2 => ?_)
    obtain ⟨rfl, t2⟩ := q2
    rw [t2]
    show pR mX9_wordKind d 25 [(1, x0), (9, 0), (1, x2), (9, 0), (0, x4), (0, x5), u6] [(0, (sCh 0 x5))] σ Q
    refine pGoL (ls2 := [(1, x0), (9, 0), (1, x2), (9, 0), (0, x4), (0, x5), (0, (sCh 0 x5))]) (s_istore dX9_wordKind_25 (by decide) rfl) rfl ?_
    refine pGo (s_iload dX9_wordKind_27 rfl) ?_
    refine pGo (s_bipush dX9_wordKind_29 (by decide)) ?_
    refine p_iceq (tgt := 53) dX9_wordKind_31 (by decide) (g2 c2) (by decide) (fun c3 => ?_) (fun c4 => ?_)
    · refine pGo (s_lload_n dX9_wordKind_53 rfl) ?_
      refine pGo (s_lload_n dX9_wordKind_54 rfl) ?_
      refine pGo (s_lcmp dX9_wordKind_55 (g3 c2 c3) (g4 c2 c3)) ?_
      refine p_ifne (tgt := 62) dX9_wordKind_56 (by decide) (l_cmp_R _ _) (fun c5 => ?_) (fun c6 => ?_)
      · refine pGo (s_lconst dX9_wordKind_62 (v := 0) (by decide)) ?_
        refine pGoL (ls2 := [(1, x0), (9, 0), (1, 0), (9, 0), (0, x4), (0, x5), (0, (sCh 0 x5))]) (s_lstore_n dX9_wordKind_63 (by decide) rfl) rfl ?_
        refine pGoL (ls2 := [(1, x0), (9, 0), (1, 0), (9, 0), (0, (x4 + 1)), (0, x5), (0, (sCh 0 x5))]) (s_iinc dX9_wordKind_64 (by decide) rfl rfl) rfl ?_
        refine pGoL (ls2 := [(1, x0), (9, 0), (1, 0), (9, 0), (0, (x4 + 1)), (0, (x5 + 1)), (0, (sCh 0 x5))]) (s_iinc dX9_wordKind_67 (by decide) rfl rfl) rfl ?_
        refine pGo (s_goto (tgt := 8) dX9_wordKind_70 (by decide)) ?_
        exact (k2 c2 c3 c5)
      · refine pGo (s_iload dX9_wordKind_59 rfl) ?_
        exact pEnd (r := (some (0, x4))) dX9_wordKind_61 ⟨_, rfl⟩ (k3 c2 c3 c6)
    · refine pGo (s_lload_n dX9_wordKind_34 rfl) ?_
      refine pGo (s_ldc2 (n := 32) dX9_wordKind_35 kl_X9_80 (by decide)) ?_
      refine pGo (s_lmul dX9_wordKind_38) ?_
      refine pGo (s_iload dX9_wordKind_39 rfl) ?_
      refine pGo (s_i2l dX9_wordKind_41 (g2 c2)) ?_
      refine pGo (s_ladd dX9_wordKind_42) ?_
      refine pGo (s_ldc2 (n := 97) dX9_wordKind_43 kl_X9_82 (by decide)) ?_
      refine pGo (s_lsub dX9_wordKind_46) ?_
      refine pGo (s_lconst dX9_wordKind_47 (v := 1) (by decide)) ?_
      refine pGo (s_ladd dX9_wordKind_48) ?_
      refine pGoL (ls2 := [(1, x0), (9, 0), (1, ((((x2 * 32) + (sCh 0 x5)) - 97) + 1)), (9, 0), (0, x4), (0, x5), (0, (sCh 0 x5))]) (s_lstore_n dX9_wordKind_49 (by decide) rfl) rfl ?_
      refine pGo (s_goto (tgt := 67) dX9_wordKind_50 (by decide)) ?_
      refine pGoL (ls2 := [(1, x0), (9, 0), (1, ((((x2 * 32) + (sCh 0 x5)) - 97) + 1)), (9, 0), (0, x4), (0, (x5 + 1)), (0, (sCh 0 x5))]) (s_iinc dX9_wordKind_67 (by decide) rfl rfl) rfl ?_
      refine pGo (s_goto (tgt := 8) dX9_wordKind_70 (by decide)) ?_
      exact (k4 c2 c4)
set_option maxRecDepth 100000 in
theorem g_X9_cutNumber_0 {d : Nat} {σ : pS} {Q : Option pV → pS → Prop} (hd : 1 ≤ d) (hst : Stat σ) (x2 : Int) (x3 : Int)  (k1 : pR mX9_cutNumber d 6 [(2, 2), (2, 1), (0, x2), (0, x3), (0, x2), (0, 0), (9, 0)] [] σ Q) : pC mX9_cutNumber d [(2, 2), (2, 1), (0, x2), (0, x3)] σ Q := by
  show pR mX9_cutNumber d 0 [(2, 2), (2, 1), (0, x2), (0, x3), (9, 0), (9, 0), (9, 0)] [] σ Q
  refine pGo (s_iload_n dX9_cutNumber_0 rfl) ?_
  refine pGoL (ls2 := [(2, 2), (2, 1), (0, x2), (0, x3), (0, x2), (9, 0), (9, 0)]) (s_istore dX9_cutNumber_1 (by decide) rfl) rfl ?_
  refine pGo (s_iconst dX9_cutNumber_3) ?_
  refine pGoL (ls2 := [(2, 2), (2, 1), (0, x2), (0, x3), (0, x2), (0, 0), (9, 0)]) (s_istore dX9_cutNumber_4 (by decide) rfl) rfl ?_
  exact k1
set_option maxRecDepth 100000 in
theorem g_X9_cutNumber_6 {d : Nat} {σ : pS} {Q : Option pV → pS → Prop} {Q1 : Option pV → pS → Prop} {Q2 : Option pV → pS → Prop} {Q3 : Option pV → pS → Prop} {Q4 : Option pV → pS → Prop} {Q5 : Option pV → pS → Prop} {Q6 : Option pV → pS → Prop} {Q7 : Option pV → pS → Prop} {Q8 : Option pV → pS → Prop} (hd : 1 ≤ d) (hst : Stat σ) (x2 : Int) (x3 : Int) (x4 : Int) (x5 : Int) (u6 : pV) (hu6 : u6.1 ≠ 1) (g1 : inR x4) (g2 : inR x3) (g3 : ∀ (c1 : x3 ≤ x4), inR (x4 - x2)) (g4 : ∀ (c1 : x3 ≤ x4) (c3 : 4 < (x4 - x2)), inR x5) (f1 : ∀ (c1 : x3 ≤ x4) (c3 : 4 < (x4 - x2)), pC mX9_put 0 [(2, 2), (0, 22), (0, x2), (1, x5)] σ Q1) (k1 : ∀ (c1 : x3 ≤ x4) (c3 : 4 < (x4 - x2)) (τ1 : pS) (e1 : pLe σ τ1) (q1 : Q1 none τ1), Q (some (0, x4)) τ1) (g5 : ∀ (c1 : x3 ≤ x4) (c4 : (x4 - x2) ≤ 4) (c5 : x3 ≤ x4), inR x5) (f2 : ∀ (c1 : x3 ≤ x4) (c4 : (x4 - x2) ≤ 4) (c5 : x3 ≤ x4), pC mX9_put 0 [(2, 2), (0, 19), (0, x2), (1, x5)] σ Q2) (k2 : ∀ (c1 : x3 ≤ x4) (c4 : (x4 - x2) ≤ 4) (c5 : x3 ≤ x4) (τ2 : pS) (e2 : pLe σ τ2) (q2 : Q2 none τ2), Q (some (0, x4)) τ2) (g6 : ∀ (c1 : x3 ≤ x4) (c4 : (x4 - x2) ≤ 4) (c6 : x4 < x3), 0 ≤ x4 ∧ x4 < 1400) (f3 : ∀ (c1 : x3 ≤ x4) (c4 : (x4 - x2) ≤ 4) (c6 : x4 < x3), pC mX9_isLetter 0 [(0, (rd σ 1 x4))] σ (fun r τ => r = some (0, b2i (vLet (rd σ 1 x4))) ∧ τ = σ)) (g7 : ∀ (c1 : x3 ≤ x4) (c4 : (x4 - x2) ≤ 4) (c6 : x4 < x3) (c7 : (vLet (rd σ 1 x4)) = false), inR x5) (f4 : ∀ (c1 : x3 ≤ x4) (c4 : (x4 - x2) ≤ 4) (c6 : x4 < x3) (c7 : (vLet (rd σ 1 x4)) = false), pC mX9_put 0 [(2, 2), (0, 19), (0, x2), (1, x5)] σ Q3) (k3 : ∀ (c1 : x3 ≤ x4) (c4 : (x4 - x2) ≤ 4) (c6 : x4 < x3) (c7 : (vLet (rd σ 1 x4)) = false) (τ4 : pS) (e4 : pLe σ τ4) (q4 : Q3 none τ4), Q (some (0, x4)) τ4) (g8 : ∀ (c1 : x3 ≤ x4) (c4 : (x4 - x2) ≤ 4) (c6 : x4 < x3) (c8 : (vLet (rd σ 1 x4)) = true), inR x5) (f5 : ∀ (c1 : x3 ≤ x4) (c4 : (x4 - x2) ≤ 4) (c6 : x4 < x3) (c8 : (vLet (rd σ 1 x4)) = true), pC mX9_put 0 [(2, 2), (0, 22), (0, x2), (1, x5)] σ Q4) (k4 : ∀ (c1 : x3 ≤ x4) (c4 : (x4 - x2) ≤ 4) (c6 : x4 < x3) (c8 : (vLet (rd σ 1 x4)) = true) (τ5 : pS) (e5 : pLe σ τ5) (q5 : Q4 none τ5), Q (some (0, x4)) τ5) (g9 : ∀ (c2 : x4 < x3), 0 ≤ x4 ∧ x4 < 1400) (f6 : ∀ (c2 : x4 < x3), pC mX9_isDigit 0 [(0, (rd σ 1 x4))] σ (fun r τ => r = some (0, b2i (vDig (rd σ 1 x4))) ∧ τ = σ)) (g10 : ∀ (c2 : x4 < x3) (c9 : (vDig (rd σ 1 x4)) = false), inR (x4 - x2)) (g11 : ∀ (c2 : x4 < x3) (c9 : (vDig (rd σ 1 x4)) = false) (c11 : 4 < (x4 - x2)), inR x5) (f7 : ∀ (c2 : x4 < x3) (c9 : (vDig (rd σ 1 x4)) = false) (c11 : 4 < (x4 - x2)), pC mX9_put 0 [(2, 2), (0, 22), (0, x2), (1, x5)] σ Q5) (k5 : ∀ (c2 : x4 < x3) (c9 : (vDig (rd σ 1 x4)) = false) (c11 : 4 < (x4 - x2)) (τ7 : pS) (e7 : pLe σ τ7) (q7 : Q5 none τ7), Q (some (0, x4)) τ7) (g12 : ∀ (c2 : x4 < x3) (c9 : (vDig (rd σ 1 x4)) = false) (c12 : (x4 - x2) ≤ 4) (c13 : x3 ≤ x4), inR x5) (f8 : ∀ (c2 : x4 < x3) (c9 : (vDig (rd σ 1 x4)) = false) (c12 : (x4 - x2) ≤ 4) (c13 : x3 ≤ x4), pC mX9_put 0 [(2, 2), (0, 19), (0, x2), (1, x5)] σ Q6) (k6 : ∀ (c2 : x4 < x3) (c9 : (vDig (rd σ 1 x4)) = false) (c12 : (x4 - x2) ≤ 4) (c13 : x3 ≤ x4) (τ8 : pS) (e8 : pLe σ τ8) (q8 : Q6 none τ8), Q (some (0, x4)) τ8) (f9 : ∀ (c2 : x4 < x3) (c9 : (vDig (rd σ 1 x4)) = false) (c12 : (x4 - x2) ≤ 4) (c14 : x4 < x3), pC mX9_isLetter 0 [(0, (rd σ 1 x4))] σ (fun r τ => r = some (0, b2i (vLet (rd σ 1 x4))) ∧ τ = σ)) (g13 : ∀ (c2 : x4 < x3) (c9 : (vDig (rd σ 1 x4)) = false) (c12 : (x4 - x2) ≤ 4) (c14 : x4 < x3) (c15 : (vLet (rd σ 1 x4)) = false), inR x5) (f10 : ∀ (c2 : x4 < x3) (c9 : (vDig (rd σ 1 x4)) = false) (c12 : (x4 - x2) ≤ 4) (c14 : x4 < x3) (c15 : (vLet (rd σ 1 x4)) = false), pC mX9_put 0 [(2, 2), (0, 19), (0, x2), (1, x5)] σ Q7) (k7 : ∀ (c2 : x4 < x3) (c9 : (vDig (rd σ 1 x4)) = false) (c12 : (x4 - x2) ≤ 4) (c14 : x4 < x3) (c15 : (vLet (rd σ 1 x4)) = false) (τ10 : pS) (e10 : pLe σ τ10) (q10 : Q7 none τ10), Q (some (0, x4)) τ10) (g14 : ∀ (c2 : x4 < x3) (c9 : (vDig (rd σ 1 x4)) = false) (c12 : (x4 - x2) ≤ 4) (c14 : x4 < x3) (c16 : (vLet (rd σ 1 x4)) = true), inR x5) (f11 : ∀ (c2 : x4 < x3) (c9 : (vDig (rd σ 1 x4)) = false) (c12 : (x4 - x2) ≤ 4) (c14 : x4 < x3) (c16 : (vLet (rd σ 1 x4)) = true), pC mX9_put 0 [(2, 2), (0, 22), (0, x2), (1, x5)] σ Q8) (k8 : ∀ (c2 : x4 < x3) (c9 : (vDig (rd σ 1 x4)) = false) (c12 : (x4 - x2) ≤ 4) (c14 : x4 < x3) (c16 : (vLet (rd σ 1 x4)) = true) (τ11 : pS) (e11 : pLe σ τ11) (q11 : Q8 none τ11), Q (some (0, x4)) τ11) (g15 : ∀ (c2 : x4 < x3) (c10 : (vDig (rd σ 1 x4)) = true), inR (x4 - x2)) (k9 : ∀ (c2 : x4 < x3) (c10 : (vDig (rd σ 1 x4)) = true) (c17 : 4 ≤ (x4 - x2)), pR mX9_cutNumber d 6 [(2, 2), (2, 1), (0, x2), (0, x3), (0, (x4 + 1)), (0, x5), u6] [] σ Q) (k10 : ∀ (c2 : x4 < x3) (c10 : (vDig (rd σ 1 x4)) = true) (c18 : (x4 - x2) < 4), pR mX9_cutNumber d 6 [(2, 2), (2, 1), (0, x2), (0, x3), (0, (x4 + 1)), (0, (((x5 * 10) + (rd σ 1 x4)) - 48)), u6] [] σ Q) : pR mX9_cutNumber d 6 [(2, 2), (2, 1), (0, x2), (0, x3), (0, x4), (0, x5), u6] [] σ Q := by
  refine pGo (s_iload dX9_cutNumber_6 rfl) ?_
  refine pGo (s_iload_n dX9_cutNumber_8 rfl) ?_
  refine p_icge (tgt := 56) dX9_cutNumber_9 (by decide) g1 g2 (fun c1 => ?_) (fun c2 => ?_)
  · refine pGo (s_iload dX9_cutNumber_56 rfl) ?_
    refine pGo (s_iload_n dX9_cutNumber_58 rfl) ?_
    refine pGo (s_isub dX9_cutNumber_59) ?_
    refine pGo (s_iconst dX9_cutNumber_60) ?_
    refine p_icgt (tgt := 80) dX9_cutNumber_61 (by decide) (g3 c1) (by decide) (fun c3 => ?_) (fun c4 => ?_)
    · refine pGo (s_iconst dX9_cutNumber_80) ?_
      refine pGo (s_goto (tgt := 85) dX9_cutNumber_81 (by decide)) ?_
      refine pGoL (ls2 := [(2, 2), (2, 1), (0, x2), (0, x3), (0, x4), (0, x5), (0, 1)]) (s_istore dX9_cutNumber_85 (by decide) rfl) rfl ?_
      refine pGo (s_aload_n dX9_cutNumber_87 rfl (by decide)) ?_
      refine pGo (s_iload dX9_cutNumber_88 rfl) ?_
      refine p_ifeq (tgt := 98) dX9_cutNumber_90 (by decide) (by decide) (fun q => absurd q (by decide)) (fun _ => ?_)
      refine pGo (s_bipush dX9_cutNumber_93 (by decide)) ?_
      refine pGo (s_goto (tgt := 100) dX9_cutNumber_95 (by decide)) ?_
      refine pGo (s_iload_n dX9_cutNumber_100 rfl) ?_
      refine pGo (s_iload dX9_cutNumber_101 rfl) ?_
      refine pGo (s_i2l dX9_cutNumber_103 (g4 c1 c3)) ?_
      refine p_callV (As := [(0, 22), (0, x2), (1, x5)]) (st := []) (n := 3) (d' := 0) (Q1 := Q1) pc9 ok_X9_put ml_X9_39 im_X9_put se_X9_put dX9_cutNumber_104 (ob_2 hst) (pargs_of rfl) rfl (Nat.le_of_ble_eq_true rfl) (by omega) (f1 c1 c3) (fun r1 τ1 e1 q1 w1 => ?_)
      obtain rfl : r1 = none := w1
      have S1 : Stat τ1 := (Stat.le (σ := σ) hst e1)
      show pR mX9_cutNumber d 107 [(2, 2), (2, 1), (0, x2), (0, x3), (0, x4), (0, x5), (0, 1)] [] τ1 Q
      refine pGo (s_iload dX9_cutNumber_107 rfl) ?_
      exact pEnd (r := (some (0, x4))) dX9_cutNumber_109 ⟨_, rfl⟩ (k1 c1 c3 τ1 e1 q1)
    · refine pGo (s_iload dX9_cutNumber_64 rfl) ?_
      refine pGo (s_iload_n dX9_cutNumber_66 rfl) ?_
      refine p_icge (tgt := 84) dX9_cutNumber_67 (by decide) g1 g2 (fun c5 => ?_) (fun c6 => ?_)
      · refine pGo (s_iconst dX9_cutNumber_84) ?_
        refine pGoL (ls2 := [(2, 2), (2, 1), (0, x2), (0, x3), (0, x4), (0, x5), (0, 0)]) (s_istore dX9_cutNumber_85 (by decide) rfl) rfl ?_
        refine pGo (s_aload_n dX9_cutNumber_87 rfl (by decide)) ?_
        refine pGo (s_iload dX9_cutNumber_88 rfl) ?_
        refine p_ifeq (tgt := 98) dX9_cutNumber_90 (by decide) (by decide) (fun _ => ?_) (fun q => absurd q (by decide))
        refine pGo (s_bipush dX9_cutNumber_98 (by decide)) ?_
        refine pGo (s_iload_n dX9_cutNumber_100 rfl) ?_
        refine pGo (s_iload dX9_cutNumber_101 rfl) ?_
        refine pGo (s_i2l dX9_cutNumber_103 (g5 c1 c4 c5)) ?_
        refine p_callV (As := [(0, 19), (0, x2), (1, x5)]) (st := []) (n := 3) (d' := 0) (Q1 := Q2) pc9 ok_X9_put ml_X9_39 im_X9_put se_X9_put dX9_cutNumber_104 (ob_2 hst) (pargs_of rfl) rfl (Nat.le_of_ble_eq_true rfl) (by omega) (f2 c1 c4 c5) (fun r2 τ2 e2 q2 w2 => ?_)
        obtain rfl : r2 = none := w2
        have S2 : Stat τ2 := (Stat.le (σ := σ) hst e2)
        show pR mX9_cutNumber d 107 [(2, 2), (2, 1), (0, x2), (0, x3), (0, x4), (0, x5), (0, 0)] [] τ2 Q
        refine pGo (s_iload dX9_cutNumber_107 rfl) ?_
        exact pEnd (r := (some (0, x4))) dX9_cutNumber_109 ⟨_, rfl⟩ (k2 c1 c4 c5 τ2 e2 q2)
      · refine pGo (s_aload_n dX9_cutNumber_70 rfl (by decide)) ?_
        refine pGo (s_iload dX9_cutNumber_71 rfl) ?_
        refine pGoE (y := (rd σ 1 x4)) (s_bald dX9_cutNumber_73 (ob_1 hst) (bnd (g6 c1 c4 c6))) rfl ?_
        refine p_callS (As := [(0, (rd σ 1 x4))]) (st := []) (n := 1) (d' := 0) (Q1 := (fun r τ => r = some (0, b2i (vLet (rd σ 1 x4))) ∧ τ = σ)) ok_X9_isLetter ml_X9_61 sm_X9_isLetter dX9_cutNumber_74 (pargs_of rfl) rfl (Nat.le_of_ble_eq_true rfl) (by omega) (f3 c1 c4 c6) (fun r3 τ3 e3 q3 w3 => ?_)
        obtain ⟨rfl, t3⟩ := q3
        rw [t3]
        show pR mX9_cutNumber d 77 [(2, 2), (2, 1), (0, x2), (0, x3), (0, x4), (0, x5), u6] [(0, (b2i (vLet (rd σ 1 x4))))] σ Q
        refine p_ifeqB (tgt := 84) dX9_cutNumber_77 (by decide) (fun c7 => ?_) (fun c8 => ?_)
        · refine pGo (s_iconst dX9_cutNumber_84) ?_
          refine pGoL (ls2 := [(2, 2), (2, 1), (0, x2), (0, x3), (0, x4), (0, x5), (0, 0)]) (s_istore dX9_cutNumber_85 (by decide) rfl) rfl ?_
          refine pGo (s_aload_n dX9_cutNumber_87 rfl (by decide)) ?_
          refine pGo (s_iload dX9_cutNumber_88 rfl) ?_
          refine p_ifeq (tgt := 98) dX9_cutNumber_90 (by decide) (by decide) (fun _ => ?_) (fun q => absurd q (by decide))
          refine pGo (s_bipush dX9_cutNumber_98 (by decide)) ?_
          refine pGo (s_iload_n dX9_cutNumber_100 rfl) ?_
          refine pGo (s_iload dX9_cutNumber_101 rfl) ?_
          refine pGo (s_i2l dX9_cutNumber_103 (g7 c1 c4 c6 c7)) ?_
          refine p_callV (As := [(0, 19), (0, x2), (1, x5)]) (st := []) (n := 3) (d' := 0) (Q1 := Q3) pc9 ok_X9_put ml_X9_39 im_X9_put se_X9_put dX9_cutNumber_104 (ob_2 hst) (pargs_of rfl) rfl (Nat.le_of_ble_eq_true rfl) (by omega) (f4 c1 c4 c6 c7) (fun r4 τ4 e4 q4 w4 => ?_)
          obtain rfl : r4 = none := w4
          have S4 : Stat τ4 := (Stat.le (σ := σ) hst e4)
          show pR mX9_cutNumber d 107 [(2, 2), (2, 1), (0, x2), (0, x3), (0, x4), (0, x5), (0, 0)] [] τ4 Q
          refine pGo (s_iload dX9_cutNumber_107 rfl) ?_
          exact pEnd (r := (some (0, x4))) dX9_cutNumber_109 ⟨_, rfl⟩ (k3 c1 c4 c6 c7 τ4 e4 q4)
        · refine pGo (s_iconst dX9_cutNumber_80) ?_
          refine pGo (s_goto (tgt := 85) dX9_cutNumber_81 (by decide)) ?_
          refine pGoL (ls2 := [(2, 2), (2, 1), (0, x2), (0, x3), (0, x4), (0, x5), (0, 1)]) (s_istore dX9_cutNumber_85 (by decide) rfl) rfl ?_
          refine pGo (s_aload_n dX9_cutNumber_87 rfl (by decide)) ?_
          refine pGo (s_iload dX9_cutNumber_88 rfl) ?_
          refine p_ifeq (tgt := 98) dX9_cutNumber_90 (by decide) (by decide) (fun q => absurd q (by decide)) (fun _ => ?_)
          refine pGo (s_bipush dX9_cutNumber_93 (by decide)) ?_
          refine pGo (s_goto (tgt := 100) dX9_cutNumber_95 (by decide)) ?_
          refine pGo (s_iload_n dX9_cutNumber_100 rfl) ?_
          refine pGo (s_iload dX9_cutNumber_101 rfl) ?_
          refine pGo (s_i2l dX9_cutNumber_103 (g8 c1 c4 c6 c8)) ?_
          refine p_callV (As := [(0, 22), (0, x2), (1, x5)]) (st := []) (n := 3) (d' := 0) (Q1 := Q4) pc9 ok_X9_put ml_X9_39 im_X9_put se_X9_put dX9_cutNumber_104 (ob_2 hst) (pargs_of rfl) rfl (Nat.le_of_ble_eq_true rfl) (by omega) (f5 c1 c4 c6 c8) (fun r5 τ5 e5 q5 w5 => ?_)
          obtain rfl : r5 = none := w5
          have S5 : Stat τ5 := (Stat.le (σ := σ) hst e5)
          show pR mX9_cutNumber d 107 [(2, 2), (2, 1), (0, x2), (0, x3), (0, x4), (0, x5), (0, 1)] [] τ5 Q
          refine pGo (s_iload dX9_cutNumber_107 rfl) ?_
          exact pEnd (r := (some (0, x4))) dX9_cutNumber_109 ⟨_, rfl⟩ (k4 c1 c4 c6 c8 τ5 e5 q5)
  · refine pGo (s_aload_n dX9_cutNumber_12 rfl (by decide)) ?_
    refine pGo (s_iload dX9_cutNumber_13 rfl) ?_
    refine pGoE (y := (rd σ 1 x4)) (s_bald dX9_cutNumber_15 (ob_1 hst) (bnd (g9 c2))) rfl ?_
    refine p_callS (As := [(0, (rd σ 1 x4))]) (st := []) (n := 1) (d' := 0) (Q1 := (fun r τ => r = some (0, b2i (vDig (rd σ 1 x4))) ∧ τ = σ)) ok_X9_isDigit ml_X9_67 sm_X9_isDigit dX9_cutNumber_16 (pargs_of rfl) rfl (Nat.le_of_ble_eq_true rfl) (by omega) (f6 c2) (fun r6 τ6 e6 q6 w6 => ?_)
    obtain ⟨rfl, t6⟩ := q6
    rw [t6]
    show pR mX9_cutNumber d 19 [(2, 2), (2, 1), (0, x2), (0, x3), (0, x4), (0, x5), u6] [(0, (b2i (vDig (rd σ 1 x4))))] σ Q
    refine p_ifeqB (tgt := 56) dX9_cutNumber_19 (by decide) (fun c9 => ?_) (fun c10 => ?_)
    · refine pGo (s_iload dX9_cutNumber_56 rfl) ?_
      refine pGo (s_iload_n dX9_cutNumber_58 rfl) ?_
      refine pGo (s_isub dX9_cutNumber_59) ?_
      refine pGo (s_iconst dX9_cutNumber_60) ?_
      refine p_icgt (tgt := 80) dX9_cutNumber_61 (by decide) (g10 c2 c9) (by decide) (fun c11 => ?_) (fun c12 => ?_)
      · refine pGo (s_iconst dX9_cutNumber_80) ?_
        refine pGo (s_goto (tgt := 85) dX9_cutNumber_81 (by decide)) ?_
        refine pGoL (ls2 := [(2, 2), (2, 1), (0, x2), (0, x3), (0, x4), (0, x5), (0, 1)]) (s_istore dX9_cutNumber_85 (by decide) rfl) rfl ?_
        refine pGo (s_aload_n dX9_cutNumber_87 rfl (by decide)) ?_
        refine pGo (s_iload dX9_cutNumber_88 rfl) ?_
        refine p_ifeq (tgt := 98) dX9_cutNumber_90 (by decide) (by decide) (fun q => absurd q (by decide)) (fun _ => ?_)
        refine pGo (s_bipush dX9_cutNumber_93 (by decide)) ?_
        refine pGo (s_goto (tgt := 100) dX9_cutNumber_95 (by decide)) ?_
        refine pGo (s_iload_n dX9_cutNumber_100 rfl) ?_
        refine pGo (s_iload dX9_cutNumber_101 rfl) ?_
        refine pGo (s_i2l dX9_cutNumber_103 (g11 c2 c9 c11)) ?_
        refine p_callV (As := [(0, 22), (0, x2), (1, x5)]) (st := []) (n := 3) (d' := 0) (Q1 := Q5) pc9 ok_X9_put ml_X9_39 im_X9_put se_X9_put dX9_cutNumber_104 (ob_2 hst) (pargs_of rfl) rfl (Nat.le_of_ble_eq_true rfl) (by omega) (f7 c2 c9 c11) (fun r7 τ7 e7 q7 w7 => ?_)
        obtain rfl : r7 = none := w7
        have S7 : Stat τ7 := (Stat.le (σ := σ) hst e7)
        show pR mX9_cutNumber d 107 [(2, 2), (2, 1), (0, x2), (0, x3), (0, x4), (0, x5), (0, 1)] [] τ7 Q
        refine pGo (s_iload dX9_cutNumber_107 rfl) ?_
        exact pEnd (r := (some (0, x4))) dX9_cutNumber_109 ⟨_, rfl⟩ (k5 c2 c9 c11 τ7 e7 q7)
      · refine pGo (s_iload dX9_cutNumber_64 rfl) ?_
        refine pGo (s_iload_n dX9_cutNumber_66 rfl) ?_
        refine p_icge (tgt := 84) dX9_cutNumber_67 (by decide) g1 g2 (fun c13 => ?_) (fun c14 => ?_)
        · refine pGo (s_iconst dX9_cutNumber_84) ?_
          refine pGoL (ls2 := [(2, 2), (2, 1), (0, x2), (0, x3), (0, x4), (0, x5), (0, 0)]) (s_istore dX9_cutNumber_85 (by decide) rfl) rfl ?_
          refine pGo (s_aload_n dX9_cutNumber_87 rfl (by decide)) ?_
          refine pGo (s_iload dX9_cutNumber_88 rfl) ?_
          refine p_ifeq (tgt := 98) dX9_cutNumber_90 (by decide) (by decide) (fun _ => ?_) (fun q => absurd q (by decide))
          refine pGo (s_bipush dX9_cutNumber_98 (by decide)) ?_
          refine pGo (s_iload_n dX9_cutNumber_100 rfl) ?_
          refine pGo (s_iload dX9_cutNumber_101 rfl) ?_
          refine pGo (s_i2l dX9_cutNumber_103 (g12 c2 c9 c12 c13)) ?_
          refine p_callV (As := [(0, 19), (0, x2), (1, x5)]) (st := []) (n := 3) (d' := 0) (Q1 := Q6) pc9 ok_X9_put ml_X9_39 im_X9_put se_X9_put dX9_cutNumber_104 (ob_2 hst) (pargs_of rfl) rfl (Nat.le_of_ble_eq_true rfl) (by omega) (f8 c2 c9 c12 c13) (fun r8 τ8 e8 q8 w8 => ?_)
          obtain rfl : r8 = none := w8
          have S8 : Stat τ8 := (Stat.le (σ := σ) hst e8)
          show pR mX9_cutNumber d 107 [(2, 2), (2, 1), (0, x2), (0, x3), (0, x4), (0, x5), (0, 0)] [] τ8 Q
          refine pGo (s_iload dX9_cutNumber_107 rfl) ?_
          exact pEnd (r := (some (0, x4))) dX9_cutNumber_109 ⟨_, rfl⟩ (k6 c2 c9 c12 c13 τ8 e8 q8)
        · refine pGo (s_aload_n dX9_cutNumber_70 rfl (by decide)) ?_
          refine pGo (s_iload dX9_cutNumber_71 rfl) ?_
          refine pGoE (y := (rd σ 1 x4)) (s_bald dX9_cutNumber_73 (ob_1 hst) (bnd (g9 c2))) rfl ?_
          refine p_callS (As := [(0, (rd σ 1 x4))]) (st := []) (n := 1) (d' := 0) (Q1 := (fun r τ => r = some (0, b2i (vLet (rd σ 1 x4))) ∧ τ = σ)) ok_X9_isLetter ml_X9_61 sm_X9_isLetter dX9_cutNumber_74 (pargs_of rfl) rfl (Nat.le_of_ble_eq_true rfl) (by omega) (f9 c2 c9 c12 c14) (fun r9 τ9 e9 q9 w9 => ?_)
          obtain ⟨rfl, t9⟩ := q9
          rw [t9]
          show pR mX9_cutNumber d 77 [(2, 2), (2, 1), (0, x2), (0, x3), (0, x4), (0, x5), u6] [(0, (b2i (vLet (rd σ 1 x4))))] σ Q
          refine p_ifeqB (tgt := 84) dX9_cutNumber_77 (by decide) (fun c15 => ?_) (fun c16 => ?_)
          · refine pGo (s_iconst dX9_cutNumber_84) ?_
            refine pGoL (ls2 := [(2, 2), (2, 1), (0, x2), (0, x3), (0, x4), (0, x5), (0, 0)]) (s_istore dX9_cutNumber_85 (by decide) rfl) rfl ?_
            refine pGo (s_aload_n dX9_cutNumber_87 rfl (by decide)) ?_
            refine pGo (s_iload dX9_cutNumber_88 rfl) ?_
            refine p_ifeq (tgt := 98) dX9_cutNumber_90 (by decide) (by decide) (fun _ => ?_) (fun q => absurd q (by decide))
            refine pGo (s_bipush dX9_cutNumber_98 (by decide)) ?_
            refine pGo (s_iload_n dX9_cutNumber_100 rfl) ?_
            refine pGo (s_iload dX9_cutNumber_101 rfl) ?_
            refine pGo (s_i2l dX9_cutNumber_103 (g13 c2 c9 c12 c14 c15)) ?_
            refine p_callV (As := [(0, 19), (0, x2), (1, x5)]) (st := []) (n := 3) (d' := 0) (Q1 := Q7) pc9 ok_X9_put ml_X9_39 im_X9_put se_X9_put dX9_cutNumber_104 (ob_2 hst) (pargs_of rfl) rfl (Nat.le_of_ble_eq_true rfl) (by omega) (f10 c2 c9 c12 c14 c15) (fun r10 τ10 e10 q10 w10 => ?_)
            obtain rfl : r10 = none := w10
            have S10 : Stat τ10 := (Stat.le (σ := σ) hst e10)
            show pR mX9_cutNumber d 107 [(2, 2), (2, 1), (0, x2), (0, x3), (0, x4), (0, x5), (0, 0)] [] τ10 Q
            refine pGo (s_iload dX9_cutNumber_107 rfl) ?_
            exact pEnd (r := (some (0, x4))) dX9_cutNumber_109 ⟨_, rfl⟩ (k7 c2 c9 c12 c14 c15 τ10 e10 q10)
          · refine pGo (s_iconst dX9_cutNumber_80) ?_
            refine pGo (s_goto (tgt := 85) dX9_cutNumber_81 (by decide)) ?_
            refine pGoL (ls2 := [(2, 2), (2, 1), (0, x2), (0, x3), (0, x4), (0, x5), (0, 1)]) (s_istore dX9_cutNumber_85 (by decide) rfl) rfl ?_
            refine pGo (s_aload_n dX9_cutNumber_87 rfl (by decide)) ?_
            refine pGo (s_iload dX9_cutNumber_88 rfl) ?_
            refine p_ifeq (tgt := 98) dX9_cutNumber_90 (by decide) (by decide) (fun q => absurd q (by decide)) (fun _ => ?_)
            refine pGo (s_bipush dX9_cutNumber_93 (by decide)) ?_
            refine pGo (s_goto (tgt := 100) dX9_cutNumber_95 (by decide)) ?_
            refine pGo (s_iload_n dX9_cutNumber_100 rfl) ?_
            refine pGo (s_iload dX9_cutNumber_101 rfl) ?_
            refine pGo (s_i2l dX9_cutNumber_103 (g14 c2 c9 c12 c14 c16)) ?_
            refine p_callV (As := [(0, 22), (0, x2), (1, x5)]) (st := []) (n := 3) (d' := 0) (Q1 := Q8) pc9 ok_X9_put ml_X9_39 im_X9_put se_X9_put dX9_cutNumber_104 (ob_2 hst) (pargs_of rfl) rfl (Nat.le_of_ble_eq_true rfl) (by omega) (f11 c2 c9 c12 c14 c16) (fun r11 τ11 e11 q11 w11 => ?_)
            obtain rfl : r11 = none := w11
            have S11 : Stat τ11 := (Stat.le (σ := σ) hst e11)
            show pR mX9_cutNumber d 107 [(2, 2), (2, 1), (0, x2), (0, x3), (0, x4), (0, x5), (0, 1)] [] τ11 Q
            refine pGo (s_iload dX9_cutNumber_107 rfl) ?_
            exact pEnd (r := (some (0, x4))) dX9_cutNumber_109 ⟨_, rfl⟩ (k8 c2 c9 c12 c14 c16 τ11 e11 q11)
    · refine pGo (s_iload dX9_cutNumber_22 rfl) ?_
      refine pGo (s_iload_n dX9_cutNumber_24 rfl) ?_
      refine pGo (s_isub dX9_cutNumber_25) ?_
      refine pGo (s_iconst dX9_cutNumber_26) ?_
      refine p_icge (tgt := 46) dX9_cutNumber_27 (by decide) (g15 c2 c10) (by decide) (fun c17 => ?_) (fun c18 => ?_)
      · refine pGo (s_iload dX9_cutNumber_46 rfl) ?_
        refine pGoL (ls2 := [(2, 2), (2, 1), (0, x2), (0, x3), (0, x4), (0, x5), u6]) (s_istore dX9_cutNumber_48 (by decide) rfl) rfl ?_
        refine pGoL (ls2 := [(2, 2), (2, 1), (0, x2), (0, x3), (0, (x4 + 1)), (0, x5), u6]) (s_iinc dX9_cutNumber_50 (by decide) rfl rfl) rfl ?_
        refine pGo (s_goto (tgt := 6) dX9_cutNumber_53 (by decide)) ?_
        exact (k9 c2 c10 c17)
      · refine pGo (s_iload dX9_cutNumber_30 rfl) ?_
        refine pGo (s_bipush dX9_cutNumber_32 (by decide)) ?_
        refine pGo (s_imul dX9_cutNumber_34) ?_
        refine pGo (s_aload_n dX9_cutNumber_35 rfl (by decide)) ?_
        refine pGo (s_iload dX9_cutNumber_36 rfl) ?_
        refine pGoE (y := (rd σ 1 x4)) (s_bald dX9_cutNumber_38 (ob_1 hst) (bnd (g9 c2))) rfl ?_
        refine pGo (s_iadd dX9_cutNumber_39) ?_
        refine pGo (s_bipush dX9_cutNumber_40 (by decide)) ?_
        refine pGo (s_isub dX9_cutNumber_42) ?_
        refine pGo (s_goto (tgt := 48) dX9_cutNumber_43 (by decide)) ?_
        refine pGoL (ls2 := [(2, 2), (2, 1), (0, x2), (0, x3), (0, x4), (0, (((x5 * 10) + (rd σ 1 x4)) - 48)), u6]) (s_istore dX9_cutNumber_48 (by decide) rfl) rfl ?_
        refine pGoL (ls2 := [(2, 2), (2, 1), (0, x2), (0, x3), (0, (x4 + 1)), (0, (((x5 * 10) + (rd σ 1 x4)) - 48)), u6]) (s_iinc dX9_cutNumber_50 (by decide) rfl rfl) rfl ?_
        refine pGo (s_goto (tgt := 6) dX9_cutNumber_53 (by decide)) ?_
        exact (k10 c2 c10 c18)
set_option maxRecDepth 100000 in
theorem g_X9_cutWord_0 {d : Nat} {σ : pS} {Q : Option pV → pS → Prop} {Q1 : Option pV → pS → Prop} (hd : 6 ≤ d) (hst : Stat σ) (x2 : Int) (x3 : Int)  (f1 : pC mX9_isPlace 1 [(2, 1), (0, x2), (0, x3)] σ (fun r τ => r = some (0, b2i (vIsP σ x2 x3)) ∧ τ = σ)) (k1 : ∀ (c1 : (vIsP σ x2 x3) = false), pR mX9_cutWord d 35 [(2, 2), (2, 1), (0, x2), (0, x3), (0, x2), (1, 0), (9, 0)] [] σ Q) (g1 : ∀ (c2 : (vIsP σ x2 x3) = true), 0 ≤ (x2 + 1) ∧ (x2 + 1) < 1400) (g2 : ∀ (c2 : (vIsP σ x2 x3) = true), inR ((rd σ 1 (x2 + 1)) - 48)) (f2 : ∀ (c2 : (vIsP σ x2 x3) = true), pC mX9_put 0 [(2, 2), (0, 20), (0, x2), (1, ((rd σ 1 (x2 + 1)) - 48))] σ Q1) (k2 : ∀ (c2 : (vIsP σ x2 x3) = true) (τ2 : pS) (e2 : pLe σ τ2) (q2 : Q1 none τ2), Q (some (0, (x2 + 2))) τ2) : pC mX9_cutWord d [(2, 2), (2, 1), (0, x2), (0, x3)] σ Q := by
  show pR mX9_cutWord d 0 [(2, 2), (2, 1), (0, x2), (0, x3), (9, 0), (9, 0), (9, 0)] [] σ Q
  refine pGo (s_aload_n dX9_cutWord_0 rfl (by decide)) ?_
  refine pGo (s_iload_n dX9_cutWord_1 rfl) ?_
  refine pGo (s_iload_n dX9_cutWord_2 rfl) ?_
  refine p_callS (As := [(2, 1), (0, x2), (0, x3)]) (st := []) (n := 3) (d' := 1) (Q1 := (fun r τ => r = some (0, b2i (vIsP σ x2 x3)) ∧ τ = σ)) ok_X9_isPlace ml_X9_76 sm_X9_isPlace dX9_cutWord_3 (pargs_of rfl) rfl (Nat.le_of_ble_eq_true rfl) (by omega) f1 (fun r1 τ1 e1 q1 w1 => ?_)
  obtain ⟨rfl, t1⟩ := q1
  rw [t1]
  show pR mX9_cutWord d 6 [(2, 2), (2, 1), (0, x2), (0, x3), (9, 0), (9, 0), (9, 0)] [(0, (b2i (vIsP σ x2 x3)))] σ Q
  refine p_ifeqB (tgt := 29) dX9_cutWord_6 (by decide) (fun c1 => ?_) (fun c2 => ?_)
  · refine pGo (s_iload_n dX9_cutWord_29 rfl) ?_
    refine pGoL (ls2 := [(2, 2), (2, 1), (0, x2), (0, x3), (0, x2), (9, 0), (9, 0)]) (s_istore dX9_cutWord_30 (by decide) rfl) rfl ?_
    refine pGo (s_lconst dX9_cutWord_32 (v := 0) (by decide)) ?_
    refine pGoL (ls2 := [(2, 2), (2, 1), (0, x2), (0, x3), (0, x2), (1, 0), (9, 0)]) (s_lstore dX9_cutWord_33 (by decide) rfl) rfl ?_
    exact (k1 c1)
  · refine pGo (s_aload_n dX9_cutWord_9 rfl (by decide)) ?_
    refine pGo (s_bipush dX9_cutWord_10 (by decide)) ?_
    refine pGo (s_iload_n dX9_cutWord_12 rfl) ?_
    refine pGo (s_aload_n dX9_cutWord_13 rfl (by decide)) ?_
    refine pGo (s_iload_n dX9_cutWord_14 rfl) ?_
    refine pGo (s_iconst dX9_cutWord_15) ?_
    refine pGo (s_iadd dX9_cutWord_16) ?_
    refine pGoE (y := (rd σ 1 (x2 + 1))) (s_bald dX9_cutWord_17 (ob_1 hst) (bnd (g1 c2))) rfl ?_
    refine pGo (s_bipush dX9_cutWord_18 (by decide)) ?_
    refine pGo (s_isub dX9_cutWord_20) ?_
    refine pGo (s_i2l dX9_cutWord_21 (g2 c2)) ?_
    refine p_callV (As := [(0, 20), (0, x2), (1, ((rd σ 1 (x2 + 1)) - 48))]) (st := []) (n := 3) (d' := 0) (Q1 := Q1) pc9 ok_X9_put ml_X9_39 im_X9_put se_X9_put dX9_cutWord_22 (ob_2 hst) (pargs_of rfl) rfl (Nat.le_of_ble_eq_true rfl) (by omega) (f2 c2) (fun r2 τ2 e2 q2 w2 => ?_)
    obtain rfl : r2 = none := w2
    have S2 : Stat τ2 := (Stat.le (σ := σ) hst e2)
    show pR mX9_cutWord d 25 [(2, 2), (2, 1), (0, x2), (0, x3), (9, 0), (9, 0), (9, 0)] [] τ2 Q
    refine pGo (s_iload_n dX9_cutWord_25 rfl) ?_
    refine pGo (s_iconst dX9_cutWord_26) ?_
    refine pGo (s_iadd dX9_cutWord_27) ?_
    exact pEnd (r := (some (0, (x2 + 2)))) dX9_cutWord_28 ⟨_, rfl⟩ (k2 c2 τ2 e2 q2)
set_option maxRecDepth 100000 in
theorem g_X9_cutWord_35 {d : Nat} {σ : pS} {Q : Option pV → pS → Prop} {Q1 : Option pV → pS → Prop} {Q2 : Option pV → pS → Prop} {Q3 : Option pV → pS → Prop} {Q4 : Option pV → pS → Prop} {Q5 : Option pV → pS → Prop} {Q6 : Option pV → pS → Prop} (hd : 6 ≤ d) (hst : Stat σ) (x2 : Int) (x3 : Int) (x4 : Int) (x5 : Int)  (g1 : inR x4) (g2 : inR x3) (g3 : ∀ (c1 : x3 ≤ x4), inR (x4 - x2)) (f1 : ∀ (c1 : x3 ≤ x4) (c3 : (x4 - x2) ≤ 8), pC mX9_wordKind 5 [(1, x5)] σ Q1) (f2 : ∀ (c1 : x3 ≤ x4) (c3 : (x4 - x2) ≤ 8) (v1 : Int) (τ1 : pS) (e1 : pLe σ τ1) (q1 : Q1 (some (0, v1)) τ1), pC mX9_put 0 [(2, 2), (0, v1), (0, x2), (1, x5)] τ1 Q2) (k1 : ∀ (c1 : x3 ≤ x4) (c3 : (x4 - x2) ≤ 8) (v1 : Int) (τ1 : pS) (e1 : pLe σ τ1) (q1 : Q1 (some (0, v1)) τ1) (τ2 : pS) (e2 : pLe τ1 τ2) (q2 : Q2 none τ2), Q (some (0, x4)) τ2) (f3 : ∀ (c1 : x3 ≤ x4) (c4 : 8 < (x4 - x2)), pC mX9_put 0 [(2, 2), (0, 22), (0, x2), (1, x5)] σ Q3) (k2 : ∀ (c1 : x3 ≤ x4) (c4 : 8 < (x4 - x2)) (τ3 : pS) (e3 : pLe σ τ3) (q3 : Q3 none τ3), Q (some (0, x4)) τ3) (g4 : ∀ (c2 : x4 < x3), 0 ≤ x4 ∧ x4 < 1400) (f4 : ∀ (c2 : x4 < x3), pC mX9_isLetter 0 [(0, (rd σ 1 x4))] σ (fun r τ => r = some (0, b2i (vLet (rd σ 1 x4))) ∧ τ = σ)) (g5 : ∀ (c2 : x4 < x3) (c5 : (vLet (rd σ 1 x4)) = false), inR (x4 - x2)) (f5 : ∀ (c2 : x4 < x3) (c5 : (vLet (rd σ 1 x4)) = false) (c7 : (x4 - x2) ≤ 8), pC mX9_wordKind 5 [(1, x5)] σ Q4) (f6 : ∀ (c2 : x4 < x3) (c5 : (vLet (rd σ 1 x4)) = false) (c7 : (x4 - x2) ≤ 8) (v5 : Int) (τ5 : pS) (e5 : pLe σ τ5) (q5 : Q4 (some (0, v5)) τ5), pC mX9_put 0 [(2, 2), (0, v5), (0, x2), (1, x5)] τ5 Q5) (k3 : ∀ (c2 : x4 < x3) (c5 : (vLet (rd σ 1 x4)) = false) (c7 : (x4 - x2) ≤ 8) (v5 : Int) (τ5 : pS) (e5 : pLe σ τ5) (q5 : Q4 (some (0, v5)) τ5) (τ6 : pS) (e6 : pLe τ5 τ6) (q6 : Q5 none τ6), Q (some (0, x4)) τ6) (f7 : ∀ (c2 : x4 < x3) (c5 : (vLet (rd σ 1 x4)) = false) (c8 : 8 < (x4 - x2)), pC mX9_put 0 [(2, 2), (0, 22), (0, x2), (1, x5)] σ Q6) (k4 : ∀ (c2 : x4 < x3) (c5 : (vLet (rd σ 1 x4)) = false) (c8 : 8 < (x4 - x2)) (τ7 : pS) (e7 : pLe σ τ7) (q7 : Q6 none τ7), Q (some (0, x4)) τ7) (g6 : ∀ (c2 : x4 < x3) (c6 : (vLet (rd σ 1 x4)) = true), inR (rd σ 1 x4)) (k5 : ∀ (c2 : x4 < x3) (c6 : (vLet (rd σ 1 x4)) = true), pR mX9_cutWord d 35 [(2, 2), (2, 1), (0, x2), (0, x3), (0, (x4 + 1)), (1, ((((x5 * 32) + (rd σ 1 x4)) - 97) + 1)), (9, 0)] [] σ Q) : pR mX9_cutWord d 35 [(2, 2), (2, 1), (0, x2), (0, x3), (0, x4), (1, x5), (9, 0)] [] σ Q := by
  refine pGo (s_iload dX9_cutWord_35 rfl) ?_
  refine pGo (s_iload_n dX9_cutWord_37 rfl) ?_
  refine p_icge (tgt := 77) dX9_cutWord_38 (by decide) g1 g2 (fun c1 => ?_) (fun c2 => ?_)
  · refine pGo (s_aload_n dX9_cutWord_77 rfl (by decide)) ?_
    refine pGo (s_iload dX9_cutWord_78 rfl) ?_
    refine pGo (s_iload_n dX9_cutWord_80 rfl) ?_
    refine pGo (s_isub dX9_cutWord_81) ?_
    refine pGo (s_bipush dX9_cutWord_82 (by decide)) ?_
    refine p_icle (tgt := 92) dX9_cutWord_84 (by decide) (g3 c1) (by decide) (fun c3 => ?_) (fun c4 => ?_)
    · refine pGo (s_lload dX9_cutWord_92 rfl) ?_
      refine p_callS (As := [(1, x5)]) (st := [(2, 2)]) (n := 1) (d' := 5) (Q1 := Q1) ok_X9_wordKind ml_X9_84 sm_X9_wordKind dX9_cutWord_94 (pargs_of rfl) rfl (Nat.le_of_ble_eq_true rfl) (by omega) (f1 c1 c3) (fun r1 τ1 e1 q1 w1 => ?_)
      obtain ⟨v1, rfl⟩ := w1
      have S1 : Stat τ1 := (Stat.le (σ := σ) hst e1)
      show pR mX9_cutWord d 97 [(2, 2), (2, 1), (0, x2), (0, x3), (0, x4), (1, x5), (9, 0)] [(0, v1), (2, 2)] τ1 Q
      refine pGo (s_iload_n dX9_cutWord_97 rfl) ?_
      refine pGo (s_lload dX9_cutWord_98 rfl) ?_
      refine p_callV (As := [(0, v1), (0, x2), (1, x5)]) (st := []) (n := 3) (d' := 0) (Q1 := Q2) pc9 ok_X9_put ml_X9_39 im_X9_put se_X9_put dX9_cutWord_100 (ob_2 S1) (pargs_of rfl) rfl (Nat.le_of_ble_eq_true rfl) (by omega) (f2 c1 c3 v1 τ1 e1 q1) (fun r2 τ2 e2 q2 w2 => ?_)
      obtain rfl : r2 = none := w2
      have S2 : Stat τ2 := (Stat.le (σ := τ1) S1 e2)
      show pR mX9_cutWord d 103 [(2, 2), (2, 1), (0, x2), (0, x3), (0, x4), (1, x5), (9, 0)] [] τ2 Q
      refine pGo (s_iload dX9_cutWord_103 rfl) ?_
      exact pEnd (r := (some (0, x4))) dX9_cutWord_105 ⟨_, rfl⟩ (k1 c1 c3 v1 τ1 e1 q1 τ2 e2 q2)
    · refine pGo (s_bipush dX9_cutWord_87 (by decide)) ?_
      refine pGo (s_goto (tgt := 97) dX9_cutWord_89 (by decide)) ?_
      refine pGo (s_iload_n dX9_cutWord_97 rfl) ?_
      refine pGo (s_lload dX9_cutWord_98 rfl) ?_
      refine p_callV (As := [(0, 22), (0, x2), (1, x5)]) (st := []) (n := 3) (d' := 0) (Q1 := Q3) pc9 ok_X9_put ml_X9_39 im_X9_put se_X9_put dX9_cutWord_100 (ob_2 hst) (pargs_of rfl) rfl (Nat.le_of_ble_eq_true rfl) (by omega) (f3 c1 c4) (fun r3 τ3 e3 q3 w3 => ?_)
      obtain rfl : r3 = none := w3
      have S3 : Stat τ3 := (Stat.le (σ := σ) hst e3)
      show pR mX9_cutWord d 103 [(2, 2), (2, 1), (0, x2), (0, x3), (0, x4), (1, x5), (9, 0)] [] τ3 Q
      refine pGo (s_iload dX9_cutWord_103 rfl) ?_
      exact pEnd (r := (some (0, x4))) dX9_cutWord_105 ⟨_, rfl⟩ (k2 c1 c4 τ3 e3 q3)
  · refine pGo (s_aload_n dX9_cutWord_41 rfl (by decide)) ?_
    refine pGo (s_iload dX9_cutWord_42 rfl) ?_
    refine pGoE (y := (rd σ 1 x4)) (s_bald dX9_cutWord_44 (ob_1 hst) (bnd (g4 c2))) rfl ?_
    refine p_callS (As := [(0, (rd σ 1 x4))]) (st := []) (n := 1) (d' := 0) (Q1 := (fun r τ => r = some (0, b2i (vLet (rd σ 1 x4))) ∧ τ = σ)) ok_X9_isLetter ml_X9_61 sm_X9_isLetter dX9_cutWord_45 (pargs_of rfl) rfl (Nat.le_of_ble_eq_true rfl) (by omega) (f4 c2) (fun r4 τ4 e4 q4 w4 => ?_)
    obtain ⟨rfl, t4⟩ := q4
    rw [t4]
    show pR mX9_cutWord d 48 [(2, 2), (2, 1), (0, x2), (0, x3), (0, x4), (1, x5), (9, 0)] [(0, (b2i (vLet (rd σ 1 x4))))] σ Q
    refine p_ifeqB (tgt := 77) dX9_cutWord_48 (by decide) (fun c5 => ?_) (fun c6 => ?_)
    · refine pGo (s_aload_n dX9_cutWord_77 rfl (by decide)) ?_
      refine pGo (s_iload dX9_cutWord_78 rfl) ?_
      refine pGo (s_iload_n dX9_cutWord_80 rfl) ?_
      refine pGo (s_isub dX9_cutWord_81) ?_
      refine pGo (s_bipush dX9_cutWord_82 (by decide)) ?_
      refine p_icle (tgt := 92) dX9_cutWord_84 (by decide) (g5 c2 c5) (by decide) (fun c7 => ?_) (fun c8 => ?_)
      · refine pGo (s_lload dX9_cutWord_92 rfl) ?_
        refine p_callS (As := [(1, x5)]) (st := [(2, 2)]) (n := 1) (d' := 5) (Q1 := Q4) ok_X9_wordKind ml_X9_84 sm_X9_wordKind dX9_cutWord_94 (pargs_of rfl) rfl (Nat.le_of_ble_eq_true rfl) (by omega) (f5 c2 c5 c7) (fun r5 τ5 e5 q5 w5 => ?_)
        obtain ⟨v5, rfl⟩ := w5
        have S5 : Stat τ5 := (Stat.le (σ := σ) hst e5)
        show pR mX9_cutWord d 97 [(2, 2), (2, 1), (0, x2), (0, x3), (0, x4), (1, x5), (9, 0)] [(0, v5), (2, 2)] τ5 Q
        refine pGo (s_iload_n dX9_cutWord_97 rfl) ?_
        refine pGo (s_lload dX9_cutWord_98 rfl) ?_
        refine p_callV (As := [(0, v5), (0, x2), (1, x5)]) (st := []) (n := 3) (d' := 0) (Q1 := Q5) pc9 ok_X9_put ml_X9_39 im_X9_put se_X9_put dX9_cutWord_100 (ob_2 S5) (pargs_of rfl) rfl (Nat.le_of_ble_eq_true rfl) (by omega) (f6 c2 c5 c7 v5 τ5 e5 q5) (fun r6 τ6 e6 q6 w6 => ?_)
        obtain rfl : r6 = none := w6
        have S6 : Stat τ6 := (Stat.le (σ := τ5) S5 e6)
        show pR mX9_cutWord d 103 [(2, 2), (2, 1), (0, x2), (0, x3), (0, x4), (1, x5), (9, 0)] [] τ6 Q
        refine pGo (s_iload dX9_cutWord_103 rfl) ?_
        exact pEnd (r := (some (0, x4))) dX9_cutWord_105 ⟨_, rfl⟩ (k3 c2 c5 c7 v5 τ5 e5 q5 τ6 e6 q6)
      · refine pGo (s_bipush dX9_cutWord_87 (by decide)) ?_
        refine pGo (s_goto (tgt := 97) dX9_cutWord_89 (by decide)) ?_
        refine pGo (s_iload_n dX9_cutWord_97 rfl) ?_
        refine pGo (s_lload dX9_cutWord_98 rfl) ?_
        refine p_callV (As := [(0, 22), (0, x2), (1, x5)]) (st := []) (n := 3) (d' := 0) (Q1 := Q6) pc9 ok_X9_put ml_X9_39 im_X9_put se_X9_put dX9_cutWord_100 (ob_2 hst) (pargs_of rfl) rfl (Nat.le_of_ble_eq_true rfl) (by omega) (f7 c2 c5 c8) (fun r7 τ7 e7 q7 w7 => ?_)
        obtain rfl : r7 = none := w7
        have S7 : Stat τ7 := (Stat.le (σ := σ) hst e7)
        show pR mX9_cutWord d 103 [(2, 2), (2, 1), (0, x2), (0, x3), (0, x4), (1, x5), (9, 0)] [] τ7 Q
        refine pGo (s_iload dX9_cutWord_103 rfl) ?_
        exact pEnd (r := (some (0, x4))) dX9_cutWord_105 ⟨_, rfl⟩ (k4 c2 c5 c8 τ7 e7 q7)
    · refine pGo (s_lload dX9_cutWord_51 rfl) ?_
      refine pGo (s_ldc2 (n := 32) dX9_cutWord_53 kl_X9_80 (by decide)) ?_
      refine pGo (s_lmul dX9_cutWord_56) ?_
      refine pGo (s_aload_n dX9_cutWord_57 rfl (by decide)) ?_
      refine pGo (s_iload dX9_cutWord_58 rfl) ?_
      refine pGoE (y := (rd σ 1 x4)) (s_bald dX9_cutWord_60 (ob_1 hst) (bnd (g4 c2))) rfl ?_
      refine pGo (s_i2l dX9_cutWord_61 (g6 c2 c6)) ?_
      refine pGo (s_ladd dX9_cutWord_62) ?_
      refine pGo (s_ldc2 (n := 97) dX9_cutWord_63 kl_X9_82 (by decide)) ?_
      refine pGo (s_lsub dX9_cutWord_66) ?_
      refine pGo (s_lconst dX9_cutWord_67 (v := 1) (by decide)) ?_
      refine pGo (s_ladd dX9_cutWord_68) ?_
      refine pGoL (ls2 := [(2, 2), (2, 1), (0, x2), (0, x3), (0, x4), (1, ((((x5 * 32) + (rd σ 1 x4)) - 97) + 1)), (9, 0)]) (s_lstore dX9_cutWord_69 (by decide) rfl) rfl ?_
      refine pGoL (ls2 := [(2, 2), (2, 1), (0, x2), (0, x3), (0, (x4 + 1)), (1, ((((x5 * 32) + (rd σ 1 x4)) - 97) + 1)), (9, 0)]) (s_iinc dX9_cutWord_71 (by decide) rfl rfl) rfl ?_
      refine pGo (s_goto (tgt := 35) dX9_cutWord_74 (by decide)) ?_
      exact (k5 c2 c6)
set_option maxRecDepth 100000 in
theorem g_X9_cutOne_0 {d : Nat} {σ : pS} {Q : Option pV → pS → Prop} {Q1 : Option pV → pS → Prop} {Q2 : Option pV → pS → Prop} {Q3 : Option pV → pS → Prop} {Q4 : Option pV → pS → Prop} (hd : 8 ≤ d) (hst : Stat σ) (x2 : Int) (x3 : Int)  (g1 : 0 ≤ x2 ∧ x2 < 1400) (g2 : inR (rd σ 1 x2)) (k1 : ∀ (c1 : (rd σ 1 x2) = 32), Q (some (0, (x2 + 1))) σ) (f1 : ∀ (c2 : (rd σ 1 x2) ≠ 32) (c3 : (rd σ 1 x2) ≠ 10), pC mX9_isLetter 0 [(0, (rd σ 1 x2))] σ (fun r τ => r = some (0, b2i (vLet (rd σ 1 x2))) ∧ τ = σ)) (f2 : ∀ (c2 : (rd σ 1 x2) ≠ 32) (c3 : (rd σ 1 x2) ≠ 10) (c5 : (vLet (rd σ 1 x2)) = false), pC mX9_isDigit 0 [(0, (rd σ 1 x2))] σ (fun r τ => r = some (0, b2i (vDig (rd σ 1 x2))) ∧ τ = σ)) (f3 : ∀ (c2 : (rd σ 1 x2) ≠ 32) (c3 : (rd σ 1 x2) ≠ 10) (c5 : (vLet (rd σ 1 x2)) = false) (c7 : (vDig (rd σ 1 x2)) = false), pC mX9_isSign 7 [(0, (rd σ 1 x2))] σ (fun r τ => r = some (0, b2i (vSig (rd σ 1 x2))) ∧ τ = σ)) (f4 : ∀ (c2 : (rd σ 1 x2) ≠ 32) (c3 : (rd σ 1 x2) ≠ 10) (c5 : (vLet (rd σ 1 x2)) = false) (c7 : (vDig (rd σ 1 x2)) = false) (c9 : (vSig (rd σ 1 x2)) = false), pC mX9_put 0 [(2, 2), (0, 22), (0, x2), (1, 0)] σ Q1) (k2 : ∀ (c2 : (rd σ 1 x2) ≠ 32) (c3 : (rd σ 1 x2) ≠ 10) (c5 : (vLet (rd σ 1 x2)) = false) (c7 : (vDig (rd σ 1 x2)) = false) (c9 : (vSig (rd σ 1 x2)) = false) (τ4 : pS) (e4 : pLe σ τ4) (q4 : Q1 none τ4), Q (some (0, (x2 + 1))) τ4) (f5 : ∀ (c2 : (rd σ 1 x2) ≠ 32) (c3 : (rd σ 1 x2) ≠ 10) (c5 : (vLet (rd σ 1 x2)) = false) (c7 : (vDig (rd σ 1 x2)) = false) (c10 : (vSig (rd σ 1 x2)) = true), pC mX9_put 0 [(2, 2), (0, (rd σ 1 x2)), (0, x2), (1, 0)] σ Q2) (k3 : ∀ (c2 : (rd σ 1 x2) ≠ 32) (c3 : (rd σ 1 x2) ≠ 10) (c5 : (vLet (rd σ 1 x2)) = false) (c7 : (vDig (rd σ 1 x2)) = false) (c10 : (vSig (rd σ 1 x2)) = true) (τ5 : pS) (e5 : pLe σ τ5) (q5 : Q2 none τ5), Q (some (0, (x2 + 1))) τ5) (f6 : ∀ (c2 : (rd σ 1 x2) ≠ 32) (c3 : (rd σ 1 x2) ≠ 10) (c5 : (vLet (rd σ 1 x2)) = false) (c8 : (vDig (rd σ 1 x2)) = true), pC mX9_cutNumber 1 [(2, 2), (2, 1), (0, x2), (0, x3)] σ Q3) (k4 : ∀ (c2 : (rd σ 1 x2) ≠ 32) (c3 : (rd σ 1 x2) ≠ 10) (c5 : (vLet (rd σ 1 x2)) = false) (c8 : (vDig (rd σ 1 x2)) = true) (v6 : Int) (τ6 : pS) (e6 : pLe σ τ6) (q6 : Q3 (some (0, v6)) τ6), Q (some (0, v6)) τ6) (f7 : ∀ (c2 : (rd σ 1 x2) ≠ 32) (c3 : (rd σ 1 x2) ≠ 10) (c6 : (vLet (rd σ 1 x2)) = true), pC mX9_cutWord 6 [(2, 2), (2, 1), (0, x2), (0, x3)] σ Q4) (k5 : ∀ (c2 : (rd σ 1 x2) ≠ 32) (c3 : (rd σ 1 x2) ≠ 10) (c6 : (vLet (rd σ 1 x2)) = true) (v7 : Int) (τ7 : pS) (e7 : pLe σ τ7) (q7 : Q4 (some (0, v7)) τ7), Q (some (0, v7)) τ7) (k6 : ∀ (c2 : (rd σ 1 x2) ≠ 32) (c4 : (rd σ 1 x2) = 10), Q (some (0, (x2 + 1))) σ) : pC mX9_cutOne d [(2, 2), (2, 1), (0, x2), (0, x3)] σ Q := by
  show pR mX9_cutOne d 0 [(2, 2), (2, 1), (0, x2), (0, x3), (9, 0)] [] σ Q
  refine pGo (s_aload_n dX9_cutOne_0 rfl (by decide)) ?_
  refine pGo (s_iload_n dX9_cutOne_1 rfl) ?_
  refine pGoE (y := (rd σ 1 x2)) (s_bald dX9_cutOne_2 (ob_1 hst) (bnd g1)) rfl ?_
  refine pGoL (ls2 := [(2, 2), (2, 1), (0, x2), (0, x3), (0, (rd σ 1 x2))]) (s_istore dX9_cutOne_3 (by decide) rfl) rfl ?_
  refine pGo (s_iload dX9_cutOne_5 rfl) ?_
  refine pGo (s_bipush dX9_cutOne_7 (by decide)) ?_
  refine p_iceq (tgt := 19) dX9_cutOne_9 (by decide) g2 (by decide) (fun c1 => ?_) (fun c2 => ?_)
  · refine pGo (s_iload_n dX9_cutOne_19 rfl) ?_
    refine pGo (s_iconst dX9_cutOne_20) ?_
    refine pGo (s_iadd dX9_cutOne_21) ?_
    exact pEnd (r := (some (0, (x2 + 1)))) dX9_cutOne_22 ⟨_, rfl⟩ (k1 c1)
  · refine pGo (s_iload dX9_cutOne_12 rfl) ?_
    refine pGo (s_bipush dX9_cutOne_14 (by decide)) ?_
    refine p_icne (tgt := 23) dX9_cutOne_16 (by decide) g2 (by decide) (fun c3 => ?_) (fun c4 => ?_)
    · refine pGo (s_iload dX9_cutOne_23 rfl) ?_
      refine p_callS (As := [(0, (rd σ 1 x2))]) (st := []) (n := 1) (d' := 0) (Q1 := (fun r τ => r = some (0, b2i (vLet (rd σ 1 x2))) ∧ τ = σ)) ok_X9_isLetter ml_X9_61 sm_X9_isLetter dX9_cutOne_25 (pargs_of rfl) rfl (Nat.le_of_ble_eq_true rfl) (by omega) (f1 c2 c3) (fun r1 τ1 e1 q1 w1 => ?_)
      obtain ⟨rfl, t1⟩ := q1
      rw [t1]
      show pR mX9_cutOne d 28 [(2, 2), (2, 1), (0, x2), (0, x3), (0, (rd σ 1 x2))] [(0, (b2i (vLet (rd σ 1 x2))))] σ Q
      refine p_ifeqB (tgt := 39) dX9_cutOne_28 (by decide) (fun c5 => ?_) (fun c6 => ?_)
      · refine pGo (s_iload dX9_cutOne_39 rfl) ?_
        refine p_callS (As := [(0, (rd σ 1 x2))]) (st := []) (n := 1) (d' := 0) (Q1 := (fun r τ => r = some (0, b2i (vDig (rd σ 1 x2))) ∧ τ = σ)) ok_X9_isDigit ml_X9_67 sm_X9_isDigit dX9_cutOne_41 (pargs_of rfl) rfl (Nat.le_of_ble_eq_true rfl) (by omega) (f2 c2 c3 c5) (fun r2 τ2 e2 q2 w2 => ?_)
        obtain ⟨rfl, t2⟩ := q2
        rw [t2]
        show pR mX9_cutOne d 44 [(2, 2), (2, 1), (0, x2), (0, x3), (0, (rd σ 1 x2))] [(0, (b2i (vDig (rd σ 1 x2))))] σ Q
        refine p_ifeqB (tgt := 55) dX9_cutOne_44 (by decide) (fun c7 => ?_) (fun c8 => ?_)
        · refine pGo (s_aload_n dX9_cutOne_55 rfl (by decide)) ?_
          refine pGo (s_iload dX9_cutOne_56 rfl) ?_
          refine p_callS (As := [(0, (rd σ 1 x2))]) (st := [(2, 2)]) (n := 1) (d' := 7) (Q1 := (fun r τ => r = some (0, b2i (vSig (rd σ 1 x2))) ∧ τ = σ)) ok_X9_isSign ml_X9_73 sm_X9_isSign dX9_cutOne_58 (pargs_of rfl) rfl (Nat.le_of_ble_eq_true rfl) (by omega) (f3 c2 c3 c5 c7) (fun r3 τ3 e3 q3 w3 => ?_)
          obtain ⟨rfl, t3⟩ := q3
          rw [t3]
          show pR mX9_cutOne d 61 [(2, 2), (2, 1), (0, x2), (0, x3), (0, (rd σ 1 x2))] [(0, (b2i (vSig (rd σ 1 x2)))), (2, 2)] σ Q
          refine p_ifeqB (tgt := 69) dX9_cutOne_61 (by decide) (fun c9 => ?_) (fun c10 => ?_)
          · refine pGo (s_bipush dX9_cutOne_69 (by decide)) ?_
            refine pGo (s_iload_n dX9_cutOne_71 rfl) ?_
            refine pGo (s_lconst dX9_cutOne_72 (v := 0) (by decide)) ?_
            refine p_callV (As := [(0, 22), (0, x2), (1, 0)]) (st := []) (n := 3) (d' := 0) (Q1 := Q1) pc9 ok_X9_put ml_X9_39 im_X9_put se_X9_put dX9_cutOne_73 (ob_2 hst) (pargs_of rfl) rfl (Nat.le_of_ble_eq_true rfl) (by omega) (f4 c2 c3 c5 c7 c9) (fun r4 τ4 e4 q4 w4 => ?_)
            obtain rfl : r4 = none := w4
            have S4 : Stat τ4 := (Stat.le (σ := σ) hst e4)
            show pR mX9_cutOne d 76 [(2, 2), (2, 1), (0, x2), (0, x3), (0, (rd σ 1 x2))] [] τ4 Q
            refine pGo (s_iload_n dX9_cutOne_76 rfl) ?_
            refine pGo (s_iconst dX9_cutOne_77) ?_
            refine pGo (s_iadd dX9_cutOne_78) ?_
            exact pEnd (r := (some (0, (x2 + 1)))) dX9_cutOne_79 ⟨_, rfl⟩ (k2 c2 c3 c5 c7 c9 τ4 e4 q4)
          · refine pGo (s_iload dX9_cutOne_64 rfl) ?_
            refine pGo (s_goto (tgt := 71) dX9_cutOne_66 (by decide)) ?_
            refine pGo (s_iload_n dX9_cutOne_71 rfl) ?_
            refine pGo (s_lconst dX9_cutOne_72 (v := 0) (by decide)) ?_
            refine p_callV (As := [(0, (rd σ 1 x2)), (0, x2), (1, 0)]) (st := []) (n := 3) (d' := 0) (Q1 := Q2) pc9 ok_X9_put ml_X9_39 im_X9_put se_X9_put dX9_cutOne_73 (ob_2 hst) (pargs_of rfl) rfl (Nat.le_of_ble_eq_true rfl) (by omega) (f5 c2 c3 c5 c7 c10) (fun r5 τ5 e5 q5 w5 => ?_)
            obtain rfl : r5 = none := w5
            have S5 : Stat τ5 := (Stat.le (σ := σ) hst e5)
            show pR mX9_cutOne d 76 [(2, 2), (2, 1), (0, x2), (0, x3), (0, (rd σ 1 x2))] [] τ5 Q
            refine pGo (s_iload_n dX9_cutOne_76 rfl) ?_
            refine pGo (s_iconst dX9_cutOne_77) ?_
            refine pGo (s_iadd dX9_cutOne_78) ?_
            exact pEnd (r := (some (0, (x2 + 1)))) dX9_cutOne_79 ⟨_, rfl⟩ (k3 c2 c3 c5 c7 c10 τ5 e5 q5)
        · refine pGo (s_aload_n dX9_cutOne_47 rfl (by decide)) ?_
          refine pGo (s_aload_n dX9_cutOne_48 rfl (by decide)) ?_
          refine pGo (s_iload_n dX9_cutOne_49 rfl) ?_
          refine pGo (s_iload_n dX9_cutOne_50 rfl) ?_
          refine p_callV (As := [(2, 1), (0, x2), (0, x3)]) (st := []) (n := 3) (d' := 1) (Q1 := Q3) pc9 ok_X9_cutNumber ml_X9_70 im_X9_cutNumber se_X9_cutNumber dX9_cutOne_51 (ob_2 hst) (pargs_of rfl) rfl (Nat.le_of_ble_eq_true rfl) (by omega) (f6 c2 c3 c5 c8) (fun r6 τ6 e6 q6 w6 => ?_)
          obtain ⟨v6, rfl⟩ := w6
          have S6 : Stat τ6 := (Stat.le (σ := σ) hst e6)
          show pR mX9_cutOne d 54 [(2, 2), (2, 1), (0, x2), (0, x3), (0, (rd σ 1 x2))] [(0, v6)] τ6 Q
          exact pEnd (r := (some (0, v6))) dX9_cutOne_54 ⟨_, rfl⟩ (k4 c2 c3 c5 c8 v6 τ6 e6 q6)
      · refine pGo (s_aload_n dX9_cutOne_31 rfl (by decide)) ?_
        refine pGo (s_aload_n dX9_cutOne_32 rfl (by decide)) ?_
        refine pGo (s_iload_n dX9_cutOne_33 rfl) ?_
        refine pGo (s_iload_n dX9_cutOne_34 rfl) ?_
        refine p_callV (As := [(2, 1), (0, x2), (0, x3)]) (st := []) (n := 3) (d' := 6) (Q1 := Q4) pc9 ok_X9_cutWord ml_X9_64 im_X9_cutWord se_X9_cutWord dX9_cutOne_35 (ob_2 hst) (pargs_of rfl) rfl (Nat.le_of_ble_eq_true rfl) (by omega) (f7 c2 c3 c6) (fun r7 τ7 e7 q7 w7 => ?_)
        obtain ⟨v7, rfl⟩ := w7
        have S7 : Stat τ7 := (Stat.le (σ := σ) hst e7)
        show pR mX9_cutOne d 38 [(2, 2), (2, 1), (0, x2), (0, x3), (0, (rd σ 1 x2))] [(0, v7)] τ7 Q
        exact pEnd (r := (some (0, v7))) dX9_cutOne_38 ⟨_, rfl⟩ (k5 c2 c3 c6 v7 τ7 e7 q7)
    · refine pGo (s_iload_n dX9_cutOne_19 rfl) ?_
      refine pGo (s_iconst dX9_cutOne_20) ?_
      refine pGo (s_iadd dX9_cutOne_21) ?_
      exact pEnd (r := (some (0, (x2 + 1)))) dX9_cutOne_22 ⟨_, rfl⟩ (k6 c2 c4)
set_option maxRecDepth 100000 in
theorem g_X9_cut_0 {d : Nat} {σ : pS} {Q : Option pV → pS → Prop} (hd : 9 ≤ d) (hst : Stat σ) (x2 : Int)  (k1 : pR mX9_cut d 25 [(2, 2), (2, 1), (0, x2), (0, 0), (0, 0)] [] (wr (wr (wr (wr σ 2 3 0) 2 4 0) 2 5 0) 2 6 (-1)) Q) : pC mX9_cut d [(2, 2), (2, 1), (0, x2)] σ Q := by
  show pR mX9_cut d 0 [(2, 2), (2, 1), (0, x2), (9, 0), (9, 0)] [] σ Q
  refine pGo (s_aload_n dX9_cut_0 rfl (by decide)) ?_
  refine pGo (s_iconst dX9_cut_1) ?_
  refine pGo (s_putI pc9 fl_X9_26 dX9_cut_2 (ob_2 hst) rfl rfl rfl rfl) ?_
  refine pGo (s_aload_n dX9_cut_5 rfl (by decide)) ?_
  refine pGo (s_iconst dX9_cut_6) ?_
  refine pGo (s_putI pc9 fl_X9_29 dX9_cut_7 (ob_2 hst) rfl rfl rfl rfl) ?_
  refine pGo (s_aload_n dX9_cut_10 rfl (by decide)) ?_
  refine pGo (s_iconst dX9_cut_11) ?_
  refine pGo (s_putI pc9 fl_X9_32 dX9_cut_12 (ob_2 hst) rfl rfl rfl rfl) ?_
  refine pGo (s_aload_n dX9_cut_15 rfl (by decide)) ?_
  refine pGo (s_iconst dX9_cut_16) ?_
  refine pGo (s_putI pc9 fl_X9_22 dX9_cut_17 (ob_2 hst) rfl rfl rfl rfl) ?_
  refine pGo (s_iconst dX9_cut_20) ?_
  refine pGoL (ls2 := [(2, 2), (2, 1), (0, x2), (0, 0), (9, 0)]) (s_istore_n dX9_cut_21 (by decide) rfl) rfl ?_
  refine pGo (s_iconst dX9_cut_22) ?_
  refine pGoL (ls2 := [(2, 2), (2, 1), (0, x2), (0, 0), (0, 0)]) (s_istore dX9_cut_23 (by decide) rfl) rfl ?_
  exact k1
set_option maxRecDepth 100000 in
theorem g_X9_cut_25 {d : Nat} {σ : pS} {Q : Option pV → pS → Prop} {Q1 : Option pV → pS → Prop} {Q2 : Option pV → pS → Prop} {Q3 : Option pV → pS → Prop} (hd : 9 ≤ d) (hst : Stat σ) (x2 : Int) (x3 : Int) (x4 : Int)  (g1 : inR x4) (g2 : inR x2) (f1 : ∀ (c1 : x2 ≤ x4), pC mX9_put 0 [(2, 2), (0, 21), (0, x2), (1, 0)] σ Q1) (k1 : ∀ (c1 : x2 ≤ x4) (τ1 : pS) (e1 : pLe σ τ1) (q1 : Q1 none τ1), Q none τ1) (g3 : ∀ (c2 : x4 < x2), inR x3) (f2 : ∀ (c2 : x4 < x2) (c3 : x2 ≤ x3), pC mX9_put 0 [(2, 2), (0, 21), (0, x2), (1, 0)] σ Q2) (k2 : ∀ (c2 : x4 < x2) (c3 : x2 ≤ x3) (τ2 : pS) (e2 : pLe σ τ2) (q2 : Q2 none τ2), Q none τ2) (f3 : ∀ (c2 : x4 < x2) (c4 : x3 < x2), pC mX9_cutOne 8 [(2, 2), (2, 1), (0, x3), (0, x2)] σ Q3) (k3 : ∀ (c2 : x4 < x2) (c4 : x3 < x2) (v3 : Int) (τ3 : pS) (e3 : pLe σ τ3) (q3 : Q3 (some (0, v3)) τ3), pR mX9_cut d 25 [(2, 2), (2, 1), (0, x2), (0, v3), (0, (x4 + 1))] [] τ3 Q) : pR mX9_cut d 25 [(2, 2), (2, 1), (0, x2), (0, x3), (0, x4)] [] σ Q := by
  refine pGo (s_iload dX9_cut_25 rfl) ?_
  refine pGo (s_iload_n dX9_cut_27 rfl) ?_
  refine p_icge (tgt := 50) dX9_cut_28 (by decide) g1 g2 (fun c1 => ?_) (fun c2 => ?_)
  · refine pGo (s_aload_n dX9_cut_50 rfl (by decide)) ?_
    refine pGo (s_bipush dX9_cut_51 (by decide)) ?_
    refine pGo (s_iload_n dX9_cut_53 rfl) ?_
    refine pGo (s_lconst dX9_cut_54 (v := 0) (by decide)) ?_
    refine p_callV (As := [(0, 21), (0, x2), (1, 0)]) (st := []) (n := 3) (d' := 0) (Q1 := Q1) pc9 ok_X9_put ml_X9_39 im_X9_put se_X9_put dX9_cut_55 (ob_2 hst) (pargs_of rfl) rfl (Nat.le_of_ble_eq_true rfl) (by omega) (f1 c1) (fun r1 τ1 e1 q1 w1 => ?_)
    obtain rfl : r1 = none := w1
    have S1 : Stat τ1 := (Stat.le (σ := σ) hst e1)
    show pR mX9_cut d 58 [(2, 2), (2, 1), (0, x2), (0, x3), (0, x4)] [] τ1 Q
    exact pEnd (r := none) dX9_cut_58 rfl (k1 c1 τ1 e1 q1)
  · refine pGo (s_iload_n dX9_cut_31 rfl) ?_
    refine pGo (s_iload_n dX9_cut_32 rfl) ?_
    refine p_icge (tgt := 50) dX9_cut_33 (by decide) (g3 c2) g2 (fun c3 => ?_) (fun c4 => ?_)
    · refine pGo (s_aload_n dX9_cut_50 rfl (by decide)) ?_
      refine pGo (s_bipush dX9_cut_51 (by decide)) ?_
      refine pGo (s_iload_n dX9_cut_53 rfl) ?_
      refine pGo (s_lconst dX9_cut_54 (v := 0) (by decide)) ?_
      refine p_callV (As := [(0, 21), (0, x2), (1, 0)]) (st := []) (n := 3) (d' := 0) (Q1 := Q2) pc9 ok_X9_put ml_X9_39 im_X9_put se_X9_put dX9_cut_55 (ob_2 hst) (pargs_of rfl) rfl (Nat.le_of_ble_eq_true rfl) (by omega) (f2 c2 c3) (fun r2 τ2 e2 q2 w2 => ?_)
      obtain rfl : r2 = none := w2
      have S2 : Stat τ2 := (Stat.le (σ := σ) hst e2)
      show pR mX9_cut d 58 [(2, 2), (2, 1), (0, x2), (0, x3), (0, x4)] [] τ2 Q
      exact pEnd (r := none) dX9_cut_58 rfl (k2 c2 c3 τ2 e2 q2)
    · refine pGo (s_aload_n dX9_cut_36 rfl (by decide)) ?_
      refine pGo (s_aload_n dX9_cut_37 rfl (by decide)) ?_
      refine pGo (s_iload_n dX9_cut_38 rfl) ?_
      refine pGo (s_iload_n dX9_cut_39 rfl) ?_
      refine p_callV (As := [(2, 1), (0, x3), (0, x2)]) (st := []) (n := 3) (d' := 8) (Q1 := Q3) pc9 ok_X9_cutOne ml_X9_35 im_X9_cutOne se_X9_cutOne dX9_cut_40 (ob_2 hst) (pargs_of rfl) rfl (Nat.le_of_ble_eq_true rfl) (by omega) (f3 c2 c4) (fun r3 τ3 e3 q3 w3 => ?_)
      obtain ⟨v3, rfl⟩ := w3
      have S3 : Stat τ3 := (Stat.le (σ := σ) hst e3)
      show pR mX9_cut d 43 [(2, 2), (2, 1), (0, x2), (0, x3), (0, x4)] [(0, v3)] τ3 Q
      refine pGoL (ls2 := [(2, 2), (2, 1), (0, x2), (0, v3), (0, x4)]) (s_istore_n dX9_cut_43 (by decide) rfl) rfl ?_
      refine pGoL (ls2 := [(2, 2), (2, 1), (0, x2), (0, v3), (0, (x4 + 1))]) (s_iinc dX9_cut_44 (by decide) rfl rfl) rfl ?_
      refine pGo (s_goto (tgt := 25) dX9_cut_47 (by decide)) ?_
      exact (k3 c2 c4 v3 τ3 e3 q3)
set_option maxRecDepth 100000 in
theorem g_X9_fail_0 {d : Nat} {σ : pS} {Q : Option pV → pS → Prop} (hd : 0 ≤ d) (hst : Stat σ) (x1 : Int)  (g1 : inR (rd σ 2 5)) (k1 : ∀ (c1 : (rd σ 2 5) ≠ 0), Q (some (0, 0)) σ) (g2 : ∀ (c2 : (rd σ 2 5) = 0), inR (rd σ 2 4)) (g3 : ∀ (c2 : (rd σ 2 5) = 0), inR (rd σ 2 3)) (k2 : ∀ (c2 : (rd σ 2 5) = 0) (c3 : (rd σ 2 3) ≤ (rd σ 2 4)) (c5 : (rd σ 2 3) ≤ (rd σ 2 4)), Q (some (0, 0)) (wr (wr σ 2 5 x1) 2 6 (-1))) (g4 : ∀ (c2 : (rd σ 2 5) = 0) (c3 : (rd σ 2 3) ≤ (rd σ 2 4)) (c6 : (rd σ 2 4) < (rd σ 2 3)), 0 ≤ (rd σ 2 4) ∧ (rd σ 2 4) < 1401) (k3 : ∀ (c2 : (rd σ 2 5) = 0) (c3 : (rd σ 2 3) ≤ (rd σ 2 4)) (c6 : (rd σ 2 4) < (rd σ 2 3)), Q (some (0, 0)) (wr (wr σ 2 5 x1) 2 6 (rd σ 4 (rd σ 2 4)))) (g5 : ∀ (c2 : (rd σ 2 5) = 0) (c4 : (rd σ 2 4) < (rd σ 2 3)), 0 ≤ (rd σ 2 4) ∧ (rd σ 2 4) < 1401) (g6 : ∀ (c2 : (rd σ 2 5) = 0) (c4 : (rd σ 2 4) < (rd σ 2 3)), inR (rd σ 3 (rd σ 2 4))) (k4 : ∀ (c2 : (rd σ 2 5) = 0) (c4 : (rd σ 2 4) < (rd σ 2 3)) (c7 : (rd σ 3 (rd σ 2 4)) ≠ 22) (c9 : (rd σ 2 3) ≤ (rd σ 2 4)), Q (some (0, 0)) (wr (wr σ 2 5 x1) 2 6 (-1))) (k5 : ∀ (c2 : (rd σ 2 5) = 0) (c4 : (rd σ 2 4) < (rd σ 2 3)) (c7 : (rd σ 3 (rd σ 2 4)) ≠ 22) (c10 : (rd σ 2 4) < (rd σ 2 3)), Q (some (0, 0)) (wr (wr σ 2 5 x1) 2 6 (rd σ 4 (rd σ 2 4)))) (k6 : ∀ (c2 : (rd σ 2 5) = 0) (c4 : (rd σ 2 4) < (rd σ 2 3)) (c8 : (rd σ 3 (rd σ 2 4)) = 22) (c11 : (rd σ 2 3) ≤ (rd σ 2 4)), Q (some (0, 0)) (wr (wr σ 2 5 1) 2 6 (-1))) (k7 : ∀ (c2 : (rd σ 2 5) = 0) (c4 : (rd σ 2 4) < (rd σ 2 3)) (c8 : (rd σ 3 (rd σ 2 4)) = 22) (c12 : (rd σ 2 4) < (rd σ 2 3)), Q (some (0, 0)) (wr (wr σ 2 5 1) 2 6 (rd σ 4 (rd σ 2 4)))) : pC mX9_fail d [(2, 2), (0, x1)] σ Q := by
  show pR mX9_fail d 0 [(2, 2), (0, x1), (9, 0)] [] σ Q
  refine pGo (s_aload_n dX9_fail_0 rfl (by decide)) ?_
  refine pGoE (y := (rd σ 2 5)) (s_getI pc9 fl_X9_32 dX9_fail_1 (ob_2 hst) rfl (by decide)) rfl ?_
  refine p_ifne (tgt := 79) dX9_fail_4 (by decide) g1 (fun c1 => ?_) (fun c2 => ?_)
  · refine pGo (s_iconst dX9_fail_79) ?_
    exact pEnd (r := (some (0, 0))) dX9_fail_80 (Or.inl rfl) (k1 c1)
  · refine pGo (s_aload_n dX9_fail_7 rfl (by decide)) ?_
    refine pGoE (y := (rd σ 2 4)) (s_getI pc9 fl_X9_29 dX9_fail_8 (ob_2 hst) rfl (by decide)) rfl ?_
    refine pGo (s_aload_n dX9_fail_11 rfl (by decide)) ?_
    refine pGoE (y := (rd σ 2 3)) (s_getI pc9 fl_X9_26 dX9_fail_12 (ob_2 hst) rfl (by decide)) rfl ?_
    refine p_icge (tgt := 36) dX9_fail_15 (by decide) (g2 c2) (g3 c2) (fun c3 => ?_) (fun c4 => ?_)
    · refine pGo (s_iconst dX9_fail_36) ?_
      refine pGoL (ls2 := [(2, 2), (0, x1), (0, 0)]) (s_istore_n dX9_fail_37 (by decide) rfl) rfl ?_
      refine pGo (s_aload_n dX9_fail_38 rfl (by decide)) ?_
      refine pGo (s_iload_n dX9_fail_39 rfl) ?_
      refine p_ifeq (tgt := 47) dX9_fail_40 (by decide) (by decide) (fun _ => ?_) (fun q => absurd q (by decide))
      refine pGo (s_iload_n dX9_fail_47 rfl) ?_
      refine pGo (s_putI pc9 fl_X9_32 dX9_fail_48 (ob_2 hst) rfl rfl rfl rfl) ?_
      refine pGo (s_aload_n dX9_fail_51 rfl (by decide)) ?_
      refine pGo (s_aload_n dX9_fail_52 rfl (by decide)) ?_
      refine pGoE (y := (rd σ 2 4)) (s_getI pc9 fl_X9_29 dX9_fail_53 (ob_2 hst) rfl (by decide)) (rd_wr_i _ (by decide)) ?_
      refine pGo (s_aload_n dX9_fail_56 rfl (by decide)) ?_
      refine pGoE (y := (rd σ 2 3)) (s_getI pc9 fl_X9_26 dX9_fail_57 (ob_2 hst) rfl (by decide)) (rd_wr_i _ (by decide)) ?_
      refine p_icge (tgt := 75) dX9_fail_60 (by decide) (g2 c2) (g3 c2) (fun c5 => ?_) (fun c6 => ?_)
      · refine pGo (s_iconst dX9_fail_75) ?_
        refine pGo (s_putI pc9 fl_X9_22 dX9_fail_76 (ob_2 hst) rfl rfl rfl rfl) ?_
        refine pGo (s_iconst dX9_fail_79) ?_
        exact pEnd (r := (some (0, 0))) dX9_fail_80 (Or.inl rfl) (k2 c2 c3 c5)
      · refine pGo (s_aload_n dX9_fail_63 rfl (by decide)) ?_
        refine pGoE (y := 4) (s_getF pc9 fl_X9_15 dX9_fail_64 (ob_2 hst) rfl (by decide)) (by decide) ?_
        refine pGo (s_aload_n dX9_fail_67 rfl (by decide)) ?_
        refine pGoE (y := (rd σ 2 4)) (s_getI pc9 fl_X9_29 dX9_fail_68 (ob_2 hst) rfl (by decide)) (rd_wr_i _ (by decide)) ?_
        refine pGoE (y := (rd σ 4 (rd σ 2 4))) (s_iald dX9_fail_71 (ob_4 hst) (bnd (g4 c2 c3 c6))) (rd_wr_a _ (by decide)) ?_
        refine pGo (s_goto (tgt := 76) dX9_fail_72 (by decide)) ?_
        refine pGo (s_putI pc9 fl_X9_22 dX9_fail_76 (ob_2 hst) rfl rfl rfl rfl) ?_
        refine pGo (s_iconst dX9_fail_79) ?_
        exact pEnd (r := (some (0, 0))) dX9_fail_80 (Or.inl rfl) (k3 c2 c3 c6)
    · refine pGo (s_aload_n dX9_fail_18 rfl (by decide)) ?_
      refine pGoE (y := 3) (s_getF pc9 fl_X9_9 dX9_fail_19 (ob_2 hst) rfl (by decide)) (by decide) ?_
      refine pGo (s_aload_n dX9_fail_22 rfl (by decide)) ?_
      refine pGoE (y := (rd σ 2 4)) (s_getI pc9 fl_X9_29 dX9_fail_23 (ob_2 hst) rfl (by decide)) rfl ?_
      refine pGoE (y := (rd σ 3 (rd σ 2 4))) (s_iald dX9_fail_26 (ob_3 hst) (bnd (g5 c2 c4))) rfl ?_
      refine pGo (s_bipush dX9_fail_27 (by decide)) ?_
      refine p_icne (tgt := 36) dX9_fail_29 (by decide) (g6 c2 c4) (by decide) (fun c7 => ?_) (fun c8 => ?_)
      · refine pGo (s_iconst dX9_fail_36) ?_
        refine pGoL (ls2 := [(2, 2), (0, x1), (0, 0)]) (s_istore_n dX9_fail_37 (by decide) rfl) rfl ?_
        refine pGo (s_aload_n dX9_fail_38 rfl (by decide)) ?_
        refine pGo (s_iload_n dX9_fail_39 rfl) ?_
        refine p_ifeq (tgt := 47) dX9_fail_40 (by decide) (by decide) (fun _ => ?_) (fun q => absurd q (by decide))
        refine pGo (s_iload_n dX9_fail_47 rfl) ?_
        refine pGo (s_putI pc9 fl_X9_32 dX9_fail_48 (ob_2 hst) rfl rfl rfl rfl) ?_
        refine pGo (s_aload_n dX9_fail_51 rfl (by decide)) ?_
        refine pGo (s_aload_n dX9_fail_52 rfl (by decide)) ?_
        refine pGoE (y := (rd σ 2 4)) (s_getI pc9 fl_X9_29 dX9_fail_53 (ob_2 hst) rfl (by decide)) (rd_wr_i _ (by decide)) ?_
        refine pGo (s_aload_n dX9_fail_56 rfl (by decide)) ?_
        refine pGoE (y := (rd σ 2 3)) (s_getI pc9 fl_X9_26 dX9_fail_57 (ob_2 hst) rfl (by decide)) (rd_wr_i _ (by decide)) ?_
        refine p_icge (tgt := 75) dX9_fail_60 (by decide) (g2 c2) (g3 c2) (fun c9 => ?_) (fun c10 => ?_)
        · refine pGo (s_iconst dX9_fail_75) ?_
          refine pGo (s_putI pc9 fl_X9_22 dX9_fail_76 (ob_2 hst) rfl rfl rfl rfl) ?_
          refine pGo (s_iconst dX9_fail_79) ?_
          exact pEnd (r := (some (0, 0))) dX9_fail_80 (Or.inl rfl) (k4 c2 c4 c7 c9)
        · refine pGo (s_aload_n dX9_fail_63 rfl (by decide)) ?_
          refine pGoE (y := 4) (s_getF pc9 fl_X9_15 dX9_fail_64 (ob_2 hst) rfl (by decide)) (by decide) ?_
          refine pGo (s_aload_n dX9_fail_67 rfl (by decide)) ?_
          refine pGoE (y := (rd σ 2 4)) (s_getI pc9 fl_X9_29 dX9_fail_68 (ob_2 hst) rfl (by decide)) (rd_wr_i _ (by decide)) ?_
          refine pGoE (y := (rd σ 4 (rd σ 2 4))) (s_iald dX9_fail_71 (ob_4 hst) (bnd (g5 c2 c4))) (rd_wr_a _ (by decide)) ?_
          refine pGo (s_goto (tgt := 76) dX9_fail_72 (by decide)) ?_
          refine pGo (s_putI pc9 fl_X9_22 dX9_fail_76 (ob_2 hst) rfl rfl rfl rfl) ?_
          refine pGo (s_iconst dX9_fail_79) ?_
          exact pEnd (r := (some (0, 0))) dX9_fail_80 (Or.inl rfl) (k5 c2 c4 c7 c10)
      · refine pGo (s_iconst dX9_fail_32) ?_
        refine pGo (s_goto (tgt := 37) dX9_fail_33 (by decide)) ?_
        refine pGoL (ls2 := [(2, 2), (0, x1), (0, 1)]) (s_istore_n dX9_fail_37 (by decide) rfl) rfl ?_
        refine pGo (s_aload_n dX9_fail_38 rfl (by decide)) ?_
        refine pGo (s_iload_n dX9_fail_39 rfl) ?_
        refine p_ifeq (tgt := 47) dX9_fail_40 (by decide) (by decide) (fun q => absurd q (by decide)) (fun _ => ?_)
        refine pGo (s_iconst dX9_fail_43) ?_
        refine pGo (s_goto (tgt := 48) dX9_fail_44 (by decide)) ?_
        refine pGo (s_putI pc9 fl_X9_32 dX9_fail_48 (ob_2 hst) rfl rfl rfl rfl) ?_
        refine pGo (s_aload_n dX9_fail_51 rfl (by decide)) ?_
        refine pGo (s_aload_n dX9_fail_52 rfl (by decide)) ?_
        refine pGoE (y := (rd σ 2 4)) (s_getI pc9 fl_X9_29 dX9_fail_53 (ob_2 hst) rfl (by decide)) (rd_wr_i _ (by decide)) ?_
        refine pGo (s_aload_n dX9_fail_56 rfl (by decide)) ?_
        refine pGoE (y := (rd σ 2 3)) (s_getI pc9 fl_X9_26 dX9_fail_57 (ob_2 hst) rfl (by decide)) (rd_wr_i _ (by decide)) ?_
        refine p_icge (tgt := 75) dX9_fail_60 (by decide) (g2 c2) (g3 c2) (fun c11 => ?_) (fun c12 => ?_)
        · refine pGo (s_iconst dX9_fail_75) ?_
          refine pGo (s_putI pc9 fl_X9_22 dX9_fail_76 (ob_2 hst) rfl rfl rfl rfl) ?_
          refine pGo (s_iconst dX9_fail_79) ?_
          exact pEnd (r := (some (0, 0))) dX9_fail_80 (Or.inl rfl) (k6 c2 c4 c8 c11)
        · refine pGo (s_aload_n dX9_fail_63 rfl (by decide)) ?_
          refine pGoE (y := 4) (s_getF pc9 fl_X9_15 dX9_fail_64 (ob_2 hst) rfl (by decide)) (by decide) ?_
          refine pGo (s_aload_n dX9_fail_67 rfl (by decide)) ?_
          refine pGoE (y := (rd σ 2 4)) (s_getI pc9 fl_X9_29 dX9_fail_68 (ob_2 hst) rfl (by decide)) (rd_wr_i _ (by decide)) ?_
          refine pGoE (y := (rd σ 4 (rd σ 2 4))) (s_iald dX9_fail_71 (ob_4 hst) (bnd (g5 c2 c4))) (rd_wr_a _ (by decide)) ?_
          refine pGo (s_goto (tgt := 76) dX9_fail_72 (by decide)) ?_
          refine pGo (s_putI pc9 fl_X9_22 dX9_fail_76 (ob_2 hst) rfl rfl rfl rfl) ?_
          refine pGo (s_iconst dX9_fail_79) ?_
          exact pEnd (r := (some (0, 0))) dX9_fail_80 (Or.inl rfl) (k7 c2 c4 c8 c12)
set_option maxRecDepth 100000 in
theorem g_X9_expect_0 {d : Nat} {σ : pS} {Q : Option pV → pS → Prop} {Q1 : Option pV → pS → Prop} {Q2 : Option pV → pS → Prop} {Q3 : Option pV → pS → Prop} {Q4 : Option pV → pS → Prop} (hd : 1 ≤ d) (hst : Stat σ) (x1 : Int)  (g1 : inR (rd σ 2 5)) (f1 : ∀ (c1 : (rd σ 2 5) ≠ 0), pC mX9_fail 0 [(2, 2), (0, 2)] σ Q1) (k1 : ∀ (c1 : (rd σ 2 5) ≠ 0) (v1 : Int) (b1 : v1 = 0 ∨ v1 = 1) (τ1 : pS) (e1 : pLe σ τ1) (q1 : Q1 (some (0, v1)) τ1), Q (some (0, v1)) τ1) (f2 : ∀ (c2 : (rd σ 2 5) = 0), pC mX9_kind 0 [(2, 2)] σ Q2) (g2 : ∀ (c2 : (rd σ 2 5) = 0) (v2 : Int) (τ2 : pS) (e2 : pLe σ τ2) (q2 : Q2 (some (0, v2)) τ2), inR v2) (g3 : ∀ (c2 : (rd σ 2 5) = 0) (v2 : Int) (τ2 : pS) (e2 : pLe σ τ2) (q2 : Q2 (some (0, v2)) τ2), inR x1) (f3 : ∀ (c2 : (rd σ 2 5) = 0) (v2 : Int) (τ2 : pS) (e2 : pLe σ τ2) (q2 : Q2 (some (0, v2)) τ2) (c3 : v2 = x1), pC mX9_step 0 [(2, 2)] τ2 Q3) (k2 : ∀ (c2 : (rd σ 2 5) = 0) (v2 : Int) (τ2 : pS) (e2 : pLe σ τ2) (q2 : Q2 (some (0, v2)) τ2) (c3 : v2 = x1) (τ3 : pS) (e3 : pLe τ2 τ3) (q3 : Q3 none τ3), Q (some (0, 1)) τ3) (f4 : ∀ (c2 : (rd σ 2 5) = 0) (v2 : Int) (τ2 : pS) (e2 : pLe σ τ2) (q2 : Q2 (some (0, v2)) τ2) (c4 : v2 ≠ x1), pC mX9_fail 0 [(2, 2), (0, 2)] τ2 Q4) (k3 : ∀ (c2 : (rd σ 2 5) = 0) (v2 : Int) (τ2 : pS) (e2 : pLe σ τ2) (q2 : Q2 (some (0, v2)) τ2) (c4 : v2 ≠ x1) (v4 : Int) (b4 : v4 = 0 ∨ v4 = 1) (τ4 : pS) (e4 : pLe τ2 τ4) (q4 : Q4 (some (0, v4)) τ4), Q (some (0, v4)) τ4) : pC mX9_expect d [(2, 2), (0, x1)] σ Q := by
  show pR mX9_expect d 0 [(2, 2), (0, x1)] [] σ Q
  refine pGo (s_aload_n dX9_expect_0 rfl (by decide)) ?_
  refine pGoE (y := (rd σ 2 5)) (s_getI pc9 fl_X9_32 dX9_expect_1 (ob_2 hst) rfl (by decide)) rfl ?_
  refine p_ifne (tgt := 15) dX9_expect_4 (by decide) g1 (fun c1 => ?_) (fun c2 => ?_)
  · refine pGo (s_aload_n dX9_expect_15 rfl (by decide)) ?_
    refine pGo (s_iconst dX9_expect_16) ?_
    refine p_callV (As := [(0, 2)]) (st := []) (n := 1) (d' := 0) (Q1 := Q1) pc9 ok_X9_fail ml_X9_47 im_X9_fail se_X9_fail dX9_expect_17 (ob_2 hst) (pargs_of rfl) rfl (Nat.le_of_ble_eq_true rfl) (by omega) (f1 c1) (fun r1 τ1 e1 q1 w1 => ?_)
    obtain ⟨v1, rfl, b1⟩ := pRok_z w1
    have S1 : Stat τ1 := (Stat.le (σ := σ) hst e1)
    show pR mX9_expect d 20 [(2, 2), (0, x1)] [(0, v1)] τ1 Q
    exact pEnd (r := (some (0, v1))) dX9_expect_20 (pRok_01 b1) (k1 c1 v1 b1 τ1 e1 q1)
  · refine pGo (s_aload_n dX9_expect_7 rfl (by decide)) ?_
    refine p_callV (As := []) (st := []) (n := 0) (d' := 0) (Q1 := Q2) pc9 ok_X9_kind ml_X9_43 im_X9_kind se_X9_kind dX9_expect_8 (ob_2 hst) (pargs_of rfl) rfl (Nat.le_of_ble_eq_true rfl) (by omega) (f2 c2) (fun r2 τ2 e2 q2 w2 => ?_)
    obtain ⟨v2, rfl⟩ := w2
    have S2 : Stat τ2 := (Stat.le (σ := σ) hst e2)
    show pR mX9_expect d 11 [(2, 2), (0, x1)] [(0, v2)] τ2 Q
    refine pGo (s_iload_n dX9_expect_11 rfl) ?_
    refine p_iceq (tgt := 21) dX9_expect_12 (by decide) (g2 c2 v2 τ2 e2 q2) (g3 c2 v2 τ2 e2 q2) (fun c3 => ?_) (fun c4 => ?_)
    · refine pGo (s_aload_n dX9_expect_21 rfl (by decide)) ?_
      refine p_callV (As := []) (st := []) (n := 0) (d' := 0) (Q1 := Q3) pc9 ok_X9_step ml_X9_51 im_X9_step se_X9_step dX9_expect_22 (ob_2 S2) (pargs_of rfl) rfl (Nat.le_of_ble_eq_true rfl) (by omega) (f3 c2 v2 τ2 e2 q2 c3) (fun r3 τ3 e3 q3 w3 => ?_)
      obtain rfl : r3 = none := w3
      have S3 : Stat τ3 := (Stat.le (σ := τ2) S2 e3)
      show pR mX9_expect d 25 [(2, 2), (0, x1)] [] τ3 Q
      refine pGo (s_iconst dX9_expect_25) ?_
      exact pEnd (r := (some (0, 1))) dX9_expect_26 (Or.inr rfl) (k2 c2 v2 τ2 e2 q2 c3 τ3 e3 q3)
    · refine pGo (s_aload_n dX9_expect_15 rfl (by decide)) ?_
      refine pGo (s_iconst dX9_expect_16) ?_
      refine p_callV (As := [(0, 2)]) (st := []) (n := 1) (d' := 0) (Q1 := Q4) pc9 ok_X9_fail ml_X9_47 im_X9_fail se_X9_fail dX9_expect_17 (ob_2 S2) (pargs_of rfl) rfl (Nat.le_of_ble_eq_true rfl) (by omega) (f4 c2 v2 τ2 e2 q2 c4) (fun r4 τ4 e4 q4 w4 => ?_)
      obtain ⟨v4, rfl, b4⟩ := pRok_z w4
      have S4 : Stat τ4 := (Stat.le (σ := τ2) S2 e4)
      show pR mX9_expect d 20 [(2, 2), (0, x1)] [(0, v4)] τ4 Q
      exact pEnd (r := (some (0, v4))) dX9_expect_20 (pRok_01 b4) (k3 c2 v2 τ2 e2 q2 c4 v4 b4 τ4 e4 q4)
set_option maxRecDepth 100000 in
theorem g_X9_numberBehind_0 {d : Nat} {σ : pS} {Q : Option pV → pS → Prop} {Q1 : Option pV → pS → Prop} {Q2 : Option pV → pS → Prop} {Q3 : Option pV → pS → Prop} {Q4 : Option pV → pS → Prop} {Q5 : Option pV → pS → Prop} {Q6 : Option pV → pS → Prop} {Q7 : Option pV → pS → Prop} (hd : 2 ≤ d) (hst : Stat σ) (x1 : Int) (x2 : Int) (x3 : Int)  (f1 : pC mX9_expect 1 [(2, 2), (0, x1)] σ Q1) (g1 : ∀ (v1 : Int) (b1 : v1 = 0 ∨ v1 = 1) (τ1 : pS) (e1 : pLe σ τ1) (q1 : Q1 (some (0, v1)) τ1), inR v1) (f2 : ∀ (v1 : Int) (b1 : v1 = 0 ∨ v1 = 1) (τ1 : pS) (e1 : pLe σ τ1) (q1 : Q1 (some (0, v1)) τ1) (c1 : v1 ≠ 0), pC mX9_kind 0 [(2, 2)] τ1 Q2) (g2 : ∀ (v1 : Int) (b1 : v1 = 0 ∨ v1 = 1) (τ1 : pS) (e1 : pLe σ τ1) (q1 : Q1 (some (0, v1)) τ1) (c1 : v1 ≠ 0) (v2 : Int) (τ2 : pS) (e2 : pLe τ1 τ2) (q2 : Q2 (some (0, v2)) τ2), inR v2) (f3 : ∀ (v1 : Int) (b1 : v1 = 0 ∨ v1 = 1) (τ1 : pS) (e1 : pLe σ τ1) (q1 : Q1 (some (0, v1)) τ1) (c1 : v1 ≠ 0) (v2 : Int) (τ2 : pS) (e2 : pLe τ1 τ2) (q2 : Q2 (some (0, v2)) τ2) (c3 : v2 = 19), pC mX9_value 0 [(2, 2)] τ2 Q3) (g3 : ∀ (v1 : Int) (b1 : v1 = 0 ∨ v1 = 1) (τ1 : pS) (e1 : pLe σ τ1) (q1 : Q1 (some (0, v1)) τ1) (c1 : v1 ≠ 0) (v2 : Int) (τ2 : pS) (e2 : pLe τ1 τ2) (q2 : Q2 (some (0, v2)) τ2) (c3 : v2 = 19) (v3 : Int) (τ3 : pS) (e3 : pLe τ2 τ3) (q3 : Q3 (some (1, v3)) τ3), inR v3) (g4 : ∀ (v1 : Int) (b1 : v1 = 0 ∨ v1 = 1) (τ1 : pS) (e1 : pLe σ τ1) (q1 : Q1 (some (0, v1)) τ1) (c1 : v1 ≠ 0) (v2 : Int) (τ2 : pS) (e2 : pLe τ1 τ2) (q2 : Q2 (some (0, v2)) τ2) (c3 : v2 = 19) (v3 : Int) (τ3 : pS) (e3 : pLe τ2 τ3) (q3 : Q3 (some (1, v3)) τ3), inR x2) (f4 : ∀ (v1 : Int) (b1 : v1 = 0 ∨ v1 = 1) (τ1 : pS) (e1 : pLe σ τ1) (q1 : Q1 (some (0, v1)) τ1) (c1 : v1 ≠ 0) (v2 : Int) (τ2 : pS) (e2 : pLe τ1 τ2) (q2 : Q2 (some (0, v2)) τ2) (c3 : v2 = 19) (v3 : Int) (τ3 : pS) (e3 : pLe τ2 τ3) (q3 : Q3 (some (1, v3)) τ3) (c5 : v3 < x2), pC mX9_fail 0 [(2, 2), (0, 4)] τ3 Q4) (k1 : ∀ (v1 : Int) (b1 : v1 = 0 ∨ v1 = 1) (τ1 : pS) (e1 : pLe σ τ1) (q1 : Q1 (some (0, v1)) τ1) (c1 : v1 ≠ 0) (v2 : Int) (τ2 : pS) (e2 : pLe τ1 τ2) (q2 : Q2 (some (0, v2)) τ2) (c3 : v2 = 19) (v3 : Int) (τ3 : pS) (e3 : pLe τ2 τ3) (q3 : Q3 (some (1, v3)) τ3) (c5 : v3 < x2) (v4 : Int) (b4 : v4 = 0 ∨ v4 = 1) (τ4 : pS) (e4 : pLe τ3 τ4) (q4 : Q4 (some (0, v4)) τ4), Q (some (0, (-1))) τ4) (g5 : ∀ (v1 : Int) (b1 : v1 = 0 ∨ v1 = 1) (τ1 : pS) (e1 : pLe σ τ1) (q1 : Q1 (some (0, v1)) τ1) (c1 : v1 ≠ 0) (v2 : Int) (τ2 : pS) (e2 : pLe τ1 τ2) (q2 : Q2 (some (0, v2)) τ2) (c3 : v2 = 19) (v3 : Int) (τ3 : pS) (e3 : pLe τ2 τ3) (q3 : Q3 (some (1, v3)) τ3) (c6 : x2 ≤ v3), inR x3) (f5 : ∀ (v1 : Int) (b1 : v1 = 0 ∨ v1 = 1) (τ1 : pS) (e1 : pLe σ τ1) (q1 : Q1 (some (0, v1)) τ1) (c1 : v1 ≠ 0) (v2 : Int) (τ2 : pS) (e2 : pLe τ1 τ2) (q2 : Q2 (some (0, v2)) τ2) (c3 : v2 = 19) (v3 : Int) (τ3 : pS) (e3 : pLe τ2 τ3) (q3 : Q3 (some (1, v3)) τ3) (c6 : x2 ≤ v3) (c7 : v3 ≤ x3), pC mX9_step 0 [(2, 2)] τ3 Q5) (k2 : ∀ (v1 : Int) (b1 : v1 = 0 ∨ v1 = 1) (τ1 : pS) (e1 : pLe σ τ1) (q1 : Q1 (some (0, v1)) τ1) (c1 : v1 ≠ 0) (v2 : Int) (τ2 : pS) (e2 : pLe τ1 τ2) (q2 : Q2 (some (0, v2)) τ2) (c3 : v2 = 19) (v3 : Int) (τ3 : pS) (e3 : pLe τ2 τ3) (q3 : Q3 (some (1, v3)) τ3) (c6 : x2 ≤ v3) (c7 : v3 ≤ x3) (τ5 : pS) (e5 : pLe τ3 τ5) (q5 : Q5 none τ5), Q (some (0, v3)) τ5) (f6 : ∀ (v1 : Int) (b1 : v1 = 0 ∨ v1 = 1) (τ1 : pS) (e1 : pLe σ τ1) (q1 : Q1 (some (0, v1)) τ1) (c1 : v1 ≠ 0) (v2 : Int) (τ2 : pS) (e2 : pLe τ1 τ2) (q2 : Q2 (some (0, v2)) τ2) (c3 : v2 = 19) (v3 : Int) (τ3 : pS) (e3 : pLe τ2 τ3) (q3 : Q3 (some (1, v3)) τ3) (c6 : x2 ≤ v3) (c8 : x3 < v3), pC mX9_fail 0 [(2, 2), (0, 4)] τ3 Q6) (k3 : ∀ (v1 : Int) (b1 : v1 = 0 ∨ v1 = 1) (τ1 : pS) (e1 : pLe σ τ1) (q1 : Q1 (some (0, v1)) τ1) (c1 : v1 ≠ 0) (v2 : Int) (τ2 : pS) (e2 : pLe τ1 τ2) (q2 : Q2 (some (0, v2)) τ2) (c3 : v2 = 19) (v3 : Int) (τ3 : pS) (e3 : pLe τ2 τ3) (q3 : Q3 (some (1, v3)) τ3) (c6 : x2 ≤ v3) (c8 : x3 < v3) (v6 : Int) (b6 : v6 = 0 ∨ v6 = 1) (τ6 : pS) (e6 : pLe τ3 τ6) (q6 : Q6 (some (0, v6)) τ6), Q (some (0, (-1))) τ6) (f7 : ∀ (v1 : Int) (b1 : v1 = 0 ∨ v1 = 1) (τ1 : pS) (e1 : pLe σ τ1) (q1 : Q1 (some (0, v1)) τ1) (c1 : v1 ≠ 0) (v2 : Int) (τ2 : pS) (e2 : pLe τ1 τ2) (q2 : Q2 (some (0, v2)) τ2) (c4 : v2 ≠ 19), pC mX9_fail 0 [(2, 2), (0, 2)] τ2 Q7) (k4 : ∀ (v1 : Int) (b1 : v1 = 0 ∨ v1 = 1) (τ1 : pS) (e1 : pLe σ τ1) (q1 : Q1 (some (0, v1)) τ1) (c1 : v1 ≠ 0) (v2 : Int) (τ2 : pS) (e2 : pLe τ1 τ2) (q2 : Q2 (some (0, v2)) τ2) (c4 : v2 ≠ 19) (v7 : Int) (b7 : v7 = 0 ∨ v7 = 1) (τ7 : pS) (e7 : pLe τ2 τ7) (q7 : Q7 (some (0, v7)) τ7), Q (some (0, (-1))) τ7) (k5 : ∀ (v1 : Int) (b1 : v1 = 0 ∨ v1 = 1) (τ1 : pS) (e1 : pLe σ τ1) (q1 : Q1 (some (0, v1)) τ1) (c2 : v1 = 0), Q (some (0, (-1))) τ1) : pC mX9_numberBehind d [(2, 2), (0, x1), (0, x2), (0, x3)] σ Q := by
  show pR mX9_numberBehind d 0 [(2, 2), (0, x1), (0, x2), (0, x3), (9, 0)] [] σ Q
  refine pGo (s_aload_n dX9_numberBehind_0 rfl (by decide)) ?_
  refine pGo (s_iload_n dX9_numberBehind_1 rfl) ?_
  refine p_callV (As := [(0, x1)]) (st := []) (n := 1) (d' := 1) (Q1 := Q1) pc9 ok_X9_expect ml_X9_54 im_X9_expect se_X9_expect dX9_numberBehind_2 (ob_2 hst) (pargs_of rfl) rfl (Nat.le_of_ble_eq_true rfl) (by omega) f1 (fun r1 τ1 e1 q1 w1 => ?_)
  obtain ⟨v1, rfl, b1⟩ := pRok_z w1
  have S1 : Stat τ1 := (Stat.le (σ := σ) hst e1)
  show pR mX9_numberBehind d 5 [(2, 2), (0, x1), (0, x2), (0, x3), (9, 0)] [(0, v1)] τ1 Q
  refine p_ifne (tgt := 10) dX9_numberBehind_5 (by decide) (g1 v1 b1 τ1 e1 q1) (fun c1 => ?_) (fun c2 => ?_)
  · refine pGo (s_aload_n dX9_numberBehind_10 rfl (by decide)) ?_
    refine p_callV (As := []) (st := []) (n := 0) (d' := 0) (Q1 := Q2) pc9 ok_X9_kind ml_X9_43 im_X9_kind se_X9_kind dX9_numberBehind_11 (ob_2 S1) (pargs_of rfl) rfl (Nat.le_of_ble_eq_true rfl) (by omega) (f2 v1 b1 τ1 e1 q1 c1) (fun r2 τ2 e2 q2 w2 => ?_)
    obtain ⟨v2, rfl⟩ := w2
    have S2 : Stat τ2 := (Stat.le (σ := τ1) S1 e2)
    show pR mX9_numberBehind d 14 [(2, 2), (0, x1), (0, x2), (0, x3), (9, 0)] [(0, v2)] τ2 Q
    refine pGo (s_bipush dX9_numberBehind_14 (by decide)) ?_
    refine p_iceq (tgt := 27) dX9_numberBehind_16 (by decide) (g2 v1 b1 τ1 e1 q1 c1 v2 τ2 e2 q2) (by decide) (fun c3 => ?_) (fun c4 => ?_)
    · refine pGo (s_aload_n dX9_numberBehind_27 rfl (by decide)) ?_
      refine p_callV (As := []) (st := []) (n := 0) (d' := 0) (Q1 := Q3) pc9 ok_X9_value ml_X9_57 im_X9_value se_X9_value dX9_numberBehind_28 (ob_2 S2) (pargs_of rfl) rfl (Nat.le_of_ble_eq_true rfl) (by omega) (f3 v1 b1 τ1 e1 q1 c1 v2 τ2 e2 q2 c3) (fun r3 τ3 e3 q3 w3 => ?_)
      obtain ⟨v3, rfl⟩ := w3
      have S3 : Stat τ3 := (Stat.le (σ := τ2) S2 e3)
      show pR mX9_numberBehind d 31 [(2, 2), (0, x1), (0, x2), (0, x3), (9, 0)] [(1, v3)] τ3 Q
      refine pGo (s_l2i dX9_numberBehind_31) ?_
      refine pGoL (ls2 := [(2, 2), (0, x1), (0, x2), (0, x3), (0, v3)]) (s_istore dX9_numberBehind_32 (by decide) rfl) rfl ?_
      refine pGo (s_iload dX9_numberBehind_34 rfl) ?_
      refine pGo (s_iload_n dX9_numberBehind_36 rfl) ?_
      refine p_iclt (tgt := 46) dX9_numberBehind_37 (by decide) (g3 v1 b1 τ1 e1 q1 c1 v2 τ2 e2 q2 c3 v3 τ3 e3 q3) (g4 v1 b1 τ1 e1 q1 c1 v2 τ2 e2 q2 c3 v3 τ3 e3 q3) (fun c5 => ?_) (fun c6 => ?_)
      · refine pGo (s_aload_n dX9_numberBehind_46 rfl (by decide)) ?_
        refine pGo (s_iconst dX9_numberBehind_47) ?_
        refine p_callV (As := [(0, 4)]) (st := []) (n := 1) (d' := 0) (Q1 := Q4) pc9 ok_X9_fail ml_X9_47 im_X9_fail se_X9_fail dX9_numberBehind_48 (ob_2 S3) (pargs_of rfl) rfl (Nat.le_of_ble_eq_true rfl) (by omega) (f4 v1 b1 τ1 e1 q1 c1 v2 τ2 e2 q2 c3 v3 τ3 e3 q3 c5) (fun r4 τ4 e4 q4 w4 => ?_)
        obtain ⟨v4, rfl, b4⟩ := pRok_z w4
        have S4 : Stat τ4 := (Stat.le (σ := τ3) S3 e4)
        show pR mX9_numberBehind d 51 [(2, 2), (0, x1), (0, x2), (0, x3), (0, v3)] [(0, v4)] τ4 Q
        refine pGo (s_pop dX9_numberBehind_51 (show (0 : Nat) ≠ 1 by decide)) ?_
        refine pGo (s_iconst dX9_numberBehind_52) ?_
        exact pEnd (r := (some (0, (-1)))) dX9_numberBehind_53 ⟨_, rfl⟩ (k1 v1 b1 τ1 e1 q1 c1 v2 τ2 e2 q2 c3 v3 τ3 e3 q3 c5 v4 b4 τ4 e4 q4)
      · refine pGo (s_iload dX9_numberBehind_40 rfl) ?_
        refine pGo (s_iload_n dX9_numberBehind_42 rfl) ?_
        refine p_icle (tgt := 54) dX9_numberBehind_43 (by decide) (g3 v1 b1 τ1 e1 q1 c1 v2 τ2 e2 q2 c3 v3 τ3 e3 q3) (g5 v1 b1 τ1 e1 q1 c1 v2 τ2 e2 q2 c3 v3 τ3 e3 q3 c6) (fun c7 => ?_) (fun c8 => ?_)
        · refine pGo (s_aload_n dX9_numberBehind_54 rfl (by decide)) ?_
          refine p_callV (As := []) (st := []) (n := 0) (d' := 0) (Q1 := Q5) pc9 ok_X9_step ml_X9_51 im_X9_step se_X9_step dX9_numberBehind_55 (ob_2 S3) (pargs_of rfl) rfl (Nat.le_of_ble_eq_true rfl) (by omega) (f5 v1 b1 τ1 e1 q1 c1 v2 τ2 e2 q2 c3 v3 τ3 e3 q3 c6 c7) (fun r5 τ5 e5 q5 w5 => ?_)
          obtain rfl : r5 = none := w5
          have S5 : Stat τ5 := (Stat.le (σ := τ3) S3 e5)
          show pR mX9_numberBehind d 58 [(2, 2), (0, x1), (0, x2), (0, x3), (0, v3)] [] τ5 Q
          refine pGo (s_iload dX9_numberBehind_58 rfl) ?_
          exact pEnd (r := (some (0, v3))) dX9_numberBehind_60 ⟨_, rfl⟩ (k2 v1 b1 τ1 e1 q1 c1 v2 τ2 e2 q2 c3 v3 τ3 e3 q3 c6 c7 τ5 e5 q5)
        · refine pGo (s_aload_n dX9_numberBehind_46 rfl (by decide)) ?_
          refine pGo (s_iconst dX9_numberBehind_47) ?_
          refine p_callV (As := [(0, 4)]) (st := []) (n := 1) (d' := 0) (Q1 := Q6) pc9 ok_X9_fail ml_X9_47 im_X9_fail se_X9_fail dX9_numberBehind_48 (ob_2 S3) (pargs_of rfl) rfl (Nat.le_of_ble_eq_true rfl) (by omega) (f6 v1 b1 τ1 e1 q1 c1 v2 τ2 e2 q2 c3 v3 τ3 e3 q3 c6 c8) (fun r6 τ6 e6 q6 w6 => ?_)
          obtain ⟨v6, rfl, b6⟩ := pRok_z w6
          have S6 : Stat τ6 := (Stat.le (σ := τ3) S3 e6)
          show pR mX9_numberBehind d 51 [(2, 2), (0, x1), (0, x2), (0, x3), (0, v3)] [(0, v6)] τ6 Q
          refine pGo (s_pop dX9_numberBehind_51 (show (0 : Nat) ≠ 1 by decide)) ?_
          refine pGo (s_iconst dX9_numberBehind_52) ?_
          exact pEnd (r := (some (0, (-1)))) dX9_numberBehind_53 ⟨_, rfl⟩ (k3 v1 b1 τ1 e1 q1 c1 v2 τ2 e2 q2 c3 v3 τ3 e3 q3 c6 c8 v6 b6 τ6 e6 q6)
    · refine pGo (s_aload_n dX9_numberBehind_19 rfl (by decide)) ?_
      refine pGo (s_iconst dX9_numberBehind_20) ?_
      refine p_callV (As := [(0, 2)]) (st := []) (n := 1) (d' := 0) (Q1 := Q7) pc9 ok_X9_fail ml_X9_47 im_X9_fail se_X9_fail dX9_numberBehind_21 (ob_2 S2) (pargs_of rfl) rfl (Nat.le_of_ble_eq_true rfl) (by omega) (f7 v1 b1 τ1 e1 q1 c1 v2 τ2 e2 q2 c4) (fun r7 τ7 e7 q7 w7 => ?_)
      obtain ⟨v7, rfl, b7⟩ := pRok_z w7
      have S7 : Stat τ7 := (Stat.le (σ := τ2) S2 e7)
      show pR mX9_numberBehind d 24 [(2, 2), (0, x1), (0, x2), (0, x3), (9, 0)] [(0, v7)] τ7 Q
      refine pGo (s_pop dX9_numberBehind_24 (show (0 : Nat) ≠ 1 by decide)) ?_
      refine pGo (s_iconst dX9_numberBehind_25) ?_
      exact pEnd (r := (some (0, (-1)))) dX9_numberBehind_26 ⟨_, rfl⟩ (k4 v1 b1 τ1 e1 q1 c1 v2 τ2 e2 q2 c4 v7 b7 τ7 e7 q7)
  · refine pGo (s_iconst dX9_numberBehind_8) ?_
    exact pEnd (r := (some (0, (-1)))) dX9_numberBehind_9 ⟨_, rfl⟩ (k5 v1 b1 τ1 e1 q1 c2)
