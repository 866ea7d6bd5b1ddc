/-! walks: the class reads a mountain -/
section PLL
variable {M : pM} {d pc : Nat} {ls st : List pV} {σ : pS} {a : Int}
theorem s_llen {x : Nat} (hd : decode M.2.1 pc = .ok (.arraylength, 1)) (ho : ob σ a = some (53, x)) : pStep M d pc ls ((2, a) :: st) σ (pc + 1) ls ((0, (x : Int)) :: st) σ := by
  refine pStep.read ?_
  intro p l e R s m args below meth c H locs cells slots Q g lsA hC hU hS hH k
  rw [List.map_cons, pval_2 (ob_some ho).1]
  exact va_alen hC.1 hC.2.1 hU.1 hH.1 a.toNat 3 (x := (x, .inr (.inl (fun j => Int64.ofInt (rd σ a j))))) (by rw [pws_at ho, pcell_long ho]) rfl (Int32.ofInt_eq_ofNat).symm hd k
end PLL
/-- the token that stands next, in the class; the reference's words -/
def vTkK (s : pS) : Int := if rd s 2 4 < rd s 2 3 then rd s 3 (rd s 2 4) else 21
def vTkV (s : pS) : Int := if rd s 2 4 < rd s 2 3 then rd s 5 (rd s 2 4) else 0
def vIsW (s : pS) (w : Int) : Bool := decide (rd s 68 6 = 1 ∧ rd s 68 9 = w)
def kwW : List Int := [1818846836, 7501166, 1752132965, 499850634611, 495622124659, 1718775661, 29807, 1734440037, 444300616805, 1936617335, 1936225652, 26982, 28530, 6385252, 7237492, 1752135026, 2003398244, 440005915496]
def vIsN (s : pS) : Bool := decide (rd s 68 6 = 1 ∧ rd s 68 9 ∉ kwW)
set_option maxRecDepth 100000 in
theorem g_X6_hasName_0 {d : Nat} {σ : pS} {Q : Option pV → pS → Prop} (hd : 0 ≤ d) (hst : Stat σ) (a0 : Int) (x1 : Int) (Ia0 : Inst6 σ a0) (g1 : 0 ≤ (a0 + 1)) (k1 : pR mX6_hasName d 12 [(2, a0), (1, x1), (9, 0), (2, (a0 + 1)), (0, 17), (0, 0), (9, 0), (9, 0)] [] σ Q) : pC mX6_hasName d [(2, a0), (1, x1)] σ Q := by
  show pR mX6_hasName d 0 [(2, a0), (1, x1), (9, 0), (9, 0), (9, 0), (9, 0), (9, 0), (9, 0)] [] σ Q
  refine pGo (s_aload_n dX6_hasName_0 rfl Ia0.pos) ?_
  refine pGo (s_getF pc6 fl_X6_9 dX6_hasName_1 Ia0.o0 rfl (by decide)) ?_
  refine pGoL (ls2 := [(2, a0), (1, x1), (9, 0), (2, (a0 + 1)), (9, 0), (9, 0), (9, 0), (9, 0)]) (s_astore_n dX6_hasName_4 (by decide) rfl g1) rfl ?_
  refine pGo (s_aload_n dX6_hasName_5 rfl g1) ?_
  refine pGoE (y := 17) (s_llen dX6_hasName_6 Ia0.o1) rfl ?_
  refine pGoL (ls2 := [(2, a0), (1, x1), (9, 0), (2, (a0 + 1)), (0, 17), (9, 0), (9, 0), (9, 0)]) (s_istore dX6_hasName_7 (by decide) rfl) rfl ?_
  refine pGo (s_iconst dX6_hasName_9) ?_
  refine pGoL (ls2 := [(2, a0), (1, x1), (9, 0), (2, (a0 + 1)), (0, 17), (0, 0), (9, 0), (9, 0)]) (s_istore dX6_hasName_10 (by decide) rfl) rfl ?_
  exact k1
set_option maxRecDepth 100000 in
theorem g_X6_hasName_12 {d : Nat} {σ : pS} {Q : Option pV → pS → Prop} (hd : 0 ≤ d) (hst : Stat σ) (x0 : Int) (x1 : Int) (x4 : Int) (x5 : Int) (u6 : pV) (u7 : pV) (Ix0 : Inst6 σ x0) (hu6 : u6.1 ≠ 1) (hu7 : u7.1 ≠ 1) (g1 : inR x5) (g2 : inR x4) (k1 : ∀ (c1 : x4 ≤ x5), Q (some (0, 0)) σ) (g3 : ∀ (c2 : x5 < x4), 0 ≤ (x0 + 1)) (g4 : ∀ (c2 : x5 < x4), 0 ≤ x5 ∧ x5 < 17) (g5 : ∀ (c2 : x5 < x4), inL (rd σ (x0 + 1) x5)) (g6 : ∀ (c2 : x5 < x4), inL x1) (k2 : ∀ (c2 : x5 < x4) (c3 : (l_cmp (rd σ (x0 + 1) x5) x1) ≠ 0), pR mX6_hasName d 12 [(2, x0), (1, x1), (9, 0), (2, (x0 + 1)), (0, x4), (0, (x5 + 1)), (1, (rd σ (x0 + 1) x5)), (9, 0)] [] σ Q) (k3 : ∀ (c2 : x5 < x4) (c4 : (l_cmp (rd σ (x0 + 1) x5) x1) = 0), Q (some (0, 1)) σ) : pR mX6_hasName d 12 [(2, x0), (1, x1), (9, 0), (2, (x0 + 1)), (0, x4), (0, x5), u6, u7] [] σ Q := by
  refine pGo (s_iload dX6_hasName_12 rfl) ?_
  refine pGo (s_iload dX6_hasName_14 rfl) ?_
  refine p_icge (tgt := 40) dX6_hasName_16 (by decide) g1 g2 (fun c1 => ?_) (fun c2 => ?_)
  · refine pGo (s_iconst dX6_hasName_40) ?_
    exact pEnd (r := (some (0, 0))) dX6_hasName_41 (Or.inl rfl) (k1 c1)
  · refine pGo (s_aload_n dX6_hasName_19 rfl (g3 c2)) ?_
    refine pGo (s_iload dX6_hasName_20 rfl) ?_
    refine pGoE (y := (rd σ (x0 + 1) x5)) (s_lald dX6_hasName_22 Ix0.o1 (bnd (g4 c2))) rfl ?_
    refine pGoL (ls2 := [(2, x0), (1, x1), (9, 0), (2, (x0 + 1)), (0, x4), (0, x5), (1, (rd σ (x0 + 1) x5)), (9, 0)]) (s_lstore dX6_hasName_23 (by decide) rfl) rfl ?_
    refine pGo (s_lload dX6_hasName_25 rfl) ?_
    refine pGo (s_lload_n dX6_hasName_27 rfl) ?_
    refine pGo (s_lcmp dX6_hasName_28 (g5 c2) (g6 c2)) ?_
    refine p_ifne (tgt := 34) dX6_hasName_29 (by decide) (l_cmp_R _ _) (fun c3 => ?_) (fun c4 => ?_)
    · refine pGoL (ls2 := [(2, x0), (1, x1), (9, 0), (2, (x0 + 1)), (0, x4), (0, (x5 + 1)), (1, (rd σ (x0 + 1) x5)), (9, 0)]) (s_iinc dX6_hasName_34 (by decide) rfl rfl) rfl ?_
      refine pGo (s_goto (tgt := 12) dX6_hasName_37 (by decide)) ?_
      exact (k2 c2 c3)
    · refine pGo (s_iconst dX6_hasName_32) ?_
      exact pEnd (r := (some (0, 1))) dX6_hasName_33 (Or.inr rfl) (k3 c2 c4)
set_option maxRecDepth 100000 in
theorem g_X6_readEnds_0 {d : Nat} {σ : pS} {Q : Option pV → pS → Prop} {Q1 : Option pV → pS → Prop} {Q2 : Option pV → pS → Prop} {Q3 : Option pV → pS → Prop} {Q4 : Option pV → pS → Prop} {Q5 : Option pV → pS → Prop} {Q6 : Option pV → pS → Prop} {Q7 : Option pV → pS → Prop} {Q8 : Option pV → pS → Prop} {Q9 : Option pV → pS → Prop} (hd : 1 ≤ d) (hst : Stat σ) (a0 : Int) (x2 : Int) (Ia0 : Inst6 σ a0) (f1 : pC mX9_kind 0 [(2, 2)] σ (fun r τ => r = some (0, (vTkK σ)) ∧ τ = σ)) (g1 : inR (vTkK σ)) (f2 : ∀ (c1 : (vTkK σ) = 18), pC mX9_value 0 [(2, 2)] σ (fun r τ => r = some (1, (vTkV σ)) ∧ τ = σ)) (f3 : ∀ (c1 : (vTkK σ) = 18), pC mX6_hasName 0 [(2, a0), (1, (vTkV σ))] σ Q1) (g2 : ∀ (c1 : (vTkK σ) = 18) (v3 : Int) (b3 : v3 = 0 ∨ v3 = 1) (τ3 : pS) (e3 : pLe σ τ3) (q3 : Q1 (some (0, v3)) τ3), inR v3) (f4 : ∀ (c1 : (vTkK σ) = 18) (v3 : Int) (b3 : v3 = 0 ∨ v3 = 1) (τ3 : pS) (e3 : pLe σ τ3) (q3 : Q1 (some (0, v3)) τ3) (c3 : v3 = 0), pC mX9_value 0 [(2, 2)] τ3 (fun r τ => r = some (1, (vTkV τ3)) ∧ τ = τ3)) (g3 : ∀ (c1 : (vTkK σ) = 18) (v3 : Int) (b3 : v3 = 0 ∨ v3 = 1) (τ3 : pS) (e3 : pLe σ τ3) (q3 : Q1 (some (0, v3)) τ3) (c3 : v3 = 0), 0 ≤ x2 ∧ x2 < 17) (f5 : ∀ (c1 : (vTkK σ) = 18) (v3 : Int) (b3 : v3 = 0 ∨ v3 = 1) (τ3 : pS) (e3 : pLe σ τ3) (q3 : Q1 (some (0, v3)) τ3) (c3 : v3 = 0), pC mX9_step 0 [(2, 2)] (wr τ3 (a0 + 1) x2 (vTkV τ3)) Q2) (f6 : ∀ (c1 : (vTkK σ) = 18) (v3 : Int) (b3 : v3 = 0 ∨ v3 = 1) (τ3 : pS) (e3 : pLe σ τ3) (q3 : Q1 (some (0, v3)) τ3) (c3 : v3 = 0) (τ5 : pS) (e5 : pLe (wr τ3 (a0 + 1) x2 (vTkV τ3)) τ5) (q5 : Q2 none τ5), pC mX9_kind 0 [(2, 2)] τ5 (fun r τ => r = some (0, (vTkK τ5)) ∧ τ = τ5)) (g4 : ∀ (c1 : (vTkK σ) = 18) (v3 : Int) (b3 : v3 = 0 ∨ v3 = 1) (τ3 : pS) (e3 : pLe σ τ3) (q3 : Q1 (some (0, v3)) τ3) (c3 : v3 = 0) (τ5 : pS) (e5 : pLe (wr τ3 (a0 + 1) x2 (vTkV τ3)) τ5) (q5 : Q2 none τ5), inR (vTkK τ5)) (f7 : ∀ (c1 : (vTkK σ) = 18) (v3 : Int) (b3 : v3 = 0 ∨ v3 = 1) (τ3 : pS) (e3 : pLe σ τ3) (q3 : Q1 (some (0, v3)) τ3) (c3 : v3 = 0) (τ5 : pS) (e5 : pLe (wr τ3 (a0 + 1) x2 (vTkV τ3)) τ5) (q5 : Q2 none τ5) (c5 : (vTkK τ5) = 20), pC mX9_value 0 [(2, 2)] τ5 (fun r τ => r = some (1, (vTkV τ5)) ∧ τ = τ5)) (f8 : ∀ (c1 : (vTkK σ) = 18) (v3 : Int) (b3 : v3 = 0 ∨ v3 = 1) (τ3 : pS) (e3 : pLe σ τ3) (q3 : Q1 (some (0, v3)) τ3) (c3 : v3 = 0) (τ5 : pS) (e5 : pLe (wr τ3 (a0 + 1) x2 (vTkV τ3)) τ5) (q5 : Q2 none τ5) (c5 : (vTkK τ5) = 20), pC mX9_step 0 [(2, 2)] (wr τ5 (a0 + 2) x2 (vTkV τ5)) Q3) (f9 : ∀ (c1 : (vTkK σ) = 18) (v3 : Int) (b3 : v3 = 0 ∨ v3 = 1) (τ3 : pS) (e3 : pLe σ τ3) (q3 : Q1 (some (0, v3)) τ3) (c3 : v3 = 0) (τ5 : pS) (e5 : pLe (wr τ3 (a0 + 1) x2 (vTkV τ3)) τ5) (q5 : Q2 none τ5) (c5 : (vTkK τ5) = 20) (τ8 : pS) (e8 : pLe (wr τ5 (a0 + 2) x2 (vTkV τ5)) τ8) (q8 : Q3 none τ8), pC mX9_kind 0 [(2, 2)] τ8 (fun r τ => r = some (0, (vTkK τ8)) ∧ τ = τ8)) (g5 : ∀ (c1 : (vTkK σ) = 18) (v3 : Int) (b3 : v3 = 0 ∨ v3 = 1) (τ3 : pS) (e3 : pLe σ τ3) (q3 : Q1 (some (0, v3)) τ3) (c3 : v3 = 0) (τ5 : pS) (e5 : pLe (wr τ3 (a0 + 1) x2 (vTkV τ3)) τ5) (q5 : Q2 none τ5) (c5 : (vTkK τ5) = 20) (τ8 : pS) (e8 : pLe (wr τ5 (a0 + 2) x2 (vTkV τ5)) τ8) (q8 : Q3 none τ8), inR (vTkK τ8)) (f10 : ∀ (c1 : (vTkK σ) = 18) (v3 : Int) (b3 : v3 = 0 ∨ v3 = 1) (τ3 : pS) (e3 : pLe σ τ3) (q3 : Q1 (some (0, v3)) τ3) (c3 : v3 = 0) (τ5 : pS) (e5 : pLe (wr τ3 (a0 + 1) x2 (vTkV τ3)) τ5) (q5 : Q2 none τ5) (c5 : (vTkK τ5) = 20) (τ8 : pS) (e8 : pLe (wr τ5 (a0 + 2) x2 (vTkV τ5)) τ8) (q8 : Q3 none τ8) (c7 : (vTkK τ8) = 20), pC mX9_value 0 [(2, 2)] τ8 (fun r τ => r = some (1, (vTkV τ8)) ∧ τ = τ8)) (g6 : ∀ (c1 : (vTkK σ) = 18) (v3 : Int) (b3 : v3 = 0 ∨ v3 = 1) (τ3 : pS) (e3 : pLe σ τ3) (q3 : Q1 (some (0, v3)) τ3) (c3 : v3 = 0) (τ5 : pS) (e5 : pLe (wr τ3 (a0 + 1) x2 (vTkV τ3)) τ5) (q5 : Q2 none τ5) (c5 : (vTkK τ5) = 20) (τ8 : pS) (e8 : pLe (wr τ5 (a0 + 2) x2 (vTkV τ5)) τ8) (q8 : Q3 none τ8) (c7 : (vTkK τ8) = 20), inR (vTkV τ8)) (g7 : ∀ (c1 : (vTkK σ) = 18) (v3 : Int) (b3 : v3 = 0 ∨ v3 = 1) (τ3 : pS) (e3 : pLe σ τ3) (q3 : Q1 (some (0, v3)) τ3) (c3 : v3 = 0) (τ5 : pS) (e5 : pLe (wr τ3 (a0 + 1) x2 (vTkV τ3)) τ5) (q5 : Q2 none τ5) (c5 : (vTkK τ5) = 20) (τ8 : pS) (e8 : pLe (wr τ5 (a0 + 2) x2 (vTkV τ5)) τ8) (q8 : Q3 none τ8) (c7 : (vTkK τ8) = 20), inR (rd τ8 (a0 + 2) x2)) (f11 : ∀ (c1 : (vTkK σ) = 18) (v3 : Int) (b3 : v3 = 0 ∨ v3 = 1) (τ3 : pS) (e3 : pLe σ τ3) (q3 : Q1 (some (0, v3)) τ3) (c3 : v3 = 0) (τ5 : pS) (e5 : pLe (wr τ3 (a0 + 1) x2 (vTkV τ3)) τ5) (q5 : Q2 none τ5) (c5 : (vTkK τ5) = 20) (τ8 : pS) (e8 : pLe (wr τ5 (a0 + 2) x2 (vTkV τ5)) τ8) (q8 : Q3 none τ8) (c7 : (vTkK τ8) = 20) (c9 : (vTkV τ8) ≠ (rd τ8 (a0 + 2) x2)), pC mX9_step 0 [(2, 2)] (wr τ8 (a0 + 3) x2 (vTkV τ8)) Q4) (k1 : ∀ (c1 : (vTkK σ) = 18) (v3 : Int) (b3 : v3 = 0 ∨ v3 = 1) (τ3 : pS) (e3 : pLe σ τ3) (q3 : Q1 (some (0, v3)) τ3) (c3 : v3 = 0) (τ5 : pS) (e5 : pLe (wr τ3 (a0 + 1) x2 (vTkV τ3)) τ5) (q5 : Q2 none τ5) (c5 : (vTkK τ5) = 20) (τ8 : pS) (e8 : pLe (wr τ5 (a0 + 2) x2 (vTkV τ5)) τ8) (q8 : Q3 none τ8) (c7 : (vTkK τ8) = 20) (c9 : (vTkV τ8) ≠ (rd τ8 (a0 + 2) x2)) (τ11 : pS) (e11 : pLe (wr τ8 (a0 + 3) x2 (vTkV τ8)) τ11) (q11 : Q4 none τ11), Q (some (0, 1)) τ11) (f12 : ∀ (c1 : (vTkK σ) = 18) (v3 : Int) (b3 : v3 = 0 ∨ v3 = 1) (τ3 : pS) (e3 : pLe σ τ3) (q3 : Q1 (some (0, v3)) τ3) (c3 : v3 = 0) (τ5 : pS) (e5 : pLe (wr τ3 (a0 + 1) x2 (vTkV τ3)) τ5) (q5 : Q2 none τ5) (c5 : (vTkK τ5) = 20) (τ8 : pS) (e8 : pLe (wr τ5 (a0 + 2) x2 (vTkV τ5)) τ8) (q8 : Q3 none τ8) (c7 : (vTkK τ8) = 20) (c10 : (vTkV τ8) = (rd τ8 (a0 + 2) x2)), pC mX9_fail 0 [(2, 2), (0, 5)] (wr τ8 (a0 + 3) x2 (vTkV τ8)) Q5) (k2 : ∀ (c1 : (vTkK σ) = 18) (v3 : Int) (b3 : v3 = 0 ∨ v3 = 1) (τ3 : pS) (e3 : pLe σ τ3) (q3 : Q1 (some (0, v3)) τ3) (c3 : v3 = 0) (τ5 : pS) (e5 : pLe (wr τ3 (a0 + 1) x2 (vTkV τ3)) τ5) (q5 : Q2 none τ5) (c5 : (vTkK τ5) = 20) (τ8 : pS) (e8 : pLe (wr τ5 (a0 + 2) x2 (vTkV τ5)) τ8) (q8 : Q3 none τ8) (c7 : (vTkK τ8) = 20) (c10 : (vTkV τ8) = (rd τ8 (a0 + 2) x2)) (v12 : Int) (b12 : v12 = 0 ∨ v12 = 1) (τ12 : pS) (e12 : pLe (wr τ8 (a0 + 3) x2 (vTkV τ8)) τ12) (q12 : Q5 (some (0, v12)) τ12), Q (some (0, v12)) τ12) (f13 : ∀ (c1 : (vTkK σ) = 18) (v3 : Int) (b3 : v3 = 0 ∨ v3 = 1) (τ3 : pS) (e3 : pLe σ τ3) (q3 : Q1 (some (0, v3)) τ3) (c3 : v3 = 0) (τ5 : pS) (e5 : pLe (wr τ3 (a0 + 1) x2 (vTkV τ3)) τ5) (q5 : Q2 none τ5) (c5 : (vTkK τ5) = 20) (τ8 : pS) (e8 : pLe (wr τ5 (a0 + 2) x2 (vTkV τ5)) τ8) (q8 : Q3 none τ8) (c8 : (vTkK τ8) ≠ 20), pC mX9_fail 0 [(2, 2), (0, 2)] τ8 Q6) (k3 : ∀ (c1 : (vTkK σ) = 18) (v3 : Int) (b3 : v3 = 0 ∨ v3 = 1) (τ3 : pS) (e3 : pLe σ τ3) (q3 : Q1 (some (0, v3)) τ3) (c3 : v3 = 0) (τ5 : pS) (e5 : pLe (wr τ3 (a0 + 1) x2 (vTkV τ3)) τ5) (q5 : Q2 none τ5) (c5 : (vTkK τ5) = 20) (τ8 : pS) (e8 : pLe (wr τ5 (a0 + 2) x2 (vTkV τ5)) τ8) (q8 : Q3 none τ8) (c8 : (vTkK τ8) ≠ 20) (v13 : Int) (b13 : v13 = 0 ∨ v13 = 1) (τ13 : pS) (e13 : pLe τ8 τ13) (q13 : Q6 (some (0, v13)) τ13), Q (some (0, v13)) τ13) (f14 : ∀ (c1 : (vTkK σ) = 18) (v3 : Int) (b3 : v3 = 0 ∨ v3 = 1) (τ3 : pS) (e3 : pLe σ τ3) (q3 : Q1 (some (0, v3)) τ3) (c3 : v3 = 0) (τ5 : pS) (e5 : pLe (wr τ3 (a0 + 1) x2 (vTkV τ3)) τ5) (q5 : Q2 none τ5) (c6 : (vTkK τ5) ≠ 20), pC mX9_fail 0 [(2, 2), (0, 2)] τ5 Q7) (k4 : ∀ (c1 : (vTkK σ) = 18) (v3 : Int) (b3 : v3 = 0 ∨ v3 = 1) (τ3 : pS) (e3 : pLe σ τ3) (q3 : Q1 (some (0, v3)) τ3) (c3 : v3 = 0) (τ5 : pS) (e5 : pLe (wr τ3 (a0 + 1) x2 (vTkV τ3)) τ5) (q5 : Q2 none τ5) (c6 : (vTkK τ5) ≠ 20) (v14 : Int) (b14 : v14 = 0 ∨ v14 = 1) (τ14 : pS) (e14 : pLe τ5 τ14) (q14 : Q7 (some (0, v14)) τ14), Q (some (0, v14)) τ14) (f15 : ∀ (c1 : (vTkK σ) = 18) (v3 : Int) (b3 : v3 = 0 ∨ v3 = 1) (τ3 : pS) (e3 : pLe σ τ3) (q3 : Q1 (some (0, v3)) τ3) (c4 : v3 ≠ 0), pC mX9_fail 0 [(2, 2), (0, 3)] τ3 Q8) (k5 : ∀ (c1 : (vTkK σ) = 18) (v3 : Int) (b3 : v3 = 0 ∨ v3 = 1) (τ3 : pS) (e3 : pLe σ τ3) (q3 : Q1 (some (0, v3)) τ3) (c4 : v3 ≠ 0) (v15 : Int) (b15 : v15 = 0 ∨ v15 = 1) (τ15 : pS) (e15 : pLe τ3 τ15) (q15 : Q8 (some (0, v15)) τ15), Q (some (0, v15)) τ15) (f16 : ∀ (c2 : (vTkK σ) ≠ 18), pC mX9_fail 0 [(2, 2), (0, 2)] σ Q9) (k6 : ∀ (c2 : (vTkK σ) ≠ 18) (v16 : Int) (b16 : v16 = 0 ∨ v16 = 1) (τ16 : pS) (e16 : pLe σ τ16) (q16 : Q9 (some (0, v16)) τ16), Q (some (0, v16)) τ16) : pC mX6_readEnds d [(2, a0), (2, 2), (0, x2)] σ Q := by
  show pR mX6_readEnds d 0 [(2, a0), (2, 2), (0, x2)] [] σ Q
  refine pGo (s_aload_n dX6_readEnds_0 rfl (by decide)) ?_
  refine p_callV (As := []) (st := []) (n := 0) (d' := 0) (Q1 := (fun r τ => r = some (0, (vTkK σ)) ∧ τ = σ)) pc9 ok_X9_kind ml_X6_61 im_X9_kind se_X9_kind dX6_readEnds_1 (ob_2 hst) (pargs_of rfl) rfl (Nat.le_of_ble_eq_true rfl) (by omega) f1 (fun r1 τ1 e1 q1 w1 => ?_)
  obtain ⟨rfl, t1⟩ := q1
  rw [t1]
  show pR mX6_readEnds d 4 [(2, a0), (2, 2), (0, x2)] [(0, (vTkK σ))] σ Q
  refine pGo (s_bipush dX6_readEnds_4 (by decide)) ?_
  refine p_iceq (tgt := 15) dX6_readEnds_6 (by decide) g1 (by decide) (fun c1 => ?_) (fun c2 => ?_)
  · refine pGo (s_aload_n dX6_readEnds_15 rfl Ia0.pos) ?_
    refine pGo (s_aload_n dX6_readEnds_16 rfl (by decide)) ?_
    refine p_callV (As := []) (st := [(2, a0)]) (n := 0) (d' := 0) (Q1 := (fun r τ => r = some (1, (vTkV σ)) ∧ τ = σ)) pc9 ok_X9_value ml_X6_105 im_X9_value se_X9_value dX6_readEnds_17 (ob_2 hst) (pargs_of rfl) rfl (Nat.le_of_ble_eq_true rfl) (by omega) (f2 c1) (fun r2 τ2 e2 q2 w2 => ?_)
    obtain ⟨rfl, t2⟩ := q2
    rw [t2]
    show pR mX6_readEnds d 20 [(2, a0), (2, 2), (0, x2)] [(1, (vTkV σ)), (2, a0)] σ Q
    refine p_callV (As := [(1, (vTkV σ))]) (st := []) (n := 1) (d' := 0) (Q1 := Q1) pc6 ok_X6_hasName ml_X6_112 im_X6_hasName se_X6_hasName dX6_readEnds_20 Ia0.o0 (pargs_of rfl) rfl (Nat.le_of_ble_eq_true rfl) (by omega) (f3 c1) (fun r3 τ3 e3 q3 w3 => ?_)
    obtain ⟨v3, rfl, b3⟩ := pRok_z w3
    have S3 : Stat τ3 := (Stat.le (σ := σ) hst e3)
    have J3_0 : Inst6 τ3 a0 := Inst6.le (σ := σ) Ia0 e3
    show pR mX6_readEnds d 23 [(2, a0), (2, 2), (0, x2)] [(0, v3)] τ3 Q
    refine p_ifeq (tgt := 32) dX6_readEnds_23 (by decide) (g2 c1 v3 b3 τ3 e3 q3) (fun c3 => ?_) (fun c4 => ?_)
    · refine pGo (s_aload_n dX6_readEnds_32 rfl J3_0.pos) ?_
      refine pGo (s_getF pc6 fl_X6_9 dX6_readEnds_33 J3_0.o0 rfl (by decide)) ?_
      refine pGo (s_iload_n dX6_readEnds_36 rfl) ?_
      refine pGo (s_aload_n dX6_readEnds_37 rfl (by decide)) ?_
      refine p_callV (As := []) (st := [(0, x2), (2, (a0 + 1))]) (n := 0) (d' := 0) (Q1 := (fun r τ => r = some (1, (vTkV τ3)) ∧ τ = τ3)) pc9 ok_X9_value ml_X6_105 im_X9_value se_X9_value dX6_readEnds_38 (ob_2 S3) (pargs_of rfl) rfl (Nat.le_of_ble_eq_true rfl) (by omega) (f4 c1 v3 b3 τ3 e3 q3 c3) (fun r4 τ4 e4 q4 w4 => ?_)
      obtain ⟨rfl, t4⟩ := q4
      rw [t4]
      show pR mX6_readEnds d 41 [(2, a0), (2, 2), (0, x2)] [(1, (vTkV τ3)), (0, x2), (2, (a0 + 1))] τ3 Q
      refine pGo (s_last dX6_readEnds_41 J3_0.o1 (bnd (g3 c1 v3 b3 τ3 e3 q3 c3))) ?_
      refine pGo (s_aload_n dX6_readEnds_42 rfl (by decide)) ?_
      refine p_callV (As := []) (st := []) (n := 0) (d' := 0) (Q1 := Q2) pc9 ok_X9_step ml_X6_92 im_X9_step se_X9_step dX6_readEnds_43 (ob_2 S3) (pargs_of rfl) rfl (Nat.le_of_ble_eq_true rfl) (by omega) (f5 c1 v3 b3 τ3 e3 q3 c3) (fun r5 τ5 e5 q5 w5 => ?_)
      obtain rfl : r5 = none := w5
      have S5 : Stat τ5 := (Stat.le (σ := (wr τ3 (a0 + 1) x2 (vTkV τ3))) S3 e5)
      have J5_0 : Inst6 τ5 a0 := Inst6.le (σ := (wr τ3 (a0 + 1) x2 (vTkV τ3))) J3_0 e5
      show pR mX6_readEnds d 46 [(2, a0), (2, 2), (0, x2)] [] τ5 Q
      refine pGo (s_aload_n dX6_readEnds_46 rfl (by decide)) ?_
      refine p_callV (As := []) (st := []) (n := 0) (d' := 0) (Q1 := (fun r τ => r = some (0, (vTkK τ5)) ∧ τ = τ5)) pc9 ok_X9_kind ml_X6_61 im_X9_kind se_X9_kind dX6_readEnds_47 (ob_2 S5) (pargs_of rfl) rfl (Nat.le_of_ble_eq_true rfl) (by omega) (f6 c1 v3 b3 τ3 e3 q3 c3 τ5 e5 q5) (fun r6 τ6 e6 q6 w6 => ?_)
      obtain ⟨rfl, t6⟩ := q6
      rw [t6]
      show pR mX6_readEnds d 50 [(2, a0), (2, 2), (0, x2)] [(0, (vTkK τ5))] τ5 Q
      refine pGo (s_bipush dX6_readEnds_50 (by decide)) ?_
      refine p_iceq (tgt := 61) dX6_readEnds_52 (by decide) (g4 c1 v3 b3 τ3 e3 q3 c3 τ5 e5 q5) (by decide) (fun c5 => ?_) (fun c6 => ?_)
      · refine pGo (s_aload_n dX6_readEnds_61 rfl J5_0.pos) ?_
        refine pGo (s_getF pc6 fl_X6_15 dX6_readEnds_62 J5_0.o0 rfl (by decide)) ?_
        refine pGo (s_iload_n dX6_readEnds_65 rfl) ?_
        refine pGo (s_aload_n dX6_readEnds_66 rfl (by decide)) ?_
        refine p_callV (As := []) (st := [(0, x2), (2, (a0 + 2))]) (n := 0) (d' := 0) (Q1 := (fun r τ => r = some (1, (vTkV τ5)) ∧ τ = τ5)) pc9 ok_X9_value ml_X6_105 im_X9_value se_X9_value dX6_readEnds_67 (ob_2 S5) (pargs_of rfl) rfl (Nat.le_of_ble_eq_true rfl) (by omega) (f7 c1 v3 b3 τ3 e3 q3 c3 τ5 e5 q5 c5) (fun r7 τ7 e7 q7 w7 => ?_)
        obtain ⟨rfl, t7⟩ := q7
        rw [t7]
        show pR mX6_readEnds d 70 [(2, a0), (2, 2), (0, x2)] [(1, (vTkV τ5)), (0, x2), (2, (a0 + 2))] τ5 Q
        refine pGo (s_l2i dX6_readEnds_70) ?_
        refine pGo (s_iast dX6_readEnds_71 J5_0.o2 (bnd (g3 c1 v3 b3 τ3 e3 q3 c3))) ?_
        refine pGo (s_aload_n dX6_readEnds_72 rfl (by decide)) ?_
        refine p_callV (As := []) (st := []) (n := 0) (d' := 0) (Q1 := Q3) pc9 ok_X9_step ml_X6_92 im_X9_step se_X9_step dX6_readEnds_73 (ob_2 S5) (pargs_of rfl) rfl (Nat.le_of_ble_eq_true rfl) (by omega) (f8 c1 v3 b3 τ3 e3 q3 c3 τ5 e5 q5 c5) (fun r8 τ8 e8 q8 w8 => ?_)
        obtain rfl : r8 = none := w8
        have S8 : Stat τ8 := (Stat.le (σ := (wr τ5 (a0 + 2) x2 (vTkV τ5))) S5 e8)
        have J8_0 : Inst6 τ8 a0 := Inst6.le (σ := (wr τ5 (a0 + 2) x2 (vTkV τ5))) J5_0 e8
        show pR mX6_readEnds d 76 [(2, a0), (2, 2), (0, x2)] [] τ8 Q
        refine pGo (s_aload_n dX6_readEnds_76 rfl (by decide)) ?_
        refine p_callV (As := []) (st := []) (n := 0) (d' := 0) (Q1 := (fun r τ => r = some (0, (vTkK τ8)) ∧ τ = τ8)) pc9 ok_X9_kind ml_X6_61 im_X9_kind se_X9_kind dX6_readEnds_77 (ob_2 S8) (pargs_of rfl) rfl (Nat.le_of_ble_eq_true rfl) (by omega) (f9 c1 v3 b3 τ3 e3 q3 c3 τ5 e5 q5 c5 τ8 e8 q8) (fun r9 τ9 e9 q9 w9 => ?_)
        obtain ⟨rfl, t9⟩ := q9
        rw [t9]
        show pR mX6_readEnds d 80 [(2, a0), (2, 2), (0, x2)] [(0, (vTkK τ8))] τ8 Q
        refine pGo (s_bipush dX6_readEnds_80 (by decide)) ?_
        refine p_iceq (tgt := 91) dX6_readEnds_82 (by decide) (g5 c1 v3 b3 τ3 e3 q3 c3 τ5 e5 q5 c5 τ8 e8 q8) (by decide) (fun c7 => ?_) (fun c8 => ?_)
        · refine pGo (s_aload_n dX6_readEnds_91 rfl J8_0.pos) ?_
          refine pGo (s_getF pc6 fl_X6_19 dX6_readEnds_92 J8_0.o0 rfl (by decide)) ?_
          refine pGo (s_iload_n dX6_readEnds_95 rfl) ?_
          refine pGo (s_aload_n dX6_readEnds_96 rfl (by decide)) ?_
          refine p_callV (As := []) (st := [(0, x2), (2, (a0 + 3))]) (n := 0) (d' := 0) (Q1 := (fun r τ => r = some (1, (vTkV τ8)) ∧ τ = τ8)) pc9 ok_X9_value ml_X6_105 im_X9_value se_X9_value dX6_readEnds_97 (ob_2 S8) (pargs_of rfl) rfl (Nat.le_of_ble_eq_true rfl) (by omega) (f10 c1 v3 b3 τ3 e3 q3 c3 τ5 e5 q5 c5 τ8 e8 q8 c7) (fun r10 τ10 e10 q10 w10 => ?_)
          obtain ⟨rfl, t10⟩ := q10
          rw [t10]
          show pR mX6_readEnds d 100 [(2, a0), (2, 2), (0, x2)] [(1, (vTkV τ8)), (0, x2), (2, (a0 + 3))] τ8 Q
          refine pGo (s_l2i dX6_readEnds_100) ?_
          refine pGo (s_iast dX6_readEnds_101 J8_0.o3 (bnd (g3 c1 v3 b3 τ3 e3 q3 c3))) ?_
          refine pGo (s_aload_n dX6_readEnds_102 rfl J8_0.pos) ?_
          refine pGo (s_getF pc6 fl_X6_19 dX6_readEnds_103 J8_0.o0 rfl (by decide)) ?_
          refine pGo (s_iload_n dX6_readEnds_106 rfl) ?_
          refine pGoE (y := (vTkV τ8)) (s_iald dX6_readEnds_107 J8_0.o3 (bnd (g3 c1 v3 b3 τ3 e3 q3 c3))) (rd_wr_same _ _ _ _) ?_
          refine pGo (s_aload_n dX6_readEnds_108 rfl J8_0.pos) ?_
          refine pGo (s_getF pc6 fl_X6_15 dX6_readEnds_109 J8_0.o0 rfl (by decide)) ?_
          refine pGo (s_iload_n dX6_readEnds_112 rfl) ?_
          refine pGoE (y := (rd τ8 (a0 + 2) x2)) (s_iald dX6_readEnds_113 J8_0.o2 (bnd (g3 c1 v3 b3 τ3 e3 q3 c3))) (rd_wr_a _ (by omega)) ?_
          refine p_icne (tgt := 123) dX6_readEnds_114 (by decide) (g6 c1 v3 b3 τ3 e3 q3 c3 τ5 e5 q5 c5 τ8 e8 q8 c7) (g7 c1 v3 b3 τ3 e3 q3 c3 τ5 e5 q5 c5 τ8 e8 q8 c7) (fun c9 => ?_) (fun c10 => ?_)
          · refine pGo (s_aload_n dX6_readEnds_123 rfl (by decide)) ?_
            refine p_callV (As := []) (st := []) (n := 0) (d' := 0) (Q1 := Q4) pc9 ok_X9_step ml_X6_92 im_X9_step se_X9_step dX6_readEnds_124 (ob_2 S8) (pargs_of rfl) rfl (Nat.le_of_ble_eq_true rfl) (by omega) (f11 c1 v3 b3 τ3 e3 q3 c3 τ5 e5 q5 c5 τ8 e8 q8 c7 c9) (fun r11 τ11 e11 q11 w11 => ?_)
            obtain rfl : r11 = none := w11
            have S11 : Stat τ11 := (Stat.le (σ := (wr τ8 (a0 + 3) x2 (vTkV τ8))) S8 e11)
            have J11_0 : Inst6 τ11 a0 := Inst6.le (σ := (wr τ8 (a0 + 3) x2 (vTkV τ8))) J8_0 e11
            show pR mX6_readEnds d 127 [(2, a0), (2, 2), (0, x2)] [] τ11 Q
            refine pGo (s_iconst dX6_readEnds_127) ?_
            exact pEnd (r := (some (0, 1))) dX6_readEnds_128 (Or.inr rfl) (k1 c1 v3 b3 τ3 e3 q3 c3 τ5 e5 q5 c5 τ8 e8 q8 c7 c9 τ11 e11 q11)
          · refine pGo (s_aload_n dX6_readEnds_117 rfl (by decide)) ?_
            refine pGo (s_iconst dX6_readEnds_118) ?_
            refine p_callV (As := [(0, 5)]) (st := []) (n := 1) (d' := 0) (Q1 := Q5) pc9 ok_X9_fail ml_X6_88 im_X9_fail se_X9_fail dX6_readEnds_119 (ob_2 S8) (pargs_of rfl) rfl (Nat.le_of_ble_eq_true rfl) (by omega) (f12 c1 v3 b3 τ3 e3 q3 c3 τ5 e5 q5 c5 τ8 e8 q8 c7 c10) (fun r12 τ12 e12 q12 w12 => ?_)
            obtain ⟨v12, rfl, b12⟩ := pRok_z w12
            have S12 : Stat τ12 := (Stat.le (σ := (wr τ8 (a0 + 3) x2 (vTkV τ8))) S8 e12)
            have J12_0 : Inst6 τ12 a0 := Inst6.le (σ := (wr τ8 (a0 + 3) x2 (vTkV τ8))) J8_0 e12
            show pR mX6_readEnds d 122 [(2, a0), (2, 2), (0, x2)] [(0, v12)] τ12 Q
            exact pEnd (r := (some (0, v12))) dX6_readEnds_122 (pRok_01 b12) (k2 c1 v3 b3 τ3 e3 q3 c3 τ5 e5 q5 c5 τ8 e8 q8 c7 c10 v12 b12 τ12 e12 q12)
        · refine pGo (s_aload_n dX6_readEnds_85 rfl (by decide)) ?_
          refine pGo (s_iconst dX6_readEnds_86) ?_
          refine p_callV (As := [(0, 2)]) (st := []) (n := 1) (d' := 0) (Q1 := Q6) pc9 ok_X9_fail ml_X6_88 im_X9_fail se_X9_fail dX6_readEnds_87 (ob_2 S8) (pargs_of rfl) rfl (Nat.le_of_ble_eq_true rfl) (by omega) (f13 c1 v3 b3 τ3 e3 q3 c3 τ5 e5 q5 c5 τ8 e8 q8 c8) (fun r13 τ13 e13 q13 w13 => ?_)
          obtain ⟨v13, rfl, b13⟩ := pRok_z w13
          have S13 : Stat τ13 := (Stat.le (σ := τ8) S8 e13)
          have J13_0 : Inst6 τ13 a0 := Inst6.le (σ := τ8) J8_0 e13
          show pR mX6_readEnds d 90 [(2, a0), (2, 2), (0, x2)] [(0, v13)] τ13 Q
          exact pEnd (r := (some (0, v13))) dX6_readEnds_90 (pRok_01 b13) (k3 c1 v3 b3 τ3 e3 q3 c3 τ5 e5 q5 c5 τ8 e8 q8 c8 v13 b13 τ13 e13 q13)
      · refine pGo (s_aload_n dX6_readEnds_55 rfl (by decide)) ?_
        refine pGo (s_iconst dX6_readEnds_56) ?_
        refine p_callV (As := [(0, 2)]) (st := []) (n := 1) (d' := 0) (Q1 := Q7) pc9 ok_X9_fail ml_X6_88 im_X9_fail se_X9_fail dX6_readEnds_57 (ob_2 S5) (pargs_of rfl) rfl (Nat.le_of_ble_eq_true rfl) (by omega) (f14 c1 v3 b3 τ3 e3 q3 c3 τ5 e5 q5 c6) (fun r14 τ14 e14 q14 w14 => ?_)
        obtain ⟨v14, rfl, b14⟩ := pRok_z w14
        have S14 : Stat τ14 := (Stat.le (σ := τ5) S5 e14)
        have J14_0 : Inst6 τ14 a0 := Inst6.le (σ := τ5) J5_0 e14
        show pR mX6_readEnds d 60 [(2, a0), (2, 2), (0, x2)] [(0, v14)] τ14 Q
        exact pEnd (r := (some (0, v14))) dX6_readEnds_60 (pRok_01 b14) (k4 c1 v3 b3 τ3 e3 q3 c3 τ5 e5 q5 c6 v14 b14 τ14 e14 q14)
    · refine pGo (s_aload_n dX6_readEnds_26 rfl (by decide)) ?_
      refine pGo (s_iconst dX6_readEnds_27) ?_
      refine p_callV (As := [(0, 3)]) (st := []) (n := 1) (d' := 0) (Q1 := Q8) pc9 ok_X9_fail ml_X6_88 im_X9_fail se_X9_fail dX6_readEnds_28 (ob_2 S3) (pargs_of rfl) rfl (Nat.le_of_ble_eq_true rfl) (by omega) (f15 c1 v3 b3 τ3 e3 q3 c4) (fun r15 τ15 e15 q15 w15 => ?_)
      obtain ⟨v15, rfl, b15⟩ := pRok_z w15
      have S15 : Stat τ15 := (Stat.le (σ := τ3) S3 e15)
      have J15_0 : Inst6 τ15 a0 := Inst6.le (σ := τ3) J3_0 e15
      show pR mX6_readEnds d 31 [(2, a0), (2, 2), (0, x2)] [(0, v15)] τ15 Q
      exact pEnd (r := (some (0, v15))) dX6_readEnds_31 (pRok_01 b15) (k5 c1 v3 b3 τ3 e3 q3 c4 v15 b15 τ15 e15 q15)
  · refine pGo (s_aload_n dX6_readEnds_9 rfl (by decide)) ?_
    refine pGo (s_iconst dX6_readEnds_10) ?_
    refine p_callV (As := [(0, 2)]) (st := []) (n := 1) (d' := 0) (Q1 := Q9) pc9 ok_X9_fail ml_X6_88 im_X9_fail se_X9_fail dX6_readEnds_11 (ob_2 hst) (pargs_of rfl) rfl (Nat.le_of_ble_eq_true rfl) (by omega) (f16 c2) (fun r16 τ16 e16 q16 w16 => ?_)
    obtain ⟨v16, rfl, b16⟩ := pRok_z w16
    have S16 : Stat τ16 := (Stat.le (σ := σ) hst e16)
    have J16_0 : Inst6 τ16 a0 := Inst6.le (σ := σ) Ia0 e16
    show pR mX6_readEnds d 14 [(2, a0), (2, 2), (0, x2)] [(0, v16)] τ16 Q
    exact pEnd (r := (some (0, v16))) dX6_readEnds_14 (pRok_01 b16) (k6 c2 v16 b16 τ16 e16 q16)
set_option maxRecDepth 100000 in
theorem g_X6_readLift_0 {d : Nat} {σ : pS} {Q : Option pV → pS → Prop} {Q1 : Option pV → pS → Prop} {Q2 : Option pV → pS → Prop} {Q3 : Option pV → pS → Prop} {Q4 : Option pV → pS → Prop} {Q5 : Option pV → pS → Prop} {Q6 : Option pV → pS → Prop} {Q7 : Option pV → pS → Prop} {Q8 : Option pV → pS → Prop} {Q9 : Option pV → pS → Prop} (hd : 3 ≤ d) (hst : Stat σ) (a0 : Int) (x2 : Int) (Ia0 : Inst6 σ a0) (f1 : pC mX9_step 0 [(2, 2)] σ Q1) (f2 : ∀ (τ1 : pS) (e1 : pLe σ τ1) (q1 : Q1 none τ1), pC mX6_readEnds 1 [(2, a0), (2, 2), (0, x2)] τ1 Q2) (g1 : ∀ (τ1 : pS) (e1 : pLe σ τ1) (q1 : Q1 none τ1) (v2 : Int) (b2 : v2 = 0 ∨ v2 = 1) (τ2 : pS) (e2 : pLe τ1 τ2) (q2 : Q2 (some (0, v2)) τ2), inR v2) (f3 : ∀ (τ1 : pS) (e1 : pLe σ τ1) (q1 : Q1 none τ1) (v2 : Int) (b2 : v2 = 0 ∨ v2 = 1) (τ2 : pS) (e2 : pLe τ1 τ2) (q2 : Q2 (some (0, v2)) τ2) (c1 : v2 ≠ 0), pC mX9_numberBehind 2 [(2, 2), (0, 3), (0, 1), (0, 30)] τ2 Q3) (g2 : ∀ (τ1 : pS) (e1 : pLe σ τ1) (q1 : Q1 none τ1) (v2 : Int) (b2 : v2 = 0 ∨ v2 = 1) (τ2 : pS) (e2 : pLe τ1 τ2) (q2 : Q2 (some (0, v2)) τ2) (c1 : v2 ≠ 0) (v3 : Int) (τ3 : pS) (e3 : pLe τ2 τ3) (q3 : Q3 (some (0, v3)) τ3), 0 ≤ x2 ∧ x2 < 17) (f4 : ∀ (τ1 : pS) (e1 : pLe σ τ1) (q1 : Q1 none τ1) (v2 : Int) (b2 : v2 = 0 ∨ v2 = 1) (τ2 : pS) (e2 : pLe τ1 τ2) (q2 : Q2 (some (0, v2)) τ2) (c1 : v2 ≠ 0) (v3 : Int) (τ3 : pS) (e3 : pLe τ2 τ3) (q3 : Q3 (some (0, v3)) τ3), pC mX9_numberBehind 2 [(2, 2), (0, 4), (0, 1), (0, 99)] (wr τ3 (a0 + 4) x2 v3) Q4) (g3 : ∀ (τ1 : pS) (e1 : pLe σ τ1) (q1 : Q1 none τ1) (v2 : Int) (b2 : v2 = 0 ∨ v2 = 1) (τ2 : pS) (e2 : pLe τ1 τ2) (q2 : Q2 (some (0, v2)) τ2) (c1 : v2 ≠ 0) (v3 : Int) (τ3 : pS) (e3 : pLe τ2 τ3) (q3 : Q3 (some (0, v3)) τ3) (v4 : Int) (τ4 : pS) (e4 : pLe (wr τ3 (a0 + 4) x2 v3) τ4) (q4 : Q4 (some (0, v4)) τ4), 0 ≤ x2 ∧ x2 < 6) (f5 : ∀ (τ1 : pS) (e1 : pLe σ τ1) (q1 : Q1 none τ1) (v2 : Int) (b2 : v2 = 0 ∨ v2 = 1) (τ2 : pS) (e2 : pLe τ1 τ2) (q2 : Q2 (some (0, v2)) τ2) (c1 : v2 ≠ 0) (v3 : Int) (τ3 : pS) (e3 : pLe τ2 τ3) (q3 : Q3 (some (0, v3)) τ3) (v4 : Int) (τ4 : pS) (e4 : pLe (wr τ3 (a0 + 4) x2 v3) τ4) (q4 : Q4 (some (0, v4)) τ4), pC mX9_numberBehind 2 [(2, 2), (0, 5), (0, 0), (0, 480)] (wr τ4 (a0 + 5) x2 v4) Q5) (f6 : ∀ (τ1 : pS) (e1 : pLe σ τ1) (q1 : Q1 none τ1) (v2 : Int) (b2 : v2 = 0 ∨ v2 = 1) (τ2 : pS) (e2 : pLe τ1 τ2) (q2 : Q2 (some (0, v2)) τ2) (c1 : v2 ≠ 0) (v3 : Int) (τ3 : pS) (e3 : pLe τ2 τ3) (q3 : Q3 (some (0, v3)) τ3) (v4 : Int) (τ4 : pS) (e4 : pLe (wr τ3 (a0 + 4) x2 v3) τ4) (q4 : Q4 (some (0, v4)) τ4) (v5 : Int) (τ5 : pS) (e5 : pLe (wr τ4 (a0 + 5) x2 v4) τ5) (q5 : Q5 (some (0, v5)) τ5), pC mX9_numberBehind 2 [(2, 2), (0, 6), (0, (v5 + 1)), (0, 480)] (wr τ5 (a0 + 6) x2 v5) Q6) (f7 : ∀ (τ1 : pS) (e1 : pLe σ τ1) (q1 : Q1 none τ1) (v2 : Int) (b2 : v2 = 0 ∨ v2 = 1) (τ2 : pS) (e2 : pLe τ1 τ2) (q2 : Q2 (some (0, v2)) τ2) (c1 : v2 ≠ 0) (v3 : Int) (τ3 : pS) (e3 : pLe τ2 τ3) (q3 : Q3 (some (0, v3)) τ3) (v4 : Int) (τ4 : pS) (e4 : pLe (wr τ3 (a0 + 4) x2 v3) τ4) (q4 : Q4 (some (0, v4)) τ4) (v5 : Int) (τ5 : pS) (e5 : pLe (wr τ4 (a0 + 5) x2 v4) τ5) (q5 : Q5 (some (0, v5)) τ5) (v6 : Int) (τ6 : pS) (e6 : pLe (wr τ5 (a0 + 6) x2 v5) τ6) (q6 : Q6 (some (0, v6)) τ6), pC mX9_kind 0 [(2, 2)] (wr τ6 (a0 + 7) x2 v6) (fun r τ => r = some (0, (vTkK (wr τ6 (a0 + 7) x2 v6))) ∧ τ = (wr τ6 (a0 + 7) x2 v6))) (g4 : ∀ (τ1 : pS) (e1 : pLe σ τ1) (q1 : Q1 none τ1) (v2 : Int) (b2 : v2 = 0 ∨ v2 = 1) (τ2 : pS) (e2 : pLe τ1 τ2) (q2 : Q2 (some (0, v2)) τ2) (c1 : v2 ≠ 0) (v3 : Int) (τ3 : pS) (e3 : pLe τ2 τ3) (q3 : Q3 (some (0, v3)) τ3) (v4 : Int) (τ4 : pS) (e4 : pLe (wr τ3 (a0 + 4) x2 v3) τ4) (q4 : Q4 (some (0, v4)) τ4) (v5 : Int) (τ5 : pS) (e5 : pLe (wr τ4 (a0 + 5) x2 v4) τ5) (q5 : Q5 (some (0, v5)) τ5) (v6 : Int) (τ6 : pS) (e6 : pLe (wr τ5 (a0 + 6) x2 v5) τ6) (q6 : Q6 (some (0, v6)) τ6), inR (vTkK (wr τ6 (a0 + 7) x2 v6))) (f8 : ∀ (τ1 : pS) (e1 : pLe σ τ1) (q1 : Q1 none τ1) (v2 : Int) (b2 : v2 = 0 ∨ v2 = 1) (τ2 : pS) (e2 : pLe τ1 τ2) (q2 : Q2 (some (0, v2)) τ2) (c1 : v2 ≠ 0) (v3 : Int) (τ3 : pS) (e3 : pLe τ2 τ3) (q3 : Q3 (some (0, v3)) τ3) (v4 : Int) (τ4 : pS) (e4 : pLe (wr τ3 (a0 + 4) x2 v3) τ4) (q4 : Q4 (some (0, v4)) τ4) (v5 : Int) (τ5 : pS) (e5 : pLe (wr τ4 (a0 + 5) x2 v4) τ5) (q5 : Q5 (some (0, v5)) τ5) (v6 : Int) (τ6 : pS) (e6 : pLe (wr τ5 (a0 + 6) x2 v5) τ6) (q6 : Q6 (some (0, v6)) τ6) (c3 : (vTkK (wr τ6 (a0 + 7) x2 v6)) ≠ 7), pC mX9_expect 1 [(2, 2), (0, 59)] (wr (wr (wr τ6 (a0 + 7) x2 v6) (a0 + 8) x2 0) a0 0 ((rd τ6 a0 0) + 1)) Q7) (k1 : ∀ (τ1 : pS) (e1 : pLe σ τ1) (q1 : Q1 none τ1) (v2 : Int) (b2 : v2 = 0 ∨ v2 = 1) (τ2 : pS) (e2 : pLe τ1 τ2) (q2 : Q2 (some (0, v2)) τ2) (c1 : v2 ≠ 0) (v3 : Int) (τ3 : pS) (e3 : pLe τ2 τ3) (q3 : Q3 (some (0, v3)) τ3) (v4 : Int) (τ4 : pS) (e4 : pLe (wr τ3 (a0 + 4) x2 v3) τ4) (q4 : Q4 (some (0, v4)) τ4) (v5 : Int) (τ5 : pS) (e5 : pLe (wr τ4 (a0 + 5) x2 v4) τ5) (q5 : Q5 (some (0, v5)) τ5) (v6 : Int) (τ6 : pS) (e6 : pLe (wr τ5 (a0 + 6) x2 v5) τ6) (q6 : Q6 (some (0, v6)) τ6) (c3 : (vTkK (wr τ6 (a0 + 7) x2 v6)) ≠ 7) (v8 : Int) (b8 : v8 = 0 ∨ v8 = 1) (τ8 : pS) (e8 : pLe (wr (wr (wr τ6 (a0 + 7) x2 v6) (a0 + 8) x2 0) a0 0 ((rd τ6 a0 0) + 1)) τ8) (q8 : Q7 (some (0, v8)) τ8), Q (some (0, v8)) τ8) (f9 : ∀ (τ1 : pS) (e1 : pLe σ τ1) (q1 : Q1 none τ1) (v2 : Int) (b2 : v2 = 0 ∨ v2 = 1) (τ2 : pS) (e2 : pLe τ1 τ2) (q2 : Q2 (some (0, v2)) τ2) (c1 : v2 ≠ 0) (v3 : Int) (τ3 : pS) (e3 : pLe τ2 τ3) (q3 : Q3 (some (0, v3)) τ3) (v4 : Int) (τ4 : pS) (e4 : pLe (wr τ3 (a0 + 4) x2 v3) τ4) (q4 : Q4 (some (0, v4)) τ4) (v5 : Int) (τ5 : pS) (e5 : pLe (wr τ4 (a0 + 5) x2 v4) τ5) (q5 : Q5 (some (0, v5)) τ5) (v6 : Int) (τ6 : pS) (e6 : pLe (wr τ5 (a0 + 6) x2 v5) τ6) (q6 : Q6 (some (0, v6)) τ6) (c4 : (vTkK (wr τ6 (a0 + 7) x2 v6)) = 7), pC mX9_step 0 [(2, 2)] (wr (wr τ6 (a0 + 7) x2 v6) (a0 + 8) x2 1) Q8) (f10 : ∀ (τ1 : pS) (e1 : pLe σ τ1) (q1 : Q1 none τ1) (v2 : Int) (b2 : v2 = 0 ∨ v2 = 1) (τ2 : pS) (e2 : pLe τ1 τ2) (q2 : Q2 (some (0, v2)) τ2) (c1 : v2 ≠ 0) (v3 : Int) (τ3 : pS) (e3 : pLe τ2 τ3) (q3 : Q3 (some (0, v3)) τ3) (v4 : Int) (τ4 : pS) (e4 : pLe (wr τ3 (a0 + 4) x2 v3) τ4) (q4 : Q4 (some (0, v4)) τ4) (v5 : Int) (τ5 : pS) (e5 : pLe (wr τ4 (a0 + 5) x2 v4) τ5) (q5 : Q5 (some (0, v5)) τ5) (v6 : Int) (τ6 : pS) (e6 : pLe (wr τ5 (a0 + 6) x2 v5) τ6) (q6 : Q6 (some (0, v6)) τ6) (c4 : (vTkK (wr τ6 (a0 + 7) x2 v6)) = 7) (τ9 : pS) (e9 : pLe (wr (wr τ6 (a0 + 7) x2 v6) (a0 + 8) x2 1) τ9) (q9 : Q8 none τ9), pC mX9_expect 1 [(2, 2), (0, 59)] (wr τ9 a0 0 ((rd τ9 a0 0) + 1)) Q9) (k2 : ∀ (τ1 : pS) (e1 : pLe σ τ1) (q1 : Q1 none τ1) (v2 : Int) (b2 : v2 = 0 ∨ v2 = 1) (τ2 : pS) (e2 : pLe τ1 τ2) (q2 : Q2 (some (0, v2)) τ2) (c1 : v2 ≠ 0) (v3 : Int) (τ3 : pS) (e3 : pLe τ2 τ3) (q3 : Q3 (some (0, v3)) τ3) (v4 : Int) (τ4 : pS) (e4 : pLe (wr τ3 (a0 + 4) x2 v3) τ4) (q4 : Q4 (some (0, v4)) τ4) (v5 : Int) (τ5 : pS) (e5 : pLe (wr τ4 (a0 + 5) x2 v4) τ5) (q5 : Q5 (some (0, v5)) τ5) (v6 : Int) (τ6 : pS) (e6 : pLe (wr τ5 (a0 + 6) x2 v5) τ6) (q6 : Q6 (some (0, v6)) τ6) (c4 : (vTkK (wr τ6 (a0 + 7) x2 v6)) = 7) (τ9 : pS) (e9 : pLe (wr (wr τ6 (a0 + 7) x2 v6) (a0 + 8) x2 1) τ9) (q9 : Q8 none τ9) (v10 : Int) (b10 : v10 = 0 ∨ v10 = 1) (τ10 : pS) (e10 : pLe (wr τ9 a0 0 ((rd τ9 a0 0) + 1)) τ10) (q10 : Q9 (some (0, v10)) τ10), Q (some (0, v10)) τ10) (k3 : ∀ (τ1 : pS) (e1 : pLe σ τ1) (q1 : Q1 none τ1) (v2 : Int) (b2 : v2 = 0 ∨ v2 = 1) (τ2 : pS) (e2 : pLe τ1 τ2) (q2 : Q2 (some (0, v2)) τ2) (c2 : v2 = 0), Q (some (0, 0)) τ2) : pC mX6_readLift d [(2, a0), (2, 2), (0, x2)] σ Q := by
  show pR mX6_readLift d 0 [(2, a0), (2, 2), (0, x2)] [] σ Q
  refine pGo (s_aload_n dX6_readLift_0 rfl (by decide)) ?_
  refine p_callV (As := []) (st := []) (n := 0) (d' := 0) (Q1 := Q1) pc9 ok_X9_step ml_X6_92 im_X9_step se_X9_step dX6_readLift_1 (ob_2 hst) (pargs_of rfl) rfl (Nat.le_of_ble_eq_true rfl) (by omega) f1 (fun r1 τ1 e1 q1 w1 => ?_)
  obtain rfl : r1 = none := w1
  have S1 : Stat τ1 := (Stat.le (σ := σ) hst e1)
  have J1_0 : Inst6 τ1 a0 := Inst6.le (σ := σ) Ia0 e1
  show pR mX6_readLift d 4 [(2, a0), (2, 2), (0, x2)] [] τ1 Q
  refine pGo (s_aload_n dX6_readLift_4 rfl J1_0.pos) ?_
  refine pGo (s_aload_n dX6_readLift_5 rfl (by decide)) ?_
  refine pGo (s_iload_n dX6_readLift_6 rfl) ?_
  refine p_callV (As := [(2, 2), (0, x2)]) (st := []) (n := 2) (d' := 1) (Q1 := Q2) pc6 ok_X6_readEnds ml_X6_95 im_X6_readEnds se_X6_readEnds dX6_readLift_7 J1_0.o0 (pargs_of rfl) rfl (Nat.le_of_ble_eq_true rfl) (by omega) (f2 τ1 e1 q1) (fun r2 τ2 e2 q2 w2 => ?_)
  obtain ⟨v2, rfl, b2⟩ := pRok_z w2
  have S2 : Stat τ2 := (Stat.le (σ := τ1) S1 e2)
  have J2_0 : Inst6 τ2 a0 := Inst6.le (σ := τ1) J1_0 e2
  show pR mX6_readLift d 10 [(2, a0), (2, 2), (0, x2)] [(0, v2)] τ2 Q
  refine p_ifne (tgt := 15) dX6_readLift_10 (by decide) (g1 τ1 e1 q1 v2 b2 τ2 e2 q2) (fun c1 => ?_) (fun c2 => ?_)
  · refine pGo (s_aload_n dX6_readLift_15 rfl J2_0.pos) ?_
    refine pGo (s_getF pc6 fl_X6_22 dX6_readLift_16 J2_0.o0 rfl (by decide)) ?_
    refine pGo (s_iload_n dX6_readLift_19 rfl) ?_
    refine pGo (s_aload_n dX6_readLift_20 rfl (by decide)) ?_
    refine pGo (s_iconst dX6_readLift_21) ?_
    refine pGo (s_iconst dX6_readLift_22) ?_
    refine pGo (s_bipush dX6_readLift_23 (by decide)) ?_
    refine p_callV (As := [(0, 3), (0, 1), (0, 30)]) (st := [(0, x2), (2, (a0 + 4))]) (n := 3) (d' := 2) (Q1 := Q3) pc9 ok_X9_numberBehind ml_X6_98 im_X9_numberBehind se_X9_numberBehind dX6_readLift_25 (ob_2 S2) (pargs_of rfl) rfl (Nat.le_of_ble_eq_true rfl) (by omega) (f3 τ1 e1 q1 v2 b2 τ2 e2 q2 c1) (fun r3 τ3 e3 q3 w3 => ?_)
    obtain ⟨v3, rfl⟩ := w3
    have S3 : Stat τ3 := (Stat.le (σ := τ2) S2 e3)
    have J3_0 : Inst6 τ3 a0 := Inst6.le (σ := τ2) J2_0 e3
    show pR mX6_readLift d 28 [(2, a0), (2, 2), (0, x2)] [(0, v3), (0, x2), (2, (a0 + 4))] τ3 Q
    refine pGo (s_iast dX6_readLift_28 J3_0.o4 (bnd (g2 τ1 e1 q1 v2 b2 τ2 e2 q2 c1 v3 τ3 e3 q3))) ?_
    refine pGo (s_aload_n dX6_readLift_29 rfl J3_0.pos) ?_
    refine pGo (s_getF pc6 fl_X6_25 dX6_readLift_30 J3_0.o0 rfl (by decide)) ?_
    refine pGo (s_iload_n dX6_readLift_33 rfl) ?_
    refine pGo (s_aload_n dX6_readLift_34 rfl (by decide)) ?_
    refine pGo (s_iconst dX6_readLift_35) ?_
    refine pGo (s_iconst dX6_readLift_36) ?_
    refine pGo (s_bipush dX6_readLift_37 (by decide)) ?_
    refine p_callV (As := [(0, 4), (0, 1), (0, 99)]) (st := [(0, x2), (2, (a0 + 5))]) (n := 3) (d' := 2) (Q1 := Q4) pc9 ok_X9_numberBehind ml_X6_98 im_X9_numberBehind se_X9_numberBehind dX6_readLift_39 (ob_2 S3) (pargs_of rfl) rfl (Nat.le_of_ble_eq_true rfl) (by omega) (f4 τ1 e1 q1 v2 b2 τ2 e2 q2 c1 v3 τ3 e3 q3) (fun r4 τ4 e4 q4 w4 => ?_)
    obtain ⟨v4, rfl⟩ := w4
    have S4 : Stat τ4 := (Stat.le (σ := (wr τ3 (a0 + 4) x2 v3)) S3 e4)
    have J4_0 : Inst6 τ4 a0 := Inst6.le (σ := (wr τ3 (a0 + 4) x2 v3)) J3_0 e4
    show pR mX6_readLift d 42 [(2, a0), (2, 2), (0, x2)] [(0, v4), (0, x2), (2, (a0 + 5))] τ4 Q
    refine pGo (s_iast dX6_readLift_42 J4_0.o5 (bnd (g3 τ1 e1 q1 v2 b2 τ2 e2 q2 c1 v3 τ3 e3 q3 v4 τ4 e4 q4))) ?_
    refine pGo (s_aload_n dX6_readLift_43 rfl J4_0.pos) ?_
    refine pGo (s_getF pc6 fl_X6_28 dX6_readLift_44 J4_0.o0 rfl (by decide)) ?_
    refine pGo (s_iload_n dX6_readLift_47 rfl) ?_
    refine pGo (s_aload_n dX6_readLift_48 rfl (by decide)) ?_
    refine pGo (s_iconst dX6_readLift_49) ?_
    refine pGo (s_iconst dX6_readLift_50) ?_
    refine pGo (s_sipush dX6_readLift_51 (by decide)) ?_
    refine p_callV (As := [(0, 5), (0, 0), (0, 480)]) (st := [(0, x2), (2, (a0 + 6))]) (n := 3) (d' := 2) (Q1 := Q5) pc9 ok_X9_numberBehind ml_X6_98 im_X9_numberBehind se_X9_numberBehind dX6_readLift_54 (ob_2 S4) (pargs_of rfl) rfl (Nat.le_of_ble_eq_true rfl) (by omega) (f5 τ1 e1 q1 v2 b2 τ2 e2 q2 c1 v3 τ3 e3 q3 v4 τ4 e4 q4) (fun r5 τ5 e5 q5 w5 => ?_)
    obtain ⟨v5, rfl⟩ := w5
    have S5 : Stat τ5 := (Stat.le (σ := (wr τ4 (a0 + 5) x2 v4)) S4 e5)
    have J5_0 : Inst6 τ5 a0 := Inst6.le (σ := (wr τ4 (a0 + 5) x2 v4)) J4_0 e5
    show pR mX6_readLift d 57 [(2, a0), (2, 2), (0, x2)] [(0, v5), (0, x2), (2, (a0 + 6))] τ5 Q
    refine pGo (s_iast dX6_readLift_57 J5_0.o6 (bnd (g2 τ1 e1 q1 v2 b2 τ2 e2 q2 c1 v3 τ3 e3 q3))) ?_
    refine pGo (s_aload_n dX6_readLift_58 rfl J5_0.pos) ?_
    refine pGo (s_getF pc6 fl_X6_31 dX6_readLift_59 J5_0.o0 rfl (by decide)) ?_
    refine pGo (s_iload_n dX6_readLift_62 rfl) ?_
    refine pGo (s_aload_n dX6_readLift_63 rfl (by decide)) ?_
    refine pGo (s_bipush dX6_readLift_64 (by decide)) ?_
    refine pGo (s_aload_n dX6_readLift_66 rfl J5_0.pos) ?_
    refine pGo (s_getF pc6 fl_X6_28 dX6_readLift_67 J5_0.o0 rfl (by decide)) ?_
    refine pGo (s_iload_n dX6_readLift_70 rfl) ?_
    refine pGoE (y := v5) (s_iald dX6_readLift_71 J5_0.o6 (bnd (g2 τ1 e1 q1 v2 b2 τ2 e2 q2 c1 v3 τ3 e3 q3))) (rd_wr_same _ _ _ _) ?_
    refine pGo (s_iconst dX6_readLift_72) ?_
    refine pGo (s_iadd dX6_readLift_73) ?_
    refine pGo (s_sipush dX6_readLift_74 (by decide)) ?_
    refine p_callV (As := [(0, 6), (0, (v5 + 1)), (0, 480)]) (st := [(0, x2), (2, (a0 + 7))]) (n := 3) (d' := 2) (Q1 := Q6) pc9 ok_X9_numberBehind ml_X6_98 im_X9_numberBehind se_X9_numberBehind dX6_readLift_77 (ob_2 S5) (pargs_of rfl) rfl (Nat.le_of_ble_eq_true rfl) (by omega) (f6 τ1 e1 q1 v2 b2 τ2 e2 q2 c1 v3 τ3 e3 q3 v4 τ4 e4 q4 v5 τ5 e5 q5) (fun r6 τ6 e6 q6 w6 => ?_)
    obtain ⟨v6, rfl⟩ := w6
    have S6 : Stat τ6 := (Stat.le (σ := (wr τ5 (a0 + 6) x2 v5)) S5 e6)
    have J6_0 : Inst6 τ6 a0 := Inst6.le (σ := (wr τ5 (a0 + 6) x2 v5)) J5_0 e6
    show pR mX6_readLift d 80 [(2, a0), (2, 2), (0, x2)] [(0, v6), (0, x2), (2, (a0 + 7))] τ6 Q
    refine pGo (s_iast dX6_readLift_80 J6_0.o7 (bnd (g2 τ1 e1 q1 v2 b2 τ2 e2 q2 c1 v3 τ3 e3 q3))) ?_
    refine pGo (s_aload_n dX6_readLift_81 rfl J6_0.pos) ?_
    refine pGo (s_getF pc6 fl_X6_34 dX6_readLift_82 J6_0.o0 rfl (by decide)) ?_
    refine pGo (s_iload_n dX6_readLift_85 rfl) ?_
    refine pGo (s_aload_n dX6_readLift_86 rfl (by decide)) ?_
    refine p_callV (As := []) (st := [(0, x2), (2, (a0 + 8))]) (n := 0) (d' := 0) (Q1 := (fun r τ => r = some (0, (vTkK (wr τ6 (a0 + 7) x2 v6))) ∧ τ = (wr τ6 (a0 + 7) x2 v6))) pc9 ok_X9_kind ml_X6_61 im_X9_kind se_X9_kind dX6_readLift_87 (ob_2 S6) (pargs_of rfl) rfl (Nat.le_of_ble_eq_true rfl) (by omega) (f7 τ1 e1 q1 v2 b2 τ2 e2 q2 c1 v3 τ3 e3 q3 v4 τ4 e4 q4 v5 τ5 e5 q5 v6 τ6 e6 q6) (fun r7 τ7 e7 q7 w7 => ?_)
    obtain ⟨rfl, t7⟩ := q7
    rw [t7]
    show pR mX6_readLift d 90 [(2, a0), (2, 2), (0, x2)] [(0, (vTkK (wr τ6 (a0 + 7) x2 v6))), (0, x2), (2, (a0 + 8))] (wr τ6 (a0 + 7) x2 v6) Q
    refine pGo (s_bipush dX6_readLift_90 (by decide)) ?_
    refine p_icne (tgt := 99) dX6_readLift_92 (by decide) (g4 τ1 e1 q1 v2 b2 τ2 e2 q2 c1 v3 τ3 e3 q3 v4 τ4 e4 q4 v5 τ5 e5 q5 v6 τ6 e6 q6) (by decide) (fun c3 => ?_) (fun c4 => ?_)
    · refine pGo (s_iconst dX6_readLift_99) ?_
      refine pGo (s_zast dX6_readLift_100 J6_0.o8 (bnd (g2 τ1 e1 q1 v2 b2 τ2 e2 q2 c1 v3 τ3 e3 q3)) (by decide)) ?_
      refine pGo (s_aload_n dX6_readLift_101 rfl J6_0.pos) ?_
      refine pGo (s_getF pc6 fl_X6_34 dX6_readLift_102 J6_0.o0 rfl (by decide)) ?_
      refine pGo (s_iload_n dX6_readLift_105 rfl) ?_
      refine pGoE (y := 0) (s_zald dX6_readLift_106 J6_0.o8 (bnd (g2 τ1 e1 q1 v2 b2 τ2 e2 q2 c1 v3 τ3 e3 q3))) (rd_wr_same _ _ _ _) ?_
      refine p_ifeq (tgt := 114) dX6_readLift_107 (by decide) (by decide) (fun _ => ?_) (fun q => absurd q (by decide))
      refine pGo (s_aload_n dX6_readLift_114 rfl J6_0.pos) ?_
      refine pGo (s_dup dX6_readLift_115 (show (2 : Nat) ≠ 1 by decide)) ?_
      refine pGoE (y := (rd τ6 a0 0)) (s_getI pc6 fl_X6_44 dX6_readLift_116 J6_0.o0 rfl (by decide)) ((rd_wr_a _ (by omega)).trans (rd_wr_a _ (by omega))) ?_
      refine pGo (s_iconst dX6_readLift_119) ?_
      refine pGo (s_iadd dX6_readLift_120) ?_
      refine pGo (s_putI pc6 fl_X6_44 dX6_readLift_121 J6_0.o0 rfl rfl rfl rfl) ?_
      refine pGo (s_aload_n dX6_readLift_124 rfl (by decide)) ?_
      refine pGo (s_bipush dX6_readLift_125 (by decide)) ?_
      refine p_callV (As := [(0, 59)]) (st := []) (n := 1) (d' := 1) (Q1 := Q7) pc9 ok_X9_expect ml_X6_102 im_X9_expect se_X9_expect dX6_readLift_127 (ob_2 S6) (pargs_of rfl) rfl (Nat.le_of_ble_eq_true rfl) (by omega) (f8 τ1 e1 q1 v2 b2 τ2 e2 q2 c1 v3 τ3 e3 q3 v4 τ4 e4 q4 v5 τ5 e5 q5 v6 τ6 e6 q6 c3) (fun r8 τ8 e8 q8 w8 => ?_)
      obtain ⟨v8, rfl, b8⟩ := pRok_z w8
      have S8 : Stat τ8 := (Stat.le (σ := (wr (wr (wr τ6 (a0 + 7) x2 v6) (a0 + 8) x2 0) a0 0 ((rd τ6 a0 0) + 1))) S6 e8)
      have J8_0 : Inst6 τ8 a0 := Inst6.le (σ := (wr (wr (wr τ6 (a0 + 7) x2 v6) (a0 + 8) x2 0) a0 0 ((rd τ6 a0 0) + 1))) J6_0 e8
      show pR mX6_readLift d 130 [(2, a0), (2, 2), (0, x2)] [(0, v8)] τ8 Q
      exact pEnd (r := (some (0, v8))) dX6_readLift_130 (pRok_01 b8) (k1 τ1 e1 q1 v2 b2 τ2 e2 q2 c1 v3 τ3 e3 q3 v4 τ4 e4 q4 v5 τ5 e5 q5 v6 τ6 e6 q6 c3 v8 b8 τ8 e8 q8)
    · refine pGo (s_iconst dX6_readLift_95) ?_
      refine pGo (s_goto (tgt := 100) dX6_readLift_96 (by decide)) ?_
      refine pGo (s_zast dX6_readLift_100 J6_0.o8 (bnd (g2 τ1 e1 q1 v2 b2 τ2 e2 q2 c1 v3 τ3 e3 q3)) (by decide)) ?_
      refine pGo (s_aload_n dX6_readLift_101 rfl J6_0.pos) ?_
      refine pGo (s_getF pc6 fl_X6_34 dX6_readLift_102 J6_0.o0 rfl (by decide)) ?_
      refine pGo (s_iload_n dX6_readLift_105 rfl) ?_
      refine pGoE (y := 1) (s_zald dX6_readLift_106 J6_0.o8 (bnd (g2 τ1 e1 q1 v2 b2 τ2 e2 q2 c1 v3 τ3 e3 q3))) (rd_wr_same _ _ _ _) ?_
      refine p_ifeq (tgt := 114) dX6_readLift_107 (by decide) (by decide) (fun q => absurd q (by decide)) (fun _ => ?_)
      refine pGo (s_aload_n dX6_readLift_110 rfl (by decide)) ?_
      refine p_callV (As := []) (st := []) (n := 0) (d' := 0) (Q1 := Q8) pc9 ok_X9_step ml_X6_92 im_X9_step se_X9_step dX6_readLift_111 (ob_2 S6) (pargs_of rfl) rfl (Nat.le_of_ble_eq_true rfl) (by omega) (f9 τ1 e1 q1 v2 b2 τ2 e2 q2 c1 v3 τ3 e3 q3 v4 τ4 e4 q4 v5 τ5 e5 q5 v6 τ6 e6 q6 c4) (fun r9 τ9 e9 q9 w9 => ?_)
      obtain rfl : r9 = none := w9
      have S9 : Stat τ9 := (Stat.le (σ := (wr (wr τ6 (a0 + 7) x2 v6) (a0 + 8) x2 1)) S6 e9)
      have J9_0 : Inst6 τ9 a0 := Inst6.le (σ := (wr (wr τ6 (a0 + 7) x2 v6) (a0 + 8) x2 1)) J6_0 e9
      show pR mX6_readLift d 114 [(2, a0), (2, 2), (0, x2)] [] τ9 Q
      refine pGo (s_aload_n dX6_readLift_114 rfl J9_0.pos) ?_
      refine pGo (s_dup dX6_readLift_115 (show (2 : Nat) ≠ 1 by decide)) ?_
      refine pGoE (y := (rd τ9 a0 0)) (s_getI pc6 fl_X6_44 dX6_readLift_116 J9_0.o0 rfl (by decide)) rfl ?_
      refine pGo (s_iconst dX6_readLift_119) ?_
      refine pGo (s_iadd dX6_readLift_120) ?_
      refine pGo (s_putI pc6 fl_X6_44 dX6_readLift_121 J9_0.o0 rfl rfl rfl rfl) ?_
      refine pGo (s_aload_n dX6_readLift_124 rfl (by decide)) ?_
      refine pGo (s_bipush dX6_readLift_125 (by decide)) ?_
      refine p_callV (As := [(0, 59)]) (st := []) (n := 1) (d' := 1) (Q1 := Q9) pc9 ok_X9_expect ml_X6_102 im_X9_expect se_X9_expect dX6_readLift_127 (ob_2 S9) (pargs_of rfl) rfl (Nat.le_of_ble_eq_true rfl) (by omega) (f10 τ1 e1 q1 v2 b2 τ2 e2 q2 c1 v3 τ3 e3 q3 v4 τ4 e4 q4 v5 τ5 e5 q5 v6 τ6 e6 q6 c4 τ9 e9 q9) (fun r10 τ10 e10 q10 w10 => ?_)
      obtain ⟨v10, rfl, b10⟩ := pRok_z w10
      have S10 : Stat τ10 := (Stat.le (σ := (wr τ9 a0 0 ((rd τ9 a0 0) + 1))) S9 e10)
      have J10_0 : Inst6 τ10 a0 := Inst6.le (σ := (wr τ9 a0 0 ((rd τ9 a0 0) + 1))) J9_0 e10
      show pR mX6_readLift d 130 [(2, a0), (2, 2), (0, x2)] [(0, v10)] τ10 Q
      exact pEnd (r := (some (0, v10))) dX6_readLift_130 (pRok_01 b10) (k2 τ1 e1 q1 v2 b2 τ2 e2 q2 c1 v3 τ3 e3 q3 v4 τ4 e4 q4 v5 τ5 e5 q5 v6 τ6 e6 q6 c4 τ9 e9 q9 v10 b10 τ10 e10 q10)
  · refine pGo (s_iconst dX6_readLift_13) ?_
    exact pEnd (r := (some (0, 0))) dX6_readLift_14 (Or.inl rfl) (k3 τ1 e1 q1 v2 b2 τ2 e2 q2 c2)
set_option maxRecDepth 100000 in
theorem g_X6_readRun_0 {d : Nat} {σ : pS} {Q : Option pV → pS → Prop} {Q1 : Option pV → pS → Prop} {Q2 : Option pV → pS → Prop} {Q3 : Option pV → pS → Prop} {Q4 : Option pV → pS → Prop} {Q5 : Option pV → pS → Prop} {Q6 : Option pV → pS → Prop} (hd : 3 ≤ d) (hst : Stat σ) (a0 : Int) (x2 : Int) (Ia0 : Inst6 σ a0) (f1 : pC mX9_step 0 [(2, 2)] σ Q1) (f2 : ∀ (τ1 : pS) (e1 : pLe σ τ1) (q1 : Q1 none τ1), pC mX6_readEnds 1 [(2, a0), (2, 2), (0, x2)] τ1 Q2) (g1 : ∀ (τ1 : pS) (e1 : pLe σ τ1) (q1 : Q1 none τ1) (v2 : Int) (b2 : v2 = 0 ∨ v2 = 1) (τ2 : pS) (e2 : pLe τ1 τ2) (q2 : Q2 (some (0, v2)) τ2), inR v2) (f3 : ∀ (τ1 : pS) (e1 : pLe σ τ1) (q1 : Q1 none τ1) (v2 : Int) (b2 : v2 = 0 ∨ v2 = 1) (τ2 : pS) (e2 : pLe τ1 τ2) (q2 : Q2 (some (0, v2)) τ2) (c1 : v2 ≠ 0), pC mX9_numberBehind 2 [(2, 2), (0, 8), (0, 0), (0, 3)] τ2 Q3) (g2 : ∀ (τ1 : pS) (e1 : pLe σ τ1) (q1 : Q1 none τ1) (v2 : Int) (b2 : v2 = 0 ∨ v2 = 1) (τ2 : pS) (e2 : pLe τ1 τ2) (q2 : Q2 (some (0, v2)) τ2) (c1 : v2 ≠ 0) (v3 : Int) (τ3 : pS) (e3 : pLe τ2 τ3) (q3 : Q3 (some (0, v3)) τ3), 0 ≤ x2 ∧ x2 < 17) (f4 : ∀ (τ1 : pS) (e1 : pLe σ τ1) (q1 : Q1 none τ1) (v2 : Int) (b2 : v2 = 0 ∨ v2 = 1) (τ2 : pS) (e2 : pLe τ1 τ2) (q2 : Q2 (some (0, v2)) τ2) (c1 : v2 ≠ 0) (v3 : Int) (τ3 : pS) (e3 : pLe τ2 τ3) (q3 : Q3 (some (0, v3)) τ3), pC mX9_numberBehind 2 [(2, 2), (0, 3), (0, 1), (0, 60)] (wr τ3 (a0 + 9) x2 v3) Q4) (f5 : ∀ (τ1 : pS) (e1 : pLe σ τ1) (q1 : Q1 none τ1) (v2 : Int) (b2 : v2 = 0 ∨ v2 = 1) (τ2 : pS) (e2 : pLe τ1 τ2) (q2 : Q2 (some (0, v2)) τ2) (c1 : v2 ≠ 0) (v3 : Int) (τ3 : pS) (e3 : pLe τ2 τ3) (q3 : Q3 (some (0, v3)) τ3) (v4 : Int) (τ4 : pS) (e4 : pLe (wr τ3 (a0 + 9) x2 v3) τ4) (q4 : Q4 (some (0, v4)) τ4), pC mX9_numberBehind 2 [(2, 2), (0, 9), (0, 0), (0, 300)] (wr τ4 (a0 + 4) x2 v4) Q5) (f6 : ∀ (τ1 : pS) (e1 : pLe σ τ1) (q1 : Q1 none τ1) (v2 : Int) (b2 : v2 = 0 ∨ v2 = 1) (τ2 : pS) (e2 : pLe τ1 τ2) (q2 : Q2 (some (0, v2)) τ2) (c1 : v2 ≠ 0) (v3 : Int) (τ3 : pS) (e3 : pLe τ2 τ3) (q3 : Q3 (some (0, v3)) τ3) (v4 : Int) (τ4 : pS) (e4 : pLe (wr τ3 (a0 + 9) x2 v3) τ4) (q4 : Q4 (some (0, v4)) τ4) (v5 : Int) (τ5 : pS) (e5 : pLe (wr τ4 (a0 + 4) x2 v4) τ5) (q5 : Q5 (some (0, v5)) τ5), pC mX9_expect 1 [(2, 2), (0, 59)] (wr (wr (wr τ5 (a0 + 10) x2 v5) (a0 + 7) x2 480) a0 1 ((rd τ5 a0 1) + 1)) Q6) (k1 : ∀ (τ1 : pS) (e1 : pLe σ τ1) (q1 : Q1 none τ1) (v2 : Int) (b2 : v2 = 0 ∨ v2 = 1) (τ2 : pS) (e2 : pLe τ1 τ2) (q2 : Q2 (some (0, v2)) τ2) (c1 : v2 ≠ 0) (v3 : Int) (τ3 : pS) (e3 : pLe τ2 τ3) (q3 : Q3 (some (0, v3)) τ3) (v4 : Int) (τ4 : pS) (e4 : pLe (wr τ3 (a0 + 9) x2 v3) τ4) (q4 : Q4 (some (0, v4)) τ4) (v5 : Int) (τ5 : pS) (e5 : pLe (wr τ4 (a0 + 4) x2 v4) τ5) (q5 : Q5 (some (0, v5)) τ5) (v6 : Int) (b6 : v6 = 0 ∨ v6 = 1) (τ6 : pS) (e6 : pLe (wr (wr (wr τ5 (a0 + 10) x2 v5) (a0 + 7) x2 480) a0 1 ((rd τ5 a0 1) + 1)) τ6) (q6 : Q6 (some (0, v6)) τ6), Q (some (0, v6)) τ6) (k2 : ∀ (τ1 : pS) (e1 : pLe σ τ1) (q1 : Q1 none τ1) (v2 : Int) (b2 : v2 = 0 ∨ v2 = 1) (τ2 : pS) (e2 : pLe τ1 τ2) (q2 : Q2 (some (0, v2)) τ2) (c2 : v2 = 0), Q (some (0, 0)) τ2) : pC mX6_readRun d [(2, a0), (2, 2), (0, x2)] σ Q := by
  show pR mX6_readRun d 0 [(2, a0), (2, 2), (0, x2)] [] σ Q
  refine pGo (s_aload_n dX6_readRun_0 rfl (by decide)) ?_
  refine p_callV (As := []) (st := []) (n := 0) (d' := 0) (Q1 := Q1) pc9 ok_X9_step ml_X6_92 im_X9_step se_X9_step dX6_readRun_1 (ob_2 hst) (pargs_of rfl) rfl (Nat.le_of_ble_eq_true rfl) (by omega) f1 (fun r1 τ1 e1 q1 w1 => ?_)
  obtain rfl : r1 = none := w1
  have S1 : Stat τ1 := (Stat.le (σ := σ) hst e1)
  have J1_0 : Inst6 τ1 a0 := Inst6.le (σ := σ) Ia0 e1
  show pR mX6_readRun d 4 [(2, a0), (2, 2), (0, x2)] [] τ1 Q
  refine pGo (s_aload_n dX6_readRun_4 rfl J1_0.pos) ?_
  refine pGo (s_aload_n dX6_readRun_5 rfl (by decide)) ?_
  refine pGo (s_iload_n dX6_readRun_6 rfl) ?_
  refine p_callV (As := [(2, 2), (0, x2)]) (st := []) (n := 2) (d' := 1) (Q1 := Q2) pc6 ok_X6_readEnds ml_X6_95 im_X6_readEnds se_X6_readEnds dX6_readRun_7 J1_0.o0 (pargs_of rfl) rfl (Nat.le_of_ble_eq_true rfl) (by omega) (f2 τ1 e1 q1) (fun r2 τ2 e2 q2 w2 => ?_)
  obtain ⟨v2, rfl, b2⟩ := pRok_z w2
  have S2 : Stat τ2 := (Stat.le (σ := τ1) S1 e2)
  have J2_0 : Inst6 τ2 a0 := Inst6.le (σ := τ1) J1_0 e2
  show pR mX6_readRun d 10 [(2, a0), (2, 2), (0, x2)] [(0, v2)] τ2 Q
  refine p_ifne (tgt := 15) dX6_readRun_10 (by decide) (g1 τ1 e1 q1 v2 b2 τ2 e2 q2) (fun c1 => ?_) (fun c2 => ?_)
  · refine pGo (s_aload_n dX6_readRun_15 rfl J2_0.pos) ?_
    refine pGo (s_getF pc6 fl_X6_38 dX6_readRun_16 J2_0.o0 rfl (by decide)) ?_
    refine pGo (s_iload_n dX6_readRun_19 rfl) ?_
    refine pGo (s_aload_n dX6_readRun_20 rfl (by decide)) ?_
    refine pGo (s_bipush dX6_readRun_21 (by decide)) ?_
    refine pGo (s_iconst dX6_readRun_23) ?_
    refine pGo (s_iconst dX6_readRun_24) ?_
    refine p_callV (As := [(0, 8), (0, 0), (0, 3)]) (st := [(0, x2), (2, (a0 + 9))]) (n := 3) (d' := 2) (Q1 := Q3) pc9 ok_X9_numberBehind ml_X6_98 im_X9_numberBehind se_X9_numberBehind dX6_readRun_25 (ob_2 S2) (pargs_of rfl) rfl (Nat.le_of_ble_eq_true rfl) (by omega) (f3 τ1 e1 q1 v2 b2 τ2 e2 q2 c1) (fun r3 τ3 e3 q3 w3 => ?_)
    obtain ⟨v3, rfl⟩ := w3
    have S3 : Stat τ3 := (Stat.le (σ := τ2) S2 e3)
    have J3_0 : Inst6 τ3 a0 := Inst6.le (σ := τ2) J2_0 e3
    show pR mX6_readRun d 28 [(2, a0), (2, 2), (0, x2)] [(0, v3), (0, x2), (2, (a0 + 9))] τ3 Q
    refine pGo (s_iast dX6_readRun_28 J3_0.o9 (bnd (g2 τ1 e1 q1 v2 b2 τ2 e2 q2 c1 v3 τ3 e3 q3))) ?_
    refine pGo (s_aload_n dX6_readRun_29 rfl J3_0.pos) ?_
    refine pGo (s_getF pc6 fl_X6_22 dX6_readRun_30 J3_0.o0 rfl (by decide)) ?_
    refine pGo (s_iload_n dX6_readRun_33 rfl) ?_
    refine pGo (s_aload_n dX6_readRun_34 rfl (by decide)) ?_
    refine pGo (s_iconst dX6_readRun_35) ?_
    refine pGo (s_iconst dX6_readRun_36) ?_
    refine pGo (s_bipush dX6_readRun_37 (by decide)) ?_
    refine p_callV (As := [(0, 3), (0, 1), (0, 60)]) (st := [(0, x2), (2, (a0 + 4))]) (n := 3) (d' := 2) (Q1 := Q4) pc9 ok_X9_numberBehind ml_X6_98 im_X9_numberBehind se_X9_numberBehind dX6_readRun_39 (ob_2 S3) (pargs_of rfl) rfl (Nat.le_of_ble_eq_true rfl) (by omega) (f4 τ1 e1 q1 v2 b2 τ2 e2 q2 c1 v3 τ3 e3 q3) (fun r4 τ4 e4 q4 w4 => ?_)
    obtain ⟨v4, rfl⟩ := w4
    have S4 : Stat τ4 := (Stat.le (σ := (wr τ3 (a0 + 9) x2 v3)) S3 e4)
    have J4_0 : Inst6 τ4 a0 := Inst6.le (σ := (wr τ3 (a0 + 9) x2 v3)) J3_0 e4
    show pR mX6_readRun d 42 [(2, a0), (2, 2), (0, x2)] [(0, v4), (0, x2), (2, (a0 + 4))] τ4 Q
    refine pGo (s_iast dX6_readRun_42 J4_0.o4 (bnd (g2 τ1 e1 q1 v2 b2 τ2 e2 q2 c1 v3 τ3 e3 q3))) ?_
    refine pGo (s_aload_n dX6_readRun_43 rfl J4_0.pos) ?_
    refine pGo (s_getF pc6 fl_X6_41 dX6_readRun_44 J4_0.o0 rfl (by decide)) ?_
    refine pGo (s_iload_n dX6_readRun_47 rfl) ?_
    refine pGo (s_aload_n dX6_readRun_48 rfl (by decide)) ?_
    refine pGo (s_bipush dX6_readRun_49 (by decide)) ?_
    refine pGo (s_iconst dX6_readRun_51) ?_
    refine pGo (s_sipush dX6_readRun_52 (by decide)) ?_
    refine p_callV (As := [(0, 9), (0, 0), (0, 300)]) (st := [(0, x2), (2, (a0 + 10))]) (n := 3) (d' := 2) (Q1 := Q5) pc9 ok_X9_numberBehind ml_X6_98 im_X9_numberBehind se_X9_numberBehind dX6_readRun_55 (ob_2 S4) (pargs_of rfl) rfl (Nat.le_of_ble_eq_true rfl) (by omega) (f5 τ1 e1 q1 v2 b2 τ2 e2 q2 c1 v3 τ3 e3 q3 v4 τ4 e4 q4) (fun r5 τ5 e5 q5 w5 => ?_)
    obtain ⟨v5, rfl⟩ := w5
    have S5 : Stat τ5 := (Stat.le (σ := (wr τ4 (a0 + 4) x2 v4)) S4 e5)
    have J5_0 : Inst6 τ5 a0 := Inst6.le (σ := (wr τ4 (a0 + 4) x2 v4)) J4_0 e5
    show pR mX6_readRun d 58 [(2, a0), (2, 2), (0, x2)] [(0, v5), (0, x2), (2, (a0 + 10))] τ5 Q
    refine pGo (s_iast dX6_readRun_58 J5_0.o10 (bnd (g2 τ1 e1 q1 v2 b2 τ2 e2 q2 c1 v3 τ3 e3 q3))) ?_
    refine pGo (s_aload_n dX6_readRun_59 rfl J5_0.pos) ?_
    refine pGo (s_getF pc6 fl_X6_31 dX6_readRun_60 J5_0.o0 rfl (by decide)) ?_
    refine pGo (s_iload_n dX6_readRun_63 rfl) ?_
    refine pGo (s_sipush dX6_readRun_64 (by decide)) ?_
    refine pGo (s_iast dX6_readRun_67 J5_0.o7 (bnd (g2 τ1 e1 q1 v2 b2 τ2 e2 q2 c1 v3 τ3 e3 q3))) ?_
    refine pGo (s_aload_n dX6_readRun_68 rfl J5_0.pos) ?_
    refine pGo (s_dup dX6_readRun_69 (show (2 : Nat) ≠ 1 by decide)) ?_
    refine pGoE (y := (rd τ5 a0 1)) (s_getI pc6 fl_X6_52 dX6_readRun_70 J5_0.o0 rfl (by decide)) ((rd_wr_a _ (by omega)).trans (rd_wr_a _ (by omega))) ?_
    refine pGo (s_iconst dX6_readRun_73) ?_
    refine pGo (s_iadd dX6_readRun_74) ?_
    refine pGo (s_putI pc6 fl_X6_52 dX6_readRun_75 J5_0.o0 rfl rfl rfl rfl) ?_
    refine pGo (s_aload_n dX6_readRun_78 rfl (by decide)) ?_
    refine pGo (s_bipush dX6_readRun_79 (by decide)) ?_
    refine p_callV (As := [(0, 59)]) (st := []) (n := 1) (d' := 1) (Q1 := Q6) pc9 ok_X9_expect ml_X6_102 im_X9_expect se_X9_expect dX6_readRun_81 (ob_2 S5) (pargs_of rfl) rfl (Nat.le_of_ble_eq_true rfl) (by omega) (f6 τ1 e1 q1 v2 b2 τ2 e2 q2 c1 v3 τ3 e3 q3 v4 τ4 e4 q4 v5 τ5 e5 q5) (fun r6 τ6 e6 q6 w6 => ?_)
    obtain ⟨v6, rfl, b6⟩ := pRok_z w6
    have S6 : Stat τ6 := (Stat.le (σ := (wr (wr (wr τ5 (a0 + 10) x2 v5) (a0 + 7) x2 480) a0 1 ((rd τ5 a0 1) + 1))) S5 e6)
    have J6_0 : Inst6 τ6 a0 := Inst6.le (σ := (wr (wr (wr τ5 (a0 + 10) x2 v5) (a0 + 7) x2 480) a0 1 ((rd τ5 a0 1) + 1))) J5_0 e6
    show pR mX6_readRun d 84 [(2, a0), (2, 2), (0, x2)] [(0, v6)] τ6 Q
    exact pEnd (r := (some (0, v6))) dX6_readRun_84 (pRok_01 b6) (k1 τ1 e1 q1 v2 b2 τ2 e2 q2 c1 v3 τ3 e3 q3 v4 τ4 e4 q4 v5 τ5 e5 q5 v6 b6 τ6 e6 q6)
  · refine pGo (s_iconst dX6_readRun_13) ?_
    exact pEnd (r := (some (0, 0))) dX6_readRun_14 (Or.inl rfl) (k2 τ1 e1 q1 v2 b2 τ2 e2 q2 c2)
set_option maxRecDepth 100000 in
theorem g_X6_readHome_0 {d : Nat} {σ : pS} {Q : Option pV → pS → Prop} {Q1 : Option pV → pS → Prop} {Q2 : Option pV → pS → Prop} {Q3 : Option pV → pS → Prop} {Q4 : Option pV → pS → Prop} (hd : 2 ≤ d) (hst : Stat σ) (a0 : Int) (Ia0 : Inst6 σ a0) (f1 : pC mX9_step 0 [(2, 2)] σ Q1) (f2 : ∀ (τ1 : pS) (e1 : pLe σ τ1) (q1 : Q1 none τ1), pC mX9_kind 0 [(2, 2)] τ1 (fun r τ => r = some (0, (vTkK τ1)) ∧ τ = τ1)) (g1 : ∀ (τ1 : pS) (e1 : pLe σ τ1) (q1 : Q1 none τ1), inR (vTkK τ1)) (f3 : ∀ (τ1 : pS) (e1 : pLe σ τ1) (q1 : Q1 none τ1) (c1 : (vTkK τ1) = 20), pC mX9_value 0 [(2, 2)] τ1 (fun r τ => r = some (1, (vTkV τ1)) ∧ τ = τ1)) (f4 : ∀ (τ1 : pS) (e1 : pLe σ τ1) (q1 : Q1 none τ1) (c1 : (vTkK τ1) = 20), pC mX9_step 0 [(2, 2)] (wr (wr τ1 a0 3 (vTkV τ1)) a0 4 1) Q2) (f5 : ∀ (τ1 : pS) (e1 : pLe σ τ1) (q1 : Q1 none τ1) (c1 : (vTkK τ1) = 20) (τ4 : pS) (e4 : pLe (wr (wr τ1 a0 3 (vTkV τ1)) a0 4 1) τ4) (q4 : Q2 none τ4), pC mX9_expect 1 [(2, 2), (0, 59)] τ4 Q3) (k1 : ∀ (τ1 : pS) (e1 : pLe σ τ1) (q1 : Q1 none τ1) (c1 : (vTkK τ1) = 20) (τ4 : pS) (e4 : pLe (wr (wr τ1 a0 3 (vTkV τ1)) a0 4 1) τ4) (q4 : Q2 none τ4) (v5 : Int) (b5 : v5 = 0 ∨ v5 = 1) (τ5 : pS) (e5 : pLe τ4 τ5) (q5 : Q3 (some (0, v5)) τ5), Q (some (0, v5)) τ5) (f6 : ∀ (τ1 : pS) (e1 : pLe σ τ1) (q1 : Q1 none τ1) (c2 : (vTkK τ1) ≠ 20), pC mX9_fail 0 [(2, 2), (0, 2)] τ1 Q4) (k2 : ∀ (τ1 : pS) (e1 : pLe σ τ1) (q1 : Q1 none τ1) (c2 : (vTkK τ1) ≠ 20) (v6 : Int) (b6 : v6 = 0 ∨ v6 = 1) (τ6 : pS) (e6 : pLe τ1 τ6) (q6 : Q4 (some (0, v6)) τ6), Q (some (0, v6)) τ6) : pC mX6_readHome d [(2, a0), (2, 2)] σ Q := by
  show pR mX6_readHome d 0 [(2, a0), (2, 2)] [] σ Q
  refine pGo (s_aload_n dX6_readHome_0 rfl (by decide)) ?_
  refine p_callV (As := []) (st := []) (n := 0) (d' := 0) (Q1 := Q1) pc9 ok_X9_step ml_X6_92 im_X9_step se_X9_step dX6_readHome_1 (ob_2 hst) (pargs_of rfl) rfl (Nat.le_of_ble_eq_true rfl) (by omega) f1 (fun r1 τ1 e1 q1 w1 => ?_)
  obtain rfl : r1 = none := w1
  have S1 : Stat τ1 := (Stat.le (σ := σ) hst e1)
  have J1_0 : Inst6 τ1 a0 := Inst6.le (σ := σ) Ia0 e1
  show pR mX6_readHome d 4 [(2, a0), (2, 2)] [] τ1 Q
  refine pGo (s_aload_n dX6_readHome_4 rfl (by decide)) ?_
  refine p_callV (As := []) (st := []) (n := 0) (d' := 0) (Q1 := (fun r τ => r = some (0, (vTkK τ1)) ∧ τ = τ1)) pc9 ok_X9_kind ml_X6_61 im_X9_kind se_X9_kind dX6_readHome_5 (ob_2 S1) (pargs_of rfl) rfl (Nat.le_of_ble_eq_true rfl) (by omega) (f2 τ1 e1 q1) (fun r2 τ2 e2 q2 w2 => ?_)
  obtain ⟨rfl, t2⟩ := q2
  rw [t2]
  show pR mX6_readHome d 8 [(2, a0), (2, 2)] [(0, (vTkK τ1))] τ1 Q
  refine pGo (s_bipush dX6_readHome_8 (by decide)) ?_
  refine p_iceq (tgt := 19) dX6_readHome_10 (by decide) (g1 τ1 e1 q1) (by decide) (fun c1 => ?_) (fun c2 => ?_)
  · refine pGo (s_aload_n dX6_readHome_19 rfl J1_0.pos) ?_
    refine pGo (s_aload_n dX6_readHome_20 rfl (by decide)) ?_
    refine p_callV (As := []) (st := [(2, a0)]) (n := 0) (d' := 0) (Q1 := (fun r τ => r = some (1, (vTkV τ1)) ∧ τ = τ1)) pc9 ok_X9_value ml_X6_105 im_X9_value se_X9_value dX6_readHome_21 (ob_2 S1) (pargs_of rfl) rfl (Nat.le_of_ble_eq_true rfl) (by omega) (f3 τ1 e1 q1 c1) (fun r3 τ3 e3 q3 w3 => ?_)
    obtain ⟨rfl, t3⟩ := q3
    rw [t3]
    show pR mX6_readHome d 24 [(2, a0), (2, 2)] [(1, (vTkV τ1)), (2, a0)] τ1 Q
    refine pGo (s_l2i dX6_readHome_24) ?_
    refine pGo (s_putI pc6 fl_X6_109 dX6_readHome_25 J1_0.o0 rfl rfl rfl rfl) ?_
    refine pGo (s_aload_n dX6_readHome_28 rfl J1_0.pos) ?_
    refine pGo (s_iconst dX6_readHome_29) ?_
    refine pGo (s_putZ pc6 fl_X6_81 dX6_readHome_30 J1_0.o0 rfl rfl rfl rfl (by decide)) ?_
    refine pGo (s_aload_n dX6_readHome_33 rfl (by decide)) ?_
    refine p_callV (As := []) (st := []) (n := 0) (d' := 0) (Q1 := Q2) pc9 ok_X9_step ml_X6_92 im_X9_step se_X9_step dX6_readHome_34 (ob_2 S1) (pargs_of rfl) rfl (Nat.le_of_ble_eq_true rfl) (by omega) (f4 τ1 e1 q1 c1) (fun r4 τ4 e4 q4 w4 => ?_)
    obtain rfl : r4 = none := w4
    have S4 : Stat τ4 := (Stat.le (σ := (wr (wr τ1 a0 3 (vTkV τ1)) a0 4 1)) S1 e4)
    have J4_0 : Inst6 τ4 a0 := Inst6.le (σ := (wr (wr τ1 a0 3 (vTkV τ1)) a0 4 1)) J1_0 e4
    show pR mX6_readHome d 37 [(2, a0), (2, 2)] [] τ4 Q
    refine pGo (s_aload_n dX6_readHome_37 rfl (by decide)) ?_
    refine pGo (s_bipush dX6_readHome_38 (by decide)) ?_
    refine p_callV (As := [(0, 59)]) (st := []) (n := 1) (d' := 1) (Q1 := Q3) pc9 ok_X9_expect ml_X6_102 im_X9_expect se_X9_expect dX6_readHome_40 (ob_2 S4) (pargs_of rfl) rfl (Nat.le_of_ble_eq_true rfl) (by omega) (f5 τ1 e1 q1 c1 τ4 e4 q4) (fun r5 τ5 e5 q5 w5 => ?_)
    obtain ⟨v5, rfl, b5⟩ := pRok_z w5
    have S5 : Stat τ5 := (Stat.le (σ := τ4) S4 e5)
    have J5_0 : Inst6 τ5 a0 := Inst6.le (σ := τ4) J4_0 e5
    show pR mX6_readHome d 43 [(2, a0), (2, 2)] [(0, v5)] τ5 Q
    exact pEnd (r := (some (0, v5))) dX6_readHome_43 (pRok_01 b5) (k1 τ1 e1 q1 c1 τ4 e4 q4 v5 b5 τ5 e5 q5)
  · refine pGo (s_aload_n dX6_readHome_13 rfl (by decide)) ?_
    refine pGo (s_iconst dX6_readHome_14) ?_
    refine p_callV (As := [(0, 2)]) (st := []) (n := 1) (d' := 0) (Q1 := Q4) pc9 ok_X9_fail ml_X6_88 im_X9_fail se_X9_fail dX6_readHome_15 (ob_2 S1) (pargs_of rfl) rfl (Nat.le_of_ble_eq_true rfl) (by omega) (f6 τ1 e1 q1 c2) (fun r6 τ6 e6 q6 w6 => ?_)
    obtain ⟨v6, rfl, b6⟩ := pRok_z w6
    have S6 : Stat τ6 := (Stat.le (σ := τ1) S1 e6)
    have J6_0 : Inst6 τ6 a0 := Inst6.le (σ := τ1) J1_0 e6
    show pR mX6_readHome d 18 [(2, a0), (2, 2)] [(0, v6)] τ6 Q
    exact pEnd (r := (some (0, v6))) dX6_readHome_18 (pRok_01 b6) (k2 τ1 e1 q1 c2 v6 b6 τ6 e6 q6)
set_option maxRecDepth 100000 in
theorem g_X6_readLine_0 {d : Nat} {σ : pS} {Q : Option pV → pS → Prop} {Q1 : Option pV → pS → Prop} {Q2 : Option pV → pS → Prop} {Q3 : Option pV → pS → Prop} {Q4 : Option pV → pS → Prop} {Q5 : Option pV → pS → Prop} {Q6 : Option pV → pS → Prop} {Q7 : Option pV → pS → Prop} {Q8 : Option pV → pS → Prop} {Q9 : Option pV → pS → Prop} {Q10 : Option pV → pS → Prop} {Q11 : Option pV → pS → Prop} {Q12 : Option pV → pS → Prop} {Q13 : Option pV → pS → Prop} {Q14 : Option pV → pS → Prop} {Q15 : Option pV → pS → Prop} (hd : 4 ≤ d) (hst : Stat σ) (a0 : Int) (Ia0 : Inst6 σ a0) (f1 : pC mX9_kind 0 [(2, 2)] σ (fun r τ => r = some (0, (vTkK σ)) ∧ τ = σ)) (g1 : inR (vTkK σ)) (f2 : ∀ (c1 : (vTkK σ) ≠ 0) (c3 : (vTkK σ) ≠ 1) (c5 : (vTkK σ) ≠ 2), pC mX9_fail 0 [(2, 2), (0, 2)] σ Q1) (k1 : ∀ (c1 : (vTkK σ) ≠ 0) (c3 : (vTkK σ) ≠ 1) (c5 : (vTkK σ) ≠ 2) (v2 : Int) (b2 : v2 = 0 ∨ v2 = 1) (τ2 : pS) (e2 : pLe σ τ2) (q2 : Q1 (some (0, v2)) τ2), Q (some (0, v2)) τ2) (g2 : ∀ (c1 : (vTkK σ) ≠ 0) (c3 : (vTkK σ) ≠ 1) (c6 : (vTkK σ) = 2), inR (rd σ a0 4)) (f3 : ∀ (c1 : (vTkK σ) ≠ 0) (c3 : (vTkK σ) ≠ 1) (c6 : (vTkK σ) = 2) (c7 : (rd σ a0 4) ≠ 0), pC mX9_fail 0 [(2, 2), (0, 2)] σ Q2) (k2 : ∀ (c1 : (vTkK σ) ≠ 0) (c3 : (vTkK σ) ≠ 1) (c6 : (vTkK σ) = 2) (c7 : (rd σ a0 4) ≠ 0) (v3 : Int) (b3 : v3 = 0 ∨ v3 = 1) (τ3 : pS) (e3 : pLe σ τ3) (q3 : Q2 (some (0, v3)) τ3), Q (some (0, v3)) τ3) (f4 : ∀ (c1 : (vTkK σ) ≠ 0) (c3 : (vTkK σ) ≠ 1) (c6 : (vTkK σ) = 2) (c8 : (rd σ a0 4) = 0), pC mX6_readHome 2 [(2, a0), (2, 2)] σ Q3) (k3 : ∀ (c1 : (vTkK σ) ≠ 0) (c3 : (vTkK σ) ≠ 1) (c6 : (vTkK σ) = 2) (c8 : (rd σ a0 4) = 0) (v4 : Int) (b4 : v4 = 0 ∨ v4 = 1) (τ4 : pS) (e4 : pLe σ τ4) (q4 : Q3 (some (0, v4)) τ4), Q (some (0, v4)) τ4) (g3 : ∀ (c1 : (vTkK σ) ≠ 0) (c4 : (vTkK σ) = 1), inR (rd σ a0 1)) (f5 : ∀ (c1 : (vTkK σ) ≠ 0) (c4 : (vTkK σ) = 1) (c9 : 7 ≤ (rd σ a0 1)) (c11 : (vTkK σ) ≠ 2), pC mX9_fail 0 [(2, 2), (0, 2)] σ Q4) (k4 : ∀ (c1 : (vTkK σ) ≠ 0) (c4 : (vTkK σ) = 1) (c9 : 7 ≤ (rd σ a0 1)) (c11 : (vTkK σ) ≠ 2) (v5 : Int) (b5 : v5 = 0 ∨ v5 = 1) (τ5 : pS) (e5 : pLe σ τ5) (q5 : Q4 (some (0, v5)) τ5), Q (some (0, v5)) τ5) (g4 : ∀ (c1 : (vTkK σ) ≠ 0) (c4 : (vTkK σ) = 1) (c9 : 7 ≤ (rd σ a0 1)) (c12 : (vTkK σ) = 2), inR (rd σ a0 4)) (f6 : ∀ (c1 : (vTkK σ) ≠ 0) (c4 : (vTkK σ) = 1) (c9 : 7 ≤ (rd σ a0 1)) (c12 : (vTkK σ) = 2) (c13 : (rd σ a0 4) ≠ 0), pC mX9_fail 0 [(2, 2), (0, 2)] σ Q5) (k5 : ∀ (c1 : (vTkK σ) ≠ 0) (c4 : (vTkK σ) = 1) (c9 : 7 ≤ (rd σ a0 1)) (c12 : (vTkK σ) = 2) (c13 : (rd σ a0 4) ≠ 0) (v6 : Int) (b6 : v6 = 0 ∨ v6 = 1) (τ6 : pS) (e6 : pLe σ τ6) (q6 : Q5 (some (0, v6)) τ6), Q (some (0, v6)) τ6) (f7 : ∀ (c1 : (vTkK σ) ≠ 0) (c4 : (vTkK σ) = 1) (c9 : 7 ≤ (rd σ a0 1)) (c12 : (vTkK σ) = 2) (c14 : (rd σ a0 4) = 0), pC mX6_readHome 2 [(2, a0), (2, 2)] σ Q6) (k6 : ∀ (c1 : (vTkK σ) ≠ 0) (c4 : (vTkK σ) = 1) (c9 : 7 ≤ (rd σ a0 1)) (c12 : (vTkK σ) = 2) (c14 : (rd σ a0 4) = 0) (v7 : Int) (b7 : v7 = 0 ∨ v7 = 1) (τ7 : pS) (e7 : pLe σ τ7) (q7 : Q6 (some (0, v7)) τ7), Q (some (0, v7)) τ7) (f8 : ∀ (c1 : (vTkK σ) ≠ 0) (c4 : (vTkK σ) = 1) (c10 : (rd σ a0 1) < 7), pC mX6_readRun 3 [(2, a0), (2, 2), (0, (10 + (rd σ a0 1)))] σ Q7) (k7 : ∀ (c1 : (vTkK σ) ≠ 0) (c4 : (vTkK σ) = 1) (c10 : (rd σ a0 1) < 7) (v8 : Int) (b8 : v8 = 0 ∨ v8 = 1) (τ8 : pS) (e8 : pLe σ τ8) (q8 : Q7 (some (0, v8)) τ8), Q (some (0, v8)) τ8) (g5 : ∀ (c2 : (vTkK σ) = 0), inR (rd σ a0 0)) (f9 : ∀ (c2 : (vTkK σ) = 0) (c15 : 6 ≤ (rd σ a0 0)) (c17 : (vTkK σ) ≠ 1) (c19 : (vTkK σ) ≠ 2), pC mX9_fail 0 [(2, 2), (0, 2)] σ Q8) (k8 : ∀ (c2 : (vTkK σ) = 0) (c15 : 6 ≤ (rd σ a0 0)) (c17 : (vTkK σ) ≠ 1) (c19 : (vTkK σ) ≠ 2) (v9 : Int) (b9 : v9 = 0 ∨ v9 = 1) (τ9 : pS) (e9 : pLe σ τ9) (q9 : Q8 (some (0, v9)) τ9), Q (some (0, v9)) τ9) (g6 : ∀ (c2 : (vTkK σ) = 0) (c15 : 6 ≤ (rd σ a0 0)) (c17 : (vTkK σ) ≠ 1) (c20 : (vTkK σ) = 2), inR (rd σ a0 4)) (f10 : ∀ (c2 : (vTkK σ) = 0) (c15 : 6 ≤ (rd σ a0 0)) (c17 : (vTkK σ) ≠ 1) (c20 : (vTkK σ) = 2) (c21 : (rd σ a0 4) ≠ 0), pC mX9_fail 0 [(2, 2), (0, 2)] σ Q9) (k9 : ∀ (c2 : (vTkK σ) = 0) (c15 : 6 ≤ (rd σ a0 0)) (c17 : (vTkK σ) ≠ 1) (c20 : (vTkK σ) = 2) (c21 : (rd σ a0 4) ≠ 0) (v10 : Int) (b10 : v10 = 0 ∨ v10 = 1) (τ10 : pS) (e10 : pLe σ τ10) (q10 : Q9 (some (0, v10)) τ10), Q (some (0, v10)) τ10) (f11 : ∀ (c2 : (vTkK σ) = 0) (c15 : 6 ≤ (rd σ a0 0)) (c17 : (vTkK σ) ≠ 1) (c20 : (vTkK σ) = 2) (c22 : (rd σ a0 4) = 0), pC mX6_readHome 2 [(2, a0), (2, 2)] σ Q10) (k10 : ∀ (c2 : (vTkK σ) = 0) (c15 : 6 ≤ (rd σ a0 0)) (c17 : (vTkK σ) ≠ 1) (c20 : (vTkK σ) = 2) (c22 : (rd σ a0 4) = 0) (v11 : Int) (b11 : v11 = 0 ∨ v11 = 1) (τ11 : pS) (e11 : pLe σ τ11) (q11 : Q10 (some (0, v11)) τ11), Q (some (0, v11)) τ11) (g7 : ∀ (c2 : (vTkK σ) = 0) (c15 : 6 ≤ (rd σ a0 0)) (c18 : (vTkK σ) = 1), inR (rd σ a0 1)) (f12 : ∀ (c2 : (vTkK σ) = 0) (c15 : 6 ≤ (rd σ a0 0)) (c18 : (vTkK σ) = 1) (c23 : 7 ≤ (rd σ a0 1)) (c25 : (vTkK σ) ≠ 2), pC mX9_fail 0 [(2, 2), (0, 2)] σ Q11) (k11 : ∀ (c2 : (vTkK σ) = 0) (c15 : 6 ≤ (rd σ a0 0)) (c18 : (vTkK σ) = 1) (c23 : 7 ≤ (rd σ a0 1)) (c25 : (vTkK σ) ≠ 2) (v12 : Int) (b12 : v12 = 0 ∨ v12 = 1) (τ12 : pS) (e12 : pLe σ τ12) (q12 : Q11 (some (0, v12)) τ12), Q (some (0, v12)) τ12) (g8 : ∀ (c2 : (vTkK σ) = 0) (c15 : 6 ≤ (rd σ a0 0)) (c18 : (vTkK σ) = 1) (c23 : 7 ≤ (rd σ a0 1)) (c26 : (vTkK σ) = 2), inR (rd σ a0 4)) (f13 : ∀ (c2 : (vTkK σ) = 0) (c15 : 6 ≤ (rd σ a0 0)) (c18 : (vTkK σ) = 1) (c23 : 7 ≤ (rd σ a0 1)) (c26 : (vTkK σ) = 2) (c27 : (rd σ a0 4) ≠ 0), pC mX9_fail 0 [(2, 2), (0, 2)] σ Q12) (k12 : ∀ (c2 : (vTkK σ) = 0) (c15 : 6 ≤ (rd σ a0 0)) (c18 : (vTkK σ) = 1) (c23 : 7 ≤ (rd σ a0 1)) (c26 : (vTkK σ) = 2) (c27 : (rd σ a0 4) ≠ 0) (v13 : Int) (b13 : v13 = 0 ∨ v13 = 1) (τ13 : pS) (e13 : pLe σ τ13) (q13 : Q12 (some (0, v13)) τ13), Q (some (0, v13)) τ13) (f14 : ∀ (c2 : (vTkK σ) = 0) (c15 : 6 ≤ (rd σ a0 0)) (c18 : (vTkK σ) = 1) (c23 : 7 ≤ (rd σ a0 1)) (c26 : (vTkK σ) = 2) (c28 : (rd σ a0 4) = 0), pC mX6_readHome 2 [(2, a0), (2, 2)] σ Q13) (k13 : ∀ (c2 : (vTkK σ) = 0) (c15 : 6 ≤ (rd σ a0 0)) (c18 : (vTkK σ) = 1) (c23 : 7 ≤ (rd σ a0 1)) (c26 : (vTkK σ) = 2) (c28 : (rd σ a0 4) = 0) (v14 : Int) (b14 : v14 = 0 ∨ v14 = 1) (τ14 : pS) (e14 : pLe σ τ14) (q14 : Q13 (some (0, v14)) τ14), Q (some (0, v14)) τ14) (f15 : ∀ (c2 : (vTkK σ) = 0) (c15 : 6 ≤ (rd σ a0 0)) (c18 : (vTkK σ) = 1) (c24 : (rd σ a0 1) < 7), pC mX6_readRun 3 [(2, a0), (2, 2), (0, (10 + (rd σ a0 1)))] σ Q14) (k14 : ∀ (c2 : (vTkK σ) = 0) (c15 : 6 ≤ (rd σ a0 0)) (c18 : (vTkK σ) = 1) (c24 : (rd σ a0 1) < 7) (v15 : Int) (b15 : v15 = 0 ∨ v15 = 1) (τ15 : pS) (e15 : pLe σ τ15) (q15 : Q14 (some (0, v15)) τ15), Q (some (0, v15)) τ15) (f16 : ∀ (c2 : (vTkK σ) = 0) (c16 : (rd σ a0 0) < 6), pC mX6_readLift 3 [(2, a0), (2, 2), (0, (rd σ a0 0))] σ Q15) (k15 : ∀ (c2 : (vTkK σ) = 0) (c16 : (rd σ a0 0) < 6) (v16 : Int) (b16 : v16 = 0 ∨ v16 = 1) (τ16 : pS) (e16 : pLe σ τ16) (q16 : Q15 (some (0, v16)) τ16), Q (some (0, v16)) τ16) : pC mX6_readLine d [(2, a0), (2, 2)] σ Q := by
  show pR mX6_readLine d 0 [(2, a0), (2, 2), (9, 0)] [] σ Q
  refine pGo (s_aload_n dX6_readLine_0 rfl (by decide)) ?_
  refine p_callV (As := []) (st := []) (n := 0) (d' := 0) (Q1 := (fun r τ => r = some (0, (vTkK σ)) ∧ τ = σ)) pc9 ok_X9_kind ml_X6_61 im_X9_kind se_X9_kind dX6_readLine_1 (ob_2 hst) (pargs_of rfl) rfl (Nat.le_of_ble_eq_true rfl) (by omega) f1 (fun r1 τ1 e1 q1 w1 => ?_)
  obtain ⟨rfl, t1⟩ := q1
  rw [t1]
  show pR mX6_readLine d 4 [(2, a0), (2, 2), (9, 0)] [(0, (vTkK σ))] σ Q
  refine pGoL (ls2 := [(2, a0), (2, 2), (0, (vTkK σ))]) (s_istore_n dX6_readLine_4 (by decide) rfl) rfl ?_
  refine pGo (s_iload_n dX6_readLine_5 rfl) ?_
  refine p_ifne (tgt := 28) dX6_readLine_6 (by decide) g1 (fun c1 => ?_) (fun c2 => ?_)
  · refine pGo (s_iload_n dX6_readLine_28 rfl) ?_
    refine pGo (s_iconst dX6_readLine_29) ?_
    refine p_icne (tgt := 55) dX6_readLine_30 (by decide) g1 (by decide) (fun c3 => ?_) (fun c4 => ?_)
    · refine pGo (s_iload_n dX6_readLine_55 rfl) ?_
      refine pGo (s_iconst dX6_readLine_56) ?_
      refine p_icne (tgt := 73) dX6_readLine_57 (by decide) g1 (by decide) (fun c5 => ?_) (fun c6 => ?_)
      · refine pGo (s_aload_n dX6_readLine_73 rfl (by decide)) ?_
        refine pGo (s_iconst dX6_readLine_74) ?_
        refine p_callV (As := [(0, 2)]) (st := []) (n := 1) (d' := 0) (Q1 := Q1) pc9 ok_X9_fail ml_X6_88 im_X9_fail se_X9_fail dX6_readLine_75 (ob_2 hst) (pargs_of rfl) rfl (Nat.le_of_ble_eq_true rfl) (by omega) (f2 c1 c3 c5) (fun r2 τ2 e2 q2 w2 => ?_)
        obtain ⟨v2, rfl, b2⟩ := pRok_z w2
        have S2 : Stat τ2 := (Stat.le (σ := σ) hst e2)
        have J2_0 : Inst6 τ2 a0 := Inst6.le (σ := σ) Ia0 e2
        show pR mX6_readLine d 78 [(2, a0), (2, 2), (0, (vTkK σ))] [(0, v2)] τ2 Q
        exact pEnd (r := (some (0, v2))) dX6_readLine_78 (pRok_01 b2) (k1 c1 c3 c5 v2 b2 τ2 e2 q2)
      · refine pGo (s_aload_n dX6_readLine_60 rfl Ia0.pos) ?_
        refine pGoE (y := (rd σ a0 4)) (s_getI pc6 fl_X6_81 dX6_readLine_61 Ia0.o0 rfl (by decide)) rfl ?_
        refine p_ifne (tgt := 73) dX6_readLine_64 (by decide) (g2 c1 c3 c6) (fun c7 => ?_) (fun c8 => ?_)
        · refine pGo (s_aload_n dX6_readLine_73 rfl (by decide)) ?_
          refine pGo (s_iconst dX6_readLine_74) ?_
          refine p_callV (As := [(0, 2)]) (st := []) (n := 1) (d' := 0) (Q1 := Q2) pc9 ok_X9_fail ml_X6_88 im_X9_fail se_X9_fail dX6_readLine_75 (ob_2 hst) (pargs_of rfl) rfl (Nat.le_of_ble_eq_true rfl) (by omega) (f3 c1 c3 c6 c7) (fun r3 τ3 e3 q3 w3 => ?_)
          obtain ⟨v3, rfl, b3⟩ := pRok_z w3
          have S3 : Stat τ3 := (Stat.le (σ := σ) hst e3)
          have J3_0 : Inst6 τ3 a0 := Inst6.le (σ := σ) Ia0 e3
          show pR mX6_readLine d 78 [(2, a0), (2, 2), (0, (vTkK σ))] [(0, v3)] τ3 Q
          exact pEnd (r := (some (0, v3))) dX6_readLine_78 (pRok_01 b3) (k2 c1 c3 c6 c7 v3 b3 τ3 e3 q3)
        · refine pGo (s_aload_n dX6_readLine_67 rfl Ia0.pos) ?_
          refine pGo (s_aload_n dX6_readLine_68 rfl (by decide)) ?_
          refine p_callV (As := [(2, 2)]) (st := []) (n := 1) (d' := 2) (Q1 := Q3) pc6 ok_X6_readHome ml_X6_85 im_X6_readHome se_X6_readHome dX6_readLine_69 Ia0.o0 (pargs_of rfl) rfl (Nat.le_of_ble_eq_true rfl) (by omega) (f4 c1 c3 c6 c8) (fun r4 τ4 e4 q4 w4 => ?_)
          obtain ⟨v4, rfl, b4⟩ := pRok_z w4
          have S4 : Stat τ4 := (Stat.le (σ := σ) hst e4)
          have J4_0 : Inst6 τ4 a0 := Inst6.le (σ := σ) Ia0 e4
          show pR mX6_readLine d 72 [(2, a0), (2, 2), (0, (vTkK σ))] [(0, v4)] τ4 Q
          exact pEnd (r := (some (0, v4))) dX6_readLine_72 (pRok_01 b4) (k3 c1 c3 c6 c8 v4 b4 τ4 e4 q4)
    · refine pGo (s_aload_n dX6_readLine_33 rfl Ia0.pos) ?_
      refine pGoE (y := (rd σ a0 1)) (s_getI pc6 fl_X6_52 dX6_readLine_34 Ia0.o0 rfl (by decide)) rfl ?_
      refine pGo (s_bipush dX6_readLine_37 (by decide)) ?_
      refine p_icge (tgt := 55) dX6_readLine_39 (by decide) (g3 c1 c4) (by decide) (fun c9 => ?_) (fun c10 => ?_)
      · refine pGo (s_iload_n dX6_readLine_55 rfl) ?_
        refine pGo (s_iconst dX6_readLine_56) ?_
        refine p_icne (tgt := 73) dX6_readLine_57 (by decide) g1 (by decide) (fun c11 => ?_) (fun c12 => ?_)
        · refine pGo (s_aload_n dX6_readLine_73 rfl (by decide)) ?_
          refine pGo (s_iconst dX6_readLine_74) ?_
          refine p_callV (As := [(0, 2)]) (st := []) (n := 1) (d' := 0) (Q1 := Q4) pc9 ok_X9_fail ml_X6_88 im_X9_fail se_X9_fail dX6_readLine_75 (ob_2 hst) (pargs_of rfl) rfl (Nat.le_of_ble_eq_true rfl) (by omega) (f5 c1 c4 c9 c11) (fun r5 τ5 e5 q5 w5 => ?_)
          obtain ⟨v5, rfl, b5⟩ := pRok_z w5
          have S5 : Stat τ5 := (Stat.le (σ := σ) hst e5)
          have J5_0 : Inst6 τ5 a0 := Inst6.le (σ := σ) Ia0 e5
          show pR mX6_readLine d 78 [(2, a0), (2, 2), (0, (vTkK σ))] [(0, v5)] τ5 Q
          exact pEnd (r := (some (0, v5))) dX6_readLine_78 (pRok_01 b5) (k4 c1 c4 c9 c11 v5 b5 τ5 e5 q5)
        · refine pGo (s_aload_n dX6_readLine_60 rfl Ia0.pos) ?_
          refine pGoE (y := (rd σ a0 4)) (s_getI pc6 fl_X6_81 dX6_readLine_61 Ia0.o0 rfl (by decide)) rfl ?_
          refine p_ifne (tgt := 73) dX6_readLine_64 (by decide) (g4 c1 c4 c9 c12) (fun c13 => ?_) (fun c14 => ?_)
          · refine pGo (s_aload_n dX6_readLine_73 rfl (by decide)) ?_
            refine pGo (s_iconst dX6_readLine_74) ?_
            refine p_callV (As := [(0, 2)]) (st := []) (n := 1) (d' := 0) (Q1 := Q5) pc9 ok_X9_fail ml_X6_88 im_X9_fail se_X9_fail dX6_readLine_75 (ob_2 hst) (pargs_of rfl) rfl (Nat.le_of_ble_eq_true rfl) (by omega) (f6 c1 c4 c9 c12 c13) (fun r6 τ6 e6 q6 w6 => ?_)
            obtain ⟨v6, rfl, b6⟩ := pRok_z w6
            have S6 : Stat τ6 := (Stat.le (σ := σ) hst e6)
            have J6_0 : Inst6 τ6 a0 := Inst6.le (σ := σ) Ia0 e6
            show pR mX6_readLine d 78 [(2, a0), (2, 2), (0, (vTkK σ))] [(0, v6)] τ6 Q
            exact pEnd (r := (some (0, v6))) dX6_readLine_78 (pRok_01 b6) (k5 c1 c4 c9 c12 c13 v6 b6 τ6 e6 q6)
          · refine pGo (s_aload_n dX6_readLine_67 rfl Ia0.pos) ?_
            refine pGo (s_aload_n dX6_readLine_68 rfl (by decide)) ?_
            refine p_callV (As := [(2, 2)]) (st := []) (n := 1) (d' := 2) (Q1 := Q6) pc6 ok_X6_readHome ml_X6_85 im_X6_readHome se_X6_readHome dX6_readLine_69 Ia0.o0 (pargs_of rfl) rfl (Nat.le_of_ble_eq_true rfl) (by omega) (f7 c1 c4 c9 c12 c14) (fun r7 τ7 e7 q7 w7 => ?_)
            obtain ⟨v7, rfl, b7⟩ := pRok_z w7
            have S7 : Stat τ7 := (Stat.le (σ := σ) hst e7)
            have J7_0 : Inst6 τ7 a0 := Inst6.le (σ := σ) Ia0 e7
            show pR mX6_readLine d 72 [(2, a0), (2, 2), (0, (vTkK σ))] [(0, v7)] τ7 Q
            exact pEnd (r := (some (0, v7))) dX6_readLine_72 (pRok_01 b7) (k6 c1 c4 c9 c12 c14 v7 b7 τ7 e7 q7)
      · refine pGo (s_aload_n dX6_readLine_42 rfl Ia0.pos) ?_
        refine pGo (s_aload_n dX6_readLine_43 rfl (by decide)) ?_
        refine pGo (s_bipush dX6_readLine_44 (by decide)) ?_
        refine pGo (s_aload_n dX6_readLine_46 rfl Ia0.pos) ?_
        refine pGoE (y := (rd σ a0 1)) (s_getI pc6 fl_X6_52 dX6_readLine_47 Ia0.o0 rfl (by decide)) rfl ?_
        refine pGo (s_iadd dX6_readLine_50) ?_
        refine p_callV (As := [(2, 2), (0, (10 + (rd σ a0 1)))]) (st := []) (n := 2) (d' := 3) (Q1 := Q7) pc6 ok_X6_readRun ml_X6_78 im_X6_readRun se_X6_readRun dX6_readLine_51 Ia0.o0 (pargs_of rfl) rfl (Nat.le_of_ble_eq_true rfl) (by omega) (f8 c1 c4 c10) (fun r8 τ8 e8 q8 w8 => ?_)
        obtain ⟨v8, rfl, b8⟩ := pRok_z w8
        have S8 : Stat τ8 := (Stat.le (σ := σ) hst e8)
        have J8_0 : Inst6 τ8 a0 := Inst6.le (σ := σ) Ia0 e8
        show pR mX6_readLine d 54 [(2, a0), (2, 2), (0, (vTkK σ))] [(0, v8)] τ8 Q
        exact pEnd (r := (some (0, v8))) dX6_readLine_54 (pRok_01 b8) (k7 c1 c4 c10 v8 b8 τ8 e8 q8)
  · refine pGo (s_aload_n dX6_readLine_9 rfl Ia0.pos) ?_
    refine pGoE (y := (rd σ a0 0)) (s_getI pc6 fl_X6_44 dX6_readLine_10 Ia0.o0 rfl (by decide)) rfl ?_
    refine pGo (s_bipush dX6_readLine_13 (by decide)) ?_
    refine p_icge (tgt := 28) dX6_readLine_15 (by decide) (g5 c2) (by decide) (fun c15 => ?_) (fun c16 => ?_)
    · refine pGo (s_iload_n dX6_readLine_28 rfl) ?_
      refine pGo (s_iconst dX6_readLine_29) ?_
      refine p_icne (tgt := 55) dX6_readLine_30 (by decide) g1 (by decide) (fun c17 => ?_) (fun c18 => ?_)
      · refine pGo (s_iload_n dX6_readLine_55 rfl) ?_
        refine pGo (s_iconst dX6_readLine_56) ?_
        refine p_icne (tgt := 73) dX6_readLine_57 (by decide) g1 (by decide) (fun c19 => ?_) (fun c20 => ?_)
        · refine pGo (s_aload_n dX6_readLine_73 rfl (by decide)) ?_
          refine pGo (s_iconst dX6_readLine_74) ?_
          refine p_callV (As := [(0, 2)]) (st := []) (n := 1) (d' := 0) (Q1 := Q8) pc9 ok_X9_fail ml_X6_88 im_X9_fail se_X9_fail dX6_readLine_75 (ob_2 hst) (pargs_of rfl) rfl (Nat.le_of_ble_eq_true rfl) (by omega) (f9 c2 c15 c17 c19) (fun r9 τ9 e9 q9 w9 => ?_)
          obtain ⟨v9, rfl, b9⟩ := pRok_z w9
          have S9 : Stat τ9 := (Stat.le (σ := σ) hst e9)
          have J9_0 : Inst6 τ9 a0 := Inst6.le (σ := σ) Ia0 e9
          show pR mX6_readLine d 78 [(2, a0), (2, 2), (0, (vTkK σ))] [(0, v9)] τ9 Q
          exact pEnd (r := (some (0, v9))) dX6_readLine_78 (pRok_01 b9) (k8 c2 c15 c17 c19 v9 b9 τ9 e9 q9)
        · refine pGo (s_aload_n dX6_readLine_60 rfl Ia0.pos) ?_
          refine pGoE (y := (rd σ a0 4)) (s_getI pc6 fl_X6_81 dX6_readLine_61 Ia0.o0 rfl (by decide)) rfl ?_
          refine p_ifne (tgt := 73) dX6_readLine_64 (by decide) (g6 c2 c15 c17 c20) (fun c21 => ?_) (fun c22 => ?_)
          · refine pGo (s_aload_n dX6_readLine_73 rfl (by decide)) ?_
            refine pGo (s_iconst dX6_readLine_74) ?_
            refine p_callV (As := [(0, 2)]) (st := []) (n := 1) (d' := 0) (Q1 := Q9) pc9 ok_X9_fail ml_X6_88 im_X9_fail se_X9_fail dX6_readLine_75 (ob_2 hst) (pargs_of rfl) rfl (Nat.le_of_ble_eq_true rfl) (by omega) (f10 c2 c15 c17 c20 c21) (fun r10 τ10 e10 q10 w10 => ?_)
            obtain ⟨v10, rfl, b10⟩ := pRok_z w10
            have S10 : Stat τ10 := (Stat.le (σ := σ) hst e10)
            have J10_0 : Inst6 τ10 a0 := Inst6.le (σ := σ) Ia0 e10
            show pR mX6_readLine d 78 [(2, a0), (2, 2), (0, (vTkK σ))] [(0, v10)] τ10 Q
            exact pEnd (r := (some (0, v10))) dX6_readLine_78 (pRok_01 b10) (k9 c2 c15 c17 c20 c21 v10 b10 τ10 e10 q10)
          · refine pGo (s_aload_n dX6_readLine_67 rfl Ia0.pos) ?_
            refine pGo (s_aload_n dX6_readLine_68 rfl (by decide)) ?_
            refine p_callV (As := [(2, 2)]) (st := []) (n := 1) (d' := 2) (Q1 := Q10) pc6 ok_X6_readHome ml_X6_85 im_X6_readHome se_X6_readHome dX6_readLine_69 Ia0.o0 (pargs_of rfl) rfl (Nat.le_of_ble_eq_true rfl) (by omega) (f11 c2 c15 c17 c20 c22) (fun r11 τ11 e11 q11 w11 => ?_)
            obtain ⟨v11, rfl, b11⟩ := pRok_z w11
            have S11 : Stat τ11 := (Stat.le (σ := σ) hst e11)
            have J11_0 : Inst6 τ11 a0 := Inst6.le (σ := σ) Ia0 e11
            show pR mX6_readLine d 72 [(2, a0), (2, 2), (0, (vTkK σ))] [(0, v11)] τ11 Q
            exact pEnd (r := (some (0, v11))) dX6_readLine_72 (pRok_01 b11) (k10 c2 c15 c17 c20 c22 v11 b11 τ11 e11 q11)
      · refine pGo (s_aload_n dX6_readLine_33 rfl Ia0.pos) ?_
        refine pGoE (y := (rd σ a0 1)) (s_getI pc6 fl_X6_52 dX6_readLine_34 Ia0.o0 rfl (by decide)) rfl ?_
        refine pGo (s_bipush dX6_readLine_37 (by decide)) ?_
        refine p_icge (tgt := 55) dX6_readLine_39 (by decide) (g7 c2 c15 c18) (by decide) (fun c23 => ?_) (fun c24 => ?_)
        · refine pGo (s_iload_n dX6_readLine_55 rfl) ?_
          refine pGo (s_iconst dX6_readLine_56) ?_
          refine p_icne (tgt := 73) dX6_readLine_57 (by decide) g1 (by decide) (fun c25 => ?_) (fun c26 => ?_)
          · refine pGo (s_aload_n dX6_readLine_73 rfl (by decide)) ?_
            refine pGo (s_iconst dX6_readLine_74) ?_
            refine p_callV (As := [(0, 2)]) (st := []) (n := 1) (d' := 0) (Q1 := Q11) pc9 ok_X9_fail ml_X6_88 im_X9_fail se_X9_fail dX6_readLine_75 (ob_2 hst) (pargs_of rfl) rfl (Nat.le_of_ble_eq_true rfl) (by omega) (f12 c2 c15 c18 c23 c25) (fun r12 τ12 e12 q12 w12 => ?_)
            obtain ⟨v12, rfl, b12⟩ := pRok_z w12
            have S12 : Stat τ12 := (Stat.le (σ := σ) hst e12)
            have J12_0 : Inst6 τ12 a0 := Inst6.le (σ := σ) Ia0 e12
            show pR mX6_readLine d 78 [(2, a0), (2, 2), (0, (vTkK σ))] [(0, v12)] τ12 Q
            exact pEnd (r := (some (0, v12))) dX6_readLine_78 (pRok_01 b12) (k11 c2 c15 c18 c23 c25 v12 b12 τ12 e12 q12)
          · refine pGo (s_aload_n dX6_readLine_60 rfl Ia0.pos) ?_
            refine pGoE (y := (rd σ a0 4)) (s_getI pc6 fl_X6_81 dX6_readLine_61 Ia0.o0 rfl (by decide)) rfl ?_
            refine p_ifne (tgt := 73) dX6_readLine_64 (by decide) (g8 c2 c15 c18 c23 c26) (fun c27 => ?_) (fun c28 => ?_)
            · refine pGo (s_aload_n dX6_readLine_73 rfl (by decide)) ?_
              refine pGo (s_iconst dX6_readLine_74) ?_
              refine p_callV (As := [(0, 2)]) (st := []) (n := 1) (d' := 0) (Q1 := Q12) pc9 ok_X9_fail ml_X6_88 im_X9_fail se_X9_fail dX6_readLine_75 (ob_2 hst) (pargs_of rfl) rfl (Nat.le_of_ble_eq_true rfl) (by omega) (f13 c2 c15 c18 c23 c26 c27) (fun r13 τ13 e13 q13 w13 => ?_)
              obtain ⟨v13, rfl, b13⟩ := pRok_z w13
              have S13 : Stat τ13 := (Stat.le (σ := σ) hst e13)
              have J13_0 : Inst6 τ13 a0 := Inst6.le (σ := σ) Ia0 e13
              show pR mX6_readLine d 78 [(2, a0), (2, 2), (0, (vTkK σ))] [(0, v13)] τ13 Q
              exact pEnd (r := (some (0, v13))) dX6_readLine_78 (pRok_01 b13) (k12 c2 c15 c18 c23 c26 c27 v13 b13 τ13 e13 q13)
            · refine pGo (s_aload_n dX6_readLine_67 rfl Ia0.pos) ?_
              refine pGo (s_aload_n dX6_readLine_68 rfl (by decide)) ?_
              refine p_callV (As := [(2, 2)]) (st := []) (n := 1) (d' := 2) (Q1 := Q13) pc6 ok_X6_readHome ml_X6_85 im_X6_readHome se_X6_readHome dX6_readLine_69 Ia0.o0 (pargs_of rfl) rfl (Nat.le_of_ble_eq_true rfl) (by omega) (f14 c2 c15 c18 c23 c26 c28) (fun r14 τ14 e14 q14 w14 => ?_)
              obtain ⟨v14, rfl, b14⟩ := pRok_z w14
              have S14 : Stat τ14 := (Stat.le (σ := σ) hst e14)
              have J14_0 : Inst6 τ14 a0 := Inst6.le (σ := σ) Ia0 e14
              show pR mX6_readLine d 72 [(2, a0), (2, 2), (0, (vTkK σ))] [(0, v14)] τ14 Q
              exact pEnd (r := (some (0, v14))) dX6_readLine_72 (pRok_01 b14) (k13 c2 c15 c18 c23 c26 c28 v14 b14 τ14 e14 q14)
        · refine pGo (s_aload_n dX6_readLine_42 rfl Ia0.pos) ?_
          refine pGo (s_aload_n dX6_readLine_43 rfl (by decide)) ?_
          refine pGo (s_bipush dX6_readLine_44 (by decide)) ?_
          refine pGo (s_aload_n dX6_readLine_46 rfl Ia0.pos) ?_
          refine pGoE (y := (rd σ a0 1)) (s_getI pc6 fl_X6_52 dX6_readLine_47 Ia0.o0 rfl (by decide)) rfl ?_
          refine pGo (s_iadd dX6_readLine_50) ?_
          refine p_callV (As := [(2, 2), (0, (10 + (rd σ a0 1)))]) (st := []) (n := 2) (d' := 3) (Q1 := Q14) pc6 ok_X6_readRun ml_X6_78 im_X6_readRun se_X6_readRun dX6_readLine_51 Ia0.o0 (pargs_of rfl) rfl (Nat.le_of_ble_eq_true rfl) (by omega) (f15 c2 c15 c18 c24) (fun r15 τ15 e15 q15 w15 => ?_)
          obtain ⟨v15, rfl, b15⟩ := pRok_z w15
          have S15 : Stat τ15 := (Stat.le (σ := σ) hst e15)
          have J15_0 : Inst6 τ15 a0 := Inst6.le (σ := σ) Ia0 e15
          show pR mX6_readLine d 54 [(2, a0), (2, 2), (0, (vTkK σ))] [(0, v15)] τ15 Q
          exact pEnd (r := (some (0, v15))) dX6_readLine_54 (pRok_01 b15) (k14 c2 c15 c18 c24 v15 b15 τ15 e15 q15)
    · refine pGo (s_aload_n dX6_readLine_18 rfl Ia0.pos) ?_
      refine pGo (s_aload_n dX6_readLine_19 rfl (by decide)) ?_
      refine pGo (s_aload_n dX6_readLine_20 rfl Ia0.pos) ?_
      refine pGoE (y := (rd σ a0 0)) (s_getI pc6 fl_X6_44 dX6_readLine_21 Ia0.o0 rfl (by decide)) rfl ?_
      refine p_callV (As := [(2, 2), (0, (rd σ a0 0))]) (st := []) (n := 2) (d' := 3) (Q1 := Q15) pc6 ok_X6_readLift ml_X6_74 im_X6_readLift se_X6_readLift dX6_readLine_24 Ia0.o0 (pargs_of rfl) rfl (Nat.le_of_ble_eq_true rfl) (by omega) (f16 c2 c16) (fun r16 τ16 e16 q16 w16 => ?_)
      obtain ⟨v16, rfl, b16⟩ := pRok_z w16
      have S16 : Stat τ16 := (Stat.le (σ := σ) hst e16)
      have J16_0 : Inst6 τ16 a0 := Inst6.le (σ := σ) Ia0 e16
      show pR mX6_readLine d 27 [(2, a0), (2, 2), (0, (vTkK σ))] [(0, v16)] τ16 Q
      exact pEnd (r := (some (0, v16))) dX6_readLine_27 (pRok_01 b16) (k15 c2 c16 v16 b16 τ16 e16 q16)
set_option maxRecDepth 100000 in
theorem g_X6_read_0 {d : Nat} {σ : pS} {Q : Option pV → pS → Prop} (hd : 5 ≤ d) (hst : Stat σ) (a0 : Int) (Ia0 : Inst6 σ a0) (k1 : pR mX6_read d 2 [(2, a0), (2, 2), (0, 0)] [] σ Q) : pC mX6_read d [(2, a0), (2, 2)] σ Q := by
  show pR mX6_read d 0 [(2, a0), (2, 2), (9, 0)] [] σ Q
  refine pGo (s_iconst dX6_read_0) ?_
  refine pGoL (ls2 := [(2, a0), (2, 2), (0, 0)]) (s_istore_n dX6_read_1 (by decide) rfl) rfl ?_
  exact k1
set_option maxRecDepth 100000 in
theorem g_X6_read_2 {d : Nat} {σ : pS} {Q : Option pV → pS → Prop} {Q1 : Option pV → pS → Prop} (hd : 5 ≤ d) (hst : Stat σ) (x0 : Int) (x2 : Int) (Ix0 : Inst6 σ x0) (g1 : inR x2) (k1 : ∀ (c1 : 1400 < x2), Q (some (0, 1)) σ) (f1 : ∀ (c2 : x2 ≤ 1400), pC mX9_kind 0 [(2, 2)] σ (fun r τ => r = some (0, (vTkK σ)) ∧ τ = σ)) (g2 : ∀ (c2 : x2 ≤ 1400), inR (vTkK σ)) (k2 : ∀ (c2 : x2 ≤ 1400) (c3 : (vTkK σ) = 21), Q (some (0, 1)) σ) (f2 : ∀ (c2 : x2 ≤ 1400) (c4 : (vTkK σ) ≠ 21), pC mX6_readLine 4 [(2, x0), (2, 2)] σ Q1) (g3 : ∀ (c2 : x2 ≤ 1400) (c4 : (vTkK σ) ≠ 21) (v2 : Int) (b2 : v2 = 0 ∨ v2 = 1) (τ2 : pS) (e2 : pLe σ τ2) (q2 : Q1 (some (0, v2)) τ2), inR v2) (k3 : ∀ (c2 : x2 ≤ 1400) (c4 : (vTkK σ) ≠ 21) (v2 : Int) (b2 : v2 = 0 ∨ v2 = 1) (τ2 : pS) (e2 : pLe σ τ2) (q2 : Q1 (some (0, v2)) τ2) (c5 : v2 ≠ 0), pR mX6_read d 2 [(2, x0), (2, 2), (0, (x2 + 1))] [] (wr τ2 x0 2 ((rd τ2 x0 2) + 1)) Q) (k4 : ∀ (c2 : x2 ≤ 1400) (c4 : (vTkK σ) ≠ 21) (v2 : Int) (b2 : v2 = 0 ∨ v2 = 1) (τ2 : pS) (e2 : pLe σ τ2) (q2 : Q1 (some (0, v2)) τ2) (c6 : v2 = 0), Q (some (0, 0)) τ2) : pR mX6_read d 2 [(2, x0), (2, 2), (0, x2)] [] σ Q := by
  refine pGo (s_iload_n dX6_read_2 rfl) ?_
  refine pGo (s_sipush dX6_read_3 (by decide)) ?_
  refine p_icgt (tgt := 44) dX6_read_6 (by decide) g1 (by decide) (fun c1 => ?_) (fun c2 => ?_)
  · refine pGo (s_iconst dX6_read_44) ?_
    exact pEnd (r := (some (0, 1))) dX6_read_45 (Or.inr rfl) (k1 c1)
  · refine pGo (s_aload_n dX6_read_9 rfl (by decide)) ?_
    refine p_callV (As := []) (st := []) (n := 0) (d' := 0) (Q1 := (fun r τ => r = some (0, (vTkK σ)) ∧ τ = σ)) pc9 ok_X9_kind ml_X6_61 im_X9_kind se_X9_kind dX6_read_10 (ob_2 hst) (pargs_of rfl) rfl (Nat.le_of_ble_eq_true rfl) (by omega) (f1 c2) (fun r1 τ1 e1 q1 w1 => ?_)
    obtain ⟨rfl, t1⟩ := q1
    rw [t1]
    show pR mX6_read d 13 [(2, x0), (2, 2), (0, x2)] [(0, (vTkK σ))] σ Q
    refine pGo (s_bipush dX6_read_13 (by decide)) ?_
    refine p_iceq (tgt := 44) dX6_read_15 (by decide) (g2 c2) (by decide) (fun c3 => ?_) (fun c4 => ?_)
    · refine pGo (s_iconst dX6_read_44) ?_
      exact pEnd (r := (some (0, 1))) dX6_read_45 (Or.inr rfl) (k2 c2 c3)
    · refine pGo (s_aload_n dX6_read_18 rfl Ix0.pos) ?_
      refine pGo (s_aload_n dX6_read_19 rfl (by decide)) ?_
      refine p_callV (As := [(2, 2)]) (st := []) (n := 1) (d' := 4) (Q1 := Q1) pc6 ok_X6_readLine ml_X6_67 im_X6_readLine se_X6_readLine dX6_read_20 Ix0.o0 (pargs_of rfl) rfl (Nat.le_of_ble_eq_true rfl) (by omega) (f2 c2 c4) (fun r2 τ2 e2 q2 w2 => ?_)
      obtain ⟨v2, rfl, b2⟩ := pRok_z w2
      have S2 : Stat τ2 := (Stat.le (σ := σ) hst e2)
      have J2_0 : Inst6 τ2 x0 := Inst6.le (σ := σ) Ix0 e2
      show pR mX6_read d 23 [(2, x0), (2, 2), (0, x2)] [(0, v2)] τ2 Q
      refine p_ifne (tgt := 28) dX6_read_23 (by decide) (g3 c2 c4 v2 b2 τ2 e2 q2) (fun c5 => ?_) (fun c6 => ?_)
      · refine pGo (s_aload_n dX6_read_28 rfl J2_0.pos) ?_
        refine pGo (s_dup dX6_read_29 (show (2 : Nat) ≠ 1 by decide)) ?_
        refine pGoE (y := (rd τ2 x0 2)) (s_getI pc6 fl_X6_71 dX6_read_30 J2_0.o0 rfl (by decide)) rfl ?_
        refine pGo (s_iconst dX6_read_33) ?_
        refine pGo (s_iadd dX6_read_34) ?_
        refine pGo (s_putI pc6 fl_X6_71 dX6_read_35 J2_0.o0 rfl rfl rfl rfl) ?_
        refine pGoL (ls2 := [(2, x0), (2, 2), (0, (x2 + 1))]) (s_iinc dX6_read_38 (by decide) rfl rfl) rfl ?_
        refine pGo (s_goto (tgt := 2) dX6_read_41 (by decide)) ?_
        exact (k3 c2 c4 v2 b2 τ2 e2 q2 c5)
      · refine pGo (s_iconst dX6_read_26) ?_
        exact pEnd (r := (some (0, 0))) dX6_read_27 (Or.inl rfl) (k4 c2 c4 v2 b2 τ2 e2 q2 c6)
set_option maxRecDepth 100000 in
theorem g_X10_cutTape_0 {d : Nat} {σ : pS} {Q : Option pV → pS → Prop} {Q1 : Option pV → pS → Prop} (hd : 10 ≤ d) (hst : Stat σ)   (f1 : pC mX9_cut 9 [(2, 2), (2, 1), (0, (rd σ 0 1))] σ Q1) (k1 : ∀ (τ1 : pS) (e1 : pLe σ τ1) (q1 : Q1 none τ1), Q none (wr τ1 0 1 0)) : pC mX10_cutTape d [(2, 0)] σ Q := by
  show pR mX10_cutTape d 0 [(2, 0)] [] σ Q
  refine pGo (s_aload_n dX10_cutTape_0 rfl (by decide)) ?_
  refine pGoE (y := 2) (s_getF pc10 fl_X10_16 dX10_cutTape_1 (ob_0 hst) rfl (by decide)) (by decide) ?_
  refine pGo (s_aload_n dX10_cutTape_4 rfl (by decide)) ?_
  refine pGoE (y := 1) (s_getF pc10 fl_X10_9 dX10_cutTape_5 (ob_0 hst) rfl (by decide)) (by decide) ?_
  refine pGo (s_aload_n dX10_cutTape_8 rfl (by decide)) ?_
  refine pGoE (y := (rd σ 0 1)) (s_getI pc10 fl_X10_97 dX10_cutTape_9 (ob_0 hst) rfl (by decide)) rfl ?_
  refine p_callV (As := [(2, 1), (0, (rd σ 0 1))]) (st := []) (n := 2) (d' := 9) (Q1 := Q1) pc9 ok_X9_cut ml_X10_260 im_X9_cut se_X9_cut dX10_cutTape_12 (ob_2 hst) (pargs_of rfl) rfl (Nat.le_of_ble_eq_true rfl) (by omega) f1 (fun r1 τ1 e1 q1 w1 => ?_)
  obtain rfl : r1 = none := w1
  have S1 : Stat τ1 := (Stat.le (σ := σ) hst e1)
  show pR mX10_cutTape d 15 [(2, 0)] [] τ1 Q
  refine pGo (s_aload_n dX10_cutTape_15 rfl (by decide)) ?_
  refine pGo (s_iconst dX10_cutTape_16) ?_
  refine pGo (s_putI pc10 fl_X10_97 dX10_cutTape_17 (ob_0 S1) rfl rfl rfl rfl) ?_
  exact pEnd (r := none) dX10_cutTape_20 rfl (k1 τ1 e1 q1)
set_option maxRecDepth 100000 in
theorem g_X10_keepFault_0 {d : Nat} {σ : pS} {Q : Option pV → pS → Prop} (hd : 0 ≤ d) (hst : Stat σ)   (k1 : Q none (wr (wr σ 0 3 (rd σ 2 5)) 0 4 (rd σ 2 6))) : pC mX10_keepFault d [(2, 0)] σ Q := by
  show pR mX10_keepFault d 0 [(2, 0)] [] σ Q
  refine pGo (s_aload_n dX10_keepFault_0 rfl (by decide)) ?_
  refine pGo (s_aload_n dX10_keepFault_1 rfl (by decide)) ?_
  refine pGoE (y := 2) (s_getF pc10 fl_X10_16 dX10_keepFault_2 (ob_0 hst) rfl (by decide)) (by decide) ?_
  refine pGoE (y := (rd σ 2 5)) (s_getI pc9 fl_X10_264 dX10_keepFault_5 (ob_2 hst) rfl (by decide)) rfl ?_
  refine pGo (s_putI pc10 fl_X10_135 dX10_keepFault_8 (ob_0 hst) rfl rfl rfl rfl) ?_
  refine pGo (s_aload_n dX10_keepFault_11 rfl (by decide)) ?_
  refine pGo (s_aload_n dX10_keepFault_12 rfl (by decide)) ?_
  refine pGoE (y := 2) (s_getF pc10 fl_X10_16 dX10_keepFault_13 (ob_0 hst) rfl (by decide)) (by decide) ?_
  refine pGoE (y := (rd σ 2 6)) (s_getI pc9 fl_X10_267 dX10_keepFault_16 (ob_2 hst) rfl (by decide)) (rd_wr_a _ (by decide)) ?_
  refine pGo (s_putI pc10 fl_X10_20 dX10_keepFault_19 (ob_0 hst) rfl rfl rfl rfl) ?_
  exact pEnd (r := none) dX10_keepFault_22 rfl k1
