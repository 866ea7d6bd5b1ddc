/-! walks: the reference cuts a text -/
set_option maxRecDepth 100000 in
theorem g_X11_next_0 {d : Nat} {σ : pS} {Q : Option pV → pS → Prop} (hd : 1 ≤ d) (hst : Stat σ) (u1 : pV) (u2 : pV) (hu1 : u1.1 ≠ 1) (hu2 : u2.1 ≠ 1) (f1 : pC mX11_here 0 [(2, 68), (0, 0)] σ (fun r τ => r = some (0, (vHere σ 0)) ∧ τ = σ)) (g1 : inR (vHere σ 0)) (k1 : ∀ (c1 : (vHere σ 0) = 32), pR mX11_next d 0 [(2, 68), u1, u2] [] (wr σ 68 4 ((rd σ 68 4) + 1)) Q) (f2 : ∀ (c2 : (vHere σ 0) ≠ 32), pC mX11_here 0 [(2, 68), (0, 0)] σ (fun r τ => r = some (0, (vHere σ 0)) ∧ τ = σ)) (f3 : ∀ (c2 : (vHere σ 0) ≠ 32) (c3 : (vHere σ 0) ≠ 10), pC mX11_here 0 [(2, 68), (0, 0)] (wr σ 68 7 (rd σ 68 4)) (fun r τ => r = some (0, (vHere (wr σ 68 7 (rd σ 68 4)) 0)) ∧ τ = (wr σ 68 7 (rd σ 68 4)))) (g2 : ∀ (c2 : (vHere σ 0) ≠ 32) (c3 : (vHere σ 0) ≠ 10), inR (vHere (wr σ 68 7 (rd σ 68 4)) 0)) (f4 : ∀ (c2 : (vHere σ 0) ≠ 32) (c3 : (vHere σ 0) ≠ 10) (c5 : 0 ≤ (vHere (wr σ 68 7 (rd σ 68 4)) 0)) (c7 : (vHere (wr σ 68 7 (rd σ 68 4)) 0) ≠ 112), pC mX11_isLetter 0 [(0, (vHere (wr σ 68 7 (rd σ 68 4)) 0))] (wr (wr (wr σ 68 7 (rd σ 68 4)) 68 9 0) 68 8 0) (fun r τ => r = some (0, b2i (vLet (vHere (wr σ 68 7 (rd σ 68 4)) 0))) ∧ τ = (wr (wr (wr σ 68 7 (rd σ 68 4)) 68 9 0) 68 8 0))) (f5 : ∀ (c2 : (vHere σ 0) ≠ 32) (c3 : (vHere σ 0) ≠ 10) (c5 : 0 ≤ (vHere (wr σ 68 7 (rd σ 68 4)) 0)) (c7 : (vHere (wr σ 68 7 (rd σ 68 4)) 0) ≠ 112) (c9 : (vLet (vHere (wr σ 68 7 (rd σ 68 4)) 0)) = false), pC mX11_isDigit 0 [(0, (vHere (wr σ 68 7 (rd σ 68 4)) 0))] (wr (wr (wr σ 68 7 (rd σ 68 4)) 68 9 0) 68 8 0) (fun r τ => r = some (0, b2i (vDig (vHere (wr σ 68 7 (rd σ 68 4)) 0))) ∧ τ = (wr (wr (wr σ 68 7 (rd σ 68 4)) 68 9 0) 68 8 0))) (f6 : ∀ (c2 : (vHere σ 0) ≠ 32) (c3 : (vHere σ 0) ≠ 10) (c5 : 0 ≤ (vHere (wr σ 68 7 (rd σ 68 4)) 0)) (c7 : (vHere (wr σ 68 7 (rd σ 68 4)) 0) ≠ 112) (c9 : (vLet (vHere (wr σ 68 7 (rd σ 68 4)) 0)) = false) (c11 : (vDig (vHere (wr σ 68 7 (rd σ 68 4)) 0)) = false), pC mX11_isSign 0 [(0, (vHere (wr σ 68 7 (rd σ 68 4)) 0))] (wr (wr (wr σ 68 7 (rd σ 68 4)) 68 9 0) 68 8 0) (fun r τ => r = some (0, b2i (vSig (vHere (wr σ 68 7 (rd σ 68 4)) 0))) ∧ τ = (wr (wr (wr σ 68 7 (rd σ 68 4)) 68 9 0) 68 8 0))) (k2 : ∀ (c2 : (vHere σ 0) ≠ 32) (c3 : (vHere σ 0) ≠ 10) (c5 : 0 ≤ (vHere (wr σ 68 7 (rd σ 68 4)) 0)) (c7 : (vHere (wr σ 68 7 (rd σ 68 4)) 0) ≠ 112) (c9 : (vLet (vHere (wr σ 68 7 (rd σ 68 4)) 0)) = false) (c11 : (vDig (vHere (wr σ 68 7 (rd σ 68 4)) 0)) = false) (c13 : (vSig (vHere (wr σ 68 7 (rd σ 68 4)) 0)) = false), Q none (wr (wr (wr (wr σ 68 7 (rd σ 68 4)) 68 9 0) 68 8 0) 68 6 4)) (k3 : ∀ (c2 : (vHere σ 0) ≠ 32) (c3 : (vHere σ 0) ≠ 10) (c5 : 0 ≤ (vHere (wr σ 68 7 (rd σ 68 4)) 0)) (c7 : (vHere (wr σ 68 7 (rd σ 68 4)) 0) ≠ 112) (c9 : (vLet (vHere (wr σ 68 7 (rd σ 68 4)) 0)) = false) (c11 : (vDig (vHere (wr σ 68 7 (rd σ 68 4)) 0)) = false) (c14 : (vSig (vHere (wr σ 68 7 (rd σ 68 4)) 0)) = true) (c15 : (vHere (wr σ 68 7 (rd σ 68 4)) 0) = 4), Q none (wr (wr (wr (wr σ 68 7 (rd σ 68 4)) 68 9 0) 68 8 0) 68 6 (vHere (wr σ 68 7 (rd σ 68 4)) 0))) (k4 : ∀ (c2 : (vHere σ 0) ≠ 32) (c3 : (vHere σ 0) ≠ 10) (c5 : 0 ≤ (vHere (wr σ 68 7 (rd σ 68 4)) 0)) (c7 : (vHere (wr σ 68 7 (rd σ 68 4)) 0) ≠ 112) (c9 : (vLet (vHere (wr σ 68 7 (rd σ 68 4)) 0)) = false) (c11 : (vDig (vHere (wr σ 68 7 (rd σ 68 4)) 0)) = false) (c14 : (vSig (vHere (wr σ 68 7 (rd σ 68 4)) 0)) = true) (c16 : (vHere (wr σ 68 7 (rd σ 68 4)) 0) ≠ 4), Q none (wr (wr (wr (wr (wr σ 68 7 (rd σ 68 4)) 68 9 0) 68 8 0) 68 6 (vHere (wr σ 68 7 (rd σ 68 4)) 0)) 68 4 ((rd σ 68 4) + 1))) (k5 : ∀ (c2 : (vHere σ 0) ≠ 32) (c3 : (vHere σ 0) ≠ 10) (c5 : 0 ≤ (vHere (wr σ 68 7 (rd σ 68 4)) 0)) (c7 : (vHere (wr σ 68 7 (rd σ 68 4)) 0) ≠ 112) (c9 : (vLet (vHere (wr σ 68 7 (rd σ 68 4)) 0)) = false) (c12 : (vDig (vHere (wr σ 68 7 (rd σ 68 4)) 0)) = true), pR mX11_next d 205 [(2, 68), (0, (vHere (wr σ 68 7 (rd σ 68 4)) 0)), (0, 0)] [] (wr (wr (wr σ 68 7 (rd σ 68 4)) 68 9 0) 68 8 0) Q) (k6 : ∀ (c2 : (vHere σ 0) ≠ 32) (c3 : (vHere σ 0) ≠ 10) (c5 : 0 ≤ (vHere (wr σ 68 7 (rd σ 68 4)) 0)) (c7 : (vHere (wr σ 68 7 (rd σ 68 4)) 0) ≠ 112) (c10 : (vLet (vHere (wr σ 68 7 (rd σ 68 4)) 0)) = true), pR mX11_next d 139 [(2, 68), (0, (vHere (wr σ 68 7 (rd σ 68 4)) 0)), (0, 0)] [] (wr (wr (wr σ 68 7 (rd σ 68 4)) 68 9 0) 68 8 0) Q) (f7 : ∀ (c2 : (vHere σ 0) ≠ 32) (c3 : (vHere σ 0) ≠ 10) (c5 : 0 ≤ (vHere (wr σ 68 7 (rd σ 68 4)) 0)) (c8 : (vHere (wr σ 68 7 (rd σ 68 4)) 0) = 112), pC mX11_here 0 [(2, 68), (0, 1)] (wr (wr (wr σ 68 7 (rd σ 68 4)) 68 9 0) 68 8 0) (fun r τ => r = some (0, (vHere (wr (wr (wr σ 68 7 (rd σ 68 4)) 68 9 0) 68 8 0) 1)) ∧ τ = (wr (wr (wr σ 68 7 (rd σ 68 4)) 68 9 0) 68 8 0))) (f8 : ∀ (c2 : (vHere σ 0) ≠ 32) (c3 : (vHere σ 0) ≠ 10) (c5 : 0 ≤ (vHere (wr σ 68 7 (rd σ 68 4)) 0)) (c8 : (vHere (wr σ 68 7 (rd σ 68 4)) 0) = 112), pC mX11_isDigit 0 [(0, (vHere (wr (wr (wr σ 68 7 (rd σ 68 4)) 68 9 0) 68 8 0) 1))] (wr (wr (wr σ 68 7 (rd σ 68 4)) 68 9 0) 68 8 0) (fun r τ => r = some (0, b2i (vDig (vHere (wr (wr (wr σ 68 7 (rd σ 68 4)) 68 9 0) 68 8 0) 1))) ∧ τ = (wr (wr (wr σ 68 7 (rd σ 68 4)) 68 9 0) 68 8 0))) (f9 : ∀ (c2 : (vHere σ 0) ≠ 32) (c3 : (vHere σ 0) ≠ 10) (c5 : 0 ≤ (vHere (wr σ 68 7 (rd σ 68 4)) 0)) (c8 : (vHere (wr σ 68 7 (rd σ 68 4)) 0) = 112) (c17 : (vDig (vHere (wr (wr (wr σ 68 7 (rd σ 68 4)) 68 9 0) 68 8 0) 1)) = false), pC mX11_isLetter 0 [(0, (vHere (wr σ 68 7 (rd σ 68 4)) 0))] (wr (wr (wr σ 68 7 (rd σ 68 4)) 68 9 0) 68 8 0) (fun r τ => r = some (0, b2i (vLet (vHere (wr σ 68 7 (rd σ 68 4)) 0))) ∧ τ = (wr (wr (wr σ 68 7 (rd σ 68 4)) 68 9 0) 68 8 0))) (f10 : ∀ (c2 : (vHere σ 0) ≠ 32) (c3 : (vHere σ 0) ≠ 10) (c5 : 0 ≤ (vHere (wr σ 68 7 (rd σ 68 4)) 0)) (c8 : (vHere (wr σ 68 7 (rd σ 68 4)) 0) = 112) (c17 : (vDig (vHere (wr (wr (wr σ 68 7 (rd σ 68 4)) 68 9 0) 68 8 0) 1)) = false) (c19 : (vLet (vHere (wr σ 68 7 (rd σ 68 4)) 0)) = false), pC mX11_isDigit 0 [(0, (vHere (wr σ 68 7 (rd σ 68 4)) 0))] (wr (wr (wr σ 68 7 (rd σ 68 4)) 68 9 0) 68 8 0) (fun r τ => r = some (0, b2i (vDig (vHere (wr σ 68 7 (rd σ 68 4)) 0))) ∧ τ = (wr (wr (wr σ 68 7 (rd σ 68 4)) 68 9 0) 68 8 0))) (f11 : ∀ (c2 : (vHere σ 0) ≠ 32) (c3 : (vHere σ 0) ≠ 10) (c5 : 0 ≤ (vHere (wr σ 68 7 (rd σ 68 4)) 0)) (c8 : (vHere (wr σ 68 7 (rd σ 68 4)) 0) = 112) (c17 : (vDig (vHere (wr (wr (wr σ 68 7 (rd σ 68 4)) 68 9 0) 68 8 0) 1)) = false) (c19 : (vLet (vHere (wr σ 68 7 (rd σ 68 4)) 0)) = false) (c21 : (vDig (vHere (wr σ 68 7 (rd σ 68 4)) 0)) = false), pC mX11_isSign 0 [(0, (vHere (wr σ 68 7 (rd σ 68 4)) 0))] (wr (wr (wr σ 68 7 (rd σ 68 4)) 68 9 0) 68 8 0) (fun r τ => r = some (0, b2i (vSig (vHere (wr σ 68 7 (rd σ 68 4)) 0))) ∧ τ = (wr (wr (wr σ 68 7 (rd σ 68 4)) 68 9 0) 68 8 0))) (k7 : ∀ (c2 : (vHere σ 0) ≠ 32) (c3 : (vHere σ 0) ≠ 10) (c5 : 0 ≤ (vHere (wr σ 68 7 (rd σ 68 4)) 0)) (c8 : (vHere (wr σ 68 7 (rd σ 68 4)) 0) = 112) (c17 : (vDig (vHere (wr (wr (wr σ 68 7 (rd σ 68 4)) 68 9 0) 68 8 0) 1)) = false) (c19 : (vLet (vHere (wr σ 68 7 (rd σ 68 4)) 0)) = false) (c21 : (vDig (vHere (wr σ 68 7 (rd σ 68 4)) 0)) = false) (c23 : (vSig (vHere (wr σ 68 7 (rd σ 68 4)) 0)) = false), Q none (wr (wr (wr (wr σ 68 7 (rd σ 68 4)) 68 9 0) 68 8 0) 68 6 4)) (k8 : ∀ (c2 : (vHere σ 0) ≠ 32) (c3 : (vHere σ 0) ≠ 10) (c5 : 0 ≤ (vHere (wr σ 68 7 (rd σ 68 4)) 0)) (c8 : (vHere (wr σ 68 7 (rd σ 68 4)) 0) = 112) (c17 : (vDig (vHere (wr (wr (wr σ 68 7 (rd σ 68 4)) 68 9 0) 68 8 0) 1)) = false) (c19 : (vLet (vHere (wr σ 68 7 (rd σ 68 4)) 0)) = false) (c21 : (vDig (vHere (wr σ 68 7 (rd σ 68 4)) 0)) = false) (c24 : (vSig (vHere (wr σ 68 7 (rd σ 68 4)) 0)) = true) (c25 : (vHere (wr σ 68 7 (rd σ 68 4)) 0) = 4), Q none (wr (wr (wr (wr σ 68 7 (rd σ 68 4)) 68 9 0) 68 8 0) 68 6 (vHere (wr σ 68 7 (rd σ 68 4)) 0))) (k9 : ∀ (c2 : (vHere σ 0) ≠ 32) (c3 : (vHere σ 0) ≠ 10) (c5 : 0 ≤ (vHere (wr σ 68 7 (rd σ 68 4)) 0)) (c8 : (vHere (wr σ 68 7 (rd σ 68 4)) 0) = 112) (c17 : (vDig (vHere (wr (wr (wr σ 68 7 (rd σ 68 4)) 68 9 0) 68 8 0) 1)) = false) (c19 : (vLet (vHere (wr σ 68 7 (rd σ 68 4)) 0)) = false) (c21 : (vDig (vHere (wr σ 68 7 (rd σ 68 4)) 0)) = false) (c24 : (vSig (vHere (wr σ 68 7 (rd σ 68 4)) 0)) = true) (c26 : (vHere (wr σ 68 7 (rd σ 68 4)) 0) ≠ 4), Q none (wr (wr (wr (wr (wr σ 68 7 (rd σ 68 4)) 68 9 0) 68 8 0) 68 6 (vHere (wr σ 68 7 (rd σ 68 4)) 0)) 68 4 ((rd σ 68 4) + 1))) (k10 : ∀ (c2 : (vHere σ 0) ≠ 32) (c3 : (vHere σ 0) ≠ 10) (c5 : 0 ≤ (vHere (wr σ 68 7 (rd σ 68 4)) 0)) (c8 : (vHere (wr σ 68 7 (rd σ 68 4)) 0) = 112) (c17 : (vDig (vHere (wr (wr (wr σ 68 7 (rd σ 68 4)) 68 9 0) 68 8 0) 1)) = false) (c19 : (vLet (vHere (wr σ 68 7 (rd σ 68 4)) 0)) = false) (c22 : (vDig (vHere (wr σ 68 7 (rd σ 68 4)) 0)) = true), pR mX11_next d 205 [(2, 68), (0, (vHere (wr σ 68 7 (rd σ 68 4)) 0)), (0, 0)] [] (wr (wr (wr σ 68 7 (rd σ 68 4)) 68 9 0) 68 8 0) Q) (k11 : ∀ (c2 : (vHere σ 0) ≠ 32) (c3 : (vHere σ 0) ≠ 10) (c5 : 0 ≤ (vHere (wr σ 68 7 (rd σ 68 4)) 0)) (c8 : (vHere (wr σ 68 7 (rd σ 68 4)) 0) = 112) (c17 : (vDig (vHere (wr (wr (wr σ 68 7 (rd σ 68 4)) 68 9 0) 68 8 0) 1)) = false) (c20 : (vLet (vHere (wr σ 68 7 (rd σ 68 4)) 0)) = true), pR mX11_next d 139 [(2, 68), (0, (vHere (wr σ 68 7 (rd σ 68 4)) 0)), (0, 0)] [] (wr (wr (wr σ 68 7 (rd σ 68 4)) 68 9 0) 68 8 0) Q) (f12 : ∀ (c2 : (vHere σ 0) ≠ 32) (c3 : (vHere σ 0) ≠ 10) (c5 : 0 ≤ (vHere (wr σ 68 7 (rd σ 68 4)) 0)) (c8 : (vHere (wr σ 68 7 (rd σ 68 4)) 0) = 112) (c18 : (vDig (vHere (wr (wr (wr σ 68 7 (rd σ 68 4)) 68 9 0) 68 8 0) 1)) = true), pC mX11_here 0 [(2, 68), (0, 2)] (wr (wr (wr σ 68 7 (rd σ 68 4)) 68 9 0) 68 8 0) (fun r τ => r = some (0, (vHere (wr (wr (wr σ 68 7 (rd σ 68 4)) 68 9 0) 68 8 0) 2)) ∧ τ = (wr (wr (wr σ 68 7 (rd σ 68 4)) 68 9 0) 68 8 0))) (f13 : ∀ (c2 : (vHere σ 0) ≠ 32) (c3 : (vHere σ 0) ≠ 10) (c5 : 0 ≤ (vHere (wr σ 68 7 (rd σ 68 4)) 0)) (c8 : (vHere (wr σ 68 7 (rd σ 68 4)) 0) = 112) (c18 : (vDig (vHere (wr (wr (wr σ 68 7 (rd σ 68 4)) 68 9 0) 68 8 0) 1)) = true), pC mX11_isDigit 0 [(0, (vHere (wr (wr (wr σ 68 7 (rd σ 68 4)) 68 9 0) 68 8 0) 2))] (wr (wr (wr σ 68 7 (rd σ 68 4)) 68 9 0) 68 8 0) (fun r τ => r = some (0, b2i (vDig (vHere (wr (wr (wr σ 68 7 (rd σ 68 4)) 68 9 0) 68 8 0) 2))) ∧ τ = (wr (wr (wr σ 68 7 (rd σ 68 4)) 68 9 0) 68 8 0))) (f14 : ∀ (c2 : (vHere σ 0) ≠ 32) (c3 : (vHere σ 0) ≠ 10) (c5 : 0 ≤ (vHere (wr σ 68 7 (rd σ 68 4)) 0)) (c8 : (vHere (wr σ 68 7 (rd σ 68 4)) 0) = 112) (c18 : (vDig (vHere (wr (wr (wr σ 68 7 (rd σ 68 4)) 68 9 0) 68 8 0) 1)) = true) (c27 : (vDig (vHere (wr (wr (wr σ 68 7 (rd σ 68 4)) 68 9 0) 68 8 0) 2)) = true), pC mX11_isLetter 0 [(0, (vHere (wr σ 68 7 (rd σ 68 4)) 0))] (wr (wr (wr σ 68 7 (rd σ 68 4)) 68 9 0) 68 8 0) (fun r τ => r = some (0, b2i (vLet (vHere (wr σ 68 7 (rd σ 68 4)) 0))) ∧ τ = (wr (wr (wr σ 68 7 (rd σ 68 4)) 68 9 0) 68 8 0))) (f15 : ∀ (c2 : (vHere σ 0) ≠ 32) (c3 : (vHere σ 0) ≠ 10) (c5 : 0 ≤ (vHere (wr σ 68 7 (rd σ 68 4)) 0)) (c8 : (vHere (wr σ 68 7 (rd σ 68 4)) 0) = 112) (c18 : (vDig (vHere (wr (wr (wr σ 68 7 (rd σ 68 4)) 68 9 0) 68 8 0) 1)) = true) (c27 : (vDig (vHere (wr (wr (wr σ 68 7 (rd σ 68 4)) 68 9 0) 68 8 0) 2)) = true) (c29 : (vLet (vHere (wr σ 68 7 (rd σ 68 4)) 0)) = false), pC mX11_isDigit 0 [(0, (vHere (wr σ 68 7 (rd σ 68 4)) 0))] (wr (wr (wr σ 68 7 (rd σ 68 4)) 68 9 0) 68 8 0) (fun r τ => r = some (0, b2i (vDig (vHere (wr σ 68 7 (rd σ 68 4)) 0))) ∧ τ = (wr (wr (wr σ 68 7 (rd σ 68 4)) 68 9 0) 68 8 0))) (f16 : ∀ (c2 : (vHere σ 0) ≠ 32) (c3 : (vHere σ 0) ≠ 10) (c5 : 0 ≤ (vHere (wr σ 68 7 (rd σ 68 4)) 0)) (c8 : (vHere (wr σ 68 7 (rd σ 68 4)) 0) = 112) (c18 : (vDig (vHere (wr (wr (wr σ 68 7 (rd σ 68 4)) 68 9 0) 68 8 0) 1)) = true) (c27 : (vDig (vHere (wr (wr (wr σ 68 7 (rd σ 68 4)) 68 9 0) 68 8 0) 2)) = true) (c29 : (vLet (vHere (wr σ 68 7 (rd σ 68 4)) 0)) = false) (c31 : (vDig (vHere (wr σ 68 7 (rd σ 68 4)) 0)) = false), pC mX11_isSign 0 [(0, (vHere (wr σ 68 7 (rd σ 68 4)) 0))] (wr (wr (wr σ 68 7 (rd σ 68 4)) 68 9 0) 68 8 0) (fun r τ => r = some (0, b2i (vSig (vHere (wr σ 68 7 (rd σ 68 4)) 0))) ∧ τ = (wr (wr (wr σ 68 7 (rd σ 68 4)) 68 9 0) 68 8 0))) (k12 : ∀ (c2 : (vHere σ 0) ≠ 32) (c3 : (vHere σ 0) ≠ 10) (c5 : 0 ≤ (vHere (wr σ 68 7 (rd σ 68 4)) 0)) (c8 : (vHere (wr σ 68 7 (rd σ 68 4)) 0) = 112) (c18 : (vDig (vHere (wr (wr (wr σ 68 7 (rd σ 68 4)) 68 9 0) 68 8 0) 1)) = true) (c27 : (vDig (vHere (wr (wr (wr σ 68 7 (rd σ 68 4)) 68 9 0) 68 8 0) 2)) = true) (c29 : (vLet (vHere (wr σ 68 7 (rd σ 68 4)) 0)) = false) (c31 : (vDig (vHere (wr σ 68 7 (rd σ 68 4)) 0)) = false) (c33 : (vSig (vHere (wr σ 68 7 (rd σ 68 4)) 0)) = false), Q none (wr (wr (wr (wr σ 68 7 (rd σ 68 4)) 68 9 0) 68 8 0) 68 6 4)) (k13 : ∀ (c2 : (vHere σ 0) ≠ 32) (c3 : (vHere σ 0) ≠ 10) (c5 : 0 ≤ (vHere (wr σ 68 7 (rd σ 68 4)) 0)) (c8 : (vHere (wr σ 68 7 (rd σ 68 4)) 0) = 112) (c18 : (vDig (vHere (wr (wr (wr σ 68 7 (rd σ 68 4)) 68 9 0) 68 8 0) 1)) = true) (c27 : (vDig (vHere (wr (wr (wr σ 68 7 (rd σ 68 4)) 68 9 0) 68 8 0) 2)) = true) (c29 : (vLet (vHere (wr σ 68 7 (rd σ 68 4)) 0)) = false) (c31 : (vDig (vHere (wr σ 68 7 (rd σ 68 4)) 0)) = false) (c34 : (vSig (vHere (wr σ 68 7 (rd σ 68 4)) 0)) = true) (c35 : (vHere (wr σ 68 7 (rd σ 68 4)) 0) = 4), Q none (wr (wr (wr (wr σ 68 7 (rd σ 68 4)) 68 9 0) 68 8 0) 68 6 (vHere (wr σ 68 7 (rd σ 68 4)) 0))) (k14 : ∀ (c2 : (vHere σ 0) ≠ 32) (c3 : (vHere σ 0) ≠ 10) (c5 : 0 ≤ (vHere (wr σ 68 7 (rd σ 68 4)) 0)) (c8 : (vHere (wr σ 68 7 (rd σ 68 4)) 0) = 112) (c18 : (vDig (vHere (wr (wr (wr σ 68 7 (rd σ 68 4)) 68 9 0) 68 8 0) 1)) = true) (c27 : (vDig (vHere (wr (wr (wr σ 68 7 (rd σ 68 4)) 68 9 0) 68 8 0) 2)) = true) (c29 : (vLet (vHere (wr σ 68 7 (rd σ 68 4)) 0)) = false) (c31 : (vDig (vHere (wr σ 68 7 (rd σ 68 4)) 0)) = false) (c34 : (vSig (vHere (wr σ 68 7 (rd σ 68 4)) 0)) = true) (c36 : (vHere (wr σ 68 7 (rd σ 68 4)) 0) ≠ 4), Q none (wr (wr (wr (wr (wr σ 68 7 (rd σ 68 4)) 68 9 0) 68 8 0) 68 6 (vHere (wr σ 68 7 (rd σ 68 4)) 0)) 68 4 ((rd σ 68 4) + 1))) (k15 : ∀ (c2 : (vHere σ 0) ≠ 32) (c3 : (vHere σ 0) ≠ 10) (c5 : 0 ≤ (vHere (wr σ 68 7 (rd σ 68 4)) 0)) (c8 : (vHere (wr σ 68 7 (rd σ 68 4)) 0) = 112) (c18 : (vDig (vHere (wr (wr (wr σ 68 7 (rd σ 68 4)) 68 9 0) 68 8 0) 1)) = true) (c27 : (vDig (vHere (wr (wr (wr σ 68 7 (rd σ 68 4)) 68 9 0) 68 8 0) 2)) = true) (c29 : (vLet (vHere (wr σ 68 7 (rd σ 68 4)) 0)) = false) (c32 : (vDig (vHere (wr σ 68 7 (rd σ 68 4)) 0)) = true), pR mX11_next d 205 [(2, 68), (0, (vHere (wr σ 68 7 (rd σ 68 4)) 0)), (0, 0)] [] (wr (wr (wr σ 68 7 (rd σ 68 4)) 68 9 0) 68 8 0) Q) (k16 : ∀ (c2 : (vHere σ 0) ≠ 32) (c3 : (vHere σ 0) ≠ 10) (c5 : 0 ≤ (vHere (wr σ 68 7 (rd σ 68 4)) 0)) (c8 : (vHere (wr σ 68 7 (rd σ 68 4)) 0) = 112) (c18 : (vDig (vHere (wr (wr (wr σ 68 7 (rd σ 68 4)) 68 9 0) 68 8 0) 1)) = true) (c27 : (vDig (vHere (wr (wr (wr σ 68 7 (rd σ 68 4)) 68 9 0) 68 8 0) 2)) = true) (c30 : (vLet (vHere (wr σ 68 7 (rd σ 68 4)) 0)) = true), pR mX11_next d 139 [(2, 68), (0, (vHere (wr σ 68 7 (rd σ 68 4)) 0)), (0, 0)] [] (wr (wr (wr σ 68 7 (rd σ 68 4)) 68 9 0) 68 8 0) Q) (f17 : ∀ (c2 : (vHere σ 0) ≠ 32) (c3 : (vHere σ 0) ≠ 10) (c5 : 0 ≤ (vHere (wr σ 68 7 (rd σ 68 4)) 0)) (c8 : (vHere (wr σ 68 7 (rd σ 68 4)) 0) = 112) (c18 : (vDig (vHere (wr (wr (wr σ 68 7 (rd σ 68 4)) 68 9 0) 68 8 0) 1)) = true) (c28 : (vDig (vHere (wr (wr (wr σ 68 7 (rd σ 68 4)) 68 9 0) 68 8 0) 2)) = false), pC mX11_here 0 [(2, 68), (0, 2)] (wr (wr (wr σ 68 7 (rd σ 68 4)) 68 9 0) 68 8 0) (fun r τ => r = some (0, (vHere (wr (wr (wr σ 68 7 (rd σ 68 4)) 68 9 0) 68 8 0) 2)) ∧ τ = (wr (wr (wr σ 68 7 (rd σ 68 4)) 68 9 0) 68 8 0))) (f18 : ∀ (c2 : (vHere σ 0) ≠ 32) (c3 : (vHere σ 0) ≠ 10) (c5 : 0 ≤ (vHere (wr σ 68 7 (rd σ 68 4)) 0)) (c8 : (vHere (wr σ 68 7 (rd σ 68 4)) 0) = 112) (c18 : (vDig (vHere (wr (wr (wr σ 68 7 (rd σ 68 4)) 68 9 0) 68 8 0) 1)) = true) (c28 : (vDig (vHere (wr (wr (wr σ 68 7 (rd σ 68 4)) 68 9 0) 68 8 0) 2)) = false), pC mX11_isLetter 0 [(0, (vHere (wr (wr (wr σ 68 7 (rd σ 68 4)) 68 9 0) 68 8 0) 2))] (wr (wr (wr σ 68 7 (rd σ 68 4)) 68 9 0) 68 8 0) (fun r τ => r = some (0, b2i (vLet (vHere (wr (wr (wr σ 68 7 (rd σ 68 4)) 68 9 0) 68 8 0) 2))) ∧ τ = (wr (wr (wr σ 68 7 (rd σ 68 4)) 68 9 0) 68 8 0))) (f19 : ∀ (c2 : (vHere σ 0) ≠ 32) (c3 : (vHere σ 0) ≠ 10) (c5 : 0 ≤ (vHere (wr σ 68 7 (rd σ 68 4)) 0)) (c8 : (vHere (wr σ 68 7 (rd σ 68 4)) 0) = 112) (c18 : (vDig (vHere (wr (wr (wr σ 68 7 (rd σ 68 4)) 68 9 0) 68 8 0) 1)) = true) (c28 : (vDig (vHere (wr (wr (wr σ 68 7 (rd σ 68 4)) 68 9 0) 68 8 0) 2)) = false) (c37 : (vLet (vHere (wr (wr (wr σ 68 7 (rd σ 68 4)) 68 9 0) 68 8 0) 2)) = true), pC mX11_isLetter 0 [(0, (vHere (wr σ 68 7 (rd σ 68 4)) 0))] (wr (wr (wr σ 68 7 (rd σ 68 4)) 68 9 0) 68 8 0) (fun r τ => r = some (0, b2i (vLet (vHere (wr σ 68 7 (rd σ 68 4)) 0))) ∧ τ = (wr (wr (wr σ 68 7 (rd σ 68 4)) 68 9 0) 68 8 0))) (f20 : ∀ (c2 : (vHere σ 0) ≠ 32) (c3 : (vHere σ 0) ≠ 10) (c5 : 0 ≤ (vHere (wr σ 68 7 (rd σ 68 4)) 0)) (c8 : (vHere (wr σ 68 7 (rd σ 68 4)) 0) = 112) (c18 : (vDig (vHere (wr (wr (wr σ 68 7 (rd σ 68 4)) 68 9 0) 68 8 0) 1)) = true) (c28 : (vDig (vHere (wr (wr (wr σ 68 7 (rd σ 68 4)) 68 9 0) 68 8 0) 2)) = false) (c37 : (vLet (vHere (wr (wr (wr σ 68 7 (rd σ 68 4)) 68 9 0) 68 8 0) 2)) = true) (c39 : (vLet (vHere (wr σ 68 7 (rd σ 68 4)) 0)) = false), pC mX11_isDigit 0 [(0, (vHere (wr σ 68 7 (rd σ 68 4)) 0))] (wr (wr (wr σ 68 7 (rd σ 68 4)) 68 9 0) 68 8 0) (fun r τ => r = some (0, b2i (vDig (vHere (wr σ 68 7 (rd σ 68 4)) 0))) ∧ τ = (wr (wr (wr σ 68 7 (rd σ 68 4)) 68 9 0) 68 8 0))) (f21 : ∀ (c2 : (vHere σ 0) ≠ 32) (c3 : (vHere σ 0) ≠ 10) (c5 : 0 ≤ (vHere (wr σ 68 7 (rd σ 68 4)) 0)) (c8 : (vHere (wr σ 68 7 (rd σ 68 4)) 0) = 112) (c18 : (vDig (vHere (wr (wr (wr σ 68 7 (rd σ 68 4)) 68 9 0) 68 8 0) 1)) = true) (c28 : (vDig (vHere (wr (wr (wr σ 68 7 (rd σ 68 4)) 68 9 0) 68 8 0) 2)) = false) (c37 : (vLet (vHere (wr (wr (wr σ 68 7 (rd σ 68 4)) 68 9 0) 68 8 0) 2)) = true) (c39 : (vLet (vHere (wr σ 68 7 (rd σ 68 4)) 0)) = false) (c41 : (vDig (vHere (wr σ 68 7 (rd σ 68 4)) 0)) = false), pC mX11_isSign 0 [(0, (vHere (wr σ 68 7 (rd σ 68 4)) 0))] (wr (wr (wr σ 68 7 (rd σ 68 4)) 68 9 0) 68 8 0) (fun r τ => r = some (0, b2i (vSig (vHere (wr σ 68 7 (rd σ 68 4)) 0))) ∧ τ = (wr (wr (wr σ 68 7 (rd σ 68 4)) 68 9 0) 68 8 0))) (k17 : ∀ (c2 : (vHere σ 0) ≠ 32) (c3 : (vHere σ 0) ≠ 10) (c5 : 0 ≤ (vHere (wr σ 68 7 (rd σ 68 4)) 0)) (c8 : (vHere (wr σ 68 7 (rd σ 68 4)) 0) = 112) (c18 : (vDig (vHere (wr (wr (wr σ 68 7 (rd σ 68 4)) 68 9 0) 68 8 0) 1)) = true) (c28 : (vDig (vHere (wr (wr (wr σ 68 7 (rd σ 68 4)) 68 9 0) 68 8 0) 2)) = false) (c37 : (vLet (vHere (wr (wr (wr σ 68 7 (rd σ 68 4)) 68 9 0) 68 8 0) 2)) = true) (c39 : (vLet (vHere (wr σ 68 7 (rd σ 68 4)) 0)) = false) (c41 : (vDig (vHere (wr σ 68 7 (rd σ 68 4)) 0)) = false) (c43 : (vSig (vHere (wr σ 68 7 (rd σ 68 4)) 0)) = false), Q none (wr (wr (wr (wr σ 68 7 (rd σ 68 4)) 68 9 0) 68 8 0) 68 6 4)) (k18 : ∀ (c2 : (vHere σ 0) ≠ 32) (c3 : (vHere σ 0) ≠ 10) (c5 : 0 ≤ (vHere (wr σ 68 7 (rd σ 68 4)) 0)) (c8 : (vHere (wr σ 68 7 (rd σ 68 4)) 0) = 112) (c18 : (vDig (vHere (wr (wr (wr σ 68 7 (rd σ 68 4)) 68 9 0) 68 8 0) 1)) = true) (c28 : (vDig (vHere (wr (wr (wr σ 68 7 (rd σ 68 4)) 68 9 0) 68 8 0) 2)) = false) (c37 : (vLet (vHere (wr (wr (wr σ 68 7 (rd σ 68 4)) 68 9 0) 68 8 0) 2)) = true) (c39 : (vLet (vHere (wr σ 68 7 (rd σ 68 4)) 0)) = false) (c41 : (vDig (vHere (wr σ 68 7 (rd σ 68 4)) 0)) = false) (c44 : (vSig (vHere (wr σ 68 7 (rd σ 68 4)) 0)) = true) (c45 : (vHere (wr σ 68 7 (rd σ 68 4)) 0) = 4), Q none (wr (wr (wr (wr σ 68 7 (rd σ 68 4)) 68 9 0) 68 8 0) 68 6 (vHere (wr σ 68 7 (rd σ 68 4)) 0))) (k19 : ∀ (c2 : (vHere σ 0) ≠ 32) (c3 : (vHere σ 0) ≠ 10) (c5 : 0 ≤ (vHere (wr σ 68 7 (rd σ 68 4)) 0)) (c8 : (vHere (wr σ 68 7 (rd σ 68 4)) 0) = 112) (c18 : (vDig (vHere (wr (wr (wr σ 68 7 (rd σ 68 4)) 68 9 0) 68 8 0) 1)) = true) (c28 : (vDig (vHere (wr (wr (wr σ 68 7 (rd σ 68 4)) 68 9 0) 68 8 0) 2)) = false) (c37 : (vLet (vHere (wr (wr (wr σ 68 7 (rd σ 68 4)) 68 9 0) 68 8 0) 2)) = true) (c39 : (vLet (vHere (wr σ 68 7 (rd σ 68 4)) 0)) = false) (c41 : (vDig (vHere (wr σ 68 7 (rd σ 68 4)) 0)) = false) (c44 : (vSig (vHere (wr σ 68 7 (rd σ 68 4)) 0)) = true) (c46 : (vHere (wr σ 68 7 (rd σ 68 4)) 0) ≠ 4), Q none (wr (wr (wr (wr (wr σ 68 7 (rd σ 68 4)) 68 9 0) 68 8 0) 68 6 (vHere (wr σ 68 7 (rd σ 68 4)) 0)) 68 4 ((rd σ 68 4) + 1))) (k20 : ∀ (c2 : (vHere σ 0) ≠ 32) (c3 : (vHere σ 0) ≠ 10) (c5 : 0 ≤ (vHere (wr σ 68 7 (rd σ 68 4)) 0)) (c8 : (vHere (wr σ 68 7 (rd σ 68 4)) 0) = 112) (c18 : (vDig (vHere (wr (wr (wr σ 68 7 (rd σ 68 4)) 68 9 0) 68 8 0) 1)) = true) (c28 : (vDig (vHere (wr (wr (wr σ 68 7 (rd σ 68 4)) 68 9 0) 68 8 0) 2)) = false) (c37 : (vLet (vHere (wr (wr (wr σ 68 7 (rd σ 68 4)) 68 9 0) 68 8 0) 2)) = true) (c39 : (vLet (vHere (wr σ 68 7 (rd σ 68 4)) 0)) = false) (c42 : (vDig (vHere (wr σ 68 7 (rd σ 68 4)) 0)) = true), pR mX11_next d 205 [(2, 68), (0, (vHere (wr σ 68 7 (rd σ 68 4)) 0)), (0, 0)] [] (wr (wr (wr σ 68 7 (rd σ 68 4)) 68 9 0) 68 8 0) Q) (k21 : ∀ (c2 : (vHere σ 0) ≠ 32) (c3 : (vHere σ 0) ≠ 10) (c5 : 0 ≤ (vHere (wr σ 68 7 (rd σ 68 4)) 0)) (c8 : (vHere (wr σ 68 7 (rd σ 68 4)) 0) = 112) (c18 : (vDig (vHere (wr (wr (wr σ 68 7 (rd σ 68 4)) 68 9 0) 68 8 0) 1)) = true) (c28 : (vDig (vHere (wr (wr (wr σ 68 7 (rd σ 68 4)) 68 9 0) 68 8 0) 2)) = false) (c37 : (vLet (vHere (wr (wr (wr σ 68 7 (rd σ 68 4)) 68 9 0) 68 8 0) 2)) = true) (c40 : (vLet (vHere (wr σ 68 7 (rd σ 68 4)) 0)) = true), pR mX11_next d 139 [(2, 68), (0, (vHere (wr σ 68 7 (rd σ 68 4)) 0)), (0, 0)] [] (wr (wr (wr σ 68 7 (rd σ 68 4)) 68 9 0) 68 8 0) Q) (f22 : ∀ (c2 : (vHere σ 0) ≠ 32) (c3 : (vHere σ 0) ≠ 10) (c5 : 0 ≤ (vHere (wr σ 68 7 (rd σ 68 4)) 0)) (c8 : (vHere (wr σ 68 7 (rd σ 68 4)) 0) = 112) (c18 : (vDig (vHere (wr (wr (wr σ 68 7 (rd σ 68 4)) 68 9 0) 68 8 0) 1)) = true) (c28 : (vDig (vHere (wr (wr (wr σ 68 7 (rd σ 68 4)) 68 9 0) 68 8 0) 2)) = false) (c38 : (vLet (vHere (wr (wr (wr σ 68 7 (rd σ 68 4)) 68 9 0) 68 8 0) 2)) = false), pC mX11_here 0 [(2, 68), (0, 1)] (wr (wr (wr σ 68 7 (rd σ 68 4)) 68 9 0) 68 8 0) (fun r τ => r = some (0, (vHere (wr (wr (wr σ 68 7 (rd σ 68 4)) 68 9 0) 68 8 0) 1)) ∧ τ = (wr (wr (wr σ 68 7 (rd σ 68 4)) 68 9 0) 68 8 0))) (k22 : ∀ (c2 : (vHere σ 0) ≠ 32) (c3 : (vHere σ 0) ≠ 10) (c5 : 0 ≤ (vHere (wr σ 68 7 (rd σ 68 4)) 0)) (c8 : (vHere (wr σ 68 7 (rd σ 68 4)) 0) = 112) (c18 : (vDig (vHere (wr (wr (wr σ 68 7 (rd σ 68 4)) 68 9 0) 68 8 0) 1)) = true) (c28 : (vDig (vHere (wr (wr (wr σ 68 7 (rd σ 68 4)) 68 9 0) 68 8 0) 2)) = false) (c38 : (vLet (vHere (wr (wr (wr σ 68 7 (rd σ 68 4)) 68 9 0) 68 8 0) 2)) = false), Q none (wr (wr (wr (wr (wr (wr σ 68 7 (rd σ 68 4)) 68 9 0) 68 8 0) 68 8 ((vHere (wr (wr (wr σ 68 7 (rd σ 68 4)) 68 9 0) 68 8 0) 1) - 48)) 68 6 3) 68 4 ((rd σ 68 4) + 2))) (k23 : ∀ (c2 : (vHere σ 0) ≠ 32) (c3 : (vHere σ 0) ≠ 10) (c6 : (vHere (wr σ 68 7 (rd σ 68 4)) 0) < 0), Q none (wr (wr (wr (wr (wr σ 68 7 (rd σ 68 4)) 68 9 0) 68 8 0) 68 6 0) 68 4 ((rd σ 68 4) + 0))) (k24 : ∀ (c2 : (vHere σ 0) ≠ 32) (c4 : (vHere σ 0) = 10), pR mX11_next d 0 [(2, 68), u1, u2] [] (wr σ 68 4 ((rd σ 68 4) + 1)) Q) : pR mX11_next d 0 [(2, 68), u1, u2] [] σ Q := by
  refine pGo (s_aload_n dX11_next_0 rfl (by decide)) ?_
  refine pGo (s_iconst dX11_next_1) ?_
  refine p_callV (As := [(0, 0)]) (st := []) (n := 1) (d' := 0) (Q1 := (fun r τ => r = some (0, (vHere σ 0)) ∧ τ = σ)) pc11 ok_X11_here ml_X11_246 im_X11_here se_X11_here dX11_next_2 (ob_68 hst) (pargs_of rfl) rfl (Nat.le_of_ble_eq_true rfl) (by omega) f1 (fun r1 τ1 e1 q1 w1 => ?_)
  obtain ⟨rfl, t1⟩ := q1
  rw [t1]
  show pR mX11_next d 5 [(2, 68), u1, u2] [(0, (vHere σ 0))] σ Q
  refine pGo (s_bipush dX11_next_5 (by decide)) ?_
  refine p_iceq (tgt := 20) dX11_next_7 (by decide) g1 (by decide) (fun c1 => ?_) (fun c2 => ?_)
  · refine pGo (s_aload_n dX11_next_20 rfl (by decide)) ?_
    refine pGo (s_dup dX11_next_21 (by decide)) ?_
    refine pGoE (y := (rd σ 68 4)) (s_getI pc11 fl_X11_240 dX11_next_22 (ob_68 hst) rfl (by decide)) rfl ?_
    refine pGo (s_iconst dX11_next_25) ?_
    refine pGo (s_iadd dX11_next_26) ?_
    refine pGo (s_putI pc11 fl_X11_240 dX11_next_27 (ob_68 hst) rfl rfl rfl rfl) ?_
    refine pGo (s_goto (tgt := 0) dX11_next_30 (by decide)) ?_
    exact (k1 c1)
  · refine pGo (s_aload_n dX11_next_10 rfl (by decide)) ?_
    refine pGo (s_iconst dX11_next_11) ?_
    refine p_callV (As := [(0, 0)]) (st := []) (n := 1) (d' := 0) (Q1 := (fun r τ => r = some (0, (vHere σ 0)) ∧ τ = σ)) pc11 ok_X11_here ml_X11_246 im_X11_here se_X11_here dX11_next_12 (ob_68 hst) (pargs_of rfl) rfl (Nat.le_of_ble_eq_true rfl) (by omega) (f2 c2) (fun r2 τ2 e2 q2 w2 => ?_)
    obtain ⟨rfl, t2⟩ := q2
    rw [t2]
    show pR mX11_next d 15 [(2, 68), u1, u2] [(0, (vHere σ 0))] σ Q
    refine pGo (s_bipush dX11_next_15 (by decide)) ?_
    refine p_icne (tgt := 33) dX11_next_17 (by decide) g1 (by decide) (fun c3 => ?_) (fun c4 => ?_)
    · refine pGo (s_aload_n dX11_next_33 rfl (by decide)) ?_
      refine pGo (s_aload_n dX11_next_34 rfl (by decide)) ?_
      refine pGoE (y := (rd σ 68 4)) (s_getI pc11 fl_X11_240 dX11_next_35 (ob_68 hst) rfl (by decide)) rfl ?_
      refine pGo (s_putI pc11 fl_X11_250 dX11_next_38 (ob_68 hst) rfl rfl rfl rfl) ?_
      refine pGo (s_aload_n dX11_next_41 rfl (by decide)) ?_
      refine pGo (s_iconst dX11_next_42) ?_
      refine p_callV (As := [(0, 0)]) (st := []) (n := 1) (d' := 0) (Q1 := (fun r τ => r = some (0, (vHere (wr σ 68 7 (rd σ 68 4)) 0)) ∧ τ = (wr σ 68 7 (rd σ 68 4)))) pc11 ok_X11_here ml_X11_246 im_X11_here se_X11_here dX11_next_43 (ob_68 hst) (pargs_of rfl) rfl (Nat.le_of_ble_eq_true rfl) (by omega) (f3 c2 c3) (fun r3 τ3 e3 q3 w3 => ?_)
      obtain ⟨rfl, t3⟩ := q3
      rw [t3]
      show pR mX11_next d 46 [(2, 68), u1, u2] [(0, (vHere (wr σ 68 7 (rd σ 68 4)) 0))] (wr σ 68 7 (rd σ 68 4)) Q
      refine pGoL (ls2 := [(2, 68), (0, (vHere (wr σ 68 7 (rd σ 68 4)) 0)), u2]) (s_istore_n dX11_next_46 (by decide) rfl) rfl ?_
      refine pGo (s_iconst dX11_next_47) ?_
      refine pGoL (ls2 := [(2, 68), (0, (vHere (wr σ 68 7 (rd σ 68 4)) 0)), (0, 0)]) (s_istore_n dX11_next_48 (by decide) rfl) rfl ?_
      refine pGo (s_aload_n dX11_next_49 rfl (by decide)) ?_
      refine pGo (s_lconst dX11_next_50 (v := 0) (by decide)) ?_
      refine pGo (s_putJ pc11 fl_X11_253 dX11_next_51 (ob_68 hst) rfl rfl rfl rfl) ?_
      refine pGo (s_aload_n dX11_next_54 rfl (by decide)) ?_
      refine pGo (s_iconst dX11_next_55) ?_
      refine pGo (s_putI pc11 fl_X11_257 dX11_next_56 (ob_68 hst) rfl rfl rfl rfl) ?_
      refine pGo (s_iload_n dX11_next_59 rfl) ?_
      refine p_ifge (tgt := 71) dX11_next_60 (by decide) (g2 c2 c3) (fun c5 => ?_) (fun c6 => ?_)
      · refine pGo (s_iload_n dX11_next_71 rfl) ?_
        refine pGo (s_bipush dX11_next_72 (by decide)) ?_
        refine p_icne (tgt := 132) dX11_next_74 (by decide) (g2 c2 c3) (by decide) (fun c7 => ?_) (fun c8 => ?_)
        · refine pGo (s_iload_n dX11_next_132 rfl) ?_
          refine p_callS (As := [(0, (vHere (wr σ 68 7 (rd σ 68 4)) 0))]) (st := []) (n := 1) (d' := 0) (Q1 := (fun r τ => r = some (0, b2i (vLet (vHere (wr σ 68 7 (rd σ 68 4)) 0))) ∧ τ = (wr (wr (wr σ 68 7 (rd σ 68 4)) 68 9 0) 68 8 0))) ok_X11_isLetter ml_X11_267 sm_X11_isLetter dX11_next_133 (pargs_of rfl) rfl (Nat.le_of_ble_eq_true rfl) (by omega) (f4 c2 c3 c5 c7) (fun r4 τ4 e4 q4 w4 => ?_)
          obtain ⟨rfl, t4⟩ := q4
          rw [t4]
          show pR mX11_next d 136 [(2, 68), (0, (vHere (wr σ 68 7 (rd σ 68 4)) 0)), (0, 0)] [(0, (b2i (vLet (vHere (wr σ 68 7 (rd σ 68 4)) 0))))] (wr (wr (wr σ 68 7 (rd σ 68 4)) 68 9 0) 68 8 0) Q
          refine p_ifeqB (tgt := 198) dX11_next_136 (by decide) (fun c9 => ?_) (fun c10 => ?_)
          · refine pGo (s_iload_n dX11_next_198 rfl) ?_
            refine p_callS (As := [(0, (vHere (wr σ 68 7 (rd σ 68 4)) 0))]) (st := []) (n := 1) (d' := 0) (Q1 := (fun r τ => r = some (0, b2i (vDig (vHere (wr σ 68 7 (rd σ 68 4)) 0))) ∧ τ = (wr (wr (wr σ 68 7 (rd σ 68 4)) 68 9 0) 68 8 0))) ok_X11_isDigit ml_X11_263 sm_X11_isDigit dX11_next_199 (pargs_of rfl) rfl (Nat.le_of_ble_eq_true rfl) (by omega) (f5 c2 c3 c5 c7 c9) (fun r5 τ5 e5 q5 w5 => ?_)
            obtain ⟨rfl, t5⟩ := q5
            rw [t5]
            show pR mX11_next d 202 [(2, 68), (0, (vHere (wr σ 68 7 (rd σ 68 4)) 0)), (0, 0)] [(0, (b2i (vDig (vHere (wr σ 68 7 (rd σ 68 4)) 0))))] (wr (wr (wr σ 68 7 (rd σ 68 4)) 68 9 0) 68 8 0) Q
            refine p_ifeqB (tgt := 275) dX11_next_202 (by decide) (fun c11 => ?_) (fun c12 => ?_)
            · refine pGo (s_iconst dX11_next_275) ?_
              refine pGoL (ls2 := [(2, 68), (0, (vHere (wr σ 68 7 (rd σ 68 4)) 0)), (0, 1)]) (s_istore_n dX11_next_276 (by decide) rfl) rfl ?_
              refine pGo (s_aload_n dX11_next_277 rfl (by decide)) ?_
              refine pGo (s_iload_n dX11_next_278 rfl) ?_
              refine p_callS (As := [(0, (vHere (wr σ 68 7 (rd σ 68 4)) 0))]) (st := [(2, 68)]) (n := 1) (d' := 0) (Q1 := (fun r τ => r = some (0, b2i (vSig (vHere (wr σ 68 7 (rd σ 68 4)) 0))) ∧ τ = (wr (wr (wr σ 68 7 (rd σ 68 4)) 68 9 0) 68 8 0))) ok_X11_isSign ml_X11_270 sm_X11_isSign dX11_next_279 (pargs_of rfl) rfl (Nat.le_of_ble_eq_true rfl) (by omega) (f6 c2 c3 c5 c7 c9 c11) (fun r6 τ6 e6 q6 w6 => ?_)
              obtain ⟨rfl, t6⟩ := q6
              rw [t6]
              show pR mX11_next d 282 [(2, 68), (0, (vHere (wr σ 68 7 (rd σ 68 4)) 0)), (0, 1)] [(0, (b2i (vSig (vHere (wr σ 68 7 (rd σ 68 4)) 0)))), (2, 68)] (wr (wr (wr σ 68 7 (rd σ 68 4)) 68 9 0) 68 8 0) Q
              refine p_ifeqB (tgt := 289) dX11_next_282 (by decide) (fun c13 => ?_) (fun c14 => ?_)
              · refine pGo (s_iconst dX11_next_289) ?_
                refine pGo (s_putI pc11 fl_X11_260 dX11_next_290 (ob_68 hst) rfl rfl rfl rfl) ?_
                refine pGo (s_aload_n dX11_next_293 rfl (by decide)) ?_
                refine pGoE (y := 4) (s_getI pc11 fl_X11_260 dX11_next_294 (ob_68 hst) rfl (by decide)) (rd_wr_same _ _ _ _) ?_
                refine pGo (s_iconst dX11_next_297) ?_
                refine p_iceq (tgt := 311) dX11_next_298 (by decide) (by decide) (by decide) (fun _ => ?_) (fun q => absurd q (by decide))
                exact pEnd (r := none) dX11_next_311 rfl (k2 c2 c3 c5 c7 c9 c11 c13)
              · refine pGo (s_iload_n dX11_next_285 rfl) ?_
                refine pGo (s_goto (tgt := 290) dX11_next_286 (by decide)) ?_
                refine pGo (s_putI pc11 fl_X11_260 dX11_next_290 (ob_68 hst) rfl rfl rfl rfl) ?_
                refine pGo (s_aload_n dX11_next_293 rfl (by decide)) ?_
                refine pGoE (y := (vHere (wr σ 68 7 (rd σ 68 4)) 0)) (s_getI pc11 fl_X11_260 dX11_next_294 (ob_68 hst) rfl (by decide)) (rd_wr_same _ _ _ _) ?_
                refine pGo (s_iconst dX11_next_297) ?_
                refine p_iceq (tgt := 311) dX11_next_298 (by decide) (g2 c2 c3) (by decide) (fun c15 => ?_) (fun c16 => ?_)
                · exact pEnd (r := none) dX11_next_311 rfl (k3 c2 c3 c5 c7 c9 c11 c14 c15)
                · refine pGo (s_aload_n dX11_next_301 rfl (by decide)) ?_
                  refine pGo (s_dup dX11_next_302 (by decide)) ?_
                  refine pGoE (y := (rd σ 68 4)) (s_getI pc11 fl_X11_240 dX11_next_303 (ob_68 hst) rfl (by decide)) ((rd_wr_i _ (by decide)).trans ((rd_wr_i _ (by decide)).trans ((rd_wr_i _ (by decide)).trans (rd_wr_i _ (by decide))))) ?_
                  refine pGo (s_iload_n dX11_next_306 rfl) ?_
                  refine pGo (s_iadd dX11_next_307) ?_
                  refine pGo (s_putI pc11 fl_X11_240 dX11_next_308 (ob_68 hst) rfl rfl rfl rfl) ?_
                  exact pEnd (r := none) dX11_next_311 rfl (k4 c2 c3 c5 c7 c9 c11 c14 c16)
            · exact (k5 c2 c3 c5 c7 c9 c12)
          · exact (k6 c2 c3 c5 c7 c10)
        · refine pGo (s_aload_n dX11_next_77 rfl (by decide)) ?_
          refine pGo (s_iconst dX11_next_78) ?_
          refine p_callV (As := [(0, 1)]) (st := []) (n := 1) (d' := 0) (Q1 := (fun r τ => r = some (0, (vHere (wr (wr (wr σ 68 7 (rd σ 68 4)) 68 9 0) 68 8 0) 1)) ∧ τ = (wr (wr (wr σ 68 7 (rd σ 68 4)) 68 9 0) 68 8 0))) pc11 ok_X11_here ml_X11_246 im_X11_here se_X11_here dX11_next_79 (ob_68 hst) (pargs_of rfl) rfl (Nat.le_of_ble_eq_true rfl) (by omega) (f7 c2 c3 c5 c8) (fun r7 τ7 e7 q7 w7 => ?_)
          obtain ⟨rfl, t7⟩ := q7
          rw [t7]
          show pR mX11_next d 82 [(2, 68), (0, (vHere (wr σ 68 7 (rd σ 68 4)) 0)), (0, 0)] [(0, (vHere (wr (wr (wr σ 68 7 (rd σ 68 4)) 68 9 0) 68 8 0) 1))] (wr (wr (wr σ 68 7 (rd σ 68 4)) 68 9 0) 68 8 0) Q
          refine p_callS (As := [(0, (vHere (wr (wr (wr σ 68 7 (rd σ 68 4)) 68 9 0) 68 8 0) 1))]) (st := []) (n := 1) (d' := 0) (Q1 := (fun r τ => r = some (0, b2i (vDig (vHere (wr (wr (wr σ 68 7 (rd σ 68 4)) 68 9 0) 68 8 0) 1))) ∧ τ = (wr (wr (wr σ 68 7 (rd σ 68 4)) 68 9 0) 68 8 0))) ok_X11_isDigit ml_X11_263 sm_X11_isDigit dX11_next_82 (pargs_of rfl) rfl (Nat.le_of_ble_eq_true rfl) (by omega) (f8 c2 c3 c5 c8) (fun r8 τ8 e8 q8 w8 => ?_)
          obtain ⟨rfl, t8⟩ := q8
          rw [t8]
          show pR mX11_next d 85 [(2, 68), (0, (vHere (wr σ 68 7 (rd σ 68 4)) 0)), (0, 0)] [(0, (b2i (vDig (vHere (wr (wr (wr σ 68 7 (rd σ 68 4)) 68 9 0) 68 8 0) 1))))] (wr (wr (wr σ 68 7 (rd σ 68 4)) 68 9 0) 68 8 0) Q
          refine p_ifeqB (tgt := 132) dX11_next_85 (by decide) (fun c17 => ?_) (fun c18 => ?_)
          · refine pGo (s_iload_n dX11_next_132 rfl) ?_
            refine p_callS (As := [(0, (vHere (wr σ 68 7 (rd σ 68 4)) 0))]) (st := []) (n := 1) (d' := 0) (Q1 := (fun r τ => r = some (0, b2i (vLet (vHere (wr σ 68 7 (rd σ 68 4)) 0))) ∧ τ = (wr (wr (wr σ 68 7 (rd σ 68 4)) 68 9 0) 68 8 0))) ok_X11_isLetter ml_X11_267 sm_X11_isLetter dX11_next_133 (pargs_of rfl) rfl (Nat.le_of_ble_eq_true rfl) (by omega) (f9 c2 c3 c5 c8 c17) (fun r9 τ9 e9 q9 w9 => ?_)
            obtain ⟨rfl, t9⟩ := q9
            rw [t9]
            show pR mX11_next d 136 [(2, 68), (0, (vHere (wr σ 68 7 (rd σ 68 4)) 0)), (0, 0)] [(0, (b2i (vLet (vHere (wr σ 68 7 (rd σ 68 4)) 0))))] (wr (wr (wr σ 68 7 (rd σ 68 4)) 68 9 0) 68 8 0) Q
            refine p_ifeqB (tgt := 198) dX11_next_136 (by decide) (fun c19 => ?_) (fun c20 => ?_)
            · refine pGo (s_iload_n dX11_next_198 rfl) ?_
              refine p_callS (As := [(0, (vHere (wr σ 68 7 (rd σ 68 4)) 0))]) (st := []) (n := 1) (d' := 0) (Q1 := (fun r τ => r = some (0, b2i (vDig (vHere (wr σ 68 7 (rd σ 68 4)) 0))) ∧ τ = (wr (wr (wr σ 68 7 (rd σ 68 4)) 68 9 0) 68 8 0))) ok_X11_isDigit ml_X11_263 sm_X11_isDigit dX11_next_199 (pargs_of rfl) rfl (Nat.le_of_ble_eq_true rfl) (by omega) (f10 c2 c3 c5 c8 c17 c19) (fun r10 τ10 e10 q10 w10 => ?_)
              obtain ⟨rfl, t10⟩ := q10
              rw [t10]
              show pR mX11_next d 202 [(2, 68), (0, (vHere (wr σ 68 7 (rd σ 68 4)) 0)), (0, 0)] [(0, (b2i (vDig (vHere (wr σ 68 7 (rd σ 68 4)) 0))))] (wr (wr (wr σ 68 7 (rd σ 68 4)) 68 9 0) 68 8 0) Q
              refine p_ifeqB (tgt := 275) dX11_next_202 (by decide) (fun c21 => ?_) (fun c22 => ?_)
              · refine pGo (s_iconst dX11_next_275) ?_
                refine pGoL (ls2 := [(2, 68), (0, (vHere (wr σ 68 7 (rd σ 68 4)) 0)), (0, 1)]) (s_istore_n dX11_next_276 (by decide) rfl) rfl ?_
                refine pGo (s_aload_n dX11_next_277 rfl (by decide)) ?_
                refine pGo (s_iload_n dX11_next_278 rfl) ?_
                refine p_callS (As := [(0, (vHere (wr σ 68 7 (rd σ 68 4)) 0))]) (st := [(2, 68)]) (n := 1) (d' := 0) (Q1 := (fun r τ => r = some (0, b2i (vSig (vHere (wr σ 68 7 (rd σ 68 4)) 0))) ∧ τ = (wr (wr (wr σ 68 7 (rd σ 68 4)) 68 9 0) 68 8 0))) ok_X11_isSign ml_X11_270 sm_X11_isSign dX11_next_279 (pargs_of rfl) rfl (Nat.le_of_ble_eq_true rfl) (by omega) (f11 c2 c3 c5 c8 c17 c19 c21) (fun r11 τ11 e11 q11 w11 => ?_)
                obtain ⟨rfl, t11⟩ := q11
                rw [t11]
                show pR mX11_next d 282 [(2, 68), (0, (vHere (wr σ 68 7 (rd σ 68 4)) 0)), (0, 1)] [(0, (b2i (vSig (vHere (wr σ 68 7 (rd σ 68 4)) 0)))), (2, 68)] (wr (wr (wr σ 68 7 (rd σ 68 4)) 68 9 0) 68 8 0) Q
                refine p_ifeqB (tgt := 289) dX11_next_282 (by decide) (fun c23 => ?_) (fun c24 => ?_)
                · refine pGo (s_iconst dX11_next_289) ?_
                  refine pGo (s_putI pc11 fl_X11_260 dX11_next_290 (ob_68 hst) rfl rfl rfl rfl) ?_
                  refine pGo (s_aload_n dX11_next_293 rfl (by decide)) ?_
                  refine pGoE (y := 4) (s_getI pc11 fl_X11_260 dX11_next_294 (ob_68 hst) rfl (by decide)) (rd_wr_same _ _ _ _) ?_
                  refine pGo (s_iconst dX11_next_297) ?_
                  refine p_iceq (tgt := 311) dX11_next_298 (by decide) (by decide) (by decide) (fun _ => ?_) (fun q => absurd q (by decide))
                  exact pEnd (r := none) dX11_next_311 rfl (k7 c2 c3 c5 c8 c17 c19 c21 c23)
                · refine pGo (s_iload_n dX11_next_285 rfl) ?_
                  refine pGo (s_goto (tgt := 290) dX11_next_286 (by decide)) ?_
                  refine pGo (s_putI pc11 fl_X11_260 dX11_next_290 (ob_68 hst) rfl rfl rfl rfl) ?_
                  refine pGo (s_aload_n dX11_next_293 rfl (by decide)) ?_
                  refine pGoE (y := (vHere (wr σ 68 7 (rd σ 68 4)) 0)) (s_getI pc11 fl_X11_260 dX11_next_294 (ob_68 hst) rfl (by decide)) (rd_wr_same _ _ _ _) ?_
                  refine pGo (s_iconst dX11_next_297) ?_
                  refine p_iceq (tgt := 311) dX11_next_298 (by decide) (g2 c2 c3) (by decide) (fun c25 => ?_) (fun c26 => ?_)
                  · exact pEnd (r := none) dX11_next_311 rfl (k8 c2 c3 c5 c8 c17 c19 c21 c24 c25)
                  · refine pGo (s_aload_n dX11_next_301 rfl (by decide)) ?_
                    refine pGo (s_dup dX11_next_302 (by decide)) ?_
                    refine pGoE (y := (rd σ 68 4)) (s_getI pc11 fl_X11_240 dX11_next_303 (ob_68 hst) rfl (by decide)) ((rd_wr_i _ (by decide)).trans ((rd_wr_i _ (by decide)).trans ((rd_wr_i _ (by decide)).trans (rd_wr_i _ (by decide))))) ?_
                    refine pGo (s_iload_n dX11_next_306 rfl) ?_
                    refine pGo (s_iadd dX11_next_307) ?_
                    refine pGo (s_putI pc11 fl_X11_240 dX11_next_308 (ob_68 hst) rfl rfl rfl rfl) ?_
                    exact pEnd (r := none) dX11_next_311 rfl (k9 c2 c3 c5 c8 c17 c19 c21 c24 c26)
              · exact (k10 c2 c3 c5 c8 c17 c19 c22)
            · exact (k11 c2 c3 c5 c8 c17 c20)
          · refine pGo (s_aload_n dX11_next_88 rfl (by decide)) ?_
            refine pGo (s_iconst dX11_next_89) ?_
            refine p_callV (As := [(0, 2)]) (st := []) (n := 1) (d' := 0) (Q1 := (fun r τ => r = some (0, (vHere (wr (wr (wr σ 68 7 (rd σ 68 4)) 68 9 0) 68 8 0) 2)) ∧ τ = (wr (wr (wr σ 68 7 (rd σ 68 4)) 68 9 0) 68 8 0))) pc11 ok_X11_here ml_X11_246 im_X11_here se_X11_here dX11_next_90 (ob_68 hst) (pargs_of rfl) rfl (Nat.le_of_ble_eq_true rfl) (by omega) (f12 c2 c3 c5 c8 c18) (fun r12 τ12 e12 q12 w12 => ?_)
            obtain ⟨rfl, t12⟩ := q12
            rw [t12]
            show pR mX11_next d 93 [(2, 68), (0, (vHere (wr σ 68 7 (rd σ 68 4)) 0)), (0, 0)] [(0, (vHere (wr (wr (wr σ 68 7 (rd σ 68 4)) 68 9 0) 68 8 0) 2))] (wr (wr (wr σ 68 7 (rd σ 68 4)) 68 9 0) 68 8 0) Q
            refine p_callS (As := [(0, (vHere (wr (wr (wr σ 68 7 (rd σ 68 4)) 68 9 0) 68 8 0) 2))]) (st := []) (n := 1) (d' := 0) (Q1 := (fun r τ => r = some (0, b2i (vDig (vHere (wr (wr (wr σ 68 7 (rd σ 68 4)) 68 9 0) 68 8 0) 2))) ∧ τ = (wr (wr (wr σ 68 7 (rd σ 68 4)) 68 9 0) 68 8 0))) ok_X11_isDigit ml_X11_263 sm_X11_isDigit dX11_next_93 (pargs_of rfl) rfl (Nat.le_of_ble_eq_true rfl) (by omega) (f13 c2 c3 c5 c8 c18) (fun r13 τ13 e13 q13 w13 => ?_)
            obtain ⟨rfl, t13⟩ := q13
            rw [t13]
            show pR mX11_next d 96 [(2, 68), (0, (vHere (wr σ 68 7 (rd σ 68 4)) 0)), (0, 0)] [(0, (b2i (vDig (vHere (wr (wr (wr σ 68 7 (rd σ 68 4)) 68 9 0) 68 8 0) 2))))] (wr (wr (wr σ 68 7 (rd σ 68 4)) 68 9 0) 68 8 0) Q
            refine p_ifneB (tgt := 132) dX11_next_96 (by decide) (fun c27 => ?_) (fun c28 => ?_)
            · refine pGo (s_iload_n dX11_next_132 rfl) ?_
              refine p_callS (As := [(0, (vHere (wr σ 68 7 (rd σ 68 4)) 0))]) (st := []) (n := 1) (d' := 0) (Q1 := (fun r τ => r = some (0, b2i (vLet (vHere (wr σ 68 7 (rd σ 68 4)) 0))) ∧ τ = (wr (wr (wr σ 68 7 (rd σ 68 4)) 68 9 0) 68 8 0))) ok_X11_isLetter ml_X11_267 sm_X11_isLetter dX11_next_133 (pargs_of rfl) rfl (Nat.le_of_ble_eq_true rfl) (by omega) (f14 c2 c3 c5 c8 c18 c27) (fun r14 τ14 e14 q14 w14 => ?_)
              obtain ⟨rfl, t14⟩ := q14
              rw [t14]
              show pR mX11_next d 136 [(2, 68), (0, (vHere (wr σ 68 7 (rd σ 68 4)) 0)), (0, 0)] [(0, (b2i (vLet (vHere (wr σ 68 7 (rd σ 68 4)) 0))))] (wr (wr (wr σ 68 7 (rd σ 68 4)) 68 9 0) 68 8 0) Q
              refine p_ifeqB (tgt := 198) dX11_next_136 (by decide) (fun c29 => ?_) (fun c30 => ?_)
              · refine pGo (s_iload_n dX11_next_198 rfl) ?_
                refine p_callS (As := [(0, (vHere (wr σ 68 7 (rd σ 68 4)) 0))]) (st := []) (n := 1) (d' := 0) (Q1 := (fun r τ => r = some (0, b2i (vDig (vHere (wr σ 68 7 (rd σ 68 4)) 0))) ∧ τ = (wr (wr (wr σ 68 7 (rd σ 68 4)) 68 9 0) 68 8 0))) ok_X11_isDigit ml_X11_263 sm_X11_isDigit dX11_next_199 (pargs_of rfl) rfl (Nat.le_of_ble_eq_true rfl) (by omega) (f15 c2 c3 c5 c8 c18 c27 c29) (fun r15 τ15 e15 q15 w15 => ?_)
                obtain ⟨rfl, t15⟩ := q15
                rw [t15]
                show pR mX11_next d 202 [(2, 68), (0, (vHere (wr σ 68 7 (rd σ 68 4)) 0)), (0, 0)] [(0, (b2i (vDig (vHere (wr σ 68 7 (rd σ 68 4)) 0))))] (wr (wr (wr σ 68 7 (rd σ 68 4)) 68 9 0) 68 8 0) Q
                refine p_ifeqB (tgt := 275) dX11_next_202 (by decide) (fun c31 => ?_) (fun c32 => ?_)
                · refine pGo (s_iconst dX11_next_275) ?_
                  refine pGoL (ls2 := [(2, 68), (0, (vHere (wr σ 68 7 (rd σ 68 4)) 0)), (0, 1)]) (s_istore_n dX11_next_276 (by decide) rfl) rfl ?_
                  refine pGo (s_aload_n dX11_next_277 rfl (by decide)) ?_
                  refine pGo (s_iload_n dX11_next_278 rfl) ?_
                  refine p_callS (As := [(0, (vHere (wr σ 68 7 (rd σ 68 4)) 0))]) (st := [(2, 68)]) (n := 1) (d' := 0) (Q1 := (fun r τ => r = some (0, b2i (vSig (vHere (wr σ 68 7 (rd σ 68 4)) 0))) ∧ τ = (wr (wr (wr σ 68 7 (rd σ 68 4)) 68 9 0) 68 8 0))) ok_X11_isSign ml_X11_270 sm_X11_isSign dX11_next_279 (pargs_of rfl) rfl (Nat.le_of_ble_eq_true rfl) (by omega) (f16 c2 c3 c5 c8 c18 c27 c29 c31) (fun r16 τ16 e16 q16 w16 => ?_)
                  obtain ⟨rfl, t16⟩ := q16
                  rw [t16]
                  show pR mX11_next d 282 [(2, 68), (0, (vHere (wr σ 68 7 (rd σ 68 4)) 0)), (0, 1)] [(0, (b2i (vSig (vHere (wr σ 68 7 (rd σ 68 4)) 0)))), (2, 68)] (wr (wr (wr σ 68 7 (rd σ 68 4)) 68 9 0) 68 8 0) Q
                  refine p_ifeqB (tgt := 289) dX11_next_282 (by decide) (fun c33 => ?_) (fun c34 => ?_)
                  · refine pGo (s_iconst dX11_next_289) ?_
                    refine pGo (s_putI pc11 fl_X11_260 dX11_next_290 (ob_68 hst) rfl rfl rfl rfl) ?_
                    refine pGo (s_aload_n dX11_next_293 rfl (by decide)) ?_
                    refine pGoE (y := 4) (s_getI pc11 fl_X11_260 dX11_next_294 (ob_68 hst) rfl (by decide)) (rd_wr_same _ _ _ _) ?_
                    refine pGo (s_iconst dX11_next_297) ?_
                    refine p_iceq (tgt := 311) dX11_next_298 (by decide) (by decide) (by decide) (fun _ => ?_) (fun q => absurd q (by decide))
                    exact pEnd (r := none) dX11_next_311 rfl (k12 c2 c3 c5 c8 c18 c27 c29 c31 c33)
                  · refine pGo (s_iload_n dX11_next_285 rfl) ?_
                    refine pGo (s_goto (tgt := 290) dX11_next_286 (by decide)) ?_
                    refine pGo (s_putI pc11 fl_X11_260 dX11_next_290 (ob_68 hst) rfl rfl rfl rfl) ?_
                    refine pGo (s_aload_n dX11_next_293 rfl (by decide)) ?_
                    refine pGoE (y := (vHere (wr σ 68 7 (rd σ 68 4)) 0)) (s_getI pc11 fl_X11_260 dX11_next_294 (ob_68 hst) rfl (by decide)) (rd_wr_same _ _ _ _) ?_
                    refine pGo (s_iconst dX11_next_297) ?_
                    refine p_iceq (tgt := 311) dX11_next_298 (by decide) (g2 c2 c3) (by decide) (fun c35 => ?_) (fun c36 => ?_)
                    · exact pEnd (r := none) dX11_next_311 rfl (k13 c2 c3 c5 c8 c18 c27 c29 c31 c34 c35)
                    · refine pGo (s_aload_n dX11_next_301 rfl (by decide)) ?_
                      refine pGo (s_dup dX11_next_302 (by decide)) ?_
                      refine pGoE (y := (rd σ 68 4)) (s_getI pc11 fl_X11_240 dX11_next_303 (ob_68 hst) rfl (by decide)) ((rd_wr_i _ (by decide)).trans ((rd_wr_i _ (by decide)).trans ((rd_wr_i _ (by decide)).trans (rd_wr_i _ (by decide))))) ?_
                      refine pGo (s_iload_n dX11_next_306 rfl) ?_
                      refine pGo (s_iadd dX11_next_307) ?_
                      refine pGo (s_putI pc11 fl_X11_240 dX11_next_308 (ob_68 hst) rfl rfl rfl rfl) ?_
                      exact pEnd (r := none) dX11_next_311 rfl (k14 c2 c3 c5 c8 c18 c27 c29 c31 c34 c36)
                · exact (k15 c2 c3 c5 c8 c18 c27 c29 c32)
              · exact (k16 c2 c3 c5 c8 c18 c27 c30)
            · refine pGo (s_aload_n dX11_next_99 rfl (by decide)) ?_
              refine pGo (s_iconst dX11_next_100) ?_
              refine p_callV (As := [(0, 2)]) (st := []) (n := 1) (d' := 0) (Q1 := (fun r τ => r = some (0, (vHere (wr (wr (wr σ 68 7 (rd σ 68 4)) 68 9 0) 68 8 0) 2)) ∧ τ = (wr (wr (wr σ 68 7 (rd σ 68 4)) 68 9 0) 68 8 0))) pc11 ok_X11_here ml_X11_246 im_X11_here se_X11_here dX11_next_101 (ob_68 hst) (pargs_of rfl) rfl (Nat.le_of_ble_eq_true rfl) (by omega) (f17 c2 c3 c5 c8 c18 c28) (fun r17 τ17 e17 q17 w17 => ?_)
              obtain ⟨rfl, t17⟩ := q17
              rw [t17]
              show pR mX11_next d 104 [(2, 68), (0, (vHere (wr σ 68 7 (rd σ 68 4)) 0)), (0, 0)] [(0, (vHere (wr (wr (wr σ 68 7 (rd σ 68 4)) 68 9 0) 68 8 0) 2))] (wr (wr (wr σ 68 7 (rd σ 68 4)) 68 9 0) 68 8 0) Q
              refine p_callS (As := [(0, (vHere (wr (wr (wr σ 68 7 (rd σ 68 4)) 68 9 0) 68 8 0) 2))]) (st := []) (n := 1) (d' := 0) (Q1 := (fun r τ => r = some (0, b2i (vLet (vHere (wr (wr (wr σ 68 7 (rd σ 68 4)) 68 9 0) 68 8 0) 2))) ∧ τ = (wr (wr (wr σ 68 7 (rd σ 68 4)) 68 9 0) 68 8 0))) ok_X11_isLetter ml_X11_267 sm_X11_isLetter dX11_next_104 (pargs_of rfl) rfl (Nat.le_of_ble_eq_true rfl) (by omega) (f18 c2 c3 c5 c8 c18 c28) (fun r18 τ18 e18 q18 w18 => ?_)
              obtain ⟨rfl, t18⟩ := q18
              rw [t18]
              show pR mX11_next d 107 [(2, 68), (0, (vHere (wr σ 68 7 (rd σ 68 4)) 0)), (0, 0)] [(0, (b2i (vLet (vHere (wr (wr (wr σ 68 7 (rd σ 68 4)) 68 9 0) 68 8 0) 2))))] (wr (wr (wr σ 68 7 (rd σ 68 4)) 68 9 0) 68 8 0) Q
              refine p_ifneB (tgt := 132) dX11_next_107 (by decide) (fun c37 => ?_) (fun c38 => ?_)
              · refine pGo (s_iload_n dX11_next_132 rfl) ?_
                refine p_callS (As := [(0, (vHere (wr σ 68 7 (rd σ 68 4)) 0))]) (st := []) (n := 1) (d' := 0) (Q1 := (fun r τ => r = some (0, b2i (vLet (vHere (wr σ 68 7 (rd σ 68 4)) 0))) ∧ τ = (wr (wr (wr σ 68 7 (rd σ 68 4)) 68 9 0) 68 8 0))) ok_X11_isLetter ml_X11_267 sm_X11_isLetter dX11_next_133 (pargs_of rfl) rfl (Nat.le_of_ble_eq_true rfl) (by omega) (f19 c2 c3 c5 c8 c18 c28 c37) (fun r19 τ19 e19 q19 w19 => ?_)
                obtain ⟨rfl, t19⟩ := q19
                rw [t19]
                show pR mX11_next d 136 [(2, 68), (0, (vHere (wr σ 68 7 (rd σ 68 4)) 0)), (0, 0)] [(0, (b2i (vLet (vHere (wr σ 68 7 (rd σ 68 4)) 0))))] (wr (wr (wr σ 68 7 (rd σ 68 4)) 68 9 0) 68 8 0) Q
                refine p_ifeqB (tgt := 198) dX11_next_136 (by decide) (fun c39 => ?_) (fun c40 => ?_)
                · refine pGo (s_iload_n dX11_next_198 rfl) ?_
                  refine p_callS (As := [(0, (vHere (wr σ 68 7 (rd σ 68 4)) 0))]) (st := []) (n := 1) (d' := 0) (Q1 := (fun r τ => r = some (0, b2i (vDig (vHere (wr σ 68 7 (rd σ 68 4)) 0))) ∧ τ = (wr (wr (wr σ 68 7 (rd σ 68 4)) 68 9 0) 68 8 0))) ok_X11_isDigit ml_X11_263 sm_X11_isDigit dX11_next_199 (pargs_of rfl) rfl (Nat.le_of_ble_eq_true rfl) (by omega) (f20 c2 c3 c5 c8 c18 c28 c37 c39) (fun r20 τ20 e20 q20 w20 => ?_)
                  obtain ⟨rfl, t20⟩ := q20
                  rw [t20]
                  show pR mX11_next d 202 [(2, 68), (0, (vHere (wr σ 68 7 (rd σ 68 4)) 0)), (0, 0)] [(0, (b2i (vDig (vHere (wr σ 68 7 (rd σ 68 4)) 0))))] (wr (wr (wr σ 68 7 (rd σ 68 4)) 68 9 0) 68 8 0) Q
                  refine p_ifeqB (tgt := 275) dX11_next_202 (by decide) (fun c41 => ?_) (fun c42 => ?_)
                  · refine pGo (s_iconst dX11_next_275) ?_
                    refine pGoL (ls2 := [(2, 68), (0, (vHere (wr σ 68 7 (rd σ 68 4)) 0)), (0, 1)]) (s_istore_n dX11_next_276 (by decide) rfl) rfl ?_
                    refine pGo (s_aload_n dX11_next_277 rfl (by decide)) ?_
                    refine pGo (s_iload_n dX11_next_278 rfl) ?_
                    refine p_callS (As := [(0, (vHere (wr σ 68 7 (rd σ 68 4)) 0))]) (st := [(2, 68)]) (n := 1) (d' := 0) (Q1 := (fun r τ => r = some (0, b2i (vSig (vHere (wr σ 68 7 (rd σ 68 4)) 0))) ∧ τ = (wr (wr (wr σ 68 7 (rd σ 68 4)) 68 9 0) 68 8 0))) ok_X11_isSign ml_X11_270 sm_X11_isSign dX11_next_279 (pargs_of rfl) rfl (Nat.le_of_ble_eq_true rfl) (by omega) (f21 c2 c3 c5 c8 c18 c28 c37 c39 c41) (fun r21 τ21 e21 q21 w21 => ?_)
                    obtain ⟨rfl, t21⟩ := q21
                    rw [t21]
                    show pR mX11_next d 282 [(2, 68), (0, (vHere (wr σ 68 7 (rd σ 68 4)) 0)), (0, 1)] [(0, (b2i (vSig (vHere (wr σ 68 7 (rd σ 68 4)) 0)))), (2, 68)] (wr (wr (wr σ 68 7 (rd σ 68 4)) 68 9 0) 68 8 0) Q
                    refine p_ifeqB (tgt := 289) dX11_next_282 (by decide) (fun c43 => ?_) (fun c44 => ?_)
                    · refine pGo (s_iconst dX11_next_289) ?_
                      refine pGo (s_putI pc11 fl_X11_260 dX11_next_290 (ob_68 hst) rfl rfl rfl rfl) ?_
                      refine pGo (s_aload_n dX11_next_293 rfl (by decide)) ?_
                      refine pGoE (y := 4) (s_getI pc11 fl_X11_260 dX11_next_294 (ob_68 hst) rfl (by decide)) (rd_wr_same _ _ _ _) ?_
                      refine pGo (s_iconst dX11_next_297) ?_
                      refine p_iceq (tgt := 311) dX11_next_298 (by decide) (by decide) (by decide) (fun _ => ?_) (fun q => absurd q (by decide))
                      exact pEnd (r := none) dX11_next_311 rfl (k17 c2 c3 c5 c8 c18 c28 c37 c39 c41 c43)
                    · refine pGo (s_iload_n dX11_next_285 rfl) ?_
                      refine pGo (s_goto (tgt := 290) dX11_next_286 (by decide)) ?_
                      refine pGo (s_putI pc11 fl_X11_260 dX11_next_290 (ob_68 hst) rfl rfl rfl rfl) ?_
                      refine pGo (s_aload_n dX11_next_293 rfl (by decide)) ?_
                      refine pGoE (y := (vHere (wr σ 68 7 (rd σ 68 4)) 0)) (s_getI pc11 fl_X11_260 dX11_next_294 (ob_68 hst) rfl (by decide)) (rd_wr_same _ _ _ _) ?_
                      refine pGo (s_iconst dX11_next_297) ?_
                      refine p_iceq (tgt := 311) dX11_next_298 (by decide) (g2 c2 c3) (by decide) (fun c45 => ?_) (fun c46 => ?_)
                      · exact pEnd (r := none) dX11_next_311 rfl (k18 c2 c3 c5 c8 c18 c28 c37 c39 c41 c44 c45)
                      · refine pGo (s_aload_n dX11_next_301 rfl (by decide)) ?_
                        refine pGo (s_dup dX11_next_302 (by decide)) ?_
                        refine pGoE (y := (rd σ 68 4)) (s_getI pc11 fl_X11_240 dX11_next_303 (ob_68 hst) rfl (by decide)) ((rd_wr_i _ (by decide)).trans ((rd_wr_i _ (by decide)).trans ((rd_wr_i _ (by decide)).trans (rd_wr_i _ (by decide))))) ?_
                        refine pGo (s_iload_n dX11_next_306 rfl) ?_
                        refine pGo (s_iadd dX11_next_307) ?_
                        refine pGo (s_putI pc11 fl_X11_240 dX11_next_308 (ob_68 hst) rfl rfl rfl rfl) ?_
                        exact pEnd (r := none) dX11_next_311 rfl (k19 c2 c3 c5 c8 c18 c28 c37 c39 c41 c44 c46)
                  · exact (k20 c2 c3 c5 c8 c18 c28 c37 c39 c42)
                · exact (k21 c2 c3 c5 c8 c18 c28 c37 c40)
              · refine pGo (s_aload_n dX11_next_110 rfl (by decide)) ?_
                refine pGo (s_aload_n dX11_next_111 rfl (by decide)) ?_
                refine pGo (s_iconst dX11_next_112) ?_
                refine p_callV (As := [(0, 1)]) (st := [(2, 68)]) (n := 1) (d' := 0) (Q1 := (fun r τ => r = some (0, (vHere (wr (wr (wr σ 68 7 (rd σ 68 4)) 68 9 0) 68 8 0) 1)) ∧ τ = (wr (wr (wr σ 68 7 (rd σ 68 4)) 68 9 0) 68 8 0))) pc11 ok_X11_here ml_X11_246 im_X11_here se_X11_here dX11_next_113 (ob_68 hst) (pargs_of rfl) rfl (Nat.le_of_ble_eq_true rfl) (by omega) (f22 c2 c3 c5 c8 c18 c28 c38) (fun r22 τ22 e22 q22 w22 => ?_)
                obtain ⟨rfl, t22⟩ := q22
                rw [t22]
                show pR mX11_next d 116 [(2, 68), (0, (vHere (wr σ 68 7 (rd σ 68 4)) 0)), (0, 0)] [(0, (vHere (wr (wr (wr σ 68 7 (rd σ 68 4)) 68 9 0) 68 8 0) 1)), (2, 68)] (wr (wr (wr σ 68 7 (rd σ 68 4)) 68 9 0) 68 8 0) Q
                refine pGo (s_bipush dX11_next_116 (by decide)) ?_
                refine pGo (s_isub dX11_next_118) ?_
                refine pGo (s_putI pc11 fl_X11_257 dX11_next_119 (ob_68 hst) rfl rfl rfl rfl) ?_
                refine pGo (s_iconst dX11_next_122) ?_
                refine pGoL (ls2 := [(2, 68), (0, (vHere (wr σ 68 7 (rd σ 68 4)) 0)), (0, 2)]) (s_istore_n dX11_next_123 (by decide) rfl) rfl ?_
                refine pGo (s_aload_n dX11_next_124 rfl (by decide)) ?_
                refine pGo (s_iconst dX11_next_125) ?_
                refine pGo (s_putI pc11 fl_X11_260 dX11_next_126 (ob_68 hst) rfl rfl rfl rfl) ?_
                refine pGo (s_goto (tgt := 293) dX11_next_129 (by decide)) ?_
                refine pGo (s_aload_n dX11_next_293 rfl (by decide)) ?_
                refine pGoE (y := 3) (s_getI pc11 fl_X11_260 dX11_next_294 (ob_68 hst) rfl (by decide)) (rd_wr_same _ _ _ _) ?_
                refine pGo (s_iconst dX11_next_297) ?_
                refine p_iceq (tgt := 311) dX11_next_298 (by decide) (by decide) (by decide) (fun q => absurd q (by decide)) (fun _ => ?_)
                refine pGo (s_aload_n dX11_next_301 rfl (by decide)) ?_
                refine pGo (s_dup dX11_next_302 (by decide)) ?_
                refine pGoE (y := (rd σ 68 4)) (s_getI pc11 fl_X11_240 dX11_next_303 (ob_68 hst) rfl (by decide)) ((rd_wr_i _ (by decide)).trans ((rd_wr_i _ (by decide)).trans ((rd_wr_i _ (by decide)).trans ((rd_wr_i _ (by decide)).trans (rd_wr_i _ (by decide)))))) ?_
                refine pGo (s_iload_n dX11_next_306 rfl) ?_
                refine pGo (s_iadd dX11_next_307) ?_
                refine pGo (s_putI pc11 fl_X11_240 dX11_next_308 (ob_68 hst) rfl rfl rfl rfl) ?_
                exact pEnd (r := none) dX11_next_311 rfl (k22 c2 c3 c5 c8 c18 c28 c38)
      · refine pGo (s_aload_n dX11_next_63 rfl (by decide)) ?_
        refine pGo (s_iconst dX11_next_64) ?_
        refine pGo (s_putI pc11 fl_X11_260 dX11_next_65 (ob_68 hst) rfl rfl rfl rfl) ?_
        refine pGo (s_goto (tgt := 293) dX11_next_68 (by decide)) ?_
        refine pGo (s_aload_n dX11_next_293 rfl (by decide)) ?_
        refine pGoE (y := 0) (s_getI pc11 fl_X11_260 dX11_next_294 (ob_68 hst) rfl (by decide)) (rd_wr_same _ _ _ _) ?_
        refine pGo (s_iconst dX11_next_297) ?_
        refine p_iceq (tgt := 311) dX11_next_298 (by decide) (by decide) (by decide) (fun q => absurd q (by decide)) (fun _ => ?_)
        refine pGo (s_aload_n dX11_next_301 rfl (by decide)) ?_
        refine pGo (s_dup dX11_next_302 (by decide)) ?_
        refine pGoE (y := (rd σ 68 4)) (s_getI pc11 fl_X11_240 dX11_next_303 (ob_68 hst) rfl (by decide)) ((rd_wr_i _ (by decide)).trans ((rd_wr_i _ (by decide)).trans ((rd_wr_i _ (by decide)).trans (rd_wr_i _ (by decide))))) ?_
        refine pGo (s_iload_n dX11_next_306 rfl) ?_
        refine pGo (s_iadd dX11_next_307) ?_
        refine pGo (s_putI pc11 fl_X11_240 dX11_next_308 (ob_68 hst) rfl rfl rfl rfl) ?_
        exact pEnd (r := none) dX11_next_311 rfl (k23 c2 c3 c6)
    · refine pGo (s_aload_n dX11_next_20 rfl (by decide)) ?_
      refine pGo (s_dup dX11_next_21 (by decide)) ?_
      refine pGoE (y := (rd σ 68 4)) (s_getI pc11 fl_X11_240 dX11_next_22 (ob_68 hst) rfl (by decide)) rfl ?_
      refine pGo (s_iconst dX11_next_25) ?_
      refine pGo (s_iadd dX11_next_26) ?_
      refine pGo (s_putI pc11 fl_X11_240 dX11_next_27 (ob_68 hst) rfl rfl rfl rfl) ?_
      refine pGo (s_goto (tgt := 0) dX11_next_30 (by decide)) ?_
      exact (k24 c2 c4)
set_option maxRecDepth 100000 in
theorem g_X11_next_139 {d : Nat} {σ : pS} {Q : Option pV → pS → Prop} (hd : 1 ≤ d) (hst : Stat σ) (x1 : Int) (x2 : Int)  (f1 : pC mX11_here 0 [(2, 68), (0, x2)] σ (fun r τ => r = some (0, (vHere σ x2)) ∧ τ = σ)) (f2 : pC mX11_isLetter 0 [(0, (vHere σ x2))] σ (fun r τ => r = some (0, b2i (vLet (vHere σ x2))) ∧ τ = σ)) (g1 : ∀ (c1 : (vLet (vHere σ x2)) = false), inR x2) (k1 : ∀ (c1 : (vLet (vHere σ x2)) = false) (c3 : x2 ≤ 8), Q none (wr (wr σ 68 6 1) 68 4 ((rd σ 68 4) + x2))) (k2 : ∀ (c1 : (vLet (vHere σ x2)) = false) (c4 : 8 < x2), Q none (wr σ 68 6 4)) (g2 : ∀ (c2 : (vLet (vHere σ x2)) = true), inR x2) (k3 : ∀ (c2 : (vLet (vHere σ x2)) = true) (c5 : 8 ≤ x2), pR mX11_next d 139 [(2, 68), (0, x1), (0, (x2 + 1))] [] σ Q) (f3 : ∀ (c2 : (vLet (vHere σ x2)) = true) (c6 : x2 < 8), pC mX11_here 0 [(2, 68), (0, x2)] σ (fun r τ => r = some (0, (vHere σ x2)) ∧ τ = σ)) (g3 : ∀ (c2 : (vLet (vHere σ x2)) = true) (c6 : x2 < 8), inR (vHere σ x2)) (k4 : ∀ (c2 : (vLet (vHere σ x2)) = true) (c6 : x2 < 8), pR mX11_next d 139 [(2, 68), (0, x1), (0, (x2 + 1))] [] (wr σ 68 9 (l_or (l_shl (rd σ 68 9) 8) (vHere σ x2))) Q) : pR mX11_next d 139 [(2, 68), (0, x1), (0, x2)] [] σ Q := by
  refine pGo (s_aload_n dX11_next_139 rfl (by decide)) ?_
  refine pGo (s_iload_n dX11_next_140 rfl) ?_
  refine p_callV (As := [(0, x2)]) (st := []) (n := 1) (d' := 0) (Q1 := (fun r τ => r = some (0, (vHere σ x2)) ∧ τ = σ)) pc11 ok_X11_here ml_X11_246 im_X11_here se_X11_here dX11_next_141 (ob_68 hst) (pargs_of rfl) rfl (Nat.le_of_ble_eq_true rfl) (by omega) f1 (fun r1 τ1 e1 q1 w1 => ?_)
  obtain ⟨rfl, t1⟩ := q1
  rw [t1]
  show pR mX11_next d 144 [(2, 68), (0, x1), (0, x2)] [(0, (vHere σ x2))] σ Q
  refine p_callS (As := [(0, (vHere σ x2))]) (st := []) (n := 1) (d' := 0) (Q1 := (fun r τ => r = some (0, b2i (vLet (vHere σ x2))) ∧ τ = σ)) ok_X11_isLetter ml_X11_267 sm_X11_isLetter dX11_next_144 (pargs_of rfl) rfl (Nat.le_of_ble_eq_true rfl) (by omega) f2 (fun r2 τ2 e2 q2 w2 => ?_)
  obtain ⟨rfl, t2⟩ := q2
  rw [t2]
  show pR mX11_next d 147 [(2, 68), (0, x1), (0, x2)] [(0, (b2i (vLet (vHere σ x2))))] σ Q
  refine p_ifeqB (tgt := 180) dX11_next_147 (by decide) (fun c1 => ?_) (fun c2 => ?_)
  · refine pGo (s_aload_n dX11_next_180 rfl (by decide)) ?_
    refine pGo (s_iload_n dX11_next_181 rfl) ?_
    refine pGo (s_bipush dX11_next_182 (by decide)) ?_
    refine p_icle (tgt := 191) dX11_next_184 (by decide) (g1 c1) (by decide) (fun c3 => ?_) (fun c4 => ?_)
    · refine pGo (s_iconst dX11_next_191) ?_
      refine pGo (s_putI pc11 fl_X11_260 dX11_next_192 (ob_68 hst) rfl rfl rfl rfl) ?_
      refine pGo (s_goto (tgt := 293) dX11_next_195 (by decide)) ?_
      refine pGo (s_aload_n dX11_next_293 rfl (by decide)) ?_
      refine pGoE (y := 1) (s_getI pc11 fl_X11_260 dX11_next_294 (ob_68 hst) rfl (by decide)) (rd_wr_same _ _ _ _) ?_
      refine pGo (s_iconst dX11_next_297) ?_
      refine p_iceq (tgt := 311) dX11_next_298 (by decide) (by decide) (by decide) (fun q => absurd q (by decide)) (fun _ => ?_)
      refine pGo (s_aload_n dX11_next_301 rfl (by decide)) ?_
      refine pGo (s_dup dX11_next_302 (by decide)) ?_
      refine pGoE (y := (rd σ 68 4)) (s_getI pc11 fl_X11_240 dX11_next_303 (ob_68 hst) rfl (by decide)) (rd_wr_i _ (by decide)) ?_
      refine pGo (s_iload_n dX11_next_306 rfl) ?_
      refine pGo (s_iadd dX11_next_307) ?_
      refine pGo (s_putI pc11 fl_X11_240 dX11_next_308 (ob_68 hst) rfl rfl rfl rfl) ?_
      exact pEnd (r := none) dX11_next_311 rfl (k1 c1 c3)
    · refine pGo (s_iconst dX11_next_187) ?_
      refine pGo (s_goto (tgt := 192) dX11_next_188 (by decide)) ?_
      refine pGo (s_putI pc11 fl_X11_260 dX11_next_192 (ob_68 hst) rfl rfl rfl rfl) ?_
      refine pGo (s_goto (tgt := 293) dX11_next_195 (by decide)) ?_
      refine pGo (s_aload_n dX11_next_293 rfl (by decide)) ?_
      refine pGoE (y := 4) (s_getI pc11 fl_X11_260 dX11_next_294 (ob_68 hst) rfl (by decide)) (rd_wr_same _ _ _ _) ?_
      refine pGo (s_iconst dX11_next_297) ?_
      refine p_iceq (tgt := 311) dX11_next_298 (by decide) (by decide) (by decide) (fun _ => ?_) (fun q => absurd q (by decide))
      exact pEnd (r := none) dX11_next_311 rfl (k2 c1 c4)
  · refine pGo (s_iload_n dX11_next_150 rfl) ?_
    refine pGo (s_bipush dX11_next_151 (by decide)) ?_
    refine p_icge (tgt := 174) dX11_next_153 (by decide) (g2 c2) (by decide) (fun c5 => ?_) (fun c6 => ?_)
    · refine pGoL (ls2 := [(2, 68), (0, x1), (0, (x2 + 1))]) (s_iinc dX11_next_174 (by decide) rfl rfl) rfl ?_
      refine pGo (s_goto (tgt := 139) dX11_next_177 (by decide)) ?_
      exact (k3 c2 c5)
    · refine pGo (s_aload_n dX11_next_156 rfl (by decide)) ?_
      refine pGo (s_aload_n dX11_next_157 rfl (by decide)) ?_
      refine pGoE (y := (rd σ 68 9)) (s_getJ pc11 fl_X11_253 dX11_next_158 (ob_68 hst) rfl rfl) rfl ?_
      refine pGo (s_bipush dX11_next_161 (by decide)) ?_
      refine pGo (s_lshl dX11_next_163) ?_
      refine pGo (s_aload_n dX11_next_164 rfl (by decide)) ?_
      refine pGo (s_iload_n dX11_next_165 rfl) ?_
      refine p_callV (As := [(0, x2)]) (st := [(1, (l_shl (rd σ 68 9) 8)), (2, 68)]) (n := 1) (d' := 0) (Q1 := (fun r τ => r = some (0, (vHere σ x2)) ∧ τ = σ)) pc11 ok_X11_here ml_X11_246 im_X11_here se_X11_here dX11_next_166 (ob_68 hst) (pargs_of rfl) rfl (Nat.le_of_ble_eq_true rfl) (by omega) (f3 c2 c6) (fun r3 τ3 e3 q3 w3 => ?_)
      obtain ⟨rfl, t3⟩ := q3
      rw [t3]
      show pR mX11_next d 169 [(2, 68), (0, x1), (0, x2)] [(0, (vHere σ x2)), (1, (l_shl (rd σ 68 9) 8)), (2, 68)] σ Q
      refine pGo (s_i2l dX11_next_169 (g3 c2 c6)) ?_
      refine pGo (s_lor dX11_next_170) ?_
      refine pGo (s_putJ pc11 fl_X11_253 dX11_next_171 (ob_68 hst) rfl rfl rfl rfl) ?_
      refine pGoL (ls2 := [(2, 68), (0, x1), (0, (x2 + 1))]) (s_iinc dX11_next_174 (by decide) rfl rfl) rfl ?_
      refine pGo (s_goto (tgt := 139) dX11_next_177 (by decide)) ?_
      exact (k4 c2 c6)
set_option maxRecDepth 100000 in
theorem g_X11_next_205 {d : Nat} {σ : pS} {Q : Option pV → pS → Prop} (hd : 1 ≤ d) (hst : Stat σ) (x1 : Int) (x2 : Int)  (f1 : pC mX11_here 0 [(2, 68), (0, x2)] σ (fun r τ => r = some (0, (vHere σ x2)) ∧ τ = σ)) (f2 : pC mX11_isDigit 0 [(0, (vHere σ x2))] σ (fun r τ => r = some (0, b2i (vDig (vHere σ x2))) ∧ τ = σ)) (g1 : ∀ (c1 : (vDig (vHere σ x2)) = false), inR x2) (k1 : ∀ (c1 : (vDig (vHere σ x2)) = false) (c3 : 4 < x2), Q none (wr σ 68 6 4)) (f3 : ∀ (c1 : (vDig (vHere σ x2)) = false) (c4 : x2 ≤ 4), pC mX11_here 0 [(2, 68), (0, x2)] σ (fun r τ => r = some (0, (vHere σ x2)) ∧ τ = σ)) (f4 : ∀ (c1 : (vDig (vHere σ x2)) = false) (c4 : x2 ≤ 4), pC mX11_isLetter 0 [(0, (vHere σ x2))] σ (fun r τ => r = some (0, b2i (vLet (vHere σ x2))) ∧ τ = σ)) (k2 : ∀ (c1 : (vDig (vHere σ x2)) = false) (c4 : x2 ≤ 4) (c5 : (vLet (vHere σ x2)) = false), Q none (wr (wr σ 68 6 2) 68 4 ((rd σ 68 4) + x2))) (k3 : ∀ (c1 : (vDig (vHere σ x2)) = false) (c4 : x2 ≤ 4) (c6 : (vLet (vHere σ x2)) = true), Q none (wr σ 68 6 4)) (g2 : ∀ (c2 : (vDig (vHere σ x2)) = true), inR x2) (k4 : ∀ (c2 : (vDig (vHere σ x2)) = true) (c7 : 4 ≤ x2), pR mX11_next d 205 [(2, 68), (0, x1), (0, (x2 + 1))] [] σ Q) (f5 : ∀ (c2 : (vDig (vHere σ x2)) = true) (c8 : x2 < 4), pC mX11_here 0 [(2, 68), (0, x2)] σ (fun r τ => r = some (0, (vHere σ x2)) ∧ τ = σ)) (k5 : ∀ (c2 : (vDig (vHere σ x2)) = true) (c8 : x2 < 4), pR mX11_next d 205 [(2, 68), (0, x1), (0, (x2 + 1))] [] (wr σ 68 8 (((10 * (rd σ 68 8)) + (vHere σ x2)) - 48)) Q) : pR mX11_next d 205 [(2, 68), (0, x1), (0, x2)] [] σ Q := by
  refine pGo (s_aload_n dX11_next_205 rfl (by decide)) ?_
  refine pGo (s_iload_n dX11_next_206 rfl) ?_
  refine p_callV (As := [(0, x2)]) (st := []) (n := 1) (d' := 0) (Q1 := (fun r τ => r = some (0, (vHere σ x2)) ∧ τ = σ)) pc11 ok_X11_here ml_X11_246 im_X11_here se_X11_here dX11_next_207 (ob_68 hst) (pargs_of rfl) rfl (Nat.le_of_ble_eq_true rfl) (by omega) f1 (fun r1 τ1 e1 q1 w1 => ?_)
  obtain ⟨rfl, t1⟩ := q1
  rw [t1]
  show pR mX11_next d 210 [(2, 68), (0, x1), (0, x2)] [(0, (vHere σ x2))] σ Q
  refine p_callS (As := [(0, (vHere σ x2))]) (st := []) (n := 1) (d' := 0) (Q1 := (fun r τ => r = some (0, b2i (vDig (vHere σ x2))) ∧ τ = σ)) ok_X11_isDigit ml_X11_263 sm_X11_isDigit dX11_next_210 (pargs_of rfl) rfl (Nat.le_of_ble_eq_true rfl) (by omega) f2 (fun r2 τ2 e2 q2 w2 => ?_)
  obtain ⟨rfl, t2⟩ := q2
  rw [t2]
  show pR mX11_next d 213 [(2, 68), (0, x1), (0, x2)] [(0, (b2i (vDig (vHere σ x2))))] σ Q
  refine p_ifeqB (tgt := 247) dX11_next_213 (by decide) (fun c1 => ?_) (fun c2 => ?_)
  · refine pGo (s_aload_n dX11_next_247 rfl (by decide)) ?_
    refine pGo (s_iload_n dX11_next_248 rfl) ?_
    refine pGo (s_iconst dX11_next_249) ?_
    refine p_icgt (tgt := 264) dX11_next_250 (by decide) (g1 c1) (by decide) (fun c3 => ?_) (fun c4 => ?_)
    · refine pGo (s_iconst dX11_next_264) ?_
      refine pGo (s_goto (tgt := 269) dX11_next_265 (by decide)) ?_
      refine pGo (s_putI pc11 fl_X11_260 dX11_next_269 (ob_68 hst) rfl rfl rfl rfl) ?_
      refine pGo (s_goto (tgt := 293) dX11_next_272 (by decide)) ?_
      refine pGo (s_aload_n dX11_next_293 rfl (by decide)) ?_
      refine pGoE (y := 4) (s_getI pc11 fl_X11_260 dX11_next_294 (ob_68 hst) rfl (by decide)) (rd_wr_same _ _ _ _) ?_
      refine pGo (s_iconst dX11_next_297) ?_
      refine p_iceq (tgt := 311) dX11_next_298 (by decide) (by decide) (by decide) (fun _ => ?_) (fun q => absurd q (by decide))
      exact pEnd (r := none) dX11_next_311 rfl (k1 c1 c3)
    · refine pGo (s_aload_n dX11_next_253 rfl (by decide)) ?_
      refine pGo (s_iload_n dX11_next_254 rfl) ?_
      refine p_callV (As := [(0, x2)]) (st := [(2, 68)]) (n := 1) (d' := 0) (Q1 := (fun r τ => r = some (0, (vHere σ x2)) ∧ τ = σ)) pc11 ok_X11_here ml_X11_246 im_X11_here se_X11_here dX11_next_255 (ob_68 hst) (pargs_of rfl) rfl (Nat.le_of_ble_eq_true rfl) (by omega) (f3 c1 c4) (fun r3 τ3 e3 q3 w3 => ?_)
      obtain ⟨rfl, t3⟩ := q3
      rw [t3]
      show pR mX11_next d 258 [(2, 68), (0, x1), (0, x2)] [(0, (vHere σ x2)), (2, 68)] σ Q
      refine p_callS (As := [(0, (vHere σ x2))]) (st := [(2, 68)]) (n := 1) (d' := 0) (Q1 := (fun r τ => r = some (0, b2i (vLet (vHere σ x2))) ∧ τ = σ)) ok_X11_isLetter ml_X11_267 sm_X11_isLetter dX11_next_258 (pargs_of rfl) rfl (Nat.le_of_ble_eq_true rfl) (by omega) (f4 c1 c4) (fun r4 τ4 e4 q4 w4 => ?_)
      obtain ⟨rfl, t4⟩ := q4
      rw [t4]
      show pR mX11_next d 261 [(2, 68), (0, x1), (0, x2)] [(0, (b2i (vLet (vHere σ x2)))), (2, 68)] σ Q
      refine p_ifeqB (tgt := 268) dX11_next_261 (by decide) (fun c5 => ?_) (fun c6 => ?_)
      · refine pGo (s_iconst dX11_next_268) ?_
        refine pGo (s_putI pc11 fl_X11_260 dX11_next_269 (ob_68 hst) rfl rfl rfl rfl) ?_
        refine pGo (s_goto (tgt := 293) dX11_next_272 (by decide)) ?_
        refine pGo (s_aload_n dX11_next_293 rfl (by decide)) ?_
        refine pGoE (y := 2) (s_getI pc11 fl_X11_260 dX11_next_294 (ob_68 hst) rfl (by decide)) (rd_wr_same _ _ _ _) ?_
        refine pGo (s_iconst dX11_next_297) ?_
        refine p_iceq (tgt := 311) dX11_next_298 (by decide) (by decide) (by decide) (fun q => absurd q (by decide)) (fun _ => ?_)
        refine pGo (s_aload_n dX11_next_301 rfl (by decide)) ?_
        refine pGo (s_dup dX11_next_302 (by decide)) ?_
        refine pGoE (y := (rd σ 68 4)) (s_getI pc11 fl_X11_240 dX11_next_303 (ob_68 hst) rfl (by decide)) (rd_wr_i _ (by decide)) ?_
        refine pGo (s_iload_n dX11_next_306 rfl) ?_
        refine pGo (s_iadd dX11_next_307) ?_
        refine pGo (s_putI pc11 fl_X11_240 dX11_next_308 (ob_68 hst) rfl rfl rfl rfl) ?_
        exact pEnd (r := none) dX11_next_311 rfl (k2 c1 c4 c5)
      · refine pGo (s_iconst dX11_next_264) ?_
        refine pGo (s_goto (tgt := 269) dX11_next_265 (by decide)) ?_
        refine pGo (s_putI pc11 fl_X11_260 dX11_next_269 (ob_68 hst) rfl rfl rfl rfl) ?_
        refine pGo (s_goto (tgt := 293) dX11_next_272 (by decide)) ?_
        refine pGo (s_aload_n dX11_next_293 rfl (by decide)) ?_
        refine pGoE (y := 4) (s_getI pc11 fl_X11_260 dX11_next_294 (ob_68 hst) rfl (by decide)) (rd_wr_same _ _ _ _) ?_
        refine pGo (s_iconst dX11_next_297) ?_
        refine p_iceq (tgt := 311) dX11_next_298 (by decide) (by decide) (by decide) (fun _ => ?_) (fun q => absurd q (by decide))
        exact pEnd (r := none) dX11_next_311 rfl (k3 c1 c4 c6)
  · refine pGo (s_iload_n dX11_next_216 rfl) ?_
    refine pGo (s_iconst dX11_next_217) ?_
    refine p_icge (tgt := 241) dX11_next_218 (by decide) (g2 c2) (by decide) (fun c7 => ?_) (fun c8 => ?_)
    · refine pGoL (ls2 := [(2, 68), (0, x1), (0, (x2 + 1))]) (s_iinc dX11_next_241 (by decide) rfl rfl) rfl ?_
      refine pGo (s_goto (tgt := 205) dX11_next_244 (by decide)) ?_
      exact (k4 c2 c7)
    · refine pGo (s_aload_n dX11_next_221 rfl (by decide)) ?_
      refine pGo (s_bipush dX11_next_222 (by decide)) ?_
      refine pGo (s_aload_n dX11_next_224 rfl (by decide)) ?_
      refine pGoE (y := (rd σ 68 8)) (s_getI pc11 fl_X11_257 dX11_next_225 (ob_68 hst) rfl (by decide)) rfl ?_
      refine pGo (s_imul dX11_next_228) ?_
      refine pGo (s_aload_n dX11_next_229 rfl (by decide)) ?_
      refine pGo (s_iload_n dX11_next_230 rfl) ?_
      refine p_callV (As := [(0, x2)]) (st := [(0, (10 * (rd σ 68 8))), (2, 68)]) (n := 1) (d' := 0) (Q1 := (fun r τ => r = some (0, (vHere σ x2)) ∧ τ = σ)) pc11 ok_X11_here ml_X11_246 im_X11_here se_X11_here dX11_next_231 (ob_68 hst) (pargs_of rfl) rfl (Nat.le_of_ble_eq_true rfl) (by omega) (f5 c2 c8) (fun r5 τ5 e5 q5 w5 => ?_)
      obtain ⟨rfl, t5⟩ := q5
      rw [t5]
      show pR mX11_next d 234 [(2, 68), (0, x1), (0, x2)] [(0, (vHere σ x2)), (0, (10 * (rd σ 68 8))), (2, 68)] σ Q
      refine pGo (s_iadd dX11_next_234) ?_
      refine pGo (s_bipush dX11_next_235 (by decide)) ?_
      refine pGo (s_isub dX11_next_237) ?_
      refine pGo (s_putI pc11 fl_X11_257 dX11_next_238 (ob_68 hst) rfl rfl rfl rfl) ?_
      refine pGoL (ls2 := [(2, 68), (0, x1), (0, (x2 + 1))]) (s_iinc dX11_next_241 (by decide) rfl rfl) rfl ?_
      refine pGo (s_goto (tgt := 205) dX11_next_244 (by decide)) ?_
      exact (k5 c2 c8)
set_option maxRecDepth 100000 in
theorem g_X11_wrong_0 {d : Nat} {σ : pS} {Q : Option pV → pS → Prop} (hd : 0 ≤ d) (hst : Stat σ) (x1 : Int)  (g1 : inR (rd σ 68 2)) (g2 : ∀ (c1 : (rd σ 68 2) ≤ 0), inR (rd σ 68 6)) (k1 : ∀ (c1 : (rd σ 68 2) ≤ 0) (c3 : (rd σ 68 6) ≠ 4), Q none (wr (wr σ 68 2 x1) 68 3 (rd σ 68 7))) (k2 : ∀ (c1 : (rd σ 68 2) ≤ 0) (c4 : (rd σ 68 6) = 4), Q none (wr (wr σ 68 2 1) 68 3 (rd σ 68 7))) (k3 : ∀ (c2 : 0 < (rd σ 68 2)), Q none σ) : pC mX11_wrong d [(2, 68), (0, x1)] σ Q := by
  show pR mX11_wrong d 0 [(2, 68), (0, x1)] [] σ Q
  refine pGo (s_aload_n dX11_wrong_0 rfl (by decide)) ?_
  refine pGoE (y := (rd σ 68 2)) (s_getI pc11 fl_X11_273 dX11_wrong_1 (ob_68 hst) rfl (by decide)) rfl ?_
  refine p_ifle (tgt := 8) dX11_wrong_4 (by decide) g1 (fun c1 => ?_) (fun c2 => ?_)
  · refine pGo (s_aload_n dX11_wrong_8 rfl (by decide)) ?_
    refine pGo (s_aload_n dX11_wrong_9 rfl (by decide)) ?_
    refine pGoE (y := (rd σ 68 6)) (s_getI pc11 fl_X11_260 dX11_wrong_10 (ob_68 hst) rfl (by decide)) rfl ?_
    refine pGo (s_iconst dX11_wrong_13) ?_
    refine p_icne (tgt := 21) dX11_wrong_14 (by decide) (g2 c1) (by decide) (fun c3 => ?_) (fun c4 => ?_)
    · refine pGo (s_iload_n dX11_wrong_21 rfl) ?_
      refine pGo (s_putI pc11 fl_X11_273 dX11_wrong_22 (ob_68 hst) rfl rfl rfl rfl) ?_
      refine pGo (s_aload_n dX11_wrong_25 rfl (by decide)) ?_
      refine pGo (s_aload_n dX11_wrong_26 rfl (by decide)) ?_
      refine pGoE (y := (rd σ 68 7)) (s_getI pc11 fl_X11_250 dX11_wrong_27 (ob_68 hst) rfl (by decide)) (rd_wr_i _ (by decide)) ?_
      refine pGo (s_putI pc11 fl_X11_13 dX11_wrong_30 (ob_68 hst) rfl rfl rfl rfl) ?_
      exact pEnd (r := none) dX11_wrong_33 rfl (k1 c1 c3)
    · refine pGo (s_iconst dX11_wrong_17) ?_
      refine pGo (s_goto (tgt := 22) dX11_wrong_18 (by decide)) ?_
      refine pGo (s_putI pc11 fl_X11_273 dX11_wrong_22 (ob_68 hst) rfl rfl rfl rfl) ?_
      refine pGo (s_aload_n dX11_wrong_25 rfl (by decide)) ?_
      refine pGo (s_aload_n dX11_wrong_26 rfl (by decide)) ?_
      refine pGoE (y := (rd σ 68 7)) (s_getI pc11 fl_X11_250 dX11_wrong_27 (ob_68 hst) rfl (by decide)) (rd_wr_i _ (by decide)) ?_
      refine pGo (s_putI pc11 fl_X11_13 dX11_wrong_30 (ob_68 hst) rfl rfl rfl rfl) ?_
      exact pEnd (r := none) dX11_wrong_33 rfl (k2 c1 c4)
  · exact pEnd (r := none) dX11_wrong_7 rfl (k3 c2)
set_option maxRecDepth 100000 in
theorem g_X11_isWord_0 {d : Nat} {σ : pS} {Q : Option pV → pS → Prop} (hd : 0 ≤ d) (hst : Stat σ) (x1 : Int)  (g1 : inR (rd σ 68 6)) (k1 : ∀ (c1 : (rd σ 68 6) ≠ 1), Q (some (0, 0)) σ) (g2 : ∀ (c2 : (rd σ 68 6) = 1), inL (rd σ 68 9)) (g3 : ∀ (c2 : (rd σ 68 6) = 1), inL x1) (k2 : ∀ (c2 : (rd σ 68 6) = 1) (c3 : (l_cmp (rd σ 68 9) x1) ≠ 0), Q (some (0, 0)) σ) (k3 : ∀ (c2 : (rd σ 68 6) = 1) (c4 : (l_cmp (rd σ 68 9) x1) = 0), Q (some (0, 1)) σ) : pC mX11_isWord d [(2, 68), (1, x1)] σ Q := by
  show pR mX11_isWord d 0 [(2, 68), (1, x1), (9, 0)] [] σ Q
  refine pGo (s_aload_n dX11_isWord_0 rfl (by decide)) ?_
  refine pGoE (y := (rd σ 68 6)) (s_getI pc11 fl_X11_260 dX11_isWord_1 (ob_68 hst) rfl (by decide)) rfl ?_
  refine pGo (s_iconst dX11_isWord_4) ?_
  refine p_icne (tgt := 21) dX11_isWord_5 (by decide) g1 (by decide) (fun c1 => ?_) (fun c2 => ?_)
  · refine pGo (s_iconst dX11_isWord_21) ?_
    exact pEnd (r := (some (0, 0))) dX11_isWord_22 (Or.inl rfl) (k1 c1)
  · refine pGo (s_aload_n dX11_isWord_8 rfl (by decide)) ?_
    refine pGoE (y := (rd σ 68 9)) (s_getJ pc11 fl_X11_253 dX11_isWord_9 (ob_68 hst) rfl rfl) rfl ?_
    refine pGo (s_lload_n dX11_isWord_12 rfl) ?_
    refine pGo (s_lcmp dX11_isWord_13 (g2 c2) (g3 c2)) ?_
    refine p_ifne (tgt := 21) dX11_isWord_14 (by decide) (l_cmp_R _ _) (fun c3 => ?_) (fun c4 => ?_)
    · refine pGo (s_iconst dX11_isWord_21) ?_
      exact pEnd (r := (some (0, 0))) dX11_isWord_22 (Or.inl rfl) (k2 c2 c3)
    · refine pGo (s_iconst dX11_isWord_17) ?_
      refine pGo (s_goto (tgt := 22) dX11_isWord_18 (by decide)) ?_
      exact pEnd (r := (some (0, 1))) dX11_isWord_22 (Or.inr rfl) (k3 c2 c4)
set_option maxRecDepth 100000 in
theorem g_X11_isName_0 {d : Nat} {σ : pS} {Q : Option pV → pS → Prop} (hd : 0 ≤ d) (hst : Stat σ)   (g1 : inR (rd σ 68 6)) (g2 : ∀ (c1 : (rd σ 68 6) = 1), inL (rd σ 68 9)) (k1 : ∀ (c1 : (rd σ 68 6) = 1) (c3 : (l_cmp (rd σ 68 9) 1818846836) = 0), Q (some (0, 0)) σ) (k2 : ∀ (c1 : (rd σ 68 6) = 1) (c4 : (l_cmp (rd σ 68 9) 1818846836) ≠ 0) (c5 : (l_cmp (rd σ 68 9) 7501166) = 0), Q (some (0, 0)) σ) (k3 : ∀ (c1 : (rd σ 68 6) = 1) (c4 : (l_cmp (rd σ 68 9) 1818846836) ≠ 0) (c6 : (l_cmp (rd σ 68 9) 7501166) ≠ 0) (c7 : (l_cmp (rd σ 68 9) 1752132965) = 0), Q (some (0, 0)) σ) (k4 : ∀ (c1 : (rd σ 68 6) = 1) (c4 : (l_cmp (rd σ 68 9) 1818846836) ≠ 0) (c6 : (l_cmp (rd σ 68 9) 7501166) ≠ 0) (c8 : (l_cmp (rd σ 68 9) 1752132965) ≠ 0) (c9 : (l_cmp (rd σ 68 9) 499850634611) = 0), Q (some (0, 0)) σ) (k5 : ∀ (c1 : (rd σ 68 6) = 1) (c4 : (l_cmp (rd σ 68 9) 1818846836) ≠ 0) (c6 : (l_cmp (rd σ 68 9) 7501166) ≠ 0) (c8 : (l_cmp (rd σ 68 9) 1752132965) ≠ 0) (c10 : (l_cmp (rd σ 68 9) 499850634611) ≠ 0) (c11 : (l_cmp (rd σ 68 9) 495622124659) = 0), Q (some (0, 0)) σ) (k6 : ∀ (c1 : (rd σ 68 6) = 1) (c4 : (l_cmp (rd σ 68 9) 1818846836) ≠ 0) (c6 : (l_cmp (rd σ 68 9) 7501166) ≠ 0) (c8 : (l_cmp (rd σ 68 9) 1752132965) ≠ 0) (c10 : (l_cmp (rd σ 68 9) 499850634611) ≠ 0) (c12 : (l_cmp (rd σ 68 9) 495622124659) ≠ 0) (c13 : (l_cmp (rd σ 68 9) 1718775661) = 0), Q (some (0, 0)) σ) (k7 : ∀ (c1 : (rd σ 68 6) = 1) (c4 : (l_cmp (rd σ 68 9) 1818846836) ≠ 0) (c6 : (l_cmp (rd σ 68 9) 7501166) ≠ 0) (c8 : (l_cmp (rd σ 68 9) 1752132965) ≠ 0) (c10 : (l_cmp (rd σ 68 9) 499850634611) ≠ 0) (c12 : (l_cmp (rd σ 68 9) 495622124659) ≠ 0) (c14 : (l_cmp (rd σ 68 9) 1718775661) ≠ 0) (c15 : (l_cmp (rd σ 68 9) 29807) = 0), Q (some (0, 0)) σ) (k8 : ∀ (c1 : (rd σ 68 6) = 1) (c4 : (l_cmp (rd σ 68 9) 1818846836) ≠ 0) (c6 : (l_cmp (rd σ 68 9) 7501166) ≠ 0) (c8 : (l_cmp (rd σ 68 9) 1752132965) ≠ 0) (c10 : (l_cmp (rd σ 68 9) 499850634611) ≠ 0) (c12 : (l_cmp (rd σ 68 9) 495622124659) ≠ 0) (c14 : (l_cmp (rd σ 68 9) 1718775661) ≠ 0) (c16 : (l_cmp (rd σ 68 9) 29807) ≠ 0) (c17 : (l_cmp (rd σ 68 9) 1734440037) = 0), Q (some (0, 0)) σ) (k9 : ∀ (c1 : (rd σ 68 6) = 1) (c4 : (l_cmp (rd σ 68 9) 1818846836) ≠ 0) (c6 : (l_cmp (rd σ 68 9) 7501166) ≠ 0) (c8 : (l_cmp (rd σ 68 9) 1752132965) ≠ 0) (c10 : (l_cmp (rd σ 68 9) 499850634611) ≠ 0) (c12 : (l_cmp (rd σ 68 9) 495622124659) ≠ 0) (c14 : (l_cmp (rd σ 68 9) 1718775661) ≠ 0) (c16 : (l_cmp (rd σ 68 9) 29807) ≠ 0) (c18 : (l_cmp (rd σ 68 9) 1734440037) ≠ 0) (c19 : (l_cmp (rd σ 68 9) 444300616805) = 0), Q (some (0, 0)) σ) (k10 : ∀ (c1 : (rd σ 68 6) = 1) (c4 : (l_cmp (rd σ 68 9) 1818846836) ≠ 0) (c6 : (l_cmp (rd σ 68 9) 7501166) ≠ 0) (c8 : (l_cmp (rd σ 68 9) 1752132965) ≠ 0) (c10 : (l_cmp (rd σ 68 9) 499850634611) ≠ 0) (c12 : (l_cmp (rd σ 68 9) 495622124659) ≠ 0) (c14 : (l_cmp (rd σ 68 9) 1718775661) ≠ 0) (c16 : (l_cmp (rd σ 68 9) 29807) ≠ 0) (c18 : (l_cmp (rd σ 68 9) 1734440037) ≠ 0) (c20 : (l_cmp (rd σ 68 9) 444300616805) ≠ 0) (c21 : (l_cmp (rd σ 68 9) 1936617335) ≠ 0) (c23 : (l_cmp (rd σ 68 9) 1936225652) = 0), Q (some (0, 0)) σ) (k11 : ∀ (c1 : (rd σ 68 6) = 1) (c4 : (l_cmp (rd σ 68 9) 1818846836) ≠ 0) (c6 : (l_cmp (rd σ 68 9) 7501166) ≠ 0) (c8 : (l_cmp (rd σ 68 9) 1752132965) ≠ 0) (c10 : (l_cmp (rd σ 68 9) 499850634611) ≠ 0) (c12 : (l_cmp (rd σ 68 9) 495622124659) ≠ 0) (c14 : (l_cmp (rd σ 68 9) 1718775661) ≠ 0) (c16 : (l_cmp (rd σ 68 9) 29807) ≠ 0) (c18 : (l_cmp (rd σ 68 9) 1734440037) ≠ 0) (c20 : (l_cmp (rd σ 68 9) 444300616805) ≠ 0) (c21 : (l_cmp (rd σ 68 9) 1936617335) ≠ 0) (c24 : (l_cmp (rd σ 68 9) 1936225652) ≠ 0) (c25 : (l_cmp (rd σ 68 9) 26982) = 0), Q (some (0, 0)) σ) (k12 : ∀ (c1 : (rd σ 68 6) = 1) (c4 : (l_cmp (rd σ 68 9) 1818846836) ≠ 0) (c6 : (l_cmp (rd σ 68 9) 7501166) ≠ 0) (c8 : (l_cmp (rd σ 68 9) 1752132965) ≠ 0) (c10 : (l_cmp (rd σ 68 9) 499850634611) ≠ 0) (c12 : (l_cmp (rd σ 68 9) 495622124659) ≠ 0) (c14 : (l_cmp (rd σ 68 9) 1718775661) ≠ 0) (c16 : (l_cmp (rd σ 68 9) 29807) ≠ 0) (c18 : (l_cmp (rd σ 68 9) 1734440037) ≠ 0) (c20 : (l_cmp (rd σ 68 9) 444300616805) ≠ 0) (c21 : (l_cmp (rd σ 68 9) 1936617335) ≠ 0) (c24 : (l_cmp (rd σ 68 9) 1936225652) ≠ 0) (c26 : (l_cmp (rd σ 68 9) 26982) ≠ 0) (c27 : (l_cmp (rd σ 68 9) 28530) = 0), Q (some (0, 0)) σ) (k13 : ∀ (c1 : (rd σ 68 6) = 1) (c4 : (l_cmp (rd σ 68 9) 1818846836) ≠ 0) (c6 : (l_cmp (rd σ 68 9) 7501166) ≠ 0) (c8 : (l_cmp (rd σ 68 9) 1752132965) ≠ 0) (c10 : (l_cmp (rd σ 68 9) 499850634611) ≠ 0) (c12 : (l_cmp (rd σ 68 9) 495622124659) ≠ 0) (c14 : (l_cmp (rd σ 68 9) 1718775661) ≠ 0) (c16 : (l_cmp (rd σ 68 9) 29807) ≠ 0) (c18 : (l_cmp (rd σ 68 9) 1734440037) ≠ 0) (c20 : (l_cmp (rd σ 68 9) 444300616805) ≠ 0) (c21 : (l_cmp (rd σ 68 9) 1936617335) ≠ 0) (c24 : (l_cmp (rd σ 68 9) 1936225652) ≠ 0) (c26 : (l_cmp (rd σ 68 9) 26982) ≠ 0) (c28 : (l_cmp (rd σ 68 9) 28530) ≠ 0) (c29 : (l_cmp (rd σ 68 9) 6385252) = 0), Q (some (0, 0)) σ) (k14 : ∀ (c1 : (rd σ 68 6) = 1) (c4 : (l_cmp (rd σ 68 9) 1818846836) ≠ 0) (c6 : (l_cmp (rd σ 68 9) 7501166) ≠ 0) (c8 : (l_cmp (rd σ 68 9) 1752132965) ≠ 0) (c10 : (l_cmp (rd σ 68 9) 499850634611) ≠ 0) (c12 : (l_cmp (rd σ 68 9) 495622124659) ≠ 0) (c14 : (l_cmp (rd σ 68 9) 1718775661) ≠ 0) (c16 : (l_cmp (rd σ 68 9) 29807) ≠ 0) (c18 : (l_cmp (rd σ 68 9) 1734440037) ≠ 0) (c20 : (l_cmp (rd σ 68 9) 444300616805) ≠ 0) (c21 : (l_cmp (rd σ 68 9) 1936617335) ≠ 0) (c24 : (l_cmp (rd σ 68 9) 1936225652) ≠ 0) (c26 : (l_cmp (rd σ 68 9) 26982) ≠ 0) (c28 : (l_cmp (rd σ 68 9) 28530) ≠ 0) (c30 : (l_cmp (rd σ 68 9) 6385252) ≠ 0) (c31 : (l_cmp (rd σ 68 9) 7237492) = 0), Q (some (0, 0)) σ) (k15 : ∀ (c1 : (rd σ 68 6) = 1) (c4 : (l_cmp (rd σ 68 9) 1818846836) ≠ 0) (c6 : (l_cmp (rd σ 68 9) 7501166) ≠ 0) (c8 : (l_cmp (rd σ 68 9) 1752132965) ≠ 0) (c10 : (l_cmp (rd σ 68 9) 499850634611) ≠ 0) (c12 : (l_cmp (rd σ 68 9) 495622124659) ≠ 0) (c14 : (l_cmp (rd σ 68 9) 1718775661) ≠ 0) (c16 : (l_cmp (rd σ 68 9) 29807) ≠ 0) (c18 : (l_cmp (rd σ 68 9) 1734440037) ≠ 0) (c20 : (l_cmp (rd σ 68 9) 444300616805) ≠ 0) (c21 : (l_cmp (rd σ 68 9) 1936617335) ≠ 0) (c24 : (l_cmp (rd σ 68 9) 1936225652) ≠ 0) (c26 : (l_cmp (rd σ 68 9) 26982) ≠ 0) (c28 : (l_cmp (rd σ 68 9) 28530) ≠ 0) (c30 : (l_cmp (rd σ 68 9) 6385252) ≠ 0) (c32 : (l_cmp (rd σ 68 9) 7237492) ≠ 0) (c33 : (l_cmp (rd σ 68 9) 1752135026) = 0), Q (some (0, 0)) σ) (k16 : ∀ (c1 : (rd σ 68 6) = 1) (c4 : (l_cmp (rd σ 68 9) 1818846836) ≠ 0) (c6 : (l_cmp (rd σ 68 9) 7501166) ≠ 0) (c8 : (l_cmp (rd σ 68 9) 1752132965) ≠ 0) (c10 : (l_cmp (rd σ 68 9) 499850634611) ≠ 0) (c12 : (l_cmp (rd σ 68 9) 495622124659) ≠ 0) (c14 : (l_cmp (rd σ 68 9) 1718775661) ≠ 0) (c16 : (l_cmp (rd σ 68 9) 29807) ≠ 0) (c18 : (l_cmp (rd σ 68 9) 1734440037) ≠ 0) (c20 : (l_cmp (rd σ 68 9) 444300616805) ≠ 0) (c21 : (l_cmp (rd σ 68 9) 1936617335) ≠ 0) (c24 : (l_cmp (rd σ 68 9) 1936225652) ≠ 0) (c26 : (l_cmp (rd σ 68 9) 26982) ≠ 0) (c28 : (l_cmp (rd σ 68 9) 28530) ≠ 0) (c30 : (l_cmp (rd σ 68 9) 6385252) ≠ 0) (c32 : (l_cmp (rd σ 68 9) 7237492) ≠ 0) (c34 : (l_cmp (rd σ 68 9) 1752135026) ≠ 0) (c35 : (l_cmp (rd σ 68 9) 2003398244) = 0), Q (some (0, 0)) σ) (k17 : ∀ (c1 : (rd σ 68 6) = 1) (c4 : (l_cmp (rd σ 68 9) 1818846836) ≠ 0) (c6 : (l_cmp (rd σ 68 9) 7501166) ≠ 0) (c8 : (l_cmp (rd σ 68 9) 1752132965) ≠ 0) (c10 : (l_cmp (rd σ 68 9) 499850634611) ≠ 0) (c12 : (l_cmp (rd σ 68 9) 495622124659) ≠ 0) (c14 : (l_cmp (rd σ 68 9) 1718775661) ≠ 0) (c16 : (l_cmp (rd σ 68 9) 29807) ≠ 0) (c18 : (l_cmp (rd σ 68 9) 1734440037) ≠ 0) (c20 : (l_cmp (rd σ 68 9) 444300616805) ≠ 0) (c21 : (l_cmp (rd σ 68 9) 1936617335) ≠ 0) (c24 : (l_cmp (rd σ 68 9) 1936225652) ≠ 0) (c26 : (l_cmp (rd σ 68 9) 26982) ≠ 0) (c28 : (l_cmp (rd σ 68 9) 28530) ≠ 0) (c30 : (l_cmp (rd σ 68 9) 6385252) ≠ 0) (c32 : (l_cmp (rd σ 68 9) 7237492) ≠ 0) (c34 : (l_cmp (rd σ 68 9) 1752135026) ≠ 0) (c36 : (l_cmp (rd σ 68 9) 2003398244) ≠ 0) (c37 : (l_cmp (rd σ 68 9) 440005915496) = 0), Q (some (0, 0)) σ) (k18 : ∀ (c1 : (rd σ 68 6) = 1) (c4 : (l_cmp (rd σ 68 9) 1818846836) ≠ 0) (c6 : (l_cmp (rd σ 68 9) 7501166) ≠ 0) (c8 : (l_cmp (rd σ 68 9) 1752132965) ≠ 0) (c10 : (l_cmp (rd σ 68 9) 499850634611) ≠ 0) (c12 : (l_cmp (rd σ 68 9) 495622124659) ≠ 0) (c14 : (l_cmp (rd σ 68 9) 1718775661) ≠ 0) (c16 : (l_cmp (rd σ 68 9) 29807) ≠ 0) (c18 : (l_cmp (rd σ 68 9) 1734440037) ≠ 0) (c20 : (l_cmp (rd σ 68 9) 444300616805) ≠ 0) (c21 : (l_cmp (rd σ 68 9) 1936617335) ≠ 0) (c24 : (l_cmp (rd σ 68 9) 1936225652) ≠ 0) (c26 : (l_cmp (rd σ 68 9) 26982) ≠ 0) (c28 : (l_cmp (rd σ 68 9) 28530) ≠ 0) (c30 : (l_cmp (rd σ 68 9) 6385252) ≠ 0) (c32 : (l_cmp (rd σ 68 9) 7237492) ≠ 0) (c34 : (l_cmp (rd σ 68 9) 1752135026) ≠ 0) (c36 : (l_cmp (rd σ 68 9) 2003398244) ≠ 0) (c38 : (l_cmp (rd σ 68 9) 440005915496) ≠ 0), Q (some (0, 1)) σ) (k19 : ∀ (c1 : (rd σ 68 6) = 1) (c4 : (l_cmp (rd σ 68 9) 1818846836) ≠ 0) (c6 : (l_cmp (rd σ 68 9) 7501166) ≠ 0) (c8 : (l_cmp (rd σ 68 9) 1752132965) ≠ 0) (c10 : (l_cmp (rd σ 68 9) 499850634611) ≠ 0) (c12 : (l_cmp (rd σ 68 9) 495622124659) ≠ 0) (c14 : (l_cmp (rd σ 68 9) 1718775661) ≠ 0) (c16 : (l_cmp (rd σ 68 9) 29807) ≠ 0) (c18 : (l_cmp (rd σ 68 9) 1734440037) ≠ 0) (c20 : (l_cmp (rd σ 68 9) 444300616805) ≠ 0) (c22 : (l_cmp (rd σ 68 9) 1936617335) = 0), Q (some (0, 0)) σ) (k20 : ∀ (c2 : (rd σ 68 6) ≠ 1), Q (some (0, 0)) σ) : pC mX11_isName d [(2, 68)] σ Q := by
  show pR mX11_isName d 0 [(2, 68), (9, 0)] [] σ Q
  refine pGo (s_aload_n dX11_isName_0 rfl (by decide)) ?_
  refine pGoE (y := (rd σ 68 6)) (s_getI pc11 fl_X11_260 dX11_isName_1 (ob_68 hst) rfl (by decide)) rfl ?_
  refine pGo (s_iconst dX11_isName_4) ?_
  refine p_iceq (tgt := 10) dX11_isName_5 (by decide) g1 (by decide) (fun c1 => ?_) (fun c2 => ?_)
  · refine pGo (s_aload_n dX11_isName_10 rfl (by decide)) ?_
    refine pGoE (y := (rd σ 68 9)) (s_getJ pc11 fl_X11_253 dX11_isName_11 (ob_68 hst) rfl rfl) rfl ?_
    refine pGo (s_ldc2 (n := 1818846836) dX11_isName_14 kl_X11_276 (by decide)) ?_
    refine pGo (s_lcmp dX11_isName_17 (g2 c1) (by decide)) ?_
    refine p_ifeq (tgt := 120) dX11_isName_18 (by decide) (l_cmp_R _ _) (fun c3 => ?_) (fun c4 => ?_)
    · refine pGo (s_iconst dX11_isName_120) ?_
      refine pGo (s_goto (tgt := 125) dX11_isName_121 (by decide)) ?_
      refine pGoL (ls2 := [(2, 68), (0, 1)]) (s_istore_n dX11_isName_125 (by decide) rfl) rfl ?_
      refine pGo (s_iload_n dX11_isName_126 rfl) ?_
      refine p_ifne (tgt := 222) dX11_isName_127 (by decide) (by decide) (fun _ => ?_) (fun q => absurd q (by decide))
      refine pGo (s_iconst dX11_isName_222) ?_
      exact pEnd (r := (some (0, 0))) dX11_isName_223 (Or.inl rfl) (k1 c1 c3)
    · refine pGo (s_aload_n dX11_isName_21 rfl (by decide)) ?_
      refine pGoE (y := (rd σ 68 9)) (s_getJ pc11 fl_X11_253 dX11_isName_22 (ob_68 hst) rfl rfl) rfl ?_
      refine pGo (s_ldc2 (n := 7501166) dX11_isName_25 kl_X11_278 (by decide)) ?_
      refine pGo (s_lcmp dX11_isName_28 (g2 c1) (by decide)) ?_
      refine p_ifeq (tgt := 120) dX11_isName_29 (by decide) (l_cmp_R _ _) (fun c5 => ?_) (fun c6 => ?_)
      · refine pGo (s_iconst dX11_isName_120) ?_
        refine pGo (s_goto (tgt := 125) dX11_isName_121 (by decide)) ?_
        refine pGoL (ls2 := [(2, 68), (0, 1)]) (s_istore_n dX11_isName_125 (by decide) rfl) rfl ?_
        refine pGo (s_iload_n dX11_isName_126 rfl) ?_
        refine p_ifne (tgt := 222) dX11_isName_127 (by decide) (by decide) (fun _ => ?_) (fun q => absurd q (by decide))
        refine pGo (s_iconst dX11_isName_222) ?_
        exact pEnd (r := (some (0, 0))) dX11_isName_223 (Or.inl rfl) (k2 c1 c4 c5)
      · refine pGo (s_aload_n dX11_isName_32 rfl (by decide)) ?_
        refine pGoE (y := (rd σ 68 9)) (s_getJ pc11 fl_X11_253 dX11_isName_33 (ob_68 hst) rfl rfl) rfl ?_
        refine pGo (s_ldc2 (n := 1752132965) dX11_isName_36 kl_X11_280 (by decide)) ?_
        refine pGo (s_lcmp dX11_isName_39 (g2 c1) (by decide)) ?_
        refine p_ifeq (tgt := 120) dX11_isName_40 (by decide) (l_cmp_R _ _) (fun c7 => ?_) (fun c8 => ?_)
        · refine pGo (s_iconst dX11_isName_120) ?_
          refine pGo (s_goto (tgt := 125) dX11_isName_121 (by decide)) ?_
          refine pGoL (ls2 := [(2, 68), (0, 1)]) (s_istore_n dX11_isName_125 (by decide) rfl) rfl ?_
          refine pGo (s_iload_n dX11_isName_126 rfl) ?_
          refine p_ifne (tgt := 222) dX11_isName_127 (by decide) (by decide) (fun _ => ?_) (fun q => absurd q (by decide))
          refine pGo (s_iconst dX11_isName_222) ?_
          exact pEnd (r := (some (0, 0))) dX11_isName_223 (Or.inl rfl) (k3 c1 c4 c6 c7)
        · refine pGo (s_aload_n dX11_isName_43 rfl (by decide)) ?_
          refine pGoE (y := (rd σ 68 9)) (s_getJ pc11 fl_X11_253 dX11_isName_44 (ob_68 hst) rfl rfl) rfl ?_
          refine pGo (s_ldc2 (n := 499850634611) dX11_isName_47 kl_X11_282 (by decide)) ?_
          refine pGo (s_lcmp dX11_isName_50 (g2 c1) (by decide)) ?_
          refine p_ifeq (tgt := 120) dX11_isName_51 (by decide) (l_cmp_R _ _) (fun c9 => ?_) (fun c10 => ?_)
          · refine pGo (s_iconst dX11_isName_120) ?_
            refine pGo (s_goto (tgt := 125) dX11_isName_121 (by decide)) ?_
            refine pGoL (ls2 := [(2, 68), (0, 1)]) (s_istore_n dX11_isName_125 (by decide) rfl) rfl ?_
            refine pGo (s_iload_n dX11_isName_126 rfl) ?_
            refine p_ifne (tgt := 222) dX11_isName_127 (by decide) (by decide) (fun _ => ?_) (fun q => absurd q (by decide))
            refine pGo (s_iconst dX11_isName_222) ?_
            exact pEnd (r := (some (0, 0))) dX11_isName_223 (Or.inl rfl) (k4 c1 c4 c6 c8 c9)
          · refine pGo (s_aload_n dX11_isName_54 rfl (by decide)) ?_
            refine pGoE (y := (rd σ 68 9)) (s_getJ pc11 fl_X11_253 dX11_isName_55 (ob_68 hst) rfl rfl) rfl ?_
            refine pGo (s_ldc2 (n := 495622124659) dX11_isName_58 kl_X11_284 (by decide)) ?_
            refine pGo (s_lcmp dX11_isName_61 (g2 c1) (by decide)) ?_
            refine p_ifeq (tgt := 120) dX11_isName_62 (by decide) (l_cmp_R _ _) (fun c11 => ?_) (fun c12 => ?_)
            · refine pGo (s_iconst dX11_isName_120) ?_
              refine pGo (s_goto (tgt := 125) dX11_isName_121 (by decide)) ?_
              refine pGoL (ls2 := [(2, 68), (0, 1)]) (s_istore_n dX11_isName_125 (by decide) rfl) rfl ?_
              refine pGo (s_iload_n dX11_isName_126 rfl) ?_
              refine p_ifne (tgt := 222) dX11_isName_127 (by decide) (by decide) (fun _ => ?_) (fun q => absurd q (by decide))
              refine pGo (s_iconst dX11_isName_222) ?_
              exact pEnd (r := (some (0, 0))) dX11_isName_223 (Or.inl rfl) (k5 c1 c4 c6 c8 c10 c11)
            · refine pGo (s_aload_n dX11_isName_65 rfl (by decide)) ?_
              refine pGoE (y := (rd σ 68 9)) (s_getJ pc11 fl_X11_253 dX11_isName_66 (ob_68 hst) rfl rfl) rfl ?_
              refine pGo (s_ldc2 (n := 1718775661) dX11_isName_69 kl_X11_286 (by decide)) ?_
              refine pGo (s_lcmp dX11_isName_72 (g2 c1) (by decide)) ?_
              refine p_ifeq (tgt := 120) dX11_isName_73 (by decide) (l_cmp_R _ _) (fun c13 => ?_) (fun c14 => ?_)
              · refine pGo (s_iconst dX11_isName_120) ?_
                refine pGo (s_goto (tgt := 125) dX11_isName_121 (by decide)) ?_
                refine pGoL (ls2 := [(2, 68), (0, 1)]) (s_istore_n dX11_isName_125 (by decide) rfl) rfl ?_
                refine pGo (s_iload_n dX11_isName_126 rfl) ?_
                refine p_ifne (tgt := 222) dX11_isName_127 (by decide) (by decide) (fun _ => ?_) (fun q => absurd q (by decide))
                refine pGo (s_iconst dX11_isName_222) ?_
                exact pEnd (r := (some (0, 0))) dX11_isName_223 (Or.inl rfl) (k6 c1 c4 c6 c8 c10 c12 c13)
              · refine pGo (s_aload_n dX11_isName_76 rfl (by decide)) ?_
                refine pGoE (y := (rd σ 68 9)) (s_getJ pc11 fl_X11_253 dX11_isName_77 (ob_68 hst) rfl rfl) rfl ?_
                refine pGo (s_ldc2 (n := 29807) dX11_isName_80 kl_X11_288 (by decide)) ?_
                refine pGo (s_lcmp dX11_isName_83 (g2 c1) (by decide)) ?_
                refine p_ifeq (tgt := 120) dX11_isName_84 (by decide) (l_cmp_R _ _) (fun c15 => ?_) (fun c16 => ?_)
                · refine pGo (s_iconst dX11_isName_120) ?_
                  refine pGo (s_goto (tgt := 125) dX11_isName_121 (by decide)) ?_
                  refine pGoL (ls2 := [(2, 68), (0, 1)]) (s_istore_n dX11_isName_125 (by decide) rfl) rfl ?_
                  refine pGo (s_iload_n dX11_isName_126 rfl) ?_
                  refine p_ifne (tgt := 222) dX11_isName_127 (by decide) (by decide) (fun _ => ?_) (fun q => absurd q (by decide))
                  refine pGo (s_iconst dX11_isName_222) ?_
                  exact pEnd (r := (some (0, 0))) dX11_isName_223 (Or.inl rfl) (k7 c1 c4 c6 c8 c10 c12 c14 c15)
                · refine pGo (s_aload_n dX11_isName_87 rfl (by decide)) ?_
                  refine pGoE (y := (rd σ 68 9)) (s_getJ pc11 fl_X11_253 dX11_isName_88 (ob_68 hst) rfl rfl) rfl ?_
                  refine pGo (s_ldc2 (n := 1734440037) dX11_isName_91 kl_X11_290 (by decide)) ?_
                  refine pGo (s_lcmp dX11_isName_94 (g2 c1) (by decide)) ?_
                  refine p_ifeq (tgt := 120) dX11_isName_95 (by decide) (l_cmp_R _ _) (fun c17 => ?_) (fun c18 => ?_)
                  · refine pGo (s_iconst dX11_isName_120) ?_
                    refine pGo (s_goto (tgt := 125) dX11_isName_121 (by decide)) ?_
                    refine pGoL (ls2 := [(2, 68), (0, 1)]) (s_istore_n dX11_isName_125 (by decide) rfl) rfl ?_
                    refine pGo (s_iload_n dX11_isName_126 rfl) ?_
                    refine p_ifne (tgt := 222) dX11_isName_127 (by decide) (by decide) (fun _ => ?_) (fun q => absurd q (by decide))
                    refine pGo (s_iconst dX11_isName_222) ?_
                    exact pEnd (r := (some (0, 0))) dX11_isName_223 (Or.inl rfl) (k8 c1 c4 c6 c8 c10 c12 c14 c16 c17)
                  · refine pGo (s_aload_n dX11_isName_98 rfl (by decide)) ?_
                    refine pGoE (y := (rd σ 68 9)) (s_getJ pc11 fl_X11_253 dX11_isName_99 (ob_68 hst) rfl rfl) rfl ?_
                    refine pGo (s_ldc2 (n := 444300616805) dX11_isName_102 kl_X11_292 (by decide)) ?_
                    refine pGo (s_lcmp dX11_isName_105 (g2 c1) (by decide)) ?_
                    refine p_ifeq (tgt := 120) dX11_isName_106 (by decide) (l_cmp_R _ _) (fun c19 => ?_) (fun c20 => ?_)
                    · refine pGo (s_iconst dX11_isName_120) ?_
                      refine pGo (s_goto (tgt := 125) dX11_isName_121 (by decide)) ?_
                      refine pGoL (ls2 := [(2, 68), (0, 1)]) (s_istore_n dX11_isName_125 (by decide) rfl) rfl ?_
                      refine pGo (s_iload_n dX11_isName_126 rfl) ?_
                      refine p_ifne (tgt := 222) dX11_isName_127 (by decide) (by decide) (fun _ => ?_) (fun q => absurd q (by decide))
                      refine pGo (s_iconst dX11_isName_222) ?_
                      exact pEnd (r := (some (0, 0))) dX11_isName_223 (Or.inl rfl) (k9 c1 c4 c6 c8 c10 c12 c14 c16 c18 c19)
                    · refine pGo (s_aload_n dX11_isName_109 rfl (by decide)) ?_
                      refine pGoE (y := (rd σ 68 9)) (s_getJ pc11 fl_X11_253 dX11_isName_110 (ob_68 hst) rfl rfl) rfl ?_
                      refine pGo (s_ldc2 (n := 1936617335) dX11_isName_113 kl_X11_294 (by decide)) ?_
                      refine pGo (s_lcmp dX11_isName_116 (g2 c1) (by decide)) ?_
                      refine p_ifne (tgt := 124) dX11_isName_117 (by decide) (l_cmp_R _ _) (fun c21 => ?_) (fun c22 => ?_)
                      · refine pGo (s_iconst dX11_isName_124) ?_
                        refine pGoL (ls2 := [(2, 68), (0, 0)]) (s_istore_n dX11_isName_125 (by decide) rfl) rfl ?_
                        refine pGo (s_iload_n dX11_isName_126 rfl) ?_
                        refine p_ifne (tgt := 222) dX11_isName_127 (by decide) (by decide) (fun q => absurd q (by decide)) (fun _ => ?_)
                        refine pGo (s_aload_n dX11_isName_130 rfl (by decide)) ?_
                        refine pGoE (y := (rd σ 68 9)) (s_getJ pc11 fl_X11_253 dX11_isName_131 (ob_68 hst) rfl rfl) rfl ?_
                        refine pGo (s_ldc2 (n := 1936225652) dX11_isName_134 kl_X11_296 (by decide)) ?_
                        refine pGo (s_lcmp dX11_isName_137 (g2 c1) (by decide)) ?_
                        refine p_ifeq (tgt := 222) dX11_isName_138 (by decide) (l_cmp_R _ _) (fun c23 => ?_) (fun c24 => ?_)
                        · refine pGo (s_iconst dX11_isName_222) ?_
                          exact pEnd (r := (some (0, 0))) dX11_isName_223 (Or.inl rfl) (k10 c1 c4 c6 c8 c10 c12 c14 c16 c18 c20 c21 c23)
                        · refine pGo (s_aload_n dX11_isName_141 rfl (by decide)) ?_
                          refine pGoE (y := (rd σ 68 9)) (s_getJ pc11 fl_X11_253 dX11_isName_142 (ob_68 hst) rfl rfl) rfl ?_
                          refine pGo (s_ldc2 (n := 26982) dX11_isName_145 kl_X11_298 (by decide)) ?_
                          refine pGo (s_lcmp dX11_isName_148 (g2 c1) (by decide)) ?_
                          refine p_ifeq (tgt := 222) dX11_isName_149 (by decide) (l_cmp_R _ _) (fun c25 => ?_) (fun c26 => ?_)
                          · refine pGo (s_iconst dX11_isName_222) ?_
                            exact pEnd (r := (some (0, 0))) dX11_isName_223 (Or.inl rfl) (k11 c1 c4 c6 c8 c10 c12 c14 c16 c18 c20 c21 c24 c25)
                          · refine pGo (s_aload_n dX11_isName_152 rfl (by decide)) ?_
                            refine pGoE (y := (rd σ 68 9)) (s_getJ pc11 fl_X11_253 dX11_isName_153 (ob_68 hst) rfl rfl) rfl ?_
                            refine pGo (s_ldc2 (n := 28530) dX11_isName_156 kl_X11_300 (by decide)) ?_
                            refine pGo (s_lcmp dX11_isName_159 (g2 c1) (by decide)) ?_
                            refine p_ifeq (tgt := 222) dX11_isName_160 (by decide) (l_cmp_R _ _) (fun c27 => ?_) (fun c28 => ?_)
                            · refine pGo (s_iconst dX11_isName_222) ?_
                              exact pEnd (r := (some (0, 0))) dX11_isName_223 (Or.inl rfl) (k12 c1 c4 c6 c8 c10 c12 c14 c16 c18 c20 c21 c24 c26 c27)
                            · refine pGo (s_aload_n dX11_isName_163 rfl (by decide)) ?_
                              refine pGoE (y := (rd σ 68 9)) (s_getJ pc11 fl_X11_253 dX11_isName_164 (ob_68 hst) rfl rfl) rfl ?_
                              refine pGo (s_ldc2 (n := 6385252) dX11_isName_167 kl_X11_302 (by decide)) ?_
                              refine pGo (s_lcmp dX11_isName_170 (g2 c1) (by decide)) ?_
                              refine p_ifeq (tgt := 222) dX11_isName_171 (by decide) (l_cmp_R _ _) (fun c29 => ?_) (fun c30 => ?_)
                              · refine pGo (s_iconst dX11_isName_222) ?_
                                exact pEnd (r := (some (0, 0))) dX11_isName_223 (Or.inl rfl) (k13 c1 c4 c6 c8 c10 c12 c14 c16 c18 c20 c21 c24 c26 c28 c29)
                              · refine pGo (s_aload_n dX11_isName_174 rfl (by decide)) ?_
                                refine pGoE (y := (rd σ 68 9)) (s_getJ pc11 fl_X11_253 dX11_isName_175 (ob_68 hst) rfl rfl) rfl ?_
                                refine pGo (s_ldc2 (n := 7237492) dX11_isName_178 kl_X11_304 (by decide)) ?_
                                refine pGo (s_lcmp dX11_isName_181 (g2 c1) (by decide)) ?_
                                refine p_ifeq (tgt := 222) dX11_isName_182 (by decide) (l_cmp_R _ _) (fun c31 => ?_) (fun c32 => ?_)
                                · refine pGo (s_iconst dX11_isName_222) ?_
                                  exact pEnd (r := (some (0, 0))) dX11_isName_223 (Or.inl rfl) (k14 c1 c4 c6 c8 c10 c12 c14 c16 c18 c20 c21 c24 c26 c28 c30 c31)
                                · refine pGo (s_aload_n dX11_isName_185 rfl (by decide)) ?_
                                  refine pGoE (y := (rd σ 68 9)) (s_getJ pc11 fl_X11_253 dX11_isName_186 (ob_68 hst) rfl rfl) rfl ?_
                                  refine pGo (s_ldc2 (n := 1752135026) dX11_isName_189 kl_X11_306 (by decide)) ?_
                                  refine pGo (s_lcmp dX11_isName_192 (g2 c1) (by decide)) ?_
                                  refine p_ifeq (tgt := 222) dX11_isName_193 (by decide) (l_cmp_R _ _) (fun c33 => ?_) (fun c34 => ?_)
                                  · refine pGo (s_iconst dX11_isName_222) ?_
                                    exact pEnd (r := (some (0, 0))) dX11_isName_223 (Or.inl rfl) (k15 c1 c4 c6 c8 c10 c12 c14 c16 c18 c20 c21 c24 c26 c28 c30 c32 c33)
                                  · refine pGo (s_aload_n dX11_isName_196 rfl (by decide)) ?_
                                    refine pGoE (y := (rd σ 68 9)) (s_getJ pc11 fl_X11_253 dX11_isName_197 (ob_68 hst) rfl rfl) rfl ?_
                                    refine pGo (s_ldc2 (n := 2003398244) dX11_isName_200 kl_X11_308 (by decide)) ?_
                                    refine pGo (s_lcmp dX11_isName_203 (g2 c1) (by decide)) ?_
                                    refine p_ifeq (tgt := 222) dX11_isName_204 (by decide) (l_cmp_R _ _) (fun c35 => ?_) (fun c36 => ?_)
                                    · refine pGo (s_iconst dX11_isName_222) ?_
                                      exact pEnd (r := (some (0, 0))) dX11_isName_223 (Or.inl rfl) (k16 c1 c4 c6 c8 c10 c12 c14 c16 c18 c20 c21 c24 c26 c28 c30 c32 c34 c35)
                                    · refine pGo (s_aload_n dX11_isName_207 rfl (by decide)) ?_
                                      refine pGoE (y := (rd σ 68 9)) (s_getJ pc11 fl_X11_253 dX11_isName_208 (ob_68 hst) rfl rfl) rfl ?_
                                      refine pGo (s_ldc2 (n := 440005915496) dX11_isName_211 kl_X11_310 (by decide)) ?_
                                      refine pGo (s_lcmp dX11_isName_214 (g2 c1) (by decide)) ?_
                                      refine p_ifeq (tgt := 222) dX11_isName_215 (by decide) (l_cmp_R _ _) (fun c37 => ?_) (fun c38 => ?_)
                                      · refine pGo (s_iconst dX11_isName_222) ?_
                                        exact pEnd (r := (some (0, 0))) dX11_isName_223 (Or.inl rfl) (k17 c1 c4 c6 c8 c10 c12 c14 c16 c18 c20 c21 c24 c26 c28 c30 c32 c34 c36 c37)
                                      · refine pGo (s_iconst dX11_isName_218) ?_
                                        refine pGo (s_goto (tgt := 223) dX11_isName_219 (by decide)) ?_
                                        exact pEnd (r := (some (0, 1))) dX11_isName_223 (Or.inr rfl) (k18 c1 c4 c6 c8 c10 c12 c14 c16 c18 c20 c21 c24 c26 c28 c30 c32 c34 c36 c38)
                      · refine pGo (s_iconst dX11_isName_120) ?_
                        refine pGo (s_goto (tgt := 125) dX11_isName_121 (by decide)) ?_
                        refine pGoL (ls2 := [(2, 68), (0, 1)]) (s_istore_n dX11_isName_125 (by decide) rfl) rfl ?_
                        refine pGo (s_iload_n dX11_isName_126 rfl) ?_
                        refine p_ifne (tgt := 222) dX11_isName_127 (by decide) (by decide) (fun _ => ?_) (fun q => absurd q (by decide))
                        refine pGo (s_iconst dX11_isName_222) ?_
                        exact pEnd (r := (some (0, 0))) dX11_isName_223 (Or.inl rfl) (k19 c1 c4 c6 c8 c10 c12 c14 c16 c18 c20 c22)
  · refine pGo (s_iconst dX11_isName_8) ?_
    exact pEnd (r := (some (0, 0))) dX11_isName_9 (Or.inl rfl) (k20 c2)
set_option maxRecDepth 100000 in
theorem g_X11_wantWord_0 {d : Nat} {σ : pS} {Q : Option pV → pS → Prop} {Q1 : Option pV → pS → Prop} {Q2 : Option pV → pS → Prop} {Q3 : Option pV → pS → Prop} (hd : 2 ≤ d) (hst : Stat σ) (x1 : Int)  (g1 : inR (rd σ 68 2)) (f1 : ∀ (c1 : (rd σ 68 2) ≤ 0), pC mX11_isWord 0 [(2, 68), (1, x1)] σ Q1) (g2 : ∀ (c1 : (rd σ 68 2) ≤ 0) (v1 : Int) (b1 : v1 = 0 ∨ v1 = 1) (τ1 : pS) (e1 : pLe σ τ1) (q1 : Q1 (some (0, v1)) τ1), inR v1) (f2 : ∀ (c1 : (rd σ 68 2) ≤ 0) (v1 : Int) (b1 : v1 = 0 ∨ v1 = 1) (τ1 : pS) (e1 : pLe σ τ1) (q1 : Q1 (some (0, v1)) τ1) (c3 : v1 ≠ 0), pC mX11_next 1 [(2, 68)] τ1 Q2) (k1 : ∀ (c1 : (rd σ 68 2) ≤ 0) (v1 : Int) (b1 : v1 = 0 ∨ v1 = 1) (τ1 : pS) (e1 : pLe σ τ1) (q1 : Q1 (some (0, v1)) τ1) (c3 : v1 ≠ 0) (τ2 : pS) (e2 : pLe τ1 τ2) (q2 : Q2 none τ2), Q none τ2) (f3 : ∀ (c1 : (rd σ 68 2) ≤ 0) (v1 : Int) (b1 : v1 = 0 ∨ v1 = 1) (τ1 : pS) (e1 : pLe σ τ1) (q1 : Q1 (some (0, v1)) τ1) (c4 : v1 = 0), pC mX11_wrong 0 [(2, 68), (0, 2)] τ1 Q3) (k2 : ∀ (c1 : (rd σ 68 2) ≤ 0) (v1 : Int) (b1 : v1 = 0 ∨ v1 = 1) (τ1 : pS) (e1 : pLe σ τ1) (q1 : Q1 (some (0, v1)) τ1) (c4 : v1 = 0) (τ3 : pS) (e3 : pLe τ1 τ3) (q3 : Q3 none τ3), Q none τ3) (k3 : ∀ (c2 : 0 < (rd σ 68 2)), Q none σ) : pC mX11_wantWord d [(2, 68), (1, x1)] σ Q := by
  show pR mX11_wantWord d 0 [(2, 68), (1, x1), (9, 0)] [] σ Q
  refine pGo (s_aload_n dX11_wantWord_0 rfl (by decide)) ?_
  refine pGoE (y := (rd σ 68 2)) (s_getI pc11 fl_X11_273 dX11_wantWord_1 (ob_68 hst) rfl (by decide)) rfl ?_
  refine p_ifle (tgt := 8) dX11_wantWord_4 (by decide) g1 (fun c1 => ?_) (fun c2 => ?_)
  · refine pGo (s_aload_n dX11_wantWord_8 rfl (by decide)) ?_
    refine pGo (s_lload_n dX11_wantWord_9 rfl) ?_
    refine p_callV (As := [(1, x1)]) (st := []) (n := 1) (d' := 0) (Q1 := Q1) pc11 ok_X11_isWord ml_X11_312 im_X11_isWord se_X11_isWord dX11_wantWord_10 (ob_68 hst) (pargs_of rfl) rfl (Nat.le_of_ble_eq_true rfl) (by omega) (f1 c1) (fun r1 τ1 e1 q1 w1 => ?_)
    obtain ⟨v1, rfl, b1⟩ := pRok_z w1
    have S1 : Stat τ1 := (Stat.le (σ := σ) hst e1)
    show pR mX11_wantWord d 13 [(2, 68), (1, x1), (9, 0)] [(0, v1)] τ1 Q
    refine p_ifne (tgt := 24) dX11_wantWord_13 (by decide) (g2 c1 v1 b1 τ1 e1 q1) (fun c3 => ?_) (fun c4 => ?_)
    · refine pGo (s_aload_n dX11_wantWord_24 rfl (by decide)) ?_
      refine p_callV (As := []) (st := []) (n := 0) (d' := 1) (Q1 := Q2) pc11 ok_X11_next ml_X11_319 im_X11_next se_X11_next dX11_wantWord_25 (ob_68 S1) (pargs_of rfl) rfl (Nat.le_of_ble_eq_true rfl) (by omega) (f2 c1 v1 b1 τ1 e1 q1 c3) (fun r2 τ2 e2 q2 w2 => ?_)
      obtain rfl : r2 = none := w2
      have S2 : Stat τ2 := (Stat.le (σ := τ1) S1 e2)
      show pR mX11_wantWord d 28 [(2, 68), (1, x1), (9, 0)] [] τ2 Q
      exact pEnd (r := none) dX11_wantWord_28 rfl (k1 c1 v1 b1 τ1 e1 q1 c3 τ2 e2 q2)
    · refine pGo (s_aload_n dX11_wantWord_16 rfl (by decide)) ?_
      refine pGo (s_iconst dX11_wantWord_17) ?_
      refine p_callV (As := [(0, 2)]) (st := []) (n := 1) (d' := 0) (Q1 := Q3) pc11 ok_X11_wrong ml_X11_316 im_X11_wrong se_X11_wrong dX11_wantWord_18 (ob_68 S1) (pargs_of rfl) rfl (Nat.le_of_ble_eq_true rfl) (by omega) (f3 c1 v1 b1 τ1 e1 q1 c4) (fun r3 τ3 e3 q3 w3 => ?_)
      obtain rfl : r3 = none := w3
      have S3 : Stat τ3 := (Stat.le (σ := τ1) S1 e3)
      show pR mX11_wantWord d 21 [(2, 68), (1, x1), (9, 0)] [] τ3 Q
      refine pGo (s_goto (tgt := 28) dX11_wantWord_21 (by decide)) ?_
      exact pEnd (r := none) dX11_wantWord_28 rfl (k2 c1 v1 b1 τ1 e1 q1 c4 τ3 e3 q3)
  · exact pEnd (r := none) dX11_wantWord_7 rfl (k3 c2)
set_option maxRecDepth 100000 in
theorem g_X11_told_0 {d : Nat} {σ : pS} {Q : Option pV → pS → Prop} {Q1 : Option pV → pS → Prop} {Q2 : Option pV → pS → Prop} {Q3 : Option pV → pS → Prop} {Q4 : Option pV → pS → Prop} {Q5 : Option pV → pS → Prop} {Q6 : Option pV → pS → Prop} {Q7 : Option pV → pS → Prop} (hd : 2 ≤ d) (hst : Stat σ) (x1 : Int) (x2 : Int)  (g1 : inR (rd σ 68 2)) (g2 : ∀ (c1 : (rd σ 68 2) ≤ 0), inR (rd σ 68 6)) (g3 : ∀ (c1 : (rd σ 68 2) ≤ 0) (c3 : (rd σ 68 6) = 2), inR (rd σ 68 8)) (g4 : ∀ (c1 : (rd σ 68 2) ≤ 0) (c3 : (rd σ 68 6) = 2), inR x1) (f1 : ∀ (c1 : (rd σ 68 2) ≤ 0) (c3 : (rd σ 68 6) = 2) (c5 : (rd σ 68 8) < x1), pC mX11_wrong 0 [(2, 68), (0, 4)] σ Q1) (g5 : ∀ (c1 : (rd σ 68 2) ≤ 0) (c3 : (rd σ 68 6) = 2) (c5 : (rd σ 68 8) < x1) (τ1 : pS) (e1 : pLe σ τ1) (q1 : Q1 none τ1), inR (rd τ1 68 2)) (k1 : ∀ (c1 : (rd σ 68 2) ≤ 0) (c3 : (rd σ 68 6) = 2) (c5 : (rd σ 68 8) < x1) (τ1 : pS) (e1 : pLe σ τ1) (q1 : Q1 none τ1) (c7 : (rd τ1 68 2) ≠ 0), Q (some (0, (rd τ1 68 8))) τ1) (f2 : ∀ (c1 : (rd σ 68 2) ≤ 0) (c3 : (rd σ 68 6) = 2) (c5 : (rd σ 68 8) < x1) (τ1 : pS) (e1 : pLe σ τ1) (q1 : Q1 none τ1) (c8 : (rd τ1 68 2) = 0), pC mX11_next 1 [(2, 68)] τ1 Q2) (k2 : ∀ (c1 : (rd σ 68 2) ≤ 0) (c3 : (rd σ 68 6) = 2) (c5 : (rd σ 68 8) < x1) (τ1 : pS) (e1 : pLe σ τ1) (q1 : Q1 none τ1) (c8 : (rd τ1 68 2) = 0) (τ2 : pS) (e2 : pLe τ1 τ2) (q2 : Q2 none τ2), Q (some (0, (rd τ1 68 8))) τ2) (g6 : ∀ (c1 : (rd σ 68 2) ≤ 0) (c3 : (rd σ 68 6) = 2) (c6 : x1 ≤ (rd σ 68 8)), inR x2) (k3 : ∀ (c1 : (rd σ 68 2) ≤ 0) (c3 : (rd σ 68 6) = 2) (c6 : x1 ≤ (rd σ 68 8)) (c9 : (rd σ 68 8) ≤ x2) (c11 : (rd σ 68 2) ≠ 0), Q (some (0, (rd σ 68 8))) σ) (f3 : ∀ (c1 : (rd σ 68 2) ≤ 0) (c3 : (rd σ 68 6) = 2) (c6 : x1 ≤ (rd σ 68 8)) (c9 : (rd σ 68 8) ≤ x2) (c12 : (rd σ 68 2) = 0), pC mX11_next 1 [(2, 68)] σ Q3) (k4 : ∀ (c1 : (rd σ 68 2) ≤ 0) (c3 : (rd σ 68 6) = 2) (c6 : x1 ≤ (rd σ 68 8)) (c9 : (rd σ 68 8) ≤ x2) (c12 : (rd σ 68 2) = 0) (τ3 : pS) (e3 : pLe σ τ3) (q3 : Q3 none τ3), Q (some (0, (rd σ 68 8))) τ3) (f4 : ∀ (c1 : (rd σ 68 2) ≤ 0) (c3 : (rd σ 68 6) = 2) (c6 : x1 ≤ (rd σ 68 8)) (c10 : x2 < (rd σ 68 8)), pC mX11_wrong 0 [(2, 68), (0, 4)] σ Q4) (g7 : ∀ (c1 : (rd σ 68 2) ≤ 0) (c3 : (rd σ 68 6) = 2) (c6 : x1 ≤ (rd σ 68 8)) (c10 : x2 < (rd σ 68 8)) (τ4 : pS) (e4 : pLe σ τ4) (q4 : Q4 none τ4), inR (rd τ4 68 2)) (k5 : ∀ (c1 : (rd σ 68 2) ≤ 0) (c3 : (rd σ 68 6) = 2) (c6 : x1 ≤ (rd σ 68 8)) (c10 : x2 < (rd σ 68 8)) (τ4 : pS) (e4 : pLe σ τ4) (q4 : Q4 none τ4) (c13 : (rd τ4 68 2) ≠ 0), Q (some (0, (rd τ4 68 8))) τ4) (f5 : ∀ (c1 : (rd σ 68 2) ≤ 0) (c3 : (rd σ 68 6) = 2) (c6 : x1 ≤ (rd σ 68 8)) (c10 : x2 < (rd σ 68 8)) (τ4 : pS) (e4 : pLe σ τ4) (q4 : Q4 none τ4) (c14 : (rd τ4 68 2) = 0), pC mX11_next 1 [(2, 68)] τ4 Q5) (k6 : ∀ (c1 : (rd σ 68 2) ≤ 0) (c3 : (rd σ 68 6) = 2) (c6 : x1 ≤ (rd σ 68 8)) (c10 : x2 < (rd σ 68 8)) (τ4 : pS) (e4 : pLe σ τ4) (q4 : Q4 none τ4) (c14 : (rd τ4 68 2) = 0) (τ5 : pS) (e5 : pLe τ4 τ5) (q5 : Q5 none τ5), Q (some (0, (rd τ4 68 8))) τ5) (f6 : ∀ (c1 : (rd σ 68 2) ≤ 0) (c4 : (rd σ 68 6) ≠ 2), pC mX11_wrong 0 [(2, 68), (0, 2)] σ Q6) (g8 : ∀ (c1 : (rd σ 68 2) ≤ 0) (c4 : (rd σ 68 6) ≠ 2) (τ6 : pS) (e6 : pLe σ τ6) (q6 : Q6 none τ6), inR (rd τ6 68 2)) (k7 : ∀ (c1 : (rd σ 68 2) ≤ 0) (c4 : (rd σ 68 6) ≠ 2) (τ6 : pS) (e6 : pLe σ τ6) (q6 : Q6 none τ6) (c15 : (rd τ6 68 2) ≠ 0), Q (some (0, (rd τ6 68 8))) τ6) (f7 : ∀ (c1 : (rd σ 68 2) ≤ 0) (c4 : (rd σ 68 6) ≠ 2) (τ6 : pS) (e6 : pLe σ τ6) (q6 : Q6 none τ6) (c16 : (rd τ6 68 2) = 0), pC mX11_next 1 [(2, 68)] τ6 Q7) (k8 : ∀ (c1 : (rd σ 68 2) ≤ 0) (c4 : (rd σ 68 6) ≠ 2) (τ6 : pS) (e6 : pLe σ τ6) (q6 : Q6 none τ6) (c16 : (rd τ6 68 2) = 0) (τ7 : pS) (e7 : pLe τ6 τ7) (q7 : Q7 none τ7), Q (some (0, (rd τ6 68 8))) τ7) (k9 : ∀ (c2 : 0 < (rd σ 68 2)), Q (some (0, 0)) σ) : pC mX11_told d [(2, 68), (0, x1), (0, x2)] σ Q := by
  show pR mX11_told d 0 [(2, 68), (0, x1), (0, x2), (9, 0)] [] σ Q
  refine pGo (s_aload_n dX11_told_0 rfl (by decide)) ?_
  refine pGoE (y := (rd σ 68 2)) (s_getI pc11 fl_X11_273 dX11_told_1 (ob_68 hst) rfl (by decide)) rfl ?_
  refine p_ifle (tgt := 9) dX11_told_4 (by decide) g1 (fun c1 => ?_) (fun c2 => ?_)
  · refine pGo (s_aload_n dX11_told_9 rfl (by decide)) ?_
    refine pGoE (y := (rd σ 68 6)) (s_getI pc11 fl_X11_260 dX11_told_10 (ob_68 hst) rfl (by decide)) rfl ?_
    refine pGo (s_iconst dX11_told_13) ?_
    refine p_iceq (tgt := 25) dX11_told_14 (by decide) (g2 c1) (by decide) (fun c3 => ?_) (fun c4 => ?_)
    · refine pGo (s_aload_n dX11_told_25 rfl (by decide)) ?_
      refine pGoE (y := (rd σ 68 8)) (s_getI pc11 fl_X11_257 dX11_told_26 (ob_68 hst) rfl (by decide)) rfl ?_
      refine pGo (s_iload_n dX11_told_29 rfl) ?_
      refine p_iclt (tgt := 41) dX11_told_30 (by decide) (g3 c1 c3) (g4 c1 c3) (fun c5 => ?_) (fun c6 => ?_)
      · refine pGo (s_aload_n dX11_told_41 rfl (by decide)) ?_
        refine pGo (s_iconst dX11_told_42) ?_
        refine p_callV (As := [(0, 4)]) (st := []) (n := 1) (d' := 0) (Q1 := Q1) pc11 ok_X11_wrong ml_X11_316 im_X11_wrong se_X11_wrong dX11_told_43 (ob_68 hst) (pargs_of rfl) rfl (Nat.le_of_ble_eq_true rfl) (by omega) (f1 c1 c3 c5) (fun r1 τ1 e1 q1 w1 => ?_)
        obtain rfl : r1 = none := w1
        have S1 : Stat τ1 := (Stat.le (σ := σ) hst e1)
        show pR mX11_told d 46 [(2, 68), (0, x1), (0, x2), (9, 0)] [] τ1 Q
        refine pGo (s_aload_n dX11_told_46 rfl (by decide)) ?_
        refine pGoE (y := (rd τ1 68 8)) (s_getI pc11 fl_X11_257 dX11_told_47 (ob_68 S1) rfl (by decide)) rfl ?_
        refine pGoL (ls2 := [(2, 68), (0, x1), (0, x2), (0, (rd τ1 68 8))]) (s_istore_n dX11_told_50 (by decide) rfl) rfl ?_
        refine pGo (s_aload_n dX11_told_51 rfl (by decide)) ?_
        refine pGoE (y := (rd τ1 68 2)) (s_getI pc11 fl_X11_273 dX11_told_52 (ob_68 S1) rfl (by decide)) rfl ?_
        refine p_ifne (tgt := 62) dX11_told_55 (by decide) (g5 c1 c3 c5 τ1 e1 q1) (fun c7 => ?_) (fun c8 => ?_)
        · refine pGo (s_iload_n dX11_told_62 rfl) ?_
          exact pEnd (r := (some (0, (rd τ1 68 8)))) dX11_told_63 ⟨_, rfl⟩ (k1 c1 c3 c5 τ1 e1 q1 c7)
        · refine pGo (s_aload_n dX11_told_58 rfl (by decide)) ?_
          refine p_callV (As := []) (st := []) (n := 0) (d' := 1) (Q1 := Q2) pc11 ok_X11_next ml_X11_319 im_X11_next se_X11_next dX11_told_59 (ob_68 S1) (pargs_of rfl) rfl (Nat.le_of_ble_eq_true rfl) (by omega) (f2 c1 c3 c5 τ1 e1 q1 c8) (fun r2 τ2 e2 q2 w2 => ?_)
          obtain rfl : r2 = none := w2
          have S2 : Stat τ2 := (Stat.le (σ := τ1) S1 e2)
          show pR mX11_told d 62 [(2, 68), (0, x1), (0, x2), (0, (rd τ1 68 8))] [] τ2 Q
          refine pGo (s_iload_n dX11_told_62 rfl) ?_
          exact pEnd (r := (some (0, (rd τ1 68 8)))) dX11_told_63 ⟨_, rfl⟩ (k2 c1 c3 c5 τ1 e1 q1 c8 τ2 e2 q2)
      · refine pGo (s_aload_n dX11_told_33 rfl (by decide)) ?_
        refine pGoE (y := (rd σ 68 8)) (s_getI pc11 fl_X11_257 dX11_told_34 (ob_68 hst) rfl (by decide)) rfl ?_
        refine pGo (s_iload_n dX11_told_37 rfl) ?_
        refine p_icle (tgt := 46) dX11_told_38 (by decide) (g3 c1 c3) (g6 c1 c3 c6) (fun c9 => ?_) (fun c10 => ?_)
        · refine pGo (s_aload_n dX11_told_46 rfl (by decide)) ?_
          refine pGoE (y := (rd σ 68 8)) (s_getI pc11 fl_X11_257 dX11_told_47 (ob_68 hst) rfl (by decide)) rfl ?_
          refine pGoL (ls2 := [(2, 68), (0, x1), (0, x2), (0, (rd σ 68 8))]) (s_istore_n dX11_told_50 (by decide) rfl) rfl ?_
          refine pGo (s_aload_n dX11_told_51 rfl (by decide)) ?_
          refine pGoE (y := (rd σ 68 2)) (s_getI pc11 fl_X11_273 dX11_told_52 (ob_68 hst) rfl (by decide)) rfl ?_
          refine p_ifne (tgt := 62) dX11_told_55 (by decide) g1 (fun c11 => ?_) (fun c12 => ?_)
          · refine pGo (s_iload_n dX11_told_62 rfl) ?_
            exact pEnd (r := (some (0, (rd σ 68 8)))) dX11_told_63 ⟨_, rfl⟩ (k3 c1 c3 c6 c9 c11)
          · refine pGo (s_aload_n dX11_told_58 rfl (by decide)) ?_
            refine p_callV (As := []) (st := []) (n := 0) (d' := 1) (Q1 := Q3) pc11 ok_X11_next ml_X11_319 im_X11_next se_X11_next dX11_told_59 (ob_68 hst) (pargs_of rfl) rfl (Nat.le_of_ble_eq_true rfl) (by omega) (f3 c1 c3 c6 c9 c12) (fun r3 τ3 e3 q3 w3 => ?_)
            obtain rfl : r3 = none := w3
            have S3 : Stat τ3 := (Stat.le (σ := σ) hst e3)
            show pR mX11_told d 62 [(2, 68), (0, x1), (0, x2), (0, (rd σ 68 8))] [] τ3 Q
            refine pGo (s_iload_n dX11_told_62 rfl) ?_
            exact pEnd (r := (some (0, (rd σ 68 8)))) dX11_told_63 ⟨_, rfl⟩ (k4 c1 c3 c6 c9 c12 τ3 e3 q3)
        · refine pGo (s_aload_n dX11_told_41 rfl (by decide)) ?_
          refine pGo (s_iconst dX11_told_42) ?_
          refine p_callV (As := [(0, 4)]) (st := []) (n := 1) (d' := 0) (Q1 := Q4) pc11 ok_X11_wrong ml_X11_316 im_X11_wrong se_X11_wrong dX11_told_43 (ob_68 hst) (pargs_of rfl) rfl (Nat.le_of_ble_eq_true rfl) (by omega) (f4 c1 c3 c6 c10) (fun r4 τ4 e4 q4 w4 => ?_)
          obtain rfl : r4 = none := w4
          have S4 : Stat τ4 := (Stat.le (σ := σ) hst e4)
          show pR mX11_told d 46 [(2, 68), (0, x1), (0, x2), (9, 0)] [] τ4 Q
          refine pGo (s_aload_n dX11_told_46 rfl (by decide)) ?_
          refine pGoE (y := (rd τ4 68 8)) (s_getI pc11 fl_X11_257 dX11_told_47 (ob_68 S4) rfl (by decide)) rfl ?_
          refine pGoL (ls2 := [(2, 68), (0, x1), (0, x2), (0, (rd τ4 68 8))]) (s_istore_n dX11_told_50 (by decide) rfl) rfl ?_
          refine pGo (s_aload_n dX11_told_51 rfl (by decide)) ?_
          refine pGoE (y := (rd τ4 68 2)) (s_getI pc11 fl_X11_273 dX11_told_52 (ob_68 S4) rfl (by decide)) rfl ?_
          refine p_ifne (tgt := 62) dX11_told_55 (by decide) (g7 c1 c3 c6 c10 τ4 e4 q4) (fun c13 => ?_) (fun c14 => ?_)
          · refine pGo (s_iload_n dX11_told_62 rfl) ?_
            exact pEnd (r := (some (0, (rd τ4 68 8)))) dX11_told_63 ⟨_, rfl⟩ (k5 c1 c3 c6 c10 τ4 e4 q4 c13)
          · refine pGo (s_aload_n dX11_told_58 rfl (by decide)) ?_
            refine p_callV (As := []) (st := []) (n := 0) (d' := 1) (Q1 := Q5) pc11 ok_X11_next ml_X11_319 im_X11_next se_X11_next dX11_told_59 (ob_68 S4) (pargs_of rfl) rfl (Nat.le_of_ble_eq_true rfl) (by omega) (f5 c1 c3 c6 c10 τ4 e4 q4 c14) (fun r5 τ5 e5 q5 w5 => ?_)
            obtain rfl : r5 = none := w5
            have S5 : Stat τ5 := (Stat.le (σ := τ4) S4 e5)
            show pR mX11_told d 62 [(2, 68), (0, x1), (0, x2), (0, (rd τ4 68 8))] [] τ5 Q
            refine pGo (s_iload_n dX11_told_62 rfl) ?_
            exact pEnd (r := (some (0, (rd τ4 68 8)))) dX11_told_63 ⟨_, rfl⟩ (k6 c1 c3 c6 c10 τ4 e4 q4 c14 τ5 e5 q5)
    · refine pGo (s_aload_n dX11_told_17 rfl (by decide)) ?_
      refine pGo (s_iconst dX11_told_18) ?_
      refine p_callV (As := [(0, 2)]) (st := []) (n := 1) (d' := 0) (Q1 := Q6) pc11 ok_X11_wrong ml_X11_316 im_X11_wrong se_X11_wrong dX11_told_19 (ob_68 hst) (pargs_of rfl) rfl (Nat.le_of_ble_eq_true rfl) (by omega) (f6 c1 c4) (fun r6 τ6 e6 q6 w6 => ?_)
      obtain rfl : r6 = none := w6
      have S6 : Stat τ6 := (Stat.le (σ := σ) hst e6)
      show pR mX11_told d 22 [(2, 68), (0, x1), (0, x2), (9, 0)] [] τ6 Q
      refine pGo (s_goto (tgt := 46) dX11_told_22 (by decide)) ?_
      refine pGo (s_aload_n dX11_told_46 rfl (by decide)) ?_
      refine pGoE (y := (rd τ6 68 8)) (s_getI pc11 fl_X11_257 dX11_told_47 (ob_68 S6) rfl (by decide)) rfl ?_
      refine pGoL (ls2 := [(2, 68), (0, x1), (0, x2), (0, (rd τ6 68 8))]) (s_istore_n dX11_told_50 (by decide) rfl) rfl ?_
      refine pGo (s_aload_n dX11_told_51 rfl (by decide)) ?_
      refine pGoE (y := (rd τ6 68 2)) (s_getI pc11 fl_X11_273 dX11_told_52 (ob_68 S6) rfl (by decide)) rfl ?_
      refine p_ifne (tgt := 62) dX11_told_55 (by decide) (g8 c1 c4 τ6 e6 q6) (fun c15 => ?_) (fun c16 => ?_)
      · refine pGo (s_iload_n dX11_told_62 rfl) ?_
        exact pEnd (r := (some (0, (rd τ6 68 8)))) dX11_told_63 ⟨_, rfl⟩ (k7 c1 c4 τ6 e6 q6 c15)
      · refine pGo (s_aload_n dX11_told_58 rfl (by decide)) ?_
        refine p_callV (As := []) (st := []) (n := 0) (d' := 1) (Q1 := Q7) pc11 ok_X11_next ml_X11_319 im_X11_next se_X11_next dX11_told_59 (ob_68 S6) (pargs_of rfl) rfl (Nat.le_of_ble_eq_true rfl) (by omega) (f7 c1 c4 τ6 e6 q6 c16) (fun r7 τ7 e7 q7 w7 => ?_)
        obtain rfl : r7 = none := w7
        have S7 : Stat τ7 := (Stat.le (σ := τ6) S6 e7)
        show pR mX11_told d 62 [(2, 68), (0, x1), (0, x2), (0, (rd τ6 68 8))] [] τ7 Q
        refine pGo (s_iload_n dX11_told_62 rfl) ?_
        exact pEnd (r := (some (0, (rd τ6 68 8)))) dX11_told_63 ⟨_, rfl⟩ (k8 c1 c4 τ6 e6 q6 c16 τ7 e7 q7)
  · refine pGo (s_iconst dX11_told_7) ?_
    exact pEnd (r := (some (0, 0))) dX11_told_8 ⟨_, rfl⟩ (k9 c2)
set_option maxRecDepth 100000 in
theorem g_X11_point_0 {d : Nat} {σ : pS} {Q : Option pV → pS → Prop} {Q1 : Option pV → pS → Prop} {Q2 : Option pV → pS → Prop} {Q3 : Option pV → pS → Prop} {Q4 : Option pV → pS → Prop} {Q5 : Option pV → pS → Prop} (hd : 2 ≤ d) (hst : Stat σ) (x1 : Int)  (g1 : inR (rd σ 68 2)) (g2 : ∀ (c1 : (rd σ 68 2) ≤ 0), inR (rd σ 68 6)) (g3 : ∀ (c1 : (rd σ 68 2) ≤ 0) (c3 : (rd σ 68 6) = 3), inR (rd σ 68 8)) (g4 : ∀ (c1 : (rd σ 68 2) ≤ 0) (c3 : (rd σ 68 6) = 3), inR x1) (k1 : ∀ (c1 : (rd σ 68 2) ≤ 0) (c3 : (rd σ 68 6) = 3) (c5 : (rd σ 68 8) ≠ x1) (c7 : (rd σ 68 2) ≠ 0), Q (some (0, (rd σ 68 8))) σ) (f1 : ∀ (c1 : (rd σ 68 2) ≤ 0) (c3 : (rd σ 68 6) = 3) (c5 : (rd σ 68 8) ≠ x1) (c8 : (rd σ 68 2) = 0), pC mX11_next 1 [(2, 68)] σ Q1) (k2 : ∀ (c1 : (rd σ 68 2) ≤ 0) (c3 : (rd σ 68 6) = 3) (c5 : (rd σ 68 8) ≠ x1) (c8 : (rd σ 68 2) = 0) (τ1 : pS) (e1 : pLe σ τ1) (q1 : Q1 none τ1), Q (some (0, (rd σ 68 8))) τ1) (f2 : ∀ (c1 : (rd σ 68 2) ≤ 0) (c3 : (rd σ 68 6) = 3) (c6 : (rd σ 68 8) = x1), pC mX11_wrong 0 [(2, 68), (0, 5)] σ Q2) (g5 : ∀ (c1 : (rd σ 68 2) ≤ 0) (c3 : (rd σ 68 6) = 3) (c6 : (rd σ 68 8) = x1) (τ2 : pS) (e2 : pLe σ τ2) (q2 : Q2 none τ2), inR (rd τ2 68 2)) (k3 : ∀ (c1 : (rd σ 68 2) ≤ 0) (c3 : (rd σ 68 6) = 3) (c6 : (rd σ 68 8) = x1) (τ2 : pS) (e2 : pLe σ τ2) (q2 : Q2 none τ2) (c9 : (rd τ2 68 2) ≠ 0), Q (some (0, (rd τ2 68 8))) τ2) (f3 : ∀ (c1 : (rd σ 68 2) ≤ 0) (c3 : (rd σ 68 6) = 3) (c6 : (rd σ 68 8) = x1) (τ2 : pS) (e2 : pLe σ τ2) (q2 : Q2 none τ2) (c10 : (rd τ2 68 2) = 0), pC mX11_next 1 [(2, 68)] τ2 Q3) (k4 : ∀ (c1 : (rd σ 68 2) ≤ 0) (c3 : (rd σ 68 6) = 3) (c6 : (rd σ 68 8) = x1) (τ2 : pS) (e2 : pLe σ τ2) (q2 : Q2 none τ2) (c10 : (rd τ2 68 2) = 0) (τ3 : pS) (e3 : pLe τ2 τ3) (q3 : Q3 none τ3), Q (some (0, (rd τ2 68 8))) τ3) (f4 : ∀ (c1 : (rd σ 68 2) ≤ 0) (c4 : (rd σ 68 6) ≠ 3), pC mX11_wrong 0 [(2, 68), (0, 2)] σ Q4) (g6 : ∀ (c1 : (rd σ 68 2) ≤ 0) (c4 : (rd σ 68 6) ≠ 3) (τ4 : pS) (e4 : pLe σ τ4) (q4 : Q4 none τ4), inR (rd τ4 68 2)) (k5 : ∀ (c1 : (rd σ 68 2) ≤ 0) (c4 : (rd σ 68 6) ≠ 3) (τ4 : pS) (e4 : pLe σ τ4) (q4 : Q4 none τ4) (c11 : (rd τ4 68 2) ≠ 0), Q (some (0, (rd τ4 68 8))) τ4) (f5 : ∀ (c1 : (rd σ 68 2) ≤ 0) (c4 : (rd σ 68 6) ≠ 3) (τ4 : pS) (e4 : pLe σ τ4) (q4 : Q4 none τ4) (c12 : (rd τ4 68 2) = 0), pC mX11_next 1 [(2, 68)] τ4 Q5) (k6 : ∀ (c1 : (rd σ 68 2) ≤ 0) (c4 : (rd σ 68 6) ≠ 3) (τ4 : pS) (e4 : pLe σ τ4) (q4 : Q4 none τ4) (c12 : (rd τ4 68 2) = 0) (τ5 : pS) (e5 : pLe τ4 τ5) (q5 : Q5 none τ5), Q (some (0, (rd τ4 68 8))) τ5) (k7 : ∀ (c2 : 0 < (rd σ 68 2)), Q (some (0, 0)) σ) : pC mX11_point d [(2, 68), (0, x1)] σ Q := by
  show pR mX11_point d 0 [(2, 68), (0, x1), (9, 0)] [] σ Q
  refine pGo (s_aload_n dX11_point_0 rfl (by decide)) ?_
  refine pGoE (y := (rd σ 68 2)) (s_getI pc11 fl_X11_273 dX11_point_1 (ob_68 hst) rfl (by decide)) rfl ?_
  refine p_ifle (tgt := 9) dX11_point_4 (by decide) g1 (fun c1 => ?_) (fun c2 => ?_)
  · refine pGo (s_aload_n dX11_point_9 rfl (by decide)) ?_
    refine pGoE (y := (rd σ 68 6)) (s_getI pc11 fl_X11_260 dX11_point_10 (ob_68 hst) rfl (by decide)) rfl ?_
    refine pGo (s_iconst dX11_point_13) ?_
    refine p_iceq (tgt := 25) dX11_point_14 (by decide) (g2 c1) (by decide) (fun c3 => ?_) (fun c4 => ?_)
    · refine pGo (s_aload_n dX11_point_25 rfl (by decide)) ?_
      refine pGoE (y := (rd σ 68 8)) (s_getI pc11 fl_X11_257 dX11_point_26 (ob_68 hst) rfl (by decide)) rfl ?_
      refine pGo (s_iload_n dX11_point_29 rfl) ?_
      refine p_icne (tgt := 38) dX11_point_30 (by decide) (g3 c1 c3) (g4 c1 c3) (fun c5 => ?_) (fun c6 => ?_)
      · refine pGo (s_aload_n dX11_point_38 rfl (by decide)) ?_
        refine pGoE (y := (rd σ 68 8)) (s_getI pc11 fl_X11_257 dX11_point_39 (ob_68 hst) rfl (by decide)) rfl ?_
        refine pGoL (ls2 := [(2, 68), (0, x1), (0, (rd σ 68 8))]) (s_istore_n dX11_point_42 (by decide) rfl) rfl ?_
        refine pGo (s_aload_n dX11_point_43 rfl (by decide)) ?_
        refine pGoE (y := (rd σ 68 2)) (s_getI pc11 fl_X11_273 dX11_point_44 (ob_68 hst) rfl (by decide)) rfl ?_
        refine p_ifne (tgt := 54) dX11_point_47 (by decide) g1 (fun c7 => ?_) (fun c8 => ?_)
        · refine pGo (s_iload_n dX11_point_54 rfl) ?_
          exact pEnd (r := (some (0, (rd σ 68 8)))) dX11_point_55 ⟨_, rfl⟩ (k1 c1 c3 c5 c7)
        · refine pGo (s_aload_n dX11_point_50 rfl (by decide)) ?_
          refine p_callV (As := []) (st := []) (n := 0) (d' := 1) (Q1 := Q1) pc11 ok_X11_next ml_X11_319 im_X11_next se_X11_next dX11_point_51 (ob_68 hst) (pargs_of rfl) rfl (Nat.le_of_ble_eq_true rfl) (by omega) (f1 c1 c3 c5 c8) (fun r1 τ1 e1 q1 w1 => ?_)
          obtain rfl : r1 = none := w1
          have S1 : Stat τ1 := (Stat.le (σ := σ) hst e1)
          show pR mX11_point d 54 [(2, 68), (0, x1), (0, (rd σ 68 8))] [] τ1 Q
          refine pGo (s_iload_n dX11_point_54 rfl) ?_
          exact pEnd (r := (some (0, (rd σ 68 8)))) dX11_point_55 ⟨_, rfl⟩ (k2 c1 c3 c5 c8 τ1 e1 q1)
      · refine pGo (s_aload_n dX11_point_33 rfl (by decide)) ?_
        refine pGo (s_iconst dX11_point_34) ?_
        refine p_callV (As := [(0, 5)]) (st := []) (n := 1) (d' := 0) (Q1 := Q2) pc11 ok_X11_wrong ml_X11_316 im_X11_wrong se_X11_wrong dX11_point_35 (ob_68 hst) (pargs_of rfl) rfl (Nat.le_of_ble_eq_true rfl) (by omega) (f2 c1 c3 c6) (fun r2 τ2 e2 q2 w2 => ?_)
        obtain rfl : r2 = none := w2
        have S2 : Stat τ2 := (Stat.le (σ := σ) hst e2)
        show pR mX11_point d 38 [(2, 68), (0, x1), (9, 0)] [] τ2 Q
        refine pGo (s_aload_n dX11_point_38 rfl (by decide)) ?_
        refine pGoE (y := (rd τ2 68 8)) (s_getI pc11 fl_X11_257 dX11_point_39 (ob_68 S2) rfl (by decide)) rfl ?_
        refine pGoL (ls2 := [(2, 68), (0, x1), (0, (rd τ2 68 8))]) (s_istore_n dX11_point_42 (by decide) rfl) rfl ?_
        refine pGo (s_aload_n dX11_point_43 rfl (by decide)) ?_
        refine pGoE (y := (rd τ2 68 2)) (s_getI pc11 fl_X11_273 dX11_point_44 (ob_68 S2) rfl (by decide)) rfl ?_
        refine p_ifne (tgt := 54) dX11_point_47 (by decide) (g5 c1 c3 c6 τ2 e2 q2) (fun c9 => ?_) (fun c10 => ?_)
        · refine pGo (s_iload_n dX11_point_54 rfl) ?_
          exact pEnd (r := (some (0, (rd τ2 68 8)))) dX11_point_55 ⟨_, rfl⟩ (k3 c1 c3 c6 τ2 e2 q2 c9)
        · refine pGo (s_aload_n dX11_point_50 rfl (by decide)) ?_
          refine p_callV (As := []) (st := []) (n := 0) (d' := 1) (Q1 := Q3) pc11 ok_X11_next ml_X11_319 im_X11_next se_X11_next dX11_point_51 (ob_68 S2) (pargs_of rfl) rfl (Nat.le_of_ble_eq_true rfl) (by omega) (f3 c1 c3 c6 τ2 e2 q2 c10) (fun r3 τ3 e3 q3 w3 => ?_)
          obtain rfl : r3 = none := w3
          have S3 : Stat τ3 := (Stat.le (σ := τ2) S2 e3)
          show pR mX11_point d 54 [(2, 68), (0, x1), (0, (rd τ2 68 8))] [] τ3 Q
          refine pGo (s_iload_n dX11_point_54 rfl) ?_
          exact pEnd (r := (some (0, (rd τ2 68 8)))) dX11_point_55 ⟨_, rfl⟩ (k4 c1 c3 c6 τ2 e2 q2 c10 τ3 e3 q3)
    · refine pGo (s_aload_n dX11_point_17 rfl (by decide)) ?_
      refine pGo (s_iconst dX11_point_18) ?_
      refine p_callV (As := [(0, 2)]) (st := []) (n := 1) (d' := 0) (Q1 := Q4) pc11 ok_X11_wrong ml_X11_316 im_X11_wrong se_X11_wrong dX11_point_19 (ob_68 hst) (pargs_of rfl) rfl (Nat.le_of_ble_eq_true rfl) (by omega) (f4 c1 c4) (fun r4 τ4 e4 q4 w4 => ?_)
      obtain rfl : r4 = none := w4
      have S4 : Stat τ4 := (Stat.le (σ := σ) hst e4)
      show pR mX11_point d 22 [(2, 68), (0, x1), (9, 0)] [] τ4 Q
      refine pGo (s_goto (tgt := 38) dX11_point_22 (by decide)) ?_
      refine pGo (s_aload_n dX11_point_38 rfl (by decide)) ?_
      refine pGoE (y := (rd τ4 68 8)) (s_getI pc11 fl_X11_257 dX11_point_39 (ob_68 S4) rfl (by decide)) rfl ?_
      refine pGoL (ls2 := [(2, 68), (0, x1), (0, (rd τ4 68 8))]) (s_istore_n dX11_point_42 (by decide) rfl) rfl ?_
      refine pGo (s_aload_n dX11_point_43 rfl (by decide)) ?_
      refine pGoE (y := (rd τ4 68 2)) (s_getI pc11 fl_X11_273 dX11_point_44 (ob_68 S4) rfl (by decide)) rfl ?_
      refine p_ifne (tgt := 54) dX11_point_47 (by decide) (g6 c1 c4 τ4 e4 q4) (fun c11 => ?_) (fun c12 => ?_)
      · refine pGo (s_iload_n dX11_point_54 rfl) ?_
        exact pEnd (r := (some (0, (rd τ4 68 8)))) dX11_point_55 ⟨_, rfl⟩ (k5 c1 c4 τ4 e4 q4 c11)
      · refine pGo (s_aload_n dX11_point_50 rfl (by decide)) ?_
        refine p_callV (As := []) (st := []) (n := 0) (d' := 1) (Q1 := Q5) pc11 ok_X11_next ml_X11_319 im_X11_next se_X11_next dX11_point_51 (ob_68 S4) (pargs_of rfl) rfl (Nat.le_of_ble_eq_true rfl) (by omega) (f5 c1 c4 τ4 e4 q4 c12) (fun r5 τ5 e5 q5 w5 => ?_)
        obtain rfl : r5 = none := w5
        have S5 : Stat τ5 := (Stat.le (σ := τ4) S4 e5)
        show pR mX11_point d 54 [(2, 68), (0, x1), (0, (rd τ4 68 8))] [] τ5 Q
        refine pGo (s_iload_n dX11_point_54 rfl) ?_
        exact pEnd (r := (some (0, (rd τ4 68 8)))) dX11_point_55 ⟨_, rfl⟩ (k6 c1 c4 τ4 e4 q4 c12 τ5 e5 q5)
  · refine pGo (s_iconst dX11_point_7) ?_
    exact pEnd (r := (some (0, 0))) dX11_point_8 ⟨_, rfl⟩ (k7 c2)
set_option maxRecDepth 100000 in
theorem g_X11_begin_0 {d : Nat} {σ : pS} {Q : Option pV → pS → Prop} {Q1 : Option pV → pS → Prop} (hd : 2 ≤ d) (hst : Stat σ)   (f1 : pC mX11_next 1 [(2, 68)] (wr (wr (wr (wr (wr σ 68 5 (rd σ 68 1)) 68 1 0) 68 4 0) 68 2 0) 68 3 (-1)) Q1) (k1 : ∀ (τ1 : pS) (e1 : pLe (wr (wr (wr (wr (wr σ 68 5 (rd σ 68 1)) 68 1 0) 68 4 0) 68 2 0) 68 3 (-1)) τ1) (q1 : Q1 none τ1), Q none τ1) : pC mX11_begin d [(2, 68)] σ Q := by
  show pR mX11_begin d 0 [(2, 68)] [] σ Q
  refine pGo (s_aload_n dX11_begin_0 rfl (by decide)) ?_
  refine pGo (s_aload_n dX11_begin_1 rfl (by decide)) ?_
  refine pGoE (y := (rd σ 68 1)) (s_getI pc11 fl_X11_233 dX11_begin_2 (ob_68 hst) rfl (by decide)) rfl ?_
  refine pGo (s_putI pc11 fl_X11_243 dX11_begin_5 (ob_68 hst) rfl rfl rfl rfl) ?_
  refine pGo (s_aload_n dX11_begin_8 rfl (by decide)) ?_
  refine pGo (s_iconst dX11_begin_9) ?_
  refine pGo (s_putI pc11 fl_X11_233 dX11_begin_10 (ob_68 hst) rfl rfl rfl rfl) ?_
  refine pGo (s_aload_n dX11_begin_13 rfl (by decide)) ?_
  refine pGo (s_iconst dX11_begin_14) ?_
  refine pGo (s_putI pc11 fl_X11_240 dX11_begin_15 (ob_68 hst) rfl rfl rfl rfl) ?_
  refine pGo (s_aload_n dX11_begin_18 rfl (by decide)) ?_
  refine pGo (s_iconst dX11_begin_19) ?_
  refine pGo (s_putI pc11 fl_X11_273 dX11_begin_20 (ob_68 hst) rfl rfl rfl rfl) ?_
  refine pGo (s_aload_n dX11_begin_23 rfl (by decide)) ?_
  refine pGo (s_iconst dX11_begin_24) ?_
  refine pGo (s_putI pc11 fl_X11_13 dX11_begin_25 (ob_68 hst) rfl rfl rfl rfl) ?_
  refine pGo (s_aload_n dX11_begin_28 rfl (by decide)) ?_
  refine p_callV (As := []) (st := []) (n := 0) (d' := 1) (Q1 := Q1) pc11 ok_X11_next ml_X11_319 im_X11_next se_X11_next dX11_begin_29 (ob_68 hst) (pargs_of rfl) rfl (Nat.le_of_ble_eq_true rfl) (by omega) f1 (fun r1 τ1 e1 q1 w1 => ?_)
  obtain rfl : r1 = none := w1
  have S1 : Stat τ1 := (Stat.le (σ := (wr (wr (wr (wr (wr σ 68 5 (rd σ 68 1)) 68 1 0) 68 4 0) 68 2 0) 68 3 (-1))) hst e1)
  show pR mX11_begin d 32 [(2, 68)] [] τ1 Q
  exact pEnd (r := none) dX11_begin_32 rfl (k1 τ1 e1 q1)
