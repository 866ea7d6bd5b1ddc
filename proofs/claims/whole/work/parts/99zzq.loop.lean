/-! the law: a call of both, case by case; its loop -/
theorem s_iceqT {M : pM} {d pc : Nat} {ls st : List pV} {σ : pS} {x off : Int} {tgt : Nat} (hd : decode M.2.1 pc = .ok (.if_icmp .eq off, 3)) (ht : (pc : Int) + off = (tgt : Int)) : pStep M d pc ls ((0, x) :: (0, x) :: st) σ tgt ls st σ := pStep.pure (fun p l e R s m args below meth c H locs cells slots Q g lsA hC hl k => lv_icmp_eq hC.1 hC.2.1 hd ht (fun _ => k) (fun z => absurd rfl z))
theorem i_and_31 (x : Int) : i_and x 31 = x % 32 := by
  unfold i_and
  have e : (Int32.ofInt x &&& Int32.ofInt 31).toBitVec = BitVec.ofInt 32 x &&& 31#32 := rfl
  have n : (BitVec.ofInt 32 x &&& 31#32).toNat = (BitVec.ofInt 32 x).toNat % 32 := by
    rw [BitVec.toNat_and]
    exact Nat.and_two_pow_sub_one_eq_mod _ 5
  have z : ((BitVec.ofInt 32 x).toNat : Int) = x % 4294967296 := by
    rw [BitVec.toNat_ofInt]
    omega
  show (Int32.ofInt x &&& Int32.ofInt 31).toBitVec.toInt = x % 32
  rw [e, BitVec.toInt_eq_toNat_of_lt (by rw [n]; omega), n]
  omega
set_option maxRecDepth 100000 in
theorem law_c_feed {d n : Nat} {σ : pS} {i : Int} {Q : Option pV → pS → Prop} (hd : 101 ≤ d) (h : RB n σ) (hn : n < 512) (i0 : 0 ≤ i) (i7 : i + 7 ≤ rd σ (-2) 0) (s : ∀ j : Int, inR (rd σ (-1) j)) (k : ∀ υ, pLe σ υ → RB (n + 1) υ → pR mL_law d 1233 [(3, 0), (2, 0), (2, 68), (0, i)] [] υ Q) : pR mL_law d 164 [(3, 0), (2, 0), (2, 68), (0, i)] [] σ Q := by
  refine pGo (s_aload_n dL_law_164 rfl (by decide)) ?_
  refine pGo (s_aload_n3 dL_law_165 rfl) ?_
  refine pGo (s_iload_n dL_law_166 rfl) ?_
  refine pGo (s_iconst dL_law_167) ?_
  refine pGo (s_iadd dL_law_168) ?_
  refine pGo (s_sld dL_law_169 ⟨by omega, by omega⟩) ?_
  refine pGo (s_aload_n3 dL_law_170 rfl) ?_
  refine pGo (s_iload_n dL_law_171 rfl) ?_
  refine pGo (s_iconst dL_law_172) ?_
  refine pGo (s_iadd dL_law_173) ?_
  refine pGo (s_sld dL_law_174 ⟨by omega, by omega⟩) ?_
  refine pGo (s_aload_n3 dL_law_175 rfl) ?_
  refine pGo (s_iload_n dL_law_176 rfl) ?_
  refine pGo (s_iconst dL_law_177) ?_
  refine pGo (s_iadd dL_law_178) ?_
  refine pGo (s_sld dL_law_179 ⟨by omega, by omega⟩) ?_
  refine pGo (s_aload_n3 dL_law_180 rfl) ?_
  refine pGo (s_iload_n dL_law_181 rfl) ?_
  refine pGo (s_iconst dL_law_182) ?_
  refine pGo (s_iadd dL_law_183) ?_
  refine pGo (s_sld dL_law_184 ⟨by omega, by omega⟩) ?_
  refine pGo (s_aload_n3 dL_law_185 rfl) ?_
  refine pGo (s_iload_n dL_law_186 rfl) ?_
  refine pGo (s_iconst dL_law_187) ?_
  refine pGo (s_iadd dL_law_188) ?_
  refine pGo (s_sld dL_law_189 ⟨by omega, by omega⟩) ?_
  refine p_callV (As := [(0, (rd σ (-1) (i + 1))), (0, (rd σ (-1) (i + 2))), (0, (rd σ (-1) (i + 3))), (0, (rd σ (-1) (i + 4))), (0, (rd σ (-1) (i + 5)))]) (st := []) (n := 5) (d' := 100) pc10 ok_X10_feed ml_law_13 im_X10_feed se_X10_feed dL_law_190 (ob_0 h.1) (pargs_of rfl) rfl (Nat.le_of_ble_eq_true rfl) (by omega) (op_feed (Nat.le_refl 100) h hn (s _) (s _) (s _) (s _) (s _)) (fun r1 τ1 e1 q1 w1 => ?_)
  obtain ⟨v, rfl⟩ := w1
  have eL : rd τ1 (-2) 0 = rd σ (-2) 0 := e1.2.2.2 _ _ (by decide)
  have eS : ∀ j, rd τ1 (-1) j = rd σ (-1) j := fun j => e1.2.2.2 _ _ (by decide)
  show pR mL_law d 193 [(3, 0), (2, 0), (2, 68), (0, i)] [(0, v)] τ1 Q
  refine pGo (s_aload_n dL_law_193 rfl (by decide)) ?_
  refine pGo (s_aload_n3 dL_law_194 rfl) ?_
  refine pGo (s_iload_n dL_law_195 rfl) ?_
  refine pGo (s_iconst dL_law_196) ?_
  refine pGo (s_iadd dL_law_197) ?_
  refine pGoE (y := (rd σ (-1) (i + 1))) (s_sld dL_law_198 ⟨by omega, by omega⟩) (eS _) ?_
  refine pGo (s_aload_n3 dL_law_199 rfl) ?_
  refine pGo (s_iload_n dL_law_200 rfl) ?_
  refine pGo (s_iconst dL_law_201) ?_
  refine pGo (s_iadd dL_law_202) ?_
  refine pGoE (y := (rd σ (-1) (i + 2))) (s_sld dL_law_203 ⟨by omega, by omega⟩) (eS _) ?_
  refine pGo (s_aload_n3 dL_law_204 rfl) ?_
  refine pGo (s_iload_n dL_law_205 rfl) ?_
  refine pGo (s_iconst dL_law_206) ?_
  refine pGo (s_iadd dL_law_207) ?_
  refine pGoE (y := (rd σ (-1) (i + 3))) (s_sld dL_law_208 ⟨by omega, by omega⟩) (eS _) ?_
  refine pGo (s_aload_n3 dL_law_209 rfl) ?_
  refine pGo (s_iload_n dL_law_210 rfl) ?_
  refine pGo (s_iconst dL_law_211) ?_
  refine pGo (s_iadd dL_law_212) ?_
  refine pGoE (y := (rd σ (-1) (i + 4))) (s_sld dL_law_213 ⟨by omega, by omega⟩) (eS _) ?_
  refine pGo (s_aload_n3 dL_law_214 rfl) ?_
  refine pGo (s_iload_n dL_law_215 rfl) ?_
  refine pGo (s_iconst dL_law_216) ?_
  refine pGo (s_iadd dL_law_217) ?_
  refine pGoE (y := (rd σ (-1) (i + 5))) (s_sld dL_law_218 ⟨by omega, by omega⟩) (eS _) ?_
  refine p_callV (As := [(0, (rd σ (-1) (i + 1))), (0, (rd σ (-1) (i + 2))), (0, (rd σ (-1) (i + 3))), (0, (rd σ (-1) (i + 4))), (0, (rd σ (-1) (i + 5)))]) (st := [(0, v)]) (n := 5) (d' := 100) pc11 ok_X11_feed ml_law_17 im_X11_feed se_X11_feed dL_law_219 (ob_68 (Stat.le h.1 e1)) (pargs_of rfl) rfl (Nat.le_of_ble_eq_true rfl) (by omega) q1 (fun r2 τ2 e2 q2 w2 => ?_)
  obtain ⟨rfl, H⟩ := q2
  show pR mL_law d 222 [(3, 0), (2, 0), (2, 68), (0, i)] [(0, v), (0, v)] τ2 Q
  refine pGo (s_iceqT (tgt := 1233) dL_law_222 (by decide)) ?_
  exact k _ (e1.tr e2) H
set_option maxRecDepth 100000 in
theorem law_c_end {d n : Nat} {σ : pS} {i : Int} {Q : Option pV → pS → Prop} (hd : 101 ≤ d) (h : RB n σ) (hn : n < 512) (i0 : 0 ≤ i) (i7 : i + 7 ≤ rd σ (-2) 0) (s : ∀ j : Int, inR (rd σ (-1) j)) (k : ∀ υ, pLe σ υ → RB (n + 1) υ → pR mL_law d 1233 [(3, 0), (2, 0), (2, 68), (0, i)] [] υ Q) : pR mL_law d 227 [(3, 0), (2, 0), (2, 68), (0, i)] [] σ Q := by
  refine pGo (s_aload_n dL_law_227 rfl (by decide)) ?_
  refine pGo (s_aload_n3 dL_law_228 rfl) ?_
  refine pGo (s_iload_n dL_law_229 rfl) ?_
  refine pGo (s_iconst dL_law_230) ?_
  refine pGo (s_iadd dL_law_231) ?_
  refine pGo (s_sld dL_law_232 ⟨by omega, by omega⟩) ?_
  refine p_callV (As := [(0, (rd σ (-1) (i + 1)))]) (st := []) (n := 1) (d' := 100) pc10 ok_X10_end ml_law_18 im_X10_end se_X10_end dL_law_233 (ob_0 h.1) (pargs_of rfl) rfl (Nat.le_of_ble_eq_true rfl) (by omega) (op_end (Nat.le_refl 100) h hn (s _)) (fun r1 τ1 e1 q1 w1 => ?_)
  obtain ⟨v, rfl⟩ := w1
  have eL : rd τ1 (-2) 0 = rd σ (-2) 0 := e1.2.2.2 _ _ (by decide)
  have eS : ∀ j, rd τ1 (-1) j = rd σ (-1) j := fun j => e1.2.2.2 _ _ (by decide)
  show pR mL_law d 236 [(3, 0), (2, 0), (2, 68), (0, i)] [(0, v)] τ1 Q
  refine pGo (s_aload_n dL_law_236 rfl (by decide)) ?_
  refine pGo (s_aload_n3 dL_law_237 rfl) ?_
  refine pGo (s_iload_n dL_law_238 rfl) ?_
  refine pGo (s_iconst dL_law_239) ?_
  refine pGo (s_iadd dL_law_240) ?_
  refine pGoE (y := (rd σ (-1) (i + 1))) (s_sld dL_law_241 ⟨by omega, by omega⟩) (eS _) ?_
  refine p_callV (As := [(0, (rd σ (-1) (i + 1)))]) (st := [(0, v)]) (n := 1) (d' := 100) pc11 ok_X11_end ml_law_22 im_X11_end se_X11_end dL_law_242 (ob_68 (Stat.le h.1 e1)) (pargs_of rfl) rfl (Nat.le_of_ble_eq_true rfl) (by omega) q1 (fun r2 τ2 e2 q2 w2 => ?_)
  obtain ⟨rfl, H⟩ := q2
  show pR mL_law d 245 [(3, 0), (2, 0), (2, 68), (0, i)] [(0, v), (0, v)] τ2 Q
  refine pGo (s_iceqT (tgt := 1233) dL_law_245 (by decide)) ?_
  exact k _ (e1.tr e2) H
set_option maxRecDepth 100000 in
theorem law_c_mountain {d n : Nat} {σ : pS} {i : Int} {Q : Option pV → pS → Prop} (hd : 101 ≤ d) (h : RB n σ) (hn : n < 512) (i0 : 0 ≤ i) (i7 : i + 7 ≤ rd σ (-2) 0) (s : ∀ j : Int, inR (rd σ (-1) j)) (k : ∀ υ, pLe σ υ → RB (n + 1) υ → pR mL_law d 1233 [(3, 0), (2, 0), (2, 68), (0, i)] [] υ Q) : pR mL_law d 250 [(3, 0), (2, 0), (2, 68), (0, i)] [] σ Q := by
  refine pGo (s_aload_n dL_law_250 rfl (by decide)) ?_
  refine p_callV (As := []) (st := []) (n := 0) (d' := 100) pc10 ok_X10_mountain ml_law_23 im_X10_mountain se_X10_mountain dL_law_251 (ob_0 h.1) (pargs_of rfl) rfl (Nat.le_of_ble_eq_true rfl) (by omega) (op_mountain (Nat.le_refl 100) h hn) (fun r1 τ1 e1 q1 w1 => ?_)
  obtain ⟨v, rfl⟩ := w1
  show pR mL_law d 254 [(3, 0), (2, 0), (2, 68), (0, i)] [(0, v)] τ1 Q
  refine pGo (s_aload_n dL_law_254 rfl (by decide)) ?_
  refine p_callV (As := []) (st := [(0, v)]) (n := 0) (d' := 100) pc11 ok_X11_mountain ml_law_27 im_X11_mountain se_X11_mountain dL_law_255 (ob_68 (Stat.le h.1 e1)) (pargs_of rfl) rfl (Nat.le_of_ble_eq_true rfl) (by omega) q1 (fun r2 τ2 e2 q2 w2 => ?_)
  obtain ⟨rfl, H⟩ := q2
  show pR mL_law d 258 [(3, 0), (2, 0), (2, 68), (0, i)] [(0, v), (0, v)] τ2 Q
  refine pGo (s_iceqT (tgt := 1233) dL_law_258 (by decide)) ?_
  exact k _ (e1.tr e2) H
set_option maxRecDepth 100000 in
theorem law_c_law {d n : Nat} {σ : pS} {i : Int} {Q : Option pV → pS → Prop} (hd : 101 ≤ d) (h : RB n σ) (hn : n < 512) (i0 : 0 ≤ i) (i7 : i + 7 ≤ rd σ (-2) 0) (s : ∀ j : Int, inR (rd σ (-1) j)) (k : ∀ υ, pLe σ υ → RB (n + 1) υ → pR mL_law d 1233 [(3, 0), (2, 0), (2, 68), (0, i)] [] υ Q) : pR mL_law d 263 [(3, 0), (2, 0), (2, 68), (0, i)] [] σ Q := by
  refine pGo (s_aload_n dL_law_263 rfl (by decide)) ?_
  refine p_callV (As := []) (st := []) (n := 0) (d' := 100) pc10 ok_X10_law ml_law_28 im_X10_law se_X10_law dL_law_264 (ob_0 h.1) (pargs_of rfl) rfl (Nat.le_of_ble_eq_true rfl) (by omega) (op_law (Nat.le_refl 100) h hn) (fun r1 τ1 e1 q1 w1 => ?_)
  obtain ⟨v, rfl⟩ := w1
  show pR mL_law d 267 [(3, 0), (2, 0), (2, 68), (0, i)] [(0, v)] τ1 Q
  refine pGo (s_aload_n dL_law_267 rfl (by decide)) ?_
  refine p_callV (As := []) (st := [(0, v)]) (n := 0) (d' := 100) pc11 ok_X11_law ml_law_31 im_X11_law se_X11_law dL_law_268 (ob_68 (Stat.le h.1 e1)) (pargs_of rfl) rfl (Nat.le_of_ble_eq_true rfl) (by omega) q1 (fun r2 τ2 e2 q2 w2 => ?_)
  obtain ⟨rfl, H⟩ := q2
  show pR mL_law d 271 [(3, 0), (2, 0), (2, 68), (0, i)] [(0, v), (0, v)] τ2 Q
  refine pGo (s_iceqT (tgt := 1233) dL_law_271 (by decide)) ?_
  exact k _ (e1.tr e2) H
set_option maxRecDepth 100000 in
theorem law_c_fault {d n : Nat} {σ : pS} {i : Int} {Q : Option pV → pS → Prop} (hd : 101 ≤ d) (h : RB n σ) (hn : n < 512) (i0 : 0 ≤ i) (i7 : i + 7 ≤ rd σ (-2) 0) (s : ∀ j : Int, inR (rd σ (-1) j)) (k : ∀ υ, pLe σ υ → RB (n + 1) υ → pR mL_law d 1233 [(3, 0), (2, 0), (2, 68), (0, i)] [] υ Q) : pR mL_law d 276 [(3, 0), (2, 0), (2, 68), (0, i)] [] σ Q := by
  refine pGo (s_aload_n dL_law_276 rfl (by decide)) ?_
  refine pGo (s_aload_n3 dL_law_277 rfl) ?_
  refine pGo (s_iload_n dL_law_278 rfl) ?_
  refine pGo (s_iconst dL_law_279) ?_
  refine pGo (s_iadd dL_law_280) ?_
  refine pGo (s_sld dL_law_281 ⟨by omega, by omega⟩) ?_
  refine p_callV (As := [(0, (rd σ (-1) (i + 1)))]) (st := []) (n := 1) (d' := 100) pc10 ok_X10_fault ml_law_32 im_X10_fault se_X10_fault dL_law_282 (ob_0 h.1) (pargs_of rfl) rfl (Nat.le_of_ble_eq_true rfl) (by omega) (op_fault (Nat.le_refl 100) h hn (s _)) (fun r1 τ1 e1 q1 w1 => ?_)
  obtain ⟨v, rfl⟩ := w1
  have eL : rd τ1 (-2) 0 = rd σ (-2) 0 := e1.2.2.2 _ _ (by decide)
  have eS : ∀ j, rd τ1 (-1) j = rd σ (-1) j := fun j => e1.2.2.2 _ _ (by decide)
  show pR mL_law d 285 [(3, 0), (2, 0), (2, 68), (0, i)] [(0, v)] τ1 Q
  refine pGo (s_aload_n dL_law_285 rfl (by decide)) ?_
  refine pGo (s_aload_n3 dL_law_286 rfl) ?_
  refine pGo (s_iload_n dL_law_287 rfl) ?_
  refine pGo (s_iconst dL_law_288) ?_
  refine pGo (s_iadd dL_law_289) ?_
  refine pGoE (y := (rd σ (-1) (i + 1))) (s_sld dL_law_290 ⟨by omega, by omega⟩) (eS _) ?_
  refine p_callV (As := [(0, (rd σ (-1) (i + 1)))]) (st := [(0, v)]) (n := 1) (d' := 100) pc11 ok_X11_fault ml_law_35 im_X11_fault se_X11_fault dL_law_291 (ob_68 (Stat.le h.1 e1)) (pargs_of rfl) rfl (Nat.le_of_ble_eq_true rfl) (by omega) q1 (fun r2 τ2 e2 q2 w2 => ?_)
  obtain ⟨rfl, H⟩ := q2
  show pR mL_law d 294 [(3, 0), (2, 0), (2, 68), (0, i)] [(0, v), (0, v)] τ2 Q
  refine pGo (s_iceqT (tgt := 1233) dL_law_294 (by decide)) ?_
  exact k _ (e1.tr e2) H
set_option maxRecDepth 100000 in
theorem law_c_weather {d n : Nat} {σ : pS} {i : Int} {Q : Option pV → pS → Prop} (hd : 101 ≤ d) (h : RB n σ) (hn : n < 512) (i0 : 0 ≤ i) (i7 : i + 7 ≤ rd σ (-2) 0) (s : ∀ j : Int, inR (rd σ (-1) j)) (k : ∀ υ, pLe σ υ → RB (n + 1) υ → pR mL_law d 1233 [(3, 0), (2, 0), (2, 68), (0, i)] [] υ Q) : pR mL_law d 299 [(3, 0), (2, 0), (2, 68), (0, i)] [] σ Q := by
  refine pGo (s_aload_n dL_law_299 rfl (by decide)) ?_
  refine pGo (s_aload_n3 dL_law_300 rfl) ?_
  refine pGo (s_iload_n dL_law_301 rfl) ?_
  refine pGo (s_iconst dL_law_302) ?_
  refine pGo (s_iadd dL_law_303) ?_
  refine pGo (s_sld dL_law_304 ⟨by omega, by omega⟩) ?_
  refine pGo (s_aload_n3 dL_law_305 rfl) ?_
  refine pGo (s_iload_n dL_law_306 rfl) ?_
  refine pGo (s_iconst dL_law_307) ?_
  refine pGo (s_iadd dL_law_308) ?_
  refine pGo (s_sld dL_law_309 ⟨by omega, by omega⟩) ?_
  refine pGo (s_aload_n3 dL_law_310 rfl) ?_
  refine pGo (s_iload_n dL_law_311 rfl) ?_
  refine pGo (s_iconst dL_law_312) ?_
  refine pGo (s_iadd dL_law_313) ?_
  refine pGo (s_sld dL_law_314 ⟨by omega, by omega⟩) ?_
  refine p_callV (As := [(0, (rd σ (-1) (i + 1))), (0, (rd σ (-1) (i + 2))), (0, (rd σ (-1) (i + 3)))]) (st := []) (n := 3) (d' := 100) pc10 ok_X10_weather ml_law_36 im_X10_weather se_X10_weather dL_law_315 (ob_0 h.1) (pargs_of rfl) rfl (Nat.le_of_ble_eq_true rfl) (by omega) (op_weather (Nat.le_refl 100) h hn (s _) (s _) (s _)) (fun r1 τ1 e1 q1 w1 => ?_)
  obtain ⟨v, rfl⟩ := w1
  have eL : rd τ1 (-2) 0 = rd σ (-2) 0 := e1.2.2.2 _ _ (by decide)
  have eS : ∀ j, rd τ1 (-1) j = rd σ (-1) j := fun j => e1.2.2.2 _ _ (by decide)
  show pR mL_law d 318 [(3, 0), (2, 0), (2, 68), (0, i)] [(0, v)] τ1 Q
  refine pGo (s_aload_n dL_law_318 rfl (by decide)) ?_
  refine pGo (s_aload_n3 dL_law_319 rfl) ?_
  refine pGo (s_iload_n dL_law_320 rfl) ?_
  refine pGo (s_iconst dL_law_321) ?_
  refine pGo (s_iadd dL_law_322) ?_
  refine pGoE (y := (rd σ (-1) (i + 1))) (s_sld dL_law_323 ⟨by omega, by omega⟩) (eS _) ?_
  refine pGo (s_aload_n3 dL_law_324 rfl) ?_
  refine pGo (s_iload_n dL_law_325 rfl) ?_
  refine pGo (s_iconst dL_law_326) ?_
  refine pGo (s_iadd dL_law_327) ?_
  refine pGoE (y := (rd σ (-1) (i + 2))) (s_sld dL_law_328 ⟨by omega, by omega⟩) (eS _) ?_
  refine pGo (s_aload_n3 dL_law_329 rfl) ?_
  refine pGo (s_iload_n dL_law_330 rfl) ?_
  refine pGo (s_iconst dL_law_331) ?_
  refine pGo (s_iadd dL_law_332) ?_
  refine pGoE (y := (rd σ (-1) (i + 3))) (s_sld dL_law_333 ⟨by omega, by omega⟩) (eS _) ?_
  refine p_callV (As := [(0, (rd σ (-1) (i + 1))), (0, (rd σ (-1) (i + 2))), (0, (rd σ (-1) (i + 3)))]) (st := [(0, v)]) (n := 3) (d' := 100) pc11 ok_X11_weather ml_law_40 im_X11_weather se_X11_weather dL_law_334 (ob_68 (Stat.le h.1 e1)) (pargs_of rfl) rfl (Nat.le_of_ble_eq_true rfl) (by omega) q1 (fun r2 τ2 e2 q2 w2 => ?_)
  obtain ⟨rfl, H⟩ := q2
  show pR mL_law d 337 [(3, 0), (2, 0), (2, 68), (0, i)] [(0, v), (0, v)] τ2 Q
  refine pGo (s_iceqT (tgt := 1233) dL_law_337 (by decide)) ?_
  exact k _ (e1.tr e2) H
set_option maxRecDepth 100000 in
theorem law_c_untell {d n : Nat} {σ : pS} {i : Int} {Q : Option pV → pS → Prop} (hd : 101 ≤ d) (h : RB n σ) (hn : n < 512) (i0 : 0 ≤ i) (i7 : i + 7 ≤ rd σ (-2) 0) (s : ∀ j : Int, inR (rd σ (-1) j)) (k : ∀ υ, pLe σ υ → RB (n + 1) υ → pR mL_law d 1233 [(3, 0), (2, 0), (2, 68), (0, i)] [] υ Q) : pR mL_law d 342 [(3, 0), (2, 0), (2, 68), (0, i)] [] σ Q := by
  refine pGo (s_aload_n dL_law_342 rfl (by decide)) ?_
  refine pGo (s_aload_n3 dL_law_343 rfl) ?_
  refine pGo (s_iload_n dL_law_344 rfl) ?_
  refine pGo (s_iconst dL_law_345) ?_
  refine pGo (s_iadd dL_law_346) ?_
  refine pGo (s_sld dL_law_347 ⟨by omega, by omega⟩) ?_
  refine p_callV (As := [(0, (rd σ (-1) (i + 1)))]) (st := []) (n := 1) (d' := 100) pc10 ok_X10_untell ml_law_41 im_X10_untell se_X10_untell dL_law_348 (ob_0 h.1) (pargs_of rfl) rfl (Nat.le_of_ble_eq_true rfl) (by omega) (op_untell (Nat.le_refl 100) h hn (s _)) (fun r1 τ1 e1 q1 w1 => ?_)
  obtain ⟨v, rfl, -⟩ := pRok_z w1
  have eL : rd τ1 (-2) 0 = rd σ (-2) 0 := e1.2.2.2 _ _ (by decide)
  have eS : ∀ j, rd τ1 (-1) j = rd σ (-1) j := fun j => e1.2.2.2 _ _ (by decide)
  show pR mL_law d 351 [(3, 0), (2, 0), (2, 68), (0, i)] [(0, v)] τ1 Q
  refine pGo (s_aload_n dL_law_351 rfl (by decide)) ?_
  refine pGo (s_aload_n3 dL_law_352 rfl) ?_
  refine pGo (s_iload_n dL_law_353 rfl) ?_
  refine pGo (s_iconst dL_law_354) ?_
  refine pGo (s_iadd dL_law_355) ?_
  refine pGoE (y := (rd σ (-1) (i + 1))) (s_sld dL_law_356 ⟨by omega, by omega⟩) (eS _) ?_
  refine p_callV (As := [(0, (rd σ (-1) (i + 1)))]) (st := [(0, v)]) (n := 1) (d' := 100) pc11 ok_X11_untell ml_law_45 im_X11_untell se_X11_untell dL_law_357 (ob_68 (Stat.le h.1 e1)) (pargs_of rfl) rfl (Nat.le_of_ble_eq_true rfl) (by omega) q1 (fun r2 τ2 e2 q2 w2 => ?_)
  obtain ⟨rfl, H⟩ := q2
  show pR mL_law d 360 [(3, 0), (2, 0), (2, 68), (0, i)] [(0, v), (0, v)] τ2 Q
  refine pGo (s_iceqT (tgt := 1233) dL_law_360 (by decide)) ?_
  exact k _ (e1.tr e2) H
set_option maxRecDepth 100000 in
theorem law_c_later {d n : Nat} {σ : pS} {i : Int} {Q : Option pV → pS → Prop} (hd : 101 ≤ d) (h : RB n σ) (hn : n < 512) (i0 : 0 ≤ i) (i7 : i + 7 ≤ rd σ (-2) 0) (s : ∀ j : Int, inR (rd σ (-1) j)) (k : ∀ υ, pLe σ υ → RB (n + 1) υ → pR mL_law d 1233 [(3, 0), (2, 0), (2, 68), (0, i)] [] υ Q) : pR mL_law d 365 [(3, 0), (2, 0), (2, 68), (0, i)] [] σ Q := by
  refine pGo (s_aload_n dL_law_365 rfl (by decide)) ?_
  refine pGo (s_aload_n3 dL_law_366 rfl) ?_
  refine pGo (s_iload_n dL_law_367 rfl) ?_
  refine pGo (s_iconst dL_law_368) ?_
  refine pGo (s_iadd dL_law_369) ?_
  refine pGo (s_sld dL_law_370 ⟨by omega, by omega⟩) ?_
  refine p_callV (As := [(0, (rd σ (-1) (i + 1)))]) (st := []) (n := 1) (d' := 100) pc10 ok_X10_later ml_law_46 im_X10_later se_X10_later dL_law_371 (ob_0 h.1) (pargs_of rfl) rfl (Nat.le_of_ble_eq_true rfl) (by omega) (op_later (Nat.le_refl 100) h hn (s _)) (fun r1 τ1 e1 q1 w1 => ?_)
  obtain ⟨v, rfl⟩ := w1
  have eL : rd τ1 (-2) 0 = rd σ (-2) 0 := e1.2.2.2 _ _ (by decide)
  have eS : ∀ j, rd τ1 (-1) j = rd σ (-1) j := fun j => e1.2.2.2 _ _ (by decide)
  show pR mL_law d 374 [(3, 0), (2, 0), (2, 68), (0, i)] [(0, v)] τ1 Q
  refine pGo (s_aload_n dL_law_374 rfl (by decide)) ?_
  refine pGo (s_aload_n3 dL_law_375 rfl) ?_
  refine pGo (s_iload_n dL_law_376 rfl) ?_
  refine pGo (s_iconst dL_law_377) ?_
  refine pGo (s_iadd dL_law_378) ?_
  refine pGoE (y := (rd σ (-1) (i + 1))) (s_sld dL_law_379 ⟨by omega, by omega⟩) (eS _) ?_
  refine p_callV (As := [(0, (rd σ (-1) (i + 1)))]) (st := [(0, v)]) (n := 1) (d' := 100) pc11 ok_X11_later ml_law_49 im_X11_later se_X11_later dL_law_380 (ob_68 (Stat.le h.1 e1)) (pargs_of rfl) rfl (Nat.le_of_ble_eq_true rfl) (by omega) q1 (fun r2 τ2 e2 q2 w2 => ?_)
  obtain ⟨rfl, H⟩ := q2
  show pR mL_law d 383 [(3, 0), (2, 0), (2, 68), (0, i)] [(0, v), (0, v)] τ2 Q
  refine pGo (s_iceqT (tgt := 1233) dL_law_383 (by decide)) ?_
  exact k _ (e1.tr e2) H
set_option maxRecDepth 100000 in
theorem law_c_air {d n : Nat} {σ : pS} {i : Int} {Q : Option pV → pS → Prop} (hd : 101 ≤ d) (h : RB n σ) (hn : n < 512) (i0 : 0 ≤ i) (i7 : i + 7 ≤ rd σ (-2) 0) (s : ∀ j : Int, inR (rd σ (-1) j)) (k : ∀ υ, pLe σ υ → RB (n + 1) υ → pR mL_law d 1233 [(3, 0), (2, 0), (2, 68), (0, i)] [] υ Q) : pR mL_law d 388 [(3, 0), (2, 0), (2, 68), (0, i)] [] σ Q := by
  refine pGo (s_aload_n dL_law_388 rfl (by decide)) ?_
  refine pGo (s_aload_n3 dL_law_389 rfl) ?_
  refine pGo (s_iload_n dL_law_390 rfl) ?_
  refine pGo (s_iconst dL_law_391) ?_
  refine pGo (s_iadd dL_law_392) ?_
  refine pGo (s_sld dL_law_393 ⟨by omega, by omega⟩) ?_
  refine pGo (s_aload_n3 dL_law_394 rfl) ?_
  refine pGo (s_iload_n dL_law_395 rfl) ?_
  refine pGo (s_iconst dL_law_396) ?_
  refine pGo (s_iadd dL_law_397) ?_
  refine pGo (s_sld dL_law_398 ⟨by omega, by omega⟩) ?_
  refine pGo (s_aload_n3 dL_law_399 rfl) ?_
  refine pGo (s_iload_n dL_law_400 rfl) ?_
  refine pGo (s_iconst dL_law_401) ?_
  refine pGo (s_iadd dL_law_402) ?_
  refine pGo (s_sld dL_law_403 ⟨by omega, by omega⟩) ?_
  refine p_callV (As := [(0, (rd σ (-1) (i + 1))), (0, (rd σ (-1) (i + 2))), (0, (rd σ (-1) (i + 3)))]) (st := []) (n := 3) (d' := 100) pc10 ok_X10_air ml_law_50 im_X10_air se_X10_air dL_law_404 (ob_0 h.1) (pargs_of rfl) rfl (Nat.le_of_ble_eq_true rfl) (by omega) (op_air (Nat.le_refl 100) h hn (s _) (s _) (s _)) (fun r1 τ1 e1 q1 w1 => ?_)
  obtain ⟨v, rfl⟩ := w1
  have eL : rd τ1 (-2) 0 = rd σ (-2) 0 := e1.2.2.2 _ _ (by decide)
  have eS : ∀ j, rd τ1 (-1) j = rd σ (-1) j := fun j => e1.2.2.2 _ _ (by decide)
  show pR mL_law d 407 [(3, 0), (2, 0), (2, 68), (0, i)] [(0, v)] τ1 Q
  refine pGo (s_aload_n dL_law_407 rfl (by decide)) ?_
  refine pGo (s_aload_n3 dL_law_408 rfl) ?_
  refine pGo (s_iload_n dL_law_409 rfl) ?_
  refine pGo (s_iconst dL_law_410) ?_
  refine pGo (s_iadd dL_law_411) ?_
  refine pGoE (y := (rd σ (-1) (i + 1))) (s_sld dL_law_412 ⟨by omega, by omega⟩) (eS _) ?_
  refine pGo (s_aload_n3 dL_law_413 rfl) ?_
  refine pGo (s_iload_n dL_law_414 rfl) ?_
  refine pGo (s_iconst dL_law_415) ?_
  refine pGo (s_iadd dL_law_416) ?_
  refine pGoE (y := (rd σ (-1) (i + 2))) (s_sld dL_law_417 ⟨by omega, by omega⟩) (eS _) ?_
  refine pGo (s_aload_n3 dL_law_418 rfl) ?_
  refine pGo (s_iload_n dL_law_419 rfl) ?_
  refine pGo (s_iconst dL_law_420) ?_
  refine pGo (s_iadd dL_law_421) ?_
  refine pGoE (y := (rd σ (-1) (i + 3))) (s_sld dL_law_422 ⟨by omega, by omega⟩) (eS _) ?_
  refine p_callV (As := [(0, (rd σ (-1) (i + 1))), (0, (rd σ (-1) (i + 2))), (0, (rd σ (-1) (i + 3)))]) (st := [(0, v)]) (n := 3) (d' := 100) pc11 ok_X11_air ml_law_53 im_X11_air se_X11_air dL_law_423 (ob_68 (Stat.le h.1 e1)) (pargs_of rfl) rfl (Nat.le_of_ble_eq_true rfl) (by omega) q1 (fun r2 τ2 e2 q2 w2 => ?_)
  obtain ⟨rfl, H⟩ := q2
  show pR mL_law d 426 [(3, 0), (2, 0), (2, 68), (0, i)] [(0, v), (0, v)] τ2 Q
  refine pGo (s_iceqT (tgt := 1233) dL_law_426 (by decide)) ?_
  exact k _ (e1.tr e2) H
set_option maxRecDepth 100000 in
theorem law_c_open {d n : Nat} {σ : pS} {i : Int} {Q : Option pV → pS → Prop} (hd : 101 ≤ d) (h : RB n σ) (hn : n < 512) (i0 : 0 ≤ i) (i7 : i + 7 ≤ rd σ (-2) 0) (s : ∀ j : Int, inR (rd σ (-1) j)) (k : ∀ υ, pLe σ υ → RB (n + 1) υ → pR mL_law d 1233 [(3, 0), (2, 0), (2, 68), (0, i)] [] υ Q) : pR mL_law d 431 [(3, 0), (2, 0), (2, 68), (0, i)] [] σ Q := by
  refine pGo (s_aload_n dL_law_431 rfl (by decide)) ?_
  refine pGo (s_aload_n3 dL_law_432 rfl) ?_
  refine pGo (s_iload_n dL_law_433 rfl) ?_
  refine pGo (s_iconst dL_law_434) ?_
  refine pGo (s_iadd dL_law_435) ?_
  refine pGo (s_sld dL_law_436 ⟨by omega, by omega⟩) ?_
  refine pGo (s_aload_n3 dL_law_437 rfl) ?_
  refine pGo (s_iload_n dL_law_438 rfl) ?_
  refine pGo (s_iconst dL_law_439) ?_
  refine pGo (s_iadd dL_law_440) ?_
  refine pGo (s_sld dL_law_441 ⟨by omega, by omega⟩) ?_
  refine pGo (s_aload_n3 dL_law_442 rfl) ?_
  refine pGo (s_iload_n dL_law_443 rfl) ?_
  refine pGo (s_iconst dL_law_444) ?_
  refine pGo (s_iadd dL_law_445) ?_
  refine pGo (s_sld dL_law_446 ⟨by omega, by omega⟩) ?_
  refine p_callV (As := [(0, (rd σ (-1) (i + 1))), (0, (rd σ (-1) (i + 2))), (0, (rd σ (-1) (i + 3)))]) (st := []) (n := 3) (d' := 100) pc10 ok_X10_open ml_law_54 im_X10_open se_X10_open dL_law_447 (ob_0 h.1) (pargs_of rfl) rfl (Nat.le_of_ble_eq_true rfl) (by omega) (op_open (Nat.le_refl 100) h hn (s _) (s _) (s _)) (fun r1 τ1 e1 q1 w1 => ?_)
  obtain ⟨v, rfl⟩ := w1
  have eL : rd τ1 (-2) 0 = rd σ (-2) 0 := e1.2.2.2 _ _ (by decide)
  have eS : ∀ j, rd τ1 (-1) j = rd σ (-1) j := fun j => e1.2.2.2 _ _ (by decide)
  show pR mL_law d 450 [(3, 0), (2, 0), (2, 68), (0, i)] [(0, v)] τ1 Q
  refine pGo (s_aload_n dL_law_450 rfl (by decide)) ?_
  refine pGo (s_aload_n3 dL_law_451 rfl) ?_
  refine pGo (s_iload_n dL_law_452 rfl) ?_
  refine pGo (s_iconst dL_law_453) ?_
  refine pGo (s_iadd dL_law_454) ?_
  refine pGoE (y := (rd σ (-1) (i + 1))) (s_sld dL_law_455 ⟨by omega, by omega⟩) (eS _) ?_
  refine pGo (s_aload_n3 dL_law_456 rfl) ?_
  refine pGo (s_iload_n dL_law_457 rfl) ?_
  refine pGo (s_iconst dL_law_458) ?_
  refine pGo (s_iadd dL_law_459) ?_
  refine pGoE (y := (rd σ (-1) (i + 2))) (s_sld dL_law_460 ⟨by omega, by omega⟩) (eS _) ?_
  refine pGo (s_aload_n3 dL_law_461 rfl) ?_
  refine pGo (s_iload_n dL_law_462 rfl) ?_
  refine pGo (s_iconst dL_law_463) ?_
  refine pGo (s_iadd dL_law_464) ?_
  refine pGoE (y := (rd σ (-1) (i + 3))) (s_sld dL_law_465 ⟨by omega, by omega⟩) (eS _) ?_
  refine p_callV (As := [(0, (rd σ (-1) (i + 1))), (0, (rd σ (-1) (i + 2))), (0, (rd σ (-1) (i + 3)))]) (st := [(0, v)]) (n := 3) (d' := 100) pc11 ok_X11_open ml_law_57 im_X11_open se_X11_open dL_law_466 (ob_68 (Stat.le h.1 e1)) (pargs_of rfl) rfl (Nat.le_of_ble_eq_true rfl) (by omega) q1 (fun r2 τ2 e2 q2 w2 => ?_)
  obtain ⟨rfl, H⟩ := q2
  show pR mL_law d 469 [(3, 0), (2, 0), (2, 68), (0, i)] [(0, v), (0, v)] τ2 Q
  refine pGo (s_iceqT (tgt := 1233) dL_law_469 (by decide)) ?_
  exact k _ (e1.tr e2) H
set_option maxRecDepth 100000 in
theorem law_c_soonest {d n : Nat} {σ : pS} {i : Int} {Q : Option pV → pS → Prop} (hd : 101 ≤ d) (h : RB n σ) (hn : n < 512) (i0 : 0 ≤ i) (i7 : i + 7 ≤ rd σ (-2) 0) (s : ∀ j : Int, inR (rd σ (-1) j)) (k : ∀ υ, pLe σ υ → RB (n + 1) υ → pR mL_law d 1233 [(3, 0), (2, 0), (2, 68), (0, i)] [] υ Q) : pR mL_law d 474 [(3, 0), (2, 0), (2, 68), (0, i)] [] σ Q := by
  refine pGo (s_aload_n dL_law_474 rfl (by decide)) ?_
  refine pGo (s_aload_n3 dL_law_475 rfl) ?_
  refine pGo (s_iload_n dL_law_476 rfl) ?_
  refine pGo (s_iconst dL_law_477) ?_
  refine pGo (s_iadd dL_law_478) ?_
  refine pGo (s_sld dL_law_479 ⟨by omega, by omega⟩) ?_
  refine pGo (s_aload_n3 dL_law_480 rfl) ?_
  refine pGo (s_iload_n dL_law_481 rfl) ?_
  refine pGo (s_iconst dL_law_482) ?_
  refine pGo (s_iadd dL_law_483) ?_
  refine pGo (s_sld dL_law_484 ⟨by omega, by omega⟩) ?_
  refine pGo (s_aload_n3 dL_law_485 rfl) ?_
  refine pGo (s_iload_n dL_law_486 rfl) ?_
  refine pGo (s_iconst dL_law_487) ?_
  refine pGo (s_iadd dL_law_488) ?_
  refine pGo (s_sld dL_law_489 ⟨by omega, by omega⟩) ?_
  refine pGo (s_aload_n3 dL_law_490 rfl) ?_
  refine pGo (s_iload_n dL_law_491 rfl) ?_
  refine pGo (s_iconst dL_law_492) ?_
  refine pGo (s_iadd dL_law_493) ?_
  refine pGo (s_sld dL_law_494 ⟨by omega, by omega⟩) ?_
  refine pGo (s_aload_n3 dL_law_495 rfl) ?_
  refine pGo (s_iload_n dL_law_496 rfl) ?_
  refine pGo (s_iconst dL_law_497) ?_
  refine pGo (s_iadd dL_law_498) ?_
  refine pGo (s_sld dL_law_499 ⟨by omega, by omega⟩) ?_
  refine p_callV (As := [(0, (rd σ (-1) (i + 1))), (0, (rd σ (-1) (i + 2))), (0, (rd σ (-1) (i + 3))), (0, (rd σ (-1) (i + 4))), (0, (rd σ (-1) (i + 5)))]) (st := []) (n := 5) (d' := 100) pc10 ok_X10_soonest ml_law_58 im_X10_soonest se_X10_soonest dL_law_500 (ob_0 h.1) (pargs_of rfl) rfl (Nat.le_of_ble_eq_true rfl) (by omega) (op_soonest (Nat.le_refl 100) h hn (s _) (s _) (s _) (s _) (s _)) (fun r1 τ1 e1 q1 w1 => ?_)
  obtain ⟨v, rfl⟩ := w1
  have eL : rd τ1 (-2) 0 = rd σ (-2) 0 := e1.2.2.2 _ _ (by decide)
  have eS : ∀ j, rd τ1 (-1) j = rd σ (-1) j := fun j => e1.2.2.2 _ _ (by decide)
  show pR mL_law d 503 [(3, 0), (2, 0), (2, 68), (0, i)] [(0, v)] τ1 Q
  refine pGo (s_aload_n dL_law_503 rfl (by decide)) ?_
  refine pGo (s_aload_n3 dL_law_504 rfl) ?_
  refine pGo (s_iload_n dL_law_505 rfl) ?_
  refine pGo (s_iconst dL_law_506) ?_
  refine pGo (s_iadd dL_law_507) ?_
  refine pGoE (y := (rd σ (-1) (i + 1))) (s_sld dL_law_508 ⟨by omega, by omega⟩) (eS _) ?_
  refine pGo (s_aload_n3 dL_law_509 rfl) ?_
  refine pGo (s_iload_n dL_law_510 rfl) ?_
  refine pGo (s_iconst dL_law_511) ?_
  refine pGo (s_iadd dL_law_512) ?_
  refine pGoE (y := (rd σ (-1) (i + 2))) (s_sld dL_law_513 ⟨by omega, by omega⟩) (eS _) ?_
  refine pGo (s_aload_n3 dL_law_514 rfl) ?_
  refine pGo (s_iload_n dL_law_515 rfl) ?_
  refine pGo (s_iconst dL_law_516) ?_
  refine pGo (s_iadd dL_law_517) ?_
  refine pGoE (y := (rd σ (-1) (i + 3))) (s_sld dL_law_518 ⟨by omega, by omega⟩) (eS _) ?_
  refine pGo (s_aload_n3 dL_law_519 rfl) ?_
  refine pGo (s_iload_n dL_law_520 rfl) ?_
  refine pGo (s_iconst dL_law_521) ?_
  refine pGo (s_iadd dL_law_522) ?_
  refine pGoE (y := (rd σ (-1) (i + 4))) (s_sld dL_law_523 ⟨by omega, by omega⟩) (eS _) ?_
  refine pGo (s_aload_n3 dL_law_524 rfl) ?_
  refine pGo (s_iload_n dL_law_525 rfl) ?_
  refine pGo (s_iconst dL_law_526) ?_
  refine pGo (s_iadd dL_law_527) ?_
  refine pGoE (y := (rd σ (-1) (i + 5))) (s_sld dL_law_528 ⟨by omega, by omega⟩) (eS _) ?_
  refine p_callV (As := [(0, (rd σ (-1) (i + 1))), (0, (rd σ (-1) (i + 2))), (0, (rd σ (-1) (i + 3))), (0, (rd σ (-1) (i + 4))), (0, (rd σ (-1) (i + 5)))]) (st := [(0, v)]) (n := 5) (d' := 100) pc11 ok_X11_soonest ml_law_61 im_X11_soonest se_X11_soonest dL_law_529 (ob_68 (Stat.le h.1 e1)) (pargs_of rfl) rfl (Nat.le_of_ble_eq_true rfl) (by omega) q1 (fun r2 τ2 e2 q2 w2 => ?_)
  obtain ⟨rfl, H⟩ := q2
  show pR mL_law d 532 [(3, 0), (2, 0), (2, 68), (0, i)] [(0, v), (0, v)] τ2 Q
  refine pGo (s_iceqT (tgt := 1233) dL_law_532 (by decide)) ?_
  exact k _ (e1.tr e2) H
set_option maxRecDepth 100000 in
theorem law_c_way {d n : Nat} {σ : pS} {i : Int} {Q : Option pV → pS → Prop} (hd : 101 ≤ d) (h : RB n σ) (hn : n < 512) (i0 : 0 ≤ i) (i7 : i + 7 ≤ rd σ (-2) 0) (s : ∀ j : Int, inR (rd σ (-1) j)) (k : ∀ υ, pLe σ υ → RB (n + 1) υ → pR mL_law d 1233 [(3, 0), (2, 0), (2, 68), (0, i)] [] υ Q) : pR mL_law d 537 [(3, 0), (2, 0), (2, 68), (0, i)] [] σ Q := by
  refine pGo (s_aload_n dL_law_537 rfl (by decide)) ?_
  refine pGo (s_aload_n3 dL_law_538 rfl) ?_
  refine pGo (s_iload_n dL_law_539 rfl) ?_
  refine pGo (s_iconst dL_law_540) ?_
  refine pGo (s_iadd dL_law_541) ?_
  refine pGo (s_sld dL_law_542 ⟨by omega, by omega⟩) ?_
  refine pGo (s_aload_n3 dL_law_543 rfl) ?_
  refine pGo (s_iload_n dL_law_544 rfl) ?_
  refine pGo (s_iconst dL_law_545) ?_
  refine pGo (s_iadd dL_law_546) ?_
  refine pGo (s_sld dL_law_547 ⟨by omega, by omega⟩) ?_
  refine pGo (s_aload_n3 dL_law_548 rfl) ?_
  refine pGo (s_iload_n dL_law_549 rfl) ?_
  refine pGo (s_iconst dL_law_550) ?_
  refine pGo (s_iadd dL_law_551) ?_
  refine pGo (s_sld dL_law_552 ⟨by omega, by omega⟩) ?_
  refine pGo (s_aload_n3 dL_law_553 rfl) ?_
  refine pGo (s_iload_n dL_law_554 rfl) ?_
  refine pGo (s_iconst dL_law_555) ?_
  refine pGo (s_iadd dL_law_556) ?_
  refine pGo (s_sld dL_law_557 ⟨by omega, by omega⟩) ?_
  refine pGo (s_aload_n3 dL_law_558 rfl) ?_
  refine pGo (s_iload_n dL_law_559 rfl) ?_
  refine pGo (s_iconst dL_law_560) ?_
  refine pGo (s_iadd dL_law_561) ?_
  refine pGo (s_sld dL_law_562 ⟨by omega, by omega⟩) ?_
  refine pGo (s_aload_n3 dL_law_563 rfl) ?_
  refine pGo (s_iload_n dL_law_564 rfl) ?_
  refine pGo (s_bipush dL_law_565 (by decide)) ?_
  refine pGo (s_iadd dL_law_567) ?_
  refine pGo (s_sld dL_law_568 ⟨by omega, by omega⟩) ?_
  refine p_callV (As := [(0, (rd σ (-1) (i + 1))), (0, (rd σ (-1) (i + 2))), (0, (rd σ (-1) (i + 3))), (0, (rd σ (-1) (i + 4))), (0, (rd σ (-1) (i + 5))), (0, (rd σ (-1) (i + 6)))]) (st := []) (n := 6) (d' := 100) pc10 ok_X10_way ml_law_62 im_X10_way se_X10_way dL_law_569 (ob_0 h.1) (pargs_of rfl) rfl (Nat.le_of_ble_eq_true rfl) (by omega) (op_way (Nat.le_refl 100) h hn (s _) (s _) (s _) (s _) (s _) (s _)) (fun r1 τ1 e1 q1 w1 => ?_)
  obtain ⟨v, rfl⟩ := w1
  have eL : rd τ1 (-2) 0 = rd σ (-2) 0 := e1.2.2.2 _ _ (by decide)
  have eS : ∀ j, rd τ1 (-1) j = rd σ (-1) j := fun j => e1.2.2.2 _ _ (by decide)
  show pR mL_law d 572 [(3, 0), (2, 0), (2, 68), (0, i)] [(0, v)] τ1 Q
  refine pGo (s_aload_n dL_law_572 rfl (by decide)) ?_
  refine pGo (s_aload_n3 dL_law_573 rfl) ?_
  refine pGo (s_iload_n dL_law_574 rfl) ?_
  refine pGo (s_iconst dL_law_575) ?_
  refine pGo (s_iadd dL_law_576) ?_
  refine pGoE (y := (rd σ (-1) (i + 1))) (s_sld dL_law_577 ⟨by omega, by omega⟩) (eS _) ?_
  refine pGo (s_aload_n3 dL_law_578 rfl) ?_
  refine pGo (s_iload_n dL_law_579 rfl) ?_
  refine pGo (s_iconst dL_law_580) ?_
  refine pGo (s_iadd dL_law_581) ?_
  refine pGoE (y := (rd σ (-1) (i + 2))) (s_sld dL_law_582 ⟨by omega, by omega⟩) (eS _) ?_
  refine pGo (s_aload_n3 dL_law_583 rfl) ?_
  refine pGo (s_iload_n dL_law_584 rfl) ?_
  refine pGo (s_iconst dL_law_585) ?_
  refine pGo (s_iadd dL_law_586) ?_
  refine pGoE (y := (rd σ (-1) (i + 3))) (s_sld dL_law_587 ⟨by omega, by omega⟩) (eS _) ?_
  refine pGo (s_aload_n3 dL_law_588 rfl) ?_
  refine pGo (s_iload_n dL_law_589 rfl) ?_
  refine pGo (s_iconst dL_law_590) ?_
  refine pGo (s_iadd dL_law_591) ?_
  refine pGoE (y := (rd σ (-1) (i + 4))) (s_sld dL_law_592 ⟨by omega, by omega⟩) (eS _) ?_
  refine pGo (s_aload_n3 dL_law_593 rfl) ?_
  refine pGo (s_iload_n dL_law_594 rfl) ?_
  refine pGo (s_iconst dL_law_595) ?_
  refine pGo (s_iadd dL_law_596) ?_
  refine pGoE (y := (rd σ (-1) (i + 5))) (s_sld dL_law_597 ⟨by omega, by omega⟩) (eS _) ?_
  refine pGo (s_aload_n3 dL_law_598 rfl) ?_
  refine pGo (s_iload_n dL_law_599 rfl) ?_
  refine pGo (s_bipush dL_law_600 (by decide)) ?_
  refine pGo (s_iadd dL_law_602) ?_
  refine pGoE (y := (rd σ (-1) (i + 6))) (s_sld dL_law_603 ⟨by omega, by omega⟩) (eS _) ?_
  refine p_callV (As := [(0, (rd σ (-1) (i + 1))), (0, (rd σ (-1) (i + 2))), (0, (rd σ (-1) (i + 3))), (0, (rd σ (-1) (i + 4))), (0, (rd σ (-1) (i + 5))), (0, (rd σ (-1) (i + 6)))]) (st := [(0, v)]) (n := 6) (d' := 100) pc11 ok_X11_way ml_law_66 im_X11_way se_X11_way dL_law_604 (ob_68 (Stat.le h.1 e1)) (pargs_of rfl) rfl (Nat.le_of_ble_eq_true rfl) (by omega) q1 (fun r2 τ2 e2 q2 w2 => ?_)
  obtain ⟨rfl, H⟩ := q2
  show pR mL_law d 607 [(3, 0), (2, 0), (2, 68), (0, i)] [(0, v), (0, v)] τ2 Q
  refine pGo (s_iceqT (tgt := 1233) dL_law_607 (by decide)) ?_
  exact k _ (e1.tr e2) H
set_option maxRecDepth 100000 in
theorem law_c_last {d n : Nat} {σ : pS} {i : Int} {Q : Option pV → pS → Prop} (hd : 101 ≤ d) (h : RB n σ) (hn : n < 512) (i0 : 0 ≤ i) (i7 : i + 7 ≤ rd σ (-2) 0) (s : ∀ j : Int, inR (rd σ (-1) j)) (k : ∀ υ, pLe σ υ → RB (n + 1) υ → pR mL_law d 1233 [(3, 0), (2, 0), (2, 68), (0, i)] [] υ Q) : pR mL_law d 612 [(3, 0), (2, 0), (2, 68), (0, i)] [] σ Q := by
  refine pGo (s_aload_n dL_law_612 rfl (by decide)) ?_
  refine pGo (s_aload_n3 dL_law_613 rfl) ?_
  refine pGo (s_iload_n dL_law_614 rfl) ?_
  refine pGo (s_iconst dL_law_615) ?_
  refine pGo (s_iadd dL_law_616) ?_
  refine pGo (s_sld dL_law_617 ⟨by omega, by omega⟩) ?_
  refine pGo (s_aload_n3 dL_law_618 rfl) ?_
  refine pGo (s_iload_n dL_law_619 rfl) ?_
  refine pGo (s_iconst dL_law_620) ?_
  refine pGo (s_iadd dL_law_621) ?_
  refine pGo (s_sld dL_law_622 ⟨by omega, by omega⟩) ?_
  refine pGo (s_aload_n3 dL_law_623 rfl) ?_
  refine pGo (s_iload_n dL_law_624 rfl) ?_
  refine pGo (s_iconst dL_law_625) ?_
  refine pGo (s_iadd dL_law_626) ?_
  refine pGo (s_sld dL_law_627 ⟨by omega, by omega⟩) ?_
  refine p_callV (As := [(0, (rd σ (-1) (i + 1))), (0, (rd σ (-1) (i + 2))), (0, (rd σ (-1) (i + 3)))]) (st := []) (n := 3) (d' := 100) pc10 ok_X10_last ml_law_67 im_X10_last se_X10_last dL_law_628 (ob_0 h.1) (pargs_of rfl) rfl (Nat.le_of_ble_eq_true rfl) (by omega) (op_last (Nat.le_refl 100) h hn (s _) (s _) (s _)) (fun r1 τ1 e1 q1 w1 => ?_)
  obtain ⟨v, rfl⟩ := w1
  have eL : rd τ1 (-2) 0 = rd σ (-2) 0 := e1.2.2.2 _ _ (by decide)
  have eS : ∀ j, rd τ1 (-1) j = rd σ (-1) j := fun j => e1.2.2.2 _ _ (by decide)
  show pR mL_law d 631 [(3, 0), (2, 0), (2, 68), (0, i)] [(0, v)] τ1 Q
  refine pGo (s_aload_n dL_law_631 rfl (by decide)) ?_
  refine pGo (s_aload_n3 dL_law_632 rfl) ?_
  refine pGo (s_iload_n dL_law_633 rfl) ?_
  refine pGo (s_iconst dL_law_634) ?_
  refine pGo (s_iadd dL_law_635) ?_
  refine pGoE (y := (rd σ (-1) (i + 1))) (s_sld dL_law_636 ⟨by omega, by omega⟩) (eS _) ?_
  refine pGo (s_aload_n3 dL_law_637 rfl) ?_
  refine pGo (s_iload_n dL_law_638 rfl) ?_
  refine pGo (s_iconst dL_law_639) ?_
  refine pGo (s_iadd dL_law_640) ?_
  refine pGoE (y := (rd σ (-1) (i + 2))) (s_sld dL_law_641 ⟨by omega, by omega⟩) (eS _) ?_
  refine pGo (s_aload_n3 dL_law_642 rfl) ?_
  refine pGo (s_iload_n dL_law_643 rfl) ?_
  refine pGo (s_iconst dL_law_644) ?_
  refine pGo (s_iadd dL_law_645) ?_
  refine pGoE (y := (rd σ (-1) (i + 3))) (s_sld dL_law_646 ⟨by omega, by omega⟩) (eS _) ?_
  refine p_callV (As := [(0, (rd σ (-1) (i + 1))), (0, (rd σ (-1) (i + 2))), (0, (rd σ (-1) (i + 3)))]) (st := [(0, v)]) (n := 3) (d' := 100) pc11 ok_X11_last ml_law_70 im_X11_last se_X11_last dL_law_647 (ob_68 (Stat.le h.1 e1)) (pargs_of rfl) rfl (Nat.le_of_ble_eq_true rfl) (by omega) q1 (fun r2 τ2 e2 q2 w2 => ?_)
  obtain ⟨rfl, H⟩ := q2
  show pR mL_law d 650 [(3, 0), (2, 0), (2, 68), (0, i)] [(0, v), (0, v)] τ2 Q
  refine pGo (s_iceqT (tgt := 1233) dL_law_650 (by decide)) ?_
  exact k _ (e1.tr e2) H
set_option maxRecDepth 100000 in
theorem law_c_skier {d n : Nat} {σ : pS} {i : Int} {Q : Option pV → pS → Prop} (hd : 101 ≤ d) (h : RB n σ) (hn : n < 512) (i0 : 0 ≤ i) (i7 : i + 7 ≤ rd σ (-2) 0) (s : ∀ j : Int, inR (rd σ (-1) j)) (k : ∀ υ, pLe σ υ → RB (n + 1) υ → pR mL_law d 1233 [(3, 0), (2, 0), (2, 68), (0, i)] [] υ Q) : pR mL_law d 655 [(3, 0), (2, 0), (2, 68), (0, i)] [] σ Q := by
  refine pGo (s_aload_n dL_law_655 rfl (by decide)) ?_
  refine pGo (s_aload_n3 dL_law_656 rfl) ?_
  refine pGo (s_iload_n dL_law_657 rfl) ?_
  refine pGo (s_iconst dL_law_658) ?_
  refine pGo (s_iadd dL_law_659) ?_
  refine pGo (s_sld dL_law_660 ⟨by omega, by omega⟩) ?_
  refine p_callV (As := [(0, (rd σ (-1) (i + 1)))]) (st := []) (n := 1) (d' := 100) pc10 ok_X10_skier ml_law_71 im_X10_skier se_X10_skier dL_law_661 (ob_0 h.1) (pargs_of rfl) rfl (Nat.le_of_ble_eq_true rfl) (by omega) (op_skier (Nat.le_refl 100) h hn (s _)) (fun r1 τ1 e1 q1 w1 => ?_)
  obtain ⟨v, rfl⟩ := w1
  have eL : rd τ1 (-2) 0 = rd σ (-2) 0 := e1.2.2.2 _ _ (by decide)
  have eS : ∀ j, rd τ1 (-1) j = rd σ (-1) j := fun j => e1.2.2.2 _ _ (by decide)
  show pR mL_law d 664 [(3, 0), (2, 0), (2, 68), (0, i)] [(0, v)] τ1 Q
  refine pGo (s_aload_n dL_law_664 rfl (by decide)) ?_
  refine pGo (s_aload_n3 dL_law_665 rfl) ?_
  refine pGo (s_iload_n dL_law_666 rfl) ?_
  refine pGo (s_iconst dL_law_667) ?_
  refine pGo (s_iadd dL_law_668) ?_
  refine pGoE (y := (rd σ (-1) (i + 1))) (s_sld dL_law_669 ⟨by omega, by omega⟩) (eS _) ?_
  refine p_callV (As := [(0, (rd σ (-1) (i + 1)))]) (st := [(0, v)]) (n := 1) (d' := 100) pc11 ok_X11_skier ml_law_74 im_X11_skier se_X11_skier dL_law_670 (ob_68 (Stat.le h.1 e1)) (pargs_of rfl) rfl (Nat.le_of_ble_eq_true rfl) (by omega) q1 (fun r2 τ2 e2 q2 w2 => ?_)
  obtain ⟨rfl, H⟩ := q2
  show pR mL_law d 673 [(3, 0), (2, 0), (2, 68), (0, i)] [(0, v), (0, v)] τ2 Q
  refine pGo (s_iceqT (tgt := 1233) dL_law_673 (by decide)) ?_
  exact k _ (e1.tr e2) H
set_option maxRecDepth 100000 in
theorem law_c_pass {d n : Nat} {σ : pS} {i : Int} {Q : Option pV → pS → Prop} (hd : 101 ≤ d) (h : RB n σ) (hn : n < 512) (i0 : 0 ≤ i) (i7 : i + 7 ≤ rd σ (-2) 0) (s : ∀ j : Int, inR (rd σ (-1) j)) (k : ∀ υ, pLe σ υ → RB (n + 1) υ → pR mL_law d 1233 [(3, 0), (2, 0), (2, 68), (0, i)] [] υ Q) : pR mL_law d 678 [(3, 0), (2, 0), (2, 68), (0, i)] [] σ Q := by
  refine pGo (s_aload_n dL_law_678 rfl (by decide)) ?_
  refine pGo (s_aload_n3 dL_law_679 rfl) ?_
  refine pGo (s_iload_n dL_law_680 rfl) ?_
  refine pGo (s_iconst dL_law_681) ?_
  refine pGo (s_iadd dL_law_682) ?_
  refine pGo (s_sld dL_law_683 ⟨by omega, by omega⟩) ?_
  refine pGo (s_aload_n3 dL_law_684 rfl) ?_
  refine pGo (s_iload_n dL_law_685 rfl) ?_
  refine pGo (s_iconst dL_law_686) ?_
  refine pGo (s_iadd dL_law_687) ?_
  refine pGo (s_sld dL_law_688 ⟨by omega, by omega⟩) ?_
  refine pGo (s_aload_n3 dL_law_689 rfl) ?_
  refine pGo (s_iload_n dL_law_690 rfl) ?_
  refine pGo (s_iconst dL_law_691) ?_
  refine pGo (s_iadd dL_law_692) ?_
  refine pGo (s_sld dL_law_693 ⟨by omega, by omega⟩) ?_
  refine p_callV (As := [(0, (rd σ (-1) (i + 1))), (0, (rd σ (-1) (i + 2))), (0, (rd σ (-1) (i + 3)))]) (st := []) (n := 3) (d' := 100) pc10 ok_X10_pass ml_law_75 im_X10_pass se_X10_pass dL_law_694 (ob_0 h.1) (pargs_of rfl) rfl (Nat.le_of_ble_eq_true rfl) (by omega) (op_pass (Nat.le_refl 100) h hn (s _) (s _) (s _)) (fun r1 τ1 e1 q1 w1 => ?_)
  obtain ⟨v, rfl⟩ := w1
  have eL : rd τ1 (-2) 0 = rd σ (-2) 0 := e1.2.2.2 _ _ (by decide)
  have eS : ∀ j, rd τ1 (-1) j = rd σ (-1) j := fun j => e1.2.2.2 _ _ (by decide)
  show pR mL_law d 697 [(3, 0), (2, 0), (2, 68), (0, i)] [(0, v)] τ1 Q
  refine pGo (s_aload_n dL_law_697 rfl (by decide)) ?_
  refine pGo (s_aload_n3 dL_law_698 rfl) ?_
  refine pGo (s_iload_n dL_law_699 rfl) ?_
  refine pGo (s_iconst dL_law_700) ?_
  refine pGo (s_iadd dL_law_701) ?_
  refine pGoE (y := (rd σ (-1) (i + 1))) (s_sld dL_law_702 ⟨by omega, by omega⟩) (eS _) ?_
  refine pGo (s_aload_n3 dL_law_703 rfl) ?_
  refine pGo (s_iload_n dL_law_704 rfl) ?_
  refine pGo (s_iconst dL_law_705) ?_
  refine pGo (s_iadd dL_law_706) ?_
  refine pGoE (y := (rd σ (-1) (i + 2))) (s_sld dL_law_707 ⟨by omega, by omega⟩) (eS _) ?_
  refine pGo (s_aload_n3 dL_law_708 rfl) ?_
  refine pGo (s_iload_n dL_law_709 rfl) ?_
  refine pGo (s_iconst dL_law_710) ?_
  refine pGo (s_iadd dL_law_711) ?_
  refine pGoE (y := (rd σ (-1) (i + 3))) (s_sld dL_law_712 ⟨by omega, by omega⟩) (eS _) ?_
  refine p_callV (As := [(0, (rd σ (-1) (i + 1))), (0, (rd σ (-1) (i + 2))), (0, (rd σ (-1) (i + 3)))]) (st := [(0, v)]) (n := 3) (d' := 100) pc11 ok_X11_pass ml_law_78 im_X11_pass se_X11_pass dL_law_713 (ob_68 (Stat.le h.1 e1)) (pargs_of rfl) rfl (Nat.le_of_ble_eq_true rfl) (by omega) q1 (fun r2 τ2 e2 q2 w2 => ?_)
  obtain ⟨rfl, H⟩ := q2
  show pR mL_law d 716 [(3, 0), (2, 0), (2, 68), (0, i)] [(0, v), (0, v)] τ2 Q
  refine pGo (s_iceqT (tgt := 1233) dL_law_716 (by decide)) ?_
  exact k _ (e1.tr e2) H
set_option maxRecDepth 100000 in
theorem law_c_unpass {d n : Nat} {σ : pS} {i : Int} {Q : Option pV → pS → Prop} (hd : 101 ≤ d) (h : RB n σ) (hn : n < 512) (i0 : 0 ≤ i) (i7 : i + 7 ≤ rd σ (-2) 0) (s : ∀ j : Int, inR (rd σ (-1) j)) (k : ∀ υ, pLe σ υ → RB (n + 1) υ → pR mL_law d 1233 [(3, 0), (2, 0), (2, 68), (0, i)] [] υ Q) : pR mL_law d 721 [(3, 0), (2, 0), (2, 68), (0, i)] [] σ Q := by
  refine pGo (s_aload_n dL_law_721 rfl (by decide)) ?_
  refine pGo (s_aload_n3 dL_law_722 rfl) ?_
  refine pGo (s_iload_n dL_law_723 rfl) ?_
  refine pGo (s_iconst dL_law_724) ?_
  refine pGo (s_iadd dL_law_725) ?_
  refine pGo (s_sld dL_law_726 ⟨by omega, by omega⟩) ?_
  refine p_callV (As := [(0, (rd σ (-1) (i + 1)))]) (st := []) (n := 1) (d' := 100) pc10 ok_X10_unpass ml_law_79 im_X10_unpass se_X10_unpass dL_law_727 (ob_0 h.1) (pargs_of rfl) rfl (Nat.le_of_ble_eq_true rfl) (by omega) (op_unpass (Nat.le_refl 100) h hn (s _)) (fun r1 τ1 e1 q1 w1 => ?_)
  obtain ⟨v, rfl, -⟩ := pRok_z w1
  have eL : rd τ1 (-2) 0 = rd σ (-2) 0 := e1.2.2.2 _ _ (by decide)
  have eS : ∀ j, rd τ1 (-1) j = rd σ (-1) j := fun j => e1.2.2.2 _ _ (by decide)
  show pR mL_law d 730 [(3, 0), (2, 0), (2, 68), (0, i)] [(0, v)] τ1 Q
  refine pGo (s_aload_n dL_law_730 rfl (by decide)) ?_
  refine pGo (s_aload_n3 dL_law_731 rfl) ?_
  refine pGo (s_iload_n dL_law_732 rfl) ?_
  refine pGo (s_iconst dL_law_733) ?_
  refine pGo (s_iadd dL_law_734) ?_
  refine pGoE (y := (rd σ (-1) (i + 1))) (s_sld dL_law_735 ⟨by omega, by omega⟩) (eS _) ?_
  refine p_callV (As := [(0, (rd σ (-1) (i + 1)))]) (st := [(0, v)]) (n := 1) (d' := 100) pc11 ok_X11_unpass ml_law_82 im_X11_unpass se_X11_unpass dL_law_736 (ob_68 (Stat.le h.1 e1)) (pargs_of rfl) rfl (Nat.le_of_ble_eq_true rfl) (by omega) q1 (fun r2 τ2 e2 q2 w2 => ?_)
  obtain ⟨rfl, H⟩ := q2
  show pR mL_law d 739 [(3, 0), (2, 0), (2, 68), (0, i)] [(0, v), (0, v)] τ2 Q
  refine pGo (s_iceqT (tgt := 1233) dL_law_739 (by decide)) ?_
  exact k _ (e1.tr e2) H
set_option maxRecDepth 100000 in
theorem law_c_can {d n : Nat} {σ : pS} {i : Int} {Q : Option pV → pS → Prop} (hd : 101 ≤ d) (h : RB n σ) (hn : n < 512) (i0 : 0 ≤ i) (i7 : i + 7 ≤ rd σ (-2) 0) (s : ∀ j : Int, inR (rd σ (-1) j)) (k : ∀ υ, pLe σ υ → RB (n + 1) υ → pR mL_law d 1233 [(3, 0), (2, 0), (2, 68), (0, i)] [] υ Q) : pR mL_law d 744 [(3, 0), (2, 0), (2, 68), (0, i)] [] σ Q := by
  refine pGo (s_aload_n dL_law_744 rfl (by decide)) ?_
  refine pGo (s_aload_n3 dL_law_745 rfl) ?_
  refine pGo (s_iload_n dL_law_746 rfl) ?_
  refine pGo (s_iconst dL_law_747) ?_
  refine pGo (s_iadd dL_law_748) ?_
  refine pGo (s_sld dL_law_749 ⟨by omega, by omega⟩) ?_
  refine pGo (s_aload_n3 dL_law_750 rfl) ?_
  refine pGo (s_iload_n dL_law_751 rfl) ?_
  refine pGo (s_iconst dL_law_752) ?_
  refine pGo (s_iadd dL_law_753) ?_
  refine pGo (s_sld dL_law_754 ⟨by omega, by omega⟩) ?_
  refine pGo (s_aload_n3 dL_law_755 rfl) ?_
  refine pGo (s_iload_n dL_law_756 rfl) ?_
  refine pGo (s_iconst dL_law_757) ?_
  refine pGo (s_iadd dL_law_758) ?_
  refine pGo (s_sld dL_law_759 ⟨by omega, by omega⟩) ?_
  refine pGo (s_aload_n3 dL_law_760 rfl) ?_
  refine pGo (s_iload_n dL_law_761 rfl) ?_
  refine pGo (s_iconst dL_law_762) ?_
  refine pGo (s_iadd dL_law_763) ?_
  refine pGo (s_sld dL_law_764 ⟨by omega, by omega⟩) ?_
  refine p_callV (As := [(0, (rd σ (-1) (i + 1))), (0, (rd σ (-1) (i + 2))), (0, (rd σ (-1) (i + 3))), (0, (rd σ (-1) (i + 4)))]) (st := []) (n := 4) (d' := 100) pc10 ok_X10_can ml_law_83 im_X10_can se_X10_can dL_law_765 (ob_0 h.1) (pargs_of rfl) rfl (Nat.le_of_ble_eq_true rfl) (by omega) (op_can (Nat.le_refl 100) h hn (s _) (s _) (s _) (s _)) (fun r1 τ1 e1 q1 w1 => ?_)
  obtain ⟨v, rfl⟩ := w1
  have eL : rd τ1 (-2) 0 = rd σ (-2) 0 := e1.2.2.2 _ _ (by decide)
  have eS : ∀ j, rd τ1 (-1) j = rd σ (-1) j := fun j => e1.2.2.2 _ _ (by decide)
  show pR mL_law d 768 [(3, 0), (2, 0), (2, 68), (0, i)] [(0, v)] τ1 Q
  refine pGo (s_aload_n dL_law_768 rfl (by decide)) ?_
  refine pGo (s_aload_n3 dL_law_769 rfl) ?_
  refine pGo (s_iload_n dL_law_770 rfl) ?_
  refine pGo (s_iconst dL_law_771) ?_
  refine pGo (s_iadd dL_law_772) ?_
  refine pGoE (y := (rd σ (-1) (i + 1))) (s_sld dL_law_773 ⟨by omega, by omega⟩) (eS _) ?_
  refine pGo (s_aload_n3 dL_law_774 rfl) ?_
  refine pGo (s_iload_n dL_law_775 rfl) ?_
  refine pGo (s_iconst dL_law_776) ?_
  refine pGo (s_iadd dL_law_777) ?_
  refine pGoE (y := (rd σ (-1) (i + 2))) (s_sld dL_law_778 ⟨by omega, by omega⟩) (eS _) ?_
  refine pGo (s_aload_n3 dL_law_779 rfl) ?_
  refine pGo (s_iload_n dL_law_780 rfl) ?_
  refine pGo (s_iconst dL_law_781) ?_
  refine pGo (s_iadd dL_law_782) ?_
  refine pGoE (y := (rd σ (-1) (i + 3))) (s_sld dL_law_783 ⟨by omega, by omega⟩) (eS _) ?_
  refine pGo (s_aload_n3 dL_law_784 rfl) ?_
  refine pGo (s_iload_n dL_law_785 rfl) ?_
  refine pGo (s_iconst dL_law_786) ?_
  refine pGo (s_iadd dL_law_787) ?_
  refine pGoE (y := (rd σ (-1) (i + 4))) (s_sld dL_law_788 ⟨by omega, by omega⟩) (eS _) ?_
  refine p_callV (As := [(0, (rd σ (-1) (i + 1))), (0, (rd σ (-1) (i + 2))), (0, (rd σ (-1) (i + 3))), (0, (rd σ (-1) (i + 4)))]) (st := [(0, v)]) (n := 4) (d' := 100) pc11 ok_X11_can ml_law_87 im_X11_can se_X11_can dL_law_789 (ob_68 (Stat.le h.1 e1)) (pargs_of rfl) rfl (Nat.le_of_ble_eq_true rfl) (by omega) q1 (fun r2 τ2 e2 q2 w2 => ?_)
  obtain ⟨rfl, H⟩ := q2
  show pR mL_law d 792 [(3, 0), (2, 0), (2, 68), (0, i)] [(0, v), (0, v)] τ2 Q
  refine pGo (s_iceqT (tgt := 1233) dL_law_792 (by decide)) ?_
  exact k _ (e1.tr e2) H
set_option maxRecDepth 100000 in
theorem law_c_canOn {d n : Nat} {σ : pS} {i : Int} {Q : Option pV → pS → Prop} (hd : 101 ≤ d) (h : RB n σ) (hn : n < 512) (i0 : 0 ≤ i) (i7 : i + 7 ≤ rd σ (-2) 0) (s : ∀ j : Int, inR (rd σ (-1) j)) (k : ∀ υ, pLe σ υ → RB (n + 1) υ → pR mL_law d 1233 [(3, 0), (2, 0), (2, 68), (0, i)] [] υ Q) : pR mL_law d 797 [(3, 0), (2, 0), (2, 68), (0, i)] [] σ Q := by
  refine pGo (s_aload_n dL_law_797 rfl (by decide)) ?_
  refine pGo (s_aload_n3 dL_law_798 rfl) ?_
  refine pGo (s_iload_n dL_law_799 rfl) ?_
  refine pGo (s_iconst dL_law_800) ?_
  refine pGo (s_iadd dL_law_801) ?_
  refine pGo (s_sld dL_law_802 ⟨by omega, by omega⟩) ?_
  refine pGo (s_aload_n3 dL_law_803 rfl) ?_
  refine pGo (s_iload_n dL_law_804 rfl) ?_
  refine pGo (s_iconst dL_law_805) ?_
  refine pGo (s_iadd dL_law_806) ?_
  refine pGo (s_sld dL_law_807 ⟨by omega, by omega⟩) ?_
  refine pGo (s_aload_n3 dL_law_808 rfl) ?_
  refine pGo (s_iload_n dL_law_809 rfl) ?_
  refine pGo (s_iconst dL_law_810) ?_
  refine pGo (s_iadd dL_law_811) ?_
  refine pGo (s_sld dL_law_812 ⟨by omega, by omega⟩) ?_
  refine pGo (s_aload_n3 dL_law_813 rfl) ?_
  refine pGo (s_iload_n dL_law_814 rfl) ?_
  refine pGo (s_iconst dL_law_815) ?_
  refine pGo (s_iadd dL_law_816) ?_
  refine pGo (s_sld dL_law_817 ⟨by omega, by omega⟩) ?_
  refine p_callV (As := [(0, (rd σ (-1) (i + 1))), (0, (rd σ (-1) (i + 2))), (0, (rd σ (-1) (i + 3))), (0, (rd σ (-1) (i + 4)))]) (st := []) (n := 4) (d' := 100) pc10 ok_X10_canOn ml_law_88 im_X10_canOn se_X10_canOn dL_law_818 (ob_0 h.1) (pargs_of rfl) rfl (Nat.le_of_ble_eq_true rfl) (by omega) (op_canOn (Nat.le_refl 100) h hn (s _) (s _) (s _) (s _)) (fun r1 τ1 e1 q1 w1 => ?_)
  obtain ⟨v, rfl⟩ := w1
  have eL : rd τ1 (-2) 0 = rd σ (-2) 0 := e1.2.2.2 _ _ (by decide)
  have eS : ∀ j, rd τ1 (-1) j = rd σ (-1) j := fun j => e1.2.2.2 _ _ (by decide)
  show pR mL_law d 821 [(3, 0), (2, 0), (2, 68), (0, i)] [(0, v)] τ1 Q
  refine pGo (s_aload_n dL_law_821 rfl (by decide)) ?_
  refine pGo (s_aload_n3 dL_law_822 rfl) ?_
  refine pGo (s_iload_n dL_law_823 rfl) ?_
  refine pGo (s_iconst dL_law_824) ?_
  refine pGo (s_iadd dL_law_825) ?_
  refine pGoE (y := (rd σ (-1) (i + 1))) (s_sld dL_law_826 ⟨by omega, by omega⟩) (eS _) ?_
  refine pGo (s_aload_n3 dL_law_827 rfl) ?_
  refine pGo (s_iload_n dL_law_828 rfl) ?_
  refine pGo (s_iconst dL_law_829) ?_
  refine pGo (s_iadd dL_law_830) ?_
  refine pGoE (y := (rd σ (-1) (i + 2))) (s_sld dL_law_831 ⟨by omega, by omega⟩) (eS _) ?_
  refine pGo (s_aload_n3 dL_law_832 rfl) ?_
  refine pGo (s_iload_n dL_law_833 rfl) ?_
  refine pGo (s_iconst dL_law_834) ?_
  refine pGo (s_iadd dL_law_835) ?_
  refine pGoE (y := (rd σ (-1) (i + 3))) (s_sld dL_law_836 ⟨by omega, by omega⟩) (eS _) ?_
  refine pGo (s_aload_n3 dL_law_837 rfl) ?_
  refine pGo (s_iload_n dL_law_838 rfl) ?_
  refine pGo (s_iconst dL_law_839) ?_
  refine pGo (s_iadd dL_law_840) ?_
  refine pGoE (y := (rd σ (-1) (i + 4))) (s_sld dL_law_841 ⟨by omega, by omega⟩) (eS _) ?_
  refine p_callV (As := [(0, (rd σ (-1) (i + 1))), (0, (rd σ (-1) (i + 2))), (0, (rd σ (-1) (i + 3))), (0, (rd σ (-1) (i + 4)))]) (st := [(0, v)]) (n := 4) (d' := 100) pc11 ok_X11_canOn ml_law_91 im_X11_canOn se_X11_canOn dL_law_842 (ob_68 (Stat.le h.1 e1)) (pargs_of rfl) rfl (Nat.le_of_ble_eq_true rfl) (by omega) q1 (fun r2 τ2 e2 q2 w2 => ?_)
  obtain ⟨rfl, H⟩ := q2
  show pR mL_law d 845 [(3, 0), (2, 0), (2, 68), (0, i)] [(0, v), (0, v)] τ2 Q
  refine pGo (s_iceqT (tgt := 1233) dL_law_845 (by decide)) ?_
  exact k _ (e1.tr e2) H
set_option maxRecDepth 100000 in
theorem law_c_places {d n : Nat} {σ : pS} {i : Int} {Q : Option pV → pS → Prop} (hd : 101 ≤ d) (h : RB n σ) (hn : n < 512) (i0 : 0 ≤ i) (i7 : i + 7 ≤ rd σ (-2) 0) (s : ∀ j : Int, inR (rd σ (-1) j)) (k : ∀ υ, pLe σ υ → RB (n + 1) υ → pR mL_law d 1233 [(3, 0), (2, 0), (2, 68), (0, i)] [] υ Q) : pR mL_law d 850 [(3, 0), (2, 0), (2, 68), (0, i)] [] σ Q := by
  refine pGo (s_aload_n dL_law_850 rfl (by decide)) ?_
  refine pGo (s_aload_n3 dL_law_851 rfl) ?_
  refine pGo (s_iload_n dL_law_852 rfl) ?_
  refine pGo (s_iconst dL_law_853) ?_
  refine pGo (s_iadd dL_law_854) ?_
  refine pGo (s_sld dL_law_855 ⟨by omega, by omega⟩) ?_
  refine pGo (s_aload_n3 dL_law_856 rfl) ?_
  refine pGo (s_iload_n dL_law_857 rfl) ?_
  refine pGo (s_iconst dL_law_858) ?_
  refine pGo (s_iadd dL_law_859) ?_
  refine pGo (s_sld dL_law_860 ⟨by omega, by omega⟩) ?_
  refine pGo (s_aload_n3 dL_law_861 rfl) ?_
  refine pGo (s_iload_n dL_law_862 rfl) ?_
  refine pGo (s_iconst dL_law_863) ?_
  refine pGo (s_iadd dL_law_864) ?_
  refine pGo (s_sld dL_law_865 ⟨by omega, by omega⟩) ?_
  refine p_callV (As := [(0, (rd σ (-1) (i + 1))), (0, (rd σ (-1) (i + 2))), (0, (rd σ (-1) (i + 3)))]) (st := []) (n := 3) (d' := 100) pc10 ok_X10_places ml_law_92 im_X10_places se_X10_places dL_law_866 (ob_0 h.1) (pargs_of rfl) rfl (Nat.le_of_ble_eq_true rfl) (by omega) (op_places (Nat.le_refl 100) h hn (s _) (s _) (s _)) (fun r1 τ1 e1 q1 w1 => ?_)
  obtain ⟨v, rfl⟩ := w1
  have eL : rd τ1 (-2) 0 = rd σ (-2) 0 := e1.2.2.2 _ _ (by decide)
  have eS : ∀ j, rd τ1 (-1) j = rd σ (-1) j := fun j => e1.2.2.2 _ _ (by decide)
  show pR mL_law d 869 [(3, 0), (2, 0), (2, 68), (0, i)] [(0, v)] τ1 Q
  refine pGo (s_aload_n dL_law_869 rfl (by decide)) ?_
  refine pGo (s_aload_n3 dL_law_870 rfl) ?_
  refine pGo (s_iload_n dL_law_871 rfl) ?_
  refine pGo (s_iconst dL_law_872) ?_
  refine pGo (s_iadd dL_law_873) ?_
  refine pGoE (y := (rd σ (-1) (i + 1))) (s_sld dL_law_874 ⟨by omega, by omega⟩) (eS _) ?_
  refine pGo (s_aload_n3 dL_law_875 rfl) ?_
  refine pGo (s_iload_n dL_law_876 rfl) ?_
  refine pGo (s_iconst dL_law_877) ?_
  refine pGo (s_iadd dL_law_878) ?_
  refine pGoE (y := (rd σ (-1) (i + 2))) (s_sld dL_law_879 ⟨by omega, by omega⟩) (eS _) ?_
  refine pGo (s_aload_n3 dL_law_880 rfl) ?_
  refine pGo (s_iload_n dL_law_881 rfl) ?_
  refine pGo (s_iconst dL_law_882) ?_
  refine pGo (s_iadd dL_law_883) ?_
  refine pGoE (y := (rd σ (-1) (i + 3))) (s_sld dL_law_884 ⟨by omega, by omega⟩) (eS _) ?_
  refine p_callV (As := [(0, (rd σ (-1) (i + 1))), (0, (rd σ (-1) (i + 2))), (0, (rd σ (-1) (i + 3)))]) (st := [(0, v)]) (n := 3) (d' := 100) pc11 ok_X11_places ml_law_95 im_X11_places se_X11_places dL_law_885 (ob_68 (Stat.le h.1 e1)) (pargs_of rfl) rfl (Nat.le_of_ble_eq_true rfl) (by omega) q1 (fun r2 τ2 e2 q2 w2 => ?_)
  obtain ⟨rfl, H⟩ := q2
  show pR mL_law d 888 [(3, 0), (2, 0), (2, 68), (0, i)] [(0, v), (0, v)] τ2 Q
  refine pGo (s_iceqT (tgt := 1233) dL_law_888 (by decide)) ?_
  exact k _ (e1.tr e2) H
set_option maxRecDepth 100000 in
theorem law_c_meet {d n : Nat} {σ : pS} {i : Int} {Q : Option pV → pS → Prop} (hd : 101 ≤ d) (h : RB n σ) (hn : n < 512) (i0 : 0 ≤ i) (i7 : i + 7 ≤ rd σ (-2) 0) (s : ∀ j : Int, inR (rd σ (-1) j)) (k : ∀ υ, pLe σ υ → RB (n + 1) υ → pR mL_law d 1233 [(3, 0), (2, 0), (2, 68), (0, i)] [] υ Q) : pR mL_law d 893 [(3, 0), (2, 0), (2, 68), (0, i)] [] σ Q := by
  refine pGo (s_aload_n dL_law_893 rfl (by decide)) ?_
  refine pGo (s_aload_n3 dL_law_894 rfl) ?_
  refine pGo (s_iload_n dL_law_895 rfl) ?_
  refine pGo (s_iconst dL_law_896) ?_
  refine pGo (s_iadd dL_law_897) ?_
  refine pGo (s_sld dL_law_898 ⟨by omega, by omega⟩) ?_
  refine pGo (s_aload_n3 dL_law_899 rfl) ?_
  refine pGo (s_iload_n dL_law_900 rfl) ?_
  refine pGo (s_iconst dL_law_901) ?_
  refine pGo (s_iadd dL_law_902) ?_
  refine pGo (s_sld dL_law_903 ⟨by omega, by omega⟩) ?_
  refine pGo (s_aload_n3 dL_law_904 rfl) ?_
  refine pGo (s_iload_n dL_law_905 rfl) ?_
  refine pGo (s_iconst dL_law_906) ?_
  refine pGo (s_iadd dL_law_907) ?_
  refine pGo (s_sld dL_law_908 ⟨by omega, by omega⟩) ?_
  refine pGo (s_aload_n3 dL_law_909 rfl) ?_
  refine pGo (s_iload_n dL_law_910 rfl) ?_
  refine pGo (s_iconst dL_law_911) ?_
  refine pGo (s_iadd dL_law_912) ?_
  refine pGo (s_sld dL_law_913 ⟨by omega, by omega⟩) ?_
  refine pGo (s_aload_n3 dL_law_914 rfl) ?_
  refine pGo (s_iload_n dL_law_915 rfl) ?_
  refine pGo (s_iconst dL_law_916) ?_
  refine pGo (s_iadd dL_law_917) ?_
  refine pGo (s_sld dL_law_918 ⟨by omega, by omega⟩) ?_
  refine p_callV (As := [(0, (rd σ (-1) (i + 1))), (0, (rd σ (-1) (i + 2))), (0, (rd σ (-1) (i + 3))), (0, (rd σ (-1) (i + 4))), (0, (rd σ (-1) (i + 5)))]) (st := []) (n := 5) (d' := 100) pc10 ok_X10_meet ml_law_96 im_X10_meet se_X10_meet dL_law_919 (ob_0 h.1) (pargs_of rfl) rfl (Nat.le_of_ble_eq_true rfl) (by omega) (op_meet (Nat.le_refl 100) h hn (s _) (s _) (s _) (s _) (s _)) (fun r1 τ1 e1 q1 w1 => ?_)
  obtain ⟨v, rfl⟩ := w1
  have eL : rd τ1 (-2) 0 = rd σ (-2) 0 := e1.2.2.2 _ _ (by decide)
  have eS : ∀ j, rd τ1 (-1) j = rd σ (-1) j := fun j => e1.2.2.2 _ _ (by decide)
  show pR mL_law d 922 [(3, 0), (2, 0), (2, 68), (0, i)] [(0, v)] τ1 Q
  refine pGo (s_aload_n dL_law_922 rfl (by decide)) ?_
  refine pGo (s_aload_n3 dL_law_923 rfl) ?_
  refine pGo (s_iload_n dL_law_924 rfl) ?_
  refine pGo (s_iconst dL_law_925) ?_
  refine pGo (s_iadd dL_law_926) ?_
  refine pGoE (y := (rd σ (-1) (i + 1))) (s_sld dL_law_927 ⟨by omega, by omega⟩) (eS _) ?_
  refine pGo (s_aload_n3 dL_law_928 rfl) ?_
  refine pGo (s_iload_n dL_law_929 rfl) ?_
  refine pGo (s_iconst dL_law_930) ?_
  refine pGo (s_iadd dL_law_931) ?_
  refine pGoE (y := (rd σ (-1) (i + 2))) (s_sld dL_law_932 ⟨by omega, by omega⟩) (eS _) ?_
  refine pGo (s_aload_n3 dL_law_933 rfl) ?_
  refine pGo (s_iload_n dL_law_934 rfl) ?_
  refine pGo (s_iconst dL_law_935) ?_
  refine pGo (s_iadd dL_law_936) ?_
  refine pGoE (y := (rd σ (-1) (i + 3))) (s_sld dL_law_937 ⟨by omega, by omega⟩) (eS _) ?_
  refine pGo (s_aload_n3 dL_law_938 rfl) ?_
  refine pGo (s_iload_n dL_law_939 rfl) ?_
  refine pGo (s_iconst dL_law_940) ?_
  refine pGo (s_iadd dL_law_941) ?_
  refine pGoE (y := (rd σ (-1) (i + 4))) (s_sld dL_law_942 ⟨by omega, by omega⟩) (eS _) ?_
  refine pGo (s_aload_n3 dL_law_943 rfl) ?_
  refine pGo (s_iload_n dL_law_944 rfl) ?_
  refine pGo (s_iconst dL_law_945) ?_
  refine pGo (s_iadd dL_law_946) ?_
  refine pGoE (y := (rd σ (-1) (i + 5))) (s_sld dL_law_947 ⟨by omega, by omega⟩) (eS _) ?_
  refine p_callV (As := [(0, (rd σ (-1) (i + 1))), (0, (rd σ (-1) (i + 2))), (0, (rd σ (-1) (i + 3))), (0, (rd σ (-1) (i + 4))), (0, (rd σ (-1) (i + 5)))]) (st := [(0, v)]) (n := 5) (d' := 100) pc11 ok_X11_meet ml_law_99 im_X11_meet se_X11_meet dL_law_948 (ob_68 (Stat.le h.1 e1)) (pargs_of rfl) rfl (Nat.le_of_ble_eq_true rfl) (by omega) q1 (fun r2 τ2 e2 q2 w2 => ?_)
  obtain ⟨rfl, H⟩ := q2
  show pR mL_law d 951 [(3, 0), (2, 0), (2, 68), (0, i)] [(0, v), (0, v)] τ2 Q
  refine pGo (s_iceqT (tgt := 1233) dL_law_951 (by decide)) ?_
  exact k _ (e1.tr e2) H
set_option maxRecDepth 100000 in
theorem law_c_arrive {d n : Nat} {σ : pS} {i : Int} {Q : Option pV → pS → Prop} (hd : 101 ≤ d) (h : RB n σ) (hn : n < 512) (i0 : 0 ≤ i) (i7 : i + 7 ≤ rd σ (-2) 0) (s : ∀ j : Int, inR (rd σ (-1) j)) (k : ∀ υ, pLe σ υ → RB (n + 1) υ → pR mL_law d 1233 [(3, 0), (2, 0), (2, 68), (0, i)] [] υ Q) : pR mL_law d 956 [(3, 0), (2, 0), (2, 68), (0, i)] [] σ Q := by
  refine pGo (s_aload_n dL_law_956 rfl (by decide)) ?_
  refine pGo (s_aload_n3 dL_law_957 rfl) ?_
  refine pGo (s_iload_n dL_law_958 rfl) ?_
  refine pGo (s_iconst dL_law_959) ?_
  refine pGo (s_iadd dL_law_960) ?_
  refine pGo (s_sld dL_law_961 ⟨by omega, by omega⟩) ?_
  refine pGo (s_aload_n3 dL_law_962 rfl) ?_
  refine pGo (s_iload_n dL_law_963 rfl) ?_
  refine pGo (s_iconst dL_law_964) ?_
  refine pGo (s_iadd dL_law_965) ?_
  refine pGo (s_sld dL_law_966 ⟨by omega, by omega⟩) ?_
  refine p_callV (As := [(0, (rd σ (-1) (i + 1))), (0, (rd σ (-1) (i + 2)))]) (st := []) (n := 2) (d' := 100) pc10 ok_X10_arrive ml_law_100 im_X10_arrive se_X10_arrive dL_law_967 (ob_0 h.1) (pargs_of rfl) rfl (Nat.le_of_ble_eq_true rfl) (by omega) (op_arrive (Nat.le_refl 100) h hn (s _) (s _)) (fun r1 τ1 e1 q1 w1 => ?_)
  obtain ⟨v, rfl⟩ := w1
  have eL : rd τ1 (-2) 0 = rd σ (-2) 0 := e1.2.2.2 _ _ (by decide)
  have eS : ∀ j, rd τ1 (-1) j = rd σ (-1) j := fun j => e1.2.2.2 _ _ (by decide)
  show pR mL_law d 970 [(3, 0), (2, 0), (2, 68), (0, i)] [(0, v)] τ1 Q
  refine pGo (s_aload_n dL_law_970 rfl (by decide)) ?_
  refine pGo (s_aload_n3 dL_law_971 rfl) ?_
  refine pGo (s_iload_n dL_law_972 rfl) ?_
  refine pGo (s_iconst dL_law_973) ?_
  refine pGo (s_iadd dL_law_974) ?_
  refine pGoE (y := (rd σ (-1) (i + 1))) (s_sld dL_law_975 ⟨by omega, by omega⟩) (eS _) ?_
  refine pGo (s_aload_n3 dL_law_976 rfl) ?_
  refine pGo (s_iload_n dL_law_977 rfl) ?_
  refine pGo (s_iconst dL_law_978) ?_
  refine pGo (s_iadd dL_law_979) ?_
  refine pGoE (y := (rd σ (-1) (i + 2))) (s_sld dL_law_980 ⟨by omega, by omega⟩) (eS _) ?_
  refine p_callV (As := [(0, (rd σ (-1) (i + 1))), (0, (rd σ (-1) (i + 2)))]) (st := [(0, v)]) (n := 2) (d' := 100) pc11 ok_X11_arrive ml_law_104 im_X11_arrive se_X11_arrive dL_law_981 (ob_68 (Stat.le h.1 e1)) (pargs_of rfl) rfl (Nat.le_of_ble_eq_true rfl) (by omega) q1 (fun r2 τ2 e2 q2 w2 => ?_)
  obtain ⟨rfl, H⟩ := q2
  show pR mL_law d 984 [(3, 0), (2, 0), (2, 68), (0, i)] [(0, v), (0, v)] τ2 Q
  refine pGo (s_iceqT (tgt := 1233) dL_law_984 (by decide)) ?_
  exact k _ (e1.tr e2) H
set_option maxRecDepth 100000 in
theorem law_c_turn {d n : Nat} {σ : pS} {i : Int} {Q : Option pV → pS → Prop} (hd : 101 ≤ d) (h : RB n σ) (hn : n < 512) (i0 : 0 ≤ i) (i7 : i + 7 ≤ rd σ (-2) 0) (s : ∀ j : Int, inR (rd σ (-1) j)) (k : ∀ υ, pLe σ υ → RB (n + 1) υ → pR mL_law d 1233 [(3, 0), (2, 0), (2, 68), (0, i)] [] υ Q) : pR mL_law d 989 [(3, 0), (2, 0), (2, 68), (0, i)] [] σ Q := by
  refine pGo (s_aload_n dL_law_989 rfl (by decide)) ?_
  refine pGo (s_aload_n3 dL_law_990 rfl) ?_
  refine pGo (s_iload_n dL_law_991 rfl) ?_
  refine pGo (s_iconst dL_law_992) ?_
  refine pGo (s_iadd dL_law_993) ?_
  refine pGo (s_sld dL_law_994 ⟨by omega, by omega⟩) ?_
  refine p_callV (As := [(0, (rd σ (-1) (i + 1)))]) (st := []) (n := 1) (d' := 100) pc10 ok_X10_turn ml_law_105 im_X10_turn se_X10_turn dL_law_995 (ob_0 h.1) (pargs_of rfl) rfl (Nat.le_of_ble_eq_true rfl) (by omega) (op_turn (Nat.le_refl 100) h hn (s _)) (fun r1 τ1 e1 q1 w1 => ?_)
  obtain ⟨v, rfl⟩ := w1
  have eL : rd τ1 (-2) 0 = rd σ (-2) 0 := e1.2.2.2 _ _ (by decide)
  have eS : ∀ j, rd τ1 (-1) j = rd σ (-1) j := fun j => e1.2.2.2 _ _ (by decide)
  show pR mL_law d 998 [(3, 0), (2, 0), (2, 68), (0, i)] [(0, v)] τ1 Q
  refine pGo (s_aload_n dL_law_998 rfl (by decide)) ?_
  refine pGo (s_aload_n3 dL_law_999 rfl) ?_
  refine pGo (s_iload_n dL_law_1000 rfl) ?_
  refine pGo (s_iconst dL_law_1001) ?_
  refine pGo (s_iadd dL_law_1002) ?_
  refine pGoE (y := (rd σ (-1) (i + 1))) (s_sld dL_law_1003 ⟨by omega, by omega⟩) (eS _) ?_
  refine p_callV (As := [(0, (rd σ (-1) (i + 1)))]) (st := [(0, v)]) (n := 1) (d' := 100) pc11 ok_X11_turn ml_law_108 im_X11_turn se_X11_turn dL_law_1004 (ob_68 (Stat.le h.1 e1)) (pargs_of rfl) rfl (Nat.le_of_ble_eq_true rfl) (by omega) q1 (fun r2 τ2 e2 q2 w2 => ?_)
  obtain ⟨rfl, H⟩ := q2
  show pR mL_law d 1007 [(3, 0), (2, 0), (2, 68), (0, i)] [(0, v), (0, v)] τ2 Q
  refine pGo (s_iceqT (tgt := 1233) dL_law_1007 (by decide)) ?_
  exact k _ (e1.tr e2) H
set_option maxRecDepth 100000 in
theorem law_c_make {d n : Nat} {σ : pS} {i : Int} {Q : Option pV → pS → Prop} (hd : 101 ≤ d) (h : RB n σ) (hn : n < 512) (i0 : 0 ≤ i) (i7 : i + 7 ≤ rd σ (-2) 0) (s : ∀ j : Int, inR (rd σ (-1) j)) (k : ∀ υ, pLe σ υ → RB (n + 1) υ → pR mL_law d 1233 [(3, 0), (2, 0), (2, 68), (0, i)] [] υ Q) : pR mL_law d 1012 [(3, 0), (2, 0), (2, 68), (0, i)] [] σ Q := by
  refine pGo (s_aload_n dL_law_1012 rfl (by decide)) ?_
  refine pGo (s_aload_n3 dL_law_1013 rfl) ?_
  refine pGo (s_iload_n dL_law_1014 rfl) ?_
  refine pGo (s_iconst dL_law_1015) ?_
  refine pGo (s_iadd dL_law_1016) ?_
  refine pGo (s_sld dL_law_1017 ⟨by omega, by omega⟩) ?_
  refine pGo (s_aload_n3 dL_law_1018 rfl) ?_
  refine pGo (s_iload_n dL_law_1019 rfl) ?_
  refine pGo (s_iconst dL_law_1020) ?_
  refine pGo (s_iadd dL_law_1021) ?_
  refine pGo (s_sld dL_law_1022 ⟨by omega, by omega⟩) ?_
  refine p_callV (As := [(0, (rd σ (-1) (i + 1))), (0, (rd σ (-1) (i + 2)))]) (st := []) (n := 2) (d' := 100) pc10 ok_X10_make ml_law_109 im_X10_make se_X10_make dL_law_1023 (ob_0 h.1) (pargs_of rfl) rfl (Nat.le_of_ble_eq_true rfl) (by omega) (op_make (Nat.le_refl 100) h hn (s _) (s _)) (fun r1 τ1 e1 q1 w1 => ?_)
  obtain ⟨v, rfl, -⟩ := pRok_z w1
  have eL : rd τ1 (-2) 0 = rd σ (-2) 0 := e1.2.2.2 _ _ (by decide)
  have eS : ∀ j, rd τ1 (-1) j = rd σ (-1) j := fun j => e1.2.2.2 _ _ (by decide)
  show pR mL_law d 1026 [(3, 0), (2, 0), (2, 68), (0, i)] [(0, v)] τ1 Q
  refine pGo (s_aload_n dL_law_1026 rfl (by decide)) ?_
  refine pGo (s_aload_n3 dL_law_1027 rfl) ?_
  refine pGo (s_iload_n dL_law_1028 rfl) ?_
  refine pGo (s_iconst dL_law_1029) ?_
  refine pGo (s_iadd dL_law_1030) ?_
  refine pGoE (y := (rd σ (-1) (i + 1))) (s_sld dL_law_1031 ⟨by omega, by omega⟩) (eS _) ?_
  refine pGo (s_aload_n3 dL_law_1032 rfl) ?_
  refine pGo (s_iload_n dL_law_1033 rfl) ?_
  refine pGo (s_iconst dL_law_1034) ?_
  refine pGo (s_iadd dL_law_1035) ?_
  refine pGoE (y := (rd σ (-1) (i + 2))) (s_sld dL_law_1036 ⟨by omega, by omega⟩) (eS _) ?_
  refine p_callV (As := [(0, (rd σ (-1) (i + 1))), (0, (rd σ (-1) (i + 2)))]) (st := [(0, v)]) (n := 2) (d' := 100) pc11 ok_X11_make ml_law_113 im_X11_make se_X11_make dL_law_1037 (ob_68 (Stat.le h.1 e1)) (pargs_of rfl) rfl (Nat.le_of_ble_eq_true rfl) (by omega) q1 (fun r2 τ2 e2 q2 w2 => ?_)
  obtain ⟨rfl, H⟩ := q2
  show pR mL_law d 1040 [(3, 0), (2, 0), (2, 68), (0, i)] [(0, v), (0, v)] τ2 Q
  refine pGo (s_iceqT (tgt := 1233) dL_law_1040 (by decide)) ?_
  exact k _ (e1.tr e2) H
set_option maxRecDepth 100000 in
theorem law_c_day {d n : Nat} {σ : pS} {i : Int} {Q : Option pV → pS → Prop} (hd : 101 ≤ d) (h : RB n σ) (hn : n < 512) (i0 : 0 ≤ i) (i7 : i + 7 ≤ rd σ (-2) 0) (s : ∀ j : Int, inR (rd σ (-1) j)) (k : ∀ υ, pLe σ υ → RB (n + 1) υ → pR mL_law d 1233 [(3, 0), (2, 0), (2, 68), (0, i)] [] υ Q) : pR mL_law d 1045 [(3, 0), (2, 0), (2, 68), (0, i)] [] σ Q := by
  refine pGo (s_aload_n dL_law_1045 rfl (by decide)) ?_
  refine pGo (s_aload_n3 dL_law_1046 rfl) ?_
  refine pGo (s_iload_n dL_law_1047 rfl) ?_
  refine pGo (s_iconst dL_law_1048) ?_
  refine pGo (s_iadd dL_law_1049) ?_
  refine pGo (s_sld dL_law_1050 ⟨by omega, by omega⟩) ?_
  refine p_callV (As := [(0, (rd σ (-1) (i + 1)))]) (st := []) (n := 1) (d' := 100) pc10 ok_X10_day ml_law_114 im_X10_day se_X10_day dL_law_1051 (ob_0 h.1) (pargs_of rfl) rfl (Nat.le_of_ble_eq_true rfl) (by omega) (op_day (Nat.le_refl 100) h hn (s _)) (fun r1 τ1 e1 q1 w1 => ?_)
  obtain ⟨v, rfl⟩ := w1
  have eL : rd τ1 (-2) 0 = rd σ (-2) 0 := e1.2.2.2 _ _ (by decide)
  have eS : ∀ j, rd τ1 (-1) j = rd σ (-1) j := fun j => e1.2.2.2 _ _ (by decide)
  show pR mL_law d 1054 [(3, 0), (2, 0), (2, 68), (0, i)] [(0, v)] τ1 Q
  refine pGo (s_aload_n dL_law_1054 rfl (by decide)) ?_
  refine pGo (s_aload_n3 dL_law_1055 rfl) ?_
  refine pGo (s_iload_n dL_law_1056 rfl) ?_
  refine pGo (s_iconst dL_law_1057) ?_
  refine pGo (s_iadd dL_law_1058) ?_
  refine pGoE (y := (rd σ (-1) (i + 1))) (s_sld dL_law_1059 ⟨by omega, by omega⟩) (eS _) ?_
  refine p_callV (As := [(0, (rd σ (-1) (i + 1)))]) (st := [(0, v)]) (n := 1) (d' := 100) pc11 ok_X11_day ml_law_117 im_X11_day se_X11_day dL_law_1060 (ob_68 (Stat.le h.1 e1)) (pargs_of rfl) rfl (Nat.le_of_ble_eq_true rfl) (by omega) q1 (fun r2 τ2 e2 q2 w2 => ?_)
  obtain ⟨rfl, H⟩ := q2
  show pR mL_law d 1063 [(3, 0), (2, 0), (2, 68), (0, i)] [(0, v), (0, v)] τ2 Q
  refine pGo (s_iceqT (tgt := 1233) dL_law_1063 (by decide)) ?_
  exact k _ (e1.tr e2) H
set_option maxRecDepth 100000 in
theorem law_c_wait {d n : Nat} {σ : pS} {i : Int} {Q : Option pV → pS → Prop} (hd : 101 ≤ d) (h : RB n σ) (hn : n < 512) (i0 : 0 ≤ i) (i7 : i + 7 ≤ rd σ (-2) 0) (s : ∀ j : Int, inR (rd σ (-1) j)) (k : ∀ υ, pLe σ υ → RB (n + 1) υ → pR mL_law d 1233 [(3, 0), (2, 0), (2, 68), (0, i)] [] υ Q) : pR mL_law d 1068 [(3, 0), (2, 0), (2, 68), (0, i)] [] σ Q := by
  refine pGo (s_aload_n dL_law_1068 rfl (by decide)) ?_
  refine pGo (s_aload_n3 dL_law_1069 rfl) ?_
  refine pGo (s_iload_n dL_law_1070 rfl) ?_
  refine pGo (s_iconst dL_law_1071) ?_
  refine pGo (s_iadd dL_law_1072) ?_
  refine pGo (s_sld dL_law_1073 ⟨by omega, by omega⟩) ?_
  refine pGo (s_aload_n3 dL_law_1074 rfl) ?_
  refine pGo (s_iload_n dL_law_1075 rfl) ?_
  refine pGo (s_iconst dL_law_1076) ?_
  refine pGo (s_iadd dL_law_1077) ?_
  refine pGo (s_sld dL_law_1078 ⟨by omega, by omega⟩) ?_
  refine pGo (s_aload_n3 dL_law_1079 rfl) ?_
  refine pGo (s_iload_n dL_law_1080 rfl) ?_
  refine pGo (s_iconst dL_law_1081) ?_
  refine pGo (s_iadd dL_law_1082) ?_
  refine pGo (s_sld dL_law_1083 ⟨by omega, by omega⟩) ?_
  refine p_callV (As := [(0, (rd σ (-1) (i + 1))), (0, (rd σ (-1) (i + 2))), (0, (rd σ (-1) (i + 3)))]) (st := []) (n := 3) (d' := 100) pc10 ok_X10_wait ml_law_118 im_X10_wait se_X10_wait dL_law_1084 (ob_0 h.1) (pargs_of rfl) rfl (Nat.le_of_ble_eq_true rfl) (by omega) (op_wait (Nat.le_refl 100) h hn (s _) (s _) (s _)) (fun r1 τ1 e1 q1 w1 => ?_)
  obtain ⟨v, rfl⟩ := w1
  have eL : rd τ1 (-2) 0 = rd σ (-2) 0 := e1.2.2.2 _ _ (by decide)
  have eS : ∀ j, rd τ1 (-1) j = rd σ (-1) j := fun j => e1.2.2.2 _ _ (by decide)
  show pR mL_law d 1087 [(3, 0), (2, 0), (2, 68), (0, i)] [(0, v)] τ1 Q
  refine pGo (s_aload_n dL_law_1087 rfl (by decide)) ?_
  refine pGo (s_aload_n3 dL_law_1088 rfl) ?_
  refine pGo (s_iload_n dL_law_1089 rfl) ?_
  refine pGo (s_iconst dL_law_1090) ?_
  refine pGo (s_iadd dL_law_1091) ?_
  refine pGoE (y := (rd σ (-1) (i + 1))) (s_sld dL_law_1092 ⟨by omega, by omega⟩) (eS _) ?_
  refine pGo (s_aload_n3 dL_law_1093 rfl) ?_
  refine pGo (s_iload_n dL_law_1094 rfl) ?_
  refine pGo (s_iconst dL_law_1095) ?_
  refine pGo (s_iadd dL_law_1096) ?_
  refine pGoE (y := (rd σ (-1) (i + 2))) (s_sld dL_law_1097 ⟨by omega, by omega⟩) (eS _) ?_
  refine pGo (s_aload_n3 dL_law_1098 rfl) ?_
  refine pGo (s_iload_n dL_law_1099 rfl) ?_
  refine pGo (s_iconst dL_law_1100) ?_
  refine pGo (s_iadd dL_law_1101) ?_
  refine pGoE (y := (rd σ (-1) (i + 3))) (s_sld dL_law_1102 ⟨by omega, by omega⟩) (eS _) ?_
  refine p_callV (As := [(0, (rd σ (-1) (i + 1))), (0, (rd σ (-1) (i + 2))), (0, (rd σ (-1) (i + 3)))]) (st := [(0, v)]) (n := 3) (d' := 100) pc11 ok_X11_wait ml_law_121 im_X11_wait se_X11_wait dL_law_1103 (ob_68 (Stat.le h.1 e1)) (pargs_of rfl) rfl (Nat.le_of_ble_eq_true rfl) (by omega) q1 (fun r2 τ2 e2 q2 w2 => ?_)
  obtain ⟨rfl, H⟩ := q2
  show pR mL_law d 1106 [(3, 0), (2, 0), (2, 68), (0, i)] [(0, v), (0, v)] τ2 Q
  refine pGo (s_iceqT (tgt := 1233) dL_law_1106 (by decide)) ?_
  exact k _ (e1.tr e2) H
set_option maxRecDepth 100000 in
theorem law_c_snow {d n : Nat} {σ : pS} {i : Int} {Q : Option pV → pS → Prop} (hd : 101 ≤ d) (h : RB n σ) (hn : n < 512) (i0 : 0 ≤ i) (i7 : i + 7 ≤ rd σ (-2) 0) (s : ∀ j : Int, inR (rd σ (-1) j)) (k : ∀ υ, pLe σ υ → RB (n + 1) υ → pR mL_law d 1233 [(3, 0), (2, 0), (2, 68), (0, i)] [] υ Q) : pR mL_law d 1111 [(3, 0), (2, 0), (2, 68), (0, i)] [] σ Q := by
  refine pGo (s_aload_n dL_law_1111 rfl (by decide)) ?_
  refine pGo (s_aload_n3 dL_law_1112 rfl) ?_
  refine pGo (s_iload_n dL_law_1113 rfl) ?_
  refine pGo (s_iconst dL_law_1114) ?_
  refine pGo (s_iadd dL_law_1115) ?_
  refine pGo (s_sld dL_law_1116 ⟨by omega, by omega⟩) ?_
  refine pGo (s_aload_n3 dL_law_1117 rfl) ?_
  refine pGo (s_iload_n dL_law_1118 rfl) ?_
  refine pGo (s_iconst dL_law_1119) ?_
  refine pGo (s_iadd dL_law_1120) ?_
  refine pGo (s_sld dL_law_1121 ⟨by omega, by omega⟩) ?_
  refine p_callV (As := [(0, (rd σ (-1) (i + 1))), (0, (rd σ (-1) (i + 2)))]) (st := []) (n := 2) (d' := 100) pc10 ok_X10_snow ml_law_122 im_X10_snow se_X10_snow dL_law_1122 (ob_0 h.1) (pargs_of rfl) rfl (Nat.le_of_ble_eq_true rfl) (by omega) (op_snow (Nat.le_refl 100) h hn (s _) (s _)) (fun r1 τ1 e1 q1 w1 => ?_)
  obtain ⟨v, rfl⟩ := w1
  have eL : rd τ1 (-2) 0 = rd σ (-2) 0 := e1.2.2.2 _ _ (by decide)
  have eS : ∀ j, rd τ1 (-1) j = rd σ (-1) j := fun j => e1.2.2.2 _ _ (by decide)
  show pR mL_law d 1125 [(3, 0), (2, 0), (2, 68), (0, i)] [(0, v)] τ1 Q
  refine pGo (s_aload_n dL_law_1125 rfl (by decide)) ?_
  refine pGo (s_aload_n3 dL_law_1126 rfl) ?_
  refine pGo (s_iload_n dL_law_1127 rfl) ?_
  refine pGo (s_iconst dL_law_1128) ?_
  refine pGo (s_iadd dL_law_1129) ?_
  refine pGoE (y := (rd σ (-1) (i + 1))) (s_sld dL_law_1130 ⟨by omega, by omega⟩) (eS _) ?_
  refine pGo (s_aload_n3 dL_law_1131 rfl) ?_
  refine pGo (s_iload_n dL_law_1132 rfl) ?_
  refine pGo (s_iconst dL_law_1133) ?_
  refine pGo (s_iadd dL_law_1134) ?_
  refine pGoE (y := (rd σ (-1) (i + 2))) (s_sld dL_law_1135 ⟨by omega, by omega⟩) (eS _) ?_
  refine p_callV (As := [(0, (rd σ (-1) (i + 1))), (0, (rd σ (-1) (i + 2)))]) (st := [(0, v)]) (n := 2) (d' := 100) pc11 ok_X11_snow ml_law_125 im_X11_snow se_X11_snow dL_law_1136 (ob_68 (Stat.le h.1 e1)) (pargs_of rfl) rfl (Nat.le_of_ble_eq_true rfl) (by omega) q1 (fun r2 τ2 e2 q2 w2 => ?_)
  obtain ⟨rfl, H⟩ := q2
  show pR mL_law d 1139 [(3, 0), (2, 0), (2, 68), (0, i)] [(0, v), (0, v)] τ2 Q
  refine pGo (s_iceqT (tgt := 1233) dL_law_1139 (by decide)) ?_
  exact k _ (e1.tr e2) H
set_option maxRecDepth 100000 in
theorem law_c_took {d n : Nat} {σ : pS} {i : Int} {Q : Option pV → pS → Prop} (hd : 101 ≤ d) (h : RB n σ) (hn : n < 512) (i0 : 0 ≤ i) (i7 : i + 7 ≤ rd σ (-2) 0) (s : ∀ j : Int, inR (rd σ (-1) j)) (k : ∀ υ, pLe σ υ → RB (n + 1) υ → pR mL_law d 1233 [(3, 0), (2, 0), (2, 68), (0, i)] [] υ Q) : pR mL_law d 1144 [(3, 0), (2, 0), (2, 68), (0, i)] [] σ Q := by
  refine pGo (s_aload_n dL_law_1144 rfl (by decide)) ?_
  refine pGo (s_aload_n3 dL_law_1145 rfl) ?_
  refine pGo (s_iload_n dL_law_1146 rfl) ?_
  refine pGo (s_iconst dL_law_1147) ?_
  refine pGo (s_iadd dL_law_1148) ?_
  refine pGo (s_sld dL_law_1149 ⟨by omega, by omega⟩) ?_
  refine pGo (s_aload_n3 dL_law_1150 rfl) ?_
  refine pGo (s_iload_n dL_law_1151 rfl) ?_
  refine pGo (s_iconst dL_law_1152) ?_
  refine pGo (s_iadd dL_law_1153) ?_
  refine pGo (s_sld dL_law_1154 ⟨by omega, by omega⟩) ?_
  refine p_callV (As := [(0, (rd σ (-1) (i + 1))), (0, (rd σ (-1) (i + 2)))]) (st := []) (n := 2) (d' := 100) pc10 ok_X10_took ml_law_126 im_X10_took se_X10_took dL_law_1155 (ob_0 h.1) (pargs_of rfl) rfl (Nat.le_of_ble_eq_true rfl) (by omega) (op_took (Nat.le_refl 100) h hn (s _) (s _)) (fun r1 τ1 e1 q1 w1 => ?_)
  obtain ⟨v, rfl⟩ := w1
  have eL : rd τ1 (-2) 0 = rd σ (-2) 0 := e1.2.2.2 _ _ (by decide)
  have eS : ∀ j, rd τ1 (-1) j = rd σ (-1) j := fun j => e1.2.2.2 _ _ (by decide)
  show pR mL_law d 1158 [(3, 0), (2, 0), (2, 68), (0, i)] [(0, v)] τ1 Q
  refine pGo (s_aload_n dL_law_1158 rfl (by decide)) ?_
  refine pGo (s_aload_n3 dL_law_1159 rfl) ?_
  refine pGo (s_iload_n dL_law_1160 rfl) ?_
  refine pGo (s_iconst dL_law_1161) ?_
  refine pGo (s_iadd dL_law_1162) ?_
  refine pGoE (y := (rd σ (-1) (i + 1))) (s_sld dL_law_1163 ⟨by omega, by omega⟩) (eS _) ?_
  refine pGo (s_aload_n3 dL_law_1164 rfl) ?_
  refine pGo (s_iload_n dL_law_1165 rfl) ?_
  refine pGo (s_iconst dL_law_1166) ?_
  refine pGo (s_iadd dL_law_1167) ?_
  refine pGoE (y := (rd σ (-1) (i + 2))) (s_sld dL_law_1168 ⟨by omega, by omega⟩) (eS _) ?_
  refine p_callV (As := [(0, (rd σ (-1) (i + 1))), (0, (rd σ (-1) (i + 2)))]) (st := [(0, v)]) (n := 2) (d' := 100) pc11 ok_X11_took ml_law_129 im_X11_took se_X11_took dL_law_1169 (ob_68 (Stat.le h.1 e1)) (pargs_of rfl) rfl (Nat.le_of_ble_eq_true rfl) (by omega) q1 (fun r2 τ2 e2 q2 w2 => ?_)
  obtain ⟨rfl, H⟩ := q2
  show pR mL_law d 1172 [(3, 0), (2, 0), (2, 68), (0, i)] [(0, v), (0, v)] τ2 Q
  refine pGo (s_iceqT (tgt := 1233) dL_law_1172 (by decide)) ?_
  exact k _ (e1.tr e2) H
set_option maxRecDepth 100000 in
theorem law_c_sweep {d n : Nat} {σ : pS} {i : Int} {Q : Option pV → pS → Prop} (hd : 101 ≤ d) (h : RB n σ) (hn : n < 512) (i0 : 0 ≤ i) (i7 : i + 7 ≤ rd σ (-2) 0) (s : ∀ j : Int, inR (rd σ (-1) j)) (k : ∀ υ, pLe σ υ → RB (n + 1) υ → pR mL_law d 1233 [(3, 0), (2, 0), (2, 68), (0, i)] [] υ Q) : pR mL_law d 1177 [(3, 0), (2, 0), (2, 68), (0, i)] [] σ Q := by
  refine pGo (s_aload_n dL_law_1177 rfl (by decide)) ?_
  refine pGo (s_aload_n3 dL_law_1178 rfl) ?_
  refine pGo (s_iload_n dL_law_1179 rfl) ?_
  refine pGo (s_iconst dL_law_1180) ?_
  refine pGo (s_iadd dL_law_1181) ?_
  refine pGo (s_sld dL_law_1182 ⟨by omega, by omega⟩) ?_
  refine pGo (s_aload_n3 dL_law_1183 rfl) ?_
  refine pGo (s_iload_n dL_law_1184 rfl) ?_
  refine pGo (s_iconst dL_law_1185) ?_
  refine pGo (s_iadd dL_law_1186) ?_
  refine pGo (s_sld dL_law_1187 ⟨by omega, by omega⟩) ?_
  refine p_callV (As := [(0, (rd σ (-1) (i + 1))), (0, (rd σ (-1) (i + 2)))]) (st := []) (n := 2) (d' := 100) pc10 ok_X10_sweep ml_law_130 im_X10_sweep se_X10_sweep dL_law_1188 (ob_0 h.1) (pargs_of rfl) rfl (Nat.le_of_ble_eq_true rfl) (by omega) (op_sweep (Nat.le_refl 100) h hn (s _) (s _)) (fun r1 τ1 e1 q1 w1 => ?_)
  obtain ⟨v, rfl⟩ := w1
  have eL : rd τ1 (-2) 0 = rd σ (-2) 0 := e1.2.2.2 _ _ (by decide)
  have eS : ∀ j, rd τ1 (-1) j = rd σ (-1) j := fun j => e1.2.2.2 _ _ (by decide)
  show pR mL_law d 1191 [(3, 0), (2, 0), (2, 68), (0, i)] [(0, v)] τ1 Q
  refine pGo (s_aload_n dL_law_1191 rfl (by decide)) ?_
  refine pGo (s_aload_n3 dL_law_1192 rfl) ?_
  refine pGo (s_iload_n dL_law_1193 rfl) ?_
  refine pGo (s_iconst dL_law_1194) ?_
  refine pGo (s_iadd dL_law_1195) ?_
  refine pGoE (y := (rd σ (-1) (i + 1))) (s_sld dL_law_1196 ⟨by omega, by omega⟩) (eS _) ?_
  refine pGo (s_aload_n3 dL_law_1197 rfl) ?_
  refine pGo (s_iload_n dL_law_1198 rfl) ?_
  refine pGo (s_iconst dL_law_1199) ?_
  refine pGo (s_iadd dL_law_1200) ?_
  refine pGoE (y := (rd σ (-1) (i + 2))) (s_sld dL_law_1201 ⟨by omega, by omega⟩) (eS _) ?_
  refine p_callV (As := [(0, (rd σ (-1) (i + 1))), (0, (rd σ (-1) (i + 2)))]) (st := [(0, v)]) (n := 2) (d' := 100) pc11 ok_X11_sweep ml_law_133 im_X11_sweep se_X11_sweep dL_law_1202 (ob_68 (Stat.le h.1 e1)) (pargs_of rfl) rfl (Nat.le_of_ble_eq_true rfl) (by omega) q1 (fun r2 τ2 e2 q2 w2 => ?_)
  obtain ⟨rfl, H⟩ := q2
  show pR mL_law d 1205 [(3, 0), (2, 0), (2, 68), (0, i)] [(0, v), (0, v)] τ2 Q
  refine pGo (s_iceqT (tgt := 1233) dL_law_1205 (by decide)) ?_
  exact k _ (e1.tr e2) H
set_option maxRecDepth 100000 in
theorem law_c_about {d n : Nat} {σ : pS} {i : Int} {Q : Option pV → pS → Prop} (hd : 101 ≤ d) (h : RB n σ) (hn : n < 512) (i0 : 0 ≤ i) (i7 : i + 7 ≤ rd σ (-2) 0) (s : ∀ j : Int, inR (rd σ (-1) j)) (k : ∀ υ, pLe σ υ → RB (n + 1) υ → pR mL_law d 1233 [(3, 0), (2, 0), (2, 68), (0, i)] [] υ Q) : pR mL_law d 1210 [(3, 0), (2, 0), (2, 68), (0, i)] [] σ Q := by
  refine pGo (s_aload_n dL_law_1210 rfl (by decide)) ?_
  refine pGo (s_aload_n3 dL_law_1211 rfl) ?_
  refine pGo (s_iload_n dL_law_1212 rfl) ?_
  refine pGo (s_iconst dL_law_1213) ?_
  refine pGo (s_iadd dL_law_1214) ?_
  refine pGo (s_sld dL_law_1215 ⟨by omega, by omega⟩) ?_
  refine p_callV (As := [(0, (rd σ (-1) (i + 1)))]) (st := []) (n := 1) (d' := 100) pc10 ok_X10_about ml_law_134 im_X10_about se_X10_about dL_law_1216 (ob_0 h.1) (pargs_of rfl) rfl (Nat.le_of_ble_eq_true rfl) (by omega) (op_about (Nat.le_refl 100) h hn (s _)) (fun r1 τ1 e1 q1 w1 => ?_)
  obtain ⟨v, rfl⟩ := w1
  have eL : rd τ1 (-2) 0 = rd σ (-2) 0 := e1.2.2.2 _ _ (by decide)
  have eS : ∀ j, rd τ1 (-1) j = rd σ (-1) j := fun j => e1.2.2.2 _ _ (by decide)
  show pR mL_law d 1219 [(3, 0), (2, 0), (2, 68), (0, i)] [(0, v)] τ1 Q
  refine pGo (s_aload_n dL_law_1219 rfl (by decide)) ?_
  refine pGo (s_aload_n3 dL_law_1220 rfl) ?_
  refine pGo (s_iload_n dL_law_1221 rfl) ?_
  refine pGo (s_iconst dL_law_1222) ?_
  refine pGo (s_iadd dL_law_1223) ?_
  refine pGoE (y := (rd σ (-1) (i + 1))) (s_sld dL_law_1224 ⟨by omega, by omega⟩) (eS _) ?_
  refine p_callV (As := [(0, (rd σ (-1) (i + 1)))]) (st := [(0, v)]) (n := 1) (d' := 100) pc11 ok_X11_about ml_law_137 im_X11_about se_X11_about dL_law_1225 (ob_68 (Stat.le h.1 e1)) (pargs_of rfl) rfl (Nat.le_of_ble_eq_true rfl) (by omega) q1 (fun r2 τ2 e2 q2 w2 => ?_)
  obtain ⟨rfl, H⟩ := q2
  show pR mL_law d 1228 [(3, 0), (2, 0), (2, 68), (0, i)] [(0, v), (0, v)] τ2 Q
  refine pGo (s_iceqT (tgt := 1233) dL_law_1228 (by decide)) ?_
  exact k _ (e1.tr e2) H
