/-! steps of the small machine, an instruction each: constants, locals, arithmetic, branches -/
theorem i32 {x : Int} (h : inR x) : (Int32.ofInt x).toInt = x := Int32.toInt_ofInt_of_le (by omega) (by omega)
theorem i32_eq {x y : Int} (hx : inR x) (hy : inR y) : (Int32.ofInt x = Int32.ofInt y) ↔ x = y := by rw [← Int32.toInt_inj, i32 hx, i32 hy]
theorem i32_lt {x y : Int} (hx : inR x) (hy : inR y) : (Int32.ofInt x < Int32.ofInt y) ↔ x < y := by rw [Int32.lt_iff_toInt_lt, i32 hx, i32 hy]
theorem i32_le {x y : Int} (hx : inR x) (hy : inR y) : (Int32.ofInt x ≤ Int32.ofInt y) ↔ x ≤ y := by rw [Int32.le_iff_toInt_le, i32 hx, i32 hy]
theorem i32_0 : (0 : Int32) = Int32.ofInt 0 := rfl
theorem inR0 : inR 0 := by omega
theorem i32_in {i : Int} {n : Nat} (h0 : 0 ≤ i) (h1 : i < n) (hR : inR i) : vp_in (Int32.ofInt i) n ∧ (Int32.ofInt i).toNatClampNeg = i.toNat := by
  have e : (Int32.ofInt i).toNatClampNeg = i.toNat := by rw [Int32.toNatClampNeg_ofInt_of_le (by omega) (by omega)]
  refine ⟨?_, e⟩
  unfold vp_in
  rw [e, i32_0, i32_lt hR inR0]
  omega
def i_and (x y : Int) : Int := (Int32.ofInt x &&& Int32.ofInt y).toInt
def i_or (x y : Int) : Int := (Int32.ofInt x ||| Int32.ofInt y).toInt
def i_xor (x y : Int) : Int := (Int32.ofInt x ^^^ Int32.ofInt y).toInt
def i_shl (x y : Int) : Int := (Int32.ofInt x <<< (Int32.ofInt y &&& 31)).toInt
def i_shr (x y : Int) : Int := (Int32.ofInt x >>> (Int32.ofInt y &&& 31)).toInt
def i_b (x : Int) : Int := ((Int32.ofInt x).toInt8.toInt32).toInt
def i_c (x : Int) : Int := (((Int32.ofInt x).toUInt32 % 65536).toInt32).toInt
def l_or (x y : Int) : Int := (Int64.ofInt x ||| Int64.ofInt y).toInt
def l_shl (x y : Int) : Int := (Int64.ofInt x <<< ((Int32.ofInt y).toInt64 &&& 63)).toInt
def l_cmp (x y : Int) : Int := if y < x then 1 else if x = y then 0 else -1
abbrev inL (x : Int) : Prop := -9223372036854775808 ≤ x ∧ x < 9223372036854775808
theorem i64 {x : Int} (h : inL x) : (Int64.ofInt x).toInt = x := Int64.toInt_ofInt_of_le (by omega) (by omega)
theorem l_cmp_of {x y : Int} (hx : inL x) (hy : inL y) : lg_cmp (Int64.ofInt x) (Int64.ofInt y) = Int32.ofInt (l_cmp x y) := by
  unfold lg_cmp l_cmp
  have e1 : (Int64.ofInt x > Int64.ofInt y) ↔ y < x := by rw [gt_iff_lt, Int64.lt_iff_toInt_lt, i64 hx, i64 hy]
  have e2 : (Int64.ofInt x = Int64.ofInt y) ↔ x = y := by rw [← Int64.toInt_inj, i64 hx, i64 hy]
  by_cases h1 : y < x
  · rw [if_pos h1, if_pos (e1.mpr h1)]; rfl
  · rw [if_neg h1, if_neg (fun z => h1 (e1.mp z))]
    by_cases h2 : x = y
    · rw [if_pos h2, if_pos (e2.mpr h2)]; rfl
    · rw [if_neg h2, if_neg (fun z => h2 (e2.mp z))]; rfl
section PRULES
variable {M : pM} {d pc : Nat} {ls st : List pV} {σ : pS}
theorem s_iconst {n : Int} (hd : decode M.2.1 pc = .ok (.iconst n, 1)) : pStep M d pc ls (st) σ (pc + 1) ls ((0, n) :: st) σ := pStep.pure (fun p l e R s m args below meth c H locs cells slots Q g lsA hC hl k => lv_iconst hC.1 hC.2.1 hd rfl k)
theorem s_bipush {n : Int} (hd : decode M.2.1 pc = .ok (.bipush n, 2)) (hv : (Int8.ofInt n).toInt32 = Int32.ofInt n) : pStep M d pc ls (st) σ (pc + 2) ls ((0, n) :: st) σ := pStep.pure (fun p l e R s m args below meth c H locs cells slots Q g lsA hC hl k => lv_bipush hC.1 hC.2.1 hd hv k)
theorem s_sipush {n : Int} (hd : decode M.2.1 pc = .ok (.sipush n, 3)) (hv : (Int16.ofInt n).toInt32 = Int32.ofInt n) : pStep M d pc ls (st) σ (pc + 3) ls ((0, n) :: st) σ := pStep.pure (fun p l e R s m args below meth c H locs cells slots Q g lsA hC hl k => lv_sipush hC.1 hC.2.1 hd hv k)
theorem s_ldc {n : Int} {v : Int32} {idx : Nat} (hd : decode M.2.1 pc = .ok (.ldc idx, 2)) (hw : Cond.constant M.1.cls idx v ∈ wsA) (hv : v = Int32.ofInt n) : pStep M d pc ls (st) σ (pc + 2) ls ((0, n) :: st) σ := pStep.pure (fun p l e R s m args below meth c H locs cells slots Q g lsA hC hl k => by subst hv; exact lv_ldc hC.1 hC.2.1 hC.2.2.2.2.1 (hC.2.2.2.2.2.1 _ hw) hd k)
theorem s_ldcw {n : Int} {v : Int32} {idx : Nat} (hd : decode M.2.1 pc = .ok (.ldc_w idx, 3)) (hw : Cond.constant M.1.cls idx v ∈ wsA) (hv : v = Int32.ofInt n) : pStep M d pc ls (st) σ (pc + 3) ls ((0, n) :: st) σ := pStep.pure (fun p l e R s m args below meth c H locs cells slots Q g lsA hC hl k => by subst hv; exact lv_ldcw hC.1 hC.2.1 hC.2.2.2.2.1 (hC.2.2.2.2.2.1 _ hw) hd k)
theorem s_ldc2 {n : Int} {v : Int64} {idx : Nat} (hd : decode M.2.1 pc = .ok (.ldc2_w idx, 3)) (hw : Cond.constantLong M.1.cls idx v ∈ wsA) (hv : v = Int64.ofInt n) : pStep M d pc ls (st) σ (pc + 3) ls ((1, n) :: st) σ := pStep.pure (fun p l e R s m args below meth c H locs cells slots Q g lsA hC hl k => by subst hv; exact lv_ldc2 hC.1 hC.2.1 hC.2.2.2.2.1 (hC.2.2.2.2.2.1 _ hw) hd k)
theorem s_lconst {n : Fin 2} {v : Int} (hd : decode M.2.1 pc = .ok (.lconst n, 1)) (hv : Int64.ofNat (n : Nat) = Int64.ofInt v) : pStep M d pc ls (st) σ (pc + 1) ls ((1, v) :: st) σ := pStep.pure (fun p l e R s m args below meth c H locs cells slots Q g lsA hC hl k => lv_lconst hC.1 hC.2.1 hd hv k)
theorem s_null  (hd : decode M.2.1 pc = .ok (.aconst_null, 1)) : pStep M d pc ls (st) σ (pc + 1) ls ((2, -1) :: st) σ := pStep.pure (fun p l e R s m args below meth c H locs cells slots Q g lsA hC hl k => lv_null hC.1 hC.2.1 hd k)
theorem s_iload {i : Nat} {x : Int} (hd : decode M.2.1 pc = .ok (.iload i, 2)) (hv : ls[i]? = some (0, x)) : pStep M d pc ls (st) σ (pc + 2) ls ((0, x) :: st) σ := pStep.pure (fun p l e R s m args below meth c H locs cells slots Q g lsA hC hl k => lv_iload hC.1 hC.2.1 hd (plv_at hl hv (by decide : (0 : Nat) ≠ 9)) k)
theorem s_iload_n {n : Fin 4} {x : Int} (hd : decode M.2.1 pc = .ok (.iload_n n, 1)) (hv : ls[(n : Nat)]? = some (0, x)) : pStep M d pc ls (st) σ (pc + 1) ls ((0, x) :: st) σ := pStep.pure (fun p l e R s m args below meth c H locs cells slots Q g lsA hC hl k => lv_iload_n hC.1 hC.2.1 hd rfl (plv_at hl hv (by decide : (0 : Nat) ≠ 9)) k)
theorem s_lload {i : Nat} {x : Int} (hd : decode M.2.1 pc = .ok (.lload i, 2)) (hv : ls[i]? = some (1, x)) : pStep M d pc ls (st) σ (pc + 2) ls ((1, x) :: st) σ := pStep.pure (fun p l e R s m args below meth c H locs cells slots Q g lsA hC hl k => lv_lload hC.1 hC.2.1 hd (plv_at hl hv (by decide : (1 : Nat) ≠ 9)) k)
theorem s_lload_n {n : Fin 4} {x : Int} (hd : decode M.2.1 pc = .ok (.lload_n n, 1)) (hv : ls[(n : Nat)]? = some (1, x)) : pStep M d pc ls (st) σ (pc + 1) ls ((1, x) :: st) σ := pStep.pure (fun p l e R s m args below meth c H locs cells slots Q g lsA hC hl k => lv_lload_n hC.1 hC.2.1 hd rfl (plv_at hl hv (by decide : (1 : Nat) ≠ 9)) k)
theorem s_aload {i : Nat} {x : Int} (hd : decode M.2.1 pc = .ok (.aload i, 2)) (hv : ls[i]? = some (2, x)) (h0 : 0 ≤ x) : pStep M d pc ls st σ (pc + 2) ls ((2, x) :: st) σ := pStep.pure (fun p l e R s m args below meth c H locs cells slots Q g lsA hC hl k => by
  have hq := plv_at hl hv (by decide : (2 : Nat) ≠ 9)
  rw [pval_2 h0] at hq
  rw [List.map_cons, pval_2 h0] at k
  exact lv_aload hC.1 hC.2.1 hd hq k)
theorem s_aload3 {i : Nat} {x : Int} (hd : decode M.2.1 pc = .ok (.aload i, 2)) (hv : ls[i]? = some (3, x)) : pStep M d pc ls st σ (pc + 2) ls ((3, x) :: st) σ := pStep.pure (fun p l e R s m args below meth c H locs cells slots Q g lsA hC hl k => lv_aload hC.1 hC.2.1 hd (plv_at hl hv (by decide : (3 : Nat) ≠ 9)) k)
theorem s_aload_n {n : Fin 4} {x : Int} (hd : decode M.2.1 pc = .ok (.aload_n n, 1)) (hv : ls[(n : Nat)]? = some (2, x)) (h0 : 0 ≤ x) : pStep M d pc ls st σ (pc + 1) ls ((2, x) :: st) σ := pStep.pure (fun p l e R s m args below meth c H locs cells slots Q g lsA hC hl k => by
  have hq := plv_at hl hv (by decide : (2 : Nat) ≠ 9)
  rw [pval_2 h0] at hq
  rw [List.map_cons, pval_2 h0] at k
  exact lv_aload_n hC.1 hC.2.1 hd rfl hq k)
theorem s_aload_n3 {n : Fin 4} {x : Int} (hd : decode M.2.1 pc = .ok (.aload_n n, 1)) (hv : ls[(n : Nat)]? = some (3, x)) : pStep M d pc ls st σ (pc + 1) ls ((3, x) :: st) σ := pStep.pure (fun p l e R s m args below meth c H locs cells slots Q g lsA hC hl k => lv_aload_n hC.1 hC.2.1 hd rfl (plv_at hl hv (by decide : (3 : Nat) ≠ 9)) k)
theorem s_aloadN {i : Nat} {x : Int} (hd : decode M.2.1 pc = .ok (.aload i, 2)) (hv : ls[i]? = some (2, x)) (h0 : x < 0) : pStep M d pc ls st σ (pc + 2) ls ((2, x) :: st) σ := pStep.pure (fun p l e R s m args below meth c H locs cells slots Q g lsA hC hl k => by
  have hq := plv_at hl hv (by decide : (2 : Nat) ≠ 9)
  rw [pval_2n h0] at hq
  rw [List.map_cons, pval_2n h0] at k
  exact lv_aloadN hC.1 hC.2.1 hd hq k)
theorem s_iadd {x y : Int} (hd : decode M.2.1 pc = .ok (.iadd, 1)) : pStep M d pc ls ((0, y) :: (0, x) :: st) σ (pc + 1) ls ((0, x + y) :: st) σ := pStep.pure (fun p l e R s m args below meth c H locs cells slots Q g lsA hC hl k => lv_iadd hC.1 hC.2.1 hd (by rw [← Int32.ofInt_add]; exact k))
theorem s_isub {x y : Int} (hd : decode M.2.1 pc = .ok (.isub, 1)) : pStep M d pc ls ((0, y) :: (0, x) :: st) σ (pc + 1) ls ((0, x - y) :: st) σ := pStep.pure (fun p l e R s m args below meth c H locs cells slots Q g lsA hC hl k => lv_isub hC.1 hC.2.1 hd (by rw [← Int32.ofInt_sub]; exact k))
theorem s_imul {x y : Int} (hd : decode M.2.1 pc = .ok (.imul, 1)) : pStep M d pc ls ((0, y) :: (0, x) :: st) σ (pc + 1) ls ((0, x * y) :: st) σ := pStep.pure (fun p l e R s m args below meth c H locs cells slots Q g lsA hC hl k => lv_imul hC.1 hC.2.1 hd (by rw [← Int32.ofInt_mul]; exact k))
theorem s_ladd {x y : Int} (hd : decode M.2.1 pc = .ok (.ladd, 1)) : pStep M d pc ls ((1, y) :: (1, x) :: st) σ (pc + 1) ls ((1, x + y) :: st) σ := pStep.pure (fun p l e R s m args below meth c H locs cells slots Q g lsA hC hl k => lv_ladd hC.1 hC.2.1 hd (by rw [← Int64.ofInt_add]; exact k))
theorem s_lsub {x y : Int} (hd : decode M.2.1 pc = .ok (.lsub, 1)) : pStep M d pc ls ((1, y) :: (1, x) :: st) σ (pc + 1) ls ((1, x - y) :: st) σ := pStep.pure (fun p l e R s m args below meth c H locs cells slots Q g lsA hC hl k => lv_lsub hC.1 hC.2.1 hd (by rw [← Int64.ofInt_sub]; exact k))
theorem s_lmul {x y : Int} (hd : decode M.2.1 pc = .ok (.lmul, 1)) : pStep M d pc ls ((1, y) :: (1, x) :: st) σ (pc + 1) ls ((1, x * y) :: st) σ := pStep.pure (fun p l e R s m args below meth c H locs cells slots Q g lsA hC hl k => lv_lmul hC.1 hC.2.1 hd (by rw [← Int64.ofInt_mul]; exact k))
theorem ofInt_tdiv {x y : Int} (hx : inR x) (hy : inR y) : Int32.ofInt x / Int32.ofInt y = Int32.ofInt (x.tdiv y) :=
  (Int32.ofInt_tdiv (by rw [show Int32.minValue.toInt = -2147483648 from rfl]; omega) (by rw [show Int32.maxValue.toInt = 2147483647 from rfl]; omega) (by rw [show Int32.minValue.toInt = -2147483648 from rfl]; omega) (by rw [show Int32.maxValue.toInt = 2147483647 from rfl]; omega)).symm
theorem ne0_32 {y : Int} (hy : inR y) (h : y ≠ 0) : ¬ Int32.ofInt y = 0 := fun q => h ((i32_eq hy inR0).mp q)
theorem s_idiv {x y : Int} (hd : decode M.2.1 pc = .ok (.idiv, 1)) (hx : inR x) (hy : inR y) (h0 : y ≠ 0) : pStep M d pc ls ((0, y) :: (0, x) :: st) σ (pc + 1) ls ((0, x.tdiv y) :: st) σ := pStep.pure (fun p l e R s m args below meth c H locs cells slots Q g lsA hC hl k => lv_idiv hC.1 hC.2.1 hd (ne0_32 hy h0) (by rw [ofInt_tdiv hx hy]; exact k))
theorem s_irem {x y : Int} (hd : decode M.2.1 pc = .ok (.irem, 1)) (hx : inR x) (hy : inR y) (h0 : y ≠ 0) : pStep M d pc ls ((0, y) :: (0, x) :: st) σ (pc + 1) ls ((0, x.tmod y) :: st) σ := pStep.pure (fun p l e R s m args below meth c H locs cells slots Q g lsA hC hl k => lv_irem hC.1 hC.2.1 hd (ne0_32 hy h0) (by rw [ofInt_tdiv hx hy, ← Int32.ofInt_mul, ← Int32.ofInt_sub, show x - x.tdiv y * y = x.tmod y by have := Int.tmod_add_tdiv_mul x y; omega]; exact k))
theorem s_idivp {x y : Int} (hd : decode M.2.1 pc = .ok (.idiv, 1)) (hx : 0 ≤ x ∧ x < 2147483648) (hy : 0 < y ∧ y < 2147483648) : pStep M d pc ls ((0, y) :: (0, x) :: st) σ (pc + 1) ls ((0, x / y) :: st) σ := by
  rw [← Int.tdiv_eq_ediv_of_nonneg hx.1]; exact s_idiv hd (by omega) (by omega) (by omega)
theorem s_iremp {x y : Int} (hd : decode M.2.1 pc = .ok (.irem, 1)) (hx : 0 ≤ x ∧ x < 2147483648) (hy : 0 < y ∧ y < 2147483648) : pStep M d pc ls ((0, y) :: (0, x) :: st) σ (pc + 1) ls ((0, x % y) :: st) σ := by
  rw [← Int.tmod_eq_emod_of_nonneg hx.1]; exact s_irem hd (by omega) (by omega) (by omega)
theorem s_iand {x y : Int} (hd : decode M.2.1 pc = .ok (.iand, 1)) : pStep M d pc ls ((0, y) :: (0, x) :: st) σ (pc + 1) ls ((0, i_and x y) :: st) σ := pStep.pure (fun p l e R s m args below meth c H locs cells slots Q g lsA hC hl k => lv_iand hC.1 hC.2.1 hd (by rw [List.map_cons, pval_0, i_and, Int32.ofInt_toInt] at k; exact k))
theorem s_ior {x y : Int} (hd : decode M.2.1 pc = .ok (.ior, 1)) : pStep M d pc ls ((0, y) :: (0, x) :: st) σ (pc + 1) ls ((0, i_or x y) :: st) σ := pStep.pure (fun p l e R s m args below meth c H locs cells slots Q g lsA hC hl k => lv_ior hC.1 hC.2.1 hd (by rw [List.map_cons, pval_0, i_or, Int32.ofInt_toInt] at k; exact k))
theorem s_ixor {x y : Int} (hd : decode M.2.1 pc = .ok (.ixor, 1)) : pStep M d pc ls ((0, y) :: (0, x) :: st) σ (pc + 1) ls ((0, i_xor x y) :: st) σ := pStep.pure (fun p l e R s m args below meth c H locs cells slots Q g lsA hC hl k => lv_ixor hC.1 hC.2.1 hd (by rw [List.map_cons, pval_0, i_xor, Int32.ofInt_toInt] at k; exact k))
theorem s_ishl {x y : Int} (hd : decode M.2.1 pc = .ok (.ishl, 1)) : pStep M d pc ls ((0, y) :: (0, x) :: st) σ (pc + 1) ls ((0, i_shl x y) :: st) σ := pStep.pure (fun p l e R s m args below meth c H locs cells slots Q g lsA hC hl k => lv_ishl hC.1 hC.2.1 hd (by rw [List.map_cons, pval_0, i_shl, Int32.ofInt_toInt] at k; exact k))
theorem s_ishr {x y : Int} (hd : decode M.2.1 pc = .ok (.ishr, 1)) : pStep M d pc ls ((0, y) :: (0, x) :: st) σ (pc + 1) ls ((0, i_shr x y) :: st) σ := pStep.pure (fun p l e R s m args below meth c H locs cells slots Q g lsA hC hl k => lv_ishr hC.1 hC.2.1 hd (by rw [List.map_cons, pval_0, i_shr, Int32.ofInt_toInt] at k; exact k))
theorem s_lor {x y : Int} (hd : decode M.2.1 pc = .ok (.lor, 1)) : pStep M d pc ls ((1, y) :: (1, x) :: st) σ (pc + 1) ls ((1, l_or x y) :: st) σ := pStep.pure (fun p l e R s m args below meth c H locs cells slots Q g lsA hC hl k => lv_lor hC.1 hC.2.1 hd (by rw [List.map_cons, pval_1, l_or, Int64.ofInt_toInt] at k; exact k))
theorem s_lshl {x y : Int} (hd : decode M.2.1 pc = .ok (.lshl, 1)) : pStep M d pc ls ((0, y) :: (1, x) :: st) σ (pc + 1) ls ((1, l_shl x y) :: st) σ := pStep.pure (fun p l e R s m args below meth c H locs cells slots Q g lsA hC hl k => lv_lshl hC.1 hC.2.1 hd rfl (by rw [List.map_cons, pval_1, l_shl, Int64.ofInt_toInt] at k; exact k))
theorem s_i2b {x : Int} (hd : decode M.2.1 pc = .ok (.i2b, 1)) : pStep M d pc ls ((0, x) :: st) σ (pc + 1) ls ((0, i_b x) :: st) σ := pStep.pure (fun p l e R s m args below meth c H locs cells slots Q g lsA hC hl k => lv_i2b hC.1 hC.2.1 hd rfl (by rw [List.map_cons, pval_0, i_b, Int32.ofInt_toInt] at k; exact k))
theorem s_i2c {x : Int} (hd : decode M.2.1 pc = .ok (.i2c, 1)) : pStep M d pc ls ((0, x) :: st) σ (pc + 1) ls ((0, i_c x) :: st) σ := pStep.pure (fun p l e R s m args below meth c H locs cells slots Q g lsA hC hl k => lv_i2c hC.1 hC.2.1 hd rfl (by rw [List.map_cons, pval_0, i_c, Int32.ofInt_toInt] at k; exact k))
theorem i2l_of {x : Int} (hx : inR x) : (Int32.ofInt x).toInt64 = Int64.ofInt x := Int32.toInt64_ofInt (by rw [show Int32.minValue.toInt = -2147483648 from rfl]; omega) (by rw [show Int32.maxValue.toInt = 2147483647 from rfl]; omega)
theorem s_i2l {x : Int} (hd : decode M.2.1 pc = .ok (.i2l, 1)) (hx : inR x) : pStep M d pc ls ((0, x) :: st) σ (pc + 1) ls ((1, x) :: st) σ := pStep.pure (fun p l e R s m args below meth c H locs cells slots Q g lsA hC hl k => lv_i2l hC.1 hC.2.1 hd (i2l_of hx) k)
theorem s_l2i {x : Int} (hd : decode M.2.1 pc = .ok (.l2i, 1)) : pStep M d pc ls ((1, x) :: st) σ (pc + 1) ls ((0, x) :: st) σ := pStep.pure (fun p l e R s m args below meth c H locs cells slots Q g lsA hC hl k => lv_l2i hC.1 hC.2.1 hd Int64.toInt32_ofInt k)
theorem s_lcmp {x y : Int} (hd : decode M.2.1 pc = .ok (.lcmp, 1)) (hx : inL x) (hy : inL y) : pStep M d pc ls ((1, y) :: (1, x) :: st) σ (pc + 1) ls ((0, l_cmp x y) :: st) σ := pStep.pure (fun p l e R s m args below meth c H locs cells slots Q g lsA hC hl k => W.lcmp hC.1 hC.2.1 hd (by rw [l_cmp_of hx hy]; exact k))
theorem cat1 (g : pG) {v : pV} (h : v.1 ≠ 1) : (pval g v).category = 1 := by rw [pval_cat, if_neg h]
theorem s_dup {v : pV} (hd : decode M.2.1 pc = .ok (.dup, 1)) (h1 : v.1 ≠ 1) : pStep M d pc ls (v :: st) σ (pc + 1) ls (v :: v :: st) σ := pStep.pure (fun p l e R s m args below meth c H locs cells slots Q g lsA hC hl k => lv_dup hC.1 hC.2.1 hd (cat1 g h1) k)
theorem s_pop {v : pV} (hd : decode M.2.1 pc = .ok (.pop, 1)) (h1 : v.1 ≠ 1) : pStep M d pc ls (v :: st) σ (pc + 1) ls (st) σ := pStep.pure (fun p l e R s m args below meth c H locs cells slots Q g lsA hC hl k => lv_pop hC.1 hC.2.1 hd (cat1 g h1) k)
theorem s_dup2 {v w : pV} (hd : decode M.2.1 pc = .ok (.dup2, 1)) (h1 : v.1 ≠ 1) (h2 : w.1 ≠ 1) : pStep M d pc ls (v :: w :: st) σ (pc + 1) ls (v :: w :: v :: w :: st) σ := pStep.pure (fun p l e R s m args below meth c H locs cells slots Q g lsA hC hl k => lv_dup2_11 hC.1 hC.2.1 hd (cat1 g h1) (cat1 g h2) k)
theorem s_goto {off : Int} {tgt : Nat} (hd : decode M.2.1 pc = .ok (.goto off, 3)) (ht : (pc : Int) + off = (tgt : Int)) : pStep M d pc ls (st) σ (tgt) ls (st) σ := pStep.pure (fun p l e R s m args below meth c H locs cells slots Q g lsA hC hl k => lv_goto hC.1 hC.2.1 hd ht k)
/-- a step that stores a local -/
theorem pStep.loc {pc1 : Nat} {ls1 st1 : List pV}
    (h : ∀ (p : Program) (l : Launch) (e : Env) (R : Room) (s : State) (m : MethodId) (args : Array Value) (below : List Frame) (meth : Method) (c : Code) (H : Heap) (locs : List Loc) (cells slots : Nat) (Q : State → Prop) (g : pG) (lsA : Array Slot), pCtx M p s m args meth c → lv_has lsA M.2.2.1 (plv g 0 ls) →
      (∀ lsB : Array Slot, lv_has lsB M.2.2.1 (plv g 0 ls1) → W p l e R s m args below meth c H locs cells slots Q (F0 m pc1 lsB (st1.map (pval g)))) → W p l e R s m args below meth c H locs cells slots Q (F0 m pc lsA (st.map (pval g)))) : pStep M d pc ls st σ pc1 ls1 st1 σ := by
  refine ⟨pLe.rf σ, ?_⟩
  intro p l e R s m args below meth c H locs cells slots Q g lsA hC hU hS hH hl hd1 hd2 hc1 hc2 hE
  refine h p l e R s m args below meth c H locs cells slots Q g lsA hC hl (fun lsB hlB => ?_)
  have := hE lsB H locs hS hH hlB
  rw [Nat.sub_self, Nat.sub_self, Nat.add_zero, Nat.add_zero] at this
  exact this
theorem s_istore {i : Nat} {x : Int} (hd : decode M.2.1 pc = .ok (.istore i, 2)) (hn : i < M.2.2.1) (hp : pok1 ls i = true) : pStep M d pc ls ((0, x) :: st) σ (pc + 2) (ls.set i (0, x)) st σ := pStep.loc (fun p l e R s m args below meth c H locs cells slots Q g lsA hC hl k => lv_istore hC.1 hC.2.1 hd hl hn rfl (fun lsB hB => k lsB (plv_set1 hp hB)))
theorem s_istore_n {n : Fin 4} {x : Int} (hd : decode M.2.1 pc = .ok (.istore_n n, 1)) (hn : (n : Nat) < M.2.2.1) (hp : pok1 ls (n : Nat) = true) : pStep M d pc ls ((0, x) :: st) σ (pc + 1) (ls.set (n : Nat) (0, x)) st σ := pStep.loc (fun p l e R s m args below meth c H locs cells slots Q g lsA hC hl k => lv_istore_n hC.1 hC.2.1 hd rfl hl hn rfl (fun lsB hB => k lsB (plv_set1 hp hB)))
theorem s_lstore {i : Nat} {x : Int} (hd : decode M.2.1 pc = .ok (.lstore i, 2)) (hn : i + 1 < M.2.2.1) (hp : pok1 ls i = true) : pStep M d pc ls ((1, x) :: st) σ (pc + 2) ((ls.set i (1, x)).set (i + 1) (9, 0)) st σ := pStep.loc (fun p l e R s m args below meth c H locs cells slots Q g lsA hC hl k => lv_lstore hC.1 hC.2.1 hd hl hn rfl (fun lsB hB => k lsB (plv_set2 rfl hp hB)))
theorem s_lstore_n {n : Fin 4} {x : Int} (hd : decode M.2.1 pc = .ok (.lstore_n n, 1)) (hn : (n : Nat) + 1 < M.2.2.1) (hp : pok1 ls (n : Nat) = true) : pStep M d pc ls ((1, x) :: st) σ (pc + 1) ((ls.set (n : Nat) (1, x)).set ((n : Nat) + 1) (9, 0)) st σ := pStep.loc (fun p l e R s m args below meth c H locs cells slots Q g lsA hC hl k => lv_lstore_n hC.1 hC.2.1 hd rfl hl hn rfl (fun lsB hB => k lsB (plv_set2 rfl hp hB)))
theorem s_astore {i : Nat} {x : Int} (hd : decode M.2.1 pc = .ok (.astore i, 2)) (hn : i < M.2.2.1) (hp : pok1 ls i = true) (h0 : 0 ≤ x) : pStep M d pc ls ((2, x) :: st) σ (pc + 2) (ls.set i (2, x)) st σ := pStep.loc (fun p l e R s m args below meth c H locs cells slots Q g lsA hC hl k => by
  rw [List.map_cons, pval_2 h0]
  exact lv_astore hC.1 hC.2.1 hd hl hn rfl (fun lsB hB => k lsB (plv_set1 hp (by rw [pval_2 h0]; exact hB))))
theorem s_astore_n {n : Fin 4} {x : Int} (hd : decode M.2.1 pc = .ok (.astore_n n, 1)) (hn : (n : Nat) < M.2.2.1) (hp : pok1 ls (n : Nat) = true) (h0 : 0 ≤ x) : pStep M d pc ls ((2, x) :: st) σ (pc + 1) (ls.set (n : Nat) (2, x)) st σ := pStep.loc (fun p l e R s m args below meth c H locs cells slots Q g lsA hC hl k => by
  rw [List.map_cons, pval_2 h0]
  exact lv_astore_n hC.1 hC.2.1 hd rfl hl hn rfl (fun lsB hB => k lsB (plv_set1 hp (by rw [pval_2 h0]; exact hB))))
theorem s_astoreN {i : Nat} {x : Int} (hd : decode M.2.1 pc = .ok (.astore i, 2)) (hn : i < M.2.2.1) (hp : pok1 ls i = true) (h0 : x < 0) : pStep M d pc ls ((2, x) :: st) σ (pc + 2) (ls.set i (2, x)) st σ := pStep.loc (fun p l e R s m args below meth c H locs cells slots Q g lsA hC hl k => by
  rw [List.map_cons, pval_2n h0]
  exact lv_astoreN hC.1 hC.2.1 hd hl hn rfl (fun lsB hB => k lsB (plv_set1 hp (by rw [pval_2n h0]; exact hB))))
theorem s_iinc {i : Nat} {n x : Int} (hd : decode M.2.1 pc = .ok (.iinc i n, 3)) (hn : i < M.2.2.1) (hp : pok1 ls i = true) (hv : ls[i]? = some (0, x)) : pStep M d pc ls st σ (pc + 3) (ls.set i (0, x + n)) st σ := pStep.loc (fun p l e R s m args below meth c H locs cells slots Q g lsA hC hl k => by
  obtain ⟨j, hj⟩ := List.getElem?_of_mem ((plv_mem g _ ls 0).mpr ⟨i, (0, x), hv, (by decide : (0 : Nat) ≠ 9), rfl⟩)
  exact lv_iinc hC.1 hC.2.1 hd hl (k := j) (x := Int32.ofInt x) (by rw [hj, Nat.zero_add]; rfl) rfl hn rfl (fun lsB hB => k lsB (plv_set1 hp (by rw [pval_0, Int32.ofInt_add]; exact hB))))
theorem p_ifeq {x : Int} {off : Int} {tgt : Nat} {Q : Option pV → pS → Prop} (hd : decode M.2.1 pc = .ok (.ifCond .eq off, 3)) (ht : (pc : Int) + off = (tgt : Int)) (hx : inR x) (kt : x = 0 → pR M d tgt ls st σ Q) (kf : x ≠ 0 → pR M d (pc + 3) ls st σ Q) : pR M d pc ls ((0, x) :: st) σ Q := by
  by_cases h : x = 0
  · exact pGo (pStep.pure (fun p l e R s m args below meth c H locs cells slots Q g lsA hC hl k => lv_if_eq hC.1 hC.2.1 hd ht (fun _ => k) (fun z => absurd ((i32_eq hx inR0).mpr h) z))) (kt h)
  · exact pGo (pStep.pure (fun p l e R s m args below meth c H locs cells slots Q g lsA hC hl k => lv_if_eq hC.1 hC.2.1 hd ht (fun z => absurd z (fun q => h ((i32_eq hx inR0).mp q))) (fun _ => k))) (kf (by omega))
theorem p_iflt {x : Int} {off : Int} {tgt : Nat} {Q : Option pV → pS → Prop} (hd : decode M.2.1 pc = .ok (.ifCond .lt off, 3)) (ht : (pc : Int) + off = (tgt : Int)) (hx : inR x) (kt : x < 0 → pR M d tgt ls st σ Q) (kf : 0 ≤ x → pR M d (pc + 3) ls st σ Q) : pR M d pc ls ((0, x) :: st) σ Q := by
  by_cases h : x < 0
  · exact pGo (pStep.pure (fun p l e R s m args below meth c H locs cells slots Q g lsA hC hl k => lv_if_lt hC.1 hC.2.1 hd ht (fun _ => k) (fun z => absurd ((i32_lt hx inR0).mpr h) z))) (kt h)
  · exact pGo (pStep.pure (fun p l e R s m args below meth c H locs cells slots Q g lsA hC hl k => lv_if_lt hC.1 hC.2.1 hd ht (fun z => absurd z (fun q => h ((i32_lt hx inR0).mp q))) (fun _ => k))) (kf (by omega))
theorem p_ifge {x : Int} {off : Int} {tgt : Nat} {Q : Option pV → pS → Prop} (hd : decode M.2.1 pc = .ok (.ifCond .ge off, 3)) (ht : (pc : Int) + off = (tgt : Int)) (hx : inR x) (kt : 0 ≤ x → pR M d tgt ls st σ Q) (kf : x < 0 → pR M d (pc + 3) ls st σ Q) : pR M d pc ls ((0, x) :: st) σ Q := by
  by_cases h : 0 ≤ x
  · exact pGo (pStep.pure (fun p l e R s m args below meth c H locs cells slots Q g lsA hC hl k => lv_if_ge hC.1 hC.2.1 hd ht (fun _ => k) (fun z => absurd ((i32_le inR0 hx).mpr h) z))) (kt h)
  · exact pGo (pStep.pure (fun p l e R s m args below meth c H locs cells slots Q g lsA hC hl k => lv_if_ge hC.1 hC.2.1 hd ht (fun z => absurd z (fun q => h ((i32_le inR0 hx).mp q))) (fun _ => k))) (kf (by omega))
theorem p_ifgt {x : Int} {off : Int} {tgt : Nat} {Q : Option pV → pS → Prop} (hd : decode M.2.1 pc = .ok (.ifCond .gt off, 3)) (ht : (pc : Int) + off = (tgt : Int)) (hx : inR x) (kt : 0 < x → pR M d tgt ls st σ Q) (kf : x ≤ 0 → pR M d (pc + 3) ls st σ Q) : pR M d pc ls ((0, x) :: st) σ Q := by
  by_cases h : 0 < x
  · exact pGo (pStep.pure (fun p l e R s m args below meth c H locs cells slots Q g lsA hC hl k => lv_if_gt hC.1 hC.2.1 hd ht (fun _ => k) (fun z => absurd ((i32_lt inR0 hx).mpr h) z))) (kt h)
  · exact pGo (pStep.pure (fun p l e R s m args below meth c H locs cells slots Q g lsA hC hl k => lv_if_gt hC.1 hC.2.1 hd ht (fun z => absurd z (fun q => h ((i32_lt inR0 hx).mp q))) (fun _ => k))) (kf (by omega))
theorem p_ifle {x : Int} {off : Int} {tgt : Nat} {Q : Option pV → pS → Prop} (hd : decode M.2.1 pc = .ok (.ifCond .le off, 3)) (ht : (pc : Int) + off = (tgt : Int)) (hx : inR x) (kt : x ≤ 0 → pR M d tgt ls st σ Q) (kf : 0 < x → pR M d (pc + 3) ls st σ Q) : pR M d pc ls ((0, x) :: st) σ Q := by
  by_cases h : x ≤ 0
  · exact pGo (pStep.pure (fun p l e R s m args below meth c H locs cells slots Q g lsA hC hl k => lv_if_le hC.1 hC.2.1 hd ht (fun _ => k) (fun z => absurd ((i32_le hx inR0).mpr h) z))) (kt h)
  · exact pGo (pStep.pure (fun p l e R s m args below meth c H locs cells slots Q g lsA hC hl k => lv_if_le hC.1 hC.2.1 hd ht (fun z => absurd z (fun q => h ((i32_le hx inR0).mp q))) (fun _ => k))) (kf (by omega))
theorem p_iceq {x y : Int} {off : Int} {tgt : Nat} {Q : Option pV → pS → Prop} (hd : decode M.2.1 pc = .ok (.if_icmp .eq off, 3)) (ht : (pc : Int) + off = (tgt : Int)) (hx : inR x) (hy : inR y) (kt : x = y → pR M d tgt ls st σ Q) (kf : x ≠ y → pR M d (pc + 3) ls st σ Q) : pR M d pc ls ((0, y) :: (0, x) :: st) σ Q := by
  by_cases h : x = y
  · exact pGo (pStep.pure (fun p l e R s m args below meth c H locs cells slots Q g lsA hC hl k => lv_icmp_eq hC.1 hC.2.1 hd ht (fun _ => k) (fun z => absurd ((i32_eq hx hy).mpr h) z))) (kt h)
  · exact pGo (pStep.pure (fun p l e R s m args below meth c H locs cells slots Q g lsA hC hl k => lv_icmp_eq hC.1 hC.2.1 hd ht (fun z => absurd z (fun q => h ((i32_eq hx hy).mp q))) (fun _ => k))) (kf (by omega))
theorem p_iclt {x y : Int} {off : Int} {tgt : Nat} {Q : Option pV → pS → Prop} (hd : decode M.2.1 pc = .ok (.if_icmp .lt off, 3)) (ht : (pc : Int) + off = (tgt : Int)) (hx : inR x) (hy : inR y) (kt : x < y → pR M d tgt ls st σ Q) (kf : y ≤ x → pR M d (pc + 3) ls st σ Q) : pR M d pc ls ((0, y) :: (0, x) :: st) σ Q := by
  by_cases h : x < y
  · exact pGo (pStep.pure (fun p l e R s m args below meth c H locs cells slots Q g lsA hC hl k => lv_icmp_lt hC.1 hC.2.1 hd ht (fun _ => k) (fun z => absurd ((i32_lt hx hy).mpr h) z))) (kt h)
  · exact pGo (pStep.pure (fun p l e R s m args below meth c H locs cells slots Q g lsA hC hl k => lv_icmp_lt hC.1 hC.2.1 hd ht (fun z => absurd z (fun q => h ((i32_lt hx hy).mp q))) (fun _ => k))) (kf (by omega))
theorem p_icge {x y : Int} {off : Int} {tgt : Nat} {Q : Option pV → pS → Prop} (hd : decode M.2.1 pc = .ok (.if_icmp .ge off, 3)) (ht : (pc : Int) + off = (tgt : Int)) (hx : inR x) (hy : inR y) (kt : y ≤ x → pR M d tgt ls st σ Q) (kf : x < y → pR M d (pc + 3) ls st σ Q) : pR M d pc ls ((0, y) :: (0, x) :: st) σ Q := by
  by_cases h : y ≤ x
  · exact pGo (pStep.pure (fun p l e R s m args below meth c H locs cells slots Q g lsA hC hl k => lv_icmp_ge hC.1 hC.2.1 hd ht (fun _ => k) (fun z => absurd ((i32_le hy hx).mpr h) z))) (kt h)
  · exact pGo (pStep.pure (fun p l e R s m args below meth c H locs cells slots Q g lsA hC hl k => lv_icmp_ge hC.1 hC.2.1 hd ht (fun z => absurd z (fun q => h ((i32_le hy hx).mp q))) (fun _ => k))) (kf (by omega))
theorem p_icgt {x y : Int} {off : Int} {tgt : Nat} {Q : Option pV → pS → Prop} (hd : decode M.2.1 pc = .ok (.if_icmp .gt off, 3)) (ht : (pc : Int) + off = (tgt : Int)) (hx : inR x) (hy : inR y) (kt : y < x → pR M d tgt ls st σ Q) (kf : x ≤ y → pR M d (pc + 3) ls st σ Q) : pR M d pc ls ((0, y) :: (0, x) :: st) σ Q := by
  by_cases h : y < x
  · exact pGo (pStep.pure (fun p l e R s m args below meth c H locs cells slots Q g lsA hC hl k => lv_icmp_gt hC.1 hC.2.1 hd ht (fun _ => k) (fun z => absurd ((i32_lt hy hx).mpr h) z))) (kt h)
  · exact pGo (pStep.pure (fun p l e R s m args below meth c H locs cells slots Q g lsA hC hl k => lv_icmp_gt hC.1 hC.2.1 hd ht (fun z => absurd z (fun q => h ((i32_lt hy hx).mp q))) (fun _ => k))) (kf (by omega))
theorem p_icle {x y : Int} {off : Int} {tgt : Nat} {Q : Option pV → pS → Prop} (hd : decode M.2.1 pc = .ok (.if_icmp .le off, 3)) (ht : (pc : Int) + off = (tgt : Int)) (hx : inR x) (hy : inR y) (kt : x ≤ y → pR M d tgt ls st σ Q) (kf : y < x → pR M d (pc + 3) ls st σ Q) : pR M d pc ls ((0, y) :: (0, x) :: st) σ Q := by
  by_cases h : x ≤ y
  · exact pGo (pStep.pure (fun p l e R s m args below meth c H locs cells slots Q g lsA hC hl k => lv_icmp_le hC.1 hC.2.1 hd ht (fun _ => k) (fun z => absurd ((i32_le hx hy).mpr h) z))) (kt h)
  · exact pGo (pStep.pure (fun p l e R s m args below meth c H locs cells slots Q g lsA hC hl k => lv_icmp_le hC.1 hC.2.1 hd ht (fun z => absurd z (fun q => h ((i32_le hx hy).mp q))) (fun _ => k))) (kf (by omega))
theorem p_ifne {x : Int} {off : Int} {tgt : Nat} {Q : Option pV → pS → Prop} (hd : decode M.2.1 pc = .ok (.ifCond .ne off, 3)) (ht : (pc : Int) + off = (tgt : Int)) (hx : inR x) (kt : x ≠ 0 → pR M d tgt ls st σ Q) (kf : x = 0 → pR M d (pc + 3) ls st σ Q) : pR M d pc ls ((0, x) :: st) σ Q := by
  by_cases h : x = 0
  · exact pGo (pStep.pure (fun p l e R s m args below meth c H locs cells slots Q g lsA hC hl k => lv_if_ne hC.1 hC.2.1 hd ht (fun z => absurd ((i32_eq hx inR0).mpr h) z) (fun _ => k))) (kf h)
  · exact pGo (pStep.pure (fun p l e R s m args below meth c H locs cells slots Q g lsA hC hl k => lv_if_ne hC.1 hC.2.1 hd ht (fun _ => k) (fun z => absurd ((i32_eq hx inR0).mp z) h))) (kt h)
theorem p_icne {x y : Int} {off : Int} {tgt : Nat} {Q : Option pV → pS → Prop} (hd : decode M.2.1 pc = .ok (.if_icmp .ne off, 3)) (ht : (pc : Int) + off = (tgt : Int)) (hx : inR x) (hy : inR y) (kt : x ≠ y → pR M d tgt ls st σ Q) (kf : x = y → pR M d (pc + 3) ls st σ Q) : pR M d pc ls ((0, y) :: (0, x) :: st) σ Q := by
  by_cases h : x = y
  · exact pGo (pStep.pure (fun p l e R s m args below meth c H locs cells slots Q g lsA hC hl k => lv_icmp_ne hC.1 hC.2.1 hd ht (fun z => absurd ((i32_eq hx hy).mpr h) z) (fun _ => k))) (kf h)
  · exact pGo (pStep.pure (fun p l e R s m args below meth c H locs cells slots Q g lsA hC hl k => lv_icmp_ne hC.1 hC.2.1 hd ht (fun _ => k) (fun z => absurd ((i32_eq hx hy).mp z) h))) (kt h)
theorem p_ifnull {x : Int} {off : Int} {tgt : Nat} {Q : Option pV → pS → Prop} (hd : decode M.2.1 pc = .ok (.ifnull off, 3)) (ht : (pc : Int) + off = (tgt : Int)) (kt : x < 0 → pR M d tgt ls st σ Q) (kf : 0 ≤ x → pR M d (pc + 3) ls st σ Q) : pR M d pc ls ((2, x) :: st) σ Q := by
  by_cases h : x < 0
  · exact pGo (pStep.pure (fun p l e R s m args below meth c H locs cells slots Q g lsA hC hl k => by rw [List.map_cons, pval_2n h]; exact lv_ifnullN hC.1 hC.2.1 hd ht k)) (kt h)
  · exact pGo (pStep.pure (fun p l e R s m args below meth c H locs cells slots Q g lsA hC hl k => by rw [List.map_cons, pval_2 (by omega)]; exact lv_ifnull hC.1 hC.2.1 hd k)) (kf (by omega))
theorem p_ifnonnull {x : Int} {off : Int} {tgt : Nat} {Q : Option pV → pS → Prop} (hd : decode M.2.1 pc = .ok (.ifnonnull off, 3)) (ht : (pc : Int) + off = (tgt : Int)) (kt : 0 ≤ x → pR M d tgt ls st σ Q) (kf : x < 0 → pR M d (pc + 3) ls st σ Q) : pR M d pc ls ((2, x) :: st) σ Q := by
  by_cases h : x < 0
  · exact pGo (pStep.pure (fun p l e R s m args below meth c H locs cells slots Q g lsA hC hl k => by rw [List.map_cons, pval_2n h]; exact lv_ifnonnullN hC.1 hC.2.1 hd k)) (kf h)
  · exact pGo (pStep.pure (fun p l e R s m args below meth c H locs cells slots Q g lsA hC hl k => by rw [List.map_cons, pval_2 (by omega)]; exact lv_ifnonnull hC.1 hC.2.1 hd ht k)) (kt (by omega))
theorem s_tabout {dflt lo hi : Int} {offs : Array Int} {len : Nat} {x : Int} {tgt : Nat} (hd : decode M.2.1 pc = .ok (.tableswitch dflt lo hi offs, len)) (hx : inR x) (h : x < lo ∨ hi < x) (ht : (pc : Int) + dflt = (tgt : Int)) : pStep M d pc ls ((0, x) :: st) σ tgt ls st σ := pStep.pure (fun p l e R s m args below meth c H locs cells slots Q g lsA hC hl k => lv_tableOut hC.1 hC.2.1 hd (by rw [i32 hx]; exact h) ht k)
theorem s_tabin {dflt lo hi : Int} {offs : Array Int} {len : Nat} {x off : Int} {tgt : Nat} (hd : decode M.2.1 pc = .ok (.tableswitch dflt lo hi offs, len)) (hx : inR x) (h1 : lo ≤ x) (h2 : x ≤ hi) (ho : offs[(x - lo).toNat]? = some off) (ht : (pc : Int) + off = (tgt : Int)) : pStep M d pc ls ((0, x) :: st) σ tgt ls st σ := pStep.pure (fun p l e R s m args below meth c H locs cells slots Q g lsA hC hl k => lv_tableIn hC.1 hC.2.1 hd (by rw [i32 hx]; omega) (by rw [i32 hx]; omega) (by rw [i32 hx]; exact ho) ht k)
theorem s_lookup {dflt : Int} {ps : Array (Int × Int)} {len : Nat} {x off : Int} {tgt : Nat} (hd : decode M.2.1 pc = .ok (.lookupswitch dflt ps, len)) (hx : inR x) (hp : (ps.toList.zip (ps.toList.drop 1)).all (fun (a, next) => a.1 < next.1) = true) (ho : Op.lookupswitch.offset ps.toList dflt x = off) (ht : (pc : Int) + off = (tgt : Int)) : pStep M d pc ls ((0, x) :: st) σ tgt ls st σ := pStep.pure (fun p l e R s m args below meth c H locs cells slots Q g lsA hC hl k => lv_lookup hC.1 hC.2.1 hd hp (by rw [i32 hx]; exact ho) ht k)
end PRULES
