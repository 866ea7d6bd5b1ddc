/-! THE CLAIM OUT OF ONE WALK OF THE LAW'S BODY. Your part is whole_start (and what it stands on); all else here is the same for every law, but numbers. -/
def R_law : String := "SkiMountainLaw"
def lw_P (b : Addr) (xs : List Int32) (args : Array Value) (s : State) : Prop := args = #[.ref b] ∧ s.IntsAt b xs ∧ xs.length ≤ 3584 ∧ (Jvm.Cond.and given_1 narrow_1).before args s = true
def lw_Q (_ : Array Value) (s : State) (o : Outcome) (t : State) : Prop := o = .returned (some (.int 1)) ∧ Framed s o t [] 600000 7302250
def lw_Z (below : List Frame) (a : Array Value) (s : State) : State → Prop := fun t => ∃ o, t.status = .running ∧ Ended t below o ∧ lw_Q a s o t
/-- the law's own end, with 1 on the stack, nothing written that was there before, its room as the claim has it -/
theorem lw_ret {p : Program} {l : Launch} {e : Env} {s : State} {m : MethodId} {below : List Frame} {meth : Method} {c : Code} {b : Nat} (hx : p.tables.exec = Jvm.exec) (hb : c.code = code) (hr : meth.sig.returnType = ret) (hlocks : meth.locks = false) {pc : Nat} {H : Heap} {ls : Array Slot} (hdg : decode code pc = .ok (.ireturn, 1)) : W p l e room_1 s m #[Value.ref b] below meth c H [] 600000 7302250 (lw_Z below #[Value.ref b] s) (F0 m pc ls [.int 1]) := by
  intro T hT X
  obtain ⟨fs, hret, hrun, hended, hW, hframe⟩ := X.leave (v := some (.int 1)) (hlocks := hlocks) (fun h => by rw [hr] at h; cases h)
  have hmeth' : T.vm.method? m = some meth := X.method'
  refine ⟨T.setFrames fs, ?_, .returned (some (.int 1)), hrun, hended, rfl, ⟨_, rfl⟩, hW, hframe⟩
  jvm_step X.here [X.here.top, hx, hb, hdg, hmeth', hr, ret, narrow_b1]
  (try refine ⟨rfl, ?_⟩); (try refine ⟨rfl, ?_⟩)
  first | (intro acts; rw [hret _ acts rfl rfl rfl]) | rw [hret _ _ rfl rfl rfl]
  exact Steps.refl _
/-- what holds at the law's entry: the machine, the code, the tables' words (any of lw_tbl by 'hts w (by decide +kernel)'), the script of L ints xs at the cell b, what the Statement gives of the start (any of its parts by flat_of_before) -/
def lw_At (p : Program) (s : State) (m : MethodId) (meth : Method) (c : Code) (b L : Nat) (xs : Nat → Int32) : Prop :=
  p.tables.exec = Jvm.exec ∧ c.code = code ∧ meth.sig.returnType = ret ∧ c.maxLocals = 4 ∧ s.vm.findClass R_law = some m.cls ∧ (∀ w ∈ lw_tbl, w.before #[Value.ref b] s = true) ∧ va_X b L xs s s.heap ∧ b < s.heap.size ∧ meth.locks = false ∧ (Jvm.Cond.and given_1 narrow_1).before #[Value.ref b] s = true

theorem arr_known {s : State} {args : Array Value} {ty : FieldType} (h : (Cond.arrayClass ty).before args s = true) : ∃ cA : ClassId, ArrOfT s cA ty ∧ s.vm.findClass ("[" ++ ty.toString) = some cA := by
  obtain ⟨c, k, comp, h1, h2, h3⟩ := Cond.arrayClass_spec h
  exact ⟨c, fun n z => ⟨(fun k h => by cases h), k, h2, comp, h3⟩, h1⟩
theorem over_known {s : State} {args : Array Value} {C : String} (h : (Cond.arrayOver (.object C)).before args s = true) : ∃ cA : ClassId, ArrOfT s cA (.object C) ∧ va_RA s cA (.object C) := by
  obtain ⟨comp, c, k, h1, h2, h3, h4, h5⟩ := Cond.arrayOver_spec h
  exact ⟨c, fun n z => ⟨(fun k h => by cases h), k, h3, comp, h4⟩, k, comp, h3, h4, h1, h5⟩
def tmS (i : Nat) : Term := .string "SkiMountain$Tokens" (if i = 0 then 88 else 99)
theorem sN0 : ∀ j : Nat, j < 85 → Cond.eq (.elem (.field (.string "SkiMountain$Tokens" 88) "java/lang/String" "value" "[B") (.int (Int32.ofNat j))) (.int ((pByt.getD 0 []).getD j 0)) ∈ flatC (Jvm.Cond.and given_1 narrow_1) := by decide +kernel
theorem sN1 : ∀ j : Nat, j < 8 → Cond.eq (.elem (.field (.string "SkiMountain$Tokens" 99) "java/lang/String" "value" "[B") (.int (Int32.ofNat j))) (.int ((pByt.getD 1 []).getD j 0)) ∈ flatC (Jvm.Cond.and given_1 narrow_1) := by decide +kernel
theorem two {P : Nat → Prop} (h0 : P 0) (h1 : P 1) : ∀ i, i < 2 → P i := fun i hi => by
  match i, hi with
  | 0, _ => exact h0
  | 1, _ => exact h1
  | i + 2, h => exact absurd h (by omega)
/-- the state at the law's entry -/
def pS0 (L : Nat) (xs : Nat → Int32) : pS := ([], fun a i => if a = -1 then (xs i.toNat).toInt else if a = -2 then (L : Int) else 0)

abbrev mL_law : pM := (yL_law, cL_law, 4, some .boolean)
def LawOk : Prop := ∀ (L : Nat) (xs : Nat → Int32), L ≤ 3584 → pC mL_law 800 [(3, 0)] (pS0 L xs) (fun r τ => r = some (0, 1) ∧ τ.1.length ≤ 600000 ∧ pSz τ ≤ 7302250)
set_option maxHeartbeats 4000000 in
set_option maxRecDepth 100000 in
theorem pU_start {s : State} {b L : Nat} {xs : Nat → Int32} (hL : L ≤ 3584) (hts : ∀ w ∈ lw_tbl, w.before #[Value.ref b] s = true) (hX : va_X b L xs s s.heap) (hbl : b < s.heap.size) (hgv : (Jvm.Cond.and given_1 narrow_1).before #[Value.ref b] s = true) :
    ∃ g : pG, pU g s s.heap ∧ gB g = s.heap.size ∧ gX g = b ∧ gL g = L ∧ gS g = xs := by
  have htA : ∀ w ∈ wsA, w.before #[Value.ref b] s = true := fun w hw => hts w (List.mem_filter.mp hw).1
  have hs := flat_of_before _ hgv
  obtain ⟨c0, iS0, hKn0⟩ := u_known (C := RX0) (T := TX0) (N := 6) (n := 6) htA pcw0 (htA _ in_X0)
  obtain ⟨c1, iS1, hKn1⟩ := u_known (C := RX1) (T := TX1) (N := 13) (n := 13) htA pcw1 (htA _ in_X1)
  obtain ⟨c2, iS2, hKn2⟩ := u_known (C := RX2) (T := TX2) (N := 9) (n := 9) htA pcw2 (htA _ in_X2)
  obtain ⟨c3, iS3, hKn3⟩ := u_known (C := RX3) (T := TX3) (N := 7) (n := 7) htA pcw3 (htA _ in_X3)
  obtain ⟨c4, iS4, hKn4⟩ := u_known (C := RX4) (T := TX4) (N := 3) (n := 3) htA pcw4 (htA _ in_X4)
  obtain ⟨c5, iS5, hKn5⟩ := u_known (C := RX5) (T := TX5) (N := 9) (n := 9) htA pcw5 (htA _ in_X5)
  obtain ⟨c6, iS6, hKn6⟩ := u_known (C := RX6) (T := TX6) (N := 15) (n := 15) htA pcw6 (htA _ in_X6)
  obtain ⟨c7, iS7, hKn7⟩ := u_known (C := RX7) (T := TX7) (N := 9) (n := 9) htA pcw7 (htA _ in_X7)
  obtain ⟨c8, iS8, hKn8⟩ := u_known (C := RX8) (T := TX8) (N := 6) (n := 6) htA pcw8 (htA _ in_X8)
  obtain ⟨c9, iS9, hKn9⟩ := u_known (C := RX9) (T := TX9) (N := 7) (n := 7) htA pcw9 (htA _ in_X9)
  obtain ⟨c10, iS10, hKn10⟩ := u_known (C := RX10) (T := TX10) (N := 18) (n := 18) htA pcw10 (htA _ in_X10)
  obtain ⟨c11, iS11, hKn11⟩ := u_known (C := RX11) (T := TX11) (N := 102) (n := 102) htA pcw11 (htA _ in_X11)
  obtain ⟨dC, dI, hKc⟩ : ∃ (dC : Nat → ClassId) (dI : Nat → Nat → Nat), ∀ (k : Nat) (q : vw_C), vwCl[k]? = some q → u_Kn s q.1 q.2.1 q.2.2 (dC k) (dI k) := by
    refine ⟨fun k => if k = 0 then c0 else if k = 1 then c1 else if k = 2 then c2 else if k = 3 then c3 else if k = 4 then c4 else if k = 5 then c5 else if k = 6 then c6 else if k = 7 then c7 else if k = 8 then c8 else if k = 9 then c9 else if k = 10 then c10 else c11, fun k => if k = 0 then iS0 else if k = 1 then iS1 else if k = 2 then iS2 else if k = 3 then iS3 else if k = 4 then iS4 else if k = 5 then iS5 else if k = 6 then iS6 else if k = 7 then iS7 else if k = 8 then iS8 else if k = 9 then iS9 else if k = 10 then iS10 else iS11, ?_⟩
    intro k q hq
    match k, hq with
    | 0, hq => cases hq; exact hKn0
    | 1, hq => cases hq; exact hKn1
    | 2, hq => cases hq; exact hKn2
    | 3, hq => cases hq; exact hKn3
    | 4, hq => cases hq; exact hKn4
    | 5, hq => cases hq; exact hKn5
    | 6, hq => cases hq; exact hKn6
    | 7, hq => cases hq; exact hKn7
    | 8, hq => cases hq; exact hKn8
    | 9, hq => cases hq; exact hKn9
    | 10, hq => cases hq; exact hKn10
    | 11, hq => cases hq; exact hKn11
    | k + 12, hq => simp [vwCl] at hq
  obtain ⟨a0, p0, q0⟩ := arr_known (htA _ ac_int)
  obtain ⟨a1, p1, q1⟩ := arr_known (htA _ ac_byte)
  obtain ⟨a2, p2, q2⟩ := arr_known (htA _ ac_boolean)
  obtain ⟨a3, p3, q3⟩ := arr_known (htA _ ac_long)
  have hov : (Cond.arrayOver (.object "SkiMountain$Skier")).before #[Value.ref b] s = true := hts _ (tb_2 (List.mem_of_getElem? (i := 37) rfl))
  obtain ⟨a4, p4, q4⟩ := over_known hov
  have hA : ∀ a : Nat, a < s.heap.size → ¬ s.heap.size ≤ a := fun a h => by omega
  obtain ⟨adK, adV, hSS, hSr⟩ := vk_Sof (args := #[Value.ref b]) (s := s) (N := 2) (tm := tmS) (len := pLen) (byt := pByt) (A := fun q : Nat => s.heap.size ≤ q) (two (by decide) (by decide))
    (two (hs _ (by decide +kernel)) (hs _ (by decide +kernel))) (two (hs _ (by decide +kernel)) (hs _ (by decide +kernel))) (two (hs _ (by decide +kernel)) (hs _ (by decide +kernel))) (two (hs _ (by decide +kernel)) (hs _ (by decide +kernel)))
    (two (fun j hj => hs _ (sN0 j hj)) (fun j hj => hs _ (sN1 j hj)))
    (fun i j hi hj hij => by
      match i, j, hi, hj, hij with
      | 0, 0, _, _, h => exact absurd rfl h
      | 0, 1, _, _, _ => exact Or.inl (hs _ (by decide +kernel))
      | 1, 0, _, _, _ => exact Or.inr (hs _ (by decide +kernel))
      | 1, 1, _, _, h => exact absurd rfl h
      | i + 2, _, h, _, _ => exact absurd h (by omega)
      | 0, j + 2, _, h, _ => exact absurd h (by omega)
      | 1, j + 2, _, h, _ => exact absurd h (by omega)) hA
  have hZ : va_Z "java/lang/String" "COMPACT_STRINGS" "Z" (.int 1) (fun q : Nat => s.heap.size ≤ q) s s.heap := va_Zof (hts _ (tb_3 (List.mem_of_getElem? (i := 58) rfl))) (htA _ ii_J0) (va_eqt (hs _ (by decide +kernel))) hA
  obtain ⟨fo, hZq⟩ : ∃ fo : Option Nat, va_Z "jdk/internal/util/Preconditions" "SIOOBE_FORMATTER" "Ljava/util/function/BiFunction;" (va_rf fo) (fun q : Nat => s.heap.size ≤ q) s s.heap := by
    have hz : va_Zq "jdk/internal/util/Preconditions" "SIOOBE_FORMATTER" "Ljava/util/function/BiFunction;" (fun q : Nat => s.heap.size ≤ q) s s.heap := va_Zqof (hts _ (tb_3 (List.mem_of_getElem? (i := 74) rfl))) (htA _ ii_J3) (hs _ (by decide +kernel)) hA
    rcases hz with hz | ⟨t, hz⟩
    · exact ⟨none, hz⟩
    · exact ⟨some t, hz⟩
  refine ⟨((dC, dI), fun k => if k = 0 then a0 else if k = 1 then a1 else if k = 2 then a2 else if k = 3 then a3 else a4, s.heap.size, b, L, xs, adK, adV, fo), ?_, rfl, rfl, rfl, rfl⟩
  refine ⟨⟨hKc, fun k q hk => ?_⟩, hX, hbl, Nat.le_refl _, hL, hSS, hZ, hZq, vk_R.of (hts _ (tb_3 (List.mem_of_getElem? (i := 48) rfl))) (hSr 0 (by decide)), vk_R.of (hts _ (tb_3 (List.mem_of_getElem? (i := 104) rfl))) (hSr 1 (by decide)), va_AO.of hov, fun w hw => ?_⟩
  · match k, hk with
    | 0, hk => cases hk; exact ⟨p0, q0⟩
    | 1, hk => cases hk; exact ⟨p1, q1⟩
    | 2, hk => cases hk; exact ⟨p2, q2⟩
    | 3, hk => cases hk; exact ⟨p3, q3⟩
    | 4, hk => cases hk; exact ⟨p4, q4⟩
    | k + 5, hk => simp [pty] at hk
  · have hf := List.mem_filter.mp hw
    refine va_Nw.of ?_ (hts w hf.1)
    cases w <;> first | rfl | cases hf.2
set_option maxHeartbeats 4000000 in
set_option maxRecDepth 100000 in
theorem whole_of (hlaw : LawOk) {p : Program} {e : Env} {s : State} {m : MethodId} {below : List Frame} {meth : Method} {c : Code} (l : Launch) {b L : Nat} {xs : Nat → Int32} (hL : L ≤ 3584) (C0 : lw_At p s m meth c b L xs) : W p l e room_1 s m #[Value.ref b] below meth c s.heap [] 0 0 (lw_Z below #[Value.ref b] s) (entryFrame m ([Value.ref b] : List Value).toArray 4) := by
  obtain ⟨hx, hb, hr, hml, hown, hts, hX, hbl, hlocks, hgv⟩ := C0
  obtain ⟨g, hU, gb, gx, gl, gs⟩ := pU_start hL hts hX hbl hgv
  have htA : ∀ w ∈ wsA, w.before #[Value.ref b] s = true := fun w hw => hts w (List.mem_filter.mp hw).1
  obtain ⟨r, τ, ⟨rfl, hn, hz⟩, hok, hle, hk⟩ := hlaw L xs hL
  have hl := lv_entry ([.ref b]) (n := 4) (Nat.le_of_ble_eq_true rfl)
  rw [lg_entry_eq]
  generalize (lg_sl ([.ref b]) ++ List.replicate (4 - (lg_sl ([.ref b])).length) Slot.unset).toArray = ls at hl ⊢
  have hl : lv_has ls 4 (plv g 0 (plocs mL_law [(3, 0)])) := by
    have : plv g 0 (plocs mL_law [(3, 0)]) = lv_args 0 [.ref b] := by
      have h1 := plv_args g [(3, 0)] 0 3 (by decide)
      rw [show ([(3, 0)] : List pV).map (pval g) = [.ref b] by show [Value.ref (gX g)] = _; rw [gx]] at h1
      exact h1
    rw [this]; exact hl
  have hC : pCtx mL_law p s m #[Value.ref b] meth c := ⟨hx, hb, hr, hml, hown, htA, hlocks, fun z => absurd z (by decide)⟩
  have hS : va_S (pA g) s.heap s.heap [] := va_S.rf
  have hH : pH g (pS0 L xs) s.heap := ⟨fun k q h => by simp [pws, pS0] at h, by rw [gb]; rfl, by show (L : Int) = (gL g : Int); rw [gl], fun i hi => by
    show (xs ((i : Int)).toNat).toInt = (gS g i).toInt
    rw [gs, show ((i : Int)).toNat = i by omega]⟩
  have e1 : (pS0 L xs).1.length = 0 := rfl
  have e2 : pSz (pS0 L xs) = 0 := rfl
  refine hk p l e room_1 s m #[Value.ref b] below meth c s.heap [] 0 0 _ g ls hC hU hS hH hl (by show 800 ≤ 2048; decide) (by show 100 * 800 ≤ 84000; decide) (by rw [e1]; show 0 + (τ.1.length - 0) ≤ 600000; omega) (by rw [e2]; show 0 + (pSz τ - 0) ≤ 7302250; omega) ?_
  intro pc' lsA' H' locs' hdd hH' hS'
  refine va_forget (fun q hq => by have := hS'.2.2 q hq; unfold pA at this; rw [gb] at this; exact this) ?_
  refine W.widen (k := 600000) (n := 7302250) (by rw [e1]; omega) (by rw [e2]; omega) ?_
  exact lw_ret hx hb hr hlocks hdd
