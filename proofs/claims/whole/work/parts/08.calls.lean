/-! contracts and calls of the small machine -/
def pspread : List pV → List pV
  | [] => []
  | v :: vs => if v.1 = 1 then v :: (9, 0) :: pspread vs else v :: pspread vs
/-- the locals with which a method begins -/
def plocs (M : pM) (As : List pV) : List pV := pspread As ++ List.replicate (M.2.2.1 - (pspread As).length) (9, 0)
/-- a method is known: its bytes are its own, its class is there, so many parameters -/
def pMok (M : pM) (n : Nat) : Prop := plainName M.1.cls = true ∧ Cond.code M.1 M.2.1 M.2.2.1 M.2.2.2 ∈ wsA ∧ Cond.initialized M.1.cls ∈ wsA ∧ (M.1.cls ≠ "java/lang/invoke/MethodHandle" ∧ M.1.cls ≠ "java/lang/invoke/VarHandle" ∧ (parseMethodDescriptor M.1.desc).map (fun d => d.parameters.length) = some n) ∧ M.2.2.1 ≤ 80
def wsM (M : pM) : List Cond := Cond.code M.1 M.2.1 M.2.2.1 M.2.2.2 :: wsA
theorem wsM_good {M : pM} {n : Nat} (h : pMok M n) : GoodIn wsA (wsM M) := fun w hw => by
  rcases List.mem_cons.mp hw with rfl | hw
  · exact wsA_good _ h.2.1
  · exact wsA_good _ hw
/-- kinds that an argument may have, and room for all -/
def pargs (M : pM) (As : List pV) : Prop := (∀ v ∈ As, v.1 ≠ 9) ∧ (pspread As).length ≤ M.2.2.1
theorem plv_nil (g : pG) (k n : Nat) : plv g k (List.replicate n (9, 0)) = [] := by
  induction n generalizing k with
  | zero => rfl
  | succ n ih => rw [List.replicate_succ, plv, if_pos rfl, ih]
theorem plv_args (g : pG) : ∀ (As : List pV) (k n : Nat), (∀ v ∈ As, v.1 ≠ 9) → plv g k (pspread As ++ List.replicate n (9, 0)) = lv_args k (As.map (pval g)) := by
  intro As
  induction As with
  | nil => intro k n _; rw [pspread, List.nil_append, plv_nil]; rfl
  | cons v As ih =>
    intro k n h
    have h9 : v.1 ≠ 9 := h v List.mem_cons_self
    have hr : ∀ w ∈ As, w.1 ≠ 9 := fun w hw => h w (List.mem_cons_of_mem _ hw)
    rw [pspread, List.map_cons, lv_args, pval_cat]
    by_cases h1 : v.1 = 1
    · rw [if_pos h1, if_pos (by rw [if_pos h1])]
      rw [List.cons_append, List.cons_append, plv, if_neg h9, plv, if_pos rfl, ih (k + 1 + 1) n hr]
    · rw [if_neg h1, if_neg (by rw [if_neg h1]; decide)]
      rw [List.cons_append, plv, if_neg h9, ih (k + 1) n hr]
theorem lg_len (g : pG) : ∀ As : List pV, (lg_sl (As.map (pval g))).length = (pspread As).length := by
  intro As
  induction As with
  | nil => rfl
  | cons v As ih =>
    rw [List.map_cons, pspread]
    show ((if (pval g v).category = 2 then _ else _) ++ lg_sl (As.map (pval g))).length = _
    rw [List.length_append, ih]
    by_cases h1 : v.1 = 1
    · have hcat : (pval g v).category = 2 := by rw [pval_cat, if_pos h1]
      rw [if_pos hcat, if_pos h1]; simp; omega
    · have hcat : ¬ (pval g v).category = 2 := by rw [pval_cat, if_neg h1]; decide
      rw [if_neg hcat, if_neg h1]; simp; omega
/-- how a method ends -/
def pQc (g : pG) (r : Option pV) (τ : pS) : Array Value → State → Outcome → State → Prop := fun _ st o t => o = .returned (r.map (pval g)) ∧ pH g τ t.heap ∧ va_F (pA g) st t
def pPc (g : pG) (σ : pS) (As : List pV) : Array Value → State → Prop := va_Pc (As.map (pval g)) (fun U => pU g U U.heap ∧ pH g σ U.heap)
theorem pPc_blind (g : pG) (σ : pS) (As : List pV) : FrameBlind (pPc g σ As) := by
  intro a U gg mk h
  exact ⟨h.1, pU.warm (s := U) (U := U.calling gg mk a) (State.WarmedH.refl U) h.2.1, h.2.2⟩
/-- a contract of the small machine is one of the kit's -/
theorem pMet {M : pM} {d n : Nat} {As : List pV} {σ τ : pS} {r : Option pV} (l : Launch) (g : pG) (hM : pMok M n) (ha : pargs M As) (hr : pRok M.2.2.2 r) (h : pOk M d 0 (plocs M As) [] σ r τ) :
    Met l M.1 (wsM M) { frames := d, cells := τ.1.length - σ.1.length, slots := pSz τ - pSz σ, locals := 100 * d } (pPc g σ As) (pQc g r τ) (τ.1.length - σ.1.length) (pSz τ - pSz σ) (pA g) := by
  obtain ⟨y, bytes, maxL, ret⟩ := M
  refine Met.ofW (cc := bytes) (maxL := maxL) (ret := ret) hM.1 rfl ?_
  intro p e s m args below meth c s₁ B hml hv
  obtain ⟨rfl, hU, hH⟩ := hv
  have hts : ∀ w ∈ wsA, w.before (As.map (pval g)).toArray s = true := fun w hw => atoms_spec (ws := wsM (y, bytes, maxL, ret)) B.pre w (List.mem_cons_of_mem _ hw)
  have hown : s.vm.findClass y.cls = some m.cls := findClass_of_methodNamed B.named
  have hlocks := B.notSynchronized
  have hin : meth.name = y.name := (name_of_methodNamed B.named B.method).1
  have hx := B.exec
  have hb := B.bytes
  have hret := B.returns
  have hl := lv_entry (As.map (pval g)) (n := maxL) (by rw [lg_len]; exact ha.2)
  rw [lg_entry_eq]
  generalize (lg_sl (As.map (pval g)) ++ List.replicate (maxL - (lg_sl (As.map (pval g))).length) Slot.unset).toArray = ls at hl ⊢
  rw [← plv_args g As 0 (maxL - (pspread As).length) ha.1] at hl
  have hC : pCtx (y, bytes, maxL, ret) p s m (As.map (pval g)).toArray meth c := ⟨hx, hb, hret, hml, hown, hts, hlocks, fun z => hin.trans z⟩
  have hE : ∀ (pc' : Nat) (lsA' : Array Slot) (H' : Heap) (locs' : List Loc), decode bytes pc' = .ok (pRetI ret, 1) → pH g τ H' → va_S (pA g) s.heap H' locs' → W p l e { frames := d, cells := τ.1.length - σ.1.length, slots := pSz τ - pSz σ, locals := 100 * d } s m (As.map (pval g)).toArray below meth c H' locs' (0 + (τ.1.length - σ.1.length)) (0 + (pSz τ - pSz σ)) (MQ below (pQc g r τ) (As.map (pval g)).toArray s (τ.1.length - σ.1.length) (pSz τ - pSz σ) (pA g)) (F0 m pc' lsA' (r.map (pval g)).toList) := by
    intro pc' lsA' H' locs' hdd hH' hS'
    rw [Nat.zero_add, Nat.zero_add]
    have hq : ∀ t : State, t.heap = H' → pQc g r τ (As.map (pval g)).toArray s (.returned (r.map (pval g))) t := fun t ht => ⟨rfl, by rw [ht]; exact hH', hS'.F ht⟩
    match ret, hr, hdd, hret with
    | none, hr, hdd, hret =>
      have hr : r = none := hr
      subst hr
      exact W.vret hx hb hret (fun t ht _ => hq t ht) hS'.2.2 hdd
    | some .int, hr, hdd, hret =>
      obtain ⟨x, rfl⟩ : ∃ x, r = some (0, x) := hr
      exact W.iret hx hb hret (fun t ht _ => hq t ht) hS'.2.2 hdd
    | some .boolean, hr, hdd, hret =>
      have hr : r = some (0, 0) ∨ r = some (0, 1) := hr
      rcases hr with rfl | rfl
      · exact W.zret hx hb hret rfl (fun t ht _ => hq t ht) hS'.2.2 hdd
      · exact W.zret hx hb hret rfl (fun t ht _ => hq t ht) hS'.2.2 hdd
    | some .long, hr, hdd, hret =>
      obtain ⟨x, rfl⟩ : ∃ x, r = some (1, x) := hr
      exact W.lret hx hb hret (fun t ht _ => hq t ht) hS'.2.2 hdd
    | some (.object nm), hr, hdd, hret =>
      obtain ⟨x, rfl⟩ : ∃ x, r = some (2, x) := hr
      exact W.aret hx hb hret (Or.inl ⟨nm, rfl⟩) (by show va_rf (pad g x) = .null ∨ ∃ a, va_rf (pad g x) = .ref a; cases pad g x with | none => exact Or.inl rfl | some a => exact Or.inr ⟨a, rfl⟩) (fun t ht _ => hq t ht) hS'.2.2 hdd
    | some (.array nm), hr, hdd, hret =>
      obtain ⟨x, rfl⟩ : ∃ x, r = some (2, x) := hr
      exact W.aret hx hb hret (Or.inr ⟨nm, rfl⟩) (by show va_rf (pad g x) = .null ∨ ∃ a, va_rf (pad g x) = .ref a; cases pad g x with | none => exact Or.inl rfl | some a => exact Or.inr ⟨a, rfl⟩) (fun t ht _ => hq t ht) hS'.2.2 hdd
    | some .byte, hr, hdd, hret =>
      obtain ⟨x, rfl, hx2⟩ : ∃ x, r = some (0, x) ∧ narrow .byte (.int (Int32.ofInt x)) = .int (Int32.ofInt x) := hr
      exact W.zret hx hb hret hx2 (fun t ht _ => hq t ht) hS'.2.2 hdd
    | some .char, hr, hdd, hret =>
      obtain ⟨x, rfl, hx2⟩ : ∃ x, r = some (0, x) ∧ narrow .char (.int (Int32.ofInt x)) = .int (Int32.ofInt x) := hr
      exact W.zret hx hb hret hx2 (fun t ht _ => hq t ht) hS'.2.2 hdd
    | some .short, hr, hdd, hret => exact absurd hr (fun z => z)
    | some .float, hr, hdd, hret => exact absurd hr (fun z => z)
    | some .double, hr, hdd, hret => exact absurd hr (fun z => z)
  exact h.2 p l e _ s m _ below meth c s.heap [] 0 0 _ g ls hC hU va_S.rf hH hl (Nat.le_refl _) (Nat.le_refl _) (by show 0 + (τ.1.length - σ.1.length) ≤ τ.1.length - σ.1.length; omega) (by show 0 + (pSz τ - pSz σ) ≤ pSz τ - pSz σ; omega) hE
/-- a method's contract: from σ it ends so that Q holds -/
def pC (M : pM) (d : Nat) (As : List pV) (σ : pS) (Q : Option pV → pS → Prop) : Prop := pR M d 0 (plocs M As) [] σ Q
theorem pC.mono {M : pM} {d : Nat} {As : List pV} {σ : pS} {Q Q' : Option pV → pS → Prop} (h : pC M d As σ Q) (hq : ∀ r τ, pLe σ τ → Q r τ → Q' r τ) : pC M d As σ Q' := pR.mono h hq
theorem pOk.deep {M : pM} {d d' pc : Nat} {ls st : List pV} {σ τ : pS} {r : Option pV} (h : pOk M d pc ls st σ r τ) (hd : d ≤ d') : pOk M d' pc ls st σ r τ := by
  refine ⟨h.1, ?_⟩
  intro p l e R s m args below meth c H locs cells slots Q g lsA hC hU hS hH hl hd1 hd2 hc1 hc2 hE
  exact h.2 p l e R s m args below meth c H locs cells slots Q g lsA hC hU hS hH hl (Nat.le_trans hd hd1) (Nat.le_trans (Nat.mul_le_mul_left _ hd) hd2) hc1 hc2 hE
theorem pC.deep {M : pM} {d d' : Nat} {As : List pV} {σ : pS} {Q : Option pV → pS → Prop} (h : pC M d As σ Q) (hd : d ≤ d') : pC M d' As σ Q := by
  obtain ⟨r, τ, q, w, o⟩ := h
  exact ⟨r, τ, q, w, o.deep hd⟩
theorem pW_call {p : Program} {l : Launch} {e : Env} {R : Room} {s : State} {m : MethodId} {args : Array Value} {below : List Frame} {meth : Method} {c : Code} {H : Heap} {locs : List Loc} {cells slots : Nat} {Q : State → Prop} {pc mc ms : Nat} {ls : Array Slot} {st0 rest : List Value} {g : pG} {r : Option pV} {τ : pS} {a : Array Value}
    (hr : va_Run p l e R s m args below meth c H locs cells slots mc ms (F0 m pc ls st0) rest (pQc g r τ a) (pA g)) (hS : va_S (pA g) s.heap H locs)
    (kk : ∀ (H1 : Heap) (locs1 : List Loc), va_S (pA g) s.heap H1 locs1 → pH g τ H1 → W p l e R s m args below meth c H1 locs1 (cells + mc) (slots + ms) Q (F0 m (pc + 3) ls ((r.map (pval g)).toList ++ rest))) : W p l e R s m args below meth c H locs cells slots Q (F0 m pc ls st0) := by
  intro T hT X
  obtain ⟨v, st₀, t, T', L, h0, X', hL, e1, e2, ⟨hv, hP, hz, hk⟩, st⟩ := hr T hT X
  cases hv
  rw [h0] at hz hk
  obtain ⟨t2, a1, b1⟩ := kk T'.heap (locs ++ L) ⟨Nat.le_trans hS.1 (by rw [e1]; exact hz), fun q h1 h2 => by rw [e1, hk q (Nat.lt_of_lt_of_le h1 hS.1) h2]; exact hS.2.1 q h1 h2, fun q hq => by
      rcases List.mem_append.mp hq with h | h
      · exact hS.2.2 q h
      · exact hL q h⟩ (by rw [e1]; exact hP) T' rfl X'
  exact ⟨t2, st t2 a1, b1⟩
def pcat (v : pV) : Nat := if v.1 = 1 then 2 else 1
theorem pcat_sum (g : pG) (st : List pV) : ((st.map (pval g)).map fun v => v.category).sum = (st.map pcat).sum := by
  induction st with
  | nil => rfl
  | cons v st ih => simp only [List.map_cons, List.sum_cons, ih, pval_cat, pcat]
/-- how a call is linked -/
def pML (own : String) (idx : Nat) (y : MethodName) : Prop := Cond.methodLink own idx y ∈ wsA ∨ ∃ host, Cond.methodLinkNest own idx y host ∈ wsN
/-- what a call is worth to the walk -/
theorem pCall {M N : pM} {d d' pc n : Nat} {ls st st0 As : List pV} {σ : pS} {Q1 Q : Option pV → pS → Prop} (hN : pMok N n) (ha : pargs N As) (hn : As.length = n) (hst : (st.map pcat).sum ≤ 8) (hd : d' + 1 ≤ d) (hC : pC N d' As σ Q1)
    (hrun : ∀ (τ : pS) (r : Option pV), pLe σ τ → pOk N d' 0 (plocs N As) [] σ r τ → pRok N.2.2.2 r → ∀ (p : Program) (l : Launch) (e : Env) (R : Room) (s : State) (m : MethodId) (args : Array Value) (below : List Frame) (meth : Method) (c : Code) (H : Heap) (locs : List Loc) (cells slots : Nat) (g : pG) (lsA : Array Slot), pCtx M p s m args meth c → pU g s s.heap → va_S (pA g) s.heap H locs → pH g σ H → lsA.size = M.2.2.1 → d ≤ R.frames → 100 * d ≤ R.locals → cells + (τ.1.length - σ.1.length) ≤ R.cells → slots + (pSz τ - pSz σ) ≤ R.slots →
      va_Run p l e R s m args below meth c H locs cells slots (τ.1.length - σ.1.length) (pSz τ - pSz σ) (F0 m pc lsA (st0.map (pval g))) (st.map (pval g)) (pQc g r τ (As.map (pval g)).toArray) (pA g))
    (k : ∀ r τ, pLe σ τ → Q1 r τ → pRok N.2.2.2 r → pR M d (pc + 3) ls (r.toList ++ st) τ Q) : pR M d pc ls st0 σ Q := by
  obtain ⟨r, τ, q, w, o⟩ := hC
  refine pGo (σ1 := τ) (st1 := r.toList ++ st) ⟨o.1, ?_⟩ (k r τ o.1 q w)
  intro p l e R s m args below meth c H locs cells slots Qw g lsA hC hU hS hH hl hd1 hd2 hc1 hc2 hE
  refine pW_call (hrun τ r o.1 o w p l e R s m args below meth c H locs cells slots g lsA hC hU hS hH hl.1 hd1 hd2 hc1 hc2) hS (fun H1 locs1 hS1 hH1 => ?_)
  have := hE lsA H1 locs1 hS1 hH1 hl
  have e : (r.map (pval g)).toList ++ st.map (pval g) = (r.toList ++ st).map (pval g) := by cases r <;> rfl
  rw [e]
  exact this
theorem pPre {g : pG} {σ : pS} {As : List pV} {s : State} {H : Heap} {locs : List Loc} (hU : pU g s s.heap) (hS : va_S (pA g) s.heap H locs) (hH : pH g σ H) : ∀ U : State, U.heap = H → s.WarmedH U.vm → pPc g σ As (As.map (pval g)).toArray U := by
  intro U hu hW
  refine ⟨rfl, ?_, by rw [hu]; exact hH⟩
  rw [hu]
  exact (hU.warm hW).kept (fun q h1 h2 => hS.2.1 q h1 h2) hS.1
theorem pCB {N : pM} {n d' : Nat} {R : Room} {s : State} {args : Array Value} {own : String} {idx : Nat} {mc ms : Nat} (hN : pMok N n) (hts : ∀ w ∈ wsA, w.before args s = true) (hl : Cond.methodLink own idx N.1 ∈ wsA) (h1 : d' + 1 ≤ R.frames) (h2 : 100 * (d' + 1) ≤ R.locals) : CallB R s args own idx N.1 N.2.1 N.2.2.1 N.2.2.2 (wsM N) { frames := d', cells := mc, slots := ms, locals := 100 * d' } mc ms n :=
  callB_of n hts (wsM_good hN) rfl rfl rfl (hts _ hN.2.2.1) (hts _ hl) hN.2.2.2.1 ⟨h1, by have := hN.2.2.2.2; show 8 + (N.2.2.1 + 11) + 100 * d' ≤ R.locals; omega⟩
theorem pCN {N : pM} {n d' : Nat} {R : Room} {s : State} {args : Array Value} {own host : String} {idx : Nat} {mc ms : Nat} (hN : pMok N n) (hts : ∀ w ∈ wsA, w.before args s = true) (hl : va_Nw (.methodLinkNest own idx N.1 host) s) (h1 : d' + 1 ≤ R.frames) (h2 : 100 * (d' + 1) ≤ R.locals) : va_CN R s args own idx N.1 host N.2.1 N.2.2.1 N.2.2.2 (wsM N) { frames := d', cells := mc, slots := ms, locals := 100 * d' } mc ms n :=
  va_cnB n hts (wsM_good hN) rfl rfl rfl hl (hts _ hN.2.2.1) hN.2.2.2.1 ⟨h1, by have := hN.2.2.2.2; show 8 + (N.2.2.1 + 11) + 100 * d' ≤ R.locals; omega⟩
section PCALLS
variable {M N : pM} {d d' pc n idx : Nat} {ls st As : List pV} {σ : pS} {Q1 Q : Option pV → pS → Prop}
theorem p_callS (hN : pMok N n) (hl : pML M.1.cls idx N.1) (hstat : Cond.static N.1 ∈ wsA) (hdec : decode M.2.1 pc = .ok (.invokestatic idx, 3)) (ha : pargs N As) (hn : As.length = n) (hst : (st.map pcat).sum ≤ 8) (hd : d' + 1 ≤ d) (hC : pC N d' As σ Q1)
    (k : ∀ r τ, pLe σ τ → Q1 r τ → pRok N.2.2.2 r → pR M d (pc + 3) ls (r.toList ++ st) τ Q) : pR M d pc ls (As.reverse ++ st) σ Q := by
  refine pCall hN ha hn hst hd hC ?_ k
  intro τ r hle o w p l e R s m args below meth c H locs cells slots g lsA hCt hU hS hH hsz hd1 hd2 hc1 hc2
  have hts := hCt.2.2.2.2.2.1
  have f1 : d' + 1 ≤ R.frames := by omega
  have f2 : 100 * (d' + 1) ≤ R.locals := by omega
  have e1 : (As.reverse ++ st).map (pval g) = (As.map (pval g)).reverse ++ st.map (pval g) := by rw [List.map_append, List.map_reverse]
  rw [e1]
  rcases hl with hl | ⟨host, hl⟩
  · exact va_runS ⟨hCt.1, hCt.2.1, hCt.2.2.2.1, hCt.2.2.2.2.1, hts⟩ (pMet l g hN ha w o) ⟨pCB hN hts hl f1 f2, hts _ hstat⟩ ⟨pPc_blind g σ As, pPre hU hS hH⟩ rfl (by rw [List.length_map]; exact hn) hsz rfl (lv_room (by rw [pcat_sum]; exact hst)) hdec ⟨hc1, hc2⟩
  · exact va_runSN ⟨hCt.1, hCt.2.1, hCt.2.2.2.1, hCt.2.2.2.2.1, hts⟩ (pMet l g hN ha w o) ⟨pCN hN hts (hU.2.2.2.2.2.2.2.2.2.2.2 _ hl) f1 f2, hts _ hstat, trivial⟩ ⟨pPc_blind g σ As, pPre hU hS hH⟩ rfl (by rw [List.length_map]; exact hn) hsz rfl (lv_room (by rw [pcat_sum]; exact hst)) hdec ⟨hc1, hc2⟩
theorem p_callV {a : Int} {ci x Nf : Nat} {C : String} {T : u_T} {ty : Nat → FieldType} (hc : pCls ci C T Nf ty) (hN : pMok N n) (hl : pML M.1.cls idx N.1) (hinst : Cond.instanceMethod N.1 ∈ wsA) (hsel : Cond.selects C N.1 N.1 ∈ wsA) (hdec : decode M.2.1 pc = .ok (.invokevirtual idx, 3)) (ho : ob σ a = some (ci, x)) (ha : pargs N ((2, a) :: As)) (hn : As.length = n) (hst : (st.map pcat).sum ≤ 8) (hd : d' + 1 ≤ d) (hC : pC N d' ((2, a) :: As) σ Q1)
    (k : ∀ r τ, pLe σ τ → Q1 r τ → pRok N.2.2.2 r → pR M d (pc + 3) ls (r.toList ++ st) τ Q) : pR M d pc ls (As.reverse ++ (2, a) :: st) σ Q := by
  obtain ⟨r, τ, q, w, o⟩ := hC
  refine pGo (σ1 := τ) (st1 := r.toList ++ st) ⟨o.1, ?_⟩ (k r τ o.1 q w)
  intro p l e R s m args below meth c H locs cells slots Qw g lsA hCt hU hS hH hlv hd1 hd2 hc1 hc2 hE
  have hts := hCt.2.2.2.2.2.1
  have f1 : d' + 1 ≤ R.frames := by omega
  have f2 : 100 * (d' + 1) ≤ R.locals := by omega
  have e1 : (As.reverse ++ (2, a) :: st).map (pval g) = (As.map (pval g)).reverse ++ Value.ref (gB g + a.toNat) :: st.map (pval g) := by rw [List.map_append, List.map_reverse, List.map_cons, pval_2 (ob_some ho).1]
  rw [e1]
  have e2 : ((2, a) :: As).map (pval g) = Value.ref (gB g + a.toNat) :: As.map (pval g) := by rw [List.map_cons, pval_2 (ob_some ho).1]
  have hpre : ∀ U : State, U.heap = H → s.WarmedH U.vm → pPc g σ ((2, a) :: As) (Value.ref (gB g + a.toNat) :: As.map (pval g)).toArray U := by
    have := pPre (As := (2, a) :: As) hU hS hH
    rw [e2] at this
    exact this
  have hrun : va_Run p l e R s m args below meth c H locs cells slots (τ.1.length - σ.1.length) (pSz τ - pSz σ) (F0 m pc lsA ((As.map (pval g)).reverse ++ Value.ref (gB g + a.toNat) :: st.map (pval g))) (st.map (pval g)) (pQc g r τ (Value.ref (gB g + a.toNat) :: As.map (pval g)).toArray) (pA g) := by
    rcases hl with hl | ⟨host, hl⟩
    · exact va_runV (C := C) ⟨hCt.1, hCt.2.1, hCt.2.2.2.1, hCt.2.2.2.2.1, hts⟩ (pMet l g hN ha w o) ⟨pCB hN hts hl f1 f2, hts _ hinst, hts _ hsel⟩ ⟨pPc_blind g σ _, va_recv hU.1 hH.1 (ci := ci) (q0 := a.toNat) hc.1 (pws_obj ho hc.2.2.2.2.2.2), hpre⟩ rfl (by rw [List.length_map]; exact hn) hlv.1 rfl (lv_room (by rw [pcat_sum]; exact hst)) hdec ⟨hc1, hc2⟩
    · exact va_runVN (C := C) ⟨hCt.1, hCt.2.1, hCt.2.2.2.1, hCt.2.2.2.2.1, hts⟩ (pMet l g hN ha w o) ⟨pCN hN hts (hU.2.2.2.2.2.2.2.2.2.2.2 _ hl) f1 f2, hts _ hinst, hts _ hsel⟩ ⟨pPc_blind g σ _, va_recv hU.1 hH.1 (ci := ci) (q0 := a.toNat) hc.1 (pws_obj ho hc.2.2.2.2.2.2), hpre⟩ rfl (by rw [List.length_map]; exact hn) hlv.1 rfl (lv_room (by rw [pcat_sum]; exact hst)) hdec ⟨hc1, hc2⟩
  refine pW_call hrun hS (fun H1 locs1 hS1 hH1 => ?_)
  have := hE lsA H1 locs1 hS1 hH1 hlv
  have e : (r.map (pval g)).toList ++ st.map (pval g) = (r.toList ++ st).map (pval g) := by cases r <;> rfl
  rw [e]
  exact this
theorem p_callI {a : Int} (ha0 : 0 ≤ a) (hN : pMok N n) (hret : N.2.2.2 = none) (hl : pML M.1.cls idx N.1) (hinst : Cond.instanceMethod N.1 ∈ wsA) (hnm : N.1.name = "<init>") (hdec : decode M.2.1 pc = .ok (.invokespecial idx, 3)) (ha : pargs N ((2, a) :: As)) (hn : As.length = n) (hst : (st.map pcat).sum ≤ 8) (hd : d' + 1 ≤ d) (hC : pC N d' ((2, a) :: As) σ Q1)
    (k : ∀ r τ, pLe σ τ → Q1 r τ → pRok N.2.2.2 r → pR M d (pc + 3) ls (r.toList ++ st) τ Q) : pR M d pc ls (As.reverse ++ (2, a) :: st) σ Q := by
  obtain ⟨r, τ, q, w, o⟩ := hC
  refine pGo (σ1 := τ) (st1 := r.toList ++ st) ⟨o.1, ?_⟩ (k r τ o.1 q w)
  intro p l e R s m args below meth c H locs cells slots Qw g lsA hCt hU hS hH hlv hd1 hd2 hc1 hc2 hE
  have hts := hCt.2.2.2.2.2.1
  have f1 : d' + 1 ≤ R.frames := by omega
  have f2 : 100 * (d' + 1) ≤ R.locals := by omega
  have e1 : (As.reverse ++ (2, a) :: st).map (pval g) = (As.map (pval g)).reverse ++ Value.ref (gB g + a.toNat) :: st.map (pval g) := by rw [List.map_append, List.map_reverse, List.map_cons, pval_2 ha0]
  rw [e1]
  have e2 : ((2, a) :: As).map (pval g) = Value.ref (gB g + a.toNat) :: As.map (pval g) := by rw [List.map_cons, pval_2 ha0]
  have hpre : ∀ U : State, U.heap = H → s.WarmedH U.vm → pPc g σ ((2, a) :: As) (Value.ref (gB g + a.toNat) :: As.map (pval g)).toArray U := by
    have := pPre (As := (2, a) :: As) hU hS hH
    rw [e2] at this
    exact this
  have hrun : va_Run p l e R s m args below meth c H locs cells slots (τ.1.length - σ.1.length) (pSz τ - pSz σ) (F0 m pc lsA ((As.map (pval g)).reverse ++ Value.ref (gB g + a.toNat) :: st.map (pval g))) (st.map (pval g)) (pQc g r τ (Value.ref (gB g + a.toNat) :: As.map (pval g)).toArray) (pA g) := by
    rcases hl with hl | ⟨host, hl⟩
    · exact va_runI ⟨hCt.1, hCt.2.1, hCt.2.2.2.1, hCt.2.2.2.2.1, hts⟩ (pMet l g hN ha w o) ⟨by have := pCB (mc := τ.1.length - σ.1.length) (ms := pSz τ - pSz σ) hN hts hl f1 f2; rw [hret] at this; exact this, hnm, hts _ hinst⟩ ⟨pPc_blind g σ _, hpre⟩ rfl (by rw [List.length_map]; exact hn) hlv.1 rfl (lv_room (by rw [pcat_sum]; exact hst)) hdec ⟨hc1, hc2⟩
    · exact va_runIN ⟨hCt.1, hCt.2.1, hCt.2.2.2.1, hCt.2.2.2.2.1, hts⟩ (pMet l g hN ha w o) ⟨by have := pCN (mc := τ.1.length - σ.1.length) (ms := pSz τ - pSz σ) hN hts (hU.2.2.2.2.2.2.2.2.2.2.2 _ hl) f1 f2; rw [hret] at this; exact this, hnm, hts _ hinst⟩ ⟨pPc_blind g σ _, hpre⟩ rfl (by rw [List.length_map]; exact hn) hlv.1 rfl (lv_room (by rw [pcat_sum]; exact hst)) hdec ⟨hc1, hc2⟩
  refine pW_call hrun hS (fun H1 locs1 hS1 hH1 => ?_)
  have := hE lsA H1 locs1 hS1 hH1 hlv
  have e : (r.map (pval g)).toList ++ st.map (pval g) = (r.toList ++ st).map (pval g) := by cases r <;> rfl
  rw [e]
  exact this
/-- Object's own constructor -/
theorem s_objInit {a : Int} (ha0 : 0 ≤ a) (hd1' : 1 ≤ d) (w1 : Cond.methodLink M.1.cls idx objectInit ∈ wsA) (w2 : Cond.instanceMethod objectInit ∈ wsA) (w3 : Cond.code objectInit ⟨#[0xb1]⟩ 1 none ∈ wsA) (hst : (st.map pcat).sum ≤ 8) (hdec : decode M.2.1 pc = .ok (.invokespecial idx, 3)) : pStep M d pc ls ((2, a) :: st) σ (pc + 3) ls st σ := by
  refine ⟨pLe.rf σ, ?_⟩
  intro p l e R s m args below meth c H locs cells slots Q g lsA hC hU hS hH hl hd1 hd2 hc1 hc2 hE
  have hts := hC.2.2.2.2.2.1
  rw [List.map_cons, pval_2 ha0]
  refine W.objInit hC.1 hC.2.1 hC.2.2.2.2.1 (hts _ w1) (hts _ w2) (hts _ w3) rfl (hl.1.trans hC.2.2.2.1.symm) rfl hdec (by omega) (by rw [pcat_sum]; show 2 * 0 + _ + 12 ≤ _; omega) ?_
  have := hE lsA H locs hS hH hl
  rw [Nat.sub_self, Nat.sub_self, Nat.add_zero, Nat.add_zero] at this
  exact this
end PCALLS
