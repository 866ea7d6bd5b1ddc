/-! how a state lies in the heap; judgements -/
/-- the fields of a class: kind (0 int, 1 long, 2 reference, 3 final reference, 4 boolean, 5 final int), how far off a final reference points, its turn in the constructor -/
def pFt : Nat → List (Nat × Int × Nat) := fun c => match c with
  | 0 => [(3, 1, 0), (3, 2, 1), (0, 0, 0), (3, 3, 2), (3, 4, 3), (3, 5, 4)]
  | 1 => [(3, -6, 10), (3, -15, 11), (4, 0, 0), (3, 1, 0), (3, 2, 1), (3, 3, 2), (3, 4, 3), (3, 5, 4), (3, 6, 5), (3, 7, 6), (3, 8, 7), (3, 9, 8), (3, 10, 9)]
  | 2 => [(3, 4, 3), (3, 5, 4), (0, 0, 0), (0, 0, 0), (0, 0, 0), (4, 0, 0), (3, 1, 0), (3, 2, 1), (3, 3, 2)]
  | 3 => [(3, 1, 0), (3, 2, 1), (3, 3, 2), (3, 4, 3), (2, 0, 0), (0, 0, 0), (0, 0, 0)]
  | 4 => [(3, -5, 2), (3, 1, 0), (3, 2, 1)]
  | 5 => [(5, 0, 0), (3, 1, 0), (3, 2, 1), (3, 3, 2), (3, 4, 3), (3, 5, 4), (2, 0, 0), (0, 0, 0), (0, 0, 0)]
  | 6 => [(0, 0, 0), (0, 0, 0), (0, 0, 0), (0, 0, 0), (4, 0, 0), (3, 1, 0), (3, 2, 1), (3, 3, 2), (3, 4, 3), (3, 5, 4), (3, 6, 5), (3, 7, 6), (3, 8, 7), (3, 9, 8), (3, 10, 9)]
  | 7 => [(3, 1, 0), (3, 2, 1), (3, 3, 2), (3, 4, 3), (3, 5, 4), (3, 6, 5), (2, 0, 0), (0, 0, 0), (0, 0, 0)]
  | 8 => [(3, 1, 0), (3, 2, 1), (3, 3, 2), (3, 4, 3), (3, 5, 4), (0, 0, 0)]
  | 9 => [(3, 1, 0), (3, 2, 1), (3, 3, 2), (0, 0, 0), (0, 0, 0), (0, 0, 0), (0, 0, 0)]
  | 10 => [(3, 1, 0), (0, 0, 0), (3, 2, 1), (0, 0, 0), (0, 0, 0), (0, 0, 0), (0, 0, 0), (2, 0, 0), (2, 0, 0), (3, 23, 2), (3, 29, 3), (3, 35, 4), (3, 40, 5), (3, 43, 6), (0, 0, 0), (3, 44, 7), (3, 50, 8), (3, 61, 9)]
  | 11 => [(3, 1, 0), (0, 0, 0), (0, 0, 0), (0, 0, 0), (0, 0, 0), (0, 0, 0), (0, 0, 0), (0, 0, 0), (0, 0, 0), (1, 0, 0), (3, 2, 1), (3, 3, 2), (3, 4, 3), (3, 5, 4), (3, 6, 5), (3, 7, 6), (3, 8, 7), (0, 0, 0), (0, 0, 0), (0, 0, 0), (0, 0, 0), (4, 0, 0), (3, 9, 8), (3, 10, 9), (3, 11, 10), (3, 12, 11), (3, 13, 12), (3, 14, 13), (3, 15, 14), (3, 16, 15), (0, 0, 0), (0, 0, 0), (0, 0, 0), (0, 0, 0), (3, 17, 16), (3, 18, 17), (3, 19, 18), (3, 20, 19), (3, 21, 20), (3, 22, 21), (3, 23, 22), (3, 24, 23), (3, 25, 24), (3, 26, 25), (0, 0, 0), (0, 0, 0), (0, 0, 0), (3, 27, 26), (0, 0, 0), (0, 0, 0), (4, 0, 0), (0, 0, 0), (0, 0, 0), (3, 28, 27), (3, 29, 28), (3, 30, 29), (3, 31, 30), (3, 32, 31), (3, 33, 32), (3, 34, 33), (3, 35, 34), (3, 36, 35), (3, 37, 36), (3, 38, 37), (0, 0, 0), (0, 0, 0), (3, 39, 38), (3, 40, 39), (3, 41, 40), (3, 42, 41), (3, 43, 42), (3, 44, 43), (3, 45, 44), (3, 46, 45), (3, 47, 46), (3, 48, 47), (3, 49, 48), (0, 0, 0), (4, 0, 0), (3, 50, 49), (3, 51, 50), (3, 52, 51), (3, 53, 52), (3, 54, 53), (3, 55, 54), (3, 56, 55), (3, 57, 56), (3, 58, 57), (3, 59, 58), (3, 60, 59), (3, 61, 60), (3, 62, 61), (3, 63, 62), (3, 64, 63), (3, 65, 64), (3, 66, 65), (3, 67, 66), (3, 68, 67), (3, 69, 68), (3, 70, 69), (3, 71, 70), (3, 72, 71)]
  | _ => []
def pNf : Nat → Nat := fun c => match c with
  | 0 => 5
  | 1 => 12
  | 2 => 5
  | 3 => 4
  | 4 => 3
  | 5 => 5
  | 6 => 10
  | 7 => 6
  | 8 => 5
  | 9 => 3
  | 10 => 10
  | 11 => 72
  | _ => 0

/-- what a field holds -/
def pfv (g : pG) (v : Int) (k x : Nat) (f : Nat × Int × Nat) : Value :=
  if f.1 = 1 then .long (Int64.ofInt v) else if f.1 = 2 then va_rf (pad g v) else if f.1 = 3 then (if f.2.2 < x then va_rf (pad g ((k : Int) + f.2.1)) else .null) else .int (Int32.ofInt v)
def pfs (g : pG) (σ : pS) (k x c : Nat) : List Value := (List.range (pFt c).length).map (fun (j : Nat) => pfv g (σ.2 k j) k x ((pFt c).getD j (0, 0, 0)))
/-- a cell: an object of class c with x finals set (c < 50), or an array of kind c - 50 and length x -/
def pcell (g : pG) (σ : pS) (k : Nat) : va_E :=
  if (σ.1.getD k (0, 0)).1 < 50 then .inr ((σ.1.getD k (0, 0)).1, pfs g σ k (σ.1.getD k (0, 0)).2 (σ.1.getD k (0, 0)).1)
  else if (σ.1.getD k (0, 0)).1 = 53 then .inl (gC g 3, (σ.1.getD k (0, 0)).2, .inr (.inl (fun j => Int64.ofInt (σ.2 k j))))
  else if (σ.1.getD k (0, 0)).1 = 54 then .inl (gC g 4, (σ.1.getD k (0, 0)).2, .inr (.inr (.inr (.inr (fun j => pad g (σ.2 k j))))))
  else .inl (gC g ((σ.1.getD k (0, 0)).1 - 50), (σ.1.getD k (0, 0)).2, .inl (fun j => Int32.ofInt (σ.2 k j)))
def pws (g : pG) (σ : pS) : va_W := (List.range σ.1.length).map (fun k => (gB g + k, pcell g σ k))
/-- what a method may change: what was made since the law began -/
def pA (g : pG) : Nat → Prop := fun q => gB g ≤ q
def pty (g : pG) : List (ClassId × FieldType) := [(gC g 0, .int), (gC g 1, .byte), (gC g 2, .boolean), (gC g 3, .long), (gC g 4, .object RX5)]
/-- the script, as the state has it -/
def pSc (g : pG) (σ : pS) : Prop := σ.2 (-2) 0 = (gL g : Int) ∧ ∀ i : Nat, i < gL g → σ.2 (-1) i = (gS g i).toInt
/-- the state lies in the heap -/
def pH (g : pG) (σ : pS) (H : Heap) : Prop := va_P (gD g) vwCl (pws g σ) H ∧ H.size = gB g + σ.1.length ∧ pSc g σ
def pLen : List Nat := [85, 8]
def pByt : List (List Int32) := [[108, 105, 102, 116, 32, 114, 117, 110, 32, 104, 111, 109, 101, 32, 116, 97, 107, 101, 115, 32, 115, 101, 97, 116, 115, 32, 102, 114, 111, 109, 32, 116, 111, 32, 103, 97, 116, 101, 32, 103, 114, 97, 100, 101, 32, 115, 110, 111, 119, 32, 115, 104, 117, 116, 32, 105, 102, 32, 111, 114, 32, 97, 110, 100, 32, 110, 111, 116, 32, 104, 111, 117, 114, 32, 119, 105, 110, 100, 32, 102, 114, 101, 115, 104, 32], [59, 40, 41, 60, 62, 61, 43, 45]]
/-- the words of nest mates -/
def isNest : Cond → Bool
  | .fieldLinkNest .. => true
  | .methodLinkNest .. => true
  | _ => false
def wsN : List Cond := lw_tbl.filter isNest
theorem nest_warm {w : Cond} {s U : State} (hn : isNest w = true) (hW : s.WarmedH U.vm) (h : va_Nw w s) : va_Nw w U := by
  cases w <;> first | exact va_Nw.warmF hW h | exact va_Nw.warmM hW h | cases hn
/-- what is known of the tables, the script and the String constants -/
def pU (g : pG) (U : State) (H : Heap) : Prop :=
  va_K (gD g) vwCl (pty g) U ∧ va_X (gX g) (gL g) (gS g) U H ∧ gX g < gB g ∧ gB g ≤ H.size ∧ gL g ≤ 3584 ∧
  vk_S 2 pLen pByt (gK g) (gW g) (pA g) U H ∧ va_Z "java/lang/String" "COMPACT_STRINGS" "Z" (.int 1) (pA g) U H ∧ va_Z "jdk/internal/util/Preconditions" "SIOOBE_FORMATTER" "Ljava/util/function/BiFunction;" (va_rf (gF g)) (pA g) U H ∧
  vk_R RX9 88 "lift run home takes seats from to gate grade snow shut if or and not hour wind fresh " (gK g 0) U ∧ vk_R RX9 99 ";()<>=+-" (gK g 1) U ∧ va_AO RX5 U ∧ ∀ w ∈ wsN, va_Nw w U
theorem pU.kept {g : pG} {U : State} {H H1 : Heap} (h : pU g U H) (hq : ∀ q : Nat, q < H.size → ¬ pA g q → H1[q]? = H[q]?) (hz : H.size ≤ H1.size) : pU g U H1 := by
  obtain ⟨a, b, c, d, e, f, i, j, k, l, m, n⟩ := h
  exact ⟨a, b.kept (hq _ (Nat.lt_of_lt_of_le c d) (by unfold pA; omega)), c, Nat.le_trans d hz, e, f.kept hq, i.kept hq, j.kept hq, k, l, m, n⟩
theorem pU.warm {g : pG} {s U : State} {H : Heap} (hW : s.WarmedH U.vm) (h : pU g s H) : pU g U H := by
  obtain ⟨a, b, c, d, e, f, i, j, k, l, m, n⟩ := h
  exact ⟨a.moved hW.alike, b.moved hW.alike, c, d, e, f.moved hW.alike, i.moved hW.alike, j.moved hW.alike, k.warm hW, l.warm hW, m.moved hW.alike, fun w hw => nest_warm (List.mem_filter.mp hw).2 hW (n w hw)⟩
theorem pU.nest {g : pG} {U : State} {H : Heap} (h : pU g U H) {w : Cond} (hw : w ∈ wsN) (ht : w.onTables = true) {A : Array Value} : w.before A U = true := va_Nw.use ht (h.2.2.2.2.2.2.2.2.2.2.2 w hw)
theorem pws_len (g : pG) (σ : pS) : (pws g σ).length = σ.1.length := by simp [pws]
theorem pws_get (g : pG) (σ : pS) {k : Nat} (h : k < σ.1.length) : (pws g σ)[k]? = some (gB g + k, pcell g σ k) := by
  simp [pws, List.getElem?_map, List.getElem?_range h]
theorem pws_inv {g : pG} {σ : pS} {k : Nat} {q : Nat × va_E} (h : (pws g σ)[k]? = some q) : k < σ.1.length ∧ q = (gB g + k, pcell g σ k) := by
  have hk : k < σ.1.length := by
    have := (List.getElem?_eq_some_iff.mp h).1
    rwa [pws_len] at this
  rw [pws_get g σ hk] at h
  exact ⟨hk, (Option.some.inj h).symm⟩
theorem pws_D (g : pG) (σ : pS) : va_D (pA g) (pws g σ) := by
  refine ⟨fun i j p q hp hq he => ?_, fun k q hk => ?_⟩
  · obtain ⟨-, rfl⟩ := pws_inv hp
    obtain ⟨-, rfl⟩ := pws_inv hq
    simp at he; exact he
  · obtain ⟨-, rfl⟩ := pws_inv hk
    exact Nat.le_add_right _ _
theorem pP_of {g : pG} {σ : pS} {H : Heap} (h : ∀ k, k < σ.1.length → va_at (gD g) vwCl (gB g + k, pcell g σ k) H) : va_P (gD g) vwCl (pws g σ) H := by
  intro k q hk
  obtain ⟨hl, rfl⟩ := pws_inv hk
  exact h k hl
theorem pH.cell {g : pG} {σ : pS} {H : Heap} (h : pH g σ H) {k : Nat} (hk : k < σ.1.length) : va_at (gD g) vwCl (gB g + k, pcell g σ k) H := h.1 k _ (pws_get g σ hk)
theorem ob_some {σ : pS} {a : Int} {q : Nat × Nat} (h : ob σ a = some q) : 0 ≤ a ∧ a.toNat < σ.1.length ∧ σ.1.getD a.toNat (0, 0) = q ∧ σ.1[a.toNat]? = some q ∧ ((a.toNat : Nat) : Int) = a := by
  unfold ob at h
  by_cases ha : a < 0
  · rw [if_pos ha] at h; cases h
  · rw [if_neg ha] at h
    refine ⟨by omega, (List.getElem?_eq_some_iff.mp h).1, by rw [List.getD_eq_getElem?_getD, h]; rfl, h, by omega⟩
theorem pcell_obj {g : pG} {σ : pS} {a : Int} {c x : Nat} (h : ob σ a = some (c, x)) (hc : c < 50) : pcell g σ a.toNat = .inr (c, pfs g σ a.toNat x c) := by
  obtain ⟨-, -, e, -⟩ := ob_some h
  unfold pcell; rw [e, if_pos hc]
theorem pcell_long {g : pG} {σ : pS} {a : Int} {x : Nat} (h : ob σ a = some (53, x)) : pcell g σ a.toNat = .inl (gC g 3, x, .inr (.inl (fun j => Int64.ofInt (rd σ a j)))) := by
  obtain ⟨-, -, e, -, e2⟩ := ob_some h
  unfold pcell rd; rw [e, e2]; rfl
theorem pcell_ref {g : pG} {σ : pS} {a : Int} {x : Nat} (h : ob σ a = some (54, x)) : pcell g σ a.toNat = .inl (gC g 4, x, .inr (.inr (.inr (.inr (fun j => pad g (rd σ a j)))))) := by
  obtain ⟨-, -, e, -, e2⟩ := ob_some h
  unfold pcell rd; rw [e, e2]; rfl
theorem pcell_int {g : pG} {σ : pS} {a : Int} {t x : Nat} (h : ob σ a = some (50 + t, x)) (ht : t < 3) : pcell g σ a.toNat = .inl (gC g t, x, .inl (fun j => Int32.ofInt (rd σ a j))) := by
  obtain ⟨-, -, e, -, e2⟩ := ob_some h
  unfold pcell rd
  rw [e, e2, if_neg (by omega), if_neg (by omega), if_neg (by omega)]
  simp
theorem pfs_get {g : pG} {σ : pS} {k x c j : Nat} {f : Nat × Int × Nat} (h : (pFt c)[j]? = some f) : (pfs g σ k x c)[j]? = some (pfv g (σ.2 k j) k x f) := by
  have hj := (List.getElem?_eq_some_iff.mp h).1
  simp [pfs, List.getElem?_map, List.getElem?_range hj, List.getD_eq_getElem?_getD, h]
theorem pfs_len (g : pG) (σ : pS) (k x c : Nat) : (pfs g σ k x c).length = (pFt c).length := by simp [pfs]
theorem pcell_wr_ne {g : pG} {σ : pS} {a i v : Int} {k : Nat} (h : (k : Int) ≠ a) : pcell g (wr σ a i v) k = pcell g σ k := by
  have e : ∀ j : Int, (wr σ a i v).2 k j = σ.2 k j := fun j => if_neg (fun q => h q.1)
  unfold pcell pfs
  simp only [e, wr_1]
/-- a store into the cell at a: what the heap must show -/
theorem pH.store {g : pG} {σ : pS} {H H1 : Heap} {a i v : Int} (h : pH g σ H) {q : Nat × Nat} (ho : ob σ a = some q) (he : va_at (gD g) vwCl (gB g + a.toNat, pcell g (wr σ a i v) a.toNat) H1) (hz : H1.size = H.size) (oq : ∀ x : Nat, x ≠ gB g + a.toNat → H1[x]? = H[x]?) : pH g (wr σ a i v) H1 := by
  obtain ⟨h0, hl, -, -, e2⟩ := ob_some ho
  refine ⟨pP_of fun k hk => ?_, by rw [hz]; exact h.2.1, ?_⟩
  · by_cases e : k = a.toNat
    · subst e; exact he
    · rw [pcell_wr_ne (by omega)]
      exact (h.cell hk).kept (oq _ (by omega))
  · obtain ⟨-, -, s1, s2⟩ := h
    exact ⟨by show (if _ then _ else _) = _; rw [if_neg (by omega)]; exact s1, fun j hj => by show (if _ then _ else _) = _; rw [if_neg (by omega)]; exact s2 j hj⟩
/-- how many slots a state has -/
def pSz (σ : pS) : Nat := (σ.1.map (fun q => if q.1 < 50 then (pFt q.1).length else q.2)).sum
def pFull (q : Nat × Nat) : Bool := 50 ≤ q.1 || q.2 == pNf q.1
/-- what only grows -/
def pLe (σ τ : pS) : Prop := σ.1.length ≤ τ.1.length ∧ pSz σ ≤ pSz τ ∧ (∀ (a : Int) (q : Nat × Nat), ob σ a = some q → pFull q = true → ob τ a = some q) ∧ ∀ a i : Int, a < 0 → rd τ a i = rd σ a i
theorem pLe.rf (σ : pS) : pLe σ σ := ⟨Nat.le_refl _, Nat.le_refl _, fun _ _ h _ => h, fun _ _ _ => rfl⟩
theorem pLe.tr {σ τ υ : pS} (h1 : pLe σ τ) (h2 : pLe τ υ) : pLe σ υ := ⟨Nat.le_trans h1.1 h2.1, Nat.le_trans h1.2.1 h2.2.1, fun a q h f => h2.2.2.1 a q (h1.2.2.1 a q h f) f, fun a i h => (h2.2.2.2 a i h).trans (h1.2.2.2 a i h)⟩
theorem pLe.wr (σ : pS) {a i v : Int} (h : 0 ≤ a) : pLe σ (wr σ a i v) := ⟨Nat.le_refl _, Nat.le_refl _, fun _ _ h _ => h, fun b j hb => rd_wr_a σ (by omega)⟩
/-- the tables' words that hold in warmer states too -/
def wsA : List Cond := lw_tbl.filter goodWord
theorem wsA_good : GoodIn wsA wsA := fun w hw => ⟨hw, good_of_word (List.mem_filter.mp hw).2⟩
theorem wsA_in {w : Cond} (h : w ∈ lw_tbl) (hg : goodWord w = true) : w ∈ wsA := List.mem_filter.mpr ⟨h, hg⟩
theorem wsN_in {w : Cond} (h : w ∈ lw_tbl) (hg : isNest w = true) : w ∈ wsN := List.mem_filter.mpr ⟨h, hg⟩
theorem wsA_of {w : Cond} {i : Nat} (h : lw_tbl[i]? = some w) (hg : goodWord w = true) : w ∈ wsA := List.mem_filter.mpr ⟨List.mem_of_getElem? h, hg⟩
def pCtx (M : pM) (p : Program) (s : State) (m : MethodId) (args : Array Value) (meth : Method) (c : Code) : Prop :=
  p.tables.exec = Jvm.exec ∧ c.code = M.2.1 ∧ meth.sig.returnType = M.2.2.2 ∧ c.maxLocals = M.2.2.1 ∧ s.vm.findClass M.1.cls = some m.cls ∧ (∀ w ∈ wsA, w.before args s = true) ∧ meth.locks = false ∧ (M.1.name = "<init>" → meth.name = "<init>")
/-- the instruction that ends a method -/
def pRetI (ret : Option FieldType) : Instr := match ret with
  | none => .return_
  | some .long => .lreturn
  | some (.object _) => .areturn
  | some (.array _) => .areturn
  | some _ => .ireturn
/-- from here the method M, in a room of d frames, ends with the answer r and the state τ -/
def pK (M : pM) (d pc : Nat) (ls st : List pV) (σ : pS) (r : Option pV) (τ : pS) : Prop :=
  ∀ (p : Program) (l : Launch) (e : Env) (R : Room) (s : State) (m : MethodId) (args : Array Value) (below : List Frame) (meth : Method) (c : Code) (H : Heap) (locs : List Loc) (cells slots : Nat) (Q : State → Prop) (g : pG) (lsA : Array Slot),
    pCtx M p s m args meth c → pU g s s.heap → va_S (pA g) s.heap H locs → pH g σ H → lv_has lsA M.2.2.1 (plv g 0 ls) →
    d ≤ R.frames → 100 * d ≤ R.locals → cells + (τ.1.length - σ.1.length) ≤ R.cells → slots + (pSz τ - pSz σ) ≤ R.slots →
    (∀ (pc' : Nat) (lsA' : Array Slot) (H' : Heap) (locs' : List Loc), decode M.2.1 pc' = .ok (pRetI M.2.2.2, 1) → pH g τ H' → va_S (pA g) s.heap H' locs' → W p l e R s m args below meth c H' locs' (cells + (τ.1.length - σ.1.length)) (slots + (pSz τ - pSz σ)) Q (F0 m pc' lsA' (r.map (pval g)).toList)) →
    W p l e R s m args below meth c H locs cells slots Q (F0 m pc lsA (st.map (pval g)))
def pOk (M : pM) (d pc : Nat) (ls st : List pV) (σ : pS) (r : Option pV) (τ : pS) : Prop := pLe σ τ ∧ pK M d pc ls st σ r τ
/-- the answer is of the kind that the method returns -/
def pRok (ret : Option FieldType) (r : Option pV) : Prop := match ret with
  | none => r = none
  | some .long => ∃ x, r = some (1, x)
  | some (.object _) => ∃ x, r = some (2, x)
  | some (.array _) => ∃ x, r = some (2, x)
  | some .boolean => r = some (0, 0) ∨ r = some (0, 1)
  | some .int => ∃ x, r = some (0, x)
  | some .byte => ∃ x, r = some (0, x) ∧ narrow .byte (.int (Int32.ofInt x)) = .int (Int32.ofInt x)
  | some .char => ∃ x, r = some (0, x) ∧ narrow .char (.int (Int32.ofInt x)) = .int (Int32.ofInt x)
  | some _ => False
/-- from here the method ends so that Q holds -/
def pR (M : pM) (d pc : Nat) (ls st : List pV) (σ : pS) (Q : Option pV → pS → Prop) : Prop := ∃ r τ, Q r τ ∧ pRok M.2.2.2 r ∧ pOk M d pc ls st σ r τ
/-- one step of the machine -/
def pStep (M : pM) (d pc : Nat) (ls st : List pV) (σ : pS) (pc1 : Nat) (ls1 st1 : List pV) (σ1 : pS) : Prop :=
  pLe σ σ1 ∧ ∀ (p : Program) (l : Launch) (e : Env) (R : Room) (s : State) (m : MethodId) (args : Array Value) (below : List Frame) (meth : Method) (c : Code) (H : Heap) (locs : List Loc) (cells slots : Nat) (Q : State → Prop) (g : pG) (lsA : Array Slot),
    pCtx M p s m args meth c → pU g s s.heap → va_S (pA g) s.heap H locs → pH g σ H → lv_has lsA M.2.2.1 (plv g 0 ls) →
    d ≤ R.frames → 100 * d ≤ R.locals → cells + (σ1.1.length - σ.1.length) ≤ R.cells → slots + (pSz σ1 - pSz σ) ≤ R.slots →
    (∀ (lsA' : Array Slot) (H' : Heap) (locs' : List Loc), va_S (pA g) s.heap H' locs' → pH g σ1 H' → lv_has lsA' M.2.2.1 (plv g 0 ls1) → W p l e R s m args below meth c H' locs' (cells + (σ1.1.length - σ.1.length)) (slots + (pSz σ1 - pSz σ)) Q (F0 m pc1 lsA' (st1.map (pval g)))) →
    W p l e R s m args below meth c H locs cells slots Q (F0 m pc lsA (st.map (pval g)))
theorem pStep.ok {M : pM} {d pc : Nat} {ls st : List pV} {σ : pS} {pc1 : Nat} {ls1 st1 : List pV} {σ1 : pS} {r : Option pV} {τ : pS} (h : pStep M d pc ls st σ pc1 ls1 st1 σ1) (k : pOk M d pc1 ls1 st1 σ1 r τ) : pOk M d pc ls st σ r τ := by
  refine ⟨h.1.tr k.1, ?_⟩
  intro p l e R s m args below meth c H locs cells slots Q g lsA hC hU hS hH hl hd1 hd2 hc1 hc2 hE
  have a1 := h.1.1
  have a2 := h.1.2.1
  have b1 := k.1.1
  have b2 := k.1.2.1
  refine h.2 p l e R s m args below meth c H locs cells slots Q g lsA hC hU hS hH hl hd1 hd2 (by omega) (by omega) ?_
  intro lsA' H' locs' hS' hH' hl'
  refine k.2 p l e R s m args below meth c H' locs' _ _ Q g lsA' hC hU hS' hH' hl' hd1 hd2 (by omega) (by omega) ?_
  intro pc' lsB H2 locs2 hdd hH2 hS2
  have := hE pc' lsB H2 locs2 hdd hH2 hS2
  rw [show cells + (σ1.1.length - σ.1.length) + (τ.1.length - σ1.1.length) = cells + (τ.1.length - σ.1.length) by omega, show slots + (pSz σ1 - pSz σ) + (pSz τ - pSz σ1) = slots + (pSz τ - pSz σ) by omega]
  exact this
theorem pGo {M : pM} {d pc : Nat} {ls st : List pV} {σ : pS} {pc1 : Nat} {ls1 st1 : List pV} {σ1 : pS} {Q : Option pV → pS → Prop} (h : pStep M d pc ls st σ pc1 ls1 st1 σ1) (k : pR M d pc1 ls1 st1 σ1 Q) : pR M d pc ls st σ Q := by
  obtain ⟨r, τ, q, w, o⟩ := k
  exact ⟨r, τ, q, w, h.ok o⟩
theorem pEnd {M : pM} {d pc : Nat} {ls : List pV} {σ : pS} {r : Option pV} {Q : Option pV → pS → Prop} (hd : decode M.2.1 pc = .ok (pRetI M.2.2.2, 1)) (hr : pRok M.2.2.2 r) (q : Q r σ) : pR M d pc ls r.toList σ Q := by
  refine ⟨r, σ, q, hr, pLe.rf σ, ?_⟩
  intro p l e R s m args below meth c H locs cells slots Q g lsA hC hU hS hH hl hd1 hd2 hc1 hc2 hE
  have := hE pc lsA H locs hd hH hS
  rw [Nat.sub_self, Nat.sub_self, Nat.add_zero, Nat.add_zero] at this
  have e : r.toList.map (pval g) = (r.map (pval g)).toList := by cases r <;> rfl
  rw [e]
  exact this
theorem pR.mono {M : pM} {d pc : Nat} {ls st : List pV} {σ : pS} {Q Q' : Option pV → pS → Prop} (h : pR M d pc ls st σ Q) (hq : ∀ r τ, pLe σ τ → Q r τ → Q' r τ) : pR M d pc ls st σ Q' := by
  obtain ⟨r, τ, q, w, o⟩ := h
  exact ⟨r, τ, hq r τ o.1 q, w, o⟩
/-- a step that leaves the state -/
theorem pStep.pure {M : pM} {d pc : Nat} {ls st : List pV} {σ : pS} {pc1 : Nat} {st1 : List pV}
    (h : ∀ (p : Program) (l : Launch) (e : Env) (R : Room) (s : State) (m : MethodId) (args : Array Value) (below : List Frame) (meth : Method) (c : Code) (H : Heap) (locs : List Loc) (cells slots : Nat) (Q : State → Prop) (g : pG) (lsA : Array Slot), pCtx M p s m args meth c → lv_has lsA M.2.2.1 (plv g 0 ls) →
      W p l e R s m args below meth c H locs cells slots Q (F0 m pc1 lsA (st1.map (pval g))) → W p l e R s m args below meth c H locs cells slots Q (F0 m pc lsA (st.map (pval g)))) : pStep M d pc ls st σ pc1 ls st1 σ := by
  refine ⟨pLe.rf σ, ?_⟩
  intro p l e R s m args below meth c H locs cells slots Q g lsA hC hU hS hH hl hd1 hd2 hc1 hc2 hE
  refine h p l e R s m args below meth c H locs cells slots Q g lsA hC hl ?_
  have := hE lsA H locs hS hH hl
  rw [Nat.sub_self, Nat.sub_self, Nat.add_zero, Nat.add_zero] at this
  exact this
/-- a step that reads the heap -/
theorem pStep.read {M : pM} {d pc : Nat} {ls st : List pV} {σ : pS} {pc1 : Nat} {st1 : List pV}
    (h : ∀ (p : Program) (l : Launch) (e : Env) (R : Room) (s : State) (m : MethodId) (args : Array Value) (below : List Frame) (meth : Method) (c : Code) (H : Heap) (locs : List Loc) (cells slots : Nat) (Q : State → Prop) (g : pG) (lsA : Array Slot), pCtx M p s m args meth c → pU g s s.heap → va_S (pA g) s.heap H locs → pH g σ H →
      W p l e R s m args below meth c H locs cells slots Q (F0 m pc1 lsA (st1.map (pval g))) → W p l e R s m args below meth c H locs cells slots Q (F0 m pc lsA (st.map (pval g)))) : pStep M d pc ls st σ pc1 ls st1 σ := by
  refine ⟨pLe.rf σ, ?_⟩
  intro p l e R s m args below meth c H locs cells slots Q g lsA hC hU hS hH hl hd1 hd2 hc1 hc2 hE
  refine h p l e R s m args below meth c H locs cells slots Q g lsA hC hU hS hH ?_
  have := hE lsA H locs hS hH hl
  rw [Nat.sub_self, Nat.sub_self, Nat.add_zero, Nat.add_zero] at this
  exact this
/-- a step that writes the heap, making nothing -/
theorem pStep.write {M : pM} {d pc : Nat} {ls st : List pV} {σ σ1 : pS} {pc1 : Nat} {st1 : List pV} (hle : pLe σ σ1) (hn : σ1.1.length = σ.1.length) (hz : pSz σ1 = pSz σ)
    (h : ∀ (p : Program) (l : Launch) (e : Env) (R : Room) (s : State) (m : MethodId) (args : Array Value) (below : List Frame) (meth : Method) (c : Code) (H : Heap) (locs : List Loc) (cells slots : Nat) (Q : State → Prop) (g : pG) (lsA : Array Slot), pCtx M p s m args meth c → pU g s s.heap → va_S (pA g) s.heap H locs → pH g σ H →
      (∀ (H' : Heap) (locs' : List Loc), va_S (pA g) s.heap H' locs' → pH g σ1 H' → W p l e R s m args below meth c H' locs' cells slots Q (F0 m pc1 lsA (st1.map (pval g)))) → W p l e R s m args below meth c H locs cells slots Q (F0 m pc lsA (st.map (pval g)))) : pStep M d pc ls st σ pc1 ls st1 σ1 := by
  refine ⟨hle, ?_⟩
  intro p l e R s m args below meth c H locs cells slots Q g lsA hC hU hS hH hl hd1 hd2 hc1 hc2 hE
  refine h p l e R s m args below meth c H locs cells slots Q g lsA hC hU hS hH ?_
  intro H' locs' hS' hH'
  have := hE lsA H' locs' hS' hH' hl
  rw [hn, hz, Nat.sub_self, Nat.sub_self, Nat.add_zero, Nat.add_zero] at this
  exact this
