/-! A small machine of whole numbers over the kit's rows: values, a state, how it lies in the heap -/
/-- a value: kind (0 int, 1 long, 2 reference, 3 the script, 4 a String constant, 5 its bytes, 6 the formatter, 9 nothing) and number -/
abbrev pV : Type := Nat × Int
/-- a state: for each cell its kind and a count (class and finals set; array kind and length); what each cell holds -/
abbrev pS : Type := List (Nat × Nat) × (Int → Int → Int)
abbrev pG : Type := va_G × (Nat → ClassId) × Nat × Nat × Nat × (Nat → Int32) × (Nat → Nat) × (Nat → Nat) × Option Nat
/-- a method: name, bytes, locals, what it returns -/
abbrev pM : Type := MethodName × ByteArray × Nat × Option FieldType
abbrev gD (g : pG) : va_G := g.1
abbrev gC (g : pG) : Nat → ClassId := g.2.1
abbrev gB (g : pG) : Nat := g.2.2.1
abbrev gX (g : pG) : Nat := g.2.2.2.1
abbrev gL (g : pG) : Nat := g.2.2.2.2.1
abbrev gS (g : pG) : Nat → Int32 := g.2.2.2.2.2.1
abbrev gK (g : pG) : Nat → Nat := g.2.2.2.2.2.2.1
abbrev gW (g : pG) : Nat → Nat := g.2.2.2.2.2.2.2.1
abbrev gF (g : pG) : Option Nat := g.2.2.2.2.2.2.2.2
abbrev inR (x : Int) : Prop := -2147483648 ≤ x ∧ x < 2147483648
def rd (σ : pS) (a i : Int) : Int := σ.2 a i
def wr (σ : pS) (a i v : Int) : pS := (σ.1, fun x y => if x = a ∧ y = i then v else σ.2 x y)
def ob (σ : pS) (a : Int) : Option (Nat × Nat) := if a < 0 then none else σ.1[a.toNat]?
theorem rd_wr (σ : pS) (a i v x y : Int) : rd (wr σ a i v) x y = if x = a ∧ y = i then v else rd σ x y := rfl
theorem ob_wr (σ : pS) (a i v x : Int) : ob (wr σ a i v) x = ob σ x := rfl
theorem rd_wr_same (σ : pS) (a i v : Int) : rd (wr σ a i v) a i = v := by rw [rd_wr, if_pos ⟨rfl, rfl⟩]
theorem rd_wr_a (σ : pS) {a i v x y : Int} (h : x ≠ a) : rd (wr σ a i v) x y = rd σ x y := by rw [rd_wr, if_neg (fun q => h q.1)]
theorem rd_wr_i (σ : pS) {a i v x y : Int} (h : y ≠ i) : rd (wr σ a i v) x y = rd σ x y := by rw [rd_wr, if_neg (fun q => h q.2)]
theorem wr_1 (σ : pS) (a i v : Int) : (wr σ a i v).1 = σ.1 := rfl
/-- an address -/
def pad (g : pG) (n : Int) : Option Nat := if n < 0 then none else some (gB g + n.toNat)
theorem pad_nat {g : pG} {n : Int} (h : 0 ≤ n) : pad g n = some (gB g + n.toNat) := by unfold pad; rw [if_neg (by omega)]
def pval (g : pG) (v : pV) : Value := match v.1 with
  | 0 => .int (Int32.ofInt v.2)
  | 1 => .long (Int64.ofInt v.2)
  | 2 => va_rf (pad g v.2)
  | 3 => .ref (gX g)
  | 5 => .ref (gW g v.2.toNat)
  | 6 => va_rf (gF g)
  | _ => .ref (gK g v.2.toNat)
theorem pval_0 (g : pG) (x : Int) : pval g (0, x) = .int (Int32.ofInt x) := rfl
theorem pval_1 (g : pG) (x : Int) : pval g (1, x) = .long (Int64.ofInt x) := rfl
theorem pval_2 {g : pG} {x : Int} (h : 0 ≤ x) : pval g (2, x) = .ref (gB g + x.toNat) := by show va_rf (pad g x) = _; rw [pad_nat h]; rfl
theorem pval_2n {g : pG} {x : Int} (h : x < 0) : pval g (2, x) = .null := by show va_rf (pad g x) = _; unfold pad; rw [if_pos h]; rfl
theorem pval_cat (g : pG) (v : pV) : (pval g v).category = if v.1 = 1 then 2 else 1 := by
  obtain ⟨k, n⟩ := v
  match k with
  | 0 => rfl
  | 1 => rfl
  | 2 => show (va_rf (pad g n)).category = _; unfold pad; by_cases h : n < 0 <;> simp [h, va_rf, Value.category]
  | 3 => rfl
  | 4 => rfl
  | 5 => rfl
  | 6 => show (va_rf (gF g)).category = _; cases gF g <;> rfl
  | k + 7 => show (Value.ref _).category = _; simp [Value.category]
/-- the locals that are known -/
def plv (g : pG) : Nat → List pV → List (Nat × Value)
  | _, [] => []
  | i, v :: vs => if v.1 = 9 then plv g (i + 1) vs else (i, pval g v) :: plv g (i + 1) vs
theorem plv_mem (g : pG) (q : Nat × Value) : ∀ (ls : List pV) (k : Nat), q ∈ plv g k ls ↔ ∃ j v, ls[j]? = some v ∧ v.1 ≠ 9 ∧ q = (k + j, pval g v) := by
  intro ls
  induction ls with
  | nil => intro k; simp [plv]
  | cons w ls ih =>
    intro k
    rw [plv]
    by_cases h : w.1 = 9
    · rw [if_pos h, ih (k + 1)]
      refine ⟨fun ⟨j, v, a, b, c⟩ => ⟨j + 1, v, by simpa using a, b, by rw [c]; congr 1; omega⟩, fun ⟨j, v, a, b, c⟩ => ?_⟩
      cases j with
      | zero => simp at a; subst a; exact absurd h b
      | succ j => exact ⟨j, v, by simpa using a, b, by rw [c]; congr 1; omega⟩
    · rw [if_neg h, List.mem_cons, ih (k + 1)]
      refine ⟨fun z => ?_, fun ⟨j, v, a, b, c⟩ => ?_⟩
      · rcases z with z | ⟨j, v, a, b, c⟩
        · exact ⟨0, w, rfl, h, by simpa using z⟩
        · exact ⟨j + 1, v, by simpa using a, b, by rw [c]; congr 1; omega⟩
      · cases j with
        | zero => simp at a; subst a; exact Or.inl (by simpa using c)
        | succ j => exact Or.inr ⟨j, v, by simpa using a, b, by rw [c]; congr 1; omega⟩
theorem plv_at {g : pG} {lsA : Array Slot} {nL : Nat} {ls : List pV} (h : lv_has lsA nL (plv g 0 ls)) {i : Nat} {v : pV} (hv : ls[i]? = some v) (h9 : v.1 ≠ 9) : lsA[i]? = some (.val (pval g v)) :=
  h.2.2 (i, pval g v) ((plv_mem g _ ls 0).mpr ⟨i, v, hv, h9, by simp⟩)
/-- storing at i is no harm to a long at i - 1 -/
def pok1 (ls : List pV) (i : Nat) : Bool := match i with
  | 0 => true
  | j + 1 => match ls[j]? with
    | some v => v.1 != 1
    | none => true
theorem pval_cat2 {g : pG} {v : pV} (h : (pval g v).category = 2) : v.1 = 1 := by
  rw [pval_cat] at h
  by_cases q : v.1 = 1
  · exact q
  · rw [if_neg q] at h; omega
theorem plv_set1 {g : pG} {lsA : Array Slot} {nL : Nat} {ls : List pV} {i : Nat} {v : pV} (hp : pok1 ls i = true)
    (h : lv_has lsA nL ((i, pval g v) :: (plv g 0 ls).filter (fun q => !(q.1 == i) && !(q.1 + 1 == i && q.2.category == 2)))) : lv_has lsA nL (plv g 0 (ls.set i v)) := by
  refine ⟨h.1, h.2.1, fun q hq => ?_⟩
  obtain ⟨j, w, a, b, rfl⟩ := (plv_mem g q _ 0).mp hq
  simp only [Nat.zero_add]
  rw [List.getElem?_set] at a
  by_cases hj : i = j
  · subst hj
    rw [if_pos rfl] at a
    by_cases hl : i < ls.length
    · rw [if_pos hl] at a; cases a
      exact h.2.2 _ List.mem_cons_self
    · rw [if_neg hl] at a; cases a
  · rw [if_neg hj] at a
    refine h.2.2 (j, pval g w) (List.mem_cons_of_mem _ (List.mem_filter.mpr ⟨(plv_mem g _ ls 0).mpr ⟨j, w, a, b, by simp⟩, ?_⟩))
    simp only [Bool.and_eq_true, Bool.not_eq_true', beq_eq_false_iff_ne, ne_eq, Bool.and_eq_false_iff]
    refine ⟨fun e => hj e.symm, ?_⟩
    by_cases e : j + 1 = i
    · right
      subst e
      intro hc
      have := pval_cat2 hc
      simp [pok1, a, this] at hp
    · exact Or.inl e
theorem plv_set2 {g : pG} {lsA : Array Slot} {nL : Nat} {ls : List pV} {i : Nat} {v u : pV} (hu : u.1 = 9) (hp : pok1 ls i = true)
    (h : lv_has lsA nL ((i, pval g v) :: (plv g 0 ls).filter (fun q => !(q.1 == i) && (!(q.1 == i + 1) && !(q.1 + 1 == i && q.2.category == 2))))) : lv_has lsA nL (plv g 0 ((ls.set i v).set (i + 1) u)) := by
  refine ⟨h.1, h.2.1, fun q hq => ?_⟩
  obtain ⟨j, w, a, b, rfl⟩ := (plv_mem g q _ 0).mp hq
  simp only [Nat.zero_add]
  rw [List.getElem?_set] at a
  by_cases hk : i + 1 = j
  · subst hk
    rw [if_pos rfl] at a
    by_cases hl : i + 1 < (ls.set i v).length
    · rw [if_pos hl] at a; cases a; exact absurd hu b
    · rw [if_neg hl] at a; cases a
  · rw [if_neg hk, List.getElem?_set] at a
    by_cases hj : i = j
    · subst hj
      rw [if_pos rfl] at a
      by_cases hl : i < ls.length
      · rw [if_pos hl] at a; cases a
        exact h.2.2 _ List.mem_cons_self
      · rw [if_neg hl] at a; cases a
    · rw [if_neg hj] at a
      refine h.2.2 (j, pval g w) (List.mem_cons_of_mem _ (List.mem_filter.mpr ⟨(plv_mem g _ ls 0).mpr ⟨j, w, a, b, by simp⟩, ?_⟩))
      simp only [Bool.and_eq_true, Bool.not_eq_true', beq_eq_false_iff_ne, ne_eq, Bool.and_eq_false_iff]
      refine ⟨fun e => hj e.symm, fun e => hk e.symm, ?_⟩
      by_cases e : j + 1 = i
      · right
        subst e
        intro hc
        have := pval_cat2 hc
        simp [pok1, a, this] at hp
      · exact Or.inl e
