/-! steps of the small machine: fields, arrays, making -/
/-- what a class is: its place, name, fields, their types, its words -/
def pCls (ci : Nat) (C : String) (T : u_T) (N : Nat) (ty : Nat → FieldType) : Prop :=
  vwCl[ci]? = some (C, T, N) ∧ (pFt ci).length = N ∧ (∀ w ∈ u_ws C T N, w ∈ wsA) ∧ (∀ k, k < N → parseFieldDescriptor (T k).2.2.1 = some (ty k)) ∧ (∀ a, a < N → ∀ b, b < N → a ≠ b → (T a).2.1 ≠ (T b).2.1) ∧ (∀ k, k < N → (T k).1 = C) ∧ ci < 50
/-- a field's entry links -/
def pFL (own C : String) (T : u_T) (j idx : Nat) : Prop := Cond.fieldLink own idx C (T j).2.1 (T j).2.2.1 ∈ wsA ∨ ∃ host, Cond.fieldLinkNest own idx C (T j).2.1 (T j).2.2.1 host ∈ wsN
theorem pws_obj {g : pG} {σ : pS} {a : Int} {c x : Nat} (h : ob σ a = some (c, x)) (hc : c < 50) : (pws g σ)[a.toNat]? = some (gB g + a.toNat, .inr (c, pfs g σ a.toNat x c)) := by
  rw [pws_get g σ (ob_some h).2.1, pcell_obj h hc]
theorem rd_at {σ : pS} {a : Int} (h : 0 ≤ a) (j : Int) : σ.2 ((a.toNat : Nat) : Int) j = rd σ a j := by unfold rd; rw [show ((a.toNat : Nat) : Int) = a by omega]
theorem pfv3 (g : pG) (v : Int) (k x : Nat) (off : Int) (o : Nat) : pfv g v k x (3, off, o) = if o < x then va_rf (pad g ((k : Int) + off)) else .null := by simp [pfv]
section PHEAP
variable {M : pM} {d pc : Nat} {ls st : List pV} {σ : pS} {a : Int}
theorem s_get {ci j idx x N : Nat} {C : String} {T : u_T} {ty : Nat → FieldType} {f : Nat × Int × Nat} {w : pV} (hc : pCls ci C T N ty) (hl : pFL M.1.cls C T j idx) (hd : decode M.2.1 pc = .ok (.getfield idx, 3)) (ho : ob σ a = some (ci, x)) (hf : (pFt ci)[j]? = some f)
    (hw : ∀ g, pfv g (rd σ a j) a.toNat x f = pval g w) : pStep M d pc ls ((2, a) :: st) σ (pc + 3) ls (w :: st) σ := by
  obtain ⟨h0, -⟩ := ob_some ho
  have hj : j < N := by rw [← hc.2.1]; exact (List.getElem?_eq_some_iff.mp hf).1
  refine pStep.read ?_
  intro p l e R s m args below meth c H locs cells slots Q g lsA hC hU hS hH k
  rw [List.map_cons, pval_2 h0]
  have hv : (pfs g σ a.toNat x ci)[j]? = some (pval g w) := by rw [pfs_get hf, rd_at h0, hw g]
  have hsame : ∀ y, s.fieldFound? (T j).1 (T j).2.1 (T j).2.2.1 = some y → s.fieldFound? C (T j).2.1 (T j).2.2.1 = some y := fun y hy => by rw [hc.2.2.2.2.2.1 j hj] at hy; exact hy
  rcases hl with hl | ⟨host, hl⟩
  · exact va_get (Ts := wsA) (ref := C) (T := T) hC.1 hC.2.1 hC.2.2.2.2.2.1 hc.2.2.1 hC.2.2.2.2.1 hU.1 hH.1 a.toNat (pws_obj ho hc.2.2.2.2.2.2) hc.1 j hj (hC.2.2.2.2.2.1 _ hl) hsame hv hd k
  · exact va_getN (Ts := wsA) (ref := C) (T := T) hC.1 hC.2.1 hC.2.2.2.2.2.1 hc.2.2.1 hC.2.2.2.2.1 hU.1 hH.1 a.toNat (pws_obj ho hc.2.2.2.2.2.2) hc.1 j hj (hU.nest hl rfl) hsame hv hd k
theorem s_getI {ci j idx x N : Nat} {C : String} {T : u_T} {ty : Nat → FieldType} {f : Nat × Int × Nat} (hc : pCls ci C T N ty) (hl : pFL M.1.cls C T j idx) (hd : decode M.2.1 pc = .ok (.getfield idx, 3)) (ho : ob σ a = some (ci, x)) (hf : (pFt ci)[j]? = some f) (hk : f.1 ≠ 1 ∧ f.1 ≠ 2 ∧ f.1 ≠ 3) : pStep M d pc ls ((2, a) :: st) σ (pc + 3) ls ((0, rd σ a j) :: st) σ :=
  s_get hc hl hd ho hf (fun g => by unfold pfv; rw [if_neg hk.1, if_neg hk.2.1, if_neg hk.2.2]; rfl)
theorem s_getJ {ci j idx x N : Nat} {C : String} {T : u_T} {ty : Nat → FieldType} {f : Nat × Int × Nat} (hc : pCls ci C T N ty) (hl : pFL M.1.cls C T j idx) (hd : decode M.2.1 pc = .ok (.getfield idx, 3)) (ho : ob σ a = some (ci, x)) (hf : (pFt ci)[j]? = some f) (hk : f.1 = 1) : pStep M d pc ls ((2, a) :: st) σ (pc + 3) ls ((1, rd σ a j) :: st) σ :=
  s_get hc hl hd ho hf (fun g => by unfold pfv; rw [if_pos hk]; rfl)
theorem s_getR {ci j idx x N : Nat} {C : String} {T : u_T} {ty : Nat → FieldType} {f : Nat × Int × Nat} (hc : pCls ci C T N ty) (hl : pFL M.1.cls C T j idx) (hd : decode M.2.1 pc = .ok (.getfield idx, 3)) (ho : ob σ a = some (ci, x)) (hf : (pFt ci)[j]? = some f) (hk : f.1 = 2) : pStep M d pc ls ((2, a) :: st) σ (pc + 3) ls ((2, rd σ a j) :: st) σ :=
  s_get hc hl hd ho hf (fun g => by unfold pfv; rw [if_neg (by omega), if_pos hk]; rfl)
theorem s_getF {ci j idx x N o : Nat} {off : Int} {C : String} {T : u_T} {ty : Nat → FieldType} (hc : pCls ci C T N ty) (hl : pFL M.1.cls C T j idx) (hd : decode M.2.1 pc = .ok (.getfield idx, 3)) (ho : ob σ a = some (ci, x)) (hf : (pFt ci)[j]? = some (3, off, o)) (hx : o < x) : pStep M d pc ls ((2, a) :: st) σ (pc + 3) ls ((2, a + off) :: st) σ :=
  s_get hc hl hd ho hf (fun g => by
    rw [pfv3, if_pos hx]
    show va_rf (pad g _) = va_rf (pad g _)
    rw [show ((a.toNat : Nat) : Int) = a by have := (ob_some ho).1; omega])
theorem pfs_wr {g : pG} {k x c j : Nat} {v : Int} {f : Nat × Int × Nat} (hf : (pFt c)[j]? = some f) : pfs g (wr σ k j v) k x c = (pfs g σ k x c).set j (pfv g v k x f) := by
  have hj := (List.getElem?_eq_some_iff.mp hf).1
  apply List.ext_getElem?
  intro i
  rw [List.getElem?_set, pfs_len]
  by_cases hi : j = i
  · subst hi
    rw [if_pos rfl, if_pos hj, pfs_get hf]
    show some (pfv g (if _ then _ else _) k x f) = _
    rw [if_pos ⟨rfl, rfl⟩]
  · rw [if_neg hi]
    by_cases hl : i < (pFt c).length
    · obtain ⟨fi, hfi⟩ : ∃ fi, (pFt c)[i]? = some fi := ⟨_, List.getElem?_eq_getElem hl⟩
      rw [pfs_get hfi, pfs_get hfi]
      show some (pfv g (if _ then _ else _) k x fi) = _
      rw [if_neg (fun q => hi (by have := q.2; omega))]
    · rw [List.getElem?_eq_none (by rw [pfs_len]; omega), List.getElem?_eq_none (by rw [pfs_len]; omega)]
theorem pSz_wr (a i v : Int) : pSz (wr σ a i v) = pSz σ := rfl
/-- putfield, not final -/
theorem s_put {ci j idx x N : Nat} {C : String} {T : u_T} {ty : Nat → FieldType} {f : Nat × Int × Nat} {w : pV} {v : Int} (hc : pCls ci C T N ty) (hl : pFL M.1.cls C T j idx) (hd : decode M.2.1 pc = .ok (.putfield idx, 3)) (ho : ob σ a = some (ci, x)) (hf : (pFt ci)[j]? = some f)
    (hw : ∀ g, pval g w = pfv g v a.toNat x f) (hfit : ∀ g, narrow (ty j) (pval g w) = pval g w ∧ fits (ty j) (pval g w) = true) (hfin : (T j).2.2.2 = false) : pStep M d pc ls (w :: (2, a) :: st) σ (pc + 3) ls st (wr σ a j v) := by
  obtain ⟨h0, -, -, -, e0⟩ := ob_some ho
  have hj : j < N := by rw [← hc.2.1]; exact (List.getElem?_eq_some_iff.mp hf).1
  refine pStep.write (pLe.wr σ h0) rfl rfl ?_
  intro p l e R s m args below meth c H locs cells slots Q g lsA hC hU hS hH k
  rw [List.map_cons, List.map_cons, pval_2 h0]
  have hts := hC.2.2.2.2.2.1
  have hown := hC.2.2.2.2.1
  have hin := hc.2.2.1
  have hsame : ∀ y, s.fieldFound? (T j).1 (T j).2.1 (T j).2.2.1 = some y → s.fieldFound? C (T j).2.1 (T j).2.2.1 = some y := fun y hy => by rw [hc.2.2.2.2.2.1 j hj] at hy; exact hy
  have hap := va_apart (own := M.1.cls) hts hin ty hc.2.2.2.1 hc.2.2.2.2.1 hU.1 hc.1
  have hcell := hH.cell (ob_some ho).2.1
  rw [pcell_obj ho hc.2.2.2.2.2.2] at hcell
  obtain ⟨r, h1, cell, q1, q2, q3, q4⟩ := hcell
  have hr : r = (C, T, N) := Option.some.inj (h1.symm.trans hc.1)
  subst hr
  obtain ⟨hS1, hfc, kC, hkC, hkind⟩ := hU.1.1 ci _ hc.1
  obtain ⟨cf, kf, fi, fd, hi, hsl⟩ := hS1 j hj
  have hlay := hts _ (hin _ (u_in_lay hj))
  unfold u_lay at hlay
  rw [if_neg (by rw [hfin]; decide)] at hlay
  have hst := (u_facts hfc hkC (u_lays hts hin hj) hi).1
  have h6 := u_store hfc hkC hkind hlay hi (hc.2.2.2.1 j hj) (hfit g).1 (hfit g).2
  have hlen : j < (pfs g σ a.toNat x ci).length := by rw [pfs_len, hc.2.1]; exact hj
  have hnew : ∀ H' : Heap, H'[gB g + a.toNat]? = some (cell.setSlot fd.slot (pval g w)) → va_at (gD g) vwCl (gB g + a.toNat, pcell g (wr σ a j v) a.toNat) H' := by
    intro H' e1
    have hob : ob (wr σ a j v) a = some (ci, x) := ho
    rw [pcell_obj hob hc.2.2.2.2.2.2]
    have hp := pfs_wr (g := g) (σ := σ) (k := a.toNat) (x := x) (v := v) hf
    rw [e0] at hp
    rw [hp, ← hw g]
    rw [hsl] at e1
    exact ⟨_, hc.1, t_OB.to (V := updV (vp_V (pfs g σ a.toNat x ci)) j (pval g w)) ⟨_, e1, q2, q3, t_set q4 hap hj (pval g w)⟩ (fun i _ => vp_updV_set hlen (pval g w) i)⟩
  rcases hl with hl | ⟨host, hl⟩
  · refine W.putK hC.1 hC.2.1 (f := fd) ⟨hown, hts _ hl, ⟨_, _, _, hsame _ hi⟩, hst⟩ (by rw [q2]; exact h6) q1 q3 (by rw [hsl]; exact k2_hasslot (q4 j hj)) rfl rfl hd fun H' e1 e2 e3 => ?_
    exact k H' _ (hS.put e2 e3 (Nat.le_add_right _ _)) (hH.store ho (hnew H' e1) e2 e3)
  · refine va_WputK hC.1 hC.2.1 (f := fd) hown (hU.nest hl rfl) (hsame _ hi) hst (by rw [q2]; exact h6) q1 q3 (by rw [hsl]; exact k2_hasslot (q4 j hj)) rfl rfl hd fun H' e1 e2 e3 => ?_
    exact k H' _ (hS.put e2 e3 (Nat.le_add_right _ _)) (hH.store ho (hnew H' e1) e2 e3)
theorem s_putI {ci j idx x N : Nat} {C : String} {T : u_T} {ty : Nat → FieldType} {f : Nat × Int × Nat} {v : Int} (hc : pCls ci C T N ty) (hl : pFL M.1.cls C T j idx) (hd : decode M.2.1 pc = .ok (.putfield idx, 3)) (ho : ob σ a = some (ci, x)) (hf : (pFt ci)[j]? = some f) (hk : f.1 = 0) (hty : ty j = .int) (hfin : (T j).2.2.2 = false) : pStep M d pc ls ((0, v) :: (2, a) :: st) σ (pc + 3) ls st (wr σ a j v) :=
  s_put hc hl hd ho hf (fun g => by unfold pfv; rw [hk]; rfl) (fun g => by rw [hty]; exact ⟨rfl, rfl⟩) hfin
theorem s_putJ {ci j idx x N : Nat} {C : String} {T : u_T} {ty : Nat → FieldType} {f : Nat × Int × Nat} {v : Int} (hc : pCls ci C T N ty) (hl : pFL M.1.cls C T j idx) (hd : decode M.2.1 pc = .ok (.putfield idx, 3)) (ho : ob σ a = some (ci, x)) (hf : (pFt ci)[j]? = some f) (hk : f.1 = 1) (hty : ty j = .long) (hfin : (T j).2.2.2 = false) : pStep M d pc ls ((1, v) :: (2, a) :: st) σ (pc + 3) ls st (wr σ a j v) :=
  s_put hc hl hd ho hf (fun g => by unfold pfv; rw [hk]; rfl) (fun g => by rw [hty]; exact ⟨rfl, rfl⟩) hfin
theorem s_putZ {ci j idx x N : Nat} {C : String} {T : u_T} {ty : Nat → FieldType} {f : Nat × Int × Nat} {v : Int} (hc : pCls ci C T N ty) (hl : pFL M.1.cls C T j idx) (hd : decode M.2.1 pc = .ok (.putfield idx, 3)) (ho : ob σ a = some (ci, x)) (hf : (pFt ci)[j]? = some f) (hk : f.1 = 4) (hty : ty j = .boolean) (hfin : (T j).2.2.2 = false) (hv : v = 0 ∨ v = 1) : pStep M d pc ls ((0, v) :: (2, a) :: st) σ (pc + 3) ls st (wr σ a j v) :=
  s_put hc hl hd ho hf (fun g => by unfold pfv; rw [hk]; rfl) (fun g => by rw [hty]; rcases hv with rfl | rfl <;> exact ⟨rfl, rfl⟩) hfin
theorem s_putR {ci j idx x N : Nat} {C : String} {T : u_T} {ty : Nat → FieldType} {f : Nat × Int × Nat} {v : Int} {t : String} (hc : pCls ci C T N ty) (hl : pFL M.1.cls C T j idx) (hd : decode M.2.1 pc = .ok (.putfield idx, 3)) (ho : ob σ a = some (ci, x)) (hf : (pFt ci)[j]? = some f) (hk : f.1 = 2) (hty : ty j = .object t) (hfin : (T j).2.2.2 = false) : pStep M d pc ls ((2, v) :: (2, a) :: st) σ (pc + 3) ls st (wr σ a j v) :=
  s_put hc hl hd ho hf (fun g => by unfold pfv; rw [hk]; rfl) (fun g => by rw [hty]; show narrow _ (va_rf (pad g v)) = va_rf (pad g v) ∧ fits _ (va_rf (pad g v)) = true; cases pad g v <;> exact ⟨rfl, rfl⟩) hfin
/-- a final reference is set -/
def fs1 (σ : pS) (a : Int) (ci x : Nat) : pS := (σ.1.set a.toNat (ci, x + 1), σ.2)
theorem ob_fs1 {σ : pS} {a : Int} {ci x : Nat} (h : ob σ a = some (ci, x)) (b : Int) : ob (fs1 σ a ci x) b = if b = a then some (ci, x + 1) else ob σ b := by
  obtain ⟨h0, hl, -, -, -⟩ := ob_some h
  unfold ob fs1
  by_cases hb : b < 0
  · rw [if_pos hb, if_pos hb, if_neg (by omega)]
  · rw [if_neg hb, if_neg hb, List.getElem?_set]
    by_cases e : b = a
    · subst e; rw [if_pos rfl, if_pos rfl, if_pos hl]
    · rw [if_neg e, if_neg (by omega)]
theorem rd_fs1 (σ : pS) (a : Int) (ci x : Nat) (b i : Int) : rd (fs1 σ a ci x) b i = rd σ b i := rfl
theorem len_fs1 (σ : pS) (a : Int) (ci x : Nat) : (fs1 σ a ci x).1.length = σ.1.length := by simp [fs1]
theorem sum_set {l : List (Nat × Nat)} {f : Nat × Nat → Nat} {k : Nat} {q q' : Nat × Nat} (h : l[k]? = some q) (hf : f q' = f q) : ((l.set k q').map f).sum = (l.map f).sum := by
  induction l generalizing k with
  | nil => simp at h
  | cons y l ih =>
    cases k with
    | zero => simp at h; subst h; simp [hf]
    | succ k => simp at h; simp only [List.set_cons_succ, List.map_cons, List.sum_cons, ih h]
theorem pSz_fs1 {σ : pS} {a : Int} {ci x : Nat} (h : ob σ a = some (ci, x)) (hc : ci < 50) : pSz (fs1 σ a ci x) = pSz σ := sum_set (ob_some h).2.2.2.1 (by simp [hc])
theorem pLe_fs1 {σ : pS} {a : Int} {ci x : Nat} (h : ob σ a = some (ci, x)) (hc : ci < 50) (hx : x < pNf ci) : pLe σ (fs1 σ a ci x) := by
  refine ⟨by rw [len_fs1]; exact Nat.le_refl _, by rw [pSz_fs1 h hc]; exact Nat.le_refl _, fun b q hb hf => ?_, fun _ _ _ => rfl⟩
  rw [ob_fs1 h]
  by_cases e : b = a
  · subst e
    rw [h] at hb
    cases hb
    simp only [pFull, Bool.or_eq_true, decide_eq_true_eq, beq_iff_eq] at hf
    omega
  · rw [if_neg e]; exact hb
theorem s_putF {ci j idx x N : Nat} {off : Int} {C : String} {T : u_T} {ty : Nat → FieldType} {v : Int} (hc : pCls ci C T N ty) (hl : Cond.fieldLink M.1.cls idx C (T j).2.1 (T j).2.2.1 ∈ wsA) (hd : decode M.2.1 pc = .ok (.putfield idx, 3)) (ho : ob σ a = some (ci, x)) (hf : (pFt ci)[j]? = some (3, off, x)) (hx : x < pNf ci)
    (hone : ∀ i : Nat, i < N → i ≠ j → ((pFt ci).getD i (0, 0, 0)).2.2 ≠ x ∨ ((pFt ci).getD i (0, 0, 0)).1 ≠ 3) (hown2 : M.1.cls = C) (hi2 : M.1.name = "<init>") (hfin : (T j).2.2.2 = true) (hty : (∃ t, ty j = .object t) ∨ ∃ t, ty j = .array t) (hv : v = a + off) : pStep M d pc ls ((2, v) :: (2, a) :: st) σ (pc + 3) ls st (fs1 σ a ci x) := by
  obtain ⟨h0, -, -, -, e0⟩ := ob_some ho
  have h50 := hc.2.2.2.2.2.2
  have hj : j < N := by rw [← hc.2.1]; exact (List.getElem?_eq_some_iff.mp hf).1
  refine pStep.write (pLe_fs1 ho h50 hx) (len_fs1 _ _ _ _) (pSz_fs1 ho h50) ?_
  intro p l e R s m args below meth c H locs cells slots Q g lsA hC hU hS hH k
  rw [List.map_cons, List.map_cons, pval_2 h0]
  have hts := hC.2.2.2.2.2.1
  have hown := hC.2.2.2.2.1
  have hin := hc.2.2.1
  have hsame : ∀ y, s.fieldFound? (T j).1 (T j).2.1 (T j).2.2.1 = some y → s.fieldFound? C (T j).2.1 (T j).2.2.1 = some y := fun y hy => by rw [hc.2.2.2.2.2.1 j hj] at hy; exact hy
  have hap := va_apart (own := M.1.cls) hts hin ty hc.2.2.2.1 hc.2.2.2.2.1 hU.1 hc.1
  have hcell := hH.cell (ob_some ho).2.1
  rw [pcell_obj ho h50] at hcell
  obtain ⟨r, h1, cell, q1, q2, q3, q4⟩ := hcell
  have hr : r = (C, T, N) := Option.some.inj (h1.symm.trans hc.1)
  subst hr
  obtain ⟨hS1, hfc, kC, hkC, hkind⟩ := hU.1.1 ci _ hc.1
  obtain ⟨cf, kf, fi, fd, hi, hsl⟩ := hS1 j hj
  have hlay := hts _ (hin _ (u_in_lay hj))
  unfold u_lay at hlay
  rw [if_pos hfin] at hlay
  have hst := (u_facts hfc hkC (u_lays hts hin hj) hi).1
  have hcf : m.cls = cf := by
    obtain ⟨_, _, c', _, _, _, -, -, hf', -, -, -, hown3, -⟩ := Cond.laysFinal_spec hlay
    have e1 : c' = cf := by have := hi.symm.trans hf'; simp at this; exact this.1.symm
    rw [hc.2.2.2.2.2.1 j hj, ← hown2] at hown3
    rw [← e1]; exact Option.some.inj (hown.symm.trans hown3)
  have hfit : narrow (ty j) (pval g (2, v)) = pval g (2, v) ∧ fits (ty j) (pval g (2, v)) = true := by
    show narrow _ (va_rf (pad g v)) = va_rf (pad g v) ∧ fits _ (va_rf (pad g v)) = true
    rcases hty with ⟨t, ht⟩ | ⟨t, ht⟩ <;> rw [ht] <;> cases pad g v <;> exact ⟨rfl, rfl⟩
  have h6 := u_fits hfc hkC hkind (Or.inr hlay) hi (hc.2.2.2.1 j hj) hfit.1 hfit.2
  have hlen : j < (pfs g σ a.toNat x ci).length := by rw [pfs_len, hc.2.1]; exact hj
  have hfs : pfs g (fs1 σ a ci x) a.toNat (x + 1) ci = (pfs g σ a.toNat x ci).set j (pval g (2, v)) := by
    apply List.ext_getElem?
    intro i
    rw [List.getElem?_set, pfs_len]
    by_cases hij : j = i
    · subst hij
      rw [if_pos rfl, if_pos (by rw [hc.2.1]; exact hj), pfs_get hf]
      rw [pfv3, if_pos (Nat.lt_succ_self x), e0, hv]
      rfl
    · rw [if_neg hij]
      by_cases hl2 : i < (pFt ci).length
      · obtain ⟨f2, hf2⟩ : ∃ f2, (pFt ci)[i]? = some f2 := ⟨_, List.getElem?_eq_getElem hl2⟩
        rw [pfs_get hf2, pfs_get hf2]
        have h7 := hone i (by rw [← hc.2.1]; exact hl2) (fun q => hij q.symm)
        rw [List.getD_eq_getElem?_getD, hf2] at h7
        simp only [Option.getD_some] at h7
        obtain ⟨fk, fo, fn⟩ := f2
        by_cases g1 : fk = 3
        · subst g1
          rw [pfv3, pfv3]
          have h8 : fn ≠ x := h7.resolve_right (fun z => z rfl)
          by_cases g2 : fn < x
          · rw [if_pos g2, if_pos (by omega)]
          · rw [if_neg g2, if_neg (by omega)]
        · have g2 : ¬ (fk, fo, fn).1 = 3 := g1
          unfold pfv
          simp only [if_neg g2]
          rfl
      · rw [List.getElem?_eq_none (by rw [pfs_len]; omega), List.getElem?_eq_none (by rw [pfs_len]; omega)]
  have hother : ∀ k : Nat, k ≠ a.toNat → pcell g (fs1 σ a ci x) k = pcell g σ k := by
    intro k hk
    have e1 : (fs1 σ a ci x).1.getD k (0, 0) = σ.1.getD k (0, 0) := by
      unfold fs1
      rw [List.getD_eq_getElem?_getD, List.getD_eq_getElem?_getD, List.getElem?_set, if_neg (fun q => hk q.symm)]
    unfold pcell pfs
    rw [e1]
    rfl
  refine W.putFinK hC.1 hC.2.1 hown (hts _ hl) (hsame _ hi) hst hcf (hC.2.2.2.2.2.2.2 hi2) (by rw [q2]; exact h6) q1 q3 (by rw [hsl]; exact k2_hasslot (q4 j hj)) rfl rfl hd fun H' e1 e2 e3 => ?_
  refine k H' _ (hS.put e2 e3 (Nat.le_add_right _ _)) ⟨pP_of fun k hk => ?_, by rw [e2, len_fs1]; exact hH.2.1, hH.2.2⟩
  rw [len_fs1] at hk
  by_cases hka : k = a.toNat
  · subst hka
    have hob : ob (fs1 σ a ci x) a = some (ci, x + 1) := by rw [ob_fs1 ho, if_pos rfl]
    rw [pcell_obj hob h50, hfs]
    rw [hsl] at e1
    exact ⟨_, hc.1, t_OB.to (V := updV (vp_V (pfs g σ a.toNat x ci)) j (pval g (2, v))) ⟨_, e1, q2, q3, t_set q4 hap hj (pval g (2, v))⟩ (fun i _ => vp_updV_set hlen (pval g (2, v)) i)⟩
  · rw [hother k hka]
    exact (hH.cell hk).kept (e3 (gB g + k) (fun e => hka (Nat.add_left_cancel e)))
/-- a final int is set -/
theorem s_putFI {ci j idx x N : Nat} {C : String} {T : u_T} {ty : Nat → FieldType} {f : Nat × Int × Nat} {v : Int} (hc : pCls ci C T N ty) (hl : Cond.fieldLink M.1.cls idx C (T j).2.1 (T j).2.2.1 ∈ wsA) (hd : decode M.2.1 pc = .ok (.putfield idx, 3)) (ho : ob σ a = some (ci, x)) (hf : (pFt ci)[j]? = some f) (hk : f.1 = 5) (hty : ty j = .int) (hown2 : M.1.cls = C) (hi2 : M.1.name = "<init>") (hfin : (T j).2.2.2 = true) : pStep M d pc ls ((0, v) :: (2, a) :: st) σ (pc + 3) ls st (wr σ a j v) := by
  obtain ⟨h0, -, -, -, e0⟩ := ob_some ho
  have hj : j < N := by rw [← hc.2.1]; exact (List.getElem?_eq_some_iff.mp hf).1
  refine pStep.write (pLe.wr σ h0) rfl rfl ?_
  intro p l e R s m args below meth c H locs cells slots Q g lsA hC hU hS hH k
  rw [List.map_cons, List.map_cons, pval_2 h0]
  have hts := hC.2.2.2.2.2.1
  have hown := hC.2.2.2.2.1
  have hin := hc.2.2.1
  have hsame : ∀ y, s.fieldFound? (T j).1 (T j).2.1 (T j).2.2.1 = some y → s.fieldFound? C (T j).2.1 (T j).2.2.1 = some y := fun y hy => by rw [hc.2.2.2.2.2.1 j hj] at hy; exact hy
  have hap := va_apart (own := M.1.cls) hts hin ty hc.2.2.2.1 hc.2.2.2.2.1 hU.1 hc.1
  have hcell := hH.cell (ob_some ho).2.1
  rw [pcell_obj ho hc.2.2.2.2.2.2] at hcell
  obtain ⟨r, h1, cell, q1, q2, q3, q4⟩ := hcell
  have hr : r = (C, T, N) := Option.some.inj (h1.symm.trans hc.1)
  subst hr
  obtain ⟨hS1, hfc, kC, hkC, hkind⟩ := hU.1.1 ci _ hc.1
  obtain ⟨cf, kf, fi, fd, hi, hsl⟩ := hS1 j hj
  have hlay := hts _ (hin _ (u_in_lay hj))
  unfold u_lay at hlay
  rw [if_pos hfin] at hlay
  have hst := (u_facts hfc hkC (u_lays hts hin hj) hi).1
  have hcf : m.cls = cf := by
    obtain ⟨_, _, c', _, _, _, -, -, hf', -, -, -, hown3, -⟩ := Cond.laysFinal_spec hlay
    have e1 : c' = cf := by have := hi.symm.trans hf'; simp at this; exact this.1.symm
    rw [hc.2.2.2.2.2.1 j hj, ← hown2] at hown3
    rw [← e1]; exact Option.some.inj (hown.symm.trans hown3)
  have h6 := u_fits (v := pval g (0, v)) hfc hkC hkind (Or.inr hlay) hi (hc.2.2.2.1 j hj) (by rw [hty]; rfl) (by rw [hty]; rfl)
  have hlen : j < (pfs g σ a.toNat x ci).length := by rw [pfs_len, hc.2.1]; exact hj
  refine W.putFinK hC.1 hC.2.1 hown (hts _ hl) (hsame _ hi) hst hcf (hC.2.2.2.2.2.2.2 hi2) (by rw [q2]; exact h6) q1 q3 (by rw [hsl]; exact k2_hasslot (q4 j hj)) rfl rfl hd fun H' e1 e2 e3 => ?_
  refine k H' _ (hS.put e2 e3 (Nat.le_add_right _ _)) (hH.store ho ?_ e2 e3)
  have hob : ob (wr σ a j v) a = some (ci, x) := ho
  rw [pcell_obj hob hc.2.2.2.2.2.2]
  have hp := pfs_wr (g := g) (σ := σ) (k := a.toNat) (x := x) (v := v) hf
  rw [e0] at hp
  rw [hp, show pfv g v a.toNat x f = pval g (0, v) by unfold pfv; rw [hk]; rfl]
  rw [hsl] at e1
  exact ⟨_, hc.1, t_OB.to (V := updV (vp_V (pfs g σ a.toNat x ci)) j (pval g (0, v))) ⟨_, e1, q2, q3, t_set q4 hap hj (pval g (0, v))⟩ (fun i _ => vp_updV_set hlen (pval g (0, v)) i)⟩
end PHEAP
