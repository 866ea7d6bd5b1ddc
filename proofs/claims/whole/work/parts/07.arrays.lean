/-! steps of the small machine: arrays, making -/
section PARR
variable {M : pM} {d pc : Nat} {ls st : List pV} {σ : pS} {a : Int}
theorem pws_at {g : pG} {σ : pS} {a : Int} {q : Nat × Nat} (h : ob σ a = some q) : (pws g σ)[a.toNat]? = some (gB g + a.toNat, pcell g σ a.toNat) := pws_get g σ (ob_some h).2.1
theorem toN {i : Int} (h : 0 ≤ i) : ((i.toNat : Nat) : Int) = i := by omega
theorem cell_int {g : pG} {U : State} {H : Heap} {t x : Nat} (hH : pH g σ H) (h : ob σ a = some (50 + t, x)) (ht : t < 3) : H[gB g + a.toNat]? = some (vp_cell (gC g t) (x, .inl (fun j => Int32.ofInt (rd σ a j)))) := by
  have h1 := hH.cell (ob_some h).2.1
  rw [pcell_int h ht] at h1
  exact h1
theorem st_int {g : pG} {H H1 : Heap} {t x : Nat} {i v : Int} (hH : pH g σ H) (h : ob σ a = some (50 + t, x)) (ht : t < 3) (hi : 0 ≤ i) (e : H1[gB g + a.toNat]? = some ((vp_cell (gC g t) (x, .inl (fun j => Int32.ofInt (rd σ a j)))).setSlot i.toNat (.int (Int32.ofInt v)))) (z : H1.size = H.size) (oq : ∀ q : Nat, q ≠ gB g + a.toNat → H1[q]? = H[q]?) : pH g (wr σ a i v) H1 := by
  refine hH.store h ?_ z oq
  have hob : ob (wr σ a i v) a = some (50 + t, x) := h
  rw [pcell_int hob ht]
  show H1[_]? = some (vp_cell _ _)
  rw [e, vp_cell_i, vp_cell_i, arrV_store]
  congr 2
  funext q
  show (if q = i.toNat then _ else _) = Value.int (Int32.ofInt (rd (wr σ a i v) a (q : Int)))
  rw [rd_wr]
  by_cases hq : q = i.toNat
  · rw [if_pos hq, if_pos ⟨rfl, by omega⟩]
  · rw [if_neg hq, if_neg (fun z => hq (by omega))]
theorem s_iald {x : Nat} {i : Int} (hd : decode M.2.1 pc = .ok (.iaload, 1)) (ho : ob σ a = some (50, x)) (hi : 0 ≤ i ∧ i < (x : Int) ∧ i < 2147483648) : pStep M d pc ls ((0, i) :: (2, a) :: st) σ (pc + 1) ls ((0, rd σ a i) :: st) σ := by
  refine pStep.read ?_
  intro p l e R s m args below meth c H locs cells slots Q g lsA hC hU hS hH k
  obtain ⟨h1, h2⟩ := i32_in (n := x) hi.1 hi.2.1 (by omega)
  rw [List.map_cons, List.map_cons, pval_2 (ob_some ho).1]
  refine va_iald hC.1 hC.2.1 hU.1 hH.1 a.toNat 0 (f := fun j => Int32.ofInt (rd σ a j)) (by rw [pws_at ho, pcell_int (t := 0) ho (by decide)]) rfl h1 hd ?_
  rw [h2, toN hi.1]
  exact k
theorem s_bald {x : Nat} {i : Int} (hd : decode M.2.1 pc = .ok (.baload, 1)) (ho : ob σ a = some (51, x)) (hi : 0 ≤ i ∧ i < (x : Int) ∧ i < 2147483648) : pStep M d pc ls ((0, i) :: (2, a) :: st) σ (pc + 1) ls ((0, rd σ a i) :: st) σ := by
  refine pStep.read ?_
  intro p l e R s m args below meth c H locs cells slots Q g lsA hC hU hS hH k
  obtain ⟨h1, h2⟩ := i32_in (n := x) hi.1 hi.2.1 (by omega)
  rw [List.map_cons, List.map_cons, pval_2 (ob_some ho).1]
  refine va_bald hC.1 hC.2.1 hU.1 hH.1 a.toNat 1 (f := fun j => Int32.ofInt (rd σ a j)) (by rw [pws_at ho, pcell_int (t := 1) ho (by decide)]) rfl h1 hd ?_
  rw [h2, toN hi.1]
  exact k
theorem s_zald {x : Nat} {i : Int} (hd : decode M.2.1 pc = .ok (.baload, 1)) (ho : ob σ a = some (52, x)) (hi : 0 ≤ i ∧ i < (x : Int) ∧ i < 2147483648) : pStep M d pc ls ((0, i) :: (2, a) :: st) σ (pc + 1) ls ((0, rd σ a i) :: st) σ := by
  refine pStep.read ?_
  intro p l e R s m args below meth c H locs cells slots Q g lsA hC hU hS hH k
  obtain ⟨h1, h2⟩ := i32_in (n := x) hi.1 hi.2.1 (by omega)
  rw [List.map_cons, List.map_cons, pval_2 (ob_some ho).1]
  refine va_zald hC.1 hC.2.1 hU.1 hH.1 a.toNat 2 (f := fun j => Int32.ofInt (rd σ a j)) (by rw [pws_at ho, pcell_int (t := 2) ho (by decide)]) rfl h1 hd ?_
  rw [h2, toN hi.1]
  exact k
theorem s_lald {x : Nat} {i : Int} (hd : decode M.2.1 pc = .ok (.laload, 1)) (ho : ob σ a = some (53, x)) (hi : 0 ≤ i ∧ i < (x : Int) ∧ i < 2147483648) : pStep M d pc ls ((0, i) :: (2, a) :: st) σ (pc + 1) ls ((1, rd σ a i) :: st) σ := by
  refine pStep.read ?_
  intro p l e R s m args below meth c H locs cells slots Q g lsA hC hU hS hH k
  obtain ⟨h1, h2⟩ := i32_in (n := x) hi.1 hi.2.1 (by omega)
  rw [List.map_cons, List.map_cons, pval_2 (ob_some ho).1]
  refine va_lald hC.1 hC.2.1 hU.1 hH.1 a.toNat 3 (f := fun j => Int64.ofInt (rd σ a j)) (by rw [pws_at ho, pcell_long ho]) rfl h1 hd ?_
  rw [h2, toN hi.1]
  exact k
theorem s_aald {x : Nat} {i : Int} (hd : decode M.2.1 pc = .ok (.aaload, 1)) (ho : ob σ a = some (54, x)) (hi : 0 ≤ i ∧ i < (x : Int) ∧ i < 2147483648) : pStep M d pc ls ((0, i) :: (2, a) :: st) σ (pc + 1) ls ((2, rd σ a i) :: st) σ := by
  refine pStep.read ?_
  intro p l e R s m args below meth c H locs cells slots Q g lsA hC hU hS hH k
  obtain ⟨h1, h2⟩ := i32_in (n := x) hi.1 hi.2.1 (by omega)
  rw [List.map_cons, List.map_cons, pval_2 (ob_some ho).1]
  refine va_aldq hC.1 hC.2.1 hU.1 hH.1 a.toNat 4 (C := RX5) (f := fun j => pad g (rd σ a j)) (by rw [pws_at ho, pcell_ref ho]) rfl h1 hd ?_
  rw [h2, toN hi.1]
  exact k
/-- the script -/
theorem s_sld {i : Int} {z : Int} (hd : decode M.2.1 pc = .ok (.iaload, 1)) (hi : 0 ≤ i ∧ i < rd σ (-2) 0) : pStep M d pc ls ((0, i) :: (3, z) :: st) σ (pc + 1) ls ((0, rd σ (-1) i) :: st) σ := by
  refine pStep.read ?_
  intro p l e R s m args below meth c H locs cells slots Q g lsA hC hU hS hH k
  have e1 : rd σ (-2) 0 = (gL g : Int) := hH.2.2.1
  obtain ⟨u1, u2, u3, u4, u5, -⟩ := hU.2
  rw [e1] at hi
  obtain ⟨h1, h2⟩ := i32_in (n := gL g) hi.1 hi.2 (by omega)
  refine va_sld hC.1 hC.2.1 u1 (Nat.lt_of_lt_of_le u2 u3) (show ¬ gB g ≤ gX g by omega) hS h1 hd ?_
  have e2 : rd σ (-1) i = (gS g i.toNat).toInt := by
    have := hH.2.2.2 i.toNat (by omega)
    rw [toN hi.1] at this
    exact this
  rw [List.map_cons, pval_0, e2, Int32.ofInt_toInt] at k
  rw [h2]
  exact k
theorem s_slen {z : Int} (hd : decode M.2.1 pc = .ok (.arraylength, 1)) : pStep M d pc ls ((3, z) :: st) σ (pc + 1) ls ((0, rd σ (-2) 0) :: st) σ := by
  refine pStep.read ?_
  intro p l e R s m args below meth c H locs cells slots Q g lsA hC hU hS hH k
  have e1 : rd σ (-2) 0 = (gL g : Int) := hH.2.2.1
  obtain ⟨u1, u2, u3, u4, u5, -⟩ := hU.2
  refine va_slen hC.1 hC.2.1 u1 (Nat.lt_of_lt_of_le u2 u3) (show ¬ gB g ≤ gX g by omega) hS hd ?_
  rw [List.map_cons, pval_0, e1] at k
  exact k
theorem s_iast {x : Nat} {i v : Int} (hd : decode M.2.1 pc = .ok (.iastore, 1)) (ho : ob σ a = some (50, x)) (hi : 0 ≤ i ∧ i < (x : Int) ∧ i < 2147483648) : pStep M d pc ls ((0, v) :: (0, i) :: (2, a) :: st) σ (pc + 1) ls st (wr σ a i v) := by
  refine pStep.write (pLe.wr σ (ob_some ho).1) rfl rfl ?_
  intro p l e R s m args below meth c H locs cells slots Q g lsA hC hU hS hH k
  obtain ⟨h1, h2⟩ := i32_in (n := x) hi.1 hi.2.1 (by omega)
  rw [List.map_cons, List.map_cons, List.map_cons, pval_2 (ob_some ho).1]
  refine W.iast hC.1 hC.2.1 (cell_int (t := 0) (U := s) hH ho (by decide)) ((hU.1.2 0 _ rfl).1 x (fun j => .int (Int32.ofInt (rd σ a j)))) (fun q => by cases q) (by show ¬ (_ ∨ (arrV _ _ _).slots.size ≤ _); rw [arrV_size]; exact h1) rfl rfl hd fun H1 e z oq => ?_
  rw [h2] at e ⊢
  exact k H1 _ (hS.put z oq (Nat.le_add_right _ _)) (st_int (t := 0) hH ho (by decide) hi.1 e z oq)
theorem s_zast {x : Nat} {i v : Int} (hd : decode M.2.1 pc = .ok (.bastore, 1)) (ho : ob σ a = some (52, x)) (hi : 0 ≤ i ∧ i < (x : Int) ∧ i < 2147483648) (hv : v = 0 ∨ v = 1) : pStep M d pc ls ((0, v) :: (0, i) :: (2, a) :: st) σ (pc + 1) ls st (wr σ a i v) := by
  refine pStep.write (pLe.wr σ (ob_some ho).1) rfl rfl ?_
  intro p l e R s m args below meth c H locs cells slots Q g lsA hC hU hS hH k
  obtain ⟨h1, h2⟩ := i32_in (n := x) hi.1 hi.2.1 (by omega)
  rw [List.map_cons, List.map_cons, List.map_cons, pval_2 (ob_some ho).1]
  refine W.zast hC.1 hC.2.1 (cell_int (t := 2) (U := s) hH ho (by decide)) ((hU.1.2 2 _ rfl).1 x (fun j => .int (Int32.ofInt (rd σ a j)))) (fun q => by cases q) (by show ¬ (_ ∨ (arrV _ _ _).slots.size ≤ _); rw [arrV_size]; exact h1) rfl rfl hd fun H1 e z oq => ?_
  rw [h2] at e ⊢
  have hn : narrow .boolean (.int (Int32.ofInt v)) = .int (Int32.ofInt v) := by rcases hv with rfl | rfl <;> rfl
  rw [hn] at e
  exact k H1 _ (hS.put z oq (Nat.le_add_right _ _)) (st_int (t := 2) hH ho (by decide) hi.1 e z oq)
theorem s_bast {x : Nat} {i v : Int} (hd : decode M.2.1 pc = .ok (.bastore, 1)) (ho : ob σ a = some (51, x)) (hi : 0 ≤ i ∧ i < (x : Int) ∧ i < 2147483648) : pStep M d pc ls ((0, v) :: (0, i) :: (2, a) :: st) σ (pc + 1) ls st (wr σ a i (i_b v)) := by
  refine pStep.write (pLe.wr σ (ob_some ho).1) rfl rfl ?_
  intro p l e R s m args below meth c H locs cells slots Q g lsA hC hU hS hH k
  obtain ⟨h1, h2⟩ := i32_in (n := x) hi.1 hi.2.1 (by omega)
  rw [List.map_cons, List.map_cons, List.map_cons, pval_2 (ob_some ho).1]
  refine W.bast hC.1 hC.2.1 (cell_int (t := 1) (U := s) hH ho (by decide)) ((hU.1.2 1 _ rfl).1 x (fun j => .int (Int32.ofInt (rd σ a j)))) (fun q => by cases q) (by show ¬ (_ ∨ (arrV _ _ _).slots.size ≤ _); rw [arrV_size]; exact h1) rfl rfl hd fun H1 e z oq => ?_
  rw [h2] at e ⊢
  have hn : narrow .byte (.int (Int32.ofInt v)) = .int (Int32.ofInt (i_b v)) := by rw [i_b, Int32.ofInt_toInt]; rfl
  rw [hn] at e
  exact k H1 _ (hS.put z oq (Nat.le_add_right _ _)) (st_int (t := 1) hH ho (by decide) hi.1 e z oq)
theorem s_last {x : Nat} {i v : Int} (hd : decode M.2.1 pc = .ok (.lastore, 1)) (ho : ob σ a = some (53, x)) (hi : 0 ≤ i ∧ i < (x : Int) ∧ i < 2147483648) : pStep M d pc ls ((1, v) :: (0, i) :: (2, a) :: st) σ (pc + 1) ls st (wr σ a i v) := by
  refine pStep.write (pLe.wr σ (ob_some ho).1) rfl rfl ?_
  intro p l e R s m args below meth c H locs cells slots Q g lsA hC hU hS hH k
  obtain ⟨h1, h2⟩ := i32_in (n := x) hi.1 hi.2.1 (by omega)
  rw [List.map_cons, List.map_cons, List.map_cons, pval_2 (ob_some ho).1]
  have hcell := hH.cell (ob_some ho).2.1
  rw [pcell_long ho] at hcell
  refine W.last hC.1 hC.2.1 hcell ((hU.1.2 3 _ rfl).1 x (fun j => .long (Int64.ofInt (rd σ a j)))) (fun q => by cases q) (by show ¬ (_ ∨ (arrV _ _ _).slots.size ≤ _); rw [arrV_size]; exact h1) rfl rfl hd fun H1 e z oq => ?_
  rw [h2] at e ⊢
  refine k H1 _ (hS.put z oq (Nat.le_add_right _ _)) (hH.store ho ?_ z oq)
  have hob : ob (wr σ a i v) a = some (53, x) := ho
  rw [pcell_long hob]
  show H1[_]? = some (vp_cell _ _)
  rw [e, vp_cell_l, vp_cell_l, arrV_store]
  congr 2
  funext q
  show (if q = i.toNat then _ else _) = Value.long (Int64.ofInt (rd (wr σ a i v) a (q : Int)))
  rw [rd_wr]
  by_cases hq : q = i.toNat
  · rw [if_pos hq, if_pos ⟨rfl, by omega⟩]
  · rw [if_neg hq, if_neg (fun z => hq (by omega))]
theorem s_aast {x y : Nat} {i v : Int} (hd : decode M.2.1 pc = .ok (.aastore, 1)) (ho : ob σ a = some (54, x)) (hi : 0 ≤ i ∧ i < (x : Int) ∧ i < 2147483648) (hv : ob σ v = some (5, y)) : pStep M d pc ls ((2, v) :: (0, i) :: (2, a) :: st) σ (pc + 1) ls st (wr σ a i v) := by
  refine pStep.write (pLe.wr σ (ob_some ho).1) rfl rfl ?_
  intro p l e R s m args below meth c H locs cells slots Q g lsA hC hU hS hH k
  obtain ⟨h1, h2⟩ := i32_in (n := x) hi.1 hi.2.1 (by omega)
  rw [List.map_cons, List.map_cons, List.map_cons, pval_2 (ob_some ho).1, pval_2 (ob_some hv).1]
  have hcell := hH.cell (ob_some ho).2.1
  rw [pcell_ref ho] at hcell
  have hcv := hH.cell (ob_some hv).2.1
  rw [pcell_obj hv (by decide)] at hcv
  obtain ⟨r', hr', cellV, g1, g2, g3, -⟩ := hcv
  have hcls := (hU.1.1 5 _ (show vwCl[5]? = some (RX5, TX5, 9) from rfl)).2
  obtain ⟨kA, comp, k1, k2, k3, -⟩ := (hU.1.2 4 _ (show (pty g)[4]? = some (gC g 4, .object RX5) from rfl)).2
  have hcomp : comp = (gD g).1 5 := Option.some.inj (k3.symm.trans hcls.1)
  subst hcomp
  obtain ⟨kC, hkC, -⟩ := hcls.2
  have hlt : (Int32.ofInt i).toNatClampNeg < (vp_cell (gC g 4) (x, .inr (.inr (.inr (.inr (fun j => pad g (rd σ a j))))))).slots.size := by
    show _ < (arrV _ _ _).slots.size
    have h3 : i.toNat < x := by omega
    rw [arrV_size, h2]; exact h3
  refine W.aast hC.1 hC.2.1 hcell (fun q h => by cases h) (fun h => by cases h) k1 k2 rfl hkC ⟨fun q => h1 (Or.inl q), hlt⟩ g1 (fun q h => by rw [g3] at h; cases h) (by rw [g2]; exact hkC) (by rw [g2]; exact va_assign hcls) rfl rfl hd fun H1 e z oq => ?_
  rw [h2] at e ⊢
  refine k H1 _ (hS.put z oq (Nat.le_add_right _ _)) (hH.store ho ?_ z oq)
  have hob : ob (wr σ a i v) a = some (54, x) := ho
  rw [pcell_ref hob]
  show H1[_]? = some (vp_cell _ _)
  rw [e, vp_cell_q, vp_cell_q, arrV_store]
  congr 2
  funext q
  show (if q = i.toNat then _ else _) = va_rf (pad g (rd (wr σ a i v) a (q : Int)))
  rw [rd_wr]
  by_cases hq : q = i.toNat
  · rw [if_pos hq, if_pos ⟨rfl, by omega⟩, pad_nat (ob_some hv).1]; rfl
  · rw [if_neg hq, if_neg (fun z => hq (by omega))]
theorem s_alen {x : Nat} (hd : decode M.2.1 pc = .ok (.arraylength, 1)) (ho : ob σ a = some (50, x)) : pStep M d pc ls ((2, a) :: st) σ (pc + 1) ls ((0, (x : Int)) :: st) σ := by
  refine pStep.read ?_
  intro p l e R s m args below meth c H locs cells slots Q g lsA hC hU hS hH k
  rw [List.map_cons, pval_2 (ob_some ho).1]
  exact va_alen hC.1 hC.2.1 hU.1 hH.1 a.toNat 0 (x := (x, .inl (fun j => Int32.ofInt (rd σ a j)))) (by rw [pws_at ho, pcell_int (t := 0) ho (by decide)]) rfl (Int32.ofInt_eq_ofNat).symm hd k
theorem s_blen {x : Nat} (hd : decode M.2.1 pc = .ok (.arraylength, 1)) (ho : ob σ a = some (51, x)) : pStep M d pc ls ((2, a) :: st) σ (pc + 1) ls ((0, (x : Int)) :: st) σ := by
  refine pStep.read ?_
  intro p l e R s m args below meth c H locs cells slots Q g lsA hC hU hS hH k
  rw [List.map_cons, pval_2 (ob_some ho).1]
  exact va_alen hC.1 hC.2.1 hU.1 hH.1 a.toNat 1 (x := (x, .inl (fun j => Int32.ofInt (rd σ a j)))) (by rw [pws_at ho, pcell_int (t := 1) ho (by decide)]) rfl (Int32.ofInt_eq_ofNat).symm hd k
theorem s_ldcS {i : Nat} {idx : Nat} (hd : decode M.2.1 pc = .ok (.ldc idx, 2)) (hown : M.1.cls = RX9) (hi : (i = 0 ∧ idx = 88) ∨ (i = 1 ∧ idx = 99)) : pStep M d pc ls st σ (pc + 2) ls ((4, (i : Int)) :: st) σ := by
  refine pStep.read ?_
  intro p l e R s m args below meth c H locs cells slots Q g lsA hC hU hS hH k
  obtain ⟨-, -, -, -, -, -, -, -, k1, k2, -⟩ := hU
  have ho := hC.2.2.2.2.1
  rw [hown] at ho
  rcases hi with ⟨rfl, rfl⟩ | ⟨rfl, rfl⟩
  · exact va_ldcS hC.1 hC.2.1 ho k1 hd k
  · exact va_ldcS hC.1 hC.2.1 ho k2 hd k
/-- what a new cell holds -/
def pdf (c : Nat) (i : Int) : Int := if c = 54 then -1 else if c < 50 ∧ ((pFt c).getD i.toNat (0, 0, 0)).1 = 2 then -1 else 0
/-- a new cell -/
def nw (σ : pS) (c x : Nat) : pS := (σ.1 ++ [(c, x)], fun b i => if b = (σ.1.length : Int) then pdf c i else σ.2 b i)
theorem rd_nw (σ : pS) (c x : Nat) (b i : Int) : rd (nw σ c x) b i = if b = (σ.1.length : Int) then pdf c i else rd σ b i := rfl
theorem len_nw (σ : pS) (c x : Nat) : (nw σ c x).1.length = σ.1.length + 1 := by simp [nw]
theorem ob_nw (σ : pS) (c x : Nat) (b : Int) : ob (nw σ c x) b = if b = (σ.1.length : Int) then some (c, x) else ob σ b := by
  unfold ob nw
  by_cases h : b < 0
  · rw [if_pos h, if_pos h, if_neg (by omega)]
  · rw [if_neg h, if_neg h]
    by_cases e : b = (σ.1.length : Int)
    · rw [if_pos e, show b.toNat = σ.1.length by omega]; simp
    · rw [if_neg e]
      by_cases hl : b.toNat < σ.1.length
      · rw [List.getElem?_append_left hl]
      · rw [List.getElem?_eq_none (by simp; omega), List.getElem?_eq_none (by omega)]
theorem pSz_nw (σ : pS) (c x : Nat) : pSz (nw σ c x) = pSz σ + (if c < 50 then (pFt c).length else x) := by
  simp [pSz, nw]
theorem pLe_nw (σ : pS) (c x : Nat) : pLe σ (nw σ c x) := by
  refine ⟨by rw [len_nw]; omega, by rw [pSz_nw]; omega, fun b q hb _ => ?_, fun b i hb => ?_⟩
  · obtain ⟨h0, hl, -⟩ := ob_some hb
    rw [ob_nw, if_neg (by omega)]; exact hb
  · rw [rd_nw, if_neg (by omega)]
theorem pcell_nw_ne {g : pG} {c x k : Nat} (h : k < σ.1.length) : pcell g (nw σ c x) k = pcell g σ k := by
  have e : ∀ j : Int, (nw σ c x).2 k j = σ.2 k j := fun j => if_neg (by omega)
  have e2 : (nw σ c x).1.getD k (0, 0) = σ.1.getD k (0, 0) := by
    unfold nw
    rw [List.getD_eq_getElem?_getD, List.getD_eq_getElem?_getD, List.getElem?_append_left h]
  unfold pcell pfs
  rw [e2]
  simp only [e]
theorem pH.made {g : pG} {H H1 : Heap} {c x : Nat} (hH : pH g σ H) (he : va_at (gD g) vwCl (gB g + σ.1.length, pcell g (nw σ c x) σ.1.length) H1) (z : H1.size = H.size + 1) (oq : ∀ q : Nat, q < H.size → H1[q]? = H[q]?) : pH g (nw σ c x) H1 := by
  refine ⟨pP_of fun k hk => ?_, by rw [z, len_nw, hH.2.1]; omega, ?_⟩
  · rw [len_nw] at hk
    by_cases e : k = σ.1.length
    · subst e; exact he
    · rw [pcell_nw_ne (by omega)]
      exact (hH.cell (by omega)).kept (oq (gB g + k) (by rw [hH.2.1]; omega))
  · obtain ⟨-, -, s1, s2⟩ := hH
    exact ⟨by show rd (nw σ c x) (-2) 0 = _; rw [rd_nw, if_neg (by omega)]; exact s1, fun j hj => by show rd (nw σ c x) (-1) j = _; rw [rd_nw, if_neg (by omega)]; exact s2 j hj⟩
/-- a step that makes a cell -/
theorem pStep.make {pc1 : Nat} {st1 : List pV} {c x : Nat}
    (h : ∀ (p : Program) (l : Launch) (e : Env) (R : Room) (s : State) (m : MethodId) (args : Array Value) (below : List Frame) (meth : Method) (cd : Code) (H : Heap) (locs : List Loc) (cells slots : Nat) (Q : State → Prop) (g : pG) (lsA : Array Slot), pCtx M p s m args meth cd → pU g s s.heap → va_S (pA g) s.heap H locs → pH g σ H → cells + 1 ≤ R.cells → slots + (if c < 50 then (pFt c).length else x) ≤ R.slots →
      (∀ (H' : Heap), H'.size = H.size + 1 → (∀ q : Nat, q < H.size → H'[q]? = H[q]?) → va_at (gD g) vwCl (gB g + σ.1.length, pcell g (nw σ c x) σ.1.length) H' → W p l e R s m args below meth cd H' locs (cells + 1) (slots + (if c < 50 then (pFt c).length else x)) Q (F0 m pc1 lsA (st1.map (pval g)))) → W p l e R s m args below meth cd H locs cells slots Q (F0 m pc lsA (st.map (pval g)))) : pStep M d pc ls st σ pc1 ls st1 (nw σ c x) := by
  refine ⟨pLe_nw σ c x, ?_⟩
  intro p l e R s m args below meth cd H locs cells slots Q g lsA hC hU hS hH hl hd1 hd2 hc1 hc2 hE
  rw [len_nw] at hc1 hE
  rw [pSz_nw] at hc2 hE
  refine h p l e R s m args below meth cd H locs cells slots Q g lsA hC hU hS hH (by omega) (by omega) (fun H' z oq he => ?_)
  have := hE lsA H' locs ⟨Nat.le_trans hS.1 (by omega), fun q h1 h2 => (oq q (Nat.lt_of_lt_of_le h1 hS.1)).trans (hS.2.1 q h1 h2), hS.2.2⟩ (hH.made he z oq) hl
  rw [show cells + (σ.1.length + 1 - σ.1.length) = cells + 1 by omega, Nat.add_sub_cancel_left] at this
  exact this
theorem getD_nw (σ : pS) (c x : Nat) : (nw σ c x).1.getD σ.1.length (0, 0) = (c, x) := by simp [nw, List.getD_eq_getElem?_getD]
theorem nw_2 (σ : pS) (c x : Nat) (i : Int) : (nw σ c x).2 ((σ.1.length : Nat) : Int) i = pdf c i := by simp [nw]
theorem pcell_nw (g : pG) (σ : pS) (c x : Nat) : pcell g (nw σ c x) σ.1.length = if c < 50 then .inr (c, pfs g (nw σ c x) σ.1.length x c) else if c = 53 then .inl (gC g 3, x, .inr (.inl (fun j => Int64.ofInt ((nw σ c x).2 ((σ.1.length : Nat) : Int) j)))) else if c = 54 then .inl (gC g 4, x, .inr (.inr (.inr (.inr (fun j => pad g ((nw σ c x).2 ((σ.1.length : Nat) : Int) j)))))) else .inl (gC g (c - 50), x, .inl (fun j => Int32.ofInt ((nw σ c x).2 ((σ.1.length : Nat) : Int) j))) := by
  unfold pcell; rw [getD_nw]
def pdv (k : Nat) : Value := if k = 1 then .long 0 else if k = 2 then .null else if k = 3 then .null else .int 0
theorem s_new {ci idx N : Nat} {C : String} {T : u_T} {ty : Nat → FieldType} (hc : pCls ci C T N ty) (hdv : ∀ j, j < N → defaultValue (ty j) = pdv ((pFt ci).getD j (0, 0, 0)).1) (w1 : Cond.classLink M.1.cls idx C ∈ wsA) (w2 : Cond.instantiable C N ∈ wsA) (w3 : Cond.initialized C ∈ wsA) (hd : decode M.2.1 pc = .ok (.new idx, 3)) : pStep M d pc ls st σ (pc + 3) ls ((2, (σ.1.length : Int)) :: st) (nw σ ci 0) := by
  have h50 := hc.2.2.2.2.2.2
  refine pStep.make ?_
  intro p l e R s m args below meth cd H locs cells slots Q g lsA hC hU hS hH hc1 hc2 k
  rw [if_pos h50, hc.2.1] at hc2 k
  have hts := hC.2.2.2.2.2.1
  have hKn := hU.1.1 ci _ hc.1
  rw [List.map_cons, pval_2 (by omega)] at k
  refine W.newcK hC.1 hC.2.1 hC.2.2.2.2.1 (hts _ w1) (hts _ w2) (hts _ w3) rfl hd hc1 hc2 hKn.2.1 hH.2.1 fun H1 kC hkC e1 z1 o1 => ?_
  have e2 : gB g + ((σ.1.length : Nat) : Int).toNat = gB g + σ.1.length := by omega
  rw [e2] at k
  refine k H1 (by rw [z1, hH.2.1]) (fun q hq => o1 q (by rw [← hH.2.1]; exact hq)) ?_
  have e3 : pcell g (nw σ ci 0) σ.1.length = .inr (ci, pfs g (nw σ ci 0) σ.1.length 0 ci) := by rw [pcell_nw, if_pos h50]
  rw [e3]
  refine ⟨_, hc.1, (u_born ty hts hc.2.2.1 hKn hkC e1 hc.2.2.2.1).to (fun j hj => ?_)⟩
  obtain ⟨f, hf⟩ : ∃ f, (pFt ci)[j]? = some f := ⟨_, List.getElem?_eq_getElem (by rw [hc.2.1]; exact hj)⟩
  have h1 := hdv j hj
  rw [h1]
  show _ = (pfs g (nw σ ci 0) σ.1.length 0 ci).getD j .null
  have e5 : (pfs g (nw σ ci 0) σ.1.length 0 ci).getD j .null = pfv g (pdf ci j) σ.1.length 0 f := by rw [List.getD_eq_getElem?_getD, pfs_get hf, nw_2]; rfl
  rw [e5, List.getD_eq_getElem?_getD, hf]
  simp only [Option.getD_some]
  obtain ⟨fk, fo, fn⟩ := f
  unfold pdf
  rw [if_neg (by omega), List.getD_eq_getElem?_getD, show ((j : Nat) : Int).toNat = j by omega, hf]
  simp only [Option.getD_some]
  unfold pfv pdv
  by_cases a1 : fk = 1
  · subst a1; simp
  · by_cases a2 : fk = 2
    · subst a2; simp [h50, pad, va_rf]
    · by_cases a3 : fk = 3
      · subst a3; simp
      · simp [a1, a2, a3]
theorem s_newaO {idx : Nat} {n : Int} (w1 : Cond.classLink M.1.cls idx RX5 ∈ wsA) (hn : 0 ≤ n ∧ n ≤ 1000) (hd : decode M.2.1 pc = .ok (.anewarray idx, 3)) : pStep M d pc ls ((0, n) :: st) σ (pc + 3) ls ((2, (σ.1.length : Int)) :: st) (nw σ 54 n.toNat) := by
  refine pStep.make ?_
  intro p l e R s m args below meth cd H locs cells slots Q g lsA hC hU hS hH hc1 hc2 k
  rw [if_neg (by decide)] at hc2 k
  have hts := hC.2.2.2.2.2.1
  have hb : (Int32.ofInt n).toNatClampNeg = n.toNat := Int32.toNatClampNeg_ofInt_of_le (by omega) (by omega)
  rw [List.map_cons, pval_2 (by omega), show gB g + ((σ.1.length : Nat) : Int).toNat = gB g + σ.1.length by omega] at k
  have hAO := hU.2.2.2.2.2.2.2.2.2.2.1
  refine W.anew hC.1 hC.2.1 hC.2.2.2.2.1 (hts _ w1) (va_AO.use hAO) rfl hd rfl (by rw [i32_0, i32_lt (by omega) inR0]; omega) (by rw [hb]; omega) hc1 (by rw [hb]; exact hc2) fun cA kA comp f1 f2 f3 f4 => ?_
  rw [hb]
  obtain ⟨kA', comp', k1, k2, k3, k4⟩ := (hU.1.2 4 _ (show (pty g)[4]? = some (gC g 4, .object RX5) from rfl)).2
  cases f1.symm.trans k4
  generalize hH1 : H.push ({ cls := gC g 4, slots := Array.replicate n.toNat .null, vm := .none } : Cell) = H1
  have z1 : H1.size = H.size + 1 := by rw [← hH1, Array.size_push]
  have e1 : H1[gB g + σ.1.length]? = some (arrV (gC g 4) n.toNat (fun _ => .null)) := by rw [← hH.2.1, ← hH1, Array.getElem?_push_size, ← arrV_new]
  have o1 : ∀ q : Nat, q < H.size → H1[q]? = H[q]? := fun q hq => by rw [← hH1, Array.getElem?_push, if_neg (Nat.ne_of_lt hq)]
  have := k H1 z1 o1 (by
    rw [pcell_nw]
    rw [if_neg (by decide), if_neg (by decide), if_pos rfl]
    show H1[_]? = some (vp_cell _ _)
    rw [e1, vp_cell_q]
    congr 2
    funext j
    rw [nw_2]
    rfl)
  rw [hH.2.1]
  exact this
theorem s_newaI {n : Int} (w1 : Cond.arrayClass .int ∈ wsA) (hn : 0 ≤ n ∧ n ≤ 100000) (hd : decode M.2.1 pc = .ok (.newarray .int, 2)) : pStep M d pc ls ((0, n) :: st) σ (pc + 2) ls ((2, (σ.1.length : Int)) :: st) (nw σ 50 n.toNat) := by
  refine pStep.make ?_
  intro p l e R s m args below meth cd H locs cells slots Q g lsA hC hU hS hH hc1 hc2 k
  rw [if_neg (by decide)] at hc2 k
  have hts := hC.2.2.2.2.2.1
  have hb : (Int32.ofInt n).toNatClampNeg = n.toNat := Int32.toNatClampNeg_ofInt_of_le (by omega) (by omega)
  rw [List.map_cons, pval_2 (by omega), show gB g + ((σ.1.length : Nat) : Int).toNat = gB g + σ.1.length by omega] at k
  refine va_newaK (atype := .int) hC.1 hC.2.1 (hts _ w1) rfl hd rfl (by rw [i32_0, i32_lt (by omega) inR0]; omega) hb (by show n.toNat * 4 ≤ _; omega) hc1 hc2 hH.2.1 fun H1 cA e1 z1 o1 hAr hNm => ?_
  have hg : s.vm.findClass _ = some (gC g 0) := (hU.1.2 0 _ rfl).2
  cases hNm.symm.trans hg
  refine k H1 (by rw [z1, hH.2.1]) (fun q hq => o1 q (by rw [← hH.2.1]; exact hq)) ?_
  rw [pcell_nw]
  rw [if_neg (by decide), if_neg (by decide), if_neg (by decide)]
  show H1[_]? = some (vp_cell _ _)
  rw [e1, vp_cell_i]
  congr 2
  funext j
  rw [nw_2]
  rfl
theorem s_newaB {n : Int} (w1 : Cond.arrayClass .byte ∈ wsA) (hn : 0 ≤ n ∧ n ≤ 100000) (hd : decode M.2.1 pc = .ok (.newarray .byte, 2)) : pStep M d pc ls ((0, n) :: st) σ (pc + 2) ls ((2, (σ.1.length : Int)) :: st) (nw σ 51 n.toNat) := by
  refine pStep.make ?_
  intro p l e R s m args below meth cd H locs cells slots Q g lsA hC hU hS hH hc1 hc2 k
  rw [if_neg (by decide)] at hc2 k
  have hts := hC.2.2.2.2.2.1
  have hb : (Int32.ofInt n).toNatClampNeg = n.toNat := Int32.toNatClampNeg_ofInt_of_le (by omega) (by omega)
  rw [List.map_cons, pval_2 (by omega), show gB g + ((σ.1.length : Nat) : Int).toNat = gB g + σ.1.length by omega] at k
  refine va_newaK (atype := .byte) hC.1 hC.2.1 (hts _ w1) rfl hd rfl (by rw [i32_0, i32_lt (by omega) inR0]; omega) hb (by show n.toNat * 1 ≤ _; omega) hc1 hc2 hH.2.1 fun H1 cA e1 z1 o1 hAr hNm => ?_
  have hg : s.vm.findClass _ = some (gC g 1) := (hU.1.2 1 _ rfl).2
  cases hNm.symm.trans hg
  refine k H1 (by rw [z1, hH.2.1]) (fun q hq => o1 q (by rw [← hH.2.1]; exact hq)) ?_
  rw [pcell_nw]
  rw [if_neg (by decide), if_neg (by decide), if_neg (by decide)]
  show H1[_]? = some (vp_cell _ _)
  rw [e1, vp_cell_i]
  congr 2
  funext j
  rw [nw_2]
  rfl
theorem s_newaZ {n : Int} (w1 : Cond.arrayClass .boolean ∈ wsA) (hn : 0 ≤ n ∧ n ≤ 100000) (hd : decode M.2.1 pc = .ok (.newarray .boolean, 2)) : pStep M d pc ls ((0, n) :: st) σ (pc + 2) ls ((2, (σ.1.length : Int)) :: st) (nw σ 52 n.toNat) := by
  refine pStep.make ?_
  intro p l e R s m args below meth cd H locs cells slots Q g lsA hC hU hS hH hc1 hc2 k
  rw [if_neg (by decide)] at hc2 k
  have hts := hC.2.2.2.2.2.1
  have hb : (Int32.ofInt n).toNatClampNeg = n.toNat := Int32.toNatClampNeg_ofInt_of_le (by omega) (by omega)
  rw [List.map_cons, pval_2 (by omega), show gB g + ((σ.1.length : Nat) : Int).toNat = gB g + σ.1.length by omega] at k
  refine va_newaK (atype := .boolean) hC.1 hC.2.1 (hts _ w1) rfl hd rfl (by rw [i32_0, i32_lt (by omega) inR0]; omega) hb (by show n.toNat * 1 ≤ _; omega) hc1 hc2 hH.2.1 fun H1 cA e1 z1 o1 hAr hNm => ?_
  have hg : s.vm.findClass _ = some (gC g 2) := (hU.1.2 2 _ rfl).2
  cases hNm.symm.trans hg
  refine k H1 (by rw [z1, hH.2.1]) (fun q hq => o1 q (by rw [← hH.2.1]; exact hq)) ?_
  rw [pcell_nw]
  rw [if_neg (by decide), if_neg (by decide), if_neg (by decide)]
  show H1[_]? = some (vp_cell _ _)
  rw [e1, vp_cell_i]
  congr 2
  funext j
  rw [nw_2]
  rfl
theorem s_newaJ {n : Int} (w1 : Cond.arrayClass .long ∈ wsA) (hn : 0 ≤ n ∧ n ≤ 100000) (hd : decode M.2.1 pc = .ok (.newarray .long, 2)) : pStep M d pc ls ((0, n) :: st) σ (pc + 2) ls ((2, (σ.1.length : Int)) :: st) (nw σ 53 n.toNat) := by
  refine pStep.make ?_
  intro p l e R s m args below meth cd H locs cells slots Q g lsA hC hU hS hH hc1 hc2 k
  rw [if_neg (by decide)] at hc2 k
  have hts := hC.2.2.2.2.2.1
  have hb : (Int32.ofInt n).toNatClampNeg = n.toNat := Int32.toNatClampNeg_ofInt_of_le (by omega) (by omega)
  rw [List.map_cons, pval_2 (by omega), show gB g + ((σ.1.length : Nat) : Int).toNat = gB g + σ.1.length by omega] at k
  refine va_newaK (atype := .long) hC.1 hC.2.1 (hts _ w1) rfl hd rfl (by rw [i32_0, i32_lt (by omega) inR0]; omega) hb (by show n.toNat * 8 ≤ _; omega) hc1 hc2 hH.2.1 fun H1 cA e1 z1 o1 hAr hNm => ?_
  have hg : s.vm.findClass _ = some (gC g 3) := (hU.1.2 3 _ rfl).2
  cases hNm.symm.trans hg
  refine k H1 (by rw [z1, hH.2.1]) (fun q hq => o1 q (by rw [← hH.2.1]; exact hq)) ?_
  rw [pcell_nw]
  rw [if_neg (by decide), if_pos rfl]
  show H1[_]? = some (vp_cell _ _)
  rw [e1, vp_cell_l]
  congr 2
  funext j
  rw [nw_2]
  rfl
end PARR
