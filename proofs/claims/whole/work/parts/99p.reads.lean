/-! the reference's tokens read on -/
def TK (σ : pS) (n : Int) (K P V E : Nat → Int) (c : Nat) : Prop := txt σ n ∧ (c : Int) ≤ n ∧ (∀ i : Nat, i < c → blks σ (E i) (P i) ∧ 0 ≤ P i ∧ P i < n ∧ ¬ blk (rd σ 1 (P i)) ∧ tokT σ n (P i) (K i) (V i) (E (i + 1))) ∧ E 0 = 0 ∧ blks σ (E c) n ∧ K c = 21 ∧ P c = n
def kwL : Nat → List Int
  | 0 => [116, 102, 105, 108]
  | 1 => [110, 117, 114]
  | 2 => [101, 109, 111, 104]
  | 3 => [115, 101, 107, 97, 116]
  | 4 => [115, 116, 97, 101, 115]
  | 5 => [109, 111, 114, 102]
  | 6 => [111, 116]
  | 7 => [101, 116, 97, 103]
  | 8 => [101, 100, 97, 114, 103]
  | 9 => [119, 111, 110, 115]
  | 10 => [116, 117, 104, 115]
  | 11 => [102, 105]
  | 12 => [114, 111]
  | 13 => [100, 110, 97]
  | 14 => [116, 111, 110]
  | 15 => [114, 117, 111, 104]
  | 16 => [100, 110, 105, 119]
  | 17 => [104, 115, 101, 114, 102]
  | _ => []
def kwc (q : Nat) : Int := kwW.getD q 0
theorem kw_a : ∀ q : Fin 18, w256 (kwL q.val) = kwc q.val ∧ (kwL q.val).all (fun x => decide (97 ≤ x ∧ x ≤ 122)) = true ∧ (List.range 85).any (fun j => decide (sCh 0 (j : Int) = 32 ∧ wkA j = w32 (kwL q.val))) = true := by decide +kernel
theorem kw_b : ∀ j : Fin 85, sCh 0 ((j.val : Nat) : Int) = 32 → 0 ≤ wkN j.val ∧ wkN j.val < 18 ∧ wkA j.val = w32 (kwL (wkN j.val).toNat) := by decide +kernel
theorem kw_c : ∀ q r : Fin 18, kwL q.val = kwL r.val → q = r := by decide +kernel
theorem kw_ls (q : Nat) (h : q < 18) : isLs (kwL q) := fun x hx => by
  have := (kw_a ⟨q, h⟩).2.1
  have := List.all_eq_true.mp this x hx
  simpa using this
theorem wk_iff {l : List Int} {k : Int} (hl : isLs l) (h : wkOut (w32 l) k) : (0 ≤ k ∧ k ≤ 18) ∧ (∀ q : Nat, q < 18 → (w256 l = kwc q ↔ k = (q : Int))) := by
  have fwd : ∀ q : Nat, q < 18 → k = (q : Int) → l = kwL q := fun q hq e => by
    rcases h with ⟨j, j1, j2, j3, j4⟩ | ⟨h1, _⟩
    · have b := kw_b ⟨j, j1⟩ j2
      simp only at b
      rw [show (wkN j).toNat = q by omega] at b
      exact w32_inj hl (kw_ls q hq) (by rw [← j3]; exact b.2.2)
    · omega
  refine ⟨?_, fun q hq => ⟨fun e => ?_, fun e => ?_⟩⟩
  · rcases h with ⟨j, j1, j2, j3, j4⟩ | ⟨h1, _⟩
    · have b := kw_b ⟨j, j1⟩ j2
      simp only at b
      omega
    · omega
  · have a := kw_a ⟨q, hq⟩
    have el : l = kwL q := w256_inj hl (kw_ls q hq) (by rw [e]; exact a.1.symm)
    obtain ⟨j, j0, j1⟩ := List.any_eq_true.mp a.2.2
    have j1 := of_decide_eq_true j1
    have j0 := List.mem_range.mp j0
    rcases h with ⟨i, i1, i2, i3, i4⟩ | ⟨h1, h2⟩
    · have b := kw_b ⟨i, i1⟩ i2
      simp only at b
      have e2 : kwL (wkN i).toNat = kwL q := by
        rw [← el]
        exact w32_inj (kw_ls _ (by omega)) hl (by rw [← b.2.2]; exact i3)
      have := kw_c ⟨(wkN i).toNat, by omega⟩ ⟨q, hq⟩ e2
      simp only [Fin.mk.injEq] at this
      omega
    · exact absurd (by rw [j1.2, el]) (h2 j j0 j1.1)
  · rw [fwd q hq e]; exact (kw_a ⟨q, hq⟩).1
theorem TK.R {σ : pS} {n : Int} {K P V E : Nat → Int} {c : Nat} (T : TK σ n K P V E c) : tkR K V c := by
  refine ⟨by have := T.1.2.1; have := T.2.1; omega, T.2.2.2.2.2.1, fun i hi => ?_⟩
  obtain ⟨b1, b2, b3, b4, b5⟩ := T.2.2.1 i hi
  rcases b5 with ⟨a1, a2, a3, a4, a5⟩ | ⟨a1, a2, l, run, a3, a4, a5⟩ | ⟨a1, a2, l, run, a3, a4, a5⟩ | ⟨a1, a2, a3, a4, a5⟩
  · unfold vIsP at a2
    have a2 := of_decide_eq_true a2
    have d := a2.2.2.1
    unfold vDig at d
    have d := of_decide_eq_true d
    exact ⟨by omega, fun _ => by omega, fun z => by omega, fun z => by omega⟩
  · rcases a5 with ⟨z1, z2⟩ | ⟨z1, z2⟩
    · exact ⟨by omega, fun z => by omega, fun z => by omega, fun z => by omega⟩
    · have ls := tRev_ls (T := rd σ 1) (p := P i) (j := l) (fun j hj => (run.1 j hj).2)
      rw [a4] at z2
      have w := wk_iff ls z2
      have l0 := run_0 run b3 a1
      have len := tRev_len (T := rd σ 1) (p := P i) l
      have up := w32_R ls
      refine ⟨by omega, fun z => by omega, fun z => by omega, fun _ => ?_⟩
      rw [a4]
      have b : (32 : Int) ^ (tRev (rd σ 1) (P i) l).length ≤ 1099511627776 := by
        rw [len]
        have : l = 0 ∨ l = 1 ∨ l = 2 ∨ l = 3 ∨ l = 4 ∨ l = 5 ∨ l = 6 ∨ l = 7 ∨ l = 8 := by omega
        rcases this with z | z | z | z | z | z | z | z | z <;> rw [z] <;> decide
      refine ⟨?_, by omega⟩
      cases ht : tRev (rd σ 1) (P i) l with
      | nil => rw [ht] at len; simp at len; omega
      | cons x t =>
        rw [ht] at ls
        have := ls x List.mem_cons_self
        have := (w32_R (l := t) (fun y hy => ls y (List.mem_cons_of_mem _ hy))).1
        show 0 < w32 t * 32 + x - 97 + 1
        omega
  · have t := tNum_R (T := rd σ 1) (p := P i) (j := l) (fun j hj => (run.1 j hj).2)
    by_cases z : 4 < l ∨ (P i + l < n ∧ vLet (rd σ 1 (P i + l)) = true)
    · rw [if_pos z] at a5
      exact ⟨by omega, fun z => by omega, fun z => by omega, fun z => by omega⟩
    · rw [if_neg z] at a5
      exact ⟨by omega, fun z => by omega, fun _ => by omega, fun z => by omega⟩
  · rcases a5 with ⟨z1, z2⟩ | ⟨z1, z2⟩
    · unfold vSig at z1
      have z1 := of_decide_eq_true z1
      exact ⟨by omega, fun z => by omega, fun z => by omega, fun z => by omega⟩
    · exact ⟨by omega, fun z => by omega, fun z => by omega, fun z => by omega⟩
/-- the reference's current token is the j-th -/
def mC (n : Int) (K P V E : Nat → Int) (c j : Nat) (φ : pS) : Prop := j ≤ c ∧ rd φ 68 7 = P j ∧ ((j = c ∧ rd φ 68 6 = 0 ∧ rd φ 68 4 = n) ∨ (j < c ∧ mTok φ (P j) (K j) (V j) (E (j + 1))))
def mSt (σ : pS) (n : Int) (K P V E : Nat → Int) (c : Nat) (o : pO) (j : Nat) (φ : pS) : Prop := txM σ n φ ∧ (o = none → rd φ 68 2 = 0 ∧ rd φ 68 3 = -1 ∧ mC n K P V E c j φ) ∧ (∀ f p : Int, o = some (f, p) → rd φ 68 2 = f ∧ 0 < f ∧ f < 100 ∧ rd φ 68 3 = p)
def mFr (φ τ : pS) : Prop := τ.1 = φ.1 ∧ ∀ a i : Int, ¬ (a = 68 ∧ 2 ≤ i ∧ i ≤ 9 ∧ i ≠ 5) → rd τ a i = rd φ a i
theorem mFr.rf (φ : pS) : mFr φ φ := ⟨rfl, fun _ _ _ => rfl⟩
theorem mFr.tr {σ τ υ : pS} (h : mFr σ τ) (g : mFr τ υ) : mFr σ υ := ⟨g.1.trans h.1, fun a i q => (g.2 a i q).trans (h.2 a i q)⟩
theorem nxFr.m {φ τ : pS} (h : nxFr φ τ) : mFr φ τ := ⟨h.1, fun a i q => h.2 a i (by omega)⟩
theorem mTok.of {φ τ : pS} {p k v e : Int} (h : mTok φ p k v e) (s : ∀ i : Int, 4 ≤ i → i ≤ 9 → rd τ 68 i = rd φ 68 i) : mTok τ p k v e := by
  unfold mTok at *
  rw [s 4 (by decide) (by decide), s 6 (by decide) (by decide), s 8 (by decide) (by decide), s 9 (by decide) (by decide)]
  exact h
theorem mSt.of {σ : pS} {n : Int} {K P V E : Nat → Int} {c : Nat} {o : pO} {j : Nat} {φ τ : pS} (H : mSt σ n K P V E c o j φ) (s : ∀ i : Int, 2 ≤ i → i ≤ 9 → rd τ 68 i = rd φ 68 i) (t : ∀ i : Int, rd τ 69 i = rd φ 69 i) : mSt σ n K P V E c o j τ := by
  refine ⟨⟨(s 5 (by decide) (by decide)).trans H.1.1, fun i i0 i1 => (t i).trans (H.1.2 i i0 i1)⟩, fun e => ?_, fun f p e => ?_⟩
  · obtain ⟨h1, h2, h3, h4, h5⟩ := H.2.1 e
    refine ⟨(s 2 (by decide) (by decide)).trans h1, (s 3 (by decide) (by decide)).trans h2, h3, (s 7 (by decide) (by decide)).trans h4, ?_⟩
    rcases h5 with ⟨a1, a2, a3⟩ | ⟨a1, a2⟩
    · exact Or.inl ⟨a1, (s 6 (by decide) (by decide)).trans a2, (s 4 (by decide) (by decide)).trans a3⟩
    · exact Or.inr ⟨a1, a2.of (fun i i0 i1 => s i (by omega) i1)⟩
  · rw [s 2 (by decide) (by decide), s 3 (by decide) (by decide)]; exact H.2.2 f p e
theorem mSt.wr {σ : pS} {n : Int} {K P V E : Nat → Int} {c : Nat} {o : pO} {j : Nat} {φ : pS} {a i v : Int} (H : mSt σ n K P V E c o j φ) (h : (a ≠ 68 ∧ a ≠ 69) ∨ (a = 68 ∧ (i < 2 ∨ 9 < i))) : mSt σ n K P V E c o j (wr φ a i v) :=
  H.of (fun x _ _ => rd_wr_n (by omega)) (fun x => rd_wr_n (by omega))
theorem mSt.to {σ : pS} {n : Int} {K P V E : Nat → Int} {c : Nat} {o q : pO} {j k : Nat} {φ : pS} (H : mSt σ n K P V E c o j φ) (e : o = q) (hk : o = none → j = k) : mSt σ n K P V E c q k φ := by
  subst e
  exact ⟨H.1, fun e => (by rw [← hk e]; exact H.2.1 e), H.2.2⟩
theorem vSig_R {k : Int} (h : vSig k = true) : 40 ≤ k ∧ k ≤ 62 ∧ k ≠ 42 ∧ k ≠ 44 := by
  unfold vSig at h
  have h := of_decide_eq_true h
  omega
theorem mC.sort {n : Int} {K P V E : Nat → Int} {c j : Nat} {φ : pS} (R : tkR K V c) (H : mC n K P V E c j φ) : (K j = 22 ↔ rd φ 68 6 = 4) ∧ (K j = 19 ↔ rd φ 68 6 = 2) ∧ (K j = 20 ↔ rd φ 68 6 = 3) ∧ (K j ≤ 18 ↔ rd φ 68 6 = 1) ∧ (K j = 21 ↔ rd φ 68 6 = 0) ∧ (∀ k : Int, 40 ≤ k → (K j = k ↔ rd φ 68 6 = k)) ∧ (0 ≤ rd φ 68 6 ∧ rd φ 68 6 ≤ 62) := by
  obtain ⟨h1, h2, h3⟩ := H
  rcases h3 with ⟨a1, a2, a3⟩ | ⟨a1, a2⟩
  · have : K j = 21 := by rw [a1]; exact R.2.1
    exact ⟨by omega, by omega, by omega, by omega, by omega, fun k hk => by omega, by omega⟩
  · rcases a2 with ⟨b1, b2, _⟩ | ⟨b1, b2, _⟩ | ⟨b1, b2, _⟩ | ⟨b1, b2, b3, b4, l, l1, l2, l3, l4, l5⟩ | ⟨b1, b2, _⟩
    · exact ⟨by omega, by omega, by omega, by omega, by omega, fun k hk => by omega, by omega⟩
    · exact ⟨by omega, by omega, by omega, by omega, by omega, fun k hk => by omega, by omega⟩
    · exact ⟨by omega, by omega, by omega, by omega, by omega, fun k hk => by omega, by omega⟩
    · rw [l4] at b4
      have w := (wk_iff l1 b4).1
      exact ⟨by omega, by omega, by omega, by omega, by omega, fun k hk => by omega, by omega⟩
    · have w := vSig_R b1
      exact ⟨by omega, by omega, by omega, by omega, by omega, fun k hk => by omega, by omega⟩
noncomputable def cd (x : Int) : Int := by
  classical
  exact if h : ∃ l : List Int, isLs l ∧ w32 l = x then w256 h.choose else 0
theorem cd_w32 {l : List Int} (h : isLs l) : cd (w32 l) = w256 l := by
  have e : ∃ m : List Int, isLs m ∧ w32 m = w32 l := ⟨l, h, rfl⟩
  unfold cd
  rw [dif_pos e, w32_inj e.choose_spec.1 h e.choose_spec.2]
/-- what the current word is -/
theorem mC.word {n : Int} {K P V E : Nat → Int} {c j : Nat} {φ : pS} (R : tkR K V c) (H : mC n K P V E c j φ) : (∀ q : Nat, q < 18 → vIsW φ (kwc q) = decide (K j = (q : Int))) ∧ vIsN φ = decide (K j = 18) ∧ (rd φ 68 6 = 1 → rd φ 68 9 = cd (V j) ∧ inL (rd φ 68 9) ∧ rd φ 68 8 = 0 ∧ ∃ l : List Int, isLs l ∧ V j = w32 l) := by
  have so := H.sort R
  obtain ⟨h1, h2, h3⟩ := H
  by_cases s1 : rd φ 68 6 = 1
  · rcases h3 with ⟨a1, a2, a3⟩ | ⟨a1, a2⟩
    · omega
    · rcases a2 with ⟨b1, b2, _⟩ | ⟨b1, b2, _⟩ | ⟨b1, b2, _⟩ | ⟨b1, b2, b3, b4, l, l1, l2, l3, l4, l5⟩ | ⟨b1, b2, _⟩
      · omega
      · omega
      · omega
      · rw [l4] at b4
        have w := wk_iff l1 b4
        refine ⟨fun q hq => ?_, ?_, fun _ => ⟨by rw [l5, l4, cd_w32 l1], ?_, b2, l, l1, l4⟩⟩
        · unfold vIsW
          refine decide_eq_decide.mpr ⟨fun z => (w.2 q hq).mp (by rw [← l5]; exact z.2), fun z => ⟨s1, by rw [l5]; exact (w.2 q hq).mpr z⟩⟩
        · unfold vIsN
          refine decide_eq_decide.mpr ⟨fun z => ?_, fun z => ⟨s1, fun y => ?_⟩⟩
          · by_cases y : K j = 18
            · exact y
            · have : K j = ((K j).toNat : Int) := by omega
              have e := (w.2 (K j).toNat (by omega)).mpr this
              refine absurd ?_ z.2
              rw [l5, e]
              unfold kwc
              rw [List.getD_eq_getElem?_getD, List.getElem?_eq_getElem (show (K j).toNat < kwW.length by show (K j).toNat < 18; omega)]
              exact List.getElem_mem _
          · obtain ⟨i, i1, i2⟩ := List.getElem_of_mem y
            have i1' : i < 18 := i1
            have e : kwc i = rd φ 68 9 := by
              unfold kwc
              rw [List.getD_eq_getElem?_getD, List.getElem?_eq_getElem i1]
              exact i2
            have := (w.2 i i1').mp (by rw [← l5, e])
            omega
        · rw [l5]
          have a := w256_R l1
          cases ht : l with
          | nil => decide
          | cons x t =>
            rw [ht] at l1 l2 a
            have tp := w256_top l1
            simp only [List.length_cons] at l2
            have : t.length = 0 ∨ t.length = 1 ∨ t.length = 2 ∨ t.length = 3 ∨ t.length = 4 ∨ t.length = 5 ∨ t.length = 6 ∨ t.length = 7 := by omega
            have b : (123 : Int) * 256 ^ t.length ≤ 9223372036854775807 := by
              rcases this with z | z | z | z | z | z | z | z <;> rw [z] <;> decide
            unfold inL; omega
      · have := vSig_R b1; omega
  · have kn : ¬ (K j ≤ 18) := fun z => s1 (so.2.2.2.1.mp z)
    refine ⟨fun q hq => ?_, ?_, fun z => absurd z s1⟩
    · unfold vIsW
      rw [decide_eq_false (fun z => s1 z.1), decide_eq_false (by omega)]
    · unfold vIsN
      rw [decide_eq_false (fun z => s1 z.1), decide_eq_false (by omega)]
