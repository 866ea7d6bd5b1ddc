/-! the class's law() -/
def lawL (m : Nat) : List (Nat × Nat) := (2, 5) :: [(50, 2), (50, 2), (50, 41), (50, m), (50, m)]
def lawIn (σ : pS) (m : Nat) (r : Option pV) (τ : pS) : Prop := r = none ∧ τ.1 = σ.1 ++ lawL m ∧ Inst2 τ ((σ.1.length : Nat) : Int) m ∧ (∀ b i : Int, b < ((σ.1.length : Nat) : Int) → rd τ b i = rd σ b i) ∧ (∀ i : Int, rd τ ((σ.1.length : Nat) : Int) i = pdf 2 i) ∧ rd τ (((σ.1.length : Nat) : Int) + 1) 0 = -1 ∧ rd τ (((σ.1.length : Nat) : Int) + 1) 1 = -1
theorem lawI_C {d m : Nat} {σ : pS} {x : Int} (hd : 1 ≤ d) (hx : 0 ≤ x ∧ x ≤ 100000) (hm : m = (max 1 x).toNat) : pC mX2_init d [(2, ((σ.1.length : Nat) : Int)), (0, x)] (nw σ 2 0) (lawIn σ m) := by
  subst hm
  refine g_X2_init_0 hd x hx (Mk_start σ 2) (fun k i h1 _ => mbase_n σ 2 k i h1) (fun τ h => ?_)
  refine ⟨rfl, h.1, ⟨h.obB, h.obr (j := 0) rfl rfl, h.obr (j := 1) rfl rfl, h.obr (j := 2) rfl rfl, h.obr (j := 3) rfl rfl, h.obr (j := 4) rfl rfl⟩, fun b i hb => ?_, fun i => ?_, ?_, ?_⟩
  · rw [h.2 b i (by simp; omega)]
    unfold wrm
    rw [if_neg (by omega), if_neg (by omega), if_neg (by omega), if_neg (by omega), mbase_o σ 2 b i hb]
  · rw [h.2 _ _ (by simp; omega)]
    unfold wrm
    rw [if_neg (by omega), if_neg (by omega), if_neg (by omega), if_neg (by omega)]
    unfold mbase; rw [if_pos rfl]
  · rw [h.2 _ _ (by simp <;> omega)]
    unfold wrm
    rw [if_neg (by omega), if_neg (by omega), if_neg (by omega), if_pos ⟨rfl, rfl⟩]
  · rw [h.2 _ _ (by simp <;> omega)]
    unfold wrm
    rw [if_neg (by omega), if_neg (by omega), if_pos ⟨rfl, rfl⟩]
def ls0 : lst := ((0, 0, [], []), (fun _ => none), 0)
theorem ls0_inv (c : Nat) : lsI c ls0 := ⟨⟨Nat.le_refl _, Nat.zero_le _⟩, Nat.le_refl _, Nat.zero_le _, Nat.le_refl _, fun y v e => (by cases e)⟩
def lawG (t : lst) (σ : pS) (A : Int) (τ : pS) : Prop := rd τ 0 1 = 0 ∧ rd τ 0 3 = 0 ∧ rd τ 0 4 = -1 ∧ rd τ 0 6 = rd σ 0 6 + 1 ∧ rd τ 0 8 = A ∧ rd τ 50 2 = 0 ∧ (∀ (i : Nat) (p : Int × Int), (qB t.1)[i]? = some p → rd τ (A + 4) (i : Int) = lCode p.1 ∧ (p.1 = 0 → rd τ (A + 5) (i : Int) = p.2)) ∧ (∀ y : Bool, (t.2.1 y = none → rd τ (A + 1) (b2i y) = -1) ∧ ∀ v, t.2.1 y = some v → rd τ (A + 1) (b2i y) = (v.2.1 : Int) ∧ rd τ (A + 2) (b2i y) = (v.2.2 : Int)) ∧ ∀ a i : Int, a < A → ¬ (2 ≤ a ∧ a ≤ 5) → ¬ (a = 0 ∧ (i = 1 ∨ i = 3 ∨ i = 4 ∨ i = 6 ∨ i = 8)) → ¬ (a = 50 ∧ i = 2) → rd τ a i = rd σ a i
def lawQ (σ : pS) (r : Option pV) (τ : pS) : Prop := (500 < rd σ 0 1 ∧ r = some (0, -2) ∧ τ = σ) ∨ (rd σ 0 1 ≤ 500 ∧ ∃ (K P V E : Nat → Int) (c k : Nat) (t : lst), TK σ (rd σ 0 1) K P V E c ∧ c ≤ 500 ∧ lruns K P V 600 k ls0 t ∧ lsI c t ∧ pLe σ τ ∧ τ.1 = σ.1 ++ lawL (c + 1) ∧ Inst2 τ ((σ.1.length : Nat) : Int) (c + 1) ∧ ((K (qJ t.1) ≠ 21 ∧ ∃ f p : Int, lnF K P V 600 t = .inl (f, p) ∧ r = some (0, -1) ∧ mntF σ f p τ) ∨ (K (qJ t.1) = 21 ∧ r = some (0, (t.2.2 : Int)) ∧ lawG t σ ((σ.1.length : Nat) : Int) τ)))
theorem lawX_C {n d : Nat} {σ : pS} (hd : 63 ≤ d) (h : RB n σ) : pC mX10_law d [(2, 0)] σ (lawQ σ) := by
  obtain ⟨S, Z, TP, F, C, L, W, P, K, R, D, E⟩ := h
  have hlen := S.len
  have r01 : inR (rd σ 0 1) := by rw [TP.1]; have := TP.2.1; have := TP.2.2.1; unfold inR; omega
  obtain ⟨A, hA⟩ : ∃ A : Int, A = ((σ.1.length : Nat) : Int) := ⟨_, rfl⟩
  obtain ⟨N, hN⟩ : ∃ N : Int, N = rd σ 0 1 := ⟨_, rfl⟩
  have X : txt σ N := ⟨by rw [hN, TP.1]; exact TP.2.1, by rw [hN, TP.1]; exact TP.2.2.1, fun i i0 i1 => (TP.2.2.2 i i0 i1).2⟩
  by_cases big : 500 < rd σ 0 1
  · exact g_X10_law_0 (Q1 := fun _ _ => True) (Q2 := fun _ _ => True) (Q3 := fun _ _ => True) (Q4 := fun _ _ => True) hd S r01 (fun c => by omega) (fun c => by omega) (fun c => by omega) (fun c => by omega) (fun c => by omega) (fun c => by omega) (fun c => by omega) (fun c => by omega) (fun _ => Or.inl ⟨big, rfl, rfl⟩)
  obtain ⟨r1, τ1, q1, le1, -, P1⟩ := (cutTape_C (d := 10) (Nat.le_refl 10) S (n := N) hN.symm X).fix
  obtain ⟨q1n, φ, cut, e1⟩ := q1
  obtain ⟨c, Ee, T, H⟩ := cut_TK cut (fun x => rfl) X
  have cf := cut.2.1
  obtain ⟨K, hK⟩ : ∃ K : Nat → Int, K = fun (i : Nat) => rd φ 3 (i : Int) := ⟨_, rfl⟩
  obtain ⟨Pp, hP⟩ : ∃ K : Nat → Int, K = fun (i : Nat) => rd φ 4 (i : Int) := ⟨_, rfl⟩
  obtain ⟨V, hV⟩ : ∃ K : Nat → Int, K = fun (i : Nat) => rd φ 5 (i : Int) := ⟨_, rfl⟩
  rw [← hK, ← hP, ← hV] at T H
  have hc : c ≤ 500 := by have := T.2.1; omega
  have c1 : τ1.1 = σ.1 := by rw [e1]; exact cf.1
  have S1 : Stat τ1 := S.eq c1
  have A1 : ((τ1.1.length : Nat) : Int) = A := by rw [c1, hA]
  have f1 : ∀ a i : Int, ¬ (2 ≤ a ∧ a ≤ 5) → ¬ (a = 0 ∧ i = 1) → rd τ1 a i = rd σ a i := fun a i p1 p2 => by rw [e1, rd_wr_n p2]; exact cf.2 a i (by omega) (by omega) (by omega) (by omega)
  have H1 : cSt K Pp V c none 0 τ1 := by rw [e1]; exact H.wr (by omega)
  have e23 : rd τ1 2 3 = (c : Int) + 1 := H1.1.1
  obtain ⟨r2, τ2, q2, le2, -, P2⟩ := (lawI_C (d := 1) (σ := τ1) (x := rd τ1 2 3) (m := c + 1) (Nat.le_refl 1) (by omega) (by rw [e23]; omega)).fix
  obtain ⟨-, c2, I2, o2, z2, y2, y3⟩ := q2
  rw [A1] at I2 o2 z2 y2 y3
  have L2 : pLe τ1 τ2 := (pLe_nw τ1 2 0).tr le2
  have S2 : Stat τ2 := S1.le L2
  have hl : 141 ≤ A := by omega
  have H2 : lcS K Pp V c A ls0 τ2 := by
    refine ⟨⟨false, H1.of (fun i => o2 _ _ (by omega)) (fun a i a0 a1 => o2 _ _ (by omega)), ?_, ?_, ?_, fun i p e => (by cases e)⟩, fun y => ⟨fun _ => ?_, fun v e => (by cases e)⟩⟩
    · rw [z2]; rfl
    · rw [z2]; rfl
    · rw [z2]; rfl
    · cases y
      · exact y2
      · exact y3
  obtain ⟨r3, τ3, q3, le3, ok3, P3⟩ := (lawRead_C (d := 62) (n := 600) (s := ls0) (m := c + 1) (Nat.le_refl _) S2 I2 T.R hc (by omega) hl ⟨by omega, by omega⟩ (ls0_inv c) H2 (by rw [z2]; rfl) rfl).fix
  obtain ⟨k, t, run, It, F3, fin⟩ := q3
  have S3 : Stat τ3 := S2.eq F3.1
  have I3 : Inst2 τ3 A (c + 1) := I2.eq F3.1
  obtain ⟨τ4, e4⟩ : ∃ τ4, τ4 = wr (wr τ3 0 3 (rd τ3 2 5)) 0 4 (rd τ3 2 6) := ⟨_, rfl⟩
  have P4 : pC mX10_keepFault 0 [(2, 0)] τ3 (fun r τ => r = none ∧ τ = τ4) := g_X10_keepFault_0 (Nat.le_refl 0) S3 ⟨rfl, e4.symm⟩
  have f3 : ∀ a i : Int, a < A → ¬ (2 ≤ a ∧ a ≤ 5) → rd τ3 a i = rd τ1 a i := fun a i p1 p2 => by
    rw [F3.2 a i (by omega) (by omega) (by omega), o2 a i p1]
  have f4 : ∀ a i : Int, a < A → ¬ (2 ≤ a ∧ a ≤ 5) → ¬ (a = 0 ∧ (i = 1 ∨ i = 3 ∨ i = 4)) → rd τ4 a i = rd σ a i := fun a i p1 p2 p3 => by
    rw [e4, rd_wr_n (by omega), rd_wr_n (by omega), f3 a i p1 p2, f1 a i p2 (by omega)]
  have n4 : rd τ4 0 1 = 0 := by rw [e4, rd_wr_n (by omega), rd_wr_n (by omega), f3 _ _ (by omega) (by omega), e1, rd_wr_same]
  have g4 : ∀ a i : Int, A ≤ a → rd τ4 a i = rd τ3 a i := fun a i p => by rw [e4, rd_wr_n (by omega), rd_wr_n (by omega)]
  have k43 : rd τ4 0 3 = rd τ3 2 5 := by rw [e4, rd_wr_n (by omega), rd_wr_same]
  have k44 : rd τ4 0 4 = rd τ3 2 6 := by rw [e4, rd_wr_same]
  have c3 : τ3.1 = σ.1 ++ lawL (c + 1) := by rw [F3.1, c2, c1]
  have c4 : τ4.1 = σ.1 ++ lawL (c + 1) := by rw [e4]; exact c3
  have ple : ∀ υ : pS, υ.1 = σ.1 ++ lawL (c + 1) → (∀ a i : Int, a < 0 → rd υ a i = rd σ a i) → pLe σ υ := fun υ p1 p2 => by
    have L3 := le1.tr L2
    have e1' : υ.1 = τ2.1 := p1.trans (by rw [c2, c1])
    refine ⟨by rw [e1']; exact L3.1, ?_, fun a q hq hf => by rw [ob_eq e1']; exact L3.2.2.1 a q hq hf, p2⟩
    have := L3.2.1
    unfold pSz at *
    rw [e1']; exact this
  refine g_X10_law_0 (Q1 := fun r τ => r = r1 ∧ τ = τ1) (Q2 := fun r τ => r = r2 ∧ τ = τ2) (Q3 := fun r τ => r = r3 ∧ τ = τ3) (Q4 := fun r τ => r = none ∧ τ = τ4) hd S r01 (fun _ => P1) (fun _ _ _ q1 => by rw [q1.2]; exact P2) (fun _ _ _ q1 _ _ q2 => by rw [q2.2, q1.2, A1]; exact P3) (fun _ _ _ q1 _ _ q2 => by rw [q2.2, q1.2, A1, e23, show (max 1 ((c : Int) + 1)).toNat = c + 1 by omega]; exact I2) (fun _ _ _ _ _ _ _ v3 _ _ _ q3 => by rw [q3.2]; exact P4) (fun _ _ _ _ _ _ _ v3 b3 _ _ _ _ _ _ => by unfold inR; omega) (fun _ _ _ q1 _ _ _ v3 b3 _ _ q3 _ _ q4 c1' => ?_) (fun _ _ _ _ _ _ _ v3 b3 _ _ q3 _ _ q4 c2' => ?_) (fun c => by omega)
  · rcases fin with ⟨k21, er, hc', e34⟩ | ⟨k21, x, ho, er, hc'⟩
    · rw [q4.2, q1.2, A1]
      refine Or.inr ⟨by omega, K, Pp, V, Ee, c, k, t, by rw [← hN]; exact T, hc, run, It, ?_, c4, ?_, Or.inr ⟨k21, ?_, ?_⟩⟩
      · refine ple _ c4 (fun a i p => ?_)
        rw [rd_wr_n (by omega), rd_wr_n (by omega), rd_wr_n (by omega)]
        exact f4 a i (by omega) (by omega) (by omega)
      · rw [← hA]; exact I3.eq (by rw [e4]; rfl)
      · rw [rd_wr_n (by omega), rd_wr_n (by omega), rd_wr_n (by omega), g4 _ _ (Int.le_refl _), e34]
      · obtain ⟨⟨rn0, hs1, hs2, hs3, hs4, hs5⟩, hf⟩ := hc'
        obtain ⟨b5, b6, -⟩ := hs1.2.1 rfl
        rw [← hA]
        refine ⟨?_, ?_, ?_, ?_, ?_, ?_, fun i p e => ?_, fun y => ?_, fun a i p1 p2 p3 p4 => ?_⟩
        · rw [rd_wr_n (by omega), rd_wr_n (by omega), rd_wr_n (by omega)]; exact n4
        · rw [rd_wr_n (by omega), rd_wr_n (by omega), rd_wr_n (by omega), k43]; exact b5
        · rw [rd_wr_n (by omega), rd_wr_n (by omega), rd_wr_n (by omega), k44]; exact b6
        · rw [rd_wr_n (by omega), rd_wr_same, f4 0 6 (by omega) (by omega) (by omega)]
        · rw [rd_wr_n (by omega), rd_wr_n (by omega), rd_wr_same]
        · rw [rd_wr_same]
        · rw [rd_wr_n (by omega), rd_wr_n (by omega), rd_wr_n (by omega), rd_wr_n (by omega), rd_wr_n (by omega), rd_wr_n (by omega), g4 _ _ (by omega), g4 _ _ (by omega)]; exact hs5 i p e
        · rw [rd_wr_n (by omega), rd_wr_n (by omega), rd_wr_n (by omega), rd_wr_n (by omega), rd_wr_n (by omega), rd_wr_n (by omega), g4 _ _ (by omega), g4 _ _ (by omega)]; exact hf y
        · rw [rd_wr_n (by omega), rd_wr_n (by omega), rd_wr_n (by omega)]
          exact f4 a i p1 p2 (by omega)
    · have e := q3.1.trans er
      have := so_inj e
      omega
  · rcases fin with ⟨k21, er, hc', e34⟩ | ⟨k21, x, ho, er, hc'⟩
    · have e := q3.1.trans er
      have := so_inj e
      omega
    · rw [q4.2]
      obtain ⟨f, p⟩ := x
      obtain ⟨b5, -, -, b6⟩ := hc'.2.2.1 f p rfl
      refine Or.inr ⟨by omega, K, Pp, V, Ee, c, k, t, by rw [← hN]; exact T, hc, run, It, ple _ c4 (fun a i p => f4 a i (by omega) (by omega) (by omega)), c4, by rw [← hA]; exact I3.eq (by rw [e4]; rfl), Or.inl ⟨k21, f, p, ho, rfl, n4, by rw [k43]; exact b5, by rw [k44]; exact b6, fun a i p1 p2 p3 => f4 a i (by omega) p2 p3⟩⟩
