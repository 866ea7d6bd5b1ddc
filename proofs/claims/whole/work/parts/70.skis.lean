/-! skiers seen: the relation kept, where one can stand and ride -/
theorem i5_i6 {σ : pS} {a l : Int} (h : Inst5 σ a) (g : Inst6 σ l) : a + 5 < l ∨ l + 10 < a := by
  have e : ∀ i : Int, 0 ≤ i → i ≤ 10 → a ≠ l + i := fun i i0 i1 z => by
    have o := h.o0
    rw [z] at o
    have : i = 0 ∨ i = 1 ∨ i = 2 ∨ i = 3 ∨ i = 4 ∨ i = 5 ∨ i = 6 ∨ i = 7 ∨ i = 8 ∨ i = 9 ∨ i = 10 := by omega
    obtain ⟨g0, g1, g2, g3, g4, g5, g6, g7, g8, g9, g10⟩ := g
    rcases this with rfl | rfl | rfl | rfl | rfl | rfl | rfl | rfl | rfl | rfl | rfl
    · rw [Int.add_zero, g0] at o; simp at o
    · rw [g1] at o; simp at o
    · rw [g2] at o; simp at o
    · rw [g3] at o; simp at o
    · rw [g4] at o; simp at o
    · rw [g5] at o; simp at o
    · rw [g6] at o; simp at o
    · rw [g7] at o; simp at o
    · rw [g8] at o; simp at o
    · rw [g9] at o; simp at o
    · rw [g10] at o; simp at o
  have f : ∀ i : Int, 1 ≤ i → i ≤ 5 → l ≠ a + i := fun i i0 i1 z => by
    have o := g.1
    rw [z] at o
    have : i = 1 ∨ i = 2 ∨ i = 3 ∨ i = 4 ∨ i = 5 := by omega
    rcases this with rfl | rfl | rfl | rfl | rfl
    · rw [h.o1] at o; simp at o
    · rw [h.o2] at o; simp at o
    · rw [h.o3] at o; simp at o
    · rw [h.o4] at o; simp at o
    · rw [h.o5] at o; simp at o
  by_cases c : l ≤ a
  · by_cases c2 : a ≤ l + 10
    · exact absurd (show a = l + (a - l) by omega) (e (a - l) (by omega) (by omega))
    · omega
  · by_cases c2 : l ≤ a + 5
    · exact absurd (show l = a + (l - a) by omega) (f (l - a) (by omega) (by omega))
    · omega
theorem i5_i2 {σ : pS} {a l : Int} {n : Nat} (h : Inst5 σ a) (g : Inst2 σ l n) : a + 5 < l ∨ l + 5 < a := by
  have e : ∀ i : Int, 0 ≤ i → i ≤ 5 → a ≠ l + i := fun i i0 i1 z => by
    have o := h.o0
    rw [z] at o
    have : i = 0 ∨ i = 1 ∨ i = 2 ∨ i = 3 ∨ i = 4 ∨ i = 5 := by omega
    obtain ⟨g0, g1, g2, g3, g4, g5⟩ := g
    rcases this with rfl | rfl | rfl | rfl | rfl | rfl
    · rw [Int.add_zero, g0] at o; simp at o
    · rw [g1] at o; simp at o
    · rw [g2] at o; simp at o
    · rw [g3] at o; simp at o
    · rw [g4] at o; simp at o
    · rw [g5] at o; simp at o
  have f : ∀ i : Int, 1 ≤ i → i ≤ 5 → l ≠ a + i := fun i i0 i1 z => by
    have o := g.1
    rw [z] at o
    have : i = 1 ∨ i = 2 ∨ i = 3 ∨ i = 4 ∨ i = 5 := by omega
    rcases this with rfl | rfl | rfl | rfl | rfl
    · rw [h.o1] at o; simp at o
    · rw [h.o2] at o; simp at o
    · rw [h.o3] at o; simp at o
    · rw [h.o4] at o; simp at o
    · rw [h.o5] at o; simp at o
  by_cases c : l ≤ a
  · by_cases c2 : a ≤ l + 5
    · exact absurd (show a = l + (a - l) by omega) (e (a - l) (by omega) (by omega))
    · omega
  · by_cases c2 : l ≤ a + 5
    · exact absurd (show l = a + (l - a) by omega) (f (l - a) (by omega) (by omega))
    · omega
theorem i5_i5 {σ : pS} {a b : Int} (h : Inst5 σ a) (g : Inst5 σ b) (hn : a ≠ b) : a + 5 < b ∨ b + 5 < a := by
  have f : ∀ {a b : Int}, Inst5 σ a → Inst5 σ b → ∀ i : Int, 1 ≤ i → i ≤ 5 → b ≠ a + i := fun {a b} h g i i0 i1 z => by
    have o := g.1
    rw [z] at o
    have : i = 1 ∨ i = 2 ∨ i = 3 ∨ i = 4 ∨ i = 5 := by omega
    rcases this with rfl | rfl | rfl | rfl | rfl
    · rw [h.o1] at o; simp at o
    · rw [h.o2] at o; simp at o
    · rw [h.o3] at o; simp at o
    · rw [h.o4] at o; simp at o
    · rw [h.o5] at o; simp at o
  by_cases c : b ≤ a
  · by_cases c2 : a ≤ b + 5
    · exact absurd (show a = b + (a - b) by omega) (f g h (a - b) (by omega) (by omega))
    · omega
  · by_cases c2 : b ≤ a + 5
    · exact absurd (show b = a + (b - a) by omega) (f h g (b - a) (by omega) (by omega))
    · omega
theorem same.symm {σ τ : pS} {P : Int → Int → Prop} (h : same σ τ P) : same τ σ P := fun a i p => (h a i p).symm
theorem RB.pas {n : Nat} {σ : pS} (h : RB n σ) : RPas σ := h.2.2.2.2.2.2.2.1
theorem RB.ski {n : Nat} {σ : pS} (h : RB n σ) : RSki σ := h.2.2.2.2.2.2.2.2.1
/-- the relation, a skier reckoned anew -/
theorem RB.sk {n : Nat} {σ τ : pS} (h : RB n σ) {s : Int} (hs : 0 ≤ s ∧ s < rd σ 68 64) (q1 : τ.1 = σ.1) (q2 : ∀ b i : Int, ¬ (rd σ 43 s + 1 ≤ b ∧ b ≤ rd σ 43 s + 5) → ¬ (b = rd σ 43 s ∧ (i = 6 ∨ i = 7 ∨ i = 8)) → rd τ b i = rd σ b i) (hk : inR (rd τ (rd σ 43 s) 8)) (h7 : rd τ (rd σ 43 s) 7 = rd σ 0 6) (K8 : KSk σ (rd τ (rd σ 43 s) 8) s (rd σ 107 s) (rd σ 43 s) τ) : RB n τ := by
  obtain ⟨S, Z, T, F, C, L, W, P, K, R, D, E⟩ := h
  have l0 := L.1
  obtain ⟨k1, k2, k3, k4, k5⟩ := id K
  obtain ⟨y1, y2, y3⟩ := k4 s hs.1 hs.2
  have a6 := i5_i6 y2 L.2.1
  obtain ⟨hl, ⟨n2, I2, hn2, a1⟩, a2⟩ := id E.1
  have a2' := i5_i2 y2 I2
  have le : pLe σ τ := ⟨by rw [q1]; exact Nat.le_refl _, by unfold pSz; rw [q1]; exact Nat.le_refl _, fun a q h _ => by rw [ob_eq q1]; exact h, fun a i ha => q2 a i (by omega) (by omega)⟩
  have m : same σ τ MF := fun a i p => q2 a i (by unfold MF at p; omega) (by unfold MF at p; omega)
  have e6 : rd τ 0 6 = rd σ 0 6 := q2 _ _ (by omega) (by omega)
  have e7 : rd τ 0 7 = rd σ 0 7 := q2 _ _ (by omega) (by omega)
  have oth : ∀ j b i : Int, 0 ≤ j → j < rd σ 68 64 → j ≠ s → rd σ 43 j ≤ b → b ≤ rd σ 43 j + 5 → rd τ b i = rd σ b i := fun j b i j0 j1 hj b0 b1 => by
    obtain ⟨z1, z2, z3⟩ := k4 j j0 j1
    have ne : rd σ 43 j ≠ rd σ 43 s := by
      by_cases c : j < s
      · exact k5 j s j0 c hs.2
      · exact fun z => k5 s j hs.1 (by omega) j1 z.symm
    have := i5_i5 z2 y2 ne
    exact q2 b i (by omega) (by omega)
  refine ⟨S.le le, ?_, T.mv ?_, F.mv ?_, C.mv ?_, L.mv le ?_, W.mv ?_, P.mv ?_, K.mv le ?_ (fun j h0 h1 h2 => ?_), R.mv ?_, D.mv ?_, RLaw.mv E.1 le ?_, E.2.1.mv m e6 e7 (fun a i b0 b1 => q2 a i (by omega) (by omega)), ?_, RSwp.mv E.2.2.2 ?_⟩
  · unfold RSz pSz at *
    rw [q1]
    exact Z
  case refine_9 =>
    by_cases c : j = s
    · subst c
      exact q2 _ _ (by omega) (by omega)
    · exact oth j _ _ h0 h1 c (by omega) (by omega)
  case refine_13 =>
    intro j j0 j1
    have e64 : rd τ 68 64 = rd σ 68 64 := q2 _ _ (by omega) (by omega)
    have e43 : rd τ 43 j = rd σ 43 j := q2 _ _ (by omega) (by omega)
    have e107 : rd τ 107 j = rd σ 107 j := q2 _ _ (by omega) (by omega)
    rw [e64] at j1
    obtain ⟨h1, h2, h3, h4, h5⟩ := E.2.2.1 j j0 j1
    rw [e43, e107, e6]
    by_cases c : j = s
    · subst c
      refine ⟨h1, by rw [h7]; omega, by rw [h7]; exact Int.le_refl _, hk, fun _ => K8.mv m e7⟩
    · rw [oth j _ 7 j0 j1 c (by omega) (by omega), oth j _ 8 j0 j1 c (by omega) (by omega)]
      exact ⟨h1, h2, h3, h4, fun q => ((h5 q).mv m e7).at (oth j _ _ j0 j1 c (by omega) (by omega)) (fun b i q1 q2 => oth j b i j0 j1 c (by omega) (by omega))⟩
  all_goals
    intro x y p
    first
      | unfold PTap at p
      | unfold PFau at p
      | unfold PClk at p
      | unfold PSlo at p
      | unfold PWin at p
      | unfold PPas at p
      | unfold PSki at p
      | unfold PCro at p
      | unfold PDay at p
      | unfold PLaw at p
      | unfold PSwp at p
    exact q2 _ _ (by omega) (by omega)
/-- a skier seen by the class -/
def seenD (σ : pS) (k s : Int) (τ : pS) : Prop := same σ τ MF ∧ KSk σ k s (rd σ 107 s) (rd σ 43 s) τ ∧ SKH σ k (rd σ 107 s) (rd σ 43 s) τ ∧ (∀ i : Int, rd τ 43 i = rd σ 43 i) ∧ rd τ 0 7 = rd σ 0 7
theorem RB.seen_C {n d : Nat} {σ : pS} (h : RB n σ) (hd : 6 ≤ d) {s m k : Int} (h1 : inR s) (h2 : inR m) (h3 : inR k) : pC mX10_seen d [(2, 0), (0, s), (0, m), (0, k)] σ (fun r τ => (¬ ((0 ≤ s ∧ s < rd σ 68 64) ∧ 0 ≤ m ∧ m < 541) ∧ r = some (2, (-1)) ∧ τ = σ) ∨ (((0 ≤ s ∧ s < rd σ 68 64) ∧ 0 ≤ m ∧ m < 541) ∧ r = some (2, rd σ 43 s) ∧ RB n τ ∧ seenD σ k s τ ∧ ∀ b i : Int, ¬ (35 ≤ b ∧ b ≤ 39) → b ≠ rd σ 0 8 + 3 → ¬ (rd σ 43 s ≤ b ∧ b ≤ rd σ 43 s + 5) → rd τ b i = rd σ b i)) := by
  have S := h.1
  have L := h.slo
  have P := h.pas
  have c0 := h.clk
  unfold RClk at c0
  obtain ⟨k1, k2, k3, k4, k5⟩ := h.ski
  have A := h.law
  obtain ⟨hl, ⟨n2, I2, hn2, a1⟩, a2⟩ := id A
  have l0 := L.1
  have p1 := P.1
  have core : ∀ τ : pS, (0 ≤ s ∧ s < rd σ 68 64) → lookD σ k τ → RB n τ ∧ rd τ 43 s = rd σ 43 s ∧ rd τ 107 s = rd σ 107 s ∧ rd τ 0 6 = rd σ 0 6 ∧ rd τ 68 64 = rd σ 68 64 ∧ Inst5 τ (rd σ 43 s) ∧ 141 ≤ rd σ 43 s ∧ (rd σ 43 s + 5 < rd σ 0 7 ∨ rd σ 0 7 + 10 < rd σ 43 s) ∧ (0 ≤ rd σ 107 s ∧ rd σ 107 s < 4) ∧ rd τ (rd σ 43 s) 0 = rd σ 107 s ∧ (∀ b i : Int, 29 ≤ b → b ≤ 34 → rd τ b i = rd σ b i) ∧ rd τ 0 7 = rd σ 0 7 ∧ ∀ i : Int, rd τ 43 i = rd σ 43 i := fun τ hs q => by
    obtain ⟨y1, y2, y3, y4, y5⟩ := k4 s hs.1 hs.2
    have I5 : Inst5 τ (rd σ 43 s) := ⟨(ob_eq q.1 _).trans y2.1, (ob_eq q.1 _).trans y2.2.1, (ob_eq q.1 _).trans y2.2.2.1, (ob_eq q.1 _).trans y2.2.2.2.1, (ob_eq q.1 _).trans y2.2.2.2.2.1, (ob_eq q.1 _).trans y2.2.2.2.2.2⟩
    have a2' := i5_i2 y2 I2
    exact ⟨h.look q h3, q.2.1 _ _ (by omega) (by omega) (by omega), q.2.1 _ _ (by omega) (by omega) (by omega), q.2.1 _ _ (by omega) (by omega) (by omega), q.2.1 _ _ (by omega) (by omega) (by omega), I5, y1, i5_i6 y2 L.2.1, ⟨y4, y5⟩, (q.2.1 _ _ (by omega) (by omega) (by omega)).trans y3, fun b i b0 b1 => q.2.1 _ _ (by omega) (by omega) (by omega), q.2.1 _ _ (by omega) (by omega) (by omega), fun i => q.2.1 _ _ (by omega) (by omega) (by omega)⟩
  have rk : ∀ τ : pS, (0 ≤ s ∧ s < rd σ 68 64) → lookD σ k τ → pC mX5_reckon 5 [(2, rd τ 43 s), (2, 35), (2, 29), (0, s)] τ (fun r υ => r = none ∧ reckD σ k s (rd σ 107 s) (rd σ 43 s) τ υ) := fun τ hs q => by
    obtain ⟨H, e43, e107, e6, e64, I5, y1, ap, sk, e0, pr, e07, e43'⟩ := core τ hs q
    rw [e43]
    exact reckon_C (Nat.le_refl 5) S L P (q.cv L A) I5 ⟨y1, ap⟩ e0 q.2.2.2.2 pr sk h3 h1
  have fin : ∀ τ υ : pS, ((0 ≤ s ∧ s < rd σ 68 64) ∧ 0 ≤ m ∧ m < 541) → lookD σ k τ → reckD σ k s (rd σ 107 s) (rd σ 43 s) τ υ → (¬ ((0 ≤ s ∧ s < rd σ 68 64) ∧ 0 ≤ m ∧ m < 541) ∧ some ((2 : Nat), rd τ 43 s) = some (2, (-1)) ∧ wr υ (rd τ 43 s) 7 (rd υ 0 6) = σ) ∨ (((0 ≤ s ∧ s < rd σ 68 64) ∧ 0 ≤ m ∧ m < 541) ∧ some ((2 : Nat), rd τ 43 s) = some (2, rd σ 43 s) ∧ RB n (wr υ (rd τ 43 s) 7 (rd υ 0 6)) ∧ seenD σ k s (wr υ (rd τ 43 s) 7 (rd υ 0 6)) ∧ ∀ b i : Int, ¬ (35 ≤ b ∧ b ≤ 39) → b ≠ rd σ 0 8 + 3 → ¬ (rd σ 43 s ≤ b ∧ b ≤ rd σ 43 s + 5) → rd (wr υ (rd τ 43 s) 7 (rd υ 0 6)) b i = rd σ b i) := fun τ υ hs q r => by
    obtain ⟨H, e43, e107, e6, e64, I5, y1, ap, sk, e0, pr, e07, e43'⟩ := core τ hs.1 q
    obtain ⟨r1, r2, r3, r4⟩ := r
    rw [e43]
    have m1 := q.mf h.law.1
    have u6 : rd υ 0 6 = rd σ 0 6 := (r2 _ _ (by omega) (by omega)).trans e6
    have K' : KSk σ k s (rd σ 107 s) (rd σ 43 s) (wr υ (rd σ 43 s) 7 (rd υ 0 6)) := r3.at (rd_wr_n (by omega)) (fun b i b0 b1 => rd_wr_n (by omega))
    have fr : ∀ b i : Int, ¬ (rd σ 43 s + 1 ≤ b ∧ b ≤ rd σ 43 s + 5) → ¬ (b = rd σ 43 s ∧ (i = 6 ∨ i = 7 ∨ i = 8)) → rd (wr υ (rd σ 43 s) 7 (rd υ 0 6)) b i = rd τ b i := fun b i c c2 => by
      rw [rd_wr_n (by omega)]; exact r2 b i c (by omega)
    have e8 : rd (wr υ (rd σ 43 s) 7 (rd υ 0 6)) (rd σ 43 s) 8 = k := by rw [rd_wr_n (by omega)]; exact r4
    have m2 : same σ (wr υ (rd σ 43 s) 7 (rd υ 0 6)) MF := fun a i p => (fr a i (by unfold MF at p; omega) (by unfold MF at p; omega)).trans (m1 a i p)
    have cv : CV σ k (wr υ (rd σ 43 s) 7 (rd υ 0 6)) := by
      have v := q.cv L A
      refine ⟨(show (wr υ (rd σ 43 s) 7 (rd υ 0 6)).1 = σ.1 from r1.trans v.1), fun b i b0 b1 => (fr b i (by omega) (by omega)).trans (v.2.1 b i b0 b1), v.2.2.at (fr _ _ (by omega) (by omega)) (fun b i b0 b1 => fr b i (by omega) (by omega))⟩
    refine Or.inr ⟨hs, rfl, ?_, ⟨m2, K', ⟨cv, ⟨(ob_eq r1 _).trans I5.1, (ob_eq r1 _).trans I5.2.1, (ob_eq r1 _).trans I5.2.2.1, (ob_eq r1 _).trans I5.2.2.2.1, (ob_eq r1 _).trans I5.2.2.2.2.1, (ob_eq r1 _).trans I5.2.2.2.2.2⟩, ⟨y1, ap⟩, (fr _ _ (by omega) (by omega)).trans e0, K'.1, e8, fun b i b0 b1 => (fr _ _ (by omega) (by omega)).trans (pr b i b0 b1)⟩, fun i => (fr _ _ (by omega) (by omega)).trans (e43' i), (fr _ _ (by omega) (by omega)).trans e07⟩, fun b i c1 c2 c3 => (fr b i (by omega) (by omega)).trans (q.2.1 b i (by omega) c2 (by omega))⟩
    have := H.sk (s := s) (τ := wr υ (rd σ 43 s) 7 (rd υ 0 6)) (by rw [e64]; exact hs.1)
    rw [e43, e107, e6] at this
    refine this r1 fr (by rw [e8]; exact h3) (by rw [rd_wr_same]; exact u6) ?_
    rw [e8]
    exact K'.mv m1 e07
  refine g_X10_seen_0 (Q1 := fun r τ => r = none ∧ lookD σ k τ) (Q2 := fun r υ => r = none ∧ ∃ τ, lookD σ k τ ∧ rd υ 43 s = rd τ 43 s ∧ reckD σ k s (rd σ 107 s) (rd σ 43 s) τ υ) (Q3 := fun r υ => r = none ∧ ∃ τ, lookD σ k τ ∧ rd υ 43 s = rd τ 43 s ∧ reckD σ k s (rd σ 107 s) (rd σ 43 s) τ υ) hd S s m k (within_C S h1 (by omega)) (fun c => ?_) (fun _ => within_C S h2 (by decide)) (fun _ _ => h.look_C (by omega) h3) (fun c _ _ _ _ => ?_) (fun c _ τ e q => ?_) (fun c _ τ e q _ => ?_) (fun c _ τ e q _ => ?_) (fun c _ τ e q _ => ?_) (fun c _ τ e q _ c7 => ?_) (fun c c3 τ e q _ c7 υ e4 q4 => ?_) (fun c _ τ e q _ c8 => ?_) (fun _ _ _ _ _ _ _ => h3) (fun c c3 τ e q _ c8 c9 => ?_) (fun c _ τ e q _ c8 c10 => ?_) (fun c c3 τ e q _ c8 c10 υ e5 q5 => ?_) (fun c _ τ e q c6 => ?_) (fun _ c => ?_)
  · have := vWithin_f c
    exact Or.inl ⟨by omega, rfl, rfl⟩
  case refine_14 =>
    have := vWithin_f c
    exact Or.inl ⟨by omega, rfl, rfl⟩
  all_goals have hs := vWithin_t c
  all_goals rw [k1] at hs
  · omega
  all_goals
    obtain ⟨H, e43, e107, e6, e64, I5, y1, ap, sk, e0, pr, e07, e43'⟩ := core τ hs q.2
    have rsk := H.ext.2.2.1 s hs.1 (by omega)
    rw [e43, e107] at rsk
    have ck := H.clk
    unfold RClk at ck
  · rw [e43]; omega
  · rw [e43]; exact I5
  · rw [e43]; unfold inR; omega
  · unfold inR; omega
  · exact (rk τ hs q.2).mono (fun r υ _ z => ⟨z.1, τ, q.2, z.2.2.1 _ _ (by omega) (by omega), z.2⟩)
  · obtain ⟨-, τ', z1, z2, z3⟩ := q4
    have m' := vWithin_t c3
    have := fin τ' υ ⟨hs, m'⟩ z1 z3
    have e43'' := (core τ' hs z1).2.1
    rw [e43''] at this
    rw [e43]
    exact this
  · rw [e43]; exact rsk.2.2.2.1
  · rw [e43] at c8 c9
    have m' := vWithin_t c3
    rw [e43]
    have K' := rsk.2.2.2.2 c8
    rw [c9] at K'
    have m1 := q.2.mf h.law.1
    have K2 : KSk σ k s (rd σ 107 s) (rd σ 43 s) τ := K'.mv m1.symm e07.symm
    exact Or.inr ⟨⟨hs, m'⟩, rfl, H, ⟨m1, K2, ⟨q.2.cv L A, I5, ⟨y1, ap⟩, e0, K2.1, c9, pr⟩, e43', e07⟩, fun b i c1 c2 c3 => q.2.2.1 b i (by omega) c2 (by omega)⟩
  · exact (rk τ hs q.2).mono (fun r υ _ z => ⟨z.1, τ, q.2, z.2.2.1 _ _ (by omega) (by omega), z.2⟩)
  · obtain ⟨-, τ', z1, z2, z3⟩ := q5
    have m' := vWithin_t c3
    have := fin τ' υ ⟨hs, m'⟩ z1 z3
    have e43'' := (core τ' hs z1).2.1
    rw [e43''] at this
    rw [e43]
    exact this
  · omega
