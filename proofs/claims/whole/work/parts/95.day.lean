/-! a day: the step -/
def FrD (a i : Int) : Prop := FrA a ∨ (a = 50 ∧ i = 2) ∨ (51 ≤ a ∧ a ≤ 55) ∨ (128 ≤ a ∧ a ≤ 132) ∨ (a = 68 ∧ i = 78)
theorem RB.day {n : Nat} {σ τ : pS} (h : RB n σ) (q1 : τ.1 = σ.1) (q2 : ∀ a i : Int, ¬ FrD a i → rd τ a i = rd σ a i) : (RDay τ → RB n τ) ∧ RWin τ ∧ RSlo τ ∧ RLaw τ ∧ RCro τ := by
  obtain ⟨S, Z, T, F, C, L, W, P, K, R, D, E⟩ := h
  have l0 := L.1
  have le : pLe σ τ := ⟨by rw [q1]; exact Nat.le_refl _, by unfold pSz; rw [q1]; exact Nat.le_refl _, fun a q h _ => by rw [ob_eq q1]; exact h, fun a i ha => q2 a i (by unfold FrD FrA; omega)⟩
  have s1 : same σ τ PTap := fun x y p => by unfold PTap at p; exact q2 _ _ (by unfold FrD FrA; omega)
  have s2 : same σ τ PFau := fun x y p => by unfold PFau at p; exact q2 _ _ (by unfold FrD FrA; omega)
  have s3 : same σ τ PClk := fun x y p => by unfold PClk at p; exact q2 _ _ (by unfold FrD FrA; omega)
  have s4 : same σ τ (PSlo σ) := fun x y p => by unfold PSlo at p; exact q2 _ _ (by unfold FrD FrA; omega)
  have s5 : same σ τ PWin := fun x y p => by unfold PWin at p; exact q2 _ _ (by unfold FrD FrA; omega)
  have s6 : same σ τ PPas := fun x y p => by unfold PPas at p; exact q2 _ _ (by unfold FrD FrA; omega)
  have s7 : same σ τ PSki := fun x y p => by unfold PSki at p; exact q2 _ _ (by unfold FrD FrA; omega)
  have s8 : same σ τ PCro := fun x y p => by unfold PCro at p; exact q2 _ _ (by unfold FrD FrA; omega)
  have s9 : same σ τ PExt := fun x y p => by unfold PExt MF at p; exact q2 _ _ (by unfold FrD FrA; omega)
  have Z2 : RSz n τ := by unfold RSz pSz at *; rw [q1]; exact Z
  have E2 := E.mv le s9
  exact ⟨fun D2 => ⟨S.le le, Z2, T.mv s1, F.mv s2, C.mv s3, L.mv le s4, W.mv s5, P.mv s6, K.mv le s7 (fun j h0 h1 h2 => q2 _ _ (by unfold FrD FrA; omega)), R.mv s8, D2, E2⟩, W.mv s5, L.mv le s4, E2.1, R.mv s8⟩
theorem mDay_C {d : Nat} {σ τ : pS} (hd : 3 ≤ d) (S : Stat σ) (L : RSlo σ) (W : RWin σ) (C : RCro σ) (S3 : Stat τ) (L3 : RSlo τ) (W3 : RWin τ) (A3 : RLaw τ) {k : Int} (hk : inR k) (hx : ∀ φ : pS, knowD τ k φ → RX σ k φ) : pC mX11_day d [(2, 68), (0, k)] τ (fun r υ => ∃ φ, knowD τ k φ ∧ dayM σ k (wr φ 68 78 1) r υ) := by
  have b1 := L.2.2.2.1.2
  have b0 := L.2.2.2.1.1
  have b2 := L.2.2.2.2.2.1.2
  have b3 := L.2.2.2.2.2.1.1
  refine g_X11_day_0 (Q1 := fun r φ => r = none ∧ knowD τ k φ) hd S3 k (know_C (Nat.le_refl 2) S3 W3 L3 A3 hk) (fun φ _ q => ?_)
  have rx0 := hx φ q.2
  have rx : RX σ k (wr φ 68 78 1) := ⟨rx0.1, fun a i p => by rw [rd_wr_n (by omega)]; exact rx0.2.1 a i p, fun r r0 r1 => by rw [rd_wr_n (by omega), rd_wr_n (by omega)]; exact rx0.2.2.1 r r0 r1, fun w w0 w1 r r0 r1 => by rw [rd_wr_n (by omega)]; exact rx0.2.2.2 w w0 w1 r r0 r1⟩
  refine pR.mono (Q := dayM σ k (wr φ 68 78 1)) ?_ (fun r υ _ x => ⟨φ, q.2, x⟩)
  generalize wr φ 68 78 1 = χ at rx
  have z : ∀ a x : Int, a ≠ 127 → dDay σ k 0 a x = 0 := fun a x ha => by show (if _ then _ else _) = _; rw [if_neg ha]
  have z7 : ∀ x : Int, dDay σ k 0 127 x = 10 * rd σ 81 (6 + x) := fun x => rfl
  have l5 : ∀ (n i : Nat) (u3 u4 : pV) (ψ : pS), u3.1 ≠ 1 → u4.1 ≠ 1 → (i : Int) + n = rd σ 68 31 → mdFr χ ψ → (∀ c : Int, 0 ≤ c → c < 5410 → rd ψ 126 c = 0) → (∀ p : Int, 0 ≤ p → p < 10 → rd ψ 124 p = 0 ∧ rd ψ 122 p = 0) → (∀ w : Int, 0 ≤ w → w < 13 → rd ψ 128 w = 0) → (∀ l : Int, 0 ≤ l → l < 6 → rd ψ 125 l = 0 ∧ rd ψ 129 l = 0) → (∀ r : Int, 0 ≤ r → r < (i : Int) → rd ψ 127 r = 10 * rd σ 81 (6 + r)) → pR mX11_day d 111 [(2, 68), (0, k), (0, (i : Int)), u3, u4] [] ψ (dayM σ k χ) := fun n => by
    induction n with
    | zero =>
      intro i u3 u4 ψ hu3 hu4 hi F e1 e2 e3 e4 e5
      have rxp := rx.fr F.1 F.2
      have e31 : rd ψ 68 31 = rd σ 68 31 := rxp.2.1 _ _ (by omega)
      refine g_X11_day_111 hd (S.eq rxp.1) k (i : Int) u3 u4 hu3 hu4 (by unfold inR; omega) (by rw [e31]; unfold inR; omega) (fun _ => ?_) (fun c => by rw [e31] at c; omega) (fun c => by rw [e31] at c; omega) (fun c => by rw [e31] at c; omega)
      exact mDays_C hd S L W C rx 480 0 u3 u4 ψ hu3 hu4 rfl F ⟨fun p p0 p1 => by rw [z _ _ (by decide), z _ _ (by decide)]; exact e2 p p0 p1, fun l l0 l1 => by rw [z _ _ (by decide), z _ _ (by decide)]; exact e4 l l0 l1, fun r r0 r1 => by rw [z7]; exact e5 r r0 (by omega), fun w w0 w1 => by rw [z _ _ (by decide)]; exact e3 w w0 w1, fun c c0 c1 => by rw [z _ _ (by decide)]; exact e1 c (by omega) c1⟩ (fun t ht => by omega)
    | succ n ih =>
      intro i u3 u4 ψ hu3 hu4 hi F e1 e2 e3 e4 e5
      have rxp := rx.fr F.1 F.2
      have e31 : rd ψ 68 31 = rd σ 68 31 := rxp.2.1 _ _ (by omega)
      have e81 : rd ψ 81 (6 + (i : Int)) = rd σ 81 (6 + (i : Int)) := rxp.2.1 _ _ (by omega)
      refine g_X11_day_111 hd (S.eq rxp.1) k (i : Int) u3 u4 hu3 hu4 (by unfold inR; omega) (by rw [e31]; unfold inR; omega) (fun c => by rw [e31] at c; omega) (fun _ => by omega) (fun _ => by omega) (fun _ => ?_)
      rw [show (i : Int) + 1 = ((i + 1 : Nat) : Int) by omega, e81]
      refine ih (i + 1) u3 u4 _ hu3 hu4 (by omega) (F.tr ⟨rfl, fun a x a1 a2 => rd_wr_n (by omega)⟩) (fun c c0 c1 => by rw [rd_wr_n (by omega)]; exact e1 c c0 c1) (fun p p0 p1 => by rw [rd_wr_n (by omega), rd_wr_n (by omega)]; exact e2 p p0 p1) (fun w w0 w1 => by rw [rd_wr_n (by omega)]; exact e3 w w0 w1) (fun l l0 l1 => by rw [rd_wr_n (by omega), rd_wr_n (by omega)]; exact e4 l l0 l1) (fun r r0 r1 => ?_)
      rw [rd_wr]
      by_cases y : r = (i : Int)
      · rw [if_pos ⟨rfl, y⟩, y]
      · rw [if_neg (fun w => y w.2)]; exact e5 r r0 (by omega)
  have l4 : ∀ (n i : Nat) (u3 u4 : pV) (ψ : pS), u3.1 ≠ 1 → u4.1 ≠ 1 → i + n = 6 → mdFr χ ψ → (∀ c : Int, 0 ≤ c → c < 5410 → rd ψ 126 c = 0) → (∀ p : Int, 0 ≤ p → p < 10 → rd ψ 124 p = 0 ∧ rd ψ 122 p = 0) → (∀ w : Int, 0 ≤ w → w < 13 → rd ψ 128 w = 0) → (∀ l : Int, 0 ≤ l → l < (i : Int) → rd ψ 125 l = 0 ∧ rd ψ 129 l = 0) → pR mX11_day d 83 [(2, 68), (0, k), (0, (i : Int)), u3, u4] [] ψ (dayM σ k χ) := fun n => by
    induction n with
    | zero =>
      intro i u3 u4 ψ hu3 hu4 hi F e1 e2 e3 e4
      exact g_X11_day_83 hd (S.eq (F.1.trans rx.1)) k (i : Int) u3 u4 hu3 hu4 (by unfold inR; omega) (fun _ => l5 (rd σ 68 31).toNat 0 u3 u4 ψ hu3 hu4 (by omega) F e1 e2 e3 (fun l l0 l1 => e4 l l0 (by omega)) (fun r r0 r1 => by omega)) (fun c => by omega) (fun c => by omega)
    | succ n ih =>
      intro i u3 u4 ψ hu3 hu4 hi F e1 e2 e3 e4
      refine g_X11_day_83 hd (S.eq (F.1.trans rx.1)) k (i : Int) u3 u4 hu3 hu4 (by unfold inR; omega) (fun c => by omega) (fun _ => by omega) (fun _ => ?_)
      rw [show (i : Int) + 1 = ((i + 1 : Nat) : Int) by omega]
      refine ih (i + 1) u3 u4 _ hu3 hu4 (by omega) (F.tr ⟨rfl, fun a x a1 a2 => by rw [rd_wr_n (by omega), rd_wr_n (by omega)]⟩) (fun c c0 c1 => by rw [rd_wr_n (by omega), rd_wr_n (by omega)]; exact e1 c c0 c1) (fun p p0 p1 => by rw [rd_wr_n (by omega), rd_wr_n (by omega), rd_wr_n (by omega), rd_wr_n (by omega)]; exact e2 p p0 p1) (fun w w0 w1 => by rw [rd_wr_n (by omega), rd_wr_n (by omega)]; exact e3 w w0 w1) (fun l l0 l1 => ?_)
      by_cases y : l = (i : Int)
      · rw [y, rd_wr_n (by omega), rd_wr_same, rd_wr_same]; exact ⟨rfl, rfl⟩
      · rw [rd_wr_n (by omega), rd_wr_n (by omega), rd_wr_n (by omega), rd_wr_n (by omega)]; exact e4 l l0 (by omega)
  have l3 : ∀ (n i : Nat) (u3 u4 : pV) (ψ : pS), u3.1 ≠ 1 → u4.1 ≠ 1 → i + n = 13 → mdFr χ ψ → (∀ c : Int, 0 ≤ c → c < 5410 → rd ψ 126 c = 0) → (∀ p : Int, 0 ≤ p → p < 10 → rd ψ 124 p = 0 ∧ rd ψ 122 p = 0) → (∀ w : Int, 0 ≤ w → w < (i : Int) → rd ψ 128 w = 0) → pR mX11_day d 62 [(2, 68), (0, k), (0, (i : Int)), u3, u4] [] ψ (dayM σ k χ) := fun n => by
    induction n with
    | zero =>
      intro i u3 u4 ψ hu3 hu4 hi F e1 e2 e3
      exact g_X11_day_62 hd (S.eq (F.1.trans rx.1)) k (i : Int) u3 u4 hu3 hu4 (by unfold inR; omega) (fun _ => l4 6 0 u3 u4 ψ hu3 hu4 rfl F e1 e2 (fun w w0 w1 => e3 w w0 (by omega)) (fun l l0 l1 => by omega)) (fun c => by omega) (fun c => by omega)
    | succ n ih =>
      intro i u3 u4 ψ hu3 hu4 hi F e1 e2 e3
      refine g_X11_day_62 hd (S.eq (F.1.trans rx.1)) k (i : Int) u3 u4 hu3 hu4 (by unfold inR; omega) (fun c => by omega) (fun _ => by omega) (fun _ => ?_)
      rw [show (i : Int) + 1 = ((i + 1 : Nat) : Int) by omega]
      refine ih (i + 1) u3 u4 _ hu3 hu4 (by omega) (F.tr ⟨rfl, fun a x a1 a2 => rd_wr_n (by omega)⟩) (fun c c0 c1 => by rw [rd_wr_n (by omega)]; exact e1 c c0 c1) (fun p p0 p1 => by rw [rd_wr_n (by omega), rd_wr_n (by omega)]; exact e2 p p0 p1) (fun w w0 w1 => ?_)
      rw [rd_wr]
      by_cases y : w = (i : Int)
      · rw [if_pos ⟨rfl, y⟩]
      · rw [if_neg (fun v => y v.2)]; exact e3 w w0 (by omega)
  have l2 : ∀ (n i : Nat) (u3 u4 : pV) (ψ : pS), u3.1 ≠ 1 → u4.1 ≠ 1 → i + n = 10 → mdFr χ ψ → (∀ c : Int, 0 ≤ c → c < 5410 → rd ψ 126 c = 0) → (∀ p : Int, 0 ≤ p → p < (i : Int) → rd ψ 124 p = 0 ∧ rd ψ 122 p = 0) → pR mX11_day d 34 [(2, 68), (0, k), (0, (i : Int)), u3, u4] [] ψ (dayM σ k χ) := fun n => by
    induction n with
    | zero =>
      intro i u3 u4 ψ hu3 hu4 hi F e1 e2
      exact g_X11_day_34 hd (S.eq (F.1.trans rx.1)) k (i : Int) u3 u4 hu3 hu4 (by unfold inR; omega) (fun _ => l3 13 0 u3 u4 ψ hu3 hu4 rfl F e1 (fun p p0 p1 => e2 p p0 (by omega)) (fun w w0 w1 => by omega)) (fun c => by omega) (fun c => by omega)
    | succ n ih =>
      intro i u3 u4 ψ hu3 hu4 hi F e1 e2
      refine g_X11_day_34 hd (S.eq (F.1.trans rx.1)) k (i : Int) u3 u4 hu3 hu4 (by unfold inR; omega) (fun c => by omega) (fun _ => by omega) (fun _ => ?_)
      rw [show (i : Int) + 1 = ((i + 1 : Nat) : Int) by omega]
      refine ih (i + 1) u3 u4 _ hu3 hu4 (by omega) (F.tr ⟨rfl, fun a x a1 a2 => by rw [rd_wr_n (by omega), rd_wr_n (by omega)]⟩) (fun c c0 c1 => by rw [rd_wr_n (by omega), rd_wr_n (by omega)]; exact e1 c c0 c1) (fun p p0 p1 => ?_)
      by_cases y : p = (i : Int)
      · rw [y, rd_wr_n (by omega), rd_wr_same, rd_wr_same]; exact ⟨rfl, rfl⟩
      · rw [rd_wr_n (by omega), rd_wr_n (by omega), rd_wr_n (by omega), rd_wr_n (by omega)]; exact e2 p p0 (by omega)
  have l1 : ∀ (n i : Nat) (u3 u4 : pV) (ψ : pS), u3.1 ≠ 1 → u4.1 ≠ 1 → (i : Int) + n = 5410 → mdFr χ ψ → (∀ c : Int, 0 ≤ c → c < (i : Int) → rd ψ 126 c = 0) → pR mX11_day d 12 [(2, 68), (0, k), (0, (i : Int)), u3, u4] [] ψ (dayM σ k χ) := fun n => by
    induction n with
    | zero =>
      intro i u3 u4 ψ hu3 hu4 hi F e1
      exact g_X11_day_12 hd (S.eq (F.1.trans rx.1)) k (i : Int) u3 u4 hu3 hu4 (by unfold inR; omega) (fun _ => l2 10 0 u3 u4 ψ hu3 hu4 rfl F (fun c c0 c1 => e1 c c0 (by omega)) (fun p p0 p1 => by omega)) (fun c => by omega) (fun c => by omega)
    | succ n ih =>
      intro i u3 u4 ψ hu3 hu4 hi F e1
      refine g_X11_day_12 hd (S.eq (F.1.trans rx.1)) k (i : Int) u3 u4 hu3 hu4 (by unfold inR; omega) (fun c => by omega) (fun _ => by omega) (fun _ => ?_)
      rw [show (i : Int) + 1 = ((i + 1 : Nat) : Int) by omega]
      refine ih (i + 1) u3 u4 _ hu3 hu4 (by omega) (F.tr ⟨rfl, fun a x a1 a2 => rd_wr_n (by omega)⟩) (fun c c0 c1 => ?_)
      rw [rd_wr]
      by_cases y : c = (i : Int)
      · rw [if_pos ⟨rfl, y⟩]
      · rw [if_neg (fun v => y v.2)]; exact e1 c c0 (by omega)
  obtain ⟨Z, hZ⟩ : ∃ Z : Nat, (Z : Int) = 5410 := ⟨5410, rfl⟩
  exact l1 Z 0 (9, 0) (9, 0) χ (by decide) (by decide) (by omega) ⟨rfl, fun _ _ _ _ => rfl⟩ (fun c c0 c1 => by omega)
theorem op_day {n d : Nat} {σ : pS} (hd : 100 ≤ d) (h : RB n σ) (hn : n < 512) {x1 : Int} (h1 : inR x1) : pC mX10_day d [(2, 0), (0, x1)] σ (fun r τ => pC mX11_day d [(2, 68), (0, x1)] τ (fun q υ => q = r ∧ RB (n + 1) υ)) := by
  have S := h.1
  have L := h.slo
  have W := h.win
  have C : RCro σ := h.2.2.2.2.2.2.2.2.2.1
  have A := h.law
  have b1 := L.2.2.2.1.2
  have b2 := L.2.2.2.2.2.1.2
  have l0 := L.1
  have hh := L.2.2.2.2.2.2.2.2.1
  have a0 := A.1
  have cxOf : ∀ τ1, lookD σ x1 τ1 → CX σ x1 τ1 := fun τ1 q => ⟨q.cv L A, fun a i p0 p1 => q.2.1 a i (by omega) (by omega) (by omega)⟩
  have e7 : ∀ τ1 τ2, lookD σ x1 τ1 → dayC σ x1 τ1 none τ2 → rd τ2 0 7 = rd σ 0 7 ∧ rd τ2 (rd σ 0 7) 3 = rd σ 68 32 := fun τ1 τ2 q c => by
    have cv := q.cv L A
    refine ⟨(c.2.1.2 _ _ (by omega) (by omega)).trans (q.2.1 _ _ (by omega) (by omega) (by omega)), (c.2.1.2 _ _ (by omega) (by omega)).trans ((cv.2.1 _ _ (by omega) (by omega)).trans L.2.2.2.2.2.2.2.1)⟩
  refine g_X10_day_0 (Q1 := fun r τ => r = none ∧ lookD σ x1 τ) (Q2 := fun r τ => ∃ τ1, lookD σ x1 τ1 ∧ dayC σ x1 τ1 r τ) (Q3 := fun r τ => ∃ τ1, lookD σ x1 τ1 ∧ dayC σ x1 τ1 none τ ∧ r = some (0, dAns σ x1)) (by omega) S x1 (h.look_C (Nat.le_refl 4) h1) (fun τ1 _ q1 => pC.mono (runThrough_C (Nat.le_refl 6) S L W C (cxOf τ1 q1.2)) (fun r τ _ c => ⟨τ1, q1.2, c⟩)) (fun τ1 _ _ τ2 _ ⟨τ0, lk, dc⟩ => ?_) (fun τ1 _ _ τ2 _ ⟨τ0, lk, dc⟩ => ?_) (fun τ1 _ _ τ2 _ _ v3 τ3 _ ⟨τ0, lk, dc, ev⟩ => ?_)
  · rw [(e7 τ0 τ2 lk dc).1]
    exact L.2.1.eq (dc.2.1.1.trans lk.1)
  · have e := e7 τ0 τ2 lk dc
    rw [e.1, e.2]
    refine g_X1_standing_0 (Nat.zero_le 0) (S.eq (dc.2.1.1.trans lk.1)) _ (by omega) ⟨τ0, lk, dc, ?_⟩
    have lg := (dc.2.2.2.2 479 (by decide)).1 _ hh.1 hh.2
    rw [show (10 : Int) * ((479 : Nat) : Int) + rd σ 68 32 = 4790 + rd σ 68 32 by omega] at lg
    rw [lg.1, lg.2]
    rfl
  · have ev2 : v3 = dAns σ x1 := congrArg (fun o => (o.getD (0, 0)).2) ev
    have R1 := h.look lk h1
    have fr3 : ∀ a i : Int, ¬ FrD a i → rd τ3 a i = rd τ0 a i := fun a i p => dc.2.1.2 a i (by unfold FrD FrA at p; omega) (by unfold FrD FrA at p; omega)
    have P3 := (R1.day dc.2.1.1 fr3).2
    have S3 : Stat τ3 := S.eq (dc.2.1.1.trans lk.1)
    have to : ∀ a i : Int, ¬ (a = 35 ∨ (36 ≤ a ∧ a ≤ 39) ∨ (50 ≤ a ∧ a ≤ 60) ∨ (17 ≤ a ∧ a ≤ 22) ∨ 141 ≤ a) → rd τ3 a i = rd σ a i := fun a i p => (dc.2.1.2 a i (by omega) (by omega)).trans (lk.2.1 a i (by omega) (by omega) (by omega))
    have mf : same σ τ3 MF := fun a i p => to a i (by unfold MF at p; omega)
    refine pC.mono (mDay_C (by omega) S L W C S3 P3.2.1 P3.1 P3.2.2.1 h1 (fun φ kn => ⟨kn.1.1.1.trans (dc.2.1.1.trans lk.1), fun a i p => (kn.1.1.2 a i (by omega)).trans (to a i (by omega)), fun r r0 r1 => ?_, fun w w0 w1 r r0 r1 => ?_⟩)) (fun q υ _ ⟨φ, kn, dm⟩ => ⟨?_, ?_⟩)
    · have := kn.1.2 r r0 r1
      rw [wWind_eqm mf, wFresh_eq mf] at this
      exact this
    · have := (kn.2 w w0 w1).1 r r0 r1
      rw [shutS_eq mf] at this
      exact this
    · rw [ev2]; exact dm.1
    · obtain ⟨dm1, dm2, dm3, dm4⟩ := dm
      have frU : ∀ a i : Int, ¬ (101 ≤ a ∧ a ≤ 105) → a ≠ 122 → ¬ (124 ≤ a ∧ a ≤ 132) → ¬ (a = 68 ∧ i = 78) → rd υ a i = rd τ3 a i := fun a i p1 p2 p3 p4 => (dm2.2 a i p2 p3).trans ((rd_wr_n p4).trans (kn.1.1.2 a i p1))
      have e78 : rd υ 68 78 = 1 := (dm2.2 68 78 (by decide) (by decide)).trans (rd_wr_same _ _ _ _)
      have e30 : rd υ 68 30 = rd σ 68 30 := (frU 68 30 (by decide) (by decide) (by decide) (by decide)).trans (to 68 30 (by decide))
      have e31 : rd υ 68 31 = rd σ 68 31 := (frU 68 31 (by decide) (by decide) (by decide) (by decide)).trans (to 68 31 (by decide))
      have c5 : ∀ a i : Int, 50 ≤ a → a ≤ 60 → rd υ a i = rd τ3 a i := fun a i p0 p1 => frU a i (by omega) (by omega) (by omega) (by omega)
      refine RB.up ((R1.day (dm2.1.trans (kn.1.1.1.trans dc.2.1.1)) (fun a i p => ?_)).1 ⟨?_, Or.inr e78, fun _ => ⟨fun i i0 i1 => ?_, fun m r m0 m1 r0 r1 => ?_, fun w hw => ?_, fun l l0' l1 => ?_, fun r r0 r1 => ?_⟩⟩) hn
      · have p' : ¬ FrD a i := p
        unfold FrD FrA at p
        exact (frU a i (by omega) (by omega) (by omega) (by omega)).trans (fr3 a i p')
      · rw [e78, c5 50 2 (by decide) (by decide)]; exact dc.2.2.1
      · have x := (dc.2.2.2.2 (i / 10).toNat (by omega)).1 (i % 10) (by omega) (by omega)
        have y := (dm4 (i / 10).toNat (by omega)).1 (i % 10) (by omega) (by omega)
        rw [show (10 : Int) * (((i / 10).toNat : Nat) : Int) + i % 10 = i by omega] at x y
        rw [c5 51 i (by decide) (by decide), c5 52 i (by decide) (by decide), x.1, x.2, y.1, y.2]
        exact ⟨rfl, rfl⟩
      · rw [e31] at r1
        have x := (dc.2.2.2.2 m.toNat (by omega)).2 r r0 r1
        have y := (dm4 m.toNat (by omega)).2 r r0 r1
        rw [show (7 : Int) * ((m.toNat : Nat) : Int) + r = 7 * m + r by omega] at x y
        rw [show m * 7 + r = 7 * m + r by omega, c5 53 _ (by decide) (by decide), x, y]
      · rw [e30, e31] at hw
        have t := vWay_t hw
        rw [c5 54 _ (by decide) (by decide), dc.2.2.2.1.1.2.2.1 w hw, dm3.2.2.2.1 w (by omega) (by omega)]
      · rw [e30] at l1
        rw [c5 55 _ (by decide) (by decide), (dc.2.2.2.1.1.1 l l0' l1).2, (dm3.2.1 l l0' (by omega)).2]
      · rw [e31] at r1
        rw [c5 55 _ (by decide) (by decide)]
        exact (dc.2.2.2.1.1.2.1 r r0 r1).2
