/-! the relation between the two objects in one state: parts, each with where it reads -/
theorem rd_wr_n {σ : pS} {a i v x y : Int} (h : ¬ (x = a ∧ y = i)) : rd (wr σ a i v) x y = rd σ x y := by rw [rd_wr, if_neg h]
def same (σ τ : pS) (P : Int → Int → Prop) : Prop := ∀ a i : Int, P a i → rd τ a i = rd σ a i
theorem same.rf {σ : pS} {P : Int → Int → Prop} : same σ σ P := fun _ _ _ => rfl
theorem same.wr {σ τ : pS} {P : Int → Int → Prop} {a i v : Int} (h : same σ τ P) (hn : ∀ x y : Int, P x y → ¬ (x = a ∧ y = i)) : same σ (wr τ a i v) P := fun x y p => (rd_wr_n (hn x y p)).trans (h x y p)
theorem same.fl {σ τ : pS} {P : Int → Int → Prop} {a n v : Int} (h : same σ τ P) (hn : ∀ x y : Int, P x y → ¬ (x = a ∧ 0 ≤ y ∧ y < n)) : same σ (fl τ a n v) P := fun x y p => ((rd_fl τ a n v x y).trans (if_neg (hn x y p))).trans (h x y p)
theorem same.tr {σ τ υ : pS} {P : Int → Int → Prop} (h : same σ τ P) (h2 : same τ υ P) : same σ υ P := fun x y p => (h2 x y p).trans (h x y p)
theorem same.sub {σ τ : pS} {P R : Int → Int → Prop} (h : same σ τ R) (hn : ∀ x y : Int, P x y → R x y) : same σ τ P := fun x y p => h x y (hn x y p)
def RTap (σ : pS) : Prop := rd σ 0 1 = rd σ 68 1 ∧ 0 ≤ rd σ 68 1 ∧ rd σ 68 1 ≤ 1400 ∧ ∀ i : Int, 0 ≤ i → i < 1400 → rd σ 69 i = rd σ 1 i % 256 ∧ -128 ≤ rd σ 1 i ∧ rd σ 1 i < 128
def PTap (a i : Int) : Prop := (a = 0 ∧ i = 1) ∨ (a = 68 ∧ i = 1) ∨ a = 1 ∨ a = 69
theorem RTap.mv {σ τ : pS} (h : RTap σ) (s : same σ τ PTap) : RTap τ := by
  have e0 : rd τ 0 1 = rd σ 0 1 := s _ _ (by unfold PTap; omega)
  have e1 : rd τ 68 1 = rd σ 68 1 := s _ _ (by unfold PTap; omega)
  have a0 : ∀ i, rd τ 1 i = rd σ 1 i := fun i => s _ _ (by unfold PTap; omega)
  have a1 : ∀ i, rd τ 69 i = rd σ 69 i := fun i => s _ _ (by unfold PTap; omega)
  unfold RTap at *
  simp only [e0, e1, a0, a1]
  exact h
def RFau (σ : pS) : Prop := rd σ 0 3 = rd σ 68 2 ∧ rd σ 0 4 = rd σ 68 3
def PFau (a i : Int) : Prop := (a = 0 ∧ i = 3) ∨ (a = 0 ∧ i = 4) ∨ (a = 68 ∧ i = 2) ∨ (a = 68 ∧ i = 3)
theorem RFau.mv {σ τ : pS} (h : RFau σ) (s : same σ τ PFau) : RFau τ := by
  have e0 : rd τ 0 3 = rd σ 0 3 := s _ _ (by unfold PFau; omega)
  have e1 : rd τ 0 4 = rd σ 0 4 := s _ _ (by unfold PFau; omega)
  have e2 : rd τ 68 2 = rd σ 68 2 := s _ _ (by unfold PFau; omega)
  have e3 : rd τ 68 3 = rd σ 68 3 := s _ _ (by unfold PFau; omega)
  unfold RFau at *
  simp only [e0, e1, e2, e3]
  exact h
def RClk (n : Nat) (σ : pS) : Prop := rd σ 0 5 = rd σ 68 52 ∧ 0 ≤ rd σ 68 52 ∧ rd σ 68 52 ≤ 100000 ∧ 0 ≤ rd σ 0 6 ∧ rd σ 0 6 ≤ n ∧ (n : Int) ≤ 512
def PClk (a i : Int) : Prop := (a = 0 ∧ i = 5) ∨ (a = 0 ∧ i = 6) ∨ (a = 68 ∧ i = 52)
theorem RClk.mv {σ τ : pS} {n : Nat} (h : RClk n σ) (s : same σ τ PClk) : RClk n τ := by
  have e0 : rd τ 0 5 = rd σ 0 5 := s _ _ (by unfold PClk; omega)
  have e1 : rd τ 0 6 = rd σ 0 6 := s _ _ (by unfold PClk; omega)
  have e2 : rd τ 68 52 = rd σ 68 52 := s _ _ (by unfold PClk; omega)
  unfold RClk at *
  simp only [e0, e1, e2]
  exact h
def RWin (σ : pS) : Prop := rd σ 23 5 = rd σ 68 51 ∧ 0 ≤ rd σ 68 51 ∧ rd σ 68 51 ≤ 60 ∧ ∀ j : Int, 0 ≤ j → j < rd σ 68 51 → rd σ 24 j = rd σ 99 j ∧ 0 ≤ rd σ 99 j ∧ rd σ 99 j ≤ 100000 ∧ rd σ 25 j = rd σ 100 j ∧ -1 ≤ rd σ 100 j ∧ rd σ 100 j ≤ 100000 ∧ rd σ 26 j = rd σ 96 j ∧ 0 ≤ rd σ 96 j ∧ rd σ 96 j < 8 ∧ rd σ 27 j = rd σ 97 j ∧ 0 ≤ rd σ 97 j ∧ rd σ 97 j < 100 ∧ rd σ 28 j = rd σ 98 j ∧ 0 ≤ rd σ 98 j ∧ rd σ 98 j < 41
def PWin (a i : Int) : Prop := (a = 23 ∧ i = 5) ∨ (a = 68 ∧ i = 51) ∨ a = 24 ∨ a = 25 ∨ a = 26 ∨ a = 27 ∨ a = 28 ∨ a = 96 ∨ a = 97 ∨ a = 98 ∨ a = 99 ∨ a = 100
theorem RWin.mv {σ τ : pS} (h : RWin σ) (s : same σ τ PWin) : RWin τ := by
  have e0 : rd τ 23 5 = rd σ 23 5 := s _ _ (by unfold PWin; omega)
  have e1 : rd τ 68 51 = rd σ 68 51 := s _ _ (by unfold PWin; omega)
  have a0 : ∀ i, rd τ 24 i = rd σ 24 i := fun i => s _ _ (by unfold PWin; omega)
  have a1 : ∀ i, rd τ 25 i = rd σ 25 i := fun i => s _ _ (by unfold PWin; omega)
  have a2 : ∀ i, rd τ 26 i = rd σ 26 i := fun i => s _ _ (by unfold PWin; omega)
  have a3 : ∀ i, rd τ 27 i = rd σ 27 i := fun i => s _ _ (by unfold PWin; omega)
  have a4 : ∀ i, rd τ 28 i = rd σ 28 i := fun i => s _ _ (by unfold PWin; omega)
  have a5 : ∀ i, rd τ 96 i = rd σ 96 i := fun i => s _ _ (by unfold PWin; omega)
  have a6 : ∀ i, rd τ 97 i = rd σ 97 i := fun i => s _ _ (by unfold PWin; omega)
  have a7 : ∀ i, rd τ 98 i = rd σ 98 i := fun i => s _ _ (by unfold PWin; omega)
  have a8 : ∀ i, rd τ 99 i = rd σ 99 i := fun i => s _ _ (by unfold PWin; omega)
  have a9 : ∀ i, rd τ 100 i = rd σ 100 i := fun i => s _ _ (by unfold PWin; omega)
  unfold RWin at *
  simp only [e0, e1, a0, a1, a2, a3, a4, a5, a6, a7, a8, a9]
  exact h
def RPas (σ : pS) : Prop := rd σ 29 5 = rd σ 68 65 ∧ 0 ≤ rd σ 68 65 ∧ rd σ 68 65 ≤ 100 ∧ ∀ j : Int, 0 ≤ j → j < rd σ 68 65 → rd σ 30 j = rd σ 111 j ∧ 0 ≤ rd σ 111 j ∧ rd σ 111 j ≤ 100000 ∧ rd σ 31 j = rd σ 112 j ∧ -1 ≤ rd σ 112 j ∧ rd σ 112 j ≤ 100000 ∧ rd σ 32 j = rd σ 108 j ∧ 0 ≤ rd σ 108 j ∧ rd σ 108 j < 8 ∧ rd σ 33 j = rd σ 109 j ∧ 0 ≤ rd σ 109 j ∧ rd σ 109 j < rd σ 68 30 ∧ rd σ 84 (rd σ 109 j) = 1 ∧ rd σ 34 j = rd σ 110 j ∧ 0 ≤ rd σ 110 j ∧ rd σ 110 j < 480
def PPas (a i : Int) : Prop := (a = 29 ∧ i = 5) ∨ (a = 68 ∧ i = 30) ∨ (a = 68 ∧ i = 65) ∨ a = 30 ∨ a = 31 ∨ a = 32 ∨ a = 33 ∨ a = 34 ∨ a = 84 ∨ a = 108 ∨ a = 109 ∨ a = 110 ∨ a = 111 ∨ a = 112
theorem RPas.mv {σ τ : pS} (h : RPas σ) (s : same σ τ PPas) : RPas τ := by
  have e0 : rd τ 29 5 = rd σ 29 5 := s _ _ (by unfold PPas; omega)
  have e1 : rd τ 68 30 = rd σ 68 30 := s _ _ (by unfold PPas; omega)
  have e2 : rd τ 68 65 = rd σ 68 65 := s _ _ (by unfold PPas; omega)
  have a0 : ∀ i, rd τ 30 i = rd σ 30 i := fun i => s _ _ (by unfold PPas; omega)
  have a1 : ∀ i, rd τ 31 i = rd σ 31 i := fun i => s _ _ (by unfold PPas; omega)
  have a2 : ∀ i, rd τ 32 i = rd σ 32 i := fun i => s _ _ (by unfold PPas; omega)
  have a3 : ∀ i, rd τ 33 i = rd σ 33 i := fun i => s _ _ (by unfold PPas; omega)
  have a4 : ∀ i, rd τ 34 i = rd σ 34 i := fun i => s _ _ (by unfold PPas; omega)
  have a5 : ∀ i, rd τ 84 i = rd σ 84 i := fun i => s _ _ (by unfold PPas; omega)
  have a6 : ∀ i, rd τ 108 i = rd σ 108 i := fun i => s _ _ (by unfold PPas; omega)
  have a7 : ∀ i, rd τ 109 i = rd σ 109 i := fun i => s _ _ (by unfold PPas; omega)
  have a8 : ∀ i, rd τ 110 i = rd σ 110 i := fun i => s _ _ (by unfold PPas; omega)
  have a9 : ∀ i, rd τ 111 i = rd σ 111 i := fun i => s _ _ (by unfold PPas; omega)
  have a10 : ∀ i, rd τ 112 i = rd σ 112 i := fun i => s _ _ (by unfold PPas; omega)
  unfold RPas at *
  simp only [e0, e1, e2, a0, a1, a2, a3, a4, a5, a6, a7, a8, a9, a10]
  exact h
def RCro (σ : pS) : Prop := rd σ 44 2 = rd σ 68 77 ∧ 0 ≤ rd σ 68 77 ∧ rd σ 68 77 ≤ 20 ∧ (∀ j : Int, 0 ≤ j → j < rd σ 68 77 → rd σ 45 j = rd σ 118 j ∧ 0 ≤ rd σ 118 j ∧ rd σ 118 j < 480 ∧ rd σ 46 j = rd σ 119 j ∧ 1 ≤ rd σ 119 j ∧ rd σ 119 j ≤ 500) ∧ (∀ p : Int, 0 ≤ p → p < 10 → rd σ 48 p = rd σ 121 p ∧ 0 ≤ rd σ 121 p ∧ rd σ 121 p ≤ 6 ∧ ∀ j : Int, 0 ≤ j → j < rd σ 121 p → rd σ 47 (p * 6 + j) = vOuter (rd σ 120 (6 * p + j)) ∧ vWay (rd σ 68 30) (rd σ 68 31) (rd σ 120 (6 * p + j)) = true ∧ rd σ 77 (rd σ 120 (6 * p + j)) = p) ∧ ∀ r : Int, 0 ≤ r → r < 7 → rd σ 49 r = rd σ 123 r ∧ 0 ≤ rd σ 123 r ∧ rd σ 123 r ≤ 20
def PCro (a i : Int) : Prop := (a = 44 ∧ i = 2) ∨ (a = 68 ∧ i = 30) ∨ (a = 68 ∧ i = 31) ∨ (a = 68 ∧ i = 77) ∨ a = 45 ∨ a = 46 ∨ a = 47 ∨ a = 48 ∨ a = 49 ∨ a = 77 ∨ a = 118 ∨ a = 119 ∨ a = 120 ∨ a = 121 ∨ a = 123
theorem RCro.mv {σ τ : pS} (h : RCro σ) (s : same σ τ PCro) : RCro τ := by
  have e0 : rd τ 44 2 = rd σ 44 2 := s _ _ (by unfold PCro; omega)
  have e1 : rd τ 68 30 = rd σ 68 30 := s _ _ (by unfold PCro; omega)
  have e2 : rd τ 68 31 = rd σ 68 31 := s _ _ (by unfold PCro; omega)
  have e3 : rd τ 68 77 = rd σ 68 77 := s _ _ (by unfold PCro; omega)
  have a0 : ∀ i, rd τ 45 i = rd σ 45 i := fun i => s _ _ (by unfold PCro; omega)
  have a1 : ∀ i, rd τ 46 i = rd σ 46 i := fun i => s _ _ (by unfold PCro; omega)
  have a2 : ∀ i, rd τ 47 i = rd σ 47 i := fun i => s _ _ (by unfold PCro; omega)
  have a3 : ∀ i, rd τ 48 i = rd σ 48 i := fun i => s _ _ (by unfold PCro; omega)
  have a4 : ∀ i, rd τ 49 i = rd σ 49 i := fun i => s _ _ (by unfold PCro; omega)
  have a5 : ∀ i, rd τ 77 i = rd σ 77 i := fun i => s _ _ (by unfold PCro; omega)
  have a6 : ∀ i, rd τ 118 i = rd σ 118 i := fun i => s _ _ (by unfold PCro; omega)
  have a7 : ∀ i, rd τ 119 i = rd σ 119 i := fun i => s _ _ (by unfold PCro; omega)
  have a8 : ∀ i, rd τ 120 i = rd σ 120 i := fun i => s _ _ (by unfold PCro; omega)
  have a9 : ∀ i, rd τ 121 i = rd σ 121 i := fun i => s _ _ (by unfold PCro; omega)
  have a10 : ∀ i, rd τ 123 i = rd σ 123 i := fun i => s _ _ (by unfold PCro; omega)
  unfold RCro at *
  simp only [e0, e1, e2, e3, a0, a1, a2, a3, a4, a5, a6, a7, a8, a9, a10]
  exact h
def RDay (σ : pS) : Prop := rd σ 50 2 = rd σ 68 78 ∧ (rd σ 68 78 = 0 ∨ rd σ 68 78 = 1) ∧ (rd σ 68 78 = 1 → (∀ i : Int, 0 ≤ i → i < 4800 → rd σ 51 i = rd σ 130 i ∧ rd σ 52 i = rd σ 131 i) ∧ (∀ m r : Int, 0 ≤ m → m < 480 → 0 ≤ r → r < rd σ 68 31 → rd σ 53 (m * 7 + r) = rd σ 132 (7 * m + r)) ∧ (∀ w : Int, vWay (rd σ 68 30) (rd σ 68 31) w = true → rd σ 54 (vOuter w) = rd σ 128 w) ∧ (∀ l : Int, 0 ≤ l → l < rd σ 68 30 → rd σ 55 l = rd σ 129 l) ∧ ∀ r : Int, 0 ≤ r → r < rd σ 68 31 → rd σ 55 (10 + r) = 0)
def PDay (a i : Int) : Prop := (a = 50 ∧ i = 2) ∨ (a = 68 ∧ i = 30) ∨ (a = 68 ∧ i = 31) ∨ (a = 68 ∧ i = 78) ∨ a = 51 ∨ a = 52 ∨ a = 53 ∨ a = 54 ∨ a = 55 ∨ a = 128 ∨ a = 129 ∨ a = 130 ∨ a = 131 ∨ a = 132
theorem RDay.mv {σ τ : pS} (h : RDay σ) (s : same σ τ PDay) : RDay τ := by
  have e0 : rd τ 50 2 = rd σ 50 2 := s _ _ (by unfold PDay; omega)
  have e1 : rd τ 68 30 = rd σ 68 30 := s _ _ (by unfold PDay; omega)
  have e2 : rd τ 68 31 = rd σ 68 31 := s _ _ (by unfold PDay; omega)
  have e3 : rd τ 68 78 = rd σ 68 78 := s _ _ (by unfold PDay; omega)
  have a0 : ∀ i, rd τ 51 i = rd σ 51 i := fun i => s _ _ (by unfold PDay; omega)
  have a1 : ∀ i, rd τ 52 i = rd σ 52 i := fun i => s _ _ (by unfold PDay; omega)
  have a2 : ∀ i, rd τ 53 i = rd σ 53 i := fun i => s _ _ (by unfold PDay; omega)
  have a3 : ∀ i, rd τ 54 i = rd σ 54 i := fun i => s _ _ (by unfold PDay; omega)
  have a4 : ∀ i, rd τ 55 i = rd σ 55 i := fun i => s _ _ (by unfold PDay; omega)
  have a5 : ∀ i, rd τ 128 i = rd σ 128 i := fun i => s _ _ (by unfold PDay; omega)
  have a6 : ∀ i, rd τ 129 i = rd σ 129 i := fun i => s _ _ (by unfold PDay; omega)
  have a7 : ∀ i, rd τ 130 i = rd σ 130 i := fun i => s _ _ (by unfold PDay; omega)
  have a8 : ∀ i, rd τ 131 i = rd σ 131 i := fun i => s _ _ (by unfold PDay; omega)
  have a9 : ∀ i, rd τ 132 i = rd σ 132 i := fun i => s _ _ (by unfold PDay; omega)
  unfold RDay at *
  simp only [e0, e1, e2, e3, a0, a1, a2, a3, a4, a5, a6, a7, a8, a9]
  exact h
def RSlo (σ : pS) : Prop := (rd σ 0 7 = 6 ∨ 141 ≤ rd σ 0 7) ∧ Inst6 σ (rd σ 0 7) ∧ rd σ (rd σ 0 7) 0 = rd σ 68 30 ∧ (0 ≤ rd σ 68 30 ∧ rd σ 68 30 ≤ 6) ∧ rd σ (rd σ 0 7) 1 = rd σ 68 31 ∧ (0 ≤ rd σ 68 31 ∧ rd σ 68 31 ≤ 7) ∧ rd σ (rd σ 0 7) 2 = rd σ 68 33 ∧ rd σ (rd σ 0 7) 3 = rd σ 68 32 ∧ (0 ≤ rd σ 68 32 ∧ rd σ 68 32 < 10) ∧ (∀ w : Int, vWay (rd σ 68 30) (rd σ 68 31) w = true → rd σ (rd σ 0 7 + 2) (vOuter w) = rd σ 77 w ∧ 0 ≤ rd σ 77 w ∧ rd σ 77 w < 10 ∧ rd σ (rd σ 0 7 + 3) (vOuter w) = rd σ 78 w ∧ 0 ≤ rd σ 78 w ∧ rd σ 78 w < 10 ∧ rd σ (rd σ 0 7 + 4) (vOuter w) = rd σ 79 w ∧ 1 ≤ rd σ 79 w ∧ rd σ 79 w ≤ 60) ∧ (∀ l : Int, 0 ≤ l → l < rd σ 68 30 → rd σ (rd σ 0 7 + 5) l = rd σ 80 l ∧ 1 ≤ rd σ 80 l ∧ rd σ 80 l ≤ 99 ∧ rd σ (rd σ 0 7 + 6) l = rd σ 81 l ∧ 0 ≤ rd σ 81 l ∧ rd σ (rd σ 0 7 + 7) l = rd σ 82 l ∧ rd σ 81 l < rd σ 82 l ∧ rd σ 82 l ≤ 480 ∧ rd σ (rd σ 0 7 + 8) l = rd σ 84 l ∧ rd σ (rd σ 0 7 + 9) l = 0) ∧ (∀ r : Int, 0 ≤ r → r < rd σ 68 31 → rd σ (rd σ 0 7 + 9) (10 + r) = rd σ 80 (6 + r) ∧ 0 ≤ rd σ 80 (6 + r) ∧ rd σ 80 (6 + r) ≤ 3 ∧ rd σ (rd σ 0 7 + 10) (10 + r) = rd σ 81 (6 + r) ∧ 0 ≤ rd σ 81 (6 + r) ∧ rd σ 81 (6 + r) ≤ 300 ∧ rd σ (rd σ 0 7 + 6) (10 + r) = 0 ∧ rd σ (rd σ 0 7 + 7) (10 + r) = 480 ∧ rd σ (rd σ 0 7 + 8) (10 + r) = 0) ∧ ∀ w : Int, 0 ≤ w → w < 17 → 0 ≤ rd σ (rd σ 0 7 + 2) w ∧ rd σ (rd σ 0 7 + 2) w < 10 ∧ 0 ≤ rd σ (rd σ 0 7 + 3) w ∧ rd σ (rd σ 0 7 + 3) w < 10 ∧ 0 ≤ rd σ (rd σ 0 7 + 4) w ∧ rd σ (rd σ 0 7 + 4) w ≤ 60 ∧ 0 ≤ rd σ (rd σ 0 7 + 6) w ∧ rd σ (rd σ 0 7 + 6) w ≤ 480 ∧ 0 ≤ rd σ (rd σ 0 7 + 7) w ∧ rd σ (rd σ 0 7 + 7) w ≤ 480 ∧ (rd σ (rd σ 0 7 + 8) w = 0 ∨ rd σ (rd σ 0 7 + 8) w = 1) ∧ 0 ≤ rd σ (rd σ 0 7 + 9) w ∧ rd σ (rd σ 0 7 + 9) w ≤ 3
def PSlo (σ : pS) (a i : Int) : Prop := (a = 0 ∧ i = 7) ∨ (a = 68 ∧ (i = 30 ∨ i = 31 ∨ i = 32 ∨ i = 33)) ∨ (rd σ 0 7 ≤ a ∧ a ≤ rd σ 0 7 + 10 ∧ (rd σ 0 7 = 6 ∨ 141 ≤ rd σ 0 7)) ∨ a = 77 ∨ a = 78 ∨ a = 79 ∨ a = 80 ∨ a = 81 ∨ a = 82 ∨ a = 84
theorem RSlo.mv {σ τ : pS} (h : RSlo σ) (l : pLe σ τ) (s : same σ τ (PSlo σ)) : RSlo τ := by
  have hs := h.1
  have b : rd τ 0 7 = rd σ 0 7 := s _ _ (by unfold PSlo; omega)
  have hi : Inst6 τ (rd σ 0 7) := Inst6.le h.2.1 l
  have e0 : rd τ 68 30 = rd σ 68 30 := s _ _ (by unfold PSlo; omega)
  have e1 : rd τ 68 31 = rd σ 68 31 := s _ _ (by unfold PSlo; omega)
  have e2 : rd τ 68 32 = rd σ 68 32 := s _ _ (by unfold PSlo; omega)
  have e3 : rd τ 68 33 = rd σ 68 33 := s _ _ (by unfold PSlo; omega)
  have a0 : ∀ i, rd τ 77 i = rd σ 77 i := fun i => s _ _ (by unfold PSlo; omega)
  have a1 : ∀ i, rd τ 78 i = rd σ 78 i := fun i => s _ _ (by unfold PSlo; omega)
  have a2 : ∀ i, rd τ 79 i = rd σ 79 i := fun i => s _ _ (by unfold PSlo; omega)
  have a3 : ∀ i, rd τ 80 i = rd σ 80 i := fun i => s _ _ (by unfold PSlo; omega)
  have a4 : ∀ i, rd τ 81 i = rd σ 81 i := fun i => s _ _ (by unfold PSlo; omega)
  have a5 : ∀ i, rd τ 82 i = rd σ 82 i := fun i => s _ _ (by unfold PSlo; omega)
  have a6 : ∀ i, rd τ 84 i = rd σ 84 i := fun i => s _ _ (by unfold PSlo; omega)
  have s0 : ∀ i, rd τ (rd σ 0 7) i = rd σ (rd σ 0 7) i := fun i => s _ _ (by unfold PSlo; omega)
  have s1 : ∀ i, rd τ (rd σ 0 7 + 1) i = rd σ (rd σ 0 7 + 1) i := fun i => s _ _ (by unfold PSlo; omega)
  have s2 : ∀ i, rd τ (rd σ 0 7 + 2) i = rd σ (rd σ 0 7 + 2) i := fun i => s _ _ (by unfold PSlo; omega)
  have s3 : ∀ i, rd τ (rd σ 0 7 + 3) i = rd σ (rd σ 0 7 + 3) i := fun i => s _ _ (by unfold PSlo; omega)
  have s4 : ∀ i, rd τ (rd σ 0 7 + 4) i = rd σ (rd σ 0 7 + 4) i := fun i => s _ _ (by unfold PSlo; omega)
  have s5 : ∀ i, rd τ (rd σ 0 7 + 5) i = rd σ (rd σ 0 7 + 5) i := fun i => s _ _ (by unfold PSlo; omega)
  have s6 : ∀ i, rd τ (rd σ 0 7 + 6) i = rd σ (rd σ 0 7 + 6) i := fun i => s _ _ (by unfold PSlo; omega)
  have s7 : ∀ i, rd τ (rd σ 0 7 + 7) i = rd σ (rd σ 0 7 + 7) i := fun i => s _ _ (by unfold PSlo; omega)
  have s8 : ∀ i, rd τ (rd σ 0 7 + 8) i = rd σ (rd σ 0 7 + 8) i := fun i => s _ _ (by unfold PSlo; omega)
  have s9 : ∀ i, rd τ (rd σ 0 7 + 9) i = rd σ (rd σ 0 7 + 9) i := fun i => s _ _ (by unfold PSlo; omega)
  have s10 : ∀ i, rd τ (rd σ 0 7 + 10) i = rd σ (rd σ 0 7 + 10) i := fun i => s _ _ (by unfold PSlo; omega)
  unfold RSlo
  rw [b]
  simp only [e0, e1, e2, e3, a0, a1, a2, a3, a4, a5, a6, s0, s1, s2, s3, s4, s5, s6, s7, s8, s9, s10]
  exact ⟨h.1, hi, h.2.2⟩
def RSki (σ : pS) : Prop := rd σ 0 14 = rd σ 68 64 ∧ 0 ≤ rd σ 68 64 ∧ rd σ 68 64 ≤ 8 ∧ (∀ j : Int, 0 ≤ j → j < rd σ 68 64 → 141 ≤ rd σ 43 j ∧ Inst5 σ (rd σ 43 j) ∧ rd σ (rd σ 43 j) 0 = rd σ 107 j ∧ 0 ≤ rd σ 107 j ∧ rd σ 107 j < 4) ∧ ∀ i j : Int, 0 ≤ i → i < j → j < rd σ 68 64 → rd σ 43 i ≠ rd σ 43 j
def PSki (a i : Int) : Prop := (a = 0 ∧ i = 14) ∨ (a = 68 ∧ i = 64) ∨ a = 43 ∨ a = 107
theorem RSki.mv {σ τ : pS} (h : RSki σ) (l : pLe σ τ) (s : same σ τ PSki) (k : ∀ j : Int, 0 ≤ j → j < rd σ 68 64 → 141 ≤ rd σ 43 j → rd τ (rd σ 43 j) 0 = rd σ (rd σ 43 j) 0) : RSki τ := by
  have e0 : rd τ 0 14 = rd σ 0 14 := s _ _ (by unfold PSki; omega)
  have e1 : rd τ 68 64 = rd σ 68 64 := s _ _ (by unfold PSki; omega)
  have a0 : ∀ i, rd τ 43 i = rd σ 43 i := fun i => s _ _ (by unfold PSki; omega)
  have a1 : ∀ i, rd τ 107 i = rd σ 107 i := fun i => s _ _ (by unfold PSki; omega)
  unfold RSki
  simp only [e0, e1, a0, a1]
  refine ⟨h.1, h.2.1, h.2.2.1, fun j h0 h1 => ?_, h.2.2.2.2⟩
  obtain ⟨c1, c2, c3⟩ := h.2.2.2.1 j h0 h1
  rw [k j h0 h1 c1]
  exact ⟨c1, Inst5.le c2 l, c3⟩
def RSz (n : Nat) (σ : pS) : Prop := σ.1.length ≤ 200 + 20 * n ∧ pSz σ ≤ 100000 + 14000 * n
