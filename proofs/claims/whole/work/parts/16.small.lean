/-! contracts: small functions -/
theorem b2i_one {P : Prop} [Decidable P] (h : P) : some ((0 : Nat), (1 : Int)) = some (0, b2i (decide P)) := by rw [decide_eq_true h]; rfl
theorem b2i_zero {P : Prop} [Decidable P] (h : ¬ P) : some ((0 : Nat), (0 : Int)) = some (0, b2i (decide P)) := by rw [decide_eq_false h]; rfl
theorem vWithin_t {n b : Int} (h : vWithin n b = true) : 0 ≤ n ∧ n < b := by simpa [vWithin] using h
theorem vWithin_f {n b : Int} (h : vWithin n b = false) : n < 0 ∨ b ≤ n := by simp [vWithin] at h; omega
theorem within_C {d : Nat} {σ : pS} (hst : Stat σ) {n b : Int} (hn : inR n) (hb : inR b) : pC mX10_within d [(0, n), (0, b)] σ (fun r τ => r = some (0, b2i (vWithin n b)) ∧ τ = σ) := by
  refine g_X10_within_0 (Nat.zero_le d) hst n b hn ?_ ?_ ?_ ?_
  all_goals first | (intros; omega) | (intros; refine ⟨?_, rfl⟩; unfold vWithin; first | exact b2i_one (by omega) | exact b2i_zero (by omega))
theorem hourOf_CX {d : Nat} {σ : pS} (hst : Stat σ) {m : Int} (hm : 0 ≤ m ∧ m < 2147483648) : pC mX10_hourOf d [(0, m)] σ (fun r τ => r = some (0, vHour m) ∧ τ = σ) := by
  refine g_X10_hourOf_0 (Nat.zero_le d) hst m (by omega) (fun c => ⟨?_, rfl⟩) (fun _ => hm) (fun c => ⟨?_, rfl⟩)
  · unfold vHour; rw [if_neg (by omega)]
  · unfold vHour; rw [if_pos (by omega)]
theorem hourOf_CM {d : Nat} {σ : pS} (hst : Stat σ) {m : Int} (hm : 0 ≤ m ∧ m < 2147483648) : pC mX11_hourOf d [(0, m)] σ (fun r τ => r = some (0, vHour m) ∧ τ = σ) := by
  refine g_X11_hourOf_0 (Nat.zero_le d) hst m hm (by omega) (fun c => ⟨?_, rfl⟩) (fun c => ⟨?_, rfl⟩)
  · unfold vHour
    by_cases h : m < 480
    · rw [if_pos h]
    · rw [if_neg h, show m / 60 = 7 by omega]
  · unfold vHour; rw [if_neg (by omega)]
theorem vHour_R {m : Int} (h : 0 ≤ m) : 0 ≤ vHour m ∧ vHour m < 8 := by unfold vHour; split <;> omega
theorem isWay_C {d : Nat} {σ : pS} (hst : Stat σ) {w : Int} (hw : inR w) (hl : 0 ≤ rd σ 68 30 ∧ rd σ 68 30 ≤ 6) (hr : 0 ≤ rd σ 68 31 ∧ rd σ 68 31 ≤ 7) : pC mX11_isWay d [(2, 68), (0, w)] σ (fun r τ => r = some (0, b2i (vWay (rd σ 68 30) (rd σ 68 31) w)) ∧ τ = σ) := by
  refine g_X11_isWay_0 (Nat.zero_le d) hst w hw ?_ ?_ ?_ ?_ ?_ ?_ ?_ ?_ ?_ ?_
  all_goals first | (intros; omega) | (intros; refine ⟨?_, rfl⟩; unfold vWay; first | exact b2i_one (by omega) | exact b2i_zero (by omega))
theorem vWay_t {a b w : Int} (h : vWay a b w = true) : (0 ≤ w ∧ w < a) ∨ (6 ≤ w ∧ w < 6 + b) := by simpa [vWay] using h
theorem vWay_f {a b w : Int} (h : vWay a b w = false) : ¬ ((0 ≤ w ∧ w < a) ∨ (6 ≤ w ∧ w < 6 + b)) := by simpa [vWay] using h
theorem vWay_neg {a b : Int} : vWay a b (-1) = false := by simp [vWay]
theorem wayOf_C {d : Nat} {σ : pS} (hd : 1 ≤ d) (hst : Stat σ) {w : Int} (hw : inR w) (hl : 0 ≤ rd σ 68 30 ∧ rd σ 68 30 ≤ 6) (hr : 0 ≤ rd σ 68 31 ∧ rd σ 68 31 ≤ 7) : pC mX11_wayOf d [(2, 68), (0, w)] σ (fun r τ => r = some (0, vWayOf (rd σ 68 30) (rd σ 68 31) w) ∧ τ = σ) := by
  have kt : ∀ v : Int, vWay (rd σ 68 30) (rd σ 68 31) v = true → v = vIn w → some ((0 : Nat), v) = some (0, vWayOf (rd σ 68 30) (rd σ 68 31) w) := by
    intro v h hv
    subst hv
    unfold vWayOf
    rw [if_pos h]
  have kf : ∀ v : Int, vWay (rd σ 68 30) (rd σ 68 31) v = false → v = vIn w → some ((0 : Nat), (-1 : Int)) = some (0, vWayOf (rd σ 68 30) (rd σ 68 31) w) := by
    intro v h hv
    subst hv
    unfold vWayOf
    rw [if_neg (by rw [h]; decide)]
  refine g_X11_wayOf_0 hd hst w hw ?_ ?_ ?_ ?_ ?_ ?_ ?_ ?_ ?_ ?_ ?_ ?_ ?_ ?_ ?_ ?_ ?_ ?_ ?_ ?_ ?_
  all_goals first
    | (intros; exact isWay_C hst (by omega) hl hr)
    | (intros; exact ⟨kf _ (by assumption) (by unfold vIn; repeat' split <;> omega), rfl⟩)
    | (intros; exact ⟨kt _ (by assumption) (by unfold vIn; repeat' split <;> omega), rfl⟩)
theorem outer_C {d : Nat} {σ : pS} (hst : Stat σ) {w : Int} (hw : inR w) : pC mX11_outer d [(0, w)] σ (fun r τ => r = some (0, vOuter w) ∧ τ = σ) := by
  refine g_X11_outer_0 (Nat.zero_le d) hst w hw (fun c => ⟨?_, rfl⟩) (fun c => ⟨?_, rfl⟩)
  · unfold vOuter; rw [if_neg (by omega), show 10 + w - 6 = w + 4 by omega]
  · unfold vOuter; rw [if_pos c]
theorem isPlace_C {d : Nat} {σ : pS} (hst : Stat σ) {w : Int} (hw : inR w) : pC mX11_isPlace d [(0, w)] σ (fun r τ => r = some (0, b2i (vWithin w 10)) ∧ τ = σ) := by
  refine g_X11_isPlace_0 (Nat.zero_le d) hst w hw ?_ ?_ ?_
  all_goals (intros; refine ⟨?_, rfl⟩; unfold vWithin; first | exact b2i_one (by omega) | exact b2i_zero (by omega))
theorem isSkill_C {d : Nat} {σ : pS} (hst : Stat σ) {w : Int} (hw : inR w) : pC mX11_isSkill d [(0, w)] σ (fun r τ => r = some (0, b2i (vWithin w 4)) ∧ τ = σ) := by
  refine g_X11_isSkill_0 (Nat.zero_le d) hst w hw ?_ ?_ ?_
  all_goals (intros; refine ⟨?_, rfl⟩; unfold vWithin; first | exact b2i_one (by omega) | exact b2i_zero (by omega))
theorem isMinute_C {d : Nat} {σ : pS} (hst : Stat σ) {w : Int} (hw : inR w) : pC mX11_isMinute d [(0, w)] σ (fun r τ => r = some (0, b2i (vWithin w 541)) ∧ τ = σ) := by
  refine g_X11_isMinute_0 (Nat.zero_le d) hst w hw ?_ ?_ ?_
  all_goals (intros; refine ⟨?_, rfl⟩; unfold vWithin; first | exact b2i_one (by omega) | exact b2i_zero (by omega))
theorem isSkier_C {d : Nat} {σ : pS} (hst : Stat σ) {w : Int} (hw : inR w) (hk : inR (rd σ 68 64)) : pC mX11_isSkier d [(2, 68), (0, w)] σ (fun r τ => r = some (0, b2i (vWithin w (rd σ 68 64))) ∧ τ = σ) := by
  refine g_X11_isSkier_0 (Nat.zero_le d) hst w hw ?_ ?_ ?_ ?_
  all_goals first | (intros; omega) | (intros; refine ⟨?_, rfl⟩; unfold vWithin; first | exact b2i_one (by omega) | exact b2i_zero (by omega))
theorem isDayMinute_C {d : Nat} {σ : pS} (hst : Stat σ) {w : Int} (hw : inR w) (hk : inR (rd σ 68 78)) : pC mX11_isDayMinute d [(2, 68), (0, w)] σ (fun r τ => r = some (0, b2i (vDayMin (rd σ 68 78) w)) ∧ τ = σ) := by
  refine g_X11_isDayMinute_0 (Nat.zero_le d) hst w hk ?_ ?_ ?_ ?_ ?_
  all_goals first | (intros; omega) | (intros; refine ⟨?_, rfl⟩; unfold vDayMin; first | exact b2i_one (by omega) | exact b2i_zero (by omega))
theorem counts_CM {d : Nat} {σ : pS} (hst : Stat σ) {t u k : Int} (ht : inR t) (hu : inR u) (hk : inR k) : pC mX11_counts d [(0, t), (0, u), (0, k)] σ (fun r τ => r = some (0, b2i (vCounts t u k)) ∧ τ = σ) := by
  refine g_X11_counts_0 (Nat.zero_le d) hst t u k ht hk ?_ ?_ ?_ ?_ ?_
  all_goals first | (intros; omega) | (intros; refine ⟨?_, rfl⟩; unfold vCounts; first | exact b2i_one (by omega) | exact b2i_zero (by omega))
theorem has_C {d : Nat} {σ : pS} (hd : 1 ≤ d) (hst : Stat σ) {a w : Int} (hI : Inst6 σ a) (hw : inR w) (hl : 0 ≤ rd σ a 0 ∧ rd σ a 0 ≤ 6) (hr : 0 ≤ rd σ a 1 ∧ rd σ a 1 ≤ 7) : pC mX6_has d [(2, a), (0, w)] σ (fun r τ => r = some (0, b2i (vHas (rd σ a 0) (rd σ a 1) w)) ∧ τ = σ) := by
  refine g_X6_has_0 hd hst a w hI (within_C hst hw (by omega)) (fun c => ⟨?_, rfl⟩) (fun _ => hw) (fun c c2 => ⟨?_, rfl⟩) (by omega) (fun c c2 c3 => ⟨?_, rfl⟩) (fun c c2 c3 => ⟨?_, rfl⟩)
  · have := vWithin_t c; unfold vHas; exact b2i_one (by omega)
  · have := vWithin_f c; unfold vHas; exact b2i_zero (by omega)
  · have := vWithin_f c; unfold vHas; exact b2i_zero (by omega)
  · unfold vHas; exact b2i_one (by omega)
theorem vHas_t {a b w : Int} (h : vHas a b w = true) : (0 ≤ w ∧ w < a) ∨ (10 ≤ w ∧ w < 10 + b) := by simpa [vHas] using h
theorem vHas_f {a b w : Int} (h : vHas a b w = false) : ¬ ((0 ≤ w ∧ w < a) ∨ (10 ≤ w ∧ w < 10 + b)) := by simpa [vHas] using h
theorem canAsk_C {d : Nat} {σ : pS} (hd : 1 ≤ d) (hst : Stat σ) {a b m t : Int} (ha : inR a) (hb : inR b) (hm : inR m) (ht : inR t) : pC mX10_canAsk d [(2, 0), (0, a), (0, b), (0, m), (0, t)] σ (fun r τ => r = some (0, b2i (vAsk a b m t)) ∧ τ = σ) := by
  refine g_X10_canAsk_0 hd hst a b m t (within_C hst ha (by omega)) (fun c => ⟨?_, rfl⟩) (fun _ => within_C hst hb (by omega)) (fun c c2 => ⟨?_, rfl⟩) (fun _ _ => within_C hst ht (by omega)) (fun c c2 c3 => ⟨?_, rfl⟩) (fun _ _ _ => within_C hst hm (by omega)) (fun c c2 c3 c4 => ⟨?_, rfl⟩) (fun c c2 c3 c4 => ⟨?_, rfl⟩)
  · have := vWithin_f c; unfold vAsk; exact b2i_zero (by omega)
  · have := vWithin_f c2; unfold vAsk; exact b2i_zero (by omega)
  · have := vWithin_f c3; unfold vAsk; exact b2i_zero (by omega)
  · have := vWithin_f c4; unfold vAsk; exact b2i_zero (by omega)
  · have := vWithin_t c; have := vWithin_t c2; have := vWithin_t c3; have := vWithin_t c4; unfold vAsk; exact b2i_one (by omega)
