/-! contracts: what is open and shut, units -/
theorem i32_R (a : Int32) : inR a.toInt := by
  have h1 := Int32.le_toInt a
  have h2 := Int32.toInt_lt a
  constructor
  · omega
  · omega
theorem i_and_R (x y : Int) : inR (i_and x y) := i32_R _
theorem isShut_C {d : Nat} {σ : pS} (hd : 1 ≤ d) (hst : Stat σ) {w m : Int} (hm : 0 ≤ m ∧ m < 2147483648) : pC mX3_isShut d [(2, 35), (0, w), (0, m)] σ (fun r τ => r = some (0, b2i (vShutAt σ w m)) ∧ τ = σ) := by
  refine g_X3_isShut_0 hd hst w m (hourOf_CX hst hm) (vHour_R hm.1) (i_and_R _ _) (fun c => ⟨?_, rfl⟩) (fun c => ⟨?_, rfl⟩)
  · unfold vShutAt vBit; exact b2i_zero (by simpa using c)
  · unfold vShutAt vBit; exact b2i_one c
theorem isOpenX_C {d : Nat} {σ : pS} (hd : 2 ≤ d) (hst : Stat σ) {w m : Int} (hI : Inst6 σ (rd σ 35 4)) (hw : 0 ≤ w ∧ w < 17) (hm : 0 ≤ m ∧ m < 2147483648) (h6 : inR (rd σ (rd σ 35 4 + 6) w)) (h7 : inR (rd σ (rd σ 35 4 + 7) w)) : pC mX3_isOpen d [(2, 35), (0, w), (0, m)] σ (fun r τ => r = some (0, b2i (vOpenX σ w m)) ∧ τ = σ) := by
  refine g_X3_isOpen_0 hd hst w m hI hw (by omega) h6 ?_ (fun _ => h7) ?_ (fun _ _ => isShut_C (by omega) hst hm) ?_ ?_
  · intro c; refine ⟨?_, rfl⟩; unfold vOpenX; exact b2i_zero (by omega)
  · intro c c2; refine ⟨?_, rfl⟩; unfold vOpenX; exact b2i_zero (by omega)
  · intro c c2 c3; refine ⟨?_, rfl⟩; unfold vOpenX; exact b2i_zero (by rw [c3]; simp)
  · intro c c2 c3; refine ⟨?_, rfl⟩; unfold vOpenX; exact b2i_one ⟨c, c2, c3⟩
theorem isOn_C {d : Nat} {σ : pS} (hst : Stat σ) {w m : Int} (hw : 0 ≤ w ∧ w < 13) (hm : inR m) (h6 : w < 6 → inR (rd σ 81 w)) (h7 : w < 6 → inR (rd σ 82 w)) : pC mX11_isOn d [(2, 68), (0, w), (0, m)] σ (fun r τ => r = some (0, b2i (vOn σ w m)) ∧ τ = σ) := by
  refine g_X11_isOn_0 (Nat.zero_le d) hst w m (by omega) (fun _ => hm) ?_ ?_ (fun _ => hw) h6 (fun _ => hm) ?_ (fun c _ => h7 c) ?_ ?_
  all_goals (intros; refine ⟨?_, rfl⟩; unfold vOn; first | exact b2i_one (by omega) | exact b2i_zero (by omega))
theorem isOpenAt_C {d : Nat} {σ : pS} (hd : 1 ≤ d) (hst : Stat σ) {w m : Int} (hw : 0 ≤ w ∧ w < 13) (hm : 0 ≤ m ∧ m < 2147483648) (h6 : w < 6 → inR (rd σ 81 w)) (h7 : w < 6 → inR (rd σ 82 w)) (hs : inR (rd σ 105 (8 * w + vHour m))) : pC mX11_isOpenAt d [(2, 68), (0, w), (0, m)] σ (fun r τ => r = some (0, b2i (vOpenM σ w m)) ∧ τ = σ) := by
  have hh := vHour_R hm.1
  refine g_X11_isOpenAt_0 hd hst w m (isOn_C hst hw (by omega) h6 h7) ?_ (fun _ => hourOf_CM hst hm) (fun _ => by omega) (fun _ => hs) ?_ ?_
  · intro c; refine ⟨?_, rfl⟩; unfold vOpenM; exact b2i_zero (by rw [c]; simp)
  · intro c c2; refine ⟨?_, rfl⟩; unfold vOpenM; exact b2i_zero (fun q => c2 q.2)
  · intro c c2; refine ⟨?_, rfl⟩; unfold vOpenM; exact b2i_one ⟨c, c2⟩
theorem isWordUnit_C {d : Nat} {σ : pS} (hst : Stat σ) {k : Int} (hk : inR k) : pC mX2_isWordUnit d [(0, k)] σ (fun r τ => r = some (0, b2i (vWU k)) ∧ τ = σ) := by
  refine g_X2_isWordUnit_0 (Nat.zero_le d) hst k hk ?_ ?_ ?_ ?_ ?_ ?_ ?_
  all_goals (intros; refine ⟨?_, rfl⟩; unfold vWU; first | exact b2i_one (by omega) | exact b2i_zero (by omega))
theorem joined_C {d : Nat} {σ : pS} (hst : Stat σ) {k a b : Int} (hk : inR k) (ha : inR a) (hb : inR b) : pC mX2_joined d [(0, k), (0, a), (0, b)] σ (fun r τ => r = some (0, vJoin k a b) ∧ τ = σ) := by
  refine g_X2_joined_0 (Nat.zero_le d) hst k a b hk ?_ ?_ ?_ ?_ (fun _ => ha) (fun _ => hb) ?_ ?_ (fun _ => ha) (fun _ => hb) ?_ ?_ (fun _ => ha) (fun _ => hb) ?_ ?_
  · intro c; refine ⟨?_, rfl⟩; unfold vJoin; rw [if_neg (by omega), if_neg (by omega), if_neg (by omega), if_neg (by omega), if_neg (by omega), if_neg (by omega)]
  · intro c; refine ⟨?_, rfl⟩; subst c; rfl
  · intro c; refine ⟨?_, rfl⟩; subst c; rfl
  · intro c; refine ⟨?_, rfl⟩; subst c; rfl
  · intro c c2; refine ⟨?_, rfl⟩; subst c; show _ = some (0, if a < b then 1 else 0); rw [if_neg (by omega)]
  · intro c c2; refine ⟨?_, rfl⟩; subst c; show _ = some (0, if a < b then 1 else 0); rw [if_pos (by omega)]
  · intro c c2; refine ⟨?_, rfl⟩; subst c; show _ = some (0, if a = b then 1 else 0); rw [if_neg (by omega)]
  · intro c c2; refine ⟨?_, rfl⟩; subst c; show _ = some (0, if a = b then 1 else 0); rw [if_pos (by omega)]
  · intro c c2; refine ⟨?_, rfl⟩; subst c; show _ = some (0, if b < a then 1 else 0); rw [if_neg (by omega)]
  · intro c c2; refine ⟨?_, rfl⟩; subst c; show _ = some (0, if b < a then 1 else 0); rw [if_pos (by omega)]
theorem unit_C {d : Nat} {σ : pS} (hst : Stat σ) {k w h : Int} (hk : inR k) (hI : Inst6 σ (rd σ 35 4)) (hw : 0 ≤ w ∧ w < 17) (hh : 0 ≤ h ∧ h < 8) : pC mX2_unit d [(0, k), (2, 35), (0, w), (0, h)] σ (fun r τ => r = some (0, vUnit σ k w h) ∧ τ = σ) := by
  refine g_X2_unit_0 (Nat.zero_le d) hst k w h hk (fun _ => hI) (fun _ => hw) ?_ (fun _ => hI) (fun _ => hw) ?_ (fun _ => hI) (fun _ => hw) (fun _ => hh) ?_ (fun _ => hI) (fun _ => hw) ?_ (fun _ => hI) (fun _ => hw) ?_ (fun _ => hI) (fun _ => hw) ?_ (fun _ => hI) (fun _ => hw) ?_ (fun _ => hI) (fun _ => hw) ?_ ?_ (fun _ => hh) ?_ (fun _ => hh) ?_
  all_goals
    intro c
    refine ⟨?_, rfl⟩
    unfold vUnit
    first
      | rw [if_neg (by omega), if_neg (by omega), if_neg (by omega), if_neg (by omega), if_neg (by omega)]
      | rw [if_neg (by omega), if_neg (by omega), if_neg (by omega), if_neg (by omega), if_pos c]
      | rw [if_neg (by omega), if_neg (by omega), if_neg (by omega), if_pos c]
      | rw [if_neg (by omega), if_neg (by omega), if_pos c]
      | rw [if_neg (by omega), if_pos c]
      | rw [if_pos c]
