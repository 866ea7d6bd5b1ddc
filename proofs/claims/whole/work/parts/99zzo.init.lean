/-! the law: its links; the beginning -/
theorem cl_law_7 : Cond.classLink R_law 7 RX10 ∈ wsA := wsA_in (tb_1 (List.mem_of_getElem? (i := 20) rfl)) rfl
theorem cl_law_10 : Cond.classLink R_law 10 RX11 ∈ wsA := wsA_in (tb_5 (List.mem_of_getElem? (i := 186) rfl)) rfl
theorem ml_law_9 : pML R_law 9 yX10_init := Or.inl (wsA_in (tb_1 (List.mem_of_getElem? (i := 22) rfl)) rfl)
theorem ml_law_12 : pML R_law 12 yX11_init := Or.inl (wsA_in (tb_5 (List.mem_of_getElem? (i := 188) rfl)) rfl)
theorem ml_law_13 : pML R_law 13 yX10_feed := Or.inl (wsA_in (tb_2 (List.mem_of_getElem? (i := 238) rfl)) rfl)
theorem ml_law_17 : pML R_law 17 yX11_feed := Or.inl (wsA_in (tb_7 (List.mem_of_getElem? (i := 20) rfl)) rfl)
theorem ml_law_18 : pML R_law 18 yX10_end := Or.inl (wsA_in (tb_3 (List.mem_of_getElem? (i := 6) rfl)) rfl)
theorem ml_law_22 : pML R_law 22 yX11_end := Or.inl (wsA_in (tb_7 (List.mem_of_getElem? (i := 28) rfl)) rfl)
theorem ml_law_23 : pML R_law 23 yX10_mountain := Or.inl (wsA_in (tb_3 (List.mem_of_getElem? (i := 10) rfl)) rfl)
theorem ml_law_27 : pML R_law 27 yX11_mountain := Or.inl (wsA_in (tb_7 (List.mem_of_getElem? (i := 32) rfl)) rfl)
theorem ml_law_28 : pML R_law 28 yX10_law := Or.inl (wsA_in (tb_3 (List.mem_of_getElem? (i := 227) rfl)) rfl)
theorem ml_law_31 : pML R_law 31 yX11_law := Or.inl (wsA_in (tb_7 (List.mem_of_getElem? (i := 119) rfl)) rfl)
theorem ml_law_32 : pML R_law 32 yX10_fault := Or.inl (wsA_in (tb_4 (List.mem_of_getElem? (i := 42) rfl)) rfl)
theorem ml_law_35 : pML R_law 35 yX11_fault := Or.inl (wsA_in (tb_7 (List.mem_of_getElem? (i := 171) rfl)) rfl)
theorem ml_law_36 : pML R_law 36 yX10_weather := Or.inl (wsA_in (tb_4 (List.mem_of_getElem? (i := 46) rfl)) rfl)
theorem ml_law_40 : pML R_law 40 yX11_weather := Or.inl (wsA_in (tb_7 (List.mem_of_getElem? (i := 175) rfl)) rfl)
theorem ml_law_41 : pML R_law 41 yX10_untell := Or.inl (wsA_in (tb_4 (List.mem_of_getElem? (i := 55) rfl)) rfl)
theorem ml_law_45 : pML R_law 45 yX11_untell := Or.inl (wsA_in (tb_7 (List.mem_of_getElem? (i := 179) rfl)) rfl)
theorem ml_law_46 : pML R_law 46 yX10_later := Or.inl (wsA_in (tb_4 (List.mem_of_getElem? (i := 64) rfl)) rfl)
theorem ml_law_49 : pML R_law 49 yX11_later := Or.inl (wsA_in (tb_7 (List.mem_of_getElem? (i := 183) rfl)) rfl)
theorem ml_law_50 : pML R_law 50 yX10_air := Or.inl (wsA_in (tb_4 (List.mem_of_getElem? (i := 69) rfl)) rfl)
theorem ml_law_53 : pML R_law 53 yX11_air := Or.inl (wsA_in (tb_7 (List.mem_of_getElem? (i := 188) rfl)) rfl)
theorem ml_law_54 : pML R_law 54 yX10_open := Or.inl (wsA_in (tb_4 (List.mem_of_getElem? (i := 101) rfl)) rfl)
theorem ml_law_57 : pML R_law 57 yX11_open := Or.inl (wsA_in (tb_7 (List.mem_of_getElem? (i := 199) rfl)) rfl)
theorem ml_law_58 : pML R_law 58 yX10_soonest := Or.inl (wsA_in (tb_4 (List.mem_of_getElem? (i := 117) rfl)) rfl)
theorem ml_law_61 : pML R_law 61 yX11_soonest := Or.inl (wsA_in (tb_7 (List.mem_of_getElem? (i := 230) rfl)) rfl)
theorem ml_law_62 : pML R_law 62 yX10_way := Or.inl (wsA_in (tb_4 (List.mem_of_getElem? (i := 154) rfl)) rfl)
theorem ml_law_66 : pML R_law 66 yX11_way := Or.inl (wsA_in (tb_8 (List.mem_of_getElem? (i := 16) rfl)) rfl)
theorem ml_law_67 : pML R_law 67 yX10_last := Or.inl (wsA_in (tb_4 (List.mem_of_getElem? (i := 180) rfl)) rfl)
theorem ml_law_70 : pML R_law 70 yX11_last := Or.inl (wsA_in (tb_8 (List.mem_of_getElem? (i := 27) rfl)) rfl)
theorem ml_law_71 : pML R_law 71 yX10_skier := Or.inl (wsA_in (tb_4 (List.mem_of_getElem? (i := 189) rfl)) rfl)
theorem ml_law_74 : pML R_law 74 yX11_skier := Or.inl (wsA_in (tb_8 (List.mem_of_getElem? (i := 31) rfl)) rfl)
theorem ml_law_75 : pML R_law 75 yX10_pass := Or.inl (wsA_in (tb_4 (List.mem_of_getElem? (i := 228) rfl)) rfl)
theorem ml_law_78 : pML R_law 78 yX11_pass := Or.inl (wsA_in (tb_8 (List.mem_of_getElem? (i := 35) rfl)) rfl)
theorem ml_law_79 : pML R_law 79 yX10_unpass := Or.inl (wsA_in (tb_4 (List.mem_of_getElem? (i := 232) rfl)) rfl)
theorem ml_law_82 : pML R_law 82 yX11_unpass := Or.inl (wsA_in (tb_8 (List.mem_of_getElem? (i := 43) rfl)) rfl)
theorem ml_law_83 : pML R_law 83 yX10_can := Or.inl (wsA_in (tb_4 (List.mem_of_getElem? (i := 236) rfl)) rfl)
theorem ml_law_87 : pML R_law 87 yX11_can := Or.inl (wsA_in (tb_8 (List.mem_of_getElem? (i := 47) rfl)) rfl)
theorem ml_law_88 : pML R_law 88 yX10_canOn := Or.inl (wsA_in (tb_5 (List.mem_of_getElem? (i := 47) rfl)) rfl)
theorem ml_law_91 : pML R_law 91 yX11_canOn := Or.inl (wsA_in (tb_8 (List.mem_of_getElem? (i := 66) rfl)) rfl)
theorem ml_law_92 : pML R_law 92 yX10_places := Or.inl (wsA_in (tb_5 (List.mem_of_getElem? (i := 56) rfl)) rfl)
theorem ml_law_95 : pML R_law 95 yX11_places := Or.inl (wsA_in (tb_8 (List.mem_of_getElem? (i := 74) rfl)) rfl)
theorem ml_law_96 : pML R_law 96 yX10_meet := Or.inl (wsA_in (tb_5 (List.mem_of_getElem? (i := 60) rfl)) rfl)
theorem ml_law_99 : pML R_law 99 yX11_meet := Or.inl (wsA_in (tb_8 (List.mem_of_getElem? (i := 78) rfl)) rfl)
theorem ml_law_100 : pML R_law 100 yX10_arrive := Or.inl (wsA_in (tb_5 (List.mem_of_getElem? (i := 64) rfl)) rfl)
theorem ml_law_104 : pML R_law 104 yX11_arrive := Or.inl (wsA_in (tb_8 (List.mem_of_getElem? (i := 82) rfl)) rfl)
theorem ml_law_105 : pML R_law 105 yX10_turn := Or.inl (wsA_in (tb_5 (List.mem_of_getElem? (i := 72) rfl)) rfl)
theorem ml_law_108 : pML R_law 108 yX11_turn := Or.inl (wsA_in (tb_8 (List.mem_of_getElem? (i := 86) rfl)) rfl)
theorem ml_law_109 : pML R_law 109 yX10_make := Or.inl (wsA_in (tb_5 (List.mem_of_getElem? (i := 80) rfl)) rfl)
theorem ml_law_113 : pML R_law 113 yX11_make := Or.inl (wsA_in (tb_8 (List.mem_of_getElem? (i := 90) rfl)) rfl)
theorem ml_law_114 : pML R_law 114 yX10_day := Or.inl (wsA_in (tb_5 (List.mem_of_getElem? (i := 84) rfl)) rfl)
theorem ml_law_117 : pML R_law 117 yX11_day := Or.inl (wsA_in (tb_8 (List.mem_of_getElem? (i := 94) rfl)) rfl)
theorem ml_law_118 : pML R_law 118 yX10_wait := Or.inl (wsA_in (tb_5 (List.mem_of_getElem? (i := 147) rfl)) rfl)
theorem ml_law_121 : pML R_law 121 yX11_wait := Or.inl (wsA_in (tb_8 (List.mem_of_getElem? (i := 118) rfl)) rfl)
theorem ml_law_122 : pML R_law 122 yX10_snow := Or.inl (wsA_in (tb_5 (List.mem_of_getElem? (i := 151) rfl)) rfl)
theorem ml_law_125 : pML R_law 125 yX11_snow := Or.inl (wsA_in (tb_8 (List.mem_of_getElem? (i := 126) rfl)) rfl)
theorem ml_law_126 : pML R_law 126 yX10_took := Or.inl (wsA_in (tb_5 (List.mem_of_getElem? (i := 155) rfl)) rfl)
theorem ml_law_129 : pML R_law 129 yX11_took := Or.inl (wsA_in (tb_8 (List.mem_of_getElem? (i := 130) rfl)) rfl)
theorem ml_law_130 : pML R_law 130 yX10_sweep := Or.inl (wsA_in (tb_5 (List.mem_of_getElem? (i := 159) rfl)) rfl)
theorem ml_law_133 : pML R_law 133 yX11_sweep := Or.inl (wsA_in (tb_8 (List.mem_of_getElem? (i := 134) rfl)) rfl)
theorem ml_law_134 : pML R_law 134 yX10_about := Or.inl (wsA_in (tb_5 (List.mem_of_getElem? (i := 182) rfl)) rfl)
theorem ml_law_137 : pML R_law 137 yX11_about := Or.inl (wsA_in (tb_8 (List.mem_of_getElem? (i := 146) rfl)) rfl)
/-- the memory as it is made -/
def m00 (L : Nat) (xs : Nat → Int32) : Int → Int → Int := fun b i => if b < 0 then (pS0 L xs).2 b i else if b < 141 then pdf (statOb b.toNat).1 i else 0
/-- where the cells still hold what they were made with -/
def aBeg (a i : Int) : Prop := a < 141 ∧ a ≠ 133 ∧ ¬ (62 ≤ a ∧ a ≤ 64) ∧ ¬ (a = 61 ∧ i = 6) ∧ ¬ (a = 68 ∧ i = 3)
/-- what stands when both objects are new -/
def Beg (L : Nat) (xs : Nat → Int32) (ω : pS) : Prop := ω.1 = statL ∧ (∀ a i : Int, aBeg a i → rd ω a i = m10 (m00 L xs) a i) ∧ rd ω 61 6 = 6 ∧ (∀ i : Int, 0 ≤ i → i < 20 → rd ω 62 i = -2) ∧ (∀ i : Int, 0 ≤ i → i < 100 → rd ω 63 i = fwI i) ∧ (∀ i : Int, 0 ≤ i → i < 100 → rd ω 133 i = fwI i) ∧ rd ω 68 3 = -1
theorem fwI_at {a b : Nat} (hb : b < 10) : fwI ((10 * a + b : Nat) : Int) = if a = b then 0 else 1000000 := by
  unfold fwI
  by_cases e : a = b
  · rw [if_pos e, if_pos (by omega)]
  · rw [if_neg e, if_neg (by omega)]
theorem fwG_I {t : Nat} (ht : t < 1000) : fwG fwI t = fwI := funext fun i => by
  unfold fwG updF
  by_cases e : i = ((t % 100 : Nat) : Int)
  · rw [if_pos e, e]
    have e1 : t % 100 = 10 * (t % 100 / 10) + t % 10 := by omega
    have q1 := fwI_at (a := t % 100 / 10) (b := t % 10) (by omega)
    rw [← e1] at q1
    have q2 := fwI_at (a := t % 100 / 10) (b := t / 100) (by omega)
    have q3 := fwI_at (a := t / 100) (b := t % 10) (by omega)
    rw [q1, q2, q3]
    split <;> split <;> split <;> omega
  · rw [if_neg e]
theorem fwS_I : ∀ t : Nat, t ≤ 1000 → fwS fwI t = fwI
  | 0, _ => rfl
  | t + 1, ht => by
    show fwG (fwS fwI t) t = fwI
    rw [fwS_I t (by omega)]
    exact fwG_I (by omega)
theorem fwW_F {w : Int → Bool} {fr to tk : Int → Int} (h : ∀ k : Nat, w (k : Int) = false) : ∀ k : Nat, fwW w fr to tk k = fwI
  | 0 => rfl
  | k + 1 => by
    show (if w (k : Int) = true then updF (fwW w fr to tk k) (10 * fr (k : Int) + to (k : Int)) (min (fwW w fr to tk k (10 * fr (k : Int) + to (k : Int))) (tk (k : Int))) else fwW w fr to tk k) = fwI
    rw [if_neg (by rw [h k]; decide)]
    exact fwW_F h k
theorem m10_hi {m : Int → Int → Int} {a i : Int} (h : 68 ≤ a) : m10 m a i = m a i := by
  unfold m10
  repeat rw [wrm_n (by omega)]
theorem arr141 : ∀ k : Fin 141, 68 < k.val → 50 ≤ (statOb k.val).1 ∧ (statOb k.val).1 ≤ 53 := by decide +kernel
set_option maxRecDepth 100000 in
theorem law_0 {d L : Nat} {xs : Nat → Int32} {Q : Option pV → pS → Prop} (hd : 9 ≤ d) (k : ∀ ω, Beg L xs ω → pR mL_law d 18 [(3, 0), (2, 0), (2, 68), (0, 0)] [] ω Q) : pC mL_law d [(3, 0)] (pS0 L xs) Q := by
  show pR mL_law d 0 [(3, 0), (9, 0), (9, 0), (9, 0)] [] (pS0 L xs) Q
  have h0 : Mk [] (m00 L xs) (pS0 L xs) := ⟨rfl, fun b i hb => by
    unfold m00
    rw [if_pos (by simpa using hb)]
    rfl⟩
  refine pGoE (y := 0) (s_new pc10 (by decide +kernel) cl_law_7 in_X10 ii_X10 dL_law_0) rfl ?_
  have h1 : Mk [(10, 0)] (m00 L xs) (nw (pS0 L xs) 10 0) := Mk_nwo h0 (fun i => rfl)
  revert h1
  generalize nw (pS0 L xs) 10 0 = τ1
  intro h1
  refine pGo (s_dup dL_law_3 (show (2 : Nat) ≠ 1 by decide)) ?_
  refine p_callI (As := []) (st := [(2, 0)]) (n := 0) (d' := 5) (by decide) ok_X10_init rfl ml_law_9 im_X10_init rfl dL_law_4 (pargs_of rfl) rfl (Nat.le_of_ble_eq_true rfl) (by omega) (X10_init_C (Nat.le_refl 5) h1 (fun b i b0 b1 => by unfold m00; rw [if_neg (by omega), if_pos (by omega)]) (fun i => rfl)) (fun r1 υ e1 q1 w1 => ?_)
  obtain ⟨rfl, τ, υ1, hM, F, rfl⟩ := q1
  show pR mL_law d 7 [(3, 0), (9, 0), (9, 0), (9, 0)] [(2, 0)] (fs1 υ1 0 10 9) Q
  refine pGoL (ls2 := [(3, 0), (2, 0), (9, 0), (9, 0)]) (s_astore_n dL_law_7 (by decide) rfl (by decide)) rfl ?_
  have h2 : Mk cel68 (fun b i => if b < 68 then rd υ1 b i else m00 L xs b i) (fs1 υ1 0 10 9) := ⟨by
    show υ1.1.set 0 (10, 10) = cel68
    rw [F.2.1, hM.1]
    rfl, fun b i hb => by
    rw [rd_fs1]
    have e : ((cel68.length : Nat) : Int) = 68 := by decide +kernel
    rw [e] at hb
    exact (if_pos hb).symm⟩
  refine pGoE (y := 68) (s_new pc11 (by decide +kernel) cl_law_10 in_X11 ii_X11 dL_law_8) (h2.ln rfl) ?_
  have h3 : Mk (cel68 ++ [(11, 0)]) (fun b i => if b < 68 then rd υ1 b i else m00 L xs b i) (nw (fs1 υ1 0 10 9) 11 0) := Mk_nwo h2 (fun i => rfl)
  revert h3
  generalize nw (fs1 υ1 0 10 9) 11 0 = τ3
  intro h3
  refine pGo (s_dup dL_law_11 (show (2 : Nat) ≠ 1 by decide)) ?_
  refine p_callI (As := []) (st := [(2, 68)]) (n := 0) (d' := 1) (by decide) ok_X11_init rfl ml_law_12 im_X11_init rfl dL_law_12 (pargs_of rfl) rfl (Nat.le_of_ble_eq_true rfl) (by omega) (X11_init_C (Nat.le_refl 1) h3 (fun k i k0 k1 => ?_)) (fun r2 ω e2 q2 w2 => ?_)
  · show (if 68 + k < 68 then rd υ1 (68 + k) i else m00 L xs (68 + k) i) = 0
    rw [if_neg (by omega)]
    unfold m00
    rw [if_neg (by omega), if_pos (by omega)]
    have := arr141 ⟨(68 + k).toNat, by omega⟩ (by show 68 < _; simp only; omega)
    exact pdf_arr this.1 this.2 i
  obtain ⟨rfl, c, M, R⟩ := q2
  show pR mL_law d 15 [(3, 0), (2, 0), (9, 0), (9, 0)] [(2, 68)] ω Q
  refine pGoL (ls2 := [(3, 0), (2, 0), (2, 68), (9, 0)]) (s_astore_n dL_law_15 (by decide) rfl (by decide)) rfl ?_
  refine pGo (s_iconst dL_law_16) ?_
  refine pGoL (ls2 := [(3, 0), (2, 0), (2, 68), (0, 0)]) (s_istore_n dL_law_17 (by decide) rfl) rfl ?_
  have lo : ∀ a i : Int, a < 68 → rd ω a i = rd υ1 a i := fun a i h => (M a i (by omega) (by omega)).trans ((wrm_n (by omega)).trans (if_pos h))
  refine k ω ⟨c, fun a i h => ?_, (lo _ _ (by decide)).trans F.2.2.2.1, fun i i0 i1 => (lo _ _ (by decide)).trans (F.2.2.2.2.1 i i0 i1), fun i i0 i1 => (lo _ _ (by decide)).trans ?_, R, (M 68 3 (by decide) (by decide)).trans wrm_s⟩
  · unfold aBeg at h
    by_cases q : a < 68
    · rw [lo a i q, F.2.2.1 a i (by omega) (by omega)]
      exact hM.2 a i (Int.lt_of_lt_of_le q (by decide +kernel))
    · rw [M a i (by omega) (by omega), wrm_n (by omega), m10_hi (by omega)]
      exact if_neg q
  · have := F.2.2.2.2.2.1 i.toNat (by omega)
    rw [show ((i.toNat : Nat) : Int) = i by omega] at this
    rw [this, fwW_F (fun k => by unfold vWay; exact decide_eq_false (by omega)), fwS_I 1000 (by decide)]
