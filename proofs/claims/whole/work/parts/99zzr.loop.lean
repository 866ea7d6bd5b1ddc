/-! the law: its loop; the claim -/
set_option maxRecDepth 100000 in
theorem law_sw {d n : Nat} {σ : pS} {i : Int} {Q : Option pV → pS → Prop} (hd : 101 ≤ d) (h : RB n σ) (hn : n < 512) (i0 : 0 ≤ i) (i7 : i + 7 ≤ rd σ (-2) 0) (s : ∀ j : Int, inR (rd σ (-1) j)) (k : ∀ n' υ, n' ≤ n + 1 → pLe σ υ → RB n' υ → pR mL_law d 1233 [(3, 0), (2, 0), (2, 68), (0, i)] [] υ Q) : pR mL_law d 27 [(3, 0), (2, 0), (2, 68), (0, i)] [] σ Q := by
  refine pGo (s_aload_n3 dL_law_27 rfl) ?_
  refine pGo (s_iload_n dL_law_28 rfl) ?_
  refine pGo (s_sld dL_law_29 ⟨by omega, by omega⟩) ?_
  refine pGo (s_bipush dL_law_30 (by decide)) ?_
  refine pGoE (y := rd σ (-1) i % 32) (s_iand dL_law_32) (i_and_31 _) ?_
  have k1 : ∀ υ, pLe σ υ → RB (n + 1) υ → pR mL_law d 1233 [(3, 0), (2, 0), (2, 68), (0, i)] [] υ Q := fun υ l r => k (n + 1) υ (Nat.le_refl _) l r
  obtain ⟨t, ht⟩ : ∃ t : Int, t = rd σ (-1) i % 32 := ⟨_, rfl⟩
  rw [← ht]
  have t0 : 0 ≤ t ∧ t < 32 := by omega
  rcases (show t = 0 ∨ t = 1 ∨ t = 2 ∨ t = 3 ∨ t = 4 ∨ t = 5 ∨ t = 6 ∨ t = 7 ∨ t = 8 ∨ t = 9 ∨ t = 10 ∨ t = 11 ∨ t = 12 ∨ t = 13 ∨ t = 14 ∨ t = 15 ∨ t = 16 ∨ t = 17 ∨ t = 18 ∨ t = 19 ∨ t = 20 ∨ t = 21 ∨ t = 22 ∨ t = 23 ∨ t = 24 ∨ t = 25 ∨ t = 26 ∨ t = 27 ∨ t = 28 ∨ 28 < t by omega) with e | e | e | e | e | e | e | e | e | e | e | e | e | e | e | e | e | e | e | e | e | e | e | e | e | e | e | e | e | e
  · refine pGo (s_tabin (off := 131) (tgt := 164) dL_law_33 ⟨by omega, by omega⟩ (by omega) (by omega) (by rw [e]; rfl) (by decide)) ?_
    exact law_c_feed hd h hn i0 i7 s k1
  · refine pGo (s_tabin (off := 194) (tgt := 227) dL_law_33 ⟨by omega, by omega⟩ (by omega) (by omega) (by rw [e]; rfl) (by decide)) ?_
    exact law_c_end hd h hn i0 i7 s k1
  · refine pGo (s_tabin (off := 217) (tgt := 250) dL_law_33 ⟨by omega, by omega⟩ (by omega) (by omega) (by rw [e]; rfl) (by decide)) ?_
    exact law_c_mountain hd h hn i0 i7 s k1
  · refine pGo (s_tabin (off := 230) (tgt := 263) dL_law_33 ⟨by omega, by omega⟩ (by omega) (by omega) (by rw [e]; rfl) (by decide)) ?_
    exact law_c_law hd h hn i0 i7 s k1
  · refine pGo (s_tabin (off := 243) (tgt := 276) dL_law_33 ⟨by omega, by omega⟩ (by omega) (by omega) (by rw [e]; rfl) (by decide)) ?_
    exact law_c_fault hd h hn i0 i7 s k1
  · refine pGo (s_tabin (off := 266) (tgt := 299) dL_law_33 ⟨by omega, by omega⟩ (by omega) (by omega) (by rw [e]; rfl) (by decide)) ?_
    exact law_c_weather hd h hn i0 i7 s k1
  · refine pGo (s_tabin (off := 309) (tgt := 342) dL_law_33 ⟨by omega, by omega⟩ (by omega) (by omega) (by rw [e]; rfl) (by decide)) ?_
    exact law_c_untell hd h hn i0 i7 s k1
  · refine pGo (s_tabin (off := 332) (tgt := 365) dL_law_33 ⟨by omega, by omega⟩ (by omega) (by omega) (by rw [e]; rfl) (by decide)) ?_
    exact law_c_later hd h hn i0 i7 s k1
  · refine pGo (s_tabin (off := 355) (tgt := 388) dL_law_33 ⟨by omega, by omega⟩ (by omega) (by omega) (by rw [e]; rfl) (by decide)) ?_
    exact law_c_air hd h hn i0 i7 s k1
  · refine pGo (s_tabin (off := 398) (tgt := 431) dL_law_33 ⟨by omega, by omega⟩ (by omega) (by omega) (by rw [e]; rfl) (by decide)) ?_
    exact law_c_open hd h hn i0 i7 s k1
  · refine pGo (s_tabin (off := 441) (tgt := 474) dL_law_33 ⟨by omega, by omega⟩ (by omega) (by omega) (by rw [e]; rfl) (by decide)) ?_
    exact law_c_soonest hd h hn i0 i7 s k1
  · refine pGo (s_tabin (off := 504) (tgt := 537) dL_law_33 ⟨by omega, by omega⟩ (by omega) (by omega) (by rw [e]; rfl) (by decide)) ?_
    exact law_c_way hd h hn i0 i7 s k1
  · refine pGo (s_tabin (off := 579) (tgt := 612) dL_law_33 ⟨by omega, by omega⟩ (by omega) (by omega) (by rw [e]; rfl) (by decide)) ?_
    exact law_c_last hd h hn i0 i7 s k1
  · refine pGo (s_tabin (off := 622) (tgt := 655) dL_law_33 ⟨by omega, by omega⟩ (by omega) (by omega) (by rw [e]; rfl) (by decide)) ?_
    exact law_c_skier hd h hn i0 i7 s k1
  · refine pGo (s_tabin (off := 645) (tgt := 678) dL_law_33 ⟨by omega, by omega⟩ (by omega) (by omega) (by rw [e]; rfl) (by decide)) ?_
    exact law_c_pass hd h hn i0 i7 s k1
  · refine pGo (s_tabin (off := 688) (tgt := 721) dL_law_33 ⟨by omega, by omega⟩ (by omega) (by omega) (by rw [e]; rfl) (by decide)) ?_
    exact law_c_unpass hd h hn i0 i7 s k1
  · refine pGo (s_tabin (off := 711) (tgt := 744) dL_law_33 ⟨by omega, by omega⟩ (by omega) (by omega) (by rw [e]; rfl) (by decide)) ?_
    exact law_c_can hd h hn i0 i7 s k1
  · refine pGo (s_tabin (off := 764) (tgt := 797) dL_law_33 ⟨by omega, by omega⟩ (by omega) (by omega) (by rw [e]; rfl) (by decide)) ?_
    exact law_c_canOn hd h hn i0 i7 s k1
  · refine pGo (s_tabin (off := 817) (tgt := 850) dL_law_33 ⟨by omega, by omega⟩ (by omega) (by omega) (by rw [e]; rfl) (by decide)) ?_
    exact law_c_places hd h hn i0 i7 s k1
  · refine pGo (s_tabin (off := 860) (tgt := 893) dL_law_33 ⟨by omega, by omega⟩ (by omega) (by omega) (by rw [e]; rfl) (by decide)) ?_
    exact law_c_meet hd h hn i0 i7 s k1
  · refine pGo (s_tabin (off := 923) (tgt := 956) dL_law_33 ⟨by omega, by omega⟩ (by omega) (by omega) (by rw [e]; rfl) (by decide)) ?_
    exact law_c_arrive hd h hn i0 i7 s k1
  · refine pGo (s_tabin (off := 956) (tgt := 989) dL_law_33 ⟨by omega, by omega⟩ (by omega) (by omega) (by rw [e]; rfl) (by decide)) ?_
    exact law_c_turn hd h hn i0 i7 s k1
  · refine pGo (s_tabin (off := 979) (tgt := 1012) dL_law_33 ⟨by omega, by omega⟩ (by omega) (by omega) (by rw [e]; rfl) (by decide)) ?_
    exact law_c_make hd h hn i0 i7 s k1
  · refine pGo (s_tabin (off := 1012) (tgt := 1045) dL_law_33 ⟨by omega, by omega⟩ (by omega) (by omega) (by rw [e]; rfl) (by decide)) ?_
    exact law_c_day hd h hn i0 i7 s k1
  · refine pGo (s_tabin (off := 1035) (tgt := 1068) dL_law_33 ⟨by omega, by omega⟩ (by omega) (by omega) (by rw [e]; rfl) (by decide)) ?_
    exact law_c_wait hd h hn i0 i7 s k1
  · refine pGo (s_tabin (off := 1078) (tgt := 1111) dL_law_33 ⟨by omega, by omega⟩ (by omega) (by omega) (by rw [e]; rfl) (by decide)) ?_
    exact law_c_snow hd h hn i0 i7 s k1
  · refine pGo (s_tabin (off := 1111) (tgt := 1144) dL_law_33 ⟨by omega, by omega⟩ (by omega) (by omega) (by rw [e]; rfl) (by decide)) ?_
    exact law_c_took hd h hn i0 i7 s k1
  · refine pGo (s_tabin (off := 1144) (tgt := 1177) dL_law_33 ⟨by omega, by omega⟩ (by omega) (by omega) (by rw [e]; rfl) (by decide)) ?_
    exact law_c_sweep hd h hn i0 i7 s k1
  · refine pGo (s_tabin (off := 1177) (tgt := 1210) dL_law_33 ⟨by omega, by omega⟩ (by omega) (by omega) (by rw [e]; rfl) (by decide)) ?_
    exact law_c_about hd h hn i0 i7 s k1
  · refine pGo (s_tabout (tgt := 1233) dL_law_33 ⟨by omega, by omega⟩ (Or.inr e) (by decide)) ?_
    exact k n σ (by omega) (pLe.rf σ) h
theorem law_hd {d L : Nat} {σ : pS} {i : Int} {Q : Option pV → pS → Prop} (hL : L ≤ 3584) (hl : rd σ (-2) 0 = (L : Int)) (i0 : 0 ≤ i) (i1 : i ≤ 3584) (kx : Q (some (0, 1)) σ) (ki : i + 7 ≤ (L : Int) → pR mL_law d 27 [(3, 0), (2, 0), (2, 68), (0, i)] [] σ Q) : pR mL_law d 18 [(3, 0), (2, 0), (2, 68), (0, i)] [] σ Q := by
  refine pGo (s_iload_n dL_law_18 rfl) ?_
  refine pGo (s_aload_n3 dL_law_19 rfl) ?_
  refine pGoE (y := (L : Int)) (s_slen dL_law_20) hl ?_
  refine pGo (s_bipush dL_law_21 (by decide)) ?_
  refine pGo (s_isub dL_law_23) ?_
  refine p_icgt (tgt := 1239) dL_law_24 (by decide) ⟨by omega, by omega⟩ ⟨by omega, by omega⟩ (fun c => ?_) (fun c => ki (by omega))
  refine pGo (s_iconst dL_law_1239) ?_
  exact pEnd (r := some (0, 1)) dL_law_1240 (Or.inr rfl) kx
theorem law_loop {d L : Nat} {Q : Option pV → pS → Prop} (hd : 101 ≤ d) (hL : L ≤ 3584) (kQ : ∀ n τ, n ≤ 512 → RB n τ → Q (some (0, 1)) τ) : ∀ (f j n : Nat) (i : Int) (σ : pS), i = 7 * (j : Int) → L < 7 * (j + f) + 7 → j ≤ 512 → n ≤ j → RB n σ → rd σ (-2) 0 = (L : Int) → (∀ x : Int, inR (rd σ (-1) x)) → pR mL_law d 18 [(3, 0), (2, 0), (2, 68), (0, i)] [] σ Q
  | 0, j, n, i, σ, hi, hf, hj, hn, h, hl, s => law_hd hL hl (by omega) (by omega) (kQ n σ (by omega) h) (fun c => absurd c (by omega))
  | f + 1, j, n, i, σ, hi, hf, hj, hn, h, hl, s => by
    refine law_hd hL hl (by omega) (by omega) (kQ n σ (by omega) h) (fun c => ?_)
    refine law_sw hd h (by omega) (by omega) (by omega) s (fun n' υ q l r => ?_)
    refine pGoL (ls2 := [(3, 0), (2, 0), (2, 68), (0, i + 7)]) (s_iinc dL_law_1233 (by decide) rfl rfl) rfl ?_
    refine pGo (s_goto (tgt := 18) dL_law_1236 (by decide)) ?_
    exact law_loop hd hL kQ f (j + 1) n' (i + 7) υ (by omega) (by omega) (by omega) (by omega) r ((l.2.2.2 _ _ (by decide)).trans hl) (fun x => by rw [l.2.2.2 _ _ (by decide)]; exact s x)
theorem law_ok : LawOk := fun L xs hL => by
  refine law_0 (by decide) (fun ω B => ?_)
  have hl : rd ω (-2) 0 = (L : Int) := (B.2.1 _ _ (by unfold aBeg; omega)).trans rfl
  have hs : ∀ x : Int, rd ω (-1) x = (xs x.toNat).toInt := fun x => (B.2.1 _ _ (by unfold aBeg; omega)).trans rfl
  have hr : ∀ x : Int, inR (rd ω (-1) x) := fun x => by
    rw [hs x]
    exact ⟨Int32.le_toInt _, Int32.toInt_lt _⟩
  have hq : ∀ (n : Nat) (τ : pS), n ≤ 512 → RB n τ → (some ((0, 1) : pV) = some (0, 1) ∧ τ.1.length ≤ 600000 ∧ pSz τ ≤ 7302250) := fun n τ hn R => by
    have z1 := R.2.1.1
    have z2 := R.2.1.2
    exact ⟨rfl, by omega, by omega⟩
  exact law_loop (L := L) (by decide) hL hq 512 0 0 0 ω rfl (by omega) (by decide) (Nat.le_refl 0) (Beg_RB B) hl hr
theorem whole_start {p : Program} {e : Env} {s : State} {m : MethodId} {below : List Frame} {meth : Method} {c : Code} (l : Launch) (_ : l.flags = flags0) {b L : Nat} {xs : Nat → Int32} (hL : L ≤ 3584) (C0 : lw_At p s m meth c b L xs) : W p l e room_1 s m #[Value.ref b] below meth c s.heap [] 0 0 (lw_Z below #[Value.ref b] s) (entryFrame m ([Value.ref b] : List Value).toArray 4) := whole_of law_ok l hL C0
