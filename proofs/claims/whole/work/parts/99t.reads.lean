/-! the reference reads a run, a line -/
theorem readWayR_50 {σ : pS} {n : Int} {K P V E : Nat → Int} {c d : Nat} {x : Int} {φ ψ : pS} {o1 : pO} {nt : Bool} {j : Nat} (hd : 3 ≤ d) (S : Stat φ) (T : TK σ n K P V E c) (h : rBd σ n K P V E c x φ o1 (j + 1) (fun a => rd φ a x) ψ) (eo : o1 = oo (ck K P (decide (K (j + 1) = 18)) 2 (j + 1)) (ck K P nt 3 (j + 1))) (hx : 0 ≤ x ∧ x < 13) (u3 u4 : pV) (hu3 : u3.1 ≠ 1) (hu4 : u4.1 ≠ 1) : pR mX11_readWay d 50 [(2, 68), (0, 0), (0, x), u3, u4] [] ψ (runM σ n K P V E c x φ nt j) := by
  have R := T.R
  have f0 := h.1.fault
  by_cases z : o1 = none
  · subst z
    have e18 : ck K P (decide (K (j + 1) = 18)) 2 (j + 1) = none := (oo_none_iff.mp eo.symm).1
    have ent : ck K P nt 3 (j + 1) = none := (oo_none_iff.mp eo.symm).2
    have k18 : K (j + 1) = 18 := of_decide_eq_true (ck_none.mp e18)
    have hc := (h.1.2.1 rfl).2.2
    have wd := (hc.word R).2.2 ((hc.sort R).2.2.2.1.mp (by omega))
    have jc : j + 1 < c := R.lt hc.1 (by omega)
    obtain ⟨p1, hp1⟩ : ∃ p, p = ptO K P V (-1) (j + 2) := ⟨_, rfl⟩
    obtain ⟨p2, hp2⟩ : ∃ p, p = oo p1 (ptO K P V (V (j + 2)) (j + 3)) := ⟨_, rfl⟩
    obtain ⟨p3, hp3⟩ : ∃ p, p = oo p2 (ck K P (decide (K (j + 4) = ((8 : Nat) : Int))) 2 (j + 4)) := ⟨_, rfl⟩
    obtain ⟨p4, hp4⟩ : ∃ p, p = oo p3 (tdO K P V 0 3 (j + 5)) := ⟨_, rfl⟩
    obtain ⟨p5, hp5⟩ : ∃ p, p = oo p4 (ck K P (decide (K (j + 6) = ((3 : Nat) : Int))) 2 (j + 6)) := ⟨_, rfl⟩
    obtain ⟨p6, hp6⟩ : ∃ p, p = oo p5 (tdO K P V 1 60 (j + 7)) := ⟨_, rfl⟩
    obtain ⟨p7, hp7⟩ : ∃ p, p = oo p6 (ck K P (decide (K (j + 8) = ((9 : Nat) : Int))) 2 (j + 8)) := ⟨_, rfl⟩
    obtain ⟨p8, hp8⟩ : ∃ p, p = oo p7 (tdO K P V 0 300 (j + 9)) := ⟨_, rfl⟩
    have ew : runW K P V nt j = p8 := by
      have q1 : endsO K P V nt (j + 1) = oo (ck K P (decide (K (j + 1) = 18)) 2 (j + 1)) (oo (ck K P nt 3 (j + 1)) (oo (ck K P (decide (K (j + 2) = 20)) 2 (j + 2)) (ptO K P V (V (j + 2)) (j + 3)))) := rfl
      have q2 : numO K P V 8 0 3 (j + 4) = oo (ck K P (decide (K (j + 4) = ((8 : Nat) : Int))) 2 (j + 4)) (tdO K P V 0 3 (j + 5)) := rfl
      have q3 : numO K P V 3 1 60 (j + 6) = oo (ck K P (decide (K (j + 6) = ((3 : Nat) : Int))) 2 (j + 6)) (tdO K P V 1 60 (j + 7)) := rfl
      have q4 : numO K P V 9 0 300 (j + 8) = oo (ck K P (decide (K (j + 8) = ((9 : Nat) : Int))) 2 (j + 8)) (tdO K P V 0 300 (j + 9)) := rfl
      unfold runW
      rw [hp8, hp7, hp6, hp5, hp4, hp3, hp2, hp1, q1, q2, q3, q4, e18, ent, pt_neg R (by omega)]
      simp only [oo_none, oo_assoc]
    refine g_X11_readWayR_50 (Q1 := fun r τ => r = none ∧ rBd σ n K P V E c x φ none (j + 2) (fun a => rd φ a x) τ)
      (Q2 := fun r τ => ∃ v, r = some (0, v) ∧ rBd σ n K P V E c x φ p1 (j + 3) (fun a => rd φ a x) τ ∧ (p1 = none → v = V (j + 2)))
      (Q3 := fun r τ => ∃ v, r = some (0, v) ∧ rBd σ n K P V E c x φ p2 (j + 4) (updF (fun a => rd φ a x) 71 (V (j + 2))) τ ∧ (p2 = none → v = V (j + 3)))
      (Q4 := fun r τ => r = none ∧ rBd σ n K P V E c x φ p3 (j + 5) (updF (updF (fun a => rd φ a x) 71 (V (j + 2))) 72 (V (j + 3))) τ)
      (Q5 := fun r τ => ∃ v, r = some (0, v) ∧ rBd σ n K P V E c x φ p4 (j + 6) (updF (updF (fun a => rd φ a x) 71 (V (j + 2))) 72 (V (j + 3))) τ ∧ (p4 = none → v = V (j + 5)))
      (Q6 := fun r τ => r = none ∧ rBd σ n K P V E c x φ p5 (j + 7) (updF (updF (updF (fun a => rd φ a x) 71 (V (j + 2))) 72 (V (j + 3))) 74 (V (j + 5))) τ)
      (Q7 := fun r τ => ∃ v, r = some (0, v) ∧ rBd σ n K P V E c x φ p6 (j + 8) (updF (updF (updF (fun a => rd φ a x) 71 (V (j + 2))) 72 (V (j + 3))) 74 (V (j + 5))) τ ∧ (p6 = none → v = V (j + 7)))
      (Q8 := fun r τ => r = none ∧ rBd σ n K P V E c x φ p7 (j + 9) (updF (updF (updF (updF (fun a => rd φ a x) 71 (V (j + 2))) 72 (V (j + 3))) 74 (V (j + 5))) 73 (V (j + 7))) τ)
      (Q9 := fun r τ => ∃ v, r = some (0, v) ∧ rBd σ n K P V E c x φ p8 (j + 10) (updF (updF (updF (updF (fun a => rd φ a x) 71 (V (j + 2))) 72 (V (j + 3))) 74 (V (j + 5))) 73 (V (j + 7))) τ ∧ (p8 = none → v = V (j + 9)))
      hd (S.eq h.2.1.1) x u3 u4 hu3 hu4 f0.1 (fun _ => ?_) (fun _ τ1 _ q1 => ?_) (fun _ τ1 _ q1 v2 τ2 _ q2 => by omega) (fun _ τ1 _ q1 v2 τ2 _ q2 => ?_) (fun _ τ1 _ q1 v2 τ2 _ q2 v3 τ3 _ q3 => ?_) (fun _ τ1 _ q1 v2 τ2 _ q2 v3 τ3 _ q3 τ4 _ q4 => ?_) (fun _ τ1 _ q1 v2 τ2 _ q2 v3 τ3 _ q3 τ4 _ q4 v5 τ5 _ q5 => ?_) (fun _ τ1 _ q1 v2 τ2 _ q2 v3 τ3 _ q3 τ4 _ q4 v5 τ5 _ q5 τ6 _ q6 => ?_) (fun _ τ1 _ q1 v2 τ2 _ q2 v3 τ3 _ q3 τ4 _ q4 v5 τ5 _ q5 τ6 _ q6 v7 τ7 _ q7 => ?_) (fun _ τ1 _ q1 v2 τ2 _ q2 v3 τ3 _ q3 τ4 _ q4 v5 τ5 _ q5 τ6 _ q6 v7 τ7 _ q7 τ8 _ q8 => ?_) (fun _ τ1 _ q1 v2 τ2 _ q2 v3 τ3 _ q3 τ4 _ q4 v5 τ5 _ q5 τ6 _ q6 v7 τ7 _ q7 τ8 _ q8 v9 τ9 _ q9 => ?_) (fun _ τ1 _ q1 v2 τ2 _ q2 v3 τ3 _ q3 τ4 _ q4 v5 τ5 _ q5 τ6 _ q6 v7 τ7 _ q7 τ8 _ q8 v9 τ9 _ q9 c3 => ?_) (fun _ τ1 _ q1 v2 τ2 _ q2 v3 τ3 _ q3 τ4 _ q4 v5 τ5 _ q5 τ6 _ q6 v7 τ7 _ q7 τ8 _ q8 v9 τ9 _ q9 c4 => ?_) (fun c2 => absurd rfl (f0.2.2.1 c2))
    · exact (next_M (Nat.le_refl 1) (S.eq h.2.1.1) T h.1 jc (by omega)).mono fun r τ _ q => ⟨q.1, rB_fr h q.2.1.m q.2.2 (fun y => y)⟩
    · have := rB_point (Nat.le_refl 2) S T q1.2 (v := -1) (fun _ => by decide)
      rw [oo_none, ← hp1] at this
      exact this
    · obtain ⟨v, e, b, ev⟩ := q2
      have e := so_inj e
      subst e
      have ge : p1 = none → 0 ≤ V (j + 2) ∧ V (j + 2) ≤ 9 := fun y => by
        rw [hp1, pt_neg R (by omega)] at y
        have k20 : K (j + 2) = 20 := of_decide_eq_true (ck_none.mp y)
        exact (R.2.2 _ (R.lt (by omega) (by omega))).2.1 k20
      have := rB_point (Nat.le_refl 2) S T (rB_wr b (a := 71) (by decide) ev) (v := v2) (fun y => by rw [ev y]; have := ge y; unfold inR; omega)
      rw [oo_cg (b' := ptO K P V (V (j + 2)) (j + 3)) (fun y => by rw [ev y]), ← hp2] at this
      exact this
    · obtain ⟨v, e, b, ev⟩ := q3
      have e := so_inj e
      subst e
      have := rB_want (Nat.le_refl 2) S T (rB_wr b (a := 72) (by decide) ev) 8 (by decide) (w := 444300616805) rfl
      rw [← hp3] at this
      exact this
    · have := rB_told (Nat.le_refl 2) S T q4.2 (lo := 0) (hi := 3) (fun _ => by decide) (by decide)
      rw [← hp4] at this
      exact this
    · obtain ⟨v, e, b, ev⟩ := q5
      have e := so_inj e
      subst e
      have := rB_want (Nat.le_refl 2) S T (rB_wr b (a := 74) (by decide) ev) 3 (by decide) (w := 499850634611) rfl
      rw [← hp5] at this
      exact this
    · have := rB_told (Nat.le_refl 2) S T q6.2 (lo := 1) (hi := 60) (fun _ => by decide) (by decide)
      rw [← hp6] at this
      exact this
    · obtain ⟨v, e, b, ev⟩ := q7
      have e := so_inj e
      subst e
      have := rB_want (Nat.le_refl 2) S T (rB_wr b (a := 73) (by decide) ev) 9 (by decide) (w := 1936617335) rfl
      rw [← hp7] at this
      exact this
    · have := rB_told (Nat.le_refl 2) S T q8.2 (lo := 0) (hi := 300) (fun _ => by decide) (by decide)
      rw [← hp8] at this
      exact this
    · obtain ⟨v, e, b, ev⟩ := q9
      exact b.1.fault.1
    · obtain ⟨v, e, b, ev⟩ := q9
      have e := so_inj e
      subst e
      have y := b.1.fault.2.1 c3
      have bw := rB_wr b (a := 75) (by decide) ev
      refine ⟨rfl, ?_, ⟨bw.2.1.1, fun a i y1 y2 y3 => by rw [rd_wr_n (by omega), rd_wr_n (by omega)]; exact bw.2.1.2 a i y1 y2 y3⟩, fun _ => ⟨?_, ?_, ?_, fun a a0 a1 => ?_⟩⟩
      · rw [ew]; exact (bw.1.wr (by omega)).wr (by omega)
      · rw [rd_wr_n (by omega), rd_wr_n (by omega)]; exact bw.2.2.1.1
      · rw [rd_wr_n (by omega), rd_wr_same, b.2.2.1.2]
      · rw [rd_wr_same]; exact wd.1
      · rw [rd_wr_n (by omega), rd_wr_n (by omega), bw.2.2.2 y a a0 (by omega)]; exact runG_eq a a0 a1
    · obtain ⟨v, e, b, ev⟩ := q9
      have y := b.1.fault.2.2.1 c4
      have e := so_inj e
      subst e
      have bw := rB_wr b (a := 75) (by decide) ev
      exact ⟨rfl, by rw [ew]; exact bw.1.to rfl (fun z => absurd z y), bw.2.1, fun z => absurd (ew.symm.trans z) y⟩
  · have ew : runW K P V nt j = o1 := by
      have q1 : endsO K P V nt (j + 1) = oo o1 (oo (ck K P (decide (K (j + 2) = 20)) 2 (j + 2)) (ptO K P V (V (j + 2)) (j + 3))) := by
        rw [eo, oo_assoc]; rfl
      unfold runW
      rw [q1]
      cases ho : o1 with
      | none => exact absurd ho z
      | some y => rfl
    have c2 : ¬ (rd ψ 68 2 ≤ 0) := fun y => z (f0.2.1 y)
    exact g_X11_readWayR_50 (Q1 := fun _ _ => True) (Q2 := fun _ _ => True) (Q3 := fun _ _ => True) (Q4 := fun _ _ => True) (Q5 := fun _ _ => True) (Q6 := fun _ _ => True) (Q7 := fun _ _ => True) (Q8 := fun _ _ => True) (Q9 := fun _ _ => True) hd (S.eq h.2.1.1) x u3 u4 hu3 hu4 f0.1 (fun c1 => absurd c1 c2) (fun c1 => absurd c1 c2) (fun c1 => absurd c1 c2) (fun c1 => absurd c1 c2) (fun c1 => absurd c1 c2) (fun c1 => absurd c1 c2) (fun c1 => absurd c1 c2) (fun c1 => absurd c1 c2) (fun c1 => absurd c1 c2) (fun c1 => absurd c1 c2) (fun c1 => absurd c1 c2) (fun c1 => absurd c1 c2) (fun c1 => absurd c1 c2) (fun _ => ⟨rfl, by rw [ew]; exact h.1.to rfl (fun y => absurd y z), h.2.1, fun y => absurd (ew.symm.trans y) z⟩)
theorem TK.wordV {σ : pS} {n : Int} {K P V E : Nat → Int} {c : Nat} (T : TK σ n K P V E c) {i : Nat} (hi : i < c) (hk : K i = 18) : ∃ l : List Int, isLs l ∧ V i = w32 l := by
  obtain ⟨b1, b2, b3, b4, b5⟩ := T.2.2.1 i hi
  rcases b5 with ⟨a1, a2, a3, a4, a5⟩ | ⟨a1, a2, l, run, a3, a4, a5⟩ | ⟨a1, a2, l, run, a3, a4, a5⟩ | ⟨a1, a2, a3, a4, a5⟩
  · omega
  · exact ⟨_, tRev_ls (fun j hj => (run.1 j hj).2), a4⟩
  · split at a5 <;> omega
  · rcases a5 with ⟨z1, z2⟩ | ⟨z1, z2⟩
    · have := vSig_R z1; omega
    · omega
theorem cd_inj {x y : Int} (hx : ∃ l : List Int, isLs l ∧ x = w32 l) (hy : ∃ l : List Int, isLs l ∧ y = w32 l) (e : cd x = cd y) : x = y := by
  obtain ⟨l, l1, l2⟩ := hx
  obtain ⟨m, m1, m2⟩ := hy
  rw [l2, m2, cd_w32 l1, cd_w32 m1] at e
  rw [l2, m2, w256_inj l1 m1 e]
theorem cd_L {x : Int} (hx : ∃ l : List Int, isLs l ∧ x = w32 l) (h : x < 1099511627776) : inL (cd x) := by
  obtain ⟨l, l1, l2⟩ := hx
  rw [l2, cd_w32 l1]
  have a := w256_R l1
  cases ht : l with
  | nil => decide
  | cons y t =>
    rw [ht] at l1 l2 a
    have hl : (y :: t).length ≤ 8 := by
      refine Nat.le_of_not_lt fun q => ?_
      have lo : ∀ {m : List Int}, isLs m → m ≠ [] → 32 ^ (m.length - 1) ≤ w32 m := fun {m} => by
        induction m with
        | nil => intro _ q; exact absurd rfl q
        | cons c t ih =>
          intro hm _
          have hc := hm c List.mem_cons_self
          have ht : isLs t := fun z hz => hm z (List.mem_cons_of_mem _ hz)
          show 32 ^ (t.length + 1 - 1) ≤ w32 t * 32 + c - 97 + 1
          cases t with
          | nil => show (32 : Int) ^ 0 ≤ 0 * 32 + c - 97 + 1; omega
          | cons c2 t2 =>
            have := ih ht (List.cons_ne_nil _ _)
            simp only [List.length_cons, Nat.add_sub_cancel] at this ⊢
            rw [Int.pow_succ]
            omega
      have g := lo l1 (List.cons_ne_nil _ _)
      have : (32 : Int) ^ 8 ≤ 32 ^ ((y :: t).length - 1) := by
        have e : (y :: t).length - 1 = 8 + ((y :: t).length - 9) := by omega
        rw [e, Int.pow_add]
        have : (0 : Int) < 32 ^ ((y :: t).length - 9) := Int.pow_pos (by decide)
        omega
      omega
    have tp := w256_top l1
    simp only [List.length_cons] at hl
    have : t.length = 0 ∨ t.length = 1 ∨ t.length = 2 ∨ t.length = 3 ∨ t.length = 4 ∨ t.length = 5 ∨ t.length = 6 ∨ t.length = 7 := by omega
    have b : (123 : Int) * 256 ^ t.length ≤ 9223372036854775807 := by
      rcases this with z | z | z | z | z | z | z | z <;> rw [z] <;> decide
    unfold inL; omega
