/-! the law's grammar: what it gives -/
section PLG
variable {K P V : Nat → Int} {c : Nat} {rn : Bool}
theorem unF_ext (R : tkR K V c) {q q' : lq} (h : unF K P V rn q = .inr q') (hj : qJ q ≤ c) : ext c rn false q q' ∧ qJ q' = qJ q + 1 ∧ qU q' = qU q + 1 ∧ isUn (K (qJ q)) = true ∧ qU q < 40 := by
  unfold unF at h
  split at h
  · cases h
  · rename_i n1
    split at h
    · cases h
    · rename_i n2
      have e := Sum.inr.inj h
      have un : isUn (K (qJ q)) = true := by
        cases z : isUn (K (qJ q)) with
        | true => rfl
        | false => exact absurd (Or.inl z) n1
      have uv : K (qJ q) = 19 ∨ K (qJ q) = 15 ∨ K (qJ q) = 16 ∨ K (qJ q) = 17 ∨ K (qJ q) = 9 ∨ K (qJ q) = 8 ∨ K (qJ q) = 3 := of_decide_eq_true un
      have jc : qJ q < c := R.lt hj (by omega)
      have u40 : qU q < 40 := by
        by_cases z : 40 ≤ qU q
        · exact absurd (Or.inr z) n1
        · omega
      have cr : 0 ≤ uCo (K (qJ q)) ∧ uCo (K (qJ q)) ≤ 6 := by
        unfold uCo
        rcases uv with z | z | z | z | z | z | z <;> rw [z] <;> decide
      have ty : ∀ ks, tyRun [(uCo (K (qJ q)), uNum K V (qJ q))] ks = some (false :: ks) := fun ks => by
        show (match tyOp (uCo (K (qJ q))) ks with | some ks' => tyRun [] ks' | none => none) = _
        unfold tyOp
        rw [if_pos cr]; rfl
      have nr : 0 ≤ uNum K V (qJ q) ∧ uNum K V (qJ q) ≤ 9999 := by
        unfold uNum
        by_cases z : K (qJ q) = 19
        · rw [if_pos z]; exact (R.2.2 _ jc).2.2.1 z
        · rw [if_neg z]; exact ⟨Int.le_refl _, by decide⟩
      have so : stepOk rn (uCo (K (qJ q)), uNum K V (qJ q)) := by
        refine ⟨nr.1, nr.2, fun z => ?_⟩
        have n3 : ¬ (K (qJ q) = 9 ∨ K (qJ q) = 8) := fun y => n2 ⟨z, y⟩
        show uCo (K (qJ q)) ≠ 4 ∧ uCo (K (qJ q)) ≠ 5
        unfold uCo
        rcases uv with z | z | z | z | z | z | z <;> rw [z] at n3 ⊢ <;> first | decide | exact absurd (Or.inl rfl) n3 | exact absurd (Or.inr rfl) n3
      rw [← e]
      refine ⟨⟨[(uCo (K (qJ q)), uNum K V (qJ q))], [(uCo (K (qJ q)), uNum K V (qJ q))], rfl, rfl, show qU q ≤ qU q + 1 by omega, show qU q + 1 ≤ 40 by omega, show qJ q ≤ qJ q + 1 by omega, show qJ q + 1 ≤ c by omega, ty, ty, fun u st => ⟨u (uCo (K (qJ q))) (uNum K V (qJ q)), ?_, ?_⟩, ?_, ?_, ?_, ?_, fun p hp => ?_, fun p hp => ?_⟩, rfl, rfl, un, u40⟩
      · show mOp (uCo (K (qJ q))) (uNum K V (qJ q)) u st = _
        unfold mOp
        rw [if_pos (by omega)]
      · show mOp (uCo (K (qJ q))) (uNum K V (qJ q)) u st = _
        unfold mOp
        rw [if_pos (by omega)]
      · show (if uCo (K (qJ q)) ≤ 6 then 1 else 0) + 0 = qU q + 1 - qU q
        rw [if_pos cr.2]; omega
      · show (if uCo (K (qJ q)) ≤ 6 then 1 else 0) + 0 = qU q + 1 - qU q
        rw [if_pos cr.2]; omega
      · show 1 ≤ qJ q + 1 - qJ q
        omega
      · show 1 ≤ qJ q + 1 - qJ q
        omega
      · rw [List.mem_singleton.mp hp]; exact so
      · rw [List.mem_singleton.mp hp]; exact so
theorem ext.jc {ty : Bool} {q q' : lq} (h : ext c rn ty q q') : qJ q' ≤ c := by
  obtain ⟨X, Y, h1, h2, h3, h4, h5, h6, h7⟩ := h
  exact h6
theorem ext.jj {ty : Bool} {q q' : lq} (h : ext c rn ty q q') : qJ q ≤ qJ q' := by
  obtain ⟨X, Y, h1, h2, h3, h4, h5, h6, h7⟩ := h
  exact h5
theorem ty_pm (k : Int) (ks : List Bool) : tyOp (pmC k) (false :: false :: ks) = some (false :: ks) := by unfold pmC; split <;> rfl
theorem ty_cm (k : Int) (ks : List Bool) : tyOp (cmC k) (false :: false :: ks) = some (true :: ks) := by
  unfold cmC
  split
  · rfl
  · split <;> rfl
theorem suL_ext (R : tkR K V c) {q0 : lq} : ∀ (n : Nat) {q q' : lq}, ext c rn false q0 q → suL K P V rn n q = .inr q' → ext c rn false q0 q' ∧ qJ q ≤ qJ q'
  | 0, q, q', h, e => by
    have e : Sum.inr q = (Sum.inr q' : lR) := e
    rw [← Sum.inr.inj e]; exact ⟨h, Nat.le_refl _⟩
  | n + 1, q, q', h, e => by
    have e : (if K (qJ q) = 43 ∨ K (qJ q) = 45 then lbd (unF K P V rn (qNx q)) (fun q1 => suL K P V rn n (qPt q1 (pmC (K (qJ q))))) else .inr q) = .inr q' := e
    split at e
    · rename_i z
      have jc : qJ q < c := R.lt h.jc (by omega)
      obtain ⟨q1, e1, e2⟩ := lbd_ok e
      have u := unF_ext R e1 (show qJ q + 1 ≤ c by omega)
      have g := suL_ext R n (ext_bin h u.1 (by unfold pmC; split <;> omega) (ty_pm (K (qJ q)))) e2
      have u2 : qJ q1 = qJ q + 1 + 1 := u.2.1
      have g2 : qJ q1 ≤ qJ q' := g.2
      exact ⟨g.1, by omega⟩
    · rw [← Sum.inr.inj e]; exact ⟨h, Nat.le_refl _⟩
theorem suL_stop (R : tkR K V c) : ∀ (n : Nat) {q q' : lq}, qJ q ≤ c → c - qJ q < n → suL K P V rn n q = .inr q' → K (qJ q') ≠ 43 ∧ K (qJ q') ≠ 45
  | 0, q, q', _, h, _ => by omega
  | n + 1, q, q', hj, h, e => by
    have e : (if K (qJ q) = 43 ∨ K (qJ q) = 45 then lbd (unF K P V rn (qNx q)) (fun q1 => suL K P V rn n (qPt q1 (pmC (K (qJ q))))) else .inr q) = .inr q' := e
    split at e
    · rename_i z
      have jc : qJ q < c := R.lt hj (by omega)
      obtain ⟨q1, e1, e2⟩ := lbd_ok e
      have u := unF_ext R e1 (show qJ q + 1 ≤ c by omega)
      have u2 : qJ q1 = qJ q + 1 + 1 := u.2.1
      have uj := u.1.jc
      exact suL_stop R n (q := qPt q1 (pmC (K (qJ q)))) (show qJ q1 ≤ c from uj) (show c - qJ q1 < n by omega) e2
    · rename_i z
      rw [← Sum.inr.inj e]
      exact ⟨fun y => z (Or.inl y), fun y => z (Or.inr y)⟩
theorem suF_ext (R : tkR K V c) {n : Nat} {q q' : lq} (hj : qJ q ≤ c) (e : suF K P V rn n q = .inr q') : ext c rn false q q' ∧ qJ q < qJ q' ∧ (c < n → K (qJ q') ≠ 43 ∧ K (qJ q') ≠ 45) := by
  obtain ⟨q1, e1, e2⟩ := lbd_ok e
  have u := unF_ext R e1 hj
  have g := suL_ext R n u.1 e2
  have u2 : qJ q1 = qJ q + 1 := u.2.1
  exact ⟨g.1, by have := g.2; omega, fun hn => suL_stop R n u.1.jc (by omega) e2⟩
theorem cmF_ext (R : tkR K V c) {n : Nat} {q q' : lq} (hj : qJ q ≤ c) (e : cmF K P V rn n q = .inr q') : ext c rn true q q' ∧ qJ q < qJ q' ∧ (c < n → K (qJ q') ≠ 43 ∧ K (qJ q') ≠ 45) := by
  obtain ⟨q1, e1, e2⟩ := lbd_ok e
  have s1 := suF_ext R hj e1
  split at e2
  · rename_i z
    obtain ⟨q2, e3, e4⟩ := lbd_ok e2
    have j1 := s1.1.jc
    have jc : qJ q1 < c := R.lt j1 (by omega)
    have s2 := suF_ext R (q := qNx q1) (show qJ q1 + 1 ≤ c by omega) e3
    have ee := Sum.inr.inj e4
    rw [← ee]
    have l2 : qJ q1 + 1 < qJ q2 := s2.2.1
    exact ⟨ext_bin s1.1 s2.1 (by unfold cmC; split <;> (try split) <;> omega) (ty_cm (K (qJ q1))), by have := s1.2.1; show qJ q < qJ q2; omega, s2.2.2⟩
  · cases e2
theorem ntF_ext (R : tkR K V c) : ∀ (n dep : Nat) {q q' : lq} {dep' : Nat}, qJ q ≤ c → ntF K P n dep q = .inr (dep', q') → dep ≤ dep' ∧ qJ q' = qJ q + (dep' - dep) ∧ qA q' = qA q ∧ qB q' = qB q ∧ qU q' = qU q ∧ qJ q' ≤ c
  | 0, dep, q, q', dep', hj, e => by
    have e : Sum.inr (dep, q) = (Sum.inr (dep', q') : Sum (Int × Int) (Nat × lq)) := e
    have e := Sum.inr.inj e
    have e1 : dep = dep' := congrArg Prod.fst e
    have e2 : q = q' := congrArg Prod.snd e
    subst e1 e2
    exact ⟨Nat.le_refl _, by omega, rfl, rfl, rfl, hj⟩
  | n + 1, dep, q, q', dep', hj, e => by
    have e : (if K (qJ q) = 14 then (if 6 < dep then .inl (flt K P 2 (qJ q)) else ntF K P n (dep + 1) (qNx q)) else .inr (dep, q)) = (Sum.inr (dep', q') : Sum (Int × Int) (Nat × lq)) := e
    split at e
    · rename_i z
      split at e
      · cases e
      · have jc : qJ q < c := R.lt hj (by omega)
        obtain ⟨g1, g2, g3, g4, g5, g6⟩ := ntF_ext R n (dep + 1) (q := qNx q) (show qJ q + 1 ≤ c by omega) e
        have g2 : qJ q' = qJ q + 1 + (dep' - (dep + 1)) := g2
        exact ⟨by omega, by omega, g3, g4, g5, g6⟩
    · have e := Sum.inr.inj e
      have e1 : dep = dep' := congrArg Prod.fst e
      have e2 : q = q' := congrArg Prod.snd e
      subst e1 e2
      exact ⟨Nat.le_refl _, by omega, rfl, rfl, rfl, hj⟩
theorem ntF_stop : ∀ (n dep : Nat) {q q' : lq} {dep' : Nat}, 7 < n + dep → ntF K P n dep q = .inr (dep', q') → dep ≤ 7 → K (qJ q') ≠ 14 ∧ dep' ≤ 7
  | 0, dep, q, q', dep', hn, e, hd => by omega
  | n + 1, dep, q, q', dep', hn, e, hd => by
    have e : (if K (qJ q) = 14 then (if 6 < dep then .inl (flt K P 2 (qJ q)) else ntF K P n (dep + 1) (qNx q)) else .inr (dep, q)) = (Sum.inr (dep', q') : Sum (Int × Int) (Nat × lq)) := e
    split at e
    · split at e
      · cases e
      · exact ntF_stop n (dep + 1) (by omega) e (by omega)
    · rename_i z
      have e := Sum.inr.inj e
      have e1 : dep = dep' := congrArg Prod.fst e
      have e2 : q = q' := congrArg Prod.snd e
      subst e1 e2
      exact ⟨z, hd⟩
/-- what a descent may be asked -/
def recOk (c : Nat) (rn : Bool) (rec : Nat → lq → lR) : Prop := ∀ (oth : Nat) (q q' : lq), qJ q ≤ c → rec oth q = .inr q' → ext c rn true q q' ∧ qJ q < qJ q'
theorem onF_ext (R : tkR K V c) {rec : Nat → lq → lR} (hr : recOk c rn rec) {n oth : Nat} {q q' : lq} (hj : qJ q ≤ c) (e : onF K P V rn rec n oth q = .inr q') : ext c rn true q q' ∧ qJ q < qJ q' := by
  unfold onF at e
  split at e
  · cases e
  · rename_i dep q1 e0
    obtain ⟨g1, g2, g3, g4, g5, g6⟩ := ntF_ext R 9 oth hj e0
    obtain ⟨q3, e1, e2⟩ := lbd_ok e
    have e2 := Sum.inr.inj e2
    rw [← e2]
    have core : ext c rn true q1 q3 ∧ qJ q1 < qJ q3 := by
      split at e1
      · rename_i z
        unfold nsF at e1
        split at e1
        · cases e1
        · obtain ⟨q2, e3, e4⟩ := lbd_ok e1
          have jc : qJ q1 < c := R.lt g6 (by omega)
          have r := hr (dep + 1) (qNx q1) q2 (show qJ q1 + 1 ≤ c by omega) e3
          split at e4
          · rename_i z2
            have e4 := Sum.inr.inj e4
            rw [← e4]
            have r2 : qJ q1 + 1 < qJ q2 := r.2
            exact ⟨ext_post (ext_pre r.1) (R.lt r.1.jc (by omega)), show qJ q1 < qJ q2 + 1 by omega⟩
          · cases e4
      · have r := cmF_ext R g6 e1
        exact ⟨r.1, r.2.1⟩
    refine ⟨ext_not core.1 (by omega) g3 g4 g5, ?_⟩
    have := core.2
    show qJ q < qJ q3
    omega
theorem boL_ext (R : tkR K V c) {rec : Nat → lq → lR} (hr : recOk c rn rec) {n oth : Nat} {q0 : lq} : ∀ (m : Nat) {q q' : lq}, ext c rn true q0 q → boL K P V rn rec n oth m q = .inr q' → ext c rn true q0 q' ∧ qJ q ≤ qJ q' ∧ (c - qJ q < m → K (qJ q') ≠ 13)
  | 0, q, q', h, e => by
    have e : Sum.inr q = (Sum.inr q' : lR) := e
    rw [← Sum.inr.inj e]; exact ⟨h, Nat.le_refl _, fun z => by omega⟩
  | m + 1, q, q', h, e => by
    have e : (if K (qJ q) = 13 then lbd (onF K P V rn rec n oth (qNx q)) (fun q1 => boL K P V rn rec n oth m (qPt q1 22)) else .inr q) = .inr q' := e
    split at e
    · rename_i z
      have jc : qJ q < c := R.lt h.jc (by omega)
      obtain ⟨q1, e1, e2⟩ := lbd_ok e
      have u := onF_ext R hr (q := qNx q) (show qJ q + 1 ≤ c by omega) e1
      have u2 : qJ q + 1 < qJ q1 := u.2
      have g := boL_ext R hr m (ext_bin h u.1 (by decide) (fun ks => rfl)) e2
      have g2 : qJ q1 ≤ qJ q' := g.2.1
      exact ⟨g.1, by omega, fun y => g.2.2 (show c - qJ q1 < m by omega)⟩
    · rename_i z
      rw [← Sum.inr.inj e]; exact ⟨h, Nat.le_refl _, fun _ => z⟩
theorem boF_ext (R : tkR K V c) {rec : Nat → lq → lR} (hr : recOk c rn rec) {n oth : Nat} {q q' : lq} (hj : qJ q ≤ c) (e : boF K P V rn rec n oth q = .inr q') : ext c rn true q q' ∧ qJ q < qJ q' ∧ (c < n → K (qJ q') ≠ 13) := by
  obtain ⟨q1, e1, e2⟩ := lbd_ok e
  have u := onF_ext R hr hj e1
  have g := boL_ext R hr n u.1 e2
  exact ⟨g.1, by have := u.2; have := g.2.1; omega, fun z => g.2.2 (by omega)⟩
theorem eiL_ext (R : tkR K V c) {rec : Nat → lq → lR} (hr : recOk c rn rec) {n oth : Nat} {q0 : lq} : ∀ (m : Nat) {q q' : lq}, ext c rn true q0 q → eiL K P V rn rec n oth m q = .inr q' → ext c rn true q0 q' ∧ qJ q ≤ qJ q' ∧ (c - qJ q < m → K (qJ q') ≠ 12)
  | 0, q, q', h, e => by
    have e : Sum.inr q = (Sum.inr q' : lR) := e
    rw [← Sum.inr.inj e]; exact ⟨h, Nat.le_refl _, fun z => by omega⟩
  | m + 1, q, q', h, e => by
    have e : (if K (qJ q) = 12 then lbd (boF K P V rn rec n oth (qNx q)) (fun q1 => eiL K P V rn rec n oth m (qPt q1 21)) else .inr q) = .inr q' := e
    split at e
    · rename_i z
      have jc : qJ q < c := R.lt h.jc (by omega)
      obtain ⟨q1, e1, e2⟩ := lbd_ok e
      have u := boF_ext R hr (q := qNx q) (show qJ q + 1 ≤ c by omega) e1
      have u2 : qJ q + 1 < qJ q1 := u.2.1
      have g := eiL_ext R hr m (ext_bin h u.1 (by decide) (fun ks => rfl)) e2
      have g2 : qJ q1 ≤ qJ q' := g.2.1
      exact ⟨g.1, by omega, fun y => g.2.2 (show c - qJ q1 < m by omega)⟩
    · rename_i z
      rw [← Sum.inr.inj e]; exact ⟨h, Nat.le_refl _, fun _ => z⟩
theorem eiF_ok (R : tkR K V c) (n : Nat) : ∀ D : Nat, recOk c rn (eiF K P V rn n D)
  | 0, oth, q, q', _, e => by
    have e : Sum.inl ((0 : Int), (0 : Int)) = (Sum.inr q' : lR) := e
    cases e
  | D + 1, oth, q, q', hj, e => by
    have e : lbd (boF K P V rn (eiF K P V rn n D) n oth q) (eiL K P V rn (eiF K P V rn n D) n oth n) = .inr q' := e
    obtain ⟨q1, e1, e2⟩ := lbd_ok e
    have ih := eiF_ok R n D
    have u := boF_ext R ih hj e1
    have g := eiL_ext R ih n u.1 e2
    exact ⟨g.1, by have := u.2.1; have := g.2.1; omega⟩
end PLG
