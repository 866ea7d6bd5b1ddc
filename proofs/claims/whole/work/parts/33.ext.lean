/-! what else the two objects agree on: the law, what was reckoned before, sweeps -/
theorem vBit_bq {x k : Int} (hk : 0 ≤ k ∧ k < 32) : vBit x k = bq x k.toNat := by
  unfold vBit
  have h := and1_ne0 (i_shr x k)
  rw [bq_shr hk (by omega), Nat.zero_add] at h
  cases e : bq x k.toNat
  · rw [e] at h
    exact decide_eq_false (fun q => by have := h.mp q; cases this)
  · rw [e] at h
    exact decide_eq_true (h.mpr rfl)
/-- the reference's cells that its answers speak of -/
def MF (a i : Int) : Prop := (a = 68 ∧ ((30 ≤ i ∧ i ≤ 33) ∨ i = 51 ∨ i = 65)) ∨ (77 ≤ a ∧ a ≤ 82) ∨ a = 84 ∨ (89 ≤ a ∧ a ≤ 92) ∨ a = 94 ∨ (96 ≤ a ∧ a ≤ 100) ∨ (108 ≤ a ∧ a ≤ 112) ∨ a = 133
theorem MF.row {σ τ : pS} (h : same σ τ MF) {a : Int} (ha : (77 ≤ a ∧ a ≤ 82) ∨ a = 84 ∨ (89 ≤ a ∧ a ≤ 92) ∨ a = 94 ∨ (96 ≤ a ∧ a ≤ 100) ∨ (108 ≤ a ∧ a ≤ 112) ∨ a = 133) : ∀ i, rd τ a i = rd σ a i := fun i => h a i (by unfold MF; omega)
theorem MF.fld {σ τ : pS} (h : same σ τ MF) {i : Int} (hi : (30 ≤ i ∧ i ≤ 33) ∨ i = 51 ∨ i = 65) : rd τ 68 i = rd σ 68 i := h 68 i (by unfold MF; omega)
theorem wHit_eq {σ τ : pS} (h : same σ τ MF) (k r t : Int) : wHit τ k r t = wHit σ k r t := by
  unfold wHit
  rw [MF.row h (a := 96) (by omega), MF.row h (a := 99) (by omega), MF.row h (a := 100) (by omega)]
theorem wLast_eq {σ τ : pS} (h : same σ τ MF) (k r : Int) (n : Nat) : wLast τ k r n = wLast σ k r n := by
  induction n with
  | zero => rfl
  | succ n ih => unfold wLast; rw [wHit_eq h, ih]
theorem wTel_eq {σ τ : pS} (h : same σ τ MF) (k r : Int) : wTel τ k r = wTel σ k r := by
  unfold wTel
  rw [MF.fld h (i := 51) (by omega), wLast_eq h]
theorem wFresh_eq {σ τ : pS} (h : same σ τ MF) (k r : Int) : wFresh τ k r = wFresh σ k r := by
  unfold wFresh
  rw [wTel_eq h, MF.row h (a := 98) (by omega)]
theorem wWind_eqm {σ τ : pS} (h : same σ τ MF) (k : Int) (n : Nat) : wWind τ k n = wWind σ k n := by
  induction n with
  | zero => unfold wWind; rw [wTel_eq h, MF.row h (a := 97) (by omega)]
  | succ n ih => unfold wWind; rw [wTel_eq h, MF.row h (a := 97) (by omega), ih]
/-- the law's two lists of steps, out of the two memories -/
def mList (σ : pS) (y : Int) : Option (List (Int × Int)) := if rd σ 94 y = 1 then some ((List.range (rd σ 92 y - rd σ 91 y).toNat).map (fun (j : Nat) => (rd σ 89 (rd σ 91 y + (j : Int)), rd σ 90 (rd σ 91 y + (j : Int))))) else none
def cList (σ : pS) (l y : Int) : Option (List (Int × Int)) := if rd σ (l + 1) y = -1 then none else some ((List.range (rd σ (l + 2) y - rd σ (l + 1) y).toNat).map (fun (j : Nat) => (rd σ (l + 4) (rd σ (l + 1) y + (j : Int)), rd σ (l + 5) (rd σ (l + 1) y + (j : Int)))))
theorem mList_eq {σ τ : pS} (h : same σ τ MF) (y : Int) : mList τ y = mList σ y := by
  have e0 := MF.row h (a := 89) (by omega)
  have e1 := MF.row h (a := 90) (by omega)
  have e2 := MF.row h (a := 91) (by omega)
  have e3 := MF.row h (a := 92) (by omega)
  have e4 := MF.row h (a := 94) (by omega)
  unfold mList
  simp only [e0, e1, e2, e3, e4]
/-- a list of steps as a law of the line y has it -/
def lawOne (y : Int) (P : List (Int × Int)) : Prop := tyRun P [] = some [true] ∧ nU P ≤ 40 ∧ P.length ≤ 600 ∧ ∀ p ∈ P, 0 ≤ p.2 ∧ p.2 ≤ 9999 ∧ (y = 0 → p.1 ≠ 4 ∧ p.1 ≠ 5)
/-- a step of the class, its number only where it is told -/
def lNm (p : Int × Int) : Int × Int := (p.1, if p.1 = 19 then p.2 else 0)
def lawRel (y : Int) : Option (List (Int × Int)) → Option (List (Int × Int)) → Prop
  | none, none => True
  | some P, some Q => ∃ P' : List (Int × Int), Q.map lNm = (lTr P').map lNm ∧ lawOne y P ∧ lawOne y P' ∧ ∀ u : Int → Int → Int, mRun u P [] = mRun u P' []
  | _, _ => False
def RLaw (σ : pS) : Prop := (rd σ 0 8 = 17 ∨ 141 ≤ rd σ 0 8) ∧ (∃ n2 : Nat, Inst2 σ (rd σ 0 8) n2 ∧ n2 < 100000 ∧ ∀ y : Int, 0 ≤ y → y < 2 → rd σ (rd σ 0 8 + 1) y = -1 ∨ (0 ≤ rd σ (rd σ 0 8 + 1) y ∧ rd σ (rd σ 0 8 + 1) y ≤ rd σ (rd σ 0 8 + 2) y ∧ rd σ (rd σ 0 8 + 2) y ≤ n2)) ∧ ∀ y : Int, 0 ≤ y → y < 2 → (rd σ 94 y = 0 ∨ (rd σ 94 y = 1 ∧ 0 ≤ rd σ 91 y ∧ rd σ 91 y ≤ rd σ 92 y ∧ rd σ 92 y ≤ 600)) ∧ lawRel y (mList σ y) (cList σ (rd σ 0 8) y)
/-- what the units of a law are as known at k, for the way w in the hour h -/
def uM (σ : pS) (k w h : Int) (a n : Int) : Int := if a = 0 then n else if a = 1 then h else if a = 2 then wWind σ k h.toNat else if a = 3 then wFresh σ k h else if a = 4 then rd σ 81 w + sumF (fun i => wFresh σ k i) (h.toNat + 1) else if a = 5 then rd σ 80 w else rd σ 79 w
/-- whether a way is shut in an hour, as known at k -/
def shutS (σ : pS) (k w h : Int) : Bool := vWay (rd σ 68 30) (rd σ 68 31) w && mVal (fun a n => uM σ k w h a n) (mList σ (if w < 6 then 0 else 1))
theorem uM_eq {σ τ : pS} (h : same σ τ MF) (k w r a n : Int) : uM τ k w r a n = uM σ k w r a n := by
  have e : (fun i => wFresh τ k i) = (fun i => wFresh σ k i) := funext fun i => wFresh_eq h k i
  unfold uM
  rw [wWind_eqm h, wFresh_eq h, MF.row h (a := 81) (by omega), MF.row h (a := 80) (by omega), MF.row h (a := 79) (by omega), e]
theorem shutS_eq {σ τ : pS} (h : same σ τ MF) (k w r : Int) : shutS τ k w r = shutS σ k w r := by
  have e : (fun a n => uM τ k w r a n) = (fun a n => uM σ k w r a n) := funext fun a => funext fun n => uM_eq h k w r a n
  unfold shutS
  rw [MF.fld h (i := 30) (by omega), MF.fld h (i := 31) (by omega), mList_eq h, e]
/-- whether a way is open in a minute, as known at k -/
def openS (σ : pS) (k w m : Int) : Bool := vOn σ w m && !(shutS σ k w (vHour m))
theorem openS_eq {σ τ : pS} (h : same σ τ MF) (k w m : Int) : openS τ k w m = openS σ k w m := by
  unfold openS vOn
  rw [shutS_eq h, MF.row h (a := 81) (by omega), MF.row h (a := 82) (by omega)]
/-- the minutes of a way with a skill; who may go it -/
def minS (σ : pS) (sk w : Int) : Int := if w < 6 then rd σ 79 w else if rd σ 79 w - (rd σ 79 w * (sk - rd σ 80 w)).tdiv 4 < 1 then 1 else rd σ 79 w - (rd σ 79 w * (sk - rd σ 80 w)).tdiv 4
def goS (σ : pS) (sk w : Int) : Bool := decide (vWay (rd σ 68 30) (rd σ 68 31) w = true ∧ (w < 6 ∨ rd σ 80 w ≤ sk))
theorem minS_eq {σ τ : pS} (h : same σ τ MF) (sk w : Int) : minS τ sk w = minS σ sk w := by
  unfold minS
  rw [MF.row h (a := 79) (by omega), MF.row h (a := 80) (by omega)]
theorem goS_eq {σ τ : pS} (h : same σ τ MF) (sk w : Int) : goS τ sk w = goS σ sk w := by
  unfold goS
  rw [MF.fld h (i := 30) (by omega), MF.fld h (i := 31) (by omega), MF.row h (a := 80) (by omega)]
/-- the pass of a skier at a minute, as known at k: -1 none, -2 several lifts -/
def pHit (σ : pS) (k s m x : Int) : Bool := decide (rd σ 108 x = s ∧ vCounts (rd σ 111 x) (rd σ 112 x) k = true ∧ rd σ 110 x = m)
def pAtN (σ : pS) (k s m : Int) : Nat → Int
  | 0 => -1
  | n + 1 => if pHit σ k s m (n : Int) then (if pAtN σ k s m n = -1 ∨ pAtN σ k s m n = rd σ 109 (n : Int) then rd σ 109 (n : Int) else -2) else pAtN σ k s m n
def pAt (σ : pS) (k s m : Int) : Int := pAtN σ k s m (rd σ 68 65).toNat
/-- the next pass from a minute on; 601 - j is the minute -/
def nxN (σ : pS) (k s : Int) : Nat → Int
  | 0 => 1000000
  | j + 1 => if pAt σ k s (600 - (j : Int)) = -1 then nxN σ k s j else 600 - (j : Int)
def nextS (σ : pS) (k s m : Int) : Int := nxN σ k s (601 - m).toNat
/-- whether a skier may begin a way in a minute -/
def stS (σ : pS) (k s sk w m : Int) : Bool := decide (m ≤ 480 ∧ vWay (rd σ 68 30) (rd σ 68 31) w = true ∧ ¬ (pAt σ k s m = -2 ∨ (0 ≤ pAt σ k s m ∧ pAt σ k s m ≠ w)) ∧ m + minS σ sk w ≤ nextS σ k s (m + 1) ∧ (pAt σ k s m = w ∨ (goS σ sk w = true ∧ ¬ (w < 6 ∧ rd σ 84 w = 1) ∧ openS σ k w m = true)))
/-- where he can stand by what came before, the first j minutes gone through -/
def cmN (σ : pS) (k s sk : Int) : Nat → Int → Int → Bool
  | 0, m, p => decide (m = 0 ∧ p = rd σ 68 32)
  | j + 1, m, p => cmN σ k s sk j m p || (decide (m = (j : Int) + 1 ∧ pAt σ k s (j : Int) = -1) && cmN σ k s sk j (j : Int) p) || (List.range 13).any (fun w => stS σ k s sk (w : Int) (j : Int) && cmN σ k s sk j (j : Int) (rd σ 77 (w : Int)) && decide (m = (j : Int) + minS σ sk (w : Int) ∧ rd σ 78 (w : Int) = p))
def cameS (σ : pS) (k s sk m p : Int) : Bool := cmN σ k s sk 541 m p
/-- from where he can go on, the last j minutes gone through -/
def gsN (σ : pS) (k s sk : Int) : Nat → Int → Int → Bool
  | 0, m, _ => decide (540 < m)
  | j + 1, m, p => if m = 540 - (j : Int) then ((decide (pAt σ k s m = -1) && gsN σ k s sk j (m + 1) p) || (List.range 13).any (fun w => vWay (rd σ 68 30) (rd σ 68 31) (w : Int) && decide (rd σ 77 (w : Int) = p) && stS σ k s sk (w : Int) m && gsN σ k s sk j (m + minS σ sk (w : Int)) (rd σ 78 (w : Int)))) else gsN σ k s sk j m p
def goesS (σ : pS) (k s sk m p : Int) : Bool := gsN σ k s sk 541 m p
theorem pHit_eq {σ τ : pS} (h : same σ τ MF) (k s m x : Int) : pHit τ k s m x = pHit σ k s m x := by
  unfold pHit
  rw [MF.row h (a := 108) (by omega), MF.row h (a := 110) (by omega), MF.row h (a := 111) (by omega), MF.row h (a := 112) (by omega)]
theorem pAtN_eq {σ τ : pS} (h : same σ τ MF) (k s m : Int) (n : Nat) : pAtN τ k s m n = pAtN σ k s m n := by
  induction n with
  | zero => rfl
  | succ n ih => unfold pAtN; rw [pHit_eq h, ih, MF.row h (a := 109) (by omega)]
theorem pAt_eq {σ τ : pS} (h : same σ τ MF) (k s m : Int) : pAt τ k s m = pAt σ k s m := by
  unfold pAt
  rw [MF.fld h (i := 65) (by omega), pAtN_eq h]
theorem nxN_eq {σ τ : pS} (h : same σ τ MF) (k s : Int) (n : Nat) : nxN τ k s n = nxN σ k s n := by
  induction n with
  | zero => rfl
  | succ n ih => unfold nxN; rw [pAt_eq h, ih]
theorem stS_eq {σ τ : pS} (h : same σ τ MF) (k s sk w m : Int) : stS τ k s sk w m = stS σ k s sk w m := by
  unfold stS nextS
  rw [MF.fld h (i := 30) (by omega), MF.fld h (i := 31) (by omega), MF.row h (a := 84) (by omega), pAt_eq h, minS_eq h, goS_eq h, openS_eq h, nxN_eq h]
theorem cmN_eq {σ τ : pS} (h : same σ τ MF) (k s sk : Int) (n : Nat) : ∀ m p : Int, cmN τ k s sk n m p = cmN σ k s sk n m p := by
  induction n with
  | zero =>
    intro m p
    unfold cmN
    rw [MF.fld h (i := 32) (by omega)]
  | succ n ih =>
    intro m p
    unfold cmN
    simp only [ih, pAt_eq h, stS_eq h, minS_eq h, MF.row h (a := 77) (by omega), MF.row h (a := 78) (by omega)]
theorem gsN_eq {σ τ : pS} (h : same σ τ MF) (k s sk : Int) (n : Nat) : ∀ m p : Int, gsN τ k s sk n m p = gsN σ k s sk n m p := by
  induction n with
  | zero => intro m p; rfl
  | succ n ih =>
    intro m p
    unfold gsN
    simp only [ih, pAt_eq h, stS_eq h, minS_eq h, MF.row h (a := 77) (by omega), MF.row h (a := 78) (by omega), MF.fld h (i := 30) (by omega), MF.fld h (i := 31) (by omega)]
/-! sweeps: where the two stand, when they are free, when each run was swept -/
abbrev swS : Type := (Int × Int) × (Int × Int) × (Int → Int)
def swMax (f : Int → Int) : Nat → Int
  | 0 => 0
  | n + 1 => max (swMax f n) (f (n : Int))
/-- when the runs above a run are swept; -1 if one isn't yet -/
def swReady (fr to dn : Int → Int) (run : Int) : Nat → Int
  | 0 => 0
  | n + 1 => if to (6 + (n : Int)) = fr (6 + run) then (if swReady fr to dn run n < 0 ∨ dn (n : Int) < 0 then -1 else max (swReady fr to dn run n) (dn (n : Int))) else swReady fr to dn run n
def swAt (c : Bool) (q : Int × Int) : Int := if c then q.2 else q.1
def swPut (c : Bool) (q : Int × Int) (v : Int) : Int × Int := if c then (q.1, v) else (v, q.2)
def swEnds (R : Int) (fr to tk far : Int → Int) (c : Bool × Int) (s : swS) : Int := max (swAt c.1 s.2.1 + far (10 * swAt c.1 s.1 + fr (6 + c.2))) (swReady fr to s.2.2 c.2 R.toNat) + tk (6 + c.2)
def swCan (R : Int) (fr to far : Int → Int) (n : Int) (c : Bool × Int) (s : swS) : Prop := 0 ≤ c.2 ∧ c.2 < R ∧ (c.1 = true → n ≠ 1) ∧ s.2.2 c.2 < 0 ∧ 0 ≤ swReady fr to s.2.2 c.2 R.toNat ∧ far (10 * swAt c.1 s.1 + fr (6 + c.2)) < 1000000
def swGo (R : Int) (fr to tk far : Int → Int) (c : Bool × Int) (s : swS) : swS := (swPut c.1 s.1 (to (6 + c.2)), swPut c.1 s.2.1 (swEnds R fr to tk far c s), fun r => if r = c.2 then swEnds R fr to tk far c s else s.2.2 r)
def swRun (R : Int) (fr to tk far : Int → Int) (n : Int) : List (Bool × Int) → swS → swS → Prop
  | [], s, t => s = t
  | c :: cs, s, t => swCan R fr to far n c s ∧ swRun R fr to tk far n cs (swGo R fr to tk far c s) t
def swStart (p : Int) : swS := ((p, p), (0, 0), fun _ => -1)
/-- v is the least time in which n patrollers who stand at p sweep all runs; -1: they can't -/
def swBest (R : Int) (fr to tk far : Int → Int) (p n v : Int) : Prop := (∀ cs t, swRun R fr to tk far n cs (swStart p) t → (cs.length : Int) = R → v ≠ -1 ∧ v ≤ swMax t.2.2 R.toNat) ∧ (v = -1 ∨ (0 ≤ v ∧ ∃ cs t, swRun R fr to tk far n cs (swStart p) t ∧ (cs.length : Int) = R ∧ swMax t.2.2 R.toNat = v))
def isBest (σ : pS) (p n v : Int) : Prop := swBest (rd σ 68 31) (rd σ 77) (rd σ 78) (rd σ 79) (rd σ 133) p n v
theorem isBest_eq {σ τ : pS} (h : same σ τ MF) (p n v : Int) : isBest τ p n v ↔ isBest σ p n v := by
  unfold isBest
  rw [MF.fld h (i := 31) (by omega), show rd τ 77 = rd σ 77 from funext (MF.row h (by omega)), show rd τ 78 = rd σ 78 from funext (MF.row h (by omega)), show rd τ 79 = rd σ 79 from funext (MF.row h (by omega)), show rd τ 133 = rd σ 133 from funext (MF.row h (by omega))]
/-- the class's outlook in τ is right for k, as σ has what is told -/
def KLook (σ : pS) (k : Int) (τ : pS) : Prop := rd τ 35 4 = rd σ 0 7 ∧ ∀ h : Int, 0 ≤ h → h < 8 → rd τ 36 h = wWind σ k h.toNat ∧ rd τ 37 h = wFresh σ k h ∧ rd τ 38 h = sumF (fun i => wFresh σ k i) (h.toNat + 1) ∧ ∀ w : Int, vWay (rd σ 68 30) (rd σ 68 31) w = true → vBit (rd τ 39 h) (vOuter w) = shutS σ k w h
theorem KLook.mv {σ τ υ : pS} {k : Int} (h : KLook σ k υ) (m : same σ τ MF) (e : rd τ 0 7 = rd σ 0 7) : KLook τ k υ := by
  refine ⟨h.1.trans e.symm, fun r r0 r1 => ?_⟩
  obtain ⟨a, b, c, d⟩ := h.2 r r0 r1
  have ef : (fun i => wFresh τ k i) = (fun i => wFresh σ k i) := funext fun i => wFresh_eq m k i
  refine ⟨by rw [wWind_eqm m]; exact a, by rw [wFresh_eq m]; exact b, by rw [ef]; exact c, fun w hw => ?_⟩
  rw [MF.fld m (i := 30) (by omega), MF.fld m (i := 31) (by omega)] at hw
  rw [shutS_eq m]
  exact d w hw
theorem KLook.at {σ τ υ : pS} {k : Int} (h : KLook σ k τ) (e4 : rd υ 35 4 = rd τ 35 4) (er : ∀ a i : Int, 36 ≤ a → a ≤ 39 → rd υ a i = rd τ a i) : KLook σ k υ := by
  refine ⟨e4.trans h.1, fun r r0 r1 => ?_⟩
  rw [er 36 r (by omega) (by omega), er 37 r (by omega) (by omega), er 38 r (by omega) (by omega), er 39 r (by omega) (by omega)]
  exact h.2 r r0 r1
/-- the skier at a in τ is right for k -/
def KSk (σ : pS) (k s sk a : Int) (τ : pS) : Prop := rd τ a 6 = rd σ 0 7 ∧ (∀ w : Int, vWay (rd σ 68 30) (rd σ 68 31) w = true → rd τ (a + 5) (vOuter w) = minS σ sk w) ∧ (∀ m w : Int, 0 ≤ m → m < 480 → vWay (rd σ 68 30) (rd σ 68 31) w = true → vBit (rd τ (a + 2) m) (vOuter w) = stS σ k s sk w m) ∧ ∀ m p : Int, 0 ≤ m → m ≤ 540 → 0 ≤ p → p < 10 → vBit (rd τ (a + 3) m) p = cameS σ k s sk m p ∧ vBit (rd τ (a + 4) m) p = goesS σ k s sk m p
theorem KSk.mv {σ τ υ : pS} {k s sk a : Int} (h : KSk σ k s sk a υ) (m : same σ τ MF) (e : rd τ 0 7 = rd σ 0 7) : KSk τ k s sk a υ := by
  obtain ⟨h1, h2, h3, h4⟩ := h
  refine ⟨h1.trans e.symm, ?_, ?_, ?_⟩
  · intro w hw
    rw [MF.fld m (i := 30) (by omega), MF.fld m (i := 31) (by omega)] at hw
    rw [minS_eq m]
    exact h2 w hw
  · intro t w t0 t1 hw
    rw [MF.fld m (i := 30) (by omega), MF.fld m (i := 31) (by omega)] at hw
    rw [stS_eq m]
    exact h3 t w t0 t1 hw
  · intro t p t0 t1 p0 p1
    unfold cameS goesS
    rw [cmN_eq m, gsN_eq m]
    exact h4 t p t0 t1 p0 p1
theorem KSk.at {σ τ υ : pS} {k s sk a : Int} (h : KSk σ k s sk a τ) (e6 : rd υ a 6 = rd τ a 6) (er : ∀ b i : Int, a + 2 ≤ b → b ≤ a + 5 → rd υ b i = rd τ b i) : KSk σ k s sk a υ := by
  obtain ⟨h1, h2, h3, h4⟩ := h
  refine ⟨e6.trans h1, fun w hw => by rw [er _ _ (by omega) (by omega)]; exact h2 w hw, fun m w m0 m1 hw => by rw [er _ _ (by omega) (by omega)]; exact h3 m w m0 m1 hw, fun m p m0 m1 p0 p1 => by rw [er _ _ (by omega) (by omega), er _ _ (by omega) (by omega)]; exact h4 m p m0 m1 p0 p1⟩
def RLook (σ : pS) : Prop := -1 ≤ rd σ 35 5 ∧ rd σ 35 5 ≤ rd σ 0 6 ∧ inR (rd σ 35 6) ∧ (rd σ 35 5 = rd σ 0 6 → KLook σ (rd σ 35 6) σ)
def RSkC (σ : pS) : Prop := ∀ j : Int, 0 ≤ j → j < rd σ 68 64 → 141 ≤ rd σ 43 j ∧ -1 ≤ rd σ (rd σ 43 j) 7 ∧ rd σ (rd σ 43 j) 7 ≤ rd σ 0 6 ∧ inR (rd σ (rd σ 43 j) 8) ∧ (rd σ (rd σ 43 j) 7 = rd σ 0 6 → KSk σ (rd σ (rd σ 43 j) 8) j (rd σ 107 j) (rd σ 43 j) σ)
def RSwp (σ : pS) : Prop := rd σ 61 6 = rd σ 0 7 ∧ (∀ i : Int, 0 ≤ i → i < 100 → rd σ 63 i = rd σ 133 i ∧ 0 ≤ rd σ 133 i ∧ (rd σ 133 i ≤ 70000 ∨ rd σ 133 i = 1000000)) ∧ (∀ r : Int, 0 ≤ r → r < rd σ 68 31 → ∀ o : Nat, o < 32 → bq (rd σ 64 r) o = decide ((o : Int) < rd σ 68 31 ∧ rd σ 78 (6 + (o : Int)) = rd σ 77 (6 + r))) ∧ ∀ p n : Int, 0 ≤ p → p < 10 → 1 ≤ n → n ≤ 2 → inR (rd σ 62 ((n - 1) * 10 + p)) ∧ (rd σ 62 ((n - 1) * 10 + p) = -2 ∨ isBest σ p n (rd σ 62 ((n - 1) * 10 + p)))
def RExt (σ : pS) : Prop := RLaw σ ∧ RLook σ ∧ RSkC σ ∧ RSwp σ
/-- where RExt reads -/
def PExt (a i : Int) : Prop := MF a i ∨ (a = 0 ∧ (i = 6 ∨ i = 7 ∨ i = 8)) ∨ (17 ≤ a ∧ a ≤ 22) ∨ (35 ≤ a ∧ a ≤ 39) ∨ a = 43 ∨ (61 ≤ a ∧ a ≤ 64) ∨ a = 107 ∨ (a = 68 ∧ i = 64) ∨ 141 ≤ a
/-- where the law and the sweeps are read -/
def PLsw (a i : Int) : Prop := (a = 68 ∧ 30 ≤ i ∧ i ≤ 33) ∨ (77 ≤ a ∧ a ≤ 84) ∨ (89 ≤ a ∧ a ≤ 94) ∨ a = 133 ∨ (a = 0 ∧ (i = 7 ∨ i = 8)) ∨ (17 ≤ a ∧ a ≤ 22) ∨ (61 ≤ a ∧ a ≤ 64) ∨ 141 ≤ a
def PLaw (σ : pS) (a i : Int) : Prop := (a = 0 ∧ i = 8) ∨ (89 ≤ a ∧ a ≤ 92) ∨ a = 94 ∨ (rd σ 0 8 ≤ a ∧ a ≤ rd σ 0 8 + 5 ∧ a ≠ rd σ 0 8 + 3)
def PSwp (a i : Int) : Prop := (a = 68 ∧ i = 31) ∨ (77 ≤ a ∧ a ≤ 79) ∨ a = 133 ∨ (a = 0 ∧ i = 7) ∨ (61 ≤ a ∧ a ≤ 64)
theorem RLaw.mv {σ τ : pS} (h : RLaw σ) (l : pLe σ τ) (s : same σ τ (PLaw σ)) : RLaw τ := by
  obtain ⟨h1, ⟨n2, i1, i2, i3⟩, h2⟩ := h
  have e8 : rd τ 0 8 = rd σ 0 8 := s _ _ (by unfold PLaw; omega)
  have el : ∀ b i : Int, rd σ 0 8 ≤ b → b ≤ rd σ 0 8 + 5 ∧ b ≠ rd σ 0 8 + 3 → rd τ b i = rd σ b i := fun b i q1 q2 => s _ _ (by unfold PLaw; omega)
  have er : ∀ b i : Int, 89 ≤ b → (b ≤ 92 ∨ b = 94) → rd τ b i = rd σ b i := fun b i q1 q2 => s _ _ (by unfold PLaw; omega)
  have em : ∀ y, mList τ y = mList σ y := fun y => by
    unfold mList
    simp only [er 89 _ (by omega) (by omega), er 90 _ (by omega) (by omega), er 91 _ (by omega) (by omega), er 92 _ (by omega) (by omega), er 94 _ (by omega) (by omega)]
  have ec : ∀ y, cList τ (rd σ 0 8) y = cList σ (rd σ 0 8) y := fun y => by
    unfold cList
    simp only [el (rd σ 0 8 + 1) _ (by omega) (by omega), el (rd σ 0 8 + 2) _ (by omega) (by omega), el (rd σ 0 8 + 4) _ (by omega) (by omega), el (rd σ 0 8 + 5) _ (by omega) (by omega)]
  unfold RLaw
  rw [e8]
  refine ⟨h1, ⟨n2, i1.le l, i2, fun y y0 y1 => ?_⟩, fun y y0 y1 => ?_⟩
  · rw [el (rd σ 0 8 + 1) _ (by omega) (by omega), el (rd σ 0 8 + 2) _ (by omega) (by omega)]
    exact i3 y y0 y1
  · rw [em, ec, er 94 _ (by omega) (by omega), er 92 _ (by omega) (by omega), er 91 _ (by omega) (by omega)]
    exact h2 y y0 y1
theorem RSwp.mv {σ τ : pS} (h : RSwp σ) (s : same σ τ PSwp) : RSwp τ := by
  obtain ⟨h1, h2, h3, h4⟩ := h
  have e7 : rd τ 0 7 = rd σ 0 7 := s _ _ (by unfold PSwp; omega)
  have e31 : rd τ 68 31 = rd σ 68 31 := s _ _ (by unfold PSwp; omega)
  have r : ∀ b i : Int, (61 ≤ b ∧ b ≤ 64) ∨ (77 ≤ b ∧ b ≤ 79) ∨ b = 133 → rd τ b i = rd σ b i := fun b i q => s _ _ (by unfold PSwp; omega)
  refine ⟨by rw [r 61 6 (by omega), e7]; exact h1, fun i i0 i1 => by rw [r 63 i (by omega), r 133 i (by omega)]; exact h2 i i0 i1, fun q q0 q1 o o1 => ?_, fun p n p0 p1 n0 n1 => ?_⟩
  · rw [r 64 q (by omega), r 78 _ (by omega), r 77 _ (by omega), e31]
    rw [e31] at q1
    exact h3 q q0 q1 o o1
  · have eb : ∀ v, isBest τ p n v ↔ isBest σ p n v := fun v => by
      unfold isBest
      rw [e31, show rd τ 77 = rd σ 77 from funext (fun i => r 77 i (by omega)), show rd τ 78 = rd σ 78 from funext (fun i => r 78 i (by omega)), show rd τ 79 = rd σ 79 from funext (fun i => r 79 i (by omega)), show rd τ 133 = rd σ 133 from funext (fun i => r 133 i (by omega))]
    rw [r 62 _ (by omega), eb]
    exact h4 p n p0 p1 n0 n1
theorem RLook.mv {σ τ : pS} (h : RLook σ) (m : same σ τ MF) (e6 : rd τ 0 6 = rd σ 0 6) (e7 : rd τ 0 7 = rd σ 0 7) (e : ∀ a i : Int, 35 ≤ a → a ≤ 39 → rd τ a i = rd σ a i) : RLook τ := by
  obtain ⟨h1, h2, h3, h4⟩ := h
  unfold RLook
  rw [e 35 5 (by omega) (by omega), e 35 6 (by omega) (by omega), e6]
  exact ⟨h1, h2, h3, fun q => ((h4 q).mv m e7).at (e 35 4 (by omega) (by omega)) (fun a i q1 q2 => e a i (by omega) (by omega))⟩
theorem RSkC.mv {σ τ : pS} (h : RSkC σ) (m : same σ τ MF) (e6 : rd τ 0 6 = rd σ 0 6) (e7 : rd τ 0 7 = rd σ 0 7) (e64 : rd τ 68 64 = rd σ 68 64) (e43 : ∀ j : Int, 0 ≤ j → j < rd σ 68 64 → rd τ 43 j = rd σ 43 j ∧ rd τ 107 j = rd σ 107 j) (e : ∀ j b i : Int, 0 ≤ j → j < rd σ 68 64 → rd σ 43 j ≤ b → b ≤ rd σ 43 j + 5 → rd τ b i = rd σ b i) : RSkC τ := by
  intro j j0 j1
  rw [e64] at j1
  obtain ⟨h1, h2, h3, h4, h5⟩ := h j j0 j1
  rw [(e43 j j0 j1).1, (e43 j j0 j1).2, e j _ 7 j0 j1 (by omega) (by omega), e j _ 8 j0 j1 (by omega) (by omega), e6]
  exact ⟨h1, h2, h3, h4, fun q => ((h5 q).mv m e7).at (e j _ _ j0 j1 (by omega) (by omega)) (fun b i q1 q2 => e j b i j0 j1 (by omega) (by omega))⟩
theorem RExt.mv {σ τ : pS} (h : RExt σ) (l : pLe σ τ) (s : same σ τ PExt) : RExt τ := by
  obtain ⟨h1, h2, h3, h4⟩ := h
  have m : same σ τ MF := fun a i q => s a i (Or.inl q)
  have e6 : rd τ 0 6 = rd σ 0 6 := s _ _ (by unfold PExt; omega)
  have e7 : rd τ 0 7 = rd σ 0 7 := s _ _ (by unfold PExt; omega)
  have q1 := h1.1
  have p : same σ τ PSwp := fun a i q => s a i (by unfold PSwp at q; unfold PExt MF; omega)
  have pl : same σ τ (PLaw σ) := fun a i q => s a i (by unfold PLaw at q; unfold PExt MF; omega)
  refine ⟨h1.mv l pl, h2.mv m e6 e7 (fun a i q1 q2 => s _ _ (by unfold PExt; omega)), h3.mv m e6 e7 (s _ _ (by unfold PExt; omega)) (fun j j0 j1 => ⟨s _ _ (by unfold PExt; omega), s _ _ (by unfold PExt; omega)⟩) (fun j b i j0 j1 b0 b1 => ?_), h4.mv p⟩
  have := (h3 j j0 j1).1
  exact s _ _ (by unfold PExt; omega)
/-- what was told has changed: what was reckoned is of before -/
theorem RExt.bump {σ τ : pS} (h : RExt σ) (l : pLe σ τ) (e6 : rd τ 0 6 = rd σ 0 6 + 1) (s : same σ τ PLsw) (e : ∀ a i : Int, (a = 35 ∧ (i = 5 ∨ i = 6)) ∨ a = 43 ∨ (a = 68 ∧ i = 64) → rd τ a i = rd σ a i) : RExt τ := by
  obtain ⟨h1, h2, h3, h4⟩ := h
  have q1 := h1.1
  refine ⟨h1.mv l (fun a i q => s a i (by unfold PLaw at q; unfold PLsw; omega)), ?_, ?_, h4.mv (fun a i q => s a i (by unfold PSwp at q; unfold PLsw; omega))⟩
  · obtain ⟨a1, a2, a3, a4⟩ := h2
    unfold RLook
    rw [e 35 5 (by omega), e 35 6 (by omega), e6]
    exact ⟨a1, by omega, a3, fun q => by omega⟩
  · intro j j0 j1
    rw [e 68 64 (by omega)] at j1
    obtain ⟨a1, a2, a3, a4, a5⟩ := h3 j j0 j1
    rw [e 43 j (by omega), s _ 7 (by unfold PLsw; omega), s _ 8 (by unfold PLsw; omega), e6]
    exact ⟨a1, a2, by omega, a4, fun q => by omega⟩
