/-! the class's shuts as a whole; the reference's valueOf -/
def lSeg (σ : pS) (l y : Int) (n2 : Nat) : Option (List (Int × Int)) → Prop
  | none => rd σ (l + 1) y = -1
  | some P => 0 ≤ rd σ (l + 1) y ∧ rd σ (l + 1) y + P.length = rd σ (l + 2) y ∧ rd σ (l + 2) y ≤ n2 ∧ ∀ (j : Nat) (p : Int × Int), P[j]? = some p → rd σ (l + 4) (rd σ (l + 1) y + j) = p.1 ∧ rd σ (l + 5) (rd σ (l + 1) y + j) = p.2
def lVal (u : Int → Int) : Option (List (Int × Int)) → Bool
  | none => false
  | some P => lTrue (lRun u P [])
def lFine (u : Int → Int) : Option (List (Int × Int)) → Prop
  | none => True
  | some P => lGood u P []
theorem shuts_C {d : Nat} {σ : pS} (hd : 1 ≤ d) (S : Stat σ) {l w h : Int} {n2 : Nat} (hl : l = 17 ∨ 141 ≤ l) (I2 : Inst2 σ l n2) (I6 : Inst6 σ (rd σ 35 4)) (hw : 0 ≤ w ∧ w < 17) (hh : 0 ≤ h ∧ h < 8) (hn : n2 < 2147483648) (hs : rd σ 35 4 + 10 < l + 3 ∨ l + 3 < rd σ 35 4) {O : Option (List (Int × Int))} (hO : lSeg σ l (if w < 10 then 0 else 1) n2 O) (hg : lFine (fun op => vUnit σ op w h) O) : pC mX2_shuts d [(2, l), (2, 35), (0, w), (0, h)] σ (fun r τ => r = some (0, b2i (lVal (fun op => vUnit σ op w h) O)) ∧ qRow σ τ (l + 3)) := by
  have go : ∀ y : Int, 0 ≤ y ∧ y < 2 → lSeg σ l y n2 O → pR mX2_shuts d 25 [(2, l), (2, 35), (0, w), (0, h), (0, y), (0, 0), (0, rd σ (l + 1) y), (9, 0)] [] σ (fun r τ => r = some (0, b2i (lVal (fun op => vUnit σ op w h) O)) ∧ qRow σ τ (l + 3)) := fun y hy hO => by
    cases O with
    | none =>
      have e : rd σ (l + 1) y = -1 := hO
      rw [e]
      refine g_X2_shuts_25 hd S l w h y 0 (-1) (9, 0) I2 (by decide) (by omega) (fun c => by omega) (fun c _ => ⟨rfl, rfl, fun _ _ _ => rfl⟩) (fun c => by omega) (fun c => by omega) (fun c => by omega) (fun c => by omega) (fun c => by omega) (fun c => by omega) (fun c => by omega) (fun c => by omega) (fun c => by omega) (fun c => by omega) (fun c => by omega) (fun c => by omega) (fun c => by omega) (fun c => by omega) (fun c => by omega) (fun c => by omega) (fun c => by omega) (fun c => by omega) (fun c => by omega) (fun c => by omega) (fun c => by omega) (fun c => by omega) (fun c => by omega) (fun c => by omega) (fun c => by omega) (fun c => by omega) (fun c => by omega) (fun c => by omega) (fun c => by omega) (fun c => by omega) (fun c => by omega) (fun c => by omega) (fun c => by omega) (fun c => by omega) (fun c => by omega) (fun c => by omega) (fun c => by omega)
    | some P =>
      obtain ⟨o1, o2, o3, o4⟩ := hO
      exact shuts_loop hd S hl I2 I6 hw hh hy hn hs ⟨by omega, o3⟩ P (rd σ (l + 1) y) σ [] (9, 0) (by decide) o1 o2 o4 hg (by decide) ⟨rfl, fun _ _ _ => rfl⟩ trivial (fun τ' q => ⟨rfl, q⟩)
  refine g_X2_shuts_0 hd S l w h I2 (by omega) (fun c => ?_) (fun c => ?_)
  · rw [if_neg (by omega)] at hO
    exact go 1 (by decide) hO
  · rw [if_pos c] at hO
    exact go 0 (by decide) hO
def sumF (f : Int → Int) : Nat → Int
  | 0 => 0
  | n + 1 => sumF f n + f (n : Int)
def vVal (s : pS) (what n w h : Int) : Int := if what = 0 then n else if what = 1 then h else if what = 2 then rd s 101 h else if what = 3 then rd s 102 h else if what = 4 then rd s 81 w + sumF (fun i => rd s 102 i) (h.toNat + 1) else if what = 5 then rd s 80 w else rd s 79 w
theorem valueOf_loop {d : Nat} {σ : pS} (S : Stat σ) {what n w h : Int} (hq : inR what) (hw : 0 ≤ w ∧ w < 13) (hh : 0 ≤ h ∧ h < 8) : ∀ (m t : Nat), (t : Int) + m = h + 1 → pR mX11_valueOf d 11 [(2, 68), (0, what), (0, n), (0, w), (0, h), (0, rd σ 81 w + sumF (fun i => rd σ 102 i) t), (0, (t : Int))] [] σ (fun r τ => r = some (0, vVal σ what n w h) ∧ τ = σ) := by
  intro m
  induction m with
  | zero =>
    intro t ht
    refine g_X11_valueOf_11 (Nat.zero_le d) S what n w h _ (t : Int) (by omega) (by omega) (fun _ => hq) (fun _ _ _ _ _ _ _ => hw) (fun _ c1 c2 c3 c4 c5 c6 => ⟨?_, rfl⟩) (fun _ _ _ _ _ _ _ => hw) (fun _ c1 c2 c3 c4 c5 c6 => ⟨?_, rfl⟩) (fun _ c1 c2 c3 c4 c5 => ⟨?_, rfl⟩) (fun _ _ _ _ _ => hh) (fun _ c1 c2 c3 c4 => ⟨?_, rfl⟩) (fun _ _ _ _ => hh) (fun _ c1 c2 c3 => ⟨?_, rfl⟩) (fun _ c1 c2 => ⟨?_, rfl⟩) (fun _ c1 => ⟨?_, rfl⟩) (fun c => by omega) (fun c => by omega)
    · unfold vVal; rw [if_neg c1, if_neg c2, if_neg c3, if_neg c4, if_neg c5, if_neg c6]
    · unfold vVal; rw [if_neg c1, if_neg c2, if_neg c3, if_neg c4, if_neg c5, if_pos c6]
    · unfold vVal; rw [if_neg c1, if_neg c2, if_neg c3, if_neg c4, if_pos c5, show h.toNat + 1 = t by omega]
    · unfold vVal; rw [if_neg c1, if_neg c2, if_neg c3, if_pos c4]
    · unfold vVal; rw [if_neg c1, if_neg c2, if_pos c3]
    · unfold vVal; rw [if_neg c1, if_pos c2]
    · unfold vVal; rw [if_pos c1]
  | succ m ih =>
    intro t ht
    refine g_X11_valueOf_11 (Nat.zero_le d) S what n w h _ (t : Int) (by omega) (by omega) (fun _ => hq) (fun _ _ _ _ _ _ _ => hw) (fun c => by omega) (fun _ _ _ _ _ _ _ => hw) (fun c => by omega) (fun c => by omega) (fun _ _ _ _ _ => hh) (fun c => by omega) (fun _ _ _ _ => hh) (fun c => by omega) (fun c => by omega) (fun c => by omega) (fun c => by omega) (fun c => ?_)
    have := ih (t + 1) (by omega)
    rw [show rd σ 81 w + sumF (fun i => rd σ 102 i) t + rd σ 102 (t : Int) = rd σ 81 w + sumF (fun i => rd σ 102 i) (t + 1) by show _ = rd σ 81 w + (sumF (fun i => rd σ 102 i) t + rd σ 102 (t : Int)); omega]
    simpa using this
theorem valueOf_C {d : Nat} {σ : pS} (S : Stat σ) {what n w h : Int} (hq : inR what) (hw : 0 ≤ w ∧ w < 13) (hh : 0 ≤ h ∧ h < 8) : pC mX11_valueOf d [(2, 68), (0, what), (0, n), (0, w), (0, h)] σ (fun r τ => r = some (0, vVal σ what n w h) ∧ τ = σ) := by
  refine g_X11_valueOf_0 (Nat.zero_le d) S what n w h hw ?_
  have := valueOf_loop (d := d) (n := n) S hq hw hh (h + 1).toNat 0 (by omega)
  have e : rd σ 81 w + sumF (fun i => rd σ 102 i) 0 = rd σ 81 w := by show rd σ 81 w + 0 = _; omega
  rw [e] at this
  simpa using this
