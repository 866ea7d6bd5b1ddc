/-! the reference's holds as a whole -/
def mSeg (σ : pS) (y : Int) : Option (List (Int × Int)) → Prop
  | none => rd σ 94 y = 0
  | some P => rd σ 94 y = 1 ∧ 0 ≤ rd σ 91 y ∧ rd σ 91 y + P.length = rd σ 92 y ∧ rd σ 92 y ≤ 600 ∧ ∀ (j : Nat) (p : Int × Int), P[j]? = some p → rd σ 89 (rd σ 91 y + j) = p.1 ∧ rd σ 90 (rd σ 91 y + j) = p.2
def mVal (u : Int → Int → Int) : Option (List (Int × Int)) → Bool
  | none => false
  | some P => mTrue (mRun u P [])
def mFine (u : Int → Int → Int) : Option (List (Int × Int)) → Prop
  | none => True
  | some P => mGood u P []
theorem holds_C {d : Nat} {σ : pS} (hd : 1 ≤ d) (S : Stat σ) {y w h : Int} (hy : 0 ≤ y ∧ y < 2) (hw : 0 ≤ w ∧ w < 13) (hh : 0 ≤ h ∧ h < 8) {O : Option (List (Int × Int))} (hO : mSeg σ y O) (hg : mFine (fun a n => vVal σ a n w h) O) : pC mX11_holds d [(2, 68), (0, y), (0, w), (0, h)] σ (fun r τ => r = some (0, b2i (mVal (fun a n => vVal σ a n w h) O)) ∧ qRow σ τ 103) := by
  cases O with
  | none =>
    have e : rd σ 94 y = 0 := hO
    exact g_X11_holds_0 hd S y w h hy (by omega) (fun c => by omega) (fun _ => ⟨rfl, rfl, fun _ _ _ => rfl⟩)
  | some P =>
    obtain ⟨o0, o1, o2, o3, o4⟩ := hO
    refine g_X11_holds_0 hd S y w h hy (by omega) (fun _ => ?_) (fun c => by omega)
    exact holds_loop hd S hy hw hh o3 P (rd σ 91 y) σ [] (9, 0) (9, 0) (9, 0) (by decide) (by decide) (by decide) o1 o2 o4 hg (by decide) ⟨rfl, fun _ _ _ => rfl⟩ trivial (fun τ' q => ⟨rfl, q⟩)
