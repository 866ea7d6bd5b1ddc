/-! references that may be null, loaded and stored -/
section
variable {M : pM} {d pc : Nat} {ls st : List pV} {σ : pS}
theorem s_aloadQ {i : Nat} {x : Int} (hd : decode M.2.1 pc = .ok (.aload i, 2)) (hv : ls[i]? = some (2, x)) : pStep M d pc ls st σ (pc + 2) ls ((2, x) :: st) σ := by
  rcases (show x < 0 ∨ 0 ≤ x by omega) with h | h
  · exact s_aloadN hd hv h
  · exact s_aload hd hv h
theorem s_aload_nQ {n : Fin 4} {x : Int} (hd : decode M.2.1 pc = .ok (.aload_n n, 1)) (hv : ls[(n : Nat)]? = some (2, x)) : pStep M d pc ls st σ (pc + 1) ls ((2, x) :: st) σ := by
  rcases (show x < 0 ∨ 0 ≤ x by omega) with h | h
  · exact pStep.pure (fun p l e R s m args below meth c H locs cells slots Q g lsA hC hl k => by
      have hq := plv_at hl hv (by decide : (2 : Nat) ≠ 9)
      rw [pval_2n h] at hq
      rw [List.map_cons, pval_2n h] at k
      exact lv_aload_nN hC.1 hC.2.1 hd rfl hq k)
  · exact s_aload_n hd hv h
theorem s_astoreQ {i : Nat} {x : Int} (hd : decode M.2.1 pc = .ok (.astore i, 2)) (hn : i < M.2.2.1) (hp : pok1 ls i = true) : pStep M d pc ls ((2, x) :: st) σ (pc + 2) (ls.set i (2, x)) st σ := by
  rcases (show x < 0 ∨ 0 ≤ x by omega) with h | h
  · exact s_astoreN hd hn hp h
  · exact s_astore hd hn hp h
end
