/-! String constants: their fields, bytes; calls of their methods -/
section PSTR
variable {M : pM} {d pc idx : Nat} {ls st : List pV} {σ : pS}
theorem s_aload5 {n : Fin 4} {t : Nat} {x : Int} (hd : decode M.2.1 pc = .ok (.aload_n n, 1)) (hv : ls[(n : Nat)]? = some (t, x)) (ht : t = 4 ∨ t = 5) : pStep M d pc ls st σ (pc + 1) ls ((t, x) :: st) σ := by
  rcases ht with rfl | rfl
  · exact pStep.pure (fun p l e R s m args below meth c H locs cells slots Q g lsA hC hl k => lv_aload_n hC.1 hC.2.1 hd rfl (plv_at hl hv (by decide : (4 : Nat) ≠ 9)) k)
  · exact pStep.pure (fun p l e R s m args below meth c H locs cells slots Q g lsA hC hl k => lv_aload_n hC.1 hC.2.1 hd rfl (plv_at hl hv (by decide : (5 : Nat) ≠ 9)) k)
theorem s_strV {i : Nat} (hi : i < 2) (hl : Cond.fieldLink M.1.cls idx "java/lang/String" "value" "[B" ∈ wsA) (hd : decode M.2.1 pc = .ok (.getfield idx, 3)) : pStep M d pc ls ((4, (i : Int)) :: st) σ (pc + 3) ls ((5, (i : Int)) :: st) σ := by
  refine pStep.read ?_
  intro p l e R s m args below meth c H locs cells slots Q g lsA hC hU hS hH k
  have hv := (hU.2.2.2.2.2.1.1 i hi).2.2.1
  obtain ⟨cf, k1, fi, f, cell, h1, h2, h3, h4, h5, h6⟩ := hv.kept hS.2.1
  exact W.getf hC.1 hC.2.1 hC.2.2.2.2.1 (hC.2.2.2.2.2.1 _ hl) h1 h2 h3 h4 (v := .ref (gW g i)) h5 rfl rfl hd k
theorem s_strC {i : Nat} (hi : i < 2) (hl : Cond.fieldLink M.1.cls idx "java/lang/String" "coder" "B" ∈ wsA) (hd : decode M.2.1 pc = .ok (.getfield idx, 3)) : pStep M d pc ls ((4, (i : Int)) :: st) σ (pc + 3) ls ((0, 0) :: st) σ := by
  refine pStep.read ?_
  intro p l e R s m args below meth c H locs cells slots Q g lsA hC hU hS hH k
  have hv := (hU.2.2.2.2.2.1.1 i hi).2.1
  obtain ⟨cf, k1, fi, f, cell, h1, h2, h3, h4, h5, h6⟩ := hv.kept hS.2.1
  exact W.getf hC.1 hC.2.1 hC.2.2.2.2.1 (hC.2.2.2.2.2.1 _ hl) h1 h2 h3 h4 (v := .int 0) h5 rfl rfl hd k
theorem s_cs (hl : Cond.fieldLink M.1.cls idx "java/lang/String" "COMPACT_STRINGS" "Z" ∈ wsA) (hd : decode M.2.1 pc = .ok (.getstatic idx, 3)) : pStep M d pc ls st σ (pc + 3) ls ((0, 1) :: st) σ := by
  refine pStep.read ?_
  intro p l e R s m args below meth c H locs cells slots Q g lsA hC hU hS hH k
  exact va_gets hC.1 hC.2.1 hU.2.2.2.2.2.2.1 hS hC.2.2.2.2.1 (hC.2.2.2.2.2.1 _ hl) (fun _ h => h) hd k
theorem s_fm (hl : Cond.fieldLink M.1.cls idx "jdk/internal/util/Preconditions" "SIOOBE_FORMATTER" "Ljava/util/function/BiFunction;" ∈ wsA) (hd : decode M.2.1 pc = .ok (.getstatic idx, 3)) : pStep M d pc ls st σ (pc + 3) ls ((6, 0) :: st) σ := by
  refine pStep.read ?_
  intro p l e R s m args below meth c H locs cells slots Q g lsA hC hU hS hH k
  exact va_gets hC.1 hC.2.1 hU.2.2.2.2.2.2.2.1 hS hC.2.2.2.2.1 (hC.2.2.2.2.2.1 _ hl) (fun _ h => h) hd k
def sLen (i : Nat) : Int := (pLen.getD i 0 : Nat)
def sByt (i : Nat) (j : Int) : Int := ((pByt.getD i []).getD j.toNat 0).toInt
theorem s_sblen {i : Nat} (hi : i < 2) (hd : decode M.2.1 pc = .ok (.arraylength, 1)) : pStep M d pc ls ((5, (i : Int)) :: st) σ (pc + 1) ls ((0, sLen i) :: st) σ := by
  refine pStep.read ?_
  intro p l e R s m args below meth c H locs cells slots Q g lsA hC hU hS hH k
  have hv := (hU.2.2.2.2.2.1.1 i hi).2.2.2
  exact va_tlen hC.1 hC.2.1 hv hS (show Int32.ofNat _ = Int32.ofInt ((pLen.getD i 0 : Nat) : Int) from Int32.ofInt_eq_ofNat.symm) hd k
theorem s_sbald {i : Nat} {j : Int} (hi : i < 2) (hj : 0 ≤ j ∧ j < sLen i) (hd : decode M.2.1 pc = .ok (.baload, 1)) : pStep M d pc ls ((0, j) :: (5, (i : Int)) :: st) σ (pc + 1) ls ((0, sByt i j) :: st) σ := by
  refine pStep.read ?_
  intro p l e R s m args below meth c H locs cells slots Q g lsA hC hU hS hH k
  have hv := (hU.2.2.2.2.2.1.1 i hi).2.2.2
  have hs : sLen i ≤ 85 := by
    match i, hi with
    | 0, _ => decide
    | 1, _ => decide
    | i + 2, h => exact absurd h (by omega)
  obtain ⟨h1, h2⟩ := i32_in (n := pLen.getD i 0) hj.1 hj.2 (by omega)
  refine va_tb hC.1 hC.2.1 hv hS h1 (v := .int (Int32.ofInt (sByt i j))) ?_ hd k
  rw [h2]
  show Value.int _ = Value.int (Int32.ofInt ((pByt.getD i []).getD j.toNat 0).toInt)
  rw [Int32.ofInt_toInt]
end PSTR
section PSTRC
variable {M N : pM} {d d' pc n idx : Nat} {ls st As : List pV} {σ : pS} {Q1 Q : Option pV → pS → Prop}
theorem p_callVs {i : Nat} (hi : i < 2) (hN : pMok N n) (hl : pML M.1.cls idx N.1) (hinst : Cond.instanceMethod N.1 ∈ wsA) (hsel : Cond.selects "java/lang/String" N.1 N.1 ∈ wsA) (hdec : decode M.2.1 pc = .ok (.invokevirtual idx, 3)) (ha : pargs N ((4, (i : Int)) :: As)) (hn : As.length = n) (hst : (st.map pcat).sum ≤ 8) (hd : d' + 1 ≤ d) (hC : pC N d' ((4, (i : Int)) :: As) σ Q1)
    (k : ∀ r τ, pLe σ τ → Q1 r τ → pRok N.2.2.2 r → pR M d (pc + 3) ls (r.toList ++ st) τ Q) : pR M d pc ls (As.reverse ++ (4, (i : Int)) :: st) σ Q := by
  obtain ⟨r, τ, q, w, o⟩ := hC
  refine pGo (σ1 := τ) (st1 := r.toList ++ st) ⟨o.1, ?_⟩ (k r τ o.1 q w)
  intro p l e R s m args below meth c H locs cells slots Qw g lsA hCt hU hS hH hlv hd1 hd2 hc1 hc2 hE
  have hts := hCt.2.2.2.2.2.1
  have f1 : d' + 1 ≤ R.frames := by omega
  have f2 : 100 * (d' + 1) ≤ R.locals := by omega
  have e1 : (As.reverse ++ (4, (i : Int)) :: st).map (pval g) = (As.map (pval g)).reverse ++ Value.ref (gK g i) :: st.map (pval g) := by rw [List.map_append, List.map_reverse, List.map_cons]; rfl
  rw [e1]
  have hpre : ∀ U : State, U.heap = H → s.WarmedH U.vm → pPc g σ ((4, (i : Int)) :: As) (Value.ref (gK g i) :: As.map (pval g)).toArray U := pPre (As := (4, (i : Int)) :: As) hU hS hH
  have hrc : ∃ cell : Cell, H[gK g i]? = some cell ∧ cell.vm.isStatics = false ∧ s.vm.findClass "java/lang/String" = some cell.cls := by
    obtain ⟨cell, g1, g2, g3, -⟩ := ((hU.2.2.2.2.2.1.1 i hi).1).kept hS.2.1
    exact ⟨cell, g1, g2, g3⟩
  have hrun : va_Run p l e R s m args below meth c H locs cells slots (τ.1.length - σ.1.length) (pSz τ - pSz σ) (F0 m pc lsA ((As.map (pval g)).reverse ++ Value.ref (gK g i) :: st.map (pval g))) (st.map (pval g)) (pQc g r τ (Value.ref (gK g i) :: As.map (pval g)).toArray) (pA g) := by
    rcases hl with hl | ⟨host, hl⟩
    · exact va_runV (C := "java/lang/String") ⟨hCt.1, hCt.2.1, hCt.2.2.2.1, hCt.2.2.2.2.1, hts⟩ (pMet l g hN ha w o) ⟨pCB hN hts hl f1 f2, hts _ hinst, hts _ hsel⟩ ⟨pPc_blind g σ _, hrc, hpre⟩ rfl (by rw [List.length_map]; exact hn) hlv.1 rfl (lv_room (by rw [pcat_sum]; exact hst)) hdec ⟨hc1, hc2⟩
    · exact va_runVN (C := "java/lang/String") ⟨hCt.1, hCt.2.1, hCt.2.2.2.1, hCt.2.2.2.2.1, hts⟩ (pMet l g hN ha w o) ⟨pCN hN hts (hU.2.2.2.2.2.2.2.2.2.2.2 _ hl) f1 f2, hts _ hinst, hts _ hsel⟩ ⟨pPc_blind g σ _, hrc, hpre⟩ rfl (by rw [List.length_map]; exact hn) hlv.1 rfl (lv_room (by rw [pcat_sum]; exact hst)) hdec ⟨hc1, hc2⟩
  refine pW_call hrun hS (fun H1 locs1 hS1 hH1 => ?_)
  have := hE lsA H1 locs1 hS1 hH1 hlv
  have e : (r.map (pval g)).toList ++ st.map (pval g) = (r.toList ++ st).map (pval g) := by cases r <;> rfl
  rw [e]
  exact this
end PSTRC
theorem nar_c (x : Int) : narrow .char (.int (Int32.ofInt (i_c x))) = .int (Int32.ofInt (i_c x)) := by
  rw [i_c, Int32.ofInt_toInt]
  show Value.int ((Int32.ofInt x).toUInt32 % 65536).toInt32.toUInt32.toUInt16.toUInt32.toInt32 = _
  congr 1
  apply Int32.toBitVec_inj.mp
  simp
  apply BitVec.eq_of_toNat_eq
  simp [BitVec.toNat_umod]
theorem jf_J0_9 : Cond.fieldLink "java/lang/String" 9 "java/lang/String" "value" "[B" ∈ wsA := wsA_in (tb_8 (List.mem_of_getElem? (i := 150) rfl)) rfl
theorem jf_J0_15 : Cond.fieldLink "java/lang/String" 15 "java/lang/String" "coder" "B" ∈ wsA := wsA_in (tb_8 (List.mem_of_getElem? (i := 151) rfl)) rfl
theorem jf_J0_38 : Cond.fieldLink "java/lang/String" 38 "java/lang/String" "COMPACT_STRINGS" "Z" ∈ wsA := wsA_in (tb_3 (List.mem_of_getElem? (i := 57) rfl)) rfl
theorem jf_J0_1053 : Cond.fieldLink "java/lang/String" 1053 "jdk/internal/util/Preconditions" "SIOOBE_FORMATTER" "Ljava/util/function/BiFunction;" ∈ wsA := wsA_in (tb_3 (List.mem_of_getElem? (i := 73) rfl)) rfl
theorem jf_J2_44 : Cond.fieldLink "java/lang/StringUTF16" 44 "java/lang/StringUTF16" "$assertionsDisabled" "Z" ∈ wsA := wsA_in (tb_3 (List.mem_of_getElem? (i := 91) rfl)) rfl
theorem jf_J2_59 : Cond.fieldLink "java/lang/StringUTF16" 59 "java/lang/StringUTF16" "HI_BYTE_SHIFT" "I" ∈ wsA := wsA_in (tb_3 (List.mem_of_getElem? (i := 93) rfl)) rfl
theorem jf_J2_63 : Cond.fieldLink "java/lang/StringUTF16" 63 "java/lang/StringUTF16" "LO_BYTE_SHIFT" "I" ∈ wsA := wsA_in (tb_3 (List.mem_of_getElem? (i := 95) rfl)) rfl
