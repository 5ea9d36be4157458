def bump (σ : Sg) : Sg := zup σ 183 196 (σ 183 196 + 1)
def goW (σ : Sg) : Sg := itS movS (nP σ) (itS ovrS (nP σ) (itS pasS (nP σ) (itS takS (nO σ) (itS leakS (nP σ) (itS arrS (nP σ) σ)))))
def goS (σ : Sg) : Sg := bump (if σ 171 26 = 0 then notS (itS watS (nP σ) (goW σ)) else itS watS (nP σ) (goW σ))
theorem M_goes_e {σ : Sg} (hW : InvW σ) : M_goes σ = some (goS σ) ∧ Stat σ (goW σ) := by
  obtain ⟨hT, kc, hk, hk2⟩ := hW
  have hP := hT.1.1.1
  have hP8 := hT.1.1.2
  have hO := hT.1.2.1.1
  have hO10 := hT.1.2.1.2
  have a1 := mloop (b := fun s => M_goes_l2 s.1 s.2) (f := arrS) (n := nP σ) (σ := σ) (fun τ => Stat σ τ ∧ τ 183 205 = nI kc) (by omega) ⟨Stat.refl σ, hk⟩ (fun j τ hj hs => ⟨by
      unfold M_goes_l2
      simp (disch := omega) only [zgt_e, zpt_e, zlt_e, zrd_e, zwr_e, zelr_e, znz_e, zcp_e, zlit, nI_add, nI_mul, nI_sub, nI_div, ↓irem_f, irem_e, Nat.zero_add, Nat.add_zero, obs, zb_t, zb_f, nI_eqt, nI_eqf, nI_let, nI_lef, nI_ltt, nI_ltf, nI_m1, nI_n1, ↓reduceIte, zup_ne, zup_miss, zup_hit, zbo_1, zbo_0, reduceCtorEq, sel_l, sel_r, Nat.reduceAdd, Nat.reduceSub, Nat.reduceMul, hs.1.r171, hP, M_arrives_e], hs.1.trans (arrS_stat (by omega) τ), by
      unfold arrS
      rw [zup_miss (by omega), shift_at, if_neg (by omega), zup_ne (by omega), zup_miss (by omega)]; exact hs.2⟩) (fun τ hs => by
      unfold M_goes_l2
      simp (disch := omega) only [zgt_e, zpt_e, zlt_e, zrd_e, zwr_e, zelr_e, znz_e, zcp_e, zlit, nI_add, nI_mul, nI_sub, nI_div, ↓irem_f, irem_e, Nat.zero_add, Nat.add_zero, obs, zb_t, zb_f, nI_eqt, nI_eqf, nI_let, nI_lef, nI_ltt, nI_ltf, nI_m1, nI_n1, ↓reduceIte, zup_ne, zup_miss, zup_hit, zbo_1, zbo_0, reduceCtorEq, sel_l, sel_r, Nat.reduceAdd, Nat.reduceSub, Nat.reduceMul, hs.1.r171, hP])
  have a2 := mloop (b := fun s => M_goes_l23 s.1 s.2) (f := leakS) (n := nP σ) (σ := itS arrS (nP σ) σ) (fun τ => Stat σ τ ∧ τ 183 205 = nI kc) (by omega) a1.2 (fun j τ hj hs => ⟨by
      unfold M_goes_l23
      simp (disch := omega) only [zgt_e, zpt_e, zlt_e, zrd_e, zwr_e, zelr_e, znz_e, zcp_e, zlit, nI_add, nI_mul, nI_sub, nI_div, ↓irem_f, irem_e, Nat.zero_add, Nat.add_zero, obs, zb_t, zb_f, nI_eqt, nI_eqf, nI_let, nI_lef, nI_ltt, nI_ltf, nI_m1, nI_n1, ↓reduceIte, zup_ne, zup_miss, zup_hit, zbo_1, zbo_0, reduceCtorEq, sel_l, sel_r, Nat.reduceAdd, Nat.reduceSub, Nat.reduceMul, hs.1.r171, hP, M_leaksOut_e], hs.1.trans (leakS_stat (by omega) τ), by
      unfold leakS
      rw [zup_miss (by omega), zup_miss (by omega)]; exact hs.2⟩) (fun τ hs => by
      unfold M_goes_l23
      simp (disch := omega) only [zgt_e, zpt_e, zlt_e, zrd_e, zwr_e, zelr_e, znz_e, zcp_e, zlit, nI_add, nI_mul, nI_sub, nI_div, ↓irem_f, irem_e, Nat.zero_add, Nat.add_zero, obs, zb_t, zb_f, nI_eqt, nI_eqf, nI_let, nI_lef, nI_ltt, nI_ltf, nI_m1, nI_n1, ↓reduceIte, zup_ne, zup_miss, zup_hit, zbo_1, zbo_0, reduceCtorEq, sel_l, sel_r, Nat.reduceAdd, Nat.reduceSub, Nat.reduceMul, hs.1.r171, hP])
  have a3 := mloop (b := fun s => M_goes_l44 s.1 s.2) (f := takS) (n := nO σ) (σ := itS leakS (nP σ) (itS arrS (nP σ) σ)) (fun τ => Stat σ τ ∧ τ 183 205 = nI kc) (by omega) a2.2 (fun j τ hj hs => by
      have hp : opl τ j < nP σ := by rw [hs.1.e_opl]; exact (hT.1.2.2.2.2.2.1 j hj).2.1
      refine ⟨?_, hs.1.trans (takS_stat (by omega) (by omega)), ?_⟩
      · unfold M_goes_l44
        simp (disch := omega) only [zgt_e, zpt_e, zlt_e, zrd_e, zwr_e, zelr_e, znz_e, zcp_e, zlit, nI_add, nI_mul, nI_sub, nI_div, ↓irem_f, irem_e, Nat.zero_add, Nat.add_zero, obs, zb_t, zb_f, nI_eqt, nI_eqf, nI_let, nI_lef, nI_ltt, nI_ltf, nI_m1, nI_n1, ↓reduceIte, zup_ne, zup_miss, zup_hit, zbo_1, zbo_0, reduceCtorEq, sel_l, sel_r, Nat.reduceAdd, Nat.reduceSub, Nat.reduceMul, hs.1.r171, hO, M_takes_e (hs.1.e_InvT hT) (show j < nO τ by rw [hs.1.e_nO]; exact hj)]
      · unfold takS
        split
        · rw [zup_miss (by omega), zup_miss (by omega), zup_miss (by omega), zup_ne (by omega), zup_miss (by omega)]; exact hs.2
        · exact hs.2) (fun τ hs => by
      unfold M_goes_l44
      simp (disch := omega) only [zgt_e, zpt_e, zlt_e, zrd_e, zwr_e, zelr_e, znz_e, zcp_e, zlit, nI_add, nI_mul, nI_sub, nI_div, ↓irem_f, irem_e, Nat.zero_add, Nat.add_zero, obs, zb_t, zb_f, nI_eqt, nI_eqf, nI_let, nI_lef, nI_ltt, nI_ltf, nI_m1, nI_n1, ↓reduceIte, zup_ne, zup_miss, zup_hit, zbo_1, zbo_0, reduceCtorEq, sel_l, sel_r, Nat.reduceAdd, Nat.reduceSub, Nat.reduceMul, hs.1.r171, hO])
  have a4 := mloop (b := fun s => M_goes_l65 s.1 s.2) (f := pasS) (n := nP σ) (σ := itS takS (nO σ) (itS leakS (nP σ) (itS arrS (nP σ) σ))) (fun τ => Stat σ τ ∧ τ 183 205 = nI kc) (by omega) a3.2 (fun j τ hj hs => by
      have hK := hs.1.e_InvK hT.1
      have hj' : j < nP τ := by rw [hs.1.e_nP]; exact hj
      have hd := (hK.2.2.2.2.1 j hj').1
      refine ⟨?_, hs.1.trans (pasS_stat (by omega) hd), ?_⟩
      · unfold M_goes_l65
        simp (disch := omega) only [zgt_e, zpt_e, zlt_e, zrd_e, zwr_e, zelr_e, znz_e, zcp_e, zlit, nI_add, nI_mul, nI_sub, nI_div, ↓irem_f, irem_e, Nat.zero_add, Nat.add_zero, obs, zb_t, zb_f, nI_eqt, nI_eqf, nI_let, nI_lef, nI_ltt, nI_ltf, nI_m1, nI_n1, ↓reduceIte, zup_ne, zup_miss, zup_hit, zbo_1, zbo_0, reduceCtorEq, sel_l, sel_r, Nat.reduceAdd, Nat.reduceSub, Nat.reduceMul, hs.1.r171, hP, M_passes_e hK hj']
      · unfold pasS pasB pasA
        split <;> split <;> (simp (disch := omega) only [zup_miss, zup_ne]; exact hs.2)) (fun τ hs => by
      unfold M_goes_l65
      simp (disch := omega) only [zgt_e, zpt_e, zlt_e, zrd_e, zwr_e, zelr_e, znz_e, zcp_e, zlit, nI_add, nI_mul, nI_sub, nI_div, ↓irem_f, irem_e, Nat.zero_add, Nat.add_zero, obs, zb_t, zb_f, nI_eqt, nI_eqf, nI_let, nI_lef, nI_ltt, nI_ltf, nI_m1, nI_n1, ↓reduceIte, zup_ne, zup_miss, zup_hit, zbo_1, zbo_0, reduceCtorEq, sel_l, sel_r, Nat.reduceAdd, Nat.reduceSub, Nat.reduceMul, hs.1.r171, hP])
  have a5 := mloop (b := fun s => M_goes_l86 s.1 s.2) (f := ovrS) (n := nP σ) (σ := itS pasS (nP σ) (itS takS (nO σ) (itS leakS (nP σ) (itS arrS (nP σ) σ)))) (fun τ => Stat σ τ ∧ τ 183 205 = nI kc) (by omega) a4.2 (fun j τ hj hs => by
      have hK := hs.1.e_InvK hT.1
      have hj' : j < nP τ := by rw [hs.1.e_nP]; exact hj
      refine ⟨?_, hs.1.trans (ovrS_stat (by omega) (by omega) hK.1.2), ?_⟩
      · unfold M_goes_l86
        simp (disch := omega) only [zgt_e, zpt_e, zlt_e, zrd_e, zwr_e, zelr_e, znz_e, zcp_e, zlit, nI_add, nI_mul, nI_sub, nI_div, ↓irem_f, irem_e, Nat.zero_add, Nat.add_zero, obs, zb_t, zb_f, nI_eqt, nI_eqf, nI_let, nI_lef, nI_ltt, nI_ltf, nI_m1, nI_n1, ↓reduceIte, zup_ne, zup_miss, zup_hit, zbo_1, zbo_0, reduceCtorEq, sel_l, sel_r, Nat.reduceAdd, Nat.reduceSub, Nat.reduceMul, hs.1.r171, hP, M_goesOver_e hK hj']
      · unfold ovrS
        split <;> (simp (disch := omega) only [zup_miss, zup_ne]; exact hs.2)) (fun τ hs => by
      unfold M_goes_l86
      simp (disch := omega) only [zgt_e, zpt_e, zlt_e, zrd_e, zwr_e, zelr_e, znz_e, zcp_e, zlit, nI_add, nI_mul, nI_sub, nI_div, ↓irem_f, irem_e, Nat.zero_add, Nat.add_zero, obs, zb_t, zb_f, nI_eqt, nI_eqf, nI_let, nI_lef, nI_ltt, nI_ltf, nI_m1, nI_n1, ↓reduceIte, zup_ne, zup_miss, zup_hit, zbo_1, zbo_0, reduceCtorEq, sel_l, sel_r, Nat.reduceAdd, Nat.reduceSub, Nat.reduceMul, hs.1.r171, hP])
  have a6 := mloop (b := fun s => M_goes_l107 s.1 s.2) (f := movS) (n := nP σ) (σ := itS ovrS (nP σ) (itS pasS (nP σ) (itS takS (nO σ) (itS leakS (nP σ) (itS arrS (nP σ) σ))))) (fun τ => Stat σ τ ∧ τ 183 205 = nI kc) (by omega) a5.2 (fun j τ hj hs => by
      have hj' : j < nP τ := by rw [hs.1.e_nP]; exact hj
      refine ⟨?_, hs.1.trans (movS_stat (by omega) τ), ?_⟩
      · unfold M_goes_l107
        simp (disch := omega) only [zgt_e, zpt_e, zlt_e, zrd_e, zwr_e, zelr_e, znz_e, zcp_e, zlit, nI_add, nI_mul, nI_sub, nI_div, ↓irem_f, irem_e, Nat.zero_add, Nat.add_zero, obs, zb_t, zb_f, nI_eqt, nI_eqf, nI_let, nI_lef, nI_ltt, nI_ltf, nI_m1, nI_n1, ↓reduceIte, zup_ne, zup_miss, zup_hit, zbo_1, zbo_0, reduceCtorEq, sel_l, sel_r, Nat.reduceAdd, Nat.reduceSub, Nat.reduceMul, hs.1.r171, hP, M_moves_e (hs.1.e_InvT hT) hj']
      · unfold movS
        rw [zup_miss (by omega)]; exact hs.2) (fun τ hs => by
      unfold M_goes_l107
      simp (disch := omega) only [zgt_e, zpt_e, zlt_e, zrd_e, zwr_e, zelr_e, znz_e, zcp_e, zlit, nI_add, nI_mul, nI_sub, nI_div, ↓irem_f, irem_e, Nat.zero_add, Nat.add_zero, obs, zb_t, zb_f, nI_eqt, nI_eqf, nI_let, nI_lef, nI_ltt, nI_ltf, nI_m1, nI_n1, ↓reduceIte, zup_ne, zup_miss, zup_hit, zbo_1, zbo_0, reduceCtorEq, sel_l, sel_r, Nat.reduceAdd, Nat.reduceSub, Nat.reduceMul, hs.1.r171, hP])
  have sW : Stat σ (goW σ) := a6.2.1
  have a7 := mloop (b := fun s => M_goes_l128 s.1 s.2) (f := watS) (n := nP σ) (σ := goW σ) (fun τ => Stat σ τ ∧ InvW τ) (by omega) ⟨sW, sW.e_InvT hT, kc, a6.2.2, hk2⟩ (fun j τ hj hs => by
      have hj' : j < nP τ := by rw [hs.1.e_nP]; exact hj
      have hw := watS_W (p := j) (by omega) hs.2
      refine ⟨?_, hs.1.trans hw.1, hw.2⟩
      unfold M_goes_l128
      simp (disch := omega) only [zgt_e, zpt_e, zlt_e, zrd_e, zwr_e, zelr_e, znz_e, zcp_e, zlit, nI_add, nI_mul, nI_sub, nI_div, ↓irem_f, irem_e, Nat.zero_add, Nat.add_zero, obs, zb_t, zb_f, nI_eqt, nI_eqf, nI_let, nI_lef, nI_ltt, nI_ltf, nI_m1, nI_n1, ↓reduceIte, zup_ne, zup_miss, zup_hit, zbo_1, zbo_0, reduceCtorEq, sel_l, sel_r, Nat.reduceAdd, Nat.reduceSub, Nat.reduceMul, hs.1.r171, hP, M_watches_e hs.2 hj']) (fun τ hs => by
      unfold M_goes_l128
      simp (disch := omega) only [zgt_e, zpt_e, zlt_e, zrd_e, zwr_e, zelr_e, znz_e, zcp_e, zlit, nI_add, nI_mul, nI_sub, nI_div, ↓irem_f, irem_e, Nat.zero_add, Nat.add_zero, obs, zb_t, zb_f, nI_eqt, nI_eqf, nI_let, nI_lef, nI_ltt, nI_ltf, nI_m1, nI_n1, ↓reduceIte, zup_ne, zup_miss, zup_hit, zbo_1, zbo_0, reduceCtorEq, sel_l, sel_r, Nat.reduceAdd, Nat.reduceSub, Nat.reduceMul, hs.1.r171, hP])
  refine ⟨?_, sW⟩
  have h26 : itS watS (nP σ) (goW σ) 171 26 = σ 171 26 := by rw [a7.2.1.r171]
  unfold M_goes M_goes_j21 M_goes_j42 M_goes_j63 M_goes_j84 M_goes_j105 M_goes_j126
  simp only [zlt_e, zlit, a1.1, a2.1, a3.1, a4.1, a5.1, a6.1, Option.bind_some]
  rw [show itS movS (nP σ) (itS ovrS (nP σ) (itS pasS (nP σ) (itS takS (nO σ) (itS leakS (nP σ) (itS arrS (nP σ) σ))))) = goW σ from rfl]
  simp only [a7.1, Option.bind_some]
  unfold M_goes_j147 goS bump
  by_cases c : σ 171 26 = nI 0
  · have c' : (σ 171 26 = 0) = True := eq_true c
    simp (disch := omega) only [zgt_e, zpt_e, zlt_e, zrd_e, zwr_e, zelr_e, znz_e, zcp_e, zlit, nI_add, nI_mul, nI_sub, nI_div, ↓irem_f, irem_e, Nat.zero_add, Nat.add_zero, obs, zb_t, zb_f, nI_eqt, nI_eqf, nI_let, nI_lef, nI_ltt, nI_ltf, nI_m1, nI_n1, ↓reduceIte, zup_ne, zup_miss, zup_hit, zbo_1, zbo_0, reduceCtorEq, sel_l, sel_r, Nat.reduceAdd, Nat.reduceSub, Nat.reduceMul, h26, c, M_notes_e]
  · have c' : (σ 171 26 = 0) = False := eq_false c
    simp (disch := omega) only [zgt_e, zpt_e, zlt_e, zrd_e, zwr_e, zelr_e, znz_e, zcp_e, zlit, nI_add, nI_mul, nI_sub, nI_div, ↓irem_f, irem_e, Nat.zero_add, Nat.add_zero, obs, zb_t, zb_f, nI_eqt, nI_eqf, nI_let, nI_lef, nI_ltt, nI_ltf, nI_m1, nI_n1, ↓reduceIte, zup_ne, zup_miss, zup_hit, zbo_1, zbo_0, reduceCtorEq, sel_l, sel_r, Nat.reduceAdd, Nat.reduceSub, Nat.reduceMul, h26, c]
