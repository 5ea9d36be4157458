theorem M_kep_1 {σ Z : Sg} (hZ : Z = itS shf3 117 σ) : Stat σ (zup Z 183 205 (nI 39)) := by rw [hZ]; exact (shf3_stat _).trans (Stat.up183 (by omega))
theorem M_kep_2 {σ Z : Sg} (hZ : Z = itS shf3 117 σ) (hc : σ 183 205 = nI 40) : Z 183 205 = nI 40 := by rw [hZ, shf3_205, hc]
theorem M_kep_3 {σ Z : Sg} (p : Nat) (hZ : Z = itS shf3 117 σ) (hc : σ 183 205 = nI 40) : keepS p (zup Z 183 205 (nI 39)) = kepS p σ := by
  unfold kepS
  rw [zlit 40, zlit 39, if_pos hc, hZ]
theorem M_kep_4 {σ Z : Sg} {p : Nat} (hW : InvW σ) (h : p < nP σ) (s1 : Stat σ (zup Z 183 205 (nI 39))) : M_watches_j116 (zup Z 183 205 (nI 39)) (nI p) = some (keepS p (zup Z 183 205 (nI 39))) := by
  have h39 : zup Z 183 205 (nI 39) 183 205 = nI 39 := zup_hit
  exact M_keep_e ⟨s1.e_InvT hW.1, 39, h39, by omega⟩ (by rw [s1.e_nP]; exact h) (by rw [h39]; exact fun q => absurd ((nI_eq (by omega) (by omega)).mp q) (by omega))
theorem M_kep_5 {Z W : Sg} {p : Nat} (h205 : Z 183 205 = nI 40) (hj : M_watches_j116 (zup Z 183 205 (nI 39)) (nI p) = some W) : M_watches_j104 Z (nI p) = some W := by
  unfold M_watches_j104
  simp (disch := omega) only [zgt_e, zpt_e, zlt_e, zrd_e, zwr_e, zelr_e, znz_e, zcp_e, zlit, nI_add, nI_mul, nI_sub, nI_div, ↓irem_f, irem_e, Nat.zero_add, Nat.add_zero, obs, zb_t, zb_f, nI_eqt, nI_eqf, nI_let, nI_lef, nI_ltt, nI_ltf, nI_m1, nI_n1, ↓reduceIte, zup_ne, zup_miss, zup_hit, zbo_1, zbo_0, reduceCtorEq, sel_l, sel_r, Nat.reduceAdd, Nat.reduceSub, Nat.reduceMul, h205]
  exact hj
theorem bind_at {α β : Type} {x : Option α} {a : α} {k : α → Option β} {b : β} (e : x = some a) (h : k a = some b) : x.bind k = some b := by
  rw [e]; exact h
theorem M_kep_6 {σ Z W : Sg} {x : Int32} {p : Nat} (e : zit (fun (s : (Sg × Int32)) => M_watches_l67 s.1 x s.2) zFU (σ, nI 0) = some (Z, nI 117)) (hj : M_watches_j104 Z (nI p) = some W) :  (zit (fun (s : (Sg × Int32)) => M_watches_l67 s.1 x s.2) zFU (σ, nI 0)).bind (fun r => M_watches_j104 r.1 (nI p)) = some W := bind_at e hj
theorem ite_at {α : Type} {c : Prop} [Decidable c] {a b r : α} (h : c) (e : a = r) : (if c then a else b) = r := (if_pos h).trans e
theorem ite_no {α : Type} {c : Prop} [Decidable c] {a b r : α} (h : ¬ c) (e : b = r) : (if c then a else b) = r := (if_neg h).trans e
theorem M_kep_e {σ : Sg} (hW : InvW σ) {p : Nat} (h : p < nP σ) (hc : σ 183 205 = nI 40) (x : Int32) : ∃ Z, Z = kepS p σ ∧ (zit (fun (s : (Sg × Int32)) => M_watches_l67 s.1 x s.2) zFU (σ, nI 0)).bind (fun r => M_watches_j104 r.1 (nI p)) = some Z := by
  obtain ⟨Z, hZ, e⟩ := M_shf_e σ x
  exact ⟨_, M_kep_3 p hZ hc, M_kep_6 e (M_kep_5 (M_kep_2 hZ hc) (M_kep_4 hW h (M_kep_1 hZ)))⟩
theorem M_watches_e {σ : Sg} (hW : InvW σ) {p : Nat} (h : p < nP σ) : M_watches σ (nI p) = some (watS p σ) := by
  have hP8 := hW.1.1.1.2
  have hQ := watQ_W (p := p) (by omega) hW
  have hq : zup σ 183 (32 + p) (stnd σ p) = watQ p σ := rfl
  have hn : nP (watQ p σ) = nP σ := (watQ_stat (by omega) σ).e_nP
  have h26 : watQ p σ 171 26 = σ 171 26 := by rw [(watQ_stat (p := p) (by omega) σ).r171]
  have h2q : watQ p σ 183 205 = σ 183 205 := zup_miss (by omega)
  have k0 : M_watches_j28 σ (nI p) (stnd σ p) (nI 0) = some (watQ p σ) := by
    unfold M_watches_j28
    generalize zFU = fu
    simp (disch := omega) only [zgt_e, zpt_e, zlt_e, zrd_e, zwr_e, zelr_e, znz_e, zcp_e, zlit, nI_add, nI_mul, nI_sub, nI_div, ↓irem_f, irem_e, Nat.zero_add, Nat.add_zero, obs, zb_t, zb_f, nI_eqt, nI_eqf, nI_let, nI_lef, nI_ltt, nI_ltf, nI_m1, nI_n1, ↓reduceIte, zup_ne, zup_miss, zup_hit, zbo_1, zbo_0, reduceCtorEq, sel_l, sel_r, Nat.reduceAdd, Nat.reduceSub, Nat.reduceMul, hq]
  have k1 : ∃ Z, Z = kepS p (watQ p σ) ∧ M_watches_j28 σ (nI p) (stnd σ p) (nI 1) = some (if σ 171 26 = nI 0 then Z else watQ p σ) := by
    by_cases c : σ 171 26 = nI 0
    · by_cases c2 : σ 183 205 = nI 40
      · obtain ⟨Z, hZ, e⟩ := M_kep_e hQ (by rw [hn]; exact h) (h2q.trans c2) (nI p)
        refine ⟨Z, hZ, ?_⟩
        unfold M_watches_j28
        generalize zFU = fu at e ⊢
        simp (disch := omega) only [zgt_e, zpt_e, zlt_e, zrd_e, zwr_e, zelr_e, znz_e, zcp_e, zlit, nI_add, nI_mul, nI_sub, nI_div, ↓irem_f, irem_e, Nat.zero_add, Nat.add_zero, obs, zb_t, zb_f, nI_eqt, nI_eqf, nI_let, nI_lef, nI_ltt, nI_ltf, nI_m1, nI_n1, ↓reduceIte, zup_ne, zup_miss, zup_hit, zbo_1, zbo_0, reduceCtorEq, sel_l, sel_r, Nat.reduceAdd, Nat.reduceSub, Nat.reduceMul, hq, h26, h2q, c, c2, e]
      · refine ⟨keepS p (watQ p σ), ?_, ?_⟩
        · unfold kepS
          rw [h2q, zlit 40, if_neg c2]
        · have e := M_keep_e hQ (p := p) (by rw [hn]; exact h) (by rw [h2q]; exact c2)
          unfold M_watches_j28
          generalize zFU = fu
          simp (disch := omega) only [zgt_e, zpt_e, zlt_e, zrd_e, zwr_e, zelr_e, znz_e, zcp_e, zlit, nI_add, nI_mul, nI_sub, nI_div, ↓irem_f, irem_e, Nat.zero_add, Nat.add_zero, obs, zb_t, zb_f, nI_eqt, nI_eqf, nI_let, nI_lef, nI_ltt, nI_ltf, nI_m1, nI_n1, ↓reduceIte, zup_ne, zup_miss, zup_hit, zbo_1, zbo_0, reduceCtorEq, sel_l, sel_r, Nat.reduceAdd, Nat.reduceSub, Nat.reduceMul, hq, h26, h2q, c, c2, e]
    · refine ⟨_, rfl, ?_⟩
      unfold M_watches_j28
      generalize zFU = fu
      simp (disch := omega) only [zgt_e, zpt_e, zlt_e, zrd_e, zwr_e, zelr_e, znz_e, zcp_e, zlit, nI_add, nI_mul, nI_sub, nI_div, ↓irem_f, irem_e, Nat.zero_add, Nat.add_zero, obs, zb_t, zb_f, nI_eqt, nI_eqf, nI_let, nI_lef, nI_ltt, nI_ltf, nI_m1, nI_n1, ↓reduceIte, zup_ne, zup_miss, zup_hit, zbo_1, zbo_0, reduceCtorEq, sel_l, sel_r, Nat.reduceAdd, Nat.reduceSub, Nat.reduceMul, hq, h26, h2q, c]
  obtain ⟨Z, hZ, k1⟩ := k1
  have hw : watS p σ = if σ 171 26 = nI 0 then (if stnd σ p ≤ nI 0 ∨ stnd σ p = σ 183 (32 + p) then watQ p σ else Z) else watQ p σ := by
    unfold watS watN
    rw [hZ, zlit 0]
  rw [hw]
  unfold M_watches M_watches_j27
  simp (disch := omega) only [zgt_e, zpt_e, zlt_e, zrd_e, zwr_e, zelr_e, znz_e, zcp_e, zlit, nI_add, nI_mul, nI_sub, nI_div, ↓irem_f, irem_e, Nat.zero_add, Nat.add_zero, obs, zb_t, zb_f, nI_eqt, nI_eqf, nI_let, nI_lef, nI_ltt, nI_ltf, nI_m1, nI_n1, ↓reduceIte, zup_ne, zup_miss, zup_hit, zbo_1, zbo_0, reduceCtorEq, sel_l, sel_r, Nat.reduceAdd, Nat.reduceSub, Nat.reduceMul, M_standOf_e]
  by_cases c1 : stnd σ p ≤ nI 0
  · rw [if_pos c1, k0, if_pos (Or.inl c1)]
    split <;> rfl
  · by_cases c2 : stnd σ p = σ 183 (32 + p)
    · rw [if_neg c1, if_pos c2, k0, if_pos (Or.inr c2)]
      split <;> rfl
    · rw [if_neg c1, if_neg c2, k1, if_neg (show ¬ (stnd σ p ≤ nI 0 ∨ stnd σ p = σ 183 (32 + p)) from fun q => q.elim c1 c2)]
