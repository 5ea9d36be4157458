/-! the schedule whole; runs ahead -/
theorem ldP_succ (μ : Sg) (g t n : Nat) : ldP μ g t (n + 1) = ldP μ g t n + if g ≤ opl μ n ∧ opn μ n (t + nd μ g (opl μ n + 1 - g)) = true then μ 173 (2 * n + 1) else 0 := rfl
theorem sumGate_ok {σ μ : Sg} {p1 g b l : Nat} (hp1 : p1 = 3 ∨ p1 = 29) (hR : RepK σ p1 μ) (hK : InvK μ) (hg : g < nP μ) (h1l : σ 103 1 = nI l) (hl2 : l ≤ 200) (h2l : σ 103 2 = nI (l + nd μ 0 (nP μ))) (hop : OpenR σ μ b (l + nd μ 0 (nP μ))) :
    ∃ σ', Schedule_sumDemands_l2 σ p1 (nI g) = some (.inl (σ', nI (g + 1))) ∧ (∀ a, a ≠ 116 + g → σ' a = σ a) ∧ ∀ i, i ≤ l → σ' (116 + g) i = ldD μ g (b + i) := by
  have hO10 := hK.2.1.2
  obtain ⟨hP, hP8⟩ := hK.1
  have hT2 := hK.2.2.1.2
  have h0 := zit_cnt (b := fun (s : (Sg × Int32)) => Schedule_sumDemands_l12 s.1 p1 (nI g) s.2) (fun j τ => (∀ a, a ≠ 116 + g → τ a = σ a) ∧ ∀ i, i < j → τ (116 + g) i = 0) nI (l + 1) (σ := σ) (by omega)
    ⟨fun _ _ => rfl, fun i hi => absurd hi (by omega)⟩ (by
    rintro j τ hj ⟨h1, h2⟩
    have e1 : τ 103 1 = nI l := by rw [h1 103 (by omega), h1l]
    unfold Schedule_sumDemands_l12
    simp (disch := omega) only [zgt_e, zpt_e, zlt_e, zrd_e, zwr_e, zelr_e, znz_e, zcp_e, zlit, nI_add, nI_mul, nI_sub, nI_div, ↓irem_f, irem_e, Nat.zero_add, Nat.add_zero, obs, zb_t, zb_f, nI_eqt, nI_eqf, nI_let, nI_lef, nI_ltt, nI_ltf, nI_m1, nI_n1, ↓reduceIte, zup_ne, zup_miss, zup_hit, zbo_1, zbo_0, reduceCtorEq, sel_l, sel_r, Nat.reduceAdd, Nat.reduceSub, Nat.reduceMul, e1]
    refine ⟨_, rfl, fun a ha => by rw [zup_ne ha, h1 a ha], fun i hi => ?_⟩
    by_cases e : i = j
    · subst e; rw [zup_hit]
    · rw [zup_miss e]; exact h2 i (by omega)) (by
    rintro τ ⟨h1, _⟩
    have e1 : τ 103 1 = nI l := by rw [h1 103 (by omega), h1l]
    unfold Schedule_sumDemands_l12
    simp (disch := omega) only [zgt_e, zpt_e, zlt_e, zrd_e, zwr_e, zelr_e, znz_e, zcp_e, zlit, nI_add, nI_mul, nI_sub, nI_div, ↓irem_f, irem_e, Nat.zero_add, Nat.add_zero, obs, zb_t, zb_f, nI_eqt, nI_eqf, nI_let, nI_lef, nI_ltt, nI_ltf, nI_m1, nI_n1, ↓reduceIte, zup_ne, zup_miss, zup_hit, zbo_1, zbo_0, reduceCtorEq, sel_l, sel_r, Nat.reduceAdd, Nat.reduceSub, Nat.reduceMul, e1])
  obtain ⟨τ0, e0, f0, z0⟩ := h0
  have h3 := zit_cnt (b := fun (s : (Sg × Int32)) => Schedule_sumDemands_l37 s.1 p1 (nI g) s.2) (fun j τ => (∀ a, a ≠ 116 + g → τ a = σ a) ∧ ∀ i, i ≤ l → τ (116 + g) i = ldP μ g (b + i) j) nI (nO μ) (σ := τ0) (by omega)
    ⟨f0, fun i hi => by rw [z0 i (by omega)]; rfl⟩ (by
    rintro j τ hj ⟨h1, h2⟩
    have f : Fr 116 123 σ τ := fun a ha => h1 a (by omega)
    have hR' := hR.fr f hT2 (by omega)
    obtain ⟨o1, o2, o3, o4, o5⟩ := hK.2.2.2.2.2.1 j hj
    have k1 := (hR'.2.2.1 j hj).1
    rw [o1] at k1
    have e7 : τ p1 7 = nI (nO μ) := hR'.1.2.1.trans hK.2.1.1
    unfold Schedule_sumDemands_l37
    by_cases c : g ≤ opl μ j
    · obtain ⟨τ', a1, a2, a3⟩ := addDemand_ok (σ := τ) (b := b) hp1 hR' hK hg hj c (by rw [h1 103 (by omega), h1l]) hl2 (by rw [h1 103 (by omega), h2l]) (fun o ho i hi => by rw [h1 _ (by omega)]; exact hop o ho i hi)
      simp (disch := omega) only [zgt_e, zpt_e, zlt_e, zrd_e, zwr_e, zelr_e, znz_e, zcp_e, zlit, nI_add, nI_mul, nI_sub, nI_div, ↓irem_f, irem_e, Nat.zero_add, Nat.add_zero, obs, zb_t, zb_f, nI_eqt, nI_eqf, nI_let, nI_lef, nI_ltt, nI_ltf, nI_m1, nI_n1, ↓reduceIte, zup_ne, zup_miss, zup_hit, zbo_1, zbo_0, reduceCtorEq, sel_l, sel_r, Nat.reduceAdd, Nat.reduceSub, Nat.reduceMul, e7, k1, a1]
      refine ⟨_, rfl, fun a ha => by rw [a2 a ha, h1 a ha], fun i hi => ?_⟩
      rw [a3 i hi, h2 i hi, ldP_succ]
      simp only [c, true_and]
    · simp (disch := omega) only [zgt_e, zpt_e, zlt_e, zrd_e, zwr_e, zelr_e, znz_e, zcp_e, zlit, nI_add, nI_mul, nI_sub, nI_div, ↓irem_f, irem_e, Nat.zero_add, Nat.add_zero, obs, zb_t, zb_f, nI_eqt, nI_eqf, nI_let, nI_lef, nI_ltt, nI_ltf, nI_m1, nI_n1, ↓reduceIte, zup_ne, zup_miss, zup_hit, zbo_1, zbo_0, reduceCtorEq, sel_l, sel_r, Nat.reduceAdd, Nat.reduceSub, Nat.reduceMul, e7, k1]
      refine ⟨_, rfl, h1, fun i hi => ?_⟩
      rw [h2 i hi, ldP_succ, if_neg (fun q => c q.1)]
      simp) (by
    rintro τ ⟨h1, _⟩
    have f : Fr 116 123 σ τ := fun a ha => h1 a (by omega)
    have e7 : τ p1 7 = nI (nO μ) := (hR.fr f hT2 (by omega)).1.2.1.trans hK.2.1.1
    unfold Schedule_sumDemands_l37
    simp (disch := omega) only [zgt_e, zpt_e, zlt_e, zrd_e, zwr_e, zelr_e, znz_e, zcp_e, zlit, nI_add, nI_mul, nI_sub, nI_div, ↓irem_f, irem_e, Nat.zero_add, Nat.add_zero, obs, zb_t, zb_f, nI_eqt, nI_eqf, nI_let, nI_lef, nI_ltt, nI_ltf, nI_m1, nI_n1, ↓reduceIte, zup_ne, zup_miss, zup_hit, zbo_1, zbo_0, reduceCtorEq, sel_l, sel_r, Nat.reduceAdd, Nat.reduceSub, Nat.reduceMul, e7])
  obtain ⟨τ, e, f1, z1⟩ := h3
  refine ⟨τ, ?_, f1, fun i hi => by rw [z1 i hi]; rfl⟩
  have e3 : σ p1 3 = nI (nP μ) := hR.1.1.trans hP
  unfold Schedule_sumDemands_l2 Schedule_sumDemands_j2_35
  simp (disch := omega) only [zgt_e, zpt_e, zlt_e, zrd_e, zwr_e, zelr_e, znz_e, zcp_e, zlit, nI_add, nI_mul, nI_sub, nI_div, ↓irem_f, irem_e, Nat.zero_add, Nat.add_zero, obs, zb_t, zb_f, nI_eqt, nI_eqf, nI_let, nI_lef, nI_ltt, nI_ltf, nI_m1, nI_n1, ↓reduceIte, zup_ne, zup_miss, zup_hit, zbo_1, zbo_0, reduceCtorEq, sel_l, sel_r, Nat.reduceAdd, Nat.reduceSub, Nat.reduceMul, e3, e0, e]
theorem sumDemands_ok {σ μ : Sg} {p1 b l : Nat} (hp1 : p1 = 3 ∨ p1 = 29) (hR : RepK σ p1 μ) (hK : InvK μ) (h0l : σ 103 0 = nI b) (hb : b ≤ 20000) (h1l : σ 103 1 = nI l) (hl2 : l ≤ 200) (h2l : σ 103 2 = nI (l + nd μ 0 (nP μ))) (hop : OpenR σ μ b (l + nd μ 0 (nP μ))) :
    ∃ σ', Schedule_sumDemands σ p1 = some σ' ∧ Fr 103 123 σ σ' ∧ RepSc σ' μ b l := by
  obtain ⟨hP, hP8⟩ := hK.1
  have hO10 := hK.2.1.2
  have hT2 := hK.2.2.1.2
  have hl := zit_cnt (b := fun (s : (Sg × Int32)) => Schedule_sumDemands_l2 s.1 p1 s.2) (fun j τ => (∀ a, a < 116 ∨ 123 < a → τ a = σ a) ∧ ∀ g, g < j → ∀ i, i ≤ l → τ (116 + g) i = ldD μ g (b + i)) nI (nP μ) (σ := σ) (by omega)
    ⟨fun _ _ => rfl, fun i hi => absurd hi (by omega)⟩ (by
    rintro j τ hj ⟨h1, h2⟩
    have f : Fr 116 123 σ τ := fun a ha => h1 a (by omega)
    obtain ⟨τ', a1, a2, a3⟩ := sumGate_ok (σ := τ) (b := b) hp1 (hR.fr f hT2 (by omega)) hK hj (by rw [h1 103 (by omega), h1l]) hl2 (by rw [h1 103 (by omega), h2l]) (fun o ho i hi => by rw [h1 _ (by omega)]; exact hop o ho i hi)
    refine ⟨τ', a1, fun a ha => by rw [a2 a (by omega), h1 a ha], fun g hg i hi => ?_⟩
    by_cases e : g = j
    · subst e; exact a3 i hi
    · rw [a2 _ (by omega)]; exact h2 g (by omega) i hi) (by
    rintro τ ⟨h1, _⟩
    have f : Fr 116 123 σ τ := fun a ha => h1 a (by omega)
    have e3 : τ p1 3 = nI (nP μ) := (hR.fr f hT2 (by omega)).1.1.trans hP
    unfold Schedule_sumDemands_l2
    simp (disch := omega) only [zgt_e, zpt_e, zlt_e, zrd_e, zwr_e, zelr_e, znz_e, zcp_e, zlit, nI_add, nI_mul, nI_sub, nI_div, ↓irem_f, irem_e, Nat.zero_add, Nat.add_zero, obs, zb_t, zb_f, nI_eqt, nI_eqf, nI_let, nI_lef, nI_ltt, nI_ltf, nI_m1, nI_n1, ↓reduceIte, zup_ne, zup_miss, zup_hit, zbo_1, zbo_0, reduceCtorEq, sel_l, sel_r, Nat.reduceAdd, Nat.reduceSub, Nat.reduceMul, e3])
  obtain ⟨τ, e, h1, h2⟩ := hl
  refine ⟨τ, ?_, fun a ha => h1 a (by omega), ⟨?_, ?_, h2⟩⟩
  · unfold Schedule_sumDemands
    simp only [zlt_e, zlit, e, obs]
  · rw [h1 103 (by omega)]
    exact ⟨h0l, h1l, hl2, hb, h2l⟩
  · intro o ho i hi
    rw [h1 _ (by omega)]
    exact hop o ho i hi
theorem Schedule_plan_ok {σ μ : Sg} {p1 w s n : Nat} (hp1 : p1 = 3 ∨ p1 = 29) (hw : w = 73 ∨ w = 99) (hR : RepK σ p1 μ) (hQ : RepOr σ w μ) (hK : InvK μ) (hO : InvO μ) (hs : s ≤ 20000) (hn : n ≤ 200) :
    ∃ σ', Schedule_plan σ p1 w (nI s) (nI n) = some σ' ∧ Fr 103 123 σ σ' ∧ RepSc σ' μ s n := by
  obtain ⟨hP, hP8⟩ := hK.1
  have hO10 := hK.2.1.2
  have hT2 := hK.2.2.1.2
  have hn9 := nd_le hK (g := 0) (j := nP μ) (by omega)
  have f1 : Fr 103 123 σ (zup (zup σ 103 0 (nI s)) 103 1 (nI n)) := ((Fr.refl σ).up (by omega) (by omega)).up (by omega) (by omega)
  have hR1 := hR.fr f1 hT2 (by omega)
  have e3 : σ p1 3 = nI (nP μ) := hR.1.1.trans hP
  have hneed := Works_needs_all hR1 hK
  generalize hσ2 : zup (zup (zup σ 103 0 (nI s)) 103 1 (nI n)) 103 2 (nI (n + nd μ 0 (nP μ))) = σ2
  have f2 : Fr 103 123 σ σ2 := by rw [← hσ2]; exact f1.up (by omega) (by omega)
  have x0 : σ2 103 0 = nI s := by rw [← hσ2, zup_miss (by omega), zup_miss (by omega), zup_hit]
  have x1 : σ2 103 1 = nI n := by rw [← hσ2, zup_miss (by omega), zup_hit]
  have x2 : σ2 103 2 = nI (n + nd μ 0 (nP μ)) := by rw [← hσ2, zup_hit]
  have hl := zit_cnt (b := fun (s : (Sg × Int32)) => Schedule_plan_l46 s.1 p1 w s.2) (fun j τ => (∀ a, a < 105 ∨ 114 < a → τ a = σ2 a) ∧ ∀ o, o < j → ∀ i, i ≤ n + nd μ 0 (nP μ) → τ (105 + o) i = if opn μ o (s + i) = true then 1 else 0) nI (nO μ) (σ := σ2) (by omega)
    ⟨fun _ _ => rfl, fun i hi => absurd hi (by omega)⟩ (by
    rintro j τ hj ⟨h1, h2⟩
    have f : Fr 103 123 σ τ := f2.trans (fun a ha => h1 a (by omega))
    have hR' := hR.fr f hT2 (by omega)
    have e7 : τ p1 7 = nI (nO μ) := hR'.1.2.1.trans hK.2.1.1
    obtain ⟨τ', a1, a2, a3⟩ := planOutlet_ok (σ := τ) hp1 hw hR' (hQ.fr f (by omega)) hK hO hj (by rw [h1 103 (by omega), x0]) hs (by rw [h1 103 (by omega), x2]) (by omega)
    unfold Schedule_plan_l46
    simp (disch := omega) only [zgt_e, zpt_e, zlt_e, zrd_e, zwr_e, zelr_e, znz_e, zcp_e, zlit, nI_add, nI_mul, nI_sub, nI_div, ↓irem_f, irem_e, Nat.zero_add, Nat.add_zero, obs, zb_t, zb_f, nI_eqt, nI_eqf, nI_let, nI_lef, nI_ltt, nI_ltf, nI_m1, nI_n1, ↓reduceIte, zup_ne, zup_miss, zup_hit, zbo_1, zbo_0, reduceCtorEq, sel_l, sel_r, Nat.reduceAdd, Nat.reduceSub, Nat.reduceMul, e7, a1]
    refine ⟨_, rfl, fun a ha => by rw [a2 a (by omega), h1 a ha], fun o ho i hi => ?_⟩
    by_cases e : o = j
    · subst e; exact a3 i hi
    · rw [a2 _ (by omega)]; exact h2 o (by omega) i hi) (by
    rintro τ ⟨h1, _⟩
    have f : Fr 103 123 σ τ := f2.trans (fun a ha => h1 a (by omega))
    have e7 : τ p1 7 = nI (nO μ) := (hR.fr f hT2 (by omega)).1.2.1.trans hK.2.1.1
    unfold Schedule_plan_l46
    simp (disch := omega) only [zgt_e, zpt_e, zlt_e, zrd_e, zwr_e, zelr_e, znz_e, zcp_e, zlit, nI_add, nI_mul, nI_sub, nI_div, ↓irem_f, irem_e, Nat.zero_add, Nat.add_zero, obs, zb_t, zb_f, nI_eqt, nI_eqf, nI_let, nI_lef, nI_ltt, nI_ltf, nI_m1, nI_n1, ↓reduceIte, zup_ne, zup_miss, zup_hit, zbo_1, zbo_0, reduceCtorEq, sel_l, sel_r, Nat.reduceAdd, Nat.reduceSub, Nat.reduceMul, e7])
  obtain ⟨τ, e, h1, h2⟩ := hl
  have f : Fr 103 123 σ τ := f2.trans (fun a ha => h1 a (by omega))
  obtain ⟨τ', b1, b2, b3⟩ := sumDemands_ok (σ := τ) (b := s) (l := n) hp1 (hR.fr f hT2 (by omega)) hK (by rw [h1 103 (by omega), x0]) hs (by rw [h1 103 (by omega), x1]) hn (by rw [h1 103 (by omega), x2]) h2
  refine ⟨τ', ?_, f.trans b2, b3⟩
  unfold Schedule_plan
  simp (disch := omega) only [zgt_e, zpt_e, zlt_e, zrd_e, zwr_e, zelr_e, znz_e, zcp_e, zlit, nI_add, nI_mul, nI_sub, nI_div, ↓irem_f, irem_e, Nat.zero_add, Nat.add_zero, obs, zb_t, zb_f, nI_eqt, nI_eqf, nI_let, nI_lef, nI_ltt, nI_ltf, nI_m1, nI_n1, ↓reduceIte, zup_ne, zup_miss, zup_hit, zbo_1, zbo_0, reduceCtorEq, sel_l, sel_r, Nat.reduceAdd, Nat.reduceSub, Nat.reduceMul, e3, hneed, hσ2, e, b1]
theorem RepV.copy {σ σ' μ : Sg} {w v : Nat} (h : RepV σ w μ) (hK : InvK μ) (h0 : σ' v 0 = σ w 0 ∧ σ' v 1 = σ w 1 ∧ σ' v 2 = σ w 2) (h8 : ∀ j, j < 8 → σ' (v + 1) j = σ (w + 1) j ∧ σ' (v + 2) j = σ (w + 2) j ∧ σ' (v + 3) j = σ (w + 3) j ∧ σ' (v + 4) j = σ (w + 4) j) (h10 : ∀ j, j < 10 → σ' (v + 6) j = σ (w + 6) j ∧ σ' (v + 7) j = σ (w + 7) j) (h7 : ∀ j, j < 7 → σ' (v + 8) j = σ (w + 8) j) : RepV σ' v μ := by
  have hP8 := hK.1.2
  have hO10 := hK.2.1.2
  obtain ⟨v1, v2, v3, v4, v5, v6, v7⟩ := h
  refine ⟨fun p hp => ?_, fun o ho => ?_, fun i hi => ?_, ?_, ?_, ?_, ?_⟩
  · obtain ⟨a, b, c, d⟩ := h8 p (by omega)
    rw [a, b, c, d]; exact v1 p hp
  · obtain ⟨a, b⟩ := h10 o (by omega)
    rw [a, b]; exact v2 o ho
  · rw [h7 i (by omega)]; exact v3 i hi
  · rw [h7 6 (by omega)]; exact v4
  · rw [h0.1]; exact v5
  · rw [h0.2.1]; exact v6
  · rw [h0.2.2]; exact v7
theorem RepW.copy {σ σ' μ : Sg} {w v : Nat} (h : RepW σ w μ) (hK : InvK μ) (h0 : σ' v 0 = σ w 0 ∧ σ' v 1 = σ w 1 ∧ σ' v 2 = σ w 2) (h8 : ∀ j, j < 8 → σ' (v + 1) j = σ (w + 1) j ∧ σ' (v + 2) j = σ (w + 2) j ∧ σ' (v + 3) j = σ (w + 3) j ∧ σ' (v + 4) j = σ (w + 4) j) (h72 : ∀ j, j < 72 → σ' (v + 5) j = σ (w + 5) j) (h10 : ∀ j, j < 10 → σ' (v + 6) j = σ (w + 6) j ∧ σ' (v + 7) j = σ (w + 7) j) (h7 : ∀ j, j < 7 → σ' (v + 8) j = σ (w + 8) j) : RepW σ' v μ := by
  have hP8 := hK.1.2
  obtain ⟨hV, hA, hZ⟩ := h
  refine ⟨hV.copy hK h0 h8 h10 h7, fun p hp => ?_, fun p hp i hi hi9 => ?_⟩
  · have hd := (hK.2.2.2.2.1 p hp).1
    refine ⟨fun k hk => ?_, (hA p hp).2⟩
    have hm : (stp μ + k) % tl μ p 3 < tl μ p 3 := Nat.mod_lt _ (by omega)
    rw [h72 _ (by omega)]
    exact (hA p hp).1 k hk
  · rw [h72 _ (by omega)]
    exact hZ p hp i hi hi9
/-- the copying of a water -/
theorem Water_copy_ok {σ : Sg} {w v : Nat} (hd : w + 16 < v ∨ v + 16 < w) : ∃ σ', Water_copyFrom σ v w = some σ' ∧ Fr v (v + 8) σ σ' ∧ (σ' v 0 = σ w 0 ∧ σ' v 1 = σ w 1 ∧ σ' v 2 = σ w 2) ∧ (∀ j, j < 8 → σ' (v + 1) j = σ (w + 1) j ∧ σ' (v + 2) j = σ (w + 2) j ∧ σ' (v + 3) j = σ (w + 3) j ∧ σ' (v + 4) j = σ (w + 4) j) ∧ (∀ j, j < 72 → σ' (v + 5) j = σ (w + 5) j) ∧ (∀ j, j < 10 → σ' (v + 6) j = σ (w + 6) j ∧ σ' (v + 7) j = σ (w + 7) j) ∧ (∀ j, j < 7 → σ' (v + 8) j = σ (w + 8) j) := by
  unfold Water_copyFrom
  simp only [zgt_e, zpt_e, zcp_e]
  refine ⟨_, rfl, ?_, ?_, ?_, ?_, ?_, ?_⟩
  · intro a ha
    simp (disch := omega) only [zrow_ne, zup_ne]
  · simp (disch := omega) only [zrow_ne, zup_ne, zup_miss, zup_hit, and_self]
  · intro j hj
    simp (disch := omega) only [zrow_ne, zrow_hit, zup_ne, cpy0_in, and_self]
  · intro j hj
    simp (disch := omega) only [zrow_ne, zrow_hit, zup_ne, cpy0_in]
  · intro j hj
    simp (disch := omega) only [zrow_ne, zrow_hit, zup_ne, cpy0_in, and_self]
  · intro j hj
    simp (disch := omega) only [zrow_ne, zrow_hit, zup_ne, cpy0_in]
theorem RepW.fr {σ τ μ : Sg} {w lo hi : Nat} (f : Fr lo hi σ τ) (h : RepW σ w μ) (hd : w + 8 < lo ∨ hi < w) : RepW τ w μ := by
  obtain ⟨⟨v1, v2, v3, v4, v5, v6, v7⟩, hA, hZ⟩ := h
  refine ⟨⟨?_, ?_, ?_, ?_, ?_⟩, ?_, ?_⟩
  · rw [f _ (by omega), f _ (by omega), f _ (by omega), f _ (by omega)]; exact v1
  · rw [f _ (by omega), f _ (by omega)]; exact v2
  · rw [f _ (by omega)]; exact v3
  · rw [f _ (by omega)]; exact v4
  · rw [f _ (by omega)]; exact ⟨v5, v6, v7⟩
  · unfold WayA; rw [f _ (by omega)]; exact hA
  · unfold WayZ; rw [f _ (by omega)]; exact hZ
/-- what a look ahead stands on -/
def LookR (σ : Sg) (p1 : Nat) (μ : Sg) (b l : Nat) : Prop := (p1 = 3 ∨ p1 = 29) ∧ RepK σ p1 μ ∧ RepSc σ μ b l ∧ σ 81 3 = nI (p1 + 1) ∧ σ 81 4 = nI 56
theorem Outlook_look_ok {σ μ : Sg} {p1 n : Nat} (hp1 : p1 = 3 ∨ p1 = 29) (hR : RepK σ p1 μ) (hQ : RepOr σ 73 μ) (hT : InvT μ) (hW : RepW σ 56 μ) (hn : n ≤ 200) :
    ∃ σ', Outlook_look σ p1 55 (nI n) = some σ' ∧ Fr 81 123 σ σ' ∧ LookR σ' p1 μ (stp μ) n ∧ RepW σ' 82 μ := by
  obtain ⟨hK, hO, ⟨hs, hs2⟩, _⟩ := hT
  have hT2 := hK.2.2.1.2
  generalize hσ1 : zup (zup σ 81 3 (nI (p1 + 1))) 81 4 (nI 56) = σ1
  have f1 : Fr 81 123 σ σ1 := by rw [← hσ1]; exact ((Fr.refl σ).up (by omega) (by omega)).up (by omega) (by omega)
  have x3 : σ1 81 3 = nI (p1 + 1) := by rw [← hσ1, zup_miss (by omega), zup_hit]
  have x4 : σ1 81 4 = nI 56 := by rw [← hσ1, zup_hit]
  have x5 : σ1 56 0 = nI (stp μ) := by rw [f1 56 (by omega), hW.1.2.2.2.2.1, hs]
  obtain ⟨σ2, a1, a2, a3⟩ := Schedule_plan_ok (σ := σ1) (w := 73) hp1 (by omega) (hR.fr f1 hT2 (by omega)) (hQ.fr f1 (by omega)) hK hO hs2 hn
  obtain ⟨σ3, b1, b2, b3, b4, b5, b6, b7⟩ := Water_copy_ok (σ := σ2) (w := 56) (v := 82) (by omega)
  have y3 : σ2 81 3 = nI (p1 + 1) := by rw [a2 81 (by omega), x3]
  have y4 : σ2 81 4 = nI 56 := by rw [a2 81 (by omega), x4]
  have f2 : Fr 81 123 σ σ2 := f1.trans (a2.wide (by omega) (by omega))
  have f3 : Fr 81 123 σ σ3 := f2.trans (b2.wide (by omega) (by omega))
  refine ⟨σ3, ?_, f3, ⟨hp1, hR.fr f3 hT2 (by omega), a3.fr b2 hK (by omega), by rw [b2 81 (by omega), y3], by rw [b2 81 (by omega), y4]⟩, (hW.fr f2 (by omega)).copy hK b3 b4 b5 b6 b7⟩
  unfold Outlook_look
  simp only [zpt_e, Nat.reduceAdd, hσ1]
  rw [x3, zmr2_e rfl hp1, x4, zmr1_e rfl, zmr1_e rfl, zgt_e, x5, a1, obs, y4, zmr1_e rfl, b1, obs]
theorem lookAgain_ok {σ μ : Sg} {p1 b l : Nat} (hK : InvK μ) (hL : LookR σ p1 μ b l) {μ0 : Sg} (hK0 : InvK μ0) (hW : RepW σ 56 μ0) :
    ∃ σ', Outlook_lookAgain σ = some σ' ∧ Fr 82 90 σ σ' ∧ LookR σ' p1 μ b l ∧ RepW σ' 82 μ0 := by
  obtain ⟨hp1, hR, hS, e3, e4⟩ := hL
  obtain ⟨σ3, b1, b2, b3, b4, b5, b6, b7⟩ := Water_copy_ok (σ := σ) (w := 56) (v := 82) (by omega)
  refine ⟨σ3, ?_, b2, ⟨hp1, hR.fr b2 hK.2.2.1.2 (by omega), hS.fr b2 hK (by omega), by rw [b2 81 (by omega), e3], by rw [b2 81 (by omega), e4]⟩, hW.copy hK0 b3 b4 b5 b6 b7⟩
  unfold Outlook_lookAgain
  rw [e4, zmr1_e rfl, b1, obs]
