/-! the step whole -/
def begP (p : Nat) (σ : Sg) : Sg := zup (zup (zup (zup (zup σ 189 p 0) 190 p 0) 191 p (σ 183 p)) 192 p 0) 193 p 0
def begS (σ : Sg) : Sg := itS begP 8 σ
theorem begP_succ (n : Nat) (μ : Sg) : itS begP (n + 1) μ = begP n (itS begP n μ) := rfl
theorem begS_it (μ : Sg) : ∀ n, Stat μ (itS begP n μ) ∧ itS begP n μ 183 = μ 183 ∧ ∀ p, p < n → itS begP n μ 189 p = 0 ∧ itS begP n μ 190 p = 0 ∧ itS begP n μ 191 p = μ 183 p ∧ itS begP n μ 192 p = 0 ∧ itS begP n μ 193 p = 0 := by
  intro n
  induction n with
  | zero => exact ⟨Stat.refl μ, rfl, fun p hp => absurd hp (by omega)⟩
  | succ n ih =>
    obtain ⟨s, h0, h⟩ := ih
    rw [begP_succ]
    unfold begP at h ⊢
    refine ⟨s.trans ((Stat.upT (by omega)).trans ((Stat.upT (by omega)).trans ((Stat.upT (by omega)).trans ((Stat.upT (by omega)).trans (Stat.upT (by omega)))))), ?_, ?_⟩
    · simp (disch := omega) only [zup_ne]
      exact h0
    · intro p hp
      by_cases e : p = n
      · subst e
        simp (disch := omega) only [zup_ne, zup_hit]
        exact ⟨trivial, trivial, congrFun h0 p, trivial, trivial⟩
      · simp (disch := omega) only [zup_ne, zup_miss]
        exact h p (by omega)
theorem begS_stat (μ : Sg) : Stat μ (begS μ) := (begS_it μ 8).1
theorem begS_183 (μ : Sg) : begS μ 183 = μ 183 := (begS_it μ 8).2.1
theorem M_begins_e (σ : Sg) : M_begins σ = some (begS σ) := by
  have h := mloop (b := fun (s : (Sg × Int32)) => M_begins_l2 s.1 s.2) (f := begP) (n := 8) (σ := σ) (fun _ => True) (by omega) trivial (fun j υ hj _ => ⟨by
      unfold M_begins_l2 begP
      simp (disch := omega) only [zgt_e, zpt_e, zlt_e, zrd_e, zwr_e, zelr_e, znz_e, zcp_e, zlit, nI_add, nI_mul, nI_sub, nI_div, ↓irem_f, irem_e, Nat.zero_add, Nat.add_zero, obs, zb_t, zb_f, nI_eqt, nI_eqf, nI_let, nI_lef, nI_ltt, nI_ltf, nI_m1, nI_n1, ↓reduceIte, zup_ne, zup_miss, zup_hit, zbo_1, zbo_0, reduceCtorEq, sel_l, sel_r, Nat.reduceAdd, Nat.reduceSub, Nat.reduceMul], trivial⟩) (fun υ _ => by
      unfold M_begins_l2
      simp (disch := omega) only [zgt_e, zpt_e, zlt_e, zrd_e, zwr_e, zelr_e, znz_e, zcp_e, zlit, nI_add, nI_mul, nI_sub, nI_div, ↓irem_f, irem_e, Nat.zero_add, Nat.add_zero, obs, zb_t, zb_f, nI_eqt, nI_eqf, nI_let, nI_lef, nI_ltt, nI_ltf, nI_m1, nI_n1, ↓reduceIte, zup_ne, zup_miss, zup_hit, zbo_1, zbo_0, reduceCtorEq, sel_l, sel_r, Nat.reduceAdd, Nat.reduceSub, Nat.reduceMul])
  unfold M_begins begS
  simp only [zlt_e, zlit, h.1, obs]
theorem InvW.stat {σ τ : Sg} (s : Stat σ τ) (h : InvW σ) (h2 : τ 183 205 = σ 183 205) : InvW τ := by
  obtain ⟨hT, kc, hk, hk2⟩ := h
  exact ⟨s.e_InvT hT, kc, h2.trans hk, hk2⟩
theorem M_stepsOn_e {σ : Sg} (hW : InvW σ) : M_stepsOn σ = some (goS (begS σ)) := by
  unfold M_stepsOn
  rw [M_begins_e, obs, (M_goes_e (hW.stat (begS_stat σ) (by rw [begS_183]))).1, obs]
def RepW (σ : Sg) (w : Nat) (μ : Sg) : Prop := RepV σ w μ ∧ (∀ p, p < nP μ → WayA σ w μ p (stp μ)) ∧ WayZ σ w μ
/-- what alarms and notes leave alone -/
def Keep (ν ν' : Sg) : Prop := Stat ν ν' ∧ (∀ i, i < 32 ∨ (40 ≤ i ∧ i < 205) → ν' 183 i = ν 183 i) ∧ (∀ a, a ≠ 183 → ν' a = ν a)
theorem Keep.refl (ν : Sg) : Keep ν ν := ⟨Stat.refl ν, fun _ _ => rfl, fun _ _ => rfl⟩
theorem Keep.trans {σ τ υ : Sg} (h : Keep σ τ) (g : Keep τ υ) : Keep σ υ := ⟨h.1.trans g.1, fun i hi => (g.2.1 i hi).trans (h.2.1 i hi), fun a ha => (g.2.2 a ha).trans (h.2.2 a ha)⟩
theorem Keep.up {σ : Sg} {k : Nat} {v : Int32} (h : (32 ≤ k ∧ k < 40) ∨ 205 ≤ k) : Keep σ (zup σ 183 k v) := ⟨Stat.up183 (by omega), fun i hi => zup_miss (by omega), fun a ha => zup_ne ha⟩
theorem Keep.it {f : Nat → Sg → Sg} {σ : Sg} : ∀ {n : Nat}, (∀ j τ, j < n → Keep τ (f j τ)) → Keep σ (itS f n σ)
  | 0, _ => Keep.refl σ
  | n + 1, h => (Keep.it (fun j τ hj => h j τ (by omega))).trans (h n _ (by omega))
theorem keepS_keep {p : Nat} (σ : Sg) : Keep σ (keepS p σ) := by
  unfold keepS keep0
  exact ((Keep.up (by omega)).trans (Keep.up (by omega))).trans ((Keep.up (by omega)).trans (Keep.up (by omega)))
theorem shf3_keep (σ : Sg) (n : Nat) : Keep σ (itS shf3 n σ) := Keep.it (fun j τ _ => Keep.up (by omega))
theorem watS_keep {p : Nat} (h : p < 8) (σ : Sg) : Keep σ (watS p σ) := by
  have h1 : Keep σ (watQ p σ) := Keep.up (by omega)
  have h2 : Keep (watQ p σ) (kepS p (watQ p σ)) := by
    unfold kepS
    split
    · exact (shf3_keep _ _).trans ((Keep.up (by omega)).trans (keepS_keep _))
    · exact keepS_keep _
  unfold watS watN
  split
  · split
    · exact h1
    · exact h1.trans h2
  · exact h1
theorem notS_keep (σ : Sg) : Keep σ (notS σ) := by
  have h : ∀ i, i < 205 → notS σ 183 i = σ 183 i := by
    intro i hi
    unfold notS
    rw [zrow_hit]
    unfold notF
    rw [if_neg (by omega), if_neg (by omega), if_neg (by omega)]
  exact ⟨⟨fun a ha _ _ _ _ _ => zrow_ne ha, fun k hk => h k (by omega)⟩, fun i hi => h i (by omega), fun a ha => zrow_ne ha⟩
/-- the state behind a step, ahead of its count -/
def goQ (σ : Sg) : Sg := if σ 171 26 = 0 then notS (itS watS (nP σ) (goW σ)) else itS watS (nP σ) (goW σ)
theorem goS_e (σ : Sg) : goS σ = bump (goQ σ) := rfl
theorem goQ_keep {σ : Sg} (hP : nP σ ≤ 8) : Keep (goW σ) (goQ σ) := by
  have h : Keep (goW σ) (itS watS (nP σ) (goW σ)) := Keep.it (fun j τ hj => watS_keep (by omega) τ)
  unfold goQ
  split
  · exact h.trans (notS_keep _)
  · exact h
theorem RepV.keep {σ ν ν' : Sg} {w : Nat} (h : RepV σ w ν) (k : Keep ν ν') (hP : nP ν ≤ 8) (hO : nO ν ≤ 10) : RepV σ w ν' := by
  obtain ⟨v1, v2, v3, v4, v5, v6, v7⟩ := h
  obtain ⟨s, k1, k2⟩ := k
  refine ⟨fun p hp => ?_, fun o ho => ?_, fun i hi => ?_, ?_, ?_, ?_, ?_⟩
  · rw [s.e_nP] at hp
    rw [k1 _ (by omega), k1 _ (by omega), k1 _ (by omega), k1 _ (by omega)]
    exact v1 p hp
  · rw [s.e_nO] at ho
    rw [k1 _ (by omega), k1 _ (by omega)]
    exact v2 o ho
  · rw [k1 _ (by omega)]
    exact v3 i hi
  · rw [v4, s.e_nO]
    exact sm_congr (fun o ho => by rw [k1 _ (by omega)])
  · rw [k1 _ (by omega)]; exact v5
  · rw [k1 _ (by omega)]; exact v6
  · rw [k1 _ (by omega)]; exact v7
theorem RepN.keep {σ ν ν' : Sg} {w : Nat} (h : RepN σ w ν) (k : Keep ν ν') : RepN σ w ν' := by
  intro p hp
  rw [k.1.e_nP] at hp
  rw [k.2.2 _ (by omega), k.2.2 _ (by omega), k.2.2 _ (by omega), k.2.2 _ (by omega)]
  exact h p hp
theorem RepV.e_bump {σ ν : Sg} {w : Nat} (h : RepV σ w ν) (hw : w = 56 ∨ w = 82) (hP : nP ν ≤ 8) (hO : nO ν ≤ 10) : RepV (zup σ w 0 (ν 183 196 + 1)) w (bump ν) := by
  obtain ⟨v1, v2, v3, v4, v5, v6, v7⟩ := h
  have e : nP (bump ν) = nP ν := rfl
  have e2 : nO (bump ν) = nO ν := rfl
  unfold bump
  refine ⟨fun p hp => ?_, fun o ho => ?_, fun i hi => ?_, ?_, ?_, ?_, ?_⟩
  · have := v1 p hp
    simp (disch := omega) only [zup_ne, zup_miss]
    have hp' : p < nP ν := hp
    rw [zup_miss (by omega), zup_miss (by omega), zup_miss (by omega), zup_miss (by omega)]
    exact this
  · have := v2 o ho
    have ho' : o < nO ν := ho
    simp (disch := omega) only [zup_ne, zup_miss]
    exact this
  · simp (disch := omega) only [zup_ne, zup_miss]
    exact v3 i hi
  · simp (disch := omega) only [zup_ne]
    rw [v4]
    refine sm_congr (fun o ho => ?_)
    rw [zup_miss (by omega)]
  · rw [zup_hit, zup_hit]
  · simp (disch := omega) only [zup_miss]
    exact v6
  · simp (disch := omega) only [zup_miss]
    exact v7
theorem Water_goOn_ok {σ ν : Sg} {w p1 b l : Nat} (hw : w = 56 ∨ w = 82) (hp1 : p1 = 3 ∨ p1 = 29) (hR : RepK σ p1 ν) (hS : RepSc σ ν b l) (hT : InvT ν) (hb : b ≤ stp ν) (hb2 : stp ν + 1 ≤ b + l) (hW : RepW σ w ν) (hN : RepN σ w ν) (h0 : ∀ q, q < nP ν → ν 192 q = 0) :
    ∃ σ', Water_goOn σ w p1 = some σ' ∧ Fr w (w + 16) σ σ' ∧ Stat ν (goW ν) ∧ (∀ ν', Keep (goW ν) ν' → RepV σ' w (bump ν')) ∧ RepN σ' w (goW ν) ∧ RepP σ' w (goW ν) (nP ν) ∧ RepWs σ' w (goW ν) ∧ (∀ p, p < nP ν → WayA σ' w (goW ν) p (stp ν + 1)) ∧ WayZ σ' w (goW ν) := by
  obtain ⟨hV, hA, hZ⟩ := hW
  have hK := hT.1
  have hP8 := hK.1.2
  have hO10 := hK.2.1.2
  have hT2 := hK.2.2.1.2
  obtain ⟨σ1, a1, a2, a3, a4, a5, a6, a7⟩ := Water_arriveAndLeak_ok hw hp1 hR hT hV hN hA
  generalize hν1 : itS leakS (nP ν) (itS arrS (nP ν) ν) = ν1 at a3 a4 a5 a6
  have hR1 : RepK σ1 p1 ν1 := (hR.fr a2 hT2 (by omega)).stat a3
  have hS1 : RepSc σ1 ν1 b l := (hS.fr a2 hK (by omega)).stat a3 hT.2.1
  have hT1 := a3.e_InvT hT
  have h192a : ∀ q, ν1 192 q = ν 192 q := by
    intro q
    rw [← hν1, alS_it _ _ hP8]
    have : ∀ n, itS alS n ν 192 = ν 192 := by
      intro n
      induction n with
      | zero => rw [itS_zero]
      | succ n ih => rw [alS_succ]; unfold leakS; rw [zup_ne (by omega), zup_ne (by omega), arrS_ne (by omega) (by omega), ih]
    rw [this]
  obtain ⟨σ2, b1, b2, b3, b4, b5, b6, b7, b8⟩ := Water_serveOutlets_ok hw hp1 hR1 hS1 hT1 (by rw [a3.e_stp]; exact hb) (by rw [a3.e_stp]; omega) a4 a5
  have hnO : nO ν1 = nO ν := a3.e_nO
  have hnP1 : nP ν1 = nP ν := a3.e_nP
  generalize hν2 : itS takS (nO ν1) ν1 = ν2 at b3 b4 b5 b7 b8
  have s2 := a3.trans b3
  have hR2 : RepK σ2 p1 ν2 := (hR1.fr b2 (by rw [a3.e_nT]; exact hT2) (by omega)).stat b3
  have hT2' := b3.e_InvT hT1
  have hnP2 : nP ν2 = nP ν := s2.e_nP
  have hwB : ∀ p, p < nP ν2 → WayB σ2 w ν2 p (stp ν2) := by
    intro p hp
    rw [s2.e_stp]
    refine (a6 p (by omega)).eq b6 (by rw [b3.e_tl]) (fun k hk => b7 _ (by omega) (by omega)) ?_
    rw [a3.e_tl]
    exact (hK.2.2.2.2.1 p (by omega)).1
  have hwZ : WayZ σ2 w ν2 := by
    intro p hp i hi hi9
    rw [hnP2] at hp
    rw [s2.e_tl] at hi
    rw [b6, a7]
    exact hZ p hp i hi hi9
  obtain ⟨σ3, c1, c2, c3, c4, c5, c6, c7, c8, c9⟩ := Water_passGates_ok hw hp1 hR2 hT2' b4 b5 hwB hwZ
  generalize hν3 : itS pasS (nP ν2) ν2 = ν3 at c3 c4 c5 c6 c7 c8 c9
  have s3 := s2.trans c3
  have hR3 : RepK σ3 p1 ν3 := (hR2.fr c2 (by rw [s2.e_nT]; exact hT2) (by omega)).stat c3
  have hT3 := c3.e_InvT hT2'
  have hnP3 : nP ν3 = nP ν := s3.e_nP
  obtain ⟨σ4, d1, d2, d3, d4, d5, ⟨d6, d7, d8⟩, d9, d10⟩ := Water_spillOver_ok hw hp1 hR3 hT3 c4 c5 (fun q hq => by rw [c9, b8, h192a q]; exact h0 q (by omega))
  generalize hν4 : itS ovrS (nP ν3) ν3 = ν4 at d3 d4 d5 d9 d10
  have s4 := s3.trans d3
  have hnP4 : nP ν4 = nP ν := s4.e_nP
  have hR4 : RepK σ4 p1 ν4 := (hR3.fr d2 (by rw [s3.e_nT]; exact hT2) (by omega)).stat d3
  have f4 : Fr w (w + 16) σ σ4 := ((a2.trans b2).trans c2).trans d2
  have hS4 : RepSc σ4 ν4 b l := (hS.fr f4 hK (by omega)).stat s4 hT.2.1
  have hT4 := d3.e_InvT hT3
  obtain ⟨σ5, e1, e2, e3, e4, e5⟩ := Water_moveGates_ok hw hp1 hR4 hS4 hT4 (by rw [s4.e_stp]; exact hb) (by rw [s4.e_stp]; exact hb2) d4
  obtain ⟨m0, m1, m2⟩ := movS_it hT4.1 hT4.2.1 (nP ν4) (Nat.le_refl _)
  have hg : itS movS (nP ν4) ν4 = goW ν := by
    unfold goW
    rw [← hν4, ← hν3, ← hν2, ← hν1] at *
    rw [hnP4, hnP3, hnP2, hnO]
  rw [hg] at e3 m0 m1 m2
  have s5 := s4.trans m0
  have hst : σ5 w 0 = goW ν 183 196 := e3.2.2.2.2.1
  have hK5 : ∀ ν', Keep (goW ν) ν' → ν' 183 196 = goW ν 183 196 := fun ν' k => k.2.1 196 (by omega)
  refine ⟨zup σ5 w 0 (goW ν 183 196 + 1), ?_, ?_, s5, ?_, ?_, ?_, ?_, ?_, ?_⟩
  · unfold Water_goOn
    simp only [a1, b1, c1, d1, e1, obs, zgt_e, zpt_e, hst]
  · exact ((f4.trans e2).trans (Fr.refl _)).up (by omega) (by omega)
  · intro ν' k
    have h1 := e3.keep k (by rw [s5.e_nP]; exact hP8) (by rw [s5.e_nO]; exact hO10)
    rw [← hK5 ν' k]
    exact h1.e_bump hw (by rw [k.1.e_nP, s5.e_nP]; exact hP8) (by rw [k.1.e_nO, s5.e_nO]; exact hO10)
  · intro p hp
    rw [s5.e_nP] at hp
    have := d5 p (by omega)
    simp (disch := omega) only [zup_ne]
    rw [e5 _ (by omega) (by omega), e5 _ (by omega) (by omega), e5 _ (by omega) (by omega), e5 _ (by omega) (by omega), m1 _ (by omega), m1 _ (by omega), m1 _ (by omega), m1 _ (by omega)]
    exact this
  · intro p hp
    obtain ⟨x1, x2⟩ := c6 p (by omega)
    simp (disch := omega) only [zup_ne]
    rw [e5 _ (by omega) (by omega), e5 _ (by omega) (by omega), d7, d8, m1 193 (by omega), d10, m2, if_neg (by omega), d9 _ (by omega) (by omega)]
    exact ⟨x1, x2⟩
  · intro p hp
    rw [s5.e_nP] at hp
    have x := e4 p (by omega)
    rw [zup_ne (by omega), x, s5.e_stp, ← s4.e_stp, m0.e_wsh hT4.1 hT4.2.1 (by omega) (by rw [m2, if_neg (by omega)])]
  · intro p hp
    have x := c7 p (by omega)
    rw [s2.e_stp] at x
    refine x.eq ?_ ?_ ?_ ?_
    · rw [zup_ne (by omega), e5 _ (by omega) (by omega), d6]
    · rw [s5.e_tl, s3.e_tl]
    · intro k hk
      rw [m2, if_neg (by omega), d9 _ (by omega) (by omega)]
    · rw [s3.e_tl]
      exact (hK.2.2.2.2.1 p hp).1
  · intro p hp i hi hi9
    rw [s5.e_nP] at hp
    rw [s5.e_tl] at hi
    rw [zup_ne (by omega), e5 _ (by omega) (by omega), d6]
    exact c8 p (by omega) i (by rw [s3.e_tl]; exact hi) hi9
