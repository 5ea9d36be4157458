/-! a step of the class's water against the reference's: arrivals, leaks, outlets -/
def RepV (σ : Sg) (w : Nat) (μ : Sg) : Prop :=
  (∀ p, p < nP μ → σ (w + 1) p = μ 183 p ∧ σ (w + 2) p = μ 183 (8 + p) ∧ σ (w + 3) p = μ 183 (24 + p) ∧ σ (w + 4) p = μ 183 (16 + p)) ∧
  (∀ o, o < nO μ → σ (w + 6) o = μ 183 (128 + o) ∧ σ (w + 7) o = μ 183 (138 + o)) ∧
  (∀ i, i < 5 → σ (w + 8) i = μ 183 (200 + i)) ∧ σ (w + 8) 6 = sm (fun o => μ 183 (138 + o)) (nO μ) ∧
  σ w 0 = μ 183 196 ∧ σ w 1 = μ 183 197 ∧ σ w 2 = μ 183 198
def RepN (σ : Sg) (w : Nat) (μ : Sg) : Prop := ∀ p, p < nP μ → σ (w + 10) p = μ 191 p ∧ σ (w + 11) p = μ 189 p ∧ σ (w + 12) p = μ 190 p ∧ σ (w + 15) p = μ 192 p
def WayA (σ : Sg) (w : Nat) (μ : Sg) (p s : Nat) : Prop := (∀ k, k < tl μ p 3 → σ (w + 5) (9 * p + (s + k) % tl μ p 3) = μ 183 (40 + 10 * p + k)) ∧ (∀ k, tl μ p 3 ≤ k → k < 10 → μ 183 (40 + 10 * p + k) = 0)
def WayB (σ : Sg) (w : Nat) (μ : Sg) (p s : Nat) : Prop := (∀ k, k + 1 < tl μ p 3 → σ (w + 5) (9 * p + (s + (k + 1)) % tl μ p 3) = μ 183 (40 + 10 * p + k)) ∧ (∀ k, tl μ p 3 ≤ k + 1 → k < 10 → μ 183 (40 + 10 * p + k) = 0)
def WayZ (σ : Sg) (w : Nat) (μ : Sg) : Prop := ∀ p, p < nP μ → ∀ i, tl μ p 3 ≤ i → i < 9 → σ (w + 5) (9 * p + i) = 0
theorem arrS_183 {p : Nat} (σ : Sg) (i : Nat) (hp : p < 8) : arrS p σ 183 i = if i = p then σ 183 p + σ 183 (40 + 10 * p) else if 40 + 10 * p ≤ i ∧ i < 40 + 10 * p + 9 then σ 183 (i + 1) else if i = 40 + 10 * p + 9 then 0 else σ 183 i := by
  unfold arrS
  by_cases e : i = 40 + 10 * p + 9
  · subst e
    rw [zup_hit, if_neg (by omega), if_neg (by omega), if_pos rfl]
  · rw [zup_miss e, shift_at, zup_ne (by omega)]
    by_cases e2 : i = p
    · subst e2
      rw [if_neg (by omega), if_pos rfl, zup_hit]
    · rw [if_neg e2, zup_miss e2]
      by_cases c : 40 + 10 * p ≤ i ∧ i < 40 + 10 * p + 9
      · rw [if_pos c, if_pos c, zup_miss (by omega)]
      · rw [if_neg c, if_neg c, if_neg e]
theorem arrS_hit {p : Nat} (σ : Sg) (hp : p < 8) : arrS p σ 183 p = σ 183 p + σ 183 (40 + 10 * p) := by rw [arrS_183 σ p hp, if_pos rfl]
theorem arrS_miss {p i : Nat} {σ : Sg} (hp : p < 8) (h : i ≠ p) (h2 : i < 40 + 10 * p ∨ 40 + 10 * p + 10 ≤ i) : arrS p σ 183 i = σ 183 i := by rw [arrS_183 σ i hp, if_neg h, if_neg (by omega), if_neg (by omega)]
theorem zup_row {σ : Sg} {a k : Nat} {v : Int32} : zup σ a k v a = upd (σ a) k v := if_pos rfl
theorem arrS_189 {p : Nat} (σ : Sg) : arrS p σ 189 = upd (σ 189) p (σ 189 p + σ 183 (40 + 10 * p)) := by
  unfold arrS
  rw [zup_ne (by omega), shift_ne _ _ (by omega), zup_row, zup_ne (by omega)]
theorem arrS_ne {p a : Nat} {σ : Sg} (h : a ≠ 183) (h2 : a ≠ 189) : arrS p σ a = σ a := by
  unfold arrS
  rw [zup_ne h, shift_ne _ _ h, zup_ne h2, zup_ne h]
theorem upd_hit {f : Nat → Int32} {k : Nat} {v : Int32} : upd f k v k = v := if_pos rfl
theorem upd_miss {f : Nat → Int32} {k j : Nat} {v : Int32} (h : j ≠ k) : upd f k v j = f j := if_neg h
def alS (p : Nat) (σ : Sg) : Sg := leakS p (arrS p σ)
theorem arr_leak_comm {p q : Nat} (hp : p < 8) (hq : q < 8) (h : p ≠ q) (σ : Sg) : arrS p (leakS q σ) = leakS q (arrS p σ) := by
  have l1 : ∀ (τ : Sg) (i : Nat), leakS q τ 183 i = if i = 202 then τ 183 202 + mn (τ 183 (24 + q)) (τ 183 q) else if i = q then τ 183 q - mn (τ 183 (24 + q)) (τ 183 q) else τ 183 i := by
    intro τ i
    unfold leakS
    by_cases e : i = 202
    · subst e; rw [zup_hit, if_pos rfl]
    · rw [zup_miss e, if_neg e]
      by_cases e2 : i = q
      · subst e2; rw [zup_hit, if_pos rfl]
      · rw [zup_miss e2, if_neg e2]
  have l2 : ∀ (τ : Sg) (a : Nat), a ≠ 183 → leakS q τ a = τ a := fun τ a ha => by unfold leakS; rw [zup_ne ha, zup_ne ha]
  funext a
  by_cases c : a = 183
  · subst c
    funext i
    rw [l1 (arrS p σ) i, arrS_miss (i := 202) hp (by omega) (by omega), arrS_miss (i := 24 + q) hp (by omega) (by omega), arrS_miss (i := q) hp (by omega) (by omega), arrS_183 (leakS q σ) i hp, arrS_183 σ i hp, l1 σ p, l1 σ (40 + 10 * p), l1 σ (i + 1), l1 σ i]
    by_cases e1 : i = p
    · subst e1
      rw [if_pos rfl, if_neg (by omega), if_neg (by omega), if_neg (by omega), if_neg (by omega), if_neg (by omega), if_neg (by omega), if_pos rfl]
    · rw [if_neg e1]
      by_cases e2 : 40 + 10 * p ≤ i ∧ i < 40 + 10 * p + 9
      · rw [if_pos e2, if_neg (by omega), if_neg (by omega), if_neg (by omega), if_neg (by omega), if_neg e1, if_pos e2]
      · rw [if_neg e2]
        by_cases e3 : i = 40 + 10 * p + 9
        · rw [if_pos e3, if_neg (by omega), if_neg (by omega), if_neg e1, if_neg e2, if_pos e3]
        · rw [if_neg e3]
          by_cases e4 : i = 202
          · rw [if_pos e4, if_pos e4]
          · rw [if_neg e4, if_neg e4]
            by_cases e5 : i = q
            · rw [if_pos e5, if_pos e5]
            · rw [if_neg e5, if_neg e5, if_neg e1, if_neg e2, if_neg e3]
  · rw [l2 _ a c]
    by_cases c2 : a = 189
    · subst c2
      rw [arrS_189, arrS_189, l2 _ _ (by decide), l1 σ (40 + 10 * p), if_neg (by omega), if_neg (by omega)]
    · rw [arrS_ne c c2, arrS_ne c c2, l2 _ a c]
theorem alS_succ (σ : Sg) (n : Nat) : itS alS (n + 1) σ = leakS n (arrS n (itS alS n σ)) := rfl
theorem alS_key {n : Nat} (hn : n < 8) : ∀ (m : Nat) (τ : Sg), m ≤ n → itS leakS m (arrS n τ) = arrS n (itS leakS m τ) := by
  intro m τ
  induction m with
  | zero => intro _; rfl
  | succ m ih => intro hm; rw [itS_succ, itS_succ, ih (by omega), arr_leak_comm (by omega) (by omega) (by omega)]
theorem itS_zero (f : Nat → Sg → Sg) (σ : Sg) : itS f 0 σ = σ := rfl
theorem alS_it (σ : Sg) (n : Nat) : n ≤ 8 → itS leakS n (itS arrS n σ) = itS alS n σ := by
  induction n with
  | zero => intro _; rw [itS_zero, itS_zero, itS_zero]
  | succ n ih =>
    intro h
    have h1 : itS arrS (n + 1) σ = arrS n (itS arrS n σ) := itS_succ _ _ _
    have h2 := alS_key (n := n) (by omega) n (itS arrS n σ) (Nat.le_refl n)
    have h3 := ih (by omega)
    have h4 := alS_succ σ n
    have h5 : itS leakS (n + 1) (itS arrS (n + 1) σ) = leakS n (itS leakS n (itS arrS (n + 1) σ)) := itS_succ _ _ _
    rw [h5, h1, h2, h3, h4]
theorem alS_stat {p : Nat} (h : p < 8) (σ : Sg) : Stat σ (alS p σ) := (arrS_stat h σ).trans (leakS_stat h _)
theorem al_body {τ ν : Sg} {w p1 j : Nat} (hw : w = 56 ∨ w = 82) (hp1 : p1 = 3 ∨ p1 = 29) (hR : RepK τ p1 ν) (hT : InvT ν) (hj : j < nP ν) (hV : RepV τ w ν) (hN : RepN τ w ν) (hA : WayA τ w ν j (stp ν)) :
    ∃ τ', Water_arriveAndLeak_l2 τ w p1 (nI j) = some (.inl (τ', nI (j + 1))) ∧ Fr w (w + 16) τ τ' ∧ RepV τ' w (alS j ν) ∧ RepN τ' w (alS j ν) ∧ τ' (w + 5) = τ (w + 5) := by
  obtain ⟨hK, hO, ⟨hs, hs2⟩, _⟩ := hT
  obtain ⟨hP, hP8⟩ := hK.1
  have hO10 := hK.2.1.2
  have st := alS_stat (p := j) (by omega) ν
  obtain ⟨v1, v2, v3, v4, v5, v6, v7⟩ := hV
  have hd := (hR.2.1 j hj).1.2.2.2.2
  have hd3 := (hK.2.2.2.1 j hj 3 (by omega)).1
  have hd9 := (hK.2.2.2.2.1 j hj).1
  rw [hd3] at hd
  have hP' : τ p1 3 = nI (nP ν) := hR.1.1.trans hP
  have ha : Water_arrivesIn τ w p1 (nI j) (nI 0) = some (ν 183 (40 + 10 * j)) := by
    unfold Water_arrivesIn
    by_cases c : tl ν j 3 = 0
    · have h0 := hA.2 0 (by omega) (by omega)
      rw [Nat.add_zero] at h0
      simp (disch := omega) only [zgt_e, zpt_e, zlt_e, zrd_e, zwr_e, zelr_e, znz_e, zcp_e, zlit, nI_add, nI_mul, nI_sub, nI_div, ↓irem_f, irem_e, Nat.zero_add, Nat.add_zero, obs, zb_t, zb_f, nI_eqt, nI_eqf, nI_let, nI_lef, nI_ltt, nI_ltf, nI_m1, nI_n1, ↓reduceIte, zup_ne, zup_miss, zup_hit, zbo_1, zbo_0, reduceCtorEq, sel_l, sel_r, Nat.reduceAdd, Nat.reduceSub, Nat.reduceMul, hd, c, h0]
    · have h1 := hA.1 0 (by omega)
      have hm : (stp ν) % tl ν j 3 < tl ν j 3 := Nat.mod_lt _ (by omega)
      rw [hs] at v5
      simp only [Nat.add_zero] at h1
      simp (disch := omega) only [zgt_e, zpt_e, zlt_e, zrd_e, zwr_e, zelr_e, znz_e, zcp_e, zlit, nI_add, nI_mul, nI_sub, nI_div, ↓irem_f, irem_e, Nat.zero_add, Nat.add_zero, obs, zb_t, zb_f, nI_eqt, nI_eqf, nI_let, nI_lef, nI_ltt, nI_ltf, nI_m1, nI_n1, ↓reduceIte, zup_ne, zup_miss, zup_hit, zbo_1, zbo_0, reduceCtorEq, sel_l, sel_r, Nat.reduceAdd, Nat.reduceSub, Nat.reduceMul, hd, v5]
      rw [show j * 9 = 9 * j from Nat.mul_comm _ _, h1]
  obtain ⟨a1, a2, a3, a4⟩ := v1 j hj
  have a5 := v3 2 (by omega)
  obtain ⟨n1, n2, n3, n4⟩ := hN j hj
  unfold Water_arriveAndLeak_l2
  simp (disch := omega) only [zgt_e, zpt_e, zlt_e, zrd_e, zwr_e, zelr_e, znz_e, zcp_e, zlit, nI_add, nI_mul, nI_sub, nI_div, ↓irem_f, irem_e, Nat.zero_add, Nat.add_zero, obs, zb_t, zb_f, nI_eqt, nI_eqf, nI_let, nI_lef, nI_ltt, nI_ltf, nI_m1, nI_n1, ↓reduceIte, zup_ne, zup_miss, zup_hit, zbo_1, zbo_0, reduceCtorEq, sel_l, sel_r, Nat.reduceAdd, Nat.reduceSub, Nat.reduceMul, hP', ha, a1, a3, a5, n2, ↓mn_f]
  refine ⟨_, rfl, ?_, ?_, ?_, ?_⟩
  · exact ((((Fr.refl τ).up (by omega) (by omega)).up (by omega) (by omega)).up (by omega) (by omega)).up (by omega) (by omega)
  · refine ⟨?_, ?_, ?_, ?_, ?_⟩
    · intro p hp
      rw [st.e_nP] at hp
      obtain ⟨b1, b2, b3, b4⟩ := v1 p hp
      unfold alS leakS
      by_cases e : p = j
      · subst e
        simp (disch := omega) only [zup_ne, zup_miss, zup_hit, arrS_hit, arrS_miss, b2, b3, b4, and_self]
      · simp (disch := omega) only [zup_ne, zup_miss, zup_hit, arrS_hit, arrS_miss, b1, b2, b3, b4, and_self]
    · intro o ho
      rw [st.e_nO] at ho
      obtain ⟨b1, b2⟩ := v2 o ho
      unfold alS leakS
      simp (disch := omega) only [zup_ne, zup_miss, arrS_miss, b1, b2, and_self]
    · intro i hi
      have b := v3 i hi
      unfold alS leakS
      by_cases e : i = 2
      · subst e
        simp (disch := omega) only [zup_ne, zup_miss, zup_hit, arrS_hit, arrS_miss, Nat.reduceAdd]
      · simp (disch := omega) only [zup_ne, zup_miss, arrS_miss, b]
    · rw [st.e_nO]
      simp (disch := omega) only [zup_ne, zup_miss, v4]
      refine sm_congr (fun o ho => ?_)
      unfold alS leakS
      simp (disch := omega) only [zup_miss, arrS_miss]
    · unfold alS leakS
      simp (disch := omega) only [zup_ne, zup_miss, arrS_miss, v5, v6, v7, and_self]
  · intro p hp
    rw [st.e_nP] at hp
    obtain ⟨b1, b2, b3, b4⟩ := hN p hp
    unfold alS leakS
    by_cases e : p = j
    · subst e
      simp (disch := omega) only [zup_ne, zup_miss, zup_hit, arrS_189, upd_hit, arrS_ne, b1, b3, b4, and_self]
    · simp (disch := omega) only [zup_ne, zup_miss, zup_hit, arrS_189, upd_miss, arrS_ne, b1, b2, b3, b4, and_self]
  · simp (disch := omega) only [zup_ne]
theorem WayA.eq {τ τ' ν ν' : Sg} {w p s : Nat} (h : WayA τ w ν p s) (h1 : τ' (w + 5) = τ (w + 5)) (h2 : tl ν' p 3 = tl ν p 3) (h3 : ∀ k, k < 10 → ν' 183 (40 + 10 * p + k) = ν 183 (40 + 10 * p + k)) (hd : tl ν p 3 ≤ 9) : WayA τ' w ν' p s := by
  unfold WayA
  rw [h1, h2]
  exact ⟨fun k hk => by rw [h3 k (by omega)]; exact h.1 k hk, fun k hk hk2 => by rw [h3 k (by omega)]; exact h.2 k hk hk2⟩
theorem WayB.eq {τ τ' ν ν' : Sg} {w p s : Nat} (h : WayB τ w ν p s) (h1 : τ' (w + 5) = τ (w + 5)) (h2 : tl ν' p 3 = tl ν p 3) (h3 : ∀ k, k < 10 → ν' 183 (40 + 10 * p + k) = ν 183 (40 + 10 * p + k)) (hd : tl ν p 3 ≤ 9) : WayB τ' w ν' p s := by
  unfold WayB
  rw [h1, h2]
  exact ⟨fun k hk => by rw [h3 k (by omega)]; exact h.1 k hk, fun k hk hk2 => by rw [h3 k (by omega)]; exact h.2 k hk hk2⟩
theorem Water_arriveAndLeak_ok {σ μ : Sg} {w p1 : Nat} (hw : w = 56 ∨ w = 82) (hp1 : p1 = 3 ∨ p1 = 29) (hR : RepK σ p1 μ) (hT : InvT μ) (hV : RepV σ w μ) (hN : RepN σ w μ) (hA : ∀ p, p < nP μ → WayA σ w μ p (stp μ)) :
    ∃ σ', Water_arriveAndLeak σ w p1 = some σ' ∧ Fr w (w + 16) σ σ' ∧ Stat μ (itS leakS (nP μ) (itS arrS (nP μ) μ)) ∧ RepV σ' w (itS leakS (nP μ) (itS arrS (nP μ) μ)) ∧ RepN σ' w (itS leakS (nP μ) (itS arrS (nP μ) μ)) ∧ (∀ p, p < nP μ → WayB σ' w (itS leakS (nP μ) (itS arrS (nP μ) μ)) p (stp μ)) ∧ σ' (w + 5) = σ (w + 5) := by
  have hP8 := hT.1.1.2
  have hT2 := hT.1.2.2.1.2
  rw [alS_it _ _ hP8]
  have hl := zit_cnt (b := fun (s : (Sg × Int32)) => Water_arriveAndLeak_l2 s.1 w p1 s.2) (fun j τ => Fr w (w + 16) σ τ ∧ Stat μ (itS alS j μ) ∧ RepV τ w (itS alS j μ) ∧ RepN τ w (itS alS j μ) ∧ (∀ p, p < j → WayB τ w (itS alS j μ) p (stp μ)) ∧ (∀ p, p < nP μ → j ≤ p → WayA τ w (itS alS j μ) p (stp μ)) ∧ τ (w + 5) = σ (w + 5)) nI (nP μ) (σ := σ) (by omega)
    ⟨Fr.refl σ, Stat.refl μ, hV, hN, fun p h => absurd h (by omega), fun p hp _ => hA p hp, rfl⟩ (by
    rintro j τ hj ⟨f, s, v, n, wb, wa, e5⟩
    have hj' : j < nP (itS alS j μ) := by rw [s.e_nP]; exact hj
    have hR' : RepK τ p1 (itS alS j μ) := (hR.fr f hT2 (by omega)).stat s
    have hA' := wa j hj (Nat.le_refl j)
    rw [← s.e_stp] at hA'
    obtain ⟨τ', b1, b2, b3, b4, b5⟩ := al_body hw hp1 hR' (s.e_InvT hT) hj' v n hA'
    have st := alS_stat (p := j) (by omega) (itS alS j μ)
    have hm : ∀ i, i ≠ j → i ≠ 202 → (i < 40 + 10 * j ∨ 40 + 10 * j + 10 ≤ i) → alS j (itS alS j μ) 183 i = itS alS j μ 183 i := by
      intro i h1 h2 h3
      unfold alS leakS
      rw [zup_miss h2, zup_miss h1, arrS_miss (by omega) h1 h3]
    have htl : tl (itS alS j μ) = tl μ := s.e_tl
    have hd : ∀ p, p < nP μ → tl μ p 3 ≤ 9 := fun p hp => (hT.1.2.2.2.2.1 p hp).1
    refine ⟨τ', b1, f.trans b2, s.trans st, b3, b4, ?_, ?_, b5.trans e5⟩
    · intro p hp
      by_cases c : p = j
      · subst c
        have hpw : ∀ k, k < 10 → alS p (itS alS p μ) 183 (40 + 10 * p + k) = if k < 9 then itS alS p μ 183 (40 + 10 * p + (k + 1)) else 0 := by
          intro k hk
          unfold alS leakS
          rw [zup_miss (by omega), zup_miss (by omega), arrS_183 _ _ (by omega), if_neg (by omega)]
          by_cases c9 : k < 9
          · rw [if_pos (by omega), if_pos c9]; rfl
          · rw [if_neg (by omega), if_pos (by omega), if_neg c9]
        have hW := wa p hj (Nat.le_refl p)
        have hd9 := hd p hj
        show WayB τ' w (alS p (itS alS p μ)) p (stp μ)
        unfold WayB
        rw [b5, st.e_tl, htl]
        unfold WayA at hW
        rw [htl] at hW
        constructor
        · intro k hk
          rw [hpw k (by omega), if_pos (by omega)]
          exact hW.1 (k + 1) hk
        · intro k hk hk2
          rw [hpw k hk2]
          split
          · exact hW.2 (k + 1) hk (by omega)
          · rfl
      · have hpP : p < nP μ := by omega
        exact (wb p (by omega)).eq b5 (by show tl (alS j _) p 3 = _; rw [st.e_tl]) (fun k hk => hm _ (by omega) (by omega) (by omega)) (by rw [htl]; exact hd p hpP)
    · intro p hp hpj
      exact (wa p hp (by omega)).eq b5 (by show tl (alS j _) p 3 = _; rw [st.e_tl]) (fun k hk => hm _ (by omega) (by omega) (by omega)) (by rw [htl]; exact hd p hp)) (by
    rintro τ ⟨f, s, v, n, wb, wa, e5⟩
    have hP' : τ p1 3 = nI (nP μ) := by rw [f p1 (by omega), hR.1.1]; exact hT.1.1.1
    unfold Water_arriveAndLeak_l2
    simp (disch := omega) only [zgt_e, zpt_e, zlt_e, zrd_e, zwr_e, zelr_e, znz_e, zcp_e, zlit, nI_add, nI_mul, nI_sub, nI_div, ↓irem_f, irem_e, Nat.zero_add, Nat.add_zero, obs, zb_t, zb_f, nI_eqt, nI_eqf, nI_let, nI_lef, nI_ltt, nI_ltf, nI_m1, nI_n1, ↓reduceIte, zup_ne, zup_miss, zup_hit, zbo_1, zbo_0, reduceCtorEq, sel_l, sel_r, Nat.reduceAdd, Nat.reduceSub, Nat.reduceMul, hP'])
  obtain ⟨τ, e, f, s, v, n, wb, wa, e5⟩ := hl
  refine ⟨τ, ?_, f, s, v, n, wb, e5⟩
  unfold Water_arriveAndLeak
  simp only [zlt_e, zlit, e, obs]
