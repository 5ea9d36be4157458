/-! set -/
theorem set_no {σ : Sg} {n : Nat} (hx : CK_set_j78 σ 0 = some (false, refC σ 3)) (h : Rel σ n) {c : Option ((Bool × Sg) × Nat)} {m : Sg → Option (Bool × Sg)} (h1 : c = (CK_set_j78 σ 0).bind fun o => some (o, n)) (h2 : m (refC σ 3) = (M_isRefused (refC σ 3) (nI 3)).bind fun r => some (r.1, r.2)) : Acts n c m := by
  rw [hx, obs] at h1
  rw [den_m (by omega), obs] at h2
  have := h.le
  exact ⟨false, refC σ 3, refM (refC σ 3) 3, n, h1, h2, rel_ref h (by omega), Or.inl rfl, by omega⟩
theorem set_j78 (σ : Sg) : CK_set_j78 σ 0 = some (false, refC σ 3) := by
  unfold CK_set_j78
  rw [if_pos rfl, show (3 : Int32) = nI 3 from rfl, den_c (by omega), obs]
  exact if_pos rfl
theorem set_j118 {σ : Sg} (x3 s0 : Int32) : M_set_j118 σ x3 0 s0 = (M_isRefused σ (nI 3)).bind fun r => some (r.1, r.2) := by
  unfold M_set_j118
  exact if_pos rfl
theorem set_j91 {σ : Sg} (x1 x2 x3 : Int32) : M_set_j91 σ x1 x2 x3 0 = (M_isRefused σ (nI 3)).bind fun r => some (r.1, r.2) := by
  unfold M_set_j91
  split
  · exact set_j118 _ _
  · split
    · exact set_j118 _ _
    · exact set_j118 _ _
/-- the reference writes one cell of its own -/
theorem set_m {σ ρ : Sg} {x : Int32} {e : Nat} (he : e < 1607) (h1 : σ 183 e ≠ x) (h2 : M_remembers σ = some ρ) : M_set_j118 σ x 1 (nI e) = some (true, zup ρ 183 e x) := by
  unfold M_set_j118
  rw [if_neg (show ¬ (1 : Int32) = 0 by decide), zrd_e he (by omega), if_neg h1, h2, obs, zwr_e he (by omega)]
theorem set_m0 {σ : Sg} {x : Int32} {e : Nat} (he : e < 1607) (h1 : σ 183 e = x) : M_set_j118 σ x 1 (nI e) = (M_isRefused σ (nI 3)).bind fun r => some (r.1, r.2) := by
  unfold M_set_j118
  rw [if_neg (show ¬ (1 : Int32) = 0 by decide), zrd_e he (by omega), if_pos h1]
  rfl
theorem a_set {σ : Sg} {n : Nat} (h : Rel σ n) (x y z : Int32) : Acts n (CK_set n σ x y z) (fun τ => M_set τ x y z) := by
  have h0 := h
  obtain ⟨p1, K, t, c, R, q, s, g, L, hC, hr⟩ := h0
  have hC0 := hC
  obtain ⟨hB, hT, hz, hNm, hRg, hSn⟩ := hC
  have hK := hB.1.2.2.1
  have hP8 := hK.1.2
  have j78 := set_j78 σ
  obtain ⟨τ, n1, K1, r0, r1, r2, r3, r4, f0, fa, r7, r8⟩ := c_remember hRg
  have hrem : RemC σ τ n1 K1 t c := ⟨r1, r2, r3, r4, r7, r8⟩
  have hle : n1 ≤ 90000 := by have := r1.1; have := r1.2.1; omega
  have hn1 := rem_n r0
  have toldR : refC σ 3 171 25 = σ 171 25 := by rw [refC_ne (by omega)]
  by_cases x0 : x = 0
  · subst x0
    have mpl : M_isPool (refC σ 3) y = M_isPool σ y := by
      unfold M_isPool
      rw [zgt_e, zgt_e, refC_ne (by omega)]
    have in02 : M_isIn 0 0 2 = some true := by decide
    rcases isPool_c hB.1.1 hB.1.2.1 hK y with ⟨e1, e2⟩ | ⟨p, hp, rfl, e1, e2⟩
    · refine set_no j78 h ?_ ?_
      · unfold CK_set CK_changeLeak CK_set_p34
        rw [if_pos rfl, e1, bf]
        rfl
      · show M_set (refC σ 3) 0 y z = _
        unfold M_set
        rw [zgt_e, toldR, in02, bt, if_pos rfl, mpl, e2, bf]
        rcases hT.2 with ⟨t1, _⟩ | ⟨t1, _⟩
        · rw [t1, if_neg (show ¬ nI 1 = 0 by decide)]
          exact set_j91 _ _ _
        · rw [t1, if_pos (show nI 0 = 0 from rfl)]; rfl
    · have ht := told_of hT (Or.inl (Nat.lt_of_le_of_lt (Nat.zero_le _) hp))
      have k59 : σ 59 p = σ 183 (24 + p) := (hB.1.2.2.2.1.1.1 p hp).2.2.1
      rcases isIn_c z (a := 0) (b := 99) (by omega) (by omega) with ⟨ez, oz⟩ | ⟨m, h1, h2, rfl, ez⟩
      · refine set_no j78 h ?_ ?_
        · unfold CK_set CK_changeLeak CK_set_p34
          rw [if_pos rfl, e1, bt]
          by_cases o1 : z < nI 0
          · rw [if_pos (show z < 0 from o1)]; rfl
          · rw [if_neg (show ¬ z < 0 from o1), if_pos (show (99 : Int32) < z from oz.resolve_left o1)]; rfl
        · show M_set (refC σ 3) 0 (nI p) z = _
          unfold M_set
          rw [zgt_e, toldR, in02, bt, if_pos rfl, mpl, e2, bt, show M_isIn z 0 99 = some false from ez, bf, ht, if_neg (show ¬ nI 1 = 0 by decide)]
          exact set_j91 _ _ _
      · by_cases h3 : nI m = σ 183 (24 + p)
        · refine set_no j78 h ?_ ?_
          · unfold CK_set CK_changeLeak CK_set_p34
            rw [if_pos rfl, e1, bt, if_neg (show ¬ nI m < 0 from nI_nlt (a := m) (b := 0) (by omega) (by omega)), if_neg (show ¬ (99 : Int32) < nI m from nI_nlt (a := 99) (b := m) (by omega) (by omega)), zrd_e (by omega) (by omega), k59, if_pos h3]
            rfl
          · show M_set (refC σ 3) 0 (nI p) (nI m) = _
            unfold M_set
            rw [zgt_e, toldR, in02, bt, if_pos rfl, mpl, e2, bt, show M_isIn (nI m) 0 99 = some true from ez, bt, ht, if_neg (show ¬ nI 1 = 0 by decide)]
            unfold M_set_j91
            rw [if_pos rfl, show (24 : Int32) = nI 24 from rfl, nI_add]
            exact set_m0 (by omega) (by rw [refC_ne (by omega)]; exact h3.symm)
        · obtain ⟨ρ, m0, hrel⟩ := act_one (e := 24 + p) (a := 59) (i := p) (v := nI m) hC0 hr ht hrem f0 fa (by omega) (by omega) (fun κ hV hKκ => hV.u3 hKκ (by omega)) (fun p' hp' e => by omega) (fun p' hp' e => ⟨m, rfl, h2⟩) (fun e => by omega) (fun e => by omega)
          have das : ∀ a, a ≠ 59 → a ≠ 0 → a ≠ 80 → a < 198 → zup τ 59 p (nI m) a = σ a := fun a x1 x2 x3 x4 => by rw [zup_ne x1, fa a x2 x3 x4]
          refine ⟨true, zup τ 59 p (nI m), zup ρ 183 (24 + p) (nI m), n1, ?_, ?_, hrel, hn1, hle⟩
          · unfold CK_set CK_changeLeak CK_set_p34 CK_changeLeak_p40
            rw [if_pos rfl, e1, bt, if_neg (show ¬ nI m < 0 from nI_nlt (a := m) (b := 0) (by omega) (by omega)), if_neg (show ¬ (99 : Int32) < nI m from nI_nlt (a := 99) (b := m) (by omega) (by omega)), zrd_e (by omega) (by omega), k59, if_neg h3, r0, obs]
            dsimp only
            rw [zwr_e (by omega) (by omega), obs, obs]
            rfl
          · have mp2 : M_isPool (zup τ 59 p (nI m)) (nI p) = some true := by
              unfold M_isPool
              rw [zgt_e, das 171 (by omega) (by omega) (by omega) (by omega), hK.1.1, show M_isIn (nI p) 0 (nI (nP σ) - 1) = some true from isIn_in (by omega) hp]
              rfl
            show M_set (zup τ 59 p (nI m)) 0 (nI p) (nI m) = _
            unfold M_set
            rw [zgt_e, das 171 (by omega) (by omega) (by omega) (by omega), ht, if_neg (show ¬ nI 1 = 0 by decide), in02, bt, if_pos rfl, mp2, bt, show M_isIn (nI m) 0 99 = some true from ez, bt]
            unfold M_set_j91
            rw [if_pos rfl, show (24 : Int32) = nI 24 from rfl, nI_add]
            exact set_m (by omega) (by rw [das 183 (by omega) (by omega) (by omega) (by omega)]; exact fun e => h3 e.symm) m0
  · by_cases x1 : x = 1
    · subst x1
      have in02 : M_isIn 1 0 2 = some true := by decide
      by_cases y0 : y = 0
      · subst y0
        have k56 : σ 56 1 = σ 183 197 := hB.1.2.2.2.1.1.2.2.2.2.2.1
        rcases hT.2 with ⟨t1, _⟩ | ⟨t1, _⟩
        · have t5 : σ 0 5 = nI 1 := hT.1.trans t1
          rcases isIn_c z (a := 0) (b := 999) (by omega) (by omega) with ⟨ez, oz⟩ | ⟨m, h1, h2, rfl, ez⟩
          · refine set_no j78 h ?_ ?_
            · unfold CK_set CK_changeGives CK_set_p46 CK_set_j53
              rw [if_neg (show ¬ (1 : Int32) = 0 by decide), if_pos rfl, if_pos rfl, zgt_e, t5, if_neg (show ¬ nI 1 = 0 by decide)]
              by_cases o1 : z < nI 0
              · rw [if_pos (show z < 0 from o1)]; rfl
              · rw [if_neg (show ¬ z < 0 from o1), if_pos (show (999 : Int32) < z from oz.resolve_left o1)]; rfl
            · show M_set (refC σ 3) 1 0 z = _
              unfold M_set M_set_j67 M_set_j80
              rw [zgt_e, toldR, t1, if_neg (show ¬ nI 1 = 0 by decide), in02, bt, if_neg (show ¬ (1 : Int32) = 0 by decide), if_pos rfl, if_pos rfl, if_pos rfl, show M_isIn z 0 999 = some false from ez, bf]
              exact set_j91 _ _ _
          · by_cases h3 : nI m = σ 183 197
            · refine set_no j78 h ?_ ?_
              · unfold CK_set CK_changeGives CK_set_p46 CK_set_j53
                rw [if_neg (show ¬ (1 : Int32) = 0 by decide), if_pos rfl, if_pos rfl, zgt_e, t5, if_neg (show ¬ nI 1 = 0 by decide), if_neg (show ¬ nI m < 0 from nI_nlt (a := m) (b := 0) (by omega) (by omega)), if_neg (show ¬ (999 : Int32) < nI m from nI_nlt (a := 999) (b := m) (by omega) (by omega)), zgt_e, k56, if_pos h3]
                rfl
              · show M_set (refC σ 3) 1 0 (nI m) = _
                unfold M_set M_set_j67 M_set_j80
                rw [zgt_e, toldR, t1, if_neg (show ¬ nI 1 = 0 by decide), in02, bt, if_neg (show ¬ (1 : Int32) = 0 by decide), if_pos rfl, if_pos rfl, if_pos rfl, show M_isIn (nI m) 0 999 = some true from ez, bt]
                unfold M_set_j91
                rw [if_neg (show ¬ (1 : Int32) = 0 by decide), if_pos rfl]
                exact set_m0 (e := 197) (by omega) (by rw [refC_ne (by omega)]; exact h3.symm)
            · obtain ⟨ρ, m0, hrel⟩ := act_one (e := 197) (a := 56) (i := 1) (v := nI m) hC0 hr t1 hrem f0 fa (by omega) (by omega) (fun κ hV hKκ => hV.u1 hKκ) (fun p' hp' e => by omega) (fun p' hp' e => by omega) (fun e => ⟨m, rfl, h2⟩) (fun e => by omega)
              have das : ∀ a, a ≠ 56 → a ≠ 0 → a ≠ 80 → a < 198 → zup τ 56 1 (nI m) a = σ a := fun a x1 x2 x3 x4 => by rw [zup_ne x1, fa a x2 x3 x4]
              refine ⟨true, zup τ 56 1 (nI m), zup ρ 183 197 (nI m), n1, ?_, ?_, hrel, hn1, hle⟩
              · unfold CK_set CK_changeGives CK_set_p46 CK_set_j53 CK_changeGives_p38
                rw [if_neg (show ¬ (1 : Int32) = 0 by decide), if_pos rfl, if_pos rfl, zgt_e, t5, if_neg (show ¬ nI 1 = 0 by decide), if_neg (show ¬ nI m < 0 from nI_nlt (a := m) (b := 0) (by omega) (by omega)), if_neg (show ¬ (999 : Int32) < nI m from nI_nlt (a := 999) (b := m) (by omega) (by omega)), zgt_e, k56, if_neg h3, r0, obs]
                dsimp only
                rw [zpt_e, obs, obs]
                rfl
              · show M_set (zup τ 56 1 (nI m)) 1 0 (nI m) = _
                unfold M_set M_set_j67 M_set_j80
                rw [zgt_e, das 171 (by omega) (by omega) (by omega) (by omega), t1, if_neg (show ¬ nI 1 = 0 by decide), in02, bt, if_neg (show ¬ (1 : Int32) = 0 by decide), if_pos rfl, if_pos rfl, if_pos rfl, show M_isIn (nI m) 0 999 = some true from ez, bt]
                unfold M_set_j91
                rw [if_neg (show ¬ (1 : Int32) = 0 by decide), if_pos rfl]
                exact set_m (e := 197) (by omega) (by rw [das 183 (by omega) (by omega) (by omega) (by omega)]; exact fun e => h3 e.symm) m0
        · have t5 : σ 0 5 = nI 0 := hT.1.trans t1
          refine set_no j78 h ?_ ?_
          · unfold CK_set CK_changeGives CK_set_p46 CK_set_j53
            rw [if_neg (show ¬ (1 : Int32) = 0 by decide), if_pos rfl, if_pos rfl, zgt_e, t5, if_pos (show nI 0 = 0 from rfl)]
            rfl
          · show M_set (refC σ 3) 1 0 z = _
            unfold M_set
            rw [zgt_e, toldR, t1, if_pos (show nI 0 = 0 from rfl)]; rfl
      · refine set_no j78 h ?_ ?_
        · unfold CK_set CK_set_p53
          rw [if_neg (show ¬ (1 : Int32) = 0 by decide), if_pos rfl, if_neg y0]
        · show M_set (refC σ 3) 1 y z = _
          unfold M_set M_set_j90
          rw [zgt_e, in02, bt, if_neg (show ¬ (1 : Int32) = 0 by decide), if_neg y0, set_j91]
          split <;> rfl
    · by_cases x2 : x = 2
      · subst x2
        have in02 : M_isIn 2 0 2 = some true := by decide
        by_cases y0 : y = 0
        · subst y0
          have k56 : σ 56 2 = σ 183 198 := hB.1.2.2.2.1.1.2.2.2.2.2.2
          rcases hT.2 with ⟨t1, _⟩ | ⟨t1, _⟩
          · have t5 : σ 0 5 = nI 1 := hT.1.trans t1
            rcases isIn_c z (a := 1) (b := 99) (by omega) (by omega) with ⟨ez, oz⟩ | ⟨m, h1, h2, rfl, ez⟩
            · refine set_no j78 h ?_ ?_
              · unfold CK_set CK_changeGain CK_set_p66 CK_set_j73
                rw [if_neg (show ¬ (2 : Int32) = 0 by decide), if_neg (show ¬ (2 : Int32) = 1 by decide), if_pos rfl, if_pos rfl, zgt_e, t5, if_neg (show ¬ nI 1 = 0 by decide)]
                by_cases o1 : z < nI 1
                · rw [if_pos (show z < 1 from o1)]; rfl
                · rw [if_neg (show ¬ z < 1 from o1), if_pos (show (99 : Int32) < z from oz.resolve_left o1)]; rfl
              · show M_set (refC σ 3) 2 0 z = _
                unfold M_set M_set_j67 M_set_j80
                rw [zgt_e, toldR, t1, if_neg (show ¬ nI 1 = 0 by decide), in02, bt, if_neg (show ¬ (2 : Int32) = 0 by decide), if_pos rfl, if_neg (show ¬ (2 : Int32) = 1 by decide), if_neg (show ¬ (2 : Int32) = 1 by decide), show M_isIn z 1 99 = some false from ez, bf]
                exact set_j91 _ _ _
            · by_cases h3 : nI m = σ 183 198
              · refine set_no j78 h ?_ ?_
                · unfold CK_set CK_changeGain CK_set_p66 CK_set_j73
                  rw [if_neg (show ¬ (2 : Int32) = 0 by decide), if_neg (show ¬ (2 : Int32) = 1 by decide), if_pos rfl, if_pos rfl, zgt_e, t5, if_neg (show ¬ nI 1 = 0 by decide), if_neg (show ¬ nI m < 1 from nI_nlt (a := m) (b := 1) (by omega) (by omega)), if_neg (show ¬ (99 : Int32) < nI m from nI_nlt (a := 99) (b := m) (by omega) (by omega)), zgt_e, k56, if_pos h3]
                  rfl
                · show M_set (refC σ 3) 2 0 (nI m) = _
                  unfold M_set M_set_j67 M_set_j80
                  rw [zgt_e, toldR, t1, if_neg (show ¬ nI 1 = 0 by decide), in02, bt, if_neg (show ¬ (2 : Int32) = 0 by decide), if_pos rfl, if_neg (show ¬ (2 : Int32) = 1 by decide), if_neg (show ¬ (2 : Int32) = 1 by decide), show M_isIn (nI m) 1 99 = some true from ez, bt]
                  unfold M_set_j91
                  rw [if_neg (show ¬ (2 : Int32) = 0 by decide), if_neg (show ¬ (2 : Int32) = 1 by decide)]
                  exact set_m0 (e := 198) (by omega) (by rw [refC_ne (by omega)]; exact h3.symm)
              · obtain ⟨ρ, m0, hrel⟩ := act_one (e := 198) (a := 56) (i := 2) (v := nI m) hC0 hr t1 hrem f0 fa (by omega) (by omega) (fun κ hV hKκ => hV.u2 hKκ) (fun p' hp' e => by omega) (fun p' hp' e => by omega) (fun e => by omega) (fun e => ⟨m, rfl, h1, h2⟩)
                have das : ∀ a, a ≠ 56 → a ≠ 0 → a ≠ 80 → a < 198 → zup τ 56 2 (nI m) a = σ a := fun a x1 x2 x3 x4 => by rw [zup_ne x1, fa a x2 x3 x4]
                refine ⟨true, zup τ 56 2 (nI m), zup ρ 183 198 (nI m), n1, ?_, ?_, hrel, hn1, hle⟩
                · unfold CK_set CK_changeGain CK_set_p66 CK_set_j73 CK_changeGain_p38
                  rw [if_neg (show ¬ (2 : Int32) = 0 by decide), if_neg (show ¬ (2 : Int32) = 1 by decide), if_pos rfl, if_pos rfl, zgt_e, t5, if_neg (show ¬ nI 1 = 0 by decide), if_neg (show ¬ nI m < 1 from nI_nlt (a := m) (b := 1) (by omega) (by omega)), if_neg (show ¬ (99 : Int32) < nI m from nI_nlt (a := 99) (b := m) (by omega) (by omega)), zgt_e, k56, if_neg h3, r0, obs]
                  dsimp only
                  rw [zpt_e, obs, obs]
                  rfl
                · show M_set (zup τ 56 2 (nI m)) 2 0 (nI m) = _
                  unfold M_set M_set_j67 M_set_j80
                  rw [zgt_e, das 171 (by omega) (by omega) (by omega) (by omega), t1, if_neg (show ¬ nI 1 = 0 by decide), in02, bt, if_neg (show ¬ (2 : Int32) = 0 by decide), if_pos rfl, if_neg (show ¬ (2 : Int32) = 1 by decide), if_neg (show ¬ (2 : Int32) = 1 by decide), show M_isIn (nI m) 1 99 = some true from ez, bt]
                  unfold M_set_j91
                  rw [if_neg (show ¬ (2 : Int32) = 0 by decide), if_neg (show ¬ (2 : Int32) = 1 by decide)]
                  exact set_m (e := 198) (by omega) (by rw [das 183 (by omega) (by omega) (by omega) (by omega)]; exact fun e => h3 e.symm) m0
          · have t5 : σ 0 5 = nI 0 := hT.1.trans t1
            refine set_no j78 h ?_ ?_
            · unfold CK_set CK_changeGain CK_set_p66 CK_set_j73
              rw [if_neg (show ¬ (2 : Int32) = 0 by decide), if_neg (show ¬ (2 : Int32) = 1 by decide), if_pos rfl, if_pos rfl, zgt_e, t5, if_pos (show nI 0 = 0 from rfl)]
              rfl
            · show M_set (refC σ 3) 2 0 z = _
              unfold M_set
              rw [zgt_e, toldR, t1, if_pos (show nI 0 = 0 from rfl)]; rfl
        · refine set_no j78 h ?_ ?_
          · unfold CK_set CK_set_p73
            rw [if_neg (show ¬ (2 : Int32) = 0 by decide), if_neg (show ¬ (2 : Int32) = 1 by decide), if_pos rfl, if_neg y0]
          · show M_set (refC σ 3) 2 y z = _
            unfold M_set M_set_j90
            rw [zgt_e, in02, bt, if_neg (show ¬ (2 : Int32) = 0 by decide), if_neg y0, set_j91]
            split <;> rfl
      · refine set_no j78 h ?_ ?_
        · unfold CK_set CK_set_p78
          rw [if_neg x0, if_neg x1, if_neg x2]
          unfold CK_set_j78
          rfl
        · have e : M_isIn x 0 2 = some false := by
            rcases isIn_c x (a := 0) (b := 2) (by omega) (by omega) with ⟨e, _⟩ | ⟨j, _, hj, rfl, _⟩
            · exact e
            · exfalso
              rcases j with _ | _ | _ | j
              · exact x0 rfl
              · exact x1 rfl
              · exact x2 rfl
              · omega
          show M_set (refC σ 3) x y z = _
          unfold M_set
          rw [zgt_e, e, bf]
          split <;> rfl
