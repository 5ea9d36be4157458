theorem rem28 {σ : Sg} {n t c : Nat} (h80 : σ 80 t = nI (198 + 25 * t + 1)) (ht : t < 20) (hn : 198 + 25 * t + 25 ≤ n) (h10 : σ 0 10 = nI t) (h11 : σ 0 11 = nI c) (hc : c ≤ 20) :
    ∃ τ, CK_remember_p28 n σ = some τ ∧ (τ 0 10 = nI ((t + 1) % 20) ∧ τ 0 11 = nI (min (c + 1) 20)) ∧ (∀ k, k ≠ 10 → k ≠ 11 → τ 0 k = σ 0 k) ∧ (∀ a, a ≠ 0 → a < 198 + 25 * t ∨ 198 + 25 * t + 24 < a → τ a = σ a) ∧ ∀ μ, InvK μ → Mom σ 55 μ → Mom τ (198 + 25 * t) μ := by
  obtain ⟨σ1, a1, a2, a3⟩ := Moment_copy_ok (σ := σ) (w := 55) (v := 198 + 25 * t) (by omega)
  have e10 : σ1 0 10 = nI t := by rw [a2 0 (by omega), h10]
  have e11 : σ1 0 11 = nI c := by rw [a2 0 (by omega), h11]
  have hmin : (if nI 20 < nI (c + 1) then nI 20 else nI (c + 1)) = nI (min (c + 1) 20) := by
    by_cases q : c = 20
    · subst q; rw [if_pos (nI_lt (by omega) (by omega))]; rfl
    · rw [if_neg (nI_nlt (by omega) (by omega)), Nat.min_eq_left (by omega)]
  refine ⟨zup (zup σ1 0 10 (nI ((t + 1) % 20))) 0 11 (nI (min (c + 1) 20)), ?_, ⟨?_, ?_⟩, ?_, ?_, ?_⟩
  · unfold CK_remember_p28
    rw [zgt_e, h10, zrd_e (by omega) (by omega), h80, zmm_e hn ht, a1, obs, zgt_e, e10, zpt_e, zgt_e, zup_miss (by omega), e11, zpt_e, show (1 : Int32) = nI 1 from rfl, nI_add, nI_add, show (20 : Int32) = nI 20 from rfl, irem_f, irem_e (by omega) (by omega) (by omega), hmin]
  · rw [zup_miss (by omega), zup_hit]
  · rw [zup_hit]
  · intro k h1 h2
    rw [zup_miss h2, zup_miss h1, a2 0 (by omega)]
  · intro a h1 h2
    rw [zup_ne h1, zup_ne h1, a2 a (by omega)]
  · intro μ hK hM
    have f0 : Fr 0 0 σ1 (zup (zup σ1 0 10 (nI ((t + 1) % 20))) 0 11 (nI (min (c + 1) 20))) := ((Fr.refl σ1).up (by omega) (by omega)).up (by omega) (by omega)
    exact (a3 μ hK hM).fr f0 (by omega)
theorem c_remember {σ : Sg} {n K t c : Nat} (hR : Ring σ n K t c) :
    ∃ τ n1 K1, CK_remember n σ = some (τ, n1) ∧ (n1 = 198 + 25 * K1 ∧ K1 ≤ 20 ∧ t < K1 ∧ (K1 < 20 → c ≤ t)) ∧ (τ 0 10 = nI ((t + 1) % 20) ∧ τ 0 11 = nI (min (c + 1) 20)) ∧ (∀ j, j < K1 → τ 80 j = nI (198 + 25 * j + 1)) ∧ (∀ j, K1 ≤ j → j < 20 → τ 80 j = nI 0) ∧
      (∀ k, k ≠ 10 → k ≠ 11 → τ 0 k = σ 0 k) ∧ (∀ a, a ≠ 0 → a ≠ 80 → a < 198 → τ a = σ a) ∧ (∀ j μ, j ≠ t → Mom σ (198 + 25 * j) μ → Mom τ (198 + 25 * j) μ) ∧ ∀ μ, InvK μ → Mom σ 55 μ → Mom τ (198 + 25 * t) μ := by
  obtain ⟨hn, hK, ht, htK, hc, hct, ⟨h10, h11, _⟩, h80, h80', _⟩ := hR
  rcases Nat.lt_or_ge t K with q | q
  · obtain ⟨τ, a1, a2, a3, a4, a5⟩ := rem28 (n := n) (h80 t q) ht (by omega) h10 h11 hc
    refine ⟨τ, n, K, ?_, ⟨hn, hK, q, hct⟩, a2, ?_, ?_, a3, ?_, ?_, a5⟩
    · unfold CK_remember
      rw [zgt_e, h10, zrd_e (by omega) (by omega), h80 t q, if_neg (nI_ne0 (by omega) (by omega)), a1, obs]
    · intro j hj
      rw [a4 80 (by omega) (by omega)]; exact h80 j hj
    · intro j h1 h2
      rw [a4 80 (by omega) (by omega)]; exact h80' j h1 h2
    · intro a h1 h2 h3
      exact a4 a h1 (by omega)
    · intro j μ hj hM
      have f1 : Fr (198 + 25 * t) (198 + 25 * t + 24) (zrow σ 0 (τ 0)) τ := by
        intro a ha
        by_cases c0 : a = 0
        · subst c0; rw [zrow_hit]
        · rw [zrow_ne c0]; exact a4 a c0 ha
      have f0 : Fr 0 0 σ (zrow σ 0 (τ 0)) := (Fr.refl σ).row (by omega) (by omega)
      exact (hM.fr f0 (by omega)).fr f1 (by omega)
  · have htK' : t = K := by omega
    subst htK'
    let σ0 := zup (zzn σ n) 80 t (nI (n + 1))
    have r0 : ∀ a, a ≠ 80 → a < n ∨ n + 25 ≤ a → σ0 a = σ a := by
      intro a h1 h2
      show zup (zzn σ n) 80 t (nI (n + 1)) a = σ a
      rw [zup_ne h1]
      unfold zzn
      rw [if_neg (by omega)]
    have z80 : ∀ j, j ≠ t → σ0 80 j = σ 80 j := by
      intro j h1
      show zup (zzn σ n) 80 t (nI (n + 1)) 80 j = σ 80 j
      rw [zup_miss h1]
      unfold zzn
      rw [if_neg (by omega)]
    have z80t : σ0 80 t = nI (198 + 25 * t + 1) := by
      show zup (zzn σ n) 80 t (nI (n + 1)) 80 t = _
      rw [zup_hit, hn]
    obtain ⟨τ, a1, a2, a3, a4, a5⟩ := rem28 (σ := σ0) (n := n + 25) z80t ht (by omega) (by rw [r0 0 (by omega) (by omega)]; exact h10) (by rw [r0 0 (by omega) (by omega)]; exact h11) hc
    have f0 : Fr 0 0 σ (zrow σ 0 (τ 0)) := (Fr.refl σ).row (by omega) (by omega)
    have f2 : Fr 80 80 (zrow σ 0 (τ 0)) (zrow (zrow σ 0 (τ 0)) 80 (τ 80)) := (Fr.refl _).row (by omega) (by omega)
    have f1 : Fr (198 + 25 * t) (198 + 25 * t + 24) (zrow (zrow σ 0 (τ 0)) 80 (τ 80)) τ := by
      intro a ha
      by_cases c8 : a = 80
      · subst c8; rw [zrow_hit]
      · rw [zrow_ne c8]
        by_cases c0 : a = 0
        · subst c0; rw [zrow_hit]
        · rw [zrow_ne c0, a4 a c0 ha]; exact r0 a c8 (by omega)
    have fm : Fr 80 (n + 24) σ σ0 := fun a ha => r0 a (by omega) (by omega)
    refine ⟨τ, n + 25, t + 1, ?_, ⟨by omega, by omega, by omega, fun _ => hct (by omega)⟩, a2, ?_, ?_, ?_, ?_, ?_, ?_⟩
    · unfold CK_remember
      rw [zgt_e, h10, zrd_e (by omega) (by omega), h80' t (by omega) ht, if_pos (show nI 0 = 0 from rfl), zgt_e, h10, if_pos ⟨by rw [hn, Nat.add_sub_cancel_left]; exact Nat.mul_mod_right 25 t, by omega⟩, zwr_e (by omega) (by omega)]
      show (CK_remember_p28 (n + 25) σ0).bind _ = _
      rw [a1, obs]
    · intro j hj
      rw [a4 80 (by omega) (by omega)]
      by_cases e : j = t
      · subst e; exact z80t
      · rw [z80 j e]; exact h80 j (by omega)
    · intro j h1 h2
      rw [a4 80 (by omega) (by omega), z80 j (by omega)]
      exact h80' j (by omega) h2
    · intro k h1 h2
      rw [a3 k h1 h2, r0 0 (by omega) (by omega)]
    · intro a h1 h2 h3
      rw [a4 a h1 (by omega), r0 a h2 (by omega)]
    · intro j μ hj hM
      exact ((hM.fr f0 (by omega)).fr f2 (by omega)).fr f1 (by omega)
    · intro μ hKμ hM
      exact a5 μ hKμ (hM.fr fm (by omega))
theorem M_rem50 {σ : Sg} {c : Nat} (h : σ 171 23 = nI c) (hc : c ≤ 19) : ∃ σ', M_remembers_j50 σ = some σ' ∧ (∀ a, a ≠ 171 → a ≠ 185 → σ' a = σ a) ∧ (∀ k, k ≠ 23 → σ' 171 k = σ 171 k) ∧ σ' 171 23 = nI (c + 1) ∧ (∀ k, k < 1607 * c → σ' 185 k = σ 185 k) ∧ ∀ k, k < 1607 → σ' 185 (1607 * c + k) = σ 183 k := by
  have hl := zit_cnt (b := fun (s : (Sg × Int32)) => M_remembers_l52 s.1 s.2) (fun j τ => (∀ a, a ≠ 185 → τ a = σ a) ∧ (∀ k, k < 1607 * c → τ 185 k = σ 185 k) ∧ ∀ k, k < j → τ 185 (1607 * c + k) = σ 183 k) nI 1607 (σ := σ) (by omega)
    ⟨fun _ _ => rfl, fun _ _ => rfl, fun k hk => absurd hk (by omega)⟩ (by
    rintro j τ hj ⟨i1, i2, i3⟩
    have e1 : τ 171 23 = nI c := by rw [i1 171 (by omega), h]
    refine ⟨zup τ 185 (1607 * c + j) (σ 183 j), ?_, ?_, ?_, ?_⟩
    · show M_remembers_l52 τ (nI j) = _
      unfold M_remembers_l52
      simp (disch := omega) only [zgt_e, zpt_e, zlt_e, zrd_e, zwr_e, zelr_e, znz_e, zcp_e, zlit, nI_add, nI_mul, nI_sub, nI_div, ↓irem_f, irem_e, Nat.zero_add, Nat.add_zero, obs, zb_t, zb_f, nI_eqt, nI_eqf, nI_let, nI_lef, nI_ltt, nI_ltf, nI_m1, nI_n1, ↓reduceIte, zup_ne, zup_miss, zup_hit, zbo_1, zbo_0, reduceCtorEq, sel_l, sel_r, Nat.reduceAdd, Nat.reduceSub, Nat.reduceMul, e1, i1 183 (by omega)]
    · intro a ha; rw [zup_ne ha]; exact i1 a ha
    · intro k hk; rw [zup_miss (by omega)]; exact i2 k hk
    · intro k hk
      by_cases e : k = j
      · subst e; rw [zup_hit]
      · rw [zup_miss (by omega)]; exact i3 k (by omega)) (by
    intro τ _
    show M_remembers_l52 τ (nI 1607) = _
    unfold M_remembers_l52
    simp (disch := omega) only [zgt_e, zpt_e, zlt_e, zrd_e, zwr_e, zelr_e, znz_e, zcp_e, zlit, nI_add, nI_mul, nI_sub, nI_div, ↓irem_f, irem_e, Nat.zero_add, Nat.add_zero, obs, zb_t, zb_f, nI_eqt, nI_eqf, nI_let, nI_lef, nI_ltt, nI_ltf, nI_m1, nI_n1, ↓reduceIte, zup_ne, zup_miss, zup_hit, zbo_1, zbo_0, reduceCtorEq, sel_l, sel_r, Nat.reduceAdd, Nat.reduceSub, Nat.reduceMul])
  obtain ⟨τ, e, i1, i2, i3⟩ := hl
  have e1 : τ 171 23 = nI c := by rw [i1 171 (by omega), h]
  refine ⟨zup τ 171 23 (nI (c + 1)), ?_, ?_, ?_, zup_hit, ?_, ?_⟩
  · unfold M_remembers_j50
    rw [zlt_e, show (0 : Int32) = nI 0 from rfl, e, obs]
    show zpt τ 171 23 (τ 171 23 + 1) _ = _
    rw [e1, zpt_e, show (1 : Int32) = nI 1 from rfl, nI_add]
  · intro a h1 h2; rw [zup_ne h1]; exact i1 a h2
  · intro k hk; rw [zup_miss hk, i1 171 (by omega)]
  · intro k hk; rw [zup_ne (by omega)]; exact i2 k hk
  · intro k hk; rw [zup_ne (by omega)]; exact i3 k hk
theorem m_remembers {σ : Sg} {c : Nat} (h : σ 171 23 = nI c) (hc : c ≤ 20) : ∃ σ', M_remembers σ = some σ' ∧ (∀ a, a ≠ 171 → a ≠ 185 → σ' a = σ a) ∧ (∀ k, k ≠ 23 → σ' 171 k = σ 171 k) ∧ σ' 171 23 = nI (min (c + 1) 20) ∧ (∀ i k, i + 1 < min (c + 1) 20 → k < 1607 → σ' 185 (1607 * i + k) = σ 185 (1607 * (i + (c + 1 - min (c + 1) 20)) + k)) ∧ ∀ k, k < 1607 → σ' 185 (1607 * (min (c + 1) 20 - 1) + k) = σ 183 k := by
  by_cases q : c = 20
  · subst q
    have hl := zit_cnt (b := fun (s : (Sg × Int32)) => M_remembers_l11 s.1 s.2) (fun j τ => (∀ a, a ≠ 185 → τ a = σ a) ∧ (∀ k, k < j → τ 185 k = σ 185 (k + 1607)) ∧ ∀ k, j ≤ k → τ 185 k = σ 185 k) nI 30533 (σ := σ) (by omega)
      ⟨fun _ _ => rfl, fun k hk => absurd hk (by omega), fun _ _ => rfl⟩ (by
      rintro j τ hj ⟨i1, i2, i3⟩
      refine ⟨zup τ 185 j (σ 185 (j + 1607)), ?_, ?_, ?_, ?_⟩
      · show M_remembers_l11 τ (nI j) = _
        unfold M_remembers_l11
        simp (disch := omega) only [zgt_e, zpt_e, zlt_e, zrd_e, zwr_e, zelr_e, znz_e, zcp_e, zlit, nI_add, nI_mul, nI_sub, nI_div, ↓irem_f, irem_e, Nat.zero_add, Nat.add_zero, obs, zb_t, zb_f, nI_eqt, nI_eqf, nI_let, nI_lef, nI_ltt, nI_ltf, nI_m1, nI_n1, ↓reduceIte, zup_ne, zup_miss, zup_hit, zbo_1, zbo_0, reduceCtorEq, sel_l, sel_r, Nat.reduceAdd, Nat.reduceSub, Nat.reduceMul, i3 (j + 1607) (by omega)]
      · intro a ha; rw [zup_ne ha]; exact i1 a ha
      · intro k hk
        by_cases e : k = j
        · subst e; rw [zup_hit]
        · rw [zup_miss e]; exact i2 k (by omega)
      · intro k hk; rw [zup_miss (by omega)]; exact i3 k (by omega)) (by
      intro τ _
      show M_remembers_l11 τ (nI 30533) = _
      unfold M_remembers_l11
      simp (disch := omega) only [zgt_e, zpt_e, zlt_e, zrd_e, zwr_e, zelr_e, znz_e, zcp_e, zlit, nI_add, nI_mul, nI_sub, nI_div, ↓irem_f, irem_e, Nat.zero_add, Nat.add_zero, obs, zb_t, zb_f, nI_eqt, nI_eqf, nI_let, nI_lef, nI_ltt, nI_ltf, nI_m1, nI_n1, ↓reduceIte, zup_ne, zup_miss, zup_hit, zbo_1, zbo_0, reduceCtorEq, sel_l, sel_r, Nat.reduceAdd, Nat.reduceSub, Nat.reduceMul])
    obtain ⟨τ, e, i1, i2, i3⟩ := hl
    have e1 : τ 171 23 = nI 20 := by rw [i1 171 (by omega), h]
    obtain ⟨σ', b1, b2, b3, b4, b5, b6⟩ := M_rem50 (σ := zup τ 171 23 (nI 19)) (c := 19) zup_hit (by omega)
    simp only [Nat.reduceAdd, show min 21 20 = 20 from rfl, Nat.reduceSub]
    refine ⟨σ', ?_, ?_, ?_, b4, ?_, ?_⟩
    · unfold M_remembers M_remembers_j40
      rw [zgt_e, h, if_pos (show nI 20 = 20 from rfl), zlt_e, show (0 : Int32) = nI 0 from rfl, e, obs]
      show zpt τ 171 23 (τ 171 23 - 1) _ = _
      rw [e1, zpt_e, show (1 : Int32) = nI 1 from rfl, nI_sub (by omega)]
      exact b1
    · intro a h1 h2; rw [b2 a h1 h2, zup_ne h1]; exact i1 a h2
    · intro k hk; rw [b3 k hk, zup_miss hk, i1 171 (by omega)]
    · intro i k hi hk
      have hi' : i < 19 := by omega
      have e9 : 1607 * (i + 1) + k = 1607 * i + k + 1607 := by omega
      rw [b5 _ (by omega), zup_ne (by omega), i2 _ (by omega), e9]
    · intro k hk
      have := b6 k hk
      rw [zup_ne (by omega), i1 183 (by omega)] at this
      exact this
  · obtain ⟨σ', b1, b2, b3, b4, b5, b6⟩ := M_rem50 h (by omega)
    have hm : min (c + 1) 20 = c + 1 := Nat.min_eq_left (by omega)
    rw [hm]
    refine ⟨σ', ?_, b2, b3, b4, ?_, b6⟩
    · unfold M_remembers
      rw [zgt_e, h, if_neg (by rw [show (20 : Int32) = nI 20 from rfl, nI_eqf q (by omega) (by omega)]; exact id)]
      exact b1
    · intro i k hi hk
      rw [b5 _ (by omega), Nat.sub_self, Nat.add_zero]
