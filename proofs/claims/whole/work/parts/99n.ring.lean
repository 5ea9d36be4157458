theorem snp_eq {σ υ : Sg} {i i' : Nat} (h1 : υ 171 0 = σ 171 0 ∧ υ 171 1 = σ 171 1 ∧ υ 171 2 = σ 171 2) (h2 : υ 172 = σ 172 ∧ υ 173 = σ 173 ∧ υ 174 = σ 174) (h : ∀ k, k < 1607 → υ 185 (1607 * i + k) = σ 185 (1607 * i' + k)) : MEq (snp σ i') (snp υ i) := by
  unfold snp
  refine ⟨?_, ?_, ?_⟩
  · rw [zrow_ne (by omega), zrow_ne (by omega)]; exact h1
  · rw [zrow_ne (by omega), zrow_ne (by omega), zrow_ne (by omega), zrow_ne (by omega), zrow_ne (by omega), zrow_ne (by omega)]; exact h2
  · rw [zrow_hit, zrow_hit]
    funext k
    by_cases c : k < 1607
    · rw [if_pos c, if_pos c]; exact h k c
    · rw [if_neg c, if_neg c]
theorem snp_cur {σ υ : Sg} {i : Nat} (hz : Zhi σ) (h1 : υ 171 0 = σ 171 0 ∧ υ 171 1 = σ 171 1 ∧ υ 171 2 = σ 171 2) (h2 : υ 172 = σ 172 ∧ υ 173 = σ 173 ∧ υ 174 = σ 174) (h : ∀ k, k < 1607 → υ 185 (1607 * i + k) = σ 183 k) : MEq σ (snp υ i) := by
  unfold snp
  refine ⟨?_, ?_, ?_⟩
  · rw [zrow_ne (by omega)]; exact h1
  · rw [zrow_ne (by omega), zrow_ne (by omega), zrow_ne (by omega)]; exact h2
  · rw [zrow_hit]
    funext k
    by_cases c : k < 1607
    · rw [if_pos c]; exact h k c
    · rw [if_neg c, hz k (by omega)]
theorem MEq.e_Gain {μ μ' : Sg} (h : MEq μ μ') (hg : Gain μ) : Gain μ' := by
  unfold Gain at hg ⊢
  rw [h.2.2]; exact hg
/-- the class's part of what is remembered, as c_remember leaves it -/
def RemC (σ τ : Sg) (n1 K1 t c : Nat) : Prop := (n1 = 198 + 25 * K1 ∧ K1 ≤ 20 ∧ t < K1 ∧ (K1 < 20 → c ≤ t)) ∧ (τ 0 10 = nI ((t + 1) % 20) ∧ τ 0 11 = nI (min (c + 1) 20)) ∧ (∀ j, j < K1 → τ 80 j = nI (198 + 25 * j + 1)) ∧ (∀ j, K1 ≤ j → j < 20 → τ 80 j = nI 0) ∧
  (∀ j μ, j ≠ t → Mom σ (198 + 25 * j) μ → Mom τ (198 + 25 * j) μ) ∧ ∀ μ, InvK μ → Mom σ 55 μ → Mom τ (198 + 25 * t) μ
theorem ring_next {σ τ υ : Sg} {n K t c n1 K1 : Nat} (hR : Ring σ n K t c) (hz : Zhi σ) (hK : InvK σ) (hM : Mom σ 55 σ) (hg : Gain σ) (hC : RemC σ τ n1 K1 t c)
    (u0 : υ 0 10 = τ 0 10 ∧ υ 0 11 = τ 0 11) (u80 : υ 80 = τ 80) (um : ∀ a, 198 ≤ a → υ a = τ a)
    (h1 : υ 171 0 = σ 171 0 ∧ υ 171 1 = σ 171 1 ∧ υ 171 2 = σ 171 2) (h2 : υ 172 = σ 172 ∧ υ 173 = σ 173 ∧ υ 174 = σ 174) (u23 : υ 171 23 = nI (min (c + 1) 20))
    (ua : ∀ i k, i + 1 < min (c + 1) 20 → k < 1607 → υ 185 (1607 * i + k) = σ 185 (1607 * (i + (c + 1 - min (c + 1) 20)) + k)) (ub : ∀ k, k < 1607 → υ 185 (1607 * (min (c + 1) 20 - 1) + k) = σ 183 k) :
    Ring υ n1 K1 ((t + 1) % 20) (min (c + 1) 20) := by
  obtain ⟨hn, hK20, ht, htK, hc, hct, _, _, _, hm⟩ := hR
  obtain ⟨⟨e1, e2, e3, e4⟩, e5, e6, e7, e8, e9⟩ := hC
  have f0 : Fr 0 197 τ υ := fun a ha => um a (by omega)
  refine ⟨e1, e2, Nat.mod_lt _ (by omega), ?_, Nat.min_le_right _ _, ?_, ⟨by rw [u0.1]; exact e5.1, by rw [u0.2]; exact e5.2, u23⟩, by rw [u80]; exact e6, by rw [u80]; exact e7, ?_⟩
  · omega
  · intro q; have := e4 q; omega
  · intro i hi
    by_cases ci : i + 1 = min (c + 1) 20
    · have ei : i = min (c + 1) 20 - 1 := by omega
      have me : MEq σ (snp υ i) := snp_cur hz h1 h2 (by rw [ei]; exact ub)
      have ex : ((t + 1) % 20 + 20 - min (c + 1) 20 + i) % 20 = t := by omega
      rw [ex]
      exact ⟨me.e_Mom ((e9 σ hK hM).fr f0 (by omega)), me.e_Gain hg⟩
    · have hi' : i + (c + 1 - min (c + 1) 20) < c := by omega
      obtain ⟨m1, m2⟩ := hm _ hi'
      have me : MEq (snp σ (i + (c + 1 - min (c + 1) 20))) (snp υ i) := snp_eq h1 h2 (fun k hk => ua i k (by omega) hk)
      have ex : ((t + 1) % 20 + 20 - min (c + 1) 20 + i) % 20 = (t + 20 - c + (i + (c + 1 - min (c + 1) 20))) % 20 := by omega
      rw [ex]
      exact ⟨me.e_Mom ((e8 _ _ (by omega) m1).fr f0 (by omega)), me.e_Gain m2⟩
/-- the ring sees only some rows -/
theorem Ring.keep {σ υ : Sg} {n K t c : Nat} (hR : Ring σ n K t c) (u0 : υ 0 10 = σ 0 10 ∧ υ 0 11 = σ 0 11) (u80 : υ 80 = σ 80) (um : ∀ a, 198 ≤ a → υ a = σ a)
    (h1 : υ 171 0 = σ 171 0 ∧ υ 171 1 = σ 171 1 ∧ υ 171 2 = σ 171 2) (h2 : υ 172 = σ 172 ∧ υ 173 = σ 173 ∧ υ 174 = σ 174) (u23 : υ 171 23 = σ 171 23) (u185 : υ 185 = σ 185) : Ring υ n K t c := by
  obtain ⟨hn, hK20, ht, htK, hc, hct, g0, g1, g2, hm⟩ := hR
  have f0 : Fr 0 197 σ υ := fun a ha => um a (by omega)
  refine ⟨hn, hK20, ht, htK, hc, hct, ⟨by rw [u0.1]; exact g0.1, by rw [u0.2]; exact g0.2.1, by rw [u23]; exact g0.2.2⟩, by rw [u80]; exact g1, by rw [u80]; exact g2, fun i hi => ?_⟩
  have me : MEq (snp σ i) (snp υ i) := snp_eq h1 h2 (fun k _ => by rw [u185])
  exact ⟨me.e_Mom ((hm i hi).1.fr f0 (by omega)), me.e_Gain (hm i hi).2⟩
/-- taking back, the class -/
theorem c_undo {σ : Sg} {n K t c : Nat} (hR : Ring σ n K t c) (h0 : 0 < c) :
    ∃ τ, CK_undo n σ = some ((true, τ), n) ∧ (τ 0 10 = nI ((t + 19) % 20) ∧ τ 0 11 = nI (c - 1)) ∧ (∀ k, k ≠ 10 → k ≠ 11 → τ 0 k = σ 0 k) ∧ (∀ a, a ≠ 0 → a < 56 ∨ 79 < a → τ a = σ a) ∧ (∀ μ, InvK μ → Mom σ (198 + 25 * ((t + 19) % 20)) μ → Mom τ 55 μ) := by
  obtain ⟨hn, hK20, ht, htK, hc, hct, ⟨g0, g1, g3⟩, g4, g5, hm⟩ := hR
  have hx : (t + 19) % 20 < K := by
    rcases Nat.lt_or_ge K 20 with q | q
    · have := hct q; omega
    · omega
  have hx2 : (t + 19) % 20 < 20 := by omega
  obtain ⟨σ1, a1, a2, a3⟩ := Moment_copy_ok (σ := σ) (w := 198 + 25 * ((t + 19) % 20)) (v := 55) (by omega)
  have e10 : σ1 0 11 = nI c := by rw [a2 0 (by omega), g1]
  refine ⟨zup (zup σ1 0 10 (nI ((t + 19) % 20))) 0 11 (nI (c - 1)), ?_, ⟨?_, zup_hit⟩, ?_, ?_, ?_⟩
  · have hv : (nI t + 20 - 1) - (nI t + 20 - 1) / 20 * 20 = nI ((t + 19) % 20) := by
      rw [show (20 : Int32) = nI 20 from rfl, show (1 : Int32) = nI 1 from rfl, nI_add, nI_sub (by omega), irem_f, irem_e (by omega) (by omega) (by omega)]
      rfl
    unfold CK_undo
    rw [zgt_e, g0, hv, zlt_e, zgt_e, g1, if_neg (nI_ne0 h0 (by omega)), zrd_e hx2 (by omega), g4 _ hx, if_neg (nI_ne0 (by omega) (by omega)), zrd_e hx2 (by omega), g4 _ hx, zmm_e (by omega) hx2, a1, obs, zpt_e, zgt_e, zup_miss (by omega), e10, zpt_e, show (1 : Int32) = nI 1 from rfl, nI_sub (by omega)]
  · rw [zup_miss (by omega), zup_hit]
  · intro k h1 h2
    rw [zup_miss h2, zup_miss h1, a2 0 (by omega)]
  · intro a h1 h2
    rw [zup_ne h1, zup_ne h1, a2 a (by omega)]
  · intro μ hKμ hMμ
    have f0 : Fr 0 0 σ1 (zup (zup σ1 0 10 (nI ((t + 19) % 20))) 0 11 (nI (c - 1))) := ((Fr.refl σ1).up (by omega) (by omega)).up (by omega) (by omega)
    exact (a3 μ hKμ hMμ).fr f0 (by omega)
theorem m_undo {σ : Sg} {c : Nat} (h : σ 171 23 = nI c) (h0 : 0 < c) (hc : c ≤ 20) : ∃ σ', M_undo σ = some (true, σ') ∧ (∀ a, a ≠ 171 → a ≠ 183 → σ' a = σ a) ∧ (∀ k, k ≠ 23 → σ' 171 k = σ 171 k) ∧ σ' 171 23 = nI (c - 1) ∧ ∀ k, σ' 183 k = if k < 1607 then σ 185 (1607 * (c - 1) + k) else σ 183 k := by
  have hl := zit_cnt (b := fun (s : (Sg × Int32)) => M_undo_l25 s.1 s.2) (fun j τ => (∀ a, a ≠ 183 → τ a = zup σ 171 23 (nI (c - 1)) a) ∧ ∀ k, τ 183 k = if k < j then σ 185 (1607 * (c - 1) + k) else σ 183 k) nI 1607 (σ := zup σ 171 23 (nI (c - 1))) (by omega)
    ⟨fun _ _ => rfl, fun k => by rw [if_neg (by omega), zup_ne (by omega)]⟩ (by
    rintro j τ hj ⟨i1, i2⟩
    have e1 : τ 171 23 = nI (c - 1) := by rw [i1 171 (by omega), zup_hit]
    have e2 : τ 185 = σ 185 := by rw [i1 185 (by omega), zup_ne (by omega)]
    refine ⟨zup τ 183 j (σ 185 (1607 * (c - 1) + j)), ?_, ?_, ?_⟩
    · show M_undo_l25 τ (nI j) = _
      unfold M_undo_l25
      simp (disch := omega) only [zgt_e, zpt_e, zlt_e, zrd_e, zwr_e, zelr_e, znz_e, zcp_e, zlit, nI_add, nI_mul, nI_sub, nI_div, ↓irem_f, irem_e, Nat.zero_add, Nat.add_zero, obs, zb_t, zb_f, nI_eqt, nI_eqf, nI_let, nI_lef, nI_ltt, nI_ltf, nI_m1, nI_n1, ↓reduceIte, zup_ne, zup_miss, zup_hit, zbo_1, zbo_0, reduceCtorEq, sel_l, sel_r, Nat.reduceAdd, Nat.reduceSub, Nat.reduceMul, e1, e2]
    · intro a ha; rw [zup_ne ha]; exact i1 a ha
    · intro k
      by_cases e : k = j
      · subst e; rw [zup_hit, if_pos (by omega)]
      · rw [zup_miss e, i2 k]
        by_cases e9 : k < j
        · rw [if_pos e9, if_pos (by omega)]
        · rw [if_neg e9, if_neg (by omega)]) (by
    intro τ _
    show M_undo_l25 τ (nI 1607) = _
    unfold M_undo_l25
    simp (disch := omega) only [zgt_e, zpt_e, zlt_e, zrd_e, zwr_e, zelr_e, znz_e, zcp_e, zlit, nI_add, nI_mul, nI_sub, nI_div, ↓irem_f, irem_e, Nat.zero_add, Nat.add_zero, obs, zb_t, zb_f, nI_eqt, nI_eqf, nI_let, nI_lef, nI_ltt, nI_ltf, nI_m1, nI_n1, ↓reduceIte, zup_ne, zup_miss, zup_hit, zbo_1, zbo_0, reduceCtorEq, sel_l, sel_r, Nat.reduceAdd, Nat.reduceSub, Nat.reduceMul])
  obtain ⟨τ, e, i1, i2⟩ := hl
  refine ⟨τ, ?_, ?_, ?_, ?_, i2⟩
  · unfold M_undo
    rw [zgt_e, h, if_neg (nI_ne0 h0 (by omega)), zgt_e, h, zpt_e, zlt_e, show (1 : Int32) = nI 1 from rfl, nI_sub (by omega), show (0 : Int32) = nI 0 from rfl, e, obs]
  · intro a h1 h2; rw [i1 a h2, zup_ne h1]
  · intro k hk; rw [i1 171 (by omega), zup_miss hk]
  · rw [i1 171 (by omega), zup_hit]
