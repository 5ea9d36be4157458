/-! rain, on both sides -/
def rnS (p : Nat) (r : Int32) (ν : Sg) : Sg := zup (zup (zup ν 183 p (ν 183 p + r)) 189 p (ν 189 p + r)) 183 204 (ν 183 204 + r)
theorem m_rain {σ : Sg} {p : Nat} {r : Int32} (hp : p < 8) : M_rains σ (nI p) r = some (rnS p r σ) := by
  unfold M_rains rnS
  simp (disch := omega) only [zgt_e, zpt_e, zlt_e, zrd_e, zwr_e, zelr_e, znz_e, zcp_e, zlit, nI_add, nI_mul, nI_sub, nI_div, ↓irem_f, irem_e, Nat.zero_add, Nat.add_zero, obs, zb_t, zb_f, nI_eqt, nI_eqf, nI_let, nI_lef, nI_ltt, nI_ltf, nI_m1, nI_n1, ↓reduceIte, zup_ne, zup_miss, zup_hit, zbo_1, zbo_0, reduceCtorEq, sel_l, sel_r, Nat.reduceAdd, Nat.reduceSub, Nat.reduceMul]
theorem rnS_at {p i : Nat} {r : Int32} {ν : Sg} (h1 : i ≠ p) (h2 : i ≠ 204) : rnS p r ν 183 i = ν 183 i := by
  unfold rnS
  rw [zup_miss h2, zup_ne (by omega), zup_miss h1]
theorem rnS_p {p : Nat} {r : Int32} {ν : Sg} (hp : p < 8) : rnS p r ν 183 p = ν 183 p + r := by
  unfold rnS
  rw [zup_miss (by omega), zup_ne (by omega), zup_hit]
theorem rnS_204 {p : Nat} {r : Int32} {ν : Sg} : rnS p r ν 183 204 = ν 183 204 + r := by
  unfold rnS
  rw [zup_hit]
theorem rnS_row {p a : Nat} {r : Int32} {ν : Sg} (h1 : a ≠ 183) (h2 : a ≠ 189) : rnS p r ν a = ν a := by
  unfold rnS
  rw [zup_ne h1, zup_ne h2, zup_ne h1]
theorem rnS_stat {p : Nat} (hp : p < 8) (r : Int32) (ν : Sg) : Stat ν (rnS p r ν) := ⟨fun a h1 h2 _ _ _ _ => rnS_row h1 h2, fun k hk => rnS_at (by omega) (by omega)⟩
theorem c_rain {τ ν : Sg} {p : Nat} {r : Int32} (hK : InvK ν) (hp : p < nP ν) (hV : RepW τ 56 ν) (hN : RepN τ 56 ν) :
    ∃ τ', Water_rainOn τ 56 (nI p) r = some τ' ∧ Fr 56 72 τ τ' ∧ RepW τ' 56 (rnS p r ν) ∧ RepN τ' 56 (rnS p r ν) := by
  have hP8 := hK.1.2
  have hO10 := hK.2.1.2
  have st := rnS_stat (p := p) (by omega) r ν
  obtain ⟨⟨v1, v2, v3, v4, v5, v6, v7⟩, hA, hZ⟩ := hV
  simp only [Nat.reduceAdd] at v1 v2 v3 v4
  generalize hτ' : zup (zup (zup τ 57 p (τ 57 p + r)) 67 p (τ 67 p + r)) 64 4 (τ 64 4 + r) = τ'
  have rw0 : ∀ a, a ≠ 57 → a ≠ 67 → a ≠ 64 → τ' a = τ a := fun a h1 h2 h3 => by rw [← hτ', zup_ne h3, zup_ne h2, zup_ne h1]
  have r57 : ∀ q, q ≠ p → τ' 57 q = τ 57 q := fun q h1 => by rw [← hτ', zup_ne (by omega), zup_ne (by omega), zup_miss h1]
  have r57p : τ' 57 p = τ 57 p + r := by rw [← hτ', zup_ne (by omega), zup_ne (by omega), zup_hit]
  have r67 : ∀ q, q ≠ p → τ' 67 q = τ 67 q := fun q h1 => by rw [← hτ', zup_ne (by omega), zup_miss h1, zup_ne (by omega)]
  have r67p : τ' 67 p = τ 67 p + r := by rw [← hτ', zup_ne (by omega), zup_hit]
  have r64 : ∀ q, q ≠ 4 → τ' 64 q = τ 64 q := fun q h1 => by rw [← hτ', zup_miss h1, zup_ne (by omega), zup_ne (by omega)]
  have r644 : τ' 64 4 = τ 64 4 + r := by rw [← hτ', zup_hit]
  have n189 : ∀ q, q ≠ p → rnS p r ν 189 q = ν 189 q := fun q h1 => by
    unfold rnS
    rw [zup_ne (by omega), zup_miss h1, zup_ne (by omega)]
  have n189p : rnS p r ν 189 p = ν 189 p + r := by
    unfold rnS
    rw [zup_ne (by omega), zup_hit]
  refine ⟨τ', ?_, ?_, ⟨⟨?_, ?_, ?_, ?_, ?_, ?_, ?_⟩, ?_, ?_⟩, ?_⟩
  · unfold Water_rainOn
    simp (disch := omega) only [zgt_e, zpt_e, zlt_e, zrd_e, zwr_e, zelr_e, znz_e, zcp_e, zlit, nI_add, nI_mul, nI_sub, nI_div, ↓irem_f, irem_e, Nat.zero_add, Nat.add_zero, obs, zb_t, zb_f, nI_eqt, nI_eqf, nI_let, nI_lef, nI_ltt, nI_ltf, nI_m1, nI_n1, ↓reduceIte, zup_ne, zup_miss, zup_hit, zbo_1, zbo_0, reduceCtorEq, sel_l, sel_r, Nat.reduceAdd, Nat.reduceSub, Nat.reduceMul, hτ']
  · intro a ha
    exact rw0 a (by omega) (by omega) (by omega)
  · intro q hq
    rw [st.e_nP] at hq
    show τ' 57 q = _ ∧ τ' 58 q = _ ∧ τ' 59 q = _ ∧ τ' 60 q = _
    obtain ⟨x1, x2, x3, x4⟩ := v1 q hq
    rw [rw0 58 (by omega) (by omega) (by omega), rw0 59 (by omega) (by omega) (by omega), rw0 60 (by omega) (by omega) (by omega), rnS_at (i := 8 + q) (by omega) (by omega), rnS_at (i := 24 + q) (by omega) (by omega), rnS_at (i := 16 + q) (by omega) (by omega)]
    refine ⟨?_, x2, x3, x4⟩
    by_cases e : q = p
    · subst e; rw [r57p, rnS_p (by omega), x1]
    · rw [r57 q e, rnS_at e (by omega), x1]
  · intro o ho
    rw [st.e_nO] at ho
    show τ' 62 o = _ ∧ τ' 63 o = _
    rw [rw0 62 (by omega) (by omega) (by omega), rw0 63 (by omega) (by omega) (by omega), rnS_at (i := 128 + o) (by omega) (by omega), rnS_at (i := 138 + o) (by omega) (by omega)]
    exact v2 o ho
  · intro i hi
    show τ' 64 i = _
    by_cases e : i = 4
    · subst e; rw [r644, rnS_204, v3 4 (by omega)]
    · rw [r64 i e, rnS_at (by omega) (by omega)]; exact v3 i hi
  · show τ' 64 6 = _
    rw [r64 6 (by omega), v4, st.e_nO]
    exact sm_congr (fun o ho => by rw [rnS_at (by omega) (by omega)])
  · rw [rw0 56 (by omega) (by omega) (by omega), rnS_at (by omega) (by omega)]; exact v5
  · rw [rw0 56 (by omega) (by omega) (by omega), rnS_at (by omega) (by omega)]; exact v6
  · rw [rw0 56 (by omega) (by omega) (by omega), rnS_at (by omega) (by omega)]; exact v7
  · intro q hq
    rw [st.e_nP] at hq
    rw [st.e_stp]
    exact (hA q hq).eq (rw0 61 (by omega) (by omega) (by omega)) (by rw [st.e_tl]) (fun k hk => rnS_at (by omega) (by omega)) (hK.2.2.2.2.1 q hq).1
  · intro q hq i hi hi9
    rw [st.e_nP] at hq
    rw [st.e_tl] at hi
    show τ' 61 _ = 0
    rw [rw0 61 (by omega) (by omega) (by omega)]
    exact hZ q hq i hi hi9
  · intro q hq
    rw [st.e_nP] at hq
    obtain ⟨x1, x2, x3, x4⟩ := hN q hq
    show τ' 66 q = _ ∧ τ' 67 q = _ ∧ τ' 68 q = _ ∧ τ' 71 q = _
    rw [rw0 66 (by omega) (by omega) (by omega), rw0 68 (by omega) (by omega) (by omega), rw0 71 (by omega) (by omega) (by omega), rnS_row (a := 191) (by omega) (by omega), rnS_row (a := 190) (by omega) (by omega), rnS_row (a := 192) (by omega) (by omega)]
    refine ⟨x1, ?_, x3, x4⟩
    by_cases e : q = p
    · subst e
      rw [r67p, n189p]
      exact congrArg (fun z => z + r) x2
    · rw [r67 q e, n189 q e]
      exact x2
