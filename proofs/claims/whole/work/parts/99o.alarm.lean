/-! alarms kept, on both sides -/
theorem Keep.e_stnd {ν ν' : Sg} (k : Keep ν ν') {p : Nat} (hp : p < 8) : stnd ν' p = stnd ν p := by
  unfold stnd
  rw [k.2.1 p (by omega), k.2.2 172 (by omega)]
theorem Keep.e_caus {ν ν' : Sg} (k : Keep ν ν') (hT : InvT ν) {p : Nat} (hp : p < 8) : caus ν' p = caus ν p := by
  have hw := k.1.e_wsh hT.1 hT.2.1 hp (k.2.1 p (by omega)) (stp ν + 1)
  unfold caus offW
  rw [k.e_stnd hp, k.1.e_stp, hw, k.1.e_hld, k.2.1 (8 + p) (by omega), k.2.1 (24 + p) (by omega), k.2.2 172 (by omega), k.2.2 192 (by omega), k.2.2 193 (by omega)]
theorem shf_at (σ : Sg) : ∀ n i, itS shf3 n σ 183 i = if 207 ≤ i ∧ i < 207 + n then σ 183 (i + 3) else σ 183 i
  | 0, i => by rw [if_neg (by omega)]; rfl
  | n + 1, i => by
    rw [show itS shf3 (n + 1) σ = zup (itS shf3 n σ) 183 (207 + n) (itS shf3 n σ 183 (207 + n + 3)) from rfl]
    by_cases e : i = 207 + n
    · subst e
      rw [zup_hit, shf_at σ n, if_neg (by omega), if_pos (by omega)]
    · rw [zup_miss e, shf_at σ n]
      by_cases c : 207 ≤ i ∧ i < 207 + n
      · rw [if_pos c, if_pos (by omega)]
      · rw [if_neg c, if_neg (by omega)]
theorem keepS_at {p kc : Nat} {ν : Sg} (hT : InvT ν) (hp : p < 8) (hk : ν 183 205 = nI kc) (hkc : kc ≤ 39) : Keep ν (keepS p ν) ∧ ∀ i, keepS p ν 183 i = if i = 205 then nI (kc + 1) else if i = 207 + 3 * kc then ν 183 196 else if i = 207 + 3 * kc + 1 then nI p else if i = 207 + 3 * kc + 2 then caus ν p else ν 183 i := by
  have k0 : Keep ν (keep0 p ν) := by
    unfold keep0
    rw [hk, nI_clamp (by omega)]
    exact (Keep.up (by omega)).trans (Keep.up (by omega))
  have hc := k0.e_caus hT hp
  unfold keepS
  rw [hc, hk, nI_clamp (by omega), show (1 : Int32) = nI 1 from rfl, nI_add]
  refine ⟨k0.trans ((Keep.up (by omega)).trans (Keep.up (by omega))), fun i => ?_⟩
  unfold keep0
  rw [hk, nI_clamp (by omega)]
  by_cases e1 : i = 205
  · subst e1; rw [zup_hit, if_pos rfl]
  · rw [zup_miss e1, if_neg e1]
    by_cases e4 : i = 207 + 3 * kc + 2
    · subst e4; rw [zup_hit, if_neg (by omega), if_neg (by omega), if_pos rfl]
    · rw [zup_miss e4]
      by_cases e3 : i = 207 + 3 * kc + 1
      · subst e3; rw [zup_hit, if_neg (by omega), if_pos rfl]
      · rw [zup_miss e3]
        by_cases e2 : i = 207 + 3 * kc
        · subst e2; rw [zup_hit, if_pos rfl]
        · rw [zup_miss e2, if_neg e2, if_neg e3, if_neg e4]
theorem kepS_at {p kept : Nat} {ν : Sg} (hT : InvT ν) (hp : p < 8) (hk : ν 183 205 = nI (min kept 40)) :
    Keep ν (kepS p ν) ∧ kepS p ν 183 205 = nI (min (kept + 1) 40) ∧ (∀ k j, k < min (kept + 1) 40 → j < 3 → kepS p ν 183 (207 + 3 * k + j) = if k + 1 = min (kept + 1) 40 then (if j = 0 then ν 183 196 else if j = 1 then nI p else caus ν p) else ν 183 (207 + 3 * (k + (min kept 40 + 1 - min (kept + 1) 40)) + j)) ∧ ∀ i, i < 205 ∨ i = 206 ∨ 327 ≤ i → kepS p ν 183 i = ν 183 i := by
  unfold kepS
  by_cases c : 40 ≤ kept
  · have hm : min kept 40 = 40 := Nat.min_eq_right c
    have hm1 : min (kept + 1) 40 = 40 := Nat.min_eq_right (by omega)
    rw [hm] at hk
    rw [hm, hm1, if_pos (show ν 183 205 = 40 from hk)]
    have k1 : Keep ν (zup (itS shf3 117 ν) 183 205 39) := (Keep.it (fun j τ hj => Keep.up (by omega))).trans (Keep.up (by omega))
    have a0 : ∀ i, i ≠ 205 → zup (itS shf3 117 ν) 183 205 39 183 i = if 207 ≤ i ∧ i < 207 + 117 then ν 183 (i + 3) else ν 183 i := fun i hi => by rw [zup_miss hi, shf_at]
    obtain ⟨k2, a2⟩ := keepS_at (p := p) (kc := 39) (k1.1.e_InvT hT) hp (show zup (itS shf3 117 ν) 183 205 39 183 205 = nI 39 from zup_hit) (by omega)
    have hcs := k1.e_caus hT hp
    refine ⟨k1.trans k2, by rw [a2, if_pos rfl], fun k j hk2 hj => ?_, fun i hi => ?_⟩
    · rw [a2, if_neg (by omega)]
      by_cases ck : k + 1 = 40
      · have ek : k = 39 := by omega
        subst ek
        rw [if_pos rfl]
        rcases (show j = 0 ∨ j = 1 ∨ j = 2 by omega) with q | q | q
        · subst q; rw [if_pos (by omega), if_pos rfl, a0 _ (by omega), if_neg (by omega)]
        · subst q; rw [if_neg (by omega), if_pos (by omega), if_neg (by omega), if_pos rfl]
        · subst q; rw [if_neg (by omega), if_neg (by omega), if_pos (by omega), if_neg (by omega), if_neg (by omega), hcs]
      · rw [if_neg (by omega), if_neg (by omega), if_neg (by omega), if_neg ck, a0 _ (by omega), if_pos (by omega)]
        have e9 : 207 + 3 * k + j + 3 = 207 + 3 * (k + (40 + 1 - 40)) + j := by omega
        rw [e9]
    · by_cases e5 : i = 205
      · omega
      · rw [a2, if_neg e5, if_neg (by omega), if_neg (by omega), if_neg (by omega), a0 _ e5, if_neg (by omega)]
  · have hm : min kept 40 = kept := Nat.min_eq_left (by omega)
    have hm1 : min (kept + 1) 40 = kept + 1 := Nat.min_eq_left (by omega)
    rw [hm] at hk
    have hne : ¬ ν 183 205 = 40 := by
      rw [hk, show (40 : Int32) = nI 40 from rfl, nI_eqf (by omega) (by omega) (by omega)]; exact id
    rw [hm, hm1, if_neg hne]
    obtain ⟨k2, a2⟩ := keepS_at (p := p) hT hp hk (by omega)
    refine ⟨k2, by rw [a2, if_pos rfl], fun k j hk2 hj => ?_, fun i hi => ?_⟩
    · rw [a2, if_neg (by omega)]
      by_cases ck : k + 1 = kept + 1
      · have ek : k = kept := by omega
        subst ek
        rw [if_pos rfl]
        rcases (show j = 0 ∨ j = 1 ∨ j = 2 by omega) with q | q | q
        · subst q; rw [if_pos (by omega), if_pos rfl]
        · subst q; rw [if_neg (by omega), if_pos (by omega), if_neg (by omega), if_pos rfl]
        · subst q; rw [if_neg (by omega), if_neg (by omega), if_pos (by omega), if_neg (by omega), if_neg (by omega)]
      · rw [if_neg (by omega), if_neg (by omega), if_neg (by omega), if_neg ck, Nat.sub_self, Nat.add_zero]
    · by_cases e5 : i = 205
      · omega
      · rw [a2, if_neg e5, if_neg (by omega), if_neg (by omega), if_neg (by omega)]
/-- the ring of alarms against the reference's row -/
def AlR (τ : Sg) (lg : Nat) (ν : Sg) (kept : Nat) : Prop := τ lg 0 = nI kept ∧ ν 183 205 = nI (min kept 40) ∧ ∀ k, k < min kept 40 → ∀ j, j < 3 → τ (lg + 1) ((kept - min kept 40 + k) % 40 * 3 + j) = ν 183 (207 + 3 * k + j)
theorem keepAlarm_ok {τ ν : Sg} {lg kept p : Nat} (h : AlR τ lg ν kept) (hk : kept < 1000000) (hT : InvT ν) (hp : p < 8) :
    ∃ τ', Log_keepAlarm τ lg (ν 183 196) (nI p) (caus ν p) = some τ' ∧ Fr lg (lg + 1) τ τ' ∧ AlR τ' lg (kepS p ν) (kept + 1) := by
  obtain ⟨h1, h2, h3⟩ := h
  obtain ⟨_, k2, k3, _⟩ := kepS_at (p := p) hT hp h2
  have hm : kept % 40 < 40 := Nat.mod_lt _ (by omega)
  refine ⟨zup (zup (zup (zup τ (lg + 1) (kept % 40 * 3) (ν 183 196)) (lg + 1) (kept % 40 * 3 + 1) (nI p)) (lg + 1) (kept % 40 * 3 + 2) (caus ν p)) lg 0 (nI (kept + 1)), ?_, ?_, ?_, k2, ?_⟩
  · unfold Log_keepAlarm
    simp (disch := omega) only [zgt_e, zpt_e, zlt_e, zrd_e, zwr_e, zelr_e, znz_e, zcp_e, zlit, nI_add, nI_mul, nI_sub, nI_div, ↓irem_f, irem_e, Nat.zero_add, Nat.add_zero, obs, zb_t, zb_f, nI_eqt, nI_eqf, nI_let, nI_lef, nI_ltt, nI_ltf, nI_m1, nI_n1, ↓reduceIte, zup_ne, zup_miss, zup_hit, zbo_1, zbo_0, reduceCtorEq, sel_l, sel_r, Nat.reduceAdd, Nat.reduceSub, Nat.reduceMul, h1]
  · exact ((((Fr.refl τ).up (by omega) (by omega)).up (by omega) (by omega)).up (by omega) (by omega)).up (by omega) (by omega)
  · rw [zup_hit]
  · intro k hk2 j hj
    rw [k3 k j hk2 hj, zup_ne (by omega)]
    by_cases ck : k + 1 = min (kept + 1) 40
    · rw [if_pos ck]
      have ex : (kept + 1 - min (kept + 1) 40 + k) % 40 = kept % 40 := by
        congr 1; omega
      rw [ex]
      rcases (show j = 0 ∨ j = 1 ∨ j = 2 by omega) with q | q | q
      · subst q; rw [if_pos rfl, zup_miss (by omega), zup_miss (by omega)]; exact zup_hit
      · subst q; rw [if_neg (by omega), if_pos rfl, zup_miss (by omega), zup_hit]
      · subst q; rw [if_neg (by omega), if_neg (by omega), zup_hit]
    · rw [if_neg ck]
      have ex : kept + 1 - min (kept + 1) 40 + k = kept - min kept 40 + (k + (min kept 40 + 1 - min (kept + 1) 40)) := by omega
      have en : (kept + 1 - min (kept + 1) 40 + k) % 40 ≠ kept % 40 := by omega
      rw [zup_miss (by omega), zup_miss (by omega), zup_miss (by omega), ex]
      exact h3 _ (by omega) j hj
