theorem EqM.up196 {e k : Nat} {μ μ' : Sg} {v : Int32} (h : EqM e μ μ') : EqM e μ (zup μ' 196 k v) := by
  refine ⟨?_, ?_, fun i hi => ?_⟩
  · rw [zup_ne (by omega)]; exact h.1
  · rw [zup_ne (by omega), zup_ne (by omega), zup_ne (by omega)]; exact h.2.1
  · rw [zup_ne (by omega)]; exact h.2.2 i hi
theorem m_fitIn {σ ν : Sg} {q l : Nat} (hκ : InvQ (kapL σ q l)) (hE : EqM 5000 (kapL σ q l) (quiet ν)) (hq0 : ν 171 26 = nI 0) (hs : stp (kapL σ q l) ≤ 9999) (hq : q < 8) (hl : l ≤ 40) (h44 : ν 171 44 = nI q) (x1 x2 : Int32) :
    ∃ μ υ ν', M_beginsAhead ν = some μ ∧ zit (fun (s : (Sg × Int32)) => M_laysFits_l43 s.1 x1 x2 (nI l) s.2) zFU (μ, nI 1) = some (υ, nI 41) ∧ M_endsAhead υ = some ν' ∧ (∀ a, a ≠ 184 → a < 189 ∨ (193 < a ∧ a ≠ 196) → ν' a = ν a) ∧ (∀ m, m < 41 * l + 1 ∨ 41 * l + 40 < m → ν' 196 m = ν 196 m) ∧ ∀ k, 1 ≤ k → k ≤ 40 → ν' 196 (41 * l + k) = volL σ q l k := by
  obtain ⟨μ, a1, a2, a3, a4, a5⟩ := M_beginsAhead_ok ν
  obtain ⟨μ', b1, b2, b3, b4, b5, b6, _⟩ := m_ahead2 hκ hE hq0 hs
  have hμ : μ' = μ := by rw [a1] at b1; exact (Option.some.inj b1).symm
  subst hμ
  have hP8 := hκ.1.1.1.1.2
  have hlp := zit_cnt (b := fun (s : (Sg × Int32)) => M_laysFits_l43 s.1 x1 x2 (nI l) s.2) (fun j υ => EqM 5000 (qrun (kapL σ q l) j) υ ∧ (∀ a, a ≠ 183 → a < 189 ∨ (193 < a ∧ a ≠ 196) → υ a = μ' a) ∧ (∀ i, 205 ≤ i → υ 183 i = μ' 183 i) ∧ (∀ m, m < 41 * l + 1 ∨ 41 * l + j < m → υ 196 m = ν 196 m) ∧ ∀ k, 1 ≤ k → k ≤ j → υ 196 (41 * l + k) = volL σ q l k) (fun j => nI (1 + j)) 40 (σ := μ') (by omega)
    ⟨b6, fun _ _ _ => rfl, fun _ _ => rfl, fun m _ => by rw [a4 196 (by omega) (by omega)], fun k h1 h2 => absurd h1 (by omega)⟩ (by
    rintro j υ hj ⟨i1, i2, i3, i4, i5⟩
    obtain ⟨hQj, hsj, sb, _⟩ := qrun_inv hκ j (by omega)
    have hQυ := hQj.eqm i1
    have hnj : nP (qrun (kapL σ q l) j) = nP (kapL σ q l) := sb.e_nP
    have st : M_stepsOn υ = some (qst υ) := M_stepsOn_e hQυ.1
    have eq := i1.e_qst (by unfold okE; omega) hQj (fun h => absurd h (by omega)) (fun p hp h => absurd h (by omega))
    have sbυ := qst_stB hQυ
    have e44 : qst υ 171 44 = nI q := by rw [sbυ.r171, i2 171 (by omega) (by omega), a3 44 (by omega), h44]
    have ev : qst υ 183 q = volL σ q l (1 + j) := by
      rw [eq.2.2 q (by omega)]
      unfold volL
      rw [show 1 + j = j + 1 from by omega]
      rfl
    refine ⟨zup (qst υ) 196 (41 * l + (1 + j)) (volL σ q l (1 + j)), ?_, EqM.up196 eq, ?_, ?_, ?_, ?_⟩
    · show M_laysFits_l43 υ x1 x2 (nI l) (nI (1 + j)) = _
      unfold M_laysFits_l43
      simp (disch := omega) only [zgt_e, zpt_e, zlt_e, zrd_e, zwr_e, zelr_e, znz_e, zcp_e, zlit, nI_add, nI_mul, nI_sub, nI_div, ↓irem_f, irem_e, Nat.zero_add, Nat.add_zero, obs, zb_t, zb_f, nI_eqt, nI_eqf, nI_let, nI_lef, nI_ltt, nI_ltf, nI_m1, nI_n1, ↓reduceIte, zup_ne, zup_miss, zup_hit, zbo_1, zbo_0, reduceCtorEq, sel_l, sel_r, Nat.reduceAdd, Nat.reduceSub, Nat.reduceMul, st, e44, ev]
      rfl
    · intro a h1 h2
      rw [zup_ne (by omega), sbυ.1 a h1 (by omega) (by omega) (by omega) (by omega) (by omega), i2 a h1 h2]
    · intro i hi
      rw [zup_ne (by omega), qst_hi hQυ i hi, i3 i hi]
    · intro m hm
      rw [zup_miss (by omega), sbυ.1 196 (by omega) (by omega) (by omega) (by omega) (by omega) (by omega), i4 m (by omega)]
    · intro k h1 h2
      by_cases ck : k = 1 + j
      · subst ck; rw [zup_hit]
      · rw [zup_miss (by omega), sbυ.1 196 (by omega) (by omega) (by omega) (by omega) (by omega) (by omega), i5 k h1 (by omega)]) (by
    intro υ _
    show M_laysFits_l43 υ x1 x2 (nI l) (nI (1 + 40)) = _
    unfold M_laysFits_l43
    simp (disch := omega) only [zgt_e, zpt_e, zlt_e, zrd_e, zwr_e, zelr_e, znz_e, zcp_e, zlit, nI_add, nI_mul, nI_sub, nI_div, ↓irem_f, irem_e, Nat.zero_add, Nat.add_zero, obs, zb_t, zb_f, nI_eqt, nI_eqf, nI_let, nI_lef, nI_ltt, nI_ltf, nI_m1, nI_n1, ↓reduceIte, zup_ne, zup_miss, zup_hit, zbo_1, zbo_0, reduceCtorEq, sel_l, sel_r, Nat.reduceAdd, Nat.reduceSub, Nat.reduceMul])
  obtain ⟨υ, e, i1, i2, i3, i4, i5⟩ := hlp
  obtain ⟨ν', c1, c2, c3, c4, c5⟩ := M_endsAhead_ok υ
  refine ⟨μ', υ, ν', a1, e, c1, ?_, ?_, ?_⟩
  · intro a h1 h2
    by_cases k1 : a = 171
    · subst k1
      funext k
      by_cases k2 : k = 26
      · subst k2; rw [c2, hq0]
      · rw [c3 k k2, i2 171 (by omega) (by omega), a3 k k2]
    · by_cases k2 : a = 183
      · subst k2
        funext k
        rw [c5]
        split
        · rename_i k3
          rw [i2 184 (by omega) (by omega), a5 k k3]
        · rename_i k3
          rw [i3 k (by omega), a4 183 (by omega) (by omega)]
      · rw [c4 a k1 k2, i2 a k2 h2, a4 a k1 h1]
  · intro m hm
    rw [c4 196 (by omega) (by omega), i4 m hm]
  · intro k h1 h2
    rw [c4 196 (by omega) (by omega), i5 k h1 h2]
theorem m_fitIs {υ : Sg} {l R : Nat} {s : Nat → Nat} {v w : Nat → Int32} (hR : R ≤ 10) (hl : l ≤ 40) (h43 : υ 171 43 = nI R) (h1 : υ 197 l = nI 1) (h : ∀ j, j < R → υ 194 j = nI (s j) ∧ s j ≤ 40 ∧ υ 196 (41 * l + s j) = v j ∧ υ 195 j = w j) (x1 x2 : Int32) :
    ∃ τ, zit (fun (s : (Sg × Int32)) => M_laysFits_l97 s.1 x1 x2 (nI l) s.2) zFU (υ, nI 0) = some (τ, nI R) ∧ (∀ a, a ≠ 197 → τ a = υ a) ∧ (∀ i, i ≠ l → τ 197 i = υ 197 i) ∧ τ 197 l = if (!anyB (fun j => decide (v j ≠ w j)) R) = true then nI 1 else nI 0 := by
  have hlp := zit_cnt (b := fun (s : (Sg × Int32)) => M_laysFits_l97 s.1 x1 x2 (nI l) s.2) (fun j τ => (∀ a, a ≠ 197 → τ a = υ a) ∧ (∀ i, i ≠ l → τ 197 i = υ 197 i) ∧ τ 197 l = if (!anyB (fun j => decide (v j ≠ w j)) j) = true then nI 1 else nI 0) nI R (σ := υ) (by omega)
    ⟨fun _ _ => rfl, fun _ _ => rfl, h1⟩ (by
    rintro j τ hj ⟨i1, i2, i3⟩
    obtain ⟨e1, e2, e3, e4⟩ := h j hj
    have d0 : τ 171 43 = nI R := by rw [i1 171 (by omega), h43]
    have d1 : τ 194 j = nI (s j) := by rw [i1 194 (by omega), e1]
    have d2 : τ 196 (41 * l + s j) = v j := by rw [i1 196 (by omega), e3]
    have d3 : τ 195 j = w j := by rw [i1 195 (by omega), e4]
    by_cases c : v j = w j
    · refine ⟨τ, ?_, i1, i2, ?_⟩
      · show M_laysFits_l97 τ x1 x2 (nI l) (nI j) = _
        unfold M_laysFits_l97
        simp (disch := omega) only [zgt_e, zpt_e, zlt_e, zrd_e, zwr_e, zelr_e, znz_e, zcp_e, zlit, nI_add, nI_mul, nI_sub, nI_div, ↓irem_f, irem_e, Nat.zero_add, Nat.add_zero, obs, zb_t, zb_f, nI_eqt, nI_eqf, nI_let, nI_lef, nI_ltt, nI_ltf, nI_m1, nI_n1, ↓reduceIte, zup_ne, zup_miss, zup_hit, zbo_1, zbo_0, reduceCtorEq, sel_l, sel_r, Nat.reduceAdd, Nat.reduceSub, Nat.reduceMul, d0, d1, d2, d3, c]
      · rw [anyB_succ, show decide (v j ≠ w j) = false from by simp [c], Bool.or_false]
        exact i3
    · refine ⟨zup τ 197 l (nI 0), ?_, fun a ha => by rw [zup_ne ha]; exact i1 a ha, fun i hi => by rw [zup_miss hi]; exact i2 i hi, ?_⟩
      · show M_laysFits_l97 τ x1 x2 (nI l) (nI j) = _
        unfold M_laysFits_l97
        simp (disch := omega) only [zgt_e, zpt_e, zlt_e, zrd_e, zwr_e, zelr_e, znz_e, zcp_e, zlit, nI_add, nI_mul, nI_sub, nI_div, ↓irem_f, irem_e, Nat.zero_add, Nat.add_zero, obs, zb_t, zb_f, nI_eqt, nI_eqf, nI_let, nI_lef, nI_ltt, nI_ltf, nI_m1, nI_n1, ↓reduceIte, zup_ne, zup_miss, zup_hit, zbo_1, zbo_0, reduceCtorEq, sel_l, sel_r, Nat.reduceAdd, Nat.reduceSub, Nat.reduceMul, d0, d1, d2, d3]
        rw [if_neg c]
      · rw [anyB_succ, show decide (v j ≠ w j) = true from by simp [c], Bool.or_true, zup_hit]
        rfl) (by
    rintro τ ⟨i1, _⟩
    have d0 : τ 171 43 = nI R := by rw [i1 171 (by omega), h43]
    show M_laysFits_l97 τ x1 x2 (nI l) (nI R) = _
    unfold M_laysFits_l97
    simp (disch := omega) only [zgt_e, zpt_e, zlt_e, zrd_e, zwr_e, zelr_e, znz_e, zcp_e, zlit, nI_add, nI_mul, nI_sub, nI_div, ↓irem_f, irem_e, Nat.zero_add, Nat.add_zero, obs, zb_t, zb_f, nI_eqt, nI_eqf, nI_let, nI_lef, nI_ltt, nI_ltf, nI_m1, nI_n1, ↓reduceIte, zup_ne, zup_miss, zup_hit, zbo_1, zbo_0, reduceCtorEq, sel_l, sel_r, Nat.reduceAdd, Nat.reduceSub, Nat.reduceMul, d0])
  obtain ⟨τ, e, i⟩ := hlp
  exact ⟨τ, e, i⟩
def FrV (σ ν : Sg) : Prop := ∀ a, a ≠ 184 → a < 189 ∨ a = 194 ∨ a = 195 ∨ 197 < a → ν a = σ a
theorem m_laysFits {σ σ1 : Sg} {p1 R q : Nat} {s : Nat → Nat} (hB : Base σ p1) (hg : Gain σ) (f : FrS σ σ1) (hS : Seen σ R q s) (hR : 0 < R) :
    ∃ ν, M_laysFits σ1 = some (nI (nct (fitL σ q R s) 41), ν) ∧ FrV σ1 ν ∧ (∀ i, i < 41 → ν 197 i = if fitL σ q R s i = true then nI 1 else nI 0) ∧ ∀ i, i < 41 → ∀ k, 1 ≤ k → k ≤ 40 → ν 196 (41 * i + k) = volL σ q i k := by
  have hW := base_W hB hg
  have hs := hB.1.2.2.2.2.2.2.2.1.2
  have hq0 := hB.2.1
  have hK := hW.1.1
  have hP8 := hK.1.2
  have qm := quiet_M σ
  have hQ := quiet_Q hW
  have fa := f.all
  obtain ⟨hR10, h0, h43, hS4⟩ := hS
  obtain ⟨hq, hq1, hq2, hS5⟩ := hS4 hR
  have hl : Ok (zit (fun (s : (Sg × Int32 × Int32)) => M_laysFits_l17 s.1 (σ1 183 (24 + q)) s.2.1 s.2.2) zFU (σ1, nI 0, nI 0)) (fun r => MdV σ1 r.1 (24 + q) ∧ r.2.1 = nI (nct (fitL σ q R s) 41) ∧ (∀ i, i < 41 → r.1 197 i = if fitL σ q R s i = true then nI 1 else nI 0) ∧ ∀ i, i < 41 → ∀ k, 1 ≤ k → k ≤ 40 → r.1 196 (41 * i + k) = volL σ q i k) := by
    refine zit_ok (fun l r => r.2.2 = nI l ∧ MdV σ1 r.1 (24 + q) ∧ r.2.1 = nI (nct (fitL σ q R s) l) ∧ (∀ i, i < l → r.1 197 i = if fitL σ q R s i = true then nI 1 else nI 0) ∧ ∀ i, i < l → ∀ k, 1 ≤ k → k ≤ 40 → r.1 196 (41 * i + k) = volL σ q i k) 41 ?_ ?_ zFU 0 _ (by rw [zFU_e]; omega) (by omega) ⟨rfl, ⟨fun _ _ _ _ => rfl, fun _ _ => rfl⟩, rfl, fun i h => absurd h (by omega), fun i h => absurd h (by omega)⟩
    · rintro l ⟨ν, y2, y3⟩ hl ⟨hx, md, hy, i3, i4⟩
      obtain rfl : y3 = nI l := hx
      obtain rfl : y2 = nI (nct (fitL σ q R s) l) := hy
      have md' : MdV σ1 ν (24 + q) := md
      have i3' : ∀ i, i < l → ν 197 i = if fitL σ q R s i = true then nI 1 else nI 0 := i3
      have i4' : ∀ i, i < l → ∀ k, 1 ≤ k → k ≤ 40 → ν 196 (41 * i + k) = volL σ q i k := i4
      have md2 : MdV σ1 (zup ν 183 (24 + q) (nI l)) (24 + q) := ⟨fun a h1 h2 h3 => by rw [zup_ne h1]; exact md'.1 a h1 h2 h3, fun i hi => by rw [zup_miss hi]; exact md'.2 i hi⟩
      have hE := kapL_eq fa md2 zup_hit
      have hQg : InvQ (kapL σ q l) := var_Q hQ (Or.inl (by omega))
      have hst : stp (kapL σ q l) = stp σ := by
        unfold stp kapL
        rw [zup_miss (by omega), qm.2.2]
      have r171 : ν 171 = σ 171 := by rw [md'.1 171 (by omega) (by omega) (by omega), fa 171 (by omega)]
      obtain ⟨μ, υ, ν', a1, a2, a3, a4, a5, a6⟩ := m_fitIn hQg hE (by rw [zup_ne (by omega), r171]; exact hq0) (by omega) (by omega) (by omega) (by rw [zup_ne (by omega), r171]; exact hq2) (σ1 183 (24 + q)) (nI (nct (fitL σ q R s) l))
      have hn' : ∀ a, a ≠ 183 → a ≠ 184 → a < 189 ∨ (193 < a ∧ a ≠ 196) → ν' a = ν a := fun a h1 h2 h3 => by rw [a4 a h2 h3, zup_ne h1]
      obtain ⟨τ, b1, b2, b3, b4⟩ := m_fitIs (υ := zup ν' 197 l (nI 1)) (l := l) (R := R) (s := s) (v := fun j => volL σ q l (s j)) (w := σ 126) hR10 (by omega) (by rw [zup_ne (by omega), hn' 171 (by omega) (by omega) (by omega), r171, h43]) zup_hit (by
        intro j hj
        obtain ⟨d1, d2, d3, d4, d5⟩ := hS5 j hj
        refine ⟨?_, d4, ?_, ?_⟩
        · rw [zup_ne (by omega), hn' 194 (by omega) (by omega) (by omega), md'.1 194 (by omega) (by omega) (by omega), fa 194 (by omega), d2]
        · rw [zup_ne (by omega)]; exact a6 _ d3 d4
        · rw [zup_ne (by omega), hn' 195 (by omega) (by omega) (by omega), md'.1 195 (by omega) (by omega) (by omega), fa 195 (by omega), d5]) (σ1 183 (24 + q)) (nI (nct (fitL σ q R s) l))
      have b4' : τ 197 l = if fitL σ q R s l = true then nI 1 else nI 0 := b4
      have hsum : nI (nct (fitL σ q R s) l) + (if fitL σ q R s l = true then nI 1 else nI 0) = nI (nct (fitL σ q R s) (l + 1)) := by
        rw [nct_succ]
        split
        · rw [nI_add]
        · rw [nI_add]
      refine ⟨.inl (τ, nI (nct (fitL σ q R s) (l + 1)), nI (l + 1)), ?_, rfl, ⟨?_, ?_⟩, rfl, ?_, ?_⟩
      · show M_laysFits_l17 ν (σ1 183 (24 + q)) (nI (nct (fitL σ q R s) l)) (nI l) = _
        unfold M_laysFits_l17 M_laysFits_j17_83
        simp (disch := omega) only [zgt_e, zpt_e, zlt_e, zrd_e, zwr_e, zelr_e, znz_e, zcp_e, zlit, nI_add, nI_mul, nI_sub, nI_div, ↓irem_f, irem_e, Nat.zero_add, Nat.add_zero, obs, zb_t, zb_f, nI_eqt, nI_eqf, nI_let, nI_lef, nI_ltt, nI_ltf, nI_m1, nI_n1, ↓reduceIte, zup_ne, zup_miss, zup_hit, zbo_1, zbo_0, reduceCtorEq, sel_l, sel_r, Nat.reduceAdd, Nat.reduceSub, Nat.reduceMul, r171, hq2, a1, a2, a3, b1, b4', hsum]
      · intro a h1 h2 h3
        show τ a = σ1 a
        rw [b2 a (by omega), zup_ne (by omega), hn' a h1 h2 (by omega), md'.1 a h1 h2 h3]
      · intro i hi
        show τ 183 i = σ1 183 i
        rw [b2 183 (by omega), zup_ne (by omega), a4 183 (by omega) (by omega), zup_miss hi, md'.2 i hi]
      · intro i hi
        show τ 197 i = _
        by_cases ci : i = l
        · subst ci; exact b4'
        · rw [b3 i ci, zup_miss ci, hn' 197 (by omega) (by omega) (by omega)]
          exact i3' i (by omega)
      · intro i hi k h1 h2
        show τ 196 (41 * i + k) = _
        rw [b2 196 (by omega), zup_ne (by omega)]
        by_cases ci : i = l
        · subst ci; exact a6 k h1 h2
        · rw [a5 _ (by omega), zup_ne (by omega)]
          exact i4' i (by omega) k h1 h2
    · rintro ⟨ν, y2, y3⟩ ⟨hx, md, hy, i3, i4⟩
      obtain rfl : y3 = nI 41 := hx
      refine ⟨.inr (ν, y2, nI 41), ?_, md, hy, i3, i4⟩
      show M_laysFits_l17 ν (σ1 183 (24 + q)) y2 (nI 41) = _
      unfold M_laysFits_l17
      simp (disch := omega) only [zgt_e, zpt_e, zlt_e, zrd_e, zwr_e, zelr_e, znz_e, zcp_e, zlit, nI_add, nI_mul, nI_sub, nI_div, ↓irem_f, irem_e, Nat.zero_add, Nat.add_zero, obs, zb_t, zb_f, nI_eqt, nI_eqf, nI_let, nI_lef, nI_ltt, nI_ltf, nI_m1, nI_n1, ↓reduceIte, zup_ne, zup_miss, zup_hit, zbo_1, zbo_0, reduceCtorEq, sel_l, sel_r, Nat.reduceAdd, Nat.reduceSub, Nat.reduceMul]
  obtain ⟨⟨ν, y2, y3⟩, e, md, hy, i3, i4⟩ := hl
  obtain rfl : y2 = nI (nct (fitL σ q R s) 41) := hy
  have md' : MdV σ1 ν (24 + q) := md
  have r171 : ν 171 = σ 171 := by rw [md'.1 171 (by omega) (by omega) (by omega), fa 171 (by omega)]
  refine ⟨zup ν 183 (24 + q) (σ1 183 (24 + q)), ?_, ?_, ?_, ?_⟩
  · unfold M_laysFits
    simp (disch := omega) only [zgt_e, zpt_e, zlt_e, zrd_e, zwr_e, zelr_e, znz_e, zcp_e, zlit, nI_add, nI_mul, nI_sub, nI_div, ↓irem_f, irem_e, Nat.zero_add, Nat.add_zero, obs, zb_t, zb_f, nI_eqt, nI_eqf, nI_let, nI_lef, nI_ltt, nI_ltf, nI_m1, nI_n1, ↓reduceIte, zup_ne, zup_miss, zup_hit, zbo_1, zbo_0, reduceCtorEq, sel_l, sel_r, Nat.reduceAdd, Nat.reduceSub, Nat.reduceMul, fa 171 (by omega), hq2, e, r171]
  · intro a h1 h2
    by_cases ca : a = 183
    · subst ca
      funext i
      by_cases ci : i = 24 + q
      · subst ci; rw [zup_hit]
      · rw [zup_miss ci]; exact md'.2 i ci
    · rw [zup_ne ca]; exact md'.1 a ca h1 h2
  · intro i hi
    rw [zup_ne (by omega)]; exact i3 i hi
  · intro i hi k h1 h2
    rw [zup_ne (by omega)]; exact i4 i hi k h1 h2
