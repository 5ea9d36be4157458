/-! an order goes -/
theorem drop_c {τ : Sg} {c j : Nat} (hc : c ≤ 16) (hj : j < c) (h0 : τ 73 0 = nI c) :
    ∃ τ2, Orders_drop τ 73 (nI j) = some τ2 ∧ (∀ a, a ≠ 73 → a ≠ 74 → a ≠ 75 → a ≠ 76 → τ2 a = τ a) ∧ τ2 73 0 = nI (c - 1) ∧ ∀ k, τ2 74 k = (if j ≤ k ∧ k < c - 1 then τ 74 (k + 1) else τ 74 k) ∧ τ2 75 k = (if j ≤ k ∧ k < c - 1 then τ 75 (k + 1) else τ 75 k) ∧ τ2 76 k = (if j ≤ k ∧ k < c - 1 then τ 76 (k + 1) else τ 76 k) := by
  have hl := zit_cnt (b := fun (s : (Sg × Int32)) => Orders_drop_l2 s.1 73 s.2) (fun i υ => (∀ a, a ≠ 74 → a ≠ 75 → a ≠ 76 → υ a = τ a) ∧ ∀ k, υ 74 k = (if j ≤ k ∧ k < j + i then τ 74 (k + 1) else τ 74 k) ∧ υ 75 k = (if j ≤ k ∧ k < j + i then τ 75 (k + 1) else τ 75 k) ∧ υ 76 k = (if j ≤ k ∧ k < j + i then τ 76 (k + 1) else τ 76 k)) (fun i => nI (j + i)) (c - 1 - j) (σ := τ) (by omega)
    ⟨fun _ _ _ _ => rfl, fun k => by
      rw [if_neg (by omega), if_neg (by omega), if_neg (by omega)]
      exact ⟨rfl, rfl, rfl⟩⟩ (by
    rintro i υ hi ⟨i1, i2⟩
    have e73 : υ 73 0 = nI c := by rw [i1 73 (by omega) (by omega) (by omega)]; exact h0
    obtain ⟨e1, e2, e3⟩ := i2 (j + i + 1)
    rw [if_neg (by omega)] at e1 e2 e3
    refine ⟨zup (zup (zup υ 74 (j + i) (τ 74 (j + i + 1))) 75 (j + i) (τ 75 (j + i + 1))) 76 (j + i) (τ 76 (j + i + 1)), ?_, fun a h1 h2 h3 => by rw [zup_ne h3, zup_ne h2, zup_ne h1]; exact i1 a h1 h2 h3, fun k => ?_⟩
    · show Orders_drop_l2 υ 73 (nI (j + i)) = _
      unfold Orders_drop_l2
      simp (disch := omega) only [zgt_e, zpt_e, zlt_e, zrd_e, zwr_e, zelr_e, znz_e, zcp_e, zlit, nI_add, nI_mul, nI_sub, nI_div, ↓irem_f, irem_e, Nat.zero_add, Nat.add_zero, obs, zb_t, zb_f, nI_eqt, nI_eqf, nI_let, nI_lef, nI_ltt, nI_ltf, nI_m1, nI_n1, ↓reduceIte, zup_ne, zup_miss, zup_hit, zbo_1, zbo_0, reduceCtorEq, sel_l, sel_r, Nat.reduceAdd, Nat.reduceSub, Nat.reduceMul, e73, e1, e2, e3]
      rfl
    · obtain ⟨k1, k2, k3⟩ := i2 k
      by_cases e : k = j + i
      · subst e
        rw [if_pos (by omega), if_pos (by omega), if_pos (by omega), zup_ne (by omega), zup_ne (by omega), zup_hit, zup_ne (by omega), zup_hit, zup_hit]
        exact ⟨rfl, rfl, rfl⟩
      · have ec : (j ≤ k ∧ k < j + (i + 1)) = (j ≤ k ∧ k < j + i) := propext ⟨fun x => ⟨x.1, by omega⟩, fun x => ⟨x.1, by omega⟩⟩
        rw [zup_ne (by omega), zup_ne (by omega), zup_miss e, zup_ne (by omega), zup_miss e, zup_ne (by omega), zup_miss e, zup_ne (by omega), zup_ne (by omega)]
        simp only [ec]
        exact ⟨k1, k2, k3⟩) (by
    rintro υ ⟨i1, _⟩
    have e73 : υ 73 0 = nI c := by rw [i1 73 (by omega) (by omega) (by omega)]; exact h0
    show Orders_drop_l2 υ 73 (nI (j + (c - 1 - j))) = _
    unfold Orders_drop_l2
    simp (disch := omega) only [zgt_e, zpt_e, zlt_e, zrd_e, zwr_e, zelr_e, znz_e, zcp_e, zlit, nI_add, nI_mul, nI_sub, nI_div, ↓irem_f, irem_e, Nat.zero_add, Nat.add_zero, obs, zb_t, zb_f, nI_eqt, nI_eqf, nI_let, nI_lef, nI_ltt, nI_ltf, nI_m1, nI_n1, ↓reduceIte, zup_ne, zup_miss, zup_hit, zbo_1, zbo_0, reduceCtorEq, sel_l, sel_r, Nat.reduceAdd, Nat.reduceSub, Nat.reduceMul, e73])
  obtain ⟨υ, e, i1, i2⟩ := hl
  have e73 : υ 73 0 = nI c := by rw [i1 73 (by omega) (by omega) (by omega)]; exact h0
  have ej : j + (c - 1 - j) = c - 1 := by omega
  rw [ej] at i2
  refine ⟨zup υ 73 0 (nI (c - 1)), ?_, fun a h1 h2 h3 h4 => by rw [zup_ne h1]; exact i1 a h2 h3 h4, zup_hit, fun k => by rw [zup_ne (by omega), zup_ne (by omega), zup_ne (by omega)]; exact i2 k⟩
  unfold Orders_drop
  have e' : zit (fun (s : (Sg × Int32)) => Orders_drop_l2 s.1 73 s.2) zFU (τ, nI j) = some (υ, nI (j + (c - 1 - j))) := e
  rw [e', obs]
  simp (disch := omega) only [zgt_e, zpt_e, zlt_e, zrd_e, zwr_e, zelr_e, znz_e, zcp_e, zlit, nI_add, nI_mul, nI_sub, nI_div, ↓irem_f, irem_e, Nat.zero_add, Nat.add_zero, obs, zb_t, zb_f, nI_eqt, nI_eqf, nI_let, nI_lef, nI_ltt, nI_ltf, nI_m1, nI_n1, ↓reduceIte, zup_ne, zup_miss, zup_hit, zbo_1, zbo_0, reduceCtorEq, sel_l, sel_r, Nat.reduceAdd, Nat.reduceSub, Nat.reduceMul, e73]
def dropO (ρ : Sg) (j c : Nat) : Sg := zrow ρ 183 (fun k => if 148 + 3 * j ≤ k ∧ k < 148 + 3 * (c - 1) then ρ 183 (k + 3) else if k = 199 then nI (c - 1) else ρ 183 k)
theorem drop_m {ρ : Sg} {c j : Nat} (hc : c ≤ 16) (hj : j < c) : ∃ x, zit (fun (s : (Sg × Int32)) => M_cancel_l44 s.1 s.2) zFU (zup ρ 183 199 (nI (c - 1)), nI (3 * j)) = some (dropO ρ j c, x) := by
  have hl := zit_cnt (b := fun (s : (Sg × Int32)) => M_cancel_l44 s.1 s.2) (fun i υ => (∀ a, a ≠ 183 → υ a = ρ a) ∧ ∀ k, υ 183 k = if 148 + 3 * j ≤ k ∧ k < 148 + 3 * j + i then ρ 183 (k + 3) else if k = 199 then nI (c - 1) else ρ 183 k) (fun i => nI (3 * j + i)) (3 * (c - 1 - j)) (σ := zup ρ 183 199 (nI (c - 1))) (by omega)
    ⟨fun a h => zup_ne h, fun k => by
      rw [if_neg (by omega)]
      by_cases e : k = 199
      · subst e; rw [if_pos rfl, zup_hit]
      · rw [if_neg e, zup_miss e]⟩ (by
    rintro i υ hi ⟨i1, i2⟩
    have e199 : υ 183 199 = nI (c - 1) := by rw [i2 199, if_neg (by omega), if_pos rfl]
    have e3 : υ 183 (148 + (3 * j + i) + 3) = ρ 183 (148 + (3 * j + i) + 3) := by rw [i2, if_neg (by omega), if_neg (by omega)]
    refine ⟨zup υ 183 (148 + (3 * j + i)) (ρ 183 (148 + (3 * j + i) + 3)), ?_, fun a h => by rw [zup_ne h]; exact i1 a h, fun k => ?_⟩
    · show M_cancel_l44 υ (nI (3 * j + i)) = _
      unfold M_cancel_l44
      simp (disch := omega) only [zgt_e, zpt_e, zlt_e, zrd_e, zwr_e, zelr_e, znz_e, zcp_e, zlit, nI_add, nI_mul, nI_sub, nI_div, ↓irem_f, irem_e, Nat.zero_add, Nat.add_zero, obs, zb_t, zb_f, nI_eqt, nI_eqf, nI_let, nI_lef, nI_ltt, nI_ltf, nI_m1, nI_n1, ↓reduceIte, zup_ne, zup_miss, zup_hit, zbo_1, zbo_0, reduceCtorEq, sel_l, sel_r, Nat.reduceAdd, Nat.reduceSub, Nat.reduceMul, e199, e3]
      rfl
    · by_cases e : k = 148 + (3 * j + i)
      · subst e; rw [zup_hit, if_pos (by omega)]
      · rw [zup_miss e, i2 k]
        have ec : (148 + 3 * j ≤ k ∧ k < 148 + 3 * j + (i + 1)) = (148 + 3 * j ≤ k ∧ k < 148 + 3 * j + i) := propext ⟨fun x => ⟨x.1, by omega⟩, fun x => ⟨x.1, by omega⟩⟩
        simp only [ec]) (by
    rintro υ ⟨i1, i2⟩
    have e199 : υ 183 199 = nI (c - 1) := by rw [i2 199, if_neg (by omega), if_pos rfl]
    show M_cancel_l44 υ (nI (3 * j + 3 * (c - 1 - j))) = _
    unfold M_cancel_l44
    simp (disch := omega) only [zgt_e, zpt_e, zlt_e, zrd_e, zwr_e, zelr_e, znz_e, zcp_e, zlit, nI_add, nI_mul, nI_sub, nI_div, ↓irem_f, irem_e, Nat.zero_add, Nat.add_zero, obs, zb_t, zb_f, nI_eqt, nI_eqf, nI_let, nI_lef, nI_ltt, nI_ltf, nI_m1, nI_n1, ↓reduceIte, zup_ne, zup_miss, zup_hit, zbo_1, zbo_0, reduceCtorEq, sel_l, sel_r, Nat.reduceAdd, Nat.reduceSub, Nat.reduceMul, e199])
  obtain ⟨υ, e, i1, i2⟩ := hl
  refine ⟨nI (3 * j + 3 * (c - 1 - j)), ?_⟩
  have e' : zit (fun (s : (Sg × Int32)) => M_cancel_l44 s.1 s.2) zFU (zup ρ 183 199 (nI (c - 1)), nI (3 * j)) = some (υ, nI (3 * j + 3 * (c - 1 - j))) := e
  rw [e']
  have : υ = dropO ρ j c := by
    funext a
    by_cases h : a = 183
    · subst h
      funext k
      unfold dropO
      rw [i2 k, zrow_hit, show 148 + 3 * j + 3 * (c - 1 - j) = 148 + 3 * (c - 1) from by omega]
    · unfold dropO
      rw [i1 a h, zrow_ne h]
  rw [this]
theorem dropO_ne {ρ : Sg} {j c a : Nat} (h : a ≠ 183) : dropO ρ j c a = ρ a := zrow_ne h
theorem dropO_at {ρ : Sg} {j c k : Nat} : dropO ρ j c 183 k = if 148 + 3 * j ≤ k ∧ k < 148 + 3 * (c - 1) then ρ 183 (k + 3) else if k = 199 then nI (c - 1) else ρ 183 k := by
  unfold dropO
  rw [zrow_hit]
theorem dropO_k {ρ : Sg} {j c k : Nat} (hc : c ≤ 16) (hj : j < c) (hk : k < c - 1) : ∃ k', k' < c ∧ (k' = if j ≤ k ∧ k < c - 1 then k + 1 else k) ∧ dropO ρ j c 183 (148 + 3 * k) = ρ 183 (148 + 3 * k') ∧ dropO ρ j c 183 (149 + 3 * k) = ρ 183 (149 + 3 * k') ∧ dropO ρ j c 183 (150 + 3 * k) = ρ 183 (150 + 3 * k') := by
  by_cases e : j ≤ k
  · refine ⟨k + 1, by omega, (if_pos ⟨e, hk⟩).symm, ?_, ?_, ?_⟩
    · rw [dropO_at, if_pos (by omega), show 148 + 3 * k + 3 = 148 + 3 * (k + 1) from by omega]
    · rw [dropO_at, if_pos (by omega), show 149 + 3 * k + 3 = 149 + 3 * (k + 1) from by omega]
    · rw [dropO_at, if_pos (by omega), show 150 + 3 * k + 3 = 150 + 3 * (k + 1) from by omega]
  · refine ⟨k, by omega, (if_neg (by omega)).symm, ?_, ?_, ?_⟩
    · rw [dropO_at, if_neg (by omega), if_neg (by omega)]
    · rw [dropO_at, if_neg (by omega), if_neg (by omega)]
    · rw [dropO_at, if_neg (by omega), if_neg (by omega)]
theorem cancel_yes {σ : Sg} {n j : Nat} (h : Rel σ n) (hj : j < nC σ) : Acts n (CK_cancel n σ (nI j)) (fun τ => M_cancel τ (nI j)) := by
  obtain ⟨p1, K, t, c, R, q, s, g, L, hC, hr⟩ := h
  have hC0 := hC
  obtain ⟨hB, hT, hz, hNm, hRg, hSn⟩ := hC
  have ht := told_of hT (Or.inr (Or.inr (Nat.lt_of_le_of_lt (Nat.zero_le _) hj)))
  have hg := hB.2.2 (Or.inr ht)
  have hK := hB.1.2.2.1
  have hO := hB.1.2.2.2.2.2.2.1
  have hC16 := hO.2.1
  have hc0 : σ 73 0 = nI (nC σ) := hB.1.2.2.2.2.1.1.trans hO.1
  obtain ⟨τ, n1, K1, r0, r1, r2, r3, r4, f0, fa, r7, r8⟩ := c_remember hRg
  have hrem : RemC σ τ n1 K1 t c := ⟨r1, r2, r3, r4, r7, r8⟩
  have hc1 : τ 73 0 = nI (nC σ) := by rw [fa 73 (by omega) (by omega) (by omega)]; exact hc0
  obtain ⟨τ2, d1, w0, d3, d4⟩ := drop_c hC16 hj hc1
  have da : ∀ a, a < 56 ∨ 79 < a → τ2 a = τ a := fun b hb => w0 b (by omega) (by omega) (by omega) (by omega)
  obtain ⟨ρ, m0, hρ, me, hMρ, hzρ⟩ := rem_both hC0 fa da
  have hCρ : nC ρ = nC σ := me.e_nC
  have hOρ := me.e_InvO hO
  have hKρ := me.e_InvK hK
  have c199 : ρ 183 199 = nI (nC σ) := by rw [hOρ.1, hCρ]
  obtain ⟨x, hlp⟩ := drop_m (ρ := ρ) hC16 hj
  have we : WEq ρ (dropO ρ j (nC σ)) := ⟨⟨⟨by rw [dropO_ne (by omega)], by rw [dropO_ne (by omega)], by rw [dropO_ne (by omega)]⟩, dropO_ne (by omega), dropO_ne (by omega), dropO_ne (by omega)⟩, fun i h1 h2 => by rw [dropO_at, if_neg (by omega), if_neg h2]⟩
  have n199 : dropO ρ j (nC σ) 183 199 = nI (nC σ - 1) := by rw [dropO_at, if_neg (by omega), if_pos rfl]
  have eC : nC (dropO ρ j (nC σ)) = nC σ - 1 := by
    show (dropO ρ j (nC σ) 183 199).toNatClampNeg = _
    rw [n199, nI_clamp (by omega)]
  have hMυ : Mom τ2 55 (dropO ρ j (nC σ)) := by
    have fW : Fr 73 76 τ τ2 := fun b hb => w0 b (by omega) (by omega) (by omega) (by omega)
    refine ⟨(we.e_RepW hKρ hMρ.1).fr fW (by omega), ?_, (we.e_RepLg hMρ.2.2.1).fr fW (by omega), ?_, we.e_InvS hMρ.2.2.2.2.1, we.e_InvWs hKρ hMρ.2.2.2.2.2.1, we.e_InvR hKρ hMρ.2.2.2.2.2.2⟩
    · refine ⟨?_, fun k hk => ?_⟩
      · show τ2 73 0 = _
        rw [n199, d3]
      · rw [eC] at hk
        show τ2 74 k = _ ∧ τ2 75 k = _ ∧ τ2 76 k = _
        obtain ⟨k', b1, b2, b3, b4, b5⟩ := dropO_k (ρ := ρ) hC16 hj hk
        obtain ⟨x1, x2, x3⟩ := d4 k
        have y := hMρ.2.1.2 k' (by omega)
        rw [b3, b4, b5]
        by_cases e : j ≤ k ∧ k < nC σ - 1
        · rw [if_pos e] at x1 x2 x3 b2
          rw [x1, x2, x3, ← b2]
          exact y
        · rw [if_neg e] at x1 x2 x3 b2
          rw [x1, x2, x3, ← b2]
          exact y
    · unfold InvO
      rw [eC]
      refine ⟨n199, by omega, fun k hk => ?_⟩
      obtain ⟨k', b1, b2, b3, b4, b5⟩ := dropO_k (ρ := ρ) hC16 hj hk
      have y := hOρ.2.2 k' (by omega)
      unfold oo ofr oma at y ⊢
      rw [b3, b4, b5, we.1.e_nO]
      exact y
  have hgυ : Gain (dropO ρ j (nC σ)) := by
    have := me.e_Gain hg
    unfold Gain at this ⊢
    rw [dropO_at, if_neg (by omega), if_neg (by omega)]
    exact this
  have hzυ : Zhi (dropO ρ j (nC σ)) := fun k hk => by rw [dropO_at, if_neg (by omega), if_neg (by omega)]; exact hzρ k hk
  have hle : n1 ≤ 90000 := by have := r1.1; have := r1.2.1; omega
  refine ⟨true, τ2, dropO ρ j (nC σ), n1, ?_, ?_, act_sim hC0 hr ht hrem f0 fa da hρ (fun b hb => dropO_ne hb) hMυ hgυ hzυ, rem_n r0, hle⟩
  · unfold CK_cancel CK_isOrder CK_cancel_p18
    rw [if_neg (show ¬ nI j < 0 from nI_nlt (a := j) (b := 0) (by omega) (by omega)), zgt_e, hc0, if_neg (nI_ge hj (by omega)), bt, r0, obs]
    dsimp only
    rw [d1, obs, obs]
  · have t199 : τ2 183 199 = nI (nC σ) := by rw [da 183 (by omega), fa 183 (by omega) (by omega) (by omega)]; exact hO.1
    show M_cancel τ2 (nI j) = _
    unfold M_cancel
    rw [show (199 : Int32) = nI 199 from rfl, zrd_e (by omega) (by omega), t199, show M_isIn (nI j) 0 (nI (nC σ) - 1) = some true from isIn_in (by omega) hj, bt, m0, obs, zrd_e (by omega) (by omega), c199, show (1 : Int32) = nI 1 from rfl, nI_sub (by omega), zwr_e (by omega) (by omega), zlt_e, show (3 : Int32) = nI 3 from rfl, nI_mul, hlp, obs]
theorem a_cancel {σ : Sg} {n : Nat} (h : Rel σ n) (x : Int32) : Acts n (CK_cancel n σ x) (fun τ => M_cancel τ x) := by
  have h0 := h
  obtain ⟨p1, K, t, c, R, q, s, g, L, ⟨hB, hT, _⟩, _⟩ := h0
  have hO := hB.1.2.2.2.2.2.2.1
  have hC16 := hO.2.1
  have hc0 : σ 73 0 = nI (nC σ) := hB.1.2.2.2.2.1.1.trans hO.1
  have key : x < 0 ∨ nI (nC σ) ≤ x → Acts n (CK_cancel n σ x) (fun τ => M_cancel τ x) := by
    intro o
    refine acts_nob (k := 3) h (by omega) ?_ ?_
    · have e : CK_isOrder σ x = some false := by
        unfold CK_isOrder
        by_cases c : x < 0
        · rw [if_pos c]
        · rw [if_neg c, zgt_e, hc0, if_pos (o.resolve_left c)]
      unfold CK_cancel
      rw [e, bf]; rfl
    · show M_cancel (refC σ 3) x = _
      unfold M_cancel
      rw [show (199 : Int32) = nI 199 from rfl, zrd_e (by omega) (by omega), refC_ne (by omega), hO.1]
      rw [show M_isIn x 0 (nI (nC σ) - 1) = some false from isIn_out (by omega) o, bf]; rfl
  rcases pk_ix x (n := nC σ) (by omega) with o | o | ⟨j, hj, rfl⟩
  · exact key (Or.inl o)
  · exact key (Or.inr o)
  · exact cancel_yes h hj
