/-! an act that writes a little: ask, cancel, hand, set -/
theorem act_sim {σ τ τ2 ρ υ : Sg} {n n1 p1 K K1 t c R q g L : Nat} {s : Nat → Nat} (h : Cor σ n p1 K t c R q s) (hr : Rst σ g L) (ht : σ 171 25 = nI 1) (hrem : RemC σ τ n1 K1 t c)
    (f0 : ∀ k, k ≠ 10 → k ≠ 11 → τ 0 k = σ 0 k) (fa : ∀ a, a ≠ 0 → a ≠ 80 → a < 198 → τ a = σ a)
    (da : ∀ a, a < 56 ∨ 79 < a → τ2 a = τ a) (hρ : RemM τ2 ρ c) (fT : ∀ a, a ≠ 183 → υ a = ρ a) (hM : Mom τ2 55 υ) (hg : Gain υ) (hz : Zhi υ) : Rel υ n1 := by
  obtain ⟨m1, m2, m3, m4, m5⟩ := hρ
  have lo : ∀ a, a < 171 ∨ 197 < a → υ a = τ2 a := fun a ha => by rw [fT a (by omega), m1 a (by omega) (by omega)]
  have md : ∀ a, a ≠ 171 → a ≠ 183 → a ≠ 185 → 171 ≤ a → a < 198 → υ a = σ a := fun a h1 h2 h3 h4 h5 => by
    rw [fT a h2, m1 a h1 h3, da a (by omega), fa a (by omega) (by omega) (by omega)]
  have r171 : ∀ k, k ≠ 23 → υ 171 k = σ 171 k := fun k h1 => by rw [fT 171 (by omega), m2 k h1, da 171 (by omega), fa 171 (by omega) (by omega) (by omega)]
  have e185 : υ 185 = ρ 185 := fT 185 (by omega)
  have hMυ : Mom υ 55 υ := hM.rows (fun a h1 h2 h3 => lo a (by omega))
  have r0 : ∀ k, k ≠ 10 → k ≠ 11 → υ 0 k = σ 0 k := fun k h1 h2 => by rw [lo 0 (by omega), da 0 (by omega), f0 k h1 h2]
  refine ⟨p1, K1, (t + 1) % 20, min (c + 1) 20, R, q, s, g, L, act_core h ht hrem f0 fa (fun k hk => ?_) (fun a ha => ?_) (fun k hk => r171 k (by omega)) ?_ ?_ ?_ hMυ hg hz, hr.keep ⟨?_, ?_, hr.1.2.2⟩ (fun k hk => r0 k (by omega) (by omega)) (fun k hk => r171 k (by omega)) (fun a ha => ?_)⟩
  · rw [lo 0 (by omega), da 0 (by omega)]
  · rcases Nat.lt_or_ge a 171 with x | x
    · rw [lo a (by omega), da a (by omega)]
    · rcases Nat.lt_or_ge 197 a with y | y
      · rw [lo a (by omega), da a (by omega)]
      · rw [md a (by omega) (by omega) (by omega) (by omega) (by omega), fa a (by omega) (by omega) (by omega)]
  · rw [fT 171 (by omega)]; exact m3
  · intro i k hi hk
    rw [e185, m4 i k hi hk, da 185 (by omega), fa 185 (by omega) (by omega) (by omega)]
  · intro k hk
    rw [e185, m5 k hk, da 183 (by omega), fa 183 (by omega) (by omega) (by omega)]
  · rw [r0 14 (by omega) (by omega)]; exact hr.1.1
  · rw [r171 24 (by omega)]; exact hr.1.2.1
  · rcases Nat.lt_or_ge a 171 with x | x
    · rw [lo a (by omega), da a (by omega), fa a (by omega) (by omega) (by omega)]
    · exact md a (by omega) (by omega) (by omega) (by omega) (by omega)
/-- what stands when both have remembered, the class having written rows 56 to 79 besides -/
theorem rem_both {σ τ τ2 : Sg} {n p1 K t c R q : Nat} {s : Nat → Nat} (h : Cor σ n p1 K t c R q s) (fa : ∀ a, a ≠ 0 → a ≠ 80 → a < 198 → τ a = σ a) (da : ∀ a, a < 56 ∨ 79 < a → τ2 a = τ a) :
    ∃ ρ, M_remembers τ2 = some ρ ∧ RemM τ2 ρ c ∧ MEq σ ρ ∧ Mom τ 55 ρ ∧ Zhi ρ := by
  obtain ⟨hB, hT, hz, hNm, hRg, hSn⟩ := h
  have das : ∀ a, 170 < a → a < 198 → τ2 a = σ a := fun a x y => by rw [da a (by omega), fa a (by omega) (by omega) y]
  obtain ⟨ρ, m0, m1, m2, m3, m4, m5⟩ := m_remembers (σ := τ2) (c := c) (by rw [das 171 (by omega) (by omega)]; exact hRg.2.2.2.2.2.2.1.2.2) hRg.2.2.2.2.1
  have me : MEq σ ρ := by
    refine ⟨⟨?_, ?_, ?_⟩, ⟨?_, ?_, ?_⟩, ?_⟩
    · rw [m2 0 (by omega), das 171 (by omega) (by omega)]
    · rw [m2 1 (by omega), das 171 (by omega) (by omega)]
    · rw [m2 2 (by omega), das 171 (by omega) (by omega)]
    · rw [m1 _ (by omega) (by omega), das _ (by omega) (by omega)]
    · rw [m1 _ (by omega) (by omega), das _ (by omega) (by omega)]
    · rw [m1 _ (by omega) (by omega), das _ (by omega) (by omega)]
    · rw [m1 _ (by omega) (by omega), das _ (by omega) (by omega)]
  exact ⟨ρ, m0, ⟨m1, m2, m3, m4, m5⟩, me, (me.e_Mom hB.1.2.2.2).rows (fun a h1 h2 h3 => fa a (by omega) (by omega) (by omega)), fun k hk => by rw [me.2.2]; exact hz k hk⟩
theorem addO_WEq {κ : Sg} {o s n c : Nat} (hc : c < 16) : WEq κ (addO κ o s n c) :=
  ⟨⟨⟨by rw [addO_ne (by omega)], by rw [addO_ne (by omega)], by rw [addO_ne (by omega)]⟩, addO_ne (by omega), addO_ne (by omega), addO_ne (by omega)⟩, fun i h1 h2 => addO_at (by omega)⟩
theorem told_of {σ : Sg} (hT : Told σ) (h : 0 < nP σ ∨ 0 < nO σ ∨ 0 < nC σ) : σ 171 25 = nI 1 := by
  rcases hT.2 with ⟨t1, _⟩ | ⟨_, t2, t3, t4, _⟩
  · exact t1
  · omega
theorem ask_yes {σ : Sg} {n o a m : Nat} (h : Rel σ n) (ho : o < nO σ) (h1 : stp σ ≤ a) (h2 : a ≤ 9999) (h3 : 1 ≤ m) (h4 : m ≤ 99) (hc : nC σ < 16) : Acts n (CK_ask n σ (nI o) (nI a) (nI m)) (fun τ => M_ask τ (nI o) (nI a) (nI m)) := by
  obtain ⟨p1, K, t, c, R, q, s, g, L, hC, hr⟩ := h
  have hC0 := hC
  obtain ⟨hB, hT, hz, hNm, hRg, hSn⟩ := hC
  have ht := told_of hT (Or.inr (Or.inl (Nat.lt_of_le_of_lt (Nat.zero_le _) ho)))
  have hg := hB.2.2 (Or.inr ht)
  have hS0 := hB.1.2.2.2.2.2.2.2.1
  have hs0 : σ 56 0 = nI (stp σ) := hB.1.2.2.2.1.1.2.2.2.2.1.trans hS0.1
  have hp1 := hB.1.1.1
  have hK := hB.1.2.2.1
  have hO10 := hK.2.1.2
  have hO := hB.1.2.2.2.2.2.2.1
  have hc0 : σ 73 0 = nI (nC σ) := hB.1.2.2.2.2.1.1.trans hO.1
  obtain ⟨τ, n1, K1, r0, r1, r2, r3, r4, f0, fa, r7, r8⟩ := c_remember hRg
  have hrem : RemC σ τ n1 K1 t c := ⟨r1, r2, r3, r4, r7, r8⟩
  have hc1 : τ 73 0 = nI (nC σ) := by rw [fa 73 (by omega) (by omega) (by omega)]; exact hc0
  generalize hτ2 : zup (zup (zup (zup τ 74 (nC σ) (nI o)) 75 (nC σ) (nI a)) 76 (nC σ) (nI m)) 73 0 (nI (nC σ + 1)) = τ2
  have w0 : ∀ b, b ≠ 73 → b ≠ 74 → b ≠ 75 → b ≠ 76 → τ2 b = τ b := fun b x1 x2 x3 x4 => by rw [← hτ2, zup_ne x1, zup_ne x4, zup_ne x3, zup_ne x2]
  have da : ∀ a, a < 56 ∨ 79 < a → τ2 a = τ a := fun b hb => w0 b (by omega) (by omega) (by omega) (by omega)
  have hadd : Orders_add τ 73 (nI o) (nI a) (nI m) = some (nI (nC σ), τ2) := by
    unfold Orders_add
    simp (disch := omega) only [zgt_e, zpt_e, zlt_e, zrd_e, zwr_e, zelr_e, znz_e, zcp_e, zlit, nI_add, nI_mul, nI_sub, nI_div, ↓irem_f, irem_e, Nat.zero_add, Nat.add_zero, obs, zb_t, zb_f, nI_eqt, nI_eqf, nI_let, nI_lef, nI_ltt, nI_ltf, nI_m1, nI_n1, ↓reduceIte, zup_ne, zup_miss, zup_hit, zbo_1, zbo_0, reduceCtorEq, sel_l, sel_r, Nat.reduceAdd, Nat.reduceSub, Nat.reduceMul, hc1, hτ2]
    rw [Nat.add_sub_cancel]
  obtain ⟨ρ, m0, hρ, me, hMρ, hzρ⟩ := rem_both hC0 fa da
  have hCρ : nC ρ = nC σ := me.e_nC
  have hOρ := me.e_InvO hO
  have hKρ := me.e_InvK hK
  have c199 : ρ 183 199 = nI (nC σ) := by rw [hOρ.1, hCρ]
  have hlay : M_laysOrder ρ (nI o) (nI a) (nI m) = some (addO ρ o a m (nC σ)) := by
    unfold M_laysOrder addO
    have x1 : 148 + 3 * nC σ + 1 = 149 + 3 * nC σ := by omega
    have x2 : 148 + 3 * nC σ + 2 = 150 + 3 * nC σ := by omega
    simp (disch := omega) only [zgt_e, zpt_e, zlt_e, zrd_e, zwr_e, zelr_e, znz_e, zcp_e, zlit, nI_add, nI_mul, nI_sub, nI_div, ↓irem_f, irem_e, Nat.zero_add, Nat.add_zero, obs, zb_t, zb_f, nI_eqt, nI_eqf, nI_let, nI_lef, nI_ltt, nI_ltf, nI_m1, nI_n1, ↓reduceIte, zup_ne, zup_miss, zup_hit, zbo_1, zbo_0, reduceCtorEq, sel_l, sel_r, Nat.reduceAdd, Nat.reduceSub, Nat.reduceMul, c199, x1, x2]
  have we : WEq ρ (addO ρ o a m (nC σ)) := addO_WEq hc
  obtain ⟨g1, g2, g3, g4⟩ := addO_new (κ := ρ) (o := o) (s := a) (n := m) hc
  have hMυ : Mom τ2 55 (addO ρ o a m (nC σ)) := by
    have fW : Fr 73 76 τ τ2 := fun b hb => w0 b (by omega) (by omega) (by omega) (by omega)
    refine ⟨(we.e_RepW hKρ hMρ.1).fr fW (by omega), ?_, (we.e_RepLg hMρ.2.2.1).fr fW (by omega), ?_, we.e_InvS hMρ.2.2.2.2.1, we.e_InvWs hKρ hMρ.2.2.2.2.2.1, we.e_InvR hKρ hMρ.2.2.2.2.2.2⟩
    · refine ⟨?_, fun k hk => ?_⟩
      · show τ2 73 0 = _
        rw [g4, ← hτ2, zup_hit]
      · rw [addO_nC hc] at hk
        show τ2 74 k = _ ∧ τ2 75 k = _ ∧ τ2 76 k = _
        have e74 : τ2 74 = upd (τ 74) (nC σ) (nI o) := by rw [← hτ2, zup_ne (by omega), zup_ne (by omega), zup_ne (by omega), zup_row]
        have e75 : τ2 75 = upd (τ 75) (nC σ) (nI a) := by rw [← hτ2, zup_ne (by omega), zup_ne (by omega), zup_row, zup_ne (by omega)]
        have e76 : τ2 76 = upd (τ 76) (nC σ) (nI m) := by rw [← hτ2, zup_ne (by omega), zup_row, zup_ne (by omega), zup_ne (by omega)]
        by_cases e : k = nC σ
        · subst e
          rw [g1, g2, g3, e74, e75, e76, upd_hit, upd_hit, upd_hit]
          exact ⟨rfl, rfl, rfl⟩
        · rw [addO_at (by omega), addO_at (by omega), addO_at (by omega), e74, e75, e76, upd_miss e, upd_miss e, upd_miss e]
          exact hMρ.2.1.2 k (by omega)
    · have := addO_InvO (κ := ρ) (o := o) (s := a) (n := m) (by omega) hOρ (by rw [me.e_nO]; exact ho) (by rw [me.e_nO]; exact hO10) (by omega) h3 h4
      rw [hCρ] at this
      exact this
  have hgυ : Gain (addO ρ o a m (nC σ)) := by
    have := me.e_Gain hg
    unfold Gain at this ⊢
    rw [addO_at (by omega)]
    exact this
  have hzυ : Zhi (addO ρ o a m (nC σ)) := fun k hk => by rw [addO_at (by omega)]; exact hzρ k hk
  have hle : n1 ≤ 90000 := by have := r1.1; have := r1.2.1; omega
  refine ⟨nI (nC σ), τ2, addO ρ o a m (nC σ), n1, ?_, ?_, act_sim hC0 hr ht hrem f0 fa da hρ (fun b hb => addO_ne hb) hMυ hgυ hzυ, rem_n r0, hle⟩
  · have hout : CK_isOutlet σ (nI o) = some true := by
      rcases isOutlet_c hB.1.1 hB.1.2.1 hK (nI o) with ⟨e1, e2⟩ | ⟨_, _, _, e1, _⟩
      · exfalso
        unfold M_isOutlet at e2
        rw [zgt_e, hK.2.1.1, show (0 : Int32) = nI 0 from rfl, show (1 : Int32) = nI 1 from rfl, isIn_in (by omega) ho] at e2
        cases e2
      · exact e1
    unfold CK_ask
    rw [zgt_e, hs0, if_neg (nI_nlt h1 (by omega)), show (9999 : Int32) = nI 9999 from rfl, show (1 : Int32) = nI 1 from rfl, show (99 : Int32) = nI 99 from rfl, if_neg (nI_nlt h2 (by omega)), if_neg (nI_nlt h3 (by omega)), if_neg (nI_nlt h4 (by omega))]
    unfold CK_ask_j37 CK_ask_p77
    rw [hout, bt, if_neg (show ¬ nI 1 = 0 by decide), zgt_e, hc0, show (16 : Int32) = nI 16 from rfl, if_pos (nI_lt hc (by omega)), r0, obs]
    dsimp only
    rw [hadd, obs, obs]
  · have t1 : τ2 171 1 = nI (nO σ) := by rw [da 171 (by omega), fa 171 (by omega) (by omega) (by omega)]; exact hK.2.1.1
    have t196 : τ2 183 196 = nI (stp σ) := by rw [da 183 (by omega), fa 183 (by omega) (by omega) (by omega)]; exact hS0.1
    have t199 : τ2 183 199 = nI (nC σ) := by rw [da 183 (by omega), fa 183 (by omega) (by omega) (by omega)]; exact hO.1
    have hout : M_isOutlet τ2 (nI o) = some true := by
      unfold M_isOutlet
      rw [zgt_e, t1, show (0 : Int32) = nI 0 from rfl, show (1 : Int32) = nI 1 from rfl, isIn_in (by omega) ho]
      rfl
    have hst9 := hS0.2
    show M_ask τ2 (nI o) (nI a) (nI m) = _
    unfold M_ask
    rw [hout, bt, show (196 : Int32) = nI 196 from rfl, zrd_e (by omega) (by omega), t196, show (9999 : Int32) = nI 9999 from rfl, M_isIn_e (by omega) (by omega) (by omega), show decide (stp σ ≤ a ∧ a ≤ 9999) = true from decide_eq_true ⟨h1, h2⟩, bt, show (1 : Int32) = nI 1 from rfl, show (99 : Int32) = nI 99 from rfl, M_isIn_e (by omega) (by omega) (by omega), show decide (1 ≤ m ∧ m ≤ 99) = true from decide_eq_true ⟨h3, h4⟩, bt, show (199 : Int32) = nI 199 from rfl, zrd_e (by omega) (by omega), t199, show (16 : Int32) = nI 16 from rfl, if_neg (show ¬ nI (nC σ) = nI 16 from fun e => absurd ((nI_eq (by omega) (by omega)).mp e) (by omega)), m0, obs, hlay, obs, zrd_e (by omega) (by omega), g4, nI_sub (by omega)]
    rfl

theorem a_ask {σ : Sg} {n : Nat} (h : Rel σ n) (x y z : Int32) : Acts n (CK_ask n σ x y z) (fun τ => M_ask τ x y z) := by
  have h0 := h
  obtain ⟨p1, K, t, c, R, q, s, g, L, ⟨hB, hT, _⟩, _⟩ := h0
  have hS0 := hB.1.2.2.2.2.2.2.2.1
  have hs0 : σ 56 0 = nI (stp σ) := hB.1.2.2.2.1.1.2.2.2.2.1.trans hS0.1
  have hK := hB.1.2.2.1
  have hO10 := hK.2.1.2
  have hO := hB.1.2.2.2.2.2.2.1
  have hc0 : σ 73 0 = nI (nC σ) := hB.1.2.2.2.2.1.1.trans hO.1
  have hC16 := hO.2.1
  have r196 : refC σ 3 183 196 = nI (stp σ) := by rw [refC_ne (by omega)]; exact hS0.1
  have r199 : refC σ 3 183 199 = nI (nC σ) := by rw [refC_ne (by omega)]; exact hO.1
  have mout : M_isOutlet (refC σ 3) x = M_isOutlet σ x := by
    unfold M_isOutlet
    rw [zgt_e, zgt_e, refC_ne (by omega)]
  have no36 : ∀ sx, CK_isOutlet σ x = some sx → CK_ask_j36 n σ x y z = (CK_refuse σ (nI 3)).bind fun r => some ((r.1, r.2), n) := by
    intro sx e
    unfold CK_ask_j36 CK_ask_j37
    rw [e, obs]
    cases sx
    · exact if_pos rfl
    · exact (if_neg (by decide)).trans (if_pos rfl)
  rcases isIn_c y (a := stp σ) (b := 9999) hS0.2 (by omega) with ⟨ey, oy⟩ | ⟨a, h1, h2, rfl, ey⟩
  · obtain ⟨sx, e1, e2⟩ : ∃ sx, CK_isOutlet σ x = some sx ∧ M_isOutlet σ x = some sx := by
      rcases isOutlet_c hB.1.1 hB.1.2.1 hK x with ⟨e1, e2⟩ | ⟨_, _, _, e1, e2⟩
      · exact ⟨false, e1, e2⟩
      · exact ⟨true, e1, e2⟩
    refine acts_no (k := 3) h (by omega) ?_ ?_
    · rw [← no36 sx e1]
      unfold CK_ask
      rw [zgt_e, hs0]
      by_cases o1 : y < nI (stp σ)
      · rw [if_pos o1]
      · rw [if_neg o1, if_pos (show (9999 : Int32) < y from oy.resolve_left o1)]
    · show M_ask (refC σ 3) x y z = _
      unfold M_ask
      rw [mout, e2]
      cases sx
      · rw [bf]; rfl
      · rw [bt, show (196 : Int32) = nI 196 from rfl, zrd_e (by omega) (by omega), r196, show (9999 : Int32) = nI 9999 from rfl, ey, bf]; rfl
  · have hst9 := hS0.2
    rcases isIn_c z (a := 1) (b := 99) (by omega) (by omega) with ⟨ez, oz⟩ | ⟨m, h3, h4, rfl, ez⟩
    · obtain ⟨sx, e1, e2⟩ : ∃ sx, CK_isOutlet σ x = some sx ∧ M_isOutlet σ x = some sx := by
        rcases isOutlet_c hB.1.1 hB.1.2.1 hK x with ⟨e1, e2⟩ | ⟨_, _, _, e1, e2⟩
        · exact ⟨false, e1, e2⟩
        · exact ⟨true, e1, e2⟩
      refine acts_no (k := 3) h (by omega) ?_ ?_
      · rw [← no36 sx e1]
        unfold CK_ask
        rw [zgt_e, hs0, if_neg (nI_nlt h1 (by omega)), show (9999 : Int32) = nI 9999 from rfl, if_neg (nI_nlt h2 (by omega))]
        by_cases o1 : z < nI 1
        · rw [if_pos (show z < 1 from o1)]
        · rw [if_neg (show ¬ z < 1 from o1), if_pos (show (99 : Int32) < z from oz.resolve_left o1)]
      · show M_ask (refC σ 3) x (nI a) z = _
        unfold M_ask
        rw [mout, e2]
        cases sx
        · rw [bf]; rfl
        · rw [bt, show (196 : Int32) = nI 196 from rfl, zrd_e (by omega) (by omega), r196, show (9999 : Int32) = nI 9999 from rfl, ey, bt, show (1 : Int32) = nI 1 from rfl, show (99 : Int32) = nI 99 from rfl, ez, bf]; rfl
    · have go : CK_ask n σ x (nI a) (nI m) = CK_ask_j37 n σ x (nI a) (nI m) 1 := by
        unfold CK_ask
        rw [zgt_e, hs0, if_neg (nI_nlt h1 (by omega)), show (9999 : Int32) = nI 9999 from rfl, if_neg (nI_nlt h2 (by omega)), if_neg (show ¬ nI m < (1 : Int32) from nI_nlt (b := 1) h3 (by omega)), show (99 : Int32) = nI 99 from rfl, if_neg (nI_nlt h4 (by omega))]
      rcases isOutlet_c hB.1.1 hB.1.2.1 hK x with ⟨e1, e2⟩ | ⟨o, ho, rfl, e1, e2⟩
      · refine acts_no (k := 3) h (by omega) ?_ ?_
        · rw [go]
          unfold CK_ask_j37
          rw [e1, bf]; rfl
        · show M_ask (refC σ 3) x (nI a) (nI m) = _
          unfold M_ask
          rw [mout, e2, bf]; rfl
      · rcases Nat.lt_or_ge (nC σ) 16 with hc | hc
        · exact ask_yes h ho h1 h2 h3 h4 hc
        · have hc' : nC σ = 16 := by omega
          refine acts_no (k := 3) h (by omega) ?_ ?_
          · rw [go]
            unfold CK_ask_j37
            rw [e1, bt, if_neg (show ¬ (1 : Int32) = 0 by decide), zgt_e, hc0, hc', if_neg (show ¬ nI 16 < 16 by decide)]; rfl
          · show M_ask (refC σ 3) (nI o) (nI a) (nI m) = _
            unfold M_ask
            rw [mout, e2, bt, show (196 : Int32) = nI 196 from rfl, zrd_e (by omega) (by omega), r196, show (9999 : Int32) = nI 9999 from rfl, ey, bt, show (1 : Int32) = nI 1 from rfl, show (99 : Int32) = nI 99 from rfl, ez, bt, show (199 : Int32) = nI 199 from rfl, zrd_e (by omega) (by omega), r199, hc', if_pos (show nI 16 = 16 from rfl)]; rfl
