/-! reading: an outlet by its name; an order -/
theorem nI_m1ne {l : Nat} (h : l < 1000) : ¬ nI l = (-1 : Int32) := fun z => by
  have := congrArg Int32.toInt z
  rw [nI_toInt (by omega), show (-1 : Int32).toInt = -1 by decide] at this
  omega
theorem b_outNamed {τ ν : Sg} {B : Nat → Nat} {L a q O : Nat} (h : Lx τ ν B L a) (hq : q = 3 ∨ q = 29) (hO1 : τ q 7 = nI O) (hO2 : ν 171 9 = nI O) (hO : O ≤ 10) (hN : Name2 τ ν 182 (q + 13) O) :
    ∃ r τ1 fi ν1, Reader_readName τ = some (r, τ1) ∧ Works_outletOf τ1 q r = some fi ∧ CF τ τ1 ∧ MF ν ν1 ∧
      ((∃ l, l < O ∧ fi = nI l ∧ M_outletNamed ν = some (nI l, ν1) ∧ ∃ s e, a ≤ s ∧ s < e ∧ τ1 2 4 = nI s ∧ ν1 171 34 = nI s ∧ Lx τ1 ν1 B L e) ∨
       (fi = -1 ∧ M_outletNamed ν = some (-1, ν1) ∧ τ1 2 6 = 0 ∧ ∃ s, τ1 2 4 = nI s ∧ ν1 171 35 = nI 3 ∧ ν1 171 36 = nI s) ∨ (Fx τ1 ν1 ∧ M_outletNamed ν = some (-1, ν1))) := by
  obtain ⟨r, τ1, ν1, d1, d2, d3, d4, d5⟩ := b_name h
  have t1q : τ1 q = τ q := d3.1 q (by omega)
  have t13 : τ1 (q + 13) = τ (q + 13) := d3.1 _ (by omega)
  have n9 : ν1 171 9 = nI O := by rw [d4.2 9 (by omega)]; exact hO2
  have po := c_outletOf (τ := τ1) (q := q) (O := O) (by rw [t1q]; exact hO1) hO r
  rcases d5 with ⟨s, e, e5, rfl, d6, d7, d8⟩ | hF
  · have N1 : Name2 τ1 ν1 182 (q + 13) O := hN.rows (fun p _ => by rw [t13]) (fun j _ => by rw [d4.1 182 (by omega)])
    have am := m_among (n := 60) d7 N1 hO (by omega) (by omega)
    have hm : M_outletNamed ν = if fnd (fun i => decide (τ1 (q + 13) i = nI (nmN (gl B s e)))) O = -1 then some (fnd (fun i => decide (τ1 (q + 13) i = nI (nmN (gl B s e)))) O, zup (zup ν1 171 35 3) 171 36 (nI s)) else some (fnd (fun i => decide (τ1 (q + 13) i = nI (nmN (gl B s e)))) O, ν1) := by
      unfold M_outletNamed
      rw [d2, obs, zgt_e, n9, am, obs, zlt_e, m_well d7.1, bt, zgt_e, d7.2.1, m_fault d7.1, obs]
    rcases fnd_lt (fun i => decide (τ1 (q + 13) i = nI (nmN (gl B s e)))) O with ⟨x1, _⟩ | ⟨l, l1, l2, _⟩
    · rw [x1] at po hm
      rw [if_pos rfl] at hm
      exact ⟨_, τ1, -1, _, d1, po, d3, d4.trans (m_faultF _ _), Or.inr (Or.inl ⟨rfl, hm, d8.1.c60, s, d6, f35, f36⟩)⟩
    · rw [l2] at po hm
      rw [if_neg (nI_m1ne (by omega))] at hm
      exact ⟨_, τ1, nI l, ν1, d1, po, d3, d4, Or.inl ⟨l, l1, rfl, hm, s, e, e5, d7.2.2.1, d6, d7.2.1, d8⟩⟩
  · have hm : M_outletNamed ν = some (-1, ν1) := by
      unfold M_outletNamed
      rw [d2, obs, zgt_e, n9, hF.mf.among 182 60 O hO, obs, zlt_e, hF.mf.well, bf]
    exact ⟨r, τ1, _, ν1, d1, po, d3, d4, Or.inr (Or.inr ⟨hF, hm⟩)⟩
def ro3 (v30 : Int32) (ν : Sg) : Option Sg := (M_after ν 17 0 999).bind fun r38 => zlt r38.1 fun v41 => (M_after r38.2 18 1 99).bind fun r48 => zlt r48.1 fun v51 => (M_goesWell r48.2).bind fun r53 => if (zb r53) = 0 then some r48.2 else (zgt r48.2 171 11 fun v66 => zwr r48.2 180 48 (3 * v66) v30 fun σ71 => zgt σ71 171 11 fun v78 => zwr σ71 180 48 ((3 * v78) + 1) v41 fun σ85 => zgt σ85 171 11 fun v92 => zwr σ85 180 48 ((3 * v92) + 2) v51 fun σ99 => zgt σ99 171 11 fun v102 => zpt σ99 171 11 (v102 + 1) fun σ107 => some σ107)
theorem readsOrder_e (σ : Sg) : M_readsOrder_j18 σ = (M_goesWell σ).bind fun r19 => if (zb r19) = 0 then some σ else (M_outletNamed σ).bind fun r27 => zlt r27.1 fun v30 => ro3 v30 r27.2 := rfl
theorem Mf.e_ro3 {ν : Sg} (h : Mf ν) (x : Int32) : ro3 x ν = some ν := by
  unfold ro3
  rw [h.after, obs]
  dsimp only
  rw [zlt_e, h.after, obs]
  dsimp only
  rw [zlt_e, h.well, bf]
theorem stm_order {τ ν : Sg} {q : Nat} {B : Nat → Nat} {L a P O T C : Nat} (hq : q = 3 ∨ q = 29) (h : Sta τ ν q B L a 16) (hD : DR τ ν q P O T C) (hC : C < 16) :
    SR q B L a τ ν (Reader_readOrder τ) ((M_readsOrder_j18 ν).bind fun r => M_endsWell r) := by
  obtain ⟨τ1, a1, a2, a3⟩ := h.word
  have a1' : Reader_readWord τ 17 = some (true, τ1) := a1
  have hwe := h.we
  obtain ⟨⟨hp, ⟨ho1, ho2, ho3⟩, ht, ⟨hc1, hc2, _⟩⟩, hv, hr⟩ := hD
  obtain ⟨r1, r2, r3, r4, n1, n2⟩ := hr
  have t5 : τ1 2 5 = nI (q + 1) := by rw [a2.2 5 (by omega)]; exact h.2.2.2.2.2.2.1
  have tq : τ1 q = τ q := a2.1 q (by omega)
  obtain ⟨r, τ2, fi, ν2, b1, b2, b3, b4, b5⟩ := b_outNamed (q := q) (O := O) a3 hq (by rw [tq]; exact ho1) ho2 ho3 (n2.rows (fun p _ => by rw [a2.1 _ (by omega)]) (fun _ _ => rfl))
  have head : Reader_readOrder τ = if fi = (-1) then Reader_readOrder_j34 τ2 fi 0 else Reader_readOrder_j34 τ2 fi 1 := by
    unfold Reader_readOrder
    rw [a1', obs]
    dsimp only
    rw [if_neg (show ¬ zb true = 0 by decide), t5, zmr2_e rfl hq, b1, obs]
    dsimp only
    rw [b2, obs, zlt_e]
  have mh : ∀ x ν', M_outletNamed ν = some (x, ν') → M_readsOrder_j18 ν = ro3 x ν' := fun x ν' e => by
    rw [readsOrder_e, m_well a3.2, bt, e, obs, zlt_e]
  have cw2 : CW q τ τ2 := a2.w.trans b3.w
  rw [head]
  rcases b5 with ⟨l, l1, rfl, l3, s, e, e1, e2, e3, e4, hL⟩ | ⟨rfl, l3, u6, s, u4, g35, g36⟩ | ⟨hF, l3⟩
  · rw [if_neg (nI_m1ne (by omega)), mh _ _ l3]
    unfold Reader_readOrder_j34
    rw [c_askNo hL.1.c60 1 (by decide), obs, zgt_e, if_pos hL.1.c60]
    obtain ⟨b, τ3, ν3, c1, c2, c3, c4, c5⟩ := b_word (x := 17) hL (by omega)
    have c1' : Reader_readWord τ2 18 = some (b, τ3) := c1
    have c2' : M_must ν2 17 = some ν3 := c2
    have t25 : τ2 2 5 = nI (q + 1) := by rw [b3.2 5 (by omega)]; exact t5
    rw [c1', obs]
    dsimp only
    rcases c5 with ⟨rfl, a4, e5, hL3⟩ | ⟨rfl, hF⟩
    · rw [if_neg (show ¬ zb true = 0 by decide)]
      obtain ⟨r4', τ4, r4'', ν4, d1, d2, d3, d4, d5⟩ := b_num (lo := 0) (hi := 999) hL3 (by omega) (by omega)
      have d1' : Reader_readNumber τ3 0 999 = some (r4', τ4) := d1
      have d2' : M_number ν3 0 999 = some (r4'', ν4) := d2
      have af : M_after ν2 17 0 999 = some (r4'', ν4) := by
        unfold M_after
        rw [c2', obs, d2', obs]
      have cw4 : CW q τ τ4 := (cw2.trans c3.w).trans d3.w
      have mw4 : MW ν ν4 := (b4.w.trans c4.w).trans d4.w
      rw [d1', obs]
      dsimp only
      rw [zlt_e, zgt_e]
      rcases d5 with ⟨f, v1, v2, rfl, rfl, a5, e6, hL4⟩ | hF
      · rw [if_pos hL4.1.c60]
        obtain ⟨b', τ5, ν5, i1, i2, i3, i4, i5⟩ := b_word (x := 18) hL4 (by omega)
        have i1' : Reader_readWord τ4 19 = some (b', τ5) := i1
        have i2' : M_must ν4 18 = some ν5 := i2
        rw [i1', obs]
        dsimp only
        unfold ro3
        rw [af, obs]
        dsimp only
        rw [zlt_e]
        rcases i5 with ⟨rfl, a6, e7, hL5⟩ | ⟨rfl, hF⟩
        · rw [if_neg (show ¬ zb true = 0 by decide)]
          obtain ⟨r6, τ6, r6', ν6, j1, j2, j3, j4, j5⟩ := b_num (lo := 1) (hi := 99) hL5 (by omega) (by omega)
          have j1' : Reader_readNumber τ5 1 99 = some (r6, τ6) := j1
          have j2' : M_number ν5 1 99 = some (r6', ν6) := j2
          have af2 : M_after ν4 18 1 99 = some (r6', ν6) := by
            unfold M_after
            rw [i2', obs, j2', obs]
          have cw6 : CW q τ τ6 := (cw4.trans i3.w).trans j3.w
          have mw6 : MW ν ν6 := (mw4.trans i4.w).trans j4.w
          rw [j1', obs]
          dsimp only
          rw [zlt_e, zgt_e, af2, obs]
          dsimp only
          rw [zlt_e]
          rcases j5 with ⟨m, m1, m2, rfl, rfl, a7, e8, hL6⟩ | hF
          · have n611 : ν6 171 11 = nI C := by rw [j4.2 11 (by omega), i4.2 11 (by omega), d4.2 11 (by omega), c4.2 11 (by omega), b4.2 11 (by omega)]; exact hc2
            rw [if_pos hL6.1.c60, m_well hL6.2, bt, zgt_e, n611, show (3 : Int32) = nI 3 from rfl, nI_mul, zwr_e (by omega) (by omega), zgt_e, zup_ne (by omega), n611, nI_mul, show nI (3 * C) + 1 = nI (3 * C + 1) from nI_add _ 1, zwr_e (by omega) (by omega), zgt_e, zup_ne (by omega), zup_ne (by omega), n611, nI_mul, show nI (3 * C) + 2 = nI (3 * C + 2) from nI_add _ 2, zwr_e (by omega) (by omega), zgt_e, zup_ne (by omega), zup_ne (by omega), zup_ne (by omega), n611, zpt_e, show nI C + 1 = nI (C + 1) from nI_add _ 1, obs]
            generalize hν7 : zup (zup (zup (zup ν6 180 (3 * C) (nI l)) 180 (3 * C + 1) (nI f)) 180 (3 * C + 2) (nI m)) 171 11 (nI (C + 1)) = ν7
            have hL7 : Lx τ6 ν7 B L a7 := by
              have y1 := hL6.up (b := 3) (i := 0) (v := τ6 3 0) (c := 180) (j := 3 * C) (w := nI l) (by omega) (by omega)
              rw [zup_same rfl] at y1
              have y2 := y1.up (b := 3) (i := 0) (v := τ6 3 0) (c := 180) (j := 3 * C + 1) (w := nI f) (by omega) (by omega)
              rw [zup_same rfl] at y2
              have y3 := y2.up (b := 3) (i := 0) (v := τ6 3 0) (c := 180) (j := 3 * C + 2) (w := nI m) (by omega) (by omega)
              rw [zup_same rfl] at y3
              have y4 := y3.up (b := 3) (i := 0) (v := τ6 3 0) (c := 171) (j := 11) (w := nI (C + 1)) (by omega) (by omega)
              rw [zup_same rfl, hν7] at y4
              exact y4
            have mw7 : MW ν ν7 := by rw [← hν7]; exact (((mw6.trans (MW.up (by omega) (by omega))).trans (MW.up (by omega) (by omega))).trans (MW.up (by omega) (by omega))).trans (MW.up1 (by omega))
            refine stm_end (a := a) (a1 := a7) hq cw6 mw7 hL7 (by omega) (fun τ => zmr2 3 29 (τ 2 5) fun q109 => (Orders_add τ (q109 + 16) (nI l) (nI f) (nI m)).bind fun r118 => some (true, r118.2)) (fun τx νx cx mx => ?_)
            have tx5 : τx 2 5 = nI (q + 1) := by rw [cx.2 5 (by omega), j3.2 5 (by omega), i3.2 5 (by omega), d3.2 5 (by omega), c3.2 5 (by omega)]; exact t25
            have rowE : ∀ b, b ≠ 2 → τx b = τ b := fun b w => by rw [cx.1 b w, j3.1 b w, i3.1 b w, d3.1 b w, c3.1 b w, b3.1 b w, a2.1 b w]
            have nE : ∀ b, b ≠ 171 → b ≠ 180 → νx b = ν b := fun b w1 w2 => by rw [mx.1 b w1, ← hν7, zup_ne w1, zup_ne w2, zup_ne w2, zup_ne w2, j4.1 b w1, i4.1 b w1, d4.1 b w1, c4.1 b w1, b4.1 b w1]
            have n1E : ∀ k, k < 33 → k ≠ 11 → νx 171 k = ν 171 k := fun k w1 w2 => by rw [mx.2 k (by omega), ← hν7, zup_miss w2, zup_ne (by omega), zup_ne (by omega), zup_ne (by omega), j4.2 k (by omega), i4.2 k (by omega), d4.2 k (by omega), c4.2 k (by omega), b4.2 k (by omega)]
            have n11 : νx 171 11 = nI (C + 1) := by rw [mx.2 11 (by omega), ← hν7, zup_hit]
            have n180 : ∀ i, i < 3 * C → νx 180 i = ν 180 i := fun i w => by rw [mx.1 180 (by omega), ← hν7, zup_ne (by omega), zup_miss (by omega), zup_miss (by omega), zup_miss (by omega), j4.1 180 (by omega), i4.1 180 (by omega), d4.1 180 (by omega), c4.1 180 (by omega), b4.1 180 (by omega)]
            have n180a : νx 180 (3 * C) = nI l := by rw [mx.1 180 (by omega), ← hν7, zup_ne (by omega), zup_miss (by omega), zup_miss (by omega), zup_hit]
            have n180b : νx 180 (3 * C + 1) = nI f := by rw [mx.1 180 (by omega), ← hν7, zup_ne (by omega), zup_miss (by omega), zup_hit]
            have n180c : νx 180 (3 * C + 2) = nI m := by rw [mx.1 180 (by omega), ← hν7, zup_ne (by omega), zup_hit]
            have c16 : τx (q + 16) 0 = nI C := by rw [rowE _ (by omega)]; exact hc1
            generalize hτy : zup (zup (zup (zup τx (q + 17) C (nI l)) (q + 18) C (nI f)) (q + 19) C (nI m)) (q + 16) 0 (nI (C + 1)) = τy
            have hadd : Orders_add τx (q + 16) (nI l) (nI f) (nI m) = some (nI C, τy) := by
              unfold Orders_add
              have w1 : q + 16 + 1 = q + 17 := by omega
              have w2 : q + 16 + 2 = q + 18 := by omega
              have w3 : q + 16 + 3 = q + 19 := by omega
              simp (disch := omega) only [zgt_e, zpt_e, zlt_e, zrd_e, zwr_e, zelr_e, znz_e, zcp_e, zlit, nI_add, nI_mul, nI_sub, nI_div, ↓irem_f, irem_e, Nat.zero_add, Nat.add_zero, obs, zb_t, zb_f, nI_eqt, nI_eqf, nI_let, nI_lef, nI_ltt, nI_ltf, nI_m1, nI_n1, ↓reduceIte, zup_ne, zup_miss, zup_hit, zbo_1, zbo_0, reduceCtorEq, sel_l, sel_r, Nat.reduceAdd, Nat.reduceSub, Nat.reduceMul, c16, w1, w2, w3, hτy]
              rw [Nat.add_sub_cancel]
            have yr : ∀ b, b ≠ q + 16 → b ≠ q + 17 → b ≠ q + 18 → b ≠ q + 19 → τy b = τx b := fun b w1 w2 w3 w4 => by rw [← hτy, zup_ne w1, zup_ne w4, zup_ne w3, zup_ne w2]
            have y16 : τy (q + 16) 0 = nI (C + 1) := by rw [← hτy, zup_hit]
            have y17 : ∀ k, τy (q + 17) k = if k = C then nI l else τx (q + 17) k := fun k => by
              rw [← hτy, zup_ne (by omega), zup_ne (by omega), zup_ne (by omega), zup_at]
              by_cases e : k = C
              · rw [if_pos ⟨rfl, e⟩, if_pos e]
              · rw [if_neg (fun z => e z.2), if_neg e]
            have y18 : ∀ k, τy (q + 18) k = if k = C then nI f else τx (q + 18) k := fun k => by
              rw [← hτy, zup_ne (by omega), zup_ne (by omega), zup_at, zup_ne (show q + 18 ≠ q + 17 by omega)]
              by_cases e : k = C
              · rw [if_pos ⟨rfl, e⟩, if_pos e]
              · rw [if_neg (fun z => e z.2), if_neg e]
            have y19 : ∀ k, τy (q + 19) k = if k = C then nI m else τx (q + 19) k := fun k => by
              rw [← hτy, zup_ne (by omega), zup_at, zup_ne (show q + 19 ≠ q + 18 by omega), zup_ne (show q + 19 ≠ q + 17 by omega)]
              by_cases e : k = C
              · rw [if_pos ⟨rfl, e⟩, if_pos e]
              · rw [if_neg (fun z => e z.2), if_neg e]
            refine ⟨τy, ?_, ?_, fun j => by rw [yr 2 (by omega) (by omega) (by omega) (by omega)], P, O, T, C + 1, ?_⟩
            · rw [tx5, zmr2_e rfl hq, hadd, obs]
            · rw [← hτy]; exact (((CW.up hq (by omega) (by omega)).trans (CW.up hq (by omega) (by omega))).trans (CW.up hq (by omega) (by omega))).trans (CW.up hq (by omega) (by omega))
            · have keep : DRr τy νx q P O T C := by
                refine DRr.keep (τ := τ) (ν := ν) ⟨r1, r2, r3, r4, n1, n2⟩ ⟨fun p hp => ⟨?_, fun j hj => ?_⟩, fun o ho => ⟨?_, ?_, ?_⟩, fun k hk => ⟨?_, ?_, ?_⟩, fun t _ => ⟨?_, ?_, fun i _ => ?_⟩, fun i _ => by rw [nE _ (by omega) (by omega)], fun i hi => by rw [nE _ (by omega) (by omega)], fun i _ => by rw [nE _ (by omega) (by omega)], n180, fun i _ => by rw [nE _ (by omega) (by omega)], fun i hi => by rw [nE _ (by omega) (by omega)]⟩
                · rw [yr _ (by omega) (by omega) (by omega) (by omega), rowE _ (by omega)]
                · rw [yr _ (by omega) (by omega) (by omega) (by omega), rowE _ (by omega)]
                · rw [yr _ (by omega) (by omega) (by omega) (by omega), rowE _ (by omega)]
                · rw [yr _ (by omega) (by omega) (by omega) (by omega), rowE _ (by omega)]
                · rw [yr _ (by omega) (by omega) (by omega) (by omega), rowE _ (by omega)]
                · rw [y17, if_neg (by omega), rowE _ (by omega)]
                · rw [y18, if_neg (by omega), rowE _ (by omega)]
                · rw [y19, if_neg (by omega), rowE _ (by omega)]
                · rw [yr _ (by omega) (by omega) (by omega) (by omega), rowE _ (by omega)]
                · rw [yr _ (by omega) (by omega) (by omega) (by omega), rowE _ (by omega)]
                · rw [yr _ (by omega) (by omega) (by omega) (by omega), rowE _ (by omega)]
              obtain ⟨k1, k2, k3, k4, k5, k6⟩ := keep
              refine ⟨⟨?_, ?_, ?_, ⟨y16, n11, by omega⟩⟩, ?_, k1, k2, fun k hk => ?_, k4, k5, k6⟩
              · rw [yr _ (by omega) (by omega) (by omega) (by omega), rowE _ (by omega), n1E 8 (by omega) (by omega)]; exact hp
              · rw [yr _ (by omega) (by omega) (by omega) (by omega), rowE _ (by omega), n1E 9 (by omega) (by omega)]; exact ⟨ho1, ho2, ho3⟩
              · rw [yr _ (by omega) (by omega) (by omega) (by omega), rowE _ (by omega), n1E 10 (by omega) (by omega)]; exact ht
              · rw [yr _ (by omega) (by omega) (by omega) (by omega), rowE _ (by omega), n1E 12 (by omega) (by omega), n1E 13 (by omega) (by omega)]; exact hv
              · by_cases eo : k = C
                · subst eo
                  exact ⟨l, f, m, l1, v2, m1, m2, n180a, n180b, n180c, by rw [y17, if_pos rfl], by rw [y18, if_pos rfl], by rw [y19, if_pos rfl]⟩
                · exact k3 k (by omega)
          · rw [if_neg hF.c6, hF.mf.well, bf, obs]
            exact SR.bad rfl hF.mf.ends cw6 mw6 hF
        · have af2 : M_after ν4 18 1 99 = some (0, ν5) := by
            unfold M_after
            rw [i2', obs, hF.mf.number, obs]
          rw [if_pos (show zb false = 0 from rfl), af2, obs]
          dsimp only
          rw [zlt_e, hF.mf.well, bf, obs]
          exact SR.bad rfl hF.mf.ends (cw4.trans i3.w) (mw4.trans i4.w) hF
      · have : ro3 (nI l) ν2 = some ν4 := by
          unfold ro3
          rw [af, obs]
          dsimp only
          rw [zlt_e, hF.mf.after, obs]
          dsimp only
          rw [zlt_e, hF.mf.well, bf]
        rw [if_neg hF.c6, this, obs]
        exact SR.bad rfl hF.mf.ends cw4 mw4 hF
    · have : ro3 (nI l) ν2 = some ν3 := by
        have af : M_after ν2 17 0 999 = some (0, ν3) := by
          unfold M_after
          rw [c2', obs, hF.mf.number, obs]
        unfold ro3
        rw [af, obs]
        dsimp only
        rw [zlt_e, hF.mf.after, obs]
        dsimp only
        rw [zlt_e, hF.mf.well, bf]
      rw [if_pos (show zb false = 0 from rfl), this, obs]
      exact SR.bad rfl hF.mf.ends (cw2.trans c3.w) (b4.w.trans c4.w) hF
  · have hF : Fx (zup (zup τ2 2 6 (nI 3)) 2 7 (nI s)) ν2 := ⟨3, s, by omega, by rw [zup_miss (by omega), zup_hit], zup_hit, g35, g36⟩
    rw [if_pos rfl, mh _ _ l3, hF.mf.e_ro3, obs]
    unfold Reader_readOrder_j34
    rw [c_askYes u6 u4, obs, zgt_e, if_neg hF.c6]
    exact SR.bad rfl hF.mf.ends (cw2.trans (c_failF _ _).w) b4.w hF
  · have cj : ∀ s : Int32, Reader_readOrder_j34 τ2 fi s = some (false, τ2) := fun s => by
      unfold Reader_readOrder_j34
      rw [c_askF hF.c6, obs, zgt_e, if_neg hF.c6]
    rw [mh _ _ l3, hF.mf.e_ro3, obs, cj, cj, ite_self]
    exact SR.bad rfl hF.mf.ends cw2 b4.w hF
