/-! reading: an outlet, an order -/
theorem Mf.j82 {ν : Sg} (h : Mf ν) (x : Int32) : M_readsOutlet_j82 ν x = some ν := by
  unfold M_readsOutlet_j82
  rw [h.after, obs]
  dsimp only
  rw [zlt_e, h.well, bf]
def ro2 (r41 : Sg) : Option Sg := (M_name r41).bind fun r45 => zgt r45 171 8 fun v54 => (M_among r45 181 48 v54).bind fun r57 => zlt r57 fun v60 => (M_goesWell r45).bind fun r62 => if (zb r62) = 0 then M_readsOutlet_j82 r45 v60 else (if v60 = (-1) then (zgt r45 171 34 fun v76 => (M_faults r45 3 v76).bind fun r79 => M_readsOutlet_j82 r79 v60) else M_readsOutlet_j82 r45 v60)
theorem readsOutlet_e (σ : Sg) : M_readsOutlet_j18 σ = (M_goesWell σ).bind fun r19 => if (zb r19) = 0 then some σ else zgt σ 171 9 fun v32 => (M_freshName σ 182 60 v32).bind fun r35 => (M_must r35 14).bind fun r41 => ro2 r41 := rfl
theorem Mf.e_ro2 {ν : Sg} {P : Nat} (h : Mf ν) (h8 : ν 171 8 = nI P) (hP : P ≤ 8) : ro2 ν = some ν := by
  unfold ro2
  rw [h.name, obs, zgt_e, h8, h.among 181 48 P (by omega), obs, zlt_e, h.well, bf, h.j82]
theorem stm_outlet {τ ν : Sg} {q : Nat} {B : Nat → Nat} {L a P O T C : Nat} (hq : q = 3 ∨ q = 29) (h : Sta τ ν q B L a 13) (hD : DR τ ν q P O T C) (hO : O < 10) :
    SR q B L a τ ν (Reader_readOutlet τ) ((M_readsOutlet_j18 ν).bind fun r => M_endsWell r) := by
  obtain ⟨τ1, a1, a2, a3⟩ := h.word
  have a1' : Reader_readWord τ 14 = some (true, τ1) := a1
  have hwe := h.we
  obtain ⟨⟨⟨hp1, hp2, hp3⟩, ⟨ho1, ho2, _⟩, ht, hcc⟩, hv, hr⟩ := hD
  obtain ⟨r1, r2, r3, r4, n1, n2⟩ := hr
  have t5 : τ1 2 5 = nI (q + 1) := by rw [a2.2 5 (by omega)]; exact h.2.2.2.2.2.2.1
  have tq : τ1 q = τ q := a2.1 q (by omega)
  have hwell := m_well a3.2
  obtain ⟨r, τ2, nw, τ3, ν3, b1, b2, b3, b4, b5, f1, f2, f3, f4, f5, f6, b6⟩ := b_fresh (b := q + 13) (cap := 10) (w := 182) (n := 60) (i := O) (P := P) (O := O) a3 hq t5 (by rw [tq]; exact hp1) hp3 (by rw [tq]; exact ho1) (by omega) hp2 ho2 (n1.rows (fun p _ => by rw [a2.1 _ (by omega)]) (fun _ _ => rfl)) (n2.rows (fun p _ => by rw [a2.1 _ (by omega)]) (fun _ _ => rfl)) (Or.inr ⟨rfl, rfl, rfl, rfl, rfl, hO⟩)
  have t35 : τ3 2 5 = nI (q + 1) := by rw [f3 5 (by omega)]; exact t5
  have n38 : ν3 171 8 = nI P := by rw [f5 8 (by omega)]; exact hp2
  have n39 : ν3 171 9 = nI O := by rw [f5 9 (by omega)]; exact ho2
  have cw3 : CW q τ τ3 := a2.w.trans ⟨fun b x y => f1 b x (by omega), f3, fun x => by rw [f1 q x (by omega)]⟩
  have mw3 : MW ν ν3 := ⟨fun b x y => f4 b x (by omega), fun k hk => f5 k (by omega)⟩
  have t25 : τ2 2 5 = nI (q + 1) := by rw [b2.2 5 (by omega)]; exact t5
  have head : Reader_readOutlet τ = if τ3 2 6 = 0 then ((Reader_readWord τ3 15).bind fun r59 => if (zb r59.1) = 0 then some (false, r59.2) else (zmr2 3 29 (r59.2 2 5) fun q68 => zmr2 3 29 (r59.2 2 5) fun q76 => (Reader_readName r59.2).bind fun r80 => (Works_poolOf r80.2 q76 r80.1).bind fun r83 => zwr r80.2 (q68 + 14) 10 (nI O) r83 fun σ86 => zmr2 3 29 (σ86 2 5) fun q89 => zrd σ86 (q89 + 14) 10 (nI O) fun v96 => if v96 = (-1) then Reader_readOutlet_j106 σ86 (nI O) 0 else Reader_readOutlet_j106 σ86 (nI O) 1)) else some (false, τ3) := by
    unfold Reader_readOutlet
    rw [h.2.2.2.2.2.2.1, zmr2_e rfl hq, zgt_e, ho1, a1', obs]
    dsimp only
    rw [if_neg (show ¬ zb true = 0 by decide), t5, zmr2_e rfl hq, b1, obs]
    dsimp only
    rw [zwr_e (by omega) (by omega), zup_ne (show (2 : Nat) ≠ q + 13 by omega), t25, zmr2_e rfl hq, zrd_e (by omega) (by omega), zup_hit, b3, obs, b4, obs, zgt_e]
  have mh : M_readsOutlet_j18 ν = (M_must ν3 14).bind fun r41 => ro2 r41 := by
    rw [readsOutlet_e, hwell, bt, zgt_e, ho2, b5, obs]
  rw [head, mh]
  rcases b6 with ⟨a', e1, hL, fn, g1, g2⟩ | hF
  · rw [if_pos hL.1.c60]
    obtain ⟨b, τ4, ν4, c1, c2, c3, c4, c5⟩ := b_word (x := 14) hL (by omega)
    have c1' : Reader_readWord τ3 15 = some (b, τ4) := c1
    have c2' : M_must ν3 14 = some ν4 := c2
    have t45 : τ4 2 5 = nI (q + 1) := by rw [c3.2 5 (by omega)]; exact t35
    have n48 : ν4 171 8 = nI P := by rw [c4.2 8 (by omega)]; exact n38
    rw [c1', obs, c2', obs]
    dsimp only
    rcases c5 with ⟨rfl, a4, e4, hL4⟩ | ⟨rfl, hF⟩
    · rw [if_neg (show ¬ zb true = 0 by decide), t45, zmr2_e rfl hq, zmr2_e rfl hq]
      obtain ⟨rn, τ5, ν5, d1, d2, d3, d4, d5⟩ := b_name hL4
      have t5q : τ5 q = τ q := by rw [d3.1 q (by omega), c3.1 q (by omega), f1 q (by omega) (by omega), tq]
      have t55 : τ5 2 5 = nI (q + 1) := by rw [d3.2 5 (by omega)]; exact t45
      have n58 : ν5 171 8 = nI P := by rw [d4.2 8 (by omega)]; exact n48
      have po := c_poolOf (τ := τ5) (q := q) (P := P) (by rw [t5q]; exact hp1) hp3 rn
      have hz6 : ∀ x : Int32, zup τ5 (q + 14) O x 2 = τ5 2 := fun x => zup_ne (by omega)
      rw [d1, obs]
      dsimp only
      rw [po, obs, zwr_e (by omega) (by omega), hz6, t55, zmr2_e rfl hq, zrd_e (by omega) (by omega), zup_hit]
      generalize hfi : fnd (fun i => decide (τ5 (q + 1) i = rn)) P = fi
      have cw5 : CW q τ (zup τ5 (q + 14) O fi) := ((cw3.trans c3.w).trans d3.w).trans (CW.up hq (by omega) (by omega))
      have mw5 : MW ν ν5 := (mw3.trans c4.w).trans d4.w
      have e1row : τ5 (q + 1) = τ (q + 1) := by rw [d3.1 _ (by omega), c3.1 _ (by omega), f1 _ (by omega) (by omega), a2.1 _ (by omega)]
      rcases d5 with ⟨s, e, e5, rfl, d6, d7, d8⟩ | hF
      · have N1 : Name2 τ5 ν5 181 (q + 1) P := n1.rows (fun p _ => by rw [e1row]) (fun j _ => by rw [d4.1 181 (by omega), c4.1 181 (by omega), f4 181 (by omega) (by omega)])
        have am := m_among (n := 48) d7 N1 (by omega) (by omega) (by omega)
        rw [hfi] at am
        have u6 : zup τ5 (q + 14) O fi 2 6 = 0 := by rw [hz6]; exact d8.1.c60
        have u4 : zup τ5 (q + 14) O fi 2 4 = nI s := by rw [hz6]; exact d6
        have m2 : ro2 ν4 = if fi = (-1) then M_readsOutlet_j82 (zup (zup ν5 171 35 3) 171 36 (nI s)) fi else M_readsOutlet_j82 ν5 fi := by
          unfold ro2
          rw [d2, obs, zgt_e, n58, am, obs, zlt_e, m_well d7.1, bt, zgt_e, d7.2.1, m_fault d7.1, obs]
        rw [m2]
        rcases fnd_lt (fun i => decide (τ5 (q + 1) i = nI (nmN (gl B s e)))) P with ⟨x1, _⟩ | ⟨l, l1, l2, _⟩
        · rw [hfi] at x1
          subst x1
          rw [if_pos rfl, if_pos rfl]
          have hF : Fx (zup (zup (zup τ5 (q + 14) O (-1)) 2 6 (nI 3)) 2 7 (nI s)) (zup (zup ν5 171 35 3) 171 36 (nI s)) := ⟨3, s, by omega, by rw [zup_miss (by omega), zup_hit], zup_hit, f35, f36⟩
          rw [hF.mf.j82, obs]
          unfold Reader_readOutlet_j106
          rw [c_askYes u6 u4, obs, zgt_e, if_neg hF.c6]
          exact SR.bad rfl hF.mf.ends (cw5.trans (c_failF _ _).w) (mw5.trans (m_faultF _ _).w) hF
        · rw [hfi] at l2
          have ne1 : ¬ fi = -1 := fun z => by
            rw [l2] at z
            have := congrArg Int32.toInt z
            rw [nI_toInt (by omega), show (-1 : Int32).toInt = -1 by decide] at this
            omega
          rw [if_neg ne1, if_neg ne1]
          unfold Reader_readOutlet_j106
          rw [c_askNo u6 1 (by decide), obs, zgt_e, if_pos u6]
          generalize hτ6 : zup τ5 (q + 14) O fi = τ6 at *
          have hL6 : Lx τ6 ν5 B L e := by
            have := d8.up (b := q + 14) (i := O) (v := fi) (c := 177) (j := 0) (w := ν5 177 0) (by omega) (by omega)
            rw [zup_same rfl, hτ6] at this
            exact this
          obtain ⟨b7, τ7, ν7, i1, i2, i3, i4, i5⟩ := b_word (x := 15) hL6 (by omega)
          have i1' : Reader_readWord τ6 16 = some (b7, τ7) := i1
          have i2' : M_must ν5 15 = some ν7 := i2
          rw [i1', obs]
          dsimp only
          rcases i5 with ⟨rfl, a7, e7, hL7⟩ | ⟨rfl, hF⟩
          · obtain ⟨rr, τ8, rr', ν8, j1, j2, j3, j4, j5⟩ := b_num (lo := 1) (hi := 99) hL7 (by omega) (by omega)
            have j1' : Reader_readNumber τ7 1 99 = some (rr, τ8) := j1
            have j2' : M_number ν7 1 99 = some (rr', ν8) := j2
            have t75 : τ7 2 5 = nI (q + 1) := by rw [i3.2 5 (by omega), ← hτ6, hz6]; exact t55
            have af : M_after ν5 15 1 99 = some (rr', ν8) := by
              unfold M_after
              rw [i2', obs, j2', obs]
            have cw8 : CW q τ (zup τ8 (q + 15) O rr) := ((cw5.trans i3.w).trans j3.w).trans (CW.up hq (by omega) (by omega))
            have mw8 : MW ν ν8 := (mw5.trans i4.w).trans j4.w
            rw [if_neg (show ¬ zb true = 0 by decide), t75, zmr2_e rfl hq, j1', obs]
            dsimp only
            rw [zwr_e (by omega) (by omega), zgt_e, zup_ne (show (2 : Nat) ≠ q + 15 by omega)]
            unfold M_readsOutlet_j82
            rw [af, obs]
            dsimp only
            rw [zlt_e]
            rcases j5 with ⟨v, v1, v2, rfl, rfl, a8, e8, hL8⟩ | hF
            · have n89 : ν8 171 9 = nI O := by rw [j4.2 9 (by omega), i4.2 9 (by omega), d4.2 9 (by omega), c4.2 9 (by omega)]; exact n39
              rw [if_pos hL8.1.c60, m_well hL8.2, bt, zgt_e, n89, show (2 : Int32) = nI 2 from rfl, nI_mul, zwr_e (by omega) (by omega), zgt_e, zup_ne (by omega), n89, nI_mul, show nI (2 * O) + 1 = nI (2 * O + 1) from nI_add _ 1, zwr_e (by omega) (by omega), zgt_e, zup_ne (by omega), zup_ne (by omega), n89, zpt_e, show nI O + 1 = nI (O + 1) from nI_add _ 1, obs]
              generalize hν9 : zup (zup (zup ν8 178 (2 * O) fi) 178 (2 * O + 1) (nI v)) 171 9 (nI (O + 1)) = ν9
              generalize hτ9 : zup τ8 (q + 15) O (nI v) = τ9
              have hL9 : Lx τ9 ν9 B L a8 := by
                have y1 := hL8.up (b := q + 15) (i := O) (v := nI v) (c := 178) (j := 2 * O) (w := fi) (by omega) (by omega)
                have y2 := y1.up (b := q + 15) (i := O) (v := nI v) (c := 178) (j := 2 * O + 1) (w := nI v) (by omega) (by omega)
                have y3 := y2.up (b := q + 15) (i := O) (v := nI v) (c := 171) (j := 9) (w := nI (O + 1)) (by omega) (by omega)
                rw [zup_zup, zup_zup, hτ9, hν9] at y3
                exact y3
              have mw9 : MW ν ν9 := by rw [← hν9]; exact ((mw8.trans (MW.up (by omega) (by omega))).trans (MW.up (by omega) (by omega))).trans (MW.up1 (by omega))
              have cw9 : CW q τ τ9 := by rw [← hτ9]; exact cw8
              have hse := d7.2.2.1
              refine stm_end (a := a) (a1 := a8) hq cw9 mw9 hL9 (by omega) (fun τ => zmr2 3 29 (τ 2 5) fun q162 => zgt τ q162 7 fun v166 => zpt τ q162 7 (v166 + 1) fun σ171 => some (true, σ171)) (fun τx νx cx mx => ?_)
              have tx5 : τx 2 5 = nI (q + 1) := by rw [cx.2 5 (by omega), ← hτ9, zup_ne (by omega), j3.2 5 (by omega)]; exact t75
              have rowE : ∀ b, b ≠ 2 → b ≠ q + 13 → b ≠ q + 14 → b ≠ q + 15 → τx b = τ b := fun b w1 w2 w3 w4 => by rw [cx.1 b w1, ← hτ9, zup_ne w4, j3.1 b w1, i3.1 b w1, ← hτ6, zup_ne w3, d3.1 b w1, c3.1 b w1, f1 b w1 w2, a2.1 b w1]
              have r13 : τx (q + 13) = τ3 (q + 13) := by rw [cx.1 _ (by omega), ← hτ9, zup_ne (by omega), j3.1 _ (by omega), i3.1 _ (by omega), ← hτ6, zup_ne (by omega), d3.1 _ (by omega), c3.1 _ (by omega)]
              have r14 : ∀ o, o ≠ O → τx (q + 14) o = τ (q + 14) o := fun o w => by rw [cx.1 _ (by omega), ← hτ9, zup_ne (by omega), j3.1 _ (by omega), i3.1 _ (by omega), ← hτ6, zup_miss w, d3.1 _ (by omega), c3.1 _ (by omega), f1 _ (by omega) (by omega), a2.1 _ (by omega)]
              have r14O : τx (q + 14) O = nI l := by rw [cx.1 _ (by omega), ← hτ9, zup_ne (by omega), j3.1 _ (by omega), i3.1 _ (by omega), ← hτ6, zup_hit, l2]
              have r15 : ∀ o, o ≠ O → τx (q + 15) o = τ (q + 15) o := fun o w => by rw [cx.1 _ (by omega), ← hτ9, zup_miss w, j3.1 _ (by omega), i3.1 _ (by omega), ← hτ6, zup_ne (by omega), d3.1 _ (by omega), c3.1 _ (by omega), f1 _ (by omega) (by omega), a2.1 _ (by omega)]
              have r15O : τx (q + 15) O = nI v := by rw [cx.1 _ (by omega), ← hτ9, zup_hit]
              have nE : ∀ b, b ≠ 171 → b ≠ 178 → b ≠ 182 → νx b = ν b := fun b w1 w2 w3 => by rw [mx.1 b w1, ← hν9, zup_ne w1, zup_ne w2, zup_ne w2, j4.1 b w1, i4.1 b w1, d4.1 b w1, c4.1 b w1, f4 b w1 w3]
              have n1E : ∀ k, k < 33 → k ≠ 9 → νx 171 k = ν 171 k := fun k w1 w2 => by rw [mx.2 k (by omega), ← hν9, zup_miss w2, zup_ne (by omega), zup_ne (by omega), j4.2 k (by omega), i4.2 k (by omega), d4.2 k (by omega), c4.2 k (by omega), f5 k (by omega)]
              have n9 : νx 171 9 = nI (O + 1) := by rw [mx.2 9 (by omega), ← hν9, zup_hit]
              have n178 : ∀ i, i ≠ 2 * O → i ≠ 2 * O + 1 → νx 178 i = ν 178 i := fun i w1 w2 => by rw [mx.1 178 (by omega), ← hν9, zup_ne (by omega), zup_miss w2, zup_miss w1, j4.1 178 (by omega), i4.1 178 (by omega), d4.1 178 (by omega), c4.1 178 (by omega), f4 178 (by omega) (by omega)]
              have n178a : νx 178 (2 * O) = nI l := by rw [mx.1 178 (by omega), ← hν9, zup_ne (by omega), zup_miss (by omega), zup_hit, l2]
              have n178b : νx 178 (2 * O + 1) = nI v := by rw [mx.1 178 (by omega), ← hν9, zup_ne (by omega), zup_hit]
              have n182 : νx 182 = ν3 182 := by rw [mx.1 182 (by omega), ← hν9, zup_ne (by omega), zup_ne (by omega), zup_ne (by omega), j4.1 182 (by omega), i4.1 182 (by omega), d4.1 182 (by omega), c4.1 182 (by omega)]
              have txq : τx q = τ q := rowE q (by omega) (by omega) (by omega) (by omega)
              refine ⟨zup τx q 7 (nI (O + 1)), ?_, CW.up hq (by omega) (by omega), fun j => by rw [zup_ne (by omega)], P, O + 1, T, C, ?_⟩
              · rw [tx5, zmr2_e rfl hq, zgt_e, txq, ho1, zpt_e, show nI O + 1 = nI (O + 1) from nI_add _ 1]
              · have zr : ∀ b, b ≠ q → zup τx q 7 (nI (O + 1)) b = τx b := fun b w => zup_ne w
                have keep : DRr (zup τx q 7 (nI (O + 1))) νx q P O T C := by
                  refine DRr.keep (τ := τ) (ν := ν) ⟨r1, r2, r3, r4, n1, n2⟩ ⟨fun p hp => ⟨?_, fun j hj => ?_⟩, fun o ho => ⟨?_, ?_, ?_⟩, fun k _ => ⟨?_, ?_, ?_⟩, fun t _ => ⟨?_, ?_, fun i _ => ?_⟩, fun i _ => by rw [nE _ (by omega) (by omega) (by omega)], fun i hi => n178 i (by omega) (by omega), fun i _ => by rw [nE _ (by omega) (by omega) (by omega)], fun i _ => by rw [nE _ (by omega) (by omega) (by omega)], fun i _ => by rw [nE _ (by omega) (by omega) (by omega)], fun i hi => by rw [n182]; exact f6 i hi⟩
                  · rw [zr _ (by omega), rowE _ (by omega) (by omega) (by omega) (by omega)]
                  · rw [zr _ (by omega), rowE _ (by omega) (by omega) (by omega) (by omega)]
                  · rw [zr _ (by omega), r13, f2 o (by omega), a2.1 _ (by omega)]
                  · rw [zr _ (by omega)]; exact r14 o (by omega)
                  · rw [zr _ (by omega)]; exact r15 o (by omega)
                  · rw [zr _ (by omega), rowE _ (by omega) (by omega) (by omega) (by omega)]
                  · rw [zr _ (by omega), rowE _ (by omega) (by omega) (by omega) (by omega)]
                  · rw [zr _ (by omega), rowE _ (by omega) (by omega) (by omega) (by omega)]
                  · rw [zr _ (by omega), rowE _ (by omega) (by omega) (by omega) (by omega)]
                  · rw [zr _ (by omega), rowE _ (by omega) (by omega) (by omega) (by omega)]
                  · rw [zr _ (by omega), rowE _ (by omega) (by omega) (by omega) (by omega)]
                obtain ⟨k1, k2, k3, k4, k5, k6⟩ := keep
                refine ⟨⟨?_, ⟨zup_hit, n9, by omega⟩, ?_, ?_⟩, ?_, k1, fun o ho => ?_, fun k hk => ?_, k4, k5, fun o ho => ?_⟩
                · rw [zup_miss (by omega), txq, n1E 8 (by omega) (by omega)]; exact ⟨hp1, hp2, hp3⟩
                · rw [zr _ (by omega), rowE _ (by omega) (by omega) (by omega) (by omega), n1E 10 (by omega) (by omega)]; exact ht
                · rw [zr _ (by omega), rowE _ (by omega) (by omega) (by omega) (by omega), n1E 11 (by omega) (by omega)]; exact hcc
                · rw [zup_miss (by omega), zup_miss (by omega), txq, n1E 12 (by omega) (by omega), n1E 13 (by omega) (by omega)]; exact hv
                · by_cases eo : o = O
                  · subst eo
                    exact ⟨l, v, l1, v1, v2, n178a, n178b, by rw [zr _ (by omega)]; exact r14O, by rw [zr _ (by omega)]; exact r15O⟩
                  · exact k2 o (by omega)
                · obtain ⟨o, f, m, w1, w2⟩ := k3 k hk
                  exact ⟨o, f, m, by omega, w2⟩
                · by_cases eo : o = O
                  · subst eo
                    exact ⟨fn, fun k hk => by rw [n182]; exact g1 k hk, by rw [zr _ (by omega), r13]; exact g2⟩
                  · exact k6 o (by omega)
            · rw [if_neg hF.c6, hF.mf.well, bf, obs]
              have hF' : Fx (zup τ8 (q + 15) O rr) ν8 := hF.keep ⟨by rw [zup_ne (by omega)], by rw [zup_ne (by omega)]⟩ ⟨rfl, rfl⟩
              exact SR.bad rfl hF.mf.ends cw8 mw8 hF'
          · have af : M_after ν5 15 1 99 = some (0, ν7) := by
              unfold M_after
              rw [i2', obs, hF.mf.number, obs]
            rw [if_pos (show zb false = 0 from rfl)]
            unfold M_readsOutlet_j82
            rw [af, obs]
            dsimp only
            rw [zlt_e, hF.mf.well, bf, obs]
            exact SR.bad rfl hF.mf.ends (cw5.trans i3.w) (mw5.trans i4.w) hF
      · have hF' : Fx (zup τ5 (q + 14) O fi) ν5 := hF.keep ⟨by rw [hz6], by rw [hz6]⟩ ⟨rfl, rfl⟩
        have m2 : ro2 ν4 = some ν5 := by
          unfold ro2
          rw [d2, obs, zgt_e, n58, hF.mf.among 181 48 P (by omega), obs, zlt_e, hF.mf.well, bf, hF.mf.j82]
        have cj : ∀ s : Int32, Reader_readOutlet_j106 (zup τ5 (q + 14) O fi) (nI O) s = some (false, zup τ5 (q + 14) O fi) := fun s => by
          unfold Reader_readOutlet_j106
          rw [c_askF hF'.c6, obs, zgt_e, if_neg hF'.c6]
        rw [m2, obs, cj, cj, ite_self]
        exact SR.bad rfl hF.mf.ends cw5 mw5 hF'
    · rw [if_pos (show zb false = 0 from rfl), hF.mf.e_ro2 n48 hp3, obs]
      exact SR.bad rfl hF.mf.ends (cw3.trans c3.w) (mw3.trans c4.w) hF
  · rw [if_neg hF.c6, hF.mf.must, obs, hF.mf.e_ro2 n38 hp3, obs]
    exact SR.bad rfl hF.mf.ends cw3 mw3 hF
