/-! reading: a pool whole -/
/-- too many of a kind -/
theorem stm_many {τ ν : Sg} {q : Nat} {B : Nat → Nat} {L a x : Nat} (h : Sta τ ν q B L a x) (k : Sg → Option Sg) (hk : ∀ ν', Mf ν' → k ν' = some ν') :
    SR q B L a τ ν (zgt τ 2 2 fun v60 => (Reader_fail τ 5 v60).bind fun r63 => some (r63.1, r63.2)) ((zgt ν 171 34 fun v12 => (M_faults ν 5 v12).bind fun r15 => k r15).bind fun r => M_endsWell r) := by
  obtain ⟨h1, h2, h3, h4, h5, h6, h7, h8⟩ := h
  have hF : Fx (zup (zup τ 2 6 5) 2 7 (nI a)) (zup (zup ν 171 35 5) 171 36 (nI a)) := ⟨5, a, by omega, by rw [zup_miss (by omega), zup_hit]; rfl, zup_hit, f35, f36⟩
  refine SR.bad (τ' := zup (zup τ 2 6 5) 2 7 (nI a)) (ν' := zup (zup ν 171 35 5) 171 36 (nI a)) ?_ ?_ (c_failF _ _).w (m_faultF _ _).w hF
  · rw [zgt_e, h1.2.2.2.2.1, c_fail, obs]
  · rw [zgt_e, h6, m_fault h5, obs, hk _ hF.mf, obs, hF.mf.ends]
theorem mid_e {τ : Sg} {q P : Nat} {x y : Int32} (hP : P < 8) (hq : q = 3 ∨ q = 29) (h5 : τ 2 5 = nI (q + 1)) (h4 : τ (q + 4) P = x) (h5' : τ (q + 5) P = y) {n : Nat} (h3 : τ q 3 = nI n) :
    (zmr2 3 29 (τ 2 5) fun q127 => zmr2 3 29 (τ 2 5) fun q135 => zrd τ (q135 + 4) 8 (nI P) fun v144 => zmr2 3 29 (τ 2 5) fun q146 => zrd τ (q146 + 5) 8 (nI P) fun v155 => zwr τ (q127 + 12) 8 (nI P) ((v144 + v155) / 2) fun σ159 => zmr2 3 29 (σ159 2 5) fun q161 => zgt σ159 q161 3 fun v165 => zpt σ159 q161 3 (v165 + 1) fun σ170 => some (true, σ170)) = some (true, zup (zup τ (q + 12) P ((x + y) / 2)) q 3 (nI (n + 1))) := by
  rw [h5, zmr2_e rfl hq, zmr2_e rfl hq, zrd_e (by omega) (by omega), zmr2_e rfl hq, zrd_e (by omega) (by omega), zwr_e (by omega) (by omega), zup_ne (by omega), h5, zmr2_e rfl hq, zgt_e, zup_ne (by omega), h3, zpt_e, show nI n + 1 = nI (n + 1) from nI_add _ 1, h4, h5']
theorem stm_pool {τ ν : Sg} {q : Nat} {B : Nat → Nat} {L a P O T C : Nat} (hq : q = 3 ∨ q = 29) (h : Sta τ ν q B L a 3) (hD : DR τ ν q P O T C) (hP : P < 8) :
    SR q B L a τ ν (Reader_readPool τ) ((M_readsPool_j18 ν).bind fun r => M_endsWell r) := by
  obtain ⟨τ1, a1, a2, a3⟩ := h.word
  have a1' : Reader_readWord τ 3 = some (true, τ1) := a1
  have hwe := h.we
  obtain ⟨⟨⟨hp1, hp2, _⟩, ⟨ho1, ho2, ho3⟩, ht, hcc⟩, hv, hr⟩ := hD
  obtain ⟨r1, r2, r3, r4, n1, n2⟩ := hr
  have t5 : τ1 2 5 = nI (q + 1) := by rw [a2.2 5 (by omega)]; exact h.2.2.2.2.2.2.1
  have tq : τ1 q = τ q := a2.1 q (by omega)
  have hwell := m_well a3.2
  obtain ⟨r, τ2, nw, τ3, ν3, b1, b2, b3, b4, b5, f1, f2, f3, f4, f5, f6, b6⟩ := b_fresh (b := q + 1) (cap := 8) (w := 181) (n := 48) (i := P) (P := P) (O := O) a3 hq t5 (by rw [tq]; exact hp1) (by omega) (by rw [tq]; exact ho1) ho3 hp2 ho2 (n1.rows (fun p _ => by rw [a2.1 _ (by omega)]) (fun _ _ => rfl)) (n2.rows (fun p _ => by rw [a2.1 _ (by omega)]) (fun _ _ => rfl)) (Or.inl ⟨rfl, rfl, rfl, rfl, rfl, hP⟩)
  have t35 : τ3 2 5 = nI (q + 1) := by rw [f3 5 (by omega)]; exact t5
  have n38 : ν3 171 8 = nI P := by rw [f5 8 (by omega)]; exact hp2
  have cw3 : CW q τ τ3 := a2.w.trans ⟨fun b x y => f1 b x (by omega), f3, fun x => by rw [f1 q x (by omega)]⟩
  have mw3 : MW ν ν3 := ⟨fun b x y => f4 b x (by omega), fun k hk => f5 k (by omega)⟩
  have t25 : τ2 2 5 = nI (q + 1) := by rw [b2.2 5 (by omega)]; exact t5
  have head : Reader_readPool τ = (zit (fun (s : (Sg × Int32)) => Reader_readPool_l51 s.1 (nI P) s.2) zFU (τ3, nI 0)).bind fun r => Reader_readPool_j108 r.1 (nI P) := by
    unfold Reader_readPool
    rw [h.2.2.2.2.2.2.1, zmr2_e rfl hq, zgt_e, hp1, a1', obs]
    dsimp only
    rw [if_neg (show ¬ zb true = 0 by decide), t5, zmr2_e rfl hq, b1, obs]
    dsimp only
    rw [zwr_e (by omega) (by omega), zup_ne (show (2 : Nat) ≠ q + 1 by omega), t25, zmr2_e rfl hq, zrd_e (by omega) (by omega), zup_hit, b3, obs, b4, obs, zlt_e]
    rfl
  have mh : M_readsPool_j18 ν = rcF (nI (9 * P)) 9 ν3 := by
    rw [readsPool_e, hwell, bt, zgt_e, hp2, b5, obs, zgt_e, n38, zlt_e, show (9 : Int32) = nI 9 from rfl, nI_mul]
  rw [head, mh]
  rcases b6 with ⟨a', e1, hL, fn, g1, g2⟩ | hF
  · obtain ⟨τe, xe, νe, x1, x2, x3, x4, x5⟩ := pool_run (B := B) (L := L) (τ0 := τ3) (ν0 := ν3) hq hP t35 n38 9 (Nat.le_refl _) zFU τ3 ν3 a' (by rw [zFU_e]; omega) hL ⟨fun _ _ _ => rfl, fun _ _ _ _ _ => rfl, fun _ _ => rfl, fun _ _ _ => rfl, fun _ _ => rfl, fun _ _ => rfl, fun i hi => by omega⟩
    have x1' : zit (fun (s : (Sg × Int32)) => Reader_readPool_l51 s.1 (nI P) s.2) zFU (τ3, nI 0) = some (τe, xe) := x1
    rw [x1', obs, x2, obs]
    dsimp only
    unfold Reader_readPool_j108
    rw [zgt_e]
    rcases x5 with ⟨ν9, a'', y1, ⟨p1, p2, p3, p4, p5, p6, p7⟩, y3, rfl⟩ | hF
    · have te5 : τe 2 5 = nI (q + 1) := by rw [p3 5 (by omega)]; exact t35
      have teq : τe q = τ q := by rw [p1 q (by omega) (by omega), f1 q (by omega) (by omega), tq]
      rw [if_pos y3.1.c60]
      have i1 := p7 1 (by omega)
      have i2 := p7 2 (by omega)
      have i1' : τe (q + 4) P = nI (tI ν9 P 1) := i1.1
      have i2' : τe (q + 5) P = nI (tI ν9 P 2) := i2.1
      refine stm_end (a := a) (a1 := a'') hq (cw3.trans x3) (mw3.trans x4) y3 (by omega) (fun τ => zmr2 3 29 (τ 2 5) fun q127 => zmr2 3 29 (τ 2 5) fun q135 => zrd τ (q135 + 4) 8 (nI P) fun v144 => zmr2 3 29 (τ 2 5) fun q146 => zrd τ (q146 + 5) 8 (nI P) fun v155 => zwr τ (q127 + 12) 8 (nI P) ((v144 + v155) / 2) fun σ159 => zmr2 3 29 (σ159 2 5) fun q161 => zgt σ159 q161 3 fun v165 => zpt σ159 q161 3 (v165 + 1) fun σ170 => some (true, σ170)) (fun τ5 ν5 c5 m5 => ?_)
      have z5 : τ5 2 5 = nI (q + 1) := by rw [c5.2 5 (by omega)]; exact te5
      have zq : τ5 q = τ q := by rw [c5.1 q (by omega)]; exact teq
      have rowE : ∀ b, b ≠ 2 → b < q + 3 ∨ q + 12 ≤ b → b ≠ q + 1 → τ5 b = τ b := fun b w1 w2 w3 => by rw [c5.1 b w1, p1 b w1 w2, f1 b w1 w3, a2.1 b w1]
      have cellE : ∀ b p, q + 3 ≤ b → b < q + 12 → p ≠ P → τ5 b p = τ b p := fun b p w1 w2 w3 => by rw [c5.1 b (by omega), p2 b w1 w2 p w3, f1 b (by omega) (by omega), a2.1 b (by omega)]
      have nE : ∀ b, b ≠ 171 → b ≠ 177 → b ≠ 181 → ν5 b = ν b := fun b w1 w2 w3 => by rw [m5.1 b w1, zup_ne w1, p4 b w1 w2, f4 b w1 w3]
      have n1E : ∀ k, k < 33 → k ≠ 8 → ν5 171 k = ν 171 k := fun k w1 w2 => by rw [m5.2 k (by omega), zup_miss w2, p5 k (by omega), f5 k (by omega)]
      have n177 : ν5 177 = ν9 177 := by rw [m5.1 177 (by omega), zup_ne (by omega)]
      have n177o : ∀ i, i < 9 * P → ν5 177 i = ν 177 i := fun i hi => by rw [n177, p6 i hi, f4 177 (by omega) (by omega)]
      have n181 : ν5 181 = ν3 181 := by rw [m5.1 181 (by omega), zup_ne (by omega), p4 181 (by omega) (by omega)]
      have s1 : τ5 (q + 1) = τ3 (q + 1) := by rw [c5.1 _ (by omega), p1 _ (by omega) (by omega)]
      refine ⟨_, mid_e (x := nI (tI ν9 P 1)) (y := nI (tI ν9 P 2)) (n := P) hP hq z5 (by rw [c5.1 _ (by omega)]; exact i1') (by rw [c5.1 _ (by omega)]; exact i2') (by rw [zq]; exact hp1), (CW.up hq (by omega) (by omega)).trans (CW.up hq (by omega) (by omega)), fun j => by rw [zup_ne (by omega), zup_ne (by omega)], P + 1, O, T, C, ?_⟩
      generalize hτ6 : zup (zup τ5 (q + 12) P ((nI (tI ν9 P 1) + nI (tI ν9 P 2)) / 2)) q 3 (nI (P + 1)) = τ6
      have q6 : ∀ k, k ≠ 3 → τ6 q k = τ q k := fun k hk => by rw [← hτ6, zup_miss hk, zup_ne (by omega), zq]
      have q63 : τ6 q 3 = nI (P + 1) := by rw [← hτ6, zup_hit]
      have r6 : ∀ b, b ≠ q → b ≠ q + 12 → τ6 b = τ5 b := fun b w1 w2 => by rw [← hτ6, zup_ne w1, zup_ne w2]
      have m6 : ∀ p, p ≠ P → τ6 (q + 12) p = τ (q + 12) p := fun p hp => by rw [← hτ6, zup_ne (by omega), zup_miss hp]; exact congrFun (rowE _ (by omega) (by omega) (by omega)) p
      have m6P : τ6 (q + 12) P = (nI (tI ν9 P 1) + nI (tI ν9 P 2)) / 2 := by rw [← hτ6, zup_ne (by omega), zup_hit]
      have keep : DRr τ6 ν5 q P O T C := by
        refine DRr.keep (τ := τ) (ν := ν) ⟨r1, r2, r3, r4, n1, n2⟩ ⟨fun p hp => ⟨?_, fun j hj => ?_⟩, fun o _ => ⟨?_, ?_, ?_⟩, fun k _ => ⟨?_, ?_, ?_⟩, fun t _ => ⟨?_, ?_, fun i _ => ?_⟩, n177o, fun i _ => by rw [nE _ (by omega) (by omega) (by omega)], fun i _ => by rw [nE _ (by omega) (by omega) (by omega)], fun i _ => by rw [nE _ (by omega) (by omega) (by omega)], fun i hi => ?_, fun i _ => by rw [nE _ (by omega) (by omega) (by omega)]⟩
        · rw [r6 _ (by omega) (by omega), s1, f2 p (by omega), a2.1 _ (by omega)]
        · rcases Nat.lt_or_ge j 9 with w | w
          · rw [r6 _ (by omega) (by omega)]
            exact cellE _ p (by omega) (by omega) (by omega)
          · have : q + 3 + j = q + 12 := by omega
            rw [this]
            exact m6 p (by omega)
        · rw [r6 _ (by omega) (by omega), rowE _ (by omega) (by omega) (by omega)]
        · rw [r6 _ (by omega) (by omega), rowE _ (by omega) (by omega) (by omega)]
        · rw [r6 _ (by omega) (by omega), rowE _ (by omega) (by omega) (by omega)]
        · rw [r6 _ (by omega) (by omega), rowE _ (by omega) (by omega) (by omega)]
        · rw [r6 _ (by omega) (by omega), rowE _ (by omega) (by omega) (by omega)]
        · rw [r6 _ (by omega) (by omega), rowE _ (by omega) (by omega) (by omega)]
        · rw [r6 _ (by omega) (by omega), rowE _ (by omega) (by omega) (by omega)]
        · rw [r6 _ (by omega) (by omega), rowE _ (by omega) (by omega) (by omega)]
        · rw [r6 _ (by omega) (by omega), rowE _ (by omega) (by omega) (by omega)]
        · rw [n181]; exact f6 i hi
      obtain ⟨k1, k2, k3, k4, k5, k6⟩ := keep
      have pr : PoolR τ6 ν5 q P := by
        have cl : ∀ i, i < 9 → τ6 (q + 3 + i) P = nI (tI ν9 P i) := fun i hi => by rw [r6 _ (by omega) (by omega), c5.1 _ (by omega)]; exact (p7 i hi).1
        have cn : ∀ i, i < 9 → ν5 177 (9 * P + ofs i) = nI (tI ν9 P i) := fun i hi => by rw [n177]; exact (p7 i hi).2.1
        have bd : ∀ i, i < 9 → loT ν9 P i ≤ tI ν9 P i ∧ tI ν9 P i ≤ hiT ν9 P i := fun i hi => (p7 i hi).2.2
        have d2 := (bd 2 (by omega)).1
        have d3 := (bd 3 (by omega)).1
        have d7 := (bd 7 (by omega)).1
        have u0 := (bd 0 (by omega)).2
        have u3 := (bd 3 (by omega)).2
        have u4 := (bd 4 (by omega)).2
        have u5 := (bd 5 (by omega)).2
        have u6 := (bd 6 (by omega)).2
        have u7 := (bd 7 (by omega)).2
        have u8 := (bd 8 (by omega)).2
        have d2' : tI ν9 P 1 ≤ tI ν9 P 2 := d2
        have d3' : tI ν9 P 2 ≤ tI ν9 P 3 := d3
        have d7' : 1 ≤ tI ν9 P 7 := d7
        have u0' : tI ν9 P 0 ≤ 9999 := u0
        have u3' : tI ν9 P 3 ≤ 9999 := u3
        have u4' : tI ν9 P 4 ≤ 9 := u4
        have u5' : tI ν9 P 5 ≤ 99 := u5
        have u6' : tI ν9 P 6 ≤ 999 := u6
        have u7' : tI ν9 P 7 ≤ 999 := u7
        have u8' : tI ν9 P 8 ≤ tI ν9 P 6 := u8
        refine ⟨fun k => if k = 6 then tI ν9 P 0 else if k = 0 then tI ν9 P 1 else if k = 1 then tI ν9 P 2 else if k = 2 then tI ν9 P 3 else if k = 3 then tI ν9 P 4 else if k = 7 then tI ν9 P 5 else if k = 4 then tI ν9 P 6 else if k = 5 then tI ν9 P 7 else tI ν9 P 8, fun j hj => ?_, ⟨u4', d7', d2', d3', u3', u6', u7', u5', u8', u0'⟩, ⟨cl 0 (by omega), cl 1 (by omega), cl 2 (by omega), cl 3 (by omega), cl 4 (by omega)⟩, cl 5 (by omega), cl 6 (by omega), cl 7 (by omega), cl 8 (by omega), m6P⟩
        rcases j with _ | _ | _ | _ | _ | _ | _ | _ | _ | j
        · exact cn 1 (by omega)
        · exact cn 2 (by omega)
        · exact cn 3 (by omega)
        · exact cn 4 (by omega)
        · exact cn 6 (by omega)
        · exact cn 7 (by omega)
        · exact cn 0 (by omega)
        · exact cn 5 (by omega)
        · exact cn 8 (by omega)
        · omega
      refine ⟨⟨⟨q63, by rw [m5.2 8 (by omega), zup_hit], by omega⟩, ⟨by rw [q6 7 (by omega)]; exact ho1, by rw [n1E 9 (by omega) (by omega)]; exact ho2, ho3⟩, ?_, ?_⟩, ?_, fun p hp => ?_, fun o ho => ?_, k3, k4, fun p hp => ?_, k6⟩
      · rw [r6 _ (by omega) (by omega), rowE _ (by omega) (by omega) (by omega), n1E 10 (by omega) (by omega)]; exact ht
      · rw [r6 _ (by omega) (by omega), rowE _ (by omega) (by omega) (by omega), n1E 11 (by omega) (by omega)]; exact hcc
      · rw [q6 1 (by omega), q6 2 (by omega), n1E 12 (by omega) (by omega), n1E 13 (by omega) (by omega)]; exact hv
      · by_cases e : p = P
        · subst e; exact pr
        · exact k1 p (by omega)
      · obtain ⟨l, m, w1, w2⟩ := k2 o ho
        exact ⟨l, m, by omega, w2⟩
      · by_cases e : p = P
        · subst e
          exact ⟨fn, fun k hk => by rw [n181]; exact g1 k hk, by rw [r6 _ (by omega) (by omega), s1]; exact g2⟩
        · exact k5 p (by omega)
    · rw [if_neg hF.c6]
      exact SR.bad rfl hF.mf.ends (cw3.trans x3) (mw3.trans x4) hF
  · have stp0 : Reader_readPool_l51 τ3 (nI P) (nI 0) = some (.inr (τ3, nI 0)) := by
      unfold Reader_readPool_l51
      rw [if_neg (by decide), zgt_e, if_neg hF.c6]
    have x1' : zit (fun (s : (Sg × Int32)) => Reader_readPool_l51 s.1 (nI P) s.2) zFU (τ3, nI 0) = some (τ3, nI 0) := by
      rw [zFU_e]
      exact zit_r stp0
    obtain ⟨νe, g1, g2, g3, g4⟩ := rc_bad hP 9 (Nat.le_refl _) ν3 hF.mf
    have hF' : Fx τ3 νe := hF.keep ⟨rfl, rfl⟩ ⟨g3, g4⟩
    rw [x1', obs, g1, obs]
    dsimp only
    unfold Reader_readPool_j108
    rw [zgt_e, if_neg hF.c6]
    exact SR.bad rfl hF'.mf.ends cw3 (mw3.trans g2) hF'
