/-! reading: statement after statement -/
def CV (q : Nat) (τ τ' : Sg) : Prop := (∀ b, b ≠ 2 → b < q ∨ q + 25 < b → τ' b = τ b) ∧ (∀ k, k = 0 ∨ k = 1 ∨ k = 5 → τ' 2 k = τ 2 k)
theorem CV.trans {q : Nat} {σ τ υ : Sg} (h : CV q σ τ) (g : CV q τ υ) : CV q σ υ := ⟨fun b h1 h2 => (g.1 b h1 h2).trans (h.1 b h1 h2), fun k hk => (g.2 k hk).trans (h.2 k hk)⟩
theorem CW.v {q : Nat} {τ τ' : Sg} (h : CW q τ τ') : CV q τ τ' := ⟨h.1, h.2.1⟩
theorem CV.up {q i : Nat} {τ : Sg} {v : Int32} (hq : q = 3 ∨ q = 29) : CV q τ (zup τ q i v) := ⟨fun c x y => zup_ne (by omega), fun k _ => by rw [zup_ne (by omega)]⟩
def TR (q : Nat) (B : Nat → Nat) (L : Nat) (τ0 ν0 : Sg) (c : Option (Bool × Sg)) (m : Option (Int32 × Sg)) : Prop := ∃ ok τe x νe, c = some (ok, τe) ∧ m = some (x, νe) ∧ CV q τ0 τe ∧ MW ν0 νe ∧ ((ok = true ∧ τe q 0 = x ∧ (∃ a, Lx τe νe B L a) ∧ ∃ P O T C, DR τe νe q P O T C) ∨ (ok = false ∧ Fx τe νe))
def cT (f : Nat) (s : Sg × Int32) : Option (Bool × Sg) := (zit (fun (s : (Sg × Int32)) => Reader_readText_l45 s.1 s.2) f s).bind fun r => r.elim (fun r => some r) (fun r => Reader_readText_j100 r.1)
def mT (f : Nat) (s : Sg × Int32) : Option (Int32 × Sg) := (zit (fun (s : (Sg × Int32)) => M_readsAll_l49 s.1 s.2) f s).bind fun r => r.elim (fun r => some r) (fun r => some (r.2, r.1))
theorem tg_sk {B : Nat → Nat} {L a : Nat} (h : a ≤ L) (ht : tg B a = 0) : tg B (sk B L a) = 0 := by
  obtain ⟨s1, s2⟩ := sk_le (B := B) h
  rcases Nat.lt_or_ge a (sk B L a) with x | x
  · exact tg_blk (sk_in (a := a) (L := L) (by omega) (by omega))
  · rw [show sk B L a = a from by omega]; exact ht
theorem DR.up0 {τ ν : Sg} {q P O T C : Nat} {v : Int32} (h : DR τ ν q P O T C) (hq : q = 3 ∨ q = 29) : DR (zup τ q 0 v) ν q P O T C := by
  refine h.keep ⟨⟨zup_miss (by omega), zup_miss (by omega), zup_miss (by omega), zup_miss (by omega), by rw [zup_ne (by omega)], by rw [zup_ne (by omega)]⟩, fun p _ => ⟨?_, fun j _ => ?_⟩, fun o _ => ⟨?_, ?_, ?_⟩, fun k _ => ⟨?_, ?_, ?_⟩, fun t _ => ⟨?_, ?_, fun i _ => ?_⟩, fun _ _ _ => rfl, fun _ _ => rfl, fun _ _ => rfl, fun _ _ => rfl, fun _ _ => rfl, fun _ _ => rfl, fun _ _ => rfl⟩
  all_goals rw [zup_ne (by omega)]
theorem Lx.nf {τ ν : Sg} {B : Nat → Nat} {L a : Nat} (h : Lx τ ν B L a) (hf : Mf ν) : False := by
  obtain ⟨k, k1, k2, k3⟩ := hf
  have := (nI_eq (by omega) (by omega)).mp (k3.symm.trans h.2.2.2.2.2.1.1)
  omega
theorem mT_fault {f : Nat} {ν : Sg} {x : Int32} (h : Mf ν) : mT (f + 1) (ν, x) = some (x, ν) := by
  unfold mT
  have e : zit (fun (s : (Sg × Int32)) => M_readsAll_l49 s.1 s.2) (f + 1) (ν, x) = some (.inr (ν, x)) := by
    refine zit_r ?_
    show M_readsAll_l49 ν x = _
    unfold M_readsAll_l49
    rw [h.well, bf]
  rw [e, obs]
  rfl
theorem rd_run {τ0 ν0 : Sg} {B : Nat → Nat} {L q : Nat} (hq : q = 3 ∨ q = 29) (h5 : τ0 2 5 = nI (q + 1)) : ∀ (d : Nat) (f g : Nat) (τ ν : Sg) (a n P O T C : Nat), L - a ≤ d → d + 1 < f → d + 1 < g → Lx τ ν B L a → tg B a = 0 → DR τ ν q P O T C → τ q 0 = nI n → 1 ≤ n → n ≤ a → CV q τ0 τ → MW ν0 ν →
    TR q B L τ0 ν0 (cT f (τ, nI n)) (mT g (ν, nI n))
  | d, f, g, τ, ν, a, n, P, O, T, C, hd, hf, hg, h, ht, hD, hn, hn1, hna, hcv, hmw => by
    obtain ⟨f', rfl⟩ : ∃ f', f = f' + 1 := ⟨f - 1, by omega⟩
    obtain ⟨g', rfl⟩ : ∃ g', g = (g' + 1) + 1 := ⟨g - 2, by omega⟩
    have hL := h.1.1
    obtain ⟨s1, s2⟩ := sk_le (B := B) hL.1
    obtain ⟨τ1, a1, a2, a3⟩ := c_skip h.1
    have h1 := h.2.to s2
    have hL1 : Lx τ1 (zup ν 171 33 (nI (sk B L a))) B L (sk B L a) := ⟨a3, h1⟩
    have q1 : τ1 q = τ q := a2.1 q (by omega)
    have n1 : τ1 q 0 = nI n := by rw [q1]; exact hn
    have t15 : τ1 2 5 = nI (q + 1) := by rw [a2.2 5 (by omega), hcv.2 5 (by omega)]; exact h5
    have hD1 : DR τ1 (zup ν 171 33 (nI (sk B L a))) q P O T C := hD.cf hq a2 (MF.up (by omega))
    have cv1 : CV q τ0 τ1 := hcv.trans a2.w.v
    have mw1 : MW ν0 (zup ν 171 33 (nI (sk B L a))) := hmw.trans (MW.up1 (by omega))
    have ch : Reader_readText_l45 τ (nI n) = if nI (sk B L a) < nI L then ((Reader_readStatement τ1).bind fun r73 => if (zb r73.1) = 0 then some (.inr (.inl (false, r73.2))) else (zmr2 3 29 (r73.2 2 5) fun q82 => zgt r73.2 q82 0 fun v86 => zpt r73.2 q82 0 (v86 + 1) fun σ91 => zlt (nI n + 1) fun v94 => some (.inl (σ91, v94)))) else some (.inr (.inr (τ1, nI n))) := by
      unfold Reader_readText_l45
      rw [zgt_e, h.1.2.2.2.1, if_neg (nI_nlt (by omega) (by omega)), a1, obs, zgt_e, zgt_e, a3.2.2.2.2.1, a3.2.2.2.1]
    have mh : M_readsAll_l49 ν (nI n) = if bA B L (sk B L a) = (-1) then some (.inr (.inr (zup ν 171 33 (nI (sk B L a)), nI n))) else ((M_word (zup ν 171 33 (nI (sk B L a)))).bind fun r65 => (M_goesWell r65).bind fun r69 => if (zb r69) = 0 then M_readsAll_j49_83 r65 (nI n) (-1) else (M_own r65).bind fun r76 => M_readsAll_j49_83 r65 (nI n) r76) := by
      unfold M_readsAll_l49
      rw [m_well h.2, bt, m_here h.2, obs]
    rcases Nat.lt_or_ge (sk B L a) L with x | x
    · have hb := (h.2.2.1 _ x).2
      rw [if_pos (nI_lt x (by omega))] at ch
      rw [show bA B L (sk B L a) = nI (B (sk B L a)) from if_pos x, if_neg (nI_m1ne (by omega))] at mh
      obtain ⟨νw, w1, w2⟩ := stm_any hq hL1 (tg_sk hL.1 ht) (sk_id hL.1) t15 hD1 n1 hn1 (by omega)
      rw [w1, obs] at mh
      rcases w2 with ⟨w3, ok, τ', ν', k1, k2, k3, k4, k5⟩ | ⟨w3, s0, w4, ok, τ', ν', k1, k2, k3, k4, k5⟩
      · have eν : ν' = νw := (Option.some.inj k2).symm
        subst eν
        rcases k5 with ⟨_, a', _, _, k6, _⟩ | ⟨rfl, hF⟩
        · exact absurd w3 (fun z => k6.nf z)
        · rw [w3.well, bf] at mh
          have mj : M_readsAll_j49_83 ν' (nI n) (-1) = some (.inr (.inl (nI n, ν'))) := by
            unfold M_readsAll_j49_83
            rw [w3.well, bf]
          rw [mj] at mh
          rw [k1, obs] at ch
          refine ⟨false, τ', nI n, ν', ?_, ?_, cv1.trans k3.v, mw1.trans k4, Or.inr ⟨rfl, hF⟩⟩
          · unfold cT
            have e : zit (fun (s : (Sg × Int32)) => Reader_readText_l45 s.1 s.2) (f' + 1) (τ, nI n) = some (.inl (false, τ')) := by
              refine zit_r ?_
              show Reader_readText_l45 τ (nI n) = _
              rw [ch]
              exact if_pos rfl
            rw [e, obs]
            rfl
          · unfold mT
            have e : zit (fun (s : (Sg × Int32)) => M_readsAll_l49 s.1 s.2) ((g' + 1) + 1) (ν, nI n) = some (.inl (nI n, ν')) := zit_r mh
            rw [e, obs]
            rfl
      · rw [w3, bt, w4, obs, readsAll_j _ _ w3, k2, obs, show nI n + 1 = nI (n + 1) from nI_add _ 1] at mh
        rw [k1, obs] at ch
        have em : mT ((g' + 1) + 1) (ν, nI n) = mT (g' + 1) (ν', nI (n + 1)) := by
          unfold mT
          have mh' : (fun (s : (Sg × Int32)) => M_readsAll_l49 s.1 s.2) (ν, nI n) = some (.inl (ν', nI (n + 1))) := mh
          rw [zit_l mh']
        rw [em]
        rcases k5 with ⟨rfl, a', k6, k7, k8, P', O', T', C', k9⟩ | ⟨rfl, hF⟩
        · have t25 : τ' 2 5 = nI (q + 1) := by rw [k3.2.1 5 (by omega)]; exact t15
          have tq0 : τ' q 0 = nI n := by rw [k3.2.2 (by omega)]; exact n1
          have ec : cT (f' + 1) (τ, nI n) = cT f' (zup τ' q 0 (nI (n + 1)), nI (n + 1)) := by
            unfold cT
            have ch' : (fun (s : (Sg × Int32)) => Reader_readText_l45 s.1 s.2) (τ, nI n) = some (.inl (zup τ' q 0 (nI (n + 1)), nI (n + 1))) := by
              show Reader_readText_l45 τ (nI n) = _
              rw [ch]
              dsimp only
              rw [if_neg (show ¬ zb true = 0 by decide), t25, zmr2_e rfl hq, zgt_e, tq0, zpt_e, zlt_e, show nI n + 1 = nI (n + 1) from nI_add _ 1]
            rw [zit_l ch']
          rw [ec]
          have hL' : Lx (zup τ' q 0 (nI (n + 1))) ν' B L a' := by
            have := k8.up (b := q) (i := 0) (v := nI (n + 1)) (c := 177) (j := 0) (w := ν' 177 0) (by omega) (by omega)
            rw [zup_same rfl] at this
            exact this
          have ha' := k8.1.1.1
          exact rd_run hq h5 (d - 1) f' (g' + 1) (zup τ' q 0 (nI (n + 1))) ν' a' (n + 1) P' O' T' C' (by omega) (by omega) (by omega) hL' k7 (k9.up0 hq) zup_hit (by omega) (by omega) ((cv1.trans k3.v).trans (CV.up hq)) (mw1.trans k4)
        · rw [mT_fault hF.mf]
          refine ⟨false, τ', nI (n + 1), ν', ?_, rfl, cv1.trans k3.v, mw1.trans k4, Or.inr ⟨rfl, hF⟩⟩
          unfold cT
          have e : zit (fun (s : (Sg × Int32)) => Reader_readText_l45 s.1 s.2) (f' + 1) (τ, nI n) = some (.inl (false, τ')) := by
            refine zit_r ?_
            show Reader_readText_l45 τ (nI n) = _
            rw [ch]
            exact if_pos rfl
          rw [e, obs]
          rfl
    · have eL : sk B L a = L := by omega
      rw [if_neg (nI_nlt (by omega) (by omega))] at ch
      rw [show bA B L (sk B L a) = -1 from if_neg (by omega), if_pos rfl] at mh
      refine ⟨true, τ1, nI n, zup ν 171 33 (nI (sk B L a)), ?_, ?_, cv1, mw1, Or.inl ⟨rfl, n1, ⟨_, hL1⟩, P, O, T, C, hD1⟩⟩
      · unfold cT
        have e : zit (fun (s : (Sg × Int32)) => Reader_readText_l45 s.1 s.2) (f' + 1) (τ, nI n) = some (.inr (τ1, nI n)) := zit_r ch
        rw [e, obs]
        show Reader_readText_j100 τ1 = _
        unfold Reader_readText_j100
        rw [t15, zmr2_e rfl hq, zgt_e, n1, if_pos (show (0 : Int32) < nI n from (nI_lt (by omega) (by omega) : nI 0 < nI n))]
      · unfold mT
        have e : zit (fun (s : (Sg × Int32)) => M_readsAll_l49 s.1 s.2) ((g' + 1) + 1) (ν, nI n) = some (.inr (zup ν 171 33 (nI (sk B L a)), nI n)) := zit_r mh
        rw [e, obs]
        rfl
/-- what stands before anything is read -/
def D0 (τ ν : Sg) (q : Nat) : Prop := τ q 0 = nI 0 ∧ τ q 2 = nI 4 ∧ τ q 3 = nI 0 ∧ τ q 7 = nI 0 ∧ τ (q + 16) 0 = nI 0 ∧ τ (q + 20) 0 = nI 0 ∧ ν 171 8 = nI 0 ∧ ν 171 9 = nI 0 ∧ ν 171 10 = nI 0 ∧ ν 171 11 = nI 0 ∧ ν 171 13 = nI 4
theorem stm_canal {τ ν : Sg} {q : Nat} {B : Nat → Nat} {L a : Nat} (hq : q = 3 ∨ q = 29) (h : Lx τ ν B L a) (h5 : τ 2 5 = nI (q + 1)) (h0 : D0 τ ν q) :
    SR q B L a τ ν (Reader_readCanal τ) ((M_must ν 0).bind fun r27 => (M_after r27 1 0 999).bind fun r37 => zpt r37.2 171 12 r37.1 fun σ40 => M_endsWell σ40) := by
  obtain ⟨b, τ1, ν1, a1, a2, a3, a4, a5⟩ := b_word (x := 0) h (by omega)
  have a1' : Reader_readWord τ 0 = some (b, τ1) := a1
  have a2' : M_must ν 0 = some ν1 := a2
  rw [a2', obs]
  unfold Reader_readCanal
  rw [a1', obs]
  dsimp only
  have fin : ∀ ν', Mf ν' → ((M_after ν' 1 0 999).bind fun r37 => zpt r37.2 171 12 r37.1 fun σ40 => M_endsWell σ40) = some (zup ν' 171 12 0) := fun ν' hf => by
    have hf2 : Mf (zup ν' 171 12 0) := by
      obtain ⟨k, k1, k2, k3⟩ := hf
      exact ⟨k, k1, k2, by rw [zup_miss (by omega)]; exact k3⟩
    rw [hf.after, obs]
    dsimp only
    rw [zpt_e, hf2.ends]
  rcases a5 with ⟨rfl, a', e1, hL⟩ | ⟨rfl, hF⟩
  · obtain ⟨b', τ2, ν2, b1, b2, b3, b4, b5⟩ := b_word (x := 1) hL (by omega)
    have b1' : Reader_readWord τ1 1 = some (b', τ2) := b1
    have b2' : M_must ν1 1 = some ν2 := b2
    rw [if_neg (show ¬ zb true = 0 by decide), b1', obs]
    dsimp only
    rcases b5 with ⟨rfl, a'', e2, hL2⟩ | ⟨rfl, hF⟩
    · obtain ⟨r, τ3, r', ν3, c1, c2, c3, c4, c5⟩ := b_num (lo := 0) (hi := 999) hL2 (by omega) (by omega)
      have c1' : Reader_readNumber τ2 0 999 = some (r, τ3) := c1
      have c2' : M_number ν2 0 999 = some (r', ν3) := c2
      have t5 : τ2 2 5 = nI (q + 1) := by rw [b3.2 5 (by omega), a3.2 5 (by omega)]; exact h5
      have af : M_after ν1 1 0 999 = some (r', ν3) := by
        unfold M_after
        rw [b2', obs, c2', obs]
      have cw3 : CW q τ (zup τ3 q 1 r) := ((a3.w.trans b3.w).trans c3.w).trans (CW.up hq (by omega) (by omega))
      have mw3 : MW ν (zup ν3 171 12 r') := ((a4.w.trans b4.w).trans c4.w).trans (MW.up1 (by omega))
      rw [if_neg (show ¬ zb true = 0 by decide), t5, zmr2_e rfl hq, c1', obs, af, obs]
      dsimp only
      rw [zpt_e, zpt_e, zgt_e]
      rcases c5 with ⟨v, v1, v2, rfl, rfl, a3', e3, hL3⟩ | hF
      · have hL3' : Lx (zup τ3 q 1 (nI v)) (zup ν3 171 12 (nI v)) B L a3' := hL3.up (by omega) (by omega)
        rw [if_pos hL3'.1.c60]
        refine stm_end (a := a) (a1 := a3') hq cw3 mw3 hL3' (by omega) (fun τ => some (true, τ)) (fun τx νx cx mx => ⟨τx, rfl, CW.refl q τx, fun _ => rfl, 0, 0, 0, 0, ?_⟩)
        obtain ⟨z0, z2, z3, z7, z16, z20, y8, y9, y10, y11, y13⟩ := h0
        have rr : ∀ b, b ≠ 2 → b ≠ q → τx b = τ b := fun b x y => by rw [cx.1 b x, zup_ne y, c3.1 b x, b3.1 b x, a3.1 b x]
        have rq : ∀ k, k ≠ 1 → τx q k = τ q k := fun k hk => by rw [cx.1 q (by omega), zup_miss hk, c3.1 q (by omega), b3.1 q (by omega), a3.1 q (by omega)]
        have n1 : ∀ k, k < 33 → k ≠ 12 → νx 171 k = ν 171 k := fun k x y => by rw [mx.2 k (by omega), zup_miss y, c4.2 k (by omega), b4.2 k (by omega), a4.2 k (by omega)]
        refine ⟨⟨⟨?_, ?_, by omega⟩, ⟨?_, ?_, by omega⟩, ⟨?_, ?_, by omega⟩, ⟨?_, ?_, by omega⟩⟩, ⟨⟨v, v2, by rw [cx.1 q (by omega), zup_hit], by rw [mx.2 12 (by omega), zup_hit]⟩, 4, by omega, by omega, ?_, ?_⟩, fun p hp => by omega, fun p hp => by omega, fun p hp => by omega, fun p hp => by omega, fun p hp => by omega, fun p hp => by omega⟩
        · rw [rq 3 (by omega)]; exact z3
        · rw [n1 8 (by omega) (by omega)]; exact y8
        · rw [rq 7 (by omega)]; exact z7
        · rw [n1 9 (by omega) (by omega)]; exact y9
        · rw [rr _ (by omega) (by omega)]; exact z20
        · rw [n1 10 (by omega) (by omega)]; exact y10
        · rw [rr _ (by omega) (by omega)]; exact z16
        · rw [n1 11 (by omega) (by omega)]; exact y11
        · rw [rq 2 (by omega)]; exact z2
        · rw [n1 13 (by omega) (by omega)]; exact y13
      · have hF' : Fx (zup τ3 q 1 r) (zup ν3 171 12 r') := hF.up (by omega) (by omega)
        rw [if_neg hF'.c6]
        exact SR.bad rfl hF'.mf.ends cw3 mw3 hF'
    · have af : ((M_after ν1 1 0 999).bind fun r37 => zpt r37.2 171 12 r37.1 fun σ40 => M_endsWell σ40) = some (zup ν2 171 12 0) := by
        have e : M_after ν1 1 0 999 = M_after ν2 1 0 999 := by
          rw [hF.mf.after]
          unfold M_after
          rw [b2', obs, hF.mf.number, obs]
        rw [e]
        exact fin ν2 hF.mf
      rw [if_pos (show zb false = 0 from rfl), af]
      exact SR.bad rfl rfl (a3.w.trans b3.w) ((a4.w.trans b4.w).trans (MW.up1 (by omega))) (hF.keep ⟨rfl, rfl⟩ ⟨zup_miss (by omega), zup_miss (by omega)⟩)
  · rw [if_pos (show zb false = 0 from rfl), fin ν1 hF.mf]
    exact SR.bad rfl rfl a3.w (a4.w.trans (MW.up1 (by omega))) (hF.keep ⟨rfl, rfl⟩ ⟨zup_miss (by omega), zup_miss (by omega)⟩)
