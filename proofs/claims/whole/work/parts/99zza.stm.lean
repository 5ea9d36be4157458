/-! reading: statements -/
def DRr (τ ν : Sg) (q P O T C : Nat) : Prop := (∀ p, p < P → PoolR τ ν q p) ∧ (∀ o, o < O → OutR τ ν q P o) ∧ (∀ k, k < C → OrdR τ ν q O k) ∧ (∀ t, t < T → TrnR τ ν q t) ∧ Name2 τ ν 181 (q + 1) P ∧ Name2 τ ν 182 (q + 13) O
def DKr (τ ν τ' ν' : Sg) (q P O T C : Nat) : Prop :=
  (∀ p, p < P → τ' (q + 1) p = τ (q + 1) p ∧ ∀ j, j < 10 → τ' (q + 3 + j) p = τ (q + 3 + j) p) ∧ (∀ o, o < O → τ' (q + 13) o = τ (q + 13) o ∧ τ' (q + 14) o = τ (q + 14) o ∧ τ' (q + 15) o = τ (q + 15) o) ∧
  (∀ k, k < C → τ' (q + 17) k = τ (q + 17) k ∧ τ' (q + 18) k = τ (q + 18) k ∧ τ' (q + 19) k = τ (q + 19) k) ∧ (∀ t, t < T → τ' (q + 21) t = τ (q + 21) t ∧ τ' (q + 22) t = τ (q + 22) t ∧ ∀ i, i < 6 → τ' (q + 24 + t) i = τ (q + 24 + t) i) ∧
  (∀ i, i < 9 * P → ν' 177 i = ν 177 i) ∧ (∀ i, i < 2 * O → ν' 178 i = ν 178 i) ∧ (∀ i, i < 8 * T → ν' 179 i = ν 179 i) ∧ (∀ i, i < 3 * C → ν' 180 i = ν 180 i) ∧ (∀ i, i < 6 * P → ν' 181 i = ν 181 i) ∧ ∀ i, i < 6 * O → ν' 182 i = ν 182 i
theorem DRr.keep {τ ν τ' ν' : Sg} {q P O T C : Nat} (h : DRr τ ν q P O T C) (k : DKr τ ν τ' ν' q P O T C) : DRr τ' ν' q P O T C := by
  obtain ⟨h7, h8, h9, h10, h11, h12⟩ := h
  obtain ⟨k1, k2, k3, k4, k6, k7, k8, k9, k10, k11⟩ := k
  refine ⟨fun p hp => ?_, fun o ho => ?_, fun i hi => ?_, fun t ht => ?_, h11.rows (fun p hp => (k1 p hp).1) k10, h12.rows (fun o ho => (k2 o ho).1) k11⟩
  · obtain ⟨t, t1, t2, ⟨t3, t4, t5, t6, t7⟩, t8, t9, t10, t11, t12⟩ := h7 p hp
    have r := (k1 p hp).2
    have r0 : τ' (q + 3) p = τ (q + 3) p := r 0 (by omega)
    have r1 : τ' (q + 4) p = τ (q + 4) p := r 1 (by omega)
    have r2 : τ' (q + 5) p = τ (q + 5) p := r 2 (by omega)
    have r3 : τ' (q + 6) p = τ (q + 6) p := r 3 (by omega)
    have r4 : τ' (q + 7) p = τ (q + 7) p := r 4 (by omega)
    have r5 : τ' (q + 8) p = τ (q + 8) p := r 5 (by omega)
    have r6 : τ' (q + 9) p = τ (q + 9) p := r 6 (by omega)
    have r7 : τ' (q + 10) p = τ (q + 10) p := r 7 (by omega)
    have r8 : τ' (q + 11) p = τ (q + 11) p := r 8 (by omega)
    have r9 : τ' (q + 12) p = τ (q + 12) p := r 9 (by omega)
    exact ⟨t, fun j hj => by rw [k6 _ (by omega)]; exact t1 j hj, t2, ⟨r0.trans t3, r1.trans t4, r2.trans t5, r3.trans t6, r4.trans t7⟩, r5.trans t8, r6.trans t9, r7.trans t10, r8.trans t11, r9.trans t12⟩
  · obtain ⟨l, m, t1, t2, t3, t4, t5, t6, t7⟩ := h8 o ho
    obtain ⟨_, r1, r2⟩ := k2 o ho
    exact ⟨l, m, t1, t2, t3, by rw [k7 _ (by omega)]; exact t4, by rw [k7 _ (by omega)]; exact t5, r1.trans t6, r2.trans t7⟩
  · obtain ⟨o, f, m, t1, t2, t3, t4, t5, t6, t7, t8, t9, t10⟩ := h9 i hi
    obtain ⟨r1, r2, r3⟩ := k3 i hi
    exact ⟨o, f, m, t1, t2, t3, t4, by rw [k9 _ (by omega)]; exact t5, by rw [k9 _ (by omega)]; exact t6, by rw [k9 _ (by omega)]; exact t7, r1.trans t8, r2.trans t9, r3.trans t10⟩
  · obtain ⟨e, s, t1, t2, t3, t4, t5, t6, t7, t8, t9⟩ := h10 t ht
    obtain ⟨r1, r2, r3⟩ := k4 t ht
    exact ⟨e, s, t1, t2, t3, t4, by rw [k8 _ (by omega)]; exact t5, by rw [k8 _ (by omega)]; exact t6, r1.trans t7, r2.trans t8, fun i hi => by rw [r3 i (by omega), k8 _ (by omega)]; exact t9 i hi⟩
theorem DKr.of {τ ν τ' ν' : Sg} {q P O T C : Nat} (hq : q = 3 ∨ q = 29) (h1 : ∀ a, q < a → a ≠ q + 16 → a ≠ q + 20 → τ' a = τ a) (h2 : ∀ a, a ≠ 171 → ν' a = ν a) : DKr τ ν τ' ν' q P O T C := by
  refine ⟨fun p _ => ⟨?_, fun j _ => ?_⟩, fun o _ => ⟨?_, ?_, ?_⟩, fun k _ => ⟨?_, ?_, ?_⟩, fun t _ => ⟨?_, ?_, fun i _ => ?_⟩, fun i _ => by rw [h2 _ (by omega)], fun i _ => by rw [h2 _ (by omega)], fun i _ => by rw [h2 _ (by omega)], fun i _ => by rw [h2 _ (by omega)], fun i _ => by rw [h2 _ (by omega)], fun i _ => by rw [h2 _ (by omega)]⟩
  all_goals rw [h1 _ (by omega) (by omega) (by omega)]
/-- a statement has been read, or not -/
def SR (q : Nat) (B : Nat → Nat) (L a : Nat) (τ ν : Sg) (c : Option (Bool × Sg)) (m : Option Sg) : Prop := ∃ ok τ' ν', c = some (ok, τ') ∧ m = some ν' ∧ CW q τ τ' ∧ MW ν ν' ∧ ((ok = true ∧ ∃ a', a < a' ∧ tg B a' = 0 ∧ Lx τ' ν' B L a' ∧ ∃ P O T C, DR τ' ν' q P O T C) ∨ (ok = false ∧ Fx τ' ν'))
theorem SR.bad {q : Nat} {B : Nat → Nat} {L a : Nat} {τ ν τ' ν' : Sg} {c : Option (Bool × Sg)} {m : Option Sg} (h1 : c = some (false, τ')) (h2 : m = some ν') (h3 : CW q τ τ') (h4 : MW ν ν') (h5 : Fx τ' ν') : SR q B L a τ ν c m := ⟨false, τ', ν', h1, h2, h3, h4, Or.inr ⟨rfl, h5⟩⟩
/-- a statement's own word stands at a; the reference has read it -/
def Sta (τ ν : Sg) (q : Nat) (B : Nat → Nat) (L a x : Nat) : Prop := Cx τ B L a ∧ tg B a = 0 ∧ sk B L a = a ∧ isW B a (we B L a) x ∧ Mx ν B L (we B L a) ∧ ν 171 34 = nI a ∧ τ 2 5 = nI (q + 1) ∧ x < 20
theorem Sta.word {τ ν : Sg} {q : Nat} {B : Nat → Nat} {L a x : Nat} (h : Sta τ ν q B L a x) : ∃ τ1, Reader_readWord τ (kx x) = some (true, τ1) ∧ CF τ τ1 ∧ Lx τ1 ν B L (we B L a) := by
  obtain ⟨h1, h2, h3, h4, h5, h6, h7, h8⟩ := h
  obtain ⟨b, τ1, a1, a2, a3⟩ := c_word h1 h8
  have ok : WdOk B L a x := ⟨by rw [h3]; exact h2, by rw [h3]; exact h4⟩
  rcases a3 with ⟨rfl, _, k⟩ | ⟨_, k, _⟩
  · rw [h3] at k
    exact ⟨τ1, a1, a2, k, h5⟩
  · exact absurd ok k
theorem Sta.we {τ ν : Sg} {q : Nat} {B : Nat → Nat} {L a x : Nat} (h : Sta τ ν q B L a x) : a ≤ we B L a := (we_le (B := B) h.1.1.1).1
/-- the last sign of a statement -/
theorem stm_end {τ ν τ1 ν1 : Sg} {q : Nat} {B : Nat → Nat} {L a a1 : Nat} (hq : q = 3 ∨ q = 29) (hc : CW q τ τ1) (hm : MW ν ν1) (h : Lx τ1 ν1 B L a1) (ha : a ≤ a1) (k : Sg → Option (Bool × Sg)) (hk : ∀ τ2 ν2, CF τ1 τ2 → MF ν1 ν2 → ∃ τ3, k τ2 = some (true, τ3) ∧ CW q τ2 τ3 ∧ (∀ j, τ3 2 j = τ2 2 j) ∧ ∃ P O T C, DR τ3 ν2 q P O T C) :
    SR q B L a τ ν ((Reader_readSign τ1 59).bind fun r => if (zb r.1) = 0 then some (false, r.2) else k r.2) (M_endsWell ν1) := by
  obtain ⟨b, τ2, ν2, b1, b2, b3, b4, b5⟩ := b_end h
  rcases b5 with ⟨rfl, a', x1, x2, x3⟩ | ⟨rfl, hF⟩
  · obtain ⟨τ3, k1, k2, k3, k4⟩ := hk τ2 ν2 b3 b4
    refine ⟨true, τ3, ν2, ?_, b2, (hc.trans b3.w).trans k2, hm.trans b4.w, Or.inl ⟨rfl, a', by omega, x2, ⟨?_, x3.2⟩, k4⟩⟩
    · rw [b1, obs]
      dsimp only
      rw [if_neg (show ¬ zb true = 0 by decide), k1]
    · obtain ⟨y1, y2, y3, y4, y5, y6, y7⟩ := x3.1
      have e1 : τ3 1 = τ2 1 := k2.1 1 (by omega) (by omega)
      exact ⟨y1, fun i hi => by rw [e1]; exact y2 i hi, by rw [k3]; exact y3, by rw [k3]; exact y4, by rw [k3]; exact y5, by rw [k3]; exact y6, by rw [k3, k3]; exact y7⟩
  · refine SR.bad (τ' := τ2) (ν' := ν2) ?_ b2 (hc.trans b3.w) (hm.trans b4.w) hF
    rw [b1, obs]
    dsimp only
    rw [if_pos (show zb false = 0 from rfl)]
theorem stm_keep {τ ν : Sg} {q : Nat} {B : Nat → Nat} {L a P O T C : Nat} (hq : q = 3 ∨ q = 29) (h : Sta τ ν q B L a 2) (hD : DR τ ν q P O T C) :
    SR q B L a τ ν (Reader_readKeep τ) ((M_number ν 1 99).bind fun r => zpt r.2 171 13 r.1 fun σ => M_endsWell σ) := by
  obtain ⟨τ1, a1, a2, a3⟩ := h.word
  have hwe := h.we
  have t5 : τ1 2 5 = nI (q + 1) := by rw [a2.2 5 (by omega)]; exact h.2.2.2.2.2.2.1
  obtain ⟨r, τ2, r', ν2, b1, b2, b3, b4, b5⟩ := b_num (lo := 1) (hi := 99) a3 (by omega) (by omega)
  have b1' : Reader_readNumber τ1 1 99 = some (r, τ2) := b1
  have b2' : M_number ν 1 99 = some (r', ν2) := b2
  have a1' : Reader_readWord τ 2 = some (true, τ1) := a1
  have hc : CW q τ (zup τ2 q 2 r) := (a2.w.trans b3.w).trans (CW.up hq (by omega) (by omega))
  have hm : MW ν (zup ν2 171 13 r') := b4.w.trans (MW.up1 (by omega))
  have head : Reader_readKeep τ = if zup τ2 q 2 r 2 6 = 0 then ((Reader_readSign (zup τ2 q 2 r) 59).bind fun r35 => if (zb r35.1) = 0 then some (false, r35.2) else some (true, r35.2)) else some (false, zup τ2 q 2 r) := by
    unfold Reader_readKeep
    rw [a1', obs]
    dsimp only
    rw [if_neg (show ¬ zb true = 0 by decide), t5, zmr2_e rfl hq, b1', obs]
    dsimp only
    rw [zpt_e, zgt_e]
  have mh : ((M_number ν 1 99).bind fun r => zpt r.2 171 13 r.1 fun σ => M_endsWell σ) = M_endsWell (zup ν2 171 13 r') := by
    rw [b2', obs]
    dsimp only
    rw [zpt_e]
  rw [head, mh]
  rcases b5 with ⟨v, v1, v2, rfl, rfl, a', e1, hL⟩ | hF
  · have hL' : Lx (zup τ2 q 2 (nI v)) (zup ν2 171 13 (nI v)) B L a' := hL.up (by omega) (by omega)
    rw [if_pos hL'.1.c60]
    refine stm_end (a1 := a') hq hc hm hL' (by omega) (fun τ => some (true, τ)) (fun τ3 ν3 c3 m3 => ⟨τ3, rfl, CW.refl q τ3, fun _ => rfl, P, O, T, C, ?_⟩)
    obtain ⟨⟨h1, h2, h3, h4⟩, ⟨h5, _⟩, hr⟩ := hD
    have rr : ∀ b, b ≠ 2 → b ≠ q → τ3 b = τ b := fun b x y => by rw [c3.1 b x, zup_ne y, b3.1 b x, a2.1 b x]
    have rq : ∀ k, k ≠ 2 → τ3 q k = τ q k := fun k hk => by rw [c3.1 q (by omega), zup_miss hk, b3.1 q (by omega), a2.1 q (by omega)]
    have nn : ∀ b, b ≠ 171 → ν3 b = ν b := fun b x => by rw [m3.1 b x, zup_ne x, b4.1 b x]
    have n1 : ∀ k, k < 33 → k ≠ 13 → ν3 171 k = ν 171 k := fun k x y => by rw [m3.2 k (by omega), zup_miss y, b4.2 k (by omega)]
    refine ⟨⟨by rw [rq 3 (by omega), n1 8 (by omega) (by omega)]; exact h1, by rw [rq 7 (by omega), n1 9 (by omega) (by omega)]; exact h2, by rw [rr _ (by omega) (by omega), n1 10 (by omega) (by omega)]; exact h3, by rw [rr _ (by omega) (by omega), n1 11 (by omega) (by omega)]; exact h4⟩, ⟨by rw [rq 1 (by omega), n1 12 (by omega) (by omega)]; exact h5, v, v1, v2, by rw [c3.1 q (by omega), zup_hit], by rw [m3.2 13 (by omega), zup_hit]⟩, ?_⟩
    exact DRr.keep hr (DKr.of hq (fun b x _ _ => rr b (by omega) (by omega)) nn)
  · have hF' : Fx (zup τ2 q 2 r) (zup ν2 171 13 r') := hF.up (by omega) (by omega)
    rw [if_neg hF'.c6]
    exact SR.bad rfl hF'.mf.ends hc hm hF'
