/-! one cell of the reference, one of the class: hand, set -/
theorem one_rest {σ μ μ' : Sg} {e : Nat} (ke : KEq μ μ') (c : ∀ i, i ≠ e → μ' 183 i = μ 183 i) (he : (16 ≤ e ∧ e < 32) ∨ e = 197 ∨ e = 198) (hK : InvK μ) (hM : Mom σ 55 μ) : RepOr σ 73 μ' ∧ RepLg σ 77 μ' ∧ InvO μ' ∧ InvS μ' ∧ InvWs μ' := by
  obtain ⟨_, a2, a3, a4, a5, a6, _⟩ := hM
  have hP8 := hK.1.2
  have eC : nC μ' = nC μ := by unfold nC; rw [c 199 (by omega)]
  have es : stp μ' = stp μ := by unfold stp; rw [c 196 (by omega)]
  have h16 := a4.2.1
  refine ⟨⟨?_, fun k hk => ?_⟩, ?_, ⟨?_, by rw [eC]; exact h16, fun k hk => ?_⟩, ?_, fun p hp => ?_⟩
  · rw [c 199 (by omega)]; exact a2.1
  · rw [eC] at hk
    rw [c _ (by omega), c _ (by omega), c _ (by omega)]
    exact a2.2 k hk
  · obtain ⟨kept, g1, g2, g3, g4, g5, g6⟩ := a3
    refine ⟨kept, g1, by rw [es]; exact g2, by rw [c 205 (by omega)]; exact g3, fun k hk j hj => ?_, ?_, fun k hk p hp j hj => ?_⟩
    · rw [c _ (by omega)]; exact g4 k hk j hj
    · rw [c 206 (by omega), es]; exact g5
    · rw [es] at hk ⊢
      rw [ke.e_nP] at hp
      rw [c _ (by omega)]
      exact g6 k hk p hp j hj
  · rw [c 199 (by omega), eC]; exact a4.1
  · rw [eC] at hk
    have := a4.2.2 k hk
    unfold oo ofr oma at this ⊢
    rw [c _ (by omega), c _ (by omega), c _ (by omega), ke.e_nO]
    exact this
  · unfold InvS
    rw [es, c 196 (by omega)]; exact a5
  · rw [ke.e_nP] at hp
    have := a6 p hp
    unfold stnd at this ⊢
    rw [es, c (32 + p) (by omega), c (120 + p) (by omega), c (327 + 4 * p + 3) (by omega), c p (by omega), ke.2.1]
    exact this
theorem one_R {μ μ' : Sg} {e : Nat} (ke : KEq μ μ') (c : ∀ i, i ≠ e → μ' 183 i = μ 183 i) (he : (16 ≤ e ∧ e < 32) ∨ e = 197 ∨ e = 198) (hK : InvK μ) (hR : InvR μ)
    (v1 : ∀ p, p < nP μ → e = 16 + p → μ' 183 e = -1 ∨ ∃ v, μ' 183 e = nI v ∧ v ≤ tl μ p 4) (v2 : ∀ p, p < nP μ → e = 24 + p → ∃ v, μ' 183 e = nI v ∧ v ≤ 99) (v3 : e = 197 → ∃ v, μ' 183 e = nI v ∧ v ≤ 999) : InvR μ' := by
  have hP8 := hK.1.2
  have hO10 := hK.2.1.2
  have es : stp μ' = stp μ := by unfold stp; rw [c 196 (by omega)]
  refine ⟨fun p hp => ?_, ?_, fun o ho => ?_⟩
  · rw [ke.e_nP] at hp
    obtain ⟨r1, r2, r3, r4, r5⟩ := hR.1 p hp
    rw [ke.e_tl, c p (by omega), c (8 + p) (by omega)]
    refine ⟨r1, r2, ?_, ?_, fun k hk => by rw [c _ (by omega)]; exact r5 k hk⟩
    · by_cases x : e = 16 + p
      · have := v1 p hp x
        rw [x] at this
        exact this
      · rw [c (16 + p) (by omega)]; exact r3
    · by_cases x : e = 24 + p
      · have := v2 p hp x
        rw [x] at this
        exact this
      · rw [c (24 + p) (by omega)]; exact r4
  · by_cases x : e = 197
    · have := v3 x
      rw [x] at this
      exact this
    · rw [c 197 (by omega)]; exact hR.2.1
  · rw [ke.e_nO] at ho
    rw [c _ (by omega), es]
    exact hR.2.2 o ho
/-- one cell, both sides -/
theorem act_one {σ τ : Sg} {n n1 p1 K K1 t c R q g L e a i : Nat} {v : Int32} {s : Nat → Nat} (h : Cor σ n p1 K t c R q s) (hr : Rst σ g L) (ht : σ 171 25 = nI 1) (hrem : RemC σ τ n1 K1 t c)
    (f0 : ∀ k, k ≠ 10 → k ≠ 11 → τ 0 k = σ 0 k) (fa : ∀ a, a ≠ 0 → a ≠ 80 → a < 198 → τ a = σ a) (ha : 56 ≤ a ∧ a < 65) (he : (16 ≤ e ∧ e < 32) ∨ e = 197 ∨ e = 198)
    (hu : ∀ κ, RepW τ 56 κ → InvK κ → RepW (zup τ a i v) 56 (zup κ 183 e v))
    (v1 : ∀ p, p < nP σ → e = 16 + p → v = -1 ∨ ∃ w, v = nI w ∧ w ≤ tl σ p 4) (v2 : ∀ p, p < nP σ → e = 24 + p → ∃ w, v = nI w ∧ w ≤ 99) (v3 : e = 197 → ∃ w, v = nI w ∧ w ≤ 999) (v4 : e = 198 → ∃ w, v = nI w ∧ 1 ≤ w ∧ w ≤ 99) :
    ∃ ρ, M_remembers (zup τ a i v) = some ρ ∧ Rel (zup ρ 183 e v) n1 := by
  have da : ∀ b, b < 56 ∨ 79 < b → zup τ a i v b = τ b := fun b hb => zup_ne (by omega)
  obtain ⟨ρ, m0, hρ, me, hMρ, hzρ⟩ := rem_both h fa da
  have hK := h.1.1.2.2.1
  have hKρ := me.e_InvK hK
  have hg := h.1.2.2 (Or.inr ht)
  have c1 : ∀ i, i ≠ e → zup ρ 183 e v 183 i = ρ 183 i := fun i hi => zup_miss hi
  have ke : KEq ρ (zup ρ 183 e v) := ⟨⟨by rw [zup_ne (by omega)], by rw [zup_ne (by omega)], by rw [zup_ne (by omega)]⟩, zup_ne (by omega), zup_ne (by omega), zup_ne (by omega)⟩
  obtain ⟨o1, o2, o3, o4, o5⟩ := one_rest ke c1 he hKρ hMρ
  have oR := one_R ke c1 he hKρ hMρ.2.2.2.2.2.2 (by rw [me.e_nP, me.e_tl, zup_hit]; exact v1) (by rw [me.e_nP, zup_hit]; exact v2) (by rw [zup_hit]; exact v3)
  have fr : Fr a a τ (zup τ a i v) := fun b hb => zup_ne (by omega)
  have hM2 : Mom (zup τ a i v) 55 (zup ρ 183 e v) := ⟨hu ρ hMρ.1 hKρ, o1.fr fr (by omega), o2.fr fr (by omega), o3, o4, o5, oR⟩
  have hgυ : Gain (zup ρ 183 e v) := by
    by_cases x : e = 198
    · unfold Gain
      rw [x, zup_hit]; exact v4 x
    · have := me.e_Gain hg
      unfold Gain at this ⊢
      rw [zup_miss (by omega)]; exact this
  have hzυ : Zhi (zup ρ 183 e v) := by
    clear v1 v2 v3 v4
    intro k hk
    rw [zup_miss (by omega)]; exact hzρ k hk
  exact ⟨ρ, m0, act_sim h hr ht hrem f0 fa da hρ (fun b hb => zup_ne hb) hM2 hgυ hzυ⟩
theorem rel_out {σ : Sg} {n : Nat} (h : Rel σ n) : ∃ p1 K t c R q s g L, Cor σ n p1 K t c R q s ∧ Rst σ g L := h
theorem hand_yes {σ : Sg} {n p : Nat} {y : Int32} (h : Rel σ n) (hp : p < nP σ) (h1 : ¬ y < -1) (h2 : ¬ nI (tl σ p 4) < y) (h3 : y ≠ σ 183 (16 + p)) : Acts n (CK_hand n σ (nI p) y) (fun τ => M_hand τ (nI p) y) := by
  obtain ⟨p1, K, t, c, R, q, s, g, L, hC, hr⟩ := h
  have hC0 := hC
  obtain ⟨hB, hT, hz, hNm, hRg, hSn⟩ := hC
  have ht := told_of hT (Or.inl (Nat.lt_of_le_of_lt (Nat.zero_le _) hp))
  have hK := hB.1.2.2.1
  have hP8 := hK.1.2
  obtain ⟨τ, n1, K1, r0, r1, r2, r3, r4, f0, fa, r7, r8⟩ := c_remember hRg
  have hrem : RemC σ τ n1 K1 t c := ⟨r1, r2, r3, r4, r7, r8⟩
  have hT4 : σ 172 (9 * p + 4) = nI (tl σ p 4) := (hK.2.2.2.1 p hp 4 (by omega)).1
  have hT9 : tl σ p 4 ≤ 999 := (hK.2.2.2.2.1 p hp).2.2.2.2.1
  have hy : y = -1 ∨ ∃ w, y = nI w ∧ w ≤ tl σ p 4 := by
    by_cases x : y < nI 0
    · left
      have x1 : (-1 : Int32) ≤ y := Int32.not_lt.mp h1
      rw [Int32.le_iff_toInt_le] at x1
      rw [Int32.lt_iff_toInt_lt] at x
      apply Int32.toInt_inj.mp
      have e1 : (-1 : Int32).toInt = -1 := by decide
      have e2 : (nI 0).toInt = 0 := by decide
      omega
    · right
      obtain ⟨j, hj, rfl⟩ := nI_of2 (n := tl σ p 4) (nI_toInt (by omega)) x (Int32.not_lt.mp h2)
      exact ⟨j, rfl, hj⟩
  obtain ⟨ρ, m0, hrel⟩ := act_one (e := 16 + p) (a := 60) (i := p) (v := y) hC0 hr ht hrem f0 fa (by omega) (by omega) (fun κ hV hKκ => hV.u4 hKκ (by omega)) (fun p' hp' e => by rw [show p' = p from by omega]; exact hy) (fun p' hp' e => by omega) (fun e => by omega) (fun e => by omega)
  have hle : n1 ≤ 90000 := by have := r1.1; have := r1.2.1; omega
  refine ⟨true, zup τ 60 p y, zup ρ 183 (16 + p) y, n1, ?_, ?_, hrel, rem_n r0, hle⟩
  · have e1 : CK_isPool σ (nI p) = some true := by
      rcases isPool_c hB.1.1 hB.1.2.1 hK (nI p) with ⟨_, e2⟩ | ⟨_, _, _, e1, _⟩
      · exfalso
        unfold M_isPool at e2
        rw [zgt_e, hK.1.1, show M_isIn (nI p) 0 (nI (nP σ) - 1) = some true from isIn_in (by omega) hp] at e2
        cases e2
      · exact e1
    have k9 : σ (p1 + 9) p = nI (tl σ p 4) := ((hB.1.2.1.2.1 p hp).2.2.1).trans hT4
    have k60 : σ 60 p = σ 183 (16 + p) := (hB.1.2.2.2.1.1.1 p hp).2.2.2
    unfold CK_hand CK_hand_p55
    rw [e1, bt, if_neg h1, ptr_e hB.1.1, zrd_e (by omega) (by omega), k9, if_neg h2, zrd_e (by omega) (by omega), k60, if_neg h3, r0, obs]
    dsimp only
    rw [zwr_e (by omega) (by omega), obs]
  · have das : ∀ a, a ≠ 60 → a ≠ 0 → a ≠ 80 → a < 198 → zup τ 60 p y a = σ a := fun a x1 x2 x3 x4 => by rw [zup_ne x1, fa a x2 x3 x4]
    have e1 : M_isPool (zup τ 60 p y) (nI p) = some true := by
      unfold M_isPool
      rw [zgt_e, das 171 (by omega) (by omega) (by omega) (by omega), hK.1.1, show M_isIn (nI p) 0 (nI (nP σ) - 1) = some true from isIn_in (by omega) hp]
      rfl
    have t4 : M_toldOf (zup τ 60 p y) (nI p) 4 = some (nI (tl σ p 4)) := by
      rw [show (4 : Int32) = nI 4 from rfl, M_toldOf_e (by omega) (by omega), das 172 (by omega) (by omega) (by omega) (by omega), hT4]
    have i1 : M_isIn y (-1) (nI (tl σ p 4)) = some true := by
      unfold M_isIn
      rw [if_neg h1, if_neg h2]
    show M_hand (zup τ 60 p y) (nI p) y = _
    unfold M_hand
    rw [e1, bt, t4, obs, i1, bt, show (16 : Int32) = nI 16 from rfl, nI_add, zrd_e (by omega) (by omega), das 183 (by omega) (by omega) (by omega) (by omega), if_neg (fun e => h3 e.symm), m0, obs, zwr_e (by omega) (by omega)]
theorem a_hand {σ : Sg} {n : Nat} (h : Rel σ n) (x y : Int32) : Acts n (CK_hand n σ x y) (fun τ => M_hand τ x y) := by
  have h0 := h
  obtain ⟨p1, K, t, c, R, q, s, g, L, ⟨hB, hT, _⟩, _⟩ := h0
  have hK := hB.1.2.2.1
  have hP8 := hK.1.2
  have mpl : M_isPool (refC σ 3) x = M_isPool σ x := by
    unfold M_isPool
    rw [zgt_e, zgt_e, refC_ne (by omega)]
  rcases isPool_c hB.1.1 hB.1.2.1 hK x with ⟨e1, e2⟩ | ⟨p, hp, rfl, e1, e2⟩
  · refine acts_nob (k := 3) h (by omega) ?_ ?_
    · unfold CK_hand
      rw [e1, bf]; rfl
    · show M_hand (refC σ 3) x y = _
      unfold M_hand
      rw [mpl, e2, bf]; rfl
  · have hT4 : σ 172 (9 * p + 4) = nI (tl σ p 4) := (hK.2.2.2.1 p hp 4 (by omega)).1
    have k9 : σ (p1 + 9) p = nI (tl σ p 4) := ((hB.1.2.1.2.1 p hp).2.2.1).trans hT4
    have k60 : σ 60 p = σ 183 (16 + p) := (hB.1.2.2.2.1.1.1 p hp).2.2.2
    have t4 : M_toldOf (refC σ 3) (nI p) 4 = some (nI (tl σ p 4)) := by
      rw [show (4 : Int32) = nI 4 from rfl, M_toldOf_e (by omega) (by omega), refC_ne (by omega), hT4]
    by_cases h1 : y < -1
    · have i1 : M_isIn y (-1) (nI (tl σ p 4)) = some false := by
        unfold M_isIn
        rw [if_pos h1]
      refine acts_nob (k := 3) h (by omega) ?_ ?_
      · unfold CK_hand
        rw [e1, bt, if_pos h1]; rfl
      · show M_hand (refC σ 3) (nI p) y = _
        unfold M_hand
        rw [mpl, e2, bt, t4, obs, i1, bf]; rfl
    · by_cases h2 : nI (tl σ p 4) < y
      · have i1 : M_isIn y (-1) (nI (tl σ p 4)) = some false := by
          unfold M_isIn
          rw [if_neg h1, if_pos h2]
        refine acts_nob (k := 3) h (by omega) ?_ ?_
        · unfold CK_hand
          rw [e1, bt, if_neg h1, ptr_e hB.1.1, zrd_e (by omega) (by omega), k9, if_pos h2]; rfl
        · show M_hand (refC σ 3) (nI p) y = _
          unfold M_hand
          rw [mpl, e2, bt, t4, obs, i1, bf]; rfl
      · by_cases h3 : y = σ 183 (16 + p)
        · have i1 : M_isIn y (-1) (nI (tl σ p 4)) = some true := by
            unfold M_isIn
            rw [if_neg h1, if_neg h2]
          refine acts_nob (k := 3) h (by omega) ?_ ?_
          · unfold CK_hand
            rw [e1, bt, if_neg h1, ptr_e hB.1.1, zrd_e (by omega) (by omega), k9, if_neg h2, zrd_e (by omega) (by omega), k60, if_pos h3]; rfl
          · show M_hand (refC σ 3) (nI p) y = _
            unfold M_hand
            rw [mpl, e2, bt, t4, obs, i1, bt, show (16 : Int32) = nI 16 from rfl, nI_add, zrd_e (by omega) (by omega), refC_ne (by omega), if_pos h3.symm]; rfl
        · exact hand_yes h hp h1 h2 h3
