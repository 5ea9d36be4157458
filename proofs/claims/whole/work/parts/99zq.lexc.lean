/-! reading: the class's pieces -/
def Cx (τ : Sg) (B : Nat → Nat) (L a : Nat) : Prop := (a ≤ L ∧ L ≤ 1600) ∧ (∀ i, i < L → τ 1 i = cv (B i) ∧ B i < 256) ∧ τ 2 0 = nI 2 ∧ τ 2 1 = nI L ∧ τ 2 2 = nI a ∧ τ 2 3 = nI (tg B a) ∧ (τ 2 6 = nI 0 ∧ τ 2 7 = -1)
theorem c67_up {τ : Sg} {k : Nat} {v : Int32} (h : τ 2 6 = nI 0 ∧ τ 2 7 = -1) (hk : k ≠ 6 ∧ k ≠ 7) : zup τ 2 k v 2 6 = nI 0 ∧ zup τ 2 k v 2 7 = -1 := ⟨by rw [zup_miss (by omega)]; exact h.1, by rw [zup_miss (by omega)]; exact h.2⟩
def CF (τ τ' : Sg) : Prop := (∀ a, a ≠ 2 → τ' a = τ a) ∧ ∀ k, k = 0 ∨ k = 1 ∨ k = 5 → τ' 2 k = τ 2 k
theorem CF.refl (τ : Sg) : CF τ τ := ⟨fun _ _ => rfl, fun _ _ => rfl⟩
theorem CF.trans {σ τ υ : Sg} (h : CF σ τ) (g : CF τ υ) : CF σ υ := ⟨fun a ha => (g.1 a ha).trans (h.1 a ha), fun k hk => (g.2 k hk).trans (h.2 k hk)⟩
theorem CF.up {τ : Sg} {k : Nat} {v : Int32} (h : k ≠ 0 ∧ k ≠ 1 ∧ k ≠ 5) : CF τ (zup τ 2 k v) := ⟨fun a ha => zup_ne ha, fun j hj => zup_miss (by omega)⟩
theorem zbl0 {α : Type} (k : Option α) : zbo 0 k = k := zbo_0 k
theorem zbl1 {α : Type} (k : Option α) : zbo 1 k = k := zbo_1 k
theorem zmrh {α : Type} {p : Nat} {v : Int32} {k : Option α} (h : v = nI (p + 1)) : zmr1 p v k = k := if_pos h
theorem blk_n {b : Nat} (hb : b < 256) (h : blk b = false) : ¬ cv b = 10 ∧ ¬ cv b = 32 := by
  have h1 : ¬ (b = 10 ∨ b = 32) := of_decide_eq_false h
  refine ⟨fun e => h1 (Or.inl ?_), fun e => h1 (Or.inr ?_)⟩
  · exact (cv_eq hb (by omega)).mp e
  · exact (cv_eq hb (by omega)).mp e
theorem c_skip {τ : Sg} {B : Nat → Nat} {L a : Nat} (h : Cx τ B L a) : ∃ τ', Reader_skipBlanks τ = some τ' ∧ CF τ τ' ∧ Cx τ' B L (sk B L a) := by
  have h0 := h
  obtain ⟨⟨hL, hL2⟩, hb, c0, c1, c2, c3, c6⟩ := h
  obtain ⟨s1, s2⟩ := sk_le (B := B) hL
  by_cases e : sk B L a = a
  · refine ⟨τ, ?_, CF.refl τ, by rw [e]; exact h0⟩
    unfold Reader_skipBlanks
    rw [zgt_e, zgt_e, c1, c2]
    rcases Nat.lt_or_ge a L with x | x
    · have hn := sk_out (B := B) (L := L) (a := a) (by omega)
      rw [e] at hn
      obtain ⟨b1, b2⟩ := hb a x
      obtain ⟨n1, n2⟩ := blk_n b2 hn
      rw [if_neg (nI_ge x (by omega)), zmrh c0, zgt_e, c2, zrd_e (by omega) (by omega), b1, if_neg n1, zmrh c0, zgt_e, c2, zrd_e (by omega) (by omega), b1, if_neg n2]
    · rw [if_pos (nI_le x (by omega))]
  · have hlt : a < sk B L a := by omega
    have hbk : ∀ i, a ≤ i → i < sk B L a → blk (B i) = true := fun i x y => sk_in x y
    have hl : Ok (zit (fun (s : Sg) => Reader_skipBlanks_l0 s) zFU (zup (zup τ 2 2 (nI (a + 1))) 2 3 (nI 0))) (fun r => (∀ a, a ≠ 2 → r a = τ a) ∧ (∀ k, k ≠ 2 → k ≠ 3 → r 2 k = τ 2 k) ∧ r 2 2 = nI (sk B L a) ∧ r 2 3 = nI 0) := by
      refine zit_ok (fun j s => (∀ a, a ≠ 2 → s a = τ a) ∧ (∀ k, k ≠ 2 → k ≠ 3 → s 2 k = τ 2 k) ∧ s 2 2 = nI (a + 1 + j) ∧ s 2 3 = nI 0) (sk B L a - a - 1) ?_ ?_ zFU 0 _ (by rw [zFU_e]; omega) (by omega) ⟨fun b hb => by rw [zup_ne hb, zup_ne hb], fun k x y => by rw [zup_miss y, zup_miss x], by rw [zup_miss (by omega), zup_hit], zup_hit⟩
      · rintro j s hj ⟨i1, i2, i3, i4⟩
        have e0 : s 2 0 = nI 2 := by rw [i2 0 (by omega) (by omega)]; exact c0
        have e1 : s 2 1 = nI L := by rw [i2 1 (by omega) (by omega)]; exact c1
        have hk := hbk (a + 1 + j) (by omega) (by omega)
        obtain ⟨b1, b2⟩ := hb (a + 1 + j) (by omega)
        have b1' : s 1 (a + 1 + j) = cv (B (a + 1 + j)) := by rw [i1 1 (by omega)]; exact b1
        have nx : (∀ b, b ≠ 2 → zup (zup s 2 2 (nI (a + 1 + (j + 1)))) 2 3 (nI 0) b = τ b) ∧ (∀ k, k ≠ 2 → k ≠ 3 → zup (zup s 2 2 (nI (a + 1 + (j + 1)))) 2 3 (nI 0) 2 k = τ 2 k) ∧ zup (zup s 2 2 (nI (a + 1 + (j + 1)))) 2 3 (nI 0) 2 2 = nI (a + 1 + (j + 1)) ∧ zup (zup s 2 2 (nI (a + 1 + (j + 1)))) 2 3 (nI 0) 2 3 = nI 0 := ⟨fun b hb => by rw [zup_ne hb, zup_ne hb]; exact i1 b hb, fun k x y => by rw [zup_miss y, zup_miss x]; exact i2 k x y, by rw [zup_miss (by omega), zup_hit], zup_hit⟩
        unfold Reader_skipBlanks_l0
        rw [zgt_e, zgt_e, e1, i3, if_neg (nI_ge (by omega) (by omega)), zmrh e0, zgt_e, i3, zrd_e (by omega) (by omega), b1']
        have go : (zgt s 2 2 fun v41 => zpt s 2 2 (v41 + 1) fun σ46 => zbo 0 <| zpt σ46 2 3 0 fun σ51 => (some (.inl σ51) : Option (Sg ⊕ Sg))) = some (.inl (zup (zup s 2 2 (nI (a + 1 + (j + 1)))) 2 3 (nI 0))) := by
          rw [zgt_e, i3, zpt_e, show nI (a + 1 + j) + 1 = nI (a + 1 + (j + 1)) from nI_add (a + 1 + j) 1, zbl0, zpt_e]
          rfl
        have hd : B (a + 1 + j) = 10 ∨ B (a + 1 + j) = 32 := of_decide_eq_true hk
        rcases hd with hd | hd
        · rw [if_pos (show cv (B (a + 1 + j)) = 10 from (cv_eq b2 (show 10 < 128 by omega)).mpr hd), go]
          exact Ok.some nx
        · rw [if_neg (show ¬ cv (B (a + 1 + j)) = 10 from fun e => by have := (cv_eq b2 (show 10 < 128 by omega)).mp e; omega), zmrh e0, zgt_e, i3, zrd_e (by omega) (by omega), b1', if_pos (show cv (B (a + 1 + j)) = 32 from (cv_eq b2 (show 32 < 128 by omega)).mpr hd), go]
          exact Ok.some nx
      · rintro s ⟨i1, i2, i3, i4⟩
        have e0 : s 2 0 = nI 2 := by rw [i2 0 (by omega) (by omega)]; exact c0
        have e1 : s 2 1 = nI L := by rw [i2 1 (by omega) (by omega)]; exact c1
        rw [show a + 1 + (sk B L a - a - 1) = sk B L a from by omega] at i3
        unfold Reader_skipBlanks_l0
        rw [zgt_e, zgt_e, e1, i3]
        rcases Nat.lt_or_ge (sk B L a) L with x | x
        · obtain ⟨b1, b2⟩ := hb (sk B L a) x
          have b1' : s 1 (sk B L a) = cv (B (sk B L a)) := by rw [i1 1 (by omega)]; exact b1
          obtain ⟨n1, n2⟩ := blk_n b2 (sk_out x)
          rw [if_neg (nI_ge x (by omega)), zmrh e0, zgt_e, i3, zrd_e (by omega) (by omega), b1', if_neg n1, zmrh e0, zgt_e, i3, zrd_e (by omega) (by omega), b1', if_neg n2]
          exact Ok.some ⟨i1, i2, i3, i4⟩
        · rw [if_pos (nI_le x (by omega))]
          exact Ok.some ⟨i1, i2, i3, i4⟩
    obtain ⟨r, z1, z2, z3, z4, z5⟩ := hl
    have j39 : Reader_skipBlanks_j39 τ = some r := by
      unfold Reader_skipBlanks_j39
      rw [zgt_e, c2, zpt_e, show nI a + 1 = nI (a + 1) from nI_add a 1, zbl0, zpt_e, show (0 : Int32) = nI 0 from rfl, z1, obs]
    have ht : tg B (sk B L a) = 0 := tg_blk (hbk _ (by omega) (by omega))
    refine ⟨r, ?_, ⟨z2, fun k hk => z3 k (by omega) (by omega)⟩, ⟨s2, hL2⟩, fun i hi => by rw [z2 1 (by omega)]; exact hb i hi, by rw [z3 0 (by omega) (by omega)]; exact c0, by rw [z3 1 (by omega) (by omega)]; exact c1, z4, by rw [ht]; exact z5, by rw [z3 6 (by omega) (by omega), z3 7 (by omega) (by omega)]; exact c6⟩
    obtain ⟨b1, b2⟩ := hb a (by omega)
    have hd : B a = 10 ∨ B a = 32 := of_decide_eq_true (hbk a (by omega) hlt)
    unfold Reader_skipBlanks
    rw [zgt_e, zgt_e, c1, c2, if_neg (nI_ge (by omega) (by omega)), zmrh c0, zgt_e, c2, zrd_e (by omega) (by omega), b1]
    rcases hd with hd | hd
    · rw [if_pos (show cv (B a) = 10 from (cv_eq b2 (show 10 < 128 by omega)).mpr hd), j39]
    · rw [if_neg (show ¬ cv (B a) = 10 from fun e => by have := (cv_eq b2 (show 10 < 128 by omega)).mp e; omega), zmrh c0, zgt_e, c2, zrd_e (by omega) (by omega), b1, if_pos (show cv (B a) = 32 from (cv_eq b2 (show 32 < 128 by omega)).mpr hd), j39]
theorem c_wordEnd {τ : Sg} {B : Nat → Nat} {L a : Nat} (h0 : τ 2 0 = nI 2) (h1 : τ 2 1 = nI L) (hb : ∀ i, i < L → τ 1 i = cv (B i) ∧ B i < 256) (hL2 : L ≤ 1600) (ha : a ≤ L) : Reader_wordEnd τ (nI a) = some (nI (we B L a)) := by
  obtain ⟨s1, s2⟩ := we_le (B := B) ha
  have hl : zit (fun (s : Int32) => Reader_wordEnd_l2 τ s) zFU (nI (a + 0)) = some (nI (we B L a)) := by
    refine zit_eq (fun j => nI (a + j)) _ (we B L a - a) 0 (by omega) (fun j _ hj => ?_) ?_ zFU 0 (by rw [zFU_e]; omega) (by omega) (by omega)
    · obtain ⟨b1, b2⟩ := hb (a + j) (by omega)
      unfold Reader_wordEnd_l2
      rw [zgt_e, h1, if_neg (nI_ge (by omega) (by omega)), zmrh h0, zrd_e (by omega) (by omega), b1, cv_ltr b2, we_in (a := a) (L := L) (by omega) (by omega), bt, zlt_e, show nI (a + j) + 1 = nI (a + (j + 1)) from nI_add (a + j) 1]
    · rw [show a + (we B L a - a) = we B L a from by omega]
      unfold Reader_wordEnd_l2
      rw [zgt_e, h1]
      rcases Nat.lt_or_ge (we B L a) L with x | x
      · obtain ⟨b1, b2⟩ := hb (we B L a) x
        rw [if_neg (nI_ge x (by omega)), zmrh h0, zrd_e (by omega) (by omega), b1, cv_ltr b2, we_out x, bf]
      · rw [if_pos (nI_le x (by omega))]
  unfold Reader_wordEnd
  have hl' : zit (fun (s : Int32) => Reader_wordEnd_l2 τ s) zFU (nI a) = some (nI (we B L a)) := hl
  rw [hl', obs]
theorem c_stands {τ : Sg} {B : Nat → Nat} {L a x : Nat} (h : Cx τ B L a) (hx : x < 20) : ∃ b, Reader_stands τ (kx x) = some b ∧ (b = true ↔ isW B a (we B L a) x) := by
  obtain ⟨⟨hL, hL2⟩, hb, c0, c1, c2, c3, c6⟩ := h
  obtain ⟨w1, w2, w3, w4, w5, w6, w7, w8⟩ := w_tab hx
  obtain ⟨s1, s2⟩ := we_le (B := B) hL
  have hz : zSL (kx x) = nI (wln x) := by unfold zSL; rw [w7]; rfl
  unfold Reader_stands
  rw [zgt_e, c2, c_wordEnd c0 c1 hb hL2 hL, obs, zgt_e, c2, hz, nI_add]
  by_cases e : we B L a = a + wln x
  · rw [if_pos (congrArg nI e), zlt_e, show (0 : Int32) = nI 0 from rfl]
    have hl : Ok (zit (fun (s : Int32) => Reader_stands_l24 τ (kx x) s) zFU (nI 0)) (fun r => (r = .inl false ∧ ¬ isW B a (we B L a) x) ∨ ((∃ y, r = .inr y) ∧ isW B a (we B L a) x)) := by
      refine zit_ok (fun j s => s = nI j ∧ ∀ i, i < j → B (a + i) = own (wst x + i) + 96) (wln x) ?_ ?_ zFU 0 _ (by rw [zFU_e]; omega) (by omega) ⟨rfl, fun i hi => by omega⟩
      · rintro j s hj ⟨rfl, i2⟩
        obtain ⟨b1, b2⟩ := hb (a + j) (by omega)
        have hsc : ∀ (f : Int32 → Option (Int32 ⊕ (Bool ⊕ Int32))), zsc (kx x) (nI j) f = f (nI (own (wst x + j) + 96)) := by
          intro f
          unfold zsc
          rw [nI_clamp (by omega), w7, if_neg, w8 j hj]
          rintro (y | y)
          · exact nI_nlt (a := j) (b := 0) (by omega) (by omega) y
          · omega
        have ho := w6 j hj
        unfold Reader_stands_l24
        rw [hz, if_neg (nI_ge hj (by omega)), zmrh c0, zgt_e, c2, nI_add, zrd_e (by omega) (by omega), b1, hsc]
        by_cases q : B (a + j) = own (wst x + j) + 96
        · rw [if_pos ((cv_eq b2 (by omega)).mpr q), zlt_e]
          refine Ok.some ⟨nI_add j 1, fun i hi => ?_⟩
          by_cases e2 : i = j
          · subst e2; exact q
          · exact i2 i (by omega)
        · rw [if_neg (fun y => q ((cv_eq b2 (by omega)).mp y))]
          exact Ok.some (Or.inl ⟨rfl, fun y => q (y.2 j hj)⟩)
      · rintro s ⟨rfl, i2⟩
        unfold Reader_stands_l24
        rw [hz, if_pos (nI_le (Nat.le_refl _) (by omega))]
        exact Ok.some (Or.inr ⟨⟨_, rfl⟩, by omega, i2⟩)
    obtain ⟨r, z1, z2⟩ := hl
    rw [z1, obs]
    rcases z2 with ⟨rfl, z3⟩ | ⟨⟨y, rfl⟩, z3⟩
    · exact ⟨false, rfl, fun y => absurd y (by decide), fun y => absurd y z3⟩
    · exact ⟨true, rfl, fun _ => z3, fun _ => rfl⟩
  · rw [if_neg (fun y => e ((nI_eq (by omega) (by omega)).mp y))]
    exact ⟨false, rfl, fun y => absurd y (by decide), fun y => absurd y.1 (by omega)⟩
theorem c_fail {τ : Sg} (k p : Int32) : Reader_fail τ k p = some (false, zup (zup τ 2 6 k) 2 7 p) := by
  unfold Reader_fail
  rw [zpt_e, zpt_e]
theorem c_failF {τ : Sg} (k p : Int32) : CF τ (zup (zup τ 2 6 k) 2 7 p) := (CF.up (by omega)).trans (CF.up (by omega))
def WdOk (B : Nat → Nat) (L a x : Nat) : Prop := tg B (sk B L a) = 0 ∧ isW B (sk B L a) (we B L (sk B L a)) x
theorem tg_we {B : Nat → Nat} {L a : Nat} (h : a < we B L a) : tg B (we B L a) = 1 := by
  unfold tg
  rw [if_pos]
  exact ⟨by omega, Or.inl (we_in (a := a) (L := L) (by omega) (by omega))⟩
theorem c_word {τ : Sg} {B : Nat → Nat} {L a x : Nat} (h : Cx τ B L a) (hx : x < 20) : ∃ b τ', Reader_readWord τ (kx x) = some (b, τ') ∧ CF τ τ' ∧ ((b = true ∧ WdOk B L a x ∧ Cx τ' B L (we B L (sk B L a))) ∨ (b = false ∧ ¬ WdOk B L a x ∧ τ' 2 6 = nI 1 ∧ τ' 2 7 = nI (sk B L a))) := by
  obtain ⟨τ1, a1, a2, a3⟩ := c_skip h
  have a30 := a3
  obtain ⟨⟨hL, hL2⟩, hb, c0, c1, c2, c3, c6⟩ := a3
  obtain ⟨w1, w2, w3, w4, w5, w6, w7, w8⟩ := w_tab hx
  have hz : zSL (kx x) = nI (wln x) := by unfold zSL; rw [w7]; rfl
  obtain ⟨s1, s2⟩ := we_le (B := B) hL
  unfold Reader_readWord
  rw [a1, obs, zgt_e, c3]
  rcases tg_01 B (sk B L a) with t | t
  · rw [t, if_pos (show nI 0 = 0 from rfl)]
    obtain ⟨b, k1, k2⟩ := c_stands a30 hx
    cases b
    · rw [k1, bf, zgt_e, c2, c_fail, obs]
      dsimp only
      refine ⟨_, _, rfl, a2.trans (c_failF _ _), Or.inr ⟨rfl, fun y => absurd (k2.mpr y.2) (by decide), by rw [zup_miss (by omega), zup_hit]; rfl, zup_hit⟩⟩
    · have k3 := k2.mp rfl
      have e : sk B L a + wln x = we B L (sk B L a) := by have := k3.1; omega
      rw [k1, bt, zgt_e, c2, hz, nI_add, e, zpt_e, zbl1, zpt_e]
      refine ⟨_, _, rfl, a2.trans ((CF.up (by omega)).trans (CF.up (by omega))), Or.inl ⟨rfl, ⟨t, k3⟩, ⟨s2, hL2⟩, fun i hi => by rw [zup_ne (by omega), zup_ne (by omega)]; exact hb i hi, ?_, ?_, ?_, ?_, ?_⟩⟩
      · rw [zup_miss (by omega), zup_miss (by omega)]; exact c0
      · rw [zup_miss (by omega), zup_miss (by omega)]; exact c1
      · rw [zup_miss (by omega), zup_hit]
      · rw [zup_hit, tg_we (by omega)]; rfl
      · exact c67_up (c67_up c6 (by omega)) (by omega)
  · rw [t, if_neg (show ¬ nI 1 = 0 by decide), zgt_e, c2, c_fail, obs]
    dsimp only
    refine ⟨_, _, rfl, a2.trans (c_failF _ _), Or.inr ⟨rfl, fun y => absurd y.1 (by omega), by rw [zup_miss (by omega), zup_hit]; rfl, zup_hit⟩⟩
def SgOk (B : Nat → Nat) (L a c : Nat) : Prop := sk B L a < L ∧ B (sk B L a) = c
theorem c_stSign {τ : Sg} {B : Nat → Nat} {L a c : Nat} (h : Cx τ B L a) (hc : c < 128) : ∃ b τ', Reader_standsSign τ (nI c) = some (b, τ') ∧ CF τ τ' ∧ Cx τ' B L (sk B L a) ∧ (b = true ↔ SgOk B L a c) := by
  obtain ⟨τ1, a1, a2, a3⟩ := c_skip h
  have a30 := a3
  obtain ⟨⟨hL, hL2⟩, hb, c0, c1, c2, c3, c6⟩ := a3
  unfold Reader_standsSign
  rw [a1, obs, zgt_e, zgt_e, c1, c2]
  rcases Nat.lt_or_ge (sk B L a) L with x | x
  · obtain ⟨b1, b2⟩ := hb (sk B L a) x
    rw [if_neg (nI_ge x (by omega)), zmrh c0, zgt_e, c2, zrd_e (by omega) (by omega), b1]
    by_cases e : B (sk B L a) = c
    · rw [if_pos ((cv_eq b2 hc).mpr e)]
      exact ⟨_, _, rfl, a2, a30, fun _ => ⟨x, e⟩, fun _ => rfl⟩
    · rw [if_neg (fun y => e ((cv_eq b2 hc).mp y))]
      exact ⟨_, _, rfl, a2, a30, fun y => absurd y (by decide), fun y => absurd y.2 e⟩
  · rw [if_pos (nI_le x (by omega))]
    exact ⟨_, _, rfl, a2, a30, fun y => absurd y (by decide), fun y => absurd y.1 (by omega)⟩
theorem c_sign {τ : Sg} {B : Nat → Nat} {L a c : Nat} (h : Cx τ B L a) (hc : c = 59 ∨ c = 44) : ∃ b τ', Reader_readSign τ (nI c) = some (b, τ') ∧ CF τ τ' ∧ ((b = true ∧ SgOk B L a c ∧ Cx τ' B L (sk B L a + 1) ∧ tg B (sk B L a + 1) = 0) ∨ (b = false ∧ ¬ SgOk B L a c ∧ τ' 2 6 = nI 1 ∧ τ' 2 7 = nI (sk B L a))) := by
  obtain ⟨b, τ1, a1, a2, a3, a4⟩ := c_stSign h (show c < 128 by omega)
  obtain ⟨⟨hL, hL2⟩, hb, c0, c1, c2, c3, c6⟩ := a3
  unfold Reader_readSign
  rw [a1, obs]
  dsimp only
  cases b
  · rw [if_pos (show zb false = 0 from rfl), zgt_e, c2, c_fail, obs]
    dsimp only
    exact ⟨_, _, rfl, a2.trans (c_failF _ _), Or.inr ⟨rfl, fun y => absurd (a4.mpr y) (by decide), by rw [zup_miss (by omega), zup_hit]; rfl, zup_hit⟩⟩
  · have k := a4.mp rfl
    have ht : tg B (sk B L a + 1) = 0 := by
      unfold tg
      rw [if_neg]
      intro y
      rw [Nat.add_sub_cancel, k.2] at y
      rcases y.2 with y | y
      · have := ltr_t y; omega
      · have := dgt_t y; omega
    rw [if_neg (show ¬ zb true = 0 by decide), zgt_e, c2, show nI (sk B L a) + 1 = nI (sk B L a + 1) from nI_add _ 1, zpt_e, zbl0, zpt_e]
    refine ⟨_, _, rfl, a2.trans ((CF.up (by omega)).trans (CF.up (by omega))), Or.inl ⟨rfl, k, ⟨⟨by have := k.1; omega, hL2⟩, fun i hi => by rw [zup_ne (by omega), zup_ne (by omega)]; exact hb i hi, ?_, ?_, ?_, ?_, ?_⟩, ht⟩⟩
    · rw [zup_miss (by omega), zup_miss (by omega)]; exact c0
    · rw [zup_miss (by omega), zup_miss (by omega)]; exact c1
    · rw [zup_miss (by omega), zup_hit]
    · rw [zup_hit, ht]; rfl
    · exact c67_up (c67_up c6 (by omega)) (by omega)
