/-! see -/
def tbN (σ : Sg) (i : Nat) : Nat := (σ 186 i).toNatClampNeg
theorem Tp.at {σ : Sg} {L i : Nat} (h : Tp σ L) (hi : i < L) : σ 186 i = nI (tbN σ i) ∧ tbN σ i < 256 ∧ σ 1 i &&& 255 = nI (tbN σ i) ∧ σ 1 i = if tbN σ i < 128 then nI (tbN σ i) else nI (tbN σ i) - nI 256 := by
  have ht := h.2.2.2 i hi
  have ha := ht.and
  obtain ⟨b, h1, h2, h3⟩ := ht
  have e : tbN σ i = b := by unfold tbN; rw [h2, nI_clamp (by omega)]
  rw [e]
  exact ⟨h2, h1, by rw [ha, h2], h3⟩
theorem see_core {σ υ : Sg} {n p1 K t c R q R' q' : Nat} {s s' : Nat → Nat} (h : Cor σ n p1 K t c R q s) (ht : σ 171 25 = nI 1) (k0 : ∀ k, k = 3 ∨ k = 4 ∨ k = 5 ∨ k = 10 ∨ k = 11 → υ 0 k = σ 0 k)
    (ka : ∀ a, (3 ≤ a ∧ a < 65) ∨ (72 < a ∧ a < 81) ∨ (171 < a ∧ a < 177) ∨ a = 183 ∨ a = 185 ∨ 197 < a → υ a = σ a) (k171 : ∀ k, k = 0 ∨ k = 1 ∨ k = 2 ∨ k = 23 ∨ k = 25 ∨ k = 26 → υ 171 k = σ 171 k) (hS : Seen υ R' q' s') : Cor υ n p1 K t c R' q' s' := by
  obtain ⟨⟨⟨⟨hp1, e3, e4⟩, hR, hK, hM⟩, hq, hgn⟩, hT, hz, hNm, hRg, _⟩ := h
  have me : MEq σ υ := ⟨⟨k171 0 (by omega), k171 1 (by omega), k171 2 (by omega)⟩, ⟨ka 172 (by omega), ka 173 (by omega), ka 174 (by omega)⟩, ka 183 (by omega)⟩
  have hg := me.e_Gain (hgn (Or.inr ht))
  refine ⟨⟨⟨⟨hp1, by rw [k0 3 (by omega)]; exact e3, by rw [k0 4 (by omega)]; exact e4⟩, ?_, me.e_InvK hK, ?_⟩, by rw [k171 26 (by omega)]; exact hq, fun _ => hg⟩, ?_, fun i hi => by rw [ka 183 (by omega)]; exact hz i hi, ?_, ?_, hS⟩
  · exact me.e_RepK (hR.rows hK.2.2.1.2 (fun a h1 h2 => ka a (by omega)))
  · exact me.e_Mom (hM.rows (fun a h1 h2 h3 => ka a (by omega)))
  · exact ⟨by rw [k0 5 (by omega), k171 25 (by omega)]; exact hT.1, Or.inl ⟨by rw [k171 25 (by omega)]; exact ht, hg⟩⟩
  · obtain ⟨n1, n2⟩ := hNm
    unfold RepNm
    rw [me.e_nP, me.e_nO]
    exact ⟨n1.rows (ka 175 (by omega)) (ka _ (by omega)), n2.rows (ka 176 (by omega)) (ka _ (by omega))⟩
  · exact hRg.keep ⟨k0 10 (by omega), k0 11 (by omega)⟩ (ka 80 (by omega)) (fun a ha => ka a (by omega)) me.1 me.2.1 (k171 23 (by omega)) (ka 185 (by omega))
theorem refC_cut {σ : Sg} {k : Nat} {v : Int32} : zup (refC σ k) 171 28 v = refC (zup σ 171 28 v) k := by
  unfold refC
  rw [zup_comm (by omega), zup_ne (show (170 : Nat) ≠ 171 by omega)]
theorem rel_cut {σ : Sg} {n : Nat} (h : Rel σ n) : Rel (zup (zup σ 0 1 (nI 0)) 171 28 (nI 0)) n := by
  have h0 := h
  obtain ⟨p1, K, t, c, R, q, s, g, L, hC, ⟨_, ⟨t1, t2, _⟩, _⟩⟩ := h0
  exact rel_tape h ⟨L, t2, t1, Nat.zero_le _⟩
theorem see_j34 {σ : Sg} (x1 x2 : Int32) : M_see_j34 σ x1 x2 0 = (M_refuses σ (nI 5)).bind fun r => some (r.1, r.2) := by
  have hl : zit (fun (s : (Int32 × Int32)) => M_see_l38 σ x1 x2 s.1 s.2) zFU (0, 0) = some (0, 0) := by
    refine zit_eq (fun _ => ((0, 0) : Int32 × Int32)) (0, 0) 0 0 (by omega) (fun j _ hj => by omega) ?_ zFU 0 (by rw [zFU_e]; omega) (by omega) (by omega)
    show M_see_l38 σ x1 x2 0 0 = _
    unfold M_see_l38
    split
    · rfl
    · exact if_pos rfl
  unfold M_see_j34 M_see_j68
  rw [zlt_e, hl, obs]
  exact if_pos rfl
theorem see_no {σ : Sg} {n : Nat} (h : Rel σ n) {c : Option (Int32 × Sg)} {m : Sg → Option (Int32 × Sg)} (h1 : c = (CK_refuse (zup σ 0 1 (nI 0)) (nI 5)).bind fun r => some (r.1, r.2)) (h2 : m (refC (zup σ 0 1 (nI 0)) 5) = (M_refuses (zup (refC (zup σ 0 1 (nI 0)) 5) 171 28 (nI 0)) (nI 5)).bind fun r => some (r.1, r.2)) : Calls n c m := by
  rw [ref_c (by omega), obs] at h1
  rw [ref_m (by omega), obs] at h2
  refine ⟨-1, _, _, h1, h2, ?_⟩
  rw [refC_cut]
  exact rel_ref (rel_cut h) (by omega)
/-- all rows of the tape tell a step -/
def tells3 (σ : Sg) (R : Nat) : Prop := ∀ j, j < R → 1 ≤ tbN σ (3 * j) ∧ tbN σ (3 * j) ≤ 40
theorem tell_c {σ τ : Sg} {L R : Nat} (hT : Tp σ L) (h1 : τ 1 = σ 1) (hL : L = 3 * R) (hR : R ≤ 10) :
    Ok (zit (fun (s : Int32) => Sight_isTelling_l21 τ 1 1600 (nI L) s) zFU (nI 0)) (fun r => (r = .inl false ∧ ¬ tells3 σ R) ∨ ((∃ x, r = .inr x) ∧ tells3 σ R)) := by
  have hL16 := hT.1
  refine zit_ok (fun j s => s = nI (3 * j) ∧ tells3 σ j) R ?_ ?_ zFU 0 _ (by rw [zFU_e]; omega) (by omega) ⟨rfl, fun j hj => by omega⟩
  · rintro j s hj ⟨rfl, i2⟩
    obtain ⟨a1, a2, a3, _⟩ := hT.at (i := 3 * j) (by omega)
    unfold Sight_isTelling_l21
    rw [if_neg (nI_ge (by omega) (by omega)), zrd_e (by omega) (by omega), h1, a3, zlt_e]
    by_cases c1 : tbN σ (3 * j) < 1
    · rw [if_pos (show nI (tbN σ (3 * j)) < 1 from (nI_lt c1 (by omega) : _ < nI 1))]
      exact Ok.some (Or.inl ⟨rfl, fun e => absurd (e j hj).1 (by omega)⟩)
    · rw [if_neg (show ¬ nI (tbN σ (3 * j)) < 1 from (nI_nlt (by omega) (by omega) : ¬ _ < nI 1))]
      by_cases c2 : tbN σ (3 * j) ≤ 40
      · rw [if_pos (show nI (tbN σ (3 * j)) ≤ 40 from (nI_le c2 (by omega) : _ ≤ nI 40)), zlt_e]
        refine Ok.some ⟨?_, fun i hi => ?_⟩
        · rw [show (3 : Int32) = nI 3 from rfl, nI_add]; rfl
        · by_cases e : i = j
          · subst e; exact ⟨by omega, c2⟩
          · exact i2 i (by omega)
      · rw [if_neg (show ¬ nI (tbN σ (3 * j)) ≤ 40 from (nI_ge (by omega) (by omega) : ¬ _ ≤ nI 40))]
        exact Ok.some (Or.inl ⟨rfl, fun e => absurd (e j hj).2 (by omega)⟩)
  · rintro s ⟨rfl, i2⟩
    unfold Sight_isTelling_l21
    rw [if_pos (nI_le (by omega) (by omega))]
    exact Ok.some (Or.inr ⟨⟨_, rfl⟩, i2⟩)
theorem tell_m {σ τ : Sg} {L R : Nat} (x1 : Int32) (hT : Tp σ L) (h1 : τ 186 = σ 186) (hL : L = 3 * R) (hR : R ≤ 10) :
    Ok (zit (fun (s : (Int32 × Int32)) => M_see_l38 τ x1 (nI L) s.1 s.2) zFU (1, nI 0)) (fun r => (r.1 = 0 ∧ ¬ tells3 σ R) ∨ (r.1 = 1 ∧ tells3 σ R)) := by
  have hL16 := hT.1
  refine zit_ok (fun j s => (s = (1, nI (3 * j)) ∧ tells3 σ j) ∨ (s.1 = 0 ∧ ¬ tells3 σ R)) R ?_ ?_ zFU 0 _ (by rw [zFU_e]; omega) (by omega) (Or.inl ⟨rfl, fun j hj => by omega⟩)
  · rintro j s hj (⟨rfl, i2⟩ | ⟨i1, i2⟩)
    · obtain ⟨a1, a2, a3, _⟩ := hT.at (i := 3 * j) (by omega)
      show Ok (M_see_l38 τ x1 (nI L) 1 (nI (3 * j))) _
      unfold M_see_l38
      rw [if_neg (nI_ge (by omega) (by omega)), if_neg (by decide), zrd_e (by omega) (by omega), h1, a1, show (1 : Int32) = nI 1 from rfl, show (40 : Int32) = nI 40 from rfl, M_isIn_e (by omega) (by omega) (by omega), obs, zlt_e, zlt_e, show (3 : Int32) = nI 3 from rfl, nI_add]
      by_cases c1 : 1 ≤ tbN σ (3 * j) ∧ tbN σ (3 * j) ≤ 40
      · refine Ok.some (Or.inl ⟨?_, fun i hi => ?_⟩)
        · rw [decide_eq_true c1]; rfl
        · by_cases e : i = j
          · subst e; exact c1
          · exact i2 i (by omega)
      · refine Ok.some (Or.inr ⟨?_, fun e => c1 (e j hj)⟩)
        rw [decide_eq_false c1]; rfl
    · obtain ⟨y1, y2⟩ := s
      have y0 : y1 = 0 := i1
      subst y0
      show Ok (M_see_l38 τ x1 (nI L) 0 y2) _
      unfold M_see_l38
      split
      · exact Ok.some (Or.inl ⟨rfl, i2⟩)
      · exact Ok.some (Or.inl ⟨rfl, i2⟩)
  · rintro s (⟨rfl, i2⟩ | ⟨i1, i2⟩)
    · show Ok (M_see_l38 τ x1 (nI L) 1 (nI (3 * R))) _
      unfold M_see_l38
      rw [if_pos (nI_le (by omega) (by omega))]
      exact Ok.some (Or.inr ⟨rfl, i2⟩)
    · obtain ⟨y1, y2⟩ := s
      have y0 : y1 = 0 := i1
      subst y0
      show Ok (M_see_l38 τ x1 (nI L) 0 y2) _
      unfold M_see_l38
      split
      · exact Ok.some (Or.inl ⟨rfl, i2⟩)
      · exact Ok.some (Or.inl ⟨rfl, i2⟩)
theorem take_c {σ τ : Sg} {L R p : Nat} (hT : Tp σ L) (h1 : τ 1 = σ 1) (hL : L = 3 * R) (hR : R ≤ 10) :
    ∃ τ', Sight_take τ (nI p) 1 1600 (nI L) = some τ' ∧ (∀ a, a < 124 ∨ 126 < a → τ' a = τ a) ∧ τ' 124 0 = nI R ∧ τ' 124 1 = nI p ∧ ∀ j, j < R → τ' 125 j = nI (tbN σ (3 * j)) ∧ τ' 126 j = nI (tbN σ (3 * j + 1) * 256 + tbN σ (3 * j + 2)) := by
  have hL16 := hT.1
  generalize hτ0 : zup (zup τ 124 1 (nI p)) 124 0 (nI R) = τ0
  have z0 : τ0 124 0 = nI R := by rw [← hτ0, zup_hit]
  have z1 : τ0 124 1 = nI p := by rw [← hτ0, zup_miss (by omega), zup_hit]
  have zr : ∀ a, a ≠ 124 → τ0 a = τ a := fun a ha => by rw [← hτ0, zup_ne ha, zup_ne ha]
  have hl := zit_cnt (b := fun (s : (Sg × Int32)) => Sight_take_l20 s.1 1 1600 s.2) (fun j υ => (∀ a, a ≠ 125 → a ≠ 126 → υ a = τ0 a) ∧ ∀ i, i < j → υ 125 i = nI (tbN σ (3 * i)) ∧ υ 126 i = nI (tbN σ (3 * i + 1) * 256 + tbN σ (3 * i + 2))) nI R (σ := τ0) (by omega)
    ⟨fun _ _ _ => rfl, fun i hi => by omega⟩ (by
    rintro j υ hj ⟨i1, i2⟩
    obtain ⟨_, a2, a3, _⟩ := hT.at (i := 3 * j) (by omega)
    obtain ⟨_, b2, b3, _⟩ := hT.at (i := 3 * j + 1) (by omega)
    obtain ⟨_, c2, c3, _⟩ := hT.at (i := 3 * j + 2) (by omega)
    have e0 : υ 124 0 = nI R := by rw [i1 124 (by omega) (by omega)]; exact z0
    have e1 : υ 1 = σ 1 := by rw [i1 1 (by omega) (by omega), zr 1 (by omega), h1]
    refine ⟨zup (zup υ 125 j (nI (tbN σ (3 * j)))) 126 j (nI (tbN σ (3 * j + 1) * 256 + tbN σ (3 * j + 2))), ?_, fun a x1 x2 => by rw [zup_ne x2, zup_ne x1]; exact i1 a x1 x2, fun i hi => ?_⟩
    · show Sight_take_l20 υ 1 1600 (nI j) = _
      unfold Sight_take_l20
      rw [zgt_e, e0, if_neg (nI_ge hj (by omega)), show (3 : Int32) = nI 3 from rfl, nI_mul, Nat.mul_comm j 3, zrd_e (by omega) (by omega), e1, a3, zwr_e (by omega) (by omega), show (1 : Int32) = nI 1 from rfl, nI_add, zrd_e (by omega) (by omega), zup_ne (by omega), e1, b3, show (2 : Int32) = nI 2 from rfl, nI_add, zrd_e (by omega) (by omega), zup_ne (by omega), e1, c3, show (256 : Int32) = nI 256 from rfl, nI_mul, nI_add, zwr_e (by omega) (by omega), zlt_e, nI_add]
    · by_cases e : i = j
      · subst e; rw [zup_ne (by omega), zup_hit, zup_hit]; exact ⟨rfl, rfl⟩
      · rw [zup_ne (by omega), zup_miss e, zup_miss e, zup_ne (by omega)]; exact i2 i (by omega)) (by
    rintro υ ⟨i1, _⟩
    have e0 : υ 124 0 = nI R := by rw [i1 124 (by omega) (by omega)]; exact z0
    show Sight_take_l20 υ 1 1600 (nI R) = _
    unfold Sight_take_l20
    rw [zgt_e, e0, if_pos (nI_le (Nat.le_refl _) (by omega))])
  obtain ⟨υ, e, i1, i2⟩ := hl
  refine ⟨υ, ?_, fun a ha => by rw [i1 a (by omega) (by omega), zr a (by omega)], by rw [i1 124 (by omega) (by omega)]; exact z0, by rw [i1 124 (by omega) (by omega)]; exact z1, i2⟩
  have hd : (if (10 : Int32) < nI L / 3 then 10 else nI L / 3) = nI R := by
    rw [show (3 : Int32) = nI 3 from rfl, nI_div (by omega) (by omega) (by omega), hL, Nat.mul_div_cancel_left R (by omega)]
    exact if_neg (nI_nlt (a := 10) (b := R) hR (by omega))
  unfold Sight_take
  rw [zpt_e, zpt_e, hd, hτ0, zlt_e, show (0 : Int32) = nI 0 from rfl, e, obs]
theorem take_m {σ τ : Sg} {L R p : Nat} (hT : Tp σ L) (h1 : τ 186 = σ 186) (hL : L = 3 * R) (hR : R ≤ 10) :
    ∃ τ', M_see_j68 τ (nI p) (nI L) 1 = some (nI R, τ') ∧ (∀ a, a ≠ 171 → a ≠ 194 → a ≠ 195 → τ' a = τ a) ∧ (∀ k, k ≠ 43 → k ≠ 44 → τ' 171 k = τ 171 k) ∧ τ' 171 43 = nI R ∧ τ' 171 44 = nI p ∧ ∀ j, j < R → τ' 194 j = nI (tbN σ (3 * j)) ∧ τ' 195 j = nI (tbN σ (3 * j + 1) * 256 + tbN σ (3 * j + 2)) := by
  have hL16 := hT.1
  generalize hτ0 : zup (zup τ 171 44 (nI p)) 171 43 (nI R) = τ0
  have z0 : τ0 171 43 = nI R := by rw [← hτ0, zup_hit]
  have z1 : τ0 171 44 = nI p := by rw [← hτ0, zup_miss (by omega), zup_hit]
  have zr : ∀ a, a ≠ 171 → τ0 a = τ a := fun a ha => by rw [← hτ0, zup_ne ha, zup_ne ha]
  have zk : ∀ k, k ≠ 43 → k ≠ 44 → τ0 171 k = τ 171 k := fun k x1 x2 => by rw [← hτ0, zup_miss x1, zup_miss x2]
  have hl := zit_cnt (b := fun (s : (Sg × Int32)) => M_see_l93 s.1 s.2) (fun j υ => (∀ a, a ≠ 194 → a ≠ 195 → υ a = τ0 a) ∧ ∀ i, i < j → υ 194 i = nI (tbN σ (3 * i)) ∧ υ 195 i = nI (tbN σ (3 * i + 1) * 256 + tbN σ (3 * i + 2))) nI R (σ := τ0) (by omega)
    ⟨fun _ _ _ => rfl, fun i hi => by omega⟩ (by
    rintro j υ hj ⟨i1, i2⟩
    obtain ⟨a1, a2, _⟩ := hT.at (i := 3 * j) (by omega)
    obtain ⟨b1, b2, _⟩ := hT.at (i := 3 * j + 1) (by omega)
    obtain ⟨c1, c2, _⟩ := hT.at (i := 3 * j + 2) (by omega)
    have e0 : υ 171 43 = nI R := by rw [i1 171 (by omega) (by omega)]; exact z0
    have e1 : υ 186 = σ 186 := by rw [i1 186 (by omega) (by omega), zr 186 (by omega), h1]
    refine ⟨zup (zup υ 194 j (nI (tbN σ (3 * j)))) 195 j (nI (tbN σ (3 * j + 1) * 256 + tbN σ (3 * j + 2))), ?_, fun a x1 x2 => by rw [zup_ne x2, zup_ne x1]; exact i1 a x1 x2, fun i hi => ?_⟩
    · show M_see_l93 υ (nI j) = _
      unfold M_see_l93
      rw [zgt_e, e0, if_neg (nI_ge hj (by omega)), show (3 : Int32) = nI 3 from rfl, nI_mul, zrd_e (by omega) (by omega), e1, a1, zwr_e (by omega) (by omega), show (1 : Int32) = nI 1 from rfl, nI_add, zrd_e (by omega) (by omega), zup_ne (by omega), e1, b1, show (2 : Int32) = nI 2 from rfl, nI_add, zrd_e (by omega) (by omega), zup_ne (by omega), e1, c1, show (256 : Int32) = nI 256 from rfl, nI_mul, nI_add, zwr_e (by omega) (by omega), zlt_e, nI_add]
    · by_cases e : i = j
      · subst e; rw [zup_ne (by omega), zup_hit, zup_hit]; exact ⟨rfl, rfl⟩
      · rw [zup_ne (by omega), zup_miss e, zup_miss e, zup_ne (by omega)]; exact i2 i (by omega)) (by
    rintro υ ⟨i1, _⟩
    have e0 : υ 171 43 = nI R := by rw [i1 171 (by omega) (by omega)]; exact z0
    show M_see_l93 υ (nI R) = _
    unfold M_see_l93
    rw [zgt_e, e0, if_pos (nI_le (Nat.le_refl _) (by omega))])
  obtain ⟨υ, e, i1, i2⟩ := hl
  have e43 : υ 171 43 = nI R := by rw [i1 171 (by omega) (by omega)]; exact z0
  refine ⟨υ, ?_, fun a x1 x2 x3 => by rw [i1 a x2 x3, zr a x1], fun k x1 x2 => by rw [i1 171 (by omega) (by omega)]; exact zk k x1 x2, e43, by rw [i1 171 (by omega) (by omega)]; exact z1, i2⟩
  have hd : nI L / 3 = nI R := by
    rw [show (3 : Int32) = nI 3 from rfl, nI_div (by omega) (by omega) (by omega), hL, Nat.mul_div_cancel_left R (by omega)]
  unfold M_see_j68
  rw [if_neg (by decide), zpt_e, zpt_e, hd, hτ0, zlt_e, show (0 : Int32) = nI 0 from rfl, e, obs]
  dsimp only
  rw [zgt_e, e43]
theorem a_see {σ : Sg} {n : Nat} (h : Rel σ n) (x : Int32) : Calls n (CK_see σ x) (fun τ => M_see τ x) := by
  have h0 := h
  obtain ⟨p1, K, t, c, R, q, s, g, L, hC, hr⟩ := h0
  have hC0 := hC
  obtain ⟨hB, hT, _⟩ := hC
  have hr0 := hr
  obtain ⟨s1, hTp, s3, s4, s5⟩ := hr
  obtain ⟨t1, t2, t3, t4⟩ := hTp
  have hK := hB.1.2.2.1
  have hP8 := hK.1.2
  generalize hσ7 : zup σ 0 1 (nI 0) = σ7
  have f7 : ∀ a, a ≠ 0 → σ7 a = σ a := fun a ha => by rw [← hσ7, zup_ne ha]
  have f70 : ∀ k, k ≠ 1 → σ7 0 k = σ 0 k := fun k hk => by rw [← hσ7, zup_miss hk]
  have hptr : Ptr σ7 p1 := ⟨hB.1.1.1, by rw [f70 3 (by omega)]; exact hB.1.1.2.1, by rw [f70 4 (by omega)]; exact hB.1.1.2.2⟩
  have pl : CK_isPool σ7 x = CK_isPool σ x := by
    unfold CK_isPool
    rw [ptr_e hptr, ptr_e hB.1.1, zgt_e, zgt_e, f7 p1 (by have := hB.1.1.1; omega)]
  have mpl : ∀ τ : Sg, τ 171 0 = σ 171 0 → M_isPool τ x = M_isPool σ x := fun τ e => by
    unfold M_isPool
    rw [zgt_e, zgt_e, e]
  have c28 : refC σ7 5 171 28 = nI L := by rw [refC_ne (by omega), f7 171 (by omega)]; exact t3
  have cc0 : CK_see σ x = (CK_isPool σ x).bind fun r12 => if (zb r12) = 0 then ((CK_refuse σ7 5).bind fun r31 => some (r31.1, r31.2)) else ((Sight_isTelling σ7 1 1600 (nI L)).bind fun r23 => if (zb r23) = 0 then ((CK_refuse σ7 5).bind fun r31 => some (r31.1, r31.2)) else ((Sight_take σ7 x 1 1600 (nI L)).bind fun r45 => zgt r45 124 0 fun v52 => some (v52, r45))) := by
    unfold CK_see
    rw [zgt_e, t2, zpt_e, show (0 : Int32) = nI 0 from rfl, hσ7, pl]
  have no : (CK_see σ x = (CK_refuse σ7 5).bind fun r31 => some (r31.1, r31.2)) → (M_see (refC σ7 5) x = (M_refuses (zup (refC σ7 5) 171 28 (nI 0)) (nI 5)).bind fun r => some (r.1, r.2)) → Calls n (CK_see σ x) (fun τ => M_see τ x) := fun e1 e2 => by
    refine see_no h ?_ ?_
    · rw [hσ7]; exact e1
    · rw [hσ7]; exact e2
  rcases isPool_c hB.1.1 hB.1.2.1 hK x with ⟨e1, e2⟩ | ⟨p, hp, rfl, e1, e2⟩
  · refine no ?_ ?_
    · rw [cc0, e1, bf]
    · unfold M_see M_taken
      rw [zgt_e, c28, zpt_e, obs]
      dsimp only
      rw [zlt_e, mpl _ (by rw [zup_miss (by omega), refC_ne (by omega), f7 171 (by omega)]), e2, bf]
      unfold M_see_j33
      exact see_j34 _ _
  · have ht := told_of hT (Or.inl (Nat.lt_of_le_of_lt (Nat.zero_le _) hp))
    have mt : ∀ τ : Sg, τ 171 28 = nI L → τ 171 0 = σ 171 0 → M_see τ (nI p) = (if nI L ≤ 0 then M_see_j33 (zup τ 171 28 (nI 0)) (nI p) (nI L) else if (nI L - nI L / 3 * 3) = 0 then (if 30 < nI L then M_see_j33 (zup τ 171 28 (nI 0)) (nI p) (nI L) else M_see_j34 (zup τ 171 28 (nI 0)) (nI p) (nI L) 1) else M_see_j33 (zup τ 171 28 (nI 0)) (nI p) (nI L)) := by
      intro τ x1 x2
      unfold M_see M_taken
      rw [zgt_e, x1, zpt_e, obs]
      dsimp only
      rw [zlt_e, mpl _ (by rw [zup_miss (by omega), x2]), e2, bt]
      rfl
    have m3 : nI L - nI L / 3 * 3 = nI (L % 3) := by
      rw [show (3 : Int32) = nI 3 from rfl, irem_f, irem_e (by omega) (by omega) (by omega)]
    have mtr := mt (refC σ7 5) c28 (by rw [refC_ne (by omega), f7 171 (by omega)])
    rw [m3] at mtr
    by_cases d0 : L = 0
    · refine no ?_ ?_
      · rw [cc0, e1, bt]
        unfold Sight_isTelling
        rw [if_pos (show nI L < 3 from (nI_lt (by omega) (by omega) : _ < nI 3)), bf]
      · rw [mtr, if_pos (show nI L ≤ 0 from (nI_le (by omega) (by omega) : _ ≤ nI 0))]
        exact see_j34 _ _
    · rw [if_neg (show ¬ nI L ≤ 0 from (nI_ge (by omega) (by omega) : ¬ _ ≤ nI 0))] at mtr
      by_cases d3 : L % 3 = 0
      · rw [if_pos (show nI (L % 3) = 0 by rw [d3]; rfl)] at mtr
        by_cases d30 : 30 < L
        · refine no ?_ ?_
          · rw [cc0, e1, bt]
            unfold Sight_isTelling
            rw [if_neg (show ¬ nI L < 3 from (nI_nlt (by omega) (by omega) : ¬ _ < nI 3)), if_pos (show 30 < nI L from (nI_lt d30 (by omega) : nI 30 < _)), bf]
          · rw [mtr, if_pos (show 30 < nI L from (nI_lt d30 (by omega) : nI 30 < _))]
            exact see_j34 _ _
        · rw [if_neg (show ¬ 30 < nI L from (nI_nlt (by omega) (by omega) : ¬ nI 30 < _))] at mtr
          obtain ⟨R', hL⟩ : ∃ R', L = 3 * R' := ⟨L / 3, by omega⟩
          have hR' : R' ≤ 10 := by omega
          obtain ⟨rc, k1, k2⟩ := tell_c (τ := σ7) ⟨t1, t2, t3, t4⟩ (f7 1 (by omega)) hL hR'
          have tc : Sight_isTelling σ7 1 1600 (nI L) = some (Sum.elim id (fun _ => true) rc) := by
            unfold Sight_isTelling
            rw [if_neg (show ¬ nI L < 3 from (nI_nlt (by omega) (by omega) : ¬ _ < nI 3)), if_neg (show ¬ 30 < nI L from (nI_nlt (by omega) (by omega) : ¬ nI 30 < _)), m3, d3, if_pos (show nI 0 = 0 from rfl), zlt_e, show (0 : Int32) = nI 0 from rfl, k1, obs]
            cases rc
            · rfl
            · rfl
          rcases k2 with ⟨rfl, k3⟩ | ⟨⟨y, rfl⟩, k3⟩
          · refine no ?_ ?_
            · rw [cc0, e1, bt, show Sight_isTelling σ7 1 1600 (nI L) = some false from tc, bf]
            · rw [mtr]
              obtain ⟨rm, l1, l2⟩ := tell_m (τ := zup (refC σ7 5) 171 28 (nI 0)) (nI p) ⟨t1, t2, t3, t4⟩ (by rw [zup_ne (by omega), refC_ne (by omega), f7 186 (by omega)]) hL hR'
              rcases l2 with ⟨l3, _⟩ | ⟨_, l4⟩
              · unfold M_see_j34 M_see_j68
                rw [zlt_e, show (0 : Int32) = nI 0 from rfl, l1, obs, l3]
                exact if_pos rfl
              · exact absurd l4 k3
          · obtain ⟨τ, w1, w2, w3, w4, w5⟩ := take_c (τ := σ7) (p := p) ⟨t1, t2, t3, t4⟩ (f7 1 (by omega)) hL hR'
            have τa : ∀ a, a ≠ 0 → a < 124 ∨ 126 < a → τ a = σ a := fun a x1 x2 => by rw [w2 a x2, f7 a x1]
            obtain ⟨rm, l1, l2⟩ := tell_m (τ := zup τ 171 28 (nI 0)) (nI p) ⟨t1, t2, t3, t4⟩ (by rw [zup_ne (by omega), τa 186 (by omega) (by omega)]) hL hR'
            obtain ⟨υ, v1, v2, v3, v4, v5, v6⟩ := take_m (τ := zup τ 171 28 (nI 0)) (p := p) ⟨t1, t2, t3, t4⟩ (by rw [zup_ne (by omega), τa 186 (by omega) (by omega)]) hL hR'
            have fb : ∀ a, a ≠ 0 → a < 124 ∨ 126 < a → a ≠ 171 → a ≠ 194 → a ≠ 195 → υ a = σ a := fun a x1 x2 x3 x4 x5 => by rw [v2 a x3 x4 x5, zup_ne x3, τa a x1 x2]
            have r0 : ∀ k, k ≠ 1 → υ 0 k = σ 0 k := fun k hk => by rw [v2 0 (by omega) (by omega) (by omega), zup_ne (by omega), w2 0 (by omega), f70 k hk]
            have r171 : ∀ k, k ≠ 28 → k ≠ 43 → k ≠ 44 → υ 171 k = σ 171 k := fun k x1 x2 x3 => by rw [v3 k x2 x3, zup_miss x1, τa 171 (by omega) (by omega)]
            have hS : Seen υ R' p (fun j => tbN σ (3 * j)) := by
              have u124 : υ 124 = τ 124 := by rw [v2 124 (by omega) (by omega) (by omega), zup_ne (by omega)]
              have u125 : υ 125 = τ 125 := by rw [v2 125 (by omega) (by omega) (by omega), zup_ne (by omega)]
              have u126 : υ 126 = τ 126 := by rw [v2 126 (by omega) (by omega) (by omega), zup_ne (by omega)]
              have eP : nP υ = nP σ := by unfold nP; rw [r171 0 (by omega) (by omega) (by omega)]
              refine ⟨hR', by rw [u124]; exact w3, v4, fun _ => ⟨by rw [eP]; exact hp, by rw [u124]; exact w4, v5, fun j hj => ?_⟩⟩
              obtain ⟨y1, y2⟩ := w5 j hj
              obtain ⟨y3, y4⟩ := v6 j hj
              exact ⟨by rw [u125]; exact y1, y3, (k3 j hj).1, (k3 j hj).2, by rw [u126, y2, y4]⟩
            refine ⟨nI R', τ, υ, ?_, ?_, p1, K, t, c, R', p, _, g, 0, see_core hC0 ht (fun k hk => r0 k (by omega)) (fun a ha => fb a (by omega) (by omega) (by omega) (by omega) (by omega)) (fun k hk => r171 k (by omega) (by omega) (by omega)) hS, ?_, ⟨by omega, ?_, ?_, fun i hi => by omega⟩, fun i hi => ?_, ?_, ?_⟩
            · rw [cc0, e1, bt, show Sight_isTelling σ7 1 1600 (nI L) = some true from tc, bt, w1, obs, zgt_e, w3]
            · show M_see τ (nI p) = _
              have mt2 := mt τ (by rw [τa 171 (by omega) (by omega)]; exact t3) (by rw [τa 171 (by omega) (by omega)])
              rw [m3, if_neg (show ¬ nI L ≤ 0 from (nI_ge (by omega) (by omega) : ¬ _ ≤ nI 0)), if_pos (show nI (L % 3) = 0 by rw [d3]; rfl), if_neg (show ¬ 30 < nI L from (nI_nlt (by omega) (by omega) : ¬ nI 30 < _))] at mt2
              rw [mt2]
              rcases l2 with ⟨_, l4⟩ | ⟨l3, _⟩
              · exact absurd k3 l4
              · unfold M_see_j34
                rw [zlt_e, show (0 : Int32) = nI 0 from rfl, l1, obs, l3]
                exact v1
            · rw [r0 14 (by omega), r171 24 (by omega) (by omega) (by omega)]; exact s1
            · rw [v2 0 (by omega) (by omega) (by omega), zup_ne (by omega), w2 0 (by omega), ← hσ7, zup_hit]
            · rw [v3 28 (by omega) (by omega), zup_hit]
            · rw [fb 187 (by omega) (by omega) (by omega) (by omega) (by omega), fb 170 (by omega) (by omega) (by omega) (by omega) (by omega)]; exact s3 i hi
            · rw [r0 6 (by omega), r0 7 (by omega), r171 30 (by omega) (by omega) (by omega), r171 31 (by omega) (by omega) (by omega)]; exact s4
            · rw [fb 188 (by omega) (by omega) (by omega) (by omega) (by omega)]; exact s5
      · rw [if_neg (show ¬ nI (L % 3) = 0 from fun e => d3 ((nI_eq (b := 0) (by omega) (by omega)).mp e))] at mtr
        refine no ?_ ?_
        · rw [cc0, e1, bt]
          unfold Sight_isTelling
          by_cases d3' : L < 3
          · rw [if_pos (show nI L < 3 from (nI_lt d3' (by omega) : _ < nI 3)), bf]
          · rw [if_neg (show ¬ nI L < 3 from (nI_nlt (by omega) (by omega) : ¬ _ < nI 3))]
            by_cases d30 : 30 < L
            · rw [if_pos (show 30 < nI L from (nI_lt d30 (by omega) : nI 30 < _)), bf]
            · rw [if_neg (show ¬ 30 < nI L from (nI_nlt (by omega) (by omega) : ¬ nI 30 < _)), m3, if_neg (show ¬ nI (L % 3) = 0 from fun e => d3 ((nI_eq (b := 0) (by omega) (by omega)).mp e)), bf]
        · rw [mtr]
          exact see_j34 _ _
