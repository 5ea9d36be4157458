/-! looks ahead keep what stands; has -/
def KA (σ υ : Sg) : Prop := (∀ a, a < 65 ∨ (72 < a ∧ a < 81) ∨ a = 125 ∨ a = 126 ∨ (169 < a ∧ a < 183) ∨ (184 < a ∧ a < 189) ∨ a = 194 ∨ a = 195 ∨ 197 < a → υ a = σ a) ∧ (∀ k, k ≠ 4 → υ 124 k = σ 124 k) ∧ ∀ i, i < 148 + 3 * nC σ ∨ 196 ≤ i → υ 183 i = σ 183 i
theorem Rel.keepA {σ υ : Sg} {n : Nat} (h : Rel σ n) (k : KA σ υ) : Rel υ n := by
  obtain ⟨p1, K, t, c, R, q, s, g, L, hC, hr⟩ := h
  obtain ⟨k1, k2, k3⟩ := k
  exact ⟨p1, K, t, c, R, q, s, g, L, hC.keep ⟨fun k _ => by rw [k1 0 (by omega)], fun a ha => k1 a (by omega), k2, fun k _ => by rw [k1 171 (by omega)], k3⟩, hr.keep ⟨by rw [k1 0 (by omega)]; exact hr.1.1, by rw [k1 171 (by omega)]; exact hr.1.2.1, hr.1.2.2⟩ (fun k _ => by rw [k1 0 (by omega)]) (fun k _ => by rw [k1 171 (by omega)]) (fun a ha => k1 a (by omega))⟩
theorem two_calls {σ : Sg} {n : Nat} {c : Option (Int32 × Sg)} {m : Sg → Option (Int32 × Sg)} (h : Rel σ n) (t : Two σ c m) : Calls n c m := by
  obtain ⟨r, σ1, σ2, t1, t2, t3, t4⟩ := t
  refine ⟨r, σ1, σ2, t1, t3, h.keepA ⟨fun a ha => ?_, fun k _ => ?_, fun i _ => ?_⟩⟩
  · rw [t4 a (by omega) (by omega), t2 a (by omega)]
  · rw [t4 124 (by omega) (by omega), t2 124 (by omega)]
  · rw [t4 183 (by omega) (by omega), t2 183 (by omega)]
theorem tws_calls {σ : Sg} {n : Nat} {c : Option (Int32 × Sg)} {m : Sg → Option (Int32 × Sg)} (h : Rel σ n) (t : TwS σ c m) : Calls n c m := by
  obtain ⟨r, σ1, σ2, t1, t2, t3, t4⟩ := t
  refine ⟨r, σ1, σ2, t1, t3, h.keepA ⟨fun a ha => ?_, fun k hk => ?_, fun i _ => ?_⟩⟩
  · rw [t4 a (by omega) (by omega), t2.1 a (by omega) (by omega)]
  · rw [t4 124 (by omega) (by omega), t2.2 k hk]
  · rw [t4 183 (by omega) (by omega), t2.1 183 (by omega) (by omega)]
theorem fits_calls {σ : Sg} {n p1 : Nat} (h : Rel σ n) (hB : Base σ p1) (x y : Int32) : Calls n (CK_fits σ x y) (fun τ => M_fits τ x y) := by
  obtain ⟨r, σ1, σ2, t1, t2, t3, t4, t5⟩ := a_fits hB x y
  have eC : nC σ1 = nC σ := by unfold nC; rw [t2 183 (by omega)]
  rw [eC] at t5
  refine ⟨r, σ1, σ2, t1, t3, h.keepA ⟨fun a ha => ?_, fun k _ => ?_, fun i hi => ?_⟩⟩
  · rw [t4 a (by omega) (by omega) (by omega), t2 a (by omega)]
  · rw [t4 124 (by omega) (by omega) (by omega), t2 124 (by omega)]
  · rw [t5 i hi, t2 183 (by omega)]
/-! pools out of their band -/
def obS (σ : Sg) : Nat → Int32
  | 0 => nI 0
  | p + 1 => if stnd σ p = 0 then obS σ p else obS σ p ||| (1 <<< (nI p &&& 31))
theorem obS_s (σ : Sg) (p : Nat) : obS σ (p + 1) = if stnd σ p = 0 then obS σ p else obS σ p ||| (1 <<< (nI p &&& 31)) := rfl
theorem ob_c {σ : Sg} {p1 : Nat} (h : Now σ p1) : CK_poolsOutOfBand σ = some (obS σ (nP σ)) := by
  obtain ⟨hp, hR, hK, hM⟩ := h
  have hP8 := hK.1.2
  have x3 : σ p1 3 = nI (nP σ) := hR.1.1.trans hK.1.1
  have hl : zit (fun (s : (Int32 × Int32)) => CK_poolsOutOfBand_l4 σ s.1 s.2) zFU (nI 0, nI 0) = some (obS σ (nP σ), nI (nP σ)) := by
    refine zit_eq (fun j => (obS σ j, nI j)) _ (nP σ) 0 (by omega) (fun j _ hj => ?_) ?_ zFU 0 (by rw [zFU_e]; omega) (by omega) (by omega)
    · have hb := Works_bandOf_e hR hK hj _ rfl
      have e57 : σ 57 j = σ 183 j := (hM.1.1.1 j hj).1
      show CK_poolsOutOfBand_l4 σ (obS σ j) (nI j) = _
      unfold CK_poolsOutOfBand_l4
      rw [ptr_e hp, zgt_e, x3, if_neg (nI_ge hj (by omega)), ptr_e hp, zrd_e (by omega) (by omega), e57, hb, obs, obS_s]
      split
      · rw [zlt_e, show (1 : Int32) = nI 1 from rfl, nI_add]
      · rw [zlt_e, zlt_e, show nI j + 1 = nI (j + 1) from nI_add j 1]
    · show CK_poolsOutOfBand_l4 σ (obS σ (nP σ)) (nI (nP σ)) = _
      unfold CK_poolsOutOfBand_l4
      rw [ptr_e hp, zgt_e, x3, if_pos (nI_le (Nat.le_refl _) (by omega))]
  unfold CK_poolsOutOfBand
  rw [zlt_e, zlt_e, show (0 : Int32) = nI 0 from rfl, hl, obs]
theorem stnd_le (σ : Sg) (p : Nat) : (stnd σ p ≤ 0) = (stnd σ p = 0) := by
  unfold stnd
  split
  · exact propext ⟨fun h => absurd h (by decide), fun h => absurd h (by decide)⟩
  · split
    · exact propext ⟨fun h => absurd h (by decide), fun h => absurd h (by decide)⟩
    · exact propext ⟨fun _ => rfl, fun _ => by decide⟩
theorem ob_m {σ : Sg} {p1 : Nat} (h : Now σ p1) : M_outOfBand σ = some (obS σ (nP σ)) := by
  obtain ⟨hp, hR, hK, hM⟩ := h
  have hP8 := hK.1.2
  have hl : zit (fun (s : (Int32 × Int32)) => M_outOfBand_l4 σ s.1 s.2) zFU (nI 0, nI 0) = some (obS σ (nP σ), nI (nP σ)) := by
    refine zit_eq (fun j => (obS σ j, nI j)) _ (nP σ) 0 (by omega) (fun j _ hj => ?_) ?_ zFU 0 (by rw [zFU_e]; omega) (by omega) (by omega)
    · show M_outOfBand_l4 σ (obS σ j) (nI j) = _
      unfold M_outOfBand_l4
      rw [zgt_e, hK.1.1, if_neg (nI_ge hj (by omega)), M_standOf_e (by omega), obs, obS_s]
      simp only [stnd_le]
      split
      · rw [zlt_e, zlt_e, Int32.or_zero, show (1 : Int32) = nI 1 from rfl, nI_add]
      · rw [zlt_e, zlt_e, show nI j + 1 = nI (j + 1) from nI_add j 1]
    · show M_outOfBand_l4 σ (obS σ (nP σ)) (nI (nP σ)) = _
      unfold M_outOfBand_l4
      rw [zgt_e, hK.1.1, if_pos (nI_le (Nat.le_refl _) (by omega))]
  unfold M_outOfBand
  rw [zlt_e, zlt_e, show (0 : Int32) = nI 0 from rfl, hl, obs]
theorem q_has {σ : Sg} {n : Nat} (h : Rel σ n) (x : Int32) : Same (CK_has σ x) (M_has σ x) := by
  obtain ⟨p1, K, t, c, R, q, s, g, L, ⟨hB, hT, _, _, hRg, hS⟩, hr⟩ := h
  have hK := hB.1.2.2.1
  have hM := hB.1.2.2.2
  have hp := hB.1.1
  have k0 : σ p1 3 = σ 171 0 := hB.1.2.1.1.1
  have k1 : σ p1 7 = σ 171 1 := hB.1.2.1.1.2.1
  have k2 : σ 73 0 = σ 183 199 := hM.2.1.1
  have k3 : σ 56 0 = σ 183 196 := hM.1.1.2.2.2.2.1
  have k4 : σ 56 1 = σ 183 197 := hM.1.1.2.2.2.2.2.1
  have k5 : σ 56 2 = σ 183 198 := hM.1.1.2.2.2.2.2.2
  have k6 : Log_toldCount σ 77 = some (σ 183 205) := by
    obtain ⟨kept, l1, l2, l3, _⟩ := hM.2.2.1
    have l1' : σ 77 0 = nI kept := l1
    have hs9 := hM.2.2.2.2.1.2
    unfold Log_toldCount
    rw [zgt_e, l1', l3]
    by_cases e : kept ≤ 40
    · rw [if_neg (show ¬ (40 : Int32) < nI kept from (nI_nlt e (by omega) : ¬ nI 40 < nI kept)), Nat.min_eq_left e]
    · rw [if_pos (show (40 : Int32) < nI kept from (nI_lt (by omega) (by omega) : nI 40 < nI kept)), Nat.min_eq_right (by omega)]
      rfl
  have k7 : σ 124 0 = σ 171 43 := hS.2.1.trans hS.2.2.1.symm
  have k8 : σ 0 11 = σ 171 23 := hRg.2.2.2.2.2.2.1.2.1.trans hRg.2.2.2.2.2.2.1.2.2.symm
  have k9 : σ 0 14 = σ 171 24 := hr.1.1.trans hr.1.2.1.symm
  have k10 := ob_c hB.1
  have k10' := ob_m hB.1
  by_cases x9 : x = 9
  · subst x9
    unfold CK_has M_has
    simp only [zgt_e, k9]
    exact ⟨_, rfl, rfl⟩
  · unfold M_has
    rw [if_neg x9, zgt_e]
    unfold CK_has
    rcases hT.2 with ⟨t1, _⟩ | ⟨t1, t2, t3, t4, t5, t6, t7, t8, t9, t10⟩
    · rw [t1, if_neg (show ¬ nI 1 = 0 by decide)]
      refine same_ite (fun _ => ?_) (fun _ => same_ite (fun _ => ?_) (fun _ => same_ite (fun _ => ?_) (fun _ => same_ite (fun _ => ?_) (fun _ => same_ite (fun _ => ?_) (fun _ => same_ite (fun _ => ?_) (fun _ => same_ite (fun _ => ?_) (fun _ => same_ite (fun _ => ?_) (fun _ => same_ite (fun _ => ?_) (fun _ => same_ite (fun e => absurd e x9) (fun _ => same_ite (fun _ => ?_) (fun _ => ⟨_, rfl, rfl⟩)))))))))))
      · rw [ptr_e hp, zgt_e, zgt_e, k0]; exact ⟨_, rfl, rfl⟩
      · rw [ptr_e hp, zgt_e, zgt_e, k1]; exact ⟨_, rfl, rfl⟩
      · rw [zgt_e, k2, show (199 : Int32) = nI 199 from rfl, zrd_e (by omega) (by omega)]; exact ⟨_, rfl, rfl⟩
      · rw [zgt_e, k3, show (196 : Int32) = nI 196 from rfl, zrd_e (by omega) (by omega)]; exact ⟨_, rfl, rfl⟩
      · rw [zgt_e, k4, show (197 : Int32) = nI 197 from rfl, zrd_e (by omega) (by omega)]; exact ⟨_, rfl, rfl⟩
      · rw [zgt_e, k5, show (198 : Int32) = nI 198 from rfl, zrd_e (by omega) (by omega)]; exact ⟨_, rfl, rfl⟩
      · rw [k6, obs, show (205 : Int32) = nI 205 from rfl, zrd_e (by omega) (by omega)]; exact ⟨_, rfl, rfl⟩
      · rw [zgt_e, zgt_e, k7]; exact ⟨_, rfl, rfl⟩
      · rw [zgt_e, zgt_e, k8]; exact ⟨_, rfl, rfl⟩
      · rw [k10, k10', obs]; exact ⟨_, rfl, rfl⟩
    · have z0 : σ 171 0 = nI 0 := by rw [hK.1.1, t2]
      have z1 : σ 171 1 = nI 0 := by rw [hK.2.1.1, t3]
      have z2 : σ 183 199 = nI 0 := by rw [hM.2.2.2.1.1, t4]
      have z3 : σ 183 196 = nI 0 := by rw [hM.2.2.2.2.1.1, t5]
      rw [t1, if_pos (show nI 0 = 0 from rfl), ptr_e hp, zgt_e, k0, z0, ptr_e hp, zgt_e, k1, z1, zgt_e, k2, z2, zgt_e, k3, z3, zgt_e, k4, t6, zgt_e, k5, t7, k6, t8, zgt_e, k7, t9, zgt_e, k8, t10, k10, t2]
      rcases isIn_c x (a := 0) (b := 10) (by omega) (by omega) with ⟨e, o⟩ | ⟨j, _, hj, rfl, e⟩
      · rw [show M_isIn x 0 10 = some false from e, bf]
        have nx : ∀ k, k ≤ 10 → x ≠ nI k := by
          intro k hk ex
          subst ex
          rcases o with o | o
          · exact nI_nlt (a := k) (b := 0) (by omega) (by omega) o
          · exact nI_nlt (a := 10) (b := k) hk (by omega) o
        refine ⟨-1, ?_, rfl⟩
        rw [if_neg (show ¬ x = 0 from nx 0 (by omega)), if_neg (show ¬ x = 1 from nx 1 (by omega)), if_neg (show ¬ x = 2 from nx 2 (by omega)), if_neg (show ¬ x = 3 from nx 3 (by omega)), if_neg (show ¬ x = 4 from nx 4 (by omega)), if_neg (show ¬ x = 5 from nx 5 (by omega)), if_neg (show ¬ x = 6 from nx 6 (by omega)), if_neg (show ¬ x = 7 from nx 7 (by omega)), if_neg (show ¬ x = 8 from nx 8 (by omega)), if_neg x9, if_neg (show ¬ x = 10 from nx 10 (by omega))]
      · rw [show M_isIn (nI j) 0 10 = some true from e, bt]
        refine ⟨0, ?_, rfl⟩
        rcases j with _ | _ | _ | _ | _ | _ | _ | _ | _ | _ | _ | j
        · rfl
        · rfl
        · rfl
        · rfl
        · rfl
        · rfl
        · rfl
        · rfl
        · rfl
        · exact absurd rfl x9
        · rfl
        · omega
