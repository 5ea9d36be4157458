/-! reading: the reference's numbers -/
theorem m_num {ν : Sg} {B : Nat → Nat} {L a lo hi : Nat} (h : Mx ν B L a) (hlo : lo ≤ 9999) (hhi : hi ≤ 9999) : ∃ r ν', M_number ν (nI lo) (nI hi) = some (r, ν') ∧ MF ν ν' ∧ (((nmF B L a lo hi).1 = 0 ∧ r = nI (nmV B L a) ∧ Mx ν' B L (nmF B L a lo hi).2) ∨ ((nmF B L a lo hi).1 ≠ 0 ∧ ν' 171 35 = nI (nmF B L a lo hi).1 ∧ ν' 171 36 = nI (nmF B L a lo hi).2)) := by
  have hL := h.1
  obtain ⟨s1, s2⟩ := sk_le (B := B) hL.1
  obtain ⟨d1, d2⟩ := dN_le B L (sk B L a)
  have h9 := dv_9 (B := B) (L := L) (a := sk B L a)
  have h1 := h.to s2
  generalize hν1 : zup (zup ν 171 33 (nI (sk B L a))) 171 34 (nI (sk B L a)) = ν1
  have h2 : Mx ν1 B L (sk B L a) := by rw [← hν1]; exact h1.fr
  have f1 : MF ν ν1 := by rw [← hν1]; exact (MF.up (by omega)).trans (MF.up (by omega))
  have n34 : ν1 171 34 = nI (sk B L a) := by rw [← hν1, zup_hit]
  have e34 : ∀ v : Int32, zup ν1 171 33 v 171 34 = nI (sk B L a) := fun v => by rw [zup_miss (by omega)]; exact n34
  have flt : ∀ (k p : Nat) (e : nmF B L a lo hi = (k, p)), k ≠ 0 → ∃ r ν', (some (0, zup (zup ν1 171 35 (nI k)) 171 36 (nI p)) : Option (Int32 × Sg)) = some (r, ν') ∧ MF ν ν' ∧ (((nmF B L a lo hi).1 = 0 ∧ r = nI (nmV B L a) ∧ Mx ν' B L (nmF B L a lo hi).2) ∨ ((nmF B L a lo hi).1 ≠ 0 ∧ ν' 171 35 = nI (nmF B L a lo hi).1 ∧ ν' 171 36 = nI (nmF B L a lo hi).2)) := fun k p e hk => by
    rw [e]
    exact ⟨_, _, rfl, f1.trans (m_faultF _ _), Or.inr ⟨hk, f35, f36⟩⟩
  have step : ∀ (ω : Sg) (p v : Nat), Mx ω B L p → p < L → dgt (B p) = true → v ≤ 9999 → M_number_j72_112 ω (nI lo) (nI hi) (nI v) = some (.inl (zup ω 171 33 (nI (p + 1)), nI (v * 10 + (B p - 48)))) := by
    intro ω p v hω hp hd hv
    have hd2 := dgt_t hd
    have hωL := hω.1
    have hbA : bA B L p = nI (B p) := if_pos hp
    unfold M_number_j72_112
    rw [zgt_e, hω.2.2.2.1, m_byte hω (by omega), obs, hbA, zlt_e, zgt_e, hω.2.2.2.1, zpt_e, show (10 : Int32) = nI 10 from rfl, nI_mul, nI_add, show (48 : Int32) = nI 48 from rfl, nI_sub (by omega), show nI p + 1 = nI (p + 1) from nI_add _ 1]
    rw [show 10 * v + B p - 48 = v * 10 + (B p - 48) from by omega]
  have l72 : ∀ j, j < dN B L (sk B L a) → M_number_l72 (zup ν1 171 33 (nI (sk B L a + j))) (nI lo) (nI hi) (nI (dv B (sk B L a) j)) = some (.inl (zup ν1 171 33 (nI (sk B L a + (j + 1))), nI (dv B (sk B L a) (j + 1)))) := by
    intro j hj
    have hm := h2.to (a' := sk B L a + j) (by omega)
    have hd := dN_in hj
    have hv : dv B (sk B L a) j ≤ 9999 := by
      have x := dv_le (B := B) (a := sk B L a) j (fun i hi => dN_in (L := L) (by omega))
      have hp : 10 ^ j ≤ 10 ^ 4 := Nat.pow_le_pow_right (by omega) (by omega)
      omega
    unfold M_number_l72
    rw [zgt_e, zup_hit, m_digit hm (by omega), decide_eq_true (p := sk B L a + j < L) (by omega), hd, show (true && true) = true from rfl, bt, m_well hm, bt, zgt_e, zup_hit, zgt_e, e34, nI_sub (by omega), if_neg (show ¬ nI (sk B L a + j - sk B L a) = 4 from fun z => by have := (nI_eq (b := 4) (by omega) (by omega)).mp z; omega), step _ _ _ hm (by omega) hd hv, zup_zup]
    rfl
  by_cases q1 : tg B (sk B L a) = 1 ∨ dN B L (sk B L a) = 0
  · have e : nmF B L a lo hi = (1, sk B L a) := if_pos q1
    have go : M_number ν (nI lo) (nI hi) = some (0, zup (zup ν1 171 35 (nI 1)) 171 36 (nI (sk B L a))) := by
      unfold M_number
      rw [m_well h, bt, m_here h, obs]
      dsimp only
      rw [zgt_e, zup_hit, zpt_e, hν1, zgt_e, h2.2.2.2.1, m_digit h2 (by omega)]
      cases hd : (decide (sk B L a < L) && dgt (B (sk B L a)))
      · rw [bf, zgt_e, h2.2.2.2.1, m_fault h2, obs]; rfl
      · have hd' := hd
        rw [Bool.and_eq_true, decide_eq_true_iff] at hd'
        have dp : 0 < dN B L (sk B L a) := by
          rcases Nat.eq_zero_or_pos (dN B L (sk B L a)) with z | z
          · have := dN_out (B := B) (L := L) (a := sk B L a) (by omega) (by omega)
            rw [z, Nat.add_zero, hd'.2] at this
            exact absurd this (by decide)
          · exact z
        have t : tg B (sk B L a) = 1 := q1.resolve_right (by omega)
        obtain ⟨s, d, x1, x2, _, x4⟩ := m_back h2
        rw [bt, zgt_e, h2.2.2.2.1, x1]
        cases s
        · rw [bf, zgt_e, h2.2.2.2.1, x2, (x4 t).resolve_left (by decide), bt, zgt_e, h2.2.2.2.1, m_fault h2, obs]; rfl
        · rw [bt, zgt_e, h2.2.2.2.1, m_fault h2, obs]; rfl
    rw [go]
    exact flt 1 _ e (by omega)
  · have t0 : tg B (sk B L a) = 0 := by
      rcases tg_01 B (sk B L a) with t | t
      · exact t
      · exact absurd (Or.inl t) q1
    have dp : 0 < dN B L (sk B L a) := Nat.pos_of_ne_zero (fun y => q1 (Or.inr y))
    have hd0 : dgt (B (sk B L a)) = true := dN_in (i := 0) dp
    obtain ⟨s, d, x1, x2, x3, _⟩ := m_back h2
    obtain ⟨y1, y2⟩ := x3 t0
    have go : M_number ν (nI lo) (nI hi) = (zit (fun (s : (Sg × Int32)) => M_number_l72 s.1 (nI lo) (nI hi) s.2) zFU (ν1, nI 0)).bind fun r => M_number_j142 r.1 (nI lo) (nI hi) r.2 := by
      unfold M_number
      rw [m_well h, bt, m_here h, obs]
      dsimp only
      rw [zgt_e, zup_hit, zpt_e, hν1, zgt_e, h2.2.2.2.1, m_digit h2 (by omega), decide_eq_true (p := sk B L a < L) (by omega), hd0, show (true && true) = true from rfl, bt, zgt_e, h2.2.2.2.1, x1, y1, bf, zgt_e, h2.2.2.2.1, x2, y2, bf, zlt_e]
      rfl
    rw [go]
    have self : zup ν1 171 33 (nI (sk B L a + 0)) = ν1 := zup_same h2.2.2.2.1.symm
    by_cases q2 : dN B L (sk B L a) = 4 ∧ sk B L a + 4 < L ∧ dgt (B (sk B L a + 4)) = true
    · have e : nmF B L a lo hi = (1, sk B L a + 4) := (if_neg q1).trans (if_pos q2)
      obtain ⟨q3, q4, q5⟩ := q2
      have hm4 := h2.to (a' := sk B L a + 4) (by omega)
      generalize hν4 : zup (zup (zup ν1 171 33 (nI (sk B L a + 4))) 171 35 (nI 1)) 171 36 (nI (sk B L a + 4)) = ν4
      have g35 : ν4 171 35 = nI 1 := by rw [← hν4]; exact f35
      have g36 : ν4 171 36 = nI (sk B L a + 4) := by rw [← hν4]; exact f36
      have g33 : ν4 171 33 = nI (sk B L a + 4) := by rw [← hν4, zup_miss (by omega), zup_miss (by omega), zup_hit]
      have g32 : ν4 171 32 = nI L := by rw [← hν4, zup_miss (by omega), zup_miss (by omega)]; exact hm4.2.2.1
      have g186 : ν4 186 = ν1 186 := by rw [← hν4, zup_ne (by omega), zup_ne (by omega), zup_ne (by omega)]
      have gf : MF ν ν4 := by rw [← hν4]; exact f1.trans ((MF.up (by omega)).trans (m_faultF _ _))
      have hv4 : dv B (sk B L a) 4 ≤ 9999 := by rw [q3] at h9; exact h9
      have byt : ∀ i, i ≤ 3000 → ∃ v, M_byteAt ν4 (nI i) = some v ∧ (i < L → v = nI (B i)) := by
        intro i hi
        unfold M_byteAt
        rw [if_neg (show ¬ nI i < 0 from nI_nlt (a := i) (b := 0) (by omega) (by omega)), zgt_e, g32]
        rcases Nat.lt_or_ge i L with x | x
        · rw [if_neg (nI_ge x (by omega)), zrd_e (by omega) (by omega), g186, (h2.2.1 i x).1]
          exact ⟨_, rfl, fun _ => rfl⟩
        · rw [if_pos (nI_le x (by omega))]
          exact ⟨_, rfl, fun y => by omega⟩
      have hd4 := dgt_t q5
      have st4 : M_number_l72 (zup ν1 171 33 (nI (sk B L a + 4))) (nI lo) (nI hi) (nI (dv B (sk B L a) 4)) = some (.inl (zup ν4 171 33 (nI (sk B L a + 5)), nI (dv B (sk B L a) 4 * 10 + (B (sk B L a + 4) - 48)))) := by
        obtain ⟨v, b1, b2⟩ := byt (sk B L a + 4) (by omega)
        unfold M_number_l72
        rw [zgt_e, zup_hit, m_digit hm4 (by omega), decide_eq_true (p := sk B L a + 4 < L) q4, q5, show (true && true) = true from rfl, bt, m_well hm4, bt, zgt_e, zup_hit, zgt_e, e34, nI_sub (by omega), if_pos (show nI (sk B L a + 4 - sk B L a) = 4 from by rw [show sk B L a + 4 - sk B L a = 4 from by omega]; rfl), zgt_e, zup_hit, m_fault hm4, obs, show (1 : Int32) = nI 1 from rfl, hν4]
        unfold M_number_j72_112
        rw [zgt_e, g33, b1, obs, b2 q4, zlt_e, zgt_e, g33, zpt_e, show (10 : Int32) = nI 10 from rfl, nI_mul, nI_add, show (48 : Int32) = nI 48 from rfl, nI_sub (by omega), show nI (sk B L a + 4) + 1 = nI (sk B L a + 5) from nI_add _ 1]
        rw [show 10 * dv B (sk B L a) 4 + B (sk B L a + 4) - 48 = dv B (sk B L a) 4 * 10 + (B (sk B L a + 4) - 48) from by omega]
      have hmf : Mf (zup ν4 171 33 (nI (sk B L a + 5))) := ⟨1, by omega, by omega, by rw [zup_miss (by omega)]; exact g35⟩
      have st5 : ∀ w : Int32, M_number_l72 (zup ν4 171 33 (nI (sk B L a + 5))) (nI lo) (nI hi) w = some (.inr (zup ν4 171 33 (nI (sk B L a + 5)), w)) := by
        intro w
        obtain ⟨v, b1, _⟩ := byt (sk B L a + 5) (by omega)
        have b1' : M_byteAt (zup ν4 171 33 (nI (sk B L a + 5))) (nI (sk B L a + 5)) = some v := by
          rw [← b1]
          unfold M_byteAt
          rw [zgt_e, zgt_e, zup_miss (by omega)]
          split
          · rfl
          · split
            · rfl
            · unfold zrd
              rw [zup_ne (by omega)]
        unfold M_number_l72
        rw [zgt_e, zup_hit, dg_eq b1']
        cases decide (48 ≤ v ∧ v ≤ 57)
        · rw [bf]
        · rw [bt, hmf.well, bf]
      have lp : zit (fun (s : (Sg × Int32)) => M_number_l72 s.1 (nI lo) (nI hi) s.2) zFU (ν1, nI 0) = some (zup ν4 171 33 (nI (sk B L a + 5)), nI (dv B (sk B L a) 4 * 10 + (B (sk B L a + 4) - 48))) := by
        have := zit_eq (b := fun (s : (Sg × Int32)) => M_number_l72 s.1 (nI lo) (nI hi) s.2) (fun j => if j < 5 then (zup ν1 171 33 (nI (sk B L a + j)), nI (dv B (sk B L a) j)) else (zup ν4 171 33 (nI (sk B L a + 5)), nI (dv B (sk B L a) 4 * 10 + (B (sk B L a + 4) - 48)))) (zup ν4 171 33 (nI (sk B L a + 5)), nI (dv B (sk B L a) 4 * 10 + (B (sk B L a + 4) - 48))) 5 0 (by omega) (fun j _ hj => ?_) ?_ zFU 0 (by rw [zFU_e]; omega) (by omega) (by omega)
        · rw [if_pos (by omega), self] at this
          exact this
        · rcases Nat.lt_or_ge j 4 with x | x
          · rw [if_pos hj, if_pos (by omega)]
            exact l72 j (by omega)
          · have e4 : j = 4 := by omega
            subst e4
            rw [if_pos (by omega), if_neg (by omega)]
            exact st4
        · rw [if_neg (by omega)]
          exact st5 _
      rw [lp, obs]
      dsimp only
      have fin : M_number_j142 (zup ν4 171 33 (nI (sk B L a + 5))) (nI lo) (nI hi) (nI (dv B (sk B L a) 4 * 10 + (B (sk B L a + 4) - 48))) = some (0, zup ν4 171 33 (nI (sk B L a + 5))) := by
        have j160 : ∀ w : Int32, M_number_j160 (zup ν4 171 33 (nI (sk B L a + 5))) w = some (0, zup ν4 171 33 (nI (sk B L a + 5))) := by
          intro w
          unfold M_number_j160
          rw [hmf.well, bf]
        unfold M_number_j142
        rw [M_isIn_e (by omega) (by omega) (by omega), obs, j160, zgt_e, hmf.faults, obs, j160]
        split <;> rfl
      rw [fin, e]
      exact ⟨_, _, rfl, gf.trans (MF.up (by omega)), Or.inr ⟨by dsimp only; omega, by rw [zup_miss (by omega)]; exact g35, by rw [zup_miss (by omega)]; exact g36⟩⟩
    · have hmd := h2.to (a' := sk B L a + dN B L (sk B L a)) (by omega)
      have lp : zit (fun (s : (Sg × Int32)) => M_number_l72 s.1 (nI lo) (nI hi) s.2) zFU (ν1, nI 0) = some (zup ν1 171 33 (nI (sk B L a + dN B L (sk B L a))), nI (nmV B L a)) := by
        have := zit_eq (b := fun (s : (Sg × Int32)) => M_number_l72 s.1 (nI lo) (nI hi) s.2) (fun j => (zup ν1 171 33 (nI (sk B L a + j)), nI (dv B (sk B L a) j))) (zup ν1 171 33 (nI (sk B L a + dN B L (sk B L a))), nI (nmV B L a)) (dN B L (sk B L a)) 0 (by omega) (fun j _ hj => l72 j hj) ?_ zFU 0 (by rw [zFU_e]; omega) (by omega) (by omega)
        · rw [self] at this
          exact this
        · have nd : (decide (sk B L a + dN B L (sk B L a) < L) && dgt (B (sk B L a + dN B L (sk B L a)))) = false := by
            rcases Nat.lt_or_ge (sk B L a + dN B L (sk B L a)) L with x | x
            · rcases Nat.lt_or_ge (dN B L (sk B L a)) 4 with y | y
              · rw [dN_out y x, Bool.and_false]
              · have e4 : dN B L (sk B L a) = 4 := by omega
                cases hz : dgt (B (sk B L a + dN B L (sk B L a)))
                · rw [Bool.and_false]
                · rw [e4] at hz x
                  exact absurd ⟨e4, x, hz⟩ q2
            · rw [decide_eq_false (p := sk B L a + dN B L (sk B L a) < L) (by omega), Bool.false_and]
          show M_number_l72 (zup ν1 171 33 (nI (sk B L a + dN B L (sk B L a)))) (nI lo) (nI hi) (nI (dv B (sk B L a) (dN B L (sk B L a)))) = _
          unfold M_number_l72
          rw [zgt_e, zup_hit, m_digit hmd (by omega), nd, bf]
          rfl
      have hv : nmV B L a ≤ 9999 := h9
      rw [lp, obs]
      dsimp only
      unfold M_number_j142
      rw [M_isIn_e (by omega) (by omega) (by omega)]
      by_cases q3 : nmV B L a < lo ∨ hi < nmV B L a
      · have e : nmF B L a lo hi = (2, sk B L a) := (if_neg q1).trans ((if_neg q2).trans (if_pos q3))
        rw [decide_eq_false (p := lo ≤ nmV B L a ∧ nmV B L a ≤ hi) (by omega), bf, zgt_e, e34, m_fault hmd, obs]
        unfold M_number_j160
        have hmf : Mf (zup (zup (zup ν1 171 33 (nI (sk B L a + dN B L (sk B L a)))) 171 35 2) 171 36 (nI (sk B L a))) := ⟨2, by omega, by omega, f35⟩
        rw [hmf.well, bf, e]
        exact ⟨_, _, rfl, f1.trans ((MF.up (by omega)).trans (m_faultF _ _)), Or.inr ⟨by dsimp only; omega, f35, f36⟩⟩
      · have e : nmF B L a lo hi = (0, sk B L a + dN B L (sk B L a)) := (if_neg q1).trans ((if_neg q2).trans (if_neg q3))
        rw [decide_eq_true (p := lo ≤ nmV B L a ∧ nmV B L a ≤ hi) (by omega), bt]
        unfold M_number_j160
        rw [m_well hmd, bt, e]
        exact ⟨_, _, rfl, f1.trans (MF.up (by omega)), Or.inl ⟨rfl, rfl, hmd⟩⟩
