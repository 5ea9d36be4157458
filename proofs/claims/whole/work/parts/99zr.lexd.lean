/-! reading: the class's numbers and names -/
def dN (B : Nat → Nat) (L a : Nat) : Nat := rn (fun i => dgt (B i)) a (min 4 (L - a))
def dv (B : Nat → Nat) (a : Nat) : Nat → Nat
  | 0 => 0
  | d + 1 => dv B a d * 10 + (B (a + d) - 48)
theorem dv_s (B : Nat → Nat) (a d : Nat) : dv B a (d + 1) = dv B a d * 10 + (B (a + d) - 48) := rfl
theorem dN_le (B : Nat → Nat) (L a : Nat) : dN B L a ≤ 4 ∧ dN B L a ≤ L - a := by
  have := rn_le (fun i => dgt (B i)) a (min 4 (L - a))
  unfold dN
  omega
theorem dN_in {B : Nat → Nat} {L a i : Nat} (h : i < dN B L a) : dgt (B (a + i)) = true := rn_in (fun i => dgt (B i)) a _ i h
theorem dN_out {B : Nat → Nat} {L a : Nat} (h1 : dN B L a < 4) (h2 : a + dN B L a < L) : dgt (B (a + dN B L a)) = false := by
  unfold dN at h1 h2 ⊢
  exact rn_out (fun i => dgt (B i)) a _ (by omega)
theorem dv_le {B : Nat → Nat} {a : Nat} : ∀ d, (∀ i, i < d → dgt (B (a + i)) = true) → dv B a d + 1 ≤ 10 ^ d
  | 0, _ => by unfold dv; decide
  | d + 1, h => by
    have i1 := dv_le d (fun i hi => h i (by omega))
    have i2 := dgt_t (h d (by omega))
    rw [dv_s, Nat.pow_succ]
    omega
theorem dv_9 {B : Nat → Nat} {L a : Nat} : dv B a (dN B L a) ≤ 9999 := by
  have h := dv_le (B := B) (a := a) (dN B L a) (fun i hi => dN_in hi)
  have h4 := (dN_le B L a).1
  have hp : 10 ^ dN B L a ≤ 10 ^ 4 := Nat.pow_le_pow_right (by omega) h4
  omega
def nmF (B : Nat → Nat) (L a lo hi : Nat) : Nat × Nat := if tg B (sk B L a) = 1 ∨ dN B L (sk B L a) = 0 then (1, sk B L a) else if dN B L (sk B L a) = 4 ∧ sk B L a + 4 < L ∧ dgt (B (sk B L a + 4)) = true then (1, sk B L a + 4) else if dv B (sk B L a) (dN B L (sk B L a)) < lo ∨ hi < dv B (sk B L a) (dN B L (sk B L a)) then (2, sk B L a) else (0, sk B L a + dN B L (sk B L a))
def nmV (B : Nat → Nat) (L a : Nat) : Nat := dv B (sk B L a) (dN B L (sk B L a))
theorem c_num {τ : Sg} {B : Nat → Nat} {L a lo hi : Nat} (h : Cx τ B L a) (hlo : lo ≤ 9999) (hhi : hi ≤ 9999) : ∃ r τ', Reader_readNumber τ (nI lo) (nI hi) = some (r, τ') ∧ CF τ τ' ∧ (((nmF B L a lo hi).1 = 0 ∧ r = nI (nmV B L a) ∧ Cx τ' B L (nmF B L a lo hi).2) ∨ ((nmF B L a lo hi).1 ≠ 0 ∧ τ' 2 6 = nI (nmF B L a lo hi).1 ∧ τ' 2 7 = nI (nmF B L a lo hi).2)) := by
  obtain ⟨τ1, a1, a2, a3⟩ := c_skip h
  obtain ⟨⟨hL, hL2⟩, hb, c0, c1, c2, c3, c6⟩ := a3
  obtain ⟨d1, d2⟩ := dN_le B L (sk B L a)
  have h9 := dv_9 (B := B) (L := L) (a := sk B L a)
  have hl : zit (fun (s : (Int32 × Int32)) => Reader_readNumber_l12 τ1 (nI lo) (nI hi) s.1 s.2) zFU (nI (sk B L a + 0), nI (dv B (sk B L a) 0)) = some (nI (sk B L a + dN B L (sk B L a)), nI (nmV B L a)) := by
    refine zit_eq (fun j => (nI (sk B L a + j), nI (dv B (sk B L a) j))) _ (dN B L (sk B L a)) 0 (by omega) (fun j _ hj => ?_) ?_ zFU 0 (by rw [zFU_e]; omega) (by omega) (by omega)
    · obtain ⟨b1, b2⟩ := hb (sk B L a + j) (by omega)
      have hd := dN_in hj
      have hd2 := dgt_t hd
      have hb' : τ1 1 (sk B L a + j) = nI (B (sk B L a + j)) := by rw [b1]; exact if_pos (by omega)
      show Reader_readNumber_l12 τ1 (nI lo) (nI hi) (nI (sk B L a + j)) (nI (dv B (sk B L a) j)) = _
      unfold Reader_readNumber_l12
      rw [zgt_e, c1, if_neg (nI_ge (by omega) (by omega)), zgt_e, c2, show nI (sk B L a) + 4 = nI (sk B L a + 4) from nI_add _ 4, if_neg (nI_ge (by omega) (by omega)), zmrh c0, zrd_e (by omega) (by omega), b1, cv_dgt b2, hd, bt, zmrh c0, zrd_e (by omega) (by omega), hb', zlt_e, zlt_e, show (48 : Int32) = nI 48 from rfl, nI_sub (by omega), show (10 : Int32) = nI 10 from rfl, nI_mul, nI_add, show nI (sk B L a + j) + 1 = nI (sk B L a + (j + 1)) from nI_add _ 1]
      rfl
    · show Reader_readNumber_l12 τ1 (nI lo) (nI hi) (nI (sk B L a + dN B L (sk B L a))) (nI (dv B (sk B L a) (dN B L (sk B L a)))) = _
      unfold Reader_readNumber_l12
      rw [zgt_e, c1]
      rcases Nat.lt_or_ge (sk B L a + dN B L (sk B L a)) L with x | x
      · rw [if_neg (nI_ge x (by omega)), zgt_e, c2, show nI (sk B L a) + 4 = nI (sk B L a + 4) from nI_add _ 4]
        rcases Nat.lt_or_ge (dN B L (sk B L a)) 4 with y | y
        · obtain ⟨b1, b2⟩ := hb _ x
          rw [if_neg (nI_ge (by omega) (by omega)), zmrh c0, zrd_e (by omega) (by omega), b1, cv_dgt b2, dN_out y x, bf]
          rfl
        · rw [if_pos (nI_le (by omega) (by omega))]
          rfl
      · rw [if_pos (nI_le x (by omega))]
        rfl
  have hl' : zit (fun (s : (Int32 × Int32)) => Reader_readNumber_l12 τ1 (nI lo) (nI hi) s.1 s.2) zFU (nI (sk B L a), nI 0) = some (nI (sk B L a + dN B L (sk B L a)), nI (nmV B L a)) := hl
  unfold Reader_readNumber
  rw [a1, obs, zgt_e, c2, zlt_e, show (0 : Int32) = nI 0 from rfl, hl', obs]
  dsimp only
  have fin : ∀ (k p : Int32), CF τ (zup (zup (zup (zup τ1 2 6 k) 2 7 p) 2 2 (nI (sk B L a + dN B L (sk B L a)))) 2 3 1) := fun k p => a2.trans ((c_failF k p).trans ((CF.up (by omega)).trans (CF.up (by omega))))
  have f6 : ∀ (k p : Int32), zup (zup (zup (zup τ1 2 6 k) 2 7 p) 2 2 (nI (sk B L a + dN B L (sk B L a)))) 2 3 1 2 6 = k := fun k p => by rw [zup_miss (by omega), zup_miss (by omega), zup_miss (by omega), zup_hit]
  have f7 : ∀ (k p : Int32), zup (zup (zup (zup τ1 2 6 k) 2 7 p) 2 2 (nI (sk B L a + dN B L (sk B L a)))) 2 3 1 2 7 = p := fun k p => by rw [zup_miss (by omega), zup_miss (by omega), zup_hit]
  have j80 : Reader_readNumber_j80 τ1 (nI (sk B L a + dN B L (sk B L a))) (nI (nmV B L a)) = some (nI (nmV B L a), zup (zup (zup (zup τ1 2 6 (nI 1)) 2 7 (nI (sk B L a))) 2 2 (nI (sk B L a + dN B L (sk B L a)))) 2 3 1) := by
    unfold Reader_readNumber_j80
    rw [zgt_e, c2, c_fail, obs]
    dsimp only
    rw [zpt_e, zbl1, zpt_e]
    rfl
  have j145 : Reader_readNumber_j145 τ1 (nI (sk B L a + dN B L (sk B L a))) (nI (nmV B L a)) = some (nI (nmV B L a), zup (zup (zup (zup τ1 2 6 (nI 2)) 2 7 (nI (sk B L a))) 2 2 (nI (sk B L a + dN B L (sk B L a)))) 2 3 1) := by
    unfold Reader_readNumber_j145
    rw [zgt_e, c2, c_fail, obs]
    dsimp only
    rw [zpt_e, zbl1, zpt_e]
    rfl
  by_cases q1 : tg B (sk B L a) = 1 ∨ dN B L (sk B L a) = 0
  · have e : nmF B L a lo hi = (1, sk B L a) := if_pos q1
    have : Reader_readNumber_j65 τ1 (nI lo) (nI hi) (nI (sk B L a + dN B L (sk B L a))) (nI (nmV B L a)) = Reader_readNumber_j80 τ1 (nI (sk B L a + dN B L (sk B L a))) (nI (nmV B L a)) := by
      unfold Reader_readNumber_j65
      rw [zgt_e, c3]
      rcases tg_01 B (sk B L a) with t | t
      · rw [t, if_pos (show nI 0 = 0 from rfl), zgt_e, c2, q1.resolve_left (by omega)]
        exact if_pos rfl
      · rw [t, if_neg (show ¬ nI 1 = 0 by decide)]
    rw [this, j80, e]
    exact ⟨_, _, rfl, fin _ _, Or.inr ⟨by dsimp only; omega, f6 _ _, f7 _ _⟩⟩
  · have t0 : tg B (sk B L a) = 0 := by
      rcases tg_01 B (sk B L a) with t | t
      · exact t
      · exact absurd (Or.inl t) q1
    have dp : 0 < dN B L (sk B L a) := Nat.pos_of_ne_zero (fun y => q1 (Or.inr y))
    by_cases q2 : dN B L (sk B L a) = 4 ∧ sk B L a + 4 < L ∧ dgt (B (sk B L a + 4)) = true
    · have e : nmF B L a lo hi = (1, sk B L a + 4) := (if_neg q1).trans (if_pos q2)
      obtain ⟨b1, b2⟩ := hb (sk B L a + 4) q2.2.1
      have : Reader_readNumber_j65 τ1 (nI lo) (nI hi) (nI (sk B L a + dN B L (sk B L a))) (nI (nmV B L a)) = some (nI (nmV B L a), zup (zup (zup (zup τ1 2 6 (nI 1)) 2 7 (nI (sk B L a + 4))) 2 2 (nI (sk B L a + dN B L (sk B L a)))) 2 3 1) := by
        unfold Reader_readNumber_j65
        rw [zgt_e, c3, t0, if_pos (show nI 0 = 0 from rfl), zgt_e, c2, if_neg (fun y => absurd ((nI_eq (by omega) (by omega)).mp y) (by omega)), zgt_e, c2, show nI (sk B L a) + 4 = nI (sk B L a + 4) from nI_add _ 4, q2.1, if_pos rfl, zgt_e, c1, if_neg (nI_ge (by omega) (by omega)), zmrh c0, zrd_e (by omega) (by omega), b1, cv_dgt b2, q2.2.2, bt, c_fail, obs]
        dsimp only
        rw [zpt_e, zbl1, zpt_e]
        rfl
      rw [this, e]
      exact ⟨_, _, rfl, fin _ _, Or.inr ⟨by dsimp only; omega, f6 _ _, f7 _ _⟩⟩
    · have j133 : Reader_readNumber_j65 τ1 (nI lo) (nI hi) (nI (sk B L a + dN B L (sk B L a))) (nI (nmV B L a)) = Reader_readNumber_j133 τ1 (nI lo) (nI hi) (nI (sk B L a + dN B L (sk B L a))) (nI (nmV B L a)) := by
        unfold Reader_readNumber_j65
        rw [zgt_e, c3, t0, if_pos (show nI 0 = 0 from rfl), zgt_e, c2, if_neg (fun y => absurd ((nI_eq (by omega) (by omega)).mp y) (by omega)), zgt_e, c2, show nI (sk B L a) + 4 = nI (sk B L a + 4) from nI_add _ 4]
        by_cases d4 : dN B L (sk B L a) = 4
        · rw [d4, if_pos rfl, zgt_e, c1]
          rcases Nat.lt_or_ge (sk B L a + 4) L with x | x
          · obtain ⟨b1, b2⟩ := hb (sk B L a + 4) x
            have hnd : dgt (B (sk B L a + 4)) = false := by
              cases hx : dgt (B (sk B L a + 4))
              · rfl
              · exact absurd ⟨d4, x, hx⟩ q2
            rw [if_neg (nI_ge x (by omega)), zmrh c0, zrd_e (by omega) (by omega), b1, cv_dgt b2, hnd, bf]
          · rw [if_pos (nI_le x (by omega))]
        · rw [if_neg (fun y => absurd ((nI_eq (by omega) (by omega)).mp y) (by omega))]
      have hv : nmV B L a ≤ 9999 := h9
      rw [j133]
      by_cases q3 : nmV B L a < lo ∨ hi < nmV B L a
      · have e : nmF B L a lo hi = (2, sk B L a) := (if_neg q1).trans ((if_neg q2).trans (if_pos q3))
        have : Reader_readNumber_j133 τ1 (nI lo) (nI hi) (nI (sk B L a + dN B L (sk B L a))) (nI (nmV B L a)) = Reader_readNumber_j145 τ1 (nI (sk B L a + dN B L (sk B L a))) (nI (nmV B L a)) := by
          unfold Reader_readNumber_j133
          by_cases y : nmV B L a < lo
          · rw [if_pos (nI_lt y (by omega))]
          · rw [if_neg (nI_nlt (by omega) (by omega)), if_neg (nI_ge (by omega) (by omega))]
        rw [this, j145, e]
        exact ⟨_, _, rfl, fin _ _, Or.inr ⟨by dsimp only; omega, f6 _ _, f7 _ _⟩⟩
      · have e : nmF B L a lo hi = (0, sk B L a + dN B L (sk B L a)) := (if_neg q1).trans ((if_neg q2).trans (if_neg q3))
        have ht : tg B (sk B L a + dN B L (sk B L a)) = 1 := by
          unfold tg
          rw [if_pos]
          refine ⟨by omega, Or.inr ?_⟩
          have := dN_in (B := B) (L := L) (a := sk B L a) (i := dN B L (sk B L a) - 1) (by omega)
          rw [show sk B L a + (dN B L (sk B L a) - 1) = sk B L a + dN B L (sk B L a) - 1 from by omega] at this
          exact this
        unfold Reader_readNumber_j133
        rw [if_neg (nI_nlt (by omega) (by omega)), if_pos (nI_le (by omega) (by omega)), zpt_e, zbl1, zpt_e, e]
        refine ⟨_, _, rfl, a2.trans ((CF.up (by omega)).trans (CF.up (by omega))), Or.inl ⟨rfl, rfl, ⟨by dsimp only; omega, hL2⟩, fun i hi => by rw [zup_ne (by omega), zup_ne (by omega)]; exact hb i hi, ?_, ?_, ?_, ?_, ?_⟩⟩
        · rw [zup_miss (by omega), zup_miss (by omega)]; exact c0
        · rw [zup_miss (by omega), zup_miss (by omega)]; exact c1
        · rw [zup_miss (by omega), zup_hit]
        · rw [zup_hit, ht]; rfl
        · exact c67_up (c67_up c6 (by omega)) (by omega)
