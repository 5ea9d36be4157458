/-! the calls together: what stands, stands after every call -/
def LwO (r : Option (Nat × Sg)) : Prop := ∃ n σ, r = some (n, σ) ∧ Rel σ n ∧ n ≤ 90000
theorem lw_same {σ : Sg} {n : Nat} {c m : Option Int32} (h : Rel σ n) (s : Same c m) : LwO (c.bind fun r => m.bind fun q => if r = q then some (n, σ) else none) := by
  obtain ⟨r, s1, s2⟩ := s
  have := h.le
  refine ⟨n, σ, ?_, h, by omega⟩
  rw [s1, s2, obs, obs, if_pos rfl]
theorem lw_calls {n : Nat} {c : Option (Int32 × Sg)} {m : Sg → Option (Int32 × Sg)} (s : Calls n c m) : LwO (c.bind fun r => (m r.2).bind fun q => if r.1 = q.1 then some (n, q.2) else none) := by
  obtain ⟨r, τ, υ, s1, s2, s3⟩ := s
  have := s3.le
  refine ⟨n, υ, ?_, s3, by omega⟩
  rw [s1, obs]
  dsimp only
  rw [s2, obs, if_pos rfl]
theorem lw_callsb {n : Nat} {c : Option (Bool × Sg)} {m : Sg → Option (Bool × Sg)} (s : Calls n c m) : LwO (c.bind fun r => (m r.2).bind fun q => if (zb r.1) = (zb q.1) then some (n, q.2) else none) := by
  obtain ⟨r, τ, υ, s1, s2, s3⟩ := s
  have := s3.le
  refine ⟨n, υ, ?_, s3, by omega⟩
  rw [s1, obs]
  dsimp only
  rw [s2, obs, if_pos rfl]
theorem lw_acts {n : Nat} {c : Option ((Int32 × Sg) × Nat)} {m : Sg → Option (Int32 × Sg)} (s : Acts n c m) : LwO (c.bind fun r => if (r.2 = n ∨ r.2 = n + 25) ∧ r.2 ≤ 90000 then ((m r.1.2).bind fun q => if r.1.1 = q.1 then some (r.2, q.2) else none) else none) := by
  obtain ⟨r, τ, υ, n1, s1, s2, s3, s4, s5⟩ := s
  refine ⟨n1, υ, ?_, s3, s5⟩
  rw [s1, obs]
  dsimp only
  rw [if_pos ⟨s4, s5⟩, s2, obs, if_pos rfl]
theorem lw_actsb {n : Nat} {c : Option ((Bool × Sg) × Nat)} {m : Sg → Option (Bool × Sg)} (s : Acts n c m) : LwO (c.bind fun r => if (r.2 = n ∨ r.2 = n + 25) ∧ r.2 ≤ 90000 then ((m r.1.2).bind fun q => if (zb r.1.1) = (zb q.1) then some (r.2, q.2) else none) else none) := by
  obtain ⟨r, τ, υ, n1, s1, s2, s3, s4, s5⟩ := s
  refine ⟨n1, υ, ?_, s3, s5⟩
  rw [s1, obs]
  dsimp only
  rw [if_pos ⟨s4, s5⟩, s2, obs, if_pos rfl]
theorem rel_base {σ : Sg} {n : Nat} (h : Rel σ n) : ∃ p1, Base σ p1 ∧ Told σ ∧ ∃ R q s, Seen σ R q s ∧ (0 < R → Gain σ) := by
  obtain ⟨p1, K, t, c, R, q, s, g, L, ⟨hB, hT, _, _, _, hS⟩, _⟩ := h
  refine ⟨p1, hB, hT, R, q, s, hS, fun hR => hB.2.2 (Or.inl ?_)⟩
  have := (hS.2.2.2 hR).1
  omega
theorem lwq_0 {xs : Nat → Int32} {i n : Nat} {σ : Sg} (h : Rel σ n) : LwO (Lw_0 xs i n σ) := by
  exact lw_calls (m := fun τ => M_feed τ (xs (i + 1)) (xs (i + 2)) (xs (i + 3)) (xs (i + 4)) (xs (i + 5))) (a_feed h (xs (i + 1)) (xs (i + 2)) (xs (i + 3)) (xs (i + 4)) (xs (i + 5)))
theorem lwq_1 {xs : Nat → Int32} {i n : Nat} {σ : Sg} (h : Rel σ n) : LwO (Lw_1 xs i n σ) := by
  exact lw_callsb (m := fun τ => M_end τ (xs (i + 1))) (a_end h (xs (i + 1)))
theorem lwq_2 {xs : Nat → Int32} {i n : Nat} {σ : Sg} (h : Rel σ n) : LwO (Lw_2 xs i n σ) := by
  exact lw_calls (m := fun τ => M_canal τ ) (a_canal h )
theorem lwq_3 {xs : Nat → Int32} {i n : Nat} {σ : Sg} (h : Rel σ n) : LwO (Lw_3 xs i n σ) := by
  exact lw_same h (q_fault h (xs (i + 1)))
theorem lwq_4 {xs : Nat → Int32} {i n : Nat} {σ : Sg} (h : Rel σ n) : LwO (Lw_4 xs i n σ) := by
  exact lw_same h (q_has h (xs (i + 1)))
theorem lwq_5 {xs : Nat → Int32} {i n : Nat} {σ : Sg} (h : Rel σ n) : LwO (Lw_5 xs i n σ) := by
  exact lw_same h (q_letter h (xs (i + 1)) (xs (i + 2)) (xs (i + 3)))
theorem lwq_6 {xs : Nat → Int32} {i n : Nat} {σ : Sg} (h : Rel σ n) : LwO (Lw_6 xs i n σ) := by
  exact lw_calls (m := fun τ => M_named τ (xs (i + 1))) (a_named h (xs (i + 1)))
theorem lwq_7 {xs : Nat → Int32} {i n : Nat} {σ : Sg} (h : Rel σ n) : LwO (Lw_7 xs i n σ) := by
  obtain ⟨p1, hB, hT, _⟩ := rel_base h
  exact lw_same h (q_pool hB.1 (xs (i + 1)) (xs (i + 2)))
theorem lwq_8 {xs : Nat → Int32} {i n : Nat} {σ : Sg} (h : Rel σ n) : LwO (Lw_8 xs i n σ) := by
  obtain ⟨p1, hB, hT, _⟩ := rel_base h
  exact lw_same h (q_gate hB.1 (fun z => hB.2.2 (Or.inl z)) (xs (i + 1)) (xs (i + 2)))
theorem lwq_9 {xs : Nat → Int32} {i n : Nat} {σ : Sg} (h : Rel σ n) : LwO (Lw_9 xs i n σ) := by
  obtain ⟨p1, hB, hT, _⟩ := rel_base h
  exact lw_same h (q_row hB.1 (xs (i + 1)) (xs (i + 2)))
theorem lwq_10 {xs : Nat → Int32} {i n : Nat} {σ : Sg} (h : Rel σ n) : LwO (Lw_10 xs i n σ) := by
  obtain ⟨p1, hB, hT, _⟩ := rel_base h
  exact lw_same h (q_outlet hB.1 (xs (i + 1)) (xs (i + 2)))
theorem lwq_11 {xs : Nat → Int32} {i n : Nat} {σ : Sg} (h : Rel σ n) : LwO (Lw_11 xs i n σ) := by
  obtain ⟨p1, hB, hT, _⟩ := rel_base h
  exact lw_same h (q_order hB.1 (xs (i + 1)) (xs (i + 2)))
theorem lwq_12 {xs : Nat → Int32} {i n : Nat} {σ : Sg} (h : Rel σ n) : LwO (Lw_12 xs i n σ) := by
  obtain ⟨p1, hB, hT, _⟩ := rel_base h
  exact lw_same h (q_opens hB.1 (xs (i + 1)) (xs (i + 2)))
theorem lwq_13 {xs : Nat → Int32} {i n : Nat} {σ : Sg} (h : Rel σ n) : LwO (Lw_13 xs i n σ) := by
  obtain ⟨p1, hB, hT, _⟩ := rel_base h
  exact lw_same h (q_load hB.1 (xs (i + 1)) (xs (i + 2)))
theorem lwq_14 {xs : Nat → Int32} {i n : Nat} {σ : Sg} (h : Rel σ n) : LwO (Lw_14 xs i n σ) := by
  obtain ⟨p1, hB, hT, _⟩ := rel_base h
  exact lw_same h (q_account hB.1 hT (xs (i + 1)))
theorem lwq_15 {xs : Nat → Int32} {i n : Nat} {σ : Sg} (h : Rel σ n) : LwO (Lw_15 xs i n σ) := by
  obtain ⟨p1, hB, hT, _⟩ := rel_base h
  exact lw_same h (q_event hB.1 (xs (i + 1)) (xs (i + 2)))
theorem lwq_16 {xs : Nat → Int32} {i n : Nat} {σ : Sg} (h : Rel σ n) : LwO (Lw_16 xs i n σ) := by
  obtain ⟨p1, hB, hT, _⟩ := rel_base h
  exact lw_same h (q_rank hB.1 (xs (i + 1)))
theorem lwq_17 {xs : Nat → Int32} {i n : Nat} {σ : Sg} (h : Rel σ n) : LwO (Lw_17 xs i n σ) := by
  obtain ⟨p1, hB, hT, _⟩ := rel_base h
  exact lw_same h (q_alarm hB.1 (xs (i + 1)) (xs (i + 2)))
theorem lwq_18 {xs : Nat → Int32} {i n : Nat} {σ : Sg} (h : Rel σ n) : LwO (Lw_18 xs i n σ) := by
  obtain ⟨p1, hB, hT, _⟩ := rel_base h
  exact lw_same h (q_alarms hB.1 (xs (i + 1)) (xs (i + 2)))
theorem lwq_19 {xs : Nat → Int32} {i n : Nat} {σ : Sg} (h : Rel σ n) : LwO (Lw_19 xs i n σ) := by
  obtain ⟨p1, hB, hT, _⟩ := rel_base h
  exact lw_same h (q_flow hB.1 (xs (i + 1)) (xs (i + 2)) (xs (i + 3)))
theorem lwq_20 {xs : Nat → Int32} {i n : Nat} {σ : Sg} (h : Rel σ n) : LwO (Lw_20 xs i n σ) := by
  obtain ⟨p1, hB, hT, _⟩ := rel_base h
  exact lw_same h (q_missing hB.1 (xs (i + 1)) (xs (i + 2)))
theorem lwq_21 {xs : Nat → Int32} {i n : Nat} {σ : Sg} (h : Rel σ n) : LwO (Lw_21 xs i n σ) := by
  obtain ⟨p1, hB, hT, _⟩ := rel_base h
  exact lw_calls (m := fun τ => M_later τ (xs (i + 1)) (xs (i + 2))) (two_calls h (a_later hB (xs (i + 1)) (xs (i + 2))))
theorem lwq_22 {xs : Nat → Int32} {i n : Nat} {σ : Sg} (h : Rel σ n) : LwO (Lw_22 xs i n σ) := by
  obtain ⟨p1, hB, hT, _⟩ := rel_base h
  exact lw_calls (m := fun τ => M_opening τ (xs (i + 1)) (xs (i + 2))) (two_calls h (a_opening hB (xs (i + 1)) (xs (i + 2))))
theorem lwq_23 {xs : Nat → Int32} {i n : Nat} {σ : Sg} (h : Rel σ n) : LwO (Lw_23 xs i n σ) := by
  obtain ⟨p1, hB, hT, _⟩ := rel_base h
  exact lw_calls (m := fun τ => M_when τ (xs (i + 1)) (xs (i + 2))) (two_calls h (a_when hB (xs (i + 1)) (xs (i + 2))))
theorem lwq_24 {xs : Nat → Int32} {i n : Nat} {σ : Sg} (h : Rel σ n) : LwO (Lw_24 xs i n σ) := by
  obtain ⟨p1, hB, hT, _⟩ := rel_base h
  exact lw_calls (m := fun τ => M_lacks τ (xs (i + 1)) (xs (i + 2))) (two_calls h (a_lacks hB hT (xs (i + 1)) (xs (i + 2))))
theorem lwq_25 {xs : Nat → Int32} {i n : Nat} {σ : Sg} (h : Rel σ n) : LwO (Lw_25 xs i n σ) := by
  obtain ⟨p1, hB, hT, _⟩ := rel_base h
  exact lw_calls (m := fun τ => M_least τ (xs (i + 1))) (two_calls h (a_least hB (xs (i + 1))))
theorem lwq_26 {xs : Nat → Int32} {i n : Nat} {σ : Sg} (h : Rel σ n) : LwO (Lw_26 xs i n σ) := by
  obtain ⟨p1, hB, hT, _⟩ := rel_base h
  exact lw_calls (m := fun τ => M_gain τ (xs (i + 1)) (xs (i + 2))) (two_calls h (a_gain hB (xs (i + 1)) (xs (i + 2))))
theorem lwq_27 {xs : Nat → Int32} {i n : Nat} {σ : Sg} (h : Rel σ n) : LwO (Lw_27 xs i n σ) := by
  obtain ⟨p1, hB, hT, _⟩ := rel_base h
  exact lw_calls (m := fun τ => M_best τ (xs (i + 1)) (xs (i + 2)) (xs (i + 3))) (two_calls h (a_best hB (xs (i + 1)) (xs (i + 2)) (xs (i + 3))))
theorem lwq_28 {xs : Nat → Int32} {i n : Nat} {σ : Sg} (h : Rel σ n) : LwO (Lw_28 xs i n σ) := by
  obtain ⟨p1, hB, hT, _⟩ := rel_base h
  exact lw_calls (m := fun τ => M_fits τ (xs (i + 1)) (xs (i + 2))) (fits_calls h hB (xs (i + 1)) (xs (i + 2)))
theorem lwq_29 {xs : Nat → Int32} {i n : Nat} {σ : Sg} (h : Rel σ n) : LwO (Lw_29 xs i n σ) := by
  exact lw_calls (m := fun τ => M_see τ (xs (i + 1))) (a_see h (xs (i + 1)))
theorem lwq_30 {xs : Nat → Int32} {i n : Nat} {σ : Sg} (h : Rel σ n) : LwO (Lw_30 xs i n σ) := by
  obtain ⟨p1, hB, hT, R, q, s, hS, hG⟩ := rel_base h
  exact lw_calls (m := fun τ => M_leaks τ (xs (i + 1))) (tws_calls h (a_leaks hB hG hS (xs (i + 1))))
theorem lwq_31 {xs : Nat → Int32} {i n : Nat} {σ : Sg} (h : Rel σ n) : LwO (Lw_31 xs i n σ) := by
  obtain ⟨p1, hB, hT, R, q, s, hS, hG⟩ := rel_base h
  exact lw_calls (m := fun τ => M_tells τ (xs (i + 1))) (tws_calls h (a_tells hB hG hS (xs (i + 1))))
theorem lwq_32 {xs : Nat → Int32} {i n : Nat} {σ : Sg} (h : Rel σ n) : LwO (Lw_32 xs i n σ) := by
  exact lw_acts (m := fun τ => M_steps τ (xs (i + 1))) (a_steps h (xs (i + 1)))
theorem lwq_33 {xs : Nat → Int32} {i n : Nat} {σ : Sg} (h : Rel σ n) : LwO (Lw_33 xs i n σ) := by
  exact lw_acts (m := fun τ => M_chance τ (xs (i + 1))) (a_chance h (xs (i + 1)))
theorem lwq_34 {xs : Nat → Int32} {i n : Nat} {σ : Sg} (h : Rel σ n) : LwO (Lw_34 xs i n σ) := by
  exact lw_acts (m := fun τ => M_ask τ (xs (i + 1)) (xs (i + 2)) (xs (i + 3))) (a_ask h (xs (i + 1)) (xs (i + 2)) (xs (i + 3)))
theorem lwq_35 {xs : Nat → Int32} {i n : Nat} {σ : Sg} (h : Rel σ n) : LwO (Lw_35 xs i n σ) := by
  exact lw_actsb (m := fun τ => M_cancel τ (xs (i + 1))) (a_cancel h (xs (i + 1)))
theorem lwq_36 {xs : Nat → Int32} {i n : Nat} {σ : Sg} (h : Rel σ n) : LwO (Lw_36 xs i n σ) := by
  exact lw_actsb (m := fun τ => M_hand τ (xs (i + 1)) (xs (i + 2))) (a_hand h (xs (i + 1)) (xs (i + 2)))
theorem lwq_37 {xs : Nat → Int32} {i n : Nat} {σ : Sg} (h : Rel σ n) : LwO (Lw_37 xs i n σ) := by
  exact lw_actsb (m := fun τ => M_set τ (xs (i + 1)) (xs (i + 2)) (xs (i + 3))) (a_set h (xs (i + 1)) (xs (i + 2)) (xs (i + 3)))
theorem lwq_38 {xs : Nat → Int32} {i n : Nat} {σ : Sg} (h : Rel σ n) : LwO (Lw_38 xs i n σ) := by
  exact lw_actsb (m := fun τ => M_undo τ ) (a_undo h )
theorem lwq_39 {xs : Nat → Int32} {i n : Nat} {σ : Sg} (h : Rel σ n) : LwO (Lw_39 xs i n σ) := by
  exact lw_callsb (m := fun τ => M_seed τ (xs (i + 1))) (a_seed h (xs (i + 1)))
theorem lwq_40 {xs : Nat → Int32} {i n : Nat} {σ : Sg} (h : Rel σ n) : LwO (Lw_40 xs i n σ) := by
  exact lw_same h (q_status h (xs (i + 1)))
theorem lwo_ite {c : Prop} [Decidable c] {x y : Option (Nat × Sg)} (hx : LwO x) (hy : LwO y) : LwO (if c then x else y) := by
  split
  · exact hx
  · exact hy
theorem lw_step_ok {xs : Nat → Int32} {i n : Nat} {σ : Sg} (h : Rel σ n) : LwO (Lw_step xs i n σ) := by
  unfold Lw_step
  refine lwo_ite (lwq_0 h) ?_
  refine lwo_ite (lwq_1 h) ?_
  refine lwo_ite (lwq_2 h) ?_
  refine lwo_ite (lwq_3 h) ?_
  refine lwo_ite (lwq_4 h) ?_
  refine lwo_ite (lwq_5 h) ?_
  refine lwo_ite (lwq_6 h) ?_
  refine lwo_ite (lwq_7 h) ?_
  refine lwo_ite (lwq_8 h) ?_
  refine lwo_ite (lwq_9 h) ?_
  refine lwo_ite (lwq_10 h) ?_
  refine lwo_ite (lwq_11 h) ?_
  refine lwo_ite (lwq_12 h) ?_
  refine lwo_ite (lwq_13 h) ?_
  refine lwo_ite (lwq_14 h) ?_
  refine lwo_ite (lwq_15 h) ?_
  refine lwo_ite (lwq_16 h) ?_
  refine lwo_ite (lwq_17 h) ?_
  refine lwo_ite (lwq_18 h) ?_
  refine lwo_ite (lwq_19 h) ?_
  refine lwo_ite (lwq_20 h) ?_
  refine lwo_ite (lwq_21 h) ?_
  refine lwo_ite (lwq_22 h) ?_
  refine lwo_ite (lwq_23 h) ?_
  refine lwo_ite (lwq_24 h) ?_
  refine lwo_ite (lwq_25 h) ?_
  refine lwo_ite (lwq_26 h) ?_
  refine lwo_ite (lwq_27 h) ?_
  refine lwo_ite (lwq_28 h) ?_
  refine lwo_ite (lwq_29 h) ?_
  refine lwo_ite (lwq_30 h) ?_
  refine lwo_ite (lwq_31 h) ?_
  refine lwo_ite (lwq_32 h) ?_
  refine lwo_ite (lwq_33 h) ?_
  refine lwo_ite (lwq_34 h) ?_
  refine lwo_ite (lwq_35 h) ?_
  refine lwo_ite (lwq_36 h) ?_
  refine lwo_ite (lwq_37 h) ?_
  refine lwo_ite (lwq_38 h) ?_
  refine lwo_ite (lwq_39 h) ?_
  refine lwo_ite (lwq_40 h) ?_
  have := h.le
  exact ⟨n, σ, rfl, h, by omega⟩
theorem lw_run_ok {xs : Nat → Int32} {L : Nat} : ∀ (f i n : Nat) (σ : Sg), L < i + 6 * f + 6 → Rel σ n → Lw_run xs L (f + 1) i n σ = some ()
  | 0, i, n, σ, hL, h => by
    show (if i + 6 ≤ L then _ else some ()) = _
    rw [if_neg (by omega)]
  | f + 1, i, n, σ, hL, h => by
    show (if i + 6 ≤ L then (Lw_step xs i n σ).bind (fun s => if s.1 ≤ 90000 then Lw_run xs L (f + 1) (i + 6) s.1 s.2 else none) else some ()) = _
    by_cases c : i + 6 ≤ L
    · obtain ⟨n', σ', s1, s2, s3⟩ := lw_step_ok (xs := xs) (i := i) h
      rw [if_pos c, s1, obs]
      dsimp only
      rw [if_pos s3]
      exact lw_run_ok f (i + 6) n' σ' (by omega) s2
    · rw [if_neg c]
theorem s0_c {a k : Nat} (h1 : a < 171) (h2 : a ≠ 0) : lw_s0 a k = 0 := by
  show (if a < 171 then sg_CK_init a else sg_M_init (a - 171)) k = 0
  rw [if_pos h1]
  unfold sg_CK_init
  rw [zup_ne h2, zup_ne h2, zup_ne h2, zup_ne h2]
  rfl
theorem s0_m {a k : Nat} (h1 : 171 < a) (h2 : a ≠ 188) : lw_s0 a k = 0 := by
  have e0 : a - 171 ≠ 0 := by omega
  have e1 : a - 171 ≠ 17 := by omega
  show (if a < 171 then sg_CK_init a else sg_M_init (a - 171)) k = 0
  rw [if_neg (by omega)]
  unfold sg_M_init
  simp only [zup_ne e0, zup_ne e1]
  rfl
theorem s0_r : lw_s0 0 1 = nI 0 ∧ lw_s0 0 3 = nI 4 ∧ lw_s0 0 4 = nI 30 ∧ lw_s0 0 5 = nI 0 ∧ lw_s0 0 6 = nI 0 ∧ lw_s0 0 7 = -1 ∧ lw_s0 0 10 = nI 0 ∧ lw_s0 0 11 = nI 0 ∧ lw_s0 0 14 = nI 1 := by decide +kernel
theorem s0_q : lw_s0 171 0 = nI 0 ∧ lw_s0 171 1 = nI 0 ∧ lw_s0 171 2 = nI 0 ∧ lw_s0 171 23 = nI 0 ∧ lw_s0 171 24 = nI 1 ∧ lw_s0 171 25 = nI 0 ∧ lw_s0 171 26 = nI 0 ∧ lw_s0 171 28 = nI 0 ∧ lw_s0 171 30 = nI 0 ∧ lw_s0 171 31 = -1 ∧ lw_s0 171 43 = nI 0 := by decide +kernel
theorem rel0 : Rel lw_s0 198 := by
  obtain ⟨c1, c3, c4, c5, c6, c7, c10, c11, c14⟩ := s0_r
  obtain ⟨m0, m1, m2, m23, m24, m25, m26, m28, m30, m31, m43⟩ := s0_q
  have eP : nP lw_s0 = 0 := by unfold nP; rw [m0]; rfl
  have eO : nO lw_s0 = 0 := by unfold nO; rw [m1]; rfl
  have eT : nT lw_s0 = 0 := by unfold nT; rw [m2]; rfl
  have z : ∀ k, lw_s0 183 k = 0 := fun k => s0_m (by omega) (by omega)
  have eC : nC lw_s0 = 0 := by unfold nC; rw [z]; rfl
  have es : stp lw_s0 = 0 := by unfold stp; rw [z]; rfl
  have hK : InvK lw_s0 := by
    unfold InvK
    rw [eP, eO, eT]
    exact ⟨⟨m0, by omega⟩, ⟨m1, by omega⟩, ⟨m2, by omega⟩, fun p hp => by omega, fun p hp => by omega, fun p hp => by omega, fun p hp => by omega⟩
  have hR : RepK lw_s0 3 lw_s0 := by
    unfold RepK
    rw [eP, eO, eT]
    refine ⟨⟨?_, ?_, ?_⟩, fun p hp => by omega, fun p hp => by omega, fun p hp => by omega⟩
    · rw [m0, s0_c (by omega) (by omega)]; rfl
    · rw [m1, s0_c (by omega) (by omega)]; rfl
    · rw [m2, s0_c (by omega) (by omega)]; rfl
  have hM : Mom lw_s0 55 lw_s0 := by
    refine ⟨⟨⟨fun p hp => ?_, fun p hp => ?_, fun i hi => ?_, ?_, ?_, ?_, ?_⟩, fun p hp => ?_, fun p hp => ?_⟩, ⟨?_, fun k hk => ?_⟩, ⟨0, ?_, by omega, ?_, fun k hk => by omega, ?_, fun k hk => by omega⟩, ⟨?_, by rw [eC]; omega, fun k hk => ?_⟩, ⟨by rw [es, z]; rfl, by rw [es]; omega⟩, fun p hp => ?_, fun p hp => ?_, ⟨0, by rw [z]; rfl, by omega⟩, fun o ho => ?_⟩
    · rw [eP] at hp; omega
    · rw [eO] at hp; omega
    · rw [s0_c (by omega) (by omega), z]
    · rw [s0_c (by omega) (by omega), eO]; rfl
    · rw [s0_c (by omega) (by omega), z]
    · rw [s0_c (by omega) (by omega), z]
    · rw [s0_c (by omega) (by omega), z]
    · rw [eP] at hp; omega
    · rw [eP] at hp; omega
    · rw [s0_c (by omega) (by omega), z]
    · rw [eC] at hk; omega
    · rw [s0_c (by omega) (by omega)]; rfl
    · rw [z]; rfl
    · rw [z, es]; rfl
    · rw [z, eC]; rfl
    · rw [eC] at hk; omega
    · rw [eP] at hp; omega
    · rw [eP] at hp; omega
    · rw [eO] at ho; omega
  have ng : ¬ nI 0 = nI 1 := by decide
  refine ⟨3, 0, 0, 0, 0, 0, fun _ => 0, 1, 0, ⟨⟨⟨⟨Or.inl rfl, c3, c4⟩, hR, hK, hM⟩, m26, fun y => ?_⟩, ⟨by rw [c5, m25], Or.inr ⟨m25, eP, eO, eC, es, by rw [z]; rfl, by rw [z]; rfl, by rw [z]; rfl, m43, m23⟩⟩, fun k _ => z k, ⟨?_, ?_⟩, ⟨rfl, by omega, by omega, by omega, by omega, fun _ => by omega, ⟨c10, c11, m23⟩, fun j hj => by omega, fun j _ _ => ?_, fun i hi => by omega⟩, ⟨by omega, ?_, m43, fun y => by omega⟩⟩, ⟨c14, m24, by omega⟩, ⟨by omega, c1, m28, fun i hi => by omega⟩, fun i _ => ?_, ⟨by rw [m30, c6], by rw [m31, c7]⟩, rfl⟩
  · rcases y with y | y
    · rw [eP] at y; omega
    · rw [m25] at y; exact absurd y ng
  · rw [eP]; intro p hp; omega
  · rw [eO]; intro p hp; omega
  · rw [s0_c (by omega) (by omega)]; rfl
  · rw [s0_c (by omega) (by omega)]; rfl
  · rw [s0_m (by omega) (by omega), s0_c (by omega) (by omega)]
theorem hpure (xs : Nat → Int32) (L : Nat) (hL : L ≤ 3072) : ∃ f, Lw_run xs L f 0 198 lw_s0 = some () := ⟨3073, lw_run_ok 3072 0 198 lw_s0 (by omega) rel0⟩
