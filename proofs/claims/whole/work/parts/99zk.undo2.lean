/-! undo whole; seed, end, fault, status -/
theorem a_undo {σ : Sg} {n : Nat} (h : Rel σ n) : Acts n (CK_undo n σ) (fun τ => M_undo τ) := by
  have h0 := h
  obtain ⟨p1, K, t, c, R, q, s, g, L, hC, hr⟩ := h0
  obtain ⟨⟨⟨⟨hp1, e3, e4⟩, hR, hK, hM⟩, hq, hgn⟩, hT, hz, hNm, hRg, hS⟩ := hC
  have hRg0 := hRg
  obtain ⟨hn, hK20, ht, htK, hc, hct, ⟨g0, g1, g2⟩, g3, g4, hm⟩ := hRg0
  rcases Nat.eq_zero_or_pos c with c0 | c0
  · subst c0
    refine acts_nob (k := 4) h (by omega) ?_ ?_
    · unfold CK_undo
      rw [zgt_e, zlt_e, zgt_e, g1, if_pos (show nI 0 = 0 from rfl)]
      rfl
    · show M_undo (refC σ 4) = _
      unfold M_undo
      rw [zgt_e, refC_ne (by omega), g2, if_pos (show nI 0 = 0 from rfl)]
      rfl
  · obtain ⟨τ, a1, ⟨a2, a2'⟩, a3, a4, a5⟩ := c_undo hRg c0
    obtain ⟨υ, b1, b2, b3, b4, b5⟩ := m_undo (σ := τ) (c := c) (by rw [a4 171 (by omega) (by omega)]; exact g2) c0 hc
    have t25 : σ 171 25 = nI 1 := by
      rcases hT.2 with ⟨t1, _⟩ | ⟨_, _, _, _, _, _, _, _, _, t2⟩
      · exact t1
      · rw [g2] at t2
        have := (nI_eq (by omega) (by omega)).mp t2
        omega
    have lo : ∀ a, a < 171 ∨ 197 < a → υ a = τ a := fun a ha => b2 a (by omega) (by omega)
    have fb : ∀ a, a ≠ 0 → a < 56 ∨ 79 < a → a ≠ 171 → a ≠ 183 → υ a = σ a := fun a h1 h2 h3 h4 => by rw [b2 a h3 h4, a4 a h1 h2]
    have r171 : ∀ k, k ≠ 23 → υ 171 k = σ 171 k := fun k hk => by rw [b3 k hk, a4 171 (by omega) (by omega)]
    have r0 : ∀ k, k ≠ 10 → k ≠ 11 → υ 0 k = σ 0 k := fun k h1 h2 => by rw [lo 0 (by omega), a3 k h1 h2]
    have ke : KEq σ υ := ⟨⟨r171 0 (by omega), r171 1 (by omega), r171 2 (by omega)⟩, fb 172 (by omega) (by omega) (by omega) (by omega), fb 173 (by omega) (by omega) (by omega) (by omega), fb 174 (by omega) (by omega) (by omega) (by omega)⟩
    obtain ⟨u1, u2, u3, u4⟩ := undo_mom (υ := υ) hRg c0 hK hz a5 (fun a h1 h2 => lo a (by omega)) ke.1 ke.2 (fun k => by rw [b5 k, a4 185 (by omega) (by omega), a4 183 (by omega) (by omega)])
    have hle := h.le
    refine ⟨true, τ, υ, n, a1, b1, ⟨p1, K, (t + 19) % 20, c - 1, R, q, s, g, L, ⟨⟨⟨⟨hp1, by rw [r0 3 (by omega) (by omega)]; exact e3, by rw [r0 4 (by omega) (by omega)]; exact e4⟩, ?_, u3, u1⟩, by rw [r171 26 (by omega)]; exact hq, fun _ => u2⟩, ?_, u4, ?_, ?_, ?_⟩, ?_⟩, Or.inl rfl, by omega⟩
    · exact ke.e_RepK (hR.rows hK.2.2.1.2 (fun a h1 h2 => fb a (by omega) (by omega) (by omega) (by omega)))
    · exact ⟨by rw [r0 5 (by omega) (by omega), r171 25 (by omega)]; exact hT.1, Or.inl ⟨by rw [r171 25 (by omega)]; exact t25, u2⟩⟩
    · obtain ⟨n1, n2⟩ := hNm
      unfold RepNm
      rw [ke.e_nP, ke.e_nO]
      exact ⟨n1.rows (fb 175 (by omega) (by omega) (by omega) (by omega)) (fb _ (by omega) (by omega) (by omega) (by omega)), n2.rows (fb 176 (by omega) (by omega) (by omega) (by omega)) (fb _ (by omega) (by omega) (by omega) (by omega))⟩
    · refine ⟨hn, hK20, Nat.mod_lt _ (by omega), ?_, by omega, ?_, ⟨by rw [lo 0 (by omega)]; exact a2, by rw [lo 0 (by omega)]; exact a2', b4⟩, ?_, ?_, fun i hi => ?_⟩
      · rcases Nat.lt_or_ge K 20 with x | x
        · have := hct x; omega
        · omega
      · intro x; have := hct x; omega
      · rw [fb 80 (by omega) (by omega) (by omega) (by omega)]; exact g3
      · rw [fb 80 (by omega) (by omega) (by omega) (by omega)]; exact g4
      · have es : ((t + 19) % 20 + 20 - (c - 1) + i) % 20 = (t + 20 - c + i) % 20 := by omega
        rw [es]
        have e185 : υ 185 = σ 185 := fb 185 (by omega) (by omega) (by omega) (by omega)
        have me : MEq (snp σ i) (snp υ i) := snp_eq ke.1 ke.2 (fun k _ => by rw [e185])
        have f0 : Fr 0 197 σ υ := fun a ha => fb a (by omega) (by omega) (by omega) (by omega)
        have hx := hm i (by omega)
        exact ⟨me.e_Mom (hx.1.fr f0 (by omega)), me.e_Gain hx.2⟩
    · exact hS.keep ke.e_nP ⟨by rw [fb 124 (by omega) (by omega) (by omega) (by omega)], by rw [fb 124 (by omega) (by omega) (by omega) (by omega)]⟩ ⟨fb 125 (by omega) (by omega) (by omega) (by omega), fb 126 (by omega) (by omega) (by omega) (by omega)⟩ ⟨r171 43 (by omega), r171 44 (by omega)⟩ ⟨fb 194 (by omega) (by omega) (by omega) (by omega), fb 195 (by omega) (by omega) (by omega) (by omega)⟩
    · exact hr.keep ⟨by rw [r0 14 (by omega) (by omega)]; exact hr.1.1, by rw [r171 24 (by omega)]; exact hr.1.2.1, hr.1.2.2⟩ (fun k hk => r0 k (by omega) (by omega)) (fun k hk => r171 k (by omega)) (fun a ha => fb a (by omega) (by omega) (by omega) (by omega))
theorem calls_no {σ : Sg} {n k : Nat} {c : Option (Int32 × Sg)} {m : Sg → Option (Int32 × Sg)} (h : Rel σ n) (hk : k < 6) (h1 : c = (CK_refuse σ (nI k)).bind fun r => some (r.1, r.2)) (h2 : m (refC σ k) = (M_refuses (refC σ k) (nI k)).bind fun r => some (r.1, r.2)) : Calls n c m := by
  rw [ref_c hk, obs] at h1
  rw [ref_m hk, obs] at h2
  exact ⟨-1, refC σ k, refM (refC σ k) k, h1, h2, rel_ref h hk⟩
theorem calls_nob {σ : Sg} {n k : Nat} {c : Option (Bool × Sg)} {m : Sg → Option (Bool × Sg)} (h : Rel σ n) (hk : k < 6) (h1 : c = (CK_deny σ (nI k)).bind fun r => some (r.1, r.2)) (h2 : m (refC σ k) = (M_isRefused (refC σ k) (nI k)).bind fun r => some (r.1, r.2)) : Calls n c m := by
  rw [den_c hk, obs] at h1
  rw [den_m hk, obs] at h2
  exact ⟨false, refC σ k, refM (refC σ k) k, h1, h2, rel_ref h hk⟩
theorem a_seed {σ : Sg} {n : Nat} (h : Rel σ n) (x : Int32) : Calls n (CK_seed σ x) (fun τ => M_seed τ x) := by
  by_cases x0 : (0 : Int32) ≤ x
  · obtain ⟨g, hg, rfl⟩ := nI_of (x := x) (Int32.not_lt.mpr x0)
    refine ⟨true, zup σ 0 14 (nI g), zup (zup σ 0 14 (nI g)) 171 24 (nI g), ?_, ?_, ?_⟩
    · unfold CK_seed
      rw [if_pos x0, zpt_e]
    · show M_seed (zup σ 0 14 (nI g)) (nI g) = _
      unfold M_seed
      rw [if_pos x0, zpt_e]
    · obtain ⟨p1, K, t, c, R, q, s, g', L, hC, hr⟩ := h
      have fb : ∀ a, a ≠ 0 → a ≠ 171 → zup (zup σ 0 14 (nI g)) 171 24 (nI g) a = σ a := fun a h1 h2 => by rw [zup_ne h2, zup_ne h1]
      have r0 : ∀ k, k ≠ 14 → zup (zup σ 0 14 (nI g)) 171 24 (nI g) 0 k = σ 0 k := fun k hk => by rw [zup_ne (by omega), zup_miss hk]
      have r171 : ∀ k, k ≠ 24 → zup (zup σ 0 14 (nI g)) 171 24 (nI g) 171 k = σ 171 k := fun k hk => by rw [zup_miss hk, zup_ne (by omega)]
      exact ⟨p1, K, t, c, R, q, s, g, L, hC.keep ⟨fun k hk => r0 k (by omega), fun a ha => fb a (by omega) (by omega), fun k hk => by rw [fb 124 (by omega) (by omega)], fun k hk => r171 k (by omega), fun i hi => by rw [fb 183 (by omega) (by omega)]⟩, hr.keep ⟨by rw [zup_ne (by omega), zup_hit], zup_hit, hg⟩ (fun k hk => r0 k (by omega)) (fun k hk => r171 k (by omega)) (fun a ha => fb a (by omega) (by omega))⟩
  · refine calls_nob (k := 5) h (by omega) ?_ ?_
    · unfold CK_seed
      rw [if_neg x0]; rfl
    · show M_seed (refC σ 5) x = _
      unfold M_seed
      rw [if_neg x0]; rfl
/-- the tape is cut, both sides -/
theorem rel_tape {σ : Sg} {n l : Nat} (h : Rel σ n) (hl : ∃ L, σ 0 1 = nI L ∧ L ≤ 1600 ∧ l ≤ L) : Rel (zup (zup σ 0 1 (nI l)) 171 28 (nI l)) n := by
  obtain ⟨p1, K, t, c, R, q, s, g, L, hC, ⟨s1, ⟨t1, t2, t3, t4⟩, s3, s4, s5⟩⟩ := h
  obtain ⟨L', e1, e2, e3⟩ := hl
  have eL : L' = L := (nI_eq (by omega) (by omega)).mp (e1.symm.trans t2)
  subst eL
  have fb : ∀ a, a ≠ 0 → a ≠ 171 → zup (zup σ 0 1 (nI l)) 171 28 (nI l) a = σ a := fun a h1 h2 => by rw [zup_ne h2, zup_ne h1]
  have r0 : ∀ k, k ≠ 1 → zup (zup σ 0 1 (nI l)) 171 28 (nI l) 0 k = σ 0 k := fun k hk => by rw [zup_ne (by omega), zup_miss hk]
  have r171 : ∀ k, k ≠ 28 → zup (zup σ 0 1 (nI l)) 171 28 (nI l) 171 k = σ 171 k := fun k hk => by rw [zup_miss hk, zup_ne (by omega)]
  refine ⟨p1, K, t, c, R, q, s, g, l, hC.keep ⟨fun k hk => r0 k (by omega), fun a ha => fb a (by omega) (by omega), fun k hk => by rw [fb 124 (by omega) (by omega)], fun k hk => r171 k (by omega), fun i hi => by rw [fb 183 (by omega) (by omega)]⟩, ?_, ⟨by omega, by rw [zup_ne (by omega), zup_hit], zup_hit, fun i hi => ?_⟩, fun i hi => ?_, ?_, ?_⟩
  · rw [r0 14 (by omega), r171 24 (by omega)]; exact s1
  · rw [fb 1 (by omega) (by omega), fb 186 (by omega) (by omega)]; exact t4 i (by omega)
  · rw [fb 187 (by omega) (by omega), fb 170 (by omega) (by omega)]; exact s3 i hi
  · rw [r0 6 (by omega), r0 7 (by omega), r171 30 (by omega), r171 31 (by omega)]; exact s4
  · rw [fb 188 (by omega) (by omega)]; exact s5
theorem a_end {σ : Sg} {n : Nat} (h : Rel σ n) (x : Int32) : Calls n (CK_end σ x) (fun τ => M_end τ x) := by
  have h0 := h
  obtain ⟨p1, K, t, c, R, q, s, g, L, hC, ⟨s1, ⟨t1, t2, t3, t4⟩, _⟩⟩ := h0
  by_cases x0 : x < 0
  · refine calls_nob (k := 0) h (by omega) ?_ ?_
    · unfold CK_end
      rw [if_pos x0]; rfl
    · show M_end (refC σ 0) x = _
      unfold M_end
      rw [if_pos x0]; rfl
  · by_cases x1 : x ≤ nI L
    · obtain ⟨l, hl, rfl⟩ := nI_of2 (n := L) (nI_toInt (by omega)) x0 x1
      refine ⟨true, zup σ 0 1 (nI l), zup (zup σ 0 1 (nI l)) 171 28 (nI l), ?_, ?_, rel_tape h ⟨L, t2, t1, hl⟩⟩
      · unfold CK_end
        rw [if_neg x0, zgt_e, t2, if_pos x1, zpt_e]
      · show M_end (zup σ 0 1 (nI l)) (nI l) = _
        unfold M_end
        rw [if_neg x0, zgt_e, zup_ne (by omega), t3, if_pos x1, zpt_e]
    · refine calls_nob (k := 0) h (by omega) ?_ ?_
      · unfold CK_end
        rw [if_neg x0, zgt_e, t2, if_neg x1]; rfl
      · show M_end (refC σ 0) x = _
        unfold M_end
        rw [if_neg x0, zgt_e, refC_ne (by omega), t3, if_neg x1]; rfl
theorem q_fault {σ : Sg} {n : Nat} (h : Rel σ n) (x : Int32) : Same (CK_fault σ x) (M_fault σ x) := by
  obtain ⟨p1, K, t, c, R, q, s, g, L, hC, ⟨s1, _, _, ⟨s2, s3⟩, _⟩⟩ := h
  unfold CK_fault M_fault
  refine same_ite (fun _ => ?_) (fun _ => same_ite (fun _ => ?_) (fun _ => ⟨_, rfl, rfl⟩))
  · rw [zgt_e, zgt_e, s2]; exact ⟨_, rfl, rfl⟩
  · rw [zgt_e, zgt_e, s3]; exact ⟨_, rfl, rfl⟩
theorem q_status {σ : Sg} {n : Nat} (h : Rel σ n) (x : Int32) : Same (CK_status σ x) (M_status σ x) := by
  obtain ⟨p1, K, t, c, R, q, s, g, L, hC, ⟨s1, _, s2, _⟩⟩ := h
  unfold CK_status M_status
  rcases pk_ix x (n := 6) (by omega) with o | o | ⟨j, hj, rfl⟩
  · rw [if_pos (show x < 0 from o), show M_isIn x 0 5 = some false from isIn_out (n := 6) (by omega) (Or.inl o), bf]
    exact ⟨_, rfl, rfl⟩
  · rw [show M_isIn x 0 5 = some false from isIn_out (n := 6) (by omega) (Or.inr o), bf]
    refine ⟨-1, ?_, rfl⟩
    split
    · rfl
    · exact if_pos o
  · rw [if_neg (show ¬ nI j < 0 from nI_nlt (a := j) (b := 0) (by omega) (by omega)), if_neg (show ¬ (6 : Int32) ≤ nI j from (nI_ge hj (by omega) : ¬ nI 6 ≤ nI j)), show M_isIn (nI j) 0 5 = some true from isIn_in (n := 6) (by omega) hj, bt, zrd_e (by omega) (by omega), zrd_e (by omega) (by omega), s2 j hj]
    exact ⟨_, rfl, rfl⟩
