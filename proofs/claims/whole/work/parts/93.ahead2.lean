theorem isIn_g1 {x : Int32} {n : Nat} (hn : n + 1 < 2147483648) : (M_isIn x (nI 1) (nI n) = some false ∧ (x < nI 1 ∨ nI n < x)) ∨ ∃ j, 1 ≤ j ∧ j ≤ n ∧ x = nI j ∧ M_isIn x (nI 1) (nI n) = some true := by
  rcases rng1 x hn with c | c | ⟨j, h1, h2, rfl⟩
  · exact Or.inl ⟨isIn_l1 hn (Or.inl c), Or.inl c⟩
  · exact Or.inl ⟨isIn_l1 hn (Or.inr c), Or.inr (lt_of_succ hn c)⟩
  · refine Or.inr ⟨j, h1, h2, rfl, ?_⟩
    rw [M_isIn_e (by omega) (by omega) (by omega)]
    congr 1
    exact decide_eq_true ⟨h1, h2⟩
def shA (μ : Sg) : Int32 := sm (fun o => μ 183 (138 + o)) (nO μ)
theorem EqM.e_shA {e : Nat} {μ μ' : Sg} (h : EqM e μ μ') (he : okE e) (hO : nO μ ≤ 10) : shA μ' = shA μ := by
  unfold okE at he
  unfold shA
  rw [h.e_nO]
  exact sm_congr (fun o ho => h.2.2 _ (by omega))
/-- what comes to be short, of all or of one -/
theorem m_shortIn {σ σ1 : Sg} (hW : InvW σ) (hs : stp σ ≤ 9999) (hq : σ 171 26 = nI 0) (f : Fr 81 123 σ σ1) {n : Nat} (hn : n ≤ 200) :
    (∃ σ', M_shortIn σ1 (-nI 1) (nI n) = some (shA (qrun (quiet σ) n) - shA σ, σ') ∧ FrM σ1 σ') ∧
    ∀ o, o < nO σ → ∃ σ', M_shortIn σ1 (nI o) (nI n) = some (qrun (quiet σ) n 183 (138 + o) - σ 183 (138 + o), σ') ∧ FrM σ1 σ' := by
  obtain ⟨μ, b1, b2, b3, b4, b5, b6, b7⟩ := m_run hW hs hq f
  have hO10 := hW.1.1.2.1.2
  obtain ⟨b8, b9, σ3, b10, b11⟩ := b7 n hn
  obtain ⟨_, c9, _⟩ := b7 0 (by omega)
  have c9' : EqM 5000 (quiet σ) μ := c9
  have qm := quiet_M σ
  have qi := qrun_inv (quiet_Q hW) n (by rw [qm.e_stp]; omega)
  have qO : nO (qrun (quiet σ) n) = nO σ := by rw [qi.2.2.1.e_nO, qm.e_nO]
  have hKn : InvK (qrun μ n) := (qrun_inv b2 n (by omega)).1.1.1.1
  have em : (-1 : Int32) = -nI 1 := rfl
  have e0 : shA μ = shA σ := by
    rw [c9'.e_shA (by unfold okE; omega) (by rw [qm.e_nO]; exact hO10)]
    unfold shA
    rw [qm.e_nO, qm.2.2]
  have e1 : shA (qrun μ n) = shA (qrun (quiet σ) n) := b9.e_shA (by unfold okE; omega) (by rw [qO]; exact hO10)
  refine ⟨⟨σ3, ?_, b11⟩, fun o ho => ⟨σ3, ?_, b11⟩⟩
  · have s1 : M_shortOf μ (-nI 1) = some (shA σ) := by
      unfold M_shortOf
      rw [em, if_pos rfl, M_shortOfAll_e b6, obs, ← e0]
      rfl
    have s2 : M_shortOf (qrun μ n) (-nI 1) = some (shA (qrun (quiet σ) n)) := by
      unfold M_shortOf
      rw [em, if_pos rfl, M_shortOfAll_e hKn, obs, ← e1]
      rfl
    unfold M_shortIn
    simp only [b1, obs, s1, zlt_e, b8, s2, b10]
  · have hne : ¬ nI o = -nI 1 := fun q => by
      have := nI_n1 (a := o) (by omega)
      exact (this ▸ q : False)
    have s1 : M_shortOf μ (nI o) = some (σ 183 (138 + o)) := by
      unfold M_shortOf
      rw [em, if_neg hne]
      simp (disch := omega) only [zlit, nI_add, zrd_e, c9'.2.2]
      rw [qm.2.2]
    have s2 : M_shortOf (qrun μ n) (nI o) = some (qrun (quiet σ) n 183 (138 + o)) := by
      unfold M_shortOf
      rw [em, if_neg hne]
      simp (disch := omega) only [zlit, nI_add, zrd_e, b9.2.2]
    unfold M_shortIn
    simp only [b1, obs, s1, zlt_e, b8, s2, b10]
theorem a_lacks {σ : Sg} {p1 : Nat} (h : Base σ p1) (hT : Told σ) (x1 x2 : Int32) : Two σ (CK_lacks σ x1 x2) (fun σ1 => M_lacks σ1 x1 x2) := by
  have hB := h
  obtain ⟨⟨hp, hR, hK, hM⟩, hq, hG⟩ := h
  have hP8 := hK.1.2
  have hO10 := hK.2.1.2
  have em : (-1 : Int32) = -nI 1 := rfl
  rcases hT.2 with ⟨t1, hg⟩ | ⟨t1, _⟩
  · have hW := base_W hB hg
    have hs := hM.2.2.2.2.1.2
    have t0 : ¬ σ 171 25 = 0 := by rw [t1]; decide
    have t0' : ¬ σ 0 5 = 0 := by rw [hT.1, t1]; decide
    rcases isIn_g1 (x := x2) (n := 200) (by omega) with ⟨c, c'⟩ | ⟨n, hn1, hn, rfl, c⟩
    · refine two_no (r := -1) ?_ ?_
      · unfold CK_lacks
        rw [zgt_e, if_neg t0']
        rcases c' with c' | c'
        · rw [if_pos (show x2 < 1 from c')]
        · rw [if_pos (show 200 < x2 from c')]
          split <;> rfl
      · show M_lacks σ x1 x2 = _
        have j20 : M_lacks_j20 σ x1 x2 = some (-1, σ) := by
          unfold M_lacks_j20
          rw [zlit, zlit, c, bf]
        unfold M_lacks
        rw [zgt_e, if_neg t0, j20]
        split
        · rfl
        · rcases isOutlet_c hp hR hK x1 with ⟨e1, e2⟩ | ⟨j, hj, e0, e1, e2⟩
          · rw [e2, bf]
          · rw [e2, bt]
    · obtain ⟨σ1, σ2, a1, a2, a3, a4⟩ := c_run hB hg hn
      obtain ⟨⟨σ3, s1, s2⟩, s3⟩ := m_shortIn hW hs hq a3 hn
      have qm := quiet_M σ
      have qi := qrun_inv (quiet_Q hW) n (by rw [qm.e_stp]; omega)
      have qO : nO (qrun (quiet σ) n) = nO σ := by rw [qi.2.2.1.e_nO, qm.e_nO]
      have t2 : ¬ σ2 171 25 = 0 := by rw [a3 171 (by omega)]; exact t0
      by_cases cx : x1 = -nI 1
      · subst cx
        have v4 := a4.1.2.2.2.1
        have w4 := hM.1.1.2.2.2.1
        simp only [Nat.reduceAdd] at v4 w4
        refine ⟨shA (qrun (quiet σ) n) - shA σ, σ2, σ3, ?_, a3, ?_, s2⟩
        · unfold CK_lacks CK_lacks_j34
          rw [zgt_e, if_neg t0']
          simp (disch := omega) only [zlit, nI_ltf, ↓reduceIte, ptr_e hp, a1, a2, obs, zrd_e, v4, a3 64 (by omega), w4]
          rfl
        · show M_lacks σ2 (-nI 1) (nI n) = _
          unfold M_lacks M_lacks_j20
          rw [zgt_e, if_neg t2, em, if_pos rfl]
          simp (disch := omega) only [zlit, c, obs, zb_t, nI_eqf, ↓reduceIte, s1]
      · rcases isOutlet_c hp hR hK x1 with ⟨e1, e2⟩ | ⟨j, hj, rfl, e1, e2⟩
        · refine two_no (r := -1) ?_ ?_
          · unfold CK_lacks
            rw [zgt_e, if_neg t0', em, if_neg cx]
            simp (disch := omega) only [zlit, nI_ltf, ↓reduceIte]
            rw [e1, bf']
          · show M_lacks σ x1 (nI n) = _
            unfold M_lacks
            rw [zgt_e, if_neg t0, em, if_neg cx, e2, bf]
        · obtain ⟨σ4, s4, s5⟩ := s3 j hj
          have v4 := (a4.1.2.1 j (by omega)).2
          have w4 := (hM.1.1.2.1 j hj).2
          simp only [Nat.reduceAdd] at v4 w4
          refine ⟨qrun (quiet σ) n 183 (138 + j) - σ 183 (138 + j), σ2, σ4, ?_, a3, ?_, s5⟩
          · unfold CK_lacks CK_lacks_j34
            rw [zgt_e, if_neg t0', em, if_neg cx]
            simp (disch := omega) only [zlit, nI_ltf, ↓reduceIte]
            rw [e1, bt']
            simp (disch := omega) only [ptr_e hp, a1, a2, obs, cx, ↓reduceIte, zrd_e, v4, a3 63 (by omega), w4]
          · show M_lacks σ2 (nI j) (nI n) = _
            unfold M_lacks M_lacks_j20
            rw [zgt_e, if_neg t2, em, if_neg cx, M_isOutlet_fr a3, e2, bt]
            simp (disch := omega) only [zlit, c, obs, zb_t, nI_eqf, ↓reduceIte, s4]
  · refine two_no (r := -1) ?_ ?_
    · unfold CK_lacks
      rw [zgt_e, if_pos (by rw [hT.1, t1]; decide)]
    · show M_lacks σ x1 x2 = _
      unfold M_lacks
      rw [zgt_e, if_pos (by rw [t1]; decide)]
/-- a search over steps ahead: class -/
theorem firstTime_ok {σ : Sg} {p1 j b : Nat} (h : Base σ p1) (hg : Gain σ) (hj : j < nP σ) :
    ∃ r σ1, Outlook_firstTime σ p1 55 (nI j) (nI b) = some (r, σ1) ∧ Fr 81 123 σ σ1 ∧
    ((∃ n, 1 ≤ n ∧ n ≤ 200 ∧ r = nI n ∧ stnd (qrun (quiet σ) n) j = nI b ∧ ∀ m, 1 ≤ m → m < n → ¬ stnd (qrun (quiet σ) m) j = nI b) ∨ (r = -1 ∧ ∀ m, 1 ≤ m → m ≤ 200 → ¬ stnd (qrun (quiet σ) m) j = nI b)) := by
  have hW := base_W h hg
  have hs := h.1.2.2.2.2.2.2.2.1.2
  have hP8 := hW.1.1.1.2
  have qm := quiet_M σ
  obtain ⟨σ0, a1, a2, a3, a4⟩ := c_look h hg (n := 200) (by omega)
  have key : ∀ (f m : Nat) (τ : Sg), 200 < f + m → m ≤ 200 → Fr 82 98 σ0 τ → LookR τ p1 (qrun (quiet σ) m) (stp σ) 200 → RepW τ 82 (qrun (quiet σ) m) → (∀ k, 1 ≤ k → k ≤ m → ¬ stnd (qrun (quiet σ) k) j = nI b) →
      ∃ o, zit (fun (s : (Sg × Int32)) => Outlook_firstTime_l12 s.1 (nI j) (nI b) s.2) f (τ, nI (m + 1)) = some o ∧
      ((∃ n τ', o = .inl (nI n, τ') ∧ Fr 82 98 σ0 τ' ∧ 1 ≤ n ∧ n ≤ 200 ∧ stnd (qrun (quiet σ) n) j = nI b ∧ ∀ k, 1 ≤ k → k < n → ¬ stnd (qrun (quiet σ) k) j = nI b) ∨ (∃ τ', o = .inr (τ', nI 201) ∧ Fr 82 98 σ0 τ' ∧ ∀ k, 1 ≤ k → k ≤ 200 → ¬ stnd (qrun (quiet σ) k) j = nI b)) := by
    intro f
    induction f with
    | zero => intro m τ h1 h2; omega
    | succ f ih =>
      intro m τ h1 h2 fr lk rw' no
      unfold zit
      rcases Nat.lt_or_ge m 200 with hm | hm
      · obtain ⟨q1, q2, q3, _⟩ := qrun_inv (quiet_Q hW) m (by rw [qm.e_stp]; omega)
        rw [qm.e_stp] at q2
        obtain ⟨τ', b1, b2, b3, b4, _⟩ := runOne_ok lk q1 rw' (by omega) (by omega)
        have q1' := (qrun_inv (quiet_Q hW) (m + 1) (by rw [qm.e_stp]; omega)).1
        have hnP : nP (qrun (quiet σ) (m + 1)) = nP σ := by
          rw [((qrun_inv (quiet_Q hW) (m + 1) (by rw [qm.e_stp]; omega)).2.2.1).e_nP, qm.e_nP]
        have hv := (b4.1.1 j (by show j < nP (qrun (quiet σ) (m + 1)); omega)).1
        have hjn : j < nP (qst (qrun (quiet σ) m)) := by show j < nP (qrun (quiet σ) (m + 1)); omega
        have hb := Works_bandOf_e b3.2.1 q1'.1.1.1 (p := j) hjn _ hv
        simp only [Nat.reduceAdd] at hv hb
        have hbody : Outlook_firstTime_l12 τ (nI j) (nI b) (nI (m + 1)) = if stnd (qrun (quiet σ) (m + 1)) j = nI b then some (.inr (.inl (nI (m + 1), τ'))) else some (.inl (τ', nI (m + 1 + 1))) := by
          unfold Outlook_firstTime_l12
          rw [zlit, if_neg (nI_nlt (by omega) (by omega)), b1, obs, b3.2.2.2.1, zmr2_e rfl b3.1, zrd_e (by omega) (by omega), hb, obs, zlt_e, zlit, nI_add]
          rfl
        rw [hbody]
        by_cases c : stnd (qrun (quiet σ) (m + 1)) j = nI b
        · rw [if_pos c]
          exact ⟨_, rfl, Or.inl ⟨m + 1, τ', rfl, fr.trans b2, by omega, by omega, c, fun k k1 k2 => no k k1 (by omega)⟩⟩
        · rw [if_neg c]
          refine ih (m + 1) τ' (by omega) (by omega) (fr.trans b2) b3 b4 (fun k k1 k2 => ?_)
          by_cases ck : k = m + 1
          · subst ck; exact c
          · exact no k k1 (by omega)
      · have : m = 200 := by omega
        subst this
        have hbody : Outlook_firstTime_l12 τ (nI j) (nI b) (nI 201) = some (.inr (.inr (τ, nI 201))) := by
          unfold Outlook_firstTime_l12
          rw [zlit, if_pos (nI_lt (by omega) (by omega))]
        refine ⟨.inr (τ, nI 201), ?_, Or.inr ⟨τ, rfl, fr, no⟩⟩
        show (Outlook_firstTime_l12 τ (nI j) (nI b) (nI 201)).bind _ = _
        rw [hbody]
        rfl
  obtain ⟨o, e, ho⟩ := key zFU 0 σ0 (by rw [zFU_e]; omega) (by omega) (Fr.refl _) a3 a4 (fun k k1 k2 => by omega)
  rcases ho with ⟨n, τ', rfl, f1, n1, n2, n3, n4⟩ | ⟨τ', rfl, f1, n4⟩
  · refine ⟨nI n, τ', ?_, a2.trans (f1.wide (by omega) (by omega)), Or.inl ⟨n, n1, n2, rfl, n3, n4⟩⟩
    unfold Outlook_firstTime
    rw [zlit, a1, obs, zlt_e, zlit, e, obs, sel_l]
  · refine ⟨-1, τ', ?_, a2.trans (f1.wide (by omega) (by omega)), Or.inr ⟨rfl, n4⟩⟩
    unfold Outlook_firstTime
    rw [zlit, a1, obs, zlt_e, zlit, e, obs, sel_r]
def FT (μ : Sg) (j b : Nat) (r : Int32) : Prop := (∃ n, 1 ≤ n ∧ n ≤ 200 ∧ r = nI n ∧ stnd (qrun μ n) j = nI b ∧ ∀ m, 1 ≤ m → m < n → ¬ stnd (qrun μ m) j = nI b) ∨ (r = -1 ∧ ∀ m, 1 ≤ m → m ≤ 200 → ¬ stnd (qrun μ m) j = nI b)
theorem FT.uniq {μ : Sg} {j b : Nat} {r r' : Int32} (h : FT μ j b r) (h' : FT μ j b r') : r = r' := by
  rcases h with ⟨n, n1, n2, rfl, n3, n4⟩ | ⟨rfl, n4⟩
  · rcases h' with ⟨m, m1, m2, rfl, m3, m4⟩ | ⟨_, m4⟩
    · rcases Nat.lt_trichotomy n m with c | c | c
      · exact absurd n3 (m4 n n1 c)
      · rw [c]
      · exact absurd m3 (n4 m m1 c)
    · exact absurd n3 (m4 n n1 n2)
  · rcases h' with ⟨m, m1, m2, rfl, m3, m4⟩ | ⟨rfl, m4⟩
    · exact absurd m3 (n4 m m1 m2)
    · rfl
theorem m_when {σ σ1 : Sg} (hW : InvW σ) (hs : stp σ ≤ 9999) (hq : σ 171 26 = nI 0) (f : Fr 81 123 σ σ1) {j b : Nat} (hj : j < nP σ) :
    ∃ r σ', M_when_j31 σ1 (nI j) (nI b) = some (r, σ') ∧ FrM σ1 σ' ∧ FT (quiet σ) j b r := by
  obtain ⟨μ, b1, b2, b3, b4, b5, b6, b7⟩ := m_run hW hs hq f
  have hP8 := hW.1.1.1.2
  have em : (-1 : Int32) = -nI 1 := rfl
  have hst : ∀ n, n ≤ 200 → stnd (qrun μ n) j = stnd (qrun (quiet σ) n) j := fun n hn => (b7 n hn).2.1.e_stnd (by unfold okE; omega) (by omega)
  have key : ∀ (fu m : Nat), 201 < fu + m → m ≤ 200 → (∀ k, 1 ≤ k → k ≤ m → ¬ stnd (qrun (quiet σ) k) j = nI b) →
      ∃ r n x, zit (fun (s : (Sg × Int32 × Int32)) => M_when_l42 s.1 (nI j) (nI b) s.2.1 s.2.2) fu (qrun μ m, -nI 1, nI (m + 1)) = some (qrun μ n, r, x) ∧ n ≤ 200 ∧ FT (quiet σ) j b r := by
    intro fu
    induction fu with
    | zero => intro m h1 h2; omega
    | succ fu ih =>
      intro m h1 h2 no
      rcases Nat.lt_or_ge m 200 with hm | hm
      · have hqm := (qrun_inv b2 m (by omega)).1
        have hso := M_stepsOn_e hqm.1
        have hsn := hst (m + 1) (by omega)
        have hbody : M_when_l42 (qrun μ m) (nI j) (nI b) (-nI 1) (nI (m + 1)) = if stnd (qrun (quiet σ) (m + 1)) j = nI b then some (.inl (qrun μ (m + 1), nI (m + 1), nI (m + 1 + 1))) else some (.inl (qrun μ (m + 1), -nI 1, nI (m + 1 + 1))) := by
          unfold M_when_l42
          rw [zlit, if_neg (nI_nlt (by omega) (by omega)), em, if_pos rfl, hso, obs, M_standOf_e (by omega), obs]
          show (if stnd (qrun μ (m + 1)) j = nI b then _ else _) = _
          rw [hsn, zlt_e, zlt_e, zlit, nI_add]
          rfl
        unfold zit
        show ∃ r n x, (M_when_l42 (qrun μ m) (nI j) (nI b) (-nI 1) (nI (m + 1))).bind _ = _ ∧ _
        rw [hbody]
        by_cases c : stnd (qrun (quiet σ) (m + 1)) j = nI b
        · rw [if_pos c]
          obtain ⟨fu', rfl⟩ : ∃ fu', fu = fu' + 1 := ⟨fu - 1, by omega⟩
          refine ⟨nI (m + 1), m + 1, nI (m + 1 + 1), ?_, by omega, Or.inl ⟨m + 1, by omega, by omega, rfl, c, fun k k1 k2 => no k k1 (by omega)⟩⟩
          have hb2 : M_when_l42 (qrun μ (m + 1)) (nI j) (nI b) (nI (m + 1)) (nI (m + 1 + 1)) = some (.inr (qrun μ (m + 1), nI (m + 1), nI (m + 1 + 1))) := by
            unfold M_when_l42
            rw [em, if_neg (show ¬ nI (m + 1) = -nI 1 from fun q => (nI_n1 (a := m + 1) (by omega) ▸ q : False))]
            split <;> rfl
          rw [obs]
          show zit (fun (s : (Sg × Int32 × Int32)) => M_when_l42 s.1 (nI j) (nI b) s.2.1 s.2.2) (fu' + 1) (qrun μ (m + 1), nI (m + 1), nI (m + 1 + 1)) = _
          unfold zit
          show (M_when_l42 (qrun μ (m + 1)) (nI j) (nI b) (nI (m + 1)) (nI (m + 1 + 1))).bind _ = _
          rw [hb2]
          rfl
        · rw [if_neg c]
          refine ih (m + 1) (by omega) (by omega) (fun k k1 k2 => ?_)
          by_cases ck : k = m + 1
          · subst ck; exact c
          · exact no k k1 (by omega)
      · have : m = 200 := by omega
        subst this
        have hbody : M_when_l42 (qrun μ 200) (nI j) (nI b) (-nI 1) (nI 201) = some (.inr (qrun μ 200, -nI 1, nI 201)) := by
          unfold M_when_l42
          rw [zlit, if_pos (nI_lt (by omega) (by omega))]
        refine ⟨-nI 1, 200, nI 201, ?_, by omega, Or.inr ⟨rfl, no⟩⟩
        unfold zit
        show (M_when_l42 (qrun μ 200) (nI j) (nI b) (-nI 1) (nI 201)).bind _ = _
        rw [hbody]
        rfl
  obtain ⟨r, n, x, e, hn, hr⟩ := key zFU 0 (by rw [zFU_e]; omega) (by omega) (fun k k1 k2 => by omega)
  obtain ⟨_, _, σ3, c1, c2⟩ := b7 n hn
  refine ⟨r, σ3, ?_, c2, hr⟩
  have e' : zit (fun (s : (Sg × Int32 × Int32)) => M_when_l42 s.1 (nI j) (nI b) s.2.1 s.2.2) zFU (μ, -nI 1, nI 1) = some (qrun μ n, r, x) := e
  unfold M_when_j31
  simp only [zlt_e, zlit, b1, obs, e', c1]
theorem a_when {σ : Sg} {p1 : Nat} (h : Base σ p1) (x1 x2 : Int32) : Two σ (CK_when σ x1 x2) (fun σ1 => M_when σ1 x1 x2) := by
  have hB := h
  obtain ⟨⟨hp, hR, hK, hM⟩, hq, hG⟩ := h
  rcases isPool_c hp hR hK x1 with ⟨e1, e2⟩ | ⟨j, hj, rfl, e1, e2⟩
  · refine two_no (r := -1) ?_ ?_
    · unfold CK_when; rw [e1, bf]
    · show M_when σ x1 x2 = _
      unfold M_when; rw [e2, bf]
  · have hg := hG (Or.inl (by omega))
    have hW := base_W hB hg
    have hs := hM.2.2.2.2.1.2
    rcases isIn_gen (x := x2) (n := 2) (by omega) with ⟨c, c'⟩ | ⟨i, hi, rfl, c⟩
    · have hne : ∀ n : Nat, n < 3 → ¬ x2 = nI n := fun n hn e => by
        rw [e] at c'
        rcases c' with c' | c'
        · exact absurd c' (nI_pos (by omega))
        · exact absurd c' (nI_nlt (by omega) (by omega))
      refine two_no (r := -1) ?_ ?_
      · unfold CK_when
        rw [e1, bt]
        simp only [zlit, hne 0 (by omega), hne 1 (by omega), hne 2 (by omega), ↓reduceIte]
      · show M_when σ (nI j) x2 = _
        unfold M_when
        rw [e2, bt, zlit, zlit, c, bf']
    · have go : ∀ b : Nat, (∀ τ : Sg, Fr 81 123 σ τ → M_when τ (nI j) (nI i) = M_when_j31 τ (nI j) (nI b)) → (∀ r τ, Outlook_firstTime σ p1 55 (nI j) (nI b) = some (r, τ) → CK_when σ (nI j) (nI i) = some (r, τ)) → Two σ (CK_when σ (nI j) (nI i)) (fun σ1 => M_when σ1 (nI j) (nI i)) := by
        intro b hm hc
        obtain ⟨r, σ1, d1, d2, d3⟩ := firstTime_ok (b := b) hB hg hj
        obtain ⟨r', σ2, g1, g2, g3⟩ := m_when (b := b) hW hs hq d2 hj
        have : r = r' := FT.uniq d3 g3
        subst this
        exact ⟨r, σ1, σ2, hc r σ1 d1, d2, (hm σ1 d2).trans g1, g2⟩
      have hin : ∀ τ : Sg, Fr 81 123 σ τ → M_when τ (nI j) (nI i) = if nI i = 2 then M_when_j31 τ (nI j) 0 else M_when_j31 τ (nI j) (nI i + 1) := by
        intro τ hf
        unfold M_when
        rw [M_isPool_fr hf, e2, bt]
        simp only [zlit, c]
        rw [bt']
      have hck : ∀ b : Nat, (i = 0 ∧ b = 1 ∨ i = 1 ∧ b = 2 ∨ i = 2 ∧ b = 0) → ∀ r τ, Outlook_firstTime σ p1 55 (nI j) (nI b) = some (r, τ) → CK_when σ (nI j) (nI i) = some (r, τ) := by
        intro b hb r τ e
        unfold CK_when
        rw [e1, bt]
        rcases hb with ⟨q1, q2⟩ | ⟨q1, q2⟩ | ⟨q1, q2⟩ <;> subst q1 <;> subst q2 <;> simp (disch := omega) only [zlit, nI_eqt, nI_eqf, ↓reduceIte, ptr_e hp, e, obs]
      rcases (show i = 0 ∨ i = 1 ∨ i = 2 by omega) with q | q | q
      · subst q
        exact go 1 (fun τ hf => by rw [hin τ hf]; simp (disch := omega) only [zlit, nI_eqf, ↓reduceIte, nI_add, Nat.reduceAdd]) (hck 1 (by omega))
      · subst q
        exact go 2 (fun τ hf => by rw [hin τ hf]; simp (disch := omega) only [zlit, nI_eqf, ↓reduceIte, nI_add, Nat.reduceAdd]) (hck 2 (by omega))
      · subst q
        exact go 0 (fun τ hf => by rw [hin τ hf]; simp (disch := omega) only [zlit, nI_eqt, ↓reduceIte]) (hck 0 (by omega))
