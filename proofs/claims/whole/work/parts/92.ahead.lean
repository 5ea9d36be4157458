/-! what comes: later, opening, lacks, when -/
def quiet (σ : Sg) : Sg := zup σ 171 26 (nI 1)
def Base (σ : Sg) (p1 : Nat) : Prop := Now σ p1 ∧ σ 171 26 = nI 0 ∧ (0 < nP σ ∨ σ 171 25 = nI 1 → Gain σ)
def FrM (σ σ' : Sg) : Prop := ∀ a, a ≠ 184 → a < 189 ∨ 193 < a → σ' a = σ a
theorem FrM.refl (σ : Sg) : FrM σ σ := fun _ _ _ => rfl
theorem FrM.trans {σ τ υ : Sg} (h : FrM σ τ) (g : FrM τ υ) : FrM σ υ := fun a h1 h2 => (g a h1 h2).trans (h a h1 h2)
theorem base_W {σ : Sg} {p1 : Nat} (h : Base σ p1) (hg : Gain σ) : InvW σ := by
  obtain ⟨⟨_, _, hK, _, _, ⟨kept, _, _, l3, _⟩, hO, ⟨hS, hS9⟩, _⟩, _⟩ := h
  exact ⟨⟨hK, hO, ⟨hS, by omega⟩, hg⟩, min kept 40, l3, Nat.min_le_right _ _⟩
theorem quiet_E {σ : Sg} : (quiet σ 171 0 = σ 171 0 ∧ quiet σ 171 1 = σ 171 1 ∧ quiet σ 171 2 = σ 171 2) ∧ quiet σ 171 26 = nI 1 ∧ ∀ a, a ≠ 171 → quiet σ a = σ a :=
  ⟨⟨zup_miss (by omega), zup_miss (by omega), zup_miss (by omega)⟩, zup_hit, fun a ha => zup_ne ha⟩
/-- what hangs on the canal's rows alone -/
def MEq (μ μ' : Sg) : Prop := (μ' 171 0 = μ 171 0 ∧ μ' 171 1 = μ 171 1 ∧ μ' 171 2 = μ 171 2) ∧ (μ' 172 = μ 172 ∧ μ' 173 = μ 173 ∧ μ' 174 = μ 174) ∧ μ' 183 = μ 183
section ME
variable {μ μ' : Sg}
theorem MEq.e_nP (h : MEq μ μ') : nP μ' = nP μ := by unfold nP; rw [h.1.1]
theorem MEq.e_nO (h : MEq μ μ') : nO μ' = nO μ := by unfold nO; rw [h.1.2.1]
theorem MEq.e_nT (h : MEq μ μ') : nT μ' = nT μ := by unfold nT; rw [h.1.2.2]
theorem MEq.e_tl (h : MEq μ μ') : tl μ' = tl μ := by funext p j; unfold tl; rw [h.2.1.1]
theorem MEq.e_opl (h : MEq μ μ') : opl μ' = opl μ := by funext p; unfold opl; rw [h.2.1.2.1]
theorem MEq.e_tk (h : MEq μ μ') : tk μ' = tk μ := by funext p; unfold tk; rw [h.2.1.2.1]
theorem MEq.e_ev (h : MEq μ μ') : ev μ' = ev μ := by funext p; unfold ev; rw [h.2.1.2.2]
theorem MEq.e_sz (h : MEq μ μ') : sz μ' = sz μ := by funext p; unfold sz; rw [h.2.1.2.2]
theorem MEq.e_nC (h : MEq μ μ') : nC μ' = nC μ := by unfold nC; rw [h.2.2]
theorem MEq.e_stp (h : MEq μ μ') : stp μ' = stp μ := by unfold stp; rw [h.2.2]
theorem MEq.e_oo (h : MEq μ μ') : oo μ' = oo μ := by funext k; unfold oo; rw [h.2.2]
theorem MEq.e_ofr (h : MEq μ μ') : ofr μ' = ofr μ := by funext k; unfold ofr; rw [h.2.2]
theorem MEq.e_oma (h : MEq μ μ') : oma μ' = oma μ := by funext k; unfold oma; rw [h.2.2]
theorem MEq.e_mid (h : MEq μ μ') : mid μ' = mid μ := by funext k; unfold mid; rw [h.2.1.1]
theorem MEq.e_stnd (h : MEq μ μ') : stnd μ' = stnd μ := by funext k; unfold stnd; rw [h.2.1.1, h.2.2]
theorem MEq.e_InvK (h : MEq μ μ') (hK : InvK μ) : InvK μ' := by
  unfold InvK at hK ⊢
  rw [h.e_nP, h.e_nO, h.e_nT, h.e_tl, h.e_opl, h.e_tk, h.e_ev, h.e_sz, h.1.1, h.1.2.1, h.1.2.2, h.2.1.1, h.2.1.2.1, h.2.1.2.2]
  exact hK
theorem MEq.e_InvO (h : MEq μ μ') (hO : InvO μ) : InvO μ' := by
  unfold InvO at hO ⊢
  rw [h.e_nC, h.e_nO, h.e_oo, h.e_ofr, h.e_oma, h.2.2]
  exact hO
theorem MEq.e_RepK {σ : Sg} {p1 : Nat} (h : MEq μ μ') (hR : RepK σ p1 μ) : RepK σ p1 μ' := by
  unfold RepK at hR ⊢
  rw [h.e_nP, h.e_nO, h.e_nT, h.e_sz, h.e_mid, h.1.1, h.1.2.1, h.1.2.2, h.2.1.1, h.2.1.2.1, h.2.1.2.2]
  exact hR
theorem MEq.e_RepOr {σ : Sg} {w : Nat} (h : MEq μ μ') (hR : RepOr σ w μ) : RepOr σ w μ' := by
  unfold RepOr at hR ⊢
  rw [h.e_nC, h.2.2]
  exact hR
theorem MEq.e_RepW {σ : Sg} {w : Nat} (h : MEq μ μ') (hR : RepW σ w μ) : RepW σ w μ' := by
  unfold RepW RepV WayA WayZ at hR ⊢
  rw [h.e_nP, h.e_nO, h.e_tl, h.e_stp, h.2.2]
  exact hR
theorem MEq.e_RepLg {σ : Sg} {w : Nat} (h : MEq μ μ') (hR : RepLg σ w μ) : RepLg σ w μ' := by
  unfold RepLg at hR ⊢
  rw [h.e_nP, h.e_stp, h.2.2]
  exact hR
theorem MEq.e_InvS (h : MEq μ μ') (hR : InvS μ) : InvS μ' := by
  unfold InvS at hR ⊢
  rw [h.e_stp, h.2.2]
  exact hR
theorem MEq.e_InvWs (h : MEq μ μ') (hR : InvWs μ) : InvWs μ' := by
  unfold InvWs at hR ⊢
  rw [h.e_nP, h.e_stp, h.e_stnd, h.2.2]
  exact hR
theorem MEq.e_InvR (h : MEq μ μ') (hR : InvR μ) : InvR μ' := by
  unfold InvR at hR ⊢
  rw [h.e_nP, h.e_nO, h.e_tl, h.e_stp, h.2.2]
  exact hR
theorem MEq.e_Mom {σ : Sg} {m : Nat} (h : MEq μ μ') (hM : Mom σ m μ) : Mom σ m μ' := by
  obtain ⟨h1, h2, h3, h4, h5, h6, h7⟩ := hM
  exact ⟨h.e_RepW h1, h.e_RepOr h2, h.e_RepLg h3, h.e_InvO h4, h.e_InvS h5, h.e_InvWs h6, h.e_InvR h7⟩
theorem MEq.e_InvW (h : MEq μ μ') (hW : InvW μ) : InvW μ' := by
  obtain ⟨⟨hK, hO, hs, hg⟩, hk⟩ := hW
  refine ⟨⟨h.e_InvK hK, h.e_InvO hO, ?_, ?_⟩, ?_⟩
  · rw [h.e_stp, h.2.2]; exact hs
  · rw [h.2.2]; exact hg
  · rw [h.2.2]; exact hk
end ME
theorem quiet_M (σ : Sg) : MEq σ (quiet σ) := ⟨quiet_E.1, ⟨quiet_E.2.2 _ (by omega), quiet_E.2.2 _ (by omega), quiet_E.2.2 _ (by omega)⟩, quiet_E.2.2 _ (by omega)⟩
theorem quiet_Q {σ : Sg} (h : InvW σ) : InvQ (quiet σ) := ⟨(quiet_M σ).e_InvW h, quiet_E.2.1⟩
/-- the look, with the quiet state beside it -/
theorem c_look {σ : Sg} {p1 n : Nat} (h : Base σ p1) (hg : Gain σ) (hn : n ≤ 200) : ∃ σ1, Outlook_look σ p1 55 (nI n) = some σ1 ∧ Fr 81 123 σ σ1 ∧ LookR σ1 p1 (quiet σ) (stp σ) n ∧ RepW σ1 82 (quiet σ) := by
  have hW := base_W h hg
  obtain ⟨⟨hp, hR, hK, hM⟩, _⟩ := h
  have q := quiet_M σ
  have := Outlook_look_ok (σ := σ) (μ := quiet σ) hp.1 (q.e_RepK hR) (q.e_RepOr hM.2.1) (q.e_InvW hW).1 (q.e_RepW hM.1) hn
  rw [q.e_stp] at this
  exact this
theorem m_ahead {σ : Sg} (hW : InvW σ) (hs : stp σ ≤ 9999) (hq : σ 171 26 = nI 0) : ∃ μ, M_beginsAhead σ = some μ ∧ InvQ μ ∧ stp μ = stp σ ∧ EqM 5000 (quiet σ) μ ∧ ∀ n, n ≤ 200 → ∃ σ', M_endsAhead (qrun μ n) = some σ' ∧ FrM σ σ' := by
  obtain ⟨μ, a1, a2, a3, a4, a5⟩ := M_beginsAhead_ok σ
  have me : MEq σ μ := ⟨⟨a3 0 (by omega), a3 1 (by omega), a3 2 (by omega)⟩, ⟨a4 _ (by omega) (by omega), a4 _ (by omega) (by omega), a4 _ (by omega) (by omega)⟩, a4 _ (by omega) (by omega)⟩
  have hQ : InvQ μ := ⟨me.e_InvW hW, a2⟩
  refine ⟨μ, a1, hQ, me.e_stp, ?_, fun n hn => ?_⟩
  · obtain ⟨e1, e2, e3⟩ := quiet_E (σ := σ)
    refine ⟨⟨?_, ?_, ?_, ?_⟩, ⟨?_, ?_, ?_⟩, fun i _ => ?_⟩
    · rw [e1.1]; exact a3 0 (by omega)
    · rw [e1.2.1]; exact a3 1 (by omega)
    · rw [e1.2.2]; exact a3 2 (by omega)
    · rw [e2, a2]
    · rw [e3 _ (by omega)]; exact a4 _ (by omega) (by omega)
    · rw [e3 _ (by omega)]; exact a4 _ (by omega) (by omega)
    · rw [e3 _ (by omega)]; exact a4 _ (by omega) (by omega)
    · rw [e3 _ (by omega), a4 _ (by omega) (by omega)]
  · obtain ⟨_, _, sb, hi⟩ := qrun_inv hQ n (by rw [me.e_stp]; omega)
    obtain ⟨σ', b1, b2, b3, b4, b5⟩ := M_endsAhead_ok (qrun μ n)
    refine ⟨σ', b1, fun a h1 h2 => ?_⟩
    by_cases c1 : a = 171
    · subst c1
      funext k
      by_cases c2 : k = 26
      · subst c2; rw [b2, hq]
      · rw [b3 k c2, sb.r171, a3 k c2]
    · by_cases c2 : a = 183
      · subst c2
        funext k
        rw [b5]
        split
        · rename_i c3
          rw [sb.1 184 (by omega) (by omega) (by omega) (by omega) (by omega) (by omega), a5 k c3]
        · rename_i c3
          rw [hi k (by omega), a4 183 (by omega) (by omega)]
      · rw [b4 a c1 c2, sb.1 a c2 (by omega) (by omega) (by omega) (by omega) (by omega), a4 a c1 h1]
theorem fr_M {σ σ1 : Sg} (f : Fr 81 123 σ σ1) : MEq σ σ1 := by
  refine ⟨?_, ⟨f _ (by omega), f _ (by omega), f _ (by omega)⟩, f _ (by omega)⟩
  rw [f 171 (by omega)]
  exact ⟨rfl, rfl, rfl⟩
theorem fr_Q {σ σ1 : Sg} (f : Fr 81 123 σ σ1) : EqM 5000 (quiet σ) (quiet σ1) := by
  obtain ⟨e1, e2, e3⟩ := quiet_E (σ := σ)
  obtain ⟨d1, d2, d3⟩ := quiet_E (σ := σ1)
  have f1 := f 171 (by omega)
  refine ⟨⟨?_, ?_, ?_, ?_⟩, ⟨?_, ?_, ?_⟩, fun i _ => ?_⟩
  · rw [e1.1, d1.1, f1]
  · rw [e1.2.1, d1.2.1, f1]
  · rw [e1.2.2, d1.2.2, f1]
  · rw [e2, d2]
  · rw [e3 _ (by omega), d3 _ (by omega), f _ (by omega)]
  · rw [e3 _ (by omega), d3 _ (by omega), f _ (by omega)]
  · rw [e3 _ (by omega), d3 _ (by omega), f _ (by omega)]
  · rw [e3 _ (by omega), d3 _ (by omega), f _ (by omega)]
/-- the reference's run ahead, told by the quiet state of the class's call -/
theorem m_run {σ σ1 : Sg} (hW : InvW σ) (hs : stp σ ≤ 9999) (hq : σ 171 26 = nI 0) (f : Fr 81 123 σ σ1) : ∃ μ, M_beginsAhead σ1 = some μ ∧ InvQ μ ∧ stp μ = stp σ ∧ nP μ = nP σ ∧ nO μ = nO σ ∧ InvK μ ∧ ∀ n, n ≤ 200 → M_goesAhead μ (nI n) = some (qrun μ n) ∧ EqM 5000 (qrun (quiet σ) n) (qrun μ n) ∧ ∃ σ', M_endsAhead (qrun μ n) = some σ' ∧ FrM σ1 σ' := by
  have me := fr_M f
  obtain ⟨μ, a1, a2, a3, a4, a5⟩ := m_ahead (me.e_InvW hW) (by rw [me.e_stp]; exact hs) (by rw [f 171 (by omega)]; exact hq)
  rw [me.e_stp] at a3
  have e0 : EqM 5000 (quiet σ) μ := (fr_Q f).trans a4
  have qm := quiet_M σ
  refine ⟨μ, a1, a2, a3, by rw [e0.e_nP, qm.e_nP], by rw [e0.e_nO, qm.e_nO], a2.1.1.1, fun n hn => ⟨M_goesAhead_e a2 hn (by omega), e0.e_qrun (by omega) (quiet_Q hW) n (by rw [qm.e_stp]; omega), a5 n hn⟩⟩
theorem M_isPool_fr {σ σ1 : Sg} (f : Fr 81 123 σ σ1) (x : Int32) : M_isPool σ1 x = M_isPool σ x := by unfold M_isPool; rw [zgt_e, zgt_e, f 171 (by omega)]
theorem M_isOutlet_fr {σ σ1 : Sg} (f : Fr 81 123 σ σ1) (x : Int32) : M_isOutlet σ1 x = M_isOutlet σ x := by unfold M_isOutlet; rw [zgt_e, zgt_e, f 171 (by omega)]
def Two {α : Type} (σ : Sg) (c : Option (α × Sg)) (m : Sg → Option (α × Sg)) : Prop := ∃ r σ1 σ2, c = some (r, σ1) ∧ Fr 81 123 σ σ1 ∧ m σ1 = some (r, σ2) ∧ FrM σ1 σ2
theorem two_no {α : Type} {σ : Sg} {r : α} {c : Option (α × Sg)} {m : Sg → Option (α × Sg)} (h1 : c = some (r, σ)) (h2 : m σ = some (r, σ)) : Two σ c m := ⟨r, σ, σ, h1, Fr.refl σ, h2, FrM.refl σ⟩
theorem c_run {σ : Sg} {p1 n : Nat} (h : Base σ p1) (hg : Gain σ) (hn : n ≤ 200) : ∃ σ1 σ2, Outlook_look σ p1 55 (nI n) = some σ1 ∧ Outlook_run σ1 (nI n) = some σ2 ∧ Fr 81 123 σ σ2 ∧ RepW σ2 82 (qrun (quiet σ) n) := by
  have hW := base_W h hg
  obtain ⟨σ1, a1, a2, a3, a4⟩ := c_look h hg hn
  have hs := h.1.2.2.2.2.2.2.2.1.2
  obtain ⟨σ2, b1, b2, b3, b4⟩ := Outlook_run_ok a3 (quiet_Q hW) a4 (by rw [(quiet_M σ).e_stp]) (Nat.le_refl n) (by rw [(quiet_M σ).e_stp]; omega)
  exact ⟨σ1, σ2, a1, b1, a2.trans (b2.wide (by omega) (by omega)), b4⟩
theorem a_later {σ : Sg} {p1 : Nat} (h : Base σ p1) (x1 x2 : Int32) : Two σ (CK_later σ x1 x2) (fun σ1 => M_later σ1 x1 x2) := by
  have hB := h
  obtain ⟨⟨hp, hR, hK, hM⟩, hq, hG⟩ := h
  have hP8 := hK.1.2
  rcases isPool_c hp hR hK x1 with ⟨e1, e2⟩ | ⟨j, hj, rfl, e1, e2⟩
  · refine two_no (r := -1) ?_ ?_
    · unfold CK_later; rw [e1, bf]
    · show M_later σ x1 x2 = _
      unfold M_later; rw [e2, bf]
  · have hg := hG (Or.inl (by omega))
    have hW := base_W hB hg
    have hs := hM.2.2.2.2.1.2
    rcases isIn_gen (x := x2) (n := 200) (by omega) with ⟨c, c'⟩ | ⟨n, hn, rfl, c⟩
    · refine two_no (r := -1) ?_ ?_
      · unfold CK_later
        rw [e1, bt]
        rcases c' with c' | c'
        · rw [if_pos c']
        · rw [if_neg (show ¬ x2 ≤ 200 from Int32.not_le.mpr c')]
          split <;> rfl
      · show M_later σ (nI j) x2 = _
        unfold M_later
        rw [e2, bt, zlit, zlit, c, bf']
    · obtain ⟨σ1, σ2, a1, a2, a3, a4⟩ := c_run hB hg hn
      obtain ⟨μ, b1, b2, b3, b4, b5, b6, b7⟩ := m_run hW hs hq a3
      obtain ⟨b8, b9, σ3, b10, b11⟩ := b7 n hn
      have qn : nP (qrun (quiet σ) n) = nP σ := by
        rw [((qrun_inv (quiet_Q hW) n (by rw [(quiet_M σ).e_stp]; omega)).2.2.1).e_nP, (quiet_M σ).e_nP]
      have hv := (a4.1.1 j (by omega)).1
      simp only [Nat.reduceAdd] at hv
      refine ⟨qrun (quiet σ) n 183 j, σ2, σ3, ?_, a3, ?_, b11⟩
      · unfold CK_later
        rw [e1, bt]
        simp (disch := omega) only [zlit, nI_ltf, nI_let, ↓reduceIte, ptr_e hp, a1, a2, obs, zrd_e, hv]
      · show M_later σ2 (nI j) (nI n) = _
        unfold M_later
        rw [M_isPool_fr a3, e2, bt]
        simp (disch := omega) only [zlit, c, obs, zb_t, nI_eqf, ↓reduceIte, b1, b8, b10, zrd_e, nI_add, Nat.zero_add, b9.2.2]
theorem a_opening {σ : Sg} {p1 : Nat} (h : Base σ p1) (x1 x2 : Int32) : Two σ (CK_opening σ x1 x2) (fun σ1 => M_opening σ1 x1 x2) := by
  have hB := h
  obtain ⟨⟨hp, hR, hK, hM⟩, hq, hG⟩ := h
  have hP8 := hK.1.2
  rcases isPool_c hp hR hK x1 with ⟨e1, e2⟩ | ⟨j, hj, rfl, e1, e2⟩
  · refine two_no (r := -1) ?_ ?_
    · unfold CK_opening; rw [e1, bf]
    · show M_opening σ x1 x2 = _
      unfold M_opening; rw [e2, bf]
  · have hg := hG (Or.inl (by omega))
    have hW := base_W hB hg
    have hs := hM.2.2.2.2.1.2
    rcases isIn_gen (x := x2) (n := 200) (by omega) with ⟨c, c'⟩ | ⟨n, hn, rfl, c⟩
    · refine two_no (r := -1) ?_ ?_
      · unfold CK_opening
        rw [e1, bt]
        rcases c' with c' | c'
        · rw [if_pos c']
        · rw [if_neg (show ¬ x2 ≤ 200 from Int32.not_le.mpr c')]
          split <;> rfl
      · show M_opening σ (nI j) x2 = _
        unfold M_opening
        rw [e2, bt, zlit, zlit, c, bf']
    · obtain ⟨σ1, σ2, a1, a2, a3, a4⟩ := c_run hB hg hn
      obtain ⟨μ, b1, b2, b3, b4, b5, b6, b7⟩ := m_run hW hs hq a3
      obtain ⟨b8, b9, σ3, b10, b11⟩ := b7 n hn
      have qn : nP (qrun (quiet σ) n) = nP σ := by
        rw [((qrun_inv (quiet_Q hW) n (by rw [(quiet_M σ).e_stp]; omega)).2.2.1).e_nP, (quiet_M σ).e_nP]
      have hv := (a4.1.1 j (by omega)).2.1
      simp only [Nat.reduceAdd] at hv
      refine ⟨qrun (quiet σ) n 183 (8 + j), σ2, σ3, ?_, a3, ?_, b11⟩
      · unfold CK_opening
        rw [e1, bt]
        simp (disch := omega) only [zlit, nI_ltf, nI_let, ↓reduceIte, ptr_e hp, a1, a2, obs, zrd_e, hv]
      · show M_opening σ2 (nI j) (nI n) = _
        unfold M_opening
        rw [M_isPool_fr a3, e2, bt]
        simp (disch := omega) only [zlit, c, obs, zb_t, nI_eqf, ↓reduceIte, b1, b8, b10, zrd_e, nI_add, b9.2.2]
