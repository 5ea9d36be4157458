/-! the log of a step -/
def NoteR (τ : Sg) (p1 : Nat) (ν : Sg) : Prop := (p1 = 3 ∨ p1 = 29) ∧ RepK τ p1 ν ∧ InvT ν ∧ (∀ p, p < nP ν → τ 57 p = ν 183 p ∧ τ 58 p = ν 183 (8 + p) ∧ τ 59 p = ν 183 (24 + p)) ∧
  (∀ p, p < nP ν → τ 66 p = ν 191 p ∧ τ 67 p = ν 189 p ∧ τ 68 p = ν 190 p ∧ τ 71 p = ν 192 p) ∧ (∀ p, p < nP ν → τ 69 p = ν 183 (120 + p) ∧ ν 193 p = (if τ 70 p ≤ τ 69 p then 0 else 1)) ∧ ∀ p, p < nP ν → τ 72 p = wsh ν p (stp ν + 1)
theorem NoteR.fr {σ τ ν : Sg} {p1 : Nat} (h : NoteR σ p1 ν) (f : Fr 77 79 σ τ) : NoteR τ p1 ν := by
  obtain ⟨h0, h1, h2, h3, h4, h5, h6⟩ := h
  refine ⟨h0, h1.fr f h2.1.2.2.1.2 (by omega), h2, ?_, ?_, ?_, ?_⟩
  · rw [f 57 (by omega), f 58 (by omega), f 59 (by omega)]; exact h3
  · rw [f 66 (by omega), f 67 (by omega), f 68 (by omega), f 71 (by omega)]; exact h4
  · rw [f 69 (by omega), f 70 (by omega)]; exact h5
  · rw [f 72 (by omega)]; exact h6
theorem stnd_c (ν : Sg) (p : Nat) : stnd ν p = nI 0 ∨ stnd ν p = nI 1 ∨ stnd ν p = nI 2 := by
  unfold stnd
  split
  · exact Or.inr (Or.inl rfl)
  · split
    · exact Or.inr (Or.inr rfl)
    · exact Or.inl rfl
theorem offW_ok {τ ν : Sg} {p1 p : Nat} (h : NoteR τ p1 ν) (hp : p < nP ν) : Log_isOffWanted τ p1 56 (nI p) = some (offW ν p) := by
  obtain ⟨h0, h1, h2, h3, h4, h5, h6⟩ := h
  have hP8 := h2.1.1.2
  have e1 := (h3 p hp).2.1
  have e2 := h6 p hp
  have hh := Works_heldIn_e h1 h2.1 hp (wsh ν p (stp ν + 1))
  unfold Log_isOffWanted offW
  simp (disch := omega) only [zgt_e, zpt_e, zlt_e, zrd_e, zwr_e, zelr_e, znz_e, zcp_e, zlit, nI_add, nI_mul, nI_sub, nI_div, ↓irem_f, irem_e, Nat.zero_add, Nat.add_zero, obs, zb_t, zb_f, nI_eqt, nI_eqf, nI_let, nI_lef, nI_ltt, nI_ltf, nI_m1, nI_n1, ↓reduceIte, zup_ne, zup_miss, zup_hit, zbo_1, zbo_0, reduceCtorEq, sel_l, sel_r, Nat.reduceAdd, Nat.reduceSub, Nat.reduceMul, e1, e2, hh]
  by_cases c : ν 183 (8 + p) = hld ν p (wsh ν p (stp ν + 1))
  · rw [if_pos c]; simp [c]
  · rw [if_neg c]; simp [c]
theorem below_ok {τ ν : Sg} {p1 p : Nat} (h : NoteR τ p1 ν) (hp : p < nP ν) (hs : stnd ν p = nI 1) : Log_causeBelow τ p1 56 (nI p) = some (caus ν p) := by
  have ho := offW_ok h hp
  obtain ⟨h0, h1, h2, h3, h4, h5, h6⟩ := h
  have hP8 := h2.1.1.2
  obtain ⟨e1, e2⟩ := h5 p hp
  have e3 := h6 p hp
  have e4 := (h1.2.1 p hp).2.2.1
  have e5 := (h3 p hp).2.2
  unfold Log_causeBelow caus
  rw [hs, if_neg (show ¬ nI 1 = 2 from by decide), e2]
  simp (disch := omega) only [zrd_e, Nat.reduceAdd]
  by_cases c1 : τ 70 p ≤ τ 69 p
  · rw [if_pos c1, if_pos c1, if_neg (show ¬ (0 : Int32) = 1 from by decide), e3, e4]
    by_cases c2 : wsh ν p (stp ν + 1) ≤ ν 172 (9 * p + 4)
    · rw [if_pos c2, if_pos c2, ho]
      by_cases c3 : offW ν p = true
      · rw [c3, bt, if_pos rfl]
      · have c3' : offW ν p = false := by simpa using c3
        rw [c3', bf, e5, if_neg (show ¬ (false = true) from by decide)]
        by_cases c4 : ν 183 (24 + p) ≤ 0
        · rw [if_pos c4, if_pos c4]
        · rw [if_neg c4, if_neg c4]
    · rw [if_neg c2, if_neg c2]
  · rw [if_neg c1, if_neg c1, if_pos rfl]
theorem above_ok {τ ν : Sg} {p1 p : Nat} (h : NoteR τ p1 ν) (hp : p < nP ν) (hs : stnd ν p = nI 2) : Log_causeAbove τ p1 56 (nI p) = some (caus ν p) := by
  have ho := offW_ok h hp
  obtain ⟨h0, h1, h2, h3, h4, h5, h6⟩ := h
  have hP8 := h2.1.1.2
  have e1 := (h4 p hp).2.2.2
  unfold Log_causeAbove caus
  rw [hs, if_pos (show nI 2 = 2 from rfl)]
  simp (disch := omega) only [zrd_e, Nat.reduceAdd]
  rw [e1]
  by_cases c1 : ν 192 p ≤ 0
  · rw [if_pos c1, if_pos c1, ho]
    by_cases c3 : offW ν p = true
    · rw [c3, bt, if_pos rfl]
    · have c3' : offW ν p = false := by simpa using c3
      rw [c3', bf, if_neg (by decide)]
  · rw [if_neg c1, if_neg c1]
theorem j125_ok {τ ν : Sg} {p1 p s : Nat} {s0 : Int32} (h : NoteR τ p1 ν) (hp : p < nP ν) :
    Log_noteStep_j10_125 τ 77 p1 56 (nI s) (nI p) s0 = if stnd ν p = nI 0 ∨ stnd ν p = s0 then some (.inl (τ, nI (p + 1))) else (Log_keepAlarm τ 77 (nI s) (nI p) (caus ν p)).bind fun r => some (.inl (r, nI (p + 1))) := by
  have hb := below_ok h hp
  have ha := above_ok h hp
  obtain ⟨h0, h1, h2, h3, h4, h5, h6⟩ := h
  have hP8 := h2.1.1.2
  have hbd := Works_bandOf_e h1 h2.1 hp (τ 57 p) (h3 p hp).1
  unfold Log_noteStep_j10_125
  simp (disch := omega) only [zrd_e, Nat.reduceAdd]
  rw [hbd, obs, zlt_e]
  rcases stnd_c ν p with c | c | c
  · rw [c, if_pos (show nI 0 = 0 from rfl), if_pos (Or.inl rfl), zlt_e, show (1 : Int32) = nI 1 from rfl, nI_add]
  · rw [c, if_neg (show ¬ nI 1 = 0 from by decide)]
    by_cases c2 : nI 1 = s0
    · rw [if_pos c2, if_pos (Or.inr c2), zlt_e, show (1 : Int32) = nI 1 from rfl, nI_add]
    · have n1 : ¬ (nI 1 = nI 0 ∨ nI 1 = s0) := fun w => w.elim (fun z => absurd z (by decide)) c2
      rw [if_neg n1, if_neg c2, if_pos (show nI 1 = 1 from rfl), hb c, obs]
      simp only [zlt_e, zlit, nI_add]
  · rw [c, if_neg (show ¬ nI 2 = 0 from by decide)]
    by_cases c2 : nI 2 = s0
    · rw [if_pos c2, if_pos (Or.inr c2), zlt_e, show (1 : Int32) = nI 1 from rfl, nI_add]
    · have n1 : ¬ (nI 2 = nI 0 ∨ nI 2 = s0) := fun w => w.elim (fun z => absurd z (by decide)) c2
      rw [if_neg n1, if_neg c2, if_neg (show ¬ nI 2 = 1 from by decide), ha c, obs]
      simp only [zlt_e, zlit, nI_add]
