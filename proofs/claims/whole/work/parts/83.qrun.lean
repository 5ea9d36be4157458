/-! steps ahead, on both sides -/
def qst (μ : Sg) : Sg := goS (begS μ)
def qrun (μ : Sg) : Nat → Sg
  | 0 => μ
  | n + 1 => qst (qrun μ n)
def InvQ (μ : Sg) : Prop := InvW μ ∧ μ 171 26 = nI 1
theorem wat_quiet {τ : Sg} (hq : τ 171 26 = nI 1) : ∀ n, n ≤ 8 → (∀ i, i < 32 ∨ 40 ≤ i → itS watS n τ 183 i = τ 183 i) ∧ itS watS n τ 171 = τ 171 := by
  intro n
  induction n with
  | zero => exact fun _ => ⟨fun _ _ => rfl, rfl⟩
  | succ n ih =>
    intro hn
    obtain ⟨h1, h2⟩ := ih (by omega)
    have hq' : ¬ itS watS n τ 171 26 = 0 := by rw [h2, hq]; decide
    rw [itS_succ, (watS_205 hq' (by omega)).2.2]
    unfold watQ
    refine ⟨fun i hi => by rw [zup_miss (by omega)]; exact h1 i hi, by rw [zup_ne (by omega)]; exact h2⟩
theorem begW {μ : Sg} (hW : InvW μ) : InvW (begS μ) := hW.stat (begS_stat μ) (by rw [begS_183])
theorem qst_hi {μ : Sg} (hQ : InvQ μ) (i : Nat) (hi : 205 ≤ i) : qst μ 183 i = μ 183 i := by
  obtain ⟨hW, hq⟩ := hQ
  have hWb := begW hW
  have hP8 := hWb.1.1.1.2
  have hqb : begS μ 171 26 = nI 1 := by rw [(begS_stat μ).r171]; exact hq
  have hqg : goW (begS μ) 171 26 = nI 1 := by rw [(M_goes_e hWb).2.r171]; exact hqb
  unfold qst
  rw [goS_e]
  unfold bump goQ
  rw [if_neg (by rw [hqb]; decide), zup_miss (by omega), (wat_quiet hqg _ hP8).1 i (by omega), (goW_205 hWb).2 i hi, begS_183]
theorem qst_stB {μ : Sg} (hQ : InvQ μ) : StB μ (qst μ) := (begS_stat μ).toB.trans (goS_stB (begW hQ.1))
theorem qst_stp {μ : Sg} (hQ : InvQ μ) : stp (qst μ) = stp μ + 1 := by
  unfold qst
  rw [goS_stp (begW hQ.1), (begS_stat μ).e_stp]
theorem qst_inv {μ : Sg} (hQ : InvQ μ) (hs : stp μ + 1 ≤ 20000) : InvQ (qst μ) := by
  have hq2 := qst_hi hQ 205 (Nat.le_refl _)
  have hsb := qst_stB hQ
  obtain ⟨hW, hq⟩ := hQ
  have hT := goS_T (begW hW) (by rw [(begS_stat μ).e_stp]; exact hs)
  obtain ⟨_, kc, hk, hk2⟩ := hW
  refine ⟨⟨hT, kc, hq2.trans hk, hk2⟩, ?_⟩
  rw [hsb.r171]
  exact hq
theorem qrun_inv {μ : Sg} (hQ : InvQ μ) : ∀ n, stp μ + n ≤ 20000 → InvQ (qrun μ n) ∧ stp (qrun μ n) = stp μ + n ∧ StB μ (qrun μ n) ∧ ∀ i, 205 ≤ i → qrun μ n 183 i = μ 183 i := by
  intro n
  induction n with
  | zero => exact fun _ => ⟨hQ, rfl, StB.refl μ, fun _ _ => rfl⟩
  | succ n ih =>
    intro hn
    obtain ⟨h1, h2, h3, h4⟩ := ih (by omega)
    exact ⟨qst_inv h1 (by omega), by show stp (qst (qrun μ n)) = _; rw [qst_stp h1, h2]; omega, h3.trans (qst_stB h1), fun i hi => (qst_hi h1 i hi).trans (h4 i hi)⟩
theorem RepW.of {σ μ ν : Sg} {w s : Nat} (hV : RepV σ w ν) (hA : ∀ p, p < nP μ → WayA σ w μ p s) (hZ : WayZ σ w μ) (hn : nP ν = nP μ) (hs : stp ν = s) (ht : tl ν = tl μ) (hw : ∀ p k, p < nP μ → k < 10 → ν 183 (40 + 10 * p + k) = μ 183 (40 + 10 * p + k)) (hd : ∀ p, p < nP μ → tl μ p 3 ≤ 9) : RepW σ w ν := by
  refine ⟨hV, fun p hp => ?_, fun p hp i hi hi9 => ?_⟩
  · rw [hn] at hp
    rw [hs]
    exact (hA p hp).eq rfl (by rw [ht]) (fun k hk => hw p k hp hk) (hd p hp)
  · rw [hn] at hp
    rw [ht] at hi
    exact hZ p hp i hi hi9
theorem runOne_ok {σ μ : Sg} {p1 b l : Nat} (hL : LookR σ p1 μ b l) (hQ : InvQ μ) (hW : RepW σ 82 μ) (hb : b ≤ stp μ) (hb2 : stp μ + 1 ≤ b + l) :
    ∃ σ', Outlook_runOne σ = some σ' ∧ Fr 82 98 σ σ' ∧ LookR σ' p1 (qst μ) b l ∧ RepW σ' 82 (qst μ) ∧ (0 < nP μ → goW (begS μ) 193 0 = if σ' 96 0 ≤ σ' 95 0 then 0 else 1) := by
  obtain ⟨hp1, hR, hS, e3, e4⟩ := hL
  have hI := hQ.1
  obtain ⟨hP, hP8⟩ := hI.1.1.1
  have hT2 := hI.1.1.2.2.1.2
  obtain ⟨σ1, a1, a2, a3, a4⟩ := Water_beginStep_ok (w := 82) (by omega) hP8 hW
  have sb := begS_stat μ
  have hIb := begW hI
  have hnb : nP (begS μ) = nP μ := sb.e_nP
  have hR1 : RepK σ1 p1 (begS μ) := (hR.fr a2 hT2 (by omega)).stat sb
  have hS1 : RepSc σ1 (begS μ) b l := (hS.fr a2 hI.1.1 (by omega)).stat sb hI.1.2.1
  obtain ⟨σ2, b1, b2, b3, b4, b5, b6, b7, b8, b9⟩ := Water_goOn_ok (w := 82) (by omega) hp1 hR1 hS1 hIb.1 (by rw [sb.e_stp]; exact hb) (by rw [sb.e_stp]; exact hb2) a3 a4 (fun q hq => ((begS_it μ 8).2.2 q (by omega)).2.2.2.1)
  have hk := goQ_keep (σ := begS μ) (by omega)
  have sq := qst_stB hQ
  have hqn : nP (qst μ) = nP μ := sq.e_nP
  have hgn : nP (goW (begS μ)) = nP μ := (b3.e_nP).trans hnb
  have ht1 : tl (qst μ) = tl μ := sq.e_tl
  have ht2 : tl (goW (begS μ)) = tl μ := (b3.e_tl).trans sb.e_tl
  refine ⟨σ2, ?_, a2.trans b2, ⟨hp1, ?_, ?_, ?_, ?_⟩, ?_, ?_⟩
  · have x1 : σ1 81 3 = nI (p1 + 1) := by rw [a2 81 (by omega), e3]
    have x3 : σ p1 3 = nI (nP μ) := hR.1.1.trans hP
    unfold Outlook_runOne
    rw [e3, zmr2_e rfl hp1, zgt_e, x3, a1, obs, x1, zmr2_e rfl hp1, b1, obs]
  · exact (hR.fr (a2.trans b2) hT2 (by omega)).stB sq
  · exact (hS.fr (a2.trans b2) hI.1.1 (by omega)).stB sq hI.1.2.1
  · rw [b2 81 (by omega), a2 81 (by omega), e3]
  · rw [b2 81 (by omega), a2 81 (by omega), e4]
  · refine RepW.of (s := stp μ + 1) (μ := goW (begS μ)) (b4 _ hk) ?_ b9 (hqn.trans hgn.symm) (qst_stp hQ) (ht1.trans ht2.symm) ?_ ?_
    · intro p hp
      have := b8 p (by omega)
      rw [sb.e_stp] at this
      exact this
    · intro p k hp hk9
      show bump (goQ (begS μ)) 183 _ = _
      unfold bump
      rw [zup_miss (by omega), hk.2.1 _ (by omega)]
    · intro p hp
      rw [ht2]
      exact (hI.1.1.2.2.2.2.1 p (by omega)).1
  · intro h0
    exact (b6 0 (by omega)).2
theorem Outlook_run_ok {σ μ : Sg} {p1 b l n : Nat} (hL : LookR σ p1 μ b l) (hQ : InvQ μ) (hW : RepW σ 82 μ) (hb : b = stp μ) (hn : n ≤ l) (hs : stp μ + 200 ≤ 20000) :
    ∃ σ', Outlook_run σ (nI n) = some σ' ∧ Fr 82 98 σ σ' ∧ LookR σ' p1 (qrun μ n) b l ∧ RepW σ' 82 (qrun μ n) := by
  have hl2 := hL.2.2.1.1.2.2.1
  have hl := zit_cnt (b := fun (s : (Sg × Int32)) => Outlook_run_l2 s.1 (nI n) s.2) (fun j τ => Fr 82 98 σ τ ∧ LookR τ p1 (qrun μ j) b l ∧ RepW τ 82 (qrun μ j)) nI n (σ := σ) (by omega)
    ⟨Fr.refl σ, hL, hW⟩ (by
    rintro j τ hj ⟨h1, h2, h3⟩
    obtain ⟨q1, q2, _, _⟩ := qrun_inv hQ j (by omega)
    obtain ⟨τ', a1, a2, a3, a4, _⟩ := runOne_ok h2 q1 h3 (by omega) (by omega)
    unfold Outlook_run_l2
    simp (disch := omega) only [zgt_e, zpt_e, zlt_e, zrd_e, zwr_e, zelr_e, znz_e, zcp_e, zlit, nI_add, nI_mul, nI_sub, nI_div, ↓irem_f, irem_e, Nat.zero_add, Nat.add_zero, obs, zb_t, zb_f, nI_eqt, nI_eqf, nI_let, nI_lef, nI_ltt, nI_ltf, nI_m1, nI_n1, ↓reduceIte, zup_ne, zup_miss, zup_hit, zbo_1, zbo_0, reduceCtorEq, sel_l, sel_r, Nat.reduceAdd, Nat.reduceSub, Nat.reduceMul, a1]
    exact ⟨_, rfl, h1.trans a2, a3, a4⟩) (by
    rintro τ _
    unfold Outlook_run_l2
    simp (disch := omega) only [zgt_e, zpt_e, zlt_e, zrd_e, zwr_e, zelr_e, znz_e, zcp_e, zlit, nI_add, nI_mul, nI_sub, nI_div, ↓irem_f, irem_e, Nat.zero_add, Nat.add_zero, obs, zb_t, zb_f, nI_eqt, nI_eqf, nI_let, nI_lef, nI_ltt, nI_ltf, nI_m1, nI_n1, ↓reduceIte, zup_ne, zup_miss, zup_hit, zbo_1, zbo_0, reduceCtorEq, sel_l, sel_r, Nat.reduceAdd, Nat.reduceSub, Nat.reduceMul])
  obtain ⟨τ, e, h1, h2, h3⟩ := hl
  refine ⟨τ, ?_, h1, h2, h3⟩
  unfold Outlook_run
  simp only [zlt_e, zlit, e, obs]
theorem M_goesAhead_e {μ : Sg} {n : Nat} (hQ : InvQ μ) (hn : n ≤ 200) (hs : stp μ + 200 ≤ 20000) : M_goesAhead μ (nI n) = some (qrun μ n) := by
  have hl := zit_cnt (b := fun (s : (Sg × Int32)) => M_goesAhead_l2 s.1 (nI n) s.2) (fun j τ => τ = qrun μ j) nI n (σ := μ) (by omega) rfl (by
    rintro j τ hj rfl
    have q1 := (qrun_inv hQ j (by omega)).1
    unfold M_goesAhead_l2
    simp (disch := omega) only [zgt_e, zpt_e, zlt_e, zrd_e, zwr_e, zelr_e, znz_e, zcp_e, zlit, nI_add, nI_mul, nI_sub, nI_div, ↓irem_f, irem_e, Nat.zero_add, Nat.add_zero, obs, zb_t, zb_f, nI_eqt, nI_eqf, nI_let, nI_lef, nI_ltt, nI_ltf, nI_m1, nI_n1, ↓reduceIte, zup_ne, zup_miss, zup_hit, zbo_1, zbo_0, reduceCtorEq, sel_l, sel_r, Nat.reduceAdd, Nat.reduceSub, Nat.reduceMul, M_stepsOn_e q1.1]
    exact ⟨_, rfl, rfl⟩) (by
    rintro τ _
    unfold M_goesAhead_l2
    simp (disch := omega) only [zgt_e, zpt_e, zlt_e, zrd_e, zwr_e, zelr_e, znz_e, zcp_e, zlit, nI_add, nI_mul, nI_sub, nI_div, ↓irem_f, irem_e, Nat.zero_add, Nat.add_zero, obs, zb_t, zb_f, nI_eqt, nI_eqf, nI_let, nI_lef, nI_ltt, nI_ltf, nI_m1, nI_n1, ↓reduceIte, zup_ne, zup_miss, zup_hit, zbo_1, zbo_0, reduceCtorEq, sel_l, sel_r, Nat.reduceAdd, Nat.reduceSub, Nat.reduceMul])
  obtain ⟨τ, e, h1⟩ := hl
  subst h1
  unfold M_goesAhead
  simp only [zlt_e, zlit, e, obs]
/-- the laying aside and the laying back -/
theorem M_beginsAhead_ok (σ : Sg) : ∃ μ, M_beginsAhead σ = some μ ∧ μ 171 26 = nI 1 ∧ (∀ k, k ≠ 26 → μ 171 k = σ 171 k) ∧ (∀ a, a ≠ 171 → a ≠ 184 → μ a = σ a) ∧ ∀ k, k < 205 → μ 184 k = σ 183 k := by
  have hl := zit_cnt (b := fun (s : (Sg × Int32)) => M_beginsAhead_l2 s.1 s.2) (fun j τ => (∀ a, a ≠ 184 → τ a = σ a) ∧ ∀ k, k < j → τ 184 k = σ 183 k) nI 205 (σ := σ) (by omega) ⟨fun _ _ => rfl, fun k hk => absurd hk (by omega)⟩ (by
    rintro j τ hj ⟨h1, h2⟩
    unfold M_beginsAhead_l2
    simp (disch := omega) only [zgt_e, zpt_e, zlt_e, zrd_e, zwr_e, zelr_e, znz_e, zcp_e, zlit, nI_add, nI_mul, nI_sub, nI_div, ↓irem_f, irem_e, Nat.zero_add, Nat.add_zero, obs, zb_t, zb_f, nI_eqt, nI_eqf, nI_let, nI_lef, nI_ltt, nI_ltf, nI_m1, nI_n1, ↓reduceIte, zup_ne, zup_miss, zup_hit, zbo_1, zbo_0, reduceCtorEq, sel_l, sel_r, Nat.reduceAdd, Nat.reduceSub, Nat.reduceMul, h1 183 (by omega)]
    refine ⟨_, rfl, fun a ha => by rw [zup_ne ha, h1 a ha], fun k hk => ?_⟩
    by_cases e : k = j
    · subst e; rw [zup_hit]
    · rw [zup_miss e]; exact h2 k (by omega)) (by
    rintro τ _
    unfold M_beginsAhead_l2
    simp (disch := omega) only [zgt_e, zpt_e, zlt_e, zrd_e, zwr_e, zelr_e, znz_e, zcp_e, zlit, nI_add, nI_mul, nI_sub, nI_div, ↓irem_f, irem_e, Nat.zero_add, Nat.add_zero, obs, zb_t, zb_f, nI_eqt, nI_eqf, nI_let, nI_lef, nI_ltt, nI_ltf, nI_m1, nI_n1, ↓reduceIte, zup_ne, zup_miss, zup_hit, zbo_1, zbo_0, reduceCtorEq, sel_l, sel_r, Nat.reduceAdd, Nat.reduceSub, Nat.reduceMul])
  obtain ⟨τ, e, h1, h2⟩ := hl
  refine ⟨zup τ 171 26 (nI 1), ?_, zup_hit, fun k hk => by rw [zup_miss hk, h1 171 (by omega)], fun a h3 h4 => by rw [zup_ne h3, h1 a h4], fun k hk => by rw [zup_ne (by omega)]; exact h2 k hk⟩
  unfold M_beginsAhead
  simp only [zlt_e, zpt_e, zlit, e, obs, zbo_1]
theorem M_endsAhead_ok (σ : Sg) : ∃ μ, M_endsAhead σ = some μ ∧ μ 171 26 = nI 0 ∧ (∀ k, k ≠ 26 → μ 171 k = σ 171 k) ∧ (∀ a, a ≠ 171 → a ≠ 183 → μ a = σ a) ∧ ∀ k, μ 183 k = if k < 205 then σ 184 k else σ 183 k := by
  have hl := zit_cnt (b := fun (s : (Sg × Int32)) => M_endsAhead_l2 s.1 s.2) (fun j τ => (∀ a, a ≠ 183 → τ a = σ a) ∧ ∀ k, τ 183 k = if k < j then σ 184 k else σ 183 k) nI 205 (σ := σ) (by omega) ⟨fun _ _ => rfl, fun k => by rw [if_neg (by omega)]⟩ (by
    rintro j τ hj ⟨h1, h2⟩
    unfold M_endsAhead_l2
    simp (disch := omega) only [zgt_e, zpt_e, zlt_e, zrd_e, zwr_e, zelr_e, znz_e, zcp_e, zlit, nI_add, nI_mul, nI_sub, nI_div, ↓irem_f, irem_e, Nat.zero_add, Nat.add_zero, obs, zb_t, zb_f, nI_eqt, nI_eqf, nI_let, nI_lef, nI_ltt, nI_ltf, nI_m1, nI_n1, ↓reduceIte, zup_ne, zup_miss, zup_hit, zbo_1, zbo_0, reduceCtorEq, sel_l, sel_r, Nat.reduceAdd, Nat.reduceSub, Nat.reduceMul, h1 184 (by omega)]
    refine ⟨_, rfl, fun a ha => by rw [zup_ne ha, h1 a ha], fun k => ?_⟩
    by_cases e : k = j
    · subst e; rw [zup_hit, if_pos (by omega)]
    · rw [zup_miss e, h2]
      by_cases c : k < j
      · rw [if_pos c, if_pos (by omega)]
      · rw [if_neg c, if_neg (by omega)]) (by
    rintro τ _
    unfold M_endsAhead_l2
    simp (disch := omega) only [zgt_e, zpt_e, zlt_e, zrd_e, zwr_e, zelr_e, znz_e, zcp_e, zlit, nI_add, nI_mul, nI_sub, nI_div, ↓irem_f, irem_e, Nat.zero_add, Nat.add_zero, obs, zb_t, zb_f, nI_eqt, nI_eqf, nI_let, nI_lef, nI_ltt, nI_ltf, nI_m1, nI_n1, ↓reduceIte, zup_ne, zup_miss, zup_hit, zbo_1, zbo_0, reduceCtorEq, sel_l, sel_r, Nat.reduceAdd, Nat.reduceSub, Nat.reduceMul])
  obtain ⟨τ, e, h1, h2⟩ := hl
  refine ⟨zup τ 171 26 (nI 0), ?_, zup_hit, fun k hk => by rw [zup_miss hk, h1 171 (by omega)], fun a h3 h4 => by rw [zup_ne h3, h1 a h4], fun k => by rw [zup_ne (by omega)]; exact h2 k⟩
  unfold M_endsAhead
  simp only [zlt_e, zpt_e, zlit, e, obs, zbo_0]
