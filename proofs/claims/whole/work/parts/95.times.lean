/-! how many times pools are out of their bands -/
def outB (κ : Sg) (p : Nat) : Bool := decide (¬ stnd κ p = nI 0)
def o1 (κ : Sg) (a b : Nat) : Nat := nct (fun i => outB κ (a + i)) (b - a)
def tO (κ : Sg) (a b : Nat) : Nat → Nat
  | 0 => 0
  | n + 1 => tO κ a b n + o1 (qrun κ (n + 1)) a b
theorem tO_succ (κ : Sg) (a b n : Nat) : tO κ a b (n + 1) = tO κ a b n + o1 (qrun κ (n + 1)) a b := rfl
theorem o1_le (κ : Sg) (a b : Nat) : o1 κ a b ≤ b - a := nct_le _ _
theorem tO_le (κ : Sg) (a b : Nat) : ∀ n, tO κ a b n ≤ n * (b - a)
  | 0 => Nat.zero_le _
  | n + 1 => by
    have h1 := tO_le κ a b n
    have h2 := o1_le (qrun κ (n + 1)) a b
    rw [tO_succ, Nat.succ_mul]
    omega
theorem stnd_3 (κ : Sg) (p : Nat) : stnd κ p = nI 0 ∨ stnd κ p = nI 1 ∨ stnd κ p = nI 2 := by
  unfold stnd
  split
  · exact Or.inr (Or.inl rfl)
  · split
    · exact Or.inr (Or.inr rfl)
    · exact Or.inl rfl
theorem EqM.e_o1 {e : Nat} {μ μ' : Sg} (h : EqM e μ μ') (he : okE e) {a b : Nat} (hb : b ≤ 8) : o1 μ' a b = o1 μ a b := by
  unfold o1
  refine nct_congr (fun i hi => ?_)
  unfold outB
  rw [h.e_stnd he (by omega)]
theorem c_count {τ κ : Sg} {p1 a b c bs l : Nat} (hL : LookR τ p1 κ bs l) (hK : InvK κ) (hW : RepW τ 82 κ) (hab : a ≤ b) (hb : b ≤ nP κ) (hc : c < 1000000) (x1 x3 x5 : Int32) : zit (fun (s : (Int32 × Int32)) => Outlook_timesOut_l19 τ x1 (nI b) x3 s.1 x5 s.2) zFU (nI c, nI a) = some (nI (c + o1 κ a b), nI b) := by
  have hP8 := hK.1.2
  have h : zit (fun (s : (Int32 × Int32)) => Outlook_timesOut_l19 τ x1 (nI b) x3 s.1 x5 s.2) zFU (nI c, nI a) = some (nI (c + nct (fun i => outB κ (a + i)) (b - a)), nI b) := by
    refine zit_eq (fun i => (nI (c + nct (fun i => outB κ (a + i)) i), nI (a + i))) _ (b - a) 0 (by omega) (fun i _ hi => ?_) ?_ zFU 0 (by rw [zFU_e]; omega) (by omega) (by omega)
    · have hv := (hW.1.1 (a + i) (by omega)).1
      have hbd := Works_bandOf_e hL.2.1 hK (p := a + i) (by omega) _ hv
      have hz : ∀ {α : Type} (k : Nat → Option α), zmr2 3 29 (τ 81 3) k = k p1 := fun k => by rw [hL.2.2.2.1]; exact zmr2_e rfl hL.1
      have hs := nct_succ (fun i => outB κ (a + i)) i
      have hle := nct_le (fun i => outB κ (a + i)) i
      simp only [Nat.reduceAdd] at hv hbd
      unfold Outlook_timesOut_l19
      by_cases q : stnd κ (a + i) = nI 0
      · have e : outB κ (a + i) = false := by unfold outB; simp [q]
        rw [e] at hs
        simp (disch := omega) only [zgt_e, zpt_e, zlt_e, zrd_e, zwr_e, zelr_e, znz_e, zcp_e, zlit, nI_add, nI_mul, nI_sub, nI_div, ↓irem_f, irem_e, Nat.zero_add, Nat.add_zero, obs, zb_t, zb_f, nI_eqt, nI_eqf, nI_let, nI_lef, nI_ltt, nI_ltf, nI_m1, nI_n1, ↓reduceIte, zup_ne, zup_miss, zup_hit, zbo_1, zbo_0, reduceCtorEq, sel_l, sel_r, Nat.reduceAdd, Nat.reduceSub, Nat.reduceMul, hz, hbd, q, hs, Bool.false_eq_true]
        rfl
      · have e : outB κ (a + i) = true := by unfold outB; simp [q]
        rw [e] at hs
        simp (disch := omega) only [zgt_e, zpt_e, zlt_e, zrd_e, zwr_e, zelr_e, znz_e, zcp_e, zlit, nI_add, nI_mul, nI_sub, nI_div, ↓irem_f, irem_e, Nat.zero_add, Nat.add_zero, obs, zb_t, zb_f, nI_eqt, nI_eqf, nI_let, nI_lef, nI_ltt, nI_ltf, nI_m1, nI_n1, ↓reduceIte, zup_ne, zup_miss, zup_hit, zbo_1, zbo_0, reduceCtorEq, sel_l, sel_r, Nat.reduceAdd, Nat.reduceSub, Nat.reduceMul, hz, hbd, q, hs]
        rfl
    · unfold Outlook_timesOut_l19
      simp (disch := omega) only [zgt_e, zpt_e, zlt_e, zrd_e, zwr_e, zelr_e, znz_e, zcp_e, zlit, nI_add, nI_mul, nI_sub, nI_div, ↓irem_f, irem_e, Nat.zero_add, Nat.add_zero, obs, zb_t, zb_f, nI_eqt, nI_eqf, nI_let, nI_lef, nI_ltt, nI_ltf, nI_m1, nI_n1, ↓reduceIte, zup_ne, zup_miss, zup_hit, zbo_1, zbo_0, reduceCtorEq, sel_l, sel_r, Nat.reduceAdd, Nat.reduceSub, Nat.reduceMul, show a + (b - a) = b from by omega]
  exact h
theorem c_timesOut {τ κ : Sg} {p1 a b bs l n : Nat} (hL : LookR τ p1 κ bs l) (hQ : InvQ κ) (hW : RepW τ 82 κ) (hbs : bs = stp κ) (hn : n ≤ l) (hs : stp κ ≤ 9999) (hab : a ≤ b) (hb : b ≤ nP κ) :
    ∃ τ', Outlook_timesOut τ (nI a) (nI b) (nI n) = some (nI (tO κ a b n), τ') ∧ Fr 82 98 τ τ' := by
  have hl2 := hL.2.2.1.1.2.2.1
  have hP8 := hQ.1.1.1.1.2
  have hl : Ok (zit (fun (s : (Sg × Int32 × Int32)) => Outlook_timesOut_l6 s.1 (nI a) (nI b) (nI n) s.2.1 s.2.2) zFU (τ, nI 0, nI 0)) (fun r => r.2.1 = nI (tO κ a b n) ∧ Fr 82 98 τ r.1) := by
    refine zit_ok (fun j s => s.2.2 = nI j ∧ s.2.1 = nI (tO κ a b j) ∧ Fr 82 98 τ s.1 ∧ LookR s.1 p1 (qrun κ j) bs l ∧ RepW s.1 82 (qrun κ j)) n ?_ ?_ zFU 0 _ (by rw [zFU_e]; omega) (by omega) ⟨rfl, rfl, Fr.refl τ, hL, hW⟩
    · rintro j ⟨υ, x4, x5⟩ hj ⟨hx5, hx4, f, lk, rw'⟩
      obtain rfl : x5 = _ := hx5
      obtain rfl : x4 = _ := hx4
      have lk' : LookR υ p1 (qrun κ j) bs l := lk
      have rw'' : RepW υ 82 (qrun κ j) := rw'
      obtain ⟨q1, q2, _, _⟩ := qrun_inv hQ j (by omega)
      obtain ⟨υ', b1, b2, b3, b4, _⟩ := runOne_ok lk' q1 rw'' (by omega) (by omega)
      obtain ⟨q1', _, sb, _⟩ := qrun_inv hQ (j + 1) (by omega)
      have hle := tO_le κ a b j
      have hle2 : j * (b - a) ≤ 200 * 8 := Nat.mul_le_mul (by omega) (by omega)
      have hcnt := c_count (κ := qrun κ (j + 1)) (c := tO κ a b j) b3 q1'.1.1.1 b4 hab (by rw [sb.e_nP]; exact hb) (by omega) (nI a) (nI n) (nI j)
      unfold Outlook_timesOut_l6
      simp (disch := omega) only [zgt_e, zpt_e, zlt_e, zrd_e, zwr_e, zelr_e, znz_e, zcp_e, zlit, nI_add, nI_mul, nI_sub, nI_div, ↓irem_f, irem_e, Nat.zero_add, Nat.add_zero, obs, zb_t, zb_f, nI_eqt, nI_eqf, nI_let, nI_lef, nI_ltt, nI_ltf, nI_m1, nI_n1, ↓reduceIte, zup_ne, zup_miss, zup_hit, zbo_1, zbo_0, reduceCtorEq, sel_l, sel_r, Nat.reduceAdd, Nat.reduceSub, Nat.reduceMul, b1, hcnt]
      exact ⟨_, rfl, rfl, rfl, f.trans b2, b3, b4⟩
    · rintro ⟨υ, x4, x5⟩ ⟨hx5, hx4, f, _⟩
      obtain rfl : x5 = _ := hx5
      unfold Outlook_timesOut_l6
      simp (disch := omega) only [zgt_e, zpt_e, zlt_e, zrd_e, zwr_e, zelr_e, znz_e, zcp_e, zlit, nI_add, nI_mul, nI_sub, nI_div, ↓irem_f, irem_e, Nat.zero_add, Nat.add_zero, obs, zb_t, zb_f, nI_eqt, nI_eqf, nI_let, nI_lef, nI_ltt, nI_ltf, nI_m1, nI_n1, ↓reduceIte, zup_ne, zup_miss, zup_hit, zbo_1, zbo_0, reduceCtorEq, sel_l, sel_r, Nat.reduceAdd, Nat.reduceSub, Nat.reduceMul]
      exact ⟨_, rfl, hx4, f⟩
  obtain ⟨⟨τ', x4, x5⟩, e, e1, f⟩ := hl
  refine ⟨τ', ?_, f⟩
  have e1' : x4 = nI (tO κ a b n) := e1
  subst e1'
  unfold Outlook_timesOut
  simp only [zlt_e, zlit, e, obs]
theorem m_count {μ : Sg} {c : Nat} (hK : InvK μ) (hc : c < 1000000) (x2 x4 : Int32) : zit (fun (s : (Int32 × Int32)) => M_timesOut_l22 μ (-nI 1) x2 s.1 x4 s.2) zFU (nI c, nI 0) = some (nI (c + o1 μ 0 (nP μ)), nI (nP μ)) := by
  obtain ⟨hP, hP8⟩ := hK.1
  have em : (-1 : Int32) = -nI 1 := rfl
  have h : zit (fun (s : (Int32 × Int32)) => M_timesOut_l22 μ (-nI 1) x2 s.1 x4 s.2) zFU (nI c, nI 0) = some (nI (c + nct (fun i => outB μ (0 + i)) (nP μ)), nI (nP μ)) := by
    refine zit_eq (fun i => (nI (c + nct (fun i => outB μ (0 + i)) i), nI i)) _ (nP μ) 0 (by omega) (fun i _ hi => ?_) ?_ zFU 0 (by rw [zFU_e]; omega) (by omega) (by omega)
    · have hs := nct_succ (fun i => outB μ (0 + i)) i
      have hle := nct_le (fun i => outB μ (0 + i)) i
      simp only [Nat.zero_add] at hs hle
      unfold M_timesOut_l22 M_timesOut_j22_43
      rw [em]
      rcases stnd_3 μ i with q | q | q
      · have e : outB μ i = false := by unfold outB; simp [q]
        rw [e] at hs
        simp (disch := omega) only [zgt_e, zpt_e, zlt_e, zrd_e, zwr_e, zelr_e, znz_e, zcp_e, zlit, nI_add, nI_mul, nI_sub, nI_div, ↓irem_f, irem_e, Nat.zero_add, Nat.add_zero, obs, zb_t, zb_f, nI_eqt, nI_eqf, nI_let, nI_lef, nI_ltt, nI_ltf, nI_m1, nI_n1, ↓reduceIte, zup_ne, zup_miss, zup_hit, zbo_1, zbo_0, reduceCtorEq, sel_l, sel_r, Nat.reduceAdd, Nat.reduceSub, Nat.reduceMul, hP, M_standOf_e, q, hs, Bool.false_eq_true]
      · have e : outB μ i = true := by unfold outB; rw [q]; decide
        rw [e] at hs
        simp (disch := omega) only [zgt_e, zpt_e, zlt_e, zrd_e, zwr_e, zelr_e, znz_e, zcp_e, zlit, nI_add, nI_mul, nI_sub, nI_div, ↓irem_f, irem_e, Nat.zero_add, Nat.add_zero, obs, zb_t, zb_f, nI_eqt, nI_eqf, nI_let, nI_lef, nI_ltt, nI_ltf, nI_m1, nI_n1, ↓reduceIte, zup_ne, zup_miss, zup_hit, zbo_1, zbo_0, reduceCtorEq, sel_l, sel_r, Nat.reduceAdd, Nat.reduceSub, Nat.reduceMul, hP, M_standOf_e, q, hs]
        rfl
      · have e : outB μ i = true := by unfold outB; rw [q]; decide
        rw [e] at hs
        simp (disch := omega) only [zgt_e, zpt_e, zlt_e, zrd_e, zwr_e, zelr_e, znz_e, zcp_e, zlit, nI_add, nI_mul, nI_sub, nI_div, ↓irem_f, irem_e, Nat.zero_add, Nat.add_zero, obs, zb_t, zb_f, nI_eqt, nI_eqf, nI_let, nI_lef, nI_ltt, nI_ltf, nI_m1, nI_n1, ↓reduceIte, zup_ne, zup_miss, zup_hit, zbo_1, zbo_0, reduceCtorEq, sel_l, sel_r, Nat.reduceAdd, Nat.reduceSub, Nat.reduceMul, hP, M_standOf_e, q, hs]
        rfl
    · unfold M_timesOut_l22
      simp (disch := omega) only [zgt_e, zpt_e, zlt_e, zrd_e, zwr_e, zelr_e, znz_e, zcp_e, zlit, nI_add, nI_mul, nI_sub, nI_div, ↓irem_f, irem_e, Nat.zero_add, Nat.add_zero, obs, zb_t, zb_f, nI_eqt, nI_eqf, nI_let, nI_lef, nI_ltt, nI_ltf, nI_m1, nI_n1, ↓reduceIte, zup_ne, zup_miss, zup_hit, zbo_1, zbo_0, reduceCtorEq, sel_l, sel_r, Nat.reduceAdd, Nat.reduceSub, Nat.reduceMul, hP]
  exact h
theorem m_count1 {μ : Sg} {c g : Nat} (hK : InvK μ) (hc : c < 1000000) (hg : g < nP μ) (x2 x4 : Int32) : zit (fun (s : (Int32 × Int32)) => M_timesOut_l22 μ (nI g) x2 s.1 x4 s.2) zFU (nI c, nI 0) = some (nI (c + o1 μ g (g + 1)), nI (nP μ)) := by
  obtain ⟨hP, hP8⟩ := hK.1
  have em : (-1 : Int32) = -nI 1 := rfl
  have eo : o1 μ g (g + 1) = if outB μ g = true then 1 else 0 := by
    unfold o1
    rw [show g + 1 - g = 1 from by omega]
    show 0 + (if outB μ (g + 0) = true then 1 else 0) = _
    rw [Nat.zero_add, Nat.add_zero]
  have hne : ¬ nI g = -nI 1 := fun q => (nI_n1 (a := g) (by omega) ▸ q : False)
  have h : zit (fun (s : (Int32 × Int32)) => M_timesOut_l22 μ (nI g) x2 s.1 x4 s.2) zFU (nI c, nI 0) = some (nI (c + if g < nP μ then (if outB μ g = true then 1 else 0) else 0), nI (nP μ)) := by
    refine zit_eq (fun i => (nI (c + if g < i then (if outB μ g = true then 1 else 0) else 0), nI i)) _ (nP μ) 0 (by omega) (fun i _ hi => ?_) ?_ zFU 0 (by rw [zFU_e]; omega) (by omega) (by omega)
    · unfold M_timesOut_l22 M_timesOut_j22_43
      rw [em]
      by_cases ci : i = g
      · subst ci
        rw [if_neg (show ¬ i < i by omega), if_pos (show i < i + 1 by omega)]
        rcases stnd_3 μ i with q | q | q
        · have e : outB μ i = false := by unfold outB; simp [q]
          simp (disch := omega) only [zgt_e, zpt_e, zlt_e, zrd_e, zwr_e, zelr_e, znz_e, zcp_e, zlit, nI_add, nI_mul, nI_sub, nI_div, ↓irem_f, irem_e, Nat.zero_add, Nat.add_zero, obs, zb_t, zb_f, nI_eqt, nI_eqf, nI_let, nI_lef, nI_ltt, nI_ltf, nI_m1, nI_n1, ↓reduceIte, zup_ne, zup_miss, zup_hit, zbo_1, zbo_0, reduceCtorEq, sel_l, sel_r, Nat.reduceAdd, Nat.reduceSub, Nat.reduceMul, hP, hne, M_standOf_e, q, e, Bool.false_eq_true]
        · have e : outB μ i = true := by unfold outB; rw [q]; decide
          simp (disch := omega) only [zgt_e, zpt_e, zlt_e, zrd_e, zwr_e, zelr_e, znz_e, zcp_e, zlit, nI_add, nI_mul, nI_sub, nI_div, ↓irem_f, irem_e, Nat.zero_add, Nat.add_zero, obs, zb_t, zb_f, nI_eqt, nI_eqf, nI_let, nI_lef, nI_ltt, nI_ltf, nI_m1, nI_n1, ↓reduceIte, zup_ne, zup_miss, zup_hit, zbo_1, zbo_0, reduceCtorEq, sel_l, sel_r, Nat.reduceAdd, Nat.reduceSub, Nat.reduceMul, hP, hne, M_standOf_e, q, e]
        · have e : outB μ i = true := by unfold outB; rw [q]; decide
          simp (disch := omega) only [zgt_e, zpt_e, zlt_e, zrd_e, zwr_e, zelr_e, znz_e, zcp_e, zlit, nI_add, nI_mul, nI_sub, nI_div, ↓irem_f, irem_e, Nat.zero_add, Nat.add_zero, obs, zb_t, zb_f, nI_eqt, nI_eqf, nI_let, nI_lef, nI_ltt, nI_ltf, nI_m1, nI_n1, ↓reduceIte, zup_ne, zup_miss, zup_hit, zbo_1, zbo_0, reduceCtorEq, sel_l, sel_r, Nat.reduceAdd, Nat.reduceSub, Nat.reduceMul, hP, hne, M_standOf_e, q, e]
      · have e2 : (g < i + 1) = (g < i) := by
          apply propext
          omega
        simp (disch := omega) only [zgt_e, zpt_e, zlt_e, zrd_e, zwr_e, zelr_e, znz_e, zcp_e, zlit, nI_add, nI_mul, nI_sub, nI_div, ↓irem_f, irem_e, Nat.zero_add, Nat.add_zero, obs, zb_t, zb_f, nI_eqt, nI_eqf, nI_let, nI_lef, nI_ltt, nI_ltf, nI_m1, nI_n1, ↓reduceIte, zup_ne, zup_miss, zup_hit, zbo_1, zbo_0, reduceCtorEq, sel_l, sel_r, Nat.reduceAdd, Nat.reduceSub, Nat.reduceMul, hP, hne, e2]
    · unfold M_timesOut_l22
      simp (disch := omega) only [zgt_e, zpt_e, zlt_e, zrd_e, zwr_e, zelr_e, znz_e, zcp_e, zlit, nI_add, nI_mul, nI_sub, nI_div, ↓irem_f, irem_e, Nat.zero_add, Nat.add_zero, obs, zb_t, zb_f, nI_eqt, nI_eqf, nI_let, nI_lef, nI_ltt, nI_ltf, nI_m1, nI_n1, ↓reduceIte, zup_ne, zup_miss, zup_hit, zbo_1, zbo_0, reduceCtorEq, sel_l, sel_r, Nat.reduceAdd, Nat.reduceSub, Nat.reduceMul, hP]
  rw [if_pos hg] at h
  rw [eo]
  exact h
theorem m_timesOut {ν κ : Sg} {n : Nat} (hκ : InvQ κ) (hE : EqM 5000 κ (quiet ν)) (hq : ν 171 26 = nI 0) (hs : stp κ ≤ 9999) (hn : n ≤ 200) :
    (∃ ν', M_timesOut ν (-nI 1) (nI n) = some (nI (tO κ 0 (nP κ) n), ν') ∧ FrM ν ν') ∧ ∀ g, g < nP κ → ∃ ν', M_timesOut ν (nI g) (nI n) = some (nI (tO κ g (g + 1) n), ν') ∧ FrM ν ν' := by
  obtain ⟨μ, a1, a2, a3, a4, a5, a6, a7⟩ := m_ahead2 hκ hE hq hs
  have hP8 := hκ.1.1.1.1.2
  obtain ⟨_, _, ν', b1, b2⟩ := a7 n hn
  have he : okE 5000 := by unfold okE; omega
  have main : ∀ (x1 : Int32) (a b : Nat), a ≤ b → b ≤ 8 → (∀ (j c : Nat) (x2 x4 : Int32), j ≤ 200 → c < 1000000 → ∃ x, zit (fun (s : (Int32 × Int32)) => M_timesOut_l22 (qrun μ j) x1 x2 s.1 x4 s.2) zFU (nI c, nI 0) = some (nI (c + o1 (qrun κ j) a b), x)) → M_timesOut ν x1 (nI n) = some (nI (tO κ a b n), ν') := by
    intro x1 a b hab hb hcnt
    have hl : Ok (zit (fun (s : (Sg × Int32 × Int32)) => M_timesOut_l9 s.1 x1 (nI n) s.2.1 s.2.2) zFU (μ, nI 0, nI 0)) (fun r => r.2.1 = nI (tO κ a b n) ∧ r.1 = qrun μ n) := by
      refine zit_ok (fun j s => s.2.2 = nI j ∧ s.2.1 = nI (tO κ a b j) ∧ s.1 = qrun μ j) n ?_ ?_ zFU 0 _ (by rw [zFU_e]; omega) (by omega) ⟨rfl, rfl, rfl⟩
      · rintro j ⟨υ, x4, x5⟩ hj ⟨hx5, hx4, hx3⟩
        obtain rfl : x5 = _ := hx5
        obtain rfl : x4 = _ := hx4
        obtain rfl : υ = _ := hx3
        have q1 := (qrun_inv a2 j (by omega)).1
        have hso := M_stepsOn_e q1.1
        have hle := tO_le κ a b j
        have hle2 : j * (b - a) ≤ 200 * 8 := Nat.mul_le_mul (by omega) (by omega)
        obtain ⟨x, hc⟩ := hcnt (j + 1) (tO κ a b j) (nI n) (nI j) (by omega) (by omega)
        have hc' : zit (fun (s : (Int32 × Int32)) => M_timesOut_l22 (goS (begS (qrun μ j))) x1 (nI n) s.1 (nI j) s.2) zFU (nI (tO κ a b j), nI 0) = some (nI (tO κ a b j + o1 (qrun κ (j + 1)) a b), x) := hc
        unfold M_timesOut_l9
        simp (disch := omega) only [zgt_e, zpt_e, zlt_e, zrd_e, zwr_e, zelr_e, znz_e, zcp_e, zlit, nI_add, nI_mul, nI_sub, nI_div, ↓irem_f, irem_e, Nat.zero_add, Nat.add_zero, obs, zb_t, zb_f, nI_eqt, nI_eqf, nI_let, nI_lef, nI_ltt, nI_ltf, nI_m1, nI_n1, ↓reduceIte, zup_ne, zup_miss, zup_hit, zbo_1, zbo_0, reduceCtorEq, sel_l, sel_r, Nat.reduceAdd, Nat.reduceSub, Nat.reduceMul, hso, hc']
        exact ⟨_, rfl, rfl, rfl, rfl⟩
      · rintro ⟨υ, x4, x5⟩ ⟨hx5, hx4, hx3⟩
        obtain rfl : x5 = _ := hx5
        unfold M_timesOut_l9
        simp (disch := omega) only [zgt_e, zpt_e, zlt_e, zrd_e, zwr_e, zelr_e, znz_e, zcp_e, zlit, nI_add, nI_mul, nI_sub, nI_div, ↓irem_f, irem_e, Nat.zero_add, Nat.add_zero, obs, zb_t, zb_f, nI_eqt, nI_eqf, nI_let, nI_lef, nI_ltt, nI_ltf, nI_m1, nI_n1, ↓reduceIte, zup_ne, zup_miss, zup_hit, zbo_1, zbo_0, reduceCtorEq, sel_l, sel_r, Nat.reduceAdd, Nat.reduceSub, Nat.reduceMul]
        exact ⟨_, rfl, hx4, hx3⟩
    obtain ⟨⟨υ, x4, x5⟩, e, e1, e2⟩ := hl
    have e1' : x4 = nI (tO κ a b n) := e1
    have e2' : υ = qrun μ n := e2
    subst e1'
    subst e2'
    unfold M_timesOut
    simp only [a1, obs, zlt_e, zlit, e, b1]
  refine ⟨⟨ν', ?_, b2⟩, fun g hg => ⟨ν', ?_, b2⟩⟩
  · refine main (-nI 1) 0 (nP κ) (by omega) hP8 (fun j c x2 x4 hj hc => ?_)
    obtain ⟨q1, _, sb, _⟩ := qrun_inv a2 j (by omega)
    have hm := m_count (c := c) q1.1.1.1 hc x2 x4
    rw [((a7 j hj).2.1).e_nP, ((qrun_inv hκ j (by omega)).2.2.1).e_nP, ((a7 j hj).2.1).e_o1 he hP8] at hm
    exact ⟨_, hm⟩
  · refine main (nI g) g (g + 1) (by omega) (by omega) (fun j c x2 x4 hj hc => ?_)
    obtain ⟨q1, _, sb, _⟩ := qrun_inv a2 j (by omega)
    have hm := m_count1 (c := c) (g := g) q1.1.1.1 hc (by rw [sb.e_nP, a4]; exact hg) x2 x4
    rw [((a7 j hj).2.1).e_o1 he (by omega)] at hm
    exact ⟨_, hm⟩
