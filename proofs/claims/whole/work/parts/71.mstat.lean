/-! the canal's numbers as the reference holds them, and what it works out of them -/
def nP (σ : Sg) : Nat := (σ 171 0).toNatClampNeg
def nO (σ : Sg) : Nat := (σ 171 1).toNatClampNeg
def nT (σ : Sg) : Nat := (σ 171 2).toNatClampNeg
def nC (σ : Sg) : Nat := (σ 183 199).toNatClampNeg
def tl (σ : Sg) (p j : Nat) : Nat := (σ 172 (9 * p + j)).toNatClampNeg
def opl (σ : Sg) (o : Nat) : Nat := (σ 173 (2 * o)).toNatClampNeg
def tk (σ : Sg) (o : Nat) : Nat := (σ 173 (2 * o + 1)).toNatClampNeg
def ev (σ : Sg) (t : Nat) : Nat := (σ 174 (8 * t)).toNatClampNeg
def sz (σ : Sg) (t : Nat) : Nat := (σ 174 (8 * t + 1)).toNatClampNeg
def oo (σ : Sg) (k : Nat) : Nat := (σ 183 (148 + 3 * k)).toNatClampNeg
def ofr (σ : Sg) (k : Nat) : Nat := (σ 183 (149 + 3 * k)).toNatClampNeg
def oma (σ : Sg) (k : Nat) : Nat := (σ 183 (150 + 3 * k)).toNatClampNeg
def stp (σ : Sg) : Nat := (σ 183 196).toNatClampNeg
def InvK (σ : Sg) : Prop :=
  (σ 171 0 = nI (nP σ) ∧ nP σ ≤ 8) ∧ (σ 171 1 = nI (nO σ) ∧ nO σ ≤ 10) ∧ (σ 171 2 = nI (nT σ) ∧ nT σ ≤ 2) ∧
  (∀ p, p < nP σ → ∀ j, j < 9 → σ 172 (9 * p + j) = nI (tl σ p j) ∧ tl σ p j ≤ 9999) ∧
  (∀ p, p < nP σ → tl σ p 3 ≤ 9 ∧ 1 ≤ tl σ p 5 ∧ tl σ p 0 ≤ tl σ p 1 ∧ tl σ p 1 ≤ tl σ p 2 ∧ tl σ p 4 ≤ 999 ∧ tl σ p 5 ≤ 999 ∧ tl σ p 7 ≤ 99 ∧ tl σ p 8 ≤ tl σ p 4) ∧
  (∀ o, o < nO σ → σ 173 (2 * o) = nI (opl σ o) ∧ opl σ o < nP σ ∧ σ 173 (2 * o + 1) = nI (tk σ o) ∧ 1 ≤ tk σ o ∧ tk σ o ≤ 99) ∧
  (∀ t, t < nT σ → σ 174 (8 * t) = nI (ev σ t) ∧ 1 ≤ ev σ t ∧ ev σ t ≤ 30 ∧ σ 174 (8 * t + 1) = nI (sz σ t) ∧ 1 ≤ sz σ t ∧ sz σ t ≤ 6)
def InvO (σ : Sg) : Prop :=
  σ 183 199 = nI (nC σ) ∧ nC σ ≤ 16 ∧ ∀ k, k < nC σ → σ 183 (148 + 3 * k) = nI (oo σ k) ∧ oo σ k < nO σ ∧ σ 183 (149 + 3 * k) = nI (ofr σ k) ∧ ofr σ k ≤ 20000 ∧ σ 183 (150 + 3 * k) = nI (oma σ k) ∧ 1 ≤ oma σ k ∧ oma σ k ≤ 99
/-- an order's, a turn's word on an outlet at a step -/
def opO (σ : Sg) (o t k : Nat) : Bool := decide (oo σ k = o ∧ ofr σ k ≤ t ∧ t < ofr σ k + oma σ k)
def opT (σ : Sg) (o t k : Nat) : Bool := decide (σ 174 (8 * k + 2 + t / ev σ k % sz σ k) = nI o)
def opn (σ : Sg) (o t : Nat) : Bool := anyB (opO σ o t) (nC σ) || anyB (opT σ o t) (nT σ)
theorem M_isIn_e {a b c : Nat} (ha : a < 2147483648) (hb : b < 2147483648) (hc : c < 2147483648) : M_isIn (nI a) (nI b) (nI c) = some (decide (b ≤ a ∧ a ≤ c)) := by
  unfold M_isIn
  by_cases h1 : b ≤ a
  · by_cases h2 : a ≤ c
    · simp (disch := omega) only [zgt_e, zpt_e, zlt_e, zrd_e, zwr_e, zelr_e, znz_e, zcp_e, zlit, nI_add, nI_mul, nI_sub, nI_div, ↓irem_f, irem_e, Nat.zero_add, Nat.add_zero, obs, zb_t, zb_f, nI_eqt, nI_eqf, nI_let, nI_lef, nI_ltt, nI_ltf, nI_m1, nI_n1, ↓reduceIte, zup_ne, zup_miss, zup_hit, zbo_1, zbo_0, reduceCtorEq, sel_l, sel_r, Nat.reduceAdd, Nat.reduceSub, Nat.reduceMul, decide_true, h1, h2, and_self]
    · simp (disch := omega) only [zgt_e, zpt_e, zlt_e, zrd_e, zwr_e, zelr_e, znz_e, zcp_e, zlit, nI_add, nI_mul, nI_sub, nI_div, ↓irem_f, irem_e, Nat.zero_add, Nat.add_zero, obs, zb_t, zb_f, nI_eqt, nI_eqf, nI_let, nI_lef, nI_ltt, nI_ltf, nI_m1, nI_n1, ↓reduceIte, zup_ne, zup_miss, zup_hit, zbo_1, zbo_0, reduceCtorEq, sel_l, sel_r, Nat.reduceAdd, Nat.reduceSub, Nat.reduceMul, decide_false, h1, h2, and_false]
  · simp (disch := omega) only [zgt_e, zpt_e, zlt_e, zrd_e, zwr_e, zelr_e, znz_e, zcp_e, zlit, nI_add, nI_mul, nI_sub, nI_div, ↓irem_f, irem_e, Nat.zero_add, Nat.add_zero, obs, zb_t, zb_f, nI_eqt, nI_eqf, nI_let, nI_lef, nI_ltt, nI_ltf, nI_m1, nI_n1, ↓reduceIte, zup_ne, zup_miss, zup_hit, zbo_1, zbo_0, reduceCtorEq, sel_l, sel_r, Nat.reduceAdd, Nat.reduceSub, Nat.reduceMul, decide_false, h1, false_and]
theorem M_isOpen_e {σ : Sg} (hK : InvK σ) (hO : InvO σ) {o t : Nat} (ho : o < 2147483648) (ht : t < 1000000) : M_isOpen σ (nI o) (nI t) = some (opn σ o t) := by
  obtain ⟨hC, hC16, hR⟩ := hO
  obtain ⟨_, _, ⟨hT, hT2⟩, _, _, _, hTs⟩ := hK
  have h1 : zit (fun (s : Int32) => M_isOpen_l2 σ (nI o) (nI t) s) zFU (nI 0) = some (if anyB (opO σ o t) (nC σ) then .inl true else .inr (nI (nC σ))) := by
    refine zit_any (by omega) (fun j hj => ?_) ?_
    · obtain ⟨e1, e2, e3, e4, e5, e6, e7⟩ := hR j hj
      unfold M_isOpen_l2
      have x1 : 148 + 3 * j + 1 = 149 + 3 * j := by omega
      have x2 : 148 + 3 * j + 2 = 150 + 3 * j := by omega
      simp (disch := omega) only [zgt_e, zpt_e, zlt_e, zrd_e, zwr_e, zelr_e, znz_e, zcp_e, zlit, nI_add, nI_mul, nI_sub, nI_div, ↓irem_f, irem_e, Nat.zero_add, Nat.add_zero, obs, zb_t, zb_f, nI_eqt, nI_eqf, nI_let, nI_lef, nI_ltt, nI_ltf, nI_m1, nI_n1, ↓reduceIte, zup_ne, zup_miss, zup_hit, zbo_1, zbo_0, reduceCtorEq, sel_l, sel_r, Nat.reduceAdd, Nat.reduceSub, Nat.reduceMul, hC, e1, e3, e5, x1, x2, opO]
      by_cases c1 : oo σ j = o
      · simp (disch := omega) only [zgt_e, zpt_e, zlt_e, zrd_e, zwr_e, zelr_e, znz_e, zcp_e, zlit, nI_add, nI_mul, nI_sub, nI_div, ↓irem_f, irem_e, Nat.zero_add, Nat.add_zero, obs, zb_t, zb_f, nI_eqt, nI_eqf, nI_let, nI_lef, nI_ltt, nI_ltf, nI_m1, nI_n1, ↓reduceIte, zup_ne, zup_miss, zup_hit, zbo_1, zbo_0, reduceCtorEq, sel_l, sel_r, Nat.reduceAdd, Nat.reduceSub, Nat.reduceMul, c1, M_isIn_e]
        by_cases c2 : ofr σ j ≤ t ∧ t < ofr σ j + oma σ j
        · have c3 : ofr σ j ≤ t ∧ t ≤ ofr σ j + oma σ j - 1 := by omega
          simp (disch := omega) only [zgt_e, zpt_e, zlt_e, zrd_e, zwr_e, zelr_e, znz_e, zcp_e, zlit, nI_add, nI_mul, nI_sub, nI_div, ↓irem_f, irem_e, Nat.zero_add, Nat.add_zero, obs, zb_t, zb_f, nI_eqt, nI_eqf, nI_let, nI_lef, nI_ltt, nI_ltf, nI_m1, nI_n1, ↓reduceIte, zup_ne, zup_miss, zup_hit, zbo_1, zbo_0, reduceCtorEq, sel_l, sel_r, Nat.reduceAdd, Nat.reduceSub, Nat.reduceMul, c3, c2, decide_true, and_self]
        · have c3 : ¬ (ofr σ j ≤ t ∧ t ≤ ofr σ j + oma σ j - 1) := by omega
          simp (disch := omega) only [zgt_e, zpt_e, zlt_e, zrd_e, zwr_e, zelr_e, znz_e, zcp_e, zlit, nI_add, nI_mul, nI_sub, nI_div, ↓irem_f, irem_e, Nat.zero_add, Nat.add_zero, obs, zb_t, zb_f, nI_eqt, nI_eqf, nI_let, nI_lef, nI_ltt, nI_ltf, nI_m1, nI_n1, ↓reduceIte, zup_ne, zup_miss, zup_hit, zbo_1, zbo_0, reduceCtorEq, sel_l, sel_r, Nat.reduceAdd, Nat.reduceSub, Nat.reduceMul, c3, c2, decide_false, and_false, Bool.false_eq_true]
      · simp (disch := omega) only [zgt_e, zpt_e, zlt_e, zrd_e, zwr_e, zelr_e, znz_e, zcp_e, zlit, nI_add, nI_mul, nI_sub, nI_div, ↓irem_f, irem_e, Nat.zero_add, Nat.add_zero, obs, zb_t, zb_f, nI_eqt, nI_eqf, nI_let, nI_lef, nI_ltt, nI_ltf, nI_m1, nI_n1, ↓reduceIte, zup_ne, zup_miss, zup_hit, zbo_1, zbo_0, reduceCtorEq, sel_l, sel_r, Nat.reduceAdd, Nat.reduceSub, Nat.reduceMul, c1, false_and, decide_false, Bool.false_eq_true]
    · unfold M_isOpen_l2
      simp (disch := omega) only [zgt_e, zpt_e, zlt_e, zrd_e, zwr_e, zelr_e, znz_e, zcp_e, zlit, nI_add, nI_mul, nI_sub, nI_div, ↓irem_f, irem_e, Nat.zero_add, Nat.add_zero, obs, zb_t, zb_f, nI_eqt, nI_eqf, nI_let, nI_lef, nI_ltt, nI_ltf, nI_m1, nI_n1, ↓reduceIte, zup_ne, zup_miss, zup_hit, zbo_1, zbo_0, reduceCtorEq, sel_l, sel_r, Nat.reduceAdd, Nat.reduceSub, Nat.reduceMul, hC]
  have h2 : zit (fun (s : Int32) => M_isOpen_l84 σ (nI o) (nI t) s) zFU (nI 0) = some (if anyB (opT σ o t) (nT σ) then .inl true else .inr (nI (nT σ))) := by
    refine zit_any (by omega) (fun j hj => ?_) ?_
    · obtain ⟨e1, e2, e3, e4, e5, e6⟩ := hTs j hj
      unfold M_isOpen_l84
      have hm : t / ev σ j % sz σ j < sz σ j := Nat.mod_lt _ (by omega)
      have hd : t / ev σ j ≤ t := Nat.div_le_self _ _
      simp (disch := omega) only [zgt_e, zpt_e, zlt_e, zrd_e, zwr_e, zelr_e, znz_e, zcp_e, zlit, nI_add, nI_mul, nI_sub, nI_div, ↓irem_f, irem_e, Nat.zero_add, Nat.add_zero, obs, zb_t, zb_f, nI_eqt, nI_eqf, nI_let, nI_lef, nI_ltt, nI_ltf, nI_m1, nI_n1, ↓reduceIte, zup_ne, zup_miss, zup_hit, zbo_1, zbo_0, reduceCtorEq, sel_l, sel_r, Nat.reduceAdd, Nat.reduceSub, Nat.reduceMul, hT, e1, e4, opT]
      by_cases c1 : σ 174 (8 * j + 2 + t / ev σ j % sz σ j) = nI o
      · simp only [c1, ↓reduceIte, decide_true]
      · simp only [c1, ↓reduceIte, decide_false, Bool.false_eq_true]
    · unfold M_isOpen_l84
      simp (disch := omega) only [zgt_e, zpt_e, zlt_e, zrd_e, zwr_e, zelr_e, znz_e, zcp_e, zlit, nI_add, nI_mul, nI_sub, nI_div, ↓irem_f, irem_e, Nat.zero_add, Nat.add_zero, obs, zb_t, zb_f, nI_eqt, nI_eqf, nI_let, nI_lef, nI_ltt, nI_ltf, nI_m1, nI_n1, ↓reduceIte, zup_ne, zup_miss, zup_hit, zbo_1, zbo_0, reduceCtorEq, sel_l, sel_r, Nat.reduceAdd, Nat.reduceSub, Nat.reduceMul, hT]
  unfold M_isOpen M_isOpen_j82 opn
  simp only [zlt_e, zlit, h1, Option.bind_some]
  by_cases c1 : anyB (opO σ o t) (nC σ) = true
  · simp only [c1, ↓reduceIte, Sum.elim_inl, Bool.true_or]
  · simp only [c1, Bool.false_eq_true, ↓reduceIte, Sum.elim_inr, h2, Option.bind_some, Bool.false_or]
    by_cases c2 : anyB (opT σ o t) (nT σ) = true
    · simp only [c2, ↓reduceIte, Sum.elim_inl]
    · simp only [c2, Bool.false_eq_true, ↓reduceIte, Sum.elim_inr]
theorem M_toldOf_e {σ : Sg} {p j : Nat} (h : p < 8) (hj : j < 9) : M_toldOf σ (nI p) (nI j) = some (σ 172 (9 * p + j)) := by
  unfold M_toldOf
  simp (disch := omega) only [zgt_e, zpt_e, zlt_e, zrd_e, zwr_e, zelr_e, znz_e, zcp_e, zlit, nI_add, nI_mul, nI_sub, nI_div, ↓irem_f, irem_e, Nat.zero_add, Nat.add_zero, obs, zb_t, zb_f, nI_eqt, nI_eqf, nI_let, nI_lef, nI_ltt, nI_ltf, nI_m1, nI_n1, ↓reduceIte, zup_ne, zup_miss, zup_hit, zbo_1, zbo_0, reduceCtorEq, sel_l, sel_r, Nat.reduceAdd, Nat.reduceSub, Nat.reduceMul]
theorem M_poolOf_e {σ : Sg} {o : Nat} (h : o < 10) : M_poolOf σ (nI o) = some (σ 173 (2 * o)) := by
  unfold M_poolOf
  simp (disch := omega) only [zgt_e, zpt_e, zlt_e, zrd_e, zwr_e, zelr_e, znz_e, zcp_e, zlit, nI_add, nI_mul, nI_sub, nI_div, ↓irem_f, irem_e, Nat.zero_add, Nat.add_zero, obs, zb_t, zb_f, nI_eqt, nI_eqf, nI_let, nI_lef, nI_ltt, nI_ltf, nI_m1, nI_n1, ↓reduceIte, zup_ne, zup_miss, zup_hit, zbo_1, zbo_0, reduceCtorEq, sel_l, sel_r, Nat.reduceAdd, Nat.reduceSub, Nat.reduceMul]
theorem M_takesOf_e {σ : Sg} {o : Nat} (h : o < 10) : M_takesOf σ (nI o) = some (σ 173 (2 * o + 1)) := by
  unfold M_takesOf
  simp (disch := omega) only [zgt_e, zpt_e, zlt_e, zrd_e, zwr_e, zelr_e, znz_e, zcp_e, zlit, nI_add, nI_mul, nI_sub, nI_div, ↓irem_f, irem_e, Nat.zero_add, Nat.add_zero, obs, zb_t, zb_f, nI_eqt, nI_eqf, nI_let, nI_lef, nI_ltt, nI_ltf, nI_m1, nI_n1, ↓reduceIte, zup_ne, zup_miss, zup_hit, zbo_1, zbo_0, reduceCtorEq, sel_l, sel_r, Nat.reduceAdd, Nat.reduceSub, Nat.reduceMul]
/-- steps that water needs from a gate on over so many pools -/
def nd (σ : Sg) (g : Nat) : Nat → Nat
  | 0 => 0
  | j + 1 => nd σ g j + tl σ (g + j) 3
theorem nd_succ (σ : Sg) (g j : Nat) : nd σ g (j + 1) = nd σ g j + tl σ (g + j) 3 := rfl
theorem nd_le {σ : Sg} (hK : InvK σ) {g : Nat} : ∀ {j : Nat}, g + j ≤ nP σ → nd σ g j ≤ 9 * j
  | 0, _ => Nat.zero_le _
  | j + 1, h => by
    have h1 := nd_le hK (g := g) (j := j) (by omega)
    have h2 := (hK.2.2.2.2.1 (g + j) (by omega)).1
    rw [nd_succ]
    omega
def ldL (σ : Sg) (g : Nat) : Int32 := sm (fun i => σ 183 (24 + (g + i))) (nP σ - g)
def ldD (σ : Sg) (g t : Nat) : Int32 := sm (fun o => if g ≤ opl σ o ∧ opn σ o (t + nd σ g (opl σ o + 1 - g)) = true then σ 173 (2 * o + 1) else 0) (nO σ)
def ldS (σ : Sg) (g t : Nat) : Int32 := ldL σ g + ldD σ g t
theorem M_loadOf_e {σ : Sg} (hK : InvK σ) (hO : InvO σ) {g t : Nat} (hg : g ≤ nP σ) (ht : t < 900000) : M_loadOf σ (nI g) (nI t) = some (ldS σ g t) := by
  have hK0 := hK
  obtain ⟨⟨hP, hP8⟩, ⟨hOu, hO10⟩, _, hTl, hTr, hOs, _⟩ := hK
  let inn (i n : Nat) : Int32 := sm (fun o => if opl σ o = g + i ∧ opn σ o (t + nd σ g (i + 1)) = true then σ 173 (2 * o + 1) else 0) n
  let S (i : Nat) : Int32 := sm (fun i => σ 183 (24 + (g + i)) + inn i (nO σ)) i
  have h1 : zit (fun (s : (Int32 × Int32 × Int32)) => M_loadOf_l8 σ (nI t) s.1 s.2.1 s.2.2) zFU (nI 0, nI 0, nI g) = some (S (nP σ - g), nI (nd σ g (nP σ - g)), nI (nP σ)) := by
    refine zit_eq (fun i => (S i, nI (nd σ g i), nI (g + i))) _ (nP σ - g) 0 (by omega) (fun i _ hi => ?_) ?_ zFU 0 (by rw [zFU_e]; omega) (by omega) (by omega)
    · have hn := nd_le hK0 (g := g) (j := i) (by omega)
      have hn2 := nd_le hK0 (g := g) (j := i + 1) (by omega)
      have ht3 := hTl (g + i) (by omega) 3 (by omega)
      have h2 : zit (fun (s : (Int32 × Int32)) => M_loadOf_l45 σ (nI t) s.1 (nI (nd σ g (i + 1))) (nI (g + i)) s.2) zFU (S i + σ 183 (24 + (g + i)), nI 0) = some (S i + σ 183 (24 + (g + i)) + inn i (nO σ), nI (nO σ)) := by
        have e0 : (S i + σ 183 (24 + (g + i)), nI 0) = (fun n => (S i + σ 183 (24 + (g + i)) + inn i n, nI n)) 0 := by
          show _ = (S i + σ 183 (24 + (g + i)) + 0, nI 0)
          simp
        rw [e0]
        refine zit_eq (fun n => (S i + σ 183 (24 + (g + i)) + inn i n, nI n)) _ (nO σ) 0 (by omega) (fun n _ hn' => ?_) ?_ zFU 0 (by rw [zFU_e]; omega) (by omega) (by omega)
        · obtain ⟨o1, o2, o3, o4, o5⟩ := hOs n hn'
          have x : inn i (n + 1) = inn i n + (if opl σ n = g + i ∧ opn σ n (t + nd σ g (i + 1)) = true then σ 173 (2 * n + 1) else 0) := rfl
          simp only [x]
          unfold M_loadOf_l45
          simp (disch := omega) only [zgt_e, zpt_e, zlt_e, zrd_e, zwr_e, zelr_e, znz_e, zcp_e, zlit, nI_add, nI_mul, nI_sub, nI_div, ↓irem_f, irem_e, Nat.zero_add, Nat.add_zero, obs, zb_t, zb_f, nI_eqt, nI_eqf, nI_let, nI_lef, nI_ltt, nI_ltf, nI_m1, nI_n1, ↓reduceIte, zup_ne, zup_miss, zup_hit, zbo_1, zbo_0, reduceCtorEq, sel_l, sel_r, Nat.reduceAdd, Nat.reduceSub, Nat.reduceMul, hOu, M_poolOf_e, o1]
          by_cases c1 : opl σ n = g + i
          · simp (disch := omega) only [zgt_e, zpt_e, zlt_e, zrd_e, zwr_e, zelr_e, znz_e, zcp_e, zlit, nI_add, nI_mul, nI_sub, nI_div, ↓irem_f, irem_e, Nat.zero_add, Nat.add_zero, obs, zb_t, zb_f, nI_eqt, nI_eqf, nI_let, nI_lef, nI_ltt, nI_ltf, nI_m1, nI_n1, ↓reduceIte, zup_ne, zup_miss, zup_hit, zbo_1, zbo_0, reduceCtorEq, sel_l, sel_r, Nat.reduceAdd, Nat.reduceSub, Nat.reduceMul, c1, M_isOpen_e hK0 hO, true_and]
            by_cases c2 : opn σ n (t + nd σ g (i + 1)) = true
            · simp (disch := omega) only [zgt_e, zpt_e, zlt_e, zrd_e, zwr_e, zelr_e, znz_e, zcp_e, zlit, nI_add, nI_mul, nI_sub, nI_div, ↓irem_f, irem_e, Nat.zero_add, Nat.add_zero, obs, zb_t, zb_f, nI_eqt, nI_eqf, nI_let, nI_lef, nI_ltt, nI_ltf, nI_m1, nI_n1, ↓reduceIte, zup_ne, zup_miss, zup_hit, zbo_1, zbo_0, reduceCtorEq, sel_l, sel_r, Nat.reduceAdd, Nat.reduceSub, Nat.reduceMul, c2, M_takesOf_e]
              simp only [Int32.add_assoc]
            · have c2' : opn σ n (t + nd σ g (i + 1)) = false := by simpa using c2
              simp (disch := omega) only [zgt_e, zpt_e, zlt_e, zrd_e, zwr_e, zelr_e, znz_e, zcp_e, zlit, nI_add, nI_mul, nI_sub, nI_div, ↓irem_f, irem_e, Nat.zero_add, Nat.add_zero, obs, zb_t, zb_f, nI_eqt, nI_eqf, nI_let, nI_lef, nI_ltt, nI_ltf, nI_m1, nI_n1, ↓reduceIte, zup_ne, zup_miss, zup_hit, zbo_1, zbo_0, reduceCtorEq, sel_l, sel_r, Nat.reduceAdd, Nat.reduceSub, Nat.reduceMul, c2', Bool.false_eq_true]
              simp only [Int32.add_assoc, nI_0]
          · simp (disch := omega) only [zgt_e, zpt_e, zlt_e, zrd_e, zwr_e, zelr_e, znz_e, zcp_e, zlit, nI_add, nI_mul, nI_sub, nI_div, ↓irem_f, irem_e, Nat.zero_add, Nat.add_zero, obs, zb_t, zb_f, nI_eqt, nI_eqf, nI_let, nI_lef, nI_ltt, nI_ltf, nI_m1, nI_n1, ↓reduceIte, zup_ne, zup_miss, zup_hit, zbo_1, zbo_0, reduceCtorEq, sel_l, sel_r, Nat.reduceAdd, Nat.reduceSub, Nat.reduceMul, c1, false_and]
            simp only [Int32.add_assoc, nI_0]
        · unfold M_loadOf_l45
          simp (disch := omega) only [zgt_e, zpt_e, zlt_e, zrd_e, zwr_e, zelr_e, znz_e, zcp_e, zlit, nI_add, nI_mul, nI_sub, nI_div, ↓irem_f, irem_e, Nat.zero_add, Nat.add_zero, obs, zb_t, zb_f, nI_eqt, nI_eqf, nI_let, nI_lef, nI_ltt, nI_ltf, nI_m1, nI_n1, ↓reduceIte, zup_ne, zup_miss, zup_hit, zbo_1, zbo_0, reduceCtorEq, sel_l, sel_r, Nat.reduceAdd, Nat.reduceSub, Nat.reduceMul, hOu]
      have xS : S (i + 1) = S i + (σ 183 (24 + (g + i)) + inn i (nO σ)) := rfl
      simp only [xS]
      unfold M_loadOf_l8
      have e3 : tl σ (g + i) 3 = nd σ g (i + 1) - nd σ g i := by rw [nd_succ]; omega
      simp (disch := omega) only [zgt_e, zpt_e, zlt_e, zrd_e, zwr_e, zelr_e, znz_e, zcp_e, zlit, nI_add, nI_mul, nI_sub, nI_div, ↓irem_f, irem_e, Nat.zero_add, Nat.add_zero, obs, zb_t, zb_f, nI_eqt, nI_eqf, nI_let, nI_lef, nI_ltt, nI_ltf, nI_m1, nI_n1, ↓reduceIte, zup_ne, zup_miss, zup_hit, zbo_1, zbo_0, reduceCtorEq, sel_l, sel_r, Nat.reduceAdd, Nat.reduceSub, Nat.reduceMul, hP, M_toldOf_e, ht3]
      rw [show nd σ g i + tl σ (g + i) 3 = nd σ g (i + 1) from rfl, h2]
      simp only [Option.bind_some, zlt_e, nI_add, Int32.add_assoc, Nat.add_assoc]
    · unfold M_loadOf_l8
      have e : g + (nP σ - g) = nP σ := by omega
      simp (disch := omega) only [zgt_e, zpt_e, zlt_e, zrd_e, zwr_e, zelr_e, znz_e, zcp_e, zlit, nI_add, nI_mul, nI_sub, nI_div, ↓irem_f, irem_e, Nat.zero_add, Nat.add_zero, obs, zb_t, zb_f, nI_eqt, nI_eqf, nI_let, nI_lef, nI_ltt, nI_ltf, nI_m1, nI_n1, ↓reduceIte, zup_ne, zup_miss, zup_hit, zbo_1, zbo_0, reduceCtorEq, sel_l, sel_r, Nat.reduceAdd, Nat.reduceSub, Nat.reduceMul, hP, e]
  unfold M_loadOf
  simp only [zlt_e, zlit, h1, Option.bind_some]
  congr 1
  show sm (fun i => σ 183 (24 + (g + i)) + inn i (nO σ)) (nP σ - g) = ldS σ g t
  rw [sm_add]
  unfold ldS ldL ldD
  congr 1
  show sm (fun i => sm (fun o => if opl σ o = g + i ∧ opn σ o (t + nd σ g (i + 1)) = true then σ 173 (2 * o + 1) else 0) (nO σ)) (nP σ - g) = _
  rw [sm_comm]
  refine sm_congr (fun o ho => ?_)
  have hp := (hOs o ho).2.1
  by_cases c : g ≤ opl σ o
  · have e : (fun i => if opl σ o = g + i ∧ opn σ o (t + nd σ g (i + 1)) = true then σ 173 (2 * o + 1) else 0) = (fun i => if opl σ o - g = i then (if opn σ o (t + nd σ g (opl σ o + 1 - g)) = true then σ 173 (2 * o + 1) else 0) else 0) := by
      funext i
      by_cases c2 : opl σ o - g = i
      · subst c2
        rw [if_pos rfl, show opl σ o - g + 1 = opl σ o + 1 - g from by omega]
        simp only [show (opl σ o = g + (opl σ o - g)) = True from eq_true (by omega), true_and]
      · rw [if_neg c2, if_neg (fun q => c2 (by omega))]
    rw [e, sm_one, if_pos (by omega)]
    simp only [c, true_and]
  · have e : (fun i => if opl σ o = g + i ∧ opn σ o (t + nd σ g (i + 1)) = true then σ 173 (2 * o + 1) else 0) = (fun _ => (0 : Int32)) := by
      funext i
      rw [if_neg (fun q => c (by omega))]
    rw [e, sm_zero, if_neg (fun q => c q.1)]
def mid (σ : Sg) (p : Nat) : Int32 := (σ 172 (9 * p) + σ 172 (9 * p + 1)) / 2
def wsh (σ : Sg) (p t : Nat) : Int32 := if σ 183 (16 + p) = -1 then ldS σ p t + (mid σ p - σ 183 p) / σ 183 198 else σ 183 (16 + p)
def hld (σ : Sg) (p : Nat) (x : Int32) : Int32 := mx 0 (mn (σ 172 (9 * p + 4)) x)
def stnd (σ : Sg) (p : Nat) : Int32 := if σ 183 p < σ 172 (9 * p) then 1 else if σ 172 (9 * p + 1) < σ 183 p then 2 else 0
theorem M_middleOf_e {σ : Sg} {p : Nat} (h : p < 8) : M_middleOf σ (nI p) = some (mid σ p) := by
  unfold M_middleOf mid
  simp (disch := omega) only [zgt_e, zpt_e, zlt_e, zrd_e, zwr_e, zelr_e, znz_e, zcp_e, zlit, nI_add, nI_mul, nI_sub, nI_div, ↓irem_f, irem_e, Nat.zero_add, Nat.add_zero, obs, zb_t, zb_f, nI_eqt, nI_eqf, nI_let, nI_lef, nI_ltt, nI_ltf, nI_m1, nI_n1, ↓reduceIte, zup_ne, zup_miss, zup_hit, zbo_1, zbo_0, reduceCtorEq, sel_l, sel_r, Nat.reduceAdd, Nat.reduceSub, Nat.reduceMul, M_toldOf_e]
theorem M_wished_e {σ : Sg} (hK : InvK σ) (hO : InvO σ) {p t g : Nat} (hp : p < nP σ) (ht : t < 900000) (hg : σ 183 198 = nI g) (hg1 : 1 ≤ g) (hg2 : g ≤ 99) : M_wished σ (nI p) (nI t) = some (wsh σ p t) := by
  have hP8 := hK.1.2
  unfold M_wished wsh
  have e : (-1 : Int32) = -nI 1 := rfl
  by_cases c : σ 183 (16 + p) = -nI 1
  · simp (disch := omega) only [zgt_e, zpt_e, zlt_e, zrd_e, zwr_e, zelr_e, znz_e, zcp_e, zlit, nI_add, nI_mul, nI_sub, nI_div, ↓irem_f, irem_e, Nat.zero_add, Nat.add_zero, obs, zb_t, zb_f, nI_eqt, nI_eqf, nI_let, nI_lef, nI_ltt, nI_ltf, nI_m1, nI_n1, ↓reduceIte, zup_ne, zup_miss, zup_hit, zbo_1, zbo_0, reduceCtorEq, sel_l, sel_r, Nat.reduceAdd, Nat.reduceSub, Nat.reduceMul, e, c, M_loadOf_e hK hO, M_middleOf_e, hg]
  · simp (disch := omega) only [zgt_e, zpt_e, zlt_e, zrd_e, zwr_e, zelr_e, znz_e, zcp_e, zlit, nI_add, nI_mul, nI_sub, nI_div, ↓irem_f, irem_e, Nat.zero_add, Nat.add_zero, obs, zb_t, zb_f, nI_eqt, nI_eqf, nI_let, nI_lef, nI_ltt, nI_ltf, nI_m1, nI_n1, ↓reduceIte, zup_ne, zup_miss, zup_hit, zbo_1, zbo_0, reduceCtorEq, sel_l, sel_r, Nat.reduceAdd, Nat.reduceSub, Nat.reduceMul, e, c]
theorem M_wanted_e {σ : Sg} (hK : InvK σ) (hO : InvO σ) {p t g : Nat} (hp : p < nP σ) (ht : t < 900000) (hg : σ 183 198 = nI g) (hg1 : 1 ≤ g) (hg2 : g ≤ 99) : M_wanted σ (nI p) (nI t) = some (hld σ p (wsh σ p t)) := by
  have hP8 := hK.1.2
  unfold M_wanted hld
  simp (disch := omega) only [zgt_e, zpt_e, zlt_e, zrd_e, zwr_e, zelr_e, znz_e, zcp_e, zlit, nI_add, nI_mul, nI_sub, nI_div, ↓irem_f, irem_e, Nat.zero_add, Nat.add_zero, obs, zb_t, zb_f, nI_eqt, nI_eqf, nI_let, nI_lef, nI_ltt, nI_ltf, nI_m1, nI_n1, ↓reduceIte, zup_ne, zup_miss, zup_hit, zbo_1, zbo_0, reduceCtorEq, sel_l, sel_r, Nat.reduceAdd, Nat.reduceSub, Nat.reduceMul, M_toldOf_e, M_wished_e hK hO hp ht hg hg1 hg2, M_lesser_e, M_greater_e]
theorem M_standOf_e {σ : Sg} {p : Nat} (hp : p < 8) : M_standOf σ (nI p) = some (stnd σ p) := by
  unfold M_standOf stnd
  simp (disch := omega) only [zgt_e, zpt_e, zlt_e, zrd_e, zwr_e, zelr_e, znz_e, zcp_e, zlit, nI_add, nI_mul, nI_sub, nI_div, ↓irem_f, irem_e, Nat.zero_add, Nat.add_zero, obs, zb_t, zb_f, nI_eqt, nI_eqf, nI_let, nI_lef, nI_ltt, nI_ltf, nI_m1, nI_n1, ↓reduceIte, zup_ne, zup_miss, zup_hit, zbo_1, zbo_0, reduceCtorEq, sel_l, sel_r, Nat.reduceAdd, Nat.reduceSub, Nat.reduceMul, M_toldOf_e]
  by_cases c1 : σ 183 p < σ 172 (9 * p)
  · simp only [c1, Int32.not_le.mpr c1, ↓reduceIte]
  · simp only [c1, Int32.not_lt.mp c1, ↓reduceIte]
    by_cases c2 : σ 172 (9 * p + 1) < σ 183 p
    · simp only [c2, Int32.not_le.mpr c2, ↓reduceIte]
    · simp only [c2, Int32.not_lt.mp c2, ↓reduceIte]
