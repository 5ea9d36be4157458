/-! a step of the class's water against the reference's: outlets, gates, what goes over -/
def RepSc (σ : Sg) (μ : Sg) (b l : Nat) : Prop :=
  (σ 103 0 = nI b ∧ σ 103 1 = nI l ∧ l ≤ 200 ∧ b ≤ 20000 ∧ σ 103 2 = nI (l + nd μ 0 (nP μ))) ∧
  (∀ o, o < nO μ → ∀ i, i ≤ l + nd μ 0 (nP μ) → σ (105 + o) i = if opn μ o (b + i) = true then 1 else 0) ∧
  (∀ g, g < nP μ → ∀ i, i ≤ l → σ (116 + g) i = ldD μ g (b + i))
theorem RepSc.stat {σ μ ν : Sg} {b l : Nat} (s : Stat μ ν) (hO : InvO μ) (h : RepSc σ μ b l) : RepSc σ ν b l := by
  obtain ⟨h1, h2, h3⟩ := h
  have hl : ∀ g t, ldD ν g t = ldD μ g t := by
    intro g t
    unfold ldD
    rw [s.e_nO]
    refine sm_congr (fun i hi => ?_)
    rw [s.e_opl, s.e_nd, s.e_opn hO, s.r173]
  refine ⟨?_, ?_, ?_⟩
  · rw [s.e_nd, s.e_nP]; exact h1
  · intro o ho i hi
    rw [s.e_nO] at ho
    rw [s.e_nd, s.e_nP] at hi
    rw [s.e_opn hO]
    exact h2 o ho i hi
  · intro g hg i hi
    rw [s.e_nP] at hg
    rw [hl]
    exact h3 g hg i hi
theorem RepSc.fr {σ τ μ : Sg} {b l lo hi : Nat} (f : Fr lo hi σ τ) (h : RepSc σ μ b l) (hK : InvK μ) (hd : hi < 103) : RepSc τ μ b l := by
  obtain ⟨h1, h2, h3⟩ := h
  refine ⟨?_, ?_, ?_⟩
  · rw [f 103 (by omega)]; exact h1
  · intro o ho i hi; rw [f (105 + o) (by omega)]; exact h2 o ho i hi
  · intro g hg i hi; rw [f (116 + g) (by omega)]; exact h3 g hg i hi
theorem Schedule_isOpen_e {σ μ : Sg} {b l : Nat} (h : RepSc σ μ b l) (hK : InvK μ) {o t : Nat} (ho : o < nO μ) (h1 : b ≤ t) (h2 : t ≤ b + l) : Schedule_isOpen σ (nI o) (nI t) = some (opn μ o t) := by
  obtain ⟨⟨c0, c1, c2, c3, c4⟩, d1, _⟩ := h
  have hn := nd_le hK (g := 0) (j := nP μ) (by omega)
  have hP8 := hK.1.2
  have hO10 := hK.2.1.2
  have e := d1 o ho (t - b) (by omega)
  rw [show b + (t - b) = t from by omega] at e
  unfold Schedule_isOpen
  by_cases c : opn μ o t = true
  · rw [if_pos c] at e
    simp (disch := omega) only [zgt_e, zpt_e, zlt_e, zrd_e, zwr_e, zelr_e, znz_e, zcp_e, zlit, nI_add, nI_mul, nI_sub, nI_div, ↓irem_f, irem_e, Nat.zero_add, Nat.add_zero, obs, zb_t, zb_f, nI_eqt, nI_eqf, nI_let, nI_lef, nI_ltt, nI_ltf, nI_m1, nI_n1, ↓reduceIte, zup_ne, zup_miss, zup_hit, zbo_1, zbo_0, reduceCtorEq, sel_l, sel_r, Nat.reduceAdd, Nat.reduceSub, Nat.reduceMul, c0, c4, e, c]
  · rw [if_neg c] at e
    simp (disch := omega) only [zgt_e, zpt_e, zlt_e, zrd_e, zwr_e, zelr_e, znz_e, zcp_e, zlit, nI_add, nI_mul, nI_sub, nI_div, ↓irem_f, irem_e, Nat.zero_add, Nat.add_zero, obs, zb_t, zb_f, nI_eqt, nI_eqf, nI_let, nI_lef, nI_ltt, nI_ltf, nI_m1, nI_n1, ↓reduceIte, zup_ne, zup_miss, zup_hit, zbo_1, zbo_0, reduceCtorEq, sel_l, sel_r, Nat.reduceAdd, Nat.reduceSub, Nat.reduceMul, c0, c4, e]
    simpa using c
theorem Schedule_demandAt_e {σ μ : Sg} {b l : Nat} (h : RepSc σ μ b l) (hK : InvK μ) {g t : Nat} (hg : g < nP μ) (h1 : b ≤ t) (h2 : t ≤ b + l) : Schedule_demandAt σ (nI g) (nI t) = some (ldD μ g t) := by
  obtain ⟨⟨c0, c1, c2, c3, c4⟩, _, d1⟩ := h
  have hP8 := hK.1.2
  have e := d1 g hg (t - b) (by omega)
  rw [show b + (t - b) = t from by omega] at e
  unfold Schedule_demandAt
  simp (disch := omega) only [zgt_e, zpt_e, zlt_e, zrd_e, zwr_e, zelr_e, znz_e, zcp_e, zlit, nI_add, nI_mul, nI_sub, nI_div, ↓irem_f, irem_e, Nat.zero_add, Nat.add_zero, obs, zb_t, zb_f, nI_eqt, nI_eqf, nI_let, nI_lef, nI_ltt, nI_ltf, nI_m1, nI_n1, ↓reduceIte, zup_ne, zup_miss, zup_hit, zbo_1, zbo_0, reduceCtorEq, sel_l, sel_r, Nat.reduceAdd, Nat.reduceSub, Nat.reduceMul, c0, c1, e]
theorem sm_bump {f g : Nat → Int32} {j d : _} {n : Nat} (hj : j < n) (h1 : g j = f j + d) (h2 : ∀ o, o < n → o ≠ j → g o = f o) : sm g n = sm f n + d := by
  induction n with
  | zero => omega
  | succ n ih =>
    rw [sm_succ, sm_succ]
    by_cases e : j = n
    · subst e
      rw [h1, sm_congr (fun o ho => h2 o (by omega) (by omega)), Int32.add_assoc]
    · rw [ih (by omega) (fun o ho hne => h2 o (by omega) hne), h2 n (by omega) (by omega)]
      rw [Int32.add_assoc, Int32.add_comm d, ← Int32.add_assoc]
theorem tak_body {τ ν : Sg} {w p1 j b l : Nat} (hw : w = 56 ∨ w = 82) (hp1 : p1 = 3 ∨ p1 = 29) (hR : RepK τ p1 ν) (hS : RepSc τ ν b l) (hT : InvT ν) (hb : b ≤ stp ν) (hb2 : stp ν ≤ b + l) (hj : j < nO ν) (hV : RepV τ w ν) (hN : RepN τ w ν) :
    ∃ τ', Water_serveOutlets_l2 τ w p1 (nI j) = some (.inl (τ', nI (j + 1))) ∧ Fr w (w + 16) τ τ' ∧ RepV τ' w (takS j ν) ∧ RepN τ' w (takS j ν) ∧ τ' (w + 5) = τ (w + 5) := by
  obtain ⟨hK, hO, ⟨hs, hs2⟩, _⟩ := hT
  obtain ⟨hP, hP8⟩ := hK.1
  obtain ⟨hOu, hO10⟩ := hK.2.1
  obtain ⟨o1, o2, o3, o4, o5⟩ := hK.2.2.2.2.2.1 j hj
  have st := takS_stat (σ := ν) (o := j) (by omega) (by omega)
  have hV0 := hV
  obtain ⟨v1, v2, v3, v4, v5, v6, v7⟩ := hV
  have hO' : τ p1 7 = nI (nO ν) := hR.1.2.1.trans hOu
  obtain ⟨k1, k2⟩ := hR.2.2.1 j hj
  have hso := Schedule_isOpen_e hS hK hj hb hb2
  have v5' := v5.trans hs
  unfold Water_serveOutlets_l2
  by_cases c : opn ν j (stp ν) = true
  · rw [c] at hso
    rw [o1] at k1
    obtain ⟨a1, a2, a3, a4⟩ := v1 (opl ν j) o2
    obtain ⟨n1, n2, n3, n4⟩ := hN (opl ν j) o2
    obtain ⟨q1, q2⟩ := v2 j hj
    have s1 := v3 1 (by omega)
    simp (disch := omega) only [zgt_e, zpt_e, zlt_e, zrd_e, zwr_e, zelr_e, znz_e, zcp_e, zlit, nI_add, nI_mul, nI_sub, nI_div, ↓irem_f, irem_e, Nat.zero_add, Nat.add_zero, obs, zb_t, zb_f, nI_eqt, nI_eqf, nI_let, nI_lef, nI_ltt, nI_ltf, nI_m1, nI_n1, ↓reduceIte, zup_ne, zup_miss, zup_hit, zbo_1, zbo_0, reduceCtorEq, sel_l, sel_r, Nat.reduceAdd, Nat.reduceSub, Nat.reduceMul, hO', v5', hso, k1, k2, a1, n3, q1, q2, s1, v4, ↓mn_f]
    have hm : mn (ν 173 (2 * j + 1)) (ν 183 (opl ν j)) = takN j ν := rfl
    refine ⟨_, rfl, ?_, ?_, ?_, ?_⟩
    · exact ((((((Fr.refl τ).up (by omega) (by omega)).up (by omega) (by omega)).up (by omega) (by omega)).up (by omega) (by omega)).up (by omega) (by omega)).up (by omega) (by omega)
    · refine ⟨?_, ?_, ?_, ?_, ?_⟩
      · intro p hp
        rw [st.e_nP] at hp
        obtain ⟨b1, b2, b3, b4⟩ := v1 p hp
        unfold takS
        rw [if_pos c]
        by_cases e : p = opl ν j
        · subst e
          simp (disch := omega) only [zup_ne, zup_miss, zup_hit, b2, b3, b4, hm, and_self]
        · simp (disch := omega) only [zup_ne, zup_miss, zup_hit, b1, b2, b3, b4, and_self]
      · intro o ho
        rw [st.e_nO] at ho
        obtain ⟨b1, b2⟩ := v2 o ho
        unfold takS
        rw [if_pos c]
        by_cases e : o = j
        · subst e
          simp (disch := omega) only [zup_ne, zup_miss, zup_hit, hm, and_self]
        · simp (disch := omega) only [zup_ne, zup_miss, zup_hit, b1, b2, and_self]
      · intro i hi
        have b := v3 i hi
        unfold takS
        rw [if_pos c]
        by_cases e : i = 1
        · subst e
          simp (disch := omega) only [zup_ne, zup_miss, zup_hit, hm, Nat.reduceAdd]
        · simp (disch := omega) only [zup_ne, zup_miss, b]
      · rw [st.e_nO]
        simp (disch := omega) only [zup_ne, zup_miss, zup_hit]
        refine (sm_bump hj ?_ ?_).symm
        · unfold takS
          rw [if_pos c]
          simp (disch := omega) only [zup_hit, hm]
        · intro o ho hne
          unfold takS
          rw [if_pos c]
          simp (disch := omega) only [zup_ne, zup_miss]
      · unfold takS
        rw [if_pos c]
        simp (disch := omega) only [zup_ne, zup_miss, v5, v6, v7, and_self]
    · intro p hp
      rw [st.e_nP] at hp
      obtain ⟨b1, b2, b3, b4⟩ := hN p hp
      unfold takS
      rw [if_pos c]
      by_cases e : p = opl ν j
      · subst e
        simp (disch := omega) only [zup_ne, zup_miss, zup_hit, b1, b2, b4, hm, and_self]
      · simp (disch := omega) only [zup_ne, zup_miss, zup_hit, b1, b2, b3, b4, and_self]
    · simp (disch := omega) only [zup_ne]
  · have c' : opn ν j (stp ν) = false := by simpa using c
    rw [c'] at hso
    simp (disch := omega) only [zgt_e, zpt_e, zlt_e, zrd_e, zwr_e, zelr_e, znz_e, zcp_e, zlit, nI_add, nI_mul, nI_sub, nI_div, ↓irem_f, irem_e, Nat.zero_add, Nat.add_zero, obs, zb_t, zb_f, nI_eqt, nI_eqf, nI_let, nI_lef, nI_ltt, nI_ltf, nI_m1, nI_n1, ↓reduceIte, zup_ne, zup_miss, zup_hit, zbo_1, zbo_0, reduceCtorEq, sel_l, sel_r, Nat.reduceAdd, Nat.reduceSub, Nat.reduceMul, hO', v5', hso]
    have e : takS j ν = ν := by unfold takS; rw [if_neg c]
    rw [e]
    exact ⟨_, rfl, Fr.refl τ, hV0, hN, rfl⟩
theorem takS_way {j : Nat} {ν : Sg} (hj : j < 10) (hp : opl ν j < 8) (i : Nat) (h1 : 8 ≤ i) (h2 : i < 128) : takS j ν 183 i = ν 183 i := by
  unfold takS
  split
  · simp (disch := omega) only [zup_ne, zup_miss]
  · rfl
theorem takS_192 {j : Nat} {ν : Sg} : takS j ν 192 = ν 192 := by
  unfold takS
  split
  · simp (disch := omega) only [zup_ne]
  · rfl
theorem Water_serveOutlets_ok {σ μ : Sg} {w p1 b l : Nat} (hw : w = 56 ∨ w = 82) (hp1 : p1 = 3 ∨ p1 = 29) (hR : RepK σ p1 μ) (hS : RepSc σ μ b l) (hT : InvT μ) (hb : b ≤ stp μ) (hb2 : stp μ ≤ b + l) (hV : RepV σ w μ) (hN : RepN σ w μ) :
    ∃ σ', Water_serveOutlets σ w p1 = some σ' ∧ Fr w (w + 16) σ σ' ∧ Stat μ (itS takS (nO μ) μ) ∧ RepV σ' w (itS takS (nO μ) μ) ∧ RepN σ' w (itS takS (nO μ) μ) ∧ σ' (w + 5) = σ (w + 5) ∧ (∀ i, 8 ≤ i → i < 128 → itS takS (nO μ) μ 183 i = μ 183 i) ∧ itS takS (nO μ) μ 192 = μ 192 := by
  have hP8 := hT.1.1.2
  have hT2 := hT.1.2.2.1.2
  have hO10 := hT.1.2.1.2
  have hl := zit_cnt (b := fun (s : (Sg × Int32)) => Water_serveOutlets_l2 s.1 w p1 s.2) (fun j τ => Fr w (w + 16) σ τ ∧ Stat μ (itS takS j μ) ∧ RepV τ w (itS takS j μ) ∧ RepN τ w (itS takS j μ) ∧ τ (w + 5) = σ (w + 5) ∧ (∀ i, 8 ≤ i → i < 128 → itS takS j μ 183 i = μ 183 i) ∧ itS takS j μ 192 = μ 192) nI (nO μ) (σ := σ) (by omega)
    ⟨Fr.refl σ, Stat.refl μ, hV, hN, rfl, fun _ _ _ => rfl, rfl⟩ (by
    rintro j τ hj ⟨f, s, v, n, e5, e6, e7⟩
    have hj' : j < nO (itS takS j μ) := by rw [s.e_nO]; exact hj
    have hR' : RepK τ p1 (itS takS j μ) := (hR.fr f hT2 (by omega)).stat s
    have hS' : RepSc τ (itS takS j μ) b l := (hS.fr f hT.1 (by omega)).stat s hT.2.1
    have hT' := s.e_InvT hT
    have hp : opl (itS takS j μ) j < 8 := by
      have := (hT'.1.2.2.2.2.2.1 j hj').2.1
      rw [s.e_nP] at this
      omega
    obtain ⟨τ', b1, b2, b3, b4, b5⟩ := tak_body hw hp1 hR' hS' hT' (by rw [s.e_stp]; exact hb) (by rw [s.e_stp]; exact hb2) hj' v n
    exact ⟨τ', b1, f.trans b2, s.trans (takS_stat (by omega) hp), b3, b4, b5.trans e5, fun i h1 h2 => (takS_way (by omega) hp i h1 h2).trans (e6 i h1 h2), takS_192.trans e7⟩) (by
    rintro τ ⟨f, s, v, n, e5, _⟩
    have hP' : τ p1 7 = nI (nO μ) := by rw [f p1 (by omega), hR.1.2.1]; exact hT.1.2.1.1
    unfold Water_serveOutlets_l2
    simp (disch := omega) only [zgt_e, zpt_e, zlt_e, zrd_e, zwr_e, zelr_e, znz_e, zcp_e, zlit, nI_add, nI_mul, nI_sub, nI_div, ↓irem_f, irem_e, Nat.zero_add, Nat.add_zero, obs, zb_t, zb_f, nI_eqt, nI_eqf, nI_let, nI_lef, nI_ltt, nI_ltf, nI_m1, nI_n1, ↓reduceIte, zup_ne, zup_miss, zup_hit, zbo_1, zbo_0, reduceCtorEq, sel_l, sel_r, Nat.reduceAdd, Nat.reduceSub, Nat.reduceMul, hP'])
  obtain ⟨τ, e, f, s, v, n, e5, e6, e7⟩ := hl
  refine ⟨τ, ?_, f, s, v, n, e5, e6, e7⟩
  unfold Water_serveOutlets
  simp only [zlt_e, zlit, e, obs]
