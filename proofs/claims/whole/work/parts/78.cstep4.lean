/-! what goes over; gates that move; the step whole -/
theorem ovr_zero {x y : Int32} (h : x - y ≤ 0) : mx 0 (x - y) = 0 := by
  unfold mx
  split
  · rename_i h2; exact Int32.le_antisymm h h2
  · rfl
theorem ovr_pos {x y : Int32} (h : ¬ x - y ≤ 0) : mx 0 (x - y) = x - y := by
  unfold mx
  rw [if_pos (Int32.le_of_lt (Int32.not_le.mp h))]
theorem zup_same {σ : Sg} {a k : Nat} {v : Int32} (h : v = σ a k) : zup σ a k v = σ := by
  subst h
  funext b
  by_cases c : b = a
  · subst c
    funext j
    by_cases e : j = k
    · subst e; rw [zup_hit]
    · rw [zup_miss e]
  · rw [zup_ne c]
theorem ovrS_zero {j : Nat} {ν : Sg} (h : ovrN j ν = 0) (h2 : j + 1 < nP ν → ν 192 (j + 1) = 0) (hj : j < nP ν) : ovrS j ν = ν := by
  unfold ovrS
  rw [h]
  split
  · rw [zup_same (σ := ν) (a := 183) (k := j) (by simp), zup_same (σ := ν) (a := 190) (by simp), zup_same (by simp)]
  · rw [zup_same (σ := ν) (a := 183) (k := j) (by simp), zup_same (σ := ν) (a := 190) (by simp), zup_same (σ := ν) (a := 183) (by simp), zup_same (σ := ν) (a := 189) (by simp), zup_same (h2 (by omega)).symm]
theorem ovr_body {τ ν : Sg} {w p1 j : Nat} (hw : w = 56 ∨ w = 82) (hp1 : p1 = 3 ∨ p1 = 29) (hR : RepK τ p1 ν) (hT : InvT ν) (hj : j < nP ν) (hV : RepV τ w ν) (hN : RepN τ w ν) (h0 : j + 1 < nP ν → ν 192 (j + 1) = 0) :
    ∃ τ', Water_spillOver_l2 τ w p1 (nI j) = some (.inl (τ', nI (j + 1))) ∧ Fr w (w + 16) τ τ' ∧ RepV τ' w (ovrS j ν) ∧ RepN τ' w (ovrS j ν) ∧ (τ' (w + 5) = τ (w + 5) ∧ τ' (w + 13) = τ (w + 13) ∧ τ' (w + 14) = τ (w + 14)) := by
  obtain ⟨hK, hO, ⟨hs, hs2⟩, _⟩ := hT
  obtain ⟨hP, hP8⟩ := hK.1
  have hO10 := hK.2.1.2
  have st := ovrS_stat (σ := ν) (p := j) (by omega) (by omega) hP8
  have hV0 := hV
  obtain ⟨v1, v2, v3, v4, v5, v6, v7⟩ := hV
  have hc := (hR.2.1 j hj).1.2.2.2.1
  have hP' : τ p1 3 = nI (nP ν) := hR.1.1.trans hP
  obtain ⟨a1, a2, a3, a4⟩ := v1 j hj
  obtain ⟨n1, n2, n3, n4⟩ := hN j hj
  have e0 : (0 : Int32) = nI 0 := rfl
  unfold Water_spillOver_l2
  by_cases c : ν 183 j - ν 172 (9 * j + 2) ≤ nI 0
  · have hz : ovrS j ν = ν := ovrS_zero (ovr_zero c) h0 hj
    simp (disch := omega) only [zgt_e, zpt_e, zlt_e, zrd_e, zwr_e, zelr_e, znz_e, zcp_e, zlit, nI_add, nI_mul, nI_sub, nI_div, ↓irem_f, irem_e, Nat.zero_add, Nat.add_zero, obs, zb_t, zb_f, nI_eqt, nI_eqf, nI_let, nI_lef, nI_ltt, nI_ltf, nI_m1, nI_n1, ↓reduceIte, zup_ne, zup_miss, zup_hit, zbo_1, zbo_0, reduceCtorEq, sel_l, sel_r, Nat.reduceAdd, Nat.reduceSub, Nat.reduceMul, hP', a1, hc, c]
    rw [hz]
    exact ⟨_, rfl, Fr.refl τ, hV0, hN, rfl, rfl, rfl⟩
  · have hn : ν 183 j - ν 172 (9 * j + 2) = ovrN j ν := (ovr_pos c).symm
    by_cases cl : j + 1 = nP ν
    · have q3 := v3 3 (by omega)
      simp (disch := omega) only [zgt_e, zpt_e, zlt_e, zrd_e, zwr_e, zelr_e, znz_e, zcp_e, zlit, nI_add, nI_mul, nI_sub, nI_div, ↓irem_f, irem_e, Nat.zero_add, Nat.add_zero, obs, zb_t, zb_f, nI_eqt, nI_eqf, nI_let, nI_lef, nI_ltt, nI_ltf, nI_m1, nI_n1, ↓reduceIte, zup_ne, zup_miss, zup_hit, zbo_1, zbo_0, reduceCtorEq, sel_l, sel_r, Nat.reduceAdd, Nat.reduceSub, Nat.reduceMul, hP', a1, hc, c, n3, q3]
      rw [hn]
      refine ⟨_, rfl, ?_, ⟨?_, ?_, ?_, ?_, ?_⟩, ?_, ?_⟩
      · intro a ha; simp (disch := omega) only [zup_ne]
      · intro p hp
        rw [st.e_nP] at hp
        obtain ⟨b1, b2, b3, b4⟩ := v1 p hp
        unfold ovrS
        rw [if_pos cl]
        by_cases e : p = j
        · subst e
          simp (disch := omega) only [zup_ne, zup_miss, zup_hit, b2, b3, b4, and_self]
        · simp (disch := omega) only [zup_ne, zup_miss, zup_hit, b1, b2, b3, b4, and_self]
      · intro o ho
        rw [st.e_nO] at ho
        obtain ⟨b1, b2⟩ := v2 o ho
        unfold ovrS
        rw [if_pos cl]
        simp (disch := omega) only [zup_ne, zup_miss, b1, b2, and_self]
      · intro i hi
        have b := v3 i hi
        unfold ovrS
        rw [if_pos cl]
        by_cases e : i = 3
        · subst e
          simp (disch := omega) only [zup_ne, zup_miss, zup_hit, Nat.reduceAdd]
        · simp (disch := omega) only [zup_ne, zup_miss, b]
      · rw [st.e_nO]
        simp (disch := omega) only [zup_ne, zup_miss, v4]
        refine sm_congr (fun o ho => ?_)
        unfold ovrS
        rw [if_pos cl]
        simp (disch := omega) only [zup_ne, zup_miss]
      · unfold ovrS
        rw [if_pos cl]
        simp (disch := omega) only [zup_ne, zup_miss, v5, v6, v7, and_self]
      · intro p hp
        rw [st.e_nP] at hp
        obtain ⟨b1, b2, b3, b4⟩ := hN p hp
        unfold ovrS
        rw [if_pos cl]
        by_cases e : p = j
        · subst e
          simp (disch := omega) only [zup_ne, zup_miss, zup_hit, b1, b2, b4, and_self]
        · simp (disch := omega) only [zup_ne, zup_miss, zup_hit, b1, b2, b3, b4, and_self]
      · simp (disch := omega) only [zup_ne, and_self]
    · obtain ⟨c1, c2, c3, c4⟩ := v1 (j + 1) (by omega)
      obtain ⟨d1, d2, d3, d4⟩ := hN (j + 1) (by omega)
      simp (disch := omega) only [zgt_e, zpt_e, zlt_e, zrd_e, zwr_e, zelr_e, znz_e, zcp_e, zlit, nI_add, nI_mul, nI_sub, nI_div, ↓irem_f, irem_e, Nat.zero_add, Nat.add_zero, obs, zb_t, zb_f, nI_eqt, nI_eqf, nI_let, nI_lef, nI_ltt, nI_ltf, nI_m1, nI_n1, ↓reduceIte, zup_ne, zup_miss, zup_hit, zbo_1, zbo_0, reduceCtorEq, sel_l, sel_r, Nat.reduceAdd, Nat.reduceSub, Nat.reduceMul, hP', a1, hc, c, n3, c1, d2]
      rw [hn]
      refine ⟨_, rfl, ?_, ⟨?_, ?_, ?_, ?_, ?_⟩, ?_, ?_⟩
      · intro a ha; simp (disch := omega) only [zup_ne]
      · intro p hp
        rw [st.e_nP] at hp
        obtain ⟨b1, b2, b3, b4⟩ := v1 p hp
        unfold ovrS
        rw [if_neg cl]
        by_cases e : p = j
        · subst e
          simp (disch := omega) only [zup_ne, zup_miss, zup_hit, b2, b3, b4, and_self]
        · by_cases e2 : p = j + 1
          · subst e2
            simp (disch := omega) only [zup_ne, zup_miss, zup_hit, b2, b3, b4, and_self]
          · simp (disch := omega) only [zup_ne, zup_miss, zup_hit, b1, b2, b3, b4, and_self]
      · intro o ho
        rw [st.e_nO] at ho
        obtain ⟨b1, b2⟩ := v2 o ho
        unfold ovrS
        rw [if_neg cl]
        simp (disch := omega) only [zup_ne, zup_miss, b1, b2, and_self]
      · intro i hi
        have b := v3 i hi
        unfold ovrS
        rw [if_neg cl]
        simp (disch := omega) only [zup_ne, zup_miss, b]
      · rw [st.e_nO]
        simp (disch := omega) only [zup_ne, zup_miss, v4]
        refine sm_congr (fun o ho => ?_)
        unfold ovrS
        rw [if_neg cl]
        simp (disch := omega) only [zup_ne, zup_miss]
      · unfold ovrS
        rw [if_neg cl]
        simp (disch := omega) only [zup_ne, zup_miss, v5, v6, v7, and_self]
      · intro p hp
        rw [st.e_nP] at hp
        obtain ⟨b1, b2, b3, b4⟩ := hN p hp
        unfold ovrS
        rw [if_neg cl]
        by_cases e : p = j
        · subst e
          simp (disch := omega) only [zup_ne, zup_miss, zup_hit, b1, b2, b4, and_self]
        · by_cases e2 : p = j + 1
          · subst e2
            simp (disch := omega) only [zup_ne, zup_miss, zup_hit, b1, b3, and_self]
          · simp (disch := omega) only [zup_ne, zup_miss, zup_hit, b1, b2, b3, b4, and_self]
      · simp (disch := omega) only [zup_ne, and_self]
theorem ovrS_same {j i : Nat} {ν : Sg} (hj : j < nP ν) (hP : nP ν ≤ 8) (h : 8 ≤ i) (h2 : i ≠ 203) : ovrS j ν 183 i = ν 183 i := by
  unfold ovrS
  split <;> simp (disch := omega) only [zup_ne, zup_miss]
theorem ovrS_193 {j : Nat} {ν : Sg} : ovrS j ν 193 = ν 193 := by
  unfold ovrS
  split <;> simp (disch := omega) only [zup_ne]
theorem ovrS_192 {j q : Nat} {ν : Sg} (h : q ≠ j + 1) : ovrS j ν 192 q = ν 192 q := by
  unfold ovrS
  split <;> simp (disch := omega) only [zup_ne, zup_miss]
theorem Water_spillOver_ok {σ μ : Sg} {w p1 : Nat} (hw : w = 56 ∨ w = 82) (hp1 : p1 = 3 ∨ p1 = 29) (hR : RepK σ p1 μ) (hT : InvT μ) (hV : RepV σ w μ) (hN : RepN σ w μ) (h0 : ∀ q, q < nP μ → μ 192 q = 0) :
    ∃ σ', Water_spillOver σ w p1 = some σ' ∧ Fr w (w + 16) σ σ' ∧ Stat μ (itS ovrS (nP μ) μ) ∧ RepV σ' w (itS ovrS (nP μ) μ) ∧ RepN σ' w (itS ovrS (nP μ) μ) ∧ (σ' (w + 5) = σ (w + 5) ∧ σ' (w + 13) = σ (w + 13) ∧ σ' (w + 14) = σ (w + 14)) ∧ (∀ i, 8 ≤ i → i ≠ 203 → itS ovrS (nP μ) μ 183 i = μ 183 i) ∧ itS ovrS (nP μ) μ 193 = μ 193 := by
  have hP8 := hT.1.1.2
  have hT2 := hT.1.2.2.1.2
  have hl := zit_cnt (b := fun (s : (Sg × Int32)) => Water_spillOver_l2 s.1 w p1 s.2) (fun j τ => Fr w (w + 16) σ τ ∧ Stat μ (itS ovrS j μ) ∧ RepV τ w (itS ovrS j μ) ∧ RepN τ w (itS ovrS j μ) ∧ (τ (w + 5) = σ (w + 5) ∧ τ (w + 13) = σ (w + 13) ∧ τ (w + 14) = σ (w + 14)) ∧ (∀ i, 8 ≤ i → i ≠ 203 → itS ovrS j μ 183 i = μ 183 i) ∧ itS ovrS j μ 193 = μ 193 ∧ ∀ q, j < q → q < nP μ → itS ovrS j μ 192 q = 0) nI (nP μ) (σ := σ) (by omega)
    ⟨Fr.refl σ, Stat.refl μ, hV, hN, ⟨rfl, rfl, rfl⟩, fun _ _ _ => rfl, rfl, fun q _ hq => h0 q hq⟩ (by
    rintro j τ hj ⟨f, s, v, n, ⟨e5, e13, e14⟩, e6, e7, e8⟩
    have hj' : j < nP (itS ovrS j μ) := by rw [s.e_nP]; exact hj
    have hP' : nP (itS ovrS j μ) ≤ 8 := by rw [s.e_nP]; exact hP8
    have hR' : RepK τ p1 (itS ovrS j μ) := (hR.fr f hT2 (by omega)).stat s
    obtain ⟨τ', b1, b2, b3, b4, b5, b13, b14⟩ := ovr_body hw hp1 hR' (s.e_InvT hT) hj' v n (fun h => e8 (j + 1) (by omega) (by rw [s.e_nP] at h; exact h))
    refine ⟨τ', b1, f.trans b2, s.trans (ovrS_stat (by omega) (by omega) hP'), b3, b4, ⟨b5.trans e5, b13.trans e13, b14.trans e14⟩, ?_, ?_, ?_⟩
    · intro i h1 h2
      exact (ovrS_same hj' hP' h1 h2).trans (e6 i h1 h2)
    · exact ovrS_193.trans e7
    · intro q h1 h2
      exact (ovrS_192 (by omega)).trans (e8 q (by omega) h2)) (by
    rintro τ ⟨f, s, v, n, e5, _⟩
    have hP' : τ p1 3 = nI (nP μ) := by rw [f p1 (by omega), hR.1.1]; exact hT.1.1.1
    unfold Water_spillOver_l2
    simp (disch := omega) only [zgt_e, zpt_e, zlt_e, zrd_e, zwr_e, zelr_e, znz_e, zcp_e, zlit, nI_add, nI_mul, nI_sub, nI_div, ↓irem_f, irem_e, Nat.zero_add, Nat.add_zero, obs, zb_t, zb_f, nI_eqt, nI_eqf, nI_let, nI_lef, nI_ltt, nI_ltf, nI_m1, nI_n1, ↓reduceIte, zup_ne, zup_miss, zup_hit, zbo_1, zbo_0, reduceCtorEq, sel_l, sel_r, Nat.reduceAdd, Nat.reduceSub, Nat.reduceMul, hP'])
  obtain ⟨τ, e, f, s, v, n, e5, e6, e7, e8⟩ := hl
  refine ⟨τ, ?_, f, s, v, n, e5, e6, e7⟩
  unfold Water_spillOver
  simp only [zlt_e, zlit, e, obs]
/-- how far a gate moves -/
def mvN (μ : Sg) (p : Nat) : Int32 := mx (-(μ 172 (9 * p + 5))) (mn (μ 172 (9 * p + 5)) (hld μ p (wsh μ p (stp μ + 1)) - μ 183 (8 + p)))
theorem movS_e (p : Nat) (σ : Sg) : movS p σ = zup σ 183 (8 + p) (σ 183 (8 + p) + mvN σ p) := rfl
theorem movS_succ (n : Nat) (μ : Sg) : itS movS (n + 1) μ = movS n (itS movS n μ) := rfl
theorem movS_it {μ : Sg} (hK : InvK μ) (hO : InvO μ) : ∀ n, n ≤ nP μ → Stat μ (itS movS n μ) ∧ (∀ a, a ≠ 183 → itS movS n μ a = μ a) ∧ ∀ i, itS movS n μ 183 i = if 8 ≤ i ∧ i < 8 + n then μ 183 i + mvN μ (i - 8) else μ 183 i := by
  intro n
  have hP8 := hK.1.2
  induction n with
  | zero => exact fun _ => ⟨Stat.refl μ, fun _ _ => rfl, fun i => by rw [if_neg (by omega), itS_zero]⟩
  | succ n ih =>
    intro hn
    obtain ⟨s, h1, h2⟩ := ih (by omega)
    rw [movS_succ]
    refine ⟨s.trans (movS_stat (by omega) _), fun a ha => ?_, fun i => ?_⟩
    · rw [movS_e, zup_ne ha, h1 a ha]
    · rw [movS_e]
      by_cases e : i = 8 + n
      · subst e
        have hm : mvN (itS movS n μ) n = mvN μ n := by
          unfold mvN
          rw [s.e_stp, s.r172, s.e_hld, s.e_wsh hK hO (by omega) (by rw [h2, if_neg (by omega)]), h2, if_neg (by omega)]
        rw [zup_hit, if_pos (by omega), hm, h2, if_neg (by omega), show 8 + n - 8 = n from by omega]
      · rw [zup_miss e, h2]
        by_cases c : 8 ≤ i ∧ i < 8 + n
        · rw [if_pos c, if_pos (by omega)]
        · rw [if_neg c, if_neg (by omega)]
theorem sm_head (f : Nat → Int32) : ∀ n, sm f (n + 1) = f 0 + sm (fun i => f (i + 1)) n
  | 0 => by
    show (0 : Int32) + f 0 = f 0 + 0
    simp
  | n + 1 => by rw [sm_succ, sm_head f n, sm_succ, Int32.add_assoc]
theorem ldL_step {μ : Sg} {g : Nat} (h : g < nP μ) : ldL μ g = μ 183 (24 + g) + ldL μ (g + 1) := by
  unfold ldL
  rw [show nP μ - g = (nP μ - (g + 1)) + 1 from by omega, sm_head]
  congr 1
  refine sm_congr (fun i _ => ?_)
  rw [show g + (i + 1) = g + 1 + i from by omega]
theorem ldL_end {μ : Sg} : ldL μ (nP μ) = 0 := by
  unfold ldL
  rw [Nat.sub_self]
  rfl
theorem Water_wishOf_e {σ μ : Sg} {w p1 g t gn : Nat} (hw : w = 56 ∨ w = 82) (hR : RepK σ p1 μ) (hK : InvK μ) (hg : g < nP μ) (h1 : σ (w + 1) g = μ 183 g) (h4 : σ (w + 4) g = μ 183 (16 + g)) (h2 : σ w 2 = nI gn) (hgn : μ 183 198 = nI gn) (hg1 : 1 ≤ gn) (hg2 : gn ≤ 99) {x : Int32} (hx : x = ldS μ g t) : Water_wishOf σ w p1 (nI g) x = some (wsh μ g t) := by
  have hP8 := hK.1.2
  have hm := (hR.2.1 g hg).2.2.2.2.2
  subst hx
  unfold Water_wishOf wsh
  have e : (-1 : Int32) = -nI 1 := rfl
  by_cases c : μ 183 (16 + g) = -nI 1
  · simp (disch := omega) only [zgt_e, zpt_e, zlt_e, zrd_e, zwr_e, zelr_e, znz_e, zcp_e, zlit, nI_add, nI_mul, nI_sub, nI_div, ↓irem_f, irem_e, Nat.zero_add, Nat.add_zero, obs, zb_t, zb_f, nI_eqt, nI_eqf, nI_let, nI_lef, nI_ltt, nI_ltf, nI_m1, nI_n1, ↓reduceIte, zup_ne, zup_miss, zup_hit, zbo_1, zbo_0, reduceCtorEq, sel_l, sel_r, Nat.reduceAdd, Nat.reduceSub, Nat.reduceMul, e, h4, c, hm, h1, h2, hgn]
  · simp (disch := omega) only [zgt_e, zpt_e, zlt_e, zrd_e, zwr_e, zelr_e, znz_e, zcp_e, zlit, nI_add, nI_mul, nI_sub, nI_div, ↓irem_f, irem_e, Nat.zero_add, Nat.add_zero, obs, zb_t, zb_f, nI_eqt, nI_eqf, nI_let, nI_lef, nI_ltt, nI_ltf, nI_m1, nI_n1, ↓reduceIte, zup_ne, zup_miss, zup_hit, zbo_1, zbo_0, reduceCtorEq, sel_l, sel_r, Nat.reduceAdd, Nat.reduceSub, Nat.reduceMul, e, h4, c]
def RepWs (σ : Sg) (w : Nat) (μ : Sg) : Prop := ∀ p, p < nP μ → σ (w + 16) p = wsh μ p (stp μ + 1)
theorem Water_moveGates_ok {σ μ : Sg} {w p1 b l : Nat} (hw : w = 56 ∨ w = 82) (hp1 : p1 = 3 ∨ p1 = 29) (hR : RepK σ p1 μ) (hS : RepSc σ μ b l) (hT : InvT μ) (hb : b ≤ stp μ) (hb2 : stp μ + 1 ≤ b + l) (hV : RepV σ w μ) :
    ∃ σ', Water_moveGates σ w p1 = some σ' ∧ Fr w (w + 16) σ σ' ∧ RepV σ' w (itS movS (nP μ) μ) ∧ RepWs σ' w μ ∧ (∀ a, a ≠ w + 2 → a ≠ w + 16 → σ' a = σ a) := by
  obtain ⟨hK, hO, ⟨hs, hs2⟩, gn, hgn, hg1, hg2⟩ := hT
  obtain ⟨hP, hP8⟩ := hK.1
  have hO10 := hK.2.1.2
  obtain ⟨st, m1, m2⟩ := movS_it hK hO (nP μ) (Nat.le_refl _)
  obtain ⟨v1, v2, v3, v4, v5, v6, v7⟩ := hV
  have hP' : σ p1 3 = nI (nP μ) := hR.1.1.trans hP
  have hl : Ok (zit (fun (s : (Sg × Int32 × Int32)) => Water_moveGates_l10 s.1 w p1 s.2.1 s.2.2) zFU (σ, nI 0, nI (nP μ) - nI 1)) (fun r => (∀ a, a ≠ w + 2 → a ≠ w + 16 → r.1 a = σ a) ∧ ∀ p, p < nP μ → r.1 (w + 2) p = μ 183 (8 + p) + mvN μ p ∧ r.1 (w + 16) p = wsh μ p (stp μ + 1)) := by
    refine zit_ok (fun j s => j ≤ nP μ ∧ s.2.2 = nI (nP μ - j) - nI 1 ∧ s.2.1 = ldL μ (nP μ - j) ∧ (∀ a, a ≠ w + 2 → a ≠ w + 16 → s.1 a = σ a) ∧ (∀ p, p < nP μ - j → s.1 (w + 2) p = μ 183 (8 + p)) ∧ ∀ p, p < nP μ → nP μ - j ≤ p → s.1 (w + 2) p = μ 183 (8 + p) + mvN μ p ∧ s.1 (w + 16) p = wsh μ p (stp μ + 1)) (nP μ) ?_ ?_ zFU 0 _ (by rw [zFU_e]; omega) (by omega) ⟨by omega, rfl, ldL_end.symm, fun _ _ _ => rfl, fun p hp => (v1 p hp).2.1, fun p h1 h2 => absurd h2 (by omega)⟩
    · rintro j ⟨τ, x3, x4⟩ hj ⟨_, hx4, hx3, ha, hlo, hhi⟩
      obtain rfl : x4 = _ := hx4
      obtain rfl : x3 = _ := hx3
      obtain ⟨g, hg⟩ : ∃ g, nP μ - j = g + 1 := ⟨nP μ - j - 1, by omega⟩
      have ha' : ∀ a, a ≠ w + 2 → a ≠ w + 16 → τ a = σ a := ha
      have hlo' : ∀ p, p < nP μ - j → τ (w + 2) p = μ 183 (8 + p) := hlo
      have hhi' : ∀ p, p < nP μ → nP μ - j ≤ p → τ (w + 2) p = μ 183 (8 + p) + mvN μ p ∧ τ (w + 16) p = wsh μ p (stp μ + 1) := hhi
      rw [hg] at hlo' hhi'
      have hgP : g < nP μ := by omega
      obtain ⟨a1, a2, a3, a4⟩ := v1 g hgP
      have f0 : Fr w (w + 16) σ τ := fun a h => ha' a (by omega) (by omega)
      have t3 : τ (w + 3) g = μ 183 (24 + g) := by rw [ha' _ (by omega) (by omega)]; exact a3
      have t0 : τ w 0 = nI (stp μ) := by rw [ha' _ (by omega) (by omega), v5, hs]
      have hR' : RepK τ p1 μ := hR.fr f0 hK.2.2.1.2 (by omega)
      have hdem : Schedule_demandAt τ (nI g) (nI (stp μ + 1)) = some (ldD μ g (stp μ + 1)) := Schedule_demandAt_e (hS.fr f0 hK (by omega)) hK hgP (by omega) (by omega)
      have hwish : Water_wishOf τ w p1 (nI g) (ldL μ g + ldD μ g (stp μ + 1)) = some (wsh μ g (stp μ + 1)) := Water_wishOf_e hw hR' hK hgP (by rw [ha' _ (by omega) (by omega)]; exact a1) (by rw [ha' _ (by omega) (by omega)]; exact a4) (by rw [ha' _ (by omega) (by omega), v7]; exact hgn) hgn hg1 hg2 rfl
      have hL : ldL μ (g + 1) + μ 183 (24 + g) = ldL μ g := by rw [ldL_step hgP, Int32.add_comm]
      have hby := (hR'.2.1 g hgP).2.2.2.1
      have ho2 := hlo' g (by omega)
      have hheld : Works_heldIn (zup τ (w + 16) g (wsh μ g (stp μ + 1))) p1 (nI g) (wsh μ g (stp μ + 1)) = some (hld μ g (wsh μ g (stp μ + 1))) := by
        refine Works_heldIn_e (hR'.fr (lo := w) (hi := w + 16) (fun a h => zup_ne (by omega)) hK.2.2.1.2 (by omega)) hK hgP _
      unfold Water_moveGates_l10
      rw [hg]
      simp (disch := omega) only [zgt_e, zpt_e, zlt_e, zrd_e, zwr_e, zelr_e, znz_e, zcp_e, zlit, nI_add, nI_mul, nI_sub, nI_div, ↓irem_f, irem_e, Nat.zero_add, Nat.add_zero, obs, zb_t, zb_f, nI_eqt, nI_eqf, nI_let, nI_lef, nI_ltt, nI_ltf, nI_m1, nI_n1, ↓reduceIte, zup_ne, zup_miss, zup_hit, zbo_1, zbo_0, reduceCtorEq, sel_l, sel_r, Nat.reduceAdd, Nat.reduceSub, Nat.reduceMul, Nat.add_sub_cancel, t3, hL, t0, hdem, hwish, hby, hheld, ho2, ↓mn_f, ↓mx_f]
      refine ⟨_, rfl, by omega, ?_, ?_, ?_, ?_, ?_⟩
      · show nI g + (-nI 1) = nI (nP μ - (j + 1)) - nI 1
        rw [show nP μ - (j + 1) = g from by omega, Int32.sub_eq_add_neg]
      · show ldL μ g = ldL μ (nP μ - (j + 1))
        rw [show nP μ - (j + 1) = g from by omega]
      · intro a h1 h2
        show zup (zup τ (w + 16) g _) (w + 2) g _ a = σ a
        rw [zup_ne h1, zup_ne h2, ha' a h1 h2]
      · intro p hp
        show zup (zup τ (w + 16) g _) (w + 2) g _ (w + 2) p = _
        rw [zup_miss (by omega), zup_ne (by omega)]
        exact hlo' p (by omega)
      · intro p hp hp2
        show zup (zup τ (w + 16) g _) (w + 2) g _ (w + 2) p = _ ∧ zup (zup τ (w + 16) g _) (w + 2) g _ (w + 16) p = _
        by_cases e : p = g
        · subst e
          rw [zup_hit, zup_ne (by omega), zup_hit]
          exact ⟨rfl, rfl⟩
        · obtain ⟨x1, x2⟩ := hhi' p hp (by omega)
          rw [zup_miss e, zup_ne (by omega), zup_ne (by omega), zup_miss e]
          exact ⟨x1, x2⟩
    · rintro ⟨τ, x3, x4⟩ ⟨_, hx4, hx3, ha, hlo, hhi⟩
      obtain rfl : x4 = _ := hx4
      unfold Water_moveGates_l10
      have e : (nI (nP μ - nP μ) - nI 1 < nI 0) = True := by
        rw [Nat.sub_self]; exact eq_true (by decide)
      simp (disch := omega) only [zlit, e, ↓reduceIte]
      exact ⟨_, rfl, ha, fun p hp => hhi p hp (by omega)⟩
  obtain ⟨⟨τ, x3, x4⟩, e, ha, hh⟩ := hl
  have ha' : ∀ a, a ≠ w + 2 → a ≠ w + 16 → τ a = σ a := ha
  have hh' : ∀ p, p < nP μ → τ (w + 2) p = μ 183 (8 + p) + mvN μ p ∧ τ (w + 16) p = wsh μ p (stp μ + 1) := hh
  refine ⟨τ, ?_, fun a h => ha' a (by omega) (by omega), ⟨?_, ?_, ?_, ?_, ?_⟩, fun p hp => (hh' p hp).2, ha'⟩
  · unfold Water_moveGates
    simp only [zgt_e, zlt_e, zlit, hP', e, obs]
  · intro p hp
    rw [st.e_nP] at hp
    obtain ⟨b1, b2, b3, b4⟩ := v1 p hp
    rw [ha' (w + 1) (by omega) (by omega), ha' (w + 3) (by omega) (by omega), ha' (w + 4) (by omega) (by omega), b1, b3, b4, (hh' p hp).1, m2 p, m2 (8 + p), m2 (24 + p), m2 (16 + p), if_neg (by omega), if_pos (by omega), if_neg (by omega), if_neg (by omega), show 8 + p - 8 = p from by omega]
    exact ⟨rfl, rfl, rfl, rfl⟩
  · intro o ho
    rw [st.e_nO] at ho
    rw [ha' (w + 6) (by omega) (by omega), ha' (w + 7) (by omega) (by omega), m2, m2, if_neg (by omega), if_neg (by omega)]
    exact v2 o ho
  · intro i hi
    rw [ha' (w + 8) (by omega) (by omega), m2, if_neg (by omega)]
    exact v3 i hi
  · rw [ha' (w + 8) (by omega) (by omega), v4, st.e_nO]
    refine sm_congr (fun o ho => ?_)
    rw [m2, if_neg (by omega)]
  · rw [ha' w (by omega) (by omega), m2, m2, m2, if_neg (by omega), if_neg (by omega), if_neg (by omega)]
    exact ⟨v5, v6, v7⟩
