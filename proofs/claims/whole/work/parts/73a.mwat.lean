/-! alarms and notes of a step of the reference; the step whole -/
theorem some_ite {α : Type} {c : Prop} [Decidable c] {a b : α} : some (if c then a else b) = if c then some a else some b := by split <;> rfl
def watQ (p : Nat) (σ : Sg) : Sg := zup σ 183 (32 + p) (stnd σ p)
def offW (σ : Sg) (p : Nat) : Bool := decide (¬ σ 183 (8 + p) = hld σ p (wsh σ p (stp σ + 1)))
def caus (σ : Sg) (p : Nat) : Int32 :=
  if stnd σ p = 2 then (if σ 192 p ≤ 0 then (if offW σ p then 7 else 8) else 6) else
  if σ 193 p = 1 then 1 else if wsh σ p (stp σ + 1) ≤ σ 172 (9 * p + 4) then (if offW σ p then 3 else if σ 183 (24 + p) ≤ 0 then 5 else 4) else 2
def shf3 (k : Nat) (σ : Sg) : Sg := zup σ 183 (207 + k) (σ 183 (207 + k + 3))
def keep0 (p : Nat) (σ : Sg) : Sg := zup (zup σ 183 (207 + 3 * (σ 183 205).toNatClampNeg) (σ 183 196)) 183 (207 + 3 * (σ 183 205).toNatClampNeg + 1) (nI p)
def keepS (p : Nat) (σ : Sg) : Sg :=
  zup (zup (keep0 p σ) 183 (207 + 3 * (σ 183 205).toNatClampNeg + 2) (caus (keep0 p σ) p)) 183 205 (σ 183 205 + 1)
def kepS (p : Nat) (σ : Sg) : Sg := if σ 183 205 = 40 then keepS p (zup (itS shf3 117 σ) 183 205 39) else keepS p σ
def watN (p : Nat) (σ : Sg) : Sg := if stnd σ p ≤ 0 ∨ stnd σ p = σ 183 (32 + p) then watQ p σ else kepS p (watQ p σ)
def watS (p : Nat) (σ : Sg) : Sg := if σ 171 26 = 0 then watN p σ else watQ p σ
def InvW (σ : Sg) : Prop := InvT σ ∧ ∃ kc, σ 183 205 = nI kc ∧ kc ≤ 40
theorem M_causeOf_e {σ : Sg} (hT : InvT σ) {p : Nat} (h : p < nP σ) : M_causeOf σ (nI p) = some (caus σ p) := by
  obtain ⟨hK, hO, ⟨hs, hs2⟩, g, hg, hg1, hg2⟩ := hT
  have hP8 := hK.1.2
  have hw : M_wanted σ (nI p) (nI (stp σ + 1)) = some (hld σ p (wsh σ p (stp σ + 1))) := M_wanted_e hK hO h (by omega) hg hg1 hg2
  have hw2 : M_wished σ (nI p) (nI (stp σ + 1)) = some (wsh σ p (stp σ + 1)) := M_wished_e hK hO h (by omega) hg hg1 hg2
  have key : ∀ b : Bool, M_causeOf_j34 σ (nI p) (nI (stp σ + 1)) (zb b) = some (if stnd σ p = 2 then (if σ 192 p ≤ 0 then (if b then 7 else 8) else 6) else
      if σ 193 p = 1 then 1 else if wsh σ p (stp σ + 1) ≤ σ 172 (9 * p + 4) then (if b then 3 else if σ 183 (24 + p) ≤ 0 then 5 else 4) else 2) := by
    intro b
    unfold M_causeOf_j34
    simp (disch := omega) only [zgt_e, zpt_e, zlt_e, zrd_e, zwr_e, zelr_e, znz_e, zcp_e, zlit, nI_add, nI_mul, nI_sub, nI_div, ↓irem_f, irem_e, Nat.zero_add, Nat.add_zero, obs, zb_t, zb_f, nI_eqt, nI_eqf, nI_let, nI_lef, nI_ltt, nI_ltf, nI_m1, nI_n1, ↓reduceIte, zup_ne, zup_miss, zup_hit, zbo_1, zbo_0, reduceCtorEq, sel_l, sel_r, Nat.reduceAdd, Nat.reduceSub, Nat.reduceMul, M_standOf_e, M_toldOf_e, hw2]
    cases b <;> simp (disch := omega) only [zgt_e, zpt_e, zlt_e, zrd_e, zwr_e, zelr_e, znz_e, zcp_e, zlit, nI_add, nI_mul, nI_sub, nI_div, ↓irem_f, irem_e, Nat.zero_add, Nat.add_zero, obs, zb_t, zb_f, nI_eqt, nI_eqf, nI_let, nI_lef, nI_ltt, nI_ltf, nI_m1, nI_n1, ↓reduceIte, zup_ne, zup_miss, zup_hit, zbo_1, zbo_0, reduceCtorEq, sel_l, sel_r, Nat.reduceAdd, Nat.reduceSub, Nat.reduceMul, Bool.false_eq_true, some_ite] <;> simp only [some_ite]
  unfold M_causeOf caus offW
  by_cases c : σ 183 (8 + p) = hld σ p (wsh σ p (stp σ + 1))
  · have k1 := key false
    simp (disch := omega) only [zgt_e, zpt_e, zlt_e, zrd_e, zwr_e, zelr_e, znz_e, zcp_e, zlit, nI_add, nI_mul, nI_sub, nI_div, ↓irem_f, irem_e, Nat.zero_add, Nat.add_zero, obs, zb_t, zb_f, nI_eqt, nI_eqf, nI_let, nI_lef, nI_ltt, nI_ltf, nI_m1, nI_n1, ↓reduceIte, zup_ne, zup_miss, zup_hit, zbo_1, zbo_0, reduceCtorEq, sel_l, sel_r, Nat.reduceAdd, Nat.reduceSub, Nat.reduceMul, hs, hw, c] at k1 ⊢
    rw [k1]
    simp only [not_true_eq_false, decide_false, Bool.false_eq_true, ↓reduceIte]
  · have k1 := key true
    simp (disch := omega) only [zgt_e, zpt_e, zlt_e, zrd_e, zwr_e, zelr_e, znz_e, zcp_e, zlit, nI_add, nI_mul, nI_sub, nI_div, ↓irem_f, irem_e, Nat.zero_add, Nat.add_zero, obs, zb_t, zb_f, nI_eqt, nI_eqf, nI_let, nI_lef, nI_ltt, nI_ltf, nI_m1, nI_n1, ↓reduceIte, zup_ne, zup_miss, zup_hit, zbo_1, zbo_0, reduceCtorEq, sel_l, sel_r, Nat.reduceAdd, Nat.reduceSub, Nat.reduceMul, hs, hw, c] at k1 ⊢
    rw [k1]
    simp only [not_false_eq_true, decide_true, ↓reduceIte]
theorem watQ_stat {p : Nat} (h : p < 8) (σ : Sg) : Stat σ (watQ p σ) := Stat.up183 (by omega)
theorem keep0_stat {p kc : Nat} {σ : Sg} (hk : σ 183 205 = nI kc) (hk2 : kc ≤ 40) : Stat σ (keep0 p σ) := by
  unfold keep0
  rw [hk, nI_clamp (by omega)]
  exact (Stat.up183 (by omega)).trans (Stat.up183 (by omega))
theorem keepS_stat {p kc : Nat} {σ : Sg} (hk : σ 183 205 = nI kc) (hk2 : kc ≤ 40) : Stat σ (keepS p σ) := by
  unfold keepS
  have h0 := keep0_stat (p := p) hk hk2
  rw [hk, nI_clamp (by omega)]
  exact h0.trans ((Stat.up183 (by omega)).trans (Stat.up183 (by omega)))
theorem keepS_kc {p kc : Nat} {σ : Sg} (hk : σ 183 205 = nI kc) (hk2 : kc ≤ 39) : keepS p σ 183 205 = nI (kc + 1) := by
  unfold keepS
  rw [zup_hit, hk]
  exact nI_1 kc
theorem shf3_stat (σ : Sg) : Stat σ (itS shf3 117 σ) := Stat.it (fun j τ hj => Stat.up183 (by omega))
theorem kepS_W {p : Nat} {σ : Sg} (hW : InvW σ) : Stat σ (kepS p σ) ∧ InvW (kepS p σ) := by
  obtain ⟨hT, kc, hk, hk2⟩ := hW
  unfold kepS
  by_cases c : σ 183 205 = 40
  · rw [if_pos c]
    have h39 : zup (itS shf3 117 σ) 183 205 39 183 205 = nI 39 := zup_hit
    have s1 : Stat σ (zup (itS shf3 117 σ) 183 205 39) := (shf3_stat σ).trans (Stat.up183 (by omega))
    have s2 := s1.trans (keepS_stat (p := p) h39 (by omega))
    exact ⟨s2, s2.e_InvT hT, 40, keepS_kc h39 (by omega), by omega⟩
  · rw [if_neg c]
    have hk3 : kc ≤ 39 := by
      rcases Nat.lt_or_ge kc 40 with h | h
      · omega
      · exact absurd (by rw [hk, show kc = 40 from by omega]; rfl) c
    have s2 := keepS_stat (p := p) hk hk2
    exact ⟨s2, s2.e_InvT hT, kc + 1, keepS_kc hk hk3, by omega⟩
theorem watQ_W {p : Nat} (h : p < 8) {σ : Sg} (hW : InvW σ) : InvW (watQ p σ) := by
  obtain ⟨hT, kc, hk, hk2⟩ := hW
  refine ⟨(watQ_stat h σ).e_InvT hT, kc, ?_, hk2⟩
  unfold watQ
  rw [zup_miss (by omega)]
  exact hk
theorem watS_W {p : Nat} (h : p < 8) {σ : Sg} (hW : InvW σ) : Stat σ (watS p σ) ∧ InvW (watS p σ) := by
  unfold watS watN
  have h1 := watQ_W h hW
  have h2 := watQ_stat h σ
  have h3 := kepS_W (p := p) h1
  split
  · split
    · exact ⟨h2, h1⟩
    · exact ⟨h2.trans h3.1, h3.2⟩
  · exact ⟨h2, h1⟩
theorem M_keep_e {σ : Sg} (hW : InvW σ) {p : Nat} (h : p < nP σ) (hk9 : ¬ σ 183 205 = nI 40) : M_watches_j116 σ (nI p) = some (keepS p σ) := by
  obtain ⟨hT, kc, hk, hk2⟩ := hW
  have hk3 : kc ≤ 39 := by
    rcases Nat.lt_or_ge kc 40 with h | h
    · omega
    · exact absurd (by rw [hk, show kc = 40 from by omega]) hk9
  have s0 := keep0_stat (p := p) hk hk2
  have hc : M_causeOf (keep0 p σ) (nI p) = some (caus (keep0 p σ) p) := M_causeOf_e (s0.e_InvT hT) (by rw [s0.e_nP]; exact h)
  have e : (nI kc).toNatClampNeg = kc := nI_clamp (by omega)
  have e0 : zup (zup σ 183 (207 + 3 * kc) (σ 183 196)) 183 (207 + 3 * kc + 1) (nI p) = keep0 p σ := by unfold keep0; rw [hk, e]
  have e2 : keep0 p σ 183 205 = nI kc := by rw [← e0, zup_miss (by omega), zup_miss (by omega), hk]
  unfold M_watches_j116 keepS
  simp (disch := omega) only [zgt_e, zpt_e, zlt_e, zrd_e, zwr_e, zelr_e, znz_e, zcp_e, zlit, nI_add, nI_mul, nI_sub, nI_div, ↓irem_f, irem_e, Nat.zero_add, Nat.add_zero, obs, zb_t, zb_f, nI_eqt, nI_eqf, nI_let, nI_lef, nI_ltt, nI_ltf, nI_m1, nI_n1, ↓reduceIte, zup_ne, zup_miss, zup_hit, zbo_1, zbo_0, reduceCtorEq, sel_l, sel_r, Nat.reduceAdd, Nat.reduceSub, Nat.reduceMul, hk, e, e0, hc, e2]
theorem shf3_205 (σ : Sg) : ∀ n, itS shf3 n σ 183 205 = σ 183 205
  | 0 => rfl
  | n + 1 => by rw [show itS shf3 (n + 1) σ = zup (itS shf3 n σ) 183 (207 + n) (itS shf3 n σ 183 (207 + n + 3)) from rfl, zup_miss (by omega), shf3_205 σ n]
theorem M_shf_e (σ : Sg) (x : Int32) : ∃ Z, Z = itS shf3 117 σ ∧ zit (fun (s : (Sg × Int32)) => M_watches_l67 s.1 x s.2) zFU (σ, nI 0) = some (Z, nI 117) :=
  ⟨_, rfl, (mloop (n := 117) (fun _ => True) (by omega) trivial (fun j υ hj _ => ⟨by
      unfold M_watches_l67 shf3
      simp (disch := omega) only [zgt_e, zpt_e, zlt_e, zrd_e, zwr_e, zelr_e, znz_e, zcp_e, zlit, nI_add, nI_mul, nI_sub, nI_div, ↓irem_f, irem_e, Nat.zero_add, Nat.add_zero, obs, zb_t, zb_f, nI_eqt, nI_eqf, nI_let, nI_lef, nI_ltt, nI_ltf, nI_m1, nI_n1, ↓reduceIte, zup_ne, zup_miss, zup_hit, zbo_1, zbo_0, reduceCtorEq, sel_l, sel_r, Nat.reduceAdd, Nat.reduceSub, Nat.reduceMul], trivial⟩) (fun υ _ => by
      unfold M_watches_l67
      simp (disch := omega) only [zgt_e, zpt_e, zlt_e, zrd_e, zwr_e, zelr_e, znz_e, zcp_e, zlit, nI_add, nI_mul, nI_sub, nI_div, ↓irem_f, irem_e, Nat.zero_add, Nat.add_zero, obs, zb_t, zb_f, nI_eqt, nI_eqf, nI_let, nI_lef, nI_ltt, nI_ltf, nI_m1, nI_n1, ↓reduceIte, zup_ne, zup_miss, zup_hit, zbo_1, zbo_0, reduceCtorEq, sel_l, sel_r, Nat.reduceAdd, Nat.reduceSub, Nat.reduceMul])).1⟩
