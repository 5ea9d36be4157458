/-! a step of the reference -/
theorem mloop {b : Sg × Int32 → Option ((Sg × Int32) ⊕ (Sg × Int32))} {f : Nat → Sg → Sg} {n : Nat} {σ : Sg} (I : Sg → Prop) (hn : n < 30000) (hI : I σ)
    (hs : ∀ j τ, j < n → I τ → b (τ, nI j) = some (.inl (f j τ, nI (j + 1))) ∧ I (f j τ)) (he : ∀ τ, I τ → b (τ, nI n) = some (.inr (τ, nI n))) :
    zit b zFU (σ, nI 0) = some (itS f n σ, nI n) ∧ I (itS f n σ) := by
  have hi : ∀ j, j ≤ n → I (itS f j σ) := by
    intro j
    induction j with
    | zero => intro _; exact hI
    | succ j ih => intro h; exact (hs j _ (by omega) (ih (by omega))).2
  refine ⟨?_, hi n (Nat.le_refl n)⟩
  exact zit_eq (fun j => (itS f j σ, nI j)) _ n 0 (by omega) (fun j _ hj => (hs j _ hj (hi j (by omega))).1) (he _ (hi n (Nat.le_refl n))) zFU 0 (by rw [zFU_e]; omega) (by omega) (by omega)
/-- what a step leaves as it is -/
def Stat (σ σ' : Sg) : Prop := (∀ a, a ≠ 183 → a ≠ 189 → a ≠ 190 → a ≠ 191 → a ≠ 192 → a ≠ 193 → σ' a = σ a) ∧ ∀ k, (16 ≤ k ∧ k < 32) ∨ (148 ≤ k ∧ k < 200) → σ' 183 k = σ 183 k
theorem Stat.refl (σ : Sg) : Stat σ σ := ⟨fun _ _ _ _ _ _ _ => rfl, fun _ _ => rfl⟩
theorem Stat.trans {σ τ υ : Sg} (h : Stat σ τ) (g : Stat τ υ) : Stat σ υ := ⟨fun a h1 h2 h3 h4 h5 h6 => (g.1 a h1 h2 h3 h4 h5 h6).trans (h.1 a h1 h2 h3 h4 h5 h6), fun k hk => (g.2 k hk).trans (h.2 k hk)⟩
theorem Stat.it {f : Nat → Sg → Sg} {σ : Sg} : ∀ {n : Nat}, (∀ j τ, j < n → Stat τ (f j τ)) → Stat σ (itS f n σ)
  | 0, _ => Stat.refl σ
  | n + 1, h => (Stat.it (fun j τ hj => h j τ (by omega))).trans (h n _ (by omega))
theorem Stat.up183 {σ : Sg} {k : Nat} {v : Int32} (h : ¬ ((16 ≤ k ∧ k < 32) ∨ (148 ≤ k ∧ k < 200))) : Stat σ (zup σ 183 k v) :=
  ⟨fun a h1 _ _ _ _ _ => zup_ne h1, fun j hj => zup_miss (fun e => h (e ▸ hj))⟩
theorem Stat.upT {σ : Sg} {a k : Nat} {v : Int32} (h : a = 189 ∨ a = 190 ∨ a = 191 ∨ a = 192 ∨ a = 193) : Stat σ (zup σ a k v) :=
  ⟨fun b _ h2 h3 h4 h5 h6 => zup_ne (by omega), fun j _ => congrFun (zup_ne (by omega)) j⟩
theorem Stat.e_nP {σ τ : Sg} (h : Stat σ τ) : nP τ = nP σ := by unfold nP; rw [h.1 171 (by decide) (by decide) (by decide) (by decide) (by decide) (by decide)]
theorem Stat.e_nO {σ τ : Sg} (h : Stat σ τ) : nO τ = nO σ := by unfold nO; rw [h.1 171 (by decide) (by decide) (by decide) (by decide) (by decide) (by decide)]
theorem Stat.e_nT {σ τ : Sg} (h : Stat σ τ) : nT τ = nT σ := by unfold nT; rw [h.1 171 (by decide) (by decide) (by decide) (by decide) (by decide) (by decide)]
theorem Stat.e_tl {σ τ : Sg} (h : Stat σ τ) : tl τ = tl σ := by funext p j; unfold tl; rw [h.1 172 (by decide) (by decide) (by decide) (by decide) (by decide) (by decide)]
theorem Stat.e_opl {σ τ : Sg} (h : Stat σ τ) : opl τ = opl σ := by funext p; unfold opl; rw [h.1 173 (by decide) (by decide) (by decide) (by decide) (by decide) (by decide)]
theorem Stat.e_tk {σ τ : Sg} (h : Stat σ τ) : tk τ = tk σ := by funext p; unfold tk; rw [h.1 173 (by decide) (by decide) (by decide) (by decide) (by decide) (by decide)]
theorem Stat.e_ev {σ τ : Sg} (h : Stat σ τ) : ev τ = ev σ := by funext p; unfold ev; rw [h.1 174 (by decide) (by decide) (by decide) (by decide) (by decide) (by decide)]
theorem Stat.e_sz {σ τ : Sg} (h : Stat σ τ) : sz τ = sz σ := by funext p; unfold sz; rw [h.1 174 (by decide) (by decide) (by decide) (by decide) (by decide) (by decide)]
theorem Stat.e_nC {σ τ : Sg} (h : Stat σ τ) : nC τ = nC σ := by unfold nC; rw [h.2 199 (by omega)]
theorem Stat.e_stp {σ τ : Sg} (h : Stat σ τ) : stp τ = stp σ := by unfold stp; rw [h.2 196 (by omega)]
theorem Stat.r171 {σ τ : Sg} (h : Stat σ τ) : τ 171 = σ 171 := h.1 171 (by decide) (by decide) (by decide) (by decide) (by decide) (by decide)
theorem Stat.r172 {σ τ : Sg} (h : Stat σ τ) : τ 172 = σ 172 := h.1 172 (by decide) (by decide) (by decide) (by decide) (by decide) (by decide)
theorem Stat.r173 {σ τ : Sg} (h : Stat σ τ) : τ 173 = σ 173 := h.1 173 (by decide) (by decide) (by decide) (by decide) (by decide) (by decide)
theorem Stat.r174 {σ τ : Sg} (h : Stat σ τ) : τ 174 = σ 174 := h.1 174 (by decide) (by decide) (by decide) (by decide) (by decide) (by decide)
theorem Stat.e_InvK {σ τ : Sg} (h : Stat σ τ) (hK : InvK σ) : InvK τ := by
  unfold InvK at hK ⊢
  rw [h.e_nP, h.e_nO, h.e_nT, h.e_tl, h.e_opl, h.e_tk, h.e_ev, h.e_sz, h.r171, h.r172, h.r173, h.r174]
  exact hK
theorem Stat.e_oo {σ τ : Sg} (h : Stat σ τ) {k : Nat} (hk : k < 16) : oo τ k = oo σ k := by unfold oo; rw [h.2 _ (by omega)]
theorem Stat.e_ofr {σ τ : Sg} (h : Stat σ τ) {k : Nat} (hk : k < 16) : ofr τ k = ofr σ k := by unfold ofr; rw [h.2 _ (by omega)]
theorem Stat.e_oma {σ τ : Sg} (h : Stat σ τ) {k : Nat} (hk : k < 16) : oma τ k = oma σ k := by unfold oma; rw [h.2 _ (by omega)]
theorem Stat.e_InvO {σ τ : Sg} (h : Stat σ τ) (hO : InvO σ) : InvO τ := by
  obtain ⟨h1, h2, h3⟩ := hO
  unfold InvO
  rw [h.e_nC, h.2 199 (by omega), h.e_nO]
  refine ⟨h1, h2, fun k hk => ?_⟩
  rw [h.e_oo (by omega), h.e_ofr (by omega), h.e_oma (by omega), h.2 _ (by omega), h.2 _ (by omega), h.2 _ (by omega)]
  exact h3 k hk
theorem Stat.e_opn {σ τ : Sg} (h : Stat σ τ) (hO : InvO σ) (o t : Nat) : opn τ o t = opn σ o t := by
  have h16 := hO.2.1
  unfold opn
  rw [h.e_nC, h.e_nT]
  congr 1
  · refine anyB_congr (fun j hj => ?_)
    unfold opO
    rw [h.e_oo (by omega), h.e_ofr (by omega), h.e_oma (by omega)]
  · refine anyB_congr (fun j hj => ?_)
    unfold opT
    rw [h.e_ev, h.e_sz, h.r174]
theorem Stat.e_nd {σ τ : Sg} (h : Stat σ τ) (g : Nat) : ∀ j : Nat, nd τ g j = nd σ g j
  | 0 => rfl
  | j + 1 => by rw [nd_succ, nd_succ, Stat.e_nd h g j, h.e_tl]
theorem Stat.e_ldS {σ τ : Sg} (h : Stat σ τ) (hK : InvK σ) (hO : InvO σ) (g t : Nat) : ldS τ g t = ldS σ g t := by
  have hP := hK.1.2
  unfold ldS ldL ldD
  rw [h.e_nP, h.e_nO]
  congr 1
  · refine sm_congr (fun i hi => ?_)
    rw [h.2 _ (by omega)]
  · refine sm_congr (fun i hi => ?_)
    rw [h.e_opl, h.e_nd, h.e_opn hO, h.r173]
theorem Stat.e_mid {σ τ : Sg} (h : Stat σ τ) (p : Nat) : mid τ p = mid σ p := by unfold mid; rw [h.r172]
theorem Stat.e_hld {σ τ : Sg} (h : Stat σ τ) (p : Nat) (x : Int32) : hld τ p x = hld σ p x := by unfold hld; rw [h.r172]
theorem Stat.e_wsh {σ τ : Sg} (h : Stat σ τ) (hK : InvK σ) (hO : InvO σ) {p : Nat} (hp : p < 8) (hv : τ 183 p = σ 183 p) (t : Nat) : wsh τ p t = wsh σ p t := by
  unfold wsh
  rw [h.2 (16 + p) (by omega), h.e_ldS hK hO, h.e_mid, hv, h.2 198 (by omega)]
/-- what a step wants of the reference's state -/
def InvT (σ : Sg) : Prop := InvK σ ∧ InvO σ ∧ (σ 183 196 = nI (stp σ) ∧ stp σ ≤ 20000) ∧ ∃ g, σ 183 198 = nI g ∧ 1 ≤ g ∧ g ≤ 99
theorem Stat.e_InvT {σ τ : Sg} (h : Stat σ τ) (hT : InvT σ) : InvT τ := by
  obtain ⟨h1, h2, h3, h4⟩ := hT
  refine ⟨h.e_InvK h1, h.e_InvO h2, ?_, ?_⟩
  · rw [h.e_stp, h.2 196 (by omega)]; exact h3
  · rw [h.2 198 (by omega)]; exact h4
def shiftS (b k : Nat) (σ : Sg) : Sg := zup σ 183 (b + k) (σ 183 (b + k + 1))
def arrS (p : Nat) (σ : Sg) : Sg :=
  zup (itS (shiftS (40 + 10 * p)) 9 (zup (zup σ 183 p (σ 183 p + σ 183 (40 + 10 * p))) 189 p (σ 189 p + σ 183 (40 + 10 * p)))) 183 (40 + 10 * p + 9) 0
def leakS (p : Nat) (σ : Sg) : Sg :=
  zup (zup σ 183 p (σ 183 p - mn (σ 183 (24 + p)) (σ 183 p))) 183 202 (σ 183 202 + mn (σ 183 (24 + p)) (σ 183 p))
def takN (o : Nat) (σ : Sg) : Int32 := mn (σ 173 (2 * o + 1)) (σ 183 (opl σ o))
def takS (o : Nat) (σ : Sg) : Sg := if opn σ o (stp σ) = true then
  zup (zup (zup (zup (zup σ 183 (opl σ o) (σ 183 (opl σ o) - takN o σ)) 190 (opl σ o) (σ 190 (opl σ o) + takN o σ)) 183 (128 + o) (σ 183 (128 + o) + takN o σ)) 183 201 (σ 183 201 + takN o σ)) 183 (138 + o) (σ 183 (138 + o) + (σ 173 (2 * o + 1) - takN o σ)) else σ
def pasN (p : Nat) (σ : Sg) : Int32 := mn (σ 183 (8 + p)) (if p = 0 then σ 183 197 else σ 183 (p - 1))
def pasA (p : Nat) (σ : Sg) : Sg :=
  zup (zup σ 193 p (if σ 183 (8 + p) ≤ pasN p σ then 0 else 1)) 183 (120 + p) (pasN p σ)
def pasB (p : Nat) (σ : Sg) : Sg := if p = 0 then zup (pasA p σ) 183 200 (σ 183 200 + pasN p σ) else
  zup (zup (pasA p σ) 183 (p - 1) (σ 183 (p - 1) - pasN p σ)) 190 (p - 1) (σ 190 (p - 1) + pasN p σ)
def pasS (p : Nat) (σ : Sg) : Sg := if tl σ p 3 = 0 then
  zup (zup (pasB p σ) 183 p (σ 183 p + pasN p σ)) 189 p (σ 189 p + pasN p σ) else
  zup (pasB p σ) 183 (40 + 10 * p + tl σ p 3 - 1) (σ 183 (40 + 10 * p + tl σ p 3 - 1) + pasN p σ)
def ovrN (p : Nat) (σ : Sg) : Int32 := mx 0 (σ 183 p - σ 172 (9 * p + 2))
def ovrS (p : Nat) (σ : Sg) : Sg := if p + 1 = nP σ then
  zup (zup (zup σ 183 p (σ 183 p - ovrN p σ)) 190 p (σ 190 p + ovrN p σ)) 183 203 (σ 183 203 + ovrN p σ) else
  zup (zup (zup (zup (zup σ 183 p (σ 183 p - ovrN p σ)) 190 p (σ 190 p + ovrN p σ)) 183 (p + 1) (σ 183 (p + 1) + ovrN p σ)) 189 (p + 1) (σ 189 (p + 1) + ovrN p σ)) 192 (p + 1) (ovrN p σ)
def movS (p : Nat) (σ : Sg) : Sg := zup σ 183 (8 + p) (σ 183 (8 + p) + mx (-(σ 172 (9 * p + 5))) (mn (σ 172 (9 * p + 5)) (hld σ p (wsh σ p (stp σ + 1)) - σ 183 (8 + p))))
theorem shift_at (b : Nat) (σ : Sg) : ∀ (n j : Nat), itS (shiftS b) n σ 183 j = if b ≤ j ∧ j < b + n then σ 183 (j + 1) else σ 183 j
  | 0, j => by
    rw [if_neg (by omega)]
    rfl
  | n + 1, j => by
    rw [show itS (shiftS b) (n + 1) σ = zup (itS (shiftS b) n σ) 183 (b + n) (itS (shiftS b) n σ 183 (b + n + 1)) from rfl]
    by_cases e : j = b + n
    · subst e
      rw [zup_hit, shift_at b σ n, if_neg (by omega), if_pos (by omega)]
    · rw [zup_miss e, shift_at b σ n]
      by_cases c : b ≤ j ∧ j < b + n
      · rw [if_pos c, if_pos (by omega)]
      · rw [if_neg c, if_neg (by omega)]
theorem shift_ne (b : Nat) (σ : Sg) {a : Nat} (ha : a ≠ 183) : ∀ (n : Nat), itS (shiftS b) n σ a = σ a
  | 0 => rfl
  | n + 1 => by
    rw [show itS (shiftS b) (n + 1) σ = zup (itS (shiftS b) n σ) 183 (b + n) (itS (shiftS b) n σ 183 (b + n + 1)) from rfl]
    rw [zup_ne ha, shift_ne b σ ha n]
theorem shift_stat {b n : Nat} (σ : Sg) (h : 32 ≤ b ∧ b + n ≤ 148 ∨ 200 ≤ b) : Stat σ (itS (shiftS b) n σ) := Stat.it (fun j τ hj => Stat.up183 (by omega))
theorem arrS_stat {p : Nat} (h : p < 8) (σ : Sg) : Stat σ (arrS p σ) := by
  unfold arrS
  exact ((Stat.up183 (by omega)).trans (Stat.upT (by omega))).trans ((shift_stat _ (by omega)).trans (Stat.up183 (by omega)))
theorem leakS_stat {p : Nat} (h : p < 8) (σ : Sg) : Stat σ (leakS p σ) := (Stat.up183 (by omega)).trans (Stat.up183 (by omega))
theorem takS_stat {o : Nat} (h : o < 10) {σ : Sg} (hp : opl σ o < 8) : Stat σ (takS o σ) := by
  unfold takS
  split
  · exact (Stat.up183 (by omega)).trans ((Stat.upT (by omega)).trans ((Stat.up183 (by omega)).trans ((Stat.up183 (by omega)).trans (Stat.up183 (by omega)))))
  · exact Stat.refl σ
theorem pasB_stat {p : Nat} (h : p < 8) (σ : Sg) : Stat σ (pasB p σ) := by
  have h1 : Stat σ (pasA p σ) := (Stat.upT (by omega)).trans (Stat.up183 (by omega))
  unfold pasB
  split
  · exact h1.trans (Stat.up183 (by omega))
  · exact h1.trans ((Stat.up183 (by omega)).trans (Stat.upT (by omega)))
theorem pasS_stat {p : Nat} (h : p < 8) {σ : Sg} (hd : tl σ p 3 ≤ 9) : Stat σ (pasS p σ) := by
  unfold pasS
  split
  · exact (pasB_stat h σ).trans ((Stat.up183 (by omega)).trans (Stat.upT (by omega)))
  · exact (pasB_stat h σ).trans (Stat.up183 (by omega))
theorem ovrS_stat {p : Nat} (h : p < 8) {σ : Sg} (hP : p + 1 ≤ nP σ) (hP8 : nP σ ≤ 8) : Stat σ (ovrS p σ) := by
  unfold ovrS
  split
  · exact (Stat.up183 (by omega)).trans ((Stat.upT (by omega)).trans (Stat.up183 (by omega)))
  · exact (Stat.up183 (by omega)).trans ((Stat.upT (by omega)).trans ((Stat.up183 (by omega)).trans ((Stat.upT (by omega)).trans (Stat.upT (by omega)))))
theorem movS_stat {p : Nat} (h : p < 8) (σ : Sg) : Stat σ (movS p σ) := Stat.up183 (by omega)
theorem M_arrives_e {σ : Sg} {p : Nat} (h : p < 8) : M_arrives σ (nI p) = some (arrS p σ) := by
  have hl : ∀ τ : Sg, zit (fun (s : (Sg × Int32)) => M_arrives_l42 s.1 (nI (40 + 10 * p)) s.2) zFU (τ, nI 0) = some (itS (shiftS (40 + 10 * p)) 9 τ, nI 9) := fun τ =>
    (mloop (n := 9) (fun _ => True) (by omega) trivial (fun j υ hj _ => ⟨by
      unfold M_arrives_l42 shiftS
      simp (disch := omega) only [zgt_e, zpt_e, zlt_e, zrd_e, zwr_e, zelr_e, znz_e, zcp_e, zlit, nI_add, nI_mul, nI_sub, nI_div, ↓irem_f, irem_e, Nat.zero_add, Nat.add_zero, obs, zb_t, zb_f, nI_eqt, nI_eqf, nI_let, nI_lef, nI_ltt, nI_ltf, nI_m1, nI_n1, ↓reduceIte, zup_ne, zup_miss, zup_hit, zbo_1, zbo_0, reduceCtorEq, sel_l, sel_r, Nat.reduceAdd, Nat.reduceSub, Nat.reduceMul], trivial⟩) (fun υ _ => by
      unfold M_arrives_l42
      simp (disch := omega) only [zgt_e, zpt_e, zlt_e, zrd_e, zwr_e, zelr_e, znz_e, zcp_e, zlit, nI_add, nI_mul, nI_sub, nI_div, ↓irem_f, irem_e, Nat.zero_add, Nat.add_zero, obs, zb_t, zb_f, nI_eqt, nI_eqf, nI_let, nI_lef, nI_ltt, nI_ltf, nI_m1, nI_n1, ↓reduceIte, zup_ne, zup_miss, zup_hit, zbo_1, zbo_0, reduceCtorEq, sel_l, sel_r, Nat.reduceAdd, Nat.reduceSub, Nat.reduceMul])).1
  unfold M_arrives arrS
  simp (disch := omega) only [zgt_e, zpt_e, zlt_e, zrd_e, zwr_e, zelr_e, znz_e, zcp_e, zlit, nI_add, nI_mul, nI_sub, nI_div, ↓irem_f, irem_e, Nat.zero_add, Nat.add_zero, obs, zb_t, zb_f, nI_eqt, nI_eqf, nI_let, nI_lef, nI_ltt, nI_ltf, nI_m1, nI_n1, ↓reduceIte, zup_ne, zup_miss, zup_hit, zbo_1, zbo_0, reduceCtorEq, sel_l, sel_r, Nat.reduceAdd, Nat.reduceSub, Nat.reduceMul, hl]
  rfl
theorem M_leaksOut_e {σ : Sg} {p : Nat} (h : p < 8) : M_leaksOut σ (nI p) = some (leakS p σ) := by
  unfold M_leaksOut leakS
  simp (disch := omega) only [zgt_e, zpt_e, zlt_e, zrd_e, zwr_e, zelr_e, znz_e, zcp_e, zlit, nI_add, nI_mul, nI_sub, nI_div, ↓irem_f, irem_e, Nat.zero_add, Nat.add_zero, obs, zb_t, zb_f, nI_eqt, nI_eqf, nI_let, nI_lef, nI_ltt, nI_ltf, nI_m1, nI_n1, ↓reduceIte, zup_ne, zup_miss, zup_hit, zbo_1, zbo_0, reduceCtorEq, sel_l, sel_r, Nat.reduceAdd, Nat.reduceSub, Nat.reduceMul, M_lesser_e]
theorem M_takes_e {σ : Sg} (hT : InvT σ) {o : Nat} (h : o < nO σ) : M_takes σ (nI o) = some (takS o σ) := by
  obtain ⟨hK, hO, ⟨hs, hs2⟩, _⟩ := hT
  have h10 := hK.2.1.2
  have hP8 := hK.1.2
  obtain ⟨o1, o2, o3, o4, o5⟩ := hK.2.2.2.2.2.1 o h
  unfold M_takes takS
  by_cases c : opn σ o (stp σ) = true
  · simp (disch := omega) only [zgt_e, zpt_e, zlt_e, zrd_e, zwr_e, zelr_e, znz_e, zcp_e, zlit, nI_add, nI_mul, nI_sub, nI_div, ↓irem_f, irem_e, Nat.zero_add, Nat.add_zero, obs, zb_t, zb_f, nI_eqt, nI_eqf, nI_let, nI_lef, nI_ltt, nI_ltf, nI_m1, nI_n1, ↓reduceIte, zup_ne, zup_miss, zup_hit, zbo_1, zbo_0, reduceCtorEq, sel_l, sel_r, Nat.reduceAdd, Nat.reduceSub, Nat.reduceMul, hs, M_isOpen_e hK hO, c, M_poolOf_e, M_takesOf_e, o1, M_lesser_e]
    rfl
  · have c' : opn σ o (stp σ) = false := by simpa using c
    simp (disch := omega) only [zgt_e, zpt_e, zlt_e, zrd_e, zwr_e, zelr_e, znz_e, zcp_e, zlit, nI_add, nI_mul, nI_sub, nI_div, ↓irem_f, irem_e, Nat.zero_add, Nat.add_zero, obs, zb_t, zb_f, nI_eqt, nI_eqf, nI_let, nI_lef, nI_ltt, nI_ltf, nI_m1, nI_n1, ↓reduceIte, zup_ne, zup_miss, zup_hit, zbo_1, zbo_0, reduceCtorEq, sel_l, sel_r, Nat.reduceAdd, Nat.reduceSub, Nat.reduceMul, hs, M_isOpen_e hK hO, c', Bool.false_eq_true]
theorem M_passes_e {σ : Sg} (hK : InvK σ) {p : Nat} (h : p < nP σ) : M_passes σ (nI p) = some (pasS p σ) := by
  have hP8 := hK.1.2
  have hd := (hK.2.2.2.2.1 p h).1
  have hd2 := (hK.2.2.2.1 p h 3 (by omega)).1
  have key : ∀ τ : Sg, τ 172 = σ 172 → M_passes_j117 τ (nI p) (pasN p σ) = some (if tl σ p 3 = 0 then
      zup (zup τ 183 p (τ 183 p + pasN p σ)) 189 p (τ 189 p + pasN p σ) else
      zup τ 183 (40 + 10 * p + tl σ p 3 - 1) (τ 183 (40 + 10 * p + tl σ p 3 - 1) + pasN p σ)) := by
    intro τ hτ
    unfold M_passes_j117
    by_cases c : tl σ p 3 = 0
    · simp (disch := omega) only [zgt_e, zpt_e, zlt_e, zrd_e, zwr_e, zelr_e, znz_e, zcp_e, zlit, nI_add, nI_mul, nI_sub, nI_div, ↓irem_f, irem_e, Nat.zero_add, Nat.add_zero, obs, zb_t, zb_f, nI_eqt, nI_eqf, nI_let, nI_lef, nI_ltt, nI_ltf, nI_m1, nI_n1, ↓reduceIte, zup_ne, zup_miss, zup_hit, zbo_1, zbo_0, reduceCtorEq, sel_l, sel_r, Nat.reduceAdd, Nat.reduceSub, Nat.reduceMul, M_toldOf_e, hτ, hd2, c]
    · simp (disch := omega) only [zgt_e, zpt_e, zlt_e, zrd_e, zwr_e, zelr_e, znz_e, zcp_e, zlit, nI_add, nI_mul, nI_sub, nI_div, ↓irem_f, irem_e, Nat.zero_add, Nat.add_zero, obs, zb_t, zb_f, nI_eqt, nI_eqf, nI_let, nI_lef, nI_ltt, nI_ltf, nI_m1, nI_n1, ↓reduceIte, zup_ne, zup_miss, zup_hit, zbo_1, zbo_0, reduceCtorEq, sel_l, sel_r, Nat.reduceAdd, Nat.reduceSub, Nat.reduceMul, M_toldOf_e, hτ, hd2, c]
  have key2 : ∀ y : Int32, mn (σ 183 (8 + p)) y = pasN p σ → M_passes_j34 σ (nI p) (σ 183 (8 + p)) y = some (pasS p σ) := by
    intro y hy
    unfold M_passes_j34 M_passes_j61 pasS pasB pasA
    by_cases c0 : p = 0
    · by_cases c1 : σ 183 (8 + p) ≤ pasN p σ
      · simp (disch := first | omega | (simp (disch := omega) only [zup_ne])) only [zgt_e, zpt_e, zlt_e, zrd_e, zwr_e, zelr_e, znz_e, zcp_e, zlit, nI_add, nI_mul, nI_sub, nI_div, ↓irem_f, irem_e, Nat.zero_add, Nat.add_zero, obs, zb_t, zb_f, nI_eqt, nI_eqf, nI_let, nI_lef, nI_ltt, nI_ltf, nI_m1, nI_n1, ↓reduceIte, zup_ne, zup_miss, zup_hit, zbo_1, zbo_0, reduceCtorEq, sel_l, sel_r, Nat.reduceAdd, Nat.reduceSub, Nat.reduceMul, M_lesser_e, hy, key, c0, c1]
        subst c0
        simp (disch := first | omega | (simp (disch := omega) only [zup_ne])) only [zgt_e, zpt_e, zlt_e, zrd_e, zwr_e, zelr_e, znz_e, zcp_e, zlit, nI_add, nI_mul, nI_sub, nI_div, ↓irem_f, irem_e, Nat.zero_add, Nat.add_zero, obs, zb_t, zb_f, nI_eqt, nI_eqf, nI_let, nI_lef, nI_ltt, nI_ltf, nI_m1, nI_n1, ↓reduceIte, zup_ne, zup_miss, zup_hit, zbo_1, zbo_0, reduceCtorEq, sel_l, sel_r, Nat.reduceAdd, Nat.reduceSub, Nat.reduceMul, M_lesser_e, hy, key, c1]
      · simp (disch := first | omega | (simp (disch := omega) only [zup_ne])) only [zgt_e, zpt_e, zlt_e, zrd_e, zwr_e, zelr_e, znz_e, zcp_e, zlit, nI_add, nI_mul, nI_sub, nI_div, ↓irem_f, irem_e, Nat.zero_add, Nat.add_zero, obs, zb_t, zb_f, nI_eqt, nI_eqf, nI_let, nI_lef, nI_ltt, nI_ltf, nI_m1, nI_n1, ↓reduceIte, zup_ne, zup_miss, zup_hit, zbo_1, zbo_0, reduceCtorEq, sel_l, sel_r, Nat.reduceAdd, Nat.reduceSub, Nat.reduceMul, M_lesser_e, hy, key, c0, c1]
        subst c0
        simp (disch := first | omega | (simp (disch := omega) only [zup_ne])) only [zgt_e, zpt_e, zlt_e, zrd_e, zwr_e, zelr_e, znz_e, zcp_e, zlit, nI_add, nI_mul, nI_sub, nI_div, ↓irem_f, irem_e, Nat.zero_add, Nat.add_zero, obs, zb_t, zb_f, nI_eqt, nI_eqf, nI_let, nI_lef, nI_ltt, nI_ltf, nI_m1, nI_n1, ↓reduceIte, zup_ne, zup_miss, zup_hit, zbo_1, zbo_0, reduceCtorEq, sel_l, sel_r, Nat.reduceAdd, Nat.reduceSub, Nat.reduceMul, M_lesser_e, hy, key, c1]
    · by_cases c1 : σ 183 (8 + p) ≤ pasN p σ
      · simp (disch := first | omega | (simp (disch := omega) only [zup_ne])) only [zgt_e, zpt_e, zlt_e, zrd_e, zwr_e, zelr_e, znz_e, zcp_e, zlit, nI_add, nI_mul, nI_sub, nI_div, ↓irem_f, irem_e, Nat.zero_add, Nat.add_zero, obs, zb_t, zb_f, nI_eqt, nI_eqf, nI_let, nI_lef, nI_ltt, nI_ltf, nI_m1, nI_n1, ↓reduceIte, zup_ne, zup_miss, zup_hit, zbo_1, zbo_0, reduceCtorEq, sel_l, sel_r, Nat.reduceAdd, Nat.reduceSub, Nat.reduceMul, M_lesser_e, hy, key, c0, c1]
      · simp (disch := first | omega | (simp (disch := omega) only [zup_ne])) only [zgt_e, zpt_e, zlt_e, zrd_e, zwr_e, zelr_e, znz_e, zcp_e, zlit, nI_add, nI_mul, nI_sub, nI_div, ↓irem_f, irem_e, Nat.zero_add, Nat.add_zero, obs, zb_t, zb_f, nI_eqt, nI_eqf, nI_let, nI_lef, nI_ltt, nI_ltf, nI_m1, nI_n1, ↓reduceIte, zup_ne, zup_miss, zup_hit, zbo_1, zbo_0, reduceCtorEq, sel_l, sel_r, Nat.reduceAdd, Nat.reduceSub, Nat.reduceMul, M_lesser_e, hy, key, c0, c1]
  unfold M_passes
  by_cases c0 : p = 0
  · have hy : mn (σ 183 (8 + p)) (σ 183 197) = pasN p σ := by unfold pasN; rw [if_pos c0]
    simp (disch := omega) only [zgt_e, zpt_e, zlt_e, zrd_e, zwr_e, zelr_e, znz_e, zcp_e, zlit, nI_add, nI_mul, nI_sub, nI_div, ↓irem_f, irem_e, Nat.zero_add, Nat.add_zero, obs, zb_t, zb_f, nI_eqt, nI_eqf, nI_let, nI_lef, nI_ltt, nI_ltf, nI_m1, nI_n1, ↓reduceIte, zup_ne, zup_miss, zup_hit, zbo_1, zbo_0, reduceCtorEq, sel_l, sel_r, Nat.reduceAdd, Nat.reduceSub, Nat.reduceMul, key2 _ hy]
  · have hy : mn (σ 183 (8 + p)) (σ 183 (p - 1)) = pasN p σ := by unfold pasN; rw [if_neg c0]
    simp (disch := omega) only [zgt_e, zpt_e, zlt_e, zrd_e, zwr_e, zelr_e, znz_e, zcp_e, zlit, nI_add, nI_mul, nI_sub, nI_div, ↓irem_f, irem_e, Nat.zero_add, Nat.add_zero, obs, zb_t, zb_f, nI_eqt, nI_eqf, nI_let, nI_lef, nI_ltt, nI_ltf, nI_m1, nI_n1, ↓reduceIte, zup_ne, zup_miss, zup_hit, zbo_1, zbo_0, reduceCtorEq, sel_l, sel_r, Nat.reduceAdd, Nat.reduceSub, Nat.reduceMul, key2 _ hy]
theorem M_goesOver_e {σ : Sg} (hK : InvK σ) {p : Nat} (h : p < nP σ) : M_goesOver σ (nI p) = some (ovrS p σ) := by
  obtain ⟨hP, hP8⟩ := hK.1
  unfold M_goesOver ovrS
  have e : mx (nI 0) (σ 183 p - σ 172 (9 * p + 2)) = ovrN p σ := rfl
  by_cases c : p + 1 = nP σ
  · simp (disch := omega) only [zgt_e, zpt_e, zlt_e, zrd_e, zwr_e, zelr_e, znz_e, zcp_e, zlit, nI_add, nI_mul, nI_sub, nI_div, ↓irem_f, irem_e, Nat.zero_add, Nat.add_zero, obs, zb_t, zb_f, nI_eqt, nI_eqf, nI_let, nI_lef, nI_ltt, nI_ltf, nI_m1, nI_n1, ↓reduceIte, zup_ne, zup_miss, zup_hit, zbo_1, zbo_0, reduceCtorEq, sel_l, sel_r, Nat.reduceAdd, Nat.reduceSub, Nat.reduceMul, M_toldOf_e, M_greater_e, e, hP, c]
  · simp (disch := omega) only [zgt_e, zpt_e, zlt_e, zrd_e, zwr_e, zelr_e, znz_e, zcp_e, zlit, nI_add, nI_mul, nI_sub, nI_div, ↓irem_f, irem_e, Nat.zero_add, Nat.add_zero, obs, zb_t, zb_f, nI_eqt, nI_eqf, nI_let, nI_lef, nI_ltt, nI_ltf, nI_m1, nI_n1, ↓reduceIte, zup_ne, zup_miss, zup_hit, zbo_1, zbo_0, reduceCtorEq, sel_l, sel_r, Nat.reduceAdd, Nat.reduceSub, Nat.reduceMul, M_toldOf_e, M_greater_e, e, hP, c]
theorem M_moves_e {σ : Sg} (hT : InvT σ) {p : Nat} (h : p < nP σ) : M_moves σ (nI p) = some (movS p σ) := by
  obtain ⟨hK, hO, ⟨hs, hs2⟩, g, hg, hg1, hg2⟩ := hT
  have hP8 := hK.1.2
  have hw : M_wanted σ (nI p) (nI (stp σ + 1)) = some (hld σ p (wsh σ p (stp σ + 1))) := M_wanted_e hK hO h (by omega) hg hg1 hg2
  unfold M_moves movS
  simp (disch := omega) only [zgt_e, zpt_e, zlt_e, zrd_e, zwr_e, zelr_e, znz_e, zcp_e, zlit, nI_add, nI_mul, nI_sub, nI_div, ↓irem_f, irem_e, Nat.zero_add, Nat.add_zero, obs, zb_t, zb_f, nI_eqt, nI_eqf, nI_let, nI_lef, nI_ltt, nI_ltf, nI_m1, nI_n1, ↓reduceIte, zup_ne, zup_miss, zup_hit, zbo_1, zbo_0, reduceCtorEq, sel_l, sel_r, Nat.reduceAdd, Nat.reduceSub, Nat.reduceMul, hs, hw, M_toldOf_e, M_lesser_e, M_greater_e]
