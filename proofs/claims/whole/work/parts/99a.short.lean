/-! what is short only grows -/
def Zr (κ : Sg) : Prop := ∀ p, p < nP κ → ∀ k, tl κ p 3 ≤ k → k < 10 → κ 183 (40 + 10 * p + k) = 0
theorem InvR.toF {κ : Sg} (hR : InvR κ) (hz : Zr κ) : InvF κ := by
  obtain ⟨r1, r2, r3⟩ := hR
  refine ⟨fun p hp => ?_, fun p hp k hk => (r1 p hp).2.2.2.2 k hk, hz, fun p hp => ⟨(r1 p hp).2.1, (r1 p hp).2.2.2.1⟩, r2⟩
  obtain ⟨v, hv, hv2⟩ := (r1 p hp).1
  exact ⟨v, hv, by dsimp only; omega⟩
theorem InvF.beg {κ : Sg} (h : InvF κ) : InvF (begS κ) := by
  have s := begS_stat κ
  unfold InvF Vb Wb at h ⊢
  rw [s.e_nP, s.e_tl, begS_183]
  exact h
theorem short_sum {κ κ' : Sg} {S : Nat} : ∀ n, (∀ o, o < n → ∃ v d, κ 183 (138 + o) = nI v ∧ κ' 183 (138 + o) = nI (v + d) ∧ d ≤ 99 ∧ v ≤ S) → ∃ a d, sm (fun o => κ 183 (138 + o)) n = nI a ∧ sm (fun o => κ' 183 (138 + o)) n = nI (a + d) ∧ a ≤ S * n ∧ d ≤ 99 * n
  | 0, _ => ⟨0, 0, rfl, rfl, by omega, by omega⟩
  | n + 1, h => by
    obtain ⟨a, d, h1, h2, h3, h4⟩ := short_sum n (fun o ho => h o (by omega))
    obtain ⟨v, e, g1, g2, g3, g4⟩ := h n (by omega)
    refine ⟨a + v, d + e, by rw [sm_succ, h1, g1, nI_add], by rw [sm_succ, h2, g2, nI_add]; congr 1; omega, ?_, by omega⟩
    rw [Nat.mul_succ]
    omega
theorem qst_range {κ : Sg} (hQ : InvQ κ) (hR : InvR κ) (hz : Zr κ) : InvR (qst κ) ∧ Zr (qst κ) ∧ ∃ a d, shA κ = nI a ∧ shA (qst κ) = nI (a + d) ∧ a ≤ 990 * stp κ ∧ d ≤ 990 := by
  have s := begS_stat κ
  have hO10 := hQ.1.1.1.2.1.2
  have h183 := begS_183 κ
  obtain ⟨g1, g2, g3⟩ := goS_range (begW hQ.1) (hR.toF hz).beg (fun p hp => by rw [s.e_nP] at hp; rw [h183, s.e_tl]; exact (hR.1 p hp).2.2.1) (fun o ho => by rw [s.e_nO] at ho; rw [h183, s.e_stp]; exact hR.2.2 o ho)
  have sq := qst_stB hQ
  refine ⟨g1, fun p hp k hk hk2 => ?_, ?_⟩
  · rw [sq.e_nP] at hp
    rw [sq.e_tl] at hk
    exact g2 p (by rw [s.e_nP]; exact hp) k (by rw [s.e_tl]; exact hk) hk2
  · rw [s.e_nO, s.e_stp, h183] at g3
    obtain ⟨a, d, h1, h2, h3, h4⟩ := short_sum (κ := κ) (κ' := qst κ) (nO κ) g3
    refine ⟨a, d, h1, ?_, ?_, by omega⟩
    · unfold shA
      rw [sq.e_nO]
      exact h2
    · have : 99 * stp κ * nO κ ≤ 99 * stp κ * 10 := Nat.mul_le_mul_left _ hO10
      omega
def sN (κ : Sg) (k : Nat) : Nat := (shA (qrun κ k)).toNatClampNeg
theorem qrun_range {κ : Sg} (hQ : InvQ κ) (hR : InvR κ) (hz : Zr κ) : ∀ n, stp κ + n ≤ 20000 → InvR (qrun κ n) ∧ Zr (qrun κ n)
  | 0, _ => ⟨hR, hz⟩
  | n + 1, hn => by
    obtain ⟨h1, h2⟩ := qrun_range hQ hR hz n (by omega)
    obtain ⟨g1, g2, _⟩ := qst_range (qrun_inv hQ n (by omega)).1 h1 h2
    exact ⟨g1, g2⟩
theorem sN_step {κ : Sg} (hQ : InvQ κ) (hR : InvR κ) (hz : Zr κ) {n : Nat} (hn : stp κ + n + 1 ≤ 20000) : shA (qrun κ n) = nI (sN κ n) ∧ sN κ n ≤ 20000000 ∧ sN κ n ≤ sN κ (n + 1) ∧ shA (qrun κ (n + 1)) = nI (sN κ (n + 1)) ∧ sN κ (n + 1) ≤ 20000000 := by
  obtain ⟨h1, h2⟩ := qrun_range hQ hR hz n (by omega)
  obtain ⟨q1, q2, _⟩ := qrun_inv hQ n (by omega)
  obtain ⟨g1, g2, a, d, e1, e2, e3, e6⟩ := qst_range q1 h1 h2
  obtain ⟨q1', q2', _⟩ := qrun_inv hQ (n + 1) (by omega)
  have hO10 := q1'.1.1.1.2.1.2
  -- a bound for the later sum, by its own ranges
  have hb : ∀ m, m ≤ nO (qst (qrun κ n)) → ∃ b, sm (fun o => qst (qrun κ n) 183 (138 + o)) m = nI b ∧ b ≤ 99 * stp (qst (qrun κ n)) * m := by
    intro m
    induction m with
    | zero => exact fun _ => ⟨0, rfl, by omega⟩
    | succ m ih =>
      intro hm
      obtain ⟨b, hb, hb2⟩ := ih (by omega)
      obtain ⟨v, hv, hv2⟩ := g1.2.2 m (by omega)
      exact ⟨b + v, by rw [sm_succ, hb, hv, nI_add], by rw [Nat.mul_succ]; omega⟩
  obtain ⟨b, hb1, hb2⟩ := hb _ (Nat.le_refl _)
  have hst : stp (qst (qrun κ n)) = stp κ + (n + 1) := q2'
  have hO' : nO (qst (qrun κ n)) ≤ 10 := hO10
  have hbb : b ≤ 20000000 := by
    have : 99 * stp (qst (qrun κ n)) * nO (qst (qrun κ n)) ≤ 99 * 20000 * 10 := Nat.mul_le_mul (Nat.mul_le_mul_left _ (by omega)) hO'
    omega
  have e4 : shA (qst (qrun κ n)) = nI b := hb1
  have e5 : nI (a + d) = nI b := e2.symm.trans e4
  have ha : a ≤ 20000000 := by omega
  have hs1 : sN κ n = a := by unfold sN; rw [e1, nI_clamp (by omega)]
  have hs2 : sN κ (n + 1) = b := by unfold sN; show (shA (qst (qrun κ n))).toNatClampNeg = b; rw [e4, nI_clamp (by omega)]
  refine ⟨by rw [hs1, e1], by omega, ?_, by rw [hs2]; exact e4, by omega⟩
  rw [hs1, hs2]
  have := (nI_eq (by omega) (by omega)).mp e5
  omega
theorem sN_mono {κ : Sg} (hQ : InvQ κ) (hR : InvR κ) (hz : Zr κ) {a : Nat} : ∀ d, stp κ + a + d ≤ 20000 → sN κ a ≤ sN κ (a + d)
  | 0, _ => Nat.le_refl _
  | d + 1, h => Nat.le_trans (sN_mono hQ hR hz d (by omega)) (sN_step hQ hR hz (n := a + d) (by omega)).2.2.1
/-- whether the first gate passed less than its opening -/
def dry (κ : Sg) (k : Nat) : Prop := goW (begS (qrun κ k)) 193 0 = 1
theorem goW_193 {ν : Sg} (hW : InvW ν) (h0 : 0 < nP ν) : goW ν 193 0 = if ν 183 8 ≤ mn (ν 183 8) (ν 183 197) then 0 else 1 := by
  have hP8 := hW.1.1.1.2
  have hO10 := hW.1.1.2.1.2
  have hK := hW.1.1
  have hO := hW.1.2.1
  have a1 := itI (f := arrS) (fun j τ => Stat ν τ ∧ τ 183 8 = ν 183 8) (μ := ν) ⟨Stat.refl ν, rfl⟩ (nP ν) (fun j τ hj i => ⟨i.1.trans (arrS_stat (by omega) _), (arrS_miss (by omega) (by omega) (by omega)).trans i.2⟩)
  have a2 := itI (f := leakS) (fun j τ => Stat ν τ ∧ τ 183 8 = ν 183 8) a1 (nP ν) (fun j τ hj i => ⟨i.1.trans (leakS_stat (by omega) _), by
    unfold leakS
    rw [zup_miss (by omega), zup_miss (by omega)]
    exact i.2⟩)
  have a3 := itI (f := takS) (fun j τ => Stat ν τ ∧ τ 183 8 = ν 183 8) a2 (nO ν) (fun j τ hj i => by
    have hp : opl τ j < 8 := by
      rw [i.1.e_opl]
      have := (hK.2.2.2.2.2.1 j hj).2.1
      omega
    exact ⟨i.1.trans (takS_stat (by omega) hp), (takS_way (by omega) hp 8 (by omega) (by omega)).trans i.2⟩)
  have a4 := itI (f := pasS) (fun j τ => Stat ν τ ∧ τ 183 8 = ν 183 8 ∧ (0 < j → τ 193 0 = if ν 183 8 ≤ mn (ν 183 8) (ν 183 197) then 0 else 1)) (μ := itS takS (nO ν) (itS leakS (nP ν) (itS arrS (nP ν) ν))) ⟨a3.1, a3.2, fun h => by omega⟩ (nP ν) (by
    rintro j τ hj ⟨s, o, q⟩
    have hd : tl τ j 3 ≤ 9 := by rw [s.e_tl]; exact (hK.2.2.2.2.1 j hj).1
    refine ⟨s.trans (pasS_stat (by omega) hd), ?_, fun _ => ?_⟩
    · rw [pasS_at (by omega) hd, if_neg (by omega), if_neg (by omega), if_neg (by omega), if_neg (by omega), if_neg (by omega), o]
    · rw [pasS_193]
      by_cases c : j = 0
      · subst c
        unfold pasN
        rw [if_pos rfl, if_pos rfl, s.2 197 (by omega), show 8 + 0 = 8 from rfl, o]
      · rw [if_neg (by omega)]
        exact q (by omega))
  have a5 := itI (f := ovrS) (fun j τ => τ 193 = itS pasS (nP ν) (itS takS (nO ν) (itS leakS (nP ν) (itS arrS (nP ν) ν))) 193) (μ := itS pasS (nP ν) (itS takS (nO ν) (itS leakS (nP ν) (itS arrS (nP ν) ν)))) rfl (nP ν) (fun j τ hj i => ovrS_193.trans i)
  have a6 := itI (f := movS) (fun j τ => τ 193 = itS pasS (nP ν) (itS takS (nO ν) (itS leakS (nP ν) (itS arrS (nP ν) ν))) 193) (μ := itS ovrS (nP ν) (itS pasS (nP ν) (itS takS (nO ν) (itS leakS (nP ν) (itS arrS (nP ν) ν))))) a5 (nP ν) (fun j τ hj i => by rw [movS_e, zup_ne (by omega)]; exact i)
  unfold goW
  rw [a6]
  exact a4.2.2 h0
/-- if it was not dry, more would change nothing -/
theorem wet_pas {κ : Sg} (hQ : InvQ κ) (hR : InvR κ) (hz : Zr κ) {k g g' : Nat} (hk : stp κ + k ≤ 20000) (h0 : 0 < nP κ) (hw : ¬ dry κ k) (hg : κ 183 197 = nI g) (hg9 : g ≤ 999) (hgg : g ≤ g') (hg9' : g' ≤ 999) :
    mn (qrun κ k 183 8) (nI g') = mn (qrun κ k 183 8) (qrun κ k 183 197) := by
  obtain ⟨q1, q2, sb, _⟩ := qrun_inv hQ k hk
  obtain ⟨r1, _⟩ := qrun_range hQ hR hz k hk
  obtain ⟨v, hv, hv2⟩ := (r1.1 0 (by rw [sb.e_nP]; exact h0)).2.1
  have h4 := (q1.1.1.1.2.2.2.2.1 0 (by rw [sb.e_nP]; exact h0)).2.2.2.2.1
  have h197 : qrun κ k 183 197 = nI g := by rw [sb.2 _ (by omega)]; exact hg
  have s := begS_stat (qrun κ k)
  have h193 := goW_193 (begW q1.1) (by rw [s.e_nP, sb.e_nP]; exact h0)
  rw [begS_183] at h193
  rw [Nat.add_zero] at hv
  unfold dry at hw
  rw [h193, hv, h197, mn_nI (by omega) (by omega)] at hw
  have hvg : v ≤ g := by
    rcases Nat.lt_or_ge g v with c | c
    · rw [Nat.min_eq_right (by omega), if_neg (nI_ge c (by omega))] at hw
      exact absurd rfl hw
    · exact c
  rw [hv, h197, mn_nI (by omega) (by omega), mn_nI (by omega) (by omega), Nat.min_eq_left (by omega), Nat.min_eq_left hvg]
