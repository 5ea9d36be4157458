/-! reading: the whole text, both sides -/
def KC2 (p1 : Nat) (σ υ : Sg) : Prop := (∀ k, k = 3 ∨ k = 4 ∨ k = 5 ∨ k = 10 ∨ k = 11 → υ 0 k = σ 0 k) ∧
  (∀ a, (p1 ≤ a ∧ a ≤ p1 + 25) ∨ (55 ≤ a ∧ a < 65) ∨ (72 < a ∧ a < 81) ∨ a = 125 ∨ a = 126 ∨ (171 < a ∧ a < 177) ∨ a = 185 ∨ a = 194 ∨ a = 195 ∨ 197 < a → υ a = σ a) ∧
  (∀ k, k ≠ 4 → υ 124 k = σ 124 k) ∧ (∀ k, k = 0 ∨ k = 1 ∨ k = 2 ∨ k = 23 ∨ k = 25 ∨ k = 26 ∨ k = 43 ∨ k = 44 → υ 171 k = σ 171 k) ∧
  ∀ i, i < 148 + 3 * nC σ ∨ 196 ≤ i → υ 183 i = σ 183 i
theorem Cor.keep2 {σ υ : Sg} {n p1 K t c R q : Nat} {s : Nat → Nat} (h : Cor σ n p1 K t c R q s) (k : KC2 p1 σ υ) : Cor υ n p1 K t c R q s := by
  have eC : nC υ = nC σ := by unfold nC; rw [k.2.2.2.2 199 (by omega)]
  obtain ⟨⟨⟨⟨hp1, e3, e4⟩, hR, hK, hM⟩, hq, hgn⟩, hT, hz, hNm, hRg, hS⟩ := h
  obtain ⟨k0, ka, k124, k171, k183⟩ := k
  have ke : KEq σ υ := ⟨⟨k171 0 (by omega), k171 1 (by omega), k171 2 (by omega)⟩, ka 172 (by omega), ka 173 (by omega), ka 174 (by omega)⟩
  have we : WEq σ υ := ⟨ke, fun i hi _ => k183 i (by omega)⟩
  have hC16 := hM.2.2.2.1.2.1
  have hge : Gain σ → Gain υ := fun hg => by
    unfold Gain at hg ⊢
    rw [k183 198 (by omega)]; exact hg
  refine ⟨⟨⟨⟨hp1, by rw [k0 3 (by omega)]; exact e3, by rw [k0 4 (by omega)]; exact e4⟩, ?_, ke.e_InvK hK, ?_⟩, by rw [k171 26 (by omega)]; exact hq, ?_⟩, ?_, fun i hi => by rw [k183 i (by omega)]; exact hz i hi, ?_, ?_, ?_⟩
  · exact ke.e_RepK (hR.rows hK.2.2.1.2 (fun a h1 h2 => ka a (by omega)))
  · refine (we.e_Mom hK (hM.rows (fun a h1 h2 h3 => ka a (by omega))) ?_ ?_)
    · obtain ⟨o1, o2⟩ := hM.2.1
      refine ⟨?_, fun i hi => ?_⟩
      · rw [ka 73 (by omega), k183 199 (by omega)]; exact o1
      · rw [eC] at hi
        show υ 74 i = _ ∧ υ 75 i = _ ∧ υ 76 i = _
        rw [ka 74 (by omega), ka 75 (by omega), ka 76 (by omega), k183 _ (by omega), k183 _ (by omega), k183 _ (by omega)]
        exact o2 i hi
    · obtain ⟨i1, i2, i3⟩ := hM.2.2.2.1
      refine ⟨by rw [eC, k183 199 (by omega)]; exact i1, by rw [eC]; exact i2, fun i hi => ?_⟩
      rw [eC] at hi
      have := i3 i hi
      unfold oo ofr oma at this ⊢
      rw [ke.e_nO, k183 _ (by omega), k183 _ (by omega), k183 _ (by omega)]
      exact this
  · intro hx
    rw [ke.e_nP, k171 25 (by omega)] at hx
    exact hge (hgn hx)
  · obtain ⟨t1, t2⟩ := hT
    refine ⟨by rw [k0 5 (by omega), k171 25 (by omega)]; exact t1, ?_⟩
    rw [k171 25 (by omega), ke.e_nP, ke.e_nO, eC, we.e_stp, k183 197 (by omega), k183 198 (by omega), k183 205 (by omega), k171 43 (by omega), k171 23 (by omega)]
    exact t2.imp (fun x => ⟨x.1, hge x.2⟩) id
  · obtain ⟨n1, n2⟩ := hNm
    unfold RepNm
    rw [ke.e_nP, ke.e_nO]
    exact ⟨n1.rows (ka 175 (by omega)) (ka _ (by omega)), n2.rows (ka 176 (by omega)) (ka _ (by omega))⟩
  · exact hRg.keep ⟨k0 10 (by omega), k0 11 (by omega)⟩ (ka 80 (by omega)) (fun a ha => ka a (by omega)) ke.1 ke.2 (k171 23 (by omega)) (ka 185 (by omega))
  · exact hS.keep ke.e_nP ⟨k124 0 (by omega), k124 1 (by omega)⟩ ⟨ka 125 (by omega), ka 126 (by omega)⟩ ⟨k171 43 (by omega), k171 44 (by omega)⟩ ⟨ka 194 (by omega), ka 195 (by omega)⟩
theorem m_must_sk {ν : Sg} {B : Nat → Nat} {L a : Nat} (h : Mx ν B L a) (x : Int32) : M_must (zup ν 171 33 (nI (sk B L a))) x = M_must ν x := by
  unfold M_must
  rw [m_word_sk h]
def rX (ν : Sg) : Option Sg := (M_must ν 0).bind fun r27 => (M_after r27 1 0 999).bind fun r37 => zpt r37.2 171 12 r37.1 fun σ40 => M_endsWell σ40
theorem readsAll_e (σ : Sg) : M_readsAll σ = (rX (zup (zup (zup (zup (zup σ 171 8 0) 171 9 0) 171 10 0) 171 11 0) 171 13 4)).bind fun r44 => mT zFU (r44, 1) := by
  unfold M_readsAll rX
  rw [zpt_e, zpt_e, zpt_e, zpt_e, zpt_e]
  cases M_must (zup (zup (zup (zup (zup σ 171 8 0) 171 9 0) 171 10 0) 171 11 0) 171 13 4) 0 with
  | none => rfl
  | some r =>
    rw [obs, obs]
    cases M_after r 1 0 999 with
    | none => rfl
    | some r => rfl
theorem read_all {τ ν : Sg} {q : Nat} {B : Nat → Nat} {L : Nat} (hq : q = 3 ∨ q = 29) (h : Lx τ ν B L 0) (h5 : τ 2 5 = nI (q + 1)) (h0 : D0 τ ν q) :
    TR q B L τ ν (cT zFU (τ, nI 0)) ((rX ν).bind fun r44 => mT zFU (r44, 1)) := by
  have hL := h.1.1
  obtain ⟨s1, s2⟩ := sk_le (B := B) hL.1
  obtain ⟨τ1, a1, a2, a3⟩ := c_skip h.1
  have h1 := h.2.to s2
  have hL1 : Lx τ1 (zup ν 171 33 (nI (sk B L 0))) B L (sk B L 0) := ⟨a3, h1⟩
  have q1 : τ1 q = τ q := a2.1 q (by omega)
  have t15 : τ1 2 5 = nI (q + 1) := by rw [a2.2 5 (by omega)]; exact h5
  have h01 : D0 τ1 (zup ν 171 33 (nI (sk B L 0))) q := by
    obtain ⟨z0, z2, z3, z7, z16, z20, y8, y9, y10, y11, y13⟩ := h0
    unfold D0
    rw [q1, a2.1 _ (by omega), a2.1 _ (by omega), zup_miss (by omega), zup_miss (by omega), zup_miss (by omega), zup_miss (by omega), zup_miss (by omega)]
    exact ⟨z0, z2, z3, z7, z16, z20, y8, y9, y10, y11, y13⟩
  have n0 : τ1 q 0 = nI 0 := h01.1
  obtain ⟨g, hg⟩ : ∃ g, zFU = (g + 1) + 1 := ⟨39998, zFU_e⟩
  have hg9 : 30000 < g := by rw [zFU_e] at hg; omega
  have ch : Reader_readText_l45 τ (nI 0) = if nI (sk B L 0) < nI L then ((Reader_readStatement τ1).bind fun r73 => if (zb r73.1) = 0 then some (.inr (.inl (false, r73.2))) else (zmr2 3 29 (r73.2 2 5) fun q82 => zgt r73.2 q82 0 fun v86 => zpt r73.2 q82 0 (v86 + 1) fun σ91 => zlt (nI 0 + 1) fun v94 => some (.inl (σ91, v94)))) else some (.inr (.inr (τ1, nI 0))) := by
    unfold Reader_readText_l45
    rw [zgt_e, h.1.2.2.2.1, if_neg (nI_nlt (by omega) (by omega)), a1, obs, zgt_e, zgt_e, a3.2.2.2.2.1, a3.2.2.2.1]
  rw [hg]
  rcases Nat.lt_or_ge (sk B L 0) L with x | x
  · rw [if_pos (nI_lt x (by omega))] at ch
    have rs : Reader_readStatement τ1 = Reader_readCanal τ1 := by
      unfold Reader_readStatement
      rw [t15, zmr2_e rfl hq, zgt_e, n0, if_pos (show nI 0 = 0 from rfl)]
      cases Reader_readCanal τ1 with
      | none => rfl
      | some r => rfl
    rw [rs] at ch
    obtain ⟨ok, τ', ν', k1, k2, k3, k4, k5⟩ := stm_canal hq hL1 t15 h01
    rw [m_must_sk h.2] at k2
    have k2' : rX ν = some ν' := k2
    rw [k2', obs]
    rw [k1, obs] at ch
    have mw1 : MW ν ν' := (MW.up1 (by omega)).trans k4
    have cv1 : CV q τ τ' := (a2.w.trans k3).v
    rcases k5 with ⟨rfl, a', k6, k7, k8, P, O, T, C, k9⟩ | ⟨rfl, hF⟩
    · have t25 : τ' 2 5 = nI (q + 1) := by rw [k3.2.1 5 (by omega)]; exact t15
      have tq0 : τ' q 0 = nI 0 := by rw [k3.2.2 (by omega)]; exact n0
      have ec : cT ((g + 1) + 1) (τ, nI 0) = cT (g + 1) (zup τ' q 0 (nI 1), nI 1) := by
        unfold cT
        have ch' : (fun (s : (Sg × Int32)) => Reader_readText_l45 s.1 s.2) (τ, nI 0) = some (.inl (zup τ' q 0 (nI 1), nI 1)) := by
          show Reader_readText_l45 τ (nI 0) = _
          rw [ch]
          dsimp only
          rw [if_neg (show ¬ zb true = 0 by decide), t25, zmr2_e rfl hq, zgt_e, tq0, zpt_e, zlt_e, show nI 0 + 1 = nI 1 from rfl]
        rw [zit_l ch']
      have hL' : Lx (zup τ' q 0 (nI 1)) ν' B L a' := by
        have := k8.up (b := q) (i := 0) (v := nI 1) (c := 177) (j := 0) (w := ν' 177 0) (by omega) (by omega)
        rw [zup_same rfl] at this
        exact this
      rw [ec]
      exact rd_run hq h5 L (g + 1) ((g + 1) + 1) (zup τ' q 0 (nI 1)) ν' a' 1 P O T C (by omega) (by omega) (by omega) hL' k7 (k9.up0 hq) zup_hit (by omega) (by omega) (cv1.trans (CV.up hq)) mw1
    · rw [mT_fault hF.mf]
      refine ⟨false, τ', 1, ν', ?_, rfl, cv1, mw1, Or.inr ⟨rfl, hF⟩⟩
      unfold cT
      have e : zit (fun (s : (Sg × Int32)) => Reader_readText_l45 s.1 s.2) ((g + 1) + 1) (τ, nI 0) = some (.inl (false, τ')) := by
        refine zit_r ?_
        show Reader_readText_l45 τ (nI 0) = _
        rw [ch]
        exact if_pos rfl
      rw [e, obs]
      rfl
  · have eL : sk B L 0 = L := by omega
    rw [if_neg (nI_nlt (by omega) (by omega))] at ch
    obtain ⟨ν1, b1, b2, b3⟩ := m_must (x := 0) h.2 (by omega)
    have b1' : M_must ν 0 = some ν1 := b1
    rcases b3 with ⟨b4, _⟩ | ⟨_, b4, b5⟩
    · exfalso
      have h1 := b4.2.1
      have h2 := we_le (B := B) s2
      have h3 : wln 0 = 5 := rfl
      omega
    · have hmf : Mf ν1 := ⟨1, by omega, by omega, b4⟩
      have hmf2 : Mf (zup ν1 171 12 0) := ⟨1, by omega, by omega, by rw [zup_miss (by omega)]; exact b4⟩
      have mx : rX ν = some (zup ν1 171 12 0) := by
        unfold rX
        rw [b1', obs, hmf.after, obs]
        dsimp only
        rw [zpt_e, hmf2.ends]
      rw [mx, obs, mT_fault hmf2]
      refine ⟨false, zup (zup τ1 2 6 1) 2 7 (nI L), 1, zup ν1 171 12 0, ?_, rfl, (a2.trans (c_failF _ _)).w.v, b2.w.trans (MW.up1 (by omega)), Or.inr ⟨rfl, 1, L, by omega, by rw [zup_miss (by omega), zup_hit]; rfl, zup_hit, by rw [zup_miss (by omega)]; exact b4, by rw [zup_miss (by omega), b5, eL]⟩⟩
      unfold cT
      have e : zit (fun (s : (Sg × Int32)) => Reader_readText_l45 s.1 s.2) ((g + 1) + 1) (τ, nI 0) = some (.inr (τ1, nI 0)) := zit_r ch
      rw [e, obs]
      show Reader_readText_j100 τ1 = _
      unfold Reader_readText_j100
      rw [t15, zmr2_e rfl hq, zgt_e, n0, if_neg (show ¬ (0 : Int32) < nI 0 by decide), zgt_e, a3.2.2.2.1, c_fail, obs]
      exact if_pos rfl
/-! filling and copying rows -/
theorem fill_e {σ : Sg} {a n : Nat} {v : Int32} (hn : n ≤ 2000) : ∃ σ', J_fill σ a n v = some σ' ∧ (∀ b, b ≠ a → σ' b = σ b) ∧ ∀ i, i < n → σ' a i = v := by
  have hl := zit_cnt (b := fun (s : (Sg × Int32)) => J_fill_l5 s.1 a n v s.2 (nI n)) (fun j υ => (∀ b, b ≠ a → υ b = σ b) ∧ ∀ i, i < j → υ a i = v) nI n (σ := σ) (by omega)
    ⟨fun _ _ => rfl, fun i hi => by omega⟩ (by
    rintro j υ hj ⟨i1, i2⟩
    refine ⟨zup υ a j v, ?_, fun b hb => by rw [zup_ne hb]; exact i1 b hb, fun i hi => ?_⟩
    · show J_fill_l5 υ a n v (nI j) (nI n) = _
      unfold J_fill_l5
      rw [if_neg (nI_ge hj (by omega)), zwr_e hj (by omega), zlt_e, show nI j + 1 = nI (j + 1) from nI_add _ 1]
    · by_cases e : i = j
      · subst e; rw [zup_hit]
      · rw [zup_miss e]; exact i2 i (by omega)) (by
    rintro υ _
    show J_fill_l5 υ a n v (nI n) (nI n) = _
    unfold J_fill_l5
    rw [if_pos (nI_le (Nat.le_refl _) (by omega))])
  obtain ⟨υ, e, i1, i2⟩ := hl
  refine ⟨υ, ?_, i1, i2⟩
  unfold J_fill
  rw [zlt_e, zlt_e, show Int32.ofNat n = nI n from rfl, show (0 : Int32) = nI 0 from rfl, e, obs]
/-- a copying loop of the reference -/
theorem copy_m {σ : Sg} {a b n : Nat} (hab : a ≠ b) (f : Sg → Int32 → Option ((Sg × Int32) ⊕ (Sg × Int32))) (hn : n ≤ 2000) (hs : ∀ υ j, j < n → f υ (nI j) = some (.inl (zup υ b j (υ a j), nI (j + 1)))) (he : ∀ υ, f υ (nI n) = some (.inr (υ, nI n))) :
    ∃ σ', zit (fun (s : (Sg × Int32)) => f s.1 s.2) zFU (σ, nI 0) = some (σ', nI n) ∧ (∀ c, c ≠ b → σ' c = σ c) ∧ ∀ i, i < n → σ' b i = σ a i := by
  have hl := zit_cnt (b := fun (s : (Sg × Int32)) => f s.1 s.2) (fun j υ => (∀ c, c ≠ b → υ c = σ c) ∧ ∀ i, i < j → υ b i = σ a i) nI n (σ := σ) (by omega)
    ⟨fun _ _ => rfl, fun i hi => by omega⟩ (by
    rintro j υ hj ⟨i1, i2⟩
    refine ⟨zup υ b j (υ a j), hs υ j hj, fun c hc => by rw [zup_ne hc]; exact i1 c hc, fun i hi => ?_⟩
    by_cases e : i = j
    · subst e; rw [zup_hit, i1 a hab]
    · rw [zup_miss e]; exact i2 i (by omega)) (fun υ _ => he υ)
  obtain ⟨υ, e, i1, i2⟩ := hl
  exact ⟨υ, e, i1, i2⟩
