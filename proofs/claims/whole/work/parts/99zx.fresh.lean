/-! reading: a new name -/
theorem c_askNo {σ : Sg} (h : σ 2 6 = 0) (x : Int32) (hx : x ≠ 0) : Reader_askName σ x = some σ := by
  unfold Reader_askName
  rw [zgt_e, if_pos h, if_neg hx]
theorem c_askF {σ : Sg} (h : ¬ σ 2 6 = 0) (x : Int32) : Reader_askName σ x = some σ := by
  unfold Reader_askName
  rw [zgt_e, if_neg h]
theorem c_askYes {σ : Sg} {s : Nat} (h : σ 2 6 = 0) (h4 : σ 2 4 = nI s) : Reader_askName σ 0 = some (zup (zup σ 2 6 (nI 3)) 2 7 (nI s)) := by
  unfold Reader_askName
  rw [zgt_e, if_pos h, if_pos rfl, zgt_e, h4, c_fail, obs]
  rfl
theorem c_isNew {σ : Sg} {q P O : Nat} (hq : q = 3 ∨ q = 29) (h5 : σ 2 5 = nI (q + 1)) (hP : σ q 3 = nI P) (hP8 : P ≤ 8) (hO : σ q 7 = nI O) (hO10 : O ≤ 10) (v : Int32) :
    Reader_isNew σ v = some (decide (fnd (fun i => decide (σ (q + 1) i = v)) P = -1 ∧ fnd (fun i => decide (σ (q + 13) i = v)) O = -1)) := by
  unfold Reader_isNew
  rw [h5, zmr2_e rfl hq, c_poolOf hP hP8, obs]
  by_cases c1 : fnd (fun i => decide (σ (q + 1) i = v)) P = -1
  · rw [if_pos c1, zmr2_e rfl hq, c_outletOf hO hO10, obs]
    by_cases c2 : fnd (fun i => decide (σ (q + 13) i = v)) O = -1
    · rw [if_pos c2, decide_eq_true ⟨c1, c2⟩]
    · rw [if_neg c2, decide_eq_false (fun y => c2 y.2)]
  · rw [if_neg c1, decide_eq_false (fun y => c1 y.1)]
theorem Mf.j45 {ν : Sg} (h : Mf ν) (w n : Nat) (x : Int32) : M_freshName_j45 ν w n x = some ν := by
  have : zit (fun (s : (Sg × Int32)) => M_freshName_l47 s.1 w n x s.2) zFU (ν, nI 0) = some (ν, nI 0) := by
    refine zit_eq (fun _ => (ν, nI 0)) _ 0 0 (by omega) (fun j _ hj => by omega) ?_ zFU 0 (by rw [zFU_e]; omega) (by omega) (by omega)
    show M_freshName_l47 ν w n x (nI 0) = _
    unfold M_freshName_l47
    rw [if_neg (by decide), h.well, bf]
  unfold M_freshName_j45
  rw [zlt_e, show (0 : Int32) = nI 0 from rfl, this, obs]
theorem m_j45 {ν : Sg} {B : Nat → Nat} {L a e w n i : Nat} (h : NmAt ν B L a e) (hw : w = 181 ∨ w = 182) (hn : 6 * i + 6 ≤ n) (hn2 : n ≤ 60) : ∃ ν', M_freshName_j45 ν w n (nI i) = some ν' ∧ (∀ c, c ≠ w → ν' c = ν c) ∧ (∀ j, j < 6 * i → ν' w j = ν w j) ∧ ∀ k, k < 6 → ν' w (6 * i + k) = nI (gl B a e k) := by
  have hl := zit_cnt (b := fun (s : (Sg × Int32)) => M_freshName_l47 s.1 w n (nI i) s.2) (fun j υ => (∀ c, c ≠ w → υ c = ν c) ∧ (∀ j, j < 6 * i → υ w j = ν w j) ∧ ∀ k, k < j → υ w (6 * i + k) = nI (gl B a e k)) nI 6 (σ := ν) (by omega)
    ⟨fun _ _ => rfl, fun _ _ => rfl, fun k hk => by omega⟩ (by
    rintro j υ hj ⟨i1, i2, i3⟩
    have hN : NmAt υ B L a e := by
      obtain ⟨⟨x1, x2, x3, x4, x5, x6⟩, h34, h1⟩ := h
      refine ⟨⟨x1, ?_, ?_, ?_, ?_, ?_⟩, ?_, h1⟩
      · intro k hk; rw [i1 186 (by omega)]; exact x2 k hk
      · rw [i1 171 (by omega)]; exact x3
      · rw [i1 171 (by omega)]; exact x4
      · rw [i1 171 (by omega)]; exact x5
      · rw [i1 188 (by omega)]; exact x6
      · rw [i1 171 (by omega)]; exact h34
    refine ⟨zup υ w (6 * i + j) (nI (gl B a e j)), ?_, fun c hc => by rw [zup_ne hc]; exact i1 c hc, fun k hk => by rw [zup_miss (by omega)]; exact i2 k hk, fun k hk => ?_⟩
    · show M_freshName_l47 υ w n (nI i) (nI j) = _
      unfold M_freshName_l47
      rw [if_neg (show ¬ (6 : Int32) ≤ nI j from (nI_ge hj (by omega) : ¬ nI 6 ≤ nI j)), m_well hN.1, bt, m_sign hN hj, obs, show (6 : Int32) = nI 6 from rfl, nI_mul, nI_add, zwr_e (by omega) (by omega), zlt_e, show nI j + 1 = nI (j + 1) from nI_add _ 1]
    · by_cases e : k = j
      · subst e; rw [zup_hit]
      · rw [zup_miss (by omega)]; exact i3 k (by omega)) (by
    rintro υ _
    show M_freshName_l47 υ w n (nI i) (nI 6) = _
    unfold M_freshName_l47
    exact if_pos (by decide))
  obtain ⟨ν', e', i1, i2, i3⟩ := hl
  refine ⟨ν', ?_, i1, i2, i3⟩
  unfold M_freshName_j45
  rw [zlt_e, show (0 : Int32) = nI 0 from rfl, e', obs]
theorem Name2.rows {τ ν τ' ν' : Sg} {w b m : Nat} (h : Name2 τ ν w b m) (h1 : ∀ p, p < m → τ' b p = τ b p) (h2 : ∀ j, j < 6 * m → ν' w j = ν w j) : Name2 τ' ν' w b m := by
  intro p hp
  obtain ⟨f, f1, f2⟩ := h p hp
  exact ⟨f, fun k hk => by rw [h2 _ (by omega)]; exact f1 k hk, by rw [h1 p hp]; exact f2⟩
theorem b_fresh {τ ν : Sg} {B : Nat → Nat} {L a q P O b cap w n i : Nat} (h : Lx τ ν B L a) (hq : q = 3 ∨ q = 29) (h5 : τ 2 5 = nI (q + 1)) (hP : τ q 3 = nI P) (hP8 : P ≤ 8) (hO : τ q 7 = nI O) (hO10 : O ≤ 10)
    (hP' : ν 171 8 = nI P) (hO' : ν 171 9 = nI O) (n1 : Name2 τ ν 181 (q + 1) P) (n2 : Name2 τ ν 182 (q + 13) O)
    (hb : (b = q + 1 ∧ cap = 8 ∧ w = 181 ∧ n = 48 ∧ i = P ∧ P < 8) ∨ (b = q + 13 ∧ cap = 10 ∧ w = 182 ∧ n = 60 ∧ i = O ∧ O < 10)) :
    ∃ r τ1 nw τ3 ν', Reader_readName τ = some (r, τ1) ∧ CF τ τ1 ∧ Reader_isNew (zup τ1 b i r) r = some nw ∧ Reader_askName (zup τ1 b i r) (zb nw) = some τ3 ∧ M_freshName ν w n (nI i) = some ν' ∧
      (∀ c, c ≠ 2 → c ≠ b → τ3 c = τ c) ∧ (∀ p, p ≠ i → τ3 b p = τ b p) ∧ (∀ k, k = 0 ∨ k = 1 ∨ k = 5 → τ3 2 k = τ 2 k) ∧ (∀ c, c ≠ 171 → c ≠ w → ν' c = ν c) ∧ (∀ k, k < 33 ∨ 36 < k → ν' 171 k = ν 171 k) ∧ (∀ j, j < 6 * i → ν' w j = ν w j) ∧
      ((∃ a', a ≤ a' ∧ Lx τ3 ν' B L a' ∧ ∃ f : Nat → Nat, (∀ k, k < 6 → ν' w (6 * i + k) = nI (f k) ∧ f k ≤ 26) ∧ τ3 b i = nI (nmN f)) ∨ Fx τ3 ν') := by
  have hbq : b ≠ 2 ∧ b ≠ q := by omega
  have xb2 : (2 : Nat) ≠ b := by omega
  have xbq : q ≠ b := by omega
  have xq2 : q ≠ 2 := by omega
  have hw : w = 181 ∨ w = 182 := by omega
  obtain ⟨r, τ1, ν1, a1, a2, a3, a4, a5⟩ := b_name h
  have u2 : zup τ1 b i r 2 = τ1 2 := zup_ne xb2
  have uq : zup τ1 b i r q = τ q := by rw [zup_ne xbq, a3.1 q xq2]
  have u5 : zup τ1 b i r 2 5 = nI (q + 1) := by rw [u2, a3.2 5 (by omega)]; exact h5
  have hnew := c_isNew (σ := zup τ1 b i r) (P := P) (O := O) hq u5 (by rw [uq]; exact hP) hP8 (by rw [uq]; exact hO) hO10 r
  have g1 : ∀ p, p < P → zup τ1 b i r (q + 1) p = τ (q + 1) p := fun p hp => by
    rcases hb with ⟨e1, _, _, _, e2, _⟩ | ⟨e1, _, _, _, e2, _⟩
    · subst e1 e2
      rw [zup_miss (by omega), a3.1 _ (by omega)]
    · rw [zup_ne (by omega), a3.1 _ (by omega)]
  have g2 : ∀ p, p < O → zup τ1 b i r (q + 13) p = τ (q + 13) p := fun p hp => by
    rcases hb with ⟨e1, _, _, _, e2, _⟩ | ⟨e1, _, _, _, e2, _⟩
    · rw [zup_ne (by omega), a3.1 _ (by omega)]
    · subst e1 e2
      rw [zup_miss (by omega), a3.1 _ (by omega)]
  have c1 : fnd (fun i_1 => decide (zup τ1 b i r (q + 1) i_1 = r)) P = fnd (fun i => decide (τ (q + 1) i = r)) P := fnd_congr (fun p hp => by rw [g1 p hp])
  have c2 : fnd (fun i_1 => decide (zup τ1 b i r (q + 13) i_1 = r)) O = fnd (fun i => decide (τ (q + 13) i = r)) O := fnd_congr (fun p hp => by rw [g2 p hp])
  rw [c1, c2] at hnew
  have fr1 : ∀ c, c ≠ 2 → c ≠ b → zup τ1 b i r c = τ c := fun c x y => by rw [zup_ne y, a3.1 c x]
  have fr2 : ∀ p, p ≠ i → zup τ1 b i r b p = τ b p := fun p x => by rw [zup_miss x, a3.1 b hbq.1]
  have fr3 : ∀ k, k = 0 ∨ k = 1 ∨ k = 5 → zup τ1 b i r 2 k = τ 2 k := fun k hk => by rw [u2]; exact a3.2 k hk
  have p8 : ν1 171 8 = nI P := by rw [a4.2 8 (by omega)]; exact hP'
  have p9 : ν1 171 9 = nI O := by rw [a4.2 9 (by omega)]; exact hO'
  rcases a5 with ⟨s, e, e1, e2, e3, e4, e5⟩ | hF
  · have N1 : Name2 τ ν1 181 (q + 1) P := n1.rows (fun _ _ => rfl) (fun j _ => by rw [a4.1 181 (by omega)])
    have N2 : Name2 τ ν1 182 (q + 13) O := n2.rows (fun _ _ => rfl) (fun j _ => by rw [a4.1 182 (by omega)])
    have m1 := m_among (n := 48) e4 N1 (by omega) (by omega) (by omega)
    have m2 := m_among (n := 60) e4 N2 (by omega) (by omega) (by omega)
    rw [← e2] at m1 m2
    have u6 : zup τ1 b i r 2 6 = 0 := by rw [u2]; exact e5.1.c60
    have u4 : zup τ1 b i r 2 4 = nI s := by rw [u2]; exact e3
    have bad : ¬ (fnd (fun i => decide (τ (q + 1) i = r)) P = -1 ∧ fnd (fun i => decide (τ (q + 13) i = r)) O = -1) → M_freshName ν w n (nI i) = M_freshName_j36 ν1 w n (nI i) := fun y => by
      unfold M_freshName
      rw [a2, obs, zgt_e, p8, m1, obs]
      by_cases z1 : fnd (fun i => decide (τ (q + 1) i = r)) P = -1
      · rw [if_pos z1, zgt_e, p9, m2, obs, if_neg (fun z2 => y ⟨z1, z2⟩)]
      · rw [if_neg z1]
    by_cases y : fnd (fun i => decide (τ (q + 1) i = r)) P = -1 ∧ fnd (fun i => decide (τ (q + 13) i = r)) O = -1
    · rw [decide_eq_true y] at hnew
      obtain ⟨ν', j1, j2, j3, j4⟩ := m_j45 (i := i) (n := n) e4 hw (by omega) (by omega)
      have j0 : M_freshName ν w n (nI i) = some ν' := by
        unfold M_freshName
        rw [a2, obs, zgt_e, p8, m1, obs, if_pos y.1, zgt_e, p9, m2, obs, if_pos y.2, j1]
      refine ⟨r, τ1, true, zup τ1 b i r, ν', a1, a3, hnew, c_askNo u6 _ (by decide), j0, fr1, fr2, fr3, fun c x1 x2 => by rw [j2 c x2, a4.1 c x1], fun k hk => by rw [j2 171 (by omega), a4.2 k hk], fun j hj => by rw [j3 j hj, a4.1 w (by omega)], Or.inl ⟨e, ?_, ⟨?_, ?_⟩, gl B s e, fun k hk => ⟨j4 k hk, gl_le e4.2.2.2.2 k⟩, by rw [zup_hit]; exact e2⟩⟩
      · have := e4.2.2.1; omega
      · obtain ⟨x1, x2, x3, x4, x5, x6, x7⟩ := e5.1
        exact ⟨x1, fun k hk => by rw [zup_ne (by omega)]; exact x2 k hk, by rw [u2]; exact x3, by rw [u2]; exact x4, by rw [u2]; exact x5, by rw [u2]; exact x6, by rw [u2]; exact x7⟩
      · obtain ⟨x1, x2, x3, x4, x5, x6⟩ := e5.2
        exact ⟨x1, fun k hk => by rw [j2 186 (by omega)]; exact x2 k hk, by rw [j2 171 (by omega)]; exact x3, by rw [j2 171 (by omega)]; exact x4, by rw [j2 171 (by omega)]; exact x5, by rw [j2 188 (by omega)]; exact x6⟩
    · rw [decide_eq_false y] at hnew
      have hmf : Mf (zup (zup ν1 171 35 3) 171 36 (nI s)) := ⟨3, by omega, by omega, f35⟩
      have j0 : M_freshName ν w n (nI i) = some (zup (zup ν1 171 35 3) 171 36 (nI s)) := by
        rw [bad y]
        unfold M_freshName_j36
        rw [zgt_e, e4.2.1, m_fault e5.2, obs, hmf.j45]
      refine ⟨r, τ1, false, _, _, a1, a3, hnew, c_askYes u6 u4, j0, fun c x1 x2 => by rw [zup_ne x1, zup_ne x1]; exact fr1 c x1 x2, fun p hp => by rw [zup_ne (by omega), zup_ne (by omega)]; exact fr2 p hp, fun k hk => by rw [zup_miss (by omega), zup_miss (by omega)]; exact fr3 k hk, fun c x1 x2 => by rw [zup_ne x1, zup_ne x1, a4.1 c x1], fun k hk => by rw [zup_miss (by omega), zup_miss (by omega)]; exact a4.2 k hk, fun j hj => by rw [zup_ne (by omega), zup_ne (by omega), a4.1 w (by omega)], Or.inr ⟨3, s, by omega, by rw [zup_miss (by omega), zup_hit], zup_hit, f35, f36⟩⟩
  · have hm := hF.mf
    have j0 : M_freshName ν w n (nI i) = some ν1 := by
      unfold M_freshName
      rw [a2, obs, zgt_e, p8, hm.among 181 48 P (by omega), obs, if_pos rfl, zgt_e, p9, hm.among 182 60 O (by omega), obs, if_pos rfl, hm.j45]
    refine ⟨r, τ1, _, zup τ1 b i r, ν1, a1, a3, hnew, c_askF (by rw [u2]; exact hF.c6) _, j0, fr1, fr2, fr3, fun c x1 _ => a4.1 c x1, fun k hk => a4.2 k hk, fun j hj => by rw [a4.1 w (by omega)], Or.inr (hF.keep ⟨by rw [u2], by rw [u2]⟩ ⟨rfl, rfl⟩)⟩
