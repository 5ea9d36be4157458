theorem m_telling {ν : Sg} {fit : Nat → Bool} {v : Nat → Nat → Int32} (h7 : ∀ i, i < 41 → ν 197 i = if fit i = true then nI 1 else nI 0) (h6 : ∀ i, i < 41 → ∀ k, 1 ≤ k → k ≤ 40 → ν 196 (41 * i + k) = v i k) (x1 : Int32) :
    zit (fun (s : (Int32 × Int32 × Int32)) => M_tells_l36 ν x1 s.1 s.2.1 s.2.2) zFU (-1, nI 1000000000, nI 1) = some (nI (bst (alT fit v) 1 39).1, nI (bst (alT fit v) 1 39).2, nI 41) := by
  refine zit_bst (b := fun (s : (Int32 × Int32 × Int32)) => M_tells_l36 ν x1 s.1 s.2.1 s.2.2) (t := alT fit v) (alT_le fit v) ?_ ?_ ?_
  · show M_tells_l36 ν x1 (-1) (nI 1000000000) (nI 1) = _
    have h1 := alT_le fit v 1
    unfold M_tells_l36 M_tells_j36_151
    rw [show (40 : Int32) = nI 40 from rfl, if_neg (nI_nlt (by omega) (by omega)), zlt_e, zlt_e, show (0 : Int32) = nI 0 from rfl, m_alike (by omega) h7 h6, obs, if_pos (nI_lt (by omega) (by omega)), zlt_e, show (1 : Int32) = nI 1 from rfl, nI_add]
  · intro k c w h1 h2 h3
    show M_tells_l36 ν x1 (nI c) (nI w) (nI k) = _
    have h4 := alT_le fit v k
    unfold M_tells_l36 M_tells_j36_151
    rw [show (40 : Int32) = nI 40 from rfl, if_neg (nI_nlt (by omega) (by omega)), zlt_e, zlt_e, show (0 : Int32) = nI 0 from rfl, m_alike (by omega) h7 h6, obs, zlt_e, zlt_e, show (1 : Int32) = nI 1 from rfl, nI_add]
    by_cases e : alT fit v k < w
    · rw [if_pos e, if_pos (nI_lt e (by omega))]
    · rw [if_neg e, if_neg (nI_nlt (by omega) (by omega))]
  · intro c w
    show M_tells_l36 ν x1 c w (nI 41) = _
    unfold M_tells_l36
    rw [show (40 : Int32) = nI 40 from rfl, if_pos (nI_lt (by omega) (by omega))]
theorem a_tells {σ : Sg} {p1 R q : Nat} {s : Nat → Nat} (hB : Base σ p1) (hg : 0 < R → Gain σ) (hS : Seen σ R q s) (x1 : Int32) : TwS σ (CK_tells σ x1) (fun σ1 => M_tells σ1 x1) := by
  rcases Nat.eq_zero_or_pos R with h | h
  · subst h
    refine ⟨-1, σ, σ, ?_, FrS.refl σ, ?_, FrV.refl σ⟩
    · unfold CK_tells
      rw [zgt_e, hS.2.1, if_pos (show nI 0 = 0 from rfl)]
    · show M_tells σ x1 = _
      unfold M_tells
      rw [zgt_e, hS.2.2.1, if_pos (show nI 0 = 0 from rfl)]
  · have hR10 := hS.1
    rcases isIn_gen (x := x1) (n := 1) (by omega) with ⟨d, d'⟩ | ⟨i, hi, rfl, d⟩
    · refine ⟨-1, σ, σ, ?_, FrS.refl σ, ?_, FrV.refl σ⟩
      · unfold CK_tells
        rw [zgt_e, hS.2.1, if_neg (nI_ne0 h (by omega))]
        rcases d' with d' | d'
        · rw [if_pos d']
        · rw [if_neg (show ¬ x1 ≤ 1 from Int32.not_le.mpr d')]
          split <;> rfl
      · show M_tells σ x1 = _
        unfold M_tells
        rw [zgt_e, hS.2.2.1, if_neg (nI_ne0 h (by omega)), show M_isIn x1 0 1 = some false from d, bf]
    · have hg' := hg h
      obtain ⟨τ, a1, a2, a3, a4⟩ := c_findFits hB hg' hS h
      obtain ⟨ν, b1, b2, b3, b4⟩ := m_laysFits hB hg' a2 hS h
      have hp := hB.1.1
      have hn := nct_le (fitL σ q R s) 41
      have e1 : τ 171 43 = nI R := by rw [a2.all 171 (by omega)]; exact hS.2.2.1
      have n0 : ¬ nI i < 0 := nI_nlt (Nat.zero_le _) (by omega)
      have n1 : nI i ≤ nI 1 := nI_le hi (by omega)
      have hC : CK_tells σ (nI i) = if nI (nct (fitL σ q R s) 41) = 0 then some (-1, τ) else (Sight_telling τ).bind fun r56 => zlt r56 fun v59 => if nI i = 0 then some (v59, τ) else (Sight_mostAlike τ v59).bind fun r73 => some (r73, τ) := by
        unfold CK_tells
        rw [zgt_e, hS.2.1, if_neg (nI_ne0 h (by omega)), if_neg n0, if_pos (show nI i ≤ 1 from n1), ptr_e hp, a1, obs, zgt_e, a3]
      have hM : M_tells τ (nI i) = if nI (nct (fitL σ q R s) 41) = 0 then some (-1, ν) else M_tells_j172 ν (nI i) (nI (bst (alT (fitL σ q R s) (volL σ q)) 1 39).1) (nI (bst (alT (fitL σ q R s) (volL σ q)) 1 39).2) := by
        unfold M_tells
        rw [zgt_e, e1, if_neg (nI_ne0 h (by omega)), show M_isIn (nI i) 0 1 = some true from d, bt, b1, obs, zlt_e, zlt_e, zlt_e, show (1000000000 : Int32) = nI 1000000000 from rfl, show (1 : Int32) = nI 1 from rfl]
        have := m_telling b3 b4 (nI i)
        have th : zit (fun (s : (Int32 × Int32 × Int32)) => M_tells_l36 ν (nI i) s.1 s.2.1 s.2.2) zFU (-nI 1, nI 1000000000, nI 1) = _ := this
        rw [th, obs]
      rcases Nat.eq_zero_or_pos (nct (fitL σ q R s) 41) with c | c
      · refine ⟨-1, τ, ν, ?_, a2, ?_, b2⟩
        · rw [hC, c, if_pos (show nI 0 = 0 from rfl)]
        · show M_tells τ (nI i) = _
          rw [hM, c, if_pos (show nI 0 = 0 from rfl)]
      · rw [if_neg (nI_ne0 c (by omega))] at hC hM
        have hal : ∀ k, 1 ≤ k → k ≤ 40 → Sight_mostAlike τ (nI k) = some (nI (alT (fitL σ q R s) (volL σ q) k)) := by
          intro k h1 h2
          rw [c_mostAlike a3 hn h2, al_re (fun i hi hf => (a4 i hi hf).2 k h1 h2)]
        have htl := c_telling (alT_le (fitL σ q R s) (volL σ q)) hal
        obtain ⟨g1, g2⟩ := bst_ge (alT (fitL σ q R s) (volL σ q)) 1 39
        have g3 := (bst_le (alT (fitL σ q R s) (volL σ q)) 1 (B := 41) 39 (fun i _ => alT_le _ _ _)).2
        rw [htl, obs, zlt_e] at hC
        unfold M_tells_j172 at hM
        rcases (show i = 0 ∨ i = 1 by omega) with e | e
        · subst e
          rw [if_pos (show nI 0 = 0 from rfl)] at hC hM
          exact ⟨_, τ, ν, hC, a2, hM, b2⟩
        · subst e
          rw [if_neg (show ¬ nI 1 = 0 from by decide)] at hC hM
          rw [hal _ g1 (by omega), obs, ← g2] at hC
          exact ⟨_, τ, ν, hC, a2, hM, b2⟩
