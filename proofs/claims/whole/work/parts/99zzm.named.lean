/-! named -/
theorem c_find2 {σ : Sg} {b : Int32 → Option (Int32 ⊕ ((Int32 × Sg) ⊕ Int32))} {f : Nat → Bool} {m : Nat} (hm : m ≤ 100) (hs : ∀ i, i < m → b (nI i) = some (if f i = true then .inr (.inl (nI i, σ)) else .inl (nI (i + 1)))) (he : b (nI m) = some (.inr (.inr (nI m)))) :
    ((zit b zFU (nI 0)).bind fun r => r.elim (fun r => some r) (fun _ => some (-1, σ))) = some (fnd f m, σ) := by
  have hle := rn_le (fun i => !f i) 0 m
  have step : ∀ j, j < rn (fun i => !f i) 0 m → b (nI j) = some (.inl (nI (j + 1))) := by
    intro j hj
    have := rn_in (fun i => !f i) 0 m j hj
    rw [Nat.zero_add] at this
    rw [hs j (by omega), if_neg]
    intro y
    simp [y] at this
  unfold fnd
  rcases Nat.lt_or_ge (rn (fun i => !f i) 0 m) m with x | x
  · have ho := rn_out (fun i => !f i) 0 m x
    rw [Nat.zero_add] at ho
    have hf : f (rn (fun i => !f i) 0 m) = true := by
      cases h : f (rn (fun i => !f i) 0 m)
      · simp [h] at ho
      · rfl
    have : zit b zFU (nI 0) = some (.inl (nI (rn (fun i => !f i) 0 m), σ)) := by
      refine zit_eq (fun j => nI j) _ (rn (fun i => !f i) 0 m) 0 (by omega) (fun j _ hj => step j hj) ?_ zFU 0 (by rw [zFU_e]; omega) (by omega) (by omega)
      rw [hs _ x, if_pos hf]
    rw [this, obs, if_pos x]
    rfl
  · have e : rn (fun i => !f i) 0 m = m := by omega
    have : zit b zFU (nI 0) = some (.inr (nI m)) := by
      refine zit_eq (fun j => nI j) _ m 0 (by omega) (fun j _ hj => step j (by omega)) he zFU 0 (by rw [zFU_e]; omega) (by omega) (by omega)
    rw [this, obs, if_neg (by omega)]
    rfl
def allL (B : Nat → Nat) (L : Nat) : Prop := ∀ i, i < L → ltr (B i) = true
theorem nm_c {σ τ : Sg} {L : Nat} (hT : Tp σ L) (h1 : τ 1 = σ 1) : ∃ v, CK_nameOnTape τ (nI L) = some v ∧ ((1 ≤ L ∧ L ≤ 6 ∧ allL (tbN σ) L ∧ v = nI (nmN (gl (tbN σ) 0 L))) ∨ (¬ (1 ≤ L ∧ L ≤ 6 ∧ allL (tbN σ) L) ∧ v = 0)) := by
  have hL := hT.1
  have hb : ∀ i, i < L → τ 1 i = cv (tbN σ i) ∧ tbN σ i < 256 := fun i hi => by
    obtain ⟨_, x2, _, x4⟩ := hT.at hi
    rw [h1]; exact ⟨x4, x2⟩
  unfold CK_nameOnTape
  by_cases c6 : L ≤ 6
  · rw [if_pos (show nI L ≤ 6 from (nI_le c6 (by omega) : nI L ≤ nI 6)), zlt_e, show (0 : Int32) = nI 0 from rfl]
    have lp : Ok (zit (fun (s : Int32) => CK_nameOnTape_l10 τ (nI L) s) zFU (nI 0)) (fun r => (r = .inl 0 ∧ ¬ allL (tbN σ) L) ∨ ((∃ y, r = .inr y) ∧ allL (tbN σ) L)) := by
      refine zit_ok (fun j s => s = nI j ∧ ∀ i, i < j → ltr (tbN σ i) = true) L ?_ ?_ zFU 0 _ (by rw [zFU_e]; omega) (by omega) ⟨rfl, fun i hi => by omega⟩
      · rintro j s hj ⟨rfl, i2⟩
        obtain ⟨b1, b2⟩ := hb j hj
        unfold CK_nameOnTape_l10
        rw [if_neg (nI_ge hj (by omega)), zrd_e (by omega) (by omega), b1, cv_ltr b2]
        cases hl : ltr (tbN σ j)
        · rw [bf]
          exact Ok.some (Or.inl ⟨rfl, fun y => by rw [y j hj] at hl; exact absurd hl (by decide)⟩)
        · rw [bt, zlt_e]
          refine Ok.some ⟨nI_add j 1, fun i hi => ?_⟩
          by_cases e : i = j
          · subst e; exact hl
          · exact i2 i (by omega)
      · rintro s ⟨rfl, i2⟩
        unfold CK_nameOnTape_l10
        rw [if_pos (nI_le (Nat.le_refl _) (by omega))]
        exact Ok.some (Or.inr ⟨⟨_, rfl⟩, i2⟩)
    obtain ⟨r, z1, z2⟩ := lp
    rw [z1, obs]
    rcases z2 with ⟨rfl, z3⟩ | ⟨⟨y, rfl⟩, z3⟩
    · exact ⟨0, rfl, Or.inr ⟨fun w => z3 w.2.2, rfl⟩⟩
    · have nm := c_nameIn (τ := τ) (B := tbN σ) (L := L) (a := 0) (e := L) hb hL (by omega) (Nat.le_refl _) (by omega) (fun i _ hi => z3 i hi)
      rw [sel_r, nm, obs]
      rcases Nat.eq_zero_or_pos L with w | w
      · subst w
        have e0 : ∀ i, gl (tbN σ) 0 0 i = 0 := fun i => if_neg (by omega)
        have e1 : nmN (gl (tbN σ) 0 0) = 0 := by
          unfold nmN
          rw [e0, e0, e0, e0, e0, e0]
        rw [e1]
        exact ⟨nI 0, rfl, Or.inr ⟨fun z => absurd z.1 (by omega), rfl⟩⟩
      · exact ⟨_, rfl, Or.inl ⟨w, c6, z3, rfl⟩⟩
  · rw [if_neg (show ¬ nI L ≤ 6 from (nI_ge (by omega) (by omega) : ¬ nI L ≤ nI 6))]
    exact ⟨0, rfl, Or.inr ⟨fun w => c6 w.2.1, rfl⟩⟩
theorem nm_m {σ ω : Sg} {L x w n b m : Nat} (hT : Tp σ L) (h186 : ω 186 = σ 186) (hL1 : 1 ≤ L) (hL6 : L ≤ 6) (hx : (x = 0 ∧ w = 175 ∧ n = 48) ∨ (x = 1 ∧ w = 176 ∧ n = 60)) (hN : NmR σ w b m) (hw : ω w = σ w) (hm : m ≤ 10) (hn : 6 * m ≤ n) :
    M_named_j41 ω (nI x) (nI L) (nI m) = some (if (decide (∀ i, i < L → ltr (tbN σ i) = true)) = true then fnd (fun i => decide (σ b i = nI (nmN (gl (tbN σ) 0 L)))) m else -1, ω) := by
  have hbt : ∀ i, i < L → ω 186 i = nI (tbN σ i) ∧ tbN σ i < 256 := fun i hi => by
    obtain ⟨x1, x2, _⟩ := hT.at hi
    rw [h186]; exact ⟨x1, x2⟩
  have row : ∀ (i j : Nat) (k : Int32 → Option ((Int32 × Int32) ⊕ (Int32 × Int32))), i < m → j < 6 → (if nI x = 0 then (zrd ω 175 48 ((6 * nI i) + nI j) k) else (zrd ω 176 60 ((6 * nI i) + nI j) k)) = k (σ w (6 * i + j)) := by
    intro i j k hi hj
    rcases hx with ⟨rfl, rfl, rfl⟩ | ⟨rfl, rfl, rfl⟩
    · rw [if_pos (show nI 0 = 0 from rfl), show (6 : Int32) = nI 6 from rfl, nI_mul, nI_add, zrd_e (by omega) (by omega), hw]
    · rw [if_neg (by decide), show (6 : Int32) = nI 6 from rfl, nI_mul, nI_add, zrd_e (by omega) (by omega), hw]
  have sgn : ∀ (i j : Nat) (v : Int32), j < 6 → M_named_j57_102 ω (nI x) (nI L) (nI m) (nI i) (nI j) v = some (.inl ((if v = (if j < L then nI (tbN σ j) - nI 96 else 0) then 1 else 0), nI (j + 1))) := by
    intro i j v hj
    unfold M_named_j57_102 M_named_j57_122
    by_cases c : j < L
    · rw [if_neg (nI_ge c (by omega)), zrd_e (by omega) (by omega), (hbt j c).1, if_pos c, show (96 : Int32) = nI 96 from rfl]
      by_cases e : v = nI (tbN σ j) - nI 96
      · rw [if_pos e, if_pos e, zlt_e, zlt_e, show nI j + 1 = nI (j + 1) from nI_add _ 1]
      · rw [if_neg e, if_neg e, zlt_e, zlt_e, show nI j + 1 = nI (j + 1) from nI_add _ 1]
    · rw [if_pos (nI_le (by omega) (by omega)), if_neg c]
      by_cases e : v = 0
      · rw [if_pos e, if_pos e, zlt_e, zlt_e, show nI j + 1 = nI (j + 1) from nI_add _ 1]
      · rw [if_neg e, if_neg e, zlt_e, zlt_e, show nI j + 1 = nI (j + 1) from nI_add _ 1]
  have l57 : ∀ (i j : Nat) (y : Int32), i < m → j < 6 → M_named_l57 ω (nI x) (nI L) (nI m) (nI i) y (nI j) = some (.inl ((if y = 0 then 0 else if σ w (6 * i + j) = (if j < L then nI (tbN σ j) - nI 96 else 0) then 1 else 0), nI (j + 1))) := by
    intro i j y hi hj
    unfold M_named_l57
    rw [if_neg (show ¬ (6 : Int32) ≤ nI j from (nI_ge hj (by omega) : ¬ nI 6 ≤ nI j))]
    by_cases e : y = 0
    · rw [if_pos e, if_pos e, zlt_e, zlt_e, show nI j + 1 = nI (j + 1) from nI_add _ 1]
    · rw [if_neg e, if_neg e, row i j (fun v => M_named_j57_102 ω (nI x) (nI L) (nI m) (nI i) (nI j) v) hi hj, sgn i j _ hj]
  have l141 : ∀ (i j : Nat) (y : Int32), j < L → M_named_l141 ω (nI x) (nI L) (nI m) (nI i) y (nI j) = some (.inl ((if y = 0 then 0 else if ltr (tbN σ j) = true then 1 else 0), nI (j + 1))) := by
    intro i j y hj
    have hj2 := (hbt j hj).2
    unfold M_named_l141
    rw [if_neg (nI_ge hj (by omega))]
    by_cases e : y = 0
    · rw [if_pos e, if_pos e, zlt_e, zlt_e, show nI j + 1 = nI (j + 1) from nI_add _ 1]
    · rw [if_neg e, if_neg e, zrd_e (by omega) (by omega), (hbt j hj).1, show (97 : Int32) = nI 97 from rfl, show (122 : Int32) = nI 122 from rfl, M_isIn_e (by omega) (by omega) (by omega)]
      show ((some (ltr (tbN σ j))).bind _) = _
      cases ltr (tbN σ j)
      · rw [bf, zlt_e, zlt_e, show nI j + 1 = nI (j + 1) from nI_add _ 1, if_neg (by decide)]
      · rw [bt, zlt_e, zlt_e, show nI j + 1 = nI (j + 1) from nI_add _ 1, if_pos rfl]
  have tail : ∀ (i : Nat) (y0 : Int32), (y0 = 0 ∨ y0 = 1) → zit (fun (s : (Int32 × Int32)) => M_named_l141 ω (nI x) (nI L) (nI m) (nI i) s.1 s.2) zFU (y0, nI 0) = some ((if y0 = 1 ∧ anyB (fun i => !ltr (tbN σ i)) L = false then 1 else 0), nI L) := by
    intro i y0 hy
    have := zit_eq (b := fun (s : (Int32 × Int32)) => M_named_l141 ω (nI x) (nI L) (nI m) (nI i) s.1 s.2) (fun j => ((if y0 = 1 ∧ anyB (fun i => !ltr (tbN σ i)) j = false then (1 : Int32) else 0), nI j)) ((if y0 = 1 ∧ anyB (fun i => !ltr (tbN σ i)) L = false then 1 else 0), nI L) L 0 (by omega) (fun j _ hj => ?_) ?_ zFU 0 (by rw [zFU_e]; omega) (by omega) (by omega)
    · have e0 : (if y0 = 1 ∧ anyB (fun i => !ltr (tbN σ i)) 0 = false then (1 : Int32) else 0) = y0 := by
        rcases hy with rfl | rfl
        · rfl
        · rfl
      have this' : zit (fun (s : (Int32 × Int32)) => M_named_l141 ω (nI x) (nI L) (nI m) (nI i) s.1 s.2) zFU ((if y0 = 1 ∧ anyB (fun i => !ltr (tbN σ i)) 0 = false then (1 : Int32) else 0), nI 0) = _ := this
      rw [e0] at this'
      exact this'
    · show M_named_l141 ω (nI x) (nI L) (nI m) (nI i) (if y0 = 1 ∧ anyB (fun i => !ltr (tbN σ i)) j = false then (1 : Int32) else 0) (nI j) = _
      rw [l141 i j _ hj]
      congr 3
      rw [anyB_succ]
      by_cases c : y0 = 1 ∧ anyB (fun i => !ltr (tbN σ i)) j = false
      · rw [if_pos c, if_neg (by decide), c.2]
        cases ltr (tbN σ j)
        · rw [if_neg (by decide), if_neg (fun z => absurd z.2 (by decide))]
        · rw [if_pos rfl, if_pos ⟨c.1, by decide⟩]
      · rw [if_neg c, if_pos rfl, if_neg]
        intro z
        refine c ⟨z.1, ?_⟩
        cases h : anyB (fun i => !ltr (tbN σ i)) j
        · rfl
        · rw [h] at z; exact absurd z.2 (by simp)
    · show M_named_l141 ω (nI x) (nI L) (nI m) (nI i) _ (nI L) = _
      unfold M_named_l141
      rw [if_pos (nI_le (Nat.le_refl _) (by omega))]
  have inner : ∀ i, i < m → ∃ y : Bool, zit (fun (s : (Int32 × Int32)) => M_named_l57 ω (nI x) (nI L) (nI m) (nI i) s.1 s.2) zFU (1, nI 0) = some ((if y = true then 1 else 0), nI 6) ∧ ((∀ i, i < L → ltr (tbN σ i) = true) → (y = true ↔ σ b i = nI (nmN (gl (tbN σ) 0 L)))) := by
    intro i hi
    refine ⟨!anyB (fun j => decide (σ w (6 * i + j) ≠ (if j < L then nI (tbN σ j) - nI 96 else 0))) 6, ?_, fun hl => ?_⟩
    · have := zit_eq (b := fun (s : (Int32 × Int32)) => M_named_l57 ω (nI x) (nI L) (nI m) (nI i) s.1 s.2) (fun j => ((if (!anyB (fun j => decide (σ w (6 * i + j) ≠ (if j < L then nI (tbN σ j) - nI 96 else 0))) j) = true then (1 : Int32) else 0), nI j)) ((if (!anyB (fun j => decide (σ w (6 * i + j) ≠ (if j < L then nI (tbN σ j) - nI 96 else 0))) 6) = true then 1 else 0), nI 6) 6 0 (by omega) (fun j _ hj => ?_) ?_ zFU 0 (by rw [zFU_e]; omega) (by omega) (by omega)
      · exact this
      · show M_named_l57 ω (nI x) (nI L) (nI m) (nI i) (if (!anyB (fun j => decide (σ w (6 * i + j) ≠ (if j < L then nI (tbN σ j) - nI 96 else 0))) j) = true then (1 : Int32) else 0) (nI j) = _
        rw [l57 i j _ hi hj]
        congr 3
        rw [anyB_succ]
        cases hA : anyB (fun j => decide (σ w (6 * i + j) ≠ (if j < L then nI (tbN σ j) - nI 96 else 0))) j
        · rw [if_pos (show (!false) = true from rfl), if_neg (show ¬ (1 : Int32) = 0 by decide)]
          by_cases e : σ w (6 * i + j) = (if j < L then nI (tbN σ j) - nI 96 else 0)
          · rw [if_pos e, decide_eq_false (p := σ w (6 * i + j) ≠ _) (fun z => z e), if_pos (by decide)]
          · rw [if_neg e, decide_eq_true (p := σ w (6 * i + j) ≠ _) e, if_neg (by decide)]
        · rw [if_neg (show ¬ (!true) = true by decide), if_pos rfl, if_neg (by simp)]
      · show M_named_l57 ω (nI x) (nI L) (nI m) (nI i) _ (nI 6) = _
        unfold M_named_l57
        exact if_pos (by decide)
    · obtain ⟨f, f1, f2⟩ := hN i hi
      have hf : ∀ k, k < 6 → f k ≤ 26 := fun k hk => (f1 k hk).2
      have hg : ∀ k, k < 6 → gl (tbN σ) 0 L k ≤ 26 := fun k _ => gl_le (fun i _ hi => hl i hi) k
      have hfl := nmN_lt hf
      have hgl := nmN_lt hg
      have sg : ∀ j, j < 6 → (if j < L then nI (tbN σ j) - nI 96 else 0) = nI (gl (tbN σ) 0 L j) := fun j hj => by
        unfold gl
        rw [Nat.zero_add]
        by_cases c : j < L
        · have := ltr_t (hl j c)
          rw [if_pos c, if_pos c, nI_sub (by omega)]
        · rw [if_neg c, if_neg c]; rfl
      have ea : anyB (fun j => decide (σ w (6 * i + j) ≠ (if j < L then nI (tbN σ j) - nI 96 else 0))) 6 = anyB (fun j => decide (f j ≠ gl (tbN σ) 0 L j)) 6 := anyB_congr (fun j hj => by
        rw [(f1 j hj).1, sg j hj]
        have h1 := hf j hj
        have h2 := hg j hj
        by_cases e : f j = gl (tbN σ) 0 L j
        · rw [decide_eq_false (fun z => z (congrArg nI e)), decide_eq_false (fun z => z e)]
        · rw [decide_eq_true (p := nI (f j) ≠ _) (fun z => e ((nI_eq (by omega) (by omega)).mp z)), decide_eq_true (p := f j ≠ _) e])
      rw [ea, f2]
      constructor
      · intro y
        refine congrArg nI (nmN_congr (fun k hk => ?_))
        by_cases z : f k = gl (tbN σ) 0 L k
        · exact z
        · have := anyB_true (f := fun j => decide (f j ≠ gl (tbN σ) 0 L j)) hk (decide_eq_true z)
          rw [this] at y
          exact absurd y (by decide)
      · intro y
        have y2 := nmN_inj hf hg ((nI_eq (by omega) (by omega)).mp y)
        have : anyB (fun j => decide (f j ≠ gl (tbN σ) 0 L j)) 6 = anyB (fun _ => false) 6 := anyB_congr (fun j hj => decide_eq_false (fun z => z (y2 j hj)))
        rw [this]; rfl
  have all : (anyB (fun i => !ltr (tbN σ i)) L = false) ↔ (∀ i, i < L → ltr (tbN σ i) = true) := by
    constructor
    · intro h i hi
      cases hl : ltr (tbN σ i)
      · have := anyB_true (f := fun i => !ltr (tbN σ i)) hi (by rw [hl]; rfl)
        rw [h] at this
        exact absurd this (by decide)
      · rfl
    · intro h
      have : anyB (fun i => !ltr (tbN σ i)) L = anyB (fun _ => false) L := anyB_congr (fun j hj => by rw [h j hj]; rfl)
      rw [this]
      clear this
      have : ∀ n, anyB (fun _ => false) n = false := by
        intro n
        induction n with
        | zero => rfl
        | succ n ih => rw [anyB_succ, ih]; rfl
      exact this L
  unfold M_named_j41
  rw [zlt_e]
  have key : ((zit (fun (s : Int32) => M_named_l45 ω (nI x) (nI L) (nI m) s) zFU (nI 0)).bind fun r => r.elim (fun r => some r) (fun _ => some (-1, ω))) = some (fnd (fun i => decide (∀ i, i < L → ltr (tbN σ i) = true) && decide (σ b i = nI (nmN (gl (tbN σ) 0 L)))) m, ω) := by
    refine c_find2 (b := fun (s : Int32) => M_named_l45 ω (nI x) (nI L) (nI m) s) (by omega) (fun i hi => ?_) ?_
    · obtain ⟨y, y1, y2⟩ := inner i hi
      have y0 : (if y = true then (1 : Int32) else 0) = 0 ∨ (if y = true then (1 : Int32) else 0) = 1 := by
        cases y
        · exact Or.inl rfl
        · exact Or.inr rfl
      unfold M_named_l45
      rw [if_neg (nI_ge hi (by omega)), zlt_e, zlt_e, show (0 : Int32) = nI 0 from rfl, y1, obs]
      dsimp only
      unfold M_named_j45_138
      rw [zlt_e, show zit (fun (s : (Int32 × Int32)) => M_named_l141 ω (nI x) (nI L) (nI m) (nI i) s.1 s.2) zFU ((if y = true then (1 : Int32) else 0), 0) = _ from tail i _ y0, obs]
      dsimp only
      unfold M_named_j45_182
      by_cases c : ∀ i, i < L → ltr (tbN σ i) = true
      · rw [decide_eq_true c, Bool.true_and, all.mpr c]
        by_cases e : σ b i = nI (nmN (gl (tbN σ) 0 L))
        · have ye := (y2 c).mpr e
          subst ye
          rw [if_neg (show ¬ (if (if true = true then (1 : Int32) else 0) = 1 ∧ false = false then (1 : Int32) else 0) = 0 by decide), if_pos (decide_eq_true e)]
        · have ye : y = false := by
            cases y
            · rfl
            · exact absurd ((y2 c).mp rfl) e
          subst ye
          rw [if_pos (show (if (if false = true then (1 : Int32) else 0) = 1 ∧ false = false then (1 : Int32) else 0) = 0 by decide), if_neg (fun z => e (of_decide_eq_true z)), zlt_e, show nI i + 1 = nI (i + 1) from nI_add _ 1]
      · have nc : ¬ anyB (fun i => !ltr (tbN σ i)) L = false := fun z => c (all.mp z)
        rw [decide_eq_false c, Bool.false_and, if_pos (show (if (if y = true then (1 : Int32) else 0) = 1 ∧ anyB (fun i => !ltr (tbN σ i)) L = false then (1 : Int32) else 0) = 0 from if_neg (fun z => nc z.2)), if_neg (by decide), zlt_e, show nI i + 1 = nI (i + 1) from nI_add _ 1]
    · unfold M_named_l45
      rw [if_pos (nI_le (Nat.le_refl _) (by omega))]
  refine key.trans ?_
  by_cases c : ∀ i, i < L → ltr (tbN σ i) = true
  · rw [if_pos (decide_eq_true c)]
    have := fnd_congr (f := fun i => decide (∀ i, i < L → ltr (tbN σ i) = true) && decide (σ b i = nI (nmN (gl (tbN σ) 0 L)))) (g := fun i => decide (σ b i = nI (nmN (gl (tbN σ) 0 L)))) (m := m) (fun i _ => by rw [decide_eq_true c, Bool.true_and])
    rw [this]
  · rw [if_neg (fun z => c (of_decide_eq_true z))]
    rcases fnd_lt (fun i => decide (∀ i, i < L → ltr (tbN σ i) = true) && decide (σ b i = nI (nmN (gl (tbN σ) 0 L)))) m with ⟨e, _⟩ | ⟨i, _, _, e⟩
    · rw [e]
    · rw [decide_eq_false c, Bool.false_and] at e
      exact absurd e (by decide)
theorem a_named {σ : Sg} {n : Nat} (h : Rel σ n) (x : Int32) : Calls n (CK_named σ x) (fun τ => M_named τ x) := by
  have hcut := rel_cut h
  obtain ⟨p1, K, t, c, R, q', s, g, L, ⟨hB, hT, _, ⟨n1, n2⟩, _⟩, ⟨_, hTp, _⟩⟩ := h
  have hK := hB.1.2.2.1
  have hP8 := hK.1.2
  have hO10 := hK.2.1.2
  have hp1 := hB.1.1.1
  have hL := hTp.1
  generalize hσ7 : zup σ 0 1 (nI 0) = σ7 at hcut
  have f7 : ∀ a, a ≠ 0 → σ7 a = σ a := fun a ha => by rw [← hσ7, zup_ne ha]
  have f70 : ∀ k, k ≠ 1 → σ7 0 k = σ 0 k := fun k hk => by rw [← hσ7, zup_miss hk]
  have hptr : Ptr σ7 p1 := ⟨hp1, by rw [f70 3 (by omega)]; exact hB.1.1.2.1, by rw [f70 4 (by omega)]; exact hB.1.1.2.2⟩
  obtain ⟨v, v1, v2⟩ := nm_c (τ := σ7) hTp (f7 1 (by omega))
  have k3 : σ7 p1 3 = nI (nP σ) := by rw [f7 p1 (by omega)]; exact hB.1.2.1.1.1.trans hK.1.1
  have k7 : σ7 p1 7 = nI (nO σ) := by rw [f7 p1 (by omega)]; exact hB.1.2.1.1.2.1.trans hK.2.1.1
  have head : CK_named σ x = if v = 0 then some (-1, σ7) else (if x = 0 then some (fnd (fun i => decide (σ7 (p1 + 1) i = v)) (nP σ), σ7) else (if x = 1 then some (fnd (fun i => decide (σ7 (p1 + 13) i = v)) (nO σ), σ7) else some (-1, σ7))) := by
    unfold CK_named
    rw [zgt_e, hTp.2.1, zpt_e, show (0 : Int32) = nI 0 from rfl, hσ7, v1, obs, zlt_e, ptr_e hptr, ptr_e hptr, c_poolOf k3 hP8, c_outletOf k7 hO10, obs, obs]
  have mt : M_named σ7 x = (M_isIn (nI L) 1 6).bind fun r9 => if (zb r9) = 0 then some (-1, zup σ7 171 28 (nI 0)) else ((M_isIn x 0 1).bind fun r18 => if (zb r18) = 0 then some (-1, zup σ7 171 28 (nI 0)) else (if x = 0 then M_named_j41 (zup σ7 171 28 (nI 0)) x (nI L) (nI (nP σ)) else M_named_j41 (zup σ7 171 28 (nI 0)) x (nI L) (nI (nO σ)))) := by
    have e28 : σ7 171 28 = nI L := by rw [f7 171 (by omega)]; exact hTp.2.2.1
    have e0 : zup σ7 171 28 (nI 0) 171 0 = nI (nP σ) := by rw [zup_miss (by omega), f7 171 (by omega)]; exact hK.1.1
    have e1 : zup σ7 171 28 (nI 0) 171 1 = nI (nO σ) := by rw [zup_miss (by omega), f7 171 (by omega)]; exact hK.2.1.1
    unfold M_named M_taken
    rw [zgt_e, e28, zpt_e, obs]
    dsimp only
    rw [zlt_e, zgt_e, zgt_e, show (0 : Int32) = nI 0 from rfl, e0, e1]
  have isL : M_isIn (nI L) 1 6 = some (decide (1 ≤ L ∧ L ≤ 6)) := M_isIn_e (by omega) (b := 1) (by omega) (c := 6) (by omega)
  have fin : ∀ r, CK_named σ x = some (r, σ7) → M_named σ7 x = some (r, zup σ7 171 28 (nI 0)) → Calls n (CK_named σ x) (fun τ => M_named τ x) := fun r a1 a2 => ⟨r, σ7, _, a1, a2, hcut⟩
  by_cases cL : 1 ≤ L ∧ L ≤ 6
  · rw [isL, decide_eq_true cL, bt] at mt
    have jm : ∀ (xx w nn b m : Nat), ((xx = 0 ∧ w = 175 ∧ nn = 48) ∨ (xx = 1 ∧ w = 176 ∧ nn = 60)) → NmR σ w b m → m ≤ 10 → 6 * m ≤ nn → M_named_j41 (zup σ7 171 28 (nI 0)) (nI xx) (nI L) (nI m) = some (if (decide (∀ i, i < L → ltr (tbN σ i) = true)) = true then fnd (fun i => decide (σ b i = nI (nmN (gl (tbN σ) 0 L)))) m else -1, zup σ7 171 28 (nI 0)) := fun xx w nn b m y1 y2 y3 y4 => nm_m (n := nn) hTp (by rw [zup_ne (by omega), f7 186 (by omega)]) cL.1 cL.2 y1 y2 (by rw [zup_ne (by omega), f7 w (by omega)]) y3 y4
    have nz : ∀ (hl : allL (tbN σ) L), ¬ nI (nmN (gl (tbN σ) 0 L)) = 0 := fun hl => by
      have hg : ∀ k, k < 6 → gl (tbN σ) 0 L k ≤ 26 := fun k _ => gl_le (fun i _ hi => hl i hi) k
      have hgl := nmN_lt hg
      refine nI_ne0 ?_ (by omega)
      have h0 : gl (tbN σ) 0 L 0 = tbN σ 0 - 96 := by unfold gl; rw [if_pos (by omega)]
      have := ltr_t (hl 0 (by omega))
      unfold nmN
      omega
    by_cases x0 : x = 0
    · subst x0
      rw [show M_isIn 0 0 1 = some true by decide, bt, if_pos rfl] at mt
      have j := jm 0 175 48 (p1 + 1) (nP σ) (Or.inl ⟨rfl, rfl, rfl⟩) n1 (by omega) (by omega)
      rw [show (0 : Int32) = nI 0 from rfl, j] at mt
      rcases v2 with ⟨_, _, hl, rfl⟩ | ⟨nn, rfl⟩
      · rw [if_neg (nz hl), if_pos rfl, f7 _ (by omega)] at head
        rw [if_pos (decide_eq_true (p := ∀ i, i < L → ltr (tbN σ i) = true) hl)] at mt
        exact fin _ head mt
      · rw [if_pos rfl] at head
        rw [if_neg (fun z => nn ⟨cL.1, cL.2, of_decide_eq_true (p := ∀ i, i < L → ltr (tbN σ i) = true) z⟩)] at mt
        exact fin _ head mt
    · by_cases x1 : x = 1
      · subst x1
        rw [show M_isIn 1 0 1 = some true by decide, bt, if_neg (by decide)] at mt
        have j := jm 1 176 60 (p1 + 13) (nO σ) (Or.inr ⟨rfl, rfl, rfl⟩) n2 hO10 (by omega)
        have j' : M_named_j41 (zup σ7 171 28 (nI 0)) 1 (nI L) (nI (nO σ)) = _ := j
        rw [j'] at mt
        rcases v2 with ⟨_, _, hl, rfl⟩ | ⟨nn, rfl⟩
        · rw [if_neg (nz hl), if_neg (by decide), if_pos rfl, f7 _ (by omega)] at head
          rw [if_pos (decide_eq_true (p := ∀ i, i < L → ltr (tbN σ i) = true) hl)] at mt
          exact fin _ head mt
        · rw [if_pos rfl] at head
          rw [if_neg (fun z => nn ⟨cL.1, cL.2, of_decide_eq_true (p := ∀ i, i < L → ltr (tbN σ i) = true) z⟩)] at mt
          exact fin _ head mt
      · have e : M_isIn x 0 1 = some false := by
          rcases isIn_c x (a := 0) (b := 1) (by omega) (by omega) with ⟨e, _⟩ | ⟨j, _, hj, rfl, _⟩
          · exact e
          · exfalso
            rcases j with _ | _ | j
            · exact x0 rfl
            · exact x1 rfl
            · omega
        rw [e, bf] at mt
        rw [if_neg x0, if_neg x1, ite_self] at head
        exact fin _ head mt
  · rw [isL, decide_eq_false cL, bf] at mt
    have v0 : v = 0 := by
      rcases v2 with ⟨w1, w2, _⟩ | ⟨_, w⟩
      · exact absurd ⟨w1, w2⟩ cL
      · exact w
    rw [if_pos v0] at head
    exact fin _ head mt
