/-! reading: the reference's pieces -/
def Mx (ν : Sg) (B : Nat → Nat) (L a : Nat) : Prop := (a ≤ L ∧ L ≤ 1600) ∧ (∀ i, i < L → ν 186 i = nI (B i) ∧ B i < 256) ∧ ν 171 32 = nI L ∧ ν 171 33 = nI a ∧ (ν 171 35 = nI 0 ∧ ν 171 36 = -1) ∧ ν 188 = lw_s0 188
def MF (ν ν' : Sg) : Prop := (∀ a, a ≠ 171 → ν' a = ν a) ∧ ∀ k, k < 33 ∨ 36 < k → ν' 171 k = ν 171 k
theorem MF.refl (ν : Sg) : MF ν ν := ⟨fun _ _ => rfl, fun _ _ => rfl⟩
theorem MF.trans {σ τ υ : Sg} (h : MF σ τ) (g : MF τ υ) : MF σ υ := ⟨fun a ha => (g.1 a ha).trans (h.1 a ha), fun k hk => (g.2 k hk).trans (h.2 k hk)⟩
theorem MF.up {ν : Sg} {k : Nat} {v : Int32} (h : 33 ≤ k ∧ k ≤ 36) : MF ν (zup ν 171 k v) := ⟨fun a ha => zup_ne ha, fun j hj => zup_miss (by omega)⟩
theorem Mx.to {ν : Sg} {B : Nat → Nat} {L a a' : Nat} (h : Mx ν B L a) (ha : a' ≤ L) : Mx (zup ν 171 33 (nI a')) B L a' := by
  obtain ⟨⟨hL, hL2⟩, hb, c1, c2, c3, c4⟩ := h
  exact ⟨⟨ha, hL2⟩, fun i hi => by rw [zup_ne (by omega)]; exact hb i hi, by rw [zup_miss (by omega)]; exact c1, zup_hit, by rw [zup_miss (by omega), zup_miss (by omega)]; exact c3, by rw [zup_ne (by omega)]; exact c4⟩
theorem Mx.fr {ν : Sg} {B : Nat → Nat} {L a : Nat} {v : Int32} (h : Mx ν B L a) : Mx (zup ν 171 34 v) B L a := by
  obtain ⟨⟨hL, hL2⟩, hb, c1, c2, c3, c4⟩ := h
  exact ⟨⟨hL, hL2⟩, fun i hi => by rw [zup_ne (by omega)]; exact hb i hi, by rw [zup_miss (by omega)]; exact c1, by rw [zup_miss (by omega)]; exact c2, by rw [zup_miss (by omega), zup_miss (by omega)]; exact c3, by rw [zup_ne (by omega)]; exact c4⟩
def bA (B : Nat → Nat) (L i : Nat) : Int32 := if i < L then nI (B i) else -1
theorem m_byte {ν : Sg} {B : Nat → Nat} {L a i : Nat} (h : Mx ν B L a) (hi : i ≤ 3000) : M_byteAt ν (nI i) = some (bA B L i) := by
  obtain ⟨⟨hL, hL2⟩, hb, c1, c2, c3, c4⟩ := h
  unfold M_byteAt bA
  rw [if_neg (show ¬ nI i < 0 from nI_nlt (a := i) (b := 0) (by omega) (by omega)), zgt_e, c1]
  rcases Nat.lt_or_ge i L with x | x
  · rw [if_neg (nI_ge x (by omega)), zrd_e (by omega) (by omega), (hb i x).1, if_pos x]
  · rw [if_pos (nI_le x (by omega)), if_neg (by omega)]
theorem m_byteM {ν : Sg} : M_byteAt ν (-1) = some (-1) := by
  unfold M_byteAt
  exact if_pos (by decide)
theorem nI_prd {a : Nat} (h : 0 < a) : nI a - 1 = nI (a - 1) := nI_sub (a := a) (b := 1) h
theorem sm_eq {ν : Sg} {x v : Int32} (h : M_byteAt ν x = some v) : M_isSmall ν x = some (decide (97 ≤ v ∧ v ≤ 122)) := by
  unfold M_isSmall
  rw [h, obs]
  by_cases c1 : v < 97
  · rw [if_pos c1, decide_eq_false (fun y => absurd c1 (Int32.not_lt.mpr y.1))]
  · rw [if_neg c1, obs]
    by_cases c2 : 122 < v
    · rw [if_pos c2, decide_eq_false (fun y => absurd c2 (Int32.not_lt.mpr y.2))]
    · rw [if_neg c2, decide_eq_true ⟨Int32.not_lt.mp c1, Int32.not_lt.mp c2⟩]
theorem dg_eq {ν : Sg} {x v : Int32} (h : M_byteAt ν x = some v) : M_isDigit ν x = some (decide (48 ≤ v ∧ v ≤ 57)) := by
  unfold M_isDigit
  rw [h, obs]
  by_cases c1 : v < 48
  · rw [if_pos c1, decide_eq_false (fun y => absurd c1 (Int32.not_lt.mpr y.1))]
  · rw [if_neg c1, obs]
    by_cases c2 : 57 < v
    · rw [if_pos c2, decide_eq_false (fun y => absurd c2 (Int32.not_lt.mpr y.2))]
    · rw [if_neg c2, decide_eq_true ⟨Int32.not_lt.mp c1, Int32.not_lt.mp c2⟩]
theorem ltr_i0 : ∀ b : Fin 256, decide ((97 : Int32) ≤ nI b.val ∧ nI b.val ≤ 122) = ltr b.val := by decide +kernel
theorem dgt_i0 : ∀ b : Fin 256, decide ((48 : Int32) ≤ nI b.val ∧ nI b.val ≤ 57) = dgt b.val := by decide +kernel
theorem m_small {ν : Sg} {B : Nat → Nat} {L a i : Nat} (h : Mx ν B L a) (hi : i ≤ 3000) : M_isSmall ν (nI i) = some (decide (i < L) && ltr (B i)) := by
  rw [sm_eq (m_byte h hi)]
  unfold bA
  rcases Nat.lt_or_ge i L with x | x
  · rw [if_pos x, ltr_i0 ⟨B i, (h.2.1 i x).2⟩, decide_eq_true x]; rfl
  · rw [if_neg (by omega), decide_eq_false (p := i < L) (by omega)]; rfl
theorem m_digit {ν : Sg} {B : Nat → Nat} {L a i : Nat} (h : Mx ν B L a) (hi : i ≤ 3000) : M_isDigit ν (nI i) = some (decide (i < L) && dgt (B i)) := by
  rw [dg_eq (m_byte h hi)]
  unfold bA
  rcases Nat.lt_or_ge i L with x | x
  · rw [if_pos x, dgt_i0 ⟨B i, (h.2.1 i x).2⟩, decide_eq_true x]; rfl
  · rw [if_neg (by omega), decide_eq_false (p := i < L) (by omega)]; rfl
/-- the two looks one sign back -/
theorem m_back {ν : Sg} {B : Nat → Nat} {L a : Nat} (h : Mx ν B L a) : ∃ s d, M_isSmall ν (nI a - 1) = some s ∧ M_isDigit ν (nI a - 1) = some d ∧ (tg B a = 0 → s = false ∧ d = false) ∧ (tg B a = 1 → s = true ∨ d = true) := by
  have hL := h.1
  rcases Nat.eq_zero_or_pos a with x | x
  · subst x
    refine ⟨false, false, sm_eq (v := -1) m_byteM, dg_eq (v := -1) m_byteM, fun _ => ⟨rfl, rfl⟩, fun y => ?_⟩
    have : tg B 0 = 0 := if_neg (by omega)
    omega
  · rw [nI_prd x, m_small h (by omega), m_digit h (by omega), decide_eq_true (p := a - 1 < L) (by omega)]
    refine ⟨_, _, rfl, rfl, fun y => ?_, fun y => ?_⟩
    · unfold tg at y
      cases h1 : ltr (B (a - 1))
      · cases h2 : dgt (B (a - 1))
        · exact ⟨rfl, rfl⟩
        · rw [if_pos ⟨x, Or.inr h2⟩] at y; omega
      · rw [if_pos ⟨x, Or.inl h1⟩] at y; omega
    · unfold tg at y
      split at y
      · rename_i c
        rcases c.2 with c | c
        · rw [c]; exact Or.inl rfl
        · rw [c]; exact Or.inr rfl
      · omega
theorem blk_i {b : Nat} (hb : b < 256) : (nI b = 10 ∨ nI b = 32) ↔ blk b = true := by
  unfold blk
  rw [decide_eq_true_iff]
  constructor
  · rintro (h | h)
    · exact Or.inl ((nI_eq (b := 10) (by omega) (by omega)).mp h)
    · exact Or.inr ((nI_eq (b := 32) (by omega) (by omega)).mp h)
  · rintro (h | h)
    · rw [h]; exact Or.inl rfl
    · rw [h]; exact Or.inr rfl
theorem bA_blk {B : Nat → Nat} {L i : Nat} (hb : i < L → B i < 256) : (bA B L i = 10 ∨ bA B L i = 32) ↔ (i < L ∧ blk (B i) = true) := by
  unfold bA
  by_cases x : i < L
  · rw [if_pos x, blk_i (hb x)]
    exact ⟨fun h => ⟨x, h⟩, fun h => h.2⟩
  · rw [if_neg x]
    constructor
    · rintro (h | h)
      · exact absurd h (by decide)
      · exact absurd h (by decide)
    · intro h; exact absurd h.1 x
theorem m_hereL {ν : Sg} {B : Nat → Nat} {L a : Nat} (h : Mx ν B L a) (hb : a < L ∧ blk (B a) = true) : M_here_l0 ν = some (.inl (zup ν 171 33 (nI (a + 1)))) := by
  have hL := h.1
  have q := (bA_blk (fun x => (h.2.1 a x).2)).mpr hb
  unfold M_here_l0
  rw [zgt_e, h.2.2.2.1, m_byte h (by omega), obs]
  by_cases q1 : bA B L a = 10
  · rw [if_pos q1, zgt_e, h.2.2.2.1, zpt_e, show nI a + 1 = nI (a + 1) from nI_add _ 1]
  · rw [if_neg q1, zgt_e, h.2.2.2.1, m_byte h (by omega), obs, if_pos (q.resolve_left q1), zgt_e, h.2.2.2.1, zpt_e, show nI a + 1 = nI (a + 1) from nI_add _ 1]
theorem m_hereE {ν : Sg} {B : Nat → Nat} {L a : Nat} (h : Mx ν B L a) (hb : ¬ (a < L ∧ blk (B a) = true)) : M_here_l0 ν = some (.inr ν) := by
  have hL := h.1
  have q : ¬ (bA B L a = 10 ∨ bA B L a = 32) := fun y => hb ((bA_blk (fun x => (h.2.1 a x).2)).mp y)
  unfold M_here_l0
  rw [zgt_e, h.2.2.2.1, m_byte h (by omega), obs, if_neg (fun y => q (Or.inl y)), zgt_e, h.2.2.2.1, m_byte h (by omega), obs, if_neg (fun y => q (Or.inr y))]
theorem m_here {ν : Sg} {B : Nat → Nat} {L a : Nat} (h : Mx ν B L a) : M_here ν = some (bA B L (sk B L a), zup ν 171 33 (nI (sk B L a))) := by
  have hL := h.1
  obtain ⟨s1, s2⟩ := sk_le (B := B) hL.1
  by_cases e : sk B L a = a
  · have hn : ¬ (a < L ∧ blk (B a) = true) := fun y => by
      have := sk_out (B := B) (L := L) (a := a) (by omega)
      rw [e, y.2] at this
      exact absurd this (by decide)
    have q : ¬ (bA B L a = 10 ∨ bA B L a = 32) := fun y => hn ((bA_blk (fun x => (h.2.1 a x).2)).mp y)
    unfold M_here
    rw [zgt_e, h.2.2.2.1, m_byte h (by omega), obs, if_neg (fun y => q (Or.inl y)), zgt_e, h.2.2.2.1, m_byte h (by omega), obs, if_neg (fun y => q (Or.inr y)), zgt_e, h.2.2.2.1, m_byte h (by omega), obs, e, zup_same h.2.2.2.1.symm]
  · have hb : ∀ i, a ≤ i → i < sk B L a → i < L ∧ blk (B i) = true := fun i x y => ⟨by omega, sk_in x y⟩
    have hl : zit (fun (s : Sg) => M_here_l0 s) zFU (zup ν 171 33 (nI (a + 1 + 0))) = some (zup ν 171 33 (nI (sk B L a))) := by
      refine zit_eq (fun j => zup ν 171 33 (nI (a + 1 + j))) _ (sk B L a - a - 1) 0 (by omega) (fun j _ hj => ?_) ?_ zFU 0 (by rw [zFU_e]; omega) (by omega) (by omega)
      · have := m_hereL (h.to (a' := a + 1 + j) (by omega)) (hb _ (by omega) (by omega))
        rw [zup_zup] at this
        exact this
      · rw [show a + 1 + (sk B L a - a - 1) = sk B L a from by omega]
        refine m_hereE (h.to s2) (fun y => ?_)
        have := sk_out (B := B) (L := L) (a := a) y.1
        rw [y.2] at this
        exact absurd this (by decide)
    have hl' : zit (fun (s : Sg) => M_here_l0 s) zFU (zup ν 171 33 (nI (a + 1))) = some (zup ν 171 33 (nI (sk B L a))) := hl
    have j26 : M_here_j26 ν = some (bA B L (sk B L a), zup ν 171 33 (nI (sk B L a))) := by
      unfold M_here_j26
      rw [zgt_e, h.2.2.2.1, zpt_e, show nI a + 1 = nI (a + 1) from nI_add _ 1, hl', obs, zgt_e, zup_hit, m_byte (h.to s2) (by omega), obs]
    have q := (bA_blk (fun x => (h.2.1 a x).2)).mpr (hb a (by omega) (by omega))
    unfold M_here
    rw [zgt_e, h.2.2.2.1, m_byte h (by omega), obs, zgt_e, h.2.2.2.1, m_byte h (by omega), obs, j26]
    rcases q with q | q
    · rw [if_pos q]
    · rw [if_pos q]
      split <;> rfl
theorem m_well {ν : Sg} {B : Nat → Nat} {L a : Nat} (h : Mx ν B L a) : M_goesWell ν = some true := by
  unfold M_goesWell
  rw [zgt_e, h.2.2.2.2.1.1]
  exact if_pos rfl
theorem m_fault {ν : Sg} {B : Nat → Nat} {L a : Nat} (h : Mx ν B L a) (k p : Int32) : M_faults ν k p = some (zup (zup ν 171 35 k) 171 36 p) := by
  unfold M_faults
  rw [zgt_e, h.2.2.2.2.1.1, if_pos (show nI 0 = 0 from rfl), zpt_e, zpt_e]
theorem m_faultF {ν : Sg} (k p : Int32) : MF ν (zup (zup ν 171 35 k) 171 36 p) := (MF.up (by omega)).trans (MF.up (by omega))
theorem f35 {ν : Sg} {k p : Int32} : zup (zup ν 171 35 k) 171 36 p 171 35 = k := by rw [zup_miss (by omega), zup_hit]
theorem f36 {ν : Sg} {k p : Int32} : zup (zup ν 171 35 k) 171 36 p 171 36 = p := zup_hit
theorem m_word {ν : Sg} {B : Nat → Nat} {L a : Nat} (h : Mx ν B L a) : ∃ ν', M_word ν = some ν' ∧ MF ν ν' ∧ ((tg B (sk B L a) = 0 ∧ sk B L a < we B L (sk B L a) ∧ Mx ν' B L (we B L (sk B L a)) ∧ ν' 171 34 = nI (sk B L a)) ∨ (¬ (tg B (sk B L a) = 0 ∧ sk B L a < we B L (sk B L a)) ∧ ν' 171 35 = nI 1 ∧ ν' 171 36 = nI (sk B L a))) := by
  have hL := h.1
  obtain ⟨s1, s2⟩ := sk_le (B := B) hL.1
  obtain ⟨t1, t2⟩ := we_le (B := B) s2
  have h1 := h.to s2
  generalize hν1 : zup (zup ν 171 33 (nI (sk B L a))) 171 34 (nI (sk B L a)) = ν1
  have h2 : Mx ν1 B L (sk B L a) := by rw [← hν1]; exact h1.fr
  have f1 : MF ν ν1 := by rw [← hν1]; exact (MF.up (by omega)).trans (MF.up (by omega))
  have n34 : ν1 171 34 = nI (sk B L a) := by rw [← hν1, zup_hit]
  have fl : ¬ (tg B (sk B L a) = 0 ∧ sk B L a < we B L (sk B L a)) → ∃ ν', (some (zup (zup ν1 171 35 1) 171 36 (nI (sk B L a))) : Option Sg) = some ν' ∧ MF ν ν' ∧ ((tg B (sk B L a) = 0 ∧ sk B L a < we B L (sk B L a) ∧ Mx ν' B L (we B L (sk B L a)) ∧ ν' 171 34 = nI (sk B L a)) ∨ (¬ (tg B (sk B L a) = 0 ∧ sk B L a < we B L (sk B L a)) ∧ ν' 171 35 = nI 1 ∧ ν' 171 36 = nI (sk B L a))) := fun n1 => ⟨_, rfl, f1.trans (m_faultF _ _), Or.inr ⟨n1, f35, f36⟩⟩
  unfold M_word
  rw [m_well h, bt, m_here h, obs]
  dsimp only
  rw [zgt_e, zup_hit, zpt_e, hν1, zgt_e, h2.2.2.2.1, m_small h2 (by omega)]
  by_cases q : sk B L a < we B L (sk B L a)
  · rw [decide_eq_true (p := sk B L a < L) (by omega), we_in (a := sk B L a) (L := L) (Nat.le_refl _) q, show (true && true) = true from rfl, bt, zgt_e, h2.2.2.2.1]
    obtain ⟨s, d, x1, x2, x3, x4⟩ := m_back h2
    rw [x1]
    rcases tg_01 B (sk B L a) with t | t
    · obtain ⟨y1, y2⟩ := x3 t
      rw [y1, bf, zgt_e, h2.2.2.2.1, x2, y2, bf]
      have hl : zit (fun (s : Sg) => M_word_l68 s) zFU (zup ν1 171 33 (nI (sk B L a + 0))) = some (zup ν1 171 33 (nI (we B L (sk B L a)))) := by
        refine zit_eq (fun j => zup ν1 171 33 (nI (sk B L a + j))) _ (we B L (sk B L a) - sk B L a) 0 (by omega) (fun j _ hj => ?_) ?_ zFU 0 (by rw [zFU_e]; omega) (by omega) (by omega)
        · have hm := h2.to (a' := sk B L a + j) (by omega)
          unfold M_word_l68
          rw [zgt_e, zup_hit, m_small hm (by omega), decide_eq_true (p := sk B L a + j < L) (by omega), we_in (a := sk B L a) (L := L) (by omega) (by omega), show (true && true) = true from rfl, bt, zgt_e, zup_hit, zpt_e, show nI (sk B L a + j) + 1 = nI (sk B L a + (j + 1)) from nI_add _ 1, zup_zup]
        · rw [show sk B L a + (we B L (sk B L a) - sk B L a) = we B L (sk B L a) from by omega]
          have hm := h2.to t2
          unfold M_word_l68
          rw [zgt_e, zup_hit, m_small hm (by omega)]
          rcases Nat.lt_or_ge (we B L (sk B L a)) L with z | z
          · rw [we_out z, Bool.and_false, bf]
          · rw [decide_eq_false (p := we B L (sk B L a) < L) (by omega), Bool.false_and, bf]
      rw [show sk B L a + 0 = sk B L a from rfl, zup_same h2.2.2.2.1.symm] at hl
      rw [hl, obs]
      exact ⟨_, rfl, f1.trans (MF.up (by omega)), Or.inl ⟨t, q, h2.to t2, by rw [zup_miss (by omega)]; exact n34⟩⟩
    · rcases x4 t with y | y
      · rw [y, bt, zgt_e, h2.2.2.2.1, m_fault h2, obs]
        exact fl (fun z => by have := z.1; omega)
      · cases s
        · rw [bf, zgt_e, h2.2.2.2.1, x2, y, bt, zgt_e, h2.2.2.2.1, m_fault h2, obs]
          exact fl (fun z => by have := z.1; omega)
        · rw [bt, zgt_e, h2.2.2.2.1, m_fault h2, obs]
          exact fl (fun z => by have := z.1; omega)
  · have e : we B L (sk B L a) = sk B L a := by omega
    have : (decide (sk B L a < L) && ltr (B (sk B L a))) = false := by
      rcases Nat.lt_or_ge (sk B L a) L with z | z
      · have := we_out (B := B) (L := L) (a := sk B L a) (by omega)
        rw [e] at this
        rw [this, Bool.and_false]
      · rw [decide_eq_false (p := sk B L a < L) (by omega), Bool.false_and]
    rw [this, bf, zgt_e, h2.2.2.2.1, m_fault h2, obs]
    exact fl (fun z => q z.2)
