/-! reading: both sides at once -/
def Fx (τ ν : Sg) : Prop := ∃ k p : Nat, (1 ≤ k ∧ k ≤ 5) ∧ τ 2 6 = nI k ∧ τ 2 7 = nI p ∧ ν 171 35 = nI k ∧ ν 171 36 = nI p
theorem Fx.mf {τ ν : Sg} (h : Fx τ ν) : Mf ν := by
  obtain ⟨k, p, h1, _, _, h4, _⟩ := h
  exact ⟨k, h1.1, h1.2, h4⟩
theorem Fx.c6 {τ ν : Sg} (h : Fx τ ν) : ¬ τ 2 6 = 0 := by
  obtain ⟨k, p, h1, h2, _⟩ := h
  rw [h2]
  exact nI_ne0 (by omega) (by omega)
theorem Fx.keep {τ ν τ' ν' : Sg} (h : Fx τ ν) (h1 : τ' 2 6 = τ 2 6 ∧ τ' 2 7 = τ 2 7) (h2 : ν' 171 35 = ν 171 35 ∧ ν' 171 36 = ν 171 36) : Fx τ' ν' := by
  unfold Fx
  rw [h1.1, h1.2, h2.1, h2.2]
  exact h
def Lx (τ ν : Sg) (B : Nat → Nat) (L a : Nat) : Prop := Cx τ B L a ∧ Mx ν B L a
theorem Cx.c60 {τ : Sg} {B : Nat → Nat} {L a : Nat} (h : Cx τ B L a) : τ 2 6 = 0 := h.2.2.2.2.2.2.1
theorem b_word {τ ν : Sg} {B : Nat → Nat} {L a x : Nat} (h : Lx τ ν B L a) (hx : x < 20) : ∃ b τ' ν', Reader_readWord τ (kx x) = some (b, τ') ∧ M_must ν (nI x) = some ν' ∧ CF τ τ' ∧ MF ν ν' ∧ ((b = true ∧ ∃ a', a ≤ a' ∧ Lx τ' ν' B L a') ∨ (b = false ∧ Fx τ' ν')) := by
  have hL := h.1.1
  obtain ⟨s1, s2⟩ := sk_le (B := B) hL.1
  have s3 := (we_le (B := B) s2).1
  obtain ⟨b, τ', a1, a2, a3⟩ := c_word h.1 hx
  obtain ⟨ν', b1, b2, b3⟩ := m_must h.2 hx
  refine ⟨b, τ', ν', a1, b1, a2, b2, ?_⟩
  rcases a3 with ⟨e, k1, k2⟩ | ⟨e, k1, k2, k3⟩
  · rcases b3 with ⟨_, l2⟩ | ⟨l1, _⟩
    · exact Or.inl ⟨e, _, by omega, k2, l2⟩
    · exact absurd k1 l1
  · rcases b3 with ⟨l1, _⟩ | ⟨_, l2, l3⟩
    · exact absurd l1 k1
    · exact Or.inr ⟨e, 1, _, by omega, k2, k3, l2, l3⟩
theorem nmF_ok {B : Nat → Nat} {L a lo hi : Nat} (h : (nmF B L a lo hi).1 = 0) : (nmF B L a lo hi).2 = sk B L a + dN B L (sk B L a) ∧ lo ≤ nmV B L a ∧ nmV B L a ≤ hi := by
  unfold nmF at h ⊢
  split at h
  · exact absurd h (by dsimp only; omega)
  · rename_i c1
    rw [if_neg c1]
    split at h
    · exact absurd h (by dsimp only; omega)
    · rename_i c2
      rw [if_neg c2]
      split at h
      · exact absurd h (by dsimp only; omega)
      · rename_i c3
        rw [if_neg c3]
        unfold nmV
        exact ⟨rfl, by omega, by omega⟩
theorem nmF_k (B : Nat → Nat) (L a lo hi : Nat) : (nmF B L a lo hi).1 ≤ 5 := by
  unfold nmF
  split
  · dsimp only; omega
  · split
    · dsimp only; omega
    · split
      · dsimp only; omega
      · dsimp only; omega
theorem b_num {τ ν : Sg} {B : Nat → Nat} {L a lo hi : Nat} (h : Lx τ ν B L a) (hlo : lo ≤ 9999) (hhi : hi ≤ 9999) : ∃ r τ' r' ν', Reader_readNumber τ (nI lo) (nI hi) = some (r, τ') ∧ M_number ν (nI lo) (nI hi) = some (r', ν') ∧ CF τ τ' ∧ MF ν ν' ∧ ((∃ v, lo ≤ v ∧ v ≤ hi ∧ r = nI v ∧ r' = nI v ∧ ∃ a', a ≤ a' ∧ Lx τ' ν' B L a') ∨ Fx τ' ν') := by
  have hL := h.1.1
  obtain ⟨s1, s2⟩ := sk_le (B := B) hL.1
  obtain ⟨r, τ', a1, a2, a3⟩ := c_num h.1 hlo hhi
  obtain ⟨r', ν', b1, b2, b3⟩ := m_num h.2 hlo hhi
  refine ⟨r, τ', r', ν', a1, b1, a2, b2, ?_⟩
  rcases a3 with ⟨k1, k2, k3⟩ | ⟨k1, k2, k3⟩
  · rcases b3 with ⟨_, l2, l3⟩ | ⟨l1, _⟩
    · obtain ⟨n1, n2, n3⟩ := nmF_ok k1
      exact Or.inl ⟨nmV B L a, n2, n3, k2, l2, _, by omega, k3, l3⟩
    · exact absurd k1 l1
  · rcases b3 with ⟨l1, _⟩ | ⟨_, l2, l3⟩
    · exact absurd l1 k1
    · have := nmF_k B L a lo hi
      exact Or.inr ⟨_, _, ⟨by omega, this⟩, k2, k3, l2, l3⟩
theorem b_end {τ ν : Sg} {B : Nat → Nat} {L a : Nat} (h : Lx τ ν B L a) : ∃ b τ' ν', Reader_readSign τ 59 = some (b, τ') ∧ M_endsWell ν = some ν' ∧ CF τ τ' ∧ MF ν ν' ∧ ((b = true ∧ ∃ a', a < a' ∧ tg B a' = 0 ∧ Lx τ' ν' B L a') ∨ (b = false ∧ Fx τ' ν')) := by
  have hL := h.1.1
  obtain ⟨s1, s2⟩ := sk_le (B := B) hL.1
  obtain ⟨b, τ', a1, a2, a3⟩ := c_sign (c := 59) h.1 (Or.inl rfl)
  obtain ⟨ν', b1, b2, b3⟩ := m_ends h.2
  refine ⟨b, τ', ν', a1, b1, a2, b2, ?_⟩
  rcases a3 with ⟨e, k1, k2, k3⟩ | ⟨e, k1, k2, k3⟩
  · rcases b3 with ⟨_, l2⟩ | ⟨l1, _⟩
    · exact Or.inl ⟨e, _, by omega, k3, k2, l2⟩
    · exact absurd k1 l1
  · rcases b3 with ⟨l1, _⟩ | ⟨_, l2, l3⟩
    · exact absurd l1 k1
    · exact Or.inr ⟨e, 1, _, by omega, k2, k3, l2, l3⟩
/-- the name that stands from a to e -/
def NmAt (ν : Sg) (B : Nat → Nat) (L a e : Nat) : Prop := Mx ν B L e ∧ ν 171 34 = nI a ∧ a < e ∧ e - a ≤ 6 ∧ ∀ i, a ≤ i → i < e → ltr (B i) = true
theorem b_name {τ ν : Sg} {B : Nat → Nat} {L a : Nat} (h : Lx τ ν B L a) : ∃ r τ' ν', Reader_readName τ = some (r, τ') ∧ M_name ν = some ν' ∧ CF τ τ' ∧ MF ν ν' ∧ ((∃ s e, a ≤ s ∧ r = nI (nmN (gl B s e)) ∧ τ' 2 4 = nI s ∧ NmAt ν' B L s e ∧ Lx τ' ν' B L e) ∨ Fx τ' ν') := by
  have hL := h.1.1
  obtain ⟨s1, s2⟩ := sk_le (B := B) hL.1
  obtain ⟨r, τ', a1, a2, a3⟩ := c_name h.1
  obtain ⟨ν', b1, b2, b3⟩ := m_name h.2
  refine ⟨r, τ', ν', a1, b1, a2, b2, ?_⟩
  rcases a3 with ⟨k1, k2, k3, k4⟩ | ⟨k1, k2, p, k3, k4⟩
  · rcases b3 with ⟨_, l2, l3⟩ | ⟨l1, _⟩
    · exact Or.inl ⟨_, _, s1, k2, k4, ⟨l2, l3, k1.2.1, k1.2.2.1, fun i x y => we_in x y⟩, k3, l2⟩
    · exact absurd k1 l1
  · rcases b3 with ⟨l1, _⟩ | ⟨_, l2, p', l3, l4⟩
    · exact absurd l1 k1
    · have := NmP_u k3 l3
      subst this
      exact Or.inr ⟨1, p, by omega, k2, k4, l2, l4⟩
/-! names looked up -/
def fnd (f : Nat → Bool) (m : Nat) : Int32 := if rn (fun i => !f i) 0 m < m then nI (rn (fun i => !f i) 0 m) else -1
theorem c_find {b : Int32 → Option (Int32 ⊕ (Int32 ⊕ Int32))} {f : Nat → Bool} {m : Nat} (hm : m ≤ 100) (hs : ∀ i, i < m → b (nI i) = some (if f i = true then .inr (.inl (nI i)) else .inl (nI (i + 1)))) (he : b (nI m) = some (.inr (.inr (nI m)))) :
    ((zit b zFU (nI 0)).bind fun r => r.elim (fun r => some r) (fun _ => some (-1))) = some (fnd f m) := by
  have hle := rn_le (fun i => !f i) 0 m
  have step : ∀ j, j < rn (fun i => !f i) 0 m → b (nI j) = some (.inl (nI (j + 1))) := by
    intro j hj
    have := rn_in (fun i => !f i) 0 m j hj
    rw [Nat.zero_add] at this
    rw [hs j (by omega), if_neg]
    intro y
    simp [y] at this
  unfold fnd
  rcases Nat.lt_or_ge (rn (fun i => !f i) 0 m) m with x | x
  · have ho := rn_out (fun i => !f i) 0 m x
    rw [Nat.zero_add] at ho
    have hf : f (rn (fun i => !f i) 0 m) = true := by
      cases h : f (rn (fun i => !f i) 0 m)
      · simp [h] at ho
      · rfl
    have : zit b zFU (nI 0) = some (.inl (nI (rn (fun i => !f i) 0 m))) := by
      refine zit_eq (fun j => nI j) _ (rn (fun i => !f i) 0 m) 0 (by omega) (fun j _ hj => step j hj) ?_ zFU 0 (by rw [zFU_e]; omega) (by omega) (by omega)
      rw [hs _ x, if_pos hf]
    rw [this, obs, if_pos x]
    rfl
  · have e : rn (fun i => !f i) 0 m = m := by omega
    have : zit b zFU (nI 0) = some (.inr (nI m)) := by
      refine zit_eq (fun j => nI j) _ m 0 (by omega) (fun j _ hj => step j (by omega)) he zFU 0 (by rw [zFU_e]; omega) (by omega) (by omega)
    rw [this, obs, if_neg (by omega)]
    rfl
theorem fnd_lt (f : Nat → Bool) (m : Nat) : (fnd f m = -1 ∧ ∀ i, i < m → f i = false) ∨ ∃ i, i < m ∧ fnd f m = nI i ∧ f i = true := by
  have hle := rn_le (fun i => !f i) 0 m
  unfold fnd
  rcases Nat.lt_or_ge (rn (fun i => !f i) 0 m) m with x | x
  · right
    have ho := rn_out (fun i => !f i) 0 m x
    rw [Nat.zero_add] at ho
    refine ⟨_, x, if_pos x, ?_⟩
    cases h : f (rn (fun i => !f i) 0 m)
    · simp [h] at ho
    · rfl
  · left
    refine ⟨if_neg (by omega), fun i hi => ?_⟩
    have := rn_in (fun i => !f i) 0 m i (by omega)
    rw [Nat.zero_add] at this
    cases h : f i
    · rfl
    · simp [h] at this
theorem fnd_congr {f g : Nat → Bool} {m : Nat} (h : ∀ i, i < m → f i = g i) : fnd f m = fnd g m := by
  have key : ∀ n, n ≤ m → rn (fun i => !f i) 0 n = rn (fun i => !g i) 0 n := by
    intro n
    induction n with
    | zero => intro _; rfl
    | succ n ih =>
      intro hn
      have hle := rn_le (fun i => !g i) 0 n
      rw [rn_s, rn_s, ih (by omega), h (0 + rn (fun i => !g i) 0 n) (by omega)]
  unfold fnd
  rw [key m (Nat.le_refl _)]
theorem c_poolOf {τ : Sg} {q P : Nat} (hq : τ q 3 = nI P) (hP : P ≤ 8) (v : Int32) : Works_poolOf τ q v = some (fnd (fun i => decide (τ (q + 1) i = v)) P) := by
  unfold Works_poolOf
  rw [zlt_e]
  refine c_find (b := fun (s : Int32) => Works_poolOf_l2 τ q v s) (by omega) (fun i hi => ?_) ?_
  · unfold Works_poolOf_l2
    rw [zgt_e, hq, if_neg (nI_ge hi (by omega)), zrd_e (by omega) (by omega)]
    by_cases e : τ (q + 1) i = v
    · rw [if_pos e, if_pos (decide_eq_true e)]
    · rw [if_neg e, if_neg (by simp [e]), zlt_e, show nI i + 1 = nI (i + 1) from nI_add _ 1]
  · unfold Works_poolOf_l2
    rw [zgt_e, hq, if_pos (nI_le (Nat.le_refl _) (by omega))]
theorem c_outletOf {τ : Sg} {q O : Nat} (hq : τ q 7 = nI O) (hO : O ≤ 10) (v : Int32) : Works_outletOf τ q v = some (fnd (fun i => decide (τ (q + 13) i = v)) O) := by
  unfold Works_outletOf
  rw [zlt_e]
  refine c_find (b := fun (s : Int32) => Works_outletOf_l2 τ q v s) (by omega) (fun i hi => ?_) ?_
  · unfold Works_outletOf_l2
    rw [zgt_e, hq, if_neg (nI_ge hi (by omega)), zrd_e (by omega) (by omega)]
    by_cases e : τ (q + 13) i = v
    · rw [if_pos e, if_pos (decide_eq_true e)]
    · rw [if_neg e, if_neg (by simp [e]), zlt_e, show nI i + 1 = nI (i + 1) from nI_add _ 1]
  · unfold Works_outletOf_l2
    rw [zgt_e, hq, if_pos (nI_le (Nat.le_refl _) (by omega))]
def Name2 (τ ν : Sg) (a b m : Nat) : Prop := ∀ p, p < m → ∃ f : Nat → Nat, (∀ k, k < 6 → ν a (6 * p + k) = nI (f k) ∧ f k ≤ 26) ∧ τ b p = nI (nmN f)
theorem m_sign {ν : Sg} {B : Nat → Nat} {L a e k : Nat} (h : NmAt ν B L a e) (hk : k < 6) : M_signAt ν (nI k) = some (nI (gl B a e k)) := by
  obtain ⟨hm, h34, h1, h2, h3⟩ := h
  have hL := hm.1
  unfold M_signAt gl
  rw [zgt_e, zgt_e, h34, hm.2.2.2.1, nI_add]
  by_cases x : a + k < e
  · obtain ⟨b1, b2⟩ := hm.2.1 (a + k) (by omega)
    have := ltr_t (h3 (a + k) (by omega) x)
    rw [if_neg (nI_ge x (by omega)), zgt_e, h34, nI_add, zrd_e (by omega) (by omega), b1, show (96 : Int32) = nI 96 from rfl, nI_sub (by omega), if_pos x]
  · rw [if_pos (nI_le (by omega) (by omega)), if_neg x]
    rfl
theorem m_among {τ ν : Sg} {B : Nat → Nat} {L a e w n b m : Nat} (h : NmAt ν B L a e) (hN : Name2 τ ν w b m) (hm : m ≤ 10) (hn : 6 * m ≤ n) (hn2 : n ≤ 60) : M_among ν w n (nI m) = some (fnd (fun i => decide (τ b i = nI (nmN (gl B a e)))) m) := by
  have hg : ∀ k, k < 6 → gl B a e k ≤ 26 := fun k _ => gl_le h.2.2.2.2 k
  have hgl := nmN_lt hg
  unfold M_among
  rw [zlt_e]
  refine c_find (b := fun (s : Int32) => M_among_l2 ν w n (nI m) s) (by omega) (fun i hi => ?_) ?_
  · obtain ⟨f, f1, f2⟩ := hN i hi
    have hf : ∀ k, k < 6 → f k ≤ 26 := fun k hk => (f1 k hk).2
    have hfl := nmN_lt hf
    have inner : zit (fun (s : (Int32 × Int32)) => M_among_l20 ν w n (nI m) (nI i) s.1 s.2) zFU (1, nI 0) = some ((if anyB (fun j => decide (f j ≠ gl B a e j)) 6 = true then 0 else 1), nI 6) := by
      refine zit_eq (fun j => ((if anyB (fun j => decide (f j ≠ gl B a e j)) j = true then 0 else 1), nI j)) _ 6 0 (by omega) (fun j _ hj => ?_) ?_ zFU 0 (by rw [zFU_e]; omega) (by omega) (by omega)
      · show M_among_l20 ν w n (nI m) (nI i) (if anyB (fun j => decide (f j ≠ gl B a e j)) j = true then 0 else 1) (nI j) = _
        have hfj := hf j hj
        have hgj := hg j hj
        unfold M_among_l20
        rw [if_neg (show ¬ (6 : Int32) ≤ nI j from (nI_ge hj (by omega) : ¬ nI 6 ≤ nI j)), anyB_succ]
        cases hA : anyB (fun j => decide (f j ≠ gl B a e j)) j
        · rw [if_neg (show ¬ false = true by decide), if_neg (show ¬ (1 : Int32) = 0 by decide), show (6 : Int32) = nI 6 from rfl, nI_mul, nI_add, zrd_e (by omega) (by omega), (f1 j hj).1, m_sign h hj, obs]
          by_cases q : f j = gl B a e j
          · rw [if_pos (congrArg nI q), zlt_e, zlt_e, show nI j + 1 = nI (j + 1) from nI_add _ 1, decide_eq_false (p := f j ≠ gl B a e j) (fun y => y q)]
            rfl
          · rw [if_neg (fun y => q ((nI_eq (by omega) (by omega)).mp y)), zlt_e, zlt_e, show nI j + 1 = nI (j + 1) from nI_add _ 1, decide_eq_true (p := f j ≠ gl B a e j) q]
            rfl
        · rw [if_pos rfl, if_pos rfl, zlt_e, zlt_e, show nI j + 1 = nI (j + 1) from nI_add _ 1]
          rfl
      · show M_among_l20 ν w n (nI m) (nI i) _ (nI 6) = _
        unfold M_among_l20
        exact if_pos (by decide)
    have hiff : (τ b i = nI (nmN (gl B a e))) ↔ anyB (fun j => decide (f j ≠ gl B a e j)) 6 = false := by
      rw [f2]
      constructor
      · intro y
        have y2 := nmN_inj hf hg ((nI_eq (by omega) (by omega)).mp y)
        cases hA : anyB (fun j => decide (f j ≠ gl B a e j)) 6
        · rfl
        · exfalso
          have : anyB (fun j => decide (f j ≠ gl B a e j)) 6 = anyB (fun _ => false) 6 := anyB_congr (fun j hj => decide_eq_false (fun z => z (y2 j hj)))
          rw [this] at hA
          exact absurd hA (by decide)
      · intro y
        refine congrArg nI (nmN_congr (fun k hk => ?_))
        by_cases z : f k = gl B a e k
        · exact z
        · have := anyB_true (f := fun j => decide (f j ≠ gl B a e j)) hk (decide_eq_true z)
          rw [y] at this
          exact absurd this (by decide)
    unfold M_among_l2
    rw [if_neg (nI_ge hi (by omega)), m_well h.1, bt, zlt_e, zlt_e, show (0 : Int32) = nI 0 from rfl, inner, obs]
    dsimp only
    unfold M_among_j2_63
    cases hA : anyB (fun j => decide (f j ≠ gl B a e j)) 6
    · rw [if_neg (show ¬ (if false = true then (0 : Int32) else 1) = 0 by decide), if_pos (decide_eq_true (hiff.mpr hA))]
    · rw [if_pos (show (if true = true then (0 : Int32) else 1) = 0 by decide), zlt_e, show nI i + 1 = nI (i + 1) from nI_add _ 1, if_neg]
      intro y
      have := hiff.mp (of_decide_eq_true y)
      rw [hA] at this
      exact absurd this (by decide)
  · unfold M_among_l2
    rw [if_pos (nI_le (Nat.le_refl _) (by omega))]
theorem Mf.among {ν : Sg} (h : Mf ν) (w n m : Nat) (hm : m ≤ 10) : M_among ν w n (nI m) = some (-1) := by
  have : zit (fun (s : Int32) => M_among_l2 ν w n (nI m) s) zFU (nI 0) = some (.inr (nI 0)) := by
    refine zit_eq (fun j => nI j) _ 0 0 (by omega) (fun j _ hj => by omega) ?_ zFU 0 (by rw [zFU_e]; omega) (by omega) (by omega)
    unfold M_among_l2
    split
    · rfl
    · rw [h.well, bf]
  unfold M_among
  rw [zlt_e, show (0 : Int32) = nI 0 from rfl, this, obs]
  rfl
