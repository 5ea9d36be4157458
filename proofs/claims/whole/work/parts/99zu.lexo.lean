/-! reading: the reference's own words, numbers, names, ends -/
theorem m_own {ν : Sg} {B : Nat → Nat} {L f e : Nat} (h : Mx ν B L e) (h34 : ν 171 34 = nI f) (hf : f ≤ e) (hl : ∀ i, f ≤ i → i < e → ltr (B i) = true) : ∃ r, M_own ν = some r ∧ ((∃ x, x < 20 ∧ isW B f e x ∧ r = nI x) ∨ (r = -1 ∧ ∀ x, x < 20 → ¬ isW B f e x)) := by
  have hL := h.1
  have ho : ∀ j, j < 104 → ν 188 j = nI (own j) := fun j hj => by rw [h.2.2.2.2.2]; exact own_row hj
  have h33 := h.2.2.2.1
  have lp : Ok (zit (fun (s : (Int32 × Int32)) => M_own_l4 ν s.1 s.2) zFU (nI 0, nI 0)) (fun r => (∃ x, x < 20 ∧ isW B f e x ∧ r = .inl (nI x)) ∨ ((∃ y, r = .inr y) ∧ ∀ x, x < 20 → ¬ isW B f e x)) := by
    refine zit_ok (fun x s => s = (nI (wst x), nI x) ∧ ∀ y, y < x → ¬ isW B f e y) 20 ?_ ?_ zFU 0 _ (by rw [zFU_e]; omega) (by omega) ⟨rfl, fun y hy => by omega⟩
    · rintro x s hx ⟨rfl, i2⟩
      obtain ⟨w1, w2, w3, w4, w5, w6, _, _⟩ := w_tab hx
      have l12 : Ok (zit (fun (s : Int32) => M_own_l12 ν (nI (wst x)) (nI x) s) zFU (nI 0)) (fun r => ∃ j, r = nI j ∧ j ≤ wln x ∧ f + j ≤ e ∧ (∀ i, i < j → B (f + i) = own (wst x + i) + 96) ∧ (j = wln x ∨ f + j = e ∨ B (f + j) ≠ own (wst x + j) + 96)) := by
        refine zit_ok (fun j s => s = nI j ∧ f + j ≤ e ∧ ∀ i, i < j → B (f + i) = own (wst x + i) + 96) (wln x) ?_ ?_ zFU 0 _ (by rw [zFU_e]; omega) (by omega) ⟨rfl, by omega, fun i hi => by omega⟩
        · rintro j s hj ⟨rfl, k1, k2⟩
          have ow1 := w6 j hj
          unfold M_own_l12
          rw [nI_add, zrd_e (by omega) (by omega), ho _ (by omega), if_neg (nI_ne0 (by omega) (by omega)), zgt_e, zgt_e, h33, h34, nI_add]
          rcases Nat.lt_or_ge (f + j) e with y | y
          · obtain ⟨b1, b2⟩ := h.2.1 (f + j) (by omega)
            have hlt := ltr_t (hl (f + j) (by omega) y)
            rw [if_neg (nI_ge y (by omega)), zgt_e, h34, nI_add, zrd_e (by omega) (by omega), b1, zrd_e (by omega) (by omega), ho _ (by omega), show (96 : Int32) = nI 96 from rfl, nI_sub (by omega)]
            by_cases q : B (f + j) = own (wst x + j) + 96
            · rw [if_pos (congrArg nI (by omega)), zlt_e]
              refine Ok.some ⟨nI_add j 1, by omega, fun i hi => ?_⟩
              by_cases e2 : i = j
              · subst e2; exact q
              · exact k2 i (by omega)
            · rw [if_neg (fun z => q (by have := (nI_eq (by omega) (by omega)).mp z; omega))]
              exact Ok.some ⟨j, rfl, by omega, k1, k2, Or.inr (Or.inr q)⟩
          · rw [if_pos (nI_le y (by omega))]
            exact Ok.some ⟨j, rfl, by omega, k1, k2, Or.inr (Or.inl (by omega))⟩
        · rintro s ⟨rfl, k1, k2⟩
          unfold M_own_l12
          rw [nI_add, zrd_e (by omega) (by omega), ho _ (by omega), w3, if_pos (show nI 0 = 0 from rfl)]
          exact Ok.some ⟨wln x, rfl, Nat.le_refl _, k1, k2, Or.inl rfl⟩
      obtain ⟨r, z1, j, rfl, z3, z4, z5, z6⟩ := l12
      have l93 : zit (fun (s : Int32) => M_own_l93 ν s (nI x)) zFU (nI (wst x + 0)) = some (nI (wst x + wln x)) := by
        refine zit_eq (fun j => nI (wst x + j)) _ (wln x) 0 (by omega) (fun j _ hj => ?_) ?_ zFU 0 (by rw [zFU_e]; omega) (by omega) (by omega)
        · have ow1 := w6 j hj
          unfold M_own_l93
          rw [zrd_e (by omega) (by omega), ho _ (by omega), if_neg (nI_ne0 (by omega) (by omega)), zlt_e, show nI (wst x + j) + 1 = nI (wst x + (j + 1)) from nI_add _ 1]
        · unfold M_own_l93
          rw [zrd_e (by omega) (by omega), ho _ (by omega), w3, if_pos (show nI 0 = 0 from rfl)]
      have l93' : zit (fun (s : Int32) => M_own_l93 ν s (nI x)) zFU (nI (wst x)) = some (nI (wst x + wln x)) := l93
      have nx : ¬ isW B f e x → ∀ y, y < x + 1 → ¬ isW B f e y := fun q y hy => by
        by_cases e2 : y = x
        · subst e2; exact q
        · exact i2 y (by omega)
      have go : ∀ (P : ((Int32 × Int32) ⊕ (Int32 ⊕ (Int32 × Int32))) → Prop), P (.inl (nI (wst (x + 1)), nI (x + 1))) → Ok ((zit (fun (s : Int32) => M_own_l93 ν s (nI x)) zFU (nI (wst x))).bind fun r => zlt (r + 1) fun v108 => zlt (nI x + 1) fun v111 => some (.inl (v108, v111))) P := by
        intro P hP
        rw [l93', obs, zlt_e, zlt_e, show nI (wst x + wln x) + 1 = nI (wst x + wln x + 1) from nI_add _ 1, w1, show nI x + 1 = nI (x + 1) from nI_add _ 1]
        exact Ok.some hP
      show Ok (M_own_l4 ν (nI (wst x)) (nI x)) _
      unfold M_own_l4
      rw [show (104 : Int32) = nI 104 from rfl, if_neg (nI_ge (by omega) (by omega)), zlt_e, show (0 : Int32) = nI 0 from rfl, z1, obs]
      unfold M_own_j4_67
      rw [nI_add, zrd_e (by omega) (by omega), ho _ (by omega)]
      by_cases q1 : j = wln x
      · subst q1
        rw [w3, if_pos (show nI 0 = 0 from rfl), zgt_e, zgt_e, h34, h33, nI_add]
        by_cases q2 : f + wln x = e
        · rw [if_pos (congrArg nI q2)]
          exact Ok.some (Or.inl ⟨x, hx, ⟨by omega, z5⟩, rfl⟩)
        · rw [if_neg (fun z => q2 ((nI_eq (by omega) (by omega)).mp z))]
          exact go _ ⟨rfl, nx (fun y => by have := y.1; omega)⟩
      · have ow1 := w6 j (by omega)
        rw [if_neg (nI_ne0 (by omega) (by omega))]
        refine go _ ⟨rfl, nx (fun y => ?_)⟩
        rcases z6 with z | z | z
        · exact q1 z
        · have := y.1; omega
        · exact z (y.2 j (by omega))
    · rintro s ⟨rfl, i2⟩
      show Ok (M_own_l4 ν (nI (wst 20)) (nI 20)) _
      unfold M_own_l4
      rw [if_pos (show (104 : Int32) ≤ nI (wst 20) by decide)]
      exact Ok.some (Or.inr ⟨⟨_, rfl⟩, i2⟩)
  obtain ⟨r, z1, z2⟩ := lp
  unfold M_own
  rw [zlt_e, zlt_e, show (0 : Int32) = nI 0 from rfl, z1, obs]
  rcases z2 with ⟨x, x1, x2, rfl⟩ | ⟨⟨y, rfl⟩, z3⟩
  · exact ⟨nI x, rfl, Or.inl ⟨x, x1, x2, rfl⟩⟩
  · exact ⟨-1, rfl, Or.inr ⟨rfl, z3⟩⟩
theorem m_must {ν : Sg} {B : Nat → Nat} {L a x : Nat} (h : Mx ν B L a) (hx : x < 20) : ∃ ν', M_must ν (nI x) = some ν' ∧ MF ν ν' ∧ ((WdOk B L a x ∧ Mx ν' B L (we B L (sk B L a))) ∨ (¬ WdOk B L a x ∧ ν' 171 35 = nI 1 ∧ ν' 171 36 = nI (sk B L a))) := by
  obtain ⟨ν1, a1, a2, a3⟩ := m_word h
  have w4 := (w_tab hx).2.2.2.1
  unfold M_must
  rw [a1, obs]
  rcases a3 with ⟨t, q, hm, h34⟩ | ⟨n1, f1, f2⟩
  · obtain ⟨r, o1, o2⟩ := m_own hm h34 (by omega) (fun i x y => we_in x y)
    rw [m_well hm, bt, o1, obs]
    rcases o2 with ⟨y, y1, y2, rfl⟩ | ⟨rfl, o3⟩
    · by_cases e : y = x
      · subst e
        rw [if_pos rfl]
        exact ⟨_, rfl, a2, Or.inl ⟨⟨t, y2⟩, hm⟩⟩
      · rw [if_neg (fun z => e ((nI_eq (by omega) (by omega)).mp z)), zgt_e, h34, m_fault hm, obs]
        exact ⟨_, rfl, a2.trans (m_faultF _ _), Or.inr ⟨fun z => e (isW_u y1 hx y2 z.2), f35, f36⟩⟩
    · rw [if_neg (show ¬ (-1 : Int32) = nI x from fun z => by
        have := congrArg Int32.toInt z
        rw [nI_toInt (by omega), show (-1 : Int32).toInt = -1 by decide] at this
        omega), zgt_e, h34, m_fault hm, obs]
      exact ⟨_, rfl, a2.trans (m_faultF _ _), Or.inr ⟨fun z => o3 x hx z.2, f35, f36⟩⟩
  · have gw : M_goesWell ν1 = some false := by
      unfold M_goesWell
      rw [zgt_e, f1]
      exact if_neg (by decide)
    rw [gw, bf]
    exact ⟨_, rfl, a2, Or.inr ⟨fun z => n1 ⟨z.1, by have := z.2.1; omega⟩, f1, f2⟩⟩
theorem m_name {ν : Sg} {B : Nat → Nat} {L a : Nat} (h : Mx ν B L a) : ∃ ν', M_name ν = some ν' ∧ MF ν ν' ∧ ((NmOk B L a ∧ Mx ν' B L (we B L (sk B L a)) ∧ ν' 171 34 = nI (sk B L a)) ∨ (¬ NmOk B L a ∧ ν' 171 35 = nI 1 ∧ ∃ p, NmP B L a p ∧ ν' 171 36 = nI p)) := by
  obtain ⟨ν1, a1, a2, a3⟩ := m_word h
  unfold M_name
  rw [a1, obs]
  rcases a3 with ⟨t, q, hm, h34⟩ | ⟨n1, f1, f2⟩
  · have hm1 := hm.1
    obtain ⟨r, o1, o2⟩ := m_own hm h34 (by omega) (fun i x y => we_in x y)
    rw [m_well hm, bt, o1, obs]
    rcases o2 with ⟨y, y1, y2, rfl⟩ | ⟨rfl, o3⟩
    · have w5 := (w_tab y1).2.2.2.2.1
      rw [if_neg (show ¬ nI y = (-1 : Int32) from fun z => by
        have := congrArg Int32.toInt z
        rw [nI_toInt (by omega), show (-1 : Int32).toInt = -1 by decide] at this
        omega), zgt_e, h34, m_fault hm, obs]
      exact ⟨_, rfl, a2.trans (m_faultF _ _), Or.inr ⟨fun z => z.2.2.2 y y1 y2, f35, _, Or.inr ⟨rfl, fun z => by have := z.2; have := y2.1; omega⟩, f36⟩⟩
    · rw [if_pos rfl, zgt_e, zgt_e, h34, hm.2.2.2.1, nI_sub (by omega), show (6 : Int32) = nI 6 from rfl]
      by_cases q2 : we B L (sk B L a) - sk B L a ≤ 6
      · rw [if_pos (nI_le q2 (by omega))]
        exact ⟨_, rfl, a2, Or.inl ⟨⟨t, q, q2, o3⟩, hm, h34⟩⟩
      · rw [if_neg (nI_ge (by omega) (by omega)), zgt_e, h34, nI_add, m_fault hm, obs]
        exact ⟨_, rfl, a2.trans (m_faultF _ _), Or.inr ⟨fun z => q2 z.2.2.1, f35, _, Or.inl ⟨rfl, t, by omega⟩, f36⟩⟩
  · have gw : M_goesWell ν1 = some false := by
      unfold M_goesWell
      rw [zgt_e, f1]
      exact if_neg (by decide)
    rw [gw, bf]
    exact ⟨_, rfl, a2, Or.inr ⟨fun z => n1 ⟨z.1, z.2.1⟩, f1, _, Or.inr ⟨rfl, fun z => n1 ⟨z.1, by have := z.2; omega⟩⟩, f2⟩⟩
theorem NmP_u {B : Nat → Nat} {L a p p' : Nat} (h : NmP B L a p) (h' : NmP B L a p') : p = p' := by
  rcases h with ⟨e, h⟩ | ⟨e, h⟩
  · rcases h' with ⟨e', h'⟩ | ⟨e', h'⟩
    · omega
    · exact absurd h h'
  · rcases h' with ⟨e', h'⟩ | ⟨e', h'⟩
    · exact absurd h' h
    · omega
theorem bA_eq {B : Nat → Nat} {L i c : Nat} (hb : i < L → B i < 256) (hc : c < 256) : (bA B L i = nI c) ↔ (i < L ∧ B i = c) := by
  unfold bA
  by_cases x : i < L
  · have := hb x
    rw [if_pos x]
    constructor
    · intro h; exact ⟨x, (nI_eq (by omega) (by omega)).mp h⟩
    · intro h; rw [h.2]
  · rw [if_neg x]
    constructor
    · intro z
      have := congrArg Int32.toInt z
      rw [nI_toInt (by omega), show (-1 : Int32).toInt = -1 by decide] at this
      omega
    · intro h; exact absurd h.1 x
theorem m_ends {ν : Sg} {B : Nat → Nat} {L a : Nat} (h : Mx ν B L a) : ∃ ν', M_endsWell ν = some ν' ∧ MF ν ν' ∧ ((SgOk B L a 59 ∧ Mx ν' B L (sk B L a + 1)) ∨ (¬ SgOk B L a 59 ∧ ν' 171 35 = nI 1 ∧ ν' 171 36 = nI (sk B L a))) := by
  have hL := h.1
  obtain ⟨s1, s2⟩ := sk_le (B := B) hL.1
  have h1 := h.to s2
  have hq := bA_eq (B := B) (L := L) (i := sk B L a) (c := 59) (fun x => (h.2.1 _ x).2) (by omega)
  unfold M_endsWell
  rw [m_well h, bt, m_here h, obs]
  dsimp only
  by_cases q : SgOk B L a 59
  · rw [if_pos (show bA B L (sk B L a) = 59 from hq.mpr q), zgt_e, zup_hit, zpt_e, show nI (sk B L a) + 1 = nI (sk B L a + 1) from nI_add _ 1]
    exact ⟨_, rfl, (MF.up (by omega)).trans (MF.up (by omega)), Or.inl ⟨q, h1.to (by have := q.1; omega)⟩⟩
  · rw [if_neg (show ¬ bA B L (sk B L a) = 59 from fun z => q (hq.mp z)), zgt_e, zup_hit, m_fault h1, obs]
    exact ⟨_, rfl, (MF.up (by omega)).trans (m_faultF _ _), Or.inr ⟨q, f35, f36⟩⟩
/-- a fault stands: nothing more is read -/
def Mf (ν : Sg) : Prop := ∃ k, 1 ≤ k ∧ k ≤ 5 ∧ ν 171 35 = nI k
theorem Mf.well {ν : Sg} (h : Mf ν) : M_goesWell ν = some false := by
  obtain ⟨k, h1, h2, h3⟩ := h
  unfold M_goesWell
  rw [zgt_e, h3]
  exact if_neg (nI_ne0 (by omega) (by omega))
theorem Mf.word {ν : Sg} (h : Mf ν) : M_word ν = some ν := by
  unfold M_word
  rw [h.well, bf]
theorem Mf.must {ν : Sg} (h : Mf ν) (x : Int32) : M_must ν x = some ν := by
  unfold M_must
  rw [h.word, obs, h.well, bf]
theorem Mf.number {ν : Sg} (h : Mf ν) (x y : Int32) : M_number ν x y = some (0, ν) := by
  unfold M_number
  rw [h.well, bf]
theorem Mf.after {ν : Sg} (h : Mf ν) (x y z : Int32) : M_after ν x y z = some (0, ν) := by
  unfold M_after
  rw [h.must, obs, h.number, obs]
theorem Mf.name {ν : Sg} (h : Mf ν) : M_name ν = some ν := by
  unfold M_name
  rw [h.word, obs, h.well, bf]
theorem Mf.ends {ν : Sg} (h : Mf ν) : M_endsWell ν = some ν := by
  unfold M_endsWell
  rw [h.well, bf]
theorem Mf.faults {ν : Sg} (h : Mf ν) (x y : Int32) : M_faults ν x y = some ν := by
  obtain ⟨k, h1, h2, h3⟩ := h
  unfold M_faults
  rw [zgt_e, h3]
  exact if_neg (nI_ne0 (by omega) (by omega))
