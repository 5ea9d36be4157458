/-! what stands between two calls: the core, and what leaves it -/
def KEq (μ μ' : Sg) : Prop := (μ' 171 0 = μ 171 0 ∧ μ' 171 1 = μ 171 1 ∧ μ' 171 2 = μ 171 2) ∧ (μ' 172 = μ 172 ∧ μ' 173 = μ 173 ∧ μ' 174 = μ 174)
theorem KEq.e_nP {μ μ' : Sg} (h : KEq μ μ') : nP μ' = nP μ := by unfold nP; rw [h.1.1]
theorem KEq.e_nO {μ μ' : Sg} (h : KEq μ μ') : nO μ' = nO μ := by unfold nO; rw [h.1.2.1]
theorem KEq.e_nT {μ μ' : Sg} (h : KEq μ μ') : nT μ' = nT μ := by unfold nT; rw [h.1.2.2]
theorem KEq.e_tl {μ μ' : Sg} (h : KEq μ μ') : tl μ' = tl μ := by funext p j; unfold tl; rw [h.2.1]
theorem KEq.e_opl {μ μ' : Sg} (h : KEq μ μ') : opl μ' = opl μ := by funext p; unfold opl; rw [h.2.2.1]
theorem KEq.e_tk {μ μ' : Sg} (h : KEq μ μ') : tk μ' = tk μ := by funext p; unfold tk; rw [h.2.2.1]
theorem KEq.e_ev {μ μ' : Sg} (h : KEq μ μ') : ev μ' = ev μ := by funext p; unfold ev; rw [h.2.2.2]
theorem KEq.e_sz {μ μ' : Sg} (h : KEq μ μ') : sz μ' = sz μ := by funext p; unfold sz; rw [h.2.2.2]
theorem KEq.e_mid {μ μ' : Sg} (h : KEq μ μ') : mid μ' = mid μ := by funext k; unfold mid; rw [h.2.1]
theorem KEq.e_InvK {μ μ' : Sg} (h : KEq μ μ') (hK : InvK μ) : InvK μ' := by
  unfold InvK at hK ⊢
  rw [h.e_nP, h.e_nO, h.e_nT, h.e_tl, h.e_opl, h.e_tk, h.e_ev, h.e_sz, h.1.1, h.1.2.1, h.1.2.2, h.2.1, h.2.2.1, h.2.2.2]
  exact hK
theorem KEq.e_RepK {σ μ μ' : Sg} {p1 : Nat} (h : KEq μ μ') (hR : RepK σ p1 μ) : RepK σ p1 μ' := by
  unfold RepK at hR ⊢
  rw [h.e_nP, h.e_nO, h.e_nT, h.e_sz, h.e_mid, h.1.1, h.1.2.1, h.1.2.2, h.2.1, h.2.2.1, h.2.2.2]
  exact hR
theorem RepK.rows {σ τ μ : Sg} {p1 : Nat} (h : RepK σ p1 μ) (hT : nT μ ≤ 2) (f : ∀ a, p1 ≤ a → a ≤ p1 + 25 → τ a = σ a) : RepK τ p1 μ := by
  obtain ⟨h1, h2, h3, h4⟩ := h
  refine ⟨?_, fun p hp => ?_, fun o ho => ?_, fun t ht => ?_⟩
  · rw [f p1 (by omega) (by omega), f (p1 + 20) (by omega) (by omega)]; exact h1
  · rw [f (p1 + 3) (by omega) (by omega), f (p1 + 4) (by omega) (by omega), f (p1 + 5) (by omega) (by omega), f (p1 + 6) (by omega) (by omega), f (p1 + 7) (by omega) (by omega), f (p1 + 8) (by omega) (by omega), f (p1 + 9) (by omega) (by omega), f (p1 + 10) (by omega) (by omega), f (p1 + 11) (by omega) (by omega), f (p1 + 12) (by omega) (by omega)]
    exact h2 p hp
  · rw [f (p1 + 14) (by omega) (by omega), f (p1 + 15) (by omega) (by omega)]
    exact h3 o ho
  · rw [f (p1 + 21) (by omega) (by omega), f (p1 + 22) (by omega) (by omega), f (p1 + 24 + t) (by omega) (by omega)]
    exact h4 t ht
/-- alike but for the orders -/
def WEq (μ μ' : Sg) : Prop := KEq μ μ' ∧ ∀ i, i < 148 ∨ 196 ≤ i → i ≠ 199 → μ' 183 i = μ 183 i
theorem WEq.e_stp {μ μ' : Sg} (h : WEq μ μ') : stp μ' = stp μ := by unfold stp; rw [h.2 196 (by omega) (by omega)]
theorem WEq.e_RepW {σ μ μ' : Sg} {w : Nat} (h : WEq μ μ') (hK : InvK μ) (hR : RepW σ w μ) : RepW σ w μ' := by
  obtain ⟨⟨v1, v2, v3, v4, v5, v6, v7⟩, hA, hZ⟩ := hR
  have hP8 := hK.1.2
  have hO10 := hK.2.1.2
  have c := h.2
  refine ⟨⟨fun p hp => ?_, fun o ho => ?_, fun i hi => ?_, ?_, ?_, ?_, ?_⟩, fun p hp => ?_, fun p hp i hi hi9 => ?_⟩
  · rw [h.1.e_nP] at hp
    rw [c p (by omega) (by omega), c (8 + p) (by omega) (by omega), c (24 + p) (by omega) (by omega), c (16 + p) (by omega) (by omega)]
    exact v1 p hp
  · rw [h.1.e_nO] at ho
    rw [c (128 + o) (by omega) (by omega), c (138 + o) (by omega) (by omega)]
    exact v2 o ho
  · rw [c (200 + i) (by omega) (by omega)]; exact v3 i hi
  · rw [v4, h.1.e_nO]
    exact sm_congr (fun o ho => (c (138 + o) (by omega) (by omega)).symm)
  · rw [c 196 (by omega) (by omega)]; exact v5
  · rw [c 197 (by omega) (by omega)]; exact v6
  · rw [c 198 (by omega) (by omega)]; exact v7
  · rw [h.1.e_nP] at hp
    have hd := (hK.2.2.2.2.1 p hp).1
    rw [h.e_stp]
    refine ⟨fun k hk => ?_, fun k hk hk2 => ?_⟩
    · rw [h.1.e_tl] at hk ⊢
      rw [c _ (by omega) (by omega)]
      exact (hA p hp).1 k hk
    · rw [h.1.e_tl] at hk
      rw [c _ (by omega) (by omega)]
      exact (hA p hp).2 k hk hk2
  · rw [h.1.e_nP] at hp
    rw [h.1.e_tl] at hi
    exact hZ p hp i hi hi9
theorem WEq.e_RepLg {σ μ μ' : Sg} {w : Nat} (h : WEq μ μ') (hR : RepLg σ w μ) : RepLg σ w μ' := by
  obtain ⟨kept, g1, g2, g3, g4, g5, g6⟩ := hR
  have c := h.2
  refine ⟨kept, g1, by rw [h.e_stp]; exact g2, by rw [c 205 (by omega) (by omega)]; exact g3, fun k hk j hj => ?_, ?_, fun k hk p hp j hj => ?_⟩
  · rw [c _ (by omega) (by omega)]; exact g4 k hk j hj
  · rw [c 206 (by omega) (by omega), h.e_stp]; exact g5
  · rw [h.e_stp] at hk ⊢
    rw [h.1.e_nP] at hp
    rw [c _ (by omega) (by omega)]
    exact g6 k hk p hp j hj
theorem WEq.e_InvS {μ μ' : Sg} (h : WEq μ μ') (hR : InvS μ) : InvS μ' := by
  unfold InvS at hR ⊢
  rw [h.e_stp, h.2 196 (by omega) (by omega)]
  exact hR
theorem WEq.e_InvWs {μ μ' : Sg} (h : WEq μ μ') (hK : InvK μ) (hR : InvWs μ) : InvWs μ' := by
  have hP8 := hK.1.2
  have c := h.2
  intro p hp
  rw [h.1.e_nP] at hp
  have := hR p hp
  unfold stnd at this ⊢
  rw [h.e_stp, c (32 + p) (by omega) (by omega), c (120 + p) (by omega) (by omega), c (327 + 4 * p + 3) (by omega) (by omega), c p (by omega) (by omega), h.1.2.1]
  exact this
theorem WEq.e_InvR {μ μ' : Sg} (h : WEq μ μ') (hK : InvK μ) (hR : InvR μ) : InvR μ' := by
  have hP8 := hK.1.2
  have hO10 := hK.2.1.2
  have c := h.2
  refine ⟨fun p hp => ?_, ?_, fun o ho => ?_⟩
  · rw [h.1.e_nP] at hp
    obtain ⟨r1, r2, r3, r4, r5⟩ := hR.1 p hp
    rw [h.1.e_tl, c p (by omega) (by omega), c (8 + p) (by omega) (by omega), c (16 + p) (by omega) (by omega), c (24 + p) (by omega) (by omega)]
    exact ⟨r1, r2, r3, r4, fun k hk => by rw [c _ (by omega) (by omega)]; exact r5 k hk⟩
  · rw [c 197 (by omega) (by omega)]; exact hR.2.1
  · rw [h.1.e_nO] at ho
    rw [c _ (by omega) (by omega), h.e_stp]
    exact hR.2.2 o ho
theorem WEq.e_Mom {σ μ μ' : Sg} {m : Nat} (h : WEq μ μ') (hK : InvK μ) (hM : Mom σ m μ) (h1 : RepOr σ (m + 18) μ') (h2 : InvO μ') : Mom σ m μ' := by
  obtain ⟨a1, _, a3, _, a5, a6, a7⟩ := hM
  exact ⟨h.e_RepW hK a1, h1, h.e_RepLg a3, h2, h.e_InvS a5, h.e_InvWs hK a6, h.e_InvR hK a7⟩
theorem Mom.rows {σ τ μ : Sg} (h : Mom σ 55 μ) (f : ∀ a, 56 ≤ a → a < 80 → a < 65 ∨ 72 < a → τ a = σ a) : Mom τ 55 μ := by
  obtain ⟨g1, g2, g3, g4⟩ := h
  refine ⟨?_, ?_, ?_, g4⟩
  · unfold RepW RepV WayA WayZ at g1 ⊢
    simp only [Nat.reduceAdd] at g1 ⊢
    rw [f 56 (by omega) (by omega) (by omega), f 57 (by omega) (by omega) (by omega), f 58 (by omega) (by omega) (by omega), f 59 (by omega) (by omega) (by omega), f 60 (by omega) (by omega) (by omega), f 61 (by omega) (by omega) (by omega), f 62 (by omega) (by omega) (by omega), f 63 (by omega) (by omega) (by omega), f 64 (by omega) (by omega) (by omega)]
    exact g1
  · unfold RepOr at g2 ⊢
    simp only [Nat.reduceAdd] at g2 ⊢
    rw [f 73 (by omega) (by omega) (by omega), f 74 (by omega) (by omega) (by omega), f 75 (by omega) (by omega) (by omega), f 76 (by omega) (by omega) (by omega)]
    exact g2
  · unfold RepLg at g3 ⊢
    simp only [Nat.reduceAdd] at g3 ⊢
    rw [f 77 (by omega) (by omega) (by omega), f 78 (by omega) (by omega) (by omega), f 79 (by omega) (by omega) (by omega)]
    exact g3
/-- names: letters against numbers -/
def nmN (f : Nat → Nat) : Nat := ((((f 0 * 32 + f 1) * 32 + f 2) * 32 + f 3) * 32 + f 4) * 32 + f 5
def NmR (σ : Sg) (a b m : Nat) : Prop := ∀ p, p < m → ∃ f : Nat → Nat, (∀ k, k < 6 → σ a (6 * p + k) = nI (f k) ∧ f k ≤ 26) ∧ σ b p = nI (nmN f)
theorem NmR.rows {σ τ : Sg} {a b m : Nat} (h : NmR σ a b m) (h1 : τ a = σ a) (h2 : τ b = σ b) : NmR τ a b m := by
  unfold NmR
  rw [h1, h2]
  exact h
def RepNm (σ : Sg) (p1 : Nat) : Prop := NmR σ 175 (p1 + 1) (nP σ) ∧ NmR σ 176 (p1 + 13) (nO σ)
def Cor (σ : Sg) (n p1 K t c R q : Nat) (s : Nat → Nat) : Prop := Base σ p1 ∧ Told σ ∧ Zhi σ ∧ RepNm σ p1 ∧ Ring σ n K t c ∧ Seen σ R q s
/-- what the core sees -/
def KC (σ υ : Sg) : Prop := (∀ k, k = 3 ∨ k = 4 ∨ k = 5 ∨ k = 10 ∨ k = 11 → υ 0 k = σ 0 k) ∧
  (∀ a, (3 ≤ a ∧ a < 65) ∨ (72 < a ∧ a < 81) ∨ a = 125 ∨ a = 126 ∨ (171 < a ∧ a < 177) ∨ a = 185 ∨ a = 194 ∨ a = 195 ∨ 197 < a → υ a = σ a) ∧
  (∀ k, k ≠ 4 → υ 124 k = σ 124 k) ∧ (∀ k, k = 0 ∨ k = 1 ∨ k = 2 ∨ k = 23 ∨ k = 25 ∨ k = 26 ∨ k = 43 ∨ k = 44 → υ 171 k = σ 171 k) ∧
  ∀ i, i < 148 + 3 * nC σ ∨ 196 ≤ i → υ 183 i = σ 183 i
theorem KC.refl (σ : Sg) : KC σ σ := ⟨fun _ _ => rfl, fun _ _ => rfl, fun _ _ => rfl, fun _ _ => rfl, fun _ _ => rfl⟩
theorem KC.e_nC {σ υ : Sg} (h : KC σ υ) : nC υ = nC σ := by unfold nC; rw [h.2.2.2.2 199 (by omega)]
theorem KC.trans {σ τ υ : Sg} (h : KC σ τ) (g : KC τ υ) : KC σ υ := by
  have e := h.e_nC
  obtain ⟨h1, h2, h3, h4, h5⟩ := h
  obtain ⟨g1, g2, g3, g4, g5⟩ := g
  rw [e] at g5
  exact ⟨fun k hk => (g1 k hk).trans (h1 k hk), fun a ha => (g2 a ha).trans (h2 a ha), fun k hk => (g3 k hk).trans (h3 k hk), fun k hk => (g4 k hk).trans (h4 k hk), fun i hi => (g5 i hi).trans (h5 i hi)⟩
theorem Seen.keep {σ υ : Sg} {R q : Nat} {s : Nat → Nat} (h : Seen σ R q s) (hP : nP υ = nP σ) (h124 : υ 124 0 = σ 124 0 ∧ υ 124 1 = σ 124 1) (h125 : υ 125 = σ 125 ∧ υ 126 = σ 126) (h171 : υ 171 43 = σ 171 43 ∧ υ 171 44 = σ 171 44) (h194 : υ 194 = σ 194 ∧ υ 195 = σ 195) : Seen υ R q s := by
  unfold Seen at h ⊢
  rw [hP, h124.1, h124.2, h125.1, h125.2, h171.1, h171.2, h194.1, h194.2]
  exact h
theorem Cor.keep {σ υ : Sg} {n p1 K t c R q : Nat} {s : Nat → Nat} (h : Cor σ n p1 K t c R q s) (k : KC σ υ) : Cor υ n p1 K t c R q s := by
  have eC := k.e_nC
  obtain ⟨⟨⟨⟨hp1, e3, e4⟩, hR, hK, hM⟩, hq, hgn⟩, hT, hz, hNm, hRg, hS⟩ := h
  obtain ⟨k0, ka, k124, k171, k183⟩ := k
  have ke : KEq σ υ := ⟨⟨k171 0 (by omega), k171 1 (by omega), k171 2 (by omega)⟩, ka 172 (by omega), ka 173 (by omega), ka 174 (by omega)⟩
  have we : WEq σ υ := ⟨ke, fun i hi _ => k183 i (by omega)⟩
  have hC16 := hM.2.2.2.1.2.1
  have hge : Gain σ → Gain υ := fun hg => by
    unfold Gain at hg ⊢
    rw [k183 198 (by omega)]; exact hg
  refine ⟨⟨⟨⟨hp1, by rw [k0 3 (by omega)]; exact e3, by rw [k0 4 (by omega)]; exact e4⟩, ?_, ke.e_InvK hK, ?_⟩, by rw [k171 26 (by omega)]; exact hq, ?_⟩, ?_, fun i hi => by rw [k183 i (by omega)]; exact hz i hi, ?_, ?_, ?_⟩
  · exact ke.e_RepK (hR.rows hK.2.2.1.2 (fun a h1 h2 => ka a (by omega)))
  · refine (we.e_Mom hK (hM.rows (fun a h1 h2 h3 => ka a (by omega))) ?_ ?_)
    · obtain ⟨o1, o2⟩ := hM.2.1
      refine ⟨?_, fun i hi => ?_⟩
      · rw [ka 73 (by omega), k183 199 (by omega)]; exact o1
      · rw [eC] at hi
        show υ 74 i = _ ∧ υ 75 i = _ ∧ υ 76 i = _
        rw [ka 74 (by omega), ka 75 (by omega), ka 76 (by omega), k183 _ (by omega), k183 _ (by omega), k183 _ (by omega)]
        exact o2 i hi
    · obtain ⟨i1, i2, i3⟩ := hM.2.2.2.1
      refine ⟨by rw [eC, k183 199 (by omega)]; exact i1, by rw [eC]; exact i2, fun i hi => ?_⟩
      rw [eC] at hi
      have := i3 i hi
      unfold oo ofr oma at this ⊢
      rw [ke.e_nO, k183 _ (by omega), k183 _ (by omega), k183 _ (by omega)]
      exact this
  · intro hx
    rw [ke.e_nP, k171 25 (by omega)] at hx
    exact hge (hgn hx)
  · obtain ⟨t1, t2⟩ := hT
    refine ⟨by rw [k0 5 (by omega), k171 25 (by omega)]; exact t1, ?_⟩
    rw [k171 25 (by omega), ke.e_nP, ke.e_nO, eC, we.e_stp, k183 197 (by omega), k183 198 (by omega), k183 205 (by omega), k171 43 (by omega), k171 23 (by omega)]
    exact t2.imp (fun x => ⟨x.1, hge x.2⟩) id
  · obtain ⟨n1, n2⟩ := hNm
    unfold RepNm
    rw [ke.e_nP, ke.e_nO]
    exact ⟨n1.rows (ka 175 (by omega)) (ka _ (by omega)), n2.rows (ka 176 (by omega)) (ka _ (by omega))⟩
  · exact hRg.keep ⟨k0 10 (by omega), k0 11 (by omega)⟩ (ka 80 (by omega)) (fun a ha => ka a (by omega)) ke.1 ke.2 (k171 23 (by omega)) (ka 185 (by omega))
  · exact hS.keep ke.e_nP ⟨k124 0 (by omega), k124 1 (by omega)⟩ ⟨ka 125 (by omega), ka 126 (by omega)⟩ ⟨k171 43 (by omega), k171 44 (by omega)⟩ ⟨ka 194 (by omega), ka 195 (by omega)⟩
/-- an act that was remembered -/
theorem act_core {σ τ υ : Sg} {n n1 p1 K K1 t c R q : Nat} {s : Nat → Nat} (h : Cor σ n p1 K t c R q s) (ht : σ 171 25 = nI 1) (hrem : RemC σ τ n1 K1 t c)
    (f0 : ∀ k, k ≠ 10 → k ≠ 11 → τ 0 k = σ 0 k) (fa : ∀ a, a ≠ 0 → a ≠ 80 → a < 198 → τ a = σ a)
    (u0 : ∀ k, k = 3 ∨ k = 4 ∨ k = 5 ∨ k = 10 ∨ k = 11 → υ 0 k = τ 0 k)
    (ua : ∀ a, (3 ≤ a ∧ a < 55) ∨ a = 80 ∨ (123 < a ∧ a < 127) ∨ (171 < a ∧ a < 177) ∨ a = 194 ∨ a = 195 ∨ 197 < a → υ a = τ a)
    (u171 : ∀ k, k = 0 ∨ k = 1 ∨ k = 2 ∨ k = 25 ∨ k = 26 ∨ k = 43 ∨ k = 44 → υ 171 k = σ 171 k) (u23 : υ 171 23 = nI (min (c + 1) 20))
    (ur : ∀ i k, i + 1 < min (c + 1) 20 → k < 1607 → υ 185 (1607 * i + k) = σ 185 (1607 * (i + (c + 1 - min (c + 1) 20)) + k)) (us : ∀ k, k < 1607 → υ 185 (1607 * (min (c + 1) 20 - 1) + k) = σ 183 k)
    (hMυ : Mom υ 55 υ) (hgυ : Gain υ) (hzυ : Zhi υ) : Cor υ n1 p1 K1 ((t + 1) % 20) (min (c + 1) 20) R q s := by
  obtain ⟨⟨⟨⟨hp1, e3, e4⟩, hR, hK, hM⟩, hq, hgn⟩, hT, hz, hNm, hRg, hS⟩ := h
  have hg := hgn (Or.inr ht)
  have fb : ∀ a, (3 ≤ a ∧ a < 55) ∨ (123 < a ∧ a < 127) ∨ (171 < a ∧ a < 177) ∨ a = 194 ∨ a = 195 → υ a = σ a := fun a ha => by rw [ua a (by omega), fa a (by omega) (by omega) (by omega)]
  have ke : KEq σ υ := ⟨⟨u171 0 (by omega), u171 1 (by omega), u171 2 (by omega)⟩, fb 172 (by omega), fb 173 (by omega), fb 174 (by omega)⟩
  refine ⟨⟨⟨⟨hp1, by rw [u0 3 (by omega), f0 3 (by omega) (by omega)]; exact e3, by rw [u0 4 (by omega), f0 4 (by omega) (by omega)]; exact e4⟩, ?_, ke.e_InvK hK, hMυ⟩, by rw [u171 26 (by omega)]; exact hq, fun _ => hgυ⟩, ?_, hzυ, ?_, ?_, ?_⟩
  · exact ke.e_RepK (hR.rows hK.2.2.1.2 (fun a h1 h2 => fb a (by omega)))
  · refine ⟨by rw [u0 5 (by omega), f0 5 (by omega) (by omega), u171 25 (by omega)]; exact hT.1, Or.inl ⟨by rw [u171 25 (by omega)]; exact ht, hgυ⟩⟩
  · obtain ⟨n1, n2⟩ := hNm
    unfold RepNm
    rw [ke.e_nP, ke.e_nO]
    exact ⟨n1.rows (fb 175 (by omega)) (fb _ (by omega)), n2.rows (fb 176 (by omega)) (fb _ (by omega))⟩
  · exact ring_next hRg hz hK hM hg hrem ⟨u0 10 (by omega), u0 11 (by omega)⟩ (ua 80 (by omega)) (fun a ha => ua a (by omega)) ke.1 ke.2 u23 ur us
  · exact hS.keep ke.e_nP ⟨by rw [fb 124 (by omega)], by rw [fb 124 (by omega)]⟩ ⟨fb 125 (by omega), fb 126 (by omega)⟩ ⟨u171 43 (by omega), u171 44 (by omega)⟩ ⟨fb 194 (by omega), fb 195 (by omega)⟩
