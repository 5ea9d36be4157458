/-! variants of a quiet state: what the orders say is the same -/
def OEq (σ σ' : Sg) : Prop := (∀ a, a ≠ 183 → a ≠ 189 → a ≠ 190 → a ≠ 191 → a ≠ 192 → a ≠ 193 → σ' a = σ a) ∧ ∀ k, (148 ≤ k ∧ k < 196) ∨ k = 199 → σ' 183 k = σ 183 k
theorem OEq.up {σ : Sg} {k : Nat} {v : Int32} (h : k < 148 ∨ (196 ≤ k ∧ k ≠ 199)) : OEq σ (zup σ 183 k v) := ⟨fun a ha _ _ _ _ _ => zup_ne ha, fun j hj => zup_miss (by omega)⟩
theorem OEq.trans {σ τ υ : Sg} (h : OEq σ τ) (g : OEq τ υ) : OEq σ υ := ⟨fun a h1 h2 h3 h4 h5 h6 => (g.1 a h1 h2 h3 h4 h5 h6).trans (h.1 a h1 h2 h3 h4 h5 h6), fun k hk => (g.2 k hk).trans (h.2 k hk)⟩
theorem OEq.e_nP {σ τ : Sg} (h : OEq σ τ) : nP τ = nP σ := by unfold nP; rw [h.1 171 (by decide) (by decide) (by decide) (by decide) (by decide) (by decide)]
theorem OEq.e_nO {σ τ : Sg} (h : OEq σ τ) : nO τ = nO σ := by unfold nO; rw [h.1 171 (by decide) (by decide) (by decide) (by decide) (by decide) (by decide)]
theorem OEq.e_nT {σ τ : Sg} (h : OEq σ τ) : nT τ = nT σ := by unfold nT; rw [h.1 171 (by decide) (by decide) (by decide) (by decide) (by decide) (by decide)]
theorem OEq.e_tl {σ τ : Sg} (h : OEq σ τ) : tl τ = tl σ := by funext p j; unfold tl; rw [h.1 172 (by decide) (by decide) (by decide) (by decide) (by decide) (by decide)]
theorem OEq.e_opl {σ τ : Sg} (h : OEq σ τ) : opl τ = opl σ := by funext p; unfold opl; rw [h.1 173 (by decide) (by decide) (by decide) (by decide) (by decide) (by decide)]
theorem OEq.e_tk {σ τ : Sg} (h : OEq σ τ) : tk τ = tk σ := by funext p; unfold tk; rw [h.1 173 (by decide) (by decide) (by decide) (by decide) (by decide) (by decide)]
theorem OEq.e_ev {σ τ : Sg} (h : OEq σ τ) : ev τ = ev σ := by funext p; unfold ev; rw [h.1 174 (by decide) (by decide) (by decide) (by decide) (by decide) (by decide)]
theorem OEq.e_sz {σ τ : Sg} (h : OEq σ τ) : sz τ = sz σ := by funext p; unfold sz; rw [h.1 174 (by decide) (by decide) (by decide) (by decide) (by decide) (by decide)]
theorem OEq.e_nC {σ τ : Sg} (h : OEq σ τ) : nC τ = nC σ := by unfold nC; rw [h.2 199 (by omega)]
theorem OEq.r171 {σ τ : Sg} (h : OEq σ τ) : τ 171 = σ 171 := h.1 171 (by decide) (by decide) (by decide) (by decide) (by decide) (by decide)
theorem OEq.r172 {σ τ : Sg} (h : OEq σ τ) : τ 172 = σ 172 := h.1 172 (by decide) (by decide) (by decide) (by decide) (by decide) (by decide)
theorem OEq.r173 {σ τ : Sg} (h : OEq σ τ) : τ 173 = σ 173 := h.1 173 (by decide) (by decide) (by decide) (by decide) (by decide) (by decide)
theorem OEq.r174 {σ τ : Sg} (h : OEq σ τ) : τ 174 = σ 174 := h.1 174 (by decide) (by decide) (by decide) (by decide) (by decide) (by decide)
theorem OEq.e_InvK {σ τ : Sg} (h : OEq σ τ) (hK : InvK σ) : InvK τ := by
  unfold InvK at hK ⊢
  rw [h.e_nP, h.e_nO, h.e_nT, h.e_tl, h.e_opl, h.e_tk, h.e_ev, h.e_sz, h.r171, h.r172, h.r173, h.r174]
  exact hK
theorem OEq.e_oo {σ τ : Sg} (h : OEq σ τ) {k : Nat} (hk : k < 16) : oo τ k = oo σ k := by unfold oo; rw [h.2 _ (by omega)]
theorem OEq.e_ofr {σ τ : Sg} (h : OEq σ τ) {k : Nat} (hk : k < 16) : ofr τ k = ofr σ k := by unfold ofr; rw [h.2 _ (by omega)]
theorem OEq.e_oma {σ τ : Sg} (h : OEq σ τ) {k : Nat} (hk : k < 16) : oma τ k = oma σ k := by unfold oma; rw [h.2 _ (by omega)]
theorem OEq.e_InvO {σ τ : Sg} (h : OEq σ τ) (hO : InvO σ) : InvO τ := by
  obtain ⟨h1, h2, h3⟩ := hO
  unfold InvO
  rw [h.e_nC, h.2 199 (by omega), h.e_nO]
  refine ⟨h1, h2, fun k hk => ?_⟩
  rw [h.e_oo (by omega), h.e_ofr (by omega), h.e_oma (by omega), h.2 _ (by omega), h.2 _ (by omega), h.2 _ (by omega)]
  exact h3 k hk
theorem OEq.e_opn {σ τ : Sg} (h : OEq σ τ) (hO : InvO σ) (o t : Nat) : opn τ o t = opn σ o t := by
  have h16 := hO.2.1
  unfold opn
  rw [h.e_nC, h.e_nT]
  congr 1
  · refine anyB_congr (fun j hj => ?_)
    unfold opO
    rw [h.e_oo (by omega), h.e_ofr (by omega), h.e_oma (by omega)]
  · refine anyB_congr (fun j hj => ?_)
    unfold opT
    rw [h.e_ev, h.e_sz, h.r174]
theorem OEq.e_nd {σ τ : Sg} (h : OEq σ τ) (g : Nat) : ∀ j : Nat, nd τ g j = nd σ g j
  | 0 => rfl
  | j + 1 => by rw [nd_succ, nd_succ, OEq.e_nd h g j, h.e_tl]
theorem OEq.e_mid {σ τ : Sg} (h : OEq σ τ) (p : Nat) : mid τ p = mid σ p := by unfold mid; rw [h.r172]
theorem RepK.oeq {σ μ ν : Sg} {p1 : Nat} (s : OEq μ ν) (h : RepK σ p1 μ) : RepK σ p1 ν := by
  obtain ⟨h1, h2, h3, h4⟩ := h
  refine ⟨?_, ?_, ?_, ?_⟩
  · rw [s.r171]; exact h1
  · intro p hp; rw [s.e_nP] at hp; rw [s.r172, s.e_mid]; exact h2 p hp
  · intro o ho; rw [s.e_nO] at ho; rw [s.r173]; exact h3 o ho
  · intro t ht; rw [s.e_nT] at ht; rw [s.r174, s.e_sz]; exact h4 t ht
theorem RepOr.oeq {σ μ ν : Sg} {w : Nat} (s : OEq μ ν) (hC : nC μ ≤ 16) (h : RepOr σ w μ) : RepOr σ w ν := by
  obtain ⟨h1, h2⟩ := h
  refine ⟨?_, ?_⟩
  · rw [s.2 199 (by omega)]; exact h1
  · intro k hk
    rw [s.e_nC] at hk
    rw [s.2 _ (by omega), s.2 _ (by omega), s.2 _ (by omega)]
    exact h2 k hk
theorem RepSc.oeq {σ μ ν : Sg} {b l : Nat} (s : OEq μ ν) (hO : InvO μ) (h : RepSc σ μ b l) : RepSc σ ν b l := by
  obtain ⟨h1, h2, h3⟩ := h
  have hl : ∀ g t, ldD ν g t = ldD μ g t := by
    intro g t
    unfold ldD
    rw [s.e_nO]
    refine sm_congr (fun i hi => ?_)
    rw [s.e_opl, s.e_nd, s.e_opn hO, s.r173]
  refine ⟨?_, ?_, ?_⟩
  · rw [s.e_nd, s.e_nP]; exact h1
  · intro o ho i hi
    rw [s.e_nO] at ho
    rw [s.e_nd, s.e_nP] at hi
    rw [s.e_opn hO]
    exact h2 o ho i hi
  · intro g hg i hi
    rw [s.e_nP] at hg
    rw [hl]
    exact h3 g hg i hi
theorem LookR.oeq {σ κ κ' : Sg} {p1 b l : Nat} (h : LookR σ p1 κ b l) (s : OEq κ κ') (hO : InvO κ) : LookR σ p1 κ' b l := by
  obtain ⟨h1, h2, h3, h4, h5⟩ := h
  exact ⟨h1, h2.oeq s, h3.oeq s hO, h4, h5⟩
theorem LookR.fr82 {σ τ κ : Sg} {p1 b l : Nat} (h : LookR σ p1 κ b l) (hK : InvK κ) (f : Fr 82 98 σ τ) : LookR τ p1 κ b l := by
  obtain ⟨h1, h2, h3, h4, h5⟩ := h
  exact ⟨h1, h2.fr f hK.2.2.1.2 (by omega), h3.fr f hK (by omega), by rw [f 81 (by omega)]; exact h4, by rw [f 81 (by omega)]; exact h5⟩
/-- one cell changed on both sides -/
theorem RepW.v1 {τ κ : Sg} {g : Int32} (h : RepW τ 82 κ) (hK : InvK κ) : RepW (zup τ 82 1 g) 82 (zup κ 183 197 g) := by
  obtain ⟨⟨v1, v2, v3, v4, v5, v6, v7⟩, hA, hZ⟩ := h
  have hP8 := hK.1.2
  have hO10 := hK.2.1.2
  refine ⟨⟨fun p hp => ?_, fun o ho => ?_, fun i hi => ?_, ?_, ?_, ?_, ?_⟩, fun p hp => ?_, fun p hp i hi hi9 => ?_⟩
  · have hp' : p < nP κ := hp
    have := v1 p hp'
    simp (disch := omega) only [zup_ne, zup_miss]; exact this
  · have ho' : o < nO κ := ho
    have := v2 o ho'
    simp (disch := omega) only [zup_ne, zup_miss]; exact this
  · have := v3 i hi
    simp (disch := omega) only [zup_ne, zup_miss]; exact this
  · show zup τ 82 1 g (82 + 8) 6 = sm (fun o => zup κ 183 197 g 183 (138 + o)) (nO κ)
    rw [zup_ne (by omega), v4]
    exact sm_congr (fun o ho => by rw [zup_miss (by omega)])
  · simp (disch := omega) only [zup_miss]; exact v5
  · rw [zup_hit, zup_hit]
  · simp (disch := omega) only [zup_miss]; exact v7
  · have hp' : p < nP κ := hp
    exact (hA p hp').eq (zup_ne (by omega)) rfl (fun k hk => zup_miss (by omega)) (hK.2.2.2.2.1 p hp').1
  · rw [zup_ne (by omega)]
    exact hZ p hp i hi hi9
theorem RepW.v2 {τ κ : Sg} {g : Int32} (h : RepW τ 82 κ) (hK : InvK κ) : RepW (zup τ 82 2 g) 82 (zup κ 183 198 g) := by
  obtain ⟨⟨v1, v2, v3, v4, v5, v6, v7⟩, hA, hZ⟩ := h
  have hP8 := hK.1.2
  have hO10 := hK.2.1.2
  refine ⟨⟨fun p hp => ?_, fun o ho => ?_, fun i hi => ?_, ?_, ?_, ?_, ?_⟩, fun p hp => ?_, fun p hp i hi hi9 => ?_⟩
  · have hp' : p < nP κ := hp
    have := v1 p hp'
    simp (disch := omega) only [zup_ne, zup_miss]; exact this
  · have ho' : o < nO κ := ho
    have := v2 o ho'
    simp (disch := omega) only [zup_ne, zup_miss]; exact this
  · have := v3 i hi
    simp (disch := omega) only [zup_ne, zup_miss]; exact this
  · show zup τ 82 2 g (82 + 8) 6 = sm (fun o => zup κ 183 198 g 183 (138 + o)) (nO κ)
    rw [zup_ne (by omega), v4]
    exact sm_congr (fun o ho => by rw [zup_miss (by omega)])
  · simp (disch := omega) only [zup_miss]; exact v5
  · simp (disch := omega) only [zup_miss]; exact v6
  · rw [zup_hit, zup_hit]
  · have hp' : p < nP κ := hp
    exact (hA p hp').eq (zup_ne (by omega)) rfl (fun k hk => zup_miss (by omega)) (hK.2.2.2.2.1 p hp').1
  · rw [zup_ne (by omega)]
    exact hZ p hp i hi hi9
theorem RepW.v4 {τ κ : Sg} {g : Nat} {v : Int32} (h : RepW τ 82 κ) (hK : InvK κ) (hg : g < 8) : RepW (zup τ 86 g v) 82 (zup κ 183 (16 + g) v) := by
  obtain ⟨⟨v1, v2, v3, v4, v5, v6, v7⟩, hA, hZ⟩ := h
  have hP8 := hK.1.2
  have hO10 := hK.2.1.2
  have hs : stp (zup κ 183 (16 + g) v) = stp κ := by unfold stp; rw [zup_miss (by omega)]
  refine ⟨⟨fun p hp => ?_, fun o ho => ?_, fun i hi => ?_, ?_, ?_, ?_, ?_⟩, fun p hp => ?_, fun p hp i hi hi9 => ?_⟩
  · have hp' : p < nP κ := hp
    have := v1 p hp'
    simp only [Nat.reduceAdd] at this ⊢
    by_cases e : p = g
    · subst e
      simp (disch := omega) only [zup_ne, zup_miss, zup_hit]; exact ⟨this.1, this.2.1, this.2.2.1, trivial⟩
    · simp (disch := omega) only [zup_ne, zup_miss]; exact this
  · have ho' : o < nO κ := ho
    have := v2 o ho'
    simp only [Nat.reduceAdd] at this ⊢
    simp (disch := omega) only [zup_ne, zup_miss]; exact this
  · have := v3 i hi
    simp only [Nat.reduceAdd] at this ⊢
    simp (disch := omega) only [zup_ne, zup_miss]; exact this
  · show zup τ 86 g v (82 + 8) 6 = sm (fun o => zup κ 183 (16 + g) v 183 (138 + o)) (nO κ)
    rw [zup_ne (by omega), v4]
    exact sm_congr (fun o ho => by rw [zup_miss (by omega)])
  · simp (disch := omega) only [zup_ne, zup_miss]; exact v5
  · simp (disch := omega) only [zup_ne, zup_miss]; exact v6
  · simp (disch := omega) only [zup_ne, zup_miss]; exact v7
  · have hp' : p < nP κ := hp
    rw [hs]
    exact (hA p hp').eq (zup_ne (by omega)) rfl (fun k hk => zup_miss (by omega)) (hK.2.2.2.2.1 p hp').1
  · rw [zup_ne (by omega)]
    exact hZ p hp i hi hi9
theorem RepW.v3 {τ κ : Sg} {g : Nat} {v : Int32} (h : RepW τ 82 κ) (hK : InvK κ) (hg : g < 8) : RepW (zup τ 85 g v) 82 (zup κ 183 (24 + g) v) := by
  obtain ⟨⟨v1, v2, v3, v4, v5, v6, v7⟩, hA, hZ⟩ := h
  have hP8 := hK.1.2
  have hO10 := hK.2.1.2
  have hs : stp (zup κ 183 (24 + g) v) = stp κ := by unfold stp; rw [zup_miss (by omega)]
  refine ⟨⟨fun p hp => ?_, fun o ho => ?_, fun i hi => ?_, ?_, ?_, ?_, ?_⟩, fun p hp => ?_, fun p hp i hi hi9 => ?_⟩
  · have hp' : p < nP κ := hp
    have := v1 p hp'
    simp only [Nat.reduceAdd] at this ⊢
    by_cases e : p = g
    · subst e
      simp (disch := omega) only [zup_ne, zup_miss, zup_hit]; exact ⟨this.1, this.2.1, trivial, this.2.2.2⟩
    · simp (disch := omega) only [zup_ne, zup_miss]; exact this
  · have ho' : o < nO κ := ho
    have := v2 o ho'
    simp only [Nat.reduceAdd] at this ⊢
    simp (disch := omega) only [zup_ne, zup_miss]; exact this
  · have := v3 i hi
    simp only [Nat.reduceAdd] at this ⊢
    simp (disch := omega) only [zup_ne, zup_miss]; exact this
  · show zup τ 85 g v (82 + 8) 6 = sm (fun o => zup κ 183 (24 + g) v 183 (138 + o)) (nO κ)
    rw [zup_ne (by omega), v4]
    exact sm_congr (fun o ho => by rw [zup_miss (by omega)])
  · simp (disch := omega) only [zup_ne, zup_miss]; exact v5
  · simp (disch := omega) only [zup_ne, zup_miss]; exact v6
  · simp (disch := omega) only [zup_ne, zup_miss]; exact v7
  · have hp' : p < nP κ := hp
    rw [hs]
    exact (hA p hp').eq (zup_ne (by omega)) rfl (fun k hk => zup_miss (by omega)) (hK.2.2.2.2.1 p hp').1
  · rw [zup_ne (by omega)]
    exact hZ p hp i hi hi9
/-- a variant is as good a quiet state -/
theorem var_Q {κ : Sg} {k : Nat} {v : Int32} (h : InvQ κ) (hk : k < 148 ∨ k = 197 ∨ (k = 198 ∧ ∃ g, v = nI g ∧ 1 ≤ g ∧ g ≤ 99)) : InvQ (zup κ 183 k v) := by
  obtain ⟨⟨⟨hK, hO, ⟨hs, hs2⟩, g, hg⟩, kc, hkc⟩, hq⟩ := h
  have o : OEq κ (zup κ 183 k v) := OEq.up (by omega)
  have hst : stp (zup κ 183 k v) = stp κ := by unfold stp; rw [zup_miss (by omega)]
  refine ⟨⟨⟨o.e_InvK hK, o.e_InvO hO, ?_, ?_⟩, kc, ?_⟩, ?_⟩
  · rw [hst, zup_miss (by omega)]; exact ⟨hs, hs2⟩
  · by_cases c : k = 198
    · obtain ⟨g', e, h1, h2⟩ := (hk.resolve_left (by omega)).resolve_left (by omega) |>.2
      subst c
      exact ⟨g', by rw [zup_hit]; exact e, h1, h2⟩
    · exact ⟨g, by rw [zup_miss (by omega)]; exact hg.1, hg.2⟩
  · rw [zup_miss (by omega)]; exact hkc
  · rw [zup_ne (by omega)]; exact hq
/-- the reference's run ahead from a state like a quiet one -/
theorem m_ahead2 {ν κ : Sg} (hκ : InvQ κ) (hE : EqM 5000 κ (quiet ν)) (hq : ν 171 26 = nI 0) (hs : stp κ ≤ 9999) :
    ∃ μ, M_beginsAhead ν = some μ ∧ InvQ μ ∧ stp μ = stp κ ∧ nP μ = nP κ ∧ nO μ = nO κ ∧ EqM 5000 κ μ ∧ ∀ n, n ≤ 200 → M_goesAhead μ (nI n) = some (qrun μ n) ∧ EqM 5000 (qrun κ n) (qrun μ n) ∧ ∃ ν', M_endsAhead (qrun μ n) = some ν' ∧ FrM ν ν' := by
  have he : okE 5000 := by unfold okE; omega
  have hWq := hE.e_InvW he hκ.1
  have qm := quiet_M ν
  have hs1 : stp (quiet ν) = stp ν := qm.e_stp
  have hs2 : stp (quiet ν) = stp κ := hE.e_stp he
  have hW : InvW ν := by
    have qm' : MEq (quiet ν) ν := ⟨⟨qm.1.1.symm, qm.1.2.1.symm, qm.1.2.2.symm⟩, ⟨qm.2.1.1.symm, qm.2.1.2.1.symm, qm.2.1.2.2.symm⟩, qm.2.2.symm⟩
    exact qm'.e_InvW hWq
  obtain ⟨μ, a1, a2, a3, a4, a5⟩ := m_ahead hW (by omega) hq
  have e0 : EqM 5000 κ μ := hE.trans a4
  refine ⟨μ, a1, a2, by omega, e0.e_nP, e0.e_nO, e0, fun n hn => ⟨M_goesAhead_e a2 hn (by omega), e0.e_qrun (by omega) hκ n (by omega), a5 n hn⟩⟩
