/-! one more order that harms nobody -/
def addO (κ : Sg) (o s n c : Nat) : Sg := zup (zup (zup (zup κ 183 (148 + 3 * c) (nI o)) 183 (149 + 3 * c) (nI s)) 183 (150 + 3 * c) (nI n)) 183 199 (nI (c + 1))
theorem addO_at {κ : Sg} {o s n c i : Nat} (h : i ≠ 148 + 3 * c ∧ i ≠ 149 + 3 * c ∧ i ≠ 150 + 3 * c ∧ i ≠ 199) : addO κ o s n c 183 i = κ 183 i := by
  unfold addO
  rw [zup_miss h.2.2.2, zup_miss h.2.2.1, zup_miss h.2.1, zup_miss h.1]
theorem addO_ne {κ : Sg} {o s n c a : Nat} (h : a ≠ 183) : addO κ o s n c a = κ a := by
  unfold addO
  rw [zup_ne h, zup_ne h, zup_ne h, zup_ne h]
theorem addO_new {κ : Sg} {o s n c : Nat} (hc : c < 16) : addO κ o s n c 183 (148 + 3 * c) = nI o ∧ addO κ o s n c 183 (149 + 3 * c) = nI s ∧ addO κ o s n c 183 (150 + 3 * c) = nI n ∧ addO κ o s n c 183 199 = nI (c + 1) := by
  unfold addO
  refine ⟨?_, ?_, ?_, zup_hit⟩
  · rw [zup_miss (by omega), zup_miss (by omega), zup_miss (by omega), zup_hit]
  · rw [zup_miss (by omega), zup_miss (by omega), zup_hit]
  · rw [zup_miss (by omega), zup_hit]
section AO
variable {κ : Sg} {o s n : Nat}
theorem addO_nP (c : Nat) : nP (addO κ o s n c) = nP κ := by unfold nP; rw [addO_ne (by omega)]
theorem addO_nO (c : Nat) : nO (addO κ o s n c) = nO κ := by unfold nO; rw [addO_ne (by omega)]
theorem addO_nT (c : Nat) : nT (addO κ o s n c) = nT κ := by unfold nT; rw [addO_ne (by omega)]
theorem addO_tl (c : Nat) : tl (addO κ o s n c) = tl κ := by funext p j; unfold tl; rw [addO_ne (by omega)]
theorem addO_opl (c : Nat) : opl (addO κ o s n c) = opl κ := by funext p; unfold opl; rw [addO_ne (by omega)]
theorem addO_tk (c : Nat) : tk (addO κ o s n c) = tk κ := by funext p; unfold tk; rw [addO_ne (by omega)]
theorem addO_ev (c : Nat) : ev (addO κ o s n c) = ev κ := by funext p; unfold ev; rw [addO_ne (by omega)]
theorem addO_sz (c : Nat) : sz (addO κ o s n c) = sz κ := by funext p; unfold sz; rw [addO_ne (by omega)]
theorem addO_mid (c : Nat) : mid (addO κ o s n c) = mid κ := by funext p; unfold mid; rw [addO_ne (by omega)]
theorem addO_stp {c : Nat} (hc : c < 16) : stp (addO κ o s n c) = stp κ := by unfold stp; rw [addO_at (by omega)]
theorem addO_nC {c : Nat} (hc : c < 16) : nC (addO κ o s n c) = c + 1 := by unfold nC; rw [(addO_new hc).2.2.2, nI_clamp (by omega)]
theorem addO_old {c k : Nat} (hk : k < c) (hc : c < 16) : oo (addO κ o s n c) k = oo κ k ∧ ofr (addO κ o s n c) k = ofr κ k ∧ oma (addO κ o s n c) k = oma κ k := by
  unfold oo ofr oma
  rw [addO_at (by omega), addO_at (by omega), addO_at (by omega)]
  exact ⟨rfl, rfl, rfl⟩
theorem addO_cur {c : Nat} (hc : c < 16) (ho : o < 1000000) (hs : s < 1000000) (hn : n < 1000000) : oo (addO κ o s n c) c = o ∧ ofr (addO κ o s n c) c = s ∧ oma (addO κ o s n c) c = n := by
  obtain ⟨h1, h2, h3, _⟩ := addO_new (κ := κ) (o := o) (s := s) (n := n) hc
  unfold oo ofr oma
  rw [h1, h2, h3, nI_clamp (by omega), nI_clamp (by omega), nI_clamp (by omega)]
  exact ⟨rfl, rfl, rfl⟩
theorem addO_InvK (c : Nat) (hK : InvK κ) : InvK (addO κ o s n c) := by
  unfold InvK at hK ⊢
  rw [addO_nP, addO_nO, addO_nT, addO_tl, addO_opl, addO_tk, addO_ev, addO_sz, addO_ne (by omega), addO_ne (by omega), addO_ne (by omega), addO_ne (by omega)]
  exact hK
theorem addO_InvO (hc : nC κ < 16) (hO : InvO κ) (ho : o < nO κ) (hO10 : nO κ ≤ 10) (hs : s ≤ 20000) (hn1 : 1 ≤ n) (hn : n ≤ 99) : InvO (addO κ o s n (nC κ)) := by
  obtain ⟨h1, h2, h3⟩ := hO
  obtain ⟨g1, g2, g3, g4⟩ := addO_new (κ := κ) (o := o) (s := s) (n := n) hc
  unfold InvO
  rw [addO_nC hc, addO_nO]
  refine ⟨g4, by omega, fun k hk => ?_⟩
  by_cases c : k = nC κ
  · subst c
    obtain ⟨c1, c2, c3⟩ := addO_cur (κ := κ) (o := o) (s := s) (n := n) hc (by omega) (by omega) (by omega)
    rw [c1, c2, c3, g1, g2, g3]
    exact ⟨rfl, ho, rfl, hs, rfl, hn1, hn⟩
  · obtain ⟨c1, c2, c3⟩ := addO_old (κ := κ) (o := o) (s := s) (n := n) (c := nC κ) (k := k) (by omega) hc
    rw [c1, c2, c3, addO_at (by omega), addO_at (by omega), addO_at (by omega)]
    exact h3 k (by omega)
theorem addO_opn (hc : nC κ < 16) (ho : o < 1000000) (hs : s < 1000000) (hn : n < 1000000) {o' : Nat} (h : o' ≠ o) (t : Nat) : opn (addO κ o s n (nC κ)) o' t = opn κ o' t := by
  obtain ⟨c1, _, _⟩ := addO_cur (κ := κ) (o := o) (s := s) (n := n) hc ho hs hn
  unfold opn
  rw [addO_nC hc, addO_nT, anyB_succ]
  have e0 : opO (addO κ o s n (nC κ)) o' t (nC κ) = false := by
    unfold opO
    rw [c1]
    exact decide_eq_false (fun q => h q.1.symm)
  rw [e0, Bool.or_false]
  congr 1
  · refine anyB_congr (fun j hj => ?_)
    obtain ⟨d1, d2, d3⟩ := addO_old (κ := κ) (o := o) (s := s) (n := n) (c := nC κ) (k := j) hj hc
    unfold opO
    rw [d1, d2, d3]
theorem addO_nd (c g : Nat) : ∀ j, nd (addO κ o s n c) g j = nd κ g j
  | 0 => rfl
  | j + 1 => by rw [nd_succ, nd_succ, addO_nd c g j, addO_tl]
theorem addO_Q (hQ : InvQ κ) (hc : nC κ < 16) (ho : o < nO κ) (hs : s ≤ 20000) (hn1 : 1 ≤ n) (hn : n ≤ 99) : InvQ (addO κ o s n (nC κ)) := by
  obtain ⟨⟨⟨hK, hO, ⟨h1, h2⟩, g, hg⟩, kc, hkc⟩, hq⟩ := hQ
  refine ⟨⟨⟨addO_InvK _ hK, addO_InvO hc hO ho hK.2.1.2 hs hn1 hn, ?_, g, ?_⟩, kc, ?_⟩, ?_⟩
  · rw [addO_stp hc, addO_at (by omega)]; exact ⟨h1, h2⟩
  · rw [addO_at (by omega)]; exact hg
  · rw [addO_at (by omega)]; exact hkc
  · rw [addO_ne (by omega)]; exact hq
theorem addO_R (hc : nC κ < 16) (hK : InvK κ) (hR : InvR κ) (hz : Zr κ) : InvR (addO κ o s n (nC κ)) ∧ Zr (addO κ o s n (nC κ)) := by
  have hP8 := hK.1.2
  have hO10 := hK.2.1.2
  obtain ⟨r1, r2, r3⟩ := hR
  refine ⟨⟨fun p hp => ?_, ?_, fun q hq => ?_⟩, fun p hp k hk hk2 => ?_⟩
  · rw [addO_nP] at hp
    obtain ⟨x1, x2, x3, x4, x5⟩ := r1 p hp
    rw [addO_tl, addO_at (by omega), addO_at (by omega), addO_at (by omega), addO_at (by omega)]
    exact ⟨x1, x2, x3, x4, fun k hk => by rw [addO_at (by omega)]; exact x5 k hk⟩
  · rw [addO_at (by omega)]; exact r2
  · rw [addO_nO] at hq
    rw [addO_stp hc, addO_at (by omega)]; exact r3 q hq
  · rw [addO_nP] at hp
    rw [addO_tl] at hk
    rw [addO_at (by omega)]; exact hz p hp k hk hk2
theorem addO_W {τ : Sg} (hc : nC κ < 16) (hK : InvK κ) (hW : RepW τ 82 κ) : RepW τ 82 (addO κ o s n (nC κ)) := by
  have hP8 := hK.1.2
  have hO10 := hK.2.1.2
  obtain ⟨⟨v1, v2, v3, v4, v5, v6, v7⟩, hA, hZ⟩ := hW
  refine ⟨⟨fun p hp => ?_, fun q hq => ?_, fun i hi => ?_, ?_, ?_, ?_, ?_⟩, fun p hp => ?_, fun p hp i hi hi9 => ?_⟩
  · rw [addO_nP] at hp
    rw [addO_at (by omega), addO_at (by omega), addO_at (by omega), addO_at (by omega)]; exact v1 p hp
  · rw [addO_nO] at hq
    rw [addO_at (by omega), addO_at (by omega)]; exact v2 q hq
  · rw [addO_at (by omega)]; exact v3 i hi
  · rw [v4, addO_nO]
    exact sm_congr (fun q hq => by rw [addO_at (by omega)])
  · rw [addO_at (by omega)]; exact v5
  · rw [addO_at (by omega)]; exact v6
  · rw [addO_at (by omega)]; exact v7
  · rw [addO_nP] at hp
    rw [addO_stp hc]
    exact (hA p hp).eq rfl (by rw [addO_tl]) (fun k hk => addO_at (by omega)) (hK.2.2.2.2.1 p hp).1
  · rw [addO_nP] at hp
    rw [addO_tl] at hi
    exact hZ p hp i hi hi9
theorem addO_RepK {τ : Sg} {p1 : Nat} (c : Nat) (hR : RepK τ p1 κ) : RepK τ p1 (addO κ o s n c) := by
  unfold RepK at hR ⊢
  rw [addO_nP, addO_nO, addO_nT, addO_sz, addO_mid, addO_ne (by omega), addO_ne (by omega), addO_ne (by omega), addO_ne (by omega)]
  exact hR
end AO
/-- the schedule laid again for one outlet -/
theorem planAgain_ok {τ κ : Sg} {p1 o s n b l : Nat} (hp1 : p1 = 3 ∨ p1 = 29) (hR : RepK τ p1 κ) (hQ : RepOr τ 99 (addO κ o s n (nC κ))) (hI : InvQ κ) (hc : nC κ < 16) (ho : o < nO κ) (hs : s ≤ 20000) (hn1 : 1 ≤ n) (hn : n ≤ 99)
    (hb : τ 103 0 = nI b) (hb2 : b ≤ 20000) (h1 : τ 103 1 = nI l) (hl : l ≤ 200) (h2 : τ 103 2 = nI (l + nd κ 0 (nP κ))) (hop : ∀ o', o' < nO κ → o' ≠ o → ∀ i, i ≤ l + nd κ 0 (nP κ) → τ (105 + o') i = if opn κ o' (b + i) = true then 1 else 0) :
    ∃ τ', Schedule_planAgain τ p1 99 (nI o) = some τ' ∧ Fr 103 123 τ τ' ∧ RepSc τ' (addO κ o s n (nC κ)) b l := by
  have hK := hI.1.1.1
  have hO10 := hK.2.1.2
  have hn9 := nd_le hK (g := 0) (j := nP κ) (by omega)
  have hP8 := hK.1.2
  have hI' := addO_Q (s := s) hI hc ho hs hn1 hn
  have hR' := addO_RepK (o := o) (s := s) (n := n) (nC κ) hR
  obtain ⟨τ1, a1, a2, a3⟩ := planOutlet_ok (L := l + nd κ 0 (nP κ)) hp1 (by omega) hR' hQ hI'.1.1.1 hI'.1.1.2.1 (by rw [addO_nO]; exact ho) hb hb2 h2 (by omega)
  have f1 : Fr 103 123 τ τ1 := fun a ha => a2 a (by omega)
  obtain ⟨τ2, b1, b2, b3⟩ := sumDemands_ok (σ := τ1) (b := b) (l := l) hp1 (hR'.fr f1 (by rw [addO_nT]; exact hK.2.2.1.2) (by omega)) hI'.1.1.1 (by rw [a2 103 (by omega), hb]) hb2 (by rw [a2 103 (by omega), h1]) hl (by rw [a2 103 (by omega), h2, addO_nd, addO_nP]) (by
    intro o' ho' i hi
    rw [addO_nO] at ho'
    rw [addO_nd, addO_nP] at hi
    by_cases e : o' = o
    · subst e; exact a3 i hi
    · rw [a2 _ (by omega), addO_opn hc (by omega) (by omega) (by omega) e]
      exact hop o' ho' e i hi)
  refine ⟨τ2, ?_, f1.trans b2, b3⟩
  unfold Schedule_planAgain
  rw [a1, obs, b1, obs]
