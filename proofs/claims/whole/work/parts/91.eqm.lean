/-! two quiet runs that go alike, but for one cell -/
def EqM (e : Nat) (μ μ' : Sg) : Prop := (μ' 171 0 = μ 171 0 ∧ μ' 171 1 = μ 171 1 ∧ μ' 171 2 = μ 171 2 ∧ μ' 171 26 = μ 171 26) ∧ (μ' 172 = μ 172 ∧ μ' 173 = μ 173 ∧ μ' 174 = μ 174) ∧ ∀ i, i ≠ e → μ' 183 i = μ 183 i
def okE (e : Nat) : Prop := (16 ≤ e ∧ e < 24) ∨ e = 197 ∨ 1607 ≤ e
section EM
variable {e : Nat} {μ μ' : Sg}
theorem EqM.symm (h : EqM e μ μ') : EqM e μ' μ := ⟨⟨h.1.1.symm, h.1.2.1.symm, h.1.2.2.1.symm, h.1.2.2.2.symm⟩, ⟨h.2.1.1.symm, h.2.1.2.1.symm, h.2.1.2.2.symm⟩, fun i hi => (h.2.2 i hi).symm⟩
theorem EqM.refl (e : Nat) (μ : Sg) : EqM e μ μ := ⟨⟨rfl, rfl, rfl, rfl⟩, ⟨rfl, rfl, rfl⟩, fun _ _ => rfl⟩
theorem EqM.trans {ν : Sg} (h : EqM e μ μ') (g : EqM e μ' ν) : EqM e μ ν := ⟨⟨g.1.1.trans h.1.1, g.1.2.1.trans h.1.2.1, g.1.2.2.1.trans h.1.2.2.1, g.1.2.2.2.trans h.1.2.2.2⟩, ⟨g.2.1.1.trans h.2.1.1, g.2.1.2.1.trans h.2.1.2.1, g.2.1.2.2.trans h.2.1.2.2⟩, fun i hi => (g.2.2 i hi).trans (h.2.2 i hi)⟩
theorem EqM.up (h : EqM e μ μ') {k : Nat} {v v' : Int32} (hv : v' = v) : EqM e (zup μ 183 k v) (zup μ' 183 k v') := by
  subst hv
  refine ⟨?_, ?_, fun i hi => ?_⟩
  · rw [zup_ne (by omega), zup_ne (by omega)]; exact h.1
  · rw [zup_ne (by omega), zup_ne (by omega), zup_ne (by omega), zup_ne (by omega), zup_ne (by omega), zup_ne (by omega)]; exact h.2.1
  · by_cases c : i = k
    · subst c; rw [zup_hit, zup_hit]
    · rw [zup_miss c, zup_miss c]; exact h.2.2 i hi
theorem EqM.upT {a k a' k' : Nat} {v v' : Int32} (h : EqM e μ μ') (ha : 189 ≤ a ∧ a ≤ 193) (ha' : 189 ≤ a' ∧ a' ≤ 193) : EqM e (zup μ a k v) (zup μ' a' k' v') := by
  refine ⟨?_, ?_, fun i hi => ?_⟩
  · rw [zup_ne (by omega), zup_ne (by omega)]; exact h.1
  · rw [zup_ne (by omega), zup_ne (by omega), zup_ne (by omega), zup_ne (by omega), zup_ne (by omega), zup_ne (by omega)]; exact h.2.1
  · rw [zup_ne (by omega), zup_ne (by omega)]; exact h.2.2 i hi
theorem EqM.e_nP (h : EqM e μ μ') : nP μ' = nP μ := by unfold nP; rw [h.1.1]
theorem EqM.e_nO (h : EqM e μ μ') : nO μ' = nO μ := by unfold nO; rw [h.1.2.1]
theorem EqM.e_nT (h : EqM e μ μ') : nT μ' = nT μ := by unfold nT; rw [h.1.2.2.1]
theorem EqM.e_tl (h : EqM e μ μ') : tl μ' = tl μ := by funext p j; unfold tl; rw [h.2.1.1]
theorem EqM.e_opl (h : EqM e μ μ') : opl μ' = opl μ := by funext p; unfold opl; rw [h.2.1.2.1]
theorem EqM.e_tk (h : EqM e μ μ') : tk μ' = tk μ := by funext p; unfold tk; rw [h.2.1.2.1]
theorem EqM.e_ev (h : EqM e μ μ') : ev μ' = ev μ := by funext p; unfold ev; rw [h.2.1.2.2]
theorem EqM.e_sz (h : EqM e μ μ') : sz μ' = sz μ := by funext p; unfold sz; rw [h.2.1.2.2]
theorem EqM.e_nC (h : EqM e μ μ') (he : okE e) : nC μ' = nC μ := by unfold okE at he; unfold nC; rw [h.2.2 199 (by omega)]
theorem EqM.e_stp (h : EqM e μ μ') (he : okE e) : stp μ' = stp μ := by unfold okE at he; unfold stp; rw [h.2.2 196 (by omega)]
theorem EqM.e_oo (h : EqM e μ μ') (he : okE e) {k : Nat} (hk : k < 16) : oo μ' k = oo μ k := by unfold okE at he; unfold oo; rw [h.2.2 _ (by omega)]
theorem EqM.e_ofr (h : EqM e μ μ') (he : okE e) {k : Nat} (hk : k < 16) : ofr μ' k = ofr μ k := by unfold okE at he; unfold ofr; rw [h.2.2 _ (by omega)]
theorem EqM.e_oma (h : EqM e μ μ') (he : okE e) {k : Nat} (hk : k < 16) : oma μ' k = oma μ k := by unfold okE at he; unfold oma; rw [h.2.2 _ (by omega)]
theorem EqM.e_InvK (h : EqM e μ μ') (hK : InvK μ) : InvK μ' := by
  unfold InvK at hK ⊢
  rw [h.e_nP, h.e_nO, h.e_nT, h.e_tl, h.e_opl, h.e_tk, h.e_ev, h.e_sz, h.1.1, h.1.2.1, h.1.2.2.1, h.2.1.1, h.2.1.2.1, h.2.1.2.2]
  exact hK
theorem EqM.e_InvO (h : EqM e μ μ') (he : okE e) (hO : InvO μ) : InvO μ' := by
  obtain ⟨h1, h2, h3⟩ := hO
  have he' := he
  unfold okE at he'
  unfold InvO
  rw [h.e_nC he, h.2.2 199 (by omega), h.e_nO]
  refine ⟨h1, h2, fun k hk => ?_⟩
  rw [h.e_oo he (by omega), h.e_ofr he (by omega), h.e_oma he (by omega), h.2.2 _ (by omega), h.2.2 _ (by omega), h.2.2 _ (by omega)]
  exact h3 k hk
theorem EqM.e_opn (h : EqM e μ μ') (he : okE e) (hO : InvO μ) (o t : Nat) : opn μ' o t = opn μ o t := by
  have h16 := hO.2.1
  unfold opn
  rw [h.e_nC he, h.e_nT]
  congr 1
  · refine anyB_congr (fun j hj => ?_)
    unfold opO
    rw [h.e_oo he (by omega), h.e_ofr he (by omega), h.e_oma he (by omega)]
  · refine anyB_congr (fun j hj => ?_)
    unfold opT
    rw [h.e_ev, h.e_sz, h.2.1.2.2]
theorem EqM.e_nd (h : EqM e μ μ') (g : Nat) : ∀ j : Nat, nd μ' g j = nd μ g j
  | 0 => rfl
  | j + 1 => by rw [nd_succ, nd_succ, EqM.e_nd h g j, h.e_tl]
theorem EqM.e_ldS (h : EqM e μ μ') (he : okE e) (hK : InvK μ) (hO : InvO μ) (g t : Nat) : ldS μ' g t = ldS μ g t := by
  have hP := hK.1.2
  have he' := he
  unfold okE at he'
  unfold ldS ldL ldD
  rw [h.e_nP, h.e_nO]
  congr 1
  · refine sm_congr (fun i hi => ?_)
    rw [h.2.2 _ (by omega)]
  · refine sm_congr (fun i hi => ?_)
    rw [h.e_opl, h.e_nd, h.e_opn he hO, h.2.1.2.1]
theorem EqM.e_mid (h : EqM e μ μ') (p : Nat) : mid μ' p = mid μ p := by unfold mid; rw [h.2.1.1]
theorem EqM.e_hld (h : EqM e μ μ') (p : Nat) (x : Int32) : hld μ' p x = hld μ p x := by unfold hld; rw [h.2.1.1]
theorem EqM.e_wsh (h : EqM e μ μ') (he : okE e) (hK : InvK μ) (hO : InvO μ) {p : Nat} (hp : p < 8) (hpe : e ≠ 16 + p) (t : Nat) : wsh μ' p t = wsh μ p t := by
  have he' := he
  unfold okE at he'
  unfold wsh
  rw [h.2.2 (16 + p) (by omega), h.e_ldS he hK hO, h.e_mid, h.2.2 p (by omega), h.2.2 198 (by omega)]
theorem EqM.e_stnd (h : EqM e μ μ') (he : okE e) {p : Nat} (hp : p < 8) : stnd μ' p = stnd μ p := by
  unfold okE at he
  unfold stnd
  rw [h.2.2 p (by omega), h.2.1.1]
theorem EqM.shift (h : EqM e μ μ') (he : okE e) {b : Nat} (hb : 40 ≤ b ∧ b + 9 < 120) : ∀ n, n ≤ 9 → EqM e (itS (shiftS b) n μ) (itS (shiftS b) n μ')
  | 0, _ => h
  | n + 1, hn => by
    have ih := EqM.shift h he hb n (by omega)
    unfold okE at he
    exact ih.up (ih.2.2 _ (by omega))
theorem EqM.arr (h : EqM e μ μ') (he : okE e) {p : Nat} (hp : p < 8) : EqM e (arrS p μ) (arrS p μ') := by
  have he' := he
  unfold okE at he'
  unfold arrS
  have h1 : EqM e (zup μ 183 p (μ 183 p + μ 183 (40 + 10 * p))) (zup μ' 183 p (μ' 183 p + μ' 183 (40 + 10 * p))) := h.up (by rw [h.2.2 p (by omega), h.2.2 _ (by omega)])
  exact ((h1.upT (by omega) (by omega)).shift he (by omega) 9 (by omega)).up rfl
theorem EqM.leak (h : EqM e μ μ') (he : okE e) {p : Nat} (hp : p < 8) : EqM e (leakS p μ) (leakS p μ') := by
  unfold okE at he
  unfold leakS
  have e1 := h.2.2 p (by omega)
  have e2 := h.2.2 (24 + p) (by omega)
  have e3 := h.2.2 202 (by omega)
  exact (h.up (by rw [e1, e2])).up (by rw [e1, e2, e3])
theorem EqM.tak (h : EqM e μ μ') (he : okE e) (hO : InvO μ) {o : Nat} (ho : o < 10) (hp : opl μ o < 8) : EqM e (takS o μ) (takS o μ') := by
  have hop := h.e_opn he hO o (stp μ)
  have hst := h.e_stp he
  unfold okE at he
  unfold takS takN
  rw [hst, hop, h.e_opl, h.2.1.2.1]
  have e1 := h.2.2 (opl μ o) (by omega)
  have e2 := h.2.2 (128 + o) (by omega)
  have e3 := h.2.2 (138 + o) (by omega)
  have e4 := h.2.2 201 (by omega)
  split
  · rw [e1, e2, e3, e4]
    exact ((((h.up rfl).upT (by omega) (by omega)).up rfl).up rfl).up rfl
  · exact h
theorem EqM.pas (h : EqM e μ μ') (he : okE e) {p : Nat} (hp : p < 8) (hd : tl μ p 3 ≤ 9) (hn : pasN p μ' = pasN p μ) : EqM e (pasS p μ) (pasS p μ') := by
  unfold okE at he
  have e1 := h.2.2 p (by omega)
  have e2 := h.2.2 (p - 1) (by omega)
  have e3 := h.2.2 200 (by omega)
  have e4 : ∀ i, 40 ≤ i → i < 130 → μ' 183 i = μ 183 i := fun i h1 h2 => h.2.2 i (by omega)
  have hA : EqM e (pasA p μ) (pasA p μ') := by
    unfold pasA
    exact (h.upT (by omega) (by omega)).up hn
  have hB : EqM e (pasB p μ) (pasB p μ') := by
    unfold pasB
    by_cases c : p = 0
    · rw [if_pos c, if_pos c]
      exact hA.up (by rw [e3, hn])
    · rw [if_neg c, if_neg c]
      exact (hA.up (by rw [e2, hn])).upT (by omega) (by omega)
  unfold pasS
  rw [h.e_tl]
  by_cases c : tl μ p 3 = 0
  · rw [if_pos c, if_pos c]
    exact (hB.up (by rw [e1, hn])).upT (by omega) (by omega)
  · rw [if_neg c, if_neg c]
    exact hB.up (by rw [e4 _ (by omega) (by omega), hn])
theorem EqM.e_pasN (h : EqM e μ μ') (he : okE e) {p : Nat} (hp : p < 8) (hpe : e ≠ 197 ∨ 0 < p) : pasN p μ' = pasN p μ := by
  unfold okE at he
  unfold pasN
  rw [h.2.2 (8 + p) (by omega)]
  by_cases c : p = 0
  · rw [if_pos c, if_pos c, h.2.2 197 (by omega)]
  · rw [if_neg c, if_neg c, h.2.2 (p - 1) (by omega)]
theorem EqM.ovr (h : EqM e μ μ') (he : okE e) {p : Nat} (hp : p < 8) : EqM e (ovrS p μ) (ovrS p μ') := by
  unfold okE at he
  have e1 := h.2.2 p (by omega)
  have e2 := h.2.2 (p + 1) (by omega)
  have e3 := h.2.2 203 (by omega)
  have hn : ovrN p μ' = ovrN p μ := by unfold ovrN; rw [e1, h.2.1.1]
  unfold ovrS
  rw [h.e_nP, hn, e1, e2, e3]
  split
  · exact ((h.up rfl).upT (by omega) (by omega)).up rfl
  · exact ((((h.up rfl).upT (by omega) (by omega)).up rfl).upT (by omega) (by omega)).upT (by omega) (by omega)
theorem EqM.mov (h : EqM e μ μ') (he : okE e) {p : Nat} (hp : p < 8) (hm : mvN μ' p = mvN μ p) : EqM e (movS p μ) (movS p μ') := by
  unfold okE at he
  rw [movS_e, movS_e]
  exact h.up (by rw [h.2.2 (8 + p) (by omega), hm])
theorem EqM.e_mvN (h : EqM e μ μ') (he : okE e) (hK : InvK μ) (hO : InvO μ) {p : Nat} (hp : p < 8) (hpe : e ≠ 16 + p) : mvN μ' p = mvN μ p := by
  have he' := he
  unfold okE at he'
  unfold mvN
  rw [h.e_stp he, h.2.1.1, h.e_hld, h.e_wsh he hK hO hp hpe, h.2.2 (8 + p) (by omega)]
theorem EqM.watq (h : EqM e μ μ') (he : okE e) {p : Nat} (hp : p < 8) : EqM e (watQ p μ) (watQ p μ') := by
  unfold watQ
  exact h.up (h.e_stnd he hp)
end EM
theorem EqM.beg {e : Nat} {μ μ' : Sg} (h : EqM e μ μ') : EqM e (begS μ) (begS μ') := by
  have s := begS_stat μ
  have s' := begS_stat μ'
  refine ⟨?_, ?_, fun i hi => ?_⟩
  · rw [s.r171, s'.r171]; exact h.1
  · rw [s.r172, s.r173, s.r174, s'.r172, s'.r173, s'.r174]; exact h.2.1
  · rw [begS_183, begS_183]; exact h.2.2 i hi
theorem it2 {f : Nat → Sg → Sg} (I : Nat → Sg → Sg → Prop) {μ μ' : Sg} (h0 : I 0 μ μ') : ∀ n, (∀ j τ τ', j < n → I j τ τ' → I (j + 1) (f j τ) (f j τ')) → I n (itS f n μ) (itS f n μ')
  | 0, _ => h0
  | n + 1, hs => hs n _ _ (by omega) (it2 I h0 n (fun j τ τ' hj => hs j τ τ' (by omega)))
theorem EqM.e_InvW {e : Nat} {μ μ' : Sg} (h : EqM e μ μ') (he : okE e) (hW : InvW μ) : InvW μ' := by
  obtain ⟨⟨hK, hO, hs, g, hg⟩, kc, hk⟩ := hW
  refine ⟨⟨h.e_InvK hK, h.e_InvO he hO, ?_, g, ?_⟩, kc, ?_⟩
  · rw [h.e_stp he]; unfold okE at he; rw [h.2.2 196 (by omega)]; exact hs
  · unfold okE at he; rw [h.2.2 198 (by omega)]; exact hg
  · rcases he with q | q | q
    · rw [h.2.2 205 (by omega)]; exact hk
    · rw [h.2.2 205 (by omega)]; exact hk
    · rw [h.2.2 205 (by omega)]; exact hk
/-- a quiet step, both sides alike: what must be known of the first gate and of the gate told by hand -/
theorem EqM.go {e : Nat} {ν ν' : Sg} (h : EqM e ν ν') (he : okE e) (hW : InvW ν) (hq : ν 171 26 = nI 1)
    (hpas : e = 197 → mn (ν 183 8) (ν' 183 197) = mn (ν 183 8) (ν 183 197))
    (hmov : ∀ p, p < nP ν → e = 16 + p → ∀ τ τ', τ 172 = ν 172 → τ' 172 = ν 172 → τ 183 (8 + p) = ν 183 (8 + p) → τ' 183 (8 + p) = ν 183 (8 + p) → τ 183 (16 + p) = ν 183 (16 + p) → τ' 183 (16 + p) = ν' 183 (16 + p) → mvN τ' p = mvN τ p) :
    EqM e (goS ν) (goS ν') := by
  have hW' := h.e_InvW he hW
  have hP8 := hW.1.1.1.2
  have hO10 := hW.1.1.2.1.2
  have hK := hW.1.1
  have hO := hW.1.2.1
  have hnP : nP ν' = nP ν := h.e_nP
  have hnO : nO ν' = nO ν := h.e_nO
  let I (τ τ' : Sg) : Prop := EqM e τ τ' ∧ Stat ν τ ∧ Stat ν' τ' ∧ ∀ i, 8 ≤ i → i < 16 → τ 183 i = ν 183 i
  have a1 : I (itS arrS (nP ν) ν) (itS arrS (nP ν) ν') := it2 (fun _ => I) ⟨h, Stat.refl _, Stat.refl _, fun _ _ _ => rfl⟩ _ (by
    rintro j τ τ' hj ⟨i1, i2, i3, i4⟩
    exact ⟨i1.arr he (by omega), i2.trans (arrS_stat (by omega) _), i3.trans (arrS_stat (by omega) _), fun i h1 h2 => (arrS_miss (by omega) (by omega) (by omega)).trans (i4 i h1 h2)⟩)
  have a2 : I (itS leakS (nP ν) (itS arrS (nP ν) ν)) (itS leakS (nP ν) (itS arrS (nP ν) ν')) := it2 (fun _ => I) a1 _ (by
    rintro j τ τ' hj ⟨i1, i2, i3, i4⟩
    exact ⟨i1.leak he (by omega), i2.trans (leakS_stat (by omega) _), i3.trans (leakS_stat (by omega) _), fun i h1 h2 => by
      unfold leakS
      rw [zup_miss (by omega), zup_miss (by omega)]
      exact i4 i h1 h2⟩)
  have a3 : I (itS takS (nO ν) (itS leakS (nP ν) (itS arrS (nP ν) ν))) (itS takS (nO ν) (itS leakS (nP ν) (itS arrS (nP ν) ν'))) := it2 (fun _ => I) a2 _ (by
    rintro j τ τ' hj ⟨i1, i2, i3, i4⟩
    have hp : opl τ j < 8 := by
      rw [i2.e_opl]
      have := (hK.2.2.2.2.2.1 j hj).2.1
      omega
    have hp' : opl τ' j < 8 := by rw [i1.e_opl]; exact hp
    exact ⟨i1.tak he (i2.e_InvO hO) (by omega) hp, i2.trans (takS_stat (by omega) hp), i3.trans (takS_stat (by omega) hp'), fun i h1 h2 => (takS_way (by omega) hp i h1 (by omega)).trans (i4 i h1 h2)⟩)
  have a4 : I (itS pasS (nP ν) (itS takS (nO ν) (itS leakS (nP ν) (itS arrS (nP ν) ν)))) (itS pasS (nP ν) (itS takS (nO ν) (itS leakS (nP ν) (itS arrS (nP ν) ν')))) := it2 (fun _ => I) a3 _ (by
    rintro j τ τ' hj ⟨i1, i2, i3, i4⟩
    have hd : tl τ j 3 ≤ 9 := by rw [i2.e_tl]; exact (hK.2.2.2.2.1 j hj).1
    have hd' : tl τ' j 3 ≤ 9 := by rw [i1.e_tl]; exact hd
    have hn : pasN j τ' = pasN j τ := by
      by_cases c : e ≠ 197 ∨ 0 < j
      · exact i1.e_pasN he (by omega) c
      · have c1 : e = 197 := by omega
        have c2 : j = 0 := by omega
        subst c2
        unfold pasN
        rw [if_pos rfl, if_pos rfl, i1.2.2 (8 + 0) (by omega), i4 (8 + 0) (by omega) (by omega), i2.2 197 (by omega), i3.2 197 (by omega)]
        exact hpas c1
    exact ⟨i1.pas he (by omega) hd hn, i2.trans (pasS_stat (by omega) hd), i3.trans (pasS_stat (by omega) hd'), fun i h1 h2 => by
      rw [pasS_at (by omega) hd, if_neg (by omega), if_neg (by omega), if_neg (by omega), if_neg (by omega), if_neg (by omega)]
      exact i4 i h1 h2⟩)
  have a5 : I (itS ovrS (nP ν) (itS pasS (nP ν) (itS takS (nO ν) (itS leakS (nP ν) (itS arrS (nP ν) ν))))) (itS ovrS (nP ν) (itS pasS (nP ν) (itS takS (nO ν) (itS leakS (nP ν) (itS arrS (nP ν) ν'))))) := it2 (fun _ => I) a4 _ (by
    rintro j τ τ' hj ⟨i1, i2, i3, i4⟩
    have hp : nP τ = nP ν := i2.e_nP
    have hp' : nP τ' = nP ν := (i1.e_nP).trans hp
    exact ⟨i1.ovr he (by omega), i2.trans (ovrS_stat (by omega) (by omega) (by omega)), i3.trans (ovrS_stat (by omega) (by omega) (by omega)), fun i h1 h2 => (ovrS_same (by omega) (by omega) h1 (by omega)).trans (i4 i h1 h2)⟩)
  let J (j : Nat) (τ τ' : Sg) : Prop := EqM e τ τ' ∧ Stat ν τ ∧ Stat ν' τ' ∧ ∀ i, 8 + j ≤ i → i < 16 → τ 183 i = ν 183 i
  have a6 : J (nP ν) (goW ν) (goW ν') := by
    have : goW ν' = itS movS (nP ν) (itS ovrS (nP ν) (itS pasS (nP ν) (itS takS (nO ν) (itS leakS (nP ν) (itS arrS (nP ν) ν'))))) := by unfold goW; rw [hnP, hnO]
    rw [this]
    unfold goW
    refine it2 J ⟨a5.1, a5.2.1, a5.2.2.1, fun i h1 h2 => a5.2.2.2 i (by omega) h2⟩ _ ?_
    rintro j τ τ' hj ⟨i1, i2, i3, i4⟩
    have hm : mvN τ' j = mvN τ j := by
      by_cases c : e = 16 + j
      · refine hmov j hj c τ τ' i2.r172 ?_ (i4 _ (by omega) (by omega)) ?_ (i2.2 _ (by omega)) (i3.2 _ (by omega))
        · rw [i1.2.1.1, i2.r172]
        · rw [i1.2.2 _ (by omega)]
          exact i4 _ (by omega) (by omega)
      · exact i1.e_mvN he (i2.e_InvK hK) (i2.e_InvO hO) (by omega) c
    exact ⟨i1.mov he (by omega) hm, i2.trans (movS_stat (by omega) _), i3.trans (movS_stat (by omega) _), fun i h1 h2 => by
      rw [movS_e, zup_miss (by omega)]
      exact i4 i (by omega) h2⟩
  have a7 : EqM e (itS watS (nP ν) (goW ν)) (itS watS (nP ν) (goW ν')) ∧ itS watS (nP ν) (goW ν) 171 26 = nI 1 := by
    refine it2 (fun _ τ τ' => EqM e τ τ' ∧ τ 171 26 = nI 1) ⟨a6.1, by rw [a6.2.1.r171]; exact hq⟩ _ ?_
    rintro j τ τ' hj ⟨i1, i2⟩
    have q1 : ¬ τ 171 26 = 0 := by rw [i2]; decide
    have q2 : ¬ τ' 171 26 = 0 := by rw [i1.1.2.2.2, i2]; decide
    obtain ⟨_, w2, w3⟩ := watS_205 q1 (p := j) (by omega)
    obtain ⟨_, _, w4⟩ := watS_205 q2 (p := j) (by omega)
    refine ⟨?_, ?_⟩
    · rw [w3, w4]; exact i1.watq he (by omega)
    · rw [w2]; exact i2
  have q1 : ¬ ν 171 26 = 0 := by rw [hq]; decide
  have q2 : ¬ ν' 171 26 = 0 := by rw [h.1.2.2.2, hq]; decide
  rw [goS_e, goS_e]
  unfold goQ bump
  rw [if_neg q1, if_neg q2, hnP]
  have he' := he
  unfold okE at he'
  exact a7.1.up (by rw [a7.1.2.2 196 (by omega)])
theorem EqM.e_qst {e : Nat} {μ μ' : Sg} (h : EqM e μ μ') (he : okE e) (hQ : InvQ μ)
    (hpas : e = 197 → mn (μ 183 8) (μ' 183 197) = mn (μ 183 8) (μ 183 197))
    (hmov : ∀ p, p < nP μ → e = 16 + p → ∀ τ τ', τ 172 = μ 172 → τ' 172 = μ 172 → τ 183 (8 + p) = μ 183 (8 + p) → τ' 183 (8 + p) = μ 183 (8 + p) → τ 183 (16 + p) = μ 183 (16 + p) → τ' 183 (16 + p) = μ' 183 (16 + p) → mvN τ' p = mvN τ p) :
    EqM e (qst μ) (qst μ') := by
  have s := begS_stat μ
  unfold qst
  refine h.beg.go he (begW hQ.1) (by rw [s.r171]; exact hQ.2) ?_ ?_
  · rw [begS_183, begS_183]; exact hpas
  · rw [s.e_nP, s.r172, begS_183, begS_183]; exact hmov
/-- with no cell left out, runs are alike -/
theorem EqM.e_qrun {e : Nat} {μ μ' : Sg} (h : EqM e μ μ') (he : 1607 ≤ e) (hQ : InvQ μ) : ∀ n, stp μ + n ≤ 20000 → EqM e (qrun μ n) (qrun μ' n)
  | 0, _ => h
  | n + 1, hn => by
    have ih := EqM.e_qrun h he hQ n (by omega)
    have hq := (qrun_inv hQ n (by omega)).1
    have h8 := hq.1.1.1.1.2
    exact ih.e_qst (by unfold okE; omega) hq (fun q => by omega) (fun p hp q => by omega)
