/-! reading: a pool's items -/
def CW (q : Nat) (τ τ' : Sg) : Prop := (∀ b, b ≠ 2 → b < q ∨ q + 25 < b → τ' b = τ b) ∧ (∀ k, k = 0 ∨ k = 1 ∨ k = 5 → τ' 2 k = τ 2 k) ∧ (q ≠ 2 → τ' q 0 = τ q 0)
def MW (ν ν' : Sg) : Prop := (∀ b, b ≠ 171 → b < 177 ∨ 182 < b → ν' b = ν b) ∧ ∀ k, k < 8 ∨ (13 < k ∧ k < 33) ∨ 36 < k → ν' 171 k = ν 171 k
theorem CW.refl (q : Nat) (τ : Sg) : CW q τ τ := ⟨fun _ _ _ => rfl, fun _ _ => rfl, fun _ => rfl⟩
theorem MW.refl (ν : Sg) : MW ν ν := ⟨fun _ _ _ => rfl, fun _ _ => rfl⟩
theorem CW.trans {q : Nat} {σ τ υ : Sg} (h : CW q σ τ) (g : CW q τ υ) : CW q σ υ := ⟨fun b h1 h2 => (g.1 b h1 h2).trans (h.1 b h1 h2), fun k hk => (g.2.1 k hk).trans (h.2.1 k hk), fun x => (g.2.2 x).trans (h.2.2 x)⟩
theorem MW.trans {σ τ υ : Sg} (h : MW σ τ) (g : MW τ υ) : MW σ υ := ⟨fun b h1 h2 => (g.1 b h1 h2).trans (h.1 b h1 h2), fun k hk => (g.2 k hk).trans (h.2 k hk)⟩
theorem CF.w {q : Nat} {τ τ' : Sg} (h : CF τ τ') : CW q τ τ' := ⟨fun b h1 _ => h.1 b h1, h.2, fun x => by rw [h.1 q x]⟩
theorem MF.w {ν ν' : Sg} (h : MF ν ν') : MW ν ν' := ⟨fun b h1 _ => h.1 b h1, fun k hk => h.2 k (by omega)⟩
theorem CW.up {q b i : Nat} {τ : Sg} {v : Int32} (hq : q = 3 ∨ q = 29) (h1 : q ≤ b) (h2 : b ≤ q + 25) (h3 : b ≠ q ∨ i ≠ 0 := by omega) : CW q τ (zup τ b i v) := ⟨fun c x y => zup_ne (by omega), fun k _ => by rw [zup_ne (by omega)], fun _ => by
    by_cases e : b = q
    · subst e; exact zup_miss (by omega)
    · rw [zup_ne (by omega)]⟩
theorem MW.up {b i : Nat} {ν : Sg} {v : Int32} (h1 : 177 ≤ b) (h2 : b ≤ 182) : MW ν (zup ν b i v) := ⟨fun c x y => zup_ne (by omega), fun k _ => by rw [zup_ne (by omega)]⟩
theorem MW.up1 {k : Nat} {ν : Sg} {v : Int32} (h : (8 ≤ k ∧ k ≤ 13) ∨ (33 ≤ k ∧ k ≤ 36)) : MW ν (zup ν 171 k v) := ⟨fun c x y => zup_ne x, fun j hj => zup_miss (by omega)⟩
theorem Lx.up {τ ν : Sg} {B : Nat → Nat} {L a b c i j : Nat} {v w : Int32} (h : Lx τ ν B L a) (hb : 2 < b) (hc : (177 ≤ c ∧ c ≤ 182) ∨ (c = 171 ∧ 8 ≤ j ∧ j ≤ 13)) : Lx (zup τ b i v) (zup ν c j w) B L a := by
  obtain ⟨⟨x1, x2, x3, x4, x5, x6, x7⟩, ⟨y1, y2, y3, y4, y5, y6⟩⟩ := h
  refine ⟨⟨x1, fun k hk => by rw [zup_ne (by omega)]; exact x2 k hk, by rw [zup_ne (by omega)]; exact x3, by rw [zup_ne (by omega)]; exact x4, by rw [zup_ne (by omega)]; exact x5, by rw [zup_ne (by omega)]; exact x6, by rw [zup_ne (by omega)]; exact x7⟩, ⟨y1, fun k hk => by rw [zup_ne (by omega)]; exact y2 k hk, ?_, ?_, ?_, by rw [zup_ne (by omega)]; exact y6⟩⟩
  · rcases hc with hc | hc
    · rw [zup_ne (by omega)]; exact y3
    · obtain ⟨rfl, _, _⟩ := hc; rw [zup_miss (by omega)]; exact y3
  · rcases hc with hc | hc
    · rw [zup_ne (by omega)]; exact y4
    · obtain ⟨rfl, _, _⟩ := hc; rw [zup_miss (by omega)]; exact y4
  · rcases hc with hc | hc
    · rw [zup_ne (by omega)]; exact y5
    · obtain ⟨rfl, _, _⟩ := hc; rw [zup_miss (by omega), zup_miss (by omega)]; exact y5
theorem Fx.up {τ ν : Sg} {b c i j : Nat} {v w : Int32} (h : Fx τ ν) (hb : 2 < b) (hc : (177 ≤ c ∧ c ≤ 182) ∨ (c = 171 ∧ 8 ≤ j ∧ j ≤ 13)) : Fx (zup τ b i v) (zup ν c j w) := by
  refine h.keep ⟨by rw [zup_ne (by omega)], by rw [zup_ne (by omega)]⟩ ?_
  rcases hc with hc | hc
  · rw [zup_ne (by omega)]; exact ⟨rfl, rfl⟩
  · obtain ⟨rfl, _, _⟩ := hc
    exact ⟨zup_miss (by omega), zup_miss (by omega)⟩
theorem lohi_c {ν ν' : Sg} {P i : Nat} (h : ∀ m, m < i → tI ν' P m = tI ν P m) : loT ν' P i = loT ν P i ∧ hiT ν' P i = hiT ν P i := by
  unfold loT hiT
  constructor
  · by_cases e2 : i = 2
    · rw [if_pos e2, if_pos e2, h 1 (by omega)]
    · rw [if_neg e2, if_neg e2]
      by_cases e3 : i = 3
      · rw [if_pos e3, if_pos e3, h 2 (by omega)]
      · rw [if_neg e3, if_neg e3]
  · by_cases e8 : i = 8
    · rw [if_pos e8, if_pos e8, h 6 (by omega)]
    · rw [if_neg e8, if_neg e8]
theorem hiT_n {ν : Sg} {P i : Nat} (h : i < 8) : hiT ν P i ≤ 9999 := by
  unfold hiT
  rw [if_neg (by omega)]
  exact (hi_l0 ⟨i, h⟩).2
theorem PSt.bnd {q P j : Nat} {τ0 ν0 τ ν : Sg} (h : PSt q P j τ0 ν0 τ ν) (hj : j < 9) : loT ν P j ≤ 9999 ∧ hiT ν P j ≤ 9999 := by
  have g := h.2.2.2.2.2.2
  constructor
  · unfold loT
    by_cases e2 : j = 2
    · rw [if_pos e2]
      have := (g 1 (by omega)).2.2.2
      have := hiT_n (ν := ν) (P := P) (i := 1) (by omega)
      omega
    · rw [if_neg e2]
      by_cases e3 : j = 3
      · rw [if_pos e3]
        have := (g 2 (by omega)).2.2.2
        have := hiT_n (ν := ν) (P := P) (i := 2) (by omega)
        omega
      · rw [if_neg e3]
        split <;> omega
  · by_cases e8 : j = 8
    · unfold hiT
      rw [if_pos e8]
      have := (g 6 (by omega)).2.2.2
      have := hiT_n (ν := ν) (P := P) (i := 6) (by omega)
      omega
    · exact hiT_n (by omega)
theorem word_e0 : ∀ j : Fin 9, Reader_poolWord (nI j.val) = some (kx (4 + j.val)) := by decide
theorem word_e {j : Nat} (h : j < 9) : Reader_poolWord (nI j) = some (kx (4 + j)) := word_e0 ⟨j, h⟩
theorem least_l0 : ∀ j : Fin 9, zLeast.getD j.val 0 = nI (if j.val = 7 then 1 else 0) := by decide
theorem most_l0 : ∀ j : Fin 8, zMost.getD j.val 0 = nI ([9999, 9999, 9999, 9999, 9, 99, 999, 999].getD j.val 0) := by decide
theorem zst_e {α : Type} {l : List Int32} {j : Nat} {f : Int32 → Option α} (h : j < 9) : zst l (nI j) f = f (l.getD j 0) := by
  unfold zst
  rw [nI_clamp (by omega), if_neg]
  rintro (y | y)
  · exact nI_nlt (a := j) (b := 0) (by omega) (by omega) y
  · omega
theorem least_e {τ ν : Sg} {q P j : Nat} (hq : q = 3 ∨ q = 29) (h5 : τ 2 5 = nI (q + 1)) (hP : P < 8) (hj : j < 9) (h : ∀ i, i < j → τ (q + 3 + i) P = nI (tI ν P i)) : Reader_leastOf τ (nI j) (nI P) = some (nI (loT ν P j)) := by
  unfold Reader_leastOf loT
  by_cases e2 : j = 2
  · have := h 1 (by omega)
    have this' : τ (q + 4) P = nI (tI ν P 1) := this
    rw [if_pos (show nI j = 2 from congrArg nI e2), if_pos e2, h5, zmr2_e rfl hq, zrd_e (by omega) (by omega), this']
  · rw [if_neg (show ¬ nI j = 2 from fun y => e2 ((nI_eq (b := 2) (by omega) (by omega)).mp y)), if_neg e2]
    by_cases e3 : j = 3
    · have := h 2 (by omega)
      have this' : τ (q + 5) P = nI (tI ν P 2) := this
      rw [if_pos (show nI j = 3 from congrArg nI e3), if_pos e3, h5, zmr2_e rfl hq, zrd_e (by omega) (by omega), this']
    · rw [if_neg (show ¬ nI j = 3 from fun y => e3 ((nI_eq (b := 3) (by omega) (by omega)).mp y)), if_neg e3, zst_e hj, least_l0 ⟨j, hj⟩]
theorem most_e {τ ν : Sg} {q P j : Nat} (hq : q = 3 ∨ q = 29) (h5 : τ 2 5 = nI (q + 1)) (hP : P < 8) (hj : j < 9) (h : ∀ i, i < j → τ (q + 3 + i) P = nI (tI ν P i)) : Reader_mostOf τ (nI j) (nI P) = some (nI (hiT ν P j)) := by
  unfold Reader_mostOf hiT
  by_cases e8 : j = 8
  · have := h 6 (by omega)
    have this' : τ (q + 9) P = nI (tI ν P 6) := this
    rw [if_pos (show nI j = 8 from congrArg nI e8), if_pos e8, h5, zmr2_e rfl hq, zrd_e (by omega) (by omega), this']
  · rw [if_neg (show ¬ nI j = 8 from fun y => e8 ((nI_eq (b := 8) (by omega) (by omega)).mp y)), if_neg e8, zst_e hj, most_l0 ⟨j, by omega⟩]
/-- one item of a pool -/
theorem pool_stage {τ0 ν0 τ ν : Sg} {B : Nat → Nat} {L a q P n j : Nat} (hq : q = 3 ∨ q = 29) (hP : P < 8) (hn : n < 9) (ej : 8 - n = j) (h : Lx τ ν B L a) (h5 : τ0 2 5 = nI (q + 1)) (ps : PSt q P j τ0 ν0 τ ν) :
    ∃ τ' ν', Reader_readPool_l51 τ (nI P) (nI j) = some (.inl (τ', nI (j + 1))) ∧ rcF (nI (9 * P)) (n + 1) ν = rcF (nI (9 * P)) n ν' ∧ PSt q P 0 τ0 ν0 τ' ν' ∧ ((∃ a', a ≤ a' ∧ Lx τ' ν' B L a' ∧ PSt q P (j + 1) τ0 ν0 τ' ν') ∨ Fx τ' ν') := by
  have hj : j < 9 := by omega
  have ho := ofs_l hj
  obtain ⟨l9, h9⟩ := ps.bnd hj
  obtain ⟨p1, p2, p3, p4, p5, p6, p7⟩ := ps
  have c177 : ∀ i, i < j → ν 177 (9 * P + ofs i) = nI (tI ν P i) := fun i hi => (p7 i hi).2.1
  have rcE : rcF (nI (9 * P)) (n + 1) ν = (M_after ν (nI (4 + j)) (nI (loT ν P j)) (nI (hiT ν P j))).bind fun r => zwr r.2 177 72 (nI (9 * P) + nI (ofs j)) r.1 fun σ' => rcF (nI (9 * P)) n σ' := by
    rw [rcF_s, ej, rcL_e hP c177, rcH_e hP hj c177, rcO_e hj, rcW_e hj]
  have head : Reader_readPool_l51 τ (nI P) (nI j) = (Reader_readWord τ (kx (4 + j))).bind fun r69 => if (zb r69.1) = 0 then (zlt (nI j + 1) fun v102 => some (.inl (r69.2, v102))) else (zmr2 3 29 (r69.2 2 5) fun q76 => zelr (q76 + 3) 9 (nI j) fun q83 => (Reader_leastOf r69.2 (nI j) (nI P)).bind fun r89 => (Reader_mostOf r69.2 (nI j) (nI P)).bind fun r95 => (Reader_readNumber r69.2 r89 r95).bind fun r98 => zwr r98.2 q83 8 (nI P) r98.1 fun σ101 => zlt (nI j + 1) fun v102 => some (.inl (σ101, v102))) := by
    unfold Reader_readPool_l51
    rw [if_neg (show ¬ (9 : Int32) ≤ nI j from (nI_ge hj (by omega) : ¬ nI 9 ≤ nI j)), zgt_e, h.1.c60, if_pos rfl, word_e hj, obs]
  obtain ⟨b, τ1, ν1, b1, b2, b3, b4, b5⟩ := b_word (x := 4 + j) h (by omega)
  have base : ∀ (τ2 ν2 : Sg) (r r' : Int32), CF τ τ2 → MF ν ν2 → PSt q P 0 τ0 ν0 (zup τ2 (q + 3 + j) P r) (zup ν2 177 (9 * P + ofs j) r') := fun τ2 ν2 r r' x y => by
    refine ⟨fun c z1 z2 => by rw [zup_ne (by omega), x.1 c z1]; exact p1 c z1 z2, fun c z1 z2 p z3 => ?_, fun k hk => by rw [zup_ne (by omega), x.2 k hk]; exact p3 k hk, fun c z1 z2 => by rw [zup_ne z2, y.1 c z1]; exact p4 c z1 z2, fun k hk => by rw [zup_ne (by omega), y.2 k hk]; exact p5 k hk, fun i hi => by rw [zup_miss (by omega), y.1 177 (by omega)]; exact p6 i hi, fun i hi => by omega⟩
    by_cases e : c = q + 3 + j
    · subst e; rw [zup_miss z3, x.1 _ (by omega)]; exact p2 _ z1 z2 p z3
    · rw [zup_ne e, x.1 c (by omega)]; exact p2 c z1 z2 p z3
  rcases b5 with ⟨rfl, a1, e1, hL1⟩ | ⟨rfl, hF⟩
  · have t25 : τ1 2 5 = nI (q + 1) := by rw [b3.2 5 (by omega), p3 5 (by omega)]; exact h5
    have rows : ∀ i, i < j → τ1 (q + 3 + i) P = nI (tI ν P i) := fun i hi => by rw [b3.1 _ (by omega)]; exact (p7 i hi).1
    obtain ⟨r, τ2, r', ν2, d1, d2, d3, d4, d5⟩ := b_num (lo := loT ν P j) (hi := hiT ν P j) hL1 l9 h9
    have hz : ∀ k : Nat → Option ((Sg × Int32) ⊕ (Sg × Int32)), zelr (q + 3) 9 (nI j) k = k (q + 3 + j) := fun k => zelr_e hj (by omega)
    refine ⟨zup τ2 (q + 3 + j) P r, zup ν2 177 (9 * P + ofs j) r', ?_, ?_, base τ2 ν2 r r' (b3.trans d3) (b4.trans d4), ?_⟩
    · rw [head, b1, obs]
      dsimp only
      rw [if_neg (show ¬ zb true = 0 by decide), t25, zmr2_e rfl hq, hz, least_e hq t25 hP hj rows, obs, most_e hq t25 hP hj rows, obs, d1, obs]
      dsimp only
      rw [zwr_e (by omega) (by omega), zlt_e, show nI j + 1 = nI (j + 1) from nI_add _ 1]
    · rw [rcE]
      unfold M_after
      rw [b2, obs, d2, obs, obs]
      dsimp only
      rw [nI_add, zwr_e (by omega) (by omega)]
    · rcases d5 with ⟨v, v1, v2, rfl, rfl, a2, e2, hL2⟩ | hF
      · left
        refine ⟨a2, by omega, hL2.up (by omega) (by omega), ?_⟩
        obtain ⟨q1, q2, q3, q4, q5, q6, _⟩ := base τ2 ν2 (nI v) (nI v) (b3.trans d3) (b4.trans d4)
        have told : ∀ i, i < j → tI (zup ν2 177 (9 * P + ofs j) (nI v)) P i = tI ν P i := fun i hi => by
          have := ofs_d (i := i) (j := j) (by omega) hj (by omega)
          unfold tI
          rw [zup_miss (by omega), d4.1 177 (by omega), b4.1 177 (by omega)]
        have tnew : tI (zup ν2 177 (9 * P + ofs j) (nI v)) P j = v := by
          unfold tI
          rw [zup_hit, nI_clamp (by omega)]
        refine ⟨q1, q2, q3, q4, q5, q6, fun i hi => ?_⟩
        by_cases e : i = j
        · subst e
          obtain ⟨lo, hh⟩ := lohi_c told
          rw [tnew, lo, hh, zup_hit, zup_hit]
          exact ⟨rfl, rfl, v1, v2⟩
        · obtain ⟨lo, hh⟩ := lohi_c (ν := ν) (ν' := zup ν2 177 (9 * P + ofs j) (nI v)) (P := P) (i := i) (fun m hm => told m (by omega))
          have := ofs_d (i := i) (j := j) (by omega) hj e
          rw [told i (by omega), lo, hh, zup_ne (by omega), zup_miss (by omega), d4.1 177 (by omega), b4.1 177 (by omega), d3.1 _ (by omega), b3.1 _ (by omega)]
          exact p7 i (by omega)
      · exact Or.inr (hF.up (by omega) (by omega))
  · refine ⟨τ1, zup ν1 177 (9 * P + ofs j) 0, ?_, ?_, ?_, Or.inr (hF.keep ⟨rfl, rfl⟩ ⟨by rw [zup_ne (by omega)], by rw [zup_ne (by omega)]⟩)⟩
    · rw [head, b1, obs]
      dsimp only
      rw [if_pos (show zb false = 0 from rfl), zlt_e, show nI j + 1 = nI (j + 1) from nI_add _ 1]
    · rw [rcE]
      unfold M_after
      rw [b2, obs, hF.mf.number, obs, obs]
      dsimp only
      rw [nI_add, zwr_e (by omega) (by omega)]
    · have := base τ1 ν1 (τ1 (q + 3 + j) P) 0 b3 b4
      rw [zup_same rfl] at this
      exact this
theorem rcL_any {σ : Sg} {P j : Nat} (hP : P < 8) (k : Int32 → Option Sg) : ∃ x, rcL σ (nI (9 * P)) j k = k x := by
  unfold rcL
  by_cases e2 : j = 2
  · rw [if_pos e2, show (0 : Int32) = nI 0 from rfl, nI_add, zrd_e (by omega) (by omega)]; exact ⟨_, rfl⟩
  · rw [if_neg e2]
    by_cases e3 : j = 3
    · rw [if_pos e3, show (1 : Int32) = nI 1 from rfl, nI_add, zrd_e (by omega) (by omega)]; exact ⟨_, rfl⟩
    · rw [if_neg e3]
      by_cases e7 : j = 7
      · rw [if_pos e7]; exact ⟨_, rfl⟩
      · rw [if_neg e7]; exact ⟨_, rfl⟩
theorem rcH_any {σ : Sg} {P j : Nat} (hP : P < 8) (k : Int32 → Option Sg) : ∃ x, rcH σ (nI (9 * P)) j k = k x := by
  unfold rcH
  by_cases e8 : j = 8
  · rw [if_pos e8, show (4 : Int32) = nI 4 from rfl, nI_add, zrd_e (by omega) (by omega)]; exact ⟨_, rfl⟩
  · rw [if_neg e8]; exact ⟨_, rfl⟩
theorem rc_bad {P : Nat} (hP : P < 8) : ∀ n, n ≤ 9 → ∀ ν, Mf ν → ∃ ν', rcF (nI (9 * P)) n ν = some ν' ∧ MW ν ν' ∧ ν' 171 35 = ν 171 35 ∧ ν' 171 36 = ν 171 36
  | 0, _, ν, _ => ⟨zup ν 171 8 (ν 171 8 + 1), rfl, MW.up1 (by omega), zup_miss (by omega), zup_miss (by omega)⟩
  | n + 1, hn, ν, h => by
    have ho := ofs_l (i := 8 - n) (by omega)
    obtain ⟨lo, h1⟩ := rcL_any (σ := ν) (j := 8 - n) hP (fun lo => rcH ν (nI (9 * P)) (8 - n) fun hi => (M_after ν (rcW (8 - n)) lo hi).bind fun r => zwr r.2 177 72 (nI (9 * P) + rcO (8 - n)) r.1 fun σ' => rcF (nI (9 * P)) n σ')
    obtain ⟨hi, h2⟩ := rcH_any (σ := ν) (j := 8 - n) hP (fun hi => (M_after ν (rcW (8 - n)) lo hi).bind fun r => zwr r.2 177 72 (nI (9 * P) + rcO (8 - n)) r.1 fun σ' => rcF (nI (9 * P)) n σ')
    have hm : Mf (zup ν 177 (9 * P + ofs (8 - n)) 0) := by
      obtain ⟨k, k1, k2, k3⟩ := h
      exact ⟨k, k1, k2, by rw [zup_ne (by omega)]; exact k3⟩
    obtain ⟨ν', g1, g2, g3, g4⟩ := rc_bad hP n (by omega) _ hm
    refine ⟨ν', ?_, (MW.up (by omega) (by omega)).trans g2, by rw [g3, zup_ne (by omega)], by rw [g4, zup_ne (by omega)]⟩
    rw [rcF_s, h1, h2, h.after, obs]
    dsimp only
    rw [rcO_e (by omega), nI_add, zwr_e (by omega) (by omega), g1]
theorem PSt.cw {q P j : Nat} {τ0 ν0 τ ν : Sg} (h : PSt q P j τ0 ν0 τ ν) : CW q τ0 τ ∧ MW ν0 ν := by
  obtain ⟨p1, p2, p3, p4, p5, p6, p7⟩ := h
  exact ⟨⟨fun b x y => p1 b x (by omega), p3, fun x => by rw [p1 q x (by omega)]⟩, ⟨fun b x y => p4 b x (by omega), fun k hk => p5 k (by omega)⟩⟩
theorem zit_l {S R : Type} {b : S → Option (S ⊕ R)} {s s' : S} {f : Nat} (h : b s = some (.inl s')) : zit b (f + 1) s = zit b f s' := by
  show (b s).bind _ = _
  rw [h, obs]
theorem zit_r {S R : Type} {b : S → Option (S ⊕ R)} {s : S} {r : R} {f : Nat} (h : b s = some (.inr r)) : zit b (f + 1) s = some r := by
  show (b s).bind _ = _
  rw [h, obs]
theorem pool_run {τ0 ν0 : Sg} {B : Nat → Nat} {L q P : Nat} (hq : q = 3 ∨ q = 29) (hP : P < 8) (h5 : τ0 2 5 = nI (q + 1)) (hp8 : ν0 171 8 = nI P) : ∀ n, n ≤ 9 → ∀ (f : Nat) (τ ν : Sg) (a : Nat), n < f → Lx τ ν B L a → PSt q P (9 - n) τ0 ν0 τ ν →
    ∃ τe xe νe, zit (fun (s : (Sg × Int32)) => Reader_readPool_l51 s.1 (nI P) s.2) f (τ, nI (9 - n)) = some (τe, xe) ∧ rcF (nI (9 * P)) n ν = some νe ∧ CW q τ0 τe ∧ MW ν0 νe ∧ ((∃ ν9 a', a ≤ a' ∧ PSt q P 9 τ0 ν0 τe ν9 ∧ Lx τe νe B L a' ∧ νe = zup ν9 171 8 (nI (P + 1))) ∨ Fx τe νe)
  | 0, _, f, τ, ν, a, hf, h, ps => by
    obtain ⟨f', rfl⟩ : ∃ f', f = f' + 1 := ⟨f - 1, by omega⟩
    have e8 : ν 171 8 = nI P := by rw [ps.2.2.2.2.1 8 (by omega)]; exact hp8
    refine ⟨τ, nI 9, zup ν 171 8 (nI (P + 1)), zit_r ?_, ?_, ps.cw.1, ps.cw.2.trans (MW.up1 (by omega)), Or.inl ⟨ν, a, Nat.le_refl _, ps, ?_, rfl⟩⟩
    · show Reader_readPool_l51 τ (nI P) (nI 9) = _
      unfold Reader_readPool_l51
      exact if_pos (by decide)
    · show rc9 ν = _
      unfold rc9
      rw [zgt_e, e8, zpt_e, show nI P + 1 = nI (P + 1) from nI_add _ 1]
    · have := h.up (b := 3) (i := 0) (v := τ 3 0) (c := 171) (j := 8) (w := nI (P + 1)) (by omega) (by omega)
      rw [zup_same rfl] at this
      exact this
  | n + 1, hn, f, τ, ν, a, hf, h, ps => by
    obtain ⟨f', rfl⟩ : ∃ f', f = f' + 1 := ⟨f - 1, by omega⟩
    have ej : 9 - (n + 1) = 8 - n := by omega
    have ej2 : 8 - n + 1 = 9 - n := by omega
    rw [ej] at ps ⊢
    obtain ⟨τ', ν', s1, s2, s3, s4⟩ := pool_stage hq hP (n := n) (j := 8 - n) (by omega) rfl h h5 ps
    rw [ej2] at s1
    have s1' : (fun (s : (Sg × Int32)) => Reader_readPool_l51 s.1 (nI P) s.2) (τ, nI (8 - n)) = some (.inl (τ', nI (9 - n))) := s1
    rw [zit_l s1', s2]
    rcases s4 with ⟨a', x1, x2, x3⟩ | hF
    · rw [ej2] at x3
      obtain ⟨τe, xe, νe, g1, g2, g3, g4, g5⟩ := pool_run hq hP h5 hp8 n (by omega) f' τ' ν' a' (by omega) x2 x3
      refine ⟨τe, xe, νe, g1, g2, g3, g4, ?_⟩
      rcases g5 with ⟨ν9, a'', y1, y2⟩ | hF
      · exact Or.inl ⟨ν9, a'', by omega, y2⟩
      · exact Or.inr hF
    · obtain ⟨f'', rfl⟩ : ∃ f'', f' = f'' + 1 := ⟨f' - 1, by omega⟩
      obtain ⟨νe, g1, g2, g3, g4⟩ := rc_bad hP n (by omega) ν' hF.mf
      refine ⟨τ', nI (9 - n), νe, zit_r ?_, g1, s3.cw.1, s3.cw.2.trans g2, Or.inr (hF.keep ⟨rfl, rfl⟩ ⟨g3, g4⟩)⟩
      show Reader_readPool_l51 τ' (nI P) (nI (9 - n)) = _
      unfold Reader_readPool_l51
      split
      · rfl
      · rw [zgt_e, if_neg hF.c6]
