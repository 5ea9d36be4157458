/-! reading: turns -/
theorem sk_id {B : Nat → Nat} {L a : Nat} (h : a ≤ L) : sk B L (sk B L a) = sk B L a := by
  obtain ⟨s1, s2⟩ := sk_le (B := B) h
  obtain ⟨t1, t2⟩ := sk_le (B := B) s2
  rcases Nat.lt_or_ge (sk B L a) (sk B L (sk B L a)) with x | x
  · have h1 := sk_out (B := B) (L := L) (a := a) (by omega)
    have h2 := sk_in (B := B) (L := L) (a := sk B L a) (Nat.le_refl _) x
    rw [h1] at h2
    exact absurd h2 (by decide)
  · omega
theorem m_word_sk {ν : Sg} {B : Nat → Nat} {L a : Nat} (h : Mx ν B L a) : M_word (zup ν 171 33 (nI (sk B L a))) = M_word ν := by
  have h1 := h.to (sk_le (B := B) h.1.1).2
  unfold M_word
  rw [m_well h, m_well h1, bt, bt, m_here h, m_here h1, sk_id h.1.1, zup_zup]
theorem m_outNamed_sk {ν : Sg} {B : Nat → Nat} {L a : Nat} (h : Mx ν B L a) : M_outletNamed (zup ν 171 33 (nI (sk B L a))) = M_outletNamed ν := by
  unfold M_outletNamed M_name
  rw [m_word_sk h]
def TS (q T m : Nat) (τ0 ν0 τ ν : Sg) : Prop :=
  (∀ b, b ≠ 2 → b ≠ q + 21 → b ≠ q + 22 → b ≠ q + 24 + T → τ b = τ0 b) ∧ (∀ t, t ≠ T → τ (q + 21) t = τ0 (q + 21) t ∧ τ (q + 22) t = τ0 (q + 22) t) ∧ (∀ k, k = 0 ∨ k = 1 ∨ k = 5 → τ 2 k = τ0 2 k) ∧ (∀ b, b ≠ 171 → b ≠ 179 → ν b = ν0 b) ∧ (∀ k, k < 33 ∨ 36 < k → ν 171 k = ν0 171 k) ∧ (∀ i, i < 8 * T → ν 179 i = ν0 179 i) ∧
  (∃ e : Nat, 1 ≤ e ∧ e ≤ 30 ∧ τ (q + 21) T = nI e ∧ ν 179 (8 * T) = nI e) ∧ τ (q + 22) T = nI m ∧ ν 179 (8 * T + 1) = nI m ∧ ∀ i, i < m → τ (q + 24 + T) i = ν 179 (8 * T + 2 + i)
theorem TS.cf {q T m : Nat} {τ0 ν0 τ ν τ' ν' : Sg} (h : TS q T m τ0 ν0 τ ν) (hc : CF τ τ') (hm : MF ν ν') (hq : q = 3 ∨ q = 29) : TS q T m τ0 ν0 τ' ν' := by
  obtain ⟨h1, h2, h3, h4, h5, h6, h7, h8, h9, h10⟩ := h
  refine ⟨fun b x y z w => by rw [hc.1 b x]; exact h1 b x y z w, fun t ht => by rw [hc.1 _ (by omega), hc.1 _ (by omega)]; exact h2 t ht, fun k hk => by rw [hc.2 k hk]; exact h3 k hk, fun b x y => by rw [hm.1 b x]; exact h4 b x y, fun k hk => by rw [hm.2 k hk]; exact h5 k hk, fun i hi => by rw [hm.1 179 (by omega)]; exact h6 i hi, ?_, ?_, ?_, fun i hi => ?_⟩
  · rw [hc.1 _ (by omega), hm.1 179 (by omega)]; exact h7
  · rw [hc.1 _ (by omega)]; exact h8
  · rw [hm.1 179 (by omega)]; exact h9
  · rw [hc.1 _ (by omega), hm.1 179 (by omega)]; exact h10 i hi
theorem TS.cw {q T m : Nat} {τ0 ν0 τ ν : Sg} (h : TS q T m τ0 ν0 τ ν) (hT : T < 2) : CW q τ0 τ ∧ MW ν0 ν := by
  obtain ⟨h1, h2, h3, h4, h5, _⟩ := h
  exact ⟨⟨fun b x y => h1 b x (by omega) (by omega) (by omega), h3, fun x => by rw [h1 q x (by omega) (by omega) (by omega)]⟩, ⟨fun b x y => h4 b x (by omega), fun k hk => h5 k (by omega)⟩⟩
theorem c_holds {τ : Sg} {q T m : Nat} (hT : T < 2) (hm : m ≤ 6) (h : τ (q + 22) T = nI m) (v : Int32) : Turns_holds τ (q + 20) (nI T) v = some (anyB (fun i => decide (τ (q + 24 + T) i = v)) m) := by
  have w2 : q + 20 + 2 = q + 22 := by omega
  have w4 : q + 20 + 4 = q + 24 := by omega
  have hz : ∀ k : Nat → Option (Int32 ⊕ (Bool ⊕ Int32)), zelr (q + 24) 2 (nI T) k = k (q + 24 + T) := fun k => zelr_e hT (by omega)
  have lp := zit_any (b := fun (s : Int32) => Turns_holds_l2 τ (q + 20) (nI T) v s) (f := fun i => decide (τ (q + 24 + T) i = v)) (n := m) (r := nI m) (by omega) (fun j hj => by
    show Turns_holds_l2 τ (q + 20) (nI T) v (nI j) = _
    unfold Turns_holds_l2
    rw [w2, w4, zrd_e hT (by omega), h, if_neg (nI_ge hj (by omega)), hz, zrd_e (by omega) (by omega)]
    by_cases e : τ (q + 24 + T) j = v
    · rw [if_pos e, decide_eq_true e]; rfl
    · rw [if_neg e, decide_eq_false e, zlt_e, show nI j + 1 = nI (j + 1) from nI_add _ 1]; rfl) (by
    show Turns_holds_l2 τ (q + 20) (nI T) v (nI m) = _
    unfold Turns_holds_l2
    rw [w2, zrd_e hT (by omega), h, if_pos (nI_le (Nat.le_refl _) (by omega))])
  unfold Turns_holds
  rw [zlt_e, show (0 : Int32) = nI 0 from rfl, lp, obs]
  cases anyB (fun i => decide (τ (q + 24 + T) i = v)) m
  · rfl
  · rfl
theorem m_dup {ν : Sg} {B : Nat → Nat} {L e s T m : Nat} (h : Mx ν B L e) (h34 : ν 171 34 = nI s) (hT : T < 2) (hm : m ≤ 6) (v : Int32) :
    Ok (zit (fun (s : (Sg × Int32)) => M_readsTurns_l120 s.1 (nI (8 * T)) (nI m) v s.2) zFU (ν, nI 0)) (fun r => (r.1 = ν ∧ anyB (fun i => decide (ν 179 (8 * T + 2 + i) = v)) m = false) ∨ (r.1 = zup (zup ν 171 35 3) 171 36 (nI s) ∧ anyB (fun i => decide (ν 179 (8 * T + 2 + i) = v)) m = true)) := by
  have hmf : Mf (zup (zup ν 171 35 3) 171 36 (nI s)) := ⟨3, by omega, by omega, f35⟩
  refine zit_ok (fun j x => (x = (ν, nI j) ∧ anyB (fun i => decide (ν 179 (8 * T + 2 + i) = v)) j = false) ∨ (x.1 = zup (zup ν 171 35 3) 171 36 (nI s) ∧ anyB (fun i => decide (ν 179 (8 * T + 2 + i) = v)) m = true)) m ?_ ?_ zFU 0 _ (by rw [zFU_e]; omega) (by omega) (Or.inl ⟨rfl, rfl⟩)
  · rintro j x hj (⟨rfl, i2⟩ | ⟨i1, i2⟩)
    · show Ok (M_readsTurns_l120 ν (nI (8 * T)) (nI m) v (nI j)) _
      unfold M_readsTurns_l120
      rw [if_neg (nI_ge hj (by omega)), m_well h, bt, show nI (8 * T) + 2 = nI (8 * T + 2) from nI_add _ 2, nI_add, zrd_e (by omega) (by omega)]
      by_cases c : ν 179 (8 * T + 2 + j) = v
      · rw [if_pos c, zgt_e, h34, m_fault h, obs, zlt_e]
        exact Ok.some (Or.inr ⟨rfl, anyB_true hj (decide_eq_true c)⟩)
      · rw [if_neg c, zlt_e]
        refine Ok.some (Or.inl ⟨by rw [show nI j + 1 = nI (j + 1) from nI_add _ 1], ?_⟩)
        rw [anyB_succ, i2, decide_eq_false c]; rfl
    · obtain ⟨y1, y2⟩ := x
      have y0 : y1 = zup (zup ν 171 35 3) 171 36 (nI s) := i1
      subst y0
      show Ok (M_readsTurns_l120 _ (nI (8 * T)) (nI m) v y2) _
      unfold M_readsTurns_l120
      split
      · exact Ok.some (Or.inr ⟨rfl, i2⟩)
      · rw [hmf.well, bf]; exact Ok.some (Or.inr ⟨rfl, i2⟩)
  · rintro x (⟨rfl, i2⟩ | ⟨i1, i2⟩)
    · show Ok (M_readsTurns_l120 ν (nI (8 * T)) (nI m) v (nI m)) _
      unfold M_readsTurns_l120
      rw [if_pos (nI_le (Nat.le_refl _) (by omega))]
      exact Ok.some (Or.inl ⟨rfl, i2⟩)
    · obtain ⟨y1, y2⟩ := x
      have y0 : y1 = zup (zup ν 171 35 3) 171 36 (nI s) := i1
      subst y0
      show Ok (M_readsTurns_l120 _ (nI (8 * T)) (nI m) v y2) _
      unfold M_readsTurns_l120
      split
      · exact Ok.some (Or.inr ⟨rfl, i2⟩)
      · rw [hmf.well, bf]; exact Ok.some (Or.inr ⟨rfl, i2⟩)
theorem Mf.j115 {ν : Sg} (h : Mf ν) (x1 x3 s0 : Int32) : M_readsTurns_j57_115 ν x1 x3 s0 = some (.inr (.inl ν)) := by
  have : zit (fun (s : (Sg × Int32)) => M_readsTurns_l120 s.1 x1 x3 s0 s.2) zFU (ν, nI 0) = some (ν, nI 0) := by
    refine zit_eq (fun _ => (ν, nI 0)) _ 0 0 (by omega) (fun j _ hj => by omega) ?_ zFU 0 (by rw [zFU_e]; omega) (by omega) (by omega)
    show M_readsTurns_l120 ν x1 x3 s0 (nI 0) = _
    unfold M_readsTurns_l120
    split
    · rfl
    · rw [h.well, bf]
  unfold M_readsTurns_j57_115
  rw [zlt_e, show (0 : Int32) = nI 0 from rfl, this, obs]
  dsimp only
  unfold M_readsTurns_j57_164
  rw [h.well, bf]
def kont (x1 x3 : Int32) (ν : Sg) : Option ((Sg × Int32) ⊕ (Sg ⊕ (Sg × Int32))) := (M_here ν).bind fun r197 => if r197.1 = 44 then M_readsTurns_j57_209 r197.2 x1 else (if x3 = 0 then M_readsTurns_j57_209 r197.2 x1 else M_readsTurns_j57_214 r197.2 x1 0)
/-- one name of the turns -/
theorem turn_name {τ0 ν0 τ ν : Sg} {B : Nat → Nat} {L a q T O m : Nat} (hq : q = 3 ∨ q = 29) (hT : T < 2) (hm : m < 6) (h : Lx τ ν B L a) (h5 : τ0 2 5 = nI (q + 1)) (ts : TS q T m τ0 ν0 τ ν) (hO1 : τ0 q 7 = nI O) (hO2 : ν0 171 9 = nI O) (hO : O ≤ 10) (hN : Name2 τ0 ν0 182 (q + 13) O) :
    ∃ ok τ' ν', Reader_readTurnName τ (nI T) = some (ok, τ') ∧ ((ok = true ∧ M_readsTurns_j57_100 ν (nI (8 * T)) (nI m) = kont (nI (8 * T)) (nI m) ν' ∧ TS q T (m + 1) τ0 ν0 τ' ν' ∧ ∃ a', a ≤ a' ∧ Lx τ' ν' B L a') ∨ (ok = false ∧ M_readsTurns_j57_100 ν (nI (8 * T)) (nI m) = some (.inr (.inl ν')) ∧ Fx τ' ν' ∧ CW q τ0 τ' ∧ MW ν0 ν')) := by
  have rq : τ q = τ0 q := ts.1 q (by omega) (by omega) (by omega) (by omega)
  have r13 : τ (q + 13) = τ0 (q + 13) := ts.1 _ (by omega) (by omega) (by omega) (by omega)
  obtain ⟨r, τ1, fi, ν1, b1, b2, b3, b4, b5⟩ := b_outNamed (q := q) (O := O) h hq (by rw [rq]; exact hO1) (by rw [ts.2.2.2.2.1 9 (by omega)]; exact hO2) hO (hN.rows (fun p _ => by rw [r13]) (fun j _ => by rw [ts.2.2.2.1 182 (by omega) (by omega)]))
  have ts1 := ts.cf b3 b4 hq
  have t5 : τ 2 5 = nI (q + 1) := by rw [ts.2.2.1 5 (by omega)]; exact h5
  have sz1 : τ1 (q + 22) T = nI m := ts1.2.2.2.2.2.2.2.1
  have ho := c_holds (τ := τ1) (q := q) hT (by omega) sz1 fi
  have cw1 := (ts1.cw hT).1
  have mw1 := (ts1.cw hT).2
  have head : Reader_readTurnName τ (nI T) = if fi = (-1) then Reader_readTurnName_j39 τ1 q (nI T) fi else (if zb (anyB (fun i => decide (τ1 (q + 24 + T) i = fi)) m) = 0 then Reader_readTurnName_j40 τ1 q (nI T) fi 1 else Reader_readTurnName_j39 τ1 q (nI T) fi) := by
    unfold Reader_readTurnName
    rw [t5, zmr2_e rfl hq, zmr2_e rfl hq, b1, obs]
    dsimp only
    rw [b2, obs, zlt_e, ho, obs]
  have mh : ∀ x ν', M_outletNamed ν = some (x, ν') → M_readsTurns_j57_100 ν (nI (8 * T)) (nI m) = M_readsTurns_j57_115 ν' (nI (8 * T)) (nI m) x := fun x ν' e => by
    unfold M_readsTurns_j57_100
    rw [m_well h.2, bt, e, obs]
  rw [head]
  rcases b5 with ⟨l, l1, rfl, l3, s, e, e1, e2, e3, e4, hL⟩ | ⟨rfl, l3, u6, s, u4, g35, g36⟩ | ⟨hF, l3⟩
  · rw [if_neg (nI_m1ne (by omega)), mh _ _ l3]
    have any2 : anyB (fun i => decide (τ1 (q + 24 + T) i = nI l)) m = anyB (fun i => decide (ν1 179 (8 * T + 2 + i) = nI l)) m := anyB_congr (fun i hi => by rw [ts1.2.2.2.2.2.2.2.2.2 i hi])
    rw [any2]
    obtain ⟨rr, z1, z2⟩ := m_dup (m := m) hL.2 e4 hT (by omega) (nI l)
    have j115 : M_readsTurns_j57_115 ν1 (nI (8 * T)) (nI m) (nI l) = M_readsTurns_j57_164 rr.1 (nI (8 * T)) (nI m) (nI l) := by
      unfold M_readsTurns_j57_115
      rw [zlt_e, show (0 : Int32) = nI 0 from rfl, z1, obs]
    rw [j115]
    rcases z2 with ⟨y1, y2⟩ | ⟨y1, y2⟩
    · rw [y1, y2, if_pos (show zb false = 0 from rfl)]
      have c1 : τ1 2 6 = 0 := hL.1.c60
      refine ⟨true, zup (zup τ1 (q + 24 + T) m (nI l)) (q + 22) T (nI (m + 1)), zup (zup ν1 179 (8 * T + 2 + m) (nI l)) 179 (8 * T + 1) (nI (m + 1)), ?_, Or.inl ⟨rfl, ?_, ?_, e, by omega, ?_⟩⟩
      · unfold Reader_readTurnName_j40
        have hz : ∀ k : Nat → Option (Bool × Sg), zelr (q + 24) 2 (nI T) k = k (q + 24 + T) := fun k => zelr_e hT (by omega)
        rw [c_askNo c1 1 (by decide), obs, zgt_e, if_pos c1, zrd_e hT (by omega), sz1, show (6 : Int32) = nI 6 from rfl, if_pos (nI_lt hm (by omega)), hz, zrd_e hT (by omega), sz1, zwr_e hm (by omega), zrd_e hT (by omega), zup_ne (by omega), sz1, zwr_e hT (by omega), show nI m + 1 = nI (m + 1) from nI_add _ 1]
      · have n1 : ν1 179 (8 * T + 1) = nI m := ts1.2.2.2.2.2.2.2.2.1
        unfold M_readsTurns_j57_164 kont
        rw [m_well hL.2, bt, show nI (8 * T) + 2 = nI (8 * T + 2) from nI_add _ 2, nI_add, zwr_e (by omega) (by omega), show nI (8 * T) + 1 = nI (8 * T + 1) from nI_add _ 1, zrd_e (by omega) (by omega), zup_miss (by omega), n1, zwr_e (by omega) (by omega), show nI m + 1 = nI (m + 1) from nI_add _ 1]
      · obtain ⟨h1, h2, h3, h4, h5', h6, ⟨ee, h7a, h7b, h7c, h7d⟩, h8, h9, h10⟩ := ts1
        refine ⟨fun b x y z w => by rw [zup_ne z, zup_ne w]; exact h1 b x y z w, fun t ht => ?_, fun k hk => by rw [zup_ne (by omega), zup_ne (by omega)]; exact h3 k hk, fun b x y => by rw [zup_ne y, zup_ne y]; exact h4 b x y, fun k hk => by rw [zup_ne (by omega), zup_ne (by omega)]; exact h5' k hk, fun i hi => by rw [zup_miss (by omega), zup_miss (by omega)]; exact h6 i hi, ⟨ee, h7a, h7b, ?_, ?_⟩, zup_hit, zup_hit, fun i hi => ?_⟩
        · rw [zup_ne (by omega), zup_ne (by omega), zup_miss ht, zup_ne (by omega)]; exact h2 t ht
        · rw [zup_ne (by omega), zup_ne (by omega)]; exact h7c
        · rw [zup_miss (by omega), zup_miss (by omega)]; exact h7d
        · rw [zup_ne (by omega), zup_miss (show 8 * T + 2 + i ≠ 8 * T + 1 by omega)]
          by_cases ei : i = m
          · subst ei; rw [zup_hit, zup_hit]
          · rw [zup_miss ei, zup_miss (by omega)]; exact h10 i (by omega)
      · have y1 := hL.up (b := q + 24 + T) (i := m) (v := nI l) (c := 179) (j := 8 * T + 2 + m) (w := nI l) (by omega) (by omega)
        exact y1.up (b := q + 22) (i := T) (v := nI (m + 1)) (c := 179) (j := 8 * T + 1) (w := nI (m + 1)) (by omega) (by omega)
    · rw [y1, y2, if_neg (show ¬ zb true = 0 by decide)]
      have hF : Fx (zup (zup τ1 2 6 (nI 3)) 2 7 (nI s)) (zup (zup ν1 171 35 3) 171 36 (nI s)) := ⟨3, s, by omega, by rw [zup_miss (by omega), zup_hit], zup_hit, f35, f36⟩
      refine ⟨false, _, _, ?_, Or.inr ⟨rfl, ?_, hF, cw1.trans (c_failF _ _).w, mw1.trans (m_faultF _ _).w⟩⟩
      · unfold Reader_readTurnName_j39 Reader_readTurnName_j40
        rw [c_askYes hL.1.c60 e3, obs, zgt_e, if_neg hF.c6]
      · unfold M_readsTurns_j57_164
        rw [hF.mf.well, bf]
  · have hF : Fx (zup (zup τ1 2 6 (nI 3)) 2 7 (nI s)) ν1 := ⟨3, s, by omega, by rw [zup_miss (by omega), zup_hit], zup_hit, g35, g36⟩
    rw [if_pos rfl, mh _ _ l3, hF.mf.j115]
    refine ⟨false, _, ν1, ?_, Or.inr ⟨rfl, rfl, hF, cw1.trans (c_failF _ _).w, mw1⟩⟩
    unfold Reader_readTurnName_j39 Reader_readTurnName_j40
    rw [c_askYes u6 u4, obs, zgt_e, if_neg hF.c6]
  · rw [mh _ _ l3, hF.mf.j115]
    have cj : ∀ s : Int32, Reader_readTurnName_j40 τ1 q (nI T) fi s = some (false, τ1) := fun s => by
      unfold Reader_readTurnName_j40
      rw [c_askF hF.c6, obs, zgt_e, if_neg hF.c6]
    have cj9 : Reader_readTurnName_j39 τ1 q (nI T) fi = some (false, τ1) := by
      unfold Reader_readTurnName_j39
      exact cj 0
    rw [cj, cj9, ite_self, ite_self]
    exact ⟨false, τ1, ν1, rfl, Or.inr ⟨rfl, rfl, hF, cw1, mw1⟩⟩
