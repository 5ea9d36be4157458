/-! reading: names -/
def gl (B : Nat → Nat) (a e i : Nat) : Nat := if a + i < e then B (a + i) - 96 else 0
theorem gl_le {B : Nat → Nat} {a e : Nat} (h : ∀ i, a ≤ i → i < e → ltr (B i) = true) (i : Nat) : gl B a e i ≤ 26 := by
  unfold gl
  split
  · have := ltr_t (h (a + i) (by omega) (by omega)); omega
  · omega
def mN (g : Nat → Nat) : Nat → Nat
  | 0 => 0
  | j + 1 => mN g j * 32 + g j
theorem mN_s (g : Nat → Nat) (j : Nat) : mN g (j + 1) = mN g j * 32 + g j := rfl
theorem mN_lt {g : Nat → Nat} (h : ∀ i, g i ≤ 26) : ∀ j, mN g j < 2 ^ (5 * j)
  | 0 => by unfold mN; decide
  | j + 1 => by
    have := mN_lt h j
    have := h j
    rw [mN_s, show 5 * (j + 1) = 5 * j + 5 from by omega, Nat.pow_add]
    omega
theorem mN_nm {g : Nat → Nat} {m : Nat} (hm : m ≤ 6) (h : ∀ i, m ≤ i → g i = 0) : 2 ^ (30 - 5 * m) * mN g m = nmN g := by
  unfold nmN
  rcases m with _ | _ | _ | _ | _ | _ | _ | m
  · have := h 0 (by omega); have := h 1 (by omega); have := h 2 (by omega); have := h 3 (by omega); have := h 4 (by omega); have := h 5 (by omega)
    show 1073741824 * 0 = _
    omega
  · have := h 1 (by omega); have := h 2 (by omega); have := h 3 (by omega); have := h 4 (by omega); have := h 5 (by omega)
    show 33554432 * (0 * 32 + g 0) = _
    omega
  · have := h 2 (by omega); have := h 3 (by omega); have := h 4 (by omega); have := h 5 (by omega)
    show 1048576 * ((0 * 32 + g 0) * 32 + g 1) = _
    omega
  · have := h 3 (by omega); have := h 4 (by omega); have := h 5 (by omega)
    show 32768 * (((0 * 32 + g 0) * 32 + g 1) * 32 + g 2) = _
    omega
  · have := h 4 (by omega); have := h 5 (by omega)
    show 1024 * ((((0 * 32 + g 0) * 32 + g 1) * 32 + g 2) * 32 + g 3) = _
    omega
  · have := h 5 (by omega)
    show 32 * (((((0 * 32 + g 0) * 32 + g 1) * 32 + g 2) * 32 + g 3) * 32 + g 4) = _
    omega
  · show 1 * ((((((0 * 32 + g 0) * 32 + g 1) * 32 + g 2) * 32 + g 3) * 32 + g 4) * 32 + g 5) = _
    omega
  · omega
theorem c_nameIn {τ : Sg} {B : Nat → Nat} {L a e : Nat} (hb : ∀ i, i < L → τ 1 i = cv (B i) ∧ B i < 256) (hL2 : L ≤ 1600) (h1 : a ≤ e) (h2 : e ≤ L) (h3 : e - a ≤ 6) (hl : ∀ i, a ≤ i → i < e → ltr (B i) = true) : Reader_nameIn τ 1 1600 (nI a) (nI e) = some (nI (nmN (gl B a e))) := by
  have hg := gl_le hl
  have lp : zit (fun (s : (Int32 × Int32 × Int32)) => Reader_nameIn_l9 τ 1 1600 (nI e) s.1 s.2.1 s.2.2) zFU (nI (2 ^ (30 - 5 * 0) * mN (gl B a e) 0), nI 25 - nI (5 * 0), nI (a + 0)) = some (nI (2 ^ (30 - 5 * (e - a)) * mN (gl B a e) (e - a)), nI 25 - nI (5 * (e - a)), nI (a + (e - a))) := by
    refine zit_eq (fun j => (nI (2 ^ (30 - 5 * j) * mN (gl B a e) j), nI 25 - nI (5 * j), nI (a + j))) _ (e - a) 0 (by omega) (fun j _ hj => ?_) ?_ zFU 0 (by rw [zFU_e]; omega) (by omega) (by omega)
    · obtain ⟨b1, b2⟩ := hb (a + j) (by omega)
      have hlj := ltr_t (hl (a + j) (by omega) (by omega))
      have hb' : τ 1 (a + j) = nI (B (a + j)) := by rw [b1]; exact if_pos (by omega)
      have egl : gl B a e j = B (a + j) - 96 := by unfold gl; rw [if_pos (by omega)]
      have hgj := hg j
      have e1 : nI 25 - nI (5 * j) = nI (25 - 5 * j) := nI_sub (by omega)
      have e2 : nI (25 - 5 * j) &&& 31 = nI (25 - 5 * j) := by rw [and31 (by omega), Nat.mod_eq_of_lt (by omega)]
      have e3 : nI (25 - 5 * j) + (-5) = nI 25 - nI (5 * (j + 1)) := by
        rcases j with _ | _ | _ | _ | _ | _ | j
        · decide
        · decide
        · decide
        · decide
        · decide
        · decide
        · omega
      have e4 : (nI (B (a + j)) - 97) + 1 = nI (gl B a e j) := by
        rw [show (97 : Int32) = nI 97 from rfl, nI_sub (by omega), show nI (B (a + j) - 97) + 1 = nI (B (a + j) - 97 + 1) from nI_add _ 1, egl]
        congr 1
        omega
      have hm := mN_lt hg j
      have hp : 2 ^ (30 - 5 * j) = 2 ^ (25 - 5 * j + 5) := by rw [show 30 - 5 * j = 25 - 5 * j + 5 from by omega]
      have hp2 : (2 : Nat) ^ (25 - 5 * j) ≤ 2 ^ 25 := Nat.pow_le_pow_right (by omega) (by omega)
      have hs : gl B a e j * 2 ^ (25 - 5 * j) ≤ 26 * 2 ^ 25 := Nat.mul_le_mul hgj hp2
      have hbig : 2 ^ (30 - 5 * j) * mN (gl B a e) j + gl B a e j * 2 ^ (25 - 5 * j) < 2147483648 := by
        have x1 : 2 ^ (30 - 5 * j) * mN (gl B a e) j < 2 ^ (30 - 5 * j) * 2 ^ (5 * j) := Nat.mul_lt_mul_of_pos_left hm (Nat.two_pow_pos _)
        rw [← Nat.pow_add, show 30 - 5 * j + 5 * j = 30 from by omega] at x1
        have x2 : (2 : Nat) ^ 30 = 1073741824 := by decide
        have x3 : 26 * (2 : Nat) ^ 25 = 872415232 := by decide
        omega
      have hshl : nI (gl B a e j) <<< nI (25 - 5 * j) = nI (gl B a e j * 2 ^ (25 - 5 * j)) := shl_nI (by
        have x3 : 26 * (2 : Nat) ^ 25 = 872415232 := by decide
        omega) (by omega)
      have hor : nI (2 ^ (30 - 5 * j) * mN (gl B a e) j) ||| nI (gl B a e j * 2 ^ (25 - 5 * j)) = nI (2 ^ (30 - 5 * (j + 1)) * mN (gl B a e) (j + 1)) := by
        rw [hp] at hbig ⊢
        rw [or_nI (by omega) hbig, show 30 - 5 * (j + 1) = 25 - 5 * j from by omega, mN_s, Nat.pow_add, Nat.mul_add, Nat.mul_assoc, Nat.mul_comm (2 ^ 5) (mN (gl B a e) j), Nat.mul_comm (gl B a e j)]
      show Reader_nameIn_l9 τ 1 1600 (nI e) (nI (2 ^ (30 - 5 * j) * mN (gl B a e) j)) (nI 25 - nI (5 * j)) (nI (a + j)) = _
      unfold Reader_nameIn_l9
      rw [if_neg (nI_ge (by omega) (by omega)), zrd_e (by omega) (by omega), hb', e4, e1, e2, hshl, hor, zlt_e, zlt_e, zlt_e, e3, show nI (a + j) + 1 = nI (a + (j + 1)) from nI_add _ 1]
    · show Reader_nameIn_l9 τ 1 1600 (nI e) _ _ (nI (a + (e - a))) = _
      unfold Reader_nameIn_l9
      rw [if_pos (nI_le (by omega) (by omega))]
  have lp' : zit (fun (s : (Int32 × Int32 × Int32)) => Reader_nameIn_l9 τ 1 1600 (nI e) s.1 s.2.1 s.2.2) zFU (0, 25, nI a) = some (nI (2 ^ (30 - 5 * (e - a)) * mN (gl B a e) (e - a)), nI 25 - nI (5 * (e - a)), nI (a + (e - a))) := lp
  unfold Reader_nameIn
  rw [zlt_e, zlt_e, lp', obs]
  dsimp only
  rw [mN_nm h3 (fun i hi => by unfold gl; rw [if_neg (by omega)])]
/-! own words, as numbers -/
def och (j : Nat) : Int32 := (zSbyt.getD 4 []).getD j 0
def oA : Nat → Int32 × Int32
  | 0 => (0, 25)
  | j + 1 => if och j = 32 then (0, 25) else ((oA j).1 ||| (((och j - 97) + 1) <<< ((oA j).2 &&& 31)), (oA j).2 + (-5))
theorem oA_s (j : Nat) : oA (j + 1) = if och j = 32 then (0, 25) else ((oA j).1 ||| (((och j - 97) + 1) <<< ((oA j).2 &&& 31)), (oA j).2 + (-5)) := rfl
def ow (x i : Nat) : Nat := if i < wln x then own (wst x + i) else 0
theorem oA_w0 : ∀ x : Fin 20, och (wst x.val + wln x.val) = 32 ∧ (oA (wst x.val + wln x.val)).1 = nI (nmN (ow x.val)) := by decide +kernel
theorem oA_b0 : ∀ j : Fin 104, och j.val = 32 → ∃ x : Fin 20, j.val = wst x.val + wln x.val := by decide +kernel
theorem zSL4 : zSL 4 = nI 104 := by decide
theorem c_own (v : Int32) : ∃ b, Reader_isOwnWord v = some b ∧ (b = true ↔ ∃ x, x < 20 ∧ v = nI (nmN (ow x))) := by
  have hl : Ok (zit (fun (s : (Int32 × Int32 × Int32)) => Reader_isOwnWord_l7 v s.1 s.2.1 s.2.2) zFU ((oA 0).1, (oA 0).2, nI 0)) (fun r => (r = .inl true ∧ ∃ x, x < 20 ∧ v = nI (nmN (ow x))) ∨ ((∃ y, r = .inr y) ∧ ∀ x, x < 20 → v ≠ nI (nmN (ow x)))) := by
    refine zit_ok (fun j s => s = ((oA j).1, (oA j).2, nI j) ∧ ∀ x, x < 20 → wst x + wln x < j → v ≠ nI (nmN (ow x))) 104 ?_ ?_ zFU 0 _ (by rw [zFU_e]; omega) (by omega) ⟨rfl, fun x _ h => by omega⟩
    · rintro j s hj ⟨rfl, i2⟩
      have hsc : ∀ (f : Int32 → Option ((Int32 × Int32 × Int32) ⊕ (Bool ⊕ (Int32 × Int32 × Int32)))), zsc 4 (nI j) f = f (och j) := by
        intro f
        unfold zsc
        rw [nI_clamp (by omega), if_neg]
        · rfl
        · rintro (y | y)
          · exact nI_nlt (a := j) (b := 0) (by omega) (by omega) y
          · have : zSlen.getD 4 0 = 104 := rfl
            omega
      show Ok (Reader_isOwnWord_l7 v (oA j).1 (oA j).2 (nI j)) _
      unfold Reader_isOwnWord_l7
      rw [zSL4, if_neg (nI_ge hj (by omega)), hsc]
      by_cases c : och j = 32
      · obtain ⟨x, hx⟩ := oA_b0 ⟨j, hj⟩ c
        have hx' : j = wst x.val + wln x.val := hx
        have hw := (oA_w0 x).2
        rw [← hx'] at hw
        rw [if_pos c]
        by_cases q : (oA j).1 = v
        · rw [if_pos q]
          exact Ok.some (Or.inl ⟨rfl, x.val, x.isLt, by rw [← q, hw]⟩)
        · rw [if_neg q, zlt_e, zlt_e, zlt_e]
          refine Ok.some ⟨?_, fun y hy hlt => ?_⟩
          · rw [oA_s, if_pos c, show nI j + 1 = nI (j + 1) from nI_add _ 1]
          · by_cases e : wst y + wln y = j
            · have h2 := (oA_w0 ⟨y, hy⟩).2
              have h2' : (oA (wst y + wln y)).1 = nI (nmN (ow y)) := h2
              rw [e] at h2'
              rw [← h2']
              exact fun z => q z.symm
            · exact i2 y hy (by omega)
      · rw [if_neg c, zlt_e, zlt_e, zlt_e]
        refine Ok.some ⟨?_, fun y hy hlt => ?_⟩
        · rw [oA_s, if_neg c, show nI j + 1 = nI (j + 1) from nI_add _ 1]
        · by_cases e : wst y + wln y = j
          · have h1 : och (wst y + wln y) = 32 := (oA_w0 ⟨y, hy⟩).1
            rw [e] at h1
            exact absurd h1 c
          · exact i2 y hy (by omega)
    · rintro s ⟨rfl, i2⟩
      show Ok (Reader_isOwnWord_l7 v (oA 104).1 (oA 104).2 (nI 104)) _
      unfold Reader_isOwnWord_l7
      rw [zSL4, if_pos (nI_le (Nat.le_refl _) (by omega))]
      exact Ok.some (Or.inr ⟨⟨_, rfl⟩, fun x hx => i2 x hx (w_tab hx).2.1⟩)
  obtain ⟨r, z1, z2⟩ := hl
  have z1' : zit (fun (s : (Int32 × Int32 × Int32)) => Reader_isOwnWord_l7 v s.1 s.2.1 s.2.2) zFU (0, 25, 0) = some r := z1
  unfold Reader_isOwnWord
  rw [zlt_e, zlt_e, zlt_e, z1', obs]
  rcases z2 with ⟨rfl, z3⟩ | ⟨⟨y, rfl⟩, z3⟩
  · exact ⟨true, rfl, fun _ => z3, fun _ => rfl⟩
  · exact ⟨false, rfl, fun h => absurd h (by decide), fun ⟨x, h1, h2⟩ => absurd h2 (z3 x h1)⟩
theorem nmN_inj {f g : Nat → Nat} (hf : ∀ k, k < 6 → f k ≤ 26) (hg : ∀ k, k < 6 → g k ≤ 26) (h : nmN f = nmN g) : ∀ k, k < 6 → f k = g k := by
  have f0 := hf 0 (by omega); have f1 := hf 1 (by omega); have f2 := hf 2 (by omega); have f3 := hf 3 (by omega); have f4 := hf 4 (by omega); have f5 := hf 5 (by omega)
  have g0 := hg 0 (by omega); have g1 := hg 1 (by omega); have g2 := hg 2 (by omega); have g3 := hg 3 (by omega); have g4 := hg 4 (by omega); have g5 := hg 5 (by omega)
  unfold nmN at h
  intro k hk
  rcases k with _ | _ | _ | _ | _ | _ | k
  · omega
  · show f 1 = g 1; omega
  · show f 2 = g 2; omega
  · show f 3 = g 3; omega
  · show f 4 = g 4; omega
  · show f 5 = g 5; omega
  · omega
theorem nmN_congr {f g : Nat → Nat} (h : ∀ k, k < 6 → f k = g k) : nmN f = nmN g := by
  unfold nmN
  rw [h 0 (by omega), h 1 (by omega), h 2 (by omega), h 3 (by omega), h 4 (by omega), h 5 (by omega)]
theorem ow_le {x : Nat} (hx : x < 20) (i : Nat) : ow x i ≤ 26 := by
  unfold ow
  split
  · rename_i h; exact ((w_tab hx).2.2.2.2.2.1 i h).2
  · omega
theorem isW_ow {B : Nat → Nat} {a e x : Nat} (hx : x < 20) (h1 : a ≤ e) (h2 : e - a ≤ 6) (hl : ∀ i, a ≤ i → i < e → ltr (B i) = true) : nmN (gl B a e) = nmN (ow x) ↔ isW B a e x := by
  obtain ⟨_, _, _, w4, w5, w6, _⟩ := w_tab hx
  constructor
  · intro h
    have hk := nmN_inj (fun k _ => gl_le hl k) (fun k _ => ow_le hx k) h
    have key : ∀ i, i < 6 → (i < e - a ↔ i < wln x) := by
      intro i hi
      have := hk i hi
      unfold gl ow at this
      constructor
      · intro q
        have hc := ltr_t (hl (a + i) (by omega) (by omega))
        rw [if_pos (by omega)] at this
        rcases Nat.lt_or_ge i (wln x) with y | y
        · exact y
        · rw [if_neg (by omega)] at this; omega
      · intro q
        have hc := w6 i q
        rw [if_pos q] at this
        rcases Nat.lt_or_ge i (e - a) with y | y
        · exact y
        · rw [if_neg (by omega)] at this; omega
    have hlen : e - a = wln x := by
      rcases Nat.lt_trichotomy (e - a) (wln x) with y | y | y
      · have := (key (e - a) (by omega)).mpr y; omega
      · exact y
      · have := (key (wln x) (by omega)).mp y; omega
    refine ⟨hlen, fun i hi => ?_⟩
    have := hk i (by omega)
    have hc := ltr_t (hl (a + i) (by omega) (by omega))
    unfold gl ow at this
    rw [if_pos (by omega), if_pos hi] at this
    omega
  · rintro ⟨q1, q2⟩
    refine nmN_congr (fun k hk => ?_)
    unfold gl ow
    by_cases y : k < wln x
    · rw [if_pos (by omega), if_pos y, q2 k y]; omega
    · rw [if_neg (by omega), if_neg y]
def NmOk (B : Nat → Nat) (L a : Nat) : Prop := tg B (sk B L a) = 0 ∧ sk B L a < we B L (sk B L a) ∧ we B L (sk B L a) - sk B L a ≤ 6 ∧ ∀ x, x < 20 → ¬ isW B (sk B L a) (we B L (sk B L a)) x
/-- where a name that will not do is told -/
def NmP (B : Nat → Nat) (L a p : Nat) : Prop := (p = sk B L a + 6 ∧ tg B (sk B L a) = 0 ∧ 6 < we B L (sk B L a) - sk B L a) ∨ (p = sk B L a ∧ ¬ (tg B (sk B L a) = 0 ∧ 6 < we B L (sk B L a) - sk B L a))
def nmG (B : Nat → Nat) (L a : Nat) : Nat → Nat := gl B (sk B L a) (we B L (sk B L a))
theorem c_name {τ : Sg} {B : Nat → Nat} {L a : Nat} (h : Cx τ B L a) : ∃ r τ', Reader_readName τ = some (r, τ') ∧ CF τ τ' ∧ ((NmOk B L a ∧ r = nI (nmN (nmG B L a)) ∧ Cx τ' B L (we B L (sk B L a)) ∧ τ' 2 4 = nI (sk B L a)) ∨ (¬ NmOk B L a ∧ τ' 2 6 = nI 1 ∧ ∃ p, NmP B L a p ∧ τ' 2 7 = nI p)) := by
  obtain ⟨τ1, a1, a2, a3⟩ := c_skip h
  obtain ⟨⟨hL, hL2⟩, hb, c0, c1, c2, c3, c6⟩ := a3
  obtain ⟨s1, s2⟩ := we_le (B := B) hL
  generalize hτ2 : zup τ1 2 4 (nI (sk B L a)) = τ2
  have f2 : CF τ τ2 := by rw [← hτ2]; exact a2.trans (CF.up (by omega))
  have r2 : ∀ k, k ≠ 4 → τ2 2 k = τ1 2 k := fun k hk => by rw [← hτ2, zup_miss hk]
  have r4 : τ2 2 4 = nI (sk B L a) := by rw [← hτ2, zup_hit]
  have hb2 : ∀ i, i < L → τ2 1 i = cv (B i) ∧ B i < 256 := fun i hi => by rw [← hτ2, zup_ne (by omega)]; exact hb i hi
  have d0 : τ2 2 0 = nI 2 := by rw [r2 0 (by omega)]; exact c0
  have d1 : τ2 2 1 = nI L := by rw [r2 1 (by omega)]; exact c1
  have d2 : τ2 2 2 = nI (sk B L a) := by rw [r2 2 (by omega)]; exact c2
  have d3 : τ2 2 3 = nI (tg B (sk B L a)) := by rw [r2 3 (by omega)]; exact c3
  have d6 : τ2 2 6 = nI 0 ∧ τ2 2 7 = -1 := by rw [r2 6 (by omega), r2 7 (by omega)]; exact c6
  have hlt : ∀ i, sk B L a ≤ i → i < we B L (sk B L a) → ltr (B i) = true := fun i x y => we_in x y
  have fl : ∀ p : Nat, ¬ NmOk B L a → NmP B L a p → ∃ r τ', (some (0, zup (zup τ2 2 6 1) 2 7 (nI p)) : Option (Int32 × Sg)) = some (r, τ') ∧ CF τ τ' ∧ ((NmOk B L a ∧ r = nI (nmN (nmG B L a)) ∧ Cx τ' B L (we B L (sk B L a)) ∧ τ' 2 4 = nI (sk B L a)) ∨ (¬ NmOk B L a ∧ τ' 2 6 = nI 1 ∧ ∃ p, NmP B L a p ∧ τ' 2 7 = nI p)) := fun p n1 n2 =>
    ⟨_, _, rfl, f2.trans (c_failF _ _), Or.inr ⟨n1, by rw [zup_miss (by omega), zup_hit]; rfl, p, n2, zup_hit⟩⟩
  unfold Reader_readName
  rw [a1, obs, zgt_e, c2, zpt_e, hτ2, zgt_e, d2, c_wordEnd d0 d1 hb2 hL2 hL, obs, zlt_e, zgt_e, d3]
  rcases tg_01 B (sk B L a) with t | t
  · rw [t, if_pos (show nI 0 = 0 from rfl), zgt_e, d2]
    by_cases q1 : we B L (sk B L a) = sk B L a
    · rw [if_pos (congrArg nI q1), zgt_e, d2, c_fail, obs]
      exact fl _ (fun y => by have := y.2.1; omega) (Or.inr ⟨rfl, fun y => by have := y.2; omega⟩)
    · rw [if_neg (fun y => q1 ((nI_eq (by omega) (by omega)).mp y)), zgt_e, d2, nI_sub s1, show (6 : Int32) = nI 6 from rfl]
      by_cases q2 : we B L (sk B L a) - sk B L a ≤ 6
      · have hlt1 : sk B L a < we B L (sk B L a) := by omega
        obtain ⟨b, k1, k2⟩ := c_own (nI (nmN (nmG B L a)))
        have hlt30 := nmN_lt (f := nmG B L a) (fun k _ => gl_le hlt k)
        have k3 : b = true ↔ ∃ x, x < 20 ∧ isW B (sk B L a) (we B L (sk B L a)) x := by
          rw [k2]
          constructor
          · rintro ⟨x, x1, x2⟩
            have x3 := nmN_lt (f := ow x) (fun k _ => ow_le x1 k)
            exact ⟨x, x1, (isW_ow x1 s1 q2 hlt).mp ((nI_eq (a := nmN (nmG B L a)) (b := nmN (ow x)) (Nat.lt_trans hlt30 (by decide)) (Nat.lt_trans x3 (by decide))).mp x2)⟩
          · rintro ⟨x, x1, x2⟩
            exact ⟨x, x1, congrArg nI ((isW_ow x1 s1 q2 hlt).mpr x2)⟩
        rw [if_pos (nI_le q2 (by omega)), zmrh d0, zgt_e, d2, c_nameIn hb2 hL2 s1 s2 q2 hlt, obs, zlt_e, show nmN (gl B (sk B L a) (we B L (sk B L a))) = nmN (nmG B L a) from rfl, k1]
        cases b
        · rw [bf, zpt_e, zbl1, zpt_e]
          have ok : NmOk B L a := ⟨t, hlt1, q2, fun x x1 x2 => absurd (k3.mpr ⟨x, x1, x2⟩) (by decide)⟩
          refine ⟨_, _, rfl, f2.trans ((CF.up (by omega)).trans (CF.up (by omega))), Or.inl ⟨ok, rfl, ⟨⟨s2, hL2⟩, fun i hi => by rw [zup_ne (by omega), zup_ne (by omega)]; exact hb2 i hi, ?_, ?_, ?_, ?_, ?_⟩, ?_⟩⟩
          · rw [zup_miss (by omega), zup_miss (by omega)]; exact d0
          · rw [zup_miss (by omega), zup_miss (by omega)]; exact d1
          · rw [zup_miss (by omega), zup_hit]
          · rw [zup_hit, tg_we hlt1]; rfl
          · exact c67_up (c67_up d6 (by omega)) (by omega)
          · rw [zup_miss (by omega), zup_miss (by omega)]; exact r4
        · obtain ⟨x, x1, x2⟩ := k3.mp rfl
          rw [bt, zgt_e, d2, c_fail, obs]
          exact fl _ (fun y => y.2.2.2 x x1 x2) (Or.inr ⟨rfl, fun y => by have := y.2; omega⟩)
      · rw [if_neg (nI_ge (by omega) (by omega)), zgt_e, d2, nI_add, c_fail, obs]
        exact fl _ (fun y => by have := y.2.2.1; omega) (Or.inl ⟨rfl, t, by omega⟩)
  · rw [t, if_neg (show ¬ nI 1 = 0 by decide), zgt_e, d2, c_fail, obs]
    exact fl _ (fun y => by have := y.1; omega) (Or.inr ⟨rfl, fun y => by have := y.1; omega⟩)
