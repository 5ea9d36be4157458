/-! reading: turns whole -/
theorem c_skipP {τ : Sg} {B : Nat → Nat} {L a : Nat} (hL : a ≤ L) (hL2 : L ≤ 1600) (hb : ∀ i, i < L → τ 1 i = cv (B i) ∧ B i < 256) (c0 : τ 2 0 = nI 2) (c1 : τ 2 1 = nI L) (c2 : τ 2 2 = nI a) : ∃ τ', Reader_skipBlanks τ = some τ' ∧ CF τ τ' ∧ τ' 2 2 = nI (sk B L a) ∧ τ' 2 1 = nI L := by
  obtain ⟨s1, s2⟩ := sk_le (B := B) hL
  by_cases e : sk B L a = a
  · refine ⟨τ, ?_, CF.refl τ, by rw [e]; exact c2, c1⟩
    unfold Reader_skipBlanks
    rw [zgt_e, zgt_e, c1, c2]
    rcases Nat.lt_or_ge a L with x | x
    · have hn := sk_out (B := B) (L := L) (a := a) (by omega)
      rw [e] at hn
      obtain ⟨b1, b2⟩ := hb a x
      obtain ⟨n1, n2⟩ := blk_n b2 hn
      rw [if_neg (nI_ge x (by omega)), zmrh c0, zgt_e, c2, zrd_e (by omega) (by omega), b1, if_neg n1, zmrh c0, zgt_e, c2, zrd_e (by omega) (by omega), b1, if_neg n2]
    · rw [if_pos (nI_le x (by omega))]
  · have hlt : a < sk B L a := by omega
    have hbk : ∀ i, a ≤ i → i < sk B L a → blk (B i) = true := fun i x y => sk_in x y
    have hl : Ok (zit (fun (s : Sg) => Reader_skipBlanks_l0 s) zFU (zup (zup τ 2 2 (nI (a + 1))) 2 3 (nI 0))) (fun r => (∀ a, a ≠ 2 → r a = τ a) ∧ (∀ k, k ≠ 2 → k ≠ 3 → r 2 k = τ 2 k) ∧ r 2 2 = nI (sk B L a) ∧ r 2 3 = nI 0) := by
      refine zit_ok (fun j s => (∀ a, a ≠ 2 → s a = τ a) ∧ (∀ k, k ≠ 2 → k ≠ 3 → s 2 k = τ 2 k) ∧ s 2 2 = nI (a + 1 + j) ∧ s 2 3 = nI 0) (sk B L a - a - 1) ?_ ?_ zFU 0 _ (by rw [zFU_e]; omega) (by omega) ⟨fun b hb => by rw [zup_ne hb, zup_ne hb], fun k x y => by rw [zup_miss y, zup_miss x], by rw [zup_miss (by omega), zup_hit], zup_hit⟩
      · rintro j s hj ⟨i1, i2, i3, i4⟩
        have e0 : s 2 0 = nI 2 := by rw [i2 0 (by omega) (by omega)]; exact c0
        have e1 : s 2 1 = nI L := by rw [i2 1 (by omega) (by omega)]; exact c1
        have hk := hbk (a + 1 + j) (by omega) (by omega)
        obtain ⟨b1, b2⟩ := hb (a + 1 + j) (by omega)
        have b1' : s 1 (a + 1 + j) = cv (B (a + 1 + j)) := by rw [i1 1 (by omega)]; exact b1
        have nx : (∀ b, b ≠ 2 → zup (zup s 2 2 (nI (a + 1 + (j + 1)))) 2 3 (nI 0) b = τ b) ∧ (∀ k, k ≠ 2 → k ≠ 3 → zup (zup s 2 2 (nI (a + 1 + (j + 1)))) 2 3 (nI 0) 2 k = τ 2 k) ∧ zup (zup s 2 2 (nI (a + 1 + (j + 1)))) 2 3 (nI 0) 2 2 = nI (a + 1 + (j + 1)) ∧ zup (zup s 2 2 (nI (a + 1 + (j + 1)))) 2 3 (nI 0) 2 3 = nI 0 := ⟨fun b hb => by rw [zup_ne hb, zup_ne hb]; exact i1 b hb, fun k x y => by rw [zup_miss y, zup_miss x]; exact i2 k x y, by rw [zup_miss (by omega), zup_hit], zup_hit⟩
        unfold Reader_skipBlanks_l0
        rw [zgt_e, zgt_e, e1, i3, if_neg (nI_ge (by omega) (by omega)), zmrh e0, zgt_e, i3, zrd_e (by omega) (by omega), b1']
        have go : (zgt s 2 2 fun v41 => zpt s 2 2 (v41 + 1) fun σ46 => zbo 0 <| zpt σ46 2 3 0 fun σ51 => (some (.inl σ51) : Option (Sg ⊕ Sg))) = some (.inl (zup (zup s 2 2 (nI (a + 1 + (j + 1)))) 2 3 (nI 0))) := by
          rw [zgt_e, i3, zpt_e, show nI (a + 1 + j) + 1 = nI (a + 1 + (j + 1)) from nI_add (a + 1 + j) 1, zbl0, zpt_e]
          rfl
        have hd : B (a + 1 + j) = 10 ∨ B (a + 1 + j) = 32 := of_decide_eq_true hk
        rcases hd with hd | hd
        · rw [if_pos (show cv (B (a + 1 + j)) = 10 from (cv_eq b2 (show 10 < 128 by omega)).mpr hd), go]
          exact Ok.some nx
        · rw [if_neg (show ¬ cv (B (a + 1 + j)) = 10 from fun e => by have := (cv_eq b2 (show 10 < 128 by omega)).mp e; omega), zmrh e0, zgt_e, i3, zrd_e (by omega) (by omega), b1', if_pos (show cv (B (a + 1 + j)) = 32 from (cv_eq b2 (show 32 < 128 by omega)).mpr hd), go]
          exact Ok.some nx
      · rintro s ⟨i1, i2, i3, i4⟩
        have e0 : s 2 0 = nI 2 := by rw [i2 0 (by omega) (by omega)]; exact c0
        have e1 : s 2 1 = nI L := by rw [i2 1 (by omega) (by omega)]; exact c1
        rw [show a + 1 + (sk B L a - a - 1) = sk B L a from by omega] at i3
        unfold Reader_skipBlanks_l0
        rw [zgt_e, zgt_e, e1, i3]
        rcases Nat.lt_or_ge (sk B L a) L with x | x
        · obtain ⟨b1, b2⟩ := hb (sk B L a) x
          have b1' : s 1 (sk B L a) = cv (B (sk B L a)) := by rw [i1 1 (by omega)]; exact b1
          obtain ⟨n1, n2⟩ := blk_n b2 (sk_out x)
          rw [if_neg (nI_ge x (by omega)), zmrh e0, zgt_e, i3, zrd_e (by omega) (by omega), b1', if_neg n1, zmrh e0, zgt_e, i3, zrd_e (by omega) (by omega), b1', if_neg n2]
          exact Ok.some ⟨i1, i2, i3, i4⟩
        · rw [if_pos (nI_le x (by omega))]
          exact Ok.some ⟨i1, i2, i3, i4⟩
    obtain ⟨r, z1, z2, z3, z4, z5⟩ := hl
    have j39 : Reader_skipBlanks_j39 τ = some r := by
      unfold Reader_skipBlanks_j39
      rw [zgt_e, c2, zpt_e, show nI a + 1 = nI (a + 1) from nI_add a 1, zbl0, zpt_e, show (0 : Int32) = nI 0 from rfl, z1, obs]
    refine ⟨r, ?_, ⟨z2, fun k hk => z3 k (by omega) (by omega)⟩, z4, by rw [z3 1 (by omega) (by omega)]; exact c1⟩
    obtain ⟨b1, b2⟩ := hb a (by omega)
    have hd : B a = 10 ∨ B a = 32 := of_decide_eq_true (hbk a (by omega) hlt)
    unfold Reader_skipBlanks
    rw [zgt_e, zgt_e, c1, c2, if_neg (nI_ge (by omega) (by omega)), zmrh c0, zgt_e, c2, zrd_e (by omega) (by omega), b1]
    rcases hd with hd | hd
    · rw [if_pos (show cv (B a) = 10 from (cv_eq b2 (show 10 < 128 by omega)).mpr hd), j39]
    · rw [if_neg (show ¬ cv (B a) = 10 from fun e => by have := (cv_eq b2 (show 10 < 128 by omega)).mp e; omega), zmrh c0, zgt_e, c2, zrd_e (by omega) (by omega), b1, if_pos (show cv (B a) = 32 from (cv_eq b2 (show 32 < 128 by omega)).mpr hd), j39]
theorem zit_s {S R : Type} {b : S → Option (S ⊕ R)} {s : S} {f : Nat} : zit b (f + 1) s = (b s).bind fun o => o.elim (fun s' => zit b f s') (fun r => some r) := by
  show (b s).bind _ = _
  cases b s with
  | none => rfl
  | some o => cases o <;> rfl
theorem it_lt6 {ν : Sg} {B : Nat → Nat} {L a T m : Nat} (h : Mx ν B L a) (hT : T < 2) (hm : m < 6) (h1 : ν 179 (8 * T + 1) = nI m) : M_readsTurns_l57 ν (nI (8 * T)) 1 = M_readsTurns_j57_100 ν (nI (8 * T)) (nI m) := by
  have h2 := h.to (sk_le (B := B) h.1.1).2
  have e : M_readsTurns_j57_100 (zup ν 171 33 (nI (sk B L a))) (nI (8 * T)) (nI m) = M_readsTurns_j57_100 ν (nI (8 * T)) (nI m) := by
    unfold M_readsTurns_j57_100
    rw [m_well h2, m_well h, bt, bt, m_outNamed_sk h]
  unfold M_readsTurns_l57
  rw [if_neg (by decide), m_well h, bt, show nI (8 * T) + 1 = nI (8 * T + 1) from nI_add _ 1, zrd_e (by omega) (by omega), h1, m_here h, obs]
  dsimp only
  rw [if_neg (show ¬ nI m = 6 from fun z => by have := (nI_eq (b := 6) (by omega) (by omega)).mp z; omega), e, ite_self]
theorem it_6 {ν : Sg} {B : Nat → Nat} {L a T : Nat} (h : Mx ν B L a) (hT : T < 2) (h1 : ν 179 (8 * T + 1) = nI 6) : ∃ νf, M_readsTurns_l57 ν (nI (8 * T)) 1 = some (.inr (.inl νf)) ∧ MF ν νf ∧ ((sk B L a < L ∧ νf 171 35 = nI 5 ∧ νf 171 36 = nI (sk B L a)) ∨ (sk B L a = L ∧ νf 171 35 = nI 1 ∧ νf 171 36 = nI L)) := by
  obtain ⟨s1, s2⟩ := sk_le (B := B) h.1.1
  have h2 := h.to s2
  have hLL := h.1
  have hd : M_readsTurns_l57 ν (nI (8 * T)) 1 = if bA B L (sk B L a) = (-1) then M_readsTurns_j57_100 (zup ν 171 33 (nI (sk B L a))) (nI (8 * T)) (nI 6) else (M_faults (zup ν 171 33 (nI (sk B L a))) 5 (nI (sk B L a))).bind fun r97 => M_readsTurns_j57_100 r97 (nI (8 * T)) (nI 6) := by
    unfold M_readsTurns_l57
    rw [if_neg (by decide), m_well h, bt, show nI (8 * T) + 1 = nI (8 * T + 1) from nI_add _ 1, zrd_e (by omega) (by omega), h1, m_here h, obs]
    dsimp only
    rw [if_pos (show nI 6 = 6 from rfl), zgt_e, zup_hit]
  rw [hd]
  rcases Nat.lt_or_ge (sk B L a) L with x | x
  · have hb := (h.2.1 _ x).2
    rw [show bA B L (sk B L a) = nI (B (sk B L a)) from if_pos x, if_neg (nI_m1ne (by omega)), m_fault h2, obs]
    have hmf : Mf (zup (zup (zup ν 171 33 (nI (sk B L a))) 171 35 5) 171 36 (nI (sk B L a))) := ⟨5, by omega, by omega, f35⟩
    refine ⟨zup (zup (zup ν 171 33 (nI (sk B L a))) 171 35 5) 171 36 (nI (sk B L a)), ?_, (MF.up (k := 33) (by omega)).trans (m_faultF _ _), Or.inl ⟨x, f35, f36⟩⟩
    unfold M_readsTurns_j57_100
    rw [hmf.well, bf, hmf.j115]
  · have eL : sk B L a = L := by omega
    rw [show bA B L (sk B L a) = -1 from if_neg (by omega), if_pos rfl]
    obtain ⟨νn, n1, n2, n3⟩ := m_name h
    have hwe : we B L (sk B L a) = sk B L a := by
      have := we_le (B := B) s2
      omega
    rcases n3 with ⟨k, _⟩ | ⟨_, k2, p, k3, k4⟩
    · have := k.2.1; omega
    · have hp : p = L := by
        rcases k3 with ⟨_, _, k⟩ | ⟨k, _⟩
        · omega
        · omega
      have hmf : Mf νn := ⟨1, by omega, by omega, k2⟩
      have on : ∃ x, M_outletNamed ν = some (x, νn) := by
        unfold M_outletNamed
        rw [n1, obs, zgt_e]
        have : ∀ v : Int32, M_among νn 182 60 v = some (-1) := by
          intro v
          have : zit (fun (s : Int32) => M_among_l2 νn 182 60 v s) zFU (nI 0) = some (.inr (nI 0)) := by
            refine zit_eq (fun j => nI j) _ 0 0 (by omega) (fun j _ hj => by omega) ?_ zFU 0 (by rw [zFU_e]; omega) (by omega) (by omega)
            unfold M_among_l2
            split
            · rfl
            · rw [hmf.well, bf]
          unfold M_among
          rw [zlt_e, show (0 : Int32) = nI 0 from rfl, this, obs]
          rfl
        rw [this, obs, zlt_e, hmf.well, bf]
        exact ⟨_, rfl⟩
      obtain ⟨x, on⟩ := on
      refine ⟨νn, ?_, n2, Or.inr ⟨eL, k2, by rw [k4, hp]⟩⟩
      unfold M_readsTurns_j57_100
      rw [m_well h2, bt, m_outNamed_sk h, on, obs, hmf.j115]
theorem k_yes {ν : Sg} {B : Nat → Nat} {L a : Nat} (h : Mx ν B L a) (q : SgOk B L a 44) (x1 x3 : Int32) : kont x1 x3 ν = some (.inl (zup ν 171 33 (nI (sk B L a + 1)), 1)) := by
  have h2 := h.to (sk_le (B := B) h.1.1).2
  have hb : bA B L (sk B L a) = 44 := (bA_eq (B := B) (L := L) (i := sk B L a) (c := 44) (fun x => (h.2.1 _ x).2) (by omega)).mpr q
  unfold kont M_readsTurns_j57_209 M_readsTurns_j57_214
  rw [m_here h, obs]
  dsimp only
  rw [if_pos hb, if_neg (show ¬ (1 : Int32) = 0 by decide), m_here h2, obs]
  dsimp only
  rw [sk_id h.1.1, if_pos hb, zgt_e, zup_hit, zpt_e, show nI (sk B L a) + 1 = nI (sk B L a + 1) from nI_add _ 1, zup_zup, zup_zup]
theorem k_no {ν : Sg} {B : Nat → Nat} {L a m : Nat} (h : Mx ν B L a) (q : ¬ SgOk B L a 44) (x1 : Int32) (hm : 1 ≤ m) (hm2 : m ≤ 6) : kont x1 (nI m) ν = some (.inl (zup ν 171 33 (nI (sk B L a)), 0)) := by
  have hb : ¬ bA B L (sk B L a) = 44 := fun z => q ((bA_eq (B := B) (L := L) (i := sk B L a) (c := 44) (fun x => (h.2.1 _ x).2) (by omega)).mp z)
  unfold kont M_readsTurns_j57_214 M_readsTurns_j57_241
  rw [m_here h, obs]
  dsimp only
  rw [if_neg hb, if_neg (nI_ne0 (by omega) (by omega)), if_pos rfl, if_pos rfl]
theorem k_no0 {ν : Sg} {B : Nat → Nat} {L a : Nat} (h : Mx ν B L a) (q : ¬ SgOk B L a 44) (x1 : Int32) : kont x1 (nI 0) ν = some (.inl (zup (zup (zup ν 171 33 (nI (sk B L a))) 171 35 1) 171 36 (nI (sk B L a)), 1)) := by
  have h2 := h.to (sk_le (B := B) h.1.1).2
  have hb : ¬ bA B L (sk B L a) = 44 := fun z => q ((bA_eq (B := B) (L := L) (i := sk B L a) (c := 44) (fun x => (h.2.1 _ x).2) (by omega)).mp z)
  unfold kont M_readsTurns_j57_209 M_readsTurns_j57_214 M_readsTurns_j57_241
  rw [m_here h, obs]
  dsimp only
  rw [if_neg hb, if_pos (show nI 0 = 0 from rfl), if_neg (show ¬ (1 : Int32) = 0 by decide), m_here h2, obs]
  dsimp only
  rw [sk_id h.1.1, if_neg hb, if_neg (show ¬ (1 : Int32) = 0 by decide), zgt_e, zup_hit, zup_zup, m_fault h2, obs]
def tE (r : Sg ⊕ (Sg × Int32)) : Option Sg := r.elim (fun r => some r) (fun r => zgt r.1 171 10 fun v259 => zpt r.1 171 10 (v259 + 1) fun σ264 => some σ264)
def tM (T : Nat) (f : Nat) (s : Sg × Int32) : Option Sg := ((zit (fun (s : (Sg × Int32)) => M_readsTurns_l57 s.1 (nI (8 * T)) s.2) f s).bind tE).bind fun r => M_endsWell r
def tK (T : Nat) (f : Nat) (x3 : Int32) (ν : Sg) : Option Sg := (((kont (nI (8 * T)) x3 ν).bind fun o => o.elim (fun s => zit (fun (s : (Sg × Int32)) => M_readsTurns_l57 s.1 (nI (8 * T)) s.2) f s) (fun r => some r)).bind tE).bind fun r => M_endsWell r
def tC (q T : Nat) (f : Nat) (s : Sg × Int32) : Option (Bool × Sg) := (zit (fun (s : (Sg × Int32)) => Reader_readTurns_l80 s.1 q (nI T) s.2) f s).bind fun r => r.elim (fun r => some r) (fun r => Reader_readTurns_j120 r.1 q)
theorem tM_it {T f : Nat} {ν : Sg} {x3 : Int32} {ν' : Sg} (h : M_readsTurns_l57 ν (nI (8 * T)) 1 = kont (nI (8 * T)) x3 ν') : tM T (f + 1) (ν, 1) = tK T f x3 ν' := by
  unfold tM tK
  have e : zit (fun (s : (Sg × Int32)) => M_readsTurns_l57 s.1 (nI (8 * T)) s.2) (f + 1) (ν, 1) = ((kont (nI (8 * T)) x3 ν').bind fun o => o.elim (fun s => zit (fun (s : (Sg × Int32)) => M_readsTurns_l57 s.1 (nI (8 * T)) s.2) f s) (fun r => some r)) := by
    rw [← h, zit_s]
  rw [e]
theorem tM_stop {T f : Nat} {ν ν' : Sg} (h : M_readsTurns_l57 ν (nI (8 * T)) 1 = some (.inr (.inl ν'))) (hf : Mf ν') : tM T (f + 1) (ν, 1) = some ν' := by
  unfold tM
  have e : zit (fun (s : (Sg × Int32)) => M_readsTurns_l57 s.1 (nI (8 * T)) s.2) (f + 1) (ν, 1) = some (.inl ν') := zit_r h
  rw [e, obs]
  show (some ν').bind _ = _
  rw [obs, hf.ends]
theorem turn_fin {τ0 ν0 τ ν : Sg} {B : Nat → Nat} {L a0 a q P O T C m : Nat} (hq : q = 3 ∨ q = 29) (hT : T < 2) (hm : 1 ≤ m) (hm6 : m ≤ 6) (h : Lx τ ν B L a) (ts : TS q T m τ0 ν0 τ ν) (no : ¬ SgOk B L a 44) (hD : DR τ0 ν0 q P O T C) (ha : a0 ≤ a) :
    SR q B L a0 τ0 ν0 (Reader_readTurns_j120 τ q) ((tE (.inr (zup ν 171 33 (nI (sk B L a)), 0))).bind fun r => M_endsWell r) := by
  obtain ⟨b, τ2, b1, b2, b3, b4⟩ := c_stSign (c := 44) h.1 (by omega)
  obtain ⟨s1, s2⟩ := sk_le (B := B) h.1.1.1
  have b1' : Reader_standsSign τ 44 = some (b, τ2) := b1
  have bfl : b = false := by
    cases b
    · rfl
    · exact absurd (b4.mp rfl) no
  subst bfl
  have h2 := h.2.to s2
  have ts2 := ts.cf b2 (MF.up (ν := ν) (k := 33) (v := nI (sk B L a)) (by omega)) hq
  obtain ⟨⟨hp, ho, ⟨ht1, ht2, _⟩, hc⟩, hv, hr⟩ := hD
  have n10 : zup ν 171 33 (nI (sk B L a)) 171 10 = nI T := by rw [ts2.2.2.2.2.1 10 (by omega)]; exact ht2
  have me : (tE (.inr (zup ν 171 33 (nI (sk B L a)), 0))).bind (fun r => M_endsWell r) = M_endsWell (zup (zup ν 171 33 (nI (sk B L a))) 171 10 (nI (T + 1))) := by
    show (zgt (zup ν 171 33 (nI (sk B L a))) 171 10 fun v259 => zpt (zup ν 171 33 (nI (sk B L a))) 171 10 (v259 + 1) fun σ264 => some σ264).bind _ = _
    rw [zgt_e, n10, zpt_e, obs, show nI T + 1 = nI (T + 1) from nI_add _ 1]
  have ce : Reader_readTurns_j120 τ q = (Reader_readSign τ2 59).bind fun r => if (zb r.1) = 0 then some (false, r.2) else (zgt r.2 (q + 20) 0 fun v147 => zpt r.2 (q + 20) 0 (v147 + 1) fun σ152 => some (true, σ152)) := by
    unfold Reader_readTurns_j120
    rw [b1', obs]
    dsimp only
    rw [if_pos (show zb false = 0 from rfl)]
  rw [me, ce]
  have hL2 : Lx τ2 (zup (zup ν 171 33 (nI (sk B L a))) 171 10 (nI (T + 1))) B L (sk B L a) := by
    have := Lx.up (τ := τ2) (ν := zup ν 171 33 (nI (sk B L a))) (b := 3) (i := 0) (v := τ2 3 0) (c := 171) (j := 10) (w := nI (T + 1)) ⟨b3, h2⟩ (by omega) (by omega)
    rw [zup_same rfl] at this
    exact this
  have cwm := ts2.cw hT
  refine stm_end (a := a0) (a1 := sk B L a) hq cwm.1 (cwm.2.trans (MW.up1 (by omega))) hL2 (by omega) (fun τ => zgt τ (q + 20) 0 fun v147 => zpt τ (q + 20) 0 (v147 + 1) fun σ152 => some (true, σ152)) (fun τx νx cx mx => ?_)
  obtain ⟨g1, g2, g3, g4, g5, g6, ⟨e, e1, e2, e3, e4⟩, g8, g9, g10⟩ := ts2
  have rowE : ∀ b, b ≠ 2 → b ≠ q + 21 → b ≠ q + 22 → b ≠ q + 24 + T → τx b = τ0 b := fun b x y z w => by rw [cx.1 b x]; exact g1 b x y z w
  have nE : ∀ b, b ≠ 171 → b ≠ 179 → νx b = ν0 b := fun b x y => by rw [mx.1 b x, zup_ne x]; exact g4 b x y
  have n1E : ∀ k, k < 33 → k ≠ 10 → νx 171 k = ν0 171 k := fun k x y => by rw [mx.2 k (by omega), zup_miss y]; exact g5 k (by omega)
  have n179 : ∀ i, νx 179 i = zup ν 171 33 (nI (sk B L a)) 179 i := fun i => by rw [mx.1 179 (by omega), zup_ne (by omega)]
  have c20 : τx (q + 20) 0 = nI T := by rw [rowE _ (by omega) (by omega) (by omega) (by omega)]; exact ht1
  refine ⟨zup τx (q + 20) 0 (nI (T + 1)), ?_, CW.up hq (by omega) (by omega), fun j => by rw [zup_ne (by omega)], P, O, T + 1, C, ?_⟩
  · rw [zgt_e, c20, zpt_e, show nI T + 1 = nI (T + 1) from nI_add _ 1]
  · have zr : ∀ b, b ≠ q + 20 → zup τx (q + 20) 0 (nI (T + 1)) b = τx b := fun b w => zup_ne w
    have keep : DRr (zup τx (q + 20) 0 (nI (T + 1))) νx q P O T C := by
      refine DRr.keep (τ := τ0) (ν := ν0) hr ⟨fun p hp => ⟨?_, fun j hj => ?_⟩, fun o ho => ⟨?_, ?_, ?_⟩, fun k hk => ⟨?_, ?_, ?_⟩, fun t ht => ⟨?_, ?_, fun i _ => ?_⟩, fun i _ => by rw [nE _ (by omega) (by omega)], fun i hi => by rw [nE _ (by omega) (by omega)], fun i hi => by rw [n179]; exact g6 i hi, fun i hi => by rw [nE _ (by omega) (by omega)], fun i _ => by rw [nE _ (by omega) (by omega)], fun i hi => by rw [nE _ (by omega) (by omega)]⟩
      · rw [zr _ (by omega), rowE _ (by omega) (by omega) (by omega) (by omega)]
      · rw [zr _ (by omega), rowE _ (by omega) (by omega) (by omega) (by omega)]
      · rw [zr _ (by omega), rowE _ (by omega) (by omega) (by omega) (by omega)]
      · rw [zr _ (by omega), rowE _ (by omega) (by omega) (by omega) (by omega)]
      · rw [zr _ (by omega), rowE _ (by omega) (by omega) (by omega) (by omega)]
      · rw [zr _ (by omega), rowE _ (by omega) (by omega) (by omega) (by omega)]
      · rw [zr _ (by omega), rowE _ (by omega) (by omega) (by omega) (by omega)]
      · rw [zr _ (by omega), rowE _ (by omega) (by omega) (by omega) (by omega)]
      · rw [zr _ (by omega), cx.1 _ (by omega)]; exact (g2 t (by omega)).1
      · rw [zr _ (by omega), cx.1 _ (by omega)]; exact (g2 t (by omega)).2
      · rw [zr _ (by omega), rowE _ (by omega) (by omega) (by omega) (by omega)]
    obtain ⟨k1, k2, k3, k4, k5, k6⟩ := keep
    refine ⟨⟨?_, ?_, ⟨zup_hit, by rw [mx.2 10 (by omega), zup_hit], by omega⟩, ?_⟩, ?_, k1, k2, k3, fun t ht => ?_, k5, k6⟩
    · rw [zr _ (by omega), rowE _ (by omega) (by omega) (by omega) (by omega), n1E 8 (by omega) (by omega)]; exact hp
    · rw [zr _ (by omega), rowE _ (by omega) (by omega) (by omega) (by omega), n1E 9 (by omega) (by omega)]; exact ho
    · rw [zr _ (by omega), rowE _ (by omega) (by omega) (by omega) (by omega), n1E 11 (by omega) (by omega)]; exact hc
    · rw [zr _ (by omega), rowE _ (by omega) (by omega) (by omega) (by omega), n1E 12 (by omega) (by omega), n1E 13 (by omega) (by omega)]; exact hv
    · by_cases et : t = T
      · subst et
        refine ⟨e, m, e1, e2, hm, hm6, by rw [n179]; exact e4, by rw [n179]; exact g9, by rw [zr _ (by omega), cx.1 _ (by omega)]; exact e3, by rw [zr _ (by omega), cx.1 _ (by omega)]; exact g8, fun i hi => ?_⟩
        rw [zr _ (by omega), cx.1 _ (by omega), n179]
        exact g10 i hi
      · exact k4 t (by omega)
/-- what comes behind the second name -/
theorem turn_run {τ0 ν0 : Sg} {B : Nat → Nat} {L a0 q P O T C : Nat} (hq : q = 3 ∨ q = 29) (hT : T < 2) (h5 : τ0 2 5 = nI (q + 1)) (hD : DR τ0 ν0 q P O T C) : ∀ n, n ≤ 4 → ∀ (f g : Nat) (τ ν : Sg) (a : Nat), n < f → n < g → a0 ≤ a → Lx τ ν B L a → TS q T (6 - n) τ0 ν0 τ ν →
    SR q B L a0 τ0 ν0 (tC q T f (τ, nI (6 - n))) (tK T g (nI (5 - n)) ν)
  | n, hn, f, g, τ, ν, a, hf, hg, ha, h, ts => by
    obtain ⟨f', rfl⟩ : ∃ f', f = f' + 1 := ⟨f - 1, by omega⟩
    obtain ⟨g', rfl⟩ : ∃ g', g = g' + 1 := ⟨g - 1, by omega⟩
    obtain ⟨s1, s2⟩ := sk_le (B := B) h.1.1.1
    have h2 := h.2.to s2
    obtain ⟨b, τ2, b1, b2, b3, b4⟩ := c_stSign (c := 44) h.1 (by omega)
    have b1' : Reader_standsSign τ 44 = some (b, τ2) := b1
    by_cases q4 : SgOk B L a 44
    · have bt' : b = true := b4.mpr q4
      subst bt'
      have q4' : SgOk B L (sk B L a) 44 := by
        unfold SgOk
        rw [sk_id h.1.1.1]
        exact q4
      have hx : sk B L a < L := q4.1
      have mk : tK T (g' + 1) (nI (5 - n)) ν = tM T (g' + 1) (zup ν 171 33 (nI (sk B L a + 1)), 1) := by
        unfold tK tM
        rw [k_yes h.2 q4, obs, sel_l]
      rw [mk]
      have hM1 := h.2.to (a' := sk B L a + 1) (by omega)
      have n179 : zup ν 171 33 (nI (sk B L a + 1)) 179 (8 * T + 1) = nI (6 - n) := by rw [zup_ne (by omega)]; exact ts.2.2.2.2.2.2.2.2.1
      rcases Nat.eq_zero_or_pos n with n0 | n0
      · subst n0
        obtain ⟨νf, i1, i2, i3⟩ := it_6 hM1 hT n179
        have mff : Mf νf := by
          rcases i3 with ⟨_, i4, _⟩ | ⟨_, i4, _⟩
          · exact ⟨5, by omega, by omega, i4⟩
          · exact ⟨1, by omega, by omega, i4⟩
        have ce : tC q T (f' + 1) (τ, nI 6) = Reader_readTurns_j120 τ q := by
          unfold tC
          have e : zit (fun (s : (Sg × Int32)) => Reader_readTurns_l80 s.1 q (nI T) s.2) (f' + 1) (τ, nI 6) = some (.inr (τ, nI 6)) := by
            refine zit_r ?_
            show Reader_readTurns_l80 τ q (nI T) (nI 6) = _
            unfold Reader_readTurns_l80
            exact if_pos (by decide)
          rw [e, obs]
          rfl
        have ce' : tC q T (f' + 1) (τ, nI (6 - 0)) = Reader_readTurns_j120 τ q := ce
        rw [ce', tM_stop i1 mff]
        unfold Reader_readTurns_j120
        rw [b1', obs]
        dsimp only
        rw [if_neg (show ¬ zb true = 0 by decide)]
        obtain ⟨⟨_, hL2⟩, hb, d0, d1, d2, d3, d6⟩ := b3
        obtain ⟨τ3, u1, u2', u3, u4⟩ := c_skipP (τ := zup τ2 2 2 (nI (sk B L a + 1))) (B := B) (L := L) (a := sk B L a + 1) (by omega) hL2 (fun i hi => by rw [zup_ne (by omega)]; exact hb i hi) (by rw [zup_miss (by omega)]; exact d0) (by rw [zup_miss (by omega)]; exact d1) zup_hit
        have u2 : CF τ2 τ3 := (CF.up (by omega)).trans u2'
        unfold Reader_failBehindLastTurn
        rw [zgt_e, d2, show nI (sk B L a) + 1 = nI (sk B L a + 1) from nI_add _ 1, zpt_e, u1, obs, zgt_e, zgt_e, u3, u4]
        obtain ⟨w1, w2⟩ := sk_le (B := B) (L := L) (a := sk B L a + 1) (by omega)
        have cwm := (ts.cw hT)
        have hcw : CW q τ0 τ3 := (cwm.1.trans b2.w).trans u2.w
        have hmw : MW ν0 νf := (cwm.2.trans (MW.up1 (by omega))).trans i2.w
        rcases i3 with ⟨j1, j2, j3⟩ | ⟨j1, j2, j3⟩
        · rw [if_neg (nI_ge j1 (by omega)), zgt_e, u3, c_fail, obs, obs]
          dsimp only
          exact SR.bad rfl rfl (hcw.trans (c_failF _ _).w) hmw ⟨5, _, by omega, by rw [zup_miss (by omega), zup_hit]; rfl, zup_hit, j2, j3⟩
        · rw [if_pos (nI_le (by omega) (by omega)), zgt_e, u4, c_fail, obs, obs]
          dsimp only
          exact SR.bad rfl rfl (hcw.trans (c_failF _ _).w) hmw ⟨1, L, by omega, by rw [zup_miss (by omega), zup_hit]; rfl, zup_hit, j2, j3⟩
      · obtain ⟨b', τ3, c1, c2, c3⟩ := c_sign (c := 44) b3 (Or.inr rfl)
        have c1' : Reader_readSign τ2 44 = some (b', τ3) := c1
        rcases c3 with ⟨rfl, _, c4, _⟩ | ⟨_, c4, _⟩
        · rw [sk_id h.1.1.1] at c4
          have hL3 : Lx τ3 (zup ν 171 33 (nI (sk B L a + 1))) B L (sk B L a + 1) := ⟨c4, hM1⟩
          have ts3 := ts.cf (b2.trans c2) (MF.up (ν := ν) (k := 33) (v := nI (sk B L a + 1)) (by omega)) hq
          have ho := hD.1.2.1
          have hr := hD.2.2
          obtain ⟨ok, τ4, ν4, e1, e2⟩ := turn_name (O := O) hq hT (m := 6 - n) (by omega) hL3 h5 ts3 ho.1 ho.2.1 ho.2.2 hr.2.2.2.2.2
          have itl := it_lt6 hM1 hT (m := 6 - n) (by omega) n179
          have step : Reader_readTurns_l80 τ q (nI T) (nI (6 - n)) = if (zb ok) = 0 then some (.inr (.inl (false, τ4))) else some (.inl (τ4, nI (6 - n + 1))) := by
            unfold Reader_readTurns_l80
            rw [if_neg (show ¬ (6 : Int32) ≤ nI (6 - n) from (nI_ge (by omega) (by omega) : ¬ nI 6 ≤ nI (6 - n))), b1', obs]
            dsimp only
            rw [if_neg (show ¬ zb true = 0 by decide), c1', obs]
            dsimp only
            rw [if_neg (show ¬ zb true = 0 by decide), e1, obs, zlt_e, show nI (6 - n) + 1 = nI (6 - n + 1) from nI_add _ 1]
          rcases e2 with ⟨rfl, e3, e4, a', e5, e6⟩ | ⟨rfl, e3, e4, e5, e6⟩
          · have ms : 6 - n + 1 = 6 - (n - 1) := by omega
            rw [if_neg (show ¬ zb true = 0 by decide), ms] at step
            rw [ms] at e4
            have cs : tC q T (f' + 1) (τ, nI (6 - n)) = tC q T f' (τ4, nI (6 - (n - 1))) := by
              unfold tC
              have step' : (fun (s : (Sg × Int32)) => Reader_readTurns_l80 s.1 q (nI T) s.2) (τ, nI (6 - n)) = some (.inl (τ4, nI (6 - (n - 1)))) := step
              rw [zit_l step']
            have ms2 : 6 - n = 5 - (n - 1) := by omega
            have itl2 := itl.trans e3
            rw [cs, tM_it itl2, ms2]
            exact turn_run hq hT h5 hD (n - 1) (by omega) f' g' τ4 ν4 a' (by omega) (by omega) (by omega) e6 e4
          · rw [if_pos (show zb false = 0 from rfl)] at step
            have cs : tC q T (f' + 1) (τ, nI (6 - n)) = some (false, τ4) := by
              unfold tC
              have step' : (fun (s : (Sg × Int32)) => Reader_readTurns_l80 s.1 q (nI T) s.2) (τ, nI (6 - n)) = some (.inr (.inl (false, τ4))) := step
              rw [zit_r step', obs]
              rfl
            rw [cs, tM_stop (itl.trans e3) e4.mf]
            exact SR.bad rfl rfl e5 e6 e4
        · exact absurd q4' c4
    · have bf' : b = false := by
        cases b
        · rfl
        · exact absurd (b4.mp rfl) q4
      subst bf'
      have mk : tK T (g' + 1) (nI (5 - n)) ν = (tE (.inr (zup ν 171 33 (nI (sk B L a)), 0))).bind fun r => M_endsWell r := by
        unfold tK
        rw [k_no h.2 q4 _ (by omega) (by omega), obs]
        have e : zit (fun (s : (Sg × Int32)) => M_readsTurns_l57 s.1 (nI (8 * T)) s.2) (g' + 1) (zup ν 171 33 (nI (sk B L a)), 0) = some (.inr (zup ν 171 33 (nI (sk B L a)), 0)) := by
          refine zit_r ?_
          show M_readsTurns_l57 _ (nI (8 * T)) 0 = _
          unfold M_readsTurns_l57
          exact if_pos rfl
        rw [sel_l, e, obs]
      rw [mk]
      rcases Nat.eq_zero_or_pos n with n0 | n0
      · subst n0
        have ce : tC q T (f' + 1) (τ, nI 6) = Reader_readTurns_j120 τ q := by
          unfold tC
          have e : zit (fun (s : (Sg × Int32)) => Reader_readTurns_l80 s.1 q (nI T) s.2) (f' + 1) (τ, nI 6) = some (.inr (τ, nI 6)) := by
            refine zit_r ?_
            show Reader_readTurns_l80 τ q (nI T) (nI 6) = _
            unfold Reader_readTurns_l80
            exact if_pos (by decide)
          rw [e, obs]
          rfl
        have ce' : tC q T (f' + 1) (τ, nI (6 - 0)) = Reader_readTurns_j120 τ q := ce
        rw [ce']
        exact turn_fin hq hT (by omega) (by omega) h ts q4 hD ha
      · have ce : tC q T (f' + 1) (τ, nI (6 - n)) = Reader_readTurns_j120 τ2 q := by
          unfold tC
          have e : zit (fun (s : (Sg × Int32)) => Reader_readTurns_l80 s.1 q (nI T) s.2) (f' + 1) (τ, nI (6 - n)) = some (.inr (τ2, nI (6 - n))) := by
            refine zit_r ?_
            show Reader_readTurns_l80 τ q (nI T) (nI (6 - n)) = _
            unfold Reader_readTurns_l80
            rw [if_neg (show ¬ (6 : Int32) ≤ nI (6 - n) from (nI_ge (by omega) (by omega) : ¬ nI 6 ≤ nI (6 - n))), b1', obs]
            exact if_pos rfl
          rw [e, obs]
          rfl
        rw [ce]
        have ts2 := ts.cf b2 (MF.up (ν := ν) (k := 33) (v := nI (sk B L a)) (by omega)) hq
        have q4' : ¬ SgOk B L (sk B L a) 44 := by
          unfold SgOk
          rw [sk_id h.1.1.1]
          exact q4
        have := turn_fin hq hT (by omega) (by omega) ⟨b3, h2⟩ ts2 q4' hD (Nat.le_trans ha s1)
        rw [sk_id h.1.1.1, zup_zup] at this
        exact this
def tN (v32 : Int32) (r42 : Int32 × Sg) : Option Sg := zwr r42.2 179 16 v32 r42.1 fun σ45 => zwr σ45 179 16 (v32 + 1) 0 fun σ54 => zlt 1 fun v56 => (zit (fun (s : (Sg × Int32)) => M_readsTurns_l57 s.1 v32 s.2) zFU (σ54, v56)).bind tE
theorem readsTurns_e (σ : Sg) : M_readsTurns_j17 σ = (M_goesWell σ).bind fun r18 => if (zb r18) = 0 then some σ else zgt σ 171 10 fun v28 => zlt (8 * v28) fun v32 => (M_number σ 1 30).bind fun r42 => tN v32 r42 := rfl
theorem stm_turns {τ ν : Sg} {q : Nat} {B : Nat → Nat} {L a P O T C : Nat} (hq : q = 3 ∨ q = 29) (h : Sta τ ν q B L a 19) (hD : DR τ ν q P O T C) (hT : T < 2) :
    SR q B L a τ ν (Reader_readTurns τ) ((M_readsTurns_j17 ν).bind fun r => M_endsWell r) := by
  have hD0 := hD
  obtain ⟨⟨hp, ho, ⟨ht1, ht2, _⟩, hc⟩, hv, hr⟩ := hD0
  have hwe := h.we
  have t5 := h.2.2.2.2.2.2.1
  have h' : Sta (zup τ (q + 22) T 0) ν q B L a 19 := by
    obtain ⟨⟨x1, x2, x3, x4, x5, x6, x7⟩, h2, h3, h4, h5, h6, h7, h8⟩ := h
    exact ⟨⟨x1, fun k hk => by rw [zup_ne (by omega)]; exact x2 k hk, by rw [zup_ne (by omega)]; exact x3, by rw [zup_ne (by omega)]; exact x4, by rw [zup_ne (by omega)]; exact x5, by rw [zup_ne (by omega)]; exact x6, by rw [zup_ne (by omega)]; exact x7⟩, h2, h3, h4, h5, h6, by rw [zup_ne (by omega)]; exact h7, h8⟩
  obtain ⟨τ1, a1, a2, a3⟩ := h'.word
  have a1' : Reader_readWord (zup τ (q + 22) T 0) 20 = some (true, τ1) := a1
  obtain ⟨r, τ2, r', ν2, b1, b2, b3, b4, b5⟩ := b_num (lo := 1) (hi := 30) a3 (by omega) (by omega)
  have b1' : Reader_readNumber τ1 1 30 = some (r, τ2) := b1
  have b2' : M_number ν 1 30 = some (r', ν2) := b2
  have cw2 : CW q τ (zup τ2 (q + 21) T r) := (((CW.up hq (by omega) (by omega)).trans a2.w).trans b3.w).trans (CW.up hq (by omega) (by omega))
  have head : Reader_readTurns τ = if zup τ2 (q + 21) T r 2 6 = 0 then ((Reader_readTurnName (zup τ2 (q + 21) T r) (nI T)).bind fun r53 => if (zb r53.1) = 0 then some (false, r53.2) else ((Reader_readSign r53.2 44).bind fun r62 => if (zb r62.1) = 0 then some (false, r62.2) else ((Reader_readTurnName r62.2 (nI T)).bind fun r70 => if (zb r70.1) = 0 then some (false, r70.2) else tC q T zFU (r70.2, 2)))) else some (false, zup τ2 (q + 21) T r) := by
    unfold Reader_readTurns
    rw [t5, zmr2_e rfl hq, zgt_e, ht1, zwr_e (by omega) (by omega), a1', obs]
    dsimp only
    rw [if_neg (show ¬ zb true = 0 by decide), b1', obs]
    dsimp only
    rw [zwr_e (by omega) (by omega), zgt_e]
    rfl
  have n210 : ν 171 10 = nI T := ht2
  generalize hν3 : zup (zup ν2 179 (8 * T) r') 179 (8 * T + 1) 0 = ν3
  have mh : (M_readsTurns_j17 ν).bind (fun r => M_endsWell r) = tM T zFU (ν3, 1) := by
    rw [readsTurns_e, m_well a3.2, bt, zgt_e, n210, zlt_e, show (8 : Int32) = nI 8 from rfl, nI_mul, b2', obs]
    unfold tN
    dsimp only
    rw [zwr_e (by omega) (by omega), show nI (8 * T) + 1 = nI (8 * T + 1) from nI_add _ 1, zwr_e (by omega) (by omega), hν3, zlt_e]
    rfl
  have mw3 : MW ν ν3 := by rw [← hν3]; exact (b4.w.trans (MW.up (by omega) (by omega))).trans (MW.up (by omega) (by omega))
  rw [head, mh]
  generalize hτ3 : zup τ2 (q + 21) T r = τ3 at *
  rcases b5 with ⟨e, v1, v2, rfl, rfl, a2', e1, hL⟩ | hF
  · have hL3 : Lx τ3 ν3 B L a2' := by
      have y1 := hL.up (b := q + 21) (i := T) (v := nI e) (c := 179) (j := 8 * T) (w := nI e) (by omega) (by omega)
      have y2 := y1.up (b := q + 21) (i := T) (v := nI e) (c := 179) (j := 8 * T + 1) (w := 0) (by omega) (by omega)
      rw [zup_zup, hτ3, hν3] at y2
      exact y2
    have ts0 : TS q T 0 τ ν τ3 ν3 := by
      refine ⟨fun b x y z w => by rw [← hτ3, zup_ne y, b3.1 b x, a2.1 b x, zup_ne z], fun t ht => ?_, fun k hk => by rw [← hτ3, zup_ne (by omega), b3.2 k hk, a2.2 k hk, zup_ne (by omega)], fun b x y => by rw [← hν3, zup_ne y, zup_ne y, b4.1 b x], fun k hk => by rw [← hν3, zup_ne (by omega), zup_ne (by omega), b4.2 k hk], fun i hi => by rw [← hν3, zup_miss (by omega), zup_miss (by omega), b4.1 179 (by omega)], ⟨e, v1, v2, by rw [← hτ3, zup_hit], by rw [← hν3, zup_miss (by omega), zup_hit]⟩, ?_, by rw [← hν3, zup_hit]; rfl, fun i hi => by omega⟩
      · rw [← hτ3, zup_miss ht, b3.1 _ (by omega), a2.1 _ (by omega), zup_ne (by omega), zup_ne (by omega), b3.1 _ (by omega), a2.1 _ (by omega), zup_miss ht]
        exact ⟨rfl, rfl⟩
      · rw [← hτ3, zup_ne (by omega), b3.1 _ (by omega), a2.1 _ (by omega), zup_hit]; rfl
    have n9 := ho.2.1
    rw [if_pos hL3.1.c60]
    have fu : ∃ g, zFU = g + 2 := ⟨39998, zFU_e⟩
    obtain ⟨g, hg⟩ := fu
    have hg9 : 10 < g := by rw [zFU_e] at hg; omega
    obtain ⟨ok, τ4, ν4, c1, c2⟩ := turn_name (O := O) hq hT (m := 0) (by omega) hL3 t5 ts0 ho.1 ho.2.1 ho.2.2 hr.2.2.2.2.2
    have it0 := it_lt6 hL3.2 hT (m := 0) (by omega) ts0.2.2.2.2.2.2.2.2.1
    rw [c1, obs, show zFU = (g + 1) + 1 from hg]
    dsimp only
    rcases c2 with ⟨rfl, c3, c4, a4, c5, c6⟩ | ⟨rfl, c3, c4, c5, c6⟩
    · rw [if_neg (show ¬ zb true = 0 by decide), tM_it (it0.trans c3)]
      obtain ⟨b', τ5, d1, d2, d3⟩ := c_sign (c := 44) c6.1 (Or.inr rfl)
      have d1' : Reader_readSign τ4 44 = some (b', τ5) := d1
      obtain ⟨s1, s2⟩ := sk_le (B := B) c6.1.1.1
      rw [d1', obs]
      dsimp only
      rcases d3 with ⟨rfl, d4, d5, _⟩ | ⟨rfl, d4, d5, d6⟩
      · have hlt : sk B L a4 < L := d4.1
        have hM5 := c6.2.to (a' := sk B L a4 + 1) (by omega)
        have hL5 : Lx τ5 (zup ν4 171 33 (nI (sk B L a4 + 1))) B L (sk B L a4 + 1) := ⟨d5, hM5⟩
        have ts5 := c4.cf d2 (MF.up (ν := ν4) (k := 33) (v := nI (sk B L a4 + 1)) (by omega)) hq
        have mk : tK T (g + 1) (nI 0) ν4 = tM T (g + 1) (zup ν4 171 33 (nI (sk B L a4 + 1)), 1) := by
          unfold tK tM
          rw [k_yes c6.2 d4, obs, sel_l]
        rw [if_neg (show ¬ zb true = 0 by decide), mk]
        obtain ⟨ok', τ6, ν6, i1, i2⟩ := turn_name (O := O) hq hT (m := 1) (by omega) hL5 t5 ts5 ho.1 ho.2.1 ho.2.2 hr.2.2.2.2.2
        have it1 := it_lt6 hM5 hT (m := 1) (by omega) ts5.2.2.2.2.2.2.2.2.1
        rw [i1, obs]
        dsimp only
        rcases i2 with ⟨rfl, i3, i4, a6, i5, i6⟩ | ⟨rfl, i3, i4, i5, i6⟩
        · rw [if_neg (show ¬ zb true = 0 by decide), tM_it (it1.trans i3)]
          exact turn_run (a0 := a) hq hT t5 hD 4 (by omega) (g + 1 + 1) g τ6 ν6 a6 (by omega) (by omega) (by omega) i6 i4
        · rw [if_pos (show zb false = 0 from rfl), tM_stop (it1.trans i3) i4.mf]
          exact SR.bad rfl rfl i5 i6 i4
      · rw [if_pos (show zb false = 0 from rfl)]
        have hF : Fx τ5 (zup (zup (zup ν4 171 33 (nI (sk B L a4))) 171 35 1) 171 36 (nI (sk B L a4))) := ⟨1, sk B L a4, by omega, d5, d6, f35, f36⟩
        have mk : tK T (g + 1) (nI 0) ν4 = some (zup (zup (zup ν4 171 33 (nI (sk B L a4))) 171 35 1) 171 36 (nI (sk B L a4))) ∨ tK T (g + 1) (nI 0) ν4 = some (zup (zup (zup (zup ν4 171 33 (nI (sk B L a4))) 171 35 1) 171 36 (nI (sk B L a4))) 171 10 (nI (T + 1))) := by
          right
          unfold tK
          have e : zit (fun (s : (Sg × Int32)) => M_readsTurns_l57 s.1 (nI (8 * T)) s.2) (g + 1) (zup (zup (zup ν4 171 33 (nI (sk B L a4))) 171 35 1) 171 36 (nI (sk B L a4)), 1) = some (.inr (zup (zup (zup ν4 171 33 (nI (sk B L a4))) 171 35 1) 171 36 (nI (sk B L a4)), 1)) := by
            refine zit_r ?_
            show M_readsTurns_l57 _ (nI (8 * T)) 1 = _
            unfold M_readsTurns_l57
            rw [if_neg (by decide), hF.mf.well, bf]
          have n10 : zup (zup (zup ν4 171 33 (nI (sk B L a4))) 171 35 1) 171 36 (nI (sk B L a4)) 171 10 = nI T := by
            rw [zup_miss (by omega), zup_miss (by omega), zup_miss (by omega), c4.2.2.2.2.1 10 (by omega)]; exact n210
          have hmf2 : Mf (zup (zup (zup (zup ν4 171 33 (nI (sk B L a4))) 171 35 1) 171 36 (nI (sk B L a4))) 171 10 (nI (T + 1))) := ⟨1, by omega, by omega, by rw [zup_miss (by omega)]; exact f35⟩
          rw [k_no0 c6.2 d4, obs, sel_l, e, obs]
          show (zgt _ 171 10 fun v259 => zpt _ 171 10 (v259 + 1) fun σ264 => some σ264).bind _ = _
          rw [zgt_e]
          dsimp only
          rw [n10, zpt_e, obs, show nI T + 1 = nI (T + 1) from nI_add _ 1, hmf2.ends]
        rcases mk with mk | mk
        · rw [mk]
          exact SR.bad rfl rfl ((c4.cw hT).1.trans d2.w) ((c4.cw hT).2.trans ((MW.up1 (by omega)).trans (m_faultF _ _).w)) hF
        · rw [mk]
          exact SR.bad rfl rfl ((c4.cw hT).1.trans d2.w) (((c4.cw hT).2.trans ((MW.up1 (by omega)).trans (m_faultF _ _).w)).trans (MW.up1 (by omega))) (hF.keep ⟨rfl, rfl⟩ ⟨zup_miss (by omega), zup_miss (by omega)⟩)
    · rw [if_pos (show zb false = 0 from rfl), tM_stop (it0.trans c3) c4.mf]
      exact SR.bad rfl rfl c5 c6 c4
  · have hF3 : Fx τ3 ν3 := by
      refine hF.keep ⟨by rw [← hτ3, zup_ne (by omega)], by rw [← hτ3, zup_ne (by omega)]⟩ ⟨by rw [← hν3, zup_ne (by omega), zup_ne (by omega)], by rw [← hν3, zup_ne (by omega), zup_ne (by omega)]⟩
    have n10 : ν3 171 10 = nI T := by rw [← hν3, zup_ne (by omega), zup_ne (by omega), b4.2 10 (by omega)]; exact n210
    rw [if_neg hF3.c6]
    have hmf2 : Mf (zup ν3 171 10 (nI (T + 1))) := by
      obtain ⟨k, k1, k2, k3⟩ := hF3.mf
      exact ⟨k, k1, k2, by rw [zup_miss (by omega)]; exact k3⟩
    have mk : tM T zFU (ν3, 1) = some (zup ν3 171 10 (nI (T + 1))) := by
      unfold tM
      have e : zit (fun (s : (Sg × Int32)) => M_readsTurns_l57 s.1 (nI (8 * T)) s.2) zFU (ν3, 1) = some (.inr (ν3, 1)) := by
        rw [zFU_e]
        refine zit_r ?_
        show M_readsTurns_l57 _ (nI (8 * T)) 1 = _
        unfold M_readsTurns_l57
        rw [if_neg (by decide), hF3.mf.well, bf]
      rw [e, obs]
      show (zgt _ 171 10 fun v259 => zpt _ 171 10 (v259 + 1) fun σ264 => some σ264).bind _ = _
      rw [zgt_e]
      dsimp only
      rw [n10, zpt_e, obs, show nI T + 1 = nI (T + 1) from nI_add _ 1, hmf2.ends]
    rw [mk]
    exact SR.bad rfl rfl cw2 (mw3.trans (MW.up1 (by omega))) (hF3.keep ⟨rfl, rfl⟩ ⟨zup_miss (by omega), zup_miss (by omega)⟩)
