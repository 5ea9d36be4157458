/-! a step with rain, on both sides -/
theorem MEq.e_nd {μ μ' : Sg} (h : MEq μ μ') (g : Nat) : ∀ j : Nat, nd μ' g j = nd μ g j
  | 0 => rfl
  | j + 1 => by rw [nd_succ, nd_succ, MEq.e_nd h g j, h.e_tl]
theorem MEq.e_opn {μ μ' : Sg} (h : MEq μ μ') (o t : Nat) : opn μ' o t = opn μ o t := by
  unfold opn
  rw [h.e_nC, h.e_nT]
  congr 1
  · refine anyB_congr (fun j hj => ?_)
    unfold opO
    rw [h.e_oo, h.e_ofr, h.e_oma]
  · refine anyB_congr (fun j hj => ?_)
    unfold opT
    rw [h.e_ev, h.e_sz, h.2.1.2.2]
theorem MEq.e_RepSc {σ μ ν : Sg} {b l : Nat} (s : MEq μ ν) (h : RepSc σ μ b l) : RepSc σ ν b l := by
  obtain ⟨h1, h2, h3⟩ := h
  have hl : ∀ g t, ldD ν g t = ldD μ g t := by
    intro g t
    unfold ldD
    rw [s.e_nO]
    refine sm_congr (fun i hi => ?_)
    rw [s.e_opl, s.e_nd, s.e_opn, s.2.1.2.1]
  refine ⟨?_, ?_, ?_⟩
  · rw [s.e_nd, s.e_nP]; exact h1
  · intro o ho i hi
    rw [s.e_nO] at ho
    rw [s.e_nd, s.e_nP] at hi
    rw [s.e_opn]
    exact h2 o ho i hi
  · intro g hg i hi
    rw [s.e_nP] at hg
    rw [hl]
    exact h3 g hg i hi
theorem MEq.e_StS {τ μ μ' : Sg} {p1 b l : Nat} (s : MEq μ μ') (h : StS τ p1 μ b l) (hq : μ' 171 26 = nI 0) : StS τ p1 μ' b l := by
  obtain ⟨hp1, e3, hR, hS, hV, hL, hW, hWs, _⟩ := h
  exact ⟨hp1, e3, s.e_RepK hR, s.e_RepSc hS, s.e_RepW hV, s.e_RepLg hL, s.e_InvW hW, s.e_InvWs hWs, hq⟩
theorem RepN.fr {σ τ μ : Sg} {w lo hi : Nat} (f : Fr lo hi σ τ) (h : RepN σ w μ) (hd : w + 15 < lo ∨ hi < w) : RepN τ w μ := by
  intro q hq
  have := h q hq
  rw [f (w + 10) (by omega), f (w + 11) (by omega), f (w + 12) (by omega), f (w + 15) (by omega)]
  exact this
theorem zup_comm {σ : Sg} {a b i j : Nat} {x y : Int32} (h : a ≠ b) : zup (zup σ a i x) b j y = zup (zup σ b j y) a i x := by
  funext c k
  rw [zup_at, zup_at, zup_at, zup_at]
  by_cases c1 : c = a
  · simp only [if_neg (show ¬(c = b ∧ k = j) from fun e => h (c1.symm.trans e.1))]
  · simp only [if_neg (show ¬(c = a ∧ k = i) from fun e => c1 e.1)]
theorem zup_zup {σ : Sg} {a i : Nat} {x y : Int32} : zup (zup σ a i x) a i y = zup σ a i y := by
  funext c k
  rw [zup_at, zup_at, zup_at]
  split
  · rfl
  · rfl
theorem begP_sd (p : Nat) (μ : Sg) (v : Int32) : begP p (zup μ 171 24 v) = zup (begP p μ) 171 24 v := by
  unfold begP
  rw [zup_ne (show (183 : Nat) ≠ 171 by omega)]
  rw [zup_comm (a := 171) (b := 189) (by omega), zup_comm (a := 171) (b := 190) (by omega), zup_comm (a := 171) (b := 191) (by omega), zup_comm (a := 171) (b := 192) (by omega), zup_comm (a := 171) (b := 193) (by omega)]
theorem begS_sd (μ : Sg) (v : Int32) : begS (zup μ 171 24 v) = zup (begS μ) 171 24 v := by
  have h : ∀ n, itS begP n (zup μ 171 24 v) = zup (itS begP n μ) 171 24 v := by
    intro n
    induction n with
    | zero => rfl
    | succ n ih => rw [begP_succ, begP_succ, ih, begP_sd]
  exact h 8
/-- the seed after two draws -/
def sdS (μ : Sg) (g : Nat) : Sg := zup μ 171 24 (nI (nxD (nxD g)))
def rnP (μ : Sg) (g : Nat) : Nat := nxD g / 64 % nP μ
def rnR (g : Nat) : Nat := nxD (nxD g) / 64 % 20
def rnB (μ : Sg) (g : Nat) : Sg := rnS (rnP μ g) (nI (rnR g)) (begS (sdS μ g))
def chS (μ : Sg) (g : Nat) : Sg := goS (rnB μ g)
theorem sdS_M (μ : Sg) (g : Nat) : MEq μ (sdS μ g) := ⟨⟨zup_miss (by omega), zup_miss (by omega), zup_miss (by omega)⟩, ⟨zup_ne (by omega), zup_ne (by omega), zup_ne (by omega)⟩, zup_ne (by omega)⟩
theorem rnB_stat {μ : Sg} {g : Nat} (hP8 : nP μ ≤ 8) (hP0 : 0 < nP μ) : Stat (sdS μ g) (rnB μ g) :=
  (begS_stat _).trans (rnS_stat (Nat.lt_of_lt_of_le (Nat.mod_lt _ hP0) hP8) _ _)
theorem rnB_hi {μ : Sg} {g i : Nat} (hP8 : nP μ ≤ 8) (hP0 : 0 < nP μ) (hi : 8 ≤ i) (h4 : i ≠ 204) : rnB μ g 183 i = μ 183 i := by
  have hq : rnP μ g < 8 := Nat.lt_of_lt_of_le (Nat.mod_lt _ hP0) hP8
  unfold rnB
  rw [rnS_at (by omega) h4, begS_183]
  exact congrFun (sdS_M μ g).2.2 i
theorem rnB_W {μ : Sg} {g : Nat} (hW : InvW μ) (hP0 : 0 < nP μ) : InvW (rnB μ g) := by
  refine ((sdS_M μ g).e_InvW hW).stat (rnB_stat hW.1.1.1.2 hP0) ?_
  rw [rnB_hi hW.1.1.1.2 hP0 (by omega) (by omega), (sdS_M μ g).2.2]
theorem goS_W {ν : Sg} (hW : InvW ν) (hs : stp ν ≤ 9999) : InvW (goS ν) := by
  have hP8 := hW.1.1.1.2
  have hg : InvW (goW ν) := InvW.stat (M_goes_e hW).2 hW (goW_205 hW).1
  have h1 := (wat_hi hg (i := 2000) (by omega) (nP ν) hP8).1
  refine ⟨goS_T hW (by omega), ?_⟩
  obtain ⟨_, kc, hk, hk2⟩ := h1
  refine ⟨kc, ?_, hk2⟩
  unfold goS bump
  rw [zup_miss (by omega)]
  split
  · show zrow (itS watS (nP ν) (goW ν)) 183 (notF (itS watS (nP ν) (goW ν))) 183 205 = _
    rw [zrow_hit]
    unfold notF
    rw [if_neg (by omega), if_neg (by omega), if_neg (by omega), hk]
  · exact hk
theorem rst_W {μ : Sg} (hW : InvW μ) : ∀ n, stp μ + n ≤ 10000 → InvW (rst μ n) ∧ stp (rst μ n) = stp μ + n
  | 0, _ => ⟨hW, rfl⟩
  | n + 1, h => by
    obtain ⟨w1, w2⟩ := rst_W hW n (by omega)
    have e : stp (begS (rst μ n)) = stp μ + n := by rw [(begS_stat _).e_stp, w2]
    exact ⟨goS_W (begW w1) (by omega), (goS_stp (begW w1)).trans (by omega)⟩
/-- rows of the class that a step of an act leaves -/
def FrD (σ τ : Sg) : Prop := (∀ a, a ≠ 0 → a < 56 ∨ (72 < a ∧ a < 77) ∨ 79 < a → τ a = σ a) ∧ ∀ k, k ≠ 14 → τ 0 k = σ 0 k
theorem FrD.refl (σ : Sg) : FrD σ σ := ⟨fun _ _ _ => rfl, fun _ _ => rfl⟩
theorem FrD.trans {σ τ υ : Sg} (h : FrD σ τ) (g : FrD τ υ) : FrD σ υ := ⟨fun a h1 h2 => (g.1 a h1 h2).trans (h.1 a h1 h2), fun k hk => (g.2 k hk).trans (h.2 k hk)⟩
theorem Fr.toD {lo hi : Nat} {σ τ : Sg} (h : Fr lo hi σ τ) (h1 : 56 ≤ lo) (h2 : hi ≤ 72) : FrD σ τ := ⟨fun a _ ha => h a (by omega), fun k _ => by rw [h 0 (by omega)]⟩
theorem c_step1 {τ μ : Sg} {p1 b l n j g : Nat} (h : StS τ p1 μ b l) (h14 : τ 0 14 = nI g) (hg : g < 2147483648) (hP0 : 0 < nP μ) (hb : b ≤ stp μ) (hb2 : stp μ + 1 ≤ b + l) (hst : stp μ ≤ 9999) (hj : j < n) (hn : n ≤ 1000) :
    ∃ τ', CK_goSteps_l41 τ (nI n) (nI 1) (nI j) = some (.inl (τ', nI (j + 1))) ∧ FrD τ τ' ∧ τ' 0 14 = nI (nxD (nxD g)) ∧ StS τ' p1 (chS μ g) b l := by
  obtain ⟨hp1, e3, hR0, hS0, hV0, hL0, hW0, hWs0, hq0⟩ := h
  have me := sdS_M μ g
  have hP8 := hW0.1.1.1.2
  have hPe := hW0.1.1.1.1
  have st := rnB_stat (g := g) hP8 hP0
  have hWν := rnB_W (g := g) hW0 hP0
  have hR := me.e_RepK hR0
  have hS := me.e_RepSc hS0
  have hW := me.e_InvW hW0
  have hT2 := hW.1.1.2.2.1.2
  have hq : sdS μ g 171 26 = nI 0 := (zup_miss (by omega)).trans hq0
  have eP : nP (sdS μ g) = nP μ := me.e_nP
  have eS : stp (sdS μ g) = stp μ := me.e_stp
  have eP2 : nP (rnB μ g) = nP μ := st.e_nP.trans eP
  have eS2 : stp (rnB μ g) = stp μ := st.e_stp.trans eS
  have hqP : rnP μ g < nP μ := Nat.mod_lt _ hP0
  obtain ⟨σ1, a1, a2, a3, a4⟩ := Water_beginStep_ok (w := 56) (μ := sdS μ g) (by omega) (by omega) (me.e_RepW hV0)
  rw [eP] at a1
  have a2' : Fr 56 72 τ σ1 := a2
  have x14 : σ1 0 14 = nI g := by rw [a2' 0 (by omega), h14]
  have d1 := c_draw (m := nP μ) x14 hg hP0 (by omega)
  have d2 := c_draw (σ := zup σ1 0 14 (nI (nxD g))) (m := 20) zup_hit (nxD_lt g) (by omega) (by omega)
  generalize hσ3 : zup (zup σ1 0 14 (nI (nxD g))) 0 14 (nI (nxD (nxD g))) = σ3 at d2
  have f3 : Fr 0 0 σ1 σ3 := fun a ha => by rw [← hσ3, zup_ne (by omega), zup_ne (by omega)]
  have f3k : ∀ k, k ≠ 14 → σ3 0 k = σ1 0 k := fun k hk => by rw [← hσ3, zup_miss hk, zup_miss hk]
  have f3h : σ3 0 14 = nI (nxD (nxD g)) := by rw [← hσ3, zup_hit]
  have hbK : InvK (begS (sdS μ g)) := (begW hW).1.1
  have ebP : nP (begS (sdS μ g)) = nP μ := (begS_stat _).e_nP.trans eP
  obtain ⟨τ4, r1, r2, r3, r4⟩ := c_rain (τ := σ3) (p := rnP μ g) (r := nI (rnR g)) hbK (by rw [ebP]; exact hqP) (a3.fr f3 (by omega)) (a4.fr f3 (by omega))
  have hR4 : RepK τ4 p1 (sdS μ g) := ((hR.fr a2' hT2 (by omega)).fr f3 hT2 (by omega)).fr r2 hT2 (by omega)
  have hS4 : RepSc τ4 (sdS μ g) b l := ((hS.fr a2' hW.1.1 (by omega)).fr f3 hW.1.1 (by omega)).fr r2 hW.1.1 (by omega)
  have hL4 : RepLg τ4 77 (sdS μ g) := (((me.e_RepLg hL0).fr a2' (by omega)).fr f3 (by omega)).fr r2 (by omega)
  have s183 : ∀ i, sdS μ g 183 i = μ 183 i := fun i => congrFun me.2.2 i
  obtain ⟨τ5, τ6, c1, c2, c3, c4, c5, c6, c7, c8⟩ := tail_ok (τ := τ4) (μ := sdS μ g) (ν := rnB μ g) (b := b) (l := l) hp1 (hR4.stat st) (hS4.stat st hW.1.2.1) hWν r3 r4 (fun q hq2 => by
      rw [show rnB μ g 192 = begS (sdS μ g) 192 from rnS_row (by omega) (by omega)]
      exact ((begS_it (sdS μ g) 8).2.2 q (by omega)).2.2.2.1) (by omega) (by omega) (by rw [st.r171]; exact hq) (by omega) st hW.1.1 hR4 (fun i hi => by rw [s183, rnB_hi hP8 hP0 (by omega) (by omega)]) (fun p hp => by rw [s183, rnB_hi hP8 hP0 (by omega) (by omega)]) (fun p hp => by
      rw [show rnB μ g 191 = begS (sdS μ g) 191 from rnS_row (by omega) (by omega)]
      exact ((begS_it (sdS μ g) 8).2.2 p (by omega)).2.2.1) (me.e_InvWs hWs0) hL4
  have k4 : τ4 0 3 = nI (p1 + 1) := by rw [r2 0 (by omega), f3k 3 (by omega), a2' 0 (by omega), e3]
  have k5 : τ5 0 3 = nI (p1 + 1) := by rw [c2 0 (by omega), k4]
  have sB : StB (sdS μ g) (goS (rnB μ g)) := st.toB.trans (goS_stB hWν)
  have fD : FrD τ τ6 := ((a2'.toD (by omega) (by omega)).trans ⟨fun a h1 h2 => f3 a (by omega), f3k⟩).trans ((r2.toD (by omega) (by omega)).trans ⟨fun a h1 h2 => by
      rcases Nat.lt_or_ge 72 a with x | x
      · rcases Nat.lt_or_ge a 77 with y | y
        · exact c8 a x y
        · exact c4 a (by omega)
      · exact c4 a (by omega), fun k _ => by rw [c4 0 (by omega)]⟩)
  refine ⟨τ6, ?_, fD, by rw [c4 0 (by omega), r2 0 (by omega), f3h], hp1, by rw [c4 0 (by omega)]; exact k4, (hR4.fr c4 hT2 (by omega)).stB sB, (hS4.fr c4 hW.1.1 (by omega)).stB sB hW.1.2.1, c5, c6, goS_W hWν (by omega), c7, ?_⟩
  · have x1 : σ1 0 3 = nI (p1 + 1) := by rw [a2' 0 (by omega), e3]
    have x3 : τ p1 3 = nI (nP μ) := hR0.1.1.trans hPe
    have x4 : σ1 p1 3 = nI (nP μ) := by rw [a2' p1 (by omega), x3]
    unfold CK_goSteps_l41 CK_goSteps_j41_99
    rw [if_neg (nI_ge hj (by omega)), e3, zmr2_e rfl hp1, zgt_e, x3, a1, obs, if_neg (show ¬ nI 1 = 0 by decide), x1, zmr2_e rfl hp1, zgt_e, x4, d1, obs]
    dsimp only
    rw [zlt_e, show (20 : Int32) = nI 20 from rfl, d2, obs]
    dsimp only
    rw [show nI (nxD g / 64 % nP μ) = nI (rnP μ g) from rfl, show nI (nxD (nxD g) / 64 % 20) = nI (rnR g) from rfl, r1, obs, k4, zmr2_e rfl hp1, c1, obs, k5, zmr2_e rfl hp1, c3, obs, zlt_e, show (1 : Int32) = nI 1 from rfl, nI_add]
  · show goS (rnB μ g) 171 26 = nI 0
    rw [sB.r171]; exact hq
theorem m_step1 {μ : Sg} {n j g : Nat} (hW : InvW μ) (h24 : μ 171 24 = nI g) (hg : g < 2147483648) (hP0 : 0 < nP μ) (hj : j < n) (hn : n ≤ 1000) : M_chance_l45 μ (nI n) (nI j) = some (.inl (chS μ g, nI (j + 1))) := by
  have hP8 := hW.1.1.1.2
  have hPe := hW.1.1.1.1
  have hqP : rnP μ g < nP μ := Nat.mod_lt _ hP0
  have x24 : begS μ 171 24 = nI g := by rw [(begS_stat μ).r171, h24]
  have x0 : begS μ 171 0 = nI (nP μ) := by rw [(begS_stat μ).r171, hPe]
  have d1 := m_draw (m := nP μ) x24 hg hP0 (by omega)
  have d2 := m_draw (σ := zup (begS μ) 171 24 (nI (nxD g))) (m := 20) zup_hit (nxD_lt g) (by omega) (by omega)
  rw [zup_zup, ← begS_sd μ (nI (nxD (nxD g)))] at d2
  have r1 := m_rain (σ := begS (sdS μ g)) (p := rnP μ g) (r := nI (rnR g)) (by omega)
  unfold M_chance_l45
  rw [if_neg (nI_ge hj (by omega)), M_begins_e, obs, zgt_e, x0, d1, obs]
  dsimp only
  rw [zlt_e, show (20 : Int32) = nI 20 from rfl, d2, obs]
  dsimp only
  rw [show nI (nxD g / 64 % nP μ) = nI (rnP μ g) from rfl, show nI (nxD (nxD g) / 64 % 20) = nI (rnR g) from rfl, show zup μ 171 24 (nI (nxD (nxD g))) = sdS μ g from rfl, r1, obs, show rnS (rnP μ g) (nI (rnR g)) (begS (sdS μ g)) = rnB μ g from rfl, (M_goes_e (rnB_W hW hP0)).1, obs, zlt_e, show (1 : Int32) = nI 1 from rfl, nI_add]
  rfl
