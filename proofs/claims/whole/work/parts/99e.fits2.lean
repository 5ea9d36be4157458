def FsG (κ : Nat → Sg) (st W : Nat) (r : Int32) : Prop := (∃ i, i < 60 ∧ r = nI (st + i) ∧ sN (κ i) 200 ≤ W ∧ ∀ j, j < i → W < sN (κ j) 200) ∨ (r = -1 ∧ ∀ i, i < 60 → W < sN (κ i) 200)
theorem FsG.uniq {κ : Nat → Sg} {st W : Nat} {r r' : Int32} (h : FsG κ st W r) (h' : FsG κ st W r') : r = r' := by
  rcases h with ⟨g, g1, rfl, g2, g3⟩ | ⟨rfl, g3⟩
  · rcases h' with ⟨m, m1, rfl, m2, m3⟩ | ⟨_, m3⟩
    · rcases Nat.lt_trichotomy g m with c | c | c
      · have := m3 g c; omega
      · rw [c]
      · have := g3 m c; omega
    · have := m3 g g1; omega
  · rcases h' with ⟨m, m1, rfl, m2, m3⟩ | ⟨rfl, m3⟩
    · have := g3 m m1; omega
    · rfl
/-- the class's state in its search for a harmless step -/
def FtS (σ τ : Sg) (p1 o n : Nat) : Prop := Fr 81 123 σ τ ∧ τ 81 3 = nI (p1 + 1) ∧ τ 81 4 = nI 56 ∧ τ 103 0 = nI (stp σ) ∧ τ 103 1 = nI 200 ∧ τ 103 2 = nI (200 + nd (quiet σ) 0 (nP σ)) ∧
  (∀ o', o' < nO σ → o' ≠ o → ∀ i, i ≤ 200 + nd (quiet σ) 0 (nP σ) → τ (105 + o') i = if opn (quiet σ) o' (stp σ + i) = true then 1 else 0) ∧
  (τ 99 0 = nI (nC σ + 1) ∧ (∀ k, k < nC σ → τ 100 k = σ 183 (148 + 3 * k) ∧ τ 101 k = σ 183 (149 + 3 * k) ∧ τ 102 k = σ 183 (150 + 3 * k)) ∧ τ 100 (nC σ) = nI o ∧ τ 102 (nC σ) = nI n)
theorem Orders_copy_ok {σ : Sg} {w v : Nat} (hd : w + 3 < v ∨ v + 3 < w) : ∃ σ', Orders_copyFrom σ v w = some σ' ∧ Fr v (v + 3) σ σ' ∧ σ' v 0 = σ w 0 ∧ ∀ k, k < 16 → σ' (v + 1) k = σ (w + 1) k ∧ σ' (v + 2) k = σ (w + 2) k ∧ σ' (v + 3) k = σ (w + 3) k := by
  unfold Orders_copyFrom
  simp only [zgt_e, zpt_e, zcp_e]
  refine ⟨_, rfl, ?_, ?_, ?_⟩
  · intro a ha
    simp (disch := omega) only [zrow_ne, zup_ne]
  · simp (disch := omega) only [zrow_ne, zup_hit]
  · intro k hk
    simp (disch := omega) only [zrow_ne, zrow_hit, zup_ne, cpy0_in, and_self]
theorem c_fits {σ : Sg} {p1 o n W : Nat} (hB : Base σ p1) (hgn : Gain σ) (ho : o < nO σ) (hn1 : 1 ≤ n) (hn : n ≤ 99) (hc : nC σ < 16) (hWs : W = sN (quiet σ) 200) :
    ∃ r τ, Outlook_firstHarmless σ p1 55 (nI o) (nI n) = some (r, τ) ∧ Fr 81 123 σ τ ∧ FsG (fun i => addO (quiet σ) o (stp σ + i) n (nC σ)) (stp σ) W r := by
  have hW := base_W hB hgn
  have hs := hB.1.2.2.2.2.2.2.2.1.2
  have hSt := hB.1.2.2.2.2.2.2.2.1.1
  have hR := hB.1.2.2.2.2.2.2.2.2.2
  have hM := hB.1.2.2.2
  have hz := now_Zr hB.1
  have hK := hW.1.1
  have hO := hW.1.2.1
  have hO10 := hK.2.1.2
  have hP8 := hK.1.2
  have qm := quiet_M σ
  have hQ := quiet_Q hW
  have hKq := qm.e_InvK hK
  have hRq := qm.e_InvR hR
  have hzq : Zr (quiet σ) := by
    unfold Zr at hz ⊢
    rw [qm.e_nP, qm.e_tl, qm.2.2]
    exact hz
  have h0 : 0 < nP σ := by
    have := (hK.2.2.2.2.2.1 o ho).2.1
    omega
  have hcq : nC (quiet σ) = nC σ := qm.e_nC
  have hsn := sN_step hQ hRq hzq (n := 200) (by rw [qm.e_stp]; omega)
  have hW9 : W ≤ 20000000 := by rw [hWs]; exact hsn.2.1
  obtain ⟨σ0, a1, a2, a3, a4⟩ := c_look hB hgn (n := 200) (by omega)
  obtain ⟨σ1, b1, b2, b3, b4⟩ := Outlook_run_ok a3 hQ a4 (by rw [qm.e_stp]) (Nat.le_refl 200) (by rw [qm.e_stp]; omega)
  have f1 : Fr 81 123 σ σ1 := a2.trans (b2.wide (by omega) (by omega))
  have x90 : σ1 90 6 = nI W := by
    have := b4.1.2.2.2.1
    simp only [Nat.reduceAdd] at this
    rw [this, hWs]
    exact hsn.1
  have x56 : σ1 56 0 = nI (stp σ) := by
    have := hM.1.1.2.2.2.2.1
    simp only [Nat.reduceAdd] at this
    rw [f1 56 (by omega), this, hSt]
  have y4 : σ1 81 4 = nI 56 := by rw [b2 81 (by omega)]; exact a3.2.2.2.2
  have y3 : σ1 81 3 = nI (p1 + 1) := by rw [b2 81 (by omega)]; exact a3.2.2.2.1
  obtain ⟨σ2, c1, c2, c3, c4⟩ := Orders_copy_ok (σ := σ1) (w := 73) (v := 99) (by omega)
  have hcnt : σ2 99 0 = nI (nC σ) := by
    rw [c3, f1 73 (by omega)]
    have := hM.2.1.1
    simp only [Nat.reduceAdd] at this
    rw [this]; exact hO.1
  generalize hσ3 : zup (zup (zup (zup σ2 100 (nC σ) (nI o)) 101 (nC σ) (nI (stp σ))) 102 (nC σ) (nI n)) 99 0 (nI (nC σ + 1)) = σ3
  have f3 : Fr 99 102 σ2 σ3 := by
    rw [← hσ3]
    exact ((((Fr.refl σ2).up (by omega) (by omega)).up (by omega) (by omega)).up (by omega) (by omega)).up (by omega) (by omega)
  have hadd : Orders_add σ2 99 (nI o) (nI (stp σ)) (nI n) = some (nI (nC σ), σ3) := by
    unfold Orders_add
    simp (disch := omega) only [zgt_e, zpt_e, zlt_e, zrd_e, zwr_e, zelr_e, znz_e, zcp_e, zlit, nI_add, nI_mul, nI_sub, nI_div, ↓irem_f, irem_e, Nat.zero_add, Nat.add_zero, obs, zb_t, zb_f, nI_eqt, nI_eqf, nI_let, nI_lef, nI_ltt, nI_ltf, nI_m1, nI_n1, ↓reduceIte, zup_ne, zup_miss, zup_hit, zbo_1, zbo_0, reduceCtorEq, sel_l, sel_r, Nat.reduceAdd, Nat.reduceSub, Nat.reduceMul, hcnt, hσ3]
    rw [Nat.add_sub_cancel]
  have f2 : Fr 81 123 σ σ2 := f1.trans (c2.wide (by omega) (by omega))
  have f4 : Fr 81 123 σ σ3 := f2.trans (f3.wide (by omega) (by omega))
  have sc := a3.2.2.1
  have rows : ∀ a, 103 ≤ a → σ3 a = σ0 a := fun a ha => by rw [f3 a (by omega), c2 a (by omega), b2 a (by omega)]
  have st0 : FtS σ σ3 p1 o n := by
    refine ⟨f4, ?_, ?_, ?_, ?_, ?_, ?_, ?_, ?_, ?_, ?_⟩
    · rw [f3 81 (by omega), c2 81 (by omega), y3]
    · rw [f3 81 (by omega), c2 81 (by omega), y4]
    · rw [rows 103 (by omega)]; exact sc.1.1
    · rw [rows 103 (by omega)]; exact sc.1.2.1
    · rw [rows 103 (by omega), ← qm.e_nP]; exact sc.1.2.2.2.2
    · intro o' ho' _ i hi
      rw [rows _ (by omega)]
      exact sc.2.1 o' (by rw [qm.e_nO]; exact ho') i (by rw [qm.e_nP]; exact hi)
    · rw [← hσ3, zup_hit]
    · intro k hk
      obtain ⟨d1, d2, d3⟩ := c4 k (by omega)
      obtain ⟨e1, e2, e3⟩ := hM.2.1.2 k hk
      simp only [Nat.reduceAdd] at d1 d2 d3 e1 e2 e3
      rw [← hσ3]
      simp (disch := omega) only [zup_ne, zup_miss]
      rw [d1, d2, d3, f1 74 (by omega), f1 75 (by omega), f1 76 (by omega)]
      exact ⟨e1, e2, e3⟩
    · rw [← hσ3]
      simp (disch := omega) only [zup_ne, zup_hit]
    · rw [← hσ3]
      simp (disch := omega) only [zup_ne, zup_hit]
  have key : ∀ (f i : Nat) (τ : Sg), 60 < f + i → i ≤ 60 → FtS σ τ p1 o n → (∀ j, j < i → W < sN (addO (quiet σ) o (stp σ + j) n (nC σ)) 200) →
      ∃ q, zit (fun (s : (Sg × Int32)) => Outlook_firstHarmless_l71 s.1 (nI o) (nI W) (nI (stp σ)) (nI (nC σ)) s.2) f (τ, nI i) = some q ∧
      ((∃ r τ', q = .inl (r, τ') ∧ Fr 81 123 σ τ' ∧ FsG (fun i => addO (quiet σ) o (stp σ + i) n (nC σ)) (stp σ) W r) ∨ (∃ τ' x, q = .inr (τ', x) ∧ Fr 81 123 σ τ' ∧ FsG (fun i => addO (quiet σ) o (stp σ + i) n (nC σ)) (stp σ) W (-1))) := by
    intro f
    induction f with
    | zero => intro i τ h1 h2; omega
    | succ f ih =>
      intro i τ h1 h2 ft no
      unfold zit
      rcases Nat.lt_or_ge i 60 with hi | hi
      · obtain ⟨g0, g1, g2, g3, g4, g5, g6, g7, g8, g9, g10⟩ := ft
        have hp1 := hB.1.1.1
        have fz : Fr 99 102 τ (zup τ 101 (nC σ) (nI (stp σ + i))) := (Fr.refl τ).up (by omega) (by omega)
        have hRK : RepK (zup τ 101 (nC σ) (nI (stp σ + i))) p1 (quiet σ) := (qm.e_RepK (hB.1.2.1.fr g0 hK.2.2.1.2 (by omega))).fr fz hKq.2.2.1.2 (by omega)
        have hRO : RepOr (zup τ 101 (nC σ) (nI (stp σ + i))) 99 (addO (quiet σ) o (stp σ + i) n (nC (quiet σ))) := by
          rw [hcq]
          obtain ⟨n1, n2, n3, n4⟩ := addO_new (κ := quiet σ) (o := o) (s := stp σ + i) (n := n) hc
          refine ⟨?_, fun k hk => ?_⟩
          · rw [zup_ne (by omega), g7, n4]
          · rw [addO_nC hc] at hk
            by_cases ck : k = nC σ
            · subst ck
              rw [n1, n2, n3]
              refine ⟨?_, zup_hit, ?_⟩
              · show zup τ 101 (nC σ) (nI (stp σ + i)) 100 (nC σ) = _
                rw [zup_ne (by omega)]; exact g9
              · show zup τ 101 (nC σ) (nI (stp σ + i)) 102 (nC σ) = _
                rw [zup_ne (by omega)]; exact g10
            · obtain ⟨e1, e2, e3⟩ := g8 k (by omega)
              rw [addO_at (by omega), addO_at (by omega), addO_at (by omega), qm.2.2]
              refine ⟨?_, ?_, ?_⟩
              · show zup τ 101 (nC σ) (nI (stp σ + i)) 100 k = _
                rw [zup_ne (by omega)]; exact e1
              · show zup τ 101 (nC σ) (nI (stp σ + i)) 101 k = _
                rw [zup_miss ck]; exact e2
              · show zup τ 101 (nC σ) (nI (stp σ + i)) 102 k = _
                rw [zup_ne (by omega)]; exact e3
        obtain ⟨τ1, d1, d2, d3⟩ := planAgain_ok (b := stp σ) (l := 200) hp1 hRK hRO hQ (by rw [hcq]; exact hc) (by rw [qm.e_nO]; exact ho) (by omega) hn1 hn (by rw [zup_ne (by omega)]; exact g3) (by omega) (by rw [zup_ne (by omega)]; exact g4) (by omega) (by rw [zup_ne (by omega), qm.e_nP]; exact g5) (by
          intro o' ho' hne j hj
          rw [qm.e_nO] at ho'
          rw [qm.e_nP] at hj
          rw [zup_ne (by omega)]
          exact g6 o' ho' hne j hj)
        rw [hcq] at d3
        have fτ1 : Fr 81 123 σ τ1 := g0.trans ((fz.wide (by omega) (by omega)).trans (d2.wide (by omega) (by omega)))
        have z3 : τ1 81 3 = nI (p1 + 1) := by rw [d2 81 (by omega), zup_ne (by omega)]; exact g1
        have z4 : τ1 81 4 = nI 56 := by rw [d2 81 (by omega), zup_ne (by omega)]; exact g2
        have hQi : InvQ (addO (quiet σ) o (stp σ + i) n (nC σ)) := by
          have := addO_Q (o := o) (s := stp σ + i) (n := n) hQ (by rw [hcq]; exact hc) (by rw [qm.e_nO]; exact ho) (by omega) hn1 hn
          rw [hcq] at this; exact this
        have hRi : InvR (addO (quiet σ) o (stp σ + i) n (nC σ)) ∧ Zr (addO (quiet σ) o (stp σ + i) n (nC σ)) := by
          have := addO_R (o := o) (s := stp σ + i) (n := n) (by rw [hcq]; exact hc) hKq hRq hzq
          rw [hcq] at this; exact this
        have hsti : stp (addO (quiet σ) o (stp σ + i) n (nC σ)) = stp σ := by rw [addO_stp hc, qm.e_stp]
        have lk : LookR τ1 p1 (addO (quiet σ) o (stp σ + i) n (nC σ)) (stp σ) 200 := ⟨hp1, (addO_RepK (nC σ) hRK).fr d2 (by rw [addO_nT]; exact hKq.2.2.1.2) (by omega), d3, z3, z4⟩
        obtain ⟨τ2, e1, e2, e3, e4⟩ := lookAgain_ok hQi.1.1.1 lk hKq ((qm.e_RepW hM.1).fr fτ1 (by omega))
        have hwi : RepW τ2 82 (addO (quiet σ) o (stp σ + i) n (nC σ)) := by
          have := addO_W (o := o) (s := stp σ + i) (n := n) (by rw [hcq]; exact hc) hKq e4
          rw [hcq] at this; exact this
        obtain ⟨τ3, b, fl, s1, s2, s3, s4, _⟩ := staysWithin_ok (n := 200) (B := W) e3 hQi hRi.1 hRi.2 hwi hsti.symm (Nat.le_refl _) (by omega) (by rw [addO_nP, qm.e_nP]; exact h0) hW9 (by omega)
        have fτ3 : Fr 81 123 σ τ3 := fτ1.trans ((e2.wide (by omega) (by omega)).trans (s2.1.wide (by omega) (by omega)))
        have hbody : Outlook_firstHarmless_l71 τ (nI o) (nI W) (nI (stp σ)) (nI (nC σ)) (nI i) = if b = true then some (.inr (.inl (nI (stp σ + i), τ3))) else some (.inl (τ3, nI (i + 1))) := by
          have hne : ¬ nI (nC σ) = -1 := fun q => (nI_n1 (a := nC σ) (by omega) ▸ q : False)
          have z3' : zup τ 101 (nC σ) (nI (stp σ + i)) 81 3 = nI (p1 + 1) := by rw [zup_ne (by omega)]; exact g1
          unfold Outlook_firstHarmless_l71
          rw [show (60 : Int32) = nI 60 from rfl, if_neg (nI_ge hi (by omega)), if_neg hne, nI_add, zwr_e (by omega) (by omega), z3', zmr2_e rfl hp1, d1, obs, e1, obs, show (200 : Int32) = nI 200 from rfl, s1, obs]
          cases b
          · rw [if_pos (show zb false = 0 from rfl), if_neg (by decide), zlt_e, zlit, nI_add]
          · rw [if_neg (show ¬ zb true = 0 by decide), if_pos rfl]
        rw [hbody]
        cases hb : b with
        | true =>
          subst hb
          rw [if_pos rfl]
          exact ⟨_, rfl, Or.inl ⟨_, τ3, rfl, fτ3, Or.inl ⟨i, hi, rfl, of_decide_eq_true s4.symm, no⟩⟩⟩
        | false =>
          subst hb
          rw [if_neg (by decide)]
          have hbad := of_decide_eq_false s4.symm
          have keep : ∀ a, 99 ≤ a → τ3 a = τ1 a := fun a ha => by rw [s2.1 a (by omega), e2 a (by omega)]
          have keep2 : ∀ a, 99 ≤ a → a < 103 → τ3 a = zup τ 101 (nC σ) (nI (stp σ + i)) a := fun a ha hb => by rw [keep a ha, d2 a (by omega)]
          have keep81 : ∀ k, k ≠ 7 → τ3 81 k = τ 81 k := fun k hk => by rw [s2.2 k hk, e2 81 (by omega), d2 81 (by omega), zup_ne (by omega)]
          refine ih (i + 1) τ3 (by omega) (by omega) ⟨fτ3, ?_, ?_, ?_, ?_, ?_, ?_, ?_, ?_, ?_, ?_⟩ (fun j hj => ?_)
          · rw [keep81 3 (by omega)]; exact g1
          · rw [keep81 4 (by omega)]; exact g2
          · rw [keep 103 (by omega)]; exact d3.1.1
          · rw [keep 103 (by omega)]; exact d3.1.2.1
          · rw [keep 103 (by omega)]
            have := d3.1.2.2.2.2
            rw [addO_nd, addO_nP, qm.e_nP] at this
            exact this
          · intro o' ho' hne j hj
            rw [keep _ (by omega)]
            have := d3.2.1 o' (by rw [addO_nO, qm.e_nO]; exact ho') j (by rw [addO_nd, addO_nP, qm.e_nP]; exact hj)
            rw [this]
            have ho2 := addO_opn (κ := quiet σ) (o := o) (s := stp σ + i) (n := n) (by rw [hcq]; exact hc) (by omega) (by omega) (by omega) hne (stp σ + j)
            rw [hcq] at ho2
            rw [ho2]
          · rw [keep2 99 (by omega) (by omega), zup_ne (by omega)]; exact g7
          · intro k hk
            rw [keep2 100 (by omega) (by omega), keep2 101 (by omega) (by omega), keep2 102 (by omega) (by omega)]
            simp (disch := omega) only [zup_ne, zup_miss]
            exact g8 k hk
          · rw [keep2 100 (by omega) (by omega), zup_ne (by omega)]; exact g9
          · rw [keep2 102 (by omega) (by omega), zup_ne (by omega)]; exact g10
          · by_cases cj : j = i
            · subst cj; omega
            · exact no j (by omega)
      · have : i = 60 := by omega
        subst this
        have hbody : Outlook_firstHarmless_l71 τ (nI o) (nI W) (nI (stp σ)) (nI (nC σ)) (nI 60) = some (.inr (.inr (τ, nI 60))) := by
          unfold Outlook_firstHarmless_l71
          rw [zlit, if_pos (nI_le (Nat.le_refl _) (by omega))]
        refine ⟨.inr (τ, nI 60), ?_, Or.inr ⟨τ, nI 60, rfl, ft.1, Or.inr ⟨rfl, fun j hj => no j hj⟩⟩⟩
        show (Outlook_firstHarmless_l71 τ (nI o) (nI W) (nI (stp σ)) (nI (nC σ)) (nI 60)).bind _ = _
        rw [hbody]
        rfl
  obtain ⟨q, e, ho'⟩ := key zFU 0 σ3 (by rw [zFU_e]; omega) (by omega) st0 (fun j hj => by omega)
  have run : Outlook_firstHarmless σ p1 55 (nI o) (nI n) = q.elim (fun r => some r) (fun r => some ((-1), r.1)) := by
    unfold Outlook_firstHarmless
    rw [show (200 : Int32) = nI 200 from rfl, a1, obs, b1, obs, show (6 : Int32) = nI 6 from rfl, zrd_e (by omega) (by omega), x90, y4, zmr1_e rfl, zgt_e, x56, zmr1_e rfl, c1, obs, hadd, obs, zlt_e, zlt_e, show (0 : Int32) = nI 0 from rfl, e, obs]
  rcases ho' with ⟨r, τ', rfl, h1, h2⟩ | ⟨τ', x, rfl, h1, h2⟩
  · exact ⟨r, τ', run, h1, h2⟩
  · exact ⟨-1, τ', run, h1, h2⟩
/-- rows that a search for a harmless step leaves alone: behind the orders it may leave traces -/
def FrO (σ σ' : Sg) : Prop := (∀ a, a ≠ 183 → a ≠ 184 → a < 189 ∨ 193 < a → σ' a = σ a) ∧ ∀ i, i < 148 + 3 * nC σ ∨ 196 ≤ i → σ' 183 i = σ 183 i
def MdF (σ ν : Sg) (c : Nat) : Prop := (∀ a, a ≠ 183 → a ≠ 184 → a < 189 ∨ 193 < a → ν a = σ a) ∧ ∀ i, i ≠ 148 + 3 * c ∧ i ≠ 149 + 3 * c ∧ i ≠ 150 + 3 * c → ν 183 i = σ 183 i
theorem MdF.eqm {σ σ1 ν : Sg} {o s n : Nat} (f : Fr 81 123 σ σ1) (hc : nC σ < 16) (h : MdF σ1 ν (nC σ)) : EqM 5000 (addO (quiet σ) o s n (nC σ)) (quiet (addO ν o s n (nC σ))) := by
  obtain ⟨e1, e2, e3⟩ := quiet_E (σ := σ)
  obtain ⟨d1, d2, d3⟩ := quiet_E (σ := addO ν o s n (nC σ))
  have r : ∀ a, a ≠ 183 → a ≠ 184 → a < 81 ∨ (123 < a ∧ a < 189) → ν a = σ a := fun a q1 q2 q3 => by rw [h.1 a q1 q2 (by omega), f a (by omega)]
  refine ⟨⟨?_, ?_, ?_, ?_⟩, ⟨?_, ?_, ?_⟩, fun i _ => ?_⟩
  · rw [addO_ne (by omega), e1.1, d1.1, addO_ne (by omega), r 171 (by omega) (by omega) (by omega)]
  · rw [addO_ne (by omega), e1.2.1, d1.2.1, addO_ne (by omega), r 171 (by omega) (by omega) (by omega)]
  · rw [addO_ne (by omega), e1.2.2, d1.2.2, addO_ne (by omega), r 171 (by omega) (by omega) (by omega)]
  · rw [addO_ne (by omega), e2, d2]
  · rw [addO_ne (by omega), e3 _ (by omega), d3 _ (by omega), addO_ne (by omega), r _ (by omega) (by omega) (by omega)]
  · rw [addO_ne (by omega), e3 _ (by omega), d3 _ (by omega), addO_ne (by omega), r _ (by omega) (by omega) (by omega)]
  · rw [addO_ne (by omega), e3 _ (by omega), d3 _ (by omega), addO_ne (by omega), r _ (by omega) (by omega) (by omega)]
  · rw [d3 _ (by omega)]
    obtain ⟨n1, n2, n3, n4⟩ := addO_new (κ := quiet σ) (o := o) (s := s) (n := n) hc
    obtain ⟨m1, m2, m3, m4⟩ := addO_new (κ := ν) (o := o) (s := s) (n := n) hc
    by_cases c1 : i = 148 + 3 * nC σ
    · rw [c1, n1, m1]
    · by_cases c2 : i = 149 + 3 * nC σ
      · rw [c2, n2, m2]
      · by_cases c3 : i = 150 + 3 * nC σ
        · rw [c3, n3, m3]
        · by_cases c4 : i = 199
          · rw [c4, n4, m4]
          · rw [addO_at ⟨c1, c2, c3, c4⟩, addO_at ⟨c1, c2, c3, c4⟩, e3 _ (by omega), h.2 i ⟨c1, c2, c3⟩, f 183 (by omega)]
theorem isIn_1 {n b : Nat} (h1 : 1 ≤ n) (h2 : n ≤ b) (hb : b < 2147483648) : M_isIn (nI n) (nI 1) (nI b) = some true := by
  rw [M_isIn_e (by omega) (by omega) hb, decide_eq_true ⟨h1, h2⟩]
set_option maxHeartbeats 4000000 in
theorem m_fits {σ σ1 : Sg} {p1 o n W : Nat} (hB : Base σ p1) (hgn : Gain σ) (f : Fr 81 123 σ σ1) (ho : o < nO σ) (hn1 : 1 ≤ n) (hn : n ≤ 99) (hc : nC σ < 16) (hWs : W = sN (quiet σ) 200) :
    ∃ r ν, M_fits σ1 (nI o) (nI n) = some (r, ν) ∧ FrO σ1 ν ∧ FsG (fun i => addO (quiet σ) o (stp σ + i) n (nC σ)) (stp σ) W r := by
  have hW := base_W hB hgn
  have hs := hB.1.2.2.2.2.2.2.2.1.2
  have hSt := hB.1.2.2.2.2.2.2.2.1.1
  have hR := hB.1.2.2.2.2.2.2.2.2.2
  have hz := now_Zr hB.1
  have hq := hB.2.1
  have hK := hW.1.1
  have hO := hW.1.2.1
  obtain ⟨hOu, hO10⟩ := hK.2.1
  have qm := quiet_M σ
  have hQ := quiet_Q hW
  have hKq := qm.e_InvK hK
  have hRq := qm.e_InvR hR
  have hcq : nC (quiet σ) = nC σ := qm.e_nC
  have hzq : Zr (quiet σ) := by
    unfold Zr at hz ⊢
    rw [qm.e_nP, qm.e_tl, qm.2.2]
    exact hz
  have em : (-1 : Int32) = -nI 1 := rfl
  obtain ⟨B, hS, hB9⟩ := now_sh hB.1
  have hsn := sN_step hQ hRq hzq (n := 200) (by rw [qm.e_stp]; omega)
  have hS0 : shA (quiet σ) = nI B := by
    rw [← hS]; unfold shA; rw [qm.e_nO, qm.2.2]
  have hB0 : sN (quiet σ) 0 = B := by
    unfold sN
    show (shA (quiet σ)).toNatClampNeg = B
    rw [hS0, nI_clamp (by omega)]
  have hBW : B ≤ W := by
    have := sN_mono hQ hRq hzq (a := 0) 200 (by rw [qm.e_stp]; omega)
    rw [Nat.zero_add, hB0] at this
    omega
  have hW9 : W ≤ 20000000 := by rw [hWs]; exact hsn.2.1
  obtain ⟨⟨ν0, a1, a2⟩, _⟩ := m_shortIn hW hs hq f (n := 200) (by omega)
  have hval0 : shA (qrun (quiet σ) 200) - shA σ = nI (W - B) := by rw [hsn.1, hS, ← hWs, nI_sub hBW]
  rw [hval0] at a1
  have md0 : MdF σ1 ν0 (nC σ) := ⟨fun a h1 h2 h3 => a2 a h2 h3, fun i _ => by rw [a2 183 (by omega) (by omega)]⟩
  have key : ∀ (fu i : Nat) (ν : Sg), 61 < fu + i → i ≤ 60 → MdF σ1 ν (nC σ) → (∀ j, j < i → W < sN (addO (quiet σ) o (stp σ + j) n (nC σ)) 200) →
      ∃ r ν' x, zit (fun (s : (Sg × Int32 × Int32)) => M_fits_l55 s.1 (nI o) (nI n) (nI (W - B)) s.2.1 s.2.2) fu (ν, -nI 1, nI (stp σ + i)) = some (ν', r, x) ∧ MdF σ1 ν' (nC σ) ∧ FsG (fun i => addO (quiet σ) o (stp σ + i) n (nC σ)) (stp σ) W r := by
    intro fu
    induction fu with
    | zero => intro i ν h1 h2; omega
    | succ fu ih =>
      intro i ν h1 h2 md no
      have hst : ν 183 196 = nI (stp σ) := by rw [md.2 196 (by omega), f 183 (by omega)]; exact hSt
      have hcn : ν 183 199 = nI (nC σ) := by rw [md.2 199 (by omega), f 183 (by omega)]; exact hO.1
      unfold zit
      rcases Nat.lt_or_ge i 60 with hi | hi
      · have hlay : M_laysOrder ν (nI o) (nI (stp σ + i)) (nI n) = some (addO ν o (stp σ + i) n (nC σ)) := by
          unfold M_laysOrder addO
          have x1 : 148 + 3 * nC σ + 1 = 149 + 3 * nC σ := by omega
          have x2 : 148 + 3 * nC σ + 2 = 150 + 3 * nC σ := by omega
          simp (disch := omega) only [zgt_e, zpt_e, zlt_e, zrd_e, zwr_e, zelr_e, znz_e, zcp_e, zlit, nI_add, nI_mul, nI_sub, nI_div, ↓irem_f, irem_e, Nat.zero_add, Nat.add_zero, obs, zb_t, zb_f, nI_eqt, nI_eqf, nI_let, nI_lef, nI_ltt, nI_ltf, nI_m1, nI_n1, ↓reduceIte, zup_ne, zup_miss, zup_hit, zbo_1, zbo_0, reduceCtorEq, sel_l, sel_r, Nat.reduceAdd, Nat.reduceSub, Nat.reduceMul, hcn, x1, x2]
        have hE := MdF.eqm (o := o) (s := stp σ + i) (n := n) f hc md
        have hQi : InvQ (addO (quiet σ) o (stp σ + i) n (nC σ)) := by
          have := addO_Q (o := o) (s := stp σ + i) (n := n) hQ (by rw [hcq]; exact hc) (by rw [qm.e_nO]; exact ho) (by omega) hn1 hn
          rw [hcq] at this; exact this
        have hRi : InvR (addO (quiet σ) o (stp σ + i) n (nC σ)) ∧ Zr (addO (quiet σ) o (stp σ + i) n (nC σ)) := by
          have := addO_R (o := o) (s := stp σ + i) (n := n) (by rw [hcq]; exact hc) hKq hRq hzq
          rw [hcq] at this; exact this
        have hsti : stp (addO (quiet σ) o (stp σ + i) n (nC σ)) = stp σ := by rw [addO_stp hc, qm.e_stp]
        have hq' : addO ν o (stp σ + i) n (nC σ) 171 26 = nI 0 := by
          rw [addO_ne (by omega), md.1 171 (by omega) (by omega) (by omega), f 171 (by omega)]; exact hq
        obtain ⟨ν', c1, c2⟩ := m_shortIn2 (n := 200) hQi hE hq' (by omega) (by omega)
        have hsi := sN_step hQi hRi.1 hRi.2 (n := 200) (by omega)
        have hshi : shA (addO (quiet σ) o (stp σ + i) n (nC σ)) = nI B := by
          rw [← hS0]
          unfold shA
          rw [addO_nO]
          exact sm_congr (fun q hq => by rw [qm.e_nO] at hq; rw [addO_at (by omega)])
        have hs0 : sN (addO (quiet σ) o (stp σ + i) n (nC σ)) 0 = B := by
          unfold sN
          show (shA (addO (quiet σ) o (stp σ + i) n (nC σ))).toNatClampNeg = B
          rw [hshi, nI_clamp (by omega)]
        have hmo := sN_mono hQi hRi.1 hRi.2 (a := 0) 200 (by omega)
        rw [Nat.zero_add, hs0] at hmo
        rw [hsi.1, hshi, nI_sub hmo] at c1
        have hcn' : ν' 183 199 = nI (nC σ + 1) := by rw [c2 183 (by omega) (by omega)]; exact (addO_new hc).2.2.2
        have md2 : MdF σ1 (zup ν' 183 199 (nI (nC σ))) (nC σ) := by
          refine ⟨fun a q1 q2 q3 => ?_, fun k hk => ?_⟩
          · rw [zup_ne q1, c2 a q2 q3, addO_ne q1]; exact md.1 a q1 q2 q3
          · by_cases ck : k = 199
            · subst ck
              rw [zup_hit, ← hcn]; exact md.2 199 (by omega)
            · rw [zup_miss ck, c2 183 (by omega) (by omega), addO_at ⟨hk.1, hk.2.1, hk.2.2, ck⟩]; exact md.2 k hk
        have hbody : M_fits_l55 ν (nI o) (nI n) (nI (W - B)) (-nI 1) (nI (stp σ + i)) = if sN (addO (quiet σ) o (stp σ + i) n (nC σ)) 200 ≤ W then some (.inl (zup ν' 183 199 (nI (nC σ)), nI (stp σ + i), nI (stp σ + (i + 1)))) else some (.inl (zup ν' 183 199 (nI (nC σ)), -nI 1, nI (stp σ + (i + 1)))) := by
          unfold M_fits_l55
          rw [show (196 : Int32) = nI 196 from rfl, zrd_e (by omega) (by omega), hst, show (60 : Int32) = nI 60 from rfl, nI_add, if_neg (nI_ge (by omega) (by omega)), em, if_pos rfl, hlay, obs, show (200 : Int32) = nI 200 from rfl, c1, obs]
          simp (disch := omega) only [zlt_e, zlit, zrd_e, zwr_e, hcn', nI_sub, Nat.add_sub_cancel, nI_add]
          by_cases c : sN (addO (quiet σ) o (stp σ + i) n (nC σ)) 200 ≤ W
          · rw [if_pos c, if_neg (nI_nlt (by omega) (by omega))]
            rfl
          · rw [if_neg c, if_pos (nI_lt (by omega) (by omega))]
            rfl
        show ∃ r ν' x, (M_fits_l55 ν (nI o) (nI n) (nI (W - B)) (-nI 1) (nI (stp σ + i))).bind _ = _ ∧ _
        rw [hbody]
        by_cases c : sN (addO (quiet σ) o (stp σ + i) n (nC σ)) 200 ≤ W
        · rw [if_pos c]
          obtain ⟨fu', rfl⟩ : ∃ fu', fu = fu' + 1 := ⟨fu - 1, by omega⟩
          refine ⟨nI (stp σ + i), zup ν' 183 199 (nI (nC σ)), nI (stp σ + (i + 1)), ?_, md2, Or.inl ⟨i, hi, rfl, c, no⟩⟩
          have hst2 : zup ν' 183 199 (nI (nC σ)) 183 196 = nI (stp σ) := by rw [md2.2 196 (by omega), f 183 (by omega)]; exact hSt
          have hb2 : M_fits_l55 (zup ν' 183 199 (nI (nC σ))) (nI o) (nI n) (nI (W - B)) (nI (stp σ + i)) (nI (stp σ + (i + 1))) = some (.inr (zup ν' 183 199 (nI (nC σ)), nI (stp σ + i), nI (stp σ + (i + 1)))) := by
            unfold M_fits_l55
            rw [show (196 : Int32) = nI 196 from rfl, zrd_e (by omega) (by omega), hst2, em, if_neg (show ¬ nI (stp σ + i) = -nI 1 from fun q => (nI_n1 (a := stp σ + i) (by omega) ▸ q : False))]
            split <;> rfl
          rw [obs]
          show zit (fun (s : (Sg × Int32 × Int32)) => M_fits_l55 s.1 (nI o) (nI n) (nI (W - B)) s.2.1 s.2.2) (fu' + 1) (zup ν' 183 199 (nI (nC σ)), nI (stp σ + i), nI (stp σ + (i + 1))) = _
          unfold zit
          show (M_fits_l55 (zup ν' 183 199 (nI (nC σ))) (nI o) (nI n) (nI (W - B)) (nI (stp σ + i)) (nI (stp σ + (i + 1)))).bind _ = _
          rw [hb2]
          rfl
        · rw [if_neg c]
          refine ih (i + 1) _ (by omega) (by omega) md2 (fun j hj => ?_)
          by_cases cj : j = i
          · subst cj; omega
          · exact no j (by omega)
      · have : i = 60 := by omega
        subst this
        have hbody : M_fits_l55 ν (nI o) (nI n) (nI (W - B)) (-nI 1) (nI (stp σ + 60)) = some (.inr (ν, -nI 1, nI (stp σ + 60))) := by
          unfold M_fits_l55
          rw [show (196 : Int32) = nI 196 from rfl, zrd_e (by omega) (by omega), hst, show (60 : Int32) = nI 60 from rfl, nI_add, if_pos (nI_le (Nat.le_refl _) (by omega))]
        refine ⟨-nI 1, ν, nI (stp σ + 60), ?_, md, Or.inr ⟨rfl, fun j hj => no j hj⟩⟩
        show (M_fits_l55 ν (nI o) (nI n) (nI (W - B)) (-nI 1) (nI (stp σ + 60))).bind _ = _
        rw [hbody]
        rfl
  obtain ⟨r, ν, x, e, md, fs⟩ := key zFU 0 ν0 (by rw [zFU_e]; omega) (by omega) md0 (fun j hj => by omega)
  rw [Nat.add_zero] at e
  have hOt : M_isOutlet σ1 (nI o) = some true := by
    rw [M_isOutlet_fr f]
    unfold M_isOutlet
    rw [zgt_e, hOu, show (0 : Int32) = nI 0 from rfl, show (1 : Int32) = nI 1 from rfl, isIn_in (by omega) ho]
    rfl
  have hin : M_isIn (nI n) (nI 1) (nI 99) = some true := isIn_1 hn1 hn (by omega)
  have hcn : σ1 183 199 = nI (nC σ) := by rw [f 183 (by omega)]; exact hO.1
  have hst0 : ν0 183 196 = nI (stp σ) := by rw [a2 183 (by omega) (by omega), f 183 (by omega)]; exact hSt
  have hne : ¬ nI (nC σ) = nI 16 := fun q => absurd ((nI_eq (by omega) (by omega)).mp q) (by omega)
  have hcs : nC σ1 = nC σ := (fr_M f).e_nC
  refine ⟨r, ν, ?_, ⟨md.1, fun i hi => md.2 i (by rw [hcs] at hi; omega)⟩, fs⟩
  unfold M_fits
  rw [hOt, bt]
  simp only [zlit, hin]
  rw [bt', zrd_e (by omega) (by omega), hcn, if_neg hne, a1, obs]
  simp (disch := omega) only [zlt_e, zrd_e, hst0, e, obs]
theorem a_fits {σ : Sg} {p1 : Nat} (h : Base σ p1) (x1 x2 : Int32) : ∃ r σ1 σ2, CK_fits σ x1 x2 = some (r, σ1) ∧ Fr 81 123 σ σ1 ∧ M_fits σ1 x1 x2 = some (r, σ2) ∧ FrO σ1 σ2 := by
  have no : ∀ {r : Int32}, CK_fits σ x1 x2 = some (r, σ) → M_fits σ x1 x2 = some (r, σ) → ∃ r σ1 σ2, CK_fits σ x1 x2 = some (r, σ1) ∧ Fr 81 123 σ σ1 ∧ M_fits σ1 x1 x2 = some (r, σ2) ∧ FrO σ1 σ2 := fun h1 h2 => ⟨_, σ, σ, h1, Fr.refl σ, h2, fun _ _ _ _ => rfl, fun _ _ => rfl⟩
  have hB := h
  obtain ⟨⟨hp, hR, hK, hM⟩, hq, hG⟩ := h
  obtain ⟨hOu, hO10⟩ := hK.2.1
  have hO := hM.2.2.2.1
  have hC16 := hO.2.1
  have h73 : σ 73 0 = nI (nC σ) := by
    have := hM.2.1.1
    simp only [Nat.reduceAdd] at this
    rw [this]; exact hO.1
  rcases isOutlet_c hp hR hK x1 with ⟨e1, e2⟩ | ⟨o, ho, rfl, e1, e2⟩
  · refine no (r := -1) ?_ ?_
    · unfold CK_fits; rw [e1, bf]
    · unfold M_fits; rw [e2, bf]
  · have hP : 0 < nP σ := by
      have := (hK.2.2.2.2.2.1 o ho).2.1
      omega
    have hgn := hG (Or.inl hP)
    rcases isIn_g1 (x := x2) (n := 99) (by omega) with ⟨c, c'⟩ | ⟨n, hn1, hn, rfl, c⟩
    · refine no (r := -1) ?_ ?_
      · unfold CK_fits
        rw [e1, bt]
        rcases c' with c' | c'
        · rw [if_pos (show x2 < 1 from c')]
        · rw [if_pos (show 99 < x2 from c')]
          split <;> rfl
      · unfold M_fits
        rw [e2, bt, zlit, zlit, c, bf]
    · by_cases c16 : nC σ = 16
      · refine no (r := -1) ?_ ?_
        · unfold CK_fits
          rw [e1, bt]
          simp (disch := omega) only [zlit, nI_ltf, ↓reduceIte, zgt_e, h73, c16]
        · unfold M_fits
          rw [e2, bt]
          simp only [zlit, c]
          rw [bt', zrd_e (by omega) (by omega), hO.1, c16, if_pos rfl]
      · obtain ⟨r, τ, a1, a2, a3⟩ := c_fits hB hgn ho hn1 hn (by omega) rfl
        obtain ⟨r', ν, b1, b2, b3⟩ := m_fits hB hgn a2 ho hn1 hn (by omega) rfl
        have : r = r' := FsG.uniq a3 b3
        subst this
        refine ⟨r, τ, ν, ?_, a2, b1, b2⟩
        unfold CK_fits
        rw [e1, bt]
        simp (disch := omega) only [zlit, nI_ltf, nI_ltt, ↓reduceIte, zgt_e, h73, ptr_e hp, a1, obs]
