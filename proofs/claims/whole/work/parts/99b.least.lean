/-! the least that must be given -/
theorem LookR.up7 {σ κ : Sg} {p1 b l : Nat} {v : Int32} (h : LookR σ p1 κ b l) (hK : InvK κ) : LookR (zup σ 81 7 v) p1 κ b l := by
  obtain ⟨h1, h2, h3, h4, h5⟩ := h
  have f1 : Fr 81 81 σ (zup σ 81 7 v) := (Fr.refl σ).up (by omega) (by omega)
  exact ⟨h1, h2.fr f1 hK.2.2.1.2 (by omega), h3.fr f1 hK (by omega), by rw [zup_miss (by omega)]; exact h4, by rw [zup_miss (by omega)]; exact h5⟩
theorem RepW.up7 {σ κ : Sg} {v : Int32} (h : RepW σ 82 κ) : RepW (zup σ 81 7 v) 82 κ := h.fr (lo := 81) (hi := 81) ((Fr.refl σ).up (by omega) (by omega)) (by omega)
def Keep81 (τ τ' : Sg) : Prop := Fr 81 98 τ τ' ∧ ∀ k, k ≠ 7 → τ' 81 k = τ 81 k
theorem zor (a b : Bool) : zb a ||| zb b = zb (a || b) := by cases a <;> cases b <;> decide
theorem zb_ok {α : Type} (a : Bool) (k : Option α) : zbo (zb a) k = k := by
  cases a
  · exact if_pos (Or.inl rfl)
  · exact if_pos (Or.inr rfl)
theorem staysWithin_ok {τ κ : Sg} {p1 bs l n B : Nat} (hL : LookR τ p1 κ bs l) (hQ : InvQ κ) (hR : InvR κ) (hz : Zr κ) (hW : RepW τ 82 κ) (hbs : bs = stp κ) (hn : n ≤ l) (hs : stp κ ≤ 10100) (h0 : 0 < nP κ) (hB : B ≤ 20000000) (hn1 : 1 ≤ n) :
    ∃ τ' b fl, Outlook_staysWithin τ (nI n) (nI B) = some (b, τ') ∧ Keep81 τ τ' ∧ τ' 81 7 = zb fl ∧ b = decide (sN κ n ≤ B) ∧ (b = false → fl = false → ∃ m, 1 ≤ m ∧ m ≤ n ∧ B < sN κ m ∧ ∀ k, k < m → ¬ dry κ k) := by
  have hl2 := hL.2.2.1.1.2.2.1
  have hK := hQ.1.1.1
  have key : ∀ (f i : Nat) (υ : Sg) (fl : Bool), n < f + i → i ≤ n → Keep81 τ υ → υ 81 7 = zb fl → LookR υ p1 (qrun κ i) bs l → RepW υ 82 (qrun κ i) → (fl = false → ∀ k, k < i → ¬ dry κ k) → (∀ m, 1 ≤ m → m ≤ i → sN κ m ≤ B) →
      ∃ o, zit (fun (s : (Sg × Int32)) => Outlook_staysWithin_l7 s.1 (nI n) (nI B) s.2) f (υ, nI i) = some o ∧
      ((∃ τ' fl' m, o = .inl (false, τ') ∧ Keep81 τ τ' ∧ τ' 81 7 = zb fl' ∧ 1 ≤ m ∧ m ≤ n ∧ B < sN κ m ∧ (fl' = false → ∀ k, k < m → ¬ dry κ k)) ∨ (∃ τ' fl', o = .inr (τ', nI n) ∧ Keep81 τ τ' ∧ τ' 81 7 = zb fl' ∧ ∀ m, 1 ≤ m → m ≤ n → sN κ m ≤ B)) := by
    intro f
    induction f with
    | zero => intro i υ fl h1 h2; omega
    | succ f ih =>
      intro i υ fl h1 h2 kp k7 lk rw' dr no
      unfold zit
      rcases Nat.lt_or_ge i n with hi | hi
      · obtain ⟨q1, q2, sb, _⟩ := qrun_inv hQ i (by omega)
        obtain ⟨υ', b1, b2, b3, b4, b5⟩ := runOne_ok lk q1 rw' (by omega) (by omega)
        have h193 := b5 (by rw [sb.e_nP]; exact h0)
        have hsn := sN_step hQ hR hz (n := i) (by omega)
        have h90 : υ' 90 6 = nI (sN κ (i + 1)) := by
          have := b4.1.2.2.2.1
          simp only [Nat.reduceAdd] at this
          rw [this]
          exact hsn.2.2.2.1
        have k7' : υ' 81 7 = zb fl := by rw [b2 81 (by omega)]; exact k7
        have hq1' := (qrun_inv hQ (i + 1) (by omega)).1
        let dr' : Bool := decide (¬ υ' 96 0 ≤ υ' 95 0)
        let τn : Sg := zup υ' 81 7 (zb (fl || dr'))
        have hdry : dr' = false → ¬ dry κ i := by
          intro hd
          have hle : υ' 96 0 ≤ υ' 95 0 := by simpa [dr'] using hd
          unfold dry
          rw [h193, if_pos hle]
          decide
        have kpn : Keep81 τ τn := by
          refine ⟨fun a ha => ?_, fun k hk => ?_⟩
          · show zup υ' 81 7 (zb (fl || dr')) a = τ a
            rw [zup_ne (by omega), b2 a (by omega)]; exact kp.1 a ha
          · show zup υ' 81 7 (zb (fl || dr')) 81 k = τ 81 k
            rw [zup_miss hk, b2 81 (by omega)]; exact kp.2 k hk
        have k7n : τn 81 7 = zb (fl || dr') := zup_hit
        have drn : (fl || dr') = false → ∀ k, k < i + 1 → ¬ dry κ k := by
          intro hor k hk
          have hfl : fl = false := by cases fl <;> simp_all
          have hdr : dr' = false := by cases fl <;> simp_all
          by_cases ck : k = i
          · subst ck; exact hdry hdr
          · exact dr hfl k (by omega)
        have hbody : Outlook_staysWithin_l7 υ (nI n) (nI B) (nI i) = if sN κ (i + 1) ≤ B then some (.inl (τn, nI (i + 1))) else some (.inr (.inl (false, τn))) := by
          have hj : ∀ y : Int32, y = zb dr' → Outlook_staysWithin_j7_53 υ' (nI n) (nI B) (nI i) (zb fl) y = if sN κ (i + 1) ≤ B then some (.inl (τn, nI (i + 1))) else some (.inr (.inl (false, τn))) := by
            intro y hy
            subst hy
            unfold Outlook_staysWithin_j7_53
            rw [zor, zb_ok, zpt_e, zlit, zrd_e (by omega) (by omega)]
            have e : zup υ' 81 7 (zb (fl || dr')) 90 6 = nI (sN κ (i + 1)) := by rw [zup_ne (by omega)]; exact h90
            rw [e]
            by_cases c : sN κ (i + 1) ≤ B
            · rw [if_pos c, if_pos (nI_le c (by omega)), zlt_e, zlit, nI_add]
            · rw [if_neg c, if_neg (nI_ge (by omega) (by omega))]
          unfold Outlook_staysWithin_l7
          rw [if_neg (nI_ge hi (by omega)), b1, obs, zgt_e, k7', zlit, zrd_e (by omega) (by omega), zrd_e (by omega) (by omega)]
          by_cases c : υ' 96 0 ≤ υ' 95 0
          · rw [if_pos c]
            refine hj _ ?_
            have : dr' = false := by simp [dr', c]
            rw [this]; rfl
          · rw [if_neg c]
            refine hj _ ?_
            have : dr' = true := by simp [dr', c]
            rw [this]; rfl
        rw [hbody]
        by_cases c : sN κ (i + 1) ≤ B
        · rw [if_pos c]
          refine ih (i + 1) τn (fl || dr') (by omega) (by omega) kpn k7n (b3.up7 hq1'.1.1.1) b4.up7 drn (fun m m1 m2 => ?_)
          by_cases cm : m = i + 1
          · subst cm; exact c
          · exact no m m1 (by omega)
        · rw [if_neg c]
          exact ⟨_, rfl, Or.inl ⟨τn, fl || dr', i + 1, rfl, kpn, k7n, by omega, by omega, by omega, drn⟩⟩
      · have : i = n := by omega
        subst this
        have hbody : Outlook_staysWithin_l7 υ (nI i) (nI B) (nI i) = some (.inr (.inr (υ, nI i))) := by
          unfold Outlook_staysWithin_l7
          rw [if_pos (nI_le (Nat.le_refl _) (by omega))]
        refine ⟨.inr (υ, nI i), ?_, Or.inr ⟨υ, fl, rfl, kp, k7, no⟩⟩
        show (Outlook_staysWithin_l7 υ (nI i) (nI B) (nI i)).bind _ = _
        rw [hbody]
        rfl
  have kp0 : Keep81 τ (zup τ 81 7 (zb false)) := ⟨(Fr.refl τ).up (by omega) (by omega), fun k hk => zup_miss hk⟩
  obtain ⟨o, e, ho⟩ := key zFU 0 (zup τ 81 7 (zb false)) false (by rw [zFU_e]; omega) (by omega) kp0 zup_hit (hL.up7 hK) hW.up7 (fun _ k hk => by omega) (fun m m1 m2 => by omega)
  have run : Outlook_staysWithin τ (nI n) (nI B) = o.elim (fun r => some r) (fun r => some (true, r.1)) := by
    unfold Outlook_staysWithin
    rw [show (0 : Int32) = zb false from rfl, zb_ok, zpt_e, zlt_e, show zb false = nI 0 from rfl]
    rw [show zb false = nI 0 from rfl] at e
    rw [e, obs]
  rcases ho with ⟨τ', fl', m, rfl, a1, a2, a3, a4, a5, a6⟩ | ⟨τ', fl', rfl, a1, a2, a3⟩
  · refine ⟨τ', false, fl', run, a1, a2, ?_, fun _ hf => ⟨m, a3, a4, a5, a6 hf⟩⟩
    have hm := sN_mono hQ hR hz (a := m) (n - m) (by omega)
    rw [show m + (n - m) = n from by omega] at hm
    exact (decide_eq_false (by omega)).symm
  · refine ⟨τ', true, fl', run, a1, a2, (decide_eq_true (a3 n hn1 (Nat.le_refl _))).symm, fun h => by cases h⟩
