/-! what was seen, and which leaks fit it -/
theorem nct_t {f : Nat → Bool} {n : Nat} (h : f n = true) : nct f (n + 1) = nct f n + 1 := by rw [nct_succ, if_pos h]
theorem nct_f {f : Nat → Bool} {n : Nat} (h : f n = false) : nct f (n + 1) = nct f n := by rw [nct_succ, h]; rfl
theorem nct_mono (f : Nat → Bool) {i : Nat} : ∀ n, i ≤ n → nct f i ≤ nct f n
  | 0, h => by
    have : i = 0 := by omega
    rw [this]; exact Nat.le_refl _
  | n + 1, h => by
    by_cases c : i = n + 1
    · rw [c]; exact Nat.le_refl _
    · have := nct_mono f n (i := i) (by omega)
      rw [nct_succ]; split <;> omega
theorem nct_lt {f : Nat → Bool} {i n : Nat} (h : i < n) (hf : f i = true) : nct f i < nct f n := by
  have h1 := nct_mono f n (i := i + 1) h
  rw [nct_t hf] at h1; omega
theorem nct_re {f P : Nat → Bool} : ∀ n, nct P (nct f n) = nct (fun b => f b && P (nct f b)) n
  | 0 => rfl
  | n + 1 => by
    rw [nct_succ (fun b => f b && P (nct f b)) n, ← nct_re n]
    by_cases c : f n = true
    · rw [nct_t c, nct_succ, c, Bool.true_and]
    · have c' : f n = false := by simpa using c
      rw [nct_f c', c', Bool.false_and]; rfl
def mxx (f : Nat → Nat) : Nat → Nat
  | 0 => 0
  | n + 1 => max (mxx f n) (f n)
theorem mxx_succ (f : Nat → Nat) (n : Nat) : mxx f (n + 1) = max (mxx f n) (f n) := rfl
theorem mxx_re {f : Nat → Bool} {g : Nat → Nat} : ∀ n, mxx g (nct f n) = mxx (fun b => if f b = true then g (nct f b) else 0) n
  | 0 => rfl
  | n + 1 => by
    rw [mxx_succ (fun b => if f b = true then g (nct f b) else 0) n, ← mxx_re n]
    by_cases c : f n = true
    · rw [nct_t c, if_pos c]; rfl
    · have c' : f n = false := by simpa using c
      rw [nct_f c', if_neg c]; omega
theorem mxx_congr {f g : Nat → Nat} : ∀ {n : Nat}, (∀ j, j < n → f j = g j) → mxx f n = mxx g n
  | 0, _ => rfl
  | n + 1, h => by rw [mxx_succ, mxx_succ, mxx_congr (fun j hj => h j (by omega)), h n (by omega)]
theorem mxx_le {f : Nat → Nat} {B : Nat} : ∀ n, (∀ j, j < n → f j ≤ B) → mxx f n ≤ B
  | 0, _ => Nat.zero_le _
  | n + 1, h => by
    have h1 := mxx_le (f := f) n (fun j hj => h j (by omega))
    have h2 := h n (by omega)
    rw [mxx_succ]; omega
theorem zit_all {R : Type} {b : Int32 → Option (Int32 ⊕ (Bool ⊕ R))} {f : Nat → Bool} {n : Nat} {r : R} (hn : n < 30000)
    (hs : ∀ j, j < n → b (nI j) = some (if f j then .inr (.inl false) else .inl (nI (j + 1)))) (he : b (nI n) = some (.inr (.inr r))) :
    zit b zFU (nI 0) = some (if anyB f n then .inl false else .inr r) := by
  have key : ∀ (fu j : Nat), n < fu + j → j ≤ n → anyB f j = false → zit b fu (nI j) = some (if anyB f n then .inl false else .inr r) := by
    intro fu
    induction fu with
    | zero => intro j h1 h2; omega
    | succ fu ih =>
      intro j h1 h2 h3
      unfold zit
      rcases Nat.lt_or_ge j n with h | h
      · rw [hs j h]
        by_cases hf : f j = true
        · rw [if_pos hf, anyB_true h hf]; rfl
        · rw [if_neg hf]
          exact ih (j + 1) (by omega) (by omega) (by rw [anyB_succ, h3]; simpa using hf)
      · have : j = n := by omega
        subst this
        rw [he, h3]
        rfl
  exact key zFU 0 (by rw [zFU_e]; omega) (by omega) rfl
def Seen (σ : Sg) (R q : Nat) (s : Nat → Nat) : Prop := R ≤ 10 ∧ σ 124 0 = nI R ∧ σ 171 43 = nI R ∧ (0 < R → q < nP σ ∧ σ 124 1 = nI q ∧ σ 171 44 = nI q ∧ ∀ j, j < R → σ 125 j = nI (s j) ∧ σ 194 j = nI (s j) ∧ 1 ≤ s j ∧ s j ≤ 40 ∧ σ 195 j = σ 126 j)
def kapL (σ : Sg) (q l : Nat) : Sg := zup (quiet σ) 183 (24 + q) (nI l)
def volL (σ : Sg) (q l k : Nat) : Int32 := qrun (kapL σ q l) k 183 q
def fitL (σ : Sg) (q R : Nat) (s : Nat → Nat) (l : Nat) : Bool := !anyB (fun j => decide (volL σ q l (s j) ≠ σ 126 j)) R
theorem isAsSeen_ok {τ : Sg} {a R : Nat} {s : Nat → Nat} {v w : Nat → Int32} (hR : R ≤ 10) (h0 : τ 124 0 = nI R) (h1 : ∀ j, j < R → τ 125 j = nI (s j) ∧ s j ≤ 40 ∧ τ a (s j) = v j ∧ τ 126 j = w j) :
    Sight_isAsSeen τ a 41 = some (!anyB (fun j => decide (v j ≠ w j)) R) := by
  have hl := zit_all (b := fun (s : Int32) => Sight_isAsSeen_l2 τ a 41 s) (f := fun j => decide (v j ≠ w j)) (n := R) (r := nI R) (by omega) (by
    intro j hj
    obtain ⟨e1, e2, e3, e4⟩ := h1 j hj
    show Sight_isAsSeen_l2 τ a 41 (nI j) = _
    unfold Sight_isAsSeen_l2
    simp (disch := omega) only [zgt_e, zpt_e, zlt_e, zrd_e, zwr_e, zelr_e, znz_e, zcp_e, zlit, nI_add, nI_mul, nI_sub, nI_div, ↓irem_f, irem_e, Nat.zero_add, Nat.add_zero, obs, zb_t, zb_f, nI_eqt, nI_eqf, nI_let, nI_lef, nI_ltt, nI_ltf, nI_m1, nI_n1, ↓reduceIte, zup_ne, zup_miss, zup_hit, zbo_1, zbo_0, reduceCtorEq, sel_l, sel_r, Nat.reduceAdd, Nat.reduceSub, Nat.reduceMul, h0, e1, e3, e4]
    by_cases c : v j = w j
    · rw [if_pos c, if_neg (by simp [c])]
    · rw [if_neg c, if_pos (by simp [c])]) (by
    show Sight_isAsSeen_l2 τ a 41 (nI R) = _
    unfold Sight_isAsSeen_l2
    simp (disch := omega) only [zgt_e, zpt_e, zlt_e, zrd_e, zwr_e, zelr_e, znz_e, zcp_e, zlit, nI_add, nI_mul, nI_sub, nI_div, ↓irem_f, irem_e, Nat.zero_add, Nat.add_zero, obs, zb_t, zb_f, nI_eqt, nI_eqf, nI_let, nI_lef, nI_ltt, nI_ltf, nI_m1, nI_n1, ↓reduceIte, zup_ne, zup_miss, zup_hit, zbo_1, zbo_0, reduceCtorEq, sel_l, sel_r, Nat.reduceAdd, Nat.reduceSub, Nat.reduceMul, h0])
  unfold Sight_isAsSeen
  rw [zlt_e, show (0 : Int32) = nI 0 from rfl, hl, obs]
  by_cases c : anyB (fun j => decide (v j ≠ w j)) R = true
  · rw [if_pos c, c]; rfl
  · have c' : anyB (fun j => decide (v j ≠ w j)) R = false := by simpa using c
    rw [if_neg c, c']; rfl
/-- what a look for leaks that fit leaves alone -/
def FrS (σ τ : Sg) : Prop := (∀ a, a ≠ 124 → a < 81 ∨ (123 < a ∧ a < 127) ∨ 169 < a → τ a = σ a) ∧ ∀ k, k ≠ 4 → τ 124 k = σ 124 k
theorem FrS.fr {σ τ υ : Sg} {lo hi : Nat} (h : FrS σ τ) (f : Fr lo hi τ υ) (hd : (81 ≤ lo ∧ hi ≤ 123) ∨ (127 ≤ lo ∧ hi ≤ 169)) : FrS σ υ :=
  ⟨fun a h1 h2 => (f a (by omega)).trans (h.1 a h1 h2), fun k hk => by rw [f 124 (by omega)]; exact h.2 k hk⟩
theorem FrS.up4 {σ τ : Sg} {v : Int32} (h : FrS σ τ) : FrS σ (zup τ 124 4 v) :=
  ⟨fun a h1 h2 => by rw [zup_ne h1]; exact h.1 a h1 h2, fun k hk => by rw [zup_miss hk]; exact h.2 k hk⟩
theorem FrS.refl (σ : Sg) : FrS σ σ := ⟨fun _ _ _ => rfl, fun _ _ => rfl⟩
theorem FrS.all {σ τ : Sg} (h : FrS σ τ) : Fr 81 169 σ τ := fun a ha => h.1 a (by omega) (by omega)
theorem LookR.gap {σ τ κ : Sg} {p1 b l : Nat} (h : LookR σ p1 κ b l) (hK : InvK κ) (f : ∀ a, a < 82 ∨ (98 < a ∧ a < 124) ∨ 169 < a → τ a = σ a) : LookR τ p1 κ b l := by
  obtain ⟨h1, h2, ⟨g1, g2, g3⟩, h4, h5⟩ := h
  have hP8 := hK.1.2
  have hO10 := hK.2.1.2
  have f2 : Fr 82 169 σ τ := fun a ha => f a (by omega)
  refine ⟨h1, h2.fr f2 hK.2.2.1.2 (by omega), ⟨?_, ?_, ?_⟩, by rw [f 81 (by omega)]; exact h4, by rw [f 81 (by omega)]; exact h5⟩
  · rw [f 103 (by omega)]; exact g1
  · intro o ho i hi; rw [f (105 + o) (by omega)]; exact g2 o ho i hi
  · intro g hg i hi; rw [f (116 + g) (by omega)]; exact g3 g hg i hi
theorem LookR.far {σ τ κ : Sg} {p1 b l lo hi : Nat} (h : LookR σ p1 κ b l) (hK : InvK κ) (f : Fr lo hi σ τ) (hd : 124 ≤ lo ∧ hi ≤ 169) : LookR τ p1 κ b l := h.gap hK (fun a ha => f a (by omega))
def SgS (σ τ : Sg) (p1 : Nat) : Prop := FrS σ τ ∧ LookR τ p1 (quiet σ) (stp σ) 40
theorem fits_in {σ τ : Sg} {p1 q l c : Nat} (hB : Base σ p1) (hg : Gain σ) (hq : q < nP σ) (hc : c ≤ 40) (h : SgS σ τ p1) (hc4 : τ 124 4 = nI c) (hq1 : σ 124 1 = nI q) :
    ∃ τ0 υ, Outlook_lookAgain τ = some τ0 ∧ zit (fun (s : (Sg × Int32)) => Sight_findFits_l44 s.1 (nI l) s.2) zFU (zup τ0 85 q (nI l), nI 1) = some (υ, nI 41) ∧ SgS σ υ p1 ∧ (∀ a, 123 < a → a ≠ 129 + c → υ a = τ a) ∧ (∀ k, 1 ≤ k → k ≤ 40 → υ (129 + c) k = volL σ q l k) ∧ τ0 124 1 = nI q := by
  have hW := base_W hB hg
  have hs := hB.1.2.2.2.2.2.2.2.1.2
  have hK := hW.1.1
  have hP8 := hK.1.2
  have qm := quiet_M σ
  have hQ := quiet_Q hW
  have hKq := qm.e_InvK hK
  obtain ⟨hF, hL⟩ := h
  obtain ⟨τ0, a1, a2, a3, a4⟩ := lookAgain_ok hKq hL hKq ((qm.e_RepW hB.1.2.2.2.1).fr hF.all (by omega))
  have hv := a4.v3 (g := q) (v := nI l) hKq (by omega)
  have hQg : InvQ (kapL σ q l) := var_Q hQ (Or.inl (by omega))
  have hst : stp (kapL σ q l) = stp σ := by
    unfold stp kapL
    rw [zup_miss (by omega), qm.2.2]
  have hnp : nP (kapL σ q l) = nP σ := qm.e_nP
  have f1 : Fr 82 98 τ (zup τ0 85 q (nI l)) := (a2.wide (by omega) (by omega)).up (by omega) (by omega)
  have lk : LookR (zup τ0 85 q (nI l)) p1 (kapL σ q l) (stp σ) 40 := (a3.fr82 hKq ((Fr.refl τ0).up (by omega) (by omega))).oeq (OEq.up (by omega)) hQ.1.1.2.1
  have hl := zit_cnt (b := fun (s : (Sg × Int32)) => Sight_findFits_l44 s.1 (nI l) s.2) (fun j υ => (∀ a, a < 82 ∨ 98 < a → a ≠ 129 + c → υ a = τ a) ∧ LookR υ p1 (qrun (kapL σ q l) j) (stp σ) 40 ∧ RepW υ 82 (qrun (kapL σ q l) j) ∧ ∀ k, 1 ≤ k → k ≤ j → υ (129 + c) k = volL σ q l k) (fun j => nI (1 + j)) 40 (σ := zup τ0 85 q (nI l)) (by omega)
    ⟨fun a h1 _ => f1 a h1, lk, hv, fun k h1 h2 => absurd h1 (by omega)⟩ (by
    rintro j υ hj ⟨i1, i2, i3, i4⟩
    obtain ⟨hQj, hsj, sb, _⟩ := qrun_inv hQg j (by omega)
    obtain ⟨υ1, b1, b2, b3, b4, _⟩ := runOne_ok i2 hQj i3 (by omega) (by omega)
    have hnj : nP (qst (qrun (kapL σ q l) j)) = nP σ := by rw [(qst_stB hQj).e_nP, sb.e_nP, hnp]
    have hvv : υ1 83 q = qst (qrun (kapL σ q l) j) 183 q := by
      have := (b4.1.1 q (by omega)).1
      simp only [Nat.reduceAdd] at this
      exact this
    have e4 : υ1 124 4 = nI c := by rw [b2 124 (by omega), i1 124 (by omega) (by omega), hc4]
    have e1 : υ1 124 1 = nI q := by rw [b2 124 (by omega), i1 124 (by omega) (by omega), hF.2 1 (by omega), hq1]
    have fz : Fr (129 + c) (129 + c) υ1 (zup υ1 (129 + c) (1 + j) (qst (qrun (kapL σ q l) j) 183 q)) := (Fr.refl υ1).up (by omega) (by omega)
    obtain ⟨hQj1, _⟩ := qrun_inv hQg (j + 1) (by omega)
    refine ⟨zup υ1 (129 + c) (1 + j) (qst (qrun (kapL σ q l) j) 183 q), ?_, ?_, ?_, ?_, ?_⟩
    · show Sight_findFits_l44 υ (nI l) (nI (1 + j)) = _
      unfold Sight_findFits_l44
      simp (disch := omega) only [zgt_e, zpt_e, zlt_e, zrd_e, zwr_e, zelr_e, znz_e, zcp_e, zlit, nI_add, nI_mul, nI_sub, nI_div, ↓irem_f, irem_e, Nat.zero_add, Nat.add_zero, obs, zb_t, zb_f, nI_eqt, nI_eqf, nI_let, nI_lef, nI_ltt, nI_ltf, nI_m1, nI_n1, ↓reduceIte, zup_ne, zup_miss, zup_hit, zbo_1, zbo_0, reduceCtorEq, sel_l, sel_r, Nat.reduceAdd, Nat.reduceSub, Nat.reduceMul, b1, e4, e1, hvv]
      rfl
    · intro a h1 h2
      rw [zup_ne h2, b2 a h1, i1 a h1 h2]
    · exact b3.far hQj1.1.1.1 fz (by omega)
    · exact b4.fr fz (by omega)
    · intro k h1 h2
      by_cases ck : k = 1 + j
      · subst ck
        rw [zup_hit]
        unfold volL
        rw [show 1 + j = j + 1 from by omega]
        rfl
      · rw [zup_miss ck, b2 _ (by omega)]
        exact i4 k h1 (by omega)) (by
    intro υ _
    show Sight_findFits_l44 υ (nI l) (nI (1 + 40)) = _
    unfold Sight_findFits_l44
    simp (disch := omega) only [zgt_e, zpt_e, zlt_e, zrd_e, zwr_e, zelr_e, znz_e, zcp_e, zlit, nI_add, nI_mul, nI_sub, nI_div, ↓irem_f, irem_e, Nat.zero_add, Nat.add_zero, obs, zb_t, zb_f, nI_eqt, nI_eqf, nI_let, nI_lef, nI_ltt, nI_ltf, nI_m1, nI_n1, ↓reduceIte, zup_ne, zup_miss, zup_hit, zbo_1, zbo_0, reduceCtorEq, sel_l, sel_r, Nat.reduceAdd, Nat.reduceSub, Nat.reduceMul])
  obtain ⟨υ, e, i1, i2, i3, i4⟩ := hl
  refine ⟨τ0, υ, a1, e, ⟨⟨?_, ?_⟩, ?_⟩, fun a h1 h2 => i1 a (by omega) h2, i4, ?_⟩
  · intro a h1 h2
    rw [i1 a (by omega) (by omega)]
    exact hF.1 a h1 h2
  · intro k hk
    rw [i1 124 (by omega) (by omega)]
    exact hF.2 k hk
  · exact hL.gap hKq (fun a ha => i1 a (by omega) (by omega))
  · rw [a2 124 (by omega), hF.2 1 (by omega), hq1]
