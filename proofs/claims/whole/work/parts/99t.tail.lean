/-! a step of the class with its log -/
theorem Keep.e_not (ω : Sg) : Keep ω (notS ω) := by
  have e : ∀ i, i ≠ 206 → i < 327 → notS ω 183 i = ω 183 i := by
    intro i h1 h2
    show zrow ω 183 (notF ω) 183 i = _
    rw [zrow_hit]
    unfold notF
    rw [if_neg h1, if_neg (by omega), if_neg (by omega)]
  exact ⟨⟨fun a h1 _ _ _ _ _ => zrow_ne h1, fun k hk => e k (by omega) (by omega)⟩, fun i hi => e i (by omega) (by omega), fun a ha => zrow_ne ha⟩
theorem tail_ok {τ μ ν : Sg} {p1 b l : Nat} (hp1 : p1 = 3 ∨ p1 = 29) (hR : RepK τ p1 ν) (hS : RepSc τ ν b l) (hW : InvW ν) (hV : RepW τ 56 ν) (hN : RepN τ 56 ν) (h192 : ∀ q, q < nP ν → ν 192 q = 0) (hb : b ≤ stp ν) (hb2 : stp ν + 1 ≤ b + l) (hq : ν 171 26 = nI 0) (hst : stp ν ≤ 9999)
    (hs : Stat μ ν) (hKμ : InvK μ) (hRμ : RepK τ p1 μ) (hhi : ∀ i, 205 ≤ i → ν 183 i = μ 183 i) (h32 : ∀ p, p < nP ν → ν 183 (32 + p) = μ 183 (32 + p)) (h191 : ∀ p, p < nP ν → ν 191 p = μ 183 p) (hWs : InvWs μ) (hL : RepLg τ 77 μ) :
    ∃ τ1 τ2, Water_goOn τ 56 p1 = some τ1 ∧ Fr 56 72 τ τ1 ∧ Log_noteStep τ1 77 p1 56 = some τ2 ∧ Fr 56 79 τ τ2 ∧ RepW τ2 56 (goS ν) ∧ RepLg τ2 77 (goS ν) ∧ InvWs (goS ν) ∧ ∀ a, 72 < a → a < 77 → τ2 a = τ a := by
  obtain ⟨τ1, b1, b2, b3, b4, b5, b6, b7, b8, b9⟩ := Water_goOn_ok (w := 56) (by omega) hp1 hR hS hW.1 hb hb2 hV hN h192
  have hP8 := hW.1.1.1.2
  have hT2 := hW.1.1.2.2.1.2
  have hTg : InvT (goW ν) := b3.e_InvT hW.1
  have hPg : nP (goW ν) = nP ν := b3.e_nP
  have hsg : stp (goW ν) = stp ν := b3.e_stp
  have hPm : nP ν = nP μ := hs.e_nP
  have hsm : stp ν = stp μ := hs.e_stp
  have b2' : Fr 56 72 τ τ1 := b2
  have v := b4 _ (Keep.refl (goW ν))
  have bm : ∀ i, i ≠ 196 → bump (goW ν) 183 i = goW ν 183 i := fun i hi => by
    unfold bump
    rw [zup_miss hi]
  have hNote : NoteR τ1 p1 (goW ν) := by
    refine ⟨hp1, (hR.fr b2' hT2 (by omega)).stat b3, hTg, fun p hp => ?_, fun p hp => b5 p hp, fun p hp => b6 p (by omega), fun p hp => b7 p hp⟩
    obtain ⟨x1, x2, x3, _⟩ := v.1 p hp
    rw [bm _ (by omega)] at x1 x2 x3
    exact ⟨x1, x2, x3⟩
  have hs56 : τ1 56 0 = nI (stp (goW ν) + 1) := by
    rw [v.2.2.2.2.1]
    unfold bump
    rw [zup_hit, hTg.2.2.1.1, show (1 : Int32) = nI 1 from rfl, nI_add]
  have hhi' : ∀ i, 205 ≤ i → goW ν 183 i = μ 183 i := fun i hi => by rw [(goW_205 hW).2 i hi, hhi i hi]
  have hL1 : RepLg τ1 77 μ := hL.fr b2' (by omega)
  obtain ⟨τ2, c1, c2⟩ := noteStep_ok (μ0 := μ) hNote (by rw [b3.r171]; exact hq) (by omega) hs56 hKμ (hRμ.fr b2' hKμ.2.2.1.2 (by omega)) (by omega) (fun p hp => by rw [goW_191]; exact h191 p (by omega)) (fun p hp => by
    rw [goW_32 hW _ (by omega), h32 p (by omega), (hWs p (by omega)).1, hsg, hsm]
    rfl) (al_of hL1 (by omega) hhi')
  have ls := log_step hTg (by omega) (by omega) (by omega) hL1 hhi' c2
  have hgo : goS ν = bump (notS (itS watS (nP (goW ν)) (goW ν))) := by
    rw [hPg]
    exact congrArg bump (if_pos hq)
  rw [← hgo] at ls
  have hk : Keep (goW ν) (notS (itS watS (nP (goW ν)) (goW ν))) := c2.2.2.2.2.1.trans (Keep.e_not _)
  have hv := b4 _ hk
  rw [← hgo] at hv
  have sB := goS_stB hW
  have ht2 : tl (goW ν) = tl ν := b3.e_tl
  have hwt : RepW τ1 56 (goS ν) := by
    refine RepW.of (s := stp ν + 1) (μ := goW ν) hv (fun p hp => b8 p (by omega)) b9 (sB.e_nP.trans hPg.symm) (goS_stp hW) (sB.e_tl.trans ht2.symm) ?_ ?_
    · intro p k hp hk9
      rw [hgo]
      unfold bump
      rw [zup_miss (by omega), hk.2.1 _ (by omega)]
    · intro p hp
      rw [ht2]
      exact (hW.1.1.2.2.2.2.1 p (by omega)).1
  exact ⟨τ1, τ2, b1, b2', c1, (b2'.wide (by omega) (by omega)).trans (c2.1.wide (by omega) (by omega)), hwt.fr c2.1 (by omega), ls.1, ls.2, fun a h1 h2 => (c2.1 a (by omega)).trans (b2' a (by omega))⟩
