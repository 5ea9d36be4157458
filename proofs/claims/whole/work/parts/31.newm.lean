theorem zks_M : ks_Moment_init.length = 25 ∧ ∀ k ∈ ks_Moment_init, zrb 25 k = true := by decide +kernel
theorem zX_ok {X : Zx} {cc : ByteArray} {own : String} {rm : Room} {N nL n' : Nat} (ok : Zok X cc own rm N nL) (har : zar X.ad) (hsz : X.1.2.2.2.2.heap.size = X.ad X.2.2.1.2.2.2) (h1 : X.2.2.1.2.2.2 ≤ n') (h2 : n' ≤ 900000) : Zok (zX X n') cc own rm N nL := by
  obtain ⟨a1, a2, a3, a4, a5, a6, a7, a8⟩ := ok
  refine ⟨a1, a2, ⟨fun i j hi hj e => ?_, fun i hi => ?_⟩, a4, Nat.le_trans a5 h1, a6, a7, a8⟩
  · have hi' : i < n' := hi
    have hj' : j < n' := hj
    have e1 := har i (by omega)
    have e2 := har j (by omega)
    have e3 : X.ad i = X.ad j := e
    omega
  · have hi' : i < n' := hi
    by_cases hn : i < X.2.2.1.2.2.2
    · exact a3.2 i hn
    · refine a6 _ ?_
      have e1 := har i (by omega)
      have e2 := har X.2.2.1.2.2.2 (by omega)
      show X.1.2.2.2.2.heap.size ≤ X.ad i
      omega
section ZN
variable {X : Zx} {cc : ByteArray} {rm : Room} {N nL : Nat} {Q : State → Prop} {pc : Nat} {σ : Sg} {lv : List (Nat × Value)} {st : List Value}
theorem z_newM (oka : Zoka X cc RX11 rm N nL 0) (hN : 198 ≤ N) (hal : (X.2.2.1.2.2.2 - 198) % 25 = 0) (hn : X.2.2.1.2.2.2 + 25 ≤ 900000) (hd1 : decode cc pc = .ok (.new 34, 3)) (hd2 : decode cc (pc + 3) = .ok (.dup, 1)) (hd3 : decode cc (pc + 3 + 1) = .ok (.invokespecial 36, 3)) (hR : rm_Moment_init.frames + 1 ≤ rm.frames ∧ 8 + (1 + 11) + rm_Moment_init.locals ≤ rm.locals) (hkR : 25 ≤ rm.cells ∧ 1664 ≤ rm.slots) (hrest : ((.ref (X.ad X.2.2.1.2.2.2) :: st).map fun v => v.category).sum ≤ 8) (kk : Zok (zX X (X.2.2.1.2.2.2 + 25)) cc RX11 rm N nL → ZAt (zX X (X.2.2.1.2.2.2 + 25)) Q 25 1664 (pc + 3 + 1 + 3) (zzn σ X.2.2.1.2.2.2) lv (.ref (X.ad X.2.2.1.2.2.2) :: st)) : ZAt X Q 0 0 pc σ lv st := by
  obtain ⟨ok, har, hAO, hsz, hn9⟩ := oka
  refine z_size ok har hsz (by omega) hn9 (fun H locs ls hP hH hS hl => ?_)
  obtain ⟨⟨hx, hb, hml, hown, hts⟩, hK, hI, hR0, hN0, hA, hnl, hE⟩ := id ok
  subst hR0
  have hKn := hK.1 1 _ zc_1
  refine W.newcK hx hb hown (hts _ cl_11_34) (hts _ zn_1.1) (hts _ zn_1.2) rfl hd1 (by omega) (by show 0 + 3 ≤ _; omega) hKn.2.1 rfl fun H1 kC hkC e1 z1 o1 => ?_
  rw [hH]
  rw [hH] at e1 z1 o1
  refine lv_dup hx hb hd2 rfl ?_
  generalize hh : X.ad X.2.2.1.2.2.2 = h0 at *
  have hpre : zBw X.2.2.1.1 X.2.2.1.2.1 (fun i => h0 + i) [fk_1] zz0 H1 := by
    refine ⟨z1, fun j k hj => ?_⟩
    cases j with
    | zero =>
      cases hj
      exact ⟨_, zc_1, (u_born tyX1 hts hin_1 hKn hkC e1 tyX1_ok).to (zf_1 _)⟩
    | succ j => simp at hj
  have hle := hS.1
  have hS1 : va_S X.2.2.2.1 X.1.2.2.2.2.heap H1 locs := ⟨by omega, fun q h1 h2 => (o1 q (by omega)).trans (hS.2.1 q h1 h2), hS.2.2⟩
  have hfree : ∀ q, h0 ≤ q → X.2.2.2.1 q := fun q hq => hA q (by omega)
  refine va_callv (va_runIN (As := []) (rest := .ref h0 :: st) ⟨hx, hb, hml, hown, hts⟩ (c_Moment_init X.1.2.1 (X.2.2.1.1, X.2.2.1.2.1) h0) ⟨va_cnB 0 hts (zT_code w_Moment_init.2.2) rfl rfl rfl (hE.2.2.2.2.2.2.2.2.2.2 ("CanalKeeper", 36, yX1_init, "CanalKeeper") (by decide +kernel)) (hts _ w_Moment_init.2.1) hy_Moment_init hR, rfl, hts _ w_Moment_init.1⟩ ⟨ZiV_blind, fun U hU hW => ⟨rfl, by rw [hU]; exact hpre, va_K.moved hW.alike hK, fun q hq => va_Nw.warmM hW (hE.2.2.2.2.2.2.2.2.2.2 q hq), zAO.moved hW.alike hAO⟩⟩ rfl rfl (by rw [hl.1, hnl]) rfl (lv_room hrest) hd3 ⟨by show 0 + 1 + 24 ≤ _; omega, by show 0 + 3 + 1661 ≤ _; omega⟩) hS1 (fun q _ h => hfree q h) hfree (fun u t H2 locs1 ht hvm hr hB hz1 hk1 hS2 => ?_)
  have hB1 : zBw X.2.2.1.1 X.2.2.1.2.1 (fun i => h0 + i) ks_Moment_init zz0 H2 := by rw [← ht]; exact hB
  have hP2 : va_P X.2.2.1.1 zcl (zwl X.2.2.1.2.1 X.2.2.1.2.2.1 (X.2.2.1.2.2.2 + 25) (zzn σ X.2.2.1.2.2.2)) H2 := by
    intro k q hk
    by_cases hkn : k < X.2.2.1.2.2.2 + 25
    · rw [zwl_get hkn] at hk
      cases hk
      by_cases hk0 : k < X.2.2.1.2.2.2
      · rw [show zzn σ X.2.2.1.2.2.2 k = σ k from if_neg (by omega)]
        have h5 := hP k _ (zwl_get (cs := X.2.2.1.2.1) (ad := X.2.2.1.2.2.1) (σ := σ) hk0)
        have h6 := h5.lt
        have h7 : X.2.2.1.2.2.1 k < h0 := by rw [← hH]; exact h6
        exact h5.kept ((hk1 _ (by rw [z1]; show X.2.2.1.2.2.1 k < h0 + 1; omega) (by show ¬ h0 ≤ X.2.2.1.2.2.1 k; omega)).trans (o1 _ h7))
      · obtain ⟨j, rfl⟩ : ∃ j, k = X.2.2.1.2.2.2 + j := ⟨k - X.2.2.1.2.2.2, by omega⟩
        have hj : j < 25 := by omega
        rw [show zzn σ X.2.2.1.2.2.2 (X.2.2.1.2.2.2 + j) = fun _ => 0 from if_pos (by omega)]
        have hjl : j < ks_Moment_init.length := by rw [zks_M.1]; exact hj
        have h5 := hB1.2 j _ (List.getElem?_eq_getElem hjl)
        have hadj : ∀ i, i < 25 → h0 + i = X.ad (X.2.2.1.2.2.2 + i) := fun i hi => by
          have e1 := har (X.2.2.1.2.2.2 + i) (by omega)
          have e2 := har X.2.2.1.2.2.2 (by omega)
          omega
        have h6 : kd (X.2.2.1.2.2.2 + j) = zsh X.2.2.1.2.2.2 ks_Moment_init[j] := by
          rw [kd_mom (by have := hN0; omega) hal hj, zKM_ks, List.getD_eq_getElem?_getD, List.getElem?_map, List.getElem?_eq_getElem hjl]
          rfl
        rw [h6]
        rw [show zz0 j = fun _ => 0 from rfl, zce_shb (ad := X.2.2.1.2.2.1) (m := X.2.2.1.2.2.2) (B := 25) hadj _ (zks_M.2 _ (List.getElem_mem hjl))] at h5
        rw [show X.2.2.1.2.2.1 (X.2.2.1.2.2.2 + j) = h0 + j from (hadj j hj).symm]
        exact h5
    · rw [List.getElem?_eq_none (by simp [zwl]; omega)] at hk
      cases hk
  exact kk (zX_ok ok har (by omega) (by omega) hn) H2 locs1 ls hP2 hS2 hl
end ZN
