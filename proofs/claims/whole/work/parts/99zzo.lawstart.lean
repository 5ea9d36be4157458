theorem clL_7 : Cond.classLink R_law 7 RX11 ∈ zT := zT_of (i := 143) (by decide +kernel) rfl
theorem clL_10 : Cond.classLink R_law 10 RX12 ∈ zT := zT_of (i := 1393) (by decide +kernel) rfl
theorem mlL_9 : Cond.methodLink R_law 9 yX11_init ∈ zT := zT_of (i := 145) (by decide +kernel) rfl
theorem mlL_12 : Cond.methodLink R_law 12 yX12_init ∈ zT := zT_of (i := 1395) (by decide +kernel) rfl
theorem zBw_born {ws : List Cond} {s : State} {args : Array Value} {D : va_G} {cs : Nat → ClassId} {h : Nat} {C : String} {T : u_T} {n ci : Nat} {sl : List (Option (Option Nat))} {kC : Class} {H : Heap} (hc : zcl[ci]? = some (C, T, n)) (ty : Nat → FieldType) (hts : ∀ w, w ∈ ws → w.before args s = true) (hin : ∀ w, w ∈ u_ws C T n → w ∈ ws) (hK : u_Kn s C T n (D.1 ci) (D.2 ci)) (hkC : s.vm.classes[D.1 ci]? = some kC) (e1 : H[h]? = some (blank (D.1 ci) kC)) (hty : ∀ k, k < n → parseFieldDescriptor (T k).2.2.1 = some (ty k)) (hfs : ∀ (ad : Nat → Nat) (j : Nat), j < n → defaultValue (ty j) = vp_V (sl.mapIdx (zvl ad (fun _ => 0))) j) (z1 : H.size = h + 1) : zBw D cs (fun i => h + i) [.inl (ci, sl)] zz0 H := by
  refine ⟨z1, fun j k hj => ?_⟩
  cases j with
  | zero => cases hj; exact ⟨_, hc, (u_born ty hts hin hK hkC e1 hty).to (hfs _)⟩
  | succ j => simp at hj
set_option maxHeartbeats 4000000 in
theorem lw_start {p : Program} {e : Env} {s : State} {m : MethodId} {below : List Frame} {meth : Method} {c : Code} (l : Launch) {b L : Nat} {xs : Nat → Int32} (hL : L ≤ 3072) (C0 : lw_At p s m meth c b L xs) {f : Nat} (hp : Lw_run xs L f 0 198 lw_s0 = some ()) : W p l e room_1 s m #[Value.ref b] below meth c s.heap [] 0 0 (lw_Z below #[Value.ref b] s) (entryFrame m ([Value.ref b] : List Value).toArray 4) := by
  obtain ⟨hx, hb, hr, hml, hown, hts, hX, hbl, hlocks, hgv⟩ := id C0
  have htb : ∀ w ∈ tables_1, w.before #[Value.ref b] s = true := fun w hw => hts w (List.mem_append_right _ hw)
  have htz := lw_zT hts
  obtain ⟨D, cs, hK, hAO⟩ := lw_K0 hts htb
  obtain ⟨u, hu⟩ := lw_env htb hgv
  have hNW : zNW s := fun q hq => va_tabs rfl rfl (htb _ (lw_m6.2 q hq))
  have hl := lv_entry ([.ref b]) (n := 4) (Nat.le_of_ble_eq_true rfl)
  rw [lg_entry_eq]
  generalize (lg_sl ([.ref b]) ++ List.replicate (4 - (lg_sl ([.ref b])).length) Slot.unset).toArray = ls at hl ⊢
  have hl : lv_has ls 4 [(0, .ref b)] := hl
  have hA : ∀ q : Nat, s.heap.size ≤ q → (fun q : Nat => s.heap.size ≤ q) q := fun _ h => h
  have hS0 : va_S (fun q : Nat => s.heap.size ≤ q) s.heap s.heap [] := va_S.rf
  have hKn := hK.1 11 _ zc_11
  have hKm := hK.1 12 _ zc_12
  refine W.newcK hx hb hown (htz _ clL_7) (htz _ zn_11.1) (htz _ zn_11.2) rfl dL_law_0 (Nat.le_of_ble_eq_true rfl) (Nat.le_of_ble_eq_true rfl) hKn.2.1 rfl fun H1 kC hkC e1 z1 o1 => ?_
  refine lv_dup hx hb dL_law_3 rfl ?_
  have hpre1 : zBw D cs (fun i => s.heap.size + i) [fk_11] zz0 H1 := zBw_born zc_11 tyX11 htz hin_11 hKn hkC e1 tyX11_ok zf_11 z1
  have hS1 : va_S (fun q : Nat => s.heap.size ≤ q) s.heap H1 [] := ⟨by omega, fun q h1 h2 => o1 q h1, fun _ h => by cases h⟩
  refine va_callv (va_runI (As := []) (rest := [.ref s.heap.size]) ⟨hx, hb, hml, hown, htz⟩ (c_CK_init l (D, cs) s.heap.size) (cwI 0 htz (zT_code w_CK_init.2.2) rfl rfl rfl (htz _ w_CK_init.2.1) (htz _ mlL_9) (htz _ w_CK_init.1) rfl hy_CK_init ⟨Nat.le_of_ble_eq_true rfl, Nat.le_of_ble_eq_true rfl⟩) ⟨ZiV_blind, fun U hU hW => ⟨rfl, by rw [hU]; exact hpre1, va_K.moved hW.alike hK, fun q hq => va_Nw.warmM hW (hNW q hq), zAO.moved hW.alike hAO⟩⟩ rfl rfl hl.1 rfl (lv_room (Nat.le_of_ble_eq_true rfl)) dL_law_4 ⟨Nat.le_of_ble_eq_true rfl, Nat.le_of_ble_eq_true rfl⟩) hS1 (fun q _ h => h) (fun q h => h) (fun u1 t1 H2 locs2 ht1 hvm1 hr1 hB1 hz1 hk1 hS2 => ?_)
  have hB1 : zBw D cs (fun i => s.heap.size + i) ks_CK_init sg_CK_init H2 := by rw [← ht1]; exact hB1
  have hz2 : H2.size = s.heap.size + 171 := by rw [hB1.1, lw_kd1.1]
  refine lv_astore_n (lv' := [(1, .ref s.heap.size), (0, .ref b)]) hx hb dL_law_7 rfl hl (by decide) rfl (fun ls hl => ?_)
  refine W.newcK hx hb hown (htz _ clL_10) (htz _ zn_12.1) (htz _ zn_12.2) rfl dL_law_8 (Nat.le_of_ble_eq_true rfl) (Nat.le_of_ble_eq_true rfl) hKm.2.1 hz2 fun H3 kM hkM e3 z3 o3 => ?_
  refine lv_dup hx hb dL_law_11 rfl ?_
  have hpre2 : zBw D cs (fun i => s.heap.size + 171 + i) [fk_12] zz0 H3 := zBw_born zc_12 tyX12 htz hin_12 hKm hkM e3 tyX12_ok zf_12 z3
  have hS3 : va_S (fun q : Nat => s.heap.size ≤ q) s.heap H3 locs2 := ⟨by omega, fun q h1 h2 => (o3 q (by omega)).trans (hS2.2.1 q h1 h2), hS2.2.2⟩
  refine va_callv (va_runI (As := []) (rest := [.ref (s.heap.size + 171)]) ⟨hx, hb, hml, hown, htz⟩ (c_M_init l (D, cs) (s.heap.size + 171)) (cwI 0 htz (zT_code w_M_init.2.2) rfl rfl rfl (htz _ w_M_init.2.1) (htz _ mlL_12) (htz _ w_M_init.1) rfl hy_M_init ⟨Nat.le_of_ble_eq_true rfl, Nat.le_of_ble_eq_true rfl⟩) ⟨ZiV_blind, fun U hU hW => ⟨rfl, by rw [hU]; exact hpre2, va_K.moved hW.alike hK, fun q hq => va_Nw.warmM hW (hNW q hq), zAO.moved hW.alike hAO⟩⟩ rfl rfl hl.1 rfl (lv_room (Nat.le_of_ble_eq_true rfl)) dL_law_12 ⟨Nat.le_of_ble_eq_true rfl, Nat.le_of_ble_eq_true rfl⟩) hS3 (fun q _ h => by have h9 : s.heap.size + 171 ≤ q := h; show s.heap.size ≤ q; omega) (fun q h => by have h9 : s.heap.size + 171 ≤ q := h; show s.heap.size ≤ q; omega) (fun u2 t2 H4 locs4 ht2 hvm2 hr2 hB2 hz4 hk4 hS4 => ?_)
  have hB2 : zBw D cs (fun i => s.heap.size + 171 + i) ks_M_init sg_M_init H4 := by rw [← ht2]; exact hB2
  obtain ⟨ad, had, hadu⟩ : ∃ ad : Nat → Nat, (∀ i, i < 1000000 → ad i = s.heap.size + i) ∧ ∀ i, 1000000 ≤ i → ad i = u i := ⟨fun i => if i < 1000000 then s.heap.size + i else u i, fun i hi => if_pos hi, fun i hi => if_neg (Nat.not_lt.mpr hi)⟩
  have hP : va_P D zcl (zwl cs ad 198 lw_s0) H4 := by
    refine lw_world had (fun j k hj => ?_) hB2.2
    have hj1 : j < 171 := by rw [← lw_kd1.1]; exact (List.getElem?_eq_some_iff.mp hj).1
    refine (hB1.2 j k hj).kept ?_
    show H4[s.heap.size + j]? = H2[s.heap.size + j]?
    rw [hk4 _ (by omega) (by show ¬ s.heap.size + 171 ≤ s.heap.size + j; omega), o3 _ (by omega)]
  refine lv_astore_n (lv' := [(2, .ref (s.heap.size + 171)), (1, .ref s.heap.size), (0, .ref b)]) hx hb dL_law_15 rfl hl (by decide) rfl (fun ls hl => ?_)
  refine lv_iconst (v := 0) hx hb dL_law_16 (by decide) ?_
  refine lv_istore_n (lv' := [(3, .int 0), (2, .ref (s.heap.size + 171)), (1, .ref s.heap.size), (0, .ref b)]) hx hb dL_law_17 rfl hl (by decide) rfl (fun ls hl => ?_)
  have h0 : ad 0 = s.heap.size := had 0 (by decide)
  have h171 : ad 171 = s.heap.size + 171 := had 171 (by decide)
  have hl : lv_has ls 4 [(0, .ref b), (1, .ref (ad 0)), (2, .ref (ad 171)), (3, .int (nI 0))] := by
    rw [h0, h171]
    exact lv_sub hl [3, 2, 1, 0] rfl
  have hoka : Zoka ((p, l, e, room_1, s), (m, #[Value.ref b], below, meth, c), (D, cs, ad, 198), (fun q : Nat => s.heap.size ≤ q), 4) code R_law room_1 198 4 198 :=
    ⟨⟨⟨hx, hb, hml, hown, htz⟩, hK, ⟨fun i j hi hj h => by have hi : i < 198 := hi; have hj : j < 198 := hj; have h : ad i = ad j := h; rw [had i (by omega), had j (by omega)] at h; omega, fun i hi => by have hi : i < 198 := hi; show s.heap.size ≤ ad i; rw [had i (by omega)]; omega⟩, rfl, Nat.le_refl _, fun _ h => h, rfl, hu ad hadu⟩, fun i hi => by show ad i = ad 0 + i; rw [had i hi, h0], hAO, by show s.heap.size + 198 = ad 198; rw [had 198 (by decide)], Nat.le_of_ble_eq_true rfl⟩
  refine lw_loop (X := ((p, l, e, room_1, s), (m, #[Value.ref b], below, meth, c), (D, cs, ad, 198), (fun q : Nat => s.heap.size ≤ q), 4)) (Q := lw_Z below #[Value.ref b] s) (b := b) (LL := L) (xs := xs) h0.symm hX hbl (fun h => Nat.not_le_of_lt hbl h) hL ?_ f 0 198 198 48132 lw_s0 hp (Nat.zero_le _) hoka (Nat.le_of_ble_eq_true rfl) (Nat.le_of_ble_eq_true rfl) H4 locs4 ls hP hS4 hl
  intro n k1 k2 σ lv ok h1 h2 H locs ls hP hS hl
  refine va_forget (fun q hq => hS.2.2 q hq) ?_
  refine W.widen h1 h2 ?_
  refine lv_iconst (v := 1) hx hb dL_law_1461 (by decide) ?_
  exact lw_ret hx hb hr hlocks dL_law_1462
