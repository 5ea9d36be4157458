section ZL
variable {X : Zx} {cc : ByteArray} {own : String} {rm : Room} {N nL : Nat} {Q : State → Prop} {k1 k2 pc n' b LL : Nat} {xs : Nat → Int32} {σ σ' : Sg} {lv : List (Nat × Value)} {st : List Value}
theorem z_sld (ok : Zok X cc own rm N nL) (hX : va_X b LL xs X.1.2.2.2.2 X.1.2.2.2.2.heap) (hbl : b < X.1.2.2.2.2.heap.size) (hbA : ¬ X.2.2.2.1 b) (j : Nat) (hj : j < LL) (hL : LL < 2 ^ 31) {i : Int32} (hi : i = nI j) (hd : decode cc pc = .ok (.iaload, 1)) (kk : ZAt X Q k1 k2 (pc + 1) σ lv (.int (xs j) :: st)) : ZAt X Q k1 k2 pc σ lv (.int i :: .ref b :: st) := by
  subst hi
  intro H locs ls hP hS h
  refine va_sld ok.1.1 ok.1.2.1 hX hbl hbA hS (vp_in_nI hj hL) hd ?_
  rw [nI_clamp (by omega)]
  exact kk H locs ls hP hS h
theorem z_scrl (ok : Zok X cc own rm N nL) (hX : va_X b LL xs X.1.2.2.2.2 X.1.2.2.2.2.heap) (hbl : b < X.1.2.2.2.2.heap.size) (hbA : ¬ X.2.2.2.1 b) (hd : decode cc pc = .ok (.arraylength, 1)) (kk : ZAt X Q k1 k2 (pc + 1) σ lv (.int (nI LL) :: st)) : ZAt X Q k1 k2 pc σ lv (.ref b :: st) :=
  fun H locs ls hP hS h => va_slen ok.1.1 ok.1.2.1 hX hbl hbA hS hd (kk H locs ls hP hS h)
theorem Zoka.freeg (oka : Zoka X cc own rm N nL k1) : ∀ q, Zad X.2.2.1.2.2.1 X.2.2.1.2.2.2 (X.ad X.2.2.1.2.2.2) q → X.2.2.2.1 q := by
  intro q h
  obtain ⟨ok, har, hAO, hsz, hn9⟩ := oka
  rcases h with ⟨i, hi, rfl⟩ | h
  · exact ok.2.2.1.2 i hi
  · exact ok.2.2.2.2.2.1 q (by omega)
theorem zX_okg (oka : Zoka X cc own rm N nL k1) (h1 : X.2.2.1.2.2.2 ≤ n') (h2 : n' ≤ 900000) : Zok (zX X n') cc own rm N nL := by
  obtain ⟨⟨a1, a2, a3, a4, a5, a6, a7, a8⟩, har, hAO, hsz, hn9⟩ := oka
  refine ⟨a1, a2, ⟨fun i j hi hj e => ?_, fun i hi => ?_⟩, a4, Nat.le_trans a5 h1, a6, a7, a8⟩
  · have hi' : i < n' := hi
    have hj' : j < n' := hj
    have e1 := har i (by omega)
    have e2 := har j (by omega)
    have e3 : X.ad i = X.ad j := e
    omega
  · have hi' : i < n' := hi
    by_cases hn : i < X.2.2.1.2.2.2
    · exact a3.2 i hn
    · refine a6 _ ?_
      have e1 := har i (by omega)
      have e2 := har X.2.2.1.2.2.2 (by omega)
      show X.1.2.2.2.2.heap.size ≤ X.ad i
      omega
theorem z_aVg {y : MethodName} {cz : ByteArray} {mL ix : Nat} {ret : FieldType} {rz : Room} {av : (Nat → Nat) → List Value} {w ci : Nat} {sl : List (Option (Option Nat))} {T : u_T} {nF : Nat} {As rest : List Value} {r : Int32} (oka : Zoka X cc own rm N nL k1) (hN : 0 < N) (hnn : X.2.2.1.2.2.2 ≤ n' ∧ n' ≤ 900000) (hk : zk w N (.inl (ci, sl))) (hc : zcl[ci]? = some (y.cls, T, nF)) (hM : ZaI y cz mL ret rz N av X.2.2.1.2.2.2 σ r n' σ') (hav : av X.ad = .ref (X.ad w) :: As) (hw : zwV own ix y cz mL (some ret)) (hy : y.cls ≠ "java/lang/invoke/MethodHandle" ∧ y.cls ≠ "java/lang/invoke/VarHandle" ∧ (parseMethodDescriptor y.desc).map (fun d => d.parameters.length) = some As.length) (hz : rz.cells = n' - X.2.2.1.2.2.2 ∧ rz.slots = zms (n' - X.2.2.1.2.2.2)) (hR : rz.frames + 1 ≤ rm.frames ∧ 8 + (mL + 11) + rz.locals ≤ rm.locals) (hkR : k1 + (n' - X.2.2.1.2.2.2) ≤ rm.cells ∧ k2 + zms (n' - X.2.2.1.2.2.2) ≤ rm.slots) (hst : st = As.reverse ++ .ref (X.ad w) :: rest) (hrest : (rest.map fun v => v.category).sum ≤ 8) (hd : decode cc pc = .ok (.invokevirtual ix, 3)) (kk : Zoka (zX X n') cc own rm N nL (k1 + (n' - X.2.2.1.2.2.2)) → ZAt (zX X n') Q (k1 + (n' - X.2.2.1.2.2.2)) (k2 + zms (n' - X.2.2.1.2.2.2)) (pc + 3) σ' lv (.int r :: rest)) : ZAt X Q k1 k2 pc σ lv st := by
  obtain ⟨ok, har, hAO, hsz, hn9⟩ := id oka
  refine z_size ok har hsz hN hn9 (fun H locs ls hP hH hS hl => ?_)
  have okx := zX_okg oka hnn.1 hnn.2
  have e1 := har X.2.2.1.2.2.2 (by omega)
  have e2 := har n' (by omega)
  obtain ⟨⟨hx, hb, hml, hown, hts⟩, hK, hI, hR0, hN0, hA, hnl, hE⟩ := id ok
  subst hR0
  have he := zwl_get (cs := X.2.2.1.2.1) (ad := X.2.2.1.2.2.1) (σ := σ) (ok.lt hk.2)
  rw [hk.1] at he
  have hM1 := hM X.1.2.1 (X.2.2.1.1, X.2.2.1.2.1) X.ad
  rw [hav] at hM1
  refine va_calli (va_runV (As := As) (rest := rest) ⟨hx, hb, hml, hown, hts⟩ hM1 (cwV As.length hts (zwV_good hw) rfl hz.1 hz.2 ⟨rfl, hy⟩ hR) ⟨Zpa_blind, va_recv hK hP hc he, fun U hU hW => ⟨rfl, ⟨by rw [hU]; exact hP, va_K.moved hW.alike hK, hI.1, hN0⟩, hE.call hS hW hU oka.freeg, zAO.moved hW.alike hAO, har, by rw [hU]; exact hH, hn9⟩⟩ (g := F0 X.2.1.1 pc ls st) rfl rfl (by rw [hl.1, hnl]) hst (lv_room hrest) hd hkR) hS (fun q _ h => oka.freeg q h) oka.freeg (fun r1 u t H1 locs1 ht hvm hr hB hz1 hk1 hS1 => ?_)
  subst hr
  exact kk ⟨okx, har, hAO, by show X.1.2.2.2.2.heap.size + (k1 + (n' - X.2.2.1.2.2.2)) = X.ad n'; omega, hnn.2⟩ H1 locs1 ls (by rw [← ht]; exact hB.1.1) hS1 hl
end ZL
theorem nI_ad (i k : Nat) : nI i + nI k = nI (i + k) := nI_add i k
theorem mlL_13 : Cond.methodLink R_law 13 yX11_feed ∈ zT := zT_of (i := 623) (by decide +kernel) rfl
theorem mlL_17 : Cond.methodLink R_law 17 yX12_feed ∈ zT := zT_of (i := 1547) (by decide +kernel) rfl
theorem mlL_18 : Cond.methodLink R_law 18 yX11_end ∈ zT := zT_of (i := 635) (by decide +kernel) rfl
theorem mlL_22 : Cond.methodLink R_law 22 yX12_end ∈ zT := zT_of (i := 1559) (by decide +kernel) rfl
theorem mlL_23 : Cond.methodLink R_law 23 yX11_canal ∈ zT := zT_of (i := 643) (by decide +kernel) rfl
theorem mlL_27 : Cond.methodLink R_law 27 yX12_canal ∈ zT := zT_of (i := 1567) (by decide +kernel) rfl
theorem mlL_28 : Cond.methodLink R_law 28 yX11_fault ∈ zT := zT_of (i := 866) (by decide +kernel) rfl
theorem mlL_32 : Cond.methodLink R_law 32 yX12_fault ∈ zT := zT_of (i := 1670) (by decide +kernel) rfl
theorem mlL_33 : Cond.methodLink R_law 33 yX11_has ∈ zT := zT_of (i := 870) (by decide +kernel) rfl
theorem mlL_36 : Cond.methodLink R_law 36 yX12_has ∈ zT := zT_of (i := 1674) (by decide +kernel) rfl
theorem mlL_37 : Cond.methodLink R_law 37 yX11_letter ∈ zT := zT_of (i := 889) (by decide +kernel) rfl
theorem mlL_41 : Cond.methodLink R_law 41 yX12_letter ∈ zT := zT_of (i := 1686) (by decide +kernel) rfl
theorem mlL_42 : Cond.methodLink R_law 42 yX11_named ∈ zT := zT_of (i := 904) (by decide +kernel) rfl
theorem mlL_45 : Cond.methodLink R_law 45 yX12_named ∈ zT := zT_of (i := 1698) (by decide +kernel) rfl
theorem mlL_46 : Cond.methodLink R_law 46 yX11_pool ∈ zT := zT_of (i := 916) (by decide +kernel) rfl
theorem mlL_50 : Cond.methodLink R_law 50 yX12_pool ∈ zT := zT_of (i := 1702) (by decide +kernel) rfl
theorem mlL_51 : Cond.methodLink R_law 51 yX11_gate ∈ zT := zT_of (i := 924) (by decide +kernel) rfl
theorem mlL_54 : Cond.methodLink R_law 54 yX12_gate ∈ zT := zT_of (i := 1714) (by decide +kernel) rfl
theorem mlL_55 : Cond.methodLink R_law 55 yX11_row ∈ zT := zT_of (i := 967) (by decide +kernel) rfl
theorem mlL_58 : Cond.methodLink R_law 58 yX12_row ∈ zT := zT_of (i := 1748) (by decide +kernel) rfl
theorem mlL_59 : Cond.methodLink R_law 59 yX11_outlet ∈ zT := zT_of (i := 975) (by decide +kernel) rfl
theorem mlL_62 : Cond.methodLink R_law 62 yX12_outlet ∈ zT := zT_of (i := 1752) (by decide +kernel) rfl
theorem mlL_63 : Cond.methodLink R_law 63 yX11_order ∈ zT := zT_of (i := 979) (by decide +kernel) rfl
theorem mlL_66 : Cond.methodLink R_law 66 yX12_order ∈ zT := zT_of (i := 1756) (by decide +kernel) rfl
theorem mlL_67 : Cond.methodLink R_law 67 yX11_opens ∈ zT := zT_of (i := 991) (by decide +kernel) rfl
theorem mlL_70 : Cond.methodLink R_law 70 yX12_opens ∈ zT := zT_of (i := 1760) (by decide +kernel) rfl
theorem mlL_71 : Cond.methodLink R_law 71 yX11_load ∈ zT := zT_of (i := 998) (by decide +kernel) rfl
theorem mlL_74 : Cond.methodLink R_law 74 yX12_load ∈ zT := zT_of (i := 1764) (by decide +kernel) rfl
theorem mlL_75 : Cond.methodLink R_law 75 yX11_account ∈ zT := zT_of (i := 1002) (by decide +kernel) rfl
theorem mlL_78 : Cond.methodLink R_law 78 yX12_account ∈ zT := zT_of (i := 1768) (by decide +kernel) rfl
theorem mlL_79 : Cond.methodLink R_law 79 yX11_event ∈ zT := zT_of (i := 1011) (by decide +kernel) rfl
theorem mlL_82 : Cond.methodLink R_law 82 yX12_event ∈ zT := zT_of (i := 1780) (by decide +kernel) rfl
theorem mlL_83 : Cond.methodLink R_law 83 yX11_rank ∈ zT := zT_of (i := 1045) (by decide +kernel) rfl
theorem mlL_86 : Cond.methodLink R_law 86 yX12_rank ∈ zT := zT_of (i := 1792) (by decide +kernel) rfl
theorem mlL_87 : Cond.methodLink R_law 87 yX11_alarm ∈ zT := zT_of (i := 1060) (by decide +kernel) rfl
theorem mlL_90 : Cond.methodLink R_law 90 yX12_alarm ∈ zT := zT_of (i := 1800) (by decide +kernel) rfl
theorem mlL_91 : Cond.methodLink R_law 91 yX11_alarms ∈ zT := zT_of (i := 1069) (by decide +kernel) rfl
theorem mlL_94 : Cond.methodLink R_law 94 yX12_alarms ∈ zT := zT_of (i := 1804) (by decide +kernel) rfl
theorem mlL_95 : Cond.methodLink R_law 95 yX11_flow ∈ zT := zT_of (i := 1078) (by decide +kernel) rfl
theorem mlL_98 : Cond.methodLink R_law 98 yX12_flow ∈ zT := zT_of (i := 1808) (by decide +kernel) rfl
theorem mlL_99 : Cond.methodLink R_law 99 yX11_missing ∈ zT := zT_of (i := 1086) (by decide +kernel) rfl
theorem mlL_102 : Cond.methodLink R_law 102 yX12_missing ∈ zT := zT_of (i := 1812) (by decide +kernel) rfl
theorem mlL_103 : Cond.methodLink R_law 103 yX11_later ∈ zT := zT_of (i := 1091) (by decide +kernel) rfl
theorem mlL_106 : Cond.methodLink R_law 106 yX12_later ∈ zT := zT_of (i := 1817) (by decide +kernel) rfl
theorem mlL_107 : Cond.methodLink R_law 107 yX11_opening ∈ zT := zT_of (i := 1171) (by decide +kernel) rfl
theorem mlL_110 : Cond.methodLink R_law 110 yX12_opening ∈ zT := zT_of (i := 1881) (by decide +kernel) rfl
theorem mlL_111 : Cond.methodLink R_law 111 yX11_when ∈ zT := zT_of (i := 1175) (by decide +kernel) rfl
theorem mlL_114 : Cond.methodLink R_law 114 yX12_when ∈ zT := zT_of (i := 1885) (by decide +kernel) rfl
theorem mlL_115 : Cond.methodLink R_law 115 yX11_lacks ∈ zT := zT_of (i := 1185) (by decide +kernel) rfl
theorem mlL_118 : Cond.methodLink R_law 118 yX12_lacks ∈ zT := zT_of (i := 1889) (by decide +kernel) rfl
theorem mlL_119 : Cond.methodLink R_law 119 yX11_least ∈ zT := zT_of (i := 1189) (by decide +kernel) rfl
theorem mlL_122 : Cond.methodLink R_law 122 yX12_least ∈ zT := zT_of (i := 1901) (by decide +kernel) rfl
theorem mlL_123 : Cond.methodLink R_law 123 yX11_gain ∈ zT := zT_of (i := 1205) (by decide +kernel) rfl
theorem mlL_126 : Cond.methodLink R_law 126 yX12_gain ∈ zT := zT_of (i := 1905) (by decide +kernel) rfl
theorem mlL_127 : Cond.methodLink R_law 127 yX11_best ∈ zT := zT_of (i := 1222) (by decide +kernel) rfl
theorem mlL_130 : Cond.methodLink R_law 130 yX12_best ∈ zT := zT_of (i := 1914) (by decide +kernel) rfl
theorem mlL_131 : Cond.methodLink R_law 131 yX11_fits ∈ zT := zT_of (i := 1231) (by decide +kernel) rfl
theorem mlL_134 : Cond.methodLink R_law 134 yX12_fits ∈ zT := zT_of (i := 1918) (by decide +kernel) rfl
theorem mlL_135 : Cond.methodLink R_law 135 yX11_see ∈ zT := zT_of (i := 1246) (by decide +kernel) rfl
theorem mlL_138 : Cond.methodLink R_law 138 yX12_see ∈ zT := zT_of (i := 1926) (by decide +kernel) rfl
theorem mlL_139 : Cond.methodLink R_law 139 yX11_leaks ∈ zT := zT_of (i := 1258) (by decide +kernel) rfl
theorem mlL_142 : Cond.methodLink R_law 142 yX12_leaks ∈ zT := zT_of (i := 1930) (by decide +kernel) rfl
theorem mlL_143 : Cond.methodLink R_law 143 yX11_tells ∈ zT := zT_of (i := 1273) (by decide +kernel) rfl
theorem mlL_146 : Cond.methodLink R_law 146 yX12_tells ∈ zT := zT_of (i := 1938) (by decide +kernel) rfl
theorem mlL_147 : Cond.methodLink R_law 147 yX11_steps ∈ zT := zT_of (i := 1288) (by decide +kernel) rfl
theorem mlL_150 : Cond.methodLink R_law 150 yX12_steps ∈ zT := zT_of (i := 1942) (by decide +kernel) rfl
theorem mlL_151 : Cond.methodLink R_law 151 yX11_chance ∈ zT := zT_of (i := 1344) (by decide +kernel) rfl
theorem mlL_154 : Cond.methodLink R_law 154 yX12_chance ∈ zT := zT_of (i := 1950) (by decide +kernel) rfl
theorem mlL_155 : Cond.methodLink R_law 155 yX11_ask ∈ zT := zT_of (i := 1348) (by decide +kernel) rfl
theorem mlL_158 : Cond.methodLink R_law 158 yX12_ask ∈ zT := zT_of (i := 1965) (by decide +kernel) rfl
theorem mlL_159 : Cond.methodLink R_law 159 yX11_cancel ∈ zT := zT_of (i := 1353) (by decide +kernel) rfl
theorem mlL_162 : Cond.methodLink R_law 162 yX12_cancel ∈ zT := zT_of (i := 1969) (by decide +kernel) rfl
theorem mlL_163 : Cond.methodLink R_law 163 yX11_hand ∈ zT := zT_of (i := 1361) (by decide +kernel) rfl
theorem mlL_167 : Cond.methodLink R_law 167 yX12_hand ∈ zT := zT_of (i := 1973) (by decide +kernel) rfl
theorem mlL_168 : Cond.methodLink R_law 168 yX11_set ∈ zT := zT_of (i := 1365) (by decide +kernel) rfl
theorem mlL_172 : Cond.methodLink R_law 172 yX12_set ∈ zT := zT_of (i := 1977) (by decide +kernel) rfl
theorem mlL_173 : Cond.methodLink R_law 173 yX11_undo ∈ zT := zT_of (i := 1381) (by decide +kernel) rfl
theorem mlL_177 : Cond.methodLink R_law 177 yX12_undo ∈ zT := zT_of (i := 1981) (by decide +kernel) rfl
theorem mlL_178 : Cond.methodLink R_law 178 yX11_seed ∈ zT := zT_of (i := 1385) (by decide +kernel) rfl
theorem mlL_181 : Cond.methodLink R_law 181 yX12_seed ∈ zT := zT_of (i := 1985) (by decide +kernel) rfl
theorem mlL_182 : Cond.methodLink R_law 182 yX11_status ∈ zT := zT_of (i := 1389) (by decide +kernel) rfl
theorem mlL_185 : Cond.methodLink R_law 185 yX12_status ∈ zT := zT_of (i := 1989) (by decide +kernel) rfl
/-- what the loop needs behind a call -/
def lw_K (X : Zx) (Q : State → Prop) (b i : Nat) (s : Nat × Sg) : Prop := ∀ (n' k1 k2 : Nat) (σ' : Sg), Zoka (zX X n') code R_law room_1 198 4 k1 → k2 ≤ 48132 + 67 * (n' - 198) → s = (n', σ') → ZAt (zX X n') Q k1 k2 1455 σ' [(0, .ref b), (1, .ref (X.ad 0)), (2, .ref (X.ad 171)), (3, .int (nI i))] []
theorem lw_room {n r k2 : Nat} (h : r = n ∨ r = n + 25) (hk : k2 ≤ 48132 + 67 * (n - 198)) : zms (r - n) ≤ 1664 ∧ r - n ≤ 25 := by
  rcases h with rfl | rfl
  · rw [Nat.sub_self]; exact ⟨by decide, by decide⟩
  · rw [show n + 25 - n = 25 by omega]; exact ⟨by decide, by decide⟩
theorem lw_slots {n r k2 : Nat} (hn : 198 ≤ n) (h : r = n ∨ r = n + 25) (hk : k2 ≤ 48132 + 67 * (n - 198)) : k2 + zms (r - n) ≤ 48132 + 67 * (r - 198) := by
  rcases h with rfl | rfl
  · rw [Nat.sub_self]; exact hk
  · rw [show n + 25 - n = 25 by omega]
    show k2 + 1664 ≤ _
    omega
def Lw_0 (xs : Nat → Int32) (i n : Nat) (σ : Sg) : Option (Nat × Sg) :=
  (CK_feed σ (xs (i + 1)) (xs (i + 2)) (xs (i + 3)) (xs (i + 4)) (xs (i + 5))).bind fun r =>
  (M_feed r.2 (xs (i + 1)) (xs (i + 2)) (xs (i + 3)) (xs (i + 4)) (xs (i + 5))).bind fun q =>
  if r.1 = q.1 then some (n, q.2) else none
def Lw_1 (xs : Nat → Int32) (i n : Nat) (σ : Sg) : Option (Nat × Sg) :=
  (CK_end σ (xs (i + 1))).bind fun r =>
  (M_end r.2 (xs (i + 1))).bind fun q =>
  if (zb r.1) = (zb q.1) then some (n, q.2) else none
def Lw_2 (xs : Nat → Int32) (i n : Nat) (σ : Sg) : Option (Nat × Sg) :=
  (CK_canal σ).bind fun r =>
  (M_canal r.2).bind fun q =>
  if r.1 = q.1 then some (n, q.2) else none
def Lw_3 (xs : Nat → Int32) (i n : Nat) (σ : Sg) : Option (Nat × Sg) :=
  (CK_fault σ (xs (i + 1))).bind fun r =>
  (M_fault σ (xs (i + 1))).bind fun q =>
  if r = q then some (n, σ) else none
def Lw_4 (xs : Nat → Int32) (i n : Nat) (σ : Sg) : Option (Nat × Sg) :=
  (CK_has σ (xs (i + 1))).bind fun r =>
  (M_has σ (xs (i + 1))).bind fun q =>
  if r = q then some (n, σ) else none
def Lw_5 (xs : Nat → Int32) (i n : Nat) (σ : Sg) : Option (Nat × Sg) :=
  (CK_letter σ (xs (i + 1)) (xs (i + 2)) (xs (i + 3))).bind fun r =>
  (M_letter σ (xs (i + 1)) (xs (i + 2)) (xs (i + 3))).bind fun q =>
  if r = q then some (n, σ) else none
def Lw_6 (xs : Nat → Int32) (i n : Nat) (σ : Sg) : Option (Nat × Sg) :=
  (CK_named σ (xs (i + 1))).bind fun r =>
  (M_named r.2 (xs (i + 1))).bind fun q =>
  if r.1 = q.1 then some (n, q.2) else none
def Lw_7 (xs : Nat → Int32) (i n : Nat) (σ : Sg) : Option (Nat × Sg) :=
  (CK_pool σ (xs (i + 1)) (xs (i + 2))).bind fun r =>
  (M_pool σ (xs (i + 1)) (xs (i + 2))).bind fun q =>
  if r = q then some (n, σ) else none
def Lw_8 (xs : Nat → Int32) (i n : Nat) (σ : Sg) : Option (Nat × Sg) :=
  (CK_gate σ (xs (i + 1)) (xs (i + 2))).bind fun r =>
  (M_gate σ (xs (i + 1)) (xs (i + 2))).bind fun q =>
  if r = q then some (n, σ) else none
def Lw_9 (xs : Nat → Int32) (i n : Nat) (σ : Sg) : Option (Nat × Sg) :=
  (CK_row σ (xs (i + 1)) (xs (i + 2))).bind fun r =>
  (M_row σ (xs (i + 1)) (xs (i + 2))).bind fun q =>
  if r = q then some (n, σ) else none
def Lw_10 (xs : Nat → Int32) (i n : Nat) (σ : Sg) : Option (Nat × Sg) :=
  (CK_outlet σ (xs (i + 1)) (xs (i + 2))).bind fun r =>
  (M_outlet σ (xs (i + 1)) (xs (i + 2))).bind fun q =>
  if r = q then some (n, σ) else none
def Lw_11 (xs : Nat → Int32) (i n : Nat) (σ : Sg) : Option (Nat × Sg) :=
  (CK_order σ (xs (i + 1)) (xs (i + 2))).bind fun r =>
  (M_order σ (xs (i + 1)) (xs (i + 2))).bind fun q =>
  if r = q then some (n, σ) else none
def Lw_12 (xs : Nat → Int32) (i n : Nat) (σ : Sg) : Option (Nat × Sg) :=
  (CK_opens σ (xs (i + 1)) (xs (i + 2))).bind fun r =>
  (M_opens σ (xs (i + 1)) (xs (i + 2))).bind fun q =>
  if r = q then some (n, σ) else none
def Lw_13 (xs : Nat → Int32) (i n : Nat) (σ : Sg) : Option (Nat × Sg) :=
  (CK_load σ (xs (i + 1)) (xs (i + 2))).bind fun r =>
  (M_load σ (xs (i + 1)) (xs (i + 2))).bind fun q =>
  if r = q then some (n, σ) else none
def Lw_14 (xs : Nat → Int32) (i n : Nat) (σ : Sg) : Option (Nat × Sg) :=
  (CK_account σ (xs (i + 1))).bind fun r =>
  (M_account σ (xs (i + 1))).bind fun q =>
  if r = q then some (n, σ) else none
def Lw_15 (xs : Nat → Int32) (i n : Nat) (σ : Sg) : Option (Nat × Sg) :=
  (CK_event σ (xs (i + 1)) (xs (i + 2))).bind fun r =>
  (M_event σ (xs (i + 1)) (xs (i + 2))).bind fun q =>
  if r = q then some (n, σ) else none
def Lw_16 (xs : Nat → Int32) (i n : Nat) (σ : Sg) : Option (Nat × Sg) :=
  (CK_rank σ (xs (i + 1))).bind fun r =>
  (M_rank σ (xs (i + 1))).bind fun q =>
  if r = q then some (n, σ) else none
def Lw_17 (xs : Nat → Int32) (i n : Nat) (σ : Sg) : Option (Nat × Sg) :=
  (CK_alarm σ (xs (i + 1)) (xs (i + 2))).bind fun r =>
  (M_alarm σ (xs (i + 1)) (xs (i + 2))).bind fun q =>
  if r = q then some (n, σ) else none
def Lw_18 (xs : Nat → Int32) (i n : Nat) (σ : Sg) : Option (Nat × Sg) :=
  (CK_alarms σ (xs (i + 1)) (xs (i + 2))).bind fun r =>
  (M_alarms σ (xs (i + 1)) (xs (i + 2))).bind fun q =>
  if r = q then some (n, σ) else none
def Lw_19 (xs : Nat → Int32) (i n : Nat) (σ : Sg) : Option (Nat × Sg) :=
  (CK_flow σ (xs (i + 1)) (xs (i + 2)) (xs (i + 3))).bind fun r =>
  (M_flow σ (xs (i + 1)) (xs (i + 2)) (xs (i + 3))).bind fun q =>
  if r = q then some (n, σ) else none
def Lw_20 (xs : Nat → Int32) (i n : Nat) (σ : Sg) : Option (Nat × Sg) :=
  (CK_missing σ (xs (i + 1)) (xs (i + 2))).bind fun r =>
  (M_missing σ (xs (i + 1)) (xs (i + 2))).bind fun q =>
  if r = q then some (n, σ) else none
def Lw_21 (xs : Nat → Int32) (i n : Nat) (σ : Sg) : Option (Nat × Sg) :=
  (CK_later σ (xs (i + 1)) (xs (i + 2))).bind fun r =>
  (M_later r.2 (xs (i + 1)) (xs (i + 2))).bind fun q =>
  if r.1 = q.1 then some (n, q.2) else none
def Lw_22 (xs : Nat → Int32) (i n : Nat) (σ : Sg) : Option (Nat × Sg) :=
  (CK_opening σ (xs (i + 1)) (xs (i + 2))).bind fun r =>
  (M_opening r.2 (xs (i + 1)) (xs (i + 2))).bind fun q =>
  if r.1 = q.1 then some (n, q.2) else none
def Lw_23 (xs : Nat → Int32) (i n : Nat) (σ : Sg) : Option (Nat × Sg) :=
  (CK_when σ (xs (i + 1)) (xs (i + 2))).bind fun r =>
  (M_when r.2 (xs (i + 1)) (xs (i + 2))).bind fun q =>
  if r.1 = q.1 then some (n, q.2) else none
def Lw_24 (xs : Nat → Int32) (i n : Nat) (σ : Sg) : Option (Nat × Sg) :=
  (CK_lacks σ (xs (i + 1)) (xs (i + 2))).bind fun r =>
  (M_lacks r.2 (xs (i + 1)) (xs (i + 2))).bind fun q =>
  if r.1 = q.1 then some (n, q.2) else none
def Lw_25 (xs : Nat → Int32) (i n : Nat) (σ : Sg) : Option (Nat × Sg) :=
  (CK_least σ (xs (i + 1))).bind fun r =>
  (M_least r.2 (xs (i + 1))).bind fun q =>
  if r.1 = q.1 then some (n, q.2) else none
def Lw_26 (xs : Nat → Int32) (i n : Nat) (σ : Sg) : Option (Nat × Sg) :=
  (CK_gain σ (xs (i + 1)) (xs (i + 2))).bind fun r =>
  (M_gain r.2 (xs (i + 1)) (xs (i + 2))).bind fun q =>
  if r.1 = q.1 then some (n, q.2) else none
def Lw_27 (xs : Nat → Int32) (i n : Nat) (σ : Sg) : Option (Nat × Sg) :=
  (CK_best σ (xs (i + 1)) (xs (i + 2)) (xs (i + 3))).bind fun r =>
  (M_best r.2 (xs (i + 1)) (xs (i + 2)) (xs (i + 3))).bind fun q =>
  if r.1 = q.1 then some (n, q.2) else none
def Lw_28 (xs : Nat → Int32) (i n : Nat) (σ : Sg) : Option (Nat × Sg) :=
  (CK_fits σ (xs (i + 1)) (xs (i + 2))).bind fun r =>
  (M_fits r.2 (xs (i + 1)) (xs (i + 2))).bind fun q =>
  if r.1 = q.1 then some (n, q.2) else none
def Lw_29 (xs : Nat → Int32) (i n : Nat) (σ : Sg) : Option (Nat × Sg) :=
  (CK_see σ (xs (i + 1))).bind fun r =>
  (M_see r.2 (xs (i + 1))).bind fun q =>
  if r.1 = q.1 then some (n, q.2) else none
def Lw_30 (xs : Nat → Int32) (i n : Nat) (σ : Sg) : Option (Nat × Sg) :=
  (CK_leaks σ (xs (i + 1))).bind fun r =>
  (M_leaks r.2 (xs (i + 1))).bind fun q =>
  if r.1 = q.1 then some (n, q.2) else none
def Lw_31 (xs : Nat → Int32) (i n : Nat) (σ : Sg) : Option (Nat × Sg) :=
  (CK_tells σ (xs (i + 1))).bind fun r =>
  (M_tells r.2 (xs (i + 1))).bind fun q =>
  if r.1 = q.1 then some (n, q.2) else none
def Lw_32 (xs : Nat → Int32) (i n : Nat) (σ : Sg) : Option (Nat × Sg) :=
  (CK_steps n σ (xs (i + 1))).bind fun r =>
  if (r.2 = n ∨ r.2 = n + 25) ∧ r.2 ≤ 90000 then
  ((M_steps r.1.2 (xs (i + 1))).bind fun q =>
  if r.1.1 = q.1 then some (r.2, q.2) else none) else none
def Lw_33 (xs : Nat → Int32) (i n : Nat) (σ : Sg) : Option (Nat × Sg) :=
  (CK_chance n σ (xs (i + 1))).bind fun r =>
  if (r.2 = n ∨ r.2 = n + 25) ∧ r.2 ≤ 90000 then
  ((M_chance r.1.2 (xs (i + 1))).bind fun q =>
  if r.1.1 = q.1 then some (r.2, q.2) else none) else none
def Lw_34 (xs : Nat → Int32) (i n : Nat) (σ : Sg) : Option (Nat × Sg) :=
  (CK_ask n σ (xs (i + 1)) (xs (i + 2)) (xs (i + 3))).bind fun r =>
  if (r.2 = n ∨ r.2 = n + 25) ∧ r.2 ≤ 90000 then
  ((M_ask r.1.2 (xs (i + 1)) (xs (i + 2)) (xs (i + 3))).bind fun q =>
  if r.1.1 = q.1 then some (r.2, q.2) else none) else none
def Lw_35 (xs : Nat → Int32) (i n : Nat) (σ : Sg) : Option (Nat × Sg) :=
  (CK_cancel n σ (xs (i + 1))).bind fun r =>
  if (r.2 = n ∨ r.2 = n + 25) ∧ r.2 ≤ 90000 then
  ((M_cancel r.1.2 (xs (i + 1))).bind fun q =>
  if (zb r.1.1) = (zb q.1) then some (r.2, q.2) else none) else none
def Lw_36 (xs : Nat → Int32) (i n : Nat) (σ : Sg) : Option (Nat × Sg) :=
  (CK_hand n σ (xs (i + 1)) (xs (i + 2))).bind fun r =>
  if (r.2 = n ∨ r.2 = n + 25) ∧ r.2 ≤ 90000 then
  ((M_hand r.1.2 (xs (i + 1)) (xs (i + 2))).bind fun q =>
  if (zb r.1.1) = (zb q.1) then some (r.2, q.2) else none) else none
def Lw_37 (xs : Nat → Int32) (i n : Nat) (σ : Sg) : Option (Nat × Sg) :=
  (CK_set n σ (xs (i + 1)) (xs (i + 2)) (xs (i + 3))).bind fun r =>
  if (r.2 = n ∨ r.2 = n + 25) ∧ r.2 ≤ 90000 then
  ((M_set r.1.2 (xs (i + 1)) (xs (i + 2)) (xs (i + 3))).bind fun q =>
  if (zb r.1.1) = (zb q.1) then some (r.2, q.2) else none) else none
def Lw_38 (xs : Nat → Int32) (i n : Nat) (σ : Sg) : Option (Nat × Sg) :=
  (CK_undo n σ).bind fun r =>
  if (r.2 = n ∨ r.2 = n + 25) ∧ r.2 ≤ 90000 then
  ((M_undo r.1.2).bind fun q =>
  if (zb r.1.1) = (zb q.1) then some (r.2, q.2) else none) else none
def Lw_39 (xs : Nat → Int32) (i n : Nat) (σ : Sg) : Option (Nat × Sg) :=
  (CK_seed σ (xs (i + 1))).bind fun r =>
  (M_seed r.2 (xs (i + 1))).bind fun q =>
  if (zb r.1) = (zb q.1) then some (n, q.2) else none
def Lw_40 (xs : Nat → Int32) (i n : Nat) (σ : Sg) : Option (Nat × Sg) :=
  (CK_status σ (xs (i + 1))).bind fun r =>
  (M_status σ (xs (i + 1))).bind fun q =>
  if r = q then some (n, σ) else none
set_option maxRecDepth 20000 in
theorem lw_c0 {X : Zx} {Q : State → Prop} {b LL i k1 k2 : Nat} {xs : Nat → Int32} {σ : Sg} {s : Nat × Sg} (oka : Zoka X code R_law room_1 198 4 k1) (hn1 : k1 = X.2.2.1.2.2.2) (hn2 : X.2.2.1.2.2.2 ≤ 90000) (hk2 : k2 ≤ 48132 + 67 * (X.2.2.1.2.2.2 - 198)) (hX : va_X b LL xs X.1.2.2.2.2 X.1.2.2.2.2.heap) (hbl : b < X.1.2.2.2.2.heap.size) (hbA : ¬ X.2.2.2.1 b) (hL : LL < 2 ^ 31) (hi : i + 6 ≤ LL) (h : Lw_0 xs i X.2.2.1.2.2.2 σ = some s) (kk : lw_K X Q b i s) : ZAt X Q k1 k2 212 σ [(0, .ref b), (1, .ref (X.ad 0)), (2, .ref (X.ad 171)), (3, .int (nI i))] [] := by
  unfold Lw_0 at h
  have ok := oka.1
  have ok0 := oka.1
  have hkR : k1 ≤ room_1.cells ∧ k2 ≤ room_1.slots := ⟨by show k1 ≤ 600000; omega, by show k2 ≤ 7302250; omega⟩
  refine z_aload_n ok dL_law_212 1 rfl ?_
  refine z_aload_n ok dL_law_213 0 rfl ?_
  refine z_iload_n ok dL_law_214 3 rfl ?_
  refine z_iconst (v := nI 1) ok dL_law_215 (by decide) ?_
  refine z_iadd ok dL_law_216 ?_
  refine z_sld ok hX hbl hbA (i + 1) (by omega) hL (nI_ad i 1) dL_law_217 ?_
  refine z_aload_n ok dL_law_218 0 rfl ?_
  refine z_iload_n ok dL_law_219 3 rfl ?_
  refine z_iconst (v := nI 2) ok dL_law_220 (by decide) ?_
  refine z_iadd ok dL_law_221 ?_
  refine z_sld ok hX hbl hbA (i + 2) (by omega) hL (nI_ad i 2) dL_law_222 ?_
  refine z_aload_n ok dL_law_223 0 rfl ?_
  refine z_iload_n ok dL_law_224 3 rfl ?_
  refine z_iconst (v := nI 3) ok dL_law_225 (by decide) ?_
  refine z_iadd ok dL_law_226 ?_
  refine z_sld ok hX hbl hbA (i + 3) (by omega) hL (nI_ad i 3) dL_law_227 ?_
  refine z_aload_n ok dL_law_228 0 rfl ?_
  refine z_iload_n ok dL_law_229 3 rfl ?_
  refine z_iconst (v := nI 4) ok dL_law_230 (by decide) ?_
  refine z_iadd ok dL_law_231 ?_
  refine z_sld ok hX hbl hbA (i + 4) (by omega) hL (nI_ad i 4) dL_law_232 ?_
  refine z_aload_n ok dL_law_233 0 rfl ?_
  refine z_iload_n ok dL_law_234 3 rfl ?_
  refine z_iconst (v := nI 5) ok dL_law_235 (by decide) ?_
  refine z_iadd ok dL_law_236 ?_
  refine z_sld ok hX hbl hbA (i + 5) (by omega) hL (nI_ad i 5) dL_law_237 ?_
  obtain ⟨r, hr, h⟩ := zbind h
  refine z_cV (As := [.int (xs (i + 1)), .int (xs (i + 2)), .int (xs (i + 3)), .int (xs (i + 4)), .int (xs (i + 5))]) (rest := []) (w := 0) ok kc_0 zc_11 (c_CK_feed hr) rfl ⟨mlL_13, w_CK_feed⟩ hy_CK_feed ⟨rfl, rfl⟩ ⟨Nat.le_of_ble_eq_true rfl, Nat.le_of_ble_eq_true rfl⟩ hkR rfl (Nat.le_of_ble_eq_true rfl) dL_law_238 ?_
  refine z_aload_n ok dL_law_241 2 rfl ?_
  refine z_aload_n ok dL_law_242 0 rfl ?_
  refine z_iload_n ok dL_law_243 3 rfl ?_
  refine z_iconst (v := nI 1) ok dL_law_244 (by decide) ?_
  refine z_iadd ok dL_law_245 ?_
  refine z_sld ok hX hbl hbA (i + 1) (by omega) hL (nI_ad i 1) dL_law_246 ?_
  refine z_aload_n ok dL_law_247 0 rfl ?_
  refine z_iload_n ok dL_law_248 3 rfl ?_
  refine z_iconst (v := nI 2) ok dL_law_249 (by decide) ?_
  refine z_iadd ok dL_law_250 ?_
  refine z_sld ok hX hbl hbA (i + 2) (by omega) hL (nI_ad i 2) dL_law_251 ?_
  refine z_aload_n ok dL_law_252 0 rfl ?_
  refine z_iload_n ok dL_law_253 3 rfl ?_
  refine z_iconst (v := nI 3) ok dL_law_254 (by decide) ?_
  refine z_iadd ok dL_law_255 ?_
  refine z_sld ok hX hbl hbA (i + 3) (by omega) hL (nI_ad i 3) dL_law_256 ?_
  refine z_aload_n ok dL_law_257 0 rfl ?_
  refine z_iload_n ok dL_law_258 3 rfl ?_
  refine z_iconst (v := nI 4) ok dL_law_259 (by decide) ?_
  refine z_iadd ok dL_law_260 ?_
  refine z_sld ok hX hbl hbA (i + 4) (by omega) hL (nI_ad i 4) dL_law_261 ?_
  refine z_aload_n ok dL_law_262 0 rfl ?_
  refine z_iload_n ok dL_law_263 3 rfl ?_
  refine z_iconst (v := nI 5) ok dL_law_264 (by decide) ?_
  refine z_iadd ok dL_law_265 ?_
  refine z_sld ok hX hbl hbA (i + 5) (by omega) hL (nI_ad i 5) dL_law_266 ?_
  obtain ⟨q, hq, h⟩ := zbind h
  refine z_cV (As := [.int (xs (i + 1)), .int (xs (i + 2)), .int (xs (i + 3)), .int (xs (i + 4)), .int (xs (i + 5))]) (rest := [.int r.1]) (w := 171) ok kc_171 zc_12 (c_M_feed hq) rfl ⟨mlL_17, w_M_feed⟩ hy_M_feed ⟨rfl, rfl⟩ ⟨Nat.le_of_ble_eq_true rfl, Nat.le_of_ble_eq_true rfl⟩ hkR rfl (Nat.le_of_ble_eq_true rfl) dL_law_267 ?_
  by_cases he : r.1 = q.1
  case neg => rw [if_neg he] at h; cases h
  case pos =>
    rw [if_pos he] at h
    obtain rfl := Option.some.inj h
    refine z_icmp_eq (α := Unit) (out := ()) (a := some ()) (b := none) (tgt := 1455) ok dL_law_270 (by decide) (if_pos he) (fun _ _ => ?_) (fun h9 _ => absurd he h9)
    exact kk _ _ _ _ oka hk2 rfl
set_option maxRecDepth 20000 in
theorem lw_c1 {X : Zx} {Q : State → Prop} {b LL i k1 k2 : Nat} {xs : Nat → Int32} {σ : Sg} {s : Nat × Sg} (oka : Zoka X code R_law room_1 198 4 k1) (hn1 : k1 = X.2.2.1.2.2.2) (hn2 : X.2.2.1.2.2.2 ≤ 90000) (hk2 : k2 ≤ 48132 + 67 * (X.2.2.1.2.2.2 - 198)) (hX : va_X b LL xs X.1.2.2.2.2 X.1.2.2.2.2.heap) (hbl : b < X.1.2.2.2.2.heap.size) (hbA : ¬ X.2.2.2.1 b) (hL : LL < 2 ^ 31) (hi : i + 6 ≤ LL) (h : Lw_1 xs i X.2.2.1.2.2.2 σ = some s) (kk : lw_K X Q b i s) : ZAt X Q k1 k2 275 σ [(0, .ref b), (1, .ref (X.ad 0)), (2, .ref (X.ad 171)), (3, .int (nI i))] [] := by
  unfold Lw_1 at h
  have ok := oka.1
  have ok0 := oka.1
  have hkR : k1 ≤ room_1.cells ∧ k2 ≤ room_1.slots := ⟨by show k1 ≤ 600000; omega, by show k2 ≤ 7302250; omega⟩
  refine z_aload_n ok dL_law_275 1 rfl ?_
  refine z_aload_n ok dL_law_276 0 rfl ?_
  refine z_iload_n ok dL_law_277 3 rfl ?_
  refine z_iconst (v := nI 1) ok dL_law_278 (by decide) ?_
  refine z_iadd ok dL_law_279 ?_
  refine z_sld ok hX hbl hbA (i + 1) (by omega) hL (nI_ad i 1) dL_law_280 ?_
  obtain ⟨r, hr, h⟩ := zbind h
  refine z_cV (As := [.int (xs (i + 1))]) (rest := []) (w := 0) ok kc_0 zc_11 (c_CK_end hr) rfl ⟨mlL_18, w_CK_end⟩ hy_CK_end ⟨rfl, rfl⟩ ⟨Nat.le_of_ble_eq_true rfl, Nat.le_of_ble_eq_true rfl⟩ hkR rfl (Nat.le_of_ble_eq_true rfl) dL_law_281 ?_
  refine z_aload_n ok dL_law_284 2 rfl ?_
  refine z_aload_n ok dL_law_285 0 rfl ?_
  refine z_iload_n ok dL_law_286 3 rfl ?_
  refine z_iconst (v := nI 1) ok dL_law_287 (by decide) ?_
  refine z_iadd ok dL_law_288 ?_
  refine z_sld ok hX hbl hbA (i + 1) (by omega) hL (nI_ad i 1) dL_law_289 ?_
  obtain ⟨q, hq, h⟩ := zbind h
  refine z_cV (As := [.int (xs (i + 1))]) (rest := [.int (zb r.1)]) (w := 171) ok kc_171 zc_12 (c_M_end hq) rfl ⟨mlL_22, w_M_end⟩ hy_M_end ⟨rfl, rfl⟩ ⟨Nat.le_of_ble_eq_true rfl, Nat.le_of_ble_eq_true rfl⟩ hkR rfl (Nat.le_of_ble_eq_true rfl) dL_law_290 ?_
  by_cases he : (zb r.1) = (zb q.1)
  case neg => rw [if_neg he] at h; cases h
  case pos =>
    rw [if_pos he] at h
    obtain rfl := Option.some.inj h
    refine z_icmp_eq (α := Unit) (out := ()) (a := some ()) (b := none) (tgt := 1455) ok dL_law_293 (by decide) (if_pos he) (fun _ _ => ?_) (fun h9 _ => absurd he h9)
    exact kk _ _ _ _ oka hk2 rfl
set_option maxRecDepth 20000 in
theorem lw_c2 {X : Zx} {Q : State → Prop} {b LL i k1 k2 : Nat} {xs : Nat → Int32} {σ : Sg} {s : Nat × Sg} (oka : Zoka X code R_law room_1 198 4 k1) (hn1 : k1 = X.2.2.1.2.2.2) (hn2 : X.2.2.1.2.2.2 ≤ 90000) (hk2 : k2 ≤ 48132 + 67 * (X.2.2.1.2.2.2 - 198)) (hX : va_X b LL xs X.1.2.2.2.2 X.1.2.2.2.2.heap) (hbl : b < X.1.2.2.2.2.heap.size) (hbA : ¬ X.2.2.2.1 b) (hL : LL < 2 ^ 31) (hi : i + 6 ≤ LL) (h : Lw_2 xs i X.2.2.1.2.2.2 σ = some s) (kk : lw_K X Q b i s) : ZAt X Q k1 k2 298 σ [(0, .ref b), (1, .ref (X.ad 0)), (2, .ref (X.ad 171)), (3, .int (nI i))] [] := by
  unfold Lw_2 at h
  have ok := oka.1
  have ok0 := oka.1
  have hkR : k1 ≤ room_1.cells ∧ k2 ≤ room_1.slots := ⟨by show k1 ≤ 600000; omega, by show k2 ≤ 7302250; omega⟩
  refine z_aload_n ok dL_law_298 1 rfl ?_
  obtain ⟨r, hr, h⟩ := zbind h
  refine z_cV (As := []) (rest := []) (w := 0) ok kc_0 zc_11 (c_CK_canal hr) rfl ⟨mlL_23, w_CK_canal⟩ hy_CK_canal ⟨rfl, rfl⟩ ⟨Nat.le_of_ble_eq_true rfl, Nat.le_of_ble_eq_true rfl⟩ hkR rfl (Nat.le_of_ble_eq_true rfl) dL_law_299 ?_
  refine z_aload_n ok dL_law_302 2 rfl ?_
  obtain ⟨q, hq, h⟩ := zbind h
  refine z_cV (As := []) (rest := [.int r.1]) (w := 171) ok kc_171 zc_12 (c_M_canal hq) rfl ⟨mlL_27, w_M_canal⟩ hy_M_canal ⟨rfl, rfl⟩ ⟨Nat.le_of_ble_eq_true rfl, Nat.le_of_ble_eq_true rfl⟩ hkR rfl (Nat.le_of_ble_eq_true rfl) dL_law_303 ?_
  by_cases he : r.1 = q.1
  case neg => rw [if_neg he] at h; cases h
  case pos =>
    rw [if_pos he] at h
    obtain rfl := Option.some.inj h
    refine z_icmp_eq (α := Unit) (out := ()) (a := some ()) (b := none) (tgt := 1455) ok dL_law_306 (by decide) (if_pos he) (fun _ _ => ?_) (fun h9 _ => absurd he h9)
    exact kk _ _ _ _ oka hk2 rfl
set_option maxRecDepth 20000 in
theorem lw_c3 {X : Zx} {Q : State → Prop} {b LL i k1 k2 : Nat} {xs : Nat → Int32} {σ : Sg} {s : Nat × Sg} (oka : Zoka X code R_law room_1 198 4 k1) (hn1 : k1 = X.2.2.1.2.2.2) (hn2 : X.2.2.1.2.2.2 ≤ 90000) (hk2 : k2 ≤ 48132 + 67 * (X.2.2.1.2.2.2 - 198)) (hX : va_X b LL xs X.1.2.2.2.2 X.1.2.2.2.2.heap) (hbl : b < X.1.2.2.2.2.heap.size) (hbA : ¬ X.2.2.2.1 b) (hL : LL < 2 ^ 31) (hi : i + 6 ≤ LL) (h : Lw_3 xs i X.2.2.1.2.2.2 σ = some s) (kk : lw_K X Q b i s) : ZAt X Q k1 k2 311 σ [(0, .ref b), (1, .ref (X.ad 0)), (2, .ref (X.ad 171)), (3, .int (nI i))] [] := by
  unfold Lw_3 at h
  have ok := oka.1
  have ok0 := oka.1
  have hkR : k1 ≤ room_1.cells ∧ k2 ≤ room_1.slots := ⟨by show k1 ≤ 600000; omega, by show k2 ≤ 7302250; omega⟩
  refine z_aload_n ok dL_law_311 1 rfl ?_
  refine z_aload_n ok dL_law_312 0 rfl ?_
  refine z_iload_n ok dL_law_313 3 rfl ?_
  refine z_iconst (v := nI 1) ok dL_law_314 (by decide) ?_
  refine z_iadd ok dL_law_315 ?_
  refine z_sld ok hX hbl hbA (i + 1) (by omega) hL (nI_ad i 1) dL_law_316 ?_
  obtain ⟨r, hr, h⟩ := zbind h
  refine z_cV (As := [.int (xs (i + 1))]) (rest := []) (w := 0) ok kc_0 zc_11 (c_CK_fault hr) rfl ⟨mlL_28, w_CK_fault⟩ hy_CK_fault ⟨rfl, rfl⟩ ⟨Nat.le_of_ble_eq_true rfl, Nat.le_of_ble_eq_true rfl⟩ hkR rfl (Nat.le_of_ble_eq_true rfl) dL_law_317 ?_
  refine z_aload_n ok dL_law_320 2 rfl ?_
  refine z_aload_n ok dL_law_321 0 rfl ?_
  refine z_iload_n ok dL_law_322 3 rfl ?_
  refine z_iconst (v := nI 1) ok dL_law_323 (by decide) ?_
  refine z_iadd ok dL_law_324 ?_
  refine z_sld ok hX hbl hbA (i + 1) (by omega) hL (nI_ad i 1) dL_law_325 ?_
  obtain ⟨q, hq, h⟩ := zbind h
  refine z_cV (As := [.int (xs (i + 1))]) (rest := [.int r]) (w := 171) ok kc_171 zc_12 (c_M_fault hq) rfl ⟨mlL_32, w_M_fault⟩ hy_M_fault ⟨rfl, rfl⟩ ⟨Nat.le_of_ble_eq_true rfl, Nat.le_of_ble_eq_true rfl⟩ hkR rfl (Nat.le_of_ble_eq_true rfl) dL_law_326 ?_
  by_cases he : r = q
  case neg => rw [if_neg he] at h; cases h
  case pos =>
    rw [if_pos he] at h
    obtain rfl := Option.some.inj h
    refine z_icmp_eq (α := Unit) (out := ()) (a := some ()) (b := none) (tgt := 1455) ok dL_law_329 (by decide) (if_pos he) (fun _ _ => ?_) (fun h9 _ => absurd he h9)
    exact kk _ _ _ _ oka hk2 rfl
set_option maxRecDepth 20000 in
theorem lw_c4 {X : Zx} {Q : State → Prop} {b LL i k1 k2 : Nat} {xs : Nat → Int32} {σ : Sg} {s : Nat × Sg} (oka : Zoka X code R_law room_1 198 4 k1) (hn1 : k1 = X.2.2.1.2.2.2) (hn2 : X.2.2.1.2.2.2 ≤ 90000) (hk2 : k2 ≤ 48132 + 67 * (X.2.2.1.2.2.2 - 198)) (hX : va_X b LL xs X.1.2.2.2.2 X.1.2.2.2.2.heap) (hbl : b < X.1.2.2.2.2.heap.size) (hbA : ¬ X.2.2.2.1 b) (hL : LL < 2 ^ 31) (hi : i + 6 ≤ LL) (h : Lw_4 xs i X.2.2.1.2.2.2 σ = some s) (kk : lw_K X Q b i s) : ZAt X Q k1 k2 334 σ [(0, .ref b), (1, .ref (X.ad 0)), (2, .ref (X.ad 171)), (3, .int (nI i))] [] := by
  unfold Lw_4 at h
  have ok := oka.1
  have ok0 := oka.1
  have hkR : k1 ≤ room_1.cells ∧ k2 ≤ room_1.slots := ⟨by show k1 ≤ 600000; omega, by show k2 ≤ 7302250; omega⟩
  refine z_aload_n ok dL_law_334 1 rfl ?_
  refine z_aload_n ok dL_law_335 0 rfl ?_
  refine z_iload_n ok dL_law_336 3 rfl ?_
  refine z_iconst (v := nI 1) ok dL_law_337 (by decide) ?_
  refine z_iadd ok dL_law_338 ?_
  refine z_sld ok hX hbl hbA (i + 1) (by omega) hL (nI_ad i 1) dL_law_339 ?_
  obtain ⟨r, hr, h⟩ := zbind h
  refine z_cV (As := [.int (xs (i + 1))]) (rest := []) (w := 0) ok kc_0 zc_11 (c_CK_has hr) rfl ⟨mlL_33, w_CK_has⟩ hy_CK_has ⟨rfl, rfl⟩ ⟨Nat.le_of_ble_eq_true rfl, Nat.le_of_ble_eq_true rfl⟩ hkR rfl (Nat.le_of_ble_eq_true rfl) dL_law_340 ?_
  refine z_aload_n ok dL_law_343 2 rfl ?_
  refine z_aload_n ok dL_law_344 0 rfl ?_
  refine z_iload_n ok dL_law_345 3 rfl ?_
  refine z_iconst (v := nI 1) ok dL_law_346 (by decide) ?_
  refine z_iadd ok dL_law_347 ?_
  refine z_sld ok hX hbl hbA (i + 1) (by omega) hL (nI_ad i 1) dL_law_348 ?_
  obtain ⟨q, hq, h⟩ := zbind h
  refine z_cV (As := [.int (xs (i + 1))]) (rest := [.int r]) (w := 171) ok kc_171 zc_12 (c_M_has hq) rfl ⟨mlL_36, w_M_has⟩ hy_M_has ⟨rfl, rfl⟩ ⟨Nat.le_of_ble_eq_true rfl, Nat.le_of_ble_eq_true rfl⟩ hkR rfl (Nat.le_of_ble_eq_true rfl) dL_law_349 ?_
  by_cases he : r = q
  case neg => rw [if_neg he] at h; cases h
  case pos =>
    rw [if_pos he] at h
    obtain rfl := Option.some.inj h
    refine z_icmp_eq (α := Unit) (out := ()) (a := some ()) (b := none) (tgt := 1455) ok dL_law_352 (by decide) (if_pos he) (fun _ _ => ?_) (fun h9 _ => absurd he h9)
    exact kk _ _ _ _ oka hk2 rfl
set_option maxRecDepth 20000 in
theorem lw_c5 {X : Zx} {Q : State → Prop} {b LL i k1 k2 : Nat} {xs : Nat → Int32} {σ : Sg} {s : Nat × Sg} (oka : Zoka X code R_law room_1 198 4 k1) (hn1 : k1 = X.2.2.1.2.2.2) (hn2 : X.2.2.1.2.2.2 ≤ 90000) (hk2 : k2 ≤ 48132 + 67 * (X.2.2.1.2.2.2 - 198)) (hX : va_X b LL xs X.1.2.2.2.2 X.1.2.2.2.2.heap) (hbl : b < X.1.2.2.2.2.heap.size) (hbA : ¬ X.2.2.2.1 b) (hL : LL < 2 ^ 31) (hi : i + 6 ≤ LL) (h : Lw_5 xs i X.2.2.1.2.2.2 σ = some s) (kk : lw_K X Q b i s) : ZAt X Q k1 k2 357 σ [(0, .ref b), (1, .ref (X.ad 0)), (2, .ref (X.ad 171)), (3, .int (nI i))] [] := by
  unfold Lw_5 at h
  have ok := oka.1
  have ok0 := oka.1
  have hkR : k1 ≤ room_1.cells ∧ k2 ≤ room_1.slots := ⟨by show k1 ≤ 600000; omega, by show k2 ≤ 7302250; omega⟩
  refine z_aload_n ok dL_law_357 1 rfl ?_
  refine z_aload_n ok dL_law_358 0 rfl ?_
  refine z_iload_n ok dL_law_359 3 rfl ?_
  refine z_iconst (v := nI 1) ok dL_law_360 (by decide) ?_
  refine z_iadd ok dL_law_361 ?_
  refine z_sld ok hX hbl hbA (i + 1) (by omega) hL (nI_ad i 1) dL_law_362 ?_
  refine z_aload_n ok dL_law_363 0 rfl ?_
  refine z_iload_n ok dL_law_364 3 rfl ?_
  refine z_iconst (v := nI 2) ok dL_law_365 (by decide) ?_
  refine z_iadd ok dL_law_366 ?_
  refine z_sld ok hX hbl hbA (i + 2) (by omega) hL (nI_ad i 2) dL_law_367 ?_
  refine z_aload_n ok dL_law_368 0 rfl ?_
  refine z_iload_n ok dL_law_369 3 rfl ?_
  refine z_iconst (v := nI 3) ok dL_law_370 (by decide) ?_
  refine z_iadd ok dL_law_371 ?_
  refine z_sld ok hX hbl hbA (i + 3) (by omega) hL (nI_ad i 3) dL_law_372 ?_
  obtain ⟨r, hr, h⟩ := zbind h
  refine z_cV (As := [.int (xs (i + 1)), .int (xs (i + 2)), .int (xs (i + 3))]) (rest := []) (w := 0) ok kc_0 zc_11 (c_CK_letter hr) rfl ⟨mlL_37, w_CK_letter⟩ hy_CK_letter ⟨rfl, rfl⟩ ⟨Nat.le_of_ble_eq_true rfl, Nat.le_of_ble_eq_true rfl⟩ hkR rfl (Nat.le_of_ble_eq_true rfl) dL_law_373 ?_
  refine z_aload_n ok dL_law_376 2 rfl ?_
  refine z_aload_n ok dL_law_377 0 rfl ?_
  refine z_iload_n ok dL_law_378 3 rfl ?_
  refine z_iconst (v := nI 1) ok dL_law_379 (by decide) ?_
  refine z_iadd ok dL_law_380 ?_
  refine z_sld ok hX hbl hbA (i + 1) (by omega) hL (nI_ad i 1) dL_law_381 ?_
  refine z_aload_n ok dL_law_382 0 rfl ?_
  refine z_iload_n ok dL_law_383 3 rfl ?_
  refine z_iconst (v := nI 2) ok dL_law_384 (by decide) ?_
  refine z_iadd ok dL_law_385 ?_
  refine z_sld ok hX hbl hbA (i + 2) (by omega) hL (nI_ad i 2) dL_law_386 ?_
  refine z_aload_n ok dL_law_387 0 rfl ?_
  refine z_iload_n ok dL_law_388 3 rfl ?_
  refine z_iconst (v := nI 3) ok dL_law_389 (by decide) ?_
  refine z_iadd ok dL_law_390 ?_
  refine z_sld ok hX hbl hbA (i + 3) (by omega) hL (nI_ad i 3) dL_law_391 ?_
  obtain ⟨q, hq, h⟩ := zbind h
  refine z_cV (As := [.int (xs (i + 1)), .int (xs (i + 2)), .int (xs (i + 3))]) (rest := [.int r]) (w := 171) ok kc_171 zc_12 (c_M_letter hq) rfl ⟨mlL_41, w_M_letter⟩ hy_M_letter ⟨rfl, rfl⟩ ⟨Nat.le_of_ble_eq_true rfl, Nat.le_of_ble_eq_true rfl⟩ hkR rfl (Nat.le_of_ble_eq_true rfl) dL_law_392 ?_
  by_cases he : r = q
  case neg => rw [if_neg he] at h; cases h
  case pos =>
    rw [if_pos he] at h
    obtain rfl := Option.some.inj h
    refine z_icmp_eq (α := Unit) (out := ()) (a := some ()) (b := none) (tgt := 1455) ok dL_law_395 (by decide) (if_pos he) (fun _ _ => ?_) (fun h9 _ => absurd he h9)
    exact kk _ _ _ _ oka hk2 rfl
set_option maxRecDepth 20000 in
theorem lw_c6 {X : Zx} {Q : State → Prop} {b LL i k1 k2 : Nat} {xs : Nat → Int32} {σ : Sg} {s : Nat × Sg} (oka : Zoka X code R_law room_1 198 4 k1) (hn1 : k1 = X.2.2.1.2.2.2) (hn2 : X.2.2.1.2.2.2 ≤ 90000) (hk2 : k2 ≤ 48132 + 67 * (X.2.2.1.2.2.2 - 198)) (hX : va_X b LL xs X.1.2.2.2.2 X.1.2.2.2.2.heap) (hbl : b < X.1.2.2.2.2.heap.size) (hbA : ¬ X.2.2.2.1 b) (hL : LL < 2 ^ 31) (hi : i + 6 ≤ LL) (h : Lw_6 xs i X.2.2.1.2.2.2 σ = some s) (kk : lw_K X Q b i s) : ZAt X Q k1 k2 400 σ [(0, .ref b), (1, .ref (X.ad 0)), (2, .ref (X.ad 171)), (3, .int (nI i))] [] := by
  unfold Lw_6 at h
  have ok := oka.1
  have ok0 := oka.1
  have hkR : k1 ≤ room_1.cells ∧ k2 ≤ room_1.slots := ⟨by show k1 ≤ 600000; omega, by show k2 ≤ 7302250; omega⟩
  refine z_aload_n ok dL_law_400 1 rfl ?_
  refine z_aload_n ok dL_law_401 0 rfl ?_
  refine z_iload_n ok dL_law_402 3 rfl ?_
  refine z_iconst (v := nI 1) ok dL_law_403 (by decide) ?_
  refine z_iadd ok dL_law_404 ?_
  refine z_sld ok hX hbl hbA (i + 1) (by omega) hL (nI_ad i 1) dL_law_405 ?_
  obtain ⟨r, hr, h⟩ := zbind h
  refine z_cV (As := [.int (xs (i + 1))]) (rest := []) (w := 0) ok kc_0 zc_11 (c_CK_named hr) rfl ⟨mlL_42, w_CK_named⟩ hy_CK_named ⟨rfl, rfl⟩ ⟨Nat.le_of_ble_eq_true rfl, Nat.le_of_ble_eq_true rfl⟩ hkR rfl (Nat.le_of_ble_eq_true rfl) dL_law_406 ?_
  refine z_aload_n ok dL_law_409 2 rfl ?_
  refine z_aload_n ok dL_law_410 0 rfl ?_
  refine z_iload_n ok dL_law_411 3 rfl ?_
  refine z_iconst (v := nI 1) ok dL_law_412 (by decide) ?_
  refine z_iadd ok dL_law_413 ?_
  refine z_sld ok hX hbl hbA (i + 1) (by omega) hL (nI_ad i 1) dL_law_414 ?_
  obtain ⟨q, hq, h⟩ := zbind h
  refine z_cV (As := [.int (xs (i + 1))]) (rest := [.int r.1]) (w := 171) ok kc_171 zc_12 (c_M_named hq) rfl ⟨mlL_45, w_M_named⟩ hy_M_named ⟨rfl, rfl⟩ ⟨Nat.le_of_ble_eq_true rfl, Nat.le_of_ble_eq_true rfl⟩ hkR rfl (Nat.le_of_ble_eq_true rfl) dL_law_415 ?_
  by_cases he : r.1 = q.1
  case neg => rw [if_neg he] at h; cases h
  case pos =>
    rw [if_pos he] at h
    obtain rfl := Option.some.inj h
    refine z_icmp_eq (α := Unit) (out := ()) (a := some ()) (b := none) (tgt := 1455) ok dL_law_418 (by decide) (if_pos he) (fun _ _ => ?_) (fun h9 _ => absurd he h9)
    exact kk _ _ _ _ oka hk2 rfl
set_option maxRecDepth 20000 in
theorem lw_c7 {X : Zx} {Q : State → Prop} {b LL i k1 k2 : Nat} {xs : Nat → Int32} {σ : Sg} {s : Nat × Sg} (oka : Zoka X code R_law room_1 198 4 k1) (hn1 : k1 = X.2.2.1.2.2.2) (hn2 : X.2.2.1.2.2.2 ≤ 90000) (hk2 : k2 ≤ 48132 + 67 * (X.2.2.1.2.2.2 - 198)) (hX : va_X b LL xs X.1.2.2.2.2 X.1.2.2.2.2.heap) (hbl : b < X.1.2.2.2.2.heap.size) (hbA : ¬ X.2.2.2.1 b) (hL : LL < 2 ^ 31) (hi : i + 6 ≤ LL) (h : Lw_7 xs i X.2.2.1.2.2.2 σ = some s) (kk : lw_K X Q b i s) : ZAt X Q k1 k2 423 σ [(0, .ref b), (1, .ref (X.ad 0)), (2, .ref (X.ad 171)), (3, .int (nI i))] [] := by
  unfold Lw_7 at h
  have ok := oka.1
  have ok0 := oka.1
  have hkR : k1 ≤ room_1.cells ∧ k2 ≤ room_1.slots := ⟨by show k1 ≤ 600000; omega, by show k2 ≤ 7302250; omega⟩
  refine z_aload_n ok dL_law_423 1 rfl ?_
  refine z_aload_n ok dL_law_424 0 rfl ?_
  refine z_iload_n ok dL_law_425 3 rfl ?_
  refine z_iconst (v := nI 1) ok dL_law_426 (by decide) ?_
  refine z_iadd ok dL_law_427 ?_
  refine z_sld ok hX hbl hbA (i + 1) (by omega) hL (nI_ad i 1) dL_law_428 ?_
  refine z_aload_n ok dL_law_429 0 rfl ?_
  refine z_iload_n ok dL_law_430 3 rfl ?_
  refine z_iconst (v := nI 2) ok dL_law_431 (by decide) ?_
  refine z_iadd ok dL_law_432 ?_
  refine z_sld ok hX hbl hbA (i + 2) (by omega) hL (nI_ad i 2) dL_law_433 ?_
  obtain ⟨r, hr, h⟩ := zbind h
  refine z_cV (As := [.int (xs (i + 1)), .int (xs (i + 2))]) (rest := []) (w := 0) ok kc_0 zc_11 (c_CK_pool hr) rfl ⟨mlL_46, w_CK_pool⟩ hy_CK_pool ⟨rfl, rfl⟩ ⟨Nat.le_of_ble_eq_true rfl, Nat.le_of_ble_eq_true rfl⟩ hkR rfl (Nat.le_of_ble_eq_true rfl) dL_law_434 ?_
  refine z_aload_n ok dL_law_437 2 rfl ?_
  refine z_aload_n ok dL_law_438 0 rfl ?_
  refine z_iload_n ok dL_law_439 3 rfl ?_
  refine z_iconst (v := nI 1) ok dL_law_440 (by decide) ?_
  refine z_iadd ok dL_law_441 ?_
  refine z_sld ok hX hbl hbA (i + 1) (by omega) hL (nI_ad i 1) dL_law_442 ?_
  refine z_aload_n ok dL_law_443 0 rfl ?_
  refine z_iload_n ok dL_law_444 3 rfl ?_
  refine z_iconst (v := nI 2) ok dL_law_445 (by decide) ?_
  refine z_iadd ok dL_law_446 ?_
  refine z_sld ok hX hbl hbA (i + 2) (by omega) hL (nI_ad i 2) dL_law_447 ?_
  obtain ⟨q, hq, h⟩ := zbind h
  refine z_cV (As := [.int (xs (i + 1)), .int (xs (i + 2))]) (rest := [.int r]) (w := 171) ok kc_171 zc_12 (c_M_pool hq) rfl ⟨mlL_50, w_M_pool⟩ hy_M_pool ⟨rfl, rfl⟩ ⟨Nat.le_of_ble_eq_true rfl, Nat.le_of_ble_eq_true rfl⟩ hkR rfl (Nat.le_of_ble_eq_true rfl) dL_law_448 ?_
  by_cases he : r = q
  case neg => rw [if_neg he] at h; cases h
  case pos =>
    rw [if_pos he] at h
    obtain rfl := Option.some.inj h
    refine z_icmp_eq (α := Unit) (out := ()) (a := some ()) (b := none) (tgt := 1455) ok dL_law_451 (by decide) (if_pos he) (fun _ _ => ?_) (fun h9 _ => absurd he h9)
    exact kk _ _ _ _ oka hk2 rfl
set_option maxRecDepth 20000 in
theorem lw_c8 {X : Zx} {Q : State → Prop} {b LL i k1 k2 : Nat} {xs : Nat → Int32} {σ : Sg} {s : Nat × Sg} (oka : Zoka X code R_law room_1 198 4 k1) (hn1 : k1 = X.2.2.1.2.2.2) (hn2 : X.2.2.1.2.2.2 ≤ 90000) (hk2 : k2 ≤ 48132 + 67 * (X.2.2.1.2.2.2 - 198)) (hX : va_X b LL xs X.1.2.2.2.2 X.1.2.2.2.2.heap) (hbl : b < X.1.2.2.2.2.heap.size) (hbA : ¬ X.2.2.2.1 b) (hL : LL < 2 ^ 31) (hi : i + 6 ≤ LL) (h : Lw_8 xs i X.2.2.1.2.2.2 σ = some s) (kk : lw_K X Q b i s) : ZAt X Q k1 k2 456 σ [(0, .ref b), (1, .ref (X.ad 0)), (2, .ref (X.ad 171)), (3, .int (nI i))] [] := by
  unfold Lw_8 at h
  have ok := oka.1
  have ok0 := oka.1
  have hkR : k1 ≤ room_1.cells ∧ k2 ≤ room_1.slots := ⟨by show k1 ≤ 600000; omega, by show k2 ≤ 7302250; omega⟩
  refine z_aload_n ok dL_law_456 1 rfl ?_
  refine z_aload_n ok dL_law_457 0 rfl ?_
  refine z_iload_n ok dL_law_458 3 rfl ?_
  refine z_iconst (v := nI 1) ok dL_law_459 (by decide) ?_
  refine z_iadd ok dL_law_460 ?_
  refine z_sld ok hX hbl hbA (i + 1) (by omega) hL (nI_ad i 1) dL_law_461 ?_
  refine z_aload_n ok dL_law_462 0 rfl ?_
  refine z_iload_n ok dL_law_463 3 rfl ?_
  refine z_iconst (v := nI 2) ok dL_law_464 (by decide) ?_
  refine z_iadd ok dL_law_465 ?_
  refine z_sld ok hX hbl hbA (i + 2) (by omega) hL (nI_ad i 2) dL_law_466 ?_
  obtain ⟨r, hr, h⟩ := zbind h
  refine z_cV (As := [.int (xs (i + 1)), .int (xs (i + 2))]) (rest := []) (w := 0) ok kc_0 zc_11 (c_CK_gate hr) rfl ⟨mlL_51, w_CK_gate⟩ hy_CK_gate ⟨rfl, rfl⟩ ⟨Nat.le_of_ble_eq_true rfl, Nat.le_of_ble_eq_true rfl⟩ hkR rfl (Nat.le_of_ble_eq_true rfl) dL_law_467 ?_
  refine z_aload_n ok dL_law_470 2 rfl ?_
  refine z_aload_n ok dL_law_471 0 rfl ?_
  refine z_iload_n ok dL_law_472 3 rfl ?_
  refine z_iconst (v := nI 1) ok dL_law_473 (by decide) ?_
  refine z_iadd ok dL_law_474 ?_
  refine z_sld ok hX hbl hbA (i + 1) (by omega) hL (nI_ad i 1) dL_law_475 ?_
  refine z_aload_n ok dL_law_476 0 rfl ?_
  refine z_iload_n ok dL_law_477 3 rfl ?_
  refine z_iconst (v := nI 2) ok dL_law_478 (by decide) ?_
  refine z_iadd ok dL_law_479 ?_
  refine z_sld ok hX hbl hbA (i + 2) (by omega) hL (nI_ad i 2) dL_law_480 ?_
  obtain ⟨q, hq, h⟩ := zbind h
  refine z_cV (As := [.int (xs (i + 1)), .int (xs (i + 2))]) (rest := [.int r]) (w := 171) ok kc_171 zc_12 (c_M_gate hq) rfl ⟨mlL_54, w_M_gate⟩ hy_M_gate ⟨rfl, rfl⟩ ⟨Nat.le_of_ble_eq_true rfl, Nat.le_of_ble_eq_true rfl⟩ hkR rfl (Nat.le_of_ble_eq_true rfl) dL_law_481 ?_
  by_cases he : r = q
  case neg => rw [if_neg he] at h; cases h
  case pos =>
    rw [if_pos he] at h
    obtain rfl := Option.some.inj h
    refine z_icmp_eq (α := Unit) (out := ()) (a := some ()) (b := none) (tgt := 1455) ok dL_law_484 (by decide) (if_pos he) (fun _ _ => ?_) (fun h9 _ => absurd he h9)
    exact kk _ _ _ _ oka hk2 rfl
set_option maxRecDepth 20000 in
theorem lw_c9 {X : Zx} {Q : State → Prop} {b LL i k1 k2 : Nat} {xs : Nat → Int32} {σ : Sg} {s : Nat × Sg} (oka : Zoka X code R_law room_1 198 4 k1) (hn1 : k1 = X.2.2.1.2.2.2) (hn2 : X.2.2.1.2.2.2 ≤ 90000) (hk2 : k2 ≤ 48132 + 67 * (X.2.2.1.2.2.2 - 198)) (hX : va_X b LL xs X.1.2.2.2.2 X.1.2.2.2.2.heap) (hbl : b < X.1.2.2.2.2.heap.size) (hbA : ¬ X.2.2.2.1 b) (hL : LL < 2 ^ 31) (hi : i + 6 ≤ LL) (h : Lw_9 xs i X.2.2.1.2.2.2 σ = some s) (kk : lw_K X Q b i s) : ZAt X Q k1 k2 489 σ [(0, .ref b), (1, .ref (X.ad 0)), (2, .ref (X.ad 171)), (3, .int (nI i))] [] := by
  unfold Lw_9 at h
  have ok := oka.1
  have ok0 := oka.1
  have hkR : k1 ≤ room_1.cells ∧ k2 ≤ room_1.slots := ⟨by show k1 ≤ 600000; omega, by show k2 ≤ 7302250; omega⟩
  refine z_aload_n ok dL_law_489 1 rfl ?_
  refine z_aload_n ok dL_law_490 0 rfl ?_
  refine z_iload_n ok dL_law_491 3 rfl ?_
  refine z_iconst (v := nI 1) ok dL_law_492 (by decide) ?_
  refine z_iadd ok dL_law_493 ?_
  refine z_sld ok hX hbl hbA (i + 1) (by omega) hL (nI_ad i 1) dL_law_494 ?_
  refine z_aload_n ok dL_law_495 0 rfl ?_
  refine z_iload_n ok dL_law_496 3 rfl ?_
  refine z_iconst (v := nI 2) ok dL_law_497 (by decide) ?_
  refine z_iadd ok dL_law_498 ?_
  refine z_sld ok hX hbl hbA (i + 2) (by omega) hL (nI_ad i 2) dL_law_499 ?_
  obtain ⟨r, hr, h⟩ := zbind h
  refine z_cV (As := [.int (xs (i + 1)), .int (xs (i + 2))]) (rest := []) (w := 0) ok kc_0 zc_11 (c_CK_row hr) rfl ⟨mlL_55, w_CK_row⟩ hy_CK_row ⟨rfl, rfl⟩ ⟨Nat.le_of_ble_eq_true rfl, Nat.le_of_ble_eq_true rfl⟩ hkR rfl (Nat.le_of_ble_eq_true rfl) dL_law_500 ?_
  refine z_aload_n ok dL_law_503 2 rfl ?_
  refine z_aload_n ok dL_law_504 0 rfl ?_
  refine z_iload_n ok dL_law_505 3 rfl ?_
  refine z_iconst (v := nI 1) ok dL_law_506 (by decide) ?_
  refine z_iadd ok dL_law_507 ?_
  refine z_sld ok hX hbl hbA (i + 1) (by omega) hL (nI_ad i 1) dL_law_508 ?_
  refine z_aload_n ok dL_law_509 0 rfl ?_
  refine z_iload_n ok dL_law_510 3 rfl ?_
  refine z_iconst (v := nI 2) ok dL_law_511 (by decide) ?_
  refine z_iadd ok dL_law_512 ?_
  refine z_sld ok hX hbl hbA (i + 2) (by omega) hL (nI_ad i 2) dL_law_513 ?_
  obtain ⟨q, hq, h⟩ := zbind h
  refine z_cV (As := [.int (xs (i + 1)), .int (xs (i + 2))]) (rest := [.int r]) (w := 171) ok kc_171 zc_12 (c_M_row hq) rfl ⟨mlL_58, w_M_row⟩ hy_M_row ⟨rfl, rfl⟩ ⟨Nat.le_of_ble_eq_true rfl, Nat.le_of_ble_eq_true rfl⟩ hkR rfl (Nat.le_of_ble_eq_true rfl) dL_law_514 ?_
  by_cases he : r = q
  case neg => rw [if_neg he] at h; cases h
  case pos =>
    rw [if_pos he] at h
    obtain rfl := Option.some.inj h
    refine z_icmp_eq (α := Unit) (out := ()) (a := some ()) (b := none) (tgt := 1455) ok dL_law_517 (by decide) (if_pos he) (fun _ _ => ?_) (fun h9 _ => absurd he h9)
    exact kk _ _ _ _ oka hk2 rfl
set_option maxRecDepth 20000 in
theorem lw_c10 {X : Zx} {Q : State → Prop} {b LL i k1 k2 : Nat} {xs : Nat → Int32} {σ : Sg} {s : Nat × Sg} (oka : Zoka X code R_law room_1 198 4 k1) (hn1 : k1 = X.2.2.1.2.2.2) (hn2 : X.2.2.1.2.2.2 ≤ 90000) (hk2 : k2 ≤ 48132 + 67 * (X.2.2.1.2.2.2 - 198)) (hX : va_X b LL xs X.1.2.2.2.2 X.1.2.2.2.2.heap) (hbl : b < X.1.2.2.2.2.heap.size) (hbA : ¬ X.2.2.2.1 b) (hL : LL < 2 ^ 31) (hi : i + 6 ≤ LL) (h : Lw_10 xs i X.2.2.1.2.2.2 σ = some s) (kk : lw_K X Q b i s) : ZAt X Q k1 k2 522 σ [(0, .ref b), (1, .ref (X.ad 0)), (2, .ref (X.ad 171)), (3, .int (nI i))] [] := by
  unfold Lw_10 at h
  have ok := oka.1
  have ok0 := oka.1
  have hkR : k1 ≤ room_1.cells ∧ k2 ≤ room_1.slots := ⟨by show k1 ≤ 600000; omega, by show k2 ≤ 7302250; omega⟩
  refine z_aload_n ok dL_law_522 1 rfl ?_
  refine z_aload_n ok dL_law_523 0 rfl ?_
  refine z_iload_n ok dL_law_524 3 rfl ?_
  refine z_iconst (v := nI 1) ok dL_law_525 (by decide) ?_
  refine z_iadd ok dL_law_526 ?_
  refine z_sld ok hX hbl hbA (i + 1) (by omega) hL (nI_ad i 1) dL_law_527 ?_
  refine z_aload_n ok dL_law_528 0 rfl ?_
  refine z_iload_n ok dL_law_529 3 rfl ?_
  refine z_iconst (v := nI 2) ok dL_law_530 (by decide) ?_
  refine z_iadd ok dL_law_531 ?_
  refine z_sld ok hX hbl hbA (i + 2) (by omega) hL (nI_ad i 2) dL_law_532 ?_
  obtain ⟨r, hr, h⟩ := zbind h
  refine z_cV (As := [.int (xs (i + 1)), .int (xs (i + 2))]) (rest := []) (w := 0) ok kc_0 zc_11 (c_CK_outlet hr) rfl ⟨mlL_59, w_CK_outlet⟩ hy_CK_outlet ⟨rfl, rfl⟩ ⟨Nat.le_of_ble_eq_true rfl, Nat.le_of_ble_eq_true rfl⟩ hkR rfl (Nat.le_of_ble_eq_true rfl) dL_law_533 ?_
  refine z_aload_n ok dL_law_536 2 rfl ?_
  refine z_aload_n ok dL_law_537 0 rfl ?_
  refine z_iload_n ok dL_law_538 3 rfl ?_
  refine z_iconst (v := nI 1) ok dL_law_539 (by decide) ?_
  refine z_iadd ok dL_law_540 ?_
  refine z_sld ok hX hbl hbA (i + 1) (by omega) hL (nI_ad i 1) dL_law_541 ?_
  refine z_aload_n ok dL_law_542 0 rfl ?_
  refine z_iload_n ok dL_law_543 3 rfl ?_
  refine z_iconst (v := nI 2) ok dL_law_544 (by decide) ?_
  refine z_iadd ok dL_law_545 ?_
  refine z_sld ok hX hbl hbA (i + 2) (by omega) hL (nI_ad i 2) dL_law_546 ?_
  obtain ⟨q, hq, h⟩ := zbind h
  refine z_cV (As := [.int (xs (i + 1)), .int (xs (i + 2))]) (rest := [.int r]) (w := 171) ok kc_171 zc_12 (c_M_outlet hq) rfl ⟨mlL_62, w_M_outlet⟩ hy_M_outlet ⟨rfl, rfl⟩ ⟨Nat.le_of_ble_eq_true rfl, Nat.le_of_ble_eq_true rfl⟩ hkR rfl (Nat.le_of_ble_eq_true rfl) dL_law_547 ?_
  by_cases he : r = q
  case neg => rw [if_neg he] at h; cases h
  case pos =>
    rw [if_pos he] at h
    obtain rfl := Option.some.inj h
    refine z_icmp_eq (α := Unit) (out := ()) (a := some ()) (b := none) (tgt := 1455) ok dL_law_550 (by decide) (if_pos he) (fun _ _ => ?_) (fun h9 _ => absurd he h9)
    exact kk _ _ _ _ oka hk2 rfl
set_option maxRecDepth 20000 in
theorem lw_c11 {X : Zx} {Q : State → Prop} {b LL i k1 k2 : Nat} {xs : Nat → Int32} {σ : Sg} {s : Nat × Sg} (oka : Zoka X code R_law room_1 198 4 k1) (hn1 : k1 = X.2.2.1.2.2.2) (hn2 : X.2.2.1.2.2.2 ≤ 90000) (hk2 : k2 ≤ 48132 + 67 * (X.2.2.1.2.2.2 - 198)) (hX : va_X b LL xs X.1.2.2.2.2 X.1.2.2.2.2.heap) (hbl : b < X.1.2.2.2.2.heap.size) (hbA : ¬ X.2.2.2.1 b) (hL : LL < 2 ^ 31) (hi : i + 6 ≤ LL) (h : Lw_11 xs i X.2.2.1.2.2.2 σ = some s) (kk : lw_K X Q b i s) : ZAt X Q k1 k2 555 σ [(0, .ref b), (1, .ref (X.ad 0)), (2, .ref (X.ad 171)), (3, .int (nI i))] [] := by
  unfold Lw_11 at h
  have ok := oka.1
  have ok0 := oka.1
  have hkR : k1 ≤ room_1.cells ∧ k2 ≤ room_1.slots := ⟨by show k1 ≤ 600000; omega, by show k2 ≤ 7302250; omega⟩
  refine z_aload_n ok dL_law_555 1 rfl ?_
  refine z_aload_n ok dL_law_556 0 rfl ?_
  refine z_iload_n ok dL_law_557 3 rfl ?_
  refine z_iconst (v := nI 1) ok dL_law_558 (by decide) ?_
  refine z_iadd ok dL_law_559 ?_
  refine z_sld ok hX hbl hbA (i + 1) (by omega) hL (nI_ad i 1) dL_law_560 ?_
  refine z_aload_n ok dL_law_561 0 rfl ?_
  refine z_iload_n ok dL_law_562 3 rfl ?_
  refine z_iconst (v := nI 2) ok dL_law_563 (by decide) ?_
  refine z_iadd ok dL_law_564 ?_
  refine z_sld ok hX hbl hbA (i + 2) (by omega) hL (nI_ad i 2) dL_law_565 ?_
  obtain ⟨r, hr, h⟩ := zbind h
  refine z_cV (As := [.int (xs (i + 1)), .int (xs (i + 2))]) (rest := []) (w := 0) ok kc_0 zc_11 (c_CK_order hr) rfl ⟨mlL_63, w_CK_order⟩ hy_CK_order ⟨rfl, rfl⟩ ⟨Nat.le_of_ble_eq_true rfl, Nat.le_of_ble_eq_true rfl⟩ hkR rfl (Nat.le_of_ble_eq_true rfl) dL_law_566 ?_
  refine z_aload_n ok dL_law_569 2 rfl ?_
  refine z_aload_n ok dL_law_570 0 rfl ?_
  refine z_iload_n ok dL_law_571 3 rfl ?_
  refine z_iconst (v := nI 1) ok dL_law_572 (by decide) ?_
  refine z_iadd ok dL_law_573 ?_
  refine z_sld ok hX hbl hbA (i + 1) (by omega) hL (nI_ad i 1) dL_law_574 ?_
  refine z_aload_n ok dL_law_575 0 rfl ?_
  refine z_iload_n ok dL_law_576 3 rfl ?_
  refine z_iconst (v := nI 2) ok dL_law_577 (by decide) ?_
  refine z_iadd ok dL_law_578 ?_
  refine z_sld ok hX hbl hbA (i + 2) (by omega) hL (nI_ad i 2) dL_law_579 ?_
  obtain ⟨q, hq, h⟩ := zbind h
  refine z_cV (As := [.int (xs (i + 1)), .int (xs (i + 2))]) (rest := [.int r]) (w := 171) ok kc_171 zc_12 (c_M_order hq) rfl ⟨mlL_66, w_M_order⟩ hy_M_order ⟨rfl, rfl⟩ ⟨Nat.le_of_ble_eq_true rfl, Nat.le_of_ble_eq_true rfl⟩ hkR rfl (Nat.le_of_ble_eq_true rfl) dL_law_580 ?_
  by_cases he : r = q
  case neg => rw [if_neg he] at h; cases h
  case pos =>
    rw [if_pos he] at h
    obtain rfl := Option.some.inj h
    refine z_icmp_eq (α := Unit) (out := ()) (a := some ()) (b := none) (tgt := 1455) ok dL_law_583 (by decide) (if_pos he) (fun _ _ => ?_) (fun h9 _ => absurd he h9)
    exact kk _ _ _ _ oka hk2 rfl
set_option maxRecDepth 20000 in
theorem lw_c12 {X : Zx} {Q : State → Prop} {b LL i k1 k2 : Nat} {xs : Nat → Int32} {σ : Sg} {s : Nat × Sg} (oka : Zoka X code R_law room_1 198 4 k1) (hn1 : k1 = X.2.2.1.2.2.2) (hn2 : X.2.2.1.2.2.2 ≤ 90000) (hk2 : k2 ≤ 48132 + 67 * (X.2.2.1.2.2.2 - 198)) (hX : va_X b LL xs X.1.2.2.2.2 X.1.2.2.2.2.heap) (hbl : b < X.1.2.2.2.2.heap.size) (hbA : ¬ X.2.2.2.1 b) (hL : LL < 2 ^ 31) (hi : i + 6 ≤ LL) (h : Lw_12 xs i X.2.2.1.2.2.2 σ = some s) (kk : lw_K X Q b i s) : ZAt X Q k1 k2 588 σ [(0, .ref b), (1, .ref (X.ad 0)), (2, .ref (X.ad 171)), (3, .int (nI i))] [] := by
  unfold Lw_12 at h
  have ok := oka.1
  have ok0 := oka.1
  have hkR : k1 ≤ room_1.cells ∧ k2 ≤ room_1.slots := ⟨by show k1 ≤ 600000; omega, by show k2 ≤ 7302250; omega⟩
  refine z_aload_n ok dL_law_588 1 rfl ?_
  refine z_aload_n ok dL_law_589 0 rfl ?_
  refine z_iload_n ok dL_law_590 3 rfl ?_
  refine z_iconst (v := nI 1) ok dL_law_591 (by decide) ?_
  refine z_iadd ok dL_law_592 ?_
  refine z_sld ok hX hbl hbA (i + 1) (by omega) hL (nI_ad i 1) dL_law_593 ?_
  refine z_aload_n ok dL_law_594 0 rfl ?_
  refine z_iload_n ok dL_law_595 3 rfl ?_
  refine z_iconst (v := nI 2) ok dL_law_596 (by decide) ?_
  refine z_iadd ok dL_law_597 ?_
  refine z_sld ok hX hbl hbA (i + 2) (by omega) hL (nI_ad i 2) dL_law_598 ?_
  obtain ⟨r, hr, h⟩ := zbind h
  refine z_cV (As := [.int (xs (i + 1)), .int (xs (i + 2))]) (rest := []) (w := 0) ok kc_0 zc_11 (c_CK_opens hr) rfl ⟨mlL_67, w_CK_opens⟩ hy_CK_opens ⟨rfl, rfl⟩ ⟨Nat.le_of_ble_eq_true rfl, Nat.le_of_ble_eq_true rfl⟩ hkR rfl (Nat.le_of_ble_eq_true rfl) dL_law_599 ?_
  refine z_aload_n ok dL_law_602 2 rfl ?_
  refine z_aload_n ok dL_law_603 0 rfl ?_
  refine z_iload_n ok dL_law_604 3 rfl ?_
  refine z_iconst (v := nI 1) ok dL_law_605 (by decide) ?_
  refine z_iadd ok dL_law_606 ?_
  refine z_sld ok hX hbl hbA (i + 1) (by omega) hL (nI_ad i 1) dL_law_607 ?_
  refine z_aload_n ok dL_law_608 0 rfl ?_
  refine z_iload_n ok dL_law_609 3 rfl ?_
  refine z_iconst (v := nI 2) ok dL_law_610 (by decide) ?_
  refine z_iadd ok dL_law_611 ?_
  refine z_sld ok hX hbl hbA (i + 2) (by omega) hL (nI_ad i 2) dL_law_612 ?_
  obtain ⟨q, hq, h⟩ := zbind h
  refine z_cV (As := [.int (xs (i + 1)), .int (xs (i + 2))]) (rest := [.int r]) (w := 171) ok kc_171 zc_12 (c_M_opens hq) rfl ⟨mlL_70, w_M_opens⟩ hy_M_opens ⟨rfl, rfl⟩ ⟨Nat.le_of_ble_eq_true rfl, Nat.le_of_ble_eq_true rfl⟩ hkR rfl (Nat.le_of_ble_eq_true rfl) dL_law_613 ?_
  by_cases he : r = q
  case neg => rw [if_neg he] at h; cases h
  case pos =>
    rw [if_pos he] at h
    obtain rfl := Option.some.inj h
    refine z_icmp_eq (α := Unit) (out := ()) (a := some ()) (b := none) (tgt := 1455) ok dL_law_616 (by decide) (if_pos he) (fun _ _ => ?_) (fun h9 _ => absurd he h9)
    exact kk _ _ _ _ oka hk2 rfl
set_option maxRecDepth 20000 in
theorem lw_c13 {X : Zx} {Q : State → Prop} {b LL i k1 k2 : Nat} {xs : Nat → Int32} {σ : Sg} {s : Nat × Sg} (oka : Zoka X code R_law room_1 198 4 k1) (hn1 : k1 = X.2.2.1.2.2.2) (hn2 : X.2.2.1.2.2.2 ≤ 90000) (hk2 : k2 ≤ 48132 + 67 * (X.2.2.1.2.2.2 - 198)) (hX : va_X b LL xs X.1.2.2.2.2 X.1.2.2.2.2.heap) (hbl : b < X.1.2.2.2.2.heap.size) (hbA : ¬ X.2.2.2.1 b) (hL : LL < 2 ^ 31) (hi : i + 6 ≤ LL) (h : Lw_13 xs i X.2.2.1.2.2.2 σ = some s) (kk : lw_K X Q b i s) : ZAt X Q k1 k2 621 σ [(0, .ref b), (1, .ref (X.ad 0)), (2, .ref (X.ad 171)), (3, .int (nI i))] [] := by
  unfold Lw_13 at h
  have ok := oka.1
  have ok0 := oka.1
  have hkR : k1 ≤ room_1.cells ∧ k2 ≤ room_1.slots := ⟨by show k1 ≤ 600000; omega, by show k2 ≤ 7302250; omega⟩
  refine z_aload_n ok dL_law_621 1 rfl ?_
  refine z_aload_n ok dL_law_622 0 rfl ?_
  refine z_iload_n ok dL_law_623 3 rfl ?_
  refine z_iconst (v := nI 1) ok dL_law_624 (by decide) ?_
  refine z_iadd ok dL_law_625 ?_
  refine z_sld ok hX hbl hbA (i + 1) (by omega) hL (nI_ad i 1) dL_law_626 ?_
  refine z_aload_n ok dL_law_627 0 rfl ?_
  refine z_iload_n ok dL_law_628 3 rfl ?_
  refine z_iconst (v := nI 2) ok dL_law_629 (by decide) ?_
  refine z_iadd ok dL_law_630 ?_
  refine z_sld ok hX hbl hbA (i + 2) (by omega) hL (nI_ad i 2) dL_law_631 ?_
  obtain ⟨r, hr, h⟩ := zbind h
  refine z_cV (As := [.int (xs (i + 1)), .int (xs (i + 2))]) (rest := []) (w := 0) ok kc_0 zc_11 (c_CK_load hr) rfl ⟨mlL_71, w_CK_load⟩ hy_CK_load ⟨rfl, rfl⟩ ⟨Nat.le_of_ble_eq_true rfl, Nat.le_of_ble_eq_true rfl⟩ hkR rfl (Nat.le_of_ble_eq_true rfl) dL_law_632 ?_
  refine z_aload_n ok dL_law_635 2 rfl ?_
  refine z_aload_n ok dL_law_636 0 rfl ?_
  refine z_iload_n ok dL_law_637 3 rfl ?_
  refine z_iconst (v := nI 1) ok dL_law_638 (by decide) ?_
  refine z_iadd ok dL_law_639 ?_
  refine z_sld ok hX hbl hbA (i + 1) (by omega) hL (nI_ad i 1) dL_law_640 ?_
  refine z_aload_n ok dL_law_641 0 rfl ?_
  refine z_iload_n ok dL_law_642 3 rfl ?_
  refine z_iconst (v := nI 2) ok dL_law_643 (by decide) ?_
  refine z_iadd ok dL_law_644 ?_
  refine z_sld ok hX hbl hbA (i + 2) (by omega) hL (nI_ad i 2) dL_law_645 ?_
  obtain ⟨q, hq, h⟩ := zbind h
  refine z_cV (As := [.int (xs (i + 1)), .int (xs (i + 2))]) (rest := [.int r]) (w := 171) ok kc_171 zc_12 (c_M_load hq) rfl ⟨mlL_74, w_M_load⟩ hy_M_load ⟨rfl, rfl⟩ ⟨Nat.le_of_ble_eq_true rfl, Nat.le_of_ble_eq_true rfl⟩ hkR rfl (Nat.le_of_ble_eq_true rfl) dL_law_646 ?_
  by_cases he : r = q
  case neg => rw [if_neg he] at h; cases h
  case pos =>
    rw [if_pos he] at h
    obtain rfl := Option.some.inj h
    refine z_icmp_eq (α := Unit) (out := ()) (a := some ()) (b := none) (tgt := 1455) ok dL_law_649 (by decide) (if_pos he) (fun _ _ => ?_) (fun h9 _ => absurd he h9)
    exact kk _ _ _ _ oka hk2 rfl
set_option maxRecDepth 20000 in
theorem lw_c14 {X : Zx} {Q : State → Prop} {b LL i k1 k2 : Nat} {xs : Nat → Int32} {σ : Sg} {s : Nat × Sg} (oka : Zoka X code R_law room_1 198 4 k1) (hn1 : k1 = X.2.2.1.2.2.2) (hn2 : X.2.2.1.2.2.2 ≤ 90000) (hk2 : k2 ≤ 48132 + 67 * (X.2.2.1.2.2.2 - 198)) (hX : va_X b LL xs X.1.2.2.2.2 X.1.2.2.2.2.heap) (hbl : b < X.1.2.2.2.2.heap.size) (hbA : ¬ X.2.2.2.1 b) (hL : LL < 2 ^ 31) (hi : i + 6 ≤ LL) (h : Lw_14 xs i X.2.2.1.2.2.2 σ = some s) (kk : lw_K X Q b i s) : ZAt X Q k1 k2 654 σ [(0, .ref b), (1, .ref (X.ad 0)), (2, .ref (X.ad 171)), (3, .int (nI i))] [] := by
  unfold Lw_14 at h
  have ok := oka.1
  have ok0 := oka.1
  have hkR : k1 ≤ room_1.cells ∧ k2 ≤ room_1.slots := ⟨by show k1 ≤ 600000; omega, by show k2 ≤ 7302250; omega⟩
  refine z_aload_n ok dL_law_654 1 rfl ?_
  refine z_aload_n ok dL_law_655 0 rfl ?_
  refine z_iload_n ok dL_law_656 3 rfl ?_
  refine z_iconst (v := nI 1) ok dL_law_657 (by decide) ?_
  refine z_iadd ok dL_law_658 ?_
  refine z_sld ok hX hbl hbA (i + 1) (by omega) hL (nI_ad i 1) dL_law_659 ?_
  obtain ⟨r, hr, h⟩ := zbind h
  refine z_cV (As := [.int (xs (i + 1))]) (rest := []) (w := 0) ok kc_0 zc_11 (c_CK_account hr) rfl ⟨mlL_75, w_CK_account⟩ hy_CK_account ⟨rfl, rfl⟩ ⟨Nat.le_of_ble_eq_true rfl, Nat.le_of_ble_eq_true rfl⟩ hkR rfl (Nat.le_of_ble_eq_true rfl) dL_law_660 ?_
  refine z_aload_n ok dL_law_663 2 rfl ?_
  refine z_aload_n ok dL_law_664 0 rfl ?_
  refine z_iload_n ok dL_law_665 3 rfl ?_
  refine z_iconst (v := nI 1) ok dL_law_666 (by decide) ?_
  refine z_iadd ok dL_law_667 ?_
  refine z_sld ok hX hbl hbA (i + 1) (by omega) hL (nI_ad i 1) dL_law_668 ?_
  obtain ⟨q, hq, h⟩ := zbind h
  refine z_cV (As := [.int (xs (i + 1))]) (rest := [.int r]) (w := 171) ok kc_171 zc_12 (c_M_account hq) rfl ⟨mlL_78, w_M_account⟩ hy_M_account ⟨rfl, rfl⟩ ⟨Nat.le_of_ble_eq_true rfl, Nat.le_of_ble_eq_true rfl⟩ hkR rfl (Nat.le_of_ble_eq_true rfl) dL_law_669 ?_
  by_cases he : r = q
  case neg => rw [if_neg he] at h; cases h
  case pos =>
    rw [if_pos he] at h
    obtain rfl := Option.some.inj h
    refine z_icmp_eq (α := Unit) (out := ()) (a := some ()) (b := none) (tgt := 1455) ok dL_law_672 (by decide) (if_pos he) (fun _ _ => ?_) (fun h9 _ => absurd he h9)
    exact kk _ _ _ _ oka hk2 rfl
set_option maxRecDepth 20000 in
theorem lw_c15 {X : Zx} {Q : State → Prop} {b LL i k1 k2 : Nat} {xs : Nat → Int32} {σ : Sg} {s : Nat × Sg} (oka : Zoka X code R_law room_1 198 4 k1) (hn1 : k1 = X.2.2.1.2.2.2) (hn2 : X.2.2.1.2.2.2 ≤ 90000) (hk2 : k2 ≤ 48132 + 67 * (X.2.2.1.2.2.2 - 198)) (hX : va_X b LL xs X.1.2.2.2.2 X.1.2.2.2.2.heap) (hbl : b < X.1.2.2.2.2.heap.size) (hbA : ¬ X.2.2.2.1 b) (hL : LL < 2 ^ 31) (hi : i + 6 ≤ LL) (h : Lw_15 xs i X.2.2.1.2.2.2 σ = some s) (kk : lw_K X Q b i s) : ZAt X Q k1 k2 677 σ [(0, .ref b), (1, .ref (X.ad 0)), (2, .ref (X.ad 171)), (3, .int (nI i))] [] := by
  unfold Lw_15 at h
  have ok := oka.1
  have ok0 := oka.1
  have hkR : k1 ≤ room_1.cells ∧ k2 ≤ room_1.slots := ⟨by show k1 ≤ 600000; omega, by show k2 ≤ 7302250; omega⟩
  refine z_aload_n ok dL_law_677 1 rfl ?_
  refine z_aload_n ok dL_law_678 0 rfl ?_
  refine z_iload_n ok dL_law_679 3 rfl ?_
  refine z_iconst (v := nI 1) ok dL_law_680 (by decide) ?_
  refine z_iadd ok dL_law_681 ?_
  refine z_sld ok hX hbl hbA (i + 1) (by omega) hL (nI_ad i 1) dL_law_682 ?_
  refine z_aload_n ok dL_law_683 0 rfl ?_
  refine z_iload_n ok dL_law_684 3 rfl ?_
  refine z_iconst (v := nI 2) ok dL_law_685 (by decide) ?_
  refine z_iadd ok dL_law_686 ?_
  refine z_sld ok hX hbl hbA (i + 2) (by omega) hL (nI_ad i 2) dL_law_687 ?_
  obtain ⟨r, hr, h⟩ := zbind h
  refine z_cV (As := [.int (xs (i + 1)), .int (xs (i + 2))]) (rest := []) (w := 0) ok kc_0 zc_11 (c_CK_event hr) rfl ⟨mlL_79, w_CK_event⟩ hy_CK_event ⟨rfl, rfl⟩ ⟨Nat.le_of_ble_eq_true rfl, Nat.le_of_ble_eq_true rfl⟩ hkR rfl (Nat.le_of_ble_eq_true rfl) dL_law_688 ?_
  refine z_aload_n ok dL_law_691 2 rfl ?_
  refine z_aload_n ok dL_law_692 0 rfl ?_
  refine z_iload_n ok dL_law_693 3 rfl ?_
  refine z_iconst (v := nI 1) ok dL_law_694 (by decide) ?_
  refine z_iadd ok dL_law_695 ?_
  refine z_sld ok hX hbl hbA (i + 1) (by omega) hL (nI_ad i 1) dL_law_696 ?_
  refine z_aload_n ok dL_law_697 0 rfl ?_
  refine z_iload_n ok dL_law_698 3 rfl ?_
  refine z_iconst (v := nI 2) ok dL_law_699 (by decide) ?_
  refine z_iadd ok dL_law_700 ?_
  refine z_sld ok hX hbl hbA (i + 2) (by omega) hL (nI_ad i 2) dL_law_701 ?_
  obtain ⟨q, hq, h⟩ := zbind h
  refine z_cV (As := [.int (xs (i + 1)), .int (xs (i + 2))]) (rest := [.int r]) (w := 171) ok kc_171 zc_12 (c_M_event hq) rfl ⟨mlL_82, w_M_event⟩ hy_M_event ⟨rfl, rfl⟩ ⟨Nat.le_of_ble_eq_true rfl, Nat.le_of_ble_eq_true rfl⟩ hkR rfl (Nat.le_of_ble_eq_true rfl) dL_law_702 ?_
  by_cases he : r = q
  case neg => rw [if_neg he] at h; cases h
  case pos =>
    rw [if_pos he] at h
    obtain rfl := Option.some.inj h
    refine z_icmp_eq (α := Unit) (out := ()) (a := some ()) (b := none) (tgt := 1455) ok dL_law_705 (by decide) (if_pos he) (fun _ _ => ?_) (fun h9 _ => absurd he h9)
    exact kk _ _ _ _ oka hk2 rfl
set_option maxRecDepth 20000 in
theorem lw_c16 {X : Zx} {Q : State → Prop} {b LL i k1 k2 : Nat} {xs : Nat → Int32} {σ : Sg} {s : Nat × Sg} (oka : Zoka X code R_law room_1 198 4 k1) (hn1 : k1 = X.2.2.1.2.2.2) (hn2 : X.2.2.1.2.2.2 ≤ 90000) (hk2 : k2 ≤ 48132 + 67 * (X.2.2.1.2.2.2 - 198)) (hX : va_X b LL xs X.1.2.2.2.2 X.1.2.2.2.2.heap) (hbl : b < X.1.2.2.2.2.heap.size) (hbA : ¬ X.2.2.2.1 b) (hL : LL < 2 ^ 31) (hi : i + 6 ≤ LL) (h : Lw_16 xs i X.2.2.1.2.2.2 σ = some s) (kk : lw_K X Q b i s) : ZAt X Q k1 k2 710 σ [(0, .ref b), (1, .ref (X.ad 0)), (2, .ref (X.ad 171)), (3, .int (nI i))] [] := by
  unfold Lw_16 at h
  have ok := oka.1
  have ok0 := oka.1
  have hkR : k1 ≤ room_1.cells ∧ k2 ≤ room_1.slots := ⟨by show k1 ≤ 600000; omega, by show k2 ≤ 7302250; omega⟩
  refine z_aload_n ok dL_law_710 1 rfl ?_
  refine z_aload_n ok dL_law_711 0 rfl ?_
  refine z_iload_n ok dL_law_712 3 rfl ?_
  refine z_iconst (v := nI 1) ok dL_law_713 (by decide) ?_
  refine z_iadd ok dL_law_714 ?_
  refine z_sld ok hX hbl hbA (i + 1) (by omega) hL (nI_ad i 1) dL_law_715 ?_
  obtain ⟨r, hr, h⟩ := zbind h
  refine z_cV (As := [.int (xs (i + 1))]) (rest := []) (w := 0) ok kc_0 zc_11 (c_CK_rank hr) rfl ⟨mlL_83, w_CK_rank⟩ hy_CK_rank ⟨rfl, rfl⟩ ⟨Nat.le_of_ble_eq_true rfl, Nat.le_of_ble_eq_true rfl⟩ hkR rfl (Nat.le_of_ble_eq_true rfl) dL_law_716 ?_
  refine z_aload_n ok dL_law_719 2 rfl ?_
  refine z_aload_n ok dL_law_720 0 rfl ?_
  refine z_iload_n ok dL_law_721 3 rfl ?_
  refine z_iconst (v := nI 1) ok dL_law_722 (by decide) ?_
  refine z_iadd ok dL_law_723 ?_
  refine z_sld ok hX hbl hbA (i + 1) (by omega) hL (nI_ad i 1) dL_law_724 ?_
  obtain ⟨q, hq, h⟩ := zbind h
  refine z_cV (As := [.int (xs (i + 1))]) (rest := [.int r]) (w := 171) ok kc_171 zc_12 (c_M_rank hq) rfl ⟨mlL_86, w_M_rank⟩ hy_M_rank ⟨rfl, rfl⟩ ⟨Nat.le_of_ble_eq_true rfl, Nat.le_of_ble_eq_true rfl⟩ hkR rfl (Nat.le_of_ble_eq_true rfl) dL_law_725 ?_
  by_cases he : r = q
  case neg => rw [if_neg he] at h; cases h
  case pos =>
    rw [if_pos he] at h
    obtain rfl := Option.some.inj h
    refine z_icmp_eq (α := Unit) (out := ()) (a := some ()) (b := none) (tgt := 1455) ok dL_law_728 (by decide) (if_pos he) (fun _ _ => ?_) (fun h9 _ => absurd he h9)
    exact kk _ _ _ _ oka hk2 rfl
set_option maxRecDepth 20000 in
theorem lw_c17 {X : Zx} {Q : State → Prop} {b LL i k1 k2 : Nat} {xs : Nat → Int32} {σ : Sg} {s : Nat × Sg} (oka : Zoka X code R_law room_1 198 4 k1) (hn1 : k1 = X.2.2.1.2.2.2) (hn2 : X.2.2.1.2.2.2 ≤ 90000) (hk2 : k2 ≤ 48132 + 67 * (X.2.2.1.2.2.2 - 198)) (hX : va_X b LL xs X.1.2.2.2.2 X.1.2.2.2.2.heap) (hbl : b < X.1.2.2.2.2.heap.size) (hbA : ¬ X.2.2.2.1 b) (hL : LL < 2 ^ 31) (hi : i + 6 ≤ LL) (h : Lw_17 xs i X.2.2.1.2.2.2 σ = some s) (kk : lw_K X Q b i s) : ZAt X Q k1 k2 733 σ [(0, .ref b), (1, .ref (X.ad 0)), (2, .ref (X.ad 171)), (3, .int (nI i))] [] := by
  unfold Lw_17 at h
  have ok := oka.1
  have ok0 := oka.1
  have hkR : k1 ≤ room_1.cells ∧ k2 ≤ room_1.slots := ⟨by show k1 ≤ 600000; omega, by show k2 ≤ 7302250; omega⟩
  refine z_aload_n ok dL_law_733 1 rfl ?_
  refine z_aload_n ok dL_law_734 0 rfl ?_
  refine z_iload_n ok dL_law_735 3 rfl ?_
  refine z_iconst (v := nI 1) ok dL_law_736 (by decide) ?_
  refine z_iadd ok dL_law_737 ?_
  refine z_sld ok hX hbl hbA (i + 1) (by omega) hL (nI_ad i 1) dL_law_738 ?_
  refine z_aload_n ok dL_law_739 0 rfl ?_
  refine z_iload_n ok dL_law_740 3 rfl ?_
  refine z_iconst (v := nI 2) ok dL_law_741 (by decide) ?_
  refine z_iadd ok dL_law_742 ?_
  refine z_sld ok hX hbl hbA (i + 2) (by omega) hL (nI_ad i 2) dL_law_743 ?_
  obtain ⟨r, hr, h⟩ := zbind h
  refine z_cV (As := [.int (xs (i + 1)), .int (xs (i + 2))]) (rest := []) (w := 0) ok kc_0 zc_11 (c_CK_alarm hr) rfl ⟨mlL_87, w_CK_alarm⟩ hy_CK_alarm ⟨rfl, rfl⟩ ⟨Nat.le_of_ble_eq_true rfl, Nat.le_of_ble_eq_true rfl⟩ hkR rfl (Nat.le_of_ble_eq_true rfl) dL_law_744 ?_
  refine z_aload_n ok dL_law_747 2 rfl ?_
  refine z_aload_n ok dL_law_748 0 rfl ?_
  refine z_iload_n ok dL_law_749 3 rfl ?_
  refine z_iconst (v := nI 1) ok dL_law_750 (by decide) ?_
  refine z_iadd ok dL_law_751 ?_
  refine z_sld ok hX hbl hbA (i + 1) (by omega) hL (nI_ad i 1) dL_law_752 ?_
  refine z_aload_n ok dL_law_753 0 rfl ?_
  refine z_iload_n ok dL_law_754 3 rfl ?_
  refine z_iconst (v := nI 2) ok dL_law_755 (by decide) ?_
  refine z_iadd ok dL_law_756 ?_
  refine z_sld ok hX hbl hbA (i + 2) (by omega) hL (nI_ad i 2) dL_law_757 ?_
  obtain ⟨q, hq, h⟩ := zbind h
  refine z_cV (As := [.int (xs (i + 1)), .int (xs (i + 2))]) (rest := [.int r]) (w := 171) ok kc_171 zc_12 (c_M_alarm hq) rfl ⟨mlL_90, w_M_alarm⟩ hy_M_alarm ⟨rfl, rfl⟩ ⟨Nat.le_of_ble_eq_true rfl, Nat.le_of_ble_eq_true rfl⟩ hkR rfl (Nat.le_of_ble_eq_true rfl) dL_law_758 ?_
  by_cases he : r = q
  case neg => rw [if_neg he] at h; cases h
  case pos =>
    rw [if_pos he] at h
    obtain rfl := Option.some.inj h
    refine z_icmp_eq (α := Unit) (out := ()) (a := some ()) (b := none) (tgt := 1455) ok dL_law_761 (by decide) (if_pos he) (fun _ _ => ?_) (fun h9 _ => absurd he h9)
    exact kk _ _ _ _ oka hk2 rfl
set_option maxRecDepth 20000 in
theorem lw_c18 {X : Zx} {Q : State → Prop} {b LL i k1 k2 : Nat} {xs : Nat → Int32} {σ : Sg} {s : Nat × Sg} (oka : Zoka X code R_law room_1 198 4 k1) (hn1 : k1 = X.2.2.1.2.2.2) (hn2 : X.2.2.1.2.2.2 ≤ 90000) (hk2 : k2 ≤ 48132 + 67 * (X.2.2.1.2.2.2 - 198)) (hX : va_X b LL xs X.1.2.2.2.2 X.1.2.2.2.2.heap) (hbl : b < X.1.2.2.2.2.heap.size) (hbA : ¬ X.2.2.2.1 b) (hL : LL < 2 ^ 31) (hi : i + 6 ≤ LL) (h : Lw_18 xs i X.2.2.1.2.2.2 σ = some s) (kk : lw_K X Q b i s) : ZAt X Q k1 k2 766 σ [(0, .ref b), (1, .ref (X.ad 0)), (2, .ref (X.ad 171)), (3, .int (nI i))] [] := by
  unfold Lw_18 at h
  have ok := oka.1
  have ok0 := oka.1
  have hkR : k1 ≤ room_1.cells ∧ k2 ≤ room_1.slots := ⟨by show k1 ≤ 600000; omega, by show k2 ≤ 7302250; omega⟩
  refine z_aload_n ok dL_law_766 1 rfl ?_
  refine z_aload_n ok dL_law_767 0 rfl ?_
  refine z_iload_n ok dL_law_768 3 rfl ?_
  refine z_iconst (v := nI 1) ok dL_law_769 (by decide) ?_
  refine z_iadd ok dL_law_770 ?_
  refine z_sld ok hX hbl hbA (i + 1) (by omega) hL (nI_ad i 1) dL_law_771 ?_
  refine z_aload_n ok dL_law_772 0 rfl ?_
  refine z_iload_n ok dL_law_773 3 rfl ?_
  refine z_iconst (v := nI 2) ok dL_law_774 (by decide) ?_
  refine z_iadd ok dL_law_775 ?_
  refine z_sld ok hX hbl hbA (i + 2) (by omega) hL (nI_ad i 2) dL_law_776 ?_
  obtain ⟨r, hr, h⟩ := zbind h
  refine z_cV (As := [.int (xs (i + 1)), .int (xs (i + 2))]) (rest := []) (w := 0) ok kc_0 zc_11 (c_CK_alarms hr) rfl ⟨mlL_91, w_CK_alarms⟩ hy_CK_alarms ⟨rfl, rfl⟩ ⟨Nat.le_of_ble_eq_true rfl, Nat.le_of_ble_eq_true rfl⟩ hkR rfl (Nat.le_of_ble_eq_true rfl) dL_law_777 ?_
  refine z_aload_n ok dL_law_780 2 rfl ?_
  refine z_aload_n ok dL_law_781 0 rfl ?_
  refine z_iload_n ok dL_law_782 3 rfl ?_
  refine z_iconst (v := nI 1) ok dL_law_783 (by decide) ?_
  refine z_iadd ok dL_law_784 ?_
  refine z_sld ok hX hbl hbA (i + 1) (by omega) hL (nI_ad i 1) dL_law_785 ?_
  refine z_aload_n ok dL_law_786 0 rfl ?_
  refine z_iload_n ok dL_law_787 3 rfl ?_
  refine z_iconst (v := nI 2) ok dL_law_788 (by decide) ?_
  refine z_iadd ok dL_law_789 ?_
  refine z_sld ok hX hbl hbA (i + 2) (by omega) hL (nI_ad i 2) dL_law_790 ?_
  obtain ⟨q, hq, h⟩ := zbind h
  refine z_cV (As := [.int (xs (i + 1)), .int (xs (i + 2))]) (rest := [.int r]) (w := 171) ok kc_171 zc_12 (c_M_alarms hq) rfl ⟨mlL_94, w_M_alarms⟩ hy_M_alarms ⟨rfl, rfl⟩ ⟨Nat.le_of_ble_eq_true rfl, Nat.le_of_ble_eq_true rfl⟩ hkR rfl (Nat.le_of_ble_eq_true rfl) dL_law_791 ?_
  by_cases he : r = q
  case neg => rw [if_neg he] at h; cases h
  case pos =>
    rw [if_pos he] at h
    obtain rfl := Option.some.inj h
    refine z_icmp_eq (α := Unit) (out := ()) (a := some ()) (b := none) (tgt := 1455) ok dL_law_794 (by decide) (if_pos he) (fun _ _ => ?_) (fun h9 _ => absurd he h9)
    exact kk _ _ _ _ oka hk2 rfl
set_option maxRecDepth 20000 in
theorem lw_c19 {X : Zx} {Q : State → Prop} {b LL i k1 k2 : Nat} {xs : Nat → Int32} {σ : Sg} {s : Nat × Sg} (oka : Zoka X code R_law room_1 198 4 k1) (hn1 : k1 = X.2.2.1.2.2.2) (hn2 : X.2.2.1.2.2.2 ≤ 90000) (hk2 : k2 ≤ 48132 + 67 * (X.2.2.1.2.2.2 - 198)) (hX : va_X b LL xs X.1.2.2.2.2 X.1.2.2.2.2.heap) (hbl : b < X.1.2.2.2.2.heap.size) (hbA : ¬ X.2.2.2.1 b) (hL : LL < 2 ^ 31) (hi : i + 6 ≤ LL) (h : Lw_19 xs i X.2.2.1.2.2.2 σ = some s) (kk : lw_K X Q b i s) : ZAt X Q k1 k2 799 σ [(0, .ref b), (1, .ref (X.ad 0)), (2, .ref (X.ad 171)), (3, .int (nI i))] [] := by
  unfold Lw_19 at h
  have ok := oka.1
  have ok0 := oka.1
  have hkR : k1 ≤ room_1.cells ∧ k2 ≤ room_1.slots := ⟨by show k1 ≤ 600000; omega, by show k2 ≤ 7302250; omega⟩
  refine z_aload_n ok dL_law_799 1 rfl ?_
  refine z_aload_n ok dL_law_800 0 rfl ?_
  refine z_iload_n ok dL_law_801 3 rfl ?_
  refine z_iconst (v := nI 1) ok dL_law_802 (by decide) ?_
  refine z_iadd ok dL_law_803 ?_
  refine z_sld ok hX hbl hbA (i + 1) (by omega) hL (nI_ad i 1) dL_law_804 ?_
  refine z_aload_n ok dL_law_805 0 rfl ?_
  refine z_iload_n ok dL_law_806 3 rfl ?_
  refine z_iconst (v := nI 2) ok dL_law_807 (by decide) ?_
  refine z_iadd ok dL_law_808 ?_
  refine z_sld ok hX hbl hbA (i + 2) (by omega) hL (nI_ad i 2) dL_law_809 ?_
  refine z_aload_n ok dL_law_810 0 rfl ?_
  refine z_iload_n ok dL_law_811 3 rfl ?_
  refine z_iconst (v := nI 3) ok dL_law_812 (by decide) ?_
  refine z_iadd ok dL_law_813 ?_
  refine z_sld ok hX hbl hbA (i + 3) (by omega) hL (nI_ad i 3) dL_law_814 ?_
  obtain ⟨r, hr, h⟩ := zbind h
  refine z_cV (As := [.int (xs (i + 1)), .int (xs (i + 2)), .int (xs (i + 3))]) (rest := []) (w := 0) ok kc_0 zc_11 (c_CK_flow hr) rfl ⟨mlL_95, w_CK_flow⟩ hy_CK_flow ⟨rfl, rfl⟩ ⟨Nat.le_of_ble_eq_true rfl, Nat.le_of_ble_eq_true rfl⟩ hkR rfl (Nat.le_of_ble_eq_true rfl) dL_law_815 ?_
  refine z_aload_n ok dL_law_818 2 rfl ?_
  refine z_aload_n ok dL_law_819 0 rfl ?_
  refine z_iload_n ok dL_law_820 3 rfl ?_
  refine z_iconst (v := nI 1) ok dL_law_821 (by decide) ?_
  refine z_iadd ok dL_law_822 ?_
  refine z_sld ok hX hbl hbA (i + 1) (by omega) hL (nI_ad i 1) dL_law_823 ?_
  refine z_aload_n ok dL_law_824 0 rfl ?_
  refine z_iload_n ok dL_law_825 3 rfl ?_
  refine z_iconst (v := nI 2) ok dL_law_826 (by decide) ?_
  refine z_iadd ok dL_law_827 ?_
  refine z_sld ok hX hbl hbA (i + 2) (by omega) hL (nI_ad i 2) dL_law_828 ?_
  refine z_aload_n ok dL_law_829 0 rfl ?_
  refine z_iload_n ok dL_law_830 3 rfl ?_
  refine z_iconst (v := nI 3) ok dL_law_831 (by decide) ?_
  refine z_iadd ok dL_law_832 ?_
  refine z_sld ok hX hbl hbA (i + 3) (by omega) hL (nI_ad i 3) dL_law_833 ?_
  obtain ⟨q, hq, h⟩ := zbind h
  refine z_cV (As := [.int (xs (i + 1)), .int (xs (i + 2)), .int (xs (i + 3))]) (rest := [.int r]) (w := 171) ok kc_171 zc_12 (c_M_flow hq) rfl ⟨mlL_98, w_M_flow⟩ hy_M_flow ⟨rfl, rfl⟩ ⟨Nat.le_of_ble_eq_true rfl, Nat.le_of_ble_eq_true rfl⟩ hkR rfl (Nat.le_of_ble_eq_true rfl) dL_law_834 ?_
  by_cases he : r = q
  case neg => rw [if_neg he] at h; cases h
  case pos =>
    rw [if_pos he] at h
    obtain rfl := Option.some.inj h
    refine z_icmp_eq (α := Unit) (out := ()) (a := some ()) (b := none) (tgt := 1455) ok dL_law_837 (by decide) (if_pos he) (fun _ _ => ?_) (fun h9 _ => absurd he h9)
    exact kk _ _ _ _ oka hk2 rfl
set_option maxRecDepth 20000 in
theorem lw_c20 {X : Zx} {Q : State → Prop} {b LL i k1 k2 : Nat} {xs : Nat → Int32} {σ : Sg} {s : Nat × Sg} (oka : Zoka X code R_law room_1 198 4 k1) (hn1 : k1 = X.2.2.1.2.2.2) (hn2 : X.2.2.1.2.2.2 ≤ 90000) (hk2 : k2 ≤ 48132 + 67 * (X.2.2.1.2.2.2 - 198)) (hX : va_X b LL xs X.1.2.2.2.2 X.1.2.2.2.2.heap) (hbl : b < X.1.2.2.2.2.heap.size) (hbA : ¬ X.2.2.2.1 b) (hL : LL < 2 ^ 31) (hi : i + 6 ≤ LL) (h : Lw_20 xs i X.2.2.1.2.2.2 σ = some s) (kk : lw_K X Q b i s) : ZAt X Q k1 k2 842 σ [(0, .ref b), (1, .ref (X.ad 0)), (2, .ref (X.ad 171)), (3, .int (nI i))] [] := by
  unfold Lw_20 at h
  have ok := oka.1
  have ok0 := oka.1
  have hkR : k1 ≤ room_1.cells ∧ k2 ≤ room_1.slots := ⟨by show k1 ≤ 600000; omega, by show k2 ≤ 7302250; omega⟩
  refine z_aload_n ok dL_law_842 1 rfl ?_
  refine z_aload_n ok dL_law_843 0 rfl ?_
  refine z_iload_n ok dL_law_844 3 rfl ?_
  refine z_iconst (v := nI 1) ok dL_law_845 (by decide) ?_
  refine z_iadd ok dL_law_846 ?_
  refine z_sld ok hX hbl hbA (i + 1) (by omega) hL (nI_ad i 1) dL_law_847 ?_
  refine z_aload_n ok dL_law_848 0 rfl ?_
  refine z_iload_n ok dL_law_849 3 rfl ?_
  refine z_iconst (v := nI 2) ok dL_law_850 (by decide) ?_
  refine z_iadd ok dL_law_851 ?_
  refine z_sld ok hX hbl hbA (i + 2) (by omega) hL (nI_ad i 2) dL_law_852 ?_
  obtain ⟨r, hr, h⟩ := zbind h
  refine z_cV (As := [.int (xs (i + 1)), .int (xs (i + 2))]) (rest := []) (w := 0) ok kc_0 zc_11 (c_CK_missing hr) rfl ⟨mlL_99, w_CK_missing⟩ hy_CK_missing ⟨rfl, rfl⟩ ⟨Nat.le_of_ble_eq_true rfl, Nat.le_of_ble_eq_true rfl⟩ hkR rfl (Nat.le_of_ble_eq_true rfl) dL_law_853 ?_
  refine z_aload_n ok dL_law_856 2 rfl ?_
  refine z_aload_n ok dL_law_857 0 rfl ?_
  refine z_iload_n ok dL_law_858 3 rfl ?_
  refine z_iconst (v := nI 1) ok dL_law_859 (by decide) ?_
  refine z_iadd ok dL_law_860 ?_
  refine z_sld ok hX hbl hbA (i + 1) (by omega) hL (nI_ad i 1) dL_law_861 ?_
  refine z_aload_n ok dL_law_862 0 rfl ?_
  refine z_iload_n ok dL_law_863 3 rfl ?_
  refine z_iconst (v := nI 2) ok dL_law_864 (by decide) ?_
  refine z_iadd ok dL_law_865 ?_
  refine z_sld ok hX hbl hbA (i + 2) (by omega) hL (nI_ad i 2) dL_law_866 ?_
  obtain ⟨q, hq, h⟩ := zbind h
  refine z_cV (As := [.int (xs (i + 1)), .int (xs (i + 2))]) (rest := [.int r]) (w := 171) ok kc_171 zc_12 (c_M_missing hq) rfl ⟨mlL_102, w_M_missing⟩ hy_M_missing ⟨rfl, rfl⟩ ⟨Nat.le_of_ble_eq_true rfl, Nat.le_of_ble_eq_true rfl⟩ hkR rfl (Nat.le_of_ble_eq_true rfl) dL_law_867 ?_
  by_cases he : r = q
  case neg => rw [if_neg he] at h; cases h
  case pos =>
    rw [if_pos he] at h
    obtain rfl := Option.some.inj h
    refine z_icmp_eq (α := Unit) (out := ()) (a := some ()) (b := none) (tgt := 1455) ok dL_law_870 (by decide) (if_pos he) (fun _ _ => ?_) (fun h9 _ => absurd he h9)
    exact kk _ _ _ _ oka hk2 rfl
set_option maxRecDepth 20000 in
theorem lw_c21 {X : Zx} {Q : State → Prop} {b LL i k1 k2 : Nat} {xs : Nat → Int32} {σ : Sg} {s : Nat × Sg} (oka : Zoka X code R_law room_1 198 4 k1) (hn1 : k1 = X.2.2.1.2.2.2) (hn2 : X.2.2.1.2.2.2 ≤ 90000) (hk2 : k2 ≤ 48132 + 67 * (X.2.2.1.2.2.2 - 198)) (hX : va_X b LL xs X.1.2.2.2.2 X.1.2.2.2.2.heap) (hbl : b < X.1.2.2.2.2.heap.size) (hbA : ¬ X.2.2.2.1 b) (hL : LL < 2 ^ 31) (hi : i + 6 ≤ LL) (h : Lw_21 xs i X.2.2.1.2.2.2 σ = some s) (kk : lw_K X Q b i s) : ZAt X Q k1 k2 875 σ [(0, .ref b), (1, .ref (X.ad 0)), (2, .ref (X.ad 171)), (3, .int (nI i))] [] := by
  unfold Lw_21 at h
  have ok := oka.1
  have ok0 := oka.1
  have hkR : k1 ≤ room_1.cells ∧ k2 ≤ room_1.slots := ⟨by show k1 ≤ 600000; omega, by show k2 ≤ 7302250; omega⟩
  refine z_aload_n ok dL_law_875 1 rfl ?_
  refine z_aload_n ok dL_law_876 0 rfl ?_
  refine z_iload_n ok dL_law_877 3 rfl ?_
  refine z_iconst (v := nI 1) ok dL_law_878 (by decide) ?_
  refine z_iadd ok dL_law_879 ?_
  refine z_sld ok hX hbl hbA (i + 1) (by omega) hL (nI_ad i 1) dL_law_880 ?_
  refine z_aload_n ok dL_law_881 0 rfl ?_
  refine z_iload_n ok dL_law_882 3 rfl ?_
  refine z_iconst (v := nI 2) ok dL_law_883 (by decide) ?_
  refine z_iadd ok dL_law_884 ?_
  refine z_sld ok hX hbl hbA (i + 2) (by omega) hL (nI_ad i 2) dL_law_885 ?_
  obtain ⟨r, hr, h⟩ := zbind h
  refine z_cV (As := [.int (xs (i + 1)), .int (xs (i + 2))]) (rest := []) (w := 0) ok kc_0 zc_11 (c_CK_later hr) rfl ⟨mlL_103, w_CK_later⟩ hy_CK_later ⟨rfl, rfl⟩ ⟨Nat.le_of_ble_eq_true rfl, Nat.le_of_ble_eq_true rfl⟩ hkR rfl (Nat.le_of_ble_eq_true rfl) dL_law_886 ?_
  refine z_aload_n ok dL_law_889 2 rfl ?_
  refine z_aload_n ok dL_law_890 0 rfl ?_
  refine z_iload_n ok dL_law_891 3 rfl ?_
  refine z_iconst (v := nI 1) ok dL_law_892 (by decide) ?_
  refine z_iadd ok dL_law_893 ?_
  refine z_sld ok hX hbl hbA (i + 1) (by omega) hL (nI_ad i 1) dL_law_894 ?_
  refine z_aload_n ok dL_law_895 0 rfl ?_
  refine z_iload_n ok dL_law_896 3 rfl ?_
  refine z_iconst (v := nI 2) ok dL_law_897 (by decide) ?_
  refine z_iadd ok dL_law_898 ?_
  refine z_sld ok hX hbl hbA (i + 2) (by omega) hL (nI_ad i 2) dL_law_899 ?_
  obtain ⟨q, hq, h⟩ := zbind h
  refine z_cV (As := [.int (xs (i + 1)), .int (xs (i + 2))]) (rest := [.int r.1]) (w := 171) ok kc_171 zc_12 (c_M_later hq) rfl ⟨mlL_106, w_M_later⟩ hy_M_later ⟨rfl, rfl⟩ ⟨Nat.le_of_ble_eq_true rfl, Nat.le_of_ble_eq_true rfl⟩ hkR rfl (Nat.le_of_ble_eq_true rfl) dL_law_900 ?_
  by_cases he : r.1 = q.1
  case neg => rw [if_neg he] at h; cases h
  case pos =>
    rw [if_pos he] at h
    obtain rfl := Option.some.inj h
    refine z_icmp_eq (α := Unit) (out := ()) (a := some ()) (b := none) (tgt := 1455) ok dL_law_903 (by decide) (if_pos he) (fun _ _ => ?_) (fun h9 _ => absurd he h9)
    exact kk _ _ _ _ oka hk2 rfl
set_option maxRecDepth 20000 in
theorem lw_c22 {X : Zx} {Q : State → Prop} {b LL i k1 k2 : Nat} {xs : Nat → Int32} {σ : Sg} {s : Nat × Sg} (oka : Zoka X code R_law room_1 198 4 k1) (hn1 : k1 = X.2.2.1.2.2.2) (hn2 : X.2.2.1.2.2.2 ≤ 90000) (hk2 : k2 ≤ 48132 + 67 * (X.2.2.1.2.2.2 - 198)) (hX : va_X b LL xs X.1.2.2.2.2 X.1.2.2.2.2.heap) (hbl : b < X.1.2.2.2.2.heap.size) (hbA : ¬ X.2.2.2.1 b) (hL : LL < 2 ^ 31) (hi : i + 6 ≤ LL) (h : Lw_22 xs i X.2.2.1.2.2.2 σ = some s) (kk : lw_K X Q b i s) : ZAt X Q k1 k2 908 σ [(0, .ref b), (1, .ref (X.ad 0)), (2, .ref (X.ad 171)), (3, .int (nI i))] [] := by
  unfold Lw_22 at h
  have ok := oka.1
  have ok0 := oka.1
  have hkR : k1 ≤ room_1.cells ∧ k2 ≤ room_1.slots := ⟨by show k1 ≤ 600000; omega, by show k2 ≤ 7302250; omega⟩
  refine z_aload_n ok dL_law_908 1 rfl ?_
  refine z_aload_n ok dL_law_909 0 rfl ?_
  refine z_iload_n ok dL_law_910 3 rfl ?_
  refine z_iconst (v := nI 1) ok dL_law_911 (by decide) ?_
  refine z_iadd ok dL_law_912 ?_
  refine z_sld ok hX hbl hbA (i + 1) (by omega) hL (nI_ad i 1) dL_law_913 ?_
  refine z_aload_n ok dL_law_914 0 rfl ?_
  refine z_iload_n ok dL_law_915 3 rfl ?_
  refine z_iconst (v := nI 2) ok dL_law_916 (by decide) ?_
  refine z_iadd ok dL_law_917 ?_
  refine z_sld ok hX hbl hbA (i + 2) (by omega) hL (nI_ad i 2) dL_law_918 ?_
  obtain ⟨r, hr, h⟩ := zbind h
  refine z_cV (As := [.int (xs (i + 1)), .int (xs (i + 2))]) (rest := []) (w := 0) ok kc_0 zc_11 (c_CK_opening hr) rfl ⟨mlL_107, w_CK_opening⟩ hy_CK_opening ⟨rfl, rfl⟩ ⟨Nat.le_of_ble_eq_true rfl, Nat.le_of_ble_eq_true rfl⟩ hkR rfl (Nat.le_of_ble_eq_true rfl) dL_law_919 ?_
  refine z_aload_n ok dL_law_922 2 rfl ?_
  refine z_aload_n ok dL_law_923 0 rfl ?_
  refine z_iload_n ok dL_law_924 3 rfl ?_
  refine z_iconst (v := nI 1) ok dL_law_925 (by decide) ?_
  refine z_iadd ok dL_law_926 ?_
  refine z_sld ok hX hbl hbA (i + 1) (by omega) hL (nI_ad i 1) dL_law_927 ?_
  refine z_aload_n ok dL_law_928 0 rfl ?_
  refine z_iload_n ok dL_law_929 3 rfl ?_
  refine z_iconst (v := nI 2) ok dL_law_930 (by decide) ?_
  refine z_iadd ok dL_law_931 ?_
  refine z_sld ok hX hbl hbA (i + 2) (by omega) hL (nI_ad i 2) dL_law_932 ?_
  obtain ⟨q, hq, h⟩ := zbind h
  refine z_cV (As := [.int (xs (i + 1)), .int (xs (i + 2))]) (rest := [.int r.1]) (w := 171) ok kc_171 zc_12 (c_M_opening hq) rfl ⟨mlL_110, w_M_opening⟩ hy_M_opening ⟨rfl, rfl⟩ ⟨Nat.le_of_ble_eq_true rfl, Nat.le_of_ble_eq_true rfl⟩ hkR rfl (Nat.le_of_ble_eq_true rfl) dL_law_933 ?_
  by_cases he : r.1 = q.1
  case neg => rw [if_neg he] at h; cases h
  case pos =>
    rw [if_pos he] at h
    obtain rfl := Option.some.inj h
    refine z_icmp_eq (α := Unit) (out := ()) (a := some ()) (b := none) (tgt := 1455) ok dL_law_936 (by decide) (if_pos he) (fun _ _ => ?_) (fun h9 _ => absurd he h9)
    exact kk _ _ _ _ oka hk2 rfl
set_option maxRecDepth 20000 in
theorem lw_c23 {X : Zx} {Q : State → Prop} {b LL i k1 k2 : Nat} {xs : Nat → Int32} {σ : Sg} {s : Nat × Sg} (oka : Zoka X code R_law room_1 198 4 k1) (hn1 : k1 = X.2.2.1.2.2.2) (hn2 : X.2.2.1.2.2.2 ≤ 90000) (hk2 : k2 ≤ 48132 + 67 * (X.2.2.1.2.2.2 - 198)) (hX : va_X b LL xs X.1.2.2.2.2 X.1.2.2.2.2.heap) (hbl : b < X.1.2.2.2.2.heap.size) (hbA : ¬ X.2.2.2.1 b) (hL : LL < 2 ^ 31) (hi : i + 6 ≤ LL) (h : Lw_23 xs i X.2.2.1.2.2.2 σ = some s) (kk : lw_K X Q b i s) : ZAt X Q k1 k2 941 σ [(0, .ref b), (1, .ref (X.ad 0)), (2, .ref (X.ad 171)), (3, .int (nI i))] [] := by
  unfold Lw_23 at h
  have ok := oka.1
  have ok0 := oka.1
  have hkR : k1 ≤ room_1.cells ∧ k2 ≤ room_1.slots := ⟨by show k1 ≤ 600000; omega, by show k2 ≤ 7302250; omega⟩
  refine z_aload_n ok dL_law_941 1 rfl ?_
  refine z_aload_n ok dL_law_942 0 rfl ?_
  refine z_iload_n ok dL_law_943 3 rfl ?_
  refine z_iconst (v := nI 1) ok dL_law_944 (by decide) ?_
  refine z_iadd ok dL_law_945 ?_
  refine z_sld ok hX hbl hbA (i + 1) (by omega) hL (nI_ad i 1) dL_law_946 ?_
  refine z_aload_n ok dL_law_947 0 rfl ?_
  refine z_iload_n ok dL_law_948 3 rfl ?_
  refine z_iconst (v := nI 2) ok dL_law_949 (by decide) ?_
  refine z_iadd ok dL_law_950 ?_
  refine z_sld ok hX hbl hbA (i + 2) (by omega) hL (nI_ad i 2) dL_law_951 ?_
  obtain ⟨r, hr, h⟩ := zbind h
  refine z_cV (As := [.int (xs (i + 1)), .int (xs (i + 2))]) (rest := []) (w := 0) ok kc_0 zc_11 (c_CK_when hr) rfl ⟨mlL_111, w_CK_when⟩ hy_CK_when ⟨rfl, rfl⟩ ⟨Nat.le_of_ble_eq_true rfl, Nat.le_of_ble_eq_true rfl⟩ hkR rfl (Nat.le_of_ble_eq_true rfl) dL_law_952 ?_
  refine z_aload_n ok dL_law_955 2 rfl ?_
  refine z_aload_n ok dL_law_956 0 rfl ?_
  refine z_iload_n ok dL_law_957 3 rfl ?_
  refine z_iconst (v := nI 1) ok dL_law_958 (by decide) ?_
  refine z_iadd ok dL_law_959 ?_
  refine z_sld ok hX hbl hbA (i + 1) (by omega) hL (nI_ad i 1) dL_law_960 ?_
  refine z_aload_n ok dL_law_961 0 rfl ?_
  refine z_iload_n ok dL_law_962 3 rfl ?_
  refine z_iconst (v := nI 2) ok dL_law_963 (by decide) ?_
  refine z_iadd ok dL_law_964 ?_
  refine z_sld ok hX hbl hbA (i + 2) (by omega) hL (nI_ad i 2) dL_law_965 ?_
  obtain ⟨q, hq, h⟩ := zbind h
  refine z_cV (As := [.int (xs (i + 1)), .int (xs (i + 2))]) (rest := [.int r.1]) (w := 171) ok kc_171 zc_12 (c_M_when hq) rfl ⟨mlL_114, w_M_when⟩ hy_M_when ⟨rfl, rfl⟩ ⟨Nat.le_of_ble_eq_true rfl, Nat.le_of_ble_eq_true rfl⟩ hkR rfl (Nat.le_of_ble_eq_true rfl) dL_law_966 ?_
  by_cases he : r.1 = q.1
  case neg => rw [if_neg he] at h; cases h
  case pos =>
    rw [if_pos he] at h
    obtain rfl := Option.some.inj h
    refine z_icmp_eq (α := Unit) (out := ()) (a := some ()) (b := none) (tgt := 1455) ok dL_law_969 (by decide) (if_pos he) (fun _ _ => ?_) (fun h9 _ => absurd he h9)
    exact kk _ _ _ _ oka hk2 rfl
set_option maxRecDepth 20000 in
theorem lw_c24 {X : Zx} {Q : State → Prop} {b LL i k1 k2 : Nat} {xs : Nat → Int32} {σ : Sg} {s : Nat × Sg} (oka : Zoka X code R_law room_1 198 4 k1) (hn1 : k1 = X.2.2.1.2.2.2) (hn2 : X.2.2.1.2.2.2 ≤ 90000) (hk2 : k2 ≤ 48132 + 67 * (X.2.2.1.2.2.2 - 198)) (hX : va_X b LL xs X.1.2.2.2.2 X.1.2.2.2.2.heap) (hbl : b < X.1.2.2.2.2.heap.size) (hbA : ¬ X.2.2.2.1 b) (hL : LL < 2 ^ 31) (hi : i + 6 ≤ LL) (h : Lw_24 xs i X.2.2.1.2.2.2 σ = some s) (kk : lw_K X Q b i s) : ZAt X Q k1 k2 974 σ [(0, .ref b), (1, .ref (X.ad 0)), (2, .ref (X.ad 171)), (3, .int (nI i))] [] := by
  unfold Lw_24 at h
  have ok := oka.1
  have ok0 := oka.1
  have hkR : k1 ≤ room_1.cells ∧ k2 ≤ room_1.slots := ⟨by show k1 ≤ 600000; omega, by show k2 ≤ 7302250; omega⟩
  refine z_aload_n ok dL_law_974 1 rfl ?_
  refine z_aload_n ok dL_law_975 0 rfl ?_
  refine z_iload_n ok dL_law_976 3 rfl ?_
  refine z_iconst (v := nI 1) ok dL_law_977 (by decide) ?_
  refine z_iadd ok dL_law_978 ?_
  refine z_sld ok hX hbl hbA (i + 1) (by omega) hL (nI_ad i 1) dL_law_979 ?_
  refine z_aload_n ok dL_law_980 0 rfl ?_
  refine z_iload_n ok dL_law_981 3 rfl ?_
  refine z_iconst (v := nI 2) ok dL_law_982 (by decide) ?_
  refine z_iadd ok dL_law_983 ?_
  refine z_sld ok hX hbl hbA (i + 2) (by omega) hL (nI_ad i 2) dL_law_984 ?_
  obtain ⟨r, hr, h⟩ := zbind h
  refine z_cV (As := [.int (xs (i + 1)), .int (xs (i + 2))]) (rest := []) (w := 0) ok kc_0 zc_11 (c_CK_lacks hr) rfl ⟨mlL_115, w_CK_lacks⟩ hy_CK_lacks ⟨rfl, rfl⟩ ⟨Nat.le_of_ble_eq_true rfl, Nat.le_of_ble_eq_true rfl⟩ hkR rfl (Nat.le_of_ble_eq_true rfl) dL_law_985 ?_
  refine z_aload_n ok dL_law_988 2 rfl ?_
  refine z_aload_n ok dL_law_989 0 rfl ?_
  refine z_iload_n ok dL_law_990 3 rfl ?_
  refine z_iconst (v := nI 1) ok dL_law_991 (by decide) ?_
  refine z_iadd ok dL_law_992 ?_
  refine z_sld ok hX hbl hbA (i + 1) (by omega) hL (nI_ad i 1) dL_law_993 ?_
  refine z_aload_n ok dL_law_994 0 rfl ?_
  refine z_iload_n ok dL_law_995 3 rfl ?_
  refine z_iconst (v := nI 2) ok dL_law_996 (by decide) ?_
  refine z_iadd ok dL_law_997 ?_
  refine z_sld ok hX hbl hbA (i + 2) (by omega) hL (nI_ad i 2) dL_law_998 ?_
  obtain ⟨q, hq, h⟩ := zbind h
  refine z_cV (As := [.int (xs (i + 1)), .int (xs (i + 2))]) (rest := [.int r.1]) (w := 171) ok kc_171 zc_12 (c_M_lacks hq) rfl ⟨mlL_118, w_M_lacks⟩ hy_M_lacks ⟨rfl, rfl⟩ ⟨Nat.le_of_ble_eq_true rfl, Nat.le_of_ble_eq_true rfl⟩ hkR rfl (Nat.le_of_ble_eq_true rfl) dL_law_999 ?_
  by_cases he : r.1 = q.1
  case neg => rw [if_neg he] at h; cases h
  case pos =>
    rw [if_pos he] at h
    obtain rfl := Option.some.inj h
    refine z_icmp_eq (α := Unit) (out := ()) (a := some ()) (b := none) (tgt := 1455) ok dL_law_1002 (by decide) (if_pos he) (fun _ _ => ?_) (fun h9 _ => absurd he h9)
    exact kk _ _ _ _ oka hk2 rfl
set_option maxRecDepth 20000 in
theorem lw_c25 {X : Zx} {Q : State → Prop} {b LL i k1 k2 : Nat} {xs : Nat → Int32} {σ : Sg} {s : Nat × Sg} (oka : Zoka X code R_law room_1 198 4 k1) (hn1 : k1 = X.2.2.1.2.2.2) (hn2 : X.2.2.1.2.2.2 ≤ 90000) (hk2 : k2 ≤ 48132 + 67 * (X.2.2.1.2.2.2 - 198)) (hX : va_X b LL xs X.1.2.2.2.2 X.1.2.2.2.2.heap) (hbl : b < X.1.2.2.2.2.heap.size) (hbA : ¬ X.2.2.2.1 b) (hL : LL < 2 ^ 31) (hi : i + 6 ≤ LL) (h : Lw_25 xs i X.2.2.1.2.2.2 σ = some s) (kk : lw_K X Q b i s) : ZAt X Q k1 k2 1007 σ [(0, .ref b), (1, .ref (X.ad 0)), (2, .ref (X.ad 171)), (3, .int (nI i))] [] := by
  unfold Lw_25 at h
  have ok := oka.1
  have ok0 := oka.1
  have hkR : k1 ≤ room_1.cells ∧ k2 ≤ room_1.slots := ⟨by show k1 ≤ 600000; omega, by show k2 ≤ 7302250; omega⟩
  refine z_aload_n ok dL_law_1007 1 rfl ?_
  refine z_aload_n ok dL_law_1008 0 rfl ?_
  refine z_iload_n ok dL_law_1009 3 rfl ?_
  refine z_iconst (v := nI 1) ok dL_law_1010 (by decide) ?_
  refine z_iadd ok dL_law_1011 ?_
  refine z_sld ok hX hbl hbA (i + 1) (by omega) hL (nI_ad i 1) dL_law_1012 ?_
  obtain ⟨r, hr, h⟩ := zbind h
  refine z_cV (As := [.int (xs (i + 1))]) (rest := []) (w := 0) ok kc_0 zc_11 (c_CK_least hr) rfl ⟨mlL_119, w_CK_least⟩ hy_CK_least ⟨rfl, rfl⟩ ⟨Nat.le_of_ble_eq_true rfl, Nat.le_of_ble_eq_true rfl⟩ hkR rfl (Nat.le_of_ble_eq_true rfl) dL_law_1013 ?_
  refine z_aload_n ok dL_law_1016 2 rfl ?_
  refine z_aload_n ok dL_law_1017 0 rfl ?_
  refine z_iload_n ok dL_law_1018 3 rfl ?_
  refine z_iconst (v := nI 1) ok dL_law_1019 (by decide) ?_
  refine z_iadd ok dL_law_1020 ?_
  refine z_sld ok hX hbl hbA (i + 1) (by omega) hL (nI_ad i 1) dL_law_1021 ?_
  obtain ⟨q, hq, h⟩ := zbind h
  refine z_cV (As := [.int (xs (i + 1))]) (rest := [.int r.1]) (w := 171) ok kc_171 zc_12 (c_M_least hq) rfl ⟨mlL_122, w_M_least⟩ hy_M_least ⟨rfl, rfl⟩ ⟨Nat.le_of_ble_eq_true rfl, Nat.le_of_ble_eq_true rfl⟩ hkR rfl (Nat.le_of_ble_eq_true rfl) dL_law_1022 ?_
  by_cases he : r.1 = q.1
  case neg => rw [if_neg he] at h; cases h
  case pos =>
    rw [if_pos he] at h
    obtain rfl := Option.some.inj h
    refine z_icmp_eq (α := Unit) (out := ()) (a := some ()) (b := none) (tgt := 1455) ok dL_law_1025 (by decide) (if_pos he) (fun _ _ => ?_) (fun h9 _ => absurd he h9)
    exact kk _ _ _ _ oka hk2 rfl
set_option maxRecDepth 20000 in
theorem lw_c26 {X : Zx} {Q : State → Prop} {b LL i k1 k2 : Nat} {xs : Nat → Int32} {σ : Sg} {s : Nat × Sg} (oka : Zoka X code R_law room_1 198 4 k1) (hn1 : k1 = X.2.2.1.2.2.2) (hn2 : X.2.2.1.2.2.2 ≤ 90000) (hk2 : k2 ≤ 48132 + 67 * (X.2.2.1.2.2.2 - 198)) (hX : va_X b LL xs X.1.2.2.2.2 X.1.2.2.2.2.heap) (hbl : b < X.1.2.2.2.2.heap.size) (hbA : ¬ X.2.2.2.1 b) (hL : LL < 2 ^ 31) (hi : i + 6 ≤ LL) (h : Lw_26 xs i X.2.2.1.2.2.2 σ = some s) (kk : lw_K X Q b i s) : ZAt X Q k1 k2 1030 σ [(0, .ref b), (1, .ref (X.ad 0)), (2, .ref (X.ad 171)), (3, .int (nI i))] [] := by
  unfold Lw_26 at h
  have ok := oka.1
  have ok0 := oka.1
  have hkR : k1 ≤ room_1.cells ∧ k2 ≤ room_1.slots := ⟨by show k1 ≤ 600000; omega, by show k2 ≤ 7302250; omega⟩
  refine z_aload_n ok dL_law_1030 1 rfl ?_
  refine z_aload_n ok dL_law_1031 0 rfl ?_
  refine z_iload_n ok dL_law_1032 3 rfl ?_
  refine z_iconst (v := nI 1) ok dL_law_1033 (by decide) ?_
  refine z_iadd ok dL_law_1034 ?_
  refine z_sld ok hX hbl hbA (i + 1) (by omega) hL (nI_ad i 1) dL_law_1035 ?_
  refine z_aload_n ok dL_law_1036 0 rfl ?_
  refine z_iload_n ok dL_law_1037 3 rfl ?_
  refine z_iconst (v := nI 2) ok dL_law_1038 (by decide) ?_
  refine z_iadd ok dL_law_1039 ?_
  refine z_sld ok hX hbl hbA (i + 2) (by omega) hL (nI_ad i 2) dL_law_1040 ?_
  obtain ⟨r, hr, h⟩ := zbind h
  refine z_cV (As := [.int (xs (i + 1)), .int (xs (i + 2))]) (rest := []) (w := 0) ok kc_0 zc_11 (c_CK_gain hr) rfl ⟨mlL_123, w_CK_gain⟩ hy_CK_gain ⟨rfl, rfl⟩ ⟨Nat.le_of_ble_eq_true rfl, Nat.le_of_ble_eq_true rfl⟩ hkR rfl (Nat.le_of_ble_eq_true rfl) dL_law_1041 ?_
  refine z_aload_n ok dL_law_1044 2 rfl ?_
  refine z_aload_n ok dL_law_1045 0 rfl ?_
  refine z_iload_n ok dL_law_1046 3 rfl ?_
  refine z_iconst (v := nI 1) ok dL_law_1047 (by decide) ?_
  refine z_iadd ok dL_law_1048 ?_
  refine z_sld ok hX hbl hbA (i + 1) (by omega) hL (nI_ad i 1) dL_law_1049 ?_
  refine z_aload_n ok dL_law_1050 0 rfl ?_
  refine z_iload_n ok dL_law_1051 3 rfl ?_
  refine z_iconst (v := nI 2) ok dL_law_1052 (by decide) ?_
  refine z_iadd ok dL_law_1053 ?_
  refine z_sld ok hX hbl hbA (i + 2) (by omega) hL (nI_ad i 2) dL_law_1054 ?_
  obtain ⟨q, hq, h⟩ := zbind h
  refine z_cV (As := [.int (xs (i + 1)), .int (xs (i + 2))]) (rest := [.int r.1]) (w := 171) ok kc_171 zc_12 (c_M_gain hq) rfl ⟨mlL_126, w_M_gain⟩ hy_M_gain ⟨rfl, rfl⟩ ⟨Nat.le_of_ble_eq_true rfl, Nat.le_of_ble_eq_true rfl⟩ hkR rfl (Nat.le_of_ble_eq_true rfl) dL_law_1055 ?_
  by_cases he : r.1 = q.1
  case neg => rw [if_neg he] at h; cases h
  case pos =>
    rw [if_pos he] at h
    obtain rfl := Option.some.inj h
    refine z_icmp_eq (α := Unit) (out := ()) (a := some ()) (b := none) (tgt := 1455) ok dL_law_1058 (by decide) (if_pos he) (fun _ _ => ?_) (fun h9 _ => absurd he h9)
    exact kk _ _ _ _ oka hk2 rfl
set_option maxRecDepth 20000 in
theorem lw_c27 {X : Zx} {Q : State → Prop} {b LL i k1 k2 : Nat} {xs : Nat → Int32} {σ : Sg} {s : Nat × Sg} (oka : Zoka X code R_law room_1 198 4 k1) (hn1 : k1 = X.2.2.1.2.2.2) (hn2 : X.2.2.1.2.2.2 ≤ 90000) (hk2 : k2 ≤ 48132 + 67 * (X.2.2.1.2.2.2 - 198)) (hX : va_X b LL xs X.1.2.2.2.2 X.1.2.2.2.2.heap) (hbl : b < X.1.2.2.2.2.heap.size) (hbA : ¬ X.2.2.2.1 b) (hL : LL < 2 ^ 31) (hi : i + 6 ≤ LL) (h : Lw_27 xs i X.2.2.1.2.2.2 σ = some s) (kk : lw_K X Q b i s) : ZAt X Q k1 k2 1063 σ [(0, .ref b), (1, .ref (X.ad 0)), (2, .ref (X.ad 171)), (3, .int (nI i))] [] := by
  unfold Lw_27 at h
  have ok := oka.1
  have ok0 := oka.1
  have hkR : k1 ≤ room_1.cells ∧ k2 ≤ room_1.slots := ⟨by show k1 ≤ 600000; omega, by show k2 ≤ 7302250; omega⟩
  refine z_aload_n ok dL_law_1063 1 rfl ?_
  refine z_aload_n ok dL_law_1064 0 rfl ?_
  refine z_iload_n ok dL_law_1065 3 rfl ?_
  refine z_iconst (v := nI 1) ok dL_law_1066 (by decide) ?_
  refine z_iadd ok dL_law_1067 ?_
  refine z_sld ok hX hbl hbA (i + 1) (by omega) hL (nI_ad i 1) dL_law_1068 ?_
  refine z_aload_n ok dL_law_1069 0 rfl ?_
  refine z_iload_n ok dL_law_1070 3 rfl ?_
  refine z_iconst (v := nI 2) ok dL_law_1071 (by decide) ?_
  refine z_iadd ok dL_law_1072 ?_
  refine z_sld ok hX hbl hbA (i + 2) (by omega) hL (nI_ad i 2) dL_law_1073 ?_
  refine z_aload_n ok dL_law_1074 0 rfl ?_
  refine z_iload_n ok dL_law_1075 3 rfl ?_
  refine z_iconst (v := nI 3) ok dL_law_1076 (by decide) ?_
  refine z_iadd ok dL_law_1077 ?_
  refine z_sld ok hX hbl hbA (i + 3) (by omega) hL (nI_ad i 3) dL_law_1078 ?_
  obtain ⟨r, hr, h⟩ := zbind h
  refine z_cV (As := [.int (xs (i + 1)), .int (xs (i + 2)), .int (xs (i + 3))]) (rest := []) (w := 0) ok kc_0 zc_11 (c_CK_best hr) rfl ⟨mlL_127, w_CK_best⟩ hy_CK_best ⟨rfl, rfl⟩ ⟨Nat.le_of_ble_eq_true rfl, Nat.le_of_ble_eq_true rfl⟩ hkR rfl (Nat.le_of_ble_eq_true rfl) dL_law_1079 ?_
  refine z_aload_n ok dL_law_1082 2 rfl ?_
  refine z_aload_n ok dL_law_1083 0 rfl ?_
  refine z_iload_n ok dL_law_1084 3 rfl ?_
  refine z_iconst (v := nI 1) ok dL_law_1085 (by decide) ?_
  refine z_iadd ok dL_law_1086 ?_
  refine z_sld ok hX hbl hbA (i + 1) (by omega) hL (nI_ad i 1) dL_law_1087 ?_
  refine z_aload_n ok dL_law_1088 0 rfl ?_
  refine z_iload_n ok dL_law_1089 3 rfl ?_
  refine z_iconst (v := nI 2) ok dL_law_1090 (by decide) ?_
  refine z_iadd ok dL_law_1091 ?_
  refine z_sld ok hX hbl hbA (i + 2) (by omega) hL (nI_ad i 2) dL_law_1092 ?_
  refine z_aload_n ok dL_law_1093 0 rfl ?_
  refine z_iload_n ok dL_law_1094 3 rfl ?_
  refine z_iconst (v := nI 3) ok dL_law_1095 (by decide) ?_
  refine z_iadd ok dL_law_1096 ?_
  refine z_sld ok hX hbl hbA (i + 3) (by omega) hL (nI_ad i 3) dL_law_1097 ?_
  obtain ⟨q, hq, h⟩ := zbind h
  refine z_cV (As := [.int (xs (i + 1)), .int (xs (i + 2)), .int (xs (i + 3))]) (rest := [.int r.1]) (w := 171) ok kc_171 zc_12 (c_M_best hq) rfl ⟨mlL_130, w_M_best⟩ hy_M_best ⟨rfl, rfl⟩ ⟨Nat.le_of_ble_eq_true rfl, Nat.le_of_ble_eq_true rfl⟩ hkR rfl (Nat.le_of_ble_eq_true rfl) dL_law_1098 ?_
  by_cases he : r.1 = q.1
  case neg => rw [if_neg he] at h; cases h
  case pos =>
    rw [if_pos he] at h
    obtain rfl := Option.some.inj h
    refine z_icmp_eq (α := Unit) (out := ()) (a := some ()) (b := none) (tgt := 1455) ok dL_law_1101 (by decide) (if_pos he) (fun _ _ => ?_) (fun h9 _ => absurd he h9)
    exact kk _ _ _ _ oka hk2 rfl
set_option maxRecDepth 20000 in
theorem lw_c28 {X : Zx} {Q : State → Prop} {b LL i k1 k2 : Nat} {xs : Nat → Int32} {σ : Sg} {s : Nat × Sg} (oka : Zoka X code R_law room_1 198 4 k1) (hn1 : k1 = X.2.2.1.2.2.2) (hn2 : X.2.2.1.2.2.2 ≤ 90000) (hk2 : k2 ≤ 48132 + 67 * (X.2.2.1.2.2.2 - 198)) (hX : va_X b LL xs X.1.2.2.2.2 X.1.2.2.2.2.heap) (hbl : b < X.1.2.2.2.2.heap.size) (hbA : ¬ X.2.2.2.1 b) (hL : LL < 2 ^ 31) (hi : i + 6 ≤ LL) (h : Lw_28 xs i X.2.2.1.2.2.2 σ = some s) (kk : lw_K X Q b i s) : ZAt X Q k1 k2 1106 σ [(0, .ref b), (1, .ref (X.ad 0)), (2, .ref (X.ad 171)), (3, .int (nI i))] [] := by
  unfold Lw_28 at h
  have ok := oka.1
  have ok0 := oka.1
  have hkR : k1 ≤ room_1.cells ∧ k2 ≤ room_1.slots := ⟨by show k1 ≤ 600000; omega, by show k2 ≤ 7302250; omega⟩
  refine z_aload_n ok dL_law_1106 1 rfl ?_
  refine z_aload_n ok dL_law_1107 0 rfl ?_
  refine z_iload_n ok dL_law_1108 3 rfl ?_
  refine z_iconst (v := nI 1) ok dL_law_1109 (by decide) ?_
  refine z_iadd ok dL_law_1110 ?_
  refine z_sld ok hX hbl hbA (i + 1) (by omega) hL (nI_ad i 1) dL_law_1111 ?_
  refine z_aload_n ok dL_law_1112 0 rfl ?_
  refine z_iload_n ok dL_law_1113 3 rfl ?_
  refine z_iconst (v := nI 2) ok dL_law_1114 (by decide) ?_
  refine z_iadd ok dL_law_1115 ?_
  refine z_sld ok hX hbl hbA (i + 2) (by omega) hL (nI_ad i 2) dL_law_1116 ?_
  obtain ⟨r, hr, h⟩ := zbind h
  refine z_cV (As := [.int (xs (i + 1)), .int (xs (i + 2))]) (rest := []) (w := 0) ok kc_0 zc_11 (c_CK_fits hr) rfl ⟨mlL_131, w_CK_fits⟩ hy_CK_fits ⟨rfl, rfl⟩ ⟨Nat.le_of_ble_eq_true rfl, Nat.le_of_ble_eq_true rfl⟩ hkR rfl (Nat.le_of_ble_eq_true rfl) dL_law_1117 ?_
  refine z_aload_n ok dL_law_1120 2 rfl ?_
  refine z_aload_n ok dL_law_1121 0 rfl ?_
  refine z_iload_n ok dL_law_1122 3 rfl ?_
  refine z_iconst (v := nI 1) ok dL_law_1123 (by decide) ?_
  refine z_iadd ok dL_law_1124 ?_
  refine z_sld ok hX hbl hbA (i + 1) (by omega) hL (nI_ad i 1) dL_law_1125 ?_
  refine z_aload_n ok dL_law_1126 0 rfl ?_
  refine z_iload_n ok dL_law_1127 3 rfl ?_
  refine z_iconst (v := nI 2) ok dL_law_1128 (by decide) ?_
  refine z_iadd ok dL_law_1129 ?_
  refine z_sld ok hX hbl hbA (i + 2) (by omega) hL (nI_ad i 2) dL_law_1130 ?_
  obtain ⟨q, hq, h⟩ := zbind h
  refine z_cV (As := [.int (xs (i + 1)), .int (xs (i + 2))]) (rest := [.int r.1]) (w := 171) ok kc_171 zc_12 (c_M_fits hq) rfl ⟨mlL_134, w_M_fits⟩ hy_M_fits ⟨rfl, rfl⟩ ⟨Nat.le_of_ble_eq_true rfl, Nat.le_of_ble_eq_true rfl⟩ hkR rfl (Nat.le_of_ble_eq_true rfl) dL_law_1131 ?_
  by_cases he : r.1 = q.1
  case neg => rw [if_neg he] at h; cases h
  case pos =>
    rw [if_pos he] at h
    obtain rfl := Option.some.inj h
    refine z_icmp_eq (α := Unit) (out := ()) (a := some ()) (b := none) (tgt := 1455) ok dL_law_1134 (by decide) (if_pos he) (fun _ _ => ?_) (fun h9 _ => absurd he h9)
    exact kk _ _ _ _ oka hk2 rfl
set_option maxRecDepth 20000 in
theorem lw_c29 {X : Zx} {Q : State → Prop} {b LL i k1 k2 : Nat} {xs : Nat → Int32} {σ : Sg} {s : Nat × Sg} (oka : Zoka X code R_law room_1 198 4 k1) (hn1 : k1 = X.2.2.1.2.2.2) (hn2 : X.2.2.1.2.2.2 ≤ 90000) (hk2 : k2 ≤ 48132 + 67 * (X.2.2.1.2.2.2 - 198)) (hX : va_X b LL xs X.1.2.2.2.2 X.1.2.2.2.2.heap) (hbl : b < X.1.2.2.2.2.heap.size) (hbA : ¬ X.2.2.2.1 b) (hL : LL < 2 ^ 31) (hi : i + 6 ≤ LL) (h : Lw_29 xs i X.2.2.1.2.2.2 σ = some s) (kk : lw_K X Q b i s) : ZAt X Q k1 k2 1139 σ [(0, .ref b), (1, .ref (X.ad 0)), (2, .ref (X.ad 171)), (3, .int (nI i))] [] := by
  unfold Lw_29 at h
  have ok := oka.1
  have ok0 := oka.1
  have hkR : k1 ≤ room_1.cells ∧ k2 ≤ room_1.slots := ⟨by show k1 ≤ 600000; omega, by show k2 ≤ 7302250; omega⟩
  refine z_aload_n ok dL_law_1139 1 rfl ?_
  refine z_aload_n ok dL_law_1140 0 rfl ?_
  refine z_iload_n ok dL_law_1141 3 rfl ?_
  refine z_iconst (v := nI 1) ok dL_law_1142 (by decide) ?_
  refine z_iadd ok dL_law_1143 ?_
  refine z_sld ok hX hbl hbA (i + 1) (by omega) hL (nI_ad i 1) dL_law_1144 ?_
  obtain ⟨r, hr, h⟩ := zbind h
  refine z_cV (As := [.int (xs (i + 1))]) (rest := []) (w := 0) ok kc_0 zc_11 (c_CK_see hr) rfl ⟨mlL_135, w_CK_see⟩ hy_CK_see ⟨rfl, rfl⟩ ⟨Nat.le_of_ble_eq_true rfl, Nat.le_of_ble_eq_true rfl⟩ hkR rfl (Nat.le_of_ble_eq_true rfl) dL_law_1145 ?_
  refine z_aload_n ok dL_law_1148 2 rfl ?_
  refine z_aload_n ok dL_law_1149 0 rfl ?_
  refine z_iload_n ok dL_law_1150 3 rfl ?_
  refine z_iconst (v := nI 1) ok dL_law_1151 (by decide) ?_
  refine z_iadd ok dL_law_1152 ?_
  refine z_sld ok hX hbl hbA (i + 1) (by omega) hL (nI_ad i 1) dL_law_1153 ?_
  obtain ⟨q, hq, h⟩ := zbind h
  refine z_cV (As := [.int (xs (i + 1))]) (rest := [.int r.1]) (w := 171) ok kc_171 zc_12 (c_M_see hq) rfl ⟨mlL_138, w_M_see⟩ hy_M_see ⟨rfl, rfl⟩ ⟨Nat.le_of_ble_eq_true rfl, Nat.le_of_ble_eq_true rfl⟩ hkR rfl (Nat.le_of_ble_eq_true rfl) dL_law_1154 ?_
  by_cases he : r.1 = q.1
  case neg => rw [if_neg he] at h; cases h
  case pos =>
    rw [if_pos he] at h
    obtain rfl := Option.some.inj h
    refine z_icmp_eq (α := Unit) (out := ()) (a := some ()) (b := none) (tgt := 1455) ok dL_law_1157 (by decide) (if_pos he) (fun _ _ => ?_) (fun h9 _ => absurd he h9)
    exact kk _ _ _ _ oka hk2 rfl
set_option maxRecDepth 20000 in
theorem lw_c30 {X : Zx} {Q : State → Prop} {b LL i k1 k2 : Nat} {xs : Nat → Int32} {σ : Sg} {s : Nat × Sg} (oka : Zoka X code R_law room_1 198 4 k1) (hn1 : k1 = X.2.2.1.2.2.2) (hn2 : X.2.2.1.2.2.2 ≤ 90000) (hk2 : k2 ≤ 48132 + 67 * (X.2.2.1.2.2.2 - 198)) (hX : va_X b LL xs X.1.2.2.2.2 X.1.2.2.2.2.heap) (hbl : b < X.1.2.2.2.2.heap.size) (hbA : ¬ X.2.2.2.1 b) (hL : LL < 2 ^ 31) (hi : i + 6 ≤ LL) (h : Lw_30 xs i X.2.2.1.2.2.2 σ = some s) (kk : lw_K X Q b i s) : ZAt X Q k1 k2 1162 σ [(0, .ref b), (1, .ref (X.ad 0)), (2, .ref (X.ad 171)), (3, .int (nI i))] [] := by
  unfold Lw_30 at h
  have ok := oka.1
  have ok0 := oka.1
  have hkR : k1 ≤ room_1.cells ∧ k2 ≤ room_1.slots := ⟨by show k1 ≤ 600000; omega, by show k2 ≤ 7302250; omega⟩
  refine z_aload_n ok dL_law_1162 1 rfl ?_
  refine z_aload_n ok dL_law_1163 0 rfl ?_
  refine z_iload_n ok dL_law_1164 3 rfl ?_
  refine z_iconst (v := nI 1) ok dL_law_1165 (by decide) ?_
  refine z_iadd ok dL_law_1166 ?_
  refine z_sld ok hX hbl hbA (i + 1) (by omega) hL (nI_ad i 1) dL_law_1167 ?_
  obtain ⟨r, hr, h⟩ := zbind h
  refine z_cV (As := [.int (xs (i + 1))]) (rest := []) (w := 0) ok kc_0 zc_11 (c_CK_leaks hr) rfl ⟨mlL_139, w_CK_leaks⟩ hy_CK_leaks ⟨rfl, rfl⟩ ⟨Nat.le_of_ble_eq_true rfl, Nat.le_of_ble_eq_true rfl⟩ hkR rfl (Nat.le_of_ble_eq_true rfl) dL_law_1168 ?_
  refine z_aload_n ok dL_law_1171 2 rfl ?_
  refine z_aload_n ok dL_law_1172 0 rfl ?_
  refine z_iload_n ok dL_law_1173 3 rfl ?_
  refine z_iconst (v := nI 1) ok dL_law_1174 (by decide) ?_
  refine z_iadd ok dL_law_1175 ?_
  refine z_sld ok hX hbl hbA (i + 1) (by omega) hL (nI_ad i 1) dL_law_1176 ?_
  obtain ⟨q, hq, h⟩ := zbind h
  refine z_cV (As := [.int (xs (i + 1))]) (rest := [.int r.1]) (w := 171) ok kc_171 zc_12 (c_M_leaks hq) rfl ⟨mlL_142, w_M_leaks⟩ hy_M_leaks ⟨rfl, rfl⟩ ⟨Nat.le_of_ble_eq_true rfl, Nat.le_of_ble_eq_true rfl⟩ hkR rfl (Nat.le_of_ble_eq_true rfl) dL_law_1177 ?_
  by_cases he : r.1 = q.1
  case neg => rw [if_neg he] at h; cases h
  case pos =>
    rw [if_pos he] at h
    obtain rfl := Option.some.inj h
    refine z_icmp_eq (α := Unit) (out := ()) (a := some ()) (b := none) (tgt := 1455) ok dL_law_1180 (by decide) (if_pos he) (fun _ _ => ?_) (fun h9 _ => absurd he h9)
    exact kk _ _ _ _ oka hk2 rfl
set_option maxRecDepth 20000 in
theorem lw_c31 {X : Zx} {Q : State → Prop} {b LL i k1 k2 : Nat} {xs : Nat → Int32} {σ : Sg} {s : Nat × Sg} (oka : Zoka X code R_law room_1 198 4 k1) (hn1 : k1 = X.2.2.1.2.2.2) (hn2 : X.2.2.1.2.2.2 ≤ 90000) (hk2 : k2 ≤ 48132 + 67 * (X.2.2.1.2.2.2 - 198)) (hX : va_X b LL xs X.1.2.2.2.2 X.1.2.2.2.2.heap) (hbl : b < X.1.2.2.2.2.heap.size) (hbA : ¬ X.2.2.2.1 b) (hL : LL < 2 ^ 31) (hi : i + 6 ≤ LL) (h : Lw_31 xs i X.2.2.1.2.2.2 σ = some s) (kk : lw_K X Q b i s) : ZAt X Q k1 k2 1185 σ [(0, .ref b), (1, .ref (X.ad 0)), (2, .ref (X.ad 171)), (3, .int (nI i))] [] := by
  unfold Lw_31 at h
  have ok := oka.1
  have ok0 := oka.1
  have hkR : k1 ≤ room_1.cells ∧ k2 ≤ room_1.slots := ⟨by show k1 ≤ 600000; omega, by show k2 ≤ 7302250; omega⟩
  refine z_aload_n ok dL_law_1185 1 rfl ?_
  refine z_aload_n ok dL_law_1186 0 rfl ?_
  refine z_iload_n ok dL_law_1187 3 rfl ?_
  refine z_iconst (v := nI 1) ok dL_law_1188 (by decide) ?_
  refine z_iadd ok dL_law_1189 ?_
  refine z_sld ok hX hbl hbA (i + 1) (by omega) hL (nI_ad i 1) dL_law_1190 ?_
  obtain ⟨r, hr, h⟩ := zbind h
  refine z_cV (As := [.int (xs (i + 1))]) (rest := []) (w := 0) ok kc_0 zc_11 (c_CK_tells hr) rfl ⟨mlL_143, w_CK_tells⟩ hy_CK_tells ⟨rfl, rfl⟩ ⟨Nat.le_of_ble_eq_true rfl, Nat.le_of_ble_eq_true rfl⟩ hkR rfl (Nat.le_of_ble_eq_true rfl) dL_law_1191 ?_
  refine z_aload_n ok dL_law_1194 2 rfl ?_
  refine z_aload_n ok dL_law_1195 0 rfl ?_
  refine z_iload_n ok dL_law_1196 3 rfl ?_
  refine z_iconst (v := nI 1) ok dL_law_1197 (by decide) ?_
  refine z_iadd ok dL_law_1198 ?_
  refine z_sld ok hX hbl hbA (i + 1) (by omega) hL (nI_ad i 1) dL_law_1199 ?_
  obtain ⟨q, hq, h⟩ := zbind h
  refine z_cV (As := [.int (xs (i + 1))]) (rest := [.int r.1]) (w := 171) ok kc_171 zc_12 (c_M_tells hq) rfl ⟨mlL_146, w_M_tells⟩ hy_M_tells ⟨rfl, rfl⟩ ⟨Nat.le_of_ble_eq_true rfl, Nat.le_of_ble_eq_true rfl⟩ hkR rfl (Nat.le_of_ble_eq_true rfl) dL_law_1200 ?_
  by_cases he : r.1 = q.1
  case neg => rw [if_neg he] at h; cases h
  case pos =>
    rw [if_pos he] at h
    obtain rfl := Option.some.inj h
    refine z_icmp_eq (α := Unit) (out := ()) (a := some ()) (b := none) (tgt := 1455) ok dL_law_1203 (by decide) (if_pos he) (fun _ _ => ?_) (fun h9 _ => absurd he h9)
    exact kk _ _ _ _ oka hk2 rfl
set_option maxRecDepth 20000 in
theorem lw_c32 {X : Zx} {Q : State → Prop} {b LL i k1 k2 : Nat} {xs : Nat → Int32} {σ : Sg} {s : Nat × Sg} (oka : Zoka X code R_law room_1 198 4 k1) (hn1 : k1 = X.2.2.1.2.2.2) (hn2 : X.2.2.1.2.2.2 ≤ 90000) (hk2 : k2 ≤ 48132 + 67 * (X.2.2.1.2.2.2 - 198)) (hX : va_X b LL xs X.1.2.2.2.2 X.1.2.2.2.2.heap) (hbl : b < X.1.2.2.2.2.heap.size) (hbA : ¬ X.2.2.2.1 b) (hL : LL < 2 ^ 31) (hi : i + 6 ≤ LL) (h : Lw_32 xs i X.2.2.1.2.2.2 σ = some s) (kk : lw_K X Q b i s) : ZAt X Q k1 k2 1208 σ [(0, .ref b), (1, .ref (X.ad 0)), (2, .ref (X.ad 171)), (3, .int (nI i))] [] := by
  unfold Lw_32 at h
  have ok := oka.1
  have ok0 := oka.1
  have hkR : k1 ≤ room_1.cells ∧ k2 ≤ room_1.slots := ⟨by show k1 ≤ 600000; omega, by show k2 ≤ 7302250; omega⟩
  refine z_aload_n ok dL_law_1208 1 rfl ?_
  refine z_aload_n ok dL_law_1209 0 rfl ?_
  refine z_iload_n ok dL_law_1210 3 rfl ?_
  refine z_iconst (v := nI 1) ok dL_law_1211 (by decide) ?_
  refine z_iadd ok dL_law_1212 ?_
  refine z_sld ok hX hbl hbA (i + 1) (by omega) hL (nI_ad i 1) dL_law_1213 ?_
  obtain ⟨r, hr, h⟩ := zbind h
  by_cases hg : (r.2 = X.2.2.1.2.2.2 ∨ r.2 = X.2.2.1.2.2.2 + 25) ∧ r.2 ≤ 90000
  case neg => rw [if_neg hg] at h; cases h
  case pos =>
    rw [if_pos hg] at h
    obtain ⟨hz1, hz2⟩ := lw_room hg.1 hk2
    refine z_aVg (n' := r.2) (As := [.int (xs (i + 1))]) (rest := []) (w := 0) oka (by decide) ⟨by omega, by omega⟩ kc_0 zc_11 (c_CK_steps hr ⟨by omega, by omega⟩) rfl ⟨mlL_147, w_CK_steps⟩ hy_CK_steps ⟨rfl, rfl⟩ ⟨Nat.le_of_ble_eq_true rfl, Nat.le_of_ble_eq_true rfl⟩ ⟨by show k1 + _ ≤ 600000; omega, by show k2 + _ ≤ 7302250; omega⟩ rfl (Nat.le_of_ble_eq_true rfl) dL_law_1214 (fun oka => ?_)
    have ok := oka.1
    refine z_aload_n ok dL_law_1217 2 rfl ?_
    refine z_aload_n ok dL_law_1218 0 rfl ?_
    refine z_iload_n ok dL_law_1219 3 rfl ?_
    refine z_iconst (v := nI 1) ok dL_law_1220 (by decide) ?_
    refine z_iadd ok dL_law_1221 ?_
    refine z_sld ok hX hbl hbA (i + 1) (by omega) hL (nI_ad i 1) dL_law_1222 ?_
    have hkR2 : k1 + (r.2 - X.2.2.1.2.2.2) ≤ room_1.cells ∧ k2 + zms (r.2 - X.2.2.1.2.2.2) ≤ room_1.slots := ⟨by show _ ≤ 600000; omega, by show _ ≤ 7302250; omega⟩
    obtain ⟨q, hq, h⟩ := zbind h
    refine z_cV (As := [.int (xs (i + 1))]) (rest := [.int r.1.1]) (w := 171) ok kc_171 zc_12 (c_M_steps hq) rfl ⟨mlL_150, w_M_steps⟩ hy_M_steps ⟨rfl, rfl⟩ ⟨Nat.le_of_ble_eq_true rfl, Nat.le_of_ble_eq_true rfl⟩ hkR2 rfl (Nat.le_of_ble_eq_true rfl) dL_law_1223 ?_
    by_cases he : r.1.1 = q.1
    case neg => rw [if_neg he] at h; cases h
    case pos =>
      rw [if_pos he] at h
      obtain rfl := Option.some.inj h
      refine z_icmp_eq (α := Unit) (out := ()) (a := some ()) (b := none) (tgt := 1455) ok dL_law_1226 (by decide) (if_pos he) (fun _ _ => ?_) (fun h9 _ => absurd he h9)
      exact kk _ _ _ _ oka (lw_slots ok0.2.2.2.2.1 hg.1 hk2) rfl
set_option maxRecDepth 20000 in
theorem lw_c33 {X : Zx} {Q : State → Prop} {b LL i k1 k2 : Nat} {xs : Nat → Int32} {σ : Sg} {s : Nat × Sg} (oka : Zoka X code R_law room_1 198 4 k1) (hn1 : k1 = X.2.2.1.2.2.2) (hn2 : X.2.2.1.2.2.2 ≤ 90000) (hk2 : k2 ≤ 48132 + 67 * (X.2.2.1.2.2.2 - 198)) (hX : va_X b LL xs X.1.2.2.2.2 X.1.2.2.2.2.heap) (hbl : b < X.1.2.2.2.2.heap.size) (hbA : ¬ X.2.2.2.1 b) (hL : LL < 2 ^ 31) (hi : i + 6 ≤ LL) (h : Lw_33 xs i X.2.2.1.2.2.2 σ = some s) (kk : lw_K X Q b i s) : ZAt X Q k1 k2 1231 σ [(0, .ref b), (1, .ref (X.ad 0)), (2, .ref (X.ad 171)), (3, .int (nI i))] [] := by
  unfold Lw_33 at h
  have ok := oka.1
  have ok0 := oka.1
  have hkR : k1 ≤ room_1.cells ∧ k2 ≤ room_1.slots := ⟨by show k1 ≤ 600000; omega, by show k2 ≤ 7302250; omega⟩
  refine z_aload_n ok dL_law_1231 1 rfl ?_
  refine z_aload_n ok dL_law_1232 0 rfl ?_
  refine z_iload_n ok dL_law_1233 3 rfl ?_
  refine z_iconst (v := nI 1) ok dL_law_1234 (by decide) ?_
  refine z_iadd ok dL_law_1235 ?_
  refine z_sld ok hX hbl hbA (i + 1) (by omega) hL (nI_ad i 1) dL_law_1236 ?_
  obtain ⟨r, hr, h⟩ := zbind h
  by_cases hg : (r.2 = X.2.2.1.2.2.2 ∨ r.2 = X.2.2.1.2.2.2 + 25) ∧ r.2 ≤ 90000
  case neg => rw [if_neg hg] at h; cases h
  case pos =>
    rw [if_pos hg] at h
    obtain ⟨hz1, hz2⟩ := lw_room hg.1 hk2
    refine z_aVg (n' := r.2) (As := [.int (xs (i + 1))]) (rest := []) (w := 0) oka (by decide) ⟨by omega, by omega⟩ kc_0 zc_11 (c_CK_chance hr ⟨by omega, by omega⟩) rfl ⟨mlL_151, w_CK_chance⟩ hy_CK_chance ⟨rfl, rfl⟩ ⟨Nat.le_of_ble_eq_true rfl, Nat.le_of_ble_eq_true rfl⟩ ⟨by show k1 + _ ≤ 600000; omega, by show k2 + _ ≤ 7302250; omega⟩ rfl (Nat.le_of_ble_eq_true rfl) dL_law_1237 (fun oka => ?_)
    have ok := oka.1
    refine z_aload_n ok dL_law_1240 2 rfl ?_
    refine z_aload_n ok dL_law_1241 0 rfl ?_
    refine z_iload_n ok dL_law_1242 3 rfl ?_
    refine z_iconst (v := nI 1) ok dL_law_1243 (by decide) ?_
    refine z_iadd ok dL_law_1244 ?_
    refine z_sld ok hX hbl hbA (i + 1) (by omega) hL (nI_ad i 1) dL_law_1245 ?_
    have hkR2 : k1 + (r.2 - X.2.2.1.2.2.2) ≤ room_1.cells ∧ k2 + zms (r.2 - X.2.2.1.2.2.2) ≤ room_1.slots := ⟨by show _ ≤ 600000; omega, by show _ ≤ 7302250; omega⟩
    obtain ⟨q, hq, h⟩ := zbind h
    refine z_cV (As := [.int (xs (i + 1))]) (rest := [.int r.1.1]) (w := 171) ok kc_171 zc_12 (c_M_chance hq) rfl ⟨mlL_154, w_M_chance⟩ hy_M_chance ⟨rfl, rfl⟩ ⟨Nat.le_of_ble_eq_true rfl, Nat.le_of_ble_eq_true rfl⟩ hkR2 rfl (Nat.le_of_ble_eq_true rfl) dL_law_1246 ?_
    by_cases he : r.1.1 = q.1
    case neg => rw [if_neg he] at h; cases h
    case pos =>
      rw [if_pos he] at h
      obtain rfl := Option.some.inj h
      refine z_icmp_eq (α := Unit) (out := ()) (a := some ()) (b := none) (tgt := 1455) ok dL_law_1249 (by decide) (if_pos he) (fun _ _ => ?_) (fun h9 _ => absurd he h9)
      exact kk _ _ _ _ oka (lw_slots ok0.2.2.2.2.1 hg.1 hk2) rfl
set_option maxRecDepth 20000 in
theorem lw_c34 {X : Zx} {Q : State → Prop} {b LL i k1 k2 : Nat} {xs : Nat → Int32} {σ : Sg} {s : Nat × Sg} (oka : Zoka X code R_law room_1 198 4 k1) (hn1 : k1 = X.2.2.1.2.2.2) (hn2 : X.2.2.1.2.2.2 ≤ 90000) (hk2 : k2 ≤ 48132 + 67 * (X.2.2.1.2.2.2 - 198)) (hX : va_X b LL xs X.1.2.2.2.2 X.1.2.2.2.2.heap) (hbl : b < X.1.2.2.2.2.heap.size) (hbA : ¬ X.2.2.2.1 b) (hL : LL < 2 ^ 31) (hi : i + 6 ≤ LL) (h : Lw_34 xs i X.2.2.1.2.2.2 σ = some s) (kk : lw_K X Q b i s) : ZAt X Q k1 k2 1254 σ [(0, .ref b), (1, .ref (X.ad 0)), (2, .ref (X.ad 171)), (3, .int (nI i))] [] := by
  unfold Lw_34 at h
  have ok := oka.1
  have ok0 := oka.1
  have hkR : k1 ≤ room_1.cells ∧ k2 ≤ room_1.slots := ⟨by show k1 ≤ 600000; omega, by show k2 ≤ 7302250; omega⟩
  refine z_aload_n ok dL_law_1254 1 rfl ?_
  refine z_aload_n ok dL_law_1255 0 rfl ?_
  refine z_iload_n ok dL_law_1256 3 rfl ?_
  refine z_iconst (v := nI 1) ok dL_law_1257 (by decide) ?_
  refine z_iadd ok dL_law_1258 ?_
  refine z_sld ok hX hbl hbA (i + 1) (by omega) hL (nI_ad i 1) dL_law_1259 ?_
  refine z_aload_n ok dL_law_1260 0 rfl ?_
  refine z_iload_n ok dL_law_1261 3 rfl ?_
  refine z_iconst (v := nI 2) ok dL_law_1262 (by decide) ?_
  refine z_iadd ok dL_law_1263 ?_
  refine z_sld ok hX hbl hbA (i + 2) (by omega) hL (nI_ad i 2) dL_law_1264 ?_
  refine z_aload_n ok dL_law_1265 0 rfl ?_
  refine z_iload_n ok dL_law_1266 3 rfl ?_
  refine z_iconst (v := nI 3) ok dL_law_1267 (by decide) ?_
  refine z_iadd ok dL_law_1268 ?_
  refine z_sld ok hX hbl hbA (i + 3) (by omega) hL (nI_ad i 3) dL_law_1269 ?_
  obtain ⟨r, hr, h⟩ := zbind h
  by_cases hg : (r.2 = X.2.2.1.2.2.2 ∨ r.2 = X.2.2.1.2.2.2 + 25) ∧ r.2 ≤ 90000
  case neg => rw [if_neg hg] at h; cases h
  case pos =>
    rw [if_pos hg] at h
    obtain ⟨hz1, hz2⟩ := lw_room hg.1 hk2
    refine z_aVg (n' := r.2) (As := [.int (xs (i + 1)), .int (xs (i + 2)), .int (xs (i + 3))]) (rest := []) (w := 0) oka (by decide) ⟨by omega, by omega⟩ kc_0 zc_11 (c_CK_ask hr ⟨by omega, by omega⟩) rfl ⟨mlL_155, w_CK_ask⟩ hy_CK_ask ⟨rfl, rfl⟩ ⟨Nat.le_of_ble_eq_true rfl, Nat.le_of_ble_eq_true rfl⟩ ⟨by show k1 + _ ≤ 600000; omega, by show k2 + _ ≤ 7302250; omega⟩ rfl (Nat.le_of_ble_eq_true rfl) dL_law_1270 (fun oka => ?_)
    have ok := oka.1
    refine z_aload_n ok dL_law_1273 2 rfl ?_
    refine z_aload_n ok dL_law_1274 0 rfl ?_
    refine z_iload_n ok dL_law_1275 3 rfl ?_
    refine z_iconst (v := nI 1) ok dL_law_1276 (by decide) ?_
    refine z_iadd ok dL_law_1277 ?_
    refine z_sld ok hX hbl hbA (i + 1) (by omega) hL (nI_ad i 1) dL_law_1278 ?_
    refine z_aload_n ok dL_law_1279 0 rfl ?_
    refine z_iload_n ok dL_law_1280 3 rfl ?_
    refine z_iconst (v := nI 2) ok dL_law_1281 (by decide) ?_
    refine z_iadd ok dL_law_1282 ?_
    refine z_sld ok hX hbl hbA (i + 2) (by omega) hL (nI_ad i 2) dL_law_1283 ?_
    refine z_aload_n ok dL_law_1284 0 rfl ?_
    refine z_iload_n ok dL_law_1285 3 rfl ?_
    refine z_iconst (v := nI 3) ok dL_law_1286 (by decide) ?_
    refine z_iadd ok dL_law_1287 ?_
    refine z_sld ok hX hbl hbA (i + 3) (by omega) hL (nI_ad i 3) dL_law_1288 ?_
    have hkR2 : k1 + (r.2 - X.2.2.1.2.2.2) ≤ room_1.cells ∧ k2 + zms (r.2 - X.2.2.1.2.2.2) ≤ room_1.slots := ⟨by show _ ≤ 600000; omega, by show _ ≤ 7302250; omega⟩
    obtain ⟨q, hq, h⟩ := zbind h
    refine z_cV (As := [.int (xs (i + 1)), .int (xs (i + 2)), .int (xs (i + 3))]) (rest := [.int r.1.1]) (w := 171) ok kc_171 zc_12 (c_M_ask hq) rfl ⟨mlL_158, w_M_ask⟩ hy_M_ask ⟨rfl, rfl⟩ ⟨Nat.le_of_ble_eq_true rfl, Nat.le_of_ble_eq_true rfl⟩ hkR2 rfl (Nat.le_of_ble_eq_true rfl) dL_law_1289 ?_
    by_cases he : r.1.1 = q.1
    case neg => rw [if_neg he] at h; cases h
    case pos =>
      rw [if_pos he] at h
      obtain rfl := Option.some.inj h
      refine z_icmp_eq (α := Unit) (out := ()) (a := some ()) (b := none) (tgt := 1455) ok dL_law_1292 (by decide) (if_pos he) (fun _ _ => ?_) (fun h9 _ => absurd he h9)
      exact kk _ _ _ _ oka (lw_slots ok0.2.2.2.2.1 hg.1 hk2) rfl
set_option maxRecDepth 20000 in
theorem lw_c35 {X : Zx} {Q : State → Prop} {b LL i k1 k2 : Nat} {xs : Nat → Int32} {σ : Sg} {s : Nat × Sg} (oka : Zoka X code R_law room_1 198 4 k1) (hn1 : k1 = X.2.2.1.2.2.2) (hn2 : X.2.2.1.2.2.2 ≤ 90000) (hk2 : k2 ≤ 48132 + 67 * (X.2.2.1.2.2.2 - 198)) (hX : va_X b LL xs X.1.2.2.2.2 X.1.2.2.2.2.heap) (hbl : b < X.1.2.2.2.2.heap.size) (hbA : ¬ X.2.2.2.1 b) (hL : LL < 2 ^ 31) (hi : i + 6 ≤ LL) (h : Lw_35 xs i X.2.2.1.2.2.2 σ = some s) (kk : lw_K X Q b i s) : ZAt X Q k1 k2 1297 σ [(0, .ref b), (1, .ref (X.ad 0)), (2, .ref (X.ad 171)), (3, .int (nI i))] [] := by
  unfold Lw_35 at h
  have ok := oka.1
  have ok0 := oka.1
  have hkR : k1 ≤ room_1.cells ∧ k2 ≤ room_1.slots := ⟨by show k1 ≤ 600000; omega, by show k2 ≤ 7302250; omega⟩
  refine z_aload_n ok dL_law_1297 1 rfl ?_
  refine z_aload_n ok dL_law_1298 0 rfl ?_
  refine z_iload_n ok dL_law_1299 3 rfl ?_
  refine z_iconst (v := nI 1) ok dL_law_1300 (by decide) ?_
  refine z_iadd ok dL_law_1301 ?_
  refine z_sld ok hX hbl hbA (i + 1) (by omega) hL (nI_ad i 1) dL_law_1302 ?_
  obtain ⟨r, hr, h⟩ := zbind h
  by_cases hg : (r.2 = X.2.2.1.2.2.2 ∨ r.2 = X.2.2.1.2.2.2 + 25) ∧ r.2 ≤ 90000
  case neg => rw [if_neg hg] at h; cases h
  case pos =>
    rw [if_pos hg] at h
    obtain ⟨hz1, hz2⟩ := lw_room hg.1 hk2
    refine z_aVg (n' := r.2) (As := [.int (xs (i + 1))]) (rest := []) (w := 0) oka (by decide) ⟨by omega, by omega⟩ kc_0 zc_11 (c_CK_cancel hr ⟨by omega, by omega⟩) rfl ⟨mlL_159, w_CK_cancel⟩ hy_CK_cancel ⟨rfl, rfl⟩ ⟨Nat.le_of_ble_eq_true rfl, Nat.le_of_ble_eq_true rfl⟩ ⟨by show k1 + _ ≤ 600000; omega, by show k2 + _ ≤ 7302250; omega⟩ rfl (Nat.le_of_ble_eq_true rfl) dL_law_1303 (fun oka => ?_)
    have ok := oka.1
    refine z_aload_n ok dL_law_1306 2 rfl ?_
    refine z_aload_n ok dL_law_1307 0 rfl ?_
    refine z_iload_n ok dL_law_1308 3 rfl ?_
    refine z_iconst (v := nI 1) ok dL_law_1309 (by decide) ?_
    refine z_iadd ok dL_law_1310 ?_
    refine z_sld ok hX hbl hbA (i + 1) (by omega) hL (nI_ad i 1) dL_law_1311 ?_
    have hkR2 : k1 + (r.2 - X.2.2.1.2.2.2) ≤ room_1.cells ∧ k2 + zms (r.2 - X.2.2.1.2.2.2) ≤ room_1.slots := ⟨by show _ ≤ 600000; omega, by show _ ≤ 7302250; omega⟩
    obtain ⟨q, hq, h⟩ := zbind h
    refine z_cV (As := [.int (xs (i + 1))]) (rest := [.int (zb r.1.1)]) (w := 171) ok kc_171 zc_12 (c_M_cancel hq) rfl ⟨mlL_162, w_M_cancel⟩ hy_M_cancel ⟨rfl, rfl⟩ ⟨Nat.le_of_ble_eq_true rfl, Nat.le_of_ble_eq_true rfl⟩ hkR2 rfl (Nat.le_of_ble_eq_true rfl) dL_law_1312 ?_
    by_cases he : (zb r.1.1) = (zb q.1)
    case neg => rw [if_neg he] at h; cases h
    case pos =>
      rw [if_pos he] at h
      obtain rfl := Option.some.inj h
      refine z_icmp_eq (α := Unit) (out := ()) (a := some ()) (b := none) (tgt := 1455) ok dL_law_1315 (by decide) (if_pos he) (fun _ _ => ?_) (fun h9 _ => absurd he h9)
      exact kk _ _ _ _ oka (lw_slots ok0.2.2.2.2.1 hg.1 hk2) rfl
set_option maxRecDepth 20000 in
theorem lw_c36 {X : Zx} {Q : State → Prop} {b LL i k1 k2 : Nat} {xs : Nat → Int32} {σ : Sg} {s : Nat × Sg} (oka : Zoka X code R_law room_1 198 4 k1) (hn1 : k1 = X.2.2.1.2.2.2) (hn2 : X.2.2.1.2.2.2 ≤ 90000) (hk2 : k2 ≤ 48132 + 67 * (X.2.2.1.2.2.2 - 198)) (hX : va_X b LL xs X.1.2.2.2.2 X.1.2.2.2.2.heap) (hbl : b < X.1.2.2.2.2.heap.size) (hbA : ¬ X.2.2.2.1 b) (hL : LL < 2 ^ 31) (hi : i + 6 ≤ LL) (h : Lw_36 xs i X.2.2.1.2.2.2 σ = some s) (kk : lw_K X Q b i s) : ZAt X Q k1 k2 1320 σ [(0, .ref b), (1, .ref (X.ad 0)), (2, .ref (X.ad 171)), (3, .int (nI i))] [] := by
  unfold Lw_36 at h
  have ok := oka.1
  have ok0 := oka.1
  have hkR : k1 ≤ room_1.cells ∧ k2 ≤ room_1.slots := ⟨by show k1 ≤ 600000; omega, by show k2 ≤ 7302250; omega⟩
  refine z_aload_n ok dL_law_1320 1 rfl ?_
  refine z_aload_n ok dL_law_1321 0 rfl ?_
  refine z_iload_n ok dL_law_1322 3 rfl ?_
  refine z_iconst (v := nI 1) ok dL_law_1323 (by decide) ?_
  refine z_iadd ok dL_law_1324 ?_
  refine z_sld ok hX hbl hbA (i + 1) (by omega) hL (nI_ad i 1) dL_law_1325 ?_
  refine z_aload_n ok dL_law_1326 0 rfl ?_
  refine z_iload_n ok dL_law_1327 3 rfl ?_
  refine z_iconst (v := nI 2) ok dL_law_1328 (by decide) ?_
  refine z_iadd ok dL_law_1329 ?_
  refine z_sld ok hX hbl hbA (i + 2) (by omega) hL (nI_ad i 2) dL_law_1330 ?_
  obtain ⟨r, hr, h⟩ := zbind h
  by_cases hg : (r.2 = X.2.2.1.2.2.2 ∨ r.2 = X.2.2.1.2.2.2 + 25) ∧ r.2 ≤ 90000
  case neg => rw [if_neg hg] at h; cases h
  case pos =>
    rw [if_pos hg] at h
    obtain ⟨hz1, hz2⟩ := lw_room hg.1 hk2
    refine z_aVg (n' := r.2) (As := [.int (xs (i + 1)), .int (xs (i + 2))]) (rest := []) (w := 0) oka (by decide) ⟨by omega, by omega⟩ kc_0 zc_11 (c_CK_hand hr ⟨by omega, by omega⟩) rfl ⟨mlL_163, w_CK_hand⟩ hy_CK_hand ⟨rfl, rfl⟩ ⟨Nat.le_of_ble_eq_true rfl, Nat.le_of_ble_eq_true rfl⟩ ⟨by show k1 + _ ≤ 600000; omega, by show k2 + _ ≤ 7302250; omega⟩ rfl (Nat.le_of_ble_eq_true rfl) dL_law_1331 (fun oka => ?_)
    have ok := oka.1
    refine z_aload_n ok dL_law_1334 2 rfl ?_
    refine z_aload_n ok dL_law_1335 0 rfl ?_
    refine z_iload_n ok dL_law_1336 3 rfl ?_
    refine z_iconst (v := nI 1) ok dL_law_1337 (by decide) ?_
    refine z_iadd ok dL_law_1338 ?_
    refine z_sld ok hX hbl hbA (i + 1) (by omega) hL (nI_ad i 1) dL_law_1339 ?_
    refine z_aload_n ok dL_law_1340 0 rfl ?_
    refine z_iload_n ok dL_law_1341 3 rfl ?_
    refine z_iconst (v := nI 2) ok dL_law_1342 (by decide) ?_
    refine z_iadd ok dL_law_1343 ?_
    refine z_sld ok hX hbl hbA (i + 2) (by omega) hL (nI_ad i 2) dL_law_1344 ?_
    have hkR2 : k1 + (r.2 - X.2.2.1.2.2.2) ≤ room_1.cells ∧ k2 + zms (r.2 - X.2.2.1.2.2.2) ≤ room_1.slots := ⟨by show _ ≤ 600000; omega, by show _ ≤ 7302250; omega⟩
    obtain ⟨q, hq, h⟩ := zbind h
    refine z_cV (As := [.int (xs (i + 1)), .int (xs (i + 2))]) (rest := [.int (zb r.1.1)]) (w := 171) ok kc_171 zc_12 (c_M_hand hq) rfl ⟨mlL_167, w_M_hand⟩ hy_M_hand ⟨rfl, rfl⟩ ⟨Nat.le_of_ble_eq_true rfl, Nat.le_of_ble_eq_true rfl⟩ hkR2 rfl (Nat.le_of_ble_eq_true rfl) dL_law_1345 ?_
    by_cases he : (zb r.1.1) = (zb q.1)
    case neg => rw [if_neg he] at h; cases h
    case pos =>
      rw [if_pos he] at h
      obtain rfl := Option.some.inj h
      refine z_icmp_eq (α := Unit) (out := ()) (a := some ()) (b := none) (tgt := 1455) ok dL_law_1348 (by decide) (if_pos he) (fun _ _ => ?_) (fun h9 _ => absurd he h9)
      exact kk _ _ _ _ oka (lw_slots ok0.2.2.2.2.1 hg.1 hk2) rfl
set_option maxRecDepth 20000 in
theorem lw_c37 {X : Zx} {Q : State → Prop} {b LL i k1 k2 : Nat} {xs : Nat → Int32} {σ : Sg} {s : Nat × Sg} (oka : Zoka X code R_law room_1 198 4 k1) (hn1 : k1 = X.2.2.1.2.2.2) (hn2 : X.2.2.1.2.2.2 ≤ 90000) (hk2 : k2 ≤ 48132 + 67 * (X.2.2.1.2.2.2 - 198)) (hX : va_X b LL xs X.1.2.2.2.2 X.1.2.2.2.2.heap) (hbl : b < X.1.2.2.2.2.heap.size) (hbA : ¬ X.2.2.2.1 b) (hL : LL < 2 ^ 31) (hi : i + 6 ≤ LL) (h : Lw_37 xs i X.2.2.1.2.2.2 σ = some s) (kk : lw_K X Q b i s) : ZAt X Q k1 k2 1353 σ [(0, .ref b), (1, .ref (X.ad 0)), (2, .ref (X.ad 171)), (3, .int (nI i))] [] := by
  unfold Lw_37 at h
  have ok := oka.1
  have ok0 := oka.1
  have hkR : k1 ≤ room_1.cells ∧ k2 ≤ room_1.slots := ⟨by show k1 ≤ 600000; omega, by show k2 ≤ 7302250; omega⟩
  refine z_aload_n ok dL_law_1353 1 rfl ?_
  refine z_aload_n ok dL_law_1354 0 rfl ?_
  refine z_iload_n ok dL_law_1355 3 rfl ?_
  refine z_iconst (v := nI 1) ok dL_law_1356 (by decide) ?_
  refine z_iadd ok dL_law_1357 ?_
  refine z_sld ok hX hbl hbA (i + 1) (by omega) hL (nI_ad i 1) dL_law_1358 ?_
  refine z_aload_n ok dL_law_1359 0 rfl ?_
  refine z_iload_n ok dL_law_1360 3 rfl ?_
  refine z_iconst (v := nI 2) ok dL_law_1361 (by decide) ?_
  refine z_iadd ok dL_law_1362 ?_
  refine z_sld ok hX hbl hbA (i + 2) (by omega) hL (nI_ad i 2) dL_law_1363 ?_
  refine z_aload_n ok dL_law_1364 0 rfl ?_
  refine z_iload_n ok dL_law_1365 3 rfl ?_
  refine z_iconst (v := nI 3) ok dL_law_1366 (by decide) ?_
  refine z_iadd ok dL_law_1367 ?_
  refine z_sld ok hX hbl hbA (i + 3) (by omega) hL (nI_ad i 3) dL_law_1368 ?_
  obtain ⟨r, hr, h⟩ := zbind h
  by_cases hg : (r.2 = X.2.2.1.2.2.2 ∨ r.2 = X.2.2.1.2.2.2 + 25) ∧ r.2 ≤ 90000
  case neg => rw [if_neg hg] at h; cases h
  case pos =>
    rw [if_pos hg] at h
    obtain ⟨hz1, hz2⟩ := lw_room hg.1 hk2
    refine z_aVg (n' := r.2) (As := [.int (xs (i + 1)), .int (xs (i + 2)), .int (xs (i + 3))]) (rest := []) (w := 0) oka (by decide) ⟨by omega, by omega⟩ kc_0 zc_11 (c_CK_set hr ⟨by omega, by omega⟩) rfl ⟨mlL_168, w_CK_set⟩ hy_CK_set ⟨rfl, rfl⟩ ⟨Nat.le_of_ble_eq_true rfl, Nat.le_of_ble_eq_true rfl⟩ ⟨by show k1 + _ ≤ 600000; omega, by show k2 + _ ≤ 7302250; omega⟩ rfl (Nat.le_of_ble_eq_true rfl) dL_law_1369 (fun oka => ?_)
    have ok := oka.1
    refine z_aload_n ok dL_law_1372 2 rfl ?_
    refine z_aload_n ok dL_law_1373 0 rfl ?_
    refine z_iload_n ok dL_law_1374 3 rfl ?_
    refine z_iconst (v := nI 1) ok dL_law_1375 (by decide) ?_
    refine z_iadd ok dL_law_1376 ?_
    refine z_sld ok hX hbl hbA (i + 1) (by omega) hL (nI_ad i 1) dL_law_1377 ?_
    refine z_aload_n ok dL_law_1378 0 rfl ?_
    refine z_iload_n ok dL_law_1379 3 rfl ?_
    refine z_iconst (v := nI 2) ok dL_law_1380 (by decide) ?_
    refine z_iadd ok dL_law_1381 ?_
    refine z_sld ok hX hbl hbA (i + 2) (by omega) hL (nI_ad i 2) dL_law_1382 ?_
    refine z_aload_n ok dL_law_1383 0 rfl ?_
    refine z_iload_n ok dL_law_1384 3 rfl ?_
    refine z_iconst (v := nI 3) ok dL_law_1385 (by decide) ?_
    refine z_iadd ok dL_law_1386 ?_
    refine z_sld ok hX hbl hbA (i + 3) (by omega) hL (nI_ad i 3) dL_law_1387 ?_
    have hkR2 : k1 + (r.2 - X.2.2.1.2.2.2) ≤ room_1.cells ∧ k2 + zms (r.2 - X.2.2.1.2.2.2) ≤ room_1.slots := ⟨by show _ ≤ 600000; omega, by show _ ≤ 7302250; omega⟩
    obtain ⟨q, hq, h⟩ := zbind h
    refine z_cV (As := [.int (xs (i + 1)), .int (xs (i + 2)), .int (xs (i + 3))]) (rest := [.int (zb r.1.1)]) (w := 171) ok kc_171 zc_12 (c_M_set hq) rfl ⟨mlL_172, w_M_set⟩ hy_M_set ⟨rfl, rfl⟩ ⟨Nat.le_of_ble_eq_true rfl, Nat.le_of_ble_eq_true rfl⟩ hkR2 rfl (Nat.le_of_ble_eq_true rfl) dL_law_1388 ?_
    by_cases he : (zb r.1.1) = (zb q.1)
    case neg => rw [if_neg he] at h; cases h
    case pos =>
      rw [if_pos he] at h
      obtain rfl := Option.some.inj h
      refine z_icmp_eq (α := Unit) (out := ()) (a := some ()) (b := none) (tgt := 1455) ok dL_law_1391 (by decide) (if_pos he) (fun _ _ => ?_) (fun h9 _ => absurd he h9)
      exact kk _ _ _ _ oka (lw_slots ok0.2.2.2.2.1 hg.1 hk2) rfl
set_option maxRecDepth 20000 in
theorem lw_c38 {X : Zx} {Q : State → Prop} {b LL i k1 k2 : Nat} {xs : Nat → Int32} {σ : Sg} {s : Nat × Sg} (oka : Zoka X code R_law room_1 198 4 k1) (hn1 : k1 = X.2.2.1.2.2.2) (hn2 : X.2.2.1.2.2.2 ≤ 90000) (hk2 : k2 ≤ 48132 + 67 * (X.2.2.1.2.2.2 - 198)) (hX : va_X b LL xs X.1.2.2.2.2 X.1.2.2.2.2.heap) (hbl : b < X.1.2.2.2.2.heap.size) (hbA : ¬ X.2.2.2.1 b) (hL : LL < 2 ^ 31) (hi : i + 6 ≤ LL) (h : Lw_38 xs i X.2.2.1.2.2.2 σ = some s) (kk : lw_K X Q b i s) : ZAt X Q k1 k2 1396 σ [(0, .ref b), (1, .ref (X.ad 0)), (2, .ref (X.ad 171)), (3, .int (nI i))] [] := by
  unfold Lw_38 at h
  have ok := oka.1
  have ok0 := oka.1
  have hkR : k1 ≤ room_1.cells ∧ k2 ≤ room_1.slots := ⟨by show k1 ≤ 600000; omega, by show k2 ≤ 7302250; omega⟩
  refine z_aload_n ok dL_law_1396 1 rfl ?_
  obtain ⟨r, hr, h⟩ := zbind h
  by_cases hg : (r.2 = X.2.2.1.2.2.2 ∨ r.2 = X.2.2.1.2.2.2 + 25) ∧ r.2 ≤ 90000
  case neg => rw [if_neg hg] at h; cases h
  case pos =>
    rw [if_pos hg] at h
    obtain ⟨hz1, hz2⟩ := lw_room hg.1 hk2
    refine z_aVg (n' := r.2) (As := []) (rest := []) (w := 0) oka (by decide) ⟨by omega, by omega⟩ kc_0 zc_11 (c_CK_undo hr ⟨by omega, by omega⟩) rfl ⟨mlL_173, w_CK_undo⟩ hy_CK_undo ⟨rfl, rfl⟩ ⟨Nat.le_of_ble_eq_true rfl, Nat.le_of_ble_eq_true rfl⟩ ⟨by show k1 + _ ≤ 600000; omega, by show k2 + _ ≤ 7302250; omega⟩ rfl (Nat.le_of_ble_eq_true rfl) dL_law_1397 (fun oka => ?_)
    have ok := oka.1
    refine z_aload_n ok dL_law_1400 2 rfl ?_
    have hkR2 : k1 + (r.2 - X.2.2.1.2.2.2) ≤ room_1.cells ∧ k2 + zms (r.2 - X.2.2.1.2.2.2) ≤ room_1.slots := ⟨by show _ ≤ 600000; omega, by show _ ≤ 7302250; omega⟩
    obtain ⟨q, hq, h⟩ := zbind h
    refine z_cV (As := []) (rest := [.int (zb r.1.1)]) (w := 171) ok kc_171 zc_12 (c_M_undo hq) rfl ⟨mlL_177, w_M_undo⟩ hy_M_undo ⟨rfl, rfl⟩ ⟨Nat.le_of_ble_eq_true rfl, Nat.le_of_ble_eq_true rfl⟩ hkR2 rfl (Nat.le_of_ble_eq_true rfl) dL_law_1401 ?_
    by_cases he : (zb r.1.1) = (zb q.1)
    case neg => rw [if_neg he] at h; cases h
    case pos =>
      rw [if_pos he] at h
      obtain rfl := Option.some.inj h
      refine z_icmp_eq (α := Unit) (out := ()) (a := some ()) (b := none) (tgt := 1455) ok dL_law_1404 (by decide) (if_pos he) (fun _ _ => ?_) (fun h9 _ => absurd he h9)
      exact kk _ _ _ _ oka (lw_slots ok0.2.2.2.2.1 hg.1 hk2) rfl
set_option maxRecDepth 20000 in
theorem lw_c39 {X : Zx} {Q : State → Prop} {b LL i k1 k2 : Nat} {xs : Nat → Int32} {σ : Sg} {s : Nat × Sg} (oka : Zoka X code R_law room_1 198 4 k1) (hn1 : k1 = X.2.2.1.2.2.2) (hn2 : X.2.2.1.2.2.2 ≤ 90000) (hk2 : k2 ≤ 48132 + 67 * (X.2.2.1.2.2.2 - 198)) (hX : va_X b LL xs X.1.2.2.2.2 X.1.2.2.2.2.heap) (hbl : b < X.1.2.2.2.2.heap.size) (hbA : ¬ X.2.2.2.1 b) (hL : LL < 2 ^ 31) (hi : i + 6 ≤ LL) (h : Lw_39 xs i X.2.2.1.2.2.2 σ = some s) (kk : lw_K X Q b i s) : ZAt X Q k1 k2 1409 σ [(0, .ref b), (1, .ref (X.ad 0)), (2, .ref (X.ad 171)), (3, .int (nI i))] [] := by
  unfold Lw_39 at h
  have ok := oka.1
  have ok0 := oka.1
  have hkR : k1 ≤ room_1.cells ∧ k2 ≤ room_1.slots := ⟨by show k1 ≤ 600000; omega, by show k2 ≤ 7302250; omega⟩
  refine z_aload_n ok dL_law_1409 1 rfl ?_
  refine z_aload_n ok dL_law_1410 0 rfl ?_
  refine z_iload_n ok dL_law_1411 3 rfl ?_
  refine z_iconst (v := nI 1) ok dL_law_1412 (by decide) ?_
  refine z_iadd ok dL_law_1413 ?_
  refine z_sld ok hX hbl hbA (i + 1) (by omega) hL (nI_ad i 1) dL_law_1414 ?_
  obtain ⟨r, hr, h⟩ := zbind h
  refine z_cV (As := [.int (xs (i + 1))]) (rest := []) (w := 0) ok kc_0 zc_11 (c_CK_seed hr) rfl ⟨mlL_178, w_CK_seed⟩ hy_CK_seed ⟨rfl, rfl⟩ ⟨Nat.le_of_ble_eq_true rfl, Nat.le_of_ble_eq_true rfl⟩ hkR rfl (Nat.le_of_ble_eq_true rfl) dL_law_1415 ?_
  refine z_aload_n ok dL_law_1418 2 rfl ?_
  refine z_aload_n ok dL_law_1419 0 rfl ?_
  refine z_iload_n ok dL_law_1420 3 rfl ?_
  refine z_iconst (v := nI 1) ok dL_law_1421 (by decide) ?_
  refine z_iadd ok dL_law_1422 ?_
  refine z_sld ok hX hbl hbA (i + 1) (by omega) hL (nI_ad i 1) dL_law_1423 ?_
  obtain ⟨q, hq, h⟩ := zbind h
  refine z_cV (As := [.int (xs (i + 1))]) (rest := [.int (zb r.1)]) (w := 171) ok kc_171 zc_12 (c_M_seed hq) rfl ⟨mlL_181, w_M_seed⟩ hy_M_seed ⟨rfl, rfl⟩ ⟨Nat.le_of_ble_eq_true rfl, Nat.le_of_ble_eq_true rfl⟩ hkR rfl (Nat.le_of_ble_eq_true rfl) dL_law_1424 ?_
  by_cases he : (zb r.1) = (zb q.1)
  case neg => rw [if_neg he] at h; cases h
  case pos =>
    rw [if_pos he] at h
    obtain rfl := Option.some.inj h
    refine z_icmp_eq (α := Unit) (out := ()) (a := some ()) (b := none) (tgt := 1455) ok dL_law_1427 (by decide) (if_pos he) (fun _ _ => ?_) (fun h9 _ => absurd he h9)
    exact kk _ _ _ _ oka hk2 rfl
set_option maxRecDepth 20000 in
theorem lw_c40 {X : Zx} {Q : State → Prop} {b LL i k1 k2 : Nat} {xs : Nat → Int32} {σ : Sg} {s : Nat × Sg} (oka : Zoka X code R_law room_1 198 4 k1) (hn1 : k1 = X.2.2.1.2.2.2) (hn2 : X.2.2.1.2.2.2 ≤ 90000) (hk2 : k2 ≤ 48132 + 67 * (X.2.2.1.2.2.2 - 198)) (hX : va_X b LL xs X.1.2.2.2.2 X.1.2.2.2.2.heap) (hbl : b < X.1.2.2.2.2.heap.size) (hbA : ¬ X.2.2.2.1 b) (hL : LL < 2 ^ 31) (hi : i + 6 ≤ LL) (h : Lw_40 xs i X.2.2.1.2.2.2 σ = some s) (kk : lw_K X Q b i s) : ZAt X Q k1 k2 1432 σ [(0, .ref b), (1, .ref (X.ad 0)), (2, .ref (X.ad 171)), (3, .int (nI i))] [] := by
  unfold Lw_40 at h
  have ok := oka.1
  have ok0 := oka.1
  have hkR : k1 ≤ room_1.cells ∧ k2 ≤ room_1.slots := ⟨by show k1 ≤ 600000; omega, by show k2 ≤ 7302250; omega⟩
  refine z_aload_n ok dL_law_1432 1 rfl ?_
  refine z_aload_n ok dL_law_1433 0 rfl ?_
  refine z_iload_n ok dL_law_1434 3 rfl ?_
  refine z_iconst (v := nI 1) ok dL_law_1435 (by decide) ?_
  refine z_iadd ok dL_law_1436 ?_
  refine z_sld ok hX hbl hbA (i + 1) (by omega) hL (nI_ad i 1) dL_law_1437 ?_
  obtain ⟨r, hr, h⟩ := zbind h
  refine z_cV (As := [.int (xs (i + 1))]) (rest := []) (w := 0) ok kc_0 zc_11 (c_CK_status hr) rfl ⟨mlL_182, w_CK_status⟩ hy_CK_status ⟨rfl, rfl⟩ ⟨Nat.le_of_ble_eq_true rfl, Nat.le_of_ble_eq_true rfl⟩ hkR rfl (Nat.le_of_ble_eq_true rfl) dL_law_1438 ?_
  refine z_aload_n ok dL_law_1441 2 rfl ?_
  refine z_aload_n ok dL_law_1442 0 rfl ?_
  refine z_iload_n ok dL_law_1443 3 rfl ?_
  refine z_iconst (v := nI 1) ok dL_law_1444 (by decide) ?_
  refine z_iadd ok dL_law_1445 ?_
  refine z_sld ok hX hbl hbA (i + 1) (by omega) hL (nI_ad i 1) dL_law_1446 ?_
  obtain ⟨q, hq, h⟩ := zbind h
  refine z_cV (As := [.int (xs (i + 1))]) (rest := [.int r]) (w := 171) ok kc_171 zc_12 (c_M_status hq) rfl ⟨mlL_185, w_M_status⟩ hy_M_status ⟨rfl, rfl⟩ ⟨Nat.le_of_ble_eq_true rfl, Nat.le_of_ble_eq_true rfl⟩ hkR rfl (Nat.le_of_ble_eq_true rfl) dL_law_1447 ?_
  by_cases he : r = q
  case neg => rw [if_neg he] at h; cases h
  case pos =>
    rw [if_pos he] at h
    obtain rfl := Option.some.inj h
    refine z_icmp_eq (α := Unit) (out := ()) (a := some ()) (b := none) (tgt := 1455) ok dL_law_1450 (by decide) (if_pos he) (fun _ _ => ?_) (fun h9 _ => absurd he h9)
    exact kk _ _ _ _ oka hk2 rfl
