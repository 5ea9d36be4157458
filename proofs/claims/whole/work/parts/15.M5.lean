theorem wc_12_364 : Cond.constant RX12 364 1000000000 ∈ zT := zT_of (i := 1909) (by decide +kernel) rfl
theorem fl_12_144 : Cond.fieldLink RX12 144 (TX12 44).1 (TX12 44).2.1 (TX12 44).2.2.1 ∈ zT := zT_of (i := 1443) (by decide +kernel) rfl
theorem fl_12_147 : Cond.fieldLink RX12 147 (TX12 45).1 (TX12 45).2.1 (TX12 45).2.2.1 ∈ zT := zT_of (i := 1444) (by decide +kernel) rfl
theorem fl_12_150 : Cond.fieldLink RX12 150 (TX12 46).1 (TX12 46).2.1 (TX12 46).2.2.1 ∈ zT := zT_of (i := 1445) (by decide +kernel) rfl
theorem fl_12_153 : Cond.fieldLink RX12 153 (TX12 47).1 (TX12 47).2.1 (TX12 47).2.2.1 ∈ zT := zT_of (i := 1446) (by decide +kernel) rfl
theorem fl_12_156 : Cond.fieldLink RX12 156 (TX12 48).1 (TX12 48).2.1 (TX12 48).2.2.1 ∈ zT := zT_of (i := 1447) (by decide +kernel) rfl
theorem ml_12_312 : Cond.methodLink RX12 312 yX12_begins ∈ zT := zT_of (i := 1833) (by decide +kernel) rfl
theorem ml_12_315 : Cond.methodLink RX12 315 yX12_goes ∈ zT := zT_of (i := 1837) (by decide +kernel) rfl
theorem ml_12_346 : Cond.methodLink RX12 346 yX12_stepsOn ∈ zT := zT_of (i := 1829) (by decide +kernel) rfl
theorem ml_12_349 : Cond.methodLink RX12 349 yX12_beginsAhead ∈ zT := zT_of (i := 1821) (by decide +kernel) rfl
theorem ml_12_352 : Cond.methodLink RX12 352 yX12_goesAhead ∈ zT := zT_of (i := 1825) (by decide +kernel) rfl
theorem ml_12_355 : Cond.methodLink RX12 355 yX12_endsAhead ∈ zT := zT_of (i := 1877) (by decide +kernel) rfl
theorem ml_12_358 : Cond.methodLink RX12 358 yX12_shortOf ∈ zT := zT_of (i := 1897) (by decide +kernel) rfl
theorem ml_12_361 : Cond.methodLink RX12 361 yX12_shortIn ∈ zT := zT_of (i := 1893) (by decide +kernel) rfl
theorem ml_12_365 : Cond.methodLink RX12 365 yX12_timesOut ∈ zT := zT_of (i := 1910) (by decide +kernel) rfl
theorem ml_12_368 : Cond.methodLink RX12 368 yX12_laysOrder ∈ zT := zT_of (i := 1922) (by decide +kernel) rfl
theorem w_M_best : Cond.instanceMethod yX12_best ∈ zT ∧ Cond.selects yX12_best.cls yX12_best yX12_best ∈ zT ∧ Cond.initialized yX12_best.cls ∈ zT ∧ Cond.code yX12_best cX12_best 9 (some .int) ∈ zT := ⟨zT_of (i := 1915) (by decide +kernel) rfl, zT_of (i := 1916) (by decide +kernel) rfl, zT_of (i := 135) (by decide +kernel) rfl, zT_of (i := 1917) (by decide +kernel) rfl⟩
theorem hy_M_best : yX12_best.cls ≠ "java/lang/invoke/MethodHandle" ∧ yX12_best.cls ≠ "java/lang/invoke/VarHandle" ∧ (parseMethodDescriptor yX12_best.desc).map (fun d => d.parameters.length) = some 3 := by decide +kernel
theorem w_M_endsAhead : Cond.instanceMethod yX12_endsAhead ∈ zT ∧ Cond.selects yX12_endsAhead.cls yX12_endsAhead yX12_endsAhead ∈ zT ∧ Cond.initialized yX12_endsAhead.cls ∈ zT ∧ Cond.code yX12_endsAhead cX12_endsAhead 2 none ∈ zT := ⟨zT_of (i := 1879) (by decide +kernel) rfl, zT_of (i := 113) (by decide +kernel) rfl, zT_of (i := 135) (by decide +kernel) rfl, zT_of (i := 1880) (by decide +kernel) rfl⟩
theorem hy_M_endsAhead : yX12_endsAhead.cls ≠ "java/lang/invoke/MethodHandle" ∧ yX12_endsAhead.cls ≠ "java/lang/invoke/VarHandle" ∧ (parseMethodDescriptor yX12_endsAhead.desc).map (fun d => d.parameters.length) = some 0 := by decide +kernel
theorem w_M_fits : Cond.instanceMethod yX12_fits ∈ zT ∧ Cond.selects yX12_fits.cls yX12_fits yX12_fits ∈ zT ∧ Cond.initialized yX12_fits.cls ∈ zT ∧ Cond.code yX12_fits cX12_fits 7 (some .int) ∈ zT := ⟨zT_of (i := 1919) (by decide +kernel) rfl, zT_of (i := 1920) (by decide +kernel) rfl, zT_of (i := 135) (by decide +kernel) rfl, zT_of (i := 1921) (by decide +kernel) rfl⟩
theorem hy_M_fits : yX12_fits.cls ≠ "java/lang/invoke/MethodHandle" ∧ yX12_fits.cls ≠ "java/lang/invoke/VarHandle" ∧ (parseMethodDescriptor yX12_fits.desc).map (fun d => d.parameters.length) = some 2 := by decide +kernel
theorem w_M_gain : Cond.instanceMethod yX12_gain ∈ zT ∧ Cond.selects yX12_gain.cls yX12_gain yX12_gain ∈ zT ∧ Cond.initialized yX12_gain.cls ∈ zT ∧ Cond.code yX12_gain cX12_gain 8 (some .int) ∈ zT := ⟨zT_of (i := 1906) (by decide +kernel) rfl, zT_of (i := 1907) (by decide +kernel) rfl, zT_of (i := 135) (by decide +kernel) rfl, zT_of (i := 1908) (by decide +kernel) rfl⟩
theorem hy_M_gain : yX12_gain.cls ≠ "java/lang/invoke/MethodHandle" ∧ yX12_gain.cls ≠ "java/lang/invoke/VarHandle" ∧ (parseMethodDescriptor yX12_gain.desc).map (fun d => d.parameters.length) = some 2 := by decide +kernel
theorem w_M_goesAhead : Cond.instanceMethod yX12_goesAhead ∈ zT ∧ Cond.selects yX12_goesAhead.cls yX12_goesAhead yX12_goesAhead ∈ zT ∧ Cond.initialized yX12_goesAhead.cls ∈ zT ∧ Cond.code yX12_goesAhead cX12_goesAhead 3 none ∈ zT := ⟨zT_of (i := 1827) (by decide +kernel) rfl, zT_of (i := 100) (by decide +kernel) rfl, zT_of (i := 135) (by decide +kernel) rfl, zT_of (i := 1828) (by decide +kernel) rfl⟩
theorem hy_M_goesAhead : yX12_goesAhead.cls ≠ "java/lang/invoke/MethodHandle" ∧ yX12_goesAhead.cls ≠ "java/lang/invoke/VarHandle" ∧ (parseMethodDescriptor yX12_goesAhead.desc).map (fun d => d.parameters.length) = some 1 := by decide +kernel
theorem w_M_lacks : Cond.instanceMethod yX12_lacks ∈ zT ∧ Cond.selects yX12_lacks.cls yX12_lacks yX12_lacks ∈ zT ∧ Cond.initialized yX12_lacks.cls ∈ zT ∧ Cond.code yX12_lacks cX12_lacks 3 (some .int) ∈ zT := ⟨zT_of (i := 1890) (by decide +kernel) rfl, zT_of (i := 1891) (by decide +kernel) rfl, zT_of (i := 135) (by decide +kernel) rfl, zT_of (i := 1892) (by decide +kernel) rfl⟩
theorem hy_M_lacks : yX12_lacks.cls ≠ "java/lang/invoke/MethodHandle" ∧ yX12_lacks.cls ≠ "java/lang/invoke/VarHandle" ∧ (parseMethodDescriptor yX12_lacks.desc).map (fun d => d.parameters.length) = some 2 := by decide +kernel
theorem w_M_later : Cond.instanceMethod yX12_later ∈ zT ∧ Cond.selects yX12_later.cls yX12_later yX12_later ∈ zT ∧ Cond.initialized yX12_later.cls ∈ zT ∧ Cond.code yX12_later cX12_later 4 (some .int) ∈ zT := ⟨zT_of (i := 1818) (by decide +kernel) rfl, zT_of (i := 1819) (by decide +kernel) rfl, zT_of (i := 135) (by decide +kernel) rfl, zT_of (i := 1820) (by decide +kernel) rfl⟩
theorem hy_M_later : yX12_later.cls ≠ "java/lang/invoke/MethodHandle" ∧ yX12_later.cls ≠ "java/lang/invoke/VarHandle" ∧ (parseMethodDescriptor yX12_later.desc).map (fun d => d.parameters.length) = some 2 := by decide +kernel
theorem w_M_laysFits : Cond.instanceMethod yX12_laysFits ∈ zT ∧ Cond.selects yX12_laysFits.cls yX12_laysFits yX12_laysFits ∈ zT ∧ Cond.initialized yX12_laysFits.cls ∈ zT ∧ Cond.code yX12_laysFits cX12_laysFits 5 (some .int) ∈ zT := ⟨zT_of (i := 1936) (by decide +kernel) rfl, zT_of (i := 118) (by decide +kernel) rfl, zT_of (i := 135) (by decide +kernel) rfl, zT_of (i := 1937) (by decide +kernel) rfl⟩
theorem hy_M_laysFits : yX12_laysFits.cls ≠ "java/lang/invoke/MethodHandle" ∧ yX12_laysFits.cls ≠ "java/lang/invoke/VarHandle" ∧ (parseMethodDescriptor yX12_laysFits.desc).map (fun d => d.parameters.length) = some 0 := by decide +kernel
theorem w_M_laysOrder : Cond.instanceMethod yX12_laysOrder ∈ zT ∧ Cond.selects yX12_laysOrder.cls yX12_laysOrder yX12_laysOrder ∈ zT ∧ Cond.initialized yX12_laysOrder.cls ∈ zT ∧ Cond.code yX12_laysOrder cX12_laysOrder 5 none ∈ zT := ⟨zT_of (i := 1924) (by decide +kernel) rfl, zT_of (i := 117) (by decide +kernel) rfl, zT_of (i := 135) (by decide +kernel) rfl, zT_of (i := 1925) (by decide +kernel) rfl⟩
theorem hy_M_laysOrder : yX12_laysOrder.cls ≠ "java/lang/invoke/MethodHandle" ∧ yX12_laysOrder.cls ≠ "java/lang/invoke/VarHandle" ∧ (parseMethodDescriptor yX12_laysOrder.desc).map (fun d => d.parameters.length) = some 3 := by decide +kernel
theorem w_M_least : Cond.instanceMethod yX12_least ∈ zT ∧ Cond.selects yX12_least.cls yX12_least yX12_least ∈ zT ∧ Cond.initialized yX12_least.cls ∈ zT ∧ Cond.code yX12_least cX12_least 5 (some .int) ∈ zT := ⟨zT_of (i := 1902) (by decide +kernel) rfl, zT_of (i := 1903) (by decide +kernel) rfl, zT_of (i := 135) (by decide +kernel) rfl, zT_of (i := 1904) (by decide +kernel) rfl⟩
theorem hy_M_least : yX12_least.cls ≠ "java/lang/invoke/MethodHandle" ∧ yX12_least.cls ≠ "java/lang/invoke/VarHandle" ∧ (parseMethodDescriptor yX12_least.desc).map (fun d => d.parameters.length) = some 1 := by decide +kernel
theorem w_M_opening : Cond.instanceMethod yX12_opening ∈ zT ∧ Cond.selects yX12_opening.cls yX12_opening yX12_opening ∈ zT ∧ Cond.initialized yX12_opening.cls ∈ zT ∧ Cond.code yX12_opening cX12_opening 4 (some .int) ∈ zT := ⟨zT_of (i := 1882) (by decide +kernel) rfl, zT_of (i := 1883) (by decide +kernel) rfl, zT_of (i := 135) (by decide +kernel) rfl, zT_of (i := 1884) (by decide +kernel) rfl⟩
theorem hy_M_opening : yX12_opening.cls ≠ "java/lang/invoke/MethodHandle" ∧ yX12_opening.cls ≠ "java/lang/invoke/VarHandle" ∧ (parseMethodDescriptor yX12_opening.desc).map (fun d => d.parameters.length) = some 2 := by decide +kernel
theorem w_M_see : Cond.instanceMethod yX12_see ∈ zT ∧ Cond.selects yX12_see.cls yX12_see yX12_see ∈ zT ∧ Cond.initialized yX12_see.cls ∈ zT ∧ Cond.code yX12_see cX12_see 5 (some .int) ∈ zT := ⟨zT_of (i := 1927) (by decide +kernel) rfl, zT_of (i := 1928) (by decide +kernel) rfl, zT_of (i := 135) (by decide +kernel) rfl, zT_of (i := 1929) (by decide +kernel) rfl⟩
theorem hy_M_see : yX12_see.cls ≠ "java/lang/invoke/MethodHandle" ∧ yX12_see.cls ≠ "java/lang/invoke/VarHandle" ∧ (parseMethodDescriptor yX12_see.desc).map (fun d => d.parameters.length) = some 1 := by decide +kernel
theorem w_M_shortIn : Cond.instanceMethod yX12_shortIn ∈ zT ∧ Cond.selects yX12_shortIn.cls yX12_shortIn yX12_shortIn ∈ zT ∧ Cond.initialized yX12_shortIn.cls ∈ zT ∧ Cond.code yX12_shortIn cX12_shortIn 5 (some .int) ∈ zT := ⟨zT_of (i := 1895) (by decide +kernel) rfl, zT_of (i := 114) (by decide +kernel) rfl, zT_of (i := 135) (by decide +kernel) rfl, zT_of (i := 1896) (by decide +kernel) rfl⟩
theorem hy_M_shortIn : yX12_shortIn.cls ≠ "java/lang/invoke/MethodHandle" ∧ yX12_shortIn.cls ≠ "java/lang/invoke/VarHandle" ∧ (parseMethodDescriptor yX12_shortIn.desc).map (fun d => d.parameters.length) = some 2 := by decide +kernel
theorem w_M_shortOf : Cond.instanceMethod yX12_shortOf ∈ zT ∧ Cond.selects yX12_shortOf.cls yX12_shortOf yX12_shortOf ∈ zT ∧ Cond.initialized yX12_shortOf.cls ∈ zT ∧ Cond.code yX12_shortOf cX12_shortOf 2 (some .int) ∈ zT := ⟨zT_of (i := 1899) (by decide +kernel) rfl, zT_of (i := 115) (by decide +kernel) rfl, zT_of (i := 135) (by decide +kernel) rfl, zT_of (i := 1900) (by decide +kernel) rfl⟩
theorem hy_M_shortOf : yX12_shortOf.cls ≠ "java/lang/invoke/MethodHandle" ∧ yX12_shortOf.cls ≠ "java/lang/invoke/VarHandle" ∧ (parseMethodDescriptor yX12_shortOf.desc).map (fun d => d.parameters.length) = some 1 := by decide +kernel
theorem w_M_stepsOn : Cond.instanceMethod yX12_stepsOn ∈ zT ∧ Cond.selects yX12_stepsOn.cls yX12_stepsOn yX12_stepsOn ∈ zT ∧ Cond.initialized yX12_stepsOn.cls ∈ zT ∧ Cond.code yX12_stepsOn cX12_stepsOn 1 none ∈ zT := ⟨zT_of (i := 1831) (by decide +kernel) rfl, zT_of (i := 101) (by decide +kernel) rfl, zT_of (i := 135) (by decide +kernel) rfl, zT_of (i := 1832) (by decide +kernel) rfl⟩
theorem hy_M_stepsOn : yX12_stepsOn.cls ≠ "java/lang/invoke/MethodHandle" ∧ yX12_stepsOn.cls ≠ "java/lang/invoke/VarHandle" ∧ (parseMethodDescriptor yX12_stepsOn.desc).map (fun d => d.parameters.length) = some 0 := by decide +kernel
theorem w_M_timesOut : Cond.instanceMethod yX12_timesOut ∈ zT ∧ Cond.selects yX12_timesOut.cls yX12_timesOut yX12_timesOut ∈ zT ∧ Cond.initialized yX12_timesOut.cls ∈ zT ∧ Cond.code yX12_timesOut cX12_timesOut 6 (some .int) ∈ zT := ⟨zT_of (i := 1912) (by decide +kernel) rfl, zT_of (i := 116) (by decide +kernel) rfl, zT_of (i := 135) (by decide +kernel) rfl, zT_of (i := 1913) (by decide +kernel) rfl⟩
theorem hy_M_timesOut : yX12_timesOut.cls ≠ "java/lang/invoke/MethodHandle" ∧ yX12_timesOut.cls ≠ "java/lang/invoke/VarHandle" ∧ (parseMethodDescriptor yX12_timesOut.desc).map (fun d => d.parameters.length) = some 2 := by decide +kernel
theorem w_M_when : Cond.instanceMethod yX12_when ∈ zT ∧ Cond.selects yX12_when.cls yX12_when yX12_when ∈ zT ∧ Cond.initialized yX12_when.cls ∈ zT ∧ Cond.code yX12_when cX12_when 6 (some .int) ∈ zT := ⟨zT_of (i := 1886) (by decide +kernel) rfl, zT_of (i := 1887) (by decide +kernel) rfl, zT_of (i := 135) (by decide +kernel) rfl, zT_of (i := 1888) (by decide +kernel) rfl⟩
theorem hy_M_when : yX12_when.cls ≠ "java/lang/invoke/MethodHandle" ∧ yX12_when.cls ≠ "java/lang/invoke/VarHandle" ∧ (parseMethodDescriptor yX12_when.desc).map (fun d => d.parameters.length) = some 2 := by decide +kernel
theorem dX12_stepsOn_0 : decode cX12_stepsOn 0 = .ok (.aload_n 0, 1) := by decide +kernel
theorem dX12_stepsOn_1 : decode cX12_stepsOn 1 = .ok (.invokevirtual 312, 3) := by decide +kernel
theorem dX12_stepsOn_4 : decode cX12_stepsOn 4 = .ok (.aload_n 0, 1) := by decide +kernel
theorem dX12_stepsOn_5 : decode cX12_stepsOn 5 = .ok (.invokevirtual 315, 3) := by decide +kernel
theorem dX12_stepsOn_8 : decode cX12_stepsOn 8 = .ok (.return_, 1) := by decide +kernel
abbrev rm_M_stepsOn : Room := { frames := 8, cells := 0, slots := 0, locals := 184 }
def M_stepsOn (σ : Sg)  : Option Sg :=
  (M_begins σ).bind fun r1 =>
  (M_goes r1).bind fun r5 =>
  some r5
set_option maxRecDepth 20000 in
theorem t_M_stepsOn {X : Zx} {Q : State → Prop} {σ : Sg}  (ok : Zok X cX12_stepsOn RX12 rm_M_stepsOn 198 1)  {out : Sg} (hf : M_stepsOn σ = some out) (hk : ZrV cX12_stepsOn X Q out) : ZAt X Q 0 0 0 σ [(0, .ref (X.ad 171))] [] := by
  unfold M_stepsOn at hf
  refine z_aload_n ok dX12_stepsOn_0 0 rfl ?_
  refine z_call hf (fun r1 h1 hf => ?_)
  refine z_cVv (As := []) (rest := []) (w := 171) ok kc_171 zc_12 (c_M_begins h1) rfl ⟨ml_12_312, w_M_begins⟩ hy_M_begins ⟨rfl, rfl⟩ ⟨Nat.le_of_ble_eq_true rfl, Nat.le_of_ble_eq_true rfl⟩ ⟨Nat.zero_le _, Nat.zero_le _⟩ rfl (Nat.le_of_ble_eq_true rfl) dX12_stepsOn_1 ?_
  refine z_aload_n ok dX12_stepsOn_4 0 rfl ?_
  refine z_call hf (fun r5 h5 hf => ?_)
  refine z_cVv (As := []) (rest := []) (w := 171) ok kc_171 zc_12 (c_M_goes h5) rfl ⟨ml_12_315, w_M_goes⟩ hy_M_goes ⟨rfl, rfl⟩ ⟨Nat.le_of_ble_eq_true rfl, Nat.le_of_ble_eq_true rfl⟩ ⟨Nat.zero_le _, Nat.zero_le _⟩ rfl (Nat.le_of_ble_eq_true rfl) dX12_stepsOn_5 ?_
  obtain rfl := Option.some.inj hf
  exact hk _ _ dX12_stepsOn_8
theorem c_M_stepsOn {σ : Sg} {r : Sg} (h : M_stepsOn σ = some r) : ZcV yX12_stepsOn cX12_stepsOn 1 rm_M_stepsOn 198 (fun ad => [.ref (ad 171)]) σ r :=
  zmetV pn_12 rfl (fun _ => rfl) (fun _ => Nat.le_of_ble_eq_true rfl) (fun X Q ok hk => t_M_stepsOn ok h hk)
theorem dX12_goesAhead_0 : decode cX12_goesAhead 0 = .ok (.iconst 0, 1) := by decide +kernel
theorem dX12_goesAhead_1 : decode cX12_goesAhead 1 = .ok (.istore_n 2, 1) := by decide +kernel
theorem dX12_goesAhead_2 : decode cX12_goesAhead 2 = .ok (.iload_n 2, 1) := by decide +kernel
theorem dX12_goesAhead_3 : decode cX12_goesAhead 3 = .ok (.iload_n 1, 1) := by decide +kernel
theorem dX12_goesAhead_4 : decode cX12_goesAhead 4 = .ok (.if_icmp .ge 13, 3) := by decide +kernel
theorem dX12_goesAhead_7 : decode cX12_goesAhead 7 = .ok (.aload_n 0, 1) := by decide +kernel
theorem dX12_goesAhead_8 : decode cX12_goesAhead 8 = .ok (.invokevirtual 346, 3) := by decide +kernel
theorem dX12_goesAhead_11 : decode cX12_goesAhead 11 = .ok (.iinc 2 1, 3) := by decide +kernel
theorem dX12_goesAhead_14 : decode cX12_goesAhead 14 = .ok (.goto (-12), 3) := by decide +kernel
theorem dX12_goesAhead_17 : decode cX12_goesAhead 17 = .ok (.return_, 1) := by decide +kernel
abbrev rm_M_goesAhead : Room := { frames := 9, cells := 0, slots := 0, locals := 204 }
def M_goesAhead_l2 (σ : Sg) (x1 : Int32) (x2 : Int32) : Option ((Sg × Int32) ⊕ (Sg × Int32)) :=
  if x1 ≤ x2 then (
    some (.inr (σ, x2))
  ) else (
    (M_stepsOn σ).bind fun r8 =>
    zlt (x2 + 1) fun v11 =>
    some (.inl (r8, v11))
  )
set_option maxRecDepth 20000 in
theorem t_M_goesAhead_l2 {X : Zx} {Q : State → Prop} {σ : Sg} {x1 : Int32} {x2 : Int32} (ok : Zok X cX12_goesAhead RX12 rm_M_goesAhead 198 3)  {out : ((Sg × Int32) ⊕ (Sg × Int32))} (hf : M_goesAhead_l2 σ x1 x2 = some out) (hk : zout (fun (s : (Sg × Int32)) => ZAt X Q 0 0 2 s.1 [(0, .ref (X.ad 171)), (1, .int x1), (2, .int s.2)] []) (fun (s : (Sg × Int32)) => ZAt X Q 0 0 17 s.1 [] []) out) : ZAt X Q 0 0 2 σ [(0, .ref (X.ad 171)), (1, .int x1), (2, .int x2)] [] := by
  unfold M_goesAhead_l2 at hf
  refine z_iload_n ok dX12_goesAhead_2 2 rfl ?_
  refine z_iload_n ok dX12_goesAhead_3 1 rfl ?_
  refine z_icmp_ge (tgt := 17) ok dX12_goesAhead_4 (by decide) hf (fun _ hf => ?_) (fun _ hf => ?_)
  · obtain rfl := Option.some.inj hf
    exact z_sub [] rfl hk
  · refine z_aload_n ok dX12_goesAhead_7 0 rfl ?_
    refine z_call hf (fun r8 h8 hf => ?_)
    refine z_cVv (As := []) (rest := []) (w := 171) ok kc_171 zc_12 (c_M_stepsOn h8) rfl ⟨ml_12_346, w_M_stepsOn⟩ hy_M_stepsOn ⟨rfl, rfl⟩ ⟨Nat.le_of_ble_eq_true rfl, Nat.le_of_ble_eq_true rfl⟩ ⟨Nat.zero_le _, Nat.zero_le _⟩ rfl (Nat.le_of_ble_eq_true rfl) dX12_goesAhead_8 ?_
    refine z_iinc (w := 1) (lv' := fun v11 => [(2, .int v11), (0, .ref (X.ad 171)), (1, .int x1)]) ok dX12_goesAhead_11 2 rfl (by decide) (by decide) (fun _ => rfl) hf (fun v11 hf => ?_)
    refine z_goto (tgt := 2) ok dX12_goesAhead_14 (by decide) ?_
    obtain rfl := Option.some.inj hf
    exact z_sub [1, 2, 0] rfl hk
def M_goesAhead (σ : Sg) (x1 : Int32) : Option Sg :=
  zlt 0 fun v1 =>
  (zit (fun (s : (Sg × Int32)) => M_goesAhead_l2 s.1 x1 s.2) zFU (σ, v1)).bind fun r =>
  some r.1
set_option maxRecDepth 20000 in
theorem t_M_goesAhead {X : Zx} {Q : State → Prop} {σ : Sg} {x1 : Int32} (ok : Zok X cX12_goesAhead RX12 rm_M_goesAhead 198 3)  {out : Sg} (hf : M_goesAhead σ x1 = some out) (hk : ZrV cX12_goesAhead X Q out) : ZAt X Q 0 0 0 σ [(0, .ref (X.ad 171)), (1, .int x1)] [] := by
  unfold M_goesAhead at hf
  refine z_iconst (v := 0) ok dX12_goesAhead_0 (by decide) ?_
  refine z_nm hf (fun v1 hf => ?_)
  refine z_istore_n (lv' := [(2, .int v1), (0, .ref (X.ad 171)), (1, .int x1)]) ok dX12_goesAhead_1 (by decide) rfl ?_
  refine z_call hf (fun r hr hf => ?_)
  refine z_sub [1, 2, 0] rfl (z_iter (fun (s : (Sg × Int32)) => s.1) (fun (s : (Sg × Int32)) => [(0, .ref (X.ad 171)), (1, .int x1), (2, .int s.2)]) (fun s o h1 h2 => t_M_goesAhead_l2 ok h1 h2) _ _ _ hr ?_)
  show ZAt X Q 0 0 17 r.1 [] []
  obtain rfl := Option.some.inj hf
  exact hk _ _ dX12_goesAhead_17
theorem c_M_goesAhead {σ : Sg} {x1 : Int32} {r : Sg} (h : M_goesAhead σ x1 = some r) : ZcV yX12_goesAhead cX12_goesAhead 3 rm_M_goesAhead 198 (fun ad => [.ref (ad 171), .int x1]) σ r :=
  zmetV pn_12 rfl (fun _ => rfl) (fun _ => Nat.le_of_ble_eq_true rfl) (fun X Q ok hk => t_M_goesAhead ok h hk)
theorem dX12_endsAhead_0 : decode cX12_endsAhead 0 = .ok (.iconst 0, 1) := by decide +kernel
theorem dX12_endsAhead_1 : decode cX12_endsAhead 1 = .ok (.istore_n 1, 1) := by decide +kernel
theorem dX12_endsAhead_2 : decode cX12_endsAhead 2 = .ok (.iload_n 1, 1) := by decide +kernel
theorem dX12_endsAhead_3 : decode cX12_endsAhead 3 = .ok (.sipush 205, 3) := by decide +kernel
theorem dX12_endsAhead_6 : decode cX12_endsAhead 6 = .ok (.if_icmp .ge 21, 3) := by decide +kernel
theorem dX12_endsAhead_9 : decode cX12_endsAhead 9 = .ok (.aload_n 0, 1) := by decide +kernel
theorem dX12_endsAhead_10 : decode cX12_endsAhead 10 = .ok (.getfield 71, 3) := by decide +kernel
theorem dX12_endsAhead_13 : decode cX12_endsAhead 13 = .ok (.iload_n 1, 1) := by decide +kernel
theorem dX12_endsAhead_14 : decode cX12_endsAhead 14 = .ok (.aload_n 0, 1) := by decide +kernel
theorem dX12_endsAhead_15 : decode cX12_endsAhead 15 = .ok (.getfield 74, 3) := by decide +kernel
theorem dX12_endsAhead_18 : decode cX12_endsAhead 18 = .ok (.iload_n 1, 1) := by decide +kernel
theorem dX12_endsAhead_19 : decode cX12_endsAhead 19 = .ok (.iaload, 1) := by decide +kernel
theorem dX12_endsAhead_20 : decode cX12_endsAhead 20 = .ok (.iastore, 1) := by decide +kernel
theorem dX12_endsAhead_21 : decode cX12_endsAhead 21 = .ok (.iinc 1 1, 3) := by decide +kernel
theorem dX12_endsAhead_24 : decode cX12_endsAhead 24 = .ok (.goto (-22), 3) := by decide +kernel
theorem dX12_endsAhead_27 : decode cX12_endsAhead 27 = .ok (.aload_n 0, 1) := by decide +kernel
theorem dX12_endsAhead_28 : decode cX12_endsAhead 28 = .ok (.iconst 0, 1) := by decide +kernel
theorem dX12_endsAhead_29 : decode cX12_endsAhead 29 = .ok (.putfield 90, 3) := by decide +kernel
theorem dX12_endsAhead_32 : decode cX12_endsAhead 32 = .ok (.return_, 1) := by decide +kernel
abbrev rm_M_endsAhead : Room := { frames := 0, cells := 0, slots := 0, locals := 0 }
def M_endsAhead_l2 (σ : Sg) (x1 : Int32) : Option ((Sg × Int32) ⊕ (Sg × Int32)) :=
  if 205 ≤ x1 then (
    some (.inr (σ, x1))
  ) else (
    zrd σ 184 205 x1 fun v19 =>
    zwr σ 183 1607 x1 v19 fun σ20 =>
    zlt (x1 + 1) fun v21 =>
    some (.inl (σ20, v21))
  )
set_option maxRecDepth 20000 in
theorem t_M_endsAhead_l2 {X : Zx} {Q : State → Prop} {σ : Sg} {x1 : Int32} (ok : Zok X cX12_endsAhead RX12 rm_M_endsAhead 198 2)  {out : ((Sg × Int32) ⊕ (Sg × Int32))} (hf : M_endsAhead_l2 σ x1 = some out) (hk : zout (fun (s : (Sg × Int32)) => ZAt X Q 0 0 2 s.1 [(0, .ref (X.ad 171)), (1, .int s.2)] []) (fun (s : (Sg × Int32)) => ZAt X Q 0 0 27 s.1 [(0, .ref (X.ad 171))] []) out) : ZAt X Q 0 0 2 σ [(0, .ref (X.ad 171)), (1, .int x1)] [] := by
  unfold M_endsAhead_l2 at hf
  refine z_iload_n ok dX12_endsAhead_2 1 rfl ?_
  refine z_sipush (v := 205) ok dX12_endsAhead_3 (by decide) ?_
  refine z_icmp_ge (tgt := 27) ok dX12_endsAhead_6 (by decide) hf (fun _ hf => ?_) (fun _ hf => ?_)
  · obtain rfl := Option.some.inj hf
    exact z_sub [0] rfl hk
  · refine z_aload_n ok dX12_endsAhead_9 0 rfl ?_
    refine z_getr (q := 183) ok kc_171 zc_12 hin_12 20 (by decide) fl_12_71 rfl dX12_endsAhead_10 ?_
    refine z_iload_n ok dX12_endsAhead_13 1 rfl ?_
    refine z_aload_n ok dX12_endsAhead_14 0 rfl ?_
    refine z_getr (q := 184) ok kc_171 zc_12 hin_12 21 (by decide) fl_12_74 rfl dX12_endsAhead_15 ?_
    refine z_iload_n ok dX12_endsAhead_18 1 rfl ?_
    refine z_iald ok kc_184 dX12_endsAhead_19 hf (fun v19 hf => ?_)
    refine z_iast ok kc_183 dX12_endsAhead_20 hf (fun σ20 hf => ?_)
    refine z_iinc (w := 1) (lv' := fun v21 => [(1, .int v21), (0, .ref (X.ad 171))]) ok dX12_endsAhead_21 1 rfl (by decide) (by decide) (fun _ => rfl) hf (fun v21 hf => ?_)
    refine z_goto (tgt := 2) ok dX12_endsAhead_24 (by decide) ?_
    obtain rfl := Option.some.inj hf
    exact z_sub [1, 0] rfl hk
def M_endsAhead (σ : Sg)  : Option Sg :=
  zlt 0 fun v1 =>
  (zit (fun (s : (Sg × Int32)) => M_endsAhead_l2 s.1 s.2) zFU (σ, v1)).bind fun r =>
  zbo 0 <| zpt r.1 171 26 0 fun σ29 =>
  some σ29
set_option maxRecDepth 20000 in
theorem t_M_endsAhead {X : Zx} {Q : State → Prop} {σ : Sg}  (ok : Zok X cX12_endsAhead RX12 rm_M_endsAhead 198 2)  {out : Sg} (hf : M_endsAhead σ = some out) (hk : ZrV cX12_endsAhead X Q out) : ZAt X Q 0 0 0 σ [(0, .ref (X.ad 171))] [] := by
  unfold M_endsAhead at hf
  refine z_iconst (v := 0) ok dX12_endsAhead_0 (by decide) ?_
  refine z_nm hf (fun v1 hf => ?_)
  refine z_istore_n (lv' := [(1, .int v1), (0, .ref (X.ad 171))]) ok dX12_endsAhead_1 (by decide) rfl ?_
  refine z_call hf (fun r hr hf => ?_)
  refine z_sub [1, 0] rfl (z_iter (fun (s : (Sg × Int32)) => s.1) (fun (s : (Sg × Int32)) => [(0, .ref (X.ad 171)), (1, .int s.2)]) (fun s o h1 h2 => t_M_endsAhead_l2 ok h1 h2) _ _ _ hr ?_)
  show ZAt X Q 0 0 27 r.1 [(0, .ref (X.ad 171))] []
  refine z_aload_n ok dX12_endsAhead_27 0 rfl ?_
  refine z_iconst (v := 0) ok dX12_endsAhead_28 (by decide) ?_
  refine z_putz ok kc_171 zc_12 hin_12 tyX12 tyX12_ok nmX12 26 (by decide) fl_12_90 rfl rfl (tyX12_ok 26 (by decide)) dX12_endsAhead_29 hf (fun σ29 hf => ?_)
  obtain rfl := Option.some.inj hf
  exact hk _ _ dX12_endsAhead_32
theorem c_M_endsAhead {σ : Sg} {r : Sg} (h : M_endsAhead σ = some r) : ZcV yX12_endsAhead cX12_endsAhead 2 rm_M_endsAhead 198 (fun ad => [.ref (ad 171)]) σ r :=
  zmetV pn_12 rfl (fun _ => rfl) (fun _ => Nat.le_of_ble_eq_true rfl) (fun X Q ok hk => t_M_endsAhead ok h hk)
theorem dX12_later_0 : decode cX12_later 0 = .ok (.aload_n 0, 1) := by decide +kernel
theorem dX12_later_1 : decode cX12_later 1 = .ok (.iload_n 1, 1) := by decide +kernel
theorem dX12_later_2 : decode cX12_later 2 = .ok (.invokevirtual 321, 3) := by decide +kernel
theorem dX12_later_5 : decode cX12_later 5 = .ok (.ifCond .eq 14, 3) := by decide +kernel
theorem dX12_later_8 : decode cX12_later 8 = .ok (.iload_n 2, 1) := by decide +kernel
theorem dX12_later_9 : decode cX12_later 9 = .ok (.iconst 0, 1) := by decide +kernel
theorem dX12_later_10 : decode cX12_later 10 = .ok (.sipush 200, 3) := by decide +kernel
theorem dX12_later_13 : decode cX12_later 13 = .ok (.invokestatic 198, 3) := by decide +kernel
theorem dX12_later_16 : decode cX12_later 16 = .ok (.ifCond .ne 5, 3) := by decide +kernel
theorem dX12_later_19 : decode cX12_later 19 = .ok (.iconst (-1), 1) := by decide +kernel
theorem dX12_later_20 : decode cX12_later 20 = .ok (.ireturn, 1) := by decide +kernel
theorem dX12_later_21 : decode cX12_later 21 = .ok (.aload_n 0, 1) := by decide +kernel
theorem dX12_later_22 : decode cX12_later 22 = .ok (.invokevirtual 349, 3) := by decide +kernel
theorem dX12_later_25 : decode cX12_later 25 = .ok (.aload_n 0, 1) := by decide +kernel
theorem dX12_later_26 : decode cX12_later 26 = .ok (.iload_n 2, 1) := by decide +kernel
theorem dX12_later_27 : decode cX12_later 27 = .ok (.invokevirtual 352, 3) := by decide +kernel
theorem dX12_later_30 : decode cX12_later 30 = .ok (.aload_n 0, 1) := by decide +kernel
theorem dX12_later_31 : decode cX12_later 31 = .ok (.getfield 71, 3) := by decide +kernel
theorem dX12_later_34 : decode cX12_later 34 = .ok (.iconst 0, 1) := by decide +kernel
theorem dX12_later_35 : decode cX12_later 35 = .ok (.iload_n 1, 1) := by decide +kernel
theorem dX12_later_36 : decode cX12_later 36 = .ok (.iadd, 1) := by decide +kernel
theorem dX12_later_37 : decode cX12_later 37 = .ok (.iaload, 1) := by decide +kernel
theorem dX12_later_38 : decode cX12_later 38 = .ok (.istore_n 3, 1) := by decide +kernel
theorem dX12_later_39 : decode cX12_later 39 = .ok (.aload_n 0, 1) := by decide +kernel
theorem dX12_later_40 : decode cX12_later 40 = .ok (.invokevirtual 355, 3) := by decide +kernel
theorem dX12_later_43 : decode cX12_later 43 = .ok (.iload_n 3, 1) := by decide +kernel
theorem dX12_later_44 : decode cX12_later 44 = .ok (.ireturn, 1) := by decide +kernel
abbrev rm_M_later : Room := { frames := 10, cells := 0, slots := 0, locals := 226 }
def M_later (σ : Sg) (x1 : Int32) (x2 : Int32) : Option (Int32 × Sg) :=
  (M_isPool σ x1).bind fun r2 =>
  if (zb r2) = 0 then (
    some ((-1), σ)
  ) else (
    (M_isIn x2 0 200).bind fun r13 =>
    if (zb r13) = 0 then (
      some ((-1), σ)
    ) else (
      (M_beginsAhead σ).bind fun r22 =>
      (M_goesAhead r22 x2).bind fun r27 =>
      zrd r27 183 1607 (0 + x1) fun v37 =>
      (M_endsAhead r27).bind fun r40 =>
      some (v37, r40)
    )
  )
set_option maxRecDepth 20000 in
theorem t_M_later {X : Zx} {Q : State → Prop} {σ : Sg} {x1 : Int32} {x2 : Int32} (ok : Zok X cX12_later RX12 rm_M_later 198 4)  {out : (Int32 × Sg)} (hf : M_later σ x1 x2 = some out) (hk : ZrI cX12_later X Q out.1 out.2) : ZAt X Q 0 0 0 σ [(0, .ref (X.ad 171)), (1, .int x1), (2, .int x2)] [] := by
  unfold M_later at hf
  refine z_aload_n ok dX12_later_0 0 rfl ?_
  refine z_iload_n ok dX12_later_1 1 rfl ?_
  refine z_call hf (fun r2 h2 hf => ?_)
  refine z_cV (As := [.int x1]) (rest := []) (w := 171) ok kc_171 zc_12 (c_M_isPool h2) rfl ⟨ml_12_321, w_M_isPool⟩ hy_M_isPool ⟨rfl, rfl⟩ ⟨Nat.le_of_ble_eq_true rfl, Nat.le_of_ble_eq_true rfl⟩ ⟨Nat.zero_le _, Nat.zero_le _⟩ rfl (Nat.le_of_ble_eq_true rfl) dX12_later_2 ?_
  refine z_if_eq (tgt := 19) ok dX12_later_5 (by decide) hf (fun _ hf => ?_) (fun _ hf => ?_)
  · refine z_iconst (v := (-1)) ok dX12_later_19 (by decide) ?_
    obtain rfl := Option.some.inj hf
    exact hk _ _ dX12_later_20
  · refine z_iload_n ok dX12_later_8 2 rfl ?_
    refine z_iconst (v := 0) ok dX12_later_9 (by decide) ?_
    refine z_sipush (v := 200) ok dX12_later_10 (by decide) ?_
    refine z_call hf (fun r13 h13 hf => ?_)
    refine z_cS (As := [.int x2, .int 0, .int 200]) (rest := []) ok (c_M_isIn h13) rfl ⟨ml_12_198, w_M_isIn⟩ hy_M_isIn ⟨rfl, rfl⟩ ⟨Nat.le_of_ble_eq_true rfl, Nat.le_of_ble_eq_true rfl⟩ ⟨Nat.zero_le _, Nat.zero_le _⟩ rfl (Nat.le_of_ble_eq_true rfl) dX12_later_13 ?_
    refine z_if_ne (tgt := 21) ok dX12_later_16 (by decide) hf (fun _ hf => ?_) (fun _ hf => ?_)
    · refine z_iconst (v := (-1)) ok dX12_later_19 (by decide) ?_
      obtain rfl := Option.some.inj hf
      exact hk _ _ dX12_later_20
    · refine z_aload_n ok dX12_later_21 0 rfl ?_
      refine z_call hf (fun r22 h22 hf => ?_)
      refine z_cVv (As := []) (rest := []) (w := 171) ok kc_171 zc_12 (c_M_beginsAhead h22) rfl ⟨ml_12_349, w_M_beginsAhead⟩ hy_M_beginsAhead ⟨rfl, rfl⟩ ⟨Nat.le_of_ble_eq_true rfl, Nat.le_of_ble_eq_true rfl⟩ ⟨Nat.zero_le _, Nat.zero_le _⟩ rfl (Nat.le_of_ble_eq_true rfl) dX12_later_22 ?_
      refine z_aload_n ok dX12_later_25 0 rfl ?_
      refine z_iload_n ok dX12_later_26 2 rfl ?_
      refine z_call hf (fun r27 h27 hf => ?_)
      refine z_cVv (As := [.int x2]) (rest := []) (w := 171) ok kc_171 zc_12 (c_M_goesAhead h27) rfl ⟨ml_12_352, w_M_goesAhead⟩ hy_M_goesAhead ⟨rfl, rfl⟩ ⟨Nat.le_of_ble_eq_true rfl, Nat.le_of_ble_eq_true rfl⟩ ⟨Nat.zero_le _, Nat.zero_le _⟩ rfl (Nat.le_of_ble_eq_true rfl) dX12_later_27 ?_
      refine z_aload_n ok dX12_later_30 0 rfl ?_
      refine z_getr (q := 183) ok kc_171 zc_12 hin_12 20 (by decide) fl_12_71 rfl dX12_later_31 ?_
      refine z_iconst (v := 0) ok dX12_later_34 (by decide) ?_
      refine z_iload_n ok dX12_later_35 1 rfl ?_
      refine z_iadd ok dX12_later_36 ?_
      refine z_iald ok kc_183 dX12_later_37 hf (fun v37 hf => ?_)
      refine z_istore_n (lv' := [(3, .int v37), (0, .ref (X.ad 171)), (1, .int x1), (2, .int x2)]) ok dX12_later_38 (by decide) rfl ?_
      refine z_aload_n ok dX12_later_39 1 rfl ?_
      refine z_call hf (fun r40 h40 hf => ?_)
      refine z_cVv (As := []) (rest := []) (w := 171) ok kc_171 zc_12 (c_M_endsAhead h40) rfl ⟨ml_12_355, w_M_endsAhead⟩ hy_M_endsAhead ⟨rfl, rfl⟩ ⟨Nat.le_of_ble_eq_true rfl, Nat.le_of_ble_eq_true rfl⟩ ⟨Nat.zero_le _, Nat.zero_le _⟩ rfl (Nat.le_of_ble_eq_true rfl) dX12_later_40 ?_
      refine z_iload_n ok dX12_later_43 0 rfl ?_
      obtain rfl := Option.some.inj hf
      exact hk _ _ dX12_later_44
theorem c_M_later {σ : Sg} {x1 : Int32} {x2 : Int32} {r : (Int32 × Sg)} (h : M_later σ x1 x2 = some r) : ZcI yX12_later cX12_later 4 .int rm_M_later 198 (fun ad => [.ref (ad 171), .int x1, .int x2]) σ r.1 r.2 :=
  zmetI pn_12 rfl (fun _ => rfl) (fun _ => Nat.le_of_ble_eq_true rfl) rfl (fun X Q ok hk => t_M_later ok h hk)
theorem dX12_opening_0 : decode cX12_opening 0 = .ok (.aload_n 0, 1) := by decide +kernel
theorem dX12_opening_1 : decode cX12_opening 1 = .ok (.iload_n 1, 1) := by decide +kernel
theorem dX12_opening_2 : decode cX12_opening 2 = .ok (.invokevirtual 321, 3) := by decide +kernel
theorem dX12_opening_5 : decode cX12_opening 5 = .ok (.ifCond .eq 14, 3) := by decide +kernel
theorem dX12_opening_8 : decode cX12_opening 8 = .ok (.iload_n 2, 1) := by decide +kernel
theorem dX12_opening_9 : decode cX12_opening 9 = .ok (.iconst 0, 1) := by decide +kernel
theorem dX12_opening_10 : decode cX12_opening 10 = .ok (.sipush 200, 3) := by decide +kernel
theorem dX12_opening_13 : decode cX12_opening 13 = .ok (.invokestatic 198, 3) := by decide +kernel
theorem dX12_opening_16 : decode cX12_opening 16 = .ok (.ifCond .ne 5, 3) := by decide +kernel
theorem dX12_opening_19 : decode cX12_opening 19 = .ok (.iconst (-1), 1) := by decide +kernel
theorem dX12_opening_20 : decode cX12_opening 20 = .ok (.ireturn, 1) := by decide +kernel
theorem dX12_opening_21 : decode cX12_opening 21 = .ok (.aload_n 0, 1) := by decide +kernel
theorem dX12_opening_22 : decode cX12_opening 22 = .ok (.invokevirtual 349, 3) := by decide +kernel
theorem dX12_opening_25 : decode cX12_opening 25 = .ok (.aload_n 0, 1) := by decide +kernel
theorem dX12_opening_26 : decode cX12_opening 26 = .ok (.iload_n 2, 1) := by decide +kernel
theorem dX12_opening_27 : decode cX12_opening 27 = .ok (.invokevirtual 352, 3) := by decide +kernel
theorem dX12_opening_30 : decode cX12_opening 30 = .ok (.aload_n 0, 1) := by decide +kernel
theorem dX12_opening_31 : decode cX12_opening 31 = .ok (.getfield 71, 3) := by decide +kernel
theorem dX12_opening_34 : decode cX12_opening 34 = .ok (.bipush 8, 2) := by decide +kernel
theorem dX12_opening_36 : decode cX12_opening 36 = .ok (.iload_n 1, 1) := by decide +kernel
theorem dX12_opening_37 : decode cX12_opening 37 = .ok (.iadd, 1) := by decide +kernel
theorem dX12_opening_38 : decode cX12_opening 38 = .ok (.iaload, 1) := by decide +kernel
theorem dX12_opening_39 : decode cX12_opening 39 = .ok (.istore_n 3, 1) := by decide +kernel
theorem dX12_opening_40 : decode cX12_opening 40 = .ok (.aload_n 0, 1) := by decide +kernel
theorem dX12_opening_41 : decode cX12_opening 41 = .ok (.invokevirtual 355, 3) := by decide +kernel
theorem dX12_opening_44 : decode cX12_opening 44 = .ok (.iload_n 3, 1) := by decide +kernel
theorem dX12_opening_45 : decode cX12_opening 45 = .ok (.ireturn, 1) := by decide +kernel
abbrev rm_M_opening : Room := { frames := 10, cells := 0, slots := 0, locals := 226 }
def M_opening (σ : Sg) (x1 : Int32) (x2 : Int32) : Option (Int32 × Sg) :=
  (M_isPool σ x1).bind fun r2 =>
  if (zb r2) = 0 then (
    some ((-1), σ)
  ) else (
    (M_isIn x2 0 200).bind fun r13 =>
    if (zb r13) = 0 then (
      some ((-1), σ)
    ) else (
      (M_beginsAhead σ).bind fun r22 =>
      (M_goesAhead r22 x2).bind fun r27 =>
      zrd r27 183 1607 (8 + x1) fun v38 =>
      (M_endsAhead r27).bind fun r41 =>
      some (v38, r41)
    )
  )
set_option maxRecDepth 20000 in
theorem t_M_opening {X : Zx} {Q : State → Prop} {σ : Sg} {x1 : Int32} {x2 : Int32} (ok : Zok X cX12_opening RX12 rm_M_opening 198 4)  {out : (Int32 × Sg)} (hf : M_opening σ x1 x2 = some out) (hk : ZrI cX12_opening X Q out.1 out.2) : ZAt X Q 0 0 0 σ [(0, .ref (X.ad 171)), (1, .int x1), (2, .int x2)] [] := by
  unfold M_opening at hf
  refine z_aload_n ok dX12_opening_0 0 rfl ?_
  refine z_iload_n ok dX12_opening_1 1 rfl ?_
  refine z_call hf (fun r2 h2 hf => ?_)
  refine z_cV (As := [.int x1]) (rest := []) (w := 171) ok kc_171 zc_12 (c_M_isPool h2) rfl ⟨ml_12_321, w_M_isPool⟩ hy_M_isPool ⟨rfl, rfl⟩ ⟨Nat.le_of_ble_eq_true rfl, Nat.le_of_ble_eq_true rfl⟩ ⟨Nat.zero_le _, Nat.zero_le _⟩ rfl (Nat.le_of_ble_eq_true rfl) dX12_opening_2 ?_
  refine z_if_eq (tgt := 19) ok dX12_opening_5 (by decide) hf (fun _ hf => ?_) (fun _ hf => ?_)
  · refine z_iconst (v := (-1)) ok dX12_opening_19 (by decide) ?_
    obtain rfl := Option.some.inj hf
    exact hk _ _ dX12_opening_20
  · refine z_iload_n ok dX12_opening_8 2 rfl ?_
    refine z_iconst (v := 0) ok dX12_opening_9 (by decide) ?_
    refine z_sipush (v := 200) ok dX12_opening_10 (by decide) ?_
    refine z_call hf (fun r13 h13 hf => ?_)
    refine z_cS (As := [.int x2, .int 0, .int 200]) (rest := []) ok (c_M_isIn h13) rfl ⟨ml_12_198, w_M_isIn⟩ hy_M_isIn ⟨rfl, rfl⟩ ⟨Nat.le_of_ble_eq_true rfl, Nat.le_of_ble_eq_true rfl⟩ ⟨Nat.zero_le _, Nat.zero_le _⟩ rfl (Nat.le_of_ble_eq_true rfl) dX12_opening_13 ?_
    refine z_if_ne (tgt := 21) ok dX12_opening_16 (by decide) hf (fun _ hf => ?_) (fun _ hf => ?_)
    · refine z_iconst (v := (-1)) ok dX12_opening_19 (by decide) ?_
      obtain rfl := Option.some.inj hf
      exact hk _ _ dX12_opening_20
    · refine z_aload_n ok dX12_opening_21 0 rfl ?_
      refine z_call hf (fun r22 h22 hf => ?_)
      refine z_cVv (As := []) (rest := []) (w := 171) ok kc_171 zc_12 (c_M_beginsAhead h22) rfl ⟨ml_12_349, w_M_beginsAhead⟩ hy_M_beginsAhead ⟨rfl, rfl⟩ ⟨Nat.le_of_ble_eq_true rfl, Nat.le_of_ble_eq_true rfl⟩ ⟨Nat.zero_le _, Nat.zero_le _⟩ rfl (Nat.le_of_ble_eq_true rfl) dX12_opening_22 ?_
      refine z_aload_n ok dX12_opening_25 0 rfl ?_
      refine z_iload_n ok dX12_opening_26 2 rfl ?_
      refine z_call hf (fun r27 h27 hf => ?_)
      refine z_cVv (As := [.int x2]) (rest := []) (w := 171) ok kc_171 zc_12 (c_M_goesAhead h27) rfl ⟨ml_12_352, w_M_goesAhead⟩ hy_M_goesAhead ⟨rfl, rfl⟩ ⟨Nat.le_of_ble_eq_true rfl, Nat.le_of_ble_eq_true rfl⟩ ⟨Nat.zero_le _, Nat.zero_le _⟩ rfl (Nat.le_of_ble_eq_true rfl) dX12_opening_27 ?_
      refine z_aload_n ok dX12_opening_30 0 rfl ?_
      refine z_getr (q := 183) ok kc_171 zc_12 hin_12 20 (by decide) fl_12_71 rfl dX12_opening_31 ?_
      refine z_bipush (v := 8) ok dX12_opening_34 (by decide) ?_
      refine z_iload_n ok dX12_opening_36 1 rfl ?_
      refine z_iadd ok dX12_opening_37 ?_
      refine z_iald ok kc_183 dX12_opening_38 hf (fun v38 hf => ?_)
      refine z_istore_n (lv' := [(3, .int v38), (0, .ref (X.ad 171)), (1, .int x1), (2, .int x2)]) ok dX12_opening_39 (by decide) rfl ?_
      refine z_aload_n ok dX12_opening_40 1 rfl ?_
      refine z_call hf (fun r41 h41 hf => ?_)
      refine z_cVv (As := []) (rest := []) (w := 171) ok kc_171 zc_12 (c_M_endsAhead h41) rfl ⟨ml_12_355, w_M_endsAhead⟩ hy_M_endsAhead ⟨rfl, rfl⟩ ⟨Nat.le_of_ble_eq_true rfl, Nat.le_of_ble_eq_true rfl⟩ ⟨Nat.zero_le _, Nat.zero_le _⟩ rfl (Nat.le_of_ble_eq_true rfl) dX12_opening_41 ?_
      refine z_iload_n ok dX12_opening_44 0 rfl ?_
      obtain rfl := Option.some.inj hf
      exact hk _ _ dX12_opening_45
theorem c_M_opening {σ : Sg} {x1 : Int32} {x2 : Int32} {r : (Int32 × Sg)} (h : M_opening σ x1 x2 = some r) : ZcI yX12_opening cX12_opening 4 .int rm_M_opening 198 (fun ad => [.ref (ad 171), .int x1, .int x2]) σ r.1 r.2 :=
  zmetI pn_12 rfl (fun _ => rfl) (fun _ => Nat.le_of_ble_eq_true rfl) rfl (fun X Q ok hk => t_M_opening ok h hk)
theorem dX12_when_0 : decode cX12_when 0 = .ok (.aload_n 0, 1) := by decide +kernel
theorem dX12_when_1 : decode cX12_when 1 = .ok (.iload_n 1, 1) := by decide +kernel
theorem dX12_when_2 : decode cX12_when 2 = .ok (.invokevirtual 321, 3) := by decide +kernel
theorem dX12_when_5 : decode cX12_when 5 = .ok (.ifCond .eq 12, 3) := by decide +kernel
theorem dX12_when_8 : decode cX12_when 8 = .ok (.iload_n 2, 1) := by decide +kernel
theorem dX12_when_9 : decode cX12_when 9 = .ok (.iconst 0, 1) := by decide +kernel
theorem dX12_when_10 : decode cX12_when 10 = .ok (.iconst 2, 1) := by decide +kernel
theorem dX12_when_11 : decode cX12_when 11 = .ok (.invokestatic 198, 3) := by decide +kernel
theorem dX12_when_14 : decode cX12_when 14 = .ok (.ifCond .ne 5, 3) := by decide +kernel
theorem dX12_when_17 : decode cX12_when 17 = .ok (.iconst (-1), 1) := by decide +kernel
theorem dX12_when_18 : decode cX12_when 18 = .ok (.ireturn, 1) := by decide +kernel
theorem dX12_when_19 : decode cX12_when 19 = .ok (.iload_n 2, 1) := by decide +kernel
theorem dX12_when_20 : decode cX12_when 20 = .ok (.iconst 2, 1) := by decide +kernel
theorem dX12_when_21 : decode cX12_when 21 = .ok (.if_icmp .ne 7, 3) := by decide +kernel
theorem dX12_when_24 : decode cX12_when 24 = .ok (.iconst 0, 1) := by decide +kernel
theorem dX12_when_25 : decode cX12_when 25 = .ok (.goto 6, 3) := by decide +kernel
theorem dX12_when_28 : decode cX12_when 28 = .ok (.iload_n 2, 1) := by decide +kernel
theorem dX12_when_29 : decode cX12_when 29 = .ok (.iconst 1, 1) := by decide +kernel
theorem dX12_when_30 : decode cX12_when 30 = .ok (.iadd, 1) := by decide +kernel
theorem dX12_when_31 : decode cX12_when 31 = .ok (.istore_n 3, 1) := by decide +kernel
theorem dX12_when_32 : decode cX12_when 32 = .ok (.iconst (-1), 1) := by decide +kernel
theorem dX12_when_33 : decode cX12_when 33 = .ok (.istore 4, 2) := by decide +kernel
theorem dX12_when_35 : decode cX12_when 35 = .ok (.aload_n 0, 1) := by decide +kernel
theorem dX12_when_36 : decode cX12_when 36 = .ok (.invokevirtual 349, 3) := by decide +kernel
theorem dX12_when_39 : decode cX12_when 39 = .ok (.iconst 1, 1) := by decide +kernel
theorem dX12_when_40 : decode cX12_when 40 = .ok (.istore 5, 2) := by decide +kernel
theorem dX12_when_42 : decode cX12_when 42 = .ok (.iload 5, 2) := by decide +kernel
theorem dX12_when_44 : decode cX12_when 44 = .ok (.sipush 200, 3) := by decide +kernel
theorem dX12_when_47 : decode cX12_when 47 = .ok (.if_icmp .gt 32, 3) := by decide +kernel
theorem dX12_when_50 : decode cX12_when 50 = .ok (.iload 4, 2) := by decide +kernel
theorem dX12_when_52 : decode cX12_when 52 = .ok (.iconst (-1), 1) := by decide +kernel
theorem dX12_when_53 : decode cX12_when 53 = .ok (.if_icmp .ne 26, 3) := by decide +kernel
theorem dX12_when_56 : decode cX12_when 56 = .ok (.aload_n 0, 1) := by decide +kernel
theorem dX12_when_57 : decode cX12_when 57 = .ok (.invokevirtual 346, 3) := by decide +kernel
theorem dX12_when_60 : decode cX12_when 60 = .ok (.aload_n 0, 1) := by decide +kernel
theorem dX12_when_61 : decode cX12_when 61 = .ok (.iload_n 1, 1) := by decide +kernel
theorem dX12_when_62 : decode cX12_when 62 = .ok (.invokevirtual 282, 3) := by decide +kernel
theorem dX12_when_65 : decode cX12_when 65 = .ok (.iload_n 3, 1) := by decide +kernel
theorem dX12_when_66 : decode cX12_when 66 = .ok (.if_icmp .ne 7, 3) := by decide +kernel
theorem dX12_when_69 : decode cX12_when 69 = .ok (.iload 5, 2) := by decide +kernel
theorem dX12_when_71 : decode cX12_when 71 = .ok (.istore 4, 2) := by decide +kernel
theorem dX12_when_73 : decode cX12_when 73 = .ok (.iinc 5 1, 3) := by decide +kernel
theorem dX12_when_76 : decode cX12_when 76 = .ok (.goto (-34), 3) := by decide +kernel
theorem dX12_when_79 : decode cX12_when 79 = .ok (.aload_n 0, 1) := by decide +kernel
theorem dX12_when_80 : decode cX12_when 80 = .ok (.invokevirtual 355, 3) := by decide +kernel
theorem dX12_when_83 : decode cX12_when 83 = .ok (.iload 4, 2) := by decide +kernel
theorem dX12_when_85 : decode cX12_when 85 = .ok (.ireturn, 1) := by decide +kernel
abbrev rm_M_when : Room := { frames := 9, cells := 0, slots := 0, locals := 204 }
def M_when_l42 (σ : Sg) (x1 : Int32) (x3 : Int32) (x4 : Int32) (x5 : Int32) : Option ((Sg × Int32 × Int32) ⊕ (Sg × Int32 × Int32)) :=
  if 200 < x5 then (
    some (.inr (σ, x4, x5))
  ) else (
    if x4 = (-1) then (
      (M_stepsOn σ).bind fun r57 =>
      (M_standOf r57 x1).bind fun r62 =>
      if r62 = x3 then (
        zlt (x5 + 1) fun v73 =>
        some (.inl (r57, x5, v73))
      ) else (
        zlt (x5 + 1) fun v73 =>
        some (.inl (r57, x4, v73))
      )
    ) else (
      some (.inr (σ, x4, x5))
    )
  )
set_option maxRecDepth 20000 in
theorem t_M_when_l42 {X : Zx} {Q : State → Prop} {σ : Sg} {x1 : Int32} {x3 : Int32} {x4 : Int32} {x5 : Int32} (ok : Zok X cX12_when RX12 rm_M_when 198 6)  {out : ((Sg × Int32 × Int32) ⊕ (Sg × Int32 × Int32))} (hf : M_when_l42 σ x1 x3 x4 x5 = some out) (hk : zout (fun (s : (Sg × Int32 × Int32)) => ZAt X Q 0 0 42 s.1 [(0, .ref (X.ad 171)), (1, .int x1), (3, .int x3), (4, .int s.2.1), (5, .int s.2.2)] []) (fun (s : (Sg × Int32 × Int32)) => ZAt X Q 0 0 79 s.1 [(0, .ref (X.ad 171)), (4, .int s.2.1)] []) out) : ZAt X Q 0 0 42 σ [(0, .ref (X.ad 171)), (1, .int x1), (3, .int x3), (4, .int x4), (5, .int x5)] [] := by
  unfold M_when_l42 at hf
  refine z_iload ok dX12_when_42 4 rfl ?_
  refine z_sipush (v := 200) ok dX12_when_44 (by decide) ?_
  refine z_icmp_gt (tgt := 79) ok dX12_when_47 (by decide) hf (fun _ hf => ?_) (fun _ hf => ?_)
  · obtain rfl := Option.some.inj hf
    exact z_sub [0, 3] rfl hk
  · refine z_iload ok dX12_when_50 3 rfl ?_
    refine z_iconst (v := (-1)) ok dX12_when_52 (by decide) ?_
    refine z_icmp_ne (tgt := 79) ok dX12_when_53 (by decide) hf (fun _ hf => ?_) (fun _ hf => ?_)
    · refine z_aload_n ok dX12_when_56 0 rfl ?_
      refine z_call hf (fun r57 h57 hf => ?_)
      refine z_cVv (As := []) (rest := []) (w := 171) ok kc_171 zc_12 (c_M_stepsOn h57) rfl ⟨ml_12_346, w_M_stepsOn⟩ hy_M_stepsOn ⟨rfl, rfl⟩ ⟨Nat.le_of_ble_eq_true rfl, Nat.le_of_ble_eq_true rfl⟩ ⟨Nat.zero_le _, Nat.zero_le _⟩ rfl (Nat.le_of_ble_eq_true rfl) dX12_when_57 ?_
      refine z_aload_n ok dX12_when_60 0 rfl ?_
      refine z_iload_n ok dX12_when_61 1 rfl ?_
      refine z_call hf (fun r62 h62 hf => ?_)
      refine z_cV (As := [.int x1]) (rest := []) (w := 171) ok kc_171 zc_12 (c_M_standOf h62) rfl ⟨ml_12_282, w_M_standOf⟩ hy_M_standOf ⟨rfl, rfl⟩ ⟨Nat.le_of_ble_eq_true rfl, Nat.le_of_ble_eq_true rfl⟩ ⟨Nat.zero_le _, Nat.zero_le _⟩ rfl (Nat.le_of_ble_eq_true rfl) dX12_when_62 ?_
      refine z_iload_n ok dX12_when_65 2 rfl ?_
      refine z_icmp_ne (tgt := 73) ok dX12_when_66 (by decide) hf (fun _ hf => ?_) (fun _ hf => ?_)
      · refine z_iload ok dX12_when_69 4 rfl ?_
        refine z_istore (lv' := [(4, .int x5), (0, .ref (X.ad 171)), (1, .int x1), (3, .int x3), (5, .int x5)]) ok dX12_when_71 (by decide) rfl ?_
        refine z_iinc (w := 1) (lv' := fun v73 => [(5, .int v73), (4, .int x5), (0, .ref (X.ad 171)), (1, .int x1), (3, .int x3)]) ok dX12_when_73 4 rfl (by decide) (by decide) (fun _ => rfl) hf (fun v73 hf => ?_)
        refine z_goto (tgt := 42) ok dX12_when_76 (by decide) ?_
        obtain rfl := Option.some.inj hf
        exact z_sub [2, 3, 4, 1, 0] rfl hk
      · refine z_iinc (w := 1) (lv' := fun v73 => [(5, .int v73), (0, .ref (X.ad 171)), (1, .int x1), (3, .int x3), (4, .int x4)]) ok dX12_when_73 4 rfl (by decide) (by decide) (fun _ => rfl) hf (fun v73 hf => ?_)
        refine z_goto (tgt := 42) ok dX12_when_76 (by decide) ?_
        obtain rfl := Option.some.inj hf
        exact z_sub [1, 2, 3, 4, 0] rfl hk
    · obtain rfl := Option.some.inj hf
      exact z_sub [0, 3] rfl hk
def M_when_j31 (σ : Sg) (x1 : Int32) (s0 : Int32) : Option (Int32 × Sg) :=
  zlt (-1) fun v33 =>
  (M_beginsAhead σ).bind fun r36 =>
  zlt 1 fun v40 =>
  (zit (fun (s : (Sg × Int32 × Int32)) => M_when_l42 s.1 x1 s0 s.2.1 s.2.2) zFU (r36, v33, v40)).bind fun r =>
  (M_endsAhead r.1).bind fun r80 =>
  some (r.2.1, r80)
set_option maxRecDepth 20000 in
theorem t_M_when_j31 {X : Zx} {Q : State → Prop} {σ : Sg} {x1 : Int32} {s0 : Int32} (ok : Zok X cX12_when RX12 rm_M_when 198 6)  {out : (Int32 × Sg)} (hf : M_when_j31 σ x1 s0 = some out) (hk : ZrI cX12_when X Q out.1 out.2) : ZAt X Q 0 0 31 σ [(0, .ref (X.ad 171)), (1, .int x1)] [.int s0] := by
  unfold M_when_j31 at hf
  refine z_istore_n (lv' := [(3, .int s0), (0, .ref (X.ad 171)), (1, .int x1)]) ok dX12_when_31 (by decide) rfl ?_
  refine z_iconst (v := (-1)) ok dX12_when_32 (by decide) ?_
  refine z_nm hf (fun v33 hf => ?_)
  refine z_istore (lv' := [(4, .int v33), (3, .int s0), (0, .ref (X.ad 171)), (1, .int x1)]) ok dX12_when_33 (by decide) rfl ?_
  refine z_aload_n ok dX12_when_35 2 rfl ?_
  refine z_call hf (fun r36 h36 hf => ?_)
  refine z_cVv (As := []) (rest := []) (w := 171) ok kc_171 zc_12 (c_M_beginsAhead h36) rfl ⟨ml_12_349, w_M_beginsAhead⟩ hy_M_beginsAhead ⟨rfl, rfl⟩ ⟨Nat.le_of_ble_eq_true rfl, Nat.le_of_ble_eq_true rfl⟩ ⟨Nat.zero_le _, Nat.zero_le _⟩ rfl (Nat.le_of_ble_eq_true rfl) dX12_when_36 ?_
  refine z_iconst (v := 1) ok dX12_when_39 (by decide) ?_
  refine z_nm hf (fun v40 hf => ?_)
  refine z_istore (lv' := [(5, .int v40), (4, .int v33), (3, .int s0), (0, .ref (X.ad 171)), (1, .int x1)]) ok dX12_when_40 (by decide) rfl ?_
  refine z_call hf (fun r hr hf => ?_)
  refine z_sub [3, 4, 2, 1, 0] rfl (z_iter (fun (s : (Sg × Int32 × Int32)) => s.1) (fun (s : (Sg × Int32 × Int32)) => [(0, .ref (X.ad 171)), (1, .int x1), (3, .int s0), (4, .int s.2.1), (5, .int s.2.2)]) (fun s o h1 h2 => t_M_when_l42 ok h1 h2) _ _ _ hr ?_)
  show ZAt X Q 0 0 79 r.1 [(0, .ref (X.ad 171)), (4, .int r.2.1)] []
  refine z_aload_n ok dX12_when_79 0 rfl ?_
  refine z_call hf (fun r80 h80 hf => ?_)
  refine z_cVv (As := []) (rest := []) (w := 171) ok kc_171 zc_12 (c_M_endsAhead h80) rfl ⟨ml_12_355, w_M_endsAhead⟩ hy_M_endsAhead ⟨rfl, rfl⟩ ⟨Nat.le_of_ble_eq_true rfl, Nat.le_of_ble_eq_true rfl⟩ ⟨Nat.zero_le _, Nat.zero_le _⟩ rfl (Nat.le_of_ble_eq_true rfl) dX12_when_80 ?_
  refine z_iload ok dX12_when_83 1 rfl ?_
  obtain rfl := Option.some.inj hf
  exact hk _ _ dX12_when_85
def M_when (σ : Sg) (x1 : Int32) (x2 : Int32) : Option (Int32 × Sg) :=
  (M_isPool σ x1).bind fun r2 =>
  if (zb r2) = 0 then (
    some ((-1), σ)
  ) else (
    (M_isIn x2 0 2).bind fun r11 =>
    if (zb r11) = 0 then (
      some ((-1), σ)
    ) else (
      if x2 = 2 then (
        M_when_j31 σ x1 0
      ) else (
        M_when_j31 σ x1 (x2 + 1)
      )
    )
  )
set_option maxRecDepth 20000 in
theorem t_M_when {X : Zx} {Q : State → Prop} {σ : Sg} {x1 : Int32} {x2 : Int32} (ok : Zok X cX12_when RX12 rm_M_when 198 6)  {out : (Int32 × Sg)} (hf : M_when σ x1 x2 = some out) (hk : ZrI cX12_when X Q out.1 out.2) : ZAt X Q 0 0 0 σ [(0, .ref (X.ad 171)), (1, .int x1), (2, .int x2)] [] := by
  unfold M_when at hf
  refine z_aload_n ok dX12_when_0 0 rfl ?_
  refine z_iload_n ok dX12_when_1 1 rfl ?_
  refine z_call hf (fun r2 h2 hf => ?_)
  refine z_cV (As := [.int x1]) (rest := []) (w := 171) ok kc_171 zc_12 (c_M_isPool h2) rfl ⟨ml_12_321, w_M_isPool⟩ hy_M_isPool ⟨rfl, rfl⟩ ⟨Nat.le_of_ble_eq_true rfl, Nat.le_of_ble_eq_true rfl⟩ ⟨Nat.zero_le _, Nat.zero_le _⟩ rfl (Nat.le_of_ble_eq_true rfl) dX12_when_2 ?_
  refine z_if_eq (tgt := 17) ok dX12_when_5 (by decide) hf (fun _ hf => ?_) (fun _ hf => ?_)
  · refine z_iconst (v := (-1)) ok dX12_when_17 (by decide) ?_
    obtain rfl := Option.some.inj hf
    exact hk _ _ dX12_when_18
  · refine z_iload_n ok dX12_when_8 2 rfl ?_
    refine z_iconst (v := 0) ok dX12_when_9 (by decide) ?_
    refine z_iconst (v := 2) ok dX12_when_10 (by decide) ?_
    refine z_call hf (fun r11 h11 hf => ?_)
    refine z_cS (As := [.int x2, .int 0, .int 2]) (rest := []) ok (c_M_isIn h11) rfl ⟨ml_12_198, w_M_isIn⟩ hy_M_isIn ⟨rfl, rfl⟩ ⟨Nat.le_of_ble_eq_true rfl, Nat.le_of_ble_eq_true rfl⟩ ⟨Nat.zero_le _, Nat.zero_le _⟩ rfl (Nat.le_of_ble_eq_true rfl) dX12_when_11 ?_
    refine z_if_ne (tgt := 19) ok dX12_when_14 (by decide) hf (fun _ hf => ?_) (fun _ hf => ?_)
    · refine z_iconst (v := (-1)) ok dX12_when_17 (by decide) ?_
      obtain rfl := Option.some.inj hf
      exact hk _ _ dX12_when_18
    · refine z_iload_n ok dX12_when_19 2 rfl ?_
      refine z_iconst (v := 2) ok dX12_when_20 (by decide) ?_
      refine z_icmp_ne (tgt := 28) ok dX12_when_21 (by decide) hf (fun _ hf => ?_) (fun _ hf => ?_)
      · refine z_iconst (v := 0) ok dX12_when_24 (by decide) ?_
        refine z_goto (tgt := 31) ok dX12_when_25 (by decide) ?_
        exact z_sub [0, 1] rfl (t_M_when_j31 ok hf hk)
      · refine z_iload_n ok dX12_when_28 2 rfl ?_
        refine z_iconst (v := 1) ok dX12_when_29 (by decide) ?_
        refine z_iadd ok dX12_when_30 ?_
        exact z_sub [0, 1] rfl (t_M_when_j31 ok hf hk)
theorem c_M_when {σ : Sg} {x1 : Int32} {x2 : Int32} {r : (Int32 × Sg)} (h : M_when σ x1 x2 = some r) : ZcI yX12_when cX12_when 6 .int rm_M_when 198 (fun ad => [.ref (ad 171), .int x1, .int x2]) σ r.1 r.2 :=
  zmetI pn_12 rfl (fun _ => rfl) (fun _ => Nat.le_of_ble_eq_true rfl) rfl (fun X Q ok hk => t_M_when ok h hk)
theorem dX12_shortOf_0 : decode cX12_shortOf 0 = .ok (.iload_n 1, 1) := by decide +kernel
theorem dX12_shortOf_1 : decode cX12_shortOf 1 = .ok (.iconst (-1), 1) := by decide +kernel
theorem dX12_shortOf_2 : decode cX12_shortOf 2 = .ok (.if_icmp .ne 10, 3) := by decide +kernel
theorem dX12_shortOf_5 : decode cX12_shortOf 5 = .ok (.aload_n 0, 1) := by decide +kernel
theorem dX12_shortOf_6 : decode cX12_shortOf 6 = .ok (.invokevirtual 333, 3) := by decide +kernel
theorem dX12_shortOf_9 : decode cX12_shortOf 9 = .ok (.goto 13, 3) := by decide +kernel
theorem dX12_shortOf_12 : decode cX12_shortOf 12 = .ok (.aload_n 0, 1) := by decide +kernel
theorem dX12_shortOf_13 : decode cX12_shortOf 13 = .ok (.getfield 71, 3) := by decide +kernel
theorem dX12_shortOf_16 : decode cX12_shortOf 16 = .ok (.sipush 138, 3) := by decide +kernel
theorem dX12_shortOf_19 : decode cX12_shortOf 19 = .ok (.iload_n 1, 1) := by decide +kernel
theorem dX12_shortOf_20 : decode cX12_shortOf 20 = .ok (.iadd, 1) := by decide +kernel
theorem dX12_shortOf_21 : decode cX12_shortOf 21 = .ok (.iaload, 1) := by decide +kernel
theorem dX12_shortOf_22 : decode cX12_shortOf 22 = .ok (.ireturn, 1) := by decide +kernel
abbrev rm_M_shortOf : Room := { frames := 1, cells := 0, slots := 0, locals := 22 }
def M_shortOf (σ : Sg) (x1 : Int32) : Option Int32 :=
  if x1 = (-1) then (
    (M_shortOfAll σ).bind fun r6 =>
    some r6
  ) else (
    zrd σ 183 1607 (138 + x1) fun v21 =>
    some v21
  )
set_option maxRecDepth 20000 in
theorem t_M_shortOf {X : Zx} {Q : State → Prop} {σ : Sg} {x1 : Int32} (ok : Zok X cX12_shortOf RX12 rm_M_shortOf 198 2)  {out : Int32} (hf : M_shortOf σ x1 = some out) (hk : ZrI cX12_shortOf X Q out σ) : ZAt X Q 0 0 0 σ [(0, .ref (X.ad 171)), (1, .int x1)] [] := by
  unfold M_shortOf at hf
  refine z_iload_n ok dX12_shortOf_0 1 rfl ?_
  refine z_iconst (v := (-1)) ok dX12_shortOf_1 (by decide) ?_
  refine z_icmp_ne (tgt := 12) ok dX12_shortOf_2 (by decide) hf (fun _ hf => ?_) (fun _ hf => ?_)
  · refine z_aload_n ok dX12_shortOf_5 0 rfl ?_
    refine z_call hf (fun r6 h6 hf => ?_)
    refine z_cV (As := []) (rest := []) (w := 171) ok kc_171 zc_12 (c_M_shortOfAll h6) rfl ⟨ml_12_333, w_M_shortOfAll⟩ hy_M_shortOfAll ⟨rfl, rfl⟩ ⟨Nat.le_of_ble_eq_true rfl, Nat.le_of_ble_eq_true rfl⟩ ⟨Nat.zero_le _, Nat.zero_le _⟩ rfl (Nat.le_of_ble_eq_true rfl) dX12_shortOf_6 ?_
    refine z_goto (tgt := 22) ok dX12_shortOf_9 (by decide) ?_
    obtain rfl := Option.some.inj hf
    exact hk _ _ dX12_shortOf_22
  · refine z_aload_n ok dX12_shortOf_12 0 rfl ?_
    refine z_getr (q := 183) ok kc_171 zc_12 hin_12 20 (by decide) fl_12_71 rfl dX12_shortOf_13 ?_
    refine z_sipush (v := 138) ok dX12_shortOf_16 (by decide) ?_
    refine z_iload_n ok dX12_shortOf_19 1 rfl ?_
    refine z_iadd ok dX12_shortOf_20 ?_
    refine z_iald ok kc_183 dX12_shortOf_21 hf (fun v21 hf => ?_)
    obtain rfl := Option.some.inj hf
    exact hk _ _ dX12_shortOf_22
theorem c_M_shortOf {σ : Sg} {x1 : Int32} {r : Int32} (h : M_shortOf σ x1 = some r) : ZcI yX12_shortOf cX12_shortOf 2 .int rm_M_shortOf 198 (fun ad => [.ref (ad 171), .int x1]) σ r σ :=
  zmetI pn_12 rfl (fun _ => rfl) (fun _ => Nat.le_of_ble_eq_true rfl) rfl (fun X Q ok hk => t_M_shortOf ok h hk)
theorem dX12_shortIn_0 : decode cX12_shortIn 0 = .ok (.aload_n 0, 1) := by decide +kernel
theorem dX12_shortIn_1 : decode cX12_shortIn 1 = .ok (.invokevirtual 349, 3) := by decide +kernel
theorem dX12_shortIn_4 : decode cX12_shortIn 4 = .ok (.aload_n 0, 1) := by decide +kernel
theorem dX12_shortIn_5 : decode cX12_shortIn 5 = .ok (.iload_n 1, 1) := by decide +kernel
theorem dX12_shortIn_6 : decode cX12_shortIn 6 = .ok (.invokevirtual 358, 3) := by decide +kernel
theorem dX12_shortIn_9 : decode cX12_shortIn 9 = .ok (.istore_n 3, 1) := by decide +kernel
theorem dX12_shortIn_10 : decode cX12_shortIn 10 = .ok (.aload_n 0, 1) := by decide +kernel
theorem dX12_shortIn_11 : decode cX12_shortIn 11 = .ok (.iload_n 2, 1) := by decide +kernel
theorem dX12_shortIn_12 : decode cX12_shortIn 12 = .ok (.invokevirtual 352, 3) := by decide +kernel
theorem dX12_shortIn_15 : decode cX12_shortIn 15 = .ok (.aload_n 0, 1) := by decide +kernel
theorem dX12_shortIn_16 : decode cX12_shortIn 16 = .ok (.iload_n 1, 1) := by decide +kernel
theorem dX12_shortIn_17 : decode cX12_shortIn 17 = .ok (.invokevirtual 358, 3) := by decide +kernel
theorem dX12_shortIn_20 : decode cX12_shortIn 20 = .ok (.iload_n 3, 1) := by decide +kernel
theorem dX12_shortIn_21 : decode cX12_shortIn 21 = .ok (.isub, 1) := by decide +kernel
theorem dX12_shortIn_22 : decode cX12_shortIn 22 = .ok (.istore 4, 2) := by decide +kernel
theorem dX12_shortIn_24 : decode cX12_shortIn 24 = .ok (.aload_n 0, 1) := by decide +kernel
theorem dX12_shortIn_25 : decode cX12_shortIn 25 = .ok (.invokevirtual 355, 3) := by decide +kernel
theorem dX12_shortIn_28 : decode cX12_shortIn 28 = .ok (.iload 4, 2) := by decide +kernel
theorem dX12_shortIn_30 : decode cX12_shortIn 30 = .ok (.ireturn, 1) := by decide +kernel
abbrev rm_M_shortIn : Room := { frames := 10, cells := 0, slots := 0, locals := 226 }
def M_shortIn (σ : Sg) (x1 : Int32) (x2 : Int32) : Option (Int32 × Sg) :=
  (M_beginsAhead σ).bind fun r1 =>
  (M_shortOf r1 x1).bind fun r6 =>
  zlt r6 fun v9 =>
  (M_goesAhead r1 x2).bind fun r12 =>
  (M_shortOf r12 x1).bind fun r17 =>
  zlt (r17 - v9) fun v22 =>
  (M_endsAhead r12).bind fun r25 =>
  some (v22, r25)
set_option maxRecDepth 20000 in
theorem t_M_shortIn {X : Zx} {Q : State → Prop} {σ : Sg} {x1 : Int32} {x2 : Int32} (ok : Zok X cX12_shortIn RX12 rm_M_shortIn 198 5)  {out : (Int32 × Sg)} (hf : M_shortIn σ x1 x2 = some out) (hk : ZrI cX12_shortIn X Q out.1 out.2) : ZAt X Q 0 0 0 σ [(0, .ref (X.ad 171)), (1, .int x1), (2, .int x2)] [] := by
  unfold M_shortIn at hf
  refine z_aload_n ok dX12_shortIn_0 0 rfl ?_
  refine z_call hf (fun r1 h1 hf => ?_)
  refine z_cVv (As := []) (rest := []) (w := 171) ok kc_171 zc_12 (c_M_beginsAhead h1) rfl ⟨ml_12_349, w_M_beginsAhead⟩ hy_M_beginsAhead ⟨rfl, rfl⟩ ⟨Nat.le_of_ble_eq_true rfl, Nat.le_of_ble_eq_true rfl⟩ ⟨Nat.zero_le _, Nat.zero_le _⟩ rfl (Nat.le_of_ble_eq_true rfl) dX12_shortIn_1 ?_
  refine z_aload_n ok dX12_shortIn_4 0 rfl ?_
  refine z_iload_n ok dX12_shortIn_5 1 rfl ?_
  refine z_call hf (fun r6 h6 hf => ?_)
  refine z_cV (As := [.int x1]) (rest := []) (w := 171) ok kc_171 zc_12 (c_M_shortOf h6) rfl ⟨ml_12_358, w_M_shortOf⟩ hy_M_shortOf ⟨rfl, rfl⟩ ⟨Nat.le_of_ble_eq_true rfl, Nat.le_of_ble_eq_true rfl⟩ ⟨Nat.zero_le _, Nat.zero_le _⟩ rfl (Nat.le_of_ble_eq_true rfl) dX12_shortIn_6 ?_
  refine z_nm hf (fun v9 hf => ?_)
  refine z_istore_n (lv' := [(3, .int v9), (0, .ref (X.ad 171)), (1, .int x1), (2, .int x2)]) ok dX12_shortIn_9 (by decide) rfl ?_
  refine z_aload_n ok dX12_shortIn_10 1 rfl ?_
  refine z_iload_n ok dX12_shortIn_11 3 rfl ?_
  refine z_call hf (fun r12 h12 hf => ?_)
  refine z_cVv (As := [.int x2]) (rest := []) (w := 171) ok kc_171 zc_12 (c_M_goesAhead h12) rfl ⟨ml_12_352, w_M_goesAhead⟩ hy_M_goesAhead ⟨rfl, rfl⟩ ⟨Nat.le_of_ble_eq_true rfl, Nat.le_of_ble_eq_true rfl⟩ ⟨Nat.zero_le _, Nat.zero_le _⟩ rfl (Nat.le_of_ble_eq_true rfl) dX12_shortIn_12 ?_
  refine z_aload_n ok dX12_shortIn_15 1 rfl ?_
  refine z_iload_n ok dX12_shortIn_16 2 rfl ?_
  refine z_call hf (fun r17 h17 hf => ?_)
  refine z_cV (As := [.int x1]) (rest := []) (w := 171) ok kc_171 zc_12 (c_M_shortOf h17) rfl ⟨ml_12_358, w_M_shortOf⟩ hy_M_shortOf ⟨rfl, rfl⟩ ⟨Nat.le_of_ble_eq_true rfl, Nat.le_of_ble_eq_true rfl⟩ ⟨Nat.zero_le _, Nat.zero_le _⟩ rfl (Nat.le_of_ble_eq_true rfl) dX12_shortIn_17 ?_
  refine z_iload_n ok dX12_shortIn_20 0 rfl ?_
  refine z_isub ok dX12_shortIn_21 ?_
  refine z_nm hf (fun v22 hf => ?_)
  refine z_istore (lv' := [(4, .int v22), (3, .int v9), (0, .ref (X.ad 171)), (1, .int x1), (2, .int x2)]) ok dX12_shortIn_22 (by decide) rfl ?_
  refine z_aload_n ok dX12_shortIn_24 2 rfl ?_
  refine z_call hf (fun r25 h25 hf => ?_)
  refine z_cVv (As := []) (rest := []) (w := 171) ok kc_171 zc_12 (c_M_endsAhead h25) rfl ⟨ml_12_355, w_M_endsAhead⟩ hy_M_endsAhead ⟨rfl, rfl⟩ ⟨Nat.le_of_ble_eq_true rfl, Nat.le_of_ble_eq_true rfl⟩ ⟨Nat.zero_le _, Nat.zero_le _⟩ rfl (Nat.le_of_ble_eq_true rfl) dX12_shortIn_25 ?_
  refine z_iload ok dX12_shortIn_28 0 rfl ?_
  obtain rfl := Option.some.inj hf
  exact hk _ _ dX12_shortIn_30
theorem c_M_shortIn {σ : Sg} {x1 : Int32} {x2 : Int32} {r : (Int32 × Sg)} (h : M_shortIn σ x1 x2 = some r) : ZcI yX12_shortIn cX12_shortIn 5 .int rm_M_shortIn 198 (fun ad => [.ref (ad 171), .int x1, .int x2]) σ r.1 r.2 :=
  zmetI pn_12 rfl (fun _ => rfl) (fun _ => Nat.le_of_ble_eq_true rfl) rfl (fun X Q ok hk => t_M_shortIn ok h hk)
theorem dX12_lacks_0 : decode cX12_lacks 0 = .ok (.aload_n 0, 1) := by decide +kernel
theorem dX12_lacks_1 : decode cX12_lacks 1 = .ok (.getfield 86, 3) := by decide +kernel
theorem dX12_lacks_4 : decode cX12_lacks 4 = .ok (.ifCond .eq 27, 3) := by decide +kernel
theorem dX12_lacks_7 : decode cX12_lacks 7 = .ok (.iload_n 1, 1) := by decide +kernel
theorem dX12_lacks_8 : decode cX12_lacks 8 = .ok (.iconst (-1), 1) := by decide +kernel
theorem dX12_lacks_9 : decode cX12_lacks 9 = .ok (.if_icmp .eq 11, 3) := by decide +kernel
theorem dX12_lacks_12 : decode cX12_lacks 12 = .ok (.aload_n 0, 1) := by decide +kernel
theorem dX12_lacks_13 : decode cX12_lacks 13 = .ok (.iload_n 1, 1) := by decide +kernel
theorem dX12_lacks_14 : decode cX12_lacks 14 = .ok (.invokevirtual 324, 3) := by decide +kernel
theorem dX12_lacks_17 : decode cX12_lacks 17 = .ok (.ifCond .eq 14, 3) := by decide +kernel
theorem dX12_lacks_20 : decode cX12_lacks 20 = .ok (.iload_n 2, 1) := by decide +kernel
theorem dX12_lacks_21 : decode cX12_lacks 21 = .ok (.iconst 1, 1) := by decide +kernel
theorem dX12_lacks_22 : decode cX12_lacks 22 = .ok (.sipush 200, 3) := by decide +kernel
theorem dX12_lacks_25 : decode cX12_lacks 25 = .ok (.invokestatic 198, 3) := by decide +kernel
theorem dX12_lacks_28 : decode cX12_lacks 28 = .ok (.ifCond .ne 5, 3) := by decide +kernel
theorem dX12_lacks_31 : decode cX12_lacks 31 = .ok (.iconst (-1), 1) := by decide +kernel
theorem dX12_lacks_32 : decode cX12_lacks 32 = .ok (.ireturn, 1) := by decide +kernel
theorem dX12_lacks_33 : decode cX12_lacks 33 = .ok (.aload_n 0, 1) := by decide +kernel
theorem dX12_lacks_34 : decode cX12_lacks 34 = .ok (.iload_n 1, 1) := by decide +kernel
theorem dX12_lacks_35 : decode cX12_lacks 35 = .ok (.iload_n 2, 1) := by decide +kernel
theorem dX12_lacks_36 : decode cX12_lacks 36 = .ok (.invokevirtual 361, 3) := by decide +kernel
theorem dX12_lacks_39 : decode cX12_lacks 39 = .ok (.ireturn, 1) := by decide +kernel
abbrev rm_M_lacks : Room := { frames := 11, cells := 0, slots := 0, locals := 250 }
def M_lacks_j20 (σ : Sg) (x1 : Int32) (x2 : Int32) : Option (Int32 × Sg) :=
  (M_isIn x2 1 200).bind fun r25 =>
  if (zb r25) = 0 then (
    some ((-1), σ)
  ) else (
    (M_shortIn σ x1 x2).bind fun r36 =>
    some (r36.1, r36.2)
  )
set_option maxRecDepth 20000 in
theorem t_M_lacks_j20 {X : Zx} {Q : State → Prop} {σ : Sg} {x1 : Int32} {x2 : Int32} (ok : Zok X cX12_lacks RX12 rm_M_lacks 198 3)  {out : (Int32 × Sg)} (hf : M_lacks_j20 σ x1 x2 = some out) (hk : ZrI cX12_lacks X Q out.1 out.2) : ZAt X Q 0 0 20 σ [(0, .ref (X.ad 171)), (1, .int x1), (2, .int x2)] [] := by
  unfold M_lacks_j20 at hf
  refine z_iload_n ok dX12_lacks_20 2 rfl ?_
  refine z_iconst (v := 1) ok dX12_lacks_21 (by decide) ?_
  refine z_sipush (v := 200) ok dX12_lacks_22 (by decide) ?_
  refine z_call hf (fun r25 h25 hf => ?_)
  refine z_cS (As := [.int x2, .int 1, .int 200]) (rest := []) ok (c_M_isIn h25) rfl ⟨ml_12_198, w_M_isIn⟩ hy_M_isIn ⟨rfl, rfl⟩ ⟨Nat.le_of_ble_eq_true rfl, Nat.le_of_ble_eq_true rfl⟩ ⟨Nat.zero_le _, Nat.zero_le _⟩ rfl (Nat.le_of_ble_eq_true rfl) dX12_lacks_25 ?_
  refine z_if_ne (tgt := 33) ok dX12_lacks_28 (by decide) hf (fun _ hf => ?_) (fun _ hf => ?_)
  · refine z_iconst (v := (-1)) ok dX12_lacks_31 (by decide) ?_
    obtain rfl := Option.some.inj hf
    exact hk _ _ dX12_lacks_32
  · refine z_aload_n ok dX12_lacks_33 0 rfl ?_
    refine z_iload_n ok dX12_lacks_34 1 rfl ?_
    refine z_iload_n ok dX12_lacks_35 2 rfl ?_
    refine z_call hf (fun r36 h36 hf => ?_)
    refine z_cV (As := [.int x1, .int x2]) (rest := []) (w := 171) ok kc_171 zc_12 (c_M_shortIn h36) rfl ⟨ml_12_361, w_M_shortIn⟩ hy_M_shortIn ⟨rfl, rfl⟩ ⟨Nat.le_of_ble_eq_true rfl, Nat.le_of_ble_eq_true rfl⟩ ⟨Nat.zero_le _, Nat.zero_le _⟩ rfl (Nat.le_of_ble_eq_true rfl) dX12_lacks_36 ?_
    obtain rfl := Option.some.inj hf
    exact hk _ _ dX12_lacks_39
def M_lacks (σ : Sg) (x1 : Int32) (x2 : Int32) : Option (Int32 × Sg) :=
  zgt σ 171 25 fun v1 =>
  if v1 = 0 then (
    some ((-1), σ)
  ) else (
    if x1 = (-1) then (
      M_lacks_j20 σ x1 x2
    ) else (
      (M_isOutlet σ x1).bind fun r14 =>
      if (zb r14) = 0 then (
        some ((-1), σ)
      ) else (
        M_lacks_j20 σ x1 x2
      )
    )
  )
set_option maxRecDepth 20000 in
theorem t_M_lacks {X : Zx} {Q : State → Prop} {σ : Sg} {x1 : Int32} {x2 : Int32} (ok : Zok X cX12_lacks RX12 rm_M_lacks 198 3)  {out : (Int32 × Sg)} (hf : M_lacks σ x1 x2 = some out) (hk : ZrI cX12_lacks X Q out.1 out.2) : ZAt X Q 0 0 0 σ [(0, .ref (X.ad 171)), (1, .int x1), (2, .int x2)] [] := by
  unfold M_lacks at hf
  refine z_aload_n ok dX12_lacks_0 0 rfl ?_
  refine z_geti ok kc_171 zc_12 hin_12 25 (by decide) fl_12_86 rfl dX12_lacks_1 hf (fun v1 hf => ?_)
  refine z_if_eq (tgt := 31) ok dX12_lacks_4 (by decide) hf (fun _ hf => ?_) (fun _ hf => ?_)
  · refine z_iconst (v := (-1)) ok dX12_lacks_31 (by decide) ?_
    obtain rfl := Option.some.inj hf
    exact hk _ _ dX12_lacks_32
  · refine z_iload_n ok dX12_lacks_7 1 rfl ?_
    refine z_iconst (v := (-1)) ok dX12_lacks_8 (by decide) ?_
    refine z_icmp_eq (tgt := 20) ok dX12_lacks_9 (by decide) hf (fun _ hf => ?_) (fun _ hf => ?_)
    · exact z_sub [0, 1, 2] rfl (t_M_lacks_j20 ok hf hk)
    · refine z_aload_n ok dX12_lacks_12 0 rfl ?_
      refine z_iload_n ok dX12_lacks_13 1 rfl ?_
      refine z_call hf (fun r14 h14 hf => ?_)
      refine z_cV (As := [.int x1]) (rest := []) (w := 171) ok kc_171 zc_12 (c_M_isOutlet h14) rfl ⟨ml_12_324, w_M_isOutlet⟩ hy_M_isOutlet ⟨rfl, rfl⟩ ⟨Nat.le_of_ble_eq_true rfl, Nat.le_of_ble_eq_true rfl⟩ ⟨Nat.zero_le _, Nat.zero_le _⟩ rfl (Nat.le_of_ble_eq_true rfl) dX12_lacks_14 ?_
      refine z_if_eq (tgt := 31) ok dX12_lacks_17 (by decide) hf (fun _ hf => ?_) (fun _ hf => ?_)
      · refine z_iconst (v := (-1)) ok dX12_lacks_31 (by decide) ?_
        obtain rfl := Option.some.inj hf
        exact hk _ _ dX12_lacks_32
      · exact z_sub [0, 1, 2] rfl (t_M_lacks_j20 ok hf hk)
theorem c_M_lacks {σ : Sg} {x1 : Int32} {x2 : Int32} {r : (Int32 × Sg)} (h : M_lacks σ x1 x2 = some r) : ZcI yX12_lacks cX12_lacks 3 .int rm_M_lacks 198 (fun ad => [.ref (ad 171), .int x1, .int x2]) σ r.1 r.2 :=
  zmetI pn_12 rfl (fun _ => rfl) (fun _ => Nat.le_of_ble_eq_true rfl) rfl (fun X Q ok hk => t_M_lacks ok h hk)
theorem dX12_least_0 : decode cX12_least 0 = .ok (.aload_n 0, 1) := by decide +kernel
theorem dX12_least_1 : decode cX12_least 1 = .ok (.getfield 7, 3) := by decide +kernel
theorem dX12_least_4 : decode cX12_least 4 = .ok (.ifCond .eq 13, 3) := by decide +kernel
theorem dX12_least_7 : decode cX12_least 7 = .ok (.iload_n 1, 1) := by decide +kernel
theorem dX12_least_8 : decode cX12_least 8 = .ok (.iconst 1, 1) := by decide +kernel
theorem dX12_least_9 : decode cX12_least 9 = .ok (.bipush 60, 2) := by decide +kernel
theorem dX12_least_11 : decode cX12_least 11 = .ok (.invokestatic 198, 3) := by decide +kernel
theorem dX12_least_14 : decode cX12_least 14 = .ok (.ifCond .ne 5, 3) := by decide +kernel
theorem dX12_least_17 : decode cX12_least 17 = .ok (.iconst (-1), 1) := by decide +kernel
theorem dX12_least_18 : decode cX12_least 18 = .ok (.ireturn, 1) := by decide +kernel
theorem dX12_least_19 : decode cX12_least 19 = .ok (.aload_n 0, 1) := by decide +kernel
theorem dX12_least_20 : decode cX12_least 20 = .ok (.getfield 71, 3) := by decide +kernel
theorem dX12_least_23 : decode cX12_least 23 = .ok (.sipush 197, 3) := by decide +kernel
theorem dX12_least_26 : decode cX12_least 26 = .ok (.iaload, 1) := by decide +kernel
theorem dX12_least_27 : decode cX12_least 27 = .ok (.istore_n 2, 1) := by decide +kernel
theorem dX12_least_28 : decode cX12_least 28 = .ok (.iconst (-1), 1) := by decide +kernel
theorem dX12_least_29 : decode cX12_least 29 = .ok (.istore_n 3, 1) := by decide +kernel
theorem dX12_least_30 : decode cX12_least 30 = .ok (.iconst 0, 1) := by decide +kernel
theorem dX12_least_31 : decode cX12_least 31 = .ok (.istore 4, 2) := by decide +kernel
theorem dX12_least_33 : decode cX12_least 33 = .ok (.iload 4, 2) := by decide +kernel
theorem dX12_least_35 : decode cX12_least 35 = .ok (.sipush 999, 3) := by decide +kernel
theorem dX12_least_38 : decode cX12_least 38 = .ok (.if_icmp .gt 36, 3) := by decide +kernel
theorem dX12_least_41 : decode cX12_least 41 = .ok (.iload_n 3, 1) := by decide +kernel
theorem dX12_least_42 : decode cX12_least 42 = .ok (.iconst (-1), 1) := by decide +kernel
theorem dX12_least_43 : decode cX12_least 43 = .ok (.if_icmp .ne 31, 3) := by decide +kernel
theorem dX12_least_46 : decode cX12_least 46 = .ok (.aload_n 0, 1) := by decide +kernel
theorem dX12_least_47 : decode cX12_least 47 = .ok (.getfield 71, 3) := by decide +kernel
theorem dX12_least_50 : decode cX12_least 50 = .ok (.sipush 197, 3) := by decide +kernel
theorem dX12_least_53 : decode cX12_least 53 = .ok (.iload 4, 2) := by decide +kernel
theorem dX12_least_55 : decode cX12_least 55 = .ok (.iastore, 1) := by decide +kernel
theorem dX12_least_56 : decode cX12_least 56 = .ok (.aload_n 0, 1) := by decide +kernel
theorem dX12_least_57 : decode cX12_least 57 = .ok (.iconst (-1), 1) := by decide +kernel
theorem dX12_least_58 : decode cX12_least 58 = .ok (.iload_n 1, 1) := by decide +kernel
theorem dX12_least_59 : decode cX12_least 59 = .ok (.invokevirtual 361, 3) := by decide +kernel
theorem dX12_least_62 : decode cX12_least 62 = .ok (.ifCond .ne 6, 3) := by decide +kernel
theorem dX12_least_65 : decode cX12_least 65 = .ok (.iload 4, 2) := by decide +kernel
theorem dX12_least_67 : decode cX12_least 67 = .ok (.istore_n 3, 1) := by decide +kernel
theorem dX12_least_68 : decode cX12_least 68 = .ok (.iinc 4 1, 3) := by decide +kernel
theorem dX12_least_71 : decode cX12_least 71 = .ok (.goto (-38), 3) := by decide +kernel
theorem dX12_least_74 : decode cX12_least 74 = .ok (.aload_n 0, 1) := by decide +kernel
theorem dX12_least_75 : decode cX12_least 75 = .ok (.getfield 71, 3) := by decide +kernel
theorem dX12_least_78 : decode cX12_least 78 = .ok (.sipush 197, 3) := by decide +kernel
theorem dX12_least_81 : decode cX12_least 81 = .ok (.iload_n 2, 1) := by decide +kernel
theorem dX12_least_82 : decode cX12_least 82 = .ok (.iastore, 1) := by decide +kernel
theorem dX12_least_83 : decode cX12_least 83 = .ok (.iload_n 3, 1) := by decide +kernel
theorem dX12_least_84 : decode cX12_least 84 = .ok (.ireturn, 1) := by decide +kernel
abbrev rm_M_least : Room := { frames := 11, cells := 0, slots := 0, locals := 250 }
def M_least_l33 (σ : Sg) (x1 : Int32) (x2 : Int32) (x3 : Int32) (x4 : Int32) : Option ((Sg × Int32 × Int32) ⊕ (Sg × Int32 × Int32)) :=
  if 999 < x4 then (
    some (.inr (σ, x3, x4))
  ) else (
    if x3 = (-1) then (
      zwr σ 183 1607 197 x4 fun σ55 =>
      (M_shortIn σ55 (-1) x1).bind fun r59 =>
      if r59.1 = 0 then (
        zlt (x4 + 1) fun v68 =>
        some (.inl (r59.2, x4, v68))
      ) else (
        zlt (x4 + 1) fun v68 =>
        some (.inl (r59.2, x3, v68))
      )
    ) else (
      some (.inr (σ, x3, x4))
    )
  )
set_option maxRecDepth 20000 in
theorem t_M_least_l33 {X : Zx} {Q : State → Prop} {σ : Sg} {x1 : Int32} {x2 : Int32} {x3 : Int32} {x4 : Int32} (ok : Zok X cX12_least RX12 rm_M_least 198 5)  {out : ((Sg × Int32 × Int32) ⊕ (Sg × Int32 × Int32))} (hf : M_least_l33 σ x1 x2 x3 x4 = some out) (hk : zout (fun (s : (Sg × Int32 × Int32)) => ZAt X Q 0 0 33 s.1 [(0, .ref (X.ad 171)), (1, .int x1), (2, .int x2), (3, .int s.2.1), (4, .int s.2.2)] []) (fun (s : (Sg × Int32 × Int32)) => ZAt X Q 0 0 74 s.1 [(0, .ref (X.ad 171)), (2, .int x2), (3, .int s.2.1)] []) out) : ZAt X Q 0 0 33 σ [(0, .ref (X.ad 171)), (1, .int x1), (2, .int x2), (3, .int x3), (4, .int x4)] [] := by
  unfold M_least_l33 at hf
  refine z_iload ok dX12_least_33 4 rfl ?_
  refine z_sipush (v := 999) ok dX12_least_35 (by decide) ?_
  refine z_icmp_gt (tgt := 74) ok dX12_least_38 (by decide) hf (fun _ hf => ?_) (fun _ hf => ?_)
  · obtain rfl := Option.some.inj hf
    exact z_sub [0, 2, 3] rfl hk
  · refine z_iload_n ok dX12_least_41 3 rfl ?_
    refine z_iconst (v := (-1)) ok dX12_least_42 (by decide) ?_
    refine z_icmp_ne (tgt := 74) ok dX12_least_43 (by decide) hf (fun _ hf => ?_) (fun _ hf => ?_)
    · refine z_aload_n ok dX12_least_46 0 rfl ?_
      refine z_getr (q := 183) ok kc_171 zc_12 hin_12 20 (by decide) fl_12_71 rfl dX12_least_47 ?_
      refine z_sipush (v := 197) ok dX12_least_50 (by decide) ?_
      refine z_iload ok dX12_least_53 4 rfl ?_
      refine z_iast ok kc_183 dX12_least_55 hf (fun σ55 hf => ?_)
      refine z_aload_n ok dX12_least_56 0 rfl ?_
      refine z_iconst (v := (-1)) ok dX12_least_57 (by decide) ?_
      refine z_iload_n ok dX12_least_58 1 rfl ?_
      refine z_call hf (fun r59 h59 hf => ?_)
      refine z_cV (As := [.int (-1), .int x1]) (rest := []) (w := 171) ok kc_171 zc_12 (c_M_shortIn h59) rfl ⟨ml_12_361, w_M_shortIn⟩ hy_M_shortIn ⟨rfl, rfl⟩ ⟨Nat.le_of_ble_eq_true rfl, Nat.le_of_ble_eq_true rfl⟩ ⟨Nat.zero_le _, Nat.zero_le _⟩ rfl (Nat.le_of_ble_eq_true rfl) dX12_least_59 ?_
      refine z_if_ne (tgt := 68) ok dX12_least_62 (by decide) hf (fun _ hf => ?_) (fun _ hf => ?_)
      · refine z_iload ok dX12_least_65 4 rfl ?_
        refine z_istore_n (lv' := [(3, .int x4), (0, .ref (X.ad 171)), (1, .int x1), (2, .int x2), (4, .int x4)]) ok dX12_least_67 (by decide) rfl ?_
        refine z_iinc (w := 1) (lv' := fun v68 => [(4, .int v68), (3, .int x4), (0, .ref (X.ad 171)), (1, .int x1), (2, .int x2)]) ok dX12_least_68 4 rfl (by decide) (by decide) (fun _ => rfl) hf (fun v68 hf => ?_)
        refine z_goto (tgt := 33) ok dX12_least_71 (by decide) ?_
        obtain rfl := Option.some.inj hf
        exact z_sub [2, 3, 4, 1, 0] rfl hk
      · refine z_iinc (w := 1) (lv' := fun v68 => [(4, .int v68), (0, .ref (X.ad 171)), (1, .int x1), (2, .int x2), (3, .int x3)]) ok dX12_least_68 4 rfl (by decide) (by decide) (fun _ => rfl) hf (fun v68 hf => ?_)
        refine z_goto (tgt := 33) ok dX12_least_71 (by decide) ?_
        obtain rfl := Option.some.inj hf
        exact z_sub [1, 2, 3, 4, 0] rfl hk
    · obtain rfl := Option.some.inj hf
      exact z_sub [0, 2, 3] rfl hk
def M_least (σ : Sg) (x1 : Int32) : Option (Int32 × Sg) :=
  zgt σ 171 0 fun v1 =>
  if v1 = 0 then (
    some ((-1), σ)
  ) else (
    (M_isIn x1 1 60).bind fun r11 =>
    if (zb r11) = 0 then (
      some ((-1), σ)
    ) else (
      zrd σ 183 1607 197 fun v26 =>
      zlt (-1) fun v29 =>
      zlt 0 fun v31 =>
      (zit (fun (s : (Sg × Int32 × Int32)) => M_least_l33 s.1 x1 v26 s.2.1 s.2.2) zFU (σ, v29, v31)).bind fun r =>
      zwr r.1 183 1607 197 v26 fun σ82 =>
      some (r.2.1, σ82)
    )
  )
set_option maxRecDepth 20000 in
theorem t_M_least {X : Zx} {Q : State → Prop} {σ : Sg} {x1 : Int32} (ok : Zok X cX12_least RX12 rm_M_least 198 5)  {out : (Int32 × Sg)} (hf : M_least σ x1 = some out) (hk : ZrI cX12_least X Q out.1 out.2) : ZAt X Q 0 0 0 σ [(0, .ref (X.ad 171)), (1, .int x1)] [] := by
  unfold M_least at hf
  refine z_aload_n ok dX12_least_0 0 rfl ?_
  refine z_geti ok kc_171 zc_12 hin_12 0 (by decide) fl_12_7 rfl dX12_least_1 hf (fun v1 hf => ?_)
  refine z_if_eq (tgt := 17) ok dX12_least_4 (by decide) hf (fun _ hf => ?_) (fun _ hf => ?_)
  · refine z_iconst (v := (-1)) ok dX12_least_17 (by decide) ?_
    obtain rfl := Option.some.inj hf
    exact hk _ _ dX12_least_18
  · refine z_iload_n ok dX12_least_7 1 rfl ?_
    refine z_iconst (v := 1) ok dX12_least_8 (by decide) ?_
    refine z_bipush (v := 60) ok dX12_least_9 (by decide) ?_
    refine z_call hf (fun r11 h11 hf => ?_)
    refine z_cS (As := [.int x1, .int 1, .int 60]) (rest := []) ok (c_M_isIn h11) rfl ⟨ml_12_198, w_M_isIn⟩ hy_M_isIn ⟨rfl, rfl⟩ ⟨Nat.le_of_ble_eq_true rfl, Nat.le_of_ble_eq_true rfl⟩ ⟨Nat.zero_le _, Nat.zero_le _⟩ rfl (Nat.le_of_ble_eq_true rfl) dX12_least_11 ?_
    refine z_if_ne (tgt := 19) ok dX12_least_14 (by decide) hf (fun _ hf => ?_) (fun _ hf => ?_)
    · refine z_iconst (v := (-1)) ok dX12_least_17 (by decide) ?_
      obtain rfl := Option.some.inj hf
      exact hk _ _ dX12_least_18
    · refine z_aload_n ok dX12_least_19 0 rfl ?_
      refine z_getr (q := 183) ok kc_171 zc_12 hin_12 20 (by decide) fl_12_71 rfl dX12_least_20 ?_
      refine z_sipush (v := 197) ok dX12_least_23 (by decide) ?_
      refine z_iald ok kc_183 dX12_least_26 hf (fun v26 hf => ?_)
      refine z_istore_n (lv' := [(2, .int v26), (0, .ref (X.ad 171)), (1, .int x1)]) ok dX12_least_27 (by decide) rfl ?_
      refine z_iconst (v := (-1)) ok dX12_least_28 (by decide) ?_
      refine z_nm hf (fun v29 hf => ?_)
      refine z_istore_n (lv' := [(3, .int v29), (2, .int v26), (0, .ref (X.ad 171)), (1, .int x1)]) ok dX12_least_29 (by decide) rfl ?_
      refine z_iconst (v := 0) ok dX12_least_30 (by decide) ?_
      refine z_nm hf (fun v31 hf => ?_)
      refine z_istore (lv' := [(4, .int v31), (3, .int v29), (2, .int v26), (0, .ref (X.ad 171)), (1, .int x1)]) ok dX12_least_31 (by decide) rfl ?_
      refine z_call hf (fun r hr hf => ?_)
      refine z_sub [3, 4, 2, 1, 0] rfl (z_iter (fun (s : (Sg × Int32 × Int32)) => s.1) (fun (s : (Sg × Int32 × Int32)) => [(0, .ref (X.ad 171)), (1, .int x1), (2, .int v26), (3, .int s.2.1), (4, .int s.2.2)]) (fun s o h1 h2 => t_M_least_l33 ok h1 h2) _ _ _ hr ?_)
      show ZAt X Q 0 0 74 r.1 [(0, .ref (X.ad 171)), (2, .int v26), (3, .int r.2.1)] []
      refine z_aload_n ok dX12_least_74 0 rfl ?_
      refine z_getr (q := 183) ok kc_171 zc_12 hin_12 20 (by decide) fl_12_71 rfl dX12_least_75 ?_
      refine z_sipush (v := 197) ok dX12_least_78 (by decide) ?_
      refine z_iload_n ok dX12_least_81 1 rfl ?_
      refine z_iast ok kc_183 dX12_least_82 hf (fun σ82 hf => ?_)
      refine z_iload_n ok dX12_least_83 2 rfl ?_
      obtain rfl := Option.some.inj hf
      exact hk _ _ dX12_least_84
theorem c_M_least {σ : Sg} {x1 : Int32} {r : (Int32 × Sg)} (h : M_least σ x1 = some r) : ZcI yX12_least cX12_least 5 .int rm_M_least 198 (fun ad => [.ref (ad 171), .int x1]) σ r.1 r.2 :=
  zmetI pn_12 rfl (fun _ => rfl) (fun _ => Nat.le_of_ble_eq_true rfl) rfl (fun X Q ok hk => t_M_least ok h hk)
theorem dX12_timesOut_0 : decode cX12_timesOut 0 = .ok (.aload_n 0, 1) := by decide +kernel
theorem dX12_timesOut_1 : decode cX12_timesOut 1 = .ok (.invokevirtual 349, 3) := by decide +kernel
theorem dX12_timesOut_4 : decode cX12_timesOut 4 = .ok (.iconst 0, 1) := by decide +kernel
theorem dX12_timesOut_5 : decode cX12_timesOut 5 = .ok (.istore_n 3, 1) := by decide +kernel
theorem dX12_timesOut_6 : decode cX12_timesOut 6 = .ok (.iconst 0, 1) := by decide +kernel
theorem dX12_timesOut_7 : decode cX12_timesOut 7 = .ok (.istore 4, 2) := by decide +kernel
theorem dX12_timesOut_9 : decode cX12_timesOut 9 = .ok (.iload 4, 2) := by decide +kernel
theorem dX12_timesOut_11 : decode cX12_timesOut 11 = .ok (.iload_n 2, 1) := by decide +kernel
theorem dX12_timesOut_12 : decode cX12_timesOut 12 = .ok (.if_icmp .ge 59, 3) := by decide +kernel
theorem dX12_timesOut_15 : decode cX12_timesOut 15 = .ok (.aload_n 0, 1) := by decide +kernel
theorem dX12_timesOut_16 : decode cX12_timesOut 16 = .ok (.invokevirtual 346, 3) := by decide +kernel
theorem dX12_timesOut_19 : decode cX12_timesOut 19 = .ok (.iconst 0, 1) := by decide +kernel
theorem dX12_timesOut_20 : decode cX12_timesOut 20 = .ok (.istore 5, 2) := by decide +kernel
theorem dX12_timesOut_22 : decode cX12_timesOut 22 = .ok (.iload 5, 2) := by decide +kernel
theorem dX12_timesOut_24 : decode cX12_timesOut 24 = .ok (.aload_n 0, 1) := by decide +kernel
theorem dX12_timesOut_25 : decode cX12_timesOut 25 = .ok (.getfield 7, 3) := by decide +kernel
theorem dX12_timesOut_28 : decode cX12_timesOut 28 = .ok (.if_icmp .ge 37, 3) := by decide +kernel
theorem dX12_timesOut_31 : decode cX12_timesOut 31 = .ok (.iload_n 3, 1) := by decide +kernel
theorem dX12_timesOut_32 : decode cX12_timesOut 32 = .ok (.iload_n 1, 1) := by decide +kernel
theorem dX12_timesOut_33 : decode cX12_timesOut 33 = .ok (.iconst (-1), 1) := by decide +kernel
theorem dX12_timesOut_34 : decode cX12_timesOut 34 = .ok (.if_icmp .eq 9, 3) := by decide +kernel
theorem dX12_timesOut_37 : decode cX12_timesOut 37 = .ok (.iload 5, 2) := by decide +kernel
theorem dX12_timesOut_39 : decode cX12_timesOut 39 = .ok (.iload_n 1, 1) := by decide +kernel
theorem dX12_timesOut_40 : decode cX12_timesOut 40 = .ok (.if_icmp .ne 16, 3) := by decide +kernel
theorem dX12_timesOut_43 : decode cX12_timesOut 43 = .ok (.aload_n 0, 1) := by decide +kernel
theorem dX12_timesOut_44 : decode cX12_timesOut 44 = .ok (.iload 5, 2) := by decide +kernel
theorem dX12_timesOut_46 : decode cX12_timesOut 46 = .ok (.invokevirtual 282, 3) := by decide +kernel
theorem dX12_timesOut_49 : decode cX12_timesOut 49 = .ok (.ifCond .le 7, 3) := by decide +kernel
theorem dX12_timesOut_52 : decode cX12_timesOut 52 = .ok (.iconst 1, 1) := by decide +kernel
theorem dX12_timesOut_53 : decode cX12_timesOut 53 = .ok (.goto 4, 3) := by decide +kernel
theorem dX12_timesOut_56 : decode cX12_timesOut 56 = .ok (.iconst 0, 1) := by decide +kernel
theorem dX12_timesOut_57 : decode cX12_timesOut 57 = .ok (.iadd, 1) := by decide +kernel
theorem dX12_timesOut_58 : decode cX12_timesOut 58 = .ok (.istore_n 3, 1) := by decide +kernel
theorem dX12_timesOut_59 : decode cX12_timesOut 59 = .ok (.iinc 5 1, 3) := by decide +kernel
theorem dX12_timesOut_62 : decode cX12_timesOut 62 = .ok (.goto (-40), 3) := by decide +kernel
theorem dX12_timesOut_65 : decode cX12_timesOut 65 = .ok (.iinc 4 1, 3) := by decide +kernel
theorem dX12_timesOut_68 : decode cX12_timesOut 68 = .ok (.goto (-59), 3) := by decide +kernel
theorem dX12_timesOut_71 : decode cX12_timesOut 71 = .ok (.aload_n 0, 1) := by decide +kernel
theorem dX12_timesOut_72 : decode cX12_timesOut 72 = .ok (.invokevirtual 355, 3) := by decide +kernel
theorem dX12_timesOut_75 : decode cX12_timesOut 75 = .ok (.iload_n 3, 1) := by decide +kernel
theorem dX12_timesOut_76 : decode cX12_timesOut 76 = .ok (.ireturn, 1) := by decide +kernel
abbrev rm_M_timesOut : Room := { frames := 9, cells := 0, slots := 0, locals := 204 }
def M_timesOut_j22_43 (σ : Sg) (x1 : Int32) (x2 : Int32) (x4 : Int32) (x5 : Int32) (s0 : Int32) : Option ((Int32 × Int32) ⊕ (Int32 × Int32)) :=
  (M_standOf σ x5).bind fun r46 =>
  if r46 ≤ 0 then (
    zlt (s0 + 0) fun v58 =>
    zlt (x5 + 1) fun v59 =>
    some (.inl (v58, v59))
  ) else (
    zlt (s0 + 1) fun v58 =>
    zlt (x5 + 1) fun v59 =>
    some (.inl (v58, v59))
  )
set_option maxRecDepth 20000 in
theorem t_M_timesOut_j22_43 {X : Zx} {Q : State → Prop} {σ : Sg} {x1 : Int32} {x2 : Int32} {x4 : Int32} {x5 : Int32} {s0 : Int32} (ok : Zok X cX12_timesOut RX12 rm_M_timesOut 198 6)  {out : ((Int32 × Int32) ⊕ (Int32 × Int32))} (hf : M_timesOut_j22_43 σ x1 x2 x4 x5 s0 = some out) (hk : zout (fun (s : (Int32 × Int32)) => ZAt X Q 0 0 22 σ [(0, .ref (X.ad 171)), (1, .int x1), (2, .int x2), (3, .int s.1), (4, .int x4), (5, .int s.2)] []) (fun (s : (Int32 × Int32)) => ZAt X Q 0 0 65 σ [(0, .ref (X.ad 171)), (1, .int x1), (2, .int x2), (3, .int s.1), (4, .int x4)] []) out) : ZAt X Q 0 0 43 σ [(0, .ref (X.ad 171)), (1, .int x1), (2, .int x2), (4, .int x4), (5, .int x5)] [.int s0] := by
  unfold M_timesOut_j22_43 at hf
  refine z_aload_n ok dX12_timesOut_43 0 rfl ?_
  refine z_iload ok dX12_timesOut_44 4 rfl ?_
  refine z_call hf (fun r46 h46 hf => ?_)
  refine z_cV (As := [.int x5]) (rest := [.int s0]) (w := 171) ok kc_171 zc_12 (c_M_standOf h46) rfl ⟨ml_12_282, w_M_standOf⟩ hy_M_standOf ⟨rfl, rfl⟩ ⟨Nat.le_of_ble_eq_true rfl, Nat.le_of_ble_eq_true rfl⟩ ⟨Nat.zero_le _, Nat.zero_le _⟩ rfl (Nat.le_of_ble_eq_true rfl) dX12_timesOut_46 ?_
  refine z_if_le (tgt := 56) ok dX12_timesOut_49 (by decide) hf (fun _ hf => ?_) (fun _ hf => ?_)
  · refine z_iconst (v := 0) ok dX12_timesOut_56 (by decide) ?_
    refine z_iadd ok dX12_timesOut_57 ?_
    refine z_nm hf (fun v58 hf => ?_)
    refine z_istore_n (lv' := [(3, .int v58), (0, .ref (X.ad 171)), (1, .int x1), (2, .int x2), (4, .int x4), (5, .int x5)]) ok dX12_timesOut_58 (by decide) rfl ?_
    refine z_iinc (w := 1) (lv' := fun v59 => [(5, .int v59), (3, .int v58), (0, .ref (X.ad 171)), (1, .int x1), (2, .int x2), (4, .int x4)]) ok dX12_timesOut_59 5 rfl (by decide) (by decide) (fun _ => rfl) hf (fun v59 hf => ?_)
    refine z_goto (tgt := 22) ok dX12_timesOut_62 (by decide) ?_
    obtain rfl := Option.some.inj hf
    exact z_sub [2, 3, 4, 1, 5, 0] rfl hk
  · refine z_iconst (v := 1) ok dX12_timesOut_52 (by decide) ?_
    refine z_goto (tgt := 57) ok dX12_timesOut_53 (by decide) ?_
    refine z_iadd ok dX12_timesOut_57 ?_
    refine z_nm hf (fun v58 hf => ?_)
    refine z_istore_n (lv' := [(3, .int v58), (0, .ref (X.ad 171)), (1, .int x1), (2, .int x2), (4, .int x4), (5, .int x5)]) ok dX12_timesOut_58 (by decide) rfl ?_
    refine z_iinc (w := 1) (lv' := fun v59 => [(5, .int v59), (3, .int v58), (0, .ref (X.ad 171)), (1, .int x1), (2, .int x2), (4, .int x4)]) ok dX12_timesOut_59 5 rfl (by decide) (by decide) (fun _ => rfl) hf (fun v59 hf => ?_)
    refine z_goto (tgt := 22) ok dX12_timesOut_62 (by decide) ?_
    obtain rfl := Option.some.inj hf
    exact z_sub [2, 3, 4, 1, 5, 0] rfl hk
def M_timesOut_l22 (σ : Sg) (x1 : Int32) (x2 : Int32) (x3 : Int32) (x4 : Int32) (x5 : Int32) : Option ((Int32 × Int32) ⊕ (Int32 × Int32)) :=
  zgt σ 171 0 fun v25 =>
  if v25 ≤ x5 then (
    some (.inr (x3, x5))
  ) else (
    if x1 = (-1) then (
      M_timesOut_j22_43 σ x1 x2 x4 x5 x3
    ) else (
      if x5 = x1 then (
        M_timesOut_j22_43 σ x1 x2 x4 x5 x3
      ) else (
        zlt (x3 + 0) fun v58 =>
        zlt (x5 + 1) fun v59 =>
        some (.inl (v58, v59))
      )
    )
  )
set_option maxRecDepth 20000 in
theorem t_M_timesOut_l22 {X : Zx} {Q : State → Prop} {σ : Sg} {x1 : Int32} {x2 : Int32} {x3 : Int32} {x4 : Int32} {x5 : Int32} (ok : Zok X cX12_timesOut RX12 rm_M_timesOut 198 6)  {out : ((Int32 × Int32) ⊕ (Int32 × Int32))} (hf : M_timesOut_l22 σ x1 x2 x3 x4 x5 = some out) (hk : zout (fun (s : (Int32 × Int32)) => ZAt X Q 0 0 22 σ [(0, .ref (X.ad 171)), (1, .int x1), (2, .int x2), (3, .int s.1), (4, .int x4), (5, .int s.2)] []) (fun (s : (Int32 × Int32)) => ZAt X Q 0 0 65 σ [(0, .ref (X.ad 171)), (1, .int x1), (2, .int x2), (3, .int s.1), (4, .int x4)] []) out) : ZAt X Q 0 0 22 σ [(0, .ref (X.ad 171)), (1, .int x1), (2, .int x2), (3, .int x3), (4, .int x4), (5, .int x5)] [] := by
  unfold M_timesOut_l22 at hf
  refine z_iload ok dX12_timesOut_22 5 rfl ?_
  refine z_aload_n ok dX12_timesOut_24 0 rfl ?_
  refine z_geti ok kc_171 zc_12 hin_12 0 (by decide) fl_12_7 rfl dX12_timesOut_25 hf (fun v25 hf => ?_)
  refine z_icmp_ge (tgt := 65) ok dX12_timesOut_28 (by decide) hf (fun _ hf => ?_) (fun _ hf => ?_)
  · obtain rfl := Option.some.inj hf
    exact z_sub [0, 1, 2, 3, 4] rfl hk
  · refine z_iload_n ok dX12_timesOut_31 3 rfl ?_
    refine z_iload_n ok dX12_timesOut_32 1 rfl ?_
    refine z_iconst (v := (-1)) ok dX12_timesOut_33 (by decide) ?_
    refine z_icmp_eq (tgt := 43) ok dX12_timesOut_34 (by decide) hf (fun _ hf => ?_) (fun _ hf => ?_)
    · exact z_sub [0, 1, 2, 4, 5] rfl (t_M_timesOut_j22_43 ok hf hk)
    · refine z_iload ok dX12_timesOut_37 5 rfl ?_
      refine z_iload_n ok dX12_timesOut_39 1 rfl ?_
      refine z_icmp_ne (tgt := 56) ok dX12_timesOut_40 (by decide) hf (fun _ hf => ?_) (fun _ hf => ?_)
      · exact z_sub [0, 1, 2, 4, 5] rfl (t_M_timesOut_j22_43 ok hf hk)
      · refine z_iconst (v := 0) ok dX12_timesOut_56 (by decide) ?_
        refine z_iadd ok dX12_timesOut_57 ?_
        refine z_nm hf (fun v58 hf => ?_)
        refine z_istore_n (lv' := [(3, .int v58), (0, .ref (X.ad 171)), (1, .int x1), (2, .int x2), (4, .int x4), (5, .int x5)]) ok dX12_timesOut_58 (by decide) rfl ?_
        refine z_iinc (w := 1) (lv' := fun v59 => [(5, .int v59), (3, .int v58), (0, .ref (X.ad 171)), (1, .int x1), (2, .int x2), (4, .int x4)]) ok dX12_timesOut_59 5 rfl (by decide) (by decide) (fun _ => rfl) hf (fun v59 hf => ?_)
        refine z_goto (tgt := 22) ok dX12_timesOut_62 (by decide) ?_
        obtain rfl := Option.some.inj hf
        exact z_sub [2, 3, 4, 1, 5, 0] rfl hk
def M_timesOut_l9 (σ : Sg) (x1 : Int32) (x2 : Int32) (x3 : Int32) (x4 : Int32) : Option ((Sg × Int32 × Int32) ⊕ (Sg × Int32 × Int32)) :=
  if x2 ≤ x4 then (
    some (.inr (σ, x3, x4))
  ) else (
    (M_stepsOn σ).bind fun r16 =>
    zlt 0 fun v20 =>
    (zit (fun (s : (Int32 × Int32)) => M_timesOut_l22 r16 x1 x2 s.1 x4 s.2) zFU (x3, v20)).bind fun r =>
    zlt (x4 + 1) fun v65 =>
    some (.inl (r16, r.1, v65))
  )
set_option maxRecDepth 20000 in
theorem t_M_timesOut_l9 {X : Zx} {Q : State → Prop} {σ : Sg} {x1 : Int32} {x2 : Int32} {x3 : Int32} {x4 : Int32} (ok : Zok X cX12_timesOut RX12 rm_M_timesOut 198 6)  {out : ((Sg × Int32 × Int32) ⊕ (Sg × Int32 × Int32))} (hf : M_timesOut_l9 σ x1 x2 x3 x4 = some out) (hk : zout (fun (s : (Sg × Int32 × Int32)) => ZAt X Q 0 0 9 s.1 [(0, .ref (X.ad 171)), (1, .int x1), (2, .int x2), (3, .int s.2.1), (4, .int s.2.2)] []) (fun (s : (Sg × Int32 × Int32)) => ZAt X Q 0 0 71 s.1 [(0, .ref (X.ad 171)), (3, .int s.2.1)] []) out) : ZAt X Q 0 0 9 σ [(0, .ref (X.ad 171)), (1, .int x1), (2, .int x2), (3, .int x3), (4, .int x4)] [] := by
  unfold M_timesOut_l9 at hf
  refine z_iload ok dX12_timesOut_9 4 rfl ?_
  refine z_iload_n ok dX12_timesOut_11 2 rfl ?_
  refine z_icmp_ge (tgt := 71) ok dX12_timesOut_12 (by decide) hf (fun _ hf => ?_) (fun _ hf => ?_)
  · obtain rfl := Option.some.inj hf
    exact z_sub [0, 3] rfl hk
  · refine z_aload_n ok dX12_timesOut_15 0 rfl ?_
    refine z_call hf (fun r16 h16 hf => ?_)
    refine z_cVv (As := []) (rest := []) (w := 171) ok kc_171 zc_12 (c_M_stepsOn h16) rfl ⟨ml_12_346, w_M_stepsOn⟩ hy_M_stepsOn ⟨rfl, rfl⟩ ⟨Nat.le_of_ble_eq_true rfl, Nat.le_of_ble_eq_true rfl⟩ ⟨Nat.zero_le _, Nat.zero_le _⟩ rfl (Nat.le_of_ble_eq_true rfl) dX12_timesOut_16 ?_
    refine z_iconst (v := 0) ok dX12_timesOut_19 (by decide) ?_
    refine z_nm hf (fun v20 hf => ?_)
    refine z_istore (lv' := [(5, .int v20), (0, .ref (X.ad 171)), (1, .int x1), (2, .int x2), (3, .int x3), (4, .int x4)]) ok dX12_timesOut_20 (by decide) rfl ?_
    refine z_call hf (fun r hr hf => ?_)
    refine z_sub [1, 2, 3, 4, 5, 0] rfl (z_iter (fun (s : (Int32 × Int32)) => r16) (fun (s : (Int32 × Int32)) => [(0, .ref (X.ad 171)), (1, .int x1), (2, .int x2), (3, .int s.1), (4, .int x4), (5, .int s.2)]) (fun s o h1 h2 => t_M_timesOut_l22 ok h1 h2) _ _ _ hr ?_)
    show ZAt X Q 0 0 65 r16 [(0, .ref (X.ad 171)), (1, .int x1), (2, .int x2), (3, .int r.1), (4, .int x4)] []
    refine z_iinc (w := 1) (lv' := fun v65 => [(4, .int v65), (0, .ref (X.ad 171)), (1, .int x1), (2, .int x2), (3, .int r.1)]) ok dX12_timesOut_65 4 rfl (by decide) (by decide) (fun _ => rfl) hf (fun v65 hf => ?_)
    refine z_goto (tgt := 9) ok dX12_timesOut_68 (by decide) ?_
    obtain rfl := Option.some.inj hf
    exact z_sub [1, 2, 3, 4, 0] rfl hk
def M_timesOut (σ : Sg) (x1 : Int32) (x2 : Int32) : Option (Int32 × Sg) :=
  (M_beginsAhead σ).bind fun r1 =>
  zlt 0 fun v5 =>
  zlt 0 fun v7 =>
  (zit (fun (s : (Sg × Int32 × Int32)) => M_timesOut_l9 s.1 x1 x2 s.2.1 s.2.2) zFU (r1, v5, v7)).bind fun r =>
  (M_endsAhead r.1).bind fun r72 =>
  some (r.2.1, r72)
set_option maxRecDepth 20000 in
theorem t_M_timesOut {X : Zx} {Q : State → Prop} {σ : Sg} {x1 : Int32} {x2 : Int32} (ok : Zok X cX12_timesOut RX12 rm_M_timesOut 198 6)  {out : (Int32 × Sg)} (hf : M_timesOut σ x1 x2 = some out) (hk : ZrI cX12_timesOut X Q out.1 out.2) : ZAt X Q 0 0 0 σ [(0, .ref (X.ad 171)), (1, .int x1), (2, .int x2)] [] := by
  unfold M_timesOut at hf
  refine z_aload_n ok dX12_timesOut_0 0 rfl ?_
  refine z_call hf (fun r1 h1 hf => ?_)
  refine z_cVv (As := []) (rest := []) (w := 171) ok kc_171 zc_12 (c_M_beginsAhead h1) rfl ⟨ml_12_349, w_M_beginsAhead⟩ hy_M_beginsAhead ⟨rfl, rfl⟩ ⟨Nat.le_of_ble_eq_true rfl, Nat.le_of_ble_eq_true rfl⟩ ⟨Nat.zero_le _, Nat.zero_le _⟩ rfl (Nat.le_of_ble_eq_true rfl) dX12_timesOut_1 ?_
  refine z_iconst (v := 0) ok dX12_timesOut_4 (by decide) ?_
  refine z_nm hf (fun v5 hf => ?_)
  refine z_istore_n (lv' := [(3, .int v5), (0, .ref (X.ad 171)), (1, .int x1), (2, .int x2)]) ok dX12_timesOut_5 (by decide) rfl ?_
  refine z_iconst (v := 0) ok dX12_timesOut_6 (by decide) ?_
  refine z_nm hf (fun v7 hf => ?_)
  refine z_istore (lv' := [(4, .int v7), (3, .int v5), (0, .ref (X.ad 171)), (1, .int x1), (2, .int x2)]) ok dX12_timesOut_7 (by decide) rfl ?_
  refine z_call hf (fun r hr hf => ?_)
  refine z_sub [2, 3, 4, 1, 0] rfl (z_iter (fun (s : (Sg × Int32 × Int32)) => s.1) (fun (s : (Sg × Int32 × Int32)) => [(0, .ref (X.ad 171)), (1, .int x1), (2, .int x2), (3, .int s.2.1), (4, .int s.2.2)]) (fun s o h1 h2 => t_M_timesOut_l9 ok h1 h2) _ _ _ hr ?_)
  show ZAt X Q 0 0 71 r.1 [(0, .ref (X.ad 171)), (3, .int r.2.1)] []
  refine z_aload_n ok dX12_timesOut_71 0 rfl ?_
  refine z_call hf (fun r72 h72 hf => ?_)
  refine z_cVv (As := []) (rest := []) (w := 171) ok kc_171 zc_12 (c_M_endsAhead h72) rfl ⟨ml_12_355, w_M_endsAhead⟩ hy_M_endsAhead ⟨rfl, rfl⟩ ⟨Nat.le_of_ble_eq_true rfl, Nat.le_of_ble_eq_true rfl⟩ ⟨Nat.zero_le _, Nat.zero_le _⟩ rfl (Nat.le_of_ble_eq_true rfl) dX12_timesOut_72 ?_
  refine z_iload_n ok dX12_timesOut_75 1 rfl ?_
  obtain rfl := Option.some.inj hf
  exact hk _ _ dX12_timesOut_76
theorem c_M_timesOut {σ : Sg} {x1 : Int32} {x2 : Int32} {r : (Int32 × Sg)} (h : M_timesOut σ x1 x2 = some r) : ZcI yX12_timesOut cX12_timesOut 6 .int rm_M_timesOut 198 (fun ad => [.ref (ad 171), .int x1, .int x2]) σ r.1 r.2 :=
  zmetI pn_12 rfl (fun _ => rfl) (fun _ => Nat.le_of_ble_eq_true rfl) rfl (fun X Q ok hk => t_M_timesOut ok h hk)
theorem dX12_gain_0 : decode cX12_gain 0 = .ok (.aload_n 0, 1) := by decide +kernel
theorem dX12_gain_1 : decode cX12_gain 1 = .ok (.getfield 7, 3) := by decide +kernel
theorem dX12_gain_4 : decode cX12_gain 4 = .ok (.ifCond .eq 22, 3) := by decide +kernel
theorem dX12_gain_7 : decode cX12_gain 7 = .ok (.iload_n 1, 1) := by decide +kernel
theorem dX12_gain_8 : decode cX12_gain 8 = .ok (.iconst 1, 1) := by decide +kernel
theorem dX12_gain_9 : decode cX12_gain 9 = .ok (.bipush 100, 2) := by decide +kernel
theorem dX12_gain_11 : decode cX12_gain 11 = .ok (.invokestatic 198, 3) := by decide +kernel
theorem dX12_gain_14 : decode cX12_gain 14 = .ok (.ifCond .eq 12, 3) := by decide +kernel
theorem dX12_gain_17 : decode cX12_gain 17 = .ok (.iload_n 2, 1) := by decide +kernel
theorem dX12_gain_18 : decode cX12_gain 18 = .ok (.iconst 0, 1) := by decide +kernel
theorem dX12_gain_19 : decode cX12_gain 19 = .ok (.iconst 1, 1) := by decide +kernel
theorem dX12_gain_20 : decode cX12_gain 20 = .ok (.invokestatic 198, 3) := by decide +kernel
theorem dX12_gain_23 : decode cX12_gain 23 = .ok (.ifCond .ne 5, 3) := by decide +kernel
theorem dX12_gain_26 : decode cX12_gain 26 = .ok (.iconst (-1), 1) := by decide +kernel
theorem dX12_gain_27 : decode cX12_gain 27 = .ok (.ireturn, 1) := by decide +kernel
theorem dX12_gain_28 : decode cX12_gain 28 = .ok (.aload_n 0, 1) := by decide +kernel
theorem dX12_gain_29 : decode cX12_gain 29 = .ok (.getfield 71, 3) := by decide +kernel
theorem dX12_gain_32 : decode cX12_gain 32 = .ok (.sipush 198, 3) := by decide +kernel
theorem dX12_gain_35 : decode cX12_gain 35 = .ok (.iaload, 1) := by decide +kernel
theorem dX12_gain_36 : decode cX12_gain 36 = .ok (.istore_n 3, 1) := by decide +kernel
theorem dX12_gain_37 : decode cX12_gain 37 = .ok (.iconst (-1), 1) := by decide +kernel
theorem dX12_gain_38 : decode cX12_gain 38 = .ok (.istore 4, 2) := by decide +kernel
theorem dX12_gain_40 : decode cX12_gain 40 = .ok (.ldc_w 364, 3) := by decide +kernel
theorem dX12_gain_43 : decode cX12_gain 43 = .ok (.istore 5, 2) := by decide +kernel
theorem dX12_gain_45 : decode cX12_gain 45 = .ok (.iconst 1, 1) := by decide +kernel
theorem dX12_gain_46 : decode cX12_gain 46 = .ok (.istore 6, 2) := by decide +kernel
theorem dX12_gain_48 : decode cX12_gain 48 = .ok (.iload 6, 2) := by decide +kernel
theorem dX12_gain_50 : decode cX12_gain 50 = .ok (.bipush 30, 2) := by decide +kernel
theorem dX12_gain_52 : decode cX12_gain 52 = .ok (.if_icmp .gt 45, 3) := by decide +kernel
theorem dX12_gain_55 : decode cX12_gain 55 = .ok (.aload_n 0, 1) := by decide +kernel
theorem dX12_gain_56 : decode cX12_gain 56 = .ok (.getfield 71, 3) := by decide +kernel
theorem dX12_gain_59 : decode cX12_gain 59 = .ok (.sipush 198, 3) := by decide +kernel
theorem dX12_gain_62 : decode cX12_gain 62 = .ok (.iload 6, 2) := by decide +kernel
theorem dX12_gain_64 : decode cX12_gain 64 = .ok (.iastore, 1) := by decide +kernel
theorem dX12_gain_65 : decode cX12_gain 65 = .ok (.aload_n 0, 1) := by decide +kernel
theorem dX12_gain_66 : decode cX12_gain 66 = .ok (.iconst (-1), 1) := by decide +kernel
theorem dX12_gain_67 : decode cX12_gain 67 = .ok (.iload_n 1, 1) := by decide +kernel
theorem dX12_gain_68 : decode cX12_gain 68 = .ok (.invokevirtual 365, 3) := by decide +kernel
theorem dX12_gain_71 : decode cX12_gain 71 = .ok (.istore 7, 2) := by decide +kernel
theorem dX12_gain_73 : decode cX12_gain 73 = .ok (.iload 7, 2) := by decide +kernel
theorem dX12_gain_75 : decode cX12_gain 75 = .ok (.iload 5, 2) := by decide +kernel
theorem dX12_gain_77 : decode cX12_gain 77 = .ok (.if_icmp .lt 6, 3) := by decide +kernel
theorem dX12_gain_80 : decode cX12_gain 80 = .ok (.goto 11, 3) := by decide +kernel
theorem dX12_gain_83 : decode cX12_gain 83 = .ok (.iload 6, 2) := by decide +kernel
theorem dX12_gain_85 : decode cX12_gain 85 = .ok (.istore 4, 2) := by decide +kernel
theorem dX12_gain_87 : decode cX12_gain 87 = .ok (.iload 7, 2) := by decide +kernel
theorem dX12_gain_89 : decode cX12_gain 89 = .ok (.istore 5, 2) := by decide +kernel
theorem dX12_gain_91 : decode cX12_gain 91 = .ok (.iinc 6 1, 3) := by decide +kernel
theorem dX12_gain_94 : decode cX12_gain 94 = .ok (.goto (-46), 3) := by decide +kernel
theorem dX12_gain_97 : decode cX12_gain 97 = .ok (.aload_n 0, 1) := by decide +kernel
theorem dX12_gain_98 : decode cX12_gain 98 = .ok (.getfield 71, 3) := by decide +kernel
theorem dX12_gain_101 : decode cX12_gain 101 = .ok (.sipush 198, 3) := by decide +kernel
theorem dX12_gain_104 : decode cX12_gain 104 = .ok (.iload_n 3, 1) := by decide +kernel
theorem dX12_gain_105 : decode cX12_gain 105 = .ok (.iastore, 1) := by decide +kernel
theorem dX12_gain_106 : decode cX12_gain 106 = .ok (.iload_n 2, 1) := by decide +kernel
theorem dX12_gain_107 : decode cX12_gain 107 = .ok (.ifCond .ne 8, 3) := by decide +kernel
theorem dX12_gain_110 : decode cX12_gain 110 = .ok (.iload 4, 2) := by decide +kernel
theorem dX12_gain_112 : decode cX12_gain 112 = .ok (.goto 5, 3) := by decide +kernel
theorem dX12_gain_115 : decode cX12_gain 115 = .ok (.iload 5, 2) := by decide +kernel
theorem dX12_gain_117 : decode cX12_gain 117 = .ok (.ireturn, 1) := by decide +kernel
abbrev rm_M_gain : Room := { frames := 10, cells := 0, slots := 0, locals := 229 }
def M_gain_l48 (σ : Sg) (x1 : Int32) (x2 : Int32) (x3 : Int32) (x4 : Int32) (x5 : Int32) (x6 : Int32) : Option ((Sg × Int32 × Int32 × Int32) ⊕ (Sg × Int32 × Int32 × Int32)) :=
  if 30 < x6 then (
    some (.inr (σ, x4, x5, x6))
  ) else (
    zwr σ 183 1607 198 x6 fun σ64 =>
    (M_timesOut σ64 (-1) x1).bind fun r68 =>
    zlt r68.1 fun v71 =>
    if v71 < x5 then (
      zlt (x6 + 1) fun v91 =>
      some (.inl (r68.2, x6, v71, v91))
    ) else (
      zlt (x6 + 1) fun v91 =>
      some (.inl (r68.2, x4, x5, v91))
    )
  )
set_option maxRecDepth 20000 in
theorem t_M_gain_l48 {X : Zx} {Q : State → Prop} {σ : Sg} {x1 : Int32} {x2 : Int32} {x3 : Int32} {x4 : Int32} {x5 : Int32} {x6 : Int32} (ok : Zok X cX12_gain RX12 rm_M_gain 198 8)  {out : ((Sg × Int32 × Int32 × Int32) ⊕ (Sg × Int32 × Int32 × Int32))} (hf : M_gain_l48 σ x1 x2 x3 x4 x5 x6 = some out) (hk : zout (fun (s : (Sg × Int32 × Int32 × Int32)) => ZAt X Q 0 0 48 s.1 [(0, .ref (X.ad 171)), (1, .int x1), (2, .int x2), (3, .int x3), (4, .int s.2.1), (5, .int s.2.2.1), (6, .int s.2.2.2)] []) (fun (s : (Sg × Int32 × Int32 × Int32)) => ZAt X Q 0 0 97 s.1 [(0, .ref (X.ad 171)), (2, .int x2), (3, .int x3), (4, .int s.2.1), (5, .int s.2.2.1)] []) out) : ZAt X Q 0 0 48 σ [(0, .ref (X.ad 171)), (1, .int x1), (2, .int x2), (3, .int x3), (4, .int x4), (5, .int x5), (6, .int x6)] [] := by
  unfold M_gain_l48 at hf
  refine z_iload ok dX12_gain_48 6 rfl ?_
  refine z_bipush (v := 30) ok dX12_gain_50 (by decide) ?_
  refine z_icmp_gt (tgt := 97) ok dX12_gain_52 (by decide) hf (fun _ hf => ?_) (fun _ hf => ?_)
  · obtain rfl := Option.some.inj hf
    exact z_sub [0, 2, 3, 4, 5] rfl hk
  · refine z_aload_n ok dX12_gain_55 0 rfl ?_
    refine z_getr (q := 183) ok kc_171 zc_12 hin_12 20 (by decide) fl_12_71 rfl dX12_gain_56 ?_
    refine z_sipush (v := 198) ok dX12_gain_59 (by decide) ?_
    refine z_iload ok dX12_gain_62 6 rfl ?_
    refine z_iast ok kc_183 dX12_gain_64 hf (fun σ64 hf => ?_)
    refine z_aload_n ok dX12_gain_65 0 rfl ?_
    refine z_iconst (v := (-1)) ok dX12_gain_66 (by decide) ?_
    refine z_iload_n ok dX12_gain_67 1 rfl ?_
    refine z_call hf (fun r68 h68 hf => ?_)
    refine z_cV (As := [.int (-1), .int x1]) (rest := []) (w := 171) ok kc_171 zc_12 (c_M_timesOut h68) rfl ⟨ml_12_365, w_M_timesOut⟩ hy_M_timesOut ⟨rfl, rfl⟩ ⟨Nat.le_of_ble_eq_true rfl, Nat.le_of_ble_eq_true rfl⟩ ⟨Nat.zero_le _, Nat.zero_le _⟩ rfl (Nat.le_of_ble_eq_true rfl) dX12_gain_68 ?_
    refine z_nm hf (fun v71 hf => ?_)
    refine z_istore (lv' := [(7, .int v71), (0, .ref (X.ad 171)), (1, .int x1), (2, .int x2), (3, .int x3), (4, .int x4), (5, .int x5), (6, .int x6)]) ok dX12_gain_71 (by decide) rfl ?_
    refine z_iload ok dX12_gain_73 0 rfl ?_
    refine z_iload ok dX12_gain_75 6 rfl ?_
    refine z_icmp_lt (tgt := 83) ok dX12_gain_77 (by decide) hf (fun _ hf => ?_) (fun _ hf => ?_)
    · refine z_iload ok dX12_gain_83 7 rfl ?_
      refine z_istore (lv' := [(4, .int x6), (7, .int v71), (0, .ref (X.ad 171)), (1, .int x1), (2, .int x2), (3, .int x3), (5, .int x5), (6, .int x6)]) ok dX12_gain_85 (by decide) rfl ?_
      refine z_iload ok dX12_gain_87 1 rfl ?_
      refine z_istore (lv' := [(5, .int v71), (4, .int x6), (7, .int v71), (0, .ref (X.ad 171)), (1, .int x1), (2, .int x2), (3, .int x3), (6, .int x6)]) ok dX12_gain_89 (by decide) rfl ?_
      refine z_iinc (w := 1) (lv' := fun v91 => [(6, .int v91), (5, .int v71), (4, .int x6), (7, .int v71), (0, .ref (X.ad 171)), (1, .int x1), (2, .int x2), (3, .int x3)]) ok dX12_gain_91 7 rfl (by decide) (by decide) (fun _ => rfl) hf (fun v91 hf => ?_)
      refine z_goto (tgt := 48) ok dX12_gain_94 (by decide) ?_
      obtain rfl := Option.some.inj hf
      exact z_sub [4, 5, 6, 7, 2, 1, 0] rfl hk
    · refine z_goto (tgt := 91) ok dX12_gain_80 (by decide) ?_
      refine z_iinc (w := 1) (lv' := fun v91 => [(6, .int v91), (7, .int v71), (0, .ref (X.ad 171)), (1, .int x1), (2, .int x2), (3, .int x3), (4, .int x4), (5, .int x5)]) ok dX12_gain_91 7 rfl (by decide) (by decide) (fun _ => rfl) hf (fun v91 hf => ?_)
      refine z_goto (tgt := 48) ok dX12_gain_94 (by decide) ?_
      obtain rfl := Option.some.inj hf
      exact z_sub [2, 3, 4, 5, 6, 7, 0] rfl hk
def M_gain_j97 (σ : Sg) (x2 : Int32) (x3 : Int32) (x4 : Int32) (x5 : Int32) : Option (Int32 × Sg) :=
  zwr σ 183 1607 198 x3 fun σ105 =>
  if x2 = 0 then (
    some (x4, σ105)
  ) else (
    some (x5, σ105)
  )
set_option maxRecDepth 20000 in
theorem t_M_gain_j97 {X : Zx} {Q : State → Prop} {σ : Sg} {x2 : Int32} {x3 : Int32} {x4 : Int32} {x5 : Int32} (ok : Zok X cX12_gain RX12 rm_M_gain 198 8)  {out : (Int32 × Sg)} (hf : M_gain_j97 σ x2 x3 x4 x5 = some out) (hk : ZrI cX12_gain X Q out.1 out.2) : ZAt X Q 0 0 97 σ [(0, .ref (X.ad 171)), (2, .int x2), (3, .int x3), (4, .int x4), (5, .int x5)] [] := by
  unfold M_gain_j97 at hf
  refine z_aload_n ok dX12_gain_97 0 rfl ?_
  refine z_getr (q := 183) ok kc_171 zc_12 hin_12 20 (by decide) fl_12_71 rfl dX12_gain_98 ?_
  refine z_sipush (v := 198) ok dX12_gain_101 (by decide) ?_
  refine z_iload_n ok dX12_gain_104 2 rfl ?_
  refine z_iast ok kc_183 dX12_gain_105 hf (fun σ105 hf => ?_)
  refine z_iload_n ok dX12_gain_106 1 rfl ?_
  refine z_if_ne (tgt := 115) ok dX12_gain_107 (by decide) hf (fun _ hf => ?_) (fun _ hf => ?_)
  · refine z_iload ok dX12_gain_110 3 rfl ?_
    refine z_goto (tgt := 117) ok dX12_gain_112 (by decide) ?_
    obtain rfl := Option.some.inj hf
    exact hk _ _ dX12_gain_117
  · refine z_iload ok dX12_gain_115 4 rfl ?_
    obtain rfl := Option.some.inj hf
    exact hk _ _ dX12_gain_117
def M_gain (σ : Sg) (x1 : Int32) (x2 : Int32) : Option (Int32 × Sg) :=
  zgt σ 171 0 fun v1 =>
  if v1 = 0 then (
    some ((-1), σ)
  ) else (
    (M_isIn x1 1 100).bind fun r11 =>
    if (zb r11) = 0 then (
      some ((-1), σ)
    ) else (
      (M_isIn x2 0 1).bind fun r20 =>
      if (zb r20) = 0 then (
        some ((-1), σ)
      ) else (
        zrd σ 183 1607 198 fun v35 =>
        zlt (-1) fun v38 =>
        zlt 1000000000 fun v43 =>
        zlt 1 fun v46 =>
        (zit (fun (s : (Sg × Int32 × Int32 × Int32)) => M_gain_l48 s.1 x1 x2 v35 s.2.1 s.2.2.1 s.2.2.2) zFU (σ, v38, v43, v46)).bind fun r =>
        M_gain_j97 r.1 x2 v35 r.2.1 r.2.2.1
      )
    )
  )
set_option maxRecDepth 20000 in
theorem t_M_gain {X : Zx} {Q : State → Prop} {σ : Sg} {x1 : Int32} {x2 : Int32} (ok : Zok X cX12_gain RX12 rm_M_gain 198 8)  {out : (Int32 × Sg)} (hf : M_gain σ x1 x2 = some out) (hk : ZrI cX12_gain X Q out.1 out.2) : ZAt X Q 0 0 0 σ [(0, .ref (X.ad 171)), (1, .int x1), (2, .int x2)] [] := by
  unfold M_gain at hf
  refine z_aload_n ok dX12_gain_0 0 rfl ?_
  refine z_geti ok kc_171 zc_12 hin_12 0 (by decide) fl_12_7 rfl dX12_gain_1 hf (fun v1 hf => ?_)
  refine z_if_eq (tgt := 26) ok dX12_gain_4 (by decide) hf (fun _ hf => ?_) (fun _ hf => ?_)
  · refine z_iconst (v := (-1)) ok dX12_gain_26 (by decide) ?_
    obtain rfl := Option.some.inj hf
    exact hk _ _ dX12_gain_27
  · refine z_iload_n ok dX12_gain_7 1 rfl ?_
    refine z_iconst (v := 1) ok dX12_gain_8 (by decide) ?_
    refine z_bipush (v := 100) ok dX12_gain_9 (by decide) ?_
    refine z_call hf (fun r11 h11 hf => ?_)
    refine z_cS (As := [.int x1, .int 1, .int 100]) (rest := []) ok (c_M_isIn h11) rfl ⟨ml_12_198, w_M_isIn⟩ hy_M_isIn ⟨rfl, rfl⟩ ⟨Nat.le_of_ble_eq_true rfl, Nat.le_of_ble_eq_true rfl⟩ ⟨Nat.zero_le _, Nat.zero_le _⟩ rfl (Nat.le_of_ble_eq_true rfl) dX12_gain_11 ?_
    refine z_if_eq (tgt := 26) ok dX12_gain_14 (by decide) hf (fun _ hf => ?_) (fun _ hf => ?_)
    · refine z_iconst (v := (-1)) ok dX12_gain_26 (by decide) ?_
      obtain rfl := Option.some.inj hf
      exact hk _ _ dX12_gain_27
    · refine z_iload_n ok dX12_gain_17 2 rfl ?_
      refine z_iconst (v := 0) ok dX12_gain_18 (by decide) ?_
      refine z_iconst (v := 1) ok dX12_gain_19 (by decide) ?_
      refine z_call hf (fun r20 h20 hf => ?_)
      refine z_cS (As := [.int x2, .int 0, .int 1]) (rest := []) ok (c_M_isIn h20) rfl ⟨ml_12_198, w_M_isIn⟩ hy_M_isIn ⟨rfl, rfl⟩ ⟨Nat.le_of_ble_eq_true rfl, Nat.le_of_ble_eq_true rfl⟩ ⟨Nat.zero_le _, Nat.zero_le _⟩ rfl (Nat.le_of_ble_eq_true rfl) dX12_gain_20 ?_
      refine z_if_ne (tgt := 28) ok dX12_gain_23 (by decide) hf (fun _ hf => ?_) (fun _ hf => ?_)
      · refine z_iconst (v := (-1)) ok dX12_gain_26 (by decide) ?_
        obtain rfl := Option.some.inj hf
        exact hk _ _ dX12_gain_27
      · refine z_aload_n ok dX12_gain_28 0 rfl ?_
        refine z_getr (q := 183) ok kc_171 zc_12 hin_12 20 (by decide) fl_12_71 rfl dX12_gain_29 ?_
        refine z_sipush (v := 198) ok dX12_gain_32 (by decide) ?_
        refine z_iald ok kc_183 dX12_gain_35 hf (fun v35 hf => ?_)
        refine z_istore_n (lv' := [(3, .int v35), (0, .ref (X.ad 171)), (1, .int x1), (2, .int x2)]) ok dX12_gain_36 (by decide) rfl ?_
        refine z_iconst (v := (-1)) ok dX12_gain_37 (by decide) ?_
        refine z_nm hf (fun v38 hf => ?_)
        refine z_istore (lv' := [(4, .int v38), (3, .int v35), (0, .ref (X.ad 171)), (1, .int x1), (2, .int x2)]) ok dX12_gain_38 (by decide) rfl ?_
        refine z_ldcw (v := 1000000000) ok dX12_gain_40 wc_12_364 ?_
        refine z_nm hf (fun v43 hf => ?_)
        refine z_istore (lv' := [(5, .int v43), (4, .int v38), (3, .int v35), (0, .ref (X.ad 171)), (1, .int x1), (2, .int x2)]) ok dX12_gain_43 (by decide) rfl ?_
        refine z_iconst (v := 1) ok dX12_gain_45 (by decide) ?_
        refine z_nm hf (fun v46 hf => ?_)
        refine z_istore (lv' := [(6, .int v46), (5, .int v43), (4, .int v38), (3, .int v35), (0, .ref (X.ad 171)), (1, .int x1), (2, .int x2)]) ok dX12_gain_46 (by decide) rfl ?_
        refine z_call hf (fun r hr hf => ?_)
        refine z_sub [4, 5, 6, 3, 2, 1, 0] rfl (z_iter (fun (s : (Sg × Int32 × Int32 × Int32)) => s.1) (fun (s : (Sg × Int32 × Int32 × Int32)) => [(0, .ref (X.ad 171)), (1, .int x1), (2, .int x2), (3, .int v35), (4, .int s.2.1), (5, .int s.2.2.1), (6, .int s.2.2.2)]) (fun s o h1 h2 => t_M_gain_l48 ok h1 h2) _ _ _ hr ?_)
        show ZAt X Q 0 0 97 r.1 [(0, .ref (X.ad 171)), (2, .int x2), (3, .int v35), (4, .int r.2.1), (5, .int r.2.2.1)] []
        exact z_sub [0, 1, 2, 3, 4] rfl (t_M_gain_j97 ok hf hk)
theorem c_M_gain {σ : Sg} {x1 : Int32} {x2 : Int32} {r : (Int32 × Sg)} (h : M_gain σ x1 x2 = some r) : ZcI yX12_gain cX12_gain 8 .int rm_M_gain 198 (fun ad => [.ref (ad 171), .int x1, .int x2]) σ r.1 r.2 :=
  zmetI pn_12 rfl (fun _ => rfl) (fun _ => Nat.le_of_ble_eq_true rfl) rfl (fun X Q ok hk => t_M_gain ok h hk)
theorem dX12_best_0 : decode cX12_best 0 = .ok (.aload_n 0, 1) := by decide +kernel
theorem dX12_best_1 : decode cX12_best 1 = .ok (.iload_n 1, 1) := by decide +kernel
theorem dX12_best_2 : decode cX12_best 2 = .ok (.invokevirtual 321, 3) := by decide +kernel
theorem dX12_best_5 : decode cX12_best 5 = .ok (.ifCond .eq 22, 3) := by decide +kernel
theorem dX12_best_8 : decode cX12_best 8 = .ok (.iload_n 2, 1) := by decide +kernel
theorem dX12_best_9 : decode cX12_best 9 = .ok (.iconst 1, 1) := by decide +kernel
theorem dX12_best_10 : decode cX12_best 10 = .ok (.bipush 40, 2) := by decide +kernel
theorem dX12_best_12 : decode cX12_best 12 = .ok (.invokestatic 198, 3) := by decide +kernel
theorem dX12_best_15 : decode cX12_best 15 = .ok (.ifCond .eq 12, 3) := by decide +kernel
theorem dX12_best_18 : decode cX12_best 18 = .ok (.iload_n 3, 1) := by decide +kernel
theorem dX12_best_19 : decode cX12_best 19 = .ok (.iconst 0, 1) := by decide +kernel
theorem dX12_best_20 : decode cX12_best 20 = .ok (.iconst 1, 1) := by decide +kernel
theorem dX12_best_21 : decode cX12_best 21 = .ok (.invokestatic 198, 3) := by decide +kernel
theorem dX12_best_24 : decode cX12_best 24 = .ok (.ifCond .ne 5, 3) := by decide +kernel
theorem dX12_best_27 : decode cX12_best 27 = .ok (.iconst (-1), 1) := by decide +kernel
theorem dX12_best_28 : decode cX12_best 28 = .ok (.ireturn, 1) := by decide +kernel
theorem dX12_best_29 : decode cX12_best 29 = .ok (.aload_n 0, 1) := by decide +kernel
theorem dX12_best_30 : decode cX12_best 30 = .ok (.getfield 71, 3) := by decide +kernel
theorem dX12_best_33 : decode cX12_best 33 = .ok (.bipush 16, 2) := by decide +kernel
theorem dX12_best_35 : decode cX12_best 35 = .ok (.iload_n 1, 1) := by decide +kernel
theorem dX12_best_36 : decode cX12_best 36 = .ok (.iadd, 1) := by decide +kernel
theorem dX12_best_37 : decode cX12_best 37 = .ok (.iaload, 1) := by decide +kernel
theorem dX12_best_38 : decode cX12_best 38 = .ok (.istore 4, 2) := by decide +kernel
theorem dX12_best_40 : decode cX12_best 40 = .ok (.iconst (-1), 1) := by decide +kernel
theorem dX12_best_41 : decode cX12_best 41 = .ok (.istore 5, 2) := by decide +kernel
theorem dX12_best_43 : decode cX12_best 43 = .ok (.ldc_w 364, 3) := by decide +kernel
theorem dX12_best_46 : decode cX12_best 46 = .ok (.istore 6, 2) := by decide +kernel
theorem dX12_best_48 : decode cX12_best 48 = .ok (.iconst 0, 1) := by decide +kernel
theorem dX12_best_49 : decode cX12_best 49 = .ok (.istore 7, 2) := by decide +kernel
theorem dX12_best_51 : decode cX12_best 51 = .ok (.iload 7, 2) := by decide +kernel
theorem dX12_best_53 : decode cX12_best 53 = .ok (.aload_n 0, 1) := by decide +kernel
theorem dX12_best_54 : decode cX12_best 54 = .ok (.iload_n 1, 1) := by decide +kernel
theorem dX12_best_55 : decode cX12_best 55 = .ok (.iconst 4, 1) := by decide +kernel
theorem dX12_best_56 : decode cX12_best 56 = .ok (.invokevirtual 251, 3) := by decide +kernel
theorem dX12_best_59 : decode cX12_best 59 = .ok (.if_icmp .gt 46, 3) := by decide +kernel
theorem dX12_best_62 : decode cX12_best 62 = .ok (.aload_n 0, 1) := by decide +kernel
theorem dX12_best_63 : decode cX12_best 63 = .ok (.getfield 71, 3) := by decide +kernel
theorem dX12_best_66 : decode cX12_best 66 = .ok (.bipush 16, 2) := by decide +kernel
theorem dX12_best_68 : decode cX12_best 68 = .ok (.iload_n 1, 1) := by decide +kernel
theorem dX12_best_69 : decode cX12_best 69 = .ok (.iadd, 1) := by decide +kernel
theorem dX12_best_70 : decode cX12_best 70 = .ok (.iload 7, 2) := by decide +kernel
theorem dX12_best_72 : decode cX12_best 72 = .ok (.iastore, 1) := by decide +kernel
theorem dX12_best_73 : decode cX12_best 73 = .ok (.aload_n 0, 1) := by decide +kernel
theorem dX12_best_74 : decode cX12_best 74 = .ok (.iload_n 1, 1) := by decide +kernel
theorem dX12_best_75 : decode cX12_best 75 = .ok (.iload_n 2, 1) := by decide +kernel
theorem dX12_best_76 : decode cX12_best 76 = .ok (.invokevirtual 365, 3) := by decide +kernel
theorem dX12_best_79 : decode cX12_best 79 = .ok (.istore 8, 2) := by decide +kernel
theorem dX12_best_81 : decode cX12_best 81 = .ok (.iload 8, 2) := by decide +kernel
theorem dX12_best_83 : decode cX12_best 83 = .ok (.iload 6, 2) := by decide +kernel
theorem dX12_best_85 : decode cX12_best 85 = .ok (.if_icmp .lt 6, 3) := by decide +kernel
theorem dX12_best_88 : decode cX12_best 88 = .ok (.goto 11, 3) := by decide +kernel
theorem dX12_best_91 : decode cX12_best 91 = .ok (.iload 7, 2) := by decide +kernel
theorem dX12_best_93 : decode cX12_best 93 = .ok (.istore 5, 2) := by decide +kernel
theorem dX12_best_95 : decode cX12_best 95 = .ok (.iload 8, 2) := by decide +kernel
theorem dX12_best_97 : decode cX12_best 97 = .ok (.istore 6, 2) := by decide +kernel
theorem dX12_best_99 : decode cX12_best 99 = .ok (.iinc 7 1, 3) := by decide +kernel
theorem dX12_best_102 : decode cX12_best 102 = .ok (.goto (-51), 3) := by decide +kernel
theorem dX12_best_105 : decode cX12_best 105 = .ok (.aload_n 0, 1) := by decide +kernel
theorem dX12_best_106 : decode cX12_best 106 = .ok (.getfield 71, 3) := by decide +kernel
theorem dX12_best_109 : decode cX12_best 109 = .ok (.bipush 16, 2) := by decide +kernel
theorem dX12_best_111 : decode cX12_best 111 = .ok (.iload_n 1, 1) := by decide +kernel
theorem dX12_best_112 : decode cX12_best 112 = .ok (.iadd, 1) := by decide +kernel
theorem dX12_best_113 : decode cX12_best 113 = .ok (.iload 4, 2) := by decide +kernel
theorem dX12_best_115 : decode cX12_best 115 = .ok (.iastore, 1) := by decide +kernel
theorem dX12_best_116 : decode cX12_best 116 = .ok (.iload_n 3, 1) := by decide +kernel
theorem dX12_best_117 : decode cX12_best 117 = .ok (.ifCond .ne 8, 3) := by decide +kernel
theorem dX12_best_120 : decode cX12_best 120 = .ok (.iload 5, 2) := by decide +kernel
theorem dX12_best_122 : decode cX12_best 122 = .ok (.goto 5, 3) := by decide +kernel
theorem dX12_best_125 : decode cX12_best 125 = .ok (.iload 6, 2) := by decide +kernel
theorem dX12_best_127 : decode cX12_best 127 = .ok (.ireturn, 1) := by decide +kernel
abbrev rm_M_best : Room := { frames := 10, cells := 0, slots := 0, locals := 229 }
def M_best_l51 (σ : Sg) (x1 : Int32) (x2 : Int32) (x3 : Int32) (x4 : Int32) (x5 : Int32) (x6 : Int32) (x7 : Int32) : Option ((Sg × Int32 × Int32 × Int32) ⊕ (Sg × Int32 × Int32 × Int32)) :=
  (M_toldOf σ x1 4).bind fun r56 =>
  if r56 < x7 then (
    some (.inr (σ, x5, x6, x7))
  ) else (
    zwr σ 183 1607 (16 + x1) x7 fun σ72 =>
    (M_timesOut σ72 x1 x2).bind fun r76 =>
    zlt r76.1 fun v79 =>
    if v79 < x6 then (
      zlt (x7 + 1) fun v99 =>
      some (.inl (r76.2, x7, v79, v99))
    ) else (
      zlt (x7 + 1) fun v99 =>
      some (.inl (r76.2, x5, x6, v99))
    )
  )
set_option maxRecDepth 20000 in
theorem t_M_best_l51 {X : Zx} {Q : State → Prop} {σ : Sg} {x1 : Int32} {x2 : Int32} {x3 : Int32} {x4 : Int32} {x5 : Int32} {x6 : Int32} {x7 : Int32} (ok : Zok X cX12_best RX12 rm_M_best 198 9)  {out : ((Sg × Int32 × Int32 × Int32) ⊕ (Sg × Int32 × Int32 × Int32))} (hf : M_best_l51 σ x1 x2 x3 x4 x5 x6 x7 = some out) (hk : zout (fun (s : (Sg × Int32 × Int32 × Int32)) => ZAt X Q 0 0 51 s.1 [(0, .ref (X.ad 171)), (1, .int x1), (2, .int x2), (3, .int x3), (4, .int x4), (5, .int s.2.1), (6, .int s.2.2.1), (7, .int s.2.2.2)] []) (fun (s : (Sg × Int32 × Int32 × Int32)) => ZAt X Q 0 0 105 s.1 [(0, .ref (X.ad 171)), (1, .int x1), (3, .int x3), (4, .int x4), (5, .int s.2.1), (6, .int s.2.2.1)] []) out) : ZAt X Q 0 0 51 σ [(0, .ref (X.ad 171)), (1, .int x1), (2, .int x2), (3, .int x3), (4, .int x4), (5, .int x5), (6, .int x6), (7, .int x7)] [] := by
  unfold M_best_l51 at hf
  refine z_iload ok dX12_best_51 7 rfl ?_
  refine z_aload_n ok dX12_best_53 0 rfl ?_
  refine z_iload_n ok dX12_best_54 1 rfl ?_
  refine z_iconst (v := 4) ok dX12_best_55 (by decide) ?_
  refine z_call hf (fun r56 h56 hf => ?_)
  refine z_cV (As := [.int x1, .int 4]) (rest := [.int x7]) (w := 171) ok kc_171 zc_12 (c_M_toldOf h56) rfl ⟨ml_12_251, w_M_toldOf⟩ hy_M_toldOf ⟨rfl, rfl⟩ ⟨Nat.le_of_ble_eq_true rfl, Nat.le_of_ble_eq_true rfl⟩ ⟨Nat.zero_le _, Nat.zero_le _⟩ rfl (Nat.le_of_ble_eq_true rfl) dX12_best_56 ?_
  refine z_icmp_gt (tgt := 105) ok dX12_best_59 (by decide) hf (fun _ hf => ?_) (fun _ hf => ?_)
  · obtain rfl := Option.some.inj hf
    exact z_sub [0, 1, 3, 4, 5, 6] rfl hk
  · refine z_aload_n ok dX12_best_62 0 rfl ?_
    refine z_getr (q := 183) ok kc_171 zc_12 hin_12 20 (by decide) fl_12_71 rfl dX12_best_63 ?_
    refine z_bipush (v := 16) ok dX12_best_66 (by decide) ?_
    refine z_iload_n ok dX12_best_68 1 rfl ?_
    refine z_iadd ok dX12_best_69 ?_
    refine z_iload ok dX12_best_70 7 rfl ?_
    refine z_iast ok kc_183 dX12_best_72 hf (fun σ72 hf => ?_)
    refine z_aload_n ok dX12_best_73 0 rfl ?_
    refine z_iload_n ok dX12_best_74 1 rfl ?_
    refine z_iload_n ok dX12_best_75 2 rfl ?_
    refine z_call hf (fun r76 h76 hf => ?_)
    refine z_cV (As := [.int x1, .int x2]) (rest := []) (w := 171) ok kc_171 zc_12 (c_M_timesOut h76) rfl ⟨ml_12_365, w_M_timesOut⟩ hy_M_timesOut ⟨rfl, rfl⟩ ⟨Nat.le_of_ble_eq_true rfl, Nat.le_of_ble_eq_true rfl⟩ ⟨Nat.zero_le _, Nat.zero_le _⟩ rfl (Nat.le_of_ble_eq_true rfl) dX12_best_76 ?_
    refine z_nm hf (fun v79 hf => ?_)
    refine z_istore (lv' := [(8, .int v79), (0, .ref (X.ad 171)), (1, .int x1), (2, .int x2), (3, .int x3), (4, .int x4), (5, .int x5), (6, .int x6), (7, .int x7)]) ok dX12_best_79 (by decide) rfl ?_
    refine z_iload ok dX12_best_81 0 rfl ?_
    refine z_iload ok dX12_best_83 7 rfl ?_
    refine z_icmp_lt (tgt := 91) ok dX12_best_85 (by decide) hf (fun _ hf => ?_) (fun _ hf => ?_)
    · refine z_iload ok dX12_best_91 8 rfl ?_
      refine z_istore (lv' := [(5, .int x7), (8, .int v79), (0, .ref (X.ad 171)), (1, .int x1), (2, .int x2), (3, .int x3), (4, .int x4), (6, .int x6), (7, .int x7)]) ok dX12_best_93 (by decide) rfl ?_
      refine z_iload ok dX12_best_95 1 rfl ?_
      refine z_istore (lv' := [(6, .int v79), (5, .int x7), (8, .int v79), (0, .ref (X.ad 171)), (1, .int x1), (2, .int x2), (3, .int x3), (4, .int x4), (7, .int x7)]) ok dX12_best_97 (by decide) rfl ?_
      refine z_iinc (w := 1) (lv' := fun v99 => [(7, .int v99), (6, .int v79), (5, .int x7), (8, .int v79), (0, .ref (X.ad 171)), (1, .int x1), (2, .int x2), (3, .int x3), (4, .int x4)]) ok dX12_best_99 8 rfl (by decide) (by decide) (fun _ => rfl) hf (fun v99 hf => ?_)
      refine z_goto (tgt := 51) ok dX12_best_102 (by decide) ?_
      obtain rfl := Option.some.inj hf
      exact z_sub [4, 5, 6, 7, 8, 2, 1, 0] rfl hk
    · refine z_goto (tgt := 99) ok dX12_best_88 (by decide) ?_
      refine z_iinc (w := 1) (lv' := fun v99 => [(7, .int v99), (8, .int v79), (0, .ref (X.ad 171)), (1, .int x1), (2, .int x2), (3, .int x3), (4, .int x4), (5, .int x5), (6, .int x6)]) ok dX12_best_99 8 rfl (by decide) (by decide) (fun _ => rfl) hf (fun v99 hf => ?_)
      refine z_goto (tgt := 51) ok dX12_best_102 (by decide) ?_
      obtain rfl := Option.some.inj hf
      exact z_sub [2, 3, 4, 5, 6, 7, 8, 0] rfl hk
def M_best_j105 (σ : Sg) (x1 : Int32) (x3 : Int32) (x4 : Int32) (x5 : Int32) (x6 : Int32) : Option (Int32 × Sg) :=
  zwr σ 183 1607 (16 + x1) x4 fun σ115 =>
  if x3 = 0 then (
    some (x5, σ115)
  ) else (
    some (x6, σ115)
  )
set_option maxRecDepth 20000 in
theorem t_M_best_j105 {X : Zx} {Q : State → Prop} {σ : Sg} {x1 : Int32} {x3 : Int32} {x4 : Int32} {x5 : Int32} {x6 : Int32} (ok : Zok X cX12_best RX12 rm_M_best 198 9)  {out : (Int32 × Sg)} (hf : M_best_j105 σ x1 x3 x4 x5 x6 = some out) (hk : ZrI cX12_best X Q out.1 out.2) : ZAt X Q 0 0 105 σ [(0, .ref (X.ad 171)), (1, .int x1), (3, .int x3), (4, .int x4), (5, .int x5), (6, .int x6)] [] := by
  unfold M_best_j105 at hf
  refine z_aload_n ok dX12_best_105 0 rfl ?_
  refine z_getr (q := 183) ok kc_171 zc_12 hin_12 20 (by decide) fl_12_71 rfl dX12_best_106 ?_
  refine z_bipush (v := 16) ok dX12_best_109 (by decide) ?_
  refine z_iload_n ok dX12_best_111 1 rfl ?_
  refine z_iadd ok dX12_best_112 ?_
  refine z_iload ok dX12_best_113 3 rfl ?_
  refine z_iast ok kc_183 dX12_best_115 hf (fun σ115 hf => ?_)
  refine z_iload_n ok dX12_best_116 2 rfl ?_
  refine z_if_ne (tgt := 125) ok dX12_best_117 (by decide) hf (fun _ hf => ?_) (fun _ hf => ?_)
  · refine z_iload ok dX12_best_120 4 rfl ?_
    refine z_goto (tgt := 127) ok dX12_best_122 (by decide) ?_
    obtain rfl := Option.some.inj hf
    exact hk _ _ dX12_best_127
  · refine z_iload ok dX12_best_125 5 rfl ?_
    obtain rfl := Option.some.inj hf
    exact hk _ _ dX12_best_127
def M_best (σ : Sg) (x1 : Int32) (x2 : Int32) (x3 : Int32) : Option (Int32 × Sg) :=
  (M_isPool σ x1).bind fun r2 =>
  if (zb r2) = 0 then (
    some ((-1), σ)
  ) else (
    (M_isIn x2 1 40).bind fun r12 =>
    if (zb r12) = 0 then (
      some ((-1), σ)
    ) else (
      (M_isIn x3 0 1).bind fun r21 =>
      if (zb r21) = 0 then (
        some ((-1), σ)
      ) else (
        zrd σ 183 1607 (16 + x1) fun v37 =>
        zlt (-1) fun v41 =>
        zlt 1000000000 fun v46 =>
        zlt 0 fun v49 =>
        (zit (fun (s : (Sg × Int32 × Int32 × Int32)) => M_best_l51 s.1 x1 x2 x3 v37 s.2.1 s.2.2.1 s.2.2.2) zFU (σ, v41, v46, v49)).bind fun r =>
        M_best_j105 r.1 x1 x3 v37 r.2.1 r.2.2.1
      )
    )
  )
set_option maxRecDepth 20000 in
theorem t_M_best {X : Zx} {Q : State → Prop} {σ : Sg} {x1 : Int32} {x2 : Int32} {x3 : Int32} (ok : Zok X cX12_best RX12 rm_M_best 198 9)  {out : (Int32 × Sg)} (hf : M_best σ x1 x2 x3 = some out) (hk : ZrI cX12_best X Q out.1 out.2) : ZAt X Q 0 0 0 σ [(0, .ref (X.ad 171)), (1, .int x1), (2, .int x2), (3, .int x3)] [] := by
  unfold M_best at hf
  refine z_aload_n ok dX12_best_0 0 rfl ?_
  refine z_iload_n ok dX12_best_1 1 rfl ?_
  refine z_call hf (fun r2 h2 hf => ?_)
  refine z_cV (As := [.int x1]) (rest := []) (w := 171) ok kc_171 zc_12 (c_M_isPool h2) rfl ⟨ml_12_321, w_M_isPool⟩ hy_M_isPool ⟨rfl, rfl⟩ ⟨Nat.le_of_ble_eq_true rfl, Nat.le_of_ble_eq_true rfl⟩ ⟨Nat.zero_le _, Nat.zero_le _⟩ rfl (Nat.le_of_ble_eq_true rfl) dX12_best_2 ?_
  refine z_if_eq (tgt := 27) ok dX12_best_5 (by decide) hf (fun _ hf => ?_) (fun _ hf => ?_)
  · refine z_iconst (v := (-1)) ok dX12_best_27 (by decide) ?_
    obtain rfl := Option.some.inj hf
    exact hk _ _ dX12_best_28
  · refine z_iload_n ok dX12_best_8 2 rfl ?_
    refine z_iconst (v := 1) ok dX12_best_9 (by decide) ?_
    refine z_bipush (v := 40) ok dX12_best_10 (by decide) ?_
    refine z_call hf (fun r12 h12 hf => ?_)
    refine z_cS (As := [.int x2, .int 1, .int 40]) (rest := []) ok (c_M_isIn h12) rfl ⟨ml_12_198, w_M_isIn⟩ hy_M_isIn ⟨rfl, rfl⟩ ⟨Nat.le_of_ble_eq_true rfl, Nat.le_of_ble_eq_true rfl⟩ ⟨Nat.zero_le _, Nat.zero_le _⟩ rfl (Nat.le_of_ble_eq_true rfl) dX12_best_12 ?_
    refine z_if_eq (tgt := 27) ok dX12_best_15 (by decide) hf (fun _ hf => ?_) (fun _ hf => ?_)
    · refine z_iconst (v := (-1)) ok dX12_best_27 (by decide) ?_
      obtain rfl := Option.some.inj hf
      exact hk _ _ dX12_best_28
    · refine z_iload_n ok dX12_best_18 3 rfl ?_
      refine z_iconst (v := 0) ok dX12_best_19 (by decide) ?_
      refine z_iconst (v := 1) ok dX12_best_20 (by decide) ?_
      refine z_call hf (fun r21 h21 hf => ?_)
      refine z_cS (As := [.int x3, .int 0, .int 1]) (rest := []) ok (c_M_isIn h21) rfl ⟨ml_12_198, w_M_isIn⟩ hy_M_isIn ⟨rfl, rfl⟩ ⟨Nat.le_of_ble_eq_true rfl, Nat.le_of_ble_eq_true rfl⟩ ⟨Nat.zero_le _, Nat.zero_le _⟩ rfl (Nat.le_of_ble_eq_true rfl) dX12_best_21 ?_
      refine z_if_ne (tgt := 29) ok dX12_best_24 (by decide) hf (fun _ hf => ?_) (fun _ hf => ?_)
      · refine z_iconst (v := (-1)) ok dX12_best_27 (by decide) ?_
        obtain rfl := Option.some.inj hf
        exact hk _ _ dX12_best_28
      · refine z_aload_n ok dX12_best_29 0 rfl ?_
        refine z_getr (q := 183) ok kc_171 zc_12 hin_12 20 (by decide) fl_12_71 rfl dX12_best_30 ?_
        refine z_bipush (v := 16) ok dX12_best_33 (by decide) ?_
        refine z_iload_n ok dX12_best_35 1 rfl ?_
        refine z_iadd ok dX12_best_36 ?_
        refine z_iald ok kc_183 dX12_best_37 hf (fun v37 hf => ?_)
        refine z_istore (lv' := [(4, .int v37), (0, .ref (X.ad 171)), (1, .int x1), (2, .int x2), (3, .int x3)]) ok dX12_best_38 (by decide) rfl ?_
        refine z_iconst (v := (-1)) ok dX12_best_40 (by decide) ?_
        refine z_nm hf (fun v41 hf => ?_)
        refine z_istore (lv' := [(5, .int v41), (4, .int v37), (0, .ref (X.ad 171)), (1, .int x1), (2, .int x2), (3, .int x3)]) ok dX12_best_41 (by decide) rfl ?_
        refine z_ldcw (v := 1000000000) ok dX12_best_43 wc_12_364 ?_
        refine z_nm hf (fun v46 hf => ?_)
        refine z_istore (lv' := [(6, .int v46), (5, .int v41), (4, .int v37), (0, .ref (X.ad 171)), (1, .int x1), (2, .int x2), (3, .int x3)]) ok dX12_best_46 (by decide) rfl ?_
        refine z_iconst (v := 0) ok dX12_best_48 (by decide) ?_
        refine z_nm hf (fun v49 hf => ?_)
        refine z_istore (lv' := [(7, .int v49), (6, .int v46), (5, .int v41), (4, .int v37), (0, .ref (X.ad 171)), (1, .int x1), (2, .int x2), (3, .int x3)]) ok dX12_best_49 (by decide) rfl ?_
        refine z_call hf (fun r hr hf => ?_)
        refine z_sub [4, 5, 6, 7, 3, 2, 1, 0] rfl (z_iter (fun (s : (Sg × Int32 × Int32 × Int32)) => s.1) (fun (s : (Sg × Int32 × Int32 × Int32)) => [(0, .ref (X.ad 171)), (1, .int x1), (2, .int x2), (3, .int x3), (4, .int v37), (5, .int s.2.1), (6, .int s.2.2.1), (7, .int s.2.2.2)]) (fun s o h1 h2 => t_M_best_l51 ok h1 h2) _ _ _ hr ?_)
        show ZAt X Q 0 0 105 r.1 [(0, .ref (X.ad 171)), (1, .int x1), (3, .int x3), (4, .int v37), (5, .int r.2.1), (6, .int r.2.2.1)] []
        exact z_sub [0, 1, 2, 3, 4, 5] rfl (t_M_best_j105 ok hf hk)
theorem c_M_best {σ : Sg} {x1 : Int32} {x2 : Int32} {x3 : Int32} {r : (Int32 × Sg)} (h : M_best σ x1 x2 x3 = some r) : ZcI yX12_best cX12_best 9 .int rm_M_best 198 (fun ad => [.ref (ad 171), .int x1, .int x2, .int x3]) σ r.1 r.2 :=
  zmetI pn_12 rfl (fun _ => rfl) (fun _ => Nat.le_of_ble_eq_true rfl) rfl (fun X Q ok hk => t_M_best ok h hk)
theorem dX12_laysOrder_0 : decode cX12_laysOrder 0 = .ok (.sipush 148, 3) := by decide +kernel
theorem dX12_laysOrder_3 : decode cX12_laysOrder 3 = .ok (.iconst 3, 1) := by decide +kernel
theorem dX12_laysOrder_4 : decode cX12_laysOrder 4 = .ok (.aload_n 0, 1) := by decide +kernel
theorem dX12_laysOrder_5 : decode cX12_laysOrder 5 = .ok (.getfield 71, 3) := by decide +kernel
theorem dX12_laysOrder_8 : decode cX12_laysOrder 8 = .ok (.sipush 199, 3) := by decide +kernel
theorem dX12_laysOrder_11 : decode cX12_laysOrder 11 = .ok (.iaload, 1) := by decide +kernel
theorem dX12_laysOrder_12 : decode cX12_laysOrder 12 = .ok (.imul, 1) := by decide +kernel
theorem dX12_laysOrder_13 : decode cX12_laysOrder 13 = .ok (.iadd, 1) := by decide +kernel
theorem dX12_laysOrder_14 : decode cX12_laysOrder 14 = .ok (.istore 4, 2) := by decide +kernel
theorem dX12_laysOrder_16 : decode cX12_laysOrder 16 = .ok (.aload_n 0, 1) := by decide +kernel
theorem dX12_laysOrder_17 : decode cX12_laysOrder 17 = .ok (.getfield 71, 3) := by decide +kernel
theorem dX12_laysOrder_20 : decode cX12_laysOrder 20 = .ok (.iload 4, 2) := by decide +kernel
theorem dX12_laysOrder_22 : decode cX12_laysOrder 22 = .ok (.iload_n 1, 1) := by decide +kernel
theorem dX12_laysOrder_23 : decode cX12_laysOrder 23 = .ok (.iastore, 1) := by decide +kernel
theorem dX12_laysOrder_24 : decode cX12_laysOrder 24 = .ok (.aload_n 0, 1) := by decide +kernel
theorem dX12_laysOrder_25 : decode cX12_laysOrder 25 = .ok (.getfield 71, 3) := by decide +kernel
theorem dX12_laysOrder_28 : decode cX12_laysOrder 28 = .ok (.iload 4, 2) := by decide +kernel
theorem dX12_laysOrder_30 : decode cX12_laysOrder 30 = .ok (.iconst 1, 1) := by decide +kernel
theorem dX12_laysOrder_31 : decode cX12_laysOrder 31 = .ok (.iadd, 1) := by decide +kernel
theorem dX12_laysOrder_32 : decode cX12_laysOrder 32 = .ok (.iload_n 2, 1) := by decide +kernel
theorem dX12_laysOrder_33 : decode cX12_laysOrder 33 = .ok (.iastore, 1) := by decide +kernel
theorem dX12_laysOrder_34 : decode cX12_laysOrder 34 = .ok (.aload_n 0, 1) := by decide +kernel
theorem dX12_laysOrder_35 : decode cX12_laysOrder 35 = .ok (.getfield 71, 3) := by decide +kernel
theorem dX12_laysOrder_38 : decode cX12_laysOrder 38 = .ok (.iload 4, 2) := by decide +kernel
theorem dX12_laysOrder_40 : decode cX12_laysOrder 40 = .ok (.iconst 2, 1) := by decide +kernel
theorem dX12_laysOrder_41 : decode cX12_laysOrder 41 = .ok (.iadd, 1) := by decide +kernel
theorem dX12_laysOrder_42 : decode cX12_laysOrder 42 = .ok (.iload_n 3, 1) := by decide +kernel
theorem dX12_laysOrder_43 : decode cX12_laysOrder 43 = .ok (.iastore, 1) := by decide +kernel
theorem dX12_laysOrder_44 : decode cX12_laysOrder 44 = .ok (.aload_n 0, 1) := by decide +kernel
theorem dX12_laysOrder_45 : decode cX12_laysOrder 45 = .ok (.getfield 71, 3) := by decide +kernel
theorem dX12_laysOrder_48 : decode cX12_laysOrder 48 = .ok (.sipush 199, 3) := by decide +kernel
theorem dX12_laysOrder_51 : decode cX12_laysOrder 51 = .ok (.dup2, 1) := by decide +kernel
theorem dX12_laysOrder_52 : decode cX12_laysOrder 52 = .ok (.iaload, 1) := by decide +kernel
theorem dX12_laysOrder_53 : decode cX12_laysOrder 53 = .ok (.iconst 1, 1) := by decide +kernel
theorem dX12_laysOrder_54 : decode cX12_laysOrder 54 = .ok (.iadd, 1) := by decide +kernel
theorem dX12_laysOrder_55 : decode cX12_laysOrder 55 = .ok (.iastore, 1) := by decide +kernel
theorem dX12_laysOrder_56 : decode cX12_laysOrder 56 = .ok (.return_, 1) := by decide +kernel
abbrev rm_M_laysOrder : Room := { frames := 0, cells := 0, slots := 0, locals := 0 }
def M_laysOrder (σ : Sg) (x1 : Int32) (x2 : Int32) (x3 : Int32) : Option Sg :=
  zrd σ 183 1607 199 fun v11 =>
  zlt (148 + (3 * v11)) fun v14 =>
  zwr σ 183 1607 v14 x1 fun σ23 =>
  zwr σ23 183 1607 (v14 + 1) x2 fun σ33 =>
  zwr σ33 183 1607 (v14 + 2) x3 fun σ43 =>
  zrd σ43 183 1607 199 fun v52 =>
  zwr σ43 183 1607 199 (v52 + 1) fun σ55 =>
  some σ55
set_option maxRecDepth 20000 in
theorem t_M_laysOrder {X : Zx} {Q : State → Prop} {σ : Sg} {x1 : Int32} {x2 : Int32} {x3 : Int32} (ok : Zok X cX12_laysOrder RX12 rm_M_laysOrder 198 5)  {out : Sg} (hf : M_laysOrder σ x1 x2 x3 = some out) (hk : ZrV cX12_laysOrder X Q out) : ZAt X Q 0 0 0 σ [(0, .ref (X.ad 171)), (1, .int x1), (2, .int x2), (3, .int x3)] [] := by
  unfold M_laysOrder at hf
  refine z_sipush (v := 148) ok dX12_laysOrder_0 (by decide) ?_
  refine z_iconst (v := 3) ok dX12_laysOrder_3 (by decide) ?_
  refine z_aload_n ok dX12_laysOrder_4 0 rfl ?_
  refine z_getr (q := 183) ok kc_171 zc_12 hin_12 20 (by decide) fl_12_71 rfl dX12_laysOrder_5 ?_
  refine z_sipush (v := 199) ok dX12_laysOrder_8 (by decide) ?_
  refine z_iald ok kc_183 dX12_laysOrder_11 hf (fun v11 hf => ?_)
  refine z_imul ok dX12_laysOrder_12 ?_
  refine z_iadd ok dX12_laysOrder_13 ?_
  refine z_nm hf (fun v14 hf => ?_)
  refine z_istore (lv' := [(4, .int v14), (0, .ref (X.ad 171)), (1, .int x1), (2, .int x2), (3, .int x3)]) ok dX12_laysOrder_14 (by decide) rfl ?_
  refine z_aload_n ok dX12_laysOrder_16 1 rfl ?_
  refine z_getr (q := 183) ok kc_171 zc_12 hin_12 20 (by decide) fl_12_71 rfl dX12_laysOrder_17 ?_
  refine z_iload ok dX12_laysOrder_20 0 rfl ?_
  refine z_iload_n ok dX12_laysOrder_22 2 rfl ?_
  refine z_iast ok kc_183 dX12_laysOrder_23 hf (fun σ23 hf => ?_)
  refine z_aload_n ok dX12_laysOrder_24 1 rfl ?_
  refine z_getr (q := 183) ok kc_171 zc_12 hin_12 20 (by decide) fl_12_71 rfl dX12_laysOrder_25 ?_
  refine z_iload ok dX12_laysOrder_28 0 rfl ?_
  refine z_iconst (v := 1) ok dX12_laysOrder_30 (by decide) ?_
  refine z_iadd ok dX12_laysOrder_31 ?_
  refine z_iload_n ok dX12_laysOrder_32 3 rfl ?_
  refine z_iast ok kc_183 dX12_laysOrder_33 hf (fun σ33 hf => ?_)
  refine z_aload_n ok dX12_laysOrder_34 1 rfl ?_
  refine z_getr (q := 183) ok kc_171 zc_12 hin_12 20 (by decide) fl_12_71 rfl dX12_laysOrder_35 ?_
  refine z_iload ok dX12_laysOrder_38 0 rfl ?_
  refine z_iconst (v := 2) ok dX12_laysOrder_40 (by decide) ?_
  refine z_iadd ok dX12_laysOrder_41 ?_
  refine z_iload_n ok dX12_laysOrder_42 4 rfl ?_
  refine z_iast ok kc_183 dX12_laysOrder_43 hf (fun σ43 hf => ?_)
  refine z_aload_n ok dX12_laysOrder_44 1 rfl ?_
  refine z_getr (q := 183) ok kc_171 zc_12 hin_12 20 (by decide) fl_12_71 rfl dX12_laysOrder_45 ?_
  refine z_sipush (v := 199) ok dX12_laysOrder_48 (by decide) ?_
  refine z_dup2 ok dX12_laysOrder_51 rfl rfl ?_
  refine z_iald ok kc_183 dX12_laysOrder_52 hf (fun v52 hf => ?_)
  refine z_iconst (v := 1) ok dX12_laysOrder_53 (by decide) ?_
  refine z_iadd ok dX12_laysOrder_54 ?_
  refine z_iast ok kc_183 dX12_laysOrder_55 hf (fun σ55 hf => ?_)
  obtain rfl := Option.some.inj hf
  exact hk _ _ dX12_laysOrder_56
theorem c_M_laysOrder {σ : Sg} {x1 : Int32} {x2 : Int32} {x3 : Int32} {r : Sg} (h : M_laysOrder σ x1 x2 x3 = some r) : ZcV yX12_laysOrder cX12_laysOrder 5 rm_M_laysOrder 198 (fun ad => [.ref (ad 171), .int x1, .int x2, .int x3]) σ r :=
  zmetV pn_12 rfl (fun _ => rfl) (fun _ => Nat.le_of_ble_eq_true rfl) (fun X Q ok hk => t_M_laysOrder ok h hk)
theorem dX12_fits_0 : decode cX12_fits 0 = .ok (.aload_n 0, 1) := by decide +kernel
theorem dX12_fits_1 : decode cX12_fits 1 = .ok (.iload_n 1, 1) := by decide +kernel
theorem dX12_fits_2 : decode cX12_fits 2 = .ok (.invokevirtual 324, 3) := by decide +kernel
theorem dX12_fits_5 : decode cX12_fits 5 = .ok (.ifCond .eq 26, 3) := by decide +kernel
theorem dX12_fits_8 : decode cX12_fits 8 = .ok (.iload_n 2, 1) := by decide +kernel
theorem dX12_fits_9 : decode cX12_fits 9 = .ok (.iconst 1, 1) := by decide +kernel
theorem dX12_fits_10 : decode cX12_fits 10 = .ok (.bipush 99, 2) := by decide +kernel
theorem dX12_fits_12 : decode cX12_fits 12 = .ok (.invokestatic 198, 3) := by decide +kernel
theorem dX12_fits_15 : decode cX12_fits 15 = .ok (.ifCond .eq 16, 3) := by decide +kernel
theorem dX12_fits_18 : decode cX12_fits 18 = .ok (.aload_n 0, 1) := by decide +kernel
theorem dX12_fits_19 : decode cX12_fits 19 = .ok (.getfield 71, 3) := by decide +kernel
theorem dX12_fits_22 : decode cX12_fits 22 = .ok (.sipush 199, 3) := by decide +kernel
theorem dX12_fits_25 : decode cX12_fits 25 = .ok (.iaload, 1) := by decide +kernel
theorem dX12_fits_26 : decode cX12_fits 26 = .ok (.bipush 16, 2) := by decide +kernel
theorem dX12_fits_28 : decode cX12_fits 28 = .ok (.if_icmp .ne 5, 3) := by decide +kernel
theorem dX12_fits_31 : decode cX12_fits 31 = .ok (.iconst (-1), 1) := by decide +kernel
theorem dX12_fits_32 : decode cX12_fits 32 = .ok (.ireturn, 1) := by decide +kernel
theorem dX12_fits_33 : decode cX12_fits 33 = .ok (.aload_n 0, 1) := by decide +kernel
theorem dX12_fits_34 : decode cX12_fits 34 = .ok (.iconst (-1), 1) := by decide +kernel
theorem dX12_fits_35 : decode cX12_fits 35 = .ok (.sipush 200, 3) := by decide +kernel
theorem dX12_fits_38 : decode cX12_fits 38 = .ok (.invokevirtual 361, 3) := by decide +kernel
theorem dX12_fits_41 : decode cX12_fits 41 = .ok (.istore_n 3, 1) := by decide +kernel
theorem dX12_fits_42 : decode cX12_fits 42 = .ok (.iconst (-1), 1) := by decide +kernel
theorem dX12_fits_43 : decode cX12_fits 43 = .ok (.istore 4, 2) := by decide +kernel
theorem dX12_fits_45 : decode cX12_fits 45 = .ok (.aload_n 0, 1) := by decide +kernel
theorem dX12_fits_46 : decode cX12_fits 46 = .ok (.getfield 71, 3) := by decide +kernel
theorem dX12_fits_49 : decode cX12_fits 49 = .ok (.sipush 196, 3) := by decide +kernel
theorem dX12_fits_52 : decode cX12_fits 52 = .ok (.iaload, 1) := by decide +kernel
theorem dX12_fits_53 : decode cX12_fits 53 = .ok (.istore 5, 2) := by decide +kernel
theorem dX12_fits_55 : decode cX12_fits 55 = .ok (.iload 5, 2) := by decide +kernel
theorem dX12_fits_57 : decode cX12_fits 57 = .ok (.aload_n 0, 1) := by decide +kernel
theorem dX12_fits_58 : decode cX12_fits 58 = .ok (.getfield 71, 3) := by decide +kernel
theorem dX12_fits_61 : decode cX12_fits 61 = .ok (.sipush 196, 3) := by decide +kernel
theorem dX12_fits_64 : decode cX12_fits 64 = .ok (.iaload, 1) := by decide +kernel
theorem dX12_fits_65 : decode cX12_fits 65 = .ok (.bipush 60, 2) := by decide +kernel
theorem dX12_fits_67 : decode cX12_fits 67 = .ok (.iadd, 1) := by decide +kernel
theorem dX12_fits_68 : decode cX12_fits 68 = .ok (.if_icmp .ge 55, 3) := by decide +kernel
theorem dX12_fits_71 : decode cX12_fits 71 = .ok (.iload 4, 2) := by decide +kernel
theorem dX12_fits_73 : decode cX12_fits 73 = .ok (.iconst (-1), 1) := by decide +kernel
theorem dX12_fits_74 : decode cX12_fits 74 = .ok (.if_icmp .ne 49, 3) := by decide +kernel
theorem dX12_fits_77 : decode cX12_fits 77 = .ok (.aload_n 0, 1) := by decide +kernel
theorem dX12_fits_78 : decode cX12_fits 78 = .ok (.iload_n 1, 1) := by decide +kernel
theorem dX12_fits_79 : decode cX12_fits 79 = .ok (.iload 5, 2) := by decide +kernel
theorem dX12_fits_81 : decode cX12_fits 81 = .ok (.iload_n 2, 1) := by decide +kernel
theorem dX12_fits_82 : decode cX12_fits 82 = .ok (.invokevirtual 368, 3) := by decide +kernel
theorem dX12_fits_85 : decode cX12_fits 85 = .ok (.aload_n 0, 1) := by decide +kernel
theorem dX12_fits_86 : decode cX12_fits 86 = .ok (.iconst (-1), 1) := by decide +kernel
theorem dX12_fits_87 : decode cX12_fits 87 = .ok (.sipush 200, 3) := by decide +kernel
theorem dX12_fits_90 : decode cX12_fits 90 = .ok (.invokevirtual 361, 3) := by decide +kernel
theorem dX12_fits_93 : decode cX12_fits 93 = .ok (.istore 6, 2) := by decide +kernel
theorem dX12_fits_95 : decode cX12_fits 95 = .ok (.aload_n 0, 1) := by decide +kernel
theorem dX12_fits_96 : decode cX12_fits 96 = .ok (.getfield 71, 3) := by decide +kernel
theorem dX12_fits_99 : decode cX12_fits 99 = .ok (.sipush 199, 3) := by decide +kernel
theorem dX12_fits_102 : decode cX12_fits 102 = .ok (.dup2, 1) := by decide +kernel
theorem dX12_fits_103 : decode cX12_fits 103 = .ok (.iaload, 1) := by decide +kernel
theorem dX12_fits_104 : decode cX12_fits 104 = .ok (.iconst 1, 1) := by decide +kernel
theorem dX12_fits_105 : decode cX12_fits 105 = .ok (.isub, 1) := by decide +kernel
theorem dX12_fits_106 : decode cX12_fits 106 = .ok (.iastore, 1) := by decide +kernel
theorem dX12_fits_107 : decode cX12_fits 107 = .ok (.iload 6, 2) := by decide +kernel
theorem dX12_fits_109 : decode cX12_fits 109 = .ok (.iload_n 3, 1) := by decide +kernel
theorem dX12_fits_110 : decode cX12_fits 110 = .ok (.if_icmp .gt 7, 3) := by decide +kernel
theorem dX12_fits_113 : decode cX12_fits 113 = .ok (.iload 5, 2) := by decide +kernel
theorem dX12_fits_115 : decode cX12_fits 115 = .ok (.istore 4, 2) := by decide +kernel
theorem dX12_fits_117 : decode cX12_fits 117 = .ok (.iinc 5 1, 3) := by decide +kernel
theorem dX12_fits_120 : decode cX12_fits 120 = .ok (.goto (-65), 3) := by decide +kernel
theorem dX12_fits_123 : decode cX12_fits 123 = .ok (.iload 4, 2) := by decide +kernel
theorem dX12_fits_125 : decode cX12_fits 125 = .ok (.ireturn, 1) := by decide +kernel
abbrev rm_M_fits : Room := { frames := 11, cells := 0, slots := 0, locals := 250 }
def M_fits_l55 (σ : Sg) (x1 : Int32) (x2 : Int32) (x3 : Int32) (x4 : Int32) (x5 : Int32) : Option ((Sg × Int32 × Int32) ⊕ (Sg × Int32 × Int32)) :=
  zrd σ 183 1607 196 fun v64 =>
  if (v64 + 60) ≤ x5 then (
    some (.inr (σ, x4, x5))
  ) else (
    if x4 = (-1) then (
      (M_laysOrder σ x1 x5 x2).bind fun r82 =>
      (M_shortIn r82 (-1) 200).bind fun r90 =>
      zlt r90.1 fun v93 =>
      zrd r90.2 183 1607 199 fun v103 =>
      zwr r90.2 183 1607 199 (v103 - 1) fun σ106 =>
      if x3 < v93 then (
        zlt (x5 + 1) fun v117 =>
        some (.inl (σ106, x4, v117))
      ) else (
        zlt (x5 + 1) fun v117 =>
        some (.inl (σ106, x5, v117))
      )
    ) else (
      some (.inr (σ, x4, x5))
    )
  )
set_option maxRecDepth 20000 in
theorem t_M_fits_l55 {X : Zx} {Q : State → Prop} {σ : Sg} {x1 : Int32} {x2 : Int32} {x3 : Int32} {x4 : Int32} {x5 : Int32} (ok : Zok X cX12_fits RX12 rm_M_fits 198 7)  {out : ((Sg × Int32 × Int32) ⊕ (Sg × Int32 × Int32))} (hf : M_fits_l55 σ x1 x2 x3 x4 x5 = some out) (hk : zout (fun (s : (Sg × Int32 × Int32)) => ZAt X Q 0 0 55 s.1 [(0, .ref (X.ad 171)), (1, .int x1), (2, .int x2), (3, .int x3), (4, .int s.2.1), (5, .int s.2.2)] []) (fun (s : (Sg × Int32 × Int32)) => ZAt X Q 0 0 123 s.1 [(4, .int s.2.1)] []) out) : ZAt X Q 0 0 55 σ [(0, .ref (X.ad 171)), (1, .int x1), (2, .int x2), (3, .int x3), (4, .int x4), (5, .int x5)] [] := by
  unfold M_fits_l55 at hf
  refine z_iload ok dX12_fits_55 5 rfl ?_
  refine z_aload_n ok dX12_fits_57 0 rfl ?_
  refine z_getr (q := 183) ok kc_171 zc_12 hin_12 20 (by decide) fl_12_71 rfl dX12_fits_58 ?_
  refine z_sipush (v := 196) ok dX12_fits_61 (by decide) ?_
  refine z_iald ok kc_183 dX12_fits_64 hf (fun v64 hf => ?_)
  refine z_bipush (v := 60) ok dX12_fits_65 (by decide) ?_
  refine z_iadd ok dX12_fits_67 ?_
  refine z_icmp_ge (tgt := 123) ok dX12_fits_68 (by decide) hf (fun _ hf => ?_) (fun _ hf => ?_)
  · obtain rfl := Option.some.inj hf
    exact z_sub [4] rfl hk
  · refine z_iload ok dX12_fits_71 4 rfl ?_
    refine z_iconst (v := (-1)) ok dX12_fits_73 (by decide) ?_
    refine z_icmp_ne (tgt := 123) ok dX12_fits_74 (by decide) hf (fun _ hf => ?_) (fun _ hf => ?_)
    · refine z_aload_n ok dX12_fits_77 0 rfl ?_
      refine z_iload_n ok dX12_fits_78 1 rfl ?_
      refine z_iload ok dX12_fits_79 5 rfl ?_
      refine z_iload_n ok dX12_fits_81 2 rfl ?_
      refine z_call hf (fun r82 h82 hf => ?_)
      refine z_cVv (As := [.int x1, .int x5, .int x2]) (rest := []) (w := 171) ok kc_171 zc_12 (c_M_laysOrder h82) rfl ⟨ml_12_368, w_M_laysOrder⟩ hy_M_laysOrder ⟨rfl, rfl⟩ ⟨Nat.le_of_ble_eq_true rfl, Nat.le_of_ble_eq_true rfl⟩ ⟨Nat.zero_le _, Nat.zero_le _⟩ rfl (Nat.le_of_ble_eq_true rfl) dX12_fits_82 ?_
      refine z_aload_n ok dX12_fits_85 0 rfl ?_
      refine z_iconst (v := (-1)) ok dX12_fits_86 (by decide) ?_
      refine z_sipush (v := 200) ok dX12_fits_87 (by decide) ?_
      refine z_call hf (fun r90 h90 hf => ?_)
      refine z_cV (As := [.int (-1), .int 200]) (rest := []) (w := 171) ok kc_171 zc_12 (c_M_shortIn h90) rfl ⟨ml_12_361, w_M_shortIn⟩ hy_M_shortIn ⟨rfl, rfl⟩ ⟨Nat.le_of_ble_eq_true rfl, Nat.le_of_ble_eq_true rfl⟩ ⟨Nat.zero_le _, Nat.zero_le _⟩ rfl (Nat.le_of_ble_eq_true rfl) dX12_fits_90 ?_
      refine z_nm hf (fun v93 hf => ?_)
      refine z_istore (lv' := [(6, .int v93), (0, .ref (X.ad 171)), (1, .int x1), (2, .int x2), (3, .int x3), (4, .int x4), (5, .int x5)]) ok dX12_fits_93 (by decide) rfl ?_
      refine z_aload_n ok dX12_fits_95 1 rfl ?_
      refine z_getr (q := 183) ok kc_171 zc_12 hin_12 20 (by decide) fl_12_71 rfl dX12_fits_96 ?_
      refine z_sipush (v := 199) ok dX12_fits_99 (by decide) ?_
      refine z_dup2 ok dX12_fits_102 rfl rfl ?_
      refine z_iald ok kc_183 dX12_fits_103 hf (fun v103 hf => ?_)
      refine z_iconst (v := 1) ok dX12_fits_104 (by decide) ?_
      refine z_isub ok dX12_fits_105 ?_
      refine z_iast ok kc_183 dX12_fits_106 hf (fun σ106 hf => ?_)
      refine z_iload ok dX12_fits_107 0 rfl ?_
      refine z_iload_n ok dX12_fits_109 4 rfl ?_
      refine z_icmp_gt (tgt := 117) ok dX12_fits_110 (by decide) hf (fun _ hf => ?_) (fun _ hf => ?_)
      · refine z_iinc (w := 1) (lv' := fun v117 => [(5, .int v117), (6, .int v93), (0, .ref (X.ad 171)), (1, .int x1), (2, .int x2), (3, .int x3), (4, .int x4)]) ok dX12_fits_117 6 rfl (by decide) (by decide) (fun _ => rfl) hf (fun v117 hf => ?_)
        refine z_goto (tgt := 55) ok dX12_fits_120 (by decide) ?_
        obtain rfl := Option.some.inj hf
        exact z_sub [2, 3, 4, 5, 6, 0] rfl hk
      · refine z_iload ok dX12_fits_113 6 rfl ?_
        refine z_istore (lv' := [(4, .int x5), (6, .int v93), (0, .ref (X.ad 171)), (1, .int x1), (2, .int x2), (3, .int x3), (5, .int x5)]) ok dX12_fits_115 (by decide) rfl ?_
        refine z_iinc (w := 1) (lv' := fun v117 => [(5, .int v117), (4, .int x5), (6, .int v93), (0, .ref (X.ad 171)), (1, .int x1), (2, .int x2), (3, .int x3)]) ok dX12_fits_117 6 rfl (by decide) (by decide) (fun _ => rfl) hf (fun v117 hf => ?_)
        refine z_goto (tgt := 55) ok dX12_fits_120 (by decide) ?_
        obtain rfl := Option.some.inj hf
        exact z_sub [3, 4, 5, 6, 1, 0] rfl hk
    · obtain rfl := Option.some.inj hf
      exact z_sub [4] rfl hk
def M_fits (σ : Sg) (x1 : Int32) (x2 : Int32) : Option (Int32 × Sg) :=
  (M_isOutlet σ x1).bind fun r2 =>
  if (zb r2) = 0 then (
    some ((-1), σ)
  ) else (
    (M_isIn x2 1 99).bind fun r12 =>
    if (zb r12) = 0 then (
      some ((-1), σ)
    ) else (
      zrd σ 183 1607 199 fun v25 =>
      if v25 = 16 then (
        some ((-1), σ)
      ) else (
        (M_shortIn σ (-1) 200).bind fun r38 =>
        zlt r38.1 fun v41 =>
        zlt (-1) fun v43 =>
        zrd r38.2 183 1607 196 fun v52 =>
        (zit (fun (s : (Sg × Int32 × Int32)) => M_fits_l55 s.1 x1 x2 v41 s.2.1 s.2.2) zFU (r38.2, v43, v52)).bind fun r =>
        some (r.2.1, r.1)
      )
    )
  )
set_option maxRecDepth 20000 in
theorem t_M_fits {X : Zx} {Q : State → Prop} {σ : Sg} {x1 : Int32} {x2 : Int32} (ok : Zok X cX12_fits RX12 rm_M_fits 198 7)  {out : (Int32 × Sg)} (hf : M_fits σ x1 x2 = some out) (hk : ZrI cX12_fits X Q out.1 out.2) : ZAt X Q 0 0 0 σ [(0, .ref (X.ad 171)), (1, .int x1), (2, .int x2)] [] := by
  unfold M_fits at hf
  refine z_aload_n ok dX12_fits_0 0 rfl ?_
  refine z_iload_n ok dX12_fits_1 1 rfl ?_
  refine z_call hf (fun r2 h2 hf => ?_)
  refine z_cV (As := [.int x1]) (rest := []) (w := 171) ok kc_171 zc_12 (c_M_isOutlet h2) rfl ⟨ml_12_324, w_M_isOutlet⟩ hy_M_isOutlet ⟨rfl, rfl⟩ ⟨Nat.le_of_ble_eq_true rfl, Nat.le_of_ble_eq_true rfl⟩ ⟨Nat.zero_le _, Nat.zero_le _⟩ rfl (Nat.le_of_ble_eq_true rfl) dX12_fits_2 ?_
  refine z_if_eq (tgt := 31) ok dX12_fits_5 (by decide) hf (fun _ hf => ?_) (fun _ hf => ?_)
  · refine z_iconst (v := (-1)) ok dX12_fits_31 (by decide) ?_
    obtain rfl := Option.some.inj hf
    exact hk _ _ dX12_fits_32
  · refine z_iload_n ok dX12_fits_8 2 rfl ?_
    refine z_iconst (v := 1) ok dX12_fits_9 (by decide) ?_
    refine z_bipush (v := 99) ok dX12_fits_10 (by decide) ?_
    refine z_call hf (fun r12 h12 hf => ?_)
    refine z_cS (As := [.int x2, .int 1, .int 99]) (rest := []) ok (c_M_isIn h12) rfl ⟨ml_12_198, w_M_isIn⟩ hy_M_isIn ⟨rfl, rfl⟩ ⟨Nat.le_of_ble_eq_true rfl, Nat.le_of_ble_eq_true rfl⟩ ⟨Nat.zero_le _, Nat.zero_le _⟩ rfl (Nat.le_of_ble_eq_true rfl) dX12_fits_12 ?_
    refine z_if_eq (tgt := 31) ok dX12_fits_15 (by decide) hf (fun _ hf => ?_) (fun _ hf => ?_)
    · refine z_iconst (v := (-1)) ok dX12_fits_31 (by decide) ?_
      obtain rfl := Option.some.inj hf
      exact hk _ _ dX12_fits_32
    · refine z_aload_n ok dX12_fits_18 0 rfl ?_
      refine z_getr (q := 183) ok kc_171 zc_12 hin_12 20 (by decide) fl_12_71 rfl dX12_fits_19 ?_
      refine z_sipush (v := 199) ok dX12_fits_22 (by decide) ?_
      refine z_iald ok kc_183 dX12_fits_25 hf (fun v25 hf => ?_)
      refine z_bipush (v := 16) ok dX12_fits_26 (by decide) ?_
      refine z_icmp_ne (tgt := 33) ok dX12_fits_28 (by decide) hf (fun _ hf => ?_) (fun _ hf => ?_)
      · refine z_iconst (v := (-1)) ok dX12_fits_31 (by decide) ?_
        obtain rfl := Option.some.inj hf
        exact hk _ _ dX12_fits_32
      · refine z_aload_n ok dX12_fits_33 0 rfl ?_
        refine z_iconst (v := (-1)) ok dX12_fits_34 (by decide) ?_
        refine z_sipush (v := 200) ok dX12_fits_35 (by decide) ?_
        refine z_call hf (fun r38 h38 hf => ?_)
        refine z_cV (As := [.int (-1), .int 200]) (rest := []) (w := 171) ok kc_171 zc_12 (c_M_shortIn h38) rfl ⟨ml_12_361, w_M_shortIn⟩ hy_M_shortIn ⟨rfl, rfl⟩ ⟨Nat.le_of_ble_eq_true rfl, Nat.le_of_ble_eq_true rfl⟩ ⟨Nat.zero_le _, Nat.zero_le _⟩ rfl (Nat.le_of_ble_eq_true rfl) dX12_fits_38 ?_
        refine z_nm hf (fun v41 hf => ?_)
        refine z_istore_n (lv' := [(3, .int v41), (0, .ref (X.ad 171)), (1, .int x1), (2, .int x2)]) ok dX12_fits_41 (by decide) rfl ?_
        refine z_iconst (v := (-1)) ok dX12_fits_42 (by decide) ?_
        refine z_nm hf (fun v43 hf => ?_)
        refine z_istore (lv' := [(4, .int v43), (3, .int v41), (0, .ref (X.ad 171)), (1, .int x1), (2, .int x2)]) ok dX12_fits_43 (by decide) rfl ?_
        refine z_aload_n ok dX12_fits_45 2 rfl ?_
        refine z_getr (q := 183) ok kc_171 zc_12 hin_12 20 (by decide) fl_12_71 rfl dX12_fits_46 ?_
        refine z_sipush (v := 196) ok dX12_fits_49 (by decide) ?_
        refine z_iald ok kc_183 dX12_fits_52 hf (fun v52 hf => ?_)
        refine z_istore (lv' := [(5, .int v52), (4, .int v43), (3, .int v41), (0, .ref (X.ad 171)), (1, .int x1), (2, .int x2)]) ok dX12_fits_53 (by decide) rfl ?_
        refine z_call hf (fun r hr hf => ?_)
        refine z_sub [3, 4, 5, 2, 1, 0] rfl (z_iter (fun (s : (Sg × Int32 × Int32)) => s.1) (fun (s : (Sg × Int32 × Int32)) => [(0, .ref (X.ad 171)), (1, .int x1), (2, .int x2), (3, .int v41), (4, .int s.2.1), (5, .int s.2.2)]) (fun s o h1 h2 => t_M_fits_l55 ok h1 h2) _ _ _ hr ?_)
        show ZAt X Q 0 0 123 r.1 [(4, .int r.2.1)] []
        refine z_iload ok dX12_fits_123 0 rfl ?_
        obtain rfl := Option.some.inj hf
        exact hk _ _ dX12_fits_125
theorem c_M_fits {σ : Sg} {x1 : Int32} {x2 : Int32} {r : (Int32 × Sg)} (h : M_fits σ x1 x2 = some r) : ZcI yX12_fits cX12_fits 7 .int rm_M_fits 198 (fun ad => [.ref (ad 171), .int x1, .int x2]) σ r.1 r.2 :=
  zmetI pn_12 rfl (fun _ => rfl) (fun _ => Nat.le_of_ble_eq_true rfl) rfl (fun X Q ok hk => t_M_fits ok h hk)
theorem dX12_see_0 : decode cX12_see 0 = .ok (.aload_n 0, 1) := by decide +kernel
theorem dX12_see_1 : decode cX12_see 1 = .ok (.invokevirtual 245, 3) := by decide +kernel
theorem dX12_see_4 : decode cX12_see 4 = .ok (.istore_n 2, 1) := by decide +kernel
theorem dX12_see_5 : decode cX12_see 5 = .ok (.aload_n 0, 1) := by decide +kernel
theorem dX12_see_6 : decode cX12_see 6 = .ok (.iload_n 1, 1) := by decide +kernel
theorem dX12_see_7 : decode cX12_see 7 = .ok (.invokevirtual 321, 3) := by decide +kernel
theorem dX12_see_10 : decode cX12_see 10 = .ok (.ifCond .eq 23, 3) := by decide +kernel
theorem dX12_see_13 : decode cX12_see 13 = .ok (.iload_n 2, 1) := by decide +kernel
theorem dX12_see_14 : decode cX12_see 14 = .ok (.ifCond .le 19, 3) := by decide +kernel
theorem dX12_see_17 : decode cX12_see 17 = .ok (.iload_n 2, 1) := by decide +kernel
theorem dX12_see_18 : decode cX12_see 18 = .ok (.iconst 3, 1) := by decide +kernel
theorem dX12_see_19 : decode cX12_see 19 = .ok (.irem, 1) := by decide +kernel
theorem dX12_see_20 : decode cX12_see 20 = .ok (.ifCond .ne 13, 3) := by decide +kernel
theorem dX12_see_23 : decode cX12_see 23 = .ok (.iload_n 2, 1) := by decide +kernel
theorem dX12_see_24 : decode cX12_see 24 = .ok (.bipush 30, 2) := by decide +kernel
theorem dX12_see_26 : decode cX12_see 26 = .ok (.if_icmp .gt 7, 3) := by decide +kernel
theorem dX12_see_29 : decode cX12_see 29 = .ok (.iconst 1, 1) := by decide +kernel
theorem dX12_see_30 : decode cX12_see 30 = .ok (.goto 4, 3) := by decide +kernel
theorem dX12_see_33 : decode cX12_see 33 = .ok (.iconst 0, 1) := by decide +kernel
theorem dX12_see_34 : decode cX12_see 34 = .ok (.istore_n 3, 1) := by decide +kernel
theorem dX12_see_35 : decode cX12_see 35 = .ok (.iconst 0, 1) := by decide +kernel
theorem dX12_see_36 : decode cX12_see 36 = .ok (.istore 4, 2) := by decide +kernel
theorem dX12_see_38 : decode cX12_see 38 = .ok (.iload 4, 2) := by decide +kernel
theorem dX12_see_40 : decode cX12_see 40 = .ok (.iload_n 2, 1) := by decide +kernel
theorem dX12_see_41 : decode cX12_see 41 = .ok (.if_icmp .ge 27, 3) := by decide +kernel
theorem dX12_see_44 : decode cX12_see 44 = .ok (.iload_n 3, 1) := by decide +kernel
theorem dX12_see_45 : decode cX12_see 45 = .ok (.ifCond .eq 23, 3) := by decide +kernel
theorem dX12_see_48 : decode cX12_see 48 = .ok (.aload_n 0, 1) := by decide +kernel
theorem dX12_see_49 : decode cX12_see 49 = .ok (.getfield 93, 3) := by decide +kernel
theorem dX12_see_52 : decode cX12_see 52 = .ok (.iload 4, 2) := by decide +kernel
theorem dX12_see_54 : decode cX12_see 54 = .ok (.iaload, 1) := by decide +kernel
theorem dX12_see_55 : decode cX12_see 55 = .ok (.iconst 1, 1) := by decide +kernel
theorem dX12_see_56 : decode cX12_see 56 = .ok (.bipush 40, 2) := by decide +kernel
theorem dX12_see_58 : decode cX12_see 58 = .ok (.invokestatic 198, 3) := by decide +kernel
theorem dX12_see_61 : decode cX12_see 61 = .ok (.istore_n 3, 1) := by decide +kernel
theorem dX12_see_62 : decode cX12_see 62 = .ok (.iinc 4 3, 3) := by decide +kernel
theorem dX12_see_65 : decode cX12_see 65 = .ok (.goto (-27), 3) := by decide +kernel
theorem dX12_see_68 : decode cX12_see 68 = .ok (.iload_n 3, 1) := by decide +kernel
theorem dX12_see_69 : decode cX12_see 69 = .ok (.ifCond .ne 9, 3) := by decide +kernel
theorem dX12_see_72 : decode cX12_see 72 = .ok (.aload_n 0, 1) := by decide +kernel
theorem dX12_see_73 : decode cX12_see 73 = .ok (.iconst 5, 1) := by decide +kernel
theorem dX12_see_74 : decode cX12_see 74 = .ok (.invokevirtual 159, 3) := by decide +kernel
theorem dX12_see_77 : decode cX12_see 77 = .ok (.ireturn, 1) := by decide +kernel
theorem dX12_see_78 : decode cX12_see 78 = .ok (.aload_n 0, 1) := by decide +kernel
theorem dX12_see_79 : decode cX12_see 79 = .ok (.iload_n 1, 1) := by decide +kernel
theorem dX12_see_80 : decode cX12_see 80 = .ok (.putfield 144, 3) := by decide +kernel
theorem dX12_see_83 : decode cX12_see 83 = .ok (.aload_n 0, 1) := by decide +kernel
theorem dX12_see_84 : decode cX12_see 84 = .ok (.iload_n 2, 1) := by decide +kernel
theorem dX12_see_85 : decode cX12_see 85 = .ok (.iconst 3, 1) := by decide +kernel
theorem dX12_see_86 : decode cX12_see 86 = .ok (.idiv, 1) := by decide +kernel
theorem dX12_see_87 : decode cX12_see 87 = .ok (.putfield 141, 3) := by decide +kernel
theorem dX12_see_90 : decode cX12_see 90 = .ok (.iconst 0, 1) := by decide +kernel
theorem dX12_see_91 : decode cX12_see 91 = .ok (.istore 4, 2) := by decide +kernel
theorem dX12_see_93 : decode cX12_see 93 = .ok (.iload 4, 2) := by decide +kernel
theorem dX12_see_95 : decode cX12_see 95 = .ok (.aload_n 0, 1) := by decide +kernel
theorem dX12_see_96 : decode cX12_see 96 = .ok (.getfield 141, 3) := by decide +kernel
theorem dX12_see_99 : decode cX12_see 99 = .ok (.if_icmp .ge 59, 3) := by decide +kernel
theorem dX12_see_102 : decode cX12_see 102 = .ok (.aload_n 0, 1) := by decide +kernel
theorem dX12_see_103 : decode cX12_see 103 = .ok (.getfield 147, 3) := by decide +kernel
theorem dX12_see_106 : decode cX12_see 106 = .ok (.iload 4, 2) := by decide +kernel
theorem dX12_see_108 : decode cX12_see 108 = .ok (.aload_n 0, 1) := by decide +kernel
theorem dX12_see_109 : decode cX12_see 109 = .ok (.getfield 93, 3) := by decide +kernel
theorem dX12_see_112 : decode cX12_see 112 = .ok (.iconst 3, 1) := by decide +kernel
theorem dX12_see_113 : decode cX12_see 113 = .ok (.iload 4, 2) := by decide +kernel
theorem dX12_see_115 : decode cX12_see 115 = .ok (.imul, 1) := by decide +kernel
theorem dX12_see_116 : decode cX12_see 116 = .ok (.iaload, 1) := by decide +kernel
theorem dX12_see_117 : decode cX12_see 117 = .ok (.iastore, 1) := by decide +kernel
theorem dX12_see_118 : decode cX12_see 118 = .ok (.aload_n 0, 1) := by decide +kernel
theorem dX12_see_119 : decode cX12_see 119 = .ok (.getfield 150, 3) := by decide +kernel
theorem dX12_see_122 : decode cX12_see 122 = .ok (.iload 4, 2) := by decide +kernel
theorem dX12_see_124 : decode cX12_see 124 = .ok (.aload_n 0, 1) := by decide +kernel
theorem dX12_see_125 : decode cX12_see 125 = .ok (.getfield 93, 3) := by decide +kernel
theorem dX12_see_128 : decode cX12_see 128 = .ok (.iconst 3, 1) := by decide +kernel
theorem dX12_see_129 : decode cX12_see 129 = .ok (.iload 4, 2) := by decide +kernel
theorem dX12_see_131 : decode cX12_see 131 = .ok (.imul, 1) := by decide +kernel
theorem dX12_see_132 : decode cX12_see 132 = .ok (.iconst 1, 1) := by decide +kernel
theorem dX12_see_133 : decode cX12_see 133 = .ok (.iadd, 1) := by decide +kernel
theorem dX12_see_134 : decode cX12_see 134 = .ok (.iaload, 1) := by decide +kernel
theorem dX12_see_135 : decode cX12_see 135 = .ok (.sipush 256, 3) := by decide +kernel
theorem dX12_see_138 : decode cX12_see 138 = .ok (.imul, 1) := by decide +kernel
theorem dX12_see_139 : decode cX12_see 139 = .ok (.aload_n 0, 1) := by decide +kernel
theorem dX12_see_140 : decode cX12_see 140 = .ok (.getfield 93, 3) := by decide +kernel
theorem dX12_see_143 : decode cX12_see 143 = .ok (.iconst 3, 1) := by decide +kernel
theorem dX12_see_144 : decode cX12_see 144 = .ok (.iload 4, 2) := by decide +kernel
theorem dX12_see_146 : decode cX12_see 146 = .ok (.imul, 1) := by decide +kernel
theorem dX12_see_147 : decode cX12_see 147 = .ok (.iconst 2, 1) := by decide +kernel
theorem dX12_see_148 : decode cX12_see 148 = .ok (.iadd, 1) := by decide +kernel
theorem dX12_see_149 : decode cX12_see 149 = .ok (.iaload, 1) := by decide +kernel
theorem dX12_see_150 : decode cX12_see 150 = .ok (.iadd, 1) := by decide +kernel
theorem dX12_see_151 : decode cX12_see 151 = .ok (.iastore, 1) := by decide +kernel
theorem dX12_see_152 : decode cX12_see 152 = .ok (.iinc 4 1, 3) := by decide +kernel
theorem dX12_see_155 : decode cX12_see 155 = .ok (.goto (-62), 3) := by decide +kernel
theorem dX12_see_158 : decode cX12_see 158 = .ok (.aload_n 0, 1) := by decide +kernel
theorem dX12_see_159 : decode cX12_see 159 = .ok (.getfield 141, 3) := by decide +kernel
theorem dX12_see_162 : decode cX12_see 162 = .ok (.ireturn, 1) := by decide +kernel
abbrev rm_M_see : Room := { frames := 2, cells := 0, slots := 0, locals := 43 }
def M_see_l38 (σ : Sg) (x1 : Int32) (x2 : Int32) (x3 : Int32) (x4 : Int32) : Option ((Int32 × Int32) ⊕ (Int32 × Int32)) :=
  if x2 ≤ x4 then (
    some (.inr (x3, x4))
  ) else (
    if x3 = 0 then (
      some (.inr (x3, x4))
    ) else (
      zrd σ 186 1600 x4 fun v54 =>
      (M_isIn v54 1 40).bind fun r58 =>
      zlt (zb r58) fun v61 =>
      zlt (x4 + 3) fun v62 =>
      some (.inl (v61, v62))
    )
  )
set_option maxRecDepth 20000 in
theorem t_M_see_l38 {X : Zx} {Q : State → Prop} {σ : Sg} {x1 : Int32} {x2 : Int32} {x3 : Int32} {x4 : Int32} (ok : Zok X cX12_see RX12 rm_M_see 198 5)  {out : ((Int32 × Int32) ⊕ (Int32 × Int32))} (hf : M_see_l38 σ x1 x2 x3 x4 = some out) (hk : zout (fun (s : (Int32 × Int32)) => ZAt X Q 0 0 38 σ [(0, .ref (X.ad 171)), (1, .int x1), (2, .int x2), (3, .int s.1), (4, .int s.2)] []) (fun (s : (Int32 × Int32)) => ZAt X Q 0 0 68 σ [(0, .ref (X.ad 171)), (1, .int x1), (2, .int x2), (3, .int s.1)] []) out) : ZAt X Q 0 0 38 σ [(0, .ref (X.ad 171)), (1, .int x1), (2, .int x2), (3, .int x3), (4, .int x4)] [] := by
  unfold M_see_l38 at hf
  refine z_iload ok dX12_see_38 4 rfl ?_
  refine z_iload_n ok dX12_see_40 2 rfl ?_
  refine z_icmp_ge (tgt := 68) ok dX12_see_41 (by decide) hf (fun _ hf => ?_) (fun _ hf => ?_)
  · obtain rfl := Option.some.inj hf
    exact z_sub [0, 1, 2, 3] rfl hk
  · refine z_iload_n ok dX12_see_44 3 rfl ?_
    refine z_if_eq (tgt := 68) ok dX12_see_45 (by decide) hf (fun _ hf => ?_) (fun _ hf => ?_)
    · obtain rfl := Option.some.inj hf
      exact z_sub [0, 1, 2, 3] rfl hk
    · refine z_aload_n ok dX12_see_48 0 rfl ?_
      refine z_getr (q := 186) ok kc_171 zc_12 hin_12 27 (by decide) fl_12_93 rfl dX12_see_49 ?_
      refine z_iload ok dX12_see_52 4 rfl ?_
      refine z_iald ok kc_186 dX12_see_54 hf (fun v54 hf => ?_)
      refine z_iconst (v := 1) ok dX12_see_55 (by decide) ?_
      refine z_bipush (v := 40) ok dX12_see_56 (by decide) ?_
      refine z_call hf (fun r58 h58 hf => ?_)
      refine z_cS (As := [.int v54, .int 1, .int 40]) (rest := []) ok (c_M_isIn h58) rfl ⟨ml_12_198, w_M_isIn⟩ hy_M_isIn ⟨rfl, rfl⟩ ⟨Nat.le_of_ble_eq_true rfl, Nat.le_of_ble_eq_true rfl⟩ ⟨Nat.zero_le _, Nat.zero_le _⟩ rfl (Nat.le_of_ble_eq_true rfl) dX12_see_58 ?_
      refine z_nm hf (fun v61 hf => ?_)
      refine z_istore_n (lv' := [(3, .int v61), (0, .ref (X.ad 171)), (1, .int x1), (2, .int x2), (4, .int x4)]) ok dX12_see_61 (by decide) rfl ?_
      refine z_iinc (w := 3) (lv' := fun v62 => [(4, .int v62), (3, .int v61), (0, .ref (X.ad 171)), (1, .int x1), (2, .int x2)]) ok dX12_see_62 4 rfl (by decide) (by decide) (fun _ => rfl) hf (fun v62 hf => ?_)
      refine z_goto (tgt := 38) ok dX12_see_65 (by decide) ?_
      obtain rfl := Option.some.inj hf
      exact z_sub [2, 3, 4, 1, 0] rfl hk
def M_see_l93 (σ : Sg) (x4 : Int32) : Option ((Sg × Int32) ⊕ (Sg × Int32)) :=
  zgt σ 171 43 fun v96 =>
  if v96 ≤ x4 then (
    some (.inr (σ, x4))
  ) else (
    zrd σ 186 1600 (3 * x4) fun v116 =>
    zwr σ 194 10 x4 v116 fun σ117 =>
    zrd σ117 186 1600 ((3 * x4) + 1) fun v134 =>
    zrd σ117 186 1600 ((3 * x4) + 2) fun v149 =>
    zwr σ117 195 10 x4 ((v134 * 256) + v149) fun σ151 =>
    zlt (x4 + 1) fun v152 =>
    some (.inl (σ151, v152))
  )
set_option maxRecDepth 20000 in
theorem t_M_see_l93 {X : Zx} {Q : State → Prop} {σ : Sg} {x4 : Int32} (ok : Zok X cX12_see RX12 rm_M_see 198 5)  {out : ((Sg × Int32) ⊕ (Sg × Int32))} (hf : M_see_l93 σ x4 = some out) (hk : zout (fun (s : (Sg × Int32)) => ZAt X Q 0 0 93 s.1 [(0, .ref (X.ad 171)), (4, .int s.2)] []) (fun (s : (Sg × Int32)) => ZAt X Q 0 0 158 s.1 [(0, .ref (X.ad 171))] []) out) : ZAt X Q 0 0 93 σ [(0, .ref (X.ad 171)), (4, .int x4)] [] := by
  unfold M_see_l93 at hf
  refine z_iload ok dX12_see_93 1 rfl ?_
  refine z_aload_n ok dX12_see_95 0 rfl ?_
  refine z_geti ok kc_171 zc_12 hin_12 43 (by decide) fl_12_141 rfl dX12_see_96 hf (fun v96 hf => ?_)
  refine z_icmp_ge (tgt := 158) ok dX12_see_99 (by decide) hf (fun _ hf => ?_) (fun _ hf => ?_)
  · obtain rfl := Option.some.inj hf
    exact z_sub [0] rfl hk
  · refine z_aload_n ok dX12_see_102 0 rfl ?_
    refine z_getr (q := 194) ok kc_171 zc_12 hin_12 45 (by decide) fl_12_147 rfl dX12_see_103 ?_
    refine z_iload ok dX12_see_106 1 rfl ?_
    refine z_aload_n ok dX12_see_108 0 rfl ?_
    refine z_getr (q := 186) ok kc_171 zc_12 hin_12 27 (by decide) fl_12_93 rfl dX12_see_109 ?_
    refine z_iconst (v := 3) ok dX12_see_112 (by decide) ?_
    refine z_iload ok dX12_see_113 1 rfl ?_
    refine z_imul ok dX12_see_115 ?_
    refine z_iald ok kc_186 dX12_see_116 hf (fun v116 hf => ?_)
    refine z_iast ok kc_194 dX12_see_117 hf (fun σ117 hf => ?_)
    refine z_aload_n ok dX12_see_118 0 rfl ?_
    refine z_getr (q := 195) ok kc_171 zc_12 hin_12 46 (by decide) fl_12_150 rfl dX12_see_119 ?_
    refine z_iload ok dX12_see_122 1 rfl ?_
    refine z_aload_n ok dX12_see_124 0 rfl ?_
    refine z_getr (q := 186) ok kc_171 zc_12 hin_12 27 (by decide) fl_12_93 rfl dX12_see_125 ?_
    refine z_iconst (v := 3) ok dX12_see_128 (by decide) ?_
    refine z_iload ok dX12_see_129 1 rfl ?_
    refine z_imul ok dX12_see_131 ?_
    refine z_iconst (v := 1) ok dX12_see_132 (by decide) ?_
    refine z_iadd ok dX12_see_133 ?_
    refine z_iald ok kc_186 dX12_see_134 hf (fun v134 hf => ?_)
    refine z_sipush (v := 256) ok dX12_see_135 (by decide) ?_
    refine z_imul ok dX12_see_138 ?_
    refine z_aload_n ok dX12_see_139 0 rfl ?_
    refine z_getr (q := 186) ok kc_171 zc_12 hin_12 27 (by decide) fl_12_93 rfl dX12_see_140 ?_
    refine z_iconst (v := 3) ok dX12_see_143 (by decide) ?_
    refine z_iload ok dX12_see_144 1 rfl ?_
    refine z_imul ok dX12_see_146 ?_
    refine z_iconst (v := 2) ok dX12_see_147 (by decide) ?_
    refine z_iadd ok dX12_see_148 ?_
    refine z_iald ok kc_186 dX12_see_149 hf (fun v149 hf => ?_)
    refine z_iadd ok dX12_see_150 ?_
    refine z_iast ok kc_195 dX12_see_151 hf (fun σ151 hf => ?_)
    refine z_iinc (w := 1) (lv' := fun v152 => [(4, .int v152), (0, .ref (X.ad 171))]) ok dX12_see_152 1 rfl (by decide) (by decide) (fun _ => rfl) hf (fun v152 hf => ?_)
    refine z_goto (tgt := 93) ok dX12_see_155 (by decide) ?_
    obtain rfl := Option.some.inj hf
    exact z_sub [1, 0] rfl hk
def M_see_j68 (σ : Sg) (x1 : Int32) (x2 : Int32) (x3 : Int32) : Option (Int32 × Sg) :=
  if x3 = 0 then (
    (M_refuses σ 5).bind fun r74 =>
    some (r74.1, r74.2)
  ) else (
    zpt σ 171 44 x1 fun σ80 =>
    zpt σ80 171 43 (x2 / 3) fun σ87 =>
    zlt 0 fun v91 =>
    (zit (fun (s : (Sg × Int32)) => M_see_l93 s.1 s.2) zFU (σ87, v91)).bind fun r =>
    zgt r.1 171 43 fun v159 =>
    some (v159, r.1)
  )
set_option maxRecDepth 20000 in
theorem t_M_see_j68 {X : Zx} {Q : State → Prop} {σ : Sg} {x1 : Int32} {x2 : Int32} {x3 : Int32} (ok : Zok X cX12_see RX12 rm_M_see 198 5)  {out : (Int32 × Sg)} (hf : M_see_j68 σ x1 x2 x3 = some out) (hk : ZrI cX12_see X Q out.1 out.2) : ZAt X Q 0 0 68 σ [(0, .ref (X.ad 171)), (1, .int x1), (2, .int x2), (3, .int x3)] [] := by
  unfold M_see_j68 at hf
  refine z_iload_n ok dX12_see_68 3 rfl ?_
  refine z_if_ne (tgt := 78) ok dX12_see_69 (by decide) hf (fun _ hf => ?_) (fun _ hf => ?_)
  · refine z_aload_n ok dX12_see_72 0 rfl ?_
    refine z_iconst (v := 5) ok dX12_see_73 (by decide) ?_
    refine z_call hf (fun r74 h74 hf => ?_)
    refine z_cV (As := [.int 5]) (rest := []) (w := 171) ok kc_171 zc_12 (c_M_refuses h74) rfl ⟨ml_12_159, w_M_refuses⟩ hy_M_refuses ⟨rfl, rfl⟩ ⟨Nat.le_of_ble_eq_true rfl, Nat.le_of_ble_eq_true rfl⟩ ⟨Nat.zero_le _, Nat.zero_le _⟩ rfl (Nat.le_of_ble_eq_true rfl) dX12_see_74 ?_
    obtain rfl := Option.some.inj hf
    exact hk _ _ dX12_see_77
  · refine z_aload_n ok dX12_see_78 0 rfl ?_
    refine z_iload_n ok dX12_see_79 1 rfl ?_
    refine z_puti ok kc_171 zc_12 hin_12 tyX12 tyX12_ok nmX12 44 (by decide) fl_12_144 rfl rfl (tyX12_ok 44 (by decide)) dX12_see_80 hf (fun σ80 hf => ?_)
    refine z_aload_n ok dX12_see_83 0 rfl ?_
    refine z_iload_n ok dX12_see_84 2 rfl ?_
    refine z_iconst (v := 3) ok dX12_see_85 (by decide) ?_
    refine z_idivc ok dX12_see_86 (by decide) ?_
    refine z_puti ok kc_171 zc_12 hin_12 tyX12 tyX12_ok nmX12 43 (by decide) fl_12_141 rfl rfl (tyX12_ok 43 (by decide)) dX12_see_87 hf (fun σ87 hf => ?_)
    refine z_iconst (v := 0) ok dX12_see_90 (by decide) ?_
    refine z_nm hf (fun v91 hf => ?_)
    refine z_istore (lv' := [(4, .int v91), (0, .ref (X.ad 171)), (1, .int x1), (2, .int x2), (3, .int x3)]) ok dX12_see_91 (by decide) rfl ?_
    refine z_call hf (fun r hr hf => ?_)
    refine z_sub [1, 0] rfl (z_iter (fun (s : (Sg × Int32)) => s.1) (fun (s : (Sg × Int32)) => [(0, .ref (X.ad 171)), (4, .int s.2)]) (fun s o h1 h2 => t_M_see_l93 ok h1 h2) _ _ _ hr ?_)
    show ZAt X Q 0 0 158 r.1 [(0, .ref (X.ad 171))] []
    refine z_aload_n ok dX12_see_158 0 rfl ?_
    refine z_geti ok kc_171 zc_12 hin_12 43 (by decide) fl_12_141 rfl dX12_see_159 hf (fun v159 hf => ?_)
    obtain rfl := Option.some.inj hf
    exact hk _ _ dX12_see_162
def M_see_j34 (σ : Sg) (x1 : Int32) (x2 : Int32) (s0 : Int32) : Option (Int32 × Sg) :=
  zlt 0 fun v36 =>
  (zit (fun (s : (Int32 × Int32)) => M_see_l38 σ x1 x2 s.1 s.2) zFU (s0, v36)).bind fun r =>
  M_see_j68 σ x1 x2 r.1
set_option maxRecDepth 20000 in
theorem t_M_see_j34 {X : Zx} {Q : State → Prop} {σ : Sg} {x1 : Int32} {x2 : Int32} {s0 : Int32} (ok : Zok X cX12_see RX12 rm_M_see 198 5)  {out : (Int32 × Sg)} (hf : M_see_j34 σ x1 x2 s0 = some out) (hk : ZrI cX12_see X Q out.1 out.2) : ZAt X Q 0 0 34 σ [(0, .ref (X.ad 171)), (1, .int x1), (2, .int x2)] [.int s0] := by
  unfold M_see_j34 at hf
  refine z_istore_n (lv' := [(3, .int s0), (0, .ref (X.ad 171)), (1, .int x1), (2, .int x2)]) ok dX12_see_34 (by decide) rfl ?_
  refine z_iconst (v := 0) ok dX12_see_35 (by decide) ?_
  refine z_nm hf (fun v36 hf => ?_)
  refine z_istore (lv' := [(4, .int v36), (3, .int s0), (0, .ref (X.ad 171)), (1, .int x1), (2, .int x2)]) ok dX12_see_36 (by decide) rfl ?_
  refine z_call hf (fun r hr hf => ?_)
  refine z_sub [2, 3, 4, 1, 0] rfl (z_iter (fun (s : (Int32 × Int32)) => σ) (fun (s : (Int32 × Int32)) => [(0, .ref (X.ad 171)), (1, .int x1), (2, .int x2), (3, .int s.1), (4, .int s.2)]) (fun s o h1 h2 => t_M_see_l38 ok h1 h2) _ _ _ hr ?_)
  show ZAt X Q 0 0 68 σ [(0, .ref (X.ad 171)), (1, .int x1), (2, .int x2), (3, .int r.1)] []
  exact z_sub [0, 1, 2, 3] rfl (t_M_see_j68 ok hf hk)
def M_see_j33 (σ : Sg) (x1 : Int32) (x2 : Int32) : Option (Int32 × Sg) :=
  M_see_j34 σ x1 x2 0
set_option maxRecDepth 20000 in
theorem t_M_see_j33 {X : Zx} {Q : State → Prop} {σ : Sg} {x1 : Int32} {x2 : Int32} (ok : Zok X cX12_see RX12 rm_M_see 198 5)  {out : (Int32 × Sg)} (hf : M_see_j33 σ x1 x2 = some out) (hk : ZrI cX12_see X Q out.1 out.2) : ZAt X Q 0 0 33 σ [(0, .ref (X.ad 171)), (1, .int x1), (2, .int x2)] [] := by
  unfold M_see_j33 at hf
  refine z_iconst (v := 0) ok dX12_see_33 (by decide) ?_
  exact z_sub [0, 1, 2] rfl (t_M_see_j34 ok hf hk)
def M_see (σ : Sg) (x1 : Int32) : Option (Int32 × Sg) :=
  (M_taken σ).bind fun r1 =>
  zlt r1.1 fun v4 =>
  (M_isPool r1.2 x1).bind fun r7 =>
  if (zb r7) = 0 then (
    M_see_j33 r1.2 x1 v4
  ) else (
    if v4 ≤ 0 then (
      M_see_j33 r1.2 x1 v4
    ) else (
      if (v4 - v4 / 3 * 3) = 0 then (
        if 30 < v4 then (
          M_see_j33 r1.2 x1 v4
        ) else (
          M_see_j34 r1.2 x1 v4 1
        )
      ) else (
        M_see_j33 r1.2 x1 v4
      )
    )
  )
set_option maxRecDepth 20000 in
theorem t_M_see {X : Zx} {Q : State → Prop} {σ : Sg} {x1 : Int32} (ok : Zok X cX12_see RX12 rm_M_see 198 5)  {out : (Int32 × Sg)} (hf : M_see σ x1 = some out) (hk : ZrI cX12_see X Q out.1 out.2) : ZAt X Q 0 0 0 σ [(0, .ref (X.ad 171)), (1, .int x1)] [] := by
  unfold M_see at hf
  refine z_aload_n ok dX12_see_0 0 rfl ?_
  refine z_call hf (fun r1 h1 hf => ?_)
  refine z_cV (As := []) (rest := []) (w := 171) ok kc_171 zc_12 (c_M_taken h1) rfl ⟨ml_12_245, w_M_taken⟩ hy_M_taken ⟨rfl, rfl⟩ ⟨Nat.le_of_ble_eq_true rfl, Nat.le_of_ble_eq_true rfl⟩ ⟨Nat.zero_le _, Nat.zero_le _⟩ rfl (Nat.le_of_ble_eq_true rfl) dX12_see_1 ?_
  refine z_nm hf (fun v4 hf => ?_)
  refine z_istore_n (lv' := [(2, .int v4), (0, .ref (X.ad 171)), (1, .int x1)]) ok dX12_see_4 (by decide) rfl ?_
  refine z_aload_n ok dX12_see_5 1 rfl ?_
  refine z_iload_n ok dX12_see_6 2 rfl ?_
  refine z_call hf (fun r7 h7 hf => ?_)
  refine z_cV (As := [.int x1]) (rest := []) (w := 171) ok kc_171 zc_12 (c_M_isPool h7) rfl ⟨ml_12_321, w_M_isPool⟩ hy_M_isPool ⟨rfl, rfl⟩ ⟨Nat.le_of_ble_eq_true rfl, Nat.le_of_ble_eq_true rfl⟩ ⟨Nat.zero_le _, Nat.zero_le _⟩ rfl (Nat.le_of_ble_eq_true rfl) dX12_see_7 ?_
  refine z_if_eq (tgt := 33) ok dX12_see_10 (by decide) hf (fun _ hf => ?_) (fun _ hf => ?_)
  · exact z_sub [1, 2, 0] rfl (t_M_see_j33 ok hf hk)
  · refine z_iload_n ok dX12_see_13 0 rfl ?_
    refine z_if_le (tgt := 33) ok dX12_see_14 (by decide) hf (fun _ hf => ?_) (fun _ hf => ?_)
    · exact z_sub [1, 2, 0] rfl (t_M_see_j33 ok hf hk)
    · refine z_iload_n ok dX12_see_17 0 rfl ?_
      refine z_iconst (v := 3) ok dX12_see_18 (by decide) ?_
      refine z_iremc ok dX12_see_19 (by decide) ?_
      refine z_if_ne (tgt := 33) ok dX12_see_20 (by decide) hf (fun _ hf => ?_) (fun _ hf => ?_)
      · refine z_iload_n ok dX12_see_23 0 rfl ?_
        refine z_bipush (v := 30) ok dX12_see_24 (by decide) ?_
        refine z_icmp_gt (tgt := 33) ok dX12_see_26 (by decide) hf (fun _ hf => ?_) (fun _ hf => ?_)
        · exact z_sub [1, 2, 0] rfl (t_M_see_j33 ok hf hk)
        · refine z_iconst (v := 1) ok dX12_see_29 (by decide) ?_
          refine z_goto (tgt := 34) ok dX12_see_30 (by decide) ?_
          exact z_sub [1, 2, 0] rfl (t_M_see_j34 ok hf hk)
      · exact z_sub [1, 2, 0] rfl (t_M_see_j33 ok hf hk)
theorem c_M_see {σ : Sg} {x1 : Int32} {r : (Int32 × Sg)} (h : M_see σ x1 = some r) : ZcI yX12_see cX12_see 5 .int rm_M_see 198 (fun ad => [.ref (ad 171), .int x1]) σ r.1 r.2 :=
  zmetI pn_12 rfl (fun _ => rfl) (fun _ => Nat.le_of_ble_eq_true rfl) rfl (fun X Q ok hk => t_M_see ok h hk)
theorem dX12_laysFits_0 : decode cX12_laysFits 0 = .ok (.aload_n 0, 1) := by decide +kernel
theorem dX12_laysFits_1 : decode cX12_laysFits 1 = .ok (.getfield 71, 3) := by decide +kernel
theorem dX12_laysFits_4 : decode cX12_laysFits 4 = .ok (.bipush 24, 2) := by decide +kernel
theorem dX12_laysFits_6 : decode cX12_laysFits 6 = .ok (.aload_n 0, 1) := by decide +kernel
theorem dX12_laysFits_7 : decode cX12_laysFits 7 = .ok (.getfield 144, 3) := by decide +kernel
theorem dX12_laysFits_10 : decode cX12_laysFits 10 = .ok (.iadd, 1) := by decide +kernel
theorem dX12_laysFits_11 : decode cX12_laysFits 11 = .ok (.iaload, 1) := by decide +kernel
theorem dX12_laysFits_12 : decode cX12_laysFits 12 = .ok (.istore_n 1, 1) := by decide +kernel
theorem dX12_laysFits_13 : decode cX12_laysFits 13 = .ok (.iconst 0, 1) := by decide +kernel
theorem dX12_laysFits_14 : decode cX12_laysFits 14 = .ok (.istore_n 2, 1) := by decide +kernel
theorem dX12_laysFits_15 : decode cX12_laysFits 15 = .ok (.iconst 0, 1) := by decide +kernel
theorem dX12_laysFits_16 : decode cX12_laysFits 16 = .ok (.istore_n 3, 1) := by decide +kernel
theorem dX12_laysFits_17 : decode cX12_laysFits 17 = .ok (.iload_n 3, 1) := by decide +kernel
theorem dX12_laysFits_18 : decode cX12_laysFits 18 = .ok (.bipush 40, 2) := by decide +kernel
theorem dX12_laysFits_20 : decode cX12_laysFits 20 = .ok (.if_icmp .gt 141, 3) := by decide +kernel
theorem dX12_laysFits_23 : decode cX12_laysFits 23 = .ok (.aload_n 0, 1) := by decide +kernel
theorem dX12_laysFits_24 : decode cX12_laysFits 24 = .ok (.getfield 71, 3) := by decide +kernel
theorem dX12_laysFits_27 : decode cX12_laysFits 27 = .ok (.bipush 24, 2) := by decide +kernel
theorem dX12_laysFits_29 : decode cX12_laysFits 29 = .ok (.aload_n 0, 1) := by decide +kernel
theorem dX12_laysFits_30 : decode cX12_laysFits 30 = .ok (.getfield 144, 3) := by decide +kernel
theorem dX12_laysFits_33 : decode cX12_laysFits 33 = .ok (.iadd, 1) := by decide +kernel
theorem dX12_laysFits_34 : decode cX12_laysFits 34 = .ok (.iload_n 3, 1) := by decide +kernel
theorem dX12_laysFits_35 : decode cX12_laysFits 35 = .ok (.iastore, 1) := by decide +kernel
theorem dX12_laysFits_36 : decode cX12_laysFits 36 = .ok (.aload_n 0, 1) := by decide +kernel
theorem dX12_laysFits_37 : decode cX12_laysFits 37 = .ok (.invokevirtual 349, 3) := by decide +kernel
theorem dX12_laysFits_40 : decode cX12_laysFits 40 = .ok (.iconst 1, 1) := by decide +kernel
theorem dX12_laysFits_41 : decode cX12_laysFits 41 = .ok (.istore 4, 2) := by decide +kernel
theorem dX12_laysFits_43 : decode cX12_laysFits 43 = .ok (.iload 4, 2) := by decide +kernel
theorem dX12_laysFits_45 : decode cX12_laysFits 45 = .ok (.bipush 40, 2) := by decide +kernel
theorem dX12_laysFits_47 : decode cX12_laysFits 47 = .ok (.if_icmp .gt 36, 3) := by decide +kernel
theorem dX12_laysFits_50 : decode cX12_laysFits 50 = .ok (.aload_n 0, 1) := by decide +kernel
theorem dX12_laysFits_51 : decode cX12_laysFits 51 = .ok (.invokevirtual 346, 3) := by decide +kernel
theorem dX12_laysFits_54 : decode cX12_laysFits 54 = .ok (.aload_n 0, 1) := by decide +kernel
theorem dX12_laysFits_55 : decode cX12_laysFits 55 = .ok (.getfield 153, 3) := by decide +kernel
theorem dX12_laysFits_58 : decode cX12_laysFits 58 = .ok (.bipush 41, 2) := by decide +kernel
theorem dX12_laysFits_60 : decode cX12_laysFits 60 = .ok (.iload_n 3, 1) := by decide +kernel
theorem dX12_laysFits_61 : decode cX12_laysFits 61 = .ok (.imul, 1) := by decide +kernel
theorem dX12_laysFits_62 : decode cX12_laysFits 62 = .ok (.iload 4, 2) := by decide +kernel
theorem dX12_laysFits_64 : decode cX12_laysFits 64 = .ok (.iadd, 1) := by decide +kernel
theorem dX12_laysFits_65 : decode cX12_laysFits 65 = .ok (.aload_n 0, 1) := by decide +kernel
theorem dX12_laysFits_66 : decode cX12_laysFits 66 = .ok (.getfield 71, 3) := by decide +kernel
theorem dX12_laysFits_69 : decode cX12_laysFits 69 = .ok (.iconst 0, 1) := by decide +kernel
theorem dX12_laysFits_70 : decode cX12_laysFits 70 = .ok (.aload_n 0, 1) := by decide +kernel
theorem dX12_laysFits_71 : decode cX12_laysFits 71 = .ok (.getfield 144, 3) := by decide +kernel
theorem dX12_laysFits_74 : decode cX12_laysFits 74 = .ok (.iadd, 1) := by decide +kernel
theorem dX12_laysFits_75 : decode cX12_laysFits 75 = .ok (.iaload, 1) := by decide +kernel
theorem dX12_laysFits_76 : decode cX12_laysFits 76 = .ok (.iastore, 1) := by decide +kernel
theorem dX12_laysFits_77 : decode cX12_laysFits 77 = .ok (.iinc 4 1, 3) := by decide +kernel
theorem dX12_laysFits_80 : decode cX12_laysFits 80 = .ok (.goto (-37), 3) := by decide +kernel
theorem dX12_laysFits_83 : decode cX12_laysFits 83 = .ok (.aload_n 0, 1) := by decide +kernel
theorem dX12_laysFits_84 : decode cX12_laysFits 84 = .ok (.invokevirtual 355, 3) := by decide +kernel
theorem dX12_laysFits_87 : decode cX12_laysFits 87 = .ok (.aload_n 0, 1) := by decide +kernel
theorem dX12_laysFits_88 : decode cX12_laysFits 88 = .ok (.getfield 156, 3) := by decide +kernel
theorem dX12_laysFits_91 : decode cX12_laysFits 91 = .ok (.iload_n 3, 1) := by decide +kernel
theorem dX12_laysFits_92 : decode cX12_laysFits 92 = .ok (.iconst 1, 1) := by decide +kernel
theorem dX12_laysFits_93 : decode cX12_laysFits 93 = .ok (.iastore, 1) := by decide +kernel
theorem dX12_laysFits_94 : decode cX12_laysFits 94 = .ok (.iconst 0, 1) := by decide +kernel
theorem dX12_laysFits_95 : decode cX12_laysFits 95 = .ok (.istore 4, 2) := by decide +kernel
theorem dX12_laysFits_97 : decode cX12_laysFits 97 = .ok (.iload 4, 2) := by decide +kernel
theorem dX12_laysFits_99 : decode cX12_laysFits 99 = .ok (.aload_n 0, 1) := by decide +kernel
theorem dX12_laysFits_100 : decode cX12_laysFits 100 = .ok (.getfield 141, 3) := by decide +kernel
theorem dX12_laysFits_103 : decode cX12_laysFits 103 = .ok (.if_icmp .ge 43, 3) := by decide +kernel
theorem dX12_laysFits_106 : decode cX12_laysFits 106 = .ok (.aload_n 0, 1) := by decide +kernel
theorem dX12_laysFits_107 : decode cX12_laysFits 107 = .ok (.getfield 153, 3) := by decide +kernel
theorem dX12_laysFits_110 : decode cX12_laysFits 110 = .ok (.bipush 41, 2) := by decide +kernel
theorem dX12_laysFits_112 : decode cX12_laysFits 112 = .ok (.iload_n 3, 1) := by decide +kernel
theorem dX12_laysFits_113 : decode cX12_laysFits 113 = .ok (.imul, 1) := by decide +kernel
theorem dX12_laysFits_114 : decode cX12_laysFits 114 = .ok (.aload_n 0, 1) := by decide +kernel
theorem dX12_laysFits_115 : decode cX12_laysFits 115 = .ok (.getfield 147, 3) := by decide +kernel
theorem dX12_laysFits_118 : decode cX12_laysFits 118 = .ok (.iload 4, 2) := by decide +kernel
theorem dX12_laysFits_120 : decode cX12_laysFits 120 = .ok (.iaload, 1) := by decide +kernel
theorem dX12_laysFits_121 : decode cX12_laysFits 121 = .ok (.iadd, 1) := by decide +kernel
theorem dX12_laysFits_122 : decode cX12_laysFits 122 = .ok (.iaload, 1) := by decide +kernel
theorem dX12_laysFits_123 : decode cX12_laysFits 123 = .ok (.aload_n 0, 1) := by decide +kernel
theorem dX12_laysFits_124 : decode cX12_laysFits 124 = .ok (.getfield 150, 3) := by decide +kernel
theorem dX12_laysFits_127 : decode cX12_laysFits 127 = .ok (.iload 4, 2) := by decide +kernel
theorem dX12_laysFits_129 : decode cX12_laysFits 129 = .ok (.iaload, 1) := by decide +kernel
theorem dX12_laysFits_130 : decode cX12_laysFits 130 = .ok (.if_icmp .eq 10, 3) := by decide +kernel
theorem dX12_laysFits_133 : decode cX12_laysFits 133 = .ok (.aload_n 0, 1) := by decide +kernel
theorem dX12_laysFits_134 : decode cX12_laysFits 134 = .ok (.getfield 156, 3) := by decide +kernel
theorem dX12_laysFits_137 : decode cX12_laysFits 137 = .ok (.iload_n 3, 1) := by decide +kernel
theorem dX12_laysFits_138 : decode cX12_laysFits 138 = .ok (.iconst 0, 1) := by decide +kernel
theorem dX12_laysFits_139 : decode cX12_laysFits 139 = .ok (.iastore, 1) := by decide +kernel
theorem dX12_laysFits_140 : decode cX12_laysFits 140 = .ok (.iinc 4 1, 3) := by decide +kernel
theorem dX12_laysFits_143 : decode cX12_laysFits 143 = .ok (.goto (-46), 3) := by decide +kernel
theorem dX12_laysFits_146 : decode cX12_laysFits 146 = .ok (.iload_n 2, 1) := by decide +kernel
theorem dX12_laysFits_147 : decode cX12_laysFits 147 = .ok (.aload_n 0, 1) := by decide +kernel
theorem dX12_laysFits_148 : decode cX12_laysFits 148 = .ok (.getfield 156, 3) := by decide +kernel
theorem dX12_laysFits_151 : decode cX12_laysFits 151 = .ok (.iload_n 3, 1) := by decide +kernel
theorem dX12_laysFits_152 : decode cX12_laysFits 152 = .ok (.iaload, 1) := by decide +kernel
theorem dX12_laysFits_153 : decode cX12_laysFits 153 = .ok (.iadd, 1) := by decide +kernel
theorem dX12_laysFits_154 : decode cX12_laysFits 154 = .ok (.istore_n 2, 1) := by decide +kernel
theorem dX12_laysFits_155 : decode cX12_laysFits 155 = .ok (.iinc 3 1, 3) := by decide +kernel
theorem dX12_laysFits_158 : decode cX12_laysFits 158 = .ok (.goto (-141), 3) := by decide +kernel
theorem dX12_laysFits_161 : decode cX12_laysFits 161 = .ok (.aload_n 0, 1) := by decide +kernel
theorem dX12_laysFits_162 : decode cX12_laysFits 162 = .ok (.getfield 71, 3) := by decide +kernel
theorem dX12_laysFits_165 : decode cX12_laysFits 165 = .ok (.bipush 24, 2) := by decide +kernel
theorem dX12_laysFits_167 : decode cX12_laysFits 167 = .ok (.aload_n 0, 1) := by decide +kernel
theorem dX12_laysFits_168 : decode cX12_laysFits 168 = .ok (.getfield 144, 3) := by decide +kernel
theorem dX12_laysFits_171 : decode cX12_laysFits 171 = .ok (.iadd, 1) := by decide +kernel
theorem dX12_laysFits_172 : decode cX12_laysFits 172 = .ok (.iload_n 1, 1) := by decide +kernel
theorem dX12_laysFits_173 : decode cX12_laysFits 173 = .ok (.iastore, 1) := by decide +kernel
theorem dX12_laysFits_174 : decode cX12_laysFits 174 = .ok (.iload_n 2, 1) := by decide +kernel
theorem dX12_laysFits_175 : decode cX12_laysFits 175 = .ok (.ireturn, 1) := by decide +kernel
abbrev rm_M_laysFits : Room := { frames := 9, cells := 0, slots := 0, locals := 204 }
def M_laysFits_l43 (σ : Sg) (x1 : Int32) (x2 : Int32) (x3 : Int32) (x4 : Int32) : Option ((Sg × Int32) ⊕ (Sg × Int32)) :=
  if 40 < x4 then (
    some (.inr (σ, x4))
  ) else (
    (M_stepsOn σ).bind fun r51 =>
    zgt r51 171 44 fun v71 =>
    zrd r51 183 1607 (0 + v71) fun v75 =>
    zwr r51 196 1681 ((41 * x3) + x4) v75 fun σ76 =>
    zlt (x4 + 1) fun v77 =>
    some (.inl (σ76, v77))
  )
set_option maxRecDepth 20000 in
theorem t_M_laysFits_l43 {X : Zx} {Q : State → Prop} {σ : Sg} {x1 : Int32} {x2 : Int32} {x3 : Int32} {x4 : Int32} (ok : Zok X cX12_laysFits RX12 rm_M_laysFits 198 5)  {out : ((Sg × Int32) ⊕ (Sg × Int32))} (hf : M_laysFits_l43 σ x1 x2 x3 x4 = some out) (hk : zout (fun (s : (Sg × Int32)) => ZAt X Q 0 0 43 s.1 [(0, .ref (X.ad 171)), (1, .int x1), (2, .int x2), (3, .int x3), (4, .int s.2)] []) (fun (s : (Sg × Int32)) => ZAt X Q 0 0 83 s.1 [(0, .ref (X.ad 171)), (1, .int x1), (2, .int x2), (3, .int x3)] []) out) : ZAt X Q 0 0 43 σ [(0, .ref (X.ad 171)), (1, .int x1), (2, .int x2), (3, .int x3), (4, .int x4)] [] := by
  unfold M_laysFits_l43 at hf
  refine z_iload ok dX12_laysFits_43 4 rfl ?_
  refine z_bipush (v := 40) ok dX12_laysFits_45 (by decide) ?_
  refine z_icmp_gt (tgt := 83) ok dX12_laysFits_47 (by decide) hf (fun _ hf => ?_) (fun _ hf => ?_)
  · obtain rfl := Option.some.inj hf
    exact z_sub [0, 1, 2, 3] rfl hk
  · refine z_aload_n ok dX12_laysFits_50 0 rfl ?_
    refine z_call hf (fun r51 h51 hf => ?_)
    refine z_cVv (As := []) (rest := []) (w := 171) ok kc_171 zc_12 (c_M_stepsOn h51) rfl ⟨ml_12_346, w_M_stepsOn⟩ hy_M_stepsOn ⟨rfl, rfl⟩ ⟨Nat.le_of_ble_eq_true rfl, Nat.le_of_ble_eq_true rfl⟩ ⟨Nat.zero_le _, Nat.zero_le _⟩ rfl (Nat.le_of_ble_eq_true rfl) dX12_laysFits_51 ?_
    refine z_aload_n ok dX12_laysFits_54 0 rfl ?_
    refine z_getr (q := 196) ok kc_171 zc_12 hin_12 47 (by decide) fl_12_153 rfl dX12_laysFits_55 ?_
    refine z_bipush (v := 41) ok dX12_laysFits_58 (by decide) ?_
    refine z_iload_n ok dX12_laysFits_60 3 rfl ?_
    refine z_imul ok dX12_laysFits_61 ?_
    refine z_iload ok dX12_laysFits_62 4 rfl ?_
    refine z_iadd ok dX12_laysFits_64 ?_
    refine z_aload_n ok dX12_laysFits_65 0 rfl ?_
    refine z_getr (q := 183) ok kc_171 zc_12 hin_12 20 (by decide) fl_12_71 rfl dX12_laysFits_66 ?_
    refine z_iconst (v := 0) ok dX12_laysFits_69 (by decide) ?_
    refine z_aload_n ok dX12_laysFits_70 0 rfl ?_
    refine z_geti ok kc_171 zc_12 hin_12 44 (by decide) fl_12_144 rfl dX12_laysFits_71 hf (fun v71 hf => ?_)
    refine z_iadd ok dX12_laysFits_74 ?_
    refine z_iald ok kc_183 dX12_laysFits_75 hf (fun v75 hf => ?_)
    refine z_iast ok kc_196 dX12_laysFits_76 hf (fun σ76 hf => ?_)
    refine z_iinc (w := 1) (lv' := fun v77 => [(4, .int v77), (0, .ref (X.ad 171)), (1, .int x1), (2, .int x2), (3, .int x3)]) ok dX12_laysFits_77 4 rfl (by decide) (by decide) (fun _ => rfl) hf (fun v77 hf => ?_)
    refine z_goto (tgt := 43) ok dX12_laysFits_80 (by decide) ?_
    obtain rfl := Option.some.inj hf
    exact z_sub [1, 2, 3, 4, 0] rfl hk
def M_laysFits_l97 (σ : Sg) (x1 : Int32) (x2 : Int32) (x3 : Int32) (x4 : Int32) : Option ((Sg × Int32) ⊕ (Sg × Int32)) :=
  zgt σ 171 43 fun v100 =>
  if v100 ≤ x4 then (
    some (.inr (σ, x4))
  ) else (
    zrd σ 194 10 x4 fun v120 =>
    zrd σ 196 1681 ((41 * x3) + v120) fun v122 =>
    zrd σ 195 10 x4 fun v129 =>
    if v122 = v129 then (
      zlt (x4 + 1) fun v140 =>
      some (.inl (σ, v140))
    ) else (
      zwr σ 197 41 x3 0 fun σ139 =>
      zlt (x4 + 1) fun v140 =>
      some (.inl (σ139, v140))
    )
  )
set_option maxRecDepth 20000 in
theorem t_M_laysFits_l97 {X : Zx} {Q : State → Prop} {σ : Sg} {x1 : Int32} {x2 : Int32} {x3 : Int32} {x4 : Int32} (ok : Zok X cX12_laysFits RX12 rm_M_laysFits 198 5)  {out : ((Sg × Int32) ⊕ (Sg × Int32))} (hf : M_laysFits_l97 σ x1 x2 x3 x4 = some out) (hk : zout (fun (s : (Sg × Int32)) => ZAt X Q 0 0 97 s.1 [(0, .ref (X.ad 171)), (1, .int x1), (2, .int x2), (3, .int x3), (4, .int s.2)] []) (fun (s : (Sg × Int32)) => ZAt X Q 0 0 146 s.1 [(0, .ref (X.ad 171)), (1, .int x1), (2, .int x2), (3, .int x3)] []) out) : ZAt X Q 0 0 97 σ [(0, .ref (X.ad 171)), (1, .int x1), (2, .int x2), (3, .int x3), (4, .int x4)] [] := by
  unfold M_laysFits_l97 at hf
  refine z_iload ok dX12_laysFits_97 4 rfl ?_
  refine z_aload_n ok dX12_laysFits_99 0 rfl ?_
  refine z_geti ok kc_171 zc_12 hin_12 43 (by decide) fl_12_141 rfl dX12_laysFits_100 hf (fun v100 hf => ?_)
  refine z_icmp_ge (tgt := 146) ok dX12_laysFits_103 (by decide) hf (fun _ hf => ?_) (fun _ hf => ?_)
  · obtain rfl := Option.some.inj hf
    exact z_sub [0, 1, 2, 3] rfl hk
  · refine z_aload_n ok dX12_laysFits_106 0 rfl ?_
    refine z_getr (q := 196) ok kc_171 zc_12 hin_12 47 (by decide) fl_12_153 rfl dX12_laysFits_107 ?_
    refine z_bipush (v := 41) ok dX12_laysFits_110 (by decide) ?_
    refine z_iload_n ok dX12_laysFits_112 3 rfl ?_
    refine z_imul ok dX12_laysFits_113 ?_
    refine z_aload_n ok dX12_laysFits_114 0 rfl ?_
    refine z_getr (q := 194) ok kc_171 zc_12 hin_12 45 (by decide) fl_12_147 rfl dX12_laysFits_115 ?_
    refine z_iload ok dX12_laysFits_118 4 rfl ?_
    refine z_iald ok kc_194 dX12_laysFits_120 hf (fun v120 hf => ?_)
    refine z_iadd ok dX12_laysFits_121 ?_
    refine z_iald ok kc_196 dX12_laysFits_122 hf (fun v122 hf => ?_)
    refine z_aload_n ok dX12_laysFits_123 0 rfl ?_
    refine z_getr (q := 195) ok kc_171 zc_12 hin_12 46 (by decide) fl_12_150 rfl dX12_laysFits_124 ?_
    refine z_iload ok dX12_laysFits_127 4 rfl ?_
    refine z_iald ok kc_195 dX12_laysFits_129 hf (fun v129 hf => ?_)
    refine z_icmp_eq (tgt := 140) ok dX12_laysFits_130 (by decide) hf (fun _ hf => ?_) (fun _ hf => ?_)
    · refine z_iinc (w := 1) (lv' := fun v140 => [(4, .int v140), (0, .ref (X.ad 171)), (1, .int x1), (2, .int x2), (3, .int x3)]) ok dX12_laysFits_140 4 rfl (by decide) (by decide) (fun _ => rfl) hf (fun v140 hf => ?_)
      refine z_goto (tgt := 97) ok dX12_laysFits_143 (by decide) ?_
      obtain rfl := Option.some.inj hf
      exact z_sub [1, 2, 3, 4, 0] rfl hk
    · refine z_aload_n ok dX12_laysFits_133 0 rfl ?_
      refine z_getr (q := 197) ok kc_171 zc_12 hin_12 48 (by decide) fl_12_156 rfl dX12_laysFits_134 ?_
      refine z_iload_n ok dX12_laysFits_137 3 rfl ?_
      refine z_iconst (v := 0) ok dX12_laysFits_138 (by decide) ?_
      refine z_iast ok kc_197 dX12_laysFits_139 hf (fun σ139 hf => ?_)
      refine z_iinc (w := 1) (lv' := fun v140 => [(4, .int v140), (0, .ref (X.ad 171)), (1, .int x1), (2, .int x2), (3, .int x3)]) ok dX12_laysFits_140 4 rfl (by decide) (by decide) (fun _ => rfl) hf (fun v140 hf => ?_)
      refine z_goto (tgt := 97) ok dX12_laysFits_143 (by decide) ?_
      obtain rfl := Option.some.inj hf
      exact z_sub [1, 2, 3, 4, 0] rfl hk
def M_laysFits_j17_83 (σ : Sg) (x1 : Int32) (x2 : Int32) (x3 : Int32) : Option ((Sg × Int32 × Int32) ⊕ (Sg × Int32 × Int32)) :=
  (M_endsAhead σ).bind fun r84 =>
  zwr r84 197 41 x3 1 fun σ93 =>
  zlt 0 fun v95 =>
  (zit (fun (s : (Sg × Int32)) => M_laysFits_l97 s.1 x1 x2 x3 s.2) zFU (σ93, v95)).bind fun r =>
  zrd r.1 197 41 x3 fun v152 =>
  zlt (x2 + v152) fun v154 =>
  zlt (x3 + 1) fun v155 =>
  some (.inl (r.1, v154, v155))
set_option maxRecDepth 20000 in
theorem t_M_laysFits_j17_83 {X : Zx} {Q : State → Prop} {σ : Sg} {x1 : Int32} {x2 : Int32} {x3 : Int32} (ok : Zok X cX12_laysFits RX12 rm_M_laysFits 198 5)  {out : ((Sg × Int32 × Int32) ⊕ (Sg × Int32 × Int32))} (hf : M_laysFits_j17_83 σ x1 x2 x3 = some out) (hk : zout (fun (s : (Sg × Int32 × Int32)) => ZAt X Q 0 0 17 s.1 [(0, .ref (X.ad 171)), (1, .int x1), (2, .int s.2.1), (3, .int s.2.2)] []) (fun (s : (Sg × Int32 × Int32)) => ZAt X Q 0 0 161 s.1 [(0, .ref (X.ad 171)), (1, .int x1), (2, .int s.2.1)] []) out) : ZAt X Q 0 0 83 σ [(0, .ref (X.ad 171)), (1, .int x1), (2, .int x2), (3, .int x3)] [] := by
  unfold M_laysFits_j17_83 at hf
  refine z_aload_n ok dX12_laysFits_83 0 rfl ?_
  refine z_call hf (fun r84 h84 hf => ?_)
  refine z_cVv (As := []) (rest := []) (w := 171) ok kc_171 zc_12 (c_M_endsAhead h84) rfl ⟨ml_12_355, w_M_endsAhead⟩ hy_M_endsAhead ⟨rfl, rfl⟩ ⟨Nat.le_of_ble_eq_true rfl, Nat.le_of_ble_eq_true rfl⟩ ⟨Nat.zero_le _, Nat.zero_le _⟩ rfl (Nat.le_of_ble_eq_true rfl) dX12_laysFits_84 ?_
  refine z_aload_n ok dX12_laysFits_87 0 rfl ?_
  refine z_getr (q := 197) ok kc_171 zc_12 hin_12 48 (by decide) fl_12_156 rfl dX12_laysFits_88 ?_
  refine z_iload_n ok dX12_laysFits_91 3 rfl ?_
  refine z_iconst (v := 1) ok dX12_laysFits_92 (by decide) ?_
  refine z_iast ok kc_197 dX12_laysFits_93 hf (fun σ93 hf => ?_)
  refine z_iconst (v := 0) ok dX12_laysFits_94 (by decide) ?_
  refine z_nm hf (fun v95 hf => ?_)
  refine z_istore (lv' := [(4, .int v95), (0, .ref (X.ad 171)), (1, .int x1), (2, .int x2), (3, .int x3)]) ok dX12_laysFits_95 (by decide) rfl ?_
  refine z_call hf (fun r hr hf => ?_)
  refine z_sub [1, 2, 3, 4, 0] rfl (z_iter (fun (s : (Sg × Int32)) => s.1) (fun (s : (Sg × Int32)) => [(0, .ref (X.ad 171)), (1, .int x1), (2, .int x2), (3, .int x3), (4, .int s.2)]) (fun s o h1 h2 => t_M_laysFits_l97 ok h1 h2) _ _ _ hr ?_)
  show ZAt X Q 0 0 146 r.1 [(0, .ref (X.ad 171)), (1, .int x1), (2, .int x2), (3, .int x3)] []
  refine z_iload_n ok dX12_laysFits_146 2 rfl ?_
  refine z_aload_n ok dX12_laysFits_147 0 rfl ?_
  refine z_getr (q := 197) ok kc_171 zc_12 hin_12 48 (by decide) fl_12_156 rfl dX12_laysFits_148 ?_
  refine z_iload_n ok dX12_laysFits_151 3 rfl ?_
  refine z_iald ok kc_197 dX12_laysFits_152 hf (fun v152 hf => ?_)
  refine z_iadd ok dX12_laysFits_153 ?_
  refine z_nm hf (fun v154 hf => ?_)
  refine z_istore_n (lv' := [(2, .int v154), (0, .ref (X.ad 171)), (1, .int x1), (3, .int x3)]) ok dX12_laysFits_154 (by decide) rfl ?_
  refine z_iinc (w := 1) (lv' := fun v155 => [(3, .int v155), (2, .int v154), (0, .ref (X.ad 171)), (1, .int x1)]) ok dX12_laysFits_155 3 rfl (by decide) (by decide) (fun _ => rfl) hf (fun v155 hf => ?_)
  refine z_goto (tgt := 17) ok dX12_laysFits_158 (by decide) ?_
  obtain rfl := Option.some.inj hf
  exact z_sub [2, 3, 1, 0] rfl hk
def M_laysFits_l17 (σ : Sg) (x1 : Int32) (x2 : Int32) (x3 : Int32) : Option ((Sg × Int32 × Int32) ⊕ (Sg × Int32 × Int32)) :=
  if 40 < x3 then (
    some (.inr (σ, x2, x3))
  ) else (
    zgt σ 171 44 fun v30 =>
    zwr σ 183 1607 (24 + v30) x3 fun σ35 =>
    (M_beginsAhead σ35).bind fun r37 =>
    zlt 1 fun v41 =>
    (zit (fun (s : (Sg × Int32)) => M_laysFits_l43 s.1 x1 x2 x3 s.2) zFU (r37, v41)).bind fun r =>
    M_laysFits_j17_83 r.1 x1 x2 x3
  )
set_option maxRecDepth 20000 in
theorem t_M_laysFits_l17 {X : Zx} {Q : State → Prop} {σ : Sg} {x1 : Int32} {x2 : Int32} {x3 : Int32} (ok : Zok X cX12_laysFits RX12 rm_M_laysFits 198 5)  {out : ((Sg × Int32 × Int32) ⊕ (Sg × Int32 × Int32))} (hf : M_laysFits_l17 σ x1 x2 x3 = some out) (hk : zout (fun (s : (Sg × Int32 × Int32)) => ZAt X Q 0 0 17 s.1 [(0, .ref (X.ad 171)), (1, .int x1), (2, .int s.2.1), (3, .int s.2.2)] []) (fun (s : (Sg × Int32 × Int32)) => ZAt X Q 0 0 161 s.1 [(0, .ref (X.ad 171)), (1, .int x1), (2, .int s.2.1)] []) out) : ZAt X Q 0 0 17 σ [(0, .ref (X.ad 171)), (1, .int x1), (2, .int x2), (3, .int x3)] [] := by
  unfold M_laysFits_l17 at hf
  refine z_iload_n ok dX12_laysFits_17 3 rfl ?_
  refine z_bipush (v := 40) ok dX12_laysFits_18 (by decide) ?_
  refine z_icmp_gt (tgt := 161) ok dX12_laysFits_20 (by decide) hf (fun _ hf => ?_) (fun _ hf => ?_)
  · obtain rfl := Option.some.inj hf
    exact z_sub [0, 1, 2] rfl hk
  · refine z_aload_n ok dX12_laysFits_23 0 rfl ?_
    refine z_getr (q := 183) ok kc_171 zc_12 hin_12 20 (by decide) fl_12_71 rfl dX12_laysFits_24 ?_
    refine z_bipush (v := 24) ok dX12_laysFits_27 (by decide) ?_
    refine z_aload_n ok dX12_laysFits_29 0 rfl ?_
    refine z_geti ok kc_171 zc_12 hin_12 44 (by decide) fl_12_144 rfl dX12_laysFits_30 hf (fun v30 hf => ?_)
    refine z_iadd ok dX12_laysFits_33 ?_
    refine z_iload_n ok dX12_laysFits_34 3 rfl ?_
    refine z_iast ok kc_183 dX12_laysFits_35 hf (fun σ35 hf => ?_)
    refine z_aload_n ok dX12_laysFits_36 0 rfl ?_
    refine z_call hf (fun r37 h37 hf => ?_)
    refine z_cVv (As := []) (rest := []) (w := 171) ok kc_171 zc_12 (c_M_beginsAhead h37) rfl ⟨ml_12_349, w_M_beginsAhead⟩ hy_M_beginsAhead ⟨rfl, rfl⟩ ⟨Nat.le_of_ble_eq_true rfl, Nat.le_of_ble_eq_true rfl⟩ ⟨Nat.zero_le _, Nat.zero_le _⟩ rfl (Nat.le_of_ble_eq_true rfl) dX12_laysFits_37 ?_
    refine z_iconst (v := 1) ok dX12_laysFits_40 (by decide) ?_
    refine z_nm hf (fun v41 hf => ?_)
    refine z_istore (lv' := [(4, .int v41), (0, .ref (X.ad 171)), (1, .int x1), (2, .int x2), (3, .int x3)]) ok dX12_laysFits_41 (by decide) rfl ?_
    refine z_call hf (fun r hr hf => ?_)
    refine z_sub [1, 2, 3, 4, 0] rfl (z_iter (fun (s : (Sg × Int32)) => s.1) (fun (s : (Sg × Int32)) => [(0, .ref (X.ad 171)), (1, .int x1), (2, .int x2), (3, .int x3), (4, .int s.2)]) (fun s o h1 h2 => t_M_laysFits_l43 ok h1 h2) _ _ _ hr ?_)
    show ZAt X Q 0 0 83 r.1 [(0, .ref (X.ad 171)), (1, .int x1), (2, .int x2), (3, .int x3)] []
    exact z_sub [0, 1, 2, 3] rfl (t_M_laysFits_j17_83 ok hf hk)
def M_laysFits (σ : Sg)  : Option (Int32 × Sg) :=
  zgt σ 171 44 fun v7 =>
  zrd σ 183 1607 (24 + v7) fun v11 =>
  zlt 0 fun v14 =>
  zlt 0 fun v16 =>
  (zit (fun (s : (Sg × Int32 × Int32)) => M_laysFits_l17 s.1 v11 s.2.1 s.2.2) zFU (σ, v14, v16)).bind fun r =>
  zgt r.1 171 44 fun v168 =>
  zwr r.1 183 1607 (24 + v168) v11 fun σ173 =>
  some (r.2.1, σ173)
set_option maxRecDepth 20000 in
theorem t_M_laysFits {X : Zx} {Q : State → Prop} {σ : Sg}  (ok : Zok X cX12_laysFits RX12 rm_M_laysFits 198 5)  {out : (Int32 × Sg)} (hf : M_laysFits σ = some out) (hk : ZrI cX12_laysFits X Q out.1 out.2) : ZAt X Q 0 0 0 σ [(0, .ref (X.ad 171))] [] := by
  unfold M_laysFits at hf
  refine z_aload_n ok dX12_laysFits_0 0 rfl ?_
  refine z_getr (q := 183) ok kc_171 zc_12 hin_12 20 (by decide) fl_12_71 rfl dX12_laysFits_1 ?_
  refine z_bipush (v := 24) ok dX12_laysFits_4 (by decide) ?_
  refine z_aload_n ok dX12_laysFits_6 0 rfl ?_
  refine z_geti ok kc_171 zc_12 hin_12 44 (by decide) fl_12_144 rfl dX12_laysFits_7 hf (fun v7 hf => ?_)
  refine z_iadd ok dX12_laysFits_10 ?_
  refine z_iald ok kc_183 dX12_laysFits_11 hf (fun v11 hf => ?_)
  refine z_istore_n (lv' := [(1, .int v11), (0, .ref (X.ad 171))]) ok dX12_laysFits_12 (by decide) rfl ?_
  refine z_iconst (v := 0) ok dX12_laysFits_13 (by decide) ?_
  refine z_nm hf (fun v14 hf => ?_)
  refine z_istore_n (lv' := [(2, .int v14), (1, .int v11), (0, .ref (X.ad 171))]) ok dX12_laysFits_14 (by decide) rfl ?_
  refine z_iconst (v := 0) ok dX12_laysFits_15 (by decide) ?_
  refine z_nm hf (fun v16 hf => ?_)
  refine z_istore_n (lv' := [(3, .int v16), (2, .int v14), (1, .int v11), (0, .ref (X.ad 171))]) ok dX12_laysFits_16 (by decide) rfl ?_
  refine z_call hf (fun r hr hf => ?_)
  refine z_sub [3, 2, 1, 0] rfl (z_iter (fun (s : (Sg × Int32 × Int32)) => s.1) (fun (s : (Sg × Int32 × Int32)) => [(0, .ref (X.ad 171)), (1, .int v11), (2, .int s.2.1), (3, .int s.2.2)]) (fun s o h1 h2 => t_M_laysFits_l17 ok h1 h2) _ _ _ hr ?_)
  show ZAt X Q 0 0 161 r.1 [(0, .ref (X.ad 171)), (1, .int v11), (2, .int r.2.1)] []
  refine z_aload_n ok dX12_laysFits_161 0 rfl ?_
  refine z_getr (q := 183) ok kc_171 zc_12 hin_12 20 (by decide) fl_12_71 rfl dX12_laysFits_162 ?_
  refine z_bipush (v := 24) ok dX12_laysFits_165 (by decide) ?_
  refine z_aload_n ok dX12_laysFits_167 0 rfl ?_
  refine z_geti ok kc_171 zc_12 hin_12 44 (by decide) fl_12_144 rfl dX12_laysFits_168 hf (fun v168 hf => ?_)
  refine z_iadd ok dX12_laysFits_171 ?_
  refine z_iload_n ok dX12_laysFits_172 1 rfl ?_
  refine z_iast ok kc_183 dX12_laysFits_173 hf (fun σ173 hf => ?_)
  refine z_iload_n ok dX12_laysFits_174 2 rfl ?_
  obtain rfl := Option.some.inj hf
  exact hk _ _ dX12_laysFits_175
theorem c_M_laysFits {σ : Sg} {r : (Int32 × Sg)} (h : M_laysFits σ = some r) : ZcI yX12_laysFits cX12_laysFits 5 .int rm_M_laysFits 198 (fun ad => [.ref (ad 171)]) σ r.1 r.2 :=
  zmetI pn_12 rfl (fun _ => rfl) (fun _ => Nat.le_of_ble_eq_true rfl) rfl (fun X Q ok hk => t_M_laysFits ok h hk)
