theorem ml_12_285 : Cond.methodLink RX12 285 yX12_causeOf ∈ zT := zT_of (i := 1869) (by decide +kernel) rfl
theorem ml_12_288 : Cond.methodLink RX12 288 yX12_arrives ∈ zT := zT_of (i := 1841) (by decide +kernel) rfl
theorem ml_12_291 : Cond.methodLink RX12 291 yX12_leaksOut ∈ zT := zT_of (i := 1845) (by decide +kernel) rfl
theorem ml_12_294 : Cond.methodLink RX12 294 yX12_takes ∈ zT := zT_of (i := 1849) (by decide +kernel) rfl
theorem ml_12_297 : Cond.methodLink RX12 297 yX12_passes ∈ zT := zT_of (i := 1853) (by decide +kernel) rfl
theorem ml_12_300 : Cond.methodLink RX12 300 yX12_goesOver ∈ zT := zT_of (i := 1857) (by decide +kernel) rfl
theorem ml_12_303 : Cond.methodLink RX12 303 yX12_moves ∈ zT := zT_of (i := 1861) (by decide +kernel) rfl
theorem ml_12_306 : Cond.methodLink RX12 306 yX12_watches ∈ zT := zT_of (i := 1865) (by decide +kernel) rfl
theorem ml_12_309 : Cond.methodLink RX12 309 yX12_notes ∈ zT := zT_of (i := 1873) (by decide +kernel) rfl
theorem w_M_causeOf : Cond.instanceMethod yX12_causeOf ∈ zT ∧ Cond.selects yX12_causeOf.cls yX12_causeOf yX12_causeOf ∈ zT ∧ Cond.initialized yX12_causeOf.cls ∈ zT ∧ Cond.code yX12_causeOf cX12_causeOf 4 (some .int) ∈ zT := ⟨zT_of (i := 1871) (by decide +kernel) rfl, zT_of (i := 111) (by decide +kernel) rfl, zT_of (i := 135) (by decide +kernel) rfl, zT_of (i := 1872) (by decide +kernel) rfl⟩
theorem hy_M_causeOf : yX12_causeOf.cls ≠ "java/lang/invoke/MethodHandle" ∧ yX12_causeOf.cls ≠ "java/lang/invoke/VarHandle" ∧ (parseMethodDescriptor yX12_causeOf.desc).map (fun d => d.parameters.length) = some 1 := by decide +kernel
theorem w_M_goes : Cond.instanceMethod yX12_goes ∈ zT ∧ Cond.selects yX12_goes.cls yX12_goes yX12_goes ∈ zT ∧ Cond.initialized yX12_goes.cls ∈ zT ∧ Cond.code yX12_goes cX12_goes 2 none ∈ zT := ⟨zT_of (i := 1839) (by decide +kernel) rfl, zT_of (i := 103) (by decide +kernel) rfl, zT_of (i := 135) (by decide +kernel) rfl, zT_of (i := 1840) (by decide +kernel) rfl⟩
theorem hy_M_goes : yX12_goes.cls ≠ "java/lang/invoke/MethodHandle" ∧ yX12_goes.cls ≠ "java/lang/invoke/VarHandle" ∧ (parseMethodDescriptor yX12_goes.desc).map (fun d => d.parameters.length) = some 0 := by decide +kernel
theorem w_M_goesOver : Cond.instanceMethod yX12_goesOver ∈ zT ∧ Cond.selects yX12_goesOver.cls yX12_goesOver yX12_goesOver ∈ zT ∧ Cond.initialized yX12_goesOver.cls ∈ zT ∧ Cond.code yX12_goesOver cX12_goesOver 3 none ∈ zT := ⟨zT_of (i := 1859) (by decide +kernel) rfl, zT_of (i := 108) (by decide +kernel) rfl, zT_of (i := 135) (by decide +kernel) rfl, zT_of (i := 1860) (by decide +kernel) rfl⟩
theorem hy_M_goesOver : yX12_goesOver.cls ≠ "java/lang/invoke/MethodHandle" ∧ yX12_goesOver.cls ≠ "java/lang/invoke/VarHandle" ∧ (parseMethodDescriptor yX12_goesOver.desc).map (fun d => d.parameters.length) = some 1 := by decide +kernel
theorem w_M_leaksOut : Cond.instanceMethod yX12_leaksOut ∈ zT ∧ Cond.selects yX12_leaksOut.cls yX12_leaksOut yX12_leaksOut ∈ zT ∧ Cond.initialized yX12_leaksOut.cls ∈ zT ∧ Cond.code yX12_leaksOut cX12_leaksOut 3 none ∈ zT := ⟨zT_of (i := 1847) (by decide +kernel) rfl, zT_of (i := 105) (by decide +kernel) rfl, zT_of (i := 135) (by decide +kernel) rfl, zT_of (i := 1848) (by decide +kernel) rfl⟩
theorem hy_M_leaksOut : yX12_leaksOut.cls ≠ "java/lang/invoke/MethodHandle" ∧ yX12_leaksOut.cls ≠ "java/lang/invoke/VarHandle" ∧ (parseMethodDescriptor yX12_leaksOut.desc).map (fun d => d.parameters.length) = some 1 := by decide +kernel
theorem w_M_moves : Cond.instanceMethod yX12_moves ∈ zT ∧ Cond.selects yX12_moves.cls yX12_moves yX12_moves ∈ zT ∧ Cond.initialized yX12_moves.cls ∈ zT ∧ Cond.code yX12_moves cX12_moves 4 none ∈ zT := ⟨zT_of (i := 1863) (by decide +kernel) rfl, zT_of (i := 109) (by decide +kernel) rfl, zT_of (i := 135) (by decide +kernel) rfl, zT_of (i := 1864) (by decide +kernel) rfl⟩
theorem hy_M_moves : yX12_moves.cls ≠ "java/lang/invoke/MethodHandle" ∧ yX12_moves.cls ≠ "java/lang/invoke/VarHandle" ∧ (parseMethodDescriptor yX12_moves.desc).map (fun d => d.parameters.length) = some 1 := by decide +kernel
theorem w_M_notes : Cond.instanceMethod yX12_notes ∈ zT ∧ Cond.selects yX12_notes.cls yX12_notes yX12_notes ∈ zT ∧ Cond.initialized yX12_notes.cls ∈ zT ∧ Cond.code yX12_notes cX12_notes 2 none ∈ zT := ⟨zT_of (i := 1875) (by decide +kernel) rfl, zT_of (i := 112) (by decide +kernel) rfl, zT_of (i := 135) (by decide +kernel) rfl, zT_of (i := 1876) (by decide +kernel) rfl⟩
theorem hy_M_notes : yX12_notes.cls ≠ "java/lang/invoke/MethodHandle" ∧ yX12_notes.cls ≠ "java/lang/invoke/VarHandle" ∧ (parseMethodDescriptor yX12_notes.desc).map (fun d => d.parameters.length) = some 0 := by decide +kernel
theorem w_M_passes : Cond.instanceMethod yX12_passes ∈ zT ∧ Cond.selects yX12_passes.cls yX12_passes yX12_passes ∈ zT ∧ Cond.initialized yX12_passes.cls ∈ zT ∧ Cond.code yX12_passes cX12_passes 4 none ∈ zT := ⟨zT_of (i := 1855) (by decide +kernel) rfl, zT_of (i := 107) (by decide +kernel) rfl, zT_of (i := 135) (by decide +kernel) rfl, zT_of (i := 1856) (by decide +kernel) rfl⟩
theorem hy_M_passes : yX12_passes.cls ≠ "java/lang/invoke/MethodHandle" ∧ yX12_passes.cls ≠ "java/lang/invoke/VarHandle" ∧ (parseMethodDescriptor yX12_passes.desc).map (fun d => d.parameters.length) = some 1 := by decide +kernel
theorem w_M_takes : Cond.instanceMethod yX12_takes ∈ zT ∧ Cond.selects yX12_takes.cls yX12_takes yX12_takes ∈ zT ∧ Cond.initialized yX12_takes.cls ∈ zT ∧ Cond.code yX12_takes cX12_takes 4 none ∈ zT := ⟨zT_of (i := 1851) (by decide +kernel) rfl, zT_of (i := 106) (by decide +kernel) rfl, zT_of (i := 135) (by decide +kernel) rfl, zT_of (i := 1852) (by decide +kernel) rfl⟩
theorem hy_M_takes : yX12_takes.cls ≠ "java/lang/invoke/MethodHandle" ∧ yX12_takes.cls ≠ "java/lang/invoke/VarHandle" ∧ (parseMethodDescriptor yX12_takes.desc).map (fun d => d.parameters.length) = some 1 := by decide +kernel
theorem w_M_watches : Cond.instanceMethod yX12_watches ∈ zT ∧ Cond.selects yX12_watches.cls yX12_watches yX12_watches ∈ zT ∧ Cond.initialized yX12_watches.cls ∈ zT ∧ Cond.code yX12_watches cX12_watches 5 none ∈ zT := ⟨zT_of (i := 1867) (by decide +kernel) rfl, zT_of (i := 110) (by decide +kernel) rfl, zT_of (i := 135) (by decide +kernel) rfl, zT_of (i := 1868) (by decide +kernel) rfl⟩
theorem hy_M_watches : yX12_watches.cls ≠ "java/lang/invoke/MethodHandle" ∧ yX12_watches.cls ≠ "java/lang/invoke/VarHandle" ∧ (parseMethodDescriptor yX12_watches.desc).map (fun d => d.parameters.length) = some 1 := by decide +kernel
theorem dX12_leaksOut_0 : decode cX12_leaksOut 0 = .ok (.aload_n 0, 1) := by decide +kernel
theorem dX12_leaksOut_1 : decode cX12_leaksOut 1 = .ok (.getfield 71, 3) := by decide +kernel
theorem dX12_leaksOut_4 : decode cX12_leaksOut 4 = .ok (.bipush 24, 2) := by decide +kernel
theorem dX12_leaksOut_6 : decode cX12_leaksOut 6 = .ok (.iload_n 1, 1) := by decide +kernel
theorem dX12_leaksOut_7 : decode cX12_leaksOut 7 = .ok (.iadd, 1) := by decide +kernel
theorem dX12_leaksOut_8 : decode cX12_leaksOut 8 = .ok (.iaload, 1) := by decide +kernel
theorem dX12_leaksOut_9 : decode cX12_leaksOut 9 = .ok (.aload_n 0, 1) := by decide +kernel
theorem dX12_leaksOut_10 : decode cX12_leaksOut 10 = .ok (.getfield 71, 3) := by decide +kernel
theorem dX12_leaksOut_13 : decode cX12_leaksOut 13 = .ok (.iconst 0, 1) := by decide +kernel
theorem dX12_leaksOut_14 : decode cX12_leaksOut 14 = .ok (.iload_n 1, 1) := by decide +kernel
theorem dX12_leaksOut_15 : decode cX12_leaksOut 15 = .ok (.iadd, 1) := by decide +kernel
theorem dX12_leaksOut_16 : decode cX12_leaksOut 16 = .ok (.iaload, 1) := by decide +kernel
theorem dX12_leaksOut_17 : decode cX12_leaksOut 17 = .ok (.invokestatic 273, 3) := by decide +kernel
theorem dX12_leaksOut_20 : decode cX12_leaksOut 20 = .ok (.istore_n 2, 1) := by decide +kernel
theorem dX12_leaksOut_21 : decode cX12_leaksOut 21 = .ok (.aload_n 0, 1) := by decide +kernel
theorem dX12_leaksOut_22 : decode cX12_leaksOut 22 = .ok (.getfield 71, 3) := by decide +kernel
theorem dX12_leaksOut_25 : decode cX12_leaksOut 25 = .ok (.iconst 0, 1) := by decide +kernel
theorem dX12_leaksOut_26 : decode cX12_leaksOut 26 = .ok (.iload_n 1, 1) := by decide +kernel
theorem dX12_leaksOut_27 : decode cX12_leaksOut 27 = .ok (.iadd, 1) := by decide +kernel
theorem dX12_leaksOut_28 : decode cX12_leaksOut 28 = .ok (.dup2, 1) := by decide +kernel
theorem dX12_leaksOut_29 : decode cX12_leaksOut 29 = .ok (.iaload, 1) := by decide +kernel
theorem dX12_leaksOut_30 : decode cX12_leaksOut 30 = .ok (.iload_n 2, 1) := by decide +kernel
theorem dX12_leaksOut_31 : decode cX12_leaksOut 31 = .ok (.isub, 1) := by decide +kernel
theorem dX12_leaksOut_32 : decode cX12_leaksOut 32 = .ok (.iastore, 1) := by decide +kernel
theorem dX12_leaksOut_33 : decode cX12_leaksOut 33 = .ok (.aload_n 0, 1) := by decide +kernel
theorem dX12_leaksOut_34 : decode cX12_leaksOut 34 = .ok (.getfield 71, 3) := by decide +kernel
theorem dX12_leaksOut_37 : decode cX12_leaksOut 37 = .ok (.sipush 202, 3) := by decide +kernel
theorem dX12_leaksOut_40 : decode cX12_leaksOut 40 = .ok (.dup2, 1) := by decide +kernel
theorem dX12_leaksOut_41 : decode cX12_leaksOut 41 = .ok (.iaload, 1) := by decide +kernel
theorem dX12_leaksOut_42 : decode cX12_leaksOut 42 = .ok (.iload_n 2, 1) := by decide +kernel
theorem dX12_leaksOut_43 : decode cX12_leaksOut 43 = .ok (.iadd, 1) := by decide +kernel
theorem dX12_leaksOut_44 : decode cX12_leaksOut 44 = .ok (.iastore, 1) := by decide +kernel
theorem dX12_leaksOut_45 : decode cX12_leaksOut 45 = .ok (.return_, 1) := by decide +kernel
abbrev rm_M_leaksOut : Room := { frames := 1, cells := 0, slots := 0, locals := 21 }
def M_leaksOut (σ : Sg) (x1 : Int32) : Option Sg :=
  zrd σ 183 1607 (24 + x1) fun v8 =>
  zrd σ 183 1607 (0 + x1) fun v16 =>
  (M_lesser v8 v16).bind fun r17 =>
  zlt r17 fun v20 =>
  zrd σ 183 1607 (0 + x1) fun v29 =>
  zwr σ 183 1607 (0 + x1) (v29 - v20) fun σ32 =>
  zrd σ32 183 1607 202 fun v41 =>
  zwr σ32 183 1607 202 (v41 + v20) fun σ44 =>
  some σ44
set_option maxRecDepth 20000 in
theorem t_M_leaksOut {X : Zx} {Q : State → Prop} {σ : Sg} {x1 : Int32} (ok : Zok X cX12_leaksOut RX12 rm_M_leaksOut 198 3)  {out : Sg} (hf : M_leaksOut σ x1 = some out) (hk : ZrV cX12_leaksOut X Q out) : ZAt X Q 0 0 0 σ [(0, .ref (X.ad 171)), (1, .int x1)] [] := by
  unfold M_leaksOut at hf
  refine z_aload_n ok dX12_leaksOut_0 0 rfl ?_
  refine z_getr (q := 183) ok kc_171 zc_12 hin_12 20 (by decide) fl_12_71 rfl dX12_leaksOut_1 ?_
  refine z_bipush (v := 24) ok dX12_leaksOut_4 (by decide) ?_
  refine z_iload_n ok dX12_leaksOut_6 1 rfl ?_
  refine z_iadd ok dX12_leaksOut_7 ?_
  refine z_iald ok kc_183 dX12_leaksOut_8 hf (fun v8 hf => ?_)
  refine z_aload_n ok dX12_leaksOut_9 0 rfl ?_
  refine z_getr (q := 183) ok kc_171 zc_12 hin_12 20 (by decide) fl_12_71 rfl dX12_leaksOut_10 ?_
  refine z_iconst (v := 0) ok dX12_leaksOut_13 (by decide) ?_
  refine z_iload_n ok dX12_leaksOut_14 1 rfl ?_
  refine z_iadd ok dX12_leaksOut_15 ?_
  refine z_iald ok kc_183 dX12_leaksOut_16 hf (fun v16 hf => ?_)
  refine z_call hf (fun r17 h17 hf => ?_)
  refine z_cS (As := [.int v8, .int v16]) (rest := []) ok (c_M_lesser h17) rfl ⟨ml_12_273, w_M_lesser⟩ hy_M_lesser ⟨rfl, rfl⟩ ⟨Nat.le_of_ble_eq_true rfl, Nat.le_of_ble_eq_true rfl⟩ ⟨Nat.zero_le _, Nat.zero_le _⟩ rfl (Nat.le_of_ble_eq_true rfl) dX12_leaksOut_17 ?_
  refine z_nm hf (fun v20 hf => ?_)
  refine z_istore_n (lv' := [(2, .int v20), (0, .ref (X.ad 171)), (1, .int x1)]) ok dX12_leaksOut_20 (by decide) rfl ?_
  refine z_aload_n ok dX12_leaksOut_21 1 rfl ?_
  refine z_getr (q := 183) ok kc_171 zc_12 hin_12 20 (by decide) fl_12_71 rfl dX12_leaksOut_22 ?_
  refine z_iconst (v := 0) ok dX12_leaksOut_25 (by decide) ?_
  refine z_iload_n ok dX12_leaksOut_26 2 rfl ?_
  refine z_iadd ok dX12_leaksOut_27 ?_
  refine z_dup2 ok dX12_leaksOut_28 rfl rfl ?_
  refine z_iald ok kc_183 dX12_leaksOut_29 hf (fun v29 hf => ?_)
  refine z_iload_n ok dX12_leaksOut_30 0 rfl ?_
  refine z_isub ok dX12_leaksOut_31 ?_
  refine z_iast ok kc_183 dX12_leaksOut_32 hf (fun σ32 hf => ?_)
  refine z_aload_n ok dX12_leaksOut_33 1 rfl ?_
  refine z_getr (q := 183) ok kc_171 zc_12 hin_12 20 (by decide) fl_12_71 rfl dX12_leaksOut_34 ?_
  refine z_sipush (v := 202) ok dX12_leaksOut_37 (by decide) ?_
  refine z_dup2 ok dX12_leaksOut_40 rfl rfl ?_
  refine z_iald ok kc_183 dX12_leaksOut_41 hf (fun v41 hf => ?_)
  refine z_iload_n ok dX12_leaksOut_42 0 rfl ?_
  refine z_iadd ok dX12_leaksOut_43 ?_
  refine z_iast ok kc_183 dX12_leaksOut_44 hf (fun σ44 hf => ?_)
  obtain rfl := Option.some.inj hf
  exact hk _ _ dX12_leaksOut_45
theorem c_M_leaksOut {σ : Sg} {x1 : Int32} {r : Sg} (h : M_leaksOut σ x1 = some r) : ZcV yX12_leaksOut cX12_leaksOut 3 rm_M_leaksOut 198 (fun ad => [.ref (ad 171), .int x1]) σ r :=
  zmetV pn_12 rfl (fun _ => rfl) (fun _ => Nat.le_of_ble_eq_true rfl) (fun X Q ok hk => t_M_leaksOut ok h hk)
theorem dX12_takes_0 : decode cX12_takes 0 = .ok (.aload_n 0, 1) := by decide +kernel
theorem dX12_takes_1 : decode cX12_takes 1 = .ok (.iload_n 1, 1) := by decide +kernel
theorem dX12_takes_2 : decode cX12_takes 2 = .ok (.aload_n 0, 1) := by decide +kernel
theorem dX12_takes_3 : decode cX12_takes 3 = .ok (.getfield 71, 3) := by decide +kernel
theorem dX12_takes_6 : decode cX12_takes 6 = .ok (.sipush 196, 3) := by decide +kernel
theorem dX12_takes_9 : decode cX12_takes 9 = .ok (.iaload, 1) := by decide +kernel
theorem dX12_takes_10 : decode cX12_takes 10 = .ok (.invokevirtual 257, 3) := by decide +kernel
theorem dX12_takes_13 : decode cX12_takes 13 = .ok (.ifCond .ne 4, 3) := by decide +kernel
theorem dX12_takes_16 : decode cX12_takes 16 = .ok (.return_, 1) := by decide +kernel
theorem dX12_takes_17 : decode cX12_takes 17 = .ok (.aload_n 0, 1) := by decide +kernel
theorem dX12_takes_18 : decode cX12_takes 18 = .ok (.iload_n 1, 1) := by decide +kernel
theorem dX12_takes_19 : decode cX12_takes 19 = .ok (.invokevirtual 254, 3) := by decide +kernel
theorem dX12_takes_22 : decode cX12_takes 22 = .ok (.istore_n 2, 1) := by decide +kernel
theorem dX12_takes_23 : decode cX12_takes 23 = .ok (.aload_n 0, 1) := by decide +kernel
theorem dX12_takes_24 : decode cX12_takes 24 = .ok (.iload_n 1, 1) := by decide +kernel
theorem dX12_takes_25 : decode cX12_takes 25 = .ok (.invokevirtual 261, 3) := by decide +kernel
theorem dX12_takes_28 : decode cX12_takes 28 = .ok (.aload_n 0, 1) := by decide +kernel
theorem dX12_takes_29 : decode cX12_takes 29 = .ok (.getfield 71, 3) := by decide +kernel
theorem dX12_takes_32 : decode cX12_takes 32 = .ok (.iconst 0, 1) := by decide +kernel
theorem dX12_takes_33 : decode cX12_takes 33 = .ok (.iload_n 2, 1) := by decide +kernel
theorem dX12_takes_34 : decode cX12_takes 34 = .ok (.iadd, 1) := by decide +kernel
theorem dX12_takes_35 : decode cX12_takes 35 = .ok (.iaload, 1) := by decide +kernel
theorem dX12_takes_36 : decode cX12_takes 36 = .ok (.invokestatic 273, 3) := by decide +kernel
theorem dX12_takes_39 : decode cX12_takes 39 = .ok (.istore_n 3, 1) := by decide +kernel
theorem dX12_takes_40 : decode cX12_takes 40 = .ok (.aload_n 0, 1) := by decide +kernel
theorem dX12_takes_41 : decode cX12_takes 41 = .ok (.getfield 71, 3) := by decide +kernel
theorem dX12_takes_44 : decode cX12_takes 44 = .ok (.iconst 0, 1) := by decide +kernel
theorem dX12_takes_45 : decode cX12_takes 45 = .ok (.iload_n 2, 1) := by decide +kernel
theorem dX12_takes_46 : decode cX12_takes 46 = .ok (.iadd, 1) := by decide +kernel
theorem dX12_takes_47 : decode cX12_takes 47 = .ok (.dup2, 1) := by decide +kernel
theorem dX12_takes_48 : decode cX12_takes 48 = .ok (.iaload, 1) := by decide +kernel
theorem dX12_takes_49 : decode cX12_takes 49 = .ok (.iload_n 3, 1) := by decide +kernel
theorem dX12_takes_50 : decode cX12_takes 50 = .ok (.isub, 1) := by decide +kernel
theorem dX12_takes_51 : decode cX12_takes 51 = .ok (.iastore, 1) := by decide +kernel
theorem dX12_takes_52 : decode cX12_takes 52 = .ok (.aload_n 0, 1) := by decide +kernel
theorem dX12_takes_53 : decode cX12_takes 53 = .ok (.getfield 129, 3) := by decide +kernel
theorem dX12_takes_56 : decode cX12_takes 56 = .ok (.iload_n 2, 1) := by decide +kernel
theorem dX12_takes_57 : decode cX12_takes 57 = .ok (.dup2, 1) := by decide +kernel
theorem dX12_takes_58 : decode cX12_takes 58 = .ok (.iaload, 1) := by decide +kernel
theorem dX12_takes_59 : decode cX12_takes 59 = .ok (.iload_n 3, 1) := by decide +kernel
theorem dX12_takes_60 : decode cX12_takes 60 = .ok (.iadd, 1) := by decide +kernel
theorem dX12_takes_61 : decode cX12_takes 61 = .ok (.iastore, 1) := by decide +kernel
theorem dX12_takes_62 : decode cX12_takes 62 = .ok (.aload_n 0, 1) := by decide +kernel
theorem dX12_takes_63 : decode cX12_takes 63 = .ok (.getfield 71, 3) := by decide +kernel
theorem dX12_takes_66 : decode cX12_takes 66 = .ok (.sipush 128, 3) := by decide +kernel
theorem dX12_takes_69 : decode cX12_takes 69 = .ok (.iload_n 1, 1) := by decide +kernel
theorem dX12_takes_70 : decode cX12_takes 70 = .ok (.iadd, 1) := by decide +kernel
theorem dX12_takes_71 : decode cX12_takes 71 = .ok (.dup2, 1) := by decide +kernel
theorem dX12_takes_72 : decode cX12_takes 72 = .ok (.iaload, 1) := by decide +kernel
theorem dX12_takes_73 : decode cX12_takes 73 = .ok (.iload_n 3, 1) := by decide +kernel
theorem dX12_takes_74 : decode cX12_takes 74 = .ok (.iadd, 1) := by decide +kernel
theorem dX12_takes_75 : decode cX12_takes 75 = .ok (.iastore, 1) := by decide +kernel
theorem dX12_takes_76 : decode cX12_takes 76 = .ok (.aload_n 0, 1) := by decide +kernel
theorem dX12_takes_77 : decode cX12_takes 77 = .ok (.getfield 71, 3) := by decide +kernel
theorem dX12_takes_80 : decode cX12_takes 80 = .ok (.sipush 201, 3) := by decide +kernel
theorem dX12_takes_83 : decode cX12_takes 83 = .ok (.dup2, 1) := by decide +kernel
theorem dX12_takes_84 : decode cX12_takes 84 = .ok (.iaload, 1) := by decide +kernel
theorem dX12_takes_85 : decode cX12_takes 85 = .ok (.iload_n 3, 1) := by decide +kernel
theorem dX12_takes_86 : decode cX12_takes 86 = .ok (.iadd, 1) := by decide +kernel
theorem dX12_takes_87 : decode cX12_takes 87 = .ok (.iastore, 1) := by decide +kernel
theorem dX12_takes_88 : decode cX12_takes 88 = .ok (.aload_n 0, 1) := by decide +kernel
theorem dX12_takes_89 : decode cX12_takes 89 = .ok (.getfield 71, 3) := by decide +kernel
theorem dX12_takes_92 : decode cX12_takes 92 = .ok (.sipush 138, 3) := by decide +kernel
theorem dX12_takes_95 : decode cX12_takes 95 = .ok (.iload_n 1, 1) := by decide +kernel
theorem dX12_takes_96 : decode cX12_takes 96 = .ok (.iadd, 1) := by decide +kernel
theorem dX12_takes_97 : decode cX12_takes 97 = .ok (.dup2, 1) := by decide +kernel
theorem dX12_takes_98 : decode cX12_takes 98 = .ok (.iaload, 1) := by decide +kernel
theorem dX12_takes_99 : decode cX12_takes 99 = .ok (.aload_n 0, 1) := by decide +kernel
theorem dX12_takes_100 : decode cX12_takes 100 = .ok (.iload_n 1, 1) := by decide +kernel
theorem dX12_takes_101 : decode cX12_takes 101 = .ok (.invokevirtual 261, 3) := by decide +kernel
theorem dX12_takes_104 : decode cX12_takes 104 = .ok (.iload_n 3, 1) := by decide +kernel
theorem dX12_takes_105 : decode cX12_takes 105 = .ok (.isub, 1) := by decide +kernel
theorem dX12_takes_106 : decode cX12_takes 106 = .ok (.iadd, 1) := by decide +kernel
theorem dX12_takes_107 : decode cX12_takes 107 = .ok (.iastore, 1) := by decide +kernel
theorem dX12_takes_108 : decode cX12_takes 108 = .ok (.return_, 1) := by decide +kernel
abbrev rm_M_takes : Room := { frames := 2, cells := 0, slots := 0, locals := 46 }
def M_takes (σ : Sg) (x1 : Int32) : Option Sg :=
  zrd σ 183 1607 196 fun v9 =>
  (M_isOpen σ x1 v9).bind fun r10 =>
  if (zb r10) = 0 then (
    some σ
  ) else (
    (M_poolOf σ x1).bind fun r19 =>
    zlt r19 fun v22 =>
    (M_takesOf σ x1).bind fun r25 =>
    zrd σ 183 1607 (0 + v22) fun v35 =>
    (M_lesser r25 v35).bind fun r36 =>
    zlt r36 fun v39 =>
    zrd σ 183 1607 (0 + v22) fun v48 =>
    zwr σ 183 1607 (0 + v22) (v48 - v39) fun σ51 =>
    zrd σ51 190 8 v22 fun v58 =>
    zwr σ51 190 8 v22 (v58 + v39) fun σ61 =>
    zrd σ61 183 1607 (128 + x1) fun v72 =>
    zwr σ61 183 1607 (128 + x1) (v72 + v39) fun σ75 =>
    zrd σ75 183 1607 201 fun v84 =>
    zwr σ75 183 1607 201 (v84 + v39) fun σ87 =>
    zrd σ87 183 1607 (138 + x1) fun v98 =>
    (M_takesOf σ87 x1).bind fun r101 =>
    zwr σ87 183 1607 (138 + x1) (v98 + (r101 - v39)) fun σ107 =>
    some σ107
  )
set_option maxRecDepth 20000 in
theorem t_M_takes {X : Zx} {Q : State → Prop} {σ : Sg} {x1 : Int32} (ok : Zok X cX12_takes RX12 rm_M_takes 198 4)  {out : Sg} (hf : M_takes σ x1 = some out) (hk : ZrV cX12_takes X Q out) : ZAt X Q 0 0 0 σ [(0, .ref (X.ad 171)), (1, .int x1)] [] := by
  unfold M_takes at hf
  refine z_aload_n ok dX12_takes_0 0 rfl ?_
  refine z_iload_n ok dX12_takes_1 1 rfl ?_
  refine z_aload_n ok dX12_takes_2 0 rfl ?_
  refine z_getr (q := 183) ok kc_171 zc_12 hin_12 20 (by decide) fl_12_71 rfl dX12_takes_3 ?_
  refine z_sipush (v := 196) ok dX12_takes_6 (by decide) ?_
  refine z_iald ok kc_183 dX12_takes_9 hf (fun v9 hf => ?_)
  refine z_call hf (fun r10 h10 hf => ?_)
  refine z_cV (As := [.int x1, .int v9]) (rest := []) (w := 171) ok kc_171 zc_12 (c_M_isOpen h10) rfl ⟨ml_12_257, w_M_isOpen⟩ hy_M_isOpen ⟨rfl, rfl⟩ ⟨Nat.le_of_ble_eq_true rfl, Nat.le_of_ble_eq_true rfl⟩ ⟨Nat.zero_le _, Nat.zero_le _⟩ rfl (Nat.le_of_ble_eq_true rfl) dX12_takes_10 ?_
  refine z_if_ne (tgt := 17) ok dX12_takes_13 (by decide) hf (fun _ hf => ?_) (fun _ hf => ?_)
  · obtain rfl := Option.some.inj hf
    exact hk _ _ dX12_takes_16
  · refine z_aload_n ok dX12_takes_17 0 rfl ?_
    refine z_iload_n ok dX12_takes_18 1 rfl ?_
    refine z_call hf (fun r19 h19 hf => ?_)
    refine z_cV (As := [.int x1]) (rest := []) (w := 171) ok kc_171 zc_12 (c_M_poolOf h19) rfl ⟨ml_12_254, w_M_poolOf⟩ hy_M_poolOf ⟨rfl, rfl⟩ ⟨Nat.le_of_ble_eq_true rfl, Nat.le_of_ble_eq_true rfl⟩ ⟨Nat.zero_le _, Nat.zero_le _⟩ rfl (Nat.le_of_ble_eq_true rfl) dX12_takes_19 ?_
    refine z_nm hf (fun v22 hf => ?_)
    refine z_istore_n (lv' := [(2, .int v22), (0, .ref (X.ad 171)), (1, .int x1)]) ok dX12_takes_22 (by decide) rfl ?_
    refine z_aload_n ok dX12_takes_23 1 rfl ?_
    refine z_iload_n ok dX12_takes_24 2 rfl ?_
    refine z_call hf (fun r25 h25 hf => ?_)
    refine z_cV (As := [.int x1]) (rest := []) (w := 171) ok kc_171 zc_12 (c_M_takesOf h25) rfl ⟨ml_12_261, w_M_takesOf⟩ hy_M_takesOf ⟨rfl, rfl⟩ ⟨Nat.le_of_ble_eq_true rfl, Nat.le_of_ble_eq_true rfl⟩ ⟨Nat.zero_le _, Nat.zero_le _⟩ rfl (Nat.le_of_ble_eq_true rfl) dX12_takes_25 ?_
    refine z_aload_n ok dX12_takes_28 1 rfl ?_
    refine z_getr (q := 183) ok kc_171 zc_12 hin_12 20 (by decide) fl_12_71 rfl dX12_takes_29 ?_
    refine z_iconst (v := 0) ok dX12_takes_32 (by decide) ?_
    refine z_iload_n ok dX12_takes_33 0 rfl ?_
    refine z_iadd ok dX12_takes_34 ?_
    refine z_iald ok kc_183 dX12_takes_35 hf (fun v35 hf => ?_)
    refine z_call hf (fun r36 h36 hf => ?_)
    refine z_cS (As := [.int r25, .int v35]) (rest := []) ok (c_M_lesser h36) rfl ⟨ml_12_273, w_M_lesser⟩ hy_M_lesser ⟨rfl, rfl⟩ ⟨Nat.le_of_ble_eq_true rfl, Nat.le_of_ble_eq_true rfl⟩ ⟨Nat.zero_le _, Nat.zero_le _⟩ rfl (Nat.le_of_ble_eq_true rfl) dX12_takes_36 ?_
    refine z_nm hf (fun v39 hf => ?_)
    refine z_istore_n (lv' := [(3, .int v39), (2, .int v22), (0, .ref (X.ad 171)), (1, .int x1)]) ok dX12_takes_39 (by decide) rfl ?_
    refine z_aload_n ok dX12_takes_40 2 rfl ?_
    refine z_getr (q := 183) ok kc_171 zc_12 hin_12 20 (by decide) fl_12_71 rfl dX12_takes_41 ?_
    refine z_iconst (v := 0) ok dX12_takes_44 (by decide) ?_
    refine z_iload_n ok dX12_takes_45 1 rfl ?_
    refine z_iadd ok dX12_takes_46 ?_
    refine z_dup2 ok dX12_takes_47 rfl rfl ?_
    refine z_iald ok kc_183 dX12_takes_48 hf (fun v48 hf => ?_)
    refine z_iload_n ok dX12_takes_49 0 rfl ?_
    refine z_isub ok dX12_takes_50 ?_
    refine z_iast ok kc_183 dX12_takes_51 hf (fun σ51 hf => ?_)
    refine z_aload_n ok dX12_takes_52 2 rfl ?_
    refine z_getr (q := 190) ok kc_171 zc_12 hin_12 39 (by decide) fl_12_129 rfl dX12_takes_53 ?_
    refine z_iload_n ok dX12_takes_56 1 rfl ?_
    refine z_dup2 ok dX12_takes_57 rfl rfl ?_
    refine z_iald ok kc_190 dX12_takes_58 hf (fun v58 hf => ?_)
    refine z_iload_n ok dX12_takes_59 0 rfl ?_
    refine z_iadd ok dX12_takes_60 ?_
    refine z_iast ok kc_190 dX12_takes_61 hf (fun σ61 hf => ?_)
    refine z_aload_n ok dX12_takes_62 2 rfl ?_
    refine z_getr (q := 183) ok kc_171 zc_12 hin_12 20 (by decide) fl_12_71 rfl dX12_takes_63 ?_
    refine z_sipush (v := 128) ok dX12_takes_66 (by decide) ?_
    refine z_iload_n ok dX12_takes_69 3 rfl ?_
    refine z_iadd ok dX12_takes_70 ?_
    refine z_dup2 ok dX12_takes_71 rfl rfl ?_
    refine z_iald ok kc_183 dX12_takes_72 hf (fun v72 hf => ?_)
    refine z_iload_n ok dX12_takes_73 0 rfl ?_
    refine z_iadd ok dX12_takes_74 ?_
    refine z_iast ok kc_183 dX12_takes_75 hf (fun σ75 hf => ?_)
    refine z_aload_n ok dX12_takes_76 2 rfl ?_
    refine z_getr (q := 183) ok kc_171 zc_12 hin_12 20 (by decide) fl_12_71 rfl dX12_takes_77 ?_
    refine z_sipush (v := 201) ok dX12_takes_80 (by decide) ?_
    refine z_dup2 ok dX12_takes_83 rfl rfl ?_
    refine z_iald ok kc_183 dX12_takes_84 hf (fun v84 hf => ?_)
    refine z_iload_n ok dX12_takes_85 0 rfl ?_
    refine z_iadd ok dX12_takes_86 ?_
    refine z_iast ok kc_183 dX12_takes_87 hf (fun σ87 hf => ?_)
    refine z_aload_n ok dX12_takes_88 2 rfl ?_
    refine z_getr (q := 183) ok kc_171 zc_12 hin_12 20 (by decide) fl_12_71 rfl dX12_takes_89 ?_
    refine z_sipush (v := 138) ok dX12_takes_92 (by decide) ?_
    refine z_iload_n ok dX12_takes_95 3 rfl ?_
    refine z_iadd ok dX12_takes_96 ?_
    refine z_dup2 ok dX12_takes_97 rfl rfl ?_
    refine z_iald ok kc_183 dX12_takes_98 hf (fun v98 hf => ?_)
    refine z_aload_n ok dX12_takes_99 2 rfl ?_
    refine z_iload_n ok dX12_takes_100 3 rfl ?_
    refine z_call hf (fun r101 h101 hf => ?_)
    refine z_cV (As := [.int x1]) (rest := [.int v98, .int (138 + x1), .ref (X.ad 183)]) (w := 171) ok kc_171 zc_12 (c_M_takesOf h101) rfl ⟨ml_12_261, w_M_takesOf⟩ hy_M_takesOf ⟨rfl, rfl⟩ ⟨Nat.le_of_ble_eq_true rfl, Nat.le_of_ble_eq_true rfl⟩ ⟨Nat.zero_le _, Nat.zero_le _⟩ rfl (Nat.le_of_ble_eq_true rfl) dX12_takes_101 ?_
    refine z_iload_n ok dX12_takes_104 0 rfl ?_
    refine z_isub ok dX12_takes_105 ?_
    refine z_iadd ok dX12_takes_106 ?_
    refine z_iast ok kc_183 dX12_takes_107 hf (fun σ107 hf => ?_)
    obtain rfl := Option.some.inj hf
    exact hk _ _ dX12_takes_108
theorem c_M_takes {σ : Sg} {x1 : Int32} {r : Sg} (h : M_takes σ x1 = some r) : ZcV yX12_takes cX12_takes 4 rm_M_takes 198 (fun ad => [.ref (ad 171), .int x1]) σ r :=
  zmetV pn_12 rfl (fun _ => rfl) (fun _ => Nat.le_of_ble_eq_true rfl) (fun X Q ok hk => t_M_takes ok h hk)
theorem dX12_passes_0 : decode cX12_passes 0 = .ok (.aload_n 0, 1) := by decide +kernel
theorem dX12_passes_1 : decode cX12_passes 1 = .ok (.getfield 71, 3) := by decide +kernel
theorem dX12_passes_4 : decode cX12_passes 4 = .ok (.bipush 8, 2) := by decide +kernel
theorem dX12_passes_6 : decode cX12_passes 6 = .ok (.iload_n 1, 1) := by decide +kernel
theorem dX12_passes_7 : decode cX12_passes 7 = .ok (.iadd, 1) := by decide +kernel
theorem dX12_passes_8 : decode cX12_passes 8 = .ok (.iaload, 1) := by decide +kernel
theorem dX12_passes_9 : decode cX12_passes 9 = .ok (.iload_n 1, 1) := by decide +kernel
theorem dX12_passes_10 : decode cX12_passes 10 = .ok (.ifCond .ne 14, 3) := by decide +kernel
theorem dX12_passes_13 : decode cX12_passes 13 = .ok (.aload_n 0, 1) := by decide +kernel
theorem dX12_passes_14 : decode cX12_passes 14 = .ok (.getfield 71, 3) := by decide +kernel
theorem dX12_passes_17 : decode cX12_passes 17 = .ok (.sipush 197, 3) := by decide +kernel
theorem dX12_passes_20 : decode cX12_passes 20 = .ok (.iaload, 1) := by decide +kernel
theorem dX12_passes_21 : decode cX12_passes 21 = .ok (.goto 13, 3) := by decide +kernel
theorem dX12_passes_24 : decode cX12_passes 24 = .ok (.aload_n 0, 1) := by decide +kernel
theorem dX12_passes_25 : decode cX12_passes 25 = .ok (.getfield 71, 3) := by decide +kernel
theorem dX12_passes_28 : decode cX12_passes 28 = .ok (.iconst 0, 1) := by decide +kernel
theorem dX12_passes_29 : decode cX12_passes 29 = .ok (.iload_n 1, 1) := by decide +kernel
theorem dX12_passes_30 : decode cX12_passes 30 = .ok (.iadd, 1) := by decide +kernel
theorem dX12_passes_31 : decode cX12_passes 31 = .ok (.iconst 1, 1) := by decide +kernel
theorem dX12_passes_32 : decode cX12_passes 32 = .ok (.isub, 1) := by decide +kernel
theorem dX12_passes_33 : decode cX12_passes 33 = .ok (.iaload, 1) := by decide +kernel
theorem dX12_passes_34 : decode cX12_passes 34 = .ok (.invokestatic 273, 3) := by decide +kernel
theorem dX12_passes_37 : decode cX12_passes 37 = .ok (.istore_n 2, 1) := by decide +kernel
theorem dX12_passes_38 : decode cX12_passes 38 = .ok (.aload_n 0, 1) := by decide +kernel
theorem dX12_passes_39 : decode cX12_passes 39 = .ok (.getfield 138, 3) := by decide +kernel
theorem dX12_passes_42 : decode cX12_passes 42 = .ok (.iload_n 1, 1) := by decide +kernel
theorem dX12_passes_43 : decode cX12_passes 43 = .ok (.iload_n 2, 1) := by decide +kernel
theorem dX12_passes_44 : decode cX12_passes 44 = .ok (.aload_n 0, 1) := by decide +kernel
theorem dX12_passes_45 : decode cX12_passes 45 = .ok (.getfield 71, 3) := by decide +kernel
theorem dX12_passes_48 : decode cX12_passes 48 = .ok (.bipush 8, 2) := by decide +kernel
theorem dX12_passes_50 : decode cX12_passes 50 = .ok (.iload_n 1, 1) := by decide +kernel
theorem dX12_passes_51 : decode cX12_passes 51 = .ok (.iadd, 1) := by decide +kernel
theorem dX12_passes_52 : decode cX12_passes 52 = .ok (.iaload, 1) := by decide +kernel
theorem dX12_passes_53 : decode cX12_passes 53 = .ok (.if_icmp .ge 7, 3) := by decide +kernel
theorem dX12_passes_56 : decode cX12_passes 56 = .ok (.iconst 1, 1) := by decide +kernel
theorem dX12_passes_57 : decode cX12_passes 57 = .ok (.goto 4, 3) := by decide +kernel
theorem dX12_passes_60 : decode cX12_passes 60 = .ok (.iconst 0, 1) := by decide +kernel
theorem dX12_passes_61 : decode cX12_passes 61 = .ok (.iastore, 1) := by decide +kernel
theorem dX12_passes_62 : decode cX12_passes 62 = .ok (.aload_n 0, 1) := by decide +kernel
theorem dX12_passes_63 : decode cX12_passes 63 = .ok (.getfield 71, 3) := by decide +kernel
theorem dX12_passes_66 : decode cX12_passes 66 = .ok (.bipush 120, 2) := by decide +kernel
theorem dX12_passes_68 : decode cX12_passes 68 = .ok (.iload_n 1, 1) := by decide +kernel
theorem dX12_passes_69 : decode cX12_passes 69 = .ok (.iadd, 1) := by decide +kernel
theorem dX12_passes_70 : decode cX12_passes 70 = .ok (.iload_n 2, 1) := by decide +kernel
theorem dX12_passes_71 : decode cX12_passes 71 = .ok (.iastore, 1) := by decide +kernel
theorem dX12_passes_72 : decode cX12_passes 72 = .ok (.iload_n 1, 1) := by decide +kernel
theorem dX12_passes_73 : decode cX12_passes 73 = .ok (.ifCond .ne 18, 3) := by decide +kernel
theorem dX12_passes_76 : decode cX12_passes 76 = .ok (.aload_n 0, 1) := by decide +kernel
theorem dX12_passes_77 : decode cX12_passes 77 = .ok (.getfield 71, 3) := by decide +kernel
theorem dX12_passes_80 : decode cX12_passes 80 = .ok (.sipush 200, 3) := by decide +kernel
theorem dX12_passes_83 : decode cX12_passes 83 = .ok (.dup2, 1) := by decide +kernel
theorem dX12_passes_84 : decode cX12_passes 84 = .ok (.iaload, 1) := by decide +kernel
theorem dX12_passes_85 : decode cX12_passes 85 = .ok (.iload_n 2, 1) := by decide +kernel
theorem dX12_passes_86 : decode cX12_passes 86 = .ok (.iadd, 1) := by decide +kernel
theorem dX12_passes_87 : decode cX12_passes 87 = .ok (.iastore, 1) := by decide +kernel
theorem dX12_passes_88 : decode cX12_passes 88 = .ok (.goto 29, 3) := by decide +kernel
theorem dX12_passes_91 : decode cX12_passes 91 = .ok (.aload_n 0, 1) := by decide +kernel
theorem dX12_passes_92 : decode cX12_passes 92 = .ok (.getfield 71, 3) := by decide +kernel
theorem dX12_passes_95 : decode cX12_passes 95 = .ok (.iconst 0, 1) := by decide +kernel
theorem dX12_passes_96 : decode cX12_passes 96 = .ok (.iload_n 1, 1) := by decide +kernel
theorem dX12_passes_97 : decode cX12_passes 97 = .ok (.iadd, 1) := by decide +kernel
theorem dX12_passes_98 : decode cX12_passes 98 = .ok (.iconst 1, 1) := by decide +kernel
theorem dX12_passes_99 : decode cX12_passes 99 = .ok (.isub, 1) := by decide +kernel
theorem dX12_passes_100 : decode cX12_passes 100 = .ok (.dup2, 1) := by decide +kernel
theorem dX12_passes_101 : decode cX12_passes 101 = .ok (.iaload, 1) := by decide +kernel
theorem dX12_passes_102 : decode cX12_passes 102 = .ok (.iload_n 2, 1) := by decide +kernel
theorem dX12_passes_103 : decode cX12_passes 103 = .ok (.isub, 1) := by decide +kernel
theorem dX12_passes_104 : decode cX12_passes 104 = .ok (.iastore, 1) := by decide +kernel
theorem dX12_passes_105 : decode cX12_passes 105 = .ok (.aload_n 0, 1) := by decide +kernel
theorem dX12_passes_106 : decode cX12_passes 106 = .ok (.getfield 129, 3) := by decide +kernel
theorem dX12_passes_109 : decode cX12_passes 109 = .ok (.iload_n 1, 1) := by decide +kernel
theorem dX12_passes_110 : decode cX12_passes 110 = .ok (.iconst 1, 1) := by decide +kernel
theorem dX12_passes_111 : decode cX12_passes 111 = .ok (.isub, 1) := by decide +kernel
theorem dX12_passes_112 : decode cX12_passes 112 = .ok (.dup2, 1) := by decide +kernel
theorem dX12_passes_113 : decode cX12_passes 113 = .ok (.iaload, 1) := by decide +kernel
theorem dX12_passes_114 : decode cX12_passes 114 = .ok (.iload_n 2, 1) := by decide +kernel
theorem dX12_passes_115 : decode cX12_passes 115 = .ok (.iadd, 1) := by decide +kernel
theorem dX12_passes_116 : decode cX12_passes 116 = .ok (.iastore, 1) := by decide +kernel
theorem dX12_passes_117 : decode cX12_passes 117 = .ok (.aload_n 0, 1) := by decide +kernel
theorem dX12_passes_118 : decode cX12_passes 118 = .ok (.iload_n 1, 1) := by decide +kernel
theorem dX12_passes_119 : decode cX12_passes 119 = .ok (.iconst 3, 1) := by decide +kernel
theorem dX12_passes_120 : decode cX12_passes 120 = .ok (.invokevirtual 251, 3) := by decide +kernel
theorem dX12_passes_123 : decode cX12_passes 123 = .ok (.istore_n 3, 1) := by decide +kernel
theorem dX12_passes_124 : decode cX12_passes 124 = .ok (.iload_n 3, 1) := by decide +kernel
theorem dX12_passes_125 : decode cX12_passes 125 = .ok (.ifCond .le 24, 3) := by decide +kernel
theorem dX12_passes_128 : decode cX12_passes 128 = .ok (.aload_n 0, 1) := by decide +kernel
theorem dX12_passes_129 : decode cX12_passes 129 = .ok (.getfield 71, 3) := by decide +kernel
theorem dX12_passes_132 : decode cX12_passes 132 = .ok (.bipush 40, 2) := by decide +kernel
theorem dX12_passes_134 : decode cX12_passes 134 = .ok (.bipush 10, 2) := by decide +kernel
theorem dX12_passes_136 : decode cX12_passes 136 = .ok (.iload_n 1, 1) := by decide +kernel
theorem dX12_passes_137 : decode cX12_passes 137 = .ok (.imul, 1) := by decide +kernel
theorem dX12_passes_138 : decode cX12_passes 138 = .ok (.iadd, 1) := by decide +kernel
theorem dX12_passes_139 : decode cX12_passes 139 = .ok (.iload_n 3, 1) := by decide +kernel
theorem dX12_passes_140 : decode cX12_passes 140 = .ok (.iadd, 1) := by decide +kernel
theorem dX12_passes_141 : decode cX12_passes 141 = .ok (.iconst 1, 1) := by decide +kernel
theorem dX12_passes_142 : decode cX12_passes 142 = .ok (.isub, 1) := by decide +kernel
theorem dX12_passes_143 : decode cX12_passes 143 = .ok (.dup2, 1) := by decide +kernel
theorem dX12_passes_144 : decode cX12_passes 144 = .ok (.iaload, 1) := by decide +kernel
theorem dX12_passes_145 : decode cX12_passes 145 = .ok (.iload_n 2, 1) := by decide +kernel
theorem dX12_passes_146 : decode cX12_passes 146 = .ok (.iadd, 1) := by decide +kernel
theorem dX12_passes_147 : decode cX12_passes 147 = .ok (.iastore, 1) := by decide +kernel
theorem dX12_passes_148 : decode cX12_passes 148 = .ok (.return_, 1) := by decide +kernel
theorem dX12_passes_149 : decode cX12_passes 149 = .ok (.aload_n 0, 1) := by decide +kernel
theorem dX12_passes_150 : decode cX12_passes 150 = .ok (.getfield 71, 3) := by decide +kernel
theorem dX12_passes_153 : decode cX12_passes 153 = .ok (.iconst 0, 1) := by decide +kernel
theorem dX12_passes_154 : decode cX12_passes 154 = .ok (.iload_n 1, 1) := by decide +kernel
theorem dX12_passes_155 : decode cX12_passes 155 = .ok (.iadd, 1) := by decide +kernel
theorem dX12_passes_156 : decode cX12_passes 156 = .ok (.dup2, 1) := by decide +kernel
theorem dX12_passes_157 : decode cX12_passes 157 = .ok (.iaload, 1) := by decide +kernel
theorem dX12_passes_158 : decode cX12_passes 158 = .ok (.iload_n 2, 1) := by decide +kernel
theorem dX12_passes_159 : decode cX12_passes 159 = .ok (.iadd, 1) := by decide +kernel
theorem dX12_passes_160 : decode cX12_passes 160 = .ok (.iastore, 1) := by decide +kernel
theorem dX12_passes_161 : decode cX12_passes 161 = .ok (.aload_n 0, 1) := by decide +kernel
theorem dX12_passes_162 : decode cX12_passes 162 = .ok (.getfield 126, 3) := by decide +kernel
theorem dX12_passes_165 : decode cX12_passes 165 = .ok (.iload_n 1, 1) := by decide +kernel
theorem dX12_passes_166 : decode cX12_passes 166 = .ok (.dup2, 1) := by decide +kernel
theorem dX12_passes_167 : decode cX12_passes 167 = .ok (.iaload, 1) := by decide +kernel
theorem dX12_passes_168 : decode cX12_passes 168 = .ok (.iload_n 2, 1) := by decide +kernel
theorem dX12_passes_169 : decode cX12_passes 169 = .ok (.iadd, 1) := by decide +kernel
theorem dX12_passes_170 : decode cX12_passes 170 = .ok (.iastore, 1) := by decide +kernel
theorem dX12_passes_171 : decode cX12_passes 171 = .ok (.return_, 1) := by decide +kernel
abbrev rm_M_passes : Room := { frames := 1, cells := 0, slots := 0, locals := 22 }
def M_passes_j117 (σ : Sg) (x1 : Int32) (x2 : Int32) : Option Sg :=
  (M_toldOf σ x1 3).bind fun r120 =>
  zlt r120 fun v123 =>
  if v123 ≤ 0 then (
    zrd σ 183 1607 (0 + x1) fun v157 =>
    zwr σ 183 1607 (0 + x1) (v157 + x2) fun σ160 =>
    zrd σ160 189 8 x1 fun v167 =>
    zwr σ160 189 8 x1 (v167 + x2) fun σ170 =>
    some σ170
  ) else (
    zrd σ 183 1607 (((40 + (10 * x1)) + v123) - 1) fun v144 =>
    zwr σ 183 1607 (((40 + (10 * x1)) + v123) - 1) (v144 + x2) fun σ147 =>
    some σ147
  )
set_option maxRecDepth 20000 in
theorem t_M_passes_j117 {X : Zx} {Q : State → Prop} {σ : Sg} {x1 : Int32} {x2 : Int32} (ok : Zok X cX12_passes RX12 rm_M_passes 198 4)  {out : Sg} (hf : M_passes_j117 σ x1 x2 = some out) (hk : ZrV cX12_passes X Q out) : ZAt X Q 0 0 117 σ [(0, .ref (X.ad 171)), (1, .int x1), (2, .int x2)] [] := by
  unfold M_passes_j117 at hf
  refine z_aload_n ok dX12_passes_117 0 rfl ?_
  refine z_iload_n ok dX12_passes_118 1 rfl ?_
  refine z_iconst (v := 3) ok dX12_passes_119 (by decide) ?_
  refine z_call hf (fun r120 h120 hf => ?_)
  refine z_cV (As := [.int x1, .int 3]) (rest := []) (w := 171) ok kc_171 zc_12 (c_M_toldOf h120) rfl ⟨ml_12_251, w_M_toldOf⟩ hy_M_toldOf ⟨rfl, rfl⟩ ⟨Nat.le_of_ble_eq_true rfl, Nat.le_of_ble_eq_true rfl⟩ ⟨Nat.zero_le _, Nat.zero_le _⟩ rfl (Nat.le_of_ble_eq_true rfl) dX12_passes_120 ?_
  refine z_nm hf (fun v123 hf => ?_)
  refine z_istore_n (lv' := [(3, .int v123), (0, .ref (X.ad 171)), (1, .int x1), (2, .int x2)]) ok dX12_passes_123 (by decide) rfl ?_
  refine z_iload_n ok dX12_passes_124 0 rfl ?_
  refine z_if_le (tgt := 149) ok dX12_passes_125 (by decide) hf (fun _ hf => ?_) (fun _ hf => ?_)
  · refine z_aload_n ok dX12_passes_149 1 rfl ?_
    refine z_getr (q := 183) ok kc_171 zc_12 hin_12 20 (by decide) fl_12_71 rfl dX12_passes_150 ?_
    refine z_iconst (v := 0) ok dX12_passes_153 (by decide) ?_
    refine z_iload_n ok dX12_passes_154 2 rfl ?_
    refine z_iadd ok dX12_passes_155 ?_
    refine z_dup2 ok dX12_passes_156 rfl rfl ?_
    refine z_iald ok kc_183 dX12_passes_157 hf (fun v157 hf => ?_)
    refine z_iload_n ok dX12_passes_158 3 rfl ?_
    refine z_iadd ok dX12_passes_159 ?_
    refine z_iast ok kc_183 dX12_passes_160 hf (fun σ160 hf => ?_)
    refine z_aload_n ok dX12_passes_161 1 rfl ?_
    refine z_getr (q := 189) ok kc_171 zc_12 hin_12 38 (by decide) fl_12_126 rfl dX12_passes_162 ?_
    refine z_iload_n ok dX12_passes_165 2 rfl ?_
    refine z_dup2 ok dX12_passes_166 rfl rfl ?_
    refine z_iald ok kc_189 dX12_passes_167 hf (fun v167 hf => ?_)
    refine z_iload_n ok dX12_passes_168 3 rfl ?_
    refine z_iadd ok dX12_passes_169 ?_
    refine z_iast ok kc_189 dX12_passes_170 hf (fun σ170 hf => ?_)
    obtain rfl := Option.some.inj hf
    exact hk _ _ dX12_passes_171
  · refine z_aload_n ok dX12_passes_128 1 rfl ?_
    refine z_getr (q := 183) ok kc_171 zc_12 hin_12 20 (by decide) fl_12_71 rfl dX12_passes_129 ?_
    refine z_bipush (v := 40) ok dX12_passes_132 (by decide) ?_
    refine z_bipush (v := 10) ok dX12_passes_134 (by decide) ?_
    refine z_iload_n ok dX12_passes_136 2 rfl ?_
    refine z_imul ok dX12_passes_137 ?_
    refine z_iadd ok dX12_passes_138 ?_
    refine z_iload_n ok dX12_passes_139 0 rfl ?_
    refine z_iadd ok dX12_passes_140 ?_
    refine z_iconst (v := 1) ok dX12_passes_141 (by decide) ?_
    refine z_isub ok dX12_passes_142 ?_
    refine z_dup2 ok dX12_passes_143 rfl rfl ?_
    refine z_iald ok kc_183 dX12_passes_144 hf (fun v144 hf => ?_)
    refine z_iload_n ok dX12_passes_145 3 rfl ?_
    refine z_iadd ok dX12_passes_146 ?_
    refine z_iast ok kc_183 dX12_passes_147 hf (fun σ147 hf => ?_)
    obtain rfl := Option.some.inj hf
    exact hk _ _ dX12_passes_148
def M_passes_j61 (σ : Sg) (x1 : Int32) (x2 : Int32) (s1 : Int32) (s2 : Int32) : Option Sg :=
  zwr σ 193 8 s1 s2 fun σ61 =>
  zwr σ61 183 1607 (120 + x1) x2 fun σ71 =>
  if x1 = 0 then (
    zrd σ71 183 1607 200 fun v84 =>
    zwr σ71 183 1607 200 (v84 + x2) fun σ87 =>
    M_passes_j117 σ87 x1 x2
  ) else (
    zrd σ71 183 1607 ((0 + x1) - 1) fun v101 =>
    zwr σ71 183 1607 ((0 + x1) - 1) (v101 - x2) fun σ104 =>
    zrd σ104 190 8 (x1 - 1) fun v113 =>
    zwr σ104 190 8 (x1 - 1) (v113 + x2) fun σ116 =>
    M_passes_j117 σ116 x1 x2
  )
set_option maxRecDepth 20000 in
theorem t_M_passes_j61 {X : Zx} {Q : State → Prop} {σ : Sg} {x1 : Int32} {x2 : Int32} {s1 : Int32} {s2 : Int32} (ok : Zok X cX12_passes RX12 rm_M_passes 198 4)  {out : Sg} (hf : M_passes_j61 σ x1 x2 s1 s2 = some out) (hk : ZrV cX12_passes X Q out) : ZAt X Q 0 0 61 σ [(0, .ref (X.ad 171)), (1, .int x1), (2, .int x2)] [.int s2, .int s1, .ref (X.ad 193)] := by
  unfold M_passes_j61 at hf
  refine z_iast ok kc_193 dX12_passes_61 hf (fun σ61 hf => ?_)
  refine z_aload_n ok dX12_passes_62 0 rfl ?_
  refine z_getr (q := 183) ok kc_171 zc_12 hin_12 20 (by decide) fl_12_71 rfl dX12_passes_63 ?_
  refine z_bipush (v := 120) ok dX12_passes_66 (by decide) ?_
  refine z_iload_n ok dX12_passes_68 1 rfl ?_
  refine z_iadd ok dX12_passes_69 ?_
  refine z_iload_n ok dX12_passes_70 2 rfl ?_
  refine z_iast ok kc_183 dX12_passes_71 hf (fun σ71 hf => ?_)
  refine z_iload_n ok dX12_passes_72 1 rfl ?_
  refine z_if_ne (tgt := 91) ok dX12_passes_73 (by decide) hf (fun _ hf => ?_) (fun _ hf => ?_)
  · refine z_aload_n ok dX12_passes_76 0 rfl ?_
    refine z_getr (q := 183) ok kc_171 zc_12 hin_12 20 (by decide) fl_12_71 rfl dX12_passes_77 ?_
    refine z_sipush (v := 200) ok dX12_passes_80 (by decide) ?_
    refine z_dup2 ok dX12_passes_83 rfl rfl ?_
    refine z_iald ok kc_183 dX12_passes_84 hf (fun v84 hf => ?_)
    refine z_iload_n ok dX12_passes_85 2 rfl ?_
    refine z_iadd ok dX12_passes_86 ?_
    refine z_iast ok kc_183 dX12_passes_87 hf (fun σ87 hf => ?_)
    refine z_goto (tgt := 117) ok dX12_passes_88 (by decide) ?_
    exact z_sub [0, 1, 2] rfl (t_M_passes_j117 ok hf hk)
  · refine z_aload_n ok dX12_passes_91 0 rfl ?_
    refine z_getr (q := 183) ok kc_171 zc_12 hin_12 20 (by decide) fl_12_71 rfl dX12_passes_92 ?_
    refine z_iconst (v := 0) ok dX12_passes_95 (by decide) ?_
    refine z_iload_n ok dX12_passes_96 1 rfl ?_
    refine z_iadd ok dX12_passes_97 ?_
    refine z_iconst (v := 1) ok dX12_passes_98 (by decide) ?_
    refine z_isub ok dX12_passes_99 ?_
    refine z_dup2 ok dX12_passes_100 rfl rfl ?_
    refine z_iald ok kc_183 dX12_passes_101 hf (fun v101 hf => ?_)
    refine z_iload_n ok dX12_passes_102 2 rfl ?_
    refine z_isub ok dX12_passes_103 ?_
    refine z_iast ok kc_183 dX12_passes_104 hf (fun σ104 hf => ?_)
    refine z_aload_n ok dX12_passes_105 0 rfl ?_
    refine z_getr (q := 190) ok kc_171 zc_12 hin_12 39 (by decide) fl_12_129 rfl dX12_passes_106 ?_
    refine z_iload_n ok dX12_passes_109 1 rfl ?_
    refine z_iconst (v := 1) ok dX12_passes_110 (by decide) ?_
    refine z_isub ok dX12_passes_111 ?_
    refine z_dup2 ok dX12_passes_112 rfl rfl ?_
    refine z_iald ok kc_190 dX12_passes_113 hf (fun v113 hf => ?_)
    refine z_iload_n ok dX12_passes_114 2 rfl ?_
    refine z_iadd ok dX12_passes_115 ?_
    refine z_iast ok kc_190 dX12_passes_116 hf (fun σ116 hf => ?_)
    exact z_sub [0, 1, 2] rfl (t_M_passes_j117 ok hf hk)
def M_passes_j34 (σ : Sg) (x1 : Int32) (s0 : Int32) (s1 : Int32) : Option Sg :=
  (M_lesser s0 s1).bind fun r34 =>
  zlt r34 fun v37 =>
  zrd σ 183 1607 (8 + x1) fun v52 =>
  if v52 ≤ v37 then (
    M_passes_j61 σ x1 v37 x1 0
  ) else (
    M_passes_j61 σ x1 v37 x1 1
  )
set_option maxRecDepth 20000 in
theorem t_M_passes_j34 {X : Zx} {Q : State → Prop} {σ : Sg} {x1 : Int32} {s0 : Int32} {s1 : Int32} (ok : Zok X cX12_passes RX12 rm_M_passes 198 4)  {out : Sg} (hf : M_passes_j34 σ x1 s0 s1 = some out) (hk : ZrV cX12_passes X Q out) : ZAt X Q 0 0 34 σ [(0, .ref (X.ad 171)), (1, .int x1)] [.int s1, .int s0] := by
  unfold M_passes_j34 at hf
  refine z_call hf (fun r34 h34 hf => ?_)
  refine z_cS (As := [.int s0, .int s1]) (rest := []) ok (c_M_lesser h34) rfl ⟨ml_12_273, w_M_lesser⟩ hy_M_lesser ⟨rfl, rfl⟩ ⟨Nat.le_of_ble_eq_true rfl, Nat.le_of_ble_eq_true rfl⟩ ⟨Nat.zero_le _, Nat.zero_le _⟩ rfl (Nat.le_of_ble_eq_true rfl) dX12_passes_34 ?_
  refine z_nm hf (fun v37 hf => ?_)
  refine z_istore_n (lv' := [(2, .int v37), (0, .ref (X.ad 171)), (1, .int x1)]) ok dX12_passes_37 (by decide) rfl ?_
  refine z_aload_n ok dX12_passes_38 1 rfl ?_
  refine z_getr (q := 193) ok kc_171 zc_12 hin_12 42 (by decide) fl_12_138 rfl dX12_passes_39 ?_
  refine z_iload_n ok dX12_passes_42 2 rfl ?_
  refine z_iload_n ok dX12_passes_43 0 rfl ?_
  refine z_aload_n ok dX12_passes_44 1 rfl ?_
  refine z_getr (q := 183) ok kc_171 zc_12 hin_12 20 (by decide) fl_12_71 rfl dX12_passes_45 ?_
  refine z_bipush (v := 8) ok dX12_passes_48 (by decide) ?_
  refine z_iload_n ok dX12_passes_50 2 rfl ?_
  refine z_iadd ok dX12_passes_51 ?_
  refine z_iald ok kc_183 dX12_passes_52 hf (fun v52 hf => ?_)
  refine z_icmp_ge (tgt := 60) ok dX12_passes_53 (by decide) hf (fun _ hf => ?_) (fun _ hf => ?_)
  · refine z_iconst (v := 0) ok dX12_passes_60 (by decide) ?_
    exact z_sub [1, 2, 0] rfl (t_M_passes_j61 ok hf hk)
  · refine z_iconst (v := 1) ok dX12_passes_56 (by decide) ?_
    refine z_goto (tgt := 61) ok dX12_passes_57 (by decide) ?_
    exact z_sub [1, 2, 0] rfl (t_M_passes_j61 ok hf hk)
def M_passes (σ : Sg) (x1 : Int32) : Option Sg :=
  zrd σ 183 1607 (8 + x1) fun v8 =>
  if x1 = 0 then (
    zrd σ 183 1607 197 fun v20 =>
    M_passes_j34 σ x1 v8 v20
  ) else (
    zrd σ 183 1607 ((0 + x1) - 1) fun v33 =>
    M_passes_j34 σ x1 v8 v33
  )
set_option maxRecDepth 20000 in
theorem t_M_passes {X : Zx} {Q : State → Prop} {σ : Sg} {x1 : Int32} (ok : Zok X cX12_passes RX12 rm_M_passes 198 4)  {out : Sg} (hf : M_passes σ x1 = some out) (hk : ZrV cX12_passes X Q out) : ZAt X Q 0 0 0 σ [(0, .ref (X.ad 171)), (1, .int x1)] [] := by
  unfold M_passes at hf
  refine z_aload_n ok dX12_passes_0 0 rfl ?_
  refine z_getr (q := 183) ok kc_171 zc_12 hin_12 20 (by decide) fl_12_71 rfl dX12_passes_1 ?_
  refine z_bipush (v := 8) ok dX12_passes_4 (by decide) ?_
  refine z_iload_n ok dX12_passes_6 1 rfl ?_
  refine z_iadd ok dX12_passes_7 ?_
  refine z_iald ok kc_183 dX12_passes_8 hf (fun v8 hf => ?_)
  refine z_iload_n ok dX12_passes_9 1 rfl ?_
  refine z_if_ne (tgt := 24) ok dX12_passes_10 (by decide) hf (fun _ hf => ?_) (fun _ hf => ?_)
  · refine z_aload_n ok dX12_passes_13 0 rfl ?_
    refine z_getr (q := 183) ok kc_171 zc_12 hin_12 20 (by decide) fl_12_71 rfl dX12_passes_14 ?_
    refine z_sipush (v := 197) ok dX12_passes_17 (by decide) ?_
    refine z_iald ok kc_183 dX12_passes_20 hf (fun v20 hf => ?_)
    refine z_goto (tgt := 34) ok dX12_passes_21 (by decide) ?_
    exact z_sub [0, 1] rfl (t_M_passes_j34 ok hf hk)
  · refine z_aload_n ok dX12_passes_24 0 rfl ?_
    refine z_getr (q := 183) ok kc_171 zc_12 hin_12 20 (by decide) fl_12_71 rfl dX12_passes_25 ?_
    refine z_iconst (v := 0) ok dX12_passes_28 (by decide) ?_
    refine z_iload_n ok dX12_passes_29 1 rfl ?_
    refine z_iadd ok dX12_passes_30 ?_
    refine z_iconst (v := 1) ok dX12_passes_31 (by decide) ?_
    refine z_isub ok dX12_passes_32 ?_
    refine z_iald ok kc_183 dX12_passes_33 hf (fun v33 hf => ?_)
    exact z_sub [0, 1] rfl (t_M_passes_j34 ok hf hk)
theorem c_M_passes {σ : Sg} {x1 : Int32} {r : Sg} (h : M_passes σ x1 = some r) : ZcV yX12_passes cX12_passes 4 rm_M_passes 198 (fun ad => [.ref (ad 171), .int x1]) σ r :=
  zmetV pn_12 rfl (fun _ => rfl) (fun _ => Nat.le_of_ble_eq_true rfl) (fun X Q ok hk => t_M_passes ok h hk)
theorem dX12_goesOver_0 : decode cX12_goesOver 0 = .ok (.iconst 0, 1) := by decide +kernel
theorem dX12_goesOver_1 : decode cX12_goesOver 1 = .ok (.aload_n 0, 1) := by decide +kernel
theorem dX12_goesOver_2 : decode cX12_goesOver 2 = .ok (.getfield 71, 3) := by decide +kernel
theorem dX12_goesOver_5 : decode cX12_goesOver 5 = .ok (.iconst 0, 1) := by decide +kernel
theorem dX12_goesOver_6 : decode cX12_goesOver 6 = .ok (.iload_n 1, 1) := by decide +kernel
theorem dX12_goesOver_7 : decode cX12_goesOver 7 = .ok (.iadd, 1) := by decide +kernel
theorem dX12_goesOver_8 : decode cX12_goesOver 8 = .ok (.iaload, 1) := by decide +kernel
theorem dX12_goesOver_9 : decode cX12_goesOver 9 = .ok (.aload_n 0, 1) := by decide +kernel
theorem dX12_goesOver_10 : decode cX12_goesOver 10 = .ok (.iload_n 1, 1) := by decide +kernel
theorem dX12_goesOver_11 : decode cX12_goesOver 11 = .ok (.iconst 2, 1) := by decide +kernel
theorem dX12_goesOver_12 : decode cX12_goesOver 12 = .ok (.invokevirtual 251, 3) := by decide +kernel
theorem dX12_goesOver_15 : decode cX12_goesOver 15 = .ok (.isub, 1) := by decide +kernel
theorem dX12_goesOver_16 : decode cX12_goesOver 16 = .ok (.invokestatic 276, 3) := by decide +kernel
theorem dX12_goesOver_19 : decode cX12_goesOver 19 = .ok (.istore_n 2, 1) := by decide +kernel
theorem dX12_goesOver_20 : decode cX12_goesOver 20 = .ok (.aload_n 0, 1) := by decide +kernel
theorem dX12_goesOver_21 : decode cX12_goesOver 21 = .ok (.getfield 71, 3) := by decide +kernel
theorem dX12_goesOver_24 : decode cX12_goesOver 24 = .ok (.iconst 0, 1) := by decide +kernel
theorem dX12_goesOver_25 : decode cX12_goesOver 25 = .ok (.iload_n 1, 1) := by decide +kernel
theorem dX12_goesOver_26 : decode cX12_goesOver 26 = .ok (.iadd, 1) := by decide +kernel
theorem dX12_goesOver_27 : decode cX12_goesOver 27 = .ok (.dup2, 1) := by decide +kernel
theorem dX12_goesOver_28 : decode cX12_goesOver 28 = .ok (.iaload, 1) := by decide +kernel
theorem dX12_goesOver_29 : decode cX12_goesOver 29 = .ok (.iload_n 2, 1) := by decide +kernel
theorem dX12_goesOver_30 : decode cX12_goesOver 30 = .ok (.isub, 1) := by decide +kernel
theorem dX12_goesOver_31 : decode cX12_goesOver 31 = .ok (.iastore, 1) := by decide +kernel
theorem dX12_goesOver_32 : decode cX12_goesOver 32 = .ok (.aload_n 0, 1) := by decide +kernel
theorem dX12_goesOver_33 : decode cX12_goesOver 33 = .ok (.getfield 129, 3) := by decide +kernel
theorem dX12_goesOver_36 : decode cX12_goesOver 36 = .ok (.iload_n 1, 1) := by decide +kernel
theorem dX12_goesOver_37 : decode cX12_goesOver 37 = .ok (.dup2, 1) := by decide +kernel
theorem dX12_goesOver_38 : decode cX12_goesOver 38 = .ok (.iaload, 1) := by decide +kernel
theorem dX12_goesOver_39 : decode cX12_goesOver 39 = .ok (.iload_n 2, 1) := by decide +kernel
theorem dX12_goesOver_40 : decode cX12_goesOver 40 = .ok (.iadd, 1) := by decide +kernel
theorem dX12_goesOver_41 : decode cX12_goesOver 41 = .ok (.iastore, 1) := by decide +kernel
theorem dX12_goesOver_42 : decode cX12_goesOver 42 = .ok (.iload_n 1, 1) := by decide +kernel
theorem dX12_goesOver_43 : decode cX12_goesOver 43 = .ok (.aload_n 0, 1) := by decide +kernel
theorem dX12_goesOver_44 : decode cX12_goesOver 44 = .ok (.getfield 7, 3) := by decide +kernel
theorem dX12_goesOver_47 : decode cX12_goesOver 47 = .ok (.iconst 1, 1) := by decide +kernel
theorem dX12_goesOver_48 : decode cX12_goesOver 48 = .ok (.isub, 1) := by decide +kernel
theorem dX12_goesOver_49 : decode cX12_goesOver 49 = .ok (.if_icmp .ne 16, 3) := by decide +kernel
theorem dX12_goesOver_52 : decode cX12_goesOver 52 = .ok (.aload_n 0, 1) := by decide +kernel
theorem dX12_goesOver_53 : decode cX12_goesOver 53 = .ok (.getfield 71, 3) := by decide +kernel
theorem dX12_goesOver_56 : decode cX12_goesOver 56 = .ok (.sipush 203, 3) := by decide +kernel
theorem dX12_goesOver_59 : decode cX12_goesOver 59 = .ok (.dup2, 1) := by decide +kernel
theorem dX12_goesOver_60 : decode cX12_goesOver 60 = .ok (.iaload, 1) := by decide +kernel
theorem dX12_goesOver_61 : decode cX12_goesOver 61 = .ok (.iload_n 2, 1) := by decide +kernel
theorem dX12_goesOver_62 : decode cX12_goesOver 62 = .ok (.iadd, 1) := by decide +kernel
theorem dX12_goesOver_63 : decode cX12_goesOver 63 = .ok (.iastore, 1) := by decide +kernel
theorem dX12_goesOver_64 : decode cX12_goesOver 64 = .ok (.return_, 1) := by decide +kernel
theorem dX12_goesOver_65 : decode cX12_goesOver 65 = .ok (.aload_n 0, 1) := by decide +kernel
theorem dX12_goesOver_66 : decode cX12_goesOver 66 = .ok (.getfield 71, 3) := by decide +kernel
theorem dX12_goesOver_69 : decode cX12_goesOver 69 = .ok (.iconst 0, 1) := by decide +kernel
theorem dX12_goesOver_70 : decode cX12_goesOver 70 = .ok (.iload_n 1, 1) := by decide +kernel
theorem dX12_goesOver_71 : decode cX12_goesOver 71 = .ok (.iadd, 1) := by decide +kernel
theorem dX12_goesOver_72 : decode cX12_goesOver 72 = .ok (.iconst 1, 1) := by decide +kernel
theorem dX12_goesOver_73 : decode cX12_goesOver 73 = .ok (.iadd, 1) := by decide +kernel
theorem dX12_goesOver_74 : decode cX12_goesOver 74 = .ok (.dup2, 1) := by decide +kernel
theorem dX12_goesOver_75 : decode cX12_goesOver 75 = .ok (.iaload, 1) := by decide +kernel
theorem dX12_goesOver_76 : decode cX12_goesOver 76 = .ok (.iload_n 2, 1) := by decide +kernel
theorem dX12_goesOver_77 : decode cX12_goesOver 77 = .ok (.iadd, 1) := by decide +kernel
theorem dX12_goesOver_78 : decode cX12_goesOver 78 = .ok (.iastore, 1) := by decide +kernel
theorem dX12_goesOver_79 : decode cX12_goesOver 79 = .ok (.aload_n 0, 1) := by decide +kernel
theorem dX12_goesOver_80 : decode cX12_goesOver 80 = .ok (.getfield 126, 3) := by decide +kernel
theorem dX12_goesOver_83 : decode cX12_goesOver 83 = .ok (.iload_n 1, 1) := by decide +kernel
theorem dX12_goesOver_84 : decode cX12_goesOver 84 = .ok (.iconst 1, 1) := by decide +kernel
theorem dX12_goesOver_85 : decode cX12_goesOver 85 = .ok (.iadd, 1) := by decide +kernel
theorem dX12_goesOver_86 : decode cX12_goesOver 86 = .ok (.dup2, 1) := by decide +kernel
theorem dX12_goesOver_87 : decode cX12_goesOver 87 = .ok (.iaload, 1) := by decide +kernel
theorem dX12_goesOver_88 : decode cX12_goesOver 88 = .ok (.iload_n 2, 1) := by decide +kernel
theorem dX12_goesOver_89 : decode cX12_goesOver 89 = .ok (.iadd, 1) := by decide +kernel
theorem dX12_goesOver_90 : decode cX12_goesOver 90 = .ok (.iastore, 1) := by decide +kernel
theorem dX12_goesOver_91 : decode cX12_goesOver 91 = .ok (.aload_n 0, 1) := by decide +kernel
theorem dX12_goesOver_92 : decode cX12_goesOver 92 = .ok (.getfield 135, 3) := by decide +kernel
theorem dX12_goesOver_95 : decode cX12_goesOver 95 = .ok (.iload_n 1, 1) := by decide +kernel
theorem dX12_goesOver_96 : decode cX12_goesOver 96 = .ok (.iconst 1, 1) := by decide +kernel
theorem dX12_goesOver_97 : decode cX12_goesOver 97 = .ok (.iadd, 1) := by decide +kernel
theorem dX12_goesOver_98 : decode cX12_goesOver 98 = .ok (.iload_n 2, 1) := by decide +kernel
theorem dX12_goesOver_99 : decode cX12_goesOver 99 = .ok (.iastore, 1) := by decide +kernel
theorem dX12_goesOver_100 : decode cX12_goesOver 100 = .ok (.return_, 1) := by decide +kernel
abbrev rm_M_goesOver : Room := { frames := 1, cells := 0, slots := 0, locals := 22 }
def M_goesOver (σ : Sg) (x1 : Int32) : Option Sg :=
  zrd σ 183 1607 (0 + x1) fun v8 =>
  (M_toldOf σ x1 2).bind fun r12 =>
  (M_greater 0 (v8 - r12)).bind fun r16 =>
  zlt r16 fun v19 =>
  zrd σ 183 1607 (0 + x1) fun v28 =>
  zwr σ 183 1607 (0 + x1) (v28 - v19) fun σ31 =>
  zrd σ31 190 8 x1 fun v38 =>
  zwr σ31 190 8 x1 (v38 + v19) fun σ41 =>
  zgt σ41 171 0 fun v44 =>
  if x1 = (v44 - 1) then (
    zrd σ41 183 1607 203 fun v60 =>
    zwr σ41 183 1607 203 (v60 + v19) fun σ63 =>
    some σ63
  ) else (
    zrd σ41 183 1607 ((0 + x1) + 1) fun v75 =>
    zwr σ41 183 1607 ((0 + x1) + 1) (v75 + v19) fun σ78 =>
    zrd σ78 189 8 (x1 + 1) fun v87 =>
    zwr σ78 189 8 (x1 + 1) (v87 + v19) fun σ90 =>
    zwr σ90 192 8 (x1 + 1) v19 fun σ99 =>
    some σ99
  )
set_option maxRecDepth 20000 in
theorem t_M_goesOver {X : Zx} {Q : State → Prop} {σ : Sg} {x1 : Int32} (ok : Zok X cX12_goesOver RX12 rm_M_goesOver 198 3)  {out : Sg} (hf : M_goesOver σ x1 = some out) (hk : ZrV cX12_goesOver X Q out) : ZAt X Q 0 0 0 σ [(0, .ref (X.ad 171)), (1, .int x1)] [] := by
  unfold M_goesOver at hf
  refine z_iconst (v := 0) ok dX12_goesOver_0 (by decide) ?_
  refine z_aload_n ok dX12_goesOver_1 0 rfl ?_
  refine z_getr (q := 183) ok kc_171 zc_12 hin_12 20 (by decide) fl_12_71 rfl dX12_goesOver_2 ?_
  refine z_iconst (v := 0) ok dX12_goesOver_5 (by decide) ?_
  refine z_iload_n ok dX12_goesOver_6 1 rfl ?_
  refine z_iadd ok dX12_goesOver_7 ?_
  refine z_iald ok kc_183 dX12_goesOver_8 hf (fun v8 hf => ?_)
  refine z_aload_n ok dX12_goesOver_9 0 rfl ?_
  refine z_iload_n ok dX12_goesOver_10 1 rfl ?_
  refine z_iconst (v := 2) ok dX12_goesOver_11 (by decide) ?_
  refine z_call hf (fun r12 h12 hf => ?_)
  refine z_cV (As := [.int x1, .int 2]) (rest := [.int v8, .int 0]) (w := 171) ok kc_171 zc_12 (c_M_toldOf h12) rfl ⟨ml_12_251, w_M_toldOf⟩ hy_M_toldOf ⟨rfl, rfl⟩ ⟨Nat.le_of_ble_eq_true rfl, Nat.le_of_ble_eq_true rfl⟩ ⟨Nat.zero_le _, Nat.zero_le _⟩ rfl (Nat.le_of_ble_eq_true rfl) dX12_goesOver_12 ?_
  refine z_isub ok dX12_goesOver_15 ?_
  refine z_call hf (fun r16 h16 hf => ?_)
  refine z_cS (As := [.int 0, .int (v8 - r12)]) (rest := []) ok (c_M_greater h16) rfl ⟨ml_12_276, w_M_greater⟩ hy_M_greater ⟨rfl, rfl⟩ ⟨Nat.le_of_ble_eq_true rfl, Nat.le_of_ble_eq_true rfl⟩ ⟨Nat.zero_le _, Nat.zero_le _⟩ rfl (Nat.le_of_ble_eq_true rfl) dX12_goesOver_16 ?_
  refine z_nm hf (fun v19 hf => ?_)
  refine z_istore_n (lv' := [(2, .int v19), (0, .ref (X.ad 171)), (1, .int x1)]) ok dX12_goesOver_19 (by decide) rfl ?_
  refine z_aload_n ok dX12_goesOver_20 1 rfl ?_
  refine z_getr (q := 183) ok kc_171 zc_12 hin_12 20 (by decide) fl_12_71 rfl dX12_goesOver_21 ?_
  refine z_iconst (v := 0) ok dX12_goesOver_24 (by decide) ?_
  refine z_iload_n ok dX12_goesOver_25 2 rfl ?_
  refine z_iadd ok dX12_goesOver_26 ?_
  refine z_dup2 ok dX12_goesOver_27 rfl rfl ?_
  refine z_iald ok kc_183 dX12_goesOver_28 hf (fun v28 hf => ?_)
  refine z_iload_n ok dX12_goesOver_29 0 rfl ?_
  refine z_isub ok dX12_goesOver_30 ?_
  refine z_iast ok kc_183 dX12_goesOver_31 hf (fun σ31 hf => ?_)
  refine z_aload_n ok dX12_goesOver_32 1 rfl ?_
  refine z_getr (q := 190) ok kc_171 zc_12 hin_12 39 (by decide) fl_12_129 rfl dX12_goesOver_33 ?_
  refine z_iload_n ok dX12_goesOver_36 2 rfl ?_
  refine z_dup2 ok dX12_goesOver_37 rfl rfl ?_
  refine z_iald ok kc_190 dX12_goesOver_38 hf (fun v38 hf => ?_)
  refine z_iload_n ok dX12_goesOver_39 0 rfl ?_
  refine z_iadd ok dX12_goesOver_40 ?_
  refine z_iast ok kc_190 dX12_goesOver_41 hf (fun σ41 hf => ?_)
  refine z_iload_n ok dX12_goesOver_42 2 rfl ?_
  refine z_aload_n ok dX12_goesOver_43 1 rfl ?_
  refine z_geti ok kc_171 zc_12 hin_12 0 (by decide) fl_12_7 rfl dX12_goesOver_44 hf (fun v44 hf => ?_)
  refine z_iconst (v := 1) ok dX12_goesOver_47 (by decide) ?_
  refine z_isub ok dX12_goesOver_48 ?_
  refine z_icmp_ne (tgt := 65) ok dX12_goesOver_49 (by decide) hf (fun _ hf => ?_) (fun _ hf => ?_)
  · refine z_aload_n ok dX12_goesOver_52 1 rfl ?_
    refine z_getr (q := 183) ok kc_171 zc_12 hin_12 20 (by decide) fl_12_71 rfl dX12_goesOver_53 ?_
    refine z_sipush (v := 203) ok dX12_goesOver_56 (by decide) ?_
    refine z_dup2 ok dX12_goesOver_59 rfl rfl ?_
    refine z_iald ok kc_183 dX12_goesOver_60 hf (fun v60 hf => ?_)
    refine z_iload_n ok dX12_goesOver_61 0 rfl ?_
    refine z_iadd ok dX12_goesOver_62 ?_
    refine z_iast ok kc_183 dX12_goesOver_63 hf (fun σ63 hf => ?_)
    obtain rfl := Option.some.inj hf
    exact hk _ _ dX12_goesOver_64
  · refine z_aload_n ok dX12_goesOver_65 1 rfl ?_
    refine z_getr (q := 183) ok kc_171 zc_12 hin_12 20 (by decide) fl_12_71 rfl dX12_goesOver_66 ?_
    refine z_iconst (v := 0) ok dX12_goesOver_69 (by decide) ?_
    refine z_iload_n ok dX12_goesOver_70 2 rfl ?_
    refine z_iadd ok dX12_goesOver_71 ?_
    refine z_iconst (v := 1) ok dX12_goesOver_72 (by decide) ?_
    refine z_iadd ok dX12_goesOver_73 ?_
    refine z_dup2 ok dX12_goesOver_74 rfl rfl ?_
    refine z_iald ok kc_183 dX12_goesOver_75 hf (fun v75 hf => ?_)
    refine z_iload_n ok dX12_goesOver_76 0 rfl ?_
    refine z_iadd ok dX12_goesOver_77 ?_
    refine z_iast ok kc_183 dX12_goesOver_78 hf (fun σ78 hf => ?_)
    refine z_aload_n ok dX12_goesOver_79 1 rfl ?_
    refine z_getr (q := 189) ok kc_171 zc_12 hin_12 38 (by decide) fl_12_126 rfl dX12_goesOver_80 ?_
    refine z_iload_n ok dX12_goesOver_83 2 rfl ?_
    refine z_iconst (v := 1) ok dX12_goesOver_84 (by decide) ?_
    refine z_iadd ok dX12_goesOver_85 ?_
    refine z_dup2 ok dX12_goesOver_86 rfl rfl ?_
    refine z_iald ok kc_189 dX12_goesOver_87 hf (fun v87 hf => ?_)
    refine z_iload_n ok dX12_goesOver_88 0 rfl ?_
    refine z_iadd ok dX12_goesOver_89 ?_
    refine z_iast ok kc_189 dX12_goesOver_90 hf (fun σ90 hf => ?_)
    refine z_aload_n ok dX12_goesOver_91 1 rfl ?_
    refine z_getr (q := 192) ok kc_171 zc_12 hin_12 41 (by decide) fl_12_135 rfl dX12_goesOver_92 ?_
    refine z_iload_n ok dX12_goesOver_95 2 rfl ?_
    refine z_iconst (v := 1) ok dX12_goesOver_96 (by decide) ?_
    refine z_iadd ok dX12_goesOver_97 ?_
    refine z_iload_n ok dX12_goesOver_98 0 rfl ?_
    refine z_iast ok kc_192 dX12_goesOver_99 hf (fun σ99 hf => ?_)
    obtain rfl := Option.some.inj hf
    exact hk _ _ dX12_goesOver_100
theorem c_M_goesOver {σ : Sg} {x1 : Int32} {r : Sg} (h : M_goesOver σ x1 = some r) : ZcV yX12_goesOver cX12_goesOver 3 rm_M_goesOver 198 (fun ad => [.ref (ad 171), .int x1]) σ r :=
  zmetV pn_12 rfl (fun _ => rfl) (fun _ => Nat.le_of_ble_eq_true rfl) (fun X Q ok hk => t_M_goesOver ok h hk)
theorem dX12_moves_0 : decode cX12_moves 0 = .ok (.aload_n 0, 1) := by decide +kernel
theorem dX12_moves_1 : decode cX12_moves 1 = .ok (.iload_n 1, 1) := by decide +kernel
theorem dX12_moves_2 : decode cX12_moves 2 = .ok (.aload_n 0, 1) := by decide +kernel
theorem dX12_moves_3 : decode cX12_moves 3 = .ok (.getfield 71, 3) := by decide +kernel
theorem dX12_moves_6 : decode cX12_moves 6 = .ok (.sipush 196, 3) := by decide +kernel
theorem dX12_moves_9 : decode cX12_moves 9 = .ok (.iaload, 1) := by decide +kernel
theorem dX12_moves_10 : decode cX12_moves 10 = .ok (.iconst 1, 1) := by decide +kernel
theorem dX12_moves_11 : decode cX12_moves 11 = .ok (.iadd, 1) := by decide +kernel
theorem dX12_moves_12 : decode cX12_moves 12 = .ok (.invokevirtual 279, 3) := by decide +kernel
theorem dX12_moves_15 : decode cX12_moves 15 = .ok (.istore_n 2, 1) := by decide +kernel
theorem dX12_moves_16 : decode cX12_moves 16 = .ok (.iload_n 2, 1) := by decide +kernel
theorem dX12_moves_17 : decode cX12_moves 17 = .ok (.aload_n 0, 1) := by decide +kernel
theorem dX12_moves_18 : decode cX12_moves 18 = .ok (.getfield 71, 3) := by decide +kernel
theorem dX12_moves_21 : decode cX12_moves 21 = .ok (.bipush 8, 2) := by decide +kernel
theorem dX12_moves_23 : decode cX12_moves 23 = .ok (.iload_n 1, 1) := by decide +kernel
theorem dX12_moves_24 : decode cX12_moves 24 = .ok (.iadd, 1) := by decide +kernel
theorem dX12_moves_25 : decode cX12_moves 25 = .ok (.iaload, 1) := by decide +kernel
theorem dX12_moves_26 : decode cX12_moves 26 = .ok (.isub, 1) := by decide +kernel
theorem dX12_moves_27 : decode cX12_moves 27 = .ok (.istore_n 3, 1) := by decide +kernel
theorem dX12_moves_28 : decode cX12_moves 28 = .ok (.aload_n 0, 1) := by decide +kernel
theorem dX12_moves_29 : decode cX12_moves 29 = .ok (.getfield 71, 3) := by decide +kernel
theorem dX12_moves_32 : decode cX12_moves 32 = .ok (.bipush 8, 2) := by decide +kernel
theorem dX12_moves_34 : decode cX12_moves 34 = .ok (.iload_n 1, 1) := by decide +kernel
theorem dX12_moves_35 : decode cX12_moves 35 = .ok (.iadd, 1) := by decide +kernel
theorem dX12_moves_36 : decode cX12_moves 36 = .ok (.dup2, 1) := by decide +kernel
theorem dX12_moves_37 : decode cX12_moves 37 = .ok (.iaload, 1) := by decide +kernel
theorem dX12_moves_38 : decode cX12_moves 38 = .ok (.aload_n 0, 1) := by decide +kernel
theorem dX12_moves_39 : decode cX12_moves 39 = .ok (.iload_n 1, 1) := by decide +kernel
theorem dX12_moves_40 : decode cX12_moves 40 = .ok (.iconst 5, 1) := by decide +kernel
theorem dX12_moves_41 : decode cX12_moves 41 = .ok (.invokevirtual 251, 3) := by decide +kernel
theorem dX12_moves_44 : decode cX12_moves 44 = .ok (.ineg, 1) := by decide +kernel
theorem dX12_moves_45 : decode cX12_moves 45 = .ok (.aload_n 0, 1) := by decide +kernel
theorem dX12_moves_46 : decode cX12_moves 46 = .ok (.iload_n 1, 1) := by decide +kernel
theorem dX12_moves_47 : decode cX12_moves 47 = .ok (.iconst 5, 1) := by decide +kernel
theorem dX12_moves_48 : decode cX12_moves 48 = .ok (.invokevirtual 251, 3) := by decide +kernel
theorem dX12_moves_51 : decode cX12_moves 51 = .ok (.iload_n 3, 1) := by decide +kernel
theorem dX12_moves_52 : decode cX12_moves 52 = .ok (.invokestatic 273, 3) := by decide +kernel
theorem dX12_moves_55 : decode cX12_moves 55 = .ok (.invokestatic 276, 3) := by decide +kernel
theorem dX12_moves_58 : decode cX12_moves 58 = .ok (.iadd, 1) := by decide +kernel
theorem dX12_moves_59 : decode cX12_moves 59 = .ok (.iastore, 1) := by decide +kernel
theorem dX12_moves_60 : decode cX12_moves 60 = .ok (.return_, 1) := by decide +kernel
abbrev rm_M_moves : Room := { frames := 5, cells := 0, slots := 0, locals := 116 }
def M_moves (σ : Sg) (x1 : Int32) : Option Sg :=
  zrd σ 183 1607 196 fun v9 =>
  (M_wanted σ x1 (v9 + 1)).bind fun r12 =>
  zlt r12 fun v15 =>
  zrd σ 183 1607 (8 + x1) fun v25 =>
  zlt (v15 - v25) fun v27 =>
  zrd σ 183 1607 (8 + x1) fun v37 =>
  (M_toldOf σ x1 5).bind fun r41 =>
  (M_toldOf σ x1 5).bind fun r48 =>
  (M_lesser r48 v27).bind fun r52 =>
  (M_greater (-r41) r52).bind fun r55 =>
  zwr σ 183 1607 (8 + x1) (v37 + r55) fun σ59 =>
  some σ59
set_option maxRecDepth 20000 in
theorem t_M_moves {X : Zx} {Q : State → Prop} {σ : Sg} {x1 : Int32} (ok : Zok X cX12_moves RX12 rm_M_moves 198 4)  {out : Sg} (hf : M_moves σ x1 = some out) (hk : ZrV cX12_moves X Q out) : ZAt X Q 0 0 0 σ [(0, .ref (X.ad 171)), (1, .int x1)] [] := by
  unfold M_moves at hf
  refine z_aload_n ok dX12_moves_0 0 rfl ?_
  refine z_iload_n ok dX12_moves_1 1 rfl ?_
  refine z_aload_n ok dX12_moves_2 0 rfl ?_
  refine z_getr (q := 183) ok kc_171 zc_12 hin_12 20 (by decide) fl_12_71 rfl dX12_moves_3 ?_
  refine z_sipush (v := 196) ok dX12_moves_6 (by decide) ?_
  refine z_iald ok kc_183 dX12_moves_9 hf (fun v9 hf => ?_)
  refine z_iconst (v := 1) ok dX12_moves_10 (by decide) ?_
  refine z_iadd ok dX12_moves_11 ?_
  refine z_call hf (fun r12 h12 hf => ?_)
  refine z_cV (As := [.int x1, .int (v9 + 1)]) (rest := []) (w := 171) ok kc_171 zc_12 (c_M_wanted h12) rfl ⟨ml_12_279, w_M_wanted⟩ hy_M_wanted ⟨rfl, rfl⟩ ⟨Nat.le_of_ble_eq_true rfl, Nat.le_of_ble_eq_true rfl⟩ ⟨Nat.zero_le _, Nat.zero_le _⟩ rfl (Nat.le_of_ble_eq_true rfl) dX12_moves_12 ?_
  refine z_nm hf (fun v15 hf => ?_)
  refine z_istore_n (lv' := [(2, .int v15), (0, .ref (X.ad 171)), (1, .int x1)]) ok dX12_moves_15 (by decide) rfl ?_
  refine z_iload_n ok dX12_moves_16 0 rfl ?_
  refine z_aload_n ok dX12_moves_17 1 rfl ?_
  refine z_getr (q := 183) ok kc_171 zc_12 hin_12 20 (by decide) fl_12_71 rfl dX12_moves_18 ?_
  refine z_bipush (v := 8) ok dX12_moves_21 (by decide) ?_
  refine z_iload_n ok dX12_moves_23 2 rfl ?_
  refine z_iadd ok dX12_moves_24 ?_
  refine z_iald ok kc_183 dX12_moves_25 hf (fun v25 hf => ?_)
  refine z_isub ok dX12_moves_26 ?_
  refine z_nm hf (fun v27 hf => ?_)
  refine z_istore_n (lv' := [(3, .int v27), (2, .int v15), (0, .ref (X.ad 171)), (1, .int x1)]) ok dX12_moves_27 (by decide) rfl ?_
  refine z_aload_n ok dX12_moves_28 2 rfl ?_
  refine z_getr (q := 183) ok kc_171 zc_12 hin_12 20 (by decide) fl_12_71 rfl dX12_moves_29 ?_
  refine z_bipush (v := 8) ok dX12_moves_32 (by decide) ?_
  refine z_iload_n ok dX12_moves_34 3 rfl ?_
  refine z_iadd ok dX12_moves_35 ?_
  refine z_dup2 ok dX12_moves_36 rfl rfl ?_
  refine z_iald ok kc_183 dX12_moves_37 hf (fun v37 hf => ?_)
  refine z_aload_n ok dX12_moves_38 2 rfl ?_
  refine z_iload_n ok dX12_moves_39 3 rfl ?_
  refine z_iconst (v := 5) ok dX12_moves_40 (by decide) ?_
  refine z_call hf (fun r41 h41 hf => ?_)
  refine z_cV (As := [.int x1, .int 5]) (rest := [.int v37, .int (8 + x1), .ref (X.ad 183)]) (w := 171) ok kc_171 zc_12 (c_M_toldOf h41) rfl ⟨ml_12_251, w_M_toldOf⟩ hy_M_toldOf ⟨rfl, rfl⟩ ⟨Nat.le_of_ble_eq_true rfl, Nat.le_of_ble_eq_true rfl⟩ ⟨Nat.zero_le _, Nat.zero_le _⟩ rfl (Nat.le_of_ble_eq_true rfl) dX12_moves_41 ?_
  refine z_ineg ok dX12_moves_44 ?_
  refine z_aload_n ok dX12_moves_45 2 rfl ?_
  refine z_iload_n ok dX12_moves_46 3 rfl ?_
  refine z_iconst (v := 5) ok dX12_moves_47 (by decide) ?_
  refine z_call hf (fun r48 h48 hf => ?_)
  refine z_cV (As := [.int x1, .int 5]) (rest := [.int (-r41), .int v37, .int (8 + x1), .ref (X.ad 183)]) (w := 171) ok kc_171 zc_12 (c_M_toldOf h48) rfl ⟨ml_12_251, w_M_toldOf⟩ hy_M_toldOf ⟨rfl, rfl⟩ ⟨Nat.le_of_ble_eq_true rfl, Nat.le_of_ble_eq_true rfl⟩ ⟨Nat.zero_le _, Nat.zero_le _⟩ rfl (Nat.le_of_ble_eq_true rfl) dX12_moves_48 ?_
  refine z_iload_n ok dX12_moves_51 0 rfl ?_
  refine z_call hf (fun r52 h52 hf => ?_)
  refine z_cS (As := [.int r48, .int v27]) (rest := [.int (-r41), .int v37, .int (8 + x1), .ref (X.ad 183)]) ok (c_M_lesser h52) rfl ⟨ml_12_273, w_M_lesser⟩ hy_M_lesser ⟨rfl, rfl⟩ ⟨Nat.le_of_ble_eq_true rfl, Nat.le_of_ble_eq_true rfl⟩ ⟨Nat.zero_le _, Nat.zero_le _⟩ rfl (Nat.le_of_ble_eq_true rfl) dX12_moves_52 ?_
  refine z_call hf (fun r55 h55 hf => ?_)
  refine z_cS (As := [.int (-r41), .int r52]) (rest := [.int v37, .int (8 + x1), .ref (X.ad 183)]) ok (c_M_greater h55) rfl ⟨ml_12_276, w_M_greater⟩ hy_M_greater ⟨rfl, rfl⟩ ⟨Nat.le_of_ble_eq_true rfl, Nat.le_of_ble_eq_true rfl⟩ ⟨Nat.zero_le _, Nat.zero_le _⟩ rfl (Nat.le_of_ble_eq_true rfl) dX12_moves_55 ?_
  refine z_iadd ok dX12_moves_58 ?_
  refine z_iast ok kc_183 dX12_moves_59 hf (fun σ59 hf => ?_)
  obtain rfl := Option.some.inj hf
  exact hk _ _ dX12_moves_60
theorem c_M_moves {σ : Sg} {x1 : Int32} {r : Sg} (h : M_moves σ x1 = some r) : ZcV yX12_moves cX12_moves 4 rm_M_moves 198 (fun ad => [.ref (ad 171), .int x1]) σ r :=
  zmetV pn_12 rfl (fun _ => rfl) (fun _ => Nat.le_of_ble_eq_true rfl) (fun X Q ok hk => t_M_moves ok h hk)
theorem dX12_causeOf_0 : decode cX12_causeOf 0 = .ok (.aload_n 0, 1) := by decide +kernel
theorem dX12_causeOf_1 : decode cX12_causeOf 1 = .ok (.getfield 71, 3) := by decide +kernel
theorem dX12_causeOf_4 : decode cX12_causeOf 4 = .ok (.sipush 196, 3) := by decide +kernel
theorem dX12_causeOf_7 : decode cX12_causeOf 7 = .ok (.iaload, 1) := by decide +kernel
theorem dX12_causeOf_8 : decode cX12_causeOf 8 = .ok (.iconst 1, 1) := by decide +kernel
theorem dX12_causeOf_9 : decode cX12_causeOf 9 = .ok (.iadd, 1) := by decide +kernel
theorem dX12_causeOf_10 : decode cX12_causeOf 10 = .ok (.istore_n 2, 1) := by decide +kernel
theorem dX12_causeOf_11 : decode cX12_causeOf 11 = .ok (.aload_n 0, 1) := by decide +kernel
theorem dX12_causeOf_12 : decode cX12_causeOf 12 = .ok (.getfield 71, 3) := by decide +kernel
theorem dX12_causeOf_15 : decode cX12_causeOf 15 = .ok (.bipush 8, 2) := by decide +kernel
theorem dX12_causeOf_17 : decode cX12_causeOf 17 = .ok (.iload_n 1, 1) := by decide +kernel
theorem dX12_causeOf_18 : decode cX12_causeOf 18 = .ok (.iadd, 1) := by decide +kernel
theorem dX12_causeOf_19 : decode cX12_causeOf 19 = .ok (.iaload, 1) := by decide +kernel
theorem dX12_causeOf_20 : decode cX12_causeOf 20 = .ok (.aload_n 0, 1) := by decide +kernel
theorem dX12_causeOf_21 : decode cX12_causeOf 21 = .ok (.iload_n 1, 1) := by decide +kernel
theorem dX12_causeOf_22 : decode cX12_causeOf 22 = .ok (.iload_n 2, 1) := by decide +kernel
theorem dX12_causeOf_23 : decode cX12_causeOf 23 = .ok (.invokevirtual 279, 3) := by decide +kernel
theorem dX12_causeOf_26 : decode cX12_causeOf 26 = .ok (.if_icmp .eq 7, 3) := by decide +kernel
theorem dX12_causeOf_29 : decode cX12_causeOf 29 = .ok (.iconst 1, 1) := by decide +kernel
theorem dX12_causeOf_30 : decode cX12_causeOf 30 = .ok (.goto 4, 3) := by decide +kernel
theorem dX12_causeOf_33 : decode cX12_causeOf 33 = .ok (.iconst 0, 1) := by decide +kernel
theorem dX12_causeOf_34 : decode cX12_causeOf 34 = .ok (.istore_n 3, 1) := by decide +kernel
theorem dX12_causeOf_35 : decode cX12_causeOf 35 = .ok (.aload_n 0, 1) := by decide +kernel
theorem dX12_causeOf_36 : decode cX12_causeOf 36 = .ok (.iload_n 1, 1) := by decide +kernel
theorem dX12_causeOf_37 : decode cX12_causeOf 37 = .ok (.invokevirtual 282, 3) := by decide +kernel
theorem dX12_causeOf_40 : decode cX12_causeOf 40 = .ok (.iconst 2, 1) := by decide +kernel
theorem dX12_causeOf_41 : decode cX12_causeOf 41 = .ok (.if_icmp .ne 29, 3) := by decide +kernel
theorem dX12_causeOf_44 : decode cX12_causeOf 44 = .ok (.aload_n 0, 1) := by decide +kernel
theorem dX12_causeOf_45 : decode cX12_causeOf 45 = .ok (.getfield 135, 3) := by decide +kernel
theorem dX12_causeOf_48 : decode cX12_causeOf 48 = .ok (.iload_n 1, 1) := by decide +kernel
theorem dX12_causeOf_49 : decode cX12_causeOf 49 = .ok (.iaload, 1) := by decide +kernel
theorem dX12_causeOf_50 : decode cX12_causeOf 50 = .ok (.ifCond .le 8, 3) := by decide +kernel
theorem dX12_causeOf_53 : decode cX12_causeOf 53 = .ok (.bipush 6, 2) := by decide +kernel
theorem dX12_causeOf_55 : decode cX12_causeOf 55 = .ok (.goto 14, 3) := by decide +kernel
theorem dX12_causeOf_58 : decode cX12_causeOf 58 = .ok (.iload_n 3, 1) := by decide +kernel
theorem dX12_causeOf_59 : decode cX12_causeOf 59 = .ok (.ifCond .eq 8, 3) := by decide +kernel
theorem dX12_causeOf_62 : decode cX12_causeOf 62 = .ok (.bipush 7, 2) := by decide +kernel
theorem dX12_causeOf_64 : decode cX12_causeOf 64 = .ok (.goto 5, 3) := by decide +kernel
theorem dX12_causeOf_67 : decode cX12_causeOf 67 = .ok (.bipush 8, 2) := by decide +kernel
theorem dX12_causeOf_69 : decode cX12_causeOf 69 = .ok (.ireturn, 1) := by decide +kernel
theorem dX12_causeOf_70 : decode cX12_causeOf 70 = .ok (.aload_n 0, 1) := by decide +kernel
theorem dX12_causeOf_71 : decode cX12_causeOf 71 = .ok (.getfield 138, 3) := by decide +kernel
theorem dX12_causeOf_74 : decode cX12_causeOf 74 = .ok (.iload_n 1, 1) := by decide +kernel
theorem dX12_causeOf_75 : decode cX12_causeOf 75 = .ok (.iaload, 1) := by decide +kernel
theorem dX12_causeOf_76 : decode cX12_causeOf 76 = .ok (.iconst 1, 1) := by decide +kernel
theorem dX12_causeOf_77 : decode cX12_causeOf 77 = .ok (.if_icmp .ne 5, 3) := by decide +kernel
theorem dX12_causeOf_80 : decode cX12_causeOf 80 = .ok (.iconst 1, 1) := by decide +kernel
theorem dX12_causeOf_81 : decode cX12_causeOf 81 = .ok (.ireturn, 1) := by decide +kernel
theorem dX12_causeOf_82 : decode cX12_causeOf 82 = .ok (.aload_n 0, 1) := by decide +kernel
theorem dX12_causeOf_83 : decode cX12_causeOf 83 = .ok (.iload_n 1, 1) := by decide +kernel
theorem dX12_causeOf_84 : decode cX12_causeOf 84 = .ok (.iconst 4, 1) := by decide +kernel
theorem dX12_causeOf_85 : decode cX12_causeOf 85 = .ok (.invokevirtual 251, 3) := by decide +kernel
theorem dX12_causeOf_88 : decode cX12_causeOf 88 = .ok (.aload_n 0, 1) := by decide +kernel
theorem dX12_causeOf_89 : decode cX12_causeOf 89 = .ok (.iload_n 1, 1) := by decide +kernel
theorem dX12_causeOf_90 : decode cX12_causeOf 90 = .ok (.iload_n 2, 1) := by decide +kernel
theorem dX12_causeOf_91 : decode cX12_causeOf 91 = .ok (.invokevirtual 270, 3) := by decide +kernel
theorem dX12_causeOf_94 : decode cX12_causeOf 94 = .ok (.if_icmp .ge 5, 3) := by decide +kernel
theorem dX12_causeOf_97 : decode cX12_causeOf 97 = .ok (.iconst 2, 1) := by decide +kernel
theorem dX12_causeOf_98 : decode cX12_causeOf 98 = .ok (.ireturn, 1) := by decide +kernel
theorem dX12_causeOf_99 : decode cX12_causeOf 99 = .ok (.iload_n 3, 1) := by decide +kernel
theorem dX12_causeOf_100 : decode cX12_causeOf 100 = .ok (.ifCond .eq 7, 3) := by decide +kernel
theorem dX12_causeOf_103 : decode cX12_causeOf 103 = .ok (.iconst 3, 1) := by decide +kernel
theorem dX12_causeOf_104 : decode cX12_causeOf 104 = .ok (.goto 20, 3) := by decide +kernel
theorem dX12_causeOf_107 : decode cX12_causeOf 107 = .ok (.aload_n 0, 1) := by decide +kernel
theorem dX12_causeOf_108 : decode cX12_causeOf 108 = .ok (.getfield 71, 3) := by decide +kernel
theorem dX12_causeOf_111 : decode cX12_causeOf 111 = .ok (.bipush 24, 2) := by decide +kernel
theorem dX12_causeOf_113 : decode cX12_causeOf 113 = .ok (.iload_n 1, 1) := by decide +kernel
theorem dX12_causeOf_114 : decode cX12_causeOf 114 = .ok (.iadd, 1) := by decide +kernel
theorem dX12_causeOf_115 : decode cX12_causeOf 115 = .ok (.iaload, 1) := by decide +kernel
theorem dX12_causeOf_116 : decode cX12_causeOf 116 = .ok (.ifCond .le 7, 3) := by decide +kernel
theorem dX12_causeOf_119 : decode cX12_causeOf 119 = .ok (.iconst 4, 1) := by decide +kernel
theorem dX12_causeOf_120 : decode cX12_causeOf 120 = .ok (.goto 4, 3) := by decide +kernel
theorem dX12_causeOf_123 : decode cX12_causeOf 123 = .ok (.iconst 5, 1) := by decide +kernel
theorem dX12_causeOf_124 : decode cX12_causeOf 124 = .ok (.ireturn, 1) := by decide +kernel
abbrev rm_M_causeOf : Room := { frames := 5, cells := 0, slots := 0, locals := 116 }
def M_causeOf_j34 (σ : Sg) (x1 : Int32) (x2 : Int32) (s0 : Int32) : Option Int32 :=
  (M_standOf σ x1).bind fun r37 =>
  if r37 = 2 then (
    zrd σ 192 8 x1 fun v49 =>
    if v49 ≤ 0 then (
      if s0 = 0 then (
        some 8
      ) else (
        some 7
      )
    ) else (
      some 6
    )
  ) else (
    zrd σ 193 8 x1 fun v75 =>
    if v75 = 1 then (
      some 1
    ) else (
      (M_toldOf σ x1 4).bind fun r85 =>
      (M_wished σ x1 x2).bind fun r91 =>
      if r91 ≤ r85 then (
        if s0 = 0 then (
          zrd σ 183 1607 (24 + x1) fun v115 =>
          if v115 ≤ 0 then (
            some 5
          ) else (
            some 4
          )
        ) else (
          some 3
        )
      ) else (
        some 2
      )
    )
  )
set_option maxRecDepth 20000 in
theorem t_M_causeOf_j34 {X : Zx} {Q : State → Prop} {σ : Sg} {x1 : Int32} {x2 : Int32} {s0 : Int32} (ok : Zok X cX12_causeOf RX12 rm_M_causeOf 198 4)  {out : Int32} (hf : M_causeOf_j34 σ x1 x2 s0 = some out) (hk : ZrI cX12_causeOf X Q out σ) : ZAt X Q 0 0 34 σ [(0, .ref (X.ad 171)), (1, .int x1), (2, .int x2)] [.int s0] := by
  unfold M_causeOf_j34 at hf
  refine z_istore_n (lv' := [(3, .int s0), (0, .ref (X.ad 171)), (1, .int x1), (2, .int x2)]) ok dX12_causeOf_34 (by decide) rfl ?_
  refine z_aload_n ok dX12_causeOf_35 1 rfl ?_
  refine z_iload_n ok dX12_causeOf_36 2 rfl ?_
  refine z_call hf (fun r37 h37 hf => ?_)
  refine z_cV (As := [.int x1]) (rest := []) (w := 171) ok kc_171 zc_12 (c_M_standOf h37) rfl ⟨ml_12_282, w_M_standOf⟩ hy_M_standOf ⟨rfl, rfl⟩ ⟨Nat.le_of_ble_eq_true rfl, Nat.le_of_ble_eq_true rfl⟩ ⟨Nat.zero_le _, Nat.zero_le _⟩ rfl (Nat.le_of_ble_eq_true rfl) dX12_causeOf_37 ?_
  refine z_iconst (v := 2) ok dX12_causeOf_40 (by decide) ?_
  refine z_icmp_ne (tgt := 70) ok dX12_causeOf_41 (by decide) hf (fun _ hf => ?_) (fun _ hf => ?_)
  · refine z_aload_n ok dX12_causeOf_44 1 rfl ?_
    refine z_getr (q := 192) ok kc_171 zc_12 hin_12 41 (by decide) fl_12_135 rfl dX12_causeOf_45 ?_
    refine z_iload_n ok dX12_causeOf_48 2 rfl ?_
    refine z_iald ok kc_192 dX12_causeOf_49 hf (fun v49 hf => ?_)
    refine z_if_le (tgt := 58) ok dX12_causeOf_50 (by decide) hf (fun _ hf => ?_) (fun _ hf => ?_)
    · refine z_iload_n ok dX12_causeOf_58 0 rfl ?_
      refine z_if_eq (tgt := 67) ok dX12_causeOf_59 (by decide) hf (fun _ hf => ?_) (fun _ hf => ?_)
      · refine z_bipush (v := 8) ok dX12_causeOf_67 (by decide) ?_
        obtain rfl := Option.some.inj hf
        exact hk _ _ dX12_causeOf_69
      · refine z_bipush (v := 7) ok dX12_causeOf_62 (by decide) ?_
        refine z_goto (tgt := 69) ok dX12_causeOf_64 (by decide) ?_
        obtain rfl := Option.some.inj hf
        exact hk _ _ dX12_causeOf_69
    · refine z_bipush (v := 6) ok dX12_causeOf_53 (by decide) ?_
      refine z_goto (tgt := 69) ok dX12_causeOf_55 (by decide) ?_
      obtain rfl := Option.some.inj hf
      exact hk _ _ dX12_causeOf_69
  · refine z_aload_n ok dX12_causeOf_70 1 rfl ?_
    refine z_getr (q := 193) ok kc_171 zc_12 hin_12 42 (by decide) fl_12_138 rfl dX12_causeOf_71 ?_
    refine z_iload_n ok dX12_causeOf_74 2 rfl ?_
    refine z_iald ok kc_193 dX12_causeOf_75 hf (fun v75 hf => ?_)
    refine z_iconst (v := 1) ok dX12_causeOf_76 (by decide) ?_
    refine z_icmp_ne (tgt := 82) ok dX12_causeOf_77 (by decide) hf (fun _ hf => ?_) (fun _ hf => ?_)
    · refine z_iconst (v := 1) ok dX12_causeOf_80 (by decide) ?_
      obtain rfl := Option.some.inj hf
      exact hk _ _ dX12_causeOf_81
    · refine z_aload_n ok dX12_causeOf_82 1 rfl ?_
      refine z_iload_n ok dX12_causeOf_83 2 rfl ?_
      refine z_iconst (v := 4) ok dX12_causeOf_84 (by decide) ?_
      refine z_call hf (fun r85 h85 hf => ?_)
      refine z_cV (As := [.int x1, .int 4]) (rest := []) (w := 171) ok kc_171 zc_12 (c_M_toldOf h85) rfl ⟨ml_12_251, w_M_toldOf⟩ hy_M_toldOf ⟨rfl, rfl⟩ ⟨Nat.le_of_ble_eq_true rfl, Nat.le_of_ble_eq_true rfl⟩ ⟨Nat.zero_le _, Nat.zero_le _⟩ rfl (Nat.le_of_ble_eq_true rfl) dX12_causeOf_85 ?_
      refine z_aload_n ok dX12_causeOf_88 1 rfl ?_
      refine z_iload_n ok dX12_causeOf_89 2 rfl ?_
      refine z_iload_n ok dX12_causeOf_90 3 rfl ?_
      refine z_call hf (fun r91 h91 hf => ?_)
      refine z_cV (As := [.int x1, .int x2]) (rest := [.int r85]) (w := 171) ok kc_171 zc_12 (c_M_wished h91) rfl ⟨ml_12_270, w_M_wished⟩ hy_M_wished ⟨rfl, rfl⟩ ⟨Nat.le_of_ble_eq_true rfl, Nat.le_of_ble_eq_true rfl⟩ ⟨Nat.zero_le _, Nat.zero_le _⟩ rfl (Nat.le_of_ble_eq_true rfl) dX12_causeOf_91 ?_
      refine z_icmp_ge (tgt := 99) ok dX12_causeOf_94 (by decide) hf (fun _ hf => ?_) (fun _ hf => ?_)
      · refine z_iload_n ok dX12_causeOf_99 0 rfl ?_
        refine z_if_eq (tgt := 107) ok dX12_causeOf_100 (by decide) hf (fun _ hf => ?_) (fun _ hf => ?_)
        · refine z_aload_n ok dX12_causeOf_107 1 rfl ?_
          refine z_getr (q := 183) ok kc_171 zc_12 hin_12 20 (by decide) fl_12_71 rfl dX12_causeOf_108 ?_
          refine z_bipush (v := 24) ok dX12_causeOf_111 (by decide) ?_
          refine z_iload_n ok dX12_causeOf_113 2 rfl ?_
          refine z_iadd ok dX12_causeOf_114 ?_
          refine z_iald ok kc_183 dX12_causeOf_115 hf (fun v115 hf => ?_)
          refine z_if_le (tgt := 123) ok dX12_causeOf_116 (by decide) hf (fun _ hf => ?_) (fun _ hf => ?_)
          · refine z_iconst (v := 5) ok dX12_causeOf_123 (by decide) ?_
            obtain rfl := Option.some.inj hf
            exact hk _ _ dX12_causeOf_124
          · refine z_iconst (v := 4) ok dX12_causeOf_119 (by decide) ?_
            refine z_goto (tgt := 124) ok dX12_causeOf_120 (by decide) ?_
            obtain rfl := Option.some.inj hf
            exact hk _ _ dX12_causeOf_124
        · refine z_iconst (v := 3) ok dX12_causeOf_103 (by decide) ?_
          refine z_goto (tgt := 124) ok dX12_causeOf_104 (by decide) ?_
          obtain rfl := Option.some.inj hf
          exact hk _ _ dX12_causeOf_124
      · refine z_iconst (v := 2) ok dX12_causeOf_97 (by decide) ?_
        obtain rfl := Option.some.inj hf
        exact hk _ _ dX12_causeOf_98
def M_causeOf (σ : Sg) (x1 : Int32) : Option Int32 :=
  zrd σ 183 1607 196 fun v7 =>
  zlt (v7 + 1) fun v10 =>
  zrd σ 183 1607 (8 + x1) fun v19 =>
  (M_wanted σ x1 v10).bind fun r23 =>
  if v19 = r23 then (
    M_causeOf_j34 σ x1 v10 0
  ) else (
    M_causeOf_j34 σ x1 v10 1
  )
set_option maxRecDepth 20000 in
theorem t_M_causeOf {X : Zx} {Q : State → Prop} {σ : Sg} {x1 : Int32} (ok : Zok X cX12_causeOf RX12 rm_M_causeOf 198 4)  {out : Int32} (hf : M_causeOf σ x1 = some out) (hk : ZrI cX12_causeOf X Q out σ) : ZAt X Q 0 0 0 σ [(0, .ref (X.ad 171)), (1, .int x1)] [] := by
  unfold M_causeOf at hf
  refine z_aload_n ok dX12_causeOf_0 0 rfl ?_
  refine z_getr (q := 183) ok kc_171 zc_12 hin_12 20 (by decide) fl_12_71 rfl dX12_causeOf_1 ?_
  refine z_sipush (v := 196) ok dX12_causeOf_4 (by decide) ?_
  refine z_iald ok kc_183 dX12_causeOf_7 hf (fun v7 hf => ?_)
  refine z_iconst (v := 1) ok dX12_causeOf_8 (by decide) ?_
  refine z_iadd ok dX12_causeOf_9 ?_
  refine z_nm hf (fun v10 hf => ?_)
  refine z_istore_n (lv' := [(2, .int v10), (0, .ref (X.ad 171)), (1, .int x1)]) ok dX12_causeOf_10 (by decide) rfl ?_
  refine z_aload_n ok dX12_causeOf_11 1 rfl ?_
  refine z_getr (q := 183) ok kc_171 zc_12 hin_12 20 (by decide) fl_12_71 rfl dX12_causeOf_12 ?_
  refine z_bipush (v := 8) ok dX12_causeOf_15 (by decide) ?_
  refine z_iload_n ok dX12_causeOf_17 2 rfl ?_
  refine z_iadd ok dX12_causeOf_18 ?_
  refine z_iald ok kc_183 dX12_causeOf_19 hf (fun v19 hf => ?_)
  refine z_aload_n ok dX12_causeOf_20 1 rfl ?_
  refine z_iload_n ok dX12_causeOf_21 2 rfl ?_
  refine z_iload_n ok dX12_causeOf_22 0 rfl ?_
  refine z_call hf (fun r23 h23 hf => ?_)
  refine z_cV (As := [.int x1, .int v10]) (rest := [.int v19]) (w := 171) ok kc_171 zc_12 (c_M_wanted h23) rfl ⟨ml_12_279, w_M_wanted⟩ hy_M_wanted ⟨rfl, rfl⟩ ⟨Nat.le_of_ble_eq_true rfl, Nat.le_of_ble_eq_true rfl⟩ ⟨Nat.zero_le _, Nat.zero_le _⟩ rfl (Nat.le_of_ble_eq_true rfl) dX12_causeOf_23 ?_
  refine z_icmp_eq (tgt := 33) ok dX12_causeOf_26 (by decide) hf (fun _ hf => ?_) (fun _ hf => ?_)
  · refine z_iconst (v := 0) ok dX12_causeOf_33 (by decide) ?_
    exact z_sub [1, 2, 0] rfl (t_M_causeOf_j34 ok hf hk)
  · refine z_iconst (v := 1) ok dX12_causeOf_29 (by decide) ?_
    refine z_goto (tgt := 34) ok dX12_causeOf_30 (by decide) ?_
    exact z_sub [1, 2, 0] rfl (t_M_causeOf_j34 ok hf hk)
theorem c_M_causeOf {σ : Sg} {x1 : Int32} {r : Int32} (h : M_causeOf σ x1 = some r) : ZcI yX12_causeOf cX12_causeOf 4 .int rm_M_causeOf 198 (fun ad => [.ref (ad 171), .int x1]) σ r σ :=
  zmetI pn_12 rfl (fun _ => rfl) (fun _ => Nat.le_of_ble_eq_true rfl) rfl (fun X Q ok hk => t_M_causeOf ok h hk)
theorem dX12_watches_0 : decode cX12_watches 0 = .ok (.aload_n 0, 1) := by decide +kernel
theorem dX12_watches_1 : decode cX12_watches 1 = .ok (.iload_n 1, 1) := by decide +kernel
theorem dX12_watches_2 : decode cX12_watches 2 = .ok (.invokevirtual 282, 3) := by decide +kernel
theorem dX12_watches_5 : decode cX12_watches 5 = .ok (.istore_n 2, 1) := by decide +kernel
theorem dX12_watches_6 : decode cX12_watches 6 = .ok (.iload_n 2, 1) := by decide +kernel
theorem dX12_watches_7 : decode cX12_watches 7 = .ok (.ifCond .le 20, 3) := by decide +kernel
theorem dX12_watches_10 : decode cX12_watches 10 = .ok (.iload_n 2, 1) := by decide +kernel
theorem dX12_watches_11 : decode cX12_watches 11 = .ok (.aload_n 0, 1) := by decide +kernel
theorem dX12_watches_12 : decode cX12_watches 12 = .ok (.getfield 71, 3) := by decide +kernel
theorem dX12_watches_15 : decode cX12_watches 15 = .ok (.bipush 32, 2) := by decide +kernel
theorem dX12_watches_17 : decode cX12_watches 17 = .ok (.iload_n 1, 1) := by decide +kernel
theorem dX12_watches_18 : decode cX12_watches 18 = .ok (.iadd, 1) := by decide +kernel
theorem dX12_watches_19 : decode cX12_watches 19 = .ok (.iaload, 1) := by decide +kernel
theorem dX12_watches_20 : decode cX12_watches 20 = .ok (.if_icmp .eq 7, 3) := by decide +kernel
theorem dX12_watches_23 : decode cX12_watches 23 = .ok (.iconst 1, 1) := by decide +kernel
theorem dX12_watches_24 : decode cX12_watches 24 = .ok (.goto 4, 3) := by decide +kernel
theorem dX12_watches_27 : decode cX12_watches 27 = .ok (.iconst 0, 1) := by decide +kernel
theorem dX12_watches_28 : decode cX12_watches 28 = .ok (.istore_n 3, 1) := by decide +kernel
theorem dX12_watches_29 : decode cX12_watches 29 = .ok (.aload_n 0, 1) := by decide +kernel
theorem dX12_watches_30 : decode cX12_watches 30 = .ok (.getfield 71, 3) := by decide +kernel
theorem dX12_watches_33 : decode cX12_watches 33 = .ok (.bipush 32, 2) := by decide +kernel
theorem dX12_watches_35 : decode cX12_watches 35 = .ok (.iload_n 1, 1) := by decide +kernel
theorem dX12_watches_36 : decode cX12_watches 36 = .ok (.iadd, 1) := by decide +kernel
theorem dX12_watches_37 : decode cX12_watches 37 = .ok (.iload_n 2, 1) := by decide +kernel
theorem dX12_watches_38 : decode cX12_watches 38 = .ok (.iastore, 1) := by decide +kernel
theorem dX12_watches_39 : decode cX12_watches 39 = .ok (.iload_n 3, 1) := by decide +kernel
theorem dX12_watches_40 : decode cX12_watches 40 = .ok (.ifCond .eq 10, 3) := by decide +kernel
theorem dX12_watches_43 : decode cX12_watches 43 = .ok (.aload_n 0, 1) := by decide +kernel
theorem dX12_watches_44 : decode cX12_watches 44 = .ok (.getfield 90, 3) := by decide +kernel
theorem dX12_watches_47 : decode cX12_watches 47 = .ok (.ifCond .eq 4, 3) := by decide +kernel
theorem dX12_watches_50 : decode cX12_watches 50 = .ok (.return_, 1) := by decide +kernel
theorem dX12_watches_51 : decode cX12_watches 51 = .ok (.aload_n 0, 1) := by decide +kernel
theorem dX12_watches_52 : decode cX12_watches 52 = .ok (.getfield 71, 3) := by decide +kernel
theorem dX12_watches_55 : decode cX12_watches 55 = .ok (.sipush 205, 3) := by decide +kernel
theorem dX12_watches_58 : decode cX12_watches 58 = .ok (.iaload, 1) := by decide +kernel
theorem dX12_watches_59 : decode cX12_watches 59 = .ok (.bipush 40, 2) := by decide +kernel
theorem dX12_watches_61 : decode cX12_watches 61 = .ok (.if_icmp .ne 55, 3) := by decide +kernel
theorem dX12_watches_64 : decode cX12_watches 64 = .ok (.iconst 0, 1) := by decide +kernel
theorem dX12_watches_65 : decode cX12_watches 65 = .ok (.istore 4, 2) := by decide +kernel
theorem dX12_watches_67 : decode cX12_watches 67 = .ok (.iload 4, 2) := by decide +kernel
theorem dX12_watches_69 : decode cX12_watches 69 = .ok (.bipush 117, 2) := by decide +kernel
theorem dX12_watches_71 : decode cX12_watches 71 = .ok (.if_icmp .ge 33, 3) := by decide +kernel
theorem dX12_watches_74 : decode cX12_watches 74 = .ok (.aload_n 0, 1) := by decide +kernel
theorem dX12_watches_75 : decode cX12_watches 75 = .ok (.getfield 71, 3) := by decide +kernel
theorem dX12_watches_78 : decode cX12_watches 78 = .ok (.sipush 207, 3) := by decide +kernel
theorem dX12_watches_81 : decode cX12_watches 81 = .ok (.iload 4, 2) := by decide +kernel
theorem dX12_watches_83 : decode cX12_watches 83 = .ok (.iadd, 1) := by decide +kernel
theorem dX12_watches_84 : decode cX12_watches 84 = .ok (.aload_n 0, 1) := by decide +kernel
theorem dX12_watches_85 : decode cX12_watches 85 = .ok (.getfield 71, 3) := by decide +kernel
theorem dX12_watches_88 : decode cX12_watches 88 = .ok (.sipush 207, 3) := by decide +kernel
theorem dX12_watches_91 : decode cX12_watches 91 = .ok (.iload 4, 2) := by decide +kernel
theorem dX12_watches_93 : decode cX12_watches 93 = .ok (.iadd, 1) := by decide +kernel
theorem dX12_watches_94 : decode cX12_watches 94 = .ok (.iconst 3, 1) := by decide +kernel
theorem dX12_watches_95 : decode cX12_watches 95 = .ok (.iadd, 1) := by decide +kernel
theorem dX12_watches_96 : decode cX12_watches 96 = .ok (.iaload, 1) := by decide +kernel
theorem dX12_watches_97 : decode cX12_watches 97 = .ok (.iastore, 1) := by decide +kernel
theorem dX12_watches_98 : decode cX12_watches 98 = .ok (.iinc 4 1, 3) := by decide +kernel
theorem dX12_watches_101 : decode cX12_watches 101 = .ok (.goto (-34), 3) := by decide +kernel
theorem dX12_watches_104 : decode cX12_watches 104 = .ok (.aload_n 0, 1) := by decide +kernel
theorem dX12_watches_105 : decode cX12_watches 105 = .ok (.getfield 71, 3) := by decide +kernel
theorem dX12_watches_108 : decode cX12_watches 108 = .ok (.sipush 205, 3) := by decide +kernel
theorem dX12_watches_111 : decode cX12_watches 111 = .ok (.dup2, 1) := by decide +kernel
theorem dX12_watches_112 : decode cX12_watches 112 = .ok (.iaload, 1) := by decide +kernel
theorem dX12_watches_113 : decode cX12_watches 113 = .ok (.iconst 1, 1) := by decide +kernel
theorem dX12_watches_114 : decode cX12_watches 114 = .ok (.isub, 1) := by decide +kernel
theorem dX12_watches_115 : decode cX12_watches 115 = .ok (.iastore, 1) := by decide +kernel
theorem dX12_watches_116 : decode cX12_watches 116 = .ok (.sipush 207, 3) := by decide +kernel
theorem dX12_watches_119 : decode cX12_watches 119 = .ok (.iconst 3, 1) := by decide +kernel
theorem dX12_watches_120 : decode cX12_watches 120 = .ok (.aload_n 0, 1) := by decide +kernel
theorem dX12_watches_121 : decode cX12_watches 121 = .ok (.getfield 71, 3) := by decide +kernel
theorem dX12_watches_124 : decode cX12_watches 124 = .ok (.sipush 205, 3) := by decide +kernel
theorem dX12_watches_127 : decode cX12_watches 127 = .ok (.iaload, 1) := by decide +kernel
theorem dX12_watches_128 : decode cX12_watches 128 = .ok (.imul, 1) := by decide +kernel
theorem dX12_watches_129 : decode cX12_watches 129 = .ok (.iadd, 1) := by decide +kernel
theorem dX12_watches_130 : decode cX12_watches 130 = .ok (.istore 4, 2) := by decide +kernel
theorem dX12_watches_132 : decode cX12_watches 132 = .ok (.aload_n 0, 1) := by decide +kernel
theorem dX12_watches_133 : decode cX12_watches 133 = .ok (.getfield 71, 3) := by decide +kernel
theorem dX12_watches_136 : decode cX12_watches 136 = .ok (.iload 4, 2) := by decide +kernel
theorem dX12_watches_138 : decode cX12_watches 138 = .ok (.aload_n 0, 1) := by decide +kernel
theorem dX12_watches_139 : decode cX12_watches 139 = .ok (.getfield 71, 3) := by decide +kernel
theorem dX12_watches_142 : decode cX12_watches 142 = .ok (.sipush 196, 3) := by decide +kernel
theorem dX12_watches_145 : decode cX12_watches 145 = .ok (.iaload, 1) := by decide +kernel
theorem dX12_watches_146 : decode cX12_watches 146 = .ok (.iastore, 1) := by decide +kernel
theorem dX12_watches_147 : decode cX12_watches 147 = .ok (.aload_n 0, 1) := by decide +kernel
theorem dX12_watches_148 : decode cX12_watches 148 = .ok (.getfield 71, 3) := by decide +kernel
theorem dX12_watches_151 : decode cX12_watches 151 = .ok (.iload 4, 2) := by decide +kernel
theorem dX12_watches_153 : decode cX12_watches 153 = .ok (.iconst 1, 1) := by decide +kernel
theorem dX12_watches_154 : decode cX12_watches 154 = .ok (.iadd, 1) := by decide +kernel
theorem dX12_watches_155 : decode cX12_watches 155 = .ok (.iload_n 1, 1) := by decide +kernel
theorem dX12_watches_156 : decode cX12_watches 156 = .ok (.iastore, 1) := by decide +kernel
theorem dX12_watches_157 : decode cX12_watches 157 = .ok (.aload_n 0, 1) := by decide +kernel
theorem dX12_watches_158 : decode cX12_watches 158 = .ok (.getfield 71, 3) := by decide +kernel
theorem dX12_watches_161 : decode cX12_watches 161 = .ok (.iload 4, 2) := by decide +kernel
theorem dX12_watches_163 : decode cX12_watches 163 = .ok (.iconst 2, 1) := by decide +kernel
theorem dX12_watches_164 : decode cX12_watches 164 = .ok (.iadd, 1) := by decide +kernel
theorem dX12_watches_165 : decode cX12_watches 165 = .ok (.aload_n 0, 1) := by decide +kernel
theorem dX12_watches_166 : decode cX12_watches 166 = .ok (.iload_n 1, 1) := by decide +kernel
theorem dX12_watches_167 : decode cX12_watches 167 = .ok (.invokevirtual 285, 3) := by decide +kernel
theorem dX12_watches_170 : decode cX12_watches 170 = .ok (.iastore, 1) := by decide +kernel
theorem dX12_watches_171 : decode cX12_watches 171 = .ok (.aload_n 0, 1) := by decide +kernel
theorem dX12_watches_172 : decode cX12_watches 172 = .ok (.getfield 71, 3) := by decide +kernel
theorem dX12_watches_175 : decode cX12_watches 175 = .ok (.sipush 205, 3) := by decide +kernel
theorem dX12_watches_178 : decode cX12_watches 178 = .ok (.dup2, 1) := by decide +kernel
theorem dX12_watches_179 : decode cX12_watches 179 = .ok (.iaload, 1) := by decide +kernel
theorem dX12_watches_180 : decode cX12_watches 180 = .ok (.iconst 1, 1) := by decide +kernel
theorem dX12_watches_181 : decode cX12_watches 181 = .ok (.iadd, 1) := by decide +kernel
theorem dX12_watches_182 : decode cX12_watches 182 = .ok (.iastore, 1) := by decide +kernel
theorem dX12_watches_183 : decode cX12_watches 183 = .ok (.return_, 1) := by decide +kernel
abbrev rm_M_watches : Room := { frames := 6, cells := 0, slots := 0, locals := 139 }
def M_watches_l67 (σ : Sg) (x1 : Int32) (x4 : Int32) : Option ((Sg × Int32) ⊕ (Sg × Int32)) :=
  if 117 ≤ x4 then (
    some (.inr (σ, x4))
  ) else (
    zrd σ 183 1607 ((207 + x4) + 3) fun v96 =>
    zwr σ 183 1607 (207 + x4) v96 fun σ97 =>
    zlt (x4 + 1) fun v98 =>
    some (.inl (σ97, v98))
  )
set_option maxRecDepth 20000 in
theorem t_M_watches_l67 {X : Zx} {Q : State → Prop} {σ : Sg} {x1 : Int32} {x4 : Int32} (ok : Zok X cX12_watches RX12 rm_M_watches 198 5)  {out : ((Sg × Int32) ⊕ (Sg × Int32))} (hf : M_watches_l67 σ x1 x4 = some out) (hk : zout (fun (s : (Sg × Int32)) => ZAt X Q 0 0 67 s.1 [(0, .ref (X.ad 171)), (1, .int x1), (4, .int s.2)] []) (fun (s : (Sg × Int32)) => ZAt X Q 0 0 104 s.1 [(0, .ref (X.ad 171)), (1, .int x1)] []) out) : ZAt X Q 0 0 67 σ [(0, .ref (X.ad 171)), (1, .int x1), (4, .int x4)] [] := by
  unfold M_watches_l67 at hf
  refine z_iload ok dX12_watches_67 2 rfl ?_
  refine z_bipush (v := 117) ok dX12_watches_69 (by decide) ?_
  refine z_icmp_ge (tgt := 104) ok dX12_watches_71 (by decide) hf (fun _ hf => ?_) (fun _ hf => ?_)
  · obtain rfl := Option.some.inj hf
    exact z_sub [0, 1] rfl hk
  · refine z_aload_n ok dX12_watches_74 0 rfl ?_
    refine z_getr (q := 183) ok kc_171 zc_12 hin_12 20 (by decide) fl_12_71 rfl dX12_watches_75 ?_
    refine z_sipush (v := 207) ok dX12_watches_78 (by decide) ?_
    refine z_iload ok dX12_watches_81 2 rfl ?_
    refine z_iadd ok dX12_watches_83 ?_
    refine z_aload_n ok dX12_watches_84 0 rfl ?_
    refine z_getr (q := 183) ok kc_171 zc_12 hin_12 20 (by decide) fl_12_71 rfl dX12_watches_85 ?_
    refine z_sipush (v := 207) ok dX12_watches_88 (by decide) ?_
    refine z_iload ok dX12_watches_91 2 rfl ?_
    refine z_iadd ok dX12_watches_93 ?_
    refine z_iconst (v := 3) ok dX12_watches_94 (by decide) ?_
    refine z_iadd ok dX12_watches_95 ?_
    refine z_iald ok kc_183 dX12_watches_96 hf (fun v96 hf => ?_)
    refine z_iast ok kc_183 dX12_watches_97 hf (fun σ97 hf => ?_)
    refine z_iinc (w := 1) (lv' := fun v98 => [(4, .int v98), (0, .ref (X.ad 171)), (1, .int x1)]) ok dX12_watches_98 2 rfl (by decide) (by decide) (fun _ => rfl) hf (fun v98 hf => ?_)
    refine z_goto (tgt := 67) ok dX12_watches_101 (by decide) ?_
    obtain rfl := Option.some.inj hf
    exact z_sub [1, 2, 0] rfl hk
def M_watches_j116 (σ : Sg) (x1 : Int32) : Option Sg :=
  zrd σ 183 1607 205 fun v127 =>
  zlt (207 + (3 * v127)) fun v130 =>
  zrd σ 183 1607 196 fun v145 =>
  zwr σ 183 1607 v130 v145 fun σ146 =>
  zwr σ146 183 1607 (v130 + 1) x1 fun σ156 =>
  (M_causeOf σ156 x1).bind fun r167 =>
  zwr σ156 183 1607 (v130 + 2) r167 fun σ170 =>
  zrd σ170 183 1607 205 fun v179 =>
  zwr σ170 183 1607 205 (v179 + 1) fun σ182 =>
  some σ182
set_option maxRecDepth 20000 in
theorem t_M_watches_j116 {X : Zx} {Q : State → Prop} {σ : Sg} {x1 : Int32} (ok : Zok X cX12_watches RX12 rm_M_watches 198 5)  {out : Sg} (hf : M_watches_j116 σ x1 = some out) (hk : ZrV cX12_watches X Q out) : ZAt X Q 0 0 116 σ [(0, .ref (X.ad 171)), (1, .int x1)] [] := by
  unfold M_watches_j116 at hf
  refine z_sipush (v := 207) ok dX12_watches_116 (by decide) ?_
  refine z_iconst (v := 3) ok dX12_watches_119 (by decide) ?_
  refine z_aload_n ok dX12_watches_120 0 rfl ?_
  refine z_getr (q := 183) ok kc_171 zc_12 hin_12 20 (by decide) fl_12_71 rfl dX12_watches_121 ?_
  refine z_sipush (v := 205) ok dX12_watches_124 (by decide) ?_
  refine z_iald ok kc_183 dX12_watches_127 hf (fun v127 hf => ?_)
  refine z_imul ok dX12_watches_128 ?_
  refine z_iadd ok dX12_watches_129 ?_
  refine z_nm hf (fun v130 hf => ?_)
  refine z_istore (lv' := [(4, .int v130), (0, .ref (X.ad 171)), (1, .int x1)]) ok dX12_watches_130 (by decide) rfl ?_
  refine z_aload_n ok dX12_watches_132 1 rfl ?_
  refine z_getr (q := 183) ok kc_171 zc_12 hin_12 20 (by decide) fl_12_71 rfl dX12_watches_133 ?_
  refine z_iload ok dX12_watches_136 0 rfl ?_
  refine z_aload_n ok dX12_watches_138 1 rfl ?_
  refine z_getr (q := 183) ok kc_171 zc_12 hin_12 20 (by decide) fl_12_71 rfl dX12_watches_139 ?_
  refine z_sipush (v := 196) ok dX12_watches_142 (by decide) ?_
  refine z_iald ok kc_183 dX12_watches_145 hf (fun v145 hf => ?_)
  refine z_iast ok kc_183 dX12_watches_146 hf (fun σ146 hf => ?_)
  refine z_aload_n ok dX12_watches_147 1 rfl ?_
  refine z_getr (q := 183) ok kc_171 zc_12 hin_12 20 (by decide) fl_12_71 rfl dX12_watches_148 ?_
  refine z_iload ok dX12_watches_151 0 rfl ?_
  refine z_iconst (v := 1) ok dX12_watches_153 (by decide) ?_
  refine z_iadd ok dX12_watches_154 ?_
  refine z_iload_n ok dX12_watches_155 2 rfl ?_
  refine z_iast ok kc_183 dX12_watches_156 hf (fun σ156 hf => ?_)
  refine z_aload_n ok dX12_watches_157 1 rfl ?_
  refine z_getr (q := 183) ok kc_171 zc_12 hin_12 20 (by decide) fl_12_71 rfl dX12_watches_158 ?_
  refine z_iload ok dX12_watches_161 0 rfl ?_
  refine z_iconst (v := 2) ok dX12_watches_163 (by decide) ?_
  refine z_iadd ok dX12_watches_164 ?_
  refine z_aload_n ok dX12_watches_165 1 rfl ?_
  refine z_iload_n ok dX12_watches_166 2 rfl ?_
  refine z_call hf (fun r167 h167 hf => ?_)
  refine z_cV (As := [.int x1]) (rest := [.int (v130 + 2), .ref (X.ad 183)]) (w := 171) ok kc_171 zc_12 (c_M_causeOf h167) rfl ⟨ml_12_285, w_M_causeOf⟩ hy_M_causeOf ⟨rfl, rfl⟩ ⟨Nat.le_of_ble_eq_true rfl, Nat.le_of_ble_eq_true rfl⟩ ⟨Nat.zero_le _, Nat.zero_le _⟩ rfl (Nat.le_of_ble_eq_true rfl) dX12_watches_167 ?_
  refine z_iast ok kc_183 dX12_watches_170 hf (fun σ170 hf => ?_)
  refine z_aload_n ok dX12_watches_171 1 rfl ?_
  refine z_getr (q := 183) ok kc_171 zc_12 hin_12 20 (by decide) fl_12_71 rfl dX12_watches_172 ?_
  refine z_sipush (v := 205) ok dX12_watches_175 (by decide) ?_
  refine z_dup2 ok dX12_watches_178 rfl rfl ?_
  refine z_iald ok kc_183 dX12_watches_179 hf (fun v179 hf => ?_)
  refine z_iconst (v := 1) ok dX12_watches_180 (by decide) ?_
  refine z_iadd ok dX12_watches_181 ?_
  refine z_iast ok kc_183 dX12_watches_182 hf (fun σ182 hf => ?_)
  obtain rfl := Option.some.inj hf
  exact hk _ _ dX12_watches_183
def M_watches_j104 (σ : Sg) (x1 : Int32) : Option Sg :=
  zrd σ 183 1607 205 fun v112 =>
  zwr σ 183 1607 205 (v112 - 1) fun σ115 =>
  M_watches_j116 σ115 x1
set_option maxRecDepth 20000 in
theorem t_M_watches_j104 {X : Zx} {Q : State → Prop} {σ : Sg} {x1 : Int32} (ok : Zok X cX12_watches RX12 rm_M_watches 198 5)  {out : Sg} (hf : M_watches_j104 σ x1 = some out) (hk : ZrV cX12_watches X Q out) : ZAt X Q 0 0 104 σ [(0, .ref (X.ad 171)), (1, .int x1)] [] := by
  unfold M_watches_j104 at hf
  refine z_aload_n ok dX12_watches_104 0 rfl ?_
  refine z_getr (q := 183) ok kc_171 zc_12 hin_12 20 (by decide) fl_12_71 rfl dX12_watches_105 ?_
  refine z_sipush (v := 205) ok dX12_watches_108 (by decide) ?_
  refine z_dup2 ok dX12_watches_111 rfl rfl ?_
  refine z_iald ok kc_183 dX12_watches_112 hf (fun v112 hf => ?_)
  refine z_iconst (v := 1) ok dX12_watches_113 (by decide) ?_
  refine z_isub ok dX12_watches_114 ?_
  refine z_iast ok kc_183 dX12_watches_115 hf (fun σ115 hf => ?_)
  exact z_sub [0, 1] rfl (t_M_watches_j116 ok hf hk)
def M_watches_j28 (σ : Sg) (x1 : Int32) (x2 : Int32) (s0 : Int32) : Option Sg :=
  zwr σ 183 1607 (32 + x1) x2 fun σ38 =>
  if s0 = 0 then (
    some σ38
  ) else (
    zgt σ38 171 26 fun v44 =>
    if v44 = 0 then (
      zrd σ38 183 1607 205 fun v58 =>
      if v58 = 40 then (
        zlt 0 fun v65 =>
        (zit (fun (s : (Sg × Int32)) => M_watches_l67 s.1 x1 s.2) zFU (σ38, v65)).bind fun r =>
        M_watches_j104 r.1 x1
      ) else (
        M_watches_j116 σ38 x1
      )
    ) else (
      some σ38
    )
  )
set_option maxRecDepth 20000 in
theorem t_M_watches_j28 {X : Zx} {Q : State → Prop} {σ : Sg} {x1 : Int32} {x2 : Int32} {s0 : Int32} (ok : Zok X cX12_watches RX12 rm_M_watches 198 5)  {out : Sg} (hf : M_watches_j28 σ x1 x2 s0 = some out) (hk : ZrV cX12_watches X Q out) : ZAt X Q 0 0 28 σ [(0, .ref (X.ad 171)), (1, .int x1), (2, .int x2)] [.int s0] := by
  unfold M_watches_j28 at hf
  refine z_istore_n (lv' := [(3, .int s0), (0, .ref (X.ad 171)), (1, .int x1), (2, .int x2)]) ok dX12_watches_28 (by decide) rfl ?_
  refine z_aload_n ok dX12_watches_29 1 rfl ?_
  refine z_getr (q := 183) ok kc_171 zc_12 hin_12 20 (by decide) fl_12_71 rfl dX12_watches_30 ?_
  refine z_bipush (v := 32) ok dX12_watches_33 (by decide) ?_
  refine z_iload_n ok dX12_watches_35 2 rfl ?_
  refine z_iadd ok dX12_watches_36 ?_
  refine z_iload_n ok dX12_watches_37 3 rfl ?_
  refine z_iast ok kc_183 dX12_watches_38 hf (fun σ38 hf => ?_)
  refine z_iload_n ok dX12_watches_39 0 rfl ?_
  refine z_if_eq (tgt := 50) ok dX12_watches_40 (by decide) hf (fun _ hf => ?_) (fun _ hf => ?_)
  · obtain rfl := Option.some.inj hf
    exact hk _ _ dX12_watches_50
  · refine z_aload_n ok dX12_watches_43 1 rfl ?_
    refine z_geti ok kc_171 zc_12 hin_12 26 (by decide) fl_12_90 rfl dX12_watches_44 hf (fun v44 hf => ?_)
    refine z_if_eq (tgt := 51) ok dX12_watches_47 (by decide) hf (fun _ hf => ?_) (fun _ hf => ?_)
    · refine z_aload_n ok dX12_watches_51 1 rfl ?_
      refine z_getr (q := 183) ok kc_171 zc_12 hin_12 20 (by decide) fl_12_71 rfl dX12_watches_52 ?_
      refine z_sipush (v := 205) ok dX12_watches_55 (by decide) ?_
      refine z_iald ok kc_183 dX12_watches_58 hf (fun v58 hf => ?_)
      refine z_bipush (v := 40) ok dX12_watches_59 (by decide) ?_
      refine z_icmp_ne (tgt := 116) ok dX12_watches_61 (by decide) hf (fun _ hf => ?_) (fun _ hf => ?_)
      · refine z_iconst (v := 0) ok dX12_watches_64 (by decide) ?_
        refine z_nm hf (fun v65 hf => ?_)
        refine z_istore (lv' := [(4, .int v65), (3, .int s0), (0, .ref (X.ad 171)), (1, .int x1), (2, .int x2)]) ok dX12_watches_65 (by decide) rfl ?_
        refine z_call hf (fun r hr hf => ?_)
        refine z_sub [2, 3, 0] rfl (z_iter (fun (s : (Sg × Int32)) => s.1) (fun (s : (Sg × Int32)) => [(0, .ref (X.ad 171)), (1, .int x1), (4, .int s.2)]) (fun s o h1 h2 => t_M_watches_l67 ok h1 h2) _ _ _ hr ?_)
        show ZAt X Q 0 0 104 r.1 [(0, .ref (X.ad 171)), (1, .int x1)] []
        exact z_sub [0, 1] rfl (t_M_watches_j104 ok hf hk)
      · exact z_sub [1, 2] rfl (t_M_watches_j116 ok hf hk)
    · obtain rfl := Option.some.inj hf
      exact hk _ _ dX12_watches_50
def M_watches_j27 (σ : Sg) (x1 : Int32) (x2 : Int32) : Option Sg :=
  M_watches_j28 σ x1 x2 0
set_option maxRecDepth 20000 in
theorem t_M_watches_j27 {X : Zx} {Q : State → Prop} {σ : Sg} {x1 : Int32} {x2 : Int32} (ok : Zok X cX12_watches RX12 rm_M_watches 198 5)  {out : Sg} (hf : M_watches_j27 σ x1 x2 = some out) (hk : ZrV cX12_watches X Q out) : ZAt X Q 0 0 27 σ [(0, .ref (X.ad 171)), (1, .int x1), (2, .int x2)] [] := by
  unfold M_watches_j27 at hf
  refine z_iconst (v := 0) ok dX12_watches_27 (by decide) ?_
  exact z_sub [0, 1, 2] rfl (t_M_watches_j28 ok hf hk)
def M_watches (σ : Sg) (x1 : Int32) : Option Sg :=
  (M_standOf σ x1).bind fun r2 =>
  zlt r2 fun v5 =>
  if v5 ≤ 0 then (
    M_watches_j27 σ x1 v5
  ) else (
    zrd σ 183 1607 (32 + x1) fun v19 =>
    if v5 = v19 then (
      M_watches_j27 σ x1 v5
    ) else (
      M_watches_j28 σ x1 v5 1
    )
  )
set_option maxRecDepth 20000 in
theorem t_M_watches {X : Zx} {Q : State → Prop} {σ : Sg} {x1 : Int32} (ok : Zok X cX12_watches RX12 rm_M_watches 198 5)  {out : Sg} (hf : M_watches σ x1 = some out) (hk : ZrV cX12_watches X Q out) : ZAt X Q 0 0 0 σ [(0, .ref (X.ad 171)), (1, .int x1)] [] := by
  unfold M_watches at hf
  refine z_aload_n ok dX12_watches_0 0 rfl ?_
  refine z_iload_n ok dX12_watches_1 1 rfl ?_
  refine z_call hf (fun r2 h2 hf => ?_)
  refine z_cV (As := [.int x1]) (rest := []) (w := 171) ok kc_171 zc_12 (c_M_standOf h2) rfl ⟨ml_12_282, w_M_standOf⟩ hy_M_standOf ⟨rfl, rfl⟩ ⟨Nat.le_of_ble_eq_true rfl, Nat.le_of_ble_eq_true rfl⟩ ⟨Nat.zero_le _, Nat.zero_le _⟩ rfl (Nat.le_of_ble_eq_true rfl) dX12_watches_2 ?_
  refine z_nm hf (fun v5 hf => ?_)
  refine z_istore_n (lv' := [(2, .int v5), (0, .ref (X.ad 171)), (1, .int x1)]) ok dX12_watches_5 (by decide) rfl ?_
  refine z_iload_n ok dX12_watches_6 0 rfl ?_
  refine z_if_le (tgt := 27) ok dX12_watches_7 (by decide) hf (fun _ hf => ?_) (fun _ hf => ?_)
  · exact z_sub [1, 2, 0] rfl (t_M_watches_j27 ok hf hk)
  · refine z_iload_n ok dX12_watches_10 0 rfl ?_
    refine z_aload_n ok dX12_watches_11 1 rfl ?_
    refine z_getr (q := 183) ok kc_171 zc_12 hin_12 20 (by decide) fl_12_71 rfl dX12_watches_12 ?_
    refine z_bipush (v := 32) ok dX12_watches_15 (by decide) ?_
    refine z_iload_n ok dX12_watches_17 2 rfl ?_
    refine z_iadd ok dX12_watches_18 ?_
    refine z_iald ok kc_183 dX12_watches_19 hf (fun v19 hf => ?_)
    refine z_icmp_eq (tgt := 27) ok dX12_watches_20 (by decide) hf (fun _ hf => ?_) (fun _ hf => ?_)
    · exact z_sub [1, 2, 0] rfl (t_M_watches_j27 ok hf hk)
    · refine z_iconst (v := 1) ok dX12_watches_23 (by decide) ?_
      refine z_goto (tgt := 28) ok dX12_watches_24 (by decide) ?_
      exact z_sub [1, 2, 0] rfl (t_M_watches_j28 ok hf hk)
theorem c_M_watches {σ : Sg} {x1 : Int32} {r : Sg} (h : M_watches σ x1 = some r) : ZcV yX12_watches cX12_watches 5 rm_M_watches 198 (fun ad => [.ref (ad 171), .int x1]) σ r :=
  zmetV pn_12 rfl (fun _ => rfl) (fun _ => Nat.le_of_ble_eq_true rfl) (fun X Q ok hk => t_M_watches ok h hk)
theorem dX12_notes_0 : decode cX12_notes 0 = .ok (.sipush 1279, 3) := by decide +kernel
theorem dX12_notes_3 : decode cX12_notes 3 = .ok (.istore_n 1, 1) := by decide +kernel
theorem dX12_notes_4 : decode cX12_notes 4 = .ok (.iload_n 1, 1) := by decide +kernel
theorem dX12_notes_5 : decode cX12_notes 5 = .ok (.bipush 32, 2) := by decide +kernel
theorem dX12_notes_7 : decode cX12_notes 7 = .ok (.if_icmp .lt 32, 3) := by decide +kernel
theorem dX12_notes_10 : decode cX12_notes 10 = .ok (.aload_n 0, 1) := by decide +kernel
theorem dX12_notes_11 : decode cX12_notes 11 = .ok (.getfield 71, 3) := by decide +kernel
theorem dX12_notes_14 : decode cX12_notes 14 = .ok (.sipush 327, 3) := by decide +kernel
theorem dX12_notes_17 : decode cX12_notes 17 = .ok (.iload_n 1, 1) := by decide +kernel
theorem dX12_notes_18 : decode cX12_notes 18 = .ok (.iadd, 1) := by decide +kernel
theorem dX12_notes_19 : decode cX12_notes 19 = .ok (.aload_n 0, 1) := by decide +kernel
theorem dX12_notes_20 : decode cX12_notes 20 = .ok (.getfield 71, 3) := by decide +kernel
theorem dX12_notes_23 : decode cX12_notes 23 = .ok (.sipush 327, 3) := by decide +kernel
theorem dX12_notes_26 : decode cX12_notes 26 = .ok (.iload_n 1, 1) := by decide +kernel
theorem dX12_notes_27 : decode cX12_notes 27 = .ok (.iadd, 1) := by decide +kernel
theorem dX12_notes_28 : decode cX12_notes 28 = .ok (.bipush 32, 2) := by decide +kernel
theorem dX12_notes_30 : decode cX12_notes 30 = .ok (.isub, 1) := by decide +kernel
theorem dX12_notes_31 : decode cX12_notes 31 = .ok (.iaload, 1) := by decide +kernel
theorem dX12_notes_32 : decode cX12_notes 32 = .ok (.iastore, 1) := by decide +kernel
theorem dX12_notes_33 : decode cX12_notes 33 = .ok (.iinc 1 (-1), 3) := by decide +kernel
theorem dX12_notes_36 : decode cX12_notes 36 = .ok (.goto (-32), 3) := by decide +kernel
theorem dX12_notes_39 : decode cX12_notes 39 = .ok (.iconst 0, 1) := by decide +kernel
theorem dX12_notes_40 : decode cX12_notes 40 = .ok (.istore_n 1, 1) := by decide +kernel
theorem dX12_notes_41 : decode cX12_notes 41 = .ok (.iload_n 1, 1) := by decide +kernel
theorem dX12_notes_42 : decode cX12_notes 42 = .ok (.bipush 8, 2) := by decide +kernel
theorem dX12_notes_44 : decode cX12_notes 44 = .ok (.if_icmp .ge 90, 3) := by decide +kernel
theorem dX12_notes_47 : decode cX12_notes 47 = .ok (.aload_n 0, 1) := by decide +kernel
theorem dX12_notes_48 : decode cX12_notes 48 = .ok (.getfield 71, 3) := by decide +kernel
theorem dX12_notes_51 : decode cX12_notes 51 = .ok (.sipush 327, 3) := by decide +kernel
theorem dX12_notes_54 : decode cX12_notes 54 = .ok (.iconst 4, 1) := by decide +kernel
theorem dX12_notes_55 : decode cX12_notes 55 = .ok (.iload_n 1, 1) := by decide +kernel
theorem dX12_notes_56 : decode cX12_notes 56 = .ok (.imul, 1) := by decide +kernel
theorem dX12_notes_57 : decode cX12_notes 57 = .ok (.iadd, 1) := by decide +kernel
theorem dX12_notes_58 : decode cX12_notes 58 = .ok (.aload_n 0, 1) := by decide +kernel
theorem dX12_notes_59 : decode cX12_notes 59 = .ok (.getfield 126, 3) := by decide +kernel
theorem dX12_notes_62 : decode cX12_notes 62 = .ok (.iload_n 1, 1) := by decide +kernel
theorem dX12_notes_63 : decode cX12_notes 63 = .ok (.iaload, 1) := by decide +kernel
theorem dX12_notes_64 : decode cX12_notes 64 = .ok (.iastore, 1) := by decide +kernel
theorem dX12_notes_65 : decode cX12_notes 65 = .ok (.aload_n 0, 1) := by decide +kernel
theorem dX12_notes_66 : decode cX12_notes 66 = .ok (.getfield 71, 3) := by decide +kernel
theorem dX12_notes_69 : decode cX12_notes 69 = .ok (.sipush 327, 3) := by decide +kernel
theorem dX12_notes_72 : decode cX12_notes 72 = .ok (.iconst 4, 1) := by decide +kernel
theorem dX12_notes_73 : decode cX12_notes 73 = .ok (.iload_n 1, 1) := by decide +kernel
theorem dX12_notes_74 : decode cX12_notes 74 = .ok (.imul, 1) := by decide +kernel
theorem dX12_notes_75 : decode cX12_notes 75 = .ok (.iadd, 1) := by decide +kernel
theorem dX12_notes_76 : decode cX12_notes 76 = .ok (.iconst 1, 1) := by decide +kernel
theorem dX12_notes_77 : decode cX12_notes 77 = .ok (.iadd, 1) := by decide +kernel
theorem dX12_notes_78 : decode cX12_notes 78 = .ok (.aload_n 0, 1) := by decide +kernel
theorem dX12_notes_79 : decode cX12_notes 79 = .ok (.getfield 129, 3) := by decide +kernel
theorem dX12_notes_82 : decode cX12_notes 82 = .ok (.iload_n 1, 1) := by decide +kernel
theorem dX12_notes_83 : decode cX12_notes 83 = .ok (.iaload, 1) := by decide +kernel
theorem dX12_notes_84 : decode cX12_notes 84 = .ok (.iastore, 1) := by decide +kernel
theorem dX12_notes_85 : decode cX12_notes 85 = .ok (.aload_n 0, 1) := by decide +kernel
theorem dX12_notes_86 : decode cX12_notes 86 = .ok (.getfield 71, 3) := by decide +kernel
theorem dX12_notes_89 : decode cX12_notes 89 = .ok (.sipush 327, 3) := by decide +kernel
theorem dX12_notes_92 : decode cX12_notes 92 = .ok (.iconst 4, 1) := by decide +kernel
theorem dX12_notes_93 : decode cX12_notes 93 = .ok (.iload_n 1, 1) := by decide +kernel
theorem dX12_notes_94 : decode cX12_notes 94 = .ok (.imul, 1) := by decide +kernel
theorem dX12_notes_95 : decode cX12_notes 95 = .ok (.iadd, 1) := by decide +kernel
theorem dX12_notes_96 : decode cX12_notes 96 = .ok (.iconst 2, 1) := by decide +kernel
theorem dX12_notes_97 : decode cX12_notes 97 = .ok (.iadd, 1) := by decide +kernel
theorem dX12_notes_98 : decode cX12_notes 98 = .ok (.aload_n 0, 1) := by decide +kernel
theorem dX12_notes_99 : decode cX12_notes 99 = .ok (.getfield 132, 3) := by decide +kernel
theorem dX12_notes_102 : decode cX12_notes 102 = .ok (.iload_n 1, 1) := by decide +kernel
theorem dX12_notes_103 : decode cX12_notes 103 = .ok (.iaload, 1) := by decide +kernel
theorem dX12_notes_104 : decode cX12_notes 104 = .ok (.iastore, 1) := by decide +kernel
theorem dX12_notes_105 : decode cX12_notes 105 = .ok (.aload_n 0, 1) := by decide +kernel
theorem dX12_notes_106 : decode cX12_notes 106 = .ok (.getfield 71, 3) := by decide +kernel
theorem dX12_notes_109 : decode cX12_notes 109 = .ok (.sipush 327, 3) := by decide +kernel
theorem dX12_notes_112 : decode cX12_notes 112 = .ok (.iconst 4, 1) := by decide +kernel
theorem dX12_notes_113 : decode cX12_notes 113 = .ok (.iload_n 1, 1) := by decide +kernel
theorem dX12_notes_114 : decode cX12_notes 114 = .ok (.imul, 1) := by decide +kernel
theorem dX12_notes_115 : decode cX12_notes 115 = .ok (.iadd, 1) := by decide +kernel
theorem dX12_notes_116 : decode cX12_notes 116 = .ok (.iconst 3, 1) := by decide +kernel
theorem dX12_notes_117 : decode cX12_notes 117 = .ok (.iadd, 1) := by decide +kernel
theorem dX12_notes_118 : decode cX12_notes 118 = .ok (.aload_n 0, 1) := by decide +kernel
theorem dX12_notes_119 : decode cX12_notes 119 = .ok (.getfield 71, 3) := by decide +kernel
theorem dX12_notes_122 : decode cX12_notes 122 = .ok (.bipush 120, 2) := by decide +kernel
theorem dX12_notes_124 : decode cX12_notes 124 = .ok (.iload_n 1, 1) := by decide +kernel
theorem dX12_notes_125 : decode cX12_notes 125 = .ok (.iadd, 1) := by decide +kernel
theorem dX12_notes_126 : decode cX12_notes 126 = .ok (.iaload, 1) := by decide +kernel
theorem dX12_notes_127 : decode cX12_notes 127 = .ok (.iastore, 1) := by decide +kernel
theorem dX12_notes_128 : decode cX12_notes 128 = .ok (.iinc 1 1, 3) := by decide +kernel
theorem dX12_notes_131 : decode cX12_notes 131 = .ok (.goto (-90), 3) := by decide +kernel
theorem dX12_notes_134 : decode cX12_notes 134 = .ok (.aload_n 0, 1) := by decide +kernel
theorem dX12_notes_135 : decode cX12_notes 135 = .ok (.getfield 71, 3) := by decide +kernel
theorem dX12_notes_138 : decode cX12_notes 138 = .ok (.sipush 206, 3) := by decide +kernel
theorem dX12_notes_141 : decode cX12_notes 141 = .ok (.bipush 40, 2) := by decide +kernel
theorem dX12_notes_143 : decode cX12_notes 143 = .ok (.aload_n 0, 1) := by decide +kernel
theorem dX12_notes_144 : decode cX12_notes 144 = .ok (.getfield 71, 3) := by decide +kernel
theorem dX12_notes_147 : decode cX12_notes 147 = .ok (.sipush 206, 3) := by decide +kernel
theorem dX12_notes_150 : decode cX12_notes 150 = .ok (.iaload, 1) := by decide +kernel
theorem dX12_notes_151 : decode cX12_notes 151 = .ok (.iconst 1, 1) := by decide +kernel
theorem dX12_notes_152 : decode cX12_notes 152 = .ok (.iadd, 1) := by decide +kernel
theorem dX12_notes_153 : decode cX12_notes 153 = .ok (.invokestatic 273, 3) := by decide +kernel
theorem dX12_notes_156 : decode cX12_notes 156 = .ok (.iastore, 1) := by decide +kernel
theorem dX12_notes_157 : decode cX12_notes 157 = .ok (.return_, 1) := by decide +kernel
abbrev rm_M_notes : Room := { frames := 1, cells := 0, slots := 0, locals := 21 }
def M_notes_l4 (σ : Sg) (x1 : Int32) : Option ((Sg × Int32) ⊕ (Sg × Int32)) :=
  if x1 < 32 then (
    some (.inr (σ, x1))
  ) else (
    zrd σ 183 1607 ((327 + x1) - 32) fun v31 =>
    zwr σ 183 1607 (327 + x1) v31 fun σ32 =>
    zlt (x1 + (-1)) fun v33 =>
    some (.inl (σ32, v33))
  )
set_option maxRecDepth 20000 in
theorem t_M_notes_l4 {X : Zx} {Q : State → Prop} {σ : Sg} {x1 : Int32} (ok : Zok X cX12_notes RX12 rm_M_notes 198 2)  {out : ((Sg × Int32) ⊕ (Sg × Int32))} (hf : M_notes_l4 σ x1 = some out) (hk : zout (fun (s : (Sg × Int32)) => ZAt X Q 0 0 4 s.1 [(0, .ref (X.ad 171)), (1, .int s.2)] []) (fun (s : (Sg × Int32)) => ZAt X Q 0 0 39 s.1 [(0, .ref (X.ad 171))] []) out) : ZAt X Q 0 0 4 σ [(0, .ref (X.ad 171)), (1, .int x1)] [] := by
  unfold M_notes_l4 at hf
  refine z_iload_n ok dX12_notes_4 1 rfl ?_
  refine z_bipush (v := 32) ok dX12_notes_5 (by decide) ?_
  refine z_icmp_lt (tgt := 39) ok dX12_notes_7 (by decide) hf (fun _ hf => ?_) (fun _ hf => ?_)
  · obtain rfl := Option.some.inj hf
    exact z_sub [0] rfl hk
  · refine z_aload_n ok dX12_notes_10 0 rfl ?_
    refine z_getr (q := 183) ok kc_171 zc_12 hin_12 20 (by decide) fl_12_71 rfl dX12_notes_11 ?_
    refine z_sipush (v := 327) ok dX12_notes_14 (by decide) ?_
    refine z_iload_n ok dX12_notes_17 1 rfl ?_
    refine z_iadd ok dX12_notes_18 ?_
    refine z_aload_n ok dX12_notes_19 0 rfl ?_
    refine z_getr (q := 183) ok kc_171 zc_12 hin_12 20 (by decide) fl_12_71 rfl dX12_notes_20 ?_
    refine z_sipush (v := 327) ok dX12_notes_23 (by decide) ?_
    refine z_iload_n ok dX12_notes_26 1 rfl ?_
    refine z_iadd ok dX12_notes_27 ?_
    refine z_bipush (v := 32) ok dX12_notes_28 (by decide) ?_
    refine z_isub ok dX12_notes_30 ?_
    refine z_iald ok kc_183 dX12_notes_31 hf (fun v31 hf => ?_)
    refine z_iast ok kc_183 dX12_notes_32 hf (fun σ32 hf => ?_)
    refine z_iinc (w := (-1)) (lv' := fun v33 => [(1, .int v33), (0, .ref (X.ad 171))]) ok dX12_notes_33 1 rfl (by decide) (by decide) (fun _ => rfl) hf (fun v33 hf => ?_)
    refine z_goto (tgt := 4) ok dX12_notes_36 (by decide) ?_
    obtain rfl := Option.some.inj hf
    exact z_sub [1, 0] rfl hk
def M_notes_l41 (σ : Sg) (x1 : Int32) : Option ((Sg × Int32) ⊕ (Sg × Int32)) :=
  if 8 ≤ x1 then (
    some (.inr (σ, x1))
  ) else (
    zrd σ 189 8 x1 fun v63 =>
    zwr σ 183 1607 (327 + (4 * x1)) v63 fun σ64 =>
    zrd σ64 190 8 x1 fun v83 =>
    zwr σ64 183 1607 ((327 + (4 * x1)) + 1) v83 fun σ84 =>
    zrd σ84 191 8 x1 fun v103 =>
    zwr σ84 183 1607 ((327 + (4 * x1)) + 2) v103 fun σ104 =>
    zrd σ104 183 1607 (120 + x1) fun v126 =>
    zwr σ104 183 1607 ((327 + (4 * x1)) + 3) v126 fun σ127 =>
    zlt (x1 + 1) fun v128 =>
    some (.inl (σ127, v128))
  )
set_option maxRecDepth 20000 in
theorem t_M_notes_l41 {X : Zx} {Q : State → Prop} {σ : Sg} {x1 : Int32} (ok : Zok X cX12_notes RX12 rm_M_notes 198 2)  {out : ((Sg × Int32) ⊕ (Sg × Int32))} (hf : M_notes_l41 σ x1 = some out) (hk : zout (fun (s : (Sg × Int32)) => ZAt X Q 0 0 41 s.1 [(0, .ref (X.ad 171)), (1, .int s.2)] []) (fun (s : (Sg × Int32)) => ZAt X Q 0 0 134 s.1 [(0, .ref (X.ad 171))] []) out) : ZAt X Q 0 0 41 σ [(0, .ref (X.ad 171)), (1, .int x1)] [] := by
  unfold M_notes_l41 at hf
  refine z_iload_n ok dX12_notes_41 1 rfl ?_
  refine z_bipush (v := 8) ok dX12_notes_42 (by decide) ?_
  refine z_icmp_ge (tgt := 134) ok dX12_notes_44 (by decide) hf (fun _ hf => ?_) (fun _ hf => ?_)
  · obtain rfl := Option.some.inj hf
    exact z_sub [0] rfl hk
  · refine z_aload_n ok dX12_notes_47 0 rfl ?_
    refine z_getr (q := 183) ok kc_171 zc_12 hin_12 20 (by decide) fl_12_71 rfl dX12_notes_48 ?_
    refine z_sipush (v := 327) ok dX12_notes_51 (by decide) ?_
    refine z_iconst (v := 4) ok dX12_notes_54 (by decide) ?_
    refine z_iload_n ok dX12_notes_55 1 rfl ?_
    refine z_imul ok dX12_notes_56 ?_
    refine z_iadd ok dX12_notes_57 ?_
    refine z_aload_n ok dX12_notes_58 0 rfl ?_
    refine z_getr (q := 189) ok kc_171 zc_12 hin_12 38 (by decide) fl_12_126 rfl dX12_notes_59 ?_
    refine z_iload_n ok dX12_notes_62 1 rfl ?_
    refine z_iald ok kc_189 dX12_notes_63 hf (fun v63 hf => ?_)
    refine z_iast ok kc_183 dX12_notes_64 hf (fun σ64 hf => ?_)
    refine z_aload_n ok dX12_notes_65 0 rfl ?_
    refine z_getr (q := 183) ok kc_171 zc_12 hin_12 20 (by decide) fl_12_71 rfl dX12_notes_66 ?_
    refine z_sipush (v := 327) ok dX12_notes_69 (by decide) ?_
    refine z_iconst (v := 4) ok dX12_notes_72 (by decide) ?_
    refine z_iload_n ok dX12_notes_73 1 rfl ?_
    refine z_imul ok dX12_notes_74 ?_
    refine z_iadd ok dX12_notes_75 ?_
    refine z_iconst (v := 1) ok dX12_notes_76 (by decide) ?_
    refine z_iadd ok dX12_notes_77 ?_
    refine z_aload_n ok dX12_notes_78 0 rfl ?_
    refine z_getr (q := 190) ok kc_171 zc_12 hin_12 39 (by decide) fl_12_129 rfl dX12_notes_79 ?_
    refine z_iload_n ok dX12_notes_82 1 rfl ?_
    refine z_iald ok kc_190 dX12_notes_83 hf (fun v83 hf => ?_)
    refine z_iast ok kc_183 dX12_notes_84 hf (fun σ84 hf => ?_)
    refine z_aload_n ok dX12_notes_85 0 rfl ?_
    refine z_getr (q := 183) ok kc_171 zc_12 hin_12 20 (by decide) fl_12_71 rfl dX12_notes_86 ?_
    refine z_sipush (v := 327) ok dX12_notes_89 (by decide) ?_
    refine z_iconst (v := 4) ok dX12_notes_92 (by decide) ?_
    refine z_iload_n ok dX12_notes_93 1 rfl ?_
    refine z_imul ok dX12_notes_94 ?_
    refine z_iadd ok dX12_notes_95 ?_
    refine z_iconst (v := 2) ok dX12_notes_96 (by decide) ?_
    refine z_iadd ok dX12_notes_97 ?_
    refine z_aload_n ok dX12_notes_98 0 rfl ?_
    refine z_getr (q := 191) ok kc_171 zc_12 hin_12 40 (by decide) fl_12_132 rfl dX12_notes_99 ?_
    refine z_iload_n ok dX12_notes_102 1 rfl ?_
    refine z_iald ok kc_191 dX12_notes_103 hf (fun v103 hf => ?_)
    refine z_iast ok kc_183 dX12_notes_104 hf (fun σ104 hf => ?_)
    refine z_aload_n ok dX12_notes_105 0 rfl ?_
    refine z_getr (q := 183) ok kc_171 zc_12 hin_12 20 (by decide) fl_12_71 rfl dX12_notes_106 ?_
    refine z_sipush (v := 327) ok dX12_notes_109 (by decide) ?_
    refine z_iconst (v := 4) ok dX12_notes_112 (by decide) ?_
    refine z_iload_n ok dX12_notes_113 1 rfl ?_
    refine z_imul ok dX12_notes_114 ?_
    refine z_iadd ok dX12_notes_115 ?_
    refine z_iconst (v := 3) ok dX12_notes_116 (by decide) ?_
    refine z_iadd ok dX12_notes_117 ?_
    refine z_aload_n ok dX12_notes_118 0 rfl ?_
    refine z_getr (q := 183) ok kc_171 zc_12 hin_12 20 (by decide) fl_12_71 rfl dX12_notes_119 ?_
    refine z_bipush (v := 120) ok dX12_notes_122 (by decide) ?_
    refine z_iload_n ok dX12_notes_124 1 rfl ?_
    refine z_iadd ok dX12_notes_125 ?_
    refine z_iald ok kc_183 dX12_notes_126 hf (fun v126 hf => ?_)
    refine z_iast ok kc_183 dX12_notes_127 hf (fun σ127 hf => ?_)
    refine z_iinc (w := 1) (lv' := fun v128 => [(1, .int v128), (0, .ref (X.ad 171))]) ok dX12_notes_128 1 rfl (by decide) (by decide) (fun _ => rfl) hf (fun v128 hf => ?_)
    refine z_goto (tgt := 41) ok dX12_notes_131 (by decide) ?_
    obtain rfl := Option.some.inj hf
    exact z_sub [1, 0] rfl hk
def M_notes_j134 (σ : Sg)  : Option Sg :=
  zrd σ 183 1607 206 fun v150 =>
  (M_lesser 40 (v150 + 1)).bind fun r153 =>
  zwr σ 183 1607 206 r153 fun σ156 =>
  some σ156
set_option maxRecDepth 20000 in
theorem t_M_notes_j134 {X : Zx} {Q : State → Prop} {σ : Sg}  (ok : Zok X cX12_notes RX12 rm_M_notes 198 2)  {out : Sg} (hf : M_notes_j134 σ = some out) (hk : ZrV cX12_notes X Q out) : ZAt X Q 0 0 134 σ [(0, .ref (X.ad 171))] [] := by
  unfold M_notes_j134 at hf
  refine z_aload_n ok dX12_notes_134 0 rfl ?_
  refine z_getr (q := 183) ok kc_171 zc_12 hin_12 20 (by decide) fl_12_71 rfl dX12_notes_135 ?_
  refine z_sipush (v := 206) ok dX12_notes_138 (by decide) ?_
  refine z_bipush (v := 40) ok dX12_notes_141 (by decide) ?_
  refine z_aload_n ok dX12_notes_143 0 rfl ?_
  refine z_getr (q := 183) ok kc_171 zc_12 hin_12 20 (by decide) fl_12_71 rfl dX12_notes_144 ?_
  refine z_sipush (v := 206) ok dX12_notes_147 (by decide) ?_
  refine z_iald ok kc_183 dX12_notes_150 hf (fun v150 hf => ?_)
  refine z_iconst (v := 1) ok dX12_notes_151 (by decide) ?_
  refine z_iadd ok dX12_notes_152 ?_
  refine z_call hf (fun r153 h153 hf => ?_)
  refine z_cS (As := [.int 40, .int (v150 + 1)]) (rest := [.int 206, .ref (X.ad 183)]) ok (c_M_lesser h153) rfl ⟨ml_12_273, w_M_lesser⟩ hy_M_lesser ⟨rfl, rfl⟩ ⟨Nat.le_of_ble_eq_true rfl, Nat.le_of_ble_eq_true rfl⟩ ⟨Nat.zero_le _, Nat.zero_le _⟩ rfl (Nat.le_of_ble_eq_true rfl) dX12_notes_153 ?_
  refine z_iast ok kc_183 dX12_notes_156 hf (fun σ156 hf => ?_)
  obtain rfl := Option.some.inj hf
  exact hk _ _ dX12_notes_157
def M_notes_j39 (σ : Sg)  : Option Sg :=
  zlt 0 fun v40 =>
  (zit (fun (s : (Sg × Int32)) => M_notes_l41 s.1 s.2) zFU (σ, v40)).bind fun r =>
  M_notes_j134 r.1
set_option maxRecDepth 20000 in
theorem t_M_notes_j39 {X : Zx} {Q : State → Prop} {σ : Sg}  (ok : Zok X cX12_notes RX12 rm_M_notes 198 2)  {out : Sg} (hf : M_notes_j39 σ = some out) (hk : ZrV cX12_notes X Q out) : ZAt X Q 0 0 39 σ [(0, .ref (X.ad 171))] [] := by
  unfold M_notes_j39 at hf
  refine z_iconst (v := 0) ok dX12_notes_39 (by decide) ?_
  refine z_nm hf (fun v40 hf => ?_)
  refine z_istore_n (lv' := [(1, .int v40), (0, .ref (X.ad 171))]) ok dX12_notes_40 (by decide) rfl ?_
  refine z_call hf (fun r hr hf => ?_)
  refine z_sub [1, 0] rfl (z_iter (fun (s : (Sg × Int32)) => s.1) (fun (s : (Sg × Int32)) => [(0, .ref (X.ad 171)), (1, .int s.2)]) (fun s o h1 h2 => t_M_notes_l41 ok h1 h2) _ _ _ hr ?_)
  show ZAt X Q 0 0 134 r.1 [(0, .ref (X.ad 171))] []
  exact z_sub [0] rfl (t_M_notes_j134 ok hf hk)
def M_notes (σ : Sg)  : Option Sg :=
  zlt 1279 fun v3 =>
  (zit (fun (s : (Sg × Int32)) => M_notes_l4 s.1 s.2) zFU (σ, v3)).bind fun r =>
  M_notes_j39 r.1
set_option maxRecDepth 20000 in
theorem t_M_notes {X : Zx} {Q : State → Prop} {σ : Sg}  (ok : Zok X cX12_notes RX12 rm_M_notes 198 2)  {out : Sg} (hf : M_notes σ = some out) (hk : ZrV cX12_notes X Q out) : ZAt X Q 0 0 0 σ [(0, .ref (X.ad 171))] [] := by
  unfold M_notes at hf
  refine z_sipush (v := 1279) ok dX12_notes_0 (by decide) ?_
  refine z_nm hf (fun v3 hf => ?_)
  refine z_istore_n (lv' := [(1, .int v3), (0, .ref (X.ad 171))]) ok dX12_notes_3 (by decide) rfl ?_
  refine z_call hf (fun r hr hf => ?_)
  refine z_sub [1, 0] rfl (z_iter (fun (s : (Sg × Int32)) => s.1) (fun (s : (Sg × Int32)) => [(0, .ref (X.ad 171)), (1, .int s.2)]) (fun s o h1 h2 => t_M_notes_l4 ok h1 h2) _ _ _ hr ?_)
  show ZAt X Q 0 0 39 r.1 [(0, .ref (X.ad 171))] []
  exact z_sub [0] rfl (t_M_notes_j39 ok hf hk)
theorem c_M_notes {σ : Sg} {r : Sg} (h : M_notes σ = some r) : ZcV yX12_notes cX12_notes 2 rm_M_notes 198 (fun ad => [.ref (ad 171)]) σ r :=
  zmetV pn_12 rfl (fun _ => rfl) (fun _ => Nat.le_of_ble_eq_true rfl) (fun X Q ok hk => t_M_notes ok h hk)
theorem dX12_goes_0 : decode cX12_goes 0 = .ok (.iconst 0, 1) := by decide +kernel
theorem dX12_goes_1 : decode cX12_goes 1 = .ok (.istore_n 1, 1) := by decide +kernel
theorem dX12_goes_2 : decode cX12_goes 2 = .ok (.iload_n 1, 1) := by decide +kernel
theorem dX12_goes_3 : decode cX12_goes 3 = .ok (.aload_n 0, 1) := by decide +kernel
theorem dX12_goes_4 : decode cX12_goes 4 = .ok (.getfield 7, 3) := by decide +kernel
theorem dX12_goes_7 : decode cX12_goes 7 = .ok (.if_icmp .ge 14, 3) := by decide +kernel
theorem dX12_goes_10 : decode cX12_goes 10 = .ok (.aload_n 0, 1) := by decide +kernel
theorem dX12_goes_11 : decode cX12_goes 11 = .ok (.iload_n 1, 1) := by decide +kernel
theorem dX12_goes_12 : decode cX12_goes 12 = .ok (.invokevirtual 288, 3) := by decide +kernel
theorem dX12_goes_15 : decode cX12_goes 15 = .ok (.iinc 1 1, 3) := by decide +kernel
theorem dX12_goes_18 : decode cX12_goes 18 = .ok (.goto (-16), 3) := by decide +kernel
theorem dX12_goes_21 : decode cX12_goes 21 = .ok (.iconst 0, 1) := by decide +kernel
theorem dX12_goes_22 : decode cX12_goes 22 = .ok (.istore_n 1, 1) := by decide +kernel
theorem dX12_goes_23 : decode cX12_goes 23 = .ok (.iload_n 1, 1) := by decide +kernel
theorem dX12_goes_24 : decode cX12_goes 24 = .ok (.aload_n 0, 1) := by decide +kernel
theorem dX12_goes_25 : decode cX12_goes 25 = .ok (.getfield 7, 3) := by decide +kernel
theorem dX12_goes_28 : decode cX12_goes 28 = .ok (.if_icmp .ge 14, 3) := by decide +kernel
theorem dX12_goes_31 : decode cX12_goes 31 = .ok (.aload_n 0, 1) := by decide +kernel
theorem dX12_goes_32 : decode cX12_goes 32 = .ok (.iload_n 1, 1) := by decide +kernel
theorem dX12_goes_33 : decode cX12_goes 33 = .ok (.invokevirtual 291, 3) := by decide +kernel
theorem dX12_goes_36 : decode cX12_goes 36 = .ok (.iinc 1 1, 3) := by decide +kernel
theorem dX12_goes_39 : decode cX12_goes 39 = .ok (.goto (-16), 3) := by decide +kernel
theorem dX12_goes_42 : decode cX12_goes 42 = .ok (.iconst 0, 1) := by decide +kernel
theorem dX12_goes_43 : decode cX12_goes 43 = .ok (.istore_n 1, 1) := by decide +kernel
theorem dX12_goes_44 : decode cX12_goes 44 = .ok (.iload_n 1, 1) := by decide +kernel
theorem dX12_goes_45 : decode cX12_goes 45 = .ok (.aload_n 0, 1) := by decide +kernel
theorem dX12_goes_46 : decode cX12_goes 46 = .ok (.getfield 13, 3) := by decide +kernel
theorem dX12_goes_49 : decode cX12_goes 49 = .ok (.if_icmp .ge 14, 3) := by decide +kernel
theorem dX12_goes_52 : decode cX12_goes 52 = .ok (.aload_n 0, 1) := by decide +kernel
theorem dX12_goes_53 : decode cX12_goes 53 = .ok (.iload_n 1, 1) := by decide +kernel
theorem dX12_goes_54 : decode cX12_goes 54 = .ok (.invokevirtual 294, 3) := by decide +kernel
theorem dX12_goes_57 : decode cX12_goes 57 = .ok (.iinc 1 1, 3) := by decide +kernel
theorem dX12_goes_60 : decode cX12_goes 60 = .ok (.goto (-16), 3) := by decide +kernel
theorem dX12_goes_63 : decode cX12_goes 63 = .ok (.iconst 0, 1) := by decide +kernel
theorem dX12_goes_64 : decode cX12_goes 64 = .ok (.istore_n 1, 1) := by decide +kernel
theorem dX12_goes_65 : decode cX12_goes 65 = .ok (.iload_n 1, 1) := by decide +kernel
theorem dX12_goes_66 : decode cX12_goes 66 = .ok (.aload_n 0, 1) := by decide +kernel
theorem dX12_goes_67 : decode cX12_goes 67 = .ok (.getfield 7, 3) := by decide +kernel
theorem dX12_goes_70 : decode cX12_goes 70 = .ok (.if_icmp .ge 14, 3) := by decide +kernel
theorem dX12_goes_73 : decode cX12_goes 73 = .ok (.aload_n 0, 1) := by decide +kernel
theorem dX12_goes_74 : decode cX12_goes 74 = .ok (.iload_n 1, 1) := by decide +kernel
theorem dX12_goes_75 : decode cX12_goes 75 = .ok (.invokevirtual 297, 3) := by decide +kernel
theorem dX12_goes_78 : decode cX12_goes 78 = .ok (.iinc 1 1, 3) := by decide +kernel
theorem dX12_goes_81 : decode cX12_goes 81 = .ok (.goto (-16), 3) := by decide +kernel
theorem dX12_goes_84 : decode cX12_goes 84 = .ok (.iconst 0, 1) := by decide +kernel
theorem dX12_goes_85 : decode cX12_goes 85 = .ok (.istore_n 1, 1) := by decide +kernel
theorem dX12_goes_86 : decode cX12_goes 86 = .ok (.iload_n 1, 1) := by decide +kernel
theorem dX12_goes_87 : decode cX12_goes 87 = .ok (.aload_n 0, 1) := by decide +kernel
theorem dX12_goes_88 : decode cX12_goes 88 = .ok (.getfield 7, 3) := by decide +kernel
theorem dX12_goes_91 : decode cX12_goes 91 = .ok (.if_icmp .ge 14, 3) := by decide +kernel
theorem dX12_goes_94 : decode cX12_goes 94 = .ok (.aload_n 0, 1) := by decide +kernel
theorem dX12_goes_95 : decode cX12_goes 95 = .ok (.iload_n 1, 1) := by decide +kernel
theorem dX12_goes_96 : decode cX12_goes 96 = .ok (.invokevirtual 300, 3) := by decide +kernel
theorem dX12_goes_99 : decode cX12_goes 99 = .ok (.iinc 1 1, 3) := by decide +kernel
theorem dX12_goes_102 : decode cX12_goes 102 = .ok (.goto (-16), 3) := by decide +kernel
theorem dX12_goes_105 : decode cX12_goes 105 = .ok (.iconst 0, 1) := by decide +kernel
theorem dX12_goes_106 : decode cX12_goes 106 = .ok (.istore_n 1, 1) := by decide +kernel
theorem dX12_goes_107 : decode cX12_goes 107 = .ok (.iload_n 1, 1) := by decide +kernel
theorem dX12_goes_108 : decode cX12_goes 108 = .ok (.aload_n 0, 1) := by decide +kernel
theorem dX12_goes_109 : decode cX12_goes 109 = .ok (.getfield 7, 3) := by decide +kernel
theorem dX12_goes_112 : decode cX12_goes 112 = .ok (.if_icmp .ge 14, 3) := by decide +kernel
theorem dX12_goes_115 : decode cX12_goes 115 = .ok (.aload_n 0, 1) := by decide +kernel
theorem dX12_goes_116 : decode cX12_goes 116 = .ok (.iload_n 1, 1) := by decide +kernel
theorem dX12_goes_117 : decode cX12_goes 117 = .ok (.invokevirtual 303, 3) := by decide +kernel
theorem dX12_goes_120 : decode cX12_goes 120 = .ok (.iinc 1 1, 3) := by decide +kernel
theorem dX12_goes_123 : decode cX12_goes 123 = .ok (.goto (-16), 3) := by decide +kernel
theorem dX12_goes_126 : decode cX12_goes 126 = .ok (.iconst 0, 1) := by decide +kernel
theorem dX12_goes_127 : decode cX12_goes 127 = .ok (.istore_n 1, 1) := by decide +kernel
theorem dX12_goes_128 : decode cX12_goes 128 = .ok (.iload_n 1, 1) := by decide +kernel
theorem dX12_goes_129 : decode cX12_goes 129 = .ok (.aload_n 0, 1) := by decide +kernel
theorem dX12_goes_130 : decode cX12_goes 130 = .ok (.getfield 7, 3) := by decide +kernel
theorem dX12_goes_133 : decode cX12_goes 133 = .ok (.if_icmp .ge 14, 3) := by decide +kernel
theorem dX12_goes_136 : decode cX12_goes 136 = .ok (.aload_n 0, 1) := by decide +kernel
theorem dX12_goes_137 : decode cX12_goes 137 = .ok (.iload_n 1, 1) := by decide +kernel
theorem dX12_goes_138 : decode cX12_goes 138 = .ok (.invokevirtual 306, 3) := by decide +kernel
theorem dX12_goes_141 : decode cX12_goes 141 = .ok (.iinc 1 1, 3) := by decide +kernel
theorem dX12_goes_144 : decode cX12_goes 144 = .ok (.goto (-16), 3) := by decide +kernel
theorem dX12_goes_147 : decode cX12_goes 147 = .ok (.aload_n 0, 1) := by decide +kernel
theorem dX12_goes_148 : decode cX12_goes 148 = .ok (.getfield 90, 3) := by decide +kernel
theorem dX12_goes_151 : decode cX12_goes 151 = .ok (.ifCond .ne 7, 3) := by decide +kernel
theorem dX12_goes_154 : decode cX12_goes 154 = .ok (.aload_n 0, 1) := by decide +kernel
theorem dX12_goes_155 : decode cX12_goes 155 = .ok (.invokevirtual 309, 3) := by decide +kernel
theorem dX12_goes_158 : decode cX12_goes 158 = .ok (.aload_n 0, 1) := by decide +kernel
theorem dX12_goes_159 : decode cX12_goes 159 = .ok (.getfield 71, 3) := by decide +kernel
theorem dX12_goes_162 : decode cX12_goes 162 = .ok (.sipush 196, 3) := by decide +kernel
theorem dX12_goes_165 : decode cX12_goes 165 = .ok (.dup2, 1) := by decide +kernel
theorem dX12_goes_166 : decode cX12_goes 166 = .ok (.iaload, 1) := by decide +kernel
theorem dX12_goes_167 : decode cX12_goes 167 = .ok (.iconst 1, 1) := by decide +kernel
theorem dX12_goes_168 : decode cX12_goes 168 = .ok (.iadd, 1) := by decide +kernel
theorem dX12_goes_169 : decode cX12_goes 169 = .ok (.iastore, 1) := by decide +kernel
theorem dX12_goes_170 : decode cX12_goes 170 = .ok (.return_, 1) := by decide +kernel
abbrev rm_M_goes : Room := { frames := 7, cells := 0, slots := 0, locals := 163 }
def M_goes_l2 (σ : Sg) (x1 : Int32) : Option ((Sg × Int32) ⊕ (Sg × Int32)) :=
  zgt σ 171 0 fun v4 =>
  if v4 ≤ x1 then (
    some (.inr (σ, x1))
  ) else (
    (M_arrives σ x1).bind fun r12 =>
    zlt (x1 + 1) fun v15 =>
    some (.inl (r12, v15))
  )
set_option maxRecDepth 20000 in
theorem t_M_goes_l2 {X : Zx} {Q : State → Prop} {σ : Sg} {x1 : Int32} (ok : Zok X cX12_goes RX12 rm_M_goes 198 2)  {out : ((Sg × Int32) ⊕ (Sg × Int32))} (hf : M_goes_l2 σ x1 = some out) (hk : zout (fun (s : (Sg × Int32)) => ZAt X Q 0 0 2 s.1 [(0, .ref (X.ad 171)), (1, .int s.2)] []) (fun (s : (Sg × Int32)) => ZAt X Q 0 0 21 s.1 [(0, .ref (X.ad 171))] []) out) : ZAt X Q 0 0 2 σ [(0, .ref (X.ad 171)), (1, .int x1)] [] := by
  unfold M_goes_l2 at hf
  refine z_iload_n ok dX12_goes_2 1 rfl ?_
  refine z_aload_n ok dX12_goes_3 0 rfl ?_
  refine z_geti ok kc_171 zc_12 hin_12 0 (by decide) fl_12_7 rfl dX12_goes_4 hf (fun v4 hf => ?_)
  refine z_icmp_ge (tgt := 21) ok dX12_goes_7 (by decide) hf (fun _ hf => ?_) (fun _ hf => ?_)
  · obtain rfl := Option.some.inj hf
    exact z_sub [0] rfl hk
  · refine z_aload_n ok dX12_goes_10 0 rfl ?_
    refine z_iload_n ok dX12_goes_11 1 rfl ?_
    refine z_call hf (fun r12 h12 hf => ?_)
    refine z_cVv (As := [.int x1]) (rest := []) (w := 171) ok kc_171 zc_12 (c_M_arrives h12) rfl ⟨ml_12_288, w_M_arrives⟩ hy_M_arrives ⟨rfl, rfl⟩ ⟨Nat.le_of_ble_eq_true rfl, Nat.le_of_ble_eq_true rfl⟩ ⟨Nat.zero_le _, Nat.zero_le _⟩ rfl (Nat.le_of_ble_eq_true rfl) dX12_goes_12 ?_
    refine z_iinc (w := 1) (lv' := fun v15 => [(1, .int v15), (0, .ref (X.ad 171))]) ok dX12_goes_15 1 rfl (by decide) (by decide) (fun _ => rfl) hf (fun v15 hf => ?_)
    refine z_goto (tgt := 2) ok dX12_goes_18 (by decide) ?_
    obtain rfl := Option.some.inj hf
    exact z_sub [1, 0] rfl hk
def M_goes_l23 (σ : Sg) (x1 : Int32) : Option ((Sg × Int32) ⊕ (Sg × Int32)) :=
  zgt σ 171 0 fun v25 =>
  if v25 ≤ x1 then (
    some (.inr (σ, x1))
  ) else (
    (M_leaksOut σ x1).bind fun r33 =>
    zlt (x1 + 1) fun v36 =>
    some (.inl (r33, v36))
  )
set_option maxRecDepth 20000 in
theorem t_M_goes_l23 {X : Zx} {Q : State → Prop} {σ : Sg} {x1 : Int32} (ok : Zok X cX12_goes RX12 rm_M_goes 198 2)  {out : ((Sg × Int32) ⊕ (Sg × Int32))} (hf : M_goes_l23 σ x1 = some out) (hk : zout (fun (s : (Sg × Int32)) => ZAt X Q 0 0 23 s.1 [(0, .ref (X.ad 171)), (1, .int s.2)] []) (fun (s : (Sg × Int32)) => ZAt X Q 0 0 42 s.1 [(0, .ref (X.ad 171))] []) out) : ZAt X Q 0 0 23 σ [(0, .ref (X.ad 171)), (1, .int x1)] [] := by
  unfold M_goes_l23 at hf
  refine z_iload_n ok dX12_goes_23 1 rfl ?_
  refine z_aload_n ok dX12_goes_24 0 rfl ?_
  refine z_geti ok kc_171 zc_12 hin_12 0 (by decide) fl_12_7 rfl dX12_goes_25 hf (fun v25 hf => ?_)
  refine z_icmp_ge (tgt := 42) ok dX12_goes_28 (by decide) hf (fun _ hf => ?_) (fun _ hf => ?_)
  · obtain rfl := Option.some.inj hf
    exact z_sub [0] rfl hk
  · refine z_aload_n ok dX12_goes_31 0 rfl ?_
    refine z_iload_n ok dX12_goes_32 1 rfl ?_
    refine z_call hf (fun r33 h33 hf => ?_)
    refine z_cVv (As := [.int x1]) (rest := []) (w := 171) ok kc_171 zc_12 (c_M_leaksOut h33) rfl ⟨ml_12_291, w_M_leaksOut⟩ hy_M_leaksOut ⟨rfl, rfl⟩ ⟨Nat.le_of_ble_eq_true rfl, Nat.le_of_ble_eq_true rfl⟩ ⟨Nat.zero_le _, Nat.zero_le _⟩ rfl (Nat.le_of_ble_eq_true rfl) dX12_goes_33 ?_
    refine z_iinc (w := 1) (lv' := fun v36 => [(1, .int v36), (0, .ref (X.ad 171))]) ok dX12_goes_36 1 rfl (by decide) (by decide) (fun _ => rfl) hf (fun v36 hf => ?_)
    refine z_goto (tgt := 23) ok dX12_goes_39 (by decide) ?_
    obtain rfl := Option.some.inj hf
    exact z_sub [1, 0] rfl hk
def M_goes_l44 (σ : Sg) (x1 : Int32) : Option ((Sg × Int32) ⊕ (Sg × Int32)) :=
  zgt σ 171 1 fun v46 =>
  if v46 ≤ x1 then (
    some (.inr (σ, x1))
  ) else (
    (M_takes σ x1).bind fun r54 =>
    zlt (x1 + 1) fun v57 =>
    some (.inl (r54, v57))
  )
set_option maxRecDepth 20000 in
theorem t_M_goes_l44 {X : Zx} {Q : State → Prop} {σ : Sg} {x1 : Int32} (ok : Zok X cX12_goes RX12 rm_M_goes 198 2)  {out : ((Sg × Int32) ⊕ (Sg × Int32))} (hf : M_goes_l44 σ x1 = some out) (hk : zout (fun (s : (Sg × Int32)) => ZAt X Q 0 0 44 s.1 [(0, .ref (X.ad 171)), (1, .int s.2)] []) (fun (s : (Sg × Int32)) => ZAt X Q 0 0 63 s.1 [(0, .ref (X.ad 171))] []) out) : ZAt X Q 0 0 44 σ [(0, .ref (X.ad 171)), (1, .int x1)] [] := by
  unfold M_goes_l44 at hf
  refine z_iload_n ok dX12_goes_44 1 rfl ?_
  refine z_aload_n ok dX12_goes_45 0 rfl ?_
  refine z_geti ok kc_171 zc_12 hin_12 1 (by decide) fl_12_13 rfl dX12_goes_46 hf (fun v46 hf => ?_)
  refine z_icmp_ge (tgt := 63) ok dX12_goes_49 (by decide) hf (fun _ hf => ?_) (fun _ hf => ?_)
  · obtain rfl := Option.some.inj hf
    exact z_sub [0] rfl hk
  · refine z_aload_n ok dX12_goes_52 0 rfl ?_
    refine z_iload_n ok dX12_goes_53 1 rfl ?_
    refine z_call hf (fun r54 h54 hf => ?_)
    refine z_cVv (As := [.int x1]) (rest := []) (w := 171) ok kc_171 zc_12 (c_M_takes h54) rfl ⟨ml_12_294, w_M_takes⟩ hy_M_takes ⟨rfl, rfl⟩ ⟨Nat.le_of_ble_eq_true rfl, Nat.le_of_ble_eq_true rfl⟩ ⟨Nat.zero_le _, Nat.zero_le _⟩ rfl (Nat.le_of_ble_eq_true rfl) dX12_goes_54 ?_
    refine z_iinc (w := 1) (lv' := fun v57 => [(1, .int v57), (0, .ref (X.ad 171))]) ok dX12_goes_57 1 rfl (by decide) (by decide) (fun _ => rfl) hf (fun v57 hf => ?_)
    refine z_goto (tgt := 44) ok dX12_goes_60 (by decide) ?_
    obtain rfl := Option.some.inj hf
    exact z_sub [1, 0] rfl hk
def M_goes_l65 (σ : Sg) (x1 : Int32) : Option ((Sg × Int32) ⊕ (Sg × Int32)) :=
  zgt σ 171 0 fun v67 =>
  if v67 ≤ x1 then (
    some (.inr (σ, x1))
  ) else (
    (M_passes σ x1).bind fun r75 =>
    zlt (x1 + 1) fun v78 =>
    some (.inl (r75, v78))
  )
set_option maxRecDepth 20000 in
theorem t_M_goes_l65 {X : Zx} {Q : State → Prop} {σ : Sg} {x1 : Int32} (ok : Zok X cX12_goes RX12 rm_M_goes 198 2)  {out : ((Sg × Int32) ⊕ (Sg × Int32))} (hf : M_goes_l65 σ x1 = some out) (hk : zout (fun (s : (Sg × Int32)) => ZAt X Q 0 0 65 s.1 [(0, .ref (X.ad 171)), (1, .int s.2)] []) (fun (s : (Sg × Int32)) => ZAt X Q 0 0 84 s.1 [(0, .ref (X.ad 171))] []) out) : ZAt X Q 0 0 65 σ [(0, .ref (X.ad 171)), (1, .int x1)] [] := by
  unfold M_goes_l65 at hf
  refine z_iload_n ok dX12_goes_65 1 rfl ?_
  refine z_aload_n ok dX12_goes_66 0 rfl ?_
  refine z_geti ok kc_171 zc_12 hin_12 0 (by decide) fl_12_7 rfl dX12_goes_67 hf (fun v67 hf => ?_)
  refine z_icmp_ge (tgt := 84) ok dX12_goes_70 (by decide) hf (fun _ hf => ?_) (fun _ hf => ?_)
  · obtain rfl := Option.some.inj hf
    exact z_sub [0] rfl hk
  · refine z_aload_n ok dX12_goes_73 0 rfl ?_
    refine z_iload_n ok dX12_goes_74 1 rfl ?_
    refine z_call hf (fun r75 h75 hf => ?_)
    refine z_cVv (As := [.int x1]) (rest := []) (w := 171) ok kc_171 zc_12 (c_M_passes h75) rfl ⟨ml_12_297, w_M_passes⟩ hy_M_passes ⟨rfl, rfl⟩ ⟨Nat.le_of_ble_eq_true rfl, Nat.le_of_ble_eq_true rfl⟩ ⟨Nat.zero_le _, Nat.zero_le _⟩ rfl (Nat.le_of_ble_eq_true rfl) dX12_goes_75 ?_
    refine z_iinc (w := 1) (lv' := fun v78 => [(1, .int v78), (0, .ref (X.ad 171))]) ok dX12_goes_78 1 rfl (by decide) (by decide) (fun _ => rfl) hf (fun v78 hf => ?_)
    refine z_goto (tgt := 65) ok dX12_goes_81 (by decide) ?_
    obtain rfl := Option.some.inj hf
    exact z_sub [1, 0] rfl hk
def M_goes_l86 (σ : Sg) (x1 : Int32) : Option ((Sg × Int32) ⊕ (Sg × Int32)) :=
  zgt σ 171 0 fun v88 =>
  if v88 ≤ x1 then (
    some (.inr (σ, x1))
  ) else (
    (M_goesOver σ x1).bind fun r96 =>
    zlt (x1 + 1) fun v99 =>
    some (.inl (r96, v99))
  )
set_option maxRecDepth 20000 in
theorem t_M_goes_l86 {X : Zx} {Q : State → Prop} {σ : Sg} {x1 : Int32} (ok : Zok X cX12_goes RX12 rm_M_goes 198 2)  {out : ((Sg × Int32) ⊕ (Sg × Int32))} (hf : M_goes_l86 σ x1 = some out) (hk : zout (fun (s : (Sg × Int32)) => ZAt X Q 0 0 86 s.1 [(0, .ref (X.ad 171)), (1, .int s.2)] []) (fun (s : (Sg × Int32)) => ZAt X Q 0 0 105 s.1 [(0, .ref (X.ad 171))] []) out) : ZAt X Q 0 0 86 σ [(0, .ref (X.ad 171)), (1, .int x1)] [] := by
  unfold M_goes_l86 at hf
  refine z_iload_n ok dX12_goes_86 1 rfl ?_
  refine z_aload_n ok dX12_goes_87 0 rfl ?_
  refine z_geti ok kc_171 zc_12 hin_12 0 (by decide) fl_12_7 rfl dX12_goes_88 hf (fun v88 hf => ?_)
  refine z_icmp_ge (tgt := 105) ok dX12_goes_91 (by decide) hf (fun _ hf => ?_) (fun _ hf => ?_)
  · obtain rfl := Option.some.inj hf
    exact z_sub [0] rfl hk
  · refine z_aload_n ok dX12_goes_94 0 rfl ?_
    refine z_iload_n ok dX12_goes_95 1 rfl ?_
    refine z_call hf (fun r96 h96 hf => ?_)
    refine z_cVv (As := [.int x1]) (rest := []) (w := 171) ok kc_171 zc_12 (c_M_goesOver h96) rfl ⟨ml_12_300, w_M_goesOver⟩ hy_M_goesOver ⟨rfl, rfl⟩ ⟨Nat.le_of_ble_eq_true rfl, Nat.le_of_ble_eq_true rfl⟩ ⟨Nat.zero_le _, Nat.zero_le _⟩ rfl (Nat.le_of_ble_eq_true rfl) dX12_goes_96 ?_
    refine z_iinc (w := 1) (lv' := fun v99 => [(1, .int v99), (0, .ref (X.ad 171))]) ok dX12_goes_99 1 rfl (by decide) (by decide) (fun _ => rfl) hf (fun v99 hf => ?_)
    refine z_goto (tgt := 86) ok dX12_goes_102 (by decide) ?_
    obtain rfl := Option.some.inj hf
    exact z_sub [1, 0] rfl hk
def M_goes_l107 (σ : Sg) (x1 : Int32) : Option ((Sg × Int32) ⊕ (Sg × Int32)) :=
  zgt σ 171 0 fun v109 =>
  if v109 ≤ x1 then (
    some (.inr (σ, x1))
  ) else (
    (M_moves σ x1).bind fun r117 =>
    zlt (x1 + 1) fun v120 =>
    some (.inl (r117, v120))
  )
set_option maxRecDepth 20000 in
theorem t_M_goes_l107 {X : Zx} {Q : State → Prop} {σ : Sg} {x1 : Int32} (ok : Zok X cX12_goes RX12 rm_M_goes 198 2)  {out : ((Sg × Int32) ⊕ (Sg × Int32))} (hf : M_goes_l107 σ x1 = some out) (hk : zout (fun (s : (Sg × Int32)) => ZAt X Q 0 0 107 s.1 [(0, .ref (X.ad 171)), (1, .int s.2)] []) (fun (s : (Sg × Int32)) => ZAt X Q 0 0 126 s.1 [(0, .ref (X.ad 171))] []) out) : ZAt X Q 0 0 107 σ [(0, .ref (X.ad 171)), (1, .int x1)] [] := by
  unfold M_goes_l107 at hf
  refine z_iload_n ok dX12_goes_107 1 rfl ?_
  refine z_aload_n ok dX12_goes_108 0 rfl ?_
  refine z_geti ok kc_171 zc_12 hin_12 0 (by decide) fl_12_7 rfl dX12_goes_109 hf (fun v109 hf => ?_)
  refine z_icmp_ge (tgt := 126) ok dX12_goes_112 (by decide) hf (fun _ hf => ?_) (fun _ hf => ?_)
  · obtain rfl := Option.some.inj hf
    exact z_sub [0] rfl hk
  · refine z_aload_n ok dX12_goes_115 0 rfl ?_
    refine z_iload_n ok dX12_goes_116 1 rfl ?_
    refine z_call hf (fun r117 h117 hf => ?_)
    refine z_cVv (As := [.int x1]) (rest := []) (w := 171) ok kc_171 zc_12 (c_M_moves h117) rfl ⟨ml_12_303, w_M_moves⟩ hy_M_moves ⟨rfl, rfl⟩ ⟨Nat.le_of_ble_eq_true rfl, Nat.le_of_ble_eq_true rfl⟩ ⟨Nat.zero_le _, Nat.zero_le _⟩ rfl (Nat.le_of_ble_eq_true rfl) dX12_goes_117 ?_
    refine z_iinc (w := 1) (lv' := fun v120 => [(1, .int v120), (0, .ref (X.ad 171))]) ok dX12_goes_120 1 rfl (by decide) (by decide) (fun _ => rfl) hf (fun v120 hf => ?_)
    refine z_goto (tgt := 107) ok dX12_goes_123 (by decide) ?_
    obtain rfl := Option.some.inj hf
    exact z_sub [1, 0] rfl hk
def M_goes_l128 (σ : Sg) (x1 : Int32) : Option ((Sg × Int32) ⊕ (Sg × Int32)) :=
  zgt σ 171 0 fun v130 =>
  if v130 ≤ x1 then (
    some (.inr (σ, x1))
  ) else (
    (M_watches σ x1).bind fun r138 =>
    zlt (x1 + 1) fun v141 =>
    some (.inl (r138, v141))
  )
set_option maxRecDepth 20000 in
theorem t_M_goes_l128 {X : Zx} {Q : State → Prop} {σ : Sg} {x1 : Int32} (ok : Zok X cX12_goes RX12 rm_M_goes 198 2)  {out : ((Sg × Int32) ⊕ (Sg × Int32))} (hf : M_goes_l128 σ x1 = some out) (hk : zout (fun (s : (Sg × Int32)) => ZAt X Q 0 0 128 s.1 [(0, .ref (X.ad 171)), (1, .int s.2)] []) (fun (s : (Sg × Int32)) => ZAt X Q 0 0 147 s.1 [(0, .ref (X.ad 171))] []) out) : ZAt X Q 0 0 128 σ [(0, .ref (X.ad 171)), (1, .int x1)] [] := by
  unfold M_goes_l128 at hf
  refine z_iload_n ok dX12_goes_128 1 rfl ?_
  refine z_aload_n ok dX12_goes_129 0 rfl ?_
  refine z_geti ok kc_171 zc_12 hin_12 0 (by decide) fl_12_7 rfl dX12_goes_130 hf (fun v130 hf => ?_)
  refine z_icmp_ge (tgt := 147) ok dX12_goes_133 (by decide) hf (fun _ hf => ?_) (fun _ hf => ?_)
  · obtain rfl := Option.some.inj hf
    exact z_sub [0] rfl hk
  · refine z_aload_n ok dX12_goes_136 0 rfl ?_
    refine z_iload_n ok dX12_goes_137 1 rfl ?_
    refine z_call hf (fun r138 h138 hf => ?_)
    refine z_cVv (As := [.int x1]) (rest := []) (w := 171) ok kc_171 zc_12 (c_M_watches h138) rfl ⟨ml_12_306, w_M_watches⟩ hy_M_watches ⟨rfl, rfl⟩ ⟨Nat.le_of_ble_eq_true rfl, Nat.le_of_ble_eq_true rfl⟩ ⟨Nat.zero_le _, Nat.zero_le _⟩ rfl (Nat.le_of_ble_eq_true rfl) dX12_goes_138 ?_
    refine z_iinc (w := 1) (lv' := fun v141 => [(1, .int v141), (0, .ref (X.ad 171))]) ok dX12_goes_141 1 rfl (by decide) (by decide) (fun _ => rfl) hf (fun v141 hf => ?_)
    refine z_goto (tgt := 128) ok dX12_goes_144 (by decide) ?_
    obtain rfl := Option.some.inj hf
    exact z_sub [1, 0] rfl hk
def M_goes_j147 (σ : Sg)  : Option Sg :=
  zgt σ 171 26 fun v148 =>
  if v148 = 0 then (
    (M_notes σ).bind fun r155 =>
    zrd r155 183 1607 196 fun v166 =>
    zwr r155 183 1607 196 (v166 + 1) fun σ169 =>
    some σ169
  ) else (
    zrd σ 183 1607 196 fun v166 =>
    zwr σ 183 1607 196 (v166 + 1) fun σ169 =>
    some σ169
  )
set_option maxRecDepth 20000 in
theorem t_M_goes_j147 {X : Zx} {Q : State → Prop} {σ : Sg}  (ok : Zok X cX12_goes RX12 rm_M_goes 198 2)  {out : Sg} (hf : M_goes_j147 σ = some out) (hk : ZrV cX12_goes X Q out) : ZAt X Q 0 0 147 σ [(0, .ref (X.ad 171))] [] := by
  unfold M_goes_j147 at hf
  refine z_aload_n ok dX12_goes_147 0 rfl ?_
  refine z_geti ok kc_171 zc_12 hin_12 26 (by decide) fl_12_90 rfl dX12_goes_148 hf (fun v148 hf => ?_)
  refine z_if_ne (tgt := 158) ok dX12_goes_151 (by decide) hf (fun _ hf => ?_) (fun _ hf => ?_)
  · refine z_aload_n ok dX12_goes_154 0 rfl ?_
    refine z_call hf (fun r155 h155 hf => ?_)
    refine z_cVv (As := []) (rest := []) (w := 171) ok kc_171 zc_12 (c_M_notes h155) rfl ⟨ml_12_309, w_M_notes⟩ hy_M_notes ⟨rfl, rfl⟩ ⟨Nat.le_of_ble_eq_true rfl, Nat.le_of_ble_eq_true rfl⟩ ⟨Nat.zero_le _, Nat.zero_le _⟩ rfl (Nat.le_of_ble_eq_true rfl) dX12_goes_155 ?_
    refine z_aload_n ok dX12_goes_158 0 rfl ?_
    refine z_getr (q := 183) ok kc_171 zc_12 hin_12 20 (by decide) fl_12_71 rfl dX12_goes_159 ?_
    refine z_sipush (v := 196) ok dX12_goes_162 (by decide) ?_
    refine z_dup2 ok dX12_goes_165 rfl rfl ?_
    refine z_iald ok kc_183 dX12_goes_166 hf (fun v166 hf => ?_)
    refine z_iconst (v := 1) ok dX12_goes_167 (by decide) ?_
    refine z_iadd ok dX12_goes_168 ?_
    refine z_iast ok kc_183 dX12_goes_169 hf (fun σ169 hf => ?_)
    obtain rfl := Option.some.inj hf
    exact hk _ _ dX12_goes_170
  · refine z_aload_n ok dX12_goes_158 0 rfl ?_
    refine z_getr (q := 183) ok kc_171 zc_12 hin_12 20 (by decide) fl_12_71 rfl dX12_goes_159 ?_
    refine z_sipush (v := 196) ok dX12_goes_162 (by decide) ?_
    refine z_dup2 ok dX12_goes_165 rfl rfl ?_
    refine z_iald ok kc_183 dX12_goes_166 hf (fun v166 hf => ?_)
    refine z_iconst (v := 1) ok dX12_goes_167 (by decide) ?_
    refine z_iadd ok dX12_goes_168 ?_
    refine z_iast ok kc_183 dX12_goes_169 hf (fun σ169 hf => ?_)
    obtain rfl := Option.some.inj hf
    exact hk _ _ dX12_goes_170
def M_goes_j126 (σ : Sg)  : Option Sg :=
  zlt 0 fun v127 =>
  (zit (fun (s : (Sg × Int32)) => M_goes_l128 s.1 s.2) zFU (σ, v127)).bind fun r =>
  M_goes_j147 r.1
set_option maxRecDepth 20000 in
theorem t_M_goes_j126 {X : Zx} {Q : State → Prop} {σ : Sg}  (ok : Zok X cX12_goes RX12 rm_M_goes 198 2)  {out : Sg} (hf : M_goes_j126 σ = some out) (hk : ZrV cX12_goes X Q out) : ZAt X Q 0 0 126 σ [(0, .ref (X.ad 171))] [] := by
  unfold M_goes_j126 at hf
  refine z_iconst (v := 0) ok dX12_goes_126 (by decide) ?_
  refine z_nm hf (fun v127 hf => ?_)
  refine z_istore_n (lv' := [(1, .int v127), (0, .ref (X.ad 171))]) ok dX12_goes_127 (by decide) rfl ?_
  refine z_call hf (fun r hr hf => ?_)
  refine z_sub [1, 0] rfl (z_iter (fun (s : (Sg × Int32)) => s.1) (fun (s : (Sg × Int32)) => [(0, .ref (X.ad 171)), (1, .int s.2)]) (fun s o h1 h2 => t_M_goes_l128 ok h1 h2) _ _ _ hr ?_)
  show ZAt X Q 0 0 147 r.1 [(0, .ref (X.ad 171))] []
  exact z_sub [0] rfl (t_M_goes_j147 ok hf hk)
def M_goes_j105 (σ : Sg)  : Option Sg :=
  zlt 0 fun v106 =>
  (zit (fun (s : (Sg × Int32)) => M_goes_l107 s.1 s.2) zFU (σ, v106)).bind fun r =>
  M_goes_j126 r.1
set_option maxRecDepth 20000 in
theorem t_M_goes_j105 {X : Zx} {Q : State → Prop} {σ : Sg}  (ok : Zok X cX12_goes RX12 rm_M_goes 198 2)  {out : Sg} (hf : M_goes_j105 σ = some out) (hk : ZrV cX12_goes X Q out) : ZAt X Q 0 0 105 σ [(0, .ref (X.ad 171))] [] := by
  unfold M_goes_j105 at hf
  refine z_iconst (v := 0) ok dX12_goes_105 (by decide) ?_
  refine z_nm hf (fun v106 hf => ?_)
  refine z_istore_n (lv' := [(1, .int v106), (0, .ref (X.ad 171))]) ok dX12_goes_106 (by decide) rfl ?_
  refine z_call hf (fun r hr hf => ?_)
  refine z_sub [1, 0] rfl (z_iter (fun (s : (Sg × Int32)) => s.1) (fun (s : (Sg × Int32)) => [(0, .ref (X.ad 171)), (1, .int s.2)]) (fun s o h1 h2 => t_M_goes_l107 ok h1 h2) _ _ _ hr ?_)
  show ZAt X Q 0 0 126 r.1 [(0, .ref (X.ad 171))] []
  exact z_sub [0] rfl (t_M_goes_j126 ok hf hk)
def M_goes_j84 (σ : Sg)  : Option Sg :=
  zlt 0 fun v85 =>
  (zit (fun (s : (Sg × Int32)) => M_goes_l86 s.1 s.2) zFU (σ, v85)).bind fun r =>
  M_goes_j105 r.1
set_option maxRecDepth 20000 in
theorem t_M_goes_j84 {X : Zx} {Q : State → Prop} {σ : Sg}  (ok : Zok X cX12_goes RX12 rm_M_goes 198 2)  {out : Sg} (hf : M_goes_j84 σ = some out) (hk : ZrV cX12_goes X Q out) : ZAt X Q 0 0 84 σ [(0, .ref (X.ad 171))] [] := by
  unfold M_goes_j84 at hf
  refine z_iconst (v := 0) ok dX12_goes_84 (by decide) ?_
  refine z_nm hf (fun v85 hf => ?_)
  refine z_istore_n (lv' := [(1, .int v85), (0, .ref (X.ad 171))]) ok dX12_goes_85 (by decide) rfl ?_
  refine z_call hf (fun r hr hf => ?_)
  refine z_sub [1, 0] rfl (z_iter (fun (s : (Sg × Int32)) => s.1) (fun (s : (Sg × Int32)) => [(0, .ref (X.ad 171)), (1, .int s.2)]) (fun s o h1 h2 => t_M_goes_l86 ok h1 h2) _ _ _ hr ?_)
  show ZAt X Q 0 0 105 r.1 [(0, .ref (X.ad 171))] []
  exact z_sub [0] rfl (t_M_goes_j105 ok hf hk)
def M_goes_j63 (σ : Sg)  : Option Sg :=
  zlt 0 fun v64 =>
  (zit (fun (s : (Sg × Int32)) => M_goes_l65 s.1 s.2) zFU (σ, v64)).bind fun r =>
  M_goes_j84 r.1
set_option maxRecDepth 20000 in
theorem t_M_goes_j63 {X : Zx} {Q : State → Prop} {σ : Sg}  (ok : Zok X cX12_goes RX12 rm_M_goes 198 2)  {out : Sg} (hf : M_goes_j63 σ = some out) (hk : ZrV cX12_goes X Q out) : ZAt X Q 0 0 63 σ [(0, .ref (X.ad 171))] [] := by
  unfold M_goes_j63 at hf
  refine z_iconst (v := 0) ok dX12_goes_63 (by decide) ?_
  refine z_nm hf (fun v64 hf => ?_)
  refine z_istore_n (lv' := [(1, .int v64), (0, .ref (X.ad 171))]) ok dX12_goes_64 (by decide) rfl ?_
  refine z_call hf (fun r hr hf => ?_)
  refine z_sub [1, 0] rfl (z_iter (fun (s : (Sg × Int32)) => s.1) (fun (s : (Sg × Int32)) => [(0, .ref (X.ad 171)), (1, .int s.2)]) (fun s o h1 h2 => t_M_goes_l65 ok h1 h2) _ _ _ hr ?_)
  show ZAt X Q 0 0 84 r.1 [(0, .ref (X.ad 171))] []
  exact z_sub [0] rfl (t_M_goes_j84 ok hf hk)
def M_goes_j42 (σ : Sg)  : Option Sg :=
  zlt 0 fun v43 =>
  (zit (fun (s : (Sg × Int32)) => M_goes_l44 s.1 s.2) zFU (σ, v43)).bind fun r =>
  M_goes_j63 r.1
set_option maxRecDepth 20000 in
theorem t_M_goes_j42 {X : Zx} {Q : State → Prop} {σ : Sg}  (ok : Zok X cX12_goes RX12 rm_M_goes 198 2)  {out : Sg} (hf : M_goes_j42 σ = some out) (hk : ZrV cX12_goes X Q out) : ZAt X Q 0 0 42 σ [(0, .ref (X.ad 171))] [] := by
  unfold M_goes_j42 at hf
  refine z_iconst (v := 0) ok dX12_goes_42 (by decide) ?_
  refine z_nm hf (fun v43 hf => ?_)
  refine z_istore_n (lv' := [(1, .int v43), (0, .ref (X.ad 171))]) ok dX12_goes_43 (by decide) rfl ?_
  refine z_call hf (fun r hr hf => ?_)
  refine z_sub [1, 0] rfl (z_iter (fun (s : (Sg × Int32)) => s.1) (fun (s : (Sg × Int32)) => [(0, .ref (X.ad 171)), (1, .int s.2)]) (fun s o h1 h2 => t_M_goes_l44 ok h1 h2) _ _ _ hr ?_)
  show ZAt X Q 0 0 63 r.1 [(0, .ref (X.ad 171))] []
  exact z_sub [0] rfl (t_M_goes_j63 ok hf hk)
def M_goes_j21 (σ : Sg)  : Option Sg :=
  zlt 0 fun v22 =>
  (zit (fun (s : (Sg × Int32)) => M_goes_l23 s.1 s.2) zFU (σ, v22)).bind fun r =>
  M_goes_j42 r.1
set_option maxRecDepth 20000 in
theorem t_M_goes_j21 {X : Zx} {Q : State → Prop} {σ : Sg}  (ok : Zok X cX12_goes RX12 rm_M_goes 198 2)  {out : Sg} (hf : M_goes_j21 σ = some out) (hk : ZrV cX12_goes X Q out) : ZAt X Q 0 0 21 σ [(0, .ref (X.ad 171))] [] := by
  unfold M_goes_j21 at hf
  refine z_iconst (v := 0) ok dX12_goes_21 (by decide) ?_
  refine z_nm hf (fun v22 hf => ?_)
  refine z_istore_n (lv' := [(1, .int v22), (0, .ref (X.ad 171))]) ok dX12_goes_22 (by decide) rfl ?_
  refine z_call hf (fun r hr hf => ?_)
  refine z_sub [1, 0] rfl (z_iter (fun (s : (Sg × Int32)) => s.1) (fun (s : (Sg × Int32)) => [(0, .ref (X.ad 171)), (1, .int s.2)]) (fun s o h1 h2 => t_M_goes_l23 ok h1 h2) _ _ _ hr ?_)
  show ZAt X Q 0 0 42 r.1 [(0, .ref (X.ad 171))] []
  exact z_sub [0] rfl (t_M_goes_j42 ok hf hk)
def M_goes (σ : Sg)  : Option Sg :=
  zlt 0 fun v1 =>
  (zit (fun (s : (Sg × Int32)) => M_goes_l2 s.1 s.2) zFU (σ, v1)).bind fun r =>
  M_goes_j21 r.1
set_option maxRecDepth 20000 in
theorem t_M_goes {X : Zx} {Q : State → Prop} {σ : Sg}  (ok : Zok X cX12_goes RX12 rm_M_goes 198 2)  {out : Sg} (hf : M_goes σ = some out) (hk : ZrV cX12_goes X Q out) : ZAt X Q 0 0 0 σ [(0, .ref (X.ad 171))] [] := by
  unfold M_goes at hf
  refine z_iconst (v := 0) ok dX12_goes_0 (by decide) ?_
  refine z_nm hf (fun v1 hf => ?_)
  refine z_istore_n (lv' := [(1, .int v1), (0, .ref (X.ad 171))]) ok dX12_goes_1 (by decide) rfl ?_
  refine z_call hf (fun r hr hf => ?_)
  refine z_sub [1, 0] rfl (z_iter (fun (s : (Sg × Int32)) => s.1) (fun (s : (Sg × Int32)) => [(0, .ref (X.ad 171)), (1, .int s.2)]) (fun s o h1 h2 => t_M_goes_l2 ok h1 h2) _ _ _ hr ?_)
  show ZAt X Q 0 0 21 r.1 [(0, .ref (X.ad 171))] []
  exact z_sub [0] rfl (t_M_goes_j21 ok hf hk)
theorem c_M_goes {σ : Sg} {r : Sg} (h : M_goes σ = some r) : ZcV yX12_goes cX12_goes 2 rm_M_goes 198 (fun ad => [.ref (ad 171)]) σ r :=
  zmetV pn_12 rfl (fun _ => rfl) (fun _ => Nat.le_of_ble_eq_true rfl) (fun X Q ok hk => t_M_goes ok h hk)
