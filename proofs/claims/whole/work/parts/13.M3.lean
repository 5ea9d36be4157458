theorem wc_12_345 : Cond.constant RX12 345 (-1000000) ∈ zT := zT_of (i := 1816) (by decide +kernel) rfl
theorem fl_12_126 : Cond.fieldLink RX12 126 (TX12 38).1 (TX12 38).2.1 (TX12 38).2.2.1 ∈ zT := zT_of (i := 1437) (by decide +kernel) rfl
theorem fl_12_129 : Cond.fieldLink RX12 129 (TX12 39).1 (TX12 39).2.1 (TX12 39).2.2.1 ∈ zT := zT_of (i := 1438) (by decide +kernel) rfl
theorem fl_12_132 : Cond.fieldLink RX12 132 (TX12 40).1 (TX12 40).2.1 (TX12 40).2.2.1 ∈ zT := zT_of (i := 1439) (by decide +kernel) rfl
theorem fl_12_135 : Cond.fieldLink RX12 135 (TX12 41).1 (TX12 41).2.1 (TX12 41).2.2.1 ∈ zT := zT_of (i := 1440) (by decide +kernel) rfl
theorem fl_12_138 : Cond.fieldLink RX12 138 (TX12 42).1 (TX12 42).2.1 (TX12 42).2.2.1 ∈ zT := zT_of (i := 1441) (by decide +kernel) rfl
theorem fl_12_74 : Cond.fieldLink RX12 74 (TX12 21).1 (TX12 21).2.1 (TX12 21).2.2.1 ∈ zT := zT_of (i := 1420) (by decide +kernel) rfl
theorem fl_12_90 : Cond.fieldLink RX12 90 (TX12 26).1 (TX12 26).2.1 (TX12 26).2.2.1 ∈ zT := zT_of (i := 1425) (by decide +kernel) rfl
theorem ml_12_330 : Cond.methodLink RX12 330 yX12_thereNow ∈ zT := zT_of (i := 1772) (by decide +kernel) rfl
theorem ml_12_333 : Cond.methodLink RX12 333 yX12_shortOfAll ∈ zT := zT_of (i := 1776) (by decide +kernel) rfl
theorem ml_12_336 : Cond.methodLink RX12 336 yX12_stepOf ∈ zT := zT_of (i := 1784) (by decide +kernel) rfl
theorem ml_12_339 : Cond.methodLink RX12 339 yX12_isAhead ∈ zT := zT_of (i := 1788) (by decide +kernel) rfl
theorem ml_12_342 : Cond.methodLink RX12 342 yX12_farOf ∈ zT := zT_of (i := 1796) (by decide +kernel) rfl
theorem w_M_account : Cond.instanceMethod yX12_account ∈ zT ∧ Cond.selects yX12_account.cls yX12_account yX12_account ∈ zT ∧ Cond.initialized yX12_account.cls ∈ zT ∧ Cond.code yX12_account cX12_account 2 (some .int) ∈ zT := ⟨zT_of (i := 1769) (by decide +kernel) rfl, zT_of (i := 1770) (by decide +kernel) rfl, zT_of (i := 135) (by decide +kernel) rfl, zT_of (i := 1771) (by decide +kernel) rfl⟩
theorem hy_M_account : yX12_account.cls ≠ "java/lang/invoke/MethodHandle" ∧ yX12_account.cls ≠ "java/lang/invoke/VarHandle" ∧ (parseMethodDescriptor yX12_account.desc).map (fun d => d.parameters.length) = some 1 := by decide +kernel
theorem w_M_alarm : Cond.instanceMethod yX12_alarm ∈ zT ∧ Cond.selects yX12_alarm.cls yX12_alarm yX12_alarm ∈ zT ∧ Cond.initialized yX12_alarm.cls ∈ zT ∧ Cond.code yX12_alarm cX12_alarm 3 (some .int) ∈ zT := ⟨zT_of (i := 1801) (by decide +kernel) rfl, zT_of (i := 1802) (by decide +kernel) rfl, zT_of (i := 135) (by decide +kernel) rfl, zT_of (i := 1803) (by decide +kernel) rfl⟩
theorem hy_M_alarm : yX12_alarm.cls ≠ "java/lang/invoke/MethodHandle" ∧ yX12_alarm.cls ≠ "java/lang/invoke/VarHandle" ∧ (parseMethodDescriptor yX12_alarm.desc).map (fun d => d.parameters.length) = some 2 := by decide +kernel
theorem w_M_alarms : Cond.instanceMethod yX12_alarms ∈ zT ∧ Cond.selects yX12_alarms.cls yX12_alarms yX12_alarms ∈ zT ∧ Cond.initialized yX12_alarms.cls ∈ zT ∧ Cond.code yX12_alarms cX12_alarms 5 (some .int) ∈ zT := ⟨zT_of (i := 1805) (by decide +kernel) rfl, zT_of (i := 1806) (by decide +kernel) rfl, zT_of (i := 135) (by decide +kernel) rfl, zT_of (i := 1807) (by decide +kernel) rfl⟩
theorem hy_M_alarms : yX12_alarms.cls ≠ "java/lang/invoke/MethodHandle" ∧ yX12_alarms.cls ≠ "java/lang/invoke/VarHandle" ∧ (parseMethodDescriptor yX12_alarms.desc).map (fun d => d.parameters.length) = some 2 := by decide +kernel
theorem w_M_arrives : Cond.instanceMethod yX12_arrives ∈ zT ∧ Cond.selects yX12_arrives.cls yX12_arrives yX12_arrives ∈ zT ∧ Cond.initialized yX12_arrives.cls ∈ zT ∧ Cond.code yX12_arrives cX12_arrives 4 none ∈ zT := ⟨zT_of (i := 1843) (by decide +kernel) rfl, zT_of (i := 104) (by decide +kernel) rfl, zT_of (i := 135) (by decide +kernel) rfl, zT_of (i := 1844) (by decide +kernel) rfl⟩
theorem hy_M_arrives : yX12_arrives.cls ≠ "java/lang/invoke/MethodHandle" ∧ yX12_arrives.cls ≠ "java/lang/invoke/VarHandle" ∧ (parseMethodDescriptor yX12_arrives.desc).map (fun d => d.parameters.length) = some 1 := by decide +kernel
theorem w_M_begins : Cond.instanceMethod yX12_begins ∈ zT ∧ Cond.selects yX12_begins.cls yX12_begins yX12_begins ∈ zT ∧ Cond.initialized yX12_begins.cls ∈ zT ∧ Cond.code yX12_begins cX12_begins 2 none ∈ zT := ⟨zT_of (i := 1835) (by decide +kernel) rfl, zT_of (i := 102) (by decide +kernel) rfl, zT_of (i := 135) (by decide +kernel) rfl, zT_of (i := 1836) (by decide +kernel) rfl⟩
theorem hy_M_begins : yX12_begins.cls ≠ "java/lang/invoke/MethodHandle" ∧ yX12_begins.cls ≠ "java/lang/invoke/VarHandle" ∧ (parseMethodDescriptor yX12_begins.desc).map (fun d => d.parameters.length) = some 0 := by decide +kernel
theorem w_M_beginsAhead : Cond.instanceMethod yX12_beginsAhead ∈ zT ∧ Cond.selects yX12_beginsAhead.cls yX12_beginsAhead yX12_beginsAhead ∈ zT ∧ Cond.initialized yX12_beginsAhead.cls ∈ zT ∧ Cond.code yX12_beginsAhead cX12_beginsAhead 2 none ∈ zT := ⟨zT_of (i := 1823) (by decide +kernel) rfl, zT_of (i := 99) (by decide +kernel) rfl, zT_of (i := 135) (by decide +kernel) rfl, zT_of (i := 1824) (by decide +kernel) rfl⟩
theorem hy_M_beginsAhead : yX12_beginsAhead.cls ≠ "java/lang/invoke/MethodHandle" ∧ yX12_beginsAhead.cls ≠ "java/lang/invoke/VarHandle" ∧ (parseMethodDescriptor yX12_beginsAhead.desc).map (fun d => d.parameters.length) = some 0 := by decide +kernel
theorem w_M_event : Cond.instanceMethod yX12_event ∈ zT ∧ Cond.selects yX12_event.cls yX12_event yX12_event ∈ zT ∧ Cond.initialized yX12_event.cls ∈ zT ∧ Cond.code yX12_event cX12_event 7 (some .int) ∈ zT := ⟨zT_of (i := 1781) (by decide +kernel) rfl, zT_of (i := 1782) (by decide +kernel) rfl, zT_of (i := 135) (by decide +kernel) rfl, zT_of (i := 1783) (by decide +kernel) rfl⟩
theorem hy_M_event : yX12_event.cls ≠ "java/lang/invoke/MethodHandle" ∧ yX12_event.cls ≠ "java/lang/invoke/VarHandle" ∧ (parseMethodDescriptor yX12_event.desc).map (fun d => d.parameters.length) = some 2 := by decide +kernel
theorem w_M_farOf : Cond.instanceMethod yX12_farOf ∈ zT ∧ Cond.selects yX12_farOf.cls yX12_farOf yX12_farOf ∈ zT ∧ Cond.initialized yX12_farOf.cls ∈ zT ∧ Cond.code yX12_farOf cX12_farOf 3 (some .int) ∈ zT := ⟨zT_of (i := 1798) (by decide +kernel) rfl, zT_of (i := 98) (by decide +kernel) rfl, zT_of (i := 135) (by decide +kernel) rfl, zT_of (i := 1799) (by decide +kernel) rfl⟩
theorem hy_M_farOf : yX12_farOf.cls ≠ "java/lang/invoke/MethodHandle" ∧ yX12_farOf.cls ≠ "java/lang/invoke/VarHandle" ∧ (parseMethodDescriptor yX12_farOf.desc).map (fun d => d.parameters.length) = some 1 := by decide +kernel
theorem w_M_flow : Cond.instanceMethod yX12_flow ∈ zT ∧ Cond.selects yX12_flow.cls yX12_flow yX12_flow ∈ zT ∧ Cond.initialized yX12_flow.cls ∈ zT ∧ Cond.code yX12_flow cX12_flow 4 (some .int) ∈ zT := ⟨zT_of (i := 1809) (by decide +kernel) rfl, zT_of (i := 1810) (by decide +kernel) rfl, zT_of (i := 135) (by decide +kernel) rfl, zT_of (i := 1811) (by decide +kernel) rfl⟩
theorem hy_M_flow : yX12_flow.cls ≠ "java/lang/invoke/MethodHandle" ∧ yX12_flow.cls ≠ "java/lang/invoke/VarHandle" ∧ (parseMethodDescriptor yX12_flow.desc).map (fun d => d.parameters.length) = some 3 := by decide +kernel
theorem w_M_isAhead : Cond.instanceMethod yX12_isAhead ∈ zT ∧ Cond.selects yX12_isAhead.cls yX12_isAhead yX12_isAhead ∈ zT ∧ Cond.initialized yX12_isAhead.cls ∈ zT ∧ Cond.code yX12_isAhead cX12_isAhead 5 (some .boolean) ∈ zT := ⟨zT_of (i := 1790) (by decide +kernel) rfl, zT_of (i := 97) (by decide +kernel) rfl, zT_of (i := 135) (by decide +kernel) rfl, zT_of (i := 1791) (by decide +kernel) rfl⟩
theorem hy_M_isAhead : yX12_isAhead.cls ≠ "java/lang/invoke/MethodHandle" ∧ yX12_isAhead.cls ≠ "java/lang/invoke/VarHandle" ∧ (parseMethodDescriptor yX12_isAhead.desc).map (fun d => d.parameters.length) = some 2 := by decide +kernel
theorem w_M_load : Cond.instanceMethod yX12_load ∈ zT ∧ Cond.selects yX12_load.cls yX12_load yX12_load ∈ zT ∧ Cond.initialized yX12_load.cls ∈ zT ∧ Cond.code yX12_load cX12_load 3 (some .int) ∈ zT := ⟨zT_of (i := 1765) (by decide +kernel) rfl, zT_of (i := 1766) (by decide +kernel) rfl, zT_of (i := 135) (by decide +kernel) rfl, zT_of (i := 1767) (by decide +kernel) rfl⟩
theorem hy_M_load : yX12_load.cls ≠ "java/lang/invoke/MethodHandle" ∧ yX12_load.cls ≠ "java/lang/invoke/VarHandle" ∧ (parseMethodDescriptor yX12_load.desc).map (fun d => d.parameters.length) = some 2 := by decide +kernel
theorem w_M_missing : Cond.instanceMethod yX12_missing ∈ zT ∧ Cond.selects yX12_missing.cls yX12_missing yX12_missing ∈ zT ∧ Cond.initialized yX12_missing.cls ∈ zT ∧ Cond.code yX12_missing cX12_missing 5 (some .int) ∈ zT := ⟨zT_of (i := 1813) (by decide +kernel) rfl, zT_of (i := 1814) (by decide +kernel) rfl, zT_of (i := 135) (by decide +kernel) rfl, zT_of (i := 1815) (by decide +kernel) rfl⟩
theorem hy_M_missing : yX12_missing.cls ≠ "java/lang/invoke/MethodHandle" ∧ yX12_missing.cls ≠ "java/lang/invoke/VarHandle" ∧ (parseMethodDescriptor yX12_missing.desc).map (fun d => d.parameters.length) = some 2 := by decide +kernel
theorem w_M_opens : Cond.instanceMethod yX12_opens ∈ zT ∧ Cond.selects yX12_opens.cls yX12_opens yX12_opens ∈ zT ∧ Cond.initialized yX12_opens.cls ∈ zT ∧ Cond.code yX12_opens cX12_opens 3 (some .int) ∈ zT := ⟨zT_of (i := 1761) (by decide +kernel) rfl, zT_of (i := 1762) (by decide +kernel) rfl, zT_of (i := 135) (by decide +kernel) rfl, zT_of (i := 1763) (by decide +kernel) rfl⟩
theorem hy_M_opens : yX12_opens.cls ≠ "java/lang/invoke/MethodHandle" ∧ yX12_opens.cls ≠ "java/lang/invoke/VarHandle" ∧ (parseMethodDescriptor yX12_opens.desc).map (fun d => d.parameters.length) = some 2 := by decide +kernel
theorem w_M_rank : Cond.instanceMethod yX12_rank ∈ zT ∧ Cond.selects yX12_rank.cls yX12_rank yX12_rank ∈ zT ∧ Cond.initialized yX12_rank.cls ∈ zT ∧ Cond.code yX12_rank cX12_rank 5 (some .int) ∈ zT := ⟨zT_of (i := 1793) (by decide +kernel) rfl, zT_of (i := 1794) (by decide +kernel) rfl, zT_of (i := 135) (by decide +kernel) rfl, zT_of (i := 1795) (by decide +kernel) rfl⟩
theorem hy_M_rank : yX12_rank.cls ≠ "java/lang/invoke/MethodHandle" ∧ yX12_rank.cls ≠ "java/lang/invoke/VarHandle" ∧ (parseMethodDescriptor yX12_rank.desc).map (fun d => d.parameters.length) = some 1 := by decide +kernel
theorem w_M_shortOfAll : Cond.instanceMethod yX12_shortOfAll ∈ zT ∧ Cond.selects yX12_shortOfAll.cls yX12_shortOfAll yX12_shortOfAll ∈ zT ∧ Cond.initialized yX12_shortOfAll.cls ∈ zT ∧ Cond.code yX12_shortOfAll cX12_shortOfAll 3 (some .int) ∈ zT := ⟨zT_of (i := 1778) (by decide +kernel) rfl, zT_of (i := 95) (by decide +kernel) rfl, zT_of (i := 135) (by decide +kernel) rfl, zT_of (i := 1779) (by decide +kernel) rfl⟩
theorem hy_M_shortOfAll : yX12_shortOfAll.cls ≠ "java/lang/invoke/MethodHandle" ∧ yX12_shortOfAll.cls ≠ "java/lang/invoke/VarHandle" ∧ (parseMethodDescriptor yX12_shortOfAll.desc).map (fun d => d.parameters.length) = some 0 := by decide +kernel
theorem w_M_stepOf : Cond.instanceMethod yX12_stepOf ∈ zT ∧ Cond.selects yX12_stepOf.cls yX12_stepOf yX12_stepOf ∈ zT ∧ Cond.initialized yX12_stepOf.cls ∈ zT ∧ Cond.code yX12_stepOf cX12_stepOf 3 (some .int) ∈ zT := ⟨zT_of (i := 1786) (by decide +kernel) rfl, zT_of (i := 96) (by decide +kernel) rfl, zT_of (i := 135) (by decide +kernel) rfl, zT_of (i := 1787) (by decide +kernel) rfl⟩
theorem hy_M_stepOf : yX12_stepOf.cls ≠ "java/lang/invoke/MethodHandle" ∧ yX12_stepOf.cls ≠ "java/lang/invoke/VarHandle" ∧ (parseMethodDescriptor yX12_stepOf.desc).map (fun d => d.parameters.length) = some 1 := by decide +kernel
theorem w_M_thereNow : Cond.instanceMethod yX12_thereNow ∈ zT ∧ Cond.selects yX12_thereNow.cls yX12_thereNow yX12_thereNow ∈ zT ∧ Cond.initialized yX12_thereNow.cls ∈ zT ∧ Cond.code yX12_thereNow cX12_thereNow 3 (some .int) ∈ zT := ⟨zT_of (i := 1774) (by decide +kernel) rfl, zT_of (i := 94) (by decide +kernel) rfl, zT_of (i := 135) (by decide +kernel) rfl, zT_of (i := 1775) (by decide +kernel) rfl⟩
theorem hy_M_thereNow : yX12_thereNow.cls ≠ "java/lang/invoke/MethodHandle" ∧ yX12_thereNow.cls ≠ "java/lang/invoke/VarHandle" ∧ (parseMethodDescriptor yX12_thereNow.desc).map (fun d => d.parameters.length) = some 0 := by decide +kernel
theorem dX12_opens_0 : decode cX12_opens 0 = .ok (.aload_n 0, 1) := by decide +kernel
theorem dX12_opens_1 : decode cX12_opens 1 = .ok (.iload_n 1, 1) := by decide +kernel
theorem dX12_opens_2 : decode cX12_opens 2 = .ok (.invokevirtual 324, 3) := by decide +kernel
theorem dX12_opens_5 : decode cX12_opens 5 = .ok (.ifCond .eq 31, 3) := by decide +kernel
theorem dX12_opens_8 : decode cX12_opens 8 = .ok (.iload_n 2, 1) := by decide +kernel
theorem dX12_opens_9 : decode cX12_opens 9 = .ok (.iconst 0, 1) := by decide +kernel
theorem dX12_opens_10 : decode cX12_opens 10 = .ok (.sipush 9999, 3) := by decide +kernel
theorem dX12_opens_13 : decode cX12_opens 13 = .ok (.invokestatic 198, 3) := by decide +kernel
theorem dX12_opens_16 : decode cX12_opens 16 = .ok (.ifCond .eq 20, 3) := by decide +kernel
theorem dX12_opens_19 : decode cX12_opens 19 = .ok (.aload_n 0, 1) := by decide +kernel
theorem dX12_opens_20 : decode cX12_opens 20 = .ok (.iload_n 1, 1) := by decide +kernel
theorem dX12_opens_21 : decode cX12_opens 21 = .ok (.iload_n 2, 1) := by decide +kernel
theorem dX12_opens_22 : decode cX12_opens 22 = .ok (.invokevirtual 257, 3) := by decide +kernel
theorem dX12_opens_25 : decode cX12_opens 25 = .ok (.ifCond .eq 7, 3) := by decide +kernel
theorem dX12_opens_28 : decode cX12_opens 28 = .ok (.iconst 1, 1) := by decide +kernel
theorem dX12_opens_29 : decode cX12_opens 29 = .ok (.goto 8, 3) := by decide +kernel
theorem dX12_opens_32 : decode cX12_opens 32 = .ok (.iconst 0, 1) := by decide +kernel
theorem dX12_opens_33 : decode cX12_opens 33 = .ok (.goto 4, 3) := by decide +kernel
theorem dX12_opens_36 : decode cX12_opens 36 = .ok (.iconst (-1), 1) := by decide +kernel
theorem dX12_opens_37 : decode cX12_opens 37 = .ok (.ireturn, 1) := by decide +kernel
abbrev rm_M_opens : Room := { frames := 2, cells := 0, slots := 0, locals := 46 }
def M_opens (σ : Sg) (x1 : Int32) (x2 : Int32) : Option Int32 :=
  (M_isOutlet σ x1).bind fun r2 =>
  if (zb r2) = 0 then (
    some (-1)
  ) else (
    (M_isIn x2 0 9999).bind fun r13 =>
    if (zb r13) = 0 then (
      some (-1)
    ) else (
      (M_isOpen σ x1 x2).bind fun r22 =>
      if (zb r22) = 0 then (
        some 0
      ) else (
        some 1
      )
    )
  )
set_option maxRecDepth 20000 in
theorem t_M_opens {X : Zx} {Q : State → Prop} {σ : Sg} {x1 : Int32} {x2 : Int32} (ok : Zok X cX12_opens RX12 rm_M_opens 198 3)  {out : Int32} (hf : M_opens σ x1 x2 = some out) (hk : ZrI cX12_opens X Q out σ) : ZAt X Q 0 0 0 σ [(0, .ref (X.ad 171)), (1, .int x1), (2, .int x2)] [] := by
  unfold M_opens at hf
  refine z_aload_n ok dX12_opens_0 0 rfl ?_
  refine z_iload_n ok dX12_opens_1 1 rfl ?_
  refine z_call hf (fun r2 h2 hf => ?_)
  refine z_cV (As := [.int x1]) (rest := []) (w := 171) ok kc_171 zc_12 (c_M_isOutlet h2) rfl ⟨ml_12_324, w_M_isOutlet⟩ hy_M_isOutlet ⟨rfl, rfl⟩ ⟨Nat.le_of_ble_eq_true rfl, Nat.le_of_ble_eq_true rfl⟩ ⟨Nat.zero_le _, Nat.zero_le _⟩ rfl (Nat.le_of_ble_eq_true rfl) dX12_opens_2 ?_
  refine z_if_eq (tgt := 36) ok dX12_opens_5 (by decide) hf (fun _ hf => ?_) (fun _ hf => ?_)
  · refine z_iconst (v := (-1)) ok dX12_opens_36 (by decide) ?_
    obtain rfl := Option.some.inj hf
    exact hk _ _ dX12_opens_37
  · refine z_iload_n ok dX12_opens_8 2 rfl ?_
    refine z_iconst (v := 0) ok dX12_opens_9 (by decide) ?_
    refine z_sipush (v := 9999) ok dX12_opens_10 (by decide) ?_
    refine z_call hf (fun r13 h13 hf => ?_)
    refine z_cS (As := [.int x2, .int 0, .int 9999]) (rest := []) ok (c_M_isIn h13) rfl ⟨ml_12_198, w_M_isIn⟩ hy_M_isIn ⟨rfl, rfl⟩ ⟨Nat.le_of_ble_eq_true rfl, Nat.le_of_ble_eq_true rfl⟩ ⟨Nat.zero_le _, Nat.zero_le _⟩ rfl (Nat.le_of_ble_eq_true rfl) dX12_opens_13 ?_
    refine z_if_eq (tgt := 36) ok dX12_opens_16 (by decide) hf (fun _ hf => ?_) (fun _ hf => ?_)
    · refine z_iconst (v := (-1)) ok dX12_opens_36 (by decide) ?_
      obtain rfl := Option.some.inj hf
      exact hk _ _ dX12_opens_37
    · refine z_aload_n ok dX12_opens_19 0 rfl ?_
      refine z_iload_n ok dX12_opens_20 1 rfl ?_
      refine z_iload_n ok dX12_opens_21 2 rfl ?_
      refine z_call hf (fun r22 h22 hf => ?_)
      refine z_cV (As := [.int x1, .int x2]) (rest := []) (w := 171) ok kc_171 zc_12 (c_M_isOpen h22) rfl ⟨ml_12_257, w_M_isOpen⟩ hy_M_isOpen ⟨rfl, rfl⟩ ⟨Nat.le_of_ble_eq_true rfl, Nat.le_of_ble_eq_true rfl⟩ ⟨Nat.zero_le _, Nat.zero_le _⟩ rfl (Nat.le_of_ble_eq_true rfl) dX12_opens_22 ?_
      refine z_if_eq (tgt := 32) ok dX12_opens_25 (by decide) hf (fun _ hf => ?_) (fun _ hf => ?_)
      · refine z_iconst (v := 0) ok dX12_opens_32 (by decide) ?_
        refine z_goto (tgt := 37) ok dX12_opens_33 (by decide) ?_
        obtain rfl := Option.some.inj hf
        exact hk _ _ dX12_opens_37
      · refine z_iconst (v := 1) ok dX12_opens_28 (by decide) ?_
        refine z_goto (tgt := 37) ok dX12_opens_29 (by decide) ?_
        obtain rfl := Option.some.inj hf
        exact hk _ _ dX12_opens_37
theorem c_M_opens {σ : Sg} {x1 : Int32} {x2 : Int32} {r : Int32} (h : M_opens σ x1 x2 = some r) : ZcI yX12_opens cX12_opens 3 .int rm_M_opens 198 (fun ad => [.ref (ad 171), .int x1, .int x2]) σ r σ :=
  zmetI pn_12 rfl (fun _ => rfl) (fun _ => Nat.le_of_ble_eq_true rfl) rfl (fun X Q ok hk => t_M_opens ok h hk)
theorem dX12_load_0 : decode cX12_load 0 = .ok (.aload_n 0, 1) := by decide +kernel
theorem dX12_load_1 : decode cX12_load 1 = .ok (.iload_n 1, 1) := by decide +kernel
theorem dX12_load_2 : decode cX12_load 2 = .ok (.invokevirtual 321, 3) := by decide +kernel
theorem dX12_load_5 : decode cX12_load 5 = .ok (.ifCond .eq 23, 3) := by decide +kernel
theorem dX12_load_8 : decode cX12_load 8 = .ok (.iload_n 2, 1) := by decide +kernel
theorem dX12_load_9 : decode cX12_load 9 = .ok (.iconst 0, 1) := by decide +kernel
theorem dX12_load_10 : decode cX12_load 10 = .ok (.sipush 9999, 3) := by decide +kernel
theorem dX12_load_13 : decode cX12_load 13 = .ok (.invokestatic 198, 3) := by decide +kernel
theorem dX12_load_16 : decode cX12_load 16 = .ok (.ifCond .eq 12, 3) := by decide +kernel
theorem dX12_load_19 : decode cX12_load 19 = .ok (.aload_n 0, 1) := by decide +kernel
theorem dX12_load_20 : decode cX12_load 20 = .ok (.iload_n 1, 1) := by decide +kernel
theorem dX12_load_21 : decode cX12_load 21 = .ok (.iload_n 2, 1) := by decide +kernel
theorem dX12_load_22 : decode cX12_load 22 = .ok (.invokevirtual 264, 3) := by decide +kernel
theorem dX12_load_25 : decode cX12_load 25 = .ok (.goto 4, 3) := by decide +kernel
theorem dX12_load_28 : decode cX12_load 28 = .ok (.iconst (-1), 1) := by decide +kernel
theorem dX12_load_29 : decode cX12_load 29 = .ok (.ireturn, 1) := by decide +kernel
abbrev rm_M_load : Room := { frames := 3, cells := 0, slots := 0, locals := 72 }
def M_load (σ : Sg) (x1 : Int32) (x2 : Int32) : Option Int32 :=
  (M_isPool σ x1).bind fun r2 =>
  if (zb r2) = 0 then (
    some (-1)
  ) else (
    (M_isIn x2 0 9999).bind fun r13 =>
    if (zb r13) = 0 then (
      some (-1)
    ) else (
      (M_loadOf σ x1 x2).bind fun r22 =>
      some r22
    )
  )
set_option maxRecDepth 20000 in
theorem t_M_load {X : Zx} {Q : State → Prop} {σ : Sg} {x1 : Int32} {x2 : Int32} (ok : Zok X cX12_load RX12 rm_M_load 198 3)  {out : Int32} (hf : M_load σ x1 x2 = some out) (hk : ZrI cX12_load X Q out σ) : ZAt X Q 0 0 0 σ [(0, .ref (X.ad 171)), (1, .int x1), (2, .int x2)] [] := by
  unfold M_load at hf
  refine z_aload_n ok dX12_load_0 0 rfl ?_
  refine z_iload_n ok dX12_load_1 1 rfl ?_
  refine z_call hf (fun r2 h2 hf => ?_)
  refine z_cV (As := [.int x1]) (rest := []) (w := 171) ok kc_171 zc_12 (c_M_isPool h2) rfl ⟨ml_12_321, w_M_isPool⟩ hy_M_isPool ⟨rfl, rfl⟩ ⟨Nat.le_of_ble_eq_true rfl, Nat.le_of_ble_eq_true rfl⟩ ⟨Nat.zero_le _, Nat.zero_le _⟩ rfl (Nat.le_of_ble_eq_true rfl) dX12_load_2 ?_
  refine z_if_eq (tgt := 28) ok dX12_load_5 (by decide) hf (fun _ hf => ?_) (fun _ hf => ?_)
  · refine z_iconst (v := (-1)) ok dX12_load_28 (by decide) ?_
    obtain rfl := Option.some.inj hf
    exact hk _ _ dX12_load_29
  · refine z_iload_n ok dX12_load_8 2 rfl ?_
    refine z_iconst (v := 0) ok dX12_load_9 (by decide) ?_
    refine z_sipush (v := 9999) ok dX12_load_10 (by decide) ?_
    refine z_call hf (fun r13 h13 hf => ?_)
    refine z_cS (As := [.int x2, .int 0, .int 9999]) (rest := []) ok (c_M_isIn h13) rfl ⟨ml_12_198, w_M_isIn⟩ hy_M_isIn ⟨rfl, rfl⟩ ⟨Nat.le_of_ble_eq_true rfl, Nat.le_of_ble_eq_true rfl⟩ ⟨Nat.zero_le _, Nat.zero_le _⟩ rfl (Nat.le_of_ble_eq_true rfl) dX12_load_13 ?_
    refine z_if_eq (tgt := 28) ok dX12_load_16 (by decide) hf (fun _ hf => ?_) (fun _ hf => ?_)
    · refine z_iconst (v := (-1)) ok dX12_load_28 (by decide) ?_
      obtain rfl := Option.some.inj hf
      exact hk _ _ dX12_load_29
    · refine z_aload_n ok dX12_load_19 0 rfl ?_
      refine z_iload_n ok dX12_load_20 1 rfl ?_
      refine z_iload_n ok dX12_load_21 2 rfl ?_
      refine z_call hf (fun r22 h22 hf => ?_)
      refine z_cV (As := [.int x1, .int x2]) (rest := []) (w := 171) ok kc_171 zc_12 (c_M_loadOf h22) rfl ⟨ml_12_264, w_M_loadOf⟩ hy_M_loadOf ⟨rfl, rfl⟩ ⟨Nat.le_of_ble_eq_true rfl, Nat.le_of_ble_eq_true rfl⟩ ⟨Nat.zero_le _, Nat.zero_le _⟩ rfl (Nat.le_of_ble_eq_true rfl) dX12_load_22 ?_
      refine z_goto (tgt := 29) ok dX12_load_25 (by decide) ?_
      obtain rfl := Option.some.inj hf
      exact hk _ _ dX12_load_29
theorem c_M_load {σ : Sg} {x1 : Int32} {x2 : Int32} {r : Int32} (h : M_load σ x1 x2 = some r) : ZcI yX12_load cX12_load 3 .int rm_M_load 198 (fun ad => [.ref (ad 171), .int x1, .int x2]) σ r σ :=
  zmetI pn_12 rfl (fun _ => rfl) (fun _ => Nat.le_of_ble_eq_true rfl) rfl (fun X Q ok hk => t_M_load ok h hk)
theorem dX12_thereNow_0 : decode cX12_thereNow 0 = .ok (.iconst 0, 1) := by decide +kernel
theorem dX12_thereNow_1 : decode cX12_thereNow 1 = .ok (.istore_n 1, 1) := by decide +kernel
theorem dX12_thereNow_2 : decode cX12_thereNow 2 = .ok (.iconst 0, 1) := by decide +kernel
theorem dX12_thereNow_3 : decode cX12_thereNow 3 = .ok (.istore_n 2, 1) := by decide +kernel
theorem dX12_thereNow_4 : decode cX12_thereNow 4 = .ok (.iload_n 2, 1) := by decide +kernel
theorem dX12_thereNow_5 : decode cX12_thereNow 5 = .ok (.aload_n 0, 1) := by decide +kernel
theorem dX12_thereNow_6 : decode cX12_thereNow 6 = .ok (.getfield 7, 3) := by decide +kernel
theorem dX12_thereNow_9 : decode cX12_thereNow 9 = .ok (.if_icmp .ge 26, 3) := by decide +kernel
theorem dX12_thereNow_12 : decode cX12_thereNow 12 = .ok (.iload_n 1, 1) := by decide +kernel
theorem dX12_thereNow_13 : decode cX12_thereNow 13 = .ok (.aload_n 0, 1) := by decide +kernel
theorem dX12_thereNow_14 : decode cX12_thereNow 14 = .ok (.getfield 71, 3) := by decide +kernel
theorem dX12_thereNow_17 : decode cX12_thereNow 17 = .ok (.iconst 0, 1) := by decide +kernel
theorem dX12_thereNow_18 : decode cX12_thereNow 18 = .ok (.iload_n 2, 1) := by decide +kernel
theorem dX12_thereNow_19 : decode cX12_thereNow 19 = .ok (.iadd, 1) := by decide +kernel
theorem dX12_thereNow_20 : decode cX12_thereNow 20 = .ok (.iaload, 1) := by decide +kernel
theorem dX12_thereNow_21 : decode cX12_thereNow 21 = .ok (.aload_n 0, 1) := by decide +kernel
theorem dX12_thereNow_22 : decode cX12_thereNow 22 = .ok (.iload_n 2, 1) := by decide +kernel
theorem dX12_thereNow_23 : decode cX12_thereNow 23 = .ok (.invokevirtual 327, 3) := by decide +kernel
theorem dX12_thereNow_26 : decode cX12_thereNow 26 = .ok (.iadd, 1) := by decide +kernel
theorem dX12_thereNow_27 : decode cX12_thereNow 27 = .ok (.iadd, 1) := by decide +kernel
theorem dX12_thereNow_28 : decode cX12_thereNow 28 = .ok (.istore_n 1, 1) := by decide +kernel
theorem dX12_thereNow_29 : decode cX12_thereNow 29 = .ok (.iinc 2 1, 3) := by decide +kernel
theorem dX12_thereNow_32 : decode cX12_thereNow 32 = .ok (.goto (-28), 3) := by decide +kernel
theorem dX12_thereNow_35 : decode cX12_thereNow 35 = .ok (.iload_n 1, 1) := by decide +kernel
theorem dX12_thereNow_36 : decode cX12_thereNow 36 = .ok (.ireturn, 1) := by decide +kernel
abbrev rm_M_thereNow : Room := { frames := 1, cells := 0, slots := 0, locals := 23 }
def M_thereNow_l4 (σ : Sg) (x1 : Int32) (x2 : Int32) : Option ((Int32 × Int32) ⊕ (Int32 × Int32)) :=
  zgt σ 171 0 fun v6 =>
  if v6 ≤ x2 then (
    some (.inr (x1, x2))
  ) else (
    zrd σ 183 1607 (0 + x2) fun v20 =>
    (M_onWay σ x2).bind fun r23 =>
    zlt (x1 + (v20 + r23)) fun v28 =>
    zlt (x2 + 1) fun v29 =>
    some (.inl (v28, v29))
  )
set_option maxRecDepth 20000 in
theorem t_M_thereNow_l4 {X : Zx} {Q : State → Prop} {σ : Sg} {x1 : Int32} {x2 : Int32} (ok : Zok X cX12_thereNow RX12 rm_M_thereNow 198 3)  {out : ((Int32 × Int32) ⊕ (Int32 × Int32))} (hf : M_thereNow_l4 σ x1 x2 = some out) (hk : zout (fun (s : (Int32 × Int32)) => ZAt X Q 0 0 4 σ [(0, .ref (X.ad 171)), (1, .int s.1), (2, .int s.2)] []) (fun (s : (Int32 × Int32)) => ZAt X Q 0 0 35 σ [(1, .int s.1)] []) out) : ZAt X Q 0 0 4 σ [(0, .ref (X.ad 171)), (1, .int x1), (2, .int x2)] [] := by
  unfold M_thereNow_l4 at hf
  refine z_iload_n ok dX12_thereNow_4 2 rfl ?_
  refine z_aload_n ok dX12_thereNow_5 0 rfl ?_
  refine z_geti ok kc_171 zc_12 hin_12 0 (by decide) fl_12_7 rfl dX12_thereNow_6 hf (fun v6 hf => ?_)
  refine z_icmp_ge (tgt := 35) ok dX12_thereNow_9 (by decide) hf (fun _ hf => ?_) (fun _ hf => ?_)
  · obtain rfl := Option.some.inj hf
    exact z_sub [1] rfl hk
  · refine z_iload_n ok dX12_thereNow_12 1 rfl ?_
    refine z_aload_n ok dX12_thereNow_13 0 rfl ?_
    refine z_getr (q := 183) ok kc_171 zc_12 hin_12 20 (by decide) fl_12_71 rfl dX12_thereNow_14 ?_
    refine z_iconst (v := 0) ok dX12_thereNow_17 (by decide) ?_
    refine z_iload_n ok dX12_thereNow_18 2 rfl ?_
    refine z_iadd ok dX12_thereNow_19 ?_
    refine z_iald ok kc_183 dX12_thereNow_20 hf (fun v20 hf => ?_)
    refine z_aload_n ok dX12_thereNow_21 0 rfl ?_
    refine z_iload_n ok dX12_thereNow_22 2 rfl ?_
    refine z_call hf (fun r23 h23 hf => ?_)
    refine z_cV (As := [.int x2]) (rest := [.int v20, .int x1]) (w := 171) ok kc_171 zc_12 (c_M_onWay h23) rfl ⟨ml_12_327, w_M_onWay⟩ hy_M_onWay ⟨rfl, rfl⟩ ⟨Nat.le_of_ble_eq_true rfl, Nat.le_of_ble_eq_true rfl⟩ ⟨Nat.zero_le _, Nat.zero_le _⟩ rfl (Nat.le_of_ble_eq_true rfl) dX12_thereNow_23 ?_
    refine z_iadd ok dX12_thereNow_26 ?_
    refine z_iadd ok dX12_thereNow_27 ?_
    refine z_nm hf (fun v28 hf => ?_)
    refine z_istore_n (lv' := [(1, .int v28), (0, .ref (X.ad 171)), (2, .int x2)]) ok dX12_thereNow_28 (by decide) rfl ?_
    refine z_iinc (w := 1) (lv' := fun v29 => [(2, .int v29), (1, .int v28), (0, .ref (X.ad 171))]) ok dX12_thereNow_29 2 rfl (by decide) (by decide) (fun _ => rfl) hf (fun v29 hf => ?_)
    refine z_goto (tgt := 4) ok dX12_thereNow_32 (by decide) ?_
    obtain rfl := Option.some.inj hf
    exact z_sub [2, 1, 0] rfl hk
def M_thereNow (σ : Sg)  : Option Int32 :=
  zlt 0 fun v1 =>
  zlt 0 fun v3 =>
  (zit (fun (s : (Int32 × Int32)) => M_thereNow_l4 σ s.1 s.2) zFU (v1, v3)).bind fun r =>
  some r.1
set_option maxRecDepth 20000 in
theorem t_M_thereNow {X : Zx} {Q : State → Prop} {σ : Sg}  (ok : Zok X cX12_thereNow RX12 rm_M_thereNow 198 3)  {out : Int32} (hf : M_thereNow σ = some out) (hk : ZrI cX12_thereNow X Q out σ) : ZAt X Q 0 0 0 σ [(0, .ref (X.ad 171))] [] := by
  unfold M_thereNow at hf
  refine z_iconst (v := 0) ok dX12_thereNow_0 (by decide) ?_
  refine z_nm hf (fun v1 hf => ?_)
  refine z_istore_n (lv' := [(1, .int v1), (0, .ref (X.ad 171))]) ok dX12_thereNow_1 (by decide) rfl ?_
  refine z_iconst (v := 0) ok dX12_thereNow_2 (by decide) ?_
  refine z_nm hf (fun v3 hf => ?_)
  refine z_istore_n (lv' := [(2, .int v3), (1, .int v1), (0, .ref (X.ad 171))]) ok dX12_thereNow_3 (by decide) rfl ?_
  refine z_call hf (fun r hr hf => ?_)
  refine z_sub [2, 1, 0] rfl (z_iter (fun (s : (Int32 × Int32)) => σ) (fun (s : (Int32 × Int32)) => [(0, .ref (X.ad 171)), (1, .int s.1), (2, .int s.2)]) (fun s o h1 h2 => t_M_thereNow_l4 ok h1 h2) _ _ _ hr ?_)
  show ZAt X Q 0 0 35 σ [(1, .int r.1)] []
  refine z_iload_n ok dX12_thereNow_35 0 rfl ?_
  obtain rfl := Option.some.inj hf
  exact hk _ _ dX12_thereNow_36
theorem c_M_thereNow {σ : Sg} {r : Int32} (h : M_thereNow σ = some r) : ZcI yX12_thereNow cX12_thereNow 3 .int rm_M_thereNow 198 (fun ad => [.ref (ad 171)]) σ r σ :=
  zmetI pn_12 rfl (fun _ => rfl) (fun _ => Nat.le_of_ble_eq_true rfl) rfl (fun X Q ok hk => t_M_thereNow ok h hk)
theorem dX12_shortOfAll_0 : decode cX12_shortOfAll 0 = .ok (.iconst 0, 1) := by decide +kernel
theorem dX12_shortOfAll_1 : decode cX12_shortOfAll 1 = .ok (.istore_n 1, 1) := by decide +kernel
theorem dX12_shortOfAll_2 : decode cX12_shortOfAll 2 = .ok (.iconst 0, 1) := by decide +kernel
theorem dX12_shortOfAll_3 : decode cX12_shortOfAll 3 = .ok (.istore_n 2, 1) := by decide +kernel
theorem dX12_shortOfAll_4 : decode cX12_shortOfAll 4 = .ok (.iload_n 2, 1) := by decide +kernel
theorem dX12_shortOfAll_5 : decode cX12_shortOfAll 5 = .ok (.aload_n 0, 1) := by decide +kernel
theorem dX12_shortOfAll_6 : decode cX12_shortOfAll 6 = .ok (.getfield 13, 3) := by decide +kernel
theorem dX12_shortOfAll_9 : decode cX12_shortOfAll 9 = .ok (.if_icmp .ge 22, 3) := by decide +kernel
theorem dX12_shortOfAll_12 : decode cX12_shortOfAll 12 = .ok (.iload_n 1, 1) := by decide +kernel
theorem dX12_shortOfAll_13 : decode cX12_shortOfAll 13 = .ok (.aload_n 0, 1) := by decide +kernel
theorem dX12_shortOfAll_14 : decode cX12_shortOfAll 14 = .ok (.getfield 71, 3) := by decide +kernel
theorem dX12_shortOfAll_17 : decode cX12_shortOfAll 17 = .ok (.sipush 138, 3) := by decide +kernel
theorem dX12_shortOfAll_20 : decode cX12_shortOfAll 20 = .ok (.iload_n 2, 1) := by decide +kernel
theorem dX12_shortOfAll_21 : decode cX12_shortOfAll 21 = .ok (.iadd, 1) := by decide +kernel
theorem dX12_shortOfAll_22 : decode cX12_shortOfAll 22 = .ok (.iaload, 1) := by decide +kernel
theorem dX12_shortOfAll_23 : decode cX12_shortOfAll 23 = .ok (.iadd, 1) := by decide +kernel
theorem dX12_shortOfAll_24 : decode cX12_shortOfAll 24 = .ok (.istore_n 1, 1) := by decide +kernel
theorem dX12_shortOfAll_25 : decode cX12_shortOfAll 25 = .ok (.iinc 2 1, 3) := by decide +kernel
theorem dX12_shortOfAll_28 : decode cX12_shortOfAll 28 = .ok (.goto (-24), 3) := by decide +kernel
theorem dX12_shortOfAll_31 : decode cX12_shortOfAll 31 = .ok (.iload_n 1, 1) := by decide +kernel
theorem dX12_shortOfAll_32 : decode cX12_shortOfAll 32 = .ok (.ireturn, 1) := by decide +kernel
abbrev rm_M_shortOfAll : Room := { frames := 0, cells := 0, slots := 0, locals := 0 }
def M_shortOfAll_l4 (σ : Sg) (x1 : Int32) (x2 : Int32) : Option ((Int32 × Int32) ⊕ (Int32 × Int32)) :=
  zgt σ 171 1 fun v6 =>
  if v6 ≤ x2 then (
    some (.inr (x1, x2))
  ) else (
    zrd σ 183 1607 (138 + x2) fun v22 =>
    zlt (x1 + v22) fun v24 =>
    zlt (x2 + 1) fun v25 =>
    some (.inl (v24, v25))
  )
set_option maxRecDepth 20000 in
theorem t_M_shortOfAll_l4 {X : Zx} {Q : State → Prop} {σ : Sg} {x1 : Int32} {x2 : Int32} (ok : Zok X cX12_shortOfAll RX12 rm_M_shortOfAll 198 3)  {out : ((Int32 × Int32) ⊕ (Int32 × Int32))} (hf : M_shortOfAll_l4 σ x1 x2 = some out) (hk : zout (fun (s : (Int32 × Int32)) => ZAt X Q 0 0 4 σ [(0, .ref (X.ad 171)), (1, .int s.1), (2, .int s.2)] []) (fun (s : (Int32 × Int32)) => ZAt X Q 0 0 31 σ [(1, .int s.1)] []) out) : ZAt X Q 0 0 4 σ [(0, .ref (X.ad 171)), (1, .int x1), (2, .int x2)] [] := by
  unfold M_shortOfAll_l4 at hf
  refine z_iload_n ok dX12_shortOfAll_4 2 rfl ?_
  refine z_aload_n ok dX12_shortOfAll_5 0 rfl ?_
  refine z_geti ok kc_171 zc_12 hin_12 1 (by decide) fl_12_13 rfl dX12_shortOfAll_6 hf (fun v6 hf => ?_)
  refine z_icmp_ge (tgt := 31) ok dX12_shortOfAll_9 (by decide) hf (fun _ hf => ?_) (fun _ hf => ?_)
  · obtain rfl := Option.some.inj hf
    exact z_sub [1] rfl hk
  · refine z_iload_n ok dX12_shortOfAll_12 1 rfl ?_
    refine z_aload_n ok dX12_shortOfAll_13 0 rfl ?_
    refine z_getr (q := 183) ok kc_171 zc_12 hin_12 20 (by decide) fl_12_71 rfl dX12_shortOfAll_14 ?_
    refine z_sipush (v := 138) ok dX12_shortOfAll_17 (by decide) ?_
    refine z_iload_n ok dX12_shortOfAll_20 2 rfl ?_
    refine z_iadd ok dX12_shortOfAll_21 ?_
    refine z_iald ok kc_183 dX12_shortOfAll_22 hf (fun v22 hf => ?_)
    refine z_iadd ok dX12_shortOfAll_23 ?_
    refine z_nm hf (fun v24 hf => ?_)
    refine z_istore_n (lv' := [(1, .int v24), (0, .ref (X.ad 171)), (2, .int x2)]) ok dX12_shortOfAll_24 (by decide) rfl ?_
    refine z_iinc (w := 1) (lv' := fun v25 => [(2, .int v25), (1, .int v24), (0, .ref (X.ad 171))]) ok dX12_shortOfAll_25 2 rfl (by decide) (by decide) (fun _ => rfl) hf (fun v25 hf => ?_)
    refine z_goto (tgt := 4) ok dX12_shortOfAll_28 (by decide) ?_
    obtain rfl := Option.some.inj hf
    exact z_sub [2, 1, 0] rfl hk
def M_shortOfAll (σ : Sg)  : Option Int32 :=
  zlt 0 fun v1 =>
  zlt 0 fun v3 =>
  (zit (fun (s : (Int32 × Int32)) => M_shortOfAll_l4 σ s.1 s.2) zFU (v1, v3)).bind fun r =>
  some r.1
set_option maxRecDepth 20000 in
theorem t_M_shortOfAll {X : Zx} {Q : State → Prop} {σ : Sg}  (ok : Zok X cX12_shortOfAll RX12 rm_M_shortOfAll 198 3)  {out : Int32} (hf : M_shortOfAll σ = some out) (hk : ZrI cX12_shortOfAll X Q out σ) : ZAt X Q 0 0 0 σ [(0, .ref (X.ad 171))] [] := by
  unfold M_shortOfAll at hf
  refine z_iconst (v := 0) ok dX12_shortOfAll_0 (by decide) ?_
  refine z_nm hf (fun v1 hf => ?_)
  refine z_istore_n (lv' := [(1, .int v1), (0, .ref (X.ad 171))]) ok dX12_shortOfAll_1 (by decide) rfl ?_
  refine z_iconst (v := 0) ok dX12_shortOfAll_2 (by decide) ?_
  refine z_nm hf (fun v3 hf => ?_)
  refine z_istore_n (lv' := [(2, .int v3), (1, .int v1), (0, .ref (X.ad 171))]) ok dX12_shortOfAll_3 (by decide) rfl ?_
  refine z_call hf (fun r hr hf => ?_)
  refine z_sub [2, 1, 0] rfl (z_iter (fun (s : (Int32 × Int32)) => σ) (fun (s : (Int32 × Int32)) => [(0, .ref (X.ad 171)), (1, .int s.1), (2, .int s.2)]) (fun s o h1 h2 => t_M_shortOfAll_l4 ok h1 h2) _ _ _ hr ?_)
  show ZAt X Q 0 0 31 σ [(1, .int r.1)] []
  refine z_iload_n ok dX12_shortOfAll_31 0 rfl ?_
  obtain rfl := Option.some.inj hf
  exact hk _ _ dX12_shortOfAll_32
theorem c_M_shortOfAll {σ : Sg} {r : Int32} (h : M_shortOfAll σ = some r) : ZcI yX12_shortOfAll cX12_shortOfAll 3 .int rm_M_shortOfAll 198 (fun ad => [.ref (ad 171)]) σ r σ :=
  zmetI pn_12 rfl (fun _ => rfl) (fun _ => Nat.le_of_ble_eq_true rfl) rfl (fun X Q ok hk => t_M_shortOfAll ok h hk)
theorem dX12_account_0 : decode cX12_account 0 = .ok (.aload_n 0, 1) := by decide +kernel
theorem dX12_account_1 : decode cX12_account 1 = .ok (.getfield 86, 3) := by decide +kernel
theorem dX12_account_4 : decode cX12_account 4 = .ok (.ifCond .ne 5, 3) := by decide +kernel
theorem dX12_account_7 : decode cX12_account 7 = .ok (.iconst (-1), 1) := by decide +kernel
theorem dX12_account_8 : decode cX12_account 8 = .ok (.ireturn, 1) := by decide +kernel
theorem dX12_account_9 : decode cX12_account 9 = .ok (.iload_n 1, 1) := by decide +kernel
theorem dX12_account_10 : decode cX12_account 10 = .ok (.tableswitch 97 0 6 #[42, 51, 60, 69, 78, 87, 92], 42) := by decide +kernel
theorem dX12_account_52 : decode cX12_account 52 = .ok (.aload_n 0, 1) := by decide +kernel
theorem dX12_account_53 : decode cX12_account 53 = .ok (.getfield 71, 3) := by decide +kernel
theorem dX12_account_56 : decode cX12_account 56 = .ok (.sipush 200, 3) := by decide +kernel
theorem dX12_account_59 : decode cX12_account 59 = .ok (.iaload, 1) := by decide +kernel
theorem dX12_account_60 : decode cX12_account 60 = .ok (.ireturn, 1) := by decide +kernel
theorem dX12_account_61 : decode cX12_account 61 = .ok (.aload_n 0, 1) := by decide +kernel
theorem dX12_account_62 : decode cX12_account 62 = .ok (.getfield 71, 3) := by decide +kernel
theorem dX12_account_65 : decode cX12_account 65 = .ok (.sipush 201, 3) := by decide +kernel
theorem dX12_account_68 : decode cX12_account 68 = .ok (.iaload, 1) := by decide +kernel
theorem dX12_account_69 : decode cX12_account 69 = .ok (.ireturn, 1) := by decide +kernel
theorem dX12_account_70 : decode cX12_account 70 = .ok (.aload_n 0, 1) := by decide +kernel
theorem dX12_account_71 : decode cX12_account 71 = .ok (.getfield 71, 3) := by decide +kernel
theorem dX12_account_74 : decode cX12_account 74 = .ok (.sipush 202, 3) := by decide +kernel
theorem dX12_account_77 : decode cX12_account 77 = .ok (.iaload, 1) := by decide +kernel
theorem dX12_account_78 : decode cX12_account 78 = .ok (.ireturn, 1) := by decide +kernel
theorem dX12_account_79 : decode cX12_account 79 = .ok (.aload_n 0, 1) := by decide +kernel
theorem dX12_account_80 : decode cX12_account 80 = .ok (.getfield 71, 3) := by decide +kernel
theorem dX12_account_83 : decode cX12_account 83 = .ok (.sipush 203, 3) := by decide +kernel
theorem dX12_account_86 : decode cX12_account 86 = .ok (.iaload, 1) := by decide +kernel
theorem dX12_account_87 : decode cX12_account 87 = .ok (.ireturn, 1) := by decide +kernel
theorem dX12_account_88 : decode cX12_account 88 = .ok (.aload_n 0, 1) := by decide +kernel
theorem dX12_account_89 : decode cX12_account 89 = .ok (.getfield 71, 3) := by decide +kernel
theorem dX12_account_92 : decode cX12_account 92 = .ok (.sipush 204, 3) := by decide +kernel
theorem dX12_account_95 : decode cX12_account 95 = .ok (.iaload, 1) := by decide +kernel
theorem dX12_account_96 : decode cX12_account 96 = .ok (.ireturn, 1) := by decide +kernel
theorem dX12_account_97 : decode cX12_account 97 = .ok (.aload_n 0, 1) := by decide +kernel
theorem dX12_account_98 : decode cX12_account 98 = .ok (.invokevirtual 330, 3) := by decide +kernel
theorem dX12_account_101 : decode cX12_account 101 = .ok (.ireturn, 1) := by decide +kernel
theorem dX12_account_102 : decode cX12_account 102 = .ok (.aload_n 0, 1) := by decide +kernel
theorem dX12_account_103 : decode cX12_account 103 = .ok (.invokevirtual 333, 3) := by decide +kernel
theorem dX12_account_106 : decode cX12_account 106 = .ok (.ireturn, 1) := by decide +kernel
theorem dX12_account_107 : decode cX12_account 107 = .ok (.iconst (-1), 1) := by decide +kernel
theorem dX12_account_108 : decode cX12_account 108 = .ok (.ireturn, 1) := by decide +kernel
abbrev rm_M_account : Room := { frames := 2, cells := 0, slots := 0, locals := 45 }
def M_account (σ : Sg) (x1 : Int32) : Option Int32 :=
  zgt σ 171 25 fun v1 =>
  if v1 = 0 then (
    some (-1)
  ) else (
    if x1 = 0 then (
      zrd σ 183 1607 200 fun v59 =>
      some v59
    ) else (
    if x1 = 1 then (
      zrd σ 183 1607 201 fun v68 =>
      some v68
    ) else (
    if x1 = 2 then (
      zrd σ 183 1607 202 fun v77 =>
      some v77
    ) else (
    if x1 = 3 then (
      zrd σ 183 1607 203 fun v86 =>
      some v86
    ) else (
    if x1 = 4 then (
      zrd σ 183 1607 204 fun v95 =>
      some v95
    ) else (
    if x1 = 5 then (
      (M_thereNow σ).bind fun r98 =>
      some r98
    ) else (
    if x1 = 6 then (
      (M_shortOfAll σ).bind fun r103 =>
      some r103
    ) else (
      some (-1)
    )))))))
  )
set_option maxRecDepth 20000 in
theorem t_M_account {X : Zx} {Q : State → Prop} {σ : Sg} {x1 : Int32} (ok : Zok X cX12_account RX12 rm_M_account 198 2)  {out : Int32} (hf : M_account σ x1 = some out) (hk : ZrI cX12_account X Q out σ) : ZAt X Q 0 0 0 σ [(0, .ref (X.ad 171)), (1, .int x1)] [] := by
  unfold M_account at hf
  refine z_aload_n ok dX12_account_0 0 rfl ?_
  refine z_geti ok kc_171 zc_12 hin_12 25 (by decide) fl_12_86 rfl dX12_account_1 hf (fun v1 hf => ?_)
  refine z_if_ne (tgt := 9) ok dX12_account_4 (by decide) hf (fun _ hf => ?_) (fun _ hf => ?_)
  · refine z_iconst (v := (-1)) ok dX12_account_7 (by decide) ?_
    obtain rfl := Option.some.inj hf
    exact hk _ _ dX12_account_8
  · refine z_iload_n ok dX12_account_9 1 rfl ?_
    refine z_swc (v := 0) hf (fun hf => ?_) (fun n10_0 hf => ?_)
    · refine z_tableIn (tgt := 52) ok dX12_account_10 (by decide) (by decide) rfl (by decide) ?_
      refine z_aload_n ok dX12_account_52 0 rfl ?_
      refine z_getr (q := 183) ok kc_171 zc_12 hin_12 20 (by decide) fl_12_71 rfl dX12_account_53 ?_
      refine z_sipush (v := 200) ok dX12_account_56 (by decide) ?_
      refine z_iald ok kc_183 dX12_account_59 hf (fun v59 hf => ?_)
      obtain rfl := Option.some.inj hf
      exact hk _ _ dX12_account_60
    refine z_swc (v := 1) hf (fun hf => ?_) (fun n10_1 hf => ?_)
    · refine z_tableIn (tgt := 61) ok dX12_account_10 (by decide) (by decide) rfl (by decide) ?_
      refine z_aload_n ok dX12_account_61 0 rfl ?_
      refine z_getr (q := 183) ok kc_171 zc_12 hin_12 20 (by decide) fl_12_71 rfl dX12_account_62 ?_
      refine z_sipush (v := 201) ok dX12_account_65 (by decide) ?_
      refine z_iald ok kc_183 dX12_account_68 hf (fun v68 hf => ?_)
      obtain rfl := Option.some.inj hf
      exact hk _ _ dX12_account_69
    refine z_swc (v := 2) hf (fun hf => ?_) (fun n10_2 hf => ?_)
    · refine z_tableIn (tgt := 70) ok dX12_account_10 (by decide) (by decide) rfl (by decide) ?_
      refine z_aload_n ok dX12_account_70 0 rfl ?_
      refine z_getr (q := 183) ok kc_171 zc_12 hin_12 20 (by decide) fl_12_71 rfl dX12_account_71 ?_
      refine z_sipush (v := 202) ok dX12_account_74 (by decide) ?_
      refine z_iald ok kc_183 dX12_account_77 hf (fun v77 hf => ?_)
      obtain rfl := Option.some.inj hf
      exact hk _ _ dX12_account_78
    refine z_swc (v := 3) hf (fun hf => ?_) (fun n10_3 hf => ?_)
    · refine z_tableIn (tgt := 79) ok dX12_account_10 (by decide) (by decide) rfl (by decide) ?_
      refine z_aload_n ok dX12_account_79 0 rfl ?_
      refine z_getr (q := 183) ok kc_171 zc_12 hin_12 20 (by decide) fl_12_71 rfl dX12_account_80 ?_
      refine z_sipush (v := 203) ok dX12_account_83 (by decide) ?_
      refine z_iald ok kc_183 dX12_account_86 hf (fun v86 hf => ?_)
      obtain rfl := Option.some.inj hf
      exact hk _ _ dX12_account_87
    refine z_swc (v := 4) hf (fun hf => ?_) (fun n10_4 hf => ?_)
    · refine z_tableIn (tgt := 88) ok dX12_account_10 (by decide) (by decide) rfl (by decide) ?_
      refine z_aload_n ok dX12_account_88 0 rfl ?_
      refine z_getr (q := 183) ok kc_171 zc_12 hin_12 20 (by decide) fl_12_71 rfl dX12_account_89 ?_
      refine z_sipush (v := 204) ok dX12_account_92 (by decide) ?_
      refine z_iald ok kc_183 dX12_account_95 hf (fun v95 hf => ?_)
      obtain rfl := Option.some.inj hf
      exact hk _ _ dX12_account_96
    refine z_swc (v := 5) hf (fun hf => ?_) (fun n10_5 hf => ?_)
    · refine z_tableIn (tgt := 97) ok dX12_account_10 (by decide) (by decide) rfl (by decide) ?_
      refine z_aload_n ok dX12_account_97 0 rfl ?_
      refine z_call hf (fun r98 h98 hf => ?_)
      refine z_cV (As := []) (rest := []) (w := 171) ok kc_171 zc_12 (c_M_thereNow h98) rfl ⟨ml_12_330, w_M_thereNow⟩ hy_M_thereNow ⟨rfl, rfl⟩ ⟨Nat.le_of_ble_eq_true rfl, Nat.le_of_ble_eq_true rfl⟩ ⟨Nat.zero_le _, Nat.zero_le _⟩ rfl (Nat.le_of_ble_eq_true rfl) dX12_account_98 ?_
      obtain rfl := Option.some.inj hf
      exact hk _ _ dX12_account_101
    refine z_swc (v := 6) hf (fun hf => ?_) (fun n10_6 hf => ?_)
    · refine z_tableIn (tgt := 102) ok dX12_account_10 (by decide) (by decide) rfl (by decide) ?_
      refine z_aload_n ok dX12_account_102 0 rfl ?_
      refine z_call hf (fun r103 h103 hf => ?_)
      refine z_cV (As := []) (rest := []) (w := 171) ok kc_171 zc_12 (c_M_shortOfAll h103) rfl ⟨ml_12_333, w_M_shortOfAll⟩ hy_M_shortOfAll ⟨rfl, rfl⟩ ⟨Nat.le_of_ble_eq_true rfl, Nat.le_of_ble_eq_true rfl⟩ ⟨Nat.zero_le _, Nat.zero_le _⟩ rfl (Nat.le_of_ble_eq_true rfl) dX12_account_103 ?_
      obtain rfl := Option.some.inj hf
      exact hk _ _ dX12_account_106
    refine z_tableOut (tgt := 107) ok dX12_account_10 (zsw_out 0 6 [0, 1, 2, 3, 4, 5, 6] (by decide) (List.forall_mem_cons.mpr ⟨n10_0, (List.forall_mem_cons.mpr ⟨n10_1, (List.forall_mem_cons.mpr ⟨n10_2, (List.forall_mem_cons.mpr ⟨n10_3, (List.forall_mem_cons.mpr ⟨n10_4, (List.forall_mem_cons.mpr ⟨n10_5, (List.forall_mem_cons.mpr ⟨n10_6, (fun _ h => absurd h List.not_mem_nil)⟩)⟩)⟩)⟩)⟩)⟩)⟩)) (by decide) ?_
    refine z_iconst (v := (-1)) ok dX12_account_107 (by decide) ?_
    obtain rfl := Option.some.inj hf
    exact hk _ _ dX12_account_108
theorem c_M_account {σ : Sg} {x1 : Int32} {r : Int32} (h : M_account σ x1 = some r) : ZcI yX12_account cX12_account 2 .int rm_M_account 198 (fun ad => [.ref (ad 171), .int x1]) σ r σ :=
  zmetI pn_12 rfl (fun _ => rfl) (fun _ => Nat.le_of_ble_eq_true rfl) rfl (fun X Q ok hk => t_M_account ok h hk)
theorem dX12_stepOf_0 : decode cX12_stepOf 0 = .ok (.aload_n 0, 1) := by decide +kernel
theorem dX12_stepOf_1 : decode cX12_stepOf 1 = .ok (.getfield 71, 3) := by decide +kernel
theorem dX12_stepOf_4 : decode cX12_stepOf 4 = .ok (.sipush 148, 3) := by decide +kernel
theorem dX12_stepOf_7 : decode cX12_stepOf 7 = .ok (.iconst 3, 1) := by decide +kernel
theorem dX12_stepOf_8 : decode cX12_stepOf 8 = .ok (.iload_n 1, 1) := by decide +kernel
theorem dX12_stepOf_9 : decode cX12_stepOf 9 = .ok (.iconst 2, 1) := by decide +kernel
theorem dX12_stepOf_10 : decode cX12_stepOf 10 = .ok (.idiv, 1) := by decide +kernel
theorem dX12_stepOf_11 : decode cX12_stepOf 11 = .ok (.imul, 1) := by decide +kernel
theorem dX12_stepOf_12 : decode cX12_stepOf 12 = .ok (.iadd, 1) := by decide +kernel
theorem dX12_stepOf_13 : decode cX12_stepOf 13 = .ok (.iconst 1, 1) := by decide +kernel
theorem dX12_stepOf_14 : decode cX12_stepOf 14 = .ok (.iadd, 1) := by decide +kernel
theorem dX12_stepOf_15 : decode cX12_stepOf 15 = .ok (.iaload, 1) := by decide +kernel
theorem dX12_stepOf_16 : decode cX12_stepOf 16 = .ok (.iload_n 1, 1) := by decide +kernel
theorem dX12_stepOf_17 : decode cX12_stepOf 17 = .ok (.iconst 2, 1) := by decide +kernel
theorem dX12_stepOf_18 : decode cX12_stepOf 18 = .ok (.irem, 1) := by decide +kernel
theorem dX12_stepOf_19 : decode cX12_stepOf 19 = .ok (.ifCond .ne 22, 3) := by decide +kernel
theorem dX12_stepOf_22 : decode cX12_stepOf 22 = .ok (.aload_n 0, 1) := by decide +kernel
theorem dX12_stepOf_23 : decode cX12_stepOf 23 = .ok (.getfield 71, 3) := by decide +kernel
theorem dX12_stepOf_26 : decode cX12_stepOf 26 = .ok (.sipush 148, 3) := by decide +kernel
theorem dX12_stepOf_29 : decode cX12_stepOf 29 = .ok (.iconst 3, 1) := by decide +kernel
theorem dX12_stepOf_30 : decode cX12_stepOf 30 = .ok (.iload_n 1, 1) := by decide +kernel
theorem dX12_stepOf_31 : decode cX12_stepOf 31 = .ok (.iconst 2, 1) := by decide +kernel
theorem dX12_stepOf_32 : decode cX12_stepOf 32 = .ok (.idiv, 1) := by decide +kernel
theorem dX12_stepOf_33 : decode cX12_stepOf 33 = .ok (.imul, 1) := by decide +kernel
theorem dX12_stepOf_34 : decode cX12_stepOf 34 = .ok (.iadd, 1) := by decide +kernel
theorem dX12_stepOf_35 : decode cX12_stepOf 35 = .ok (.iconst 2, 1) := by decide +kernel
theorem dX12_stepOf_36 : decode cX12_stepOf 36 = .ok (.iadd, 1) := by decide +kernel
theorem dX12_stepOf_37 : decode cX12_stepOf 37 = .ok (.iaload, 1) := by decide +kernel
theorem dX12_stepOf_38 : decode cX12_stepOf 38 = .ok (.goto 4, 3) := by decide +kernel
theorem dX12_stepOf_41 : decode cX12_stepOf 41 = .ok (.iconst 0, 1) := by decide +kernel
theorem dX12_stepOf_42 : decode cX12_stepOf 42 = .ok (.iadd, 1) := by decide +kernel
theorem dX12_stepOf_43 : decode cX12_stepOf 43 = .ok (.istore_n 2, 1) := by decide +kernel
theorem dX12_stepOf_44 : decode cX12_stepOf 44 = .ok (.iload_n 2, 1) := by decide +kernel
theorem dX12_stepOf_45 : decode cX12_stepOf 45 = .ok (.aload_n 0, 1) := by decide +kernel
theorem dX12_stepOf_46 : decode cX12_stepOf 46 = .ok (.getfield 71, 3) := by decide +kernel
theorem dX12_stepOf_49 : decode cX12_stepOf 49 = .ok (.sipush 196, 3) := by decide +kernel
theorem dX12_stepOf_52 : decode cX12_stepOf 52 = .ok (.iaload, 1) := by decide +kernel
theorem dX12_stepOf_53 : decode cX12_stepOf 53 = .ok (.if_icmp .lt 7, 3) := by decide +kernel
theorem dX12_stepOf_56 : decode cX12_stepOf 56 = .ok (.iload_n 2, 1) := by decide +kernel
theorem dX12_stepOf_57 : decode cX12_stepOf 57 = .ok (.goto 4, 3) := by decide +kernel
theorem dX12_stepOf_60 : decode cX12_stepOf 60 = .ok (.iconst (-1), 1) := by decide +kernel
theorem dX12_stepOf_61 : decode cX12_stepOf 61 = .ok (.ireturn, 1) := by decide +kernel
abbrev rm_M_stepOf : Room := { frames := 0, cells := 0, slots := 0, locals := 0 }
def M_stepOf_j42 (σ : Sg) (s0 : Int32) (s1 : Int32) : Option Int32 :=
  zlt (s0 + s1) fun v43 =>
  zrd σ 183 1607 196 fun v52 =>
  if v43 < v52 then (
    some (-1)
  ) else (
    some v43
  )
set_option maxRecDepth 20000 in
theorem t_M_stepOf_j42 {X : Zx} {Q : State → Prop} {σ : Sg} {s0 : Int32} {s1 : Int32} (ok : Zok X cX12_stepOf RX12 rm_M_stepOf 198 3)  {out : Int32} (hf : M_stepOf_j42 σ s0 s1 = some out) (hk : ZrI cX12_stepOf X Q out σ) : ZAt X Q 0 0 42 σ [(0, .ref (X.ad 171))] [.int s1, .int s0] := by
  unfold M_stepOf_j42 at hf
  refine z_iadd ok dX12_stepOf_42 ?_
  refine z_nm hf (fun v43 hf => ?_)
  refine z_istore_n (lv' := [(2, .int v43), (0, .ref (X.ad 171))]) ok dX12_stepOf_43 (by decide) rfl ?_
  refine z_iload_n ok dX12_stepOf_44 0 rfl ?_
  refine z_aload_n ok dX12_stepOf_45 1 rfl ?_
  refine z_getr (q := 183) ok kc_171 zc_12 hin_12 20 (by decide) fl_12_71 rfl dX12_stepOf_46 ?_
  refine z_sipush (v := 196) ok dX12_stepOf_49 (by decide) ?_
  refine z_iald ok kc_183 dX12_stepOf_52 hf (fun v52 hf => ?_)
  refine z_icmp_lt (tgt := 60) ok dX12_stepOf_53 (by decide) hf (fun _ hf => ?_) (fun _ hf => ?_)
  · refine z_iconst (v := (-1)) ok dX12_stepOf_60 (by decide) ?_
    obtain rfl := Option.some.inj hf
    exact hk _ _ dX12_stepOf_61
  · refine z_iload_n ok dX12_stepOf_56 0 rfl ?_
    refine z_goto (tgt := 61) ok dX12_stepOf_57 (by decide) ?_
    obtain rfl := Option.some.inj hf
    exact hk _ _ dX12_stepOf_61
def M_stepOf (σ : Sg) (x1 : Int32) : Option Int32 :=
  zrd σ 183 1607 ((148 + (3 * (x1 / 2))) + 1) fun v15 =>
  if (x1 - x1 / 2 * 2) = 0 then (
    zrd σ 183 1607 ((148 + (3 * (x1 / 2))) + 2) fun v37 =>
    M_stepOf_j42 σ v15 v37
  ) else (
    M_stepOf_j42 σ v15 0
  )
set_option maxRecDepth 20000 in
theorem t_M_stepOf {X : Zx} {Q : State → Prop} {σ : Sg} {x1 : Int32} (ok : Zok X cX12_stepOf RX12 rm_M_stepOf 198 3)  {out : Int32} (hf : M_stepOf σ x1 = some out) (hk : ZrI cX12_stepOf X Q out σ) : ZAt X Q 0 0 0 σ [(0, .ref (X.ad 171)), (1, .int x1)] [] := by
  unfold M_stepOf at hf
  refine z_aload_n ok dX12_stepOf_0 0 rfl ?_
  refine z_getr (q := 183) ok kc_171 zc_12 hin_12 20 (by decide) fl_12_71 rfl dX12_stepOf_1 ?_
  refine z_sipush (v := 148) ok dX12_stepOf_4 (by decide) ?_
  refine z_iconst (v := 3) ok dX12_stepOf_7 (by decide) ?_
  refine z_iload_n ok dX12_stepOf_8 1 rfl ?_
  refine z_iconst (v := 2) ok dX12_stepOf_9 (by decide) ?_
  refine z_idivc ok dX12_stepOf_10 (by decide) ?_
  refine z_imul ok dX12_stepOf_11 ?_
  refine z_iadd ok dX12_stepOf_12 ?_
  refine z_iconst (v := 1) ok dX12_stepOf_13 (by decide) ?_
  refine z_iadd ok dX12_stepOf_14 ?_
  refine z_iald ok kc_183 dX12_stepOf_15 hf (fun v15 hf => ?_)
  refine z_iload_n ok dX12_stepOf_16 1 rfl ?_
  refine z_iconst (v := 2) ok dX12_stepOf_17 (by decide) ?_
  refine z_iremc ok dX12_stepOf_18 (by decide) ?_
  refine z_if_ne (tgt := 41) ok dX12_stepOf_19 (by decide) hf (fun _ hf => ?_) (fun _ hf => ?_)
  · refine z_aload_n ok dX12_stepOf_22 0 rfl ?_
    refine z_getr (q := 183) ok kc_171 zc_12 hin_12 20 (by decide) fl_12_71 rfl dX12_stepOf_23 ?_
    refine z_sipush (v := 148) ok dX12_stepOf_26 (by decide) ?_
    refine z_iconst (v := 3) ok dX12_stepOf_29 (by decide) ?_
    refine z_iload_n ok dX12_stepOf_30 1 rfl ?_
    refine z_iconst (v := 2) ok dX12_stepOf_31 (by decide) ?_
    refine z_idivc ok dX12_stepOf_32 (by decide) ?_
    refine z_imul ok dX12_stepOf_33 ?_
    refine z_iadd ok dX12_stepOf_34 ?_
    refine z_iconst (v := 2) ok dX12_stepOf_35 (by decide) ?_
    refine z_iadd ok dX12_stepOf_36 ?_
    refine z_iald ok kc_183 dX12_stepOf_37 hf (fun v37 hf => ?_)
    refine z_goto (tgt := 42) ok dX12_stepOf_38 (by decide) ?_
    exact z_sub [0] rfl (t_M_stepOf_j42 ok hf hk)
  · refine z_iconst (v := 0) ok dX12_stepOf_41 (by decide) ?_
    exact z_sub [0] rfl (t_M_stepOf_j42 ok hf hk)
theorem c_M_stepOf {σ : Sg} {x1 : Int32} {r : Int32} (h : M_stepOf σ x1 = some r) : ZcI yX12_stepOf cX12_stepOf 3 .int rm_M_stepOf 198 (fun ad => [.ref (ad 171), .int x1]) σ r σ :=
  zmetI pn_12 rfl (fun _ => rfl) (fun _ => Nat.le_of_ble_eq_true rfl) rfl (fun X Q ok hk => t_M_stepOf ok h hk)
theorem dX12_isAhead_0 : decode cX12_isAhead 0 = .ok (.aload_n 0, 1) := by decide +kernel
theorem dX12_isAhead_1 : decode cX12_isAhead 1 = .ok (.iload_n 1, 1) := by decide +kernel
theorem dX12_isAhead_2 : decode cX12_isAhead 2 = .ok (.invokevirtual 336, 3) := by decide +kernel
theorem dX12_isAhead_5 : decode cX12_isAhead 5 = .ok (.aload_n 0, 1) := by decide +kernel
theorem dX12_isAhead_6 : decode cX12_isAhead 6 = .ok (.iload_n 2, 1) := by decide +kernel
theorem dX12_isAhead_7 : decode cX12_isAhead 7 = .ok (.invokevirtual 336, 3) := by decide +kernel
theorem dX12_isAhead_10 : decode cX12_isAhead 10 = .ok (.if_icmp .eq 22, 3) := by decide +kernel
theorem dX12_isAhead_13 : decode cX12_isAhead 13 = .ok (.aload_n 0, 1) := by decide +kernel
theorem dX12_isAhead_14 : decode cX12_isAhead 14 = .ok (.iload_n 1, 1) := by decide +kernel
theorem dX12_isAhead_15 : decode cX12_isAhead 15 = .ok (.invokevirtual 336, 3) := by decide +kernel
theorem dX12_isAhead_18 : decode cX12_isAhead 18 = .ok (.aload_n 0, 1) := by decide +kernel
theorem dX12_isAhead_19 : decode cX12_isAhead 19 = .ok (.iload_n 2, 1) := by decide +kernel
theorem dX12_isAhead_20 : decode cX12_isAhead 20 = .ok (.invokevirtual 336, 3) := by decide +kernel
theorem dX12_isAhead_23 : decode cX12_isAhead 23 = .ok (.if_icmp .ge 7, 3) := by decide +kernel
theorem dX12_isAhead_26 : decode cX12_isAhead 26 = .ok (.iconst 1, 1) := by decide +kernel
theorem dX12_isAhead_27 : decode cX12_isAhead 27 = .ok (.goto 4, 3) := by decide +kernel
theorem dX12_isAhead_30 : decode cX12_isAhead 30 = .ok (.iconst 0, 1) := by decide +kernel
theorem dX12_isAhead_31 : decode cX12_isAhead 31 = .ok (.ireturn, 1) := by decide +kernel
theorem dX12_isAhead_32 : decode cX12_isAhead 32 = .ok (.aload_n 0, 1) := by decide +kernel
theorem dX12_isAhead_33 : decode cX12_isAhead 33 = .ok (.getfield 71, 3) := by decide +kernel
theorem dX12_isAhead_36 : decode cX12_isAhead 36 = .ok (.sipush 148, 3) := by decide +kernel
theorem dX12_isAhead_39 : decode cX12_isAhead 39 = .ok (.iconst 3, 1) := by decide +kernel
theorem dX12_isAhead_40 : decode cX12_isAhead 40 = .ok (.iload_n 1, 1) := by decide +kernel
theorem dX12_isAhead_41 : decode cX12_isAhead 41 = .ok (.iconst 2, 1) := by decide +kernel
theorem dX12_isAhead_42 : decode cX12_isAhead 42 = .ok (.idiv, 1) := by decide +kernel
theorem dX12_isAhead_43 : decode cX12_isAhead 43 = .ok (.imul, 1) := by decide +kernel
theorem dX12_isAhead_44 : decode cX12_isAhead 44 = .ok (.iadd, 1) := by decide +kernel
theorem dX12_isAhead_45 : decode cX12_isAhead 45 = .ok (.iaload, 1) := by decide +kernel
theorem dX12_isAhead_46 : decode cX12_isAhead 46 = .ok (.istore_n 3, 1) := by decide +kernel
theorem dX12_isAhead_47 : decode cX12_isAhead 47 = .ok (.aload_n 0, 1) := by decide +kernel
theorem dX12_isAhead_48 : decode cX12_isAhead 48 = .ok (.getfield 71, 3) := by decide +kernel
theorem dX12_isAhead_51 : decode cX12_isAhead 51 = .ok (.sipush 148, 3) := by decide +kernel
theorem dX12_isAhead_54 : decode cX12_isAhead 54 = .ok (.iconst 3, 1) := by decide +kernel
theorem dX12_isAhead_55 : decode cX12_isAhead 55 = .ok (.iload_n 2, 1) := by decide +kernel
theorem dX12_isAhead_56 : decode cX12_isAhead 56 = .ok (.iconst 2, 1) := by decide +kernel
theorem dX12_isAhead_57 : decode cX12_isAhead 57 = .ok (.idiv, 1) := by decide +kernel
theorem dX12_isAhead_58 : decode cX12_isAhead 58 = .ok (.imul, 1) := by decide +kernel
theorem dX12_isAhead_59 : decode cX12_isAhead 59 = .ok (.iadd, 1) := by decide +kernel
theorem dX12_isAhead_60 : decode cX12_isAhead 60 = .ok (.iaload, 1) := by decide +kernel
theorem dX12_isAhead_61 : decode cX12_isAhead 61 = .ok (.istore 4, 2) := by decide +kernel
theorem dX12_isAhead_63 : decode cX12_isAhead 63 = .ok (.iload_n 3, 1) := by decide +kernel
theorem dX12_isAhead_64 : decode cX12_isAhead 64 = .ok (.iload 4, 2) := by decide +kernel
theorem dX12_isAhead_66 : decode cX12_isAhead 66 = .ok (.if_icmp .eq 15, 3) := by decide +kernel
theorem dX12_isAhead_69 : decode cX12_isAhead 69 = .ok (.iload_n 3, 1) := by decide +kernel
theorem dX12_isAhead_70 : decode cX12_isAhead 70 = .ok (.iload 4, 2) := by decide +kernel
theorem dX12_isAhead_72 : decode cX12_isAhead 72 = .ok (.if_icmp .ge 7, 3) := by decide +kernel
theorem dX12_isAhead_75 : decode cX12_isAhead 75 = .ok (.iconst 1, 1) := by decide +kernel
theorem dX12_isAhead_76 : decode cX12_isAhead 76 = .ok (.goto 4, 3) := by decide +kernel
theorem dX12_isAhead_79 : decode cX12_isAhead 79 = .ok (.iconst 0, 1) := by decide +kernel
theorem dX12_isAhead_80 : decode cX12_isAhead 80 = .ok (.ireturn, 1) := by decide +kernel
theorem dX12_isAhead_81 : decode cX12_isAhead 81 = .ok (.iload_n 1, 1) := by decide +kernel
theorem dX12_isAhead_82 : decode cX12_isAhead 82 = .ok (.iconst 2, 1) := by decide +kernel
theorem dX12_isAhead_83 : decode cX12_isAhead 83 = .ok (.irem, 1) := by decide +kernel
theorem dX12_isAhead_84 : decode cX12_isAhead 84 = .ok (.iload_n 2, 1) := by decide +kernel
theorem dX12_isAhead_85 : decode cX12_isAhead 85 = .ok (.iconst 2, 1) := by decide +kernel
theorem dX12_isAhead_86 : decode cX12_isAhead 86 = .ok (.irem, 1) := by decide +kernel
theorem dX12_isAhead_87 : decode cX12_isAhead 87 = .ok (.if_icmp .eq 20, 3) := by decide +kernel
theorem dX12_isAhead_90 : decode cX12_isAhead 90 = .ok (.iload_n 1, 1) := by decide +kernel
theorem dX12_isAhead_91 : decode cX12_isAhead 91 = .ok (.iconst 2, 1) := by decide +kernel
theorem dX12_isAhead_92 : decode cX12_isAhead 92 = .ok (.irem, 1) := by decide +kernel
theorem dX12_isAhead_93 : decode cX12_isAhead 93 = .ok (.iload_n 2, 1) := by decide +kernel
theorem dX12_isAhead_94 : decode cX12_isAhead 94 = .ok (.iconst 2, 1) := by decide +kernel
theorem dX12_isAhead_95 : decode cX12_isAhead 95 = .ok (.irem, 1) := by decide +kernel
theorem dX12_isAhead_96 : decode cX12_isAhead 96 = .ok (.if_icmp .ge 7, 3) := by decide +kernel
theorem dX12_isAhead_99 : decode cX12_isAhead 99 = .ok (.iconst 1, 1) := by decide +kernel
theorem dX12_isAhead_100 : decode cX12_isAhead 100 = .ok (.goto 17, 3) := by decide +kernel
theorem dX12_isAhead_103 : decode cX12_isAhead 103 = .ok (.iconst 0, 1) := by decide +kernel
theorem dX12_isAhead_104 : decode cX12_isAhead 104 = .ok (.goto 13, 3) := by decide +kernel
theorem dX12_isAhead_107 : decode cX12_isAhead 107 = .ok (.iload_n 1, 1) := by decide +kernel
theorem dX12_isAhead_108 : decode cX12_isAhead 108 = .ok (.iload_n 2, 1) := by decide +kernel
theorem dX12_isAhead_109 : decode cX12_isAhead 109 = .ok (.if_icmp .ge 7, 3) := by decide +kernel
theorem dX12_isAhead_112 : decode cX12_isAhead 112 = .ok (.iconst 1, 1) := by decide +kernel
theorem dX12_isAhead_113 : decode cX12_isAhead 113 = .ok (.goto 4, 3) := by decide +kernel
theorem dX12_isAhead_116 : decode cX12_isAhead 116 = .ok (.iconst 0, 1) := by decide +kernel
theorem dX12_isAhead_117 : decode cX12_isAhead 117 = .ok (.ireturn, 1) := by decide +kernel
abbrev rm_M_isAhead : Room := { frames := 1, cells := 0, slots := 0, locals := 22 }
def M_isAhead (σ : Sg) (x1 : Int32) (x2 : Int32) : Option Bool :=
  (M_stepOf σ x1).bind fun r2 =>
  (M_stepOf σ x2).bind fun r7 =>
  if r2 = r7 then (
    zrd σ 183 1607 (148 + (3 * (x1 / 2))) fun v45 =>
    zrd σ 183 1607 (148 + (3 * (x2 / 2))) fun v60 =>
    if v45 = v60 then (
      if (x1 - x1 / 2 * 2) = (x2 - x2 / 2 * 2) then (
        if x2 ≤ x1 then (
          some false
        ) else (
          some true
        )
      ) else (
        if (x2 - x2 / 2 * 2) ≤ (x1 - x1 / 2 * 2) then (
          some false
        ) else (
          some true
        )
      )
    ) else (
      if v60 ≤ v45 then (
        some false
      ) else (
        some true
      )
    )
  ) else (
    (M_stepOf σ x1).bind fun r15 =>
    (M_stepOf σ x2).bind fun r20 =>
    if r20 ≤ r15 then (
      some false
    ) else (
      some true
    )
  )
set_option maxRecDepth 20000 in
theorem t_M_isAhead {X : Zx} {Q : State → Prop} {σ : Sg} {x1 : Int32} {x2 : Int32} (ok : Zok X cX12_isAhead RX12 rm_M_isAhead 198 5)  {out : Bool} (hf : M_isAhead σ x1 x2 = some out) (hk : ZrI cX12_isAhead X Q (zb out) σ) : ZAt X Q 0 0 0 σ [(0, .ref (X.ad 171)), (1, .int x1), (2, .int x2)] [] := by
  unfold M_isAhead at hf
  refine z_aload_n ok dX12_isAhead_0 0 rfl ?_
  refine z_iload_n ok dX12_isAhead_1 1 rfl ?_
  refine z_call hf (fun r2 h2 hf => ?_)
  refine z_cV (As := [.int x1]) (rest := []) (w := 171) ok kc_171 zc_12 (c_M_stepOf h2) rfl ⟨ml_12_336, w_M_stepOf⟩ hy_M_stepOf ⟨rfl, rfl⟩ ⟨Nat.le_of_ble_eq_true rfl, Nat.le_of_ble_eq_true rfl⟩ ⟨Nat.zero_le _, Nat.zero_le _⟩ rfl (Nat.le_of_ble_eq_true rfl) dX12_isAhead_2 ?_
  refine z_aload_n ok dX12_isAhead_5 0 rfl ?_
  refine z_iload_n ok dX12_isAhead_6 2 rfl ?_
  refine z_call hf (fun r7 h7 hf => ?_)
  refine z_cV (As := [.int x2]) (rest := [.int r2]) (w := 171) ok kc_171 zc_12 (c_M_stepOf h7) rfl ⟨ml_12_336, w_M_stepOf⟩ hy_M_stepOf ⟨rfl, rfl⟩ ⟨Nat.le_of_ble_eq_true rfl, Nat.le_of_ble_eq_true rfl⟩ ⟨Nat.zero_le _, Nat.zero_le _⟩ rfl (Nat.le_of_ble_eq_true rfl) dX12_isAhead_7 ?_
  refine z_icmp_eq (tgt := 32) ok dX12_isAhead_10 (by decide) hf (fun _ hf => ?_) (fun _ hf => ?_)
  · refine z_aload_n ok dX12_isAhead_32 0 rfl ?_
    refine z_getr (q := 183) ok kc_171 zc_12 hin_12 20 (by decide) fl_12_71 rfl dX12_isAhead_33 ?_
    refine z_sipush (v := 148) ok dX12_isAhead_36 (by decide) ?_
    refine z_iconst (v := 3) ok dX12_isAhead_39 (by decide) ?_
    refine z_iload_n ok dX12_isAhead_40 1 rfl ?_
    refine z_iconst (v := 2) ok dX12_isAhead_41 (by decide) ?_
    refine z_idivc ok dX12_isAhead_42 (by decide) ?_
    refine z_imul ok dX12_isAhead_43 ?_
    refine z_iadd ok dX12_isAhead_44 ?_
    refine z_iald ok kc_183 dX12_isAhead_45 hf (fun v45 hf => ?_)
    refine z_istore_n (lv' := [(3, .int v45), (0, .ref (X.ad 171)), (1, .int x1), (2, .int x2)]) ok dX12_isAhead_46 (by decide) rfl ?_
    refine z_aload_n ok dX12_isAhead_47 1 rfl ?_
    refine z_getr (q := 183) ok kc_171 zc_12 hin_12 20 (by decide) fl_12_71 rfl dX12_isAhead_48 ?_
    refine z_sipush (v := 148) ok dX12_isAhead_51 (by decide) ?_
    refine z_iconst (v := 3) ok dX12_isAhead_54 (by decide) ?_
    refine z_iload_n ok dX12_isAhead_55 3 rfl ?_
    refine z_iconst (v := 2) ok dX12_isAhead_56 (by decide) ?_
    refine z_idivc ok dX12_isAhead_57 (by decide) ?_
    refine z_imul ok dX12_isAhead_58 ?_
    refine z_iadd ok dX12_isAhead_59 ?_
    refine z_iald ok kc_183 dX12_isAhead_60 hf (fun v60 hf => ?_)
    refine z_istore (lv' := [(4, .int v60), (3, .int v45), (0, .ref (X.ad 171)), (1, .int x1), (2, .int x2)]) ok dX12_isAhead_61 (by decide) rfl ?_
    refine z_iload_n ok dX12_isAhead_63 1 rfl ?_
    refine z_iload ok dX12_isAhead_64 0 rfl ?_
    refine z_icmp_eq (tgt := 81) ok dX12_isAhead_66 (by decide) hf (fun _ hf => ?_) (fun _ hf => ?_)
    · refine z_iload_n ok dX12_isAhead_81 3 rfl ?_
      refine z_iconst (v := 2) ok dX12_isAhead_82 (by decide) ?_
      refine z_iremc ok dX12_isAhead_83 (by decide) ?_
      refine z_iload_n ok dX12_isAhead_84 4 rfl ?_
      refine z_iconst (v := 2) ok dX12_isAhead_85 (by decide) ?_
      refine z_iremc ok dX12_isAhead_86 (by decide) ?_
      refine z_icmp_eq (tgt := 107) ok dX12_isAhead_87 (by decide) hf (fun _ hf => ?_) (fun _ hf => ?_)
      · refine z_iload_n ok dX12_isAhead_107 3 rfl ?_
        refine z_iload_n ok dX12_isAhead_108 4 rfl ?_
        refine z_icmp_ge (tgt := 116) ok dX12_isAhead_109 (by decide) hf (fun _ hf => ?_) (fun _ hf => ?_)
        · refine z_iconst (v := 0) ok dX12_isAhead_116 (by decide) ?_
          obtain rfl := Option.some.inj hf
          exact hk _ _ dX12_isAhead_117
        · refine z_iconst (v := 1) ok dX12_isAhead_112 (by decide) ?_
          refine z_goto (tgt := 117) ok dX12_isAhead_113 (by decide) ?_
          obtain rfl := Option.some.inj hf
          exact hk _ _ dX12_isAhead_117
      · refine z_iload_n ok dX12_isAhead_90 3 rfl ?_
        refine z_iconst (v := 2) ok dX12_isAhead_91 (by decide) ?_
        refine z_iremc ok dX12_isAhead_92 (by decide) ?_
        refine z_iload_n ok dX12_isAhead_93 4 rfl ?_
        refine z_iconst (v := 2) ok dX12_isAhead_94 (by decide) ?_
        refine z_iremc ok dX12_isAhead_95 (by decide) ?_
        refine z_icmp_ge (tgt := 103) ok dX12_isAhead_96 (by decide) hf (fun _ hf => ?_) (fun _ hf => ?_)
        · refine z_iconst (v := 0) ok dX12_isAhead_103 (by decide) ?_
          refine z_goto (tgt := 117) ok dX12_isAhead_104 (by decide) ?_
          obtain rfl := Option.some.inj hf
          exact hk _ _ dX12_isAhead_117
        · refine z_iconst (v := 1) ok dX12_isAhead_99 (by decide) ?_
          refine z_goto (tgt := 117) ok dX12_isAhead_100 (by decide) ?_
          obtain rfl := Option.some.inj hf
          exact hk _ _ dX12_isAhead_117
    · refine z_iload_n ok dX12_isAhead_69 1 rfl ?_
      refine z_iload ok dX12_isAhead_70 0 rfl ?_
      refine z_icmp_ge (tgt := 79) ok dX12_isAhead_72 (by decide) hf (fun _ hf => ?_) (fun _ hf => ?_)
      · refine z_iconst (v := 0) ok dX12_isAhead_79 (by decide) ?_
        obtain rfl := Option.some.inj hf
        exact hk _ _ dX12_isAhead_80
      · refine z_iconst (v := 1) ok dX12_isAhead_75 (by decide) ?_
        refine z_goto (tgt := 80) ok dX12_isAhead_76 (by decide) ?_
        obtain rfl := Option.some.inj hf
        exact hk _ _ dX12_isAhead_80
  · refine z_aload_n ok dX12_isAhead_13 0 rfl ?_
    refine z_iload_n ok dX12_isAhead_14 1 rfl ?_
    refine z_call hf (fun r15 h15 hf => ?_)
    refine z_cV (As := [.int x1]) (rest := []) (w := 171) ok kc_171 zc_12 (c_M_stepOf h15) rfl ⟨ml_12_336, w_M_stepOf⟩ hy_M_stepOf ⟨rfl, rfl⟩ ⟨Nat.le_of_ble_eq_true rfl, Nat.le_of_ble_eq_true rfl⟩ ⟨Nat.zero_le _, Nat.zero_le _⟩ rfl (Nat.le_of_ble_eq_true rfl) dX12_isAhead_15 ?_
    refine z_aload_n ok dX12_isAhead_18 0 rfl ?_
    refine z_iload_n ok dX12_isAhead_19 2 rfl ?_
    refine z_call hf (fun r20 h20 hf => ?_)
    refine z_cV (As := [.int x2]) (rest := [.int r15]) (w := 171) ok kc_171 zc_12 (c_M_stepOf h20) rfl ⟨ml_12_336, w_M_stepOf⟩ hy_M_stepOf ⟨rfl, rfl⟩ ⟨Nat.le_of_ble_eq_true rfl, Nat.le_of_ble_eq_true rfl⟩ ⟨Nat.zero_le _, Nat.zero_le _⟩ rfl (Nat.le_of_ble_eq_true rfl) dX12_isAhead_20 ?_
    refine z_icmp_ge (tgt := 30) ok dX12_isAhead_23 (by decide) hf (fun _ hf => ?_) (fun _ hf => ?_)
    · refine z_iconst (v := 0) ok dX12_isAhead_30 (by decide) ?_
      obtain rfl := Option.some.inj hf
      exact hk _ _ dX12_isAhead_31
    · refine z_iconst (v := 1) ok dX12_isAhead_26 (by decide) ?_
      refine z_goto (tgt := 31) ok dX12_isAhead_27 (by decide) ?_
      obtain rfl := Option.some.inj hf
      exact hk _ _ dX12_isAhead_31
theorem c_M_isAhead {σ : Sg} {x1 : Int32} {x2 : Int32} {r : Bool} (h : M_isAhead σ x1 x2 = some r) : ZcI yX12_isAhead cX12_isAhead 5 .boolean rm_M_isAhead 198 (fun ad => [.ref (ad 171), .int x1, .int x2]) σ (zb r) σ :=
  zmetI pn_12 rfl (fun _ => rfl) (fun _ => Nat.le_of_ble_eq_true rfl) (zb_nar _) (fun X Q ok hk => t_M_isAhead ok h hk)
theorem dX12_event_0 : decode cX12_event 0 = .ok (.iconst 0, 1) := by decide +kernel
theorem dX12_event_1 : decode cX12_event 1 = .ok (.istore_n 3, 1) := by decide +kernel
theorem dX12_event_2 : decode cX12_event 2 = .ok (.iconst 0, 1) := by decide +kernel
theorem dX12_event_3 : decode cX12_event 3 = .ok (.istore 4, 2) := by decide +kernel
theorem dX12_event_5 : decode cX12_event 5 = .ok (.iload 4, 2) := by decide +kernel
theorem dX12_event_7 : decode cX12_event 7 = .ok (.iconst 2, 1) := by decide +kernel
theorem dX12_event_8 : decode cX12_event 8 = .ok (.aload_n 0, 1) := by decide +kernel
theorem dX12_event_9 : decode cX12_event 9 = .ok (.getfield 71, 3) := by decide +kernel
theorem dX12_event_12 : decode cX12_event 12 = .ok (.sipush 199, 3) := by decide +kernel
theorem dX12_event_15 : decode cX12_event 15 = .ok (.iaload, 1) := by decide +kernel
theorem dX12_event_16 : decode cX12_event 16 = .ok (.imul, 1) := by decide +kernel
theorem dX12_event_17 : decode cX12_event 17 = .ok (.if_icmp .ge 27, 3) := by decide +kernel
theorem dX12_event_20 : decode cX12_event 20 = .ok (.iload_n 3, 1) := by decide +kernel
theorem dX12_event_21 : decode cX12_event 21 = .ok (.aload_n 0, 1) := by decide +kernel
theorem dX12_event_22 : decode cX12_event 22 = .ok (.iload 4, 2) := by decide +kernel
theorem dX12_event_24 : decode cX12_event 24 = .ok (.invokevirtual 336, 3) := by decide +kernel
theorem dX12_event_27 : decode cX12_event 27 = .ok (.iconst (-1), 1) := by decide +kernel
theorem dX12_event_28 : decode cX12_event 28 = .ok (.if_icmp .eq 7, 3) := by decide +kernel
theorem dX12_event_31 : decode cX12_event 31 = .ok (.iconst 1, 1) := by decide +kernel
theorem dX12_event_32 : decode cX12_event 32 = .ok (.goto 4, 3) := by decide +kernel
theorem dX12_event_35 : decode cX12_event 35 = .ok (.iconst 0, 1) := by decide +kernel
theorem dX12_event_36 : decode cX12_event 36 = .ok (.iadd, 1) := by decide +kernel
theorem dX12_event_37 : decode cX12_event 37 = .ok (.istore_n 3, 1) := by decide +kernel
theorem dX12_event_38 : decode cX12_event 38 = .ok (.iinc 4 1, 3) := by decide +kernel
theorem dX12_event_41 : decode cX12_event 41 = .ok (.goto (-36), 3) := by decide +kernel
theorem dX12_event_44 : decode cX12_event 44 = .ok (.iload_n 1, 1) := by decide +kernel
theorem dX12_event_45 : decode cX12_event 45 = .ok (.iconst (-1), 1) := by decide +kernel
theorem dX12_event_46 : decode cX12_event 46 = .ok (.if_icmp .ne 5, 3) := by decide +kernel
theorem dX12_event_49 : decode cX12_event 49 = .ok (.iload_n 3, 1) := by decide +kernel
theorem dX12_event_50 : decode cX12_event 50 = .ok (.ireturn, 1) := by decide +kernel
theorem dX12_event_51 : decode cX12_event 51 = .ok (.iload_n 1, 1) := by decide +kernel
theorem dX12_event_52 : decode cX12_event 52 = .ok (.iconst 0, 1) := by decide +kernel
theorem dX12_event_53 : decode cX12_event 53 = .ok (.iload_n 3, 1) := by decide +kernel
theorem dX12_event_54 : decode cX12_event 54 = .ok (.iconst 1, 1) := by decide +kernel
theorem dX12_event_55 : decode cX12_event 55 = .ok (.isub, 1) := by decide +kernel
theorem dX12_event_56 : decode cX12_event 56 = .ok (.invokestatic 198, 3) := by decide +kernel
theorem dX12_event_59 : decode cX12_event 59 = .ok (.ifCond .eq 12, 3) := by decide +kernel
theorem dX12_event_62 : decode cX12_event 62 = .ok (.iload_n 2, 1) := by decide +kernel
theorem dX12_event_63 : decode cX12_event 63 = .ok (.iconst 0, 1) := by decide +kernel
theorem dX12_event_64 : decode cX12_event 64 = .ok (.iconst 3, 1) := by decide +kernel
theorem dX12_event_65 : decode cX12_event 65 = .ok (.invokestatic 198, 3) := by decide +kernel
theorem dX12_event_68 : decode cX12_event 68 = .ok (.ifCond .ne 5, 3) := by decide +kernel
theorem dX12_event_71 : decode cX12_event 71 = .ok (.iconst (-1), 1) := by decide +kernel
theorem dX12_event_72 : decode cX12_event 72 = .ok (.ireturn, 1) := by decide +kernel
theorem dX12_event_73 : decode cX12_event 73 = .ok (.iconst 0, 1) := by decide +kernel
theorem dX12_event_74 : decode cX12_event 74 = .ok (.istore 4, 2) := by decide +kernel
theorem dX12_event_76 : decode cX12_event 76 = .ok (.iload 4, 2) := by decide +kernel
theorem dX12_event_78 : decode cX12_event 78 = .ok (.iconst 2, 1) := by decide +kernel
theorem dX12_event_79 : decode cX12_event 79 = .ok (.aload_n 0, 1) := by decide +kernel
theorem dX12_event_80 : decode cX12_event 80 = .ok (.getfield 71, 3) := by decide +kernel
theorem dX12_event_83 : decode cX12_event 83 = .ok (.sipush 199, 3) := by decide +kernel
theorem dX12_event_86 : decode cX12_event 86 = .ok (.iaload, 1) := by decide +kernel
theorem dX12_event_87 : decode cX12_event 87 = .ok (.imul, 1) := by decide +kernel
theorem dX12_event_88 : decode cX12_event 88 = .ok (.if_icmp .ge 146, 3) := by decide +kernel
theorem dX12_event_91 : decode cX12_event 91 = .ok (.aload_n 0, 1) := by decide +kernel
theorem dX12_event_92 : decode cX12_event 92 = .ok (.iload 4, 2) := by decide +kernel
theorem dX12_event_94 : decode cX12_event 94 = .ok (.invokevirtual 336, 3) := by decide +kernel
theorem dX12_event_97 : decode cX12_event 97 = .ok (.iconst (-1), 1) := by decide +kernel
theorem dX12_event_98 : decode cX12_event 98 = .ok (.if_icmp .ne 6, 3) := by decide +kernel
theorem dX12_event_101 : decode cX12_event 101 = .ok (.goto 127, 3) := by decide +kernel
theorem dX12_event_104 : decode cX12_event 104 = .ok (.iconst 0, 1) := by decide +kernel
theorem dX12_event_105 : decode cX12_event 105 = .ok (.istore 5, 2) := by decide +kernel
theorem dX12_event_107 : decode cX12_event 107 = .ok (.iconst 0, 1) := by decide +kernel
theorem dX12_event_108 : decode cX12_event 108 = .ok (.istore 6, 2) := by decide +kernel
theorem dX12_event_110 : decode cX12_event 110 = .ok (.iload 6, 2) := by decide +kernel
theorem dX12_event_112 : decode cX12_event 112 = .ok (.iconst 2, 1) := by decide +kernel
theorem dX12_event_113 : decode cX12_event 113 = .ok (.aload_n 0, 1) := by decide +kernel
theorem dX12_event_114 : decode cX12_event 114 = .ok (.getfield 71, 3) := by decide +kernel
theorem dX12_event_117 : decode cX12_event 117 = .ok (.sipush 199, 3) := by decide +kernel
theorem dX12_event_120 : decode cX12_event 120 = .ok (.iaload, 1) := by decide +kernel
theorem dX12_event_121 : decode cX12_event 121 = .ok (.imul, 1) := by decide +kernel
theorem dX12_event_122 : decode cX12_event 122 = .ok (.if_icmp .ge 47, 3) := by decide +kernel
theorem dX12_event_125 : decode cX12_event 125 = .ok (.iload 5, 2) := by decide +kernel
theorem dX12_event_127 : decode cX12_event 127 = .ok (.iload 6, 2) := by decide +kernel
theorem dX12_event_129 : decode cX12_event 129 = .ok (.iload 4, 2) := by decide +kernel
theorem dX12_event_131 : decode cX12_event 131 = .ok (.if_icmp .eq 28, 3) := by decide +kernel
theorem dX12_event_134 : decode cX12_event 134 = .ok (.aload_n 0, 1) := by decide +kernel
theorem dX12_event_135 : decode cX12_event 135 = .ok (.iload 6, 2) := by decide +kernel
theorem dX12_event_137 : decode cX12_event 137 = .ok (.invokevirtual 336, 3) := by decide +kernel
theorem dX12_event_140 : decode cX12_event 140 = .ok (.iconst (-1), 1) := by decide +kernel
theorem dX12_event_141 : decode cX12_event 141 = .ok (.if_icmp .eq 18, 3) := by decide +kernel
theorem dX12_event_144 : decode cX12_event 144 = .ok (.aload_n 0, 1) := by decide +kernel
theorem dX12_event_145 : decode cX12_event 145 = .ok (.iload 6, 2) := by decide +kernel
theorem dX12_event_147 : decode cX12_event 147 = .ok (.iload 4, 2) := by decide +kernel
theorem dX12_event_149 : decode cX12_event 149 = .ok (.invokevirtual 339, 3) := by decide +kernel
theorem dX12_event_152 : decode cX12_event 152 = .ok (.ifCond .eq 7, 3) := by decide +kernel
theorem dX12_event_155 : decode cX12_event 155 = .ok (.iconst 1, 1) := by decide +kernel
theorem dX12_event_156 : decode cX12_event 156 = .ok (.goto 4, 3) := by decide +kernel
theorem dX12_event_159 : decode cX12_event 159 = .ok (.iconst 0, 1) := by decide +kernel
theorem dX12_event_160 : decode cX12_event 160 = .ok (.iadd, 1) := by decide +kernel
theorem dX12_event_161 : decode cX12_event 161 = .ok (.istore 5, 2) := by decide +kernel
theorem dX12_event_163 : decode cX12_event 163 = .ok (.iinc 6 1, 3) := by decide +kernel
theorem dX12_event_166 : decode cX12_event 166 = .ok (.goto (-56), 3) := by decide +kernel
theorem dX12_event_169 : decode cX12_event 169 = .ok (.iload 5, 2) := by decide +kernel
theorem dX12_event_171 : decode cX12_event 171 = .ok (.iload_n 1, 1) := by decide +kernel
theorem dX12_event_172 : decode cX12_event 172 = .ok (.if_icmp .ne 56, 3) := by decide +kernel
theorem dX12_event_175 : decode cX12_event 175 = .ok (.iload_n 2, 1) := by decide +kernel
theorem dX12_event_176 : decode cX12_event 176 = .ok (.ifCond .ne 12, 3) := by decide +kernel
theorem dX12_event_179 : decode cX12_event 179 = .ok (.aload_n 0, 1) := by decide +kernel
theorem dX12_event_180 : decode cX12_event 180 = .ok (.iload 4, 2) := by decide +kernel
theorem dX12_event_182 : decode cX12_event 182 = .ok (.invokevirtual 336, 3) := by decide +kernel
theorem dX12_event_185 : decode cX12_event 185 = .ok (.goto 42, 3) := by decide +kernel
theorem dX12_event_188 : decode cX12_event 188 = .ok (.iload_n 2, 1) := by decide +kernel
theorem dX12_event_189 : decode cX12_event 189 = .ok (.iconst 1, 1) := by decide +kernel
theorem dX12_event_190 : decode cX12_event 190 = .ok (.if_icmp .ne 21, 3) := by decide +kernel
theorem dX12_event_193 : decode cX12_event 193 = .ok (.aload_n 0, 1) := by decide +kernel
theorem dX12_event_194 : decode cX12_event 194 = .ok (.getfield 71, 3) := by decide +kernel
theorem dX12_event_197 : decode cX12_event 197 = .ok (.sipush 148, 3) := by decide +kernel
theorem dX12_event_200 : decode cX12_event 200 = .ok (.iconst 3, 1) := by decide +kernel
theorem dX12_event_201 : decode cX12_event 201 = .ok (.iload 4, 2) := by decide +kernel
theorem dX12_event_203 : decode cX12_event 203 = .ok (.iconst 2, 1) := by decide +kernel
theorem dX12_event_204 : decode cX12_event 204 = .ok (.idiv, 1) := by decide +kernel
theorem dX12_event_205 : decode cX12_event 205 = .ok (.imul, 1) := by decide +kernel
theorem dX12_event_206 : decode cX12_event 206 = .ok (.iadd, 1) := by decide +kernel
theorem dX12_event_207 : decode cX12_event 207 = .ok (.iaload, 1) := by decide +kernel
theorem dX12_event_208 : decode cX12_event 208 = .ok (.goto 19, 3) := by decide +kernel
theorem dX12_event_211 : decode cX12_event 211 = .ok (.iload_n 2, 1) := by decide +kernel
theorem dX12_event_212 : decode cX12_event 212 = .ok (.iconst 2, 1) := by decide +kernel
theorem dX12_event_213 : decode cX12_event 213 = .ok (.if_icmp .ne 10, 3) := by decide +kernel
theorem dX12_event_216 : decode cX12_event 216 = .ok (.iload 4, 2) := by decide +kernel
theorem dX12_event_218 : decode cX12_event 218 = .ok (.iconst 2, 1) := by decide +kernel
theorem dX12_event_219 : decode cX12_event 219 = .ok (.idiv, 1) := by decide +kernel
theorem dX12_event_220 : decode cX12_event 220 = .ok (.goto 7, 3) := by decide +kernel
theorem dX12_event_223 : decode cX12_event 223 = .ok (.iload 4, 2) := by decide +kernel
theorem dX12_event_225 : decode cX12_event 225 = .ok (.iconst 2, 1) := by decide +kernel
theorem dX12_event_226 : decode cX12_event 226 = .ok (.irem, 1) := by decide +kernel
theorem dX12_event_227 : decode cX12_event 227 = .ok (.ireturn, 1) := by decide +kernel
theorem dX12_event_228 : decode cX12_event 228 = .ok (.iinc 4 1, 3) := by decide +kernel
theorem dX12_event_231 : decode cX12_event 231 = .ok (.goto (-155), 3) := by decide +kernel
theorem dX12_event_234 : decode cX12_event 234 = .ok (.iconst (-1), 1) := by decide +kernel
theorem dX12_event_235 : decode cX12_event 235 = .ok (.ireturn, 1) := by decide +kernel
abbrev rm_M_event : Room := { frames := 2, cells := 0, slots := 0, locals := 46 }
def M_event_l5 (σ : Sg) (x1 : Int32) (x2 : Int32) (x3 : Int32) (x4 : Int32) : Option ((Int32 × Int32) ⊕ (Int32 × Int32)) :=
  zrd σ 183 1607 199 fun v15 =>
  if (2 * v15) ≤ x4 then (
    some (.inr (x3, x4))
  ) else (
    (M_stepOf σ x4).bind fun r24 =>
    if r24 = (-1) then (
      zlt (x3 + 0) fun v37 =>
      zlt (x4 + 1) fun v38 =>
      some (.inl (v37, v38))
    ) else (
      zlt (x3 + 1) fun v37 =>
      zlt (x4 + 1) fun v38 =>
      some (.inl (v37, v38))
    )
  )
set_option maxRecDepth 20000 in
theorem t_M_event_l5 {X : Zx} {Q : State → Prop} {σ : Sg} {x1 : Int32} {x2 : Int32} {x3 : Int32} {x4 : Int32} (ok : Zok X cX12_event RX12 rm_M_event 198 7)  {out : ((Int32 × Int32) ⊕ (Int32 × Int32))} (hf : M_event_l5 σ x1 x2 x3 x4 = some out) (hk : zout (fun (s : (Int32 × Int32)) => ZAt X Q 0 0 5 σ [(0, .ref (X.ad 171)), (1, .int x1), (2, .int x2), (3, .int s.1), (4, .int s.2)] []) (fun (s : (Int32 × Int32)) => ZAt X Q 0 0 44 σ [(0, .ref (X.ad 171)), (1, .int x1), (2, .int x2), (3, .int s.1)] []) out) : ZAt X Q 0 0 5 σ [(0, .ref (X.ad 171)), (1, .int x1), (2, .int x2), (3, .int x3), (4, .int x4)] [] := by
  unfold M_event_l5 at hf
  refine z_iload ok dX12_event_5 4 rfl ?_
  refine z_iconst (v := 2) ok dX12_event_7 (by decide) ?_
  refine z_aload_n ok dX12_event_8 0 rfl ?_
  refine z_getr (q := 183) ok kc_171 zc_12 hin_12 20 (by decide) fl_12_71 rfl dX12_event_9 ?_
  refine z_sipush (v := 199) ok dX12_event_12 (by decide) ?_
  refine z_iald ok kc_183 dX12_event_15 hf (fun v15 hf => ?_)
  refine z_imul ok dX12_event_16 ?_
  refine z_icmp_ge (tgt := 44) ok dX12_event_17 (by decide) hf (fun _ hf => ?_) (fun _ hf => ?_)
  · obtain rfl := Option.some.inj hf
    exact z_sub [0, 1, 2, 3] rfl hk
  · refine z_iload_n ok dX12_event_20 3 rfl ?_
    refine z_aload_n ok dX12_event_21 0 rfl ?_
    refine z_iload ok dX12_event_22 4 rfl ?_
    refine z_call hf (fun r24 h24 hf => ?_)
    refine z_cV (As := [.int x4]) (rest := [.int x3]) (w := 171) ok kc_171 zc_12 (c_M_stepOf h24) rfl ⟨ml_12_336, w_M_stepOf⟩ hy_M_stepOf ⟨rfl, rfl⟩ ⟨Nat.le_of_ble_eq_true rfl, Nat.le_of_ble_eq_true rfl⟩ ⟨Nat.zero_le _, Nat.zero_le _⟩ rfl (Nat.le_of_ble_eq_true rfl) dX12_event_24 ?_
    refine z_iconst (v := (-1)) ok dX12_event_27 (by decide) ?_
    refine z_icmp_eq (tgt := 35) ok dX12_event_28 (by decide) hf (fun _ hf => ?_) (fun _ hf => ?_)
    · refine z_iconst (v := 0) ok dX12_event_35 (by decide) ?_
      refine z_iadd ok dX12_event_36 ?_
      refine z_nm hf (fun v37 hf => ?_)
      refine z_istore_n (lv' := [(3, .int v37), (0, .ref (X.ad 171)), (1, .int x1), (2, .int x2), (4, .int x4)]) ok dX12_event_37 (by decide) rfl ?_
      refine z_iinc (w := 1) (lv' := fun v38 => [(4, .int v38), (3, .int v37), (0, .ref (X.ad 171)), (1, .int x1), (2, .int x2)]) ok dX12_event_38 4 rfl (by decide) (by decide) (fun _ => rfl) hf (fun v38 hf => ?_)
      refine z_goto (tgt := 5) ok dX12_event_41 (by decide) ?_
      obtain rfl := Option.some.inj hf
      exact z_sub [2, 3, 4, 1, 0] rfl hk
    · refine z_iconst (v := 1) ok dX12_event_31 (by decide) ?_
      refine z_goto (tgt := 36) ok dX12_event_32 (by decide) ?_
      refine z_iadd ok dX12_event_36 ?_
      refine z_nm hf (fun v37 hf => ?_)
      refine z_istore_n (lv' := [(3, .int v37), (0, .ref (X.ad 171)), (1, .int x1), (2, .int x2), (4, .int x4)]) ok dX12_event_37 (by decide) rfl ?_
      refine z_iinc (w := 1) (lv' := fun v38 => [(4, .int v38), (3, .int v37), (0, .ref (X.ad 171)), (1, .int x1), (2, .int x2)]) ok dX12_event_38 4 rfl (by decide) (by decide) (fun _ => rfl) hf (fun v38 hf => ?_)
      refine z_goto (tgt := 5) ok dX12_event_41 (by decide) ?_
      obtain rfl := Option.some.inj hf
      exact z_sub [2, 3, 4, 1, 0] rfl hk
def M_event_l110 (σ : Sg) (x1 : Int32) (x2 : Int32) (x4 : Int32) (x5 : Int32) (x6 : Int32) : Option ((Int32 × Int32) ⊕ (Int32 × Int32)) :=
  zrd σ 183 1607 199 fun v120 =>
  if (2 * v120) ≤ x6 then (
    some (.inr (x5, x6))
  ) else (
    if x6 = x4 then (
      zlt (x5 + 0) fun v161 =>
      zlt (x6 + 1) fun v163 =>
      some (.inl (v161, v163))
    ) else (
      (M_stepOf σ x6).bind fun r137 =>
      if r137 = (-1) then (
        zlt (x5 + 0) fun v161 =>
        zlt (x6 + 1) fun v163 =>
        some (.inl (v161, v163))
      ) else (
        (M_isAhead σ x6 x4).bind fun r149 =>
        if (zb r149) = 0 then (
          zlt (x5 + 0) fun v161 =>
          zlt (x6 + 1) fun v163 =>
          some (.inl (v161, v163))
        ) else (
          zlt (x5 + 1) fun v161 =>
          zlt (x6 + 1) fun v163 =>
          some (.inl (v161, v163))
        )
      )
    )
  )
set_option maxRecDepth 20000 in
theorem t_M_event_l110 {X : Zx} {Q : State → Prop} {σ : Sg} {x1 : Int32} {x2 : Int32} {x4 : Int32} {x5 : Int32} {x6 : Int32} (ok : Zok X cX12_event RX12 rm_M_event 198 7)  {out : ((Int32 × Int32) ⊕ (Int32 × Int32))} (hf : M_event_l110 σ x1 x2 x4 x5 x6 = some out) (hk : zout (fun (s : (Int32 × Int32)) => ZAt X Q 0 0 110 σ [(0, .ref (X.ad 171)), (1, .int x1), (2, .int x2), (4, .int x4), (5, .int s.1), (6, .int s.2)] []) (fun (s : (Int32 × Int32)) => ZAt X Q 0 0 169 σ [(0, .ref (X.ad 171)), (1, .int x1), (2, .int x2), (4, .int x4), (5, .int s.1)] []) out) : ZAt X Q 0 0 110 σ [(0, .ref (X.ad 171)), (1, .int x1), (2, .int x2), (4, .int x4), (5, .int x5), (6, .int x6)] [] := by
  unfold M_event_l110 at hf
  refine z_iload ok dX12_event_110 5 rfl ?_
  refine z_iconst (v := 2) ok dX12_event_112 (by decide) ?_
  refine z_aload_n ok dX12_event_113 0 rfl ?_
  refine z_getr (q := 183) ok kc_171 zc_12 hin_12 20 (by decide) fl_12_71 rfl dX12_event_114 ?_
  refine z_sipush (v := 199) ok dX12_event_117 (by decide) ?_
  refine z_iald ok kc_183 dX12_event_120 hf (fun v120 hf => ?_)
  refine z_imul ok dX12_event_121 ?_
  refine z_icmp_ge (tgt := 169) ok dX12_event_122 (by decide) hf (fun _ hf => ?_) (fun _ hf => ?_)
  · obtain rfl := Option.some.inj hf
    exact z_sub [0, 1, 2, 3, 4] rfl hk
  · refine z_iload ok dX12_event_125 4 rfl ?_
    refine z_iload ok dX12_event_127 5 rfl ?_
    refine z_iload ok dX12_event_129 3 rfl ?_
    refine z_icmp_eq (tgt := 159) ok dX12_event_131 (by decide) hf (fun _ hf => ?_) (fun _ hf => ?_)
    · refine z_iconst (v := 0) ok dX12_event_159 (by decide) ?_
      refine z_iadd ok dX12_event_160 ?_
      refine z_nm hf (fun v161 hf => ?_)
      refine z_istore (lv' := [(5, .int v161), (0, .ref (X.ad 171)), (1, .int x1), (2, .int x2), (4, .int x4), (6, .int x6)]) ok dX12_event_161 (by decide) rfl ?_
      refine z_iinc (w := 1) (lv' := fun v163 => [(6, .int v163), (5, .int v161), (0, .ref (X.ad 171)), (1, .int x1), (2, .int x2), (4, .int x4)]) ok dX12_event_163 5 rfl (by decide) (by decide) (fun _ => rfl) hf (fun v163 hf => ?_)
      refine z_goto (tgt := 110) ok dX12_event_166 (by decide) ?_
      obtain rfl := Option.some.inj hf
      exact z_sub [2, 3, 4, 5, 1, 0] rfl hk
    · refine z_aload_n ok dX12_event_134 0 rfl ?_
      refine z_iload ok dX12_event_135 5 rfl ?_
      refine z_call hf (fun r137 h137 hf => ?_)
      refine z_cV (As := [.int x6]) (rest := [.int x5]) (w := 171) ok kc_171 zc_12 (c_M_stepOf h137) rfl ⟨ml_12_336, w_M_stepOf⟩ hy_M_stepOf ⟨rfl, rfl⟩ ⟨Nat.le_of_ble_eq_true rfl, Nat.le_of_ble_eq_true rfl⟩ ⟨Nat.zero_le _, Nat.zero_le _⟩ rfl (Nat.le_of_ble_eq_true rfl) dX12_event_137 ?_
      refine z_iconst (v := (-1)) ok dX12_event_140 (by decide) ?_
      refine z_icmp_eq (tgt := 159) ok dX12_event_141 (by decide) hf (fun _ hf => ?_) (fun _ hf => ?_)
      · refine z_iconst (v := 0) ok dX12_event_159 (by decide) ?_
        refine z_iadd ok dX12_event_160 ?_
        refine z_nm hf (fun v161 hf => ?_)
        refine z_istore (lv' := [(5, .int v161), (0, .ref (X.ad 171)), (1, .int x1), (2, .int x2), (4, .int x4), (6, .int x6)]) ok dX12_event_161 (by decide) rfl ?_
        refine z_iinc (w := 1) (lv' := fun v163 => [(6, .int v163), (5, .int v161), (0, .ref (X.ad 171)), (1, .int x1), (2, .int x2), (4, .int x4)]) ok dX12_event_163 5 rfl (by decide) (by decide) (fun _ => rfl) hf (fun v163 hf => ?_)
        refine z_goto (tgt := 110) ok dX12_event_166 (by decide) ?_
        obtain rfl := Option.some.inj hf
        exact z_sub [2, 3, 4, 5, 1, 0] rfl hk
      · refine z_aload_n ok dX12_event_144 0 rfl ?_
        refine z_iload ok dX12_event_145 5 rfl ?_
        refine z_iload ok dX12_event_147 3 rfl ?_
        refine z_call hf (fun r149 h149 hf => ?_)
        refine z_cV (As := [.int x6, .int x4]) (rest := [.int x5]) (w := 171) ok kc_171 zc_12 (c_M_isAhead h149) rfl ⟨ml_12_339, w_M_isAhead⟩ hy_M_isAhead ⟨rfl, rfl⟩ ⟨Nat.le_of_ble_eq_true rfl, Nat.le_of_ble_eq_true rfl⟩ ⟨Nat.zero_le _, Nat.zero_le _⟩ rfl (Nat.le_of_ble_eq_true rfl) dX12_event_149 ?_
        refine z_if_eq (tgt := 159) ok dX12_event_152 (by decide) hf (fun _ hf => ?_) (fun _ hf => ?_)
        · refine z_iconst (v := 0) ok dX12_event_159 (by decide) ?_
          refine z_iadd ok dX12_event_160 ?_
          refine z_nm hf (fun v161 hf => ?_)
          refine z_istore (lv' := [(5, .int v161), (0, .ref (X.ad 171)), (1, .int x1), (2, .int x2), (4, .int x4), (6, .int x6)]) ok dX12_event_161 (by decide) rfl ?_
          refine z_iinc (w := 1) (lv' := fun v163 => [(6, .int v163), (5, .int v161), (0, .ref (X.ad 171)), (1, .int x1), (2, .int x2), (4, .int x4)]) ok dX12_event_163 5 rfl (by decide) (by decide) (fun _ => rfl) hf (fun v163 hf => ?_)
          refine z_goto (tgt := 110) ok dX12_event_166 (by decide) ?_
          obtain rfl := Option.some.inj hf
          exact z_sub [2, 3, 4, 5, 1, 0] rfl hk
        · refine z_iconst (v := 1) ok dX12_event_155 (by decide) ?_
          refine z_goto (tgt := 160) ok dX12_event_156 (by decide) ?_
          refine z_iadd ok dX12_event_160 ?_
          refine z_nm hf (fun v161 hf => ?_)
          refine z_istore (lv' := [(5, .int v161), (0, .ref (X.ad 171)), (1, .int x1), (2, .int x2), (4, .int x4), (6, .int x6)]) ok dX12_event_161 (by decide) rfl ?_
          refine z_iinc (w := 1) (lv' := fun v163 => [(6, .int v163), (5, .int v161), (0, .ref (X.ad 171)), (1, .int x1), (2, .int x2), (4, .int x4)]) ok dX12_event_163 5 rfl (by decide) (by decide) (fun _ => rfl) hf (fun v163 hf => ?_)
          refine z_goto (tgt := 110) ok dX12_event_166 (by decide) ?_
          obtain rfl := Option.some.inj hf
          exact z_sub [2, 3, 4, 5, 1, 0] rfl hk
def M_event_j76_169 (σ : Sg) (x1 : Int32) (x2 : Int32) (x4 : Int32) (x5 : Int32) : Option (Int32 ⊕ (Int32 ⊕ Int32)) :=
  if x5 = x1 then (
    if x2 = 0 then (
      (M_stepOf σ x4).bind fun r182 =>
      some (.inr (.inl r182))
    ) else (
      if x2 = 1 then (
        zrd σ 183 1607 (148 + (3 * (x4 / 2))) fun v207 =>
        some (.inr (.inl v207))
      ) else (
        if x2 = 2 then (
          some (.inr (.inl (x4 / 2)))
        ) else (
          some (.inr (.inl (x4 - x4 / 2 * 2)))
        )
      )
    )
  ) else (
    zlt (x4 + 1) fun v228 =>
    some (.inl v228)
  )
set_option maxRecDepth 20000 in
theorem t_M_event_j76_169 {X : Zx} {Q : State → Prop} {σ : Sg} {x1 : Int32} {x2 : Int32} {x4 : Int32} {x5 : Int32} (ok : Zok X cX12_event RX12 rm_M_event 198 7)  {out : (Int32 ⊕ (Int32 ⊕ Int32))} (hf : M_event_j76_169 σ x1 x2 x4 x5 = some out) (hk : zout (fun (s : Int32) => ZAt X Q 0 0 76 σ [(0, .ref (X.ad 171)), (1, .int x1), (2, .int x2), (4, .int s)] []) (zout (fun (r : Int32) => ZrI cX12_event X Q r σ) (fun (s : Int32) => ZAt X Q 0 0 234 σ [] [])) out) : ZAt X Q 0 0 169 σ [(0, .ref (X.ad 171)), (1, .int x1), (2, .int x2), (4, .int x4), (5, .int x5)] [] := by
  unfold M_event_j76_169 at hf
  refine z_iload ok dX12_event_169 4 rfl ?_
  refine z_iload_n ok dX12_event_171 1 rfl ?_
  refine z_icmp_ne (tgt := 228) ok dX12_event_172 (by decide) hf (fun _ hf => ?_) (fun _ hf => ?_)
  · refine z_iload_n ok dX12_event_175 2 rfl ?_
    refine z_if_ne (tgt := 188) ok dX12_event_176 (by decide) hf (fun _ hf => ?_) (fun _ hf => ?_)
    · refine z_aload_n ok dX12_event_179 0 rfl ?_
      refine z_iload ok dX12_event_180 3 rfl ?_
      refine z_call hf (fun r182 h182 hf => ?_)
      refine z_cV (As := [.int x4]) (rest := []) (w := 171) ok kc_171 zc_12 (c_M_stepOf h182) rfl ⟨ml_12_336, w_M_stepOf⟩ hy_M_stepOf ⟨rfl, rfl⟩ ⟨Nat.le_of_ble_eq_true rfl, Nat.le_of_ble_eq_true rfl⟩ ⟨Nat.zero_le _, Nat.zero_le _⟩ rfl (Nat.le_of_ble_eq_true rfl) dX12_event_182 ?_
      refine z_goto (tgt := 227) ok dX12_event_185 (by decide) ?_
      obtain rfl := Option.some.inj hf
      exact hk _ _ dX12_event_227
    · refine z_iload_n ok dX12_event_188 2 rfl ?_
      refine z_iconst (v := 1) ok dX12_event_189 (by decide) ?_
      refine z_icmp_ne (tgt := 211) ok dX12_event_190 (by decide) hf (fun _ hf => ?_) (fun _ hf => ?_)
      · refine z_aload_n ok dX12_event_193 0 rfl ?_
        refine z_getr (q := 183) ok kc_171 zc_12 hin_12 20 (by decide) fl_12_71 rfl dX12_event_194 ?_
        refine z_sipush (v := 148) ok dX12_event_197 (by decide) ?_
        refine z_iconst (v := 3) ok dX12_event_200 (by decide) ?_
        refine z_iload ok dX12_event_201 3 rfl ?_
        refine z_iconst (v := 2) ok dX12_event_203 (by decide) ?_
        refine z_idivc ok dX12_event_204 (by decide) ?_
        refine z_imul ok dX12_event_205 ?_
        refine z_iadd ok dX12_event_206 ?_
        refine z_iald ok kc_183 dX12_event_207 hf (fun v207 hf => ?_)
        refine z_goto (tgt := 227) ok dX12_event_208 (by decide) ?_
        obtain rfl := Option.some.inj hf
        exact hk _ _ dX12_event_227
      · refine z_iload_n ok dX12_event_211 2 rfl ?_
        refine z_iconst (v := 2) ok dX12_event_212 (by decide) ?_
        refine z_icmp_ne (tgt := 223) ok dX12_event_213 (by decide) hf (fun _ hf => ?_) (fun _ hf => ?_)
        · refine z_iload ok dX12_event_216 3 rfl ?_
          refine z_iconst (v := 2) ok dX12_event_218 (by decide) ?_
          refine z_idivc ok dX12_event_219 (by decide) ?_
          refine z_goto (tgt := 227) ok dX12_event_220 (by decide) ?_
          obtain rfl := Option.some.inj hf
          exact hk _ _ dX12_event_227
        · refine z_iload ok dX12_event_223 3 rfl ?_
          refine z_iconst (v := 2) ok dX12_event_225 (by decide) ?_
          refine z_iremc ok dX12_event_226 (by decide) ?_
          obtain rfl := Option.some.inj hf
          exact hk _ _ dX12_event_227
  · refine z_iinc (w := 1) (lv' := fun v228 => [(4, .int v228), (0, .ref (X.ad 171)), (1, .int x1), (2, .int x2), (5, .int x5)]) ok dX12_event_228 3 rfl (by decide) (by decide) (fun _ => rfl) hf (fun v228 hf => ?_)
    refine z_goto (tgt := 76) ok dX12_event_231 (by decide) ?_
    obtain rfl := Option.some.inj hf
    exact z_sub [1, 2, 3, 0] rfl hk
def M_event_l76 (σ : Sg) (x1 : Int32) (x2 : Int32) (x4 : Int32) : Option (Int32 ⊕ (Int32 ⊕ Int32)) :=
  zrd σ 183 1607 199 fun v86 =>
  if (2 * v86) ≤ x4 then (
    some (.inr (.inr x4))
  ) else (
    (M_stepOf σ x4).bind fun r94 =>
    if r94 = (-1) then (
      zlt (x4 + 1) fun v228 =>
      some (.inl v228)
    ) else (
      zlt 0 fun v105 =>
      zlt 0 fun v108 =>
      (zit (fun (s : (Int32 × Int32)) => M_event_l110 σ x1 x2 x4 s.1 s.2) zFU (v105, v108)).bind fun r =>
      M_event_j76_169 σ x1 x2 x4 r.1
    )
  )
set_option maxRecDepth 20000 in
theorem t_M_event_l76 {X : Zx} {Q : State → Prop} {σ : Sg} {x1 : Int32} {x2 : Int32} {x4 : Int32} (ok : Zok X cX12_event RX12 rm_M_event 198 7)  {out : (Int32 ⊕ (Int32 ⊕ Int32))} (hf : M_event_l76 σ x1 x2 x4 = some out) (hk : zout (fun (s : Int32) => ZAt X Q 0 0 76 σ [(0, .ref (X.ad 171)), (1, .int x1), (2, .int x2), (4, .int s)] []) (zout (fun (r : Int32) => ZrI cX12_event X Q r σ) (fun (s : Int32) => ZAt X Q 0 0 234 σ [] [])) out) : ZAt X Q 0 0 76 σ [(0, .ref (X.ad 171)), (1, .int x1), (2, .int x2), (4, .int x4)] [] := by
  unfold M_event_l76 at hf
  refine z_iload ok dX12_event_76 3 rfl ?_
  refine z_iconst (v := 2) ok dX12_event_78 (by decide) ?_
  refine z_aload_n ok dX12_event_79 0 rfl ?_
  refine z_getr (q := 183) ok kc_171 zc_12 hin_12 20 (by decide) fl_12_71 rfl dX12_event_80 ?_
  refine z_sipush (v := 199) ok dX12_event_83 (by decide) ?_
  refine z_iald ok kc_183 dX12_event_86 hf (fun v86 hf => ?_)
  refine z_imul ok dX12_event_87 ?_
  refine z_icmp_ge (tgt := 234) ok dX12_event_88 (by decide) hf (fun _ hf => ?_) (fun _ hf => ?_)
  · obtain rfl := Option.some.inj hf
    exact z_sub [] rfl hk
  · refine z_aload_n ok dX12_event_91 0 rfl ?_
    refine z_iload ok dX12_event_92 3 rfl ?_
    refine z_call hf (fun r94 h94 hf => ?_)
    refine z_cV (As := [.int x4]) (rest := []) (w := 171) ok kc_171 zc_12 (c_M_stepOf h94) rfl ⟨ml_12_336, w_M_stepOf⟩ hy_M_stepOf ⟨rfl, rfl⟩ ⟨Nat.le_of_ble_eq_true rfl, Nat.le_of_ble_eq_true rfl⟩ ⟨Nat.zero_le _, Nat.zero_le _⟩ rfl (Nat.le_of_ble_eq_true rfl) dX12_event_94 ?_
    refine z_iconst (v := (-1)) ok dX12_event_97 (by decide) ?_
    refine z_icmp_ne (tgt := 104) ok dX12_event_98 (by decide) hf (fun _ hf => ?_) (fun _ hf => ?_)
    · refine z_goto (tgt := 228) ok dX12_event_101 (by decide) ?_
      refine z_iinc (w := 1) (lv' := fun v228 => [(4, .int v228), (0, .ref (X.ad 171)), (1, .int x1), (2, .int x2)]) ok dX12_event_228 3 rfl (by decide) (by decide) (fun _ => rfl) hf (fun v228 hf => ?_)
      refine z_goto (tgt := 76) ok dX12_event_231 (by decide) ?_
      obtain rfl := Option.some.inj hf
      exact z_sub [1, 2, 3, 0] rfl hk
    · refine z_iconst (v := 0) ok dX12_event_104 (by decide) ?_
      refine z_nm hf (fun v105 hf => ?_)
      refine z_istore (lv' := [(5, .int v105), (0, .ref (X.ad 171)), (1, .int x1), (2, .int x2), (4, .int x4)]) ok dX12_event_105 (by decide) rfl ?_
      refine z_iconst (v := 0) ok dX12_event_107 (by decide) ?_
      refine z_nm hf (fun v108 hf => ?_)
      refine z_istore (lv' := [(6, .int v108), (5, .int v105), (0, .ref (X.ad 171)), (1, .int x1), (2, .int x2), (4, .int x4)]) ok dX12_event_108 (by decide) rfl ?_
      refine z_call hf (fun r hr hf => ?_)
      refine z_sub [2, 3, 4, 5, 1, 0] rfl (z_iter (fun (s : (Int32 × Int32)) => σ) (fun (s : (Int32 × Int32)) => [(0, .ref (X.ad 171)), (1, .int x1), (2, .int x2), (4, .int x4), (5, .int s.1), (6, .int s.2)]) (fun s o h1 h2 => t_M_event_l110 ok h1 h2) _ _ _ hr ?_)
      show ZAt X Q 0 0 169 σ [(0, .ref (X.ad 171)), (1, .int x1), (2, .int x2), (4, .int x4), (5, .int r.1)] []
      exact z_sub [0, 1, 2, 3, 4] rfl (t_M_event_j76_169 ok hf hk)
def M_event_j44 (σ : Sg) (x1 : Int32) (x2 : Int32) (x3 : Int32) : Option Int32 :=
  if x1 = (-1) then (
    some x3
  ) else (
    (M_isIn x1 0 (x3 - 1)).bind fun r56 =>
    if (zb r56) = 0 then (
      some (-1)
    ) else (
      (M_isIn x2 0 3).bind fun r65 =>
      if (zb r65) = 0 then (
        some (-1)
      ) else (
        zlt 0 fun v74 =>
        (zit (fun (s : Int32) => M_event_l76 σ x1 x2 s) zFU v74).bind fun r => r.elim (fun r =>
        some r
        ) (fun r =>
        some (-1)
        )
      )
    )
  )
set_option maxRecDepth 20000 in
theorem t_M_event_j44 {X : Zx} {Q : State → Prop} {σ : Sg} {x1 : Int32} {x2 : Int32} {x3 : Int32} (ok : Zok X cX12_event RX12 rm_M_event 198 7)  {out : Int32} (hf : M_event_j44 σ x1 x2 x3 = some out) (hk : ZrI cX12_event X Q out σ) : ZAt X Q 0 0 44 σ [(0, .ref (X.ad 171)), (1, .int x1), (2, .int x2), (3, .int x3)] [] := by
  unfold M_event_j44 at hf
  refine z_iload_n ok dX12_event_44 1 rfl ?_
  refine z_iconst (v := (-1)) ok dX12_event_45 (by decide) ?_
  refine z_icmp_ne (tgt := 51) ok dX12_event_46 (by decide) hf (fun _ hf => ?_) (fun _ hf => ?_)
  · refine z_iload_n ok dX12_event_49 3 rfl ?_
    obtain rfl := Option.some.inj hf
    exact hk _ _ dX12_event_50
  · refine z_iload_n ok dX12_event_51 1 rfl ?_
    refine z_iconst (v := 0) ok dX12_event_52 (by decide) ?_
    refine z_iload_n ok dX12_event_53 3 rfl ?_
    refine z_iconst (v := 1) ok dX12_event_54 (by decide) ?_
    refine z_isub ok dX12_event_55 ?_
    refine z_call hf (fun r56 h56 hf => ?_)
    refine z_cS (As := [.int x1, .int 0, .int (x3 - 1)]) (rest := []) ok (c_M_isIn h56) rfl ⟨ml_12_198, w_M_isIn⟩ hy_M_isIn ⟨rfl, rfl⟩ ⟨Nat.le_of_ble_eq_true rfl, Nat.le_of_ble_eq_true rfl⟩ ⟨Nat.zero_le _, Nat.zero_le _⟩ rfl (Nat.le_of_ble_eq_true rfl) dX12_event_56 ?_
    refine z_if_eq (tgt := 71) ok dX12_event_59 (by decide) hf (fun _ hf => ?_) (fun _ hf => ?_)
    · refine z_iconst (v := (-1)) ok dX12_event_71 (by decide) ?_
      obtain rfl := Option.some.inj hf
      exact hk _ _ dX12_event_72
    · refine z_iload_n ok dX12_event_62 2 rfl ?_
      refine z_iconst (v := 0) ok dX12_event_63 (by decide) ?_
      refine z_iconst (v := 3) ok dX12_event_64 (by decide) ?_
      refine z_call hf (fun r65 h65 hf => ?_)
      refine z_cS (As := [.int x2, .int 0, .int 3]) (rest := []) ok (c_M_isIn h65) rfl ⟨ml_12_198, w_M_isIn⟩ hy_M_isIn ⟨rfl, rfl⟩ ⟨Nat.le_of_ble_eq_true rfl, Nat.le_of_ble_eq_true rfl⟩ ⟨Nat.zero_le _, Nat.zero_le _⟩ rfl (Nat.le_of_ble_eq_true rfl) dX12_event_65 ?_
      refine z_if_ne (tgt := 73) ok dX12_event_68 (by decide) hf (fun _ hf => ?_) (fun _ hf => ?_)
      · refine z_iconst (v := (-1)) ok dX12_event_71 (by decide) ?_
        obtain rfl := Option.some.inj hf
        exact hk _ _ dX12_event_72
      · refine z_iconst (v := 0) ok dX12_event_73 (by decide) ?_
        refine z_nm hf (fun v74 hf => ?_)
        refine z_istore (lv' := [(4, .int v74), (0, .ref (X.ad 171)), (1, .int x1), (2, .int x2), (3, .int x3)]) ok dX12_event_74 (by decide) rfl ?_
        refine z_call hf (fun r hr hf => ?_)
        refine z_sub [1, 2, 3, 0] rfl (z_iter (fun (s : Int32) => σ) (fun (s : Int32) => [(0, .ref (X.ad 171)), (1, .int x1), (2, .int x2), (4, .int s)]) (fun s o h1 h2 => t_M_event_l76 ok h1 h2) _ _ _ hr ?_)
        cases r with
        | inl r =>
          obtain rfl := Option.some.inj hf
          exact hk
        | inr r =>
          simp only [Sum.elim_inr] at hf
          show ZAt X Q 0 0 234 σ [] []
          refine z_iconst (v := (-1)) ok dX12_event_234 (by decide) ?_
          obtain rfl := Option.some.inj hf
          exact hk _ _ dX12_event_235
def M_event (σ : Sg) (x1 : Int32) (x2 : Int32) : Option Int32 :=
  zlt 0 fun v1 =>
  zlt 0 fun v3 =>
  (zit (fun (s : (Int32 × Int32)) => M_event_l5 σ x1 x2 s.1 s.2) zFU (v1, v3)).bind fun r =>
  M_event_j44 σ x1 x2 r.1
set_option maxRecDepth 20000 in
theorem t_M_event {X : Zx} {Q : State → Prop} {σ : Sg} {x1 : Int32} {x2 : Int32} (ok : Zok X cX12_event RX12 rm_M_event 198 7)  {out : Int32} (hf : M_event σ x1 x2 = some out) (hk : ZrI cX12_event X Q out σ) : ZAt X Q 0 0 0 σ [(0, .ref (X.ad 171)), (1, .int x1), (2, .int x2)] [] := by
  unfold M_event at hf
  refine z_iconst (v := 0) ok dX12_event_0 (by decide) ?_
  refine z_nm hf (fun v1 hf => ?_)
  refine z_istore_n (lv' := [(3, .int v1), (0, .ref (X.ad 171)), (1, .int x1), (2, .int x2)]) ok dX12_event_1 (by decide) rfl ?_
  refine z_iconst (v := 0) ok dX12_event_2 (by decide) ?_
  refine z_nm hf (fun v3 hf => ?_)
  refine z_istore (lv' := [(4, .int v3), (3, .int v1), (0, .ref (X.ad 171)), (1, .int x1), (2, .int x2)]) ok dX12_event_3 (by decide) rfl ?_
  refine z_call hf (fun r hr hf => ?_)
  refine z_sub [2, 3, 4, 1, 0] rfl (z_iter (fun (s : (Int32 × Int32)) => σ) (fun (s : (Int32 × Int32)) => [(0, .ref (X.ad 171)), (1, .int x1), (2, .int x2), (3, .int s.1), (4, .int s.2)]) (fun s o h1 h2 => t_M_event_l5 ok h1 h2) _ _ _ hr ?_)
  show ZAt X Q 0 0 44 σ [(0, .ref (X.ad 171)), (1, .int x1), (2, .int x2), (3, .int r.1)] []
  exact z_sub [0, 1, 2, 3] rfl (t_M_event_j44 ok hf hk)
theorem c_M_event {σ : Sg} {x1 : Int32} {x2 : Int32} {r : Int32} (h : M_event σ x1 x2 = some r) : ZcI yX12_event cX12_event 7 .int rm_M_event 198 (fun ad => [.ref (ad 171), .int x1, .int x2]) σ r σ :=
  zmetI pn_12 rfl (fun _ => rfl) (fun _ => Nat.le_of_ble_eq_true rfl) rfl (fun X Q ok hk => t_M_event ok h hk)
theorem dX12_farOf_0 : decode cX12_farOf 0 = .ok (.aload_n 0, 1) := by decide +kernel
theorem dX12_farOf_1 : decode cX12_farOf 1 = .ok (.getfield 71, 3) := by decide +kernel
theorem dX12_farOf_4 : decode cX12_farOf 4 = .ok (.iconst 0, 1) := by decide +kernel
theorem dX12_farOf_5 : decode cX12_farOf 5 = .ok (.iload_n 1, 1) := by decide +kernel
theorem dX12_farOf_6 : decode cX12_farOf 6 = .ok (.iadd, 1) := by decide +kernel
theorem dX12_farOf_7 : decode cX12_farOf 7 = .ok (.iaload, 1) := by decide +kernel
theorem dX12_farOf_8 : decode cX12_farOf 8 = .ok (.aload_n 0, 1) := by decide +kernel
theorem dX12_farOf_9 : decode cX12_farOf 9 = .ok (.iload_n 1, 1) := by decide +kernel
theorem dX12_farOf_10 : decode cX12_farOf 10 = .ok (.invokevirtual 267, 3) := by decide +kernel
theorem dX12_farOf_13 : decode cX12_farOf 13 = .ok (.isub, 1) := by decide +kernel
theorem dX12_farOf_14 : decode cX12_farOf 14 = .ok (.istore_n 2, 1) := by decide +kernel
theorem dX12_farOf_15 : decode cX12_farOf 15 = .ok (.iload_n 2, 1) := by decide +kernel
theorem dX12_farOf_16 : decode cX12_farOf 16 = .ok (.iload_n 2, 1) := by decide +kernel
theorem dX12_farOf_17 : decode cX12_farOf 17 = .ok (.ineg, 1) := by decide +kernel
theorem dX12_farOf_18 : decode cX12_farOf 18 = .ok (.invokestatic 276, 3) := by decide +kernel
theorem dX12_farOf_21 : decode cX12_farOf 21 = .ok (.ireturn, 1) := by decide +kernel
abbrev rm_M_farOf : Room := { frames := 2, cells := 0, slots := 0, locals := 43 }
def M_farOf (σ : Sg) (x1 : Int32) : Option Int32 :=
  zrd σ 183 1607 (0 + x1) fun v7 =>
  (M_middleOf σ x1).bind fun r10 =>
  zlt (v7 - r10) fun v14 =>
  (M_greater v14 (-v14)).bind fun r18 =>
  some r18
set_option maxRecDepth 20000 in
theorem t_M_farOf {X : Zx} {Q : State → Prop} {σ : Sg} {x1 : Int32} (ok : Zok X cX12_farOf RX12 rm_M_farOf 198 3)  {out : Int32} (hf : M_farOf σ x1 = some out) (hk : ZrI cX12_farOf X Q out σ) : ZAt X Q 0 0 0 σ [(0, .ref (X.ad 171)), (1, .int x1)] [] := by
  unfold M_farOf at hf
  refine z_aload_n ok dX12_farOf_0 0 rfl ?_
  refine z_getr (q := 183) ok kc_171 zc_12 hin_12 20 (by decide) fl_12_71 rfl dX12_farOf_1 ?_
  refine z_iconst (v := 0) ok dX12_farOf_4 (by decide) ?_
  refine z_iload_n ok dX12_farOf_5 1 rfl ?_
  refine z_iadd ok dX12_farOf_6 ?_
  refine z_iald ok kc_183 dX12_farOf_7 hf (fun v7 hf => ?_)
  refine z_aload_n ok dX12_farOf_8 0 rfl ?_
  refine z_iload_n ok dX12_farOf_9 1 rfl ?_
  refine z_call hf (fun r10 h10 hf => ?_)
  refine z_cV (As := [.int x1]) (rest := [.int v7]) (w := 171) ok kc_171 zc_12 (c_M_middleOf h10) rfl ⟨ml_12_267, w_M_middleOf⟩ hy_M_middleOf ⟨rfl, rfl⟩ ⟨Nat.le_of_ble_eq_true rfl, Nat.le_of_ble_eq_true rfl⟩ ⟨Nat.zero_le _, Nat.zero_le _⟩ rfl (Nat.le_of_ble_eq_true rfl) dX12_farOf_10 ?_
  refine z_isub ok dX12_farOf_13 ?_
  refine z_nm hf (fun v14 hf => ?_)
  refine z_istore_n (lv' := [(2, .int v14), (0, .ref (X.ad 171)), (1, .int x1)]) ok dX12_farOf_14 (by decide) rfl ?_
  refine z_iload_n ok dX12_farOf_15 0 rfl ?_
  refine z_iload_n ok dX12_farOf_16 0 rfl ?_
  refine z_ineg ok dX12_farOf_17 ?_
  refine z_call hf (fun r18 h18 hf => ?_)
  refine z_cS (As := [.int v14, .int (-v14)]) (rest := []) ok (c_M_greater h18) rfl ⟨ml_12_276, w_M_greater⟩ hy_M_greater ⟨rfl, rfl⟩ ⟨Nat.le_of_ble_eq_true rfl, Nat.le_of_ble_eq_true rfl⟩ ⟨Nat.zero_le _, Nat.zero_le _⟩ rfl (Nat.le_of_ble_eq_true rfl) dX12_farOf_18 ?_
  obtain rfl := Option.some.inj hf
  exact hk _ _ dX12_farOf_21
theorem c_M_farOf {σ : Sg} {x1 : Int32} {r : Int32} (h : M_farOf σ x1 = some r) : ZcI yX12_farOf cX12_farOf 3 .int rm_M_farOf 198 (fun ad => [.ref (ad 171), .int x1]) σ r σ :=
  zmetI pn_12 rfl (fun _ => rfl) (fun _ => Nat.le_of_ble_eq_true rfl) rfl (fun X Q ok hk => t_M_farOf ok h hk)
theorem dX12_rank_0 : decode cX12_rank 0 = .ok (.iconst 0, 1) := by decide +kernel
theorem dX12_rank_1 : decode cX12_rank 1 = .ok (.istore_n 2, 1) := by decide +kernel
theorem dX12_rank_2 : decode cX12_rank 2 = .ok (.iload_n 2, 1) := by decide +kernel
theorem dX12_rank_3 : decode cX12_rank 3 = .ok (.aload_n 0, 1) := by decide +kernel
theorem dX12_rank_4 : decode cX12_rank 4 = .ok (.getfield 7, 3) := by decide +kernel
theorem dX12_rank_7 : decode cX12_rank 7 = .ok (.if_icmp .ge 78, 3) := by decide +kernel
theorem dX12_rank_10 : decode cX12_rank 10 = .ok (.iconst 0, 1) := by decide +kernel
theorem dX12_rank_11 : decode cX12_rank 11 = .ok (.istore_n 3, 1) := by decide +kernel
theorem dX12_rank_12 : decode cX12_rank 12 = .ok (.iconst 0, 1) := by decide +kernel
theorem dX12_rank_13 : decode cX12_rank 13 = .ok (.istore 4, 2) := by decide +kernel
theorem dX12_rank_15 : decode cX12_rank 15 = .ok (.iload 4, 2) := by decide +kernel
theorem dX12_rank_17 : decode cX12_rank 17 = .ok (.aload_n 0, 1) := by decide +kernel
theorem dX12_rank_18 : decode cX12_rank 18 = .ok (.getfield 7, 3) := by decide +kernel
theorem dX12_rank_21 : decode cX12_rank 21 = .ok (.if_icmp .ge 51, 3) := by decide +kernel
theorem dX12_rank_24 : decode cX12_rank 24 = .ok (.iload_n 3, 1) := by decide +kernel
theorem dX12_rank_25 : decode cX12_rank 25 = .ok (.aload_n 0, 1) := by decide +kernel
theorem dX12_rank_26 : decode cX12_rank 26 = .ok (.iload 4, 2) := by decide +kernel
theorem dX12_rank_28 : decode cX12_rank 28 = .ok (.invokevirtual 342, 3) := by decide +kernel
theorem dX12_rank_31 : decode cX12_rank 31 = .ok (.aload_n 0, 1) := by decide +kernel
theorem dX12_rank_32 : decode cX12_rank 32 = .ok (.iload_n 2, 1) := by decide +kernel
theorem dX12_rank_33 : decode cX12_rank 33 = .ok (.invokevirtual 342, 3) := by decide +kernel
theorem dX12_rank_36 : decode cX12_rank 36 = .ok (.if_icmp .gt 23, 3) := by decide +kernel
theorem dX12_rank_39 : decode cX12_rank 39 = .ok (.aload_n 0, 1) := by decide +kernel
theorem dX12_rank_40 : decode cX12_rank 40 = .ok (.iload 4, 2) := by decide +kernel
theorem dX12_rank_42 : decode cX12_rank 42 = .ok (.invokevirtual 342, 3) := by decide +kernel
theorem dX12_rank_45 : decode cX12_rank 45 = .ok (.aload_n 0, 1) := by decide +kernel
theorem dX12_rank_46 : decode cX12_rank 46 = .ok (.iload_n 2, 1) := by decide +kernel
theorem dX12_rank_47 : decode cX12_rank 47 = .ok (.invokevirtual 342, 3) := by decide +kernel
theorem dX12_rank_50 : decode cX12_rank 50 = .ok (.if_icmp .ne 13, 3) := by decide +kernel
theorem dX12_rank_53 : decode cX12_rank 53 = .ok (.iload 4, 2) := by decide +kernel
theorem dX12_rank_55 : decode cX12_rank 55 = .ok (.iload_n 2, 1) := by decide +kernel
theorem dX12_rank_56 : decode cX12_rank 56 = .ok (.if_icmp .ge 7, 3) := by decide +kernel
theorem dX12_rank_59 : decode cX12_rank 59 = .ok (.iconst 1, 1) := by decide +kernel
theorem dX12_rank_60 : decode cX12_rank 60 = .ok (.goto 4, 3) := by decide +kernel
theorem dX12_rank_63 : decode cX12_rank 63 = .ok (.iconst 0, 1) := by decide +kernel
theorem dX12_rank_64 : decode cX12_rank 64 = .ok (.iadd, 1) := by decide +kernel
theorem dX12_rank_65 : decode cX12_rank 65 = .ok (.istore_n 3, 1) := by decide +kernel
theorem dX12_rank_66 : decode cX12_rank 66 = .ok (.iinc 4 1, 3) := by decide +kernel
theorem dX12_rank_69 : decode cX12_rank 69 = .ok (.goto (-54), 3) := by decide +kernel
theorem dX12_rank_72 : decode cX12_rank 72 = .ok (.iload_n 3, 1) := by decide +kernel
theorem dX12_rank_73 : decode cX12_rank 73 = .ok (.iload_n 1, 1) := by decide +kernel
theorem dX12_rank_74 : decode cX12_rank 74 = .ok (.if_icmp .ne 5, 3) := by decide +kernel
theorem dX12_rank_77 : decode cX12_rank 77 = .ok (.iload_n 2, 1) := by decide +kernel
theorem dX12_rank_78 : decode cX12_rank 78 = .ok (.ireturn, 1) := by decide +kernel
theorem dX12_rank_79 : decode cX12_rank 79 = .ok (.iinc 2 1, 3) := by decide +kernel
theorem dX12_rank_82 : decode cX12_rank 82 = .ok (.goto (-80), 3) := by decide +kernel
theorem dX12_rank_85 : decode cX12_rank 85 = .ok (.iconst (-1), 1) := by decide +kernel
theorem dX12_rank_86 : decode cX12_rank 86 = .ok (.ireturn, 1) := by decide +kernel
abbrev rm_M_rank : Room := { frames := 3, cells := 0, slots := 0, locals := 65 }
def M_rank_l15 (σ : Sg) (x1 : Int32) (x2 : Int32) (x3 : Int32) (x4 : Int32) : Option ((Int32 × Int32) ⊕ (Int32 × Int32)) :=
  zgt σ 171 0 fun v18 =>
  if v18 ≤ x4 then (
    some (.inr (x3, x4))
  ) else (
    (M_farOf σ x4).bind fun r28 =>
    (M_farOf σ x2).bind fun r33 =>
    if r33 < r28 then (
      zlt (x3 + 1) fun v65 =>
      zlt (x4 + 1) fun v66 =>
      some (.inl (v65, v66))
    ) else (
      (M_farOf σ x4).bind fun r42 =>
      (M_farOf σ x2).bind fun r47 =>
      if r42 = r47 then (
        if x2 ≤ x4 then (
          zlt (x3 + 0) fun v65 =>
          zlt (x4 + 1) fun v66 =>
          some (.inl (v65, v66))
        ) else (
          zlt (x3 + 1) fun v65 =>
          zlt (x4 + 1) fun v66 =>
          some (.inl (v65, v66))
        )
      ) else (
        zlt (x3 + 0) fun v65 =>
        zlt (x4 + 1) fun v66 =>
        some (.inl (v65, v66))
      )
    )
  )
set_option maxRecDepth 20000 in
theorem t_M_rank_l15 {X : Zx} {Q : State → Prop} {σ : Sg} {x1 : Int32} {x2 : Int32} {x3 : Int32} {x4 : Int32} (ok : Zok X cX12_rank RX12 rm_M_rank 198 5)  {out : ((Int32 × Int32) ⊕ (Int32 × Int32))} (hf : M_rank_l15 σ x1 x2 x3 x4 = some out) (hk : zout (fun (s : (Int32 × Int32)) => ZAt X Q 0 0 15 σ [(0, .ref (X.ad 171)), (1, .int x1), (2, .int x2), (3, .int s.1), (4, .int s.2)] []) (fun (s : (Int32 × Int32)) => ZAt X Q 0 0 72 σ [(0, .ref (X.ad 171)), (1, .int x1), (2, .int x2), (3, .int s.1)] []) out) : ZAt X Q 0 0 15 σ [(0, .ref (X.ad 171)), (1, .int x1), (2, .int x2), (3, .int x3), (4, .int x4)] [] := by
  unfold M_rank_l15 at hf
  refine z_iload ok dX12_rank_15 4 rfl ?_
  refine z_aload_n ok dX12_rank_17 0 rfl ?_
  refine z_geti ok kc_171 zc_12 hin_12 0 (by decide) fl_12_7 rfl dX12_rank_18 hf (fun v18 hf => ?_)
  refine z_icmp_ge (tgt := 72) ok dX12_rank_21 (by decide) hf (fun _ hf => ?_) (fun _ hf => ?_)
  · obtain rfl := Option.some.inj hf
    exact z_sub [0, 1, 2, 3] rfl hk
  · refine z_iload_n ok dX12_rank_24 3 rfl ?_
    refine z_aload_n ok dX12_rank_25 0 rfl ?_
    refine z_iload ok dX12_rank_26 4 rfl ?_
    refine z_call hf (fun r28 h28 hf => ?_)
    refine z_cV (As := [.int x4]) (rest := [.int x3]) (w := 171) ok kc_171 zc_12 (c_M_farOf h28) rfl ⟨ml_12_342, w_M_farOf⟩ hy_M_farOf ⟨rfl, rfl⟩ ⟨Nat.le_of_ble_eq_true rfl, Nat.le_of_ble_eq_true rfl⟩ ⟨Nat.zero_le _, Nat.zero_le _⟩ rfl (Nat.le_of_ble_eq_true rfl) dX12_rank_28 ?_
    refine z_aload_n ok dX12_rank_31 0 rfl ?_
    refine z_iload_n ok dX12_rank_32 2 rfl ?_
    refine z_call hf (fun r33 h33 hf => ?_)
    refine z_cV (As := [.int x2]) (rest := [.int r28, .int x3]) (w := 171) ok kc_171 zc_12 (c_M_farOf h33) rfl ⟨ml_12_342, w_M_farOf⟩ hy_M_farOf ⟨rfl, rfl⟩ ⟨Nat.le_of_ble_eq_true rfl, Nat.le_of_ble_eq_true rfl⟩ ⟨Nat.zero_le _, Nat.zero_le _⟩ rfl (Nat.le_of_ble_eq_true rfl) dX12_rank_33 ?_
    refine z_icmp_gt (tgt := 59) ok dX12_rank_36 (by decide) hf (fun _ hf => ?_) (fun _ hf => ?_)
    · refine z_iconst (v := 1) ok dX12_rank_59 (by decide) ?_
      refine z_goto (tgt := 64) ok dX12_rank_60 (by decide) ?_
      refine z_iadd ok dX12_rank_64 ?_
      refine z_nm hf (fun v65 hf => ?_)
      refine z_istore_n (lv' := [(3, .int v65), (0, .ref (X.ad 171)), (1, .int x1), (2, .int x2), (4, .int x4)]) ok dX12_rank_65 (by decide) rfl ?_
      refine z_iinc (w := 1) (lv' := fun v66 => [(4, .int v66), (3, .int v65), (0, .ref (X.ad 171)), (1, .int x1), (2, .int x2)]) ok dX12_rank_66 4 rfl (by decide) (by decide) (fun _ => rfl) hf (fun v66 hf => ?_)
      refine z_goto (tgt := 15) ok dX12_rank_69 (by decide) ?_
      obtain rfl := Option.some.inj hf
      exact z_sub [2, 3, 4, 1, 0] rfl hk
    · refine z_aload_n ok dX12_rank_39 0 rfl ?_
      refine z_iload ok dX12_rank_40 4 rfl ?_
      refine z_call hf (fun r42 h42 hf => ?_)
      refine z_cV (As := [.int x4]) (rest := [.int x3]) (w := 171) ok kc_171 zc_12 (c_M_farOf h42) rfl ⟨ml_12_342, w_M_farOf⟩ hy_M_farOf ⟨rfl, rfl⟩ ⟨Nat.le_of_ble_eq_true rfl, Nat.le_of_ble_eq_true rfl⟩ ⟨Nat.zero_le _, Nat.zero_le _⟩ rfl (Nat.le_of_ble_eq_true rfl) dX12_rank_42 ?_
      refine z_aload_n ok dX12_rank_45 0 rfl ?_
      refine z_iload_n ok dX12_rank_46 2 rfl ?_
      refine z_call hf (fun r47 h47 hf => ?_)
      refine z_cV (As := [.int x2]) (rest := [.int r42, .int x3]) (w := 171) ok kc_171 zc_12 (c_M_farOf h47) rfl ⟨ml_12_342, w_M_farOf⟩ hy_M_farOf ⟨rfl, rfl⟩ ⟨Nat.le_of_ble_eq_true rfl, Nat.le_of_ble_eq_true rfl⟩ ⟨Nat.zero_le _, Nat.zero_le _⟩ rfl (Nat.le_of_ble_eq_true rfl) dX12_rank_47 ?_
      refine z_icmp_ne (tgt := 63) ok dX12_rank_50 (by decide) hf (fun _ hf => ?_) (fun _ hf => ?_)
      · refine z_iload ok dX12_rank_53 4 rfl ?_
        refine z_iload_n ok dX12_rank_55 2 rfl ?_
        refine z_icmp_ge (tgt := 63) ok dX12_rank_56 (by decide) hf (fun _ hf => ?_) (fun _ hf => ?_)
        · refine z_iconst (v := 0) ok dX12_rank_63 (by decide) ?_
          refine z_iadd ok dX12_rank_64 ?_
          refine z_nm hf (fun v65 hf => ?_)
          refine z_istore_n (lv' := [(3, .int v65), (0, .ref (X.ad 171)), (1, .int x1), (2, .int x2), (4, .int x4)]) ok dX12_rank_65 (by decide) rfl ?_
          refine z_iinc (w := 1) (lv' := fun v66 => [(4, .int v66), (3, .int v65), (0, .ref (X.ad 171)), (1, .int x1), (2, .int x2)]) ok dX12_rank_66 4 rfl (by decide) (by decide) (fun _ => rfl) hf (fun v66 hf => ?_)
          refine z_goto (tgt := 15) ok dX12_rank_69 (by decide) ?_
          obtain rfl := Option.some.inj hf
          exact z_sub [2, 3, 4, 1, 0] rfl hk
        · refine z_iconst (v := 1) ok dX12_rank_59 (by decide) ?_
          refine z_goto (tgt := 64) ok dX12_rank_60 (by decide) ?_
          refine z_iadd ok dX12_rank_64 ?_
          refine z_nm hf (fun v65 hf => ?_)
          refine z_istore_n (lv' := [(3, .int v65), (0, .ref (X.ad 171)), (1, .int x1), (2, .int x2), (4, .int x4)]) ok dX12_rank_65 (by decide) rfl ?_
          refine z_iinc (w := 1) (lv' := fun v66 => [(4, .int v66), (3, .int v65), (0, .ref (X.ad 171)), (1, .int x1), (2, .int x2)]) ok dX12_rank_66 4 rfl (by decide) (by decide) (fun _ => rfl) hf (fun v66 hf => ?_)
          refine z_goto (tgt := 15) ok dX12_rank_69 (by decide) ?_
          obtain rfl := Option.some.inj hf
          exact z_sub [2, 3, 4, 1, 0] rfl hk
      · refine z_iconst (v := 0) ok dX12_rank_63 (by decide) ?_
        refine z_iadd ok dX12_rank_64 ?_
        refine z_nm hf (fun v65 hf => ?_)
        refine z_istore_n (lv' := [(3, .int v65), (0, .ref (X.ad 171)), (1, .int x1), (2, .int x2), (4, .int x4)]) ok dX12_rank_65 (by decide) rfl ?_
        refine z_iinc (w := 1) (lv' := fun v66 => [(4, .int v66), (3, .int v65), (0, .ref (X.ad 171)), (1, .int x1), (2, .int x2)]) ok dX12_rank_66 4 rfl (by decide) (by decide) (fun _ => rfl) hf (fun v66 hf => ?_)
        refine z_goto (tgt := 15) ok dX12_rank_69 (by decide) ?_
        obtain rfl := Option.some.inj hf
        exact z_sub [2, 3, 4, 1, 0] rfl hk
def M_rank_j2_72 (σ : Sg) (x1 : Int32) (x2 : Int32) (x3 : Int32) : Option (Int32 ⊕ (Int32 ⊕ Int32)) :=
  if x3 = x1 then (
    some (.inr (.inl x2))
  ) else (
    zlt (x2 + 1) fun v79 =>
    some (.inl v79)
  )
set_option maxRecDepth 20000 in
theorem t_M_rank_j2_72 {X : Zx} {Q : State → Prop} {σ : Sg} {x1 : Int32} {x2 : Int32} {x3 : Int32} (ok : Zok X cX12_rank RX12 rm_M_rank 198 5)  {out : (Int32 ⊕ (Int32 ⊕ Int32))} (hf : M_rank_j2_72 σ x1 x2 x3 = some out) (hk : zout (fun (s : Int32) => ZAt X Q 0 0 2 σ [(0, .ref (X.ad 171)), (1, .int x1), (2, .int s)] []) (zout (fun (r : Int32) => ZrI cX12_rank X Q r σ) (fun (s : Int32) => ZAt X Q 0 0 85 σ [] [])) out) : ZAt X Q 0 0 72 σ [(0, .ref (X.ad 171)), (1, .int x1), (2, .int x2), (3, .int x3)] [] := by
  unfold M_rank_j2_72 at hf
  refine z_iload_n ok dX12_rank_72 3 rfl ?_
  refine z_iload_n ok dX12_rank_73 1 rfl ?_
  refine z_icmp_ne (tgt := 79) ok dX12_rank_74 (by decide) hf (fun _ hf => ?_) (fun _ hf => ?_)
  · refine z_iload_n ok dX12_rank_77 2 rfl ?_
    obtain rfl := Option.some.inj hf
    exact hk _ _ dX12_rank_78
  · refine z_iinc (w := 1) (lv' := fun v79 => [(2, .int v79), (0, .ref (X.ad 171)), (1, .int x1), (3, .int x3)]) ok dX12_rank_79 2 rfl (by decide) (by decide) (fun _ => rfl) hf (fun v79 hf => ?_)
    refine z_goto (tgt := 2) ok dX12_rank_82 (by decide) ?_
    obtain rfl := Option.some.inj hf
    exact z_sub [1, 2, 0] rfl hk
def M_rank_l2 (σ : Sg) (x1 : Int32) (x2 : Int32) : Option (Int32 ⊕ (Int32 ⊕ Int32)) :=
  zgt σ 171 0 fun v4 =>
  if v4 ≤ x2 then (
    some (.inr (.inr x2))
  ) else (
    zlt 0 fun v11 =>
    zlt 0 fun v13 =>
    (zit (fun (s : (Int32 × Int32)) => M_rank_l15 σ x1 x2 s.1 s.2) zFU (v11, v13)).bind fun r =>
    M_rank_j2_72 σ x1 x2 r.1
  )
set_option maxRecDepth 20000 in
theorem t_M_rank_l2 {X : Zx} {Q : State → Prop} {σ : Sg} {x1 : Int32} {x2 : Int32} (ok : Zok X cX12_rank RX12 rm_M_rank 198 5)  {out : (Int32 ⊕ (Int32 ⊕ Int32))} (hf : M_rank_l2 σ x1 x2 = some out) (hk : zout (fun (s : Int32) => ZAt X Q 0 0 2 σ [(0, .ref (X.ad 171)), (1, .int x1), (2, .int s)] []) (zout (fun (r : Int32) => ZrI cX12_rank X Q r σ) (fun (s : Int32) => ZAt X Q 0 0 85 σ [] [])) out) : ZAt X Q 0 0 2 σ [(0, .ref (X.ad 171)), (1, .int x1), (2, .int x2)] [] := by
  unfold M_rank_l2 at hf
  refine z_iload_n ok dX12_rank_2 2 rfl ?_
  refine z_aload_n ok dX12_rank_3 0 rfl ?_
  refine z_geti ok kc_171 zc_12 hin_12 0 (by decide) fl_12_7 rfl dX12_rank_4 hf (fun v4 hf => ?_)
  refine z_icmp_ge (tgt := 85) ok dX12_rank_7 (by decide) hf (fun _ hf => ?_) (fun _ hf => ?_)
  · obtain rfl := Option.some.inj hf
    exact z_sub [] rfl hk
  · refine z_iconst (v := 0) ok dX12_rank_10 (by decide) ?_
    refine z_nm hf (fun v11 hf => ?_)
    refine z_istore_n (lv' := [(3, .int v11), (0, .ref (X.ad 171)), (1, .int x1), (2, .int x2)]) ok dX12_rank_11 (by decide) rfl ?_
    refine z_iconst (v := 0) ok dX12_rank_12 (by decide) ?_
    refine z_nm hf (fun v13 hf => ?_)
    refine z_istore (lv' := [(4, .int v13), (3, .int v11), (0, .ref (X.ad 171)), (1, .int x1), (2, .int x2)]) ok dX12_rank_13 (by decide) rfl ?_
    refine z_call hf (fun r hr hf => ?_)
    refine z_sub [2, 3, 4, 1, 0] rfl (z_iter (fun (s : (Int32 × Int32)) => σ) (fun (s : (Int32 × Int32)) => [(0, .ref (X.ad 171)), (1, .int x1), (2, .int x2), (3, .int s.1), (4, .int s.2)]) (fun s o h1 h2 => t_M_rank_l15 ok h1 h2) _ _ _ hr ?_)
    show ZAt X Q 0 0 72 σ [(0, .ref (X.ad 171)), (1, .int x1), (2, .int x2), (3, .int r.1)] []
    exact z_sub [0, 1, 2, 3] rfl (t_M_rank_j2_72 ok hf hk)
def M_rank (σ : Sg) (x1 : Int32) : Option Int32 :=
  zlt 0 fun v1 =>
  (zit (fun (s : Int32) => M_rank_l2 σ x1 s) zFU v1).bind fun r => r.elim (fun r =>
  some r
  ) (fun r =>
  some (-1)
  )
set_option maxRecDepth 20000 in
theorem t_M_rank {X : Zx} {Q : State → Prop} {σ : Sg} {x1 : Int32} (ok : Zok X cX12_rank RX12 rm_M_rank 198 5)  {out : Int32} (hf : M_rank σ x1 = some out) (hk : ZrI cX12_rank X Q out σ) : ZAt X Q 0 0 0 σ [(0, .ref (X.ad 171)), (1, .int x1)] [] := by
  unfold M_rank at hf
  refine z_iconst (v := 0) ok dX12_rank_0 (by decide) ?_
  refine z_nm hf (fun v1 hf => ?_)
  refine z_istore_n (lv' := [(2, .int v1), (0, .ref (X.ad 171)), (1, .int x1)]) ok dX12_rank_1 (by decide) rfl ?_
  refine z_call hf (fun r hr hf => ?_)
  refine z_sub [1, 2, 0] rfl (z_iter (fun (s : Int32) => σ) (fun (s : Int32) => [(0, .ref (X.ad 171)), (1, .int x1), (2, .int s)]) (fun s o h1 h2 => t_M_rank_l2 ok h1 h2) _ _ _ hr ?_)
  cases r with
  | inl r =>
    obtain rfl := Option.some.inj hf
    exact hk
  | inr r =>
    simp only [Sum.elim_inr] at hf
    show ZAt X Q 0 0 85 σ [] []
    refine z_iconst (v := (-1)) ok dX12_rank_85 (by decide) ?_
    obtain rfl := Option.some.inj hf
    exact hk _ _ dX12_rank_86
theorem c_M_rank {σ : Sg} {x1 : Int32} {r : Int32} (h : M_rank σ x1 = some r) : ZcI yX12_rank cX12_rank 5 .int rm_M_rank 198 (fun ad => [.ref (ad 171), .int x1]) σ r σ :=
  zmetI pn_12 rfl (fun _ => rfl) (fun _ => Nat.le_of_ble_eq_true rfl) rfl (fun X Q ok hk => t_M_rank ok h hk)
theorem dX12_alarm_0 : decode cX12_alarm 0 = .ok (.iload_n 1, 1) := by decide +kernel
theorem dX12_alarm_1 : decode cX12_alarm 1 = .ok (.iconst 0, 1) := by decide +kernel
theorem dX12_alarm_2 : decode cX12_alarm 2 = .ok (.aload_n 0, 1) := by decide +kernel
theorem dX12_alarm_3 : decode cX12_alarm 3 = .ok (.getfield 71, 3) := by decide +kernel
theorem dX12_alarm_6 : decode cX12_alarm 6 = .ok (.sipush 205, 3) := by decide +kernel
theorem dX12_alarm_9 : decode cX12_alarm 9 = .ok (.iaload, 1) := by decide +kernel
theorem dX12_alarm_10 : decode cX12_alarm 10 = .ok (.iconst 1, 1) := by decide +kernel
theorem dX12_alarm_11 : decode cX12_alarm 11 = .ok (.isub, 1) := by decide +kernel
theorem dX12_alarm_12 : decode cX12_alarm 12 = .ok (.invokestatic 198, 3) := by decide +kernel
theorem dX12_alarm_15 : decode cX12_alarm 15 = .ok (.ifCond .eq 29, 3) := by decide +kernel
theorem dX12_alarm_18 : decode cX12_alarm 18 = .ok (.iload_n 2, 1) := by decide +kernel
theorem dX12_alarm_19 : decode cX12_alarm 19 = .ok (.iconst 0, 1) := by decide +kernel
theorem dX12_alarm_20 : decode cX12_alarm 20 = .ok (.iconst 2, 1) := by decide +kernel
theorem dX12_alarm_21 : decode cX12_alarm 21 = .ok (.invokestatic 198, 3) := by decide +kernel
theorem dX12_alarm_24 : decode cX12_alarm 24 = .ok (.ifCond .eq 20, 3) := by decide +kernel
theorem dX12_alarm_27 : decode cX12_alarm 27 = .ok (.aload_n 0, 1) := by decide +kernel
theorem dX12_alarm_28 : decode cX12_alarm 28 = .ok (.getfield 71, 3) := by decide +kernel
theorem dX12_alarm_31 : decode cX12_alarm 31 = .ok (.sipush 207, 3) := by decide +kernel
theorem dX12_alarm_34 : decode cX12_alarm 34 = .ok (.iconst 3, 1) := by decide +kernel
theorem dX12_alarm_35 : decode cX12_alarm 35 = .ok (.iload_n 1, 1) := by decide +kernel
theorem dX12_alarm_36 : decode cX12_alarm 36 = .ok (.imul, 1) := by decide +kernel
theorem dX12_alarm_37 : decode cX12_alarm 37 = .ok (.iadd, 1) := by decide +kernel
theorem dX12_alarm_38 : decode cX12_alarm 38 = .ok (.iload_n 2, 1) := by decide +kernel
theorem dX12_alarm_39 : decode cX12_alarm 39 = .ok (.iadd, 1) := by decide +kernel
theorem dX12_alarm_40 : decode cX12_alarm 40 = .ok (.iaload, 1) := by decide +kernel
theorem dX12_alarm_41 : decode cX12_alarm 41 = .ok (.goto 4, 3) := by decide +kernel
theorem dX12_alarm_44 : decode cX12_alarm 44 = .ok (.iconst (-1), 1) := by decide +kernel
theorem dX12_alarm_45 : decode cX12_alarm 45 = .ok (.ireturn, 1) := by decide +kernel
abbrev rm_M_alarm : Room := { frames := 1, cells := 0, slots := 0, locals := 22 }
def M_alarm (σ : Sg) (x1 : Int32) (x2 : Int32) : Option Int32 :=
  zrd σ 183 1607 205 fun v9 =>
  (M_isIn x1 0 (v9 - 1)).bind fun r12 =>
  if (zb r12) = 0 then (
    some (-1)
  ) else (
    (M_isIn x2 0 2).bind fun r21 =>
    if (zb r21) = 0 then (
      some (-1)
    ) else (
      zrd σ 183 1607 ((207 + (3 * x1)) + x2) fun v40 =>
      some v40
    )
  )
set_option maxRecDepth 20000 in
theorem t_M_alarm {X : Zx} {Q : State → Prop} {σ : Sg} {x1 : Int32} {x2 : Int32} (ok : Zok X cX12_alarm RX12 rm_M_alarm 198 3)  {out : Int32} (hf : M_alarm σ x1 x2 = some out) (hk : ZrI cX12_alarm X Q out σ) : ZAt X Q 0 0 0 σ [(0, .ref (X.ad 171)), (1, .int x1), (2, .int x2)] [] := by
  unfold M_alarm at hf
  refine z_iload_n ok dX12_alarm_0 1 rfl ?_
  refine z_iconst (v := 0) ok dX12_alarm_1 (by decide) ?_
  refine z_aload_n ok dX12_alarm_2 0 rfl ?_
  refine z_getr (q := 183) ok kc_171 zc_12 hin_12 20 (by decide) fl_12_71 rfl dX12_alarm_3 ?_
  refine z_sipush (v := 205) ok dX12_alarm_6 (by decide) ?_
  refine z_iald ok kc_183 dX12_alarm_9 hf (fun v9 hf => ?_)
  refine z_iconst (v := 1) ok dX12_alarm_10 (by decide) ?_
  refine z_isub ok dX12_alarm_11 ?_
  refine z_call hf (fun r12 h12 hf => ?_)
  refine z_cS (As := [.int x1, .int 0, .int (v9 - 1)]) (rest := []) ok (c_M_isIn h12) rfl ⟨ml_12_198, w_M_isIn⟩ hy_M_isIn ⟨rfl, rfl⟩ ⟨Nat.le_of_ble_eq_true rfl, Nat.le_of_ble_eq_true rfl⟩ ⟨Nat.zero_le _, Nat.zero_le _⟩ rfl (Nat.le_of_ble_eq_true rfl) dX12_alarm_12 ?_
  refine z_if_eq (tgt := 44) ok dX12_alarm_15 (by decide) hf (fun _ hf => ?_) (fun _ hf => ?_)
  · refine z_iconst (v := (-1)) ok dX12_alarm_44 (by decide) ?_
    obtain rfl := Option.some.inj hf
    exact hk _ _ dX12_alarm_45
  · refine z_iload_n ok dX12_alarm_18 2 rfl ?_
    refine z_iconst (v := 0) ok dX12_alarm_19 (by decide) ?_
    refine z_iconst (v := 2) ok dX12_alarm_20 (by decide) ?_
    refine z_call hf (fun r21 h21 hf => ?_)
    refine z_cS (As := [.int x2, .int 0, .int 2]) (rest := []) ok (c_M_isIn h21) rfl ⟨ml_12_198, w_M_isIn⟩ hy_M_isIn ⟨rfl, rfl⟩ ⟨Nat.le_of_ble_eq_true rfl, Nat.le_of_ble_eq_true rfl⟩ ⟨Nat.zero_le _, Nat.zero_le _⟩ rfl (Nat.le_of_ble_eq_true rfl) dX12_alarm_21 ?_
    refine z_if_eq (tgt := 44) ok dX12_alarm_24 (by decide) hf (fun _ hf => ?_) (fun _ hf => ?_)
    · refine z_iconst (v := (-1)) ok dX12_alarm_44 (by decide) ?_
      obtain rfl := Option.some.inj hf
      exact hk _ _ dX12_alarm_45
    · refine z_aload_n ok dX12_alarm_27 0 rfl ?_
      refine z_getr (q := 183) ok kc_171 zc_12 hin_12 20 (by decide) fl_12_71 rfl dX12_alarm_28 ?_
      refine z_sipush (v := 207) ok dX12_alarm_31 (by decide) ?_
      refine z_iconst (v := 3) ok dX12_alarm_34 (by decide) ?_
      refine z_iload_n ok dX12_alarm_35 1 rfl ?_
      refine z_imul ok dX12_alarm_36 ?_
      refine z_iadd ok dX12_alarm_37 ?_
      refine z_iload_n ok dX12_alarm_38 2 rfl ?_
      refine z_iadd ok dX12_alarm_39 ?_
      refine z_iald ok kc_183 dX12_alarm_40 hf (fun v40 hf => ?_)
      refine z_goto (tgt := 45) ok dX12_alarm_41 (by decide) ?_
      obtain rfl := Option.some.inj hf
      exact hk _ _ dX12_alarm_45
theorem c_M_alarm {σ : Sg} {x1 : Int32} {x2 : Int32} {r : Int32} (h : M_alarm σ x1 x2 = some r) : ZcI yX12_alarm cX12_alarm 3 .int rm_M_alarm 198 (fun ad => [.ref (ad 171), .int x1, .int x2]) σ r σ :=
  zmetI pn_12 rfl (fun _ => rfl) (fun _ => Nat.le_of_ble_eq_true rfl) rfl (fun X Q ok hk => t_M_alarm ok h hk)
theorem dX12_alarms_0 : decode cX12_alarms 0 = .ok (.iload_n 1, 1) := by decide +kernel
theorem dX12_alarms_1 : decode cX12_alarms 1 = .ok (.iconst (-1), 1) := by decide +kernel
theorem dX12_alarms_2 : decode cX12_alarms 2 = .ok (.if_icmp .eq 11, 3) := by decide +kernel
theorem dX12_alarms_5 : decode cX12_alarms 5 = .ok (.aload_n 0, 1) := by decide +kernel
theorem dX12_alarms_6 : decode cX12_alarms 6 = .ok (.iload_n 1, 1) := by decide +kernel
theorem dX12_alarms_7 : decode cX12_alarms 7 = .ok (.invokevirtual 321, 3) := by decide +kernel
theorem dX12_alarms_10 : decode cX12_alarms 10 = .ok (.ifCond .eq 13, 3) := by decide +kernel
theorem dX12_alarms_13 : decode cX12_alarms 13 = .ok (.iload_n 2, 1) := by decide +kernel
theorem dX12_alarms_14 : decode cX12_alarms 14 = .ok (.iconst 1, 1) := by decide +kernel
theorem dX12_alarms_15 : decode cX12_alarms 15 = .ok (.bipush 8, 2) := by decide +kernel
theorem dX12_alarms_17 : decode cX12_alarms 17 = .ok (.invokestatic 198, 3) := by decide +kernel
theorem dX12_alarms_20 : decode cX12_alarms 20 = .ok (.ifCond .ne 5, 3) := by decide +kernel
theorem dX12_alarms_23 : decode cX12_alarms 23 = .ok (.iconst (-1), 1) := by decide +kernel
theorem dX12_alarms_24 : decode cX12_alarms 24 = .ok (.ireturn, 1) := by decide +kernel
theorem dX12_alarms_25 : decode cX12_alarms 25 = .ok (.iconst 0, 1) := by decide +kernel
theorem dX12_alarms_26 : decode cX12_alarms 26 = .ok (.istore_n 3, 1) := by decide +kernel
theorem dX12_alarms_27 : decode cX12_alarms 27 = .ok (.iconst 0, 1) := by decide +kernel
theorem dX12_alarms_28 : decode cX12_alarms 28 = .ok (.istore 4, 2) := by decide +kernel
theorem dX12_alarms_30 : decode cX12_alarms 30 = .ok (.iload 4, 2) := by decide +kernel
theorem dX12_alarms_32 : decode cX12_alarms 32 = .ok (.aload_n 0, 1) := by decide +kernel
theorem dX12_alarms_33 : decode cX12_alarms 33 = .ok (.getfield 71, 3) := by decide +kernel
theorem dX12_alarms_36 : decode cX12_alarms 36 = .ok (.sipush 205, 3) := by decide +kernel
theorem dX12_alarms_39 : decode cX12_alarms 39 = .ok (.iaload, 1) := by decide +kernel
theorem dX12_alarms_40 : decode cX12_alarms 40 = .ok (.if_icmp .ge 60, 3) := by decide +kernel
theorem dX12_alarms_43 : decode cX12_alarms 43 = .ok (.iload_n 3, 1) := by decide +kernel
theorem dX12_alarms_44 : decode cX12_alarms 44 = .ok (.iload_n 1, 1) := by decide +kernel
theorem dX12_alarms_45 : decode cX12_alarms 45 = .ok (.iconst (-1), 1) := by decide +kernel
theorem dX12_alarms_46 : decode cX12_alarms 46 = .ok (.if_icmp .eq 22, 3) := by decide +kernel
theorem dX12_alarms_49 : decode cX12_alarms 49 = .ok (.aload_n 0, 1) := by decide +kernel
theorem dX12_alarms_50 : decode cX12_alarms 50 = .ok (.getfield 71, 3) := by decide +kernel
theorem dX12_alarms_53 : decode cX12_alarms 53 = .ok (.sipush 207, 3) := by decide +kernel
theorem dX12_alarms_56 : decode cX12_alarms 56 = .ok (.iconst 3, 1) := by decide +kernel
theorem dX12_alarms_57 : decode cX12_alarms 57 = .ok (.iload 4, 2) := by decide +kernel
theorem dX12_alarms_59 : decode cX12_alarms 59 = .ok (.imul, 1) := by decide +kernel
theorem dX12_alarms_60 : decode cX12_alarms 60 = .ok (.iadd, 1) := by decide +kernel
theorem dX12_alarms_61 : decode cX12_alarms 61 = .ok (.iconst 1, 1) := by decide +kernel
theorem dX12_alarms_62 : decode cX12_alarms 62 = .ok (.iadd, 1) := by decide +kernel
theorem dX12_alarms_63 : decode cX12_alarms 63 = .ok (.iaload, 1) := by decide +kernel
theorem dX12_alarms_64 : decode cX12_alarms 64 = .ok (.iload_n 1, 1) := by decide +kernel
theorem dX12_alarms_65 : decode cX12_alarms 65 = .ok (.if_icmp .ne 26, 3) := by decide +kernel
theorem dX12_alarms_68 : decode cX12_alarms 68 = .ok (.aload_n 0, 1) := by decide +kernel
theorem dX12_alarms_69 : decode cX12_alarms 69 = .ok (.getfield 71, 3) := by decide +kernel
theorem dX12_alarms_72 : decode cX12_alarms 72 = .ok (.sipush 207, 3) := by decide +kernel
theorem dX12_alarms_75 : decode cX12_alarms 75 = .ok (.iconst 3, 1) := by decide +kernel
theorem dX12_alarms_76 : decode cX12_alarms 76 = .ok (.iload 4, 2) := by decide +kernel
theorem dX12_alarms_78 : decode cX12_alarms 78 = .ok (.imul, 1) := by decide +kernel
theorem dX12_alarms_79 : decode cX12_alarms 79 = .ok (.iadd, 1) := by decide +kernel
theorem dX12_alarms_80 : decode cX12_alarms 80 = .ok (.iconst 2, 1) := by decide +kernel
theorem dX12_alarms_81 : decode cX12_alarms 81 = .ok (.iadd, 1) := by decide +kernel
theorem dX12_alarms_82 : decode cX12_alarms 82 = .ok (.iaload, 1) := by decide +kernel
theorem dX12_alarms_83 : decode cX12_alarms 83 = .ok (.iload_n 2, 1) := by decide +kernel
theorem dX12_alarms_84 : decode cX12_alarms 84 = .ok (.if_icmp .ne 7, 3) := by decide +kernel
theorem dX12_alarms_87 : decode cX12_alarms 87 = .ok (.iconst 1, 1) := by decide +kernel
theorem dX12_alarms_88 : decode cX12_alarms 88 = .ok (.goto 4, 3) := by decide +kernel
theorem dX12_alarms_91 : decode cX12_alarms 91 = .ok (.iconst 0, 1) := by decide +kernel
theorem dX12_alarms_92 : decode cX12_alarms 92 = .ok (.iadd, 1) := by decide +kernel
theorem dX12_alarms_93 : decode cX12_alarms 93 = .ok (.istore_n 3, 1) := by decide +kernel
theorem dX12_alarms_94 : decode cX12_alarms 94 = .ok (.iinc 4 1, 3) := by decide +kernel
theorem dX12_alarms_97 : decode cX12_alarms 97 = .ok (.goto (-67), 3) := by decide +kernel
theorem dX12_alarms_100 : decode cX12_alarms 100 = .ok (.iload_n 3, 1) := by decide +kernel
theorem dX12_alarms_101 : decode cX12_alarms 101 = .ok (.ireturn, 1) := by decide +kernel
abbrev rm_M_alarms : Room := { frames := 2, cells := 0, slots := 0, locals := 43 }
def M_alarms_j30_68 (σ : Sg) (x1 : Int32) (x2 : Int32) (x4 : Int32) (s0 : Int32) : Option ((Int32 × Int32) ⊕ (Int32 × Int32)) :=
  zrd σ 183 1607 ((207 + (3 * x4)) + 2) fun v82 =>
  if v82 = x2 then (
    zlt (s0 + 1) fun v93 =>
    zlt (x4 + 1) fun v94 =>
    some (.inl (v93, v94))
  ) else (
    zlt (s0 + 0) fun v93 =>
    zlt (x4 + 1) fun v94 =>
    some (.inl (v93, v94))
  )
set_option maxRecDepth 20000 in
theorem t_M_alarms_j30_68 {X : Zx} {Q : State → Prop} {σ : Sg} {x1 : Int32} {x2 : Int32} {x4 : Int32} {s0 : Int32} (ok : Zok X cX12_alarms RX12 rm_M_alarms 198 5)  {out : ((Int32 × Int32) ⊕ (Int32 × Int32))} (hf : M_alarms_j30_68 σ x1 x2 x4 s0 = some out) (hk : zout (fun (s : (Int32 × Int32)) => ZAt X Q 0 0 30 σ [(0, .ref (X.ad 171)), (1, .int x1), (2, .int x2), (3, .int s.1), (4, .int s.2)] []) (fun (s : (Int32 × Int32)) => ZAt X Q 0 0 100 σ [(3, .int s.1)] []) out) : ZAt X Q 0 0 68 σ [(0, .ref (X.ad 171)), (1, .int x1), (2, .int x2), (4, .int x4)] [.int s0] := by
  unfold M_alarms_j30_68 at hf
  refine z_aload_n ok dX12_alarms_68 0 rfl ?_
  refine z_getr (q := 183) ok kc_171 zc_12 hin_12 20 (by decide) fl_12_71 rfl dX12_alarms_69 ?_
  refine z_sipush (v := 207) ok dX12_alarms_72 (by decide) ?_
  refine z_iconst (v := 3) ok dX12_alarms_75 (by decide) ?_
  refine z_iload ok dX12_alarms_76 3 rfl ?_
  refine z_imul ok dX12_alarms_78 ?_
  refine z_iadd ok dX12_alarms_79 ?_
  refine z_iconst (v := 2) ok dX12_alarms_80 (by decide) ?_
  refine z_iadd ok dX12_alarms_81 ?_
  refine z_iald ok kc_183 dX12_alarms_82 hf (fun v82 hf => ?_)
  refine z_iload_n ok dX12_alarms_83 2 rfl ?_
  refine z_icmp_ne (tgt := 91) ok dX12_alarms_84 (by decide) hf (fun _ hf => ?_) (fun _ hf => ?_)
  · refine z_iconst (v := 1) ok dX12_alarms_87 (by decide) ?_
    refine z_goto (tgt := 92) ok dX12_alarms_88 (by decide) ?_
    refine z_iadd ok dX12_alarms_92 ?_
    refine z_nm hf (fun v93 hf => ?_)
    refine z_istore_n (lv' := [(3, .int v93), (0, .ref (X.ad 171)), (1, .int x1), (2, .int x2), (4, .int x4)]) ok dX12_alarms_93 (by decide) rfl ?_
    refine z_iinc (w := 1) (lv' := fun v94 => [(4, .int v94), (3, .int v93), (0, .ref (X.ad 171)), (1, .int x1), (2, .int x2)]) ok dX12_alarms_94 4 rfl (by decide) (by decide) (fun _ => rfl) hf (fun v94 hf => ?_)
    refine z_goto (tgt := 30) ok dX12_alarms_97 (by decide) ?_
    obtain rfl := Option.some.inj hf
    exact z_sub [2, 3, 4, 1, 0] rfl hk
  · refine z_iconst (v := 0) ok dX12_alarms_91 (by decide) ?_
    refine z_iadd ok dX12_alarms_92 ?_
    refine z_nm hf (fun v93 hf => ?_)
    refine z_istore_n (lv' := [(3, .int v93), (0, .ref (X.ad 171)), (1, .int x1), (2, .int x2), (4, .int x4)]) ok dX12_alarms_93 (by decide) rfl ?_
    refine z_iinc (w := 1) (lv' := fun v94 => [(4, .int v94), (3, .int v93), (0, .ref (X.ad 171)), (1, .int x1), (2, .int x2)]) ok dX12_alarms_94 4 rfl (by decide) (by decide) (fun _ => rfl) hf (fun v94 hf => ?_)
    refine z_goto (tgt := 30) ok dX12_alarms_97 (by decide) ?_
    obtain rfl := Option.some.inj hf
    exact z_sub [2, 3, 4, 1, 0] rfl hk
def M_alarms_l30 (σ : Sg) (x1 : Int32) (x2 : Int32) (x3 : Int32) (x4 : Int32) : Option ((Int32 × Int32) ⊕ (Int32 × Int32)) :=
  zrd σ 183 1607 205 fun v39 =>
  if v39 ≤ x4 then (
    some (.inr (x3, x4))
  ) else (
    if x1 = (-1) then (
      M_alarms_j30_68 σ x1 x2 x4 x3
    ) else (
      zrd σ 183 1607 ((207 + (3 * x4)) + 1) fun v63 =>
      if v63 = x1 then (
        M_alarms_j30_68 σ x1 x2 x4 x3
      ) else (
        zlt (x3 + 0) fun v93 =>
        zlt (x4 + 1) fun v94 =>
        some (.inl (v93, v94))
      )
    )
  )
set_option maxRecDepth 20000 in
theorem t_M_alarms_l30 {X : Zx} {Q : State → Prop} {σ : Sg} {x1 : Int32} {x2 : Int32} {x3 : Int32} {x4 : Int32} (ok : Zok X cX12_alarms RX12 rm_M_alarms 198 5)  {out : ((Int32 × Int32) ⊕ (Int32 × Int32))} (hf : M_alarms_l30 σ x1 x2 x3 x4 = some out) (hk : zout (fun (s : (Int32 × Int32)) => ZAt X Q 0 0 30 σ [(0, .ref (X.ad 171)), (1, .int x1), (2, .int x2), (3, .int s.1), (4, .int s.2)] []) (fun (s : (Int32 × Int32)) => ZAt X Q 0 0 100 σ [(3, .int s.1)] []) out) : ZAt X Q 0 0 30 σ [(0, .ref (X.ad 171)), (1, .int x1), (2, .int x2), (3, .int x3), (4, .int x4)] [] := by
  unfold M_alarms_l30 at hf
  refine z_iload ok dX12_alarms_30 4 rfl ?_
  refine z_aload_n ok dX12_alarms_32 0 rfl ?_
  refine z_getr (q := 183) ok kc_171 zc_12 hin_12 20 (by decide) fl_12_71 rfl dX12_alarms_33 ?_
  refine z_sipush (v := 205) ok dX12_alarms_36 (by decide) ?_
  refine z_iald ok kc_183 dX12_alarms_39 hf (fun v39 hf => ?_)
  refine z_icmp_ge (tgt := 100) ok dX12_alarms_40 (by decide) hf (fun _ hf => ?_) (fun _ hf => ?_)
  · obtain rfl := Option.some.inj hf
    exact z_sub [3] rfl hk
  · refine z_iload_n ok dX12_alarms_43 3 rfl ?_
    refine z_iload_n ok dX12_alarms_44 1 rfl ?_
    refine z_iconst (v := (-1)) ok dX12_alarms_45 (by decide) ?_
    refine z_icmp_eq (tgt := 68) ok dX12_alarms_46 (by decide) hf (fun _ hf => ?_) (fun _ hf => ?_)
    · exact z_sub [0, 1, 2, 4] rfl (t_M_alarms_j30_68 ok hf hk)
    · refine z_aload_n ok dX12_alarms_49 0 rfl ?_
      refine z_getr (q := 183) ok kc_171 zc_12 hin_12 20 (by decide) fl_12_71 rfl dX12_alarms_50 ?_
      refine z_sipush (v := 207) ok dX12_alarms_53 (by decide) ?_
      refine z_iconst (v := 3) ok dX12_alarms_56 (by decide) ?_
      refine z_iload ok dX12_alarms_57 4 rfl ?_
      refine z_imul ok dX12_alarms_59 ?_
      refine z_iadd ok dX12_alarms_60 ?_
      refine z_iconst (v := 1) ok dX12_alarms_61 (by decide) ?_
      refine z_iadd ok dX12_alarms_62 ?_
      refine z_iald ok kc_183 dX12_alarms_63 hf (fun v63 hf => ?_)
      refine z_iload_n ok dX12_alarms_64 1 rfl ?_
      refine z_icmp_ne (tgt := 91) ok dX12_alarms_65 (by decide) hf (fun _ hf => ?_) (fun _ hf => ?_)
      · exact z_sub [0, 1, 2, 4] rfl (t_M_alarms_j30_68 ok hf hk)
      · refine z_iconst (v := 0) ok dX12_alarms_91 (by decide) ?_
        refine z_iadd ok dX12_alarms_92 ?_
        refine z_nm hf (fun v93 hf => ?_)
        refine z_istore_n (lv' := [(3, .int v93), (0, .ref (X.ad 171)), (1, .int x1), (2, .int x2), (4, .int x4)]) ok dX12_alarms_93 (by decide) rfl ?_
        refine z_iinc (w := 1) (lv' := fun v94 => [(4, .int v94), (3, .int v93), (0, .ref (X.ad 171)), (1, .int x1), (2, .int x2)]) ok dX12_alarms_94 4 rfl (by decide) (by decide) (fun _ => rfl) hf (fun v94 hf => ?_)
        refine z_goto (tgt := 30) ok dX12_alarms_97 (by decide) ?_
        obtain rfl := Option.some.inj hf
        exact z_sub [2, 3, 4, 1, 0] rfl hk
def M_alarms_j13 (σ : Sg) (x1 : Int32) (x2 : Int32) : Option Int32 :=
  (M_isIn x2 1 8).bind fun r17 =>
  if (zb r17) = 0 then (
    some (-1)
  ) else (
    zlt 0 fun v26 =>
    zlt 0 fun v28 =>
    (zit (fun (s : (Int32 × Int32)) => M_alarms_l30 σ x1 x2 s.1 s.2) zFU (v26, v28)).bind fun r =>
    some r.1
  )
set_option maxRecDepth 20000 in
theorem t_M_alarms_j13 {X : Zx} {Q : State → Prop} {σ : Sg} {x1 : Int32} {x2 : Int32} (ok : Zok X cX12_alarms RX12 rm_M_alarms 198 5)  {out : Int32} (hf : M_alarms_j13 σ x1 x2 = some out) (hk : ZrI cX12_alarms X Q out σ) : ZAt X Q 0 0 13 σ [(0, .ref (X.ad 171)), (1, .int x1), (2, .int x2)] [] := by
  unfold M_alarms_j13 at hf
  refine z_iload_n ok dX12_alarms_13 2 rfl ?_
  refine z_iconst (v := 1) ok dX12_alarms_14 (by decide) ?_
  refine z_bipush (v := 8) ok dX12_alarms_15 (by decide) ?_
  refine z_call hf (fun r17 h17 hf => ?_)
  refine z_cS (As := [.int x2, .int 1, .int 8]) (rest := []) ok (c_M_isIn h17) rfl ⟨ml_12_198, w_M_isIn⟩ hy_M_isIn ⟨rfl, rfl⟩ ⟨Nat.le_of_ble_eq_true rfl, Nat.le_of_ble_eq_true rfl⟩ ⟨Nat.zero_le _, Nat.zero_le _⟩ rfl (Nat.le_of_ble_eq_true rfl) dX12_alarms_17 ?_
  refine z_if_ne (tgt := 25) ok dX12_alarms_20 (by decide) hf (fun _ hf => ?_) (fun _ hf => ?_)
  · refine z_iconst (v := (-1)) ok dX12_alarms_23 (by decide) ?_
    obtain rfl := Option.some.inj hf
    exact hk _ _ dX12_alarms_24
  · refine z_iconst (v := 0) ok dX12_alarms_25 (by decide) ?_
    refine z_nm hf (fun v26 hf => ?_)
    refine z_istore_n (lv' := [(3, .int v26), (0, .ref (X.ad 171)), (1, .int x1), (2, .int x2)]) ok dX12_alarms_26 (by decide) rfl ?_
    refine z_iconst (v := 0) ok dX12_alarms_27 (by decide) ?_
    refine z_nm hf (fun v28 hf => ?_)
    refine z_istore (lv' := [(4, .int v28), (3, .int v26), (0, .ref (X.ad 171)), (1, .int x1), (2, .int x2)]) ok dX12_alarms_28 (by decide) rfl ?_
    refine z_call hf (fun r hr hf => ?_)
    refine z_sub [2, 3, 4, 1, 0] rfl (z_iter (fun (s : (Int32 × Int32)) => σ) (fun (s : (Int32 × Int32)) => [(0, .ref (X.ad 171)), (1, .int x1), (2, .int x2), (3, .int s.1), (4, .int s.2)]) (fun s o h1 h2 => t_M_alarms_l30 ok h1 h2) _ _ _ hr ?_)
    show ZAt X Q 0 0 100 σ [(3, .int r.1)] []
    refine z_iload_n ok dX12_alarms_100 0 rfl ?_
    obtain rfl := Option.some.inj hf
    exact hk _ _ dX12_alarms_101
def M_alarms (σ : Sg) (x1 : Int32) (x2 : Int32) : Option Int32 :=
  if x1 = (-1) then (
    M_alarms_j13 σ x1 x2
  ) else (
    (M_isPool σ x1).bind fun r7 =>
    if (zb r7) = 0 then (
      some (-1)
    ) else (
      M_alarms_j13 σ x1 x2
    )
  )
set_option maxRecDepth 20000 in
theorem t_M_alarms {X : Zx} {Q : State → Prop} {σ : Sg} {x1 : Int32} {x2 : Int32} (ok : Zok X cX12_alarms RX12 rm_M_alarms 198 5)  {out : Int32} (hf : M_alarms σ x1 x2 = some out) (hk : ZrI cX12_alarms X Q out σ) : ZAt X Q 0 0 0 σ [(0, .ref (X.ad 171)), (1, .int x1), (2, .int x2)] [] := by
  unfold M_alarms at hf
  refine z_iload_n ok dX12_alarms_0 1 rfl ?_
  refine z_iconst (v := (-1)) ok dX12_alarms_1 (by decide) ?_
  refine z_icmp_eq (tgt := 13) ok dX12_alarms_2 (by decide) hf (fun _ hf => ?_) (fun _ hf => ?_)
  · exact z_sub [0, 1, 2] rfl (t_M_alarms_j13 ok hf hk)
  · refine z_aload_n ok dX12_alarms_5 0 rfl ?_
    refine z_iload_n ok dX12_alarms_6 1 rfl ?_
    refine z_call hf (fun r7 h7 hf => ?_)
    refine z_cV (As := [.int x1]) (rest := []) (w := 171) ok kc_171 zc_12 (c_M_isPool h7) rfl ⟨ml_12_321, w_M_isPool⟩ hy_M_isPool ⟨rfl, rfl⟩ ⟨Nat.le_of_ble_eq_true rfl, Nat.le_of_ble_eq_true rfl⟩ ⟨Nat.zero_le _, Nat.zero_le _⟩ rfl (Nat.le_of_ble_eq_true rfl) dX12_alarms_7 ?_
    refine z_if_eq (tgt := 23) ok dX12_alarms_10 (by decide) hf (fun _ hf => ?_) (fun _ hf => ?_)
    · refine z_iconst (v := (-1)) ok dX12_alarms_23 (by decide) ?_
      obtain rfl := Option.some.inj hf
      exact hk _ _ dX12_alarms_24
    · exact z_sub [0, 1, 2] rfl (t_M_alarms_j13 ok hf hk)
theorem c_M_alarms {σ : Sg} {x1 : Int32} {x2 : Int32} {r : Int32} (h : M_alarms σ x1 x2 = some r) : ZcI yX12_alarms cX12_alarms 5 .int rm_M_alarms 198 (fun ad => [.ref (ad 171), .int x1, .int x2]) σ r σ :=
  zmetI pn_12 rfl (fun _ => rfl) (fun _ => Nat.le_of_ble_eq_true rfl) rfl (fun X Q ok hk => t_M_alarms ok h hk)
theorem dX12_flow_0 : decode cX12_flow 0 = .ok (.aload_n 0, 1) := by decide +kernel
theorem dX12_flow_1 : decode cX12_flow 1 = .ok (.iload_n 1, 1) := by decide +kernel
theorem dX12_flow_2 : decode cX12_flow 2 = .ok (.invokevirtual 321, 3) := by decide +kernel
theorem dX12_flow_5 : decode cX12_flow 5 = .ok (.ifCond .eq 52, 3) := by decide +kernel
theorem dX12_flow_8 : decode cX12_flow 8 = .ok (.iload_n 2, 1) := by decide +kernel
theorem dX12_flow_9 : decode cX12_flow 9 = .ok (.iconst 1, 1) := by decide +kernel
theorem dX12_flow_10 : decode cX12_flow 10 = .ok (.aload_n 0, 1) := by decide +kernel
theorem dX12_flow_11 : decode cX12_flow 11 = .ok (.getfield 71, 3) := by decide +kernel
theorem dX12_flow_14 : decode cX12_flow 14 = .ok (.sipush 206, 3) := by decide +kernel
theorem dX12_flow_17 : decode cX12_flow 17 = .ok (.iaload, 1) := by decide +kernel
theorem dX12_flow_18 : decode cX12_flow 18 = .ok (.invokestatic 198, 3) := by decide +kernel
theorem dX12_flow_21 : decode cX12_flow 21 = .ok (.ifCond .eq 36, 3) := by decide +kernel
theorem dX12_flow_24 : decode cX12_flow 24 = .ok (.iload_n 3, 1) := by decide +kernel
theorem dX12_flow_25 : decode cX12_flow 25 = .ok (.iconst 0, 1) := by decide +kernel
theorem dX12_flow_26 : decode cX12_flow 26 = .ok (.iconst 3, 1) := by decide +kernel
theorem dX12_flow_27 : decode cX12_flow 27 = .ok (.invokestatic 198, 3) := by decide +kernel
theorem dX12_flow_30 : decode cX12_flow 30 = .ok (.ifCond .eq 27, 3) := by decide +kernel
theorem dX12_flow_33 : decode cX12_flow 33 = .ok (.aload_n 0, 1) := by decide +kernel
theorem dX12_flow_34 : decode cX12_flow 34 = .ok (.getfield 71, 3) := by decide +kernel
theorem dX12_flow_37 : decode cX12_flow 37 = .ok (.sipush 327, 3) := by decide +kernel
theorem dX12_flow_40 : decode cX12_flow 40 = .ok (.bipush 32, 2) := by decide +kernel
theorem dX12_flow_42 : decode cX12_flow 42 = .ok (.iload_n 2, 1) := by decide +kernel
theorem dX12_flow_43 : decode cX12_flow 43 = .ok (.iconst 1, 1) := by decide +kernel
theorem dX12_flow_44 : decode cX12_flow 44 = .ok (.isub, 1) := by decide +kernel
theorem dX12_flow_45 : decode cX12_flow 45 = .ok (.imul, 1) := by decide +kernel
theorem dX12_flow_46 : decode cX12_flow 46 = .ok (.iadd, 1) := by decide +kernel
theorem dX12_flow_47 : decode cX12_flow 47 = .ok (.iconst 4, 1) := by decide +kernel
theorem dX12_flow_48 : decode cX12_flow 48 = .ok (.iload_n 1, 1) := by decide +kernel
theorem dX12_flow_49 : decode cX12_flow 49 = .ok (.imul, 1) := by decide +kernel
theorem dX12_flow_50 : decode cX12_flow 50 = .ok (.iadd, 1) := by decide +kernel
theorem dX12_flow_51 : decode cX12_flow 51 = .ok (.iload_n 3, 1) := by decide +kernel
theorem dX12_flow_52 : decode cX12_flow 52 = .ok (.iadd, 1) := by decide +kernel
theorem dX12_flow_53 : decode cX12_flow 53 = .ok (.iaload, 1) := by decide +kernel
theorem dX12_flow_54 : decode cX12_flow 54 = .ok (.goto 4, 3) := by decide +kernel
theorem dX12_flow_57 : decode cX12_flow 57 = .ok (.iconst (-1), 1) := by decide +kernel
theorem dX12_flow_58 : decode cX12_flow 58 = .ok (.ireturn, 1) := by decide +kernel
abbrev rm_M_flow : Room := { frames := 2, cells := 0, slots := 0, locals := 43 }
def M_flow (σ : Sg) (x1 : Int32) (x2 : Int32) (x3 : Int32) : Option Int32 :=
  (M_isPool σ x1).bind fun r2 =>
  if (zb r2) = 0 then (
    some (-1)
  ) else (
    zrd σ 183 1607 206 fun v17 =>
    (M_isIn x2 1 v17).bind fun r18 =>
    if (zb r18) = 0 then (
      some (-1)
    ) else (
      (M_isIn x3 0 3).bind fun r27 =>
      if (zb r27) = 0 then (
        some (-1)
      ) else (
        zrd σ 183 1607 (((327 + (32 * (x2 - 1))) + (4 * x1)) + x3) fun v53 =>
        some v53
      )
    )
  )
set_option maxRecDepth 20000 in
theorem t_M_flow {X : Zx} {Q : State → Prop} {σ : Sg} {x1 : Int32} {x2 : Int32} {x3 : Int32} (ok : Zok X cX12_flow RX12 rm_M_flow 198 4)  {out : Int32} (hf : M_flow σ x1 x2 x3 = some out) (hk : ZrI cX12_flow X Q out σ) : ZAt X Q 0 0 0 σ [(0, .ref (X.ad 171)), (1, .int x1), (2, .int x2), (3, .int x3)] [] := by
  unfold M_flow at hf
  refine z_aload_n ok dX12_flow_0 0 rfl ?_
  refine z_iload_n ok dX12_flow_1 1 rfl ?_
  refine z_call hf (fun r2 h2 hf => ?_)
  refine z_cV (As := [.int x1]) (rest := []) (w := 171) ok kc_171 zc_12 (c_M_isPool h2) rfl ⟨ml_12_321, w_M_isPool⟩ hy_M_isPool ⟨rfl, rfl⟩ ⟨Nat.le_of_ble_eq_true rfl, Nat.le_of_ble_eq_true rfl⟩ ⟨Nat.zero_le _, Nat.zero_le _⟩ rfl (Nat.le_of_ble_eq_true rfl) dX12_flow_2 ?_
  refine z_if_eq (tgt := 57) ok dX12_flow_5 (by decide) hf (fun _ hf => ?_) (fun _ hf => ?_)
  · refine z_iconst (v := (-1)) ok dX12_flow_57 (by decide) ?_
    obtain rfl := Option.some.inj hf
    exact hk _ _ dX12_flow_58
  · refine z_iload_n ok dX12_flow_8 2 rfl ?_
    refine z_iconst (v := 1) ok dX12_flow_9 (by decide) ?_
    refine z_aload_n ok dX12_flow_10 0 rfl ?_
    refine z_getr (q := 183) ok kc_171 zc_12 hin_12 20 (by decide) fl_12_71 rfl dX12_flow_11 ?_
    refine z_sipush (v := 206) ok dX12_flow_14 (by decide) ?_
    refine z_iald ok kc_183 dX12_flow_17 hf (fun v17 hf => ?_)
    refine z_call hf (fun r18 h18 hf => ?_)
    refine z_cS (As := [.int x2, .int 1, .int v17]) (rest := []) ok (c_M_isIn h18) rfl ⟨ml_12_198, w_M_isIn⟩ hy_M_isIn ⟨rfl, rfl⟩ ⟨Nat.le_of_ble_eq_true rfl, Nat.le_of_ble_eq_true rfl⟩ ⟨Nat.zero_le _, Nat.zero_le _⟩ rfl (Nat.le_of_ble_eq_true rfl) dX12_flow_18 ?_
    refine z_if_eq (tgt := 57) ok dX12_flow_21 (by decide) hf (fun _ hf => ?_) (fun _ hf => ?_)
    · refine z_iconst (v := (-1)) ok dX12_flow_57 (by decide) ?_
      obtain rfl := Option.some.inj hf
      exact hk _ _ dX12_flow_58
    · refine z_iload_n ok dX12_flow_24 3 rfl ?_
      refine z_iconst (v := 0) ok dX12_flow_25 (by decide) ?_
      refine z_iconst (v := 3) ok dX12_flow_26 (by decide) ?_
      refine z_call hf (fun r27 h27 hf => ?_)
      refine z_cS (As := [.int x3, .int 0, .int 3]) (rest := []) ok (c_M_isIn h27) rfl ⟨ml_12_198, w_M_isIn⟩ hy_M_isIn ⟨rfl, rfl⟩ ⟨Nat.le_of_ble_eq_true rfl, Nat.le_of_ble_eq_true rfl⟩ ⟨Nat.zero_le _, Nat.zero_le _⟩ rfl (Nat.le_of_ble_eq_true rfl) dX12_flow_27 ?_
      refine z_if_eq (tgt := 57) ok dX12_flow_30 (by decide) hf (fun _ hf => ?_) (fun _ hf => ?_)
      · refine z_iconst (v := (-1)) ok dX12_flow_57 (by decide) ?_
        obtain rfl := Option.some.inj hf
        exact hk _ _ dX12_flow_58
      · refine z_aload_n ok dX12_flow_33 0 rfl ?_
        refine z_getr (q := 183) ok kc_171 zc_12 hin_12 20 (by decide) fl_12_71 rfl dX12_flow_34 ?_
        refine z_sipush (v := 327) ok dX12_flow_37 (by decide) ?_
        refine z_bipush (v := 32) ok dX12_flow_40 (by decide) ?_
        refine z_iload_n ok dX12_flow_42 2 rfl ?_
        refine z_iconst (v := 1) ok dX12_flow_43 (by decide) ?_
        refine z_isub ok dX12_flow_44 ?_
        refine z_imul ok dX12_flow_45 ?_
        refine z_iadd ok dX12_flow_46 ?_
        refine z_iconst (v := 4) ok dX12_flow_47 (by decide) ?_
        refine z_iload_n ok dX12_flow_48 1 rfl ?_
        refine z_imul ok dX12_flow_49 ?_
        refine z_iadd ok dX12_flow_50 ?_
        refine z_iload_n ok dX12_flow_51 3 rfl ?_
        refine z_iadd ok dX12_flow_52 ?_
        refine z_iald ok kc_183 dX12_flow_53 hf (fun v53 hf => ?_)
        refine z_goto (tgt := 58) ok dX12_flow_54 (by decide) ?_
        obtain rfl := Option.some.inj hf
        exact hk _ _ dX12_flow_58
theorem c_M_flow {σ : Sg} {x1 : Int32} {x2 : Int32} {x3 : Int32} {r : Int32} (h : M_flow σ x1 x2 x3 = some r) : ZcI yX12_flow cX12_flow 4 .int rm_M_flow 198 (fun ad => [.ref (ad 171), .int x1, .int x2, .int x3]) σ r σ :=
  zmetI pn_12 rfl (fun _ => rfl) (fun _ => Nat.le_of_ble_eq_true rfl) rfl (fun X Q ok hk => t_M_flow ok h hk)
theorem dX12_missing_0 : decode cX12_missing 0 = .ok (.aload_n 0, 1) := by decide +kernel
theorem dX12_missing_1 : decode cX12_missing 1 = .ok (.iload_n 1, 1) := by decide +kernel
theorem dX12_missing_2 : decode cX12_missing 2 = .ok (.invokevirtual 321, 3) := by decide +kernel
theorem dX12_missing_5 : decode cX12_missing 5 = .ok (.ifCond .eq 19, 3) := by decide +kernel
theorem dX12_missing_8 : decode cX12_missing 8 = .ok (.iload_n 2, 1) := by decide +kernel
theorem dX12_missing_9 : decode cX12_missing 9 = .ok (.iconst 1, 1) := by decide +kernel
theorem dX12_missing_10 : decode cX12_missing 10 = .ok (.aload_n 0, 1) := by decide +kernel
theorem dX12_missing_11 : decode cX12_missing 11 = .ok (.getfield 71, 3) := by decide +kernel
theorem dX12_missing_14 : decode cX12_missing 14 = .ok (.sipush 206, 3) := by decide +kernel
theorem dX12_missing_17 : decode cX12_missing 17 = .ok (.iaload, 1) := by decide +kernel
theorem dX12_missing_18 : decode cX12_missing 18 = .ok (.invokestatic 198, 3) := by decide +kernel
theorem dX12_missing_21 : decode cX12_missing 21 = .ok (.ifCond .ne 7, 3) := by decide +kernel
theorem dX12_missing_24 : decode cX12_missing 24 = .ok (.ldc_w 345, 3) := by decide +kernel
theorem dX12_missing_27 : decode cX12_missing 27 = .ok (.ireturn, 1) := by decide +kernel
theorem dX12_missing_28 : decode cX12_missing 28 = .ok (.iconst 0, 1) := by decide +kernel
theorem dX12_missing_29 : decode cX12_missing 29 = .ok (.istore_n 3, 1) := by decide +kernel
theorem dX12_missing_30 : decode cX12_missing 30 = .ok (.iconst 0, 1) := by decide +kernel
theorem dX12_missing_31 : decode cX12_missing 31 = .ok (.istore 4, 2) := by decide +kernel
theorem dX12_missing_33 : decode cX12_missing 33 = .ok (.iload 4, 2) := by decide +kernel
theorem dX12_missing_35 : decode cX12_missing 35 = .ok (.iload_n 2, 1) := by decide +kernel
theorem dX12_missing_36 : decode cX12_missing 36 = .ok (.if_icmp .ge 51, 3) := by decide +kernel
theorem dX12_missing_39 : decode cX12_missing 39 = .ok (.iload_n 3, 1) := by decide +kernel
theorem dX12_missing_40 : decode cX12_missing 40 = .ok (.aload_n 0, 1) := by decide +kernel
theorem dX12_missing_41 : decode cX12_missing 41 = .ok (.getfield 71, 3) := by decide +kernel
theorem dX12_missing_44 : decode cX12_missing 44 = .ok (.sipush 327, 3) := by decide +kernel
theorem dX12_missing_47 : decode cX12_missing 47 = .ok (.bipush 32, 2) := by decide +kernel
theorem dX12_missing_49 : decode cX12_missing 49 = .ok (.iload 4, 2) := by decide +kernel
theorem dX12_missing_51 : decode cX12_missing 51 = .ok (.imul, 1) := by decide +kernel
theorem dX12_missing_52 : decode cX12_missing 52 = .ok (.iadd, 1) := by decide +kernel
theorem dX12_missing_53 : decode cX12_missing 53 = .ok (.iconst 4, 1) := by decide +kernel
theorem dX12_missing_54 : decode cX12_missing 54 = .ok (.iload_n 1, 1) := by decide +kernel
theorem dX12_missing_55 : decode cX12_missing 55 = .ok (.imul, 1) := by decide +kernel
theorem dX12_missing_56 : decode cX12_missing 56 = .ok (.iadd, 1) := by decide +kernel
theorem dX12_missing_57 : decode cX12_missing 57 = .ok (.iaload, 1) := by decide +kernel
theorem dX12_missing_58 : decode cX12_missing 58 = .ok (.aload_n 0, 1) := by decide +kernel
theorem dX12_missing_59 : decode cX12_missing 59 = .ok (.getfield 71, 3) := by decide +kernel
theorem dX12_missing_62 : decode cX12_missing 62 = .ok (.sipush 327, 3) := by decide +kernel
theorem dX12_missing_65 : decode cX12_missing 65 = .ok (.bipush 32, 2) := by decide +kernel
theorem dX12_missing_67 : decode cX12_missing 67 = .ok (.iload 4, 2) := by decide +kernel
theorem dX12_missing_69 : decode cX12_missing 69 = .ok (.imul, 1) := by decide +kernel
theorem dX12_missing_70 : decode cX12_missing 70 = .ok (.iadd, 1) := by decide +kernel
theorem dX12_missing_71 : decode cX12_missing 71 = .ok (.iconst 4, 1) := by decide +kernel
theorem dX12_missing_72 : decode cX12_missing 72 = .ok (.iload_n 1, 1) := by decide +kernel
theorem dX12_missing_73 : decode cX12_missing 73 = .ok (.imul, 1) := by decide +kernel
theorem dX12_missing_74 : decode cX12_missing 74 = .ok (.iadd, 1) := by decide +kernel
theorem dX12_missing_75 : decode cX12_missing 75 = .ok (.iconst 1, 1) := by decide +kernel
theorem dX12_missing_76 : decode cX12_missing 76 = .ok (.iadd, 1) := by decide +kernel
theorem dX12_missing_77 : decode cX12_missing 77 = .ok (.iaload, 1) := by decide +kernel
theorem dX12_missing_78 : decode cX12_missing 78 = .ok (.isub, 1) := by decide +kernel
theorem dX12_missing_79 : decode cX12_missing 79 = .ok (.iadd, 1) := by decide +kernel
theorem dX12_missing_80 : decode cX12_missing 80 = .ok (.istore_n 3, 1) := by decide +kernel
theorem dX12_missing_81 : decode cX12_missing 81 = .ok (.iinc 4 1, 3) := by decide +kernel
theorem dX12_missing_84 : decode cX12_missing 84 = .ok (.goto (-51), 3) := by decide +kernel
theorem dX12_missing_87 : decode cX12_missing 87 = .ok (.iload_n 3, 1) := by decide +kernel
theorem dX12_missing_88 : decode cX12_missing 88 = .ok (.aload_n 0, 1) := by decide +kernel
theorem dX12_missing_89 : decode cX12_missing 89 = .ok (.getfield 71, 3) := by decide +kernel
theorem dX12_missing_92 : decode cX12_missing 92 = .ok (.iconst 0, 1) := by decide +kernel
theorem dX12_missing_93 : decode cX12_missing 93 = .ok (.iload_n 1, 1) := by decide +kernel
theorem dX12_missing_94 : decode cX12_missing 94 = .ok (.iadd, 1) := by decide +kernel
theorem dX12_missing_95 : decode cX12_missing 95 = .ok (.iaload, 1) := by decide +kernel
theorem dX12_missing_96 : decode cX12_missing 96 = .ok (.aload_n 0, 1) := by decide +kernel
theorem dX12_missing_97 : decode cX12_missing 97 = .ok (.getfield 71, 3) := by decide +kernel
theorem dX12_missing_100 : decode cX12_missing 100 = .ok (.sipush 327, 3) := by decide +kernel
theorem dX12_missing_103 : decode cX12_missing 103 = .ok (.bipush 32, 2) := by decide +kernel
theorem dX12_missing_105 : decode cX12_missing 105 = .ok (.iload_n 2, 1) := by decide +kernel
theorem dX12_missing_106 : decode cX12_missing 106 = .ok (.iconst 1, 1) := by decide +kernel
theorem dX12_missing_107 : decode cX12_missing 107 = .ok (.isub, 1) := by decide +kernel
theorem dX12_missing_108 : decode cX12_missing 108 = .ok (.imul, 1) := by decide +kernel
theorem dX12_missing_109 : decode cX12_missing 109 = .ok (.iadd, 1) := by decide +kernel
theorem dX12_missing_110 : decode cX12_missing 110 = .ok (.iconst 4, 1) := by decide +kernel
theorem dX12_missing_111 : decode cX12_missing 111 = .ok (.iload_n 1, 1) := by decide +kernel
theorem dX12_missing_112 : decode cX12_missing 112 = .ok (.imul, 1) := by decide +kernel
theorem dX12_missing_113 : decode cX12_missing 113 = .ok (.iadd, 1) := by decide +kernel
theorem dX12_missing_114 : decode cX12_missing 114 = .ok (.iconst 2, 1) := by decide +kernel
theorem dX12_missing_115 : decode cX12_missing 115 = .ok (.iadd, 1) := by decide +kernel
theorem dX12_missing_116 : decode cX12_missing 116 = .ok (.iaload, 1) := by decide +kernel
theorem dX12_missing_117 : decode cX12_missing 117 = .ok (.isub, 1) := by decide +kernel
theorem dX12_missing_118 : decode cX12_missing 118 = .ok (.isub, 1) := by decide +kernel
theorem dX12_missing_119 : decode cX12_missing 119 = .ok (.ireturn, 1) := by decide +kernel
abbrev rm_M_missing : Room := { frames := 2, cells := 0, slots := 0, locals := 43 }
def M_missing_l33 (σ : Sg) (x1 : Int32) (x2 : Int32) (x3 : Int32) (x4 : Int32) : Option ((Int32 × Int32) ⊕ (Int32 × Int32)) :=
  if x2 ≤ x4 then (
    some (.inr (x3, x4))
  ) else (
    zrd σ 183 1607 ((327 + (32 * x4)) + (4 * x1)) fun v57 =>
    zrd σ 183 1607 (((327 + (32 * x4)) + (4 * x1)) + 1) fun v77 =>
    zlt (x3 + (v57 - v77)) fun v80 =>
    zlt (x4 + 1) fun v81 =>
    some (.inl (v80, v81))
  )
set_option maxRecDepth 20000 in
theorem t_M_missing_l33 {X : Zx} {Q : State → Prop} {σ : Sg} {x1 : Int32} {x2 : Int32} {x3 : Int32} {x4 : Int32} (ok : Zok X cX12_missing RX12 rm_M_missing 198 5)  {out : ((Int32 × Int32) ⊕ (Int32 × Int32))} (hf : M_missing_l33 σ x1 x2 x3 x4 = some out) (hk : zout (fun (s : (Int32 × Int32)) => ZAt X Q 0 0 33 σ [(0, .ref (X.ad 171)), (1, .int x1), (2, .int x2), (3, .int s.1), (4, .int s.2)] []) (fun (s : (Int32 × Int32)) => ZAt X Q 0 0 87 σ [(0, .ref (X.ad 171)), (1, .int x1), (2, .int x2), (3, .int s.1)] []) out) : ZAt X Q 0 0 33 σ [(0, .ref (X.ad 171)), (1, .int x1), (2, .int x2), (3, .int x3), (4, .int x4)] [] := by
  unfold M_missing_l33 at hf
  refine z_iload ok dX12_missing_33 4 rfl ?_
  refine z_iload_n ok dX12_missing_35 2 rfl ?_
  refine z_icmp_ge (tgt := 87) ok dX12_missing_36 (by decide) hf (fun _ hf => ?_) (fun _ hf => ?_)
  · obtain rfl := Option.some.inj hf
    exact z_sub [0, 1, 2, 3] rfl hk
  · refine z_iload_n ok dX12_missing_39 3 rfl ?_
    refine z_aload_n ok dX12_missing_40 0 rfl ?_
    refine z_getr (q := 183) ok kc_171 zc_12 hin_12 20 (by decide) fl_12_71 rfl dX12_missing_41 ?_
    refine z_sipush (v := 327) ok dX12_missing_44 (by decide) ?_
    refine z_bipush (v := 32) ok dX12_missing_47 (by decide) ?_
    refine z_iload ok dX12_missing_49 4 rfl ?_
    refine z_imul ok dX12_missing_51 ?_
    refine z_iadd ok dX12_missing_52 ?_
    refine z_iconst (v := 4) ok dX12_missing_53 (by decide) ?_
    refine z_iload_n ok dX12_missing_54 1 rfl ?_
    refine z_imul ok dX12_missing_55 ?_
    refine z_iadd ok dX12_missing_56 ?_
    refine z_iald ok kc_183 dX12_missing_57 hf (fun v57 hf => ?_)
    refine z_aload_n ok dX12_missing_58 0 rfl ?_
    refine z_getr (q := 183) ok kc_171 zc_12 hin_12 20 (by decide) fl_12_71 rfl dX12_missing_59 ?_
    refine z_sipush (v := 327) ok dX12_missing_62 (by decide) ?_
    refine z_bipush (v := 32) ok dX12_missing_65 (by decide) ?_
    refine z_iload ok dX12_missing_67 4 rfl ?_
    refine z_imul ok dX12_missing_69 ?_
    refine z_iadd ok dX12_missing_70 ?_
    refine z_iconst (v := 4) ok dX12_missing_71 (by decide) ?_
    refine z_iload_n ok dX12_missing_72 1 rfl ?_
    refine z_imul ok dX12_missing_73 ?_
    refine z_iadd ok dX12_missing_74 ?_
    refine z_iconst (v := 1) ok dX12_missing_75 (by decide) ?_
    refine z_iadd ok dX12_missing_76 ?_
    refine z_iald ok kc_183 dX12_missing_77 hf (fun v77 hf => ?_)
    refine z_isub ok dX12_missing_78 ?_
    refine z_iadd ok dX12_missing_79 ?_
    refine z_nm hf (fun v80 hf => ?_)
    refine z_istore_n (lv' := [(3, .int v80), (0, .ref (X.ad 171)), (1, .int x1), (2, .int x2), (4, .int x4)]) ok dX12_missing_80 (by decide) rfl ?_
    refine z_iinc (w := 1) (lv' := fun v81 => [(4, .int v81), (3, .int v80), (0, .ref (X.ad 171)), (1, .int x1), (2, .int x2)]) ok dX12_missing_81 4 rfl (by decide) (by decide) (fun _ => rfl) hf (fun v81 hf => ?_)
    refine z_goto (tgt := 33) ok dX12_missing_84 (by decide) ?_
    obtain rfl := Option.some.inj hf
    exact z_sub [2, 3, 4, 1, 0] rfl hk
def M_missing_j87 (σ : Sg) (x1 : Int32) (x2 : Int32) (x3 : Int32) : Option Int32 :=
  zrd σ 183 1607 (0 + x1) fun v95 =>
  zrd σ 183 1607 (((327 + (32 * (x2 - 1))) + (4 * x1)) + 2) fun v116 =>
  some (x3 - (v95 - v116))
set_option maxRecDepth 20000 in
theorem t_M_missing_j87 {X : Zx} {Q : State → Prop} {σ : Sg} {x1 : Int32} {x2 : Int32} {x3 : Int32} (ok : Zok X cX12_missing RX12 rm_M_missing 198 5)  {out : Int32} (hf : M_missing_j87 σ x1 x2 x3 = some out) (hk : ZrI cX12_missing X Q out σ) : ZAt X Q 0 0 87 σ [(0, .ref (X.ad 171)), (1, .int x1), (2, .int x2), (3, .int x3)] [] := by
  unfold M_missing_j87 at hf
  refine z_iload_n ok dX12_missing_87 3 rfl ?_
  refine z_aload_n ok dX12_missing_88 0 rfl ?_
  refine z_getr (q := 183) ok kc_171 zc_12 hin_12 20 (by decide) fl_12_71 rfl dX12_missing_89 ?_
  refine z_iconst (v := 0) ok dX12_missing_92 (by decide) ?_
  refine z_iload_n ok dX12_missing_93 1 rfl ?_
  refine z_iadd ok dX12_missing_94 ?_
  refine z_iald ok kc_183 dX12_missing_95 hf (fun v95 hf => ?_)
  refine z_aload_n ok dX12_missing_96 0 rfl ?_
  refine z_getr (q := 183) ok kc_171 zc_12 hin_12 20 (by decide) fl_12_71 rfl dX12_missing_97 ?_
  refine z_sipush (v := 327) ok dX12_missing_100 (by decide) ?_
  refine z_bipush (v := 32) ok dX12_missing_103 (by decide) ?_
  refine z_iload_n ok dX12_missing_105 2 rfl ?_
  refine z_iconst (v := 1) ok dX12_missing_106 (by decide) ?_
  refine z_isub ok dX12_missing_107 ?_
  refine z_imul ok dX12_missing_108 ?_
  refine z_iadd ok dX12_missing_109 ?_
  refine z_iconst (v := 4) ok dX12_missing_110 (by decide) ?_
  refine z_iload_n ok dX12_missing_111 1 rfl ?_
  refine z_imul ok dX12_missing_112 ?_
  refine z_iadd ok dX12_missing_113 ?_
  refine z_iconst (v := 2) ok dX12_missing_114 (by decide) ?_
  refine z_iadd ok dX12_missing_115 ?_
  refine z_iald ok kc_183 dX12_missing_116 hf (fun v116 hf => ?_)
  refine z_isub ok dX12_missing_117 ?_
  refine z_isub ok dX12_missing_118 ?_
  obtain rfl := Option.some.inj hf
  exact hk _ _ dX12_missing_119
def M_missing (σ : Sg) (x1 : Int32) (x2 : Int32) : Option Int32 :=
  (M_isPool σ x1).bind fun r2 =>
  if (zb r2) = 0 then (
    some (-1000000)
  ) else (
    zrd σ 183 1607 206 fun v17 =>
    (M_isIn x2 1 v17).bind fun r18 =>
    if (zb r18) = 0 then (
      some (-1000000)
    ) else (
      zlt 0 fun v29 =>
      zlt 0 fun v31 =>
      (zit (fun (s : (Int32 × Int32)) => M_missing_l33 σ x1 x2 s.1 s.2) zFU (v29, v31)).bind fun r =>
      M_missing_j87 σ x1 x2 r.1
    )
  )
set_option maxRecDepth 20000 in
theorem t_M_missing {X : Zx} {Q : State → Prop} {σ : Sg} {x1 : Int32} {x2 : Int32} (ok : Zok X cX12_missing RX12 rm_M_missing 198 5)  {out : Int32} (hf : M_missing σ x1 x2 = some out) (hk : ZrI cX12_missing X Q out σ) : ZAt X Q 0 0 0 σ [(0, .ref (X.ad 171)), (1, .int x1), (2, .int x2)] [] := by
  unfold M_missing at hf
  refine z_aload_n ok dX12_missing_0 0 rfl ?_
  refine z_iload_n ok dX12_missing_1 1 rfl ?_
  refine z_call hf (fun r2 h2 hf => ?_)
  refine z_cV (As := [.int x1]) (rest := []) (w := 171) ok kc_171 zc_12 (c_M_isPool h2) rfl ⟨ml_12_321, w_M_isPool⟩ hy_M_isPool ⟨rfl, rfl⟩ ⟨Nat.le_of_ble_eq_true rfl, Nat.le_of_ble_eq_true rfl⟩ ⟨Nat.zero_le _, Nat.zero_le _⟩ rfl (Nat.le_of_ble_eq_true rfl) dX12_missing_2 ?_
  refine z_if_eq (tgt := 24) ok dX12_missing_5 (by decide) hf (fun _ hf => ?_) (fun _ hf => ?_)
  · refine z_ldcw (v := (-1000000)) ok dX12_missing_24 wc_12_345 ?_
    obtain rfl := Option.some.inj hf
    exact hk _ _ dX12_missing_27
  · refine z_iload_n ok dX12_missing_8 2 rfl ?_
    refine z_iconst (v := 1) ok dX12_missing_9 (by decide) ?_
    refine z_aload_n ok dX12_missing_10 0 rfl ?_
    refine z_getr (q := 183) ok kc_171 zc_12 hin_12 20 (by decide) fl_12_71 rfl dX12_missing_11 ?_
    refine z_sipush (v := 206) ok dX12_missing_14 (by decide) ?_
    refine z_iald ok kc_183 dX12_missing_17 hf (fun v17 hf => ?_)
    refine z_call hf (fun r18 h18 hf => ?_)
    refine z_cS (As := [.int x2, .int 1, .int v17]) (rest := []) ok (c_M_isIn h18) rfl ⟨ml_12_198, w_M_isIn⟩ hy_M_isIn ⟨rfl, rfl⟩ ⟨Nat.le_of_ble_eq_true rfl, Nat.le_of_ble_eq_true rfl⟩ ⟨Nat.zero_le _, Nat.zero_le _⟩ rfl (Nat.le_of_ble_eq_true rfl) dX12_missing_18 ?_
    refine z_if_ne (tgt := 28) ok dX12_missing_21 (by decide) hf (fun _ hf => ?_) (fun _ hf => ?_)
    · refine z_ldcw (v := (-1000000)) ok dX12_missing_24 wc_12_345 ?_
      obtain rfl := Option.some.inj hf
      exact hk _ _ dX12_missing_27
    · refine z_iconst (v := 0) ok dX12_missing_28 (by decide) ?_
      refine z_nm hf (fun v29 hf => ?_)
      refine z_istore_n (lv' := [(3, .int v29), (0, .ref (X.ad 171)), (1, .int x1), (2, .int x2)]) ok dX12_missing_29 (by decide) rfl ?_
      refine z_iconst (v := 0) ok dX12_missing_30 (by decide) ?_
      refine z_nm hf (fun v31 hf => ?_)
      refine z_istore (lv' := [(4, .int v31), (3, .int v29), (0, .ref (X.ad 171)), (1, .int x1), (2, .int x2)]) ok dX12_missing_31 (by decide) rfl ?_
      refine z_call hf (fun r hr hf => ?_)
      refine z_sub [2, 3, 4, 1, 0] rfl (z_iter (fun (s : (Int32 × Int32)) => σ) (fun (s : (Int32 × Int32)) => [(0, .ref (X.ad 171)), (1, .int x1), (2, .int x2), (3, .int s.1), (4, .int s.2)]) (fun s o h1 h2 => t_M_missing_l33 ok h1 h2) _ _ _ hr ?_)
      show ZAt X Q 0 0 87 σ [(0, .ref (X.ad 171)), (1, .int x1), (2, .int x2), (3, .int r.1)] []
      exact z_sub [0, 1, 2, 3] rfl (t_M_missing_j87 ok hf hk)
theorem c_M_missing {σ : Sg} {x1 : Int32} {x2 : Int32} {r : Int32} (h : M_missing σ x1 x2 = some r) : ZcI yX12_missing cX12_missing 5 .int rm_M_missing 198 (fun ad => [.ref (ad 171), .int x1, .int x2]) σ r σ :=
  zmetI pn_12 rfl (fun _ => rfl) (fun _ => Nat.le_of_ble_eq_true rfl) rfl (fun X Q ok hk => t_M_missing ok h hk)
theorem dX12_beginsAhead_0 : decode cX12_beginsAhead 0 = .ok (.iconst 0, 1) := by decide +kernel
theorem dX12_beginsAhead_1 : decode cX12_beginsAhead 1 = .ok (.istore_n 1, 1) := by decide +kernel
theorem dX12_beginsAhead_2 : decode cX12_beginsAhead 2 = .ok (.iload_n 1, 1) := by decide +kernel
theorem dX12_beginsAhead_3 : decode cX12_beginsAhead 3 = .ok (.sipush 205, 3) := by decide +kernel
theorem dX12_beginsAhead_6 : decode cX12_beginsAhead 6 = .ok (.if_icmp .ge 21, 3) := by decide +kernel
theorem dX12_beginsAhead_9 : decode cX12_beginsAhead 9 = .ok (.aload_n 0, 1) := by decide +kernel
theorem dX12_beginsAhead_10 : decode cX12_beginsAhead 10 = .ok (.getfield 74, 3) := by decide +kernel
theorem dX12_beginsAhead_13 : decode cX12_beginsAhead 13 = .ok (.iload_n 1, 1) := by decide +kernel
theorem dX12_beginsAhead_14 : decode cX12_beginsAhead 14 = .ok (.aload_n 0, 1) := by decide +kernel
theorem dX12_beginsAhead_15 : decode cX12_beginsAhead 15 = .ok (.getfield 71, 3) := by decide +kernel
theorem dX12_beginsAhead_18 : decode cX12_beginsAhead 18 = .ok (.iload_n 1, 1) := by decide +kernel
theorem dX12_beginsAhead_19 : decode cX12_beginsAhead 19 = .ok (.iaload, 1) := by decide +kernel
theorem dX12_beginsAhead_20 : decode cX12_beginsAhead 20 = .ok (.iastore, 1) := by decide +kernel
theorem dX12_beginsAhead_21 : decode cX12_beginsAhead 21 = .ok (.iinc 1 1, 3) := by decide +kernel
theorem dX12_beginsAhead_24 : decode cX12_beginsAhead 24 = .ok (.goto (-22), 3) := by decide +kernel
theorem dX12_beginsAhead_27 : decode cX12_beginsAhead 27 = .ok (.aload_n 0, 1) := by decide +kernel
theorem dX12_beginsAhead_28 : decode cX12_beginsAhead 28 = .ok (.iconst 1, 1) := by decide +kernel
theorem dX12_beginsAhead_29 : decode cX12_beginsAhead 29 = .ok (.putfield 90, 3) := by decide +kernel
theorem dX12_beginsAhead_32 : decode cX12_beginsAhead 32 = .ok (.return_, 1) := by decide +kernel
abbrev rm_M_beginsAhead : Room := { frames := 0, cells := 0, slots := 0, locals := 0 }
def M_beginsAhead_l2 (σ : Sg) (x1 : Int32) : Option ((Sg × Int32) ⊕ (Sg × Int32)) :=
  if 205 ≤ x1 then (
    some (.inr (σ, x1))
  ) else (
    zrd σ 183 1607 x1 fun v19 =>
    zwr σ 184 205 x1 v19 fun σ20 =>
    zlt (x1 + 1) fun v21 =>
    some (.inl (σ20, v21))
  )
set_option maxRecDepth 20000 in
theorem t_M_beginsAhead_l2 {X : Zx} {Q : State → Prop} {σ : Sg} {x1 : Int32} (ok : Zok X cX12_beginsAhead RX12 rm_M_beginsAhead 198 2)  {out : ((Sg × Int32) ⊕ (Sg × Int32))} (hf : M_beginsAhead_l2 σ x1 = some out) (hk : zout (fun (s : (Sg × Int32)) => ZAt X Q 0 0 2 s.1 [(0, .ref (X.ad 171)), (1, .int s.2)] []) (fun (s : (Sg × Int32)) => ZAt X Q 0 0 27 s.1 [(0, .ref (X.ad 171))] []) out) : ZAt X Q 0 0 2 σ [(0, .ref (X.ad 171)), (1, .int x1)] [] := by
  unfold M_beginsAhead_l2 at hf
  refine z_iload_n ok dX12_beginsAhead_2 1 rfl ?_
  refine z_sipush (v := 205) ok dX12_beginsAhead_3 (by decide) ?_
  refine z_icmp_ge (tgt := 27) ok dX12_beginsAhead_6 (by decide) hf (fun _ hf => ?_) (fun _ hf => ?_)
  · obtain rfl := Option.some.inj hf
    exact z_sub [0] rfl hk
  · refine z_aload_n ok dX12_beginsAhead_9 0 rfl ?_
    refine z_getr (q := 184) ok kc_171 zc_12 hin_12 21 (by decide) fl_12_74 rfl dX12_beginsAhead_10 ?_
    refine z_iload_n ok dX12_beginsAhead_13 1 rfl ?_
    refine z_aload_n ok dX12_beginsAhead_14 0 rfl ?_
    refine z_getr (q := 183) ok kc_171 zc_12 hin_12 20 (by decide) fl_12_71 rfl dX12_beginsAhead_15 ?_
    refine z_iload_n ok dX12_beginsAhead_18 1 rfl ?_
    refine z_iald ok kc_183 dX12_beginsAhead_19 hf (fun v19 hf => ?_)
    refine z_iast ok kc_184 dX12_beginsAhead_20 hf (fun σ20 hf => ?_)
    refine z_iinc (w := 1) (lv' := fun v21 => [(1, .int v21), (0, .ref (X.ad 171))]) ok dX12_beginsAhead_21 1 rfl (by decide) (by decide) (fun _ => rfl) hf (fun v21 hf => ?_)
    refine z_goto (tgt := 2) ok dX12_beginsAhead_24 (by decide) ?_
    obtain rfl := Option.some.inj hf
    exact z_sub [1, 0] rfl hk
def M_beginsAhead (σ : Sg)  : Option Sg :=
  zlt 0 fun v1 =>
  (zit (fun (s : (Sg × Int32)) => M_beginsAhead_l2 s.1 s.2) zFU (σ, v1)).bind fun r =>
  zbo 1 <| zpt r.1 171 26 1 fun σ29 =>
  some σ29
set_option maxRecDepth 20000 in
theorem t_M_beginsAhead {X : Zx} {Q : State → Prop} {σ : Sg}  (ok : Zok X cX12_beginsAhead RX12 rm_M_beginsAhead 198 2)  {out : Sg} (hf : M_beginsAhead σ = some out) (hk : ZrV cX12_beginsAhead X Q out) : ZAt X Q 0 0 0 σ [(0, .ref (X.ad 171))] [] := by
  unfold M_beginsAhead at hf
  refine z_iconst (v := 0) ok dX12_beginsAhead_0 (by decide) ?_
  refine z_nm hf (fun v1 hf => ?_)
  refine z_istore_n (lv' := [(1, .int v1), (0, .ref (X.ad 171))]) ok dX12_beginsAhead_1 (by decide) rfl ?_
  refine z_call hf (fun r hr hf => ?_)
  refine z_sub [1, 0] rfl (z_iter (fun (s : (Sg × Int32)) => s.1) (fun (s : (Sg × Int32)) => [(0, .ref (X.ad 171)), (1, .int s.2)]) (fun s o h1 h2 => t_M_beginsAhead_l2 ok h1 h2) _ _ _ hr ?_)
  show ZAt X Q 0 0 27 r.1 [(0, .ref (X.ad 171))] []
  refine z_aload_n ok dX12_beginsAhead_27 0 rfl ?_
  refine z_iconst (v := 1) ok dX12_beginsAhead_28 (by decide) ?_
  refine z_putz ok kc_171 zc_12 hin_12 tyX12 tyX12_ok nmX12 26 (by decide) fl_12_90 rfl rfl (tyX12_ok 26 (by decide)) dX12_beginsAhead_29 hf (fun σ29 hf => ?_)
  obtain rfl := Option.some.inj hf
  exact hk _ _ dX12_beginsAhead_32
theorem c_M_beginsAhead {σ : Sg} {r : Sg} (h : M_beginsAhead σ = some r) : ZcV yX12_beginsAhead cX12_beginsAhead 2 rm_M_beginsAhead 198 (fun ad => [.ref (ad 171)]) σ r :=
  zmetV pn_12 rfl (fun _ => rfl) (fun _ => Nat.le_of_ble_eq_true rfl) (fun X Q ok hk => t_M_beginsAhead ok h hk)
theorem dX12_begins_0 : decode cX12_begins 0 = .ok (.iconst 0, 1) := by decide +kernel
theorem dX12_begins_1 : decode cX12_begins 1 = .ok (.istore_n 1, 1) := by decide +kernel
theorem dX12_begins_2 : decode cX12_begins 2 = .ok (.iload_n 1, 1) := by decide +kernel
theorem dX12_begins_3 : decode cX12_begins 3 = .ok (.bipush 8, 2) := by decide +kernel
theorem dX12_begins_5 : decode cX12_begins 5 = .ok (.if_icmp .ge 51, 3) := by decide +kernel
theorem dX12_begins_8 : decode cX12_begins 8 = .ok (.aload_n 0, 1) := by decide +kernel
theorem dX12_begins_9 : decode cX12_begins 9 = .ok (.getfield 126, 3) := by decide +kernel
theorem dX12_begins_12 : decode cX12_begins 12 = .ok (.iload_n 1, 1) := by decide +kernel
theorem dX12_begins_13 : decode cX12_begins 13 = .ok (.iconst 0, 1) := by decide +kernel
theorem dX12_begins_14 : decode cX12_begins 14 = .ok (.iastore, 1) := by decide +kernel
theorem dX12_begins_15 : decode cX12_begins 15 = .ok (.aload_n 0, 1) := by decide +kernel
theorem dX12_begins_16 : decode cX12_begins 16 = .ok (.getfield 129, 3) := by decide +kernel
theorem dX12_begins_19 : decode cX12_begins 19 = .ok (.iload_n 1, 1) := by decide +kernel
theorem dX12_begins_20 : decode cX12_begins 20 = .ok (.iconst 0, 1) := by decide +kernel
theorem dX12_begins_21 : decode cX12_begins 21 = .ok (.iastore, 1) := by decide +kernel
theorem dX12_begins_22 : decode cX12_begins 22 = .ok (.aload_n 0, 1) := by decide +kernel
theorem dX12_begins_23 : decode cX12_begins 23 = .ok (.getfield 132, 3) := by decide +kernel
theorem dX12_begins_26 : decode cX12_begins 26 = .ok (.iload_n 1, 1) := by decide +kernel
theorem dX12_begins_27 : decode cX12_begins 27 = .ok (.aload_n 0, 1) := by decide +kernel
theorem dX12_begins_28 : decode cX12_begins 28 = .ok (.getfield 71, 3) := by decide +kernel
theorem dX12_begins_31 : decode cX12_begins 31 = .ok (.iconst 0, 1) := by decide +kernel
theorem dX12_begins_32 : decode cX12_begins 32 = .ok (.iload_n 1, 1) := by decide +kernel
theorem dX12_begins_33 : decode cX12_begins 33 = .ok (.iadd, 1) := by decide +kernel
theorem dX12_begins_34 : decode cX12_begins 34 = .ok (.iaload, 1) := by decide +kernel
theorem dX12_begins_35 : decode cX12_begins 35 = .ok (.iastore, 1) := by decide +kernel
theorem dX12_begins_36 : decode cX12_begins 36 = .ok (.aload_n 0, 1) := by decide +kernel
theorem dX12_begins_37 : decode cX12_begins 37 = .ok (.getfield 135, 3) := by decide +kernel
theorem dX12_begins_40 : decode cX12_begins 40 = .ok (.iload_n 1, 1) := by decide +kernel
theorem dX12_begins_41 : decode cX12_begins 41 = .ok (.iconst 0, 1) := by decide +kernel
theorem dX12_begins_42 : decode cX12_begins 42 = .ok (.iastore, 1) := by decide +kernel
theorem dX12_begins_43 : decode cX12_begins 43 = .ok (.aload_n 0, 1) := by decide +kernel
theorem dX12_begins_44 : decode cX12_begins 44 = .ok (.getfield 138, 3) := by decide +kernel
theorem dX12_begins_47 : decode cX12_begins 47 = .ok (.iload_n 1, 1) := by decide +kernel
theorem dX12_begins_48 : decode cX12_begins 48 = .ok (.iconst 0, 1) := by decide +kernel
theorem dX12_begins_49 : decode cX12_begins 49 = .ok (.iastore, 1) := by decide +kernel
theorem dX12_begins_50 : decode cX12_begins 50 = .ok (.iinc 1 1, 3) := by decide +kernel
theorem dX12_begins_53 : decode cX12_begins 53 = .ok (.goto (-51), 3) := by decide +kernel
theorem dX12_begins_56 : decode cX12_begins 56 = .ok (.return_, 1) := by decide +kernel
abbrev rm_M_begins : Room := { frames := 0, cells := 0, slots := 0, locals := 0 }
def M_begins_l2 (σ : Sg) (x1 : Int32) : Option ((Sg × Int32) ⊕ (Sg × Int32)) :=
  if 8 ≤ x1 then (
    some (.inr (σ, x1))
  ) else (
    zwr σ 189 8 x1 0 fun σ14 =>
    zwr σ14 190 8 x1 0 fun σ21 =>
    zrd σ21 183 1607 (0 + x1) fun v34 =>
    zwr σ21 191 8 x1 v34 fun σ35 =>
    zwr σ35 192 8 x1 0 fun σ42 =>
    zwr σ42 193 8 x1 0 fun σ49 =>
    zlt (x1 + 1) fun v50 =>
    some (.inl (σ49, v50))
  )
set_option maxRecDepth 20000 in
theorem t_M_begins_l2 {X : Zx} {Q : State → Prop} {σ : Sg} {x1 : Int32} (ok : Zok X cX12_begins RX12 rm_M_begins 198 2)  {out : ((Sg × Int32) ⊕ (Sg × Int32))} (hf : M_begins_l2 σ x1 = some out) (hk : zout (fun (s : (Sg × Int32)) => ZAt X Q 0 0 2 s.1 [(0, .ref (X.ad 171)), (1, .int s.2)] []) (fun (s : (Sg × Int32)) => ZAt X Q 0 0 56 s.1 [] []) out) : ZAt X Q 0 0 2 σ [(0, .ref (X.ad 171)), (1, .int x1)] [] := by
  unfold M_begins_l2 at hf
  refine z_iload_n ok dX12_begins_2 1 rfl ?_
  refine z_bipush (v := 8) ok dX12_begins_3 (by decide) ?_
  refine z_icmp_ge (tgt := 56) ok dX12_begins_5 (by decide) hf (fun _ hf => ?_) (fun _ hf => ?_)
  · obtain rfl := Option.some.inj hf
    exact z_sub [] rfl hk
  · refine z_aload_n ok dX12_begins_8 0 rfl ?_
    refine z_getr (q := 189) ok kc_171 zc_12 hin_12 38 (by decide) fl_12_126 rfl dX12_begins_9 ?_
    refine z_iload_n ok dX12_begins_12 1 rfl ?_
    refine z_iconst (v := 0) ok dX12_begins_13 (by decide) ?_
    refine z_iast ok kc_189 dX12_begins_14 hf (fun σ14 hf => ?_)
    refine z_aload_n ok dX12_begins_15 0 rfl ?_
    refine z_getr (q := 190) ok kc_171 zc_12 hin_12 39 (by decide) fl_12_129 rfl dX12_begins_16 ?_
    refine z_iload_n ok dX12_begins_19 1 rfl ?_
    refine z_iconst (v := 0) ok dX12_begins_20 (by decide) ?_
    refine z_iast ok kc_190 dX12_begins_21 hf (fun σ21 hf => ?_)
    refine z_aload_n ok dX12_begins_22 0 rfl ?_
    refine z_getr (q := 191) ok kc_171 zc_12 hin_12 40 (by decide) fl_12_132 rfl dX12_begins_23 ?_
    refine z_iload_n ok dX12_begins_26 1 rfl ?_
    refine z_aload_n ok dX12_begins_27 0 rfl ?_
    refine z_getr (q := 183) ok kc_171 zc_12 hin_12 20 (by decide) fl_12_71 rfl dX12_begins_28 ?_
    refine z_iconst (v := 0) ok dX12_begins_31 (by decide) ?_
    refine z_iload_n ok dX12_begins_32 1 rfl ?_
    refine z_iadd ok dX12_begins_33 ?_
    refine z_iald ok kc_183 dX12_begins_34 hf (fun v34 hf => ?_)
    refine z_iast ok kc_191 dX12_begins_35 hf (fun σ35 hf => ?_)
    refine z_aload_n ok dX12_begins_36 0 rfl ?_
    refine z_getr (q := 192) ok kc_171 zc_12 hin_12 41 (by decide) fl_12_135 rfl dX12_begins_37 ?_
    refine z_iload_n ok dX12_begins_40 1 rfl ?_
    refine z_iconst (v := 0) ok dX12_begins_41 (by decide) ?_
    refine z_iast ok kc_192 dX12_begins_42 hf (fun σ42 hf => ?_)
    refine z_aload_n ok dX12_begins_43 0 rfl ?_
    refine z_getr (q := 193) ok kc_171 zc_12 hin_12 42 (by decide) fl_12_138 rfl dX12_begins_44 ?_
    refine z_iload_n ok dX12_begins_47 1 rfl ?_
    refine z_iconst (v := 0) ok dX12_begins_48 (by decide) ?_
    refine z_iast ok kc_193 dX12_begins_49 hf (fun σ49 hf => ?_)
    refine z_iinc (w := 1) (lv' := fun v50 => [(1, .int v50), (0, .ref (X.ad 171))]) ok dX12_begins_50 1 rfl (by decide) (by decide) (fun _ => rfl) hf (fun v50 hf => ?_)
    refine z_goto (tgt := 2) ok dX12_begins_53 (by decide) ?_
    obtain rfl := Option.some.inj hf
    exact z_sub [1, 0] rfl hk
def M_begins (σ : Sg)  : Option Sg :=
  zlt 0 fun v1 =>
  (zit (fun (s : (Sg × Int32)) => M_begins_l2 s.1 s.2) zFU (σ, v1)).bind fun r =>
  some r.1
set_option maxRecDepth 20000 in
theorem t_M_begins {X : Zx} {Q : State → Prop} {σ : Sg}  (ok : Zok X cX12_begins RX12 rm_M_begins 198 2)  {out : Sg} (hf : M_begins σ = some out) (hk : ZrV cX12_begins X Q out) : ZAt X Q 0 0 0 σ [(0, .ref (X.ad 171))] [] := by
  unfold M_begins at hf
  refine z_iconst (v := 0) ok dX12_begins_0 (by decide) ?_
  refine z_nm hf (fun v1 hf => ?_)
  refine z_istore_n (lv' := [(1, .int v1), (0, .ref (X.ad 171))]) ok dX12_begins_1 (by decide) rfl ?_
  refine z_call hf (fun r hr hf => ?_)
  refine z_sub [1, 0] rfl (z_iter (fun (s : (Sg × Int32)) => s.1) (fun (s : (Sg × Int32)) => [(0, .ref (X.ad 171)), (1, .int s.2)]) (fun s o h1 h2 => t_M_begins_l2 ok h1 h2) _ _ _ hr ?_)
  show ZAt X Q 0 0 56 r.1 [] []
  obtain rfl := Option.some.inj hf
  exact hk _ _ dX12_begins_56
theorem c_M_begins {σ : Sg} {r : Sg} (h : M_begins σ = some r) : ZcV yX12_begins cX12_begins 2 rm_M_begins 198 (fun ad => [.ref (ad 171)]) σ r :=
  zmetV pn_12 rfl (fun _ => rfl) (fun _ => Nat.le_of_ble_eq_true rfl) (fun X Q ok hk => t_M_begins ok h hk)
theorem dX12_arrives_0 : decode cX12_arrives 0 = .ok (.bipush 40, 2) := by decide +kernel
theorem dX12_arrives_2 : decode cX12_arrives 2 = .ok (.bipush 10, 2) := by decide +kernel
theorem dX12_arrives_4 : decode cX12_arrives 4 = .ok (.iload_n 1, 1) := by decide +kernel
theorem dX12_arrives_5 : decode cX12_arrives 5 = .ok (.imul, 1) := by decide +kernel
theorem dX12_arrives_6 : decode cX12_arrives 6 = .ok (.iadd, 1) := by decide +kernel
theorem dX12_arrives_7 : decode cX12_arrives 7 = .ok (.istore_n 2, 1) := by decide +kernel
theorem dX12_arrives_8 : decode cX12_arrives 8 = .ok (.aload_n 0, 1) := by decide +kernel
theorem dX12_arrives_9 : decode cX12_arrives 9 = .ok (.getfield 71, 3) := by decide +kernel
theorem dX12_arrives_12 : decode cX12_arrives 12 = .ok (.iconst 0, 1) := by decide +kernel
theorem dX12_arrives_13 : decode cX12_arrives 13 = .ok (.iload_n 1, 1) := by decide +kernel
theorem dX12_arrives_14 : decode cX12_arrives 14 = .ok (.iadd, 1) := by decide +kernel
theorem dX12_arrives_15 : decode cX12_arrives 15 = .ok (.dup2, 1) := by decide +kernel
theorem dX12_arrives_16 : decode cX12_arrives 16 = .ok (.iaload, 1) := by decide +kernel
theorem dX12_arrives_17 : decode cX12_arrives 17 = .ok (.aload_n 0, 1) := by decide +kernel
theorem dX12_arrives_18 : decode cX12_arrives 18 = .ok (.getfield 71, 3) := by decide +kernel
theorem dX12_arrives_21 : decode cX12_arrives 21 = .ok (.iload_n 2, 1) := by decide +kernel
theorem dX12_arrives_22 : decode cX12_arrives 22 = .ok (.iaload, 1) := by decide +kernel
theorem dX12_arrives_23 : decode cX12_arrives 23 = .ok (.iadd, 1) := by decide +kernel
theorem dX12_arrives_24 : decode cX12_arrives 24 = .ok (.iastore, 1) := by decide +kernel
theorem dX12_arrives_25 : decode cX12_arrives 25 = .ok (.aload_n 0, 1) := by decide +kernel
theorem dX12_arrives_26 : decode cX12_arrives 26 = .ok (.getfield 126, 3) := by decide +kernel
theorem dX12_arrives_29 : decode cX12_arrives 29 = .ok (.iload_n 1, 1) := by decide +kernel
theorem dX12_arrives_30 : decode cX12_arrives 30 = .ok (.dup2, 1) := by decide +kernel
theorem dX12_arrives_31 : decode cX12_arrives 31 = .ok (.iaload, 1) := by decide +kernel
theorem dX12_arrives_32 : decode cX12_arrives 32 = .ok (.aload_n 0, 1) := by decide +kernel
theorem dX12_arrives_33 : decode cX12_arrives 33 = .ok (.getfield 71, 3) := by decide +kernel
theorem dX12_arrives_36 : decode cX12_arrives 36 = .ok (.iload_n 2, 1) := by decide +kernel
theorem dX12_arrives_37 : decode cX12_arrives 37 = .ok (.iaload, 1) := by decide +kernel
theorem dX12_arrives_38 : decode cX12_arrives 38 = .ok (.iadd, 1) := by decide +kernel
theorem dX12_arrives_39 : decode cX12_arrives 39 = .ok (.iastore, 1) := by decide +kernel
theorem dX12_arrives_40 : decode cX12_arrives 40 = .ok (.iconst 0, 1) := by decide +kernel
theorem dX12_arrives_41 : decode cX12_arrives 41 = .ok (.istore_n 3, 1) := by decide +kernel
theorem dX12_arrives_42 : decode cX12_arrives 42 = .ok (.iload_n 3, 1) := by decide +kernel
theorem dX12_arrives_43 : decode cX12_arrives 43 = .ok (.bipush 9, 2) := by decide +kernel
theorem dX12_arrives_45 : decode cX12_arrives 45 = .ok (.if_icmp .ge 27, 3) := by decide +kernel
theorem dX12_arrives_48 : decode cX12_arrives 48 = .ok (.aload_n 0, 1) := by decide +kernel
theorem dX12_arrives_49 : decode cX12_arrives 49 = .ok (.getfield 71, 3) := by decide +kernel
theorem dX12_arrives_52 : decode cX12_arrives 52 = .ok (.iload_n 2, 1) := by decide +kernel
theorem dX12_arrives_53 : decode cX12_arrives 53 = .ok (.iload_n 3, 1) := by decide +kernel
theorem dX12_arrives_54 : decode cX12_arrives 54 = .ok (.iadd, 1) := by decide +kernel
theorem dX12_arrives_55 : decode cX12_arrives 55 = .ok (.aload_n 0, 1) := by decide +kernel
theorem dX12_arrives_56 : decode cX12_arrives 56 = .ok (.getfield 71, 3) := by decide +kernel
theorem dX12_arrives_59 : decode cX12_arrives 59 = .ok (.iload_n 2, 1) := by decide +kernel
theorem dX12_arrives_60 : decode cX12_arrives 60 = .ok (.iload_n 3, 1) := by decide +kernel
theorem dX12_arrives_61 : decode cX12_arrives 61 = .ok (.iadd, 1) := by decide +kernel
theorem dX12_arrives_62 : decode cX12_arrives 62 = .ok (.iconst 1, 1) := by decide +kernel
theorem dX12_arrives_63 : decode cX12_arrives 63 = .ok (.iadd, 1) := by decide +kernel
theorem dX12_arrives_64 : decode cX12_arrives 64 = .ok (.iaload, 1) := by decide +kernel
theorem dX12_arrives_65 : decode cX12_arrives 65 = .ok (.iastore, 1) := by decide +kernel
theorem dX12_arrives_66 : decode cX12_arrives 66 = .ok (.iinc 3 1, 3) := by decide +kernel
theorem dX12_arrives_69 : decode cX12_arrives 69 = .ok (.goto (-27), 3) := by decide +kernel
theorem dX12_arrives_72 : decode cX12_arrives 72 = .ok (.aload_n 0, 1) := by decide +kernel
theorem dX12_arrives_73 : decode cX12_arrives 73 = .ok (.getfield 71, 3) := by decide +kernel
theorem dX12_arrives_76 : decode cX12_arrives 76 = .ok (.iload_n 2, 1) := by decide +kernel
theorem dX12_arrives_77 : decode cX12_arrives 77 = .ok (.bipush 10, 2) := by decide +kernel
theorem dX12_arrives_79 : decode cX12_arrives 79 = .ok (.iadd, 1) := by decide +kernel
theorem dX12_arrives_80 : decode cX12_arrives 80 = .ok (.iconst 1, 1) := by decide +kernel
theorem dX12_arrives_81 : decode cX12_arrives 81 = .ok (.isub, 1) := by decide +kernel
theorem dX12_arrives_82 : decode cX12_arrives 82 = .ok (.iconst 0, 1) := by decide +kernel
theorem dX12_arrives_83 : decode cX12_arrives 83 = .ok (.iastore, 1) := by decide +kernel
theorem dX12_arrives_84 : decode cX12_arrives 84 = .ok (.return_, 1) := by decide +kernel
abbrev rm_M_arrives : Room := { frames := 0, cells := 0, slots := 0, locals := 0 }
def M_arrives_l42 (σ : Sg) (x2 : Int32) (x3 : Int32) : Option ((Sg × Int32) ⊕ (Sg × Int32)) :=
  if 9 ≤ x3 then (
    some (.inr (σ, x3))
  ) else (
    zrd σ 183 1607 ((x2 + x3) + 1) fun v64 =>
    zwr σ 183 1607 (x2 + x3) v64 fun σ65 =>
    zlt (x3 + 1) fun v66 =>
    some (.inl (σ65, v66))
  )
set_option maxRecDepth 20000 in
theorem t_M_arrives_l42 {X : Zx} {Q : State → Prop} {σ : Sg} {x2 : Int32} {x3 : Int32} (ok : Zok X cX12_arrives RX12 rm_M_arrives 198 4)  {out : ((Sg × Int32) ⊕ (Sg × Int32))} (hf : M_arrives_l42 σ x2 x3 = some out) (hk : zout (fun (s : (Sg × Int32)) => ZAt X Q 0 0 42 s.1 [(0, .ref (X.ad 171)), (2, .int x2), (3, .int s.2)] []) (fun (s : (Sg × Int32)) => ZAt X Q 0 0 72 s.1 [(0, .ref (X.ad 171)), (2, .int x2)] []) out) : ZAt X Q 0 0 42 σ [(0, .ref (X.ad 171)), (2, .int x2), (3, .int x3)] [] := by
  unfold M_arrives_l42 at hf
  refine z_iload_n ok dX12_arrives_42 2 rfl ?_
  refine z_bipush (v := 9) ok dX12_arrives_43 (by decide) ?_
  refine z_icmp_ge (tgt := 72) ok dX12_arrives_45 (by decide) hf (fun _ hf => ?_) (fun _ hf => ?_)
  · obtain rfl := Option.some.inj hf
    exact z_sub [0, 1] rfl hk
  · refine z_aload_n ok dX12_arrives_48 0 rfl ?_
    refine z_getr (q := 183) ok kc_171 zc_12 hin_12 20 (by decide) fl_12_71 rfl dX12_arrives_49 ?_
    refine z_iload_n ok dX12_arrives_52 1 rfl ?_
    refine z_iload_n ok dX12_arrives_53 2 rfl ?_
    refine z_iadd ok dX12_arrives_54 ?_
    refine z_aload_n ok dX12_arrives_55 0 rfl ?_
    refine z_getr (q := 183) ok kc_171 zc_12 hin_12 20 (by decide) fl_12_71 rfl dX12_arrives_56 ?_
    refine z_iload_n ok dX12_arrives_59 1 rfl ?_
    refine z_iload_n ok dX12_arrives_60 2 rfl ?_
    refine z_iadd ok dX12_arrives_61 ?_
    refine z_iconst (v := 1) ok dX12_arrives_62 (by decide) ?_
    refine z_iadd ok dX12_arrives_63 ?_
    refine z_iald ok kc_183 dX12_arrives_64 hf (fun v64 hf => ?_)
    refine z_iast ok kc_183 dX12_arrives_65 hf (fun σ65 hf => ?_)
    refine z_iinc (w := 1) (lv' := fun v66 => [(3, .int v66), (0, .ref (X.ad 171)), (2, .int x2)]) ok dX12_arrives_66 2 rfl (by decide) (by decide) (fun _ => rfl) hf (fun v66 hf => ?_)
    refine z_goto (tgt := 42) ok dX12_arrives_69 (by decide) ?_
    obtain rfl := Option.some.inj hf
    exact z_sub [1, 2, 0] rfl hk
def M_arrives (σ : Sg) (x1 : Int32) : Option Sg :=
  zlt (40 + (10 * x1)) fun v7 =>
  zrd σ 183 1607 (0 + x1) fun v16 =>
  zrd σ 183 1607 v7 fun v22 =>
  zwr σ 183 1607 (0 + x1) (v16 + v22) fun σ24 =>
  zrd σ24 189 8 x1 fun v31 =>
  zrd σ24 183 1607 v7 fun v37 =>
  zwr σ24 189 8 x1 (v31 + v37) fun σ39 =>
  zlt 0 fun v41 =>
  (zit (fun (s : (Sg × Int32)) => M_arrives_l42 s.1 v7 s.2) zFU (σ39, v41)).bind fun r =>
  zwr r.1 183 1607 ((v7 + 10) - 1) 0 fun σ83 =>
  some σ83
set_option maxRecDepth 20000 in
theorem t_M_arrives {X : Zx} {Q : State → Prop} {σ : Sg} {x1 : Int32} (ok : Zok X cX12_arrives RX12 rm_M_arrives 198 4)  {out : Sg} (hf : M_arrives σ x1 = some out) (hk : ZrV cX12_arrives X Q out) : ZAt X Q 0 0 0 σ [(0, .ref (X.ad 171)), (1, .int x1)] [] := by
  unfold M_arrives at hf
  refine z_bipush (v := 40) ok dX12_arrives_0 (by decide) ?_
  refine z_bipush (v := 10) ok dX12_arrives_2 (by decide) ?_
  refine z_iload_n ok dX12_arrives_4 1 rfl ?_
  refine z_imul ok dX12_arrives_5 ?_
  refine z_iadd ok dX12_arrives_6 ?_
  refine z_nm hf (fun v7 hf => ?_)
  refine z_istore_n (lv' := [(2, .int v7), (0, .ref (X.ad 171)), (1, .int x1)]) ok dX12_arrives_7 (by decide) rfl ?_
  refine z_aload_n ok dX12_arrives_8 1 rfl ?_
  refine z_getr (q := 183) ok kc_171 zc_12 hin_12 20 (by decide) fl_12_71 rfl dX12_arrives_9 ?_
  refine z_iconst (v := 0) ok dX12_arrives_12 (by decide) ?_
  refine z_iload_n ok dX12_arrives_13 2 rfl ?_
  refine z_iadd ok dX12_arrives_14 ?_
  refine z_dup2 ok dX12_arrives_15 rfl rfl ?_
  refine z_iald ok kc_183 dX12_arrives_16 hf (fun v16 hf => ?_)
  refine z_aload_n ok dX12_arrives_17 1 rfl ?_
  refine z_getr (q := 183) ok kc_171 zc_12 hin_12 20 (by decide) fl_12_71 rfl dX12_arrives_18 ?_
  refine z_iload_n ok dX12_arrives_21 0 rfl ?_
  refine z_iald ok kc_183 dX12_arrives_22 hf (fun v22 hf => ?_)
  refine z_iadd ok dX12_arrives_23 ?_
  refine z_iast ok kc_183 dX12_arrives_24 hf (fun σ24 hf => ?_)
  refine z_aload_n ok dX12_arrives_25 1 rfl ?_
  refine z_getr (q := 189) ok kc_171 zc_12 hin_12 38 (by decide) fl_12_126 rfl dX12_arrives_26 ?_
  refine z_iload_n ok dX12_arrives_29 2 rfl ?_
  refine z_dup2 ok dX12_arrives_30 rfl rfl ?_
  refine z_iald ok kc_189 dX12_arrives_31 hf (fun v31 hf => ?_)
  refine z_aload_n ok dX12_arrives_32 1 rfl ?_
  refine z_getr (q := 183) ok kc_171 zc_12 hin_12 20 (by decide) fl_12_71 rfl dX12_arrives_33 ?_
  refine z_iload_n ok dX12_arrives_36 0 rfl ?_
  refine z_iald ok kc_183 dX12_arrives_37 hf (fun v37 hf => ?_)
  refine z_iadd ok dX12_arrives_38 ?_
  refine z_iast ok kc_189 dX12_arrives_39 hf (fun σ39 hf => ?_)
  refine z_iconst (v := 0) ok dX12_arrives_40 (by decide) ?_
  refine z_nm hf (fun v41 hf => ?_)
  refine z_istore_n (lv' := [(3, .int v41), (2, .int v7), (0, .ref (X.ad 171)), (1, .int x1)]) ok dX12_arrives_41 (by decide) rfl ?_
  refine z_call hf (fun r hr hf => ?_)
  refine z_sub [2, 1, 0] rfl (z_iter (fun (s : (Sg × Int32)) => s.1) (fun (s : (Sg × Int32)) => [(0, .ref (X.ad 171)), (2, .int v7), (3, .int s.2)]) (fun s o h1 h2 => t_M_arrives_l42 ok h1 h2) _ _ _ hr ?_)
  show ZAt X Q 0 0 72 r.1 [(0, .ref (X.ad 171)), (2, .int v7)] []
  refine z_aload_n ok dX12_arrives_72 0 rfl ?_
  refine z_getr (q := 183) ok kc_171 zc_12 hin_12 20 (by decide) fl_12_71 rfl dX12_arrives_73 ?_
  refine z_iload_n ok dX12_arrives_76 1 rfl ?_
  refine z_bipush (v := 10) ok dX12_arrives_77 (by decide) ?_
  refine z_iadd ok dX12_arrives_79 ?_
  refine z_iconst (v := 1) ok dX12_arrives_80 (by decide) ?_
  refine z_isub ok dX12_arrives_81 ?_
  refine z_iconst (v := 0) ok dX12_arrives_82 (by decide) ?_
  refine z_iast ok kc_183 dX12_arrives_83 hf (fun σ83 hf => ?_)
  obtain rfl := Option.some.inj hf
  exact hk _ _ dX12_arrives_84
theorem c_M_arrives {σ : Sg} {x1 : Int32} {r : Sg} (h : M_arrives σ x1 = some r) : ZcV yX12_arrives cX12_arrives 4 rm_M_arrives 198 (fun ad => [.ref (ad 171), .int x1]) σ r :=
  zmetV pn_12 rfl (fun _ => rfl) (fun _ => Nat.le_of_ble_eq_true rfl) (fun X Q ok hk => t_M_arrives ok h hk)
