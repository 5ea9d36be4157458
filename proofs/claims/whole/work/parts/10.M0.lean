theorem fl_12_108 : Cond.fieldLink RX12 108 (TX12 32).1 (TX12 32).2.1 (TX12 32).2.2.1 ∈ zT := zT_of (i := 1431) (by decide +kernel) rfl
theorem fl_12_111 : Cond.fieldLink RX12 111 (TX12 33).1 (TX12 33).2.1 (TX12 33).2.2.1 ∈ zT := zT_of (i := 1432) (by decide +kernel) rfl
theorem fl_12_114 : Cond.fieldLink RX12 114 (TX12 34).1 (TX12 34).2.1 (TX12 34).2.2.1 ∈ zT := zT_of (i := 1433) (by decide +kernel) rfl
theorem fl_12_117 : Cond.fieldLink RX12 117 (TX12 35).1 (TX12 35).2.1 (TX12 35).2.2.1 ∈ zT := zT_of (i := 1434) (by decide +kernel) rfl
theorem fl_12_120 : Cond.fieldLink RX12 120 (TX12 36).1 (TX12 36).2.1 (TX12 36).2.2.1 ∈ zT := zT_of (i := 1435) (by decide +kernel) rfl
theorem fl_12_123 : Cond.fieldLink RX12 123 (TX12 37).1 (TX12 37).2.1 (TX12 37).2.2.1 ∈ zT := zT_of (i := 1436) (by decide +kernel) rfl
theorem fl_12_35 : Cond.fieldLink RX12 35 (TX12 8).1 (TX12 8).2.1 (TX12 8).2.2.1 ∈ zT := zT_of (i := 1407) (by decide +kernel) rfl
theorem fl_12_38 : Cond.fieldLink RX12 38 (TX12 9).1 (TX12 9).2.1 (TX12 9).2.2.1 ∈ zT := zT_of (i := 1408) (by decide +kernel) rfl
theorem fl_12_53 : Cond.fieldLink RX12 53 (TX12 14).1 (TX12 14).2.1 (TX12 14).2.2.1 ∈ zT := zT_of (i := 1413) (by decide +kernel) rfl
theorem fl_12_65 : Cond.fieldLink RX12 65 (TX12 18).1 (TX12 18).2.1 (TX12 18).2.2.1 ∈ zT := zT_of (i := 1417) (by decide +kernel) rfl
theorem fl_12_68 : Cond.fieldLink RX12 68 (TX12 19).1 (TX12 19).2.1 (TX12 19).2.2.1 ∈ zT := zT_of (i := 1418) (by decide +kernel) rfl
theorem fl_12_93 : Cond.fieldLink RX12 93 (TX12 27).1 (TX12 27).2.1 (TX12 27).2.2.1 ∈ zT := zT_of (i := 1426) (by decide +kernel) rfl
theorem fl_12_96 : Cond.fieldLink RX12 96 (TX12 28).1 (TX12 28).2.1 (TX12 28).2.2.1 ∈ zT := zT_of (i := 1427) (by decide +kernel) rfl
theorem fl_12_99 : Cond.fieldLink RX12 99 (TX12 29).1 (TX12 29).2.1 (TX12 29).2.2.1 ∈ zT := zT_of (i := 1428) (by decide +kernel) rfl
theorem ml_12_159 : Cond.methodLink RX12 159 yX12_refuses ∈ zT := zT_of (i := 1551) (by decide +kernel) rfl
theorem ml_12_163 : Cond.methodLink RX12 163 yX12_lays ∈ zT := zT_of (i := 1555) (by decide +kernel) rfl
theorem ml_12_167 : Cond.methodLink RX12 167 yX12_isRefused ∈ zT := zT_of (i := 1563) (by decide +kernel) rfl
theorem ml_12_171 : Cond.methodLink RX12 171 yX12_byteAt ∈ zT := zT_of (i := 1595) (by decide +kernel) rfl
theorem ml_12_174 : Cond.methodLink RX12 174 yX12_goesWell ∈ zT := zT_of (i := 1587) (by decide +kernel) rfl
theorem ml_12_178 : Cond.methodLink RX12 178 yX12_here ∈ zT := zT_of (i := 1591) (by decide +kernel) rfl
theorem ml_12_182 : Cond.methodLink RX12 182 yX12_isSmall ∈ zT := zT_of (i := 1599) (by decide +kernel) rfl
theorem ml_12_185 : Cond.methodLink RX12 185 yX12_isDigit ∈ zT := zT_of (i := 1603) (by decide +kernel) rfl
theorem ml_12_188 : Cond.methodLink RX12 188 yX12_faults ∈ zT := zT_of (i := 1607) (by decide +kernel) rfl
theorem ml_12_192 : Cond.methodLink RX12 192 yX12_word ∈ zT := zT_of (i := 1583) (by decide +kernel) rfl
theorem ml_12_195 : Cond.methodLink RX12 195 yX12_own ∈ zT := zT_of (i := 1611) (by decide +kernel) rfl
theorem ml_12_198 : Cond.methodLink RX12 198 yX12_isIn ∈ zT := zT_of (i := 1623) (by decide +kernel) rfl
theorem ml_12_202 : Cond.methodLink RX12 202 yX12_signAt ∈ zT := zT_of (i := 1646) (by decide +kernel) rfl
theorem ml_12_205 : Cond.methodLink RX12 205 yX12_name ∈ zT := zT_of (i := 1638) (by decide +kernel) rfl
theorem ml_12_208 : Cond.methodLink RX12 208 yX12_among ∈ zT := zT_of (i := 1642) (by decide +kernel) rfl
theorem ml_12_212 : Cond.methodLink RX12 212 yX12_must ∈ zT := zT_of (i := 1579) (by decide +kernel) rfl
theorem ml_12_215 : Cond.methodLink RX12 215 yX12_number ∈ zT := zT_of (i := 1619) (by decide +kernel) rfl
theorem ml_12_219 : Cond.methodLink RX12 219 yX12_freshName ∈ zT := zT_of (i := 1634) (by decide +kernel) rfl
theorem ml_12_223 : Cond.methodLink RX12 223 yX12_after ∈ zT := zT_of (i := 1615) (by decide +kernel) rfl
theorem w_M_after : Cond.instanceMethod yX12_after ∈ zT ∧ Cond.selects yX12_after.cls yX12_after yX12_after ∈ zT ∧ Cond.initialized yX12_after.cls ∈ zT ∧ Cond.code yX12_after cX12_after 4 (some .int) ∈ zT := ⟨zT_of (i := 1617) (by decide +kernel) rfl, zT_of (i := 69) (by decide +kernel) rfl, zT_of (i := 135) (by decide +kernel) rfl, zT_of (i := 1618) (by decide +kernel) rfl⟩
theorem hy_M_after : yX12_after.cls ≠ "java/lang/invoke/MethodHandle" ∧ yX12_after.cls ≠ "java/lang/invoke/VarHandle" ∧ (parseMethodDescriptor yX12_after.desc).map (fun d => d.parameters.length) = some 3 := by decide +kernel
theorem w_M_among : Cond.instanceMethod yX12_among ∈ zT ∧ Cond.selects yX12_among.cls yX12_among yX12_among ∈ zT ∧ Cond.initialized yX12_among.cls ∈ zT ∧ Cond.code yX12_among cX12_among 6 (some .int) ∈ zT := ⟨zT_of (i := 1644) (by decide +kernel) rfl, zT_of (i := 75) (by decide +kernel) rfl, zT_of (i := 135) (by decide +kernel) rfl, zT_of (i := 1645) (by decide +kernel) rfl⟩
theorem hy_M_among : yX12_among.cls ≠ "java/lang/invoke/MethodHandle" ∧ yX12_among.cls ≠ "java/lang/invoke/VarHandle" ∧ (parseMethodDescriptor yX12_among.desc).map (fun d => d.parameters.length) = some 2 := by decide +kernel
theorem w_M_byteAt : Cond.instanceMethod yX12_byteAt ∈ zT ∧ Cond.selects yX12_byteAt.cls yX12_byteAt yX12_byteAt ∈ zT ∧ Cond.initialized yX12_byteAt.cls ∈ zT ∧ Cond.code yX12_byteAt cX12_byteAt 2 (some .int) ∈ zT := ⟨zT_of (i := 1597) (by decide +kernel) rfl, zT_of (i := 64) (by decide +kernel) rfl, zT_of (i := 135) (by decide +kernel) rfl, zT_of (i := 1598) (by decide +kernel) rfl⟩
theorem hy_M_byteAt : yX12_byteAt.cls ≠ "java/lang/invoke/MethodHandle" ∧ yX12_byteAt.cls ≠ "java/lang/invoke/VarHandle" ∧ (parseMethodDescriptor yX12_byteAt.desc).map (fun d => d.parameters.length) = some 1 := by decide +kernel
theorem w_M_end : Cond.instanceMethod yX12_end ∈ zT ∧ Cond.selects yX12_end.cls yX12_end yX12_end ∈ zT ∧ Cond.initialized yX12_end.cls ∈ zT ∧ Cond.code yX12_end cX12_end 2 (some .boolean) ∈ zT := ⟨zT_of (i := 1560) (by decide +kernel) rfl, zT_of (i := 1561) (by decide +kernel) rfl, zT_of (i := 135) (by decide +kernel) rfl, zT_of (i := 1562) (by decide +kernel) rfl⟩
theorem hy_M_end : yX12_end.cls ≠ "java/lang/invoke/MethodHandle" ∧ yX12_end.cls ≠ "java/lang/invoke/VarHandle" ∧ (parseMethodDescriptor yX12_end.desc).map (fun d => d.parameters.length) = some 1 := by decide +kernel
theorem w_M_endsWell : Cond.instanceMethod yX12_endsWell ∈ zT ∧ Cond.selects yX12_endsWell.cls yX12_endsWell yX12_endsWell ∈ zT ∧ Cond.initialized yX12_endsWell.cls ∈ zT ∧ Cond.code yX12_endsWell cX12_endsWell 1 none ∈ zT := ⟨zT_of (i := 1628) (by decide +kernel) rfl, zT_of (i := 71) (by decide +kernel) rfl, zT_of (i := 135) (by decide +kernel) rfl, zT_of (i := 1629) (by decide +kernel) rfl⟩
theorem hy_M_endsWell : yX12_endsWell.cls ≠ "java/lang/invoke/MethodHandle" ∧ yX12_endsWell.cls ≠ "java/lang/invoke/VarHandle" ∧ (parseMethodDescriptor yX12_endsWell.desc).map (fun d => d.parameters.length) = some 0 := by decide +kernel
theorem w_M_faults : Cond.instanceMethod yX12_faults ∈ zT ∧ Cond.selects yX12_faults.cls yX12_faults yX12_faults ∈ zT ∧ Cond.initialized yX12_faults.cls ∈ zT ∧ Cond.code yX12_faults cX12_faults 3 none ∈ zT := ⟨zT_of (i := 1609) (by decide +kernel) rfl, zT_of (i := 67) (by decide +kernel) rfl, zT_of (i := 135) (by decide +kernel) rfl, zT_of (i := 1610) (by decide +kernel) rfl⟩
theorem hy_M_faults : yX12_faults.cls ≠ "java/lang/invoke/MethodHandle" ∧ yX12_faults.cls ≠ "java/lang/invoke/VarHandle" ∧ (parseMethodDescriptor yX12_faults.desc).map (fun d => d.parameters.length) = some 2 := by decide +kernel
theorem w_M_feed : Cond.instanceMethod yX12_feed ∈ zT ∧ Cond.selects yX12_feed.cls yX12_feed yX12_feed ∈ zT ∧ Cond.initialized yX12_feed.cls ∈ zT ∧ Cond.code yX12_feed cX12_feed 6 (some .int) ∈ zT := ⟨zT_of (i := 1548) (by decide +kernel) rfl, zT_of (i := 1549) (by decide +kernel) rfl, zT_of (i := 135) (by decide +kernel) rfl, zT_of (i := 1550) (by decide +kernel) rfl⟩
theorem hy_M_feed : yX12_feed.cls ≠ "java/lang/invoke/MethodHandle" ∧ yX12_feed.cls ≠ "java/lang/invoke/VarHandle" ∧ (parseMethodDescriptor yX12_feed.desc).map (fun d => d.parameters.length) = some 5 := by decide +kernel
theorem w_M_freshName : Cond.instanceMethod yX12_freshName ∈ zT ∧ Cond.selects yX12_freshName.cls yX12_freshName yX12_freshName ∈ zT ∧ Cond.initialized yX12_freshName.cls ∈ zT ∧ Cond.code yX12_freshName cX12_freshName 4 none ∈ zT := ⟨zT_of (i := 1636) (by decide +kernel) rfl, zT_of (i := 73) (by decide +kernel) rfl, zT_of (i := 135) (by decide +kernel) rfl, zT_of (i := 1637) (by decide +kernel) rfl⟩
theorem hy_M_freshName : yX12_freshName.cls ≠ "java/lang/invoke/MethodHandle" ∧ yX12_freshName.cls ≠ "java/lang/invoke/VarHandle" ∧ (parseMethodDescriptor yX12_freshName.desc).map (fun d => d.parameters.length) = some 2 := by decide +kernel
theorem w_M_goesWell : Cond.instanceMethod yX12_goesWell ∈ zT ∧ Cond.selects yX12_goesWell.cls yX12_goesWell yX12_goesWell ∈ zT ∧ Cond.initialized yX12_goesWell.cls ∈ zT ∧ Cond.code yX12_goesWell cX12_goesWell 1 (some .boolean) ∈ zT := ⟨zT_of (i := 1589) (by decide +kernel) rfl, zT_of (i := 62) (by decide +kernel) rfl, zT_of (i := 135) (by decide +kernel) rfl, zT_of (i := 1590) (by decide +kernel) rfl⟩
theorem hy_M_goesWell : yX12_goesWell.cls ≠ "java/lang/invoke/MethodHandle" ∧ yX12_goesWell.cls ≠ "java/lang/invoke/VarHandle" ∧ (parseMethodDescriptor yX12_goesWell.desc).map (fun d => d.parameters.length) = some 0 := by decide +kernel
theorem w_M_here : Cond.instanceMethod yX12_here ∈ zT ∧ Cond.selects yX12_here.cls yX12_here yX12_here ∈ zT ∧ Cond.initialized yX12_here.cls ∈ zT ∧ Cond.code yX12_here cX12_here 1 (some .int) ∈ zT := ⟨zT_of (i := 1593) (by decide +kernel) rfl, zT_of (i := 63) (by decide +kernel) rfl, zT_of (i := 135) (by decide +kernel) rfl, zT_of (i := 1594) (by decide +kernel) rfl⟩
theorem hy_M_here : yX12_here.cls ≠ "java/lang/invoke/MethodHandle" ∧ yX12_here.cls ≠ "java/lang/invoke/VarHandle" ∧ (parseMethodDescriptor yX12_here.desc).map (fun d => d.parameters.length) = some 0 := by decide +kernel
theorem w_M_isDigit : Cond.instanceMethod yX12_isDigit ∈ zT ∧ Cond.selects yX12_isDigit.cls yX12_isDigit yX12_isDigit ∈ zT ∧ Cond.initialized yX12_isDigit.cls ∈ zT ∧ Cond.code yX12_isDigit cX12_isDigit 2 (some .boolean) ∈ zT := ⟨zT_of (i := 1605) (by decide +kernel) rfl, zT_of (i := 66) (by decide +kernel) rfl, zT_of (i := 135) (by decide +kernel) rfl, zT_of (i := 1606) (by decide +kernel) rfl⟩
theorem hy_M_isDigit : yX12_isDigit.cls ≠ "java/lang/invoke/MethodHandle" ∧ yX12_isDigit.cls ≠ "java/lang/invoke/VarHandle" ∧ (parseMethodDescriptor yX12_isDigit.desc).map (fun d => d.parameters.length) = some 1 := by decide +kernel
theorem w_M_isIn : Cond.static yX12_isIn ∈ zT ∧ Cond.initialized yX12_isIn.cls ∈ zT ∧ Cond.code yX12_isIn cX12_isIn 3 (some .boolean) ∈ zT := ⟨zT_of (i := 1624) (by decide +kernel) rfl, zT_of (i := 135) (by decide +kernel) rfl, zT_of (i := 1625) (by decide +kernel) rfl⟩
theorem hy_M_isIn : yX12_isIn.cls ≠ "java/lang/invoke/MethodHandle" ∧ yX12_isIn.cls ≠ "java/lang/invoke/VarHandle" ∧ (parseMethodDescriptor yX12_isIn.desc).map (fun d => d.parameters.length) = some 3 := by decide +kernel
theorem w_M_isRefused : Cond.instanceMethod yX12_isRefused ∈ zT ∧ Cond.selects yX12_isRefused.cls yX12_isRefused yX12_isRefused ∈ zT ∧ Cond.initialized yX12_isRefused.cls ∈ zT ∧ Cond.code yX12_isRefused cX12_isRefused 2 (some .boolean) ∈ zT := ⟨zT_of (i := 1565) (by decide +kernel) rfl, zT_of (i := 57) (by decide +kernel) rfl, zT_of (i := 135) (by decide +kernel) rfl, zT_of (i := 1566) (by decide +kernel) rfl⟩
theorem hy_M_isRefused : yX12_isRefused.cls ≠ "java/lang/invoke/MethodHandle" ∧ yX12_isRefused.cls ≠ "java/lang/invoke/VarHandle" ∧ (parseMethodDescriptor yX12_isRefused.desc).map (fun d => d.parameters.length) = some 1 := by decide +kernel
theorem w_M_isSmall : Cond.instanceMethod yX12_isSmall ∈ zT ∧ Cond.selects yX12_isSmall.cls yX12_isSmall yX12_isSmall ∈ zT ∧ Cond.initialized yX12_isSmall.cls ∈ zT ∧ Cond.code yX12_isSmall cX12_isSmall 2 (some .boolean) ∈ zT := ⟨zT_of (i := 1601) (by decide +kernel) rfl, zT_of (i := 65) (by decide +kernel) rfl, zT_of (i := 135) (by decide +kernel) rfl, zT_of (i := 1602) (by decide +kernel) rfl⟩
theorem hy_M_isSmall : yX12_isSmall.cls ≠ "java/lang/invoke/MethodHandle" ∧ yX12_isSmall.cls ≠ "java/lang/invoke/VarHandle" ∧ (parseMethodDescriptor yX12_isSmall.desc).map (fun d => d.parameters.length) = some 1 := by decide +kernel
theorem w_M_lays : Cond.instanceMethod yX12_lays ∈ zT ∧ Cond.selects yX12_lays.cls yX12_lays yX12_lays ∈ zT ∧ Cond.initialized yX12_lays.cls ∈ zT ∧ Cond.code yX12_lays cX12_lays 3 none ∈ zT := ⟨zT_of (i := 1557) (by decide +kernel) rfl, zT_of (i := 56) (by decide +kernel) rfl, zT_of (i := 135) (by decide +kernel) rfl, zT_of (i := 1558) (by decide +kernel) rfl⟩
theorem hy_M_lays : yX12_lays.cls ≠ "java/lang/invoke/MethodHandle" ∧ yX12_lays.cls ≠ "java/lang/invoke/VarHandle" ∧ (parseMethodDescriptor yX12_lays.desc).map (fun d => d.parameters.length) = some 1 := by decide +kernel
theorem w_M_must : Cond.instanceMethod yX12_must ∈ zT ∧ Cond.selects yX12_must.cls yX12_must yX12_must ∈ zT ∧ Cond.initialized yX12_must.cls ∈ zT ∧ Cond.code yX12_must cX12_must 2 none ∈ zT := ⟨zT_of (i := 1581) (by decide +kernel) rfl, zT_of (i := 60) (by decide +kernel) rfl, zT_of (i := 135) (by decide +kernel) rfl, zT_of (i := 1582) (by decide +kernel) rfl⟩
theorem hy_M_must : yX12_must.cls ≠ "java/lang/invoke/MethodHandle" ∧ yX12_must.cls ≠ "java/lang/invoke/VarHandle" ∧ (parseMethodDescriptor yX12_must.desc).map (fun d => d.parameters.length) = some 1 := by decide +kernel
theorem w_M_name : Cond.instanceMethod yX12_name ∈ zT ∧ Cond.selects yX12_name.cls yX12_name yX12_name ∈ zT ∧ Cond.initialized yX12_name.cls ∈ zT ∧ Cond.code yX12_name cX12_name 1 none ∈ zT := ⟨zT_of (i := 1640) (by decide +kernel) rfl, zT_of (i := 74) (by decide +kernel) rfl, zT_of (i := 135) (by decide +kernel) rfl, zT_of (i := 1641) (by decide +kernel) rfl⟩
theorem hy_M_name : yX12_name.cls ≠ "java/lang/invoke/MethodHandle" ∧ yX12_name.cls ≠ "java/lang/invoke/VarHandle" ∧ (parseMethodDescriptor yX12_name.desc).map (fun d => d.parameters.length) = some 0 := by decide +kernel
theorem w_M_number : Cond.instanceMethod yX12_number ∈ zT ∧ Cond.selects yX12_number.cls yX12_number yX12_number ∈ zT ∧ Cond.initialized yX12_number.cls ∈ zT ∧ Cond.code yX12_number cX12_number 4 (some .int) ∈ zT := ⟨zT_of (i := 1621) (by decide +kernel) rfl, zT_of (i := 70) (by decide +kernel) rfl, zT_of (i := 135) (by decide +kernel) rfl, zT_of (i := 1622) (by decide +kernel) rfl⟩
theorem hy_M_number : yX12_number.cls ≠ "java/lang/invoke/MethodHandle" ∧ yX12_number.cls ≠ "java/lang/invoke/VarHandle" ∧ (parseMethodDescriptor yX12_number.desc).map (fun d => d.parameters.length) = some 2 := by decide +kernel
theorem w_M_own : Cond.instanceMethod yX12_own ∈ zT ∧ Cond.selects yX12_own.cls yX12_own yX12_own ∈ zT ∧ Cond.initialized yX12_own.cls ∈ zT ∧ Cond.code yX12_own cX12_own 4 (some .int) ∈ zT := ⟨zT_of (i := 1613) (by decide +kernel) rfl, zT_of (i := 68) (by decide +kernel) rfl, zT_of (i := 135) (by decide +kernel) rfl, zT_of (i := 1614) (by decide +kernel) rfl⟩
theorem hy_M_own : yX12_own.cls ≠ "java/lang/invoke/MethodHandle" ∧ yX12_own.cls ≠ "java/lang/invoke/VarHandle" ∧ (parseMethodDescriptor yX12_own.desc).map (fun d => d.parameters.length) = some 0 := by decide +kernel
theorem w_M_readsPool : Cond.instanceMethod yX12_readsPool ∈ zT ∧ Cond.selects yX12_readsPool.cls yX12_readsPool yX12_readsPool ∈ zT ∧ Cond.initialized yX12_readsPool.cls ∈ zT ∧ Cond.code yX12_readsPool cX12_readsPool 2 none ∈ zT := ⟨zT_of (i := 1632) (by decide +kernel) rfl, zT_of (i := 72) (by decide +kernel) rfl, zT_of (i := 135) (by decide +kernel) rfl, zT_of (i := 1633) (by decide +kernel) rfl⟩
theorem hy_M_readsPool : yX12_readsPool.cls ≠ "java/lang/invoke/MethodHandle" ∧ yX12_readsPool.cls ≠ "java/lang/invoke/VarHandle" ∧ (parseMethodDescriptor yX12_readsPool.desc).map (fun d => d.parameters.length) = some 0 := by decide +kernel
theorem w_M_refuses : Cond.instanceMethod yX12_refuses ∈ zT ∧ Cond.selects yX12_refuses.cls yX12_refuses yX12_refuses ∈ zT ∧ Cond.initialized yX12_refuses.cls ∈ zT ∧ Cond.code yX12_refuses cX12_refuses 2 (some .int) ∈ zT := ⟨zT_of (i := 1553) (by decide +kernel) rfl, zT_of (i := 55) (by decide +kernel) rfl, zT_of (i := 135) (by decide +kernel) rfl, zT_of (i := 1554) (by decide +kernel) rfl⟩
theorem hy_M_refuses : yX12_refuses.cls ≠ "java/lang/invoke/MethodHandle" ∧ yX12_refuses.cls ≠ "java/lang/invoke/VarHandle" ∧ (parseMethodDescriptor yX12_refuses.desc).map (fun d => d.parameters.length) = some 1 := by decide +kernel
theorem w_M_signAt : Cond.instanceMethod yX12_signAt ∈ zT ∧ Cond.selects yX12_signAt.cls yX12_signAt yX12_signAt ∈ zT ∧ Cond.initialized yX12_signAt.cls ∈ zT ∧ Cond.code yX12_signAt cX12_signAt 2 (some .int) ∈ zT := ⟨zT_of (i := 1648) (by decide +kernel) rfl, zT_of (i := 76) (by decide +kernel) rfl, zT_of (i := 135) (by decide +kernel) rfl, zT_of (i := 1649) (by decide +kernel) rfl⟩
theorem hy_M_signAt : yX12_signAt.cls ≠ "java/lang/invoke/MethodHandle" ∧ yX12_signAt.cls ≠ "java/lang/invoke/VarHandle" ∧ (parseMethodDescriptor yX12_signAt.desc).map (fun d => d.parameters.length) = some 1 := by decide +kernel
theorem w_M_taken : Cond.instanceMethod yX12_taken ∈ zT ∧ Cond.selects yX12_taken.cls yX12_taken yX12_taken ∈ zT ∧ Cond.initialized yX12_taken.cls ∈ zT ∧ Cond.code yX12_taken cX12_taken 2 (some .int) ∈ zT := ⟨zT_of (i := 1573) (by decide +kernel) rfl, zT_of (i := 58) (by decide +kernel) rfl, zT_of (i := 135) (by decide +kernel) rfl, zT_of (i := 1574) (by decide +kernel) rfl⟩
theorem hy_M_taken : yX12_taken.cls ≠ "java/lang/invoke/MethodHandle" ∧ yX12_taken.cls ≠ "java/lang/invoke/VarHandle" ∧ (parseMethodDescriptor yX12_taken.desc).map (fun d => d.parameters.length) = some 0 := by decide +kernel
theorem w_M_word : Cond.instanceMethod yX12_word ∈ zT ∧ Cond.selects yX12_word.cls yX12_word yX12_word ∈ zT ∧ Cond.initialized yX12_word.cls ∈ zT ∧ Cond.code yX12_word cX12_word 1 none ∈ zT := ⟨zT_of (i := 1585) (by decide +kernel) rfl, zT_of (i := 61) (by decide +kernel) rfl, zT_of (i := 135) (by decide +kernel) rfl, zT_of (i := 1586) (by decide +kernel) rfl⟩
theorem hy_M_word : yX12_word.cls ≠ "java/lang/invoke/MethodHandle" ∧ yX12_word.cls ≠ "java/lang/invoke/VarHandle" ∧ (parseMethodDescriptor yX12_word.desc).map (fun d => d.parameters.length) = some 0 := by decide +kernel
theorem dX12_refuses_0 : decode cX12_refuses 0 = .ok (.aload_n 0, 1) := by decide +kernel
theorem dX12_refuses_1 : decode cX12_refuses 1 = .ok (.getfield 99, 3) := by decide +kernel
theorem dX12_refuses_4 : decode cX12_refuses 4 = .ok (.iload_n 1, 1) := by decide +kernel
theorem dX12_refuses_5 : decode cX12_refuses 5 = .ok (.dup2, 1) := by decide +kernel
theorem dX12_refuses_6 : decode cX12_refuses 6 = .ok (.iaload, 1) := by decide +kernel
theorem dX12_refuses_7 : decode cX12_refuses 7 = .ok (.iconst 1, 1) := by decide +kernel
theorem dX12_refuses_8 : decode cX12_refuses 8 = .ok (.iadd, 1) := by decide +kernel
theorem dX12_refuses_9 : decode cX12_refuses 9 = .ok (.iastore, 1) := by decide +kernel
theorem dX12_refuses_10 : decode cX12_refuses 10 = .ok (.iconst (-1), 1) := by decide +kernel
theorem dX12_refuses_11 : decode cX12_refuses 11 = .ok (.ireturn, 1) := by decide +kernel
abbrev rm_M_refuses : Room := { frames := 0, cells := 0, slots := 0, locals := 0 }
def M_refuses (σ : Sg) (x1 : Int32) : Option (Int32 × Sg) :=
  zrd σ 187 6 x1 fun v6 =>
  zwr σ 187 6 x1 (v6 + 1) fun σ9 =>
  some ((-1), σ9)
set_option maxRecDepth 20000 in
theorem t_M_refuses {X : Zx} {Q : State → Prop} {σ : Sg} {x1 : Int32} (ok : Zok X cX12_refuses RX12 rm_M_refuses 198 2)  {out : (Int32 × Sg)} (hf : M_refuses σ x1 = some out) (hk : ZrI cX12_refuses X Q out.1 out.2) : ZAt X Q 0 0 0 σ [(0, .ref (X.ad 171)), (1, .int x1)] [] := by
  unfold M_refuses at hf
  refine z_aload_n ok dX12_refuses_0 0 rfl ?_
  refine z_getr (q := 187) ok kc_171 zc_12 hin_12 29 (by decide) fl_12_99 rfl dX12_refuses_1 ?_
  refine z_iload_n ok dX12_refuses_4 1 rfl ?_
  refine z_dup2 ok dX12_refuses_5 rfl rfl ?_
  refine z_iald ok kc_187 dX12_refuses_6 hf (fun v6 hf => ?_)
  refine z_iconst (v := 1) ok dX12_refuses_7 (by decide) ?_
  refine z_iadd ok dX12_refuses_8 ?_
  refine z_iast ok kc_187 dX12_refuses_9 hf (fun σ9 hf => ?_)
  refine z_iconst (v := (-1)) ok dX12_refuses_10 (by decide) ?_
  obtain rfl := Option.some.inj hf
  exact hk _ _ dX12_refuses_11
theorem c_M_refuses {σ : Sg} {x1 : Int32} {r : (Int32 × Sg)} (h : M_refuses σ x1 = some r) : ZcI yX12_refuses cX12_refuses 2 .int rm_M_refuses 198 (fun ad => [.ref (ad 171), .int x1]) σ r.1 r.2 :=
  zmetI pn_12 rfl (fun _ => rfl) (fun _ => Nat.le_of_ble_eq_true rfl) rfl (fun X Q ok hk => t_M_refuses ok h hk)
theorem dX12_lays_0 : decode cX12_lays 0 = .ok (.iconst 0, 1) := by decide +kernel
theorem dX12_lays_1 : decode cX12_lays 1 = .ok (.istore_n 2, 1) := by decide +kernel
theorem dX12_lays_2 : decode cX12_lays 2 = .ok (.iload_n 2, 1) := by decide +kernel
theorem dX12_lays_3 : decode cX12_lays 3 = .ok (.iconst 4, 1) := by decide +kernel
theorem dX12_lays_4 : decode cX12_lays 4 = .ok (.if_icmp .ge 33, 3) := by decide +kernel
theorem dX12_lays_7 : decode cX12_lays 7 = .ok (.aload_n 0, 1) := by decide +kernel
theorem dX12_lays_8 : decode cX12_lays 8 = .ok (.getfield 93, 3) := by decide +kernel
theorem dX12_lays_11 : decode cX12_lays 11 = .ok (.aload_n 0, 1) := by decide +kernel
theorem dX12_lays_12 : decode cX12_lays 12 = .ok (.getfield 96, 3) := by decide +kernel
theorem dX12_lays_15 : decode cX12_lays 15 = .ok (.iload_n 2, 1) := by decide +kernel
theorem dX12_lays_16 : decode cX12_lays 16 = .ok (.iadd, 1) := by decide +kernel
theorem dX12_lays_17 : decode cX12_lays 17 = .ok (.iload_n 1, 1) := by decide +kernel
theorem dX12_lays_18 : decode cX12_lays 18 = .ok (.bipush 24, 2) := by decide +kernel
theorem dX12_lays_20 : decode cX12_lays 20 = .ok (.bipush 8, 2) := by decide +kernel
theorem dX12_lays_22 : decode cX12_lays 22 = .ok (.iload_n 2, 1) := by decide +kernel
theorem dX12_lays_23 : decode cX12_lays 23 = .ok (.imul, 1) := by decide +kernel
theorem dX12_lays_24 : decode cX12_lays 24 = .ok (.isub, 1) := by decide +kernel
theorem dX12_lays_25 : decode cX12_lays 25 = .ok (.ishr, 1) := by decide +kernel
theorem dX12_lays_26 : decode cX12_lays 26 = .ok (.sipush 255, 3) := by decide +kernel
theorem dX12_lays_29 : decode cX12_lays 29 = .ok (.iand, 1) := by decide +kernel
theorem dX12_lays_30 : decode cX12_lays 30 = .ok (.iastore, 1) := by decide +kernel
theorem dX12_lays_31 : decode cX12_lays 31 = .ok (.iinc 2 1, 3) := by decide +kernel
theorem dX12_lays_34 : decode cX12_lays 34 = .ok (.goto (-32), 3) := by decide +kernel
theorem dX12_lays_37 : decode cX12_lays 37 = .ok (.aload_n 0, 1) := by decide +kernel
theorem dX12_lays_38 : decode cX12_lays 38 = .ok (.dup, 1) := by decide +kernel
theorem dX12_lays_39 : decode cX12_lays 39 = .ok (.getfield 96, 3) := by decide +kernel
theorem dX12_lays_42 : decode cX12_lays 42 = .ok (.iconst 4, 1) := by decide +kernel
theorem dX12_lays_43 : decode cX12_lays 43 = .ok (.iadd, 1) := by decide +kernel
theorem dX12_lays_44 : decode cX12_lays 44 = .ok (.putfield 96, 3) := by decide +kernel
theorem dX12_lays_47 : decode cX12_lays 47 = .ok (.return_, 1) := by decide +kernel
abbrev rm_M_lays : Room := { frames := 0, cells := 0, slots := 0, locals := 0 }
def M_lays_l2 (σ : Sg) (x1 : Int32) (x2 : Int32) : Option ((Sg × Int32) ⊕ (Sg × Int32)) :=
  if 4 ≤ x2 then (
    some (.inr (σ, x2))
  ) else (
    zgt σ 171 28 fun v12 =>
    zwr σ 186 1600 (v12 + x2) ((x1 >>> ((24 - (8 * x2)) &&& 31)) &&& 255) fun σ30 =>
    zlt (x2 + 1) fun v31 =>
    some (.inl (σ30, v31))
  )
set_option maxRecDepth 20000 in
theorem t_M_lays_l2 {X : Zx} {Q : State → Prop} {σ : Sg} {x1 : Int32} {x2 : Int32} (ok : Zok X cX12_lays RX12 rm_M_lays 198 3)  {out : ((Sg × Int32) ⊕ (Sg × Int32))} (hf : M_lays_l2 σ x1 x2 = some out) (hk : zout (fun (s : (Sg × Int32)) => ZAt X Q 0 0 2 s.1 [(0, .ref (X.ad 171)), (1, .int x1), (2, .int s.2)] []) (fun (s : (Sg × Int32)) => ZAt X Q 0 0 37 s.1 [(0, .ref (X.ad 171))] []) out) : ZAt X Q 0 0 2 σ [(0, .ref (X.ad 171)), (1, .int x1), (2, .int x2)] [] := by
  unfold M_lays_l2 at hf
  refine z_iload_n ok dX12_lays_2 2 rfl ?_
  refine z_iconst (v := 4) ok dX12_lays_3 (by decide) ?_
  refine z_icmp_ge (tgt := 37) ok dX12_lays_4 (by decide) hf (fun _ hf => ?_) (fun _ hf => ?_)
  · obtain rfl := Option.some.inj hf
    exact z_sub [0] rfl hk
  · refine z_aload_n ok dX12_lays_7 0 rfl ?_
    refine z_getr (q := 186) ok kc_171 zc_12 hin_12 27 (by decide) fl_12_93 rfl dX12_lays_8 ?_
    refine z_aload_n ok dX12_lays_11 0 rfl ?_
    refine z_geti ok kc_171 zc_12 hin_12 28 (by decide) fl_12_96 rfl dX12_lays_12 hf (fun v12 hf => ?_)
    refine z_iload_n ok dX12_lays_15 2 rfl ?_
    refine z_iadd ok dX12_lays_16 ?_
    refine z_iload_n ok dX12_lays_17 1 rfl ?_
    refine z_bipush (v := 24) ok dX12_lays_18 (by decide) ?_
    refine z_bipush (v := 8) ok dX12_lays_20 (by decide) ?_
    refine z_iload_n ok dX12_lays_22 2 rfl ?_
    refine z_imul ok dX12_lays_23 ?_
    refine z_isub ok dX12_lays_24 ?_
    refine z_ishr ok dX12_lays_25 ?_
    refine z_sipush (v := 255) ok dX12_lays_26 (by decide) ?_
    refine z_iand ok dX12_lays_29 ?_
    refine z_iast ok kc_186 dX12_lays_30 hf (fun σ30 hf => ?_)
    refine z_iinc (w := 1) (lv' := fun v31 => [(2, .int v31), (0, .ref (X.ad 171)), (1, .int x1)]) ok dX12_lays_31 2 rfl (by decide) (by decide) (fun _ => rfl) hf (fun v31 hf => ?_)
    refine z_goto (tgt := 2) ok dX12_lays_34 (by decide) ?_
    obtain rfl := Option.some.inj hf
    exact z_sub [1, 2, 0] rfl hk
def M_lays (σ : Sg) (x1 : Int32) : Option Sg :=
  zlt 0 fun v1 =>
  (zit (fun (s : (Sg × Int32)) => M_lays_l2 s.1 x1 s.2) zFU (σ, v1)).bind fun r =>
  zgt r.1 171 28 fun v39 =>
  zpt r.1 171 28 (v39 + 4) fun σ44 =>
  some σ44
set_option maxRecDepth 20000 in
theorem t_M_lays {X : Zx} {Q : State → Prop} {σ : Sg} {x1 : Int32} (ok : Zok X cX12_lays RX12 rm_M_lays 198 3)  {out : Sg} (hf : M_lays σ x1 = some out) (hk : ZrV cX12_lays X Q out) : ZAt X Q 0 0 0 σ [(0, .ref (X.ad 171)), (1, .int x1)] [] := by
  unfold M_lays at hf
  refine z_iconst (v := 0) ok dX12_lays_0 (by decide) ?_
  refine z_nm hf (fun v1 hf => ?_)
  refine z_istore_n (lv' := [(2, .int v1), (0, .ref (X.ad 171)), (1, .int x1)]) ok dX12_lays_1 (by decide) rfl ?_
  refine z_call hf (fun r hr hf => ?_)
  refine z_sub [1, 2, 0] rfl (z_iter (fun (s : (Sg × Int32)) => s.1) (fun (s : (Sg × Int32)) => [(0, .ref (X.ad 171)), (1, .int x1), (2, .int s.2)]) (fun s o h1 h2 => t_M_lays_l2 ok h1 h2) _ _ _ hr ?_)
  show ZAt X Q 0 0 37 r.1 [(0, .ref (X.ad 171))] []
  refine z_aload_n ok dX12_lays_37 0 rfl ?_
  refine z_dup ok dX12_lays_38 rfl ?_
  refine z_geti ok kc_171 zc_12 hin_12 28 (by decide) fl_12_96 rfl dX12_lays_39 hf (fun v39 hf => ?_)
  refine z_iconst (v := 4) ok dX12_lays_42 (by decide) ?_
  refine z_iadd ok dX12_lays_43 ?_
  refine z_puti ok kc_171 zc_12 hin_12 tyX12 tyX12_ok nmX12 28 (by decide) fl_12_96 rfl rfl (tyX12_ok 28 (by decide)) dX12_lays_44 hf (fun σ44 hf => ?_)
  obtain rfl := Option.some.inj hf
  exact hk _ _ dX12_lays_47
theorem c_M_lays {σ : Sg} {x1 : Int32} {r : Sg} (h : M_lays σ x1 = some r) : ZcV yX12_lays cX12_lays 3 rm_M_lays 198 (fun ad => [.ref (ad 171), .int x1]) σ r :=
  zmetV pn_12 rfl (fun _ => rfl) (fun _ => Nat.le_of_ble_eq_true rfl) (fun X Q ok hk => t_M_lays ok h hk)
theorem dX12_feed_0 : decode cX12_feed 0 = .ok (.aload_n 0, 1) := by decide +kernel
theorem dX12_feed_1 : decode cX12_feed 1 = .ok (.getfield 96, 3) := by decide +kernel
theorem dX12_feed_4 : decode cX12_feed 4 = .ok (.bipush 20, 2) := by decide +kernel
theorem dX12_feed_6 : decode cX12_feed 6 = .ok (.iadd, 1) := by decide +kernel
theorem dX12_feed_7 : decode cX12_feed 7 = .ok (.sipush 1600, 3) := by decide +kernel
theorem dX12_feed_10 : decode cX12_feed 10 = .ok (.if_icmp .le 9, 3) := by decide +kernel
theorem dX12_feed_13 : decode cX12_feed 13 = .ok (.aload_n 0, 1) := by decide +kernel
theorem dX12_feed_14 : decode cX12_feed 14 = .ok (.iconst 0, 1) := by decide +kernel
theorem dX12_feed_15 : decode cX12_feed 15 = .ok (.invokevirtual 159, 3) := by decide +kernel
theorem dX12_feed_18 : decode cX12_feed 18 = .ok (.ireturn, 1) := by decide +kernel
theorem dX12_feed_19 : decode cX12_feed 19 = .ok (.aload_n 0, 1) := by decide +kernel
theorem dX12_feed_20 : decode cX12_feed 20 = .ok (.iload_n 1, 1) := by decide +kernel
theorem dX12_feed_21 : decode cX12_feed 21 = .ok (.invokevirtual 163, 3) := by decide +kernel
theorem dX12_feed_24 : decode cX12_feed 24 = .ok (.aload_n 0, 1) := by decide +kernel
theorem dX12_feed_25 : decode cX12_feed 25 = .ok (.iload_n 2, 1) := by decide +kernel
theorem dX12_feed_26 : decode cX12_feed 26 = .ok (.invokevirtual 163, 3) := by decide +kernel
theorem dX12_feed_29 : decode cX12_feed 29 = .ok (.aload_n 0, 1) := by decide +kernel
theorem dX12_feed_30 : decode cX12_feed 30 = .ok (.iload_n 3, 1) := by decide +kernel
theorem dX12_feed_31 : decode cX12_feed 31 = .ok (.invokevirtual 163, 3) := by decide +kernel
theorem dX12_feed_34 : decode cX12_feed 34 = .ok (.aload_n 0, 1) := by decide +kernel
theorem dX12_feed_35 : decode cX12_feed 35 = .ok (.iload 4, 2) := by decide +kernel
theorem dX12_feed_37 : decode cX12_feed 37 = .ok (.invokevirtual 163, 3) := by decide +kernel
theorem dX12_feed_40 : decode cX12_feed 40 = .ok (.aload_n 0, 1) := by decide +kernel
theorem dX12_feed_41 : decode cX12_feed 41 = .ok (.iload 5, 2) := by decide +kernel
theorem dX12_feed_43 : decode cX12_feed 43 = .ok (.invokevirtual 163, 3) := by decide +kernel
theorem dX12_feed_46 : decode cX12_feed 46 = .ok (.aload_n 0, 1) := by decide +kernel
theorem dX12_feed_47 : decode cX12_feed 47 = .ok (.getfield 96, 3) := by decide +kernel
theorem dX12_feed_50 : decode cX12_feed 50 = .ok (.ireturn, 1) := by decide +kernel
abbrev rm_M_feed : Room := { frames := 1, cells := 0, slots := 0, locals := 22 }
def M_feed (σ : Sg) (x1 : Int32) (x2 : Int32) (x3 : Int32) (x4 : Int32) (x5 : Int32) : Option (Int32 × Sg) :=
  zgt σ 171 28 fun v1 =>
  if (v1 + 20) ≤ 1600 then (
    (M_lays σ x1).bind fun r21 =>
    (M_lays r21 x2).bind fun r26 =>
    (M_lays r26 x3).bind fun r31 =>
    (M_lays r31 x4).bind fun r37 =>
    (M_lays r37 x5).bind fun r43 =>
    zgt r43 171 28 fun v47 =>
    some (v47, r43)
  ) else (
    (M_refuses σ 0).bind fun r15 =>
    some (r15.1, r15.2)
  )
set_option maxRecDepth 20000 in
theorem t_M_feed {X : Zx} {Q : State → Prop} {σ : Sg} {x1 : Int32} {x2 : Int32} {x3 : Int32} {x4 : Int32} {x5 : Int32} (ok : Zok X cX12_feed RX12 rm_M_feed 198 6)  {out : (Int32 × Sg)} (hf : M_feed σ x1 x2 x3 x4 x5 = some out) (hk : ZrI cX12_feed X Q out.1 out.2) : ZAt X Q 0 0 0 σ [(0, .ref (X.ad 171)), (1, .int x1), (2, .int x2), (3, .int x3), (4, .int x4), (5, .int x5)] [] := by
  unfold M_feed at hf
  refine z_aload_n ok dX12_feed_0 0 rfl ?_
  refine z_geti ok kc_171 zc_12 hin_12 28 (by decide) fl_12_96 rfl dX12_feed_1 hf (fun v1 hf => ?_)
  refine z_bipush (v := 20) ok dX12_feed_4 (by decide) ?_
  refine z_iadd ok dX12_feed_6 ?_
  refine z_sipush (v := 1600) ok dX12_feed_7 (by decide) ?_
  refine z_icmp_le (tgt := 19) ok dX12_feed_10 (by decide) hf (fun _ hf => ?_) (fun _ hf => ?_)
  · refine z_aload_n ok dX12_feed_19 0 rfl ?_
    refine z_iload_n ok dX12_feed_20 1 rfl ?_
    refine z_call hf (fun r21 h21 hf => ?_)
    refine z_cVv (As := [.int x1]) (rest := []) (w := 171) ok kc_171 zc_12 (c_M_lays h21) rfl ⟨ml_12_163, w_M_lays⟩ hy_M_lays ⟨rfl, rfl⟩ ⟨Nat.le_of_ble_eq_true rfl, Nat.le_of_ble_eq_true rfl⟩ ⟨Nat.zero_le _, Nat.zero_le _⟩ rfl (Nat.le_of_ble_eq_true rfl) dX12_feed_21 ?_
    refine z_aload_n ok dX12_feed_24 0 rfl ?_
    refine z_iload_n ok dX12_feed_25 2 rfl ?_
    refine z_call hf (fun r26 h26 hf => ?_)
    refine z_cVv (As := [.int x2]) (rest := []) (w := 171) ok kc_171 zc_12 (c_M_lays h26) rfl ⟨ml_12_163, w_M_lays⟩ hy_M_lays ⟨rfl, rfl⟩ ⟨Nat.le_of_ble_eq_true rfl, Nat.le_of_ble_eq_true rfl⟩ ⟨Nat.zero_le _, Nat.zero_le _⟩ rfl (Nat.le_of_ble_eq_true rfl) dX12_feed_26 ?_
    refine z_aload_n ok dX12_feed_29 0 rfl ?_
    refine z_iload_n ok dX12_feed_30 3 rfl ?_
    refine z_call hf (fun r31 h31 hf => ?_)
    refine z_cVv (As := [.int x3]) (rest := []) (w := 171) ok kc_171 zc_12 (c_M_lays h31) rfl ⟨ml_12_163, w_M_lays⟩ hy_M_lays ⟨rfl, rfl⟩ ⟨Nat.le_of_ble_eq_true rfl, Nat.le_of_ble_eq_true rfl⟩ ⟨Nat.zero_le _, Nat.zero_le _⟩ rfl (Nat.le_of_ble_eq_true rfl) dX12_feed_31 ?_
    refine z_aload_n ok dX12_feed_34 0 rfl ?_
    refine z_iload ok dX12_feed_35 4 rfl ?_
    refine z_call hf (fun r37 h37 hf => ?_)
    refine z_cVv (As := [.int x4]) (rest := []) (w := 171) ok kc_171 zc_12 (c_M_lays h37) rfl ⟨ml_12_163, w_M_lays⟩ hy_M_lays ⟨rfl, rfl⟩ ⟨Nat.le_of_ble_eq_true rfl, Nat.le_of_ble_eq_true rfl⟩ ⟨Nat.zero_le _, Nat.zero_le _⟩ rfl (Nat.le_of_ble_eq_true rfl) dX12_feed_37 ?_
    refine z_aload_n ok dX12_feed_40 0 rfl ?_
    refine z_iload ok dX12_feed_41 5 rfl ?_
    refine z_call hf (fun r43 h43 hf => ?_)
    refine z_cVv (As := [.int x5]) (rest := []) (w := 171) ok kc_171 zc_12 (c_M_lays h43) rfl ⟨ml_12_163, w_M_lays⟩ hy_M_lays ⟨rfl, rfl⟩ ⟨Nat.le_of_ble_eq_true rfl, Nat.le_of_ble_eq_true rfl⟩ ⟨Nat.zero_le _, Nat.zero_le _⟩ rfl (Nat.le_of_ble_eq_true rfl) dX12_feed_43 ?_
    refine z_aload_n ok dX12_feed_46 0 rfl ?_
    refine z_geti ok kc_171 zc_12 hin_12 28 (by decide) fl_12_96 rfl dX12_feed_47 hf (fun v47 hf => ?_)
    obtain rfl := Option.some.inj hf
    exact hk _ _ dX12_feed_50
  · refine z_aload_n ok dX12_feed_13 0 rfl ?_
    refine z_iconst (v := 0) ok dX12_feed_14 (by decide) ?_
    refine z_call hf (fun r15 h15 hf => ?_)
    refine z_cV (As := [.int 0]) (rest := []) (w := 171) ok kc_171 zc_12 (c_M_refuses h15) rfl ⟨ml_12_159, w_M_refuses⟩ hy_M_refuses ⟨rfl, rfl⟩ ⟨Nat.le_of_ble_eq_true rfl, Nat.le_of_ble_eq_true rfl⟩ ⟨Nat.zero_le _, Nat.zero_le _⟩ rfl (Nat.le_of_ble_eq_true rfl) dX12_feed_15 ?_
    obtain rfl := Option.some.inj hf
    exact hk _ _ dX12_feed_18
theorem c_M_feed {σ : Sg} {x1 : Int32} {x2 : Int32} {x3 : Int32} {x4 : Int32} {x5 : Int32} {r : (Int32 × Sg)} (h : M_feed σ x1 x2 x3 x4 x5 = some r) : ZcI yX12_feed cX12_feed 6 .int rm_M_feed 198 (fun ad => [.ref (ad 171), .int x1, .int x2, .int x3, .int x4, .int x5]) σ r.1 r.2 :=
  zmetI pn_12 rfl (fun _ => rfl) (fun _ => Nat.le_of_ble_eq_true rfl) rfl (fun X Q ok hk => t_M_feed ok h hk)
theorem dX12_isRefused_0 : decode cX12_isRefused 0 = .ok (.aload_n 0, 1) := by decide +kernel
theorem dX12_isRefused_1 : decode cX12_isRefused 1 = .ok (.getfield 99, 3) := by decide +kernel
theorem dX12_isRefused_4 : decode cX12_isRefused 4 = .ok (.iload_n 1, 1) := by decide +kernel
theorem dX12_isRefused_5 : decode cX12_isRefused 5 = .ok (.dup2, 1) := by decide +kernel
theorem dX12_isRefused_6 : decode cX12_isRefused 6 = .ok (.iaload, 1) := by decide +kernel
theorem dX12_isRefused_7 : decode cX12_isRefused 7 = .ok (.iconst 1, 1) := by decide +kernel
theorem dX12_isRefused_8 : decode cX12_isRefused 8 = .ok (.iadd, 1) := by decide +kernel
theorem dX12_isRefused_9 : decode cX12_isRefused 9 = .ok (.iastore, 1) := by decide +kernel
theorem dX12_isRefused_10 : decode cX12_isRefused 10 = .ok (.iconst 0, 1) := by decide +kernel
theorem dX12_isRefused_11 : decode cX12_isRefused 11 = .ok (.ireturn, 1) := by decide +kernel
abbrev rm_M_isRefused : Room := { frames := 0, cells := 0, slots := 0, locals := 0 }
def M_isRefused (σ : Sg) (x1 : Int32) : Option (Bool × Sg) :=
  zrd σ 187 6 x1 fun v6 =>
  zwr σ 187 6 x1 (v6 + 1) fun σ9 =>
  some (false, σ9)
set_option maxRecDepth 20000 in
theorem t_M_isRefused {X : Zx} {Q : State → Prop} {σ : Sg} {x1 : Int32} (ok : Zok X cX12_isRefused RX12 rm_M_isRefused 198 2)  {out : (Bool × Sg)} (hf : M_isRefused σ x1 = some out) (hk : ZrI cX12_isRefused X Q (zb out.1) out.2) : ZAt X Q 0 0 0 σ [(0, .ref (X.ad 171)), (1, .int x1)] [] := by
  unfold M_isRefused at hf
  refine z_aload_n ok dX12_isRefused_0 0 rfl ?_
  refine z_getr (q := 187) ok kc_171 zc_12 hin_12 29 (by decide) fl_12_99 rfl dX12_isRefused_1 ?_
  refine z_iload_n ok dX12_isRefused_4 1 rfl ?_
  refine z_dup2 ok dX12_isRefused_5 rfl rfl ?_
  refine z_iald ok kc_187 dX12_isRefused_6 hf (fun v6 hf => ?_)
  refine z_iconst (v := 1) ok dX12_isRefused_7 (by decide) ?_
  refine z_iadd ok dX12_isRefused_8 ?_
  refine z_iast ok kc_187 dX12_isRefused_9 hf (fun σ9 hf => ?_)
  refine z_iconst (v := 0) ok dX12_isRefused_10 (by decide) ?_
  obtain rfl := Option.some.inj hf
  exact hk _ _ dX12_isRefused_11
theorem c_M_isRefused {σ : Sg} {x1 : Int32} {r : (Bool × Sg)} (h : M_isRefused σ x1 = some r) : ZcI yX12_isRefused cX12_isRefused 2 .boolean rm_M_isRefused 198 (fun ad => [.ref (ad 171), .int x1]) σ (zb r.1) r.2 :=
  zmetI pn_12 rfl (fun _ => rfl) (fun _ => Nat.le_of_ble_eq_true rfl) (zb_nar _) (fun X Q ok hk => t_M_isRefused ok h hk)
theorem dX12_end_0 : decode cX12_end 0 = .ok (.iload_n 1, 1) := by decide +kernel
theorem dX12_end_1 : decode cX12_end 1 = .ok (.ifCond .lt 11, 3) := by decide +kernel
theorem dX12_end_4 : decode cX12_end 4 = .ok (.iload_n 1, 1) := by decide +kernel
theorem dX12_end_5 : decode cX12_end 5 = .ok (.aload_n 0, 1) := by decide +kernel
theorem dX12_end_6 : decode cX12_end 6 = .ok (.getfield 96, 3) := by decide +kernel
theorem dX12_end_9 : decode cX12_end 9 = .ok (.if_icmp .le 9, 3) := by decide +kernel
theorem dX12_end_12 : decode cX12_end 12 = .ok (.aload_n 0, 1) := by decide +kernel
theorem dX12_end_13 : decode cX12_end 13 = .ok (.iconst 0, 1) := by decide +kernel
theorem dX12_end_14 : decode cX12_end 14 = .ok (.invokevirtual 167, 3) := by decide +kernel
theorem dX12_end_17 : decode cX12_end 17 = .ok (.ireturn, 1) := by decide +kernel
theorem dX12_end_18 : decode cX12_end 18 = .ok (.aload_n 0, 1) := by decide +kernel
theorem dX12_end_19 : decode cX12_end 19 = .ok (.iload_n 1, 1) := by decide +kernel
theorem dX12_end_20 : decode cX12_end 20 = .ok (.putfield 96, 3) := by decide +kernel
theorem dX12_end_23 : decode cX12_end 23 = .ok (.iconst 1, 1) := by decide +kernel
theorem dX12_end_24 : decode cX12_end 24 = .ok (.ireturn, 1) := by decide +kernel
abbrev rm_M_end : Room := { frames := 1, cells := 0, slots := 0, locals := 21 }
def M_end (σ : Sg) (x1 : Int32) : Option (Bool × Sg) :=
  if x1 < 0 then (
    (M_isRefused σ 0).bind fun r14 =>
    some (r14.1, r14.2)
  ) else (
    zgt σ 171 28 fun v6 =>
    if x1 ≤ v6 then (
      zpt σ 171 28 x1 fun σ20 =>
      some (true, σ20)
    ) else (
      (M_isRefused σ 0).bind fun r14 =>
      some (r14.1, r14.2)
    )
  )
set_option maxRecDepth 20000 in
theorem t_M_end {X : Zx} {Q : State → Prop} {σ : Sg} {x1 : Int32} (ok : Zok X cX12_end RX12 rm_M_end 198 2)  {out : (Bool × Sg)} (hf : M_end σ x1 = some out) (hk : ZrI cX12_end X Q (zb out.1) out.2) : ZAt X Q 0 0 0 σ [(0, .ref (X.ad 171)), (1, .int x1)] [] := by
  unfold M_end at hf
  refine z_iload_n ok dX12_end_0 1 rfl ?_
  refine z_if_lt (tgt := 12) ok dX12_end_1 (by decide) hf (fun _ hf => ?_) (fun _ hf => ?_)
  · refine z_aload_n ok dX12_end_12 0 rfl ?_
    refine z_iconst (v := 0) ok dX12_end_13 (by decide) ?_
    refine z_call hf (fun r14 h14 hf => ?_)
    refine z_cV (As := [.int 0]) (rest := []) (w := 171) ok kc_171 zc_12 (c_M_isRefused h14) rfl ⟨ml_12_167, w_M_isRefused⟩ hy_M_isRefused ⟨rfl, rfl⟩ ⟨Nat.le_of_ble_eq_true rfl, Nat.le_of_ble_eq_true rfl⟩ ⟨Nat.zero_le _, Nat.zero_le _⟩ rfl (Nat.le_of_ble_eq_true rfl) dX12_end_14 ?_
    obtain rfl := Option.some.inj hf
    exact hk _ _ dX12_end_17
  · refine z_iload_n ok dX12_end_4 1 rfl ?_
    refine z_aload_n ok dX12_end_5 0 rfl ?_
    refine z_geti ok kc_171 zc_12 hin_12 28 (by decide) fl_12_96 rfl dX12_end_6 hf (fun v6 hf => ?_)
    refine z_icmp_le (tgt := 18) ok dX12_end_9 (by decide) hf (fun _ hf => ?_) (fun _ hf => ?_)
    · refine z_aload_n ok dX12_end_18 0 rfl ?_
      refine z_iload_n ok dX12_end_19 1 rfl ?_
      refine z_puti ok kc_171 zc_12 hin_12 tyX12 tyX12_ok nmX12 28 (by decide) fl_12_96 rfl rfl (tyX12_ok 28 (by decide)) dX12_end_20 hf (fun σ20 hf => ?_)
      refine z_iconst (v := 1) ok dX12_end_23 (by decide) ?_
      obtain rfl := Option.some.inj hf
      exact hk _ _ dX12_end_24
    · refine z_aload_n ok dX12_end_12 0 rfl ?_
      refine z_iconst (v := 0) ok dX12_end_13 (by decide) ?_
      refine z_call hf (fun r14 h14 hf => ?_)
      refine z_cV (As := [.int 0]) (rest := []) (w := 171) ok kc_171 zc_12 (c_M_isRefused h14) rfl ⟨ml_12_167, w_M_isRefused⟩ hy_M_isRefused ⟨rfl, rfl⟩ ⟨Nat.le_of_ble_eq_true rfl, Nat.le_of_ble_eq_true rfl⟩ ⟨Nat.zero_le _, Nat.zero_le _⟩ rfl (Nat.le_of_ble_eq_true rfl) dX12_end_14 ?_
      obtain rfl := Option.some.inj hf
      exact hk _ _ dX12_end_17
theorem c_M_end {σ : Sg} {x1 : Int32} {r : (Bool × Sg)} (h : M_end σ x1 = some r) : ZcI yX12_end cX12_end 2 .boolean rm_M_end 198 (fun ad => [.ref (ad 171), .int x1]) σ (zb r.1) r.2 :=
  zmetI pn_12 rfl (fun _ => rfl) (fun _ => Nat.le_of_ble_eq_true rfl) (zb_nar _) (fun X Q ok hk => t_M_end ok h hk)
theorem dX12_taken_0 : decode cX12_taken 0 = .ok (.aload_n 0, 1) := by decide +kernel
theorem dX12_taken_1 : decode cX12_taken 1 = .ok (.getfield 96, 3) := by decide +kernel
theorem dX12_taken_4 : decode cX12_taken 4 = .ok (.istore_n 1, 1) := by decide +kernel
theorem dX12_taken_5 : decode cX12_taken 5 = .ok (.aload_n 0, 1) := by decide +kernel
theorem dX12_taken_6 : decode cX12_taken 6 = .ok (.iconst 0, 1) := by decide +kernel
theorem dX12_taken_7 : decode cX12_taken 7 = .ok (.putfield 96, 3) := by decide +kernel
theorem dX12_taken_10 : decode cX12_taken 10 = .ok (.iload_n 1, 1) := by decide +kernel
theorem dX12_taken_11 : decode cX12_taken 11 = .ok (.ireturn, 1) := by decide +kernel
abbrev rm_M_taken : Room := { frames := 0, cells := 0, slots := 0, locals := 0 }
def M_taken (σ : Sg)  : Option (Int32 × Sg) :=
  zgt σ 171 28 fun v1 =>
  zpt σ 171 28 0 fun σ7 =>
  some (v1, σ7)
set_option maxRecDepth 20000 in
theorem t_M_taken {X : Zx} {Q : State → Prop} {σ : Sg}  (ok : Zok X cX12_taken RX12 rm_M_taken 198 2)  {out : (Int32 × Sg)} (hf : M_taken σ = some out) (hk : ZrI cX12_taken X Q out.1 out.2) : ZAt X Q 0 0 0 σ [(0, .ref (X.ad 171))] [] := by
  unfold M_taken at hf
  refine z_aload_n ok dX12_taken_0 0 rfl ?_
  refine z_geti ok kc_171 zc_12 hin_12 28 (by decide) fl_12_96 rfl dX12_taken_1 hf (fun v1 hf => ?_)
  refine z_istore_n (lv' := [(1, .int v1), (0, .ref (X.ad 171))]) ok dX12_taken_4 (by decide) rfl ?_
  refine z_aload_n ok dX12_taken_5 1 rfl ?_
  refine z_iconst (v := 0) ok dX12_taken_6 (by decide) ?_
  refine z_puti ok kc_171 zc_12 hin_12 tyX12 tyX12_ok nmX12 28 (by decide) fl_12_96 rfl rfl (tyX12_ok 28 (by decide)) dX12_taken_7 hf (fun σ7 hf => ?_)
  refine z_iload_n ok dX12_taken_10 0 rfl ?_
  obtain rfl := Option.some.inj hf
  exact hk _ _ dX12_taken_11
theorem c_M_taken {σ : Sg} {r : (Int32 × Sg)} (h : M_taken σ = some r) : ZcI yX12_taken cX12_taken 2 .int rm_M_taken 198 (fun ad => [.ref (ad 171)]) σ r.1 r.2 :=
  zmetI pn_12 rfl (fun _ => rfl) (fun _ => Nat.le_of_ble_eq_true rfl) rfl (fun X Q ok hk => t_M_taken ok h hk)
theorem dX12_goesWell_0 : decode cX12_goesWell 0 = .ok (.aload_n 0, 1) := by decide +kernel
theorem dX12_goesWell_1 : decode cX12_goesWell 1 = .ok (.getfield 117, 3) := by decide +kernel
theorem dX12_goesWell_4 : decode cX12_goesWell 4 = .ok (.ifCond .ne 7, 3) := by decide +kernel
theorem dX12_goesWell_7 : decode cX12_goesWell 7 = .ok (.iconst 1, 1) := by decide +kernel
theorem dX12_goesWell_8 : decode cX12_goesWell 8 = .ok (.goto 4, 3) := by decide +kernel
theorem dX12_goesWell_11 : decode cX12_goesWell 11 = .ok (.iconst 0, 1) := by decide +kernel
theorem dX12_goesWell_12 : decode cX12_goesWell 12 = .ok (.ireturn, 1) := by decide +kernel
abbrev rm_M_goesWell : Room := { frames := 0, cells := 0, slots := 0, locals := 0 }
def M_goesWell (σ : Sg)  : Option Bool :=
  zgt σ 171 35 fun v1 =>
  if v1 = 0 then (
    some true
  ) else (
    some false
  )
set_option maxRecDepth 20000 in
theorem t_M_goesWell {X : Zx} {Q : State → Prop} {σ : Sg}  (ok : Zok X cX12_goesWell RX12 rm_M_goesWell 198 1)  {out : Bool} (hf : M_goesWell σ = some out) (hk : ZrI cX12_goesWell X Q (zb out) σ) : ZAt X Q 0 0 0 σ [(0, .ref (X.ad 171))] [] := by
  unfold M_goesWell at hf
  refine z_aload_n ok dX12_goesWell_0 0 rfl ?_
  refine z_geti ok kc_171 zc_12 hin_12 35 (by decide) fl_12_117 rfl dX12_goesWell_1 hf (fun v1 hf => ?_)
  refine z_if_ne (tgt := 11) ok dX12_goesWell_4 (by decide) hf (fun _ hf => ?_) (fun _ hf => ?_)
  · refine z_iconst (v := 1) ok dX12_goesWell_7 (by decide) ?_
    refine z_goto (tgt := 12) ok dX12_goesWell_8 (by decide) ?_
    obtain rfl := Option.some.inj hf
    exact hk _ _ dX12_goesWell_12
  · refine z_iconst (v := 0) ok dX12_goesWell_11 (by decide) ?_
    obtain rfl := Option.some.inj hf
    exact hk _ _ dX12_goesWell_12
theorem c_M_goesWell {σ : Sg} {r : Bool} (h : M_goesWell σ = some r) : ZcI yX12_goesWell cX12_goesWell 1 .boolean rm_M_goesWell 198 (fun ad => [.ref (ad 171)]) σ (zb r) σ :=
  zmetI pn_12 rfl (fun _ => rfl) (fun _ => Nat.le_of_ble_eq_true rfl) (zb_nar _) (fun X Q ok hk => t_M_goesWell ok h hk)
theorem dX12_byteAt_0 : decode cX12_byteAt 0 = .ok (.iload_n 1, 1) := by decide +kernel
theorem dX12_byteAt_1 : decode cX12_byteAt 1 = .ok (.ifCond .lt 20, 3) := by decide +kernel
theorem dX12_byteAt_4 : decode cX12_byteAt 4 = .ok (.iload_n 1, 1) := by decide +kernel
theorem dX12_byteAt_5 : decode cX12_byteAt 5 = .ok (.aload_n 0, 1) := by decide +kernel
theorem dX12_byteAt_6 : decode cX12_byteAt 6 = .ok (.getfield 108, 3) := by decide +kernel
theorem dX12_byteAt_9 : decode cX12_byteAt 9 = .ok (.if_icmp .ge 12, 3) := by decide +kernel
theorem dX12_byteAt_12 : decode cX12_byteAt 12 = .ok (.aload_n 0, 1) := by decide +kernel
theorem dX12_byteAt_13 : decode cX12_byteAt 13 = .ok (.getfield 93, 3) := by decide +kernel
theorem dX12_byteAt_16 : decode cX12_byteAt 16 = .ok (.iload_n 1, 1) := by decide +kernel
theorem dX12_byteAt_17 : decode cX12_byteAt 17 = .ok (.iaload, 1) := by decide +kernel
theorem dX12_byteAt_18 : decode cX12_byteAt 18 = .ok (.goto 4, 3) := by decide +kernel
theorem dX12_byteAt_21 : decode cX12_byteAt 21 = .ok (.iconst (-1), 1) := by decide +kernel
theorem dX12_byteAt_22 : decode cX12_byteAt 22 = .ok (.ireturn, 1) := by decide +kernel
abbrev rm_M_byteAt : Room := { frames := 0, cells := 0, slots := 0, locals := 0 }
def M_byteAt (σ : Sg) (x1 : Int32) : Option Int32 :=
  if x1 < 0 then (
    some (-1)
  ) else (
    zgt σ 171 32 fun v6 =>
    if v6 ≤ x1 then (
      some (-1)
    ) else (
      zrd σ 186 1600 x1 fun v17 =>
      some v17
    )
  )
set_option maxRecDepth 20000 in
theorem t_M_byteAt {X : Zx} {Q : State → Prop} {σ : Sg} {x1 : Int32} (ok : Zok X cX12_byteAt RX12 rm_M_byteAt 198 2)  {out : Int32} (hf : M_byteAt σ x1 = some out) (hk : ZrI cX12_byteAt X Q out σ) : ZAt X Q 0 0 0 σ [(0, .ref (X.ad 171)), (1, .int x1)] [] := by
  unfold M_byteAt at hf
  refine z_iload_n ok dX12_byteAt_0 1 rfl ?_
  refine z_if_lt (tgt := 21) ok dX12_byteAt_1 (by decide) hf (fun _ hf => ?_) (fun _ hf => ?_)
  · refine z_iconst (v := (-1)) ok dX12_byteAt_21 (by decide) ?_
    obtain rfl := Option.some.inj hf
    exact hk _ _ dX12_byteAt_22
  · refine z_iload_n ok dX12_byteAt_4 1 rfl ?_
    refine z_aload_n ok dX12_byteAt_5 0 rfl ?_
    refine z_geti ok kc_171 zc_12 hin_12 32 (by decide) fl_12_108 rfl dX12_byteAt_6 hf (fun v6 hf => ?_)
    refine z_icmp_ge (tgt := 21) ok dX12_byteAt_9 (by decide) hf (fun _ hf => ?_) (fun _ hf => ?_)
    · refine z_iconst (v := (-1)) ok dX12_byteAt_21 (by decide) ?_
      obtain rfl := Option.some.inj hf
      exact hk _ _ dX12_byteAt_22
    · refine z_aload_n ok dX12_byteAt_12 0 rfl ?_
      refine z_getr (q := 186) ok kc_171 zc_12 hin_12 27 (by decide) fl_12_93 rfl dX12_byteAt_13 ?_
      refine z_iload_n ok dX12_byteAt_16 1 rfl ?_
      refine z_iald ok kc_186 dX12_byteAt_17 hf (fun v17 hf => ?_)
      refine z_goto (tgt := 22) ok dX12_byteAt_18 (by decide) ?_
      obtain rfl := Option.some.inj hf
      exact hk _ _ dX12_byteAt_22
theorem c_M_byteAt {σ : Sg} {x1 : Int32} {r : Int32} (h : M_byteAt σ x1 = some r) : ZcI yX12_byteAt cX12_byteAt 2 .int rm_M_byteAt 198 (fun ad => [.ref (ad 171), .int x1]) σ r σ :=
  zmetI pn_12 rfl (fun _ => rfl) (fun _ => Nat.le_of_ble_eq_true rfl) rfl (fun X Q ok hk => t_M_byteAt ok h hk)
theorem dX12_here_0 : decode cX12_here 0 = .ok (.aload_n 0, 1) := by decide +kernel
theorem dX12_here_1 : decode cX12_here 1 = .ok (.aload_n 0, 1) := by decide +kernel
theorem dX12_here_2 : decode cX12_here 2 = .ok (.getfield 111, 3) := by decide +kernel
theorem dX12_here_5 : decode cX12_here 5 = .ok (.invokevirtual 171, 3) := by decide +kernel
theorem dX12_here_8 : decode cX12_here 8 = .ok (.bipush 10, 2) := by decide +kernel
theorem dX12_here_10 : decode cX12_here 10 = .ok (.if_icmp .eq 16, 3) := by decide +kernel
theorem dX12_here_13 : decode cX12_here 13 = .ok (.aload_n 0, 1) := by decide +kernel
theorem dX12_here_14 : decode cX12_here 14 = .ok (.aload_n 0, 1) := by decide +kernel
theorem dX12_here_15 : decode cX12_here 15 = .ok (.getfield 111, 3) := by decide +kernel
theorem dX12_here_18 : decode cX12_here 18 = .ok (.invokevirtual 171, 3) := by decide +kernel
theorem dX12_here_21 : decode cX12_here 21 = .ok (.bipush 32, 2) := by decide +kernel
theorem dX12_here_23 : decode cX12_here 23 = .ok (.if_icmp .ne 16, 3) := by decide +kernel
theorem dX12_here_26 : decode cX12_here 26 = .ok (.aload_n 0, 1) := by decide +kernel
theorem dX12_here_27 : decode cX12_here 27 = .ok (.dup, 1) := by decide +kernel
theorem dX12_here_28 : decode cX12_here 28 = .ok (.getfield 111, 3) := by decide +kernel
theorem dX12_here_31 : decode cX12_here 31 = .ok (.iconst 1, 1) := by decide +kernel
theorem dX12_here_32 : decode cX12_here 32 = .ok (.iadd, 1) := by decide +kernel
theorem dX12_here_33 : decode cX12_here 33 = .ok (.putfield 111, 3) := by decide +kernel
theorem dX12_here_36 : decode cX12_here 36 = .ok (.goto (-36), 3) := by decide +kernel
theorem dX12_here_39 : decode cX12_here 39 = .ok (.aload_n 0, 1) := by decide +kernel
theorem dX12_here_40 : decode cX12_here 40 = .ok (.aload_n 0, 1) := by decide +kernel
theorem dX12_here_41 : decode cX12_here 41 = .ok (.getfield 111, 3) := by decide +kernel
theorem dX12_here_44 : decode cX12_here 44 = .ok (.invokevirtual 171, 3) := by decide +kernel
theorem dX12_here_47 : decode cX12_here 47 = .ok (.ireturn, 1) := by decide +kernel
abbrev rm_M_here : Room := { frames := 1, cells := 0, slots := 0, locals := 21 }
def M_here_l0 (σ : Sg)  : Option (Sg ⊕ Sg) :=
  zgt σ 171 33 fun v2 =>
  (M_byteAt σ v2).bind fun r5 =>
  if r5 = 10 then (
    zgt σ 171 33 fun v28 =>
    zpt σ 171 33 (v28 + 1) fun σ33 =>
    some (.inl σ33)
  ) else (
    zgt σ 171 33 fun v15 =>
    (M_byteAt σ v15).bind fun r18 =>
    if r18 = 32 then (
      zgt σ 171 33 fun v28 =>
      zpt σ 171 33 (v28 + 1) fun σ33 =>
      some (.inl σ33)
    ) else (
      some (.inr σ)
    )
  )
set_option maxRecDepth 20000 in
theorem t_M_here_l0 {X : Zx} {Q : State → Prop} {σ : Sg}  (ok : Zok X cX12_here RX12 rm_M_here 198 1)  {out : (Sg ⊕ Sg)} (hf : M_here_l0 σ = some out) (hk : zout (fun (s : Sg) => ZAt X Q 0 0 0 s [(0, .ref (X.ad 171))] []) (fun (s : Sg) => ZAt X Q 0 0 39 s [(0, .ref (X.ad 171))] []) out) : ZAt X Q 0 0 0 σ [(0, .ref (X.ad 171))] [] := by
  unfold M_here_l0 at hf
  refine z_aload_n ok dX12_here_0 0 rfl ?_
  refine z_aload_n ok dX12_here_1 0 rfl ?_
  refine z_geti ok kc_171 zc_12 hin_12 33 (by decide) fl_12_111 rfl dX12_here_2 hf (fun v2 hf => ?_)
  refine z_call hf (fun r5 h5 hf => ?_)
  refine z_cV (As := [.int v2]) (rest := []) (w := 171) ok kc_171 zc_12 (c_M_byteAt h5) rfl ⟨ml_12_171, w_M_byteAt⟩ hy_M_byteAt ⟨rfl, rfl⟩ ⟨Nat.le_of_ble_eq_true rfl, Nat.le_of_ble_eq_true rfl⟩ ⟨Nat.zero_le _, Nat.zero_le _⟩ rfl (Nat.le_of_ble_eq_true rfl) dX12_here_5 ?_
  refine z_bipush (v := 10) ok dX12_here_8 (by decide) ?_
  refine z_icmp_eq (tgt := 26) ok dX12_here_10 (by decide) hf (fun _ hf => ?_) (fun _ hf => ?_)
  · refine z_aload_n ok dX12_here_26 0 rfl ?_
    refine z_dup ok dX12_here_27 rfl ?_
    refine z_geti ok kc_171 zc_12 hin_12 33 (by decide) fl_12_111 rfl dX12_here_28 hf (fun v28 hf => ?_)
    refine z_iconst (v := 1) ok dX12_here_31 (by decide) ?_
    refine z_iadd ok dX12_here_32 ?_
    refine z_puti ok kc_171 zc_12 hin_12 tyX12 tyX12_ok nmX12 33 (by decide) fl_12_111 rfl rfl (tyX12_ok 33 (by decide)) dX12_here_33 hf (fun σ33 hf => ?_)
    refine z_goto (tgt := 0) ok dX12_here_36 (by decide) ?_
    obtain rfl := Option.some.inj hf
    exact z_sub [0] rfl hk
  · refine z_aload_n ok dX12_here_13 0 rfl ?_
    refine z_aload_n ok dX12_here_14 0 rfl ?_
    refine z_geti ok kc_171 zc_12 hin_12 33 (by decide) fl_12_111 rfl dX12_here_15 hf (fun v15 hf => ?_)
    refine z_call hf (fun r18 h18 hf => ?_)
    refine z_cV (As := [.int v15]) (rest := []) (w := 171) ok kc_171 zc_12 (c_M_byteAt h18) rfl ⟨ml_12_171, w_M_byteAt⟩ hy_M_byteAt ⟨rfl, rfl⟩ ⟨Nat.le_of_ble_eq_true rfl, Nat.le_of_ble_eq_true rfl⟩ ⟨Nat.zero_le _, Nat.zero_le _⟩ rfl (Nat.le_of_ble_eq_true rfl) dX12_here_18 ?_
    refine z_bipush (v := 32) ok dX12_here_21 (by decide) ?_
    refine z_icmp_ne (tgt := 39) ok dX12_here_23 (by decide) hf (fun _ hf => ?_) (fun _ hf => ?_)
    · refine z_aload_n ok dX12_here_26 0 rfl ?_
      refine z_dup ok dX12_here_27 rfl ?_
      refine z_geti ok kc_171 zc_12 hin_12 33 (by decide) fl_12_111 rfl dX12_here_28 hf (fun v28 hf => ?_)
      refine z_iconst (v := 1) ok dX12_here_31 (by decide) ?_
      refine z_iadd ok dX12_here_32 ?_
      refine z_puti ok kc_171 zc_12 hin_12 tyX12 tyX12_ok nmX12 33 (by decide) fl_12_111 rfl rfl (tyX12_ok 33 (by decide)) dX12_here_33 hf (fun σ33 hf => ?_)
      refine z_goto (tgt := 0) ok dX12_here_36 (by decide) ?_
      obtain rfl := Option.some.inj hf
      exact z_sub [0] rfl hk
    · obtain rfl := Option.some.inj hf
      exact z_sub [0] rfl hk
def M_here_j26 (σ : Sg)  : Option (Int32 × Sg) :=
  zgt σ 171 33 fun v28 =>
  zpt σ 171 33 (v28 + 1) fun σ33 =>
  (zit (fun (s : Sg) => M_here_l0 s) zFU σ33).bind fun r =>
  zgt r 171 33 fun v41 =>
  (M_byteAt r v41).bind fun r44 =>
  some (r44, r)
set_option maxRecDepth 20000 in
theorem t_M_here_j26 {X : Zx} {Q : State → Prop} {σ : Sg}  (ok : Zok X cX12_here RX12 rm_M_here 198 1)  {out : (Int32 × Sg)} (hf : M_here_j26 σ = some out) (hk : ZrI cX12_here X Q out.1 out.2) : ZAt X Q 0 0 26 σ [(0, .ref (X.ad 171))] [] := by
  unfold M_here_j26 at hf
  refine z_aload_n ok dX12_here_26 0 rfl ?_
  refine z_dup ok dX12_here_27 rfl ?_
  refine z_geti ok kc_171 zc_12 hin_12 33 (by decide) fl_12_111 rfl dX12_here_28 hf (fun v28 hf => ?_)
  refine z_iconst (v := 1) ok dX12_here_31 (by decide) ?_
  refine z_iadd ok dX12_here_32 ?_
  refine z_puti ok kc_171 zc_12 hin_12 tyX12 tyX12_ok nmX12 33 (by decide) fl_12_111 rfl rfl (tyX12_ok 33 (by decide)) dX12_here_33 hf (fun σ33 hf => ?_)
  refine z_goto (tgt := 0) ok dX12_here_36 (by decide) ?_
  refine z_call hf (fun r hr hf => ?_)
  refine z_sub [0] rfl (z_iter (fun (s : Sg) => s) (fun (s : Sg) => [(0, .ref (X.ad 171))]) (fun s o h1 h2 => t_M_here_l0 ok h1 h2) _ _ _ hr ?_)
  show ZAt X Q 0 0 39 r [(0, .ref (X.ad 171))] []
  refine z_aload_n ok dX12_here_39 0 rfl ?_
  refine z_aload_n ok dX12_here_40 0 rfl ?_
  refine z_geti ok kc_171 zc_12 hin_12 33 (by decide) fl_12_111 rfl dX12_here_41 hf (fun v41 hf => ?_)
  refine z_call hf (fun r44 h44 hf => ?_)
  refine z_cV (As := [.int v41]) (rest := []) (w := 171) ok kc_171 zc_12 (c_M_byteAt h44) rfl ⟨ml_12_171, w_M_byteAt⟩ hy_M_byteAt ⟨rfl, rfl⟩ ⟨Nat.le_of_ble_eq_true rfl, Nat.le_of_ble_eq_true rfl⟩ ⟨Nat.zero_le _, Nat.zero_le _⟩ rfl (Nat.le_of_ble_eq_true rfl) dX12_here_44 ?_
  obtain rfl := Option.some.inj hf
  exact hk _ _ dX12_here_47
def M_here (σ : Sg)  : Option (Int32 × Sg) :=
  zgt σ 171 33 fun v2 =>
  (M_byteAt σ v2).bind fun r5 =>
  if r5 = 10 then (
    M_here_j26 σ
  ) else (
    zgt σ 171 33 fun v15 =>
    (M_byteAt σ v15).bind fun r18 =>
    if r18 = 32 then (
      M_here_j26 σ
    ) else (
      zgt σ 171 33 fun v41 =>
      (M_byteAt σ v41).bind fun r44 =>
      some (r44, σ)
    )
  )
set_option maxRecDepth 20000 in
theorem t_M_here {X : Zx} {Q : State → Prop} {σ : Sg}  (ok : Zok X cX12_here RX12 rm_M_here 198 1)  {out : (Int32 × Sg)} (hf : M_here σ = some out) (hk : ZrI cX12_here X Q out.1 out.2) : ZAt X Q 0 0 0 σ [(0, .ref (X.ad 171))] [] := by
  unfold M_here at hf
  refine z_aload_n ok dX12_here_0 0 rfl ?_
  refine z_aload_n ok dX12_here_1 0 rfl ?_
  refine z_geti ok kc_171 zc_12 hin_12 33 (by decide) fl_12_111 rfl dX12_here_2 hf (fun v2 hf => ?_)
  refine z_call hf (fun r5 h5 hf => ?_)
  refine z_cV (As := [.int v2]) (rest := []) (w := 171) ok kc_171 zc_12 (c_M_byteAt h5) rfl ⟨ml_12_171, w_M_byteAt⟩ hy_M_byteAt ⟨rfl, rfl⟩ ⟨Nat.le_of_ble_eq_true rfl, Nat.le_of_ble_eq_true rfl⟩ ⟨Nat.zero_le _, Nat.zero_le _⟩ rfl (Nat.le_of_ble_eq_true rfl) dX12_here_5 ?_
  refine z_bipush (v := 10) ok dX12_here_8 (by decide) ?_
  refine z_icmp_eq (tgt := 26) ok dX12_here_10 (by decide) hf (fun _ hf => ?_) (fun _ hf => ?_)
  · exact z_sub [0] rfl (t_M_here_j26 ok hf hk)
  · refine z_aload_n ok dX12_here_13 0 rfl ?_
    refine z_aload_n ok dX12_here_14 0 rfl ?_
    refine z_geti ok kc_171 zc_12 hin_12 33 (by decide) fl_12_111 rfl dX12_here_15 hf (fun v15 hf => ?_)
    refine z_call hf (fun r18 h18 hf => ?_)
    refine z_cV (As := [.int v15]) (rest := []) (w := 171) ok kc_171 zc_12 (c_M_byteAt h18) rfl ⟨ml_12_171, w_M_byteAt⟩ hy_M_byteAt ⟨rfl, rfl⟩ ⟨Nat.le_of_ble_eq_true rfl, Nat.le_of_ble_eq_true rfl⟩ ⟨Nat.zero_le _, Nat.zero_le _⟩ rfl (Nat.le_of_ble_eq_true rfl) dX12_here_18 ?_
    refine z_bipush (v := 32) ok dX12_here_21 (by decide) ?_
    refine z_icmp_ne (tgt := 39) ok dX12_here_23 (by decide) hf (fun _ hf => ?_) (fun _ hf => ?_)
    · exact z_sub [0] rfl (t_M_here_j26 ok hf hk)
    · refine z_aload_n ok dX12_here_39 0 rfl ?_
      refine z_aload_n ok dX12_here_40 0 rfl ?_
      refine z_geti ok kc_171 zc_12 hin_12 33 (by decide) fl_12_111 rfl dX12_here_41 hf (fun v41 hf => ?_)
      refine z_call hf (fun r44 h44 hf => ?_)
      refine z_cV (As := [.int v41]) (rest := []) (w := 171) ok kc_171 zc_12 (c_M_byteAt h44) rfl ⟨ml_12_171, w_M_byteAt⟩ hy_M_byteAt ⟨rfl, rfl⟩ ⟨Nat.le_of_ble_eq_true rfl, Nat.le_of_ble_eq_true rfl⟩ ⟨Nat.zero_le _, Nat.zero_le _⟩ rfl (Nat.le_of_ble_eq_true rfl) dX12_here_44 ?_
      obtain rfl := Option.some.inj hf
      exact hk _ _ dX12_here_47
theorem c_M_here {σ : Sg} {r : (Int32 × Sg)} (h : M_here σ = some r) : ZcI yX12_here cX12_here 1 .int rm_M_here 198 (fun ad => [.ref (ad 171)]) σ r.1 r.2 :=
  zmetI pn_12 rfl (fun _ => rfl) (fun _ => Nat.le_of_ble_eq_true rfl) rfl (fun X Q ok hk => t_M_here ok h hk)
theorem dX12_isSmall_0 : decode cX12_isSmall 0 = .ok (.aload_n 0, 1) := by decide +kernel
theorem dX12_isSmall_1 : decode cX12_isSmall 1 = .ok (.iload_n 1, 1) := by decide +kernel
theorem dX12_isSmall_2 : decode cX12_isSmall 2 = .ok (.invokevirtual 171, 3) := by decide +kernel
theorem dX12_isSmall_5 : decode cX12_isSmall 5 = .ok (.bipush 97, 2) := by decide +kernel
theorem dX12_isSmall_7 : decode cX12_isSmall 7 = .ok (.if_icmp .lt 17, 3) := by decide +kernel
theorem dX12_isSmall_10 : decode cX12_isSmall 10 = .ok (.aload_n 0, 1) := by decide +kernel
theorem dX12_isSmall_11 : decode cX12_isSmall 11 = .ok (.iload_n 1, 1) := by decide +kernel
theorem dX12_isSmall_12 : decode cX12_isSmall 12 = .ok (.invokevirtual 171, 3) := by decide +kernel
theorem dX12_isSmall_15 : decode cX12_isSmall 15 = .ok (.bipush 122, 2) := by decide +kernel
theorem dX12_isSmall_17 : decode cX12_isSmall 17 = .ok (.if_icmp .gt 7, 3) := by decide +kernel
theorem dX12_isSmall_20 : decode cX12_isSmall 20 = .ok (.iconst 1, 1) := by decide +kernel
theorem dX12_isSmall_21 : decode cX12_isSmall 21 = .ok (.goto 4, 3) := by decide +kernel
theorem dX12_isSmall_24 : decode cX12_isSmall 24 = .ok (.iconst 0, 1) := by decide +kernel
theorem dX12_isSmall_25 : decode cX12_isSmall 25 = .ok (.ireturn, 1) := by decide +kernel
abbrev rm_M_isSmall : Room := { frames := 1, cells := 0, slots := 0, locals := 21 }
def M_isSmall (σ : Sg) (x1 : Int32) : Option Bool :=
  (M_byteAt σ x1).bind fun r2 =>
  if r2 < 97 then (
    some false
  ) else (
    (M_byteAt σ x1).bind fun r12 =>
    if 122 < r12 then (
      some false
    ) else (
      some true
    )
  )
set_option maxRecDepth 20000 in
theorem t_M_isSmall {X : Zx} {Q : State → Prop} {σ : Sg} {x1 : Int32} (ok : Zok X cX12_isSmall RX12 rm_M_isSmall 198 2)  {out : Bool} (hf : M_isSmall σ x1 = some out) (hk : ZrI cX12_isSmall X Q (zb out) σ) : ZAt X Q 0 0 0 σ [(0, .ref (X.ad 171)), (1, .int x1)] [] := by
  unfold M_isSmall at hf
  refine z_aload_n ok dX12_isSmall_0 0 rfl ?_
  refine z_iload_n ok dX12_isSmall_1 1 rfl ?_
  refine z_call hf (fun r2 h2 hf => ?_)
  refine z_cV (As := [.int x1]) (rest := []) (w := 171) ok kc_171 zc_12 (c_M_byteAt h2) rfl ⟨ml_12_171, w_M_byteAt⟩ hy_M_byteAt ⟨rfl, rfl⟩ ⟨Nat.le_of_ble_eq_true rfl, Nat.le_of_ble_eq_true rfl⟩ ⟨Nat.zero_le _, Nat.zero_le _⟩ rfl (Nat.le_of_ble_eq_true rfl) dX12_isSmall_2 ?_
  refine z_bipush (v := 97) ok dX12_isSmall_5 (by decide) ?_
  refine z_icmp_lt (tgt := 24) ok dX12_isSmall_7 (by decide) hf (fun _ hf => ?_) (fun _ hf => ?_)
  · refine z_iconst (v := 0) ok dX12_isSmall_24 (by decide) ?_
    obtain rfl := Option.some.inj hf
    exact hk _ _ dX12_isSmall_25
  · refine z_aload_n ok dX12_isSmall_10 0 rfl ?_
    refine z_iload_n ok dX12_isSmall_11 1 rfl ?_
    refine z_call hf (fun r12 h12 hf => ?_)
    refine z_cV (As := [.int x1]) (rest := []) (w := 171) ok kc_171 zc_12 (c_M_byteAt h12) rfl ⟨ml_12_171, w_M_byteAt⟩ hy_M_byteAt ⟨rfl, rfl⟩ ⟨Nat.le_of_ble_eq_true rfl, Nat.le_of_ble_eq_true rfl⟩ ⟨Nat.zero_le _, Nat.zero_le _⟩ rfl (Nat.le_of_ble_eq_true rfl) dX12_isSmall_12 ?_
    refine z_bipush (v := 122) ok dX12_isSmall_15 (by decide) ?_
    refine z_icmp_gt (tgt := 24) ok dX12_isSmall_17 (by decide) hf (fun _ hf => ?_) (fun _ hf => ?_)
    · refine z_iconst (v := 0) ok dX12_isSmall_24 (by decide) ?_
      obtain rfl := Option.some.inj hf
      exact hk _ _ dX12_isSmall_25
    · refine z_iconst (v := 1) ok dX12_isSmall_20 (by decide) ?_
      refine z_goto (tgt := 25) ok dX12_isSmall_21 (by decide) ?_
      obtain rfl := Option.some.inj hf
      exact hk _ _ dX12_isSmall_25
theorem c_M_isSmall {σ : Sg} {x1 : Int32} {r : Bool} (h : M_isSmall σ x1 = some r) : ZcI yX12_isSmall cX12_isSmall 2 .boolean rm_M_isSmall 198 (fun ad => [.ref (ad 171), .int x1]) σ (zb r) σ :=
  zmetI pn_12 rfl (fun _ => rfl) (fun _ => Nat.le_of_ble_eq_true rfl) (zb_nar _) (fun X Q ok hk => t_M_isSmall ok h hk)
theorem dX12_isDigit_0 : decode cX12_isDigit 0 = .ok (.aload_n 0, 1) := by decide +kernel
theorem dX12_isDigit_1 : decode cX12_isDigit 1 = .ok (.iload_n 1, 1) := by decide +kernel
theorem dX12_isDigit_2 : decode cX12_isDigit 2 = .ok (.invokevirtual 171, 3) := by decide +kernel
theorem dX12_isDigit_5 : decode cX12_isDigit 5 = .ok (.bipush 48, 2) := by decide +kernel
theorem dX12_isDigit_7 : decode cX12_isDigit 7 = .ok (.if_icmp .lt 17, 3) := by decide +kernel
theorem dX12_isDigit_10 : decode cX12_isDigit 10 = .ok (.aload_n 0, 1) := by decide +kernel
theorem dX12_isDigit_11 : decode cX12_isDigit 11 = .ok (.iload_n 1, 1) := by decide +kernel
theorem dX12_isDigit_12 : decode cX12_isDigit 12 = .ok (.invokevirtual 171, 3) := by decide +kernel
theorem dX12_isDigit_15 : decode cX12_isDigit 15 = .ok (.bipush 57, 2) := by decide +kernel
theorem dX12_isDigit_17 : decode cX12_isDigit 17 = .ok (.if_icmp .gt 7, 3) := by decide +kernel
theorem dX12_isDigit_20 : decode cX12_isDigit 20 = .ok (.iconst 1, 1) := by decide +kernel
theorem dX12_isDigit_21 : decode cX12_isDigit 21 = .ok (.goto 4, 3) := by decide +kernel
theorem dX12_isDigit_24 : decode cX12_isDigit 24 = .ok (.iconst 0, 1) := by decide +kernel
theorem dX12_isDigit_25 : decode cX12_isDigit 25 = .ok (.ireturn, 1) := by decide +kernel
abbrev rm_M_isDigit : Room := { frames := 1, cells := 0, slots := 0, locals := 21 }
def M_isDigit (σ : Sg) (x1 : Int32) : Option Bool :=
  (M_byteAt σ x1).bind fun r2 =>
  if r2 < 48 then (
    some false
  ) else (
    (M_byteAt σ x1).bind fun r12 =>
    if 57 < r12 then (
      some false
    ) else (
      some true
    )
  )
set_option maxRecDepth 20000 in
theorem t_M_isDigit {X : Zx} {Q : State → Prop} {σ : Sg} {x1 : Int32} (ok : Zok X cX12_isDigit RX12 rm_M_isDigit 198 2)  {out : Bool} (hf : M_isDigit σ x1 = some out) (hk : ZrI cX12_isDigit X Q (zb out) σ) : ZAt X Q 0 0 0 σ [(0, .ref (X.ad 171)), (1, .int x1)] [] := by
  unfold M_isDigit at hf
  refine z_aload_n ok dX12_isDigit_0 0 rfl ?_
  refine z_iload_n ok dX12_isDigit_1 1 rfl ?_
  refine z_call hf (fun r2 h2 hf => ?_)
  refine z_cV (As := [.int x1]) (rest := []) (w := 171) ok kc_171 zc_12 (c_M_byteAt h2) rfl ⟨ml_12_171, w_M_byteAt⟩ hy_M_byteAt ⟨rfl, rfl⟩ ⟨Nat.le_of_ble_eq_true rfl, Nat.le_of_ble_eq_true rfl⟩ ⟨Nat.zero_le _, Nat.zero_le _⟩ rfl (Nat.le_of_ble_eq_true rfl) dX12_isDigit_2 ?_
  refine z_bipush (v := 48) ok dX12_isDigit_5 (by decide) ?_
  refine z_icmp_lt (tgt := 24) ok dX12_isDigit_7 (by decide) hf (fun _ hf => ?_) (fun _ hf => ?_)
  · refine z_iconst (v := 0) ok dX12_isDigit_24 (by decide) ?_
    obtain rfl := Option.some.inj hf
    exact hk _ _ dX12_isDigit_25
  · refine z_aload_n ok dX12_isDigit_10 0 rfl ?_
    refine z_iload_n ok dX12_isDigit_11 1 rfl ?_
    refine z_call hf (fun r12 h12 hf => ?_)
    refine z_cV (As := [.int x1]) (rest := []) (w := 171) ok kc_171 zc_12 (c_M_byteAt h12) rfl ⟨ml_12_171, w_M_byteAt⟩ hy_M_byteAt ⟨rfl, rfl⟩ ⟨Nat.le_of_ble_eq_true rfl, Nat.le_of_ble_eq_true rfl⟩ ⟨Nat.zero_le _, Nat.zero_le _⟩ rfl (Nat.le_of_ble_eq_true rfl) dX12_isDigit_12 ?_
    refine z_bipush (v := 57) ok dX12_isDigit_15 (by decide) ?_
    refine z_icmp_gt (tgt := 24) ok dX12_isDigit_17 (by decide) hf (fun _ hf => ?_) (fun _ hf => ?_)
    · refine z_iconst (v := 0) ok dX12_isDigit_24 (by decide) ?_
      obtain rfl := Option.some.inj hf
      exact hk _ _ dX12_isDigit_25
    · refine z_iconst (v := 1) ok dX12_isDigit_20 (by decide) ?_
      refine z_goto (tgt := 25) ok dX12_isDigit_21 (by decide) ?_
      obtain rfl := Option.some.inj hf
      exact hk _ _ dX12_isDigit_25
theorem c_M_isDigit {σ : Sg} {x1 : Int32} {r : Bool} (h : M_isDigit σ x1 = some r) : ZcI yX12_isDigit cX12_isDigit 2 .boolean rm_M_isDigit 198 (fun ad => [.ref (ad 171), .int x1]) σ (zb r) σ :=
  zmetI pn_12 rfl (fun _ => rfl) (fun _ => Nat.le_of_ble_eq_true rfl) (zb_nar _) (fun X Q ok hk => t_M_isDigit ok h hk)
theorem dX12_faults_0 : decode cX12_faults 0 = .ok (.aload_n 0, 1) := by decide +kernel
theorem dX12_faults_1 : decode cX12_faults 1 = .ok (.getfield 117, 3) := by decide +kernel
theorem dX12_faults_4 : decode cX12_faults 4 = .ok (.ifCond .eq 4, 3) := by decide +kernel
theorem dX12_faults_7 : decode cX12_faults 7 = .ok (.return_, 1) := by decide +kernel
theorem dX12_faults_8 : decode cX12_faults 8 = .ok (.aload_n 0, 1) := by decide +kernel
theorem dX12_faults_9 : decode cX12_faults 9 = .ok (.iload_n 1, 1) := by decide +kernel
theorem dX12_faults_10 : decode cX12_faults 10 = .ok (.putfield 117, 3) := by decide +kernel
theorem dX12_faults_13 : decode cX12_faults 13 = .ok (.aload_n 0, 1) := by decide +kernel
theorem dX12_faults_14 : decode cX12_faults 14 = .ok (.iload_n 2, 1) := by decide +kernel
theorem dX12_faults_15 : decode cX12_faults 15 = .ok (.putfield 120, 3) := by decide +kernel
theorem dX12_faults_18 : decode cX12_faults 18 = .ok (.return_, 1) := by decide +kernel
abbrev rm_M_faults : Room := { frames := 0, cells := 0, slots := 0, locals := 0 }
def M_faults (σ : Sg) (x1 : Int32) (x2 : Int32) : Option Sg :=
  zgt σ 171 35 fun v1 =>
  if v1 = 0 then (
    zpt σ 171 35 x1 fun σ10 =>
    zpt σ10 171 36 x2 fun σ15 =>
    some σ15
  ) else (
    some σ
  )
set_option maxRecDepth 20000 in
theorem t_M_faults {X : Zx} {Q : State → Prop} {σ : Sg} {x1 : Int32} {x2 : Int32} (ok : Zok X cX12_faults RX12 rm_M_faults 198 3)  {out : Sg} (hf : M_faults σ x1 x2 = some out) (hk : ZrV cX12_faults X Q out) : ZAt X Q 0 0 0 σ [(0, .ref (X.ad 171)), (1, .int x1), (2, .int x2)] [] := by
  unfold M_faults at hf
  refine z_aload_n ok dX12_faults_0 0 rfl ?_
  refine z_geti ok kc_171 zc_12 hin_12 35 (by decide) fl_12_117 rfl dX12_faults_1 hf (fun v1 hf => ?_)
  refine z_if_eq (tgt := 8) ok dX12_faults_4 (by decide) hf (fun _ hf => ?_) (fun _ hf => ?_)
  · refine z_aload_n ok dX12_faults_8 0 rfl ?_
    refine z_iload_n ok dX12_faults_9 1 rfl ?_
    refine z_puti ok kc_171 zc_12 hin_12 tyX12 tyX12_ok nmX12 35 (by decide) fl_12_117 rfl rfl (tyX12_ok 35 (by decide)) dX12_faults_10 hf (fun σ10 hf => ?_)
    refine z_aload_n ok dX12_faults_13 0 rfl ?_
    refine z_iload_n ok dX12_faults_14 2 rfl ?_
    refine z_puti ok kc_171 zc_12 hin_12 tyX12 tyX12_ok nmX12 36 (by decide) fl_12_120 rfl rfl (tyX12_ok 36 (by decide)) dX12_faults_15 hf (fun σ15 hf => ?_)
    obtain rfl := Option.some.inj hf
    exact hk _ _ dX12_faults_18
  · obtain rfl := Option.some.inj hf
    exact hk _ _ dX12_faults_7
theorem c_M_faults {σ : Sg} {x1 : Int32} {x2 : Int32} {r : Sg} (h : M_faults σ x1 x2 = some r) : ZcV yX12_faults cX12_faults 3 rm_M_faults 198 (fun ad => [.ref (ad 171), .int x1, .int x2]) σ r :=
  zmetV pn_12 rfl (fun _ => rfl) (fun _ => Nat.le_of_ble_eq_true rfl) (fun X Q ok hk => t_M_faults ok h hk)
theorem dX12_word_0 : decode cX12_word 0 = .ok (.aload_n 0, 1) := by decide +kernel
theorem dX12_word_1 : decode cX12_word 1 = .ok (.invokevirtual 174, 3) := by decide +kernel
theorem dX12_word_4 : decode cX12_word 4 = .ok (.ifCond .ne 4, 3) := by decide +kernel
theorem dX12_word_7 : decode cX12_word 7 = .ok (.return_, 1) := by decide +kernel
theorem dX12_word_8 : decode cX12_word 8 = .ok (.aload_n 0, 1) := by decide +kernel
theorem dX12_word_9 : decode cX12_word 9 = .ok (.invokevirtual 178, 3) := by decide +kernel
theorem dX12_word_12 : decode cX12_word 12 = .ok (.pop, 1) := by decide +kernel
theorem dX12_word_13 : decode cX12_word 13 = .ok (.aload_n 0, 1) := by decide +kernel
theorem dX12_word_14 : decode cX12_word 14 = .ok (.aload_n 0, 1) := by decide +kernel
theorem dX12_word_15 : decode cX12_word 15 = .ok (.getfield 111, 3) := by decide +kernel
theorem dX12_word_18 : decode cX12_word 18 = .ok (.putfield 114, 3) := by decide +kernel
theorem dX12_word_21 : decode cX12_word 21 = .ok (.aload_n 0, 1) := by decide +kernel
theorem dX12_word_22 : decode cX12_word 22 = .ok (.aload_n 0, 1) := by decide +kernel
theorem dX12_word_23 : decode cX12_word 23 = .ok (.getfield 111, 3) := by decide +kernel
theorem dX12_word_26 : decode cX12_word 26 = .ok (.invokevirtual 182, 3) := by decide +kernel
theorem dX12_word_29 : decode cX12_word 29 = .ok (.ifCond .eq 29, 3) := by decide +kernel
theorem dX12_word_32 : decode cX12_word 32 = .ok (.aload_n 0, 1) := by decide +kernel
theorem dX12_word_33 : decode cX12_word 33 = .ok (.aload_n 0, 1) := by decide +kernel
theorem dX12_word_34 : decode cX12_word 34 = .ok (.getfield 111, 3) := by decide +kernel
theorem dX12_word_37 : decode cX12_word 37 = .ok (.iconst 1, 1) := by decide +kernel
theorem dX12_word_38 : decode cX12_word 38 = .ok (.isub, 1) := by decide +kernel
theorem dX12_word_39 : decode cX12_word 39 = .ok (.invokevirtual 182, 3) := by decide +kernel
theorem dX12_word_42 : decode cX12_word 42 = .ok (.ifCond .ne 16, 3) := by decide +kernel
theorem dX12_word_45 : decode cX12_word 45 = .ok (.aload_n 0, 1) := by decide +kernel
theorem dX12_word_46 : decode cX12_word 46 = .ok (.aload_n 0, 1) := by decide +kernel
theorem dX12_word_47 : decode cX12_word 47 = .ok (.getfield 111, 3) := by decide +kernel
theorem dX12_word_50 : decode cX12_word 50 = .ok (.iconst 1, 1) := by decide +kernel
theorem dX12_word_51 : decode cX12_word 51 = .ok (.isub, 1) := by decide +kernel
theorem dX12_word_52 : decode cX12_word 52 = .ok (.invokevirtual 185, 3) := by decide +kernel
theorem dX12_word_55 : decode cX12_word 55 = .ok (.ifCond .eq 13, 3) := by decide +kernel
theorem dX12_word_58 : decode cX12_word 58 = .ok (.aload_n 0, 1) := by decide +kernel
theorem dX12_word_59 : decode cX12_word 59 = .ok (.iconst 1, 1) := by decide +kernel
theorem dX12_word_60 : decode cX12_word 60 = .ok (.aload_n 0, 1) := by decide +kernel
theorem dX12_word_61 : decode cX12_word 61 = .ok (.getfield 111, 3) := by decide +kernel
theorem dX12_word_64 : decode cX12_word 64 = .ok (.invokevirtual 188, 3) := by decide +kernel
theorem dX12_word_67 : decode cX12_word 67 = .ok (.return_, 1) := by decide +kernel
theorem dX12_word_68 : decode cX12_word 68 = .ok (.aload_n 0, 1) := by decide +kernel
theorem dX12_word_69 : decode cX12_word 69 = .ok (.aload_n 0, 1) := by decide +kernel
theorem dX12_word_70 : decode cX12_word 70 = .ok (.getfield 111, 3) := by decide +kernel
theorem dX12_word_73 : decode cX12_word 73 = .ok (.invokevirtual 182, 3) := by decide +kernel
theorem dX12_word_76 : decode cX12_word 76 = .ok (.ifCond .eq 16, 3) := by decide +kernel
theorem dX12_word_79 : decode cX12_word 79 = .ok (.aload_n 0, 1) := by decide +kernel
theorem dX12_word_80 : decode cX12_word 80 = .ok (.dup, 1) := by decide +kernel
theorem dX12_word_81 : decode cX12_word 81 = .ok (.getfield 111, 3) := by decide +kernel
theorem dX12_word_84 : decode cX12_word 84 = .ok (.iconst 1, 1) := by decide +kernel
theorem dX12_word_85 : decode cX12_word 85 = .ok (.iadd, 1) := by decide +kernel
theorem dX12_word_86 : decode cX12_word 86 = .ok (.putfield 111, 3) := by decide +kernel
theorem dX12_word_89 : decode cX12_word 89 = .ok (.goto (-21), 3) := by decide +kernel
theorem dX12_word_92 : decode cX12_word 92 = .ok (.return_, 1) := by decide +kernel
abbrev rm_M_word : Room := { frames := 2, cells := 0, slots := 0, locals := 42 }
def M_word_l68 (σ : Sg)  : Option (Sg ⊕ Sg) :=
  zgt σ 171 33 fun v70 =>
  (M_isSmall σ v70).bind fun r73 =>
  if (zb r73) = 0 then (
    some (.inr σ)
  ) else (
    zgt σ 171 33 fun v81 =>
    zpt σ 171 33 (v81 + 1) fun σ86 =>
    some (.inl σ86)
  )
set_option maxRecDepth 20000 in
theorem t_M_word_l68 {X : Zx} {Q : State → Prop} {σ : Sg}  (ok : Zok X cX12_word RX12 rm_M_word 198 1)  {out : (Sg ⊕ Sg)} (hf : M_word_l68 σ = some out) (hk : zout (fun (s : Sg) => ZAt X Q 0 0 68 s [(0, .ref (X.ad 171))] []) (fun (s : Sg) => ZAt X Q 0 0 92 s [] []) out) : ZAt X Q 0 0 68 σ [(0, .ref (X.ad 171))] [] := by
  unfold M_word_l68 at hf
  refine z_aload_n ok dX12_word_68 0 rfl ?_
  refine z_aload_n ok dX12_word_69 0 rfl ?_
  refine z_geti ok kc_171 zc_12 hin_12 33 (by decide) fl_12_111 rfl dX12_word_70 hf (fun v70 hf => ?_)
  refine z_call hf (fun r73 h73 hf => ?_)
  refine z_cV (As := [.int v70]) (rest := []) (w := 171) ok kc_171 zc_12 (c_M_isSmall h73) rfl ⟨ml_12_182, w_M_isSmall⟩ hy_M_isSmall ⟨rfl, rfl⟩ ⟨Nat.le_of_ble_eq_true rfl, Nat.le_of_ble_eq_true rfl⟩ ⟨Nat.zero_le _, Nat.zero_le _⟩ rfl (Nat.le_of_ble_eq_true rfl) dX12_word_73 ?_
  refine z_if_eq (tgt := 92) ok dX12_word_76 (by decide) hf (fun _ hf => ?_) (fun _ hf => ?_)
  · obtain rfl := Option.some.inj hf
    exact z_sub [] rfl hk
  · refine z_aload_n ok dX12_word_79 0 rfl ?_
    refine z_dup ok dX12_word_80 rfl ?_
    refine z_geti ok kc_171 zc_12 hin_12 33 (by decide) fl_12_111 rfl dX12_word_81 hf (fun v81 hf => ?_)
    refine z_iconst (v := 1) ok dX12_word_84 (by decide) ?_
    refine z_iadd ok dX12_word_85 ?_
    refine z_puti ok kc_171 zc_12 hin_12 tyX12 tyX12_ok nmX12 33 (by decide) fl_12_111 rfl rfl (tyX12_ok 33 (by decide)) dX12_word_86 hf (fun σ86 hf => ?_)
    refine z_goto (tgt := 68) ok dX12_word_89 (by decide) ?_
    obtain rfl := Option.some.inj hf
    exact z_sub [0] rfl hk
def M_word (σ : Sg)  : Option Sg :=
  (M_goesWell σ).bind fun r1 =>
  if (zb r1) = 0 then (
    some σ
  ) else (
    (M_here σ).bind fun r9 =>
    zgt r9.2 171 33 fun v15 =>
    zpt r9.2 171 34 v15 fun σ18 =>
    zgt σ18 171 33 fun v23 =>
    (M_isSmall σ18 v23).bind fun r26 =>
    if (zb r26) = 0 then (
      zgt σ18 171 33 fun v61 =>
      (M_faults σ18 1 v61).bind fun r64 =>
      some r64
    ) else (
      zgt σ18 171 33 fun v34 =>
      (M_isSmall σ18 (v34 - 1)).bind fun r39 =>
      if (zb r39) = 0 then (
        zgt σ18 171 33 fun v47 =>
        (M_isDigit σ18 (v47 - 1)).bind fun r52 =>
        if (zb r52) = 0 then (
          (zit (fun (s : Sg) => M_word_l68 s) zFU σ18).bind fun r =>
          some r
        ) else (
          zgt σ18 171 33 fun v61 =>
          (M_faults σ18 1 v61).bind fun r64 =>
          some r64
        )
      ) else (
        zgt σ18 171 33 fun v61 =>
        (M_faults σ18 1 v61).bind fun r64 =>
        some r64
      )
    )
  )
set_option maxRecDepth 20000 in
theorem t_M_word {X : Zx} {Q : State → Prop} {σ : Sg}  (ok : Zok X cX12_word RX12 rm_M_word 198 1)  {out : Sg} (hf : M_word σ = some out) (hk : ZrV cX12_word X Q out) : ZAt X Q 0 0 0 σ [(0, .ref (X.ad 171))] [] := by
  unfold M_word at hf
  refine z_aload_n ok dX12_word_0 0 rfl ?_
  refine z_call hf (fun r1 h1 hf => ?_)
  refine z_cV (As := []) (rest := []) (w := 171) ok kc_171 zc_12 (c_M_goesWell h1) rfl ⟨ml_12_174, w_M_goesWell⟩ hy_M_goesWell ⟨rfl, rfl⟩ ⟨Nat.le_of_ble_eq_true rfl, Nat.le_of_ble_eq_true rfl⟩ ⟨Nat.zero_le _, Nat.zero_le _⟩ rfl (Nat.le_of_ble_eq_true rfl) dX12_word_1 ?_
  refine z_if_ne (tgt := 8) ok dX12_word_4 (by decide) hf (fun _ hf => ?_) (fun _ hf => ?_)
  · obtain rfl := Option.some.inj hf
    exact hk _ _ dX12_word_7
  · refine z_aload_n ok dX12_word_8 0 rfl ?_
    refine z_call hf (fun r9 h9 hf => ?_)
    refine z_cV (As := []) (rest := []) (w := 171) ok kc_171 zc_12 (c_M_here h9) rfl ⟨ml_12_178, w_M_here⟩ hy_M_here ⟨rfl, rfl⟩ ⟨Nat.le_of_ble_eq_true rfl, Nat.le_of_ble_eq_true rfl⟩ ⟨Nat.zero_le _, Nat.zero_le _⟩ rfl (Nat.le_of_ble_eq_true rfl) dX12_word_9 ?_
    refine z_pop ok dX12_word_12 rfl ?_
    refine z_aload_n ok dX12_word_13 0 rfl ?_
    refine z_aload_n ok dX12_word_14 0 rfl ?_
    refine z_geti ok kc_171 zc_12 hin_12 33 (by decide) fl_12_111 rfl dX12_word_15 hf (fun v15 hf => ?_)
    refine z_puti ok kc_171 zc_12 hin_12 tyX12 tyX12_ok nmX12 34 (by decide) fl_12_114 rfl rfl (tyX12_ok 34 (by decide)) dX12_word_18 hf (fun σ18 hf => ?_)
    refine z_aload_n ok dX12_word_21 0 rfl ?_
    refine z_aload_n ok dX12_word_22 0 rfl ?_
    refine z_geti ok kc_171 zc_12 hin_12 33 (by decide) fl_12_111 rfl dX12_word_23 hf (fun v23 hf => ?_)
    refine z_call hf (fun r26 h26 hf => ?_)
    refine z_cV (As := [.int v23]) (rest := []) (w := 171) ok kc_171 zc_12 (c_M_isSmall h26) rfl ⟨ml_12_182, w_M_isSmall⟩ hy_M_isSmall ⟨rfl, rfl⟩ ⟨Nat.le_of_ble_eq_true rfl, Nat.le_of_ble_eq_true rfl⟩ ⟨Nat.zero_le _, Nat.zero_le _⟩ rfl (Nat.le_of_ble_eq_true rfl) dX12_word_26 ?_
    refine z_if_eq (tgt := 58) ok dX12_word_29 (by decide) hf (fun _ hf => ?_) (fun _ hf => ?_)
    · refine z_aload_n ok dX12_word_58 0 rfl ?_
      refine z_iconst (v := 1) ok dX12_word_59 (by decide) ?_
      refine z_aload_n ok dX12_word_60 0 rfl ?_
      refine z_geti ok kc_171 zc_12 hin_12 33 (by decide) fl_12_111 rfl dX12_word_61 hf (fun v61 hf => ?_)
      refine z_call hf (fun r64 h64 hf => ?_)
      refine z_cVv (As := [.int 1, .int v61]) (rest := []) (w := 171) ok kc_171 zc_12 (c_M_faults h64) rfl ⟨ml_12_188, w_M_faults⟩ hy_M_faults ⟨rfl, rfl⟩ ⟨Nat.le_of_ble_eq_true rfl, Nat.le_of_ble_eq_true rfl⟩ ⟨Nat.zero_le _, Nat.zero_le _⟩ rfl (Nat.le_of_ble_eq_true rfl) dX12_word_64 ?_
      obtain rfl := Option.some.inj hf
      exact hk _ _ dX12_word_67
    · refine z_aload_n ok dX12_word_32 0 rfl ?_
      refine z_aload_n ok dX12_word_33 0 rfl ?_
      refine z_geti ok kc_171 zc_12 hin_12 33 (by decide) fl_12_111 rfl dX12_word_34 hf (fun v34 hf => ?_)
      refine z_iconst (v := 1) ok dX12_word_37 (by decide) ?_
      refine z_isub ok dX12_word_38 ?_
      refine z_call hf (fun r39 h39 hf => ?_)
      refine z_cV (As := [.int (v34 - 1)]) (rest := []) (w := 171) ok kc_171 zc_12 (c_M_isSmall h39) rfl ⟨ml_12_182, w_M_isSmall⟩ hy_M_isSmall ⟨rfl, rfl⟩ ⟨Nat.le_of_ble_eq_true rfl, Nat.le_of_ble_eq_true rfl⟩ ⟨Nat.zero_le _, Nat.zero_le _⟩ rfl (Nat.le_of_ble_eq_true rfl) dX12_word_39 ?_
      refine z_if_ne (tgt := 58) ok dX12_word_42 (by decide) hf (fun _ hf => ?_) (fun _ hf => ?_)
      · refine z_aload_n ok dX12_word_45 0 rfl ?_
        refine z_aload_n ok dX12_word_46 0 rfl ?_
        refine z_geti ok kc_171 zc_12 hin_12 33 (by decide) fl_12_111 rfl dX12_word_47 hf (fun v47 hf => ?_)
        refine z_iconst (v := 1) ok dX12_word_50 (by decide) ?_
        refine z_isub ok dX12_word_51 ?_
        refine z_call hf (fun r52 h52 hf => ?_)
        refine z_cV (As := [.int (v47 - 1)]) (rest := []) (w := 171) ok kc_171 zc_12 (c_M_isDigit h52) rfl ⟨ml_12_185, w_M_isDigit⟩ hy_M_isDigit ⟨rfl, rfl⟩ ⟨Nat.le_of_ble_eq_true rfl, Nat.le_of_ble_eq_true rfl⟩ ⟨Nat.zero_le _, Nat.zero_le _⟩ rfl (Nat.le_of_ble_eq_true rfl) dX12_word_52 ?_
        refine z_if_eq (tgt := 68) ok dX12_word_55 (by decide) hf (fun _ hf => ?_) (fun _ hf => ?_)
        · refine z_call hf (fun r hr hf => ?_)
          refine z_sub [0] rfl (z_iter (fun (s : Sg) => s) (fun (s : Sg) => [(0, .ref (X.ad 171))]) (fun s o h1 h2 => t_M_word_l68 ok h1 h2) _ _ _ hr ?_)
          show ZAt X Q 0 0 92 r [] []
          obtain rfl := Option.some.inj hf
          exact hk _ _ dX12_word_92
        · refine z_aload_n ok dX12_word_58 0 rfl ?_
          refine z_iconst (v := 1) ok dX12_word_59 (by decide) ?_
          refine z_aload_n ok dX12_word_60 0 rfl ?_
          refine z_geti ok kc_171 zc_12 hin_12 33 (by decide) fl_12_111 rfl dX12_word_61 hf (fun v61 hf => ?_)
          refine z_call hf (fun r64 h64 hf => ?_)
          refine z_cVv (As := [.int 1, .int v61]) (rest := []) (w := 171) ok kc_171 zc_12 (c_M_faults h64) rfl ⟨ml_12_188, w_M_faults⟩ hy_M_faults ⟨rfl, rfl⟩ ⟨Nat.le_of_ble_eq_true rfl, Nat.le_of_ble_eq_true rfl⟩ ⟨Nat.zero_le _, Nat.zero_le _⟩ rfl (Nat.le_of_ble_eq_true rfl) dX12_word_64 ?_
          obtain rfl := Option.some.inj hf
          exact hk _ _ dX12_word_67
      · refine z_aload_n ok dX12_word_58 0 rfl ?_
        refine z_iconst (v := 1) ok dX12_word_59 (by decide) ?_
        refine z_aload_n ok dX12_word_60 0 rfl ?_
        refine z_geti ok kc_171 zc_12 hin_12 33 (by decide) fl_12_111 rfl dX12_word_61 hf (fun v61 hf => ?_)
        refine z_call hf (fun r64 h64 hf => ?_)
        refine z_cVv (As := [.int 1, .int v61]) (rest := []) (w := 171) ok kc_171 zc_12 (c_M_faults h64) rfl ⟨ml_12_188, w_M_faults⟩ hy_M_faults ⟨rfl, rfl⟩ ⟨Nat.le_of_ble_eq_true rfl, Nat.le_of_ble_eq_true rfl⟩ ⟨Nat.zero_le _, Nat.zero_le _⟩ rfl (Nat.le_of_ble_eq_true rfl) dX12_word_64 ?_
        obtain rfl := Option.some.inj hf
        exact hk _ _ dX12_word_67
theorem c_M_word {σ : Sg} {r : Sg} (h : M_word σ = some r) : ZcV yX12_word cX12_word 1 rm_M_word 198 (fun ad => [.ref (ad 171)]) σ r :=
  zmetV pn_12 rfl (fun _ => rfl) (fun _ => Nat.le_of_ble_eq_true rfl) (fun X Q ok hk => t_M_word ok h hk)
theorem dX12_own_0 : decode cX12_own 0 = .ok (.iconst 0, 1) := by decide +kernel
theorem dX12_own_1 : decode cX12_own 1 = .ok (.istore_n 1, 1) := by decide +kernel
theorem dX12_own_2 : decode cX12_own 2 = .ok (.iconst 0, 1) := by decide +kernel
theorem dX12_own_3 : decode cX12_own 3 = .ok (.istore_n 2, 1) := by decide +kernel
theorem dX12_own_4 : decode cX12_own 4 = .ok (.iload_n 1, 1) := by decide +kernel
theorem dX12_own_5 : decode cX12_own 5 = .ok (.bipush 104, 2) := by decide +kernel
theorem dX12_own_7 : decode cX12_own 7 = .ok (.if_icmp .ge 110, 3) := by decide +kernel
theorem dX12_own_10 : decode cX12_own 10 = .ok (.iconst 0, 1) := by decide +kernel
theorem dX12_own_11 : decode cX12_own 11 = .ok (.istore_n 3, 1) := by decide +kernel
theorem dX12_own_12 : decode cX12_own 12 = .ok (.aload_n 0, 1) := by decide +kernel
theorem dX12_own_13 : decode cX12_own 13 = .ok (.getfield 123, 3) := by decide +kernel
theorem dX12_own_16 : decode cX12_own 16 = .ok (.iload_n 1, 1) := by decide +kernel
theorem dX12_own_17 : decode cX12_own 17 = .ok (.iload_n 3, 1) := by decide +kernel
theorem dX12_own_18 : decode cX12_own 18 = .ok (.iadd, 1) := by decide +kernel
theorem dX12_own_19 : decode cX12_own 19 = .ok (.iaload, 1) := by decide +kernel
theorem dX12_own_20 : decode cX12_own 20 = .ok (.ifCond .eq 47, 3) := by decide +kernel
theorem dX12_own_23 : decode cX12_own 23 = .ok (.aload_n 0, 1) := by decide +kernel
theorem dX12_own_24 : decode cX12_own 24 = .ok (.getfield 114, 3) := by decide +kernel
theorem dX12_own_27 : decode cX12_own 27 = .ok (.iload_n 3, 1) := by decide +kernel
theorem dX12_own_28 : decode cX12_own 28 = .ok (.iadd, 1) := by decide +kernel
theorem dX12_own_29 : decode cX12_own 29 = .ok (.aload_n 0, 1) := by decide +kernel
theorem dX12_own_30 : decode cX12_own 30 = .ok (.getfield 111, 3) := by decide +kernel
theorem dX12_own_33 : decode cX12_own 33 = .ok (.if_icmp .ge 34, 3) := by decide +kernel
theorem dX12_own_36 : decode cX12_own 36 = .ok (.aload_n 0, 1) := by decide +kernel
theorem dX12_own_37 : decode cX12_own 37 = .ok (.getfield 93, 3) := by decide +kernel
theorem dX12_own_40 : decode cX12_own 40 = .ok (.aload_n 0, 1) := by decide +kernel
theorem dX12_own_41 : decode cX12_own 41 = .ok (.getfield 114, 3) := by decide +kernel
theorem dX12_own_44 : decode cX12_own 44 = .ok (.iload_n 3, 1) := by decide +kernel
theorem dX12_own_45 : decode cX12_own 45 = .ok (.iadd, 1) := by decide +kernel
theorem dX12_own_46 : decode cX12_own 46 = .ok (.iaload, 1) := by decide +kernel
theorem dX12_own_47 : decode cX12_own 47 = .ok (.bipush 96, 2) := by decide +kernel
theorem dX12_own_49 : decode cX12_own 49 = .ok (.isub, 1) := by decide +kernel
theorem dX12_own_50 : decode cX12_own 50 = .ok (.aload_n 0, 1) := by decide +kernel
theorem dX12_own_51 : decode cX12_own 51 = .ok (.getfield 123, 3) := by decide +kernel
theorem dX12_own_54 : decode cX12_own 54 = .ok (.iload_n 1, 1) := by decide +kernel
theorem dX12_own_55 : decode cX12_own 55 = .ok (.iload_n 3, 1) := by decide +kernel
theorem dX12_own_56 : decode cX12_own 56 = .ok (.iadd, 1) := by decide +kernel
theorem dX12_own_57 : decode cX12_own 57 = .ok (.iaload, 1) := by decide +kernel
theorem dX12_own_58 : decode cX12_own 58 = .ok (.if_icmp .ne 9, 3) := by decide +kernel
theorem dX12_own_61 : decode cX12_own 61 = .ok (.iinc 3 1, 3) := by decide +kernel
theorem dX12_own_64 : decode cX12_own 64 = .ok (.goto (-52), 3) := by decide +kernel
theorem dX12_own_67 : decode cX12_own 67 = .ok (.aload_n 0, 1) := by decide +kernel
theorem dX12_own_68 : decode cX12_own 68 = .ok (.getfield 123, 3) := by decide +kernel
theorem dX12_own_71 : decode cX12_own 71 = .ok (.iload_n 1, 1) := by decide +kernel
theorem dX12_own_72 : decode cX12_own 72 = .ok (.iload_n 3, 1) := by decide +kernel
theorem dX12_own_73 : decode cX12_own 73 = .ok (.iadd, 1) := by decide +kernel
theorem dX12_own_74 : decode cX12_own 74 = .ok (.iaload, 1) := by decide +kernel
theorem dX12_own_75 : decode cX12_own 75 = .ok (.ifCond .ne 18, 3) := by decide +kernel
theorem dX12_own_78 : decode cX12_own 78 = .ok (.aload_n 0, 1) := by decide +kernel
theorem dX12_own_79 : decode cX12_own 79 = .ok (.getfield 114, 3) := by decide +kernel
theorem dX12_own_82 : decode cX12_own 82 = .ok (.iload_n 3, 1) := by decide +kernel
theorem dX12_own_83 : decode cX12_own 83 = .ok (.iadd, 1) := by decide +kernel
theorem dX12_own_84 : decode cX12_own 84 = .ok (.aload_n 0, 1) := by decide +kernel
theorem dX12_own_85 : decode cX12_own 85 = .ok (.getfield 111, 3) := by decide +kernel
theorem dX12_own_88 : decode cX12_own 88 = .ok (.if_icmp .ne 5, 3) := by decide +kernel
theorem dX12_own_91 : decode cX12_own 91 = .ok (.iload_n 2, 1) := by decide +kernel
theorem dX12_own_92 : decode cX12_own 92 = .ok (.ireturn, 1) := by decide +kernel
theorem dX12_own_93 : decode cX12_own 93 = .ok (.aload_n 0, 1) := by decide +kernel
theorem dX12_own_94 : decode cX12_own 94 = .ok (.getfield 123, 3) := by decide +kernel
theorem dX12_own_97 : decode cX12_own 97 = .ok (.iload_n 1, 1) := by decide +kernel
theorem dX12_own_98 : decode cX12_own 98 = .ok (.iaload, 1) := by decide +kernel
theorem dX12_own_99 : decode cX12_own 99 = .ok (.ifCond .eq 9, 3) := by decide +kernel
theorem dX12_own_102 : decode cX12_own 102 = .ok (.iinc 1 1, 3) := by decide +kernel
theorem dX12_own_105 : decode cX12_own 105 = .ok (.goto (-12), 3) := by decide +kernel
theorem dX12_own_108 : decode cX12_own 108 = .ok (.iinc 1 1, 3) := by decide +kernel
theorem dX12_own_111 : decode cX12_own 111 = .ok (.iinc 2 1, 3) := by decide +kernel
theorem dX12_own_114 : decode cX12_own 114 = .ok (.goto (-110), 3) := by decide +kernel
theorem dX12_own_117 : decode cX12_own 117 = .ok (.iconst (-1), 1) := by decide +kernel
theorem dX12_own_118 : decode cX12_own 118 = .ok (.ireturn, 1) := by decide +kernel
abbrev rm_M_own : Room := { frames := 0, cells := 0, slots := 0, locals := 0 }
def M_own_l12 (σ : Sg) (x1 : Int32) (x2 : Int32) (x3 : Int32) : Option (Int32 ⊕ Int32) :=
  zrd σ 188 104 (x1 + x3) fun v19 =>
  if v19 = 0 then (
    some (.inr x3)
  ) else (
    zgt σ 171 34 fun v24 =>
    zgt σ 171 33 fun v30 =>
    if v30 ≤ (v24 + x3) then (
      some (.inr x3)
    ) else (
      zgt σ 171 34 fun v41 =>
      zrd σ 186 1600 (v41 + x3) fun v46 =>
      zrd σ 188 104 (x1 + x3) fun v57 =>
      if (v46 - 96) = v57 then (
        zlt (x3 + 1) fun v61 =>
        some (.inl v61)
      ) else (
        some (.inr x3)
      )
    )
  )
set_option maxRecDepth 20000 in
theorem t_M_own_l12 {X : Zx} {Q : State → Prop} {σ : Sg} {x1 : Int32} {x2 : Int32} {x3 : Int32} (ok : Zok X cX12_own RX12 rm_M_own 198 4)  {out : (Int32 ⊕ Int32)} (hf : M_own_l12 σ x1 x2 x3 = some out) (hk : zout (fun (s : Int32) => ZAt X Q 0 0 12 σ [(0, .ref (X.ad 171)), (1, .int x1), (2, .int x2), (3, .int s)] []) (fun (s : Int32) => ZAt X Q 0 0 67 σ [(0, .ref (X.ad 171)), (1, .int x1), (2, .int x2), (3, .int s)] []) out) : ZAt X Q 0 0 12 σ [(0, .ref (X.ad 171)), (1, .int x1), (2, .int x2), (3, .int x3)] [] := by
  unfold M_own_l12 at hf
  refine z_aload_n ok dX12_own_12 0 rfl ?_
  refine z_getr (q := 188) ok kc_171 zc_12 hin_12 37 (by decide) fl_12_123 rfl dX12_own_13 ?_
  refine z_iload_n ok dX12_own_16 1 rfl ?_
  refine z_iload_n ok dX12_own_17 3 rfl ?_
  refine z_iadd ok dX12_own_18 ?_
  refine z_iald ok kc_188 dX12_own_19 hf (fun v19 hf => ?_)
  refine z_if_eq (tgt := 67) ok dX12_own_20 (by decide) hf (fun _ hf => ?_) (fun _ hf => ?_)
  · obtain rfl := Option.some.inj hf
    exact z_sub [0, 1, 2, 3] rfl hk
  · refine z_aload_n ok dX12_own_23 0 rfl ?_
    refine z_geti ok kc_171 zc_12 hin_12 34 (by decide) fl_12_114 rfl dX12_own_24 hf (fun v24 hf => ?_)
    refine z_iload_n ok dX12_own_27 3 rfl ?_
    refine z_iadd ok dX12_own_28 ?_
    refine z_aload_n ok dX12_own_29 0 rfl ?_
    refine z_geti ok kc_171 zc_12 hin_12 33 (by decide) fl_12_111 rfl dX12_own_30 hf (fun v30 hf => ?_)
    refine z_icmp_ge (tgt := 67) ok dX12_own_33 (by decide) hf (fun _ hf => ?_) (fun _ hf => ?_)
    · obtain rfl := Option.some.inj hf
      exact z_sub [0, 1, 2, 3] rfl hk
    · refine z_aload_n ok dX12_own_36 0 rfl ?_
      refine z_getr (q := 186) ok kc_171 zc_12 hin_12 27 (by decide) fl_12_93 rfl dX12_own_37 ?_
      refine z_aload_n ok dX12_own_40 0 rfl ?_
      refine z_geti ok kc_171 zc_12 hin_12 34 (by decide) fl_12_114 rfl dX12_own_41 hf (fun v41 hf => ?_)
      refine z_iload_n ok dX12_own_44 3 rfl ?_
      refine z_iadd ok dX12_own_45 ?_
      refine z_iald ok kc_186 dX12_own_46 hf (fun v46 hf => ?_)
      refine z_bipush (v := 96) ok dX12_own_47 (by decide) ?_
      refine z_isub ok dX12_own_49 ?_
      refine z_aload_n ok dX12_own_50 0 rfl ?_
      refine z_getr (q := 188) ok kc_171 zc_12 hin_12 37 (by decide) fl_12_123 rfl dX12_own_51 ?_
      refine z_iload_n ok dX12_own_54 1 rfl ?_
      refine z_iload_n ok dX12_own_55 3 rfl ?_
      refine z_iadd ok dX12_own_56 ?_
      refine z_iald ok kc_188 dX12_own_57 hf (fun v57 hf => ?_)
      refine z_icmp_ne (tgt := 67) ok dX12_own_58 (by decide) hf (fun _ hf => ?_) (fun _ hf => ?_)
      · refine z_iinc (w := 1) (lv' := fun v61 => [(3, .int v61), (0, .ref (X.ad 171)), (1, .int x1), (2, .int x2)]) ok dX12_own_61 3 rfl (by decide) (by decide) (fun _ => rfl) hf (fun v61 hf => ?_)
        refine z_goto (tgt := 12) ok dX12_own_64 (by decide) ?_
        obtain rfl := Option.some.inj hf
        exact z_sub [1, 2, 3, 0] rfl hk
      · obtain rfl := Option.some.inj hf
        exact z_sub [0, 1, 2, 3] rfl hk
def M_own_l93 (σ : Sg) (x1 : Int32) (x2 : Int32) : Option (Int32 ⊕ Int32) :=
  zrd σ 188 104 x1 fun v98 =>
  if v98 = 0 then (
    some (.inr x1)
  ) else (
    zlt (x1 + 1) fun v102 =>
    some (.inl v102)
  )
set_option maxRecDepth 20000 in
theorem t_M_own_l93 {X : Zx} {Q : State → Prop} {σ : Sg} {x1 : Int32} {x2 : Int32} (ok : Zok X cX12_own RX12 rm_M_own 198 4)  {out : (Int32 ⊕ Int32)} (hf : M_own_l93 σ x1 x2 = some out) (hk : zout (fun (s : Int32) => ZAt X Q 0 0 93 σ [(0, .ref (X.ad 171)), (1, .int s), (2, .int x2)] []) (fun (s : Int32) => ZAt X Q 0 0 108 σ [(0, .ref (X.ad 171)), (1, .int s), (2, .int x2)] []) out) : ZAt X Q 0 0 93 σ [(0, .ref (X.ad 171)), (1, .int x1), (2, .int x2)] [] := by
  unfold M_own_l93 at hf
  refine z_aload_n ok dX12_own_93 0 rfl ?_
  refine z_getr (q := 188) ok kc_171 zc_12 hin_12 37 (by decide) fl_12_123 rfl dX12_own_94 ?_
  refine z_iload_n ok dX12_own_97 1 rfl ?_
  refine z_iald ok kc_188 dX12_own_98 hf (fun v98 hf => ?_)
  refine z_if_eq (tgt := 108) ok dX12_own_99 (by decide) hf (fun _ hf => ?_) (fun _ hf => ?_)
  · obtain rfl := Option.some.inj hf
    exact z_sub [0, 1, 2] rfl hk
  · refine z_iinc (w := 1) (lv' := fun v102 => [(1, .int v102), (0, .ref (X.ad 171)), (2, .int x2)]) ok dX12_own_102 1 rfl (by decide) (by decide) (fun _ => rfl) hf (fun v102 hf => ?_)
    refine z_goto (tgt := 93) ok dX12_own_105 (by decide) ?_
    obtain rfl := Option.some.inj hf
    exact z_sub [1, 0, 2] rfl hk
def M_own_j4_67 (σ : Sg) (x1 : Int32) (x2 : Int32) (x3 : Int32) : Option ((Int32 × Int32) ⊕ (Int32 ⊕ (Int32 × Int32))) :=
  zrd σ 188 104 (x1 + x3) fun v74 =>
  if v74 = 0 then (
    zgt σ 171 34 fun v79 =>
    zgt σ 171 33 fun v85 =>
    if (v79 + x3) = v85 then (
      some (.inr (.inl x2))
    ) else (
      (zit (fun (s : Int32) => M_own_l93 σ s x2) zFU x1).bind fun r =>
      zlt (r + 1) fun v108 =>
      zlt (x2 + 1) fun v111 =>
      some (.inl (v108, v111))
    )
  ) else (
    (zit (fun (s : Int32) => M_own_l93 σ s x2) zFU x1).bind fun r =>
    zlt (r + 1) fun v108 =>
    zlt (x2 + 1) fun v111 =>
    some (.inl (v108, v111))
  )
set_option maxRecDepth 20000 in
theorem t_M_own_j4_67 {X : Zx} {Q : State → Prop} {σ : Sg} {x1 : Int32} {x2 : Int32} {x3 : Int32} (ok : Zok X cX12_own RX12 rm_M_own 198 4)  {out : ((Int32 × Int32) ⊕ (Int32 ⊕ (Int32 × Int32)))} (hf : M_own_j4_67 σ x1 x2 x3 = some out) (hk : zout (fun (s : (Int32 × Int32)) => ZAt X Q 0 0 4 σ [(0, .ref (X.ad 171)), (1, .int s.1), (2, .int s.2)] []) (zout (fun (r : Int32) => ZrI cX12_own X Q r σ) (fun (s : (Int32 × Int32)) => ZAt X Q 0 0 117 σ [] [])) out) : ZAt X Q 0 0 67 σ [(0, .ref (X.ad 171)), (1, .int x1), (2, .int x2), (3, .int x3)] [] := by
  unfold M_own_j4_67 at hf
  refine z_aload_n ok dX12_own_67 0 rfl ?_
  refine z_getr (q := 188) ok kc_171 zc_12 hin_12 37 (by decide) fl_12_123 rfl dX12_own_68 ?_
  refine z_iload_n ok dX12_own_71 1 rfl ?_
  refine z_iload_n ok dX12_own_72 3 rfl ?_
  refine z_iadd ok dX12_own_73 ?_
  refine z_iald ok kc_188 dX12_own_74 hf (fun v74 hf => ?_)
  refine z_if_ne (tgt := 93) ok dX12_own_75 (by decide) hf (fun _ hf => ?_) (fun _ hf => ?_)
  · refine z_aload_n ok dX12_own_78 0 rfl ?_
    refine z_geti ok kc_171 zc_12 hin_12 34 (by decide) fl_12_114 rfl dX12_own_79 hf (fun v79 hf => ?_)
    refine z_iload_n ok dX12_own_82 3 rfl ?_
    refine z_iadd ok dX12_own_83 ?_
    refine z_aload_n ok dX12_own_84 0 rfl ?_
    refine z_geti ok kc_171 zc_12 hin_12 33 (by decide) fl_12_111 rfl dX12_own_85 hf (fun v85 hf => ?_)
    refine z_icmp_ne (tgt := 93) ok dX12_own_88 (by decide) hf (fun _ hf => ?_) (fun _ hf => ?_)
    · refine z_iload_n ok dX12_own_91 2 rfl ?_
      obtain rfl := Option.some.inj hf
      exact hk _ _ dX12_own_92
    · refine z_call hf (fun r hr hf => ?_)
      refine z_sub [0, 1, 2] rfl (z_iter (fun (s : Int32) => σ) (fun (s : Int32) => [(0, .ref (X.ad 171)), (1, .int s), (2, .int x2)]) (fun s o h1 h2 => t_M_own_l93 ok h1 h2) _ _ _ hr ?_)
      show ZAt X Q 0 0 108 σ [(0, .ref (X.ad 171)), (1, .int r), (2, .int x2)] []
      refine z_iinc (w := 1) (lv' := fun v108 => [(1, .int v108), (0, .ref (X.ad 171)), (2, .int x2)]) ok dX12_own_108 1 rfl (by decide) (by decide) (fun _ => rfl) hf (fun v108 hf => ?_)
      refine z_iinc (w := 1) (lv' := fun v111 => [(2, .int v111), (1, .int v108), (0, .ref (X.ad 171))]) ok dX12_own_111 2 rfl (by decide) (by decide) (fun _ => rfl) hf (fun v111 hf => ?_)
      refine z_goto (tgt := 4) ok dX12_own_114 (by decide) ?_
      obtain rfl := Option.some.inj hf
      exact z_sub [2, 1, 0] rfl hk
  · refine z_call hf (fun r hr hf => ?_)
    refine z_sub [0, 1, 2] rfl (z_iter (fun (s : Int32) => σ) (fun (s : Int32) => [(0, .ref (X.ad 171)), (1, .int s), (2, .int x2)]) (fun s o h1 h2 => t_M_own_l93 ok h1 h2) _ _ _ hr ?_)
    show ZAt X Q 0 0 108 σ [(0, .ref (X.ad 171)), (1, .int r), (2, .int x2)] []
    refine z_iinc (w := 1) (lv' := fun v108 => [(1, .int v108), (0, .ref (X.ad 171)), (2, .int x2)]) ok dX12_own_108 1 rfl (by decide) (by decide) (fun _ => rfl) hf (fun v108 hf => ?_)
    refine z_iinc (w := 1) (lv' := fun v111 => [(2, .int v111), (1, .int v108), (0, .ref (X.ad 171))]) ok dX12_own_111 2 rfl (by decide) (by decide) (fun _ => rfl) hf (fun v111 hf => ?_)
    refine z_goto (tgt := 4) ok dX12_own_114 (by decide) ?_
    obtain rfl := Option.some.inj hf
    exact z_sub [2, 1, 0] rfl hk
def M_own_l4 (σ : Sg) (x1 : Int32) (x2 : Int32) : Option ((Int32 × Int32) ⊕ (Int32 ⊕ (Int32 × Int32))) :=
  if 104 ≤ x1 then (
    some (.inr (.inr (x1, x2)))
  ) else (
    zlt 0 fun v11 =>
    (zit (fun (s : Int32) => M_own_l12 σ x1 x2 s) zFU v11).bind fun r =>
    M_own_j4_67 σ x1 x2 r
  )
set_option maxRecDepth 20000 in
theorem t_M_own_l4 {X : Zx} {Q : State → Prop} {σ : Sg} {x1 : Int32} {x2 : Int32} (ok : Zok X cX12_own RX12 rm_M_own 198 4)  {out : ((Int32 × Int32) ⊕ (Int32 ⊕ (Int32 × Int32)))} (hf : M_own_l4 σ x1 x2 = some out) (hk : zout (fun (s : (Int32 × Int32)) => ZAt X Q 0 0 4 σ [(0, .ref (X.ad 171)), (1, .int s.1), (2, .int s.2)] []) (zout (fun (r : Int32) => ZrI cX12_own X Q r σ) (fun (s : (Int32 × Int32)) => ZAt X Q 0 0 117 σ [] [])) out) : ZAt X Q 0 0 4 σ [(0, .ref (X.ad 171)), (1, .int x1), (2, .int x2)] [] := by
  unfold M_own_l4 at hf
  refine z_iload_n ok dX12_own_4 1 rfl ?_
  refine z_bipush (v := 104) ok dX12_own_5 (by decide) ?_
  refine z_icmp_ge (tgt := 117) ok dX12_own_7 (by decide) hf (fun _ hf => ?_) (fun _ hf => ?_)
  · obtain rfl := Option.some.inj hf
    exact z_sub [] rfl hk
  · refine z_iconst (v := 0) ok dX12_own_10 (by decide) ?_
    refine z_nm hf (fun v11 hf => ?_)
    refine z_istore_n (lv' := [(3, .int v11), (0, .ref (X.ad 171)), (1, .int x1), (2, .int x2)]) ok dX12_own_11 (by decide) rfl ?_
    refine z_call hf (fun r hr hf => ?_)
    refine z_sub [1, 2, 3, 0] rfl (z_iter (fun (s : Int32) => σ) (fun (s : Int32) => [(0, .ref (X.ad 171)), (1, .int x1), (2, .int x2), (3, .int s)]) (fun s o h1 h2 => t_M_own_l12 ok h1 h2) _ _ _ hr ?_)
    show ZAt X Q 0 0 67 σ [(0, .ref (X.ad 171)), (1, .int x1), (2, .int x2), (3, .int r)] []
    exact z_sub [0, 1, 2, 3] rfl (t_M_own_j4_67 ok hf hk)
def M_own (σ : Sg)  : Option Int32 :=
  zlt 0 fun v1 =>
  zlt 0 fun v3 =>
  (zit (fun (s : (Int32 × Int32)) => M_own_l4 σ s.1 s.2) zFU (v1, v3)).bind fun r => r.elim (fun r =>
  some r
  ) (fun r =>
  some (-1)
  )
set_option maxRecDepth 20000 in
theorem t_M_own {X : Zx} {Q : State → Prop} {σ : Sg}  (ok : Zok X cX12_own RX12 rm_M_own 198 4)  {out : Int32} (hf : M_own σ = some out) (hk : ZrI cX12_own X Q out σ) : ZAt X Q 0 0 0 σ [(0, .ref (X.ad 171))] [] := by
  unfold M_own at hf
  refine z_iconst (v := 0) ok dX12_own_0 (by decide) ?_
  refine z_nm hf (fun v1 hf => ?_)
  refine z_istore_n (lv' := [(1, .int v1), (0, .ref (X.ad 171))]) ok dX12_own_1 (by decide) rfl ?_
  refine z_iconst (v := 0) ok dX12_own_2 (by decide) ?_
  refine z_nm hf (fun v3 hf => ?_)
  refine z_istore_n (lv' := [(2, .int v3), (1, .int v1), (0, .ref (X.ad 171))]) ok dX12_own_3 (by decide) rfl ?_
  refine z_call hf (fun r hr hf => ?_)
  refine z_sub [2, 1, 0] rfl (z_iter (fun (s : (Int32 × Int32)) => σ) (fun (s : (Int32 × Int32)) => [(0, .ref (X.ad 171)), (1, .int s.1), (2, .int s.2)]) (fun s o h1 h2 => t_M_own_l4 ok h1 h2) _ _ _ hr ?_)
  cases r with
  | inl r =>
    obtain rfl := Option.some.inj hf
    exact hk
  | inr r =>
    simp only [Sum.elim_inr] at hf
    show ZAt X Q 0 0 117 σ [] []
    refine z_iconst (v := (-1)) ok dX12_own_117 (by decide) ?_
    obtain rfl := Option.some.inj hf
    exact hk _ _ dX12_own_118
theorem c_M_own {σ : Sg} {r : Int32} (h : M_own σ = some r) : ZcI yX12_own cX12_own 4 .int rm_M_own 198 (fun ad => [.ref (ad 171)]) σ r σ :=
  zmetI pn_12 rfl (fun _ => rfl) (fun _ => Nat.le_of_ble_eq_true rfl) rfl (fun X Q ok hk => t_M_own ok h hk)
theorem dX12_must_0 : decode cX12_must 0 = .ok (.aload_n 0, 1) := by decide +kernel
theorem dX12_must_1 : decode cX12_must 1 = .ok (.invokevirtual 192, 3) := by decide +kernel
theorem dX12_must_4 : decode cX12_must 4 = .ok (.aload_n 0, 1) := by decide +kernel
theorem dX12_must_5 : decode cX12_must 5 = .ok (.invokevirtual 174, 3) := by decide +kernel
theorem dX12_must_8 : decode cX12_must 8 = .ok (.ifCond .eq 20, 3) := by decide +kernel
theorem dX12_must_11 : decode cX12_must 11 = .ok (.aload_n 0, 1) := by decide +kernel
theorem dX12_must_12 : decode cX12_must 12 = .ok (.invokevirtual 195, 3) := by decide +kernel
theorem dX12_must_15 : decode cX12_must 15 = .ok (.iload_n 1, 1) := by decide +kernel
theorem dX12_must_16 : decode cX12_must 16 = .ok (.if_icmp .eq 12, 3) := by decide +kernel
theorem dX12_must_19 : decode cX12_must 19 = .ok (.aload_n 0, 1) := by decide +kernel
theorem dX12_must_20 : decode cX12_must 20 = .ok (.iconst 1, 1) := by decide +kernel
theorem dX12_must_21 : decode cX12_must 21 = .ok (.aload_n 0, 1) := by decide +kernel
theorem dX12_must_22 : decode cX12_must 22 = .ok (.getfield 114, 3) := by decide +kernel
theorem dX12_must_25 : decode cX12_must 25 = .ok (.invokevirtual 188, 3) := by decide +kernel
theorem dX12_must_28 : decode cX12_must 28 = .ok (.return_, 1) := by decide +kernel
abbrev rm_M_must : Room := { frames := 3, cells := 0, slots := 0, locals := 62 }
def M_must (σ : Sg) (x1 : Int32) : Option Sg :=
  (M_word σ).bind fun r1 =>
  (M_goesWell r1).bind fun r5 =>
  if (zb r5) = 0 then (
    some r1
  ) else (
    (M_own r1).bind fun r12 =>
    if r12 = x1 then (
      some r1
    ) else (
      zgt r1 171 34 fun v22 =>
      (M_faults r1 1 v22).bind fun r25 =>
      some r25
    )
  )
set_option maxRecDepth 20000 in
theorem t_M_must {X : Zx} {Q : State → Prop} {σ : Sg} {x1 : Int32} (ok : Zok X cX12_must RX12 rm_M_must 198 2)  {out : Sg} (hf : M_must σ x1 = some out) (hk : ZrV cX12_must X Q out) : ZAt X Q 0 0 0 σ [(0, .ref (X.ad 171)), (1, .int x1)] [] := by
  unfold M_must at hf
  refine z_aload_n ok dX12_must_0 0 rfl ?_
  refine z_call hf (fun r1 h1 hf => ?_)
  refine z_cVv (As := []) (rest := []) (w := 171) ok kc_171 zc_12 (c_M_word h1) rfl ⟨ml_12_192, w_M_word⟩ hy_M_word ⟨rfl, rfl⟩ ⟨Nat.le_of_ble_eq_true rfl, Nat.le_of_ble_eq_true rfl⟩ ⟨Nat.zero_le _, Nat.zero_le _⟩ rfl (Nat.le_of_ble_eq_true rfl) dX12_must_1 ?_
  refine z_aload_n ok dX12_must_4 0 rfl ?_
  refine z_call hf (fun r5 h5 hf => ?_)
  refine z_cV (As := []) (rest := []) (w := 171) ok kc_171 zc_12 (c_M_goesWell h5) rfl ⟨ml_12_174, w_M_goesWell⟩ hy_M_goesWell ⟨rfl, rfl⟩ ⟨Nat.le_of_ble_eq_true rfl, Nat.le_of_ble_eq_true rfl⟩ ⟨Nat.zero_le _, Nat.zero_le _⟩ rfl (Nat.le_of_ble_eq_true rfl) dX12_must_5 ?_
  refine z_if_eq (tgt := 28) ok dX12_must_8 (by decide) hf (fun _ hf => ?_) (fun _ hf => ?_)
  · obtain rfl := Option.some.inj hf
    exact hk _ _ dX12_must_28
  · refine z_aload_n ok dX12_must_11 0 rfl ?_
    refine z_call hf (fun r12 h12 hf => ?_)
    refine z_cV (As := []) (rest := []) (w := 171) ok kc_171 zc_12 (c_M_own h12) rfl ⟨ml_12_195, w_M_own⟩ hy_M_own ⟨rfl, rfl⟩ ⟨Nat.le_of_ble_eq_true rfl, Nat.le_of_ble_eq_true rfl⟩ ⟨Nat.zero_le _, Nat.zero_le _⟩ rfl (Nat.le_of_ble_eq_true rfl) dX12_must_12 ?_
    refine z_iload_n ok dX12_must_15 1 rfl ?_
    refine z_icmp_eq (tgt := 28) ok dX12_must_16 (by decide) hf (fun _ hf => ?_) (fun _ hf => ?_)
    · obtain rfl := Option.some.inj hf
      exact hk _ _ dX12_must_28
    · refine z_aload_n ok dX12_must_19 0 rfl ?_
      refine z_iconst (v := 1) ok dX12_must_20 (by decide) ?_
      refine z_aload_n ok dX12_must_21 0 rfl ?_
      refine z_geti ok kc_171 zc_12 hin_12 34 (by decide) fl_12_114 rfl dX12_must_22 hf (fun v22 hf => ?_)
      refine z_call hf (fun r25 h25 hf => ?_)
      refine z_cVv (As := [.int 1, .int v22]) (rest := []) (w := 171) ok kc_171 zc_12 (c_M_faults h25) rfl ⟨ml_12_188, w_M_faults⟩ hy_M_faults ⟨rfl, rfl⟩ ⟨Nat.le_of_ble_eq_true rfl, Nat.le_of_ble_eq_true rfl⟩ ⟨Nat.zero_le _, Nat.zero_le _⟩ rfl (Nat.le_of_ble_eq_true rfl) dX12_must_25 ?_
      obtain rfl := Option.some.inj hf
      exact hk _ _ dX12_must_28
theorem c_M_must {σ : Sg} {x1 : Int32} {r : Sg} (h : M_must σ x1 = some r) : ZcV yX12_must cX12_must 2 rm_M_must 198 (fun ad => [.ref (ad 171), .int x1]) σ r :=
  zmetV pn_12 rfl (fun _ => rfl) (fun _ => Nat.le_of_ble_eq_true rfl) (fun X Q ok hk => t_M_must ok h hk)
theorem dX12_isIn_0 : decode cX12_isIn 0 = .ok (.iload_n 0, 1) := by decide +kernel
theorem dX12_isIn_1 : decode cX12_isIn 1 = .ok (.iload_n 1, 1) := by decide +kernel
theorem dX12_isIn_2 : decode cX12_isIn 2 = .ok (.if_icmp .lt 12, 3) := by decide +kernel
theorem dX12_isIn_5 : decode cX12_isIn 5 = .ok (.iload_n 0, 1) := by decide +kernel
theorem dX12_isIn_6 : decode cX12_isIn 6 = .ok (.iload_n 2, 1) := by decide +kernel
theorem dX12_isIn_7 : decode cX12_isIn 7 = .ok (.if_icmp .gt 7, 3) := by decide +kernel
theorem dX12_isIn_10 : decode cX12_isIn 10 = .ok (.iconst 1, 1) := by decide +kernel
theorem dX12_isIn_11 : decode cX12_isIn 11 = .ok (.goto 4, 3) := by decide +kernel
theorem dX12_isIn_14 : decode cX12_isIn 14 = .ok (.iconst 0, 1) := by decide +kernel
theorem dX12_isIn_15 : decode cX12_isIn 15 = .ok (.ireturn, 1) := by decide +kernel
abbrev rm_M_isIn : Room := { frames := 0, cells := 0, slots := 0, locals := 0 }
def M_isIn (x0 : Int32) (x1 : Int32) (x2 : Int32) : Option Bool :=
  if x0 < x1 then (
    some false
  ) else (
    if x2 < x0 then (
      some false
    ) else (
      some true
    )
  )
set_option maxRecDepth 20000 in
theorem t_M_isIn {X : Zx} {Q : State → Prop} {σ : Sg} {x0 : Int32} {x1 : Int32} {x2 : Int32} (ok : Zok X cX12_isIn RX12 rm_M_isIn 198 3)  {out : Bool} (hf : M_isIn x0 x1 x2 = some out) (hk : ZrI cX12_isIn X Q (zb out) σ) : ZAt X Q 0 0 0 σ [(0, .int x0), (1, .int x1), (2, .int x2)] [] := by
  unfold M_isIn at hf
  refine z_iload_n ok dX12_isIn_0 0 rfl ?_
  refine z_iload_n ok dX12_isIn_1 1 rfl ?_
  refine z_icmp_lt (tgt := 14) ok dX12_isIn_2 (by decide) hf (fun _ hf => ?_) (fun _ hf => ?_)
  · refine z_iconst (v := 0) ok dX12_isIn_14 (by decide) ?_
    obtain rfl := Option.some.inj hf
    exact hk _ _ dX12_isIn_15
  · refine z_iload_n ok dX12_isIn_5 0 rfl ?_
    refine z_iload_n ok dX12_isIn_6 2 rfl ?_
    refine z_icmp_gt (tgt := 14) ok dX12_isIn_7 (by decide) hf (fun _ hf => ?_) (fun _ hf => ?_)
    · refine z_iconst (v := 0) ok dX12_isIn_14 (by decide) ?_
      obtain rfl := Option.some.inj hf
      exact hk _ _ dX12_isIn_15
    · refine z_iconst (v := 1) ok dX12_isIn_10 (by decide) ?_
      refine z_goto (tgt := 15) ok dX12_isIn_11 (by decide) ?_
      obtain rfl := Option.some.inj hf
      exact hk _ _ dX12_isIn_15
theorem c_M_isIn {σ : Sg} {x0 : Int32} {x1 : Int32} {x2 : Int32} {r : Bool} (h : M_isIn x0 x1 x2 = some r) : ZcI yX12_isIn cX12_isIn 3 .boolean rm_M_isIn 198 (fun ad => [.int x0, .int x1, .int x2]) σ (zb r) σ :=
  zmetI pn_12 rfl (fun _ => rfl) (fun _ => Nat.le_of_ble_eq_true rfl) (zb_nar _) (fun X Q ok hk => t_M_isIn ok h hk)
theorem dX12_number_0 : decode cX12_number 0 = .ok (.aload_n 0, 1) := by decide +kernel
theorem dX12_number_1 : decode cX12_number 1 = .ok (.invokevirtual 174, 3) := by decide +kernel
theorem dX12_number_4 : decode cX12_number 4 = .ok (.ifCond .ne 5, 3) := by decide +kernel
theorem dX12_number_7 : decode cX12_number 7 = .ok (.iconst 0, 1) := by decide +kernel
theorem dX12_number_8 : decode cX12_number 8 = .ok (.ireturn, 1) := by decide +kernel
theorem dX12_number_9 : decode cX12_number 9 = .ok (.aload_n 0, 1) := by decide +kernel
theorem dX12_number_10 : decode cX12_number 10 = .ok (.invokevirtual 178, 3) := by decide +kernel
theorem dX12_number_13 : decode cX12_number 13 = .ok (.pop, 1) := by decide +kernel
theorem dX12_number_14 : decode cX12_number 14 = .ok (.aload_n 0, 1) := by decide +kernel
theorem dX12_number_15 : decode cX12_number 15 = .ok (.aload_n 0, 1) := by decide +kernel
theorem dX12_number_16 : decode cX12_number 16 = .ok (.getfield 111, 3) := by decide +kernel
theorem dX12_number_19 : decode cX12_number 19 = .ok (.putfield 114, 3) := by decide +kernel
theorem dX12_number_22 : decode cX12_number 22 = .ok (.aload_n 0, 1) := by decide +kernel
theorem dX12_number_23 : decode cX12_number 23 = .ok (.aload_n 0, 1) := by decide +kernel
theorem dX12_number_24 : decode cX12_number 24 = .ok (.getfield 111, 3) := by decide +kernel
theorem dX12_number_27 : decode cX12_number 27 = .ok (.invokevirtual 185, 3) := by decide +kernel
theorem dX12_number_30 : decode cX12_number 30 = .ok (.ifCond .eq 29, 3) := by decide +kernel
theorem dX12_number_33 : decode cX12_number 33 = .ok (.aload_n 0, 1) := by decide +kernel
theorem dX12_number_34 : decode cX12_number 34 = .ok (.aload_n 0, 1) := by decide +kernel
theorem dX12_number_35 : decode cX12_number 35 = .ok (.getfield 111, 3) := by decide +kernel
theorem dX12_number_38 : decode cX12_number 38 = .ok (.iconst 1, 1) := by decide +kernel
theorem dX12_number_39 : decode cX12_number 39 = .ok (.isub, 1) := by decide +kernel
theorem dX12_number_40 : decode cX12_number 40 = .ok (.invokevirtual 182, 3) := by decide +kernel
theorem dX12_number_43 : decode cX12_number 43 = .ok (.ifCond .ne 16, 3) := by decide +kernel
theorem dX12_number_46 : decode cX12_number 46 = .ok (.aload_n 0, 1) := by decide +kernel
theorem dX12_number_47 : decode cX12_number 47 = .ok (.aload_n 0, 1) := by decide +kernel
theorem dX12_number_48 : decode cX12_number 48 = .ok (.getfield 111, 3) := by decide +kernel
theorem dX12_number_51 : decode cX12_number 51 = .ok (.iconst 1, 1) := by decide +kernel
theorem dX12_number_52 : decode cX12_number 52 = .ok (.isub, 1) := by decide +kernel
theorem dX12_number_53 : decode cX12_number 53 = .ok (.invokevirtual 185, 3) := by decide +kernel
theorem dX12_number_56 : decode cX12_number 56 = .ok (.ifCond .eq 14, 3) := by decide +kernel
theorem dX12_number_59 : decode cX12_number 59 = .ok (.aload_n 0, 1) := by decide +kernel
theorem dX12_number_60 : decode cX12_number 60 = .ok (.iconst 1, 1) := by decide +kernel
theorem dX12_number_61 : decode cX12_number 61 = .ok (.aload_n 0, 1) := by decide +kernel
theorem dX12_number_62 : decode cX12_number 62 = .ok (.getfield 111, 3) := by decide +kernel
theorem dX12_number_65 : decode cX12_number 65 = .ok (.invokevirtual 188, 3) := by decide +kernel
theorem dX12_number_68 : decode cX12_number 68 = .ok (.iconst 0, 1) := by decide +kernel
theorem dX12_number_69 : decode cX12_number 69 = .ok (.ireturn, 1) := by decide +kernel
theorem dX12_number_70 : decode cX12_number 70 = .ok (.iconst 0, 1) := by decide +kernel
theorem dX12_number_71 : decode cX12_number 71 = .ok (.istore_n 3, 1) := by decide +kernel
theorem dX12_number_72 : decode cX12_number 72 = .ok (.aload_n 0, 1) := by decide +kernel
theorem dX12_number_73 : decode cX12_number 73 = .ok (.aload_n 0, 1) := by decide +kernel
theorem dX12_number_74 : decode cX12_number 74 = .ok (.getfield 111, 3) := by decide +kernel
theorem dX12_number_77 : decode cX12_number 77 = .ok (.invokevirtual 185, 3) := by decide +kernel
theorem dX12_number_80 : decode cX12_number 80 = .ok (.ifCond .eq 62, 3) := by decide +kernel
theorem dX12_number_83 : decode cX12_number 83 = .ok (.aload_n 0, 1) := by decide +kernel
theorem dX12_number_84 : decode cX12_number 84 = .ok (.invokevirtual 174, 3) := by decide +kernel
theorem dX12_number_87 : decode cX12_number 87 = .ok (.ifCond .eq 55, 3) := by decide +kernel
theorem dX12_number_90 : decode cX12_number 90 = .ok (.aload_n 0, 1) := by decide +kernel
theorem dX12_number_91 : decode cX12_number 91 = .ok (.getfield 111, 3) := by decide +kernel
theorem dX12_number_94 : decode cX12_number 94 = .ok (.aload_n 0, 1) := by decide +kernel
theorem dX12_number_95 : decode cX12_number 95 = .ok (.getfield 114, 3) := by decide +kernel
theorem dX12_number_98 : decode cX12_number 98 = .ok (.isub, 1) := by decide +kernel
theorem dX12_number_99 : decode cX12_number 99 = .ok (.iconst 4, 1) := by decide +kernel
theorem dX12_number_100 : decode cX12_number 100 = .ok (.if_icmp .ne 12, 3) := by decide +kernel
theorem dX12_number_103 : decode cX12_number 103 = .ok (.aload_n 0, 1) := by decide +kernel
theorem dX12_number_104 : decode cX12_number 104 = .ok (.iconst 1, 1) := by decide +kernel
theorem dX12_number_105 : decode cX12_number 105 = .ok (.aload_n 0, 1) := by decide +kernel
theorem dX12_number_106 : decode cX12_number 106 = .ok (.getfield 111, 3) := by decide +kernel
theorem dX12_number_109 : decode cX12_number 109 = .ok (.invokevirtual 188, 3) := by decide +kernel
theorem dX12_number_112 : decode cX12_number 112 = .ok (.bipush 10, 2) := by decide +kernel
theorem dX12_number_114 : decode cX12_number 114 = .ok (.iload_n 3, 1) := by decide +kernel
theorem dX12_number_115 : decode cX12_number 115 = .ok (.imul, 1) := by decide +kernel
theorem dX12_number_116 : decode cX12_number 116 = .ok (.aload_n 0, 1) := by decide +kernel
theorem dX12_number_117 : decode cX12_number 117 = .ok (.aload_n 0, 1) := by decide +kernel
theorem dX12_number_118 : decode cX12_number 118 = .ok (.getfield 111, 3) := by decide +kernel
theorem dX12_number_121 : decode cX12_number 121 = .ok (.invokevirtual 171, 3) := by decide +kernel
theorem dX12_number_124 : decode cX12_number 124 = .ok (.iadd, 1) := by decide +kernel
theorem dX12_number_125 : decode cX12_number 125 = .ok (.bipush 48, 2) := by decide +kernel
theorem dX12_number_127 : decode cX12_number 127 = .ok (.isub, 1) := by decide +kernel
theorem dX12_number_128 : decode cX12_number 128 = .ok (.istore_n 3, 1) := by decide +kernel
theorem dX12_number_129 : decode cX12_number 129 = .ok (.aload_n 0, 1) := by decide +kernel
theorem dX12_number_130 : decode cX12_number 130 = .ok (.dup, 1) := by decide +kernel
theorem dX12_number_131 : decode cX12_number 131 = .ok (.getfield 111, 3) := by decide +kernel
theorem dX12_number_134 : decode cX12_number 134 = .ok (.iconst 1, 1) := by decide +kernel
theorem dX12_number_135 : decode cX12_number 135 = .ok (.iadd, 1) := by decide +kernel
theorem dX12_number_136 : decode cX12_number 136 = .ok (.putfield 111, 3) := by decide +kernel
theorem dX12_number_139 : decode cX12_number 139 = .ok (.goto (-67), 3) := by decide +kernel
theorem dX12_number_142 : decode cX12_number 142 = .ok (.iload_n 3, 1) := by decide +kernel
theorem dX12_number_143 : decode cX12_number 143 = .ok (.iload_n 1, 1) := by decide +kernel
theorem dX12_number_144 : decode cX12_number 144 = .ok (.iload_n 2, 1) := by decide +kernel
theorem dX12_number_145 : decode cX12_number 145 = .ok (.invokestatic 198, 3) := by decide +kernel
theorem dX12_number_148 : decode cX12_number 148 = .ok (.ifCond .ne 12, 3) := by decide +kernel
theorem dX12_number_151 : decode cX12_number 151 = .ok (.aload_n 0, 1) := by decide +kernel
theorem dX12_number_152 : decode cX12_number 152 = .ok (.iconst 2, 1) := by decide +kernel
theorem dX12_number_153 : decode cX12_number 153 = .ok (.aload_n 0, 1) := by decide +kernel
theorem dX12_number_154 : decode cX12_number 154 = .ok (.getfield 114, 3) := by decide +kernel
theorem dX12_number_157 : decode cX12_number 157 = .ok (.invokevirtual 188, 3) := by decide +kernel
theorem dX12_number_160 : decode cX12_number 160 = .ok (.aload_n 0, 1) := by decide +kernel
theorem dX12_number_161 : decode cX12_number 161 = .ok (.invokevirtual 174, 3) := by decide +kernel
theorem dX12_number_164 : decode cX12_number 164 = .ok (.ifCond .eq 7, 3) := by decide +kernel
theorem dX12_number_167 : decode cX12_number 167 = .ok (.iload_n 3, 1) := by decide +kernel
theorem dX12_number_168 : decode cX12_number 168 = .ok (.goto 4, 3) := by decide +kernel
theorem dX12_number_171 : decode cX12_number 171 = .ok (.iconst 0, 1) := by decide +kernel
theorem dX12_number_172 : decode cX12_number 172 = .ok (.ireturn, 1) := by decide +kernel
abbrev rm_M_number : Room := { frames := 2, cells := 0, slots := 0, locals := 42 }
def M_number_j72_112 (σ : Sg) (x1 : Int32) (x2 : Int32) (x3 : Int32) : Option ((Sg × Int32) ⊕ (Sg × Int32)) :=
  zgt σ 171 33 fun v118 =>
  (M_byteAt σ v118).bind fun r121 =>
  zlt (((10 * x3) + r121) - 48) fun v128 =>
  zgt σ 171 33 fun v131 =>
  zpt σ 171 33 (v131 + 1) fun σ136 =>
  some (.inl (σ136, v128))
set_option maxRecDepth 20000 in
theorem t_M_number_j72_112 {X : Zx} {Q : State → Prop} {σ : Sg} {x1 : Int32} {x2 : Int32} {x3 : Int32} (ok : Zok X cX12_number RX12 rm_M_number 198 4)  {out : ((Sg × Int32) ⊕ (Sg × Int32))} (hf : M_number_j72_112 σ x1 x2 x3 = some out) (hk : zout (fun (s : (Sg × Int32)) => ZAt X Q 0 0 72 s.1 [(0, .ref (X.ad 171)), (1, .int x1), (2, .int x2), (3, .int s.2)] []) (fun (s : (Sg × Int32)) => ZAt X Q 0 0 142 s.1 [(0, .ref (X.ad 171)), (1, .int x1), (2, .int x2), (3, .int s.2)] []) out) : ZAt X Q 0 0 112 σ [(0, .ref (X.ad 171)), (1, .int x1), (2, .int x2), (3, .int x3)] [] := by
  unfold M_number_j72_112 at hf
  refine z_bipush (v := 10) ok dX12_number_112 (by decide) ?_
  refine z_iload_n ok dX12_number_114 3 rfl ?_
  refine z_imul ok dX12_number_115 ?_
  refine z_aload_n ok dX12_number_116 0 rfl ?_
  refine z_aload_n ok dX12_number_117 0 rfl ?_
  refine z_geti ok kc_171 zc_12 hin_12 33 (by decide) fl_12_111 rfl dX12_number_118 hf (fun v118 hf => ?_)
  refine z_call hf (fun r121 h121 hf => ?_)
  refine z_cV (As := [.int v118]) (rest := [.int (10 * x3)]) (w := 171) ok kc_171 zc_12 (c_M_byteAt h121) rfl ⟨ml_12_171, w_M_byteAt⟩ hy_M_byteAt ⟨rfl, rfl⟩ ⟨Nat.le_of_ble_eq_true rfl, Nat.le_of_ble_eq_true rfl⟩ ⟨Nat.zero_le _, Nat.zero_le _⟩ rfl (Nat.le_of_ble_eq_true rfl) dX12_number_121 ?_
  refine z_iadd ok dX12_number_124 ?_
  refine z_bipush (v := 48) ok dX12_number_125 (by decide) ?_
  refine z_isub ok dX12_number_127 ?_
  refine z_nm hf (fun v128 hf => ?_)
  refine z_istore_n (lv' := [(3, .int v128), (0, .ref (X.ad 171)), (1, .int x1), (2, .int x2)]) ok dX12_number_128 (by decide) rfl ?_
  refine z_aload_n ok dX12_number_129 1 rfl ?_
  refine z_dup ok dX12_number_130 rfl ?_
  refine z_geti ok kc_171 zc_12 hin_12 33 (by decide) fl_12_111 rfl dX12_number_131 hf (fun v131 hf => ?_)
  refine z_iconst (v := 1) ok dX12_number_134 (by decide) ?_
  refine z_iadd ok dX12_number_135 ?_
  refine z_puti ok kc_171 zc_12 hin_12 tyX12 tyX12_ok nmX12 33 (by decide) fl_12_111 rfl rfl (tyX12_ok 33 (by decide)) dX12_number_136 hf (fun σ136 hf => ?_)
  refine z_goto (tgt := 72) ok dX12_number_139 (by decide) ?_
  obtain rfl := Option.some.inj hf
  exact z_sub [1, 2, 3, 0] rfl hk
def M_number_l72 (σ : Sg) (x1 : Int32) (x2 : Int32) (x3 : Int32) : Option ((Sg × Int32) ⊕ (Sg × Int32)) :=
  zgt σ 171 33 fun v74 =>
  (M_isDigit σ v74).bind fun r77 =>
  if (zb r77) = 0 then (
    some (.inr (σ, x3))
  ) else (
    (M_goesWell σ).bind fun r84 =>
    if (zb r84) = 0 then (
      some (.inr (σ, x3))
    ) else (
      zgt σ 171 33 fun v91 =>
      zgt σ 171 34 fun v95 =>
      if (v91 - v95) = 4 then (
        zgt σ 171 33 fun v106 =>
        (M_faults σ 1 v106).bind fun r109 =>
        M_number_j72_112 r109 x1 x2 x3
      ) else (
        M_number_j72_112 σ x1 x2 x3
      )
    )
  )
set_option maxRecDepth 20000 in
theorem t_M_number_l72 {X : Zx} {Q : State → Prop} {σ : Sg} {x1 : Int32} {x2 : Int32} {x3 : Int32} (ok : Zok X cX12_number RX12 rm_M_number 198 4)  {out : ((Sg × Int32) ⊕ (Sg × Int32))} (hf : M_number_l72 σ x1 x2 x3 = some out) (hk : zout (fun (s : (Sg × Int32)) => ZAt X Q 0 0 72 s.1 [(0, .ref (X.ad 171)), (1, .int x1), (2, .int x2), (3, .int s.2)] []) (fun (s : (Sg × Int32)) => ZAt X Q 0 0 142 s.1 [(0, .ref (X.ad 171)), (1, .int x1), (2, .int x2), (3, .int s.2)] []) out) : ZAt X Q 0 0 72 σ [(0, .ref (X.ad 171)), (1, .int x1), (2, .int x2), (3, .int x3)] [] := by
  unfold M_number_l72 at hf
  refine z_aload_n ok dX12_number_72 0 rfl ?_
  refine z_aload_n ok dX12_number_73 0 rfl ?_
  refine z_geti ok kc_171 zc_12 hin_12 33 (by decide) fl_12_111 rfl dX12_number_74 hf (fun v74 hf => ?_)
  refine z_call hf (fun r77 h77 hf => ?_)
  refine z_cV (As := [.int v74]) (rest := []) (w := 171) ok kc_171 zc_12 (c_M_isDigit h77) rfl ⟨ml_12_185, w_M_isDigit⟩ hy_M_isDigit ⟨rfl, rfl⟩ ⟨Nat.le_of_ble_eq_true rfl, Nat.le_of_ble_eq_true rfl⟩ ⟨Nat.zero_le _, Nat.zero_le _⟩ rfl (Nat.le_of_ble_eq_true rfl) dX12_number_77 ?_
  refine z_if_eq (tgt := 142) ok dX12_number_80 (by decide) hf (fun _ hf => ?_) (fun _ hf => ?_)
  · obtain rfl := Option.some.inj hf
    exact z_sub [0, 1, 2, 3] rfl hk
  · refine z_aload_n ok dX12_number_83 0 rfl ?_
    refine z_call hf (fun r84 h84 hf => ?_)
    refine z_cV (As := []) (rest := []) (w := 171) ok kc_171 zc_12 (c_M_goesWell h84) rfl ⟨ml_12_174, w_M_goesWell⟩ hy_M_goesWell ⟨rfl, rfl⟩ ⟨Nat.le_of_ble_eq_true rfl, Nat.le_of_ble_eq_true rfl⟩ ⟨Nat.zero_le _, Nat.zero_le _⟩ rfl (Nat.le_of_ble_eq_true rfl) dX12_number_84 ?_
    refine z_if_eq (tgt := 142) ok dX12_number_87 (by decide) hf (fun _ hf => ?_) (fun _ hf => ?_)
    · obtain rfl := Option.some.inj hf
      exact z_sub [0, 1, 2, 3] rfl hk
    · refine z_aload_n ok dX12_number_90 0 rfl ?_
      refine z_geti ok kc_171 zc_12 hin_12 33 (by decide) fl_12_111 rfl dX12_number_91 hf (fun v91 hf => ?_)
      refine z_aload_n ok dX12_number_94 0 rfl ?_
      refine z_geti ok kc_171 zc_12 hin_12 34 (by decide) fl_12_114 rfl dX12_number_95 hf (fun v95 hf => ?_)
      refine z_isub ok dX12_number_98 ?_
      refine z_iconst (v := 4) ok dX12_number_99 (by decide) ?_
      refine z_icmp_ne (tgt := 112) ok dX12_number_100 (by decide) hf (fun _ hf => ?_) (fun _ hf => ?_)
      · refine z_aload_n ok dX12_number_103 0 rfl ?_
        refine z_iconst (v := 1) ok dX12_number_104 (by decide) ?_
        refine z_aload_n ok dX12_number_105 0 rfl ?_
        refine z_geti ok kc_171 zc_12 hin_12 33 (by decide) fl_12_111 rfl dX12_number_106 hf (fun v106 hf => ?_)
        refine z_call hf (fun r109 h109 hf => ?_)
        refine z_cVv (As := [.int 1, .int v106]) (rest := []) (w := 171) ok kc_171 zc_12 (c_M_faults h109) rfl ⟨ml_12_188, w_M_faults⟩ hy_M_faults ⟨rfl, rfl⟩ ⟨Nat.le_of_ble_eq_true rfl, Nat.le_of_ble_eq_true rfl⟩ ⟨Nat.zero_le _, Nat.zero_le _⟩ rfl (Nat.le_of_ble_eq_true rfl) dX12_number_109 ?_
        exact z_sub [0, 1, 2, 3] rfl (t_M_number_j72_112 ok hf hk)
      · exact z_sub [0, 1, 2, 3] rfl (t_M_number_j72_112 ok hf hk)
def M_number_j160 (σ : Sg) (x3 : Int32) : Option (Int32 × Sg) :=
  (M_goesWell σ).bind fun r161 =>
  if (zb r161) = 0 then (
    some (0, σ)
  ) else (
    some (x3, σ)
  )
set_option maxRecDepth 20000 in
theorem t_M_number_j160 {X : Zx} {Q : State → Prop} {σ : Sg} {x3 : Int32} (ok : Zok X cX12_number RX12 rm_M_number 198 4)  {out : (Int32 × Sg)} (hf : M_number_j160 σ x3 = some out) (hk : ZrI cX12_number X Q out.1 out.2) : ZAt X Q 0 0 160 σ [(0, .ref (X.ad 171)), (3, .int x3)] [] := by
  unfold M_number_j160 at hf
  refine z_aload_n ok dX12_number_160 0 rfl ?_
  refine z_call hf (fun r161 h161 hf => ?_)
  refine z_cV (As := []) (rest := []) (w := 171) ok kc_171 zc_12 (c_M_goesWell h161) rfl ⟨ml_12_174, w_M_goesWell⟩ hy_M_goesWell ⟨rfl, rfl⟩ ⟨Nat.le_of_ble_eq_true rfl, Nat.le_of_ble_eq_true rfl⟩ ⟨Nat.zero_le _, Nat.zero_le _⟩ rfl (Nat.le_of_ble_eq_true rfl) dX12_number_161 ?_
  refine z_if_eq (tgt := 171) ok dX12_number_164 (by decide) hf (fun _ hf => ?_) (fun _ hf => ?_)
  · refine z_iconst (v := 0) ok dX12_number_171 (by decide) ?_
    obtain rfl := Option.some.inj hf
    exact hk _ _ dX12_number_172
  · refine z_iload_n ok dX12_number_167 1 rfl ?_
    refine z_goto (tgt := 172) ok dX12_number_168 (by decide) ?_
    obtain rfl := Option.some.inj hf
    exact hk _ _ dX12_number_172
def M_number_j142 (σ : Sg) (x1 : Int32) (x2 : Int32) (x3 : Int32) : Option (Int32 × Sg) :=
  (M_isIn x3 x1 x2).bind fun r145 =>
  if (zb r145) = 0 then (
    zgt σ 171 34 fun v154 =>
    (M_faults σ 2 v154).bind fun r157 =>
    M_number_j160 r157 x3
  ) else (
    M_number_j160 σ x3
  )
set_option maxRecDepth 20000 in
theorem t_M_number_j142 {X : Zx} {Q : State → Prop} {σ : Sg} {x1 : Int32} {x2 : Int32} {x3 : Int32} (ok : Zok X cX12_number RX12 rm_M_number 198 4)  {out : (Int32 × Sg)} (hf : M_number_j142 σ x1 x2 x3 = some out) (hk : ZrI cX12_number X Q out.1 out.2) : ZAt X Q 0 0 142 σ [(0, .ref (X.ad 171)), (1, .int x1), (2, .int x2), (3, .int x3)] [] := by
  unfold M_number_j142 at hf
  refine z_iload_n ok dX12_number_142 3 rfl ?_
  refine z_iload_n ok dX12_number_143 1 rfl ?_
  refine z_iload_n ok dX12_number_144 2 rfl ?_
  refine z_call hf (fun r145 h145 hf => ?_)
  refine z_cS (As := [.int x3, .int x1, .int x2]) (rest := []) ok (c_M_isIn h145) rfl ⟨ml_12_198, w_M_isIn⟩ hy_M_isIn ⟨rfl, rfl⟩ ⟨Nat.le_of_ble_eq_true rfl, Nat.le_of_ble_eq_true rfl⟩ ⟨Nat.zero_le _, Nat.zero_le _⟩ rfl (Nat.le_of_ble_eq_true rfl) dX12_number_145 ?_
  refine z_if_ne (tgt := 160) ok dX12_number_148 (by decide) hf (fun _ hf => ?_) (fun _ hf => ?_)
  · refine z_aload_n ok dX12_number_151 0 rfl ?_
    refine z_iconst (v := 2) ok dX12_number_152 (by decide) ?_
    refine z_aload_n ok dX12_number_153 0 rfl ?_
    refine z_geti ok kc_171 zc_12 hin_12 34 (by decide) fl_12_114 rfl dX12_number_154 hf (fun v154 hf => ?_)
    refine z_call hf (fun r157 h157 hf => ?_)
    refine z_cVv (As := [.int 2, .int v154]) (rest := []) (w := 171) ok kc_171 zc_12 (c_M_faults h157) rfl ⟨ml_12_188, w_M_faults⟩ hy_M_faults ⟨rfl, rfl⟩ ⟨Nat.le_of_ble_eq_true rfl, Nat.le_of_ble_eq_true rfl⟩ ⟨Nat.zero_le _, Nat.zero_le _⟩ rfl (Nat.le_of_ble_eq_true rfl) dX12_number_157 ?_
    exact z_sub [0, 3] rfl (t_M_number_j160 ok hf hk)
  · exact z_sub [0, 3] rfl (t_M_number_j160 ok hf hk)
def M_number (σ : Sg) (x1 : Int32) (x2 : Int32) : Option (Int32 × Sg) :=
  (M_goesWell σ).bind fun r1 =>
  if (zb r1) = 0 then (
    some (0, σ)
  ) else (
    (M_here σ).bind fun r10 =>
    zgt r10.2 171 33 fun v16 =>
    zpt r10.2 171 34 v16 fun σ19 =>
    zgt σ19 171 33 fun v24 =>
    (M_isDigit σ19 v24).bind fun r27 =>
    if (zb r27) = 0 then (
      zgt σ19 171 33 fun v62 =>
      (M_faults σ19 1 v62).bind fun r65 =>
      some (0, r65)
    ) else (
      zgt σ19 171 33 fun v35 =>
      (M_isSmall σ19 (v35 - 1)).bind fun r40 =>
      if (zb r40) = 0 then (
        zgt σ19 171 33 fun v48 =>
        (M_isDigit σ19 (v48 - 1)).bind fun r53 =>
        if (zb r53) = 0 then (
          zlt 0 fun v71 =>
          (zit (fun (s : (Sg × Int32)) => M_number_l72 s.1 x1 x2 s.2) zFU (σ19, v71)).bind fun r =>
          M_number_j142 r.1 x1 x2 r.2
        ) else (
          zgt σ19 171 33 fun v62 =>
          (M_faults σ19 1 v62).bind fun r65 =>
          some (0, r65)
        )
      ) else (
        zgt σ19 171 33 fun v62 =>
        (M_faults σ19 1 v62).bind fun r65 =>
        some (0, r65)
      )
    )
  )
set_option maxRecDepth 20000 in
theorem t_M_number {X : Zx} {Q : State → Prop} {σ : Sg} {x1 : Int32} {x2 : Int32} (ok : Zok X cX12_number RX12 rm_M_number 198 4)  {out : (Int32 × Sg)} (hf : M_number σ x1 x2 = some out) (hk : ZrI cX12_number X Q out.1 out.2) : ZAt X Q 0 0 0 σ [(0, .ref (X.ad 171)), (1, .int x1), (2, .int x2)] [] := by
  unfold M_number at hf
  refine z_aload_n ok dX12_number_0 0 rfl ?_
  refine z_call hf (fun r1 h1 hf => ?_)
  refine z_cV (As := []) (rest := []) (w := 171) ok kc_171 zc_12 (c_M_goesWell h1) rfl ⟨ml_12_174, w_M_goesWell⟩ hy_M_goesWell ⟨rfl, rfl⟩ ⟨Nat.le_of_ble_eq_true rfl, Nat.le_of_ble_eq_true rfl⟩ ⟨Nat.zero_le _, Nat.zero_le _⟩ rfl (Nat.le_of_ble_eq_true rfl) dX12_number_1 ?_
  refine z_if_ne (tgt := 9) ok dX12_number_4 (by decide) hf (fun _ hf => ?_) (fun _ hf => ?_)
  · refine z_iconst (v := 0) ok dX12_number_7 (by decide) ?_
    obtain rfl := Option.some.inj hf
    exact hk _ _ dX12_number_8
  · refine z_aload_n ok dX12_number_9 0 rfl ?_
    refine z_call hf (fun r10 h10 hf => ?_)
    refine z_cV (As := []) (rest := []) (w := 171) ok kc_171 zc_12 (c_M_here h10) rfl ⟨ml_12_178, w_M_here⟩ hy_M_here ⟨rfl, rfl⟩ ⟨Nat.le_of_ble_eq_true rfl, Nat.le_of_ble_eq_true rfl⟩ ⟨Nat.zero_le _, Nat.zero_le _⟩ rfl (Nat.le_of_ble_eq_true rfl) dX12_number_10 ?_
    refine z_pop ok dX12_number_13 rfl ?_
    refine z_aload_n ok dX12_number_14 0 rfl ?_
    refine z_aload_n ok dX12_number_15 0 rfl ?_
    refine z_geti ok kc_171 zc_12 hin_12 33 (by decide) fl_12_111 rfl dX12_number_16 hf (fun v16 hf => ?_)
    refine z_puti ok kc_171 zc_12 hin_12 tyX12 tyX12_ok nmX12 34 (by decide) fl_12_114 rfl rfl (tyX12_ok 34 (by decide)) dX12_number_19 hf (fun σ19 hf => ?_)
    refine z_aload_n ok dX12_number_22 0 rfl ?_
    refine z_aload_n ok dX12_number_23 0 rfl ?_
    refine z_geti ok kc_171 zc_12 hin_12 33 (by decide) fl_12_111 rfl dX12_number_24 hf (fun v24 hf => ?_)
    refine z_call hf (fun r27 h27 hf => ?_)
    refine z_cV (As := [.int v24]) (rest := []) (w := 171) ok kc_171 zc_12 (c_M_isDigit h27) rfl ⟨ml_12_185, w_M_isDigit⟩ hy_M_isDigit ⟨rfl, rfl⟩ ⟨Nat.le_of_ble_eq_true rfl, Nat.le_of_ble_eq_true rfl⟩ ⟨Nat.zero_le _, Nat.zero_le _⟩ rfl (Nat.le_of_ble_eq_true rfl) dX12_number_27 ?_
    refine z_if_eq (tgt := 59) ok dX12_number_30 (by decide) hf (fun _ hf => ?_) (fun _ hf => ?_)
    · refine z_aload_n ok dX12_number_59 0 rfl ?_
      refine z_iconst (v := 1) ok dX12_number_60 (by decide) ?_
      refine z_aload_n ok dX12_number_61 0 rfl ?_
      refine z_geti ok kc_171 zc_12 hin_12 33 (by decide) fl_12_111 rfl dX12_number_62 hf (fun v62 hf => ?_)
      refine z_call hf (fun r65 h65 hf => ?_)
      refine z_cVv (As := [.int 1, .int v62]) (rest := []) (w := 171) ok kc_171 zc_12 (c_M_faults h65) rfl ⟨ml_12_188, w_M_faults⟩ hy_M_faults ⟨rfl, rfl⟩ ⟨Nat.le_of_ble_eq_true rfl, Nat.le_of_ble_eq_true rfl⟩ ⟨Nat.zero_le _, Nat.zero_le _⟩ rfl (Nat.le_of_ble_eq_true rfl) dX12_number_65 ?_
      refine z_iconst (v := 0) ok dX12_number_68 (by decide) ?_
      obtain rfl := Option.some.inj hf
      exact hk _ _ dX12_number_69
    · refine z_aload_n ok dX12_number_33 0 rfl ?_
      refine z_aload_n ok dX12_number_34 0 rfl ?_
      refine z_geti ok kc_171 zc_12 hin_12 33 (by decide) fl_12_111 rfl dX12_number_35 hf (fun v35 hf => ?_)
      refine z_iconst (v := 1) ok dX12_number_38 (by decide) ?_
      refine z_isub ok dX12_number_39 ?_
      refine z_call hf (fun r40 h40 hf => ?_)
      refine z_cV (As := [.int (v35 - 1)]) (rest := []) (w := 171) ok kc_171 zc_12 (c_M_isSmall h40) rfl ⟨ml_12_182, w_M_isSmall⟩ hy_M_isSmall ⟨rfl, rfl⟩ ⟨Nat.le_of_ble_eq_true rfl, Nat.le_of_ble_eq_true rfl⟩ ⟨Nat.zero_le _, Nat.zero_le _⟩ rfl (Nat.le_of_ble_eq_true rfl) dX12_number_40 ?_
      refine z_if_ne (tgt := 59) ok dX12_number_43 (by decide) hf (fun _ hf => ?_) (fun _ hf => ?_)
      · refine z_aload_n ok dX12_number_46 0 rfl ?_
        refine z_aload_n ok dX12_number_47 0 rfl ?_
        refine z_geti ok kc_171 zc_12 hin_12 33 (by decide) fl_12_111 rfl dX12_number_48 hf (fun v48 hf => ?_)
        refine z_iconst (v := 1) ok dX12_number_51 (by decide) ?_
        refine z_isub ok dX12_number_52 ?_
        refine z_call hf (fun r53 h53 hf => ?_)
        refine z_cV (As := [.int (v48 - 1)]) (rest := []) (w := 171) ok kc_171 zc_12 (c_M_isDigit h53) rfl ⟨ml_12_185, w_M_isDigit⟩ hy_M_isDigit ⟨rfl, rfl⟩ ⟨Nat.le_of_ble_eq_true rfl, Nat.le_of_ble_eq_true rfl⟩ ⟨Nat.zero_le _, Nat.zero_le _⟩ rfl (Nat.le_of_ble_eq_true rfl) dX12_number_53 ?_
        refine z_if_eq (tgt := 70) ok dX12_number_56 (by decide) hf (fun _ hf => ?_) (fun _ hf => ?_)
        · refine z_iconst (v := 0) ok dX12_number_70 (by decide) ?_
          refine z_nm hf (fun v71 hf => ?_)
          refine z_istore_n (lv' := [(3, .int v71), (0, .ref (X.ad 171)), (1, .int x1), (2, .int x2)]) ok dX12_number_71 (by decide) rfl ?_
          refine z_call hf (fun r hr hf => ?_)
          refine z_sub [1, 2, 3, 0] rfl (z_iter (fun (s : (Sg × Int32)) => s.1) (fun (s : (Sg × Int32)) => [(0, .ref (X.ad 171)), (1, .int x1), (2, .int x2), (3, .int s.2)]) (fun s o h1 h2 => t_M_number_l72 ok h1 h2) _ _ _ hr ?_)
          show ZAt X Q 0 0 142 r.1 [(0, .ref (X.ad 171)), (1, .int x1), (2, .int x2), (3, .int r.2)] []
          exact z_sub [0, 1, 2, 3] rfl (t_M_number_j142 ok hf hk)
        · refine z_aload_n ok dX12_number_59 0 rfl ?_
          refine z_iconst (v := 1) ok dX12_number_60 (by decide) ?_
          refine z_aload_n ok dX12_number_61 0 rfl ?_
          refine z_geti ok kc_171 zc_12 hin_12 33 (by decide) fl_12_111 rfl dX12_number_62 hf (fun v62 hf => ?_)
          refine z_call hf (fun r65 h65 hf => ?_)
          refine z_cVv (As := [.int 1, .int v62]) (rest := []) (w := 171) ok kc_171 zc_12 (c_M_faults h65) rfl ⟨ml_12_188, w_M_faults⟩ hy_M_faults ⟨rfl, rfl⟩ ⟨Nat.le_of_ble_eq_true rfl, Nat.le_of_ble_eq_true rfl⟩ ⟨Nat.zero_le _, Nat.zero_le _⟩ rfl (Nat.le_of_ble_eq_true rfl) dX12_number_65 ?_
          refine z_iconst (v := 0) ok dX12_number_68 (by decide) ?_
          obtain rfl := Option.some.inj hf
          exact hk _ _ dX12_number_69
      · refine z_aload_n ok dX12_number_59 0 rfl ?_
        refine z_iconst (v := 1) ok dX12_number_60 (by decide) ?_
        refine z_aload_n ok dX12_number_61 0 rfl ?_
        refine z_geti ok kc_171 zc_12 hin_12 33 (by decide) fl_12_111 rfl dX12_number_62 hf (fun v62 hf => ?_)
        refine z_call hf (fun r65 h65 hf => ?_)
        refine z_cVv (As := [.int 1, .int v62]) (rest := []) (w := 171) ok kc_171 zc_12 (c_M_faults h65) rfl ⟨ml_12_188, w_M_faults⟩ hy_M_faults ⟨rfl, rfl⟩ ⟨Nat.le_of_ble_eq_true rfl, Nat.le_of_ble_eq_true rfl⟩ ⟨Nat.zero_le _, Nat.zero_le _⟩ rfl (Nat.le_of_ble_eq_true rfl) dX12_number_65 ?_
        refine z_iconst (v := 0) ok dX12_number_68 (by decide) ?_
        obtain rfl := Option.some.inj hf
        exact hk _ _ dX12_number_69
theorem c_M_number {σ : Sg} {x1 : Int32} {x2 : Int32} {r : (Int32 × Sg)} (h : M_number σ x1 x2 = some r) : ZcI yX12_number cX12_number 4 .int rm_M_number 198 (fun ad => [.ref (ad 171), .int x1, .int x2]) σ r.1 r.2 :=
  zmetI pn_12 rfl (fun _ => rfl) (fun _ => Nat.le_of_ble_eq_true rfl) rfl (fun X Q ok hk => t_M_number ok h hk)
theorem dX12_after_0 : decode cX12_after 0 = .ok (.aload_n 0, 1) := by decide +kernel
theorem dX12_after_1 : decode cX12_after 1 = .ok (.iload_n 1, 1) := by decide +kernel
theorem dX12_after_2 : decode cX12_after 2 = .ok (.invokevirtual 212, 3) := by decide +kernel
theorem dX12_after_5 : decode cX12_after 5 = .ok (.aload_n 0, 1) := by decide +kernel
theorem dX12_after_6 : decode cX12_after 6 = .ok (.iload_n 2, 1) := by decide +kernel
theorem dX12_after_7 : decode cX12_after 7 = .ok (.iload_n 3, 1) := by decide +kernel
theorem dX12_after_8 : decode cX12_after 8 = .ok (.invokevirtual 215, 3) := by decide +kernel
theorem dX12_after_11 : decode cX12_after 11 = .ok (.ireturn, 1) := by decide +kernel
abbrev rm_M_after : Room := { frames := 4, cells := 0, slots := 0, locals := 83 }
def M_after (σ : Sg) (x1 : Int32) (x2 : Int32) (x3 : Int32) : Option (Int32 × Sg) :=
  (M_must σ x1).bind fun r2 =>
  (M_number r2 x2 x3).bind fun r8 =>
  some (r8.1, r8.2)
set_option maxRecDepth 20000 in
theorem t_M_after {X : Zx} {Q : State → Prop} {σ : Sg} {x1 : Int32} {x2 : Int32} {x3 : Int32} (ok : Zok X cX12_after RX12 rm_M_after 198 4)  {out : (Int32 × Sg)} (hf : M_after σ x1 x2 x3 = some out) (hk : ZrI cX12_after X Q out.1 out.2) : ZAt X Q 0 0 0 σ [(0, .ref (X.ad 171)), (1, .int x1), (2, .int x2), (3, .int x3)] [] := by
  unfold M_after at hf
  refine z_aload_n ok dX12_after_0 0 rfl ?_
  refine z_iload_n ok dX12_after_1 1 rfl ?_
  refine z_call hf (fun r2 h2 hf => ?_)
  refine z_cVv (As := [.int x1]) (rest := []) (w := 171) ok kc_171 zc_12 (c_M_must h2) rfl ⟨ml_12_212, w_M_must⟩ hy_M_must ⟨rfl, rfl⟩ ⟨Nat.le_of_ble_eq_true rfl, Nat.le_of_ble_eq_true rfl⟩ ⟨Nat.zero_le _, Nat.zero_le _⟩ rfl (Nat.le_of_ble_eq_true rfl) dX12_after_2 ?_
  refine z_aload_n ok dX12_after_5 0 rfl ?_
  refine z_iload_n ok dX12_after_6 2 rfl ?_
  refine z_iload_n ok dX12_after_7 3 rfl ?_
  refine z_call hf (fun r8 h8 hf => ?_)
  refine z_cV (As := [.int x2, .int x3]) (rest := []) (w := 171) ok kc_171 zc_12 (c_M_number h8) rfl ⟨ml_12_215, w_M_number⟩ hy_M_number ⟨rfl, rfl⟩ ⟨Nat.le_of_ble_eq_true rfl, Nat.le_of_ble_eq_true rfl⟩ ⟨Nat.zero_le _, Nat.zero_le _⟩ rfl (Nat.le_of_ble_eq_true rfl) dX12_after_8 ?_
  obtain rfl := Option.some.inj hf
  exact hk _ _ dX12_after_11
theorem c_M_after {σ : Sg} {x1 : Int32} {x2 : Int32} {x3 : Int32} {r : (Int32 × Sg)} (h : M_after σ x1 x2 x3 = some r) : ZcI yX12_after cX12_after 4 .int rm_M_after 198 (fun ad => [.ref (ad 171), .int x1, .int x2, .int x3]) σ r.1 r.2 :=
  zmetI pn_12 rfl (fun _ => rfl) (fun _ => Nat.le_of_ble_eq_true rfl) rfl (fun X Q ok hk => t_M_after ok h hk)
theorem dX12_endsWell_0 : decode cX12_endsWell 0 = .ok (.aload_n 0, 1) := by decide +kernel
theorem dX12_endsWell_1 : decode cX12_endsWell 1 = .ok (.invokevirtual 174, 3) := by decide +kernel
theorem dX12_endsWell_4 : decode cX12_endsWell 4 = .ok (.ifCond .ne 4, 3) := by decide +kernel
theorem dX12_endsWell_7 : decode cX12_endsWell 7 = .ok (.return_, 1) := by decide +kernel
theorem dX12_endsWell_8 : decode cX12_endsWell 8 = .ok (.aload_n 0, 1) := by decide +kernel
theorem dX12_endsWell_9 : decode cX12_endsWell 9 = .ok (.invokevirtual 178, 3) := by decide +kernel
theorem dX12_endsWell_12 : decode cX12_endsWell 12 = .ok (.bipush 59, 2) := by decide +kernel
theorem dX12_endsWell_14 : decode cX12_endsWell 14 = .ok (.if_icmp .ne 16, 3) := by decide +kernel
theorem dX12_endsWell_17 : decode cX12_endsWell 17 = .ok (.aload_n 0, 1) := by decide +kernel
theorem dX12_endsWell_18 : decode cX12_endsWell 18 = .ok (.dup, 1) := by decide +kernel
theorem dX12_endsWell_19 : decode cX12_endsWell 19 = .ok (.getfield 111, 3) := by decide +kernel
theorem dX12_endsWell_22 : decode cX12_endsWell 22 = .ok (.iconst 1, 1) := by decide +kernel
theorem dX12_endsWell_23 : decode cX12_endsWell 23 = .ok (.iadd, 1) := by decide +kernel
theorem dX12_endsWell_24 : decode cX12_endsWell 24 = .ok (.putfield 111, 3) := by decide +kernel
theorem dX12_endsWell_27 : decode cX12_endsWell 27 = .ok (.goto 12, 3) := by decide +kernel
theorem dX12_endsWell_30 : decode cX12_endsWell 30 = .ok (.aload_n 0, 1) := by decide +kernel
theorem dX12_endsWell_31 : decode cX12_endsWell 31 = .ok (.iconst 1, 1) := by decide +kernel
theorem dX12_endsWell_32 : decode cX12_endsWell 32 = .ok (.aload_n 0, 1) := by decide +kernel
theorem dX12_endsWell_33 : decode cX12_endsWell 33 = .ok (.getfield 111, 3) := by decide +kernel
theorem dX12_endsWell_36 : decode cX12_endsWell 36 = .ok (.invokevirtual 188, 3) := by decide +kernel
theorem dX12_endsWell_39 : decode cX12_endsWell 39 = .ok (.return_, 1) := by decide +kernel
abbrev rm_M_endsWell : Room := { frames := 2, cells := 0, slots := 0, locals := 41 }
def M_endsWell (σ : Sg)  : Option Sg :=
  (M_goesWell σ).bind fun r1 =>
  if (zb r1) = 0 then (
    some σ
  ) else (
    (M_here σ).bind fun r9 =>
    if r9.1 = 59 then (
      zgt r9.2 171 33 fun v19 =>
      zpt r9.2 171 33 (v19 + 1) fun σ24 =>
      some σ24
    ) else (
      zgt r9.2 171 33 fun v33 =>
      (M_faults r9.2 1 v33).bind fun r36 =>
      some r36
    )
  )
set_option maxRecDepth 20000 in
theorem t_M_endsWell {X : Zx} {Q : State → Prop} {σ : Sg}  (ok : Zok X cX12_endsWell RX12 rm_M_endsWell 198 1)  {out : Sg} (hf : M_endsWell σ = some out) (hk : ZrV cX12_endsWell X Q out) : ZAt X Q 0 0 0 σ [(0, .ref (X.ad 171))] [] := by
  unfold M_endsWell at hf
  refine z_aload_n ok dX12_endsWell_0 0 rfl ?_
  refine z_call hf (fun r1 h1 hf => ?_)
  refine z_cV (As := []) (rest := []) (w := 171) ok kc_171 zc_12 (c_M_goesWell h1) rfl ⟨ml_12_174, w_M_goesWell⟩ hy_M_goesWell ⟨rfl, rfl⟩ ⟨Nat.le_of_ble_eq_true rfl, Nat.le_of_ble_eq_true rfl⟩ ⟨Nat.zero_le _, Nat.zero_le _⟩ rfl (Nat.le_of_ble_eq_true rfl) dX12_endsWell_1 ?_
  refine z_if_ne (tgt := 8) ok dX12_endsWell_4 (by decide) hf (fun _ hf => ?_) (fun _ hf => ?_)
  · obtain rfl := Option.some.inj hf
    exact hk _ _ dX12_endsWell_7
  · refine z_aload_n ok dX12_endsWell_8 0 rfl ?_
    refine z_call hf (fun r9 h9 hf => ?_)
    refine z_cV (As := []) (rest := []) (w := 171) ok kc_171 zc_12 (c_M_here h9) rfl ⟨ml_12_178, w_M_here⟩ hy_M_here ⟨rfl, rfl⟩ ⟨Nat.le_of_ble_eq_true rfl, Nat.le_of_ble_eq_true rfl⟩ ⟨Nat.zero_le _, Nat.zero_le _⟩ rfl (Nat.le_of_ble_eq_true rfl) dX12_endsWell_9 ?_
    refine z_bipush (v := 59) ok dX12_endsWell_12 (by decide) ?_
    refine z_icmp_ne (tgt := 30) ok dX12_endsWell_14 (by decide) hf (fun _ hf => ?_) (fun _ hf => ?_)
    · refine z_aload_n ok dX12_endsWell_17 0 rfl ?_
      refine z_dup ok dX12_endsWell_18 rfl ?_
      refine z_geti ok kc_171 zc_12 hin_12 33 (by decide) fl_12_111 rfl dX12_endsWell_19 hf (fun v19 hf => ?_)
      refine z_iconst (v := 1) ok dX12_endsWell_22 (by decide) ?_
      refine z_iadd ok dX12_endsWell_23 ?_
      refine z_puti ok kc_171 zc_12 hin_12 tyX12 tyX12_ok nmX12 33 (by decide) fl_12_111 rfl rfl (tyX12_ok 33 (by decide)) dX12_endsWell_24 hf (fun σ24 hf => ?_)
      refine z_goto (tgt := 39) ok dX12_endsWell_27 (by decide) ?_
      obtain rfl := Option.some.inj hf
      exact hk _ _ dX12_endsWell_39
    · refine z_aload_n ok dX12_endsWell_30 0 rfl ?_
      refine z_iconst (v := 1) ok dX12_endsWell_31 (by decide) ?_
      refine z_aload_n ok dX12_endsWell_32 0 rfl ?_
      refine z_geti ok kc_171 zc_12 hin_12 33 (by decide) fl_12_111 rfl dX12_endsWell_33 hf (fun v33 hf => ?_)
      refine z_call hf (fun r36 h36 hf => ?_)
      refine z_cVv (As := [.int 1, .int v33]) (rest := []) (w := 171) ok kc_171 zc_12 (c_M_faults h36) rfl ⟨ml_12_188, w_M_faults⟩ hy_M_faults ⟨rfl, rfl⟩ ⟨Nat.le_of_ble_eq_true rfl, Nat.le_of_ble_eq_true rfl⟩ ⟨Nat.zero_le _, Nat.zero_le _⟩ rfl (Nat.le_of_ble_eq_true rfl) dX12_endsWell_36 ?_
      obtain rfl := Option.some.inj hf
      exact hk _ _ dX12_endsWell_39
theorem c_M_endsWell {σ : Sg} {r : Sg} (h : M_endsWell σ = some r) : ZcV yX12_endsWell cX12_endsWell 1 rm_M_endsWell 198 (fun ad => [.ref (ad 171)]) σ r :=
  zmetV pn_12 rfl (fun _ => rfl) (fun _ => Nat.le_of_ble_eq_true rfl) (fun X Q ok hk => t_M_endsWell ok h hk)
theorem dX12_name_0 : decode cX12_name 0 = .ok (.aload_n 0, 1) := by decide +kernel
theorem dX12_name_1 : decode cX12_name 1 = .ok (.invokevirtual 192, 3) := by decide +kernel
theorem dX12_name_4 : decode cX12_name 4 = .ok (.aload_n 0, 1) := by decide +kernel
theorem dX12_name_5 : decode cX12_name 5 = .ok (.invokevirtual 174, 3) := by decide +kernel
theorem dX12_name_8 : decode cX12_name 8 = .ok (.ifCond .ne 4, 3) := by decide +kernel
theorem dX12_name_11 : decode cX12_name 11 = .ok (.return_, 1) := by decide +kernel
theorem dX12_name_12 : decode cX12_name 12 = .ok (.aload_n 0, 1) := by decide +kernel
theorem dX12_name_13 : decode cX12_name 13 = .ok (.invokevirtual 195, 3) := by decide +kernel
theorem dX12_name_16 : decode cX12_name 16 = .ok (.iconst (-1), 1) := by decide +kernel
theorem dX12_name_17 : decode cX12_name 17 = .ok (.if_icmp .eq 15, 3) := by decide +kernel
theorem dX12_name_20 : decode cX12_name 20 = .ok (.aload_n 0, 1) := by decide +kernel
theorem dX12_name_21 : decode cX12_name 21 = .ok (.iconst 1, 1) := by decide +kernel
theorem dX12_name_22 : decode cX12_name 22 = .ok (.aload_n 0, 1) := by decide +kernel
theorem dX12_name_23 : decode cX12_name 23 = .ok (.getfield 114, 3) := by decide +kernel
theorem dX12_name_26 : decode cX12_name 26 = .ok (.invokevirtual 188, 3) := by decide +kernel
theorem dX12_name_29 : decode cX12_name 29 = .ok (.goto 29, 3) := by decide +kernel
theorem dX12_name_32 : decode cX12_name 32 = .ok (.aload_n 0, 1) := by decide +kernel
theorem dX12_name_33 : decode cX12_name 33 = .ok (.getfield 111, 3) := by decide +kernel
theorem dX12_name_36 : decode cX12_name 36 = .ok (.aload_n 0, 1) := by decide +kernel
theorem dX12_name_37 : decode cX12_name 37 = .ok (.getfield 114, 3) := by decide +kernel
theorem dX12_name_40 : decode cX12_name 40 = .ok (.isub, 1) := by decide +kernel
theorem dX12_name_41 : decode cX12_name 41 = .ok (.bipush 6, 2) := by decide +kernel
theorem dX12_name_43 : decode cX12_name 43 = .ok (.if_icmp .le 15, 3) := by decide +kernel
theorem dX12_name_46 : decode cX12_name 46 = .ok (.aload_n 0, 1) := by decide +kernel
theorem dX12_name_47 : decode cX12_name 47 = .ok (.iconst 1, 1) := by decide +kernel
theorem dX12_name_48 : decode cX12_name 48 = .ok (.aload_n 0, 1) := by decide +kernel
theorem dX12_name_49 : decode cX12_name 49 = .ok (.getfield 114, 3) := by decide +kernel
theorem dX12_name_52 : decode cX12_name 52 = .ok (.bipush 6, 2) := by decide +kernel
theorem dX12_name_54 : decode cX12_name 54 = .ok (.iadd, 1) := by decide +kernel
theorem dX12_name_55 : decode cX12_name 55 = .ok (.invokevirtual 188, 3) := by decide +kernel
theorem dX12_name_58 : decode cX12_name 58 = .ok (.return_, 1) := by decide +kernel
abbrev rm_M_name : Room := { frames := 3, cells := 0, slots := 0, locals := 62 }
def M_name (σ : Sg)  : Option Sg :=
  (M_word σ).bind fun r1 =>
  (M_goesWell r1).bind fun r5 =>
  if (zb r5) = 0 then (
    some r1
  ) else (
    (M_own r1).bind fun r13 =>
    if r13 = (-1) then (
      zgt r1 171 33 fun v33 =>
      zgt r1 171 34 fun v37 =>
      if (v33 - v37) ≤ 6 then (
        some r1
      ) else (
        zgt r1 171 34 fun v49 =>
        (M_faults r1 1 (v49 + 6)).bind fun r55 =>
        some r55
      )
    ) else (
      zgt r1 171 34 fun v23 =>
      (M_faults r1 1 v23).bind fun r26 =>
      some r26
    )
  )
set_option maxRecDepth 20000 in
theorem t_M_name {X : Zx} {Q : State → Prop} {σ : Sg}  (ok : Zok X cX12_name RX12 rm_M_name 198 1)  {out : Sg} (hf : M_name σ = some out) (hk : ZrV cX12_name X Q out) : ZAt X Q 0 0 0 σ [(0, .ref (X.ad 171))] [] := by
  unfold M_name at hf
  refine z_aload_n ok dX12_name_0 0 rfl ?_
  refine z_call hf (fun r1 h1 hf => ?_)
  refine z_cVv (As := []) (rest := []) (w := 171) ok kc_171 zc_12 (c_M_word h1) rfl ⟨ml_12_192, w_M_word⟩ hy_M_word ⟨rfl, rfl⟩ ⟨Nat.le_of_ble_eq_true rfl, Nat.le_of_ble_eq_true rfl⟩ ⟨Nat.zero_le _, Nat.zero_le _⟩ rfl (Nat.le_of_ble_eq_true rfl) dX12_name_1 ?_
  refine z_aload_n ok dX12_name_4 0 rfl ?_
  refine z_call hf (fun r5 h5 hf => ?_)
  refine z_cV (As := []) (rest := []) (w := 171) ok kc_171 zc_12 (c_M_goesWell h5) rfl ⟨ml_12_174, w_M_goesWell⟩ hy_M_goesWell ⟨rfl, rfl⟩ ⟨Nat.le_of_ble_eq_true rfl, Nat.le_of_ble_eq_true rfl⟩ ⟨Nat.zero_le _, Nat.zero_le _⟩ rfl (Nat.le_of_ble_eq_true rfl) dX12_name_5 ?_
  refine z_if_ne (tgt := 12) ok dX12_name_8 (by decide) hf (fun _ hf => ?_) (fun _ hf => ?_)
  · obtain rfl := Option.some.inj hf
    exact hk _ _ dX12_name_11
  · refine z_aload_n ok dX12_name_12 0 rfl ?_
    refine z_call hf (fun r13 h13 hf => ?_)
    refine z_cV (As := []) (rest := []) (w := 171) ok kc_171 zc_12 (c_M_own h13) rfl ⟨ml_12_195, w_M_own⟩ hy_M_own ⟨rfl, rfl⟩ ⟨Nat.le_of_ble_eq_true rfl, Nat.le_of_ble_eq_true rfl⟩ ⟨Nat.zero_le _, Nat.zero_le _⟩ rfl (Nat.le_of_ble_eq_true rfl) dX12_name_13 ?_
    refine z_iconst (v := (-1)) ok dX12_name_16 (by decide) ?_
    refine z_icmp_eq (tgt := 32) ok dX12_name_17 (by decide) hf (fun _ hf => ?_) (fun _ hf => ?_)
    · refine z_aload_n ok dX12_name_32 0 rfl ?_
      refine z_geti ok kc_171 zc_12 hin_12 33 (by decide) fl_12_111 rfl dX12_name_33 hf (fun v33 hf => ?_)
      refine z_aload_n ok dX12_name_36 0 rfl ?_
      refine z_geti ok kc_171 zc_12 hin_12 34 (by decide) fl_12_114 rfl dX12_name_37 hf (fun v37 hf => ?_)
      refine z_isub ok dX12_name_40 ?_
      refine z_bipush (v := 6) ok dX12_name_41 (by decide) ?_
      refine z_icmp_le (tgt := 58) ok dX12_name_43 (by decide) hf (fun _ hf => ?_) (fun _ hf => ?_)
      · obtain rfl := Option.some.inj hf
        exact hk _ _ dX12_name_58
      · refine z_aload_n ok dX12_name_46 0 rfl ?_
        refine z_iconst (v := 1) ok dX12_name_47 (by decide) ?_
        refine z_aload_n ok dX12_name_48 0 rfl ?_
        refine z_geti ok kc_171 zc_12 hin_12 34 (by decide) fl_12_114 rfl dX12_name_49 hf (fun v49 hf => ?_)
        refine z_bipush (v := 6) ok dX12_name_52 (by decide) ?_
        refine z_iadd ok dX12_name_54 ?_
        refine z_call hf (fun r55 h55 hf => ?_)
        refine z_cVv (As := [.int 1, .int (v49 + 6)]) (rest := []) (w := 171) ok kc_171 zc_12 (c_M_faults h55) rfl ⟨ml_12_188, w_M_faults⟩ hy_M_faults ⟨rfl, rfl⟩ ⟨Nat.le_of_ble_eq_true rfl, Nat.le_of_ble_eq_true rfl⟩ ⟨Nat.zero_le _, Nat.zero_le _⟩ rfl (Nat.le_of_ble_eq_true rfl) dX12_name_55 ?_
        obtain rfl := Option.some.inj hf
        exact hk _ _ dX12_name_58
    · refine z_aload_n ok dX12_name_20 0 rfl ?_
      refine z_iconst (v := 1) ok dX12_name_21 (by decide) ?_
      refine z_aload_n ok dX12_name_22 0 rfl ?_
      refine z_geti ok kc_171 zc_12 hin_12 34 (by decide) fl_12_114 rfl dX12_name_23 hf (fun v23 hf => ?_)
      refine z_call hf (fun r26 h26 hf => ?_)
      refine z_cVv (As := [.int 1, .int v23]) (rest := []) (w := 171) ok kc_171 zc_12 (c_M_faults h26) rfl ⟨ml_12_188, w_M_faults⟩ hy_M_faults ⟨rfl, rfl⟩ ⟨Nat.le_of_ble_eq_true rfl, Nat.le_of_ble_eq_true rfl⟩ ⟨Nat.zero_le _, Nat.zero_le _⟩ rfl (Nat.le_of_ble_eq_true rfl) dX12_name_26 ?_
      refine z_goto (tgt := 58) ok dX12_name_29 (by decide) ?_
      obtain rfl := Option.some.inj hf
      exact hk _ _ dX12_name_58
theorem c_M_name {σ : Sg} {r : Sg} (h : M_name σ = some r) : ZcV yX12_name cX12_name 1 rm_M_name 198 (fun ad => [.ref (ad 171)]) σ r :=
  zmetV pn_12 rfl (fun _ => rfl) (fun _ => Nat.le_of_ble_eq_true rfl) (fun X Q ok hk => t_M_name ok h hk)
theorem dX12_signAt_0 : decode cX12_signAt 0 = .ok (.aload_n 0, 1) := by decide +kernel
theorem dX12_signAt_1 : decode cX12_signAt 1 = .ok (.getfield 114, 3) := by decide +kernel
theorem dX12_signAt_4 : decode cX12_signAt 4 = .ok (.iload_n 1, 1) := by decide +kernel
theorem dX12_signAt_5 : decode cX12_signAt 5 = .ok (.iadd, 1) := by decide +kernel
theorem dX12_signAt_6 : decode cX12_signAt 6 = .ok (.aload_n 0, 1) := by decide +kernel
theorem dX12_signAt_7 : decode cX12_signAt 7 = .ok (.getfield 111, 3) := by decide +kernel
theorem dX12_signAt_10 : decode cX12_signAt 10 = .ok (.if_icmp .ge 20, 3) := by decide +kernel
theorem dX12_signAt_13 : decode cX12_signAt 13 = .ok (.aload_n 0, 1) := by decide +kernel
theorem dX12_signAt_14 : decode cX12_signAt 14 = .ok (.getfield 93, 3) := by decide +kernel
theorem dX12_signAt_17 : decode cX12_signAt 17 = .ok (.aload_n 0, 1) := by decide +kernel
theorem dX12_signAt_18 : decode cX12_signAt 18 = .ok (.getfield 114, 3) := by decide +kernel
theorem dX12_signAt_21 : decode cX12_signAt 21 = .ok (.iload_n 1, 1) := by decide +kernel
theorem dX12_signAt_22 : decode cX12_signAt 22 = .ok (.iadd, 1) := by decide +kernel
theorem dX12_signAt_23 : decode cX12_signAt 23 = .ok (.iaload, 1) := by decide +kernel
theorem dX12_signAt_24 : decode cX12_signAt 24 = .ok (.bipush 96, 2) := by decide +kernel
theorem dX12_signAt_26 : decode cX12_signAt 26 = .ok (.isub, 1) := by decide +kernel
theorem dX12_signAt_27 : decode cX12_signAt 27 = .ok (.goto 4, 3) := by decide +kernel
theorem dX12_signAt_30 : decode cX12_signAt 30 = .ok (.iconst 0, 1) := by decide +kernel
theorem dX12_signAt_31 : decode cX12_signAt 31 = .ok (.ireturn, 1) := by decide +kernel
abbrev rm_M_signAt : Room := { frames := 0, cells := 0, slots := 0, locals := 0 }
def M_signAt (σ : Sg) (x1 : Int32) : Option Int32 :=
  zgt σ 171 34 fun v1 =>
  zgt σ 171 33 fun v7 =>
  if v7 ≤ (v1 + x1) then (
    some 0
  ) else (
    zgt σ 171 34 fun v18 =>
    zrd σ 186 1600 (v18 + x1) fun v23 =>
    some (v23 - 96)
  )
set_option maxRecDepth 20000 in
theorem t_M_signAt {X : Zx} {Q : State → Prop} {σ : Sg} {x1 : Int32} (ok : Zok X cX12_signAt RX12 rm_M_signAt 198 2)  {out : Int32} (hf : M_signAt σ x1 = some out) (hk : ZrI cX12_signAt X Q out σ) : ZAt X Q 0 0 0 σ [(0, .ref (X.ad 171)), (1, .int x1)] [] := by
  unfold M_signAt at hf
  refine z_aload_n ok dX12_signAt_0 0 rfl ?_
  refine z_geti ok kc_171 zc_12 hin_12 34 (by decide) fl_12_114 rfl dX12_signAt_1 hf (fun v1 hf => ?_)
  refine z_iload_n ok dX12_signAt_4 1 rfl ?_
  refine z_iadd ok dX12_signAt_5 ?_
  refine z_aload_n ok dX12_signAt_6 0 rfl ?_
  refine z_geti ok kc_171 zc_12 hin_12 33 (by decide) fl_12_111 rfl dX12_signAt_7 hf (fun v7 hf => ?_)
  refine z_icmp_ge (tgt := 30) ok dX12_signAt_10 (by decide) hf (fun _ hf => ?_) (fun _ hf => ?_)
  · refine z_iconst (v := 0) ok dX12_signAt_30 (by decide) ?_
    obtain rfl := Option.some.inj hf
    exact hk _ _ dX12_signAt_31
  · refine z_aload_n ok dX12_signAt_13 0 rfl ?_
    refine z_getr (q := 186) ok kc_171 zc_12 hin_12 27 (by decide) fl_12_93 rfl dX12_signAt_14 ?_
    refine z_aload_n ok dX12_signAt_17 0 rfl ?_
    refine z_geti ok kc_171 zc_12 hin_12 34 (by decide) fl_12_114 rfl dX12_signAt_18 hf (fun v18 hf => ?_)
    refine z_iload_n ok dX12_signAt_21 1 rfl ?_
    refine z_iadd ok dX12_signAt_22 ?_
    refine z_iald ok kc_186 dX12_signAt_23 hf (fun v23 hf => ?_)
    refine z_bipush (v := 96) ok dX12_signAt_24 (by decide) ?_
    refine z_isub ok dX12_signAt_26 ?_
    refine z_goto (tgt := 31) ok dX12_signAt_27 (by decide) ?_
    obtain rfl := Option.some.inj hf
    exact hk _ _ dX12_signAt_31
theorem c_M_signAt {σ : Sg} {x1 : Int32} {r : Int32} (h : M_signAt σ x1 = some r) : ZcI yX12_signAt cX12_signAt 2 .int rm_M_signAt 198 (fun ad => [.ref (ad 171), .int x1]) σ r σ :=
  zmetI pn_12 rfl (fun _ => rfl) (fun _ => Nat.le_of_ble_eq_true rfl) rfl (fun X Q ok hk => t_M_signAt ok h hk)
theorem dX12_among_0 : decode cX12_among 0 = .ok (.iconst 0, 1) := by decide +kernel
theorem dX12_among_1 : decode cX12_among 1 = .ok (.istore_n 3, 1) := by decide +kernel
theorem dX12_among_2 : decode cX12_among 2 = .ok (.iload_n 3, 1) := by decide +kernel
theorem dX12_among_3 : decode cX12_among 3 = .ok (.iload_n 2, 1) := by decide +kernel
theorem dX12_among_4 : decode cX12_among 4 = .ok (.if_icmp .ge 72, 3) := by decide +kernel
theorem dX12_among_7 : decode cX12_among 7 = .ok (.aload_n 0, 1) := by decide +kernel
theorem dX12_among_8 : decode cX12_among 8 = .ok (.invokevirtual 174, 3) := by decide +kernel
theorem dX12_among_11 : decode cX12_among 11 = .ok (.ifCond .eq 65, 3) := by decide +kernel
theorem dX12_among_14 : decode cX12_among 14 = .ok (.iconst 1, 1) := by decide +kernel
theorem dX12_among_15 : decode cX12_among 15 = .ok (.istore 4, 2) := by decide +kernel
theorem dX12_among_17 : decode cX12_among 17 = .ok (.iconst 0, 1) := by decide +kernel
theorem dX12_among_18 : decode cX12_among 18 = .ok (.istore 5, 2) := by decide +kernel
theorem dX12_among_20 : decode cX12_among 20 = .ok (.iload 5, 2) := by decide +kernel
theorem dX12_among_22 : decode cX12_among 22 = .ok (.bipush 6, 2) := by decide +kernel
theorem dX12_among_24 : decode cX12_among 24 = .ok (.if_icmp .ge 39, 3) := by decide +kernel
theorem dX12_among_27 : decode cX12_among 27 = .ok (.iload 4, 2) := by decide +kernel
theorem dX12_among_29 : decode cX12_among 29 = .ok (.ifCond .eq 25, 3) := by decide +kernel
theorem dX12_among_32 : decode cX12_among 32 = .ok (.aload_n 1, 1) := by decide +kernel
theorem dX12_among_33 : decode cX12_among 33 = .ok (.bipush 6, 2) := by decide +kernel
theorem dX12_among_35 : decode cX12_among 35 = .ok (.iload_n 3, 1) := by decide +kernel
theorem dX12_among_36 : decode cX12_among 36 = .ok (.imul, 1) := by decide +kernel
theorem dX12_among_37 : decode cX12_among 37 = .ok (.iload 5, 2) := by decide +kernel
theorem dX12_among_39 : decode cX12_among 39 = .ok (.iadd, 1) := by decide +kernel
theorem dX12_among_40 : decode cX12_among 40 = .ok (.iaload, 1) := by decide +kernel
theorem dX12_among_41 : decode cX12_among 41 = .ok (.aload_n 0, 1) := by decide +kernel
theorem dX12_among_42 : decode cX12_among 42 = .ok (.iload 5, 2) := by decide +kernel
theorem dX12_among_44 : decode cX12_among 44 = .ok (.invokevirtual 202, 3) := by decide +kernel
theorem dX12_among_47 : decode cX12_among 47 = .ok (.if_icmp .ne 7, 3) := by decide +kernel
theorem dX12_among_50 : decode cX12_among 50 = .ok (.iconst 1, 1) := by decide +kernel
theorem dX12_among_51 : decode cX12_among 51 = .ok (.goto 4, 3) := by decide +kernel
theorem dX12_among_54 : decode cX12_among 54 = .ok (.iconst 0, 1) := by decide +kernel
theorem dX12_among_55 : decode cX12_among 55 = .ok (.istore 4, 2) := by decide +kernel
theorem dX12_among_57 : decode cX12_among 57 = .ok (.iinc 5 1, 3) := by decide +kernel
theorem dX12_among_60 : decode cX12_among 60 = .ok (.goto (-40), 3) := by decide +kernel
theorem dX12_among_63 : decode cX12_among 63 = .ok (.iload 4, 2) := by decide +kernel
theorem dX12_among_65 : decode cX12_among 65 = .ok (.ifCond .eq 5, 3) := by decide +kernel
theorem dX12_among_68 : decode cX12_among 68 = .ok (.iload_n 3, 1) := by decide +kernel
theorem dX12_among_69 : decode cX12_among 69 = .ok (.ireturn, 1) := by decide +kernel
theorem dX12_among_70 : decode cX12_among 70 = .ok (.iinc 3 1, 3) := by decide +kernel
theorem dX12_among_73 : decode cX12_among 73 = .ok (.goto (-71), 3) := by decide +kernel
theorem dX12_among_76 : decode cX12_among 76 = .ok (.iconst (-1), 1) := by decide +kernel
theorem dX12_among_77 : decode cX12_among 77 = .ok (.ireturn, 1) := by decide +kernel
abbrev rm_M_among : Room := { frames := 1, cells := 0, slots := 0, locals := 21 }
def M_among_l20 (σ : Sg) (a1 : Nat) (n1 : Nat) (x2 : Int32) (x3 : Int32) (x4 : Int32) (x5 : Int32) : Option ((Int32 × Int32) ⊕ (Int32 × Int32)) :=
  if 6 ≤ x5 then (
    some (.inr (x4, x5))
  ) else (
    if x4 = 0 then (
      zlt 0 fun v55 =>
      zlt (x5 + 1) fun v57 =>
      some (.inl (v55, v57))
    ) else (
      zrd σ a1 n1 ((6 * x3) + x5) fun v40 =>
      (M_signAt σ x5).bind fun r44 =>
      if v40 = r44 then (
        zlt 1 fun v55 =>
        zlt (x5 + 1) fun v57 =>
        some (.inl (v55, v57))
      ) else (
        zlt 0 fun v55 =>
        zlt (x5 + 1) fun v57 =>
        some (.inl (v55, v57))
      )
    )
  )
set_option maxRecDepth 20000 in
theorem t_M_among_l20 {X : Zx} {Q : State → Prop} {σ : Sg} {a1 : Nat} {n1 : Nat} {x2 : Int32} {x3 : Int32} {x4 : Int32} {x5 : Int32} (ok : Zok X cX12_among RX12 rm_M_among 198 6) (ha1 : zk a1 198 (.inr (0, n1, []))) {out : ((Int32 × Int32) ⊕ (Int32 × Int32))} (hf : M_among_l20 σ a1 n1 x2 x3 x4 x5 = some out) (hk : zout (fun (s : (Int32 × Int32)) => ZAt X Q 0 0 20 σ [(0, .ref (X.ad 171)), (1, .ref (X.ad a1)), (2, .int x2), (3, .int x3), (4, .int s.1), (5, .int s.2)] []) (fun (s : (Int32 × Int32)) => ZAt X Q 0 0 63 σ [(0, .ref (X.ad 171)), (1, .ref (X.ad a1)), (2, .int x2), (3, .int x3), (4, .int s.1)] []) out) : ZAt X Q 0 0 20 σ [(0, .ref (X.ad 171)), (1, .ref (X.ad a1)), (2, .int x2), (3, .int x3), (4, .int x4), (5, .int x5)] [] := by
  unfold M_among_l20 at hf
  refine z_iload ok dX12_among_20 5 rfl ?_
  refine z_bipush (v := 6) ok dX12_among_22 (by decide) ?_
  refine z_icmp_ge (tgt := 63) ok dX12_among_24 (by decide) hf (fun _ hf => ?_) (fun _ hf => ?_)
  · obtain rfl := Option.some.inj hf
    exact z_sub [0, 1, 2, 3, 4] rfl hk
  · refine z_iload ok dX12_among_27 4 rfl ?_
    refine z_if_eq (tgt := 54) ok dX12_among_29 (by decide) hf (fun _ hf => ?_) (fun _ hf => ?_)
    · refine z_iconst (v := 0) ok dX12_among_54 (by decide) ?_
      refine z_nm hf (fun v55 hf => ?_)
      refine z_istore (lv' := [(4, .int v55), (0, .ref (X.ad 171)), (1, .ref (X.ad a1)), (2, .int x2), (3, .int x3), (5, .int x5)]) ok dX12_among_55 (by decide) rfl ?_
      refine z_iinc (w := 1) (lv' := fun v57 => [(5, .int v57), (4, .int v55), (0, .ref (X.ad 171)), (1, .ref (X.ad a1)), (2, .int x2), (3, .int x3)]) ok dX12_among_57 5 rfl (by decide) (by decide) (fun _ => rfl) hf (fun v57 hf => ?_)
      refine z_goto (tgt := 20) ok dX12_among_60 (by decide) ?_
      obtain rfl := Option.some.inj hf
      exact z_sub [2, 3, 4, 5, 1, 0] rfl hk
    · refine z_aload_n ok dX12_among_32 1 rfl ?_
      refine z_bipush (v := 6) ok dX12_among_33 (by decide) ?_
      refine z_iload_n ok dX12_among_35 3 rfl ?_
      refine z_imul ok dX12_among_36 ?_
      refine z_iload ok dX12_among_37 5 rfl ?_
      refine z_iadd ok dX12_among_39 ?_
      refine z_iald ok ha1 dX12_among_40 hf (fun v40 hf => ?_)
      refine z_aload_n ok dX12_among_41 0 rfl ?_
      refine z_iload ok dX12_among_42 5 rfl ?_
      refine z_call hf (fun r44 h44 hf => ?_)
      refine z_cV (As := [.int x5]) (rest := [.int v40]) (w := 171) ok kc_171 zc_12 (c_M_signAt h44) rfl ⟨ml_12_202, w_M_signAt⟩ hy_M_signAt ⟨rfl, rfl⟩ ⟨Nat.le_of_ble_eq_true rfl, Nat.le_of_ble_eq_true rfl⟩ ⟨Nat.zero_le _, Nat.zero_le _⟩ rfl (Nat.le_of_ble_eq_true rfl) dX12_among_44 ?_
      refine z_icmp_ne (tgt := 54) ok dX12_among_47 (by decide) hf (fun _ hf => ?_) (fun _ hf => ?_)
      · refine z_iconst (v := 1) ok dX12_among_50 (by decide) ?_
        refine z_goto (tgt := 55) ok dX12_among_51 (by decide) ?_
        refine z_nm hf (fun v55 hf => ?_)
        refine z_istore (lv' := [(4, .int v55), (0, .ref (X.ad 171)), (1, .ref (X.ad a1)), (2, .int x2), (3, .int x3), (5, .int x5)]) ok dX12_among_55 (by decide) rfl ?_
        refine z_iinc (w := 1) (lv' := fun v57 => [(5, .int v57), (4, .int v55), (0, .ref (X.ad 171)), (1, .ref (X.ad a1)), (2, .int x2), (3, .int x3)]) ok dX12_among_57 5 rfl (by decide) (by decide) (fun _ => rfl) hf (fun v57 hf => ?_)
        refine z_goto (tgt := 20) ok dX12_among_60 (by decide) ?_
        obtain rfl := Option.some.inj hf
        exact z_sub [2, 3, 4, 5, 1, 0] rfl hk
      · refine z_iconst (v := 0) ok dX12_among_54 (by decide) ?_
        refine z_nm hf (fun v55 hf => ?_)
        refine z_istore (lv' := [(4, .int v55), (0, .ref (X.ad 171)), (1, .ref (X.ad a1)), (2, .int x2), (3, .int x3), (5, .int x5)]) ok dX12_among_55 (by decide) rfl ?_
        refine z_iinc (w := 1) (lv' := fun v57 => [(5, .int v57), (4, .int v55), (0, .ref (X.ad 171)), (1, .ref (X.ad a1)), (2, .int x2), (3, .int x3)]) ok dX12_among_57 5 rfl (by decide) (by decide) (fun _ => rfl) hf (fun v57 hf => ?_)
        refine z_goto (tgt := 20) ok dX12_among_60 (by decide) ?_
        obtain rfl := Option.some.inj hf
        exact z_sub [2, 3, 4, 5, 1, 0] rfl hk
def M_among_j2_63 (σ : Sg) (a1 : Nat) (n1 : Nat) (x2 : Int32) (x3 : Int32) (x4 : Int32) : Option (Int32 ⊕ (Int32 ⊕ Int32)) :=
  if x4 = 0 then (
    zlt (x3 + 1) fun v70 =>
    some (.inl v70)
  ) else (
    some (.inr (.inl x3))
  )
set_option maxRecDepth 20000 in
theorem t_M_among_j2_63 {X : Zx} {Q : State → Prop} {σ : Sg} {a1 : Nat} {n1 : Nat} {x2 : Int32} {x3 : Int32} {x4 : Int32} (ok : Zok X cX12_among RX12 rm_M_among 198 6) (ha1 : zk a1 198 (.inr (0, n1, []))) {out : (Int32 ⊕ (Int32 ⊕ Int32))} (hf : M_among_j2_63 σ a1 n1 x2 x3 x4 = some out) (hk : zout (fun (s : Int32) => ZAt X Q 0 0 2 σ [(0, .ref (X.ad 171)), (1, .ref (X.ad a1)), (2, .int x2), (3, .int s)] []) (zout (fun (r : Int32) => ZrI cX12_among X Q r σ) (fun (s : Int32) => ZAt X Q 0 0 76 σ [] [])) out) : ZAt X Q 0 0 63 σ [(0, .ref (X.ad 171)), (1, .ref (X.ad a1)), (2, .int x2), (3, .int x3), (4, .int x4)] [] := by
  unfold M_among_j2_63 at hf
  refine z_iload ok dX12_among_63 4 rfl ?_
  refine z_if_eq (tgt := 70) ok dX12_among_65 (by decide) hf (fun _ hf => ?_) (fun _ hf => ?_)
  · refine z_iinc (w := 1) (lv' := fun v70 => [(3, .int v70), (0, .ref (X.ad 171)), (1, .ref (X.ad a1)), (2, .int x2), (4, .int x4)]) ok dX12_among_70 3 rfl (by decide) (by decide) (fun _ => rfl) hf (fun v70 hf => ?_)
    refine z_goto (tgt := 2) ok dX12_among_73 (by decide) ?_
    obtain rfl := Option.some.inj hf
    exact z_sub [1, 2, 3, 0] rfl hk
  · refine z_iload_n ok dX12_among_68 3 rfl ?_
    obtain rfl := Option.some.inj hf
    exact hk _ _ dX12_among_69
def M_among_l2 (σ : Sg) (a1 : Nat) (n1 : Nat) (x2 : Int32) (x3 : Int32) : Option (Int32 ⊕ (Int32 ⊕ Int32)) :=
  if x2 ≤ x3 then (
    some (.inr (.inr x3))
  ) else (
    (M_goesWell σ).bind fun r8 =>
    if (zb r8) = 0 then (
      some (.inr (.inr x3))
    ) else (
      zlt 1 fun v15 =>
      zlt 0 fun v18 =>
      (zit (fun (s : (Int32 × Int32)) => M_among_l20 σ a1 n1 x2 x3 s.1 s.2) zFU (v15, v18)).bind fun r =>
      M_among_j2_63 σ a1 n1 x2 x3 r.1
    )
  )
set_option maxRecDepth 20000 in
theorem t_M_among_l2 {X : Zx} {Q : State → Prop} {σ : Sg} {a1 : Nat} {n1 : Nat} {x2 : Int32} {x3 : Int32} (ok : Zok X cX12_among RX12 rm_M_among 198 6) (ha1 : zk a1 198 (.inr (0, n1, []))) {out : (Int32 ⊕ (Int32 ⊕ Int32))} (hf : M_among_l2 σ a1 n1 x2 x3 = some out) (hk : zout (fun (s : Int32) => ZAt X Q 0 0 2 σ [(0, .ref (X.ad 171)), (1, .ref (X.ad a1)), (2, .int x2), (3, .int s)] []) (zout (fun (r : Int32) => ZrI cX12_among X Q r σ) (fun (s : Int32) => ZAt X Q 0 0 76 σ [] [])) out) : ZAt X Q 0 0 2 σ [(0, .ref (X.ad 171)), (1, .ref (X.ad a1)), (2, .int x2), (3, .int x3)] [] := by
  unfold M_among_l2 at hf
  refine z_iload_n ok dX12_among_2 3 rfl ?_
  refine z_iload_n ok dX12_among_3 2 rfl ?_
  refine z_icmp_ge (tgt := 76) ok dX12_among_4 (by decide) hf (fun _ hf => ?_) (fun _ hf => ?_)
  · obtain rfl := Option.some.inj hf
    exact z_sub [] rfl hk
  · refine z_aload_n ok dX12_among_7 0 rfl ?_
    refine z_call hf (fun r8 h8 hf => ?_)
    refine z_cV (As := []) (rest := []) (w := 171) ok kc_171 zc_12 (c_M_goesWell h8) rfl ⟨ml_12_174, w_M_goesWell⟩ hy_M_goesWell ⟨rfl, rfl⟩ ⟨Nat.le_of_ble_eq_true rfl, Nat.le_of_ble_eq_true rfl⟩ ⟨Nat.zero_le _, Nat.zero_le _⟩ rfl (Nat.le_of_ble_eq_true rfl) dX12_among_8 ?_
    refine z_if_eq (tgt := 76) ok dX12_among_11 (by decide) hf (fun _ hf => ?_) (fun _ hf => ?_)
    · obtain rfl := Option.some.inj hf
      exact z_sub [] rfl hk
    · refine z_iconst (v := 1) ok dX12_among_14 (by decide) ?_
      refine z_nm hf (fun v15 hf => ?_)
      refine z_istore (lv' := [(4, .int v15), (0, .ref (X.ad 171)), (1, .ref (X.ad a1)), (2, .int x2), (3, .int x3)]) ok dX12_among_15 (by decide) rfl ?_
      refine z_iconst (v := 0) ok dX12_among_17 (by decide) ?_
      refine z_nm hf (fun v18 hf => ?_)
      refine z_istore (lv' := [(5, .int v18), (4, .int v15), (0, .ref (X.ad 171)), (1, .ref (X.ad a1)), (2, .int x2), (3, .int x3)]) ok dX12_among_18 (by decide) rfl ?_
      refine z_call hf (fun r hr hf => ?_)
      refine z_sub [2, 3, 4, 5, 1, 0] rfl (z_iter (fun (s : (Int32 × Int32)) => σ) (fun (s : (Int32 × Int32)) => [(0, .ref (X.ad 171)), (1, .ref (X.ad a1)), (2, .int x2), (3, .int x3), (4, .int s.1), (5, .int s.2)]) (fun s o h1 h2 => t_M_among_l20 ok ha1 h1 h2) _ _ _ hr ?_)
      show ZAt X Q 0 0 63 σ [(0, .ref (X.ad 171)), (1, .ref (X.ad a1)), (2, .int x2), (3, .int x3), (4, .int r.1)] []
      exact z_sub [0, 1, 2, 3, 4] rfl (t_M_among_j2_63 ok ha1 hf hk)
def M_among (σ : Sg) (a1 : Nat) (n1 : Nat) (x2 : Int32) : Option Int32 :=
  zlt 0 fun v1 =>
  (zit (fun (s : Int32) => M_among_l2 σ a1 n1 x2 s) zFU v1).bind fun r => r.elim (fun r =>
  some r
  ) (fun r =>
  some (-1)
  )
set_option maxRecDepth 20000 in
theorem t_M_among {X : Zx} {Q : State → Prop} {σ : Sg} {a1 : Nat} {n1 : Nat} {x2 : Int32} (ok : Zok X cX12_among RX12 rm_M_among 198 6) (ha1 : zk a1 198 (.inr (0, n1, []))) {out : Int32} (hf : M_among σ a1 n1 x2 = some out) (hk : ZrI cX12_among X Q out σ) : ZAt X Q 0 0 0 σ [(0, .ref (X.ad 171)), (1, .ref (X.ad a1)), (2, .int x2)] [] := by
  unfold M_among at hf
  refine z_iconst (v := 0) ok dX12_among_0 (by decide) ?_
  refine z_nm hf (fun v1 hf => ?_)
  refine z_istore_n (lv' := [(3, .int v1), (0, .ref (X.ad 171)), (1, .ref (X.ad a1)), (2, .int x2)]) ok dX12_among_1 (by decide) rfl ?_
  refine z_call hf (fun r hr hf => ?_)
  refine z_sub [1, 2, 3, 0] rfl (z_iter (fun (s : Int32) => σ) (fun (s : Int32) => [(0, .ref (X.ad 171)), (1, .ref (X.ad a1)), (2, .int x2), (3, .int s)]) (fun s o h1 h2 => t_M_among_l2 ok ha1 h1 h2) _ _ _ hr ?_)
  cases r with
  | inl r =>
    obtain rfl := Option.some.inj hf
    exact hk
  | inr r =>
    simp only [Sum.elim_inr] at hf
    show ZAt X Q 0 0 76 σ [] []
    refine z_iconst (v := (-1)) ok dX12_among_76 (by decide) ?_
    obtain rfl := Option.some.inj hf
    exact hk _ _ dX12_among_77
theorem c_M_among {σ : Sg} {a1 : Nat} {n1 : Nat} {x2 : Int32} (ha1 : zk a1 198 (.inr (0, n1, []))) {r : Int32} (h : M_among σ a1 n1 x2 = some r) : ZcI yX12_among cX12_among 6 .int rm_M_among 198 (fun ad => [.ref (ad 171), .ref (ad a1), .int x2]) σ r σ :=
  zmetI pn_12 rfl (fun _ => rfl) (fun _ => Nat.le_of_ble_eq_true rfl) rfl (fun X Q ok hk => t_M_among ok ha1 h hk)
theorem dX12_freshName_0 : decode cX12_freshName 0 = .ok (.aload_n 0, 1) := by decide +kernel
theorem dX12_freshName_1 : decode cX12_freshName 1 = .ok (.invokevirtual 205, 3) := by decide +kernel
theorem dX12_freshName_4 : decode cX12_freshName 4 = .ok (.aload_n 0, 1) := by decide +kernel
theorem dX12_freshName_5 : decode cX12_freshName 5 = .ok (.aload_n 0, 1) := by decide +kernel
theorem dX12_freshName_6 : decode cX12_freshName 6 = .ok (.getfield 65, 3) := by decide +kernel
theorem dX12_freshName_9 : decode cX12_freshName 9 = .ok (.aload_n 0, 1) := by decide +kernel
theorem dX12_freshName_10 : decode cX12_freshName 10 = .ok (.getfield 35, 3) := by decide +kernel
theorem dX12_freshName_13 : decode cX12_freshName 13 = .ok (.invokevirtual 208, 3) := by decide +kernel
theorem dX12_freshName_16 : decode cX12_freshName 16 = .ok (.iconst (-1), 1) := by decide +kernel
theorem dX12_freshName_17 : decode cX12_freshName 17 = .ok (.if_icmp .ne 19, 3) := by decide +kernel
theorem dX12_freshName_20 : decode cX12_freshName 20 = .ok (.aload_n 0, 1) := by decide +kernel
theorem dX12_freshName_21 : decode cX12_freshName 21 = .ok (.aload_n 0, 1) := by decide +kernel
theorem dX12_freshName_22 : decode cX12_freshName 22 = .ok (.getfield 68, 3) := by decide +kernel
theorem dX12_freshName_25 : decode cX12_freshName 25 = .ok (.aload_n 0, 1) := by decide +kernel
theorem dX12_freshName_26 : decode cX12_freshName 26 = .ok (.getfield 38, 3) := by decide +kernel
theorem dX12_freshName_29 : decode cX12_freshName 29 = .ok (.invokevirtual 208, 3) := by decide +kernel
theorem dX12_freshName_32 : decode cX12_freshName 32 = .ok (.iconst (-1), 1) := by decide +kernel
theorem dX12_freshName_33 : decode cX12_freshName 33 = .ok (.if_icmp .eq 12, 3) := by decide +kernel
theorem dX12_freshName_36 : decode cX12_freshName 36 = .ok (.aload_n 0, 1) := by decide +kernel
theorem dX12_freshName_37 : decode cX12_freshName 37 = .ok (.iconst 3, 1) := by decide +kernel
theorem dX12_freshName_38 : decode cX12_freshName 38 = .ok (.aload_n 0, 1) := by decide +kernel
theorem dX12_freshName_39 : decode cX12_freshName 39 = .ok (.getfield 114, 3) := by decide +kernel
theorem dX12_freshName_42 : decode cX12_freshName 42 = .ok (.invokevirtual 188, 3) := by decide +kernel
theorem dX12_freshName_45 : decode cX12_freshName 45 = .ok (.iconst 0, 1) := by decide +kernel
theorem dX12_freshName_46 : decode cX12_freshName 46 = .ok (.istore_n 3, 1) := by decide +kernel
theorem dX12_freshName_47 : decode cX12_freshName 47 = .ok (.iload_n 3, 1) := by decide +kernel
theorem dX12_freshName_48 : decode cX12_freshName 48 = .ok (.bipush 6, 2) := by decide +kernel
theorem dX12_freshName_50 : decode cX12_freshName 50 = .ok (.if_icmp .ge 29, 3) := by decide +kernel
theorem dX12_freshName_53 : decode cX12_freshName 53 = .ok (.aload_n 0, 1) := by decide +kernel
theorem dX12_freshName_54 : decode cX12_freshName 54 = .ok (.invokevirtual 174, 3) := by decide +kernel
theorem dX12_freshName_57 : decode cX12_freshName 57 = .ok (.ifCond .eq 22, 3) := by decide +kernel
theorem dX12_freshName_60 : decode cX12_freshName 60 = .ok (.aload_n 1, 1) := by decide +kernel
theorem dX12_freshName_61 : decode cX12_freshName 61 = .ok (.bipush 6, 2) := by decide +kernel
theorem dX12_freshName_63 : decode cX12_freshName 63 = .ok (.iload_n 2, 1) := by decide +kernel
theorem dX12_freshName_64 : decode cX12_freshName 64 = .ok (.imul, 1) := by decide +kernel
theorem dX12_freshName_65 : decode cX12_freshName 65 = .ok (.iload_n 3, 1) := by decide +kernel
theorem dX12_freshName_66 : decode cX12_freshName 66 = .ok (.iadd, 1) := by decide +kernel
theorem dX12_freshName_67 : decode cX12_freshName 67 = .ok (.aload_n 0, 1) := by decide +kernel
theorem dX12_freshName_68 : decode cX12_freshName 68 = .ok (.iload_n 3, 1) := by decide +kernel
theorem dX12_freshName_69 : decode cX12_freshName 69 = .ok (.invokevirtual 202, 3) := by decide +kernel
theorem dX12_freshName_72 : decode cX12_freshName 72 = .ok (.iastore, 1) := by decide +kernel
theorem dX12_freshName_73 : decode cX12_freshName 73 = .ok (.iinc 3 1, 3) := by decide +kernel
theorem dX12_freshName_76 : decode cX12_freshName 76 = .ok (.goto (-29), 3) := by decide +kernel
theorem dX12_freshName_79 : decode cX12_freshName 79 = .ok (.return_, 1) := by decide +kernel
abbrev rm_M_freshName : Room := { frames := 4, cells := 0, slots := 0, locals := 82 }
def M_freshName_l47 (σ : Sg) (a1 : Nat) (n1 : Nat) (x2 : Int32) (x3 : Int32) : Option ((Sg × Int32) ⊕ (Sg × Int32)) :=
  if 6 ≤ x3 then (
    some (.inr (σ, x3))
  ) else (
    (M_goesWell σ).bind fun r54 =>
    if (zb r54) = 0 then (
      some (.inr (σ, x3))
    ) else (
      (M_signAt σ x3).bind fun r69 =>
      zwr σ a1 n1 ((6 * x2) + x3) r69 fun σ72 =>
      zlt (x3 + 1) fun v73 =>
      some (.inl (σ72, v73))
    )
  )
set_option maxRecDepth 20000 in
theorem t_M_freshName_l47 {X : Zx} {Q : State → Prop} {σ : Sg} {a1 : Nat} {n1 : Nat} {x2 : Int32} {x3 : Int32} (ok : Zok X cX12_freshName RX12 rm_M_freshName 198 4) (ha1 : zk a1 198 (.inr (0, n1, []))) {out : ((Sg × Int32) ⊕ (Sg × Int32))} (hf : M_freshName_l47 σ a1 n1 x2 x3 = some out) (hk : zout (fun (s : (Sg × Int32)) => ZAt X Q 0 0 47 s.1 [(0, .ref (X.ad 171)), (1, .ref (X.ad a1)), (2, .int x2), (3, .int s.2)] []) (fun (s : (Sg × Int32)) => ZAt X Q 0 0 79 s.1 [] []) out) : ZAt X Q 0 0 47 σ [(0, .ref (X.ad 171)), (1, .ref (X.ad a1)), (2, .int x2), (3, .int x3)] [] := by
  unfold M_freshName_l47 at hf
  refine z_iload_n ok dX12_freshName_47 3 rfl ?_
  refine z_bipush (v := 6) ok dX12_freshName_48 (by decide) ?_
  refine z_icmp_ge (tgt := 79) ok dX12_freshName_50 (by decide) hf (fun _ hf => ?_) (fun _ hf => ?_)
  · obtain rfl := Option.some.inj hf
    exact z_sub [] rfl hk
  · refine z_aload_n ok dX12_freshName_53 0 rfl ?_
    refine z_call hf (fun r54 h54 hf => ?_)
    refine z_cV (As := []) (rest := []) (w := 171) ok kc_171 zc_12 (c_M_goesWell h54) rfl ⟨ml_12_174, w_M_goesWell⟩ hy_M_goesWell ⟨rfl, rfl⟩ ⟨Nat.le_of_ble_eq_true rfl, Nat.le_of_ble_eq_true rfl⟩ ⟨Nat.zero_le _, Nat.zero_le _⟩ rfl (Nat.le_of_ble_eq_true rfl) dX12_freshName_54 ?_
    refine z_if_eq (tgt := 79) ok dX12_freshName_57 (by decide) hf (fun _ hf => ?_) (fun _ hf => ?_)
    · obtain rfl := Option.some.inj hf
      exact z_sub [] rfl hk
    · refine z_aload_n ok dX12_freshName_60 1 rfl ?_
      refine z_bipush (v := 6) ok dX12_freshName_61 (by decide) ?_
      refine z_iload_n ok dX12_freshName_63 2 rfl ?_
      refine z_imul ok dX12_freshName_64 ?_
      refine z_iload_n ok dX12_freshName_65 3 rfl ?_
      refine z_iadd ok dX12_freshName_66 ?_
      refine z_aload_n ok dX12_freshName_67 0 rfl ?_
      refine z_iload_n ok dX12_freshName_68 3 rfl ?_
      refine z_call hf (fun r69 h69 hf => ?_)
      refine z_cV (As := [.int x3]) (rest := [.int ((6 * x2) + x3), .ref (X.ad a1)]) (w := 171) ok kc_171 zc_12 (c_M_signAt h69) rfl ⟨ml_12_202, w_M_signAt⟩ hy_M_signAt ⟨rfl, rfl⟩ ⟨Nat.le_of_ble_eq_true rfl, Nat.le_of_ble_eq_true rfl⟩ ⟨Nat.zero_le _, Nat.zero_le _⟩ rfl (Nat.le_of_ble_eq_true rfl) dX12_freshName_69 ?_
      refine z_iast ok ha1 dX12_freshName_72 hf (fun σ72 hf => ?_)
      refine z_iinc (w := 1) (lv' := fun v73 => [(3, .int v73), (0, .ref (X.ad 171)), (1, .ref (X.ad a1)), (2, .int x2)]) ok dX12_freshName_73 3 rfl (by decide) (by decide) (fun _ => rfl) hf (fun v73 hf => ?_)
      refine z_goto (tgt := 47) ok dX12_freshName_76 (by decide) ?_
      obtain rfl := Option.some.inj hf
      exact z_sub [1, 2, 3, 0] rfl hk
def M_freshName_j45 (σ : Sg) (a1 : Nat) (n1 : Nat) (x2 : Int32) : Option Sg :=
  zlt 0 fun v46 =>
  (zit (fun (s : (Sg × Int32)) => M_freshName_l47 s.1 a1 n1 x2 s.2) zFU (σ, v46)).bind fun r =>
  some r.1
set_option maxRecDepth 20000 in
theorem t_M_freshName_j45 {X : Zx} {Q : State → Prop} {σ : Sg} {a1 : Nat} {n1 : Nat} {x2 : Int32} (ok : Zok X cX12_freshName RX12 rm_M_freshName 198 4) (ha1 : zk a1 198 (.inr (0, n1, []))) {out : Sg} (hf : M_freshName_j45 σ a1 n1 x2 = some out) (hk : ZrV cX12_freshName X Q out) : ZAt X Q 0 0 45 σ [(0, .ref (X.ad 171)), (1, .ref (X.ad a1)), (2, .int x2)] [] := by
  unfold M_freshName_j45 at hf
  refine z_iconst (v := 0) ok dX12_freshName_45 (by decide) ?_
  refine z_nm hf (fun v46 hf => ?_)
  refine z_istore_n (lv' := [(3, .int v46), (0, .ref (X.ad 171)), (1, .ref (X.ad a1)), (2, .int x2)]) ok dX12_freshName_46 (by decide) rfl ?_
  refine z_call hf (fun r hr hf => ?_)
  refine z_sub [1, 2, 3, 0] rfl (z_iter (fun (s : (Sg × Int32)) => s.1) (fun (s : (Sg × Int32)) => [(0, .ref (X.ad 171)), (1, .ref (X.ad a1)), (2, .int x2), (3, .int s.2)]) (fun s o h1 h2 => t_M_freshName_l47 ok ha1 h1 h2) _ _ _ hr ?_)
  show ZAt X Q 0 0 79 r.1 [] []
  obtain rfl := Option.some.inj hf
  exact hk _ _ dX12_freshName_79
def M_freshName_j36 (σ : Sg) (a1 : Nat) (n1 : Nat) (x2 : Int32) : Option Sg :=
  zgt σ 171 34 fun v39 =>
  (M_faults σ 3 v39).bind fun r42 =>
  M_freshName_j45 r42 a1 n1 x2
set_option maxRecDepth 20000 in
theorem t_M_freshName_j36 {X : Zx} {Q : State → Prop} {σ : Sg} {a1 : Nat} {n1 : Nat} {x2 : Int32} (ok : Zok X cX12_freshName RX12 rm_M_freshName 198 4) (ha1 : zk a1 198 (.inr (0, n1, []))) {out : Sg} (hf : M_freshName_j36 σ a1 n1 x2 = some out) (hk : ZrV cX12_freshName X Q out) : ZAt X Q 0 0 36 σ [(0, .ref (X.ad 171)), (1, .ref (X.ad a1)), (2, .int x2)] [] := by
  unfold M_freshName_j36 at hf
  refine z_aload_n ok dX12_freshName_36 0 rfl ?_
  refine z_iconst (v := 3) ok dX12_freshName_37 (by decide) ?_
  refine z_aload_n ok dX12_freshName_38 0 rfl ?_
  refine z_geti ok kc_171 zc_12 hin_12 34 (by decide) fl_12_114 rfl dX12_freshName_39 hf (fun v39 hf => ?_)
  refine z_call hf (fun r42 h42 hf => ?_)
  refine z_cVv (As := [.int 3, .int v39]) (rest := []) (w := 171) ok kc_171 zc_12 (c_M_faults h42) rfl ⟨ml_12_188, w_M_faults⟩ hy_M_faults ⟨rfl, rfl⟩ ⟨Nat.le_of_ble_eq_true rfl, Nat.le_of_ble_eq_true rfl⟩ ⟨Nat.zero_le _, Nat.zero_le _⟩ rfl (Nat.le_of_ble_eq_true rfl) dX12_freshName_42 ?_
  exact z_sub [0, 1, 2] rfl (t_M_freshName_j45 ok ha1 hf hk)
def M_freshName (σ : Sg) (a1 : Nat) (n1 : Nat) (x2 : Int32) : Option Sg :=
  (M_name σ).bind fun r1 =>
  zgt r1 171 8 fun v10 =>
  (M_among r1 181 48 v10).bind fun r13 =>
  if r13 = (-1) then (
    zgt r1 171 9 fun v26 =>
    (M_among r1 182 60 v26).bind fun r29 =>
    if r29 = (-1) then (
      M_freshName_j45 r1 a1 n1 x2
    ) else (
      M_freshName_j36 r1 a1 n1 x2
    )
  ) else (
    M_freshName_j36 r1 a1 n1 x2
  )
set_option maxRecDepth 20000 in
theorem t_M_freshName {X : Zx} {Q : State → Prop} {σ : Sg} {a1 : Nat} {n1 : Nat} {x2 : Int32} (ok : Zok X cX12_freshName RX12 rm_M_freshName 198 4) (ha1 : zk a1 198 (.inr (0, n1, []))) {out : Sg} (hf : M_freshName σ a1 n1 x2 = some out) (hk : ZrV cX12_freshName X Q out) : ZAt X Q 0 0 0 σ [(0, .ref (X.ad 171)), (1, .ref (X.ad a1)), (2, .int x2)] [] := by
  unfold M_freshName at hf
  refine z_aload_n ok dX12_freshName_0 0 rfl ?_
  refine z_call hf (fun r1 h1 hf => ?_)
  refine z_cVv (As := []) (rest := []) (w := 171) ok kc_171 zc_12 (c_M_name h1) rfl ⟨ml_12_205, w_M_name⟩ hy_M_name ⟨rfl, rfl⟩ ⟨Nat.le_of_ble_eq_true rfl, Nat.le_of_ble_eq_true rfl⟩ ⟨Nat.zero_le _, Nat.zero_le _⟩ rfl (Nat.le_of_ble_eq_true rfl) dX12_freshName_1 ?_
  refine z_aload_n ok dX12_freshName_4 0 rfl ?_
  refine z_aload_n ok dX12_freshName_5 0 rfl ?_
  refine z_getr (q := 181) ok kc_171 zc_12 hin_12 18 (by decide) fl_12_65 rfl dX12_freshName_6 ?_
  refine z_aload_n ok dX12_freshName_9 0 rfl ?_
  refine z_geti ok kc_171 zc_12 hin_12 8 (by decide) fl_12_35 rfl dX12_freshName_10 hf (fun v10 hf => ?_)
  refine z_call hf (fun r13 h13 hf => ?_)
  refine z_cV (As := [.ref (X.ad 181), .int v10]) (rest := []) (w := 171) ok kc_171 zc_12 (c_M_among kc_181 h13) rfl ⟨ml_12_208, w_M_among⟩ hy_M_among ⟨rfl, rfl⟩ ⟨Nat.le_of_ble_eq_true rfl, Nat.le_of_ble_eq_true rfl⟩ ⟨Nat.zero_le _, Nat.zero_le _⟩ rfl (Nat.le_of_ble_eq_true rfl) dX12_freshName_13 ?_
  refine z_iconst (v := (-1)) ok dX12_freshName_16 (by decide) ?_
  refine z_icmp_ne (tgt := 36) ok dX12_freshName_17 (by decide) hf (fun _ hf => ?_) (fun _ hf => ?_)
  · refine z_aload_n ok dX12_freshName_20 0 rfl ?_
    refine z_aload_n ok dX12_freshName_21 0 rfl ?_
    refine z_getr (q := 182) ok kc_171 zc_12 hin_12 19 (by decide) fl_12_68 rfl dX12_freshName_22 ?_
    refine z_aload_n ok dX12_freshName_25 0 rfl ?_
    refine z_geti ok kc_171 zc_12 hin_12 9 (by decide) fl_12_38 rfl dX12_freshName_26 hf (fun v26 hf => ?_)
    refine z_call hf (fun r29 h29 hf => ?_)
    refine z_cV (As := [.ref (X.ad 182), .int v26]) (rest := []) (w := 171) ok kc_171 zc_12 (c_M_among kc_182 h29) rfl ⟨ml_12_208, w_M_among⟩ hy_M_among ⟨rfl, rfl⟩ ⟨Nat.le_of_ble_eq_true rfl, Nat.le_of_ble_eq_true rfl⟩ ⟨Nat.zero_le _, Nat.zero_le _⟩ rfl (Nat.le_of_ble_eq_true rfl) dX12_freshName_29 ?_
    refine z_iconst (v := (-1)) ok dX12_freshName_32 (by decide) ?_
    refine z_icmp_eq (tgt := 45) ok dX12_freshName_33 (by decide) hf (fun _ hf => ?_) (fun _ hf => ?_)
    · exact z_sub [0, 1, 2] rfl (t_M_freshName_j45 ok ha1 hf hk)
    · exact z_sub [0, 1, 2] rfl (t_M_freshName_j36 ok ha1 hf hk)
  · exact z_sub [0, 1, 2] rfl (t_M_freshName_j36 ok ha1 hf hk)
theorem c_M_freshName {σ : Sg} {a1 : Nat} {n1 : Nat} {x2 : Int32} (ha1 : zk a1 198 (.inr (0, n1, []))) {r : Sg} (h : M_freshName σ a1 n1 x2 = some r) : ZcV yX12_freshName cX12_freshName 4 rm_M_freshName 198 (fun ad => [.ref (ad 171), .ref (ad a1), .int x2]) σ r :=
  zmetV pn_12 rfl (fun _ => rfl) (fun _ => Nat.le_of_ble_eq_true rfl) (fun X Q ok hk => t_M_freshName ok ha1 h hk)
theorem dX12_readsPool_0 : decode cX12_readsPool 0 = .ok (.aload_n 0, 1) := by decide +kernel
theorem dX12_readsPool_1 : decode cX12_readsPool 1 = .ok (.getfield 35, 3) := by decide +kernel
theorem dX12_readsPool_4 : decode cX12_readsPool 4 = .ok (.bipush 8, 2) := by decide +kernel
theorem dX12_readsPool_6 : decode cX12_readsPool 6 = .ok (.if_icmp .ne 12, 3) := by decide +kernel
theorem dX12_readsPool_9 : decode cX12_readsPool 9 = .ok (.aload_n 0, 1) := by decide +kernel
theorem dX12_readsPool_10 : decode cX12_readsPool 10 = .ok (.iconst 5, 1) := by decide +kernel
theorem dX12_readsPool_11 : decode cX12_readsPool 11 = .ok (.aload_n 0, 1) := by decide +kernel
theorem dX12_readsPool_12 : decode cX12_readsPool 12 = .ok (.getfield 114, 3) := by decide +kernel
theorem dX12_readsPool_15 : decode cX12_readsPool 15 = .ok (.invokevirtual 188, 3) := by decide +kernel
theorem dX12_readsPool_18 : decode cX12_readsPool 18 = .ok (.aload_n 0, 1) := by decide +kernel
theorem dX12_readsPool_19 : decode cX12_readsPool 19 = .ok (.invokevirtual 174, 3) := by decide +kernel
theorem dX12_readsPool_22 : decode cX12_readsPool 22 = .ok (.ifCond .ne 4, 3) := by decide +kernel
theorem dX12_readsPool_25 : decode cX12_readsPool 25 = .ok (.return_, 1) := by decide +kernel
theorem dX12_readsPool_26 : decode cX12_readsPool 26 = .ok (.aload_n 0, 1) := by decide +kernel
theorem dX12_readsPool_27 : decode cX12_readsPool 27 = .ok (.aload_n 0, 1) := by decide +kernel
theorem dX12_readsPool_28 : decode cX12_readsPool 28 = .ok (.getfield 65, 3) := by decide +kernel
theorem dX12_readsPool_31 : decode cX12_readsPool 31 = .ok (.aload_n 0, 1) := by decide +kernel
theorem dX12_readsPool_32 : decode cX12_readsPool 32 = .ok (.getfield 35, 3) := by decide +kernel
theorem dX12_readsPool_35 : decode cX12_readsPool 35 = .ok (.invokevirtual 219, 3) := by decide +kernel
theorem dX12_readsPool_38 : decode cX12_readsPool 38 = .ok (.bipush 9, 2) := by decide +kernel
theorem dX12_readsPool_40 : decode cX12_readsPool 40 = .ok (.aload_n 0, 1) := by decide +kernel
theorem dX12_readsPool_41 : decode cX12_readsPool 41 = .ok (.getfield 35, 3) := by decide +kernel
theorem dX12_readsPool_44 : decode cX12_readsPool 44 = .ok (.imul, 1) := by decide +kernel
theorem dX12_readsPool_45 : decode cX12_readsPool 45 = .ok (.istore_n 1, 1) := by decide +kernel
theorem dX12_readsPool_46 : decode cX12_readsPool 46 = .ok (.aload_n 0, 1) := by decide +kernel
theorem dX12_readsPool_47 : decode cX12_readsPool 47 = .ok (.getfield 53, 3) := by decide +kernel
theorem dX12_readsPool_50 : decode cX12_readsPool 50 = .ok (.iload_n 1, 1) := by decide +kernel
theorem dX12_readsPool_51 : decode cX12_readsPool 51 = .ok (.bipush 6, 2) := by decide +kernel
theorem dX12_readsPool_53 : decode cX12_readsPool 53 = .ok (.iadd, 1) := by decide +kernel
theorem dX12_readsPool_54 : decode cX12_readsPool 54 = .ok (.aload_n 0, 1) := by decide +kernel
theorem dX12_readsPool_55 : decode cX12_readsPool 55 = .ok (.iconst 4, 1) := by decide +kernel
theorem dX12_readsPool_56 : decode cX12_readsPool 56 = .ok (.iconst 0, 1) := by decide +kernel
theorem dX12_readsPool_57 : decode cX12_readsPool 57 = .ok (.sipush 9999, 3) := by decide +kernel
theorem dX12_readsPool_60 : decode cX12_readsPool 60 = .ok (.invokevirtual 223, 3) := by decide +kernel
theorem dX12_readsPool_63 : decode cX12_readsPool 63 = .ok (.iastore, 1) := by decide +kernel
theorem dX12_readsPool_64 : decode cX12_readsPool 64 = .ok (.aload_n 0, 1) := by decide +kernel
theorem dX12_readsPool_65 : decode cX12_readsPool 65 = .ok (.getfield 53, 3) := by decide +kernel
theorem dX12_readsPool_68 : decode cX12_readsPool 68 = .ok (.iload_n 1, 1) := by decide +kernel
theorem dX12_readsPool_69 : decode cX12_readsPool 69 = .ok (.iconst 0, 1) := by decide +kernel
theorem dX12_readsPool_70 : decode cX12_readsPool 70 = .ok (.iadd, 1) := by decide +kernel
theorem dX12_readsPool_71 : decode cX12_readsPool 71 = .ok (.aload_n 0, 1) := by decide +kernel
theorem dX12_readsPool_72 : decode cX12_readsPool 72 = .ok (.iconst 5, 1) := by decide +kernel
theorem dX12_readsPool_73 : decode cX12_readsPool 73 = .ok (.iconst 0, 1) := by decide +kernel
theorem dX12_readsPool_74 : decode cX12_readsPool 74 = .ok (.sipush 9999, 3) := by decide +kernel
theorem dX12_readsPool_77 : decode cX12_readsPool 77 = .ok (.invokevirtual 223, 3) := by decide +kernel
theorem dX12_readsPool_80 : decode cX12_readsPool 80 = .ok (.iastore, 1) := by decide +kernel
theorem dX12_readsPool_81 : decode cX12_readsPool 81 = .ok (.aload_n 0, 1) := by decide +kernel
theorem dX12_readsPool_82 : decode cX12_readsPool 82 = .ok (.getfield 53, 3) := by decide +kernel
theorem dX12_readsPool_85 : decode cX12_readsPool 85 = .ok (.iload_n 1, 1) := by decide +kernel
theorem dX12_readsPool_86 : decode cX12_readsPool 86 = .ok (.iconst 1, 1) := by decide +kernel
theorem dX12_readsPool_87 : decode cX12_readsPool 87 = .ok (.iadd, 1) := by decide +kernel
theorem dX12_readsPool_88 : decode cX12_readsPool 88 = .ok (.aload_n 0, 1) := by decide +kernel
theorem dX12_readsPool_89 : decode cX12_readsPool 89 = .ok (.bipush 6, 2) := by decide +kernel
theorem dX12_readsPool_91 : decode cX12_readsPool 91 = .ok (.aload_n 0, 1) := by decide +kernel
theorem dX12_readsPool_92 : decode cX12_readsPool 92 = .ok (.getfield 53, 3) := by decide +kernel
theorem dX12_readsPool_95 : decode cX12_readsPool 95 = .ok (.iload_n 1, 1) := by decide +kernel
theorem dX12_readsPool_96 : decode cX12_readsPool 96 = .ok (.iconst 0, 1) := by decide +kernel
theorem dX12_readsPool_97 : decode cX12_readsPool 97 = .ok (.iadd, 1) := by decide +kernel
theorem dX12_readsPool_98 : decode cX12_readsPool 98 = .ok (.iaload, 1) := by decide +kernel
theorem dX12_readsPool_99 : decode cX12_readsPool 99 = .ok (.sipush 9999, 3) := by decide +kernel
theorem dX12_readsPool_102 : decode cX12_readsPool 102 = .ok (.invokevirtual 223, 3) := by decide +kernel
theorem dX12_readsPool_105 : decode cX12_readsPool 105 = .ok (.iastore, 1) := by decide +kernel
theorem dX12_readsPool_106 : decode cX12_readsPool 106 = .ok (.aload_n 0, 1) := by decide +kernel
theorem dX12_readsPool_107 : decode cX12_readsPool 107 = .ok (.getfield 53, 3) := by decide +kernel
theorem dX12_readsPool_110 : decode cX12_readsPool 110 = .ok (.iload_n 1, 1) := by decide +kernel
theorem dX12_readsPool_111 : decode cX12_readsPool 111 = .ok (.iconst 2, 1) := by decide +kernel
theorem dX12_readsPool_112 : decode cX12_readsPool 112 = .ok (.iadd, 1) := by decide +kernel
theorem dX12_readsPool_113 : decode cX12_readsPool 113 = .ok (.aload_n 0, 1) := by decide +kernel
theorem dX12_readsPool_114 : decode cX12_readsPool 114 = .ok (.bipush 7, 2) := by decide +kernel
theorem dX12_readsPool_116 : decode cX12_readsPool 116 = .ok (.aload_n 0, 1) := by decide +kernel
theorem dX12_readsPool_117 : decode cX12_readsPool 117 = .ok (.getfield 53, 3) := by decide +kernel
theorem dX12_readsPool_120 : decode cX12_readsPool 120 = .ok (.iload_n 1, 1) := by decide +kernel
theorem dX12_readsPool_121 : decode cX12_readsPool 121 = .ok (.iconst 1, 1) := by decide +kernel
theorem dX12_readsPool_122 : decode cX12_readsPool 122 = .ok (.iadd, 1) := by decide +kernel
theorem dX12_readsPool_123 : decode cX12_readsPool 123 = .ok (.iaload, 1) := by decide +kernel
theorem dX12_readsPool_124 : decode cX12_readsPool 124 = .ok (.sipush 9999, 3) := by decide +kernel
theorem dX12_readsPool_127 : decode cX12_readsPool 127 = .ok (.invokevirtual 223, 3) := by decide +kernel
theorem dX12_readsPool_130 : decode cX12_readsPool 130 = .ok (.iastore, 1) := by decide +kernel
theorem dX12_readsPool_131 : decode cX12_readsPool 131 = .ok (.aload_n 0, 1) := by decide +kernel
theorem dX12_readsPool_132 : decode cX12_readsPool 132 = .ok (.getfield 53, 3) := by decide +kernel
theorem dX12_readsPool_135 : decode cX12_readsPool 135 = .ok (.iload_n 1, 1) := by decide +kernel
theorem dX12_readsPool_136 : decode cX12_readsPool 136 = .ok (.iconst 3, 1) := by decide +kernel
theorem dX12_readsPool_137 : decode cX12_readsPool 137 = .ok (.iadd, 1) := by decide +kernel
theorem dX12_readsPool_138 : decode cX12_readsPool 138 = .ok (.aload_n 0, 1) := by decide +kernel
theorem dX12_readsPool_139 : decode cX12_readsPool 139 = .ok (.bipush 8, 2) := by decide +kernel
theorem dX12_readsPool_141 : decode cX12_readsPool 141 = .ok (.iconst 0, 1) := by decide +kernel
theorem dX12_readsPool_142 : decode cX12_readsPool 142 = .ok (.bipush 9, 2) := by decide +kernel
theorem dX12_readsPool_144 : decode cX12_readsPool 144 = .ok (.invokevirtual 223, 3) := by decide +kernel
theorem dX12_readsPool_147 : decode cX12_readsPool 147 = .ok (.iastore, 1) := by decide +kernel
theorem dX12_readsPool_148 : decode cX12_readsPool 148 = .ok (.aload_n 0, 1) := by decide +kernel
theorem dX12_readsPool_149 : decode cX12_readsPool 149 = .ok (.getfield 53, 3) := by decide +kernel
theorem dX12_readsPool_152 : decode cX12_readsPool 152 = .ok (.iload_n 1, 1) := by decide +kernel
theorem dX12_readsPool_153 : decode cX12_readsPool 153 = .ok (.bipush 7, 2) := by decide +kernel
theorem dX12_readsPool_155 : decode cX12_readsPool 155 = .ok (.iadd, 1) := by decide +kernel
theorem dX12_readsPool_156 : decode cX12_readsPool 156 = .ok (.aload_n 0, 1) := by decide +kernel
theorem dX12_readsPool_157 : decode cX12_readsPool 157 = .ok (.bipush 9, 2) := by decide +kernel
theorem dX12_readsPool_159 : decode cX12_readsPool 159 = .ok (.iconst 0, 1) := by decide +kernel
theorem dX12_readsPool_160 : decode cX12_readsPool 160 = .ok (.bipush 99, 2) := by decide +kernel
theorem dX12_readsPool_162 : decode cX12_readsPool 162 = .ok (.invokevirtual 223, 3) := by decide +kernel
theorem dX12_readsPool_165 : decode cX12_readsPool 165 = .ok (.iastore, 1) := by decide +kernel
theorem dX12_readsPool_166 : decode cX12_readsPool 166 = .ok (.aload_n 0, 1) := by decide +kernel
theorem dX12_readsPool_167 : decode cX12_readsPool 167 = .ok (.getfield 53, 3) := by decide +kernel
theorem dX12_readsPool_170 : decode cX12_readsPool 170 = .ok (.iload_n 1, 1) := by decide +kernel
theorem dX12_readsPool_171 : decode cX12_readsPool 171 = .ok (.iconst 4, 1) := by decide +kernel
theorem dX12_readsPool_172 : decode cX12_readsPool 172 = .ok (.iadd, 1) := by decide +kernel
theorem dX12_readsPool_173 : decode cX12_readsPool 173 = .ok (.aload_n 0, 1) := by decide +kernel
theorem dX12_readsPool_174 : decode cX12_readsPool 174 = .ok (.bipush 10, 2) := by decide +kernel
theorem dX12_readsPool_176 : decode cX12_readsPool 176 = .ok (.iconst 0, 1) := by decide +kernel
theorem dX12_readsPool_177 : decode cX12_readsPool 177 = .ok (.sipush 999, 3) := by decide +kernel
theorem dX12_readsPool_180 : decode cX12_readsPool 180 = .ok (.invokevirtual 223, 3) := by decide +kernel
theorem dX12_readsPool_183 : decode cX12_readsPool 183 = .ok (.iastore, 1) := by decide +kernel
theorem dX12_readsPool_184 : decode cX12_readsPool 184 = .ok (.aload_n 0, 1) := by decide +kernel
theorem dX12_readsPool_185 : decode cX12_readsPool 185 = .ok (.getfield 53, 3) := by decide +kernel
theorem dX12_readsPool_188 : decode cX12_readsPool 188 = .ok (.iload_n 1, 1) := by decide +kernel
theorem dX12_readsPool_189 : decode cX12_readsPool 189 = .ok (.iconst 5, 1) := by decide +kernel
theorem dX12_readsPool_190 : decode cX12_readsPool 190 = .ok (.iadd, 1) := by decide +kernel
theorem dX12_readsPool_191 : decode cX12_readsPool 191 = .ok (.aload_n 0, 1) := by decide +kernel
theorem dX12_readsPool_192 : decode cX12_readsPool 192 = .ok (.bipush 11, 2) := by decide +kernel
theorem dX12_readsPool_194 : decode cX12_readsPool 194 = .ok (.iconst 1, 1) := by decide +kernel
theorem dX12_readsPool_195 : decode cX12_readsPool 195 = .ok (.sipush 999, 3) := by decide +kernel
theorem dX12_readsPool_198 : decode cX12_readsPool 198 = .ok (.invokevirtual 223, 3) := by decide +kernel
theorem dX12_readsPool_201 : decode cX12_readsPool 201 = .ok (.iastore, 1) := by decide +kernel
theorem dX12_readsPool_202 : decode cX12_readsPool 202 = .ok (.aload_n 0, 1) := by decide +kernel
theorem dX12_readsPool_203 : decode cX12_readsPool 203 = .ok (.getfield 53, 3) := by decide +kernel
theorem dX12_readsPool_206 : decode cX12_readsPool 206 = .ok (.iload_n 1, 1) := by decide +kernel
theorem dX12_readsPool_207 : decode cX12_readsPool 207 = .ok (.bipush 8, 2) := by decide +kernel
theorem dX12_readsPool_209 : decode cX12_readsPool 209 = .ok (.iadd, 1) := by decide +kernel
theorem dX12_readsPool_210 : decode cX12_readsPool 210 = .ok (.aload_n 0, 1) := by decide +kernel
theorem dX12_readsPool_211 : decode cX12_readsPool 211 = .ok (.bipush 12, 2) := by decide +kernel
theorem dX12_readsPool_213 : decode cX12_readsPool 213 = .ok (.iconst 0, 1) := by decide +kernel
theorem dX12_readsPool_214 : decode cX12_readsPool 214 = .ok (.aload_n 0, 1) := by decide +kernel
theorem dX12_readsPool_215 : decode cX12_readsPool 215 = .ok (.getfield 53, 3) := by decide +kernel
theorem dX12_readsPool_218 : decode cX12_readsPool 218 = .ok (.iload_n 1, 1) := by decide +kernel
theorem dX12_readsPool_219 : decode cX12_readsPool 219 = .ok (.iconst 4, 1) := by decide +kernel
theorem dX12_readsPool_220 : decode cX12_readsPool 220 = .ok (.iadd, 1) := by decide +kernel
theorem dX12_readsPool_221 : decode cX12_readsPool 221 = .ok (.iaload, 1) := by decide +kernel
theorem dX12_readsPool_222 : decode cX12_readsPool 222 = .ok (.invokevirtual 223, 3) := by decide +kernel
theorem dX12_readsPool_225 : decode cX12_readsPool 225 = .ok (.iastore, 1) := by decide +kernel
theorem dX12_readsPool_226 : decode cX12_readsPool 226 = .ok (.aload_n 0, 1) := by decide +kernel
theorem dX12_readsPool_227 : decode cX12_readsPool 227 = .ok (.dup, 1) := by decide +kernel
theorem dX12_readsPool_228 : decode cX12_readsPool 228 = .ok (.getfield 35, 3) := by decide +kernel
theorem dX12_readsPool_231 : decode cX12_readsPool 231 = .ok (.iconst 1, 1) := by decide +kernel
theorem dX12_readsPool_232 : decode cX12_readsPool 232 = .ok (.iadd, 1) := by decide +kernel
theorem dX12_readsPool_233 : decode cX12_readsPool 233 = .ok (.putfield 35, 3) := by decide +kernel
theorem dX12_readsPool_236 : decode cX12_readsPool 236 = .ok (.return_, 1) := by decide +kernel
abbrev rm_M_readsPool : Room := { frames := 5, cells := 0, slots := 0, locals := 106 }
def M_readsPool_j18 (σ : Sg)  : Option Sg :=
  (M_goesWell σ).bind fun r19 =>
  if (zb r19) = 0 then (
    some σ
  ) else (
    zgt σ 171 8 fun v32 =>
    (M_freshName σ 181 48 v32).bind fun r35 =>
    zgt r35 171 8 fun v41 =>
    zlt (9 * v41) fun v45 =>
    (M_after r35 4 0 9999).bind fun r60 =>
    zwr r60.2 177 72 (v45 + 6) r60.1 fun σ63 =>
    (M_after σ63 5 0 9999).bind fun r77 =>
    zwr r77.2 177 72 (v45 + 0) r77.1 fun σ80 =>
    zrd σ80 177 72 (v45 + 0) fun v98 =>
    (M_after σ80 6 v98 9999).bind fun r102 =>
    zwr r102.2 177 72 (v45 + 1) r102.1 fun σ105 =>
    zrd σ105 177 72 (v45 + 1) fun v123 =>
    (M_after σ105 7 v123 9999).bind fun r127 =>
    zwr r127.2 177 72 (v45 + 2) r127.1 fun σ130 =>
    (M_after σ130 8 0 9).bind fun r144 =>
    zwr r144.2 177 72 (v45 + 3) r144.1 fun σ147 =>
    (M_after σ147 9 0 99).bind fun r162 =>
    zwr r162.2 177 72 (v45 + 7) r162.1 fun σ165 =>
    (M_after σ165 10 0 999).bind fun r180 =>
    zwr r180.2 177 72 (v45 + 4) r180.1 fun σ183 =>
    (M_after σ183 11 1 999).bind fun r198 =>
    zwr r198.2 177 72 (v45 + 5) r198.1 fun σ201 =>
    zrd σ201 177 72 (v45 + 4) fun v221 =>
    (M_after σ201 12 0 v221).bind fun r222 =>
    zwr r222.2 177 72 (v45 + 8) r222.1 fun σ225 =>
    zgt σ225 171 8 fun v228 =>
    zpt σ225 171 8 (v228 + 1) fun σ233 =>
    some σ233
  )
set_option maxRecDepth 20000 in
theorem t_M_readsPool_j18 {X : Zx} {Q : State → Prop} {σ : Sg}  (ok : Zok X cX12_readsPool RX12 rm_M_readsPool 198 2)  {out : Sg} (hf : M_readsPool_j18 σ = some out) (hk : ZrV cX12_readsPool X Q out) : ZAt X Q 0 0 18 σ [(0, .ref (X.ad 171))] [] := by
  unfold M_readsPool_j18 at hf
  refine z_aload_n ok dX12_readsPool_18 0 rfl ?_
  refine z_call hf (fun r19 h19 hf => ?_)
  refine z_cV (As := []) (rest := []) (w := 171) ok kc_171 zc_12 (c_M_goesWell h19) rfl ⟨ml_12_174, w_M_goesWell⟩ hy_M_goesWell ⟨rfl, rfl⟩ ⟨Nat.le_of_ble_eq_true rfl, Nat.le_of_ble_eq_true rfl⟩ ⟨Nat.zero_le _, Nat.zero_le _⟩ rfl (Nat.le_of_ble_eq_true rfl) dX12_readsPool_19 ?_
  refine z_if_ne (tgt := 26) ok dX12_readsPool_22 (by decide) hf (fun _ hf => ?_) (fun _ hf => ?_)
  · obtain rfl := Option.some.inj hf
    exact hk _ _ dX12_readsPool_25
  · refine z_aload_n ok dX12_readsPool_26 0 rfl ?_
    refine z_aload_n ok dX12_readsPool_27 0 rfl ?_
    refine z_getr (q := 181) ok kc_171 zc_12 hin_12 18 (by decide) fl_12_65 rfl dX12_readsPool_28 ?_
    refine z_aload_n ok dX12_readsPool_31 0 rfl ?_
    refine z_geti ok kc_171 zc_12 hin_12 8 (by decide) fl_12_35 rfl dX12_readsPool_32 hf (fun v32 hf => ?_)
    refine z_call hf (fun r35 h35 hf => ?_)
    refine z_cVv (As := [.ref (X.ad 181), .int v32]) (rest := []) (w := 171) ok kc_171 zc_12 (c_M_freshName kc_181 h35) rfl ⟨ml_12_219, w_M_freshName⟩ hy_M_freshName ⟨rfl, rfl⟩ ⟨Nat.le_of_ble_eq_true rfl, Nat.le_of_ble_eq_true rfl⟩ ⟨Nat.zero_le _, Nat.zero_le _⟩ rfl (Nat.le_of_ble_eq_true rfl) dX12_readsPool_35 ?_
    refine z_bipush (v := 9) ok dX12_readsPool_38 (by decide) ?_
    refine z_aload_n ok dX12_readsPool_40 0 rfl ?_
    refine z_geti ok kc_171 zc_12 hin_12 8 (by decide) fl_12_35 rfl dX12_readsPool_41 hf (fun v41 hf => ?_)
    refine z_imul ok dX12_readsPool_44 ?_
    refine z_nm hf (fun v45 hf => ?_)
    refine z_istore_n (lv' := [(1, .int v45), (0, .ref (X.ad 171))]) ok dX12_readsPool_45 (by decide) rfl ?_
    refine z_aload_n ok dX12_readsPool_46 1 rfl ?_
    refine z_getr (q := 177) ok kc_171 zc_12 hin_12 14 (by decide) fl_12_53 rfl dX12_readsPool_47 ?_
    refine z_iload_n ok dX12_readsPool_50 0 rfl ?_
    refine z_bipush (v := 6) ok dX12_readsPool_51 (by decide) ?_
    refine z_iadd ok dX12_readsPool_53 ?_
    refine z_aload_n ok dX12_readsPool_54 1 rfl ?_
    refine z_iconst (v := 4) ok dX12_readsPool_55 (by decide) ?_
    refine z_iconst (v := 0) ok dX12_readsPool_56 (by decide) ?_
    refine z_sipush (v := 9999) ok dX12_readsPool_57 (by decide) ?_
    refine z_call hf (fun r60 h60 hf => ?_)
    refine z_cV (As := [.int 4, .int 0, .int 9999]) (rest := [.int (v45 + 6), .ref (X.ad 177)]) (w := 171) ok kc_171 zc_12 (c_M_after h60) rfl ⟨ml_12_223, w_M_after⟩ hy_M_after ⟨rfl, rfl⟩ ⟨Nat.le_of_ble_eq_true rfl, Nat.le_of_ble_eq_true rfl⟩ ⟨Nat.zero_le _, Nat.zero_le _⟩ rfl (Nat.le_of_ble_eq_true rfl) dX12_readsPool_60 ?_
    refine z_iast ok kc_177 dX12_readsPool_63 hf (fun σ63 hf => ?_)
    refine z_aload_n ok dX12_readsPool_64 1 rfl ?_
    refine z_getr (q := 177) ok kc_171 zc_12 hin_12 14 (by decide) fl_12_53 rfl dX12_readsPool_65 ?_
    refine z_iload_n ok dX12_readsPool_68 0 rfl ?_
    refine z_iconst (v := 0) ok dX12_readsPool_69 (by decide) ?_
    refine z_iadd ok dX12_readsPool_70 ?_
    refine z_aload_n ok dX12_readsPool_71 1 rfl ?_
    refine z_iconst (v := 5) ok dX12_readsPool_72 (by decide) ?_
    refine z_iconst (v := 0) ok dX12_readsPool_73 (by decide) ?_
    refine z_sipush (v := 9999) ok dX12_readsPool_74 (by decide) ?_
    refine z_call hf (fun r77 h77 hf => ?_)
    refine z_cV (As := [.int 5, .int 0, .int 9999]) (rest := [.int (v45 + 0), .ref (X.ad 177)]) (w := 171) ok kc_171 zc_12 (c_M_after h77) rfl ⟨ml_12_223, w_M_after⟩ hy_M_after ⟨rfl, rfl⟩ ⟨Nat.le_of_ble_eq_true rfl, Nat.le_of_ble_eq_true rfl⟩ ⟨Nat.zero_le _, Nat.zero_le _⟩ rfl (Nat.le_of_ble_eq_true rfl) dX12_readsPool_77 ?_
    refine z_iast ok kc_177 dX12_readsPool_80 hf (fun σ80 hf => ?_)
    refine z_aload_n ok dX12_readsPool_81 1 rfl ?_
    refine z_getr (q := 177) ok kc_171 zc_12 hin_12 14 (by decide) fl_12_53 rfl dX12_readsPool_82 ?_
    refine z_iload_n ok dX12_readsPool_85 0 rfl ?_
    refine z_iconst (v := 1) ok dX12_readsPool_86 (by decide) ?_
    refine z_iadd ok dX12_readsPool_87 ?_
    refine z_aload_n ok dX12_readsPool_88 1 rfl ?_
    refine z_bipush (v := 6) ok dX12_readsPool_89 (by decide) ?_
    refine z_aload_n ok dX12_readsPool_91 1 rfl ?_
    refine z_getr (q := 177) ok kc_171 zc_12 hin_12 14 (by decide) fl_12_53 rfl dX12_readsPool_92 ?_
    refine z_iload_n ok dX12_readsPool_95 0 rfl ?_
    refine z_iconst (v := 0) ok dX12_readsPool_96 (by decide) ?_
    refine z_iadd ok dX12_readsPool_97 ?_
    refine z_iald ok kc_177 dX12_readsPool_98 hf (fun v98 hf => ?_)
    refine z_sipush (v := 9999) ok dX12_readsPool_99 (by decide) ?_
    refine z_call hf (fun r102 h102 hf => ?_)
    refine z_cV (As := [.int 6, .int v98, .int 9999]) (rest := [.int (v45 + 1), .ref (X.ad 177)]) (w := 171) ok kc_171 zc_12 (c_M_after h102) rfl ⟨ml_12_223, w_M_after⟩ hy_M_after ⟨rfl, rfl⟩ ⟨Nat.le_of_ble_eq_true rfl, Nat.le_of_ble_eq_true rfl⟩ ⟨Nat.zero_le _, Nat.zero_le _⟩ rfl (Nat.le_of_ble_eq_true rfl) dX12_readsPool_102 ?_
    refine z_iast ok kc_177 dX12_readsPool_105 hf (fun σ105 hf => ?_)
    refine z_aload_n ok dX12_readsPool_106 1 rfl ?_
    refine z_getr (q := 177) ok kc_171 zc_12 hin_12 14 (by decide) fl_12_53 rfl dX12_readsPool_107 ?_
    refine z_iload_n ok dX12_readsPool_110 0 rfl ?_
    refine z_iconst (v := 2) ok dX12_readsPool_111 (by decide) ?_
    refine z_iadd ok dX12_readsPool_112 ?_
    refine z_aload_n ok dX12_readsPool_113 1 rfl ?_
    refine z_bipush (v := 7) ok dX12_readsPool_114 (by decide) ?_
    refine z_aload_n ok dX12_readsPool_116 1 rfl ?_
    refine z_getr (q := 177) ok kc_171 zc_12 hin_12 14 (by decide) fl_12_53 rfl dX12_readsPool_117 ?_
    refine z_iload_n ok dX12_readsPool_120 0 rfl ?_
    refine z_iconst (v := 1) ok dX12_readsPool_121 (by decide) ?_
    refine z_iadd ok dX12_readsPool_122 ?_
    refine z_iald ok kc_177 dX12_readsPool_123 hf (fun v123 hf => ?_)
    refine z_sipush (v := 9999) ok dX12_readsPool_124 (by decide) ?_
    refine z_call hf (fun r127 h127 hf => ?_)
    refine z_cV (As := [.int 7, .int v123, .int 9999]) (rest := [.int (v45 + 2), .ref (X.ad 177)]) (w := 171) ok kc_171 zc_12 (c_M_after h127) rfl ⟨ml_12_223, w_M_after⟩ hy_M_after ⟨rfl, rfl⟩ ⟨Nat.le_of_ble_eq_true rfl, Nat.le_of_ble_eq_true rfl⟩ ⟨Nat.zero_le _, Nat.zero_le _⟩ rfl (Nat.le_of_ble_eq_true rfl) dX12_readsPool_127 ?_
    refine z_iast ok kc_177 dX12_readsPool_130 hf (fun σ130 hf => ?_)
    refine z_aload_n ok dX12_readsPool_131 1 rfl ?_
    refine z_getr (q := 177) ok kc_171 zc_12 hin_12 14 (by decide) fl_12_53 rfl dX12_readsPool_132 ?_
    refine z_iload_n ok dX12_readsPool_135 0 rfl ?_
    refine z_iconst (v := 3) ok dX12_readsPool_136 (by decide) ?_
    refine z_iadd ok dX12_readsPool_137 ?_
    refine z_aload_n ok dX12_readsPool_138 1 rfl ?_
    refine z_bipush (v := 8) ok dX12_readsPool_139 (by decide) ?_
    refine z_iconst (v := 0) ok dX12_readsPool_141 (by decide) ?_
    refine z_bipush (v := 9) ok dX12_readsPool_142 (by decide) ?_
    refine z_call hf (fun r144 h144 hf => ?_)
    refine z_cV (As := [.int 8, .int 0, .int 9]) (rest := [.int (v45 + 3), .ref (X.ad 177)]) (w := 171) ok kc_171 zc_12 (c_M_after h144) rfl ⟨ml_12_223, w_M_after⟩ hy_M_after ⟨rfl, rfl⟩ ⟨Nat.le_of_ble_eq_true rfl, Nat.le_of_ble_eq_true rfl⟩ ⟨Nat.zero_le _, Nat.zero_le _⟩ rfl (Nat.le_of_ble_eq_true rfl) dX12_readsPool_144 ?_
    refine z_iast ok kc_177 dX12_readsPool_147 hf (fun σ147 hf => ?_)
    refine z_aload_n ok dX12_readsPool_148 1 rfl ?_
    refine z_getr (q := 177) ok kc_171 zc_12 hin_12 14 (by decide) fl_12_53 rfl dX12_readsPool_149 ?_
    refine z_iload_n ok dX12_readsPool_152 0 rfl ?_
    refine z_bipush (v := 7) ok dX12_readsPool_153 (by decide) ?_
    refine z_iadd ok dX12_readsPool_155 ?_
    refine z_aload_n ok dX12_readsPool_156 1 rfl ?_
    refine z_bipush (v := 9) ok dX12_readsPool_157 (by decide) ?_
    refine z_iconst (v := 0) ok dX12_readsPool_159 (by decide) ?_
    refine z_bipush (v := 99) ok dX12_readsPool_160 (by decide) ?_
    refine z_call hf (fun r162 h162 hf => ?_)
    refine z_cV (As := [.int 9, .int 0, .int 99]) (rest := [.int (v45 + 7), .ref (X.ad 177)]) (w := 171) ok kc_171 zc_12 (c_M_after h162) rfl ⟨ml_12_223, w_M_after⟩ hy_M_after ⟨rfl, rfl⟩ ⟨Nat.le_of_ble_eq_true rfl, Nat.le_of_ble_eq_true rfl⟩ ⟨Nat.zero_le _, Nat.zero_le _⟩ rfl (Nat.le_of_ble_eq_true rfl) dX12_readsPool_162 ?_
    refine z_iast ok kc_177 dX12_readsPool_165 hf (fun σ165 hf => ?_)
    refine z_aload_n ok dX12_readsPool_166 1 rfl ?_
    refine z_getr (q := 177) ok kc_171 zc_12 hin_12 14 (by decide) fl_12_53 rfl dX12_readsPool_167 ?_
    refine z_iload_n ok dX12_readsPool_170 0 rfl ?_
    refine z_iconst (v := 4) ok dX12_readsPool_171 (by decide) ?_
    refine z_iadd ok dX12_readsPool_172 ?_
    refine z_aload_n ok dX12_readsPool_173 1 rfl ?_
    refine z_bipush (v := 10) ok dX12_readsPool_174 (by decide) ?_
    refine z_iconst (v := 0) ok dX12_readsPool_176 (by decide) ?_
    refine z_sipush (v := 999) ok dX12_readsPool_177 (by decide) ?_
    refine z_call hf (fun r180 h180 hf => ?_)
    refine z_cV (As := [.int 10, .int 0, .int 999]) (rest := [.int (v45 + 4), .ref (X.ad 177)]) (w := 171) ok kc_171 zc_12 (c_M_after h180) rfl ⟨ml_12_223, w_M_after⟩ hy_M_after ⟨rfl, rfl⟩ ⟨Nat.le_of_ble_eq_true rfl, Nat.le_of_ble_eq_true rfl⟩ ⟨Nat.zero_le _, Nat.zero_le _⟩ rfl (Nat.le_of_ble_eq_true rfl) dX12_readsPool_180 ?_
    refine z_iast ok kc_177 dX12_readsPool_183 hf (fun σ183 hf => ?_)
    refine z_aload_n ok dX12_readsPool_184 1 rfl ?_
    refine z_getr (q := 177) ok kc_171 zc_12 hin_12 14 (by decide) fl_12_53 rfl dX12_readsPool_185 ?_
    refine z_iload_n ok dX12_readsPool_188 0 rfl ?_
    refine z_iconst (v := 5) ok dX12_readsPool_189 (by decide) ?_
    refine z_iadd ok dX12_readsPool_190 ?_
    refine z_aload_n ok dX12_readsPool_191 1 rfl ?_
    refine z_bipush (v := 11) ok dX12_readsPool_192 (by decide) ?_
    refine z_iconst (v := 1) ok dX12_readsPool_194 (by decide) ?_
    refine z_sipush (v := 999) ok dX12_readsPool_195 (by decide) ?_
    refine z_call hf (fun r198 h198 hf => ?_)
    refine z_cV (As := [.int 11, .int 1, .int 999]) (rest := [.int (v45 + 5), .ref (X.ad 177)]) (w := 171) ok kc_171 zc_12 (c_M_after h198) rfl ⟨ml_12_223, w_M_after⟩ hy_M_after ⟨rfl, rfl⟩ ⟨Nat.le_of_ble_eq_true rfl, Nat.le_of_ble_eq_true rfl⟩ ⟨Nat.zero_le _, Nat.zero_le _⟩ rfl (Nat.le_of_ble_eq_true rfl) dX12_readsPool_198 ?_
    refine z_iast ok kc_177 dX12_readsPool_201 hf (fun σ201 hf => ?_)
    refine z_aload_n ok dX12_readsPool_202 1 rfl ?_
    refine z_getr (q := 177) ok kc_171 zc_12 hin_12 14 (by decide) fl_12_53 rfl dX12_readsPool_203 ?_
    refine z_iload_n ok dX12_readsPool_206 0 rfl ?_
    refine z_bipush (v := 8) ok dX12_readsPool_207 (by decide) ?_
    refine z_iadd ok dX12_readsPool_209 ?_
    refine z_aload_n ok dX12_readsPool_210 1 rfl ?_
    refine z_bipush (v := 12) ok dX12_readsPool_211 (by decide) ?_
    refine z_iconst (v := 0) ok dX12_readsPool_213 (by decide) ?_
    refine z_aload_n ok dX12_readsPool_214 1 rfl ?_
    refine z_getr (q := 177) ok kc_171 zc_12 hin_12 14 (by decide) fl_12_53 rfl dX12_readsPool_215 ?_
    refine z_iload_n ok dX12_readsPool_218 0 rfl ?_
    refine z_iconst (v := 4) ok dX12_readsPool_219 (by decide) ?_
    refine z_iadd ok dX12_readsPool_220 ?_
    refine z_iald ok kc_177 dX12_readsPool_221 hf (fun v221 hf => ?_)
    refine z_call hf (fun r222 h222 hf => ?_)
    refine z_cV (As := [.int 12, .int 0, .int v221]) (rest := [.int (v45 + 8), .ref (X.ad 177)]) (w := 171) ok kc_171 zc_12 (c_M_after h222) rfl ⟨ml_12_223, w_M_after⟩ hy_M_after ⟨rfl, rfl⟩ ⟨Nat.le_of_ble_eq_true rfl, Nat.le_of_ble_eq_true rfl⟩ ⟨Nat.zero_le _, Nat.zero_le _⟩ rfl (Nat.le_of_ble_eq_true rfl) dX12_readsPool_222 ?_
    refine z_iast ok kc_177 dX12_readsPool_225 hf (fun σ225 hf => ?_)
    refine z_aload_n ok dX12_readsPool_226 1 rfl ?_
    refine z_dup ok dX12_readsPool_227 rfl ?_
    refine z_geti ok kc_171 zc_12 hin_12 8 (by decide) fl_12_35 rfl dX12_readsPool_228 hf (fun v228 hf => ?_)
    refine z_iconst (v := 1) ok dX12_readsPool_231 (by decide) ?_
    refine z_iadd ok dX12_readsPool_232 ?_
    refine z_puti ok kc_171 zc_12 hin_12 tyX12 tyX12_ok nmX12 8 (by decide) fl_12_35 rfl rfl (tyX12_ok 8 (by decide)) dX12_readsPool_233 hf (fun σ233 hf => ?_)
    obtain rfl := Option.some.inj hf
    exact hk _ _ dX12_readsPool_236
def M_readsPool (σ : Sg)  : Option Sg :=
  zgt σ 171 8 fun v1 =>
  if v1 = 8 then (
    zgt σ 171 34 fun v12 =>
    (M_faults σ 5 v12).bind fun r15 =>
    M_readsPool_j18 r15
  ) else (
    M_readsPool_j18 σ
  )
set_option maxRecDepth 20000 in
theorem t_M_readsPool {X : Zx} {Q : State → Prop} {σ : Sg}  (ok : Zok X cX12_readsPool RX12 rm_M_readsPool 198 2)  {out : Sg} (hf : M_readsPool σ = some out) (hk : ZrV cX12_readsPool X Q out) : ZAt X Q 0 0 0 σ [(0, .ref (X.ad 171))] [] := by
  unfold M_readsPool at hf
  refine z_aload_n ok dX12_readsPool_0 0 rfl ?_
  refine z_geti ok kc_171 zc_12 hin_12 8 (by decide) fl_12_35 rfl dX12_readsPool_1 hf (fun v1 hf => ?_)
  refine z_bipush (v := 8) ok dX12_readsPool_4 (by decide) ?_
  refine z_icmp_ne (tgt := 18) ok dX12_readsPool_6 (by decide) hf (fun _ hf => ?_) (fun _ hf => ?_)
  · refine z_aload_n ok dX12_readsPool_9 0 rfl ?_
    refine z_iconst (v := 5) ok dX12_readsPool_10 (by decide) ?_
    refine z_aload_n ok dX12_readsPool_11 0 rfl ?_
    refine z_geti ok kc_171 zc_12 hin_12 34 (by decide) fl_12_114 rfl dX12_readsPool_12 hf (fun v12 hf => ?_)
    refine z_call hf (fun r15 h15 hf => ?_)
    refine z_cVv (As := [.int 5, .int v12]) (rest := []) (w := 171) ok kc_171 zc_12 (c_M_faults h15) rfl ⟨ml_12_188, w_M_faults⟩ hy_M_faults ⟨rfl, rfl⟩ ⟨Nat.le_of_ble_eq_true rfl, Nat.le_of_ble_eq_true rfl⟩ ⟨Nat.zero_le _, Nat.zero_le _⟩ rfl (Nat.le_of_ble_eq_true rfl) dX12_readsPool_15 ?_
    exact z_sub [0] rfl (t_M_readsPool_j18 ok hf hk)
  · exact z_sub [0] rfl (t_M_readsPool_j18 ok hf hk)
theorem c_M_readsPool {σ : Sg} {r : Sg} (h : M_readsPool σ = some r) : ZcV yX12_readsPool cX12_readsPool 2 rm_M_readsPool 198 (fun ad => [.ref (ad 171)]) σ r :=
  zmetV pn_12 rfl (fun _ => rfl) (fun _ => Nat.le_of_ble_eq_true rfl) (fun X Q ok hk => t_M_readsPool ok h hk)
