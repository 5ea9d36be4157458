theorem wl_12_378 : Cond.constantLong RX12 378 1103515245 ∈ zT := zT_of (i := 1958) (by decide +kernel) rfl
theorem wl_12_380 : Cond.constantLong RX12 380 12345 ∈ zT := zT_of (i := 1959) (by decide +kernel) rfl
theorem wl_12_382 : Cond.constantLong RX12 382 2147483648 ∈ zT := zT_of (i := 1960) (by decide +kernel) rfl
theorem fl_12_77 : Cond.fieldLink RX12 77 (TX12 22).1 (TX12 22).2.1 (TX12 22).2.2.1 ∈ zT := zT_of (i := 1421) (by decide +kernel) rfl
theorem ml_12_372 : Cond.methodLink RX12 372 yX12_laysFits ∈ zT := zT_of (i := 1934) (by decide +kernel) rfl
theorem ml_12_375 : Cond.methodLink RX12 375 yX12_remembers ∈ zT := zT_of (i := 1946) (by decide +kernel) rfl
theorem ml_12_384 : Cond.methodLink RX12 384 yX12_draw ∈ zT := zT_of (i := 1954) (by decide +kernel) rfl
theorem ml_12_387 : Cond.methodLink RX12 387 yX12_rains ∈ zT := zT_of (i := 1961) (by decide +kernel) rfl
theorem w_M_ask : Cond.instanceMethod yX12_ask ∈ zT ∧ Cond.selects yX12_ask.cls yX12_ask yX12_ask ∈ zT ∧ Cond.initialized yX12_ask.cls ∈ zT ∧ Cond.code yX12_ask cX12_ask 4 (some .int) ∈ zT := ⟨zT_of (i := 1966) (by decide +kernel) rfl, zT_of (i := 1967) (by decide +kernel) rfl, zT_of (i := 135) (by decide +kernel) rfl, zT_of (i := 1968) (by decide +kernel) rfl⟩
theorem hy_M_ask : yX12_ask.cls ≠ "java/lang/invoke/MethodHandle" ∧ yX12_ask.cls ≠ "java/lang/invoke/VarHandle" ∧ (parseMethodDescriptor yX12_ask.desc).map (fun d => d.parameters.length) = some 3 := by decide +kernel
theorem w_M_cancel : Cond.instanceMethod yX12_cancel ∈ zT ∧ Cond.selects yX12_cancel.cls yX12_cancel yX12_cancel ∈ zT ∧ Cond.initialized yX12_cancel.cls ∈ zT ∧ Cond.code yX12_cancel cX12_cancel 3 (some .boolean) ∈ zT := ⟨zT_of (i := 1970) (by decide +kernel) rfl, zT_of (i := 1971) (by decide +kernel) rfl, zT_of (i := 135) (by decide +kernel) rfl, zT_of (i := 1972) (by decide +kernel) rfl⟩
theorem hy_M_cancel : yX12_cancel.cls ≠ "java/lang/invoke/MethodHandle" ∧ yX12_cancel.cls ≠ "java/lang/invoke/VarHandle" ∧ (parseMethodDescriptor yX12_cancel.desc).map (fun d => d.parameters.length) = some 1 := by decide +kernel
theorem w_M_chance : Cond.instanceMethod yX12_chance ∈ zT ∧ Cond.selects yX12_chance.cls yX12_chance yX12_chance ∈ zT ∧ Cond.initialized yX12_chance.cls ∈ zT ∧ Cond.code yX12_chance cX12_chance 4 (some .int) ∈ zT := ⟨zT_of (i := 1951) (by decide +kernel) rfl, zT_of (i := 1952) (by decide +kernel) rfl, zT_of (i := 135) (by decide +kernel) rfl, zT_of (i := 1953) (by decide +kernel) rfl⟩
theorem hy_M_chance : yX12_chance.cls ≠ "java/lang/invoke/MethodHandle" ∧ yX12_chance.cls ≠ "java/lang/invoke/VarHandle" ∧ (parseMethodDescriptor yX12_chance.desc).map (fun d => d.parameters.length) = some 1 := by decide +kernel
theorem w_M_draw : Cond.instanceMethod yX12_draw ∈ zT ∧ Cond.selects yX12_draw.cls yX12_draw yX12_draw ∈ zT ∧ Cond.initialized yX12_draw.cls ∈ zT ∧ Cond.code yX12_draw cX12_draw 2 (some .int) ∈ zT := ⟨zT_of (i := 1956) (by decide +kernel) rfl, zT_of (i := 120) (by decide +kernel) rfl, zT_of (i := 135) (by decide +kernel) rfl, zT_of (i := 1957) (by decide +kernel) rfl⟩
theorem hy_M_draw : yX12_draw.cls ≠ "java/lang/invoke/MethodHandle" ∧ yX12_draw.cls ≠ "java/lang/invoke/VarHandle" ∧ (parseMethodDescriptor yX12_draw.desc).map (fun d => d.parameters.length) = some 1 := by decide +kernel
theorem w_M_hand : Cond.instanceMethod yX12_hand ∈ zT ∧ Cond.selects yX12_hand.cls yX12_hand yX12_hand ∈ zT ∧ Cond.initialized yX12_hand.cls ∈ zT ∧ Cond.code yX12_hand cX12_hand 3 (some .boolean) ∈ zT := ⟨zT_of (i := 1974) (by decide +kernel) rfl, zT_of (i := 1975) (by decide +kernel) rfl, zT_of (i := 135) (by decide +kernel) rfl, zT_of (i := 1976) (by decide +kernel) rfl⟩
theorem hy_M_hand : yX12_hand.cls ≠ "java/lang/invoke/MethodHandle" ∧ yX12_hand.cls ≠ "java/lang/invoke/VarHandle" ∧ (parseMethodDescriptor yX12_hand.desc).map (fun d => d.parameters.length) = some 2 := by decide +kernel
theorem w_M_leaks : Cond.instanceMethod yX12_leaks ∈ zT ∧ Cond.selects yX12_leaks.cls yX12_leaks yX12_leaks ∈ zT ∧ Cond.initialized yX12_leaks.cls ∈ zT ∧ Cond.code yX12_leaks cX12_leaks 5 (some .int) ∈ zT := ⟨zT_of (i := 1931) (by decide +kernel) rfl, zT_of (i := 1932) (by decide +kernel) rfl, zT_of (i := 135) (by decide +kernel) rfl, zT_of (i := 1933) (by decide +kernel) rfl⟩
theorem hy_M_leaks : yX12_leaks.cls ≠ "java/lang/invoke/MethodHandle" ∧ yX12_leaks.cls ≠ "java/lang/invoke/VarHandle" ∧ (parseMethodDescriptor yX12_leaks.desc).map (fun d => d.parameters.length) = some 1 := by decide +kernel
theorem w_M_rains : Cond.instanceMethod yX12_rains ∈ zT ∧ Cond.selects yX12_rains.cls yX12_rains yX12_rains ∈ zT ∧ Cond.initialized yX12_rains.cls ∈ zT ∧ Cond.code yX12_rains cX12_rains 3 none ∈ zT := ⟨zT_of (i := 1963) (by decide +kernel) rfl, zT_of (i := 121) (by decide +kernel) rfl, zT_of (i := 135) (by decide +kernel) rfl, zT_of (i := 1964) (by decide +kernel) rfl⟩
theorem hy_M_rains : yX12_rains.cls ≠ "java/lang/invoke/MethodHandle" ∧ yX12_rains.cls ≠ "java/lang/invoke/VarHandle" ∧ (parseMethodDescriptor yX12_rains.desc).map (fun d => d.parameters.length) = some 2 := by decide +kernel
theorem w_M_remembers : Cond.instanceMethod yX12_remembers ∈ zT ∧ Cond.selects yX12_remembers.cls yX12_remembers yX12_remembers ∈ zT ∧ Cond.initialized yX12_remembers.cls ∈ zT ∧ Cond.code yX12_remembers cX12_remembers 2 none ∈ zT := ⟨zT_of (i := 1948) (by decide +kernel) rfl, zT_of (i := 119) (by decide +kernel) rfl, zT_of (i := 135) (by decide +kernel) rfl, zT_of (i := 1949) (by decide +kernel) rfl⟩
theorem hy_M_remembers : yX12_remembers.cls ≠ "java/lang/invoke/MethodHandle" ∧ yX12_remembers.cls ≠ "java/lang/invoke/VarHandle" ∧ (parseMethodDescriptor yX12_remembers.desc).map (fun d => d.parameters.length) = some 0 := by decide +kernel
theorem w_M_seed : Cond.instanceMethod yX12_seed ∈ zT ∧ Cond.selects yX12_seed.cls yX12_seed yX12_seed ∈ zT ∧ Cond.initialized yX12_seed.cls ∈ zT ∧ Cond.code yX12_seed cX12_seed 2 (some .boolean) ∈ zT := ⟨zT_of (i := 1986) (by decide +kernel) rfl, zT_of (i := 1987) (by decide +kernel) rfl, zT_of (i := 135) (by decide +kernel) rfl, zT_of (i := 1988) (by decide +kernel) rfl⟩
theorem hy_M_seed : yX12_seed.cls ≠ "java/lang/invoke/MethodHandle" ∧ yX12_seed.cls ≠ "java/lang/invoke/VarHandle" ∧ (parseMethodDescriptor yX12_seed.desc).map (fun d => d.parameters.length) = some 1 := by decide +kernel
theorem w_M_set : Cond.instanceMethod yX12_set ∈ zT ∧ Cond.selects yX12_set.cls yX12_set yX12_set ∈ zT ∧ Cond.initialized yX12_set.cls ∈ zT ∧ Cond.code yX12_set cX12_set 6 (some .boolean) ∈ zT := ⟨zT_of (i := 1978) (by decide +kernel) rfl, zT_of (i := 1979) (by decide +kernel) rfl, zT_of (i := 135) (by decide +kernel) rfl, zT_of (i := 1980) (by decide +kernel) rfl⟩
theorem hy_M_set : yX12_set.cls ≠ "java/lang/invoke/MethodHandle" ∧ yX12_set.cls ≠ "java/lang/invoke/VarHandle" ∧ (parseMethodDescriptor yX12_set.desc).map (fun d => d.parameters.length) = some 3 := by decide +kernel
theorem w_M_status : Cond.instanceMethod yX12_status ∈ zT ∧ Cond.selects yX12_status.cls yX12_status yX12_status ∈ zT ∧ Cond.initialized yX12_status.cls ∈ zT ∧ Cond.code yX12_status cX12_status 2 (some .int) ∈ zT := ⟨zT_of (i := 1990) (by decide +kernel) rfl, zT_of (i := 1991) (by decide +kernel) rfl, zT_of (i := 135) (by decide +kernel) rfl, zT_of (i := 1992) (by decide +kernel) rfl⟩
theorem hy_M_status : yX12_status.cls ≠ "java/lang/invoke/MethodHandle" ∧ yX12_status.cls ≠ "java/lang/invoke/VarHandle" ∧ (parseMethodDescriptor yX12_status.desc).map (fun d => d.parameters.length) = some 1 := by decide +kernel
theorem w_M_steps : Cond.instanceMethod yX12_steps ∈ zT ∧ Cond.selects yX12_steps.cls yX12_steps yX12_steps ∈ zT ∧ Cond.initialized yX12_steps.cls ∈ zT ∧ Cond.code yX12_steps cX12_steps 3 (some .int) ∈ zT := ⟨zT_of (i := 1943) (by decide +kernel) rfl, zT_of (i := 1944) (by decide +kernel) rfl, zT_of (i := 135) (by decide +kernel) rfl, zT_of (i := 1945) (by decide +kernel) rfl⟩
theorem hy_M_steps : yX12_steps.cls ≠ "java/lang/invoke/MethodHandle" ∧ yX12_steps.cls ≠ "java/lang/invoke/VarHandle" ∧ (parseMethodDescriptor yX12_steps.desc).map (fun d => d.parameters.length) = some 1 := by decide +kernel
theorem w_M_tells : Cond.instanceMethod yX12_tells ∈ zT ∧ Cond.selects yX12_tells.cls yX12_tells yX12_tells ∈ zT ∧ Cond.initialized yX12_tells.cls ∈ zT ∧ Cond.code yX12_tells cX12_tells 9 (some .int) ∈ zT := ⟨zT_of (i := 1939) (by decide +kernel) rfl, zT_of (i := 1940) (by decide +kernel) rfl, zT_of (i := 135) (by decide +kernel) rfl, zT_of (i := 1941) (by decide +kernel) rfl⟩
theorem hy_M_tells : yX12_tells.cls ≠ "java/lang/invoke/MethodHandle" ∧ yX12_tells.cls ≠ "java/lang/invoke/VarHandle" ∧ (parseMethodDescriptor yX12_tells.desc).map (fun d => d.parameters.length) = some 1 := by decide +kernel
theorem w_M_undo : Cond.instanceMethod yX12_undo ∈ zT ∧ Cond.selects yX12_undo.cls yX12_undo yX12_undo ∈ zT ∧ Cond.initialized yX12_undo.cls ∈ zT ∧ Cond.code yX12_undo cX12_undo 2 (some .boolean) ∈ zT := ⟨zT_of (i := 1982) (by decide +kernel) rfl, zT_of (i := 1983) (by decide +kernel) rfl, zT_of (i := 135) (by decide +kernel) rfl, zT_of (i := 1984) (by decide +kernel) rfl⟩
theorem hy_M_undo : yX12_undo.cls ≠ "java/lang/invoke/MethodHandle" ∧ yX12_undo.cls ≠ "java/lang/invoke/VarHandle" ∧ (parseMethodDescriptor yX12_undo.desc).map (fun d => d.parameters.length) = some 0 := by decide +kernel
theorem dX12_leaks_0 : decode cX12_leaks 0 = .ok (.aload_n 0, 1) := by decide +kernel
theorem dX12_leaks_1 : decode cX12_leaks 1 = .ok (.getfield 141, 3) := by decide +kernel
theorem dX12_leaks_4 : decode cX12_leaks 4 = .ok (.ifCond .eq 8, 3) := by decide +kernel
theorem dX12_leaks_7 : decode cX12_leaks 7 = .ok (.iload_n 1, 1) := by decide +kernel
theorem dX12_leaks_8 : decode cX12_leaks 8 = .ok (.iconst (-1), 1) := by decide +kernel
theorem dX12_leaks_9 : decode cX12_leaks 9 = .ok (.if_icmp .ge 5, 3) := by decide +kernel
theorem dX12_leaks_12 : decode cX12_leaks 12 = .ok (.iconst (-1), 1) := by decide +kernel
theorem dX12_leaks_13 : decode cX12_leaks 13 = .ok (.ireturn, 1) := by decide +kernel
theorem dX12_leaks_14 : decode cX12_leaks 14 = .ok (.aload_n 0, 1) := by decide +kernel
theorem dX12_leaks_15 : decode cX12_leaks 15 = .ok (.invokevirtual 372, 3) := by decide +kernel
theorem dX12_leaks_18 : decode cX12_leaks 18 = .ok (.istore_n 2, 1) := by decide +kernel
theorem dX12_leaks_19 : decode cX12_leaks 19 = .ok (.iload_n 1, 1) := by decide +kernel
theorem dX12_leaks_20 : decode cX12_leaks 20 = .ok (.iconst (-1), 1) := by decide +kernel
theorem dX12_leaks_21 : decode cX12_leaks 21 = .ok (.if_icmp .ne 5, 3) := by decide +kernel
theorem dX12_leaks_24 : decode cX12_leaks 24 = .ok (.iload_n 2, 1) := by decide +kernel
theorem dX12_leaks_25 : decode cX12_leaks 25 = .ok (.ireturn, 1) := by decide +kernel
theorem dX12_leaks_26 : decode cX12_leaks 26 = .ok (.iconst 0, 1) := by decide +kernel
theorem dX12_leaks_27 : decode cX12_leaks 27 = .ok (.istore_n 3, 1) := by decide +kernel
theorem dX12_leaks_28 : decode cX12_leaks 28 = .ok (.iconst 0, 1) := by decide +kernel
theorem dX12_leaks_29 : decode cX12_leaks 29 = .ok (.istore 4, 2) := by decide +kernel
theorem dX12_leaks_31 : decode cX12_leaks 31 = .ok (.iload 4, 2) := by decide +kernel
theorem dX12_leaks_33 : decode cX12_leaks 33 = .ok (.bipush 40, 2) := by decide +kernel
theorem dX12_leaks_35 : decode cX12_leaks 35 = .ok (.if_icmp .gt 33, 3) := by decide +kernel
theorem dX12_leaks_38 : decode cX12_leaks 38 = .ok (.aload_n 0, 1) := by decide +kernel
theorem dX12_leaks_39 : decode cX12_leaks 39 = .ok (.getfield 156, 3) := by decide +kernel
theorem dX12_leaks_42 : decode cX12_leaks 42 = .ok (.iload 4, 2) := by decide +kernel
theorem dX12_leaks_44 : decode cX12_leaks 44 = .ok (.iaload, 1) := by decide +kernel
theorem dX12_leaks_45 : decode cX12_leaks 45 = .ok (.ifCond .ne 6, 3) := by decide +kernel
theorem dX12_leaks_48 : decode cX12_leaks 48 = .ok (.goto 14, 3) := by decide +kernel
theorem dX12_leaks_51 : decode cX12_leaks 51 = .ok (.iload_n 3, 1) := by decide +kernel
theorem dX12_leaks_52 : decode cX12_leaks 52 = .ok (.iload_n 1, 1) := by decide +kernel
theorem dX12_leaks_53 : decode cX12_leaks 53 = .ok (.if_icmp .ne 6, 3) := by decide +kernel
theorem dX12_leaks_56 : decode cX12_leaks 56 = .ok (.iload 4, 2) := by decide +kernel
theorem dX12_leaks_58 : decode cX12_leaks 58 = .ok (.ireturn, 1) := by decide +kernel
theorem dX12_leaks_59 : decode cX12_leaks 59 = .ok (.iinc 3 1, 3) := by decide +kernel
theorem dX12_leaks_62 : decode cX12_leaks 62 = .ok (.iinc 4 1, 3) := by decide +kernel
theorem dX12_leaks_65 : decode cX12_leaks 65 = .ok (.goto (-34), 3) := by decide +kernel
theorem dX12_leaks_68 : decode cX12_leaks 68 = .ok (.iconst (-1), 1) := by decide +kernel
theorem dX12_leaks_69 : decode cX12_leaks 69 = .ok (.ireturn, 1) := by decide +kernel
abbrev rm_M_leaks : Room := { frames := 10, cells := 0, slots := 0, locals := 228 }
def M_leaks_l31 (σ : Sg) (x1 : Int32) (x3 : Int32) (x4 : Int32) : Option ((Int32 × Int32) ⊕ ((Int32 × Sg) ⊕ (Int32 × Int32))) :=
  if 40 < x4 then (
    some (.inr (.inr (x3, x4)))
  ) else (
    zrd σ 197 41 x4 fun v44 =>
    if v44 = 0 then (
      zlt (x4 + 1) fun v62 =>
      some (.inl (x3, v62))
    ) else (
      if x3 = x1 then (
        some (.inr (.inl (x4, σ)))
      ) else (
        zlt (x3 + 1) fun v59 =>
        zlt (x4 + 1) fun v62 =>
        some (.inl (v59, v62))
      )
    )
  )
set_option maxRecDepth 20000 in
theorem t_M_leaks_l31 {X : Zx} {Q : State → Prop} {σ : Sg} {x1 : Int32} {x3 : Int32} {x4 : Int32} (ok : Zok X cX12_leaks RX12 rm_M_leaks 198 5)  {out : ((Int32 × Int32) ⊕ ((Int32 × Sg) ⊕ (Int32 × Int32)))} (hf : M_leaks_l31 σ x1 x3 x4 = some out) (hk : zout (fun (s : (Int32 × Int32)) => ZAt X Q 0 0 31 σ [(0, .ref (X.ad 171)), (1, .int x1), (3, .int s.1), (4, .int s.2)] []) (zout (fun (r : (Int32 × Sg)) => ZrI cX12_leaks X Q r.1 r.2) (fun (s : (Int32 × Int32)) => ZAt X Q 0 0 68 σ [] [])) out) : ZAt X Q 0 0 31 σ [(0, .ref (X.ad 171)), (1, .int x1), (3, .int x3), (4, .int x4)] [] := by
  unfold M_leaks_l31 at hf
  refine z_iload ok dX12_leaks_31 3 rfl ?_
  refine z_bipush (v := 40) ok dX12_leaks_33 (by decide) ?_
  refine z_icmp_gt (tgt := 68) ok dX12_leaks_35 (by decide) hf (fun _ hf => ?_) (fun _ hf => ?_)
  · obtain rfl := Option.some.inj hf
    exact z_sub [] rfl hk
  · refine z_aload_n ok dX12_leaks_38 0 rfl ?_
    refine z_getr (q := 197) ok kc_171 zc_12 hin_12 48 (by decide) fl_12_156 rfl dX12_leaks_39 ?_
    refine z_iload ok dX12_leaks_42 3 rfl ?_
    refine z_iald ok kc_197 dX12_leaks_44 hf (fun v44 hf => ?_)
    refine z_if_ne (tgt := 51) ok dX12_leaks_45 (by decide) hf (fun _ hf => ?_) (fun _ hf => ?_)
    · refine z_goto (tgt := 62) ok dX12_leaks_48 (by decide) ?_
      refine z_iinc (w := 1) (lv' := fun v62 => [(4, .int v62), (0, .ref (X.ad 171)), (1, .int x1), (3, .int x3)]) ok dX12_leaks_62 3 rfl (by decide) (by decide) (fun _ => rfl) hf (fun v62 hf => ?_)
      refine z_goto (tgt := 31) ok dX12_leaks_65 (by decide) ?_
      obtain rfl := Option.some.inj hf
      exact z_sub [1, 2, 3, 0] rfl hk
    · refine z_iload_n ok dX12_leaks_51 2 rfl ?_
      refine z_iload_n ok dX12_leaks_52 1 rfl ?_
      refine z_icmp_ne (tgt := 59) ok dX12_leaks_53 (by decide) hf (fun _ hf => ?_) (fun _ hf => ?_)
      · refine z_iload ok dX12_leaks_56 3 rfl ?_
        obtain rfl := Option.some.inj hf
        exact hk _ _ dX12_leaks_58
      · refine z_iinc (w := 1) (lv' := fun v59 => [(3, .int v59), (0, .ref (X.ad 171)), (1, .int x1), (4, .int x4)]) ok dX12_leaks_59 2 rfl (by decide) (by decide) (fun _ => rfl) hf (fun v59 hf => ?_)
        refine z_iinc (w := 1) (lv' := fun v62 => [(4, .int v62), (3, .int v59), (0, .ref (X.ad 171)), (1, .int x1)]) ok dX12_leaks_62 3 rfl (by decide) (by decide) (fun _ => rfl) hf (fun v62 hf => ?_)
        refine z_goto (tgt := 31) ok dX12_leaks_65 (by decide) ?_
        obtain rfl := Option.some.inj hf
        exact z_sub [2, 3, 1, 0] rfl hk
def M_leaks (σ : Sg) (x1 : Int32) : Option (Int32 × Sg) :=
  zgt σ 171 43 fun v1 =>
  if v1 = 0 then (
    some ((-1), σ)
  ) else (
    if (-1) ≤ x1 then (
      (M_laysFits σ).bind fun r15 =>
      zlt r15.1 fun v18 =>
      if x1 = (-1) then (
        some (v18, r15.2)
      ) else (
        zlt 0 fun v27 =>
        zlt 0 fun v29 =>
        (zit (fun (s : (Int32 × Int32)) => M_leaks_l31 r15.2 x1 s.1 s.2) zFU (v27, v29)).bind fun r => r.elim (fun r =>
        some r
        ) (fun r =>
        some ((-1), r15.2)
        )
      )
    ) else (
      some ((-1), σ)
    )
  )
set_option maxRecDepth 20000 in
theorem t_M_leaks {X : Zx} {Q : State → Prop} {σ : Sg} {x1 : Int32} (ok : Zok X cX12_leaks RX12 rm_M_leaks 198 5)  {out : (Int32 × Sg)} (hf : M_leaks σ x1 = some out) (hk : ZrI cX12_leaks X Q out.1 out.2) : ZAt X Q 0 0 0 σ [(0, .ref (X.ad 171)), (1, .int x1)] [] := by
  unfold M_leaks at hf
  refine z_aload_n ok dX12_leaks_0 0 rfl ?_
  refine z_geti ok kc_171 zc_12 hin_12 43 (by decide) fl_12_141 rfl dX12_leaks_1 hf (fun v1 hf => ?_)
  refine z_if_eq (tgt := 12) ok dX12_leaks_4 (by decide) hf (fun _ hf => ?_) (fun _ hf => ?_)
  · refine z_iconst (v := (-1)) ok dX12_leaks_12 (by decide) ?_
    obtain rfl := Option.some.inj hf
    exact hk _ _ dX12_leaks_13
  · refine z_iload_n ok dX12_leaks_7 1 rfl ?_
    refine z_iconst (v := (-1)) ok dX12_leaks_8 (by decide) ?_
    refine z_icmp_ge (tgt := 14) ok dX12_leaks_9 (by decide) hf (fun _ hf => ?_) (fun _ hf => ?_)
    · refine z_aload_n ok dX12_leaks_14 0 rfl ?_
      refine z_call hf (fun r15 h15 hf => ?_)
      refine z_cV (As := []) (rest := []) (w := 171) ok kc_171 zc_12 (c_M_laysFits h15) rfl ⟨ml_12_372, w_M_laysFits⟩ hy_M_laysFits ⟨rfl, rfl⟩ ⟨Nat.le_of_ble_eq_true rfl, Nat.le_of_ble_eq_true rfl⟩ ⟨Nat.zero_le _, Nat.zero_le _⟩ rfl (Nat.le_of_ble_eq_true rfl) dX12_leaks_15 ?_
      refine z_nm hf (fun v18 hf => ?_)
      refine z_istore_n (lv' := [(2, .int v18), (0, .ref (X.ad 171)), (1, .int x1)]) ok dX12_leaks_18 (by decide) rfl ?_
      refine z_iload_n ok dX12_leaks_19 2 rfl ?_
      refine z_iconst (v := (-1)) ok dX12_leaks_20 (by decide) ?_
      refine z_icmp_ne (tgt := 26) ok dX12_leaks_21 (by decide) hf (fun _ hf => ?_) (fun _ hf => ?_)
      · refine z_iload_n ok dX12_leaks_24 0 rfl ?_
        obtain rfl := Option.some.inj hf
        exact hk _ _ dX12_leaks_25
      · refine z_iconst (v := 0) ok dX12_leaks_26 (by decide) ?_
        refine z_nm hf (fun v27 hf => ?_)
        refine z_istore_n (lv' := [(3, .int v27), (2, .int v18), (0, .ref (X.ad 171)), (1, .int x1)]) ok dX12_leaks_27 (by decide) rfl ?_
        refine z_iconst (v := 0) ok dX12_leaks_28 (by decide) ?_
        refine z_nm hf (fun v29 hf => ?_)
        refine z_istore (lv' := [(4, .int v29), (3, .int v27), (2, .int v18), (0, .ref (X.ad 171)), (1, .int x1)]) ok dX12_leaks_29 (by decide) rfl ?_
        refine z_call hf (fun r hr hf => ?_)
        refine z_sub [3, 4, 1, 0] rfl (z_iter (fun (s : (Int32 × Int32)) => r15.2) (fun (s : (Int32 × Int32)) => [(0, .ref (X.ad 171)), (1, .int x1), (3, .int s.1), (4, .int s.2)]) (fun s o h1 h2 => t_M_leaks_l31 ok h1 h2) _ _ _ hr ?_)
        cases r with
        | inl r =>
          obtain rfl := Option.some.inj hf
          exact hk
        | inr r =>
          simp only [Sum.elim_inr] at hf
          show ZAt X Q 0 0 68 r15.2 [] []
          refine z_iconst (v := (-1)) ok dX12_leaks_68 (by decide) ?_
          obtain rfl := Option.some.inj hf
          exact hk _ _ dX12_leaks_69
    · refine z_iconst (v := (-1)) ok dX12_leaks_12 (by decide) ?_
      obtain rfl := Option.some.inj hf
      exact hk _ _ dX12_leaks_13
theorem c_M_leaks {σ : Sg} {x1 : Int32} {r : (Int32 × Sg)} (h : M_leaks σ x1 = some r) : ZcI yX12_leaks cX12_leaks 5 .int rm_M_leaks 198 (fun ad => [.ref (ad 171), .int x1]) σ r.1 r.2 :=
  zmetI pn_12 rfl (fun _ => rfl) (fun _ => Nat.le_of_ble_eq_true rfl) rfl (fun X Q ok hk => t_M_leaks ok h hk)
theorem dX12_tells_0 : decode cX12_tells 0 = .ok (.aload_n 0, 1) := by decide +kernel
theorem dX12_tells_1 : decode cX12_tells 1 = .ok (.getfield 141, 3) := by decide +kernel
theorem dX12_tells_4 : decode cX12_tells 4 = .ok (.ifCond .eq 12, 3) := by decide +kernel
theorem dX12_tells_7 : decode cX12_tells 7 = .ok (.iload_n 1, 1) := by decide +kernel
theorem dX12_tells_8 : decode cX12_tells 8 = .ok (.iconst 0, 1) := by decide +kernel
theorem dX12_tells_9 : decode cX12_tells 9 = .ok (.iconst 1, 1) := by decide +kernel
theorem dX12_tells_10 : decode cX12_tells 10 = .ok (.invokestatic 198, 3) := by decide +kernel
theorem dX12_tells_13 : decode cX12_tells 13 = .ok (.ifCond .ne 5, 3) := by decide +kernel
theorem dX12_tells_16 : decode cX12_tells 16 = .ok (.iconst (-1), 1) := by decide +kernel
theorem dX12_tells_17 : decode cX12_tells 17 = .ok (.ireturn, 1) := by decide +kernel
theorem dX12_tells_18 : decode cX12_tells 18 = .ok (.aload_n 0, 1) := by decide +kernel
theorem dX12_tells_19 : decode cX12_tells 19 = .ok (.invokevirtual 372, 3) := by decide +kernel
theorem dX12_tells_22 : decode cX12_tells 22 = .ok (.ifCond .ne 5, 3) := by decide +kernel
theorem dX12_tells_25 : decode cX12_tells 25 = .ok (.iconst (-1), 1) := by decide +kernel
theorem dX12_tells_26 : decode cX12_tells 26 = .ok (.ireturn, 1) := by decide +kernel
theorem dX12_tells_27 : decode cX12_tells 27 = .ok (.iconst (-1), 1) := by decide +kernel
theorem dX12_tells_28 : decode cX12_tells 28 = .ok (.istore_n 2, 1) := by decide +kernel
theorem dX12_tells_29 : decode cX12_tells 29 = .ok (.ldc_w 364, 3) := by decide +kernel
theorem dX12_tells_32 : decode cX12_tells 32 = .ok (.istore_n 3, 1) := by decide +kernel
theorem dX12_tells_33 : decode cX12_tells 33 = .ok (.iconst 1, 1) := by decide +kernel
theorem dX12_tells_34 : decode cX12_tells 34 = .ok (.istore 4, 2) := by decide +kernel
theorem dX12_tells_36 : decode cX12_tells 36 = .ok (.iload 4, 2) := by decide +kernel
theorem dX12_tells_38 : decode cX12_tells 38 = .ok (.bipush 40, 2) := by decide +kernel
theorem dX12_tells_40 : decode cX12_tells 40 = .ok (.if_icmp .gt 132, 3) := by decide +kernel
theorem dX12_tells_43 : decode cX12_tells 43 = .ok (.iconst 0, 1) := by decide +kernel
theorem dX12_tells_44 : decode cX12_tells 44 = .ok (.istore 5, 2) := by decide +kernel
theorem dX12_tells_46 : decode cX12_tells 46 = .ok (.iconst 0, 1) := by decide +kernel
theorem dX12_tells_47 : decode cX12_tells 47 = .ok (.istore 6, 2) := by decide +kernel
theorem dX12_tells_49 : decode cX12_tells 49 = .ok (.iload 6, 2) := by decide +kernel
theorem dX12_tells_51 : decode cX12_tells 51 = .ok (.bipush 40, 2) := by decide +kernel
theorem dX12_tells_53 : decode cX12_tells 53 = .ok (.if_icmp .gt 98, 3) := by decide +kernel
theorem dX12_tells_56 : decode cX12_tells 56 = .ok (.iconst 0, 1) := by decide +kernel
theorem dX12_tells_57 : decode cX12_tells 57 = .ok (.istore 7, 2) := by decide +kernel
theorem dX12_tells_59 : decode cX12_tells 59 = .ok (.iconst 0, 1) := by decide +kernel
theorem dX12_tells_60 : decode cX12_tells 60 = .ok (.istore 8, 2) := by decide +kernel
theorem dX12_tells_62 : decode cX12_tells 62 = .ok (.iload 8, 2) := by decide +kernel
theorem dX12_tells_64 : decode cX12_tells 64 = .ok (.bipush 40, 2) := by decide +kernel
theorem dX12_tells_66 : decode cX12_tells 66 = .ok (.if_icmp .gt 70, 3) := by decide +kernel
theorem dX12_tells_69 : decode cX12_tells 69 = .ok (.iload 7, 2) := by decide +kernel
theorem dX12_tells_71 : decode cX12_tells 71 = .ok (.aload_n 0, 1) := by decide +kernel
theorem dX12_tells_72 : decode cX12_tells 72 = .ok (.getfield 156, 3) := by decide +kernel
theorem dX12_tells_75 : decode cX12_tells 75 = .ok (.iload 6, 2) := by decide +kernel
theorem dX12_tells_77 : decode cX12_tells 77 = .ok (.iaload, 1) := by decide +kernel
theorem dX12_tells_78 : decode cX12_tells 78 = .ok (.iconst 1, 1) := by decide +kernel
theorem dX12_tells_79 : decode cX12_tells 79 = .ok (.if_icmp .ne 47, 3) := by decide +kernel
theorem dX12_tells_82 : decode cX12_tells 82 = .ok (.aload_n 0, 1) := by decide +kernel
theorem dX12_tells_83 : decode cX12_tells 83 = .ok (.getfield 156, 3) := by decide +kernel
theorem dX12_tells_86 : decode cX12_tells 86 = .ok (.iload 8, 2) := by decide +kernel
theorem dX12_tells_88 : decode cX12_tells 88 = .ok (.iaload, 1) := by decide +kernel
theorem dX12_tells_89 : decode cX12_tells 89 = .ok (.iconst 1, 1) := by decide +kernel
theorem dX12_tells_90 : decode cX12_tells 90 = .ok (.if_icmp .ne 36, 3) := by decide +kernel
theorem dX12_tells_93 : decode cX12_tells 93 = .ok (.aload_n 0, 1) := by decide +kernel
theorem dX12_tells_94 : decode cX12_tells 94 = .ok (.getfield 153, 3) := by decide +kernel
theorem dX12_tells_97 : decode cX12_tells 97 = .ok (.bipush 41, 2) := by decide +kernel
theorem dX12_tells_99 : decode cX12_tells 99 = .ok (.iload 6, 2) := by decide +kernel
theorem dX12_tells_101 : decode cX12_tells 101 = .ok (.imul, 1) := by decide +kernel
theorem dX12_tells_102 : decode cX12_tells 102 = .ok (.iload 4, 2) := by decide +kernel
theorem dX12_tells_104 : decode cX12_tells 104 = .ok (.iadd, 1) := by decide +kernel
theorem dX12_tells_105 : decode cX12_tells 105 = .ok (.iaload, 1) := by decide +kernel
theorem dX12_tells_106 : decode cX12_tells 106 = .ok (.aload_n 0, 1) := by decide +kernel
theorem dX12_tells_107 : decode cX12_tells 107 = .ok (.getfield 153, 3) := by decide +kernel
theorem dX12_tells_110 : decode cX12_tells 110 = .ok (.bipush 41, 2) := by decide +kernel
theorem dX12_tells_112 : decode cX12_tells 112 = .ok (.iload 8, 2) := by decide +kernel
theorem dX12_tells_114 : decode cX12_tells 114 = .ok (.imul, 1) := by decide +kernel
theorem dX12_tells_115 : decode cX12_tells 115 = .ok (.iload 4, 2) := by decide +kernel
theorem dX12_tells_117 : decode cX12_tells 117 = .ok (.iadd, 1) := by decide +kernel
theorem dX12_tells_118 : decode cX12_tells 118 = .ok (.iaload, 1) := by decide +kernel
theorem dX12_tells_119 : decode cX12_tells 119 = .ok (.if_icmp .ne 7, 3) := by decide +kernel
theorem dX12_tells_122 : decode cX12_tells 122 = .ok (.iconst 1, 1) := by decide +kernel
theorem dX12_tells_123 : decode cX12_tells 123 = .ok (.goto 4, 3) := by decide +kernel
theorem dX12_tells_126 : decode cX12_tells 126 = .ok (.iconst 0, 1) := by decide +kernel
theorem dX12_tells_127 : decode cX12_tells 127 = .ok (.iadd, 1) := by decide +kernel
theorem dX12_tells_128 : decode cX12_tells 128 = .ok (.istore 7, 2) := by decide +kernel
theorem dX12_tells_130 : decode cX12_tells 130 = .ok (.iinc 8 1, 3) := by decide +kernel
theorem dX12_tells_133 : decode cX12_tells 133 = .ok (.goto (-71), 3) := by decide +kernel
theorem dX12_tells_136 : decode cX12_tells 136 = .ok (.iload 5, 2) := by decide +kernel
theorem dX12_tells_138 : decode cX12_tells 138 = .ok (.iload 7, 2) := by decide +kernel
theorem dX12_tells_140 : decode cX12_tells 140 = .ok (.invokestatic 276, 3) := by decide +kernel
theorem dX12_tells_143 : decode cX12_tells 143 = .ok (.istore 5, 2) := by decide +kernel
theorem dX12_tells_145 : decode cX12_tells 145 = .ok (.iinc 6 1, 3) := by decide +kernel
theorem dX12_tells_148 : decode cX12_tells 148 = .ok (.goto (-99), 3) := by decide +kernel
theorem dX12_tells_151 : decode cX12_tells 151 = .ok (.iload 5, 2) := by decide +kernel
theorem dX12_tells_153 : decode cX12_tells 153 = .ok (.iload_n 3, 1) := by decide +kernel
theorem dX12_tells_154 : decode cX12_tells 154 = .ok (.if_icmp .lt 6, 3) := by decide +kernel
theorem dX12_tells_157 : decode cX12_tells 157 = .ok (.goto 9, 3) := by decide +kernel
theorem dX12_tells_160 : decode cX12_tells 160 = .ok (.iload 5, 2) := by decide +kernel
theorem dX12_tells_162 : decode cX12_tells 162 = .ok (.istore_n 3, 1) := by decide +kernel
theorem dX12_tells_163 : decode cX12_tells 163 = .ok (.iload 4, 2) := by decide +kernel
theorem dX12_tells_165 : decode cX12_tells 165 = .ok (.istore_n 2, 1) := by decide +kernel
theorem dX12_tells_166 : decode cX12_tells 166 = .ok (.iinc 4 1, 3) := by decide +kernel
theorem dX12_tells_169 : decode cX12_tells 169 = .ok (.goto (-133), 3) := by decide +kernel
theorem dX12_tells_172 : decode cX12_tells 172 = .ok (.iload_n 1, 1) := by decide +kernel
theorem dX12_tells_173 : decode cX12_tells 173 = .ok (.ifCond .ne 7, 3) := by decide +kernel
theorem dX12_tells_176 : decode cX12_tells 176 = .ok (.iload_n 2, 1) := by decide +kernel
theorem dX12_tells_177 : decode cX12_tells 177 = .ok (.goto 4, 3) := by decide +kernel
theorem dX12_tells_180 : decode cX12_tells 180 = .ok (.iload_n 3, 1) := by decide +kernel
theorem dX12_tells_181 : decode cX12_tells 181 = .ok (.ireturn, 1) := by decide +kernel
abbrev rm_M_tells : Room := { frames := 10, cells := 0, slots := 0, locals := 228 }
def M_tells_l62 (σ : Sg) (x1 : Int32) (x2 : Int32) (x3 : Int32) (x4 : Int32) (x5 : Int32) (x6 : Int32) (x7 : Int32) (x8 : Int32) : Option ((Int32 × Int32) ⊕ (Int32 × Int32)) :=
  if 40 < x8 then (
    some (.inr (x7, x8))
  ) else (
    zrd σ 197 41 x6 fun v77 =>
    if v77 = 1 then (
      zrd σ 197 41 x8 fun v88 =>
      if v88 = 1 then (
        zrd σ 196 1681 ((41 * x6) + x4) fun v105 =>
        zrd σ 196 1681 ((41 * x8) + x4) fun v118 =>
        if v105 = v118 then (
          zlt (x7 + 1) fun v128 =>
          zlt (x8 + 1) fun v130 =>
          some (.inl (v128, v130))
        ) else (
          zlt (x7 + 0) fun v128 =>
          zlt (x8 + 1) fun v130 =>
          some (.inl (v128, v130))
        )
      ) else (
        zlt (x7 + 0) fun v128 =>
        zlt (x8 + 1) fun v130 =>
        some (.inl (v128, v130))
      )
    ) else (
      zlt (x7 + 0) fun v128 =>
      zlt (x8 + 1) fun v130 =>
      some (.inl (v128, v130))
    )
  )
set_option maxRecDepth 20000 in
theorem t_M_tells_l62 {X : Zx} {Q : State → Prop} {σ : Sg} {x1 : Int32} {x2 : Int32} {x3 : Int32} {x4 : Int32} {x5 : Int32} {x6 : Int32} {x7 : Int32} {x8 : Int32} (ok : Zok X cX12_tells RX12 rm_M_tells 198 9)  {out : ((Int32 × Int32) ⊕ (Int32 × Int32))} (hf : M_tells_l62 σ x1 x2 x3 x4 x5 x6 x7 x8 = some out) (hk : zout (fun (s : (Int32 × Int32)) => ZAt X Q 0 0 62 σ [(0, .ref (X.ad 171)), (1, .int x1), (2, .int x2), (3, .int x3), (4, .int x4), (5, .int x5), (6, .int x6), (7, .int s.1), (8, .int s.2)] []) (fun (s : (Int32 × Int32)) => ZAt X Q 0 0 136 σ [(0, .ref (X.ad 171)), (1, .int x1), (2, .int x2), (3, .int x3), (4, .int x4), (5, .int x5), (6, .int x6), (7, .int s.1)] []) out) : ZAt X Q 0 0 62 σ [(0, .ref (X.ad 171)), (1, .int x1), (2, .int x2), (3, .int x3), (4, .int x4), (5, .int x5), (6, .int x6), (7, .int x7), (8, .int x8)] [] := by
  unfold M_tells_l62 at hf
  refine z_iload ok dX12_tells_62 8 rfl ?_
  refine z_bipush (v := 40) ok dX12_tells_64 (by decide) ?_
  refine z_icmp_gt (tgt := 136) ok dX12_tells_66 (by decide) hf (fun _ hf => ?_) (fun _ hf => ?_)
  · obtain rfl := Option.some.inj hf
    exact z_sub [0, 1, 2, 3, 4, 5, 6, 7] rfl hk
  · refine z_iload ok dX12_tells_69 7 rfl ?_
    refine z_aload_n ok dX12_tells_71 0 rfl ?_
    refine z_getr (q := 197) ok kc_171 zc_12 hin_12 48 (by decide) fl_12_156 rfl dX12_tells_72 ?_
    refine z_iload ok dX12_tells_75 6 rfl ?_
    refine z_iald ok kc_197 dX12_tells_77 hf (fun v77 hf => ?_)
    refine z_iconst (v := 1) ok dX12_tells_78 (by decide) ?_
    refine z_icmp_ne (tgt := 126) ok dX12_tells_79 (by decide) hf (fun _ hf => ?_) (fun _ hf => ?_)
    · refine z_aload_n ok dX12_tells_82 0 rfl ?_
      refine z_getr (q := 197) ok kc_171 zc_12 hin_12 48 (by decide) fl_12_156 rfl dX12_tells_83 ?_
      refine z_iload ok dX12_tells_86 8 rfl ?_
      refine z_iald ok kc_197 dX12_tells_88 hf (fun v88 hf => ?_)
      refine z_iconst (v := 1) ok dX12_tells_89 (by decide) ?_
      refine z_icmp_ne (tgt := 126) ok dX12_tells_90 (by decide) hf (fun _ hf => ?_) (fun _ hf => ?_)
      · refine z_aload_n ok dX12_tells_93 0 rfl ?_
        refine z_getr (q := 196) ok kc_171 zc_12 hin_12 47 (by decide) fl_12_153 rfl dX12_tells_94 ?_
        refine z_bipush (v := 41) ok dX12_tells_97 (by decide) ?_
        refine z_iload ok dX12_tells_99 6 rfl ?_
        refine z_imul ok dX12_tells_101 ?_
        refine z_iload ok dX12_tells_102 4 rfl ?_
        refine z_iadd ok dX12_tells_104 ?_
        refine z_iald ok kc_196 dX12_tells_105 hf (fun v105 hf => ?_)
        refine z_aload_n ok dX12_tells_106 0 rfl ?_
        refine z_getr (q := 196) ok kc_171 zc_12 hin_12 47 (by decide) fl_12_153 rfl dX12_tells_107 ?_
        refine z_bipush (v := 41) ok dX12_tells_110 (by decide) ?_
        refine z_iload ok dX12_tells_112 8 rfl ?_
        refine z_imul ok dX12_tells_114 ?_
        refine z_iload ok dX12_tells_115 4 rfl ?_
        refine z_iadd ok dX12_tells_117 ?_
        refine z_iald ok kc_196 dX12_tells_118 hf (fun v118 hf => ?_)
        refine z_icmp_ne (tgt := 126) ok dX12_tells_119 (by decide) hf (fun _ hf => ?_) (fun _ hf => ?_)
        · refine z_iconst (v := 1) ok dX12_tells_122 (by decide) ?_
          refine z_goto (tgt := 127) ok dX12_tells_123 (by decide) ?_
          refine z_iadd ok dX12_tells_127 ?_
          refine z_nm hf (fun v128 hf => ?_)
          refine z_istore (lv' := [(7, .int v128), (0, .ref (X.ad 171)), (1, .int x1), (2, .int x2), (3, .int x3), (4, .int x4), (5, .int x5), (6, .int x6), (8, .int x8)]) ok dX12_tells_128 (by decide) rfl ?_
          refine z_iinc (w := 1) (lv' := fun v130 => [(8, .int v130), (7, .int v128), (0, .ref (X.ad 171)), (1, .int x1), (2, .int x2), (3, .int x3), (4, .int x4), (5, .int x5), (6, .int x6)]) ok dX12_tells_130 8 rfl (by decide) (by decide) (fun _ => rfl) hf (fun v130 hf => ?_)
          refine z_goto (tgt := 62) ok dX12_tells_133 (by decide) ?_
          obtain rfl := Option.some.inj hf
          exact z_sub [2, 3, 4, 5, 6, 7, 8, 1, 0] rfl hk
        · refine z_iconst (v := 0) ok dX12_tells_126 (by decide) ?_
          refine z_iadd ok dX12_tells_127 ?_
          refine z_nm hf (fun v128 hf => ?_)
          refine z_istore (lv' := [(7, .int v128), (0, .ref (X.ad 171)), (1, .int x1), (2, .int x2), (3, .int x3), (4, .int x4), (5, .int x5), (6, .int x6), (8, .int x8)]) ok dX12_tells_128 (by decide) rfl ?_
          refine z_iinc (w := 1) (lv' := fun v130 => [(8, .int v130), (7, .int v128), (0, .ref (X.ad 171)), (1, .int x1), (2, .int x2), (3, .int x3), (4, .int x4), (5, .int x5), (6, .int x6)]) ok dX12_tells_130 8 rfl (by decide) (by decide) (fun _ => rfl) hf (fun v130 hf => ?_)
          refine z_goto (tgt := 62) ok dX12_tells_133 (by decide) ?_
          obtain rfl := Option.some.inj hf
          exact z_sub [2, 3, 4, 5, 6, 7, 8, 1, 0] rfl hk
      · refine z_iconst (v := 0) ok dX12_tells_126 (by decide) ?_
        refine z_iadd ok dX12_tells_127 ?_
        refine z_nm hf (fun v128 hf => ?_)
        refine z_istore (lv' := [(7, .int v128), (0, .ref (X.ad 171)), (1, .int x1), (2, .int x2), (3, .int x3), (4, .int x4), (5, .int x5), (6, .int x6), (8, .int x8)]) ok dX12_tells_128 (by decide) rfl ?_
        refine z_iinc (w := 1) (lv' := fun v130 => [(8, .int v130), (7, .int v128), (0, .ref (X.ad 171)), (1, .int x1), (2, .int x2), (3, .int x3), (4, .int x4), (5, .int x5), (6, .int x6)]) ok dX12_tells_130 8 rfl (by decide) (by decide) (fun _ => rfl) hf (fun v130 hf => ?_)
        refine z_goto (tgt := 62) ok dX12_tells_133 (by decide) ?_
        obtain rfl := Option.some.inj hf
        exact z_sub [2, 3, 4, 5, 6, 7, 8, 1, 0] rfl hk
    · refine z_iconst (v := 0) ok dX12_tells_126 (by decide) ?_
      refine z_iadd ok dX12_tells_127 ?_
      refine z_nm hf (fun v128 hf => ?_)
      refine z_istore (lv' := [(7, .int v128), (0, .ref (X.ad 171)), (1, .int x1), (2, .int x2), (3, .int x3), (4, .int x4), (5, .int x5), (6, .int x6), (8, .int x8)]) ok dX12_tells_128 (by decide) rfl ?_
      refine z_iinc (w := 1) (lv' := fun v130 => [(8, .int v130), (7, .int v128), (0, .ref (X.ad 171)), (1, .int x1), (2, .int x2), (3, .int x3), (4, .int x4), (5, .int x5), (6, .int x6)]) ok dX12_tells_130 8 rfl (by decide) (by decide) (fun _ => rfl) hf (fun v130 hf => ?_)
      refine z_goto (tgt := 62) ok dX12_tells_133 (by decide) ?_
      obtain rfl := Option.some.inj hf
      exact z_sub [2, 3, 4, 5, 6, 7, 8, 1, 0] rfl hk
def M_tells_l49 (σ : Sg) (x1 : Int32) (x2 : Int32) (x3 : Int32) (x4 : Int32) (x5 : Int32) (x6 : Int32) : Option ((Int32 × Int32) ⊕ (Int32 × Int32)) :=
  if 40 < x6 then (
    some (.inr (x5, x6))
  ) else (
    zlt 0 fun v57 =>
    zlt 0 fun v60 =>
    (zit (fun (s : (Int32 × Int32)) => M_tells_l62 σ x1 x2 x3 x4 x5 x6 s.1 s.2) zFU (v57, v60)).bind fun r =>
    (M_greater x5 r.1).bind fun r140 =>
    zlt r140 fun v143 =>
    zlt (x6 + 1) fun v145 =>
    some (.inl (v143, v145))
  )
set_option maxRecDepth 20000 in
theorem t_M_tells_l49 {X : Zx} {Q : State → Prop} {σ : Sg} {x1 : Int32} {x2 : Int32} {x3 : Int32} {x4 : Int32} {x5 : Int32} {x6 : Int32} (ok : Zok X cX12_tells RX12 rm_M_tells 198 9)  {out : ((Int32 × Int32) ⊕ (Int32 × Int32))} (hf : M_tells_l49 σ x1 x2 x3 x4 x5 x6 = some out) (hk : zout (fun (s : (Int32 × Int32)) => ZAt X Q 0 0 49 σ [(0, .ref (X.ad 171)), (1, .int x1), (2, .int x2), (3, .int x3), (4, .int x4), (5, .int s.1), (6, .int s.2)] []) (fun (s : (Int32 × Int32)) => ZAt X Q 0 0 151 σ [(0, .ref (X.ad 171)), (1, .int x1), (2, .int x2), (3, .int x3), (4, .int x4), (5, .int s.1)] []) out) : ZAt X Q 0 0 49 σ [(0, .ref (X.ad 171)), (1, .int x1), (2, .int x2), (3, .int x3), (4, .int x4), (5, .int x5), (6, .int x6)] [] := by
  unfold M_tells_l49 at hf
  refine z_iload ok dX12_tells_49 6 rfl ?_
  refine z_bipush (v := 40) ok dX12_tells_51 (by decide) ?_
  refine z_icmp_gt (tgt := 151) ok dX12_tells_53 (by decide) hf (fun _ hf => ?_) (fun _ hf => ?_)
  · obtain rfl := Option.some.inj hf
    exact z_sub [0, 1, 2, 3, 4, 5] rfl hk
  · refine z_iconst (v := 0) ok dX12_tells_56 (by decide) ?_
    refine z_nm hf (fun v57 hf => ?_)
    refine z_istore (lv' := [(7, .int v57), (0, .ref (X.ad 171)), (1, .int x1), (2, .int x2), (3, .int x3), (4, .int x4), (5, .int x5), (6, .int x6)]) ok dX12_tells_57 (by decide) rfl ?_
    refine z_iconst (v := 0) ok dX12_tells_59 (by decide) ?_
    refine z_nm hf (fun v60 hf => ?_)
    refine z_istore (lv' := [(8, .int v60), (7, .int v57), (0, .ref (X.ad 171)), (1, .int x1), (2, .int x2), (3, .int x3), (4, .int x4), (5, .int x5), (6, .int x6)]) ok dX12_tells_60 (by decide) rfl ?_
    refine z_call hf (fun r hr hf => ?_)
    refine z_sub [2, 3, 4, 5, 6, 7, 8, 1, 0] rfl (z_iter (fun (s : (Int32 × Int32)) => σ) (fun (s : (Int32 × Int32)) => [(0, .ref (X.ad 171)), (1, .int x1), (2, .int x2), (3, .int x3), (4, .int x4), (5, .int x5), (6, .int x6), (7, .int s.1), (8, .int s.2)]) (fun s o h1 h2 => t_M_tells_l62 ok h1 h2) _ _ _ hr ?_)
    show ZAt X Q 0 0 136 σ [(0, .ref (X.ad 171)), (1, .int x1), (2, .int x2), (3, .int x3), (4, .int x4), (5, .int x5), (6, .int x6), (7, .int r.1)] []
    refine z_iload ok dX12_tells_136 5 rfl ?_
    refine z_iload ok dX12_tells_138 7 rfl ?_
    refine z_call hf (fun r140 h140 hf => ?_)
    refine z_cS (As := [.int x5, .int r.1]) (rest := []) ok (c_M_greater h140) rfl ⟨ml_12_276, w_M_greater⟩ hy_M_greater ⟨rfl, rfl⟩ ⟨Nat.le_of_ble_eq_true rfl, Nat.le_of_ble_eq_true rfl⟩ ⟨Nat.zero_le _, Nat.zero_le _⟩ rfl (Nat.le_of_ble_eq_true rfl) dX12_tells_140 ?_
    refine z_nm hf (fun v143 hf => ?_)
    refine z_istore (lv' := [(5, .int v143), (0, .ref (X.ad 171)), (1, .int x1), (2, .int x2), (3, .int x3), (4, .int x4), (6, .int x6), (7, .int r.1)]) ok dX12_tells_143 (by decide) rfl ?_
    refine z_iinc (w := 1) (lv' := fun v145 => [(6, .int v145), (5, .int v143), (0, .ref (X.ad 171)), (1, .int x1), (2, .int x2), (3, .int x3), (4, .int x4), (7, .int r.1)]) ok dX12_tells_145 6 rfl (by decide) (by decide) (fun _ => rfl) hf (fun v145 hf => ?_)
    refine z_goto (tgt := 49) ok dX12_tells_148 (by decide) ?_
    obtain rfl := Option.some.inj hf
    exact z_sub [2, 3, 4, 5, 6, 1, 0] rfl hk
def M_tells_j36_151 (σ : Sg) (x1 : Int32) (x2 : Int32) (x3 : Int32) (x4 : Int32) (x5 : Int32) : Option ((Int32 × Int32 × Int32) ⊕ (Int32 × Int32 × Int32)) :=
  if x5 < x3 then (
    zlt (x4 + 1) fun v166 =>
    some (.inl (x4, x5, v166))
  ) else (
    zlt (x4 + 1) fun v166 =>
    some (.inl (x2, x3, v166))
  )
set_option maxRecDepth 20000 in
theorem t_M_tells_j36_151 {X : Zx} {Q : State → Prop} {σ : Sg} {x1 : Int32} {x2 : Int32} {x3 : Int32} {x4 : Int32} {x5 : Int32} (ok : Zok X cX12_tells RX12 rm_M_tells 198 9)  {out : ((Int32 × Int32 × Int32) ⊕ (Int32 × Int32 × Int32))} (hf : M_tells_j36_151 σ x1 x2 x3 x4 x5 = some out) (hk : zout (fun (s : (Int32 × Int32 × Int32)) => ZAt X Q 0 0 36 σ [(0, .ref (X.ad 171)), (1, .int x1), (2, .int s.1), (3, .int s.2.1), (4, .int s.2.2)] []) (fun (s : (Int32 × Int32 × Int32)) => ZAt X Q 0 0 172 σ [(1, .int x1), (2, .int s.1), (3, .int s.2.1)] []) out) : ZAt X Q 0 0 151 σ [(0, .ref (X.ad 171)), (1, .int x1), (2, .int x2), (3, .int x3), (4, .int x4), (5, .int x5)] [] := by
  unfold M_tells_j36_151 at hf
  refine z_iload ok dX12_tells_151 5 rfl ?_
  refine z_iload_n ok dX12_tells_153 3 rfl ?_
  refine z_icmp_lt (tgt := 160) ok dX12_tells_154 (by decide) hf (fun _ hf => ?_) (fun _ hf => ?_)
  · refine z_iload ok dX12_tells_160 5 rfl ?_
    refine z_istore_n (lv' := [(3, .int x5), (0, .ref (X.ad 171)), (1, .int x1), (2, .int x2), (4, .int x4), (5, .int x5)]) ok dX12_tells_162 (by decide) rfl ?_
    refine z_iload ok dX12_tells_163 4 rfl ?_
    refine z_istore_n (lv' := [(2, .int x4), (3, .int x5), (0, .ref (X.ad 171)), (1, .int x1), (4, .int x4), (5, .int x5)]) ok dX12_tells_165 (by decide) rfl ?_
    refine z_iinc (w := 1) (lv' := fun v166 => [(4, .int v166), (2, .int x4), (3, .int x5), (0, .ref (X.ad 171)), (1, .int x1), (5, .int x5)]) ok dX12_tells_166 4 rfl (by decide) (by decide) (fun _ => rfl) hf (fun v166 hf => ?_)
    refine z_goto (tgt := 36) ok dX12_tells_169 (by decide) ?_
    obtain rfl := Option.some.inj hf
    exact z_sub [3, 4, 1, 2, 0] rfl hk
  · refine z_goto (tgt := 166) ok dX12_tells_157 (by decide) ?_
    refine z_iinc (w := 1) (lv' := fun v166 => [(4, .int v166), (0, .ref (X.ad 171)), (1, .int x1), (2, .int x2), (3, .int x3), (5, .int x5)]) ok dX12_tells_166 4 rfl (by decide) (by decide) (fun _ => rfl) hf (fun v166 hf => ?_)
    refine z_goto (tgt := 36) ok dX12_tells_169 (by decide) ?_
    obtain rfl := Option.some.inj hf
    exact z_sub [1, 2, 3, 4, 0] rfl hk
def M_tells_l36 (σ : Sg) (x1 : Int32) (x2 : Int32) (x3 : Int32) (x4 : Int32) : Option ((Int32 × Int32 × Int32) ⊕ (Int32 × Int32 × Int32)) :=
  if 40 < x4 then (
    some (.inr (x2, x3, x4))
  ) else (
    zlt 0 fun v44 =>
    zlt 0 fun v47 =>
    (zit (fun (s : (Int32 × Int32)) => M_tells_l49 σ x1 x2 x3 x4 s.1 s.2) zFU (v44, v47)).bind fun r =>
    M_tells_j36_151 σ x1 x2 x3 x4 r.1
  )
set_option maxRecDepth 20000 in
theorem t_M_tells_l36 {X : Zx} {Q : State → Prop} {σ : Sg} {x1 : Int32} {x2 : Int32} {x3 : Int32} {x4 : Int32} (ok : Zok X cX12_tells RX12 rm_M_tells 198 9)  {out : ((Int32 × Int32 × Int32) ⊕ (Int32 × Int32 × Int32))} (hf : M_tells_l36 σ x1 x2 x3 x4 = some out) (hk : zout (fun (s : (Int32 × Int32 × Int32)) => ZAt X Q 0 0 36 σ [(0, .ref (X.ad 171)), (1, .int x1), (2, .int s.1), (3, .int s.2.1), (4, .int s.2.2)] []) (fun (s : (Int32 × Int32 × Int32)) => ZAt X Q 0 0 172 σ [(1, .int x1), (2, .int s.1), (3, .int s.2.1)] []) out) : ZAt X Q 0 0 36 σ [(0, .ref (X.ad 171)), (1, .int x1), (2, .int x2), (3, .int x3), (4, .int x4)] [] := by
  unfold M_tells_l36 at hf
  refine z_iload ok dX12_tells_36 4 rfl ?_
  refine z_bipush (v := 40) ok dX12_tells_38 (by decide) ?_
  refine z_icmp_gt (tgt := 172) ok dX12_tells_40 (by decide) hf (fun _ hf => ?_) (fun _ hf => ?_)
  · obtain rfl := Option.some.inj hf
    exact z_sub [1, 2, 3] rfl hk
  · refine z_iconst (v := 0) ok dX12_tells_43 (by decide) ?_
    refine z_nm hf (fun v44 hf => ?_)
    refine z_istore (lv' := [(5, .int v44), (0, .ref (X.ad 171)), (1, .int x1), (2, .int x2), (3, .int x3), (4, .int x4)]) ok dX12_tells_44 (by decide) rfl ?_
    refine z_iconst (v := 0) ok dX12_tells_46 (by decide) ?_
    refine z_nm hf (fun v47 hf => ?_)
    refine z_istore (lv' := [(6, .int v47), (5, .int v44), (0, .ref (X.ad 171)), (1, .int x1), (2, .int x2), (3, .int x3), (4, .int x4)]) ok dX12_tells_47 (by decide) rfl ?_
    refine z_call hf (fun r hr hf => ?_)
    refine z_sub [2, 3, 4, 5, 6, 1, 0] rfl (z_iter (fun (s : (Int32 × Int32)) => σ) (fun (s : (Int32 × Int32)) => [(0, .ref (X.ad 171)), (1, .int x1), (2, .int x2), (3, .int x3), (4, .int x4), (5, .int s.1), (6, .int s.2)]) (fun s o h1 h2 => t_M_tells_l49 ok h1 h2) _ _ _ hr ?_)
    show ZAt X Q 0 0 151 σ [(0, .ref (X.ad 171)), (1, .int x1), (2, .int x2), (3, .int x3), (4, .int x4), (5, .int r.1)] []
    exact z_sub [0, 1, 2, 3, 4, 5] rfl (t_M_tells_j36_151 ok hf hk)
def M_tells_j172 (σ : Sg) (x1 : Int32) (x2 : Int32) (x3 : Int32) : Option (Int32 × Sg) :=
  if x1 = 0 then (
    some (x2, σ)
  ) else (
    some (x3, σ)
  )
set_option maxRecDepth 20000 in
theorem t_M_tells_j172 {X : Zx} {Q : State → Prop} {σ : Sg} {x1 : Int32} {x2 : Int32} {x3 : Int32} (ok : Zok X cX12_tells RX12 rm_M_tells 198 9)  {out : (Int32 × Sg)} (hf : M_tells_j172 σ x1 x2 x3 = some out) (hk : ZrI cX12_tells X Q out.1 out.2) : ZAt X Q 0 0 172 σ [(1, .int x1), (2, .int x2), (3, .int x3)] [] := by
  unfold M_tells_j172 at hf
  refine z_iload_n ok dX12_tells_172 0 rfl ?_
  refine z_if_ne (tgt := 180) ok dX12_tells_173 (by decide) hf (fun _ hf => ?_) (fun _ hf => ?_)
  · refine z_iload_n ok dX12_tells_176 1 rfl ?_
    refine z_goto (tgt := 181) ok dX12_tells_177 (by decide) ?_
    obtain rfl := Option.some.inj hf
    exact hk _ _ dX12_tells_181
  · refine z_iload_n ok dX12_tells_180 2 rfl ?_
    obtain rfl := Option.some.inj hf
    exact hk _ _ dX12_tells_181
def M_tells (σ : Sg) (x1 : Int32) : Option (Int32 × Sg) :=
  zgt σ 171 43 fun v1 =>
  if v1 = 0 then (
    some ((-1), σ)
  ) else (
    (M_isIn x1 0 1).bind fun r10 =>
    if (zb r10) = 0 then (
      some ((-1), σ)
    ) else (
      (M_laysFits σ).bind fun r19 =>
      if r19.1 = 0 then (
        some ((-1), r19.2)
      ) else (
        zlt (-1) fun v28 =>
        zlt 1000000000 fun v32 =>
        zlt 1 fun v34 =>
        (zit (fun (s : (Int32 × Int32 × Int32)) => M_tells_l36 r19.2 x1 s.1 s.2.1 s.2.2) zFU (v28, v32, v34)).bind fun r =>
        M_tells_j172 r19.2 x1 r.1 r.2.1
      )
    )
  )
set_option maxRecDepth 20000 in
theorem t_M_tells {X : Zx} {Q : State → Prop} {σ : Sg} {x1 : Int32} (ok : Zok X cX12_tells RX12 rm_M_tells 198 9)  {out : (Int32 × Sg)} (hf : M_tells σ x1 = some out) (hk : ZrI cX12_tells X Q out.1 out.2) : ZAt X Q 0 0 0 σ [(0, .ref (X.ad 171)), (1, .int x1)] [] := by
  unfold M_tells at hf
  refine z_aload_n ok dX12_tells_0 0 rfl ?_
  refine z_geti ok kc_171 zc_12 hin_12 43 (by decide) fl_12_141 rfl dX12_tells_1 hf (fun v1 hf => ?_)
  refine z_if_eq (tgt := 16) ok dX12_tells_4 (by decide) hf (fun _ hf => ?_) (fun _ hf => ?_)
  · refine z_iconst (v := (-1)) ok dX12_tells_16 (by decide) ?_
    obtain rfl := Option.some.inj hf
    exact hk _ _ dX12_tells_17
  · refine z_iload_n ok dX12_tells_7 1 rfl ?_
    refine z_iconst (v := 0) ok dX12_tells_8 (by decide) ?_
    refine z_iconst (v := 1) ok dX12_tells_9 (by decide) ?_
    refine z_call hf (fun r10 h10 hf => ?_)
    refine z_cS (As := [.int x1, .int 0, .int 1]) (rest := []) ok (c_M_isIn h10) rfl ⟨ml_12_198, w_M_isIn⟩ hy_M_isIn ⟨rfl, rfl⟩ ⟨Nat.le_of_ble_eq_true rfl, Nat.le_of_ble_eq_true rfl⟩ ⟨Nat.zero_le _, Nat.zero_le _⟩ rfl (Nat.le_of_ble_eq_true rfl) dX12_tells_10 ?_
    refine z_if_ne (tgt := 18) ok dX12_tells_13 (by decide) hf (fun _ hf => ?_) (fun _ hf => ?_)
    · refine z_iconst (v := (-1)) ok dX12_tells_16 (by decide) ?_
      obtain rfl := Option.some.inj hf
      exact hk _ _ dX12_tells_17
    · refine z_aload_n ok dX12_tells_18 0 rfl ?_
      refine z_call hf (fun r19 h19 hf => ?_)
      refine z_cV (As := []) (rest := []) (w := 171) ok kc_171 zc_12 (c_M_laysFits h19) rfl ⟨ml_12_372, w_M_laysFits⟩ hy_M_laysFits ⟨rfl, rfl⟩ ⟨Nat.le_of_ble_eq_true rfl, Nat.le_of_ble_eq_true rfl⟩ ⟨Nat.zero_le _, Nat.zero_le _⟩ rfl (Nat.le_of_ble_eq_true rfl) dX12_tells_19 ?_
      refine z_if_ne (tgt := 27) ok dX12_tells_22 (by decide) hf (fun _ hf => ?_) (fun _ hf => ?_)
      · refine z_iconst (v := (-1)) ok dX12_tells_25 (by decide) ?_
        obtain rfl := Option.some.inj hf
        exact hk _ _ dX12_tells_26
      · refine z_iconst (v := (-1)) ok dX12_tells_27 (by decide) ?_
        refine z_nm hf (fun v28 hf => ?_)
        refine z_istore_n (lv' := [(2, .int v28), (0, .ref (X.ad 171)), (1, .int x1)]) ok dX12_tells_28 (by decide) rfl ?_
        refine z_ldcw (v := 1000000000) ok dX12_tells_29 wc_12_364 ?_
        refine z_nm hf (fun v32 hf => ?_)
        refine z_istore_n (lv' := [(3, .int v32), (2, .int v28), (0, .ref (X.ad 171)), (1, .int x1)]) ok dX12_tells_32 (by decide) rfl ?_
        refine z_iconst (v := 1) ok dX12_tells_33 (by decide) ?_
        refine z_nm hf (fun v34 hf => ?_)
        refine z_istore (lv' := [(4, .int v34), (3, .int v32), (2, .int v28), (0, .ref (X.ad 171)), (1, .int x1)]) ok dX12_tells_34 (by decide) rfl ?_
        refine z_call hf (fun r hr hf => ?_)
        refine z_sub [3, 4, 2, 1, 0] rfl (z_iter (fun (s : (Int32 × Int32 × Int32)) => r19.2) (fun (s : (Int32 × Int32 × Int32)) => [(0, .ref (X.ad 171)), (1, .int x1), (2, .int s.1), (3, .int s.2.1), (4, .int s.2.2)]) (fun s o h1 h2 => t_M_tells_l36 ok h1 h2) _ _ _ hr ?_)
        show ZAt X Q 0 0 172 r19.2 [(1, .int x1), (2, .int r.1), (3, .int r.2.1)] []
        exact z_sub [0, 1, 2] rfl (t_M_tells_j172 ok hf hk)
theorem c_M_tells {σ : Sg} {x1 : Int32} {r : (Int32 × Sg)} (h : M_tells σ x1 = some r) : ZcI yX12_tells cX12_tells 9 .int rm_M_tells 198 (fun ad => [.ref (ad 171), .int x1]) σ r.1 r.2 :=
  zmetI pn_12 rfl (fun _ => rfl) (fun _ => Nat.le_of_ble_eq_true rfl) rfl (fun X Q ok hk => t_M_tells ok h hk)
theorem dX12_remembers_0 : decode cX12_remembers 0 = .ok (.aload_n 0, 1) := by decide +kernel
theorem dX12_remembers_1 : decode cX12_remembers 1 = .ok (.getfield 80, 3) := by decide +kernel
theorem dX12_remembers_4 : decode cX12_remembers 4 = .ok (.bipush 20, 2) := by decide +kernel
theorem dX12_remembers_6 : decode cX12_remembers 6 = .ok (.if_icmp .ne 44, 3) := by decide +kernel
theorem dX12_remembers_9 : decode cX12_remembers 9 = .ok (.iconst 0, 1) := by decide +kernel
theorem dX12_remembers_10 : decode cX12_remembers 10 = .ok (.istore_n 1, 1) := by decide +kernel
theorem dX12_remembers_11 : decode cX12_remembers 11 = .ok (.iload_n 1, 1) := by decide +kernel
theorem dX12_remembers_12 : decode cX12_remembers 12 = .ok (.sipush 30533, 3) := by decide +kernel
theorem dX12_remembers_15 : decode cX12_remembers 15 = .ok (.if_icmp .ge 25, 3) := by decide +kernel
theorem dX12_remembers_18 : decode cX12_remembers 18 = .ok (.aload_n 0, 1) := by decide +kernel
theorem dX12_remembers_19 : decode cX12_remembers 19 = .ok (.getfield 77, 3) := by decide +kernel
theorem dX12_remembers_22 : decode cX12_remembers 22 = .ok (.iload_n 1, 1) := by decide +kernel
theorem dX12_remembers_23 : decode cX12_remembers 23 = .ok (.aload_n 0, 1) := by decide +kernel
theorem dX12_remembers_24 : decode cX12_remembers 24 = .ok (.getfield 77, 3) := by decide +kernel
theorem dX12_remembers_27 : decode cX12_remembers 27 = .ok (.iload_n 1, 1) := by decide +kernel
theorem dX12_remembers_28 : decode cX12_remembers 28 = .ok (.sipush 1607, 3) := by decide +kernel
theorem dX12_remembers_31 : decode cX12_remembers 31 = .ok (.iadd, 1) := by decide +kernel
theorem dX12_remembers_32 : decode cX12_remembers 32 = .ok (.iaload, 1) := by decide +kernel
theorem dX12_remembers_33 : decode cX12_remembers 33 = .ok (.iastore, 1) := by decide +kernel
theorem dX12_remembers_34 : decode cX12_remembers 34 = .ok (.iinc 1 1, 3) := by decide +kernel
theorem dX12_remembers_37 : decode cX12_remembers 37 = .ok (.goto (-26), 3) := by decide +kernel
theorem dX12_remembers_40 : decode cX12_remembers 40 = .ok (.aload_n 0, 1) := by decide +kernel
theorem dX12_remembers_41 : decode cX12_remembers 41 = .ok (.dup, 1) := by decide +kernel
theorem dX12_remembers_42 : decode cX12_remembers 42 = .ok (.getfield 80, 3) := by decide +kernel
theorem dX12_remembers_45 : decode cX12_remembers 45 = .ok (.iconst 1, 1) := by decide +kernel
theorem dX12_remembers_46 : decode cX12_remembers 46 = .ok (.isub, 1) := by decide +kernel
theorem dX12_remembers_47 : decode cX12_remembers 47 = .ok (.putfield 80, 3) := by decide +kernel
theorem dX12_remembers_50 : decode cX12_remembers 50 = .ok (.iconst 0, 1) := by decide +kernel
theorem dX12_remembers_51 : decode cX12_remembers 51 = .ok (.istore_n 1, 1) := by decide +kernel
theorem dX12_remembers_52 : decode cX12_remembers 52 = .ok (.iload_n 1, 1) := by decide +kernel
theorem dX12_remembers_53 : decode cX12_remembers 53 = .ok (.sipush 1607, 3) := by decide +kernel
theorem dX12_remembers_56 : decode cX12_remembers 56 = .ok (.if_icmp .ge 30, 3) := by decide +kernel
theorem dX12_remembers_59 : decode cX12_remembers 59 = .ok (.aload_n 0, 1) := by decide +kernel
theorem dX12_remembers_60 : decode cX12_remembers 60 = .ok (.getfield 77, 3) := by decide +kernel
theorem dX12_remembers_63 : decode cX12_remembers 63 = .ok (.sipush 1607, 3) := by decide +kernel
theorem dX12_remembers_66 : decode cX12_remembers 66 = .ok (.aload_n 0, 1) := by decide +kernel
theorem dX12_remembers_67 : decode cX12_remembers 67 = .ok (.getfield 80, 3) := by decide +kernel
theorem dX12_remembers_70 : decode cX12_remembers 70 = .ok (.imul, 1) := by decide +kernel
theorem dX12_remembers_71 : decode cX12_remembers 71 = .ok (.iload_n 1, 1) := by decide +kernel
theorem dX12_remembers_72 : decode cX12_remembers 72 = .ok (.iadd, 1) := by decide +kernel
theorem dX12_remembers_73 : decode cX12_remembers 73 = .ok (.aload_n 0, 1) := by decide +kernel
theorem dX12_remembers_74 : decode cX12_remembers 74 = .ok (.getfield 71, 3) := by decide +kernel
theorem dX12_remembers_77 : decode cX12_remembers 77 = .ok (.iload_n 1, 1) := by decide +kernel
theorem dX12_remembers_78 : decode cX12_remembers 78 = .ok (.iaload, 1) := by decide +kernel
theorem dX12_remembers_79 : decode cX12_remembers 79 = .ok (.iastore, 1) := by decide +kernel
theorem dX12_remembers_80 : decode cX12_remembers 80 = .ok (.iinc 1 1, 3) := by decide +kernel
theorem dX12_remembers_83 : decode cX12_remembers 83 = .ok (.goto (-31), 3) := by decide +kernel
theorem dX12_remembers_86 : decode cX12_remembers 86 = .ok (.aload_n 0, 1) := by decide +kernel
theorem dX12_remembers_87 : decode cX12_remembers 87 = .ok (.dup, 1) := by decide +kernel
theorem dX12_remembers_88 : decode cX12_remembers 88 = .ok (.getfield 80, 3) := by decide +kernel
theorem dX12_remembers_91 : decode cX12_remembers 91 = .ok (.iconst 1, 1) := by decide +kernel
theorem dX12_remembers_92 : decode cX12_remembers 92 = .ok (.iadd, 1) := by decide +kernel
theorem dX12_remembers_93 : decode cX12_remembers 93 = .ok (.putfield 80, 3) := by decide +kernel
theorem dX12_remembers_96 : decode cX12_remembers 96 = .ok (.return_, 1) := by decide +kernel
abbrev rm_M_remembers : Room := { frames := 0, cells := 0, slots := 0, locals := 0 }
def M_remembers_l11 (σ : Sg) (x1 : Int32) : Option ((Sg × Int32) ⊕ (Sg × Int32)) :=
  if 30533 ≤ x1 then (
    some (.inr (σ, x1))
  ) else (
    zrd σ 185 32140 (x1 + 1607) fun v32 =>
    zwr σ 185 32140 x1 v32 fun σ33 =>
    zlt (x1 + 1) fun v34 =>
    some (.inl (σ33, v34))
  )
set_option maxRecDepth 20000 in
theorem t_M_remembers_l11 {X : Zx} {Q : State → Prop} {σ : Sg} {x1 : Int32} (ok : Zok X cX12_remembers RX12 rm_M_remembers 198 2)  {out : ((Sg × Int32) ⊕ (Sg × Int32))} (hf : M_remembers_l11 σ x1 = some out) (hk : zout (fun (s : (Sg × Int32)) => ZAt X Q 0 0 11 s.1 [(0, .ref (X.ad 171)), (1, .int s.2)] []) (fun (s : (Sg × Int32)) => ZAt X Q 0 0 40 s.1 [(0, .ref (X.ad 171))] []) out) : ZAt X Q 0 0 11 σ [(0, .ref (X.ad 171)), (1, .int x1)] [] := by
  unfold M_remembers_l11 at hf
  refine z_iload_n ok dX12_remembers_11 1 rfl ?_
  refine z_sipush (v := 30533) ok dX12_remembers_12 (by decide) ?_
  refine z_icmp_ge (tgt := 40) ok dX12_remembers_15 (by decide) hf (fun _ hf => ?_) (fun _ hf => ?_)
  · obtain rfl := Option.some.inj hf
    exact z_sub [0] rfl hk
  · refine z_aload_n ok dX12_remembers_18 0 rfl ?_
    refine z_getr (q := 185) ok kc_171 zc_12 hin_12 22 (by decide) fl_12_77 rfl dX12_remembers_19 ?_
    refine z_iload_n ok dX12_remembers_22 1 rfl ?_
    refine z_aload_n ok dX12_remembers_23 0 rfl ?_
    refine z_getr (q := 185) ok kc_171 zc_12 hin_12 22 (by decide) fl_12_77 rfl dX12_remembers_24 ?_
    refine z_iload_n ok dX12_remembers_27 1 rfl ?_
    refine z_sipush (v := 1607) ok dX12_remembers_28 (by decide) ?_
    refine z_iadd ok dX12_remembers_31 ?_
    refine z_iald ok kc_185 dX12_remembers_32 hf (fun v32 hf => ?_)
    refine z_iast ok kc_185 dX12_remembers_33 hf (fun σ33 hf => ?_)
    refine z_iinc (w := 1) (lv' := fun v34 => [(1, .int v34), (0, .ref (X.ad 171))]) ok dX12_remembers_34 1 rfl (by decide) (by decide) (fun _ => rfl) hf (fun v34 hf => ?_)
    refine z_goto (tgt := 11) ok dX12_remembers_37 (by decide) ?_
    obtain rfl := Option.some.inj hf
    exact z_sub [1, 0] rfl hk
def M_remembers_l52 (σ : Sg) (x1 : Int32) : Option ((Sg × Int32) ⊕ (Sg × Int32)) :=
  if 1607 ≤ x1 then (
    some (.inr (σ, x1))
  ) else (
    zgt σ 171 23 fun v67 =>
    zrd σ 183 1607 x1 fun v78 =>
    zwr σ 185 32140 ((1607 * v67) + x1) v78 fun σ79 =>
    zlt (x1 + 1) fun v80 =>
    some (.inl (σ79, v80))
  )
set_option maxRecDepth 20000 in
theorem t_M_remembers_l52 {X : Zx} {Q : State → Prop} {σ : Sg} {x1 : Int32} (ok : Zok X cX12_remembers RX12 rm_M_remembers 198 2)  {out : ((Sg × Int32) ⊕ (Sg × Int32))} (hf : M_remembers_l52 σ x1 = some out) (hk : zout (fun (s : (Sg × Int32)) => ZAt X Q 0 0 52 s.1 [(0, .ref (X.ad 171)), (1, .int s.2)] []) (fun (s : (Sg × Int32)) => ZAt X Q 0 0 86 s.1 [(0, .ref (X.ad 171))] []) out) : ZAt X Q 0 0 52 σ [(0, .ref (X.ad 171)), (1, .int x1)] [] := by
  unfold M_remembers_l52 at hf
  refine z_iload_n ok dX12_remembers_52 1 rfl ?_
  refine z_sipush (v := 1607) ok dX12_remembers_53 (by decide) ?_
  refine z_icmp_ge (tgt := 86) ok dX12_remembers_56 (by decide) hf (fun _ hf => ?_) (fun _ hf => ?_)
  · obtain rfl := Option.some.inj hf
    exact z_sub [0] rfl hk
  · refine z_aload_n ok dX12_remembers_59 0 rfl ?_
    refine z_getr (q := 185) ok kc_171 zc_12 hin_12 22 (by decide) fl_12_77 rfl dX12_remembers_60 ?_
    refine z_sipush (v := 1607) ok dX12_remembers_63 (by decide) ?_
    refine z_aload_n ok dX12_remembers_66 0 rfl ?_
    refine z_geti ok kc_171 zc_12 hin_12 23 (by decide) fl_12_80 rfl dX12_remembers_67 hf (fun v67 hf => ?_)
    refine z_imul ok dX12_remembers_70 ?_
    refine z_iload_n ok dX12_remembers_71 1 rfl ?_
    refine z_iadd ok dX12_remembers_72 ?_
    refine z_aload_n ok dX12_remembers_73 0 rfl ?_
    refine z_getr (q := 183) ok kc_171 zc_12 hin_12 20 (by decide) fl_12_71 rfl dX12_remembers_74 ?_
    refine z_iload_n ok dX12_remembers_77 1 rfl ?_
    refine z_iald ok kc_183 dX12_remembers_78 hf (fun v78 hf => ?_)
    refine z_iast ok kc_185 dX12_remembers_79 hf (fun σ79 hf => ?_)
    refine z_iinc (w := 1) (lv' := fun v80 => [(1, .int v80), (0, .ref (X.ad 171))]) ok dX12_remembers_80 1 rfl (by decide) (by decide) (fun _ => rfl) hf (fun v80 hf => ?_)
    refine z_goto (tgt := 52) ok dX12_remembers_83 (by decide) ?_
    obtain rfl := Option.some.inj hf
    exact z_sub [1, 0] rfl hk
def M_remembers_j50 (σ : Sg)  : Option Sg :=
  zlt 0 fun v51 =>
  (zit (fun (s : (Sg × Int32)) => M_remembers_l52 s.1 s.2) zFU (σ, v51)).bind fun r =>
  zgt r.1 171 23 fun v88 =>
  zpt r.1 171 23 (v88 + 1) fun σ93 =>
  some σ93
set_option maxRecDepth 20000 in
theorem t_M_remembers_j50 {X : Zx} {Q : State → Prop} {σ : Sg}  (ok : Zok X cX12_remembers RX12 rm_M_remembers 198 2)  {out : Sg} (hf : M_remembers_j50 σ = some out) (hk : ZrV cX12_remembers X Q out) : ZAt X Q 0 0 50 σ [(0, .ref (X.ad 171))] [] := by
  unfold M_remembers_j50 at hf
  refine z_iconst (v := 0) ok dX12_remembers_50 (by decide) ?_
  refine z_nm hf (fun v51 hf => ?_)
  refine z_istore_n (lv' := [(1, .int v51), (0, .ref (X.ad 171))]) ok dX12_remembers_51 (by decide) rfl ?_
  refine z_call hf (fun r hr hf => ?_)
  refine z_sub [1, 0] rfl (z_iter (fun (s : (Sg × Int32)) => s.1) (fun (s : (Sg × Int32)) => [(0, .ref (X.ad 171)), (1, .int s.2)]) (fun s o h1 h2 => t_M_remembers_l52 ok h1 h2) _ _ _ hr ?_)
  show ZAt X Q 0 0 86 r.1 [(0, .ref (X.ad 171))] []
  refine z_aload_n ok dX12_remembers_86 0 rfl ?_
  refine z_dup ok dX12_remembers_87 rfl ?_
  refine z_geti ok kc_171 zc_12 hin_12 23 (by decide) fl_12_80 rfl dX12_remembers_88 hf (fun v88 hf => ?_)
  refine z_iconst (v := 1) ok dX12_remembers_91 (by decide) ?_
  refine z_iadd ok dX12_remembers_92 ?_
  refine z_puti ok kc_171 zc_12 hin_12 tyX12 tyX12_ok nmX12 23 (by decide) fl_12_80 rfl rfl (tyX12_ok 23 (by decide)) dX12_remembers_93 hf (fun σ93 hf => ?_)
  obtain rfl := Option.some.inj hf
  exact hk _ _ dX12_remembers_96
def M_remembers_j40 (σ : Sg)  : Option Sg :=
  zgt σ 171 23 fun v42 =>
  zpt σ 171 23 (v42 - 1) fun σ47 =>
  M_remembers_j50 σ47
set_option maxRecDepth 20000 in
theorem t_M_remembers_j40 {X : Zx} {Q : State → Prop} {σ : Sg}  (ok : Zok X cX12_remembers RX12 rm_M_remembers 198 2)  {out : Sg} (hf : M_remembers_j40 σ = some out) (hk : ZrV cX12_remembers X Q out) : ZAt X Q 0 0 40 σ [(0, .ref (X.ad 171))] [] := by
  unfold M_remembers_j40 at hf
  refine z_aload_n ok dX12_remembers_40 0 rfl ?_
  refine z_dup ok dX12_remembers_41 rfl ?_
  refine z_geti ok kc_171 zc_12 hin_12 23 (by decide) fl_12_80 rfl dX12_remembers_42 hf (fun v42 hf => ?_)
  refine z_iconst (v := 1) ok dX12_remembers_45 (by decide) ?_
  refine z_isub ok dX12_remembers_46 ?_
  refine z_puti ok kc_171 zc_12 hin_12 tyX12 tyX12_ok nmX12 23 (by decide) fl_12_80 rfl rfl (tyX12_ok 23 (by decide)) dX12_remembers_47 hf (fun σ47 hf => ?_)
  exact z_sub [0] rfl (t_M_remembers_j50 ok hf hk)
def M_remembers (σ : Sg)  : Option Sg :=
  zgt σ 171 23 fun v1 =>
  if v1 = 20 then (
    zlt 0 fun v10 =>
    (zit (fun (s : (Sg × Int32)) => M_remembers_l11 s.1 s.2) zFU (σ, v10)).bind fun r =>
    M_remembers_j40 r.1
  ) else (
    M_remembers_j50 σ
  )
set_option maxRecDepth 20000 in
theorem t_M_remembers {X : Zx} {Q : State → Prop} {σ : Sg}  (ok : Zok X cX12_remembers RX12 rm_M_remembers 198 2)  {out : Sg} (hf : M_remembers σ = some out) (hk : ZrV cX12_remembers X Q out) : ZAt X Q 0 0 0 σ [(0, .ref (X.ad 171))] [] := by
  unfold M_remembers at hf
  refine z_aload_n ok dX12_remembers_0 0 rfl ?_
  refine z_geti ok kc_171 zc_12 hin_12 23 (by decide) fl_12_80 rfl dX12_remembers_1 hf (fun v1 hf => ?_)
  refine z_bipush (v := 20) ok dX12_remembers_4 (by decide) ?_
  refine z_icmp_ne (tgt := 50) ok dX12_remembers_6 (by decide) hf (fun _ hf => ?_) (fun _ hf => ?_)
  · refine z_iconst (v := 0) ok dX12_remembers_9 (by decide) ?_
    refine z_nm hf (fun v10 hf => ?_)
    refine z_istore_n (lv' := [(1, .int v10), (0, .ref (X.ad 171))]) ok dX12_remembers_10 (by decide) rfl ?_
    refine z_call hf (fun r hr hf => ?_)
    refine z_sub [1, 0] rfl (z_iter (fun (s : (Sg × Int32)) => s.1) (fun (s : (Sg × Int32)) => [(0, .ref (X.ad 171)), (1, .int s.2)]) (fun s o h1 h2 => t_M_remembers_l11 ok h1 h2) _ _ _ hr ?_)
    show ZAt X Q 0 0 40 r.1 [(0, .ref (X.ad 171))] []
    exact z_sub [0] rfl (t_M_remembers_j40 ok hf hk)
  · exact z_sub [0] rfl (t_M_remembers_j50 ok hf hk)
theorem c_M_remembers {σ : Sg} {r : Sg} (h : M_remembers σ = some r) : ZcV yX12_remembers cX12_remembers 2 rm_M_remembers 198 (fun ad => [.ref (ad 171)]) σ r :=
  zmetV pn_12 rfl (fun _ => rfl) (fun _ => Nat.le_of_ble_eq_true rfl) (fun X Q ok hk => t_M_remembers ok h hk)
theorem dX12_steps_0 : decode cX12_steps 0 = .ok (.aload_n 0, 1) := by decide +kernel
theorem dX12_steps_1 : decode cX12_steps 1 = .ok (.getfield 86, 3) := by decide +kernel
theorem dX12_steps_4 : decode cX12_steps 4 = .ok (.ifCond .eq 29, 3) := by decide +kernel
theorem dX12_steps_7 : decode cX12_steps 7 = .ok (.iload_n 1, 1) := by decide +kernel
theorem dX12_steps_8 : decode cX12_steps 8 = .ok (.iconst 1, 1) := by decide +kernel
theorem dX12_steps_9 : decode cX12_steps 9 = .ok (.bipush 100, 2) := by decide +kernel
theorem dX12_steps_11 : decode cX12_steps 11 = .ok (.invokestatic 198, 3) := by decide +kernel
theorem dX12_steps_14 : decode cX12_steps 14 = .ok (.ifCond .eq 19, 3) := by decide +kernel
theorem dX12_steps_17 : decode cX12_steps 17 = .ok (.aload_n 0, 1) := by decide +kernel
theorem dX12_steps_18 : decode cX12_steps 18 = .ok (.getfield 71, 3) := by decide +kernel
theorem dX12_steps_21 : decode cX12_steps 21 = .ok (.sipush 196, 3) := by decide +kernel
theorem dX12_steps_24 : decode cX12_steps 24 = .ok (.iaload, 1) := by decide +kernel
theorem dX12_steps_25 : decode cX12_steps 25 = .ok (.iload_n 1, 1) := by decide +kernel
theorem dX12_steps_26 : decode cX12_steps 26 = .ok (.iadd, 1) := by decide +kernel
theorem dX12_steps_27 : decode cX12_steps 27 = .ok (.sipush 9999, 3) := by decide +kernel
theorem dX12_steps_30 : decode cX12_steps 30 = .ok (.if_icmp .le 9, 3) := by decide +kernel
theorem dX12_steps_33 : decode cX12_steps 33 = .ok (.aload_n 0, 1) := by decide +kernel
theorem dX12_steps_34 : decode cX12_steps 34 = .ok (.iconst 2, 1) := by decide +kernel
theorem dX12_steps_35 : decode cX12_steps 35 = .ok (.invokevirtual 159, 3) := by decide +kernel
theorem dX12_steps_38 : decode cX12_steps 38 = .ok (.ireturn, 1) := by decide +kernel
theorem dX12_steps_39 : decode cX12_steps 39 = .ok (.aload_n 0, 1) := by decide +kernel
theorem dX12_steps_40 : decode cX12_steps 40 = .ok (.invokevirtual 375, 3) := by decide +kernel
theorem dX12_steps_43 : decode cX12_steps 43 = .ok (.iconst 0, 1) := by decide +kernel
theorem dX12_steps_44 : decode cX12_steps 44 = .ok (.istore_n 2, 1) := by decide +kernel
theorem dX12_steps_45 : decode cX12_steps 45 = .ok (.iload_n 2, 1) := by decide +kernel
theorem dX12_steps_46 : decode cX12_steps 46 = .ok (.iload_n 1, 1) := by decide +kernel
theorem dX12_steps_47 : decode cX12_steps 47 = .ok (.if_icmp .ge 13, 3) := by decide +kernel
theorem dX12_steps_50 : decode cX12_steps 50 = .ok (.aload_n 0, 1) := by decide +kernel
theorem dX12_steps_51 : decode cX12_steps 51 = .ok (.invokevirtual 346, 3) := by decide +kernel
theorem dX12_steps_54 : decode cX12_steps 54 = .ok (.iinc 2 1, 3) := by decide +kernel
theorem dX12_steps_57 : decode cX12_steps 57 = .ok (.goto (-12), 3) := by decide +kernel
theorem dX12_steps_60 : decode cX12_steps 60 = .ok (.aload_n 0, 1) := by decide +kernel
theorem dX12_steps_61 : decode cX12_steps 61 = .ok (.getfield 71, 3) := by decide +kernel
theorem dX12_steps_64 : decode cX12_steps 64 = .ok (.sipush 196, 3) := by decide +kernel
theorem dX12_steps_67 : decode cX12_steps 67 = .ok (.iaload, 1) := by decide +kernel
theorem dX12_steps_68 : decode cX12_steps 68 = .ok (.ireturn, 1) := by decide +kernel
abbrev rm_M_steps : Room := { frames := 9, cells := 0, slots := 0, locals := 204 }
def M_steps_l45 (σ : Sg) (x1 : Int32) (x2 : Int32) : Option ((Sg × Int32) ⊕ (Sg × Int32)) :=
  if x1 ≤ x2 then (
    some (.inr (σ, x2))
  ) else (
    (M_stepsOn σ).bind fun r51 =>
    zlt (x2 + 1) fun v54 =>
    some (.inl (r51, v54))
  )
set_option maxRecDepth 20000 in
theorem t_M_steps_l45 {X : Zx} {Q : State → Prop} {σ : Sg} {x1 : Int32} {x2 : Int32} (ok : Zok X cX12_steps RX12 rm_M_steps 198 3)  {out : ((Sg × Int32) ⊕ (Sg × Int32))} (hf : M_steps_l45 σ x1 x2 = some out) (hk : zout (fun (s : (Sg × Int32)) => ZAt X Q 0 0 45 s.1 [(0, .ref (X.ad 171)), (1, .int x1), (2, .int s.2)] []) (fun (s : (Sg × Int32)) => ZAt X Q 0 0 60 s.1 [(0, .ref (X.ad 171))] []) out) : ZAt X Q 0 0 45 σ [(0, .ref (X.ad 171)), (1, .int x1), (2, .int x2)] [] := by
  unfold M_steps_l45 at hf
  refine z_iload_n ok dX12_steps_45 2 rfl ?_
  refine z_iload_n ok dX12_steps_46 1 rfl ?_
  refine z_icmp_ge (tgt := 60) ok dX12_steps_47 (by decide) hf (fun _ hf => ?_) (fun _ hf => ?_)
  · obtain rfl := Option.some.inj hf
    exact z_sub [0] rfl hk
  · refine z_aload_n ok dX12_steps_50 0 rfl ?_
    refine z_call hf (fun r51 h51 hf => ?_)
    refine z_cVv (As := []) (rest := []) (w := 171) ok kc_171 zc_12 (c_M_stepsOn h51) rfl ⟨ml_12_346, w_M_stepsOn⟩ hy_M_stepsOn ⟨rfl, rfl⟩ ⟨Nat.le_of_ble_eq_true rfl, Nat.le_of_ble_eq_true rfl⟩ ⟨Nat.zero_le _, Nat.zero_le _⟩ rfl (Nat.le_of_ble_eq_true rfl) dX12_steps_51 ?_
    refine z_iinc (w := 1) (lv' := fun v54 => [(2, .int v54), (0, .ref (X.ad 171)), (1, .int x1)]) ok dX12_steps_54 2 rfl (by decide) (by decide) (fun _ => rfl) hf (fun v54 hf => ?_)
    refine z_goto (tgt := 45) ok dX12_steps_57 (by decide) ?_
    obtain rfl := Option.some.inj hf
    exact z_sub [1, 2, 0] rfl hk
def M_steps (σ : Sg) (x1 : Int32) : Option (Int32 × Sg) :=
  zgt σ 171 25 fun v1 =>
  if v1 = 0 then (
    (M_refuses σ 2).bind fun r35 =>
    some (r35.1, r35.2)
  ) else (
    (M_isIn x1 1 100).bind fun r11 =>
    if (zb r11) = 0 then (
      (M_refuses σ 2).bind fun r35 =>
      some (r35.1, r35.2)
    ) else (
      zrd σ 183 1607 196 fun v24 =>
      if (v24 + x1) ≤ 9999 then (
        (M_remembers σ).bind fun r40 =>
        zlt 0 fun v44 =>
        (zit (fun (s : (Sg × Int32)) => M_steps_l45 s.1 x1 s.2) zFU (r40, v44)).bind fun r =>
        zrd r.1 183 1607 196 fun v67 =>
        some (v67, r.1)
      ) else (
        (M_refuses σ 2).bind fun r35 =>
        some (r35.1, r35.2)
      )
    )
  )
set_option maxRecDepth 20000 in
theorem t_M_steps {X : Zx} {Q : State → Prop} {σ : Sg} {x1 : Int32} (ok : Zok X cX12_steps RX12 rm_M_steps 198 3)  {out : (Int32 × Sg)} (hf : M_steps σ x1 = some out) (hk : ZrI cX12_steps X Q out.1 out.2) : ZAt X Q 0 0 0 σ [(0, .ref (X.ad 171)), (1, .int x1)] [] := by
  unfold M_steps at hf
  refine z_aload_n ok dX12_steps_0 0 rfl ?_
  refine z_geti ok kc_171 zc_12 hin_12 25 (by decide) fl_12_86 rfl dX12_steps_1 hf (fun v1 hf => ?_)
  refine z_if_eq (tgt := 33) ok dX12_steps_4 (by decide) hf (fun _ hf => ?_) (fun _ hf => ?_)
  · refine z_aload_n ok dX12_steps_33 0 rfl ?_
    refine z_iconst (v := 2) ok dX12_steps_34 (by decide) ?_
    refine z_call hf (fun r35 h35 hf => ?_)
    refine z_cV (As := [.int 2]) (rest := []) (w := 171) ok kc_171 zc_12 (c_M_refuses h35) rfl ⟨ml_12_159, w_M_refuses⟩ hy_M_refuses ⟨rfl, rfl⟩ ⟨Nat.le_of_ble_eq_true rfl, Nat.le_of_ble_eq_true rfl⟩ ⟨Nat.zero_le _, Nat.zero_le _⟩ rfl (Nat.le_of_ble_eq_true rfl) dX12_steps_35 ?_
    obtain rfl := Option.some.inj hf
    exact hk _ _ dX12_steps_38
  · refine z_iload_n ok dX12_steps_7 1 rfl ?_
    refine z_iconst (v := 1) ok dX12_steps_8 (by decide) ?_
    refine z_bipush (v := 100) ok dX12_steps_9 (by decide) ?_
    refine z_call hf (fun r11 h11 hf => ?_)
    refine z_cS (As := [.int x1, .int 1, .int 100]) (rest := []) ok (c_M_isIn h11) rfl ⟨ml_12_198, w_M_isIn⟩ hy_M_isIn ⟨rfl, rfl⟩ ⟨Nat.le_of_ble_eq_true rfl, Nat.le_of_ble_eq_true rfl⟩ ⟨Nat.zero_le _, Nat.zero_le _⟩ rfl (Nat.le_of_ble_eq_true rfl) dX12_steps_11 ?_
    refine z_if_eq (tgt := 33) ok dX12_steps_14 (by decide) hf (fun _ hf => ?_) (fun _ hf => ?_)
    · refine z_aload_n ok dX12_steps_33 0 rfl ?_
      refine z_iconst (v := 2) ok dX12_steps_34 (by decide) ?_
      refine z_call hf (fun r35 h35 hf => ?_)
      refine z_cV (As := [.int 2]) (rest := []) (w := 171) ok kc_171 zc_12 (c_M_refuses h35) rfl ⟨ml_12_159, w_M_refuses⟩ hy_M_refuses ⟨rfl, rfl⟩ ⟨Nat.le_of_ble_eq_true rfl, Nat.le_of_ble_eq_true rfl⟩ ⟨Nat.zero_le _, Nat.zero_le _⟩ rfl (Nat.le_of_ble_eq_true rfl) dX12_steps_35 ?_
      obtain rfl := Option.some.inj hf
      exact hk _ _ dX12_steps_38
    · refine z_aload_n ok dX12_steps_17 0 rfl ?_
      refine z_getr (q := 183) ok kc_171 zc_12 hin_12 20 (by decide) fl_12_71 rfl dX12_steps_18 ?_
      refine z_sipush (v := 196) ok dX12_steps_21 (by decide) ?_
      refine z_iald ok kc_183 dX12_steps_24 hf (fun v24 hf => ?_)
      refine z_iload_n ok dX12_steps_25 1 rfl ?_
      refine z_iadd ok dX12_steps_26 ?_
      refine z_sipush (v := 9999) ok dX12_steps_27 (by decide) ?_
      refine z_icmp_le (tgt := 39) ok dX12_steps_30 (by decide) hf (fun _ hf => ?_) (fun _ hf => ?_)
      · refine z_aload_n ok dX12_steps_39 0 rfl ?_
        refine z_call hf (fun r40 h40 hf => ?_)
        refine z_cVv (As := []) (rest := []) (w := 171) ok kc_171 zc_12 (c_M_remembers h40) rfl ⟨ml_12_375, w_M_remembers⟩ hy_M_remembers ⟨rfl, rfl⟩ ⟨Nat.le_of_ble_eq_true rfl, Nat.le_of_ble_eq_true rfl⟩ ⟨Nat.zero_le _, Nat.zero_le _⟩ rfl (Nat.le_of_ble_eq_true rfl) dX12_steps_40 ?_
        refine z_iconst (v := 0) ok dX12_steps_43 (by decide) ?_
        refine z_nm hf (fun v44 hf => ?_)
        refine z_istore_n (lv' := [(2, .int v44), (0, .ref (X.ad 171)), (1, .int x1)]) ok dX12_steps_44 (by decide) rfl ?_
        refine z_call hf (fun r hr hf => ?_)
        refine z_sub [1, 2, 0] rfl (z_iter (fun (s : (Sg × Int32)) => s.1) (fun (s : (Sg × Int32)) => [(0, .ref (X.ad 171)), (1, .int x1), (2, .int s.2)]) (fun s o h1 h2 => t_M_steps_l45 ok h1 h2) _ _ _ hr ?_)
        show ZAt X Q 0 0 60 r.1 [(0, .ref (X.ad 171))] []
        refine z_aload_n ok dX12_steps_60 0 rfl ?_
        refine z_getr (q := 183) ok kc_171 zc_12 hin_12 20 (by decide) fl_12_71 rfl dX12_steps_61 ?_
        refine z_sipush (v := 196) ok dX12_steps_64 (by decide) ?_
        refine z_iald ok kc_183 dX12_steps_67 hf (fun v67 hf => ?_)
        obtain rfl := Option.some.inj hf
        exact hk _ _ dX12_steps_68
      · refine z_aload_n ok dX12_steps_33 0 rfl ?_
        refine z_iconst (v := 2) ok dX12_steps_34 (by decide) ?_
        refine z_call hf (fun r35 h35 hf => ?_)
        refine z_cV (As := [.int 2]) (rest := []) (w := 171) ok kc_171 zc_12 (c_M_refuses h35) rfl ⟨ml_12_159, w_M_refuses⟩ hy_M_refuses ⟨rfl, rfl⟩ ⟨Nat.le_of_ble_eq_true rfl, Nat.le_of_ble_eq_true rfl⟩ ⟨Nat.zero_le _, Nat.zero_le _⟩ rfl (Nat.le_of_ble_eq_true rfl) dX12_steps_35 ?_
        obtain rfl := Option.some.inj hf
        exact hk _ _ dX12_steps_38
theorem c_M_steps {σ : Sg} {x1 : Int32} {r : (Int32 × Sg)} (h : M_steps σ x1 = some r) : ZcI yX12_steps cX12_steps 3 .int rm_M_steps 198 (fun ad => [.ref (ad 171), .int x1]) σ r.1 r.2 :=
  zmetI pn_12 rfl (fun _ => rfl) (fun _ => Nat.le_of_ble_eq_true rfl) rfl (fun X Q ok hk => t_M_steps ok h hk)
theorem dX12_draw_0 : decode cX12_draw 0 = .ok (.aload_n 0, 1) := by decide +kernel
theorem dX12_draw_1 : decode cX12_draw 1 = .ok (.ldc2_w 378, 3) := by decide +kernel
theorem dX12_draw_4 : decode cX12_draw 4 = .ok (.aload_n 0, 1) := by decide +kernel
theorem dX12_draw_5 : decode cX12_draw 5 = .ok (.getfield 83, 3) := by decide +kernel
theorem dX12_draw_8 : decode cX12_draw 8 = .ok (.i2l, 1) := by decide +kernel
theorem dX12_draw_9 : decode cX12_draw 9 = .ok (.lmul, 1) := by decide +kernel
theorem dX12_draw_10 : decode cX12_draw 10 = .ok (.ldc2_w 380, 3) := by decide +kernel
theorem dX12_draw_13 : decode cX12_draw 13 = .ok (.ladd, 1) := by decide +kernel
theorem dX12_draw_14 : decode cX12_draw 14 = .ok (.ldc2_w 382, 3) := by decide +kernel
theorem dX12_draw_17 : decode cX12_draw 17 = .ok (.lrem, 1) := by decide +kernel
theorem dX12_draw_18 : decode cX12_draw 18 = .ok (.l2i, 1) := by decide +kernel
theorem dX12_draw_19 : decode cX12_draw 19 = .ok (.putfield 83, 3) := by decide +kernel
theorem dX12_draw_22 : decode cX12_draw 22 = .ok (.aload_n 0, 1) := by decide +kernel
theorem dX12_draw_23 : decode cX12_draw 23 = .ok (.getfield 83, 3) := by decide +kernel
theorem dX12_draw_26 : decode cX12_draw 26 = .ok (.bipush 64, 2) := by decide +kernel
theorem dX12_draw_28 : decode cX12_draw 28 = .ok (.idiv, 1) := by decide +kernel
theorem dX12_draw_29 : decode cX12_draw 29 = .ok (.iload_n 1, 1) := by decide +kernel
theorem dX12_draw_30 : decode cX12_draw 30 = .ok (.irem, 1) := by decide +kernel
theorem dX12_draw_31 : decode cX12_draw 31 = .ok (.ireturn, 1) := by decide +kernel
abbrev rm_M_draw : Room := { frames := 0, cells := 0, slots := 0, locals := 0 }
def M_draw (σ : Sg) (x1 : Int32) : Option (Int32 × Sg) :=
  zgt σ 171 24 fun v5 =>
  zpt σ 171 24 ((((1103515245 * v5.toInt64) + 12345) - ((1103515245 * v5.toInt64) + 12345) / 2147483648 * 2147483648)).toInt32 fun σ19 =>
  zgt σ19 171 24 fun v23 =>
  znz x1 <|
  some (((v23 / 64) - (v23 / 64) / x1 * x1), σ19)
set_option maxRecDepth 20000 in
theorem t_M_draw {X : Zx} {Q : State → Prop} {σ : Sg} {x1 : Int32} (ok : Zok X cX12_draw RX12 rm_M_draw 198 2)  {out : (Int32 × Sg)} (hf : M_draw σ x1 = some out) (hk : ZrI cX12_draw X Q out.1 out.2) : ZAt X Q 0 0 0 σ [(0, .ref (X.ad 171)), (1, .int x1)] [] := by
  unfold M_draw at hf
  refine z_aload_n ok dX12_draw_0 0 rfl ?_
  refine z_ldc2_w (v := 1103515245) ok dX12_draw_1 wl_12_378 ?_
  refine z_aload_n ok dX12_draw_4 0 rfl ?_
  refine z_geti ok kc_171 zc_12 hin_12 24 (by decide) fl_12_83 rfl dX12_draw_5 hf (fun v5 hf => ?_)
  refine z_i2l ok dX12_draw_8 ?_
  refine z_lmul ok dX12_draw_9 ?_
  refine z_ldc2_w (v := 12345) ok dX12_draw_10 wl_12_380 ?_
  refine z_ladd ok dX12_draw_13 ?_
  refine z_ldc2_w (v := 2147483648) ok dX12_draw_14 wl_12_382 ?_
  refine z_lrem ok dX12_draw_17 (by decide) ?_
  refine z_l2i ok dX12_draw_18 ?_
  refine z_puti ok kc_171 zc_12 hin_12 tyX12 tyX12_ok nmX12 24 (by decide) fl_12_83 rfl rfl (tyX12_ok 24 (by decide)) dX12_draw_19 hf (fun σ19 hf => ?_)
  refine z_aload_n ok dX12_draw_22 0 rfl ?_
  refine z_geti ok kc_171 zc_12 hin_12 24 (by decide) fl_12_83 rfl dX12_draw_23 hf (fun v23 hf => ?_)
  refine z_bipush (v := 64) ok dX12_draw_26 (by decide) ?_
  refine z_idivc ok dX12_draw_28 (by decide) ?_
  refine z_iload_n ok dX12_draw_29 1 rfl ?_
  refine z_irem ok dX12_draw_30 hf (fun hf => ?_)
  obtain rfl := Option.some.inj hf
  exact hk _ _ dX12_draw_31
theorem c_M_draw {σ : Sg} {x1 : Int32} {r : (Int32 × Sg)} (h : M_draw σ x1 = some r) : ZcI yX12_draw cX12_draw 2 .int rm_M_draw 198 (fun ad => [.ref (ad 171), .int x1]) σ r.1 r.2 :=
  zmetI pn_12 rfl (fun _ => rfl) (fun _ => Nat.le_of_ble_eq_true rfl) rfl (fun X Q ok hk => t_M_draw ok h hk)
theorem dX12_rains_0 : decode cX12_rains 0 = .ok (.aload_n 0, 1) := by decide +kernel
theorem dX12_rains_1 : decode cX12_rains 1 = .ok (.getfield 71, 3) := by decide +kernel
theorem dX12_rains_4 : decode cX12_rains 4 = .ok (.iconst 0, 1) := by decide +kernel
theorem dX12_rains_5 : decode cX12_rains 5 = .ok (.iload_n 1, 1) := by decide +kernel
theorem dX12_rains_6 : decode cX12_rains 6 = .ok (.iadd, 1) := by decide +kernel
theorem dX12_rains_7 : decode cX12_rains 7 = .ok (.dup2, 1) := by decide +kernel
theorem dX12_rains_8 : decode cX12_rains 8 = .ok (.iaload, 1) := by decide +kernel
theorem dX12_rains_9 : decode cX12_rains 9 = .ok (.iload_n 2, 1) := by decide +kernel
theorem dX12_rains_10 : decode cX12_rains 10 = .ok (.iadd, 1) := by decide +kernel
theorem dX12_rains_11 : decode cX12_rains 11 = .ok (.iastore, 1) := by decide +kernel
theorem dX12_rains_12 : decode cX12_rains 12 = .ok (.aload_n 0, 1) := by decide +kernel
theorem dX12_rains_13 : decode cX12_rains 13 = .ok (.getfield 126, 3) := by decide +kernel
theorem dX12_rains_16 : decode cX12_rains 16 = .ok (.iload_n 1, 1) := by decide +kernel
theorem dX12_rains_17 : decode cX12_rains 17 = .ok (.dup2, 1) := by decide +kernel
theorem dX12_rains_18 : decode cX12_rains 18 = .ok (.iaload, 1) := by decide +kernel
theorem dX12_rains_19 : decode cX12_rains 19 = .ok (.iload_n 2, 1) := by decide +kernel
theorem dX12_rains_20 : decode cX12_rains 20 = .ok (.iadd, 1) := by decide +kernel
theorem dX12_rains_21 : decode cX12_rains 21 = .ok (.iastore, 1) := by decide +kernel
theorem dX12_rains_22 : decode cX12_rains 22 = .ok (.aload_n 0, 1) := by decide +kernel
theorem dX12_rains_23 : decode cX12_rains 23 = .ok (.getfield 71, 3) := by decide +kernel
theorem dX12_rains_26 : decode cX12_rains 26 = .ok (.sipush 204, 3) := by decide +kernel
theorem dX12_rains_29 : decode cX12_rains 29 = .ok (.dup2, 1) := by decide +kernel
theorem dX12_rains_30 : decode cX12_rains 30 = .ok (.iaload, 1) := by decide +kernel
theorem dX12_rains_31 : decode cX12_rains 31 = .ok (.iload_n 2, 1) := by decide +kernel
theorem dX12_rains_32 : decode cX12_rains 32 = .ok (.iadd, 1) := by decide +kernel
theorem dX12_rains_33 : decode cX12_rains 33 = .ok (.iastore, 1) := by decide +kernel
theorem dX12_rains_34 : decode cX12_rains 34 = .ok (.return_, 1) := by decide +kernel
abbrev rm_M_rains : Room := { frames := 0, cells := 0, slots := 0, locals := 0 }
def M_rains (σ : Sg) (x1 : Int32) (x2 : Int32) : Option Sg :=
  zrd σ 183 1607 (0 + x1) fun v8 =>
  zwr σ 183 1607 (0 + x1) (v8 + x2) fun σ11 =>
  zrd σ11 189 8 x1 fun v18 =>
  zwr σ11 189 8 x1 (v18 + x2) fun σ21 =>
  zrd σ21 183 1607 204 fun v30 =>
  zwr σ21 183 1607 204 (v30 + x2) fun σ33 =>
  some σ33
set_option maxRecDepth 20000 in
theorem t_M_rains {X : Zx} {Q : State → Prop} {σ : Sg} {x1 : Int32} {x2 : Int32} (ok : Zok X cX12_rains RX12 rm_M_rains 198 3)  {out : Sg} (hf : M_rains σ x1 x2 = some out) (hk : ZrV cX12_rains X Q out) : ZAt X Q 0 0 0 σ [(0, .ref (X.ad 171)), (1, .int x1), (2, .int x2)] [] := by
  unfold M_rains at hf
  refine z_aload_n ok dX12_rains_0 0 rfl ?_
  refine z_getr (q := 183) ok kc_171 zc_12 hin_12 20 (by decide) fl_12_71 rfl dX12_rains_1 ?_
  refine z_iconst (v := 0) ok dX12_rains_4 (by decide) ?_
  refine z_iload_n ok dX12_rains_5 1 rfl ?_
  refine z_iadd ok dX12_rains_6 ?_
  refine z_dup2 ok dX12_rains_7 rfl rfl ?_
  refine z_iald ok kc_183 dX12_rains_8 hf (fun v8 hf => ?_)
  refine z_iload_n ok dX12_rains_9 2 rfl ?_
  refine z_iadd ok dX12_rains_10 ?_
  refine z_iast ok kc_183 dX12_rains_11 hf (fun σ11 hf => ?_)
  refine z_aload_n ok dX12_rains_12 0 rfl ?_
  refine z_getr (q := 189) ok kc_171 zc_12 hin_12 38 (by decide) fl_12_126 rfl dX12_rains_13 ?_
  refine z_iload_n ok dX12_rains_16 1 rfl ?_
  refine z_dup2 ok dX12_rains_17 rfl rfl ?_
  refine z_iald ok kc_189 dX12_rains_18 hf (fun v18 hf => ?_)
  refine z_iload_n ok dX12_rains_19 2 rfl ?_
  refine z_iadd ok dX12_rains_20 ?_
  refine z_iast ok kc_189 dX12_rains_21 hf (fun σ21 hf => ?_)
  refine z_aload_n ok dX12_rains_22 0 rfl ?_
  refine z_getr (q := 183) ok kc_171 zc_12 hin_12 20 (by decide) fl_12_71 rfl dX12_rains_23 ?_
  refine z_sipush (v := 204) ok dX12_rains_26 (by decide) ?_
  refine z_dup2 ok dX12_rains_29 rfl rfl ?_
  refine z_iald ok kc_183 dX12_rains_30 hf (fun v30 hf => ?_)
  refine z_iload_n ok dX12_rains_31 2 rfl ?_
  refine z_iadd ok dX12_rains_32 ?_
  refine z_iast ok kc_183 dX12_rains_33 hf (fun σ33 hf => ?_)
  obtain rfl := Option.some.inj hf
  exact hk _ _ dX12_rains_34
theorem c_M_rains {σ : Sg} {x1 : Int32} {x2 : Int32} {r : Sg} (h : M_rains σ x1 x2 = some r) : ZcV yX12_rains cX12_rains 3 rm_M_rains 198 (fun ad => [.ref (ad 171), .int x1, .int x2]) σ r :=
  zmetV pn_12 rfl (fun _ => rfl) (fun _ => Nat.le_of_ble_eq_true rfl) (fun X Q ok hk => t_M_rains ok h hk)
theorem dX12_chance_0 : decode cX12_chance 0 = .ok (.aload_n 0, 1) := by decide +kernel
theorem dX12_chance_1 : decode cX12_chance 1 = .ok (.getfield 7, 3) := by decide +kernel
theorem dX12_chance_4 : decode cX12_chance 4 = .ok (.ifCond .eq 29, 3) := by decide +kernel
theorem dX12_chance_7 : decode cX12_chance 7 = .ok (.iload_n 1, 1) := by decide +kernel
theorem dX12_chance_8 : decode cX12_chance 8 = .ok (.iconst 1, 1) := by decide +kernel
theorem dX12_chance_9 : decode cX12_chance 9 = .ok (.bipush 60, 2) := by decide +kernel
theorem dX12_chance_11 : decode cX12_chance 11 = .ok (.invokestatic 198, 3) := by decide +kernel
theorem dX12_chance_14 : decode cX12_chance 14 = .ok (.ifCond .eq 19, 3) := by decide +kernel
theorem dX12_chance_17 : decode cX12_chance 17 = .ok (.aload_n 0, 1) := by decide +kernel
theorem dX12_chance_18 : decode cX12_chance 18 = .ok (.getfield 71, 3) := by decide +kernel
theorem dX12_chance_21 : decode cX12_chance 21 = .ok (.sipush 196, 3) := by decide +kernel
theorem dX12_chance_24 : decode cX12_chance 24 = .ok (.iaload, 1) := by decide +kernel
theorem dX12_chance_25 : decode cX12_chance 25 = .ok (.iload_n 1, 1) := by decide +kernel
theorem dX12_chance_26 : decode cX12_chance 26 = .ok (.iadd, 1) := by decide +kernel
theorem dX12_chance_27 : decode cX12_chance 27 = .ok (.sipush 9999, 3) := by decide +kernel
theorem dX12_chance_30 : decode cX12_chance 30 = .ok (.if_icmp .le 9, 3) := by decide +kernel
theorem dX12_chance_33 : decode cX12_chance 33 = .ok (.aload_n 0, 1) := by decide +kernel
theorem dX12_chance_34 : decode cX12_chance 34 = .ok (.iconst 2, 1) := by decide +kernel
theorem dX12_chance_35 : decode cX12_chance 35 = .ok (.invokevirtual 159, 3) := by decide +kernel
theorem dX12_chance_38 : decode cX12_chance 38 = .ok (.ireturn, 1) := by decide +kernel
theorem dX12_chance_39 : decode cX12_chance 39 = .ok (.aload_n 0, 1) := by decide +kernel
theorem dX12_chance_40 : decode cX12_chance 40 = .ok (.invokevirtual 375, 3) := by decide +kernel
theorem dX12_chance_43 : decode cX12_chance 43 = .ok (.iconst 0, 1) := by decide +kernel
theorem dX12_chance_44 : decode cX12_chance 44 = .ok (.istore_n 2, 1) := by decide +kernel
theorem dX12_chance_45 : decode cX12_chance 45 = .ok (.iload_n 2, 1) := by decide +kernel
theorem dX12_chance_46 : decode cX12_chance 46 = .ok (.iload_n 1, 1) := by decide +kernel
theorem dX12_chance_47 : decode cX12_chance 47 = .ok (.if_icmp .ge 37, 3) := by decide +kernel
theorem dX12_chance_50 : decode cX12_chance 50 = .ok (.aload_n 0, 1) := by decide +kernel
theorem dX12_chance_51 : decode cX12_chance 51 = .ok (.invokevirtual 312, 3) := by decide +kernel
theorem dX12_chance_54 : decode cX12_chance 54 = .ok (.aload_n 0, 1) := by decide +kernel
theorem dX12_chance_55 : decode cX12_chance 55 = .ok (.aload_n 0, 1) := by decide +kernel
theorem dX12_chance_56 : decode cX12_chance 56 = .ok (.getfield 7, 3) := by decide +kernel
theorem dX12_chance_59 : decode cX12_chance 59 = .ok (.invokevirtual 384, 3) := by decide +kernel
theorem dX12_chance_62 : decode cX12_chance 62 = .ok (.istore_n 3, 1) := by decide +kernel
theorem dX12_chance_63 : decode cX12_chance 63 = .ok (.aload_n 0, 1) := by decide +kernel
theorem dX12_chance_64 : decode cX12_chance 64 = .ok (.iload_n 3, 1) := by decide +kernel
theorem dX12_chance_65 : decode cX12_chance 65 = .ok (.aload_n 0, 1) := by decide +kernel
theorem dX12_chance_66 : decode cX12_chance 66 = .ok (.bipush 20, 2) := by decide +kernel
theorem dX12_chance_68 : decode cX12_chance 68 = .ok (.invokevirtual 384, 3) := by decide +kernel
theorem dX12_chance_71 : decode cX12_chance 71 = .ok (.invokevirtual 387, 3) := by decide +kernel
theorem dX12_chance_74 : decode cX12_chance 74 = .ok (.aload_n 0, 1) := by decide +kernel
theorem dX12_chance_75 : decode cX12_chance 75 = .ok (.invokevirtual 315, 3) := by decide +kernel
theorem dX12_chance_78 : decode cX12_chance 78 = .ok (.iinc 2 1, 3) := by decide +kernel
theorem dX12_chance_81 : decode cX12_chance 81 = .ok (.goto (-36), 3) := by decide +kernel
theorem dX12_chance_84 : decode cX12_chance 84 = .ok (.aload_n 0, 1) := by decide +kernel
theorem dX12_chance_85 : decode cX12_chance 85 = .ok (.getfield 71, 3) := by decide +kernel
theorem dX12_chance_88 : decode cX12_chance 88 = .ok (.sipush 196, 3) := by decide +kernel
theorem dX12_chance_91 : decode cX12_chance 91 = .ok (.iaload, 1) := by decide +kernel
theorem dX12_chance_92 : decode cX12_chance 92 = .ok (.ireturn, 1) := by decide +kernel
abbrev rm_M_chance : Room := { frames := 8, cells := 0, slots := 0, locals := 184 }
def M_chance_l45 (σ : Sg) (x1 : Int32) (x2 : Int32) : Option ((Sg × Int32) ⊕ (Sg × Int32)) :=
  if x1 ≤ x2 then (
    some (.inr (σ, x2))
  ) else (
    (M_begins σ).bind fun r51 =>
    zgt r51 171 0 fun v56 =>
    (M_draw r51 v56).bind fun r59 =>
    zlt r59.1 fun v62 =>
    (M_draw r59.2 20).bind fun r68 =>
    (M_rains r68.2 v62 r68.1).bind fun r71 =>
    (M_goes r71).bind fun r75 =>
    zlt (x2 + 1) fun v78 =>
    some (.inl (r75, v78))
  )
set_option maxRecDepth 20000 in
theorem t_M_chance_l45 {X : Zx} {Q : State → Prop} {σ : Sg} {x1 : Int32} {x2 : Int32} (ok : Zok X cX12_chance RX12 rm_M_chance 198 4)  {out : ((Sg × Int32) ⊕ (Sg × Int32))} (hf : M_chance_l45 σ x1 x2 = some out) (hk : zout (fun (s : (Sg × Int32)) => ZAt X Q 0 0 45 s.1 [(0, .ref (X.ad 171)), (1, .int x1), (2, .int s.2)] []) (fun (s : (Sg × Int32)) => ZAt X Q 0 0 84 s.1 [(0, .ref (X.ad 171))] []) out) : ZAt X Q 0 0 45 σ [(0, .ref (X.ad 171)), (1, .int x1), (2, .int x2)] [] := by
  unfold M_chance_l45 at hf
  refine z_iload_n ok dX12_chance_45 2 rfl ?_
  refine z_iload_n ok dX12_chance_46 1 rfl ?_
  refine z_icmp_ge (tgt := 84) ok dX12_chance_47 (by decide) hf (fun _ hf => ?_) (fun _ hf => ?_)
  · obtain rfl := Option.some.inj hf
    exact z_sub [0] rfl hk
  · refine z_aload_n ok dX12_chance_50 0 rfl ?_
    refine z_call hf (fun r51 h51 hf => ?_)
    refine z_cVv (As := []) (rest := []) (w := 171) ok kc_171 zc_12 (c_M_begins h51) rfl ⟨ml_12_312, w_M_begins⟩ hy_M_begins ⟨rfl, rfl⟩ ⟨Nat.le_of_ble_eq_true rfl, Nat.le_of_ble_eq_true rfl⟩ ⟨Nat.zero_le _, Nat.zero_le _⟩ rfl (Nat.le_of_ble_eq_true rfl) dX12_chance_51 ?_
    refine z_aload_n ok dX12_chance_54 0 rfl ?_
    refine z_aload_n ok dX12_chance_55 0 rfl ?_
    refine z_geti ok kc_171 zc_12 hin_12 0 (by decide) fl_12_7 rfl dX12_chance_56 hf (fun v56 hf => ?_)
    refine z_call hf (fun r59 h59 hf => ?_)
    refine z_cV (As := [.int v56]) (rest := []) (w := 171) ok kc_171 zc_12 (c_M_draw h59) rfl ⟨ml_12_384, w_M_draw⟩ hy_M_draw ⟨rfl, rfl⟩ ⟨Nat.le_of_ble_eq_true rfl, Nat.le_of_ble_eq_true rfl⟩ ⟨Nat.zero_le _, Nat.zero_le _⟩ rfl (Nat.le_of_ble_eq_true rfl) dX12_chance_59 ?_
    refine z_nm hf (fun v62 hf => ?_)
    refine z_istore_n (lv' := [(3, .int v62), (0, .ref (X.ad 171)), (1, .int x1), (2, .int x2)]) ok dX12_chance_62 (by decide) rfl ?_
    refine z_aload_n ok dX12_chance_63 1 rfl ?_
    refine z_iload_n ok dX12_chance_64 0 rfl ?_
    refine z_aload_n ok dX12_chance_65 1 rfl ?_
    refine z_bipush (v := 20) ok dX12_chance_66 (by decide) ?_
    refine z_call hf (fun r68 h68 hf => ?_)
    refine z_cV (As := [.int 20]) (rest := [.int v62, .ref (X.ad 171)]) (w := 171) ok kc_171 zc_12 (c_M_draw h68) rfl ⟨ml_12_384, w_M_draw⟩ hy_M_draw ⟨rfl, rfl⟩ ⟨Nat.le_of_ble_eq_true rfl, Nat.le_of_ble_eq_true rfl⟩ ⟨Nat.zero_le _, Nat.zero_le _⟩ rfl (Nat.le_of_ble_eq_true rfl) dX12_chance_68 ?_
    refine z_call hf (fun r71 h71 hf => ?_)
    refine z_cVv (As := [.int v62, .int r68.1]) (rest := []) (w := 171) ok kc_171 zc_12 (c_M_rains h71) rfl ⟨ml_12_387, w_M_rains⟩ hy_M_rains ⟨rfl, rfl⟩ ⟨Nat.le_of_ble_eq_true rfl, Nat.le_of_ble_eq_true rfl⟩ ⟨Nat.zero_le _, Nat.zero_le _⟩ rfl (Nat.le_of_ble_eq_true rfl) dX12_chance_71 ?_
    refine z_aload_n ok dX12_chance_74 1 rfl ?_
    refine z_call hf (fun r75 h75 hf => ?_)
    refine z_cVv (As := []) (rest := []) (w := 171) ok kc_171 zc_12 (c_M_goes h75) rfl ⟨ml_12_315, w_M_goes⟩ hy_M_goes ⟨rfl, rfl⟩ ⟨Nat.le_of_ble_eq_true rfl, Nat.le_of_ble_eq_true rfl⟩ ⟨Nat.zero_le _, Nat.zero_le _⟩ rfl (Nat.le_of_ble_eq_true rfl) dX12_chance_75 ?_
    refine z_iinc (w := 1) (lv' := fun v78 => [(2, .int v78), (3, .int v62), (0, .ref (X.ad 171)), (1, .int x1)]) ok dX12_chance_78 3 rfl (by decide) (by decide) (fun _ => rfl) hf (fun v78 hf => ?_)
    refine z_goto (tgt := 45) ok dX12_chance_81 (by decide) ?_
    obtain rfl := Option.some.inj hf
    exact z_sub [2, 3, 0] rfl hk
def M_chance (σ : Sg) (x1 : Int32) : Option (Int32 × Sg) :=
  zgt σ 171 0 fun v1 =>
  if v1 = 0 then (
    (M_refuses σ 2).bind fun r35 =>
    some (r35.1, r35.2)
  ) else (
    (M_isIn x1 1 60).bind fun r11 =>
    if (zb r11) = 0 then (
      (M_refuses σ 2).bind fun r35 =>
      some (r35.1, r35.2)
    ) else (
      zrd σ 183 1607 196 fun v24 =>
      if (v24 + x1) ≤ 9999 then (
        (M_remembers σ).bind fun r40 =>
        zlt 0 fun v44 =>
        (zit (fun (s : (Sg × Int32)) => M_chance_l45 s.1 x1 s.2) zFU (r40, v44)).bind fun r =>
        zrd r.1 183 1607 196 fun v91 =>
        some (v91, r.1)
      ) else (
        (M_refuses σ 2).bind fun r35 =>
        some (r35.1, r35.2)
      )
    )
  )
set_option maxRecDepth 20000 in
theorem t_M_chance {X : Zx} {Q : State → Prop} {σ : Sg} {x1 : Int32} (ok : Zok X cX12_chance RX12 rm_M_chance 198 4)  {out : (Int32 × Sg)} (hf : M_chance σ x1 = some out) (hk : ZrI cX12_chance X Q out.1 out.2) : ZAt X Q 0 0 0 σ [(0, .ref (X.ad 171)), (1, .int x1)] [] := by
  unfold M_chance at hf
  refine z_aload_n ok dX12_chance_0 0 rfl ?_
  refine z_geti ok kc_171 zc_12 hin_12 0 (by decide) fl_12_7 rfl dX12_chance_1 hf (fun v1 hf => ?_)
  refine z_if_eq (tgt := 33) ok dX12_chance_4 (by decide) hf (fun _ hf => ?_) (fun _ hf => ?_)
  · refine z_aload_n ok dX12_chance_33 0 rfl ?_
    refine z_iconst (v := 2) ok dX12_chance_34 (by decide) ?_
    refine z_call hf (fun r35 h35 hf => ?_)
    refine z_cV (As := [.int 2]) (rest := []) (w := 171) ok kc_171 zc_12 (c_M_refuses h35) rfl ⟨ml_12_159, w_M_refuses⟩ hy_M_refuses ⟨rfl, rfl⟩ ⟨Nat.le_of_ble_eq_true rfl, Nat.le_of_ble_eq_true rfl⟩ ⟨Nat.zero_le _, Nat.zero_le _⟩ rfl (Nat.le_of_ble_eq_true rfl) dX12_chance_35 ?_
    obtain rfl := Option.some.inj hf
    exact hk _ _ dX12_chance_38
  · refine z_iload_n ok dX12_chance_7 1 rfl ?_
    refine z_iconst (v := 1) ok dX12_chance_8 (by decide) ?_
    refine z_bipush (v := 60) ok dX12_chance_9 (by decide) ?_
    refine z_call hf (fun r11 h11 hf => ?_)
    refine z_cS (As := [.int x1, .int 1, .int 60]) (rest := []) ok (c_M_isIn h11) rfl ⟨ml_12_198, w_M_isIn⟩ hy_M_isIn ⟨rfl, rfl⟩ ⟨Nat.le_of_ble_eq_true rfl, Nat.le_of_ble_eq_true rfl⟩ ⟨Nat.zero_le _, Nat.zero_le _⟩ rfl (Nat.le_of_ble_eq_true rfl) dX12_chance_11 ?_
    refine z_if_eq (tgt := 33) ok dX12_chance_14 (by decide) hf (fun _ hf => ?_) (fun _ hf => ?_)
    · refine z_aload_n ok dX12_chance_33 0 rfl ?_
      refine z_iconst (v := 2) ok dX12_chance_34 (by decide) ?_
      refine z_call hf (fun r35 h35 hf => ?_)
      refine z_cV (As := [.int 2]) (rest := []) (w := 171) ok kc_171 zc_12 (c_M_refuses h35) rfl ⟨ml_12_159, w_M_refuses⟩ hy_M_refuses ⟨rfl, rfl⟩ ⟨Nat.le_of_ble_eq_true rfl, Nat.le_of_ble_eq_true rfl⟩ ⟨Nat.zero_le _, Nat.zero_le _⟩ rfl (Nat.le_of_ble_eq_true rfl) dX12_chance_35 ?_
      obtain rfl := Option.some.inj hf
      exact hk _ _ dX12_chance_38
    · refine z_aload_n ok dX12_chance_17 0 rfl ?_
      refine z_getr (q := 183) ok kc_171 zc_12 hin_12 20 (by decide) fl_12_71 rfl dX12_chance_18 ?_
      refine z_sipush (v := 196) ok dX12_chance_21 (by decide) ?_
      refine z_iald ok kc_183 dX12_chance_24 hf (fun v24 hf => ?_)
      refine z_iload_n ok dX12_chance_25 1 rfl ?_
      refine z_iadd ok dX12_chance_26 ?_
      refine z_sipush (v := 9999) ok dX12_chance_27 (by decide) ?_
      refine z_icmp_le (tgt := 39) ok dX12_chance_30 (by decide) hf (fun _ hf => ?_) (fun _ hf => ?_)
      · refine z_aload_n ok dX12_chance_39 0 rfl ?_
        refine z_call hf (fun r40 h40 hf => ?_)
        refine z_cVv (As := []) (rest := []) (w := 171) ok kc_171 zc_12 (c_M_remembers h40) rfl ⟨ml_12_375, w_M_remembers⟩ hy_M_remembers ⟨rfl, rfl⟩ ⟨Nat.le_of_ble_eq_true rfl, Nat.le_of_ble_eq_true rfl⟩ ⟨Nat.zero_le _, Nat.zero_le _⟩ rfl (Nat.le_of_ble_eq_true rfl) dX12_chance_40 ?_
        refine z_iconst (v := 0) ok dX12_chance_43 (by decide) ?_
        refine z_nm hf (fun v44 hf => ?_)
        refine z_istore_n (lv' := [(2, .int v44), (0, .ref (X.ad 171)), (1, .int x1)]) ok dX12_chance_44 (by decide) rfl ?_
        refine z_call hf (fun r hr hf => ?_)
        refine z_sub [1, 2, 0] rfl (z_iter (fun (s : (Sg × Int32)) => s.1) (fun (s : (Sg × Int32)) => [(0, .ref (X.ad 171)), (1, .int x1), (2, .int s.2)]) (fun s o h1 h2 => t_M_chance_l45 ok h1 h2) _ _ _ hr ?_)
        show ZAt X Q 0 0 84 r.1 [(0, .ref (X.ad 171))] []
        refine z_aload_n ok dX12_chance_84 0 rfl ?_
        refine z_getr (q := 183) ok kc_171 zc_12 hin_12 20 (by decide) fl_12_71 rfl dX12_chance_85 ?_
        refine z_sipush (v := 196) ok dX12_chance_88 (by decide) ?_
        refine z_iald ok kc_183 dX12_chance_91 hf (fun v91 hf => ?_)
        obtain rfl := Option.some.inj hf
        exact hk _ _ dX12_chance_92
      · refine z_aload_n ok dX12_chance_33 0 rfl ?_
        refine z_iconst (v := 2) ok dX12_chance_34 (by decide) ?_
        refine z_call hf (fun r35 h35 hf => ?_)
        refine z_cV (As := [.int 2]) (rest := []) (w := 171) ok kc_171 zc_12 (c_M_refuses h35) rfl ⟨ml_12_159, w_M_refuses⟩ hy_M_refuses ⟨rfl, rfl⟩ ⟨Nat.le_of_ble_eq_true rfl, Nat.le_of_ble_eq_true rfl⟩ ⟨Nat.zero_le _, Nat.zero_le _⟩ rfl (Nat.le_of_ble_eq_true rfl) dX12_chance_35 ?_
        obtain rfl := Option.some.inj hf
        exact hk _ _ dX12_chance_38
theorem c_M_chance {σ : Sg} {x1 : Int32} {r : (Int32 × Sg)} (h : M_chance σ x1 = some r) : ZcI yX12_chance cX12_chance 4 .int rm_M_chance 198 (fun ad => [.ref (ad 171), .int x1]) σ r.1 r.2 :=
  zmetI pn_12 rfl (fun _ => rfl) (fun _ => Nat.le_of_ble_eq_true rfl) rfl (fun X Q ok hk => t_M_chance ok h hk)
theorem dX12_ask_0 : decode cX12_ask 0 = .ok (.aload_n 0, 1) := by decide +kernel
theorem dX12_ask_1 : decode cX12_ask 1 = .ok (.iload_n 1, 1) := by decide +kernel
theorem dX12_ask_2 : decode cX12_ask 2 = .ok (.invokevirtual 324, 3) := by decide +kernel
theorem dX12_ask_5 : decode cX12_ask 5 = .ok (.ifCond .eq 44, 3) := by decide +kernel
theorem dX12_ask_8 : decode cX12_ask 8 = .ok (.iload_n 2, 1) := by decide +kernel
theorem dX12_ask_9 : decode cX12_ask 9 = .ok (.aload_n 0, 1) := by decide +kernel
theorem dX12_ask_10 : decode cX12_ask 10 = .ok (.getfield 71, 3) := by decide +kernel
theorem dX12_ask_13 : decode cX12_ask 13 = .ok (.sipush 196, 3) := by decide +kernel
theorem dX12_ask_16 : decode cX12_ask 16 = .ok (.iaload, 1) := by decide +kernel
theorem dX12_ask_17 : decode cX12_ask 17 = .ok (.sipush 9999, 3) := by decide +kernel
theorem dX12_ask_20 : decode cX12_ask 20 = .ok (.invokestatic 198, 3) := by decide +kernel
theorem dX12_ask_23 : decode cX12_ask 23 = .ok (.ifCond .eq 26, 3) := by decide +kernel
theorem dX12_ask_26 : decode cX12_ask 26 = .ok (.iload_n 3, 1) := by decide +kernel
theorem dX12_ask_27 : decode cX12_ask 27 = .ok (.iconst 1, 1) := by decide +kernel
theorem dX12_ask_28 : decode cX12_ask 28 = .ok (.bipush 99, 2) := by decide +kernel
theorem dX12_ask_30 : decode cX12_ask 30 = .ok (.invokestatic 198, 3) := by decide +kernel
theorem dX12_ask_33 : decode cX12_ask 33 = .ok (.ifCond .eq 16, 3) := by decide +kernel
theorem dX12_ask_36 : decode cX12_ask 36 = .ok (.aload_n 0, 1) := by decide +kernel
theorem dX12_ask_37 : decode cX12_ask 37 = .ok (.getfield 71, 3) := by decide +kernel
theorem dX12_ask_40 : decode cX12_ask 40 = .ok (.sipush 199, 3) := by decide +kernel
theorem dX12_ask_43 : decode cX12_ask 43 = .ok (.iaload, 1) := by decide +kernel
theorem dX12_ask_44 : decode cX12_ask 44 = .ok (.bipush 16, 2) := by decide +kernel
theorem dX12_ask_46 : decode cX12_ask 46 = .ok (.if_icmp .ne 9, 3) := by decide +kernel
theorem dX12_ask_49 : decode cX12_ask 49 = .ok (.aload_n 0, 1) := by decide +kernel
theorem dX12_ask_50 : decode cX12_ask 50 = .ok (.iconst 3, 1) := by decide +kernel
theorem dX12_ask_51 : decode cX12_ask 51 = .ok (.invokevirtual 159, 3) := by decide +kernel
theorem dX12_ask_54 : decode cX12_ask 54 = .ok (.ireturn, 1) := by decide +kernel
theorem dX12_ask_55 : decode cX12_ask 55 = .ok (.aload_n 0, 1) := by decide +kernel
theorem dX12_ask_56 : decode cX12_ask 56 = .ok (.invokevirtual 375, 3) := by decide +kernel
theorem dX12_ask_59 : decode cX12_ask 59 = .ok (.aload_n 0, 1) := by decide +kernel
theorem dX12_ask_60 : decode cX12_ask 60 = .ok (.iload_n 1, 1) := by decide +kernel
theorem dX12_ask_61 : decode cX12_ask 61 = .ok (.iload_n 2, 1) := by decide +kernel
theorem dX12_ask_62 : decode cX12_ask 62 = .ok (.iload_n 3, 1) := by decide +kernel
theorem dX12_ask_63 : decode cX12_ask 63 = .ok (.invokevirtual 368, 3) := by decide +kernel
theorem dX12_ask_66 : decode cX12_ask 66 = .ok (.aload_n 0, 1) := by decide +kernel
theorem dX12_ask_67 : decode cX12_ask 67 = .ok (.getfield 71, 3) := by decide +kernel
theorem dX12_ask_70 : decode cX12_ask 70 = .ok (.sipush 199, 3) := by decide +kernel
theorem dX12_ask_73 : decode cX12_ask 73 = .ok (.iaload, 1) := by decide +kernel
theorem dX12_ask_74 : decode cX12_ask 74 = .ok (.iconst 1, 1) := by decide +kernel
theorem dX12_ask_75 : decode cX12_ask 75 = .ok (.isub, 1) := by decide +kernel
theorem dX12_ask_76 : decode cX12_ask 76 = .ok (.ireturn, 1) := by decide +kernel
abbrev rm_M_ask : Room := { frames := 2, cells := 0, slots := 0, locals := 43 }
def M_ask (σ : Sg) (x1 : Int32) (x2 : Int32) (x3 : Int32) : Option (Int32 × Sg) :=
  (M_isOutlet σ x1).bind fun r2 =>
  if (zb r2) = 0 then (
    (M_refuses σ 3).bind fun r51 =>
    some (r51.1, r51.2)
  ) else (
    zrd σ 183 1607 196 fun v16 =>
    (M_isIn x2 v16 9999).bind fun r20 =>
    if (zb r20) = 0 then (
      (M_refuses σ 3).bind fun r51 =>
      some (r51.1, r51.2)
    ) else (
      (M_isIn x3 1 99).bind fun r30 =>
      if (zb r30) = 0 then (
        (M_refuses σ 3).bind fun r51 =>
        some (r51.1, r51.2)
      ) else (
        zrd σ 183 1607 199 fun v43 =>
        if v43 = 16 then (
          (M_refuses σ 3).bind fun r51 =>
          some (r51.1, r51.2)
        ) else (
          (M_remembers σ).bind fun r56 =>
          (M_laysOrder r56 x1 x2 x3).bind fun r63 =>
          zrd r63 183 1607 199 fun v73 =>
          some ((v73 - 1), r63)
        )
      )
    )
  )
set_option maxRecDepth 20000 in
theorem t_M_ask {X : Zx} {Q : State → Prop} {σ : Sg} {x1 : Int32} {x2 : Int32} {x3 : Int32} (ok : Zok X cX12_ask RX12 rm_M_ask 198 4)  {out : (Int32 × Sg)} (hf : M_ask σ x1 x2 x3 = some out) (hk : ZrI cX12_ask X Q out.1 out.2) : ZAt X Q 0 0 0 σ [(0, .ref (X.ad 171)), (1, .int x1), (2, .int x2), (3, .int x3)] [] := by
  unfold M_ask at hf
  refine z_aload_n ok dX12_ask_0 0 rfl ?_
  refine z_iload_n ok dX12_ask_1 1 rfl ?_
  refine z_call hf (fun r2 h2 hf => ?_)
  refine z_cV (As := [.int x1]) (rest := []) (w := 171) ok kc_171 zc_12 (c_M_isOutlet h2) rfl ⟨ml_12_324, w_M_isOutlet⟩ hy_M_isOutlet ⟨rfl, rfl⟩ ⟨Nat.le_of_ble_eq_true rfl, Nat.le_of_ble_eq_true rfl⟩ ⟨Nat.zero_le _, Nat.zero_le _⟩ rfl (Nat.le_of_ble_eq_true rfl) dX12_ask_2 ?_
  refine z_if_eq (tgt := 49) ok dX12_ask_5 (by decide) hf (fun _ hf => ?_) (fun _ hf => ?_)
  · refine z_aload_n ok dX12_ask_49 0 rfl ?_
    refine z_iconst (v := 3) ok dX12_ask_50 (by decide) ?_
    refine z_call hf (fun r51 h51 hf => ?_)
    refine z_cV (As := [.int 3]) (rest := []) (w := 171) ok kc_171 zc_12 (c_M_refuses h51) rfl ⟨ml_12_159, w_M_refuses⟩ hy_M_refuses ⟨rfl, rfl⟩ ⟨Nat.le_of_ble_eq_true rfl, Nat.le_of_ble_eq_true rfl⟩ ⟨Nat.zero_le _, Nat.zero_le _⟩ rfl (Nat.le_of_ble_eq_true rfl) dX12_ask_51 ?_
    obtain rfl := Option.some.inj hf
    exact hk _ _ dX12_ask_54
  · refine z_iload_n ok dX12_ask_8 2 rfl ?_
    refine z_aload_n ok dX12_ask_9 0 rfl ?_
    refine z_getr (q := 183) ok kc_171 zc_12 hin_12 20 (by decide) fl_12_71 rfl dX12_ask_10 ?_
    refine z_sipush (v := 196) ok dX12_ask_13 (by decide) ?_
    refine z_iald ok kc_183 dX12_ask_16 hf (fun v16 hf => ?_)
    refine z_sipush (v := 9999) ok dX12_ask_17 (by decide) ?_
    refine z_call hf (fun r20 h20 hf => ?_)
    refine z_cS (As := [.int x2, .int v16, .int 9999]) (rest := []) ok (c_M_isIn h20) rfl ⟨ml_12_198, w_M_isIn⟩ hy_M_isIn ⟨rfl, rfl⟩ ⟨Nat.le_of_ble_eq_true rfl, Nat.le_of_ble_eq_true rfl⟩ ⟨Nat.zero_le _, Nat.zero_le _⟩ rfl (Nat.le_of_ble_eq_true rfl) dX12_ask_20 ?_
    refine z_if_eq (tgt := 49) ok dX12_ask_23 (by decide) hf (fun _ hf => ?_) (fun _ hf => ?_)
    · refine z_aload_n ok dX12_ask_49 0 rfl ?_
      refine z_iconst (v := 3) ok dX12_ask_50 (by decide) ?_
      refine z_call hf (fun r51 h51 hf => ?_)
      refine z_cV (As := [.int 3]) (rest := []) (w := 171) ok kc_171 zc_12 (c_M_refuses h51) rfl ⟨ml_12_159, w_M_refuses⟩ hy_M_refuses ⟨rfl, rfl⟩ ⟨Nat.le_of_ble_eq_true rfl, Nat.le_of_ble_eq_true rfl⟩ ⟨Nat.zero_le _, Nat.zero_le _⟩ rfl (Nat.le_of_ble_eq_true rfl) dX12_ask_51 ?_
      obtain rfl := Option.some.inj hf
      exact hk _ _ dX12_ask_54
    · refine z_iload_n ok dX12_ask_26 3 rfl ?_
      refine z_iconst (v := 1) ok dX12_ask_27 (by decide) ?_
      refine z_bipush (v := 99) ok dX12_ask_28 (by decide) ?_
      refine z_call hf (fun r30 h30 hf => ?_)
      refine z_cS (As := [.int x3, .int 1, .int 99]) (rest := []) ok (c_M_isIn h30) rfl ⟨ml_12_198, w_M_isIn⟩ hy_M_isIn ⟨rfl, rfl⟩ ⟨Nat.le_of_ble_eq_true rfl, Nat.le_of_ble_eq_true rfl⟩ ⟨Nat.zero_le _, Nat.zero_le _⟩ rfl (Nat.le_of_ble_eq_true rfl) dX12_ask_30 ?_
      refine z_if_eq (tgt := 49) ok dX12_ask_33 (by decide) hf (fun _ hf => ?_) (fun _ hf => ?_)
      · refine z_aload_n ok dX12_ask_49 0 rfl ?_
        refine z_iconst (v := 3) ok dX12_ask_50 (by decide) ?_
        refine z_call hf (fun r51 h51 hf => ?_)
        refine z_cV (As := [.int 3]) (rest := []) (w := 171) ok kc_171 zc_12 (c_M_refuses h51) rfl ⟨ml_12_159, w_M_refuses⟩ hy_M_refuses ⟨rfl, rfl⟩ ⟨Nat.le_of_ble_eq_true rfl, Nat.le_of_ble_eq_true rfl⟩ ⟨Nat.zero_le _, Nat.zero_le _⟩ rfl (Nat.le_of_ble_eq_true rfl) dX12_ask_51 ?_
        obtain rfl := Option.some.inj hf
        exact hk _ _ dX12_ask_54
      · refine z_aload_n ok dX12_ask_36 0 rfl ?_
        refine z_getr (q := 183) ok kc_171 zc_12 hin_12 20 (by decide) fl_12_71 rfl dX12_ask_37 ?_
        refine z_sipush (v := 199) ok dX12_ask_40 (by decide) ?_
        refine z_iald ok kc_183 dX12_ask_43 hf (fun v43 hf => ?_)
        refine z_bipush (v := 16) ok dX12_ask_44 (by decide) ?_
        refine z_icmp_ne (tgt := 55) ok dX12_ask_46 (by decide) hf (fun _ hf => ?_) (fun _ hf => ?_)
        · refine z_aload_n ok dX12_ask_49 0 rfl ?_
          refine z_iconst (v := 3) ok dX12_ask_50 (by decide) ?_
          refine z_call hf (fun r51 h51 hf => ?_)
          refine z_cV (As := [.int 3]) (rest := []) (w := 171) ok kc_171 zc_12 (c_M_refuses h51) rfl ⟨ml_12_159, w_M_refuses⟩ hy_M_refuses ⟨rfl, rfl⟩ ⟨Nat.le_of_ble_eq_true rfl, Nat.le_of_ble_eq_true rfl⟩ ⟨Nat.zero_le _, Nat.zero_le _⟩ rfl (Nat.le_of_ble_eq_true rfl) dX12_ask_51 ?_
          obtain rfl := Option.some.inj hf
          exact hk _ _ dX12_ask_54
        · refine z_aload_n ok dX12_ask_55 0 rfl ?_
          refine z_call hf (fun r56 h56 hf => ?_)
          refine z_cVv (As := []) (rest := []) (w := 171) ok kc_171 zc_12 (c_M_remembers h56) rfl ⟨ml_12_375, w_M_remembers⟩ hy_M_remembers ⟨rfl, rfl⟩ ⟨Nat.le_of_ble_eq_true rfl, Nat.le_of_ble_eq_true rfl⟩ ⟨Nat.zero_le _, Nat.zero_le _⟩ rfl (Nat.le_of_ble_eq_true rfl) dX12_ask_56 ?_
          refine z_aload_n ok dX12_ask_59 0 rfl ?_
          refine z_iload_n ok dX12_ask_60 1 rfl ?_
          refine z_iload_n ok dX12_ask_61 2 rfl ?_
          refine z_iload_n ok dX12_ask_62 3 rfl ?_
          refine z_call hf (fun r63 h63 hf => ?_)
          refine z_cVv (As := [.int x1, .int x2, .int x3]) (rest := []) (w := 171) ok kc_171 zc_12 (c_M_laysOrder h63) rfl ⟨ml_12_368, w_M_laysOrder⟩ hy_M_laysOrder ⟨rfl, rfl⟩ ⟨Nat.le_of_ble_eq_true rfl, Nat.le_of_ble_eq_true rfl⟩ ⟨Nat.zero_le _, Nat.zero_le _⟩ rfl (Nat.le_of_ble_eq_true rfl) dX12_ask_63 ?_
          refine z_aload_n ok dX12_ask_66 0 rfl ?_
          refine z_getr (q := 183) ok kc_171 zc_12 hin_12 20 (by decide) fl_12_71 rfl dX12_ask_67 ?_
          refine z_sipush (v := 199) ok dX12_ask_70 (by decide) ?_
          refine z_iald ok kc_183 dX12_ask_73 hf (fun v73 hf => ?_)
          refine z_iconst (v := 1) ok dX12_ask_74 (by decide) ?_
          refine z_isub ok dX12_ask_75 ?_
          obtain rfl := Option.some.inj hf
          exact hk _ _ dX12_ask_76
theorem c_M_ask {σ : Sg} {x1 : Int32} {x2 : Int32} {x3 : Int32} {r : (Int32 × Sg)} (h : M_ask σ x1 x2 x3 = some r) : ZcI yX12_ask cX12_ask 4 .int rm_M_ask 198 (fun ad => [.ref (ad 171), .int x1, .int x2, .int x3]) σ r.1 r.2 :=
  zmetI pn_12 rfl (fun _ => rfl) (fun _ => Nat.le_of_ble_eq_true rfl) rfl (fun X Q ok hk => t_M_ask ok h hk)
theorem dX12_cancel_0 : decode cX12_cancel 0 = .ok (.iload_n 1, 1) := by decide +kernel
theorem dX12_cancel_1 : decode cX12_cancel 1 = .ok (.iconst 0, 1) := by decide +kernel
theorem dX12_cancel_2 : decode cX12_cancel 2 = .ok (.aload_n 0, 1) := by decide +kernel
theorem dX12_cancel_3 : decode cX12_cancel 3 = .ok (.getfield 71, 3) := by decide +kernel
theorem dX12_cancel_6 : decode cX12_cancel 6 = .ok (.sipush 199, 3) := by decide +kernel
theorem dX12_cancel_9 : decode cX12_cancel 9 = .ok (.iaload, 1) := by decide +kernel
theorem dX12_cancel_10 : decode cX12_cancel 10 = .ok (.iconst 1, 1) := by decide +kernel
theorem dX12_cancel_11 : decode cX12_cancel 11 = .ok (.isub, 1) := by decide +kernel
theorem dX12_cancel_12 : decode cX12_cancel 12 = .ok (.invokestatic 198, 3) := by decide +kernel
theorem dX12_cancel_15 : decode cX12_cancel 15 = .ok (.ifCond .ne 9, 3) := by decide +kernel
theorem dX12_cancel_18 : decode cX12_cancel 18 = .ok (.aload_n 0, 1) := by decide +kernel
theorem dX12_cancel_19 : decode cX12_cancel 19 = .ok (.iconst 3, 1) := by decide +kernel
theorem dX12_cancel_20 : decode cX12_cancel 20 = .ok (.invokevirtual 167, 3) := by decide +kernel
theorem dX12_cancel_23 : decode cX12_cancel 23 = .ok (.ireturn, 1) := by decide +kernel
theorem dX12_cancel_24 : decode cX12_cancel 24 = .ok (.aload_n 0, 1) := by decide +kernel
theorem dX12_cancel_25 : decode cX12_cancel 25 = .ok (.invokevirtual 375, 3) := by decide +kernel
theorem dX12_cancel_28 : decode cX12_cancel 28 = .ok (.aload_n 0, 1) := by decide +kernel
theorem dX12_cancel_29 : decode cX12_cancel 29 = .ok (.getfield 71, 3) := by decide +kernel
theorem dX12_cancel_32 : decode cX12_cancel 32 = .ok (.sipush 199, 3) := by decide +kernel
theorem dX12_cancel_35 : decode cX12_cancel 35 = .ok (.dup2, 1) := by decide +kernel
theorem dX12_cancel_36 : decode cX12_cancel 36 = .ok (.iaload, 1) := by decide +kernel
theorem dX12_cancel_37 : decode cX12_cancel 37 = .ok (.iconst 1, 1) := by decide +kernel
theorem dX12_cancel_38 : decode cX12_cancel 38 = .ok (.isub, 1) := by decide +kernel
theorem dX12_cancel_39 : decode cX12_cancel 39 = .ok (.iastore, 1) := by decide +kernel
theorem dX12_cancel_40 : decode cX12_cancel 40 = .ok (.iconst 3, 1) := by decide +kernel
theorem dX12_cancel_41 : decode cX12_cancel 41 = .ok (.iload_n 1, 1) := by decide +kernel
theorem dX12_cancel_42 : decode cX12_cancel 42 = .ok (.imul, 1) := by decide +kernel
theorem dX12_cancel_43 : decode cX12_cancel 43 = .ok (.istore_n 2, 1) := by decide +kernel
theorem dX12_cancel_44 : decode cX12_cancel 44 = .ok (.iload_n 2, 1) := by decide +kernel
theorem dX12_cancel_45 : decode cX12_cancel 45 = .ok (.iconst 3, 1) := by decide +kernel
theorem dX12_cancel_46 : decode cX12_cancel 46 = .ok (.aload_n 0, 1) := by decide +kernel
theorem dX12_cancel_47 : decode cX12_cancel 47 = .ok (.getfield 71, 3) := by decide +kernel
theorem dX12_cancel_50 : decode cX12_cancel 50 = .ok (.sipush 199, 3) := by decide +kernel
theorem dX12_cancel_53 : decode cX12_cancel 53 = .ok (.iaload, 1) := by decide +kernel
theorem dX12_cancel_54 : decode cX12_cancel 54 = .ok (.imul, 1) := by decide +kernel
theorem dX12_cancel_55 : decode cX12_cancel 55 = .ok (.if_icmp .ge 31, 3) := by decide +kernel
theorem dX12_cancel_58 : decode cX12_cancel 58 = .ok (.aload_n 0, 1) := by decide +kernel
theorem dX12_cancel_59 : decode cX12_cancel 59 = .ok (.getfield 71, 3) := by decide +kernel
theorem dX12_cancel_62 : decode cX12_cancel 62 = .ok (.sipush 148, 3) := by decide +kernel
theorem dX12_cancel_65 : decode cX12_cancel 65 = .ok (.iload_n 2, 1) := by decide +kernel
theorem dX12_cancel_66 : decode cX12_cancel 66 = .ok (.iadd, 1) := by decide +kernel
theorem dX12_cancel_67 : decode cX12_cancel 67 = .ok (.aload_n 0, 1) := by decide +kernel
theorem dX12_cancel_68 : decode cX12_cancel 68 = .ok (.getfield 71, 3) := by decide +kernel
theorem dX12_cancel_71 : decode cX12_cancel 71 = .ok (.sipush 148, 3) := by decide +kernel
theorem dX12_cancel_74 : decode cX12_cancel 74 = .ok (.iload_n 2, 1) := by decide +kernel
theorem dX12_cancel_75 : decode cX12_cancel 75 = .ok (.iadd, 1) := by decide +kernel
theorem dX12_cancel_76 : decode cX12_cancel 76 = .ok (.iconst 3, 1) := by decide +kernel
theorem dX12_cancel_77 : decode cX12_cancel 77 = .ok (.iadd, 1) := by decide +kernel
theorem dX12_cancel_78 : decode cX12_cancel 78 = .ok (.iaload, 1) := by decide +kernel
theorem dX12_cancel_79 : decode cX12_cancel 79 = .ok (.iastore, 1) := by decide +kernel
theorem dX12_cancel_80 : decode cX12_cancel 80 = .ok (.iinc 2 1, 3) := by decide +kernel
theorem dX12_cancel_83 : decode cX12_cancel 83 = .ok (.goto (-39), 3) := by decide +kernel
theorem dX12_cancel_86 : decode cX12_cancel 86 = .ok (.iconst 1, 1) := by decide +kernel
theorem dX12_cancel_87 : decode cX12_cancel 87 = .ok (.ireturn, 1) := by decide +kernel
abbrev rm_M_cancel : Room := { frames := 1, cells := 0, slots := 0, locals := 22 }
def M_cancel_l44 (σ : Sg) (x2 : Int32) : Option ((Sg × Int32) ⊕ (Sg × Int32)) :=
  zrd σ 183 1607 199 fun v53 =>
  if (3 * v53) ≤ x2 then (
    some (.inr (σ, x2))
  ) else (
    zrd σ 183 1607 ((148 + x2) + 3) fun v78 =>
    zwr σ 183 1607 (148 + x2) v78 fun σ79 =>
    zlt (x2 + 1) fun v80 =>
    some (.inl (σ79, v80))
  )
set_option maxRecDepth 20000 in
theorem t_M_cancel_l44 {X : Zx} {Q : State → Prop} {σ : Sg} {x2 : Int32} (ok : Zok X cX12_cancel RX12 rm_M_cancel 198 3)  {out : ((Sg × Int32) ⊕ (Sg × Int32))} (hf : M_cancel_l44 σ x2 = some out) (hk : zout (fun (s : (Sg × Int32)) => ZAt X Q 0 0 44 s.1 [(0, .ref (X.ad 171)), (2, .int s.2)] []) (fun (s : (Sg × Int32)) => ZAt X Q 0 0 86 s.1 [] []) out) : ZAt X Q 0 0 44 σ [(0, .ref (X.ad 171)), (2, .int x2)] [] := by
  unfold M_cancel_l44 at hf
  refine z_iload_n ok dX12_cancel_44 1 rfl ?_
  refine z_iconst (v := 3) ok dX12_cancel_45 (by decide) ?_
  refine z_aload_n ok dX12_cancel_46 0 rfl ?_
  refine z_getr (q := 183) ok kc_171 zc_12 hin_12 20 (by decide) fl_12_71 rfl dX12_cancel_47 ?_
  refine z_sipush (v := 199) ok dX12_cancel_50 (by decide) ?_
  refine z_iald ok kc_183 dX12_cancel_53 hf (fun v53 hf => ?_)
  refine z_imul ok dX12_cancel_54 ?_
  refine z_icmp_ge (tgt := 86) ok dX12_cancel_55 (by decide) hf (fun _ hf => ?_) (fun _ hf => ?_)
  · obtain rfl := Option.some.inj hf
    exact z_sub [] rfl hk
  · refine z_aload_n ok dX12_cancel_58 0 rfl ?_
    refine z_getr (q := 183) ok kc_171 zc_12 hin_12 20 (by decide) fl_12_71 rfl dX12_cancel_59 ?_
    refine z_sipush (v := 148) ok dX12_cancel_62 (by decide) ?_
    refine z_iload_n ok dX12_cancel_65 1 rfl ?_
    refine z_iadd ok dX12_cancel_66 ?_
    refine z_aload_n ok dX12_cancel_67 0 rfl ?_
    refine z_getr (q := 183) ok kc_171 zc_12 hin_12 20 (by decide) fl_12_71 rfl dX12_cancel_68 ?_
    refine z_sipush (v := 148) ok dX12_cancel_71 (by decide) ?_
    refine z_iload_n ok dX12_cancel_74 1 rfl ?_
    refine z_iadd ok dX12_cancel_75 ?_
    refine z_iconst (v := 3) ok dX12_cancel_76 (by decide) ?_
    refine z_iadd ok dX12_cancel_77 ?_
    refine z_iald ok kc_183 dX12_cancel_78 hf (fun v78 hf => ?_)
    refine z_iast ok kc_183 dX12_cancel_79 hf (fun σ79 hf => ?_)
    refine z_iinc (w := 1) (lv' := fun v80 => [(2, .int v80), (0, .ref (X.ad 171))]) ok dX12_cancel_80 1 rfl (by decide) (by decide) (fun _ => rfl) hf (fun v80 hf => ?_)
    refine z_goto (tgt := 44) ok dX12_cancel_83 (by decide) ?_
    obtain rfl := Option.some.inj hf
    exact z_sub [1, 0] rfl hk
def M_cancel (σ : Sg) (x1 : Int32) : Option (Bool × Sg) :=
  zrd σ 183 1607 199 fun v9 =>
  (M_isIn x1 0 (v9 - 1)).bind fun r12 =>
  if (zb r12) = 0 then (
    (M_isRefused σ 3).bind fun r20 =>
    some (r20.1, r20.2)
  ) else (
    (M_remembers σ).bind fun r25 =>
    zrd r25 183 1607 199 fun v36 =>
    zwr r25 183 1607 199 (v36 - 1) fun σ39 =>
    zlt (3 * x1) fun v43 =>
    (zit (fun (s : (Sg × Int32)) => M_cancel_l44 s.1 s.2) zFU (σ39, v43)).bind fun r =>
    some (true, r.1)
  )
set_option maxRecDepth 20000 in
theorem t_M_cancel {X : Zx} {Q : State → Prop} {σ : Sg} {x1 : Int32} (ok : Zok X cX12_cancel RX12 rm_M_cancel 198 3)  {out : (Bool × Sg)} (hf : M_cancel σ x1 = some out) (hk : ZrI cX12_cancel X Q (zb out.1) out.2) : ZAt X Q 0 0 0 σ [(0, .ref (X.ad 171)), (1, .int x1)] [] := by
  unfold M_cancel at hf
  refine z_iload_n ok dX12_cancel_0 1 rfl ?_
  refine z_iconst (v := 0) ok dX12_cancel_1 (by decide) ?_
  refine z_aload_n ok dX12_cancel_2 0 rfl ?_
  refine z_getr (q := 183) ok kc_171 zc_12 hin_12 20 (by decide) fl_12_71 rfl dX12_cancel_3 ?_
  refine z_sipush (v := 199) ok dX12_cancel_6 (by decide) ?_
  refine z_iald ok kc_183 dX12_cancel_9 hf (fun v9 hf => ?_)
  refine z_iconst (v := 1) ok dX12_cancel_10 (by decide) ?_
  refine z_isub ok dX12_cancel_11 ?_
  refine z_call hf (fun r12 h12 hf => ?_)
  refine z_cS (As := [.int x1, .int 0, .int (v9 - 1)]) (rest := []) ok (c_M_isIn h12) rfl ⟨ml_12_198, w_M_isIn⟩ hy_M_isIn ⟨rfl, rfl⟩ ⟨Nat.le_of_ble_eq_true rfl, Nat.le_of_ble_eq_true rfl⟩ ⟨Nat.zero_le _, Nat.zero_le _⟩ rfl (Nat.le_of_ble_eq_true rfl) dX12_cancel_12 ?_
  refine z_if_ne (tgt := 24) ok dX12_cancel_15 (by decide) hf (fun _ hf => ?_) (fun _ hf => ?_)
  · refine z_aload_n ok dX12_cancel_18 0 rfl ?_
    refine z_iconst (v := 3) ok dX12_cancel_19 (by decide) ?_
    refine z_call hf (fun r20 h20 hf => ?_)
    refine z_cV (As := [.int 3]) (rest := []) (w := 171) ok kc_171 zc_12 (c_M_isRefused h20) rfl ⟨ml_12_167, w_M_isRefused⟩ hy_M_isRefused ⟨rfl, rfl⟩ ⟨Nat.le_of_ble_eq_true rfl, Nat.le_of_ble_eq_true rfl⟩ ⟨Nat.zero_le _, Nat.zero_le _⟩ rfl (Nat.le_of_ble_eq_true rfl) dX12_cancel_20 ?_
    obtain rfl := Option.some.inj hf
    exact hk _ _ dX12_cancel_23
  · refine z_aload_n ok dX12_cancel_24 0 rfl ?_
    refine z_call hf (fun r25 h25 hf => ?_)
    refine z_cVv (As := []) (rest := []) (w := 171) ok kc_171 zc_12 (c_M_remembers h25) rfl ⟨ml_12_375, w_M_remembers⟩ hy_M_remembers ⟨rfl, rfl⟩ ⟨Nat.le_of_ble_eq_true rfl, Nat.le_of_ble_eq_true rfl⟩ ⟨Nat.zero_le _, Nat.zero_le _⟩ rfl (Nat.le_of_ble_eq_true rfl) dX12_cancel_25 ?_
    refine z_aload_n ok dX12_cancel_28 0 rfl ?_
    refine z_getr (q := 183) ok kc_171 zc_12 hin_12 20 (by decide) fl_12_71 rfl dX12_cancel_29 ?_
    refine z_sipush (v := 199) ok dX12_cancel_32 (by decide) ?_
    refine z_dup2 ok dX12_cancel_35 rfl rfl ?_
    refine z_iald ok kc_183 dX12_cancel_36 hf (fun v36 hf => ?_)
    refine z_iconst (v := 1) ok dX12_cancel_37 (by decide) ?_
    refine z_isub ok dX12_cancel_38 ?_
    refine z_iast ok kc_183 dX12_cancel_39 hf (fun σ39 hf => ?_)
    refine z_iconst (v := 3) ok dX12_cancel_40 (by decide) ?_
    refine z_iload_n ok dX12_cancel_41 1 rfl ?_
    refine z_imul ok dX12_cancel_42 ?_
    refine z_nm hf (fun v43 hf => ?_)
    refine z_istore_n (lv' := [(2, .int v43), (0, .ref (X.ad 171)), (1, .int x1)]) ok dX12_cancel_43 (by decide) rfl ?_
    refine z_call hf (fun r hr hf => ?_)
    refine z_sub [1, 0] rfl (z_iter (fun (s : (Sg × Int32)) => s.1) (fun (s : (Sg × Int32)) => [(0, .ref (X.ad 171)), (2, .int s.2)]) (fun s o h1 h2 => t_M_cancel_l44 ok h1 h2) _ _ _ hr ?_)
    show ZAt X Q 0 0 86 r.1 [] []
    refine z_iconst (v := 1) ok dX12_cancel_86 (by decide) ?_
    obtain rfl := Option.some.inj hf
    exact hk _ _ dX12_cancel_87
theorem c_M_cancel {σ : Sg} {x1 : Int32} {r : (Bool × Sg)} (h : M_cancel σ x1 = some r) : ZcI yX12_cancel cX12_cancel 3 .boolean rm_M_cancel 198 (fun ad => [.ref (ad 171), .int x1]) σ (zb r.1) r.2 :=
  zmetI pn_12 rfl (fun _ => rfl) (fun _ => Nat.le_of_ble_eq_true rfl) (zb_nar _) (fun X Q ok hk => t_M_cancel ok h hk)
theorem dX12_hand_0 : decode cX12_hand 0 = .ok (.aload_n 0, 1) := by decide +kernel
theorem dX12_hand_1 : decode cX12_hand 1 = .ok (.iload_n 1, 1) := by decide +kernel
theorem dX12_hand_2 : decode cX12_hand 2 = .ok (.invokevirtual 321, 3) := by decide +kernel
theorem dX12_hand_5 : decode cX12_hand 5 = .ok (.ifCond .eq 30, 3) := by decide +kernel
theorem dX12_hand_8 : decode cX12_hand 8 = .ok (.iload_n 2, 1) := by decide +kernel
theorem dX12_hand_9 : decode cX12_hand 9 = .ok (.iconst (-1), 1) := by decide +kernel
theorem dX12_hand_10 : decode cX12_hand 10 = .ok (.aload_n 0, 1) := by decide +kernel
theorem dX12_hand_11 : decode cX12_hand 11 = .ok (.iload_n 1, 1) := by decide +kernel
theorem dX12_hand_12 : decode cX12_hand 12 = .ok (.iconst 4, 1) := by decide +kernel
theorem dX12_hand_13 : decode cX12_hand 13 = .ok (.invokevirtual 251, 3) := by decide +kernel
theorem dX12_hand_16 : decode cX12_hand 16 = .ok (.invokestatic 198, 3) := by decide +kernel
theorem dX12_hand_19 : decode cX12_hand 19 = .ok (.ifCond .eq 16, 3) := by decide +kernel
theorem dX12_hand_22 : decode cX12_hand 22 = .ok (.aload_n 0, 1) := by decide +kernel
theorem dX12_hand_23 : decode cX12_hand 23 = .ok (.getfield 71, 3) := by decide +kernel
theorem dX12_hand_26 : decode cX12_hand 26 = .ok (.bipush 16, 2) := by decide +kernel
theorem dX12_hand_28 : decode cX12_hand 28 = .ok (.iload_n 1, 1) := by decide +kernel
theorem dX12_hand_29 : decode cX12_hand 29 = .ok (.iadd, 1) := by decide +kernel
theorem dX12_hand_30 : decode cX12_hand 30 = .ok (.iaload, 1) := by decide +kernel
theorem dX12_hand_31 : decode cX12_hand 31 = .ok (.iload_n 2, 1) := by decide +kernel
theorem dX12_hand_32 : decode cX12_hand 32 = .ok (.if_icmp .ne 9, 3) := by decide +kernel
theorem dX12_hand_35 : decode cX12_hand 35 = .ok (.aload_n 0, 1) := by decide +kernel
theorem dX12_hand_36 : decode cX12_hand 36 = .ok (.iconst 3, 1) := by decide +kernel
theorem dX12_hand_37 : decode cX12_hand 37 = .ok (.invokevirtual 167, 3) := by decide +kernel
theorem dX12_hand_40 : decode cX12_hand 40 = .ok (.ireturn, 1) := by decide +kernel
theorem dX12_hand_41 : decode cX12_hand 41 = .ok (.aload_n 0, 1) := by decide +kernel
theorem dX12_hand_42 : decode cX12_hand 42 = .ok (.invokevirtual 375, 3) := by decide +kernel
theorem dX12_hand_45 : decode cX12_hand 45 = .ok (.aload_n 0, 1) := by decide +kernel
theorem dX12_hand_46 : decode cX12_hand 46 = .ok (.getfield 71, 3) := by decide +kernel
theorem dX12_hand_49 : decode cX12_hand 49 = .ok (.bipush 16, 2) := by decide +kernel
theorem dX12_hand_51 : decode cX12_hand 51 = .ok (.iload_n 1, 1) := by decide +kernel
theorem dX12_hand_52 : decode cX12_hand 52 = .ok (.iadd, 1) := by decide +kernel
theorem dX12_hand_53 : decode cX12_hand 53 = .ok (.iload_n 2, 1) := by decide +kernel
theorem dX12_hand_54 : decode cX12_hand 54 = .ok (.iastore, 1) := by decide +kernel
theorem dX12_hand_55 : decode cX12_hand 55 = .ok (.iconst 1, 1) := by decide +kernel
theorem dX12_hand_56 : decode cX12_hand 56 = .ok (.ireturn, 1) := by decide +kernel
abbrev rm_M_hand : Room := { frames := 2, cells := 0, slots := 0, locals := 43 }
def M_hand (σ : Sg) (x1 : Int32) (x2 : Int32) : Option (Bool × Sg) :=
  (M_isPool σ x1).bind fun r2 =>
  if (zb r2) = 0 then (
    (M_isRefused σ 3).bind fun r37 =>
    some (r37.1, r37.2)
  ) else (
    (M_toldOf σ x1 4).bind fun r13 =>
    (M_isIn x2 (-1) r13).bind fun r16 =>
    if (zb r16) = 0 then (
      (M_isRefused σ 3).bind fun r37 =>
      some (r37.1, r37.2)
    ) else (
      zrd σ 183 1607 (16 + x1) fun v30 =>
      if v30 = x2 then (
        (M_isRefused σ 3).bind fun r37 =>
        some (r37.1, r37.2)
      ) else (
        (M_remembers σ).bind fun r42 =>
        zwr r42 183 1607 (16 + x1) x2 fun σ54 =>
        some (true, σ54)
      )
    )
  )
set_option maxRecDepth 20000 in
theorem t_M_hand {X : Zx} {Q : State → Prop} {σ : Sg} {x1 : Int32} {x2 : Int32} (ok : Zok X cX12_hand RX12 rm_M_hand 198 3)  {out : (Bool × Sg)} (hf : M_hand σ x1 x2 = some out) (hk : ZrI cX12_hand X Q (zb out.1) out.2) : ZAt X Q 0 0 0 σ [(0, .ref (X.ad 171)), (1, .int x1), (2, .int x2)] [] := by
  unfold M_hand at hf
  refine z_aload_n ok dX12_hand_0 0 rfl ?_
  refine z_iload_n ok dX12_hand_1 1 rfl ?_
  refine z_call hf (fun r2 h2 hf => ?_)
  refine z_cV (As := [.int x1]) (rest := []) (w := 171) ok kc_171 zc_12 (c_M_isPool h2) rfl ⟨ml_12_321, w_M_isPool⟩ hy_M_isPool ⟨rfl, rfl⟩ ⟨Nat.le_of_ble_eq_true rfl, Nat.le_of_ble_eq_true rfl⟩ ⟨Nat.zero_le _, Nat.zero_le _⟩ rfl (Nat.le_of_ble_eq_true rfl) dX12_hand_2 ?_
  refine z_if_eq (tgt := 35) ok dX12_hand_5 (by decide) hf (fun _ hf => ?_) (fun _ hf => ?_)
  · refine z_aload_n ok dX12_hand_35 0 rfl ?_
    refine z_iconst (v := 3) ok dX12_hand_36 (by decide) ?_
    refine z_call hf (fun r37 h37 hf => ?_)
    refine z_cV (As := [.int 3]) (rest := []) (w := 171) ok kc_171 zc_12 (c_M_isRefused h37) rfl ⟨ml_12_167, w_M_isRefused⟩ hy_M_isRefused ⟨rfl, rfl⟩ ⟨Nat.le_of_ble_eq_true rfl, Nat.le_of_ble_eq_true rfl⟩ ⟨Nat.zero_le _, Nat.zero_le _⟩ rfl (Nat.le_of_ble_eq_true rfl) dX12_hand_37 ?_
    obtain rfl := Option.some.inj hf
    exact hk _ _ dX12_hand_40
  · refine z_iload_n ok dX12_hand_8 2 rfl ?_
    refine z_iconst (v := (-1)) ok dX12_hand_9 (by decide) ?_
    refine z_aload_n ok dX12_hand_10 0 rfl ?_
    refine z_iload_n ok dX12_hand_11 1 rfl ?_
    refine z_iconst (v := 4) ok dX12_hand_12 (by decide) ?_
    refine z_call hf (fun r13 h13 hf => ?_)
    refine z_cV (As := [.int x1, .int 4]) (rest := [.int (-1), .int x2]) (w := 171) ok kc_171 zc_12 (c_M_toldOf h13) rfl ⟨ml_12_251, w_M_toldOf⟩ hy_M_toldOf ⟨rfl, rfl⟩ ⟨Nat.le_of_ble_eq_true rfl, Nat.le_of_ble_eq_true rfl⟩ ⟨Nat.zero_le _, Nat.zero_le _⟩ rfl (Nat.le_of_ble_eq_true rfl) dX12_hand_13 ?_
    refine z_call hf (fun r16 h16 hf => ?_)
    refine z_cS (As := [.int x2, .int (-1), .int r13]) (rest := []) ok (c_M_isIn h16) rfl ⟨ml_12_198, w_M_isIn⟩ hy_M_isIn ⟨rfl, rfl⟩ ⟨Nat.le_of_ble_eq_true rfl, Nat.le_of_ble_eq_true rfl⟩ ⟨Nat.zero_le _, Nat.zero_le _⟩ rfl (Nat.le_of_ble_eq_true rfl) dX12_hand_16 ?_
    refine z_if_eq (tgt := 35) ok dX12_hand_19 (by decide) hf (fun _ hf => ?_) (fun _ hf => ?_)
    · refine z_aload_n ok dX12_hand_35 0 rfl ?_
      refine z_iconst (v := 3) ok dX12_hand_36 (by decide) ?_
      refine z_call hf (fun r37 h37 hf => ?_)
      refine z_cV (As := [.int 3]) (rest := []) (w := 171) ok kc_171 zc_12 (c_M_isRefused h37) rfl ⟨ml_12_167, w_M_isRefused⟩ hy_M_isRefused ⟨rfl, rfl⟩ ⟨Nat.le_of_ble_eq_true rfl, Nat.le_of_ble_eq_true rfl⟩ ⟨Nat.zero_le _, Nat.zero_le _⟩ rfl (Nat.le_of_ble_eq_true rfl) dX12_hand_37 ?_
      obtain rfl := Option.some.inj hf
      exact hk _ _ dX12_hand_40
    · refine z_aload_n ok dX12_hand_22 0 rfl ?_
      refine z_getr (q := 183) ok kc_171 zc_12 hin_12 20 (by decide) fl_12_71 rfl dX12_hand_23 ?_
      refine z_bipush (v := 16) ok dX12_hand_26 (by decide) ?_
      refine z_iload_n ok dX12_hand_28 1 rfl ?_
      refine z_iadd ok dX12_hand_29 ?_
      refine z_iald ok kc_183 dX12_hand_30 hf (fun v30 hf => ?_)
      refine z_iload_n ok dX12_hand_31 2 rfl ?_
      refine z_icmp_ne (tgt := 41) ok dX12_hand_32 (by decide) hf (fun _ hf => ?_) (fun _ hf => ?_)
      · refine z_aload_n ok dX12_hand_35 0 rfl ?_
        refine z_iconst (v := 3) ok dX12_hand_36 (by decide) ?_
        refine z_call hf (fun r37 h37 hf => ?_)
        refine z_cV (As := [.int 3]) (rest := []) (w := 171) ok kc_171 zc_12 (c_M_isRefused h37) rfl ⟨ml_12_167, w_M_isRefused⟩ hy_M_isRefused ⟨rfl, rfl⟩ ⟨Nat.le_of_ble_eq_true rfl, Nat.le_of_ble_eq_true rfl⟩ ⟨Nat.zero_le _, Nat.zero_le _⟩ rfl (Nat.le_of_ble_eq_true rfl) dX12_hand_37 ?_
        obtain rfl := Option.some.inj hf
        exact hk _ _ dX12_hand_40
      · refine z_aload_n ok dX12_hand_41 0 rfl ?_
        refine z_call hf (fun r42 h42 hf => ?_)
        refine z_cVv (As := []) (rest := []) (w := 171) ok kc_171 zc_12 (c_M_remembers h42) rfl ⟨ml_12_375, w_M_remembers⟩ hy_M_remembers ⟨rfl, rfl⟩ ⟨Nat.le_of_ble_eq_true rfl, Nat.le_of_ble_eq_true rfl⟩ ⟨Nat.zero_le _, Nat.zero_le _⟩ rfl (Nat.le_of_ble_eq_true rfl) dX12_hand_42 ?_
        refine z_aload_n ok dX12_hand_45 0 rfl ?_
        refine z_getr (q := 183) ok kc_171 zc_12 hin_12 20 (by decide) fl_12_71 rfl dX12_hand_46 ?_
        refine z_bipush (v := 16) ok dX12_hand_49 (by decide) ?_
        refine z_iload_n ok dX12_hand_51 1 rfl ?_
        refine z_iadd ok dX12_hand_52 ?_
        refine z_iload_n ok dX12_hand_53 2 rfl ?_
        refine z_iast ok kc_183 dX12_hand_54 hf (fun σ54 hf => ?_)
        refine z_iconst (v := 1) ok dX12_hand_55 (by decide) ?_
        obtain rfl := Option.some.inj hf
        exact hk _ _ dX12_hand_56
theorem c_M_hand {σ : Sg} {x1 : Int32} {x2 : Int32} {r : (Bool × Sg)} (h : M_hand σ x1 x2 = some r) : ZcI yX12_hand cX12_hand 3 .boolean rm_M_hand 198 (fun ad => [.ref (ad 171), .int x1, .int x2]) σ (zb r.1) r.2 :=
  zmetI pn_12 rfl (fun _ => rfl) (fun _ => Nat.le_of_ble_eq_true rfl) (zb_nar _) (fun X Q ok hk => t_M_hand ok h hk)
theorem dX12_set_0 : decode cX12_set 0 = .ok (.aload_n 0, 1) := by decide +kernel
theorem dX12_set_1 : decode cX12_set 1 = .ok (.getfield 86, 3) := by decide +kernel
theorem dX12_set_4 : decode cX12_set 4 = .ok (.ifCond .eq 12, 3) := by decide +kernel
theorem dX12_set_7 : decode cX12_set 7 = .ok (.iload_n 1, 1) := by decide +kernel
theorem dX12_set_8 : decode cX12_set 8 = .ok (.iconst 0, 1) := by decide +kernel
theorem dX12_set_9 : decode cX12_set 9 = .ok (.iconst 2, 1) := by decide +kernel
theorem dX12_set_10 : decode cX12_set 10 = .ok (.invokestatic 198, 3) := by decide +kernel
theorem dX12_set_13 : decode cX12_set 13 = .ok (.ifCond .ne 9, 3) := by decide +kernel
theorem dX12_set_16 : decode cX12_set 16 = .ok (.aload_n 0, 1) := by decide +kernel
theorem dX12_set_17 : decode cX12_set 17 = .ok (.iconst 3, 1) := by decide +kernel
theorem dX12_set_18 : decode cX12_set 18 = .ok (.invokevirtual 167, 3) := by decide +kernel
theorem dX12_set_21 : decode cX12_set 21 = .ok (.ireturn, 1) := by decide +kernel
theorem dX12_set_22 : decode cX12_set 22 = .ok (.iload_n 1, 1) := by decide +kernel
theorem dX12_set_23 : decode cX12_set 23 = .ok (.ifCond .ne 29, 3) := by decide +kernel
theorem dX12_set_26 : decode cX12_set 26 = .ok (.aload_n 0, 1) := by decide +kernel
theorem dX12_set_27 : decode cX12_set 27 = .ok (.iload_n 2, 1) := by decide +kernel
theorem dX12_set_28 : decode cX12_set 28 = .ok (.invokevirtual 321, 3) := by decide +kernel
theorem dX12_set_31 : decode cX12_set 31 = .ok (.ifCond .eq 17, 3) := by decide +kernel
theorem dX12_set_34 : decode cX12_set 34 = .ok (.iload_n 3, 1) := by decide +kernel
theorem dX12_set_35 : decode cX12_set 35 = .ok (.iconst 0, 1) := by decide +kernel
theorem dX12_set_36 : decode cX12_set 36 = .ok (.bipush 99, 2) := by decide +kernel
theorem dX12_set_38 : decode cX12_set 38 = .ok (.invokestatic 198, 3) := by decide +kernel
theorem dX12_set_41 : decode cX12_set 41 = .ok (.ifCond .eq 7, 3) := by decide +kernel
theorem dX12_set_44 : decode cX12_set 44 = .ok (.iconst 1, 1) := by decide +kernel
theorem dX12_set_45 : decode cX12_set 45 = .ok (.goto 46, 3) := by decide +kernel
theorem dX12_set_48 : decode cX12_set 48 = .ok (.iconst 0, 1) := by decide +kernel
theorem dX12_set_49 : decode cX12_set 49 = .ok (.goto 42, 3) := by decide +kernel
theorem dX12_set_52 : decode cX12_set 52 = .ok (.iload_n 2, 1) := by decide +kernel
theorem dX12_set_53 : decode cX12_set 53 = .ok (.ifCond .ne 37, 3) := by decide +kernel
theorem dX12_set_56 : decode cX12_set 56 = .ok (.iload_n 3, 1) := by decide +kernel
theorem dX12_set_57 : decode cX12_set 57 = .ok (.iload_n 1, 1) := by decide +kernel
theorem dX12_set_58 : decode cX12_set 58 = .ok (.iconst 1, 1) := by decide +kernel
theorem dX12_set_59 : decode cX12_set 59 = .ok (.if_icmp .ne 7, 3) := by decide +kernel
theorem dX12_set_62 : decode cX12_set 62 = .ok (.iconst 0, 1) := by decide +kernel
theorem dX12_set_63 : decode cX12_set 63 = .ok (.goto 4, 3) := by decide +kernel
theorem dX12_set_66 : decode cX12_set 66 = .ok (.iconst 1, 1) := by decide +kernel
theorem dX12_set_67 : decode cX12_set 67 = .ok (.iload_n 1, 1) := by decide +kernel
theorem dX12_set_68 : decode cX12_set 68 = .ok (.iconst 1, 1) := by decide +kernel
theorem dX12_set_69 : decode cX12_set 69 = .ok (.if_icmp .ne 9, 3) := by decide +kernel
theorem dX12_set_72 : decode cX12_set 72 = .ok (.sipush 999, 3) := by decide +kernel
theorem dX12_set_75 : decode cX12_set 75 = .ok (.goto 5, 3) := by decide +kernel
theorem dX12_set_78 : decode cX12_set 78 = .ok (.bipush 99, 2) := by decide +kernel
theorem dX12_set_80 : decode cX12_set 80 = .ok (.invokestatic 198, 3) := by decide +kernel
theorem dX12_set_83 : decode cX12_set 83 = .ok (.ifCond .eq 7, 3) := by decide +kernel
theorem dX12_set_86 : decode cX12_set 86 = .ok (.iconst 1, 1) := by decide +kernel
theorem dX12_set_87 : decode cX12_set 87 = .ok (.goto 4, 3) := by decide +kernel
theorem dX12_set_90 : decode cX12_set 90 = .ok (.iconst 0, 1) := by decide +kernel
theorem dX12_set_91 : decode cX12_set 91 = .ok (.istore 4, 2) := by decide +kernel
theorem dX12_set_93 : decode cX12_set 93 = .ok (.iload_n 1, 1) := by decide +kernel
theorem dX12_set_94 : decode cX12_set 94 = .ok (.ifCond .ne 10, 3) := by decide +kernel
theorem dX12_set_97 : decode cX12_set 97 = .ok (.bipush 24, 2) := by decide +kernel
theorem dX12_set_99 : decode cX12_set 99 = .ok (.iload_n 2, 1) := by decide +kernel
theorem dX12_set_100 : decode cX12_set 100 = .ok (.iadd, 1) := by decide +kernel
theorem dX12_set_101 : decode cX12_set 101 = .ok (.goto 17, 3) := by decide +kernel
theorem dX12_set_104 : decode cX12_set 104 = .ok (.iload_n 1, 1) := by decide +kernel
theorem dX12_set_105 : decode cX12_set 105 = .ok (.iconst 1, 1) := by decide +kernel
theorem dX12_set_106 : decode cX12_set 106 = .ok (.if_icmp .ne 9, 3) := by decide +kernel
theorem dX12_set_109 : decode cX12_set 109 = .ok (.sipush 197, 3) := by decide +kernel
theorem dX12_set_112 : decode cX12_set 112 = .ok (.goto 6, 3) := by decide +kernel
theorem dX12_set_115 : decode cX12_set 115 = .ok (.sipush 198, 3) := by decide +kernel
theorem dX12_set_118 : decode cX12_set 118 = .ok (.istore 5, 2) := by decide +kernel
theorem dX12_set_120 : decode cX12_set 120 = .ok (.iload 4, 2) := by decide +kernel
theorem dX12_set_122 : decode cX12_set 122 = .ok (.ifCond .eq 14, 3) := by decide +kernel
theorem dX12_set_125 : decode cX12_set 125 = .ok (.aload_n 0, 1) := by decide +kernel
theorem dX12_set_126 : decode cX12_set 126 = .ok (.getfield 71, 3) := by decide +kernel
theorem dX12_set_129 : decode cX12_set 129 = .ok (.iload 5, 2) := by decide +kernel
theorem dX12_set_131 : decode cX12_set 131 = .ok (.iaload, 1) := by decide +kernel
theorem dX12_set_132 : decode cX12_set 132 = .ok (.iload_n 3, 1) := by decide +kernel
theorem dX12_set_133 : decode cX12_set 133 = .ok (.if_icmp .ne 9, 3) := by decide +kernel
theorem dX12_set_136 : decode cX12_set 136 = .ok (.aload_n 0, 1) := by decide +kernel
theorem dX12_set_137 : decode cX12_set 137 = .ok (.iconst 3, 1) := by decide +kernel
theorem dX12_set_138 : decode cX12_set 138 = .ok (.invokevirtual 167, 3) := by decide +kernel
theorem dX12_set_141 : decode cX12_set 141 = .ok (.ireturn, 1) := by decide +kernel
theorem dX12_set_142 : decode cX12_set 142 = .ok (.aload_n 0, 1) := by decide +kernel
theorem dX12_set_143 : decode cX12_set 143 = .ok (.invokevirtual 375, 3) := by decide +kernel
theorem dX12_set_146 : decode cX12_set 146 = .ok (.aload_n 0, 1) := by decide +kernel
theorem dX12_set_147 : decode cX12_set 147 = .ok (.getfield 71, 3) := by decide +kernel
theorem dX12_set_150 : decode cX12_set 150 = .ok (.iload 5, 2) := by decide +kernel
theorem dX12_set_152 : decode cX12_set 152 = .ok (.iload_n 3, 1) := by decide +kernel
theorem dX12_set_153 : decode cX12_set 153 = .ok (.iastore, 1) := by decide +kernel
theorem dX12_set_154 : decode cX12_set 154 = .ok (.iconst 1, 1) := by decide +kernel
theorem dX12_set_155 : decode cX12_set 155 = .ok (.ireturn, 1) := by decide +kernel
abbrev rm_M_set : Room := { frames := 2, cells := 0, slots := 0, locals := 43 }
def M_set_j118 (σ : Sg) (x3 : Int32) (x4 : Int32) (s0 : Int32) : Option (Bool × Sg) :=
  if x4 = 0 then (
    (M_isRefused σ 3).bind fun r138 =>
    some (r138.1, r138.2)
  ) else (
    zrd σ 183 1607 s0 fun v131 =>
    if v131 = x3 then (
      (M_isRefused σ 3).bind fun r138 =>
      some (r138.1, r138.2)
    ) else (
      (M_remembers σ).bind fun r143 =>
      zwr r143 183 1607 s0 x3 fun σ153 =>
      some (true, σ153)
    )
  )
set_option maxRecDepth 20000 in
theorem t_M_set_j118 {X : Zx} {Q : State → Prop} {σ : Sg} {x3 : Int32} {x4 : Int32} {s0 : Int32} (ok : Zok X cX12_set RX12 rm_M_set 198 6)  {out : (Bool × Sg)} (hf : M_set_j118 σ x3 x4 s0 = some out) (hk : ZrI cX12_set X Q (zb out.1) out.2) : ZAt X Q 0 0 118 σ [(0, .ref (X.ad 171)), (3, .int x3), (4, .int x4)] [.int s0] := by
  unfold M_set_j118 at hf
  refine z_istore (lv' := [(5, .int s0), (0, .ref (X.ad 171)), (3, .int x3), (4, .int x4)]) ok dX12_set_118 (by decide) rfl ?_
  refine z_iload ok dX12_set_120 3 rfl ?_
  refine z_if_eq (tgt := 136) ok dX12_set_122 (by decide) hf (fun _ hf => ?_) (fun _ hf => ?_)
  · refine z_aload_n ok dX12_set_136 1 rfl ?_
    refine z_iconst (v := 3) ok dX12_set_137 (by decide) ?_
    refine z_call hf (fun r138 h138 hf => ?_)
    refine z_cV (As := [.int 3]) (rest := []) (w := 171) ok kc_171 zc_12 (c_M_isRefused h138) rfl ⟨ml_12_167, w_M_isRefused⟩ hy_M_isRefused ⟨rfl, rfl⟩ ⟨Nat.le_of_ble_eq_true rfl, Nat.le_of_ble_eq_true rfl⟩ ⟨Nat.zero_le _, Nat.zero_le _⟩ rfl (Nat.le_of_ble_eq_true rfl) dX12_set_138 ?_
    obtain rfl := Option.some.inj hf
    exact hk _ _ dX12_set_141
  · refine z_aload_n ok dX12_set_125 1 rfl ?_
    refine z_getr (q := 183) ok kc_171 zc_12 hin_12 20 (by decide) fl_12_71 rfl dX12_set_126 ?_
    refine z_iload ok dX12_set_129 0 rfl ?_
    refine z_iald ok kc_183 dX12_set_131 hf (fun v131 hf => ?_)
    refine z_iload_n ok dX12_set_132 2 rfl ?_
    refine z_icmp_ne (tgt := 142) ok dX12_set_133 (by decide) hf (fun _ hf => ?_) (fun _ hf => ?_)
    · refine z_aload_n ok dX12_set_136 1 rfl ?_
      refine z_iconst (v := 3) ok dX12_set_137 (by decide) ?_
      refine z_call hf (fun r138 h138 hf => ?_)
      refine z_cV (As := [.int 3]) (rest := []) (w := 171) ok kc_171 zc_12 (c_M_isRefused h138) rfl ⟨ml_12_167, w_M_isRefused⟩ hy_M_isRefused ⟨rfl, rfl⟩ ⟨Nat.le_of_ble_eq_true rfl, Nat.le_of_ble_eq_true rfl⟩ ⟨Nat.zero_le _, Nat.zero_le _⟩ rfl (Nat.le_of_ble_eq_true rfl) dX12_set_138 ?_
      obtain rfl := Option.some.inj hf
      exact hk _ _ dX12_set_141
    · refine z_aload_n ok dX12_set_142 1 rfl ?_
      refine z_call hf (fun r143 h143 hf => ?_)
      refine z_cVv (As := []) (rest := []) (w := 171) ok kc_171 zc_12 (c_M_remembers h143) rfl ⟨ml_12_375, w_M_remembers⟩ hy_M_remembers ⟨rfl, rfl⟩ ⟨Nat.le_of_ble_eq_true rfl, Nat.le_of_ble_eq_true rfl⟩ ⟨Nat.zero_le _, Nat.zero_le _⟩ rfl (Nat.le_of_ble_eq_true rfl) dX12_set_143 ?_
      refine z_aload_n ok dX12_set_146 1 rfl ?_
      refine z_getr (q := 183) ok kc_171 zc_12 hin_12 20 (by decide) fl_12_71 rfl dX12_set_147 ?_
      refine z_iload ok dX12_set_150 0 rfl ?_
      refine z_iload_n ok dX12_set_152 2 rfl ?_
      refine z_iast ok kc_183 dX12_set_153 hf (fun σ153 hf => ?_)
      refine z_iconst (v := 1) ok dX12_set_154 (by decide) ?_
      obtain rfl := Option.some.inj hf
      exact hk _ _ dX12_set_155
def M_set_j91 (σ : Sg) (x1 : Int32) (x2 : Int32) (x3 : Int32) (s0 : Int32) : Option (Bool × Sg) :=
  if x1 = 0 then (
    M_set_j118 σ x3 s0 (24 + x2)
  ) else (
    if x1 = 1 then (
      M_set_j118 σ x3 s0 197
    ) else (
      M_set_j118 σ x3 s0 198
    )
  )
set_option maxRecDepth 20000 in
theorem t_M_set_j91 {X : Zx} {Q : State → Prop} {σ : Sg} {x1 : Int32} {x2 : Int32} {x3 : Int32} {s0 : Int32} (ok : Zok X cX12_set RX12 rm_M_set 198 6)  {out : (Bool × Sg)} (hf : M_set_j91 σ x1 x2 x3 s0 = some out) (hk : ZrI cX12_set X Q (zb out.1) out.2) : ZAt X Q 0 0 91 σ [(0, .ref (X.ad 171)), (1, .int x1), (2, .int x2), (3, .int x3)] [.int s0] := by
  unfold M_set_j91 at hf
  refine z_istore (lv' := [(4, .int s0), (0, .ref (X.ad 171)), (1, .int x1), (2, .int x2), (3, .int x3)]) ok dX12_set_91 (by decide) rfl ?_
  refine z_iload_n ok dX12_set_93 2 rfl ?_
  refine z_if_ne (tgt := 104) ok dX12_set_94 (by decide) hf (fun _ hf => ?_) (fun _ hf => ?_)
  · refine z_bipush (v := 24) ok dX12_set_97 (by decide) ?_
    refine z_iload_n ok dX12_set_99 3 rfl ?_
    refine z_iadd ok dX12_set_100 ?_
    refine z_goto (tgt := 118) ok dX12_set_101 (by decide) ?_
    exact z_sub [1, 4, 0] rfl (t_M_set_j118 ok hf hk)
  · refine z_iload_n ok dX12_set_104 2 rfl ?_
    refine z_iconst (v := 1) ok dX12_set_105 (by decide) ?_
    refine z_icmp_ne (tgt := 115) ok dX12_set_106 (by decide) hf (fun _ hf => ?_) (fun _ hf => ?_)
    · refine z_sipush (v := 197) ok dX12_set_109 (by decide) ?_
      refine z_goto (tgt := 118) ok dX12_set_112 (by decide) ?_
      exact z_sub [1, 4, 0] rfl (t_M_set_j118 ok hf hk)
    · refine z_sipush (v := 198) ok dX12_set_115 (by decide) ?_
      exact z_sub [1, 4, 0] rfl (t_M_set_j118 ok hf hk)
def M_set_j48 (σ : Sg) (x1 : Int32) (x2 : Int32) (x3 : Int32) : Option (Bool × Sg) :=
  M_set_j91 σ x1 x2 x3 0
set_option maxRecDepth 20000 in
theorem t_M_set_j48 {X : Zx} {Q : State → Prop} {σ : Sg} {x1 : Int32} {x2 : Int32} {x3 : Int32} (ok : Zok X cX12_set RX12 rm_M_set 198 6)  {out : (Bool × Sg)} (hf : M_set_j48 σ x1 x2 x3 = some out) (hk : ZrI cX12_set X Q (zb out.1) out.2) : ZAt X Q 0 0 48 σ [(0, .ref (X.ad 171)), (1, .int x1), (2, .int x2), (3, .int x3)] [] := by
  unfold M_set_j48 at hf
  refine z_iconst (v := 0) ok dX12_set_48 (by decide) ?_
  refine z_goto (tgt := 91) ok dX12_set_49 (by decide) ?_
  exact z_sub [0, 1, 2, 3] rfl (t_M_set_j91 ok hf hk)
def M_set_j90 (σ : Sg) (x1 : Int32) (x2 : Int32) (x3 : Int32) : Option (Bool × Sg) :=
  M_set_j91 σ x1 x2 x3 0
set_option maxRecDepth 20000 in
theorem t_M_set_j90 {X : Zx} {Q : State → Prop} {σ : Sg} {x1 : Int32} {x2 : Int32} {x3 : Int32} (ok : Zok X cX12_set RX12 rm_M_set 198 6)  {out : (Bool × Sg)} (hf : M_set_j90 σ x1 x2 x3 = some out) (hk : ZrI cX12_set X Q (zb out.1) out.2) : ZAt X Q 0 0 90 σ [(0, .ref (X.ad 171)), (1, .int x1), (2, .int x2), (3, .int x3)] [] := by
  unfold M_set_j90 at hf
  refine z_iconst (v := 0) ok dX12_set_90 (by decide) ?_
  exact z_sub [0, 1, 2, 3] rfl (t_M_set_j91 ok hf hk)
def M_set_j80 (σ : Sg) (x1 : Int32) (x2 : Int32) (x3 : Int32) (s0 : Int32) (s1 : Int32) (s2 : Int32) : Option (Bool × Sg) :=
  (M_isIn s0 s1 s2).bind fun r80 =>
  if (zb r80) = 0 then (
    M_set_j90 σ x1 x2 x3
  ) else (
    M_set_j91 σ x1 x2 x3 1
  )
set_option maxRecDepth 20000 in
theorem t_M_set_j80 {X : Zx} {Q : State → Prop} {σ : Sg} {x1 : Int32} {x2 : Int32} {x3 : Int32} {s0 : Int32} {s1 : Int32} {s2 : Int32} (ok : Zok X cX12_set RX12 rm_M_set 198 6)  {out : (Bool × Sg)} (hf : M_set_j80 σ x1 x2 x3 s0 s1 s2 = some out) (hk : ZrI cX12_set X Q (zb out.1) out.2) : ZAt X Q 0 0 80 σ [(0, .ref (X.ad 171)), (1, .int x1), (2, .int x2), (3, .int x3)] [.int s2, .int s1, .int s0] := by
  unfold M_set_j80 at hf
  refine z_call hf (fun r80 h80 hf => ?_)
  refine z_cS (As := [.int s0, .int s1, .int s2]) (rest := []) ok (c_M_isIn h80) rfl ⟨ml_12_198, w_M_isIn⟩ hy_M_isIn ⟨rfl, rfl⟩ ⟨Nat.le_of_ble_eq_true rfl, Nat.le_of_ble_eq_true rfl⟩ ⟨Nat.zero_le _, Nat.zero_le _⟩ rfl (Nat.le_of_ble_eq_true rfl) dX12_set_80 ?_
  refine z_if_eq (tgt := 90) ok dX12_set_83 (by decide) hf (fun _ hf => ?_) (fun _ hf => ?_)
  · exact z_sub [0, 1, 2, 3] rfl (t_M_set_j90 ok hf hk)
  · refine z_iconst (v := 1) ok dX12_set_86 (by decide) ?_
    refine z_goto (tgt := 91) ok dX12_set_87 (by decide) ?_
    exact z_sub [0, 1, 2, 3] rfl (t_M_set_j91 ok hf hk)
def M_set_j67 (σ : Sg) (x1 : Int32) (x2 : Int32) (x3 : Int32) (s0 : Int32) (s1 : Int32) : Option (Bool × Sg) :=
  if x1 = 1 then (
    M_set_j80 σ x1 x2 x3 s0 s1 999
  ) else (
    M_set_j80 σ x1 x2 x3 s0 s1 99
  )
set_option maxRecDepth 20000 in
theorem t_M_set_j67 {X : Zx} {Q : State → Prop} {σ : Sg} {x1 : Int32} {x2 : Int32} {x3 : Int32} {s0 : Int32} {s1 : Int32} (ok : Zok X cX12_set RX12 rm_M_set 198 6)  {out : (Bool × Sg)} (hf : M_set_j67 σ x1 x2 x3 s0 s1 = some out) (hk : ZrI cX12_set X Q (zb out.1) out.2) : ZAt X Q 0 0 67 σ [(0, .ref (X.ad 171)), (1, .int x1), (2, .int x2), (3, .int x3)] [.int s1, .int s0] := by
  unfold M_set_j67 at hf
  refine z_iload_n ok dX12_set_67 1 rfl ?_
  refine z_iconst (v := 1) ok dX12_set_68 (by decide) ?_
  refine z_icmp_ne (tgt := 78) ok dX12_set_69 (by decide) hf (fun _ hf => ?_) (fun _ hf => ?_)
  · refine z_sipush (v := 999) ok dX12_set_72 (by decide) ?_
    refine z_goto (tgt := 80) ok dX12_set_75 (by decide) ?_
    exact z_sub [0, 1, 2, 3] rfl (t_M_set_j80 ok hf hk)
  · refine z_bipush (v := 99) ok dX12_set_78 (by decide) ?_
    exact z_sub [0, 1, 2, 3] rfl (t_M_set_j80 ok hf hk)
def M_set (σ : Sg) (x1 : Int32) (x2 : Int32) (x3 : Int32) : Option (Bool × Sg) :=
  zgt σ 171 25 fun v1 =>
  if v1 = 0 then (
    (M_isRefused σ 3).bind fun r18 =>
    some (r18.1, r18.2)
  ) else (
    (M_isIn x1 0 2).bind fun r10 =>
    if (zb r10) = 0 then (
      (M_isRefused σ 3).bind fun r18 =>
      some (r18.1, r18.2)
    ) else (
      if x1 = 0 then (
        (M_isPool σ x2).bind fun r28 =>
        if (zb r28) = 0 then (
          M_set_j48 σ x1 x2 x3
        ) else (
          (M_isIn x3 0 99).bind fun r38 =>
          if (zb r38) = 0 then (
            M_set_j48 σ x1 x2 x3
          ) else (
            M_set_j91 σ x1 x2 x3 1
          )
        )
      ) else (
        if x2 = 0 then (
          if x1 = 1 then (
            M_set_j67 σ x1 x2 x3 x3 0
          ) else (
            M_set_j67 σ x1 x2 x3 x3 1
          )
        ) else (
          M_set_j90 σ x1 x2 x3
        )
      )
    )
  )
set_option maxRecDepth 20000 in
theorem t_M_set {X : Zx} {Q : State → Prop} {σ : Sg} {x1 : Int32} {x2 : Int32} {x3 : Int32} (ok : Zok X cX12_set RX12 rm_M_set 198 6)  {out : (Bool × Sg)} (hf : M_set σ x1 x2 x3 = some out) (hk : ZrI cX12_set X Q (zb out.1) out.2) : ZAt X Q 0 0 0 σ [(0, .ref (X.ad 171)), (1, .int x1), (2, .int x2), (3, .int x3)] [] := by
  unfold M_set at hf
  refine z_aload_n ok dX12_set_0 0 rfl ?_
  refine z_geti ok kc_171 zc_12 hin_12 25 (by decide) fl_12_86 rfl dX12_set_1 hf (fun v1 hf => ?_)
  refine z_if_eq (tgt := 16) ok dX12_set_4 (by decide) hf (fun _ hf => ?_) (fun _ hf => ?_)
  · refine z_aload_n ok dX12_set_16 0 rfl ?_
    refine z_iconst (v := 3) ok dX12_set_17 (by decide) ?_
    refine z_call hf (fun r18 h18 hf => ?_)
    refine z_cV (As := [.int 3]) (rest := []) (w := 171) ok kc_171 zc_12 (c_M_isRefused h18) rfl ⟨ml_12_167, w_M_isRefused⟩ hy_M_isRefused ⟨rfl, rfl⟩ ⟨Nat.le_of_ble_eq_true rfl, Nat.le_of_ble_eq_true rfl⟩ ⟨Nat.zero_le _, Nat.zero_le _⟩ rfl (Nat.le_of_ble_eq_true rfl) dX12_set_18 ?_
    obtain rfl := Option.some.inj hf
    exact hk _ _ dX12_set_21
  · refine z_iload_n ok dX12_set_7 1 rfl ?_
    refine z_iconst (v := 0) ok dX12_set_8 (by decide) ?_
    refine z_iconst (v := 2) ok dX12_set_9 (by decide) ?_
    refine z_call hf (fun r10 h10 hf => ?_)
    refine z_cS (As := [.int x1, .int 0, .int 2]) (rest := []) ok (c_M_isIn h10) rfl ⟨ml_12_198, w_M_isIn⟩ hy_M_isIn ⟨rfl, rfl⟩ ⟨Nat.le_of_ble_eq_true rfl, Nat.le_of_ble_eq_true rfl⟩ ⟨Nat.zero_le _, Nat.zero_le _⟩ rfl (Nat.le_of_ble_eq_true rfl) dX12_set_10 ?_
    refine z_if_ne (tgt := 22) ok dX12_set_13 (by decide) hf (fun _ hf => ?_) (fun _ hf => ?_)
    · refine z_aload_n ok dX12_set_16 0 rfl ?_
      refine z_iconst (v := 3) ok dX12_set_17 (by decide) ?_
      refine z_call hf (fun r18 h18 hf => ?_)
      refine z_cV (As := [.int 3]) (rest := []) (w := 171) ok kc_171 zc_12 (c_M_isRefused h18) rfl ⟨ml_12_167, w_M_isRefused⟩ hy_M_isRefused ⟨rfl, rfl⟩ ⟨Nat.le_of_ble_eq_true rfl, Nat.le_of_ble_eq_true rfl⟩ ⟨Nat.zero_le _, Nat.zero_le _⟩ rfl (Nat.le_of_ble_eq_true rfl) dX12_set_18 ?_
      obtain rfl := Option.some.inj hf
      exact hk _ _ dX12_set_21
    · refine z_iload_n ok dX12_set_22 1 rfl ?_
      refine z_if_ne (tgt := 52) ok dX12_set_23 (by decide) hf (fun _ hf => ?_) (fun _ hf => ?_)
      · refine z_aload_n ok dX12_set_26 0 rfl ?_
        refine z_iload_n ok dX12_set_27 2 rfl ?_
        refine z_call hf (fun r28 h28 hf => ?_)
        refine z_cV (As := [.int x2]) (rest := []) (w := 171) ok kc_171 zc_12 (c_M_isPool h28) rfl ⟨ml_12_321, w_M_isPool⟩ hy_M_isPool ⟨rfl, rfl⟩ ⟨Nat.le_of_ble_eq_true rfl, Nat.le_of_ble_eq_true rfl⟩ ⟨Nat.zero_le _, Nat.zero_le _⟩ rfl (Nat.le_of_ble_eq_true rfl) dX12_set_28 ?_
        refine z_if_eq (tgt := 48) ok dX12_set_31 (by decide) hf (fun _ hf => ?_) (fun _ hf => ?_)
        · exact z_sub [0, 1, 2, 3] rfl (t_M_set_j48 ok hf hk)
        · refine z_iload_n ok dX12_set_34 3 rfl ?_
          refine z_iconst (v := 0) ok dX12_set_35 (by decide) ?_
          refine z_bipush (v := 99) ok dX12_set_36 (by decide) ?_
          refine z_call hf (fun r38 h38 hf => ?_)
          refine z_cS (As := [.int x3, .int 0, .int 99]) (rest := []) ok (c_M_isIn h38) rfl ⟨ml_12_198, w_M_isIn⟩ hy_M_isIn ⟨rfl, rfl⟩ ⟨Nat.le_of_ble_eq_true rfl, Nat.le_of_ble_eq_true rfl⟩ ⟨Nat.zero_le _, Nat.zero_le _⟩ rfl (Nat.le_of_ble_eq_true rfl) dX12_set_38 ?_
          refine z_if_eq (tgt := 48) ok dX12_set_41 (by decide) hf (fun _ hf => ?_) (fun _ hf => ?_)
          · exact z_sub [0, 1, 2, 3] rfl (t_M_set_j48 ok hf hk)
          · refine z_iconst (v := 1) ok dX12_set_44 (by decide) ?_
            refine z_goto (tgt := 91) ok dX12_set_45 (by decide) ?_
            exact z_sub [0, 1, 2, 3] rfl (t_M_set_j91 ok hf hk)
      · refine z_iload_n ok dX12_set_52 2 rfl ?_
        refine z_if_ne (tgt := 90) ok dX12_set_53 (by decide) hf (fun _ hf => ?_) (fun _ hf => ?_)
        · refine z_iload_n ok dX12_set_56 3 rfl ?_
          refine z_iload_n ok dX12_set_57 1 rfl ?_
          refine z_iconst (v := 1) ok dX12_set_58 (by decide) ?_
          refine z_icmp_ne (tgt := 66) ok dX12_set_59 (by decide) hf (fun _ hf => ?_) (fun _ hf => ?_)
          · refine z_iconst (v := 0) ok dX12_set_62 (by decide) ?_
            refine z_goto (tgt := 67) ok dX12_set_63 (by decide) ?_
            exact z_sub [0, 1, 2, 3] rfl (t_M_set_j67 ok hf hk)
          · refine z_iconst (v := 1) ok dX12_set_66 (by decide) ?_
            exact z_sub [0, 1, 2, 3] rfl (t_M_set_j67 ok hf hk)
        · exact z_sub [0, 1, 2, 3] rfl (t_M_set_j90 ok hf hk)
theorem c_M_set {σ : Sg} {x1 : Int32} {x2 : Int32} {x3 : Int32} {r : (Bool × Sg)} (h : M_set σ x1 x2 x3 = some r) : ZcI yX12_set cX12_set 6 .boolean rm_M_set 198 (fun ad => [.ref (ad 171), .int x1, .int x2, .int x3]) σ (zb r.1) r.2 :=
  zmetI pn_12 rfl (fun _ => rfl) (fun _ => Nat.le_of_ble_eq_true rfl) (zb_nar _) (fun X Q ok hk => t_M_set ok h hk)
theorem dX12_undo_0 : decode cX12_undo 0 = .ok (.aload_n 0, 1) := by decide +kernel
theorem dX12_undo_1 : decode cX12_undo 1 = .ok (.getfield 80, 3) := by decide +kernel
theorem dX12_undo_4 : decode cX12_undo 4 = .ok (.ifCond .ne 9, 3) := by decide +kernel
theorem dX12_undo_7 : decode cX12_undo 7 = .ok (.aload_n 0, 1) := by decide +kernel
theorem dX12_undo_8 : decode cX12_undo 8 = .ok (.iconst 4, 1) := by decide +kernel
theorem dX12_undo_9 : decode cX12_undo 9 = .ok (.invokevirtual 167, 3) := by decide +kernel
theorem dX12_undo_12 : decode cX12_undo 12 = .ok (.ireturn, 1) := by decide +kernel
theorem dX12_undo_13 : decode cX12_undo 13 = .ok (.aload_n 0, 1) := by decide +kernel
theorem dX12_undo_14 : decode cX12_undo 14 = .ok (.dup, 1) := by decide +kernel
theorem dX12_undo_15 : decode cX12_undo 15 = .ok (.getfield 80, 3) := by decide +kernel
theorem dX12_undo_18 : decode cX12_undo 18 = .ok (.iconst 1, 1) := by decide +kernel
theorem dX12_undo_19 : decode cX12_undo 19 = .ok (.isub, 1) := by decide +kernel
theorem dX12_undo_20 : decode cX12_undo 20 = .ok (.putfield 80, 3) := by decide +kernel
theorem dX12_undo_23 : decode cX12_undo 23 = .ok (.iconst 0, 1) := by decide +kernel
theorem dX12_undo_24 : decode cX12_undo 24 = .ok (.istore_n 1, 1) := by decide +kernel
theorem dX12_undo_25 : decode cX12_undo 25 = .ok (.iload_n 1, 1) := by decide +kernel
theorem dX12_undo_26 : decode cX12_undo 26 = .ok (.sipush 1607, 3) := by decide +kernel
theorem dX12_undo_29 : decode cX12_undo 29 = .ok (.if_icmp .ge 30, 3) := by decide +kernel
theorem dX12_undo_32 : decode cX12_undo 32 = .ok (.aload_n 0, 1) := by decide +kernel
theorem dX12_undo_33 : decode cX12_undo 33 = .ok (.getfield 71, 3) := by decide +kernel
theorem dX12_undo_36 : decode cX12_undo 36 = .ok (.iload_n 1, 1) := by decide +kernel
theorem dX12_undo_37 : decode cX12_undo 37 = .ok (.aload_n 0, 1) := by decide +kernel
theorem dX12_undo_38 : decode cX12_undo 38 = .ok (.getfield 77, 3) := by decide +kernel
theorem dX12_undo_41 : decode cX12_undo 41 = .ok (.sipush 1607, 3) := by decide +kernel
theorem dX12_undo_44 : decode cX12_undo 44 = .ok (.aload_n 0, 1) := by decide +kernel
theorem dX12_undo_45 : decode cX12_undo 45 = .ok (.getfield 80, 3) := by decide +kernel
theorem dX12_undo_48 : decode cX12_undo 48 = .ok (.imul, 1) := by decide +kernel
theorem dX12_undo_49 : decode cX12_undo 49 = .ok (.iload_n 1, 1) := by decide +kernel
theorem dX12_undo_50 : decode cX12_undo 50 = .ok (.iadd, 1) := by decide +kernel
theorem dX12_undo_51 : decode cX12_undo 51 = .ok (.iaload, 1) := by decide +kernel
theorem dX12_undo_52 : decode cX12_undo 52 = .ok (.iastore, 1) := by decide +kernel
theorem dX12_undo_53 : decode cX12_undo 53 = .ok (.iinc 1 1, 3) := by decide +kernel
theorem dX12_undo_56 : decode cX12_undo 56 = .ok (.goto (-31), 3) := by decide +kernel
theorem dX12_undo_59 : decode cX12_undo 59 = .ok (.iconst 1, 1) := by decide +kernel
theorem dX12_undo_60 : decode cX12_undo 60 = .ok (.ireturn, 1) := by decide +kernel
abbrev rm_M_undo : Room := { frames := 1, cells := 0, slots := 0, locals := 21 }
def M_undo_l25 (σ : Sg) (x1 : Int32) : Option ((Sg × Int32) ⊕ (Sg × Int32)) :=
  if 1607 ≤ x1 then (
    some (.inr (σ, x1))
  ) else (
    zgt σ 171 23 fun v45 =>
    zrd σ 185 32140 ((1607 * v45) + x1) fun v51 =>
    zwr σ 183 1607 x1 v51 fun σ52 =>
    zlt (x1 + 1) fun v53 =>
    some (.inl (σ52, v53))
  )
set_option maxRecDepth 20000 in
theorem t_M_undo_l25 {X : Zx} {Q : State → Prop} {σ : Sg} {x1 : Int32} (ok : Zok X cX12_undo RX12 rm_M_undo 198 2)  {out : ((Sg × Int32) ⊕ (Sg × Int32))} (hf : M_undo_l25 σ x1 = some out) (hk : zout (fun (s : (Sg × Int32)) => ZAt X Q 0 0 25 s.1 [(0, .ref (X.ad 171)), (1, .int s.2)] []) (fun (s : (Sg × Int32)) => ZAt X Q 0 0 59 s.1 [] []) out) : ZAt X Q 0 0 25 σ [(0, .ref (X.ad 171)), (1, .int x1)] [] := by
  unfold M_undo_l25 at hf
  refine z_iload_n ok dX12_undo_25 1 rfl ?_
  refine z_sipush (v := 1607) ok dX12_undo_26 (by decide) ?_
  refine z_icmp_ge (tgt := 59) ok dX12_undo_29 (by decide) hf (fun _ hf => ?_) (fun _ hf => ?_)
  · obtain rfl := Option.some.inj hf
    exact z_sub [] rfl hk
  · refine z_aload_n ok dX12_undo_32 0 rfl ?_
    refine z_getr (q := 183) ok kc_171 zc_12 hin_12 20 (by decide) fl_12_71 rfl dX12_undo_33 ?_
    refine z_iload_n ok dX12_undo_36 1 rfl ?_
    refine z_aload_n ok dX12_undo_37 0 rfl ?_
    refine z_getr (q := 185) ok kc_171 zc_12 hin_12 22 (by decide) fl_12_77 rfl dX12_undo_38 ?_
    refine z_sipush (v := 1607) ok dX12_undo_41 (by decide) ?_
    refine z_aload_n ok dX12_undo_44 0 rfl ?_
    refine z_geti ok kc_171 zc_12 hin_12 23 (by decide) fl_12_80 rfl dX12_undo_45 hf (fun v45 hf => ?_)
    refine z_imul ok dX12_undo_48 ?_
    refine z_iload_n ok dX12_undo_49 1 rfl ?_
    refine z_iadd ok dX12_undo_50 ?_
    refine z_iald ok kc_185 dX12_undo_51 hf (fun v51 hf => ?_)
    refine z_iast ok kc_183 dX12_undo_52 hf (fun σ52 hf => ?_)
    refine z_iinc (w := 1) (lv' := fun v53 => [(1, .int v53), (0, .ref (X.ad 171))]) ok dX12_undo_53 1 rfl (by decide) (by decide) (fun _ => rfl) hf (fun v53 hf => ?_)
    refine z_goto (tgt := 25) ok dX12_undo_56 (by decide) ?_
    obtain rfl := Option.some.inj hf
    exact z_sub [1, 0] rfl hk
def M_undo (σ : Sg)  : Option (Bool × Sg) :=
  zgt σ 171 23 fun v1 =>
  if v1 = 0 then (
    (M_isRefused σ 4).bind fun r9 =>
    some (r9.1, r9.2)
  ) else (
    zgt σ 171 23 fun v15 =>
    zpt σ 171 23 (v15 - 1) fun σ20 =>
    zlt 0 fun v24 =>
    (zit (fun (s : (Sg × Int32)) => M_undo_l25 s.1 s.2) zFU (σ20, v24)).bind fun r =>
    some (true, r.1)
  )
set_option maxRecDepth 20000 in
theorem t_M_undo {X : Zx} {Q : State → Prop} {σ : Sg}  (ok : Zok X cX12_undo RX12 rm_M_undo 198 2)  {out : (Bool × Sg)} (hf : M_undo σ = some out) (hk : ZrI cX12_undo X Q (zb out.1) out.2) : ZAt X Q 0 0 0 σ [(0, .ref (X.ad 171))] [] := by
  unfold M_undo at hf
  refine z_aload_n ok dX12_undo_0 0 rfl ?_
  refine z_geti ok kc_171 zc_12 hin_12 23 (by decide) fl_12_80 rfl dX12_undo_1 hf (fun v1 hf => ?_)
  refine z_if_ne (tgt := 13) ok dX12_undo_4 (by decide) hf (fun _ hf => ?_) (fun _ hf => ?_)
  · refine z_aload_n ok dX12_undo_7 0 rfl ?_
    refine z_iconst (v := 4) ok dX12_undo_8 (by decide) ?_
    refine z_call hf (fun r9 h9 hf => ?_)
    refine z_cV (As := [.int 4]) (rest := []) (w := 171) ok kc_171 zc_12 (c_M_isRefused h9) rfl ⟨ml_12_167, w_M_isRefused⟩ hy_M_isRefused ⟨rfl, rfl⟩ ⟨Nat.le_of_ble_eq_true rfl, Nat.le_of_ble_eq_true rfl⟩ ⟨Nat.zero_le _, Nat.zero_le _⟩ rfl (Nat.le_of_ble_eq_true rfl) dX12_undo_9 ?_
    obtain rfl := Option.some.inj hf
    exact hk _ _ dX12_undo_12
  · refine z_aload_n ok dX12_undo_13 0 rfl ?_
    refine z_dup ok dX12_undo_14 rfl ?_
    refine z_geti ok kc_171 zc_12 hin_12 23 (by decide) fl_12_80 rfl dX12_undo_15 hf (fun v15 hf => ?_)
    refine z_iconst (v := 1) ok dX12_undo_18 (by decide) ?_
    refine z_isub ok dX12_undo_19 ?_
    refine z_puti ok kc_171 zc_12 hin_12 tyX12 tyX12_ok nmX12 23 (by decide) fl_12_80 rfl rfl (tyX12_ok 23 (by decide)) dX12_undo_20 hf (fun σ20 hf => ?_)
    refine z_iconst (v := 0) ok dX12_undo_23 (by decide) ?_
    refine z_nm hf (fun v24 hf => ?_)
    refine z_istore_n (lv' := [(1, .int v24), (0, .ref (X.ad 171))]) ok dX12_undo_24 (by decide) rfl ?_
    refine z_call hf (fun r hr hf => ?_)
    refine z_sub [1, 0] rfl (z_iter (fun (s : (Sg × Int32)) => s.1) (fun (s : (Sg × Int32)) => [(0, .ref (X.ad 171)), (1, .int s.2)]) (fun s o h1 h2 => t_M_undo_l25 ok h1 h2) _ _ _ hr ?_)
    show ZAt X Q 0 0 59 r.1 [] []
    refine z_iconst (v := 1) ok dX12_undo_59 (by decide) ?_
    obtain rfl := Option.some.inj hf
    exact hk _ _ dX12_undo_60
theorem c_M_undo {σ : Sg} {r : (Bool × Sg)} (h : M_undo σ = some r) : ZcI yX12_undo cX12_undo 2 .boolean rm_M_undo 198 (fun ad => [.ref (ad 171)]) σ (zb r.1) r.2 :=
  zmetI pn_12 rfl (fun _ => rfl) (fun _ => Nat.le_of_ble_eq_true rfl) (zb_nar _) (fun X Q ok hk => t_M_undo ok h hk)
theorem dX12_seed_0 : decode cX12_seed 0 = .ok (.iload_n 1, 1) := by decide +kernel
theorem dX12_seed_1 : decode cX12_seed 1 = .ok (.ifCond .ge 9, 3) := by decide +kernel
theorem dX12_seed_4 : decode cX12_seed 4 = .ok (.aload_n 0, 1) := by decide +kernel
theorem dX12_seed_5 : decode cX12_seed 5 = .ok (.iconst 5, 1) := by decide +kernel
theorem dX12_seed_6 : decode cX12_seed 6 = .ok (.invokevirtual 167, 3) := by decide +kernel
theorem dX12_seed_9 : decode cX12_seed 9 = .ok (.ireturn, 1) := by decide +kernel
theorem dX12_seed_10 : decode cX12_seed 10 = .ok (.aload_n 0, 1) := by decide +kernel
theorem dX12_seed_11 : decode cX12_seed 11 = .ok (.iload_n 1, 1) := by decide +kernel
theorem dX12_seed_12 : decode cX12_seed 12 = .ok (.putfield 83, 3) := by decide +kernel
theorem dX12_seed_15 : decode cX12_seed 15 = .ok (.iconst 1, 1) := by decide +kernel
theorem dX12_seed_16 : decode cX12_seed 16 = .ok (.ireturn, 1) := by decide +kernel
abbrev rm_M_seed : Room := { frames := 1, cells := 0, slots := 0, locals := 21 }
def M_seed (σ : Sg) (x1 : Int32) : Option (Bool × Sg) :=
  if 0 ≤ x1 then (
    zpt σ 171 24 x1 fun σ12 =>
    some (true, σ12)
  ) else (
    (M_isRefused σ 5).bind fun r6 =>
    some (r6.1, r6.2)
  )
set_option maxRecDepth 20000 in
theorem t_M_seed {X : Zx} {Q : State → Prop} {σ : Sg} {x1 : Int32} (ok : Zok X cX12_seed RX12 rm_M_seed 198 2)  {out : (Bool × Sg)} (hf : M_seed σ x1 = some out) (hk : ZrI cX12_seed X Q (zb out.1) out.2) : ZAt X Q 0 0 0 σ [(0, .ref (X.ad 171)), (1, .int x1)] [] := by
  unfold M_seed at hf
  refine z_iload_n ok dX12_seed_0 1 rfl ?_
  refine z_if_ge (tgt := 10) ok dX12_seed_1 (by decide) hf (fun _ hf => ?_) (fun _ hf => ?_)
  · refine z_aload_n ok dX12_seed_10 0 rfl ?_
    refine z_iload_n ok dX12_seed_11 1 rfl ?_
    refine z_puti ok kc_171 zc_12 hin_12 tyX12 tyX12_ok nmX12 24 (by decide) fl_12_83 rfl rfl (tyX12_ok 24 (by decide)) dX12_seed_12 hf (fun σ12 hf => ?_)
    refine z_iconst (v := 1) ok dX12_seed_15 (by decide) ?_
    obtain rfl := Option.some.inj hf
    exact hk _ _ dX12_seed_16
  · refine z_aload_n ok dX12_seed_4 0 rfl ?_
    refine z_iconst (v := 5) ok dX12_seed_5 (by decide) ?_
    refine z_call hf (fun r6 h6 hf => ?_)
    refine z_cV (As := [.int 5]) (rest := []) (w := 171) ok kc_171 zc_12 (c_M_isRefused h6) rfl ⟨ml_12_167, w_M_isRefused⟩ hy_M_isRefused ⟨rfl, rfl⟩ ⟨Nat.le_of_ble_eq_true rfl, Nat.le_of_ble_eq_true rfl⟩ ⟨Nat.zero_le _, Nat.zero_le _⟩ rfl (Nat.le_of_ble_eq_true rfl) dX12_seed_6 ?_
    obtain rfl := Option.some.inj hf
    exact hk _ _ dX12_seed_9
theorem c_M_seed {σ : Sg} {x1 : Int32} {r : (Bool × Sg)} (h : M_seed σ x1 = some r) : ZcI yX12_seed cX12_seed 2 .boolean rm_M_seed 198 (fun ad => [.ref (ad 171), .int x1]) σ (zb r.1) r.2 :=
  zmetI pn_12 rfl (fun _ => rfl) (fun _ => Nat.le_of_ble_eq_true rfl) (zb_nar _) (fun X Q ok hk => t_M_seed ok h hk)
theorem dX12_status_0 : decode cX12_status 0 = .ok (.iload_n 1, 1) := by decide +kernel
theorem dX12_status_1 : decode cX12_status 1 = .ok (.iconst 0, 1) := by decide +kernel
theorem dX12_status_2 : decode cX12_status 2 = .ok (.iconst 5, 1) := by decide +kernel
theorem dX12_status_3 : decode cX12_status 3 = .ok (.invokestatic 198, 3) := by decide +kernel
theorem dX12_status_6 : decode cX12_status 6 = .ok (.ifCond .eq 12, 3) := by decide +kernel
theorem dX12_status_9 : decode cX12_status 9 = .ok (.aload_n 0, 1) := by decide +kernel
theorem dX12_status_10 : decode cX12_status 10 = .ok (.getfield 99, 3) := by decide +kernel
theorem dX12_status_13 : decode cX12_status 13 = .ok (.iload_n 1, 1) := by decide +kernel
theorem dX12_status_14 : decode cX12_status 14 = .ok (.iaload, 1) := by decide +kernel
theorem dX12_status_15 : decode cX12_status 15 = .ok (.goto 4, 3) := by decide +kernel
theorem dX12_status_18 : decode cX12_status 18 = .ok (.iconst (-1), 1) := by decide +kernel
theorem dX12_status_19 : decode cX12_status 19 = .ok (.ireturn, 1) := by decide +kernel
abbrev rm_M_status : Room := { frames := 1, cells := 0, slots := 0, locals := 22 }
def M_status (σ : Sg) (x1 : Int32) : Option Int32 :=
  (M_isIn x1 0 5).bind fun r3 =>
  if (zb r3) = 0 then (
    some (-1)
  ) else (
    zrd σ 187 6 x1 fun v14 =>
    some v14
  )
set_option maxRecDepth 20000 in
theorem t_M_status {X : Zx} {Q : State → Prop} {σ : Sg} {x1 : Int32} (ok : Zok X cX12_status RX12 rm_M_status 198 2)  {out : Int32} (hf : M_status σ x1 = some out) (hk : ZrI cX12_status X Q out σ) : ZAt X Q 0 0 0 σ [(0, .ref (X.ad 171)), (1, .int x1)] [] := by
  unfold M_status at hf
  refine z_iload_n ok dX12_status_0 1 rfl ?_
  refine z_iconst (v := 0) ok dX12_status_1 (by decide) ?_
  refine z_iconst (v := 5) ok dX12_status_2 (by decide) ?_
  refine z_call hf (fun r3 h3 hf => ?_)
  refine z_cS (As := [.int x1, .int 0, .int 5]) (rest := []) ok (c_M_isIn h3) rfl ⟨ml_12_198, w_M_isIn⟩ hy_M_isIn ⟨rfl, rfl⟩ ⟨Nat.le_of_ble_eq_true rfl, Nat.le_of_ble_eq_true rfl⟩ ⟨Nat.zero_le _, Nat.zero_le _⟩ rfl (Nat.le_of_ble_eq_true rfl) dX12_status_3 ?_
  refine z_if_eq (tgt := 18) ok dX12_status_6 (by decide) hf (fun _ hf => ?_) (fun _ hf => ?_)
  · refine z_iconst (v := (-1)) ok dX12_status_18 (by decide) ?_
    obtain rfl := Option.some.inj hf
    exact hk _ _ dX12_status_19
  · refine z_aload_n ok dX12_status_9 0 rfl ?_
    refine z_getr (q := 187) ok kc_171 zc_12 hin_12 29 (by decide) fl_12_99 rfl dX12_status_10 ?_
    refine z_iload_n ok dX12_status_13 1 rfl ?_
    refine z_iald ok kc_187 dX12_status_14 hf (fun v14 hf => ?_)
    refine z_goto (tgt := 19) ok dX12_status_15 (by decide) ?_
    obtain rfl := Option.some.inj hf
    exact hk _ _ dX12_status_19
theorem c_M_status {σ : Sg} {x1 : Int32} {r : Int32} (h : M_status σ x1 = some r) : ZcI yX12_status cX12_status 2 .int rm_M_status 198 (fun ad => [.ref (ad 171), .int x1]) σ r σ :=
  zmetI pn_12 rfl (fun _ => rfl) (fun _ => Nat.le_of_ble_eq_true rfl) rfl (fun X Q ok hk => t_M_status ok h hk)
