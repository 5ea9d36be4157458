theorem dX11_remember_0 : decode cX11_remember 0 = .ok (.aload_n 0, 1) := by decide +kernel
theorem dX11_remember_1 : decode cX11_remember 1 = .ok (.getfield 41, 3) := by decide +kernel
theorem dX11_remember_4 : decode cX11_remember 4 = .ok (.aload_n 0, 1) := by decide +kernel
theorem dX11_remember_5 : decode cX11_remember 5 = .ok (.getfield 374, 3) := by decide +kernel
theorem dX11_remember_8 : decode cX11_remember 8 = .ok (.aaload, 1) := by decide +kernel
theorem dX11_remember_9 : decode cX11_remember 9 = .ok (.ifnonnull 19, 3) := by decide +kernel
theorem dX11_remember_12 : decode cX11_remember 12 = .ok (.aload_n 0, 1) := by decide +kernel
theorem dX11_remember_13 : decode cX11_remember 13 = .ok (.getfield 41, 3) := by decide +kernel
theorem dX11_remember_16 : decode cX11_remember 16 = .ok (.aload_n 0, 1) := by decide +kernel
theorem dX11_remember_17 : decode cX11_remember 17 = .ok (.getfield 374, 3) := by decide +kernel
theorem dX11_remember_20 : decode cX11_remember 20 = .ok (.new 34, 3) := by decide +kernel
theorem dX11_remember_23 : decode cX11_remember 23 = .ok (.dup, 1) := by decide +kernel
theorem dX11_remember_24 : decode cX11_remember 24 = .ok (.invokespecial 36, 3) := by decide +kernel
theorem dX11_remember_27 : decode cX11_remember 27 = .ok (.aastore, 1) := by decide +kernel
theorem dX11_remember_28 : decode cX11_remember 28 = .ok (.aload_n 0, 1) := by decide +kernel
theorem dX11_remember_29 : decode cX11_remember 29 = .ok (.getfield 41, 3) := by decide +kernel
theorem dX11_remember_32 : decode cX11_remember 32 = .ok (.aload_n 0, 1) := by decide +kernel
theorem dX11_remember_33 : decode cX11_remember 33 = .ok (.getfield 374, 3) := by decide +kernel
theorem dX11_remember_36 : decode cX11_remember 36 = .ok (.aaload, 1) := by decide +kernel
theorem dX11_remember_37 : decode cX11_remember 37 = .ok (.aload_n 0, 1) := by decide +kernel
theorem dX11_remember_38 : decode cX11_remember 38 = .ok (.getfield 37, 3) := by decide +kernel
theorem dX11_remember_41 : decode cX11_remember 41 = .ok (.invokevirtual 377, 3) := by decide +kernel
theorem dX11_remember_44 : decode cX11_remember 44 = .ok (.aload_n 0, 1) := by decide +kernel
theorem dX11_remember_45 : decode cX11_remember 45 = .ok (.aload_n 0, 1) := by decide +kernel
theorem dX11_remember_46 : decode cX11_remember 46 = .ok (.getfield 374, 3) := by decide +kernel
theorem dX11_remember_49 : decode cX11_remember 49 = .ok (.iconst 1, 1) := by decide +kernel
theorem dX11_remember_50 : decode cX11_remember 50 = .ok (.iadd, 1) := by decide +kernel
theorem dX11_remember_51 : decode cX11_remember 51 = .ok (.bipush 20, 2) := by decide +kernel
theorem dX11_remember_53 : decode cX11_remember 53 = .ok (.irem, 1) := by decide +kernel
theorem dX11_remember_54 : decode cX11_remember 54 = .ok (.putfield 374, 3) := by decide +kernel
theorem dX11_remember_57 : decode cX11_remember 57 = .ok (.aload_n 0, 1) := by decide +kernel
theorem dX11_remember_58 : decode cX11_remember 58 = .ok (.aload_n 0, 1) := by decide +kernel
theorem dX11_remember_59 : decode cX11_remember 59 = .ok (.getfield 105, 3) := by decide +kernel
theorem dX11_remember_62 : decode cX11_remember 62 = .ok (.iconst 1, 1) := by decide +kernel
theorem dX11_remember_63 : decode cX11_remember 63 = .ok (.iadd, 1) := by decide +kernel
theorem dX11_remember_64 : decode cX11_remember 64 = .ok (.bipush 20, 2) := by decide +kernel
theorem dX11_remember_66 : decode cX11_remember 66 = .ok (.invokestatic 397, 3) := by decide +kernel
theorem dX11_remember_69 : decode cX11_remember 69 = .ok (.putfield 105, 3) := by decide +kernel
theorem dX11_remember_72 : decode cX11_remember 72 = .ok (.return_, 1) := by decide +kernel
theorem dX11_undo_0 : decode cX11_undo 0 = .ok (.aload_n 0, 1) := by decide +kernel
theorem dX11_undo_1 : decode cX11_undo 1 = .ok (.getfield 374, 3) := by decide +kernel
theorem dX11_undo_4 : decode cX11_undo 4 = .ok (.bipush 20, 2) := by decide +kernel
theorem dX11_undo_6 : decode cX11_undo 6 = .ok (.iadd, 1) := by decide +kernel
theorem dX11_undo_7 : decode cX11_undo 7 = .ok (.iconst 1, 1) := by decide +kernel
theorem dX11_undo_8 : decode cX11_undo 8 = .ok (.isub, 1) := by decide +kernel
theorem dX11_undo_9 : decode cX11_undo 9 = .ok (.bipush 20, 2) := by decide +kernel
theorem dX11_undo_11 : decode cX11_undo 11 = .ok (.irem, 1) := by decide +kernel
theorem dX11_undo_12 : decode cX11_undo 12 = .ok (.istore_n 1, 1) := by decide +kernel
theorem dX11_undo_13 : decode cX11_undo 13 = .ok (.aload_n 0, 1) := by decide +kernel
theorem dX11_undo_14 : decode cX11_undo 14 = .ok (.getfield 105, 3) := by decide +kernel
theorem dX11_undo_17 : decode cX11_undo 17 = .ok (.ifCond .eq 12, 3) := by decide +kernel
theorem dX11_undo_20 : decode cX11_undo 20 = .ok (.aload_n 0, 1) := by decide +kernel
theorem dX11_undo_21 : decode cX11_undo 21 = .ok (.getfield 41, 3) := by decide +kernel
theorem dX11_undo_24 : decode cX11_undo 24 = .ok (.iload_n 1, 1) := by decide +kernel
theorem dX11_undo_25 : decode cX11_undo 25 = .ok (.aaload, 1) := by decide +kernel
theorem dX11_undo_26 : decode cX11_undo 26 = .ok (.ifnonnull 9, 3) := by decide +kernel
theorem dX11_undo_29 : decode cX11_undo 29 = .ok (.aload_n 0, 1) := by decide +kernel
theorem dX11_undo_30 : decode cX11_undo 30 = .ok (.iconst 4, 1) := by decide +kernel
theorem dX11_undo_31 : decode cX11_undo 31 = .ok (.invokevirtual 77, 3) := by decide +kernel
theorem dX11_undo_34 : decode cX11_undo 34 = .ok (.ireturn, 1) := by decide +kernel
theorem dX11_undo_35 : decode cX11_undo 35 = .ok (.aload_n 0, 1) := by decide +kernel
theorem dX11_undo_36 : decode cX11_undo 36 = .ok (.getfield 37, 3) := by decide +kernel
theorem dX11_undo_39 : decode cX11_undo 39 = .ok (.aload_n 0, 1) := by decide +kernel
theorem dX11_undo_40 : decode cX11_undo 40 = .ok (.getfield 41, 3) := by decide +kernel
theorem dX11_undo_43 : decode cX11_undo 43 = .ok (.iload_n 1, 1) := by decide +kernel
theorem dX11_undo_44 : decode cX11_undo 44 = .ok (.aaload, 1) := by decide +kernel
theorem dX11_undo_45 : decode cX11_undo 45 = .ok (.invokevirtual 377, 3) := by decide +kernel
theorem dX11_undo_48 : decode cX11_undo 48 = .ok (.aload_n 0, 1) := by decide +kernel
theorem dX11_undo_49 : decode cX11_undo 49 = .ok (.iload_n 1, 1) := by decide +kernel
theorem dX11_undo_50 : decode cX11_undo 50 = .ok (.putfield 374, 3) := by decide +kernel
theorem dX11_undo_53 : decode cX11_undo 53 = .ok (.aload_n 0, 1) := by decide +kernel
theorem dX11_undo_54 : decode cX11_undo 54 = .ok (.dup, 1) := by decide +kernel
theorem dX11_undo_55 : decode cX11_undo 55 = .ok (.getfield 105, 3) := by decide +kernel
theorem dX11_undo_58 : decode cX11_undo 58 = .ok (.iconst 1, 1) := by decide +kernel
theorem dX11_undo_59 : decode cX11_undo 59 = .ok (.isub, 1) := by decide +kernel
theorem dX11_undo_60 : decode cX11_undo 60 = .ok (.putfield 105, 3) := by decide +kernel
theorem dX11_undo_63 : decode cX11_undo 63 = .ok (.iconst 1, 1) := by decide +kernel
theorem dX11_undo_64 : decode cX11_undo 64 = .ok (.ireturn, 1) := by decide +kernel
theorem fr_41 : Cond.fieldLink RX11 41 (TX11 9).1 (TX11 9).2.1 (TX11 9).2.2.1 ∈ zT := zT_of (i := 583) (by decide +kernel) rfl
theorem fr_374 : Cond.fieldLink RX11 374 (TX11 10).1 (TX11 10).2.1 (TX11 10).2.2.1 ∈ zT := zT_of (i := 584) (by decide +kernel) rfl
theorem fr_105 : Cond.fieldLink RX11 105 (TX11 11).1 (TX11 11).2.1 (TX11 11).2.2.1 ∈ zT := zT_of (i := 585) (by decide +kernel) rfl
theorem fr_37 : Cond.fieldLink RX11 37 (TX11 8).1 (TX11 8).2.1 (TX11 8).2.2.1 ∈ zT := zT_of (i := 582) (by decide +kernel) rfl
theorem mr_377 : Cond.methodLink RX11 377 yX1_copyFrom ∈ zT := zT_of (i := 1300) (by decide +kernel) rfl
theorem mr_397 : Cond.methodLink RX11 397 Lib.Math.min.name ∈ zT := zT_of (i := 1310) (by decide +kernel) rfl
theorem mr_77 : Cond.methodLink RX11 77 yX11_deny ∈ zT := zT_of (i := 639) (by decide +kernel) rfl
theorem w_CK_remember : Cond.instanceMethod yX11_remember ∈ zT ∧ Cond.selects yX11_remember.cls yX11_remember yX11_remember ∈ zT ∧ Cond.initialized yX11_remember.cls ∈ zT ∧ Cond.code yX11_remember cX11_remember 1 none ∈ zT := ⟨zT_of (i := 1298) (by decide +kernel) rfl, zT_of (i := 49) (by decide +kernel) rfl, zT_of (i := 123) (by decide +kernel) rfl, zT_of (i := 1299) (by decide +kernel) rfl⟩
theorem hy_CK_remember : yX11_remember.cls ≠ "java/lang/invoke/MethodHandle" ∧ yX11_remember.cls ≠ "java/lang/invoke/VarHandle" ∧ (parseMethodDescriptor yX11_remember.desc).map (fun d => d.parameters.length) = some 0 := by decide +kernel
theorem w_CK_undo : Cond.instanceMethod yX11_undo ∈ zT ∧ Cond.selects yX11_undo.cls yX11_undo yX11_undo ∈ zT ∧ Cond.initialized yX11_undo.cls ∈ zT ∧ Cond.code yX11_undo cX11_undo 2 (some .boolean) ∈ zT := ⟨zT_of (i := 1382) (by decide +kernel) rfl, zT_of (i := 1383) (by decide +kernel) rfl, zT_of (i := 123) (by decide +kernel) rfl, zT_of (i := 1384) (by decide +kernel) rfl⟩
theorem hy_CK_undo : yX11_undo.cls ≠ "java/lang/invoke/MethodHandle" ∧ yX11_undo.cls ≠ "java/lang/invoke/VarHandle" ∧ (parseMethodDescriptor yX11_undo.desc).map (fun d => d.parameters.length) = some 0 := by decide +kernel
abbrev rm_CK_remember (d : Nat) : Room := rmA 4 102 d
abbrev rm_CK_undo (d : Nat) : Room := rmA 3 102 d
theorem zI_M55 {N : Nat} (h : 198 ≤ N) : zI_Moment 55 N := ⟨kc_55.mono h, kc_56.mono h, kc_57.mono h, kc_58.mono h, kc_59.mono h, kc_60.mono h, kc_61.mono h, kc_62.mono h, kc_63.mono h, kc_64.mono h, kc_65.mono h, kc_66.mono h, kc_67.mono h, kc_68.mono h, kc_69.mono h, kc_70.mono h, kc_71.mono h, kc_72.mono h, kc_73.mono h, kc_74.mono h, kc_75.mono h, kc_76.mono h, kc_77.mono h, kc_78.mono h, kc_79.mono h⟩
def CK_remember_p28 (n : Nat) (σ : Sg) : Option Sg :=
  zgt σ 0 10 fun v33 => zrd σ 80 20 v33 fun v36 => zmm n v36 fun p =>
  (Moment_copyFrom σ p 55).bind fun r41 =>
  zgt r41 0 10 fun v46 => zpt r41 0 10 ((v46 + 1) - (v46 + 1) / 20 * 20) fun σ54 =>
  zgt σ54 0 11 fun v59 => zpt σ54 0 11 (if 20 < (v59 + 1) then 20 else (v59 + 1)) fun σ69 => some σ69
def CK_remember (n : Nat) (σ : Sg) : Option (Sg × Nat) :=
  zgt σ 0 10 fun v5 => zrd σ 80 20 v5 fun v8 =>
  if v8 = 0 then (
    zgt σ 0 10 fun v17 =>
    if (n - 198) % 25 = 0 ∧ n + 25 ≤ 90000 then (
      zwr (zzn σ n) 80 20 v17 (nI (n + 1)) fun σ27 => (CK_remember_p28 (n + 25) σ27).bind fun o => some (o, n + 25)) else none
  ) else (CK_remember_p28 n σ).bind fun o => some (o, n)
set_option maxRecDepth 20000 in
theorem t_CK_remember_p28 {X : Zx} {Q : State → Prop} {σ : Sg} {k1 k2 d : Nat} (ok : Zok X cX11_remember RX11 (rm_CK_remember d) 198 1) (hkR : k1 ≤ d ∧ k2 ≤ zms d) {out : Sg} (hf : CK_remember_p28 X.2.2.1.2.2.2 σ = some out) (hk : ZrVk cX11_remember X Q k1 k2 out) : ZAt X Q k1 k2 28 σ [(0, .ref (X.ad 0))] [] := by
  unfold CK_remember_p28 at hf
  refine z_aload_n ok dX11_remember_28 0 rfl ?_
  refine z_getr (q := 80) ok kc_0 zc_11 hin_11 9 (by decide) fr_41 rfl dX11_remember_29 ?_
  refine z_aload_n ok dX11_remember_32 0 rfl ?_
  refine z_geti ok kc_0 zc_11 hin_11 10 (by decide) fr_374 rfl dX11_remember_33 hf (fun v33 hf => ?_)
  refine z_aaldm ok kc_80 dX11_remember_36 hf (fun v36 hf => ?_)
  refine z_mm hf (fun p hp hf => ?_)
  refine z_aload_n ok dX11_remember_37 0 rfl ?_
  refine z_getr (q := 55) ok kc_0 zc_11 hin_11 8 (by decide) fr_37 rfl dX11_remember_38 ?_
  refine z_call hf (fun r41 h41 hf => ?_)
  have okn := ok.up (M := X.2.2.1.2.2.2) (Nat.le_refl _)
  refine z_cVv (As := [.ref (X.ad 55)]) (rest := []) (w := p) okn hp.1 zc_1 (c_Moment_copyFrom hp (zI_M55 ok.2.2.2.2.1) h41) rfl ⟨mr_377, w_Moment_copyFrom⟩ hy_Moment_copyFrom ⟨rfl, rfl⟩ ⟨Nat.le_of_ble_eq_true rfl, Nat.le_of_ble_eq_true rfl⟩ hkR rfl (Nat.le_of_ble_eq_true rfl) dX11_remember_41 ?_
  refine z_aload_n ok dX11_remember_44 0 rfl ?_
  refine z_aload_n ok dX11_remember_45 0 rfl ?_
  refine z_geti ok kc_0 zc_11 hin_11 10 (by decide) fr_374 rfl dX11_remember_46 hf (fun v46 hf => ?_)
  refine z_iconst (v := 1) ok dX11_remember_49 (by decide) ?_
  refine z_iadd ok dX11_remember_50 ?_
  refine z_bipush (v := 20) ok dX11_remember_51 (by decide) ?_
  refine z_iremc ok dX11_remember_53 (by decide) ?_
  refine z_puti ok kc_0 zc_11 hin_11 tyX11 tyX11_ok nmX11 10 (by decide) fr_374 rfl rfl (tyX11_ok 10 (by decide)) dX11_remember_54 hf (fun σ54 hf => ?_)
  refine z_aload_n ok dX11_remember_57 0 rfl ?_
  refine z_aload_n ok dX11_remember_58 0 rfl ?_
  refine z_geti ok kc_0 zc_11 hin_11 11 (by decide) fr_105 rfl dX11_remember_59 hf (fun v59 hf => ?_)
  refine z_iconst (v := 1) ok dX11_remember_62 (by decide) ?_
  refine z_iadd ok dX11_remember_63 ?_
  refine z_bipush (v := 20) ok dX11_remember_64 (by decide) ?_
  refine z_mmin ok mr_397 (Nat.le_of_ble_eq_true rfl) (Nat.le_of_ble_eq_true rfl) hkR dX11_remember_66 ?_
  refine z_puti ok kc_0 zc_11 hin_11 tyX11 tyX11_ok nmX11 11 (by decide) fr_105 rfl rfl (tyX11_ok 11 (by decide)) dX11_remember_69 hf (fun σ69 hf => ?_)
  obtain rfl := Option.some.inj hf
  exact hk _ _ dX11_remember_72
set_option maxRecDepth 20000 in
theorem t_CK_remember {X : Zx} {Q : State → Prop} {σ : Sg} {out : Sg × Nat} (oka : Zoka X cX11_remember RX11 (rm_CK_remember (out.2 - X.2.2.1.2.2.2)) 198 1 0) (hnn : X.2.2.1.2.2.2 ≤ out.2 ∧ out.2 ≤ 900000) (hf : CK_remember X.2.2.1.2.2.2 σ = some out) (hk : ZrVa cX11_remember X Q out.2 out.1) : ZAt X Q 0 0 0 σ [(0, .ref (X.ad 0))] [] := by
  unfold CK_remember at hf
  have ok := oka.1
  refine z_aload_n ok dX11_remember_0 0 rfl ?_
  refine z_getr (q := 80) ok kc_0 zc_11 hin_11 9 (by decide) fr_41 rfl dX11_remember_1 ?_
  refine z_aload_n ok dX11_remember_4 0 rfl ?_
  refine z_geti ok kc_0 zc_11 hin_11 10 (by decide) fr_374 rfl dX11_remember_5 hf (fun v5 hf => ?_)
  refine z_aaldm ok kc_80 dX11_remember_8 hf (fun v8 hf => ?_)
  refine z_ifnn (tgt := 28) ok dX11_remember_9 (by decide) hf (fun _ hf => ?_) (fun _ hf => ?_)
  · refine z_aload_n ok dX11_remember_12 0 rfl ?_
    refine z_getr (q := 80) ok kc_0 zc_11 hin_11 9 (by decide) fr_41 rfl dX11_remember_13 ?_
    refine z_aload_n ok dX11_remember_16 0 rfl ?_
    refine z_geti ok kc_0 zc_11 hin_11 10 (by decide) fr_374 rfl dX11_remember_17 hf (fun v17 hf => ?_)
    by_cases hc : (X.2.2.1.2.2.2 - 198) % 25 = 0 ∧ X.2.2.1.2.2.2 + 25 ≤ 90000
    · rw [if_pos hc] at hf
      obtain ⟨hi, hf⟩ := zwr_some hf
      obtain ⟨o, ho, hf⟩ := zbind hf
      obtain rfl := Option.some.inj hf
      have hd25 : X.2.2.1.2.2.2 + 25 - X.2.2.1.2.2.2 = 25 := by omega
      refine z_newM oka (by decide) hc.1 (by omega) dX11_remember_20 dX11_remember_23 dX11_remember_24 ⟨Nat.le_of_ble_eq_true rfl, Nat.le_of_ble_eq_true rfl⟩ ⟨by show 25 ≤ X.2.2.1.2.2.2 + 25 - X.2.2.1.2.2.2; omega, by show 1664 ≤ zms (X.2.2.1.2.2.2 + 25 - X.2.2.1.2.2.2); rw [hd25]; decide⟩ (Nat.le_of_ble_eq_true rfl) (fun ok1 => ?_)
      have hn1 : 198 ≤ X.2.2.1.2.2.2 := ok.2.2.2.2.1
      have hzM : zI_Moment X.2.2.1.2.2.2 (X.2.2.1.2.2.2 + 25) := zI_mom hn1 hc.1 (Nat.le_refl _)
      have ok25 := ok1.up (M := X.2.2.1.2.2.2 + 25) (Nat.le_refl _)
      refine z_aastm (α := Sg) (out := zup (zzn σ X.2.2.1.2.2.2) 80 v17.toNatClampNeg (nI (X.2.2.1.2.2.2 + 1))) (k := fun s => some s) ok25 (kc_80.mono (by show 198 ≤ X.2.2.1.2.2.2 + 25; omega)) hzM.1 (by omega) dX11_remember_27 (by
        unfold zwr
        rw [if_neg hi]) (fun σ27 h27 => ?_)
      obtain rfl := Option.some.inj h27
      have hk1 : ZrVk cX11_remember (zX X (X.2.2.1.2.2.2 + 25)) Q 25 1664 o := fun pc lv hd => by
        have h := hk pc lv hd
        rw [hd25] at h
        exact h
      exact t_CK_remember_p28 ok1 ⟨by omega, by rw [hd25]; decide⟩ ho hk1
    · rw [if_neg hc] at hf
      cases hf
  · obtain ⟨o, ho, hf⟩ := zbind hf
    obtain rfl := Option.some.inj hf
    exact t_CK_remember_p28 ok ⟨Nat.zero_le _, Nat.zero_le _⟩ ho (ZrVa.z hk)
theorem c_CK_remember {n : Nat} {σ : Sg} {r : Sg × Nat} (h : CK_remember n σ = some r) (hnn : n ≤ r.2 ∧ r.2 ≤ 900000) : ZaV yX11_remember cX11_remember 1 (rm_CK_remember (r.2 - n)) 198 (fun ad => [.ref (ad 0)]) n σ r.2 r.1 :=
  zmetaV pn_11 rfl (fun _ => rfl) (fun _ => Nat.le_of_ble_eq_true rfl) (by decide) hnn (fun X Q e oka hk => by subst e; exact t_CK_remember oka hnn h hk)
def CK_undo (n : Nat) (σ : Sg) : Option ((Bool × Sg) × Nat) :=
  zgt σ 0 10 fun v1 => zlt (((v1 + 20) - 1) - ((v1 + 20) - 1) / 20 * 20) fun v12 =>
  zgt σ 0 11 fun v14 => if v14 = 0 then (
    (CK_deny σ 4).bind fun r31 => some ((r31.1, r31.2), n)
  ) else (
    zrd σ 80 20 v12 fun v25 => if v25 = 0 then (
      (CK_deny σ 4).bind fun r31 => some ((r31.1, r31.2), n)
    ) else (
      zrd σ 80 20 v12 fun v44 => zmm n v44 fun p =>
      (Moment_copyFrom σ 55 p).bind fun r45 =>
      zpt r45 0 10 v12 fun σ50 => zgt σ50 0 11 fun v55 => zpt σ50 0 11 (v55 - 1) fun σ60 => some ((true, σ60), n)))
set_option maxRecDepth 20000 in
theorem t_CK_undo {X : Zx} {Q : State → Prop} {σ : Sg} {out : (Bool × Sg) × Nat} (oka : Zoka X cX11_undo RX11 (rm_CK_undo (out.2 - X.2.2.1.2.2.2)) 198 2 0) (hf : CK_undo X.2.2.1.2.2.2 σ = some out) (hk : ZrIa cX11_undo X Q (zb out.1.1) out.2 out.1.2) : ZAt X Q 0 0 0 σ [(0, .ref (X.ad 0))] [] := by
  unfold CK_undo at hf
  have ok := oka.1
  refine z_aload_n ok dX11_undo_0 0 rfl ?_
  refine z_geti ok kc_0 zc_11 hin_11 10 (by decide) fr_374 rfl dX11_undo_1 hf (fun v1 hf => ?_)
  refine z_bipush (v := 20) ok dX11_undo_4 (by decide) ?_
  refine z_iadd ok dX11_undo_6 ?_
  refine z_iconst (v := 1) ok dX11_undo_7 (by decide) ?_
  refine z_isub ok dX11_undo_8 ?_
  refine z_bipush (v := 20) ok dX11_undo_9 (by decide) ?_
  refine z_iremc ok dX11_undo_11 (by decide) ?_
  refine z_nm hf (fun v12 hf => ?_)
  refine z_istore_n (lv' := [(1, .int v12), (0, .ref (X.ad 0))]) ok dX11_undo_12 (by decide) rfl ?_
  have deny : ((CK_deny σ 4).bind fun r31 => some ((r31.1, r31.2), X.2.2.1.2.2.2)) = some out → ZAt X Q 0 0 29 σ [(1, .int v12), (0, .ref (X.ad 0))] [] := fun hd0 => by
    refine z_aload_n ok dX11_undo_29 1 rfl ?_
    refine z_iconst (v := 4) ok dX11_undo_30 (by decide) ?_
    refine z_call hd0 (fun r31 h31 hd1 => ?_)
    obtain rfl := Option.some.inj hd1
    refine z_cV (As := [.int 4]) (rest := []) (w := 0) ok kc_0 zc_11 (c_CK_deny h31) rfl ⟨mr_77, w_CK_deny⟩ hy_CK_deny ⟨rfl, rfl⟩ ⟨Nat.le_of_ble_eq_true rfl, Nat.le_of_ble_eq_true rfl⟩ ⟨Nat.zero_le _, Nat.zero_le _⟩ rfl (Nat.le_of_ble_eq_true rfl) dX11_undo_31 ?_
    exact ZrIa.z hk _ _ dX11_undo_34
  refine z_aload_n ok dX11_undo_13 1 rfl ?_
  refine z_geti ok kc_0 zc_11 hin_11 11 (by decide) fr_105 rfl dX11_undo_14 hf (fun v14 hf => ?_)
  refine z_if_eq (tgt := 29) ok dX11_undo_17 (by decide) hf (fun _ hf => deny hf) (fun _ hf => ?_)
  refine z_aload_n ok dX11_undo_20 1 rfl ?_
  refine z_getr (q := 80) ok kc_0 zc_11 hin_11 9 (by decide) fr_41 rfl dX11_undo_21 ?_
  refine z_iload_n ok dX11_undo_24 0 rfl ?_
  refine z_aaldm ok kc_80 dX11_undo_25 hf (fun v25 hf => ?_)
  refine z_ifnn (tgt := 35) ok dX11_undo_26 (by decide) hf (fun _ hf => deny hf) (fun _ hf => ?_)
  refine z_aload_n ok dX11_undo_35 1 rfl ?_
  refine z_getr (q := 55) ok kc_0 zc_11 hin_11 8 (by decide) fr_37 rfl dX11_undo_36 ?_
  refine z_aload_n ok dX11_undo_39 1 rfl ?_
  refine z_getr (q := 80) ok kc_0 zc_11 hin_11 9 (by decide) fr_41 rfl dX11_undo_40 ?_
  refine z_iload_n ok dX11_undo_43 0 rfl ?_
  refine z_aaldm ok kc_80 dX11_undo_44 hf (fun v44 hf => ?_)
  refine z_mm hf (fun p hp hf => ?_)
  refine z_call hf (fun r45 h45 hf => ?_)
  have okn := ok.up (M := X.2.2.1.2.2.2) (Nat.le_refl _)
  have h55 := zI_M55 ok.2.2.2.2.1
  refine z_cVv (As := [.ref (X.ad p)]) (rest := []) (w := 55) okn h55.1 zc_1 (c_Moment_copyFrom h55 hp h45) rfl ⟨mr_377, w_Moment_copyFrom⟩ hy_Moment_copyFrom ⟨rfl, rfl⟩ ⟨Nat.le_of_ble_eq_true rfl, Nat.le_of_ble_eq_true rfl⟩ ⟨Nat.zero_le _, Nat.zero_le _⟩ rfl (Nat.le_of_ble_eq_true rfl) dX11_undo_45 ?_
  refine z_aload_n ok dX11_undo_48 1 rfl ?_
  refine z_iload_n ok dX11_undo_49 0 rfl ?_
  refine z_puti ok kc_0 zc_11 hin_11 tyX11 tyX11_ok nmX11 10 (by decide) fr_374 rfl rfl (tyX11_ok 10 (by decide)) dX11_undo_50 hf (fun σ50 hf => ?_)
  refine z_aload_n ok dX11_undo_53 1 rfl ?_
  refine z_dup ok dX11_undo_54 rfl ?_
  refine z_geti ok kc_0 zc_11 hin_11 11 (by decide) fr_105 rfl dX11_undo_55 hf (fun v55 hf => ?_)
  refine z_iconst (v := 1) ok dX11_undo_58 (by decide) ?_
  refine z_isub ok dX11_undo_59 ?_
  refine z_puti ok kc_0 zc_11 hin_11 tyX11 tyX11_ok nmX11 11 (by decide) fr_105 rfl rfl (tyX11_ok 11 (by decide)) dX11_undo_60 hf (fun σ60 hf => ?_)
  refine z_iconst (v := 1) ok dX11_undo_63 (by decide) ?_
  obtain rfl := Option.some.inj hf
  exact ZrIa.z hk _ _ dX11_undo_64
theorem c_CK_undo {n : Nat} {σ : Sg} {r : (Bool × Sg) × Nat} (h : CK_undo n σ = some r) (hnn : n ≤ r.2 ∧ r.2 ≤ 900000) : ZaI yX11_undo cX11_undo 2 .boolean (rm_CK_undo (r.2 - n)) 198 (fun ad => [.ref (ad 0)]) n σ (zb r.1.1) r.2 r.1.2 :=
  zmetaI pn_11 rfl (fun _ => rfl) (fun _ => Nat.le_of_ble_eq_true rfl) (zb_nar _) (by decide) hnn (fun X Q e oka hk => by subst e; exact t_CK_undo oka h hk)
