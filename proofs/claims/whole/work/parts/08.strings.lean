theorem dJ0_coder_7d493_0 : decode cJ0_coder_7d493 0 = .ok (.getstatic 38, 3) := by decide +kernel
theorem dJ0_coder_7d493_3 : decode cJ0_coder_7d493 3 = .ok (.ifCond .eq 10, 3) := by decide +kernel
theorem dJ0_coder_7d493_6 : decode cJ0_coder_7d493 6 = .ok (.aload_n 0, 1) := by decide +kernel
theorem dJ0_coder_7d493_7 : decode cJ0_coder_7d493 7 = .ok (.getfield 15, 3) := by decide +kernel
theorem dJ0_coder_7d493_10 : decode cJ0_coder_7d493 10 = .ok (.goto 4, 3) := by decide +kernel
theorem dJ0_coder_7d493_13 : decode cJ0_coder_7d493 13 = .ok (.iconst 1, 1) := by decide +kernel
theorem dJ0_coder_7d493_14 : decode cJ0_coder_7d493 14 = .ok (.ireturn, 1) := by decide +kernel
theorem dJ0_isLatin1_aae02_0 : decode cJ0_isLatin1_aae02 0 = .ok (.getstatic 38, 3) := by decide +kernel
theorem dJ0_isLatin1_aae02_3 : decode cJ0_isLatin1_aae02 3 = .ok (.ifCond .eq 14, 3) := by decide +kernel
theorem dJ0_isLatin1_aae02_6 : decode cJ0_isLatin1_aae02 6 = .ok (.aload_n 0, 1) := by decide +kernel
theorem dJ0_isLatin1_aae02_7 : decode cJ0_isLatin1_aae02 7 = .ok (.getfield 15, 3) := by decide +kernel
theorem dJ0_isLatin1_aae02_10 : decode cJ0_isLatin1_aae02 10 = .ok (.ifCond .ne 7, 3) := by decide +kernel
theorem dJ0_isLatin1_aae02_13 : decode cJ0_isLatin1_aae02 13 = .ok (.iconst 1, 1) := by decide +kernel
theorem dJ0_isLatin1_aae02_14 : decode cJ0_isLatin1_aae02 14 = .ok (.goto 4, 3) := by decide +kernel
theorem dJ0_isLatin1_aae02_17 : decode cJ0_isLatin1_aae02 17 = .ok (.iconst 0, 1) := by decide +kernel
theorem dJ0_isLatin1_aae02_18 : decode cJ0_isLatin1_aae02 18 = .ok (.ireturn, 1) := by decide +kernel
theorem dJ0_length_8abf5_0 : decode cJ0_length_8abf5 0 = .ok (.aload_n 0, 1) := by decide +kernel
theorem dJ0_length_8abf5_1 : decode cJ0_length_8abf5 1 = .ok (.getfield 9, 3) := by decide +kernel
theorem dJ0_length_8abf5_4 : decode cJ0_length_8abf5 4 = .ok (.arraylength, 1) := by decide +kernel
theorem dJ0_length_8abf5_5 : decode cJ0_length_8abf5 5 = .ok (.aload_n 0, 1) := by decide +kernel
theorem dJ0_length_8abf5_6 : decode cJ0_length_8abf5 6 = .ok (.invokevirtual 335, 3) := by decide +kernel
theorem dJ0_length_8abf5_9 : decode cJ0_length_8abf5 9 = .ok (.ishr, 1) := by decide +kernel
theorem dJ0_length_8abf5_10 : decode cJ0_length_8abf5 10 = .ok (.ireturn, 1) := by decide +kernel
theorem dJ0_charAt_5068e_0 : decode cJ0_charAt_5068e 0 = .ok (.aload_n 0, 1) := by decide +kernel
theorem dJ0_charAt_5068e_1 : decode cJ0_charAt_5068e 1 = .ok (.invokevirtual 492, 3) := by decide +kernel
theorem dJ0_charAt_5068e_4 : decode cJ0_charAt_5068e 4 = .ok (.ifCond .eq 12, 3) := by decide +kernel
theorem dJ0_charAt_5068e_7 : decode cJ0_charAt_5068e 7 = .ok (.aload_n 0, 1) := by decide +kernel
theorem dJ0_charAt_5068e_8 : decode cJ0_charAt_5068e 8 = .ok (.getfield 9, 3) := by decide +kernel
theorem dJ0_charAt_5068e_11 : decode cJ0_charAt_5068e 11 = .ok (.iload_n 1, 1) := by decide +kernel
theorem dJ0_charAt_5068e_12 : decode cJ0_charAt_5068e 12 = .ok (.invokestatic 495, 3) := by decide +kernel
theorem dJ0_charAt_5068e_15 : decode cJ0_charAt_5068e 15 = .ok (.ireturn, 1) := by decide +kernel
theorem dJ0_charAt_5068e_16 : decode cJ0_charAt_5068e 16 = .ok (.aload_n 0, 1) := by decide +kernel
theorem dJ0_charAt_5068e_17 : decode cJ0_charAt_5068e 17 = .ok (.getfield 9, 3) := by decide +kernel
theorem dJ0_charAt_5068e_20 : decode cJ0_charAt_5068e 20 = .ok (.iload_n 1, 1) := by decide +kernel
theorem dJ0_charAt_5068e_21 : decode cJ0_charAt_5068e 21 = .ok (.invokestatic 498, 3) := by decide +kernel
theorem dJ0_charAt_5068e_24 : decode cJ0_charAt_5068e 24 = .ok (.ireturn, 1) := by decide +kernel
theorem dJ0_checkIndex_df160_0 : decode cJ0_checkIndex_df160 0 = .ok (.iload_n 0, 1) := by decide +kernel
theorem dJ0_checkIndex_df160_1 : decode cJ0_checkIndex_df160 1 = .ok (.iload_n 1, 1) := by decide +kernel
theorem dJ0_checkIndex_df160_2 : decode cJ0_checkIndex_df160 2 = .ok (.getstatic 1053, 3) := by decide +kernel
theorem dJ0_checkIndex_df160_5 : decode cJ0_checkIndex_df160 5 = .ok (.invokestatic 1059, 3) := by decide +kernel
theorem dJ0_checkIndex_df160_8 : decode cJ0_checkIndex_df160 8 = .ok (.pop, 1) := by decide +kernel
theorem dJ0_checkIndex_df160_9 : decode cJ0_checkIndex_df160 9 = .ok (.return_, 1) := by decide +kernel
theorem dJ1_charAt_3b067_0 : decode cJ1_charAt_3b067 0 = .ok (.iload_n 1, 1) := by decide +kernel
theorem dJ1_charAt_3b067_1 : decode cJ1_charAt_3b067 1 = .ok (.aload_n 0, 1) := by decide +kernel
theorem dJ1_charAt_3b067_2 : decode cJ1_charAt_3b067 2 = .ok (.arraylength, 1) := by decide +kernel
theorem dJ1_charAt_3b067_3 : decode cJ1_charAt_3b067 3 = .ok (.invokestatic 9, 3) := by decide +kernel
theorem dJ1_charAt_3b067_6 : decode cJ1_charAt_3b067 6 = .ok (.aload_n 0, 1) := by decide +kernel
theorem dJ1_charAt_3b067_7 : decode cJ1_charAt_3b067 7 = .ok (.iload_n 1, 1) := by decide +kernel
theorem dJ1_charAt_3b067_8 : decode cJ1_charAt_3b067 8 = .ok (.baload, 1) := by decide +kernel
theorem dJ1_charAt_3b067_9 : decode cJ1_charAt_3b067 9 = .ok (.sipush 255, 3) := by decide +kernel
theorem dJ1_charAt_3b067_12 : decode cJ1_charAt_3b067 12 = .ok (.iand, 1) := by decide +kernel
theorem dJ1_charAt_3b067_13 : decode cJ1_charAt_3b067 13 = .ok (.i2c, 1) := by decide +kernel
theorem dJ1_charAt_3b067_14 : decode cJ1_charAt_3b067 14 = .ok (.ireturn, 1) := by decide +kernel
theorem dJ3_checkIndex_8e157_0 : decode cJ3_checkIndex_8e157 0 = .ok (.iload_n 0, 1) := by decide +kernel
theorem dJ3_checkIndex_8e157_1 : decode cJ3_checkIndex_8e157 1 = .ok (.ifCond .lt 8, 3) := by decide +kernel
theorem dJ3_checkIndex_8e157_4 : decode cJ3_checkIndex_8e157 4 = .ok (.iload_n 0, 1) := by decide +kernel
theorem dJ3_checkIndex_8e157_5 : decode cJ3_checkIndex_8e157 5 = .ok (.iload_n 1, 1) := by decide +kernel
theorem dJ3_checkIndex_8e157_6 : decode cJ3_checkIndex_8e157 6 = .ok (.if_icmp .lt 10, 3) := by decide +kernel
theorem dJ3_checkIndex_8e157_9 : decode cJ3_checkIndex_8e157 9 = .ok (.aload_n 2, 1) := by decide +kernel
theorem dJ3_checkIndex_8e157_10 : decode cJ3_checkIndex_8e157 10 = .ok (.iload_n 0, 1) := by decide +kernel
theorem dJ3_checkIndex_8e157_11 : decode cJ3_checkIndex_8e157 11 = .ok (.iload_n 1, 1) := by decide +kernel
theorem dJ3_checkIndex_8e157_12 : decode cJ3_checkIndex_8e157 12 = .ok (.invokestatic 95, 3) := by decide +kernel
theorem dJ3_checkIndex_8e157_15 : decode cJ3_checkIndex_8e157 15 = .ok (.athrow, 1) := by decide +kernel
theorem dJ3_checkIndex_8e157_16 : decode cJ3_checkIndex_8e157 16 = .ok (.iload_n 0, 1) := by decide +kernel
theorem dJ3_checkIndex_8e157_17 : decode cJ3_checkIndex_8e157 17 = .ok (.ireturn, 1) := by decide +kernel
theorem w_J_coder : Cond.instanceMethod yJ0_coder_7d493 ∈ zT ∧ Cond.selects yJ0_coder_7d493.cls yJ0_coder_7d493 yJ0_coder_7d493 ∈ zT ∧ Cond.initialized yJ0_coder_7d493.cls ∈ zT ∧ Cond.code yJ0_coder_7d493 cJ0_coder_7d493 1 (some .byte) ∈ zT := ⟨zT_of (i := 688) (by decide +kernel) rfl, zT_of (i := 689) (by decide +kernel) rfl, zT_of (i := 136) (by decide +kernel) rfl, zT_of (i := 690) (by decide +kernel) rfl⟩
theorem hy_J_coder : yJ0_coder_7d493.cls ≠ "java/lang/invoke/MethodHandle" ∧ yJ0_coder_7d493.cls ≠ "java/lang/invoke/VarHandle" ∧ (parseMethodDescriptor yJ0_coder_7d493.desc).map (fun d => d.parameters.length) = some 0 := by decide +kernel
theorem w_J_isLatin1 : Cond.instanceMethod yJ0_isLatin1_aae02 ∈ zT ∧ Cond.selects yJ0_isLatin1_aae02.cls yJ0_isLatin1_aae02 yJ0_isLatin1_aae02 ∈ zT ∧ Cond.initialized yJ0_isLatin1_aae02.cls ∈ zT ∧ Cond.code yJ0_isLatin1_aae02 cJ0_isLatin1_aae02 1 (some .boolean) ∈ zT := ⟨zT_of (i := 698) (by decide +kernel) rfl, zT_of (i := 699) (by decide +kernel) rfl, zT_of (i := 136) (by decide +kernel) rfl, zT_of (i := 700) (by decide +kernel) rfl⟩
theorem hy_J_isLatin1 : yJ0_isLatin1_aae02.cls ≠ "java/lang/invoke/MethodHandle" ∧ yJ0_isLatin1_aae02.cls ≠ "java/lang/invoke/VarHandle" ∧ (parseMethodDescriptor yJ0_isLatin1_aae02.desc).map (fun d => d.parameters.length) = some 0 := by decide +kernel
theorem w_J_length : Cond.instanceMethod yJ0_length_8abf5 ∈ zT ∧ Cond.selects yJ0_length_8abf5.cls yJ0_length_8abf5 yJ0_length_8abf5 ∈ zT ∧ Cond.initialized yJ0_length_8abf5.cls ∈ zT ∧ Cond.code yJ0_length_8abf5 cJ0_length_8abf5 1 (some .int) ∈ zT := ⟨zT_of (i := 684) (by decide +kernel) rfl, zT_of (i := 685) (by decide +kernel) rfl, zT_of (i := 136) (by decide +kernel) rfl, zT_of (i := 686) (by decide +kernel) rfl⟩
theorem hy_J_length : yJ0_length_8abf5.cls ≠ "java/lang/invoke/MethodHandle" ∧ yJ0_length_8abf5.cls ≠ "java/lang/invoke/VarHandle" ∧ (parseMethodDescriptor yJ0_length_8abf5.desc).map (fun d => d.parameters.length) = some 0 := by decide +kernel
theorem w_J_charAt : Cond.instanceMethod yJ0_charAt_5068e ∈ zT ∧ Cond.selects yJ0_charAt_5068e.cls yJ0_charAt_5068e yJ0_charAt_5068e ∈ zT ∧ Cond.initialized yJ0_charAt_5068e.cls ∈ zT ∧ Cond.code yJ0_charAt_5068e cJ0_charAt_5068e 2 (some .char) ∈ zT := ⟨zT_of (i := 694) (by decide +kernel) rfl, zT_of (i := 695) (by decide +kernel) rfl, zT_of (i := 136) (by decide +kernel) rfl, zT_of (i := 696) (by decide +kernel) rfl⟩
theorem hy_J_charAt : yJ0_charAt_5068e.cls ≠ "java/lang/invoke/MethodHandle" ∧ yJ0_charAt_5068e.cls ≠ "java/lang/invoke/VarHandle" ∧ (parseMethodDescriptor yJ0_charAt_5068e.desc).map (fun d => d.parameters.length) = some 1 := by decide +kernel
theorem w_J_checkIndex : Cond.static yJ0_checkIndex_df160 ∈ zT ∧ Cond.initialized yJ0_checkIndex_df160.cls ∈ zT ∧ Cond.code yJ0_checkIndex_df160 cJ0_checkIndex_df160 2 none ∈ zT := ⟨zT_of (i := 705) (by decide +kernel) rfl, zT_of (i := 136) (by decide +kernel) rfl, zT_of (i := 706) (by decide +kernel) rfl⟩
theorem hy_J_checkIndex : yJ0_checkIndex_df160.cls ≠ "java/lang/invoke/MethodHandle" ∧ yJ0_checkIndex_df160.cls ≠ "java/lang/invoke/VarHandle" ∧ (parseMethodDescriptor yJ0_checkIndex_df160.desc).map (fun d => d.parameters.length) = some 2 := by decide +kernel
theorem w_J_latCharAt : Cond.static yJ1_charAt_3b067 ∈ zT ∧ Cond.initialized yJ1_charAt_3b067.cls ∈ zT ∧ Cond.code yJ1_charAt_3b067 cJ1_charAt_3b067 2 (some .char) ∈ zT := ⟨zT_of (i := 702) (by decide +kernel) rfl, zT_of (i := 137) (by decide +kernel) rfl, zT_of (i := 703) (by decide +kernel) rfl⟩
theorem hy_J_latCharAt : yJ1_charAt_3b067.cls ≠ "java/lang/invoke/MethodHandle" ∧ yJ1_charAt_3b067.cls ≠ "java/lang/invoke/VarHandle" ∧ (parseMethodDescriptor yJ1_charAt_3b067.desc).map (fun d => d.parameters.length) = some 2 := by decide +kernel
theorem w_J_preCheck : Cond.static yJ3_checkIndex_8e157 ∈ zT ∧ Cond.initialized yJ3_checkIndex_8e157.cls ∈ zT ∧ Cond.code yJ3_checkIndex_8e157 cJ3_checkIndex_8e157 3 (some .int) ∈ zT := ⟨zT_of (i := 710) (by decide +kernel) rfl, zT_of (i := 138) (by decide +kernel) rfl, zT_of (i := 711) (by decide +kernel) rfl⟩
theorem hy_J_preCheck : yJ3_checkIndex_8e157.cls ≠ "java/lang/invoke/MethodHandle" ∧ yJ3_checkIndex_8e157.cls ≠ "java/lang/invoke/VarHandle" ∧ (parseMethodDescriptor yJ3_checkIndex_8e157.desc).map (fun d => d.parameters.length) = some 3 := by decide +kernel
theorem ml_J0_335 : Cond.methodLink RJ0 335 yJ0_coder_7d493 ∈ zT := zT_of (i := 687) (by decide +kernel) rfl
theorem ml_J0_492 : Cond.methodLink RJ0 492 yJ0_isLatin1_aae02 ∈ zT := zT_of (i := 697) (by decide +kernel) rfl
theorem ml_J0_495 : Cond.methodLink RJ0 495 yJ1_charAt_3b067 ∈ zT := zT_of (i := 701) (by decide +kernel) rfl
theorem ml_J1_9 : Cond.methodLink RJ1 9 yJ0_checkIndex_df160 ∈ zT := zT_of (i := 704) (by decide +kernel) rfl
theorem ml_J0_1059 : Cond.methodLink RJ0 1059 yJ3_checkIndex_8e157 ∈ zT := zT_of (i := 709) (by decide +kernel) rfl
theorem ml_X5_248 : Cond.methodLink RX5 248 yJ0_length_8abf5 ∈ zT := zT_of (i := 683) (by decide +kernel) rfl
theorem ml_X5_252 : Cond.methodLink RX5 252 yJ0_charAt_5068e ∈ zT := zT_of (i := 693) (by decide +kernel) rfl
theorem fl_J0_9 : Cond.fieldLink RJ0 9 "java/lang/String" "value" "[B" ∈ zT := zT_of (i := 1993) (by decide +kernel) rfl
theorem fl_J0_15 : Cond.fieldLink RJ0 15 "java/lang/String" "coder" "B" ∈ zT := zT_of (i := 1994) (by decide +kernel) rfl
theorem fl_J0_38 : Cond.fieldLink RJ0 38 "java/lang/String" "COMPACT_STRINGS" "Z" ∈ zT := zT_of (i := 691) (by decide +kernel) rfl
theorem fl_J0_1053 : Cond.fieldLink RJ0 1053 "jdk/internal/util/Preconditions" "SIOOBE_FORMATTER" "Ljava/util/function/BiFunction;" ∈ zT := zT_of (i := 707) (by decide +kernel) rfl
def zSL (k : Nat) : Int32 := Int32.ofNat (zSlen.getD k 0)
def zsc {α : Type} (k : Nat) (i : Int32) (f : Int32 → Option α) : Option α := if i < 0 ∨ zSlen.getD k 0 ≤ i.toNatClampNeg then none else f ((zSbyt.getD k []).getD i.toNatClampNeg 0)
theorem zSL_shr : ∀ k, k < 21 → Int32.ofNat (zSlen.getD k 0) >>> ((0 : Int32) &&& 31) = zSL k := by decide +kernel
theorem zS_all : ∀ k, k < 21 → (zSbyt.getD k []).length = zSlen.getD k 0 ∧ ∀ b ∈ zSbyt.getD k [], ((b &&& 255).toUInt32 % 65536).toInt32 = b ∧ narrow .char (.int b) = .int b := by decide +kernel
theorem zS_ch {k j : Nat} (hk : k < 21) (hj : j < zSlen.getD k 0) : ((((zSbyt.getD k []).getD j 0) &&& 255).toUInt32 % 65536).toInt32 = (zSbyt.getD k []).getD j 0 ∧ narrow .char (.int ((zSbyt.getD k []).getD j 0)) = .int ((zSbyt.getD k []).getD j 0) := by
  obtain ⟨h1, h2⟩ := zS_all k hk
  refine h2 _ ?_
  have hl : j < (zSbyt.getD k []).length := by rw [h1]; exact hj
  generalize zSbyt.getD k [] = l at hl ⊢
  rw [List.getD_eq_getElem?_getD, List.getElem?_eq_getElem hl]
  exact List.getElem_mem hl
section ZS
variable {X : Zx} {cc : ByteArray} {own : String} {rm : Room} {N nL : Nat} {Q : State → Prop} {k1 k2 pc : Nat} {σ σ' : Sg} {lv : List (Nat × Value)} {st : List Value} {α : Type} {out : α}
theorem Zok.E (ok : Zok X cc own rm N nL) : Zev X.ad X.2.2.2.1 X.1.2.2.2.2 X.1.2.2.2.2.heap := ok.2.2.2.2.2.2.2
theorem z_ldcS (ok : Zok X cc RX5 rm N nL) (k : Nat) {ix : Nat} {tx : String} (hk : zSix[k]? = some (ix, tx)) (hd : decode cc pc = .ok (.ldc ix, 2)) (kk : ZAt X Q k1 k2 (pc + 2) σ lv (.ref (X.ad (1000000 + k)) :: st)) : ZAt X Q k1 k2 pc σ lv st :=
  fun H locs ls hP hS hl => va_ldcS ok.1.1 ok.1.2.1 ok.1.2.2.2.1 (ok.E.2.1 k _ hk) hd (kk H locs ls hP hS hl)
theorem z_ldcwS (ok : Zok X cc RX5 rm N nL) (k : Nat) {ix : Nat} {tx : String} (hk : zSix[k]? = some (ix, tx)) (hd : decode cc pc = .ok (.ldc_w ix, 3)) (kk : ZAt X Q k1 k2 (pc + 3) σ lv (.ref (X.ad (1000000 + k)) :: st)) : ZAt X Q k1 k2 pc σ lv st := by
  intro H locs ls hP hS hl T hT Y
  obtain ⟨t, a1, b1⟩ := kk H locs ls hP hS hl T hT Y
  refine ⟨t, ?_, b1⟩
  have hZ := ok.E.2.1 k _ hk
  have hown := ok.1.2.2.2.1
  obtain ⟨kc, cf, i, a', hkc, hcf, hcp, -, hr, hev'⟩ := Cond.stringRef_spec hown hZ.1
  cases hZ.2.symm.trans hev'
  obtain ⟨k', hk', he⟩ := Y.warmed.alike.2.2 _ _ hkc
  have hr' : k'.resolved[ix]? = some (some (.string (X.ad (1000000 + k)))) := by
    rcases Y.warmed.entry hkc hk' ix with h | ⟨h, -⟩
    · rw [h]; exact hr
    · rw [hr] at h; cases h
  have hd' : decode X.2.1.2.2.2.2.code pc = .ok (.ldc_w ix, 3) := by rw [ok.1.2.1]; exact hd
  have hexec := ok.1.1
  jvm_step Y.here [hexec, hd', ldc_w.wp_string (e := X.1.2.2.1) (s := T) (f := F0 X.2.1.1 pc ls st) Y.here.top hk' (by rw [he]; exact hcf) hcp hr']
  exact a1
theorem z_sval (ok : Zok X cc own rm N nL) {k ix : Nat} (hk : k < 21) (hl : Cond.fieldLink own ix "java/lang/String" "value" "[B" ∈ zT) (hd : decode cc pc = .ok (.getfield ix, 3)) (kk : ZAt X Q k1 k2 (pc + 3) σ lv (.ref (X.ad (1000100 + k)) :: st)) : ZAt X Q k1 k2 pc σ lv (.ref (X.ad (1000000 + k)) :: st) :=
  fun H locs ls hP hS h => vk_getf ok.1.1 ok.1.2.1 (ok.E.1.1 k hk).2.2.1 hS ok.1.2.2.2.1 (ok.1.2.2.2.2 _ hl) (fun _ h9 => h9) hd (kk H locs ls hP hS h)
theorem z_scod (ok : Zok X cc own rm N nL) {k ix : Nat} (hk : k < 21) (hl : Cond.fieldLink own ix "java/lang/String" "coder" "B" ∈ zT) (hd : decode cc pc = .ok (.getfield ix, 3)) (kk : ZAt X Q k1 k2 (pc + 3) σ lv (.int 0 :: st)) : ZAt X Q k1 k2 pc σ lv (.ref (X.ad (1000000 + k)) :: st) :=
  fun H locs ls hP hS h => vk_getf ok.1.1 ok.1.2.1 (ok.E.1.1 k hk).2.1 hS ok.1.2.2.2.1 (ok.1.2.2.2.2 _ hl) (fun _ h9 => h9) hd (kk H locs ls hP hS h)
theorem z_scom (ok : Zok X cc own rm N nL) {ix : Nat} (hl : Cond.fieldLink own ix "java/lang/String" "COMPACT_STRINGS" "Z" ∈ zT) (hd : decode cc pc = .ok (.getstatic ix, 3)) (kk : ZAt X Q k1 k2 (pc + 3) σ lv (.int 1 :: st)) : ZAt X Q k1 k2 pc σ lv st :=
  fun H locs ls hP hS h => va_gets ok.1.1 ok.1.2.1 ok.E.2.2.1 hS ok.1.2.2.2.1 (ok.1.2.2.2.2 _ hl) (fun _ h9 => h9) hd (kk H locs ls hP hS h)
theorem z_slen (ok : Zok X cc own rm N nL) {k : Nat} (hk : k < 21) (hd : decode cc pc = .ok (.arraylength, 1)) (kk : ZAt X Q k1 k2 (pc + 1) σ lv (.int (zSL k) :: st)) : ZAt X Q k1 k2 pc σ lv (.ref (X.ad (1000100 + k)) :: st) :=
  fun H locs ls hP hS h => va_tlen ok.1.1 ok.1.2.1 (ok.E.1.1 k hk).2.2.2 hS rfl hd (kk H locs ls hP hS h)
theorem z_sbal (ok : Zok X cc own rm N nL) {k : Nat} {i : Int32} (hk : k < 21) (hi : vp_in i (zSlen.getD k 0)) (hd : decode cc pc = .ok (.baload, 1)) (kk : ZAt X Q k1 k2 (pc + 1) σ lv (.int ((zSbyt.getD k []).getD i.toNatClampNeg 0) :: st)) : ZAt X Q k1 k2 pc σ lv (.int i :: .ref (X.ad (1000100 + k)) :: st) :=
  fun H locs ls hP hS h => va_tb ok.1.1 ok.1.2.1 (ok.E.1.1 k hk).2.2.2 hS hi rfl hd (kk H locs ls hP hS h)
theorem z_i2c (ok : Zok X cc own rm N nL) {x : Int32} (hd : decode cc pc = .ok (.i2c, 1)) (kk : ZAt X Q k1 k2 (pc + 1) σ lv (.int (x.toUInt32 % 65536).toInt32 :: st)) : ZAt X Q k1 k2 pc σ lv (.int x :: st) :=
  fun H locs ls hP hS hl => lv_i2c ok.1.1 ok.1.2.1 hd rfl (kk H locs ls hP hS hl)
theorem z_least (ok : Zok X cc RX5 rm N nL) (hd : decode cc pc = .ok (.getstatic 179, 3)) (kk : ZAt X Q k1 k2 (pc + 3) σ lv (.ref (X.ad 1000200) :: st)) : ZAt X Q k1 k2 pc σ lv st :=
  fun H locs ls hP hS h => va_getsN ok.1.1 ok.1.2.1 ok.E.2.2.2.2.1 hS ok.1.2.2.2.1 (va_tabs rfl rfl ok.E.2.2.2.2.2.2.2.2.1) (fun _ h9 => h9) hd (kk H locs ls hP hS h)
theorem z_most (ok : Zok X cc RX5 rm N nL) (hd : decode cc pc = .ok (.getstatic 182, 3)) (kk : ZAt X Q k1 k2 (pc + 3) σ lv (.ref (X.ad 1000201) :: st)) : ZAt X Q k1 k2 pc σ lv st :=
  fun H locs ls hP hS h => va_getsN ok.1.1 ok.1.2.1 ok.E.2.2.2.2.2.2.1 hS ok.1.2.2.2.1 (va_tabs rfl rfl ok.E.2.2.2.2.2.2.2.2.2.1) (fun _ h9 => h9) hd (kk H locs ls hP hS h)
def zst {α : Type} (l : List Int32) (i : Int32) (f : Int32 → Option α) : Option α := if i < 0 ∨ 9 ≤ i.toNatClampNeg then none else f (l.getD i.toNatClampNeg 0)
theorem z_stal (ok : Zok X cc own rm N nL) {i : Int32} {f : Int32 → Option α} (hd : decode cc pc = .ok (.iaload, 1)) (hf : zst zLeast i f = some out) (kk : ∀ v, f v = some out → ZAt X Q k1 k2 (pc + 1) σ lv (.int v :: st)) : ZAt X Q k1 k2 pc σ lv (.int i :: .ref (X.ad 1000200) :: st) := by
  unfold zst at hf
  split at hf
  · cases hf
  · rename_i h9
    exact fun H locs ls hP hS h => va_ti ok.1.1 ok.1.2.1 ok.E.2.2.2.2.2.1 hS h9 rfl hd (kk _ hf H locs ls hP hS h)
theorem z_stam (ok : Zok X cc own rm N nL) {i : Int32} {f : Int32 → Option α} (hd : decode cc pc = .ok (.iaload, 1)) (hf : zst zMost i f = some out) (kk : ∀ v, f v = some out → ZAt X Q k1 k2 (pc + 1) σ lv (.int v :: st)) : ZAt X Q k1 k2 pc σ lv (.int i :: .ref (X.ad 1000201) :: st) := by
  unfold zst at hf
  split at hf
  · cases hf
  · rename_i h9
    exact fun H locs ls hP hS h => va_ti ok.1.1 ok.1.2.1 ok.E.2.2.2.2.2.2.2.1 hS h9 rfl hd (kk _ hf H locs ls hP hS h)
theorem z_cVs {y : MethodName} {cz : ByteArray} {mL ix k : Nat} {ret : FieldType} {rz : Room} {av : (Nat → Nat) → List Value} {As rest : List Value} {r : Int32} (ok : Zok X cc own rm N nL) (hk : k < 21) (hcls : y.cls = "java/lang/String") (hM : ZcI y cz mL ret rz N av σ r σ') (hav : av X.ad = .ref (X.ad (1000000 + k)) :: As) (hw : zwV own ix y cz mL (some ret)) (hy : y.cls ≠ "java/lang/invoke/MethodHandle" ∧ y.cls ≠ "java/lang/invoke/VarHandle" ∧ (parseMethodDescriptor y.desc).map (fun d => d.parameters.length) = some As.length) (hz : rz.cells = 0 ∧ rz.slots = 0) (hR : rz.frames + 1 ≤ rm.frames ∧ 8 + (mL + 11) + rz.locals ≤ rm.locals) (hkR : k1 ≤ rm.cells ∧ k2 ≤ rm.slots) (hst : st = As.reverse ++ .ref (X.ad (1000000 + k)) :: rest) (hrest : (rest.map fun v => v.category).sum ≤ 8) (hd : decode cc pc = .ok (.invokevirtual ix, 3)) (kk : ZAt X Q k1 k2 (pc + 3) σ' lv (.int r :: rest)) : ZAt X Q k1 k2 pc σ lv st := by
  intro H locs ls hP hS hl
  obtain ⟨⟨hx, hb, hml, hown, hts⟩, hK, hI, hR0, hN, hA, hnl, hE⟩ := id ok
  subst hR0
  have hM1 := hM X.1.2.1 (X.2.2.1.1, X.2.2.1.2.1) X.ad X.2.2.1.2.2.2 H.size
  rw [hav] at hM1
  refine va_calli (va_runV (As := As) (rest := rest) ⟨hx, hb, hml, hown, hts⟩ hM1 (cwV As.length hts (zwV_good hw) rfl hz.1 hz.2 ⟨rfl, hy⟩ hR) ⟨Zpw_blind, by rw [hcls]; exact vk_recv (i := k) hE.1 hk hS, fun U hU hW => ⟨rfl, by rw [hU], ⟨by rw [hU]; exact hP, va_K.moved hW.alike hK, hI.1, hN⟩, hE.call hS hW hU (ok.free hS)⟩⟩ rfl rfl (by rw [hl.1, hnl]) hst (lv_room hrest) hd hkR) hS (fun q _ h => ok.free hS q h) (ok.free hS) (fun r1 u t H1 locs1 ht hvm hr hB hz1 hk1 hS1 => ?_)
  subst hr
  exact kk H1 locs1 ls (by rw [← ht]; exact hB.1) hS1 hl
-- a String that is the answer
def ZcR (y : MethodName) (cz : ByteArray) (mL : Nat) (ret : FieldType) (rz : Room) (N : Nat) (av : (Nat → Nat) → List Value) (σ : Sg) (k : Nat) (σ' : Sg) : Prop :=
  ∀ (l : Launch) (g : va_G × (Nat → ClassId)) (ad : Nat → Nat) (n sz : Nat), Met l y (Cond.code y cz mL (some ret) :: zT) rz (va_Pc (av ad) (fun U => U.heap.size = sz ∧ Zpw g ad n N σ U ∧ Zev ad (Zad ad n sz) U U.heap)) (va_Qr (fun (_ : Unit) => True) (fun _ a t => a = ad (1000000 + k) ∧ Zpw g ad n N σ' t) (Zad ad n sz)) 0 0 (Zad ad n sz)
theorem z_cSr {y : MethodName} {cz : ByteArray} {mL ix k : Nat} {ret : FieldType} {rz : Room} {av : (Nat → Nat) → List Value} {As rest : List Value} (ok : Zok X cc own rm N nL) (hM : ZcR y cz mL ret rz N av σ k σ') (hav : av X.ad = As) (hw : zwS own ix y cz mL (some ret)) (hy : y.cls ≠ "java/lang/invoke/MethodHandle" ∧ y.cls ≠ "java/lang/invoke/VarHandle" ∧ (parseMethodDescriptor y.desc).map (fun d => d.parameters.length) = some As.length) (hz : rz.cells = 0 ∧ rz.slots = 0) (hR : rz.frames + 1 ≤ rm.frames ∧ 8 + (mL + 11) + rz.locals ≤ rm.locals) (hkR : k1 ≤ rm.cells ∧ k2 ≤ rm.slots) (hst : st = As.reverse ++ rest) (hrest : (rest.map fun v => v.category).sum ≤ 8) (hd : decode cc pc = .ok (.invokestatic ix, 3)) (kk : ZAt X Q k1 k2 (pc + 3) σ' lv (.ref (X.ad (1000000 + k)) :: rest)) : ZAt X Q k1 k2 pc σ lv st := by
  intro H locs ls hP hS hl
  obtain ⟨⟨hx, hb, hml, hown, hts⟩, hK, hI, hR0, hN, hA, hnl, hE⟩ := id ok
  subst hR0
  have hM1 := hM X.1.2.1 (X.2.2.1.1, X.2.2.1.2.1) X.ad X.2.2.1.2.2.2 H.size
  rw [hav] at hM1
  obtain ⟨w1, w2, w3, w4⟩ := hw
  refine va_callr (va_runS (As := As) (rest := rest) ⟨hx, hb, hml, hown, hts⟩ hM1 ⟨callB_of As.length hts (zT_code w4) rfl hz.1 hz.2 (hts _ w3) (hts _ w1) hy hR, hts _ w2⟩ ⟨Zpw_blind, fun U hU hW => ⟨rfl, by rw [hU], ⟨by rw [hU]; exact hP, va_K.moved hW.alike hK, hI.1, hN⟩, hE.call hS hW hU (ok.free hS)⟩⟩ rfl rfl (by rw [hl.1, hnl]) hst (lv_room hrest) hd hkR) hS (fun q _ h => ok.free hS q h) (ok.free hS) (fun u ra t H1 locs1 ht hvm hr hB hz1 hk1 hS1 => ?_)
  obtain ⟨rfl, hB⟩ := hB
  exact kk H1 locs1 ls (by rw [← ht]; exact hB.1) hS1 hl
def ZrR (cc : ByteArray) (X : Zx) (Q : State → Prop) (k : Nat) (σ : Sg) : Prop := ∀ (pc : Nat) (lv : List (Nat × Value)), decode cc pc = .ok (.areturn, 1) → ZAt X Q 0 0 pc σ lv [.ref (X.ad (1000000 + k))]
end ZS
theorem zmetR {y : MethodName} {cz : ByteArray} {mL : Nat} {cn : String} {rz : Room} {N : Nat} {own : String} {av : (Nat → Nat) → List Value} {lv : (Nat → Nat) → List (Nat × Value)} {σ σ' : Sg} {k : Nat} (hy : plainName y.cls = true) (hown : y.cls = own) (hlv : ∀ ad, lv_args 0 (av ad) = lv ad) (hsz : ∀ ad, (lg_sl (av ad)).length ≤ mL)
    (body : ∀ (X : Zx) (Q : State → Prop), Zok X cz own rz N mL → ZrR cz X Q k σ' → ZAt X Q 0 0 0 σ (lv X.ad) []) : ZcR y cz mL (.object cn) rz N av σ k σ' := by
  intro l g ad n sz
  refine Met.ofW (cc := cz) (maxL := mL) (ret := some (.object cn)) hy rfl ?_
  intro p e s m args below meth c s₁ B hml hv
  obtain ⟨rfl, hsz0, ⟨hP, hK, hI, hN⟩, hE⟩ := hv
  have hx := B.exec
  have hb := B.bytes
  have hr := B.returns
  have hts := atoms_spec (ws := Cond.code y cz mL (some (.object cn)) :: zT) B.pre
  have hcls : s.vm.findClass own = some m.cls := by rw [← hown]; exact findClass_of_methodNamed B.named
  have hlocks := B.notSynchronized
  subst hsz0
  rw [lg_entry_eq]
  have hl := lv_entry (av ad) (hsz ad)
  rw [hlv] at hl
  have ok : Zok ((p, l, e, (headSpec (Cond.code y cz mL (some (.object cn)) :: zT) rz).room, s), (m, (av ad).toArray, below, meth, c), (g.1, g.2, ad, n), Zad ad n s.heap.size, mL) cz own rz N mL :=
    ⟨⟨hx, hb, hml, hcls, fun w hw => hts w (List.mem_cons_of_mem _ hw)⟩, hK, ⟨hI, fun i hi => Or.inl ⟨i, hi, rfl⟩⟩, rfl, hN, fun q hq => Or.inr hq, rfl, hE⟩
  refine body _ _ ok ?_ s.heap [] _ hP va_S.rf hl
  intro pc lv1 hd H locs ls hP1 hS1 hl1
  exact W.aret hx hb hr (Or.inl ⟨cn, rfl⟩) (Or.inr ⟨_, rfl⟩) (fun t ht hW => ⟨⟨(), _, rfl, trivial, rfl, by rw [ht]; exact hP1, va_K.moved hW.alike hK, hI, hN⟩, hS1.F ht⟩) hS1.2.2 hd
abbrev rm_J0 : Room := { frames := 0, cells := 0, slots := 0, locals := 0 }
theorem c_J_coder {N : Nat} {σ : Sg} {k : Nat} (hk : k < 21) : ZcI yJ0_coder_7d493 cJ0_coder_7d493 1 .byte rm_J0 N (fun ad => [.ref (ad (1000000 + k))]) σ 0 σ :=
  zmetI (by decide) rfl (fun _ => rfl) (fun _ => Nat.le_of_ble_eq_true rfl) (by decide) (fun X Q ok hr => by
    refine z_scom ok fl_J0_38 dJ0_coder_7d493_0 ?_
    refine z_if_eq (α := Unit) (out := ()) (a := none) (b := some ()) (tgt := 13) ok dJ0_coder_7d493_3 (by decide) rfl (fun h _ => absurd h (by decide)) (fun _ _ => ?_)
    refine z_aload_n ok dJ0_coder_7d493_6 0 rfl ?_
    refine z_scod ok hk fl_J0_15 dJ0_coder_7d493_7 ?_
    refine z_goto (tgt := 14) ok dJ0_coder_7d493_10 (by decide) ?_
    exact hr _ _ dJ0_coder_7d493_14)
theorem c_J_isLatin1 {N : Nat} {σ : Sg} {k : Nat} (hk : k < 21) : ZcI yJ0_isLatin1_aae02 cJ0_isLatin1_aae02 1 .boolean rm_J0 N (fun ad => [.ref (ad (1000000 + k))]) σ 1 σ :=
  zmetI (by decide) rfl (fun _ => rfl) (fun _ => Nat.le_of_ble_eq_true rfl) (by decide) (fun X Q ok hr => by
    refine z_scom ok fl_J0_38 dJ0_isLatin1_aae02_0 ?_
    refine z_if_eq (α := Unit) (out := ()) (a := none) (b := some ()) (tgt := 17) ok dJ0_isLatin1_aae02_3 (by decide) rfl (fun h _ => absurd h (by decide)) (fun _ _ => ?_)
    refine z_aload_n ok dJ0_isLatin1_aae02_6 0 rfl ?_
    refine z_scod ok hk fl_J0_15 dJ0_isLatin1_aae02_7 ?_
    refine z_if_ne (α := Unit) (out := ()) (a := some ()) (b := none) (tgt := 17) ok dJ0_isLatin1_aae02_10 (by decide) rfl (fun _ _ => ?_) (fun h _ => absurd rfl h)
    refine z_iconst (v := 1) ok dJ0_isLatin1_aae02_13 (by decide) ?_
    refine z_goto (tgt := 18) ok dJ0_isLatin1_aae02_14 (by decide) ?_
    exact hr _ _ dJ0_isLatin1_aae02_18)
abbrev rm_J1 : Room := { frames := 1, cells := 0, slots := 0, locals := 20 }
theorem c_J_length {N : Nat} {σ : Sg} {k : Nat} (hk : k < 21) : ZcI yJ0_length_8abf5 cJ0_length_8abf5 1 .int rm_J1 N (fun ad => [.ref (ad (1000000 + k))]) σ (zSL k) σ :=
  zmetI (by decide) rfl (fun _ => rfl) (fun _ => Nat.le_of_ble_eq_true rfl) rfl (fun X Q ok hr => by
    refine z_aload_n ok dJ0_length_8abf5_0 0 rfl ?_
    refine z_sval ok hk fl_J0_9 dJ0_length_8abf5_1 ?_
    refine z_slen ok hk dJ0_length_8abf5_4 ?_
    refine z_aload_n ok dJ0_length_8abf5_5 0 rfl ?_
    refine z_cVs (As := []) (rest := [.int (zSL k)]) ok hk rfl (c_J_coder hk) rfl ⟨ml_J0_335, w_J_coder⟩ hy_J_coder ⟨rfl, rfl⟩ ⟨Nat.le_of_ble_eq_true rfl, Nat.le_of_ble_eq_true rfl⟩ ⟨Nat.zero_le _, Nat.zero_le _⟩ rfl (Nat.le_of_ble_eq_true rfl) dJ0_length_8abf5_6 ?_
    refine z_ishr ok dJ0_length_8abf5_9 ?_
    rw [show zSL k >>> ((0 : Int32) &&& 31) = zSL k from zSL_shr k hk]
    exact hr _ _ dJ0_length_8abf5_10)
theorem c_J_preCheck {N : Nat} {σ : Sg} {i n : Int32} {v : Value} (hv : v.category = 1) (h1 : ¬ i < 0) (h2 : i < n) : ZcI yJ3_checkIndex_8e157 cJ3_checkIndex_8e157 3 .int rm_J0 N (fun _ => [.int i, .int n, v]) σ i σ :=
  zmetI (lv := fun _ => [(0, .int i), (1, .int n), (2, v)]) (by decide) rfl (fun _ => rfl) (fun _ => by cases v <;> first | exact Nat.le_of_ble_eq_true rfl | (exact absurd hv (by simp [Value.category]))) rfl (fun X Q ok hr => by
    refine z_iload_n ok dJ3_checkIndex_8e157_0 0 rfl ?_
    refine z_if_lt (α := Unit) (out := ()) (a := none) (b := some ()) (tgt := 9) ok dJ3_checkIndex_8e157_1 (by decide) (if_neg h1) (fun h _ => absurd h h1) (fun _ _ => ?_)
    refine z_iload_n ok dJ3_checkIndex_8e157_4 0 rfl ?_
    refine z_iload_n ok dJ3_checkIndex_8e157_5 1 rfl ?_
    refine z_icmp_lt (α := Unit) (out := ()) (a := some ()) (b := none) (tgt := 16) ok dJ3_checkIndex_8e157_6 (by decide) (if_pos h2) (fun _ _ => ?_) (fun h _ => absurd h2 h)
    refine z_iload_n ok dJ3_checkIndex_8e157_16 0 rfl ?_
    exact hr _ _ dJ3_checkIndex_8e157_17)
abbrev rm_J2 : Room := { frames := 1, cells := 0, slots := 0, locals := 22 }
theorem c_J_checkIndex {N : Nat} {σ : Sg} {i n : Int32} (h1 : ¬ i < 0) (h2 : i < n) : ZcV yJ0_checkIndex_df160 cJ0_checkIndex_df160 2 rm_J2 N (fun _ => [.int i, .int n]) σ σ :=
  zmetV (lv := fun _ => [(0, .int i), (1, .int n)]) (by decide) rfl (fun _ => rfl) (fun _ => Nat.le_of_ble_eq_true rfl) (fun X Q ok hr => by
    refine z_iload_n ok dJ0_checkIndex_df160_0 0 rfl ?_
    refine z_iload_n ok dJ0_checkIndex_df160_1 1 rfl ?_
    have key : ∀ v : Value, v.category = 1 → ZAt X Q 0 0 5 σ [(0, .int i), (1, .int n)] [v, .int n, .int i] := fun v hv => by
      refine z_cS (As := [.int i, .int n, v]) (rest := []) ok (c_J_preCheck hv h1 h2) rfl ⟨ml_J0_1059, w_J_preCheck⟩ hy_J_preCheck ⟨rfl, rfl⟩ ⟨Nat.le_of_ble_eq_true rfl, Nat.le_of_ble_eq_true rfl⟩ ⟨Nat.zero_le _, Nat.zero_le _⟩ rfl (Nat.le_of_ble_eq_true rfl) dJ0_checkIndex_df160_5 ?_
      refine z_pop ok dJ0_checkIndex_df160_8 rfl ?_
      exact hr _ _ dJ0_checkIndex_df160_9
    intro H locs ls hP hS hl
    rcases ok.E.2.2.2.1 with hZ | ⟨t, hZ⟩
    · exact va_gets ok.1.1 ok.1.2.1 hZ hS ok.1.2.2.2.1 (ok.1.2.2.2.2 _ fl_J0_1053) (fun _ h9 => h9) dJ0_checkIndex_df160_2 (key .null rfl H locs ls hP hS hl)
    · exact va_gets ok.1.1 ok.1.2.1 hZ hS ok.1.2.2.2.1 (ok.1.2.2.2.2 _ fl_J0_1053) (fun _ h9 => h9) dJ0_checkIndex_df160_2 (key (.ref t) rfl H locs ls hP hS hl))
theorem zS_lt {k : Nat} {i : Int32} (hk : k < 21) (hi : vp_in i (zSlen.getD k 0)) : ¬ i < 0 ∧ i < zSL k := by
  have hb : ∀ k, k < 21 → zSlen.getD k 0 < 200 := by decide +kernel
  have hb' := hb k hk
  refine ⟨fun h => hi (Or.inl h), ?_⟩
  obtain ⟨j, hj, rfl⟩ := vp_in_of hi (by omega)
  exact nI_lt hj (by omega)
abbrev rm_J3 : Room := { frames := 2, cells := 0, slots := 0, locals := 43 }
theorem c_J_latCharAt {N : Nat} {σ : Sg} {k : Nat} {i : Int32} (hk : k < 21) (hi : vp_in i (zSlen.getD k 0)) : ZcI yJ1_charAt_3b067 cJ1_charAt_3b067 2 .char rm_J3 N (fun ad => [.ref (ad (1000100 + k)), .int i]) σ ((zSbyt.getD k []).getD i.toNatClampNeg 0) σ :=
  zmetI (by decide) rfl (fun _ => rfl) (fun _ => Nat.le_of_ble_eq_true rfl) (zS_ch hk (Nat.not_le.mp fun q => hi (Or.inr q))).2 (fun X Q ok hr => by
    refine z_iload_n ok dJ1_charAt_3b067_0 1 rfl ?_
    refine z_aload_n ok dJ1_charAt_3b067_1 0 rfl ?_
    refine z_slen ok hk dJ1_charAt_3b067_2 ?_
    refine z_cSv (As := [.int i, .int (zSL k)]) (rest := []) ok (c_J_checkIndex (zS_lt hk hi).1 (zS_lt hk hi).2) rfl ⟨ml_J1_9, w_J_checkIndex⟩ hy_J_checkIndex ⟨rfl, rfl⟩ ⟨Nat.le_of_ble_eq_true rfl, Nat.le_of_ble_eq_true rfl⟩ ⟨Nat.zero_le _, Nat.zero_le _⟩ rfl (Nat.le_of_ble_eq_true rfl) dJ1_charAt_3b067_3 ?_
    refine z_aload_n ok dJ1_charAt_3b067_6 0 rfl ?_
    refine z_iload_n ok dJ1_charAt_3b067_7 1 rfl ?_
    refine z_sbal ok hk hi dJ1_charAt_3b067_8 ?_
    refine z_sipush (v := 255) ok dJ1_charAt_3b067_9 (by decide) ?_
    refine z_iand ok dJ1_charAt_3b067_12 ?_
    refine z_i2c ok dJ1_charAt_3b067_13 ?_
    rw [(zS_ch hk (Nat.not_le.mp fun q => hi (Or.inr q))).1]
    exact hr _ _ dJ1_charAt_3b067_14)
abbrev rm_J4 : Room := { frames := 3, cells := 0, slots := 0, locals := 64 }
theorem c_J_charAt {N : Nat} {σ : Sg} {k : Nat} {i : Int32} (hk : k < 21) (hi : vp_in i (zSlen.getD k 0)) : ZcI yJ0_charAt_5068e cJ0_charAt_5068e 2 .char rm_J4 N (fun ad => [.ref (ad (1000000 + k)), .int i]) σ ((zSbyt.getD k []).getD i.toNatClampNeg 0) σ :=
  zmetI (by decide) rfl (fun _ => rfl) (fun _ => Nat.le_of_ble_eq_true rfl) (zS_ch hk (Nat.not_le.mp fun q => hi (Or.inr q))).2 (fun X Q ok hr => by
    refine z_aload_n ok dJ0_charAt_5068e_0 0 rfl ?_
    refine z_cVs (As := []) (rest := []) ok hk rfl (c_J_isLatin1 hk) rfl ⟨ml_J0_492, w_J_isLatin1⟩ hy_J_isLatin1 ⟨rfl, rfl⟩ ⟨Nat.le_of_ble_eq_true rfl, Nat.le_of_ble_eq_true rfl⟩ ⟨Nat.zero_le _, Nat.zero_le _⟩ rfl (Nat.le_of_ble_eq_true rfl) dJ0_charAt_5068e_1 ?_
    refine z_if_eq (α := Unit) (out := ()) (a := none) (b := some ()) (tgt := 16) ok dJ0_charAt_5068e_4 (by decide) rfl (fun h _ => absurd h (by decide)) (fun _ _ => ?_)
    refine z_aload_n ok dJ0_charAt_5068e_7 0 rfl ?_
    refine z_sval ok hk fl_J0_9 dJ0_charAt_5068e_8 ?_
    refine z_iload_n ok dJ0_charAt_5068e_11 1 rfl ?_
    refine z_cS (As := [.ref (X.ad (1000100 + k)), .int i]) (rest := []) ok (c_J_latCharAt hk hi) rfl ⟨ml_J0_495, w_J_latCharAt⟩ hy_J_latCharAt ⟨rfl, rfl⟩ ⟨Nat.le_of_ble_eq_true rfl, Nat.le_of_ble_eq_true rfl⟩ ⟨Nat.zero_le _, Nat.zero_le _⟩ rfl (Nat.le_of_ble_eq_true rfl) dJ0_charAt_5068e_12 ?_
    exact hr _ _ dJ0_charAt_5068e_15)
theorem zsc_some {α : Type} {k : Nat} {i : Int32} {f : Int32 → Option α} {out : α} (h : zsc k i f = some out) : vp_in i (zSlen.getD k 0) ∧ f ((zSbyt.getD k []).getD i.toNatClampNeg 0) = some out := by
  unfold zsc at h
  split at h
  · cases h
  · exact ⟨by assumption, h⟩
section ZT
variable {X : Zx} {cc : ByteArray} {rm : Room} {N nL : Nat} {Q : State → Prop} {k1 k2 pc : Nat} {σ : Sg} {lv : List (Nat × Value)} {st : List Value} {α : Type} {out : α}
theorem z_char {k : Nat} {i : Int32} {f : Int32 → Option α} (ok : Zok X cc RX5 rm N nL) (hk : k < 21) (hR : 4 ≤ rm.frames ∧ 85 ≤ rm.locals) (hkR : k1 ≤ rm.cells ∧ k2 ≤ rm.slots) (hrest : (st.map fun v => v.category).sum ≤ 8) (hd : decode cc pc = .ok (.invokevirtual 252, 3)) (hf : zsc k i f = some out) (kk : ∀ v, f v = some out → ZAt X Q k1 k2 (pc + 3) σ lv (.int v :: st)) : ZAt X Q k1 k2 pc σ lv (.int i :: .ref (X.ad (1000000 + k)) :: st) := by
  obtain ⟨h1, h2⟩ := zsc_some hf
  exact z_cVs (As := [.int i]) (rest := st) ok hk rfl (c_J_charAt hk h1) rfl ⟨ml_X5_252, w_J_charAt⟩ hy_J_charAt ⟨rfl, rfl⟩ hR hkR rfl hrest hd (kk _ h2)
theorem z_strlen {k : Nat} (ok : Zok X cc RX5 rm N nL) (hk : k < 21) (hR : 2 ≤ rm.frames ∧ 40 ≤ rm.locals) (hkR : k1 ≤ rm.cells ∧ k2 ≤ rm.slots) (hrest : (st.map fun v => v.category).sum ≤ 8) (hd : decode cc pc = .ok (.invokevirtual 248, 3)) (kk : ZAt X Q k1 k2 (pc + 3) σ lv (.int (zSL k) :: st)) : ZAt X Q k1 k2 pc σ lv (.ref (X.ad (1000000 + k)) :: st) :=
  z_cVs (As := []) (rest := st) ok hk rfl (c_J_length hk) rfl ⟨ml_X5_248, w_J_length⟩ hy_J_length ⟨rfl, rfl⟩ hR hkR rfl hrest hd kk
end ZT
