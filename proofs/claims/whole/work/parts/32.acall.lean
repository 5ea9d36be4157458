def Zpa (g : va_G × (Nat → ClassId)) (ad : Nat → Nat) (n N : Nat) (σ : Sg) (U : State) : Prop := Zpw g ad n N σ U ∧ Zev ad (Zad ad n (ad n)) U U.heap ∧ zAO U ∧ zar ad ∧ U.heap.size = ad n ∧ n ≤ 900000
abbrev rmA (f l d : Nat) : Room := { frames := f, cells := d, slots := zms d, locals := l }
def ZaI (y : MethodName) (cz : ByteArray) (mL : Nat) (ret : FieldType) (rz : Room) (N : Nat) (av : (Nat → Nat) → List Value) (n : Nat) (σ : Sg) (r : Int32) (n' : Nat) (σ' : Sg) : Prop :=
  ∀ (l : Launch) (g : va_G × (Nat → ClassId)) (ad : Nat → Nat), Met l y (Cond.code y cz mL (some ret) :: zT) rz (va_Pc (av ad) (fun U => Zpa g ad n N σ U)) (va_Qi (fun (r' : Int32) (_ : Unit) => r' = r) (fun _ t => Zpw g ad n' N σ' t ∧ t.heap.size = ad n') (Zad ad n (ad n))) (n' - n) (zms (n' - n)) (Zad ad n (ad n))
def ZaV (y : MethodName) (cz : ByteArray) (mL : Nat) (rz : Room) (N : Nat) (av : (Nat → Nat) → List Value) (n : Nat) (σ : Sg) (n' : Nat) (σ' : Sg) : Prop :=
  ∀ (l : Launch) (g : va_G × (Nat → ClassId)) (ad : Nat → Nat), Met l y (Cond.code y cz mL none :: zT) rz (va_Pc (av ad) (fun U => Zpa g ad n N σ U)) (va_Qv (fun (_ : Unit) => True) (fun _ t => Zpw g ad n' N σ' t ∧ t.heap.size = ad n') (Zad ad n (ad n))) (n' - n) (zms (n' - n)) (Zad ad n (ad n))
theorem Zpa_blind {g : va_G × (Nat → ClassId)} {ad : Nat → Nat} {n N : Nat} {σ : Sg} {av : List Value} : FrameBlind (va_Pc av (fun U => Zpa g ad n N σ U)) := fun a U f mk q => by
  obtain ⟨q0, ⟨qP, qK, qD⟩, qE, qA, q3, q4, q5⟩ := q
  exact ⟨q0, ⟨qP, va_K.moved (u := U) (U := U.calling f mk a) (Vm.Alike.refl U.vm) qK, qD⟩, Zev.same (u := U) (U := U.calling f mk a) rfl qE, zAO.moved (u := U) (U := U.calling f mk a) (Vm.Alike.refl U.vm) qA, q3, q4, q5⟩
def ZrIa (cc : ByteArray) (X : Zx) (Q : State → Prop) (v : Int32) (n' : Nat) (σ : Sg) : Prop := ∀ (pc : Nat) (lv : List (Nat × Value)), decode cc pc = .ok (.ireturn, 1) → ZAt (zX X n') Q (n' - X.2.2.1.2.2.2) (zms (n' - X.2.2.1.2.2.2)) pc σ lv [.int v]
def ZrVa (cc : ByteArray) (X : Zx) (Q : State → Prop) (n' : Nat) (σ : Sg) : Prop := ∀ (pc : Nat) (lv : List (Nat × Value)), decode cc pc = .ok (.return_, 1) → ZAt (zX X n') Q (n' - X.2.2.1.2.2.2) (zms (n' - X.2.2.1.2.2.2)) pc σ lv []
theorem zmetaI {y : MethodName} {cz : ByteArray} {mL : Nat} {ret : FieldType} {rz : Room} {N : Nat} {own : String} {av : (Nat → Nat) → List Value} {lv : (Nat → Nat) → List (Nat × Value)} {n n' : Nat} {σ σ' : Sg} {r : Int32} (hy : plainName y.cls = true) (hown : y.cls = own) (hlv : ∀ ad, lv_args 0 (av ad) = lv ad) (hsz : ∀ ad, (lg_sl (av ad)).length ≤ mL) (hn : narrow ret (.int r) = .int r) (hN : 0 < N) (hnn : n ≤ n' ∧ n' ≤ 900000)
    (body : ∀ (X : Zx) (Q : State → Prop), X.2.2.1.2.2.2 = n → Zoka X cz own rz N mL 0 → ZrIa cz X Q r n' σ' → ZAt X Q 0 0 0 σ (lv X.ad) []) : ZaI y cz mL ret rz N av n σ r n' σ' := by
  intro l g ad
  refine Met.ofW (cc := cz) (maxL := mL) (ret := some ret) hy rfl ?_
  intro p e s m args below meth c s₁ B hml hv
  obtain ⟨rfl, ⟨hP, hK, hI, hN0⟩, hE, hAO, har, hsz0, hn9⟩ := hv
  have hx := B.exec
  have hb := B.bytes
  have hr := B.returns
  have hts := atoms_spec (ws := Cond.code y cz mL (some ret) :: zT) B.pre
  have hcls : s.vm.findClass own = some m.cls := by rw [← hown]; exact findClass_of_methodNamed B.named
  have hlocks := B.notSynchronized
  rw [← hsz0] at hE ⊢
  rw [lg_entry_eq]
  have hl := lv_entry (av ad) (hsz ad)
  rw [hlv] at hl
  have ok : Zok ((p, l, e, (headSpec (Cond.code y cz mL (some ret) :: zT) rz).room, s), (m, (av ad).toArray, below, meth, c), (g.1, g.2, ad, n), Zad ad n s.heap.size, mL) cz own rz N mL :=
    ⟨⟨hx, hb, hml, hcls, fun w hw => hts w (List.mem_cons_of_mem _ hw)⟩, hK, ⟨hI, fun i hi => Or.inl ⟨i, hi, rfl⟩⟩, rfl, hN0, fun q hq => Or.inr hq, rfl, hE⟩
  refine body _ _ rfl ⟨ok, har, hAO, by show s.heap.size + 0 = ad n; omega, hn9⟩ ?_ s.heap [] _ hP va_S.rf hl
  intro pc lv1 hd
  have e1 := har n (by omega)
  have e2 := har n' (by omega)
  have ok2 := zX_ok (n' := n') ok har hsz0 hnn.1 hnn.2
  refine z_size ok2 har (by show s.heap.size + (n' - n) = ad n'; omega) hN hnn.2 (fun H locs ls hP1 hH hS1 hl1 => ?_)
  exact W.zret hx hb hr hn (fun t ht hW => ⟨⟨r, (), rfl, rfl, ⟨by rw [ht]; exact hP1, va_K.moved hW.alike hK, ok2.2.2.1.1, ok2.2.2.2.2.1⟩, by rw [ht]; exact hH⟩, hS1.F ht⟩) hS1.2.2 hd
theorem zmetaV {y : MethodName} {cz : ByteArray} {mL : Nat} {rz : Room} {N : Nat} {own : String} {av : (Nat → Nat) → List Value} {lv : (Nat → Nat) → List (Nat × Value)} {n n' : Nat} {σ σ' : Sg} (hy : plainName y.cls = true) (hown : y.cls = own) (hlv : ∀ ad, lv_args 0 (av ad) = lv ad) (hsz : ∀ ad, (lg_sl (av ad)).length ≤ mL) (hN : 0 < N) (hnn : n ≤ n' ∧ n' ≤ 900000)
    (body : ∀ (X : Zx) (Q : State → Prop), X.2.2.1.2.2.2 = n → Zoka X cz own rz N mL 0 → ZrVa cz X Q n' σ' → ZAt X Q 0 0 0 σ (lv X.ad) []) : ZaV y cz mL rz N av n σ n' σ' := by
  intro l g ad
  refine Met.ofW (cc := cz) (maxL := mL) (ret := none) hy rfl ?_
  intro p e s m args below meth c s₁ B hml hv
  obtain ⟨rfl, ⟨hP, hK, hI, hN0⟩, hE, hAO, har, hsz0, hn9⟩ := hv
  have hx := B.exec
  have hb := B.bytes
  have hr := B.returns
  have hts := atoms_spec (ws := Cond.code y cz mL none :: zT) B.pre
  have hcls : s.vm.findClass own = some m.cls := by rw [← hown]; exact findClass_of_methodNamed B.named
  have hlocks := B.notSynchronized
  rw [← hsz0] at hE ⊢
  rw [lg_entry_eq]
  have hl := lv_entry (av ad) (hsz ad)
  rw [hlv] at hl
  have ok : Zok ((p, l, e, (headSpec (Cond.code y cz mL none :: zT) rz).room, s), (m, (av ad).toArray, below, meth, c), (g.1, g.2, ad, n), Zad ad n s.heap.size, mL) cz own rz N mL :=
    ⟨⟨hx, hb, hml, hcls, fun w hw => hts w (List.mem_cons_of_mem _ hw)⟩, hK, ⟨hI, fun i hi => Or.inl ⟨i, hi, rfl⟩⟩, rfl, hN0, fun q hq => Or.inr hq, rfl, hE⟩
  refine body _ _ rfl ⟨ok, har, hAO, by show s.heap.size + 0 = ad n; omega, hn9⟩ ?_ s.heap [] _ hP va_S.rf hl
  intro pc lv1 hd
  have e1 := har n (by omega)
  have e2 := har n' (by omega)
  have ok2 := zX_ok (n' := n') ok har hsz0 hnn.1 hnn.2
  refine z_size ok2 har (by show s.heap.size + (n' - n) = ad n'; omega) hN hnn.2 (fun H locs ls hP1 hH hS1 hl1 => ?_)
  exact W.vret hx hb hr (fun t ht hW => ⟨⟨(), rfl, trivial, ⟨by rw [ht]; exact hP1, va_K.moved hW.alike hK, ok2.2.2.1.1, ok2.2.2.2.2.1⟩, by rw [ht]; exact hH⟩, hS1.F ht⟩) hS1.2.2 hd
section ZAC
variable {X : Zx} {cc : ByteArray} {own : String} {rm : Room} {N nL : Nat} {Q : State → Prop} {pc n' : Nat} {σ σ' : Sg} {lv : List (Nat × Value)} {st : List Value}
theorem Zoka.free (oka : Zoka X cc own rm N nL 0) {H : Heap} {locs : List Loc} (hS : va_S X.2.2.2.1 X.1.2.2.2.2.heap H locs) : ∀ q, Zad X.2.2.1.2.2.1 X.2.2.1.2.2.2 (X.ad X.2.2.1.2.2.2) q → X.2.2.2.1 q := by
  intro q h
  obtain ⟨ok, har, hAO, hsz, hn9⟩ := oka
  rcases h with ⟨i, hi, rfl⟩ | h
  · exact ok.2.2.1.2 i hi
  · exact ok.2.2.2.2.2.1 q (by omega)
theorem z_aV {y : MethodName} {cz : ByteArray} {mL ix : Nat} {ret : FieldType} {rz : Room} {av : (Nat → Nat) → List Value} {w ci : Nat} {sl : List (Option (Option Nat))} {T : u_T} {nF : Nat} {As rest : List Value} {r : Int32} (oka : Zoka X cc own rm N nL 0) (hN : 0 < N) (hnn : X.2.2.1.2.2.2 ≤ n' ∧ n' ≤ 900000) (hk : zk w N (.inl (ci, sl))) (hc : zcl[ci]? = some (y.cls, T, nF)) (hM : ZaI y cz mL ret rz N av X.2.2.1.2.2.2 σ r n' σ') (hav : av X.ad = .ref (X.ad w) :: As) (hw : zwV own ix y cz mL (some ret)) (hy : y.cls ≠ "java/lang/invoke/MethodHandle" ∧ y.cls ≠ "java/lang/invoke/VarHandle" ∧ (parseMethodDescriptor y.desc).map (fun d => d.parameters.length) = some As.length) (hz : rz.cells = n' - X.2.2.1.2.2.2 ∧ rz.slots = zms (n' - X.2.2.1.2.2.2)) (hR : rz.frames + 1 ≤ rm.frames ∧ 8 + (mL + 11) + rz.locals ≤ rm.locals) (hkR : n' - X.2.2.1.2.2.2 ≤ rm.cells ∧ zms (n' - X.2.2.1.2.2.2) ≤ rm.slots) (hst : st = As.reverse ++ .ref (X.ad w) :: rest) (hrest : (rest.map fun v => v.category).sum ≤ 8) (hd : decode cc pc = .ok (.invokevirtual ix, 3)) (kk : Zok (zX X n') cc own rm N nL → ZAt (zX X n') Q (n' - X.2.2.1.2.2.2) (zms (n' - X.2.2.1.2.2.2)) (pc + 3) σ' lv (.int r :: rest)) : ZAt X Q 0 0 pc σ lv st := by
  obtain ⟨ok, har, hAO, hsz, hn9⟩ := id oka
  refine z_size ok har hsz hN hn9 (fun H locs ls hP hH hS hl => ?_)
  obtain ⟨⟨hx, hb, hml, hown, hts⟩, hK, hI, hR0, hN0, hA, hnl, hE⟩ := id ok
  subst hR0
  have he := zwl_get (cs := X.2.2.1.2.1) (ad := X.2.2.1.2.2.1) (σ := σ) (ok.lt hk.2)
  rw [hk.1] at he
  have hM1 := hM X.1.2.1 (X.2.2.1.1, X.2.2.1.2.1) X.ad
  rw [hav] at hM1
  refine W.widen (k := 0) (n := 0) (by omega) (by omega) ?_
  have key := va_calli (Q := Q) (va_runV (cells := 0) (slots := 0) (As := As) (rest := rest) ⟨hx, hb, hml, hown, hts⟩ hM1 (cwV As.length hts (zwV_good hw) rfl hz.1 hz.2 ⟨rfl, hy⟩ hR) ⟨Zpa_blind, va_recv hK hP hc he, fun U hU hW => ⟨rfl, ⟨by rw [hU]; exact hP, va_K.moved hW.alike hK, hI.1, hN0⟩, hE.call hS hW hU (oka.free hS), zAO.moved hW.alike hAO, har, by rw [hU]; exact hH, hn9⟩⟩ (g := F0 X.2.1.1 pc ls st) rfl rfl (by rw [hl.1, hnl]) hst (lv_room hrest) hd ⟨by omega, by omega⟩) hS (fun q _ h => oka.free hS q h) (oka.free hS) (fun r1 u t H1 locs1 ht hvm hr hB hz1 hk1 hS1 => by
    subst hr
    have h9 := kk (zX_ok ok har (by omega) hnn.1 hnn.2) H1 locs1 ls (by rw [← ht]; exact hB.1.1) hS1 hl
    rw [Nat.zero_add, Nat.zero_add]
    exact h9)
  exact key
theorem z_aVv {y : MethodName} {cz : ByteArray} {mL ix : Nat} {rz : Room} {av : (Nat → Nat) → List Value} {w ci : Nat} {sl : List (Option (Option Nat))} {T : u_T} {nF : Nat} {As rest : List Value} (oka : Zoka X cc own rm N nL 0) (hN : 0 < N) (hnn : X.2.2.1.2.2.2 ≤ n' ∧ n' ≤ 900000) (hk : zk w N (.inl (ci, sl))) (hc : zcl[ci]? = some (y.cls, T, nF)) (hM : ZaV y cz mL rz N av X.2.2.1.2.2.2 σ n' σ') (hav : av X.ad = .ref (X.ad w) :: As) (hw : zwV own ix y cz mL none) (hy : y.cls ≠ "java/lang/invoke/MethodHandle" ∧ y.cls ≠ "java/lang/invoke/VarHandle" ∧ (parseMethodDescriptor y.desc).map (fun d => d.parameters.length) = some As.length) (hz : rz.cells = n' - X.2.2.1.2.2.2 ∧ rz.slots = zms (n' - X.2.2.1.2.2.2)) (hR : rz.frames + 1 ≤ rm.frames ∧ 8 + (mL + 11) + rz.locals ≤ rm.locals) (hkR : n' - X.2.2.1.2.2.2 ≤ rm.cells ∧ zms (n' - X.2.2.1.2.2.2) ≤ rm.slots) (hst : st = As.reverse ++ .ref (X.ad w) :: rest) (hrest : (rest.map fun v => v.category).sum ≤ 8) (hd : decode cc pc = .ok (.invokevirtual ix, 3)) (kk : Zok (zX X n') cc own rm N nL → ZAt (zX X n') Q (n' - X.2.2.1.2.2.2) (zms (n' - X.2.2.1.2.2.2)) (pc + 3) σ' lv rest) : ZAt X Q 0 0 pc σ lv st := by
  obtain ⟨ok, har, hAO, hsz, hn9⟩ := id oka
  refine z_size ok har hsz hN hn9 (fun H locs ls hP hH hS hl => ?_)
  obtain ⟨⟨hx, hb, hml, hown, hts⟩, hK, hI, hR0, hN0, hA, hnl, hE⟩ := id ok
  subst hR0
  have he := zwl_get (cs := X.2.2.1.2.1) (ad := X.2.2.1.2.2.1) (σ := σ) (ok.lt hk.2)
  rw [hk.1] at he
  have hM1 := hM X.1.2.1 (X.2.2.1.1, X.2.2.1.2.1) X.ad
  rw [hav] at hM1
  have key := va_callv (Q := Q) (va_runV (cells := 0) (slots := 0) (As := As) (rest := rest) ⟨hx, hb, hml, hown, hts⟩ hM1 (cwV As.length hts (zwV_good hw) rfl hz.1 hz.2 ⟨rfl, hy⟩ hR) ⟨Zpa_blind, va_recv hK hP hc he, fun U hU hW => ⟨rfl, ⟨by rw [hU]; exact hP, va_K.moved hW.alike hK, hI.1, hN0⟩, hE.call hS hW hU (oka.free hS), zAO.moved hW.alike hAO, har, by rw [hU]; exact hH, hn9⟩⟩ (g := F0 X.2.1.1 pc ls st) rfl rfl (by rw [hl.1, hnl]) hst (lv_room hrest) hd ⟨by omega, by omega⟩) hS (fun q _ h => oka.free hS q h) (oka.free hS) (fun u t H1 locs1 ht hvm hr hB hz1 hk1 hS1 => by
    have h9 := kk (zX_ok ok har (by omega) hnn.1 hnn.2) H1 locs1 ls (by rw [← ht]; exact hB.1.1) hS1 hl
    rw [Nat.zero_add, Nat.zero_add]
    exact h9)
  exact key
end ZAC
def ZrIk (cc : ByteArray) (X : Zx) (Q : State → Prop) (k1 k2 : Nat) (v : Int32) (σ : Sg) : Prop := ∀ (pc : Nat) (lv : List (Nat × Value)), decode cc pc = .ok (.ireturn, 1) → ZAt X Q k1 k2 pc σ lv [.int v]
def ZrVk (cc : ByteArray) (X : Zx) (Q : State → Prop) (k1 k2 : Nat) (σ : Sg) : Prop := ∀ (pc : Nat) (lv : List (Nat × Value)), decode cc pc = .ok (.return_, 1) → ZAt X Q k1 k2 pc σ lv []
theorem ZrIa.z {cc : ByteArray} {X : Zx} {Q : State → Prop} {v : Int32} {σ : Sg} (hk : ZrIa cc X Q v X.2.2.1.2.2.2 σ) : ZrIk cc X Q 0 0 v σ := fun pc lv hd => by
  have h := hk pc lv hd
  rw [Nat.sub_self] at h
  exact h
theorem ZrVa.z {cc : ByteArray} {X : Zx} {Q : State → Prop} {σ : Sg} (hk : ZrVa cc X Q X.2.2.1.2.2.2 σ) : ZrVk cc X Q 0 0 σ := fun pc lv hd => by
  have h := hk pc lv hd
  rw [Nat.sub_self] at h
  exact h
