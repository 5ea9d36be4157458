def Zpw (g : va_G × (Nat → ClassId)) (ad : Nat → Nat) (n N : Nat) (σ : Sg) (U : State) : Prop := va_P g.1 zcl (zwl g.2 ad n σ) U.heap ∧ va_K g.1 zcl (zty g.2) U ∧ (∀ i j, i < n → j < n → ad i = ad j → i = j) ∧ N ≤ n
def Zad (ad : Nat → Nat) (n sz : Nat) : Nat → Prop := fun q => (∃ i, i < n ∧ ad i = q) ∨ sz ≤ q
def ZcI (y : MethodName) (cz : ByteArray) (mL : Nat) (ret : FieldType) (rz : Room) (N : Nat) (av : (Nat → Nat) → List Value) (σ : Sg) (r : Int32) (σ' : Sg) : Prop :=
  ∀ (l : Launch) (g : va_G × (Nat → ClassId)) (ad : Nat → Nat) (n sz : Nat), Met l y (Cond.code y cz mL (some ret) :: zT) rz (va_Pc (av ad) (fun U => U.heap.size = sz ∧ Zpw g ad n N σ U ∧ Zev ad (Zad ad n sz) U U.heap)) (va_Qi (fun (r' : Int32) (_ : Unit) => r' = r) (fun _ t => Zpw g ad n N σ' t) (Zad ad n sz)) 0 0 (Zad ad n sz)
def ZcV (y : MethodName) (cz : ByteArray) (mL : Nat) (rz : Room) (N : Nat) (av : (Nat → Nat) → List Value) (σ σ' : Sg) : Prop :=
  ∀ (l : Launch) (g : va_G × (Nat → ClassId)) (ad : Nat → Nat) (n sz : Nat), Met l y (Cond.code y cz mL none :: zT) rz (va_Pc (av ad) (fun U => U.heap.size = sz ∧ Zpw g ad n N σ U ∧ Zev ad (Zad ad n sz) U U.heap)) (va_Qv (fun (_ : Unit) => True) (fun _ t => Zpw g ad n N σ' t) (Zad ad n sz)) 0 0 (Zad ad n sz)
theorem Zpw_blind {g : va_G × (Nat → ClassId)} {ad : Nat → Nat} {n N sz : Nat} {σ : Sg} {av : List Value} : FrameBlind (va_Pc av (fun U => U.heap.size = sz ∧ Zpw g ad n N σ U ∧ Zev ad (Zad ad n sz) U U.heap)) := fun a U f mk q => by
  obtain ⟨q0, q1, ⟨qP, qK, qD⟩, qE⟩ := q
  exact ⟨q0, q1, ⟨qP, va_K.moved (u := U) (U := U.calling f mk a) (Vm.Alike.refl U.vm) qK, qD⟩, Zev.same (u := U) (U := U.calling f mk a) rfl qE⟩
-- the words of a call
abbrev zwV (own : String) (ix : Nat) (y : MethodName) (cz : ByteArray) (mL : Nat) (ret : Option FieldType) : Prop := (Cond.methodLink own ix y ∈ zT ∧ Cond.instanceMethod y ∈ zT ∧ Cond.selects y.cls y y ∈ zT ∧ Cond.initialized y.cls ∈ zT ∧ Cond.code y cz mL ret ∈ zT)
abbrev zwS (own : String) (ix : Nat) (y : MethodName) (cz : ByteArray) (mL : Nat) (ret : Option FieldType) : Prop := (Cond.methodLink own ix y ∈ zT ∧ Cond.static y ∈ zT ∧ Cond.initialized y.cls ∈ zT ∧ Cond.code y cz mL ret ∈ zT)
theorem zwV_good {own : String} {ix : Nat} {y : MethodName} {cz : ByteArray} {mL : Nat} {ret : Option FieldType} (h : zwV own ix y cz mL ret) : GoodIn zT (wsV own ix y.cls y (Cond.code y cz mL ret :: zT)) := by
  obtain ⟨h1, h2, h3, h4, h5⟩ := h
  refine zT_good (fun w hw => ?_)
  rcases List.mem_append.mp hw with hw | hw
  · simp only [List.mem_cons, List.not_mem_nil, or_false] at hw
    rcases hw with rfl | rfl | rfl | rfl <;> assumption
  · rcases List.mem_cons.mp hw with rfl | hw
    · exact h5
    · exact hw
theorem zT_code {y : MethodName} {cz : ByteArray} {mL : Nat} {ret : Option FieldType} (h5 : Cond.code y cz mL ret ∈ zT) : GoodIn zT (Cond.code y cz mL ret :: zT) := zT_good (fun w hw => by
  rcases List.mem_cons.mp hw with rfl | hw
  · exact h5
  · exact hw)
section ZC
variable {X : Zx} {cc : ByteArray} {own : String} {rm : Room} {N nL : Nat} {Q : State → Prop} {k1 k2 pc : Nat} {σ σ' : Sg} {lv : List (Nat × Value)} {st : List Value} {α β : Type} {out : α}
theorem Zok.free (ok : Zok X cc own rm N nL) {H : Heap} {locs : List Loc} (hS : va_S X.2.2.2.1 X.1.2.2.2.2.heap H locs) : ∀ q, Zad X.2.2.1.2.2.1 X.2.2.1.2.2.2 H.size q → X.2.2.2.1 q := by
  intro q h
  rcases h with ⟨i, hi, rfl⟩ | h
  · exact ok.2.2.1.2 i hi
  · exact ok.2.2.2.2.2.1 q (Nat.le_trans hS.1 h)
theorem z_cV {y : MethodName} {cz : ByteArray} {mL ix : Nat} {ret : FieldType} {rz : Room} {av : (Nat → Nat) → List Value} {w ci : Nat} {sl : List (Option (Option Nat))} {T : u_T} {nF : Nat} {As rest : List Value} {r : Int32} (ok : Zok X cc own rm N nL) (hk : zk w N (.inl (ci, sl))) (hc : zcl[ci]? = some (y.cls, T, nF)) (hM : ZcI y cz mL ret rz N av σ r σ') (hav : av X.ad = .ref (X.ad w) :: As) (hw : zwV own ix y cz mL (some ret)) (hy : y.cls ≠ "java/lang/invoke/MethodHandle" ∧ y.cls ≠ "java/lang/invoke/VarHandle" ∧ (parseMethodDescriptor y.desc).map (fun d => d.parameters.length) = some As.length) (hz : rz.cells = 0 ∧ rz.slots = 0) (hR : rz.frames + 1 ≤ rm.frames ∧ 8 + (mL + 11) + rz.locals ≤ rm.locals) (hkR : k1 ≤ rm.cells ∧ k2 ≤ rm.slots) (hst : st = As.reverse ++ .ref (X.ad w) :: rest) (hrest : (rest.map fun v => v.category).sum ≤ 8) (hd : decode cc pc = .ok (.invokevirtual ix, 3)) (kk : ZAt X Q k1 k2 (pc + 3) σ' lv (.int r :: rest)) : ZAt X Q k1 k2 pc σ lv st := by
  intro H locs ls hP hS hl
  obtain ⟨⟨hx, hb, hml, hown, hts⟩, hK, hI, hR0, hN, hA, hnl, hE⟩ := id ok
  subst hR0
  have he := zwl_get (cs := X.2.2.1.2.1) (ad := X.2.2.1.2.2.1) (σ := σ) (ok.lt hk.2)
  rw [hk.1] at he
  have hM1 := hM X.1.2.1 (X.2.2.1.1, X.2.2.1.2.1) X.ad X.2.2.1.2.2.2 H.size
  rw [hav] at hM1
  refine va_calli (va_runV (As := As) (rest := rest) ⟨hx, hb, hml, hown, hts⟩ hM1 (cwV As.length hts (zwV_good hw) rfl hz.1 hz.2 ⟨rfl, hy⟩ hR) ⟨Zpw_blind, va_recv hK hP hc he, fun U hU hW => ⟨rfl, by rw [hU], ⟨by rw [hU]; exact hP, va_K.moved hW.alike hK, hI.1, hN⟩, hE.call hS hW hU (ok.free hS)⟩⟩ rfl rfl (by rw [hl.1, hnl]) hst (lv_room hrest) hd hkR) hS (fun q _ h => ok.free hS q h) (ok.free hS) (fun r1 u t H1 locs1 ht hvm hr hB hz1 hk1 hS1 => ?_)
  subst hr
  exact kk H1 locs1 ls (by rw [← ht]; exact hB.1) hS1 hl
theorem z_cVv {y : MethodName} {cz : ByteArray} {mL ix : Nat} {rz : Room} {av : (Nat → Nat) → List Value} {w ci : Nat} {sl : List (Option (Option Nat))} {T : u_T} {nF : Nat} {As rest : List Value} (ok : Zok X cc own rm N nL) (hk : zk w N (.inl (ci, sl))) (hc : zcl[ci]? = some (y.cls, T, nF)) (hM : ZcV y cz mL rz N av σ σ') (hav : av X.ad = .ref (X.ad w) :: As) (hw : zwV own ix y cz mL none) (hy : y.cls ≠ "java/lang/invoke/MethodHandle" ∧ y.cls ≠ "java/lang/invoke/VarHandle" ∧ (parseMethodDescriptor y.desc).map (fun d => d.parameters.length) = some As.length) (hz : rz.cells = 0 ∧ rz.slots = 0) (hR : rz.frames + 1 ≤ rm.frames ∧ 8 + (mL + 11) + rz.locals ≤ rm.locals) (hkR : k1 ≤ rm.cells ∧ k2 ≤ rm.slots) (hst : st = As.reverse ++ .ref (X.ad w) :: rest) (hrest : (rest.map fun v => v.category).sum ≤ 8) (hd : decode cc pc = .ok (.invokevirtual ix, 3)) (kk : ZAt X Q k1 k2 (pc + 3) σ' lv rest) : ZAt X Q k1 k2 pc σ lv st := by
  intro H locs ls hP hS hl
  obtain ⟨⟨hx, hb, hml, hown, hts⟩, hK, hI, hR0, hN, hA, hnl, hE⟩ := id ok
  subst hR0
  have he := zwl_get (cs := X.2.2.1.2.1) (ad := X.2.2.1.2.2.1) (σ := σ) (ok.lt hk.2)
  rw [hk.1] at he
  have hM1 := hM X.1.2.1 (X.2.2.1.1, X.2.2.1.2.1) X.ad X.2.2.1.2.2.2 H.size
  rw [hav] at hM1
  refine va_callv (va_runV (As := As) (rest := rest) ⟨hx, hb, hml, hown, hts⟩ hM1 (cwV As.length hts (zwV_good hw) rfl hz.1 hz.2 ⟨rfl, hy⟩ hR) ⟨Zpw_blind, va_recv hK hP hc he, fun U hU hW => ⟨rfl, by rw [hU], ⟨by rw [hU]; exact hP, va_K.moved hW.alike hK, hI.1, hN⟩, hE.call hS hW hU (ok.free hS)⟩⟩ rfl rfl (by rw [hl.1, hnl]) hst (lv_room hrest) hd hkR) hS (fun q _ h => ok.free hS q h) (ok.free hS) (fun u t H1 locs1 ht hvm hr hB hz1 hk1 hS1 => ?_)
  exact kk H1 locs1 ls (by rw [← ht]; exact hB.1) hS1 hl
theorem z_cS {y : MethodName} {cz : ByteArray} {mL ix : Nat} {ret : FieldType} {rz : Room} {av : (Nat → Nat) → List Value} {As rest : List Value} {r : Int32} (ok : Zok X cc own rm N nL) (hM : ZcI y cz mL ret rz N av σ r σ') (hav : av X.ad = As) (hw : zwS own ix y cz mL (some ret)) (hy : y.cls ≠ "java/lang/invoke/MethodHandle" ∧ y.cls ≠ "java/lang/invoke/VarHandle" ∧ (parseMethodDescriptor y.desc).map (fun d => d.parameters.length) = some As.length) (hz : rz.cells = 0 ∧ rz.slots = 0) (hR : rz.frames + 1 ≤ rm.frames ∧ 8 + (mL + 11) + rz.locals ≤ rm.locals) (hkR : k1 ≤ rm.cells ∧ k2 ≤ rm.slots) (hst : st = As.reverse ++ rest) (hrest : (rest.map fun v => v.category).sum ≤ 8) (hd : decode cc pc = .ok (.invokestatic ix, 3)) (kk : ZAt X Q k1 k2 (pc + 3) σ' lv (.int r :: rest)) : ZAt X Q k1 k2 pc σ lv st := by
  intro H locs ls hP hS hl
  obtain ⟨⟨hx, hb, hml, hown, hts⟩, hK, hI, hR0, hN, hA, hnl, hE⟩ := id ok
  subst hR0
  have hM1 := hM X.1.2.1 (X.2.2.1.1, X.2.2.1.2.1) X.ad X.2.2.1.2.2.2 H.size
  rw [hav] at hM1
  obtain ⟨w1, w2, w3, w4⟩ := hw
  refine va_calli (va_runS (As := As) (rest := rest) ⟨hx, hb, hml, hown, hts⟩ hM1 ⟨callB_of As.length hts (zT_code w4) rfl hz.1 hz.2 (hts _ w3) (hts _ w1) hy hR, hts _ w2⟩ ⟨Zpw_blind, fun U hU hW => ⟨rfl, by rw [hU], ⟨by rw [hU]; exact hP, va_K.moved hW.alike hK, hI.1, hN⟩, hE.call hS hW hU (ok.free hS)⟩⟩ rfl rfl (by rw [hl.1, hnl]) hst (lv_room hrest) hd hkR) hS (fun q _ h => ok.free hS q h) (ok.free hS) (fun r1 u t H1 locs1 ht hvm hr hB hz1 hk1 hS1 => ?_)
  subst hr
  exact kk H1 locs1 ls (by rw [← ht]; exact hB.1) hS1 hl
theorem z_cSv {y : MethodName} {cz : ByteArray} {mL ix : Nat} {rz : Room} {av : (Nat → Nat) → List Value} {As rest : List Value} (ok : Zok X cc own rm N nL) (hM : ZcV y cz mL rz N av σ σ') (hav : av X.ad = As) (hw : zwS own ix y cz mL none) (hy : y.cls ≠ "java/lang/invoke/MethodHandle" ∧ y.cls ≠ "java/lang/invoke/VarHandle" ∧ (parseMethodDescriptor y.desc).map (fun d => d.parameters.length) = some As.length) (hz : rz.cells = 0 ∧ rz.slots = 0) (hR : rz.frames + 1 ≤ rm.frames ∧ 8 + (mL + 11) + rz.locals ≤ rm.locals) (hkR : k1 ≤ rm.cells ∧ k2 ≤ rm.slots) (hst : st = As.reverse ++ rest) (hrest : (rest.map fun v => v.category).sum ≤ 8) (hd : decode cc pc = .ok (.invokestatic ix, 3)) (kk : ZAt X Q k1 k2 (pc + 3) σ' lv rest) : ZAt X Q k1 k2 pc σ lv st := by
  intro H locs ls hP hS hl
  obtain ⟨⟨hx, hb, hml, hown, hts⟩, hK, hI, hR0, hN, hA, hnl, hE⟩ := id ok
  subst hR0
  have hM1 := hM X.1.2.1 (X.2.2.1.1, X.2.2.1.2.1) X.ad X.2.2.1.2.2.2 H.size
  rw [hav] at hM1
  obtain ⟨w1, w2, w3, w4⟩ := hw
  refine va_callv (va_runS (As := As) (rest := rest) ⟨hx, hb, hml, hown, hts⟩ hM1 ⟨callB_of As.length hts (zT_code w4) rfl hz.1 hz.2 (hts _ w3) (hts _ w1) hy hR, hts _ w2⟩ ⟨Zpw_blind, fun U hU hW => ⟨rfl, by rw [hU], ⟨by rw [hU]; exact hP, va_K.moved hW.alike hK, hI.1, hN⟩, hE.call hS hW hU (ok.free hS)⟩⟩ rfl rfl (by rw [hl.1, hnl]) hst (lv_room hrest) hd hkR) hS (fun q _ h => ok.free hS q h) (ok.free hS) (fun u t H1 locs1 ht hvm hr hB hz1 hk1 hS1 => ?_)
  exact kk H1 locs1 ls (by rw [← ht]; exact hB.1) hS1 hl
-- the calls as the walks use them
theorem z_call {F : Option β} {k : β → Option α} (hf : F.bind k = some out) (kk : ∀ b, F = some b → k b = some out → ZAt X Q k1 k2 pc σ lv st) : ZAt X Q k1 k2 pc σ lv st := by
  obtain ⟨b, h1, h2⟩ := zbind hf
  exact kk b h1 h2
def ZrI (cc : ByteArray) (X : Zx) (Q : State → Prop) (v : Int32) (σ : Sg) : Prop := ∀ (pc : Nat) (lv : List (Nat × Value)), decode cc pc = .ok (.ireturn, 1) → ZAt X Q 0 0 pc σ lv [.int v]
def ZrV (cc : ByteArray) (X : Zx) (Q : State → Prop) (σ : Sg) : Prop := ∀ (pc : Nat) (lv : List (Nat × Value)), decode cc pc = .ok (.return_, 1) → ZAt X Q 0 0 pc σ lv []
end ZC
theorem zmetI {y : MethodName} {cz : ByteArray} {mL : Nat} {ret : FieldType} {rz : Room} {N : Nat} {own : String} {av : (Nat → Nat) → List Value} {lv : (Nat → Nat) → List (Nat × Value)} {σ σ' : Sg} {r : Int32} (hy : plainName y.cls = true) (hown : y.cls = own) (hlv : ∀ ad, lv_args 0 (av ad) = lv ad) (hsz : ∀ ad, (lg_sl (av ad)).length ≤ mL) (hn : narrow ret (.int r) = .int r)
    (body : ∀ (X : Zx) (Q : State → Prop), Zok X cz own rz N mL → ZrI cz X Q r σ' → ZAt X Q 0 0 0 σ (lv X.ad) []) : ZcI y cz mL ret rz N av σ r σ' := by
  intro l g ad n sz
  refine Met.ofW (cc := cz) (maxL := mL) (ret := some ret) hy rfl ?_
  intro p e s m args below meth c s₁ B hml hv
  obtain ⟨rfl, hsz0, ⟨hP, hK, hI, hN⟩, hE⟩ := hv
  have hx := B.exec
  have hb := B.bytes
  have hr := B.returns
  have hts := atoms_spec (ws := Cond.code y cz mL (some ret) :: zT) B.pre
  have hcls : s.vm.findClass own = some m.cls := by rw [← hown]; exact findClass_of_methodNamed B.named
  have hlocks := B.notSynchronized
  subst hsz0
  rw [lg_entry_eq]
  have hl := lv_entry (av ad) (hsz ad)
  rw [hlv] at hl
  have ok : Zok ((p, l, e, (headSpec (Cond.code y cz mL (some ret) :: zT) rz).room, s), (m, (av ad).toArray, below, meth, c), (g.1, g.2, ad, n), Zad ad n s.heap.size, mL) cz own rz N mL :=
    ⟨⟨hx, hb, hml, hcls, fun w hw => hts w (List.mem_cons_of_mem _ hw)⟩, hK, ⟨hI, fun i hi => Or.inl ⟨i, hi, rfl⟩⟩, rfl, hN, fun q hq => Or.inr hq, rfl, hE⟩
  refine body _ _ ok ?_ s.heap [] _ hP va_S.rf hl
  intro pc lv1 hd H locs ls hP1 hS1 hl1
  exact W.zret hx hb hr hn (fun t ht hW => ⟨⟨r, (), rfl, rfl, by rw [ht]; exact hP1, va_K.moved hW.alike hK, hI, hN⟩, hS1.F ht⟩) hS1.2.2 hd
theorem zmetV {y : MethodName} {cz : ByteArray} {mL : Nat} {rz : Room} {N : Nat} {own : String} {av : (Nat → Nat) → List Value} {lv : (Nat → Nat) → List (Nat × Value)} {σ σ' : Sg} (hy : plainName y.cls = true) (hown : y.cls = own) (hlv : ∀ ad, lv_args 0 (av ad) = lv ad) (hsz : ∀ ad, (lg_sl (av ad)).length ≤ mL)
    (body : ∀ (X : Zx) (Q : State → Prop), Zok X cz own rz N mL → ZrV cz X Q σ' → ZAt X Q 0 0 0 σ (lv X.ad) []) : ZcV y cz mL rz N av σ σ' := by
  intro l g ad n sz
  refine Met.ofW (cc := cz) (maxL := mL) (ret := none) hy rfl ?_
  intro p e s m args below meth c s₁ B hml hv
  obtain ⟨rfl, hsz0, ⟨hP, hK, hI, hN⟩, hE⟩ := hv
  have hx := B.exec
  have hb := B.bytes
  have hr := B.returns
  have hts := atoms_spec (ws := Cond.code y cz mL none :: zT) B.pre
  have hcls : s.vm.findClass own = some m.cls := by rw [← hown]; exact findClass_of_methodNamed B.named
  have hlocks := B.notSynchronized
  subst hsz0
  rw [lg_entry_eq]
  have hl := lv_entry (av ad) (hsz ad)
  rw [hlv] at hl
  have ok : Zok ((p, l, e, (headSpec (Cond.code y cz mL none :: zT) rz).room, s), (m, (av ad).toArray, below, meth, c), (g.1, g.2, ad, n), Zad ad n s.heap.size, mL) cz own rz N mL :=
    ⟨⟨hx, hb, hml, hcls, fun w hw => hts w (List.mem_cons_of_mem _ hw)⟩, hK, ⟨hI, fun i hi => Or.inl ⟨i, hi, rfl⟩⟩, rfl, hN, fun q hq => Or.inr hq, rfl, hE⟩
  refine body _ _ ok ?_ s.heap [] _ hP va_S.rf hl
  intro pc lv1 hd H locs ls hP1 hS1 hl1
  exact W.vret hx hb hr (fun t ht hW => ⟨⟨(), rfl, trivial, by rw [ht]; exact hP1, va_K.moved hW.alike hK, hI, hN⟩, hS1.F ht⟩) hS1.2.2 hd
theorem zb_nar (b : Bool) : narrow .boolean (.int (zb b)) = .int (zb b) := by cases b <;> decide
