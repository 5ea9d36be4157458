theorem zup_n1 {σ : Sg} {i k j : Nat} {v : Int32} (h : j ≠ i) : zup σ i k v j = σ j := if_neg h
theorem zrow_self (σ : Sg) (j : Nat) : zrow σ j (σ j) = σ := by
  funext a
  by_cases h : a = j
  · subst h; exact if_pos rfl
  · exact if_neg h
theorem zsl_setr {ad : Nat → Nat} {x : Nat → Int32} {sl : List (Option (Option Nat))} {k q : Nat} (hk : k < sl.length) : (sl.mapIdx (zvl ad x)).set k (.ref (ad q)) = (sl.set k (some (some q))).mapIdx (zvl ad x) := by
  apply List.ext_getElem?
  intro j
  by_cases hj : j = k
  · subst hj
    rw [List.getElem?_set_self (by rw [List.length_mapIdx]; exact hk), List.getElem?_mapIdx, List.getElem?_set_self hk]
    rfl
  · rw [List.getElem?_set_ne (Ne.symm hj), List.getElem?_mapIdx, List.getElem?_mapIdx, List.getElem?_set_ne (Ne.symm hj)]
def zdv (d : Option (Option Nat)) : Value := match d with | none => .int 0 | some _ => .null
theorem zf_of {n : Nat} {ty : Nat → FieldType} {sl : List (Option (Option Nat))} (h1 : ∀ j, j < n → defaultValue (ty j) = ((sl[j]?).map zdv).getD .null) (h2 : ∀ d ∈ sl, d = none ∨ d = some none) (ad : Nat → Nat) (j : Nat) (hj : j < n) : defaultValue (ty j) = vp_V (sl.mapIdx (zvl ad (fun _ => 0))) j := by
  rw [h1 j hj]
  unfold vp_V
  rw [List.getD_eq_getElem?_getD, List.getElem?_mapIdx]
  cases hc : sl[j]? with
  | none => rfl
  | some d => rcases h2 d (List.mem_of_getElem? hc) with rfl | rfl <;> rfl
section ZBS
variable {X : Zx} {cc : ByteArray} {own : String} {rm : Room} {nL : Nat} {Q : State → Prop} {k1 k2 pc : Nat} {ks : List Kd} {σ : Sg} {lv : List (Nat × Value)} {st : List Value}
theorem zB_ks {ks' : List Kd} (h : ks = ks') (kk : ZB X Q k1 k2 pc ks' σ lv st) : ZB X Q k1 k2 pc ks σ lv st := h ▸ kk
theorem zB_putF {C : String} {T : u_T} {n ci : Nat} {sl : List (Option (Option Nat))} {q s ix : Nat} (ok : ZBok X cc own rm nL) (hk : ks[0]? = some (.inl (ci, sl))) (hc : zcl[ci]? = some (C, T, n)) (hin : ∀ c ∈ u_ws C T n, c ∈ zT) (ty0 : Nat → FieldType) (hty : ∀ k, k < n → parseFieldDescriptor (T k).2.2.1 = some (ty0 k)) (hnm : ∀ a, a < n → ∀ b, b < n → a ≠ b → (T a).2.1 ≠ (T b).2.1) (hs : s < n) (hl : Cond.fieldLink own ix (T s).1 (T s).2.1 (T s).2.2.1 ∈ zT) (hfin : (T s).2.2.2 = true ∧ (T s).1 = own) {ty : FieldType} (hpd : parseFieldDescriptor (T s).2.2.1 = some ty) (hn : narrow ty (.ref (X.ad q)) = .ref (X.ad q)) (hfit : fits ty (.ref (X.ad q)) = true) (hls : s < sl.length) (hd : decode cc pc = .ok (.putfield ix, 3)) (kk : ZB X Q k1 k2 (pc + 3) (ks.set 0 (.inl (ci, sl.set s (some (some q))))) σ lv st) : ZB X Q k1 k2 pc ks σ lv (.ref (X.ad q) :: .ref (X.ad 0) :: st) :=
  zB_put (f := σ 0) ok hk hc hin ty0 hty hnm hs hl (Or.inl hfin) hpd hn hfit hls (zsl_setr hls) hd (by rw [zrow_self]; exact kk)
theorem zB_puti {C : String} {T : u_T} {n ci : Nat} {sl : List (Option (Option Nat))} {v : Int32} {s ix : Nat} (ok : ZBok X cc own rm nL) (hk : ks[0]? = some (.inl (ci, sl))) (hc : zcl[ci]? = some (C, T, n)) (hin : ∀ c ∈ u_ws C T n, c ∈ zT) (ty0 : Nat → FieldType) (hty : ∀ k, k < n → parseFieldDescriptor (T k).2.2.1 = some (ty0 k)) (hnm : ∀ a, a < n → ∀ b, b < n → a ≠ b → (T a).2.1 ≠ (T b).2.1) (hs : s < n) (hl : Cond.fieldLink own ix (T s).1 (T s).2.1 (T s).2.2.1 ∈ zT) (hfin : (T s).2.2.2 = false) {ty : FieldType} (hpd : parseFieldDescriptor (T s).2.2.1 = some ty) (hn : narrow ty (.int v) = .int v) (hfit : fits ty (.int v) = true) (hd0 : sl[s]? = some none) (hset : ks.set 0 (.inl (ci, sl)) = ks) (hd : decode cc pc = .ok (.putfield ix, 3)) (kk : ZB X Q k1 k2 (pc + 3) ks (zup σ 0 s v) lv st) : ZB X Q k1 k2 pc ks σ lv (.int v :: .ref (X.ad 0) :: st) :=
  zB_put (f := upd (σ 0) s v) ok hk hc hin ty0 hty hnm hs hl (Or.inr hfin) hpd hn hfit (List.getElem?_eq_some_iff.mp hd0).1 (zsl_set hd0 (by unfold zvl upd; simp)) hd (by rw [hset]; exact kk)
theorem zB_putm {C : String} {T : u_T} {n ci : Nat} {sl : List (Option (Option Nat))} {q s ix : Nat} (ok : ZBok X cc own rm nL) (hk : ks[0]? = some (.inl (ci, sl))) (hc : zcl[ci]? = some (C, T, n)) (hin : ∀ c ∈ u_ws C T n, c ∈ zT) (ty0 : Nat → FieldType) (hty : ∀ k, k < n → parseFieldDescriptor (T k).2.2.1 = some (ty0 k)) (hnm : ∀ a, a < n → ∀ b, b < n → a ≠ b → (T a).2.1 ≠ (T b).2.1) (hs : s < n) (hl : Cond.fieldLink own ix (T s).1 (T s).2.1 (T s).2.2.1 ∈ zT) (hfin : (T s).2.2.2 = false) {ty : FieldType} (hpd : parseFieldDescriptor (T s).2.2.1 = some ty) (hn : narrow ty (.ref (X.ad q)) = .ref (X.ad q)) (hfit : fits ty (.ref (X.ad q)) = true) (hd0 : sl[s]? = some (some none)) (hq : q < 100000) (hset : ks.set 0 (.inl (ci, sl)) = ks) (hd : decode cc pc = .ok (.putfield ix, 3)) (kk : ZB X Q k1 k2 (pc + 3) ks (zup σ 0 s (nI (q + 1))) lv st) : ZB X Q k1 k2 pc ks σ lv (.ref (X.ad q) :: .ref (X.ad 0) :: st) :=
  zB_put (f := upd (σ 0) s (nI (q + 1))) ok hk hc hin ty0 hty hnm hs hl (Or.inr hfin) hpd hn hfit (List.getElem?_eq_some_iff.mp hd0).1 (zsl_set hd0 (by show va_rf (zrf X.ad (upd (σ 0) s (nI (q + 1)) s)) = _; rw [show upd (σ 0) s (nI (q + 1)) s = nI (q + 1) from if_pos rfl, zrf_of hq]; rfl)) hd (by rw [hset]; exact kk)
theorem zB_iast {j n : Nat} {i v : Int32} (ok : ZBok X cc own rm nL) (hk : ks[j]? = some (.inr (0, n, []))) (hi : ¬ (i < 0 ∨ n ≤ i.toNatClampNeg)) (hset : ks.set j (.inr (0, n, [])) = ks) (hd : decode cc pc = .ok (.iastore, 1)) (kk : ZB X Q k1 k2 (pc + 1) ks (zup σ j i.toNatClampNeg v) lv st) : ZB X Q k1 k2 pc ks σ lv (.int v :: .int i :: .ref (X.ad j) :: st) := by
  intro H locs ls hP hS h
  have ha := hP.2 j _ hk
  refine W.iast ok.1.1 ok.1.2.1 ha ((ok.2.1.2 0 _ rfl).1 n (fun q => .int (σ j q))) (fun q => by cases q) (by show ¬ (i < 0 ∨ (arrV _ _ _).slots.size ≤ _); rw [arrV_size]; exact hi) rfl rfl hd fun H1 e z oq => ?_
  refine kk H1 _ ls ?_ (hS.put z oq (ok.2.2.2.2.1 _ (by show X.ad 0 ≤ X.ad j; have := ok.2.2.1 j; omega))) h
  have h9 := hP.set (k' := .inr (0, n, [])) (f := upd (σ j) i.toNatClampNeg v) ok.2.2.1 hk z oq (by
    show H1[X.ad j]? = some (vp_cell _ _)
    rw [show H1[X.ad j]? = _ from e]
    show some ((vp_cell _ (n, .inl (σ j))).setSlot _ _) = some (vp_cell _ (n, .inl _))
    rw [vp_cell_i, vp_cell_i, arrV_store]
    congr 2
    funext q
    by_cases hq : q = i.toNatClampNeg
    · subst hq
      simp [updV, upd]
    · simp [updV, upd, hq])
  rw [hset] at h9
  exact h9
end ZBS
theorem zBw.app {D : va_G} {cs : Nat → ClassId} {ad : Nat → Nat} {ks ksC : List Kd} {fk : Kd} {σ : Sg} {H H1 : Heap} (had : ∀ i, ad i = ad 0 + i) (h : zBw D cs ad (ks ++ [fk]) σ H) (ho : ∀ q, q < H.size → ¬ ad ks.length ≤ q → H1[q]? = H[q]?) (h1 : zBw D cs (fun i => ad ks.length + i) ksC zz0 H1) (hσ : ∀ j, ks.length ≤ j → σ j = fun _ => 0) : zBw D cs ad (ks ++ ksC.map (zsh ks.length)) σ H1 := by
  refine ⟨?_, fun j k hj => ?_⟩
  · rw [h1.1, List.length_append, List.length_map]
    have e1 := had ks.length
    have e2 := had (ks.length + ksC.length)
    show ad ks.length + ksC.length = ad (ks.length + ksC.length)
    omega
  · by_cases hl : j < ks.length
    · rw [List.getElem?_append_left hl] at hj
      have hj' : (ks ++ [fk])[j]? = some k := by rw [List.getElem?_append_left hl]; exact hj
      have e0 := h.1
      rw [List.length_append] at e0
      have e1 := had (ks.length + [fk].length)
      have e2 := had j
      have e3 := had ks.length
      refine (h.2 j k hj').kept (ho _ ?_ ?_)
      · show ad j < H.size
        omega
      · show ¬ ad ks.length ≤ ad j
        omega
    · rw [List.getElem?_append_right (by omega), List.getElem?_map] at hj
      obtain ⟨i, rfl⟩ : ∃ i, j = ks.length + i := ⟨j - ks.length, by omega⟩
      rw [Nat.add_sub_cancel_left] at hj
      cases hc : ksC[i]? with
      | none => rw [hc] at hj; cases hj
      | some k0 =>
        rw [hc] at hj
        cases hj
        have h2 := h1.2 i k0 hc
        rw [hσ _ (by omega)]
        have e1 := had ks.length
        have e2 := had (ks.length + i)
        rw [show ad (ks.length + i) = ad ks.length + i by omega]
        rw [← zce_sh (ad := ad) (m := ks.length) (ad2 := fun i => ad ks.length + i) (fun q => by have e3 := had (ks.length + q); omega) k0]
        exact h2
section ZBM
variable {X : Zx} {cc : ByteArray} {own : String} {rm : Room} {nL : Nat} {Q : State → Prop} {k1 k2 pc : Nat} {ks : List Kd} {σ : Sg} {lv : List (Nat × Value)} {st : List Value}
theorem zB_newn {C : String} {T : u_T} {n ci ix : Nat} {sl : List (Option (Option Nat))} (m : Nat) (hm : ks.length = m) (ok : ZBok X cc own rm nL) (hcl : Cond.classLink own ix C ∈ zT) (hins : Cond.instantiable C n ∈ zT) (hini : Cond.initialized C ∈ zT) (hc : zcl[ci]? = some (C, T, n)) (hin : ∀ c ∈ u_ws C T n, c ∈ zT) (ty : Nat → FieldType) (hty : ∀ k, k < n → parseFieldDescriptor (T k).2.2.1 = some (ty k)) (hfs : ∀ (ad : Nat → Nat) (j : Nat), j < n → defaultValue (ty j) = vp_V (sl.mapIdx (zvl ad (fun _ => 0))) j) (hσ : σ m = fun _ => 0) (hR : k1 + 1 ≤ rm.cells ∧ k2 + n ≤ rm.slots) (hd : decode cc pc = .ok (.new ix, 3)) (kk : ZB X Q (k1 + 1) (k2 + n) (pc + 3) (ks ++ [.inl (ci, sl)]) σ lv (.ref (X.ad m) :: st)) : ZB X Q k1 k2 pc ks σ lv st := by
  subst hm
  exact zB_new ok hcl hins hini hc hin ty hty hfs hσ hR hd kk
theorem zB_newan {m : Int32} {n t : Nat} {at_ : ArrayType} {ty : FieldType} (m0 : Nat) (hm0 : ks.length = m0) (ok : ZBok X cc own rm nL) (ht : (t = 0 ∧ at_ = .int ∧ ty = .int) ∨ (t = 1 ∧ at_ = .byte ∧ ty = .byte)) (harr : Cond.arrayClass ty ∈ zT) (hm : ¬ m < 0 ∧ m.toNatClampNeg = n) (hb : n * 4 ≤ 536870912) (hσ : σ m0 = fun _ => 0) (hR : k1 + 1 ≤ rm.cells ∧ k2 + n ≤ rm.slots) (hd : decode cc pc = .ok (.newarray at_, 2)) (kk : ZB X Q (k1 + 1) (k2 + n) (pc + 2) (ks ++ [.inr (t, n, [])]) σ lv (.ref (X.ad m0) :: st)) : ZB X Q k1 k2 pc ks σ lv (.int m :: st) := by
  subst hm0
  exact zB_newa ok ht harr hm hb hσ hR hd kk
theorem zB_anewn {m : Int32} {n ix : Nat} (m0 : Nat) (hm0 : ks.length = m0) (ok : ZBok X cc own rm nL) (hcl : Cond.classLink own ix "CanalKeeper$Moment" ∈ zT) (hm : ¬ m < 0 ∧ m.toNatClampNeg = n) (hb : n * 4 ≤ 536870912) (hσ : σ m0 = fun _ => 0) (hR : k1 + 1 ≤ rm.cells ∧ k2 + n ≤ rm.slots) (hd : decode cc pc = .ok (.anewarray ix, 3)) (kk : ZB X Q (k1 + 1) (k2 + n) (pc + 3) (ks ++ [.inr (4, n, [])]) σ lv (.ref (X.ad m0) :: st)) : ZB X Q k1 k2 pc ks σ lv (.int m :: st) := by
  subst hm0
  exact zB_anew ok hcl hm hb hσ hR hd kk
theorem zB_mnan {n k : Int32} {N K t ix : Nat} {ty : FieldType} (m0 : Nat) (hm0 : ks.length = m0) (ok : ZBok X cc own rm nL) (ht : (t = 0 ∧ ty = .int) ∨ (t = 1 ∧ ty = .byte)) (hcl : Cond.classLink own ix ("[" ++ (FieldType.array ty).toString) ∈ zT) (harr : Cond.arrayClass ty ∈ zT) (hn : ¬ n < 0 ∧ n.toNatClampNeg = N) (hk : ¬ k < 0 ∧ k.toNatClampNeg = K) (hb : N * 4 ≤ 536870912 ∧ K * 4 ≤ 536870912) (hσ : ∀ j, m0 ≤ j → σ j = fun _ => 0) (hR : k1 + (1 + N) ≤ rm.cells ∧ k2 + (N + N * K) ≤ rm.slots) (hd : decode cc pc = .ok (.multianewarray ix 2, 4)) (kk : ZB X Q (k1 + 1 + N) (k2 + N + N * K) (pc + 4) (ks ++ (.inr (t + 2, N, (List.range N).map (fun i => m0 + 1 + i)) :: List.replicate N (.inr (t, K, [])))) σ lv (.ref (X.ad m0) :: st)) : ZB X Q k1 k2 pc ks σ lv (.int k :: .int n :: st) := by
  subst hm0
  exact zB_mna ok ht hcl harr hn hk hb hσ hR hd kk
end ZBM
def zNW (U : State) : Prop := ∀ q ∈ zNM, va_Nw (.methodLinkNest q.1 q.2.1 q.2.2.1 q.2.2.2) U
def ZiV (y : MethodName) (cz : ByteArray) (mL : Nat) (rz : Room) (fk : Kd) (ks : List Kd) (σ0 : Sg) (mc ms : Nat) : Prop :=
  ∀ (l : Launch) (g : va_G × (Nat → ClassId)) (h : Nat), Met l y (Cond.code y cz mL none :: zT) rz (va_Pc [.ref h] (fun U => zBw g.1 g.2 (fun i => h + i) [fk] zz0 U.heap ∧ va_K g.1 zcl (zty g.2) U ∧ zNW U ∧ zAO U)) (va_Qv (fun (_ : Unit) => True) (fun _ t => zBw g.1 g.2 (fun i => h + i) ks σ0 t.heap) (fun q => h ≤ q)) mc ms (fun q => h ≤ q)
theorem ZiV_blind {g : va_G × (Nat → ClassId)} {h : Nat} {fk : Kd} : FrameBlind (va_Pc [.ref h] (fun U => zBw g.1 g.2 (fun i => h + i) [fk] zz0 U.heap ∧ va_K g.1 zcl (zty g.2) U ∧ zNW U ∧ zAO U)) := fun a U f mk q => by
  obtain ⟨q0, qP, qK, qN, qA⟩ := q
  exact ⟨q0, qP, va_K.moved (u := U) (U := U.calling f mk a) (Vm.Alike.refl U.vm) qK, fun q hq => va_tabs rfl (rfl : U.vm = (U.calling f mk a).vm) (qN q hq), zAO.moved (u := U) (U := U.calling f mk a) (Vm.Alike.refl U.vm) qA⟩
def ZrB (cc : ByteArray) (X : Zx) (Q : State → Prop) (mc ms : Nat) (ks : List Kd) (σ : Sg) : Prop := ∀ (pc : Nat) (lv : List (Nat × Value)), decode cc pc = .ok (.return_, 1) → ZB X Q mc ms pc ks σ lv []
theorem zmetB {y : MethodName} {cz : ByteArray} {mL : Nat} {rz : Room} {own : String} {fk : Kd} {ks : List Kd} {σ0 : Sg} {mc ms : Nat} (hy : plainName y.cls = true) (hown : y.cls = own) (hnm : y.name = "<init>") (hmL : 1 ≤ mL)
    (body : ∀ (X : Zx) (Q : State → Prop), ZBok X cz own rz mL → ZrB cz X Q mc ms ks σ0 → ZB X Q 0 0 0 [fk] zz0 [(0, .ref (X.ad 0))] []) : ZiV y cz mL rz fk ks σ0 mc ms := by
  intro l g h
  refine Met.ofW (cc := cz) (maxL := mL) (ret := none) hy rfl ?_
  intro p e s m args below meth c s₁ B hml hv
  obtain ⟨rfl, hP, hK, hN, hA⟩ := hv
  have hx := B.exec
  have hb := B.bytes
  have hr := B.returns
  have hts := atoms_spec (ws := Cond.code y cz mL none :: zT) B.pre
  have hcls : s.vm.findClass own = some m.cls := by rw [← hown]; exact findClass_of_methodNamed B.named
  have hlocks := B.notSynchronized
  have hin : meth.name = "<init>" := by rw [← hnm]; exact (name_of_methodNamed B.named B.method).1
  rw [lg_entry_eq]
  have hl := lv_entry [.ref h] (n := mL) hmL
  have ok : ZBok ((p, l, e, (headSpec (Cond.code y cz mL none :: zT) rz).room, s), (m, ([.ref h] : List Value).toArray, below, meth, c), (g.1, g.2, (fun i => h + i), 0), (fun q => h ≤ q), mL) cz own rz mL :=
    ⟨⟨hx, hb, hml, hcls, fun w hw => hts w (List.mem_cons_of_mem _ hw)⟩, hK, fun i => by show h + i = h + 0 + i; omega, rfl, fun q hq => hq, rfl, hN, hin, hA, by rw [hP.1]; exact Nat.le_succ _⟩
  refine body _ _ ok ?_ s.heap [] _ hP va_S.rf hl
  intro pc lv1 hd H locs ls hP1 hS1 hl1
  exact W.vret hx hb hr (fun t ht hW => ⟨⟨(), rfl, trivial, by show zBw g.1 g.2 (fun i => h + i) ks σ0 t.heap; rw [ht]; exact hP1⟩, hS1.F ht⟩) hS1.2.2 hd
theorem zB_init {X : Zx} {cc : ByteArray} {own : String} {rm : Room} {nL : Nat} {Q : State → Prop} {k1 k2 pc : Nat} {ks : List Kd} {σ : Sg} {lv : List (Nat × Value)} {st : List Value} {y : MethodName} {cz : ByteArray} {mL ix mc ms : Nat} {rz : Room} {fk : Kd} {ksC : List Kd} {host : String} (m0 : Nat) (hm0 : ks.length = m0) (ok : ZBok X cc own rm nL) (hM : ZiV y cz mL rz fk ksC zz0 mc ms) (hfk : ∀ (cs : Nat → ClassId) (ad ad' : Nat → Nat), zce cs ad (fun _ => 0) fk = zce cs ad' (fun _ => 0) fk) (hσ : ∀ j, m0 ≤ j → σ j = fun _ => 0) (hnw : (own, ix, y, host) ∈ zNM) (hw : Cond.instanceMethod y ∈ zT ∧ Cond.initialized y.cls ∈ zT ∧ Cond.code y cz mL none ∈ zT) (hy : y.cls ≠ "java/lang/invoke/MethodHandle" ∧ y.cls ≠ "java/lang/invoke/VarHandle" ∧ (parseMethodDescriptor y.desc).map (fun d => d.parameters.length) = some 0) (hnm : y.name = "<init>") (hz : rz.cells = mc ∧ rz.slots = ms) (hR : rz.frames + 1 ≤ rm.frames ∧ 8 + (mL + 11) + rz.locals ≤ rm.locals) (hkR : k1 + mc ≤ rm.cells ∧ k2 + ms ≤ rm.slots) (hrest : (st.map fun v => v.category).sum ≤ 8) (hd : decode cc pc = .ok (.invokespecial ix, 3)) (kk : ZB X Q (k1 + mc) (k2 + ms) (pc + 3) (ks ++ ksC.map (zsh m0)) σ lv st) : ZB X Q k1 k2 pc (ks ++ [fk]) σ lv (.ref (X.ad m0) :: st) := by
  subst hm0
  intro H locs ls hP hS hl
  obtain ⟨⟨hx, hb, hml, hown, hts⟩, hK, had, hR0, hA, hnl, hN, hin, hAO, hle⟩ := id ok
  subst hR0
  have hM1 := hM X.1.2.1 (X.2.2.1.1, X.2.2.1.2.1) (X.ad ks.length)
  have hpre : zBw X.2.2.1.1 X.2.2.1.2.1 (fun i => X.ad ks.length + i) [fk] zz0 H := by
    refine ⟨?_, fun j k hj => ?_⟩
    · have e0 := hP.1
      rw [List.length_append] at e0
      have e1 := had ks.length
      have e2 := had (ks.length + [fk].length)
      show H.size = X.ad ks.length + [fk].length
      have e3 : H.size = X.ad (ks.length + [fk].length) := e0
      omega
    · cases j with
      | zero =>
        cases hj
        have h9 := hP.2 ks.length fk (by rw [List.getElem?_append_right (Nat.le_refl _), Nat.sub_self]; rfl)
        rw [hσ _ (Nat.le_refl _), hfk _ _ (fun i => X.ad ks.length + i)] at h9
        exact h9
      | succ j => simp at hj
  have hfree : ∀ q, X.ad ks.length ≤ q → X.2.2.2.1 q := fun q hq => hA q (by have := had ks.length; omega)
  refine va_callv (va_runIN (As := []) (rest := st) ⟨hx, hb, hml, hown, hts⟩ hM1 ⟨va_cnB 0 hts (zT_code hw.2.2) rfl hz.1 hz.2 (hN _ hnw) (hts _ hw.2.1) hy hR, hnm, hts _ hw.1⟩ ⟨ZiV_blind, fun U hU hW => ⟨rfl, by rw [hU]; exact hpre, va_K.moved hW.alike hK, fun q hq => va_Nw.warmM hW (hN q hq), zAO.moved hW.alike hAO⟩⟩ rfl rfl (by rw [hl.1, hnl]) rfl (lv_room hrest) hd hkR) hS (fun q _ h => hfree q h) hfree (fun u t H1 locs1 ht hvm hr hB hz1 hk1 hS1 => ?_)
  refine kk H1 locs1 ls ?_ hS1 hl
  exact zBw.app had hP hk1 (by rw [← ht]; exact hB) hσ
theorem zo_i : Cond.instanceMethod Lib.objectInit ∈ zT ∧ Cond.code Lib.objectInit ⟨#[0xb1]⟩ 1 none ∈ zT := ⟨zT_of (i := 149) (by decide +kernel) rfl, zT_of (i := 150) (by decide +kernel) rfl⟩
theorem za_byte : Cond.arrayClass .byte ∈ zT := zT_of (i := 184) (by decide +kernel) rfl
theorem za_int : Cond.arrayClass .int ∈ zT := zT_of (i := 219) (by decide +kernel) rfl
theorem zn_0 : Cond.instantiable RX0 3 ∈ zT ∧ Cond.initialized RX0 ∈ zT := ⟨zT_of (i := 445) (by decide +kernel) rfl, zT_of (i := 131) (by decide +kernel) rfl⟩
theorem zf_0 (ad : Nat → Nat) (j : Nat) (hj : j < 3) : defaultValue (tyX0 j) = vp_V (([none, some none, some none] : List (Option (Option Nat))).mapIdx (zvl ad (fun _ => 0))) j := zf_of (by decide +kernel) (by decide +kernel) ad j hj
abbrev fk_0 : Kd := .inl (0, [none, some none, some none])
theorem zg_0 (cs : Nat → ClassId) (ad ad' : Nat → Nat) : zce cs ad (fun _ => 0) fk_0 = zce cs ad' (fun _ => 0) fk_0 := rfl
theorem zn_1 : Cond.instantiable RX1 3 ∈ zT ∧ Cond.initialized RX1 ∈ zT := ⟨zT_of (i := 325) (by decide +kernel) rfl, zT_of (i := 128) (by decide +kernel) rfl⟩
theorem zf_1 (ad : Nat → Nat) (j : Nat) (hj : j < 3) : defaultValue (tyX1 j) = vp_V (([some none, some none, some none] : List (Option (Option Nat))).mapIdx (zvl ad (fun _ => 0))) j := zf_of (by decide +kernel) (by decide +kernel) ad j hj
abbrev fk_1 : Kd := .inl (1, [some none, some none, some none])
theorem zg_1 (cs : Nat → ClassId) (ad ad' : Nat → Nat) : zce cs ad (fun _ => 0) fk_1 = zce cs ad' (fun _ => 0) fk_1 := rfl
theorem zn_2 : Cond.instantiable RX2 7 ∈ zT ∧ Cond.initialized RX2 ∈ zT := ⟨zT_of (i := 337) (by decide +kernel) rfl, zT_of (i := 130) (by decide +kernel) rfl⟩
theorem zf_2 (ad : Nat → Nat) (j : Nat) (hj : j < 7) : defaultValue (tyX2 j) = vp_V (([some none, some none, some none, some none, some none, some none, some none] : List (Option (Option Nat))).mapIdx (zvl ad (fun _ => 0))) j := zf_of (by decide +kernel) (by decide +kernel) ad j hj
abbrev fk_2 : Kd := .inl (2, [some none, some none, some none, some none, some none, some none, some none])
theorem zg_2 (cs : Nat → ClassId) (ad ad' : Nat → Nat) : zce cs ad (fun _ => 0) fk_2 = zce cs ad' (fun _ => 0) fk_2 := rfl
theorem zn_3 : Cond.instantiable RX3 4 ∈ zT ∧ Cond.initialized RX3 ∈ zT := ⟨zT_of (i := 194) (by decide +kernel) rfl, zT_of (i := 126) (by decide +kernel) rfl⟩
theorem zf_3 (ad : Nat → Nat) (j : Nat) (hj : j < 4) : defaultValue (tyX3 j) = vp_V (([none, some none, some none, some none] : List (Option (Option Nat))).mapIdx (zvl ad (fun _ => 0))) j := zf_of (by decide +kernel) (by decide +kernel) ad j hj
abbrev fk_3 : Kd := .inl (3, [none, some none, some none, some none])
theorem zg_3 (cs : Nat → ClassId) (ad ad' : Nat → Nat) : zce cs ad (fun _ => 0) fk_3 = zce cs ad' (fun _ => 0) fk_3 := rfl
theorem zn_4 : Cond.instantiable RX4 8 ∈ zT ∧ Cond.initialized RX4 ∈ zT := ⟨zT_of (i := 478) (by decide +kernel) rfl, zT_of (i := 132) (by decide +kernel) rfl⟩
theorem zf_4 (ad : Nat → Nat) (j : Nat) (hj : j < 8) : defaultValue (tyX4 j) = vp_V (([some none, some none, some none, some none, some none, none, none, none] : List (Option (Option Nat))).mapIdx (zvl ad (fun _ => 0))) j := zf_of (by decide +kernel) (by decide +kernel) ad j hj
abbrev fk_4 : Kd := .inl (4, [some none, some none, some none, some none, some none, none, none, none])
theorem zg_4 (cs : Nat → ClassId) (ad ad' : Nat → Nat) : zce cs ad (fun _ => 0) fk_4 = zce cs ad' (fun _ => 0) fk_4 := rfl
theorem zn_5 : Cond.instantiable RX5 8 ∈ zT ∧ Cond.initialized RX5 ∈ zT := ⟨zT_of (i := 152) (by decide +kernel) rfl, zT_of (i := 124) (by decide +kernel) rfl⟩
theorem zf_5 (ad : Nat → Nat) (j : Nat) (hj : j < 8) : defaultValue (tyX5 j) = vp_V (([some none, none, none, none, none, some none, none, none] : List (Option (Option Nat))).mapIdx (zvl ad (fun _ => 0))) j := zf_of (by decide +kernel) (by decide +kernel) ad j hj
abbrev fk_5 : Kd := .inl (5, [some none, none, none, none, none, some none, none, none])
theorem zg_5 (cs : Nat → ClassId) (ad ad' : Nat → Nat) : zce cs ad (fun _ => 0) fk_5 = zce cs ad' (fun _ => 0) fk_5 := rfl
theorem zn_6 : Cond.instantiable RX6 5 ∈ zT ∧ Cond.initialized RX6 ∈ zT := ⟨zT_of (i := 488) (by decide +kernel) rfl, zT_of (i := 133) (by decide +kernel) rfl⟩
theorem zf_6 (ad : Nat → Nat) (j : Nat) (hj : j < 5) : defaultValue (tyX6 j) = vp_V (([none, none, none, some none, some none] : List (Option (Option Nat))).mapIdx (zvl ad (fun _ => 0))) j := zf_of (by decide +kernel) (by decide +kernel) ad j hj
abbrev fk_6 : Kd := .inl (6, [none, none, none, some none, some none])
theorem zg_6 (cs : Nat → ClassId) (ad ad' : Nat → Nat) : zce cs ad (fun _ => 0) fk_6 = zce cs ad' (fun _ => 0) fk_6 := rfl
theorem zn_7 : Cond.instantiable RX7 7 ∈ zT ∧ Cond.initialized RX7 ∈ zT := ⟨zT_of (i := 543) (by decide +kernel) rfl, zT_of (i := 134) (by decide +kernel) rfl⟩
theorem zf_7 (ad : Nat → Nat) (j : Nat) (hj : j < 7) : defaultValue (tyX7 j) = vp_V (([none, none, some none, some none, none, some none, some none] : List (Option (Option Nat))).mapIdx (zvl ad (fun _ => 0))) j := zf_of (by decide +kernel) (by decide +kernel) ad j hj
abbrev fk_7 : Kd := .inl (7, [none, none, some none, some none, none, some none, some none])
theorem zg_7 (cs : Nat → ClassId) (ad ad' : Nat → Nat) : zce cs ad (fun _ => 0) fk_7 = zce cs ad' (fun _ => 0) fk_7 := rfl
theorem zn_8 : Cond.instantiable RX8 4 ∈ zT ∧ Cond.initialized RX8 ∈ zT := ⟨zT_of (i := 221) (by decide +kernel) rfl, zT_of (i := 127) (by decide +kernel) rfl⟩
theorem zf_8 (ad : Nat → Nat) (j : Nat) (hj : j < 4) : defaultValue (tyX8 j) = vp_V (([none, some none, some none, some none] : List (Option (Option Nat))).mapIdx (zvl ad (fun _ => 0))) j := zf_of (by decide +kernel) (by decide +kernel) ad j hj
abbrev fk_8 : Kd := .inl (8, [none, some none, some none, some none])
theorem zg_8 (cs : Nat → ClassId) (ad ad' : Nat → Nat) : zce cs ad (fun _ => 0) fk_8 = zce cs ad' (fun _ => 0) fk_8 := rfl
theorem zn_9 : Cond.instantiable RX9 12 ∈ zT ∧ Cond.initialized RX9 ∈ zT := ⟨zT_of (i := 331) (by decide +kernel) rfl, zT_of (i := 129) (by decide +kernel) rfl⟩
theorem zf_9 (ad : Nat → Nat) (j : Nat) (hj : j < 12) : defaultValue (tyX9 j) = vp_V (([none, none, none, some none, some none, some none, some none, some none, some none, some none, some none, some none] : List (Option (Option Nat))).mapIdx (zvl ad (fun _ => 0))) j := zf_of (by decide +kernel) (by decide +kernel) ad j hj
abbrev fk_9 : Kd := .inl (9, [none, none, none, some none, some none, some none, some none, some none, some none, some none, some none, some none])
theorem zg_9 (cs : Nat → ClassId) (ad ad' : Nat → Nat) : zce cs ad (fun _ => 0) fk_9 = zce cs ad' (fun _ => 0) fk_9 := rfl
theorem zn_10 : Cond.instantiable RX10 13 ∈ zT ∧ Cond.initialized RX10 ∈ zT := ⟨zT_of (i := 186) (by decide +kernel) rfl, zT_of (i := 125) (by decide +kernel) rfl⟩
theorem zf_10 (ad : Nat → Nat) (j : Nat) (hj : j < 13) : defaultValue (tyX10 j) = vp_V (([none, none, none, none, some none, some none, some none, none, some none, some none, some none, some none, some none] : List (Option (Option Nat))).mapIdx (zvl ad (fun _ => 0))) j := zf_of (by decide +kernel) (by decide +kernel) ad j hj
abbrev fk_10 : Kd := .inl (10, [none, none, none, none, some none, some none, some none, none, some none, some none, some none, some none, some none])
theorem zg_10 (cs : Nat → ClassId) (ad ad' : Nat → Nat) : zce cs ad (fun _ => 0) fk_10 = zce cs ad' (fun _ => 0) fk_10 := rfl
theorem zn_11 : Cond.instantiable RX11 16 ∈ zT ∧ Cond.initialized RX11 ∈ zT := ⟨zT_of (i := 144) (by decide +kernel) rfl, zT_of (i := 123) (by decide +kernel) rfl⟩
theorem zf_11 (ad : Nat → Nat) (j : Nat) (hj : j < 16) : defaultValue (tyX11 j) = vp_V (([some none, none, some none, some none, some none, none, none, none, some none, some none, none, none, some none, some none, none, some none] : List (Option (Option Nat))).mapIdx (zvl ad (fun _ => 0))) j := zf_of (by decide +kernel) (by decide +kernel) ad j hj
abbrev fk_11 : Kd := .inl (11, [some none, none, some none, some none, some none, none, none, none, some none, some none, none, none, some none, some none, none, some none])
theorem zg_11 (cs : Nat → ClassId) (ad ad' : Nat → Nat) : zce cs ad (fun _ => 0) fk_11 = zce cs ad' (fun _ => 0) fk_11 := rfl
theorem zn_12 : Cond.instantiable RX12 49 ∈ zT ∧ Cond.initialized RX12 ∈ zT := ⟨zT_of (i := 1394) (by decide +kernel) rfl, zT_of (i := 135) (by decide +kernel) rfl⟩
theorem zf_12 (ad : Nat → Nat) (j : Nat) (hj : j < 49) : defaultValue (tyX12 j) = vp_V (([none, none, none, some none, some none, some none, some none, some none, none, none, none, none, none, none, some none, some none, some none, some none, some none, some none, some none, some none, some none, none, none, none, none, some none, none, some none, none, none, none, none, none, none, none, some none, some none, some none, some none, some none, some none, none, none, some none, some none, some none, some none] : List (Option (Option Nat))).mapIdx (zvl ad (fun _ => 0))) j := zf_of (by decide +kernel) (by decide +kernel) ad j hj
abbrev fk_12 : Kd := .inl (12, [none, none, none, some none, some none, some none, some none, some none, none, none, none, none, none, none, some none, some none, some none, some none, some none, some none, some none, some none, some none, none, none, none, none, some none, none, some none, none, none, none, none, none, none, none, some none, some none, some none, some none, some none, some none, none, none, some none, some none, some none, some none])
theorem zg_12 (cs : Nat → ClassId) (ad ad' : Nat → Nat) : zce cs ad (fun _ => 0) fk_12 = zce cs ad' (fun _ => 0) fk_12 := rfl
theorem dX5_init_0 : decode cX5_init 0 = .ok (.aload_n 0, 1) := by decide +kernel
theorem dX5_init_1 : decode cX5_init 1 = .ok (.invokespecial 3, 3) := by decide +kernel
theorem dX5_init_4 : decode cX5_init 4 = .ok (.return_, 1) := by decide +kernel
theorem mo_5_3 : Cond.methodLink RX5 3 Lib.objectInit ∈ zT := zT_of (i := 156) (by decide +kernel) rfl
abbrev rm_Reader_init : Room := { frames := 1, cells := 0, slots := 0, locals := 12 }
def ks_Reader_init : List Kd := [.inl (5, [some none, none, none, none, none, some none, none, none])]
theorem w_Reader_init : Cond.instanceMethod yX5_init ∈ zT ∧ Cond.initialized yX5_init.cls ∈ zT ∧ Cond.code yX5_init cX5_init 1 none ∈ zT := ⟨zT_of (i := 154) (by decide +kernel) rfl, zT_of (i := 124) (by decide +kernel) rfl, zT_of (i := 155) (by decide +kernel) rfl⟩
theorem hy_Reader_init : yX5_init.cls ≠ "java/lang/invoke/MethodHandle" ∧ yX5_init.cls ≠ "java/lang/invoke/VarHandle" ∧ (parseMethodDescriptor yX5_init.desc).map (fun d => d.parameters.length) = some 0 := by decide +kernel
set_option maxRecDepth 100000 in
set_option maxHeartbeats 4000000 in
theorem c_Reader_init : ZiV yX5_init cX5_init 1 rm_Reader_init fk_5 ks_Reader_init zz0 0 0 :=
  zmetB pn_5 rfl rfl (by decide) (fun X Q ok hr => by
    refine zB_aload ok dX5_init_0 0 rfl ?_
    refine zB_obj ok mo_5_3 zo_i.1 zo_i.2 (Nat.le_of_ble_eq_true rfl) (Nat.le_of_ble_eq_true rfl) dX5_init_1 ?_
    exact hr _ _ dX5_init_4)
theorem dX3_init_0 : decode cX3_init 0 = .ok (.aload_n 0, 1) := by decide +kernel
theorem dX3_init_1 : decode cX3_init 1 = .ok (.invokespecial 3, 3) := by decide +kernel
theorem dX3_init_4 : decode cX3_init 4 = .ok (.aload_n 0, 1) := by decide +kernel
theorem dX3_init_5 : decode cX3_init 5 = .ok (.bipush 16, 2) := by decide +kernel
theorem dX3_init_7 : decode cX3_init 7 = .ok (.newarray .int, 2) := by decide +kernel
theorem dX3_init_9 : decode cX3_init 9 = .ok (.putfield 9, 3) := by decide +kernel
theorem dX3_init_12 : decode cX3_init 12 = .ok (.aload_n 0, 1) := by decide +kernel
theorem dX3_init_13 : decode cX3_init 13 = .ok (.bipush 16, 2) := by decide +kernel
theorem dX3_init_15 : decode cX3_init 15 = .ok (.newarray .int, 2) := by decide +kernel
theorem dX3_init_17 : decode cX3_init 17 = .ok (.putfield 15, 3) := by decide +kernel
theorem dX3_init_20 : decode cX3_init 20 = .ok (.aload_n 0, 1) := by decide +kernel
theorem dX3_init_21 : decode cX3_init 21 = .ok (.bipush 16, 2) := by decide +kernel
theorem dX3_init_23 : decode cX3_init 23 = .ok (.newarray .int, 2) := by decide +kernel
theorem dX3_init_25 : decode cX3_init 25 = .ok (.putfield 18, 3) := by decide +kernel
theorem dX3_init_28 : decode cX3_init 28 = .ok (.return_, 1) := by decide +kernel
theorem mo_3_3 : Cond.methodLink RX3 3 Lib.objectInit ∈ zT := zT_of (i := 198) (by decide +kernel) rfl
theorem fi_3_9 : Cond.fieldLink RX3 9 (TX3 1).1 (TX3 1).2.1 (TX3 1).2.2.1 ∈ zT := zT_of (i := 203) (by decide +kernel) rfl
theorem fi_3_15 : Cond.fieldLink RX3 15 (TX3 2).1 (TX3 2).2.1 (TX3 2).2.2.1 ∈ zT := zT_of (i := 205) (by decide +kernel) rfl
theorem fi_3_18 : Cond.fieldLink RX3 18 (TX3 3).1 (TX3 3).2.1 (TX3 3).2.2.1 ∈ zT := zT_of (i := 208) (by decide +kernel) rfl
abbrev rm_Orders_init : Room := { frames := 1, cells := 3, slots := 48, locals := 12 }
def ks_Orders_init : List Kd := [.inl (3, [none, some (some (1)), some (some (2)), some (some (3))]), .inr (0, 16, []), .inr (0, 16, []), .inr (0, 16, [])]
theorem w_Orders_init : Cond.instanceMethod yX3_init ∈ zT ∧ Cond.initialized yX3_init.cls ∈ zT ∧ Cond.code yX3_init cX3_init 1 none ∈ zT := ⟨zT_of (i := 196) (by decide +kernel) rfl, zT_of (i := 126) (by decide +kernel) rfl, zT_of (i := 197) (by decide +kernel) rfl⟩
theorem hy_Orders_init : yX3_init.cls ≠ "java/lang/invoke/MethodHandle" ∧ yX3_init.cls ≠ "java/lang/invoke/VarHandle" ∧ (parseMethodDescriptor yX3_init.desc).map (fun d => d.parameters.length) = some 0 := by decide +kernel
set_option maxRecDepth 100000 in
set_option maxHeartbeats 4000000 in
theorem c_Orders_init : ZiV yX3_init cX3_init 1 rm_Orders_init fk_3 ks_Orders_init zz0 3 48 :=
  zmetB pn_3 rfl rfl (by decide) (fun X Q ok hr => by
    refine zB_aload ok dX3_init_0 0 rfl ?_
    refine zB_obj ok mo_3_3 zo_i.1 zo_i.2 (Nat.le_of_ble_eq_true rfl) (Nat.le_of_ble_eq_true rfl) dX3_init_1 ?_
    refine zB_aload ok dX3_init_4 0 rfl ?_
    refine zB_bipush (v := 16) ok dX3_init_5 (by decide) ?_
    refine zB_newan (n := 16) (t := 0) 1 rfl ok (by simp) za_int (by decide) (by decide) rfl ⟨Nat.le_of_ble_eq_true rfl, Nat.le_of_ble_eq_true rfl⟩ dX3_init_7 ?_
    refine zB_ks (ks' := [.inl (3, [none, some none, some none, some none]), .inr (0, 16, [])]) rfl ?_
    refine zB_putF (ci := 3) (q := 1) ok rfl zc_3 hin_3 tyX3 tyX3_ok nmX3 (s := 1) (by decide) fi_3_9 ⟨rfl, rfl⟩ (tyX3_ok 1 (by decide)) rfl rfl (by decide) dX3_init_9 ?_
    refine zB_ks (ks' := [.inl (3, [none, some (some (1)), some none, some none]), .inr (0, 16, [])]) rfl ?_
    refine zB_aload ok dX3_init_12 0 rfl ?_
    refine zB_bipush (v := 16) ok dX3_init_13 (by decide) ?_
    refine zB_newan (n := 16) (t := 0) 2 rfl ok (by simp) za_int (by decide) (by decide) rfl ⟨Nat.le_of_ble_eq_true rfl, Nat.le_of_ble_eq_true rfl⟩ dX3_init_15 ?_
    refine zB_ks (ks' := [.inl (3, [none, some (some (1)), some none, some none]), .inr (0, 16, []), .inr (0, 16, [])]) rfl ?_
    refine zB_putF (ci := 3) (q := 2) ok rfl zc_3 hin_3 tyX3 tyX3_ok nmX3 (s := 2) (by decide) fi_3_15 ⟨rfl, rfl⟩ (tyX3_ok 2 (by decide)) rfl rfl (by decide) dX3_init_17 ?_
    refine zB_ks (ks' := [.inl (3, [none, some (some (1)), some (some (2)), some none]), .inr (0, 16, []), .inr (0, 16, [])]) rfl ?_
    refine zB_aload ok dX3_init_20 0 rfl ?_
    refine zB_bipush (v := 16) ok dX3_init_21 (by decide) ?_
    refine zB_newan (n := 16) (t := 0) 3 rfl ok (by simp) za_int (by decide) (by decide) rfl ⟨Nat.le_of_ble_eq_true rfl, Nat.le_of_ble_eq_true rfl⟩ dX3_init_23 ?_
    refine zB_ks (ks' := [.inl (3, [none, some (some (1)), some (some (2)), some none]), .inr (0, 16, []), .inr (0, 16, []), .inr (0, 16, [])]) rfl ?_
    refine zB_putF (ci := 3) (q := 3) ok rfl zc_3 hin_3 tyX3 tyX3_ok nmX3 (s := 3) (by decide) fi_3_18 ⟨rfl, rfl⟩ (tyX3_ok 3 (by decide)) rfl rfl (by decide) dX3_init_25 ?_
    refine zB_ks (ks' := [.inl (3, [none, some (some (1)), some (some (2)), some (some (3))]), .inr (0, 16, []), .inr (0, 16, []), .inr (0, 16, [])]) rfl ?_
    exact hr _ _ dX3_init_28)
theorem dX8_init_0 : decode cX8_init 0 = .ok (.aload_n 0, 1) := by decide +kernel
theorem dX8_init_1 : decode cX8_init 1 = .ok (.invokespecial 3, 3) := by decide +kernel
theorem dX8_init_4 : decode cX8_init 4 = .ok (.aload_n 0, 1) := by decide +kernel
theorem dX8_init_5 : decode cX8_init 5 = .ok (.iconst 2, 1) := by decide +kernel
theorem dX8_init_6 : decode cX8_init 6 = .ok (.newarray .int, 2) := by decide +kernel
theorem dX8_init_8 : decode cX8_init 8 = .ok (.putfield 9, 3) := by decide +kernel
theorem dX8_init_11 : decode cX8_init 11 = .ok (.aload_n 0, 1) := by decide +kernel
theorem dX8_init_12 : decode cX8_init 12 = .ok (.iconst 2, 1) := by decide +kernel
theorem dX8_init_13 : decode cX8_init 13 = .ok (.newarray .int, 2) := by decide +kernel
theorem dX8_init_15 : decode cX8_init 15 = .ok (.putfield 15, 3) := by decide +kernel
theorem dX8_init_18 : decode cX8_init 18 = .ok (.aload_n 0, 1) := by decide +kernel
theorem dX8_init_19 : decode cX8_init 19 = .ok (.iconst 2, 1) := by decide +kernel
theorem dX8_init_20 : decode cX8_init 20 = .ok (.bipush 6, 2) := by decide +kernel
theorem dX8_init_22 : decode cX8_init 22 = .ok (.multianewarray 18 2, 4) := by decide +kernel
theorem dX8_init_26 : decode cX8_init 26 = .ok (.putfield 20, 3) := by decide +kernel
theorem dX8_init_29 : decode cX8_init 29 = .ok (.return_, 1) := by decide +kernel
theorem mo_8_3 : Cond.methodLink RX8 3 Lib.objectInit ∈ zT := zT_of (i := 225) (by decide +kernel) rfl
theorem fi_8_9 : Cond.fieldLink RX8 9 (TX8 1).1 (TX8 1).2.1 (TX8 1).2.2.1 ∈ zT := zT_of (i := 230) (by decide +kernel) rfl
theorem fi_8_15 : Cond.fieldLink RX8 15 (TX8 2).1 (TX8 2).2.1 (TX8 2).2.2.1 ∈ zT := zT_of (i := 232) (by decide +kernel) rfl
theorem cl_8_18 : Cond.classLink RX8 18 ("[" ++ (FieldType.array .int).toString) ∈ zT := zT_of (i := 226) (by decide +kernel) rfl
theorem fi_8_20 : Cond.fieldLink RX8 20 (TX8 3).1 (TX8 3).2.1 (TX8 3).2.2.1 ∈ zT := zT_of (i := 234) (by decide +kernel) rfl
abbrev rm_Turns_init : Room := { frames := 1, cells := 5, slots := 18, locals := 12 }
def ks_Turns_init : List Kd := [.inl (8, [none, some (some (1)), some (some (2)), some (some (3))]), .inr (0, 2, []), .inr (0, 2, []), .inr (2, 2, [4, 5]), .inr (0, 6, []), .inr (0, 6, [])]
theorem w_Turns_init : Cond.instanceMethod yX8_init ∈ zT ∧ Cond.initialized yX8_init.cls ∈ zT ∧ Cond.code yX8_init cX8_init 1 none ∈ zT := ⟨zT_of (i := 223) (by decide +kernel) rfl, zT_of (i := 127) (by decide +kernel) rfl, zT_of (i := 224) (by decide +kernel) rfl⟩
theorem hy_Turns_init : yX8_init.cls ≠ "java/lang/invoke/MethodHandle" ∧ yX8_init.cls ≠ "java/lang/invoke/VarHandle" ∧ (parseMethodDescriptor yX8_init.desc).map (fun d => d.parameters.length) = some 0 := by decide +kernel
set_option maxRecDepth 100000 in
set_option maxHeartbeats 4000000 in
theorem c_Turns_init : ZiV yX8_init cX8_init 1 rm_Turns_init fk_8 ks_Turns_init zz0 5 18 :=
  zmetB pn_8 rfl rfl (by decide) (fun X Q ok hr => by
    refine zB_aload ok dX8_init_0 0 rfl ?_
    refine zB_obj ok mo_8_3 zo_i.1 zo_i.2 (Nat.le_of_ble_eq_true rfl) (Nat.le_of_ble_eq_true rfl) dX8_init_1 ?_
    refine zB_aload ok dX8_init_4 0 rfl ?_
    refine zB_iconst (v := 2) ok dX8_init_5 (by decide) ?_
    refine zB_newan (n := 2) (t := 0) 1 rfl ok (by simp) za_int (by decide) (by decide) rfl ⟨Nat.le_of_ble_eq_true rfl, Nat.le_of_ble_eq_true rfl⟩ dX8_init_6 ?_
    refine zB_ks (ks' := [.inl (8, [none, some none, some none, some none]), .inr (0, 2, [])]) rfl ?_
    refine zB_putF (ci := 8) (q := 1) ok rfl zc_8 hin_8 tyX8 tyX8_ok nmX8 (s := 1) (by decide) fi_8_9 ⟨rfl, rfl⟩ (tyX8_ok 1 (by decide)) rfl rfl (by decide) dX8_init_8 ?_
    refine zB_ks (ks' := [.inl (8, [none, some (some (1)), some none, some none]), .inr (0, 2, [])]) rfl ?_
    refine zB_aload ok dX8_init_11 0 rfl ?_
    refine zB_iconst (v := 2) ok dX8_init_12 (by decide) ?_
    refine zB_newan (n := 2) (t := 0) 2 rfl ok (by simp) za_int (by decide) (by decide) rfl ⟨Nat.le_of_ble_eq_true rfl, Nat.le_of_ble_eq_true rfl⟩ dX8_init_13 ?_
    refine zB_ks (ks' := [.inl (8, [none, some (some (1)), some none, some none]), .inr (0, 2, []), .inr (0, 2, [])]) rfl ?_
    refine zB_putF (ci := 8) (q := 2) ok rfl zc_8 hin_8 tyX8 tyX8_ok nmX8 (s := 2) (by decide) fi_8_15 ⟨rfl, rfl⟩ (tyX8_ok 2 (by decide)) rfl rfl (by decide) dX8_init_15 ?_
    refine zB_ks (ks' := [.inl (8, [none, some (some (1)), some (some (2)), some none]), .inr (0, 2, []), .inr (0, 2, [])]) rfl ?_
    refine zB_aload ok dX8_init_18 0 rfl ?_
    refine zB_iconst (v := 2) ok dX8_init_19 (by decide) ?_
    refine zB_bipush (v := 6) ok dX8_init_20 (by decide) ?_
    refine zB_mnan (N := 2) (K := 6) (t := 0) (ty := .int) 3 rfl ok (by simp) cl_8_18 za_int (by decide) (by decide) (by decide) (fun _ _ => rfl) ⟨Nat.le_of_ble_eq_true rfl, Nat.le_of_ble_eq_true rfl⟩ dX8_init_22 ?_
    refine zB_ks (ks' := [.inl (8, [none, some (some (1)), some (some (2)), some none]), .inr (0, 2, []), .inr (0, 2, []), .inr (2, 2, [4, 5]), .inr (0, 6, []), .inr (0, 6, [])]) rfl ?_
    refine zB_putF (ci := 8) (q := 3) ok rfl zc_8 hin_8 tyX8 tyX8_ok nmX8 (s := 3) (by decide) fi_8_20 ⟨rfl, rfl⟩ (tyX8_ok 3 (by decide)) rfl rfl (by decide) dX8_init_26 ?_
    refine zB_ks (ks' := [.inl (8, [none, some (some (1)), some (some (2)), some (some (3))]), .inr (0, 2, []), .inr (0, 2, []), .inr (2, 2, [4, 5]), .inr (0, 6, []), .inr (0, 6, [])]) rfl ?_
    exact hr _ _ dX8_init_29)
theorem dX10_init_0 : decode cX10_init 0 = .ok (.aload_n 0, 1) := by decide +kernel
theorem dX10_init_1 : decode cX10_init 1 = .ok (.invokespecial 3, 3) := by decide +kernel
theorem dX10_init_4 : decode cX10_init 4 = .ok (.aload_n 0, 1) := by decide +kernel
theorem dX10_init_5 : decode cX10_init 5 = .ok (.bipush 8, 2) := by decide +kernel
theorem dX10_init_7 : decode cX10_init 7 = .ok (.newarray .int, 2) := by decide +kernel
theorem dX10_init_9 : decode cX10_init 9 = .ok (.putfield 9, 3) := by decide +kernel
theorem dX10_init_12 : decode cX10_init 12 = .ok (.aload_n 0, 1) := by decide +kernel
theorem dX10_init_13 : decode cX10_init 13 = .ok (.bipush 9, 2) := by decide +kernel
theorem dX10_init_15 : decode cX10_init 15 = .ok (.bipush 8, 2) := by decide +kernel
theorem dX10_init_17 : decode cX10_init 17 = .ok (.multianewarray 15 2, 4) := by decide +kernel
theorem dX10_init_21 : decode cX10_init 21 = .ok (.putfield 17, 3) := by decide +kernel
theorem dX10_init_24 : decode cX10_init 24 = .ok (.aload_n 0, 1) := by decide +kernel
theorem dX10_init_25 : decode cX10_init 25 = .ok (.bipush 8, 2) := by decide +kernel
theorem dX10_init_27 : decode cX10_init 27 = .ok (.newarray .int, 2) := by decide +kernel
theorem dX10_init_29 : decode cX10_init 29 = .ok (.putfield 20, 3) := by decide +kernel
theorem dX10_init_32 : decode cX10_init 32 = .ok (.aload_n 0, 1) := by decide +kernel
theorem dX10_init_33 : decode cX10_init 33 = .ok (.bipush 10, 2) := by decide +kernel
theorem dX10_init_35 : decode cX10_init 35 = .ok (.newarray .int, 2) := by decide +kernel
theorem dX10_init_37 : decode cX10_init 37 = .ok (.putfield 23, 3) := by decide +kernel
theorem dX10_init_40 : decode cX10_init 40 = .ok (.aload_n 0, 1) := by decide +kernel
theorem dX10_init_41 : decode cX10_init 41 = .ok (.bipush 10, 2) := by decide +kernel
theorem dX10_init_43 : decode cX10_init 43 = .ok (.newarray .int, 2) := by decide +kernel
theorem dX10_init_45 : decode cX10_init 45 = .ok (.putfield 26, 3) := by decide +kernel
theorem dX10_init_48 : decode cX10_init 48 = .ok (.aload_n 0, 1) := by decide +kernel
theorem dX10_init_49 : decode cX10_init 49 = .ok (.bipush 10, 2) := by decide +kernel
theorem dX10_init_51 : decode cX10_init 51 = .ok (.newarray .int, 2) := by decide +kernel
theorem dX10_init_53 : decode cX10_init 53 = .ok (.putfield 29, 3) := by decide +kernel
theorem dX10_init_56 : decode cX10_init 56 = .ok (.aload_n 0, 1) := by decide +kernel
theorem dX10_init_57 : decode cX10_init 57 = .ok (.new 32, 3) := by decide +kernel
theorem dX10_init_60 : decode cX10_init 60 = .ok (.dup, 1) := by decide +kernel
theorem dX10_init_61 : decode cX10_init 61 = .ok (.invokespecial 34, 3) := by decide +kernel
theorem dX10_init_64 : decode cX10_init 64 = .ok (.putfield 35, 3) := by decide +kernel
theorem dX10_init_67 : decode cX10_init 67 = .ok (.aload_n 0, 1) := by decide +kernel
theorem dX10_init_68 : decode cX10_init 68 = .ok (.new 39, 3) := by decide +kernel
theorem dX10_init_71 : decode cX10_init 71 = .ok (.dup, 1) := by decide +kernel
theorem dX10_init_72 : decode cX10_init 72 = .ok (.invokespecial 41, 3) := by decide +kernel
theorem dX10_init_75 : decode cX10_init 75 = .ok (.putfield 42, 3) := by decide +kernel
theorem dX10_init_78 : decode cX10_init 78 = .ok (.return_, 1) := by decide +kernel
theorem mo_10_3 : Cond.methodLink RX10 3 Lib.objectInit ∈ zT := zT_of (i := 190) (by decide +kernel) rfl
theorem fi_10_9 : Cond.fieldLink RX10 9 (TX10 4).1 (TX10 4).2.1 (TX10 4).2.2.1 ∈ zT := zT_of (i := 261) (by decide +kernel) rfl
theorem cl_10_15 : Cond.classLink RX10 15 ("[" ++ (FieldType.array .int).toString) ∈ zT := zT_of (i := 191) (by decide +kernel) rfl
theorem fi_10_17 : Cond.fieldLink RX10 17 (TX10 5).1 (TX10 5).2.1 (TX10 5).2.2.1 ∈ zT := zT_of (i := 264) (by decide +kernel) rfl
theorem fi_10_20 : Cond.fieldLink RX10 20 (TX10 6).1 (TX10 6).2.1 (TX10 6).2.2.1 ∈ zT := zT_of (i := 270) (by decide +kernel) rfl
theorem fi_10_23 : Cond.fieldLink RX10 23 (TX10 8).1 (TX10 8).2.1 (TX10 8).2.2.1 ∈ zT := zT_of (i := 279) (by decide +kernel) rfl
theorem fi_10_26 : Cond.fieldLink RX10 26 (TX10 9).1 (TX10 9).2.1 (TX10 9).2.2.1 ∈ zT := zT_of (i := 282) (by decide +kernel) rfl
theorem fi_10_29 : Cond.fieldLink RX10 29 (TX10 10).1 (TX10 10).2.1 (TX10 10).2.2.1 ∈ zT := zT_of (i := 287) (by decide +kernel) rfl
theorem cl_10_32 : Cond.classLink RX10 32 RX3 ∈ zT := zT_of (i := 193) (by decide +kernel) rfl
theorem fi_10_35 : Cond.fieldLink RX10 35 (TX10 11).1 (TX10 11).2.1 (TX10 11).2.2.1 ∈ zT := zT_of (i := 292) (by decide +kernel) rfl
theorem cl_10_39 : Cond.classLink RX10 39 RX8 ∈ zT := zT_of (i := 220) (by decide +kernel) rfl
theorem fi_10_42 : Cond.fieldLink RX10 42 (TX10 12).1 (TX10 12).2.1 (TX10 12).2.2.1 ∈ zT := zT_of (i := 295) (by decide +kernel) rfl
abbrev rm_Works_init : Room := { frames := 2, cells := 25, slots := 201, locals := 32 }
def ks_Works_init : List Kd := [.inl (10, [none, none, none, none, some (some (1)), some (some (2)), some (some (12)), none, some (some (13)), some (some (14)), some (some (15)), some (some (16)), some (some (20))]), .inr (0, 8, []), .inr (2, 9, [3, 4, 5, 6, 7, 8, 9, 10, 11]), .inr (0, 8, []), .inr (0, 8, []), .inr (0, 8, []), .inr (0, 8, []), .inr (0, 8, []), .inr (0, 8, []), .inr (0, 8, []), .inr (0, 8, []), .inr (0, 8, []), .inr (0, 8, []), .inr (0, 10, []), .inr (0, 10, []), .inr (0, 10, []), .inl (3, [none, some (some (17)), some (some (18)), some (some (19))]), .inr (0, 16, []), .inr (0, 16, []), .inr (0, 16, []), .inl (8, [none, some (some (21)), some (some (22)), some (some (23))]), .inr (0, 2, []), .inr (0, 2, []), .inr (2, 2, [24, 25]), .inr (0, 6, []), .inr (0, 6, [])]
theorem w_Works_init : Cond.instanceMethod yX10_init ∈ zT ∧ Cond.initialized yX10_init.cls ∈ zT ∧ Cond.code yX10_init cX10_init 1 none ∈ zT := ⟨zT_of (i := 188) (by decide +kernel) rfl, zT_of (i := 125) (by decide +kernel) rfl, zT_of (i := 189) (by decide +kernel) rfl⟩
theorem hy_Works_init : yX10_init.cls ≠ "java/lang/invoke/MethodHandle" ∧ yX10_init.cls ≠ "java/lang/invoke/VarHandle" ∧ (parseMethodDescriptor yX10_init.desc).map (fun d => d.parameters.length) = some 0 := by decide +kernel
set_option maxRecDepth 100000 in
set_option maxHeartbeats 4000000 in
theorem c_Works_init : ZiV yX10_init cX10_init 1 rm_Works_init fk_10 ks_Works_init zz0 25 201 :=
  zmetB pn_10 rfl rfl (by decide) (fun X Q ok hr => by
    refine zB_aload ok dX10_init_0 0 rfl ?_
    refine zB_obj ok mo_10_3 zo_i.1 zo_i.2 (Nat.le_of_ble_eq_true rfl) (Nat.le_of_ble_eq_true rfl) dX10_init_1 ?_
    refine zB_aload ok dX10_init_4 0 rfl ?_
    refine zB_bipush (v := 8) ok dX10_init_5 (by decide) ?_
    refine zB_newan (n := 8) (t := 0) 1 rfl ok (by simp) za_int (by decide) (by decide) rfl ⟨Nat.le_of_ble_eq_true rfl, Nat.le_of_ble_eq_true rfl⟩ dX10_init_7 ?_
    refine zB_ks (ks' := [.inl (10, [none, none, none, none, some none, some none, some none, none, some none, some none, some none, some none, some none]), .inr (0, 8, [])]) rfl ?_
    refine zB_putF (ci := 10) (q := 1) ok rfl zc_10 hin_10 tyX10 tyX10_ok nmX10 (s := 4) (by decide) fi_10_9 ⟨rfl, rfl⟩ (tyX10_ok 4 (by decide)) rfl rfl (by decide) dX10_init_9 ?_
    refine zB_ks (ks' := [.inl (10, [none, none, none, none, some (some (1)), some none, some none, none, some none, some none, some none, some none, some none]), .inr (0, 8, [])]) rfl ?_
    refine zB_aload ok dX10_init_12 0 rfl ?_
    refine zB_bipush (v := 9) ok dX10_init_13 (by decide) ?_
    refine zB_bipush (v := 8) ok dX10_init_15 (by decide) ?_
    refine zB_mnan (N := 9) (K := 8) (t := 0) (ty := .int) 2 rfl ok (by simp) cl_10_15 za_int (by decide) (by decide) (by decide) (fun _ _ => rfl) ⟨Nat.le_of_ble_eq_true rfl, Nat.le_of_ble_eq_true rfl⟩ dX10_init_17 ?_
    refine zB_ks (ks' := [.inl (10, [none, none, none, none, some (some (1)), some none, some none, none, some none, some none, some none, some none, some none]), .inr (0, 8, []), .inr (2, 9, [3, 4, 5, 6, 7, 8, 9, 10, 11]), .inr (0, 8, []), .inr (0, 8, []), .inr (0, 8, []), .inr (0, 8, []), .inr (0, 8, []), .inr (0, 8, []), .inr (0, 8, []), .inr (0, 8, []), .inr (0, 8, [])]) rfl ?_
    refine zB_putF (ci := 10) (q := 2) ok rfl zc_10 hin_10 tyX10 tyX10_ok nmX10 (s := 5) (by decide) fi_10_17 ⟨rfl, rfl⟩ (tyX10_ok 5 (by decide)) rfl rfl (by decide) dX10_init_21 ?_
    refine zB_ks (ks' := [.inl (10, [none, none, none, none, some (some (1)), some (some (2)), some none, none, some none, some none, some none, some none, some none]), .inr (0, 8, []), .inr (2, 9, [3, 4, 5, 6, 7, 8, 9, 10, 11]), .inr (0, 8, []), .inr (0, 8, []), .inr (0, 8, []), .inr (0, 8, []), .inr (0, 8, []), .inr (0, 8, []), .inr (0, 8, []), .inr (0, 8, []), .inr (0, 8, [])]) rfl ?_
    refine zB_aload ok dX10_init_24 0 rfl ?_
    refine zB_bipush (v := 8) ok dX10_init_25 (by decide) ?_
    refine zB_newan (n := 8) (t := 0) 12 rfl ok (by simp) za_int (by decide) (by decide) rfl ⟨Nat.le_of_ble_eq_true rfl, Nat.le_of_ble_eq_true rfl⟩ dX10_init_27 ?_
    refine zB_ks (ks' := [.inl (10, [none, none, none, none, some (some (1)), some (some (2)), some none, none, some none, some none, some none, some none, some none]), .inr (0, 8, []), .inr (2, 9, [3, 4, 5, 6, 7, 8, 9, 10, 11]), .inr (0, 8, []), .inr (0, 8, []), .inr (0, 8, []), .inr (0, 8, []), .inr (0, 8, []), .inr (0, 8, []), .inr (0, 8, []), .inr (0, 8, []), .inr (0, 8, []), .inr (0, 8, [])]) rfl ?_
    refine zB_putF (ci := 10) (q := 12) ok rfl zc_10 hin_10 tyX10 tyX10_ok nmX10 (s := 6) (by decide) fi_10_20 ⟨rfl, rfl⟩ (tyX10_ok 6 (by decide)) rfl rfl (by decide) dX10_init_29 ?_
    refine zB_ks (ks' := [.inl (10, [none, none, none, none, some (some (1)), some (some (2)), some (some (12)), none, some none, some none, some none, some none, some none]), .inr (0, 8, []), .inr (2, 9, [3, 4, 5, 6, 7, 8, 9, 10, 11]), .inr (0, 8, []), .inr (0, 8, []), .inr (0, 8, []), .inr (0, 8, []), .inr (0, 8, []), .inr (0, 8, []), .inr (0, 8, []), .inr (0, 8, []), .inr (0, 8, []), .inr (0, 8, [])]) rfl ?_
    refine zB_aload ok dX10_init_32 0 rfl ?_
    refine zB_bipush (v := 10) ok dX10_init_33 (by decide) ?_
    refine zB_newan (n := 10) (t := 0) 13 rfl ok (by simp) za_int (by decide) (by decide) rfl ⟨Nat.le_of_ble_eq_true rfl, Nat.le_of_ble_eq_true rfl⟩ dX10_init_35 ?_
    refine zB_ks (ks' := [.inl (10, [none, none, none, none, some (some (1)), some (some (2)), some (some (12)), none, some none, some none, some none, some none, some none]), .inr (0, 8, []), .inr (2, 9, [3, 4, 5, 6, 7, 8, 9, 10, 11]), .inr (0, 8, []), .inr (0, 8, []), .inr (0, 8, []), .inr (0, 8, []), .inr (0, 8, []), .inr (0, 8, []), .inr (0, 8, []), .inr (0, 8, []), .inr (0, 8, []), .inr (0, 8, []), .inr (0, 10, [])]) rfl ?_
    refine zB_putF (ci := 10) (q := 13) ok rfl zc_10 hin_10 tyX10 tyX10_ok nmX10 (s := 8) (by decide) fi_10_23 ⟨rfl, rfl⟩ (tyX10_ok 8 (by decide)) rfl rfl (by decide) dX10_init_37 ?_
    refine zB_ks (ks' := [.inl (10, [none, none, none, none, some (some (1)), some (some (2)), some (some (12)), none, some (some (13)), some none, some none, some none, some none]), .inr (0, 8, []), .inr (2, 9, [3, 4, 5, 6, 7, 8, 9, 10, 11]), .inr (0, 8, []), .inr (0, 8, []), .inr (0, 8, []), .inr (0, 8, []), .inr (0, 8, []), .inr (0, 8, []), .inr (0, 8, []), .inr (0, 8, []), .inr (0, 8, []), .inr (0, 8, []), .inr (0, 10, [])]) rfl ?_
    refine zB_aload ok dX10_init_40 0 rfl ?_
    refine zB_bipush (v := 10) ok dX10_init_41 (by decide) ?_
    refine zB_newan (n := 10) (t := 0) 14 rfl ok (by simp) za_int (by decide) (by decide) rfl ⟨Nat.le_of_ble_eq_true rfl, Nat.le_of_ble_eq_true rfl⟩ dX10_init_43 ?_
    refine zB_ks (ks' := [.inl (10, [none, none, none, none, some (some (1)), some (some (2)), some (some (12)), none, some (some (13)), some none, some none, some none, some none]), .inr (0, 8, []), .inr (2, 9, [3, 4, 5, 6, 7, 8, 9, 10, 11]), .inr (0, 8, []), .inr (0, 8, []), .inr (0, 8, []), .inr (0, 8, []), .inr (0, 8, []), .inr (0, 8, []), .inr (0, 8, []), .inr (0, 8, []), .inr (0, 8, []), .inr (0, 8, []), .inr (0, 10, []), .inr (0, 10, [])]) rfl ?_
    refine zB_putF (ci := 10) (q := 14) ok rfl zc_10 hin_10 tyX10 tyX10_ok nmX10 (s := 9) (by decide) fi_10_26 ⟨rfl, rfl⟩ (tyX10_ok 9 (by decide)) rfl rfl (by decide) dX10_init_45 ?_
    refine zB_ks (ks' := [.inl (10, [none, none, none, none, some (some (1)), some (some (2)), some (some (12)), none, some (some (13)), some (some (14)), some none, some none, some none]), .inr (0, 8, []), .inr (2, 9, [3, 4, 5, 6, 7, 8, 9, 10, 11]), .inr (0, 8, []), .inr (0, 8, []), .inr (0, 8, []), .inr (0, 8, []), .inr (0, 8, []), .inr (0, 8, []), .inr (0, 8, []), .inr (0, 8, []), .inr (0, 8, []), .inr (0, 8, []), .inr (0, 10, []), .inr (0, 10, [])]) rfl ?_
    refine zB_aload ok dX10_init_48 0 rfl ?_
    refine zB_bipush (v := 10) ok dX10_init_49 (by decide) ?_
    refine zB_newan (n := 10) (t := 0) 15 rfl ok (by simp) za_int (by decide) (by decide) rfl ⟨Nat.le_of_ble_eq_true rfl, Nat.le_of_ble_eq_true rfl⟩ dX10_init_51 ?_
    refine zB_ks (ks' := [.inl (10, [none, none, none, none, some (some (1)), some (some (2)), some (some (12)), none, some (some (13)), some (some (14)), some none, some none, some none]), .inr (0, 8, []), .inr (2, 9, [3, 4, 5, 6, 7, 8, 9, 10, 11]), .inr (0, 8, []), .inr (0, 8, []), .inr (0, 8, []), .inr (0, 8, []), .inr (0, 8, []), .inr (0, 8, []), .inr (0, 8, []), .inr (0, 8, []), .inr (0, 8, []), .inr (0, 8, []), .inr (0, 10, []), .inr (0, 10, []), .inr (0, 10, [])]) rfl ?_
    refine zB_putF (ci := 10) (q := 15) ok rfl zc_10 hin_10 tyX10 tyX10_ok nmX10 (s := 10) (by decide) fi_10_29 ⟨rfl, rfl⟩ (tyX10_ok 10 (by decide)) rfl rfl (by decide) dX10_init_53 ?_
    refine zB_ks (ks' := [.inl (10, [none, none, none, none, some (some (1)), some (some (2)), some (some (12)), none, some (some (13)), some (some (14)), some (some (15)), some none, some none]), .inr (0, 8, []), .inr (2, 9, [3, 4, 5, 6, 7, 8, 9, 10, 11]), .inr (0, 8, []), .inr (0, 8, []), .inr (0, 8, []), .inr (0, 8, []), .inr (0, 8, []), .inr (0, 8, []), .inr (0, 8, []), .inr (0, 8, []), .inr (0, 8, []), .inr (0, 8, []), .inr (0, 10, []), .inr (0, 10, []), .inr (0, 10, [])]) rfl ?_
    refine zB_aload ok dX10_init_56 0 rfl ?_
    refine zB_newn (ci := 3) 16 rfl ok cl_10_32 zn_3.1 zn_3.2 zc_3 hin_3 tyX3 tyX3_ok zf_3 rfl ⟨Nat.le_of_ble_eq_true rfl, Nat.le_of_ble_eq_true rfl⟩ dX10_init_57 ?_
    refine zB_dup ok dX10_init_60 rfl ?_
    refine zB_init (host := "CanalKeeper") (k1 := 16) (k2 := 131) (st := [.ref (X.ad 16), .ref (X.ad 0)]) (ks := [.inl (10, [none, none, none, none, some (some (1)), some (some (2)), some (some (12)), none, some (some (13)), some (some (14)), some (some (15)), some none, some none]), .inr (0, 8, []), .inr (2, 9, [3, 4, 5, 6, 7, 8, 9, 10, 11]), .inr (0, 8, []), .inr (0, 8, []), .inr (0, 8, []), .inr (0, 8, []), .inr (0, 8, []), .inr (0, 8, []), .inr (0, 8, []), .inr (0, 8, []), .inr (0, 8, []), .inr (0, 8, []), .inr (0, 10, []), .inr (0, 10, []), .inr (0, 10, [])]) 16 rfl ok c_Orders_init zg_3 (fun _ _ => rfl) (by decide +kernel) w_Orders_init hy_Orders_init rfl ⟨rfl, rfl⟩ ⟨Nat.le_of_ble_eq_true rfl, Nat.le_of_ble_eq_true rfl⟩ ⟨Nat.le_of_ble_eq_true rfl, Nat.le_of_ble_eq_true rfl⟩ (Nat.le_of_ble_eq_true rfl) dX10_init_61 ?_
    refine zB_ks (ks' := [.inl (10, [none, none, none, none, some (some (1)), some (some (2)), some (some (12)), none, some (some (13)), some (some (14)), some (some (15)), some none, some none]), .inr (0, 8, []), .inr (2, 9, [3, 4, 5, 6, 7, 8, 9, 10, 11]), .inr (0, 8, []), .inr (0, 8, []), .inr (0, 8, []), .inr (0, 8, []), .inr (0, 8, []), .inr (0, 8, []), .inr (0, 8, []), .inr (0, 8, []), .inr (0, 8, []), .inr (0, 8, []), .inr (0, 10, []), .inr (0, 10, []), .inr (0, 10, []), .inl (3, [none, some (some (17)), some (some (18)), some (some (19))]), .inr (0, 16, []), .inr (0, 16, []), .inr (0, 16, [])]) rfl ?_
    refine zB_putF (ci := 10) (q := 16) ok rfl zc_10 hin_10 tyX10 tyX10_ok nmX10 (s := 11) (by decide) fi_10_35 ⟨rfl, rfl⟩ (tyX10_ok 11 (by decide)) rfl rfl (by decide) dX10_init_64 ?_
    refine zB_ks (ks' := [.inl (10, [none, none, none, none, some (some (1)), some (some (2)), some (some (12)), none, some (some (13)), some (some (14)), some (some (15)), some (some (16)), some none]), .inr (0, 8, []), .inr (2, 9, [3, 4, 5, 6, 7, 8, 9, 10, 11]), .inr (0, 8, []), .inr (0, 8, []), .inr (0, 8, []), .inr (0, 8, []), .inr (0, 8, []), .inr (0, 8, []), .inr (0, 8, []), .inr (0, 8, []), .inr (0, 8, []), .inr (0, 8, []), .inr (0, 10, []), .inr (0, 10, []), .inr (0, 10, []), .inl (3, [none, some (some (17)), some (some (18)), some (some (19))]), .inr (0, 16, []), .inr (0, 16, []), .inr (0, 16, [])]) rfl ?_
    refine zB_aload ok dX10_init_67 0 rfl ?_
    refine zB_newn (ci := 8) 20 rfl ok cl_10_39 zn_8.1 zn_8.2 zc_8 hin_8 tyX8 tyX8_ok zf_8 rfl ⟨Nat.le_of_ble_eq_true rfl, Nat.le_of_ble_eq_true rfl⟩ dX10_init_68 ?_
    refine zB_dup ok dX10_init_71 rfl ?_
    refine zB_init (host := "CanalKeeper") (k1 := 20) (k2 := 183) (st := [.ref (X.ad 20), .ref (X.ad 0)]) (ks := [.inl (10, [none, none, none, none, some (some (1)), some (some (2)), some (some (12)), none, some (some (13)), some (some (14)), some (some (15)), some (some (16)), some none]), .inr (0, 8, []), .inr (2, 9, [3, 4, 5, 6, 7, 8, 9, 10, 11]), .inr (0, 8, []), .inr (0, 8, []), .inr (0, 8, []), .inr (0, 8, []), .inr (0, 8, []), .inr (0, 8, []), .inr (0, 8, []), .inr (0, 8, []), .inr (0, 8, []), .inr (0, 8, []), .inr (0, 10, []), .inr (0, 10, []), .inr (0, 10, []), .inl (3, [none, some (some (17)), some (some (18)), some (some (19))]), .inr (0, 16, []), .inr (0, 16, []), .inr (0, 16, [])]) 20 rfl ok c_Turns_init zg_8 (fun _ _ => rfl) (by decide +kernel) w_Turns_init hy_Turns_init rfl ⟨rfl, rfl⟩ ⟨Nat.le_of_ble_eq_true rfl, Nat.le_of_ble_eq_true rfl⟩ ⟨Nat.le_of_ble_eq_true rfl, Nat.le_of_ble_eq_true rfl⟩ (Nat.le_of_ble_eq_true rfl) dX10_init_72 ?_
    refine zB_ks (ks' := [.inl (10, [none, none, none, none, some (some (1)), some (some (2)), some (some (12)), none, some (some (13)), some (some (14)), some (some (15)), some (some (16)), some none]), .inr (0, 8, []), .inr (2, 9, [3, 4, 5, 6, 7, 8, 9, 10, 11]), .inr (0, 8, []), .inr (0, 8, []), .inr (0, 8, []), .inr (0, 8, []), .inr (0, 8, []), .inr (0, 8, []), .inr (0, 8, []), .inr (0, 8, []), .inr (0, 8, []), .inr (0, 8, []), .inr (0, 10, []), .inr (0, 10, []), .inr (0, 10, []), .inl (3, [none, some (some (17)), some (some (18)), some (some (19))]), .inr (0, 16, []), .inr (0, 16, []), .inr (0, 16, []), .inl (8, [none, some (some (21)), some (some (22)), some (some (23))]), .inr (0, 2, []), .inr (0, 2, []), .inr (2, 2, [24, 25]), .inr (0, 6, []), .inr (0, 6, [])]) rfl ?_
    refine zB_putF (ci := 10) (q := 20) ok rfl zc_10 hin_10 tyX10 tyX10_ok nmX10 (s := 12) (by decide) fi_10_42 ⟨rfl, rfl⟩ (tyX10_ok 12 (by decide)) rfl rfl (by decide) dX10_init_75 ?_
    refine zB_ks (ks' := [.inl (10, [none, none, none, none, some (some (1)), some (some (2)), some (some (12)), none, some (some (13)), some (some (14)), some (some (15)), some (some (16)), some (some (20))]), .inr (0, 8, []), .inr (2, 9, [3, 4, 5, 6, 7, 8, 9, 10, 11]), .inr (0, 8, []), .inr (0, 8, []), .inr (0, 8, []), .inr (0, 8, []), .inr (0, 8, []), .inr (0, 8, []), .inr (0, 8, []), .inr (0, 8, []), .inr (0, 8, []), .inr (0, 8, []), .inr (0, 10, []), .inr (0, 10, []), .inr (0, 10, []), .inl (3, [none, some (some (17)), some (some (18)), some (some (19))]), .inr (0, 16, []), .inr (0, 16, []), .inr (0, 16, []), .inl (8, [none, some (some (21)), some (some (22)), some (some (23))]), .inr (0, 2, []), .inr (0, 2, []), .inr (2, 2, [24, 25]), .inr (0, 6, []), .inr (0, 6, [])]) rfl ?_
    exact hr _ _ dX10_init_78)
theorem dX2_init_0 : decode cX2_init 0 = .ok (.aload_n 0, 1) := by decide +kernel
theorem dX2_init_1 : decode cX2_init 1 = .ok (.invokespecial 3, 3) := by decide +kernel
theorem dX2_init_4 : decode cX2_init 4 = .ok (.aload_n 0, 1) := by decide +kernel
theorem dX2_init_5 : decode cX2_init 5 = .ok (.bipush 8, 2) := by decide +kernel
theorem dX2_init_7 : decode cX2_init 7 = .ok (.newarray .int, 2) := by decide +kernel
theorem dX2_init_9 : decode cX2_init 9 = .ok (.putfield 9, 3) := by decide +kernel
theorem dX2_init_12 : decode cX2_init 12 = .ok (.aload_n 0, 1) := by decide +kernel
theorem dX2_init_13 : decode cX2_init 13 = .ok (.bipush 8, 2) := by decide +kernel
theorem dX2_init_15 : decode cX2_init 15 = .ok (.newarray .int, 2) := by decide +kernel
theorem dX2_init_17 : decode cX2_init 17 = .ok (.putfield 15, 3) := by decide +kernel
theorem dX2_init_20 : decode cX2_init 20 = .ok (.aload_n 0, 1) := by decide +kernel
theorem dX2_init_21 : decode cX2_init 21 = .ok (.bipush 8, 2) := by decide +kernel
theorem dX2_init_23 : decode cX2_init 23 = .ok (.newarray .int, 2) := by decide +kernel
theorem dX2_init_25 : decode cX2_init 25 = .ok (.putfield 18, 3) := by decide +kernel
theorem dX2_init_28 : decode cX2_init 28 = .ok (.aload_n 0, 1) := by decide +kernel
theorem dX2_init_29 : decode cX2_init 29 = .ok (.bipush 8, 2) := by decide +kernel
theorem dX2_init_31 : decode cX2_init 31 = .ok (.newarray .int, 2) := by decide +kernel
theorem dX2_init_33 : decode cX2_init 33 = .ok (.putfield 21, 3) := by decide +kernel
theorem dX2_init_36 : decode cX2_init 36 = .ok (.aload_n 0, 1) := by decide +kernel
theorem dX2_init_37 : decode cX2_init 37 = .ok (.bipush 8, 2) := by decide +kernel
theorem dX2_init_39 : decode cX2_init 39 = .ok (.newarray .int, 2) := by decide +kernel
theorem dX2_init_41 : decode cX2_init 41 = .ok (.putfield 24, 3) := by decide +kernel
theorem dX2_init_44 : decode cX2_init 44 = .ok (.aload_n 0, 1) := by decide +kernel
theorem dX2_init_45 : decode cX2_init 45 = .ok (.bipush 8, 2) := by decide +kernel
theorem dX2_init_47 : decode cX2_init 47 = .ok (.newarray .int, 2) := by decide +kernel
theorem dX2_init_49 : decode cX2_init 49 = .ok (.putfield 27, 3) := by decide +kernel
theorem dX2_init_52 : decode cX2_init 52 = .ok (.aload_n 0, 1) := by decide +kernel
theorem dX2_init_53 : decode cX2_init 53 = .ok (.bipush 8, 2) := by decide +kernel
theorem dX2_init_55 : decode cX2_init 55 = .ok (.newarray .int, 2) := by decide +kernel
theorem dX2_init_57 : decode cX2_init 57 = .ok (.putfield 30, 3) := by decide +kernel
theorem dX2_init_60 : decode cX2_init 60 = .ok (.return_, 1) := by decide +kernel
theorem mo_2_3 : Cond.methodLink RX2 3 Lib.objectInit ∈ zT := zT_of (i := 341) (by decide +kernel) rfl
theorem fi_2_9 : Cond.fieldLink RX2 9 (TX2 0).1 (TX2 0).2.1 (TX2 0).2.2.1 ∈ zT := zT_of (i := 342) (by decide +kernel) rfl
theorem fi_2_15 : Cond.fieldLink RX2 15 (TX2 1).1 (TX2 1).2.1 (TX2 1).2.2.1 ∈ zT := zT_of (i := 345) (by decide +kernel) rfl
theorem fi_2_18 : Cond.fieldLink RX2 18 (TX2 2).1 (TX2 2).2.1 (TX2 2).2.2.1 ∈ zT := zT_of (i := 348) (by decide +kernel) rfl
theorem fi_2_21 : Cond.fieldLink RX2 21 (TX2 3).1 (TX2 3).2.1 (TX2 3).2.2.1 ∈ zT := zT_of (i := 351) (by decide +kernel) rfl
theorem fi_2_24 : Cond.fieldLink RX2 24 (TX2 4).1 (TX2 4).2.1 (TX2 4).2.2.1 ∈ zT := zT_of (i := 355) (by decide +kernel) rfl
theorem fi_2_27 : Cond.fieldLink RX2 27 (TX2 5).1 (TX2 5).2.1 (TX2 5).2.2.1 ∈ zT := zT_of (i := 359) (by decide +kernel) rfl
theorem fi_2_30 : Cond.fieldLink RX2 30 (TX2 6).1 (TX2 6).2.1 (TX2 6).2.2.1 ∈ zT := zT_of (i := 362) (by decide +kernel) rfl
abbrev rm_Notes_init : Room := { frames := 1, cells := 7, slots := 56, locals := 12 }
def ks_Notes_init : List Kd := [.inl (2, [some (some (1)), some (some (2)), some (some (3)), some (some (4)), some (some (5)), some (some (6)), some (some (7))]), .inr (0, 8, []), .inr (0, 8, []), .inr (0, 8, []), .inr (0, 8, []), .inr (0, 8, []), .inr (0, 8, []), .inr (0, 8, [])]
theorem w_Notes_init : Cond.instanceMethod yX2_init ∈ zT ∧ Cond.initialized yX2_init.cls ∈ zT ∧ Cond.code yX2_init cX2_init 1 none ∈ zT := ⟨zT_of (i := 339) (by decide +kernel) rfl, zT_of (i := 130) (by decide +kernel) rfl, zT_of (i := 340) (by decide +kernel) rfl⟩
theorem hy_Notes_init : yX2_init.cls ≠ "java/lang/invoke/MethodHandle" ∧ yX2_init.cls ≠ "java/lang/invoke/VarHandle" ∧ (parseMethodDescriptor yX2_init.desc).map (fun d => d.parameters.length) = some 0 := by decide +kernel
set_option maxRecDepth 100000 in
set_option maxHeartbeats 4000000 in
theorem c_Notes_init : ZiV yX2_init cX2_init 1 rm_Notes_init fk_2 ks_Notes_init zz0 7 56 :=
  zmetB pn_2 rfl rfl (by decide) (fun X Q ok hr => by
    refine zB_aload ok dX2_init_0 0 rfl ?_
    refine zB_obj ok mo_2_3 zo_i.1 zo_i.2 (Nat.le_of_ble_eq_true rfl) (Nat.le_of_ble_eq_true rfl) dX2_init_1 ?_
    refine zB_aload ok dX2_init_4 0 rfl ?_
    refine zB_bipush (v := 8) ok dX2_init_5 (by decide) ?_
    refine zB_newan (n := 8) (t := 0) 1 rfl ok (by simp) za_int (by decide) (by decide) rfl ⟨Nat.le_of_ble_eq_true rfl, Nat.le_of_ble_eq_true rfl⟩ dX2_init_7 ?_
    refine zB_ks (ks' := [.inl (2, [some none, some none, some none, some none, some none, some none, some none]), .inr (0, 8, [])]) rfl ?_
    refine zB_putF (ci := 2) (q := 1) ok rfl zc_2 hin_2 tyX2 tyX2_ok nmX2 (s := 0) (by decide) fi_2_9 ⟨rfl, rfl⟩ (tyX2_ok 0 (by decide)) rfl rfl (by decide) dX2_init_9 ?_
    refine zB_ks (ks' := [.inl (2, [some (some (1)), some none, some none, some none, some none, some none, some none]), .inr (0, 8, [])]) rfl ?_
    refine zB_aload ok dX2_init_12 0 rfl ?_
    refine zB_bipush (v := 8) ok dX2_init_13 (by decide) ?_
    refine zB_newan (n := 8) (t := 0) 2 rfl ok (by simp) za_int (by decide) (by decide) rfl ⟨Nat.le_of_ble_eq_true rfl, Nat.le_of_ble_eq_true rfl⟩ dX2_init_15 ?_
    refine zB_ks (ks' := [.inl (2, [some (some (1)), some none, some none, some none, some none, some none, some none]), .inr (0, 8, []), .inr (0, 8, [])]) rfl ?_
    refine zB_putF (ci := 2) (q := 2) ok rfl zc_2 hin_2 tyX2 tyX2_ok nmX2 (s := 1) (by decide) fi_2_15 ⟨rfl, rfl⟩ (tyX2_ok 1 (by decide)) rfl rfl (by decide) dX2_init_17 ?_
    refine zB_ks (ks' := [.inl (2, [some (some (1)), some (some (2)), some none, some none, some none, some none, some none]), .inr (0, 8, []), .inr (0, 8, [])]) rfl ?_
    refine zB_aload ok dX2_init_20 0 rfl ?_
    refine zB_bipush (v := 8) ok dX2_init_21 (by decide) ?_
    refine zB_newan (n := 8) (t := 0) 3 rfl ok (by simp) za_int (by decide) (by decide) rfl ⟨Nat.le_of_ble_eq_true rfl, Nat.le_of_ble_eq_true rfl⟩ dX2_init_23 ?_
    refine zB_ks (ks' := [.inl (2, [some (some (1)), some (some (2)), some none, some none, some none, some none, some none]), .inr (0, 8, []), .inr (0, 8, []), .inr (0, 8, [])]) rfl ?_
    refine zB_putF (ci := 2) (q := 3) ok rfl zc_2 hin_2 tyX2 tyX2_ok nmX2 (s := 2) (by decide) fi_2_18 ⟨rfl, rfl⟩ (tyX2_ok 2 (by decide)) rfl rfl (by decide) dX2_init_25 ?_
    refine zB_ks (ks' := [.inl (2, [some (some (1)), some (some (2)), some (some (3)), some none, some none, some none, some none]), .inr (0, 8, []), .inr (0, 8, []), .inr (0, 8, [])]) rfl ?_
    refine zB_aload ok dX2_init_28 0 rfl ?_
    refine zB_bipush (v := 8) ok dX2_init_29 (by decide) ?_
    refine zB_newan (n := 8) (t := 0) 4 rfl ok (by simp) za_int (by decide) (by decide) rfl ⟨Nat.le_of_ble_eq_true rfl, Nat.le_of_ble_eq_true rfl⟩ dX2_init_31 ?_
    refine zB_ks (ks' := [.inl (2, [some (some (1)), some (some (2)), some (some (3)), some none, some none, some none, some none]), .inr (0, 8, []), .inr (0, 8, []), .inr (0, 8, []), .inr (0, 8, [])]) rfl ?_
    refine zB_putF (ci := 2) (q := 4) ok rfl zc_2 hin_2 tyX2 tyX2_ok nmX2 (s := 3) (by decide) fi_2_21 ⟨rfl, rfl⟩ (tyX2_ok 3 (by decide)) rfl rfl (by decide) dX2_init_33 ?_
    refine zB_ks (ks' := [.inl (2, [some (some (1)), some (some (2)), some (some (3)), some (some (4)), some none, some none, some none]), .inr (0, 8, []), .inr (0, 8, []), .inr (0, 8, []), .inr (0, 8, [])]) rfl ?_
    refine zB_aload ok dX2_init_36 0 rfl ?_
    refine zB_bipush (v := 8) ok dX2_init_37 (by decide) ?_
    refine zB_newan (n := 8) (t := 0) 5 rfl ok (by simp) za_int (by decide) (by decide) rfl ⟨Nat.le_of_ble_eq_true rfl, Nat.le_of_ble_eq_true rfl⟩ dX2_init_39 ?_
    refine zB_ks (ks' := [.inl (2, [some (some (1)), some (some (2)), some (some (3)), some (some (4)), some none, some none, some none]), .inr (0, 8, []), .inr (0, 8, []), .inr (0, 8, []), .inr (0, 8, []), .inr (0, 8, [])]) rfl ?_
    refine zB_putF (ci := 2) (q := 5) ok rfl zc_2 hin_2 tyX2 tyX2_ok nmX2 (s := 4) (by decide) fi_2_24 ⟨rfl, rfl⟩ (tyX2_ok 4 (by decide)) rfl rfl (by decide) dX2_init_41 ?_
    refine zB_ks (ks' := [.inl (2, [some (some (1)), some (some (2)), some (some (3)), some (some (4)), some (some (5)), some none, some none]), .inr (0, 8, []), .inr (0, 8, []), .inr (0, 8, []), .inr (0, 8, []), .inr (0, 8, [])]) rfl ?_
    refine zB_aload ok dX2_init_44 0 rfl ?_
    refine zB_bipush (v := 8) ok dX2_init_45 (by decide) ?_
    refine zB_newan (n := 8) (t := 0) 6 rfl ok (by simp) za_int (by decide) (by decide) rfl ⟨Nat.le_of_ble_eq_true rfl, Nat.le_of_ble_eq_true rfl⟩ dX2_init_47 ?_
    refine zB_ks (ks' := [.inl (2, [some (some (1)), some (some (2)), some (some (3)), some (some (4)), some (some (5)), some none, some none]), .inr (0, 8, []), .inr (0, 8, []), .inr (0, 8, []), .inr (0, 8, []), .inr (0, 8, []), .inr (0, 8, [])]) rfl ?_
    refine zB_putF (ci := 2) (q := 6) ok rfl zc_2 hin_2 tyX2 tyX2_ok nmX2 (s := 5) (by decide) fi_2_27 ⟨rfl, rfl⟩ (tyX2_ok 5 (by decide)) rfl rfl (by decide) dX2_init_49 ?_
    refine zB_ks (ks' := [.inl (2, [some (some (1)), some (some (2)), some (some (3)), some (some (4)), some (some (5)), some (some (6)), some none]), .inr (0, 8, []), .inr (0, 8, []), .inr (0, 8, []), .inr (0, 8, []), .inr (0, 8, []), .inr (0, 8, [])]) rfl ?_
    refine zB_aload ok dX2_init_52 0 rfl ?_
    refine zB_bipush (v := 8) ok dX2_init_53 (by decide) ?_
    refine zB_newan (n := 8) (t := 0) 7 rfl ok (by simp) za_int (by decide) (by decide) rfl ⟨Nat.le_of_ble_eq_true rfl, Nat.le_of_ble_eq_true rfl⟩ dX2_init_55 ?_
    refine zB_ks (ks' := [.inl (2, [some (some (1)), some (some (2)), some (some (3)), some (some (4)), some (some (5)), some (some (6)), some none]), .inr (0, 8, []), .inr (0, 8, []), .inr (0, 8, []), .inr (0, 8, []), .inr (0, 8, []), .inr (0, 8, []), .inr (0, 8, [])]) rfl ?_
    refine zB_putF (ci := 2) (q := 7) ok rfl zc_2 hin_2 tyX2 tyX2_ok nmX2 (s := 6) (by decide) fi_2_30 ⟨rfl, rfl⟩ (tyX2_ok 6 (by decide)) rfl rfl (by decide) dX2_init_57 ?_
    refine zB_ks (ks' := [.inl (2, [some (some (1)), some (some (2)), some (some (3)), some (some (4)), some (some (5)), some (some (6)), some (some (7))]), .inr (0, 8, []), .inr (0, 8, []), .inr (0, 8, []), .inr (0, 8, []), .inr (0, 8, []), .inr (0, 8, []), .inr (0, 8, [])]) rfl ?_
    exact hr _ _ dX2_init_60)
theorem dX9_init_0 : decode cX9_init 0 = .ok (.aload_n 0, 1) := by decide +kernel
theorem dX9_init_1 : decode cX9_init 1 = .ok (.invokespecial 3, 3) := by decide +kernel
theorem dX9_init_4 : decode cX9_init 4 = .ok (.aload_n 0, 1) := by decide +kernel
theorem dX9_init_5 : decode cX9_init 5 = .ok (.bipush 8, 2) := by decide +kernel
theorem dX9_init_7 : decode cX9_init 7 = .ok (.newarray .int, 2) := by decide +kernel
theorem dX9_init_9 : decode cX9_init 9 = .ok (.putfield 9, 3) := by decide +kernel
theorem dX9_init_12 : decode cX9_init 12 = .ok (.aload_n 0, 1) := by decide +kernel
theorem dX9_init_13 : decode cX9_init 13 = .ok (.bipush 8, 2) := by decide +kernel
theorem dX9_init_15 : decode cX9_init 15 = .ok (.newarray .int, 2) := by decide +kernel
theorem dX9_init_17 : decode cX9_init 17 = .ok (.putfield 15, 3) := by decide +kernel
theorem dX9_init_20 : decode cX9_init 20 = .ok (.aload_n 0, 1) := by decide +kernel
theorem dX9_init_21 : decode cX9_init 21 = .ok (.bipush 8, 2) := by decide +kernel
theorem dX9_init_23 : decode cX9_init 23 = .ok (.newarray .int, 2) := by decide +kernel
theorem dX9_init_25 : decode cX9_init 25 = .ok (.putfield 18, 3) := by decide +kernel
theorem dX9_init_28 : decode cX9_init 28 = .ok (.aload_n 0, 1) := by decide +kernel
theorem dX9_init_29 : decode cX9_init 29 = .ok (.bipush 8, 2) := by decide +kernel
theorem dX9_init_31 : decode cX9_init 31 = .ok (.newarray .int, 2) := by decide +kernel
theorem dX9_init_33 : decode cX9_init 33 = .ok (.putfield 21, 3) := by decide +kernel
theorem dX9_init_36 : decode cX9_init 36 = .ok (.aload_n 0, 1) := by decide +kernel
theorem dX9_init_37 : decode cX9_init 37 = .ok (.bipush 72, 2) := by decide +kernel
theorem dX9_init_39 : decode cX9_init 39 = .ok (.newarray .int, 2) := by decide +kernel
theorem dX9_init_41 : decode cX9_init 41 = .ok (.putfield 24, 3) := by decide +kernel
theorem dX9_init_44 : decode cX9_init 44 = .ok (.aload_n 0, 1) := by decide +kernel
theorem dX9_init_45 : decode cX9_init 45 = .ok (.bipush 10, 2) := by decide +kernel
theorem dX9_init_47 : decode cX9_init 47 = .ok (.newarray .int, 2) := by decide +kernel
theorem dX9_init_49 : decode cX9_init 49 = .ok (.putfield 27, 3) := by decide +kernel
theorem dX9_init_52 : decode cX9_init 52 = .ok (.aload_n 0, 1) := by decide +kernel
theorem dX9_init_53 : decode cX9_init 53 = .ok (.bipush 10, 2) := by decide +kernel
theorem dX9_init_55 : decode cX9_init 55 = .ok (.newarray .int, 2) := by decide +kernel
theorem dX9_init_57 : decode cX9_init 57 = .ok (.putfield 30, 3) := by decide +kernel
theorem dX9_init_60 : decode cX9_init 60 = .ok (.aload_n 0, 1) := by decide +kernel
theorem dX9_init_61 : decode cX9_init 61 = .ok (.bipush 7, 2) := by decide +kernel
theorem dX9_init_63 : decode cX9_init 63 = .ok (.newarray .int, 2) := by decide +kernel
theorem dX9_init_65 : decode cX9_init 65 = .ok (.putfield 33, 3) := by decide +kernel
theorem dX9_init_68 : decode cX9_init 68 = .ok (.aload_n 0, 1) := by decide +kernel
theorem dX9_init_69 : decode cX9_init 69 = .ok (.new 36, 3) := by decide +kernel
theorem dX9_init_72 : decode cX9_init 72 = .ok (.dup, 1) := by decide +kernel
theorem dX9_init_73 : decode cX9_init 73 = .ok (.invokespecial 38, 3) := by decide +kernel
theorem dX9_init_76 : decode cX9_init 76 = .ok (.putfield 39, 3) := by decide +kernel
theorem dX9_init_79 : decode cX9_init 79 = .ok (.return_, 1) := by decide +kernel
theorem mo_9_3 : Cond.methodLink RX9 3 Lib.objectInit ∈ zT := zT_of (i := 335) (by decide +kernel) rfl
theorem fi_9_9 : Cond.fieldLink RX9 9 (TX9 3).1 (TX9 3).2.1 (TX9 3).2.2.1 ∈ zT := zT_of (i := 390) (by decide +kernel) rfl
theorem fi_9_15 : Cond.fieldLink RX9 15 (TX9 4).1 (TX9 4).2.1 (TX9 4).2.2.1 ∈ zT := zT_of (i := 395) (by decide +kernel) rfl
theorem fi_9_18 : Cond.fieldLink RX9 18 (TX9 5).1 (TX9 5).2.1 (TX9 5).2.2.1 ∈ zT := zT_of (i := 399) (by decide +kernel) rfl
theorem fi_9_21 : Cond.fieldLink RX9 21 (TX9 6).1 (TX9 6).2.1 (TX9 6).2.2.1 ∈ zT := zT_of (i := 403) (by decide +kernel) rfl
theorem fi_9_24 : Cond.fieldLink RX9 24 (TX9 7).1 (TX9 7).2.1 (TX9 7).2.2.1 ∈ zT := zT_of (i := 406) (by decide +kernel) rfl
theorem fi_9_27 : Cond.fieldLink RX9 27 (TX9 8).1 (TX9 8).2.1 (TX9 8).2.2.1 ∈ zT := zT_of (i := 407) (by decide +kernel) rfl
theorem fi_9_30 : Cond.fieldLink RX9 30 (TX9 9).1 (TX9 9).2.1 (TX9 9).2.2.1 ∈ zT := zT_of (i := 409) (by decide +kernel) rfl
theorem fi_9_33 : Cond.fieldLink RX9 33 (TX9 10).1 (TX9 10).2.1 (TX9 10).2.2.1 ∈ zT := zT_of (i := 411) (by decide +kernel) rfl
theorem cl_9_36 : Cond.classLink RX9 36 RX2 ∈ zT := zT_of (i := 336) (by decide +kernel) rfl
theorem fi_9_39 : Cond.fieldLink RX9 39 (TX9 11).1 (TX9 11).2.1 (TX9 11).2.2.1 ∈ zT := zT_of (i := 414) (by decide +kernel) rfl
abbrev rm_Water_init : Room := { frames := 2, cells := 16, slots := 194, locals := 32 }
def ks_Water_init : List Kd := [.inl (9, [none, none, none, some (some (1)), some (some (2)), some (some (3)), some (some (4)), some (some (5)), some (some (6)), some (some (7)), some (some (8)), some (some (9))]), .inr (0, 8, []), .inr (0, 8, []), .inr (0, 8, []), .inr (0, 8, []), .inr (0, 72, []), .inr (0, 10, []), .inr (0, 10, []), .inr (0, 7, []), .inl (2, [some (some (10)), some (some (11)), some (some (12)), some (some (13)), some (some (14)), some (some (15)), some (some (16))]), .inr (0, 8, []), .inr (0, 8, []), .inr (0, 8, []), .inr (0, 8, []), .inr (0, 8, []), .inr (0, 8, []), .inr (0, 8, [])]
theorem w_Water_init : Cond.instanceMethod yX9_init ∈ zT ∧ Cond.initialized yX9_init.cls ∈ zT ∧ Cond.code yX9_init cX9_init 1 none ∈ zT := ⟨zT_of (i := 333) (by decide +kernel) rfl, zT_of (i := 129) (by decide +kernel) rfl, zT_of (i := 334) (by decide +kernel) rfl⟩
theorem hy_Water_init : yX9_init.cls ≠ "java/lang/invoke/MethodHandle" ∧ yX9_init.cls ≠ "java/lang/invoke/VarHandle" ∧ (parseMethodDescriptor yX9_init.desc).map (fun d => d.parameters.length) = some 0 := by decide +kernel
set_option maxRecDepth 100000 in
set_option maxHeartbeats 4000000 in
theorem c_Water_init : ZiV yX9_init cX9_init 1 rm_Water_init fk_9 ks_Water_init zz0 16 194 :=
  zmetB pn_9 rfl rfl (by decide) (fun X Q ok hr => by
    refine zB_aload ok dX9_init_0 0 rfl ?_
    refine zB_obj ok mo_9_3 zo_i.1 zo_i.2 (Nat.le_of_ble_eq_true rfl) (Nat.le_of_ble_eq_true rfl) dX9_init_1 ?_
    refine zB_aload ok dX9_init_4 0 rfl ?_
    refine zB_bipush (v := 8) ok dX9_init_5 (by decide) ?_
    refine zB_newan (n := 8) (t := 0) 1 rfl ok (by simp) za_int (by decide) (by decide) rfl ⟨Nat.le_of_ble_eq_true rfl, Nat.le_of_ble_eq_true rfl⟩ dX9_init_7 ?_
    refine zB_ks (ks' := [.inl (9, [none, none, none, some none, some none, some none, some none, some none, some none, some none, some none, some none]), .inr (0, 8, [])]) rfl ?_
    refine zB_putF (ci := 9) (q := 1) ok rfl zc_9 hin_9 tyX9 tyX9_ok nmX9 (s := 3) (by decide) fi_9_9 ⟨rfl, rfl⟩ (tyX9_ok 3 (by decide)) rfl rfl (by decide) dX9_init_9 ?_
    refine zB_ks (ks' := [.inl (9, [none, none, none, some (some (1)), some none, some none, some none, some none, some none, some none, some none, some none]), .inr (0, 8, [])]) rfl ?_
    refine zB_aload ok dX9_init_12 0 rfl ?_
    refine zB_bipush (v := 8) ok dX9_init_13 (by decide) ?_
    refine zB_newan (n := 8) (t := 0) 2 rfl ok (by simp) za_int (by decide) (by decide) rfl ⟨Nat.le_of_ble_eq_true rfl, Nat.le_of_ble_eq_true rfl⟩ dX9_init_15 ?_
    refine zB_ks (ks' := [.inl (9, [none, none, none, some (some (1)), some none, some none, some none, some none, some none, some none, some none, some none]), .inr (0, 8, []), .inr (0, 8, [])]) rfl ?_
    refine zB_putF (ci := 9) (q := 2) ok rfl zc_9 hin_9 tyX9 tyX9_ok nmX9 (s := 4) (by decide) fi_9_15 ⟨rfl, rfl⟩ (tyX9_ok 4 (by decide)) rfl rfl (by decide) dX9_init_17 ?_
    refine zB_ks (ks' := [.inl (9, [none, none, none, some (some (1)), some (some (2)), some none, some none, some none, some none, some none, some none, some none]), .inr (0, 8, []), .inr (0, 8, [])]) rfl ?_
    refine zB_aload ok dX9_init_20 0 rfl ?_
    refine zB_bipush (v := 8) ok dX9_init_21 (by decide) ?_
    refine zB_newan (n := 8) (t := 0) 3 rfl ok (by simp) za_int (by decide) (by decide) rfl ⟨Nat.le_of_ble_eq_true rfl, Nat.le_of_ble_eq_true rfl⟩ dX9_init_23 ?_
    refine zB_ks (ks' := [.inl (9, [none, none, none, some (some (1)), some (some (2)), some none, some none, some none, some none, some none, some none, some none]), .inr (0, 8, []), .inr (0, 8, []), .inr (0, 8, [])]) rfl ?_
    refine zB_putF (ci := 9) (q := 3) ok rfl zc_9 hin_9 tyX9 tyX9_ok nmX9 (s := 5) (by decide) fi_9_18 ⟨rfl, rfl⟩ (tyX9_ok 5 (by decide)) rfl rfl (by decide) dX9_init_25 ?_
    refine zB_ks (ks' := [.inl (9, [none, none, none, some (some (1)), some (some (2)), some (some (3)), some none, some none, some none, some none, some none, some none]), .inr (0, 8, []), .inr (0, 8, []), .inr (0, 8, [])]) rfl ?_
    refine zB_aload ok dX9_init_28 0 rfl ?_
    refine zB_bipush (v := 8) ok dX9_init_29 (by decide) ?_
    refine zB_newan (n := 8) (t := 0) 4 rfl ok (by simp) za_int (by decide) (by decide) rfl ⟨Nat.le_of_ble_eq_true rfl, Nat.le_of_ble_eq_true rfl⟩ dX9_init_31 ?_
    refine zB_ks (ks' := [.inl (9, [none, none, none, some (some (1)), some (some (2)), some (some (3)), some none, some none, some none, some none, some none, some none]), .inr (0, 8, []), .inr (0, 8, []), .inr (0, 8, []), .inr (0, 8, [])]) rfl ?_
    refine zB_putF (ci := 9) (q := 4) ok rfl zc_9 hin_9 tyX9 tyX9_ok nmX9 (s := 6) (by decide) fi_9_21 ⟨rfl, rfl⟩ (tyX9_ok 6 (by decide)) rfl rfl (by decide) dX9_init_33 ?_
    refine zB_ks (ks' := [.inl (9, [none, none, none, some (some (1)), some (some (2)), some (some (3)), some (some (4)), some none, some none, some none, some none, some none]), .inr (0, 8, []), .inr (0, 8, []), .inr (0, 8, []), .inr (0, 8, [])]) rfl ?_
    refine zB_aload ok dX9_init_36 0 rfl ?_
    refine zB_bipush (v := 72) ok dX9_init_37 (by decide) ?_
    refine zB_newan (n := 72) (t := 0) 5 rfl ok (by simp) za_int (by decide) (by decide) rfl ⟨Nat.le_of_ble_eq_true rfl, Nat.le_of_ble_eq_true rfl⟩ dX9_init_39 ?_
    refine zB_ks (ks' := [.inl (9, [none, none, none, some (some (1)), some (some (2)), some (some (3)), some (some (4)), some none, some none, some none, some none, some none]), .inr (0, 8, []), .inr (0, 8, []), .inr (0, 8, []), .inr (0, 8, []), .inr (0, 72, [])]) rfl ?_
    refine zB_putF (ci := 9) (q := 5) ok rfl zc_9 hin_9 tyX9 tyX9_ok nmX9 (s := 7) (by decide) fi_9_24 ⟨rfl, rfl⟩ (tyX9_ok 7 (by decide)) rfl rfl (by decide) dX9_init_41 ?_
    refine zB_ks (ks' := [.inl (9, [none, none, none, some (some (1)), some (some (2)), some (some (3)), some (some (4)), some (some (5)), some none, some none, some none, some none]), .inr (0, 8, []), .inr (0, 8, []), .inr (0, 8, []), .inr (0, 8, []), .inr (0, 72, [])]) rfl ?_
    refine zB_aload ok dX9_init_44 0 rfl ?_
    refine zB_bipush (v := 10) ok dX9_init_45 (by decide) ?_
    refine zB_newan (n := 10) (t := 0) 6 rfl ok (by simp) za_int (by decide) (by decide) rfl ⟨Nat.le_of_ble_eq_true rfl, Nat.le_of_ble_eq_true rfl⟩ dX9_init_47 ?_
    refine zB_ks (ks' := [.inl (9, [none, none, none, some (some (1)), some (some (2)), some (some (3)), some (some (4)), some (some (5)), some none, some none, some none, some none]), .inr (0, 8, []), .inr (0, 8, []), .inr (0, 8, []), .inr (0, 8, []), .inr (0, 72, []), .inr (0, 10, [])]) rfl ?_
    refine zB_putF (ci := 9) (q := 6) ok rfl zc_9 hin_9 tyX9 tyX9_ok nmX9 (s := 8) (by decide) fi_9_27 ⟨rfl, rfl⟩ (tyX9_ok 8 (by decide)) rfl rfl (by decide) dX9_init_49 ?_
    refine zB_ks (ks' := [.inl (9, [none, none, none, some (some (1)), some (some (2)), some (some (3)), some (some (4)), some (some (5)), some (some (6)), some none, some none, some none]), .inr (0, 8, []), .inr (0, 8, []), .inr (0, 8, []), .inr (0, 8, []), .inr (0, 72, []), .inr (0, 10, [])]) rfl ?_
    refine zB_aload ok dX9_init_52 0 rfl ?_
    refine zB_bipush (v := 10) ok dX9_init_53 (by decide) ?_
    refine zB_newan (n := 10) (t := 0) 7 rfl ok (by simp) za_int (by decide) (by decide) rfl ⟨Nat.le_of_ble_eq_true rfl, Nat.le_of_ble_eq_true rfl⟩ dX9_init_55 ?_
    refine zB_ks (ks' := [.inl (9, [none, none, none, some (some (1)), some (some (2)), some (some (3)), some (some (4)), some (some (5)), some (some (6)), some none, some none, some none]), .inr (0, 8, []), .inr (0, 8, []), .inr (0, 8, []), .inr (0, 8, []), .inr (0, 72, []), .inr (0, 10, []), .inr (0, 10, [])]) rfl ?_
    refine zB_putF (ci := 9) (q := 7) ok rfl zc_9 hin_9 tyX9 tyX9_ok nmX9 (s := 9) (by decide) fi_9_30 ⟨rfl, rfl⟩ (tyX9_ok 9 (by decide)) rfl rfl (by decide) dX9_init_57 ?_
    refine zB_ks (ks' := [.inl (9, [none, none, none, some (some (1)), some (some (2)), some (some (3)), some (some (4)), some (some (5)), some (some (6)), some (some (7)), some none, some none]), .inr (0, 8, []), .inr (0, 8, []), .inr (0, 8, []), .inr (0, 8, []), .inr (0, 72, []), .inr (0, 10, []), .inr (0, 10, [])]) rfl ?_
    refine zB_aload ok dX9_init_60 0 rfl ?_
    refine zB_bipush (v := 7) ok dX9_init_61 (by decide) ?_
    refine zB_newan (n := 7) (t := 0) 8 rfl ok (by simp) za_int (by decide) (by decide) rfl ⟨Nat.le_of_ble_eq_true rfl, Nat.le_of_ble_eq_true rfl⟩ dX9_init_63 ?_
    refine zB_ks (ks' := [.inl (9, [none, none, none, some (some (1)), some (some (2)), some (some (3)), some (some (4)), some (some (5)), some (some (6)), some (some (7)), some none, some none]), .inr (0, 8, []), .inr (0, 8, []), .inr (0, 8, []), .inr (0, 8, []), .inr (0, 72, []), .inr (0, 10, []), .inr (0, 10, []), .inr (0, 7, [])]) rfl ?_
    refine zB_putF (ci := 9) (q := 8) ok rfl zc_9 hin_9 tyX9 tyX9_ok nmX9 (s := 10) (by decide) fi_9_33 ⟨rfl, rfl⟩ (tyX9_ok 10 (by decide)) rfl rfl (by decide) dX9_init_65 ?_
    refine zB_ks (ks' := [.inl (9, [none, none, none, some (some (1)), some (some (2)), some (some (3)), some (some (4)), some (some (5)), some (some (6)), some (some (7)), some (some (8)), some none]), .inr (0, 8, []), .inr (0, 8, []), .inr (0, 8, []), .inr (0, 8, []), .inr (0, 72, []), .inr (0, 10, []), .inr (0, 10, []), .inr (0, 7, [])]) rfl ?_
    refine zB_aload ok dX9_init_68 0 rfl ?_
    refine zB_newn (ci := 2) 9 rfl ok cl_9_36 zn_2.1 zn_2.2 zc_2 hin_2 tyX2 tyX2_ok zf_2 rfl ⟨Nat.le_of_ble_eq_true rfl, Nat.le_of_ble_eq_true rfl⟩ dX9_init_69 ?_
    refine zB_dup ok dX9_init_72 rfl ?_
    refine zB_init (host := "CanalKeeper") (k1 := 9) (k2 := 138) (st := [.ref (X.ad 9), .ref (X.ad 0)]) (ks := [.inl (9, [none, none, none, some (some (1)), some (some (2)), some (some (3)), some (some (4)), some (some (5)), some (some (6)), some (some (7)), some (some (8)), some none]), .inr (0, 8, []), .inr (0, 8, []), .inr (0, 8, []), .inr (0, 8, []), .inr (0, 72, []), .inr (0, 10, []), .inr (0, 10, []), .inr (0, 7, [])]) 9 rfl ok c_Notes_init zg_2 (fun _ _ => rfl) (by decide +kernel) w_Notes_init hy_Notes_init rfl ⟨rfl, rfl⟩ ⟨Nat.le_of_ble_eq_true rfl, Nat.le_of_ble_eq_true rfl⟩ ⟨Nat.le_of_ble_eq_true rfl, Nat.le_of_ble_eq_true rfl⟩ (Nat.le_of_ble_eq_true rfl) dX9_init_73 ?_
    refine zB_ks (ks' := [.inl (9, [none, none, none, some (some (1)), some (some (2)), some (some (3)), some (some (4)), some (some (5)), some (some (6)), some (some (7)), some (some (8)), some none]), .inr (0, 8, []), .inr (0, 8, []), .inr (0, 8, []), .inr (0, 8, []), .inr (0, 72, []), .inr (0, 10, []), .inr (0, 10, []), .inr (0, 7, []), .inl (2, [some (some (10)), some (some (11)), some (some (12)), some (some (13)), some (some (14)), some (some (15)), some (some (16))]), .inr (0, 8, []), .inr (0, 8, []), .inr (0, 8, []), .inr (0, 8, []), .inr (0, 8, []), .inr (0, 8, []), .inr (0, 8, [])]) rfl ?_
    refine zB_putF (ci := 9) (q := 9) ok rfl zc_9 hin_9 tyX9 tyX9_ok nmX9 (s := 11) (by decide) fi_9_39 ⟨rfl, rfl⟩ (tyX9_ok 11 (by decide)) rfl rfl (by decide) dX9_init_76 ?_
    refine zB_ks (ks' := [.inl (9, [none, none, none, some (some (1)), some (some (2)), some (some (3)), some (some (4)), some (some (5)), some (some (6)), some (some (7)), some (some (8)), some (some (9))]), .inr (0, 8, []), .inr (0, 8, []), .inr (0, 8, []), .inr (0, 8, []), .inr (0, 72, []), .inr (0, 10, []), .inr (0, 10, []), .inr (0, 7, []), .inl (2, [some (some (10)), some (some (11)), some (some (12)), some (some (13)), some (some (14)), some (some (15)), some (some (16))]), .inr (0, 8, []), .inr (0, 8, []), .inr (0, 8, []), .inr (0, 8, []), .inr (0, 8, []), .inr (0, 8, []), .inr (0, 8, [])]) rfl ?_
    exact hr _ _ dX9_init_79)
theorem dX0_init_0 : decode cX0_init 0 = .ok (.aload_n 0, 1) := by decide +kernel
theorem dX0_init_1 : decode cX0_init 1 = .ok (.invokespecial 3, 3) := by decide +kernel
theorem dX0_init_4 : decode cX0_init 4 = .ok (.aload_n 0, 1) := by decide +kernel
theorem dX0_init_5 : decode cX0_init 5 = .ok (.bipush 120, 2) := by decide +kernel
theorem dX0_init_7 : decode cX0_init 7 = .ok (.newarray .int, 2) := by decide +kernel
theorem dX0_init_9 : decode cX0_init 9 = .ok (.putfield 9, 3) := by decide +kernel
theorem dX0_init_12 : decode cX0_init 12 = .ok (.aload_n 0, 1) := by decide +kernel
theorem dX0_init_13 : decode cX0_init 13 = .ok (.sipush 1280, 3) := by decide +kernel
theorem dX0_init_16 : decode cX0_init 16 = .ok (.newarray .int, 2) := by decide +kernel
theorem dX0_init_18 : decode cX0_init 18 = .ok (.putfield 15, 3) := by decide +kernel
theorem dX0_init_21 : decode cX0_init 21 = .ok (.return_, 1) := by decide +kernel
theorem mo_0_3 : Cond.methodLink RX0 3 Lib.objectInit ∈ zT := zT_of (i := 449) (by decide +kernel) rfl
theorem fi_0_9 : Cond.fieldLink RX0 9 (TX0 1).1 (TX0 1).2.1 (TX0 1).2.2.1 ∈ zT := zT_of (i := 452) (by decide +kernel) rfl
theorem fi_0_15 : Cond.fieldLink RX0 15 (TX0 2).1 (TX0 2).2.1 (TX0 2).2.2.1 ∈ zT := zT_of (i := 453) (by decide +kernel) rfl
abbrev rm_Log_init : Room := { frames := 1, cells := 2, slots := 1400, locals := 12 }
def ks_Log_init : List Kd := [.inl (0, [none, some (some (1)), some (some (2))]), .inr (0, 120, []), .inr (0, 1280, [])]
theorem w_Log_init : Cond.instanceMethod yX0_init ∈ zT ∧ Cond.initialized yX0_init.cls ∈ zT ∧ Cond.code yX0_init cX0_init 1 none ∈ zT := ⟨zT_of (i := 447) (by decide +kernel) rfl, zT_of (i := 131) (by decide +kernel) rfl, zT_of (i := 448) (by decide +kernel) rfl⟩
theorem hy_Log_init : yX0_init.cls ≠ "java/lang/invoke/MethodHandle" ∧ yX0_init.cls ≠ "java/lang/invoke/VarHandle" ∧ (parseMethodDescriptor yX0_init.desc).map (fun d => d.parameters.length) = some 0 := by decide +kernel
set_option maxRecDepth 100000 in
set_option maxHeartbeats 4000000 in
theorem c_Log_init : ZiV yX0_init cX0_init 1 rm_Log_init fk_0 ks_Log_init zz0 2 1400 :=
  zmetB pn_0 rfl rfl (by decide) (fun X Q ok hr => by
    refine zB_aload ok dX0_init_0 0 rfl ?_
    refine zB_obj ok mo_0_3 zo_i.1 zo_i.2 (Nat.le_of_ble_eq_true rfl) (Nat.le_of_ble_eq_true rfl) dX0_init_1 ?_
    refine zB_aload ok dX0_init_4 0 rfl ?_
    refine zB_bipush (v := 120) ok dX0_init_5 (by decide) ?_
    refine zB_newan (n := 120) (t := 0) 1 rfl ok (by simp) za_int (by decide) (by decide) rfl ⟨Nat.le_of_ble_eq_true rfl, Nat.le_of_ble_eq_true rfl⟩ dX0_init_7 ?_
    refine zB_ks (ks' := [.inl (0, [none, some none, some none]), .inr (0, 120, [])]) rfl ?_
    refine zB_putF (ci := 0) (q := 1) ok rfl zc_0 hin_0 tyX0 tyX0_ok nmX0 (s := 1) (by decide) fi_0_9 ⟨rfl, rfl⟩ (tyX0_ok 1 (by decide)) rfl rfl (by decide) dX0_init_9 ?_
    refine zB_ks (ks' := [.inl (0, [none, some (some (1)), some none]), .inr (0, 120, [])]) rfl ?_
    refine zB_aload ok dX0_init_12 0 rfl ?_
    refine zB_sipush (v := 1280) ok dX0_init_13 (by decide) ?_
    refine zB_newan (n := 1280) (t := 0) 2 rfl ok (by simp) za_int (by decide) (by decide) rfl ⟨Nat.le_of_ble_eq_true rfl, Nat.le_of_ble_eq_true rfl⟩ dX0_init_16 ?_
    refine zB_ks (ks' := [.inl (0, [none, some (some (1)), some none]), .inr (0, 120, []), .inr (0, 1280, [])]) rfl ?_
    refine zB_putF (ci := 0) (q := 2) ok rfl zc_0 hin_0 tyX0 tyX0_ok nmX0 (s := 2) (by decide) fi_0_15 ⟨rfl, rfl⟩ (tyX0_ok 2 (by decide)) rfl rfl (by decide) dX0_init_18 ?_
    refine zB_ks (ks' := [.inl (0, [none, some (some (1)), some (some (2))]), .inr (0, 120, []), .inr (0, 1280, [])]) rfl ?_
    exact hr _ _ dX0_init_21)
theorem dX1_init_0 : decode cX1_init 0 = .ok (.aload_n 0, 1) := by decide +kernel
theorem dX1_init_1 : decode cX1_init 1 = .ok (.invokespecial 1, 3) := by decide +kernel
theorem dX1_init_4 : decode cX1_init 4 = .ok (.aload_n 0, 1) := by decide +kernel
theorem dX1_init_5 : decode cX1_init 5 = .ok (.new 7, 3) := by decide +kernel
theorem dX1_init_8 : decode cX1_init 8 = .ok (.dup, 1) := by decide +kernel
theorem dX1_init_9 : decode cX1_init 9 = .ok (.invokespecial 9, 3) := by decide +kernel
theorem dX1_init_12 : decode cX1_init 12 = .ok (.putfield 10, 3) := by decide +kernel
theorem dX1_init_15 : decode cX1_init 15 = .ok (.aload_n 0, 1) := by decide +kernel
theorem dX1_init_16 : decode cX1_init 16 = .ok (.new 16, 3) := by decide +kernel
theorem dX1_init_19 : decode cX1_init 19 = .ok (.dup, 1) := by decide +kernel
theorem dX1_init_20 : decode cX1_init 20 = .ok (.invokespecial 18, 3) := by decide +kernel
theorem dX1_init_23 : decode cX1_init 23 = .ok (.putfield 19, 3) := by decide +kernel
theorem dX1_init_26 : decode cX1_init 26 = .ok (.aload_n 0, 1) := by decide +kernel
theorem dX1_init_27 : decode cX1_init 27 = .ok (.new 23, 3) := by decide +kernel
theorem dX1_init_30 : decode cX1_init 30 = .ok (.dup, 1) := by decide +kernel
theorem dX1_init_31 : decode cX1_init 31 = .ok (.invokespecial 25, 3) := by decide +kernel
theorem dX1_init_34 : decode cX1_init 34 = .ok (.putfield 26, 3) := by decide +kernel
theorem dX1_init_37 : decode cX1_init 37 = .ok (.return_, 1) := by decide +kernel
theorem mo_1_1 : Cond.methodLink RX1 1 Lib.objectInit ∈ zT := zT_of (i := 329) (by decide +kernel) rfl
theorem cl_1_7 : Cond.classLink RX1 7 RX9 ∈ zT := zT_of (i := 330) (by decide +kernel) rfl
theorem fi_1_10 : Cond.fieldLink RX1 10 (TX1 0).1 (TX1 0).2.1 (TX1 0).2.2.1 ∈ zT := zT_of (i := 461) (by decide +kernel) rfl
theorem cl_1_16 : Cond.classLink RX1 16 RX3 ∈ zT := zT_of (i := 442) (by decide +kernel) rfl
theorem fi_1_19 : Cond.fieldLink RX1 19 (TX1 1).1 (TX1 1).2.1 (TX1 1).2.2.1 ∈ zT := zT_of (i := 464) (by decide +kernel) rfl
theorem cl_1_23 : Cond.classLink RX1 23 RX0 ∈ zT := zT_of (i := 444) (by decide +kernel) rfl
theorem fi_1_26 : Cond.fieldLink RX1 26 (TX1 2).1 (TX1 2).2.1 (TX1 2).2.2.1 ∈ zT := zT_of (i := 467) (by decide +kernel) rfl
abbrev rm_Moment_init : Room := { frames := 3, cells := 24, slots := 1661, locals := 52 }
def ks_Moment_init : List Kd := [.inl (1, [some (some (1)), some (some (18)), some (some (22))]), .inl (9, [none, none, none, some (some (2)), some (some (3)), some (some (4)), some (some (5)), some (some (6)), some (some (7)), some (some (8)), some (some (9)), some (some (10))]), .inr (0, 8, []), .inr (0, 8, []), .inr (0, 8, []), .inr (0, 8, []), .inr (0, 72, []), .inr (0, 10, []), .inr (0, 10, []), .inr (0, 7, []), .inl (2, [some (some (11)), some (some (12)), some (some (13)), some (some (14)), some (some (15)), some (some (16)), some (some (17))]), .inr (0, 8, []), .inr (0, 8, []), .inr (0, 8, []), .inr (0, 8, []), .inr (0, 8, []), .inr (0, 8, []), .inr (0, 8, []), .inl (3, [none, some (some (19)), some (some (20)), some (some (21))]), .inr (0, 16, []), .inr (0, 16, []), .inr (0, 16, []), .inl (0, [none, some (some (23)), some (some (24))]), .inr (0, 120, []), .inr (0, 1280, [])]
theorem w_Moment_init : Cond.instanceMethod yX1_init ∈ zT ∧ Cond.initialized yX1_init.cls ∈ zT ∧ Cond.code yX1_init cX1_init 1 none ∈ zT := ⟨zT_of (i := 327) (by decide +kernel) rfl, zT_of (i := 128) (by decide +kernel) rfl, zT_of (i := 328) (by decide +kernel) rfl⟩
theorem hy_Moment_init : yX1_init.cls ≠ "java/lang/invoke/MethodHandle" ∧ yX1_init.cls ≠ "java/lang/invoke/VarHandle" ∧ (parseMethodDescriptor yX1_init.desc).map (fun d => d.parameters.length) = some 0 := by decide +kernel
set_option maxRecDepth 100000 in
set_option maxHeartbeats 4000000 in
theorem c_Moment_init : ZiV yX1_init cX1_init 1 rm_Moment_init fk_1 ks_Moment_init zz0 24 1661 :=
  zmetB pn_1 rfl rfl (by decide) (fun X Q ok hr => by
    refine zB_aload ok dX1_init_0 0 rfl ?_
    refine zB_obj ok mo_1_1 zo_i.1 zo_i.2 (Nat.le_of_ble_eq_true rfl) (Nat.le_of_ble_eq_true rfl) dX1_init_1 ?_
    refine zB_aload ok dX1_init_4 0 rfl ?_
    refine zB_newn (ci := 9) 1 rfl ok cl_1_7 zn_9.1 zn_9.2 zc_9 hin_9 tyX9 tyX9_ok zf_9 rfl ⟨Nat.le_of_ble_eq_true rfl, Nat.le_of_ble_eq_true rfl⟩ dX1_init_5 ?_
    refine zB_dup ok dX1_init_8 rfl ?_
    refine zB_init (host := "CanalKeeper") (k1 := 1) (k2 := 12) (st := [.ref (X.ad 1), .ref (X.ad 0)]) (ks := [.inl (1, [some none, some none, some none])]) 1 rfl ok c_Water_init zg_9 (fun _ _ => rfl) (by decide +kernel) w_Water_init hy_Water_init rfl ⟨rfl, rfl⟩ ⟨Nat.le_of_ble_eq_true rfl, Nat.le_of_ble_eq_true rfl⟩ ⟨Nat.le_of_ble_eq_true rfl, Nat.le_of_ble_eq_true rfl⟩ (Nat.le_of_ble_eq_true rfl) dX1_init_9 ?_
    refine zB_ks (ks' := [.inl (1, [some none, some none, some none]), .inl (9, [none, none, none, some (some (2)), some (some (3)), some (some (4)), some (some (5)), some (some (6)), some (some (7)), some (some (8)), some (some (9)), some (some (10))]), .inr (0, 8, []), .inr (0, 8, []), .inr (0, 8, []), .inr (0, 8, []), .inr (0, 72, []), .inr (0, 10, []), .inr (0, 10, []), .inr (0, 7, []), .inl (2, [some (some (11)), some (some (12)), some (some (13)), some (some (14)), some (some (15)), some (some (16)), some (some (17))]), .inr (0, 8, []), .inr (0, 8, []), .inr (0, 8, []), .inr (0, 8, []), .inr (0, 8, []), .inr (0, 8, []), .inr (0, 8, [])]) rfl ?_
    refine zB_putF (ci := 1) (q := 1) ok rfl zc_1 hin_1 tyX1 tyX1_ok nmX1 (s := 0) (by decide) fi_1_10 ⟨rfl, rfl⟩ (tyX1_ok 0 (by decide)) rfl rfl (by decide) dX1_init_12 ?_
    refine zB_ks (ks' := [.inl (1, [some (some (1)), some none, some none]), .inl (9, [none, none, none, some (some (2)), some (some (3)), some (some (4)), some (some (5)), some (some (6)), some (some (7)), some (some (8)), some (some (9)), some (some (10))]), .inr (0, 8, []), .inr (0, 8, []), .inr (0, 8, []), .inr (0, 8, []), .inr (0, 72, []), .inr (0, 10, []), .inr (0, 10, []), .inr (0, 7, []), .inl (2, [some (some (11)), some (some (12)), some (some (13)), some (some (14)), some (some (15)), some (some (16)), some (some (17))]), .inr (0, 8, []), .inr (0, 8, []), .inr (0, 8, []), .inr (0, 8, []), .inr (0, 8, []), .inr (0, 8, []), .inr (0, 8, [])]) rfl ?_
    refine zB_aload ok dX1_init_15 0 rfl ?_
    refine zB_newn (ci := 3) 18 rfl ok cl_1_16 zn_3.1 zn_3.2 zc_3 hin_3 tyX3 tyX3_ok zf_3 rfl ⟨Nat.le_of_ble_eq_true rfl, Nat.le_of_ble_eq_true rfl⟩ dX1_init_16 ?_
    refine zB_dup ok dX1_init_19 rfl ?_
    refine zB_init (host := "CanalKeeper") (k1 := 18) (k2 := 210) (st := [.ref (X.ad 18), .ref (X.ad 0)]) (ks := [.inl (1, [some (some (1)), some none, some none]), .inl (9, [none, none, none, some (some (2)), some (some (3)), some (some (4)), some (some (5)), some (some (6)), some (some (7)), some (some (8)), some (some (9)), some (some (10))]), .inr (0, 8, []), .inr (0, 8, []), .inr (0, 8, []), .inr (0, 8, []), .inr (0, 72, []), .inr (0, 10, []), .inr (0, 10, []), .inr (0, 7, []), .inl (2, [some (some (11)), some (some (12)), some (some (13)), some (some (14)), some (some (15)), some (some (16)), some (some (17))]), .inr (0, 8, []), .inr (0, 8, []), .inr (0, 8, []), .inr (0, 8, []), .inr (0, 8, []), .inr (0, 8, []), .inr (0, 8, [])]) 18 rfl ok c_Orders_init zg_3 (fun _ _ => rfl) (by decide +kernel) w_Orders_init hy_Orders_init rfl ⟨rfl, rfl⟩ ⟨Nat.le_of_ble_eq_true rfl, Nat.le_of_ble_eq_true rfl⟩ ⟨Nat.le_of_ble_eq_true rfl, Nat.le_of_ble_eq_true rfl⟩ (Nat.le_of_ble_eq_true rfl) dX1_init_20 ?_
    refine zB_ks (ks' := [.inl (1, [some (some (1)), some none, some none]), .inl (9, [none, none, none, some (some (2)), some (some (3)), some (some (4)), some (some (5)), some (some (6)), some (some (7)), some (some (8)), some (some (9)), some (some (10))]), .inr (0, 8, []), .inr (0, 8, []), .inr (0, 8, []), .inr (0, 8, []), .inr (0, 72, []), .inr (0, 10, []), .inr (0, 10, []), .inr (0, 7, []), .inl (2, [some (some (11)), some (some (12)), some (some (13)), some (some (14)), some (some (15)), some (some (16)), some (some (17))]), .inr (0, 8, []), .inr (0, 8, []), .inr (0, 8, []), .inr (0, 8, []), .inr (0, 8, []), .inr (0, 8, []), .inr (0, 8, []), .inl (3, [none, some (some (19)), some (some (20)), some (some (21))]), .inr (0, 16, []), .inr (0, 16, []), .inr (0, 16, [])]) rfl ?_
    refine zB_putF (ci := 1) (q := 18) ok rfl zc_1 hin_1 tyX1 tyX1_ok nmX1 (s := 1) (by decide) fi_1_19 ⟨rfl, rfl⟩ (tyX1_ok 1 (by decide)) rfl rfl (by decide) dX1_init_23 ?_
    refine zB_ks (ks' := [.inl (1, [some (some (1)), some (some (18)), some none]), .inl (9, [none, none, none, some (some (2)), some (some (3)), some (some (4)), some (some (5)), some (some (6)), some (some (7)), some (some (8)), some (some (9)), some (some (10))]), .inr (0, 8, []), .inr (0, 8, []), .inr (0, 8, []), .inr (0, 8, []), .inr (0, 72, []), .inr (0, 10, []), .inr (0, 10, []), .inr (0, 7, []), .inl (2, [some (some (11)), some (some (12)), some (some (13)), some (some (14)), some (some (15)), some (some (16)), some (some (17))]), .inr (0, 8, []), .inr (0, 8, []), .inr (0, 8, []), .inr (0, 8, []), .inr (0, 8, []), .inr (0, 8, []), .inr (0, 8, []), .inl (3, [none, some (some (19)), some (some (20)), some (some (21))]), .inr (0, 16, []), .inr (0, 16, []), .inr (0, 16, [])]) rfl ?_
    refine zB_aload ok dX1_init_26 0 rfl ?_
    refine zB_newn (ci := 0) 22 rfl ok cl_1_23 zn_0.1 zn_0.2 zc_0 hin_0 tyX0 tyX0_ok zf_0 rfl ⟨Nat.le_of_ble_eq_true rfl, Nat.le_of_ble_eq_true rfl⟩ dX1_init_27 ?_
    refine zB_dup ok dX1_init_30 rfl ?_
    refine zB_init (host := "CanalKeeper") (k1 := 22) (k2 := 261) (st := [.ref (X.ad 22), .ref (X.ad 0)]) (ks := [.inl (1, [some (some (1)), some (some (18)), some none]), .inl (9, [none, none, none, some (some (2)), some (some (3)), some (some (4)), some (some (5)), some (some (6)), some (some (7)), some (some (8)), some (some (9)), some (some (10))]), .inr (0, 8, []), .inr (0, 8, []), .inr (0, 8, []), .inr (0, 8, []), .inr (0, 72, []), .inr (0, 10, []), .inr (0, 10, []), .inr (0, 7, []), .inl (2, [some (some (11)), some (some (12)), some (some (13)), some (some (14)), some (some (15)), some (some (16)), some (some (17))]), .inr (0, 8, []), .inr (0, 8, []), .inr (0, 8, []), .inr (0, 8, []), .inr (0, 8, []), .inr (0, 8, []), .inr (0, 8, []), .inl (3, [none, some (some (19)), some (some (20)), some (some (21))]), .inr (0, 16, []), .inr (0, 16, []), .inr (0, 16, [])]) 22 rfl ok c_Log_init zg_0 (fun _ _ => rfl) (by decide +kernel) w_Log_init hy_Log_init rfl ⟨rfl, rfl⟩ ⟨Nat.le_of_ble_eq_true rfl, Nat.le_of_ble_eq_true rfl⟩ ⟨Nat.le_of_ble_eq_true rfl, Nat.le_of_ble_eq_true rfl⟩ (Nat.le_of_ble_eq_true rfl) dX1_init_31 ?_
    refine zB_ks (ks' := [.inl (1, [some (some (1)), some (some (18)), some none]), .inl (9, [none, none, none, some (some (2)), some (some (3)), some (some (4)), some (some (5)), some (some (6)), some (some (7)), some (some (8)), some (some (9)), some (some (10))]), .inr (0, 8, []), .inr (0, 8, []), .inr (0, 8, []), .inr (0, 8, []), .inr (0, 72, []), .inr (0, 10, []), .inr (0, 10, []), .inr (0, 7, []), .inl (2, [some (some (11)), some (some (12)), some (some (13)), some (some (14)), some (some (15)), some (some (16)), some (some (17))]), .inr (0, 8, []), .inr (0, 8, []), .inr (0, 8, []), .inr (0, 8, []), .inr (0, 8, []), .inr (0, 8, []), .inr (0, 8, []), .inl (3, [none, some (some (19)), some (some (20)), some (some (21))]), .inr (0, 16, []), .inr (0, 16, []), .inr (0, 16, []), .inl (0, [none, some (some (23)), some (some (24))]), .inr (0, 120, []), .inr (0, 1280, [])]) rfl ?_
    refine zB_putF (ci := 1) (q := 22) ok rfl zc_1 hin_1 tyX1 tyX1_ok nmX1 (s := 2) (by decide) fi_1_26 ⟨rfl, rfl⟩ (tyX1_ok 2 (by decide)) rfl rfl (by decide) dX1_init_34 ?_
    refine zB_ks (ks' := [.inl (1, [some (some (1)), some (some (18)), some (some (22))]), .inl (9, [none, none, none, some (some (2)), some (some (3)), some (some (4)), some (some (5)), some (some (6)), some (some (7)), some (some (8)), some (some (9)), some (some (10))]), .inr (0, 8, []), .inr (0, 8, []), .inr (0, 8, []), .inr (0, 8, []), .inr (0, 72, []), .inr (0, 10, []), .inr (0, 10, []), .inr (0, 7, []), .inl (2, [some (some (11)), some (some (12)), some (some (13)), some (some (14)), some (some (15)), some (some (16)), some (some (17))]), .inr (0, 8, []), .inr (0, 8, []), .inr (0, 8, []), .inr (0, 8, []), .inr (0, 8, []), .inr (0, 8, []), .inr (0, 8, []), .inl (3, [none, some (some (19)), some (some (20)), some (some (21))]), .inr (0, 16, []), .inr (0, 16, []), .inr (0, 16, []), .inl (0, [none, some (some (23)), some (some (24))]), .inr (0, 120, []), .inr (0, 1280, [])]) rfl ?_
    exact hr _ _ dX1_init_37)
theorem dX6_init_0 : decode cX6_init 0 = .ok (.aload_n 0, 1) := by decide +kernel
theorem dX6_init_1 : decode cX6_init 1 = .ok (.invokespecial 3, 3) := by decide +kernel
theorem dX6_init_4 : decode cX6_init 4 = .ok (.aload_n 0, 1) := by decide +kernel
theorem dX6_init_5 : decode cX6_init 5 = .ok (.bipush 10, 2) := by decide +kernel
theorem dX6_init_7 : decode cX6_init 7 = .ok (.sipush 273, 3) := by decide +kernel
theorem dX6_init_10 : decode cX6_init 10 = .ok (.multianewarray 11 2, 4) := by decide +kernel
theorem dX6_init_14 : decode cX6_init 14 = .ok (.putfield 13, 3) := by decide +kernel
theorem dX6_init_17 : decode cX6_init 17 = .ok (.aload_n 0, 1) := by decide +kernel
theorem dX6_init_18 : decode cX6_init 18 = .ok (.bipush 8, 2) := by decide +kernel
theorem dX6_init_20 : decode cX6_init 20 = .ok (.sipush 201, 3) := by decide +kernel
theorem dX6_init_23 : decode cX6_init 23 = .ok (.multianewarray 16 2, 4) := by decide +kernel
theorem dX6_init_27 : decode cX6_init 27 = .ok (.putfield 18, 3) := by decide +kernel
theorem dX6_init_30 : decode cX6_init 30 = .ok (.return_, 1) := by decide +kernel
theorem mo_6_3 : Cond.methodLink RX6 3 Lib.objectInit ∈ zT := zT_of (i := 492) (by decide +kernel) rfl
theorem cl_6_11 : Cond.classLink RX6 11 ("[" ++ (FieldType.array .byte).toString) ∈ zT := zT_of (i := 493) (by decide +kernel) rfl
theorem fi_6_13 : Cond.fieldLink RX6 13 (TX6 3).1 (TX6 3).2.1 (TX6 3).2.2.1 ∈ zT := zT_of (i := 499) (by decide +kernel) rfl
theorem cl_6_16 : Cond.classLink RX6 16 ("[" ++ (FieldType.array .int).toString) ∈ zT := zT_of (i := 495) (by decide +kernel) rfl
theorem fi_6_18 : Cond.fieldLink RX6 18 (TX6 4).1 (TX6 4).2.1 (TX6 4).2.2.1 ∈ zT := zT_of (i := 500) (by decide +kernel) rfl
abbrev rm_Schedule_init : Room := { frames := 1, cells := 20, slots := 4356, locals := 12 }
def ks_Schedule_init : List Kd := [.inl (6, [none, none, none, some (some (1)), some (some (12))]), .inr (3, 10, [2, 3, 4, 5, 6, 7, 8, 9, 10, 11]), .inr (1, 273, []), .inr (1, 273, []), .inr (1, 273, []), .inr (1, 273, []), .inr (1, 273, []), .inr (1, 273, []), .inr (1, 273, []), .inr (1, 273, []), .inr (1, 273, []), .inr (1, 273, []), .inr (2, 8, [13, 14, 15, 16, 17, 18, 19, 20]), .inr (0, 201, []), .inr (0, 201, []), .inr (0, 201, []), .inr (0, 201, []), .inr (0, 201, []), .inr (0, 201, []), .inr (0, 201, []), .inr (0, 201, [])]
theorem w_Schedule_init : Cond.instanceMethod yX6_init ∈ zT ∧ Cond.initialized yX6_init.cls ∈ zT ∧ Cond.code yX6_init cX6_init 1 none ∈ zT := ⟨zT_of (i := 490) (by decide +kernel) rfl, zT_of (i := 133) (by decide +kernel) rfl, zT_of (i := 491) (by decide +kernel) rfl⟩
theorem hy_Schedule_init : yX6_init.cls ≠ "java/lang/invoke/MethodHandle" ∧ yX6_init.cls ≠ "java/lang/invoke/VarHandle" ∧ (parseMethodDescriptor yX6_init.desc).map (fun d => d.parameters.length) = some 0 := by decide +kernel
set_option maxRecDepth 100000 in
set_option maxHeartbeats 4000000 in
theorem c_Schedule_init : ZiV yX6_init cX6_init 1 rm_Schedule_init fk_6 ks_Schedule_init zz0 20 4356 :=
  zmetB pn_6 rfl rfl (by decide) (fun X Q ok hr => by
    refine zB_aload ok dX6_init_0 0 rfl ?_
    refine zB_obj ok mo_6_3 zo_i.1 zo_i.2 (Nat.le_of_ble_eq_true rfl) (Nat.le_of_ble_eq_true rfl) dX6_init_1 ?_
    refine zB_aload ok dX6_init_4 0 rfl ?_
    refine zB_bipush (v := 10) ok dX6_init_5 (by decide) ?_
    refine zB_sipush (v := 273) ok dX6_init_7 (by decide) ?_
    refine zB_mnan (N := 10) (K := 273) (t := 1) (ty := .byte) 1 rfl ok (by simp) cl_6_11 za_byte (by decide) (by decide) (by decide) (fun _ _ => rfl) ⟨Nat.le_of_ble_eq_true rfl, Nat.le_of_ble_eq_true rfl⟩ dX6_init_10 ?_
    refine zB_ks (ks' := [.inl (6, [none, none, none, some none, some none]), .inr (3, 10, [2, 3, 4, 5, 6, 7, 8, 9, 10, 11]), .inr (1, 273, []), .inr (1, 273, []), .inr (1, 273, []), .inr (1, 273, []), .inr (1, 273, []), .inr (1, 273, []), .inr (1, 273, []), .inr (1, 273, []), .inr (1, 273, []), .inr (1, 273, [])]) rfl ?_
    refine zB_putF (ci := 6) (q := 1) ok rfl zc_6 hin_6 tyX6 tyX6_ok nmX6 (s := 3) (by decide) fi_6_13 ⟨rfl, rfl⟩ (tyX6_ok 3 (by decide)) rfl rfl (by decide) dX6_init_14 ?_
    refine zB_ks (ks' := [.inl (6, [none, none, none, some (some (1)), some none]), .inr (3, 10, [2, 3, 4, 5, 6, 7, 8, 9, 10, 11]), .inr (1, 273, []), .inr (1, 273, []), .inr (1, 273, []), .inr (1, 273, []), .inr (1, 273, []), .inr (1, 273, []), .inr (1, 273, []), .inr (1, 273, []), .inr (1, 273, []), .inr (1, 273, [])]) rfl ?_
    refine zB_aload ok dX6_init_17 0 rfl ?_
    refine zB_bipush (v := 8) ok dX6_init_18 (by decide) ?_
    refine zB_sipush (v := 201) ok dX6_init_20 (by decide) ?_
    refine zB_mnan (N := 8) (K := 201) (t := 0) (ty := .int) 12 rfl ok (by simp) cl_6_16 za_int (by decide) (by decide) (by decide) (fun _ _ => rfl) ⟨Nat.le_of_ble_eq_true rfl, Nat.le_of_ble_eq_true rfl⟩ dX6_init_23 ?_
    refine zB_ks (ks' := [.inl (6, [none, none, none, some (some (1)), some none]), .inr (3, 10, [2, 3, 4, 5, 6, 7, 8, 9, 10, 11]), .inr (1, 273, []), .inr (1, 273, []), .inr (1, 273, []), .inr (1, 273, []), .inr (1, 273, []), .inr (1, 273, []), .inr (1, 273, []), .inr (1, 273, []), .inr (1, 273, []), .inr (1, 273, []), .inr (2, 8, [13, 14, 15, 16, 17, 18, 19, 20]), .inr (0, 201, []), .inr (0, 201, []), .inr (0, 201, []), .inr (0, 201, []), .inr (0, 201, []), .inr (0, 201, []), .inr (0, 201, []), .inr (0, 201, [])]) rfl ?_
    refine zB_putF (ci := 6) (q := 12) ok rfl zc_6 hin_6 tyX6 tyX6_ok nmX6 (s := 4) (by decide) fi_6_18 ⟨rfl, rfl⟩ (tyX6_ok 4 (by decide)) rfl rfl (by decide) dX6_init_27 ?_
    refine zB_ks (ks' := [.inl (6, [none, none, none, some (some (1)), some (some (12))]), .inr (3, 10, [2, 3, 4, 5, 6, 7, 8, 9, 10, 11]), .inr (1, 273, []), .inr (1, 273, []), .inr (1, 273, []), .inr (1, 273, []), .inr (1, 273, []), .inr (1, 273, []), .inr (1, 273, []), .inr (1, 273, []), .inr (1, 273, []), .inr (1, 273, []), .inr (2, 8, [13, 14, 15, 16, 17, 18, 19, 20]), .inr (0, 201, []), .inr (0, 201, []), .inr (0, 201, []), .inr (0, 201, []), .inr (0, 201, []), .inr (0, 201, []), .inr (0, 201, []), .inr (0, 201, [])]) rfl ?_
    exact hr _ _ dX6_init_30)
theorem dX4_init_0 : decode cX4_init 0 = .ok (.aload_n 0, 1) := by decide +kernel
theorem dX4_init_1 : decode cX4_init 1 = .ok (.invokespecial 3, 3) := by decide +kernel
theorem dX4_init_4 : decode cX4_init 4 = .ok (.aload_n 0, 1) := by decide +kernel
theorem dX4_init_5 : decode cX4_init 5 = .ok (.new 9, 3) := by decide +kernel
theorem dX4_init_8 : decode cX4_init 8 = .ok (.dup, 1) := by decide +kernel
theorem dX4_init_9 : decode cX4_init 9 = .ok (.invokespecial 11, 3) := by decide +kernel
theorem dX4_init_12 : decode cX4_init 12 = .ok (.putfield 12, 3) := by decide +kernel
theorem dX4_init_15 : decode cX4_init 15 = .ok (.aload_n 0, 1) := by decide +kernel
theorem dX4_init_16 : decode cX4_init 16 = .ok (.new 18, 3) := by decide +kernel
theorem dX4_init_19 : decode cX4_init 19 = .ok (.dup, 1) := by decide +kernel
theorem dX4_init_20 : decode cX4_init 20 = .ok (.invokespecial 20, 3) := by decide +kernel
theorem dX4_init_23 : decode cX4_init 23 = .ok (.putfield 21, 3) := by decide +kernel
theorem dX4_init_26 : decode cX4_init 26 = .ok (.aload_n 0, 1) := by decide +kernel
theorem dX4_init_27 : decode cX4_init 27 = .ok (.new 25, 3) := by decide +kernel
theorem dX4_init_30 : decode cX4_init 30 = .ok (.dup, 1) := by decide +kernel
theorem dX4_init_31 : decode cX4_init 31 = .ok (.invokespecial 27, 3) := by decide +kernel
theorem dX4_init_34 : decode cX4_init 34 = .ok (.putfield 28, 3) := by decide +kernel
theorem dX4_init_37 : decode cX4_init 37 = .ok (.return_, 1) := by decide +kernel
theorem mo_4_3 : Cond.methodLink RX4 3 Lib.objectInit ∈ zT := zT_of (i := 482) (by decide +kernel) rfl
theorem cl_4_9 : Cond.classLink RX4 9 RX9 ∈ zT := zT_of (i := 483) (by decide +kernel) rfl
theorem fi_4_12 : Cond.fieldLink RX4 12 (TX4 0).1 (TX4 0).2.1 (TX4 0).2.2.1 ∈ zT := zT_of (i := 512) (by decide +kernel) rfl
theorem cl_4_18 : Cond.classLink RX4 18 RX3 ∈ zT := zT_of (i := 485) (by decide +kernel) rfl
theorem fi_4_21 : Cond.fieldLink RX4 21 (TX4 1).1 (TX4 1).2.1 (TX4 1).2.2.1 ∈ zT := zT_of (i := 515) (by decide +kernel) rfl
theorem cl_4_25 : Cond.classLink RX4 25 RX6 ∈ zT := zT_of (i := 487) (by decide +kernel) rfl
def kl_Outlook_init_0 : List Kd := [.inl (4, [some (some (1)), some (some (18)), some none, some none, some none, none, none, none]), .inl (9, [none, none, none, some (some (2)), some (some (3)), some (some (4)), some (some (5)), some (some (6)), some (some (7)), some (some (8)), some (some (9)), some (some (10))]), .inr (0, 8, []), .inr (0, 8, []), .inr (0, 8, []), .inr (0, 8, []), .inr (0, 72, []), .inr (0, 10, []), .inr (0, 10, []), .inr (0, 7, []), .inl (2, [some (some (11)), some (some (12)), some (some (13)), some (some (14)), some (some (15)), some (some (16)), some (some (17))]), .inr (0, 8, []), .inr (0, 8, []), .inr (0, 8, []), .inr (0, 8, []), .inr (0, 8, []), .inr (0, 8, []), .inr (0, 8, []), .inl (3, [none, some (some (19)), some (some (20)), some (some (21))]), .inr (0, 16, []), .inr (0, 16, []), .inr (0, 16, []), .inl (6, [none, none, none, some (some (23)), some (some (34))]), .inr (3, 10, [24, 25, 26, 27, 28, 29, 30, 31, 32, 33]), .inr (1, 273, []), .inr (1, 273, []), .inr (1, 273, []), .inr (1, 273, []), .inr (1, 273, []), .inr (1, 273, [])] ++ ([.inr (1, 273, []), .inr (1, 273, []), .inr (1, 273, []), .inr (1, 273, []), .inr (2, 8, [35, 36, 37, 38, 39, 40, 41, 42]), .inr (0, 201, []), .inr (0, 201, []), .inr (0, 201, []), .inr (0, 201, []), .inr (0, 201, []), .inr (0, 201, []), .inr (0, 201, []), .inr (0, 201, [])])
theorem fi_4_28 : Cond.fieldLink RX4 28 (TX4 2).1 (TX4 2).2.1 (TX4 2).2.2.1 ∈ zT := zT_of (i := 516) (by decide +kernel) rfl
def kl_Outlook_init_1 : List Kd := [.inl (4, [some (some (1)), some (some (18)), some (some (22)), some none, some none, none, none, none]), .inl (9, [none, none, none, some (some (2)), some (some (3)), some (some (4)), some (some (5)), some (some (6)), some (some (7)), some (some (8)), some (some (9)), some (some (10))]), .inr (0, 8, []), .inr (0, 8, []), .inr (0, 8, []), .inr (0, 8, []), .inr (0, 72, []), .inr (0, 10, []), .inr (0, 10, []), .inr (0, 7, []), .inl (2, [some (some (11)), some (some (12)), some (some (13)), some (some (14)), some (some (15)), some (some (16)), some (some (17))]), .inr (0, 8, []), .inr (0, 8, []), .inr (0, 8, []), .inr (0, 8, []), .inr (0, 8, []), .inr (0, 8, []), .inr (0, 8, []), .inl (3, [none, some (some (19)), some (some (20)), some (some (21))]), .inr (0, 16, []), .inr (0, 16, []), .inr (0, 16, []), .inl (6, [none, none, none, some (some (23)), some (some (34))]), .inr (3, 10, [24, 25, 26, 27, 28, 29, 30, 31, 32, 33]), .inr (1, 273, []), .inr (1, 273, []), .inr (1, 273, []), .inr (1, 273, []), .inr (1, 273, []), .inr (1, 273, [])] ++ ([.inr (1, 273, []), .inr (1, 273, []), .inr (1, 273, []), .inr (1, 273, []), .inr (2, 8, [35, 36, 37, 38, 39, 40, 41, 42]), .inr (0, 201, []), .inr (0, 201, []), .inr (0, 201, []), .inr (0, 201, []), .inr (0, 201, []), .inr (0, 201, []), .inr (0, 201, []), .inr (0, 201, [])])
abbrev rm_Outlook_init : Room := { frames := 3, cells := 42, slots := 4619, locals := 52 }
def ks_Outlook_init : List Kd := kl_Outlook_init_1
theorem w_Outlook_init : Cond.instanceMethod yX4_init ∈ zT ∧ Cond.initialized yX4_init.cls ∈ zT ∧ Cond.code yX4_init cX4_init 1 none ∈ zT := ⟨zT_of (i := 480) (by decide +kernel) rfl, zT_of (i := 132) (by decide +kernel) rfl, zT_of (i := 481) (by decide +kernel) rfl⟩
theorem hy_Outlook_init : yX4_init.cls ≠ "java/lang/invoke/MethodHandle" ∧ yX4_init.cls ≠ "java/lang/invoke/VarHandle" ∧ (parseMethodDescriptor yX4_init.desc).map (fun d => d.parameters.length) = some 0 := by decide +kernel
set_option maxRecDepth 100000 in
set_option maxHeartbeats 4000000 in
theorem c_Outlook_init : ZiV yX4_init cX4_init 1 rm_Outlook_init fk_4 ks_Outlook_init zz0 42 4619 :=
  zmetB pn_4 rfl rfl (by decide) (fun X Q ok hr => by
    refine zB_aload ok dX4_init_0 0 rfl ?_
    refine zB_obj ok mo_4_3 zo_i.1 zo_i.2 (Nat.le_of_ble_eq_true rfl) (Nat.le_of_ble_eq_true rfl) dX4_init_1 ?_
    refine zB_aload ok dX4_init_4 0 rfl ?_
    refine zB_newn (ci := 9) 1 rfl ok cl_4_9 zn_9.1 zn_9.2 zc_9 hin_9 tyX9 tyX9_ok zf_9 rfl ⟨Nat.le_of_ble_eq_true rfl, Nat.le_of_ble_eq_true rfl⟩ dX4_init_5 ?_
    refine zB_dup ok dX4_init_8 rfl ?_
    refine zB_init (host := "CanalKeeper") (k1 := 1) (k2 := 12) (st := [.ref (X.ad 1), .ref (X.ad 0)]) (ks := [.inl (4, [some none, some none, some none, some none, some none, none, none, none])]) 1 rfl ok c_Water_init zg_9 (fun _ _ => rfl) (by decide +kernel) w_Water_init hy_Water_init rfl ⟨rfl, rfl⟩ ⟨Nat.le_of_ble_eq_true rfl, Nat.le_of_ble_eq_true rfl⟩ ⟨Nat.le_of_ble_eq_true rfl, Nat.le_of_ble_eq_true rfl⟩ (Nat.le_of_ble_eq_true rfl) dX4_init_9 ?_
    refine zB_ks (ks' := [.inl (4, [some none, some none, some none, some none, some none, none, none, none]), .inl (9, [none, none, none, some (some (2)), some (some (3)), some (some (4)), some (some (5)), some (some (6)), some (some (7)), some (some (8)), some (some (9)), some (some (10))]), .inr (0, 8, []), .inr (0, 8, []), .inr (0, 8, []), .inr (0, 8, []), .inr (0, 72, []), .inr (0, 10, []), .inr (0, 10, []), .inr (0, 7, []), .inl (2, [some (some (11)), some (some (12)), some (some (13)), some (some (14)), some (some (15)), some (some (16)), some (some (17))]), .inr (0, 8, []), .inr (0, 8, []), .inr (0, 8, []), .inr (0, 8, []), .inr (0, 8, []), .inr (0, 8, []), .inr (0, 8, [])]) rfl ?_
    refine zB_putF (ci := 4) (q := 1) ok rfl zc_4 hin_4 tyX4 tyX4_ok nmX4 (s := 0) (by decide) fi_4_12 ⟨rfl, rfl⟩ (tyX4_ok 0 (by decide)) rfl rfl (by decide) dX4_init_12 ?_
    refine zB_ks (ks' := [.inl (4, [some (some (1)), some none, some none, some none, some none, none, none, none]), .inl (9, [none, none, none, some (some (2)), some (some (3)), some (some (4)), some (some (5)), some (some (6)), some (some (7)), some (some (8)), some (some (9)), some (some (10))]), .inr (0, 8, []), .inr (0, 8, []), .inr (0, 8, []), .inr (0, 8, []), .inr (0, 72, []), .inr (0, 10, []), .inr (0, 10, []), .inr (0, 7, []), .inl (2, [some (some (11)), some (some (12)), some (some (13)), some (some (14)), some (some (15)), some (some (16)), some (some (17))]), .inr (0, 8, []), .inr (0, 8, []), .inr (0, 8, []), .inr (0, 8, []), .inr (0, 8, []), .inr (0, 8, []), .inr (0, 8, [])]) rfl ?_
    refine zB_aload ok dX4_init_15 0 rfl ?_
    refine zB_newn (ci := 3) 18 rfl ok cl_4_18 zn_3.1 zn_3.2 zc_3 hin_3 tyX3 tyX3_ok zf_3 rfl ⟨Nat.le_of_ble_eq_true rfl, Nat.le_of_ble_eq_true rfl⟩ dX4_init_16 ?_
    refine zB_dup ok dX4_init_19 rfl ?_
    refine zB_init (host := "CanalKeeper") (k1 := 18) (k2 := 210) (st := [.ref (X.ad 18), .ref (X.ad 0)]) (ks := [.inl (4, [some (some (1)), some none, some none, some none, some none, none, none, none]), .inl (9, [none, none, none, some (some (2)), some (some (3)), some (some (4)), some (some (5)), some (some (6)), some (some (7)), some (some (8)), some (some (9)), some (some (10))]), .inr (0, 8, []), .inr (0, 8, []), .inr (0, 8, []), .inr (0, 8, []), .inr (0, 72, []), .inr (0, 10, []), .inr (0, 10, []), .inr (0, 7, []), .inl (2, [some (some (11)), some (some (12)), some (some (13)), some (some (14)), some (some (15)), some (some (16)), some (some (17))]), .inr (0, 8, []), .inr (0, 8, []), .inr (0, 8, []), .inr (0, 8, []), .inr (0, 8, []), .inr (0, 8, []), .inr (0, 8, [])]) 18 rfl ok c_Orders_init zg_3 (fun _ _ => rfl) (by decide +kernel) w_Orders_init hy_Orders_init rfl ⟨rfl, rfl⟩ ⟨Nat.le_of_ble_eq_true rfl, Nat.le_of_ble_eq_true rfl⟩ ⟨Nat.le_of_ble_eq_true rfl, Nat.le_of_ble_eq_true rfl⟩ (Nat.le_of_ble_eq_true rfl) dX4_init_20 ?_
    refine zB_ks (ks' := [.inl (4, [some (some (1)), some none, some none, some none, some none, none, none, none]), .inl (9, [none, none, none, some (some (2)), some (some (3)), some (some (4)), some (some (5)), some (some (6)), some (some (7)), some (some (8)), some (some (9)), some (some (10))]), .inr (0, 8, []), .inr (0, 8, []), .inr (0, 8, []), .inr (0, 8, []), .inr (0, 72, []), .inr (0, 10, []), .inr (0, 10, []), .inr (0, 7, []), .inl (2, [some (some (11)), some (some (12)), some (some (13)), some (some (14)), some (some (15)), some (some (16)), some (some (17))]), .inr (0, 8, []), .inr (0, 8, []), .inr (0, 8, []), .inr (0, 8, []), .inr (0, 8, []), .inr (0, 8, []), .inr (0, 8, []), .inl (3, [none, some (some (19)), some (some (20)), some (some (21))]), .inr (0, 16, []), .inr (0, 16, []), .inr (0, 16, [])]) rfl ?_
    refine zB_putF (ci := 4) (q := 18) ok rfl zc_4 hin_4 tyX4 tyX4_ok nmX4 (s := 1) (by decide) fi_4_21 ⟨rfl, rfl⟩ (tyX4_ok 1 (by decide)) rfl rfl (by decide) dX4_init_23 ?_
    refine zB_ks (ks' := [.inl (4, [some (some (1)), some (some (18)), some none, some none, some none, none, none, none]), .inl (9, [none, none, none, some (some (2)), some (some (3)), some (some (4)), some (some (5)), some (some (6)), some (some (7)), some (some (8)), some (some (9)), some (some (10))]), .inr (0, 8, []), .inr (0, 8, []), .inr (0, 8, []), .inr (0, 8, []), .inr (0, 72, []), .inr (0, 10, []), .inr (0, 10, []), .inr (0, 7, []), .inl (2, [some (some (11)), some (some (12)), some (some (13)), some (some (14)), some (some (15)), some (some (16)), some (some (17))]), .inr (0, 8, []), .inr (0, 8, []), .inr (0, 8, []), .inr (0, 8, []), .inr (0, 8, []), .inr (0, 8, []), .inr (0, 8, []), .inl (3, [none, some (some (19)), some (some (20)), some (some (21))]), .inr (0, 16, []), .inr (0, 16, []), .inr (0, 16, [])]) rfl ?_
    refine zB_aload ok dX4_init_26 0 rfl ?_
    refine zB_newn (ci := 6) 22 rfl ok cl_4_25 zn_6.1 zn_6.2 zc_6 hin_6 tyX6 tyX6_ok zf_6 rfl ⟨Nat.le_of_ble_eq_true rfl, Nat.le_of_ble_eq_true rfl⟩ dX4_init_27 ?_
    refine zB_dup ok dX4_init_30 rfl ?_
    refine zB_init (host := "CanalKeeper") (k1 := 22) (k2 := 263) (st := [.ref (X.ad 22), .ref (X.ad 0)]) (ks := [.inl (4, [some (some (1)), some (some (18)), some none, some none, some none, none, none, none]), .inl (9, [none, none, none, some (some (2)), some (some (3)), some (some (4)), some (some (5)), some (some (6)), some (some (7)), some (some (8)), some (some (9)), some (some (10))]), .inr (0, 8, []), .inr (0, 8, []), .inr (0, 8, []), .inr (0, 8, []), .inr (0, 72, []), .inr (0, 10, []), .inr (0, 10, []), .inr (0, 7, []), .inl (2, [some (some (11)), some (some (12)), some (some (13)), some (some (14)), some (some (15)), some (some (16)), some (some (17))]), .inr (0, 8, []), .inr (0, 8, []), .inr (0, 8, []), .inr (0, 8, []), .inr (0, 8, []), .inr (0, 8, []), .inr (0, 8, []), .inl (3, [none, some (some (19)), some (some (20)), some (some (21))]), .inr (0, 16, []), .inr (0, 16, []), .inr (0, 16, [])]) 22 rfl ok c_Schedule_init zg_6 (fun _ _ => rfl) (by decide +kernel) w_Schedule_init hy_Schedule_init rfl ⟨rfl, rfl⟩ ⟨Nat.le_of_ble_eq_true rfl, Nat.le_of_ble_eq_true rfl⟩ ⟨Nat.le_of_ble_eq_true rfl, Nat.le_of_ble_eq_true rfl⟩ (Nat.le_of_ble_eq_true rfl) dX4_init_31 ?_
    refine zB_ks (ks' := kl_Outlook_init_0) rfl ?_
    refine zB_putF (ci := 4) (q := 22) ok rfl zc_4 hin_4 tyX4 tyX4_ok nmX4 (s := 2) (by decide) fi_4_28 ⟨rfl, rfl⟩ (tyX4_ok 2 (by decide)) rfl rfl (by decide) dX4_init_34 ?_
    refine zB_ks (ks' := kl_Outlook_init_1) rfl ?_
    exact hr _ _ dX4_init_37)
theorem dX7_init_0 : decode cX7_init 0 = .ok (.aload_n 0, 1) := by decide +kernel
theorem dX7_init_1 : decode cX7_init 1 = .ok (.invokespecial 3, 3) := by decide +kernel
theorem dX7_init_4 : decode cX7_init 4 = .ok (.aload_n 0, 1) := by decide +kernel
theorem dX7_init_5 : decode cX7_init 5 = .ok (.bipush 10, 2) := by decide +kernel
theorem dX7_init_7 : decode cX7_init 7 = .ok (.newarray .int, 2) := by decide +kernel
theorem dX7_init_9 : decode cX7_init 9 = .ok (.putfield 9, 3) := by decide +kernel
theorem dX7_init_12 : decode cX7_init 12 = .ok (.aload_n 0, 1) := by decide +kernel
theorem dX7_init_13 : decode cX7_init 13 = .ok (.bipush 10, 2) := by decide +kernel
theorem dX7_init_15 : decode cX7_init 15 = .ok (.newarray .int, 2) := by decide +kernel
theorem dX7_init_17 : decode cX7_init 17 = .ok (.putfield 15, 3) := by decide +kernel
theorem dX7_init_20 : decode cX7_init 20 = .ok (.aload_n 0, 1) := by decide +kernel
theorem dX7_init_21 : decode cX7_init 21 = .ok (.bipush 41, 2) := by decide +kernel
theorem dX7_init_23 : decode cX7_init 23 = .ok (.newarray .int, 2) := by decide +kernel
theorem dX7_init_25 : decode cX7_init 25 = .ok (.putfield 18, 3) := by decide +kernel
theorem dX7_init_28 : decode cX7_init 28 = .ok (.aload_n 0, 1) := by decide +kernel
theorem dX7_init_29 : decode cX7_init 29 = .ok (.bipush 41, 2) := by decide +kernel
theorem dX7_init_31 : decode cX7_init 31 = .ok (.bipush 41, 2) := by decide +kernel
theorem dX7_init_33 : decode cX7_init 33 = .ok (.multianewarray 21 2, 4) := by decide +kernel
theorem dX7_init_37 : decode cX7_init 37 = .ok (.putfield 23, 3) := by decide +kernel
theorem dX7_init_40 : decode cX7_init 40 = .ok (.return_, 1) := by decide +kernel
theorem mo_7_3 : Cond.methodLink RX7 3 Lib.objectInit ∈ zT := zT_of (i := 547) (by decide +kernel) rfl
theorem fi_7_9 : Cond.fieldLink RX7 9 (TX7 2).1 (TX7 2).2.1 (TX7 2).2.2.1 ∈ zT := zT_of (i := 552) (by decide +kernel) rfl
theorem fi_7_15 : Cond.fieldLink RX7 15 (TX7 3).1 (TX7 3).2.1 (TX7 3).2.2.1 ∈ zT := zT_of (i := 553) (by decide +kernel) rfl
theorem fi_7_18 : Cond.fieldLink RX7 18 (TX7 5).1 (TX7 5).2.1 (TX7 5).2.2.1 ∈ zT := zT_of (i := 556) (by decide +kernel) rfl
theorem cl_7_21 : Cond.classLink RX7 21 ("[" ++ (FieldType.array .int).toString) ∈ zT := zT_of (i := 548) (by decide +kernel) rfl
def kl_Sight_init_2 : List Kd := [.inl (7, [none, none, some (some (1)), some (some (2)), none, some (some (3)), some none]), .inr (0, 10, []), .inr (0, 10, []), .inr (0, 41, []), .inr (2, 41, [5, 6, 7, 8, 9, 10, 11, 12, 13, 14, 15, 16, 17, 18, 19, 20, 21, 22, 23, 24, 25, 26, 27, 28, 29, 30, 31, 32, 33, 34, 35, 36, 37, 38, 39, 40, 41, 42, 43, 44, 45]), .inr (0, 41, []), .inr (0, 41, []), .inr (0, 41, []), .inr (0, 41, []), .inr (0, 41, []), .inr (0, 41, []), .inr (0, 41, []), .inr (0, 41, []), .inr (0, 41, []), .inr (0, 41, []), .inr (0, 41, []), .inr (0, 41, []), .inr (0, 41, []), .inr (0, 41, []), .inr (0, 41, []), .inr (0, 41, []), .inr (0, 41, []), .inr (0, 41, []), .inr (0, 41, []), .inr (0, 41, []), .inr (0, 41, []), .inr (0, 41, []), .inr (0, 41, []), .inr (0, 41, []), .inr (0, 41, [])] ++ ([.inr (0, 41, []), .inr (0, 41, []), .inr (0, 41, []), .inr (0, 41, []), .inr (0, 41, []), .inr (0, 41, []), .inr (0, 41, []), .inr (0, 41, []), .inr (0, 41, []), .inr (0, 41, []), .inr (0, 41, []), .inr (0, 41, []), .inr (0, 41, []), .inr (0, 41, []), .inr (0, 41, []), .inr (0, 41, [])])
theorem fi_7_23 : Cond.fieldLink RX7 23 (TX7 6).1 (TX7 6).2.1 (TX7 6).2.2.1 ∈ zT := zT_of (i := 558) (by decide +kernel) rfl
def kl_Sight_init_3 : List Kd := [.inl (7, [none, none, some (some (1)), some (some (2)), none, some (some (3)), some (some (4))]), .inr (0, 10, []), .inr (0, 10, []), .inr (0, 41, []), .inr (2, 41, [5, 6, 7, 8, 9, 10, 11, 12, 13, 14, 15, 16, 17, 18, 19, 20, 21, 22, 23, 24, 25, 26, 27, 28, 29, 30, 31, 32, 33, 34, 35, 36, 37, 38, 39, 40, 41, 42, 43, 44, 45]), .inr (0, 41, []), .inr (0, 41, []), .inr (0, 41, []), .inr (0, 41, []), .inr (0, 41, []), .inr (0, 41, []), .inr (0, 41, []), .inr (0, 41, []), .inr (0, 41, []), .inr (0, 41, []), .inr (0, 41, []), .inr (0, 41, []), .inr (0, 41, []), .inr (0, 41, []), .inr (0, 41, []), .inr (0, 41, []), .inr (0, 41, []), .inr (0, 41, []), .inr (0, 41, []), .inr (0, 41, []), .inr (0, 41, []), .inr (0, 41, []), .inr (0, 41, []), .inr (0, 41, []), .inr (0, 41, [])] ++ ([.inr (0, 41, []), .inr (0, 41, []), .inr (0, 41, []), .inr (0, 41, []), .inr (0, 41, []), .inr (0, 41, []), .inr (0, 41, []), .inr (0, 41, []), .inr (0, 41, []), .inr (0, 41, []), .inr (0, 41, []), .inr (0, 41, []), .inr (0, 41, []), .inr (0, 41, []), .inr (0, 41, []), .inr (0, 41, [])])
abbrev rm_Sight_init : Room := { frames := 1, cells := 45, slots := 1783, locals := 12 }
def ks_Sight_init : List Kd := kl_Sight_init_3
theorem w_Sight_init : Cond.instanceMethod yX7_init ∈ zT ∧ Cond.initialized yX7_init.cls ∈ zT ∧ Cond.code yX7_init cX7_init 1 none ∈ zT := ⟨zT_of (i := 545) (by decide +kernel) rfl, zT_of (i := 134) (by decide +kernel) rfl, zT_of (i := 546) (by decide +kernel) rfl⟩
theorem hy_Sight_init : yX7_init.cls ≠ "java/lang/invoke/MethodHandle" ∧ yX7_init.cls ≠ "java/lang/invoke/VarHandle" ∧ (parseMethodDescriptor yX7_init.desc).map (fun d => d.parameters.length) = some 0 := by decide +kernel
set_option maxRecDepth 100000 in
set_option maxHeartbeats 4000000 in
theorem c_Sight_init : ZiV yX7_init cX7_init 1 rm_Sight_init fk_7 ks_Sight_init zz0 45 1783 :=
  zmetB pn_7 rfl rfl (by decide) (fun X Q ok hr => by
    refine zB_aload ok dX7_init_0 0 rfl ?_
    refine zB_obj ok mo_7_3 zo_i.1 zo_i.2 (Nat.le_of_ble_eq_true rfl) (Nat.le_of_ble_eq_true rfl) dX7_init_1 ?_
    refine zB_aload ok dX7_init_4 0 rfl ?_
    refine zB_bipush (v := 10) ok dX7_init_5 (by decide) ?_
    refine zB_newan (n := 10) (t := 0) 1 rfl ok (by simp) za_int (by decide) (by decide) rfl ⟨Nat.le_of_ble_eq_true rfl, Nat.le_of_ble_eq_true rfl⟩ dX7_init_7 ?_
    refine zB_ks (ks' := [.inl (7, [none, none, some none, some none, none, some none, some none]), .inr (0, 10, [])]) rfl ?_
    refine zB_putF (ci := 7) (q := 1) ok rfl zc_7 hin_7 tyX7 tyX7_ok nmX7 (s := 2) (by decide) fi_7_9 ⟨rfl, rfl⟩ (tyX7_ok 2 (by decide)) rfl rfl (by decide) dX7_init_9 ?_
    refine zB_ks (ks' := [.inl (7, [none, none, some (some (1)), some none, none, some none, some none]), .inr (0, 10, [])]) rfl ?_
    refine zB_aload ok dX7_init_12 0 rfl ?_
    refine zB_bipush (v := 10) ok dX7_init_13 (by decide) ?_
    refine zB_newan (n := 10) (t := 0) 2 rfl ok (by simp) za_int (by decide) (by decide) rfl ⟨Nat.le_of_ble_eq_true rfl, Nat.le_of_ble_eq_true rfl⟩ dX7_init_15 ?_
    refine zB_ks (ks' := [.inl (7, [none, none, some (some (1)), some none, none, some none, some none]), .inr (0, 10, []), .inr (0, 10, [])]) rfl ?_
    refine zB_putF (ci := 7) (q := 2) ok rfl zc_7 hin_7 tyX7 tyX7_ok nmX7 (s := 3) (by decide) fi_7_15 ⟨rfl, rfl⟩ (tyX7_ok 3 (by decide)) rfl rfl (by decide) dX7_init_17 ?_
    refine zB_ks (ks' := [.inl (7, [none, none, some (some (1)), some (some (2)), none, some none, some none]), .inr (0, 10, []), .inr (0, 10, [])]) rfl ?_
    refine zB_aload ok dX7_init_20 0 rfl ?_
    refine zB_bipush (v := 41) ok dX7_init_21 (by decide) ?_
    refine zB_newan (n := 41) (t := 0) 3 rfl ok (by simp) za_int (by decide) (by decide) rfl ⟨Nat.le_of_ble_eq_true rfl, Nat.le_of_ble_eq_true rfl⟩ dX7_init_23 ?_
    refine zB_ks (ks' := [.inl (7, [none, none, some (some (1)), some (some (2)), none, some none, some none]), .inr (0, 10, []), .inr (0, 10, []), .inr (0, 41, [])]) rfl ?_
    refine zB_putF (ci := 7) (q := 3) ok rfl zc_7 hin_7 tyX7 tyX7_ok nmX7 (s := 5) (by decide) fi_7_18 ⟨rfl, rfl⟩ (tyX7_ok 5 (by decide)) rfl rfl (by decide) dX7_init_25 ?_
    refine zB_ks (ks' := [.inl (7, [none, none, some (some (1)), some (some (2)), none, some (some (3)), some none]), .inr (0, 10, []), .inr (0, 10, []), .inr (0, 41, [])]) rfl ?_
    refine zB_aload ok dX7_init_28 0 rfl ?_
    refine zB_bipush (v := 41) ok dX7_init_29 (by decide) ?_
    refine zB_bipush (v := 41) ok dX7_init_31 (by decide) ?_
    refine zB_mnan (N := 41) (K := 41) (t := 0) (ty := .int) 4 rfl ok (by simp) cl_7_21 za_int (by decide) (by decide) (by decide) (fun _ _ => rfl) ⟨Nat.le_of_ble_eq_true rfl, Nat.le_of_ble_eq_true rfl⟩ dX7_init_33 ?_
    refine zB_ks (ks' := kl_Sight_init_2) rfl ?_
    refine zB_putF (ci := 7) (q := 4) ok rfl zc_7 hin_7 tyX7 tyX7_ok nmX7 (s := 6) (by decide) fi_7_23 ⟨rfl, rfl⟩ (tyX7_ok 6 (by decide)) rfl rfl (by decide) dX7_init_37 ?_
    refine zB_ks (ks' := kl_Sight_init_3) rfl ?_
    exact hr _ _ dX7_init_40)
