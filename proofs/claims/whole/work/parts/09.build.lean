def zz0 : Sg := fun _ _ => 0
def zBw (D : va_G) (cs : Nat → ClassId) (ad : Nat → Nat) (ks : List Kd) (σ : Sg) (H : Heap) : Prop := H.size = ad ks.length ∧ ∀ (j : Nat) (k : Kd), ks[j]? = some k → va_at D zcl (ad j, zce cs ad (σ j) k) H
def zAO (U : State) : Prop := (Cond.arrayOver (.array .int)).before #[] U = true ∧ (Cond.arrayOver (.array .byte)).before #[] U = true ∧ (Cond.arrayOver (.object "CanalKeeper$Moment")).before #[] U = true
theorem zAO.moved {u U : State} (hvm : u.vm.Alike U.vm) (h : zAO u) : zAO U := by
  have key : ∀ ty, (Cond.arrayOver ty).before #[] u = true → (Cond.arrayOver ty).before #[] U = true := fun ty h1 => by
    have h2 : (Cond.arrayOver ty).before #[] (u.setVm U.vm) = true := by rw [Cond.arrayOver_setVmC hvm]; exact h1
    exact h2
  exact ⟨key _ h.1, key _ h.2.1, key _ h.2.2⟩
theorem zBw.push {D : va_G} {cs : Nat → ClassId} {ad : Nat → Nat} {ks : List Kd} {σ : Sg} {H H1 : Heap} {k : Kd} (had : ∀ i, ad i = ad 0 + i) (h : zBw D cs ad ks σ H) (hz : H1.size = H.size + 1) (ho : ∀ q, q < H.size → H1[q]? = H[q]?) (hk : va_at D zcl (H.size, zce cs ad (σ ks.length) k) H1) : zBw D cs ad (ks ++ [k]) σ H1 := by
  obtain ⟨h1, h2⟩ := h
  refine ⟨?_, fun j k' hj => ?_⟩
  · rw [hz, h1, List.length_append, had, had (ks.length + _)]
    rfl
  · by_cases hl : j < ks.length
    · rw [List.getElem?_append_left hl] at hj
      refine (h2 j k' hj).kept (ho _ ?_)
      show ad j < H.size
      rw [h1, had j, had ks.length]
      omega
    · rw [List.getElem?_append_right (by omega)] at hj
      have h0 : j - ks.length < 1 := (List.getElem?_eq_some_iff.mp hj).1
      have hjl : j = ks.length := by omega
      subst hjl
      rw [Nat.sub_self] at hj
      cases hj
      rw [← h1]
      exact hk
theorem zBw.set {D : va_G} {cs : Nat → ClassId} {ad : Nat → Nat} {ks : List Kd} {σ : Sg} {H H1 : Heap} {j : Nat} {k k' : Kd} {f : Nat → Int32} (had : ∀ i, ad i = ad 0 + i) (h : zBw D cs ad ks σ H) (hj : ks[j]? = some k) (hz : H1.size = H.size) (ho : ∀ q, q ≠ ad j → H1[q]? = H[q]?) (hk : va_at D zcl (ad j, zce cs ad f k') H1) : zBw D cs ad (ks.set j k') (zrow σ j f) H1 := by
  obtain ⟨h1, h2⟩ := h
  have hl := (List.getElem?_eq_some_iff.mp hj).1
  refine ⟨by rw [hz, h1, List.length_set], fun i k9 hi => ?_⟩
  by_cases hij : i = j
  · subst hij
    rw [List.getElem?_set_self hl] at hi
    cases hi
    rw [show zrow σ i f i = f from if_pos rfl]
    exact hk
  · rw [List.getElem?_set_ne (Ne.symm hij)] at hi
    rw [show zrow σ j f i = σ i from if_neg hij]
    refine (h2 i k9 hi).kept (ho _ ?_)
    show ad i ≠ ad j
    rw [had i, had j]
    omega
theorem vr_outer (c : ClassId) (N h0 : Nat) : ∀ i : Nat, Jvm.Free.Multi.outerC c N h0 i = arrV c N (fun j => va_rf (if j < i then some (h0 + 1 + j) else none))
  | 0 => by
    show ({ cls := c, slots := Array.replicate N .null, vm := .none } : Cell) = _
    rw [arrV_new]
    refine congrArg (arrV c N) (funext fun j => ?_)
    simp [va_rf]
  | i + 1 => by
    show (Jvm.Free.Multi.outerC c N h0 i).setSlot i (.ref (h0 + 1 + i)) = _
    rw [vr_outer c N h0 i, arrV_store]
    refine congrArg (arrV c N) (funext fun j => ?_)
    by_cases e : j = i
    · subst e
      simp [updV, va_rf]
    · by_cases h : j < i
      · simp [updV, e, h, Nat.lt_succ_of_lt h]
      · simp [updV, e, h, show ¬ j < i + 1 by omega]
def zsh (m : Nat) (k : Kd) : Kd := match k with
  | .inl o => .inl (o.1, o.2.map (fun d => d.map (fun e => e.map (fun q => m + q))))
  | .inr a => .inr (a.1, a.2.1, a.2.2.map (fun q => m + q))
theorem zrf_0 (ad : Nat → Nat) : zrf ad 0 = none := rfl
theorem zce_sh {cs : Nat → ClassId} {ad ad2 : Nat → Nat} {m : Nat} (h : ∀ i, ad2 i = ad (m + i)) (k : Kd) : zce cs ad2 (fun _ => 0) k = zce cs ad (fun _ => 0) (zsh m k) := by
  cases k with
  | inl o =>
    obtain ⟨ci, sl⟩ := o
    show (Sum.inr (ci, sl.mapIdx (zvl ad2 fun _ => 0)) : va_E) = Sum.inr (ci, (sl.map _).mapIdx (zvl ad fun _ => 0))
    congr 2
    apply List.ext_getElem?
    intro j
    rw [List.getElem?_mapIdx, List.getElem?_mapIdx, List.getElem?_map, Option.map_map]
    congr 1
    funext d
    cases d with
    | none => rfl
    | some d =>
      cases d with
      | none => rfl
      | some q => show Value.ref (ad2 q) = Value.ref (ad (m + q)); rw [h]
  | inr a =>
    obtain ⟨t, n, els⟩ := a
    have e : (fun j => if t = 4 then zrf ad2 0 else (els[j]?).map ad2) = (fun j => if t = 4 then zrf ad 0 else ((els.map (fun q => m + q))[j]?).map ad) := funext fun j => by
      by_cases h4 : t = 4
      · rw [if_pos h4, if_pos h4]
        rfl
      · rw [if_neg h4, if_neg h4, List.getElem?_map, Option.map_map]
        congr 1
        funext q
        exact h q
    show (Sum.inl (cs t, n, if t ≤ 1 then .inl (fun _ => 0) else .inr (.inr (.inr (.inr (fun j => if t = 4 then zrf ad2 0 else (els[j]?).map ad2))))) : va_E) = Sum.inl (cs t, n, if t ≤ 1 then .inl (fun _ => 0) else .inr (.inr (.inr (.inr (fun j => if t = 4 then zrf ad 0 else ((els.map (fun q => m + q))[j]?).map ad)))))
    rw [e]
def ZB (X : Zx) (Q : State → Prop) (k1 k2 pc : Nat) (ks : List Kd) (σ : Sg) (lv : List (Nat × Value)) (st : List Value) : Prop :=
  ∀ (H : Heap) (locs : List Loc) (ls : Array Slot), zBw X.2.2.1.1 X.2.2.1.2.1 X.2.2.1.2.2.1 ks σ H → va_S X.2.2.2.1 X.1.2.2.2.2.heap H locs → lv_has ls X.2.2.2.2 lv →
    W X.1.1 X.1.2.1 X.1.2.2.1 X.1.2.2.2.1 X.1.2.2.2.2 X.2.1.1 X.2.1.2.1 X.2.1.2.2.1 X.2.1.2.2.2.1 X.2.1.2.2.2.2 H locs k1 k2 Q (F0 X.2.1.1 pc ls st)
def ZBok (X : Zx) (cc : ByteArray) (own : String) (rm : Room) (nL : Nat) : Prop :=
  CallFix X.1.1 X.2.1.1 X.2.1.2.2.2.2 cc nL X.1.2.2.2.2 X.2.1.2.1 zT own ∧ va_K X.2.2.1.1 zcl (zty X.2.2.1.2.1) X.1.2.2.2.2 ∧ (∀ i, X.ad i = X.ad 0 + i) ∧ X.1.2.2.2.1 = rm ∧ (∀ q, X.ad 0 ≤ q → X.2.2.2.1 q) ∧ X.2.2.2.2 = nL ∧
  (∀ q ∈ zNM, va_Nw (.methodLinkNest q.1 q.2.1 q.2.2.1 q.2.2.2) X.1.2.2.2.2) ∧ X.2.1.2.2.2.1.name = "<init>" ∧ zAO X.1.2.2.2.2 ∧ X.ad 0 ≤ X.1.2.2.2.2.heap.size
section ZBR
variable {X : Zx} {cc : ByteArray} {own : String} {rm : Room} {nL : Nat} {Q : State → Prop} {k1 k2 pc : Nat} {ks : List Kd} {σ : Sg} {lv : List (Nat × Value)} {st : List Value}
theorem zB_aload (ok : ZBok X cc own rm nL) {k : Fin 4} {x : Nat} (hd : decode cc pc = .ok (.aload_n k, 1)) (j : Nat) (h : lv[j]? = some ((k : Nat), .ref x)) (kk : ZB X Q k1 k2 (pc + 1) ks σ lv (.ref x :: st)) : ZB X Q k1 k2 pc ks σ lv st :=
  fun H locs ls hP hS hl => lv_aload_n ok.1.1 ok.1.2.1 hd rfl (lv_at hl j h) (kk H locs ls hP hS hl)
theorem zB_iconst (ok : ZBok X cc own rm nL) {n : Int} {v : Int32} (hd : decode cc pc = .ok (.iconst n, 1)) (hv : Int32.ofInt n = v) (kk : ZB X Q k1 k2 (pc + 1) ks σ lv (.int v :: st)) : ZB X Q k1 k2 pc ks σ lv st :=
  fun H locs ls hP hS hl => lv_iconst ok.1.1 ok.1.2.1 hd hv (kk H locs ls hP hS hl)
theorem zB_bipush (ok : ZBok X cc own rm nL) {n : Int} {v : Int32} (hd : decode cc pc = .ok (.bipush n, 2)) (hv : (Int8.ofInt n).toInt32 = v) (kk : ZB X Q k1 k2 (pc + 2) ks σ lv (.int v :: st)) : ZB X Q k1 k2 pc ks σ lv st :=
  fun H locs ls hP hS hl => lv_bipush ok.1.1 ok.1.2.1 hd hv (kk H locs ls hP hS hl)
theorem zB_sipush (ok : ZBok X cc own rm nL) {n : Int} {v : Int32} (hd : decode cc pc = .ok (.sipush n, 3)) (hv : (Int16.ofInt n).toInt32 = v) (kk : ZB X Q k1 k2 (pc + 3) ks σ lv (.int v :: st)) : ZB X Q k1 k2 pc ks σ lv st :=
  fun H locs ls hP hS hl => lv_sipush ok.1.1 ok.1.2.1 hd hv (kk H locs ls hP hS hl)
theorem zB_dup (ok : ZBok X cc own rm nL) {v : Value} (hd : decode cc pc = .ok (.dup, 1)) (hv : v.category = 1) (kk : ZB X Q k1 k2 (pc + 1) ks σ lv (v :: v :: st)) : ZB X Q k1 k2 pc ks σ lv (v :: st) :=
  fun H locs ls hP hS hl => lv_dup ok.1.1 ok.1.2.1 hd hv (kk H locs ls hP hS hl)
theorem zB_obj (ok : ZBok X cc own rm nL) {ix a : Nat} (hl : Cond.methodLink own ix Lib.objectInit ∈ zT) (hi : Cond.instanceMethod Lib.objectInit ∈ zT) (hc : Cond.code Lib.objectInit ⟨#[0xb1]⟩ 1 none ∈ zT) (hfr : 1 ≤ rm.frames) (hlo : (st.map fun v => v.category).sum + 12 ≤ rm.locals) (hd : decode cc pc = .ok (.invokespecial ix, 3)) (kk : ZB X Q k1 k2 (pc + 3) ks σ lv st) : ZB X Q k1 k2 pc ks σ lv (.ref a :: st) := by
  intro H locs ls hP hS h
  have hts := ok.1.2.2.2.2
  refine W.objInit ok.1.1 ok.1.2.1 ok.1.2.2.2.1 (hts _ hl) (hts _ hi) (hts _ hc) rfl (by rw [ok.1.2.2.1, ← ok.2.2.2.2.2.1]; exact h.1) rfl hd (by rw [ok.2.2.2.1]; exact hfr) (by rw [ok.2.2.2.1]; show 2 * 0 + _ + 12 ≤ _; omega) ?_
  exact W.eq (g2 := F0 X.2.1.1 (pc + 3) ls st) rfl (kk H locs ls hP hS h)
theorem zB_S (ok : ZBok X cc own rm nL) {H H1 : Heap} {locs : List Loc} (hP : zBw X.2.2.1.1 X.2.2.1.2.1 X.2.2.1.2.2.1 ks σ H) (hS : va_S X.2.2.2.1 X.1.2.2.2.2.heap H locs) (hz : H.size ≤ H1.size) (ho : ∀ q, q < H.size → H1[q]? = H[q]?) : va_S X.2.2.2.1 X.1.2.2.2.2.heap H1 locs :=
  ⟨Nat.le_trans hS.1 hz, fun q h1 h2 => (ho q (Nat.lt_of_lt_of_le h1 hS.1)).trans (hS.2.1 q h1 h2), hS.2.2⟩
theorem zB_new {C : String} {T : u_T} {n ci ix : Nat} {sl : List (Option (Option Nat))} (ok : ZBok X cc own rm nL) (hcl : Cond.classLink own ix C ∈ zT) (hins : Cond.instantiable C n ∈ zT) (hini : Cond.initialized C ∈ zT) (hc : zcl[ci]? = some (C, T, n)) (hin : ∀ c ∈ u_ws C T n, c ∈ zT) (ty : Nat → FieldType) (hty : ∀ k, k < n → parseFieldDescriptor (T k).2.2.1 = some (ty k)) (hfs : ∀ (ad : Nat → Nat) (j : Nat), j < n → defaultValue (ty j) = vp_V (sl.mapIdx (zvl ad (fun _ => 0))) j) (hσ : σ ks.length = fun _ => 0) (hR : k1 + 1 ≤ rm.cells ∧ k2 + n ≤ rm.slots) (hd : decode cc pc = .ok (.new ix, 3)) (kk : ZB X Q (k1 + 1) (k2 + n) (pc + 3) (ks ++ [.inl (ci, sl)]) σ lv (.ref (X.ad ks.length) :: st)) : ZB X Q k1 k2 pc ks σ lv st := by
  intro H locs ls hP hS h
  have hts := ok.1.2.2.2.2
  have hKn := ok.2.1.1 ci _ hc
  refine W.newcK ok.1.1 ok.1.2.1 ok.1.2.2.2.1 (hts _ hcl) (hts _ hins) (hts _ hini) rfl hd (by rw [ok.2.2.2.1]; exact hR.1) (by rw [ok.2.2.2.1]; exact hR.2) hKn.2.1 rfl fun H1 kC hkC e1 z1 o1 => ?_
  have hsz : H.size = X.ad ks.length := hP.1
  have := kk H1 locs ls (hP.push ok.2.2.1 z1 o1 ⟨_, hc, by rw [hσ]; exact (u_born ty hts hin hKn hkC e1 hty).to (hfs _)⟩) (zB_S ok hP hS (by omega) o1) h
  rw [← hsz] at this
  exact this
theorem zB_newa {m : Int32} {n t : Nat} {at_ : ArrayType} {ty : FieldType} (ok : ZBok X cc own rm nL) (ht : (t = 0 ∧ at_ = .int ∧ ty = .int) ∨ (t = 1 ∧ at_ = .byte ∧ ty = .byte)) (harr : Cond.arrayClass ty ∈ zT) (hm : ¬ m < 0 ∧ m.toNatClampNeg = n) (hb : n * 4 ≤ 536870912) (hσ : σ ks.length = fun _ => 0) (hR : k1 + 1 ≤ rm.cells ∧ k2 + n ≤ rm.slots) (hd : decode cc pc = .ok (.newarray at_, 2)) (kk : ZB X Q (k1 + 1) (k2 + n) (pc + 2) (ks ++ [.inr (t, n, [])]) σ lv (.ref (X.ad ks.length) :: st)) : ZB X Q k1 k2 pc ks σ lv (.int m :: st) := by
  intro H locs ls hP hS h
  have hts := ok.1.2.2.2.2
  have hsz : H.size = X.ad ks.length := hP.1
  rcases ht with ⟨rfl, rfl, rfl⟩ | ⟨rfl, rfl, rfl⟩
  · refine va_newaK (atype := .int) ok.1.1 ok.1.2.1 (hts _ harr) rfl hd rfl hm.1 hm.2 hb (by rw [ok.2.2.2.1]; exact hR.1) (by rw [ok.2.2.2.1]; exact hR.2) rfl fun H1 cA e1 z1 o1 hO hF => ?_
    have hc : cA = X.2.2.1.2.1 0 := Option.some.inj (hF.symm.trans (ok.2.1.2 0 _ rfl).2)
    subst hc
    have := kk H1 locs ls (hP.push (k := .inr (0, n, [])) ok.2.2.1 z1 o1 (by rw [hσ]; exact e1)) (zB_S ok hP hS (by omega) o1) h
    rw [← hsz] at this
    exact this
  · refine va_newaK (atype := .byte) ok.1.1 ok.1.2.1 (hts _ harr) rfl hd rfl hm.1 hm.2 (show n * 1 ≤ _ by omega) (by rw [ok.2.2.2.1]; exact hR.1) (by rw [ok.2.2.2.1]; exact hR.2) rfl fun H1 cA e1 z1 o1 hO hF => ?_
    have hc : cA = X.2.2.1.2.1 1 := Option.some.inj (hF.symm.trans (ok.2.1.2 1 _ rfl).2)
    subst hc
    have := kk H1 locs ls (hP.push (k := .inr (1, n, [])) ok.2.2.1 z1 o1 (by rw [hσ]; exact e1)) (zB_S ok hP hS (by omega) o1) h
    rw [← hsz] at this
    exact this
theorem zB_anew {m : Int32} {n ix : Nat} (ok : ZBok X cc own rm nL) (hcl : Cond.classLink own ix "CanalKeeper$Moment" ∈ zT) (hm : ¬ m < 0 ∧ m.toNatClampNeg = n) (hb : n * 4 ≤ 536870912) (hσ : σ ks.length = fun _ => 0) (hR : k1 + 1 ≤ rm.cells ∧ k2 + n ≤ rm.slots) (hd : decode cc pc = .ok (.anewarray ix, 3)) (kk : ZB X Q (k1 + 1) (k2 + n) (pc + 3) (ks ++ [.inr (4, n, [])]) σ lv (.ref (X.ad ks.length) :: st)) : ZB X Q k1 k2 pc ks σ lv (.int m :: st) := by
  intro H locs ls hP hS h
  have hts := ok.1.2.2.2.2
  have hsz : H.size = X.ad ks.length := hP.1
  obtain ⟨hm1, rfl⟩ := hm
  refine W.anew ok.1.1 ok.1.2.1 ok.1.2.2.2.1 (hts _ hcl) ok.2.2.2.2.2.2.2.2.1.2.2 rfl hd rfl hm1 hb (by rw [ok.2.2.2.1]; exact hR.1) (by rw [ok.2.2.2.1]; exact hR.2) fun cA kA comp h1 h2 h3 h4 => ?_
  have hRA := (ok.2.1.2 4 _ rfl).2
  obtain ⟨-, -, -, -, -, hF⟩ := hRA
  have hc : cA = X.2.2.1.2.1 4 := Option.some.inj (h1.symm.trans hF)
  subst hc
  have hv : ∀ cA : ClassId, ({ cls := cA, slots := Array.replicate m.toNatClampNeg .null, vm := .none } : Cell) = vp_cell cA (m.toNatClampNeg, .inr (.inr (.inr (.inr (fun _ => none))))) := fun cA => arrV_new _ _ _
  rw [hv]
  have o1 : ∀ (v : Cell) (q : Nat), q < H.size → (H.push v)[q]? = H[q]? := fun v q hq => by rw [Array.getElem?_push, if_neg (Nat.ne_of_lt hq)]
  have := kk _ locs ls (hP.push (k := .inr (4, m.toNatClampNeg, [])) ok.2.2.1 (by simp) (o1 _) (by
    rw [hσ]
    show (H.push (vp_cell (X.2.2.1.2.1 4) (m.toNatClampNeg, .inr (.inr (.inr (.inr (fun _ => none)))))))[H.size]? = _
    rw [Array.getElem?_push, if_pos rfl]
    rfl)) (zB_S ok hP hS (by simp) (o1 _)) h
  rw [← hsz] at this
  exact this
theorem zB_mna {n k : Int32} {N K t ix : Nat} {ty : FieldType} (ok : ZBok X cc own rm nL) (ht : (t = 0 ∧ ty = .int) ∨ (t = 1 ∧ ty = .byte)) (hcl : Cond.classLink own ix ("[" ++ (FieldType.array ty).toString) ∈ zT) (harr : Cond.arrayClass ty ∈ zT) (hn : ¬ n < 0 ∧ n.toNatClampNeg = N) (hk : ¬ k < 0 ∧ k.toNatClampNeg = K) (hb : N * 4 ≤ 536870912 ∧ K * 4 ≤ 536870912) (hσ : ∀ j, ks.length ≤ j → σ j = fun _ => 0) (hR : k1 + (1 + N) ≤ rm.cells ∧ k2 + (N + N * K) ≤ rm.slots) (hd : decode cc pc = .ok (.multianewarray ix 2, 4)) (kk : ZB X Q (k1 + 1 + N) (k2 + N + N * K) (pc + 4) (ks ++ (.inr (t + 2, N, (List.range N).map (fun i => ks.length + 1 + i)) :: List.replicate N (.inr (t, K, [])))) σ lv (.ref (X.ad ks.length) :: st)) : ZB X Q k1 k2 pc ks σ lv (.int k :: .int n :: st) := by
  intro H locs ls hP hS h
  have hts := ok.1.2.2.2.2
  obtain ⟨hn1, rfl⟩ := hn
  obtain ⟨hk1, rfl⟩ := hk
  have had := ok.2.2.1
  have hsz : H.size = X.ad ks.length := hP.1
  have hov : (Cond.arrayOver (.array ty)).before #[] X.1.2.2.2.2 = true := by
    rcases ht with ⟨rfl, rfl⟩ | ⟨rfl, rfl⟩
    · exact ok.2.2.2.2.2.2.2.2.1.1
    · exact ok.2.2.2.2.2.2.2.2.1.2.1
  intro T hT Xs
  obtain ⟨vm₁, cA, comp, -, fA, fC, hO, -, X', step⟩ := Xs.multianewarray2F ok.1.1 ok.1.2.2.2.1 (hts _ hcl) hov (hts _ harr) (g := F0 X.2.1.1 pc ls (.int k :: .int n :: st)) rfl (by rw [ok.1.2.1]; exact hd) rfl hn1 hk1 hb.1 (by rcases ht with ⟨rfl, rfl⟩ | ⟨rfl, rfl⟩ <;> (first | exact hb.2 | (show _ * 1 ≤ _; omega))) (by omega) (by rcases ht with ⟨rfl, rfl⟩ | ⟨rfl, rfl⟩ <;> rfl) (by rcases ht with ⟨rfl, rfl⟩ | ⟨rfl, rfl⟩ <;> rfl) (by rw [ok.2.2.2.1]; exact hR.1) (by rw [ok.2.2.2.1]; exact hR.2)
  have hcA : cA = X.2.2.1.2.1 (t + 2) ∧ comp = X.2.2.1.2.1 t := by
    rcases ht with ⟨rfl, rfl⟩ | ⟨rfl, rfl⟩
    · exact ⟨Option.some.inj (fA.symm.trans (ok.2.1.2 2 _ rfl).2), Option.some.inj (fC.symm.trans (ok.2.1.2 0 _ rfl).2)⟩
    · exact ⟨Option.some.inj (fA.symm.trans (ok.2.1.2 3 _ rfl).2), Option.some.inj (fC.symm.trans (ok.2.1.2 1 _ rfl).2)⟩
  obtain ⟨rfl, rfl⟩ := hcA
  generalize hF : Jvm.Free.Multi.fill (T.setVm vm₁) (X.2.2.1.2.1 (t + 2)) (X.2.2.1.2.1 t) n.toNatClampNeg k.toNatClampNeg (defaultValue ty) n.toNatClampNeg = F at X' step
  have hTh : (T.setVm vm₁).heap = H := hT
  obtain ⟨f1, f2, -, -⟩ := Jvm.Free.Multi.fill_facts (T.setVm vm₁) (X.2.2.1.2.1 (t + 2)) (X.2.2.1.2.1 t) n.toNatClampNeg k.toNatClampNeg (defaultValue ty) n.toNatClampNeg
  rw [hF, hTh] at f1 f2
  have hold : ∀ x : Nat, x < H.size → F.heap[x]? = H[x]? := fun x hx => by
    have := Jvm.Free.Multi.fill_old (T.setVm vm₁) (X.2.2.1.2.1 (t + 2)) (X.2.2.1.2.1 t) n.toNatClampNeg k.toNatClampNeg (defaultValue ty) (a := x) (by rw [hTh]; exact hx) n.toNatClampNeg
    rw [hF, hTh] at this
    exact this
  have hrow : ∀ j : Nat, j < n.toNatClampNeg → F.heap[H.size + 1 + j]? = some (Jvm.Free.Multi.innerC (X.2.2.1.2.1 t) k.toNatClampNeg (defaultValue ty)) := fun j hj => by
    have := Jvm.Free.Multi.fill_inner (T.setVm vm₁) (X.2.2.1.2.1 (t + 2)) (X.2.2.1.2.1 t) n.toNatClampNeg k.toNatClampNeg (defaultValue ty) n.toNatClampNeg j hj
    rw [hF, hTh] at this
    exact this
  have hin : Jvm.Free.Multi.innerC (X.2.2.1.2.1 t) k.toNatClampNeg (defaultValue ty) = vp_cell (X.2.2.1.2.1 t) (k.toNatClampNeg, .inl (fun _ => 0)) := by
    rcases ht with ⟨rfl, rfl⟩ | ⟨rfl, rfl⟩ <;> exact arrV_new _ _ _
  have hW : zBw X.2.2.1.1 X.2.2.1.2.1 X.2.2.1.2.2.1 (ks ++ (.inr (t + 2, n.toNatClampNeg, (List.range n.toNatClampNeg).map (fun i => ks.length + 1 + i)) :: List.replicate n.toNatClampNeg (.inr (t, k.toNatClampNeg, [])))) σ F.heap := by
    refine ⟨?_, fun j k' hj => ?_⟩
    · rw [f1, hsz, List.length_append, List.length_cons, List.length_replicate]
      have h1 := had ks.length
      have h2 := had (ks.length + (n.toNatClampNeg + 1))
      show X.ad ks.length + 1 + n.toNatClampNeg = X.ad (ks.length + (n.toNatClampNeg + 1))
      omega
    · by_cases hl : j < ks.length
      · rw [List.getElem?_append_left hl] at hj
        refine (hP.2 j k' hj).kept (hold _ ?_)
        show X.ad j < H.size
        have h1 := had ks.length
        have h2 := had j
        omega
      · rw [List.getElem?_append_right (by omega)] at hj
        obtain ⟨i, rfl⟩ : ∃ i, j = ks.length + i := ⟨j - ks.length, by omega⟩
        rw [Nat.add_sub_cancel_left] at hj
        rw [hσ _ (by omega)]
        cases i with
        | zero =>
          cases hj
          show F.heap[X.ad (ks.length + 0)]? = some (vp_cell _ _)
          rw [Nat.add_zero, ← hsz, f2, vr_outer]
          congr 1
          have ht4 : ¬ t + 2 = 4 := by omega
          have ht1 : ¬ t + 2 ≤ 1 := by omega
          show _ = vp_cell (X.2.2.1.2.1 (t + 2)) (n.toNatClampNeg, if t + 2 ≤ 1 then _ else _)
          rw [if_neg ht1, vp_cell_q]
          congr 1
          funext j
          rw [if_neg ht4]
          congr 1
          by_cases hj : j < n.toNatClampNeg
          · rw [if_pos hj, List.getElem?_map, List.getElem?_range hj]
            show some (H.size + 1 + j) = some (X.ad (ks.length + 1 + j))
            congr 1
            have h1 := had ks.length
            have h2 := had (ks.length + 1 + j)
            omega
          · rw [if_neg hj, List.getElem?_eq_none (by simp; omega)]
            rfl
        | succ i =>
          rw [List.getElem?_cons_succ, List.getElem?_replicate] at hj
          split at hj
          · rename_i hi
            cases hj
            show F.heap[X.ad (ks.length + (i + 1))]? = some (vp_cell _ _)
            have h1 := had ks.length
            have h2 := had (ks.length + (i + 1))
            rw [show X.ad (ks.length + (i + 1)) = H.size + 1 + i by omega, hrow i hi, hin]
            congr 2
            rcases ht with ⟨rfl, rfl⟩ | ⟨rfl, rfl⟩ <;> rfl
          · cases hj
  obtain ⟨t9, a1, b1⟩ := kk F.heap locs ls hW (zB_S ok hP hS (by rw [f1]; omega) hold) h F rfl X'
  refine ⟨t9, step t9 ?_, b1⟩
  have e : T.heap.size = X.ad ks.length := by rw [hT]; exact hsz
  rw [e]
  exact a1
theorem zB_put {C : String} {T : u_T} {n ci : Nat} {sl sl' : List (Option (Option Nat))} {u : Value} {f : Nat → Int32} {s ix j : Nat} (ok : ZBok X cc own rm nL) (hk : ks[j]? = some (.inl (ci, sl))) (hc : zcl[ci]? = some (C, T, n)) (hin : ∀ c ∈ u_ws C T n, c ∈ zT) (ty0 : Nat → FieldType) (hty : ∀ k, k < n → parseFieldDescriptor (T k).2.2.1 = some (ty0 k)) (hnm : ∀ a, a < n → ∀ b, b < n → a ≠ b → (T a).2.1 ≠ (T b).2.1) (hs : s < n) (hl : Cond.fieldLink own ix (T s).1 (T s).2.1 (T s).2.2.1 ∈ zT) (hfin : (T s).2.2.2 = true ∧ (T s).1 = own ∨ (T s).2.2.2 = false) {ty : FieldType} (hpd : parseFieldDescriptor (T s).2.2.1 = some ty) (hn : narrow ty u = u) (hfit : fits ty u = true) (hls : s < sl.length) (hset : (sl.mapIdx (zvl X.ad (σ j))).set s u = sl'.mapIdx (zvl X.ad f)) (hd : decode cc pc = .ok (.putfield ix, 3)) (kk : ZB X Q k1 k2 (pc + 3) (ks.set j (.inl (ci, sl'))) (zrow σ j f) lv st) : ZB X Q k1 k2 pc ks σ lv (u :: .ref (X.ad j) :: st) := by
  intro H locs ls hP hS0 h
  have hts := ok.1.2.2.2.2
  have hK := ok.2.1
  have hown := ok.1.2.2.2.1
  have hap := va_apart (own := own) hts hin ty0 hty hnm hK hc
  obtain ⟨r, h1, cell, q1, q2, q3, q4⟩ := hP.2 j _ hk
  have hr : r = (C, T, n) := Option.some.inj (h1.symm.trans hc)
  subst hr
  have hKn := hK.1 ci _ hc
  obtain ⟨hS, hfc, kC, hkC, hkind⟩ := hKn
  obtain ⟨cf, kf, fi, fl, hi, hsl⟩ := hS s hs
  have hlay := hts _ (hin _ (u_in_lay hs))
  have hst := (u_facts hfc hkC (u_lays hts hin hs) hi).1
  have fin : ∀ (H' : Heap), H'[X.ad j]? = some (cell.setSlot fl.slot u) → H'.size = H.size → (∀ q, q ≠ X.ad j → H'[q]? = H[q]?) → W X.1.1 X.1.2.1 X.1.2.2.1 X.1.2.2.2.1 X.1.2.2.2.2 X.2.1.1 X.2.1.2.1 X.2.1.2.2.1 X.2.1.2.2.2.1 X.2.1.2.2.2.2 H' (locs ++ [⟨X.ad j, fl.slot⟩]) k1 k2 Q (F0 X.2.1.1 (pc + 3) ls st) := fun H' e1 e2 e3 => by
    rw [hsl] at e1 ⊢
    refine kk H' _ ls (hP.set ok.2.2.1 hk e2 e3 ?_) (hS0.put e2 e3 (ok.2.2.2.2.1 _ (by have := ok.2.2.1 j; omega))) h
    refine ⟨_, hc, t_OB.to (V := updV (vp_V (sl.mapIdx (zvl X.ad (σ j)))) s u) ⟨_, e1, q2, q3, t_set q4 hap hs u⟩ (fun i _ => ?_)⟩
    rw [vp_updV_set (by rw [List.length_mapIdx]; exact hls), hset]
  unfold u_lay at hlay
  rcases hfin with ⟨hfin, hdecl⟩ | hfin
  · rw [if_pos hfin] at hlay
    have hcf : X.2.1.1.cls = cf := by
      obtain ⟨_, _, c', _, _, _, -, -, hf', -, -, -, hown2, -⟩ := Cond.laysFinal_spec hlay
      have e1 : c' = cf := by have := hi.symm.trans hf'; simp at this; exact this.1.symm
      rw [hdecl] at hown2
      rw [← e1]; exact Option.some.inj (hown.symm.trans hown2)
    have h6 := u_fits hfc hkC hkind (Or.inr hlay) hi hpd hn hfit
    exact W.putFinK ok.1.1 ok.1.2.1 hown (hts _ hl) hi hst hcf ok.2.2.2.2.2.2.2.1 (by rw [q2]; exact h6) q1 q3 (by rw [hsl]; exact k2_hasslot (q4 s hs)) rfl rfl hd fin
  · rw [if_neg (by rw [hfin]; decide)] at hlay
    have h6 := u_store hfc hkC hkind hlay hi hpd hn hfit
    exact W.putK ok.1.1 ok.1.2.1 (f := fl) ⟨hown, hts _ hl, ⟨_, _, _, hi⟩, hst⟩ (by rw [q2]; exact h6) q1 q3 (by rw [hsl]; exact k2_hasslot (q4 s hs)) rfl rfl hd fin
end ZBR
