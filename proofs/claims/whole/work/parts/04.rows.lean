def zrow (σ : Sg) (i : Nat) (f : Nat → Int32) : Sg := fun a => if a = i then f else σ a
def zup (σ : Sg) (i k : Nat) (v : Int32) : Sg := zrow σ i (upd (σ i) k v)
def zrf (ad : Nat → Nat) (v : Int32) : Option Nat := if v = 0 then none else some (ad (v.toNatClampNeg - 1))
def zvl (ad : Nat → Nat) (x : Nat → Int32) (k : Nat) (d : Option (Option Nat)) : Value := match d with
  | none => .int (x k)
  | some (some q) => .ref (ad q)
  | some none => va_rf (zrf ad (x k))
def zce (cs : Nat → ClassId) (ad : Nat → Nat) (x : Nat → Int32) (k : Kd) : va_E := match k with
  | .inl o => .inr (o.1, o.2.mapIdx (zvl ad x))
  | .inr a => .inl (cs a.1, a.2.1, if a.1 ≤ 1 then .inl x else .inr (.inr (.inr (.inr (fun j => if a.1 = 4 then zrf ad (x j) else (a.2.2[j]?).map ad)))))
def zwl (cs : Nat → ClassId) (ad : Nat → Nat) (n : Nat) (σ : Sg) : va_W := (List.range n).map (fun i => (ad i, zce cs ad (σ i) (kd i)))
def zty (cs : Nat → ClassId) : List (ClassId × FieldType) := [(cs 0, .int), (cs 1, .byte), (cs 2, .array .int), (cs 3, .array .byte), (cs 4, .object "CanalKeeper$Moment")]
def zT : List Cond := lw_tbl.filter goodWord
theorem zT_of {i : Nat} {w : Cond} (h : lw_tbl[i]? = some w) (hg : goodWord w = true) : w ∈ zT := List.mem_filter.mpr ⟨List.mem_of_getElem? h, hg⟩
theorem zT_good {ws : List Cond} (h : ∀ w ∈ ws, w ∈ zT) : GoodIn zT ws := fun w hw => ⟨h w hw, good_of_word (List.mem_filter.mp (h w hw)).2⟩
theorem zwl_get {cs : Nat → ClassId} {ad : Nat → Nat} {n : Nat} {σ : Sg} {i : Nat} (h : i < n) : (zwl cs ad n σ)[i]? = some (ad i, zce cs ad (σ i) (kd i)) := by
  simp [zwl, h]
theorem zwl_set {cs : Nat → ClassId} {ad : Nat → Nat} {n : Nat} {σ : Sg} {i : Nat} (f : Nat → Int32) : (zwl cs ad n σ).set i (ad i, zce cs ad f (kd i)) = zwl cs ad n (zrow σ i f) := by
  apply List.ext_getElem?
  intro j
  by_cases hj : j = i
  · subst hj
    by_cases hn : j < n
    · rw [List.getElem?_set_self (by simp [zwl, hn]), zwl_get hn]
      simp [zrow]
    · rw [List.getElem?_eq_none (by simp [zwl]; omega), List.getElem?_eq_none (by simp [zwl]; omega)]
  · rw [List.getElem?_set_ne (Ne.symm hj)]
    by_cases hn : j < n
    · rw [zwl_get hn, zwl_get hn]
      simp [zrow, hj]
    · rw [List.getElem?_eq_none (by simp [zwl]; omega), List.getElem?_eq_none (by simp [zwl]; omega)]
theorem zsl_set {ad : Nat → Nat} {x : Nat → Int32} {sl : List (Option (Option Nat))} {k : Nat} {v : Int32} {d : Option (Option Nat)} {u : Value} (hd : sl[k]? = some d) (hu : zvl ad (upd x k v) k d = u) : (sl.mapIdx (zvl ad x)).set k u = sl.mapIdx (zvl ad (upd x k v)) := by
  apply List.ext_getElem?
  intro j
  by_cases hj : j = k
  · subst hj
    have hl : j < (sl.mapIdx (zvl ad x)).length := by rw [List.length_mapIdx]; exact (List.getElem?_eq_some_iff.mp hd).1
    rw [List.getElem?_set_self hl, List.getElem?_mapIdx, hd, ← hu]
    rfl
  · rw [List.getElem?_set_ne (Ne.symm hj), List.getElem?_mapIdx, List.getElem?_mapIdx]
    congr 1
    funext d2
    unfold zvl upd
    rw [if_neg hj]
/-- the String constants, by their number: place in the pool, text; lengths; bytes -/
def zSix : List (Nat × String) := [(108, "canal"), (113, "gives"), (58, "keep"), (67, "pool"), (259, "canal gives keep pool holds low high crest delay leak gate by open outlet at takes order from for turns "), (161, "holds"), (163, "low"), (165, "high"), (167, "crest"), (169, "delay"), (171, "leak"), (173, "gate"), (175, "by"), (177, "open"), (75, "outlet"), (188, "at"), (196, "takes"), (83, "order"), (203, "from"), (205, "for"), (97, "turns")]
def zSlen : List Nat := [5, 5, 4, 4, 104, 5, 3, 4, 5, 5, 4, 4, 2, 4, 6, 2, 5, 5, 4, 3, 5]
def zSbyt : List (List Int32) := [[99, 97, 110, 97, 108], [103, 105, 118, 101, 115], [107, 101, 101, 112], [112, 111, 111, 108], [99, 97, 110, 97, 108, 32, 103, 105, 118, 101, 115, 32, 107, 101, 101, 112, 32, 112, 111, 111, 108, 32, 104, 111, 108, 100, 115, 32, 108, 111, 119, 32, 104, 105, 103, 104, 32, 99, 114, 101, 115, 116, 32, 100, 101, 108, 97, 121, 32, 108, 101, 97, 107, 32, 103, 97, 116, 101, 32, 98, 121, 32, 111, 112, 101, 110, 32, 111, 117, 116, 108, 101, 116, 32, 97, 116, 32, 116, 97, 107, 101, 115, 32, 111, 114, 100, 101, 114, 32, 102, 114, 111, 109, 32, 102, 111, 114, 32, 116, 117, 114, 110, 115, 32], [104, 111, 108, 100, 115], [108, 111, 119], [104, 105, 103, 104], [99, 114, 101, 115, 116], [100, 101, 108, 97, 121], [108, 101, 97, 107], [103, 97, 116, 101], [98, 121], [111, 112, 101, 110], [111, 117, 116, 108, 101, 116], [97, 116], [116, 97, 107, 101, 115], [111, 114, 100, 101, 114], [102, 114, 111, 109], [102, 111, 114], [116, 117, 114, 110, 115]]
def zNM : List (String × Nat × MethodName × String) := [("CanalKeeper", 15, ⟨"CanalKeeper$Reader", "<init>", "()V"⟩, "CanalKeeper"), ("CanalKeeper", 22, ⟨"CanalKeeper$Works", "<init>", "()V"⟩, "CanalKeeper"), ("CanalKeeper", 36, ⟨"CanalKeeper$Moment", "<init>", "()V"⟩, "CanalKeeper"), ("CanalKeeper", 47, ⟨"CanalKeeper$Outlook", "<init>", "()V"⟩, "CanalKeeper"), ("CanalKeeper", 54, ⟨"CanalKeeper$Sight", "<init>", "()V"⟩, "CanalKeeper"), ("CanalKeeper$Moment", 18, ⟨"CanalKeeper$Orders", "<init>", "()V"⟩, "CanalKeeper"), ("CanalKeeper$Moment", 25, ⟨"CanalKeeper$Log", "<init>", "()V"⟩, "CanalKeeper"), ("CanalKeeper$Moment", 9, ⟨"CanalKeeper$Water", "<init>", "()V"⟩, "CanalKeeper"), ("CanalKeeper$Outlook", 11, ⟨"CanalKeeper$Water", "<init>", "()V"⟩, "CanalKeeper"), ("CanalKeeper$Outlook", 20, ⟨"CanalKeeper$Orders", "<init>", "()V"⟩, "CanalKeeper"), ("CanalKeeper$Outlook", 27, ⟨"CanalKeeper$Schedule", "<init>", "()V"⟩, "CanalKeeper"), ("CanalKeeper$Water", 38, ⟨"CanalKeeper$Notes", "<init>", "()V"⟩, "CanalKeeper"), ("CanalKeeper$Works", 34, ⟨"CanalKeeper$Orders", "<init>", "()V"⟩, "CanalKeeper"), ("CanalKeeper$Works", 41, ⟨"CanalKeeper$Turns", "<init>", "()V"⟩, "CanalKeeper")]
def zLeast : List Int32 := [0, 0, 0, 0, 0, 0, 0, 1, 0]
def zMost : List Int32 := [9999, 9999, 9999, 9999, 9, 99, 999, 999, 999]
/-- what lies there from before: the String constants, the statics, the words of the nest -/
def Zev (ad : Nat → Nat) (A : Nat → Prop) (U : State) (H : Heap) : Prop :=
  vk_S 21 zSlen zSbyt (fun i => ad (1000000 + i)) (fun i => ad (1000100 + i)) A U H ∧ (∀ (i : Nat) (q : Nat × String), zSix[i]? = some q → vk_R "CanalKeeper$Reader" q.1 q.2 (ad (1000000 + i)) U) ∧
  va_Z "java/lang/String" "COMPACT_STRINGS" "Z" (.int 1) A U H ∧ va_Zq "jdk/internal/util/Preconditions" "SIOOBE_FORMATTER" "Ljava/util/function/BiFunction;" A U H ∧
  va_Z "CanalKeeper" "POOL_LEAST" "[I" (.ref (ad 1000200)) A U H ∧ va_T .int (ad 1000200) 9 (fun j => .int (zLeast.getD j 0)) A U H ∧
  va_Z "CanalKeeper" "POOL_MOST" "[I" (.ref (ad 1000201)) A U H ∧ va_T .int (ad 1000201) 9 (fun j => .int (zMost.getD j 0)) A U H ∧
  va_Nw (.fieldLinkNest "CanalKeeper$Reader" 179 "CanalKeeper" "POOL_LEAST" "[I" "CanalKeeper") U ∧ va_Nw (.fieldLinkNest "CanalKeeper$Reader" 182 "CanalKeeper" "POOL_MOST" "[I" "CanalKeeper") U ∧
  (∀ q ∈ zNM, va_Nw (.methodLinkNest q.1 q.2.1 q.2.2.1 q.2.2.2) U)
theorem Zev.call {ad : Nat → Nat} {A B : Nat → Prop} {s U : State} {H : Heap} {locs : List Loc} (h : Zev ad A s s.heap) (hS : va_S A s.heap H locs) (hW : s.WarmedH U.vm) (hU : U.heap = H) (hB : ∀ q, B q → A q) : Zev ad B U U.heap := by
  obtain ⟨h1, h2, h3, h4, h5, h6, h7, h8, h9, h10, h11⟩ := h
  rw [hU]
  exact ⟨((h1.kept hS.2.1).moved hW.alike).narrow hB, fun i q hq => (h2 i q hq).warm hW, ((h3.kept hS.2.1).moved hW.alike).narrow hB, ((h4.kept hS.2.1).moved hW.alike).narrow hB, ((h5.kept hS.2.1).moved hW.alike).narrow hB, ((h6.kept hS.2.1).moved hW.alike).narrow hB, ((h7.kept hS.2.1).moved hW.alike).narrow hB, ((h8.kept hS.2.1).moved hW.alike).narrow hB, va_Nw.warmF hW h9, va_Nw.warmF hW h10, fun q hq => va_Nw.warmM hW (h11 q hq)⟩
theorem Zev.same {ad : Nat → Nat} {A : Nat → Prop} {u U : State} {H : Heap} (hv : U.vm = u.vm) (h : Zev ad A u H) : Zev ad A U H := by
  obtain ⟨h1, h2, h3, h4, h5, h6, h7, h8, h9, h10, h11⟩ := h
  have ha : u.vm.Alike U.vm := by rw [hv]; exact Vm.Alike.refl u.vm
  exact ⟨h1.moved ha, fun i q hq => (h2 i q hq).same hv, h3.moved ha, h4.moved ha, h5.moved ha, h6.moved ha, h7.moved ha, h8.moved ha, va_tabs rfl hv.symm h9, va_tabs rfl hv.symm h10, fun q hq => va_tabs rfl hv.symm (h11 q hq)⟩
abbrev Zx : Type := (Program × Launch × Env × Room × State) × (MethodId × Array Value × List Frame × Method × Code) × (va_G × (Nat → ClassId) × (Nat → Nat) × Nat) × (Nat → Prop) × Nat
abbrev Zx.ad (X : Zx) : Nat → Nat := X.2.2.1.2.2.1
def ZAt (X : Zx) (Q : State → Prop) (k1 k2 pc : Nat) (σ : Sg) (lv : List (Nat × Value)) (st : List Value) : Prop :=
  ∀ (H : Heap) (locs : List Loc) (ls : Array Slot), va_P X.2.2.1.1 zcl (zwl X.2.2.1.2.1 X.2.2.1.2.2.1 X.2.2.1.2.2.2 σ) H → va_S X.2.2.2.1 X.1.2.2.2.2.heap H locs → lv_has ls X.2.2.2.2 lv →
    W X.1.1 X.1.2.1 X.1.2.2.1 X.1.2.2.2.1 X.1.2.2.2.2 X.2.1.1 X.2.1.2.1 X.2.1.2.2.1 X.2.1.2.2.2.1 X.2.1.2.2.2.2 H locs k1 k2 Q (F0 X.2.1.1 pc ls st)
def Zok (X : Zx) (cc : ByteArray) (own : String) (rm : Room) (N nL : Nat) : Prop :=
  CallFix X.1.1 X.2.1.1 X.2.1.2.2.2.2 cc nL X.1.2.2.2.2 X.2.1.2.1 zT own ∧ va_K X.2.2.1.1 zcl (zty X.2.2.1.2.1) X.1.2.2.2.2 ∧
  ((∀ i j, i < X.2.2.1.2.2.2 → j < X.2.2.1.2.2.2 → X.2.2.1.2.2.1 i = X.2.2.1.2.2.1 j → i = j) ∧ ∀ i, i < X.2.2.1.2.2.2 → X.2.2.2.1 (X.2.2.1.2.2.1 i)) ∧
  X.1.2.2.2.1 = rm ∧ N ≤ X.2.2.1.2.2.2 ∧ (∀ q, X.1.2.2.2.2.heap.size ≤ q → X.2.2.2.1 q) ∧ X.2.2.2.2 = nL ∧ Zev X.2.2.1.2.2.1 X.2.2.2.1 X.1.2.2.2.2 X.1.2.2.2.2.heap
theorem zD_of {A : Nat → Prop} {cs : Nat → ClassId} {ad : Nat → Nat} {n : Nat} {σ : Sg} (hi : ∀ i j, i < n → j < n → ad i = ad j → i = j) (hA : ∀ i, i < n → A (ad i)) : va_D A (zwl cs ad n σ) := by
  have key : ∀ (k : Nat) (q : Nat × va_E), (zwl cs ad n σ)[k]? = some q → k < n ∧ q.1 = ad k := by
    intro k q h
    by_cases hk : k < n
    · rw [zwl_get hk] at h
      cases h
      exact ⟨hk, rfl⟩
    · rw [List.getElem?_eq_none (by simp [zwl]; omega)] at h
      cases h
  refine ⟨fun i j p q h1 h2 h => ?_, fun k q h => ?_⟩
  · obtain ⟨a1, a2⟩ := key i p h1
    obtain ⟨b1, b2⟩ := key j q h2
    exact hi i j a1 b1 (by rw [← a2, ← b2]; exact h)
  · obtain ⟨a1, a2⟩ := key k q h
    rw [a2]
    exact hA k a1
theorem Zok.D {X : Zx} {cc : ByteArray} {own : String} {rm : Room} {N nL : Nat} (ok : Zok X cc own rm N nL) (σ : Sg) : va_D X.2.2.2.1 (zwl X.2.2.1.2.1 X.2.2.1.2.2.1 X.2.2.1.2.2.2 σ) := zD_of ok.2.2.1.1 ok.2.2.1.2
theorem Zok.lt {X : Zx} {cc : ByteArray} {own : String} {rm : Room} {N nL : Nat} (ok : Zok X cc own rm N nL) {i : Nat} (h : i < N) : i < X.2.2.1.2.2.2 := Nat.lt_of_lt_of_le h ok.2.2.2.2.1
-- the words of the pure functions
def zrd {α : Type} (σ : Sg) (a n : Nat) (i : Int32) (k : Int32 → Option α) : Option α := if i < 0 ∨ n ≤ i.toNatClampNeg then none else k (σ a i.toNatClampNeg)
def zwr {α : Type} (σ : Sg) (a n : Nat) (i v : Int32) (k : Sg → Option α) : Option α := if i < 0 ∨ n ≤ i.toNatClampNeg then none else k (zup σ a i.toNatClampNeg v)
def zel {α : Type} (els : List Nat) (i : Int32) (k : Nat → Option α) : Option α := if i < 0 ∨ els.length ≤ i.toNatClampNeg then none else k (els.getD i.toNatClampNeg 0)
def zgt {α : Type} (σ : Sg) (a s : Nat) (k : Int32 → Option α) : Option α := k (σ a s)
def zpt {α : Type} (σ : Sg) (a s : Nat) (v : Int32) (k : Sg → Option α) : Option α := k (zup σ a s v)
def zlt {α : Type} (v : Int32) (k : Int32 → Option α) : Option α := k v
def znz {α : Type} (v : Int32) (k : Option α) : Option α := if v = 0 then none else k
def zbo {α : Type} (v : Int32) (k : Option α) : Option α := if v = 0 ∨ v = 1 then k else none
def zb (b : Bool) : Int32 := match b with | true => 1 | false => 0
def zFU : Nat := 40000
def zout {S R : Type} (P : S → Prop) (G : R → Prop) (o : S ⊕ R) : Prop := match o with | .inl s => P s | .inr r => G r
def zit {S R : Type} (b : S → Option (S ⊕ R)) : Nat → S → Option R
  | 0, _ => none
  | n + 1, s => (b s).bind fun o => match o with | .inl s' => zit b n s' | .inr r => some r
theorem zrd_some {α : Type} {σ : Sg} {a n : Nat} {i : Int32} {k : Int32 → Option α} {out : α} (h : zrd σ a n i k = some out) : vp_in i n ∧ k (σ a i.toNatClampNeg) = some out := by
  unfold zrd at h
  split at h
  · cases h
  · exact ⟨by assumption, h⟩
theorem zwr_some {α : Type} {σ : Sg} {a n : Nat} {i v : Int32} {k : Sg → Option α} {out : α} (h : zwr σ a n i v k = some out) : vp_in i n ∧ k (zup σ a i.toNatClampNeg v) = some out := by
  unfold zwr at h
  split at h
  · cases h
  · exact ⟨by assumption, h⟩
theorem zel_some {α : Type} {els : List Nat} {i : Int32} {k : Nat → Option α} {out : α} (h : zel els i k = some out) : vp_in i els.length ∧ k (els.getD i.toNatClampNeg 0) = some out := by
  unfold zel at h
  split at h
  · cases h
  · exact ⟨by assumption, h⟩
theorem zbind {α β : Type} {x : Option α} {k : α → Option β} {out : β} (h : x.bind k = some out) : ∃ a, x = some a ∧ k a = some out := by
  cases x with
  | none => cases h
  | some a => exact ⟨a, rfl, h⟩
section ZR
variable {X : Zx} {cc : ByteArray} {own : String} {rm : Room} {N nL : Nat} {Q : State → Prop} {k1 k2 pc : Nat} {σ : Sg} {lv : List (Nat × Value)} {st : List Value} {α : Type} {out : α}
theorem z_sub (ks : List Nat) {lv' : List (Nat × Value)} (h : lv_pick lv ks = lv') (k : ZAt X Q k1 k2 pc σ lv' st) : ZAt X Q k1 k2 pc σ lv st := fun H locs ls hP hS hl => k H locs ls hP hS (lv_sub hl ks h)
theorem z_iload_n (ok : Zok X cc own rm N nL) {k : Fin 4} {x : Int32} (hd : decode cc pc = .ok (.iload_n k, 1)) (j : Nat) (h : lv[j]? = some ((k : Nat), .int x)) (kk : ZAt X Q k1 k2 (pc + 1) σ lv (.int x :: st)) : ZAt X Q k1 k2 pc σ lv st :=
  fun H locs ls hP hS hl => lv_iload_n ok.1.1 ok.1.2.1 hd rfl (lv_at hl j h) (kk H locs ls hP hS hl)
theorem z_iload (ok : Zok X cc own rm N nL) {i : Nat} {x : Int32} (hd : decode cc pc = .ok (.iload i, 2)) (j : Nat) (h : lv[j]? = some (i, .int x)) (kk : ZAt X Q k1 k2 (pc + 2) σ lv (.int x :: st)) : ZAt X Q k1 k2 pc σ lv st :=
  fun H locs ls hP hS hl => lv_iload ok.1.1 ok.1.2.1 hd (lv_at hl j h) (kk H locs ls hP hS hl)
theorem z_aload_n (ok : Zok X cc own rm N nL) {k : Fin 4} {x : Nat} (hd : decode cc pc = .ok (.aload_n k, 1)) (j : Nat) (h : lv[j]? = some ((k : Nat), .ref x)) (kk : ZAt X Q k1 k2 (pc + 1) σ lv (.ref x :: st)) : ZAt X Q k1 k2 pc σ lv st :=
  fun H locs ls hP hS hl => lv_aload_n ok.1.1 ok.1.2.1 hd rfl (lv_at hl j h) (kk H locs ls hP hS hl)
theorem z_aload (ok : Zok X cc own rm N nL) {i : Nat} {x : Nat} (hd : decode cc pc = .ok (.aload i, 2)) (j : Nat) (h : lv[j]? = some (i, .ref x)) (kk : ZAt X Q k1 k2 (pc + 2) σ lv (.ref x :: st)) : ZAt X Q k1 k2 pc σ lv st :=
  fun H locs ls hP hS hl => lv_aload ok.1.1 ok.1.2.1 hd (lv_at hl j h) (kk H locs ls hP hS hl)
theorem z_istore_n (ok : Zok X cc own rm N nL) {k : Fin 4} {x : Int32} {lv' : List (Nat × Value)} (hd : decode cc pc = .ok (.istore_n k, 1)) (hn : (k : Nat) < nL) (hl : ((k : Nat), Value.int x) :: lv.filter (fun q => !(q.1 == (k : Nat)) && !(q.1 + 1 == (k : Nat) && q.2.category == 2)) = lv') (kk : ZAt X Q k1 k2 (pc + 1) σ lv' st) : ZAt X Q k1 k2 pc σ lv (.int x :: st) :=
  fun H locs ls hP hS h => lv_istore_n ok.1.1 ok.1.2.1 hd rfl h (by rw [ok.2.2.2.2.2.2.1]; exact hn) hl (fun ls' h' => kk H locs ls' hP hS h')
theorem z_istore (ok : Zok X cc own rm N nL) {i : Nat} {x : Int32} {lv' : List (Nat × Value)} (hd : decode cc pc = .ok (.istore i, 2)) (hn : i < nL) (hl : (i, Value.int x) :: lv.filter (fun q => !(q.1 == i) && !(q.1 + 1 == i && q.2.category == 2)) = lv') (kk : ZAt X Q k1 k2 (pc + 2) σ lv' st) : ZAt X Q k1 k2 pc σ lv (.int x :: st) :=
  fun H locs ls hP hS h => lv_istore ok.1.1 ok.1.2.1 hd h (by rw [ok.2.2.2.2.2.2.1]; exact hn) hl (fun ls' h' => kk H locs ls' hP hS h')
theorem z_astore_n (ok : Zok X cc own rm N nL) {k : Fin 4} {x : Nat} {lv' : List (Nat × Value)} (hd : decode cc pc = .ok (.astore_n k, 1)) (hn : (k : Nat) < nL) (hl : ((k : Nat), Value.ref x) :: lv.filter (fun q => !(q.1 == (k : Nat)) && !(q.1 + 1 == (k : Nat) && q.2.category == 2)) = lv') (kk : ZAt X Q k1 k2 (pc + 1) σ lv' st) : ZAt X Q k1 k2 pc σ lv (.ref x :: st) :=
  fun H locs ls hP hS h => lv_astore_n ok.1.1 ok.1.2.1 hd rfl h (by rw [ok.2.2.2.2.2.2.1]; exact hn) hl (fun ls' h' => kk H locs ls' hP hS h')
theorem z_iinc (ok : Zok X cc own rm N nL) {i : Nat} {n : Int} {x w : Int32} {lv' : Int32 → List (Nat × Value)} {k : Int32 → Option α} (hd : decode cc pc = .ok (.iinc i n, 3)) (j : Nat) (h : lv[j]? = some (i, .int x)) (hn : i < nL) (hw : Int32.ofInt n = w) (hl : ∀ v, (i, Value.int v) :: lv.filter (fun q => !(q.1 == i) && !(q.1 + 1 == i && q.2.category == 2)) = lv' v) (hf : zlt (x + w) k = some out) (kk : ∀ v, k v = some out → ZAt X Q k1 k2 (pc + 3) σ (lv' v) st) : ZAt X Q k1 k2 pc σ lv st :=
  fun H locs ls hP hS h' => lv_iinc ok.1.1 ok.1.2.1 hd h' h (by rw [hw]) (by rw [ok.2.2.2.2.2.2.1]; exact hn) (hl _) (fun ls' h'' => kk _ hf H locs ls' hP hS h'')
theorem z_nm {x : Int32} {k : Int32 → Option α} (hf : zlt x k = some out) (kk : ∀ v, k v = some out → ZAt X Q k1 k2 pc σ lv (.int v :: st)) : ZAt X Q k1 k2 pc σ lv (.int x :: st) := kk _ hf
theorem z_iconst (ok : Zok X cc own rm N nL) {n : Int} {v : Int32} (hd : decode cc pc = .ok (.iconst n, 1)) (hv : Int32.ofInt n = v) (kk : ZAt X Q k1 k2 (pc + 1) σ lv (.int v :: st)) : ZAt X Q k1 k2 pc σ lv st :=
  fun H locs ls hP hS hl => lv_iconst ok.1.1 ok.1.2.1 hd hv (kk H locs ls hP hS hl)
theorem z_bipush (ok : Zok X cc own rm N nL) {n : Int} {v : Int32} (hd : decode cc pc = .ok (.bipush n, 2)) (hv : (Int8.ofInt n).toInt32 = v) (kk : ZAt X Q k1 k2 (pc + 2) σ lv (.int v :: st)) : ZAt X Q k1 k2 pc σ lv st :=
  fun H locs ls hP hS hl => lv_bipush ok.1.1 ok.1.2.1 hd hv (kk H locs ls hP hS hl)
theorem z_sipush (ok : Zok X cc own rm N nL) {n : Int} {v : Int32} (hd : decode cc pc = .ok (.sipush n, 3)) (hv : (Int16.ofInt n).toInt32 = v) (kk : ZAt X Q k1 k2 (pc + 3) σ lv (.int v :: st)) : ZAt X Q k1 k2 pc σ lv st :=
  fun H locs ls hP hS hl => lv_sipush ok.1.1 ok.1.2.1 hd hv (kk H locs ls hP hS hl)
theorem z_ldc (ok : Zok X cc own rm N nL) {ix : Nat} {v : Int32} (hd : decode cc pc = .ok (.ldc ix, 2)) (hw : Cond.constant own ix v ∈ zT) (kk : ZAt X Q k1 k2 (pc + 2) σ lv (.int v :: st)) : ZAt X Q k1 k2 pc σ lv st :=
  fun H locs ls hP hS hl => lv_ldc ok.1.1 ok.1.2.1 ok.1.2.2.2.1 (ok.1.2.2.2.2 _ hw) hd (kk H locs ls hP hS hl)
theorem z_dup (ok : Zok X cc own rm N nL) {v : Value} (hd : decode cc pc = .ok (.dup, 1)) (hv : v.category = 1) (kk : ZAt X Q k1 k2 (pc + 1) σ lv (v :: v :: st)) : ZAt X Q k1 k2 pc σ lv (v :: st) :=
  fun H locs ls hP hS hl => lv_dup ok.1.1 ok.1.2.1 hd hv (kk H locs ls hP hS hl)
theorem z_dup2 (ok : Zok X cc own rm N nL) {v w : Value} (hd : decode cc pc = .ok (.dup2, 1)) (hv : v.category = 1) (hw : w.category = 1) (kk : ZAt X Q k1 k2 (pc + 1) σ lv (v :: w :: v :: w :: st)) : ZAt X Q k1 k2 pc σ lv (v :: w :: st) :=
  fun H locs ls hP hS hl => lv_dup2_11 ok.1.1 ok.1.2.1 hd hv hw (kk H locs ls hP hS hl)
theorem z_pop (ok : Zok X cc own rm N nL) {v : Value} (hd : decode cc pc = .ok (.pop, 1)) (hv : v.category = 1) (kk : ZAt X Q k1 k2 (pc + 1) σ lv st) : ZAt X Q k1 k2 pc σ lv (v :: st) :=
  fun H locs ls hP hS hl => lv_pop ok.1.1 ok.1.2.1 hd hv (kk H locs ls hP hS hl)
theorem z_iadd (ok : Zok X cc own rm N nL) {x y : Int32} (hd : decode cc pc = .ok (.iadd, 1)) (kk : ZAt X Q k1 k2 (pc + 1) σ lv (.int (x + y) :: st)) : ZAt X Q k1 k2 pc σ lv (.int y :: .int x :: st) :=
  fun H locs ls hP hS hl => lv_iadd ok.1.1 ok.1.2.1 hd (kk H locs ls hP hS hl)
theorem z_isub (ok : Zok X cc own rm N nL) {x y : Int32} (hd : decode cc pc = .ok (.isub, 1)) (kk : ZAt X Q k1 k2 (pc + 1) σ lv (.int (x - y) :: st)) : ZAt X Q k1 k2 pc σ lv (.int y :: .int x :: st) :=
  fun H locs ls hP hS hl => lv_isub ok.1.1 ok.1.2.1 hd (kk H locs ls hP hS hl)
theorem z_imul (ok : Zok X cc own rm N nL) {x y : Int32} (hd : decode cc pc = .ok (.imul, 1)) (kk : ZAt X Q k1 k2 (pc + 1) σ lv (.int (x * y) :: st)) : ZAt X Q k1 k2 pc σ lv (.int y :: .int x :: st) :=
  fun H locs ls hP hS hl => lv_imul ok.1.1 ok.1.2.1 hd (kk H locs ls hP hS hl)
theorem z_iand (ok : Zok X cc own rm N nL) {x y : Int32} (hd : decode cc pc = .ok (.iand, 1)) (kk : ZAt X Q k1 k2 (pc + 1) σ lv (.int (x &&& y) :: st)) : ZAt X Q k1 k2 pc σ lv (.int y :: .int x :: st) :=
  fun H locs ls hP hS hl => lv_iand ok.1.1 ok.1.2.1 hd (kk H locs ls hP hS hl)
theorem z_ior (ok : Zok X cc own rm N nL) {x y : Int32} (hd : decode cc pc = .ok (.ior, 1)) (kk : ZAt X Q k1 k2 (pc + 1) σ lv (.int (x ||| y) :: st)) : ZAt X Q k1 k2 pc σ lv (.int y :: .int x :: st) :=
  fun H locs ls hP hS hl => lv_ior ok.1.1 ok.1.2.1 hd (kk H locs ls hP hS hl)
theorem z_ishl (ok : Zok X cc own rm N nL) {x y : Int32} (hd : decode cc pc = .ok (.ishl, 1)) (kk : ZAt X Q k1 k2 (pc + 1) σ lv (.int (x <<< (y &&& 31)) :: st)) : ZAt X Q k1 k2 pc σ lv (.int y :: .int x :: st) :=
  fun H locs ls hP hS hl => lv_ishl ok.1.1 ok.1.2.1 hd (kk H locs ls hP hS hl)
theorem z_ishr (ok : Zok X cc own rm N nL) {x y : Int32} (hd : decode cc pc = .ok (.ishr, 1)) (kk : ZAt X Q k1 k2 (pc + 1) σ lv (.int (x >>> (y &&& 31)) :: st)) : ZAt X Q k1 k2 pc σ lv (.int y :: .int x :: st) :=
  fun H locs ls hP hS hl => lv_ishr ok.1.1 ok.1.2.1 hd (kk H locs ls hP hS hl)
theorem z_ineg (ok : Zok X cc own rm N nL) {x : Int32} (hd : decode cc pc = .ok (.ineg, 1)) (kk : ZAt X Q k1 k2 (pc + 1) σ lv (.int (-x) :: st)) : ZAt X Q k1 k2 pc σ lv (.int x :: st) :=
  fun H locs ls hP hS hl => lv_ineg ok.1.1 ok.1.2.1 hd (kk H locs ls hP hS hl)
theorem z_i2b (ok : Zok X cc own rm N nL) {x : Int32} (hd : decode cc pc = .ok (.i2b, 1)) (kk : ZAt X Q k1 k2 (pc + 1) σ lv (.int x.toInt8.toInt32 :: st)) : ZAt X Q k1 k2 pc σ lv (.int x :: st) :=
  fun H locs ls hP hS hl => lv_i2b ok.1.1 ok.1.2.1 hd rfl (kk H locs ls hP hS hl)
theorem z_idiv (ok : Zok X cc own rm N nL) {x y : Int32} {k : Option α} (hd : decode cc pc = .ok (.idiv, 1)) (hf : znz y k = some out) (kk : k = some out → ZAt X Q k1 k2 (pc + 1) σ lv (.int (x / y) :: st)) : ZAt X Q k1 k2 pc σ lv (.int y :: .int x :: st) := by
  unfold znz at hf
  split at hf
  · cases hf
  · rename_i hy
    exact fun H locs ls hP hS hl => lv_idiv ok.1.1 ok.1.2.1 hd hy (kk hf H locs ls hP hS hl)
theorem z_idivc (ok : Zok X cc own rm N nL) {x y : Int32} (hd : decode cc pc = .ok (.idiv, 1)) (hy : ¬ y = 0) (kk : ZAt X Q k1 k2 (pc + 1) σ lv (.int (x / y) :: st)) : ZAt X Q k1 k2 pc σ lv (.int y :: .int x :: st) :=
  fun H locs ls hP hS hl => lv_idiv ok.1.1 ok.1.2.1 hd hy (kk H locs ls hP hS hl)
theorem z_irem (ok : Zok X cc own rm N nL) {x y : Int32} {k : Option α} (hd : decode cc pc = .ok (.irem, 1)) (hf : znz y k = some out) (kk : k = some out → ZAt X Q k1 k2 (pc + 1) σ lv (.int (x - x / y * y) :: st)) : ZAt X Q k1 k2 pc σ lv (.int y :: .int x :: st) := by
  unfold znz at hf
  split at hf
  · cases hf
  · rename_i hy
    exact fun H locs ls hP hS hl => lv_irem ok.1.1 ok.1.2.1 hd hy (kk hf H locs ls hP hS hl)
theorem z_iremc (ok : Zok X cc own rm N nL) {x y : Int32} (hd : decode cc pc = .ok (.irem, 1)) (hy : ¬ y = 0) (kk : ZAt X Q k1 k2 (pc + 1) σ lv (.int (x - x / y * y) :: st)) : ZAt X Q k1 k2 pc σ lv (.int y :: .int x :: st) :=
  fun H locs ls hP hS hl => lv_irem ok.1.1 ok.1.2.1 hd hy (kk H locs ls hP hS hl)
theorem z_icmp_eq (ok : Zok X cc own rm N nL) {x y : Int32} {off : Int} {tgt : Nat} {a b : Option α} (hd : decode cc pc = .ok (.if_icmp .eq off, 3)) (ht : (pc : Int) + off = (tgt : Int)) (hf : (if x = y then a else b) = some out) (kt : x = y → a = some out → ZAt X Q k1 k2 tgt σ lv st) (kf : ¬ x = y → b = some out → ZAt X Q k1 k2 (pc + 3) σ lv st) : ZAt X Q k1 k2 pc σ lv (.int y :: .int x :: st) :=
  fun H locs ls hP hS hl => lv_icmp_eq ok.1.1 ok.1.2.1 hd ht (fun h => kt h (by rw [if_pos h] at hf; exact hf) H locs ls hP hS hl) (fun h => kf h (by rw [if_neg h] at hf; exact hf) H locs ls hP hS hl)
theorem z_icmp_lt (ok : Zok X cc own rm N nL) {x y : Int32} {off : Int} {tgt : Nat} {a b : Option α} (hd : decode cc pc = .ok (.if_icmp .lt off, 3)) (ht : (pc : Int) + off = (tgt : Int)) (hf : (if x < y then a else b) = some out) (kt : x < y → a = some out → ZAt X Q k1 k2 tgt σ lv st) (kf : ¬ x < y → b = some out → ZAt X Q k1 k2 (pc + 3) σ lv st) : ZAt X Q k1 k2 pc σ lv (.int y :: .int x :: st) :=
  fun H locs ls hP hS hl => lv_icmp_lt ok.1.1 ok.1.2.1 hd ht (fun h => kt h (by rw [if_pos h] at hf; exact hf) H locs ls hP hS hl) (fun h => kf h (by rw [if_neg h] at hf; exact hf) H locs ls hP hS hl)
theorem z_icmp_ge (ok : Zok X cc own rm N nL) {x y : Int32} {off : Int} {tgt : Nat} {a b : Option α} (hd : decode cc pc = .ok (.if_icmp .ge off, 3)) (ht : (pc : Int) + off = (tgt : Int)) (hf : (if y ≤ x then a else b) = some out) (kt : y ≤ x → a = some out → ZAt X Q k1 k2 tgt σ lv st) (kf : ¬ y ≤ x → b = some out → ZAt X Q k1 k2 (pc + 3) σ lv st) : ZAt X Q k1 k2 pc σ lv (.int y :: .int x :: st) :=
  fun H locs ls hP hS hl => lv_icmp_ge ok.1.1 ok.1.2.1 hd ht (fun h => kt h (by rw [if_pos h] at hf; exact hf) H locs ls hP hS hl) (fun h => kf h (by rw [if_neg h] at hf; exact hf) H locs ls hP hS hl)
theorem z_icmp_gt (ok : Zok X cc own rm N nL) {x y : Int32} {off : Int} {tgt : Nat} {a b : Option α} (hd : decode cc pc = .ok (.if_icmp .gt off, 3)) (ht : (pc : Int) + off = (tgt : Int)) (hf : (if y < x then a else b) = some out) (kt : y < x → a = some out → ZAt X Q k1 k2 tgt σ lv st) (kf : ¬ y < x → b = some out → ZAt X Q k1 k2 (pc + 3) σ lv st) : ZAt X Q k1 k2 pc σ lv (.int y :: .int x :: st) :=
  fun H locs ls hP hS hl => lv_icmp_gt ok.1.1 ok.1.2.1 hd ht (fun h => kt h (by rw [if_pos h] at hf; exact hf) H locs ls hP hS hl) (fun h => kf h (by rw [if_neg h] at hf; exact hf) H locs ls hP hS hl)
theorem z_icmp_le (ok : Zok X cc own rm N nL) {x y : Int32} {off : Int} {tgt : Nat} {a b : Option α} (hd : decode cc pc = .ok (.if_icmp .le off, 3)) (ht : (pc : Int) + off = (tgt : Int)) (hf : (if x ≤ y then a else b) = some out) (kt : x ≤ y → a = some out → ZAt X Q k1 k2 tgt σ lv st) (kf : ¬ x ≤ y → b = some out → ZAt X Q k1 k2 (pc + 3) σ lv st) : ZAt X Q k1 k2 pc σ lv (.int y :: .int x :: st) :=
  fun H locs ls hP hS hl => lv_icmp_le ok.1.1 ok.1.2.1 hd ht (fun h => kt h (by rw [if_pos h] at hf; exact hf) H locs ls hP hS hl) (fun h => kf h (by rw [if_neg h] at hf; exact hf) H locs ls hP hS hl)
theorem z_if_eq (ok : Zok X cc own rm N nL) {x : Int32} {off : Int} {tgt : Nat} {a b : Option α} (hd : decode cc pc = .ok (.ifCond .eq off, 3)) (ht : (pc : Int) + off = (tgt : Int)) (hf : (if x = 0 then a else b) = some out) (kt : x = 0 → a = some out → ZAt X Q k1 k2 tgt σ lv st) (kf : ¬ x = 0 → b = some out → ZAt X Q k1 k2 (pc + 3) σ lv st) : ZAt X Q k1 k2 pc σ lv (.int x :: st) :=
  fun H locs ls hP hS hl => lv_if_eq ok.1.1 ok.1.2.1 hd ht (fun h => kt h (by rw [if_pos h] at hf; exact hf) H locs ls hP hS hl) (fun h => kf h (by rw [if_neg h] at hf; exact hf) H locs ls hP hS hl)
theorem z_if_lt (ok : Zok X cc own rm N nL) {x : Int32} {off : Int} {tgt : Nat} {a b : Option α} (hd : decode cc pc = .ok (.ifCond .lt off, 3)) (ht : (pc : Int) + off = (tgt : Int)) (hf : (if x < 0 then a else b) = some out) (kt : x < 0 → a = some out → ZAt X Q k1 k2 tgt σ lv st) (kf : ¬ x < 0 → b = some out → ZAt X Q k1 k2 (pc + 3) σ lv st) : ZAt X Q k1 k2 pc σ lv (.int x :: st) :=
  fun H locs ls hP hS hl => lv_if_lt ok.1.1 ok.1.2.1 hd ht (fun h => kt h (by rw [if_pos h] at hf; exact hf) H locs ls hP hS hl) (fun h => kf h (by rw [if_neg h] at hf; exact hf) H locs ls hP hS hl)
theorem z_if_ge (ok : Zok X cc own rm N nL) {x : Int32} {off : Int} {tgt : Nat} {a b : Option α} (hd : decode cc pc = .ok (.ifCond .ge off, 3)) (ht : (pc : Int) + off = (tgt : Int)) (hf : (if 0 ≤ x then a else b) = some out) (kt : 0 ≤ x → a = some out → ZAt X Q k1 k2 tgt σ lv st) (kf : ¬ 0 ≤ x → b = some out → ZAt X Q k1 k2 (pc + 3) σ lv st) : ZAt X Q k1 k2 pc σ lv (.int x :: st) :=
  fun H locs ls hP hS hl => lv_if_ge ok.1.1 ok.1.2.1 hd ht (fun h => kt h (by rw [if_pos h] at hf; exact hf) H locs ls hP hS hl) (fun h => kf h (by rw [if_neg h] at hf; exact hf) H locs ls hP hS hl)
theorem z_if_gt (ok : Zok X cc own rm N nL) {x : Int32} {off : Int} {tgt : Nat} {a b : Option α} (hd : decode cc pc = .ok (.ifCond .gt off, 3)) (ht : (pc : Int) + off = (tgt : Int)) (hf : (if 0 < x then a else b) = some out) (kt : 0 < x → a = some out → ZAt X Q k1 k2 tgt σ lv st) (kf : ¬ 0 < x → b = some out → ZAt X Q k1 k2 (pc + 3) σ lv st) : ZAt X Q k1 k2 pc σ lv (.int x :: st) :=
  fun H locs ls hP hS hl => lv_if_gt ok.1.1 ok.1.2.1 hd ht (fun h => kt h (by rw [if_pos h] at hf; exact hf) H locs ls hP hS hl) (fun h => kf h (by rw [if_neg h] at hf; exact hf) H locs ls hP hS hl)
theorem z_if_le (ok : Zok X cc own rm N nL) {x : Int32} {off : Int} {tgt : Nat} {a b : Option α} (hd : decode cc pc = .ok (.ifCond .le off, 3)) (ht : (pc : Int) + off = (tgt : Int)) (hf : (if x ≤ 0 then a else b) = some out) (kt : x ≤ 0 → a = some out → ZAt X Q k1 k2 tgt σ lv st) (kf : ¬ x ≤ 0 → b = some out → ZAt X Q k1 k2 (pc + 3) σ lv st) : ZAt X Q k1 k2 pc σ lv (.int x :: st) :=
  fun H locs ls hP hS hl => lv_if_le ok.1.1 ok.1.2.1 hd ht (fun h => kt h (by rw [if_pos h] at hf; exact hf) H locs ls hP hS hl) (fun h => kf h (by rw [if_neg h] at hf; exact hf) H locs ls hP hS hl)
theorem z_icmp_ne (ok : Zok X cc own rm N nL) {x y : Int32} {off : Int} {tgt : Nat} {a b : Option α} (hd : decode cc pc = .ok (.if_icmp .ne off, 3)) (ht : (pc : Int) + off = (tgt : Int)) (hf : (if x = y then a else b) = some out) (kf : x = y → a = some out → ZAt X Q k1 k2 (pc + 3) σ lv st) (kt : ¬ x = y → b = some out → ZAt X Q k1 k2 tgt σ lv st) : ZAt X Q k1 k2 pc σ lv (.int y :: .int x :: st) :=
  fun H locs ls hP hS hl => lv_icmp_ne ok.1.1 ok.1.2.1 hd ht (fun h => kt h (by rw [if_neg h] at hf; exact hf) H locs ls hP hS hl) (fun h => kf h (by rw [if_pos h] at hf; exact hf) H locs ls hP hS hl)
theorem z_if_ne (ok : Zok X cc own rm N nL) {x : Int32} {off : Int} {tgt : Nat} {a b : Option α} (hd : decode cc pc = .ok (.ifCond .ne off, 3)) (ht : (pc : Int) + off = (tgt : Int)) (hf : (if x = 0 then a else b) = some out) (kf : x = 0 → a = some out → ZAt X Q k1 k2 (pc + 3) σ lv st) (kt : ¬ x = 0 → b = some out → ZAt X Q k1 k2 tgt σ lv st) : ZAt X Q k1 k2 pc σ lv (.int x :: st) :=
  fun H locs ls hP hS hl => lv_if_ne ok.1.1 ok.1.2.1 hd ht (fun h => kt h (by rw [if_neg h] at hf; exact hf) H locs ls hP hS hl) (fun h => kf h (by rw [if_pos h] at hf; exact hf) H locs ls hP hS hl)
theorem z_goto (ok : Zok X cc own rm N nL) {off : Int} {tgt : Nat} (hd : decode cc pc = .ok (.goto off, 3)) (ht : (pc : Int) + off = (tgt : Int)) (kk : ZAt X Q k1 k2 tgt σ lv st) : ZAt X Q k1 k2 pc σ lv st :=
  fun H locs ls hP hS hl => lv_goto ok.1.1 ok.1.2.1 hd ht (kk H locs ls hP hS hl)
-- switches: one case at a time
theorem z_swc {x v : Int32} {a b : Option α} (hf : (if x = v then a else b) = some out) (kt : a = some out → ZAt X Q k1 k2 pc σ lv (.int v :: st)) (kf : ¬ x = v → b = some out → ZAt X Q k1 k2 pc σ lv (.int x :: st)) : ZAt X Q k1 k2 pc σ lv (.int x :: st) := by
  by_cases h : x = v
  · subst h
    exact kt (by rw [if_pos rfl] at hf; exact hf)
  · exact kf h (by rw [if_neg h] at hf; exact hf)
theorem z_tableIn (ok : Zok X cc own rm N nL) {dflt lo hi : Int} {offs : Array Int} {len : Nat} {x : Int32} {off : Int} {tgt : Nat} (hd : decode cc pc = .ok (.tableswitch dflt lo hi offs, len)) (h1 : ¬ x.toInt < lo) (h2 : ¬ hi < x.toInt) (ho : offs[(x.toInt - lo).toNat]? = some off) (ht : (pc : Int) + off = (tgt : Int)) (kk : ZAt X Q k1 k2 tgt σ lv st) : ZAt X Q k1 k2 pc σ lv (.int x :: st) :=
  fun H locs ls hP hS hl => lv_tableIn ok.1.1 ok.1.2.1 hd h1 h2 ho ht (kk H locs ls hP hS hl)
theorem z_tableOut (ok : Zok X cc own rm N nL) {dflt lo hi : Int} {offs : Array Int} {len : Nat} {x : Int32} {tgt : Nat} (hd : decode cc pc = .ok (.tableswitch dflt lo hi offs, len)) (h : x.toInt < lo ∨ hi < x.toInt) (ht : (pc : Int) + dflt = (tgt : Int)) (kk : ZAt X Q k1 k2 tgt σ lv st) : ZAt X Q k1 k2 pc σ lv (.int x :: st) :=
  fun H locs ls hP hS hl => lv_tableOut ok.1.1 ok.1.2.1 hd h ht (kk H locs ls hP hS hl)
theorem z_lookup (ok : Zok X cc own rm N nL) {dflt : Int} {ps : Array (Int × Int)} {len : Nat} {x : Int32} {off : Int} {tgt : Nat} (hd : decode cc pc = .ok (.lookupswitch dflt ps, len)) (hp : (ps.toList.zip (ps.toList.drop 1)).all (fun (a, next) => a.1 < next.1) = true) (ho : Op.lookupswitch.offset ps.toList dflt x.toInt = off) (ht : (pc : Int) + off = (tgt : Int)) (kk : ZAt X Q k1 k2 tgt σ lv st) : ZAt X Q k1 k2 pc σ lv (.int x :: st) :=
  fun H locs ls hP hS hl => lv_lookup ok.1.1 ok.1.2.1 hd hp ho ht (kk H locs ls hP hS hl)
-- fields
theorem z_fld {C : String} {T : u_T} {n : Nat} {w ci : Nat} {sl : List (Option (Option Nat))} (ok : Zok X cc own rm N nL) (hk : zk w N (.inl (ci, sl))) (hc : zcl[ci]? = some (C, T, n)) (hin : ∀ c ∈ u_ws C T n, c ∈ zT) (s : Nat) (hs : s < n) {ix : Nat} (hl : Cond.fieldLink own ix (T s).1 (T s).2.1 (T s).2.2.1 ∈ zT) {d : Option (Option Nat)} (hd0 : sl[s]? = some d) (hd : decode cc pc = .ok (.getfield ix, 3)) (kk : ZAt X Q k1 k2 (pc + 3) σ lv (zvl X.ad (σ w) s d :: st)) : ZAt X Q k1 k2 pc σ lv (.ref (X.ad w) :: st) := by
  intro H locs ls hP hS h
  have he := zwl_get (cs := X.2.2.1.2.1) (ad := X.2.2.1.2.2.1) (σ := σ) (ok.lt hk.2)
  rw [hk.1] at he
  exact va_get ok.1.1 ok.1.2.1 ok.1.2.2.2.2 hin ok.1.2.2.2.1 ok.2.1 hP w he hc s hs (ok.1.2.2.2.2 _ hl) (fun _ h9 => h9) (by rw [List.getElem?_mapIdx, hd0]; rfl) hd (kk H locs ls hP hS h)
theorem z_geti {C : String} {T : u_T} {n : Nat} {w ci : Nat} {sl : List (Option (Option Nat))} {k : Int32 → Option α} (ok : Zok X cc own rm N nL) (hk : zk w N (.inl (ci, sl))) (hc : zcl[ci]? = some (C, T, n)) (hin : ∀ c ∈ u_ws C T n, c ∈ zT) (s : Nat) (hs : s < n) {ix : Nat} (hl : Cond.fieldLink own ix (T s).1 (T s).2.1 (T s).2.2.1 ∈ zT) (hd0 : sl[s]? = some none) (hd : decode cc pc = .ok (.getfield ix, 3)) (hf : zgt σ w s k = some out) (kk : ∀ v, k v = some out → ZAt X Q k1 k2 (pc + 3) σ lv (.int v :: st)) : ZAt X Q k1 k2 pc σ lv (.ref (X.ad w) :: st) :=
  z_fld ok hk hc hin s hs hl hd0 hd (kk (σ w s) hf)
theorem z_getr {C : String} {T : u_T} {n : Nat} {w ci q : Nat} {sl : List (Option (Option Nat))} (ok : Zok X cc own rm N nL) (hk : zk w N (.inl (ci, sl))) (hc : zcl[ci]? = some (C, T, n)) (hin : ∀ c ∈ u_ws C T n, c ∈ zT) (s : Nat) (hs : s < n) {ix : Nat} (hl : Cond.fieldLink own ix (T s).1 (T s).2.1 (T s).2.2.1 ∈ zT) (hd0 : sl[s]? = some (some (some q))) (hd : decode cc pc = .ok (.getfield ix, 3)) (kk : ZAt X Q k1 k2 (pc + 3) σ lv (.ref (X.ad q) :: st)) : ZAt X Q k1 k2 pc σ lv (.ref (X.ad w) :: st) :=
  z_fld ok hk hc hin s hs hl hd0 hd kk
theorem z_fput {C : String} {T : u_T} {n : Nat} {w ci : Nat} {sl : List (Option (Option Nat))} (ok : Zok X cc own rm N nL) (hk : zk w N (.inl (ci, sl))) (hc : zcl[ci]? = some (C, T, n)) (hin : ∀ c ∈ u_ws C T n, c ∈ zT) (ty0 : Nat → FieldType) (hty : ∀ k, k < n → parseFieldDescriptor (T k).2.2.1 = some (ty0 k)) (hnm : ∀ a, a < n → ∀ b, b < n → a ≠ b → (T a).2.1 ≠ (T b).2.1) (s : Nat) (hs : s < n) {ix : Nat} (hl : Cond.fieldLink own ix (T s).1 (T s).2.1 (T s).2.2.1 ∈ zT) {d : Option (Option Nat)} (hd0 : sl[s]? = some d) (hfin : (T s).2.2.2 = false) {ty : FieldType} {u : Value} {v : Int32} (hpd : parseFieldDescriptor (T s).2.2.1 = some ty) (hn : narrow ty u = u) (hfit : fits ty u = true) (hu : zvl X.ad (upd (σ w) s v) s d = u) (hd : decode cc pc = .ok (.putfield ix, 3)) (kk : ZAt X Q k1 k2 (pc + 3) (zup σ w s v) lv st) : ZAt X Q k1 k2 pc σ lv (u :: .ref (X.ad w) :: st) := by
  intro H locs ls hP hS h
  have he := zwl_get (cs := X.2.2.1.2.1) (ad := X.2.2.1.2.2.1) (σ := σ) (ok.lt hk.2)
  have hset : (zwl X.2.2.1.2.1 X.2.2.1.2.2.1 X.2.2.1.2.2.2 σ).set w (X.2.2.1.2.2.1 w, .inr (ci, (sl.mapIdx (zvl X.ad (σ w))).set s u)) = zwl X.2.2.1.2.1 X.2.2.1.2.2.1 X.2.2.1.2.2.2 (zup σ w s v) := by
    rw [zsl_set hd0 hu]
    have h9 := zwl_set (cs := X.2.2.1.2.1) (ad := X.2.2.1.2.2.1) (n := X.2.2.1.2.2.2) (σ := σ) (i := w) (upd (σ w) s v)
    rw [hk.1] at h9
    exact h9
  rw [hk.1] at he
  refine va_put (ty := ty) ok.1.1 ok.1.2.1 ok.1.2.2.2.2 hin ty0 hty hnm ok.1.2.2.2.1 ok.2.1 hP (ok.D σ) hS w he hc s hs (ok.1.2.2.2.2 _ hl) (fun _ h9 => h9) hfin hpd hn hfit (by rw [List.length_mapIdx]; exact (List.getElem?_eq_some_iff.mp hd0).1) hd (fun H1 locs1 hP1 _ hS1 => ?_)
  rw [hset] at hP1
  exact kk H1 locs1 ls hP1 hS1 h
theorem z_puti {C : String} {T : u_T} {n : Nat} {w ci : Nat} {sl : List (Option (Option Nat))} {k : Sg → Option α} (ok : Zok X cc own rm N nL) (hk : zk w N (.inl (ci, sl))) (hc : zcl[ci]? = some (C, T, n)) (hin : ∀ c ∈ u_ws C T n, c ∈ zT) (ty0 : Nat → FieldType) (hty : ∀ k, k < n → parseFieldDescriptor (T k).2.2.1 = some (ty0 k)) (hnm : ∀ a, a < n → ∀ b, b < n → a ≠ b → (T a).2.1 ≠ (T b).2.1) (s : Nat) (hs : s < n) {ix : Nat} (hl : Cond.fieldLink own ix (T s).1 (T s).2.1 (T s).2.2.1 ∈ zT) (hd0 : sl[s]? = some none) (hfin : (T s).2.2.2 = false) {v : Int32} (hpd : parseFieldDescriptor (T s).2.2.1 = some .int) (hd : decode cc pc = .ok (.putfield ix, 3)) (hf : zpt σ w s v k = some out) (kk : ∀ σ', k σ' = some out → ZAt X Q k1 k2 (pc + 3) σ' lv st) : ZAt X Q k1 k2 pc σ lv (.int v :: .ref (X.ad w) :: st) :=
  z_fput ok hk hc hin ty0 hty hnm s hs hl hd0 hfin hpd rfl rfl (by unfold zvl upd; simp) hd (kk _ hf)
theorem z_putz {C : String} {T : u_T} {n : Nat} {w ci : Nat} {sl : List (Option (Option Nat))} {k : Sg → Option α} (ok : Zok X cc own rm N nL) (hk : zk w N (.inl (ci, sl))) (hc : zcl[ci]? = some (C, T, n)) (hin : ∀ c ∈ u_ws C T n, c ∈ zT) (ty0 : Nat → FieldType) (hty : ∀ k, k < n → parseFieldDescriptor (T k).2.2.1 = some (ty0 k)) (hnm : ∀ a, a < n → ∀ b, b < n → a ≠ b → (T a).2.1 ≠ (T b).2.1) (s : Nat) (hs : s < n) {ix : Nat} (hl : Cond.fieldLink own ix (T s).1 (T s).2.1 (T s).2.2.1 ∈ zT) (hd0 : sl[s]? = some none) (hfin : (T s).2.2.2 = false) {v : Int32} (hpd : parseFieldDescriptor (T s).2.2.1 = some .boolean) (hd : decode cc pc = .ok (.putfield ix, 3)) (hf : zbo v (zpt σ w s v k) = some out) (kk : ∀ σ', k σ' = some out → ZAt X Q k1 k2 (pc + 3) σ' lv st) : ZAt X Q k1 k2 pc σ lv (.int v :: .ref (X.ad w) :: st) := by
  unfold zbo at hf
  split at hf
  · rename_i hv
    refine z_fput ok hk hc hin ty0 hty hnm s hs hl hd0 hfin hpd ?_ ?_ (by unfold zvl upd; simp) hd (kk _ hf)
    · rcases hv with rfl | rfl <;> decide
    · rcases hv with rfl | rfl <;> decide
  · cases hf
-- arrays
theorem z_iald {a n : Nat} {i : Int32} {k : Int32 → Option α} (ok : Zok X cc own rm N nL) (hk : zk a N (.inr (0, n, []))) (hd : decode cc pc = .ok (.iaload, 1)) (hf : zrd σ a n i k = some out) (kk : ∀ v, k v = some out → ZAt X Q k1 k2 (pc + 1) σ lv (.int v :: st)) : ZAt X Q k1 k2 pc σ lv (.int i :: .ref (X.ad a) :: st) := by
  intro H locs ls hP hS h
  obtain ⟨h1, h2⟩ := zrd_some hf
  have he := zwl_get (cs := X.2.2.1.2.1) (ad := X.2.2.1.2.2.1) (σ := σ) (ok.lt hk.2)
  rw [hk.1] at he
  exact va_iald ok.1.1 ok.1.2.1 ok.2.1 hP a 0 (n := n) (f := σ a) he rfl h1 hd (kk _ h2 H locs ls hP hS h)
theorem z_bald {a n : Nat} {i : Int32} {k : Int32 → Option α} (ok : Zok X cc own rm N nL) (hk : zk a N (.inr (1, n, []))) (hd : decode cc pc = .ok (.baload, 1)) (hf : zrd σ a n i k = some out) (kk : ∀ v, k v = some out → ZAt X Q k1 k2 (pc + 1) σ lv (.int v :: st)) : ZAt X Q k1 k2 pc σ lv (.int i :: .ref (X.ad a) :: st) := by
  intro H locs ls hP hS h
  obtain ⟨h1, h2⟩ := zrd_some hf
  have he := zwl_get (cs := X.2.2.1.2.1) (ad := X.2.2.1.2.2.1) (σ := σ) (ok.lt hk.2)
  rw [hk.1] at he
  exact va_bald ok.1.1 ok.1.2.1 ok.2.1 hP a 1 (n := n) (f := σ a) he rfl h1 hd (kk _ h2 H locs ls hP hS h)
theorem z_iast {a n : Nat} {i v : Int32} {k : Sg → Option α} (ok : Zok X cc own rm N nL) (hk : zk a N (.inr (0, n, []))) (hd : decode cc pc = .ok (.iastore, 1)) (hf : zwr σ a n i v k = some out) (kk : ∀ σ', k σ' = some out → ZAt X Q k1 k2 (pc + 1) σ' lv st) : ZAt X Q k1 k2 pc σ lv (.int v :: .int i :: .ref (X.ad a) :: st) := by
  intro H locs ls hP hS h
  obtain ⟨h1, h2⟩ := zwr_some hf
  have he := zwl_get (cs := X.2.2.1.2.1) (ad := X.2.2.1.2.2.1) (σ := σ) (ok.lt hk.2)
  have h9 := zwl_set (cs := X.2.2.1.2.1) (ad := X.2.2.1.2.2.1) (n := X.2.2.1.2.2.2) (σ := σ) (i := a) (upd (σ a) i.toNatClampNeg v)
  rw [hk.1] at he h9
  refine va_iast ok.1.1 ok.1.2.1 ok.2.1 hP (ok.D σ) hS a 0 (n := n) (f := σ a) he rfl h1 hd (fun H1 locs1 hP1 _ hS1 => ?_)
  exact kk _ h2 H1 locs1 ls (by rw [show zwl X.2.2.1.2.1 X.2.2.1.2.2.1 X.2.2.1.2.2.2 (zup σ a i.toNatClampNeg v) = _ from h9.symm]; exact hP1) hS1 h
theorem z_bast {a n : Nat} {i v : Int32} {k : Sg → Option α} (ok : Zok X cc own rm N nL) (hk : zk a N (.inr (1, n, []))) (hd : decode cc pc = .ok (.bastore, 1)) (hf : zwr σ a n i (vp_nar .byte v) k = some out) (kk : ∀ σ', k σ' = some out → ZAt X Q k1 k2 (pc + 1) σ' lv st) : ZAt X Q k1 k2 pc σ lv (.int v :: .int i :: .ref (X.ad a) :: st) := by
  intro H locs ls hP hS h
  obtain ⟨h1, h2⟩ := zwr_some hf
  have he := zwl_get (cs := X.2.2.1.2.1) (ad := X.2.2.1.2.2.1) (σ := σ) (ok.lt hk.2)
  have h9 := zwl_set (cs := X.2.2.1.2.1) (ad := X.2.2.1.2.2.1) (n := X.2.2.1.2.2.2) (σ := σ) (i := a) (upd (σ a) i.toNatClampNeg (vp_nar .byte v))
  rw [hk.1] at he h9
  refine va_bast ok.1.1 ok.1.2.1 ok.2.1 hP (ok.D σ) hS a 1 (n := n) (f := σ a) he rfl h1 hd (fun H1 locs1 hP1 _ hS1 => ?_)
  exact kk _ h2 H1 locs1 ls (by rw [show zwl X.2.2.1.2.1 X.2.2.1.2.2.1 X.2.2.1.2.2.2 (zup σ a i.toNatClampNeg (vp_nar .byte v)) = _ from h9.symm]; exact hP1) hS1 h
theorem z_aald {a t n : Nat} {els : List Nat} {i : Int32} {k : Nat → Option α} (ok : Zok X cc own rm N nL) (hk : zk a N (.inr (t, n, els))) (ht : t = 2 ∨ t = 3) (hn : els.length = n) (hd : decode cc pc = .ok (.aaload, 1)) (hf : zel els i k = some out) (kk : ∀ q, q ∈ els → k q = some out → ZAt X Q k1 k2 (pc + 1) σ lv (.ref (X.ad q) :: st)) : ZAt X Q k1 k2 pc σ lv (.int i :: .ref (X.ad a) :: st) := by
  intro H locs ls hP hS h
  subst hn
  obtain ⟨h1, h2⟩ := zel_some hf
  have hlt : i.toNatClampNeg < els.length := Nat.not_le.mp fun q => h1 (Or.inr q)
  have he := zwl_get (cs := X.2.2.1.2.1) (ad := X.2.2.1.2.2.1) (σ := σ) (ok.lt hk.2)
  rw [hk.1] at he
  have hq : els[i.toNatClampNeg]? = some (els.getD i.toNatClampNeg 0) := by rw [List.getD_eq_getElem?_getD, List.getElem?_eq_getElem hlt]; rfl
  have hm : els.getD i.toNatClampNeg 0 ∈ els := List.mem_of_getElem? hq
  rcases ht with rfl | rfl
  · refine W.aald (v := .ref (X.ad (els.getD i.toNatClampNeg 0))) (ty := .array .int) ok.1.1 ok.1.2.1 (hP a _ he) ((ok.2.1.2 2 _ rfl).1 els.length (fun j => va_rf ((els[j]?).map X.ad))) rfl (fun q => by cases q) (by show ¬ (i < 0 ∨ (arrV _ _ _).slots.size ≤ _); rw [arrV_size]; exact h1) (by show (arrV _ _ _).slots[_]? = _; rw [arrV_read _ _ hlt]; show some (va_rf ((els[i.toNatClampNeg]?).map X.ad)) = _; rw [hq]; rfl) rfl rfl hd (kk _ hm h2 H locs ls hP hS h)
  · refine W.aald (v := .ref (X.ad (els.getD i.toNatClampNeg 0))) (ty := .array .byte) ok.1.1 ok.1.2.1 (hP a _ he) ((ok.2.1.2 3 _ rfl).1 els.length (fun j => va_rf ((els[j]?).map X.ad))) rfl (fun q => by cases q) (by show ¬ (i < 0 ∨ (arrV _ _ _).slots.size ≤ _); rw [arrV_size]; exact h1) (by show (arrV _ _ _).slots[_]? = _; rw [arrV_read _ _ hlt]; show some (va_rf ((els[i.toNatClampNeg]?).map X.ad)) = _; rw [hq]; rfl) rfl rfl hd (kk _ hm h2 H locs ls hP hS h)
theorem z_aaldc {a t n : Nat} {els : List Nat} {i : Int32} {q : Nat} (ok : Zok X cc own rm N nL) (hk : zk a N (.inr (t, n, els))) (ht : t = 2 ∨ t = 3) (hn : els.length = n) (hi : ¬ (i < 0 ∨ n ≤ i.toNatClampNeg)) (hq : els.getD i.toNatClampNeg 0 = q) (hd : decode cc pc = .ok (.aaload, 1)) (kk : ZAt X Q k1 k2 (pc + 1) σ lv (.ref (X.ad q) :: st)) : ZAt X Q k1 k2 pc σ lv (.int i :: .ref (X.ad a) :: st) := by
  subst hn
  subst hq
  exact z_aald (α := Unit) (out := ()) (k := fun q' => if q' = els.getD i.toNatClampNeg 0 then some () else none) ok hk ht rfl hd (by unfold zel; rw [if_neg hi]; exact if_pos rfl) (fun q' _ h => by
    split at h
    · rename_i e
      rw [e]
      exact kk
    · cases h)
-- loops
theorem z_iter {S R : Type} (sg : S → Sg) (lvs : S → List (Nat × Value)) {b : S → Option (S ⊕ R)} {G : R → Prop} (hb : ∀ s o, b s = some o → zout (fun s' => ZAt X Q k1 k2 pc (sg s') (lvs s') []) G o → ZAt X Q k1 k2 pc (sg s) (lvs s) []) : ∀ n s r, zit b n s = some r → G r → ZAt X Q k1 k2 pc (sg s) (lvs s) []
  | 0, s, r, h, _ => by cases h
  | n + 1, s, r, h, hG => by
    obtain ⟨o, h1, h2⟩ := zbind h
    refine hb s o h1 ?_
    cases o with
    | inl s' => exact z_iter sg lvs hb n s' r h2 hG
    | inr r' => cases h2; exact hG
end ZR
