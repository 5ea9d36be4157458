theorem zsw_out {x : Int32} (lo hi : Int) (vals : List Int32) (hv : (List.range (hi - lo + 1).toNat).all (fun k => decide (Int32.ofInt (lo + k) ∈ vals)) = true) (h : ∀ v ∈ vals, ¬ x = v) : x.toInt < lo ∨ hi < x.toInt := by
  by_cases h1 : x.toInt < lo
  · exact Or.inl h1
  · by_cases h2 : hi < x.toInt
    · exact Or.inr h2
    · exfalso
      have h3 := List.all_eq_true.mp hv (x.toInt - lo).toNat (List.mem_range.mpr (by omega))
      have h4 : lo + ((x.toInt - lo).toNat : Int) = x.toInt := by omega
      rw [h4, Int32.ofInt_toInt] at h3
      exact h _ (of_decide_eq_true h3) rfl
theorem zsw_def {x : Int32} {dflt : Int} : ∀ (ps : List (Int × Int)), (∀ q ∈ ps, (Int32.ofInt q.1).toInt = q.1) → (∀ q ∈ ps, ¬ x = Int32.ofInt q.1) → Op.lookupswitch.offset ps dflt x.toInt = dflt
  | [], _, _ => rfl
  | (a, o) :: r, h1, h2 => by
    rw [Op.lookupswitch.offset_cons, if_neg]
    · exact zsw_def r (fun q hq => h1 q (List.mem_cons_of_mem _ hq)) (fun q hq => h2 q (List.mem_cons_of_mem _ hq))
    · intro e
      have e1 : a = x.toInt := e
      exact h2 (a, o) List.mem_cons_self (by show x = Int32.ofInt a; rw [e1, Int32.ofInt_toInt])
def zcp {α : Type} (σ : Sg) (a b n : Nat) (k : Sg → Option α) : Option α := k (zrow σ b (va_cpy (σ a) (σ b) 0 0 n))
def zelr {α : Type} (p n : Nat) (i : Int32) (k : Nat → Option α) : Option α := if i < 0 ∨ n ≤ i.toNatClampNeg then none else k (p + i.toNatClampNeg)
def zmr1 {α : Type} (p : Nat) (v : Int32) (k : Option α) : Option α := if v = nI (p + 1) then k else none
def zmr2 {α : Type} (p q : Nat) (v : Int32) (k : Nat → Option α) : Option α := if v = nI (p + 1) then k p else if v = nI (q + 1) then k q else none
theorem zj_min : Cond.static Lib.Math.min.name ∈ zT ∧ Cond.initialized "java/lang/Math" ∈ zT ∧ Cond.code Lib.Math.min.name Lib.Math.min.code 2 (some .int) ∈ zT := ⟨zT_of (i := 879) (by decide +kernel) rfl, zT_of (i := 142) (by decide +kernel) rfl, zT_of (i := 880) (by decide +kernel) rfl⟩
theorem zj_max : Cond.static Lib.Math.max.name ∈ zT ∧ Cond.initialized "java/lang/Math" ∈ zT ∧ Cond.code Lib.Math.max.name Lib.Math.max.code 2 (some .int) ∈ zT := ⟨zT_of (i := 958) (by decide +kernel) rfl, zT_of (i := 142) (by decide +kernel) rfl, zT_of (i := 959) (by decide +kernel) rfl⟩
theorem zj_abs : Cond.static Lib.Math.abs.name ∈ zT ∧ Cond.initialized "java/lang/Math" ∈ zT ∧ Cond.code Lib.Math.abs.name Lib.Math.abs.code 1 (some .int) ∈ zT := ⟨zT_of (i := 1058) (by decide +kernel) rfl, zT_of (i := 142) (by decide +kernel) rfl, zT_of (i := 1059) (by decide +kernel) rfl⟩
theorem zj_copy : Cond.native arraycopyName ∈ zT ∧ Cond.static arraycopyName ∈ zT ∧ Cond.initialized "java/lang/System" ∈ zT := ⟨zT_of (i := 857) (by decide +kernel) rfl, zT_of (i := 856) (by decide +kernel) rfl, zT_of (i := 140) (by decide +kernel) rfl⟩
section ZM
variable {X : Zx} {cc : ByteArray} {own : String} {rm : Room} {N nL : Nat} {Q : State → Prop} {k1 k2 pc : Nat} {σ : Sg} {lv : List (Nat × Value)} {st : List Value} {α : Type} {out : α}
theorem z_mmin (ok : Zok X cc own rm N nL) {ix : Nat} {x y : Int32} (hl : Cond.methodLink own ix Lib.Math.min.name ∈ zT) (hfr : 1 ≤ rm.frames) (hlo : (st.map fun v => v.category).sum + 13 ≤ rm.locals) (hkR : k1 ≤ rm.cells ∧ k2 ≤ rm.slots) (hd : decode cc pc = .ok (.invokestatic ix, 3)) (kk : ZAt X Q k1 k2 (pc + 3) σ lv (.int (if y < x then y else x) :: st)) : ZAt X Q k1 k2 pc σ lv (.int y :: .int x :: st) := by
  intro H locs ls hP hS h
  have hts := ok.1.2.2.2.2
  exact va_mmin ok.1.1 ok.1.2.1 (by rw [ok.1.2.2.1, h.1, ok.2.2.2.2.2.2.1]) ok.1.2.2.2.1 (hts _ hl) (hts _ zj_min.1) (hts _ zj_min.2.1) (hts _ zj_min.2.2) (by rw [ok.2.2.2.1]; exact hfr) (by rw [ok.2.2.2.1]; exact hlo) (by rw [ok.2.2.2.1]; exact hkR.1) (by rw [ok.2.2.2.1]; exact hkR.2) hd (kk H locs ls hP hS h)
theorem z_mmax (ok : Zok X cc own rm N nL) {ix : Nat} {x y : Int32} (hl : Cond.methodLink own ix Lib.Math.max.name ∈ zT) (hfr : 1 ≤ rm.frames) (hlo : (st.map fun v => v.category).sum + 13 ≤ rm.locals) (hkR : k1 ≤ rm.cells ∧ k2 ≤ rm.slots) (hd : decode cc pc = .ok (.invokestatic ix, 3)) (kk : ZAt X Q k1 k2 (pc + 3) σ lv (.int (if x < y then y else x) :: st)) : ZAt X Q k1 k2 pc σ lv (.int y :: .int x :: st) := by
  intro H locs ls hP hS h
  have hts := ok.1.2.2.2.2
  exact va_mmax ok.1.1 ok.1.2.1 (by rw [ok.1.2.2.1, h.1, ok.2.2.2.2.2.2.1]) ok.1.2.2.2.1 (hts _ hl) (hts _ zj_max.1) (hts _ zj_max.2.1) (hts _ zj_max.2.2) (by rw [ok.2.2.2.1]; exact hfr) (by rw [ok.2.2.2.1]; exact hlo) (by rw [ok.2.2.2.1]; exact hkR.1) (by rw [ok.2.2.2.1]; exact hkR.2) hd (kk H locs ls hP hS h)
theorem z_mabs (ok : Zok X cc own rm N nL) {ix : Nat} {x : Int32} (hl : Cond.methodLink own ix Lib.Math.abs.name ∈ zT) (hfr : 1 ≤ rm.frames) (hlo : (st.map fun v => v.category).sum + 13 ≤ rm.locals) (hkR : k1 ≤ rm.cells ∧ k2 ≤ rm.slots) (hd : decode cc pc = .ok (.invokestatic ix, 3)) (kk : ZAt X Q k1 k2 (pc + 3) σ lv (.int (if 0 ≤ x then x else 0 - x) :: st)) : ZAt X Q k1 k2 pc σ lv (.int x :: st) := by
  intro H locs ls hP hS h
  have hts := ok.1.2.2.2.2
  exact va_mabs ok.1.1 ok.1.2.1 (by rw [ok.1.2.2.1, h.1, ok.2.2.2.2.2.2.1]) ok.1.2.2.2.1 (hts _ hl) (hts _ zj_abs.1) (hts _ zj_abs.2.1) (hts _ zj_abs.2.2) (by rw [ok.2.2.2.1]; exact hfr) (by rw [ok.2.2.2.1]; exact hlo) (by rw [ok.2.2.2.1]; exact hkR.1) (by rw [ok.2.2.2.1]; exact hkR.2) hd (kk H locs ls hP hS h)
theorem z_copy {a b n ix : Nat} {m : Int32} {k : Sg → Option α} (ok : Zok X cc own rm N nL) (ha : zk a N (.inr (0, n, []))) (hb : zk b N (.inr (0, n, []))) (hl : Cond.methodLink own ix arraycopyName ∈ zT) (hm : ¬ m < 0 ∧ m.toNatClampNeg = n) (hfr : 1 ≤ rm.frames) (hlo : (st.map fun v => v.category).sum + 18 ≤ rm.locals) (hd : decode cc pc = .ok (.invokestatic ix, 3)) (hf : zcp σ a b n k = some out) (kk : ∀ σ', k σ' = some out → ZAt X Q k1 k2 (pc + 3) σ' lv st) : ZAt X Q k1 k2 pc σ lv (.int m :: .int 0 :: .ref (X.ad b) :: .int 0 :: .ref (X.ad a) :: st) := by
  intro H locs ls hP hS h
  have hts := ok.1.2.2.2.2
  have hea := zwl_get (cs := X.2.2.1.2.1) (ad := X.2.2.1.2.2.1) (σ := σ) (ok.lt ha.2)
  have heb := zwl_get (cs := X.2.2.1.2.1) (ad := X.2.2.1.2.2.1) (σ := σ) (ok.lt hb.2)
  have h9 := zwl_set (cs := X.2.2.1.2.1) (ad := X.2.2.1.2.2.1) (n := X.2.2.1.2.2.2) (σ := σ) (i := b) (va_cpy (σ a) (σ b) 0 0 n)
  rw [ha.1] at hea
  rw [hb.1] at heb h9
  have z0 : (0 : Int32).toNatClampNeg = 0 := by decide
  have hz : (0 : Int32).toNatClampNeg + m.toNatClampNeg ≤ n := by rw [z0, hm.2]; omega
  refine va_copyi ok.1.1 ok.1.2.1 (by rw [ok.1.2.2.1, h.1, ok.2.2.2.2.2.2.1]) ok.1.2.2.2.1 (hts _ hl) (hts _ zj_copy.1) (hts _ zj_copy.2.1) (hts _ zj_copy.2.2) ok.2.1 hP (ok.D σ) hS a b 0 0 (n0 := n) (n1 := n) (f := σ a) (g := σ b) (ty := .int) (sp := 0) (dp := 0) (n := m) hea heb rfl rfl rfl (by decide) (by decide) hm.1 hz hz (fun _ _ => rfl) (by rw [ok.2.2.2.1]; exact hfr) (by rw [ok.2.2.2.1]; exact hlo) hd (fun H1 locs1 hP1 _ hS1 => ?_)
  rw [show (0 : Int32).toNatClampNeg = 0 by decide, hm.2] at hP1
  exact kk _ hf H1 locs1 ls (by rw [show zwl X.2.2.1.2.1 X.2.2.1.2.2.1 X.2.2.1.2.2.2 (zrow σ b (va_cpy (σ a) (σ b) 0 0 n)) = _ from h9.symm]; exact hP1) hS1 h
theorem z_aaldr {a t n p : Nat} {els : List Nat} {i : Int32} {k : Nat → Option α} (ok : Zok X cc own rm N nL) (hk : zk a N (.inr (t, n, els))) (ht : t = 2 ∨ t = 3) (he : els = (List.range n).map (fun j => p + j)) (hd : decode cc pc = .ok (.aaload, 1)) (hf : zelr p n i k = some out) (kk : ∀ q, q ∈ els → k q = some out → ZAt X Q k1 k2 (pc + 1) σ lv (.ref (X.ad q) :: st)) : ZAt X Q k1 k2 pc σ lv (.int i :: .ref (X.ad a) :: st) := by
  have hlen : els.length = n := by rw [he]; simp
  refine z_aald (k := k) ok hk ht hlen hd ?_ kk
  unfold zelr at hf
  unfold zel
  rw [hlen]
  split at hf
  · cases hf
  · rename_i h
    have hlt : i.toNatClampNeg < n := Nat.not_le.mp fun q => h (Or.inr q)
    rw [if_neg h]
    have hq : els.getD i.toNatClampNeg 0 = p + i.toNatClampNeg := by
      rw [he, List.getD_eq_getElem?_getD, List.getElem?_map, List.getElem?_range hlt]
      rfl
    rw [hq]
    exact hf
theorem z_lookdef (ok : Zok X cc own rm N nL) {dflt : Int} {ps : Array (Int × Int)} {len : Nat} {x : Int32} {tgt : Nat} (hd : decode cc pc = .ok (.lookupswitch dflt ps, len)) (hp : (ps.toList.zip (ps.toList.drop 1)).all (fun (a, next) => a.1 < next.1) = true) (h1 : ∀ q ∈ ps.toList, (Int32.ofInt q.1).toInt = q.1) (h2 : ∀ q ∈ ps.toList, ¬ x = Int32.ofInt q.1) (ht : (pc : Int) + dflt = (tgt : Int)) (kk : ZAt X Q k1 k2 tgt σ lv st) : ZAt X Q k1 k2 pc σ lv (.int x :: st) :=
  z_lookup ok hd hp (zsw_def _ h1 h2) ht kk
theorem zrf_of {ad : Nat → Nat} {p : Nat} (h : p < 100000) : zrf ad (nI (p + 1)) = some (ad p) := by
  unfold zrf
  rw [if_neg (nI_ne0 (Nat.succ_pos p) (by omega)), nI_clamp (by omega)]
  rfl
theorem z_getm1 {C : String} {T : u_T} {n : Nat} {w ci p : Nat} {sl : List (Option (Option Nat))} {k : Option α} (ok : Zok X cc own rm N nL) (hk : zk w N (.inl (ci, sl))) (hc : zcl[ci]? = some (C, T, n)) (hin : ∀ c ∈ u_ws C T n, c ∈ zT) (s : Nat) (hs : s < n) {ix : Nat} (hl : Cond.fieldLink own ix (T s).1 (T s).2.1 (T s).2.2.1 ∈ zT) (hd0 : sl[s]? = some (some none)) (hp : p < 100000) (hd : decode cc pc = .ok (.getfield ix, 3)) (hf : zmr1 p (σ w s) k = some out) (kk : k = some out → ZAt X Q k1 k2 (pc + 3) σ lv (.ref (X.ad p) :: st)) : ZAt X Q k1 k2 pc σ lv (.ref (X.ad w) :: st) := by
  unfold zmr1 at hf
  split at hf
  · rename_i h
    refine z_fld ok hk hc hin s hs hl hd0 hd ?_
    have h5 : zvl X.ad (σ w) s (some none) = .ref (X.ad p) := by
      show va_rf (zrf X.ad (σ w s)) = _
      rw [h, zrf_of hp]
      rfl
    rw [h5]
    exact kk hf
  · cases hf
theorem z_getm2 {C : String} {T : u_T} {n : Nat} {w ci p q : Nat} {sl : List (Option (Option Nat))} {k : Nat → Option α} (ok : Zok X cc own rm N nL) (hk : zk w N (.inl (ci, sl))) (hc : zcl[ci]? = some (C, T, n)) (hin : ∀ c ∈ u_ws C T n, c ∈ zT) (s : Nat) (hs : s < n) {ix : Nat} (hl : Cond.fieldLink own ix (T s).1 (T s).2.1 (T s).2.2.1 ∈ zT) (hd0 : sl[s]? = some (some none)) (hp : p < 100000) (hq : q < 100000) (hd : decode cc pc = .ok (.getfield ix, 3)) (hf : zmr2 p q (σ w s) k = some out) (kk : ∀ r, r = p ∨ r = q → k r = some out → ZAt X Q k1 k2 (pc + 3) σ lv (.ref (X.ad r) :: st)) : ZAt X Q k1 k2 pc σ lv (.ref (X.ad w) :: st) := by
  have key : ∀ r, r < 100000 → σ w s = nI (r + 1) → zvl X.ad (σ w) s (some none) = .ref (X.ad r) := fun r hr h => by
    show va_rf (zrf X.ad (σ w s)) = _
    rw [h, zrf_of hr]
    rfl
  refine z_fld ok hk hc hin s hs hl hd0 hd ?_
  unfold zmr2 at hf
  split at hf
  · rename_i h
    rw [key p hp h]
    exact kk p (Or.inl rfl) hf
  · split at hf
    · rename_i h
      rw [key q hq h]
      exact kk q (Or.inr rfl) hf
    · cases hf
theorem z_putm {C : String} {T : u_T} {n : Nat} {w ci r : Nat} {sl : List (Option (Option Nat))} {k : Sg → Option α} (ok : Zok X cc own rm N nL) (hk : zk w N (.inl (ci, sl))) (hc : zcl[ci]? = some (C, T, n)) (hin : ∀ c ∈ u_ws C T n, c ∈ zT) (ty0 : Nat → FieldType) (hty : ∀ k, k < n → parseFieldDescriptor (T k).2.2.1 = some (ty0 k)) (hnm : ∀ a, a < n → ∀ b, b < n → a ≠ b → (T a).2.1 ≠ (T b).2.1) (s : Nat) (hs : s < n) {ix : Nat} (hl : Cond.fieldLink own ix (T s).1 (T s).2.1 (T s).2.2.1 ∈ zT) (hd0 : sl[s]? = some (some none)) (hfin : (T s).2.2.2 = false) (hr : r < 100000) {ty : FieldType} (hpd : parseFieldDescriptor (T s).2.2.1 = some ty) (hn : narrow ty (.ref (X.ad r)) = .ref (X.ad r)) (hfit : fits ty (.ref (X.ad r)) = true) (hd : decode cc pc = .ok (.putfield ix, 3)) (hf : zpt σ w s (nI (r + 1)) k = some out) (kk : ∀ σ', k σ' = some out → ZAt X Q k1 k2 (pc + 3) σ' lv st) : ZAt X Q k1 k2 pc σ lv (.ref (X.ad r) :: .ref (X.ad w) :: st) :=
  z_fput ok hk hc hin ty0 hty hnm s hs hl hd0 hfin hpd hn hfit (by show va_rf (zrf X.ad (upd (σ w) s (nI (r + 1)) s)) = _; rw [show upd (σ w) s (nI (r + 1)) s = nI (r + 1) from if_pos rfl, zrf_of hr]; rfl) hd (kk _ hf)
theorem z_ldcw (ok : Zok X cc own rm N nL) {ix : Nat} {v : Int32} (hd : decode cc pc = .ok (.ldc_w ix, 3)) (hw : Cond.constant own ix v ∈ zT) (kk : ZAt X Q k1 k2 (pc + 3) σ lv (.int v :: st)) : ZAt X Q k1 k2 pc σ lv st :=
  fun H locs ls hP hS hl => lv_ldcw ok.1.1 ok.1.2.1 ok.1.2.2.2.1 (ok.1.2.2.2.2 _ hw) hd (kk H locs ls hP hS hl)
theorem z_ldc2_w (ok : Zok X cc own rm N nL) {ix : Nat} {v : Int64} (hd : decode cc pc = .ok (.ldc2_w ix, 3)) (hw : Cond.constantLong own ix v ∈ zT) (kk : ZAt X Q k1 k2 (pc + 3) σ lv (.long v :: st)) : ZAt X Q k1 k2 pc σ lv st :=
  fun H locs ls hP hS hl => lv_ldc2 ok.1.1 ok.1.2.1 ok.1.2.2.2.1 (ok.1.2.2.2.2 _ hw) hd (kk H locs ls hP hS hl)
theorem z_i2l (ok : Zok X cc own rm N nL) {x : Int32} (hd : decode cc pc = .ok (.i2l, 1)) (kk : ZAt X Q k1 k2 (pc + 1) σ lv (.long x.toInt64 :: st)) : ZAt X Q k1 k2 pc σ lv (.int x :: st) :=
  fun H locs ls hP hS hl => lv_i2l ok.1.1 ok.1.2.1 hd rfl (kk H locs ls hP hS hl)
theorem z_l2i (ok : Zok X cc own rm N nL) {x : Int64} (hd : decode cc pc = .ok (.l2i, 1)) (kk : ZAt X Q k1 k2 (pc + 1) σ lv (.int x.toInt32 :: st)) : ZAt X Q k1 k2 pc σ lv (.long x :: st) :=
  fun H locs ls hP hS hl => lv_l2i ok.1.1 ok.1.2.1 hd rfl (kk H locs ls hP hS hl)
theorem z_lrem (ok : Zok X cc own rm N nL) {x y : Int64} (hd : decode cc pc = .ok (.lrem, 1)) (hy : ¬ y = 0) (kk : ZAt X Q k1 k2 (pc + 1) σ lv (.long (x - x / y * y) :: st)) : ZAt X Q k1 k2 pc σ lv (.long y :: .long x :: st) :=
  fun H locs ls hP hS hl => lv_lrem ok.1.1 ok.1.2.1 hd hy (kk H locs ls hP hS hl)
theorem z_alen {a t n : Nat} {els : List Nat} (ok : Zok X cc own rm N nL) (hk : zk a N (.inr (t, n, els))) (ht : t < 5) (hd : decode cc pc = .ok (.arraylength, 1)) (kk : ZAt X Q k1 k2 (pc + 1) σ lv (.int (Int32.ofNat n) :: st)) : ZAt X Q k1 k2 pc σ lv (.ref (X.ad a) :: st) := by
  intro H locs ls hP hS h
  have he := zwl_get (cs := X.2.2.1.2.1) (ad := X.2.2.1.2.2.1) (σ := σ) (ok.lt hk.2)
  rw [hk.1] at he
  rcases (show t = 0 ∨ t = 1 ∨ t = 2 ∨ t = 3 ∨ t = 4 by omega) with rfl | rfl | rfl | rfl | rfl
  · exact va_alen ok.1.1 ok.1.2.1 ok.2.1 hP a 0 he rfl rfl hd (kk H locs ls hP hS h)
  · exact va_alen ok.1.1 ok.1.2.1 ok.2.1 hP a 1 he rfl rfl hd (kk H locs ls hP hS h)
  · exact va_alen ok.1.1 ok.1.2.1 ok.2.1 hP a 2 he rfl rfl hd (kk H locs ls hP hS h)
  · exact va_alen ok.1.1 ok.1.2.1 ok.2.1 hP a 3 he rfl rfl hd (kk H locs ls hP hS h)
  · exact va_alen ok.1.1 ok.1.2.1 ok.2.1 hP a 4 he rfl rfl hd (kk H locs ls hP hS h)
theorem z_lmul (ok : Zok X cc own rm N nL) {x y : Int64} (hd : decode cc pc = .ok (.lmul, 1)) (kk : ZAt X Q k1 k2 (pc + 1) σ lv (.long (x * y) :: st)) : ZAt X Q k1 k2 pc σ lv (.long y :: .long x :: st) :=
  fun H locs ls hP hS hl => lv_lmul ok.1.1 ok.1.2.1 hd (kk H locs ls hP hS hl)
theorem z_ladd (ok : Zok X cc own rm N nL) {x y : Int64} (hd : decode cc pc = .ok (.ladd, 1)) (kk : ZAt X Q k1 k2 (pc + 1) σ lv (.long (x + y) :: st)) : ZAt X Q k1 k2 pc σ lv (.long y :: .long x :: st) :=
  fun H locs ls hP hS hl => lv_ladd ok.1.1 ok.1.2.1 hd (kk H locs ls hP hS hl)
theorem z_land (ok : Zok X cc own rm N nL) {x y : Int64} (hd : decode cc pc = .ok (.land, 1)) (kk : ZAt X Q k1 k2 (pc + 1) σ lv (.long (x &&& y) :: st)) : ZAt X Q k1 k2 pc σ lv (.long y :: .long x :: st) :=
  fun H locs ls hP hS hl => lv_land ok.1.1 ok.1.2.1 hd (kk H locs ls hP hS hl)
end ZM
