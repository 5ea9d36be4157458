def zrb (B : Nat) (k : Kd) : Bool := match k with
  | .inl o => o.2.all (fun d => match d with | some (some q) => decide (q < B) | _ => true)
  | .inr a => a.2.2.all (fun q => decide (q < B))
theorem zce_shb {cs : Nat → ClassId} {ad ad2 : Nat → Nat} {m B : Nat} (h : ∀ i, i < B → ad2 i = ad (m + i)) (k : Kd) (hk : zrb B k = true) : zce cs ad2 (fun _ => 0) k = zce cs ad (fun _ => 0) (zsh m k) := by
  cases k with
  | inl o =>
    obtain ⟨ci, sl⟩ := o
    show (Sum.inr (ci, sl.mapIdx (zvl ad2 fun _ => 0)) : va_E) = Sum.inr (ci, (sl.map _).mapIdx (zvl ad fun _ => 0))
    congr 2
    apply List.ext_getElem?
    intro j
    rw [List.getElem?_mapIdx, List.getElem?_mapIdx, List.getElem?_map, Option.map_map]
    cases hc : sl[j]? with
    | none => rfl
    | some d =>
      have hd := List.all_eq_true.mp hk d (List.mem_of_getElem? hc)
      cases d with
      | none => rfl
      | some d =>
        cases d with
        | none => rfl
        | some q =>
          have hq : q < B := of_decide_eq_true hd
          show some (Value.ref (ad2 q)) = some (Value.ref (ad (m + q)))
          rw [h q hq]
  | inr a =>
    obtain ⟨t, n, els⟩ := a
    have e : (fun j => if t = 4 then zrf ad2 0 else (els[j]?).map ad2) = (fun j => if t = 4 then zrf ad 0 else ((els.map (fun q => m + q))[j]?).map ad) := funext fun j => by
      by_cases h4 : t = 4
      · rw [if_pos h4, if_pos h4]
        rfl
      · rw [if_neg h4, if_neg h4, List.getElem?_map, Option.map_map]
        cases hc : els[j]? with
        | none => rfl
        | some q =>
          have hq : q < B := of_decide_eq_true (List.all_eq_true.mp hk q (List.mem_of_getElem? hc))
          show some (ad2 q) = some (ad (m + q))
          rw [h q hq]
    show (Sum.inl (cs t, n, if t ≤ 1 then .inl (fun _ => 0) else .inr (.inr (.inr (.inr (fun j => if t = 4 then zrf ad2 0 else (els[j]?).map ad2))))) : va_E) = Sum.inl (cs t, n, if t ≤ 1 then .inl (fun _ => 0) else .inr (.inr (.inr (.inr (fun j => if t = 4 then zrf ad 0 else ((els.map (fun q => m + q))[j]?).map ad)))))
    rw [e]
theorem zKM_ks (w : Nat) : zKM w = ks_Moment_init.map (zsh w) := rfl
theorem kd_mom {w j : Nat} (h1 : 198 ≤ w) (h2 : (w - 198) % 25 = 0) (hj : j < 25) : kd (w + j) = (zKM w).getD j (.inr (0, 0, [])) := by
  unfold kd
  rw [if_neg (by omega), show (w + j - 198) % 25 = j by omega, show w + j - j = w by omega]
theorem zI_mom {w N : Nat} (h1 : 198 ≤ w) (h2 : (w - 198) % 25 = 0) (h3 : w + 25 ≤ N) : zI_Moment w N := by
  refine ⟨⟨by have h := kd_mom (j := 0) h1 h2 (by decide); exact h, by omega⟩, ⟨by have h := kd_mom (j := 1) h1 h2 (by decide); exact h, by omega⟩, ⟨by have h := kd_mom (j := 2) h1 h2 (by decide); exact h, by omega⟩, ⟨by have h := kd_mom (j := 3) h1 h2 (by decide); exact h, by omega⟩, ⟨by have h := kd_mom (j := 4) h1 h2 (by decide); exact h, by omega⟩, ⟨by have h := kd_mom (j := 5) h1 h2 (by decide); exact h, by omega⟩, ⟨by have h := kd_mom (j := 6) h1 h2 (by decide); exact h, by omega⟩, ⟨by have h := kd_mom (j := 7) h1 h2 (by decide); exact h, by omega⟩, ⟨by have h := kd_mom (j := 8) h1 h2 (by decide); exact h, by omega⟩, ⟨by have h := kd_mom (j := 9) h1 h2 (by decide); exact h, by omega⟩, ⟨by have h := kd_mom (j := 10) h1 h2 (by decide); exact h, by omega⟩, ⟨by have h := kd_mom (j := 11) h1 h2 (by decide); exact h, by omega⟩, ⟨by have h := kd_mom (j := 12) h1 h2 (by decide); exact h, by omega⟩, ⟨by have h := kd_mom (j := 13) h1 h2 (by decide); exact h, by omega⟩, ⟨by have h := kd_mom (j := 14) h1 h2 (by decide); exact h, by omega⟩, ⟨by have h := kd_mom (j := 15) h1 h2 (by decide); exact h, by omega⟩, ⟨by have h := kd_mom (j := 16) h1 h2 (by decide); exact h, by omega⟩, ⟨by have h := kd_mom (j := 17) h1 h2 (by decide); exact h, by omega⟩, ⟨by have h := kd_mom (j := 18) h1 h2 (by decide); exact h, by omega⟩, ⟨by have h := kd_mom (j := 19) h1 h2 (by decide); exact h, by omega⟩, ⟨by have h := kd_mom (j := 20) h1 h2 (by decide); exact h, by omega⟩, ⟨by have h := kd_mom (j := 21) h1 h2 (by decide); exact h, by omega⟩, ⟨by have h := kd_mom (j := 22) h1 h2 (by decide); exact h, by omega⟩, ⟨by have h := kd_mom (j := 23) h1 h2 (by decide); exact h, by omega⟩, ⟨by have h := kd_mom (j := 24) h1 h2 (by decide); exact h, by omega⟩⟩
abbrev zX (X : Zx) (n : Nat) : Zx := (X.1, X.2.1, (X.2.2.1.1, X.2.2.1.2.1, X.2.2.1.2.2.1, n), X.2.2.2.1, X.2.2.2.2)
def zar (ad : Nat → Nat) : Prop := ∀ i, i < 1000000 → ad i = ad 0 + i
def zms (d : Nat) : Nat := if d = 0 then 0 else 1664
def zzn (σ : Sg) (n : Nat) : Sg := fun a => if n ≤ a ∧ a < n + 25 then fun _ => 0 else σ a
/-- a method's context where places may be made: the heap's size tells their number -/
def Zoka (X : Zx) (cc : ByteArray) (own : String) (rm : Room) (N nL k1 : Nat) : Prop := Zok X cc own rm N nL ∧ zar X.ad ∧ zAO X.1.2.2.2.2 ∧ X.1.2.2.2.2.heap.size + k1 = X.ad X.2.2.1.2.2.2 ∧ X.2.2.1.2.2.2 ≤ 900000
section ZA
variable {X : Zx} {cc : ByteArray} {own : String} {rm : Room} {N nL : Nat} {Q : State → Prop} {k1 k2 pc : Nat} {σ : Sg} {lv : List (Nat × Value)} {st : List Value} {α : Type} {out : α}
theorem Zok.up {M : Nat} (ok : Zok X cc own rm N nL) (h : M ≤ X.2.2.1.2.2.2) : Zok X cc own rm M nL := by
  obtain ⟨h1, h2, h3, h4, h5, h6⟩ := ok
  exact ⟨h1, h2, h3, h4, h, h6⟩
theorem z_size (ok : Zok X cc own rm N nL) (har : zar X.ad) (hsz : X.1.2.2.2.2.heap.size + k1 = X.ad X.2.2.1.2.2.2) (hN : 0 < N) (hn : X.2.2.1.2.2.2 ≤ 900000) (kk : ∀ (H : Heap) (locs : List Loc) (ls : Array Slot), va_P X.2.2.1.1 zcl (zwl X.2.2.1.2.1 X.2.2.1.2.2.1 X.2.2.1.2.2.2 σ) H → H.size = X.ad X.2.2.1.2.2.2 → va_S X.2.2.2.1 X.1.2.2.2.2.heap H locs → lv_has ls X.2.2.2.2 lv →
    W X.1.1 X.1.2.1 X.1.2.2.1 X.1.2.2.2.1 X.1.2.2.2.2 X.2.1.1 X.2.1.2.1 X.2.1.2.2.1 X.2.1.2.2.2.1 X.2.1.2.2.2.2 H locs k1 k2 Q (F0 X.2.1.1 pc ls st)) : ZAt X Q k1 k2 pc σ lv st := by
  intro H locs ls hP hS hl T hT Y
  refine kk H locs ls hP ?_ hS hl T hT Y
  have h1 := Y.heapSize
  rw [hT, hsz] at h1
  have hn0 : X.2.2.1.2.2.2 - 1 < X.2.2.1.2.2.2 := by have := ok.2.2.2.2.1; omega
  have h2 := (hP _ _ (zwl_get (cs := X.2.2.1.2.1) (ad := X.2.2.1.2.2.1) (σ := σ) hn0)).lt
  have h3 := har (X.2.2.1.2.2.2 - 1) (by omega)
  have h4 := har X.2.2.1.2.2.2 (by omega)
  have h5 : X.ad (X.2.2.1.2.2.2 - 1) < H.size := h2
  omega
theorem z_aaldm {a n : Nat} {i : Int32} {k : Int32 → Option α} (ok : Zok X cc own rm N nL) (hk : zk a N (.inr (4, n, []))) (hd : decode cc pc = .ok (.aaload, 1)) (hf : zrd σ a n i k = some out) (kk : ∀ v, k v = some out → ZAt X Q k1 k2 (pc + 1) σ lv (va_rf (zrf X.ad v) :: st)) : ZAt X Q k1 k2 pc σ lv (.int i :: .ref (X.ad a) :: st) := by
  intro H locs ls hP hS h
  obtain ⟨h1, h2⟩ := zrd_some hf
  have he := zwl_get (cs := X.2.2.1.2.1) (ad := X.2.2.1.2.2.1) (σ := σ) (ok.lt hk.2)
  rw [hk.1] at he
  exact va_aldq ok.1.1 ok.1.2.1 ok.2.1 hP a 4 (n := n) (f := fun j => zrf X.ad (σ a j)) he rfl h1 hd (kk _ h2 H locs ls hP hS h)
theorem z_ifnn (ok : Zok X cc own rm N nL) {v : Int32} {off : Int} {tgt : Nat} {a b : Option α} (hd : decode cc pc = .ok (.ifnonnull off, 3)) (ht : (pc : Int) + off = (tgt : Int)) (hf : (if v = 0 then a else b) = some out) (kf : v = 0 → a = some out → ZAt X Q k1 k2 (pc + 3) σ lv st) (kt : ¬ v = 0 → b = some out → ZAt X Q k1 k2 tgt σ lv st) : ZAt X Q k1 k2 pc σ lv (va_rf (zrf X.ad v) :: st) := by
  intro H locs ls hP hS h
  by_cases hv : v = 0
  · rw [if_pos hv] at hf
    rw [show zrf X.ad v = none from if_pos hv]
    exact lv_ifnonnullN ok.1.1 ok.1.2.1 hd (kf hv hf H locs ls hP hS h)
  · rw [if_neg hv] at hf
    rw [show zrf X.ad v = some _ from if_neg hv]
    exact lv_ifnonnull ok.1.1 ok.1.2.1 hd ht (kt hv hf H locs ls hP hS h)
def zmm {α : Type} (n : Nat) (v : Int32) (k : Nat → Option α) : Option α := if v = nI (v.toNatClampNeg - 1 + 1) ∧ 198 ≤ v.toNatClampNeg - 1 ∧ (v.toNatClampNeg - 1 - 198) % 25 = 0 ∧ v.toNatClampNeg - 1 + 25 ≤ n ∧ v.toNatClampNeg - 1 < 100000 then k (v.toNatClampNeg - 1) else none
theorem z_mm {v : Int32} {n : Nat} {k : Nat → Option α} (hf : zmm n v k = some out) (kk : ∀ p, zI_Moment p n → k p = some out → ZAt X Q k1 k2 pc σ lv (.ref (X.ad p) :: st)) : ZAt X Q k1 k2 pc σ lv (va_rf (zrf X.ad v) :: st) := by
  unfold zmm at hf
  split at hf
  · rename_i h
    obtain ⟨h1, h2, h3, h4, h5⟩ := h
    have e : zrf X.ad v = some (X.ad (v.toNatClampNeg - 1)) := by
      have := zrf_of (ad := X.ad) h5
      rw [← h1] at this
      exact this
    rw [e]
    exact kk _ (zI_mom h2 h3 h4) hf
  · cases hf
theorem z_aastm {a n p : Nat} {i : Int32} {sl : List (Option (Option Nat))} {k : Sg → Option α} (ok : Zok X cc own rm N nL) (hk : zk a N (.inr (4, n, []))) (hp : zk p N (.inl (1, sl))) (hp1 : p < 100000) (hd : decode cc pc = .ok (.aastore, 1)) (hf : zwr σ a n i (nI (p + 1)) k = some out) (kk : ∀ σ', k σ' = some out → ZAt X Q k1 k2 (pc + 1) σ' lv st) : ZAt X Q k1 k2 pc σ lv (.ref (X.ad p) :: .int i :: .ref (X.ad a) :: st) := by
  intro H locs ls hP hS h
  obtain ⟨h1, h2⟩ := zwr_some hf
  have he := zwl_get (cs := X.2.2.1.2.1) (ad := X.2.2.1.2.2.1) (σ := σ) (ok.lt hk.2)
  have hep := zwl_get (cs := X.2.2.1.2.1) (ad := X.2.2.1.2.2.1) (σ := σ) (ok.lt hp.2)
  have h9 := zwl_set (cs := X.2.2.1.2.1) (ad := X.2.2.1.2.2.1) (n := X.2.2.1.2.2.2) (σ := σ) (i := a) (upd (σ a) i.toNatClampNeg (nI (p + 1)))
  rw [hk.1] at he h9
  rw [hp.1] at hep
  refine va_astq ok.1.1 ok.1.2.1 ok.2.1 hP (ok.D σ) hS a 4 p 1 (n := n) (f := fun j => zrf X.ad (σ a j)) (r := (RX1, TX1, 3)) he rfl hep zc_1 h1 hd (fun H1 locs1 hP1 _ hS1 => ?_)
  refine kk _ h2 H1 locs1 ls ?_ hS1 h
  have e : va_up (fun j => zrf X.ad (σ a j)) i.toNatClampNeg (some (X.ad p)) = fun j => zrf X.ad (upd (σ a) i.toNatClampNeg (nI (p + 1)) j) := funext fun j => by
    by_cases hj : j = i.toNatClampNeg
    · subst hj
      rw [show upd (σ a) _ _ _ = nI (p + 1) from if_pos rfl, zrf_of hp1]
      exact if_pos rfl
    · rw [show upd (σ a) _ _ j = σ a j from if_neg hj]
      exact if_neg hj
  rw [e] at hP1
  rw [show zwl X.2.2.1.2.1 X.2.2.1.2.2.1 X.2.2.1.2.2.2 (zup σ a i.toNatClampNeg (nI (p + 1))) = _ from h9.symm]
  exact hP1
end ZA
