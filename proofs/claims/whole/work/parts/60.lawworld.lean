def zmf (k : Kd) : Bool := match k with
  | .inl o => o.2.all (fun d => match d with | some none => false | _ => true)
  | .inr a => !(a.1 == 4)
theorem zce_eq {cs : Nat → ClassId} {ad ad2 : Nat → Nat} {x : Nat → Int32} (h : ∀ i, i < 1000000 → ad2 i = ad i) (hx : ∀ j, (x j).toNatClampNeg ≤ 1000000) (k : Kd) (hk : zrb 1000000 k = true) : zce cs ad2 x k = zce cs ad x k := by
  have hr : ∀ j, zrf ad2 (x j) = zrf ad (x j) := fun j => by
    unfold zrf
    split
    · rfl
    · rw [h _ (by have := hx j; omega)]
  cases k with
  | inl o =>
    obtain ⟨ci, sl⟩ := o
    show (Sum.inr (ci, sl.mapIdx (zvl ad2 x)) : va_E) = Sum.inr (ci, sl.mapIdx (zvl ad x))
    congr 2
    apply List.ext_getElem?
    intro j
    rw [List.getElem?_mapIdx, List.getElem?_mapIdx]
    cases hc : sl[j]? with
    | none => rfl
    | some d =>
      have hd := List.all_eq_true.mp hk d (List.mem_of_getElem? hc)
      cases d with
      | none => rfl
      | some d =>
        cases d with
        | none => show some (va_rf (zrf ad2 (x j))) = some (va_rf (zrf ad (x j))); rw [hr]
        | some q =>
          have hq : q < 1000000 := of_decide_eq_true hd
          show some (Value.ref (ad2 q)) = some (Value.ref (ad q))
          rw [h q hq]
  | inr a =>
    obtain ⟨t, n, els⟩ := a
    have e : (fun j => if t = 4 then zrf ad2 (x j) else (els[j]?).map ad2) = (fun j => if t = 4 then zrf ad (x j) else (els[j]?).map ad) := funext fun j => by
      rw [hr]
      cases hc : els[j]? with
      | none => rfl
      | some q =>
        have hq : q < 1000000 := of_decide_eq_true (List.all_eq_true.mp hk q (List.mem_of_getElem? hc))
        show (if t = 4 then _ else some (ad2 q)) = (if t = 4 then _ else some (ad q))
        rw [h q hq]
    show (Sum.inl (cs t, n, if t ≤ 1 then .inl x else .inr (.inr (.inr (.inr (fun j => if t = 4 then zrf ad2 (x j) else (els[j]?).map ad2))))) : va_E) = Sum.inl (cs t, n, if t ≤ 1 then .inl x else .inr (.inr (.inr (.inr (fun j => if t = 4 then zrf ad (x j) else (els[j]?).map ad)))))
    rw [e]
theorem zce_shm {cs : Nat → ClassId} {ad ad2 : Nat → Nat} {m B : Nat} {x : Nat → Int32} (h : ∀ i, i < B → ad2 i = ad (m + i)) (k : Kd) (hk : zrb B k = true) (hm : zmf k = true) : zce cs ad2 x k = zce cs ad x (zsh m k) := by
  cases k with
  | inl o =>
    obtain ⟨ci, sl⟩ := o
    show (Sum.inr (ci, sl.mapIdx (zvl ad2 x)) : va_E) = Sum.inr (ci, (sl.map _).mapIdx (zvl ad x))
    congr 2
    apply List.ext_getElem?
    intro j
    rw [List.getElem?_mapIdx, List.getElem?_mapIdx, List.getElem?_map, Option.map_map]
    cases hc : sl[j]? with
    | none => rfl
    | some d =>
      have hd := List.all_eq_true.mp hk d (List.mem_of_getElem? hc)
      have hd2 := List.all_eq_true.mp hm d (List.mem_of_getElem? hc)
      cases d with
      | none => rfl
      | some d =>
        cases d with
        | none => cases hd2
        | some q =>
          have hq : q < B := of_decide_eq_true hd
          show some (Value.ref (ad2 q)) = some (Value.ref (ad (m + q)))
          rw [h q hq]
  | inr a =>
    obtain ⟨t, n, els⟩ := a
    have h4 : ¬ t = 4 := by
      intro e
      subst e
      cases hm
    have e : (fun j => if t = 4 then zrf ad2 (x j) else (els[j]?).map ad2) = (fun j => if t = 4 then zrf ad (x j) else ((els.map (fun q => m + q))[j]?).map ad) := funext fun j => by
      rw [if_neg h4, if_neg h4, List.getElem?_map, Option.map_map]
      cases hc : els[j]? with
      | none => rfl
      | some q =>
        have hq : q < B := of_decide_eq_true (List.all_eq_true.mp hk q (List.mem_of_getElem? hc))
        show some (ad2 q) = some (ad (m + q))
        rw [h q hq]
    show (Sum.inl (cs t, n, if t ≤ 1 then .inl x else .inr (.inr (.inr (.inr (fun j => if t = 4 then zrf ad2 (x j) else (els[j]?).map ad2))))) : va_E) = Sum.inl (cs t, n, if t ≤ 1 then .inl x else .inr (.inr (.inr (.inr (fun j => if t = 4 then zrf ad (x j) else ((els.map (fun q => m + q))[j]?).map ad)))))
    rw [e]
set_option maxRecDepth 100000 in
theorem lw_kd1a : (List.range 171).map kd = ks_CK_init := rfl
set_option maxRecDepth 100000 in
theorem lw_kd1b : ks_CK_init.all (zrb 1000000) = true := by decide +kernel
set_option maxRecDepth 100000 in
theorem lw_kd2a : (List.range 27).map (fun i => kd (171 + i)) = ks_M_init.map (zsh 171) := rfl
set_option maxRecDepth 100000 in
theorem lw_kd2b : ks_M_init.all (fun k => zrb 27 k && zmf k) = true := by decide +kernel
theorem lw_kd1 : ks_CK_init.length = 171 ∧ (∀ (i : Nat) (k : Kd), ks_CK_init[i]? = some k → kd i = k) ∧ ∀ k ∈ ks_CK_init, zrb 1000000 k = true := by
  refine ⟨by rw [← lw_kd1a]; simp, fun i k h => ?_, List.all_eq_true.mp lw_kd1b⟩
  rw [← lw_kd1a, List.getElem?_map] at h
  by_cases hi : i < 171
  · rw [List.getElem?_range hi] at h
    exact Option.some.inj h
  · rw [List.getElem?_eq_none (by simp; omega)] at h
    cases h
theorem lw_kd2 : ks_M_init.length = 27 ∧ (∀ (i : Nat) (k : Kd), ks_M_init[i]? = some k → kd (171 + i) = zsh 171 k) ∧ ∀ k ∈ ks_M_init, zrb 27 k = true ∧ zmf k = true := by
  have hl : ks_M_init.length = 27 := by
    have h := congrArg List.length lw_kd2a
    simp at h
    omega
  refine ⟨hl, fun i k h => ?_, fun k hk => by have h := List.all_eq_true.mp lw_kd2b k hk; simpa using h⟩
  have hi : i < 27 := by rw [← hl]; exact (List.getElem?_eq_some_iff.mp h).1
  have h9 := congrArg (fun l => l[i]?) lw_kd2a
  simp only [List.getElem?_map, List.getElem?_range hi, h] at h9
  exact Option.some.inj h9
theorem lw_sg (i j : Nat) : (sg_CK_init i j).toNatClampNeg ≤ 1000000 := by
  have key : ∀ (σ : Sg) (a k : Nat) (v : Int32), (∀ i j, (σ i j).toNatClampNeg ≤ 1000000) → v.toNatClampNeg ≤ 1000000 → ∀ i j, (zup σ a k v i j).toNatClampNeg ≤ 1000000 := fun σ a k v h hv i j => by
    by_cases hi : i = a
    · rw [show zup σ a k v i = upd (σ a) k v from if_pos hi]
      by_cases hj : j = k
      · rw [show upd (σ a) k v j = v from if_pos hj]; exact hv
      · rw [show upd (σ a) k v j = σ a j from if_neg hj]; exact h _ _
    · rw [show zup σ a k v i = σ i from if_neg hi]; exact h _ _
  unfold sg_CK_init
  exact key _ _ _ _ (key _ _ _ _ (key _ _ _ _ (key _ _ _ _ (fun _ _ => by show (0 : Int32).toNatClampNeg ≤ 1000000; decide) (by decide)) (by decide)) (by decide)) (by decide) i j
/-- the world behind both constructors -/
def lw_s0 : Sg := fun i => if i < 171 then sg_CK_init i else sg_M_init (i - 171)
theorem lw_world {D : va_G} {cs : Nat → ClassId} {ad : Nat → Nat} {h0 : Nat} {H : Heap} (had : ∀ i, i < 1000000 → ad i = h0 + i) (h1 : ∀ (j : Nat) (k : Kd), ks_CK_init[j]? = some k → va_at D zcl (h0 + j, zce cs (fun i => h0 + i) (sg_CK_init j) k) H) (h2 : ∀ (j : Nat) (k : Kd), ks_M_init[j]? = some k → va_at D zcl (h0 + 171 + j, zce cs (fun i => h0 + 171 + i) (sg_M_init j) k) H) : va_P D zcl (zwl cs ad 198 lw_s0) H := by
  intro k q hk
  by_cases hk8 : k < 198
  · rw [zwl_get hk8] at hk
    cases hk
    by_cases hk1 : k < 171
    · have hl : k < ks_CK_init.length := by rw [lw_kd1.1]; exact hk1
      have h9 := h1 k _ (List.getElem?_eq_getElem hl)
      have hkd := lw_kd1.2.1 k _ (List.getElem?_eq_getElem hl)
      rw [show lw_s0 k = sg_CK_init k from if_pos hk1, had k (by omega), hkd]
      rw [zce_eq (ad := ad) (fun i hi => (had i hi).symm) (lw_sg k) _ (lw_kd1.2.2 _ (List.getElem_mem hl))] at h9
      exact h9
    · obtain ⟨j, rfl⟩ : ∃ j, k = 171 + j := ⟨k - 171, by omega⟩
      have hl : j < ks_M_init.length := by rw [lw_kd2.1]; omega
      have h9 := h2 j _ (List.getElem?_eq_getElem hl)
      have hkd := lw_kd2.2.1 j _ (List.getElem?_eq_getElem hl)
      have hz := lw_kd2.2.2 _ (List.getElem_mem hl)
      rw [show lw_s0 (171 + j) = sg_M_init j from by unfold lw_s0; rw [if_neg (by omega), show 171 + j - 171 = j by omega], had _ (by omega), hkd]
      rw [zce_shm (ad := ad) (m := 171) (B := 27) (fun i hi => by rw [had _ (by omega)]; omega) _ hz.1 hz.2] at h9
      rw [show h0 + (171 + j) = h0 + 171 + j by omega]
      exact h9
  · rw [List.getElem?_eq_none (by simp [zwl]; omega)] at hk
    cases hk
