/-! reading: what has been read, both sides -/
def PoolR (τ ν : Sg) (q p : Nat) : Prop := ∃ t : Nat → Nat, (∀ j, j < 9 → ν 177 (9 * p + j) = nI (t j)) ∧ (t 3 ≤ 9 ∧ 1 ≤ t 5 ∧ t 0 ≤ t 1 ∧ t 1 ≤ t 2 ∧ t 2 ≤ 9999 ∧ t 4 ≤ 999 ∧ t 5 ≤ 999 ∧ t 7 ≤ 99 ∧ t 8 ≤ t 4 ∧ t 6 ≤ 9999) ∧
  (τ (q + 3) p = nI (t 6) ∧ τ (q + 4) p = nI (t 0) ∧ τ (q + 5) p = nI (t 1) ∧ τ (q + 6) p = nI (t 2) ∧ τ (q + 7) p = nI (t 3)) ∧ τ (q + 8) p = nI (t 7) ∧ τ (q + 9) p = nI (t 4) ∧ τ (q + 10) p = nI (t 5) ∧ τ (q + 11) p = nI (t 8) ∧ τ (q + 12) p = (nI (t 0) + nI (t 1)) / 2
def OutR (τ ν : Sg) (q P o : Nat) : Prop := ∃ l k : Nat, l < P ∧ 1 ≤ k ∧ k ≤ 99 ∧ ν 178 (2 * o) = nI l ∧ ν 178 (2 * o + 1) = nI k ∧ τ (q + 14) o = nI l ∧ τ (q + 15) o = nI k
def OrdR (τ ν : Sg) (q O k : Nat) : Prop := ∃ o f m : Nat, o < O ∧ f ≤ 999 ∧ 1 ≤ m ∧ m ≤ 99 ∧ ν 180 (3 * k) = nI o ∧ ν 180 (3 * k + 1) = nI f ∧ ν 180 (3 * k + 2) = nI m ∧ τ (q + 17) k = nI o ∧ τ (q + 18) k = nI f ∧ τ (q + 19) k = nI m
def TrnR (τ ν : Sg) (q t : Nat) : Prop := ∃ e s : Nat, 1 ≤ e ∧ e ≤ 30 ∧ 1 ≤ s ∧ s ≤ 6 ∧ ν 179 (8 * t) = nI e ∧ ν 179 (8 * t + 1) = nI s ∧ τ (q + 21) t = nI e ∧ τ (q + 22) t = nI s ∧ ∀ i, i < s → τ (q + 24 + t) i = ν 179 (8 * t + 2 + i)
def DR (τ ν : Sg) (q P O T C : Nat) : Prop := ((τ q 3 = nI P ∧ ν 171 8 = nI P ∧ P ≤ 8) ∧ (τ q 7 = nI O ∧ ν 171 9 = nI O ∧ O ≤ 10) ∧ (τ (q + 20) 0 = nI T ∧ ν 171 10 = nI T ∧ T ≤ 2) ∧ (τ (q + 16) 0 = nI C ∧ ν 171 11 = nI C ∧ C ≤ 16)) ∧
  ((∃ v, v ≤ 999 ∧ τ q 1 = nI v ∧ ν 171 12 = nI v) ∧ ∃ v, 1 ≤ v ∧ v ≤ 99 ∧ τ q 2 = nI v ∧ ν 171 13 = nI v) ∧
  (∀ p, p < P → PoolR τ ν q p) ∧ (∀ o, o < O → OutR τ ν q P o) ∧ (∀ k, k < C → OrdR τ ν q O k) ∧ (∀ t, t < T → TrnR τ ν q t) ∧ Name2 τ ν 181 (q + 1) P ∧ Name2 τ ν 182 (q + 13) O
/-- what the data sees -/
def DK (τ ν τ' ν' : Sg) (q P O T C : Nat) : Prop := (τ' q 1 = τ q 1 ∧ τ' q 2 = τ q 2 ∧ τ' q 3 = τ q 3 ∧ τ' q 7 = τ q 7 ∧ τ' (q + 16) 0 = τ (q + 16) 0 ∧ τ' (q + 20) 0 = τ (q + 20) 0) ∧
  (∀ p, p < P → τ' (q + 1) p = τ (q + 1) p ∧ ∀ j, j < 10 → τ' (q + 3 + j) p = τ (q + 3 + j) p) ∧ (∀ o, o < O → τ' (q + 13) o = τ (q + 13) o ∧ τ' (q + 14) o = τ (q + 14) o ∧ τ' (q + 15) o = τ (q + 15) o) ∧
  (∀ k, k < C → τ' (q + 17) k = τ (q + 17) k ∧ τ' (q + 18) k = τ (q + 18) k ∧ τ' (q + 19) k = τ (q + 19) k) ∧ (∀ t, t < T → τ' (q + 21) t = τ (q + 21) t ∧ τ' (q + 22) t = τ (q + 22) t ∧ ∀ i, i < 6 → τ' (q + 24 + t) i = τ (q + 24 + t) i) ∧
  (∀ k, 8 ≤ k → k ≤ 13 → ν' 171 k = ν 171 k) ∧ (∀ i, i < 9 * P → ν' 177 i = ν 177 i) ∧ (∀ i, i < 2 * O → ν' 178 i = ν 178 i) ∧ (∀ i, i < 8 * T → ν' 179 i = ν 179 i) ∧ (∀ i, i < 3 * C → ν' 180 i = ν 180 i) ∧ (∀ i, i < 6 * P → ν' 181 i = ν 181 i) ∧ ∀ i, i < 6 * O → ν' 182 i = ν 182 i
theorem DR.keep {τ ν τ' ν' : Sg} {q P O T C : Nat} (h : DR τ ν q P O T C) (k : DK τ ν τ' ν' q P O T C) : DR τ' ν' q P O T C := by
  obtain ⟨⟨h1, h2, h3, h4⟩, ⟨h5, h6⟩, h7, h8, h9, h10, h11, h12⟩ := h
  obtain ⟨⟨c1, c2, c3, c7, c16, c20⟩, k1, k2, k3, k4, k5, k6, k7, k8, k9, k10, k11⟩ := k
  refine ⟨⟨?_, ?_, ?_, ?_⟩, ⟨?_, ?_⟩, fun p hp => ?_, fun o ho => ?_, fun i hi => ?_, fun t ht => ?_, h11.rows (fun p hp => (k1 p hp).1) k10, h12.rows (fun o ho => (k2 o ho).1) k11⟩
  · rw [c3, k5 8 (by omega) (by omega)]; exact h1
  · rw [c7, k5 9 (by omega) (by omega)]; exact h2
  · rw [c20, k5 10 (by omega) (by omega)]; exact h3
  · rw [c16, k5 11 (by omega) (by omega)]; exact h4
  · rw [c1, k5 12 (by omega) (by omega)]; exact h5
  · rw [c2, k5 13 (by omega) (by omega)]; exact h6
  · obtain ⟨t, t1, t2, ⟨t3, t4, t5, t6, t7⟩, t8, t9, t10, t11, t12⟩ := h7 p hp
    have r := (k1 p hp).2
    have r0 : τ' (q + 3) p = τ (q + 3) p := r 0 (by omega)
    have r1 : τ' (q + 4) p = τ (q + 4) p := r 1 (by omega)
    have r2 : τ' (q + 5) p = τ (q + 5) p := r 2 (by omega)
    have r3 : τ' (q + 6) p = τ (q + 6) p := r 3 (by omega)
    have r4 : τ' (q + 7) p = τ (q + 7) p := r 4 (by omega)
    have r5 : τ' (q + 8) p = τ (q + 8) p := r 5 (by omega)
    have r6 : τ' (q + 9) p = τ (q + 9) p := r 6 (by omega)
    have r7 : τ' (q + 10) p = τ (q + 10) p := r 7 (by omega)
    have r8 : τ' (q + 11) p = τ (q + 11) p := r 8 (by omega)
    have r9 : τ' (q + 12) p = τ (q + 12) p := r 9 (by omega)
    exact ⟨t, fun j hj => by rw [k6 _ (by omega)]; exact t1 j hj, t2, ⟨r0.trans t3, r1.trans t4, r2.trans t5, r3.trans t6, r4.trans t7⟩, r5.trans t8, r6.trans t9, r7.trans t10, r8.trans t11, r9.trans t12⟩
  · obtain ⟨l, m, t1, t2, t3, t4, t5, t6, t7⟩ := h8 o ho
    obtain ⟨_, r1, r2⟩ := k2 o ho
    exact ⟨l, m, t1, t2, t3, by rw [k7 _ (by omega)]; exact t4, by rw [k7 _ (by omega)]; exact t5, r1.trans t6, r2.trans t7⟩
  · obtain ⟨o, f, m, t1, t2, t3, t4, t5, t6, t7, t8, t9, t10⟩ := h9 i hi
    obtain ⟨r1, r2, r3⟩ := k3 i hi
    exact ⟨o, f, m, t1, t2, t3, t4, by rw [k9 _ (by omega)]; exact t5, by rw [k9 _ (by omega)]; exact t6, by rw [k9 _ (by omega)]; exact t7, r1.trans t8, r2.trans t9, r3.trans t10⟩
  · obtain ⟨e, s, t1, t2, t3, t4, t5, t6, t7, t8, t9⟩ := h10 t ht
    obtain ⟨r1, r2, r3⟩ := k4 t ht
    exact ⟨e, s, t1, t2, t3, t4, by rw [k8 _ (by omega)]; exact t5, by rw [k8 _ (by omega)]; exact t6, r1.trans t7, r2.trans t8, fun i hi => by rw [r3 i (by omega), k8 _ (by omega)]; exact t9 i hi⟩
theorem DK.of {τ ν τ' ν' : Sg} {q P O T C : Nat} (hq : q = 3 ∨ q = 29) (h1 : ∀ a, a ≠ 2 → τ' a = τ a) (h2 : ∀ a, a ≠ 171 → ν' a = ν a) (h3 : ∀ k, k < 33 ∨ 36 < k → ν' 171 k = ν 171 k) : DK τ ν τ' ν' q P O T C := by
  refine ⟨⟨?_, ?_, ?_, ?_, ?_, ?_⟩, fun p _ => ⟨?_, fun j _ => ?_⟩, fun o _ => ⟨?_, ?_, ?_⟩, fun k _ => ⟨?_, ?_, ?_⟩, fun t _ => ⟨?_, ?_, fun i _ => ?_⟩, fun k x y => h3 k (by omega), fun i _ => by rw [h2 _ (by omega)], fun i _ => by rw [h2 _ (by omega)], fun i _ => by rw [h2 _ (by omega)], fun i _ => by rw [h2 _ (by omega)], fun i _ => by rw [h2 _ (by omega)], fun i _ => by rw [h2 _ (by omega)]⟩
  all_goals rw [h1 _ (by omega)]
theorem DR.cf {τ ν τ' ν' : Sg} {q P O T C : Nat} (h : DR τ ν q P O T C) (hq : q = 3 ∨ q = 29) (h1 : CF τ τ') (h2 : MF ν ν') : DR τ' ν' q P O T C := h.keep (DK.of hq h1.1 h2.1 h2.2)
/-! a pool -/
def ofs (i : Nat) : Nat := [6, 0, 1, 2, 3, 7, 4, 5, 8].getD i 0
theorem ofs_d0 : ∀ i j : Fin 9, ofs i.val = ofs j.val → i = j := by decide
theorem ofs_l0 : ∀ i : Fin 9, ofs i.val < 9 := by decide
theorem ofs_d {i j : Nat} (hi : i < 9) (hj : j < 9) (h : i ≠ j) : ofs i ≠ ofs j := fun e => h (congrArg Fin.val (ofs_d0 ⟨i, hi⟩ ⟨j, hj⟩ e))
theorem ofs_l {i : Nat} (hi : i < 9) : ofs i < 9 := ofs_l0 ⟨i, hi⟩
def tI (ν : Sg) (P i : Nat) : Nat := (ν 177 (9 * P + ofs i)).toNatClampNeg
def loT (ν : Sg) (P i : Nat) : Nat := if i = 2 then tI ν P 1 else if i = 3 then tI ν P 2 else if i = 7 then 1 else 0
def hiT (ν : Sg) (P i : Nat) : Nat := if i = 8 then tI ν P 6 else [9999, 9999, 9999, 9999, 9, 99, 999, 999].getD i 0
def PSt (q P j : Nat) (τ0 ν0 τ ν : Sg) : Prop :=
  (∀ b, b ≠ 2 → b < q + 3 ∨ q + 12 ≤ b → τ b = τ0 b) ∧ (∀ b, q + 3 ≤ b → b < q + 12 → ∀ p, p ≠ P → τ b p = τ0 b p) ∧ (∀ k, k = 0 ∨ k = 1 ∨ k = 5 → τ 2 k = τ0 2 k) ∧ (∀ b, b ≠ 171 → b ≠ 177 → ν b = ν0 b) ∧ (∀ k, k < 33 ∨ 36 < k → ν 171 k = ν0 171 k) ∧ (∀ i, i < 9 * P → ν 177 i = ν0 177 i) ∧
  ∀ i, i < j → τ (q + 3 + i) P = nI (tI ν P i) ∧ ν 177 (9 * P + ofs i) = nI (tI ν P i) ∧ loT ν P i ≤ tI ν P i ∧ tI ν P i ≤ hiT ν P i
/-- the reference's items of a pool, n of them left -/
def rcL (σ : Sg) (v : Int32) (j : Nat) (k : Int32 → Option Sg) : Option Sg := if j = 2 then zrd σ 177 72 (v + 0) k else if j = 3 then zrd σ 177 72 (v + 1) k else if j = 7 then k 1 else k 0
def rcH (σ : Sg) (v : Int32) (j : Nat) (k : Int32 → Option Sg) : Option Sg := if j = 8 then zrd σ 177 72 (v + 4) k else k (([9999, 9999, 9999, 9999, 9, 99, 999, 999] : List Int32).getD j 0)
def rcO (j : Nat) : Int32 := ([6, 0, 1, 2, 3, 7, 4, 5, 8] : List Int32).getD j 0
def rcW (j : Nat) : Int32 := ([4, 5, 6, 7, 8, 9, 10, 11, 12] : List Int32).getD j 0
def rc9 (σ : Sg) : Option Sg := zgt σ 171 8 fun v228 => zpt σ 171 8 (v228 + 1) fun σ233 => some σ233
def rcF (v : Int32) : Nat → Sg → Option Sg
  | 0, σ => rc9 σ
  | n + 1, σ => rcL σ v (8 - n) fun lo => rcH σ v (8 - n) fun hi => (M_after σ (rcW (8 - n)) lo hi).bind fun r => zwr r.2 177 72 (v + rcO (8 - n)) r.1 fun σ' => rcF v n σ'
theorem rcF_s (v : Int32) (n : Nat) (σ : Sg) : rcF v (n + 1) σ = rcL σ v (8 - n) fun lo => rcH σ v (8 - n) fun hi => (M_after σ (rcW (8 - n)) lo hi).bind fun r => zwr r.2 177 72 (v + rcO (8 - n)) r.1 fun σ' => rcF v n σ' := rfl
theorem readsPool_e (σ : Sg) : M_readsPool_j18 σ = (M_goesWell σ).bind fun r19 => if (zb r19) = 0 then some σ else zgt σ 171 8 fun v32 => (M_freshName σ 181 48 v32).bind fun r35 => zgt r35 171 8 fun v41 => zlt (9 * v41) fun v45 => rcF v45 9 r35 := rfl
theorem rcO_e0 : ∀ j : Fin 9, rcO j.val = nI (ofs j.val) := by decide
theorem rcW_e0 : ∀ j : Fin 9, rcW j.val = nI (4 + j.val) := by decide
theorem rcO_e {j : Nat} (h : j < 9) : rcO j = nI (ofs j) := rcO_e0 ⟨j, h⟩
theorem rcW_e {j : Nat} (h : j < 9) : rcW j = nI (4 + j) := rcW_e0 ⟨j, h⟩
theorem rcL_e {σ : Sg} {P j : Nat} (hP : P < 8) (h : ∀ i, i < j → σ 177 (9 * P + ofs i) = nI (tI σ P i)) (k : Int32 → Option Sg) : rcL σ (nI (9 * P)) j k = k (nI (loT σ P j)) := by
  unfold rcL loT
  by_cases e2 : j = 2
  · have := h 1 (by omega)
    have this' : σ 177 (9 * P + 0) = nI (tI σ P 1) := this
    rw [if_pos e2, if_pos e2, show (0 : Int32) = nI 0 from rfl, nI_add, zrd_e (by omega) (by omega), this']
  · rw [if_neg e2, if_neg e2]
    by_cases e3 : j = 3
    · have := h 2 (by omega)
      have this' : σ 177 (9 * P + 1) = nI (tI σ P 2) := this
      rw [if_pos e3, if_pos e3, show (1 : Int32) = nI 1 from rfl, nI_add, zrd_e (by omega) (by omega), this']
    · rw [if_neg e3, if_neg e3]
      by_cases e7 : j = 7
      · rw [if_pos e7, if_pos e7]; rfl
      · rw [if_neg e7, if_neg e7]; rfl
theorem hi_l0 : ∀ j : Fin 8, ([9999, 9999, 9999, 9999, 9, 99, 999, 999] : List Int32).getD j.val 0 = nI ([9999, 9999, 9999, 9999, 9, 99, 999, 999].getD j.val 0) ∧ [9999, 9999, 9999, 9999, 9, 99, 999, 999].getD j.val 0 ≤ 9999 := by decide
theorem rcH_e {σ : Sg} {P j : Nat} (hP : P < 8) (hj : j < 9) (h : ∀ i, i < j → σ 177 (9 * P + ofs i) = nI (tI σ P i)) (k : Int32 → Option Sg) : rcH σ (nI (9 * P)) j k = k (nI (hiT σ P j)) := by
  unfold rcH hiT
  by_cases e8 : j = 8
  · have := h 6 (by omega)
    have this' : σ 177 (9 * P + 4) = nI (tI σ P 6) := this
    rw [if_pos e8, if_pos e8, show (4 : Int32) = nI 4 from rfl, nI_add, zrd_e (by omega) (by omega), this']
  · rw [if_neg e8, if_neg e8, (hi_l0 ⟨j, by omega⟩).1]
