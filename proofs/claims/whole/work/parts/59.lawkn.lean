theorem lw_zT {s : State} {b : Nat} (hts : ∀ w ∈ lw_tbl, w.before #[Value.ref b] s = true) : ∀ w ∈ zT, w.before #[Value.ref b] s = true := fun w hw => hts w (List.mem_filter.mp hw).1
theorem lw_kn {s : State} {b : Nat} (hts : ∀ w ∈ zT, w.before #[Value.ref b] s = true) : ∀ (k : Nat) (q : vw_C), zcl[k]? = some q → ∃ d : ClassId × (Nat → Nat), u_Kn s q.1 q.2.1 q.2.2 d.1 d.2 := by
  intro k q hq
  match k, hq with
  | 0, hq =>
    cases hq
    obtain ⟨a1, a2, a3⟩ := u_known (n := 3) hts hin_0 (hts _ zn_0.1)
    exact ⟨(a1, a2), a3⟩
  | 1, hq =>
    cases hq
    obtain ⟨a1, a2, a3⟩ := u_known (n := 3) hts hin_1 (hts _ zn_1.1)
    exact ⟨(a1, a2), a3⟩
  | 2, hq =>
    cases hq
    obtain ⟨a1, a2, a3⟩ := u_known (n := 7) hts hin_2 (hts _ zn_2.1)
    exact ⟨(a1, a2), a3⟩
  | 3, hq =>
    cases hq
    obtain ⟨a1, a2, a3⟩ := u_known (n := 4) hts hin_3 (hts _ zn_3.1)
    exact ⟨(a1, a2), a3⟩
  | 4, hq =>
    cases hq
    obtain ⟨a1, a2, a3⟩ := u_known (n := 8) hts hin_4 (hts _ zn_4.1)
    exact ⟨(a1, a2), a3⟩
  | 5, hq =>
    cases hq
    obtain ⟨a1, a2, a3⟩ := u_known (n := 8) hts hin_5 (hts _ zn_5.1)
    exact ⟨(a1, a2), a3⟩
  | 6, hq =>
    cases hq
    obtain ⟨a1, a2, a3⟩ := u_known (n := 5) hts hin_6 (hts _ zn_6.1)
    exact ⟨(a1, a2), a3⟩
  | 7, hq =>
    cases hq
    obtain ⟨a1, a2, a3⟩ := u_known (n := 7) hts hin_7 (hts _ zn_7.1)
    exact ⟨(a1, a2), a3⟩
  | 8, hq =>
    cases hq
    obtain ⟨a1, a2, a3⟩ := u_known (n := 4) hts hin_8 (hts _ zn_8.1)
    exact ⟨(a1, a2), a3⟩
  | 9, hq =>
    cases hq
    obtain ⟨a1, a2, a3⟩ := u_known (n := 12) hts hin_9 (hts _ zn_9.1)
    exact ⟨(a1, a2), a3⟩
  | 10, hq =>
    cases hq
    obtain ⟨a1, a2, a3⟩ := u_known (n := 13) hts hin_10 (hts _ zn_10.1)
    exact ⟨(a1, a2), a3⟩
  | 11, hq =>
    cases hq
    obtain ⟨a1, a2, a3⟩ := u_known (n := 16) hts hin_11 (hts _ zn_11.1)
    exact ⟨(a1, a2), a3⟩
  | 12, hq =>
    cases hq
    obtain ⟨a1, a2, a3⟩ := u_known (n := 49) hts hin_12 (hts _ zn_12.1)
    exact ⟨(a1, a2), a3⟩
  | k + 13, hq => simp [zcl] at hq
theorem lw_ty {s : State} {b : Nat} (hts : ∀ w ∈ tables_1, w.before #[Value.ref b] s = true) : ∃ cs : Nat → ClassId, ∀ (k : Nat) (q : ClassId × FieldType), (zty cs)[k]? = some q → ArrOfT s q.1 q.2 ∧ va_RA s q.1 q.2 := by
  have w7 := fun w hw => hts w (lw_m7 w hw)
  obtain ⟨c0, k0, p0, f0, g0, h0⟩ := Cond.arrayClass_spec (w7 (.arrayClass .int) (by simp))
  obtain ⟨c1, k1, p1, f1, g1, h1⟩ := Cond.arrayClass_spec (w7 (.arrayClass .byte) (by simp))
  obtain ⟨p2, c2, k2, e2, g2, h2, f2⟩ := Cond.arrayOver_specA (w7 (.arrayOver (.array .int)) (by simp))
  obtain ⟨p3, c3, k3, e3, g3, h3, f3⟩ := Cond.arrayOver_specA (w7 (.arrayOver (.array .byte)) (by simp))
  obtain ⟨p4, c4, k4, e4, i4, g4, h4, f4⟩ := Cond.arrayOver_spec (w7 (.arrayOver (.object "CanalKeeper$Moment")) (by simp))
  refine ⟨fun i => if i = 0 then c0 else if i = 1 then c1 else if i = 2 then c2 else if i = 3 then c3 else c4, fun k q hq => ?_⟩
  match k, hq with
  | 0, hq => cases hq; exact ⟨fun n z => ⟨fun k h => (by cases h), k0, g0, p0, h0⟩, f0⟩
  | 1, hq => cases hq; exact ⟨fun n z => ⟨fun k h => (by cases h), k1, g1, p1, h1⟩, f1⟩
  | 2, hq => cases hq; exact ⟨fun n z => ⟨fun k h => (by cases h), k2, g2, p2, h2⟩, f2⟩
  | 3, hq => cases hq; exact ⟨fun n z => ⟨fun k h => (by cases h), k3, g3, p3, h3⟩, f3⟩
  | 4, hq => cases hq; exact ⟨fun n z => ⟨fun k h => (by cases h), k4, g4, p4, h4⟩, k4, p4, g4, h4, e4, f4⟩
  | k + 5, hq => simp [zty] at hq
theorem lw_K0 {s : State} {b : Nat} (hts : ∀ w ∈ lw_tbl, w.before #[Value.ref b] s = true) (htb : ∀ w ∈ tables_1, w.before #[Value.ref b] s = true) : ∃ (D : va_G) (cs : Nat → ClassId), va_K D zcl (zty cs) s ∧ zAO s := by
  obtain ⟨cs, hcs⟩ := lw_ty htb
  have hk := lw_kn (lw_zT hts)
  have hd : ∀ k : Nat, ∃ d : ClassId × (Nat → Nat), ∀ q, zcl[k]? = some q → u_Kn s q.1 q.2.1 q.2.2 d.1 d.2 := fun k => by
    cases hz : zcl[k]? with
    | none => exact ⟨(0, fun _ => 0), fun q h => by cases h⟩
    | some q =>
      obtain ⟨d, h⟩ := hk k q hz
      exact ⟨d, fun q' h' => by cases h'; exact h⟩
  obtain ⟨dd, hdd⟩ := Classical.axiomOfChoice hd
  have w7 := fun w hw => htb w (lw_m7 w hw)
  exact ⟨(fun k => (dd k).1, fun k => (dd k).2), cs, ⟨fun c q hq => hdd c q hq, hcs⟩, w7 (.arrayOver (.array .int)) (by simp), w7 (.arrayOver (.array .byte)) (by simp), w7 (.arrayOver (.object "CanalKeeper$Moment")) (by simp)⟩
