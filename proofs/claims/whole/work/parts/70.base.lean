/-! LAYER 2, base: running the pure functions -/
theorem zlit (n : Nat) : (OfNat.ofNat n : Int32) = nI (OfNat.ofNat n) := by cases n <;> rfl
theorem obs {α β : Type} (a : α) (k : α → Option β) : (some a).bind k = k a := (rfl)
theorem sel_l {α β γ : Type} (f : α → γ) (g : β → γ) (a : α) : Sum.elim f g (.inl a) = f a := (rfl)
theorem sel_r {α β γ : Type} (f : α → γ) (g : β → γ) (a : β) : Sum.elim f g (.inr a) = g a := (rfl)
theorem zgt_e {α : Type} (σ : Sg) (a s : Nat) (k : Int32 → Option α) : zgt σ a s k = k (σ a s) := (rfl)
theorem zpt_e {α : Type} (σ : Sg) (a s : Nat) (v : Int32) (k : Sg → Option α) : zpt σ a s v k = k (zup σ a s v) := (rfl)
theorem zlt_e {α : Type} (v : Int32) (k : Int32 → Option α) : zlt v k = k v := (rfl)
theorem zrd_e {α : Type} {σ : Sg} {a n j : Nat} {k : Int32 → Option α} (h : j < n) (hn : n < 2147483648) : zrd σ a n (nI j) k = k (σ a j) := by
  unfold zrd
  rw [if_neg (nI_in h hn), nI_clamp (by omega)]
theorem zwr_e {α : Type} {σ : Sg} {a n j : Nat} {v : Int32} {k : Sg → Option α} (h : j < n) (hn : n < 2147483648) : zwr σ a n (nI j) v k = k (zup σ a j v) := by
  unfold zwr
  rw [if_neg (nI_in h hn), nI_clamp (by omega)]
theorem zelr_e {α : Type} {p n j : Nat} {k : Nat → Option α} (h : j < n) (hn : n < 2147483648) : zelr p n (nI j) k = k (p + j) := by
  unfold zelr
  rw [if_neg (nI_in h hn), nI_clamp (by omega)]
theorem znz_e {α : Type} {j : Nat} {k : Option α} (h : 0 < j) (hj : j < 2147483648) : znz (nI j) k = k := if_neg (nI_ne0 h hj)
theorem zcp_e {α : Type} (σ : Sg) (a b n : Nat) (k : Sg → Option α) : zcp σ a b n k = k (zrow σ b (va_cpy (σ a) (σ b) 0 0 n)) := (rfl)
theorem nI_mul (a b : Nat) : nI a * nI b = nI (a * b) := pk_mul a b
theorem nI_sub {a b : Nat} (h : b ≤ a) : nI a - nI b = nI (a - b) := pk_sub h
theorem nI_div {a d : Nat} (h0 : 0 < d) (ha : a < 2147483648) (hd : d < 2147483648) : nI a / nI d = nI (a / d) := pk_div ha h0 hd
def irem (x y : Int32) : Int32 := x - x / y * y
theorem irem_f (x y : Int32) : x - x / y * y = irem x y := (rfl)
theorem irem_e {a d : Nat} (h0 : 0 < d) (ha : a < 2147483648) (hd : d < 2147483648) : irem (nI a) (nI d) = nI (a % d) := pk_rem ha h0 hd
theorem nI_let {a b : Nat} (h : a ≤ b) (hb : b < 2147483648) : (nI a ≤ nI b) = True := eq_true (nI_le h hb)
theorem nI_lef {a b : Nat} (h : b < a) (hb : a < 2147483648) : (nI a ≤ nI b) = False := eq_false (nI_ge h hb)
theorem nI_ltt {a b : Nat} (h : a < b) (hb : b < 2147483648) : (nI a < nI b) = True := eq_true (nI_lt h hb)
theorem nI_ltf {a b : Nat} (h : b ≤ a) (hb : a < 2147483648) : (nI a < nI b) = False := eq_false (nI_nlt h hb)
theorem nI_eqt {a b : Nat} (h : a = b) : (nI a = nI b) = True := eq_true (congrArg nI h)
theorem nI_eqf {a b : Nat} (h : a ≠ b) (ha : a < 2147483648) (hb : b < 2147483648) : (nI a = nI b) = False := eq_false (fun e => h ((nI_eq ha hb).mp e))
theorem nI_m1 {a : Nat} (h : 0 < a) : nI a + (-nI 1) = nI (a - 1) := by
  obtain ⟨b, rfl⟩ : ∃ b, a = b + 1 := ⟨a - 1, by omega⟩
  exact pk_m1 b
theorem zb_t : zb true = nI 1 := by decide
theorem zb_f : zb false = nI 0 := by decide
theorem zbo_1 {α : Type} (k : Option α) : zbo (nI 1) k = k := if_pos (Or.inr rfl)
theorem zbo_0 {α : Type} (k : Option α) : zbo (nI 0) k = k := if_pos (Or.inl rfl)
theorem zup_ne {σ : Sg} {a b k : Nat} {v : Int32} (h : b ≠ a) : zup σ a k v b = σ b := if_neg h
theorem zup_hit {σ : Sg} {a k : Nat} {v : Int32} : zup σ a k v a k = v := by
  show (if a = a then upd (σ a) k v else σ a) k = v
  rw [if_pos rfl]; exact if_pos rfl
theorem zup_miss {σ : Sg} {a k j : Nat} {v : Int32} (h : j ≠ k) : zup σ a k v a j = σ a j := by
  show (if a = a then upd (σ a) k v else σ a) j = σ a j
  rw [if_pos rfl]; exact if_neg h
theorem zup_at {σ : Sg} {a k b j : Nat} {v : Int32} : zup σ a k v b j = if b = a ∧ j = k then v else σ b j := by
  by_cases h : b = a
  · subst h
    by_cases h2 : j = k
    · subst h2; rw [zup_hit, if_pos ⟨rfl, rfl⟩]
    · rw [zup_miss h2, if_neg (fun q => h2 q.2)]
  · rw [zup_ne h, if_neg (fun q => h q.1)]
theorem zrow_ne {σ : Sg} {a b : Nat} {f : Nat → Int32} (h : b ≠ a) : zrow σ a f b = σ b := if_neg h
theorem zrow_hit {σ : Sg} {a : Nat} {f : Nat → Int32} : zrow σ a f a = f := if_pos rfl
theorem cpy0_in {f g : Nat → Int32} {n j : Nat} (h : j < n) : va_cpy f g 0 0 n j = f j := by
  rw [pk_cpy_in (Nat.zero_le _) (by omega)]; simp
theorem cpy0_out {f g : Nat → Int32} {n j : Nat} (h : n ≤ j) : va_cpy f g 0 0 n j = g j := pk_cpy_out (by omega)
/-- what a run must come to -/
def Ok {α : Type} (x : Option α) (P : α → Prop) : Prop := ∃ a, x = some a ∧ P a
theorem Ok.some {α : Type} {a : α} {P : α → Prop} (h : P a) : Ok (some a) P := ⟨a, rfl, h⟩
theorem Ok.bind {α β : Type} {x : Option α} {k : α → Option β} {P : α → Prop} {Q : β → Prop} (h : Ok x P) (hk : ∀ a, P a → Ok (k a) Q) : Ok (x.bind k) Q := by
  obtain ⟨a, rfl, ha⟩ := h
  exact hk a ha
theorem Ok.mono {α : Type} {x : Option α} {P Q : α → Prop} (h : Ok x P) (hk : ∀ a, P a → Q a) : Ok x Q := by
  obtain ⟨a, e, ha⟩ := h
  exact ⟨a, e, hk a ha⟩
/-- loops: an invariant I j with j up to n -/
theorem zit_ok {S R : Type} {b : S → Option (S ⊕ R)} {Q : R → Prop} (I : Nat → S → Prop) (n : Nat)
    (hs : ∀ j s, j < n → I j s → Ok (b s) (fun o => zout (I (j + 1)) Q o)) (he : ∀ s, I n s → Ok (b s) (fun o => zout (fun _ => False) Q o)) :
    ∀ (f j : Nat) (s : S), n < f + j → j ≤ n → I j s → Ok (zit b f s) Q
  | 0, j, s, h1, h2, h3 => absurd h1 (by omega)
  | f + 1, j, s, h1, h2, h3 => by
    unfold zit
    rcases Nat.lt_or_ge j n with h | h
    · obtain ⟨o, e, ho⟩ := hs j s h h3
      rw [e]
      cases o with
      | inl s' => exact zit_ok I n hs he f (j + 1) s' (by omega) (by omega) ho
      | inr r => exact ⟨r, rfl, ho⟩
    · have : j = n := by omega
      subst this
      obtain ⟨o, e, ho⟩ := he s h3
      rw [e]
      cases o with
      | inl s' => exact ho.elim
      | inr r => exact ⟨r, rfl, ho⟩
/-- loops that are known step by step -/
theorem zit_eq {S R : Type} {b : S → Option (S ⊕ R)} (st : Nat → S) (r : R) (n j0 : Nat) (h0 : j0 ≤ n)
    (hs : ∀ j, j0 ≤ j → j < n → b (st j) = some (.inl (st (j + 1)))) (he : b (st n) = some (.inr r)) :
    ∀ (f j : Nat), n < f + j → j0 ≤ j → j ≤ n → zit b f (st j) = some r
  | 0, j, h1, h2, h3 => absurd h1 (by omega)
  | f + 1, j, h1, h2, h3 => by
    unfold zit
    rcases Nat.lt_or_ge j n with h | h
    · rw [hs j h2 h]
      exact zit_eq st r n j0 h0 hs he f (j + 1) (by omega) (by omega) (by omega)
    · have : j = n := by omega
      subst this
      rw [he]
      rfl
theorem zFU_e : zFU = 40000 := rfl
/-- a fold over pools, outlets .. -/
def itS (f : Nat → Sg → Sg) : Nat → Sg → Sg
  | 0, σ => σ
  | j + 1, σ => f j (itS f j σ)
/-- sums -/
def sm (f : Nat → Int32) : Nat → Int32
  | 0 => 0
  | j + 1 => sm f j + f j
def mn (a b : Int32) : Int32 := if b ≤ a then b else a
def mx (a b : Int32) : Int32 := if a ≤ b then b else a
theorem M_lesser_e (a b : Int32) : M_lesser a b = some (mn a b) := by unfold M_lesser mn; split <;> rfl
theorem M_greater_e (a b : Int32) : M_greater a b = some (mx a b) := by unfold M_greater mx; split <;> rfl
theorem nI_n1 {a : Nat} (h : a < 2147483648) : (nI a = -nI 1) = False := eq_false (fun e => by
  have h1 := congrArg Int32.toInt e
  rw [nI_toInt h, show (-nI 1 : Int32).toInt = -1 from by decide] at h1
  omega)
theorem nI_m1t : (-nI 1 < nI 0) = True := eq_true (by decide)
theorem itS_succ (f : Nat → Sg → Sg) (j : Nat) (σ : Sg) : itS f (j + 1) σ = f j (itS f j σ) := rfl
theorem sm_succ (f : Nat → Int32) (j : Nat) : sm f (j + 1) = sm f j + f j := rfl
theorem sm_congr {f g : Nat → Int32} : ∀ {n : Nat}, (∀ j, j < n → f j = g j) → sm f n = sm g n
  | 0, _ => rfl
  | n + 1, h => by rw [sm_succ, sm_succ, sm_congr (fun j hj => h j (by omega)), h n (by omega)]
theorem sm_add (f g : Nat → Int32) : ∀ n : Nat, sm (fun j => f j + g j) n = sm f n + sm g n
  | 0 => by simp [sm]
  | n + 1 => by
    rw [sm_succ, sm_succ, sm_succ, sm_add f g n]
    ac_rfl
theorem sm_zero : ∀ n : Nat, sm (fun _ => 0) n = 0
  | 0 => rfl
  | n + 1 => by rw [sm_succ, sm_zero n]; simp
theorem sm_comm (f : Nat → Nat → Int32) (m : Nat) : ∀ n : Nat, sm (fun i => sm (fun j => f i j) m) n = sm (fun j => sm (fun i => f i j) n) m
  | 0 => by
    show (0 : Int32) = _
    exact (sm_zero m).symm
  | n + 1 => by
    rw [sm_succ, sm_comm f m n, ← sm_add]
    rfl
/-- a sum with one place that counts -/
theorem sm_one (x : Int32) (i : Nat) : ∀ n : Nat, sm (fun j => if i = j then x else 0) n = if i < n then x else 0
  | 0 => by simp [sm]
  | n + 1 => by
    rw [sm_succ, sm_one x i n]
    by_cases h1 : i < n
    · rw [if_pos h1, if_neg (by omega), if_pos (by omega)]; simp
    · by_cases h2 : i = n
      · rw [if_neg h1, if_pos h2, if_pos (by omega)]; simp
      · rw [if_neg h1, if_neg h2, if_neg (by omega)]; simp
def anyB (f : Nat → Bool) : Nat → Bool
  | 0 => false
  | j + 1 => anyB f j || f j
theorem anyB_succ (f : Nat → Bool) (j : Nat) : anyB f (j + 1) = (anyB f j || f j) := rfl
theorem anyB_true {f : Nat → Bool} {n j : Nat} (h : j < n) (hf : f j = true) : anyB f n = true := by
  induction n with
  | zero => omega
  | succ n ih =>
    rw [anyB_succ]
    by_cases e : j = n
    · subst e; simp [hf]
    · rw [ih (by omega)]; rfl
theorem anyB_congr {f g : Nat → Bool} : ∀ {n : Nat}, (∀ j, j < n → f j = g j) → anyB f n = anyB g n
  | 0, _ => rfl
  | n + 1, h => by rw [anyB_succ, anyB_succ, anyB_congr (fun j hj => h j (by omega)), h n (by omega)]
/-- a search loop that answers at the first hit -/
theorem zit_any {R : Type} {b : Int32 → Option (Int32 ⊕ (Bool ⊕ R))} {f : Nat → Bool} {n : Nat} {r : R} (hn : n < 30000)
    (hs : ∀ j, j < n → b (nI j) = some (if f j then .inr (.inl true) else .inl (nI (j + 1)))) (he : b (nI n) = some (.inr (.inr r))) :
    zit b zFU (nI 0) = some (if anyB f n then .inl true else .inr r) := by
  have key : ∀ (fu j : Nat), n < fu + j → j ≤ n → anyB f j = false → zit b fu (nI j) = some (if anyB f n then .inl true else .inr r) := by
    intro fu
    induction fu with
    | zero => intro j h1 h2; omega
    | succ fu ih =>
      intro j h1 h2 h3
      unfold zit
      rcases Nat.lt_or_ge j n with h | h
      · rw [hs j h]
        by_cases hf : f j = true
        · rw [if_pos hf, anyB_true h hf]; rfl
        · rw [if_neg hf]
          exact ih (j + 1) (by omega) (by omega) (by rw [anyB_succ, h3]; simpa using hf)
      · have : j = n := by omega
        subst this
        rw [he, h3]
        rfl
  exact key zFU 0 (by rw [zFU_e]; omega) (by omega) rfl
/-- loops over a state and a counter -/
theorem zit_cnt {b : Sg × Int32 → Option ((Sg × Int32) ⊕ (Sg × Int32))} (I : Nat → Sg → Prop) (x : Nat → Int32) (n : Nat) {σ : Sg} (hn : n < 39000) (h0 : I 0 σ)
    (hs : ∀ j τ, j < n → I j τ → ∃ τ', b (τ, x j) = some (.inl (τ', x (j + 1))) ∧ I (j + 1) τ') (he : ∀ τ, I n τ → b (τ, x n) = some (.inr (τ, x n))) :
    ∃ τ, zit b zFU (σ, x 0) = some (τ, x n) ∧ I n τ := by
  have key : ∀ (f j : Nat) (τ : Sg), n < f + j → j ≤ n → I j τ → ∃ υ, zit b f (τ, x j) = some (υ, x n) ∧ I n υ := by
    intro f
    induction f with
    | zero => intro j τ h1 h2; omega
    | succ f ih =>
      intro j τ h1 h2 h3
      unfold zit
      rcases Nat.lt_or_ge j n with h | h
      · obtain ⟨τ', e, h'⟩ := hs j τ h h3
        rw [e]
        exact ih (j + 1) τ' (by omega) (by omega) h'
      · have : j = n := by omega
        subst this
        rw [he τ h3]
        exact ⟨τ, rfl, h3⟩
  exact key zFU 0 σ (by rw [zFU_e]; omega) (by omega) h0
