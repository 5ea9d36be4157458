/-! reading: the text, its words, the table of own words -/
theorem shl_nI {n s : Nat} (h : n * 2 ^ s < 2147483648) (hs : s < 32) : nI n <<< nI s = nI (n * 2 ^ s) := by
  have hn : n ≤ n * 2 ^ s := Nat.le_mul_of_pos_right n (Nat.two_pow_pos s)
  apply Int32.toBitVec_inj.mp
  apply BitVec.eq_of_toNat_eq
  have e : ((nI s).toBitVec.smod 32).toNat = s := smod_s ⟨s, hs⟩
  rw [Int32.toBitVec_shiftLeft, BitVec.shiftLeft_eq', e, BitVec.toNat_shiftLeft, nI_bv (by omega), nI_bv h, Nat.shiftLeft_eq, Nat.mod_eq_of_lt (by omega)]
theorem or_nI {M l s : Nat} (hl : l < 32) (h : 2 ^ (s + 5) * M + l * 2 ^ s < 2147483648) : nI (2 ^ (s + 5) * M) ||| nI (l * 2 ^ s) = nI (2 ^ (s + 5) * M + l * 2 ^ s) := by
  apply Int32.toBitVec_inj.mp
  apply BitVec.eq_of_toNat_eq
  have hb : l * 2 ^ s < 2 ^ (s + 5) := by
    rw [Nat.pow_add, Nat.mul_comm]
    exact Nat.mul_lt_mul_of_pos_left hl (Nat.two_pow_pos s)
  rw [Int32.toBitVec_or, BitVec.toNat_or, nI_bv (by omega), nI_bv (by omega), nI_bv h, Nat.two_pow_add_eq_or_of_lt hb]
def cv (b : Nat) : Int32 := if b < 128 then nI b else nI b - nI 256
theorem cv_eq {b k : Nat} (hb : b < 256) (hk : k < 128) : (cv b = nI k) = (b = k) := by
  apply propext
  constructor
  · intro h
    have h1 := congrArg Int32.toInt h
    have h2 : (cv b).toInt = if b < 128 then (b : Int) else b - 256 := tbneg ⟨b, hb⟩
    rw [h2, nI_toInt (by omega)] at h1
    split at h1 <;> omega
  · rintro rfl
    exact if_pos hk
def ltr (b : Nat) : Bool := decide (97 ≤ b ∧ b ≤ 122)
def dgt (b : Nat) : Bool := decide (48 ≤ b ∧ b ≤ 57)
def blk (b : Nat) : Bool := decide (b = 10 ∨ b = 32)
theorem cv_ltr0 : ∀ b : Fin 256, Reader_isLetter (cv b.val) = some (ltr b.val) := by decide +kernel
theorem cv_dgt0 : ∀ b : Fin 256, Reader_isDigit (cv b.val) = some (dgt b.val) := by decide +kernel
theorem cv_ltr {b : Nat} (h : b < 256) : Reader_isLetter (cv b) = some (ltr b) := cv_ltr0 ⟨b, h⟩
theorem cv_dgt {b : Nat} (h : b < 256) : Reader_isDigit (cv b) = some (dgt b) := cv_dgt0 ⟨b, h⟩
theorem ltr_t {b : Nat} (h : ltr b = true) : 97 ≤ b ∧ b ≤ 122 := of_decide_eq_true h
theorem dgt_t {b : Nat} (h : dgt b = true) : 48 ≤ b ∧ b ≤ 57 := of_decide_eq_true h
/-- how many from a on, at most n -/
def rn (P : Nat → Bool) (a : Nat) : Nat → Nat
  | 0 => 0
  | n + 1 => if P (a + rn P a n) = true ∧ rn P a n = n then n + 1 else rn P a n
theorem rn_s (P : Nat → Bool) (a n : Nat) : rn P a (n + 1) = if P (a + rn P a n) = true ∧ rn P a n = n then n + 1 else rn P a n := rfl
theorem rn_le (P : Nat → Bool) (a : Nat) : ∀ n, rn P a n ≤ n
  | 0 => Nat.le_refl _
  | n + 1 => by
    have := rn_le P a n
    rw [rn_s]
    split <;> omega
theorem rn_in (P : Nat → Bool) (a : Nat) : ∀ n i, i < rn P a n → P (a + i) = true
  | 0, i, h => absurd h (by unfold rn; omega)
  | n + 1, i, h => by
    rw [rn_s] at h
    split at h
    · rename_i c
      rcases Nat.lt_or_ge i n with x | x
      · exact rn_in P a n i (by omega)
      · have : i = rn P a n := by omega
        rw [this]; exact c.1
    · exact rn_in P a n i h
theorem rn_out (P : Nat → Bool) (a : Nat) : ∀ n, rn P a n < n → P (a + rn P a n) = false
  | 0, h => by omega
  | n + 1, h => by
    rw [rn_s] at h ⊢
    split at h
    · omega
    · rename_i c
      rw [if_neg c]
      rcases Nat.lt_or_ge (rn P a n) n with x | x
      · exact rn_out P a n x
      · have e : rn P a n = n := by have := rn_le P a n; omega
        cases hp : P (a + rn P a n)
        · rfl
        · exact absurd ⟨hp, e⟩ c
def sk (B : Nat → Nat) (L a : Nat) : Nat := a + rn (fun i => blk (B i)) a (L - a)
def we (B : Nat → Nat) (L a : Nat) : Nat := a + rn (fun i => ltr (B i)) a (L - a)
theorem sk_le {B : Nat → Nat} {L a : Nat} (h : a ≤ L) : a ≤ sk B L a ∧ sk B L a ≤ L := by
  have := rn_le (fun i => blk (B i)) a (L - a)
  unfold sk
  omega
theorem we_le {B : Nat → Nat} {L a : Nat} (h : a ≤ L) : a ≤ we B L a ∧ we B L a ≤ L := by
  have := rn_le (fun i => ltr (B i)) a (L - a)
  unfold we
  omega
theorem sk_out {B : Nat → Nat} {L a : Nat} (h : sk B L a < L) : blk (B (sk B L a)) = false := by
  unfold sk at h ⊢
  exact rn_out (fun i => blk (B i)) a (L - a) (by omega)
theorem sk_in {B : Nat → Nat} {L a i : Nat} (h1 : a ≤ i) (h2 : i < sk B L a) : blk (B i) = true := by
  unfold sk at h2
  have := rn_in (fun i => blk (B i)) a (L - a) (i - a) (by omega)
  rw [show a + (i - a) = i from by omega] at this
  exact this
theorem we_out {B : Nat → Nat} {L a : Nat} (h : we B L a < L) : ltr (B (we B L a)) = false := by
  unfold we at h ⊢
  exact rn_out (fun i => ltr (B i)) a (L - a) (by omega)
theorem we_in {B : Nat → Nat} {L a i : Nat} (h1 : a ≤ i) (h2 : i < we B L a) : ltr (B i) = true := by
  unfold we at h2
  have := rn_in (fun i => ltr (B i)) a (L - a) (i - a) (by omega)
  rw [show a + (i - a) = i from by omega] at this
  exact this
/-- directly behind a letter or a digit -/
def tg (B : Nat → Nat) (a : Nat) : Nat := if 0 < a ∧ (ltr (B (a - 1)) = true ∨ dgt (B (a - 1)) = true) then 1 else 0
theorem tg_01 (B : Nat → Nat) (a : Nat) : tg B a = 0 ∨ tg B a = 1 := by
  unfold tg
  split
  · exact Or.inr rfl
  · exact Or.inl rfl
theorem tg_blk {B : Nat → Nat} {a : Nat} (h : blk (B (a - 1)) = true) : tg B a = 0 := by
  unfold tg
  rw [if_neg]
  intro c
  have h1 : B (a - 1) = 10 ∨ B (a - 1) = 32 := of_decide_eq_true h
  rcases c.2 with c | c
  · have := ltr_t c; omega
  · have := dgt_t c; omega
/-! the own words -/
def ownL : List Nat := [3, 1, 14, 1, 12, 0, 7, 9, 22, 5, 19, 0, 11, 5, 5, 16, 0, 16, 15, 15, 12, 0, 8, 15, 12, 4, 19, 0, 12, 15, 23, 0, 8, 9, 7, 8, 0, 3, 18, 5, 19, 20, 0, 4, 5, 12, 1, 25, 0, 12, 5, 1, 11, 0, 7, 1, 20, 5, 0, 2, 25, 0, 15, 16, 5, 14, 0, 15, 21, 20, 12, 5, 20, 0, 1, 20, 0, 20, 1, 11, 5, 19, 0, 15, 18, 4, 5, 18, 0, 6, 18, 15, 13, 0, 6, 15, 18, 0, 20, 21, 18, 14, 19, 0]
def own (i : Nat) : Nat := ownL.getD i 0
def wst (x : Nat) : Nat := [0, 6, 12, 17, 22, 28, 32, 37, 43, 49, 54, 59, 62, 67, 74, 77, 83, 89, 94, 98, 104].getD x 0
def wln (x : Nat) : Nat := [5, 5, 4, 4, 5, 3, 4, 5, 5, 4, 4, 2, 4, 6, 2, 5, 5, 4, 3, 5].getD x 0
def kx (x : Nat) : Nat := if x < 4 then x else x + 1
theorem own_row0 : ∀ j : Fin 104, lw_s0 188 j.val = nI (own j.val) := by decide +kernel
theorem own_row {j : Nat} (h : j < 104) : lw_s0 188 j = nI (own j) := own_row0 ⟨j, h⟩
theorem w_tab0 : ∀ x : Fin 20, wst x.val + wln x.val + 1 = wst (x.val + 1) ∧ wst x.val + wln x.val < 104 ∧ own (wst x.val + wln x.val) = 0 ∧ 1 ≤ wln x.val ∧ wln x.val ≤ 6 ∧ (∀ i : Fin 6, i.val < wln x.val → 1 ≤ own (wst x.val + i.val) ∧ own (wst x.val + i.val) ≤ 26) ∧ zSlen.getD (kx x.val) 0 = wln x.val ∧ ∀ i : Fin 6, i.val < wln x.val → (zSbyt.getD (kx x.val) []).getD i.val 0 = nI (own (wst x.val + i.val) + 96) := by decide +kernel
theorem w_tab {x : Nat} (h : x < 20) : wst x + wln x + 1 = wst (x + 1) ∧ wst x + wln x < 104 ∧ own (wst x + wln x) = 0 ∧ 1 ≤ wln x ∧ wln x ≤ 6 ∧ (∀ i, i < wln x → 1 ≤ own (wst x + i) ∧ own (wst x + i) ≤ 26) ∧ zSlen.getD (kx x) 0 = wln x ∧ ∀ i, i < wln x → (zSbyt.getD (kx x) []).getD i 0 = nI (own (wst x + i) + 96) := by
  obtain ⟨h1, h2, h3, h4, h5, h6, h7, h8⟩ := w_tab0 ⟨x, h⟩
  exact ⟨h1, h2, h3, h4, h5, fun i hi => h6 ⟨i, Nat.lt_of_lt_of_le hi h5⟩ hi, h7, fun i hi => h8 ⟨i, Nat.lt_of_lt_of_le hi h5⟩ hi⟩
theorem w_dist0 : ∀ x y : Fin 20, wln x.val = wln y.val → (∀ i : Fin 6, i.val < wln x.val → own (wst x.val + i.val) = own (wst y.val + i.val)) → x = y := by decide +kernel
/-- the word from a to e is own word x -/
def isW (B : Nat → Nat) (a e x : Nat) : Prop := e - a = wln x ∧ ∀ i, i < wln x → B (a + i) = own (wst x + i) + 96
theorem isW_u {B : Nat → Nat} {a e x y : Nat} (hx : x < 20) (hy : y < 20) (h1 : isW B a e x) (h2 : isW B a e y) : x = y := by
  have hl : wln x = wln y := h1.1.symm.trans h2.1
  have := w_dist0 ⟨x, hx⟩ ⟨y, hy⟩ hl (fun i hi => by
    have a1 := h1.2 i.val hi
    have a2 := h2.2 i.val (by rw [← hl]; exact hi)
    show own (wst x + i.val) = own (wst y + i.val)
    omega)
  exact congrArg Fin.val this
