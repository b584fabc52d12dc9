/-! plain numbers -/
theorem nI_sub {a b : Nat} (h : b ≤ a) : nI a - nI b = nI (a - b) := (Int32.ofNat_sub a b h).symm
theorem nI_mul (a b : Nat) : nI a * nI b = nI (a * b) := (Int32.ofNat_mul a b).symm
theorem nI_div {a b : Nat} (ha : a < 2 ^ 31) (hb : b < 2 ^ 31) (h0 : 0 < b) : nI a / nI b = nI (a / b) := by
  have hne : nI b ≠ -1 := by
    intro h
    have h1 := nI_toInt hb
    rw [h] at h1
    have h2 : (-1 : Int32).toInt = -1 := by decide
    omega
  have hq : a / b < 2 ^ 31 := Nat.lt_of_le_of_lt (Nat.div_le_self a b) ha
  refine Int32.toInt_inj.mp ?_
  rw [Int32.toInt_div_of_ne_right _ _ hne, nI_toInt ha, nI_toInt hb, nI_toInt hq]
  exact (Int.ofNat_tdiv a b).symm
theorem nI_mod {a b : Nat} (ha : a < 2 ^ 31) (hb : b < 2 ^ 31) (h0 : 0 < b) : nI a - nI a / nI b * nI b = nI (a % b) := by
  rw [nI_div ha hb h0, nI_mul, nI_sub (Nat.div_mul_le_self a b)]
  congr 1
  have := Nat.div_add_mod a b
  have h2 : b * (a / b) = a / b * b := Nat.mul_comm _ _
  omega
/-- an int is below 0, or a number -/
theorem i_cases (x : Int32) : x < 0 ∨ ∃ j : Nat, j < 2 ^ 31 ∧ x = nI j := by
  by_cases h : x < 0
  · exact Or.inl h
  · exact Or.inr (nI_of h)
theorem at_in {n i : Nat} (row : Nat → Int32) (hn : n < 2 ^ 31) (h : i < n) : f_X3_at n row (nI i) = row i := by
  unfold f_X3_at
  rw [if_neg (nI_pos (by omega)), if_neg (nI_ge h hn), nI_clamp (by omega)]
theorem put_in {n i : Nat} (row : Nat → Int32) (v : Int32) (hn : n < 2 ^ 31) (h : i < n) : f_X3_put n row (nI i) v = upd row i v := by
  unfold f_X3_put
  rw [if_neg (nI_pos (by omega)), if_neg (nI_ge h hn), nI_clamp (by omega)]
theorem inR_in {n i : Nat} (hn : n < 2 ^ 31) (h : i < n) : inR (nI i) n := nI_in h hn
theorem gd_t {α : Type} {c : Prop} [Decidable c] {x : Option α} (h : c) : gd c x = x := by unfold gd; rw [if_pos h]
theorem upd_eq (f : Nat → Int32) (k : Nat) (x : Int32) : upd f k x k = x := by unfold upd; rw [if_pos rfl]
theorem upd_ne (f : Nat → Int32) {k j : Nat} (x : Int32) (h : j ≠ k) : upd f k x j = f j := by unfold upd; rw [if_neg h]
/-- a loop that counts up to M -/
def iter {σ : Type} (step : Nat → σ → σ) : Nat → Nat → σ → σ
  | _, 0, s => s
  | i, k + 1, s => iter step (i + 1) k (step i s)
theorem loop_gen {σ R : Type} (F : Nat → Int32 → σ → Option R) (M : Nat) (k : σ → Option R) (step : Nat → σ → σ) (G : Nat → σ → Prop)
    (h1 : ∀ n s, G M s → F (n + 1) (nI M) s = k s) (h2 : ∀ n i s, i < M → G i s → F (n + 1) (nI i) s = F n (nI (i + 1)) (step i s) ∧ G (i + 1) (step i s)) :
    ∀ (j i : Nat) (s : σ) (n : Nat), i + j = M → j < n → G i s → F n (nI i) s = k (iter step i j s) ∧ G M (iter step i j s)
  | 0, i, s, n, hi, hn, hg => by
    obtain ⟨m, rfl⟩ : ∃ m, n = m + 1 := ⟨n - 1, by omega⟩
    have : i = M := by omega
    subst this
    exact ⟨h1 m s hg, hg⟩
  | j + 1, i, s, n, hi, hn, hg => by
    obtain ⟨m, rfl⟩ : ∃ m, n = m + 1 := ⟨n - 1, by omega⟩
    obtain ⟨e, hg'⟩ := h2 m i s (by omega) hg
    rw [e]
    exact loop_gen F M k step G h1 h2 j (i + 1) (step i s) m (by omega) (by omega) hg'
/-- how many of i, i + 1 .. (k of them) have a property -/
def cnt (P : Nat → Bool) : Nat → Nat → Nat
  | _, 0 => 0
  | i, k + 1 => (if P i then 1 else 0) + cnt P (i + 1) k
theorem cnt_le (P : Nat → Bool) : ∀ k i, cnt P i k ≤ k
  | 0, _ => Nat.le_refl _
  | k + 1, i => by
    have := cnt_le P k (i + 1)
    unfold cnt
    split <;> omega
/-! cells -/
def isC (sz c : Nat) : Bool := decide (c < 16) && (decide (c / 4 < sz) && decide (c % 4 < sz))
theorem isC_lt {sz c : Nat} (h : isC sz c = true) : c < 16 ∧ c / 4 < sz ∧ c % 4 < sz := by
  simpa [isC] using h
def b01 (b : Bool) : Int32 := if b then 1 else 0
theorem b01_t : b01 true = 1 := rfl
theorem b01_f : b01 false = 0 := rfl
theorem b01_0 (b : Bool) : b01 b = 0 ↔ b = false := by cases b <;> simp [b01]
theorem hasCell_neg {size x : Int32} (h : x < 0) : f_X0_hasCell size x = 0 := by
  simp only [f_X0_hasCell, jn, if_pos h]
theorem hasCell_nI {sz j : Nat} (hs : sz ≤ 4) (hj : j < 2 ^ 31) : f_X0_hasCell (nI sz) (nI j) = b01 (isC sz j) := by
  simp only [f_X0_hasCell, jn]
  rw [if_neg (nI_pos hj), show (16 : Int32) = nI 16 from rfl, show (4 : Int32) = nI 4 from rfl]
  by_cases h16 : 16 ≤ j
  · rw [if_pos (nI_le h16 hj), show isC sz j = false by simp [isC]; omega]; rfl
  · rw [if_neg (nI_ge (by omega) (by decide)), nI_mod hj (by decide) (by decide), nI_div hj (by decide) (by decide)]
    by_cases h1 : sz ≤ j / 4
    · rw [if_pos (nI_le h1 (by omega)), show isC sz j = false by simp [isC]; omega]; rfl
    · rw [if_neg (nI_ge (by omega) (by omega))]
      by_cases h2 : sz ≤ j % 4
      · rw [if_pos (nI_le h2 (by omega)), show isC sz j = false by simp [isC]; omega]; rfl
      · rw [if_neg (nI_ge (by omega) (by omega)), show isC sz j = true by simp [isC]; omega]; rfl
theorem lt_nI_neg {x : Int32} (h : x < 0) (a : Nat) (ha : a < 2 ^ 31) : x < nI a := by
  rw [Int32.lt_iff_toInt_lt] at h ⊢
  rw [nI_toInt ha]
  have h0 : (0 : Int32).toInt = 0 := by decide
  omega
theorem in_neg {x : Int32} (h : x < 0) (a : Nat) (ha : a < 2 ^ 31) (b : Int32) : f_X4_in x (nI a) b = 0 := by
  simp only [f_X4_in, jn]
  rw [if_pos (lt_nI_neg h a ha)]
theorem in_nI {j a b : Nat} (hj : j < 2 ^ 31) (ha : a < 2 ^ 31) (hb : b < 2 ^ 31) : f_X4_in (nI j) (nI a) (nI b) = b01 (decide (a ≤ j) && decide (j ≤ b)) := by
  simp only [f_X4_in, jn]
  by_cases h1 : a ≤ j
  · rw [if_neg (nI_nlt h1 hj)]
    by_cases h2 : j ≤ b
    · rw [if_neg (nI_nlt h2 hb)]; simp [h1, h2, b01]
    · rw [if_pos (nI_lt (by omega) hj)]; simp [h2, b01]
  · rw [if_pos (nI_lt (by omega) ha)]; simp [h1, b01]
theorem isCell_neg {size x : Int32} (h : x < 0) : f_X4_isCell size x = 0 := by
  simp only [f_X4_isCell, jn]
  rw [show (0 : Int32) = nI 0 from rfl, in_neg h 0 (by decide)]; rfl
theorem isCell_nI {sz j : Nat} (hs : sz ≤ 4) (hj : j < 2 ^ 31) : f_X4_isCell (nI sz) (nI j) = b01 (isC sz j) := by
  have hin : f_X4_in (nI j) 0 15 = b01 (decide (0 ≤ j) && decide (j ≤ 15)) := in_nI (a := 0) (b := 15) hj (by decide) (by decide)
  simp only [f_X4_isCell, jn]
  rw [hin, show (4 : Int32) = nI 4 from rfl]
  by_cases h16 : 16 ≤ j
  · rw [if_pos (by rw [b01_0]; simp; omega), show isC sz j = false by simp [isC]; omega]; rfl
  · rw [if_neg (by rw [b01_0]; simp; omega), nI_mod hj (by decide) (by decide), nI_div hj (by decide) (by decide)]
    by_cases h1 : sz ≤ j / 4
    · rw [if_pos (nI_le h1 (by omega)), show isC sz j = false by simp [isC]; omega]; rfl
    · rw [if_neg (nI_ge (by omega) (by omega))]
      by_cases h2 : sz ≤ j % 4
      · rw [if_pos (nI_le h2 (by omega)), show isC sz j = false by simp [isC]; omega]; rfl
      · rw [if_neg (nI_ge (by omega) (by omega)), show isC sz j = true by simp [isC]; omega]; rfl
/-! the two boards, cell by cell -/
def Cells (sz : Nat) (mba mgi g : Nat → Int32) : Prop := (2 ≤ sz ∧ sz ≤ 4) ∧ ∀ c : Nat, c < 16 → (mba c = 0 ∨ mba c = 1) ∧ (∃ d : Nat, d ≤ 9 ∧ mgi c = nI d) ∧ (mba c = 1 → mgi c = 0 ∧ isC sz c = true) ∧ (isC sz c = false → mgi c = 0) ∧ g c = (if mba c = 1 then -1 else mgi c)
def opn (sz : Nat) (mba : Nat → Int32) (c : Nat) : Bool := isC sz c && decide (mba c = 0)
def blk (sz : Nat) (mba mgi : Nat → Int32) (c : Nat) : Bool := opn sz mba c && decide (mgi c = 0)
theorem nI_nneg1 {d : Nat} (h : d < 2 ^ 31) : nI d ≠ -1 := by
  intro e
  have h1 := nI_toInt h
  rw [e] at h1
  have h2 : (-1 : Int32).toInt = -1 := by decide
  omega
section CEL
variable {sz : Nat} {mba mgi g : Nat → Int32}
theorem Cells.isOpen (h : Cells sz mba mgi g) {c : Nat} (hc : c < 16) : f_X0_isOpen (nI sz) g (nI c) = b01 (opn sz mba c) := by
  obtain ⟨h1, ⟨d, hd, h2⟩, h3, h4, h5⟩ := h.2 c hc
  simp only [f_X0_isOpen, jn]
  rw [hasCell_nI h.1.2 (by omega), at_in g (by decide) hc, h5]
  cases hq : isC sz c
  · rw [if_pos (by rfl)]; simp [opn, hq, b01]
  · rw [if_neg (by decide)]
    rcases h1 with h1 | h1
    · rw [h1, if_neg (show ¬ (0 : Int32) = 1 from by decide), h2, if_neg (nI_nneg1 (by omega))]; simp [opn, hq, h1, b01]
    · rw [h1, if_pos rfl, if_pos rfl]; simp [opn, h1, b01]
theorem Cells.isBlank (h : Cells sz mba mgi g) {c : Nat} (hc : c < 16) : f_X0_isBlank (nI sz) g (nI c) = b01 (blk sz mba mgi c) := by
  obtain ⟨h1, ⟨d, hd, h2⟩, h3, h4, h5⟩ := h.2 c hc
  simp only [f_X0_isBlank, jn]
  rw [hasCell_nI h.1.2 (by omega), at_in g (by decide) hc, h5]
  cases hq : isC sz c
  · rw [if_pos (by rfl)]; simp [blk, opn, hq, b01]
  · rw [if_neg (by decide)]
    rcases h1 with h1 | h1
    · rw [h1, if_neg (show ¬ (0 : Int32) = 1 from by decide)]
      by_cases h0 : mgi c = 0
      · rw [if_pos h0]; simp [blk, opn, hq, h1, h0, b01]
      · rw [if_neg h0]; simp [blk, h0, b01]
    · rw [h1, if_pos rfl, if_neg (by decide)]; simp [blk, opn, h1, b01]
theorem Cells.isOpenM (h : Cells sz mba mgi g) {c : Nat} (hc : c < 16) : f_X4_isOpen (nI sz) mba (nI c) = some (b01 (opn sz mba c)) := by
  simp only [f_X4_isOpen, jn]
  rw [isCell_nI h.1.2 (by omega)]
  cases hq : isC sz c
  · rw [if_pos (by rfl)]; simp [opn, hq, b01]
  · rw [if_neg (by decide), gd_t (inR_in (by decide) hc), nI_clamp (by omega)]
    by_cases h1 : mba c = 0
    · rw [if_pos h1]; simp [opn, hq, h1, b01]
    · rw [if_neg h1]; simp [opn, h1, b01]
theorem Cells.countL (h : Cells sz mba mgi g) : ∀ (k i acc n : Nat), i + k = 16 → k < n → f_X0_countOpen_L4 (nI sz) g n (nI acc) (nI i) = some (nI (acc + cnt (opn sz mba) i k))
  | 0, i, acc, n, hi, hn => by
    obtain ⟨m, rfl⟩ : ∃ m, n = m + 1 := ⟨n - 1, by omega⟩
    obtain rfl : i = 16 := by omega
    rw [f_X0_countOpen_L4.eq_2, if_pos (by decide)]
    rfl
  | k + 1, i, acc, n, hi, hn => by
    obtain ⟨m, rfl⟩ : ∃ m, n = m + 1 := ⟨n - 1, by omega⟩
    rw [f_X0_countOpen_L4.eq_2, if_neg (show ¬ (16 : Int32) ≤ nI i from nI_ge (b := 16) (by omega) (by decide)), h.isOpen (by omega)]
    simp only [jn]
    cases hq : opn sz mba i
    · rw [if_pos (by rfl), nI_1, h.countL k (i + 1) acc m (by omega) (by omega)]
      simp [cnt, hq]
    · rw [if_neg (by decide), nI_1, nI_1, h.countL k (i + 1) (acc + 1) m (by omega) (by omega)]
      simp only [cnt, hq, if_true]
      rw [Nat.add_assoc]
theorem Cells.countB (h : Cells sz mba mgi g) : ∀ (k i acc n : Nat), i + k = 16 → k < n → f_X0_countBlanks_L4 (nI sz) g n (nI acc) (nI i) = some (nI (acc + cnt (blk sz mba mgi) i k))
  | 0, i, acc, n, hi, hn => by
    obtain ⟨m, rfl⟩ : ∃ m, n = m + 1 := ⟨n - 1, by omega⟩
    obtain rfl : i = 16 := by omega
    rw [f_X0_countBlanks_L4.eq_2, if_pos (by decide)]
    rfl
  | k + 1, i, acc, n, hi, hn => by
    obtain ⟨m, rfl⟩ : ∃ m, n = m + 1 := ⟨n - 1, by omega⟩
    rw [f_X0_countBlanks_L4.eq_2, if_neg (show ¬ (16 : Int32) ≤ nI i from nI_ge (b := 16) (by omega) (by decide)), h.isBlank (by omega)]
    simp only [jn]
    cases hq : blk sz mba mgi i
    · rw [if_pos (by rfl), nI_1, h.countB k (i + 1) acc m (by omega) (by omega)]
      simp [cnt, hq]
    · rw [if_neg (by decide), nI_1, nI_1, h.countB k (i + 1) (acc + 1) m (by omega) (by omega)]
      simp only [cnt, hq, if_true]
      rw [Nat.add_assoc]
theorem Cells.countLM (h : Cells sz mba mgi g) : ∀ (k i acc n : Nat), i + k = 16 → k < n → f_X4_countOpen_L4 (nI sz) mba n (nI acc) (nI i) = some (nI (acc + cnt (opn sz mba) i k))
  | 0, i, acc, n, hi, hn => by
    obtain ⟨m, rfl⟩ : ∃ m, n = m + 1 := ⟨n - 1, by omega⟩
    obtain rfl : i = 16 := by omega
    rw [f_X4_countOpen_L4.eq_2, if_pos (by decide)]
    rfl
  | k + 1, i, acc, n, hi, hn => by
    obtain ⟨m, rfl⟩ : ∃ m, n = m + 1 := ⟨n - 1, by omega⟩
    rw [f_X4_countOpen_L4.eq_2, if_neg (show ¬ (16 : Int32) ≤ nI i from nI_ge (b := 16) (by omega) (by decide)), h.isOpenM (by omega)]
    simp only [jn, Option.bind_some]
    cases hq : opn sz mba i
    · rw [if_pos (by rfl), nI_1, show (0 : Int32) = nI 0 from rfl, nI_add, h.countLM k (i + 1) (acc + 0) m (by omega) (by omega)]
      simp [cnt, hq]
    · rw [if_neg (by decide), nI_1, nI_1, h.countLM k (i + 1) (acc + 1) m (by omega) (by omega)]
      simp only [cnt, hq, if_true]
      rw [Nat.add_assoc]
theorem Cells.countOpen (h : Cells sz mba mgi g) {N : Nat} (hN : 16 < N) : f_X0_countOpen N (nI sz) g = some (nI (cnt (opn sz mba) 0 16)) := by
  rw [f_X0_countOpen, show (0 : Int32) = nI 0 from rfl, h.countL 16 0 0 N (by omega) hN, Nat.zero_add]
theorem Cells.countBlanks (h : Cells sz mba mgi g) {N : Nat} (hN : 16 < N) : f_X0_countBlanks N (nI sz) g = some (nI (cnt (blk sz mba mgi) 0 16)) := by
  rw [f_X0_countBlanks, show (0 : Int32) = nI 0 from rfl, h.countB 16 0 0 N (by omega) hN, Nat.zero_add]
theorem Cells.countOpenM (h : Cells sz mba mgi g) {N : Nat} (hN : 16 < N) : f_X4_countOpen N (nI sz) mba = some (nI (cnt (opn sz mba) 0 16)) := by
  rw [f_X4_countOpen, show (0 : Int32) = nI 0 from rfl, h.countLM 16 0 0 N (by omega) hN, Nat.zero_add]
end CEL
