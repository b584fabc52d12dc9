/-! solving by rules: the first sets, dead boards, solved boards -/
def fS (sz : Nat) (mba mgi : Nat → Int32) (c : Nat) : Int32 := if opn sz mba c = true then (if mgi c = 0 then 1022 else 1 <<< (mgi c &&& 31)) else 0
def emp (sz : Nat) (mba se : Nat → Int32) : Nat → Nat → Bool
  | 0, _ => false
  | k + 1, i => (opn sz mba i && decide (se i = 0)) || emp sz mba se k (i + 1)
def sg (x : Int32) : Bool := !decide (f_X4_isSingle x = 0)
def sol (sz : Nat) (mba se : Nat → Int32) : Nat → Nat → Bool
  | 0, _ => true
  | k + 1, i => (!opn sz mba i || sg (se i)) && sol sz mba se k (i + 1)
def ff (sz : Nat) (mba mgi se : Nat → Int32) : Nat → Nat → Int32
  | 0, _ => -1
  | k + 1, i => if (blk sz mba mgi i && sg (se i)) = true then nI i else ff sz mba mgi se k (i + 1)
def SEQ (se mca : Nat → Int32) : Prop := ∀ c, c < 16 → se c = mca c ∧ ∃ v : Nat, v < 1024 ∧ se c = nI v
theorem emp_congr {sz : Nat} {mba se mca : Nat → Int32} (h : SEQ se mca) : ∀ k i, i + k = 16 → emp sz mba se k i = emp sz mba mca k i
  | 0, i, _ => rfl
  | k + 1, i, hi => by rw [emp, emp, (h i (by omega)).1, emp_congr h k (i + 1) (by omega)]
theorem sol_congr {sz : Nat} {mba se mca : Nat → Int32} (h : SEQ se mca) : ∀ k i, i + k = 16 → sol sz mba se k i = sol sz mba mca k i
  | 0, i, _ => rfl
  | k + 1, i, hi => by rw [sol, sol, (h i (by omega)).1, sol_congr h k (i + 1) (by omega)]
theorem ff_congr {sz : Nat} {mba mgi se mca : Nat → Int32} (h : SEQ se mca) : ∀ k i, i + k = 16 → ff sz mba mgi se k i = ff sz mba mgi mca k i
  | 0, i, _ => rfl
  | k + 1, i, hi => by rw [ff, ff, (h i (by omega)).1, ff_congr h k (i + 1) (by omega)]
section SETS
variable {sz : Nat} {mba mgi g : Nat → Int32}
theorem opn_mba {c : Nat} (h : opn sz mba c = true) : mba c = 0 := by
  simp only [opn, Bool.and_eq_true, decide_eq_true_eq] at h; exact h.2
theorem Cells.g_open (h : Cells sz mba mgi g) {c : Nat} (hc : c < 16) (ho : opn sz mba c = true) : g c = mgi c := by
  obtain ⟨-, -, -, -, h5⟩ := h.2 c hc
  rw [h5, opn_mba ho, if_neg zero_ne1]
theorem Cells.fset (h : Cells sz mba mgi g) {c : Nat} (hc : c < 16) : f_X1_firstSetOf (nI sz) g (nI c) = fS sz mba mgi c := by
  rw [f_X1_firstSetOf, h.isOpen hc, h.isBlank hc, f_X0_givenAt, at_in _ (by decide) hc, fS]
  cases ho : opn sz mba c
  · rw [if_pos b01_f, if_neg (by decide)]
  · rw [if_neg (show ¬ b01 true = 0 from one_ne0), if_pos rfl, h.g_open hc ho, blk, ho, Bool.true_and]
    by_cases h0 : mgi c = 0
    · rw [if_pos h0, decide_eq_true h0, if_neg (show ¬ b01 true = 0 from one_ne0)]
    · rw [if_neg h0, decide_eq_false h0, if_pos b01_f]
theorem Cells.fS_small (h : Cells sz mba mgi g) {c : Nat} (hc : c < 16) : ∃ v : Nat, v < 1024 ∧ fS sz mba mgi c = nI v := by
  obtain ⟨-, ⟨d, hd, h2⟩, -⟩ := h.2 c hc
  rw [fS]
  cases ho : opn sz mba c
  · rw [if_neg (by decide)]; exact ⟨0, by omega, rfl⟩
  · rw [if_pos rfl]
    by_cases h0 : mgi c = 0
    · rw [if_pos h0]; exact ⟨1022, by omega, rfl⟩
    · rw [if_neg h0, h2]
      refine ⟨2 ^ d, ?_, F7 ⟨d, by omega⟩⟩
      exact Nat.pow_lt_pow_right (n := 10) (a := 2) (by omega) (by omega)
theorem Cells.startC_L (h : Cells sz mba mgi g) (gr : Int32) : ∀ (k i n : Nat) (se : Nat → Int32), i + k = 16 → k < n → (∀ c, c < i → se c = fS sz mba mgi c) → ∃ se' : Nat → Int32, f_X1_start_L7 (nI sz) g gr n (nI i) se = some (gr, se') ∧ ∀ c, c < 16 → se' c = fS sz mba mgi c
  | 0, i, n, se, hi, hn, hf => by
    obtain ⟨m, rfl⟩ : ∃ m, n = m + 1 := ⟨n - 1, by omega⟩
    obtain rfl : i = 16 := by omega
    rw [f_X1_start_L7.eq_2, if_pos (by decide)]
    exact ⟨se, rfl, hf⟩
  | k + 1, i, n, se, hi, hn, hf => by
    obtain ⟨m, rfl⟩ : ∃ m, n = m + 1 := ⟨n - 1, by omega⟩
    rw [f_X1_start_L7.eq_2, if_neg (show ¬ (16 : Int32) ≤ nI i from nI_ge (b := 16) (by omega) (by decide)), h.fset (by omega), put_in _ _ (by decide) (by omega), nI_1]
    refine h.startC_L gr k (i + 1) m _ (by omega) (by omega) fun c hc => ?_
    by_cases hq : c = i
    · rw [hq, upd_eq]
    · rw [upd_ne _ _ hq]; exact hf c (by omega)
theorem Cells.startM_L (h : Cells sz mba mgi g) (kk : _) : ∀ (k i n : Nat) (mca : Nat → Int32), i + k = 16 → k < n → (∀ c, c < i → mca c = fS sz mba mgi c) → ∃ mca' : Nat → Int32, f_X4_solve_L7 (nI sz) mba mgi kk n (nI i) mca = kk mca' ∧ ∀ c, c < 16 → mca' c = fS sz mba mgi c
  | 0, i, n, mca, hi, hn, hf => by
    obtain ⟨m, rfl⟩ : ∃ m, n = m + 1 := ⟨n - 1, by omega⟩
    obtain rfl : i = 16 := by omega
    rw [f_X4_solve_L7.eq_2, if_pos (by decide)]
    exact ⟨mca, rfl, hf⟩
  | k + 1, i, n, mca, hi, hn, hf => by
    obtain ⟨m, rfl⟩ : ∃ m, n = m + 1 := ⟨n - 1, by omega⟩
    have hin : inR (nI i) 16 := inR_in (by decide) (by omega)
    have hcl : (nI i).toNatClampNeg = i := nI_clamp (by omega)
    obtain ⟨-, ⟨d, hd, h2⟩, -⟩ := h.2 i (by omega)
    have step : f_X4_solve_L7 (nI sz) mba mgi kk (m + 1) (nI i) mca = f_X4_solve_L7 (nI sz) mba mgi kk m (nI (i + 1)) (upd mca i (fS sz mba mgi i)) := by
      rw [f_X4_solve_L7.eq_2, if_neg (show ¬ (16 : Int32) ≤ nI i from nI_ge (b := 16) (by omega) (by decide)), h.isOpenM (by omega), Option.bind_some, fS]
      simp only [jn_p, hcl, nI_1]
      simp only [gd_t hin]
      cases ho : opn sz mba i
      · rw [if_pos b01_f, if_neg (by decide)]
      · rw [if_neg (show ¬ b01 true = 0 from one_ne0), if_pos rfl, h2]
        by_cases h0 : d = 0
        · rw [if_pos ((nI_le0 hd).mpr h0), if_pos ((nI_zero hd).mpr h0)]
        · rw [if_neg (fun w => h0 ((nI_le0 hd).mp w)), if_neg (fun w => h0 ((nI_zero hd).mp w))]
    rw [step]
    refine h.startM_L kk k (i + 1) m _ (by omega) (by omega) fun c hc => ?_
    by_cases hq : c = i
    · rw [hq, upd_eq]
    · rw [upd_ne _ _ hq]; exact hf c (by omega)
theorem Cells.empty_eq (h : Cells sz mba mgi g) (se : Nat → Int32) : ∀ (k i n : Nat), i + k = 16 → k < n → f_X1_hasEmptyCell_L2 (nI sz) g se n (nI i) = some (b01 (emp sz mba se k i))
  | 0, i, n, hi, hn => by
    obtain ⟨m, rfl⟩ : ∃ m, n = m + 1 := ⟨n - 1, by omega⟩
    obtain rfl : i = 16 := by omega
    rw [f_X1_hasEmptyCell_L2.eq_2, if_pos (by decide)]; rfl
  | k + 1, i, n, hi, hn => by
    obtain ⟨m, rfl⟩ : ∃ m, n = m + 1 := ⟨n - 1, by omega⟩
    rw [f_X1_hasEmptyCell_L2.eq_2, if_neg (show ¬ (16 : Int32) ≤ nI i from nI_ge (b := 16) (by omega) (by decide)), h.isOpen (by omega), at_in _ (by decide) (by omega), emp]
    simp only [jn_p, nI_1, h.empty_eq se k (i + 1) m (by omega) (by omega)]
    cases ho : opn sz mba i
    · rw [if_pos b01_f, Bool.false_and, Bool.false_or]
    · rw [if_neg (show ¬ b01 true = 0 from one_ne0), Bool.true_and]
      by_cases h0 : se i = 0
      · rw [if_pos h0, decide_eq_true h0, Bool.true_or]; rfl
      · rw [if_neg h0, decide_eq_false h0, Bool.false_or]
theorem Cells.dead_eq (h : Cells sz mba mgi g) (mca : Nat → Int32) : ∀ (k i n : Nat) (b : Bool), i + k = 16 → k < n → f_X4_isDead_L4 (nI sz) mba mca n (b01 b) (nI i) = some (b01 (b || emp sz mba mca k i))
  | 0, i, n, b, hi, hn => by
    obtain ⟨m, rfl⟩ : ∃ m, n = m + 1 := ⟨n - 1, by omega⟩
    obtain rfl : i = 16 := by omega
    rw [f_X4_isDead_L4.eq_2, if_pos (by decide), emp, Bool.or_false]
    cases b
    · rw [gd_t (Or.inl b01_f)]
    · rw [gd_t (Or.inr b01_t)]
  | k + 1, i, n, b, hi, hn => by
    obtain ⟨m, rfl⟩ : ∃ m, n = m + 1 := ⟨n - 1, by omega⟩
    have hin : inR (nI i) 16 := inR_in (by decide) (by omega)
    have hcl : (nI i).toNatClampNeg = i := nI_clamp (by omega)
    have ih1 : f_X4_isDead_L4 (nI sz) mba mca m 1 (nI (i + 1)) = some (b01 (true || emp sz mba mca k (i + 1))) := h.dead_eq mca k (i + 1) m true (by omega) (by omega)
    have ih0 : f_X4_isDead_L4 (nI sz) mba mca m 0 (nI (i + 1)) = some (b01 (false || emp sz mba mca k (i + 1))) := h.dead_eq mca k (i + 1) m false (by omega) (by omega)
    rw [f_X4_isDead_L4.eq_2, if_neg (show ¬ (16 : Int32) ≤ nI i from nI_ge (b := 16) (by omega) (by decide)), h.isOpenM (by omega), emp]
    simp only [jn_p, Option.bind_some, nI_1, hcl, ih1, ih0]
    rw [gd_t hin]
    cases b
    · rw [if_pos b01_f, Bool.false_or]
      cases ho : opn sz mba i
      · rw [if_pos b01_f, Bool.false_and]; rfl
      · rw [if_neg (show ¬ b01 true = 0 from one_ne0), Bool.true_and]
        by_cases h0 : mca i = 0
        · rw [if_pos h0, decide_eq_true h0]; rfl
        · rw [if_neg h0, decide_eq_false h0]; rfl
    · rw [if_neg (show ¬ b01 true = 0 from one_ne0), Bool.true_or, Bool.true_or]
theorem sgC {se mca : Nat → Int32} (h : SEQ se mca) {i : Nat} (hi : i < 16) : f_X1_isSingle (se i) = f_X4_isSingle (se i) := by
  obtain ⟨-, v, hv, e⟩ := h i hi
  rw [e]; exact F3 ⟨v, hv⟩
theorem Cells.solved_eq (h : Cells sz mba mgi g) {se mca : Nat → Int32} (hs : SEQ se mca) : ∀ (k i n : Nat), i + k = 16 → k < n → f_X1_isSolved_L2 (nI sz) g se n (nI i) = some (b01 (sol sz mba se k i))
  | 0, i, n, hi, hn => by
    obtain ⟨m, rfl⟩ : ∃ m, n = m + 1 := ⟨n - 1, by omega⟩
    obtain rfl : i = 16 := by omega
    rw [f_X1_isSolved_L2.eq_2, if_pos (by decide)]; rfl
  | k + 1, i, n, hi, hn => by
    obtain ⟨m, rfl⟩ : ∃ m, n = m + 1 := ⟨n - 1, by omega⟩
    rw [f_X1_isSolved_L2.eq_2, if_neg (show ¬ (16 : Int32) ≤ nI i from nI_ge (b := 16) (by omega) (by decide)), h.isOpen (by omega), at_in _ (by decide) (by omega), sgC hs (by omega), sol, sg]
    simp only [jn_p, nI_1, h.solved_eq hs k (i + 1) m (by omega) (by omega)]
    cases ho : opn sz mba i
    · rw [if_pos b01_f, Bool.not_false, Bool.true_or, Bool.true_and]
    · rw [if_neg (show ¬ b01 true = 0 from one_ne0), Bool.not_true, Bool.false_or]
      by_cases h0 : f_X4_isSingle (se i) = 0
      · rw [if_pos h0, decide_eq_true h0, Bool.not_true, Bool.false_and]; rfl
      · rw [if_neg h0, decide_eq_false h0, Bool.not_false, Bool.true_and]
theorem Cells.level_eq (h : Cells sz mba mgi g) (mth mhs mlv : Int32) (mca : Nat → Int32) : ∀ (k i n : Nat), i + k = 16 → k < n → f_X4_level_L12 mth (nI sz) mhs mlv mba mca n (nI i) = some ((if sol sz mba mca k i = true then mlv else -1), mth, mhs, mlv, mca)
  | 0, i, n, hi, hn => by
    obtain ⟨m, rfl⟩ : ∃ m, n = m + 1 := ⟨n - 1, by omega⟩
    obtain rfl : i = 16 := by omega
    rw [f_X4_level_L12.eq_2, if_pos (by decide)]; rfl
  | k + 1, i, n, hi, hn => by
    obtain ⟨m, rfl⟩ : ∃ m, n = m + 1 := ⟨n - 1, by omega⟩
    have hin : inR (nI i) 16 := inR_in (by decide) (by omega)
    have hcl : (nI i).toNatClampNeg = i := nI_clamp (by omega)
    rw [f_X4_level_L12.eq_2, if_neg (show ¬ (16 : Int32) ≤ nI i from nI_ge (b := 16) (by omega) (by decide)), h.isOpenM (by omega), Option.bind_some, sol, sg]
    simp only [jn_p, nI_1, hcl, h.level_eq mth mhs mlv mca k (i + 1) m (by omega) (by omega)]
    rw [gd_t hin]
    cases ho : opn sz mba i
    · rw [if_pos b01_f, Bool.not_false, Bool.true_or, Bool.true_and]
    · rw [if_neg (show ¬ b01 true = 0 from one_ne0), Bool.not_true, Bool.false_or]
      by_cases h0 : f_X4_isSingle (mca i) = 0
      · rw [if_pos h0, decide_eq_true h0, Bool.not_true, Bool.false_and, if_neg (show ¬ (false = true) from by decide)]
      · rw [if_neg h0, decide_eq_false h0, Bool.not_false, Bool.true_and]
theorem Cells.found_eq (h : Cells sz mba mgi g) {se mca : Nat → Int32} (hs : SEQ se mca) : ∀ (k i n : Nat), i + k = 16 → k < n → f_X1_firstFound_L2 (nI sz) g se n (nI i) = some (ff sz mba mgi se k i)
  | 0, i, n, hi, hn => by
    obtain ⟨m, rfl⟩ : ∃ m, n = m + 1 := ⟨n - 1, by omega⟩
    obtain rfl : i = 16 := by omega
    rw [f_X1_firstFound_L2.eq_2, if_pos (by decide)]; rfl
  | k + 1, i, n, hi, hn => by
    obtain ⟨m, rfl⟩ : ∃ m, n = m + 1 := ⟨n - 1, by omega⟩
    rw [f_X1_firstFound_L2.eq_2, if_neg (show ¬ (16 : Int32) ≤ nI i from nI_ge (b := 16) (by omega) (by decide)), h.isBlank (by omega), at_in _ (by decide) (by omega), sgC hs (by omega), ff, sg]
    simp only [jn_p, nI_1, h.found_eq hs k (i + 1) m (by omega) (by omega)]
    cases ho : blk sz mba mgi i
    · rw [if_pos b01_f, Bool.false_and, if_neg (show ¬ (false = true) from by decide)]
    · rw [if_neg (show ¬ b01 true = 0 from one_ne0), Bool.true_and]
      by_cases h0 : f_X4_isSingle (se i) = 0
      · rw [if_pos h0, decide_eq_true h0, Bool.not_true, if_neg (show ¬ (false = true) from by decide)]
      · rw [if_neg h0, decide_eq_false h0, Bool.not_false, if_pos rfl]
theorem Cells.find_eq (h : Cells sz mba mgi g) (mhs mlv : Int32) (mca : Nat → Int32) : ∀ (k i n : Nat), i + k = 16 → k < n → f_X4_find_L7 (nI sz) mhs mlv mba mgi mca n (nI i) = some (ff sz mba mgi mca k i, mhs, mlv, mca)
  | 0, i, n, hi, hn => by
    obtain ⟨m, rfl⟩ : ∃ m, n = m + 1 := ⟨n - 1, by omega⟩
    obtain rfl : i = 16 := by omega
    rw [f_X4_find_L7.eq_2, if_pos (by decide)]; rfl
  | k + 1, i, n, hi, hn => by
    obtain ⟨m, rfl⟩ : ∃ m, n = m + 1 := ⟨n - 1, by omega⟩
    have hin : inR (nI i) 16 := inR_in (by decide) (by omega)
    have hcl : (nI i).toNatClampNeg = i := nI_clamp (by omega)
    rw [f_X4_find_L7.eq_2, if_neg (show ¬ (16 : Int32) ≤ nI i from nI_ge (b := 16) (by omega) (by decide)), h.isOpenM (by omega), Option.bind_some, ff, sg, blk]
    simp only [jn_p, nI_1, hcl, h.find_eq mhs mlv mca k (i + 1) m (by omega) (by omega)]
    simp only [gd_t hin]
    cases ho : opn sz mba i
    · rw [if_pos b01_f, Bool.false_and, Bool.false_and, if_neg (show ¬ (false = true) from by decide)]
    · rw [if_neg (show ¬ b01 true = 0 from one_ne0), Bool.true_and]
      by_cases hg : mgi i = 0
      · rw [if_pos hg, decide_eq_true hg, Bool.true_and]
        by_cases h0 : f_X4_isSingle (mca i) = 0
        · rw [if_pos h0, decide_eq_true h0, Bool.not_true, if_neg (show ¬ (false = true) from by decide)]
        · rw [if_neg h0, decide_eq_false h0, Bool.not_false, if_pos rfl]
      · rw [if_neg hg, decide_eq_false hg, Bool.false_and, if_neg (show ¬ (false = true) from by decide)]
end SETS
