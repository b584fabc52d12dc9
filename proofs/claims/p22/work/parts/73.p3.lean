/-! all lines: the same runs on both sides -/
theorem scan_3 (o : Nat → Bool) (sz : Nat) : ∀ (k t len : Nat), 3 * (scan o sz k t len).length ≤ k + len
  | 0, t, len => by simp [scan]
  | k + 1, t, len => by
    by_cases h : t < sz ∧ o t = true
    · rw [scan_step_t h]
      have := scan_3 o sz k (t + 1) (len + 1)
      omega
    · rw [scan_step_f h]
      have := scan_3 o sz k (t + 1) 0
      by_cases h2 : 2 ≤ len
      · rw [if_pos h2, List.length_append]; simp only [List.length_cons, List.length_nil]; omega
      · rw [if_neg h2, List.nil_append]; omega
def lineA (sz i : Nat) : Nat := if i < sz then i * 4 else i - sz
def lineS (sz i : Nat) : Nat := if i < sz then 1 else 4
def lineB (sz i : Nat) : Nat := if i < sz then i * 4 else (i - sz) * 4
def lineRn (sz : Nat) (mba : Nat → Int32) (i : Nat) : Rn := items (lineA sz i) (lineS sz i) (scan (fun j => opn sz mba (lineA sz i + j * lineS sz i)) sz (sz + 1) 0 0)
def runsTo (sz : Nat) (mba : Nat → Int32) : Nat → Rn
  | 0 => []
  | k + 1 => runsTo sz mba k ++ lineRn sz mba k
theorem lineRn_len {sz : Nat} (h : sz ≤ 4) (mba : Nat → Int32) (i : Nat) : (lineRn sz mba i).length ≤ 1 := by
  have := scan_3 (fun j => opn sz mba (lineA sz i + j * lineS sz i)) sz (sz + 1) 0 0
  unfold lineRn items
  rw [List.length_map]
  omega
theorem runsTo_len {sz : Nat} (h : sz ≤ 4) (mba : Nat → Int32) : ∀ k, (runsTo sz mba k).length ≤ k
  | 0 => Nat.le_refl _
  | k + 1 => by
    unfold runsTo
    rw [List.length_append]
    have := runsTo_len h mba k
    have := lineRn_len h mba k
    omega
theorem line_isC {sz i j : Nat} (h : sz ≤ 4) (hi : i < 2 * sz) (hj : j < sz) : isC sz (lineA sz i + j * lineS sz i) = true := by
  unfold lineA lineS isC
  split <;> simp <;> omega
theorem line_key {sz i j : Nat} (h : sz ≤ 4) (hi : i < 2 * sz) (hj : j < sz) : keyS (lineS sz i) (lineA sz i + j * lineS sz i) = lineB sz i + j := by
  unfold lineA lineS lineB keyS
  split
  · simp
  · rw [if_neg (by decide)]; omega
theorem items_s {a s : Nat} {L : List (Nat × Nat)} {t : Nat × Nat × Nat} (h : t ∈ items a s L) : t.2.1 = s := by
  unfold items at h
  obtain ⟨q, -, rfl⟩ := List.mem_map.mp h
  rfl
theorem fill_L {v : Int32} {n : Nat} (hn : n < 2 ^ 31) : ∀ (k i m : Nat) (row : Nat → Int32), i + k = n → k < m → ∃ row' : Nat → Int32, f_J7_fill_53178_L5 v (nI n) n m (nI i) row = some row' ∧ (∀ j, i ≤ j → j < n → row' j = v) ∧ ∀ j, j < i → row' j = row j
  | 0, i, m, row, hi, hm => by
    obtain ⟨q, rfl⟩ : ∃ q, m = q + 1 := ⟨m - 1, by omega⟩
    obtain rfl : i = n := by omega
    rw [f_J7_fill_53178_L5.eq_2, if_pos (nI_le (Nat.le_refl _) hn)]
    exact ⟨row, rfl, fun j h1 h2 => by omega, fun j _ => rfl⟩
  | k + 1, i, m, row, hi, hm => by
    obtain ⟨q, rfl⟩ : ∃ q, m = q + 1 := ⟨m - 1, by omega⟩
    rw [f_J7_fill_53178_L5.eq_2, if_neg (nI_ge (by omega) hn), gd_t (inR_in hn (by omega)), nI_1, nI_clamp (by omega)]
    obtain ⟨row', e, h1, h2⟩ := fill_L hn k (i + 1) q (upd row i v) (by omega) (by omega)
    refine ⟨row', e, fun j hj hjn => ?_, fun j hj => ?_⟩
    · rcases Nat.lt_or_ge i j with h | h
      · exact h1 j h hjn
      · rw [h2 j (by omega), show j = i by omega, upd_eq]
    · rw [h2 j (by omega), upd_ne _ _ (by omega)]
theorem fill_eq {N n : Nat} (hn : n < 2 ^ 31) (hN : n < N) (row : Nat → Int32) (v : Int32) : ∃ row' : Nat → Int32, f_J7_fill_53178 N n row v = some row' ∧ ∀ j, j < n → row' j = v := by
  obtain ⟨row', e, h1, -⟩ := fill_L (v := v) hn n 0 N row (by omega) hN
  exact ⟨row', e, fun j hj => h1 j (Nat.zero_le _) hj⟩
section ALL
variable {sz : Nat} {mba mgi g : Nat → Int32}
/-- what stands behind i lines of the class -/
def LInv (sz : Nat) (mba : Nat → Int32) (i : Nat) (rc : Int32) (fs st ln rr cr : Nat → Int32) : Prop := RT (runsTo sz mba i) rc fs st ln ∧ RRel (runsTo sz mba i) rr cr ∧ VR sz mba (runsTo sz mba i) ∧ (i ≤ sz → KeyLt 1 (runsTo sz mba i) (i * 4) ∧ KeyLt 4 (runsTo sz mba i) 0) ∧ (sz ≤ i → KeyLt 4 (runsTo sz mba i) ((i - sz) * 4))
theorem line_inv (hC : Cells sz mba mgi g) {N i : Nat} (hN : 16 < N) (hi : i < 2 * sz) {rc : Int32} {fs st ln rr cr : Nat → Int32} (h : LInv sz mba i rc fs st ln rr cr) :
    ∃ x, f_X0_findRunsOfLine N (nI sz) rc g fs st ln rr cr (nI (lineA sz i)) (nI (lineS sz i)) = some x ∧ LInv sz mba (i + 1) x.1 x.2.1 x.2.2.1 x.2.2.2.1 x.2.2.2.2.1 x.2.2.2.2.2 := by
  have hsz := hC.1
  obtain ⟨h1, h2, h3, h4, h5⟩ := h
  have hlen := runsTo_len hsz.2 mba i
  have hl1 := lineRn_len hsz.2 mba i
  have hsc : (scan (fun j => opn sz mba (lineA sz i + j * lineS sz i)) sz (sz + 1) 0 0).length ≤ 1 := by
    have := hl1; unfold lineRn items at this; rwa [List.length_map] at this
  have hK : KeyLt (lineS sz i) (runsTo sz mba i) (lineB sz i + min (0 - 0) sz) := by
    by_cases hr : i < sz
    · have := (h4 (by omega)).1
      simp only [lineS, lineB, if_pos hr]
      simpa using this
    · have := h5 (by omega)
      simp only [lineS, lineB, if_neg hr]
      simpa using this
  obtain ⟨x, hx, x1, x2, x3, x4⟩ := line_cls hC hN (by unfold lineS; split <;> simp) (fun j hj => line_isC hsz.2 hi hj) (fun j hj => line_key hsz.2 hi hj) (sz + 1) 0 0 N (runsTo sz mba i) rc fs st ln rr cr (by omega) (by omega) (by omega) (by omega) (fun j hj => by omega) h1 h2 h3 hK (by omega)
  refine ⟨x, hx, x1, x2, x3, fun hi2 => ?_, fun hi2 => ?_⟩
  · have hr : i < sz := by omega
    obtain ⟨k1, k4⟩ := h4 (by omega)
    constructor
    · intro t ht hts c hc
      have e1 : lineS sz i = 1 := by simp [lineS, hr]
      have := x4 t ht (by rw [e1]; exact hts) c hc
      rw [e1] at this
      have e2 : lineB sz i = i * 4 := by simp [lineB, hr]
      omega
    · intro t ht hts c hc
      rcases List.mem_append.mp ht with q | q
      · exact k4 t q hts c hc
      · have := items_s q
        have e1 : lineS sz i = 1 := by simp [lineS, hr]
        omega
  · intro t ht hts c hc
    by_cases hr : i < sz
    · have hi3 : i + 1 = sz := by omega
      rcases List.mem_append.mp ht with q | q
      · have := (h4 (by omega)).2 t q hts c hc
        omega
      · have := items_s q
        have e1 : lineS sz i = 1 := by simp [lineS, hr]
        omega
    · have e1 : lineS sz i = 4 := by simp [lineS, hr]
      have := x4 t ht (by rw [e1]; exact hts) c hc
      rw [e1] at this
      have e2 : lineB sz i = (i - sz) * 4 := by simp [lineB, hr]
      omega
theorem rows_L (hC : Cells sz mba mgi g) {N : Nat} (hN : 16 < N) (k53 : Int32 → (Nat → Int32) → (Nat → Int32) → (Nat → Int32) → (Nat → Int32) → (Nat → Int32) → Option (Int32 × (Nat → Int32) × (Nat → Int32) × (Nat → Int32) × (Nat → Int32) × (Nat → Int32) × (Nat → Int32))) :
    ∀ (k i n : Nat) (rc : Int32) (fs st ln rr cr : Nat → Int32), i + k = sz → k < n → LInv sz mba i rc fs st ln rr cr → ∃ x : Int32 × (Nat → Int32) × (Nat → Int32) × (Nat → Int32) × (Nat → Int32) × (Nat → Int32), f_X0_findRuns_L31 N (nI sz) g k53 n (nI i) rc fs st ln rr cr = k53 x.1 x.2.1 x.2.2.1 x.2.2.2.1 x.2.2.2.2.1 x.2.2.2.2.2 ∧ LInv sz mba sz x.1 x.2.1 x.2.2.1 x.2.2.2.1 x.2.2.2.2.1 x.2.2.2.2.2
  | 0, i, n, rc, fs, st, ln, rr, cr, hi, hn, h => by
    obtain ⟨m, rfl⟩ : ∃ m, n = m + 1 := ⟨n - 1, by omega⟩
    have hsz := hC.1
    obtain rfl : i = sz := by omega
    rw [f_X0_findRuns_L31.eq_2, if_pos (nI_le (Nat.le_refl _) (by omega))]
    exact ⟨(rc, fs, st, ln, rr, cr), rfl, h⟩
  | k + 1, i, n, rc, fs, st, ln, rr, cr, hi, hn, h => by
    obtain ⟨m, rfl⟩ : ∃ m, n = m + 1 := ⟨n - 1, by omega⟩
    have hsz := hC.1
    rw [f_X0_findRuns_L31.eq_2, if_neg (nI_ge (by omega) (by omega))]
    obtain ⟨x, hx, hx2⟩ := line_inv hC hN (show i < 2 * sz by omega) h
    have eA : nI i * 4 = nI (lineA sz i) := by rw [show (4 : Int32) = nI 4 from rfl, nI_mul]; simp [lineA, show i < sz by omega]
    have eS : (1 : Int32) = nI (lineS sz i) := by simp [lineS, show i < sz by omega]; rfl
    rw [eA, eS, hx]
    simp only [Option.bind_some]
    rw [← eS, nI_1]
    exact rows_L hC hN k53 k (i + 1) m _ _ _ _ _ _ (by omega) (by omega) hx2
theorem cols_L (hC : Cells sz mba mgi g) {N : Nat} (hN : 16 < N) (su : Nat → Int32) :
    ∀ (k i n : Nat) (rc : Int32) (fs st ln rr cr : Nat → Int32), i + k = sz → k < n → LInv sz mba (sz + i) rc fs st ln rr cr → ∃ x : Int32 × (Nat → Int32) × (Nat → Int32) × (Nat → Int32) × (Nat → Int32) × (Nat → Int32), f_X0_findRuns_L55 N (nI sz) g su n (nI i) rc fs st ln rr cr = some (x.1, x.2.1, x.2.2.1, x.2.2.2.1, su, x.2.2.2.2.1, x.2.2.2.2.2) ∧ LInv sz mba (2 * sz) x.1 x.2.1 x.2.2.1 x.2.2.2.1 x.2.2.2.2.1 x.2.2.2.2.2
  | 0, i, n, rc, fs, st, ln, rr, cr, hi, hn, h => by
    obtain ⟨m, rfl⟩ : ∃ m, n = m + 1 := ⟨n - 1, by omega⟩
    have hsz := hC.1
    obtain rfl : i = sz := by omega
    rw [f_X0_findRuns_L55.eq_2, if_pos (nI_le (Nat.le_refl _) (by omega))]
    exact ⟨(rc, fs, st, ln, rr, cr), rfl, by rw [show 2 * i = i + i by omega]; exact h⟩
  | k + 1, i, n, rc, fs, st, ln, rr, cr, hi, hn, h => by
    obtain ⟨m, rfl⟩ : ∃ m, n = m + 1 := ⟨n - 1, by omega⟩
    have hsz := hC.1
    rw [f_X0_findRuns_L55.eq_2, if_neg (nI_ge (by omega) (by omega))]
    obtain ⟨x, hx, hx2⟩ := line_inv hC hN (show sz + i < 2 * sz by omega) h
    have eA : nI i = nI (lineA sz (sz + i)) := by simp [lineA, show ¬ sz + i < sz by omega]
    have eS : (4 : Int32) = nI (lineS sz (sz + i)) := by simp [lineS, show ¬ sz + i < sz by omega]; rfl
    rw [show f_X0_findRunsOfLine N (nI sz) rc g fs st ln rr cr (nI i) 4 = some x by rw [eA, eS]; exact hx]
    simp only [Option.bind_some]
    rw [nI_1]
    exact cols_L hC hN su k (i + 1) m _ _ _ _ _ _ (by omega) (by omega) hx2
theorem findRuns_eq (hC : Cells sz mba mgi g) {N : Nat} (hN : 16 < N) (rc : Int32) (fs st ln su rr cr : Nat → Int32) :
    ∃ x, f_X0_findRuns N (nI sz) rc g fs st ln su rr cr = some x ∧ LInv sz mba (2 * sz) x.1 x.2.1 x.2.2.1 x.2.2.2.1 x.2.2.2.2.2.1 x.2.2.2.2.2.2 ∧ ∀ r, r < 8 → x.2.2.2.2.1 r = 0 := by
  have hsz := hC.1
  unfold f_X0_findRuns
  obtain ⟨su', e1, f1⟩ := fill_eq (N := N) (n := 8) (by decide) (by omega) su 0
  obtain ⟨rr', e2, f2⟩ := fill_eq (N := N) (n := 16) (by decide) (by omega) rr (-1)
  obtain ⟨cr', e3, f3⟩ := fill_eq (N := N) (n := 16) (by decide) (by omega) cr (-1)
  rw [e1]; simp only [Option.bind_some]
  rw [e2]; simp only [Option.bind_some]
  rw [e3]; simp only [Option.bind_some, jn]
  have h0 : LInv sz mba 0 0 fs st ln rr' cr' := by
    refine ⟨⟨rfl, Nat.zero_le _, fun r t h => by simp [runsTo] at h⟩, ⟨fun r t c h => by simp [runsTo] at h, fun c hc => ⟨Or.inl (f2 c hc), Or.inl (f3 c hc)⟩⟩, fun t h => by simp [runsTo] at h, fun _ => ⟨fun t h => by simp [runsTo] at h, fun t h => by simp [runsTo] at h⟩, fun _ t h => by simp [runsTo] at h⟩
  obtain ⟨x, hx, hx2⟩ := rows_L hC hN (fun rc_53 fs_53 st_53 ln_53 rr_53 cr_53 => f_X0_findRuns_L55 N (nI sz) g su' N 0 rc_53 fs_53 st_53 ln_53 rr_53 cr_53) sz 0 N 0 fs st ln rr' cr' (by omega) (by omega) h0
  rw [show (nI 0) = (0 : Int32) from rfl] at hx
  rw [hx]
  obtain ⟨z, hz, hz2⟩ := cols_L hC hN su' sz 0 N x.1 x.2.1 x.2.2.1 x.2.2.2.1 x.2.2.2.2.1 x.2.2.2.2.2 (by omega) (by omega) (by rw [Nat.add_zero]; exact hx2)
  rw [show (nI 0) = (0 : Int32) from rfl] at hz
  exact ⟨_, hz, hz2, f1⟩
/-- the reference's lines -/
theorem layRuns_L (hC : Cells sz mba mgi g) {N : Nat} (hN : 16 < N) :
    ∀ (k i n : Nat) (rc : Int32) (fs ln st su : Nat → Int32), i + k = 2 * sz → k < n → RT (runsTo sz mba i) rc fs st ln → (∀ r, r < (runsTo sz mba i).length → su r = 0) → ∃ x : Int32 × (Nat → Int32) × (Nat → Int32) × (Nat → Int32) × (Nat → Int32), f_X4_layRuns_L7 N (nI sz) mba n (nI i) rc fs ln st su = some x ∧ RT (runsTo sz mba (2 * sz)) x.1 x.2.1 x.2.2.2.1 x.2.2.1 ∧ ∀ r, r < (runsTo sz mba (2 * sz)).length → x.2.2.2.2 r = 0
  | 0, i, n, rc, fs, ln, st, su, hi, hn, h1, h2 => by
    obtain ⟨m, rfl⟩ : ∃ m, n = m + 1 := ⟨n - 1, by omega⟩
    have hsz := hC.1
    obtain rfl : i = 2 * sz := by omega
    rw [f_X4_layRuns_L7.eq_2, show (2 : Int32) = nI 2 from rfl, nI_mul, if_pos (nI_le (Nat.le_refl _) (by omega))]
    exact ⟨_, rfl, h1, h2⟩
  | k + 1, i, n, rc, fs, ln, st, su, hi, hn, h1, h2 => by
    obtain ⟨m, rfl⟩ : ∃ m, n = m + 1 := ⟨n - 1, by omega⟩
    have hsz := hC.1
    rw [f_X4_layRuns_L7.eq_2, show (2 : Int32) = nI 2 from rfl, nI_mul, if_neg (nI_ge (by omega) (by omega))]
    simp only [jn]
    have hlen := runsTo_len hsz.2 mba i
    have hsc : (scan (fun j => opn sz mba (lineA sz i + j * lineS sz i)) sz (sz + 1) 0 0).length ≤ 1 := by
      have := lineRn_len hsz.2 mba i; unfold lineRn items at this; rwa [List.length_map] at this
    obtain ⟨x, hx, x1, x2⟩ := line_mod hC (a := lineA sz i) (s := lineS sz i) (fun j hj => line_isC hsz.2 (by omega) hj) (fun mrn_188 mfi_188 mle_188 mst_188 msu_188 => f_X4_layRuns_L7 N (nI sz) mba m (nI i + 1) mrn_188 mfi_188 mle_188 mst_188 msu_188) (sz + 1) 0 0 N (runsTo sz mba i) rc fs ln st su (by omega) (by omega) (by omega) h1 h2 (by omega)
    have hgo : (if nI sz ≤ nI i then (if nI sz ≤ nI i then f_X4_layRuns_L58 4 (nI i - nI sz) (nI sz) mba (fun mrn_188 mfi_188 mle_188 mst_188 msu_188 => f_X4_layRuns_L7 N (nI sz) mba m (nI i + 1) mrn_188 mfi_188 mle_188 mst_188 msu_188) N 0 0 rc fs ln st su else f_X4_layRuns_L58 4 (4 * nI i) (nI sz) mba (fun mrn_188 mfi_188 mle_188 mst_188 msu_188 => f_X4_layRuns_L7 N (nI sz) mba m (nI i + 1) mrn_188 mfi_188 mle_188 mst_188 msu_188) N 0 0 rc fs ln st su) else (if nI sz ≤ nI i then f_X4_layRuns_L58 1 (nI i - nI sz) (nI sz) mba (fun mrn_188 mfi_188 mle_188 mst_188 msu_188 => f_X4_layRuns_L7 N (nI sz) mba m (nI i + 1) mrn_188 mfi_188 mle_188 mst_188 msu_188) N 0 0 rc fs ln st su else f_X4_layRuns_L58 1 (4 * nI i) (nI sz) mba (fun mrn_188 mfi_188 mle_188 mst_188 msu_188 => f_X4_layRuns_L7 N (nI sz) mba m (nI i + 1) mrn_188 mfi_188 mle_188 mst_188 msu_188) N 0 0 rc fs ln st su)) = f_X4_layRuns_L58 (nI (lineS sz i)) (nI (lineA sz i)) (nI sz) mba (fun mrn_188 mfi_188 mle_188 mst_188 msu_188 => f_X4_layRuns_L7 N (nI sz) mba m (nI i + 1) mrn_188 mfi_188 mle_188 mst_188 msu_188) N (nI 0) (nI 0) rc fs ln st su := by
      by_cases hr : i < sz
      · have hn1 : ¬ nI sz ≤ nI i := nI_ge hr (by omega)
        rw [if_neg hn1, if_neg hn1, show (4 : Int32) = nI 4 from rfl, nI_mul]
        simp only [lineS, lineA, if_pos hr]
        rw [Nat.mul_comm 4 i]; rfl
      · have hn1 : nI sz ≤ nI i := nI_le (by omega) (by omega)
        rw [if_pos hn1, if_pos hn1, nI_sub (by omega)]
        simp only [lineS, lineA, if_neg hr]; rfl
    rw [hgo, hx, nI_1]
    exact layRuns_L hC hN k (i + 1) m _ _ _ _ _ (by omega) (by omega) x1 x2
theorem layRuns_eq (hC : Cells sz mba mgi g) {N : Nat} (hN : 16 < N) (rc : Int32) (fs ln st su : Nat → Int32) : ∃ x : Int32 × (Nat → Int32) × (Nat → Int32) × (Nat → Int32) × (Nat → Int32), f_X4_layRuns N (nI sz) rc mba fs ln st su = some x ∧ RT (runsTo sz mba (2 * sz)) x.1 x.2.1 x.2.2.2.1 x.2.2.1 ∧ ∀ r, r < (runsTo sz mba (2 * sz)).length → x.2.2.2.2 r = 0 := by
  have hsz := hC.1
  obtain ⟨x, hx, x1, x2⟩ := layRuns_L hC hN (2 * sz) 0 N 0 fs ln st su (by omega) (by omega) ⟨rfl, Nat.zero_le _, fun r t h => by simp [runsTo] at h⟩ (fun r h => by simp [runsTo] at h)
  exact ⟨x, hx, x1, x2⟩
end ALL
