/-! the cells without a digit, in a row -/
def bp (P : Nat → Bool) : Nat → List Nat
  | 0 => []
  | i + 1 => bp P i ++ (if P i then [i] else [])
theorem bp_len (P : Nat → Bool) : ∀ i, (bp P i).length ≤ i
  | 0 => Nat.le_refl _
  | i + 1 => by
    have := bp_len P i
    unfold bp
    rw [List.length_append]
    split <;> simp <;> omega
theorem bp_cnt (P : Nat → Bool) : ∀ i, (bp P i).length = cnt P 0 i := by
  have key : ∀ k i, cnt P i (k + 1) = cnt P i k + (if P (i + k) then 1 else 0) := by
    intro k
    induction k with
    | zero => intro i; rw [cnt.eq_2, cnt.eq_1, cnt.eq_1, Nat.add_zero, Nat.zero_add, Nat.add_zero]
    | succ k ih =>
      intro i
      rw [cnt.eq_2, ih (i + 1), cnt.eq_2, show i + 1 + k = i + (k + 1) by omega]
      omega
  intro i
  induction i with
  | zero => rfl
  | succ i ih =>
    rw [bp, List.length_append, ih, key, Nat.zero_add]
    congr 1
    split <;> rfl
theorem bp_mem (P : Nat → Bool) : ∀ (i c : Nat), c ∈ bp P i ↔ c < i ∧ P c = true
  | 0, c => by simp [bp]
  | i + 1, c => by
    rw [bp, List.mem_append, bp_mem P i c]
    by_cases h : P i = true
    · rw [if_pos h, List.mem_singleton]
      constructor
      · rintro (⟨h1, h2⟩ | rfl)
        · exact ⟨by omega, h2⟩
        · exact ⟨by omega, h⟩
      · rintro ⟨h1, h2⟩
        by_cases hq : c = i
        · exact Or.inr hq
        · exact Or.inl ⟨by omega, h2⟩
    · rw [if_neg h]
      constructor
      · rintro (⟨h1, h2⟩ | h1)
        · exact ⟨by omega, h2⟩
        · cases h1
      · rintro ⟨h1, h2⟩
        by_cases hq : c = i
        · subst hq; exact absurd h2 h
        · exact Or.inl ⟨by omega, h2⟩
theorem bp_inj (P : Nat → Bool) : ∀ (i q q' c : Nat), (bp P i)[q]? = some c → (bp P i)[q']? = some c → q = q'
  | 0, q, q', c, h, _ => by simp [bp] at h
  | i + 1, q, q', c, h, h' => by
    rw [bp] at h h'
    by_cases hp : P i = true
    · rw [if_pos hp] at h h'
      have hnot : i ∉ bp P i := fun hm => by have := ((bp_mem P i i).mp hm).1; omega
      by_cases h1 : q < (bp P i).length <;> by_cases h2 : q' < (bp P i).length
      · rw [List.getElem?_append_left h1] at h
        rw [List.getElem?_append_left h2] at h'
        exact bp_inj P i q q' c h h'
      · rw [List.getElem?_append_left h1] at h
        rw [List.getElem?_append_right (by omega)] at h'
        have hz := (List.getElem?_eq_some_iff.mp h').1
        simp only [List.length_cons, List.length_nil] at hz
        rw [show q' - (bp P i).length = 0 by omega] at h'
        cases h'
        exact absurd (List.mem_of_getElem? h) hnot
      · rw [List.getElem?_append_right (by omega)] at h
        rw [List.getElem?_append_left h2] at h'
        have hz := (List.getElem?_eq_some_iff.mp h).1
        simp only [List.length_cons, List.length_nil] at hz
        rw [show q - (bp P i).length = 0 by omega] at h
        cases h
        exact absurd (List.mem_of_getElem? h') hnot
      · rw [List.getElem?_append_right (by omega)] at h h'
        have hz := (List.getElem?_eq_some_iff.mp h).1
        have hz' := (List.getElem?_eq_some_iff.mp h').1
        simp only [List.length_cons, List.length_nil] at hz hz'
        omega
    · rw [if_neg hp, List.append_nil] at h h'
      exact bp_inj P i q q' c h h'
def BL (B : List Nat) (bc : Int32) (bl : Nat → Int32) : Prop := bc = nI B.length ∧ ∀ (q c : Nat), B[q]? = some c → bl q = nI c
theorem BL_snoc {B : List Nat} {bc : Int32} {bl : Nat → Int32} (h : BL B bc bl) (c : Nat) : BL (B ++ [c]) (nI (B.length + 1)) (upd bl B.length (nI c)) := by
  refine ⟨by rw [List.length_append]; rfl, fun q x hq => ?_⟩
  by_cases h1 : q < B.length
  · rw [List.getElem?_append_left h1] at hq
    rw [upd_ne _ _ (by omega)]
    exact h.2 q x hq
  · rw [List.getElem?_append_right (by omega)] at hq
    have hz := (List.getElem?_eq_some_iff.mp hq).1
    simp only [List.length_cons, List.length_nil] at hz
    rw [show q - B.length = 0 by omega] at hq
    cases hq
    rw [show q = B.length by omega, upd_eq]
section START
variable {sz : Nat} {mba mgi g : Nat → Int32}
theorem Cells.given (h : Cells sz mba mgi g) {c : Nat} (hc : c < 16) : (if opn sz mba c = true then g c else 0) = mgi c := by
  obtain ⟨h1, ⟨d, hd, h2⟩, h3, h4, h5⟩ := h.2 c hc
  cases ho : opn sz mba c
  · rw [if_neg (by decide)]
    rcases h1 with q | q
    · have : isC sz c = false := by simpa [opn, q] using ho
      exact (h4 this).symm
    · exact (h3 q).1.symm
  · rw [if_pos rfl, h5, if_neg]
    simp only [opn, Bool.and_eq_true, decide_eq_true_eq] at ho
    rw [ho.2]; decide
theorem Cells.start_L (h : Cells sz mba mgi g) : ∀ (k i n : Nat) (bc : Int32) (bl td fi : Nat → Int32), i + k = 16 → k < n → BL (bp (blk sz mba mgi) i) bc bl → (∀ c, c < i → td c = 0 ∧ fi c = mgi c) →
    ∃ bc' bl' td' fi', f_X2_start_L7 (nI sz) g n (nI i) bc bl td fi = some (bc', bl', td', fi') ∧ BL (bp (blk sz mba mgi) 16) bc' bl' ∧ ∀ c, c < 16 → td' c = 0 ∧ fi' c = mgi c
  | 0, i, n, bc, bl, td, fi, hi, hn, hb, hf => by
    obtain ⟨m, rfl⟩ : ∃ m, n = m + 1 := ⟨n - 1, by omega⟩
    obtain rfl : i = 16 := by omega
    rw [f_X2_start_L7.eq_2, if_pos (by decide)]
    exact ⟨bc, bl, td, fi, rfl, hb, hf⟩
  | k + 1, i, n, bc, bl, td, fi, hi, hn, hb, hf => by
    obtain ⟨m, rfl⟩ : ∃ m, n = m + 1 := ⟨n - 1, by omega⟩
    have hi16 : i < 16 := by omega
    have hlen := bp_len (blk sz mba mgi) i
    rw [f_X2_start_L7.eq_2, if_neg (show ¬ (16 : Int32) ≤ nI i from nI_ge (b := 16) (by omega) (by decide)), h.isOpen hi16, h.isBlank hi16]
    simp only [jn, f_X0_givenAt, at_in g (by decide) hi16, put_in _ _ (show 16 < 2 ^ 31 by decide) hi16, nI_1]
    have hgv := h.given hi16
    have hf' : ∀ v : Int32, v = mgi i → ∀ c, c < i + 1 → upd td i 0 c = 0 ∧ upd fi i v c = mgi c := by
      intro v hv c hc
      by_cases hq : c = i
      · subst hq; rw [upd_eq, upd_eq]; exact ⟨rfl, hv⟩
      · rw [upd_ne _ _ hq, upd_ne _ _ hq]; exact hf c (by omega)
    have hb' : ∀ v : Int32, v = mgi i → ∃ bc' bl' td' fi', (if b01 (blk sz mba mgi i) = 0 then f_X2_start_L7 (nI sz) g m (nI (i + 1)) bc bl (upd td i 0) (upd fi i v) else f_X2_start_L7 (nI sz) g m (nI (i + 1)) (bc + 1) (f_X3_put 16 bl bc (nI i)) (upd td i 0) (upd fi i v)) = some (bc', bl', td', fi') ∧ BL (bp (blk sz mba mgi) 16) bc' bl' ∧ ∀ c, c < 16 → td' c = 0 ∧ fi' c = mgi c := by
      intro v hv
      cases hbk : blk sz mba mgi i
      · rw [if_pos (show b01 false = 0 from rfl)]
        exact h.start_L k (i + 1) m bc bl _ _ (by omega) (by omega) (by rw [bp, hbk, if_neg (by decide), List.append_nil]; exact hb) (hf' v hv)
      · rw [if_neg (by decide), hb.1, put_in _ _ (by decide) (by omega), nI_1]
        exact h.start_L k (i + 1) m _ _ _ _ (by omega) (by omega) (by rw [bp, hbk, if_pos rfl]; exact BL_snoc hb i) (hf' v hv)
    cases ho : opn sz mba i
    · rw [ho, if_neg (by decide)] at hgv
      rw [if_pos (show b01 false = 0 from rfl)]
      exact hb' 0 hgv
    · rw [ho, if_pos rfl] at hgv
      rw [if_neg (by decide)]
      exact hb' _ hgv
theorem Cells.start (h : Cells sz mba mgi g) {N : Nat} (hN : 16 < N) (bc : Int32) (bl td fi : Nat → Int32) : ∃ bc' bl' td' fi', f_X2_start N (nI sz) g bc bl td fi = some (bc', bl', td', fi') ∧ BL (bp (blk sz mba mgi) 16) bc' bl' ∧ ∀ c, c < 16 → td' c = 0 ∧ fi' c = mgi c := by
  rw [f_X2_start]
  exact h.start_L 16 0 N 0 bl td fi (by omega) hN ⟨rfl, fun q c hq => by simp [bp] at hq⟩ (fun c hc => by omega)
theorem Cells.lay_L (h : Cells sz mba mgi g) (d : Nat → Int32) : ∀ (k i n : Nat) (bc : Int32) (bl : Nat → Int32), i + k = 16 → k < n → BL (bp (blk sz mba mgi) i) bc bl →
    ∃ bc' bl', f_X4_layTried_L11 (nI sz) mba mgi d n (nI i) bc bl = some (bc', bl', d) ∧ BL (bp (blk sz mba mgi) 16) bc' bl'
  | 0, i, n, bc, bl, hi, hn, hb => by
    obtain ⟨m, rfl⟩ : ∃ m, n = m + 1 := ⟨n - 1, by omega⟩
    obtain rfl : i = 16 := by omega
    rw [f_X4_layTried_L11.eq_2, if_pos (by decide)]
    exact ⟨bc, bl, rfl, hb⟩
  | k + 1, i, n, bc, bl, hi, hn, hb => by
    obtain ⟨m, rfl⟩ : ∃ m, n = m + 1 := ⟨n - 1, by omega⟩
    have hi16 : i < 16 := by omega
    have hlen := bp_len (blk sz mba mgi) i
    have hin : inR (nI i) 16 := inR_in (by decide) hi16
    have hin2 : inR (nI (bp (blk sz mba mgi) i).length) 16 := inR_in (by decide) (by omega)
    rw [f_X4_layTried_L11.eq_2, if_neg (show ¬ (16 : Int32) ≤ nI i from nI_ge (b := 16) (by omega) (by decide)), h.isOpenM hi16, hb.1]
    simp only [jn, Option.bind_some, nI_1, gd, if_pos hin, if_pos hin2, nI_clamp (show i < 2 ^ 31 by omega), nI_clamp (show (bp (blk sz mba mgi) i).length < 2 ^ 31 by omega)]
    have hno : blk sz mba mgi i = false → ∃ bc' bl', f_X4_layTried_L11 (nI sz) mba mgi d m (nI (i + 1)) (nI (bp (blk sz mba mgi) i).length) bl = some (bc', bl', d) ∧ BL (bp (blk sz mba mgi) 16) bc' bl' := by
      intro hbk
      exact h.lay_L d k (i + 1) m _ bl (by omega) (by omega) (by rw [bp, hbk, if_neg (by decide), List.append_nil]; exact ⟨rfl, hb.2⟩)
    cases ho : opn sz mba i
    · rw [if_pos (show b01 false = 0 from rfl)]
      exact hno (by simp [blk, ho])
    · rw [if_neg (by decide)]
      by_cases h0 : mgi i = 0
      · rw [if_pos h0]
        exact h.lay_L d k (i + 1) m _ _ (by omega) (by omega) (by rw [bp, show blk sz mba mgi i = true by simp [blk, ho, h0], if_pos rfl]; exact BL_snoc hb i)
      · rw [if_neg h0]
        exact hno (by simp [blk, h0])
theorem Cells.lay (h : Cells sz mba mgi g) {N : Nat} (hN : 16 < N) (bc : Int32) (bl d : Nat → Int32) : ∃ bc' bl' d', f_X4_layTried N (nI sz) bc mba mgi bl d = some (bc', bl', d') ∧ BL (bp (blk sz mba mgi) 16) bc' bl' ∧ ∀ c, c < 16 → d' c = mgi c := by
  obtain ⟨d', e, hd⟩ := copyGiven_eq mgi d hN
  rw [f_X4_layTried, e]
  obtain ⟨bc', bl', e2, hb⟩ := h.lay_L d' 16 0 N 0 bl (by omega) hN ⟨rfl, fun q c hq => by simp [bp] at hq⟩
  exact ⟨bc', bl', d', e2, hb, hd⟩
end START
/-! answers that are kept -/
theorem keepC_L (fi : Nat → Int32) : ∀ (k i n : Nat) (fa : Nat → Int32), i + k = 16 → k < n → (∀ c, c < i → fa c = fi c) → ∃ fa', f_X2_keepFirstAnswer_L2 fi n (nI i) fa = some fa' ∧ ∀ c, c < 16 → fa' c = fi c
  | 0, i, n, fa, hi, hn, hf => by
    obtain ⟨m, rfl⟩ : ∃ m, n = m + 1 := ⟨n - 1, by omega⟩
    obtain rfl : i = 16 := by omega
    rw [f_X2_keepFirstAnswer_L2.eq_2, if_pos (by decide)]
    exact ⟨fa, rfl, hf⟩
  | k + 1, i, n, fa, hi, hn, hf => by
    obtain ⟨m, rfl⟩ : ∃ m, n = m + 1 := ⟨n - 1, by omega⟩
    rw [f_X2_keepFirstAnswer_L2.eq_2, if_neg (show ¬ (16 : Int32) ≤ nI i from nI_ge (b := 16) (by omega) (by decide)), nI_1, put_in _ _ (by decide) (by omega), at_in _ (by decide) (by omega)]
    refine keepC_L fi k (i + 1) m _ (by omega) (by omega) fun c hc => ?_
    by_cases h : c = i
    · rw [h, upd_eq]
    · rw [upd_ne _ _ h]; exact hf c (by omega)
theorem keepC_eq (fi fa : Nat → Int32) {N : Nat} (hN : 16 < N) : ∃ fa', f_X2_keepFirstAnswer N fi fa = some fa' ∧ ∀ c, c < 16 → fa' c = fi c := by
  rw [f_X2_keepFirstAnswer]
  exact keepC_L fi 16 0 N fa (by omega) hN (fun c hc => by omega)
theorem keep1_L (mdf : Int32) (d : Nat → Int32) : ∀ (k i n : Nat) (fa : Nat → Int32), i + k = 16 → k < n → (∀ c, c < i → fa c = d c) → ∃ fa', f_X4_keep_L47 1 mdf d n (nI i) fa = some (mdf, fa') ∧ ∀ c, c < 16 → fa' c = d c
  | 0, i, n, fa, hi, hn, hf => by
    obtain ⟨m, rfl⟩ : ∃ m, n = m + 1 := ⟨n - 1, by omega⟩
    obtain rfl : i = 16 := by omega
    rw [f_X4_keep_L47.eq_2, if_pos (by decide)]
    exact ⟨fa, rfl, hf⟩
  | k + 1, i, n, fa, hi, hn, hf => by
    obtain ⟨m, rfl⟩ : ∃ m, n = m + 1 := ⟨n - 1, by omega⟩
    rw [f_X4_keep_L47.eq_2, if_neg (show ¬ (16 : Int32) ≤ nI i from nI_ge (b := 16) (by omega) (by decide)), if_pos rfl, gd_t (inR_in (by decide) (by omega)), gd_t (inR_in (by decide) (by omega)), nI_1, nI_clamp (by omega)]
    refine keep1_L mdf d k (i + 1) m _ (by omega) (by omega) fun c hc => ?_
    by_cases h : c = i
    · rw [h, upd_eq]
    · rw [upd_ne _ _ h]; exact hf c (by omega)
theorem keep1_eq (mdf : Int32) (d fa : Nat → Int32) {N : Nat} (hN : 16 < N) : ∃ fa', f_X4_keep N mdf d fa 1 = some (mdf, fa') ∧ ∀ c, c < 16 → fa' c = d c := by
  obtain ⟨m, rfl⟩ : ∃ m, N = m + 1 := ⟨N - 1, by omega⟩
  rw [f_X4_keep]
  simp only [jn]
  rw [f_X4_keep_L3.eq_2, if_neg (by decide), if_neg (by decide)]
  exact keep1_L mdf d 16 0 (m + 1) fa (by omega) hN (fun c hc => by omega)
theorem keep3_eq (mdf x : Int32) (d fa : Nat → Int32) {N : Nat} (hN : 16 < N) (h1 : x ≠ 1) (h2 : x ≠ 2) : f_X4_keep N mdf d fa x = some (mdf, fa) := by
  obtain ⟨m, rfl⟩ : ∃ m, N = m + 1 := ⟨N - 1, by omega⟩
  rw [f_X4_keep]
  simp only [jn]
  rw [f_X4_keep_L3.eq_2, if_neg (by decide), if_neg h2, f_X4_keep_L47.eq_2, if_neg (by decide), if_neg h1]
theorem nI_less (p : Nat) : nI (p + 1) + (-1) = nI p := by
  rw [← nI_1, Int32.add_assoc, show (1 : Int32) + (-1) = 0 from by decide, Int32.add_zero]
/-- the first cell in which two rows differ, from the cell i on downwards -/
theorem keep2_L (d fa : Nat → Int32) (kk : _) : ∀ (i n : Nat) (mdf : Int32), i < n → i ≤ 16 → ((∀ c, i ≤ c → c < 16 → d c = fa c) ∨ ∃ u, i ≤ u ∧ u < 16 ∧ ¬ d u = fa u ∧ (∀ c, i ≤ c → c < u → d c = fa c) ∧ mdf = nI u) →
    ∃ mdf', f_X4_keep_L3 2 d fa kk n (nI i + (-1)) mdf = kk mdf' ∧ ((∀ c, c < 16 → d c = fa c) ∨ ∃ u, u < 16 ∧ ¬ d u = fa u ∧ (∀ c, c < u → d c = fa c) ∧ mdf' = nI u)
  | 0, n, mdf, hn, h16, h => by
    obtain ⟨m, rfl⟩ : ∃ m, n = m + 1 := ⟨n - 1, by omega⟩
    rw [f_X4_keep_L3.eq_2, if_pos (by decide)]
    refine ⟨mdf, rfl, ?_⟩
    rcases h with h | ⟨u, h1, h2, h3, h4, h5⟩
    · exact Or.inl fun c hc => h c (Nat.zero_le _) hc
    · exact Or.inr ⟨u, h2, h3, fun c hc => h4 c (Nat.zero_le _) hc, h5⟩
  | i + 1, n, mdf, hn, h16, h => by
    obtain ⟨m, rfl⟩ : ∃ m, n = m + 1 := ⟨n - 1, by omega⟩
    have hin : inR (nI i) 16 := inR_in (by decide) (by omega)
    rw [nI_less, f_X4_keep_L3.eq_2, if_neg (nI_pos (by omega)), if_pos rfl, gd_t hin, gd_t hin, nI_clamp (by omega)]
    simp only [jn]
    by_cases hq : d i = fa i
    · rw [if_pos hq]
      refine keep2_L d fa kk i m mdf (by omega) (by omega) ?_
      rcases h with h | ⟨u, h1, h2, h3, h4, h5⟩
      · refine Or.inl fun c h1 h2 => ?_
        by_cases hc : c = i
        · rw [hc]; exact hq
        · exact h c (by omega) h2
      · refine Or.inr ⟨u, by omega, h2, h3, fun c q1 q2 => ?_, h5⟩
        by_cases hc : c = i
        · rw [hc]; exact hq
        · exact h4 c (by omega) q2
    · rw [if_neg hq]
      exact keep2_L d fa kk i m (nI i) (by omega) (by omega) (Or.inr ⟨i, Nat.le_refl _, by omega, hq, fun c q1 q2 => by omega, rfl⟩)
theorem keep2_eq (mdf : Int32) (d fa : Nat → Int32) {N : Nat} (hN : 16 < N) : ∃ mdf', f_X4_keep N mdf d fa 2 = some (mdf', fa) ∧ ((∀ c, c < 16 → d c = fa c) ∨ ∃ u, u < 16 ∧ ¬ d u = fa u ∧ (∀ c, c < u → d c = fa c) ∧ mdf' = nI u) := by
  obtain ⟨m, rfl⟩ : ∃ m, N = m + 1 := ⟨N - 1, by omega⟩
  rw [f_X4_keep]
  simp only [jn]
  obtain ⟨mdf', e, h⟩ := keep2_L d fa (fun mdf_45 => f_X4_keep_L47 2 mdf_45 d (m + 1) 0 fa) 16 (m + 1) mdf hN (Nat.le_refl _) (Or.inl fun c h1 h2 => by omega)
  refine ⟨mdf', ?_, h⟩
  rw [show (15 : Int32) = nI 16 + (-1) from by decide, e, f_X4_keep_L47.eq_2, if_neg (by decide), if_neg (by decide)]
theorem firstUnlike_L (d fa : Nat → Int32) {u : Nat} (hu : u < 16) (hne : ¬ fa u = d u) : ∀ (k i n : Nat), i + k = u → k < n → (∀ c, c < u → fa c = d c) → f_X2_firstUnlike_L2 d fa n (nI i) = some (nI u)
  | 0, i, n, hi, hn, h => by
    obtain ⟨m, rfl⟩ : ∃ m, n = m + 1 := ⟨n - 1, by omega⟩
    obtain rfl : i = u := by omega
    rw [f_X2_firstUnlike_L2.eq_2, if_neg (show ¬ (16 : Int32) ≤ nI i from nI_ge (b := 16) (by omega) (by decide)), at_in _ (by decide) hu, at_in _ (by decide) hu, if_neg hne]
  | k + 1, i, n, hi, hn, h => by
    obtain ⟨m, rfl⟩ : ∃ m, n = m + 1 := ⟨n - 1, by omega⟩
    rw [f_X2_firstUnlike_L2.eq_2, if_neg (show ¬ (16 : Int32) ≤ nI i from nI_ge (b := 16) (by omega) (by decide)), at_in _ (by decide) (by omega), at_in _ (by decide) (by omega), if_pos (h i (by omega)), nI_1]
    exact firstUnlike_L d fa hu hne k (i + 1) m (by omega) (by omega) h
