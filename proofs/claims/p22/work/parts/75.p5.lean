/-! what is copied, and the press -/
theorem copyGiven_L (f : Nat → Int32) : ∀ (k i n : Nat) (d : Nat → Int32), i + k = 16 → k < n → (∀ c, c < i → d c = f c) → ∃ d', f_X4_copyGiven_L2 f n (nI i) d = some d' ∧ ∀ c, c < 16 → d' c = f c
  | 0, i, n, d, hi, hn, hd => by
    obtain ⟨m, rfl⟩ : ∃ m, n = m + 1 := ⟨n - 1, by omega⟩
    obtain rfl : i = 16 := by omega
    rw [f_X4_copyGiven_L2.eq_2, if_pos (by decide)]
    exact ⟨d, rfl, hd⟩
  | k + 1, i, n, d, hi, hn, hd => by
    obtain ⟨m, rfl⟩ : ∃ m, n = m + 1 := ⟨n - 1, by omega⟩
    rw [f_X4_copyGiven_L2.eq_2, if_neg (show ¬ (16 : Int32) ≤ nI i from nI_ge (b := 16) (by omega) (by decide)), gd_t (inR_in (by decide) (by omega)), gd_t (inR_in (by decide) (by omega)), nI_1, nI_clamp (by omega)]
    refine copyGiven_L f k (i + 1) m _ (by omega) (by omega) fun c hc => ?_
    by_cases h : c = i
    · rw [h, upd_eq]
    · rw [upd_ne _ _ h]; exact hd c (by omega)
theorem copyGiven_eq (f d : Nat → Int32) {N : Nat} (hN : 16 < N) : ∃ d', f_X4_copyGiven N f d = some d' ∧ ∀ c, c < 16 → d' c = f c := by
  rw [f_X4_copyGiven]
  exact copyGiven_L f 16 0 N d (by omega) hN (fun c hc => by omega)
theorem Cells.congr {sz : Nat} {mba mgi mgi' g : Nat → Int32} (h : Cells sz mba mgi g) (e : ∀ c, c < 16 → mgi c = mgi' c) : Cells sz mba mgi' g := by
  refine ⟨h.1, fun c hc => ?_⟩
  have := h.2 c hc
  rw [e c hc] at this
  exact this
theorem cnt_zero {P : Nat → Bool} : ∀ (k i : Nat), cnt P i k = 0 → ∀ c, i ≤ c → c < i + k → P c = false
  | 0, i, _, c, h1, h2 => by omega
  | k + 1, i, h, c, h1, h2 => by
    unfold cnt at h
    by_cases hc : c = i
    · subst hc
      cases hp : P c
      · rfl
      · rw [hp, if_pos rfl] at h; omega
    · exact cnt_zero k (i + 1) (by omega) c (by omega) (by omega)
section PRESS
variable {sz : Nat} {mba mgi g : Nat → Int32} {rs : Rn} {rc mrn : Int32} {fs st ln rr cr mfi mst mle : Nat → Int32}
theorem Cells.filled_L (h : Cells sz mba mgi g) (kk : _) : ∀ (k i n : Nat) (b : Bool), i + k = 16 → k < n → f_X4_press_L8 (nI sz) mba mgi kk n (b01 b) (nI i) = kk (b01 (b && decide (cnt (blk sz mba mgi) i k = 0)))
  | 0, i, n, b, hi, hn => by
    obtain ⟨m, rfl⟩ : ∃ m, n = m + 1 := ⟨n - 1, by omega⟩
    obtain rfl : i = 16 := by omega
    rw [f_X4_press_L8.eq_2, if_pos (by decide)]
    cases b <;> rfl
  | k + 1, i, n, b, hi, hn => by
    obtain ⟨m, rfl⟩ : ∃ m, n = m + 1 := ⟨n - 1, by omega⟩
    have ih0 : f_X4_press_L8 (nI sz) mba mgi kk m 0 (nI (i + 1)) = kk 0 := h.filled_L kk k (i + 1) m false (by omega) (by omega)
    have ih1 : f_X4_press_L8 (nI sz) mba mgi kk m 1 (nI (i + 1)) = kk (b01 (true && decide (cnt (blk sz mba mgi) (i + 1) k = 0))) := h.filled_L kk k (i + 1) m true (by omega) (by omega)
    rw [Bool.true_and] at ih1
    have hin : inR (nI i) 16 := inR_in (by decide) (by omega)
    rw [f_X4_press_L8.eq_2, if_neg (show ¬ (16 : Int32) ≤ nI i from nI_ge (b := 16) (by omega) (by decide)), h.isOpenM (by omega)]
    simp only [jn, Option.bind_some, nI_1, nI_clamp (show i < 2 ^ 31 by omega), ih0, ih1]
    rw [gd_t hin]
    cases b
    · rw [if_pos (show b01 false = 0 from rfl)]; rfl
    · rw [if_neg (by decide), Bool.true_and, cnt.eq_2]
      cases ho : opn sz mba i
      · rw [if_pos (show b01 false = 0 from rfl), show blk sz mba mgi i = false by simp [blk, ho]]; simp
      · rw [if_neg (by decide)]
        obtain ⟨-, ⟨d, hd, e⟩, -⟩ := h.2 i (by omega)
        by_cases h0 : d = 0
        · subst h0
          rw [e, if_pos (by decide), show blk sz mba mgi i = true by simp [blk, ho, e]; rfl, if_pos rfl]
          rw [show decide (1 + cnt (blk sz mba mgi) (i + 1) k = 0) = false by simp]; rfl
        · have hne : ¬ mgi i = 0 := by
            rw [e, show (0 : Int32) = nI 0 from rfl]
            intro q
            have q1 := nI_toInt (n := d) (by omega)
            rw [q, nI_toInt (by omega)] at q1
            omega
          rw [if_neg (by rw [e]; exact nI_ge (b := d) (a := 0) (by omega) (by omega)), show blk sz mba mgi i = false by simp [blk, hne]]; simp
def twA (rs : Rn) (D : Nat → Int32) : Nat → Nat → Bool
  | 0, _ => false
  | k + 1, i => (match rs[i]? with | some t => twc D t.1 t.2.1 t.2.2 0 0 | none => false) || twA rs D k (i + 1)
theorem twA_congr {D E : Nat → Int32} (h2 : ∀ (r : Nat) (t : Nat × Nat × Nat), rs[r]? = some t → ∀ j, j < t.2.2 → D (t.1 + j * t.2.1) = E (t.1 + j * t.2.1)) : ∀ (k i : Nat), i + k = rs.length → twA rs D k i = twA rs E k i
  | 0, _, _ => rfl
  | k + 1, i, hi => by
    unfold twA
    rw [twA_congr h2 k (i + 1) (by omega)]
    cases hr : rs[i]? with
    | none => rfl
    | some t =>
      simp only
      rw [twc_congr (E := E) t.2.2 0 0 (fun j _ hj => h2 i t hr j (by omega))]
theorem givesTwice_L (h : RT rs rc fs st ln) (hV : VR sz mba rs) {N : Nat} (hN : 16 < N) (D : Nat → Int32) : ∀ (k i n : Nat), i + k = rs.length → k < n → f_X0_givesTwice_L2 N rc D fs st ln n (nI i) = some (b01 (twA rs D k i))
  | 0, i, n, hi, hn => by
    obtain ⟨m, rfl⟩ : ∃ m, n = m + 1 := ⟨n - 1, by omega⟩
    have := h.2.1
    rw [f_X0_givesTwice_L2.eq_2, h.1, if_pos (nI_le (by omega) (by omega))]; rfl
  | k + 1, i, n, hi, hn => by
    obtain ⟨m, rfl⟩ : ∃ m, n = m + 1 := ⟨n - 1, by omega⟩
    have h8 := h.2.1
    obtain ⟨t, hr⟩ : ∃ t, rs[i]? = some t := ⟨_, List.getElem?_eq_getElem (by omega)⟩
    rw [f_X0_givesTwice_L2.eq_2, if_neg (by rw [h.1]; exact nI_ge (by omega) (by omega)), hasTwice_eq h hV hN hr, nI_1, givesTwice_L h hV hN D k (i + 1) m (by omega) (by omega), twA.eq_2, hr]
    simp only [Option.bind_some]
    cases htw : twc D t.1 t.2.1 t.2.2 0 0
    · rw [if_pos (show b01 false = 0 from rfl), Bool.false_or]
    · rw [if_neg (by decide)]; rfl
theorem twiceM_L (h : RT rs mrn mfi mst mle) (hV : VR sz mba rs) {N : Nat} (hN : 16 < N) (D : Nat → Int32) (kk : _) : ∀ (k i n : Nat) (b : Bool), i + k = rs.length → k < n → f_X4_press_L49 N mrn mfi mle mst D kk n (b01 b) (nI i) = kk (b01 (b && !twA rs D k i))
  | 0, i, n, b, hi, hn => by
    obtain ⟨m, rfl⟩ : ∃ m, n = m + 1 := ⟨n - 1, by omega⟩
    have := h.2.1
    rw [f_X4_press_L49.eq_2, h.1, if_pos (nI_le (by omega) (by omega))]
    cases b <;> rfl
  | k + 1, i, n, b, hi, hn => by
    obtain ⟨m, rfl⟩ : ∃ m, n = m + 1 := ⟨n - 1, by omega⟩
    have h8 := h.2.1
    obtain ⟨t, hr⟩ : ∃ t, rs[i]? = some t := ⟨_, List.getElem?_eq_getElem (by omega)⟩
    have ih0 : f_X4_press_L49 N mrn mfi mle mst D kk m 0 (nI (i + 1)) = kk 0 := twiceM_L h hV hN D kk k (i + 1) m false (by omega) (by omega)
    have ih1 : f_X4_press_L49 N mrn mfi mle mst D kk m 1 (nI (i + 1)) = kk (b01 (true && !twA rs D k (i + 1))) := twiceM_L h hV hN D kk k (i + 1) m true (by omega) (by omega)
    rw [f_X4_press_L49.eq_2, if_neg (by rw [h.1]; exact nI_ge (by omega) (by omega)), isUnlike_eq h hV hN hr]
    simp only [jn, Option.bind_some, nI_1, ih0, ih1]
    rw [twA.eq_2, hr]
    cases b
    · rw [if_pos (show b01 false = 0 from rfl)]; rfl
    · rw [if_neg (by decide)]
      simp only
      cases htw : twc D t.1 t.2.1 t.2.2 0 0
      · rw [if_neg (by decide)]; rfl
      · rw [if_pos (show b01 (!true) = 0 from rfl)]; rfl
theorem sums_L (h : RT rs rc fs st ln) (hV : VR sz mba rs) {N : Nat} (hN : 16 < N) (D : Nat → Int32) (kk : _) : ∀ (k i n : Nat) (su : Nat → Int32), i + k = rs.length → k < n → ∃ su' : Nat → Int32, f_X0_sumAndEmpty_L2 N rc D fs st ln kk n (nI i) su = kk su' ∧ (∀ r, r < i → su' r = su r) ∧ ∀ (r : Nat) (t : Nat × Nat × Nat), i ≤ r → rs[r]? = some t → su' r = tot D t.1 t.2.1 t.2.2 0 0
  | 0, i, n, su, hi, hn => by
    obtain ⟨m, rfl⟩ : ∃ m, n = m + 1 := ⟨n - 1, by omega⟩
    have := h.2.1
    rw [f_X0_sumAndEmpty_L2.eq_2, h.1, if_pos (nI_le (by omega) (by omega))]
    exact ⟨su, rfl, fun _ _ => rfl, fun r t h1 h2 => by have := (List.getElem?_eq_some_iff.mp h2).1; omega⟩
  | k + 1, i, n, su, hi, hn => by
    obtain ⟨m, rfl⟩ : ∃ m, n = m + 1 := ⟨n - 1, by omega⟩
    have h8 := h.2.1
    obtain ⟨t, hr⟩ : ∃ t, rs[i]? = some t := ⟨_, List.getElem?_eq_getElem (by omega)⟩
    rw [f_X0_sumAndEmpty_L2.eq_2, if_neg (by rw [h.1]; exact nI_ge (by omega) (by omega)), totalOf_eq h hV hN hr, nI_1]
    simp only [Option.bind_some]
    rw [put_in _ _ (by decide) (by omega)]
    obtain ⟨su', e, h1, h2⟩ := sums_L h hV hN D kk k (i + 1) m (upd su i (tot D t.1 t.2.1 t.2.2 0 0)) (by omega) (by omega)
    refine ⟨su', e, fun r hr' => ?_, fun r t' hi' hr' => ?_⟩
    · rw [h1 r (by omega), upd_ne _ _ (by omega)]
    · by_cases hq : r = i
      · subst hq
        rw [hr] at hr'; cases hr'
        rw [h1 r (by omega), upd_eq]
      · exact h2 r t' (by omega) hr'
theorem sumsM_L (h : RT rs mrn mfi mst mle) (hV : VR sz mba rs) {N : Nat} (hN : 16 < N) (D : Nat → Int32) (kk : _) : ∀ (k i n : Nat) (su : Nat → Int32), i + k = rs.length → k < n → ∃ su' : Nat → Int32, f_X4_press_L101 N mrn mfi mle mst D kk n (nI i) su = kk su' ∧ (∀ r, r < i → su' r = su r) ∧ ∀ (r : Nat) (t : Nat × Nat × Nat), i ≤ r → rs[r]? = some t → su' r = tot D t.1 t.2.1 t.2.2 0 0
  | 0, i, n, su, hi, hn => by
    obtain ⟨m, rfl⟩ : ∃ m, n = m + 1 := ⟨n - 1, by omega⟩
    have := h.2.1
    rw [f_X4_press_L101.eq_2, h.1, if_pos (nI_le (by omega) (by omega))]
    exact ⟨su, rfl, fun _ _ => rfl, fun r t h1 h2 => by have := (List.getElem?_eq_some_iff.mp h2).1; omega⟩
  | k + 1, i, n, su, hi, hn => by
    obtain ⟨m, rfl⟩ : ∃ m, n = m + 1 := ⟨n - 1, by omega⟩
    have h8 := h.2.1
    obtain ⟨t, hr⟩ : ∃ t, rs[i]? = some t := ⟨_, List.getElem?_eq_getElem (by omega)⟩
    rw [f_X4_press_L101.eq_2, if_neg (by rw [h.1]; exact nI_ge (by omega) (by omega)), sumUp_eq h hV hN hr, nI_1]
    simp only [Option.bind_some]
    rw [gd_t (inR_in (by decide) (by omega)), nI_clamp (by omega)]
    obtain ⟨su', e, h1, h2⟩ := sumsM_L h hV hN D kk k (i + 1) m (upd su i (tot D t.1 t.2.1 t.2.2 0 0)) (by omega) (by omega)
    refine ⟨su', e, fun r hr' => ?_, fun r t' hi' hr' => ?_⟩
    · rw [h1 r (by omega), upd_ne _ _ (by omega)]
    · by_cases hq : r = i
      · subst hq
        rw [hr] at hr'; cases hr'
        rw [h1 r (by omega), upd_eq]
      · exact h2 r t' (by omega) hr'
theorem emptyM_L (mth mrn : Int32) (msu d : Nat → Int32) : ∀ (k i n : Nat) (f : Nat → Int32), i + k = 16 → k < n → (∀ c, c < i → f c = 0) → ∃ f' : Nat → Int32, f_X4_press_L128 mth mrn msu d n (nI i) f = some (mrn, mth, f', msu, d) ∧ ∀ c, c < 16 → f' c = 0
  | 0, i, n, f, hi, hn, hf => by
    obtain ⟨m, rfl⟩ : ∃ m, n = m + 1 := ⟨n - 1, by omega⟩
    obtain rfl : i = 16 := by omega
    rw [f_X4_press_L128.eq_2, if_pos (by decide)]
    exact ⟨f, rfl, hf⟩
  | k + 1, i, n, f, hi, hn, hf => by
    obtain ⟨m, rfl⟩ : ∃ m, n = m + 1 := ⟨n - 1, by omega⟩
    rw [f_X4_press_L128.eq_2, if_neg (show ¬ (16 : Int32) ≤ nI i from nI_ge (b := 16) (by omega) (by decide)), gd_t (inR_in (by decide) (by omega)), nI_1, nI_clamp (by omega)]
    refine emptyM_L mth mrn msu d k (i + 1) m _ (by omega) (by omega) fun c hc => ?_
    by_cases h : c = i
    · rw [h, upd_eq]
    · rw [upd_ne _ _ h]; exact hf c (by omega)
theorem empty_L (su : Nat → Int32) : ∀ (k i n : Nat) (g : Nat → Int32), i + k = 16 → k < n → Cells sz mba (fun c => if c < i then 0 else mgi c) g → ∃ g' : Nat → Int32, f_X0_sumAndEmpty_L35 (nI sz) su n (nI i) g = some (g', su) ∧ Cells sz mba (fun _ => 0) g'
  | 0, i, n, g, hi, hn, h => by
    obtain ⟨m, rfl⟩ : ∃ m, n = m + 1 := ⟨n - 1, by omega⟩
    obtain rfl : i = 16 := by omega
    rw [f_X0_sumAndEmpty_L35.eq_2, if_pos (by decide)]
    exact ⟨g, rfl, h.congr fun c hc => if_pos hc⟩
  | k + 1, i, n, g, hi, hn, h => by
    obtain ⟨m, rfl⟩ : ∃ m, n = m + 1 := ⟨n - 1, by omega⟩
    rw [f_X0_sumAndEmpty_L35.eq_2, if_neg (show ¬ (16 : Int32) ≤ nI i from nI_ge (b := 16) (by omega) (by decide)), h.isOpen (by omega), nI_1]
    simp only [jn]
    obtain ⟨h1, h2, h3, h4, h5⟩ := h.2 i (by omega)
    dsimp only at h3 h4 h5
    rw [if_neg (Nat.lt_irrefl i)] at h3 h4 h5
    cases ho : opn sz mba i
    · rw [if_pos (show b01 false = 0 from rfl)]
      refine empty_L su k (i + 1) m g (by omega) (by omega) (h.congr fun c hc => ?_)
      by_cases hq : c = i
      · subst hq
        rw [if_neg (Nat.lt_irrefl c), if_pos (Nat.lt_succ_self c)]
        rcases h1 with q | q
        · have : isC sz c = false := by simpa [opn, q] using ho
          exact h4 this
        · exact (h3 q).1
      · by_cases hq2 : c < i
        · rw [if_pos hq2, if_pos (by omega)]
        · rw [if_neg hq2, if_neg (by omega)]
    · rw [if_neg (by decide), put_in _ _ (by decide) (by omega)]
      have hm : mba i = 0 := by simp only [opn, Bool.and_eq_true, decide_eq_true_eq] at ho; exact ho.2
      refine empty_L su k (i + 1) m _ (by omega) (by omega) ⟨h.1, fun c hc => ?_⟩
      dsimp only
      by_cases hq : c = i
      · subst hq
        rw [upd_eq, if_pos (Nat.lt_succ_self c), if_neg (by rw [hm]; decide)]
        exact ⟨h1, ⟨0, by omega, rfl⟩, fun q => by rw [hm] at q; exact absurd q (by decide), fun _ => rfl, rfl⟩
      · have := h.2 c hc
        dsimp only at this
        rw [upd_ne _ _ hq]
        by_cases hq2 : c < i
        · rw [if_pos (show c < i + 1 by omega)]; rwa [if_pos hq2] at this
        · rw [if_neg (show ¬ c < i + 1 by omega)]; rwa [if_neg hq2] at this
end PRESS
