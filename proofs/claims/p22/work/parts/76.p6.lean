/-! whether a digit is good in a cell -/
theorem nI_inj {a b : Nat} (ha : a < 2 ^ 31) (hb : b < 2 ^ 31) : nI a = nI b ↔ a = b := by
  refine ⟨fun h => ?_, fun h => by rw [h]⟩
  have h1 := nI_toInt ha
  rw [h, nI_toInt hb] at h1
  omega
theorem nI_zero {d : Nat} (hd : d ≤ 9) : nI d = 0 ↔ d = 0 := nI_inj (b := 0) (by omega) (by omega)
theorem nI_le0 {d : Nat} (hd : d ≤ 9) : nI d ≤ 0 ↔ d = 0 := by
  refine ⟨fun h => ?_, fun h => by rw [h]; decide⟩
  rw [Int32.le_iff_toInt_le, nI_toInt (by omega)] at h
  have : (0 : Int32).toInt = 0 := by decide
  omega
def hb (t : Nat × Nat × Nat) (c : Nat) : Bool := decide (t.1 ≤ c) && (decide ((c - t.1) % t.2.1 = 0) && decide ((c - t.1) / t.2.1 < t.2.2))
theorem hb_iff {t : Nat × Nat × Nat} (hs : t.2.1 = 1 ∨ t.2.1 = 4) (c : Nat) : hb t c = true ↔ inr t c := by
  unfold hb inr
  simp only [Bool.and_eq_true, decide_eq_true_eq]
  constructor
  · rintro ⟨h1, h2, h3⟩
    refine ⟨(c - t.1) / t.2.1, h3, ?_⟩
    have := Nat.div_add_mod (c - t.1) t.2.1
    rw [Nat.mul_comm] at this
    omega
  · rintro ⟨j, h1, h2⟩
    have : c - t.1 = j * t.2.1 := by omega
    rw [this, Nat.mul_mod_left, Nat.mul_div_cancel _ (by omega)]
    exact ⟨by omega, rfl, h1⟩
theorem nI_sub_neg : ∀ c a : Fin 16, c.1 < a.1 → nI c.1 - nI a.1 < 0 := by decide +kernel
def unl (D : Nat → Int32) (c : Nat) (d : Int32) (a s : Nat) : Nat → Nat → Bool
  | 0, _ => true
  | k + 1, j => (decide (a + j * s = c) || !decide (D (a + j * s) = d)) && unl D c d a s k (j + 1)
def fld (D : Nat → Int32) (c a s : Nat) : Nat → Nat → Bool
  | 0, _ => true
  | k + 1, j => (decide (a + j * s = c) || !decide (D (a + j * s) ≤ 0)) && fld D c a s k (j + 1)
def zer (D : Nat → Int32) (a s : Nat) : Nat → Nat → Nat
  | 0, _ => 0
  | k + 1, j => (if D (a + j * s) = 0 then 1 else 0) + zer D a s k (j + 1)
def rok (t : Nat × Nat × Nat) (s : Int32) (D : Nat → Int32) (c : Nat) (d : Int32) : Bool := unl D c d t.1 t.2.1 t.2.2 0 && (decide (s = 0) || (decide (tot D t.1 t.2.1 t.2.2 0 0 + d = s) || (!decide (s ≤ tot D t.1 t.2.1 t.2.2 0 0 + d) && !fld D c t.1 t.2.1 t.2.2 0)))
theorem tot_add (D : Nat → Int32) (a s : Nat) (y : Int32) : ∀ (k j : Nat) (x : Int32), tot D a s k j (x + y) = tot D a s k j x + y
  | 0, _, _ => rfl
  | k + 1, j, x => by
    rw [tot.eq_2, tot.eq_2, ← tot_add D a s y k (j + 1)]
    congr 1
    rw [Int32.add_assoc, Int32.add_comm y, Int32.add_assoc]
theorem fld_zer (D : Nat → Int32) (c a s : Nat) : ∀ (k j : Nat), (∀ i, j ≤ i → i < j + k → ∃ e : Nat, e ≤ 9 ∧ D (a + i * s) = nI e) → (∀ i, j ≤ i → i < j + k → a + i * s ≠ c) → fld D c a s k j = decide (zer D a s k j = 0)
  | 0, _, _, _ => rfl
  | k + 1, j, h, hn => by
    obtain ⟨e, he, q⟩ := h j (Nat.le_refl _) (by omega)
    rw [fld.eq_2, zer.eq_2, fld_zer D c a s k (j + 1) (fun i h1 h2 => h i (by omega) (by omega)) (fun i h1 h2 => hn i (by omega) (by omega)), q]
    simp only [hn j (Nat.le_refl _) (by omega), decide_false, Bool.false_or, nI_le0 he, nI_zero he]
    by_cases h0 : e = 0
    · simp [h0]
    · simp [h0]
theorem fld_zer1 (D : Nat → Int32) (c a s : Nat) (hs : 0 < s) (hc : D c = 0) : ∀ (k j : Nat), (∀ i, j ≤ i → i < j + k → ∃ e : Nat, e ≤ 9 ∧ D (a + i * s) = nI e) → (∃ i, j ≤ i ∧ i < j + k ∧ a + i * s = c) → fld D c a s k j = decide (zer D a s k j ≤ 1)
  | 0, _, _, ⟨i, _, _, _⟩ => by omega
  | k + 1, j, h, ⟨i, h1, h2, h3⟩ => by
    obtain ⟨e, he, q⟩ := h j (Nat.le_refl _) (by omega)
    rw [fld.eq_2, zer.eq_2]
    by_cases hij : j = i
    · subst hij
      rw [fld_zer D c a s k (j + 1) (fun i h1 h2 => h i (by omega) (by omega)) (fun i q1 q2 q3 => by
        have : j * s = i * s := by omega
        have := Nat.eq_of_mul_eq_mul_right hs this
        omega), h3, hc]
      by_cases hz : zer D a s k (j + 1) = 0
      · simp [hz]
      · simp [hz]; omega
    · rw [fld_zer1 D c a s hs hc k (j + 1) (fun i h1 h2 => h i (by omega) (by omega)) ⟨i, by omega, by omega, h3⟩, q]
      have hne : a + j * s ≠ c := by
        intro q3
        have : j * s = i * s := by omega
        exact hij (Nat.eq_of_mul_eq_mul_right hs this)
      have hz1 : 1 ≤ zer D a s k (j + 1) := by
        have key : ∀ (k j : Nat), (∃ i, j ≤ i ∧ i < j + k ∧ a + i * s = c) → 1 ≤ zer D a s k j := by
          intro k
          induction k with
          | zero => rintro j ⟨i, q1, q2, -⟩; omega
          | succ k ih =>
            rintro j ⟨i, q1, q2, q3⟩
            rw [zer.eq_2]
            by_cases hq : j = i
            · subst hq; rw [q3, if_pos hc]; omega
            · have := ih (j + 1) ⟨i, by omega, by omega, q3⟩; omega
        exact key k (j + 1) ⟨i, by omega, by omega, h3⟩
      simp only [hne, decide_false, Bool.false_or, nI_le0 he, nI_zero he]
      by_cases h0 : e = 0
      · simp [h0]; omega
      · simp [h0]
section GOOD
variable {sz : Nat} {mba : Nat → Int32} {rs : Rn} {rc mrn : Int32} {fs st ln rr cr mfi mst mle : Nat → Int32}
theorem suits_L (h : RT rs rc fs st ln) (hV : VR sz mba rs) {r c : Nat} {t : Nat × Nat × Nat} (hr : rs[r]? = some t) (D : Nat → Int32) (d : Int32) (hc : D c = 0) (hd : d ≠ 0) (kk : _) : ∀ (k j n w : Nat) (T : Int32), j + k = t.2.2 → k < n → f_X2_suits_L25 (nI r) d (nI t.2.2) fs st D kk n (nI w) T (nI j) = if unl D c d t.1 t.2.1 k j = true then kk (nI (w + zer D t.1 t.2.1 k j)) (tot D t.1 t.2.1 k j T) else some 0
  | 0, j, n, w, T, hj, hn => by
    obtain ⟨m, rfl⟩ : ∃ m, n = m + 1 := ⟨n - 1, by omega⟩
    have hv := hV.at hr
    rw [f_X2_suits_L25.eq_2, if_pos (nI_le (by omega) (by omega)), unl.eq_1, if_pos rfl]; rfl
  | k + 1, j, n, w, T, hj, hn => by
    obtain ⟨m, rfl⟩ : ∃ m, n = m + 1 := ⟨n - 1, by omega⟩
    have hv := hV.at hr
    rw [f_X2_suits_L25.eq_2, if_neg (nI_ge (by omega) (by omega)), h.cell hr, at_in _ (by decide) (hv.2.2.2 j (by omega)).2, nI_1, unl.eq_2, zer.eq_2, tot.eq_2]
    simp only [jn]
    by_cases hq : D (t.1 + j * t.2.1) = d
    · have hne : t.1 + j * t.2.1 ≠ c := by intro e; rw [e, hc] at hq; exact hd hq.symm
      rw [if_pos hq, if_neg]
      simp [hne, hq]
    · rw [if_neg hq, nI_1, suits_L h hV hr D d hc hd kk k (j + 1) m (w + 1) _ (by omega) (by omega), suits_L h hV hr D d hc hd kk k (j + 1) m w _ (by omega) (by omega)]
      rw [show (decide (t.1 + j * t.2.1 = c) || !decide (D (t.1 + j * t.2.1) = d)) = true by simp [hq], Bool.true_and]
      by_cases h0 : D (t.1 + j * t.2.1) = 0
      · rw [if_pos h0, if_pos h0, Nat.add_assoc]
      · rw [if_neg h0, if_neg h0, Nat.zero_add]
theorem tri (s T : Int32) : (¬ s < T) ↔ (T = s ∨ ¬ s ≤ T) := by
  rw [Int32.lt_iff_toInt_lt, Int32.le_iff_toInt_le, ← Int32.toInt_inj]
  omega
theorem suits_eq (h : RT rs rc fs st ln) (hV : VR sz mba rs) {N r c : Nat} (hN : 16 < N) {t : Nat × Nat × Nat} (hr : rs[r]? = some t) (su D : Nat → Int32) (d : Int32) (hc : D c = 0) (hd : d ≠ 0) (hi : inr t c) (hD : ∀ x, x < 16 → ∃ e : Nat, e ≤ 9 ∧ D x = nI e) : f_X2_suits N fs st ln su D (nI r) d = some (b01 (rok t (su r) D c d)) := by
  have hv := hV.at hr
  have hl := (List.getElem?_eq_some_iff.mp hr).1
  have h8 := h.2.1
  have hz := fld_zer1 D c t.1 t.2.1 (by omega) hc t.2.2 0 (fun i _ q => hD _ (hv.2.2.2 i (by omega)).2) (by obtain ⟨j, q1, q2⟩ := hi; exact ⟨j, by omega, by omega, q2.symm⟩)
  rw [f_X2_suits, if_neg (nI_nneg1 (by omega)), h.len hr]
  simp only [jn]
  rw [show f_X2_suits_L25 (nI r) d (nI t.2.2) fs st D _ N 0 d 0 = _ from suits_L h hV hr D d hc hd _ t.2.2 0 N 0 d (by omega) (by omega), f_X0_sumAt, at_in _ (by decide) (by omega), rok]
  have ht : tot D t.1 t.2.1 t.2.2 0 d = tot D t.1 t.2.1 t.2.2 0 0 + d := by
    have := tot_add D t.1 t.2.1 d t.2.2 0 0
    rwa [Int32.zero_add] at this
  rw [ht, hz, Nat.zero_add]
  have hzb : zer D t.1 t.2.1 t.2.2 0 < 2 ^ 31 := by
    have key : ∀ k j, zer D t.1 t.2.1 k j ≤ k := by
      intro k
      induction k with
      | zero => intro j; exact Nat.le_refl _
      | succ k ih => intro j; rw [zer.eq_2]; have := ih (j + 1); split <;> omega
    have := key t.2.2 0
    omega
  cases hu : unl D c d t.1 t.2.1 t.2.2 0
  · rw [if_neg (by decide)]; rfl
  · rw [if_pos rfl, Bool.true_and]
    by_cases h0 : su r = 0
    · rw [if_pos h0]; simp [h0, b01]
    · rw [if_neg h0]
      by_cases hw : zer D t.1 t.2.1 t.2.2 0 ≤ 1
      · rw [if_pos (show nI _ ≤ (1 : Int32) from nI_le (b := 1) hw (by omega))]
        by_cases hT : tot D t.1 t.2.1 t.2.2 0 0 + d = su r
        · rw [if_pos hT]; simp [hT, b01]
        · rw [if_neg hT]; simp [hT, h0, hw, b01]
      · rw [if_neg (show ¬ nI _ ≤ (1 : Int32) from nI_ge (a := 1) (b := zer D t.1 t.2.1 t.2.2 0) (by omega) (by omega))]
        by_cases hT : su r < tot D t.1 t.2.1 t.2.2 0 0 + d
        · rw [if_pos hT]
          have := (not_congr (tri (su r) (tot D t.1 t.2.1 t.2.2 0 0 + d))).mp (not_not_intro hT)
          have h1 : ¬ tot D t.1 t.2.1 t.2.2 0 0 + d = su r := fun q => this (Or.inl q)
          have h2 : su r ≤ tot D t.1 t.2.1 t.2.2 0 0 + d := Decidable.byContradiction fun q => this (Or.inr q)
          simp [h0, h1, h2, b01]
        · rw [if_neg hT]
          rcases (tri (su r) (tot D t.1 t.2.1 t.2.2 0 0 + d)).mp hT with q | q
          · simp [q, b01]
          · simp [q, hw, b01]
theorem isGood_L34 (h : RT rs mrn mfi mst mle) (hV : VR sz mba rs) {r c : Nat} (hc16 : c < 16) {t : Nat × Nat × Nat} (hr : rs[r]? = some t) (D : Nat → Int32) (d : Int32) (kk : _) : ∀ (k j n : Nat) (b1 b2 : Bool), j + k = t.2.2 → k < n → f_X4_isGood_L34 (nI c) d (nI r) mfi mle mst D kk n (b01 b1) (b01 b2) (nI j) = kk (b01 (b1 && unl D c d t.1 t.2.1 k j)) (b01 (b2 && fld D c t.1 t.2.1 k j))
  | 0, j, n, b1, b2, hj, hn => by
    obtain ⟨m, rfl⟩ : ∃ m, n = m + 1 := ⟨n - 1, by omega⟩
    have hv := hV.at hr
    have hl := (List.getElem?_eq_some_iff.mp hr).1
    have := h.2.1
    rw [f_X4_isGood_L34.eq_2, gd_t (inR_in (by decide) (by omega)), nI_clamp (by omega), (h.2.2 r t hr).2.2, if_pos (nI_le (by omega) (by omega)), unl.eq_1, fld.eq_1, Bool.and_true, Bool.and_true]
  | k + 1, j, n, b1, b2, hj, hn => by
    obtain ⟨m, rfl⟩ : ∃ m, n = m + 1 := ⟨n - 1, by omega⟩
    have hv := hV.at hr
    have hl := (List.getElem?_eq_some_iff.mp hr).1
    have := h.2.1
    have hcc := (hv.2.2.2 j (by omega)).2
    have hin : inR (nI (t.1 + j * t.2.1)) 16 := inR_in (by decide) hcc
    have ih00 : f_X4_isGood_L34 (nI c) d (nI r) mfi mle mst D kk m 0 0 (nI (j + 1)) = _ := isGood_L34 h hV hc16 hr D d kk k (j + 1) m false false (by omega) (by omega)
    have ih01 : f_X4_isGood_L34 (nI c) d (nI r) mfi mle mst D kk m 0 1 (nI (j + 1)) = _ := isGood_L34 h hV hc16 hr D d kk k (j + 1) m false true (by omega) (by omega)
    have ih10 : f_X4_isGood_L34 (nI c) d (nI r) mfi mle mst D kk m 1 0 (nI (j + 1)) = _ := isGood_L34 h hV hc16 hr D d kk k (j + 1) m true false (by omega) (by omega)
    have ih11 : f_X4_isGood_L34 (nI c) d (nI r) mfi mle mst D kk m 1 1 (nI (j + 1)) = _ := isGood_L34 h hV hc16 hr D d kk k (j + 1) m true true (by omega) (by omega)
    rw [f_X4_isGood_L34.eq_2, gd_t (inR_in (by decide) (by omega)), nI_clamp (by omega), (h.2.2 r t hr).2.2, if_neg (nI_ge (by omega) (by omega)), h.cellM hr]
    simp only [Option.bind_some, jn, nI_1, ih00, ih01, ih10, ih11, nI_clamp (show t.1 + j * t.2.1 < 2 ^ 31 by omega), nI_inj (show t.1 + j * t.2.1 < 2 ^ 31 by omega) (show c < 2 ^ 31 by omega), gd, if_pos hin]
    rw [unl.eq_2, fld.eq_2]
    by_cases e1 : t.1 + j * t.2.1 = c
    · cases b1 <;> cases b2 <;> simp [e1, b01]
    · simp only [e1, if_false, decide_false, Bool.false_or]
      by_cases e2 : D (t.1 + j * t.2.1) = d
      · by_cases e3 : D (t.1 + j * t.2.1) ≤ 0
        · simp only [if_pos e2, if_pos e3, decide_eq_true e2, decide_eq_true e3]
          cases b1 <;> cases b2 <;> simp [b01]
        · simp only [if_pos e2, if_neg e3, decide_eq_true e2, decide_eq_false e3]
          cases b1 <;> cases b2 <;> simp [b01]
      · by_cases e3 : D (t.1 + j * t.2.1) ≤ 0
        · simp only [if_neg e2, if_pos e3, decide_eq_false e2, decide_eq_true e3]
          cases b1 <;> cases b2 <;> simp [b01]
        · simp only [if_neg e2, if_neg e3, decide_eq_false e2, decide_eq_false e3]
          cases b1 <;> cases b2 <;> simp [b01]
def gAll (rs : Rn) (su D : Nat → Int32) (c : Nat) (d : Int32) : Nat → Nat → Bool
  | 0, _ => true
  | k + 1, i => (match rs[i]? with | some t => !hb t c || rok t (su i) D c d | none => true) && gAll rs su D c d k (i + 1)
theorem has_eq (h : RT rs mrn mfi mst mle) (hV : VR sz mba rs) {r c : Nat} (hc : c < 16) {t : Nat × Nat × Nat} (hr : rs[r]? = some t) : f_X4_has mfi mle mst (nI r) (nI c) = some (b01 (hb t c)) := by
  have hv := hV.at hr
  have hl := (List.getElem?_eq_some_iff.mp hr).1
  have h8 := h.2.1
  have ha : t.1 < 16 := by have := (hv.2.2.2 0 (by omega)).2; omega
  have hin : inR (nI r) 8 := inR_in (by decide) (by omega)
  have hst : ¬ nI t.2.1 = 0 := by rcases hv.1 with q | q <;> rw [q] <;> decide
  rw [f_X4_has, gd_t hin]
  simp only [jn, nI_clamp (show r < 2 ^ 31 by omega), (h.2.2 r t hr).1, (h.2.2 r t hr).2.1, (h.2.2 r t hr).2.2]
  unfold hb
  by_cases h1 : c < t.1
  · rw [if_pos (nI_sub_neg ⟨c, hc⟩ ⟨t.1, ha⟩ h1)]
    simp [b01]; omega
  · rw [nI_sub (by omega), if_neg (nI_pos (by omega)), gd_t hin, gd_t hst, nI_mod (by omega) (by omega) (by omega), nI_div (by omega) (by omega) (by omega)]
    have hm : (c - t.1) % t.2.1 ≤ 9 := by have := Nat.mod_lt (c - t.1) (show 0 < t.2.1 by omega); omega
    have hdv : (c - t.1) / t.2.1 < 2 ^ 31 := Nat.lt_of_le_of_lt (Nat.div_le_self _ _) (by omega)
    have h1' : t.1 ≤ c := by omega
    by_cases h2 : (c - t.1) % t.2.1 = 0
    · rw [if_pos ((nI_zero hm).mpr h2), gd_t hin, gd_t hst, gd_t hin]
      by_cases h3 : (c - t.1) / t.2.1 < t.2.2
      · rw [if_neg (nI_ge h3 (by omega))]; simp [h1', h2, h3, b01]
      · rw [if_pos (nI_le (by omega) hdv)]; simp [h3, b01]
    · rw [if_neg (fun q => h2 ((nI_zero hm).mp q))]; simp [h2, b01]
theorem isGood_L5 (h : RT rs mrn mfi mst mle) (hV : VR sz mba rs) {N c : Nat} (hN : 16 < N) (hc : c < 16) (su D : Nat → Int32) (d : Int32) : ∀ (k i n : Nat) (b : Bool), i + k = rs.length → k < n → f_X4_isGood_L5 N (nI c) d mrn mfi mle mst su D n (b01 b) (nI i) = some (b01 (b && gAll rs su D c d k i))
  | 0, i, n, b, hi, hn => by
    obtain ⟨m, rfl⟩ : ∃ m, n = m + 1 := ⟨n - 1, by omega⟩
    have := h.2.1
    rw [f_X4_isGood_L5.eq_2, h.1, if_pos (nI_le (by omega) (by omega)), gd_t (by cases b <;> simp [b01])]
    cases b <;> rfl
  | k + 1, i, n, b, hi, hn => by
    obtain ⟨m, rfl⟩ : ∃ m, n = m + 1 := ⟨n - 1, by omega⟩
    have h8 := h.2.1
    obtain ⟨t, hr⟩ : ∃ t, rs[i]? = some t := ⟨_, List.getElem?_eq_getElem (by omega)⟩
    have hv := hV.at hr
    have ih0 : f_X4_isGood_L5 N (nI c) d mrn mfi mle mst su D m 0 (nI (i + 1)) = _ := isGood_L5 h hV hN hc su D d k (i + 1) m false (by omega) (by omega)
    have ih1 : f_X4_isGood_L5 N (nI c) d mrn mfi mle mst su D m 1 (nI (i + 1)) = _ := isGood_L5 h hV hN hc su D d k (i + 1) m true (by omega) (by omega)
    rw [f_X4_isGood_L5.eq_2, if_neg (by rw [h.1]; exact nI_ge (by omega) (by omega))]
    cases b
    · rw [if_pos (show b01 false = 0 from rfl), gd_t (by simp [b01])]; rfl
    · rw [if_neg (by decide), has_eq h hV hc hr]
      simp only [Option.bind_some, jn]
      have e34 : ∀ kk, f_X4_isGood_L34 (nI c) d (nI i) mfi mle mst D kk N 1 1 0 = kk (b01 (true && unl D c d t.1 t.2.1 t.2.2 0)) (b01 (true && fld D c t.1 t.2.1 t.2.2 0)) := fun kk => isGood_L34 h hV hc hr D d kk t.2.2 0 N true true (by omega) (by omega)
      have hin : inR (nI i) 8 := inR_in (by decide) (by omega)
      rw [gAll.eq_2, hr]
      simp only [show b01 true = (1 : Int32) from rfl, e34, nI_1, sumUp_eq h hV hN hr, Option.bind_some, gd, if_pos hin, nI_clamp (show i < 2 ^ 31 by omega), ih0, ih1, Bool.true_and, Bool.false_and]
      cases hh : hb t c
      · rw [if_pos (show b01 false = 0 from rfl)]; rfl
      · rw [if_neg (by decide), rok]
        cases hu : unl D c d t.1 t.2.1 t.2.2 0
        · rw [if_pos (show b01 false = 0 from rfl)]; rfl
        · rw [if_neg (by decide)]
          by_cases h0 : su i = 0
          · rw [if_pos h0]; simp [h0]
          · rw [if_neg h0]
            by_cases h1 : tot D t.1 t.2.1 t.2.2 0 0 + d = su i
            · rw [if_pos h1]; simp [h1]
            · rw [if_neg h1]
              by_cases h2 : su i ≤ tot D t.1 t.2.1 t.2.2 0 0 + d
              · rw [if_pos h2]; simp [h0, h1, h2, b01]
              · rw [if_neg h2]
                cases h3 : fld D c t.1 t.2.1 t.2.2 0
                · rw [if_pos (show b01 false = 0 from rfl)]; simp [h0, h1, h2]
                · rw [if_neg (by decide)]; simp [h0, h1, b01]
theorem isGood_eq (h : RT rs mrn mfi mst mle) (hV : VR sz mba rs) {N c : Nat} (hN : 16 < N) (hc : c < 16) (su D : Nat → Int32) (d : Int32) : f_X4_isGood N mrn mfi mle mst su D (nI c) d = some (b01 (gAll rs su D c d rs.length 0)) := by
  have := h.2.1
  have h9 := isGood_L5 h hV hN hc su D d rs.length 0 N true (by omega) (by omega)
  rw [Bool.true_and] at h9
  exact h9
theorem gAll_iff (su D : Nat → Int32) (c : Nat) (d : Int32) : ∀ (k i : Nat), i + k = rs.length → (gAll rs su D c d k i = true ↔ ∀ (r : Nat) (t : Nat × Nat × Nat), i ≤ r → rs[r]? = some t → hb t c = true → rok t (su r) D c d = true)
  | 0, i, hi => by
    refine ⟨fun _ r t h1 h2 => ?_, fun _ => rfl⟩
    have := (List.getElem?_eq_some_iff.mp h2).1
    omega
  | k + 1, i, hi => by
    obtain ⟨t, hr⟩ : ∃ t, rs[i]? = some t := ⟨_, List.getElem?_eq_getElem (by omega)⟩
    rw [gAll.eq_2, hr, Bool.and_eq_true, gAll_iff su D c d k (i + 1) (by omega)]
    simp only [Bool.or_eq_true, Bool.not_eq_true']
    constructor
    · rintro ⟨h1, h2⟩ r t' q1 q2 q3
      by_cases hq : r = i
      · subst hq
        rw [hr] at q2; cases q2
        rcases h1 with h1 | h1
        · rw [q3] at h1; cases h1
        · exact h1
      · exact h2 r t' (by omega) q2 q3
    · intro hh
      refine ⟨?_, fun r t' q1 q2 q3 => hh r t' (by omega) q2 q3⟩
      cases hq : hb t c
      · exact Or.inl rfl
      · exact Or.inr (hh i t (Nat.le_refl _) hr hq)
/-- both sides ask the same of a digit in a cell that has none -/
theorem two_eq (h : RT rs rc fs st ln) (hR : RRel rs rr cr) (hV : VR sz mba rs) {N c : Nat} (hN : 16 < N) (hc : c < 16) (su D : Nat → Int32) (d : Int32) (hDc : D c = 0) (hd : d ≠ 0) (hD : ∀ x, x < 16 → ∃ e : Nat, e ≤ 9 ∧ D x = nI e) :
    ∃ b1 b2 : Bool, f_X2_suits N fs st ln su D (rr c) d = some (b01 b1) ∧ f_X2_suits N fs st ln su D (cr c) d = some (b01 b2) ∧ (b1 && b2) = gAll rs su D c d rs.length 0 := by
  have hkey : ∀ (x : Int32) (s : Nat), (x = -1 ∨ ∃ (r : Nat) (t : Nat × Nat × Nat), rs[r]? = some t ∧ t.2.1 = s ∧ inr t c ∧ x = nI r) → (∀ (r : Nat) (t : Nat × Nat × Nat), rs[r]? = some t → inr t c → t.2.1 = s → x = nI r) →
      ∃ b : Bool, f_X2_suits N fs st ln su D x d = some (b01 b) ∧ (b = true ↔ ∀ (r : Nat) (t : Nat × Nat × Nat), rs[r]? = some t → inr t c → t.2.1 = s → rok t (su r) D c d = true) := by
    intro x s h1 h2
    have hl8 := h.2.1
    rcases h1 with rfl | ⟨r, t, hr, hs, hi, rfl⟩
    · refine ⟨true, by rw [f_X2_suits, if_pos rfl]; rfl, fun _ r t hr hi hs => ?_, fun _ => rfl⟩
      have hl := (List.getElem?_eq_some_iff.mp hr).1
      exact absurd (h2 r t hr hi hs).symm (nI_nneg1 (by omega))
    · have hl := (List.getElem?_eq_some_iff.mp hr).1
      refine ⟨_, suits_eq h hV hN hr su D d hDc hd hi hD, fun hq r' t' hr' hi' hs' => ?_, fun hq => hq r t hr hi hs⟩
      have hl' := (List.getElem?_eq_some_iff.mp hr').1
      have e := (nI_inj (by omega) (by omega)).mp (h2 r' t' hr' hi' hs')
      subst e
      rw [hr] at hr'; cases hr'
      exact hq
  obtain ⟨b1, e1, q1⟩ := hkey (rr c) 1 (hR.2 c hc).1 (fun r t hr hi hs => (hR.1 r t c hr hi).1 hs)
  obtain ⟨b2, e2, q2⟩ := hkey (cr c) 4 (hR.2 c hc).2 (fun r t hr hi hs => (hR.1 r t c hr hi).2 hs)
  refine ⟨b1, b2, e1, e2, ?_⟩
  rw [Bool.eq_iff_iff, Bool.and_eq_true, q1, q2, gAll_iff su D c d rs.length 0 (by omega)]
  constructor
  · rintro ⟨p1, p2⟩ r t - hr hh
    have hs := (hV.at hr).1
    have hi := (hb_iff hs c).mp hh
    rcases hs with hs | hs
    · exact p1 r t hr hi hs
    · exact p2 r t hr hi hs
  · intro p
    exact ⟨fun r t hr hi hs => p r t (Nat.zero_le _) hr ((hb_iff (Or.inl hs) c).mpr hi), fun r t hr hi hs => p r t (Nat.zero_le _) hr ((hb_iff (Or.inr hs) c).mpr hi)⟩
end GOOD
