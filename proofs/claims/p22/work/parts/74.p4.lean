/-! what a filling is: the digits of a run, on both sides -/
def twc (D : Nat → Int32) (a s : Nat) : Nat → Nat → Int32 → Bool
  | 0, _, _ => false
  | k + 1, j, met => if met &&& (1 <<< (D (a + j * s) &&& 31)) = 0 then twc D a s k (j + 1) (met ||| (1 <<< (D (a + j * s) &&& 31))) else true
def tot (D : Nat → Int32) (a s : Nat) : Nat → Nat → Int32 → Int32
  | 0, _, acc => acc
  | k + 1, j, acc => tot D a s k (j + 1) (acc + D (a + j * s))
theorem twc_congr {D E : Nat → Int32} {a s : Nat} : ∀ (k j : Nat) (met : Int32), (∀ i, j ≤ i → i < j + k → D (a + i * s) = E (a + i * s)) → twc D a s k j met = twc E a s k j met
  | 0, _, _, _ => rfl
  | k + 1, j, met, h => by
    unfold twc
    rw [h j (Nat.le_refl _) (by omega), twc_congr k (j + 1) _ (fun i h1 h2 => h i (by omega) (by omega))]
theorem tot_congr {D E : Nat → Int32} {a s : Nat} : ∀ (k j : Nat) (acc : Int32), (∀ i, j ≤ i → i < j + k → D (a + i * s) = E (a + i * s)) → tot D a s k j acc = tot E a s k j acc
  | 0, _, _, _ => rfl
  | k + 1, j, acc, h => by
    unfold tot
    rw [h j (Nat.le_refl _) (by omega), tot_congr k (j + 1) _ (fun i h1 h2 => h i (by omega) (by omega))]
theorem tot_nI {D : Nat → Int32} {a s : Nat} : ∀ (k j v : Nat), (∀ i, j ≤ i → i < j + k → ∃ d : Nat, d ≤ 9 ∧ D (a + i * s) = nI d) → ∃ w : Nat, w ≤ v + 9 * k ∧ tot D a s k j (nI v) = nI w
  | 0, _, v, _ => ⟨v, by omega, rfl⟩
  | k + 1, j, v, h => by
    obtain ⟨d, hd, e⟩ := h j (Nat.le_refl _) (by omega)
    unfold tot
    rw [e, nI_add]
    obtain ⟨w, hw, e2⟩ := tot_nI k (j + 1) (v + d) (fun i h1 h2 => h i (by omega) (by omega))
    exact ⟨w, by omega, e2⟩
section RUN
variable {sz : Nat} {mba : Nat → Int32} {rs : Rn} {rc mrn : Int32} {fs st ln mfi mst mle : Nat → Int32}
theorem RT.len (h : RT rs rc fs st ln) {r : Nat} {t : Nat × Nat × Nat} (hr : rs[r]? = some t) : f_X0_lengthAt ln (nI r) = nI t.2.2 := by
  have hl := (List.getElem?_eq_some_iff.mp hr).1
  have := h.2.1
  rw [f_X0_lengthAt, at_in _ (by decide) (by omega), (h.2.2 r t hr).2.2]
theorem RT.cell (h : RT rs rc fs st ln) {r : Nat} {t : Nat × Nat × Nat} (hr : rs[r]? = some t) (j : Nat) : f_X0_cellAt fs st (nI r) (nI j) = nI (t.1 + j * t.2.1) := by
  have hl := (List.getElem?_eq_some_iff.mp hr).1
  have := h.2.1
  rw [f_X0_cellAt, at_in _ (by decide) (by omega), at_in _ (by decide) (by omega), (h.2.2 r t hr).1, (h.2.2 r t hr).2.1, nI_mul, nI_add]
theorem RT.cellM (h : RT rs mrn mfi mst mle) {r : Nat} {t : Nat × Nat × Nat} (hr : rs[r]? = some t) (j : Nat) : f_X4_cellOf mfi mst (nI r) (nI j) = some (nI (t.1 + j * t.2.1)) := by
  have hl := (List.getElem?_eq_some_iff.mp hr).1
  have := h.2.1
  rw [f_X4_cellOf, gd_t (inR_in (by decide) (by omega)), gd_t (inR_in (by decide) (by omega)), nI_clamp (by omega), (h.2.2 r t hr).1, (h.2.2 r t hr).2.1, nI_mul, nI_add, Nat.mul_comm]
theorem VR.at (h : VR sz mba rs) {r : Nat} {t : Nat × Nat × Nat} (hr : rs[r]? = some t) : (t.2.1 = 1 ∨ t.2.1 = 4) ∧ 2 ≤ t.2.2 ∧ t.2.2 ≤ 4 ∧ ∀ j : Nat, j < t.2.2 → opn sz mba (t.1 + j * t.2.1) = true ∧ t.1 + j * t.2.1 < 16 := by
  obtain ⟨h1, h2, h3, h4⟩ := h t (List.mem_of_getElem? hr)
  exact ⟨h1, h2, h3, fun j hj => ⟨h4 j hj, opn_lt (h4 j hj)⟩⟩
theorem hasTwice_L (h : RT rs rc fs st ln) (hV : VR sz mba rs) {r : Nat} {t : Nat × Nat × Nat} (hr : rs[r]? = some t) (D : Nat → Int32) : ∀ (k j n : Nat) (met : Int32), j + k = t.2.2 → k < n → f_X0_hasTwice_L12 (nI r) (nI t.2.2) fs st D n met (nI j) = some (b01 (twc D t.1 t.2.1 k j met))
  | 0, j, n, met, hj, hn => by
    obtain ⟨m, rfl⟩ : ∃ m, n = m + 1 := ⟨n - 1, by omega⟩
    have hv := hV.at hr
    rw [f_X0_hasTwice_L12.eq_2, if_pos (nI_le (by omega) (by omega))]; rfl
  | k + 1, j, n, met, hj, hn => by
    obtain ⟨m, rfl⟩ : ∃ m, n = m + 1 := ⟨n - 1, by omega⟩
    have hv := hV.at hr
    rw [f_X0_hasTwice_L12.eq_2, if_neg (nI_ge (by omega) (by omega)), h.cell hr, at_in _ (by decide) (hv.2.2.2 j (by omega)).2, nI_1]
    unfold twc
    by_cases hq : met &&& (1 <<< (D (t.1 + j * t.2.1) &&& 31)) = 0
    · rw [if_pos hq, if_pos hq]; exact hasTwice_L h hV hr D k (j + 1) m _ (by omega) (by omega)
    · rw [if_neg hq, if_neg hq]; rfl
theorem hasTwice_eq (h : RT rs rc fs st ln) (hV : VR sz mba rs) {r N : Nat} (hN : 16 < N) {t : Nat × Nat × Nat} (hr : rs[r]? = some t) (D : Nat → Int32) : f_X0_hasTwice N fs st ln D (nI r) = some (b01 (twc D t.1 t.2.1 t.2.2 0 0)) := by
  have hv := hV.at hr
  rw [f_X0_hasTwice, h.len hr, show (0 : Int32) = nI 0 from rfl]
  exact hasTwice_L h hV hr D t.2.2 0 N _ (by omega) (by omega)
theorem totalOf_L (h : RT rs rc fs st ln) (hV : VR sz mba rs) {r : Nat} {t : Nat × Nat × Nat} (hr : rs[r]? = some t) (D : Nat → Int32) : ∀ (k j n : Nat) (acc : Int32), j + k = t.2.2 → k < n → f_X0_totalOf_L12 (nI r) (nI t.2.2) fs st D n acc (nI j) = some (tot D t.1 t.2.1 k j acc)
  | 0, j, n, acc, hj, hn => by
    obtain ⟨m, rfl⟩ : ∃ m, n = m + 1 := ⟨n - 1, by omega⟩
    have hv := hV.at hr
    rw [f_X0_totalOf_L12.eq_2, if_pos (nI_le (by omega) (by omega))]; rfl
  | k + 1, j, n, acc, hj, hn => by
    obtain ⟨m, rfl⟩ : ∃ m, n = m + 1 := ⟨n - 1, by omega⟩
    have hv := hV.at hr
    rw [f_X0_totalOf_L12.eq_2, if_neg (nI_ge (by omega) (by omega)), h.cell hr, at_in _ (by decide) (hv.2.2.2 j (by omega)).2, nI_1]
    exact totalOf_L h hV hr D k (j + 1) m _ (by omega) (by omega)
theorem totalOf_eq (h : RT rs rc fs st ln) (hV : VR sz mba rs) {r N : Nat} (hN : 16 < N) {t : Nat × Nat × Nat} (hr : rs[r]? = some t) (D : Nat → Int32) : f_X0_totalOf N fs st ln D (nI r) = some (tot D t.1 t.2.1 t.2.2 0 0) := by
  have hv := hV.at hr
  rw [f_X0_totalOf, h.len hr]
  exact totalOf_L h hV hr D t.2.2 0 N _ (by omega) (by omega)
theorem sumUp_L (h : RT rs mrn mfi mst mle) (hV : VR sz mba rs) {r : Nat} {t : Nat × Nat × Nat} (hr : rs[r]? = some t) (D : Nat → Int32) : ∀ (k j n : Nat) (acc : Int32), j + k = t.2.2 → k < n → f_X4_sumUp_L4 (nI r) mfi mle mst D n acc (nI j) = some (tot D t.1 t.2.1 k j acc)
  | 0, j, n, acc, hj, hn => by
    obtain ⟨m, rfl⟩ : ∃ m, n = m + 1 := ⟨n - 1, by omega⟩
    have hv := hV.at hr
    have hl := (List.getElem?_eq_some_iff.mp hr).1
    have := h.2.1
    rw [f_X4_sumUp_L4.eq_2, gd_t (inR_in (by decide) (by omega)), nI_clamp (by omega), (h.2.2 r t hr).2.2, if_pos (nI_le (by omega) (by omega))]; rfl
  | k + 1, j, n, acc, hj, hn => by
    obtain ⟨m, rfl⟩ : ∃ m, n = m + 1 := ⟨n - 1, by omega⟩
    have hv := hV.at hr
    have hl := (List.getElem?_eq_some_iff.mp hr).1
    have := h.2.1
    have hc := (hv.2.2.2 j (by omega)).2
    rw [f_X4_sumUp_L4.eq_2, gd_t (inR_in (by decide) (by omega)), nI_clamp (by omega), (h.2.2 r t hr).2.2, if_neg (nI_ge (by omega) (by omega)), h.cellM hr]
    simp only [Option.bind_some]
    rw [gd_t (inR_in (by decide) hc), nI_clamp (by omega), nI_1]
    exact sumUp_L h hV hr D k (j + 1) m _ (by omega) (by omega)
theorem sumUp_eq (h : RT rs mrn mfi mst mle) (hV : VR sz mba rs) {r N : Nat} (hN : 16 < N) {t : Nat × Nat × Nat} (hr : rs[r]? = some t) (D : Nat → Int32) : f_X4_sumUp N mfi mle mst D (nI r) = some (tot D t.1 t.2.1 t.2.2 0 0) := by
  have hv := hV.at hr
  rw [f_X4_sumUp]
  exact sumUp_L h hV hr D t.2.2 0 N _ (by omega) (by omega)
theorem isUnlike_L (h : RT rs mrn mfi mst mle) (hV : VR sz mba rs) {r : Nat} {t : Nat × Nat × Nat} (hr : rs[r]? = some t) (D : Nat → Int32) : ∀ (k j n : Nat) (met : Int32) (b : Bool), j + k = t.2.2 → k < n → f_X4_isUnlike_L7 (nI r) mfi mle mst D n met (b01 b) (nI j) = some (b01 (b && !twc D t.1 t.2.1 k j met))
  | 0, j, n, met, b, hj, hn => by
    obtain ⟨m, rfl⟩ : ∃ m, n = m + 1 := ⟨n - 1, by omega⟩
    have hv := hV.at hr
    have hl := (List.getElem?_eq_some_iff.mp hr).1
    have := h.2.1
    rw [f_X4_isUnlike_L7.eq_2, gd_t (inR_in (by decide) (by omega)), nI_clamp (by omega), (h.2.2 r t hr).2.2, if_pos (nI_le (by omega) (by omega)), gd_t (by cases b <;> simp [b01])]
    cases b <;> rfl
  | k + 1, j, n, met, b, hj, hn => by
    obtain ⟨m, rfl⟩ : ∃ m, n = m + 1 := ⟨n - 1, by omega⟩
    have hv := hV.at hr
    have hl := (List.getElem?_eq_some_iff.mp hr).1
    have := h.2.1
    have hc := (hv.2.2.2 j (by omega)).2
    rw [f_X4_isUnlike_L7.eq_2, gd_t (inR_in (by decide) (by omega)), nI_clamp (by omega), (h.2.2 r t hr).2.2, if_neg (nI_ge (by omega) (by omega)), h.cellM hr]
    simp only [Option.bind_some, jn]
    rw [gd_t (inR_in (by decide) hc), nI_clamp (by omega), nI_1]
    have ih := fun b' met' => isUnlike_L h hV hr D k (j + 1) m met' b' (by omega) (by omega)
    cases b
    · rw [if_pos (show b01 false = 0 from rfl)]
      rw [show (0 : Int32) = b01 false from rfl, ih false]
      rfl
    · rw [if_neg (by decide)]
      by_cases hq : met &&& (1 <<< (D (t.1 + j * t.2.1) &&& 31)) = 0
      · rw [if_pos hq, show (1 : Int32) = b01 true from rfl, ih true]
        conv => rhs; unfold twc
        rw [show b01 true = 1 from rfl, if_pos hq]
      · rw [if_neg hq, show (0 : Int32) = b01 false from rfl, ih false]
        conv => rhs; unfold twc
        rw [if_neg hq]; rfl
theorem isUnlike_eq (h : RT rs mrn mfi mst mle) (hV : VR sz mba rs) {r N : Nat} (hN : 16 < N) {t : Nat × Nat × Nat} (hr : rs[r]? = some t) (D : Nat → Int32) : f_X4_isUnlike N mfi mle mst D (nI r) = some (b01 (!twc D t.1 t.2.1 t.2.2 0 0)) := by
  have hv := hV.at hr
  rw [f_X4_isUnlike, show (1 : Int32) = b01 true from rfl, show f_X4_isUnlike_L7 (nI r) mfi mle mst D N 0 (b01 true) 0 = _ from isUnlike_L h hV hr D t.2.2 0 N 0 true (by omega) (by omega)]
  rfl
/-- an answer -/
def ansN (rs : Rn) (su D : Nat → Int32) : Nat → Nat → Bool
  | 0, _ => true
  | k + 1, i => (match rs[i]? with
    | some t => !twc D t.1 t.2.1 t.2.2 0 0 && (decide (su i = 0) || decide (tot D t.1 t.2.1 t.2.2 0 0 = su i))
    | none => true) && ansN rs su D k (i + 1)
theorem ansN_congr {su su' D E : Nat → Int32} (h1 : ∀ r, r < rs.length → su r = su' r) (h2 : ∀ (r : Nat) (t : Nat × Nat × Nat), rs[r]? = some t → ∀ j, j < t.2.2 → D (t.1 + j * t.2.1) = E (t.1 + j * t.2.1)) : ∀ (k i : Nat), i + k = rs.length → ansN rs su D k i = ansN rs su' E k i
  | 0, _, _ => rfl
  | k + 1, i, hi => by
    unfold ansN
    rw [ansN_congr h1 h2 k (i + 1) (by omega)]
    cases hr : rs[i]? with
    | none => rfl
    | some t =>
      simp only
      rw [twc_congr (E := E) t.2.2 0 0 (fun j _ hj => h2 i t hr j (by omega)), tot_congr (E := E) t.2.2 0 0 (fun j _ hj => h2 i t hr j (by omega)), h1 i (by omega)]
theorem isAnswer_L (h : RT rs rc fs st ln) (hV : VR sz mba rs) {N : Nat} (hN : 16 < N) (su D : Nat → Int32) : ∀ (k i n : Nat), i + k = rs.length → k < n → f_X0_isAnswer_L2 N rc fs st ln su D n (nI i) = some (b01 (ansN rs su D k i))
  | 0, i, n, hi, hn => by
    obtain ⟨m, rfl⟩ : ∃ m, n = m + 1 := ⟨n - 1, by omega⟩
    have := h.2.1
    rw [f_X0_isAnswer_L2.eq_2, h.1, if_pos (nI_le (by omega) (by omega))]; rfl
  | k + 1, i, n, hi, hn => by
    obtain ⟨m, rfl⟩ : ∃ m, n = m + 1 := ⟨n - 1, by omega⟩
    have h8 := h.2.1
    obtain ⟨t, hr⟩ : ∃ t, rs[i]? = some t := ⟨_, List.getElem?_eq_getElem (by omega)⟩
    have ih := isAnswer_L h hV hN su D k (i + 1) m (by omega) (by omega)
    rw [f_X0_isAnswer_L2.eq_2, if_neg (by rw [h.1]; exact nI_ge (by omega) (by omega)), hasTwice_eq h hV hN hr]
    simp only [Option.bind_some, jn]
    rw [f_X0_sumAt, at_in _ (by decide) (by omega), nI_1, ih, ansN.eq_2, hr]
    simp only
    cases htw : twc D t.1 t.2.1 t.2.2 0 0
    · rw [if_pos (show b01 false = 0 from rfl), totalOf_eq h hV hN hr]
      simp only [Option.bind_some]
      by_cases h0 : su i = 0
      · rw [if_pos h0]; simp [h0]
      · rw [if_neg h0]
        by_cases h9 : tot D t.1 t.2.1 t.2.2 0 0 = su i
        · rw [if_pos h9]; simp [h9]
        · rw [if_neg h9]; simp [h0, h9, b01]
    · rw [if_neg (by decide)]; simp [b01]
theorem isAnswer_eq (h : RT rs rc fs st ln) (hV : VR sz mba rs) {N : Nat} (hN : 16 < N) (su D : Nat → Int32) : f_X0_isAnswer N rc fs st ln su D = some (b01 (ansN rs su D rs.length 0)) := by
  have := h.2.1
  exact isAnswer_L h hV hN su D rs.length 0 N (by omega) (by omega)
theorem isAnswerM_L (h : RT rs mrn mfi mst mle) (hV : VR sz mba rs) {N : Nat} (hN : 16 < N) (su D : Nat → Int32) : ∀ (k i n : Nat) (b : Bool), i + k = rs.length → k < n → f_X4_isAnswer_L4 N mrn mfi mle mst su D n (b01 b) (nI i) = some (b01 (b && ansN rs su D k i))
  | 0, i, n, b, hi, hn => by
    obtain ⟨m, rfl⟩ : ∃ m, n = m + 1 := ⟨n - 1, by omega⟩
    have := h.2.1
    rw [f_X4_isAnswer_L4.eq_2, h.1, if_pos (nI_le (by omega) (by omega)), gd_t (by cases b <;> simp [b01])]
    cases b <;> rfl
  | k + 1, i, n, b, hi, hn => by
    obtain ⟨m, rfl⟩ : ∃ m, n = m + 1 := ⟨n - 1, by omega⟩
    have h8 := h.2.1
    obtain ⟨t, hr⟩ : ∃ t, rs[i]? = some t := ⟨_, List.getElem?_eq_getElem (by omega)⟩
    have ih := fun b' => isAnswerM_L h hV hN su D k (i + 1) m b' (by omega) (by omega)
    have ih0 : f_X4_isAnswer_L4 N mrn mfi mle mst su D m 0 (nI (i + 1)) = some 0 := by
      have := ih false
      rw [Bool.false_and] at this
      exact this
    have ih1 : f_X4_isAnswer_L4 N mrn mfi mle mst su D m 1 (nI (i + 1)) = some (b01 (ansN rs su D k (i + 1))) := by
      have := ih true
      rw [Bool.true_and] at this
      exact this
    rw [f_X4_isAnswer_L4.eq_2, if_neg (by rw [h.1]; exact nI_ge (by omega) (by omega)), isUnlike_eq h hV hN hr]
    simp only [Option.bind_some, jn]
    have hin : inR (nI i) 8 := inR_in (by decide) (by omega)
    simp only [nI_1, nI_clamp (show i < 2 ^ 31 by omega), ih0, ih1, sumUp_eq h hV hN hr, Option.bind_some]
    cases b
    · rw [if_pos (show b01 false = 0 from rfl)]; rfl
    · rw [if_neg (by decide), Bool.true_and, ansN.eq_2, hr]
      rw [gd_t hin, gd_t hin]
      simp only
      cases htw : twc D t.1 t.2.1 t.2.2 0 0
      · rw [if_neg (by decide)]
        by_cases h0 : su i = 0
        · rw [if_pos h0]; simp [h0]
        · rw [if_neg h0]
          by_cases h9 : tot D t.1 t.2.1 t.2.2 0 0 = su i
          · rw [if_pos h9]; simp [h9]
          · rw [if_neg h9]; simp [h0, h9, b01]
      · rw [if_pos (show b01 (!true) = 0 from rfl)]; simp [b01]
theorem isAnswerM_eq (h : RT rs mrn mfi mst mle) (hV : VR sz mba rs) {N : Nat} (hN : 16 < N) (su D : Nat → Int32) : f_X4_isAnswer N mrn mfi mle mst su D = some (b01 (ansN rs su D rs.length 0)) := by
  have := h.2.1
  have h9 := isAnswerM_L h hV hN su D rs.length 0 N true (by omega) (by omega)
  rw [Bool.true_and] at h9
  exact h9
end RUN
