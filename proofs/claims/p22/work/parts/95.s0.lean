/-! the two boards hold the same: drawing -/
def INV (size rc : Int32) (g fs st ln su rr cr : Nat → Int32) (msz mrn : Int32) (mba mgi mfi mle mst msu : Nat → Int32) : Prop := ∃ (sz : Nat) (rs : Rn), size = nI sz ∧ msz = nI sz ∧ Cells sz mba mgi g ∧ RT rs rc fs st ln ∧ RT rs mrn mfi mst mle ∧ RRel rs rr cr ∧ VR sz mba rs ∧ ∀ r, r < rs.length → su r = msu r ∧ ∃ v : Nat, v ≤ 45 ∧ su r = nI v
theorem nar_0 : vp_nar .boolean 0 = 0 := rfl
theorem nar_1 : vp_nar .boolean 1 = 1 := rfl
theorem sm_inl {α β γ : Type} (a : α) (f : α → γ) (g : β → γ) : sm (.inl a) f g = f a := rfl
theorem sm_inr {α β γ : Type} (b : β) (f : α → γ) (g : β → γ) : sm (.inr b) f g = g b := rfl
section DRAW
variable {sz : Nat} {mba mgi g : Nat → Int32}
theorem draw_both (hC : Cells sz mba mgi g) {N : Nat} (hN : 16 < N) (rc : Int32) (fs st ln su rr cr : Nat → Int32) (mrn : Int32) (mfi mle mst msu : Nat → Int32) :
    ∃ (rc' : Int32) (fs' st' ln' su' rr' cr' : Nat → Int32) (mrn' : Int32) (mfi' mle' mst' msu' : Nat → Int32), f_X0_findRuns N (nI sz) rc g fs st ln su rr cr = some (rc', fs', st', ln', su', rr', cr') ∧ f_X4_layRuns N (nI sz) mrn mba mfi mle mst msu = some (mrn', mfi', mle', mst', msu') ∧ INV (nI sz) rc' g fs' st' ln' su' rr' cr' (nI sz) mrn' mba mgi mfi' mle' mst' msu' := by
  obtain ⟨⟨x1, x2, x3, x4, x5, x6, x7⟩, e1, ⟨a1, a2, a3, -, -⟩, a4⟩ := findRuns_eq hC hN rc fs st ln su rr cr
  obtain ⟨⟨y1, y2, y3, y4, y5⟩, e2, b1, b2⟩ := layRuns_eq hC hN mrn mfi mle mst msu
  refine ⟨x1, x2, x3, x4, x5, x6, x7, y1, y2, y3, y4, y5, e1, e2, sz, runsTo sz mba (2 * sz), rfl, rfl, hC, a1, b1, a2, a3, fun r hr => ?_⟩
  have h8 := a1.2.1
  have q1 : x5 r = 0 := a4 r (by omega)
  have q2 : y5 r = 0 := b2 r hr
  exact ⟨by rw [q1, q2], 0, by omega, by rw [q1]; rfl⟩
theorem zero_cells {j : Nat} (h2 : 2 ≤ j) (h4 : j ≤ 4) (h : ∀ c, c < 16 → mba c = 0 ∧ mgi c = 0 ∧ g c = 0) : Cells j mba mgi g := by
  refine ⟨⟨h2, h4⟩, fun c hc => ?_⟩
  obtain ⟨a1, a2, a3⟩ := h c hc
  refine ⟨Or.inl a1, ⟨0, by omega, a2⟩, fun q => ?_, fun _ => a2, ?_⟩
  · rw [a1] at q; exact absurd q zero_ne1
  · rw [a3, a1, if_neg zero_ne1, a2]
theorem beginM_L (kk : _) : ∀ (k i n : Nat) (mba mgi : Nat → Int32), i + k = 16 → k < n → (∀ c, c < i → mba c = 0 ∧ mgi c = 0) → ∃ mba' mgi' : Nat → Int32, f_X4_begin_L28 kk n (nI i) mba mgi = kk mba' mgi' ∧ ∀ c, c < 16 → mba' c = 0 ∧ mgi' c = 0
  | 0, i, n, mba, mgi, hi, hn, hf => by
    obtain ⟨m, rfl⟩ : ∃ m, n = m + 1 := ⟨n - 1, by omega⟩
    obtain rfl : i = 16 := by omega
    rw [f_X4_begin_L28.eq_2, if_pos (by decide)]
    exact ⟨mba, mgi, rfl, hf⟩
  | k + 1, i, n, mba, mgi, hi, hn, hf => by
    obtain ⟨m, rfl⟩ : ∃ m, n = m + 1 := ⟨n - 1, by omega⟩
    rw [f_X4_begin_L28.eq_2, if_neg (show ¬ (16 : Int32) ≤ nI i from nI_ge (b := 16) (by omega) (by decide)), gd_t (inR_in (by decide) (by omega)), gd_t (inR_in (by decide) (by omega)), nI_1, nI_clamp (by omega), nar_0]
    refine beginM_L kk k (i + 1) m _ _ (by omega) (by omega) fun c hc => ?_
    by_cases h : c = i
    · rw [h, upd_eq, upd_eq]; exact ⟨rfl, rfl⟩
    · rw [upd_ne _ _ h, upd_ne _ _ h]; exact hf c (by omega)
theorem turn_cells (hC : Cells sz mba mgi g) {c : Nat} (hc : isC sz c = true) : ∃ b : Bool, f_X4_turn mba mgi (nI c) = some (upd mba c (b01 (!b)), upd mgi c 0) ∧ f_X0_isOpen (nI sz) g (nI c) = b01 (!b) ∧ Cells sz (upd mba c (b01 (!b))) (upd mgi c 0) (upd g c (if b = true then 0 else -1)) := by
  have hc16 := (isC_lt hc).1
  have hin : inR (nI c) 16 := inR_in (by decide) hc16
  have hcl : (nI c).toNatClampNeg = c := nI_clamp (by omega)
  have hcells : ∀ (b : Bool), Cells sz (upd mba c (b01 (!b))) (upd mgi c 0) (upd g c (if b = true then 0 else -1)) := by
    intro b
    refine ⟨hC.1, fun x hx => ?_⟩
    by_cases hq : x = c
    · rw [hq, upd_eq, upd_eq, upd_eq]
      refine ⟨?_, ⟨0, by omega, rfl⟩, fun _ => ⟨rfl, hc⟩, fun _ => rfl, ?_⟩
      · cases b
        · exact Or.inr rfl
        · exact Or.inl rfl
      · cases b
        · rw [if_neg (by decide), if_pos (show b01 (!false) = 1 from rfl)]
        · rw [if_pos rfl, if_neg (show ¬ b01 (!true) = 1 from zero_ne1)]
    · rw [upd_ne _ _ hq, upd_ne _ _ hq, upd_ne _ _ hq]
      exact hC.2 x hx
  rcases (hC.2 c hc16).1 with hm | hm
  · refine ⟨false, ?_, ?_, hcells false⟩
    · simp only [f_X4_turn, gd_t hin, hcl, jn_p, hm, if_true, nar_1]
      rfl
    · rw [hC.isOpen hc16, opn, hc, hm]; rfl
  · refine ⟨true, ?_, ?_, hcells true⟩
    · simp only [f_X4_turn, gd_t hin, hcl, jn_p, hm, if_neg one_ne0, nar_0]
      rfl
    · rw [hC.isOpen hc16, opn, hc, hm]; rfl
theorem turnC_eq {b : Bool} {c : Nat} (hc16 : c < 16) (ho : f_X0_isOpen (nI sz) g (nI c) = b01 (!b)) {N : Nat} {rc rc' : Int32} {fs st ln su rr cr fs' st' ln' su' rr' cr' : Nat → Int32} (e : f_X0_findRuns N (nI sz) rc (upd g c (if b = true then 0 else -1)) fs st ln su rr cr = some (rc', fs', st', ln', su', rr', cr')) :
    f_X0_turn N (nI sz) rc g fs st ln su rr cr (nI c) = some (rc', upd g c (if b = true then 0 else -1), fs', st', ln', su', rr', cr') := by
  have hput : ∀ y, f_X3_put 16 g (nI c) y = upd g c y := fun y => put_in _ _ (by decide) hc16
  rw [f_X0_turn, jn_p, ho]
  cases b
  · rw [if_neg (show ¬ b01 (!false) = 0 from one_ne0)]
    dsimp only
    rw [hput]
    rw [if_neg (show ¬ (false = true) from by decide)] at e ⊢
    rw [e]; rfl
  · rw [if_pos (show b01 (!true) = 0 from rfl)]
    dsimp only
    rw [hput]
    rw [if_pos rfl] at e ⊢
    rw [e]; rfl
theorem needCell_t {c : Nat} (hs : sz ≤ 4) (hc : isC sz c = true) : f_X3_needCell (nI sz) (nI c) = some (.inl ()) ∧ f_X4_isCell (nI sz) (nI c) = 1 := by
  have := (isC_lt hc).1
  rw [f_X3_needCell, hasCell_nI hs (by omega), isCell_nI hs (by omega), hc, if_neg (show ¬ b01 true = 0 from one_ne0)]
  exact ⟨rfl, rfl⟩
theorem cell_cases (hs : sz ≤ 4) (p : Int32) : (f_X3_needCell (nI sz) p = some (.inr 3) ∧ f_X4_isCell (nI sz) p = 0) ∨ ∃ c : Nat, p = nI c ∧ isC sz c = true ∧ f_X3_needCell (nI sz) p = some (.inl ()) ∧ f_X4_isCell (nI sz) p = 1 := by
  rcases i_cases p with h | ⟨j, hj, rfl⟩
  · left
    rw [f_X3_needCell, hasCell_neg h, if_pos rfl, isCell_neg h]
    exact ⟨rfl, rfl⟩
  · cases hq : isC sz j
    · left
      rw [f_X3_needCell, hasCell_nI hs hj, hq, isCell_nI hs hj, hq, if_pos b01_f]
      exact ⟨rfl, rfl⟩
    · right
      exact ⟨j, rfl, hq, needCell_t hs hq⟩
end DRAW
theorem opp_eq {sz c : Nat} (hs : sz ≤ 4) (hc : isC sz c = true) : ∃ o : Nat, isC sz o = true ∧ f_X0_oppositeOf (nI sz) (nI c) = nI o ∧ ((((4 * ((nI sz - 1) - (nI c / 4))) + nI sz) - 1) - (nI c - nI c / 4 * 4)) = nI o := by
  obtain ⟨c1, c2, c3⟩ := isC_lt hc
  have a1 : nI sz - 1 = nI (sz - 1) := nI_sub (a := sz) (b := 1) (by omega)
  have a2 : nI c / 4 = nI (c / 4) := nI_div (b := 4) (by omega) (by decide) (by decide)
  have a3 : nI c - nI c / 4 * 4 = nI (c % 4) := nI_mod (b := 4) (by omega) (by decide) (by decide)
  have a4 : nI (sz - 1) - nI (c / 4) = nI (sz - 1 - c / 4) := nI_sub (by omega)
  have a5 : nI (sz - 1) - nI (c % 4) = nI (sz - 1 - c % 4) := nI_sub (by omega)
  have a6 : nI (sz - 1 - c / 4) * 4 = nI ((sz - 1 - c / 4) * 4) := nI_mul _ 4
  have a7 : 4 * nI (sz - 1 - c / 4) = nI (4 * (sz - 1 - c / 4)) := nI_mul 4 _
  have a8 : nI (4 * (sz - 1 - c / 4) + sz) - 1 = nI (4 * (sz - 1 - c / 4) + sz - 1) := nI_sub (b := 1) (by omega)
  refine ⟨(sz - 1 - c / 4) * 4 + (sz - 1 - c % 4), ?_, ?_, ?_⟩
  · simp only [isC, Bool.and_eq_true, decide_eq_true_eq]; omega
  · rw [f_X0_oppositeOf, a1, a3, a2, a4, a5, a6, nI_add]
  · rw [a1, a3, a2, a4, a7, nI_add, a8, nI_sub (by omega)]
    exact congrArg nI (by omega)
theorem rng_cases (M : Nat) (hM : M < 2 ^ 31) (p : Int32) : (f_X4_in p 0 (nI M) = 0 ∧ (p < 0 ∨ (¬ p < 0 ∧ ¬ p ≤ nI M))) ∨ ∃ j : Nat, j ≤ M ∧ p = nI j ∧ f_X4_in p 0 (nI M) = 1 ∧ ¬ p < 0 ∧ p ≤ nI M := by
  rcases i_cases p with h | ⟨j, hj, rfl⟩
  · exact Or.inl ⟨in_neg h 0 (by decide) _, Or.inl h⟩
  · have hin : f_X4_in (nI j) 0 (nI M) = b01 (decide (0 ≤ j) && decide (j ≤ M)) := in_nI (a := 0) hj (by decide) hM
    by_cases q : j ≤ M
    · exact Or.inr ⟨j, q, rfl, by rw [hin, decide_eq_true q]; rfl, nI_pos hj, nI_le q hM⟩
    · exact Or.inl ⟨by rw [hin, decide_eq_false q]; rfl, Or.inr ⟨nI_pos hj, nI_ge (by omega) hj⟩⟩
theorem run_cases {rs : Rn} {rc mrn : Int32} {fs st ln mfi mst mle : Nat → Int32} (h1 : RT rs rc fs st ln) (h2 : RT rs mrn mfi mst mle) (p : Int32) : (f_X3_needRun rc p = some (.inr 3) ∧ f_X4_isRun mrn p = some 0) ∨ ∃ (r : Nat) (t : Nat × Nat × Nat), p = nI r ∧ r < 8 ∧ rs[r]? = some t ∧ f_X3_needRun rc p = some (.inl ()) ∧ f_X4_isRun mrn p = some 1 := by
  have h8 := h1.2.1
  have g0 : ∀ x : Int32, x = 0 → gd (x = 0 ∨ x = 1) (some x) = some 0 := fun x hx => by rw [gd_t (Or.inl hx), hx]
  have g1 : ∀ x : Int32, x = 1 → gd (x = 0 ∨ x = 1) (some x) = some 1 := fun x hx => by rw [gd_t (Or.inr hx), hx]
  rcases i_cases p with h | ⟨j, hj, rfl⟩
  · left
    have e : f_X0_hasRun rc p = 0 := by simp only [f_X0_hasRun, jn_p, if_pos h]
    exact ⟨by rw [f_X3_needRun, e, if_pos rfl], by rw [f_X4_isRun]; exact g0 _ (in_neg h 0 (by decide) _)⟩
  · by_cases q : j < rs.length
    · right
      obtain ⟨t, hr⟩ : ∃ t, rs[j]? = some t := ⟨_, List.getElem?_eq_getElem q⟩
      have e : f_X0_hasRun rc (nI j) = 1 := by
        rw [h1.1]
        simp only [f_X0_hasRun, jn_p, if_neg (nI_pos hj), if_neg (nI_ge q (show rs.length < 2 ^ 31 by omega))]
      have e2 : f_X4_in (nI j) 0 (mrn - 1) = 1 := by
        rw [h2.1, show (1 : Int32) = nI 1 from rfl, nI_sub (show 1 ≤ rs.length by omega)]
        have := in_nI (j := j) (a := 0) (b := rs.length - 1) hj (by decide) (by omega)
        rw [decide_eq_true (show 0 ≤ j by omega), decide_eq_true (show j ≤ rs.length - 1 by omega)] at this
        exact this
      exact ⟨j, t, rfl, by omega, hr, by rw [f_X3_needRun, e, if_neg one_ne0], by rw [f_X4_isRun]; exact g1 _ e2⟩
    · left
      have e : f_X0_hasRun rc (nI j) = 0 := by
        rw [h1.1]
        simp only [f_X0_hasRun, jn_p, if_neg (nI_pos hj), if_pos (nI_le (show rs.length ≤ j by omega) hj)]
      have e2 : f_X4_in (nI j) 0 (mrn - 1) = 0 := by
        rw [h2.1]
        rcases Nat.eq_zero_or_pos rs.length with z | z
        · rw [z]
          have a1 : ¬ nI j < (0 : Int32) := nI_pos hj
          have a2 : nI 0 - 1 < nI j := by
            rw [Int32.lt_iff_toInt_lt, nI_toInt hj]
            have : (nI 0 - 1).toInt = -1 := by decide
            omega
          simp only [f_X4_in, jn_p, if_neg a1, if_pos a2]
        · rw [show (1 : Int32) = nI 1 from rfl, nI_sub (show 1 ≤ rs.length by omega)]
          have := in_nI (j := j) (a := 0) (b := rs.length - 1) hj (by decide) (by omega)
          rw [decide_eq_false (show ¬ j ≤ rs.length - 1 by omega), Bool.and_false] at this
          exact this
      exact ⟨by rw [f_X3_needRun, e, if_pos rfl], by rw [f_X4_isRun]; exact g0 _ e2⟩
