/-! the two boards hold the same: drawing -/
def INV (size rc : Int32) (g fs st ln su rr cr : Nat → Int32) (msz mrn : Int32) (mba mgi mfi mle mst msu : Nat → Int32) : Prop := ∃ (sz : Nat) (rs : Rn), size = nI sz ∧ msz = nI sz ∧ Cells sz mba mgi g ∧ RT rs rc fs st ln ∧ RT rs mrn mfi mst mle ∧ RRel rs rr cr ∧ VR sz mba rs ∧ ∀ r, r < rs.length → su r = msu r ∧ ∃ v : Nat, v ≤ 45 ∧ su r = nI v
theorem nar_0 : vp_nar .boolean 0 = 0 := rfl
theorem nar_1 : vp_nar .boolean 1 = 1 := rfl
theorem sm_inl {α β γ : Type} (a : α) (f : α → γ) (g : β → γ) : sm (.inl a) f g = f a := rfl
theorem sm_inr {α β γ : Type} (b : β) (f : α → γ) (g : β → γ) : sm (.inr b) f g = g b := rfl
section DRAW
variable {sz : Nat} {mba mgi g : Nat → Int32}
theorem draw_both (hC : Cells sz mba mgi g) {N : Nat} (hN : 16 < N) (rc : Int32) (fs st ln su rr cr : Nat → Int32) (mrn : Int32) (mfi mle mst msu : Nat → Int32) :
    ∃ (rc' : Int32) (fs' st' ln' su' rr' cr' : Nat → Int32) (mrn' : Int32) (mfi' mle' mst' msu' : Nat → Int32), f_X0_findRuns N (nI sz) rc g fs st ln su rr cr = some (rc', fs', st', ln', su', rr', cr') ∧ f_X4_layRuns N (nI sz) mrn mba mfi mle mst msu = some (mrn', mfi', mle', mst', msu') ∧ INV (nI sz) rc' g fs' st' ln' su' rr' cr' (nI sz) mrn' mba mgi mfi' mle' mst' msu' := by
  obtain ⟨⟨x1, x2, x3, x4, x5, x6, x7⟩, e1, ⟨a1, a2, a3, -, -⟩, a4⟩ := findRuns_eq hC hN rc fs st ln su rr cr
  obtain ⟨⟨y1, y2, y3, y4, y5⟩, e2, b1, b2⟩ := layRuns_eq hC hN mrn mfi mle mst msu
  refine ⟨x1, x2, x3, x4, x5, x6, x7, y1, y2, y3, y4, y5, e1, e2, sz, runsTo sz mba (2 * sz), rfl, rfl, hC, a1, b1, a2, a3, fun r hr => ?_⟩
  have h8 := a1.2.1
  have q1 : x5 r = 0 := a4 r (by omega)
  have q2 : y5 r = 0 := b2 r hr
  exact ⟨by rw [q1, q2], 0, by omega, by rw [q1]; rfl⟩
theorem zero_cells {j : Nat} (h2 : 2 ≤ j) (h4 : j ≤ 4) (h : ∀ c, c < 16 → mba c = 0 ∧ mgi c = 0 ∧ g c = 0) : Cells j mba mgi g := by
  refine ⟨⟨h2, h4⟩, fun c hc => ?_⟩
  obtain ⟨a1, a2, a3⟩ := h c hc
  refine ⟨Or.inl a1, ⟨0, by omega, a2⟩, fun q => ?_, fun _ => a2, ?_⟩
  · rw [a1] at q; exact absurd q zero_ne1
  · rw [a3, a1, if_neg zero_ne1, a2]
theorem beginM_L (kk : _) : ∀ (k i n : Nat) (mba mgi : Nat → Int32), i + k = 16 → k < n → (∀ c, c < i → mba c = 0 ∧ mgi c = 0) → ∃ mba' mgi' : Nat → Int32, f_X4_begin_L28 kk n (nI i) mba mgi = kk mba' mgi' ∧ ∀ c, c < 16 → mba' c = 0 ∧ mgi' c = 0
  | 0, i, n, mba, mgi, hi, hn, hf => by
    obtain ⟨m, rfl⟩ : ∃ m, n = m + 1 := ⟨n - 1, by omega⟩
    obtain rfl : i = 16 := by omega
    rw [f_X4_begin_L28.eq_2, if_pos (by decide)]
    exact ⟨mba, mgi, rfl, hf⟩
  | k + 1, i, n, mba, mgi, hi, hn, hf => by
    obtain ⟨m, rfl⟩ : ∃ m, n = m + 1 := ⟨n - 1, by omega⟩
    rw [f_X4_begin_L28.eq_2, if_neg (show ¬ (16 : Int32) ≤ nI i from nI_ge (b := 16) (by omega) (by decide)), gd_t (inR_in (by decide) (by omega)), gd_t (inR_in (by decide) (by omega)), nI_1, nI_clamp (by omega), nar_0]
    refine beginM_L kk k (i + 1) m _ _ (by omega) (by omega) fun c hc => ?_
    by_cases h : c = i
    · rw [h, upd_eq, upd_eq]; exact ⟨rfl, rfl⟩
    · rw [upd_ne _ _ h, upd_ne _ _ h]; exact hf c (by omega)
theorem turn_cells (hC : Cells sz mba mgi g) {c : Nat} (hc : isC sz c = true) : ∃ b : Bool, f_X4_turn mba mgi (nI c) = some (upd mba c (b01 (!b)), upd mgi c 0) ∧ f_X0_isOpen (nI sz) g (nI c) = b01 (!b) ∧ Cells sz (upd mba c (b01 (!b))) (upd mgi c 0) (upd g c (if b = true then 0 else -1)) := by
  have hc16 := (isC_lt hc).1
  have hin : inR (nI c) 16 := inR_in (by decide) hc16
  have hcl : (nI c).toNatClampNeg = c := nI_clamp (by omega)
  have hcells : ∀ (b : Bool), Cells sz (upd mba c (b01 (!b))) (upd mgi c 0) (upd g c (if b = true then 0 else -1)) := by
    intro b
    refine ⟨hC.1, fun x hx => ?_⟩
    by_cases hq : x = c
    · rw [hq, upd_eq, upd_eq, upd_eq]
      refine ⟨?_, ⟨0, by omega, rfl⟩, fun _ => ⟨rfl, hc⟩, fun _ => rfl, ?_⟩
      · cases b
        · exact Or.inr rfl
        · exact Or.inl rfl
      · cases b
        · rw [if_neg (by decide), if_pos (show b01 (!false) = 1 from rfl)]
        · rw [if_pos rfl, if_neg (show ¬ b01 (!true) = 1 from zero_ne1)]
    · rw [upd_ne _ _ hq, upd_ne _ _ hq, upd_ne _ _ hq]
      exact hC.2 x hx
  rcases (hC.2 c hc16).1 with hm | hm
  · refine ⟨false, ?_, ?_, hcells false⟩
    · simp only [f_X4_turn, gd_t hin, hcl, jn_p, hm, if_true, nar_1]
      rfl
    · rw [hC.isOpen hc16, opn, hc, hm]; rfl
  · refine ⟨true, ?_, ?_, hcells true⟩
    · simp only [f_X4_turn, gd_t hin, hcl, jn_p, hm, if_neg one_ne0, nar_0]
      rfl
    · rw [hC.isOpen hc16, opn, hc, hm]; rfl
theorem turnC_eq {b : Bool} {c : Nat} (hc16 : c < 16) (ho : f_X0_isOpen (nI sz) g (nI c) = b01 (!b)) {N : Nat} {rc rc' : Int32} {fs st ln su rr cr fs' st' ln' su' rr' cr' : Nat → Int32} (e : f_X0_findRuns N (nI sz) rc (upd g c (if b = true then 0 else -1)) fs st ln su rr cr = some (rc', fs', st', ln', su', rr', cr')) :
    f_X0_turn N (nI sz) rc g fs st ln su rr cr (nI c) = some (rc', upd g c (if b = true then 0 else -1), fs', st', ln', su', rr', cr') := by
  have hput : ∀ y, f_X3_put 16 g (nI c) y = upd g c y := fun y => put_in _ _ (by decide) hc16
  rw [f_X0_turn, jn_p, ho]
  cases b
  · rw [if_neg (show ¬ b01 (!false) = 0 from one_ne0)]
    dsimp only
    rw [hput]
    rw [if_neg (show ¬ (false = true) from by decide)] at e ⊢
    rw [e]; rfl
  · rw [if_pos (show b01 (!true) = 0 from rfl)]
    dsimp only
    rw [hput]
    rw [if_pos rfl] at e ⊢
    rw [e]; rfl
theorem needCell_t {c : Nat} (hs : sz ≤ 4) (hc : isC sz c = true) : f_X3_needCell (nI sz) (nI c) = some (.inl ()) ∧ f_X4_isCell (nI sz) (nI c) = 1 := by
  have := (isC_lt hc).1
  rw [f_X3_needCell, hasCell_nI hs (by omega), isCell_nI hs (by omega), hc, if_neg (show ¬ b01 true = 0 from one_ne0)]
  exact ⟨rfl, rfl⟩
theorem cell_cases (hs : sz ≤ 4) (p : Int32) : (f_X3_needCell (nI sz) p = some (.inr 3) ∧ f_X4_isCell (nI sz) p = 0) ∨ ∃ c : Nat, p = nI c ∧ isC sz c = true ∧ f_X3_needCell (nI sz) p = some (.inl ()) ∧ f_X4_isCell (nI sz) p = 1 := by
  rcases i_cases p with h | ⟨j, hj, rfl⟩
  · left
    rw [f_X3_needCell, hasCell_neg h, if_pos rfl, isCell_neg h]
    exact ⟨rfl, rfl⟩
  · cases hq : isC sz j
    · left
      rw [f_X3_needCell, hasCell_nI hs hj, hq, isCell_nI hs hj, hq, if_pos b01_f]
      exact ⟨rfl, rfl⟩
    · right
      exact ⟨j, rfl, hq, needCell_t hs hq⟩
end DRAW
section CALLS
variable {size rc msz mrn : Int32} {g fs st ln su rr cr mba mgi mfi mle mst msu : Nat → Int32}
theorem begin_both (hI : INV size rc g fs st ln su rr cr msz mrn mba mgi mfi mle mst msu) {N : Nat} (hN : 50000 < N) (mth p : Int32) : ∃ (k size' rc' : Int32) (g' fs' st' ln' su' rr' cr' : Nat → Int32) (msz' mrn' : Int32) (mba' mgi' mfi' mle' mst' msu' : Nat → Int32), f_L_begin N size rc g fs st ln su rr cr p = some (k, size', rc', g', fs', st', ln', su', rr', cr') ∧ f_X4_begin N mth msz mrn mba mgi mfi mle mst msu p = some (k, msz', mrn', mba', mgi', mfi', mle', mst', msu') ∧ INV size' rc' g' fs' st' ln' su' rr' cr' msz' mrn' mba' mgi' mfi' mle' mst' msu' := by
  have hcase : (f_X3_begin N size rc g fs st ln su rr cr p = some (.inr (1, size, rc, g, fs, st, ln, su, rr, cr)) ∧ f_X4_in p 2 4 = 0) ∨ ∃ j : Nat, 2 ≤ j ∧ j ≤ 4 ∧ p = nI j := by
    rcases i_cases p with h | ⟨j, hj, rfl⟩
    · left
      have h2 : p < 2 := lt_nI_neg h 2 (by decide)
      refine ⟨?_, in_neg h 2 (by decide) 4⟩
      simp only [f_X3_begin, jn_p, if_pos h2]
    · have hin : f_X4_in (nI j) 2 4 = b01 (decide (2 ≤ j) && decide (j ≤ 4)) := in_nI (a := 2) (b := 4) hj (by decide) (by decide)
      by_cases q2 : 2 ≤ j
      · by_cases q4 : j ≤ 4
        · exact Or.inr ⟨j, q2, q4, rfl⟩
        · left
          have h2 : ¬ nI j < (2 : Int32) := nI_nlt (a := j) (b := 2) q2 hj
          have h4 : ¬ nI j ≤ (4 : Int32) := nI_ge (a := 4) (b := j) (by omega) hj
          refine ⟨?_, by rw [hin, decide_eq_false q4, Bool.and_false]; rfl⟩
          simp only [f_X3_begin, jn_p, if_neg h2, if_neg h4]
      · left
        have h2 : nI j < (2 : Int32) := nI_lt (a := j) (b := 2) (by omega) (by decide)
        refine ⟨?_, by rw [hin, decide_eq_false q2, Bool.false_and]; rfl⟩
        simp only [f_X3_begin, jn_p, if_pos h2]
  rcases hcase with ⟨e1, e2⟩ | ⟨j, q2, q4, rfl⟩
  · refine ⟨1, size, rc, g, fs, st, ln, su, rr, cr, msz, mrn, mba, mgi, mfi, mle, mst, msu, ?_, ?_, hI⟩
    · rw [f_L_begin, e1, Option.bind_some, sm_inr]; rfl
    · simp only [f_X4_begin, jn_p, e2, f_X4_goesWell, if_true, if_neg one_ne0]
  · have h2 : ¬ nI j < (2 : Int32) := nI_nlt (a := j) (b := 2) q2 (by omega)
    have h4 : nI j ≤ (4 : Int32) := nI_le (a := j) (b := 4) q4 (by decide)
    have hin : f_X4_in (nI j) 2 4 = 1 := by
      have := in_nI (j := j) (a := 2) (b := 4) (by omega) (by decide) (by decide)
      rw [decide_eq_true q2, decide_eq_true q4] at this
      exact this
    obtain ⟨g1, e1, f1⟩ := fill_eq (N := N) (n := 16) (by decide) (by omega) g 0
    obtain ⟨mba1, mgi1, e2, f2⟩ := beginM_L (fun (mba_54 : Nat → Int32) (mgi_54 : Nat → Int32) => (f_X4_layRuns N (nI j) mrn mba_54 mfi mle mst msu).bind fun x55 => some ((0 : Int32), nI j, x55.1, mba_54, mgi_54, x55.2.1, x55.2.2.1, x55.2.2.2.1, x55.2.2.2.2)) 16 0 N mba mgi (by omega) (by omega) (fun c hc => by omega)
    have hC : Cells j mba1 mgi1 g1 := zero_cells q2 q4 (fun c hc => ⟨(f2 c hc).1, (f2 c hc).2, f1 c hc⟩)
    obtain ⟨rc', fs', st', ln', su', rr', cr', mrn', mfi', mle', mst', msu', d1, d2, d3⟩ := draw_both hC (N := N) (by omega) rc fs st ln su rr cr mrn mfi mle mst msu
    refine ⟨0, nI j, rc', g1, fs', st', ln', su', rr', cr', nI j, mrn', mba1, mgi1, mfi', mle', mst', msu', ?_, ?_, d3⟩
    · simp only [f_L_begin, f_X3_begin, jn_p, if_neg h2, if_pos h4, f_X0_clear, e1, Option.bind_some, d1, sm_inl, sm_inr]
    · simp only [f_X4_begin, jn_p, hin, f_X4_goesWell, if_neg one_ne0, if_true]
      refine Eq.trans e2 ?_
      simp only [d2, Option.bind_some]
theorem bar_both (hI : INV size rc g fs st ln su rr cr msz mrn mba mgi mfi mle mst msu) {N : Nat} (hN : 50000 < N) (mth p : Int32) (ou : Nat → Int64) : ∃ (k ans rc' : Int32) (g' fs' st' ln' su' rr' cr' : Nat → Int32) (ou' : Nat → Int64) (mrn' : Int32) (mba' mgi' mfi' mle' mst' msu' : Nat → Int32), f_L_bar N size rc g fs st ln su rr cr ou p = some (k, rc', g', fs', st', ln', su', rr', cr', ou') ∧ f_X4_bar N mth msz mrn mba mgi mfi mle mst msu p = some (ans, k, mrn', mba', mgi', mfi', mle', mst', msu') ∧ (k = 0 → (ans = 0 → ou' 0 = 0) ∧ (¬ ans = 0 → ou' 0 = 1)) ∧ INV size rc' g' fs' st' ln' su' rr' cr' msz mrn' mba' mgi' mfi' mle' mst' msu' := by
  obtain ⟨sz, rs, rfl, rfl, hC, h1, h2, hR, hV, hsu⟩ := id hI
  rcases cell_cases hC.1.2 p with ⟨e1, e2⟩ | ⟨c, rfl, hc, e1, e2⟩
  · refine ⟨1, 0, rc, g, fs, st, ln, su, rr, cr, ou, mrn, mba, mgi, mfi, mle, mst, msu, ?_, ?_, fun q => absurd q one_ne0, hI⟩
    · simp only [f_L_bar, f_X3_bar, e1, Option.bind_some, sm_inl, sm_inr, if_true]
    · simp only [f_X4_bar, jn_p, e2, f_X4_goesWell, if_true, if_neg one_ne0]
  · have hc16 := (isC_lt hc).1
    have hin : inR (nI c) 16 := inR_in (by decide) hc16
    have hcl : (nI c).toNatClampNeg = c := nI_clamp (by omega)
    obtain ⟨b, t1, t2, t3⟩ := turn_cells hC hc
    obtain ⟨rc', fs', st', ln', su', rr', cr', mrn', mfi', mle', mst', msu', d1, d2, d3⟩ := draw_both t3 (N := N) (by omega) rc fs st ln su rr cr mrn mfi mle mst msu
    have t4 := turnC_eq hc16 t2 d1
    have t5 : f_X0_isOpen (nI sz) (upd g c (if b = true then 0 else -1)) (nI c) = b01 b := by
      rw [t3.isOpen hc16, opn, hc, upd_eq]
      cases b <;> rfl
    refine ⟨0, b01 (!b), rc', upd g c (if b = true then 0 else -1), fs', st', ln', su', rr', cr', vp_updL ou ((0 : Int32)).toNatClampNeg (if b = true then 0 else 1), mrn', upd mba c (b01 (!b)), upd mgi c 0, mfi', mle', mst', msu', ?_, ?_, fun _ => ⟨fun q => ?_, fun q => ?_⟩, d3⟩
    · simp only [f_L_bar, f_X3_bar, e1, Option.bind_some, sm_inl, sm_inr, t4, t5]
      cases b
      · rw [if_pos b01_f, Option.bind_some, sm_inl]; rfl
      · rw [if_neg (show ¬ b01 true = 0 from one_ne0), Option.bind_some, sm_inl]; rfl
    · have hb : b01 (!b) = 0 ∨ b01 (!b) = 1 := by
        cases b
        · exact Or.inr rfl
        · exact Or.inl rfl
      simp only [f_X4_bar, jn_p, e2, f_X4_goesWell, if_true, if_neg one_ne0, t1, Option.bind_some, d2, gd_t hin, hcl, upd_eq, gd_t hb]
    · cases b
      · exact absurd q one_ne0
      · rfl
    · cases b
      · rfl
      · exact absurd rfl q
theorem opp_eq {sz c : Nat} (hs : sz ≤ 4) (hc : isC sz c = true) : ∃ o : Nat, isC sz o = true ∧ f_X0_oppositeOf (nI sz) (nI c) = nI o ∧ ((((4 * ((nI sz - 1) - (nI c / 4))) + nI sz) - 1) - (nI c - nI c / 4 * 4)) = nI o := by
  obtain ⟨c1, c2, c3⟩ := isC_lt hc
  have a1 : nI sz - 1 = nI (sz - 1) := nI_sub (a := sz) (b := 1) (by omega)
  have a2 : nI c / 4 = nI (c / 4) := nI_div (b := 4) (by omega) (by decide) (by decide)
  have a3 : nI c - nI c / 4 * 4 = nI (c % 4) := nI_mod (b := 4) (by omega) (by decide) (by decide)
  have a4 : nI (sz - 1) - nI (c / 4) = nI (sz - 1 - c / 4) := nI_sub (by omega)
  have a5 : nI (sz - 1) - nI (c % 4) = nI (sz - 1 - c % 4) := nI_sub (by omega)
  have a6 : nI (sz - 1 - c / 4) * 4 = nI ((sz - 1 - c / 4) * 4) := nI_mul _ 4
  have a7 : 4 * nI (sz - 1 - c / 4) = nI (4 * (sz - 1 - c / 4)) := nI_mul 4 _
  have a8 : nI (4 * (sz - 1 - c / 4) + sz) - 1 = nI (4 * (sz - 1 - c / 4) + sz - 1) := nI_sub (b := 1) (by omega)
  refine ⟨(sz - 1 - c / 4) * 4 + (sz - 1 - c % 4), ?_, ?_, ?_⟩
  · simp only [isC, Bool.and_eq_true, decide_eq_true_eq]; omega
  · rw [f_X0_oppositeOf, a1, a3, a2, a4, a5, a6, nI_add]
  · rw [a1, a3, a2, a4, a7, nI_add, a8, nI_sub (by omega)]
    exact congrArg nI (by omega)
theorem barBoth_both (hI : INV size rc g fs st ln su rr cr msz mrn mba mgi mfi mle mst msu) {N : Nat} (hN : 50000 < N) (mth p : Int32) (ou : Nat → Int64) : ∃ (k ans rc' : Int32) (g' fs' st' ln' su' rr' cr' : Nat → Int32) (ou' : Nat → Int64) (mrn' : Int32) (mba' mgi' mfi' mle' mst' msu' : Nat → Int32), f_L_barBoth N size rc g fs st ln su rr cr ou p = some (k, rc', g', fs', st', ln', su', rr', cr', ou') ∧ f_X4_barBoth N mth msz mrn mba mgi mfi mle mst msu p = some (ans, k, mrn', mba', mgi', mfi', mle', mst', msu') ∧ (k = 0 → ou' 0 = ans.toInt64) ∧ INV size rc' g' fs' st' ln' su' rr' cr' msz mrn' mba' mgi' mfi' mle' mst' msu' := by
  obtain ⟨sz, rs, rfl, rfl, hC, h1, h2, hR, hV, hsu⟩ := id hI
  rcases cell_cases hC.1.2 p with ⟨e1, e2⟩ | ⟨c, rfl, hc, e1, e2⟩
  · refine ⟨1, 0, rc, g, fs, st, ln, su, rr, cr, ou, mrn, mba, mgi, mfi, mle, mst, msu, ?_, ?_, fun q => absurd q one_ne0, hI⟩
    · simp only [f_L_barBoth, f_X3_barBoth, e1, Option.bind_some, sm_inr, if_true]
    · simp only [f_X4_barBoth, jn_p, e2, f_X4_goesWell, if_true, if_neg one_ne0]
  · have hc16 := (isC_lt hc).1
    obtain ⟨o, ho, o1, o2⟩ := opp_eq hC.1.2 hc
    have ho16 := (isC_lt ho).1
    obtain ⟨b, t1, t2, t3⟩ := turn_cells hC hc
    obtain ⟨rc', fs', st', ln', su', rr', cr', mrn', mfi', mle', mst', msu', d1, d2, d3⟩ := draw_both t3 (N := N) (by omega) rc fs st ln su rr cr mrn mfi mle mst msu
    have t4 := turnC_eq hc16 t2 d1
    by_cases hoc : o = c
    · have e3 : nI o = nI c := by rw [hoc]
      have q1 := t3.countOpen (N := N) (by omega)
      have q2 := t3.countOpenM (N := N) (by omega)
      refine ⟨0, nI sz * nI sz - nI (cnt (opn sz (upd mba c (b01 (!b)))) 0 16), rc', upd g c (if b = true then 0 else -1), fs', st', ln', su', rr', cr', vp_updL ou ((0 : Int32)).toNatClampNeg ((nI sz * nI sz - nI (cnt (opn sz (upd mba c (b01 (!b)))) 0 16) : Int32).toInt64), mrn', upd mba c (b01 (!b)), upd mgi c 0, mfi', mle', mst', msu', ?_, ?_, fun _ => rfl, d3⟩
      · simp only [f_L_barBoth, f_X3_barBoth, jn_p, e1, Option.bind_some, sm_inl, t4, o1, if_pos e3, f_X0_countBarred, q1]
      · simp only [f_X4_barBoth, jn_p, e2, f_X4_goesWell, if_true, if_neg one_ne0, t1, Option.bind_some, o2, if_pos e3, d2, q2]
    · have e3 : ¬ nI o = nI c := fun w => hoc ((nI_inj (by omega) (by omega)).mp w)
      obtain ⟨b2, s1, s2, s3⟩ := turn_cells t3 ho
      obtain ⟨rc2, fs2, st2, ln2, su2, rr2, cr2, mrn2, mfi2, mle2, mst2, msu2, v1, v2, v3⟩ := draw_both s3 (N := N) (by omega) rc' fs' st' ln' su' rr' cr' mrn mfi mle mst msu
      have s4 := turnC_eq ho16 s2 v1
      have q1 := s3.countOpen (N := N) (by omega)
      have q2 := s3.countOpenM (N := N) (by omega)
      refine ⟨0, nI sz * nI sz - nI (cnt (opn sz (upd (upd mba c (b01 (!b))) o (b01 (!b2)))) 0 16), rc2, upd (upd g c (if b = true then 0 else -1)) o (if b2 = true then 0 else -1), fs2, st2, ln2, su2, rr2, cr2, vp_updL ou ((0 : Int32)).toNatClampNeg ((nI sz * nI sz - nI (cnt (opn sz (upd (upd mba c (b01 (!b))) o (b01 (!b2)))) 0 16) : Int32).toInt64), mrn2, upd (upd mba c (b01 (!b))) o (b01 (!b2)), upd (upd mgi c 0) o 0, mfi2, mle2, mst2, msu2, ?_, ?_, fun _ => rfl, v3⟩
      · simp only [f_L_barBoth, f_X3_barBoth, jn_p, e1, Option.bind_some, sm_inl, t4, o1, if_neg e3, s4, f_X0_countBarred, q1]
      · simp only [f_X4_barBoth, jn_p, e2, f_X4_goesWell, if_true, if_neg one_ne0, t1, Option.bind_some, o2, if_neg e3, s1, v2, q2]
end CALLS
