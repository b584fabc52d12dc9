/-! the rule 2, run by run -/
section R2B
variable {sz : Nat} {mba : Nat → Int32} {rs : Rn} {rc mrn : Int32} {fs st ln mfi mst mle su msu : Nat → Int32}
theorem held_L (h1 : RT rs rc fs st ln) (h2 : RT rs mrn mfi mst mle) (hV : VR sz mba rs) {r : Nat} {t : Nat × Nat × Nat} (hr : rs[r]? = some t) {tk mhs : Int32} {se mca : Nat → Int32} (hs : SR tk mhs se mca) (kk kk' : _) : ∀ (k j n nm : Nat) (v3 : Int32), j + k = t.2.2 → k < n → k < nm →
    ∃ x : Int32, f_X1_takeOutsideSets_L14 (nI r) (nI t.2.2) fs st se kk n v3 (nI j) = kk x ∧ f_X4_goThroughSets_L17 (nI r) mfi mle mst mca kk' nm v3 (nI j) = kk' x
  | 0, j, n, nm, v3, hj, hn, hnm => by
    obtain ⟨m, rfl⟩ : ∃ m, n = m + 1 := ⟨n - 1, by omega⟩
    obtain ⟨mm, rfl⟩ : ∃ mm, nm = mm + 1 := ⟨nm - 1, by omega⟩
    have hv := hV.at hr
    obtain ⟨hin, hcl, hle⟩ := h2.lenM hr
    rw [f_X1_takeOutsideSets_L14.eq_2, f_X4_goThroughSets_L17.eq_2, gd_t hin, hcl, hle, if_pos (nI_le (by omega) (by omega)), if_pos (nI_le (by omega) (by omega))]
    exact ⟨v3, rfl, rfl⟩
  | k + 1, j, n, nm, v3, hj, hn, hnm => by
    obtain ⟨m, rfl⟩ : ∃ m, n = m + 1 := ⟨n - 1, by omega⟩
    obtain ⟨mm, rfl⟩ : ∃ mm, nm = mm + 1 := ⟨nm - 1, by omega⟩
    have hv := hV.at hr
    obtain ⟨hin, hcl, hle⟩ := h2.lenM hr
    have hge : ¬ nI t.2.2 ≤ nI j := nI_ge (by omega) (by omega)
    have hc16 := (hv.2.2.2 j (by omega)).2
    have hinc : inR (nI (t.1 + j * t.2.1)) 16 := inR_in (by decide) hc16
    have hclc : (nI (t.1 + j * t.2.1)).toNatClampNeg = t.1 + j * t.2.1 := nI_clamp (by omega)
    obtain ⟨e1, v, hv1024, e2⟩ := hs.2.2 _ hc16
    have h3 : f_X1_isSingle (se (t.1 + j * t.2.1)) = f_X4_isSingle (se (t.1 + j * t.2.1)) := by rw [e2]; exact F3 ⟨v, hv1024⟩
    rw [f_X1_takeOutsideSets_L14.eq_2, f_X4_goThroughSets_L17.eq_2, gd_t hin, hcl, hle, if_neg hge, if_neg hge, h1.cell hr, h2.cellM hr, at_in _ (by decide) hc16, h3]
    simp only [jn_p, Option.bind_some, nI_1, hclc, ← e1]
    rw [gd_t hinc]
    by_cases hq : f_X4_isSingle (se (t.1 + j * t.2.1)) = 0
    · rw [if_pos hq, if_pos hq, Int32.or_zero]
      exact held_L h1 h2 hV hr hs kk kk' k (j + 1) m mm v3 (by omega) (by omega) (by omega)
    · rw [if_neg hq, if_neg hq]
      exact held_L h1 h2 hV hr hs kk kk' k (j + 1) m mm _ (by omega) (by omega) (by omega)
theorem out_L (h1 : RT rs rc fs st ln) (h2 : RT rs mrn mfi mst mle) (hV : VR sz mba rs) {r : Nat} {t : Nat × Nat × Nat} (hr : rs[r]? = some t) (hpos : ¬ msu r ≤ 0) (x : Int32) (kk' : _) : ∀ (k j n nm : Nat) (tk mhs : Int32) (se mca : Nat → Int32), j + k = t.2.2 → k < n → k < nm → SR tk mhs se mca →
    ∃ (tk' mhs' : Int32) (se' mca' : Nat → Int32), f_X1_takeOutsideSets_L76 (nI r) (nI t.2.2) x fs st n (nI j) tk se = some (tk', se') ∧ f_X4_goThroughSets_L143 (nI r) x mfi mle mst msu kk' nm (nI j) mhs mca = kk' mhs' mca' ∧ SR tk' mhs' se' mca' ∧ LE tk se tk' se'
  | 0, j, n, nm, tk, mhs, se, mca, hj, hn, hnm, hs => by
    obtain ⟨m, rfl⟩ : ∃ m, n = m + 1 := ⟨n - 1, by omega⟩
    obtain ⟨mm, rfl⟩ : ∃ mm, nm = mm + 1 := ⟨nm - 1, by omega⟩
    have hv := hV.at hr
    obtain ⟨hin, hcl, hle⟩ := h2.lenM hr
    have hle2 : mle (nI r).toNatClampNeg = nI t.2.2 := by rw [hcl, hle]
    rw [f_X1_takeOutsideSets_L76.eq_2, f_X4_goThroughSets_L143.eq_2, gd_t hin, hle2, if_pos (nI_le (by omega) (by omega)), if_pos (nI_le (by omega) (by omega))]
    exact ⟨tk, mhs, se, mca, rfl, rfl, hs, LE.refl _ _⟩
  | k + 1, j, n, nm, tk, mhs, se, mca, hj, hn, hnm, hs => by
    obtain ⟨m, rfl⟩ : ∃ m, n = m + 1 := ⟨n - 1, by omega⟩
    obtain ⟨mm, rfl⟩ : ∃ mm, nm = mm + 1 := ⟨nm - 1, by omega⟩
    have hv := hV.at hr
    obtain ⟨hin, hcl, hle⟩ := h2.lenM hr
    have hle2 : mle (nI r).toNatClampNeg = nI t.2.2 := by rw [hcl, hle]
    have hge : ¬ nI t.2.2 ≤ nI j := nI_ge (by omega) (by omega)
    have hc16 := (hv.2.2.2 j (by omega)).2
    obtain ⟨tk1, mhs1, se1, mca1, q1, q2, q3, q4⟩ := take_both hs hc16 (1022 &&& (x ^^^ (-1)))
    rw [f_X1_takeOutsideSets_L76.eq_2, f_X4_goThroughSets_L143.eq_2, gd_t hin, hle2, if_neg hge, if_neg hge, gd_t hin, if_neg (show ¬ msu (nI r).toNatClampNeg ≤ 0 by rw [hcl]; exact hpos), h1.cell hr, h2.cellM hr]
    simp only [jn_p, Option.bind_some, nI_1, q1, q2]
    obtain ⟨tk2, mhs2, se2, mca2, w1, w2, w3, w4⟩ := out_L h1 h2 hV hr hpos x kk' k (j + 1) m mm tk1 mhs1 se1 mca1 (by omega) (by omega) (by omega) q3
    exact ⟨tk2, mhs2, se2, mca2, w1, w2, w3, q4.trans w4⟩
theorem go2_L (h1 : RT rs rc fs st ln) (h2 : RT rs mrn mfi mst mle) (hV : VR sz mba rs) (hsu : ∀ r, r < rs.length → su r = msu r ∧ ∃ v : Nat, v ≤ 45 ∧ su r = nI v) {N : Nat} (hN : 1000 < N) (sr : Nat → Int32) : ∀ (k i n nm : Nat) (tk mhs : Int32) (se mca : Nat → Int32), i + k = rs.length → k < n → k < nm → SR tk mhs se mca →
    ∃ (tk' mhs' : Int32) (se' mca' : Nat → Int32), f_X1_goThrough_L15 N 2 rc fs st ln su n (nI i) tk se sr = some (tk', se', sr) ∧ f_X4_goThroughSets_L2 N mrn mfi mle mst msu nm (nI i) mhs mca = some (mhs', mca') ∧ SR tk' mhs' se' mca' ∧ LE tk se tk' se'
  | 0, i, n, nm, tk, mhs, se, mca, hi, hn, hnm, hs => by
    obtain ⟨m, rfl⟩ : ∃ m, n = m + 1 := ⟨n - 1, by omega⟩
    obtain ⟨mm, rfl⟩ : ∃ mm, nm = mm + 1 := ⟨nm - 1, by omega⟩
    have h8 := h1.2.1
    rw [f_X1_goThrough_L15.eq_2, f_X4_goThroughSets_L2.eq_2, h1.1, h2.1, if_pos (nI_le (by omega) (by omega)), if_pos (nI_le (by omega) (by omega))]
    exact ⟨tk, mhs, se, mca, rfl, rfl, hs, LE.refl _ _⟩
  | k + 1, i, n, nm, tk, mhs, se, mca, hi, hn, hnm, hs => by
    obtain ⟨m, rfl⟩ : ∃ m, n = m + 1 := ⟨n - 1, by omega⟩
    obtain ⟨mm, rfl⟩ : ∃ mm, nm = mm + 1 := ⟨nm - 1, by omega⟩
    have h8 := h1.2.1
    obtain ⟨t, hr⟩ : ∃ t, rs[i]? = some t := ⟨_, List.getElem?_eq_getElem (by omega)⟩
    have hv := hV.at hr
    obtain ⟨hin, hcl, hle⟩ := h2.lenM hr
    have hle2 : mle (nI i).toNatClampNeg = nI t.2.2 := by rw [hcl, hle]
    obtain ⟨hs1, v, hv45, hs2⟩ := hsu i (by omega)
    have hg1 : ¬ rc ≤ nI i := by rw [h1.1]; exact nI_ge (by omega) (by omega)
    have hg2 : ¬ mrn ≤ nI i := by rw [h2.1]; exact nI_ge (by omega) (by omega)
    have h21 : ¬ (2 : Int32) = 1 := by decide
    have hsat : f_X0_sumAt su (nI i) = su i := by rw [f_X0_sumAt, at_in _ (by decide) (by omega)]
    rw [f_X1_goThrough_L15.eq_2, f_X4_goThroughSets_L2.eq_2, if_neg hg1, if_neg hg2]
    simp only [jn_p, nI_1, if_neg h21, if_true, hsat]
    obtain ⟨held, a1, a2⟩ := held_L h1 h2 hV hr hs (fun v3_58 => (f_X1_digitsOfSets N (nI t.2.2) (su i) v3_58).bind fun x68 => f_X1_takeOutsideSets_L76 (nI i) (nI t.2.2) x68 fs st N 0 tk se) (fun v2_65 => f_X4_goThroughSets_L68 N (nI i) v2_65 mle msu (fun v3_140 => f_X4_goThroughSets_L143 (nI i) v3_140 mfi mle mst msu (fun mhs_187 mca_187 => f_X4_goThroughSets_L2 N mrn mfi mle mst msu mm (nI (i + 1)) mhs_187 mca_187) N 0 mhs mca) N 0 0) t.2.2 0 N N 0 (by omega) (by omega) (by omega)
    obtain ⟨x, b1, b2⟩ := sets_L h2 (N := N) (by omega) hr (su i) held hs1.symm (fun v3_140 => f_X4_goThroughSets_L143 (nI i) v3_140 mfi mle mst msu (fun mhs_187 mca_187 => f_X4_goThroughSets_L2 N mrn mfi mle mst msu mm (nI (i + 1)) mhs_187 mca_187) N 0 mhs mca) 512 0 N N 0 (by omega) (by omega) (by omega)
    rw [show f_X4_goThroughSets_L17 (nI i) mfi mle mst mca _ N 0 0 = _ from a2, show f_X4_goThroughSets_L68 N (nI i) held mle msu _ N 0 0 = _ from b2]
    by_cases h0 : su i = 0
    · obtain ⟨NN, rfl⟩ : ∃ NN, N = NN + 1 := ⟨N - 1, by omega⟩
      have hz : ¬ nI t.2.2 ≤ 0 := nI_ge (a := 0) (by omega) (by omega)
      have hm0 : msu i ≤ 0 := by rw [← hs1, h0]; decide
      rw [if_pos h0, f_X4_goThroughSets_L143.eq_2, gd_t hin, hle2, if_neg hz, gd_t hin, if_pos (show msu (nI i).toNatClampNeg ≤ 0 by rw [hcl]; exact hm0)]
      exact go2_L h1 h2 hV hsu hN sr k (i + 1) m mm tk mhs se mca (by omega) (by omega) (by omega) hs
    · have hpos : ¬ msu i ≤ 0 := by
        rw [← hs1, hs2]
        refine nI_ge (a := 0) (b := v) ?_ (by omega)
        rcases Nat.eq_zero_or_pos v with q | q
        · rw [hs2, q] at h0; exact absurd rfl h0
        · exact q
      rw [if_neg h0, f_X1_takeOutsideSets, h1.len hr, hsat]
      simp only [jn_p]
      have a1' : f_X1_takeOutsideSets_L14 (nI i) (nI t.2.2) fs st se (fun v3_58 => (f_X1_digitsOfSets N (nI t.2.2) (su i) v3_58).bind fun x68 => f_X1_takeOutsideSets_L76 (nI i) (nI t.2.2) x68 fs st N 0 tk se) N 0 0 = _ := a1
      have b1' : f_X1_digitsOfSets N (nI t.2.2) (su i) held = some x := b1
      obtain ⟨tk1, mhs1, se1, mca1, q1, q2, q3, q4⟩ := out_L h1 h2 hV hr hpos x (fun mhs_187 mca_187 => f_X4_goThroughSets_L2 N mrn mfi mle mst msu mm (nI (i + 1)) mhs_187 mca_187) t.2.2 0 N N tk mhs se mca (by omega) (by omega) (by omega) hs
      have q1' : f_X1_takeOutsideSets_L76 (nI i) (nI t.2.2) x fs st N 0 tk se = some (tk1, se1) := q1
      rw [a1', b1']
      simp only [Option.bind_some, q1']
      obtain ⟨tk2, mhs2, se2, mca2, w1, w2, w3, w4⟩ := go2_L h1 h2 hV hsu hN sr k (i + 1) m mm tk1 mhs1 se1 mca1 (by omega) (by omega) (by omega) q3
      refine ⟨tk2, mhs2, se2, mca2, w1, ?_, w3, q4.trans w4⟩
      rw [← w2]; exact q2
end R2B
