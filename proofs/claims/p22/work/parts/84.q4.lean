/-! the rule 1 -/
section R1
variable {sz : Nat} {mba : Nat → Int32} {rs : Rn} {rc mrn : Int32} {fs st ln mfi mst mle su msu : Nat → Int32}
theorem RT.lenM (h : RT rs mrn mfi mst mle) {r : Nat} {t : Nat × Nat × Nat} (hr : rs[r]? = some t) : inR (nI r) 8 ∧ (nI r).toNatClampNeg = r ∧ mle r = nI t.2.2 := by
  have hl := (List.getElem?_eq_some_iff.mp hr).1
  have := h.2.1
  exact ⟨inR_in (by decide) (by omega), nI_clamp (by omega), (h.2.2 r t hr).2.2⟩
theorem sing_L (h1 : RT rs rc fs st ln) (h2 : RT rs mrn mfi mst mle) (hV : VR sz mba rs) {r p : Nat} {t : Nat × Nat × Nat} (hr : rs[r]? = some t) (hp : p < t.2.2) {set : Int32} (hset : ¬ f_X4_isSingle set = 0) (kk kk' : _) : ∀ (k j n nm : Nat) (tk mhs : Int32) (se mca : Nat → Int32), j + k = t.2.2 → k < n → k < nm → SR tk mhs se mca →
    ∃ (tk' mhs' : Int32) (se' mca' : Nat → Int32), f_X1_takeSingles_L48 (nI r) (nI t.2.2) (nI p) set fs st kk n (nI j) tk se = kk tk' se' ∧ f_X4_goThroughSingles_L37 (nI r) (nI p) set mfi mle mst kk' nm (nI j) mhs mca = kk' mhs' mca' ∧ SR tk' mhs' se' mca' ∧ LE tk se tk' se'
  | 0, j, n, nm, tk, mhs, se, mca, hj, hn, hnm, hs => by
    obtain ⟨m, rfl⟩ : ∃ m, n = m + 1 := ⟨n - 1, by omega⟩
    obtain ⟨mm, rfl⟩ : ∃ mm, nm = mm + 1 := ⟨nm - 1, by omega⟩
    have hv := hV.at hr
    obtain ⟨hin, hcl, hle⟩ := h2.lenM hr
    rw [f_X1_takeSingles_L48.eq_2, f_X4_goThroughSingles_L37.eq_2, gd_t hin, hcl, hle, if_pos (nI_le (by omega) (by omega)), if_pos (nI_le (by omega) (by omega))]
    exact ⟨tk, mhs, se, mca, rfl, rfl, hs, LE.refl _ _⟩
  | k + 1, j, n, nm, tk, mhs, se, mca, hj, hn, hnm, hs => by
    obtain ⟨m, rfl⟩ : ∃ m, n = m + 1 := ⟨n - 1, by omega⟩
    obtain ⟨mm, rfl⟩ : ∃ mm, nm = mm + 1 := ⟨nm - 1, by omega⟩
    have hv := hV.at hr
    obtain ⟨hin, hcl, hle⟩ := h2.lenM hr
    have hge : ¬ nI t.2.2 ≤ nI j := nI_ge (by omega) (by omega)
    have hc16 := (hv.2.2.2 j (by omega)).2
    rw [f_X1_takeSingles_L48.eq_2, f_X4_goThroughSingles_L37.eq_2, gd_t hin, hcl, hle, if_neg hge, if_neg hge, if_neg hset, h1.cell hr, h2.cellM hr]
    simp only [jn_p, Option.bind_some, nI_1]
    by_cases hq : j = p
    · have e1 : nI j = nI p := by rw [hq]
      rw [if_pos e1, if_pos e1]
      exact sing_L h1 h2 hV hr hp hset kk kk' k (j + 1) m mm tk mhs se mca (by omega) (by omega) (by omega) hs
    · have e1 : ¬ nI j = nI p := fun w => hq ((nI_inj (by omega) (by omega)).mp w)
      obtain ⟨tk1, mhs1, se1, mca1, q1, q2, q3, q4⟩ := take_both hs hc16 set
      rw [if_neg e1, if_neg e1, q1, q2]
      simp only [Option.bind_some]
      obtain ⟨tk2, mhs2, se2, mca2, w1, w2, w3, w4⟩ := sing_L h1 h2 hV hr hp hset kk kk' k (j + 1) m mm tk1 mhs1 se1 mca1 (by omega) (by omega) (by omega) q3
      exact ⟨tk2, mhs2, se2, mca2, w1, w2, w3, q4.trans w4⟩
theorem rule1_L (h1 : RT rs rc fs st ln) (h2 : RT rs mrn mfi mst mle) (hV : VR sz mba rs) {r N : Nat} (hN : 16 < N) {t : Nat × Nat × Nat} (hr : rs[r]? = some t) (kk' : _) : ∀ (k j n nm : Nat) (tk mhs : Int32) (se mca : Nat → Int32), j + k = t.2.2 → k < n → k < nm → SR tk mhs se mca →
    ∃ (tk' mhs' : Int32) (se' mca' : Nat → Int32), f_X1_takeSingles_L11 N (nI r) (nI t.2.2) fs st n (nI j) tk se = some (tk', se') ∧ f_X4_goThroughSingles_L12 N (nI r) mfi mle mst kk' nm (nI j) mhs mca = kk' mhs' mca' ∧ SR tk' mhs' se' mca' ∧ LE tk se tk' se'
  | 0, j, n, nm, tk, mhs, se, mca, hj, hn, hnm, hs => by
    obtain ⟨m, rfl⟩ : ∃ m, n = m + 1 := ⟨n - 1, by omega⟩
    obtain ⟨mm, rfl⟩ : ∃ mm, nm = mm + 1 := ⟨nm - 1, by omega⟩
    have hv := hV.at hr
    obtain ⟨hin, hcl, hle⟩ := h2.lenM hr
    rw [f_X1_takeSingles_L11.eq_2, f_X4_goThroughSingles_L12.eq_2, gd_t hin, hcl, hle, if_pos (nI_le (by omega) (by omega)), if_pos (nI_le (by omega) (by omega))]
    exact ⟨tk, mhs, se, mca, rfl, rfl, hs, LE.refl _ _⟩
  | k + 1, j, n, nm, tk, mhs, se, mca, hj, hn, hnm, hs => by
    obtain ⟨m, rfl⟩ : ∃ m, n = m + 1 := ⟨n - 1, by omega⟩
    obtain ⟨mm, rfl⟩ : ∃ mm, nm = mm + 1 := ⟨nm - 1, by omega⟩
    have hv := hV.at hr
    obtain ⟨hin, hcl, hle⟩ := h2.lenM hr
    have hge : ¬ nI t.2.2 ≤ nI j := nI_ge (by omega) (by omega)
    have hc16 := (hv.2.2.2 j (by omega)).2
    have hinc : inR (nI (t.1 + j * t.2.1)) 16 := inR_in (by decide) hc16
    have hclc : (nI (t.1 + j * t.2.1)).toNatClampNeg = t.1 + j * t.2.1 := nI_clamp (by omega)
    obtain ⟨e1, v, hv1024, e2⟩ := hs.2.2 _ hc16
    have h3 : f_X1_isSingle (se (t.1 + j * t.2.1)) = f_X4_isSingle (se (t.1 + j * t.2.1)) := by rw [e2]; exact F3 ⟨v, hv1024⟩
    rw [f_X1_takeSingles_L11.eq_2, f_X4_goThroughSingles_L12.eq_2, gd_t hin, hcl, hle, if_neg hge, if_neg hge, h1.cell hr, h2.cellM hr, at_in _ (by decide) hc16, h3]
    simp only [jn_p, Option.bind_some, nI_1, hclc, ← e1]
    rw [gd_t hinc]
    by_cases hq : f_X4_isSingle (se (t.1 + j * t.2.1)) = 0
    · obtain ⟨NN, rfl⟩ : ∃ NN, N = NN + 1 := ⟨N - 1, by omega⟩
      have hz : ¬ nI t.2.2 ≤ 0 := nI_ge (a := 0) (by omega) (by omega)
      rw [if_pos hq, f_X4_goThroughSingles_L37.eq_2, gd_t hin, hcl, hle, if_neg hz, if_pos hq]
      exact rule1_L h1 h2 hV hN hr kk' k (j + 1) m mm tk mhs se mca (by omega) (by omega) (by omega) hs
    · rw [if_neg hq]
      obtain ⟨tk1, mhs1, se1, mca1, q1, q2, q3, q4⟩ := sing_L h1 h2 hV hr (p := j) (by omega) hq (fun tk_82 se_82 => f_X1_takeSingles_L11 N (nI r) (nI t.2.2) fs st m (nI (j + 1)) tk_82 se_82) (fun mhs_79 mca_79 => f_X4_goThroughSingles_L12 N (nI r) mfi mle mst kk' mm (nI (j + 1)) mhs_79 mca_79) t.2.2 0 N N tk mhs se mca (by omega) (by omega) (by omega) hs
      obtain ⟨tk2, mhs2, se2, mca2, w1, w2, w3, w4⟩ := rule1_L h1 h2 hV hN hr kk' k (j + 1) m mm tk1 mhs1 se1 mca1 (by omega) (by omega) (by omega) q3
      refine ⟨tk2, mhs2, se2, mca2, ?_, ?_, w3, q4.trans w4⟩
      · rw [← w1]; exact q1
      · rw [← w2]; exact q2
theorem go1_L (h1 : RT rs rc fs st ln) (h2 : RT rs mrn mfi mst mle) (hV : VR sz mba rs) {N : Nat} (hN : 16 < N) (sr : Nat → Int32) : ∀ (k i n nm : Nat) (tk mhs : Int32) (se mca : Nat → Int32), i + k = rs.length → k < n → k < nm → SR tk mhs se mca →
    ∃ (tk' mhs' : Int32) (se' mca' : Nat → Int32), f_X1_goThrough_L15 N 1 rc fs st ln su n (nI i) tk se sr = some (tk', se', sr) ∧ f_X4_goThroughSingles_L2 N mrn mfi mle mst nm (nI i) mhs mca = some (mhs', mca') ∧ SR tk' mhs' se' mca' ∧ LE tk se tk' se'
  | 0, i, n, nm, tk, mhs, se, mca, hi, hn, hnm, hs => by
    obtain ⟨m, rfl⟩ : ∃ m, n = m + 1 := ⟨n - 1, by omega⟩
    obtain ⟨mm, rfl⟩ : ∃ mm, nm = mm + 1 := ⟨nm - 1, by omega⟩
    have h8 := h1.2.1
    rw [f_X1_goThrough_L15.eq_2, f_X4_goThroughSingles_L2.eq_2, h1.1, h2.1, if_pos (nI_le (by omega) (by omega)), if_pos (nI_le (by omega) (by omega))]
    exact ⟨tk, mhs, se, mca, rfl, rfl, hs, LE.refl _ _⟩
  | k + 1, i, n, nm, tk, mhs, se, mca, hi, hn, hnm, hs => by
    obtain ⟨m, rfl⟩ : ∃ m, n = m + 1 := ⟨n - 1, by omega⟩
    obtain ⟨mm, rfl⟩ : ∃ mm, nm = mm + 1 := ⟨nm - 1, by omega⟩
    have h8 := h1.2.1
    obtain ⟨t, hr⟩ : ∃ t, rs[i]? = some t := ⟨_, List.getElem?_eq_getElem (by omega)⟩
    have hv := hV.at hr
    have hg1 : ¬ rc ≤ nI i := by rw [h1.1]; exact nI_ge (by omega) (by omega)
    have hg2 : ¬ mrn ≤ nI i := by rw [h2.1]; exact nI_ge (by omega) (by omega)
    rw [f_X1_goThrough_L15.eq_2, f_X4_goThroughSingles_L2.eq_2, if_neg hg1, if_neg hg2]
    simp only [jn_p, nI_1, if_true]
    rw [f_X1_takeSingles, h1.len hr]
    obtain ⟨tk1, mhs1, se1, mca1, q1, q2, q3, q4⟩ := rule1_L h1 h2 hV hN hr (fun mhs_85 mca_85 => f_X4_goThroughSingles_L2 N mrn mfi mle mst mm (nI (i + 1)) mhs_85 mca_85) t.2.2 0 N N tk mhs se mca (by omega) (by omega) (by omega) hs
    have q1' : f_X1_takeSingles_L11 N (nI i) (nI t.2.2) fs st N 0 tk se = some (tk1, se1) := q1
    rw [q1']
    simp only [Option.bind_some]
    obtain ⟨tk2, mhs2, se2, mca2, w1, w2, w3, w4⟩ := go1_L h1 h2 hV hN sr k (i + 1) m mm tk1 mhs1 se1 mca1 (by omega) (by omega) (by omega) q3
    refine ⟨tk2, mhs2, se2, mca2, w1, ?_, w3, q4.trans w4⟩
    rw [← w2]; exact q2
end R1
