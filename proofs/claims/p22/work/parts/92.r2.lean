/-! the rule 3, both sides -/
theorem one_ne0 : ¬ (1 : Int32) = 0 := by decide
theorem zero_ne1 : ¬ (0 : Int32) = 1 := by decide
theorem F10 : ∀ d : Fin 10, ¬ nI (2 ^ d.1) = 0 := by decide +kernel
theorem take_other {tk tk' : Int32} {se se' : Nat → Int32} {c : Nat} (hc : c < 16) {y : Int32} (h : f_X1_take tk se (nI c) y = (tk', se')) : ∀ x, x ≠ c → se' x = se x := by
  intro x hx
  rw [f_X1_take, put_in _ _ (by decide) hc] at h
  by_cases hq : f_X3_at 16 se (nI c) &&& y = 0
  · rw [if_pos hq] at h
    have h2 : se = se' := congrArg Prod.snd h
    rw [← h2]
  · rw [if_neg hq] at h
    have h2 := congrArg Prod.snd h
    dsimp only at h2
    rw [← h2, upd_ne _ _ hx]
theorem cell_inj {t : Nat × Nat × Nat} (hs : t.2.1 = 1 ∨ t.2.1 = 4) {i j : Nat} (h : i ≠ j) : t.1 + i * t.2.1 ≠ t.1 + j * t.2.1 := by
  rcases hs with hs | hs <;> rw [hs] <;> omega
theorem SR.vals {tk mhs : Int32} {se mca : Nat → Int32} (hs : SR tk mhs se mca) {t : Nat × Nat × Nat} (hv : ∀ j, j < t.2.2 → t.1 + j * t.2.1 < 16) : ∃ S : Nat → Nat, ∀ j, j < t.2.2 → se (t.1 + j * t.2.1) = nI (S j) ∧ mca (t.1 + j * t.2.1) = nI (S j) ∧ S j < 1024 := by
  refine ⟨fun j => (se (t.1 + j * t.2.1)).toBitVec.toNat, fun j hj => ?_⟩
  obtain ⟨e1, v, hv1, e2⟩ := hs.2.2 _ (hv j hj)
  have e3 : (se (t.1 + j * t.2.1)).toBitVec.toNat = v := by
    rw [e2]
    show v % 2 ^ 32 = v
    omega
  dsimp only
  rw [e3, ← e1]
  exact ⟨e2, e2, hv1⟩
section R3B
variable {sz : Nat} {mba : Nat → Int32} {rs : Rn} {rc mrn : Int32} {fs st ln mfi mst mle su msu : Nat → Int32}
theorem uC_no {N r p c d len m : Nat} (hc : c < 16) (hp : p < 4) (hd : d < 10) (kk : _) {tk : Int32} {se sr : Nat → Int32} (hbit : se c &&& (1 <<< (nI d &&& 31)) = 0) :
    f_X1_takeUnfit_L67 N (nI r) (nI len) (nI p) (nI c) su kk (m + 1) (nI d) tk se sr = f_X1_takeUnfit_L67 N (nI r) (nI len) (nI p) (nI c) su kk m (nI (d + 1)) tk se (upd sr p 0) := by
  have h9 : ¬ (9 : Int32) < nI d := nI_nlt (b := d) (a := 9) (by omega) (by omega)
  have hat : f_X3_at 16 se (nI c) = se c := at_in _ (by decide) hc
  have hput : ∀ y, f_X3_put 4 sr (nI p) y = upd sr p y := fun y => put_in _ _ (by decide) hp
  rw [f_X1_takeUnfit_L67.eq_2, if_neg h9, jn_p, hat, hbit, if_pos rfl, hput, nI_1]
theorem uC_yes {N r p c d len m : Nat} (hr8 : r < 8) (hc : c < 16) (hp : p < 4) (hd : d < 10) (kk : _) {tk : Int32} {se sr : Nat → Int32} (hbit : se c &&& (1 <<< (nI d &&& 31)) = nI (2 ^ d)) {b : Bool} (hcm : f_X1_canMake N 6 4 (upd sr p (nI (2 ^ d))) (nI len) (su r) 0 = some (b01 b)) :
    f_X1_takeUnfit_L67 N (nI r) (nI len) (nI p) (nI c) su kk (m + 1) (nI d) tk se sr = if b = true then f_X1_takeUnfit_L67 N (nI r) (nI len) (nI p) (nI c) su kk m (nI (d + 1)) tk se (upd sr p (nI (2 ^ d))) else f_X1_takeUnfit_L67 N (nI r) (nI len) (nI p) (nI c) su kk m (nI (d + 1)) (f_X1_take tk se (nI c) (nI (2 ^ d))).1 (f_X1_take tk se (nI c) (nI (2 ^ d))).2 (upd sr p (nI (2 ^ d))) := by
  have h9 : ¬ (9 : Int32) < nI d := nI_nlt (b := d) (a := 9) (by omega) (by omega)
  have hat : f_X3_at 16 se (nI c) = se c := at_in _ (by decide) hc
  have hsat : f_X0_sumAt su (nI r) = su r := by rw [f_X0_sumAt, at_in _ (by decide) hr8]
  have hput : ∀ y, f_X3_put 4 sr (nI p) y = upd sr p y := fun y => put_in _ _ (by decide) hp
  rw [f_X1_takeUnfit_L67.eq_2, if_neg h9, jn_p, hat, hbit, if_neg (F10 ⟨d, hd⟩), hput, hsat, hcm, nI_1, Option.bind_some]
  cases b
  · rw [if_pos (show b01 false = 0 from rfl), jn_p, if_neg (by decide)]
  · rw [if_neg (show ¬ b01 true = 0 from one_ne0), if_pos rfl]
theorem uM_no (h2 : RT rs mrn mfi mst mle) {N r p d m : Nat} {t : Nat × Nat × Nat} (hr : rs[r]? = some t) (hc : t.1 + p * t.2.1 < 16) (hd : d < 10) (kk : _) {mhs : Int32} {mca : Nat → Int32} (hbit : (mca (t.1 + p * t.2.1) >>> (nI d &&& 31)) &&& 1 = 0) :
    f_X4_goThroughRows_L33 N (nI r) (nI p) mfi mle mst msu kk (m + 1) (nI d) mhs mca = f_X4_goThroughRows_L33 N (nI r) (nI p) mfi mle mst msu kk m (nI (d + 1)) mhs mca := by
  have h9 : ¬ (9 : Int32) < nI d := nI_nlt (b := d) (a := 9) (by omega) (by omega)
  have hinc : inR (nI (t.1 + p * t.2.1)) 16 := inR_in (by decide) hc
  have hclc : (nI (t.1 + p * t.2.1)).toNatClampNeg = t.1 + p * t.2.1 := nI_clamp (by omega)
  rw [f_X4_goThroughRows_L33.eq_2, if_neg h9, h2.cellM hr, Option.bind_some, gd_t hinc, hclc, hbit]
  simp only [jn_p, if_neg zero_ne1, if_true, nI_1]
theorem uM_yes (h2 : RT rs mrn mfi mst mle) {N r p d m : Nat} {t : Nat × Nat × Nat} (hr : rs[r]? = some t) (hc : t.1 + p * t.2.1 < 16) (hd : d < 10) (kk : _) {mhs mhs' : Int32} {mca mca' : Nat → Int32} (hbit : (mca (t.1 + p * t.2.1) >>> (nI d &&& 31)) &&& 1 = 1) {b : Bool} (hcm : f_X4_canBe N mfi mle mst msu mca (nI r) (nI p) (nI d) = some (b01 b)) (htk : f_X4_take mhs mca (nI (t.1 + p * t.2.1)) (nI (2 ^ d)) = some (mhs', mca')) :
    f_X4_goThroughRows_L33 N (nI r) (nI p) mfi mle mst msu kk (m + 1) (nI d) mhs mca = if b = true then f_X4_goThroughRows_L33 N (nI r) (nI p) mfi mle mst msu kk m (nI (d + 1)) mhs mca else f_X4_goThroughRows_L33 N (nI r) (nI p) mfi mle mst msu kk m (nI (d + 1)) mhs' mca' := by
  have h9 : ¬ (9 : Int32) < nI d := nI_nlt (b := d) (a := 9) (by omega) (by omega)
  have hinc : inR (nI (t.1 + p * t.2.1)) 16 := inR_in (by decide) hc
  have hclc : (nI (t.1 + p * t.2.1)).toNatClampNeg = t.1 + p * t.2.1 := nI_clamp (by omega)
  have f7 := F7 ⟨d, hd⟩
  dsimp only at f7
  rw [f_X4_goThroughRows_L33.eq_2, if_neg h9, h2.cellM hr, Option.bind_some, gd_t hinc, hclc, hbit, hcm, f7]
  simp only [jn_p, if_true, if_neg one_ne0, nI_1, Option.bind_some, htk]
  cases b
  · rw [if_pos (show b01 false = 0 from rfl), if_neg (by decide)]
  · rw [if_neg (show ¬ b01 true = 0 from one_ne0), if_pos rfl]
theorem unfit_L (h1 : RT rs rc fs st ln) (h2 : RT rs mrn mfi mst mle) (hV : VR sz mba rs) {r p N s : Nat} (hN : 50000 < N) {t : Nat × Nat × Nat} (hr : rs[r]? = some t) (hp : p < t.2.2) (hs45 : s ≤ 45) (hsu : su r = nI s) (hmsu : msu r = nI s) (kk kk' : _) : ∀ (k d n nm : Nat) (tk mhs : Int32) (se mca sr : Nat → Int32), d + k = 10 → k < n → k < nm → SR tk mhs se mca → (∀ j, j < t.2.2 → j ≠ p → sr j = se (t.1 + j * t.2.1)) →
    ∃ (tk' mhs' : Int32) (se' mca' sr' : Nat → Int32), f_X1_takeUnfit_L67 N (nI r) (nI t.2.2) (nI p) (nI (t.1 + p * t.2.1)) su kk n (nI d) tk se sr = kk tk' se' sr' ∧ f_X4_goThroughRows_L33 N (nI r) (nI p) mfi mle mst msu kk' nm (nI d) mhs mca = kk' mhs' mca' ∧ SR tk' mhs' se' mca' ∧ LE tk se tk' se' ∧ ∀ j, j < t.2.2 → j ≠ p → sr' j = se' (t.1 + j * t.2.1)
  | 0, d, n, nm, tk, mhs, se, mca, sr, hd, hn, hnm, hs, hw => by
    obtain ⟨m, rfl⟩ : ∃ m, n = m + 1 := ⟨n - 1, by omega⟩
    obtain ⟨mm, rfl⟩ : ∃ mm, nm = mm + 1 := ⟨nm - 1, by omega⟩
    obtain rfl : d = 10 := by omega
    rw [f_X1_takeUnfit_L67.eq_2, f_X4_goThroughRows_L33.eq_2, if_pos (by decide), if_pos (by decide)]
    exact ⟨tk, mhs, se, mca, sr, rfl, rfl, hs, LE.refl _ _, hw⟩
  | k + 1, d, n, nm, tk, mhs, se, mca, sr, hd, hn, hnm, hs, hw => by
    obtain ⟨m, rfl⟩ : ∃ m, n = m + 1 := ⟨n - 1, by omega⟩
    obtain ⟨mm, rfl⟩ : ∃ mm, nm = mm + 1 := ⟨nm - 1, by omega⟩
    have hv := hV.at hr
    have hl8 := (List.getElem?_eq_some_iff.mp hr).1
    have h8 := h1.2.1
    have hc16 := (hv.2.2.2 p hp).2
    obtain ⟨S, hS⟩ := hs.vals (t := t) (fun j hj => (hv.2.2.2 j hj).2)
    obtain ⟨s1, s2, s3⟩ := hS p hp
    have hwu : ∀ y j, j < t.2.2 → j ≠ p → upd sr p y j = se (t.1 + j * t.2.1) := fun y j hj hjp => by rw [upd_ne _ _ hjp]; exact hw j hj hjp
    have f2 := F2 ⟨S p, s3⟩ ⟨d, by omega⟩
    dsimp only at f2
    cases hb : (S p).testBit d
    · have g1 : se (t.1 + p * t.2.1) &&& (1 <<< (nI d &&& 31)) = 0 := by rw [s1]; exact (F1 ⟨S p, s3⟩ ⟨d, by omega⟩).mpr hb
      have g2 : (mca (t.1 + p * t.2.1) >>> (nI d &&& 31)) &&& 1 = 0 := by rw [s2, f2, hb]; rfl
      rw [uC_no hc16 (by omega) (by omega) kk g1, uM_no h2 hr hc16 (by omega) kk' g2]
      exact unfit_L h1 h2 hV hN hr hp hs45 hsu hmsu kk kk' k (d + 1) m mm tk mhs se mca (upd sr p 0) (by omega) (by omega) (by omega) hs (hwu 0)
    · have g1 : se (t.1 + p * t.2.1) &&& (1 <<< (nI d &&& 31)) = nI (2 ^ d) := by rw [s1]; exact F6 ⟨S p, s3⟩ ⟨d, by omega⟩ hb
      have g2 : (mca (t.1 + p * t.2.1) >>> (nI d &&& 31)) &&& 1 = 1 := by rw [s2, f2, hb]; rfl
      have hcmM := canBe_eq h2 hV hN hr hp (show d < 10 by omega) hmsu hs45 (fun j hj => ⟨(hS j hj).2.1, (hS j hj).2.2⟩) hb
      have hcmC : f_X1_canMake N 6 4 (upd sr p (nI (2 ^ d))) (nI t.2.2) (su r) 0 = some (b01 (cm (fun j x => (if j = p then 2 ^ d else S j).testBit x) t.2.2 s 0)) := by
        rw [hsu]
        refine canMake_eq (N := N) (C := t.2.2) (S := fun j => if j = p then 2 ^ d else S j) (by omega) (by omega) (fun j hj => ?_) t.2.2 6 s 0 (Nat.le_refl _) (by omega) hs45 (by omega)
        by_cases hjp : j = p
        · rw [if_pos hjp, hjp, upd_eq]
          exact ⟨rfl, show 2 ^ d < 2 ^ 10 from Nat.pow_lt_pow_right (by omega) (by omega)⟩
        · rw [if_neg hjp, hwu _ j hj hjp]
          exact ⟨(hS j hj).1, (hS j hj).2.2⟩
      obtain ⟨tk1, mhs1, se1, mca1, q1, q2, q3, q4⟩ := take_both hs hc16 (nI (2 ^ d))
      rw [uC_yes (by omega) hc16 (by omega) (by omega) kk g1 hcmC, uM_yes h2 hr hc16 (by omega) kk' g2 hcmM q2, q1]
      cases cm (fun j x => (if j = p then 2 ^ d else S j).testBit x) t.2.2 s 0
      · rw [if_neg (by decide), if_neg (by decide)]
        have ho := take_other hc16 q1
        obtain ⟨tk2, mhs2, se2, mca2, sr2, w1, w2, w3, w4, w5⟩ := unfit_L h1 h2 hV hN hr hp hs45 hsu hmsu kk kk' k (d + 1) m mm tk1 mhs1 se1 mca1 (upd sr p (nI (2 ^ d))) (by omega) (by omega) (by omega) q3 (fun j hj hjp => by rw [hwu _ j hj hjp, ho _ (cell_inj hv.1 hjp)])
        exact ⟨tk2, mhs2, se2, mca2, sr2, w1, w2, w3, q4.trans w4, w5⟩
      · rw [if_pos rfl, if_pos rfl]
        exact unfit_L h1 h2 hV hN hr hp hs45 hsu hmsu kk kk' k (d + 1) m mm tk mhs se mca _ (by omega) (by omega) (by omega) hs (hwu _)
theorem unfitP_L (h1 : RT rs rc fs st ln) (h2 : RT rs mrn mfi mst mle) (hV : VR sz mba rs) {r N s : Nat} (hN : 50000 < N) {t : Nat × Nat × Nat} (hr : rs[r]? = some t) (hs45 : s ≤ 45) (hs0 : 0 < s) (hsu : su r = nI s) (hmsu : msu r = nI s) (kk' : _) : ∀ (k p n nm : Nat) (tk mhs : Int32) (se mca sr : Nat → Int32), p + k = t.2.2 → k < n → k < nm → SR tk mhs se mca → (∀ j, j < t.2.2 → sr j = se (t.1 + j * t.2.1)) →
    ∃ (tk' mhs' : Int32) (se' mca' sr' : Nat → Int32), f_X1_takeUnfit_L48 N (nI r) (nI t.2.2) fs st su n (nI p) tk se sr = some (tk', se', sr') ∧ f_X4_goThroughRows_L12 N (nI r) mfi mle mst msu kk' nm (nI p) mhs mca = kk' mhs' mca' ∧ SR tk' mhs' se' mca' ∧ LE tk se tk' se'
  | 0, p, n, nm, tk, mhs, se, mca, sr, hj, hn, hnm, hs, hw => by
    obtain ⟨m, rfl⟩ : ∃ m, n = m + 1 := ⟨n - 1, by omega⟩
    obtain ⟨mm, rfl⟩ : ∃ mm, nm = mm + 1 := ⟨nm - 1, by omega⟩
    have hv := hV.at hr
    obtain ⟨hin, hcl, hle⟩ := h2.lenM hr
    have hle2 : mle (nI r).toNatClampNeg = nI t.2.2 := by rw [hcl, hle]
    rw [f_X1_takeUnfit_L48.eq_2, f_X4_goThroughRows_L12.eq_2, gd_t hin, hle2, if_pos (nI_le (by omega) (by omega)), if_pos (nI_le (by omega) (by omega))]
    exact ⟨tk, mhs, se, mca, sr, rfl, rfl, hs, LE.refl _ _⟩
  | k + 1, p, n, nm, tk, mhs, se, mca, sr, hj, hn, hnm, hs, hw => by
    obtain ⟨m, rfl⟩ : ∃ m, n = m + 1 := ⟨n - 1, by omega⟩
    obtain ⟨mm, rfl⟩ : ∃ mm, nm = mm + 1 := ⟨nm - 1, by omega⟩
    have hv := hV.at hr
    obtain ⟨hin, hcl, hle⟩ := h2.lenM hr
    have hle2 : mle (nI r).toNatClampNeg = nI t.2.2 := by rw [hcl, hle]
    have hge : ¬ nI t.2.2 ≤ nI p := nI_ge (by omega) (by omega)
    have hc16 := (hv.2.2.2 p (by omega)).2
    have hpos : ¬ msu (nI r).toNatClampNeg ≤ 0 := by rw [hcl, hmsu]; exact nI_ge (a := 0) hs0 (by omega)
    rw [f_X1_takeUnfit_L48.eq_2, f_X4_goThroughRows_L12.eq_2, gd_t hin, hle2, if_neg hge, if_neg hge, gd_t hin, if_neg hpos, h1.cell hr]
    simp only [jn_p, nI_1]
    obtain ⟨tk1, mhs1, se1, mca1, sr1, q1, q2, q3, q4, q5⟩ := unfit_L h1 h2 hV hN hr (p := p) (by omega) hs45 hsu hmsu (fun (tk_139 : Int32) (se_139 : Nat → Int32) (sr_139 : Nat → Int32) => f_X1_takeUnfit_L48 N (nI r) (nI t.2.2) fs st su m (nI (p + 1)) tk_139 se_139 (f_X3_put 4 sr_139 (nI p) (f_X3_at 16 se_139 (nI (t.1 + p * t.2.1))))) (fun (mhs_99 : Int32) (mca_99 : Nat → Int32) => f_X4_goThroughRows_L12 N (nI r) mfi mle mst msu kk' mm (nI (p + 1)) mhs_99 mca_99) 9 1 N N tk mhs se mca sr (by omega) (by omega) (by omega) hs (fun j hj _ => hw j hj)
    have hat : f_X3_at 16 se1 (nI (t.1 + p * t.2.1)) = se1 (t.1 + p * t.2.1) := at_in _ (by decide) hc16
    have hput : f_X3_put 4 sr1 (nI p) (se1 (t.1 + p * t.2.1)) = upd sr1 p (se1 (t.1 + p * t.2.1)) := put_in _ _ (by decide) (by omega)
    obtain ⟨tk2, mhs2, se2, mca2, sr2, w1, w2, w3, w4⟩ := unfitP_L h1 h2 hV hN hr hs45 hs0 hsu hmsu kk' k (p + 1) m mm tk1 mhs1 se1 mca1 (upd sr1 p (se1 (t.1 + p * t.2.1))) (by omega) (by omega) (by omega) q3 (fun j hj => by
      by_cases hjp : j = p
      · rw [hjp, upd_eq]
      · rw [upd_ne _ _ hjp]; exact q5 j hj hjp)
    refine ⟨tk2, mhs2, se2, mca2, sr2, ?_, ?_, w3, q4.trans w4⟩
    · refine Eq.trans q1 ?_
      rw [hat, hput]; exact w1
    · exact Eq.trans q2 w2
theorem load_L (h1 : RT rs rc fs st ln) (hV : VR sz mba rs) {r : Nat} {t : Nat × Nat × Nat} (hr : rs[r]? = some t) (se : Nat → Int32) (kk : _) : ∀ (k j n : Nat) (sr : Nat → Int32), j + k = t.2.2 → k < n → (∀ i, i < j → sr i = se (t.1 + i * t.2.1)) →
    ∃ sr' : Nat → Int32, f_X1_takeUnfit_L11 (nI r) (nI t.2.2) fs st se kk n (nI j) sr = kk sr' ∧ ∀ i, i < t.2.2 → sr' i = se (t.1 + i * t.2.1)
  | 0, j, n, sr, hj, hn, hw => by
    obtain ⟨m, rfl⟩ : ∃ m, n = m + 1 := ⟨n - 1, by omega⟩
    have hv := hV.at hr
    rw [f_X1_takeUnfit_L11.eq_2, if_pos (nI_le (by omega) (by omega))]
    exact ⟨sr, rfl, fun i hi => hw i (by omega)⟩
  | k + 1, j, n, sr, hj, hn, hw => by
    obtain ⟨m, rfl⟩ : ∃ m, n = m + 1 := ⟨n - 1, by omega⟩
    have hv := hV.at hr
    have hc16 := (hv.2.2.2 j (by omega)).2
    rw [f_X1_takeUnfit_L11.eq_2, if_neg (nI_ge (by omega) (by omega)), h1.cell hr, at_in _ (by decide) hc16, put_in _ _ (by decide) (by omega), nI_1]
    refine load_L h1 hV hr se kk k (j + 1) m _ (by omega) (by omega) (fun i hi => ?_)
    by_cases hq : i = j
    · rw [hq, upd_eq]
    · rw [upd_ne _ _ hq]; exact hw i (by omega)
theorem go3_L (h1 : RT rs rc fs st ln) (h2 : RT rs mrn mfi mst mle) (hV : VR sz mba rs) (hsu : ∀ r, r < rs.length → su r = msu r ∧ ∃ v : Nat, v ≤ 45 ∧ su r = nI v) {N : Nat} (hN : 50000 < N) : ∀ (k i n nm : Nat) (tk mhs : Int32) (se mca sr : Nat → Int32), i + k = rs.length → k < n → k < nm → SR tk mhs se mca →
    ∃ (tk' mhs' : Int32) (se' mca' sr' : Nat → Int32), f_X1_goThrough_L15 N 3 rc fs st ln su n (nI i) tk se sr = some (tk', se', sr') ∧ f_X4_goThroughRows_L2 N mrn mfi mle mst msu nm (nI i) mhs mca = some (mhs', mca') ∧ SR tk' mhs' se' mca' ∧ LE tk se tk' se'
  | 0, i, n, nm, tk, mhs, se, mca, sr, hi, hn, hnm, hs => by
    obtain ⟨m, rfl⟩ : ∃ m, n = m + 1 := ⟨n - 1, by omega⟩
    obtain ⟨mm, rfl⟩ : ∃ mm, nm = mm + 1 := ⟨nm - 1, by omega⟩
    have h8 := h1.2.1
    rw [f_X1_goThrough_L15.eq_2, f_X4_goThroughRows_L2.eq_2, h1.1, h2.1, if_pos (nI_le (by omega) (by omega)), if_pos (nI_le (by omega) (by omega))]
    exact ⟨tk, mhs, se, mca, sr, rfl, rfl, hs, LE.refl _ _⟩
  | k + 1, i, n, nm, tk, mhs, se, mca, sr, hi, hn, hnm, hs => by
    obtain ⟨m, rfl⟩ : ∃ m, n = m + 1 := ⟨n - 1, by omega⟩
    obtain ⟨mm, rfl⟩ : ∃ mm, nm = mm + 1 := ⟨nm - 1, by omega⟩
    have h8 := h1.2.1
    obtain ⟨t, hr⟩ : ∃ t, rs[i]? = some t := ⟨_, List.getElem?_eq_getElem (by omega)⟩
    have hv := hV.at hr
    obtain ⟨hin, hcl, hle⟩ := h2.lenM hr
    have hle2 : mle (nI i).toNatClampNeg = nI t.2.2 := by rw [hcl, hle]
    obtain ⟨hs1, s, hs45, hs2⟩ := hsu i (by omega)
    have hms : msu i = nI s := by rw [← hs1, hs2]
    have hg1 : ¬ rc ≤ nI i := by rw [h1.1]; exact nI_ge (by omega) (by omega)
    have hg2 : ¬ mrn ≤ nI i := by rw [h2.1]; exact nI_ge (by omega) (by omega)
    have h31 : ¬ (3 : Int32) = 1 := by decide
    have h32 : ¬ (3 : Int32) = 2 := by decide
    have hsat : f_X0_sumAt su (nI i) = su i := by rw [f_X0_sumAt, at_in _ (by decide) (by omega)]
    rw [f_X1_goThrough_L15.eq_2, f_X4_goThroughRows_L2.eq_2, if_neg hg1, if_neg hg2]
    simp only [jn_p, nI_1, if_neg h31, if_neg h32, hsat]
    by_cases h0 : su i = 0
    · obtain ⟨NN, rfl⟩ : ∃ NN, N = NN + 1 := ⟨N - 1, by omega⟩
      have hz : ¬ nI t.2.2 ≤ 0 := nI_ge (a := 0) (by omega) (by omega)
      have hm0 : msu (nI i).toNatClampNeg ≤ 0 := by rw [hcl, ← hs1, h0]; decide
      rw [if_pos h0, f_X4_goThroughRows_L12.eq_2, gd_t hin, hle2, if_neg hz, gd_t hin, if_pos hm0]
      exact go3_L h1 h2 hV hsu hN k (i + 1) m mm tk mhs se mca sr (by omega) (by omega) (by omega) hs
    · have hs0 : 0 < s := by
        rcases Nat.eq_zero_or_pos s with q | q
        · rw [hs2, q] at h0; exact absurd rfl h0
        · exact q
      rw [if_neg h0, f_X1_takeUnfit, h1.len hr]
      simp only [jn_p]
      obtain ⟨sr1, a1, a2⟩ := load_L h1 hV hr se (fun (sr_46 : Nat → Int32) => f_X1_takeUnfit_L48 N (nI i) (nI t.2.2) fs st su N 0 tk se sr_46) t.2.2 0 N sr (by omega) (by omega) (fun i hi => by omega)
      have a1' : f_X1_takeUnfit_L11 (nI i) (nI t.2.2) fs st se (fun (sr_46 : Nat → Int32) => f_X1_takeUnfit_L48 N (nI i) (nI t.2.2) fs st su N 0 tk se sr_46) N 0 sr = _ := a1
      obtain ⟨tk1, mhs1, se1, mca1, sr2, q1, q2, q3, q4⟩ := unfitP_L h1 h2 hV hN hr hs45 hs0 hs2 hms (fun mhs_105 mca_105 => f_X4_goThroughRows_L2 N mrn mfi mle mst msu mm (nI (i + 1)) mhs_105 mca_105) t.2.2 0 N N tk mhs se mca sr1 (by omega) (by omega) (by omega) hs a2
      have q1' : f_X1_takeUnfit_L48 N (nI i) (nI t.2.2) fs st su N 0 tk se sr1 = some (tk1, se1, sr2) := q1
      rw [a1', q1']
      simp only [Option.bind_some]
      obtain ⟨tk2, mhs2, se2, mca2, sr3, w1, w2, w3, w4⟩ := go3_L h1 h2 hV hsu hN k (i + 1) m mm tk1 mhs1 se1 mca1 sr2 (by omega) (by omega) (by omega) q3
      refine ⟨tk2, mhs2, se2, mca2, sr3, w1, ?_, w3, q4.trans w4⟩
      rw [← w2]; exact q2
end R3B
