/-! answers: found by trying, and by all fillings -/
section ANS
variable {sz : Nat} {mba mgi g : Nat → Int32} {rs : Rn} {rc mrn : Int32} {fs st ln rr cr mfi mst mle su msu : Nat → Int32}
theorem bp_ok (sz : Nat) (mba mgi : Nat → Int32) : BOK (bp (blk sz mba mgi) 16) :=
  ⟨bp_len _ 16, fun c hc => ((bp_mem _ 16 c).mp hc).1, bp_inj _ 16⟩
theorem find_both (hC : Cells sz mba mgi g) (h1 : RT rs rc fs st ln) (h2 : RT rs mrn mfi mst mle) (hR : RRel rs rr cr) (hV : VR sz mba rs) (hsu : ∀ r, r < rs.length → su r = msu r) {N mo : Nat} (hN : 50000 < N) (hmo : 0 < mo) (hmo5 : mo ≤ 5) (bc : Int32) (bl td fi fa : Nat → Int32) (mmy mdf mgu : Int32) (mtr mdi mfa : Nat → Int32) :
    ∃ bc' bl' mmy' mtr', RES (bp (blk sz mba mgi) 16) mo bc' bl' mmy' mtr' (f_X2_find N (nI sz) rc g fs st ln su rr cr bc bl td fi fa (nI mo)) (f_X4_attempt N (nI sz) mrn mmy mdf mgu mba mgi mfi mle mst msu mtr mdi mfa (nI mo)) := by
  obtain ⟨bc', bl', td', fi', e1, hb1, hf1⟩ := hC.start (N := N) (by omega) bc bl td fi
  obtain ⟨mmy', mtr', d', e2, hb2, hf2⟩ := hC.lay (N := N) (by omega) mmy mtr mdi
  refine ⟨bc', bl', mmy', mtr', ?_⟩
  have hB := bp_ok sz mba mgi
  have hd : ∀ c, c < 16 → ∃ e : Nat, e ≤ 9 ∧ mgi c = nI e := fun c hc => (hC.2 c hc).2.1
  have hcell : ∀ (r : Nat) (t : Nat × Nat × Nat), rs[r]? = some t → ∀ j, j < t.2.2 → t.1 + j * t.2.1 < 16 := fun r t hr j hj => ((hV.at hr).2.2.2 j hj).2
  rw [f_X2_find, e1, f_X4_attempt, e2]
  simp only [Option.bind_some, jn_p]
  have hl := hB.1
  by_cases h0 : (bp (blk sz mba mgi) 16).length = 0
  · rw [if_pos (by rw [hb1.1, h0]; rfl), if_pos (by rw [hb2.1, h0]; rfl), isAnswer_eq h1 hV (by omega) su, isAnswerM_eq h2 hV (by omega) msu]
    simp only [Option.bind_some]
    rw [ansN_congr (su' := msu) (E := d') hsu (fun r t hr j hj => by rw [(hf1 _ (hcell r t hr j hj)).2, hf2 _ (hcell r t hr j hj)]) rs.length 0 (by omega)]
    cases ansN rs msu d' rs.length 0
    · rw [if_pos (show b01 false = 0 from rfl), if_pos (show b01 false = 0 from rfl)]
      exact ⟨0, _, _, _, _, 0, _, _, rfl, rfl, Or.inr ⟨rfl, 0, by omega, rfl⟩, fun q => absurd q (by decide)⟩
    · rw [if_neg (by decide), if_neg (by decide)]
      exact ⟨1, _, _, _, _, 0, _, _, rfl, rfl, Or.inr ⟨rfl, 1, by omega, rfl⟩, fun q => absurd q (by decide)⟩
  · have hz1 : ¬ bc' = 0 := fun q => by rw [hb1.1] at q; have := (nI_inj (b := 0) (by omega) (by omega)).mp q; omega
    have hz2 : ¬ mmy' = 0 := fun q => by rw [hb2.1] at q; have := (nI_inj (b := 0) (by omega) (by omega)).mp q; omega
    rw [if_neg hz1, if_neg hz2]
    have hst : ST (bp (blk sz mba mgi) 16) mgi 0 td' fi' d' := by
      refine ⟨fun c hc => ?_, fun c hc _ => (hf1 c hc).2, fun q c hq => ?_, fun q c hq => by omega, fun q c _ hq => ?_⟩
      · rw [(hf1 c hc).2, hf2 c hc]; exact ⟨rfl, hd c hc⟩
      · rw [(hf1 c (hB.2.1 c (List.mem_of_getElem? hq))).1]; exact ⟨0, by omega, rfl⟩
      · exact (hf1 c (hB.2.1 c (List.mem_of_getElem? hq))).1
    exact lock h1 h2 hR hV hsu (by omega) hB hb1 hb2 hmo5 20000 0 0 0 0 N N td' fi' fa d' mfa (-1) (by omega) (by omega) (by omega) hmo (by omega) (by omega) hst (fun c hc => (hf1 c (hB.2.1 c (List.mem_of_getElem? hc))).1) (fun q => by omega)
section ALLF
variable {B : List Nat} {bc mmy : Int32} {bl mtr : Nat → Int32}
theorem fill_both (hB : BOK B) (hb1 : BL B bc bl) (hb2 : BL B mmy mtr) (kk : _) : ∀ (k j n nm v : Nat) (fi mdi : Nat → Int32), j + k = B.length → k < n → k < nm → v < 2 ^ 31 → (∀ c, c < 16 → fi c = mdi c) →
    ∃ fi' mdi' : Nat → Int32, f_X2_fillBy_L4 bc bl n (nI v) (nI j) fi = some fi' ∧ f_X4_answersByAll_L64 mmy mtr kk nm (nI v) (nI j) mdi = kk mdi' ∧ ∀ c, c < 16 → fi' c = mdi' c
  | 0, j, n, nm, v, fi, mdi, hj, hn, hnm, hv, he => by
    obtain ⟨m, rfl⟩ : ∃ m, n = m + 1 := ⟨n - 1, by omega⟩
    obtain ⟨mm, rfl⟩ : ∃ mm, nm = mm + 1 := ⟨nm - 1, by omega⟩
    have hl := hB.1
    rw [f_X2_fillBy_L4.eq_2, f_X4_answersByAll_L64.eq_2, hb1.1, hb2.1, if_pos (nI_le (by omega) (by omega)), if_pos (nI_le (by omega) (by omega))]
    exact ⟨fi, mdi, rfl, rfl, he⟩
  | k + 1, j, n, nm, v, fi, mdi, hj, hn, hnm, hv, he => by
    obtain ⟨m, rfl⟩ : ∃ m, n = m + 1 := ⟨n - 1, by omega⟩
    obtain ⟨mm, rfl⟩ : ∃ mm, nm = mm + 1 := ⟨nm - 1, by omega⟩
    have hl := hB.1
    obtain ⟨c, hc⟩ : ∃ c, B[j]? = some c := ⟨_, List.getElem?_eq_getElem (by omega)⟩
    have hc16 := hB.2.1 c (List.mem_of_getElem? hc)
    have hd : nI v / 9 = nI (v / 9) := nI_div (b := 9) hv (by omega) (by omega)
    have hm : nI v - nI v / 9 * 9 = nI (v % 9) := nI_mod (b := 9) hv (by omega) (by omega)
    have h9 : nI 9 = 9 := rfl
    have hin : inR (nI j) 16 := inR_in (by decide) (by omega)
    have hin2 : inR (nI c) 16 := inR_in (by decide) hc16
    have hle1 : ¬ bc ≤ nI j := by rw [hb1.1]; exact nI_ge (by omega) (by omega)
    have hle2 : ¬ mmy ≤ nI j := by rw [hb2.1]; exact nI_ge (by omega) (by omega)
    rw [f_X2_fillBy_L4.eq_2, f_X4_answersByAll_L64.eq_2, if_neg hle1, if_neg hle2, gd_t hin, at_in bl (by decide) (by omega), hb1.2 j c hc, put_in _ _ (by decide) hc16]
    simp only [nI_clamp (show j < 2 ^ 31 by omega), hb2.2 j c hc, nI_clamp (show c < 2 ^ 31 by omega), nI_1]
    rw [gd_t hin2, hm, hd, Int32.add_comm 1]
    refine fill_both hB hb1 hb2 kk k (j + 1) m mm (v / 9) _ _ (by omega) (by omega) (by omega) (Nat.lt_of_le_of_lt (Nat.div_le_self _ _) hv) (fun x hx => ?_)
    by_cases hq : x = c
    · rw [hq, upd_eq, upd_eq]
    · rw [upd_ne _ _ hq, upd_ne _ _ hq]; exact he x hx
theorem count_both (h1 : RT rs rc fs st ln) (h2 : RT rs mrn mfi mst mle) (hV : VR sz mba rs) (hsu : ∀ r, r < rs.length → su r = msu r) (hB : BOK B) (hb1 : BL B bc bl) (hb2 : BL B mmy mtr) {N F : Nat} (hN : 64 < N) (hF : F ≤ 6561) (td : Nat → Int32) (mth : Int32) : ∀ (k i n nm w : Nat) (fi mdi : Nat → Int32), i + k = F → k < n → k < nm → (∀ c, c < 16 → fi c = mdi c) →
    ∃ (x : Int32) (fi' mdi' : Nat → Int32), f_X2_countByAll_L31 N (nI F) rc fs st ln su bc bl td n (nI w) (nI i) fi = some (x, bc, bl, td, fi') ∧ f_X4_answersByAll_L53 N (nI F) mth mrn mmy mfi mle mst msu mtr nm (nI w) (nI i) mdi = some (x, mth, mmy, mtr, mdi')
  | 0, i, n, nm, w, fi, mdi, hi, hn, hnm, he => by
    obtain ⟨m, rfl⟩ : ∃ m, n = m + 1 := ⟨n - 1, by omega⟩
    obtain ⟨mm, rfl⟩ : ∃ mm, nm = mm + 1 := ⟨nm - 1, by omega⟩
    rw [f_X2_countByAll_L31.eq_2, f_X4_answersByAll_L53.eq_2, if_pos (nI_le (by omega) (by omega)), if_pos (nI_le (by omega) (by omega))]
    exact ⟨nI w, fi, mdi, rfl, rfl⟩
  | k + 1, i, n, nm, w, fi, mdi, hi, hn, hnm, he => by
    obtain ⟨m, rfl⟩ : ∃ m, n = m + 1 := ⟨n - 1, by omega⟩
    obtain ⟨mm, rfl⟩ : ∃ mm, nm = mm + 1 := ⟨nm - 1, by omega⟩
    have hl := hB.1
    have hcell : ∀ (r : Nat) (t : Nat × Nat × Nat), rs[r]? = some t → ∀ j, j < t.2.2 → t.1 + j * t.2.1 < 16 := fun r t hr j hj => ((hV.at hr).2.2.2 j hj).2
    rw [f_X2_countByAll_L31.eq_2, f_X4_answersByAll_L53.eq_2, if_neg (nI_ge (by omega) (by omega)), if_neg (nI_ge (by omega) (by omega)), f_X2_fillBy]
    simp only [jn_p]
    obtain ⟨fi', mdi', e1, e2, e3⟩ := fill_both hB hb1 hb2 (fun mdi_105 => (f_X4_isAnswer N mrn mfi mle mst msu mdi_105).bind fun x107 => if x107 = 0 then f_X4_answersByAll_L53 N (nI F) mth mrn mmy mfi mle mst msu mtr mm (nI w + 0) (nI i + 1) mdi_105 else f_X4_answersByAll_L53 N (nI F) mth mrn mmy mfi mle mst msu mtr mm (nI w + 1) (nI i + 1) mdi_105) B.length 0 N N i fi mdi (by omega) (by omega) (by omega) (by omega) he
    have e1' : f_X2_fillBy_L4 bc bl N (nI i) 0 fi = some fi' := e1
    have e2' := e2
    rw [show nI 0 = (0 : Int32) from rfl] at e2'
    rw [e1', e2', isAnswerM_eq h2 hV (by omega) msu]
    simp only [Option.bind_some]
    rw [isAnswer_eq h1 hV (by omega) su, ansN_congr (su' := msu) (E := mdi') hsu (fun r t hr j hj => e3 _ (hcell r t hr j hj)) rs.length 0 (by omega)]
    simp only [Option.bind_some]
    cases ansN rs msu mdi' rs.length 0
    · rw [if_pos (show b01 false = 0 from rfl), if_pos (show b01 false = 0 from rfl), Int32.add_zero, nI_1]
      exact count_both h1 h2 hV hsu hB hb1 hb2 hN hF td mth k (i + 1) m mm w fi' mdi' (by omega) (by omega) (by omega) e3
    · rw [if_neg (by decide), if_neg (by decide), nI_1, nI_1]
      exact count_both h1 h2 hV hsu hB hb1 hb2 hN hF td mth k (i + 1) m mm (w + 1) fi' mdi' (by omega) (by omega) (by omega) e3
theorem pow_L (hb1 : BL B bc bl) (hB : BOK B) (kk : _) : ∀ (k j n v : Nat), j + k = B.length → k < n → f_X2_countByAll_L8 bc kk n (nI v) (nI j) = kk (nI (v * 9 ^ k))
  | 0, j, n, v, hj, hn => by
    obtain ⟨m, rfl⟩ : ∃ m, n = m + 1 := ⟨n - 1, by omega⟩
    have hl := hB.1
    rw [f_X2_countByAll_L8.eq_2, hb1.1, if_pos (nI_le (by omega) (by omega)), Nat.pow_zero, Nat.mul_one]
  | k + 1, j, n, v, hj, hn => by
    obtain ⟨m, rfl⟩ : ∃ m, n = m + 1 := ⟨n - 1, by omega⟩
    have hl := hB.1
    have h9 : nI v * 9 = nI (v * 9) := nI_mul v 9
    have hle : ¬ bc ≤ nI j := by rw [hb1.1]; exact nI_ge (by omega) (by omega)
    rw [f_X2_countByAll_L8.eq_2, if_neg hle, h9, nI_1, pow_L hb1 hB kk k (j + 1) m (v * 9) (by omega) (by omega), Nat.pow_succ, Nat.mul_comm (9 ^ k) 9, Nat.mul_assoc]
theorem powM_L (hb1 : BL B mmy mtr) (hB : BOK B) (kk : _) : ∀ (k j n v : Nat), j + k = B.length → k < n → f_X4_answersByAll_L30 mmy kk n (nI v) (nI j) = kk (nI (v * 9 ^ k))
  | 0, j, n, v, hj, hn => by
    obtain ⟨m, rfl⟩ : ∃ m, n = m + 1 := ⟨n - 1, by omega⟩
    have hl := hB.1
    rw [f_X4_answersByAll_L30.eq_2, hb1.1, if_pos (nI_le (by omega) (by omega)), Nat.pow_zero, Nat.mul_one]
  | k + 1, j, n, v, hj, hn => by
    obtain ⟨m, rfl⟩ : ∃ m, n = m + 1 := ⟨n - 1, by omega⟩
    have hl := hB.1
    have h9 : nI v * 9 = nI (v * 9) := nI_mul v 9
    have hle : ¬ mmy ≤ nI j := by rw [hb1.1]; exact nI_ge (by omega) (by omega)
    rw [f_X4_answersByAll_L30.eq_2, if_neg hle, h9, nI_1, powM_L hb1 hB kk k (j + 1) m (v * 9) (by omega) (by omega), Nat.pow_succ, Nat.mul_comm (9 ^ k) 9, Nat.mul_assoc]
end ALLF
theorem all_both (hC : Cells sz mba mgi g) (h1 : RT rs rc fs st ln) (h2 : RT rs mrn mfi mst mle) (hV : VR sz mba rs) (hsu : ∀ r, r < rs.length → su r = msu r) {N : Nat} (hN : 50000 < N) (bc : Int32) (bl td fi : Nat → Int32) (mth mmy : Int32) (mtr mdi : Nat → Int32) :
    (∃ (x bc' : Int32) (bl' td' fi' : Nat → Int32) (mmy' : Int32) (mtr' mdi' : Nat → Int32), f_X3_answersByAll N (nI sz) rc g fs st ln su bc bl td fi = some (.inl (x, bc', bl', td', fi')) ∧ f_X4_answersByAll N mth (nI sz) mrn mmy mba mgi mfi mle mst msu mtr mdi = some (x, 0, mmy', mtr', mdi')) ∨
    ∃ (mmy' : Int32) (mtr' mdi' : Nat → Int32), f_X3_answersByAll N (nI sz) rc g fs st ln su bc bl td fi = some (.inr (2, bc, bl, td, fi)) ∧ f_X4_answersByAll N mth (nI sz) mrn mmy mba mgi mfi mle mst msu mtr mdi = some (0, 1, mmy', mtr', mdi') := by
  obtain ⟨bc', bl', td', fi', e1, hb1, hf1⟩ := hC.start (N := N) (by omega) bc bl td fi
  obtain ⟨mmy', mtr', d', e2, hb2, hf2⟩ := hC.lay (N := N) (by omega) mmy mtr mdi
  have hB := bp_ok sz mba mgi
  have hl := hB.1
  have hcn := bp_cnt (blk sz mba mgi) 16
  rw [f_X3_answersByAll, hC.countBlanks (by omega), f_X4_answersByAll, e2]
  simp only [Option.bind_some, jn_p]
  rw [← hcn]
  by_cases h4 : (bp (blk sz mba mgi) 16).length ≤ 4
  · left
    have hle : nI (bp (blk sz mba mgi) 16).length ≤ 4 := nI_le (b := 4) h4 (by omega)
    have hle2 : mmy' ≤ 4 := by rw [hb2.1]; exact hle
    have hp : 1 * 9 ^ (bp (blk sz mba mgi) 16).length ≤ 6561 := by
      have : 9 ^ (bp (blk sz mba mgi) 16).length ≤ 9 ^ 4 := Nat.pow_le_pow_right (by omega) h4
      omega
    rw [if_pos hle, if_pos hle2]
    rw [f_X2_countByAll, e1]
    simp only [Option.bind_some, jn_p, f_X4_goesWell]
    simp only [if_true]
    rw [if_neg (show ¬ (1 : Int32) = 0 from by decide)]
    simp only [show (1 : Int32) = nI 1 from rfl, show (0 : Int32) = nI 0 from rfl, pow_L hb1 hB _ _ 0 N 1 (Nat.zero_add _) (show (bp (blk sz mba mgi) 16).length < N by omega), powM_L hb2 hB _ _ 0 N 1 (Nat.zero_add _) (show (bp (blk sz mba mgi) 16).length < N by omega)]
    obtain ⟨x, fi2, mdi2, q1, q2⟩ := count_both h1 h2 hV hsu hB hb1 hb2 (N := N) (by omega) hp td' (nI 0) (1 * 9 ^ (bp (blk sz mba mgi) 16).length) 0 N N 0 fi' d' (by omega) (by omega) (by omega) (fun c hc => by rw [(hf1 c hc).2, hf2 c hc])
    rw [q1, q2]
    exact ⟨x, bc', bl', td', fi2, mmy', mtr', mdi2, rfl, rfl⟩
  · right
    have hle : ¬ nI (bp (blk sz mba mgi) 16).length ≤ 4 := nI_ge (a := 4) (by omega) (by omega)
    have hle2 : ¬ mmy' ≤ 4 := by rw [hb2.1]; exact hle
    rw [if_neg hle, if_neg hle2]
    exact ⟨mmy', mtr', d', rfl, rfl⟩
end ANS
