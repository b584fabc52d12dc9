/-! the law's loop: both boards stay the same, and all that is asked of them holds -/
theorem cell_some {L v : Nat} (xs : Nat → Int32) (hL : L ≤ 260) (hv : v < 2 ^ 31) : ∃ x, f_L_cell L xs (nI v) = some x := by
  rw [f_L_cell]
  by_cases h : L ≤ v
  · rw [if_pos (nI_le h hv)]; exact ⟨_, rfl⟩
  · rw [if_neg (nI_ge (by omega) (by omega)), gd_t (inR_in (by omega) (by omega))]; exact ⟨_, rfl⟩
set_option maxHeartbeats 16000000 in
theorem law_L (xs : Nat → Int32) (L : Nat) (hL : L ≤ 260) {N : Nat} (hN : 50000 < N) : ∀ (nn : Nat) {v : Nat} {size rc : Int32} {g fs st ln su rr cr : Nat → Int32} {bc : Int32} {bl td fi fa : Nat → Int32} {tk gr : Int32} {se sr : Nat → Int32} {bc2 : Int32} {bl2 td2 fi2 fa2 : Nat → Int32}, v ≤ 60 → 61 ≤ v + nn → BD size rc g fs st ln su rr cr → f_L_law_L18 N L xs nn (nI v) size rc g fs st ln su rr cr bc bl td fi fa tk gr se sr size rc g fs st ln su rr cr bc2 bl2 td2 fi2 fa2 = some 1 := by
  intro nn
  induction nn with
  | zero => intros; omega
  | succ m ih =>
    intro v size rc g fs st ln su rr cr bc bl td fi fa tk gr se sr bc2 bl2 td2 fi2 fa2 hv hn hB
    have al := alike_op hB hN
    by_cases h60 : v = 60
    · rw [f_L_law_L18.eq_2, if_pos (show (60 : Int32) ≤ nI v by rw [h60]; decide), al, Option.bind_some]
    have h60' : ¬ (60 : Int32) ≤ nI v := nI_ge (b := 60) (by omega) (by decide)
    obtain ⟨x, e0⟩ := cell_some (v := v) xs hL (by omega)
    obtain ⟨told, size', rc', g', fs', st', ln', su', rr', cr', b1, b2, b3⟩ := act_op hB hN x
    obtain ⟨bc', bl', td', fi', fa', ea⟩ := b3 bc bl td fi fa
    obtain ⟨y1, l1⟩ := low_some (x >>> (4 &&& 31)) (n := 3) (by decide)
    obtain ⟨y2, l2⟩ := low_some (x >>> (7 &&& 31)) (n := 3) (by decide)
    have al' := alike_op b1 hN
    have one1 : ¬ (1 : Int32) = 0 := one_ne0
    have hv' : v + 1 ≤ 60 := by omega
    have hn' : 61 ≤ v + 1 + m := by omega
    rw [f_L_law_L18.eq_2, if_neg h60', e0, Option.bind_some]
    by_cases ht : told = -99999
    · obtain ⟨rfl, rfl, rfl, rfl, rfl, rfl, rfl, rfl, rfl⟩ := b2 ht
      have HB := hB
      by_cases c8 : (nI v - nI v / 8 * 8) = 7
      · by_cases c12 : (nI v - nI v / 12 * 12) = 11
        · obtain ⟨tkq, grq, seq, srq, ec⟩ := cand_so HB hN ((4 * y1) + y2) tk gr se sr
          obtain ⟨g9, hB9, es9⟩ := answ_so HB hN
          obtain ⟨bc9, bl9, td9, fi9, fa9, bc29, bl29, td29, fi29, fa29, es⟩ := es9 bc' bl' td' fi' fa' bc2 bl2 td2 fi2 fa2
          simp only [e0, ea, Option.bind_some, if_neg one1, nI_1, if_pos ht, al, if_pos c8, if_pos c12, l1, l2, ec, es]
          exact ih (v := v + 1) hv' hn' hB9
        · obtain ⟨tkq, grq, seq, srq, ec⟩ := cand_so HB hN ((4 * y1) + y2) tk gr se sr
          simp only [e0, ea, Option.bind_some, if_neg one1, nI_1, if_pos ht, al, if_pos c8, if_neg c12, l1, l2, ec]
          exact ih (v := v + 1) hv' hn' HB
      · by_cases c12 : (nI v - nI v / 12 * 12) = 11
        · obtain ⟨g9, hB9, es9⟩ := answ_so HB hN
          obtain ⟨bc9, bl9, td9, fi9, fa9, bc29, bl29, td29, fi29, fa29, es⟩ := es9 bc' bl' td' fi' fa' bc2 bl2 td2 fi2 fa2
          simp only [e0, ea, Option.bind_some, if_neg one1, nI_1, if_pos ht, al, if_neg c8, if_pos c12, es]
          exact ih (v := v + 1) hv' hn' hB9
        · simp only [e0, ea, Option.bind_some, if_neg one1, nI_1, if_pos ht, al, if_neg c8, if_neg c12]
          exact ih (v := v + 1) hv' hn' HB
    · obtain ⟨bc2', bl2', td2', fi2', fa2', eb⟩ := b3 bc2 bl2 td2 fi2 fa2
      have HB := b1
      by_cases c8 : (nI v - nI v / 8 * 8) = 7
      · by_cases c12 : (nI v - nI v / 12 * 12) = 11
        · obtain ⟨tkq, grq, seq, srq, ec⟩ := cand_so HB hN ((4 * y1) + y2) tk gr se sr
          obtain ⟨g9, hB9, es9⟩ := answ_so HB hN
          obtain ⟨bc9, bl9, td9, fi9, fa9, bc29, bl29, td29, fi29, fa29, es⟩ := es9 bc' bl' td' fi' fa' bc2' bl2' td2' fi2' fa2'
          simp only [e0, ea, Option.bind_some, if_neg one1, nI_1, if_neg ht, eb, if_true, al', if_pos c8, if_pos c12, l1, l2, ec, es]
          exact ih (v := v + 1) hv' hn' hB9
        · obtain ⟨tkq, grq, seq, srq, ec⟩ := cand_so HB hN ((4 * y1) + y2) tk gr se sr
          simp only [e0, ea, Option.bind_some, if_neg one1, nI_1, if_neg ht, eb, if_true, al', if_pos c8, if_neg c12, l1, l2, ec]
          exact ih (v := v + 1) hv' hn' HB
      · by_cases c12 : (nI v - nI v / 12 * 12) = 11
        · obtain ⟨g9, hB9, es9⟩ := answ_so HB hN
          obtain ⟨bc9, bl9, td9, fi9, fa9, bc29, bl29, td29, fi29, fa29, es⟩ := es9 bc' bl' td' fi' fa' bc2' bl2' td2' fi2' fa2'
          simp only [e0, ea, Option.bind_some, if_neg one1, nI_1, if_neg ht, eb, if_true, al', if_neg c8, if_pos c12, es]
          exact ih (v := v + 1) hv' hn' hB9
        · simp only [e0, ea, Option.bind_some, if_neg one1, nI_1, if_neg ht, eb, if_true, al', if_neg c8, if_neg c12]
          exact ih (v := v + 1) hv' hn' HB
theorem law_one (xs : Nat → Int32) (L : Nat) (hL : L ≤ 260) : ∃ N rB, f_X0_clear N 0 0 (fun _ => 0) (fun _ => 0) (fun _ => 0) (fun _ => 0) (fun _ => 0) (fun _ => 0) (fun _ => 0) 3 = some rB ∧ f_L_law_L18 N L xs 61 0 rB.1 rB.2.1 rB.2.2.1 rB.2.2.2.1 rB.2.2.2.2.1 rB.2.2.2.2.2.1 rB.2.2.2.2.2.2.1 rB.2.2.2.2.2.2.2.1 rB.2.2.2.2.2.2.2.2 0 (fun _ => 0) (fun _ => 0) (fun _ => 0) (fun _ => 0) 0 0 (fun _ => 0) (fun _ => 0) rB.1 rB.2.1 rB.2.2.1 rB.2.2.2.1 rB.2.2.2.2.1 rB.2.2.2.2.2.1 rB.2.2.2.2.2.2.1 rB.2.2.2.2.2.2.2.1 rB.2.2.2.2.2.2.2.2 0 (fun _ => 0) (fun _ => 0) (fun _ => 0) (fun _ => 0) = some 1 := by
  obtain ⟨N, hN⟩ : ∃ N : Nat, 50000 < N := ⟨50001, by omega⟩
  obtain ⟨g1, e1, f1⟩ := fill_eq (N := N) (n := 16) (by decide) (by omega) (fun _ => 0) 0
  have hC : Cells 3 (fun _ => 0) (fun _ => 0) g1 := zero_cells (by omega) (by omega) (fun c hc => ⟨rfl, rfl, f1 c hc⟩)
  obtain ⟨rc', fs', st', ln', su', rr', cr', mrn', mfi', mle', mst', msu', d1, d2, d3⟩ := draw_both hC (N := N) (by omega) 0 (fun _ => 0) (fun _ => 0) (fun _ => 0) (fun _ => 0) (fun _ => 0) (fun _ => 0) 0 (fun _ => 0) (fun _ => 0) (fun _ => 0) (fun _ => 0)
  have d1' : f_X0_findRuns N 3 0 g1 (fun _ => 0) (fun _ => 0) (fun _ => 0) (fun _ => 0) (fun _ => 0) (fun _ => 0) = some (rc', fs', st', ln', su', rr', cr') := d1
  refine ⟨N, (3, rc', g1, fs', st', ln', su', rr', cr'), ?_, law_L xs L hL hN 61 (v := 0) (by omega) (by omega) d3.bd⟩
  rw [f_X0_clear, e1, Option.bind_some, d1', Option.bind_some]
