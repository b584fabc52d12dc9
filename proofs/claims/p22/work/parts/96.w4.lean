/-! answers: what the law asks of them holds -/
section ASO
variable {size rc : Int32} {g fs st ln su rr cr : Nat → Int32}
theorem free_L {sz : Nat} {mba mgi : Nat → Int32} (hC : Cells sz mba mgi g) (kk : _) : ∀ (k i acc n : Nat), i + k = 16 → k < n → f_L_areAnswersSo_L17 (nI sz) g kk n (nI acc) (nI i) = kk (nI (acc + cnt (blk sz mba mgi) i k))
  | 0, i, acc, n, hi, hn => by
    obtain ⟨m, rfl⟩ : ∃ m, n = m + 1 := ⟨n - 1, by omega⟩
    obtain rfl : i = 16 := by omega
    rw [f_L_areAnswersSo_L17.eq_2, if_pos (by decide)]; rfl
  | k + 1, i, acc, n, hi, hn => by
    obtain ⟨m, rfl⟩ : ∃ m, n = m + 1 := ⟨n - 1, by omega⟩
    have hn16 : ¬ (16 : Int32) ≤ nI i := nI_ge (b := 16) (by omega) (by decide)
    have hd : ∃ x : Int32, f_L_digit (nI sz) g (nI i) = some x ∧ (x = 0 ↔ blk sz mba mgi i = true) := by
      rcases digit_C (g := g) hC.1.2 (nI i) with ⟨h1, h2⟩ | ⟨c, h1, h2, h3⟩
      · refine ⟨-2, h1, fun q => absurd q (by decide), fun q => ?_⟩
        exfalso
        simp only [blk, opn, Bool.and_eq_true] at q
        rw [(needCell_t hC.1.2 q.1.1).1] at h2; cases h2
      · have hc16 := (isC_lt h2).1
        have hic := (nI_inj (a := i) (b := c) (by omega) (by omega)).mp h1
        subst hic
        obtain ⟨m1, ⟨d, hd9, m2⟩, -, -, m5⟩ := hC.2 i (by omega)
        refine ⟨g i, h3, ?_⟩
        rw [m5, blk, opn, h2]
        rcases m1 with m1 | m1
        · rw [m1, if_neg zero_ne1]; simp
        · rw [m1, if_pos rfl]; simp
    obtain ⟨x, e1, e2⟩ := hd
    rw [f_L_areAnswersSo_L17.eq_2, if_neg hn16, cnt.eq_2]
    cases hb : blk sz mba mgi i
    · have hx : ¬ x = 0 := fun q => by rw [e2, hb] at q; cases q
      simp only [e1, Option.bind_some, jn_p, if_neg hx, Int32.add_zero, nI_1]
      rw [free_L hC kk k (i + 1) acc m (by omega) (by omega), if_neg (by decide), Nat.zero_add]
    · have hx : x = 0 := e2.mpr hb
      simp only [e1, Option.bind_some, jn_p, if_pos hx, nI_1]
      rw [free_L hC kk k (i + 1) (acc + 1) m (by omega) (by omega), if_true, Nat.add_assoc]
set_option maxHeartbeats 8000000 in
theorem answ_so (hB : BD size rc g fs st ln su rr cr) {N : Nat} (hN : 50000 < N) : ∃ g' : Nat → Int32, BD size rc g' fs st ln su rr cr ∧ ∀ (bc : Int32) (bl td fi fa : Nat → Int32) (bc2 : Int32) (bl2 td2 fi2 fa2 : Nat → Int32), ∃ (bc' : Int32) (bl' td' fi' fa' : Nat → Int32) (bc2' : Int32) (bl2' td2' fi2' fa2' : Nat → Int32),
    f_L_areAnswersSo N size rc g fs st ln su rr cr bc bl td fi fa size rc g fs st ln su rr cr bc2 bl2 td2 fi2 fa2 = some (1, g', bc', bl', td', fi', fa', g', bc2', bl2', td2', fi2', fa2') := by
  obtain ⟨sz, rs, mba, mgi, rfl, hC, h1, hR, hV, hsu⟩ := id hB
  obtain ⟨ret, u, a, p1, p2, p3, p4⟩ := mend_C (su := su) hC h1 hR hV hN
  have hl16 := (bp_ok sz mba mgi).1
  have hcn : cnt (blk sz mba mgi) 0 16 = (bp (blk sz mba mgi) 16).length := (bp_cnt (blk sz mba mgi) 16).symm
  have hfree : ∀ kk, f_L_areAnswersSo_L17 (nI sz) g kk 18 0 0 = kk (nI (bp (blk sz mba mgi) 16).length) := fun kk => by
    have := free_L hC kk 16 0 0 18 (by omega) (by omega)
    rw [Nat.zero_add, hcn] at this
    exact this
  have one1 : ¬ (1 : Int32) = 0 := one_ne0
  by_cases h4 : (bp (blk sz mba mgi) 16).length ≤ 4
  · -- few blanks: all fillings are counted too
    have hna := nA_le (su := su) hV h4
    have hret : ret = nI (min 2 (nA sz mba mgi rs su)) := by
      rcases p1 with ⟨-, w⟩ | w
      · omega
      · exact w
    have hl4 : nI (bp (blk sz mba mgi) 16).length ≤ 4 := nI_le (b := 4) h4 (by decide)
    have hx1 : ¬ nI (nA sz mba mgi rs su) = -1 := nI_nneg1 (by omega)
    have hx2 : ¬ nI (nA sz mba mgi rs su) < 0 := nI_pos (by omega)
    have ha1 := fun (bc : Int32) (bl td fi : Nat → Int32) => all_C (su := su) hC h1 hV hN bc bl td fi
    rw [if_pos h4] at ha1
    have hfive := fun (bc : Int32) (bl td fi fa : Nat → Int32) => find_all (su := su) (mo := 5) hC h1 hR hV hN (by omega) (by omega) bc bl td fi fa
    have h5 : ∀ (bc : Int32) (bl td fi fa : Nat → Int32), ∃ (bc' : Int32) (bl' td' fi' fa' : Nat → Int32), f_X3_answers N (nI sz) rc g fs st ln su rr cr bc bl td fi fa 5 = some (.inl (nI (min 5 (nA sz mba mgi rs su)), bc', bl', td', fi', fa')) := fun bc bl td fi fa => by
      obtain ⟨r5, bc', bl', td', fi', fa', q1, q2, -⟩ := hfive bc bl td fi fa
      refine ⟨bc', bl', td', fi', fa', ?_⟩
      have hr : r5 = nI (min 5 (nA sz mba mgi rs su)) := by
        rcases q2 with ⟨-, w⟩ | w
        · omega
        · exact w
      have q1' : f_X2_find N (nI sz) rc g fs st ln su rr cr bc bl td fi fa 5 = some (r5, bc', bl', td', fi', fa') := q1
      rw [f_X3_answers, jn_p, if_neg (by decide), if_pos (by decide), q1', Option.bind_some, hr]
    have h5j : ∀ K : Int32 → Option (Int32 × (Nat → Int32) × Int32 × (Nat → Int32) × (Nat → Int32) × (Nat → Int32) × (Nat → Int32) × (Nat → Int32) × Int32 × (Nat → Int32) × (Nat → Int32) × (Nat → Int32) × (Nat → Int32)), (jn K fun k => if 5 ≤ nI (nA sz mba mgi rs su) then k 5 else k (nI (nA sz mba mgi rs su))) = K (nI (min 5 (nA sz mba mgi rs su))) := fun K => by
      rw [jn_p]
      by_cases q : 5 ≤ nA sz mba mgi rs su
      · have : (5 : Int32) ≤ nI (nA sz mba mgi rs su) := nI_le (a := 5) q (by omega)
        rw [if_pos this, show min 5 (nA sz mba mgi rs su) = 5 by omega]; rfl
      · have : ¬ (5 : Int32) ≤ nI (nA sz mba mgi rs su) := nI_ge (b := 5) (by omega) (by decide)
        rw [if_neg this, show min 5 (nA sz mba mgi rs su) = nA sz mba mgi rs su by omega]
    have h2j : ∀ K : Int32 → Option (Int32 × (Nat → Int32) × Int32 × (Nat → Int32) × (Nat → Int32) × (Nat → Int32) × (Nat → Int32) × (Nat → Int32) × Int32 × (Nat → Int32) × (Nat → Int32) × (Nat → Int32) × (Nat → Int32)), (jn K fun k => if 2 ≤ nI (nA sz mba mgi rs su) then k 2 else k (nI (nA sz mba mgi rs su))) = K (nI (min 2 (nA sz mba mgi rs su))) := fun K => by
      rw [jn_p]
      by_cases q : 2 ≤ nA sz mba mgi rs su
      · have : (2 : Int32) ≤ nI (nA sz mba mgi rs su) := nI_le (a := 2) q (by omega)
        rw [if_pos this, show min 2 (nA sz mba mgi rs su) = 2 by omega]; rfl
      · have : ¬ (2 : Int32) ≤ nI (nA sz mba mgi rs su) := nI_ge (b := 2) (by omega) (by decide)
        rw [if_neg this, show min 2 (nA sz mba mgi rs su) = nA sz mba mgi rs su by omega]
    have hr0 : ¬ ret < 0 := by rw [hret]; exact nI_pos (by omega)
    have hrm : ¬ ret = -1 := by rw [hret]; exact nI_nneg1 (by omega)
    by_cases h2 : ret = nI 2
    · obtain ⟨u16, uB, a1, a9, n1, n2⟩ := p2 h2
      have hC' := hC.give u16 a9 (blank_open uB)
      have hu1 : ¬ nI u = -1 := nI_nneg1 (by omega)
      have hle2 : (2 : Int32) ≤ ret := by rw [h2]; decide
      have hlt2 : ¬ ret < 2 := by rw [h2]; decide
      have hlen : (bp (blk sz mba (upd mgi u (nI a))) 16).length ≤ 4 := by
        have hf : bp (blk sz mba (upd mgi u (nI a))) 16 = (bp (blk sz mba mgi) 16).filter (fun x => decide (x ≠ u)) := bp_filter (fun x => by
          rw [blk, blk]
          by_cases hq : x = u
          · subst hq
            have hne : ¬ nI a = 0 := fun q => by have := (nI_zero (d := a) (by omega)).mp q; omega
            rw [upd_eq, decide_eq_false hne]; simp
          · rw [upd_ne _ _ hq]; simp [hq]) 16
        rw [hf]
        exact Nat.le_trans (List.length_filter_le _ _) h4
      have ha2 := fun (bc : Int32) (bl td fi : Nat → Int32) => all_C (su := su) hC' h1 hV hN bc bl td fi
      rw [if_pos hlen] at ha2
      have hy1 : ¬ nI (nA sz mba (upd mgi u (nI a)) rs su) < 1 := nI_nlt (b := 1) n1 (by omega)
      have hy2 : ¬ nI (nA sz mba mgi rs su) ≤ nI (nA sz mba (upd mgi u (nI a)) rs su) := nI_ge n2 (by omega)
      have hdg : f_L_digit (nI sz) (upd g u (nI a)) (nI u) = some (nI a) := by
        have uo := blank_open uB
        have uC : isC sz u = true := by
          simp only [opn, Bool.and_eq_true] at uo; exact uo.1
        rcases digit_C (g := upd g u (nI a)) hC.1.2 (nI u) with ⟨-, w⟩ | ⟨c', w1, wc, w⟩
        · rw [(needCell_t hC.1.2 uC).1] at w; cases w
        · have h16 := (isC_lt wc).1
          have hc' := (nI_inj (a := u) (b := c') (by omega) (by omega)).mp w1
          rw [w, ← hc', upd_eq]
      have hapos : ¬ nI a ≤ 0 := fun q => by have := (nI_le0 a9).mp q; omega
      refine ⟨upd g u (nI a), ⟨sz, rs, mba, upd mgi u (nI a), rfl, hC', h1, hR, hV, hsu⟩, fun bc bl td fi fa bc2 bl2 td2 fi2 fa2 => ?_⟩
      obtain ⟨bcA, blA, tdA, fiA, eA⟩ := ha1 bc bl td fi
      obtain ⟨bcB, blB, tdB, fiB, faB, eB⟩ := p3 bcA blA tdA fiA fa
      obtain ⟨bcC, blC, tdC, fiC, faC, eC⟩ := h5 bcB blB tdB fiB faB
      obtain ⟨bcD, blD, tdD, fiD, faD, eD⟩ := p4 bcC blC tdC fiC faC
      obtain ⟨bcE, blE, tdE, fiE, faE, eE⟩ := p4 bc2 bl2 td2 fi2 fa2
      obtain ⟨bcF, blF, tdF, fiF, eF⟩ := ha2 bcD blD tdD fiD
      obtain ⟨bcG, blG, tdG, fiG, eG⟩ := ha2 bcF blF tdF fiF
      rw [if_neg hrm, if_pos h2, if_pos h2] at eD eE
      refine ⟨bcG, blG, tdG, fiG, faD, bcE, blE, tdE, fiE, faE, ?_⟩
      rw [f_L_areAnswersSo, eA, Option.bind_some, eB, Option.bind_some, sm_inl]
      simp only [hfree, h5j, h2j]
      simp only [jn_p, hfree, if_neg hx1, if_pos hl4, if_true, if_neg hx2, eC, Option.bind_some, sm_inl, h5j, h2j, ← hret, if_neg hr0, eD, eE, if_neg hu1, if_pos hle2, if_neg hlt2, hdg, if_neg hapos, eF, if_neg hy1, eG, if_neg hy2]
    · have hle2 : ¬ (2 : Int32) ≤ ret := by
        rw [hret] at h2 ⊢
        exact nI_ge (a := min 2 (nA sz mba mgi rs su)) (b := 2) (by
          rcases Nat.lt_or_ge (min 2 (nA sz mba mgi rs su)) 2 with w | w
          · exact w
          · exact absurd (congrArg nI (show min 2 (nA sz mba mgi rs su) = 2 by omega)) h2) (by decide)
      have hlt2 : ret < 2 := by
        rw [hret] at h2 ⊢
        exact nI_lt (a := min 2 (nA sz mba mgi rs su)) (b := 2) (by
          rcases Nat.lt_or_ge (min 2 (nA sz mba mgi rs su)) 2 with w | w
          · exact w
          · exact absurd (congrArg nI (show min 2 (nA sz mba mgi rs su) = 2 by omega)) h2) (by decide)
      refine ⟨g, hB, fun bc bl td fi fa bc2 bl2 td2 fi2 fa2 => ?_⟩
      obtain ⟨bcA, blA, tdA, fiA, eA⟩ := ha1 bc bl td fi
      obtain ⟨bcB, blB, tdB, fiB, faB, eB⟩ := p3 bcA blA tdA fiA fa
      obtain ⟨bcC, blC, tdC, fiC, faC, eC⟩ := h5 bcB blB tdB fiB faB
      obtain ⟨bcD, blD, tdD, fiD, faD, eD⟩ := p4 bcC blC tdC fiC faC
      obtain ⟨bcE, blE, tdE, fiE, faE, eE⟩ := p4 bc2 bl2 td2 fi2 fa2
      rw [if_neg hrm, if_neg h2, if_neg h2] at eD eE
      refine ⟨bcD, blD, tdD, fiD, faD, bcE, blE, tdE, fiE, faE, ?_⟩
      rw [f_L_areAnswersSo, eA, Option.bind_some, eB, Option.bind_some, sm_inl]
      simp only [hfree, h5j, h2j]
      simp only [jn_p, hfree, if_neg hx1, if_pos hl4, if_true, if_neg hx2, eC, Option.bind_some, sm_inl, h5j, h2j, ← hret, if_neg hr0, eD, eE, if_neg hle2, if_pos hlt2]
  · have hl4 : ¬ nI (bp (blk sz mba mgi) 16).length ≤ 4 := nI_ge (a := 4) (by omega) (by omega)
    have ha1 := fun (bc : Int32) (bl td fi : Nat → Int32) => all_C (su := su) hC h1 hV hN bc bl td fi
    rw [if_neg h4] at ha1
    have hm10 : (-1 : Int32) < 0 := by decide
    by_cases hrm : ret = -1
    · have h2 : ¬ ret = nI 2 := by rw [hrm]; exact fun q => nI_nneg1 (by omega) q.symm
      have hr0 : ret < 0 := by rw [hrm]; decide
      refine ⟨g, hB, fun bc bl td fi fa bc2 bl2 td2 fi2 fa2 => ?_⟩
      obtain ⟨bcA, blA, tdA, fiA, eA⟩ := ha1 bc bl td fi
      obtain ⟨bcB, blB, tdB, fiB, faB, eB⟩ := p3 bcA blA tdA fiA fa
      obtain ⟨bcD, blD, tdD, fiD, faD, eD⟩ := p4 bcB blB tdB fiB faB
      rw [if_pos hrm, if_neg h2] at eD
      refine ⟨bcD, blD, tdD, fiD, faD, bc2, bl2, td2, fi2, fa2, ?_⟩
      rw [f_L_areAnswersSo, eA, Option.bind_some, eB, Option.bind_some, sm_inl]
      simp only [jn_p, hfree, if_neg hl4, if_true, if_pos hm10, if_pos hr0, eD, Option.bind_some]
    · have hret : ret = nI (min 2 (nA sz mba mgi rs su)) := by
        rcases p1 with ⟨w, -⟩ | w
        · exact absurd w hrm
        · exact w
      have hr0 : ¬ ret < 0 := by rw [hret]; exact nI_pos (by omega)
      by_cases h2 : ret = nI 2
      · obtain ⟨u16, uB, a1, a9, -, -⟩ := p2 h2
        have hC' := hC.give u16 a9 (blank_open uB)
        have hu1 : ¬ nI u = -1 := nI_nneg1 (by omega)
        have hle2 : (2 : Int32) ≤ ret := by rw [h2]; decide
        have hlt2 : ¬ ret < 2 := by rw [h2]; decide
        have hdg : f_L_digit (nI sz) (upd g u (nI a)) (nI u) = some (nI a) := by
          have uo := blank_open uB
          have uC : isC sz u = true := by
            simp only [opn, Bool.and_eq_true] at uo; exact uo.1
          rcases digit_C (g := upd g u (nI a)) hC.1.2 (nI u) with ⟨-, w⟩ | ⟨c', w1, wc, w⟩
          · rw [(needCell_t hC.1.2 uC).1] at w; cases w
          · have h16 := (isC_lt wc).1
            have hc' := (nI_inj (a := u) (b := c') (by omega) (by omega)).mp w1
            rw [w, ← hc', upd_eq]
        have hapos : ¬ nI a ≤ 0 := fun q => by have := (nI_le0 a9).mp q; omega
        refine ⟨upd g u (nI a), ⟨sz, rs, mba, upd mgi u (nI a), rfl, hC', h1, hR, hV, hsu⟩, fun bc bl td fi fa bc2 bl2 td2 fi2 fa2 => ?_⟩
        obtain ⟨bcA, blA, tdA, fiA, eA⟩ := ha1 bc bl td fi
        obtain ⟨bcB, blB, tdB, fiB, faB, eB⟩ := p3 bcA blA tdA fiA fa
        obtain ⟨bcD, blD, tdD, fiD, faD, eD⟩ := p4 bcB blB tdB fiB faB
        obtain ⟨bcE, blE, tdE, fiE, faE, eE⟩ := p4 bc2 bl2 td2 fi2 fa2
        rw [if_neg hrm, if_pos h2, if_pos h2] at eD eE
        refine ⟨bcD, blD, tdD, fiD, faD, bcE, blE, tdE, fiE, faE, ?_⟩
        rw [f_L_areAnswersSo, eA, Option.bind_some, eB, Option.bind_some, sm_inl]
        simp only [jn_p, hfree, if_neg hl4, if_true, if_pos hm10, if_neg hr0, eD, eE, Option.bind_some, if_neg hu1, if_pos hle2, if_neg hlt2, hdg, if_neg hapos]
      · have hle2 : ¬ (2 : Int32) ≤ ret := by
          rw [hret] at h2 ⊢
          exact nI_ge (a := min 2 (nA sz mba mgi rs su)) (b := 2) (by
            rcases Nat.lt_or_ge (min 2 (nA sz mba mgi rs su)) 2 with w | w
            · exact w
            · exact absurd (congrArg nI (show min 2 (nA sz mba mgi rs su) = 2 by omega)) h2) (by decide)
        have hlt2 : ret < 2 := by
          rw [hret] at h2 ⊢
          exact nI_lt (a := min 2 (nA sz mba mgi rs su)) (b := 2) (by
            rcases Nat.lt_or_ge (min 2 (nA sz mba mgi rs su)) 2 with w | w
            · exact w
            · exact absurd (congrArg nI (show min 2 (nA sz mba mgi rs su) = 2 by omega)) h2) (by decide)
        refine ⟨g, hB, fun bc bl td fi fa bc2 bl2 td2 fi2 fa2 => ?_⟩
        obtain ⟨bcA, blA, tdA, fiA, eA⟩ := ha1 bc bl td fi
        obtain ⟨bcB, blB, tdB, fiB, faB, eB⟩ := p3 bcA blA tdA fiA fa
        obtain ⟨bcD, blD, tdD, fiD, faD, eD⟩ := p4 bcB blB tdB fiB faB
        obtain ⟨bcE, blE, tdE, fiE, faE, eE⟩ := p4 bc2 bl2 td2 fi2 fa2
        rw [if_neg hrm, if_neg h2, if_neg h2] at eD eE
        refine ⟨bcD, blD, tdD, fiD, faD, bcE, blE, tdE, fiE, faE, ?_⟩
        rw [f_L_areAnswersSo, eA, Option.bind_some, eB, Option.bind_some, sm_inl]
        simp only [jn_p, hfree, if_neg hl4, if_true, if_pos hm10, if_neg hr0, eD, eE, Option.bind_some, if_neg hle2, if_pos hlt2]
end ASO
