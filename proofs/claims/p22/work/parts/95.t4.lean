/-! all fillings counted; what is mended has fewer answers, one at least -/
theorem Su_front (g : Nat → Nat) : ∀ k, Su g (k + 1) = g 0 + Su (fun m => g (m + 1)) k
  | 0 => by rw [Su, Su, Su]; omega
  | k + 1 => by rw [Su, Su_front g k, Su]; omega
theorem bp_filter {P P' : Nat → Bool} {u : Nat} (h : ∀ x, P' x = (P x && decide (x ≠ u))) : ∀ i, bp P' i = (bp P i).filter (fun x => decide (x ≠ u))
  | 0 => rfl
  | i + 1 => by
    rw [bp, bp, List.filter_append, bp_filter h i, h i]
    congr 1
    cases hp : P i
    · simp
    · by_cases hq : i = u
      · simp [hq]
      · simp [hq]
section ALLC
variable {sz : Nat} {mba mgi g : Nat → Int32} {rs : Rn} {rc bc : Int32} {fs st ln rr cr su bl f : Nat → Int32} {B : List Nat}
theorem fill_C (hB : BOK B) (hb1 : BL B bc bl) : ∀ (k j n v : Nat) (fi : Nat → Int32), j + k = B.length → k < n → v < 2 ^ 31 → f_X2_fillBy_L4 bc bl n (nI v) (nI j) fi = some (fillN (B.drop j) v fi)
  | 0, j, n, v, fi, hj, hn, hv => by
    obtain ⟨m, rfl⟩ : ∃ m, n = m + 1 := ⟨n - 1, by omega⟩
    have hl := hB.1
    rw [f_X2_fillBy_L4.eq_2, hb1.1, if_pos (nI_le (by omega) (by omega)), List.drop_eq_nil_of_le (by omega), fillN]
  | k + 1, j, n, v, fi, hj, hn, hv => by
    obtain ⟨m, rfl⟩ : ∃ m, n = m + 1 := ⟨n - 1, by omega⟩
    have hl := hB.1
    obtain ⟨c, hc⟩ : ∃ c, B[j]? = some c := ⟨_, List.getElem?_eq_getElem (by omega)⟩
    have hc16 := hB.2.1 c (List.mem_of_getElem? hc)
    have hd : nI v / 9 = nI (v / 9) := nI_div (b := 9) hv (by omega) (by omega)
    have hm : nI v - nI v / 9 * 9 = nI (v % 9) := nI_mod (b := 9) hv (by omega) (by omega)
    have hle1 : ¬ bc ≤ nI j := by rw [hb1.1]; exact nI_ge (by omega) (by omega)
    rw [f_X2_fillBy_L4.eq_2, if_neg hle1, at_in bl (by decide) (by omega), hb1.2 j c hc, put_in _ _ (by decide) hc16, hm, hd, nI_1, nI_1, fill_C hB hb1 k (j + 1) m (v / 9) _ (by omega) (by omega) (Nat.lt_of_le_of_lt (Nat.div_le_self _ _) hv), drop_at hc, fillN]
theorem count_C (h1 : RT rs rc fs st ln) (hV : VR sz mba rs) (hB : BOK B) (hb1 : BL B bc bl) {N F : Nat} (hN : 64 < N) (hF : F ≤ 6561) (td : Nat → Int32) : ∀ (k i n w : Nat) (fi : Nat → Int32), i + k = F → k < n → (∀ x, x < 16 → x ∉ B → fi x = f x) →
    ∃ fi' : Nat → Int32, f_X2_countByAll_L31 N (nI F) rc fs st ln su bc bl td n (nI w) (nI i) fi = some (nI (w + Su (fun m => if aA rs su (fillN B (i + m) f) = true then 1 else 0) k), bc, bl, td, fi')
  | 0, i, n, w, fi, hi, hn, he => by
    obtain ⟨m, rfl⟩ : ∃ m, n = m + 1 := ⟨n - 1, by omega⟩
    rw [f_X2_countByAll_L31.eq_2, if_pos (nI_le (by omega) (by omega))]
    exact ⟨fi, rfl⟩
  | k + 1, i, n, w, fi, hi, hn, he => by
    obtain ⟨m, rfl⟩ : ∃ m, n = m + 1 := ⟨n - 1, by omega⟩
    have hl := hB.1
    have hA : okA (aA rs su) := okA_ans hV su
    have e1 : f_X2_fillBy_L4 bc bl N (nI i) 0 fi = some (fillN B i fi) := fill_C hB hb1 B.length 0 N i fi (by omega) (by omega) (by omega)
    have e2 : aA rs su (fillN B i fi) = aA rs su (fillN B i f) := hA _ _ (fillN_congr B i fi f he)
    have e3 : ∀ x, x < 16 → x ∉ B → fillN B i fi x = f x := fun x hx hxB => by rw [fillN_off B i fi x hxB]; exact he x hx hxB
    have e4 : ansN rs su (fillN B i fi) rs.length 0 = aA rs su (fillN B i f) := e2
    rw [f_X2_countByAll_L31.eq_2, if_neg (nI_ge (by omega) (by omega)), f_X2_fillBy, e1]
    simp only [jn_p, Option.bind_some]
    rw [isAnswer_eq h1 hV (by omega) su, e4, Su_front]
    simp only [Option.bind_some, Nat.add_zero]
    have e5 : (fun m => if aA rs su (fillN B (i + (m + 1)) f) = true then 1 else 0) = fun m => if aA rs su (fillN B (i + 1 + m) f) = true then 1 else 0 := funext fun m => by rw [show i + (m + 1) = i + 1 + m by omega]
    rw [e5]
    cases aA rs su (fillN B i f)
    · obtain ⟨fi', q⟩ := count_C h1 hV hB hb1 hN hF td k (i + 1) m w (fillN B i fi) (by omega) (by omega) e3
      rw [if_pos (show b01 false = 0 from rfl), nI_1, q]
      exact ⟨fi', by simp⟩
    · obtain ⟨fi', q⟩ := count_C h1 hV hB hb1 hN hF td k (i + 1) m (w + 1) (fillN B i fi) (by omega) (by omega) e3
      rw [if_neg (by decide), nI_1, nI_1, q]
      refine ⟨fi', ?_⟩
      rw [if_pos rfl, Nat.add_assoc]
theorem nA_le (hV : VR sz mba rs) (h4 : (bp (blk sz mba mgi) 16).length ≤ 4) : nA sz mba mgi rs su ≤ 6561 := by
  have h := Cn_le (aA rs su) (bp (blk sz mba mgi) 16) mgi
  have : 9 ^ (bp (blk sz mba mgi) 16).length ≤ 9 ^ 4 := Nat.pow_le_pow_right (by omega) h4
  rw [nA]
  omega
theorem all_C (hC : Cells sz mba mgi g) (h1 : RT rs rc fs st ln) (hV : VR sz mba rs) {N : Nat} (hN : 50000 < N) (bc : Int32) (bl td fi : Nat → Int32) :
    ∃ (bc' : Int32) (bl' td' fi' : Nat → Int32), f_L_byAll N (nI sz) rc g fs st ln su bc bl td fi = some ((if (bp (blk sz mba mgi) 16).length ≤ 4 then nI (nA sz mba mgi rs su) else -1), bc', bl', td', fi') := by
  obtain ⟨bc', bl', td', fi', e1, hb1, hf1⟩ := hC.start (N := N) (by omega) bc bl td fi
  have hB := bp_ok sz mba mgi
  have hA : okA (aA rs su) := okA_ans hV su
  have hl := hB.1
  have hcn := bp_cnt (blk sz mba mgi) 16
  rw [f_L_byAll, f_X3_answersByAll, hC.countBlanks (by omega)]
  simp only [Option.bind_some, jn_p]
  rw [← hcn]
  by_cases h4 : (bp (blk sz mba mgi) 16).length ≤ 4
  · have hle : nI (bp (blk sz mba mgi) 16).length ≤ 4 := nI_le (b := 4) h4 (by omega)
    have hp : 9 ^ (bp (blk sz mba mgi) 16).length ≤ 6561 := by
      have : 9 ^ (bp (blk sz mba mgi) 16).length ≤ 9 ^ 4 := Nat.pow_le_pow_right (by omega) h4
      omega
    rw [if_pos hle, if_pos h4, f_X2_countByAll, e1]
    simp only [Option.bind_some, jn_p]
    obtain ⟨fi2, q1⟩ := count_C (f := fi') (su := su) h1 hV hB hb1 (N := N) (by omega) hp td' (9 ^ (bp (blk sz mba mgi) 16).length) 0 N 0 fi' (by omega) (by omega) (fun x _ _ => rfl)
    have q2 : Su (fun m => if aA rs su (fillN (bp (blk sz mba mgi) 16) (0 + m) fi') = true then 1 else 0) (9 ^ (bp (blk sz mba mgi) 16).length) = nA sz mba mgi rs su := by
      simp only [Nat.zero_add]
      rw [Su_fill]
      exact Cn_congr hA _ _ _ (fun x hx _ => (hf1 x hx).2)
    have q3 := pow_L hb1 hB (fun (v1_27 : Int32) => f_X2_countByAll_L31 N v1_27 rc fs st ln su bc' bl' td' N 0 0 fi') (bp (blk sz mba mgi) 16).length 0 N 1 (Nat.zero_add _) (show (bp (blk sz mba mgi) 16).length < N by omega)
    rw [q2, Nat.zero_add] at q1
    rw [Nat.one_mul] at q3
    have q4 : f_X2_countByAll_L8 bc' (fun (v1_27 : Int32) => f_X2_countByAll_L31 N v1_27 rc fs st ln su bc' bl' td' N 0 0 fi') N 1 0 = some (nI (nA sz mba mgi rs su), bc', bl', td', fi2) := Eq.trans q3 q1
    rw [q4]
    simp only [Option.bind_some, sm_inl]
    exact ⟨_, _, _, _, rfl⟩
  · have hle : ¬ nI (bp (blk sz mba mgi) 16).length ≤ 4 := nI_ge (a := 4) (by omega) (by omega)
    rw [if_neg hle, if_neg h4]
    simp only [Option.bind_some, sm_inr, if_true]
    exact ⟨_, _, _, _, rfl⟩
theorem mend_less (hV : VR sz mba rs) {u a w : Nat} {D E : Nat → Int32} (hu : u ∈ bp (blk sz mba mgi) 16) (ha : 1 ≤ a ∧ a ≤ 9) (hw : 1 ≤ w ∧ w ≤ 9) (haw : a ≠ w) (hDu : D u = nI a) (hEu : E u = nI w) (hD : ANSW (bp (blk sz mba mgi) 16) mgi (aA rs su) D) (hE : ANSW (bp (blk sz mba mgi) 16) mgi (aA rs su) E) :
    1 ≤ nA sz mba (upd mgi u (nI a)) rs su ∧ nA sz mba (upd mgi u (nI a)) rs su < nA sz mba mgi rs su := by
  have hA : okA (aA rs su) := okA_ans hV su
  have hB := bp_ok sz mba mgi
  have hnd := nodup_of _ hB.2.2
  have hf : bp (blk sz mba (upd mgi u (nI a))) 16 = (bp (blk sz mba mgi) 16).filter (fun x => decide (x ≠ u)) := bp_filter (fun x => by
    rw [blk, blk]
    by_cases hq : x = u
    · subst hq
      have hne : ¬ nI a = 0 := fun q => by have := (nI_zero (d := a) (by omega)).mp q; omega
      rw [upd_eq, decide_eq_false hne]; simp
    · rw [upd_ne _ _ hq]; simp [hq]) 16
  have hs := Cn_split (aA rs su) u (bp (blk sz mba mgi) 16) mgi hnd hu
  have hpos : ∀ (v : Nat) (X : Nat → Int32), X u = nI v → ANSW (bp (blk sz mba mgi) 16) mgi (aA rs su) X → 1 ≤ Cn (aA rs su) ((bp (blk sz mba mgi) 16).filter (fun x => decide (x ≠ u))) (upd mgi u (nI v)) := by
    intro v X hX hans
    refine Cn_pos hA _ _ X (fun x hx hxf => ?_) (fun x hx => hans.2.1 x (List.mem_filter.mp hx).1) hans.2.2
    by_cases hq : x = u
    · rw [hq, upd_eq, hX]
    · rw [upd_ne _ _ hq]
      exact hans.1 x hx (fun hxB => hxf (List.mem_filter.mpr ⟨hxB, by simp [hq]⟩))
  have h2 := Sm_two' (fun d => Cn (aA rs su) ((bp (blk sz mba mgi) 16).filter (fun x => decide (x ≠ u))) (upd mgi u (nI d))) ha hw haw
  have p1 := hpos a D hDu hD
  have p2 := hpos w E hEu hE
  rw [nA, nA, hf, hs]
  exact ⟨p1, by omega⟩
theorem find_two (hC : Cells sz mba mgi g) (h1 : RT rs rc fs st ln) (hR : RRel rs rr cr) (hV : VR sz mba rs) {N : Nat} (hN : 50000 < N) :
    ∃ (ret : Int32) (u a : Nat), ((ret = -1 ∧ 4 < (bp (blk sz mba mgi) 16).length) ∨ ret = nI (min 2 (nA sz mba mgi rs su))) ∧ (ret = nI 2 → u < 16 ∧ u ∈ bp (blk sz mba mgi) 16 ∧ 1 ≤ a ∧ a ≤ 9 ∧ 1 ≤ nA sz mba (upd mgi u (nI a)) rs su ∧ nA sz mba (upd mgi u (nI a)) rs su < nA sz mba mgi rs su) ∧
      ∀ (bc : Int32) (bl td fi fa : Nat → Int32), ∃ (bc' : Int32) (bl' td' fi' fa' : Nat → Int32), f_X2_find N (nI sz) rc g fs st ln su rr cr bc bl td fi fa 2 = some (ret, bc', bl', td', fi', fa') ∧ (ret = nI 2 → f_X2_firstUnlike N fi' fa' = some (nI u) ∧ fa' u = nI a) := by
  have both := fun (bc : Int32) (bl td fi fa : Nat → Int32) => find_both (su := su) (msu := su) hC h1 h1 hR hV (fun _ _ => rfl) hN (mo := 2) (by omega) (by omega) bc bl td fi fa 0 0 0 (fun _ => 0) (fun _ => 0) (fun _ => 0)
  obtain ⟨bc0, bl0, mmy0, mtr0, ret0, td0, fi0, fa0, mdf0, mgu0, mdi0, mfa0, q1, q2, -, q4⟩ := both 0 (fun _ => 0) (fun _ => 0) (fun _ => 0) (fun _ => 0)
  obtain ⟨ret9, bc9, bl9, td9, fi9, fa9, p1, p2, p3⟩ := find_all (su := su) hC h1 hR hV hN (mo := 2) (by omega) (by omega) 0 (fun _ => 0) (fun _ => 0) (fun _ => 0) (fun _ => 0)
  rw [q1] at p1
  simp only [Option.some.injEq, Prod.mk.injEq] at p1
  obtain ⟨rfl, -, -, -, rfl, rfl⟩ := p1
  by_cases h2 : ret0 = nI 2
  · obtain ⟨u, u16, uB, -, u1, u2, u3, u4⟩ := q4 h2 rfl
    obtain ⟨a1, a2⟩ := p3 h2 rfl
    obtain ⟨a, ha1, ha9, ea⟩ := a1.2.1 u uB
    obtain ⟨w, hw1, hw9, ew⟩ := a2.2.1 u uB
    have haw : a ≠ w := fun q => u2 (by rw [ea, ew, q])
    obtain ⟨m1, m2⟩ := mend_less hV uB ⟨ha1, ha9⟩ ⟨hw1, hw9⟩ haw ea ew a1 a2
    refine ⟨ret0, u, a, p2, fun _ => ⟨u16, uB, ha1, ha9, m1, m2⟩, fun bc bl td fi fa => ?_⟩
    obtain ⟨bc', bl', mmy', mtr', ret', td', fi', fa', mdf', mgu', mdi', mfa', r1, r2, -, r4⟩ := both bc bl td fi fa
    rw [q2] at r2
    simp only [Option.some.injEq, Prod.mk.injEq] at r2
    obtain ⟨rfl, -, rfl, -, -, -, rfl⟩ := r2
    refine ⟨bc', bl', td', fi', fa', r1, fun _ => ?_⟩
    obtain ⟨x, x16, xB, -, x1, x2, x3, x4⟩ := r4 h2 rfl
    have hxu : x = u := (nI_inj (by omega) (by omega)).mp (x4.symm.trans u4)
    subst hxu
    exact ⟨firstUnlike_L fi' fa' x16 x2 x 0 N (Nat.zero_add _) (by omega) x3, by rw [x1, ← u1, ea]⟩
  · refine ⟨ret0, 0, 0, p2, fun q => absurd q h2, fun bc bl td fi fa => ?_⟩
    obtain ⟨bc', bl', mmy', mtr', ret', td', fi', fa', mdf', mgu', mdi', mfa', r1, r2, -, r4⟩ := both bc bl td fi fa
    rw [q2] at r2
    simp only [Option.some.injEq, Prod.mk.injEq] at r2
    obtain ⟨rfl, -⟩ := r2
    exact ⟨bc', bl', td', fi', fa', r1, fun q => absurd q h2⟩
end ALLC
