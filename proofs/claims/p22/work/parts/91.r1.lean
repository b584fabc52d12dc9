/-! the rule 3 of the model, number by number -/
section R3
variable {sz : Nat} {mba : Nat → Int32} {rs : Rn} {rc mrn : Int32} {fs st ln mfi mst mle su msu mca : Nat → Int32}
theorem row_no (h2 : RT rs mrn mfi mst mle) {r : Nat} {t : Nat × Nat × Nat} (hr : rs[r]? = some t) (c2 c3 : Int32) (kk : _) (n : Nat) (v6 v7 : Int32) (v9 : Int32) : f_X4_canBe_L53 (nI r) c2 c3 mfi mle mst mca kk (n + 1) v6 v7 0 v9 = kk v7 0 := by
  obtain ⟨hin, hcl, hle⟩ := h2.lenM hr
  rw [f_X4_canBe_L53.eq_2, gd_t hin]
  by_cases hq : mle (nI r).toNatClampNeg ≤ v9
  · rw [if_pos hq]
  · rw [if_neg hq, if_pos rfl]
theorem row_L (h2 : RT rs mrn mfi mst mle) (hV : VR sz mba rs) {r p d : Nat} {t : Nat × Nat × Nat} (hr : rs[r]? = some t) (hp : p < 16) (hd : d < 10) {S : Nat → Nat} (hS : ∀ j, j < t.2.2 → mca (t.1 + j * t.2.1) = nI (S j) ∧ S j < 1024) (kk : _) : ∀ (k j n v u : Nat), j + k = t.2.2 → k < n → v < 2 ^ 31 → u < 1024 →
    ∃ x : Int32, f_X4_canBe_L53 (nI r) (nI p) (nI d) mfi mle mst mca kk n (nI v) (nI u) 1 (nI j) = kk x (b01 (rowOk S p d k j v u)) ∧ (rowOk S p d k j v u = true → x = nI (rowSeen k v u))
  | 0, j, n, v, u, hj, hn, hv31, hu => by
    obtain ⟨m, rfl⟩ : ∃ m, n = m + 1 := ⟨n - 1, by omega⟩
    have hv := hV.at hr
    obtain ⟨hin, hcl, hle⟩ := h2.lenM hr
    rw [f_X4_canBe_L53.eq_2, gd_t hin, hcl, hle, if_pos (nI_le (by omega) (by omega))]
    exact ⟨nI u, rfl, fun _ => rfl⟩
  | k + 1, j, n, v, u, hj, hn, hv31, hu => by
    obtain ⟨m, rfl⟩ : ∃ m, n = m + 1 := ⟨n - 1, by omega⟩
    obtain ⟨mm, hmm⟩ : ∃ mm, m = mm + 1 := ⟨m - 1, by omega⟩
    have hv := hV.at hr
    obtain ⟨hin, hcl, hle⟩ := h2.lenM hr
    have hge : ¬ nI t.2.2 ≤ nI j := nI_ge (by omega) (by omega)
    have hc16 := (hv.2.2.2 j (by omega)).2
    have hinc : inR (nI (t.1 + j * t.2.1)) 16 := inR_in (by decide) hc16
    have hclc : (nI (t.1 + j * t.2.1)).toNatClampNeg = t.1 + j * t.2.1 := nI_clamp (by omega)
    have hx9 : v % 9 < 9 := Nat.mod_lt _ (by omega)
    obtain ⟨x, hxd⟩ : ∃ x, x = 1 + v % 9 := ⟨_, rfl⟩
    have hx : (1 : Int32) + (nI v - nI v / 9 * 9) = nI x := by
      rw [show (9 : Int32) = nI 9 from rfl, nI_mod hv31 (by decide) (by decide), show (1 : Int32) = nI 1 from rfl, nI_add, hxd]
    have hdiv : nI v / 9 = nI (v / 9) := nI_div (b := 9) hv31 (by decide) (by decide)
    have hx2 : (1 : Int32) + (nI v - nI (v / 9) * 9) = nI x := by rw [← hdiv]; exact hx
    obtain ⟨s1, s2⟩ := hS j (by omega)
    have f1 := F2 ⟨u, hu⟩ ⟨x, by omega⟩
    have f2 := F2 ⟨S j, s2⟩ ⟨x, by omega⟩
    have f3 := F4 ⟨u, hu⟩ ⟨x, by omega⟩
    dsimp only at f1 f2 f3
    have hdv : v / 9 < 2 ^ 31 := Nat.lt_of_le_of_lt (Nat.div_le_self v 9) hv31
    have hbit : u ||| 2 ^ x < 1024 := Nat.or_lt_two_pow (n := 10) hu (Nat.pow_lt_pow_right (by omega) (by omega))
    have step : f_X4_canBe_L53 (nI r) (nI p) (nI d) mfi mle mst mca kk (m + 1) (nI v) (nI u) 1 (nI j) = f_X4_canBe_L53 (nI r) (nI p) (nI d) mfi mle mst mca kk m (nI (v / 9)) (nI (u ||| 2 ^ x)) (b01 (!u.testBit x && ((S j).testBit x && (!decide (j = p) || decide (x = d))))) (nI (j + 1)) := by
      rw [f_X4_canBe_L53.eq_2, gd_t hin, hcl, hle, if_neg hge, if_neg (show ¬ (1 : Int32) = 0 from by decide), h2.cellM hr]
      simp only [jn_p, Option.bind_some, nI_1, hdiv, hx2, f1, f3, hclc, s1, f2]
      rw [gd_t hinc]
      cases ha : u.testBit x
      · rw [if_neg (show ¬ (false = true) from by decide), if_pos rfl]
        cases hb : (S j).testBit x
        · rw [if_neg (show ¬ (false = true) from by decide), if_neg (show ¬ (0 : Int32) = 1 from by decide)]; rfl
        · rw [if_pos rfl, if_pos rfl]
          by_cases hjp : j = p
          · rw [if_pos (show nI j = nI p by rw [hjp])]
            by_cases hxd2 : x = d
            · rw [if_pos (show nI x = nI d by rw [hxd2]), decide_eq_true hxd2, Bool.or_true]; rfl
            · rw [if_neg (show ¬ nI x = nI d from fun w => hxd2 ((nI_inj (by omega) (by omega)).mp w)), decide_eq_true hjp, decide_eq_false hxd2]; rfl
          · rw [if_neg (show ¬ nI j = nI p from fun w => hjp ((nI_inj (by omega) (by omega)).mp w)), decide_eq_false hjp]; rfl
      · rw [if_pos rfl, if_neg (show ¬ (1 : Int32) = 0 from by decide)]; rfl
    rw [step, rowOk, ← hxd, rowSeen, ← hxd]
    cases hh : (!u.testBit x && ((S j).testBit x && (!decide (j = p) || decide (x = d))))
    · rw [Bool.false_and, hmm, b01_f, row_no h2 hr]
      exact ⟨_, rfl, fun q => absurd q (by decide)⟩
    · rw [Bool.true_and, b01_t]
      exact row_L h2 hV hr hp hd hS kk k (j + 1) m (v / 9) (u ||| 2 ^ x) (by omega) (by omega) hdv hbit
theorem nine_L (h2 : RT rs mrn mfi mst mle) (hV : VR sz mba rs) {r : Nat} {t : Nat × Nat × Nat} (hr : rs[r]? = some t) (kk : _) : ∀ (k j n v : Nat), j + k = t.2.2 → k < n → f_X4_canBe_L6 (nI r) mle kk n (nI v) (nI j) = kk (nI (v * 9 ^ k))
  | 0, j, n, v, hj, hn => by
    obtain ⟨m, rfl⟩ : ∃ m, n = m + 1 := ⟨n - 1, by omega⟩
    have hv := hV.at hr
    obtain ⟨hin, hcl, hle⟩ := h2.lenM hr
    rw [f_X4_canBe_L6.eq_2, gd_t hin, hcl, hle, if_pos (nI_le (by omega) (by omega)), Nat.pow_zero, Nat.mul_one]
  | k + 1, j, n, v, hj, hn => by
    obtain ⟨m, rfl⟩ : ∃ m, n = m + 1 := ⟨n - 1, by omega⟩
    have hv := hV.at hr
    obtain ⟨hin, hcl, hle⟩ := h2.lenM hr
    rw [f_X4_canBe_L6.eq_2, gd_t hin, hcl, hle, if_neg (nI_ge (by omega) (by omega)), nI_1, show (9 : Int32) = nI 9 from rfl, nI_mul, nine_L h2 hV hr kk k (j + 1) m (v * 9) (by omega) (by omega), Nat.mul_assoc, ← Nat.pow_succ']
theorem canBe_L (h2 : RT rs mrn mfi mst mle) (hV : VR sz mba rs) {r p d N s : Nat} (hN : 50000 < N) {t : Nat × Nat × Nat} (hr : rs[r]? = some t) (hp : p < 16) (hd : d < 10) (hs : msu r = nI s) (hs45 : s ≤ 45) {S : Nat → Nat} (hS : ∀ j, j < t.2.2 → mca (t.1 + j * t.2.1) = nI (S j) ∧ S j < 1024) {M : Nat} (hM : M < 10000) : ∀ (k i n : Nat), i + k = M → k < n →
    f_X4_canBe_L33 N (nI r) (nI p) (nI d) (nI M) mfi mle mst msu mca n (nI i) = some (b01 (exV (rowP S p d t.2.2 s) k i))
  | 0, i, n, hi, hn => by
    obtain ⟨m, rfl⟩ : ∃ m, n = m + 1 := ⟨n - 1, by omega⟩
    rw [f_X4_canBe_L33.eq_2, if_pos (nI_le (by omega) (by omega))]; rfl
  | k + 1, i, n, hi, hn => by
    obtain ⟨m, rfl⟩ : ∃ m, n = m + 1 := ⟨n - 1, by omega⟩
    have hv := hV.at hr
    obtain ⟨hin, hcl, hle⟩ := h2.lenM hr
    have ih := canBe_L h2 hV hN hr hp hd hs hs45 hS hM k (i + 1) m (by omega) (by omega)
    rw [f_X4_canBe_L33.eq_2, if_neg (nI_ge (by omega) (by omega))]
    simp only [jn_p, nI_1, ih]
    obtain ⟨x, e1, e2⟩ := row_L h2 hV hr hp hd hS (fun (v7_150 : Int32) (v8_150 : Int32) => if v8_150 = 0 then some (b01 (exV (rowP S p d t.2.2 s) k (i + 1))) else (f_X4_sumOfSet N v7_150).bind fun x157 => gd (inR (nI r) 8) <| (if x157 = (msu ((nI r : Int32)).toNatClampNeg) then some 1 else some (b01 (exV (rowP S p d t.2.2 s) k (i + 1))))) t.2.2 0 N i 0 (Nat.zero_add _) (by omega) (by omega) (by omega)
    refine Eq.trans e1 ?_
    rw [exV, rowP]
    cases hok : rowOk S p d t.2.2 0 i 0
    · rw [if_pos b01_f, Bool.false_and, Bool.false_or]
    · obtain ⟨q1, -⟩ := row_sum S p d t.2.2 0 i 0 (by omega) hok
      have h45 := F9 ⟨_, q1⟩
      dsimp only at h45
      rw [if_neg (show ¬ b01 true = 0 from by decide), e2 hok, sumM_eq q1 (by omega), Bool.true_and, Option.bind_some, gd_t hin, hcl, hs]
      by_cases hq : sN (rowSeen t.2.2 i 0) 9 1 0 = s
      · rw [if_pos (show nI (sN (rowSeen t.2.2 i 0) 9 1 0) = nI s by rw [hq]), decide_eq_true hq, Bool.true_or]; rfl
      · rw [if_neg (show ¬ nI (sN (rowSeen t.2.2 i 0) 9 1 0) = nI s from fun w => hq ((nI_inj (by omega) (by omega)).mp w)), decide_eq_false hq, Bool.false_or]
theorem canBe_eq (h2 : RT rs mrn mfi mst mle) (hV : VR sz mba rs) {r p d N s : Nat} (hN : 50000 < N) {t : Nat × Nat × Nat} (hr : rs[r]? = some t) (hp : p < t.2.2) (hd : d < 10) (hs : msu r = nI s) (hs45 : s ≤ 45) {S : Nat → Nat} (hS : ∀ j, j < t.2.2 → mca (t.1 + j * t.2.1) = nI (S j) ∧ S j < 1024) (hb : (S p).testBit d = true) :
    f_X4_canBe N mfi mle mst msu mca (nI r) (nI p) (nI d) = some (b01 (cm (fun j x => (if j = p then 2 ^ d else S j).testBit x) t.2.2 s 0)) := by
  have hv := hV.at hr
  have hpow : 1 * 9 ^ t.2.2 ≤ 6561 := by
    have : 9 ^ t.2.2 ≤ 9 ^ 4 := Nat.pow_le_pow_right (by omega) hv.2.2.1
    omega
  rw [f_X4_canBe, jn_p]
  have e := nine_L h2 hV hr (fun v4_30 => f_X4_canBe_L33 N (nI r) (nI p) (nI d) v4_30 mfi mle mst msu mca N 0) t.2.2 0 N 1 (Nat.zero_add _) (by omega)
  refine Eq.trans e ?_
  have e2 := canBe_L h2 hV hN hr (p := p) (by omega) hd hs hs45 hS (M := 1 * 9 ^ t.2.2) (by omega) (1 * 9 ^ t.2.2) 0 N (Nat.zero_add _) (by omega)
  refine Eq.trans e2 ?_
  rw [Nat.one_mul, exV_cm hp hb]
end R3
