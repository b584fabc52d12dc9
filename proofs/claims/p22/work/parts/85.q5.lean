/-! the rule 2 -/
def sN (v : Nat) : Nat → Nat → Nat → Nat
  | 0, _, acc => acc
  | k + 1, d, acc => sN v k (d + 1) (if v.testBit d then acc + d else acc)
def bN (v : Nat) : Nat → Nat → Nat → Nat
  | 0, _, acc => acc
  | k + 1, d, acc => bN v k (d + 1) (if v.testBit d then acc + 1 else acc)
theorem F5 : ∀ u : Fin 512, f_J6_bitCount_0f7a4 (nI (2 * u.1)) = nI (bN (2 * u.1) 9 1 0) := by decide +kernel
theorem sumC_L {v : Nat} (hv : v < 1024) : ∀ (k d n acc : Nat), d + k = 10 → k < n → f_X1_sumOfSet_L4 (nI v) n (nI acc) (nI d) = some (nI (sN v k d acc))
  | 0, d, n, acc, hd, hn => by
    obtain ⟨m, rfl⟩ : ∃ m, n = m + 1 := ⟨n - 1, by omega⟩
    obtain rfl : d = 10 := by omega
    rw [f_X1_sumOfSet_L4.eq_2, if_pos (by decide)]; rfl
  | k + 1, d, n, acc, hd, hn => by
    obtain ⟨m, rfl⟩ : ∃ m, n = m + 1 := ⟨n - 1, by omega⟩
    have h9 : ¬ (9 : Int32) < nI d := nI_nlt (b := d) (a := 9) (by omega) (by omega)
    have hf := F1 ⟨v, hv⟩ ⟨d, by omega⟩
    rw [f_X1_sumOfSet_L4.eq_2, if_neg h9, sN]
    simp only [jn_p, nI_1, nI_add]
    cases ht : v.testBit d
    · rw [if_pos (hf.mpr ht), if_neg (by decide)]
      exact sumC_L hv k (d + 1) m acc (by omega) (by omega)
    · rw [if_neg (fun q => by rw [hf.mp q] at ht; cases ht), if_pos rfl]
      exact sumC_L hv k (d + 1) m (acc + d) (by omega) (by omega)
theorem sumM_L {v : Nat} (hv : v < 1024) : ∀ (k d n acc : Nat), d + k = 10 → k < n → f_X4_sumOfSet_L4 (nI v) n (nI acc) (nI d) = some (nI (sN v k d acc))
  | 0, d, n, acc, hd, hn => by
    obtain ⟨m, rfl⟩ : ∃ m, n = m + 1 := ⟨n - 1, by omega⟩
    obtain rfl : d = 10 := by omega
    rw [f_X4_sumOfSet_L4.eq_2, if_pos (by decide)]; rfl
  | k + 1, d, n, acc, hd, hn => by
    obtain ⟨m, rfl⟩ : ∃ m, n = m + 1 := ⟨n - 1, by omega⟩
    have h9 : ¬ (9 : Int32) < nI d := nI_nlt (b := d) (a := 9) (by omega) (by omega)
    have hf := F2 ⟨v, hv⟩ ⟨d, by omega⟩
    rw [f_X4_sumOfSet_L4.eq_2, if_neg h9, sN, hf, nI_1]
    cases ht : v.testBit d
    · rw [if_neg (by decide), if_neg (by decide), Int32.zero_mul, Int32.add_zero]
      exact sumM_L hv k (d + 1) m acc (by omega) (by omega)
    · rw [if_pos rfl, if_pos rfl, Int32.one_mul, nI_add]
      exact sumM_L hv k (d + 1) m (acc + d) (by omega) (by omega)
theorem bits_L {v : Nat} (hv : v < 1024) : ∀ (k d n acc : Nat), d + k = 10 → k < n → f_X4_bits_L4 (nI v) n (nI acc) (nI d) = some (nI (bN v k d acc))
  | 0, d, n, acc, hd, hn => by
    obtain ⟨m, rfl⟩ : ∃ m, n = m + 1 := ⟨n - 1, by omega⟩
    obtain rfl : d = 10 := by omega
    rw [f_X4_bits_L4.eq_2, if_pos (by decide)]; rfl
  | k + 1, d, n, acc, hd, hn => by
    obtain ⟨m, rfl⟩ : ∃ m, n = m + 1 := ⟨n - 1, by omega⟩
    have h9 : ¬ (9 : Int32) < nI d := nI_nlt (b := d) (a := 9) (by omega) (by omega)
    have hf := F2 ⟨v, hv⟩ ⟨d, by omega⟩
    rw [f_X4_bits_L4.eq_2, if_neg h9, bN, hf, nI_1]
    cases ht : v.testBit d
    · rw [if_neg (by decide), if_neg (by decide), Int32.add_zero]
      exact bits_L hv k (d + 1) m acc (by omega) (by omega)
    · rw [if_pos rfl, if_pos rfl, nI_1]
      exact bits_L hv k (d + 1) m (acc + 1) (by omega) (by omega)
theorem sumC_eq {v N : Nat} (hv : v < 1024) (hN : 16 < N) : f_X1_sumOfSet N (nI v) = some (nI (sN v 9 1 0)) := sumC_L hv 9 1 N 0 (by omega) (by omega)
theorem sumM_eq {v N : Nat} (hv : v < 1024) (hN : 16 < N) : f_X4_sumOfSet N (nI v) = some (nI (sN v 9 1 0)) := sumM_L hv 9 1 N 0 (by omega) (by omega)
theorem bits_eq {v N : Nat} (hv : v < 1024) (hN : 16 < N) : f_X4_bits N (nI v) = some (nI (bN v 9 1 0)) := bits_L hv 9 1 N 0 (by omega) (by omega)
section R2
variable {sz : Nat} {mba : Nat → Int32} {rs : Rn} {rc mrn : Int32} {fs st ln mfi mst mle su msu : Nat → Int32}
theorem sets_L (h2 : RT rs mrn mfi mst mle) {r N : Nat} (hN : 16 < N) {t : Nat × Nat × Nat} (hr : rs[r]? = some t) (sum held : Int32) (hsum : msu r = sum) (kk : _) : ∀ (k u n nm : Nat) (v3 : Int32), u + k = 512 → k < n → k < nm →
    ∃ x : Int32, f_X1_digitsOfSets_L5 N (nI t.2.2) sum held n v3 (nI (2 * u)) = some x ∧ f_X4_goThroughSets_L68 N (nI r) held mle msu kk nm v3 (nI (2 * u)) = kk x
  | 0, u, n, nm, v3, hu, hn, hnm => by
    obtain ⟨m, rfl⟩ : ∃ m, n = m + 1 := ⟨n - 1, by omega⟩
    obtain ⟨mm, rfl⟩ : ∃ mm, nm = mm + 1 := ⟨nm - 1, by omega⟩
    obtain rfl : u = 512 := by omega
    have h9 : (1022 : Int32) < nI (2 * 512) := by decide
    rw [f_X1_digitsOfSets_L5.eq_2, f_X4_goThroughSets_L68.eq_2, if_pos h9, if_pos h9]
    exact ⟨v3, rfl, rfl⟩
  | k + 1, u, n, nm, v3, hu, hn, hnm => by
    obtain ⟨m, rfl⟩ : ∃ m, n = m + 1 := ⟨n - 1, by omega⟩
    obtain ⟨mm, rfl⟩ : ∃ mm, nm = mm + 1 := ⟨nm - 1, by omega⟩
    obtain ⟨hin, hcl, hle⟩ := h2.lenM hr
    have h9 : ¬ (1022 : Int32) < nI (2 * u) := nI_nlt (b := 2 * u) (a := 1022) (by omega) (by omega)
    have hv : 2 * u < 1024 := by omega
    have h2u : nI (2 * u) + 2 = nI (2 * (u + 1)) := nI_add (2 * u) 2
    have hb := F5 ⟨u, by omega⟩
    rw [f_X1_digitsOfSets_L5.eq_2, f_X4_goThroughSets_L68.eq_2, if_neg h9, if_neg h9, bits_eq hv hN, hb]
    simp only [jn_p, Option.bind_some, hcl, hle, hsum, sumC_eq hv hN, sumM_eq hv hN, h2u, gd, if_pos hin, sub_iff (nI (2 * u)) held]
    by_cases q1 : nI (bN (2 * u) 9 1 0) = nI t.2.2
    · rw [if_pos q1, if_pos q1]
      by_cases q2 : nI (sN (2 * u) 9 1 0) = sum
      · by_cases q3 : held &&& (nI (2 * u) ^^^ (-1)) = 0
        · simp only [if_pos q2, if_pos q3, if_neg (show ¬ (1 : Int32) = 0 from by decide)]
          exact sets_L h2 hN hr sum held hsum kk k (u + 1) m mm _ (by omega) (by omega) (by omega)
        · simp only [if_pos q2, if_neg q3, Int32.or_zero]
          exact sets_L h2 hN hr sum held hsum kk k (u + 1) m mm _ (by omega) (by omega) (by omega)
      · simp only [if_neg q2, Int32.or_zero, if_true, ite_self]
        exact sets_L h2 hN hr sum held hsum kk k (u + 1) m mm _ (by omega) (by omega) (by omega)
    · simp only [if_neg q1, Int32.or_zero, if_true]
      exact sets_L h2 hN hr sum held hsum kk k (u + 1) m mm _ (by omega) (by omega) (by omega)
end R2
