/-! the rule 3 of the class -/
theorem bitI (v d : Nat) (hd : d < 32) : (nI v).toBitVec.getLsbD d = v.testBit d := by
  show (BitVec.ofNat 32 v).getLsbD d = _
  rw [BitVec.getLsbD_ofNat, decide_eq_true hd, Bool.true_and]
theorem free_eq {v u d : Nat} (hv : v < 1024) (hd : d < 10) : ((nI v &&& (nI u ^^^ (-1 : Int32))) &&& ((1 : Int32) <<< (nI d &&& 31)) = (0 : Int32)) ↔ (v.testBit d && !u.testBit d) = false := by
  obtain ⟨w, hw, e⟩ := and_small hv (nI u ^^^ (-1))
  have hm1 : (-1 : Int32).toBitVec = BitVec.allOnes 32 := by decide
  have h1 : w.testBit d = (v.testBit d && !u.testBit d) := by
    rw [← bitI w d (by omega), ← e, Int32.toBitVec_and, Int32.toBitVec_xor, hm1, BitVec.getLsbD_and, BitVec.getLsbD_xor, BitVec.getLsbD_allOnes, bitI v d (by omega), bitI u d (by omega), decide_eq_true (show d < 32 by omega)]
    cases v.testBit d <;> cases u.testBit d <;> rfl
  rw [e, F1 ⟨w, by omega⟩ ⟨d, hd⟩, h1]
theorem canMake_eq {N C : Nat} (hN : 16 < N) (hC4 : C ≤ 4) {row : Nat → Int32} {S : Nat → Nat} (hS : ∀ j, j < C → row j = nI (S j) ∧ S j < 1024) : ∀ (c D s u : Nat), c ≤ C → c < D → s ≤ 45 → u < 1024 → f_X1_canMake N D 4 row (nI c) (nI s) (nI u) = some (b01 (cm (fun j x => (S j).testBit x) c s u))
  | 0, D, s, u, hc, hD, hs, hu => by
    obtain ⟨D, rfl⟩ : ∃ m, D = m + 1 := ⟨D - 1, by omega⟩
    have h0 : ¬ (0 : Int32) < nI 0 := by decide
    rw [f_X1_canMake.eq_2, f_X1_canMake_1, if_neg h0, cm]
    by_cases hq : s = 0
    · rw [if_pos (by rw [hq]; rfl)]; simp [hq, b01]
    · rw [if_neg (show ¬ nI s = (0 : Int32) from fun w => hq ((nI_inj (b := 0) (by omega) (by omega)).mp w))]; simp [hq, b01]
  | c + 1, D, s, u, hc, hD, hs, hu => by
    obtain ⟨D, rfl⟩ : ∃ m, D = m + 1 := ⟨D - 1, by omega⟩
    have h0 : (0 : Int32) < nI (c + 1) := nI_lt (a := 0) (by omega) (by omega)
    have h4 : nI (c + 1) ≤ (4 : Int32) := nI_le (b := 4) (by omega) (by omega)
    have hsub : nI (c + 1) - 1 = nI c := nI_sub (a := c + 1) (b := 1) (by omega)
    obtain ⟨e1, e2⟩ := hS c (by omega)
    rw [f_X1_canMake.eq_2, f_X1_canMake_1, if_pos h0, if_pos h4, hsub, at_in _ (by decide) (by omega), e1]
    have loop : ∀ (k d n : Nat), d + k = 10 → 1 ≤ d → k < n → f_X1_canMake_L37 (nI (c + 1)) (nI s) (nI u) (nI (S c) &&& (nI u ^^^ (-1))) (f_X1_canMake N D 4 row) n (nI d) = some (b01 (cmL (fun d => (S c).testBit d && (!u.testBit d && cm (fun j x => (S j).testBit x) c (s - d) (u ||| 2 ^ d))) s k d)) := by
      intro k
      induction k with
      | zero =>
        intro d n hd h1 hn
        obtain ⟨m, rfl⟩ : ∃ m, n = m + 1 := ⟨n - 1, by omega⟩
        obtain rfl : d = 10 := by omega
        rw [f_X1_canMake_L37.eq_2, if_pos (by decide)]; rfl
      | succ k ih =>
        intro d n hd h1 hn
        obtain ⟨m, rfl⟩ : ∃ m, n = m + 1 := ⟨n - 1, by omega⟩
        have h9 : ¬ (9 : Int32) < nI d := nI_nlt (b := d) (a := 9) (by omega) (by omega)
        rw [f_X1_canMake_L37.eq_2, if_neg h9]
        by_cases hsd : s < d
        · rw [if_pos (nI_lt hsd (by omega))]
          have : cmL (fun d => (S c).testBit d && (!u.testBit d && cm (fun j x => (S j).testBit x) c (s - d) (u ||| 2 ^ d))) s (k + 1) d = false := by
            cases hq : cmL (fun d => (S c).testBit d && (!u.testBit d && cm (fun j x => (S j).testBit x) c (s - d) (u ||| 2 ^ d))) s (k + 1) d
            · rfl
            · obtain ⟨x, q1, q2, q3, q4⟩ := (cmL_iff _ _ _ _).mp hq
              omega
          rw [this]; rfl
        · have hbit : u ||| 2 ^ d < 1024 := Nat.or_lt_two_pow (n := 10) hu (Nat.pow_lt_pow_right (by omega) (by omega))
          rw [if_neg (nI_nlt (by omega) (by omega)), hsub, nI_sub (show d ≤ s by omega), F4 ⟨u, hu⟩ ⟨d, by omega⟩, cmL]
          simp only [jn_p, nI_1, ih (d + 1) m (by omega) (by omega) (by omega)]
          rw [canMake_eq hN hC4 hS c D (s - d) (u ||| 2 ^ d) (by omega) (by omega) (by omega) hbit]
          simp only [Option.bind_some]
          have hf := free_eq (v := S c) (u := u) (d := d) e2 (by omega)
          rw [decide_eq_true (show d ≤ s by omega), Bool.true_and]
          cases hq : ((S c).testBit d && !u.testBit d)
          · rw [if_pos (hf.mpr hq)]
            cases ha : (S c).testBit d <;> cases hb : u.testBit d <;> simp_all
          · rw [if_neg (fun w => Bool.noConfusion (hq.symm.trans (hf.mp w)))]
            rw [Bool.and_eq_true] at hq
            rw [hq.1, hq.2, Bool.true_and, Bool.true_and]
            cases cm (fun j x => (S j).testBit x) c (s - d) (u ||| 2 ^ d)
            · rw [if_pos (show b01 false = 0 from rfl), Bool.false_or]
            · rw [if_neg (by decide)]; rfl
    exact loop 9 1 N (by omega) (by omega) (by omega)
