/-! the rule 3: unlike digits that make a sum -/
def cmL (f : Nat → Bool) (s : Nat) : Nat → Nat → Bool
  | 0, _ => false
  | k + 1, d => (decide (d ≤ s) && f d) || cmL f s k (d + 1)
def cm (Q : Nat → Nat → Bool) : Nat → Nat → Nat → Bool
  | 0, s, _ => decide (s = 0)
  | c + 1, s, u => cmL (fun d => Q c d && (!u.testBit d && cm Q c (s - d) (u ||| 2 ^ d))) s 9 1
def sumN (ds : Nat → Nat) : Nat → Nat
  | 0 => 0
  | c + 1 => sumN ds c + ds c
theorem sumN_congr {ds es : Nat → Nat} : ∀ c, (∀ j, j < c → ds j = es j) → sumN ds c = sumN es c
  | 0, _ => rfl
  | c + 1, h => by rw [sumN, sumN, sumN_congr c (fun j hj => h j (by omega)), h c (by omega)]
theorem cmL_iff (f : Nat → Bool) (s : Nat) : ∀ k d, cmL f s k d = true ↔ ∃ x, d ≤ x ∧ x < d + k ∧ x ≤ s ∧ f x = true
  | 0, d => by
    constructor
    · intro h
      exact absurd h (by simp [cmL])
    · rintro ⟨x, h1, h2, _⟩
      omega
  | k + 1, d => by
    rw [cmL, Bool.or_eq_true, Bool.and_eq_true, decide_eq_true_eq, cmL_iff f s k (d + 1)]
    constructor
    · rintro (⟨h1, h2⟩ | ⟨x, h1, h2, h3, h4⟩)
      · exact ⟨d, Nat.le_refl _, by omega, h1, h2⟩
      · exact ⟨x, by omega, by omega, h3, h4⟩
    · rintro ⟨x, h1, h2, h3, h4⟩
      by_cases hq : x = d
      · subst hq; exact Or.inl ⟨h3, h4⟩
      · exact Or.inr ⟨x, by omega, by omega, h3, h4⟩
theorem bit_or (u d x : Nat) : (u ||| 2 ^ d).testBit x = (u.testBit x || decide (d = x)) := by
  rw [Nat.testBit_or, Nat.testBit_two_pow]
theorem cm_iff (Q : Nat → Nat → Bool) : ∀ (c s u : Nat), cm Q c s u = true ↔ ∃ ds : Nat → Nat, (∀ j, j < c → 1 ≤ ds j ∧ ds j ≤ 9 ∧ Q j (ds j) = true ∧ u.testBit (ds j) = false) ∧ (∀ i j, i < j → j < c → ds i ≠ ds j) ∧ sumN ds c = s
  | 0, s, u => by
    rw [cm, decide_eq_true_eq]
    exact ⟨fun h => ⟨fun _ => 0, fun j hj => by omega, fun i j _ hj => by omega, h.symm⟩, fun ⟨ds, _, _, h⟩ => h.symm⟩
  | c + 1, s, u => by
    rw [cm, cmL_iff]
    constructor
    · rintro ⟨x, h1, h2, h3, h4⟩
      simp only [Bool.and_eq_true, Bool.not_eq_true'] at h4
      obtain ⟨h5, h6, h7⟩ := h4
      obtain ⟨ds, e1, e2, e3⟩ := (cm_iff Q c (s - x) (u ||| 2 ^ x)).mp h7
      refine ⟨fun j => if j = c then x else ds j, fun j hj => ?_, fun i j hij hj => ?_, ?_⟩
      · by_cases hq : j = c
        · simp only [hq, if_true]; exact ⟨h1, by omega, h5, h6⟩
        · simp only [if_neg hq]
          obtain ⟨q1, q2, q3, q4⟩ := e1 j (by omega)
          rw [bit_or, Bool.or_eq_false_iff] at q4
          exact ⟨q1, q2, q3, q4.1⟩
      · have hi : i ≠ c := by omega
        simp only [if_neg hi]
        by_cases hq : j = c
        · rw [if_pos hq]
          obtain ⟨q1, q2, q3, q4⟩ := e1 i (by omega)
          rw [bit_or, Bool.or_eq_false_iff, decide_eq_false_iff_not] at q4
          exact fun w => q4.2 w.symm
        · rw [if_neg hq]; exact e2 i j hij (by omega)
      · rw [sumN, if_pos rfl, sumN_congr (es := ds) c (fun j hj => if_neg (by omega)), e3]; omega
    · rintro ⟨ds, e1, e2, e3⟩
      obtain ⟨q1, q2, q3, q4⟩ := e1 c (by omega)
      rw [sumN] at e3
      refine ⟨ds c, q1, by omega, by omega, ?_⟩
      simp only [Bool.and_eq_true, Bool.not_eq_true']
      refine ⟨q3, q4, (cm_iff Q c (s - ds c) (u ||| 2 ^ ds c)).mpr ⟨ds, fun j hj => ?_, fun i j hij hj => e2 i j hij (by omega), by omega⟩⟩
      obtain ⟨w1, w2, w3, w4⟩ := e1 j (by omega)
      refine ⟨w1, w2, w3, ?_⟩
      rw [bit_or, w4, Bool.false_or, decide_eq_false_iff_not]
      exact fun q => e2 j c hj (by omega) q.symm
