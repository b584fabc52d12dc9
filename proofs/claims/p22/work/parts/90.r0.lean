/-! the rule 3 of the model: rows of digits, gone through by numbers -/
theorem F6 : ∀ v : Fin 1024, ∀ d : Fin 10, v.1.testBit d.1 = true → nI v.1 &&& (1 <<< (nI d.1 &&& 31)) = nI (2 ^ d.1) := by decide +kernel
theorem F7 : ∀ d : Fin 10, (1 : Int32) <<< (nI d.1 &&& 31) = nI (2 ^ d.1) := by decide +kernel
theorem F8 : ∀ u : Fin 1024, ∀ x : Fin 10, (1 ≤ x.1 ∧ u.1.testBit x.1 = false) → sN (u.1 ||| 2 ^ x.1) 9 1 0 = sN u.1 9 1 0 + x.1 := by decide +kernel
theorem F9 : ∀ u : Fin 1024, sN u.1 9 1 0 ≤ 45 := by decide +kernel
def rowOk (S : Nat → Nat) (p d : Nat) : Nat → Nat → Nat → Nat → Bool
  | 0, _, _, _ => true
  | k + 1, j, v, u => (!u.testBit (1 + v % 9) && ((S j).testBit (1 + v % 9) && (!decide (j = p) || decide (1 + v % 9 = d)))) && rowOk S p d k (j + 1) (v / 9) (u ||| 2 ^ (1 + v % 9))
def rowSeen : Nat → Nat → Nat → Nat
  | 0, _, u => u
  | k + 1, v, u => rowSeen k (v / 9) (u ||| 2 ^ (1 + v % 9))
theorem rowOk_iff (S : Nat → Nat) (p d : Nat) : ∀ (k j v u : Nat), rowOk S p d k j v u = true ↔ (∀ i, i < k → (S (j + i)).testBit (dg v i) = true ∧ (j + i = p → dg v i = d) ∧ u.testBit (dg v i) = false) ∧ ∀ i i', i < i' → i' < k → dg v i ≠ dg v i'
  | 0, j, v, u => ⟨fun _ => ⟨fun i hi => by omega, fun i i' _ hi => by omega⟩, fun _ => rfl⟩
  | k + 1, j, v, u => by
    have hx : 1 + v % 9 = dg v 0 := (dg_zero v).symm
    rw [rowOk, hx]
    simp only [Bool.and_eq_true, Bool.or_eq_true, Bool.not_eq_true', decide_eq_true_eq, decide_eq_false_iff_not]
    rw [rowOk_iff S p d k (j + 1) (v / 9) (u ||| 2 ^ dg v 0)]
    constructor
    · rintro ⟨⟨a1, a2, a3⟩, a4, a5⟩
      refine ⟨fun i hi => ?_, fun i i' hii hi => ?_⟩
      · cases i with
        | zero =>
          refine ⟨a2, fun q => ?_, a1⟩
          rcases a3 with a3 | a3
          · exact absurd q a3
          · exact a3
        | succ i =>
          obtain ⟨b1, b2, b3⟩ := a4 i (by omega)
          rw [← dg_succ] at b1 b2 b3
          rw [bit_or, Bool.or_eq_false_iff] at b3
          rw [show j + (i + 1) = j + 1 + i by omega]
          exact ⟨b1, b2, b3.1⟩
      · cases i' with
        | zero => omega
        | succ i' =>
          cases i with
          | zero =>
            obtain ⟨b1, b2, b3⟩ := a4 i' (by omega)
            rw [← dg_succ, bit_or, Bool.or_eq_false_iff, decide_eq_false_iff_not] at b3
            exact b3.2
          | succ i =>
            have := a5 i i' (by omega) (by omega)
            rwa [← dg_succ, ← dg_succ] at this
    · rintro ⟨a1, a2⟩
      obtain ⟨b1, b2, b3⟩ := a1 0 (by omega)
      refine ⟨⟨b3, b1, ?_⟩, fun i hi => ?_, fun i i' hii hi => ?_⟩
      · by_cases q : j = p
        · exact Or.inr (b2 q)
        · exact Or.inl q
      · obtain ⟨c1, c2, c3⟩ := a1 (i + 1) (by omega)
        rw [← dg_succ, bit_or, Bool.or_eq_false_iff, decide_eq_false_iff_not]
        rw [show j + (i + 1) = j + 1 + i by omega] at c1 c2
        exact ⟨c1, c2, c3, a2 0 (i + 1) (by omega) (by omega)⟩
      · rw [← dg_succ, ← dg_succ]
        exact a2 (i + 1) (i' + 1) (by omega) (by omega)
theorem sumN_front (ds : Nat → Nat) : ∀ c, sumN ds (c + 1) = ds 0 + sumN (fun j => ds (j + 1)) c
  | 0 => by rw [sumN, sumN, sumN]; omega
  | c + 1 => by
    rw [sumN, sumN_front ds c, sumN]; omega
theorem row_sum (S : Nat → Nat) (p d : Nat) : ∀ (k j v u : Nat), u < 1024 → rowOk S p d k j v u = true → rowSeen k v u < 1024 ∧ sN (rowSeen k v u) 9 1 0 = sN u 9 1 0 + sumN (dg v) k
  | 0, j, v, u, hu, _ => ⟨hu, rfl⟩
  | k + 1, j, v, u, hu, h => by
    have hx : 1 + v % 9 = dg v 0 := (dg_zero v).symm
    have hd := dg_le v 0
    rw [rowOk, hx] at h
    simp only [Bool.and_eq_true, Bool.not_eq_true'] at h
    obtain ⟨⟨a1, -⟩, a2⟩ := h
    have hbit : u ||| 2 ^ dg v 0 < 1024 := Nat.or_lt_two_pow (n := 10) hu (Nat.pow_lt_pow_right (by omega) (by omega))
    obtain ⟨b1, b2⟩ := row_sum S p d k (j + 1) (v / 9) (u ||| 2 ^ dg v 0) hbit a2
    have b3 := F8 ⟨u, hu⟩ ⟨dg v 0, by omega⟩ ⟨hd.1, a1⟩
    dsimp only at b3
    rw [rowSeen, hx]
    refine ⟨b1, ?_⟩
    have hc : sumN (dg (v / 9)) k = sumN (fun j => dg v (j + 1)) k := sumN_congr k (fun i _ => (dg_succ v i).symm)
    rw [b2, b3, sumN_front, hc]; omega
def exV (P : Nat → Bool) : Nat → Nat → Bool
  | 0, _ => false
  | k + 1, i => P i || exV P k (i + 1)
theorem exV_iff (P : Nat → Bool) : ∀ k i, exV P k i = true ↔ ∃ x, i ≤ x ∧ x < i + k ∧ P x = true
  | 0, i => by
    constructor
    · intro h; exact absurd h (by simp [exV])
    · rintro ⟨x, h1, h2, _⟩; omega
  | k + 1, i => by
    rw [exV, Bool.or_eq_true, exV_iff P k (i + 1)]
    constructor
    · rintro (h | ⟨x, h1, h2, h3⟩)
      · exact ⟨i, Nat.le_refl _, by omega, h⟩
      · exact ⟨x, by omega, by omega, h3⟩
    · rintro ⟨x, h1, h2, h3⟩
      by_cases hq : x = i
      · subst hq; exact Or.inl h3
      · exact Or.inr ⟨x, by omega, by omega, h3⟩
def rowP (S : Nat → Nat) (p d len s v : Nat) : Bool := rowOk S p d len 0 v 0 && decide (sN (rowSeen len v 0) 9 1 0 = s)
theorem exV_cm {S : Nat → Nat} {p d len s : Nat} (hp : p < len) (hb : (S p).testBit d = true) : exV (rowP S p d len s) (9 ^ len) 0 = cm (fun j x => (if j = p then 2 ^ d else S j).testBit x) len s 0 := by
  rw [Bool.eq_iff_iff, exV_iff, cm_iff]
  constructor
  · rintro ⟨v, -, hv, h⟩
    rw [rowP, Bool.and_eq_true, decide_eq_true_eq] at h
    obtain ⟨h1, h2⟩ := h
    obtain ⟨-, h3⟩ := row_sum S p d len 0 v 0 (by omega) h1
    obtain ⟨h4, h5⟩ := (rowOk_iff S p d len 0 v 0).mp h1
    refine ⟨dg v, fun j hj => ?_, h5, ?_⟩
    · obtain ⟨a1, a2, -⟩ := h4 j hj
      rw [Nat.zero_add] at a1 a2
      refine ⟨(dg_le v j).1, (dg_le v j).2, ?_, Nat.zero_testBit _⟩
      by_cases q : j = p
      · simp only [if_pos q]
        rw [Nat.testBit_two_pow, decide_eq_true_eq]
        exact (a2 q).symm
      · simp only [if_neg q]; exact a1
    · rw [← h2, h3, show sN 0 9 1 0 = 0 from by decide]; omega
  · rintro ⟨ds, h1, h2, h3⟩
    obtain ⟨v, hv, h4⟩ := dg_ex len ds (fun j hj => ⟨(h1 j hj).1, (h1 j hj).2.1⟩)
    refine ⟨v, Nat.zero_le _, by omega, ?_⟩
    have hok : rowOk S p d len 0 v 0 = true := by
      rw [rowOk_iff]
      refine ⟨fun i hi => ?_, fun i i' hii hi => ?_⟩
      · obtain ⟨a1, a2, a3, -⟩ := h1 i hi
        rw [Nat.zero_add, h4 i hi]
        by_cases q : i = p
        · simp only [if_pos q] at a3
          rw [Nat.testBit_two_pow, decide_eq_true_eq] at a3
          refine ⟨?_, fun _ => a3.symm, Nat.zero_testBit _⟩
          rw [← a3, q]; exact hb
        · simp only [if_neg q] at a3
          exact ⟨a3, fun w => absurd w q, Nat.zero_testBit _⟩
      · rw [h4 i (by omega), h4 i' hi]
        exact h2 i i' hii hi
    obtain ⟨-, h5⟩ := row_sum S p d len 0 v 0 (by omega) hok
    rw [rowP, hok, Bool.true_and, decide_eq_true_eq, h5, show sN 0 9 1 0 = 0 from by decide, sumN_congr (es := ds) len h4]
    omega
