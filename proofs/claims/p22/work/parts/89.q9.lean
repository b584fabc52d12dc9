/-! rows of digits as numbers -/
def dg (v j : Nat) : Nat := 1 + v / 9 ^ j % 9
theorem dg_zero (v : Nat) : dg v 0 = 1 + v % 9 := by rw [dg, Nat.pow_zero, Nat.div_one]
theorem dg_succ (v j : Nat) : dg v (j + 1) = dg (v / 9) j := by rw [dg, dg, Nat.pow_succ, Nat.mul_comm, Nat.div_div_eq_div_mul]
theorem dg_le (v j : Nat) : 1 ≤ dg v j ∧ dg v j ≤ 9 := by
  have := Nat.mod_lt (v / 9 ^ j) (show 0 < 9 by omega)
  unfold dg
  omega
theorem dg_ex : ∀ (len : Nat) (ds : Nat → Nat), (∀ j, j < len → 1 ≤ ds j ∧ ds j ≤ 9) → ∃ v, v < 9 ^ len ∧ ∀ j, j < len → dg v j = ds j
  | 0, ds, _ => ⟨0, by decide, fun j hj => by omega⟩
  | len + 1, ds, h => by
    obtain ⟨v, h1, h2⟩ := dg_ex len (fun j => ds (j + 1)) (fun j hj => h (j + 1) (by omega))
    obtain ⟨q1, q2⟩ := h 0 (by omega)
    refine ⟨(ds 0 - 1) + 9 * v, ?_, fun j hj => ?_⟩
    · rw [Nat.pow_succ]; omega
    · cases j with
      | zero => rw [dg_zero]; omega
      | succ j =>
        rw [dg_succ, show ((ds 0 - 1) + 9 * v) / 9 = v by omega]
        exact h2 j (by omega)
