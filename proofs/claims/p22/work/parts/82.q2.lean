/-! sets of digits as bits -/
theorem and_not_self {x y : Int32} (h : x &&& y = 0) : x &&& (y ^^^ (-1)) = x := by
  rw [← Int32.toBitVec_inj] at h ⊢
  simp only [Int32.toBitVec_and, Int32.toBitVec_xor] at h ⊢
  apply BitVec.eq_of_getLsbD_eq
  intro i hi
  have h1 : ∀ j, j < 32 → (x.toBitVec &&& y.toBitVec).getLsbD j = (0#32).getLsbD j := fun j _ => by rw [h]; rfl
  have h2 := h1 i hi
  have h3 : (-1 : Int32).toBitVec = BitVec.allOnes 32 := by decide
  rw [h3]
  simp only [BitVec.getLsbD_and, BitVec.getLsbD_xor, BitVec.getLsbD_allOnes, hi, BitVec.getLsbD_zero, decide_true] at h2 ⊢
  cases ha : x.toBitVec.getLsbD i <;> cases hb : y.toBitVec.getLsbD i <;> simp_all
theorem sub_iff (x y : Int32) : (x &&& y = y) ↔ (y &&& (x ^^^ (-1)) = 0) := by
  rw [← Int32.toBitVec_inj, ← Int32.toBitVec_inj]
  simp only [Int32.toBitVec_and, Int32.toBitVec_xor]
  have h3 : (-1 : Int32).toBitVec = BitVec.allOnes 32 := by decide
  rw [h3]
  constructor
  · intro h
    apply BitVec.eq_of_getLsbD_eq
    intro i hi
    have h2 : (x.toBitVec &&& y.toBitVec).getLsbD i = y.toBitVec.getLsbD i := by rw [h]
    show (y.toBitVec &&& (x.toBitVec ^^^ BitVec.allOnes 32)).getLsbD i = (0#32).getLsbD i
    simp only [BitVec.getLsbD_and, BitVec.getLsbD_xor, BitVec.getLsbD_allOnes, hi, BitVec.getLsbD_zero, decide_true] at h2 ⊢
    cases ha : x.toBitVec.getLsbD i <;> cases hb : y.toBitVec.getLsbD i <;> simp_all
  · intro h
    apply BitVec.eq_of_getLsbD_eq
    intro i hi
    have h2 : (y.toBitVec &&& (x.toBitVec ^^^ BitVec.allOnes 32)).getLsbD i = (0#32).getLsbD i := by rw [h]; rfl
    simp only [BitVec.getLsbD_and, BitVec.getLsbD_xor, BitVec.getLsbD_allOnes, hi, BitVec.getLsbD_zero, decide_true] at h2 ⊢
    cases ha : x.toBitVec.getLsbD i <;> cases hb : y.toBitVec.getLsbD i <;> simp_all
theorem and_small {v : Nat} (hv : v < 1024) (y : Int32) : ∃ w : Nat, w ≤ v ∧ nI v &&& y = nI w := by
  refine ⟨(nI v &&& y).toBitVec.toNat, ?_, ?_⟩
  · rw [Int32.toBitVec_and, BitVec.toNat_and]
    refine Nat.le_trans Nat.and_le_left ?_
    show v % 2 ^ 32 ≤ v
    exact Nat.mod_le _ _
  · rw [← Int32.toBitVec_inj]
    show (nI v &&& y).toBitVec = BitVec.ofNat 32 (nI v &&& y).toBitVec.toNat
    rw [BitVec.ofNat_toNat, BitVec.setWidth_eq]
theorem F1 : ∀ v : Fin 1024, ∀ d : Fin 10, (nI v.1 &&& (1 <<< (nI d.1 &&& 31)) = 0) ↔ v.1.testBit d.1 = false := by decide +kernel
theorem F2 : ∀ v : Fin 1024, ∀ d : Fin 10, ((nI v.1 >>> (nI d.1 &&& 31)) &&& 1) = if v.1.testBit d.1 then 1 else 0 := by decide +kernel
theorem F3 : ∀ v : Fin 1024, f_X1_isSingle (nI v.1) = f_X4_isSingle (nI v.1) := by decide +kernel
theorem F4 : ∀ v : Fin 1024, ∀ d : Fin 10, nI v.1 ||| (1 <<< (nI d.1 &&& 31)) = nI (v.1 ||| 2 ^ d.1) := by decide +kernel
