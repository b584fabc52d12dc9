/-! a try that is not good: no filling behind it is an answer -/
theorem or_keep {m x b : Int32} (h : m &&& b = b) : (m ||| x) &&& b = b := by
  apply Int32.toBitVec_inj.mp
  apply BitVec.eq_of_getLsbD_eq
  intro i hi
  have h1 : (m &&& b).toBitVec.getLsbD i = b.toBitVec.getLsbD i := by rw [h]
  simp only [Int32.toBitVec_and, Int32.toBitVec_or, BitVec.getLsbD_and, BitVec.getLsbD_or] at h1 ⊢
  cases hm : m.toBitVec.getLsbD i <;> cases hx : x.toBitVec.getLsbD i <;> cases hb : b.toBitVec.getLsbD i <;> simp_all
theorem or_self_keep (m b : Int32) : (m ||| b) &&& b = b := by
  apply Int32.toBitVec_inj.mp
  apply BitVec.eq_of_getLsbD_eq
  intro i hi
  simp only [Int32.toBitVec_and, Int32.toBitVec_or, BitVec.getLsbD_and, BitVec.getLsbD_or]
  cases hm : m.toBitVec.getLsbD i <;> cases hb : b.toBitVec.getLsbD i <;> simp_all
theorem twc_met {E : Nat → Int32} {a s : Nat} {b : Int32} (hb : ¬ b = 0) : ∀ (k j : Nat) (met : Int32), met &&& b = b → twc E a s k j met = false → ∀ i, j ≤ i → i < j + k → (1 : Int32) <<< (E (a + i * s) &&& 31) ≠ b
  | 0, j, met, _, _, i, h1, h2 => by omega
  | k + 1, j, met, hm, ht, i, h1, h2 => by
    rw [twc] at ht
    by_cases hz : met &&& (1 <<< (E (a + j * s) &&& 31)) = 0
    · rw [if_pos hz] at ht
      by_cases hi : i = j
      · subst hi
        intro q
        rw [q, hm] at hz
        exact hb hz
      · exact twc_met hb k (j + 1) _ (or_keep hm) ht i (by omega) (by omega)
    · rw [if_neg hz] at ht; cases ht
theorem twc_unlike {E : Nat → Int32} {a s : Nat} : ∀ (k j : Nat) (met : Int32), (∀ i, j ≤ i → i < j + k → ∃ d : Nat, d ≤ 9 ∧ E (a + i * s) = nI d) → twc E a s k j met = false → ∀ i i', j ≤ i → i < i' → i' < j + k → E (a + i * s) ≠ E (a + i' * s)
  | 0, j, met, _, _, i, i', h1, h2, h3 => by omega
  | k + 1, j, met, hd, ht, i, i', h1, h2, h3 => by
    rw [twc] at ht
    by_cases hz : met &&& (1 <<< (E (a + j * s) &&& 31)) = 0
    · rw [if_pos hz] at ht
      by_cases hi : i = j
      · subst hi
        intro q
        obtain ⟨d, hd9, e⟩ := hd i (Nat.le_refl _) (by omega)
        have hb : ¬ (1 : Int32) <<< (E (a + i * s) &&& 31) = 0 := by
          rw [e, F7 ⟨d, by omega⟩]; exact F10 ⟨d, by omega⟩
        exact twc_met hb k (i + 1) _ (or_self_keep _ _) ht i' (by omega) (by omega) (by rw [q])
      · exact twc_unlike k (j + 1) _ (fun x q1 q2 => hd x (by omega) (by omega)) ht i i' (by omega) h2 (by omega)
    · rw [if_neg hz] at ht; cases ht
def tn (D : Nat → Int32) (a s : Nat) : Nat → Nat → Nat
  | 0, _ => 0
  | k + 1, j => (D (a + j * s)).toNatClampNeg + tn D a s k (j + 1)
theorem tot_tn {D : Nat → Int32} {a s : Nat} : ∀ (k j v : Nat), (∀ i, j ≤ i → i < j + k → ∃ d : Nat, d ≤ 9 ∧ D (a + i * s) = nI d) → tot D a s k j (nI v) = nI (v + tn D a s k j) ∧ tn D a s k j ≤ 9 * k
  | 0, j, v, _ => ⟨rfl, Nat.zero_le _⟩
  | k + 1, j, v, h => by
    obtain ⟨d, hd, e⟩ := h j (Nat.le_refl _) (by omega)
    obtain ⟨q1, q2⟩ := tot_tn (D := D) (a := a) (s := s) k (j + 1) (v + d) (fun i h1 h2 => h i (by omega) (by omega))
    have hc : (nI d).toNatClampNeg = d := nI_clamp (by omega)
    rw [tot, tn, e, nI_add, q1, hc, Nat.add_assoc]
    exact ⟨rfl, by omega⟩
def cin (a s c : Nat) : Nat → Nat → Nat
  | 0, _ => 0
  | k + 1, j => (if a + j * s = c then 1 else 0) + cin a s c k (j + 1)
theorem cin_zero {a s c : Nat} (hs : 0 < s) : ∀ k j, c < a + j * s → cin a s c k j = 0
  | 0, _, _ => rfl
  | k + 1, j, h => by
    rw [cin, if_neg (by omega), cin_zero hs k (j + 1) (by rw [Nat.succ_mul]; omega)]
theorem cin_one {a s c : Nat} (hs : 0 < s) : ∀ k j, (∃ i, j ≤ i ∧ i < j + k ∧ c = a + i * s) → cin a s c k j = 1
  | 0, j, ⟨i, h1, h2, _⟩ => by omega
  | k + 1, j, ⟨i, h1, h2, h3⟩ => by
    rw [cin]
    by_cases hi : i = j
    · subst hi
      rw [if_pos h3.symm, cin_zero hs k (i + 1) (by rw [h3, Nat.succ_mul]; omega)]
    · have hlt : (j + 1) * s ≤ i * s := Nat.mul_le_mul_right s (by omega)
      rw [Nat.succ_mul] at hlt
      rw [if_neg (by omega), cin_one hs k (j + 1) ⟨i, by omega, by omega, h3⟩]
theorem tn_ext {D E : Nat → Int32} {a s c e : Nat} (hDc : D c = 0) (hEc : E c = nI e) (he : e ≤ 9) : ∀ (k j : Nat), (∀ i, j ≤ i → i < j + k → ∃ d : Nat, d ≤ 9 ∧ D (a + i * s) = nI d) → (∀ i, j ≤ i → i < j + k → ∃ d : Nat, 1 ≤ d ∧ d ≤ 9 ∧ E (a + i * s) = nI d) → (∀ i, j ≤ i → i < j + k → a + i * s ≠ c → D (a + i * s) ≠ 0 → E (a + i * s) = D (a + i * s)) →
    (fld D c a s k j = true → tn D a s k j + e * cin a s c k j = tn E a s k j) ∧ (fld D c a s k j = false → tn D a s k j + e * cin a s c k j + 1 ≤ tn E a s k j) ∧ tn D a s k j + e * cin a s c k j ≤ tn E a s k j
  | 0, j, _, _, _ => ⟨fun _ => rfl, fun h => (by cases h), Nat.le_refl _⟩
  | k + 1, j, h1, h2, h3 => by
    obtain ⟨i1, i2, i3⟩ := tn_ext (D := D) (E := E) (a := a) (s := s) hDc hEc he k (j + 1) (fun i q1 q2 => h1 i (by omega) (by omega)) (fun i q1 q2 => h2 i (by omega) (by omega)) (fun i q1 q2 => h3 i (by omega) (by omega))
    rw [fld, tn, tn, cin]
    by_cases hc : a + j * s = c
    · have z1 : (D (a + j * s)).toNatClampNeg = 0 := by rw [hc, hDc]; rfl
      have z2 : (E (a + j * s)).toNatClampNeg = e := by rw [hc, hEc]; exact nI_clamp (by omega)
      rw [z1, z2, if_pos hc, decide_eq_true hc, Bool.true_or, Bool.true_and, Nat.mul_add, Nat.mul_one]
      refine ⟨fun q => ?_, fun q => ?_, ?_⟩
      · have := i1 q; omega
      · have := i2 q; omega
      · omega
    · obtain ⟨d, hd, ed⟩ := h1 j (Nat.le_refl _) (by omega)
      obtain ⟨d', hd1, hd9, ed'⟩ := h2 j (Nat.le_refl _) (by omega)
      have z1 : (D (a + j * s)).toNatClampNeg = d := by rw [ed]; exact nI_clamp (by omega)
      have z2 : (E (a + j * s)).toNatClampNeg = d' := by rw [ed']; exact nI_clamp (by omega)
      rw [z1, z2, if_neg hc, decide_eq_false hc, Bool.false_or, Nat.zero_add]
      by_cases h0 : d = 0
      · subst h0
        have hle : D (a + j * s) ≤ 0 := by rw [ed]; decide
        rw [decide_eq_true hle]
        refine ⟨fun q => (by cases q), fun _ => by omega, by omega⟩
      · have hne : ¬ D (a + j * s) ≤ 0 := by rw [ed]; exact fun q => h0 ((nI_le0 hd).mp q)
        have hnz : D (a + j * s) ≠ 0 := by rw [ed]; exact fun q => h0 ((nI_zero hd).mp q)
        have hdd : d' = d := by
          have := h3 j (Nat.le_refl _) (by omega) hc hnz
          rw [ed, ed'] at this
          exact (nI_inj (by omega) (by omega)).mp this
        rw [decide_eq_false hne, Bool.not_false, Bool.true_and, hdd]
        refine ⟨fun q => ?_, fun q => ?_, ?_⟩
        · have := i1 q; omega
        · have := i2 q; omega
        · omega
theorem unl_all {D : Nat → Int32} {c : Nat} {d : Int32} {a s : Nat} : ∀ (k j : Nat), (∀ i, j ≤ i → i < j + k → a + i * s = c ∨ D (a + i * s) ≠ d) → unl D c d a s k j = true
  | 0, _, _ => rfl
  | k + 1, j, h => by
    rw [unl, unl_all k (j + 1) (fun i h1 h2 => h i (by omega) (by omega)), Bool.and_true]
    rcases h j (Nat.le_refl _) (by omega) with q | q
    · rw [decide_eq_true q]; rfl
    · rw [decide_eq_false q]; simp
section PRUNE
variable {sz : Nat} {mba : Nat → Int32} {rs : Rn}
theorem ansN_at {su D : Nat → Int32} : ∀ (k i : Nat), i + k = rs.length → ansN rs su D k i = true → ∀ (r : Nat) (t : Nat × Nat × Nat), i ≤ r → rs[r]? = some t → twc D t.1 t.2.1 t.2.2 0 0 = false ∧ (su r = 0 ∨ tot D t.1 t.2.1 t.2.2 0 0 = su r)
  | 0, i, hi, _, r, t, h1, h2 => by
    have := (List.getElem?_eq_some_iff.mp h2).1
    omega
  | k + 1, i, hi, h, r, t, h1, h2 => by
    rw [ansN, Bool.and_eq_true] at h
    by_cases hq : r = i
    · subst hq
      rw [h2] at h
      simp only [Bool.and_eq_true, Bool.or_eq_true, Bool.not_eq_true', decide_eq_true_eq] at h
      exact h.1
    · exact ansN_at k (i + 1) (by omega) h.2 r t (by omega) h2
theorem prune (hV : VR sz mba rs) {su D E : Nat → Int32} {c e : Nat} (he1 : 1 ≤ e) (he9 : e ≤ 9) (hDc : D c = 0) (hEc : E c = nI e) (hD : ∀ x, x < 16 → ∃ d : Nat, d ≤ 9 ∧ D x = nI d) (hE : ∀ x, opn sz mba x = true → ∃ d : Nat, 1 ≤ d ∧ d ≤ 9 ∧ E x = nI d) (hDE : ∀ x, x < 16 → x ≠ c → D x ≠ 0 → E x = D x) (hA : ansN rs su E rs.length 0 = true) : gAll rs su D c (nI e) rs.length 0 = true := by
  rw [gAll_iff su D c (nI e) rs.length 0 (Nat.zero_add _)]
  intro r t _ hr hbt
  obtain ⟨hs, hl2, hl4, hcell⟩ := hV.at hr
  have hi := (hb_iff hs c).mp hbt
  obtain ⟨a1, a2⟩ := ansN_at rs.length 0 (Nat.zero_add _) hA r t (Nat.zero_le _) hr
  have hs0 : 0 < t.2.1 := by omega
  have dD : ∀ i, 0 ≤ i → i < 0 + t.2.2 → ∃ d : Nat, d ≤ 9 ∧ D (t.1 + i * t.2.1) = nI d := fun i _ h => hD _ (hcell i (by omega)).2
  have dE1 : ∀ i, 0 ≤ i → i < 0 + t.2.2 → ∃ d : Nat, 1 ≤ d ∧ d ≤ 9 ∧ E (t.1 + i * t.2.1) = nI d := fun i _ h => hE _ (hcell i (by omega)).1
  have dE : ∀ i, 0 ≤ i → i < 0 + t.2.2 → ∃ d : Nat, d ≤ 9 ∧ E (t.1 + i * t.2.1) = nI d := fun i h1 h2 => by
    obtain ⟨d, _, q1, q2⟩ := dE1 i h1 h2
    exact ⟨d, q1, q2⟩
  obtain ⟨x1, x2, x3⟩ := tn_ext (D := D) (E := E) (a := t.1) (s := t.2.1) (c := c) hDc hEc he9 t.2.2 0 dD dE1 (fun i _ h q1 q2 => hDE _ (hcell i (by omega)).2 q1 q2)
  obtain ⟨j, hj, hcj⟩ := hi
  have hcin : cin t.1 t.2.1 c t.2.2 0 = 1 := cin_one hs0 t.2.2 0 ⟨j, Nat.zero_le _, by omega, hcj⟩
  rw [hcin, Nat.mul_one] at x1 x2 x3
  have tD := tot_tn (D := D) (a := t.1) (s := t.2.1) t.2.2 0 0 dD
  have tE := tot_tn (D := E) (a := t.1) (s := t.2.1) t.2.2 0 0 dE
  have tD1 : tot D t.1 t.2.1 t.2.2 0 0 = nI (tn D t.1 t.2.1 t.2.2 0) := by
    have := tD.1
    rw [Nat.zero_add] at this
    exact this
  have tE1 : tot E t.1 t.2.1 t.2.2 0 0 = nI (tn E t.1 t.2.1 t.2.2 0) := by
    have := tE.1
    rw [Nat.zero_add] at this
    exact this
  have hu : unl D c (nI e) t.1 t.2.1 t.2.2 0 = true := by
    refine unl_all t.2.2 0 fun i _ h => ?_
    by_cases hq : t.1 + i * t.2.1 = c
    · exact Or.inl hq
    · right
      intro w
      have hnz : D (t.1 + i * t.2.1) ≠ 0 := by
        rw [w]; exact fun q => by have := (nI_zero he9).mp q; omega
      have hEi : E (t.1 + i * t.2.1) = nI e := by rw [hDE _ (hcell i (by omega)).2 hq hnz, w]
      have hij : i ≠ j := fun q => hq (by rw [q, ← hcj])
      have hEj : E (t.1 + j * t.2.1) = nI e := by rw [← hcj]; exact hEc
      rcases Nat.lt_or_gt_of_ne hij with q | q
      · exact twc_unlike t.2.2 0 0 dE a1 i j (Nat.zero_le _) q (by omega) (by rw [hEi, hEj])
      · exact twc_unlike t.2.2 0 0 dE a1 j i (Nat.zero_le _) q (by omega) (by rw [hEi, hEj])
  rw [rok, hu, Bool.true_and]
  rcases a2 with a2 | a2
  · rw [decide_eq_true a2, Bool.true_or]
  · rw [tE1] at a2
    rw [tD1, nI_add, ← a2]
    cases hf : fld D c t.1 t.2.1 t.2.2 0
    · have := x2 hf
      have hge : ¬ nI (tn E t.1 t.2.1 t.2.2 0) ≤ nI (tn D t.1 t.2.1 t.2.2 0 + e) := nI_ge (by omega) (by omega)
      rw [decide_eq_false hge]; simp
    · have := x1 hf
      rw [this, decide_eq_true rfl]; simp
end PRUNE
