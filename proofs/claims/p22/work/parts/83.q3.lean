/-! taking candidates away -/
def pcI (x : Int32) : Nat := cnt (fun d => x.toBitVec.getLsbD d) 0 10
def msr (se : Nat → Int32) : Nat → Nat
  | 0 => 0
  | k + 1 => msr se k + pcI (se k)
theorem cnt_mono {P Q : Nat → Bool} (h : ∀ d, P d = true → Q d = true) : ∀ k i, cnt P i k ≤ cnt Q i k
  | 0, _ => Nat.le_refl _
  | k + 1, i => by
    have ih := cnt_mono h k (i + 1)
    have h1 := h i
    rw [cnt.eq_2, cnt.eq_2]
    cases hp : P i
    · rw [if_neg (by decide)]; omega
    · rw [if_pos rfl, if_pos (h1 hp)]; omega
theorem cnt_strict {P Q : Nat → Bool} (h : ∀ d, P d = true → Q d = true) {d : Nat} (hq : Q d = true) (hp : P d = false) : ∀ k i, i ≤ d → d < i + k → cnt P i k < cnt Q i k
  | 0, i, h1, h2 => by omega
  | k + 1, i, h1, h2 => by
    rw [cnt.eq_2, cnt.eq_2]
    by_cases hd : d = i
    · subst hd
      have := cnt_mono h k (d + 1)
      rw [hp, hq, if_neg (by decide), if_pos rfl]; omega
    · have ih := cnt_strict h hq hp k (i + 1) (by omega) (by omega)
      have h1 := h i
      cases hpi : P i
      · rw [if_neg (by decide)]; omega
      · rw [if_pos rfl, if_pos (h1 hpi)]; omega
theorem pcI_take {v : Nat} (hv : v < 1024) {y : Int32} (h : ¬ nI v &&& y = 0) : pcI (nI v &&& (y ^^^ (-1))) < pcI (nI v) := by
  have hex : ∃ d, d < 10 ∧ (nI v).toBitVec.getLsbD d = true ∧ y.toBitVec.getLsbD d = true := by
    refine Decidable.byContradiction fun hn => h ?_
    rw [← Int32.toBitVec_inj, Int32.toBitVec_and]
    apply BitVec.eq_of_getLsbD_eq
    intro i hi
    show _ = (0#32).getLsbD i
    rw [BitVec.getLsbD_and, BitVec.getLsbD_zero]
    cases ha : (nI v).toBitVec.getLsbD i
    · rfl
    · cases hb : y.toBitVec.getLsbD i
      · rfl
      · exfalso
        by_cases h10 : i < 10
        · exact hn ⟨i, h10, ha, hb⟩
        · have ha' : (BitVec.ofNat 32 v).getLsbD i = true := ha
          rw [BitVec.getLsbD_ofNat, Bool.and_eq_true] at ha'
          have : v.testBit i = false := Nat.testBit_lt_two_pow (Nat.lt_of_lt_of_le hv (show 2 ^ 10 ≤ 2 ^ i from Nat.pow_le_pow_right (by omega) (by omega)))
          rw [this] at ha'
          cases ha'.2
  obtain ⟨d, h1, h2, h3⟩ := hex
  have hm1 : (-1 : Int32).toBitVec = BitVec.allOnes 32 := by decide
  refine cnt_strict (d := d) (fun i hi => ?_) h2 ?_ 10 0 (Nat.zero_le _) (by omega)
  · rw [Int32.toBitVec_and, BitVec.getLsbD_and, Bool.and_eq_true] at hi
    exact hi.1
  · rw [Int32.toBitVec_and, Int32.toBitVec_xor, hm1, BitVec.getLsbD_and, BitVec.getLsbD_xor, h3, BitVec.getLsbD_allOnes]
    simp; omega
theorem msr_upd_lt {se : Nat → Int32} {c : Nat} {x : Int32} (h : pcI x < pcI (se c)) : ∀ k, c < k → msr (upd se c x) k < msr se k
  | 0, hk => by omega
  | k + 1, hk => by
    rw [msr, msr]
    by_cases hq : c = k
    · subst hq
      have : ∀ j, j ≤ c → msr (upd se c x) j = msr se j := by
        intro j
        induction j with
        | zero => intro _; rfl
        | succ j ih => intro hj; rw [msr, msr, ih (by omega), upd_ne _ _ (by omega)]
      rw [this c (Nat.le_refl _), upd_eq]; omega
    · rw [upd_ne _ _ (by omega)]
      have := msr_upd_lt h k (by omega)
      omega
def SR (tk mhs : Int32) (se mca : Nat → Int32) : Prop := tk = mhs ∧ (tk = 0 ∨ tk = 1) ∧ ∀ c, c < 16 → se c = mca c ∧ ∃ v : Nat, v < 1024 ∧ se c = nI v
def SUB (se' se : Nat → Int32) : Prop := ∀ c, c < 16 → se' c &&& se c = se' c
theorem SUB.refl (se : Nat → Int32) : SUB se se := fun c _ => by simp
theorem SUB.trans {s t u : Nat → Int32} (h1 : SUB t s) (h2 : SUB u t) : SUB u s := fun c hc => by
  have q1 := h1 c hc
  have q2 := h2 c hc
  rw [← q2, Int32.and_assoc, q1]
def LE (tk : Int32) (se : Nat → Int32) (tk' : Int32) (se' : Nat → Int32) : Prop := (msr se' 16 ≤ msr se 16 ∧ (tk' = tk ∨ (tk' = 1 ∧ msr se' 16 < msr se 16))) ∧ SUB se' se
theorem LE.refl (tk : Int32) (se : Nat → Int32) : LE tk se tk se := ⟨⟨Nat.le_refl _, Or.inl rfl⟩, SUB.refl se⟩
theorem LE.trans {a b c : Int32} {s t u : Nat → Int32} (h1 : LE a s b t) (h2 : LE b t c u) : LE a s c u := by
  obtain ⟨⟨p1, p2⟩, p9⟩ := h1
  obtain ⟨⟨q1, q2⟩, q9⟩ := h2
  refine ⟨⟨Nat.le_trans q1 p1, ?_⟩, p9.trans q9⟩
  rcases q2 with q2 | ⟨q2, q3⟩
  · rcases p2 with p2 | ⟨p2, p3⟩
    · exact Or.inl (q2.trans p2)
    · exact Or.inr ⟨q2.trans p2, by omega⟩
  · exact Or.inr ⟨q2, by omega⟩
theorem SUB.upd (se : Nat → Int32) (c : Nat) (y : Int32) : SUB (upd se c (se c &&& y)) se := fun x _ => by
  by_cases h : x = c
  · rw [h, upd_eq, Int32.and_assoc, Int32.and_comm y, ← Int32.and_assoc, Int32.and_self]
  · rw [upd_ne _ _ h, Int32.and_self]
theorem take_both {tk mhs : Int32} {se mca : Nat → Int32} (h : SR tk mhs se mca) {c : Nat} (hc : c < 16) (y : Int32) : ∃ (tk' mhs' : Int32) (se' mca' : Nat → Int32), f_X1_take tk se (nI c) y = (tk', se') ∧ f_X4_take mhs mca (nI c) y = some (mhs', mca') ∧ SR tk' mhs' se' mca' ∧ LE tk se tk' se' := by
  obtain ⟨h1, h2, h3⟩ := h
  obtain ⟨e1, v, hv, e2⟩ := h3 c hc
  have hin : inR (nI c) 16 := inR_in (by decide) hc
  have hcl : (nI c).toNatClampNeg = c := nI_clamp (by omega)
  subst h1
  rw [f_X1_take, f_X4_take, at_in _ (by decide) hc]
  simp only [jn_p, put_in _ _ (show 16 < 2 ^ 31 by decide) hc, hcl, ← e1]
  by_cases hq : se c &&& y = 0
  · have hsame : se c &&& (y ^^^ (-1)) = se c := and_not_self hq
    have hmca : ∀ x, x < 16 → upd mca c (se c &&& (y ^^^ (-1))) x = mca x := fun x hx => by
      by_cases hxc : x = c
      · rw [hxc, upd_eq, hsame, e1]
      · rw [upd_ne _ _ hxc]
    rw [if_pos hq]
    refine ⟨tk, tk, se, upd mca c (se c &&& (y ^^^ (-1))), rfl, ?_, ⟨rfl, h2, fun x hx => by rw [hmca x hx]; exact h3 x hx⟩, LE.refl _ _⟩
    rcases h2 with h2 | h2
    · rw [h2, if_pos rfl, gd_t hin, if_pos hq, gd_t (show True ∨ (0 : Int32) = 1 from Or.inl trivial), gd_t hin, gd_t hin]
    · rw [h2, if_neg (by decide), gd_t (show (1 : Int32) = 0 ∨ True from Or.inr trivial), gd_t hin, gd_t hin]
  · rw [if_neg hq]
    have hlt : pcI (se c &&& (y ^^^ (-1))) < pcI (se c) := by rw [e2] at hq ⊢; exact pcI_take hv hq
    have hms := msr_upd_lt (x := se c &&& (y ^^^ (-1))) hlt 16 hc
    refine ⟨1, 1, upd se c (se c &&& (y ^^^ (-1))), upd mca c (se c &&& (y ^^^ (-1))), rfl, ?_, ⟨rfl, Or.inr rfl, fun x hx => ?_⟩, ⟨Nat.le_of_lt hms, Or.inr ⟨rfl, hms⟩⟩, SUB.upd se c _⟩
    · rcases h2 with h2 | h2
      · rw [h2, if_pos rfl, gd_t hin, if_neg hq, gd_t (show (1 : Int32) = 0 ∨ True from Or.inr trivial), gd_t hin, gd_t hin]
      · rw [h2, if_neg (by decide), gd_t (show (1 : Int32) = 0 ∨ True from Or.inr trivial), gd_t hin, gd_t hin]
    · by_cases hxc : x = c
      · rw [hxc, upd_eq, upd_eq]
        refine ⟨rfl, ?_⟩
        rw [e2]
        obtain ⟨w, hw, e3⟩ := and_small hv (y ^^^ (-1))
        exact ⟨w, by omega, e3⟩
      · rw [upd_ne _ _ hxc, upd_ne _ _ hxc]; exact h3 x hx
