
/-! the words of the plain functions -/
abbrev inR (i : Int32) (n : Nat) : Prop := ¬ (i < 0 ∨ n ≤ i.toNatClampNeg)
def gd {α : Type} (c : Prop) [Decidable c] (x : Option α) : Option α := if c then x else none
def jn {γ : Type} {β : Type} (b : γ) (f : γ → β) : β := f b
theorem gd_some {α : Type} {c : Prop} [Decidable c] {x : Option α} {r : α} (h : gd c x = some r) : c ∧ x = some r := by
  unfold gd at h
  split at h
  · exact ⟨by assumption, h⟩
  · cases h
theorem jn_some {γ : Type} {β : Type} {b : γ} {f : γ → β} {r : β} (h : jn b f = r) : ∃ k, k = b ∧ f k = r := ⟨b, rfl, h⟩
theorem ite_t {β : Type} {c : Prop} [Decidable c] {a b r : β} (h : c) (hf : (if c then a else b) = r) : a = r := by rw [if_pos h] at hf; exact hf
theorem ite_f {β : Type} {c : Prop} [Decidable c] {a b r : β} (h : ¬ c) (hf : (if c then a else b) = r) : b = r := by rw [if_neg h] at hf; exact hf
def f_X3_at (n : Nat) (row : Nat → Int32) (x1 : Int32) : Int32 := if x1 < 0 then 0 else if nI n ≤ x1 then 0 else row x1.toNatClampNeg
def f_X3_put (n : Nat) (row : Nat → Int32) (x1 x2 : Int32) : Nat → Int32 := if x1 < 0 then row else if nI n ≤ x1 then row else upd row x1.toNatClampNeg x2
abbrev wB (cI : ClassId) (ad : Nat → Nat) (size rc : Int32) (g fs st ln su rr cr : Nat → Int32) : va_W := [((ad 0), .inr (0, [.int size, .int rc, .ref (ad 1), .ref (ad 2), .ref (ad 3), .ref (ad 4), .ref (ad 5), .ref (ad 6), .ref (ad 7)])), ((ad 1), .inl (cI, 16, .inl g)), ((ad 2), .inl (cI, 8, .inl fs)), ((ad 3), .inl (cI, 8, .inl st)), ((ad 4), .inl (cI, 8, .inl ln)), ((ad 5), .inl (cI, 8, .inl su)), ((ad 6), .inl (cI, 16, .inl rr)), ((ad 7), .inl (cI, 16, .inl cr))]
abbrev wT (cI : ClassId) (ad : Nat → Nat) (size rc : Int32) (g fs st ln su rr cr : Nat → Int32) (bc : Int32) (bl td fi fa : Nat → Int32) : va_W := [((ad 0), .inr (0, [.int size, .int rc, .ref (ad 1), .ref (ad 2), .ref (ad 3), .ref (ad 4), .ref (ad 5), .ref (ad 6), .ref (ad 7)])), ((ad 1), .inl (cI, 16, .inl g)), ((ad 2), .inl (cI, 8, .inl fs)), ((ad 3), .inl (cI, 8, .inl st)), ((ad 4), .inl (cI, 8, .inl ln)), ((ad 5), .inl (cI, 8, .inl su)), ((ad 6), .inl (cI, 16, .inl rr)), ((ad 7), .inl (cI, 16, .inl cr)), ((ad 8), .inr (2, [.ref (ad 0), .int bc, .ref (ad 9), .ref (ad 10), .ref (ad 11), .ref (ad 12)])), ((ad 9), .inl (cI, 16, .inl bl)), ((ad 10), .inl (cI, 16, .inl td)), ((ad 11), .inl (cI, 16, .inl fi)), ((ad 12), .inl (cI, 16, .inl fa))]
abbrev wS (cI : ClassId) (ad : Nat → Nat) (size rc : Int32) (g fs st ln su rr cr : Nat → Int32) (tk gr : Int32) (se sr : Nat → Int32) : va_W := [((ad 0), .inr (0, [.int size, .int rc, .ref (ad 1), .ref (ad 2), .ref (ad 3), .ref (ad 4), .ref (ad 5), .ref (ad 6), .ref (ad 7)])), ((ad 1), .inl (cI, 16, .inl g)), ((ad 2), .inl (cI, 8, .inl fs)), ((ad 3), .inl (cI, 8, .inl st)), ((ad 4), .inl (cI, 8, .inl ln)), ((ad 5), .inl (cI, 8, .inl su)), ((ad 6), .inl (cI, 16, .inl rr)), ((ad 7), .inl (cI, 16, .inl cr)), ((ad 13), .inr (1, [.ref (ad 0), .ref (ad 14), .ref (ad 15), .int tk, .int gr])), ((ad 14), .inl (cI, 16, .inl se)), ((ad 15), .inl (cI, 4, .inl sr))]
abbrev wG (cI : ClassId) (ad : Nat → Nat) (size rc : Int32) (g fs st ln su rr cr : Nat → Int32) (bc : Int32) (bl td fi fa : Nat → Int32) (tk gr : Int32) (se sr : Nat → Int32) : va_W := [((ad 0), .inr (0, [.int size, .int rc, .ref (ad 1), .ref (ad 2), .ref (ad 3), .ref (ad 4), .ref (ad 5), .ref (ad 6), .ref (ad 7)])), ((ad 1), .inl (cI, 16, .inl g)), ((ad 2), .inl (cI, 8, .inl fs)), ((ad 3), .inl (cI, 8, .inl st)), ((ad 4), .inl (cI, 8, .inl ln)), ((ad 5), .inl (cI, 8, .inl su)), ((ad 6), .inl (cI, 16, .inl rr)), ((ad 7), .inl (cI, 16, .inl cr)), ((ad 8), .inr (2, [.ref (ad 0), .int bc, .ref (ad 9), .ref (ad 10), .ref (ad 11), .ref (ad 12)])), ((ad 9), .inl (cI, 16, .inl bl)), ((ad 10), .inl (cI, 16, .inl td)), ((ad 11), .inl (cI, 16, .inl fi)), ((ad 12), .inl (cI, 16, .inl fa)), ((ad 13), .inr (1, [.ref (ad 0), .ref (ad 14), .ref (ad 15), .int tk, .int gr])), ((ad 14), .inl (cI, 16, .inl se)), ((ad 15), .inl (cI, 4, .inl sr)), ((ad 16), .inr (3, [.ref (ad 0), .ref (ad 8), .ref (ad 13)]))]
abbrev wM (cI : ClassId) (cZ : ClassId) (md : Nat → Nat) (mth msz mrn mmy mdf mgu mhs mlv : Int32) (mba mgi mfi mle mst msu mtr mdi mfa mca : Nat → Int32) : va_W := [((md 0), .inr (4, [.int mth, .int msz, .ref (md 1), .ref (md 2), .int mrn, .ref (md 3), .ref (md 4), .ref (md 5), .ref (md 6), .ref (md 7), .int mmy, .ref (md 8), .ref (md 9), .int mdf, .int mgu, .ref (md 10), .int mhs, .int mlv])), ((md 1), .inl (cZ, 16, .inl mba)), ((md 2), .inl (cI, 16, .inl mgi)), ((md 3), .inl (cI, 8, .inl mfi)), ((md 4), .inl (cI, 8, .inl mle)), ((md 5), .inl (cI, 8, .inl mst)), ((md 6), .inl (cI, 8, .inl msu)), ((md 7), .inl (cI, 16, .inl mtr)), ((md 8), .inl (cI, 16, .inl mdi)), ((md 9), .inl (cI, 16, .inl mfa)), ((md 10), .inl (cI, 16, .inl mca))]
abbrev wBX (cI : ClassId) (ad : Nat → Nat) (xa : Nat) (size rc : Int32) (g fs st ln su rr cr xf : Nat → Int32) : va_W := [((ad 0), .inr (0, [.int size, .int rc, .ref (ad 1), .ref (ad 2), .ref (ad 3), .ref (ad 4), .ref (ad 5), .ref (ad 6), .ref (ad 7)])), ((ad 1), .inl (cI, 16, .inl g)), ((ad 2), .inl (cI, 8, .inl fs)), ((ad 3), .inl (cI, 8, .inl st)), ((ad 4), .inl (cI, 8, .inl ln)), ((ad 5), .inl (cI, 8, .inl su)), ((ad 6), .inl (cI, 16, .inl rr)), ((ad 7), .inl (cI, 16, .inl cr)), (xa, .inl (cI, 16, .inl xf))]
abbrev wR (cI : ClassId) (a n : Nat) (row : Nat → Int32) : va_W := [(a, .inl (cI, n, .inl row))]
abbrev wE : va_W := []
theorem nar01 {v : Int32} (h : v = 0 ∨ v = 1) : narrow .boolean (.int v) = .int v := by rcases h with h | h <;> (subst h; rfl)
theorem inR_of {i : Int32} {n : Nat} (hn : n < 2 ^ 31) (h1 : ¬ i < 0) (h2 : ¬ nI n ≤ i) : vp_in i n := by
  intro h
  rcases h with h | h
  · exact h1 h
  · apply h2
    rw [Int32.le_iff_toInt_le, nI_toInt hn]
    have h3 : ¬ i.toInt < 0 := fun q => h1 (by rw [Int32.lt_iff_toInt_lt]; exact q)
    have h4 : i.toNatClampNeg = i.toInt.toNat := rfl
    omega
