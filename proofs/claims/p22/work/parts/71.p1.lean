/-! runs: both sides lay the same list of (first cell, step, length) -/
abbrev Rn : Type := List (Nat × Nat × Nat)
def inr (t : Nat × Nat × Nat) (c : Nat) : Prop := ∃ j : Nat, j < t.2.2 ∧ c = t.1 + j * t.2.1
def RT (rs : Rn) (rc : Int32) (fs st ln : Nat → Int32) : Prop := rc = nI rs.length ∧ rs.length ≤ 8 ∧ ∀ (r : Nat) (t : Nat × Nat × Nat), rs[r]? = some t → fs r = nI t.1 ∧ st r = nI t.2.1 ∧ ln r = nI t.2.2
def RRel (rs : Rn) (rr cr : Nat → Int32) : Prop := (∀ (r : Nat) (t : Nat × Nat × Nat) (c : Nat), rs[r]? = some t → inr t c → (t.2.1 = 1 → rr c = nI r) ∧ (t.2.1 = 4 → cr c = nI r)) ∧ ∀ c : Nat, c < 16 → (rr c = -1 ∨ ∃ (r : Nat) (t : Nat × Nat × Nat), rs[r]? = some t ∧ t.2.1 = 1 ∧ inr t c ∧ rr c = nI r) ∧ (cr c = -1 ∨ ∃ (r : Nat) (t : Nat × Nat × Nat), rs[r]? = some t ∧ t.2.1 = 4 ∧ inr t c ∧ cr c = nI r)
def VR (sz : Nat) (mba : Nat → Int32) (rs : Rn) : Prop := ∀ t ∈ rs, (t.2.1 = 1 ∨ t.2.1 = 4) ∧ 2 ≤ t.2.2 ∧ t.2.2 ≤ 4 ∧ ∀ j : Nat, j < t.2.2 → opn sz mba (t.1 + j * t.2.1) = true
def keyS (s c : Nat) : Nat := if s = 1 then c else c % 4 * 4 + c / 4
def KeyLt (s : Nat) (rs : Rn) (B : Nat) : Prop := ∀ t ∈ rs, t.2.1 = s → ∀ c, inr t c → keyS s c < B
/-- a line, place by place -/
def scan (o : Nat → Bool) (sz : Nat) : Nat → Nat → Nat → List (Nat × Nat)
  | 0, _, _ => []
  | k + 1, t, len => if (decide (t < sz) && o t) = true then scan o sz k (t + 1) (len + 1) else (if 2 ≤ len then [(t - len, len)] else []) ++ scan o sz k (t + 1) 0
def items (a s : Nat) (L : List (Nat × Nat)) : Rn := L.map fun q => (a + q.1 * s, s, q.2)
theorem opn_lt {sz c : Nat} {mba : Nat → Int32} (h : opn sz mba c = true) : c < 16 := by
  simp only [opn, Bool.and_eq_true] at h
  exact (isC_lt h.1).1
/-- putting one number at all places of a run -/
def putAll (f : Nat → Int32) (a s : Nat) (v : Int32) : Nat → Nat → Nat → Int32
  | _, 0 => f
  | j, k + 1 => putAll (upd f (a + j * s) v) a s v (j + 1) k
theorem putAll_get (a s : Nat) (v : Int32) (c : Nat) : ∀ (k j : Nat) (f : Nat → Int32), (∃ i, j ≤ i ∧ i < j + k ∧ c = a + i * s) → putAll f a s v j k c = v
  | 0, j, f, ⟨i, h1, h2, _⟩ => by omega
  | k + 1, j, f, ⟨i, h1, h2, h3⟩ => by
    unfold putAll
    by_cases h : ∃ i, j + 1 ≤ i ∧ i < j + 1 + k ∧ c = a + i * s
    · exact putAll_get a s v c k (j + 1) _ h
    · have hi : i = j := by
        rcases Nat.lt_or_ge j i with q | q
        · exact absurd ⟨i, q, by omega, h3⟩ h
        · omega
      subst hi
      have key : ∀ (k i' : Nat) (f : Nat → Int32), (¬ ∃ i, i' ≤ i ∧ i < i' + k ∧ c = a + i * s) → putAll f a s v i' k c = f c := by
        intro k
        induction k with
        | zero => intro i' f _; rfl
        | succ k ih =>
          intro i' f hn
          unfold putAll
          rw [ih (i' + 1) _ (fun ⟨x, q1, q2, q3⟩ => hn ⟨x, by omega, by omega, q3⟩), upd_ne _ _ (fun q => hn ⟨i', by omega, by omega, q⟩)]
      rw [key k (i + 1) _ h, h3, upd_eq]
theorem putAll_ne (a s : Nat) (v : Int32) (c : Nat) : ∀ (k j : Nat) (f : Nat → Int32), (¬ ∃ i, j ≤ i ∧ i < j + k ∧ c = a + i * s) → putAll f a s v j k c = f c
  | 0, j, f, _ => rfl
  | k + 1, j, f, hn => by
    unfold putAll
    rw [putAll_ne a s v c k (j + 1) _ (fun ⟨x, q1, q2, q3⟩ => hn ⟨x, by omega, by omega, q3⟩), upd_ne _ _ (fun q => hn ⟨j, by omega, by omega, q⟩)]
theorem addRun_L {a s r len : Nat} (hs : s = 1 ∨ s = 4) (ha : ∀ j, j < len → a + j * s < 16) (hlen : len ≤ 4) (k86 : (Nat → Int32) → (Nat → Int32) → Option (Int32 × (Nat → Int32) × (Nat → Int32) × (Nat → Int32) × (Nat → Int32) × (Nat → Int32))) :
    ∀ (k j n : Nat) (rr cr : Nat → Int32), j + k = len → k < n → f_X0_addRun_L45 (nI a) (nI s) (nI len) (nI r) k86 n (nI j) rr cr = k86 (if s = 1 then putAll rr a s (nI r) j k else rr) (if s = 1 then cr else putAll cr a s (nI r) j k)
  | 0, j, n, rr, cr, hj, hn => by
    obtain ⟨m, rfl⟩ : ∃ m, n = m + 1 := ⟨n - 1, by omega⟩
    obtain rfl : j = len := by omega
    rw [f_X0_addRun_L45.eq_2, if_pos (nI_le (Nat.le_refl _) (by omega))]
    simp [putAll]
  | k + 1, j, n, rr, cr, hj, hn => by
    obtain ⟨m, rfl⟩ : ∃ m, n = m + 1 := ⟨n - 1, by omega⟩
    rw [f_X0_addRun_L45.eq_2, if_neg (nI_ge (by omega) (by omega)), nI_1, nI_mul, nI_add]
    rcases hs with rfl | rfl
    · rw [if_pos (by decide), put_in _ _ (by decide) (ha j (by omega)), addRun_L (Or.inl rfl) ha hlen k86 k (j + 1) m _ _ (by omega) (by omega)]
      simp [putAll]
    · rw [if_neg (by decide), put_in _ _ (by decide) (ha j (by omega)), addRun_L (Or.inr rfl) ha hlen k86 k (j + 1) m _ _ (by omega) (by omega)]
      simp [putAll]
theorem addRun_eq {a s r len N : Nat} (hN : 16 < N) (hs : s = 1 ∨ s = 4) (ha : ∀ j, j < len → a + j * s < 16) (hlen : len ≤ 4) (hr : r < 8) (fs st ln rr cr : Nat → Int32) :
    f_X0_addRun N (nI r) fs st ln rr cr (nI a) (nI s) (nI len) = if 2 ≤ len then some (nI (r + 1), upd fs r (nI a), upd st r (nI s), upd ln r (nI len), (if s = 1 then putAll rr a s (nI r) 0 len else rr), (if s = 1 then cr else putAll cr a s (nI r) 0 len)) else some (nI r, fs, st, ln, rr, cr) := by
  unfold f_X0_addRun
  by_cases h : 2 ≤ len
  · rw [if_pos h, if_pos (show (2 : Int32) ≤ nI len from nI_le (a := 2) h (by omega))]
    simp only [jn]
    rw [show (0 : Int32) = nI 0 from rfl, addRun_L hs ha hlen _ len 0 N rr cr (by omega) (by omega), put_in _ _ (by decide) hr, put_in _ _ (by decide) hr, put_in _ _ (by decide) hr, nI_1]
  · rw [if_neg h, if_neg (show ¬ (2 : Int32) ≤ nI len from nI_ge (a := len) (b := 2) (by omega) (by decide))]
theorem add_rel {rs : Rn} {rc : Int32} {fs st ln rr cr : Nat → Int32} {a s len sz B : Nat} {mba : Nat → Int32} (hs : s = 1 ∨ s = 4) (h1 : RT rs rc fs st ln) (h2 : RRel rs rr cr) (hlt : rs.length < 8) (hop : ∀ j, j < len → a + j * s < 16)
    (hk : ∀ j, j < len → B ≤ keyS s (a + j * s)) (hK : KeyLt s rs B) :
    RT (rs ++ [(a, s, len)]) (nI (rs.length + 1)) (upd fs rs.length (nI a)) (upd st rs.length (nI s)) (upd ln rs.length (nI len)) ∧ RRel (rs ++ [(a, s, len)]) (if s = 1 then putAll rr a s (nI rs.length) 0 len else rr) (if s = 1 then cr else putAll cr a s (nI rs.length) 0 len) := by
  obtain ⟨g1, g2, g3⟩ := h1
  have split : ∀ (r : Nat) (t : Nat × Nat × Nat), (rs ++ [(a, s, len)])[r]? = some t → (r < rs.length ∧ rs[r]? = some t) ∨ (r = rs.length ∧ t = (a, s, len)) := by
    intro r t h
    by_cases hl : r < rs.length
    · rw [List.getElem?_append_left hl] at h; exact Or.inl ⟨hl, h⟩
    · rw [List.getElem?_append_right (by omega)] at h
      have hz : r - rs.length < 1 := (List.getElem?_eq_some_iff.mp h).1
      rw [show r - rs.length = 0 by omega] at h
      cases h
      exact Or.inr ⟨by omega, rfl⟩
  have keep : ∀ (r : Nat) (t : Nat × Nat × Nat), rs[r]? = some t → (rs ++ [(a, s, len)])[r]? = some t := fun r t h => by
    rw [List.getElem?_append_left (List.getElem?_eq_some_iff.mp h).1]; exact h
  have new : (rs ++ [(a, s, len)])[rs.length]? = some (a, s, len) := by rw [List.getElem?_append_right (Nat.le_refl _)]; simp
  have inNew : ∀ c, inr (a, s, len) c ↔ ∃ i, 0 ≤ i ∧ i < 0 + len ∧ c = a + i * s := fun c => ⟨fun ⟨j, q1, q2⟩ => ⟨j, Nat.zero_le _, by simpa using q1, q2⟩, fun ⟨i, _, q1, q2⟩ => ⟨i, by simpa using q1, q2⟩⟩
  have apart : ∀ (r : Nat) (t : Nat × Nat × Nat) (c : Nat), rs[r]? = some t → t.2.1 = s → inr t c → ¬ inr (a, s, len) c := by
    intro r t c h hts hc ⟨j, q1, q2⟩
    have k1 := hK t (List.mem_of_getElem? h) hts c hc
    have k2 := hk j q1
    subst q2
    have : keyS s (a + j * s) < B := k1
    omega
  refine ⟨⟨by rw [List.length_append]; rfl, by rw [List.length_append]; exact hlt, fun r t h => ?_⟩, fun r t c h hc => ?_, fun c hc => ?_⟩
  · rcases split r t h with ⟨q1, q2⟩ | ⟨rfl, rfl⟩
    · rw [upd_ne _ _ (by omega), upd_ne _ _ (by omega), upd_ne _ _ (by omega)]; exact g3 r t q2
    · rw [upd_eq, upd_eq, upd_eq]; exact ⟨rfl, rfl, rfl⟩
  · rcases split r t h with ⟨q1, q2⟩ | ⟨rfl, rfl⟩
    · obtain ⟨e1, e2⟩ := h2.1 r t c q2 hc
      rcases hs with rfl | rfl
      · refine ⟨fun ht => ?_, fun ht => by simpa using e2 ht⟩
        rw [if_pos rfl, putAll_ne _ _ _ _ _ _ _ (fun q => apart r t c q2 ht hc ((inNew c).mpr q))]
        exact e1 ht
      · refine ⟨fun ht => by simpa using e1 ht, fun ht => ?_⟩
        rw [if_neg (by decide), putAll_ne _ _ _ _ _ _ _ (fun q => apart r t c q2 ht hc ((inNew c).mpr q))]
        exact e2 ht
    · rcases hs with rfl | rfl
      · refine ⟨fun _ => ?_, fun ht => by simp at ht⟩
        rw [if_pos rfl]
        exact putAll_get _ _ _ _ _ _ _ ((inNew c).mp hc)
      · refine ⟨fun ht => by simp at ht, fun _ => ?_⟩
        rw [if_neg (by decide)]
        exact putAll_get _ _ _ _ _ _ _ ((inNew c).mp hc)
  · obtain ⟨e1, e2⟩ := h2.2 c hc
    have old1 : rr c = -1 ∨ ∃ (r : Nat) (t : Nat × Nat × Nat), (rs ++ [(a, s, len)])[r]? = some t ∧ t.2.1 = 1 ∧ inr t c ∧ rr c = nI r := e1.imp_right fun ⟨r, t, q1, q2⟩ => ⟨r, t, keep r t q1, q2⟩
    have old2 : cr c = -1 ∨ ∃ (r : Nat) (t : Nat × Nat × Nat), (rs ++ [(a, s, len)])[r]? = some t ∧ t.2.1 = 4 ∧ inr t c ∧ cr c = nI r := e2.imp_right fun ⟨r, t, q1, q2⟩ => ⟨r, t, keep r t q1, q2⟩
    by_cases hn : inr (a, s, len) c
    · rcases hs with rfl | rfl
      · refine ⟨Or.inr ⟨rs.length, _, new, rfl, hn, ?_⟩, by simpa using old2⟩
        rw [if_pos rfl]
        exact putAll_get _ _ _ _ _ _ _ ((inNew c).mp hn)
      · refine ⟨by simpa using old1, Or.inr ⟨rs.length, _, new, rfl, hn, ?_⟩⟩
        rw [if_neg (by decide)]
        exact putAll_get _ _ _ _ _ _ _ ((inNew c).mp hn)
    · have hn' := fun q => hn ((inNew c).mpr q)
      rcases hs with rfl | rfl
      · rw [if_pos rfl, if_pos rfl, putAll_ne _ _ _ _ _ _ _ hn']; exact ⟨old1, old2⟩
      · rw [if_neg (by decide), if_neg (by decide), putAll_ne _ _ _ _ _ _ _ hn']; exact ⟨old1, old2⟩
