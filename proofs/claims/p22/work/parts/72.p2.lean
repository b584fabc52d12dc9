/-! a line of the board, on both sides -/
theorem RT.push_lt {rs : Rn} {L : Rn} (h : rs.length + (L.length + 1) ≤ 8) : rs.length < 8 := by omega
theorem scan_step_t {o : Nat → Bool} {sz k t len : Nat} (h : t < sz ∧ o t = true) : scan o sz (k + 1) t len = scan o sz k (t + 1) (len + 1) := by
  rw [scan.eq_2, if_pos (by simp [h.1, h.2])]
theorem scan_step_f {o : Nat → Bool} {sz k t len : Nat} (h : ¬ (t < sz ∧ o t = true)) : scan o sz (k + 1) t len = (if 2 ≤ len then [(t - len, len)] else []) ++ scan o sz k (t + 1) 0 := by
  rw [scan.eq_2, if_neg (by simp only [Bool.and_eq_true, decide_eq_true_eq]; exact h)]
section LIN
variable {sz : Nat} {mba mgi g : Nat → Int32}
theorem line_cls (hC : Cells sz mba mgi g) {a s base N : Nat} (hN : 16 < N) (hs : s = 1 ∨ s = 4) (hb : ∀ j, j < sz → isC sz (a + j * s) = true) (hk : ∀ j, j < sz → keyS s (a + j * s) = base + j) :
    ∀ (k t len n : Nat) (rs : Rn) (rc : Int32) (fs st ln rr cr : Nat → Int32), t + k = sz + 1 → k < n → len ≤ t → (t ≤ sz ∨ len = 0) → (∀ j, j < len → opn sz mba (a + (t - len + j) * s) = true ∧ t - len + j < sz) → RT rs rc fs st ln → RRel rs rr cr → VR sz mba rs → KeyLt s rs (base + min (t - len) sz) → rs.length + (scan (fun j => opn sz mba (a + j * s)) sz k t len).length ≤ 8 →
      ∃ x, f_X0_findRunsOfLine_L5 N (nI a) (nI s) (nI sz) g n (nI len) (nI t) rc fs st ln rr cr = some x ∧ RT (rs ++ items a s (scan (fun j => opn sz mba (a + j * s)) sz k t len)) x.1 x.2.1 x.2.2.1 x.2.2.2.1 ∧ RRel (rs ++ items a s (scan (fun j => opn sz mba (a + j * s)) sz k t len)) x.2.2.2.2.1 x.2.2.2.2.2 ∧ VR sz mba (rs ++ items a s (scan (fun j => opn sz mba (a + j * s)) sz k t len)) ∧ KeyLt s (rs ++ items a s (scan (fun j => opn sz mba (a + j * s)) sz k t len)) (base + sz)
  | 0, t, len, n, rs, rc, fs, st, ln, rr, cr, ht, hn, hl, ht2, hop, h1, h2, h3, hK, hle => by
    obtain ⟨m, rfl⟩ : ∃ m, n = m + 1 := ⟨n - 1, by omega⟩
    have hsz := hC.1
    rw [f_X0_findRunsOfLine_L5.eq_2, if_pos (nI_lt (by omega) (by omega))]
    refine ⟨_, rfl, ?_, ?_, ?_, ?_⟩
    · simpa [scan, items] using h1
    · simpa [scan, items] using h2
    · simpa [scan, items] using h3
    · have : len = 0 := by omega
      subst this
      rw [show min (t - 0) sz = sz by omega] at hK
      simpa [scan, items] using hK
  | k + 1, t, len, n, rs, rc, fs, st, ln, rr, cr, ht, hn, hl, ht2, hop, h1, h2, h3, hK, hle => by
    obtain ⟨m, rfl⟩ : ∃ m, n = m + 1 := ⟨n - 1, by omega⟩
    have hsz := hC.1
    rw [f_X0_findRunsOfLine_L5.eq_2, if_neg (nI_nlt (by omega) (by omega))]
    simp only [jn]
    by_cases ho : t < sz ∧ opn sz mba (a + t * s) = true
    · -- an open place
      have hc16 := opn_lt ho.2
      rw [scan_step_t ho] at hle ⊢
      rw [if_neg (nI_ge ho.1 (by omega)), nI_mul, nI_add, hC.isOpen hc16, ho.2, if_neg (by decide), nI_1, nI_1]
      refine line_cls hC hN hs hb hk k (t + 1) (len + 1) m rs rc fs st ln rr cr (by omega) (by omega) (by omega) (by omega) (fun j hj => ?_) h1 h2 h3 (by rw [show t + 1 - (len + 1) = t - len by omega]; exact hK) hle
      rw [show t + 1 - (len + 1) = t - len by omega]
      by_cases hjl : j < len
      · exact hop j hjl
      · rw [show t - len + j = t by omega]; exact ⟨ho.2, ho.1⟩
    · -- a place that closes
      rw [scan_step_f ho] at hle ⊢
      have hstep : ∀ (X : Option (Int32 × (Nat → Int32) × (Nat → Int32) × (Nat → Int32) × (Nat → Int32) × (Nat → Int32))) (Y : Option (Int32 × (Nat → Int32) × (Nat → Int32) × (Nat → Int32) × (Nat → Int32) × (Nat → Int32))), (if nI sz ≤ nI t then X else if f_X0_isOpen (nI sz) g (nI a + nI t * nI s) = 0 then X else Y) = X := by
        intro X Y
        by_cases h : sz ≤ t
        · rw [if_pos (nI_le h (by omega))]
        · rw [if_neg (nI_ge (by omega) (by omega)), nI_mul, nI_add]
          have hc16 := (isC_lt (hb t (by omega))).1
          rw [hC.isOpen hc16, if_pos]
          rw [b01_0]
          cases hq : opn sz mba (a + t * s)
          · rfl
          · exact absurd ⟨by omega, hq⟩ ho
      rw [hstep, nI_sub hl, nI_mul, nI_add]
      have hlen4 : len ≤ 4 := by
        rcases Nat.eq_zero_or_pos len with h0 | h0
        · omega
        · have := (hop (len - 1) (by omega)).2
          omega
      have hcell : ∀ j, j < len → a + (t - len) * s + j * s < 16 := fun j hj => by
        have := opn_lt (hop j hj).1
        rw [Nat.add_mul] at this
        omega
      by_cases h2l : 2 ≤ len
      · rw [if_pos h2l] at hle ⊢
        simp only [List.length_append, List.length_cons, List.length_nil] at hle
        have hrl : rs.length < 8 := by omega
        have hrc := h1.1
        rw [hrc, addRun_eq hN hs hcell hlen4 hrl, if_pos h2l]
        simp only [Option.bind_some]
        have hkk : ∀ j, j < len → base + min (t - len) sz ≤ keyS s (a + (t - len) * s + j * s) := fun j hj => by
          have h9 := (hop j hj).2
          have h8 := hk (t - len + j) h9
          rw [Nat.add_mul, ← Nat.add_assoc] at h8
          rw [h8]
          omega
        obtain ⟨e1, e2⟩ := add_rel (sz := sz) (mba := mba) hs h1 h2 hrl hcell hkk hK
        rw [nI_1]
        have e3 : VR sz mba (rs ++ [(a + (t - len) * s, s, len)]) := by
          intro x hx
          rcases List.mem_append.mp hx with hx | hx
          · exact h3 x hx
          · rw [List.mem_singleton] at hx
            subst hx
            refine ⟨hs, h2l, hlen4, fun j hj => ?_⟩
            have := (hop j hj).1
            rw [Nat.add_mul, ← Nat.add_assoc] at this
            exact this
        have e4 : KeyLt s (rs ++ [(a + (t - len) * s, s, len)]) (base + min (t + 1 - 0) sz) := by
          intro x hx hxs c hc
          rcases List.mem_append.mp hx with hx | hx
          · have := hK x hx hxs c hc
            omega
          · rw [List.mem_singleton] at hx
            subst hx
            obtain ⟨j, q1, q2⟩ := hc
            have q1' : j < len := q1
            have q2' : c = a + (t - len) * s + j * s := q2
            have h9 := (hop j q1').2
            have h8 := hk (t - len + j) h9
            rw [Nat.add_mul, ← Nat.add_assoc, ← q2'] at h8
            rw [h8]
            omega
        obtain ⟨x, hx, x1, x2, x3, x4⟩ := line_cls hC hN hs hb hk k (t + 1) 0 m (rs ++ [(a + (t - len) * s, s, len)]) _ _ _ _ _ _ (by omega) (by omega) (by omega) (Or.inr rfl) (fun j hj => by omega) e1 e2 e3 e4 (by rw [List.length_append]; simp only [List.length_cons, List.length_nil]; omega)
        have hit : items a s ([(t - len, len)] ++ scan (fun j => opn sz mba (a + j * s)) sz k (t + 1) 0) = [(a + (t - len) * s, s, len)] ++ items a s (scan (fun j => opn sz mba (a + j * s)) sz k (t + 1) 0) := rfl
        rw [hit, ← List.append_assoc]
        exact ⟨x, hx, x1, x2, x3, x4⟩
      · rw [if_neg h2l] at hle ⊢
        rw [List.nil_append] at hle ⊢
        have hrc := h1.1
        have hadd : f_X0_addRun N rc fs st ln rr cr (nI (a + (t - len) * s)) (nI s) (nI len) = some (rc, fs, st, ln, rr, cr) := by
          unfold f_X0_addRun
          rw [if_neg (show ¬ (2 : Int32) ≤ nI len from nI_ge (a := len) (b := 2) (by omega) (by decide))]
        rw [hadd]
        simp only [Option.bind_some]
        rw [nI_1]
        exact line_cls hC hN hs hb hk k (t + 1) 0 m rs rc fs st ln rr cr (by omega) (by omega) (by omega) (Or.inr rfl) (fun j hj => by omega) h1 h2 h3 (fun x hx hxs c hc => by have := hK x hx hxs c hc; omega) hle
/-- .. and in the reference -/
theorem line_mod (hC : Cells sz mba mgi g) {a s : Nat} (hb : ∀ j, j < sz → isC sz (a + j * s) = true) (k188 : Int32 → (Nat → Int32) → (Nat → Int32) → (Nat → Int32) → (Nat → Int32) → Option (Int32 × (Nat → Int32) × (Nat → Int32) × (Nat → Int32) × (Nat → Int32))) :
    ∀ (k t len n : Nat) (rs : Rn) (rc : Int32) (fs ln st su : Nat → Int32), t + k = sz + 1 → k < n → len ≤ t → RT rs rc fs st ln → (∀ r, r < rs.length → su r = 0) → rs.length + (scan (fun j => opn sz mba (a + j * s)) sz k t len).length ≤ 8 →
      ∃ x : Int32 × (Nat → Int32) × (Nat → Int32) × (Nat → Int32) × (Nat → Int32), f_X4_layRuns_L58 (nI s) (nI a) (nI sz) mba k188 n (nI len) (nI t) rc fs ln st su = k188 x.1 x.2.1 x.2.2.1 x.2.2.2.1 x.2.2.2.2 ∧ RT (rs ++ items a s (scan (fun j => opn sz mba (a + j * s)) sz k t len)) x.1 x.2.1 x.2.2.2.1 x.2.2.1 ∧ ∀ r, r < (rs ++ items a s (scan (fun j => opn sz mba (a + j * s)) sz k t len)).length → x.2.2.2.2 r = 0
  | 0, t, len, n, rs, rc, fs, ln, st, su, ht, hn, hl, h1, h2, hle => by
    obtain ⟨m, rfl⟩ : ∃ m, n = m + 1 := ⟨n - 1, by omega⟩
    have hsz := hC.1
    rw [f_X4_layRuns_L58.eq_2, if_pos (nI_lt (by omega) (by omega))]
    exact ⟨(rc, fs, ln, st, su), rfl, by simpa [scan, items] using h1, by simpa [scan, items] using h2⟩
  | k + 1, t, len, n, rs, rc, fs, ln, st, su, ht, hn, hl, h1, h2, hle => by
    obtain ⟨m, rfl⟩ : ∃ m, n = m + 1 := ⟨n - 1, by omega⟩
    have hsz := hC.1
    rw [f_X4_layRuns_L58.eq_2, if_neg (nI_nlt (by omega) (by omega))]
    simp only [jn]
    by_cases ho : t < sz ∧ opn sz mba (a + t * s) = true
    · have hc16 := opn_lt ho.2
      have hm0 : mba (a + t * s) = 0 := by
        have := ho.2
        simp only [opn, Bool.and_eq_true, decide_eq_true_eq] at this
        exact this.2
      rw [scan_step_t ho] at hle ⊢
      rw [if_neg (nI_ge ho.1 (by omega)), nI_mul, nI_add, Nat.mul_comm s t, gd_t (inR_in (by decide) hc16), nI_clamp (by omega), if_pos hm0]
      simp only [eq_false (show ¬ (1 : Int32) = 0 from by decide), if_false]
      rw [nI_1, nI_1]
      exact line_mod hC hb k188 k (t + 1) (len + 1) m rs rc fs ln st su (by omega) (by omega) (by omega) h1 h2 hle
    · rw [scan_step_f ho] at hle ⊢
      have hstep : ∀ (X Y : Option (Int32 × (Nat → Int32) × (Nat → Int32) × (Nat → Int32) × (Nat → Int32))), (if nI sz ≤ nI t then X else gd (inR (nI a + nI s * nI t) 16) <| if mba ((nI a + nI s * nI t : Int32)).toNatClampNeg = 0 then Y else X) = X := by
        intro X Y
        by_cases h : sz ≤ t
        · rw [if_pos (nI_le h (by omega))]
        · have hc := hb t (by omega)
          have hc16 := (isC_lt hc).1
          rw [if_neg (nI_ge (by omega) (by omega)), nI_mul, nI_add, Nat.mul_comm s t, gd_t (inR_in (by decide) hc16), nI_clamp (by omega), if_neg]
          intro h0
          exact ho ⟨by omega, by simp [opn, hc, h0]⟩
      rw [hstep]
      simp only [if_true]
      by_cases h2l : 2 ≤ len
      · rw [if_pos h2l] at hle ⊢
        simp only [List.length_append, List.length_cons, List.length_nil] at hle
        have hrl : rs.length < 8 := by omega
        rw [if_neg (show ¬ nI len ≤ 1 from nI_ge (a := 1) (b := len) (by omega) (by omega)), h1.1, gd_t (inR_in (by decide) hrl), gd_t (inR_in (by decide) hrl), gd_t (inR_in (by decide) hrl), gd_t (inR_in (by decide) hrl), nI_clamp (by omega), nI_sub hl, nI_mul, nI_add, nI_1, nI_1, Nat.mul_comm s (t - len), show (0 : Int32) = nI 0 from rfl]
        have e1 : RT (rs ++ [(a + (t - len) * s, s, len)]) (nI (rs.length + 1)) (upd fs rs.length (nI (a + (t - len) * s))) (upd st rs.length (nI s)) (upd ln rs.length (nI len)) := by
          obtain ⟨g1, g2, g3⟩ := h1
          refine ⟨by rw [List.length_append]; rfl, by rw [List.length_append]; exact hrl, fun r x h => ?_⟩
          by_cases hlr : r < rs.length
          · rw [List.getElem?_append_left hlr] at h
            rw [upd_ne _ _ (by omega), upd_ne _ _ (by omega), upd_ne _ _ (by omega)]; exact g3 r x h
          · rw [List.getElem?_append_right (by omega)] at h
            have hz : r - rs.length < 1 := (List.getElem?_eq_some_iff.mp h).1
            have hr : r = rs.length := by omega
            subst hr
            rw [Nat.sub_self] at h
            cases h
            rw [upd_eq, upd_eq, upd_eq]; exact ⟨rfl, rfl, rfl⟩
        have e2 : ∀ r, r < (rs ++ [(a + (t - len) * s, s, len)]).length → upd su rs.length (nI 0) r = 0 := by
          intro r hr
          rw [List.length_append] at hr
          simp only [List.length_cons, List.length_nil] at hr
          by_cases hlr : r = rs.length
          · subst hlr; rw [upd_eq]; rfl
          · rw [upd_ne _ _ hlr]; exact h2 r (by omega)
        obtain ⟨x, hx, x1, x2⟩ := line_mod hC hb k188 k (t + 1) 0 m (rs ++ [(a + (t - len) * s, s, len)]) _ _ _ _ _ (by omega) (by omega) (by omega) e1 e2 (by rw [List.length_append]; simp only [List.length_cons, List.length_nil]; omega)
        have hit : items a s ([(t - len, len)] ++ scan (fun j => opn sz mba (a + j * s)) sz k (t + 1) 0) = [(a + (t - len) * s, s, len)] ++ items a s (scan (fun j => opn sz mba (a + j * s)) sz k (t + 1) 0) := rfl
        rw [hit, ← List.append_assoc]
        exact ⟨x, hx, x1, x2⟩
      · rw [if_neg h2l] at hle ⊢
        rw [List.nil_append] at hle ⊢
        rw [if_pos (show nI len ≤ 1 from nI_le (a := len) (b := 1) (by omega) (by decide)), nI_1, show (0 : Int32) = nI 0 from rfl]
        exact line_mod hC hb k188 k (t + 1) 0 m rs rc fs ln st su (by omega) (by omega) (by omega) h1 h2 hle
end LIN
