/-! what act does: one call, by its number -/
theorem low_some (x : Int32) {n : Int32} (h : ¬ n = 0) : ∃ r, f_L_low x n = some r := ⟨_, by rw [f_L_low, gd_t h]⟩
def Is_begin (N : Nat) (size rc : Int32) (g fs st ln su rr cr : Nat → Int32) (v : Int32) : Prop := ∃ p : Int32, ∀ (bc : Int32) (bl td fi fa : Nat → Int32), f_L_act N size rc g fs st ln su rr cr bc bl td fi fa v = (f_L_begin N size rc g fs st ln su rr cr p).bind fun x => some (x.1, x.2.1, x.2.2.1, x.2.2.2.1, x.2.2.2.2.1, x.2.2.2.2.2.1, x.2.2.2.2.2.2.1, x.2.2.2.2.2.2.2.1, x.2.2.2.2.2.2.2.2.1, x.2.2.2.2.2.2.2.2.2, bc, bl, td, fi, fa)
def Is_bar (N : Nat) (size rc : Int32) (g fs st ln su rr cr : Nat → Int32) (v : Int32) : Prop := ∃ p : Int32, ∀ (bc : Int32) (bl td fi fa : Nat → Int32), f_L_act N size rc g fs st ln su rr cr bc bl td fi fa v = (f_L_bar N size rc g fs st ln su rr cr p).bind fun x => some (x.1, size, x.2.1, x.2.2.1, x.2.2.2.1, x.2.2.2.2.1, x.2.2.2.2.2.1, x.2.2.2.2.2.2.1, x.2.2.2.2.2.2.2.1, x.2.2.2.2.2.2.2.2, bc, bl, td, fi, fa)
def Is_barBoth (N : Nat) (size rc : Int32) (g fs st ln su rr cr : Nat → Int32) (v : Int32) : Prop := ∃ p : Int32, ∀ (bc : Int32) (bl td fi fa : Nat → Int32), f_L_act N size rc g fs st ln su rr cr bc bl td fi fa v = (f_L_barBoth N size rc g fs st ln su rr cr p).bind fun x => some (x.1, size, x.2.1, x.2.2.1, x.2.2.2.1, x.2.2.2.2.1, x.2.2.2.2.2.1, x.2.2.2.2.2.2.1, x.2.2.2.2.2.2.2.1, x.2.2.2.2.2.2.2.2, bc, bl, td, fi, fa)
def Is_press (N : Nat) (size rc : Int32) (g fs st ln su rr cr : Nat → Int32) (v : Int32) : Prop := ∀ (bc : Int32) (bl td fi fa : Nat → Int32), f_L_act N size rc g fs st ln su rr cr bc bl td fi fa v = (f_L_press N size rc g fs st ln su).bind fun x => some (x.1, size, rc, x.2.1, fs, st, ln, x.2.2, rr, cr, bc, bl, td, fi, fa)
def Is_open (N : Nat) (size rc : Int32) (g fs st ln su rr cr : Nat → Int32) (v : Int32) : Prop := ∀ (bc : Int32) (bl td fi fa : Nat → Int32), f_L_act N size rc g fs st ln su rr cr bc bl td fi fa v = (f_X3_open N size g).bind fun x => if x ≤ 9 then (f_L_mend N size rc g fs st ln su rr cr bc bl td fi fa).bind fun y => some (y.1, size, rc, y.2.1, fs, st, ln, su, rr, cr, y.2.2.1, y.2.2.2.1, y.2.2.2.2.1, y.2.2.2.2.2.1, y.2.2.2.2.2.2) else some (0, size, rc, g, fs, st, ln, su, rr, cr, bc, bl, td, fi, fa)
def Is_setSum (N : Nat) (size rc : Int32) (g fs st ln su rr cr : Nat → Int32) (v : Int32) : Prop := ∃ p q : Int32, ∀ (bc : Int32) (bl td fi fa : Nat → Int32), f_L_act N size rc g fs st ln su rr cr bc bl td fi fa v = (f_L_setSum rc su p q).bind fun x => some (x.1, size, rc, g, fs, st, ln, x.2, rr, cr, bc, bl, td, fi, fa)
def Is_give (N : Nat) (size rc : Int32) (g fs st ln su rr cr : Nat → Int32) (v : Int32) : Prop := ∃ p q : Int32, ∀ (bc : Int32) (bl td fi fa : Nat → Int32), f_L_act N size rc g fs st ln su rr cr bc bl td fi fa v = (f_L_give size g p q).bind fun x => some (x.1, size, rc, x.2, fs, st, ln, su, rr, cr, bc, bl, td, fi, fa)
set_option maxHeartbeats 8000000 in
theorem act_is {N : Nat} {size rc : Int32} {g fs st ln su rr cr : Nat → Int32} (hrc : ¬ rc + 1 = 0) (v : Int32) : Is_begin N size rc g fs st ln su rr cr v ∨ Is_bar N size rc g fs st ln su rr cr v ∨ Is_barBoth N size rc g fs st ln su rr cr v ∨ Is_press N size rc g fs st ln su rr cr v ∨ Is_open N size rc g fs st ln su rr cr v ∨ Is_setSum N size rc g fs st ln su rr cr v ∨ Is_give N size rc g fs st ln su rr cr v := by
  obtain ⟨x6, e6⟩ := low_some (v >>> (24 &&& 31)) (n := 9) (by decide)
  obtain ⟨x27, e27⟩ := low_some (v >>> (4 &&& 31)) (n := 19) (by decide)
  obtain ⟨x40, e40⟩ := low_some (v >>> (4 &&& 31)) (n := 3) (by decide)
  obtain ⟨x49, e49⟩ := low_some (v >>> (6 &&& 31)) (n := 3) (by decide)
  obtain ⟨x57, e57⟩ := low_some v (n := 16) (by decide)
  obtain ⟨x113, e113⟩ := low_some (v >>> (8 &&& 31)) (n := 3) (by decide)
  obtain ⟨x140, e140⟩ := low_some (v >>> (4 &&& 31)) (n := 2) (by decide)
  obtain ⟨x129, e129⟩ := low_some (v >>> (4 &&& 31)) (n := 7) (by decide)
  obtain ⟨x9, e9⟩ := low_some (v >>> (4 &&& 31)) (n := 9) (by decide)
  obtain ⟨x248, e248⟩ := low_some (v >>> (8 &&& 31)) (n := 17) (by decide)
  obtain ⟨x233, e233⟩ := low_some (v >>> (8 &&& 31)) (n := 50) (by decide)
  obtain ⟨x282, e282⟩ := low_some (v >>> (8 &&& 31)) (n := 10) (by decide)
  obtain ⟨x268, e268⟩ := low_some (v >>> (8 &&& 31)) (n := 13) (by decide)
  obtain ⟨xr, er⟩ := low_some (v >>> (4 &&& 31)) (n := rc + 1) hrc
  by_cases h6 : x6 = 0
  · skip
    by_cases c0 : x57 = 0
    · by_cases d0 : x113 = 0
      · exact Or.inl (⟨x129, fun bc bl td fi fa => by simp only [f_L_act, e6, e57, e27, e40, e49, e113, e140, e129, e9, er, e248, e233, e282, e268, f_X3_runs, f_X0_countRuns, jn_p, Option.bind_some, if_pos h6, if_neg one_ne0, if_pos c0, if_pos d0]⟩)
      · exact Or.inr (Or.inl (⟨x27 - 1, fun bc bl td fi fa => by simp only [f_L_act, e6, e57, e27, e40, e49, e113, e140, e129, e9, er, e248, e233, e282, e268, f_X3_runs, f_X0_countRuns, jn_p, Option.bind_some, if_pos h6, if_neg one_ne0, if_pos c0, if_neg d0]⟩))
    by_cases c1 : x57 = 1
    · exact Or.inr (Or.inl (⟨x27 - 1, fun bc bl td fi fa => by simp only [f_L_act, e6, e57, e27, e40, e49, e113, e140, e129, e9, er, e248, e233, e282, e268, f_X3_runs, f_X0_countRuns, jn_p, Option.bind_some, if_pos h6, if_neg one_ne0, if_neg c0, if_pos c1]⟩))
    by_cases c2 : x57 = 2
    · exact Or.inr (Or.inr (Or.inl (⟨x27 - 1, fun bc bl td fi fa => by simp only [f_L_act, e6, e57, e27, e40, e49, e113, e140, e129, e9, er, e248, e233, e282, e268, f_X3_runs, f_X0_countRuns, jn_p, Option.bind_some, if_pos h6, if_neg one_ne0, if_neg c0, if_neg c1, if_pos c2]⟩)))
    by_cases c3 : x57 = 3
    · exact Or.inr (Or.inr (Or.inr (Or.inl (fun bc bl td fi fa => by simp only [f_L_act, e6, e57, e27, e40, e49, e113, e140, e129, e9, er, e248, e233, e282, e268, f_X3_runs, f_X0_countRuns, jn_p, Option.bind_some, if_pos h6, if_neg one_ne0, if_neg c0, if_neg c1, if_neg c2, if_pos c3]))))
    by_cases c4 : x57 = 4
    · exact Or.inr (Or.inr (Or.inr (Or.inr (Or.inl (fun bc bl td fi fa => by simp only [f_L_act, e6, e57, e27, e40, e49, e113, e140, e129, e9, er, e248, e233, e282, e268, f_X3_runs, f_X0_countRuns, jn_p, Option.bind_some, if_pos h6, if_neg one_ne0, if_neg c0, if_neg c1, if_neg c2, if_neg c3, if_pos c4])))))
    by_cases c5 : x57 = 5
    · exact Or.inr (Or.inr (Or.inr (Or.inr (Or.inr (Or.inl (⟨x9 - 1, x233 - 2, fun bc bl td fi fa => by simp only [f_L_act, e6, e57, e27, e40, e49, e113, e140, e129, e9, er, e248, e233, e282, e268, f_X3_runs, f_X0_countRuns, jn_p, Option.bind_some, if_pos h6, if_neg one_ne0, if_neg c0, if_neg c1, if_neg c2, if_neg c3, if_neg c4, if_pos c5]⟩))))))
    by_cases c6 : x57 = 6
    · exact Or.inr (Or.inr (Or.inr (Or.inr (Or.inr (Or.inl (⟨x9 - 1, x233 - 2, fun bc bl td fi fa => by simp only [f_L_act, e6, e57, e27, e40, e49, e113, e140, e129, e9, er, e248, e233, e282, e268, f_X3_runs, f_X0_countRuns, jn_p, Option.bind_some, if_pos h6, if_neg one_ne0, if_neg c0, if_neg c1, if_neg c2, if_neg c3, if_neg c4, if_neg c5, if_pos c6]⟩))))))
    by_cases c7 : x57 = 7
    · exact Or.inr (Or.inr (Or.inr (Or.inr (Or.inr (Or.inl (⟨x9 - 1, x233 - 2, fun bc bl td fi fa => by simp only [f_L_act, e6, e57, e27, e40, e49, e113, e140, e129, e9, er, e248, e233, e282, e268, f_X3_runs, f_X0_countRuns, jn_p, Option.bind_some, if_pos h6, if_neg one_ne0, if_neg c0, if_neg c1, if_neg c2, if_neg c3, if_neg c4, if_neg c5, if_neg c6, if_pos c7]⟩))))))
    exact Or.inr (Or.inr (Or.inr (Or.inr (Or.inr (Or.inr ((⟨x27 - 1, x268 - 2, fun bc bl td fi fa => by simp only [f_L_act, e6, e57, e27, e40, e49, e113, e140, e129, e9, er, e248, e233, e282, e268, f_X3_runs, f_X0_countRuns, jn_p, Option.bind_some, if_pos h6, if_neg one_ne0, if_neg c0, if_neg c1, if_neg c2, if_neg c3, if_neg c4, if_neg c5, if_neg c6, if_neg c7]⟩)))))))
  · skip
    by_cases c0 : x57 = 0
    · by_cases d0 : x113 = 0
      · exact Or.inl (⟨2 + x140, fun bc bl td fi fa => by simp only [f_L_act, e6, e57, e27, e40, e49, e113, e140, e129, e9, er, e248, e233, e282, e268, f_X3_runs, f_X0_countRuns, jn_p, Option.bind_some, if_neg h6, if_true, if_pos c0, if_pos d0]⟩)
      · exact Or.inr (Or.inl (⟨(4 * x40) + x49, fun bc bl td fi fa => by simp only [f_L_act, e6, e57, e27, e40, e49, e113, e140, e129, e9, er, e248, e233, e282, e268, f_X3_runs, f_X0_countRuns, jn_p, Option.bind_some, if_neg h6, if_true, if_pos c0, if_neg d0]⟩))
    by_cases c1 : x57 = 1
    · exact Or.inr (Or.inl (⟨(4 * x40) + x49, fun bc bl td fi fa => by simp only [f_L_act, e6, e57, e27, e40, e49, e113, e140, e129, e9, er, e248, e233, e282, e268, f_X3_runs, f_X0_countRuns, jn_p, Option.bind_some, if_neg h6, if_true, if_neg c0, if_pos c1]⟩))
    by_cases c2 : x57 = 2
    · exact Or.inr (Or.inr (Or.inl (⟨(4 * x40) + x49, fun bc bl td fi fa => by simp only [f_L_act, e6, e57, e27, e40, e49, e113, e140, e129, e9, er, e248, e233, e282, e268, f_X3_runs, f_X0_countRuns, jn_p, Option.bind_some, if_neg h6, if_true, if_neg c0, if_neg c1, if_pos c2]⟩)))
    by_cases c3 : x57 = 3
    · exact Or.inr (Or.inr (Or.inr (Or.inl (fun bc bl td fi fa => by simp only [f_L_act, e6, e57, e27, e40, e49, e113, e140, e129, e9, er, e248, e233, e282, e268, f_X3_runs, f_X0_countRuns, jn_p, Option.bind_some, if_neg h6, if_true, if_neg c0, if_neg c1, if_neg c2, if_pos c3]))))
    by_cases c4 : x57 = 4
    · exact Or.inr (Or.inr (Or.inr (Or.inr (Or.inl (fun bc bl td fi fa => by simp only [f_L_act, e6, e57, e27, e40, e49, e113, e140, e129, e9, er, e248, e233, e282, e268, f_X3_runs, f_X0_countRuns, jn_p, Option.bind_some, if_neg h6, if_true, if_neg c0, if_neg c1, if_neg c2, if_neg c3, if_pos c4])))))
    by_cases c5 : x57 = 5
    · exact Or.inr (Or.inr (Or.inr (Or.inr (Or.inr (Or.inl (⟨xr - 0, 3 + x248, fun bc bl td fi fa => by simp only [f_L_act, e6, e57, e27, e40, e49, e113, e140, e129, e9, er, e248, e233, e282, e268, f_X3_runs, f_X0_countRuns, jn_p, Option.bind_some, if_neg h6, if_true, if_neg c0, if_neg c1, if_neg c2, if_neg c3, if_neg c4, if_pos c5]⟩))))))
    by_cases c6 : x57 = 6
    · exact Or.inr (Or.inr (Or.inr (Or.inr (Or.inr (Or.inl (⟨xr - 0, 3 + x248, fun bc bl td fi fa => by simp only [f_L_act, e6, e57, e27, e40, e49, e113, e140, e129, e9, er, e248, e233, e282, e268, f_X3_runs, f_X0_countRuns, jn_p, Option.bind_some, if_neg h6, if_true, if_neg c0, if_neg c1, if_neg c2, if_neg c3, if_neg c4, if_neg c5, if_pos c6]⟩))))))
    by_cases c7 : x57 = 7
    · exact Or.inr (Or.inr (Or.inr (Or.inr (Or.inr (Or.inl (⟨xr - 0, 3 + x248, fun bc bl td fi fa => by simp only [f_L_act, e6, e57, e27, e40, e49, e113, e140, e129, e9, er, e248, e233, e282, e268, f_X3_runs, f_X0_countRuns, jn_p, Option.bind_some, if_neg h6, if_true, if_neg c0, if_neg c1, if_neg c2, if_neg c3, if_neg c4, if_neg c5, if_neg c6, if_pos c7]⟩))))))
    exact Or.inr (Or.inr (Or.inr (Or.inr (Or.inr (Or.inr ((⟨(4 * x40) + x49, x282, fun bc bl td fi fa => by simp only [f_L_act, e6, e57, e27, e40, e49, e113, e140, e129, e9, er, e248, e233, e282, e268, f_X3_runs, f_X0_countRuns, jn_p, Option.bind_some, if_neg h6, if_true, if_neg c0, if_neg c1, if_neg c2, if_neg c3, if_neg c4, if_neg c5, if_neg c6, if_neg c7]⟩)))))))
theorem act_op {size rc : Int32} {g fs st ln su rr cr : Nat → Int32} (hB : BD size rc g fs st ln su rr cr) {N : Nat} (hN : 50000 < N) (v : Int32) : ∃ (told size' rc' : Int32) (g' fs' st' ln' su' rr' cr' : Nat → Int32), BD size' rc' g' fs' st' ln' su' rr' cr' ∧ (told = -99999 → SB size rc g fs st ln su rr cr size' rc' g' fs' st' ln' su' rr' cr') ∧ ∀ (bc : Int32) (bl td fi fa : Nat → Int32), ∃ (bc' : Int32) (bl' td' fi' fa' : Nat → Int32), f_L_act N size rc g fs st ln su rr cr bc bl td fi fa v = some (told, size', rc', g', fs', st', ln', su', rr', cr', bc', bl', td', fi', fa') := by
  obtain ⟨sz, rs, mba, mgi, hsz, hC, h1, hR, hV, hsu⟩ := id hB
  have h8 := h1.2.1
  have hrc : ¬ rc + 1 = 0 := by
    rw [h1.1, nI_1]
    exact fun q => by have := (nI_inj (b := 0) (by omega) (by omega)).mp q; omega
  rcases act_is (N := N) (size := size) (g := g) (fs := fs) (st := st) (ln := ln) (su := su) (rr := rr) (cr := cr) hrc v with ⟨p, E⟩ | ⟨p, E⟩ | ⟨p, E⟩ | E | E | ⟨p, q, E⟩ | ⟨p, q, E⟩
  · obtain ⟨k, size', rc', g', fs', st', ln', su', rr', cr', e1, e2, e3⟩ := begin_op hB hN p
    refine ⟨k, size', rc', g', fs', st', ln', su', rr', cr', e2, e3, fun bc bl td fi fa => ⟨bc, bl, td, fi, fa, ?_⟩⟩
    rw [E, e1, Option.bind_some]
  · obtain ⟨k, rc', g', fs', st', ln', su', rr', cr', e1, e2, e3⟩ := bar_op hB hN p
    refine ⟨k, size, rc', g', fs', st', ln', su', rr', cr', e2, e3, fun bc bl td fi fa => ⟨bc, bl, td, fi, fa, ?_⟩⟩
    rw [E, e1, Option.bind_some]
  · obtain ⟨k, rc', g', fs', st', ln', su', rr', cr', e1, e2, e3⟩ := barBoth_op hB hN p
    refine ⟨k, size, rc', g', fs', st', ln', su', rr', cr', e2, e3, fun bc bl td fi fa => ⟨bc, bl, td, fi, fa, ?_⟩⟩
    rw [E, e1, Option.bind_some]
  · obtain ⟨k, g', su', e1, e2, e3⟩ := press_op hB hN
    refine ⟨k, size, rc, g', fs, st, ln, su', rr, cr, e2, fun q => ?_, fun bc bl td fi fa => ⟨bc, bl, td, fi, fa, ?_⟩⟩
    · obtain ⟨q1, q2⟩ := e3 q
      rw [q1, q2]; exact SB.rf
    · rw [E, e1, Option.bind_some]
  · subst hsz
    have ho : f_X3_open N (nI sz) g = some (nI (cnt (opn sz mba) 0 16)) := by rw [f_X3_open, hC.countOpen (by omega)]; rfl
    by_cases h9 : nI (cnt (opn sz mba) 0 16) ≤ 9
    · obtain ⟨ret, u, a, p1, p2, -, p4⟩ := mend_C (su := su) hC h1 hR hV hN
      by_cases hm : ret = nI 2
      · obtain ⟨u16, uB, a1, a9, -, -⟩ := p2 hm
        have hne : ¬ ret = -1 := by rw [hm]; exact nI_nneg1 (by omega)
        refine ⟨nI u, nI sz, rc, upd g u (nI a), fs, st, ln, su, rr, cr, ⟨sz, rs, mba, upd mgi u (nI a), rfl, hC.give u16 a9 (blank_open uB), h1, hR, hV, hsu⟩, fun q => absurd q (nI_99 (by omega)), fun bc bl td fi fa => ?_⟩
        obtain ⟨bc', bl', td', fi', fa', e⟩ := p4 bc bl td fi fa
        refine ⟨bc', bl', td', fi', fa', ?_⟩
        rw [E, ho, Option.bind_some, if_pos h9, e, Option.bind_some, if_neg hne, if_pos hm, if_pos hm]
      · refine ⟨(if ret = -1 then -99999 else -1), nI sz, rc, g, fs, st, ln, su, rr, cr, hB, fun _ => SB.rf, fun bc bl td fi fa => ?_⟩
        obtain ⟨bc', bl', td', fi', fa', e⟩ := p4 bc bl td fi fa
        refine ⟨bc', bl', td', fi', fa', ?_⟩
        rw [E, ho, Option.bind_some, if_pos h9, e, Option.bind_some, if_neg hm, if_neg hm]
    · refine ⟨0, nI sz, rc, g, fs, st, ln, su, rr, cr, hB, fun _ => SB.rf, fun bc bl td fi fa => ⟨bc, bl, td, fi, fa, ?_⟩⟩
      rw [E, ho, Option.bind_some, if_neg h9]
  · obtain ⟨k, su', e1, e2, e3⟩ := setSum_op hB p q
    refine ⟨k, size, rc, g, fs, st, ln, su', rr, cr, e2, fun q => ?_, fun bc bl td fi fa => ⟨bc, bl, td, fi, fa, ?_⟩⟩
    · rw [e3 q]; exact SB.rf
    · rw [E, e1, Option.bind_some]
  · obtain ⟨k, g', e1, e2, e3⟩ := give_op hB p q
    refine ⟨k, size, rc, g', fs, st, ln, su, rr, cr, e2, fun q => ?_, fun bc bl td fi fa => ⟨bc, bl, td, fi, fa, ?_⟩⟩
    · rw [e3 q]; exact SB.rf
    · rw [E, e1, Option.bind_some]
