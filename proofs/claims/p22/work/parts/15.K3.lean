theorem sm_l {α β γ : Type} {u : α} {f : α → γ} {g : β → γ} {q : γ} (h : sm (.inl u) f g = q) : f u = q := h
theorem sm_r {α β γ : Type} {u : β} {f : α → γ} {g : β → γ} {q : γ} (h : sm (.inr u) f g = q) : g u = q := h
def f_X3_begin (N : Nat) (size : Int32) (rc : Int32) (g : Nat → Int32) (fs : Nat → Int32) (st : Nat → Int32) (ln : Nat → Int32) (su : Nat → Int32) (rr : Nat → Int32) (cr : Nat → Int32) (p1 : Int32) : Option ((Int32 × Int32 × (Nat → Int32) × (Nat → Int32) × (Nat → Int32) × (Nat → Int32) × (Nat → Int32) × (Nat → Int32) × (Nat → Int32)) ⊕ (Nat × Int32 × Int32 × (Nat → Int32) × (Nat → Int32) × (Nat → Int32) × (Nat → Int32) × (Nat → Int32) × (Nat → Int32) × (Nat → Int32))) :=
  jn (fun (_ : Unit) => some (.inr (1, size, rc, g, fs, st, ln, su, rr, cr))) fun k10 => (if p1 < 2 then k10 () else (if p1 ≤ 4 then (f_X0_clear N size rc g fs st ln su rr cr p1).bind fun x25 => some (.inl (x25.1, x25.2.1, x25.2.2.1, x25.2.2.2.1, x25.2.2.2.2.1, x25.2.2.2.2.2.1, x25.2.2.2.2.2.2.1, x25.2.2.2.2.2.2.2.1, x25.2.2.2.2.2.2.2.2)) else k10 ()))
def f_X3_needCell (size : Int32) (p1 : Int32) : Option ((Unit) ⊕ (Nat)) :=
  (if (f_X0_hasCell size p1) = 0 then some (.inr 3) else some (.inl ()))
def f_X3_bar (N : Nat) (size : Int32) (rc : Int32) (g : Nat → Int32) (fs : Nat → Int32) (st : Nat → Int32) (ln : Nat → Int32) (su : Nat → Int32) (rr : Nat → Int32) (cr : Nat → Int32) (p1 : Int32) : Option ((Int32 × Int32 × (Nat → Int32) × (Nat → Int32) × (Nat → Int32) × (Nat → Int32) × (Nat → Int32) × (Nat → Int32) × (Nat → Int32)) ⊕ (Nat × Int32 × (Nat → Int32) × (Nat → Int32) × (Nat → Int32) × (Nat → Int32) × (Nat → Int32) × (Nat → Int32) × (Nat → Int32))) :=
  (f_X3_needCell size p1).bind fun x2 => sm x2 (fun y2 => (f_X0_turn N size rc g fs st ln su rr cr p1).bind fun x10 => (if (f_X0_isOpen size x10.2.1 p1) = 0 then some (.inl (1, x10.1, x10.2.1, x10.2.2.1, x10.2.2.2.1, x10.2.2.2.2.1, x10.2.2.2.2.2.1, x10.2.2.2.2.2.2.1, x10.2.2.2.2.2.2.2)) else some (.inl (0, x10.1, x10.2.1, x10.2.2.1, x10.2.2.2.1, x10.2.2.2.2.1, x10.2.2.2.2.2.1, x10.2.2.2.2.2.2.1, x10.2.2.2.2.2.2.2)))) (fun z2 => some (.inr (z2, rc, g, fs, st, ln, su, rr, cr)))
def f_X3_barBoth (N : Nat) (size : Int32) (rc : Int32) (g : Nat → Int32) (fs : Nat → Int32) (st : Nat → Int32) (ln : Nat → Int32) (su : Nat → Int32) (rr : Nat → Int32) (cr : Nat → Int32) (p1 : Int32) : Option ((Int32 × Int32 × (Nat → Int32) × (Nat → Int32) × (Nat → Int32) × (Nat → Int32) × (Nat → Int32) × (Nat → Int32) × (Nat → Int32)) ⊕ (Nat × Int32 × (Nat → Int32) × (Nat → Int32) × (Nat → Int32) × (Nat → Int32) × (Nat → Int32) × (Nat → Int32) × (Nat → Int32))) :=
  (f_X3_needCell size p1).bind fun x2 => sm x2 (fun y2 => (f_X0_turn N size rc g fs st ln su rr cr p1).bind fun x19 => jn (fun (rc_35 : Int32) (g_35 : Nat → Int32) (fs_35 : Nat → Int32) (st_35 : Nat → Int32) (ln_35 : Nat → Int32) (su_35 : Nat → Int32) (rr_35 : Nat → Int32) (cr_35 : Nat → Int32) => (f_X0_countBarred N size g_35).bind fun x39 => some (.inl (x39, rc_35, g_35, fs_35, st_35, ln_35, su_35, rr_35, cr_35))) fun k35 => (if (f_X0_oppositeOf size p1) = p1 then k35 x19.1 x19.2.1 x19.2.2.1 x19.2.2.2.1 x19.2.2.2.2.1 x19.2.2.2.2.2.1 x19.2.2.2.2.2.2.1 x19.2.2.2.2.2.2.2 else (f_X0_turn N size x19.1 x19.2.1 x19.2.2.1 x19.2.2.2.1 x19.2.2.2.2.1 x19.2.2.2.2.2.1 x19.2.2.2.2.2.2.1 x19.2.2.2.2.2.2.2 (f_X0_oppositeOf size p1)).bind fun x32 => k35 x32.1 x32.2.1 x32.2.2.1 x32.2.2.2.1 x32.2.2.2.2.1 x32.2.2.2.2.2.1 x32.2.2.2.2.2.2.1 x32.2.2.2.2.2.2.2)) (fun z2 => some (.inr (z2, rc, g, fs, st, ln, su, rr, cr)))
def f_X3_give (size : Int32) (g : Nat → Int32) (p1 : Int32) (p2 : Int32) : Option ((Int32 × (Nat → Int32)) ⊕ (Nat × (Nat → Int32))) :=
  (f_X3_needCell size p1).bind fun x2 => sm x2 (fun y2 => jn (fun (_ : Unit) => some (.inr (1, g))) fun k15 => (if p2 < 0 then k15 () else (if p2 ≤ 9 then (if (f_X0_isOpen size g p1) = 0 then some (.inr (2, g)) else some (.inl ((f_X0_givenAt g p1), (f_X0_putGiven g p1 p2)))) else k15 ()))) (fun z2 => some (.inr (z2, g)))
def f_X3_needRun (rc : Int32) (p1 : Int32) : Option ((Unit) ⊕ (Nat)) :=
  (if (f_X0_hasRun rc p1) = 0 then some (.inr 3) else some (.inl ()))
def f_X3_setSum (rc : Int32) (su : Nat → Int32) (p1 : Int32) (p2 : Int32) : Option ((Int32 × (Nat → Int32)) ⊕ (Nat × (Nat → Int32))) :=
  (f_X3_needRun rc p1).bind fun x2 => sm x2 (fun y2 => jn (fun (_ : Unit) => some (.inr (1, su))) fun k15 => (if p2 < 0 then k15 () else (if p2 ≤ 45 then some (.inl ((f_X0_sumAt su p1), (f_X0_putSum su p1 p2))) else k15 ()))) (fun z2 => some (.inr (z2, su)))
def f_X3_press (N : Nat) (size : Int32) (rc : Int32) (g : Nat → Int32) (fs : Nat → Int32) (st : Nat → Int32) (ln : Nat → Int32) (su : Nat → Int32) : Option ((Int32 × (Nat → Int32) × (Nat → Int32)) ⊕ (Nat × (Nat → Int32) × (Nat → Int32))) :=
  (f_X0_isFilled N size g).bind fun x4 => (if x4 = 0 then some (.inr (2, g, su)) else (f_X0_givesTwice N rc g fs st ln).bind fun x24 => (if x24 = 0 then (f_X0_sumAndEmpty N size rc g fs st ln su).bind fun x44 => some (.inl ((f_X0_countRuns rc), x44.1, x44.2)) else some (.inr (2, g, su))))
def f_X3_open (N : Nat) (size : Int32) (g : Nat → Int32) : Option (Int32) :=
  (f_X0_countOpen N size g).bind fun x4 => some x4
def f_X3_runs (rc : Int32) : (Int32) :=
  (f_X0_countRuns rc)
def f_X3_firstOf (rc : Int32) (fs : Nat → Int32) (p1 : Int32) : Option ((Int32) ⊕ (Nat)) :=
  (f_X3_needRun rc p1).bind fun x2 => sm x2 (fun y2 => some (.inl (f_X0_firstAt fs p1))) (fun z2 => some (.inr z2))
def f_X3_lengthOf (rc : Int32) (ln : Nat → Int32) (p1 : Int32) : Option ((Int32) ⊕ (Nat)) :=
  (f_X3_needRun rc p1).bind fun x2 => sm x2 (fun y2 => some (.inl (f_X0_lengthAt ln p1))) (fun z2 => some (.inr z2))
def f_X3_sumOf (rc : Int32) (su : Nat → Int32) (p1 : Int32) : Option ((Int32) ⊕ (Nat)) :=
  (f_X3_needRun rc p1).bind fun x2 => sm x2 (fun y2 => some (.inl (f_X0_sumAt su p1))) (fun z2 => some (.inr z2))
def f_X3_digit (size : Int32) (g : Nat → Int32) (p1 : Int32) : Option ((Int32) ⊕ (Nat)) :=
  (f_X3_needCell size p1).bind fun x2 => sm x2 (fun y2 => some (.inl (f_X0_givenAt g p1))) (fun z2 => some (.inr z2))
def f_X3_answers (N : Nat) (size : Int32) (rc : Int32) (g : Nat → Int32) (fs : Nat → Int32) (st : Nat → Int32) (ln : Nat → Int32) (su : Nat → Int32) (rr : Nat → Int32) (cr : Nat → Int32) (bc : Int32) (bl : Nat → Int32) (td : Nat → Int32) (fi : Nat → Int32) (fa : Nat → Int32) (p1 : Int32) : Option ((Int32 × Int32 × (Nat → Int32) × (Nat → Int32) × (Nat → Int32) × (Nat → Int32)) ⊕ (Nat × Int32 × (Nat → Int32) × (Nat → Int32) × (Nat → Int32) × (Nat → Int32))) :=
  jn (fun (_ : Unit) => some (.inr (1, bc, bl, td, fi, fa))) fun k10 => (if p1 < 1 then k10 () else (if p1 ≤ 5 then (f_X2_find N size rc g fs st ln su rr cr bc bl td fi fa p1).bind fun x25 => some (.inl (x25.1, x25.2.1, x25.2.2.1, x25.2.2.2.1, x25.2.2.2.2.1, x25.2.2.2.2.2)) else k10 ()))
def f_X3_answersByAll (N : Nat) (size : Int32) (rc : Int32) (g : Nat → Int32) (fs : Nat → Int32) (st : Nat → Int32) (ln : Nat → Int32) (su : Nat → Int32) (bc : Int32) (bl : Nat → Int32) (td : Nat → Int32) (fi : Nat → Int32) : Option ((Int32 × Int32 × (Nat → Int32) × (Nat → Int32) × (Nat → Int32)) ⊕ (Nat × Int32 × (Nat → Int32) × (Nat → Int32) × (Nat → Int32))) :=
  (f_X0_countBlanks N size g).bind fun x4 => (if x4 ≤ 4 then (f_X2_countByAll N size rc g fs st ln su bc bl td fi).bind fun x25 => some (.inl (x25.1, x25.2.1, x25.2.2.1, x25.2.2.2.1, x25.2.2.2.2)) else some (.inr (2, bc, bl, td, fi)))
def f_X3_mend (N : Nat) (size : Int32) (rc : Int32) (g : Nat → Int32) (fs : Nat → Int32) (st : Nat → Int32) (ln : Nat → Int32) (su : Nat → Int32) (rr : Nat → Int32) (cr : Nat → Int32) (bc : Int32) (bl : Nat → Int32) (td : Nat → Int32) (fi : Nat → Int32) (fa : Nat → Int32) : Option ((Int32 × (Nat → Int32) × Int32 × (Nat → Int32) × (Nat → Int32) × (Nat → Int32) × (Nat → Int32)) ⊕ (Nat × (Nat → Int32) × Int32 × (Nat → Int32) × (Nat → Int32) × (Nat → Int32) × (Nat → Int32))) :=
  (f_X2_find N size rc g fs st ln su rr cr bc bl td fi fa 2).bind fun x5 => (if x5.1 = (-1) then some (.inr (2, g, x5.2.1, x5.2.2.1, x5.2.2.2.1, x5.2.2.2.2.1, x5.2.2.2.2.2)) else (if 2 ≤ x5.1 then (f_X2_firstUnlike N x5.2.2.2.2.1 x5.2.2.2.2.2).bind fun x35 => (if x35 = (-1) then some (.inl (x35, g, x5.2.1, x5.2.2.1, x5.2.2.2.1, x5.2.2.2.2.1, x5.2.2.2.2.2)) else some (.inl (x35, (f_X0_putGiven g x35 (f_X2_firstAnswerAt x5.2.2.2.2.2 x35)), x5.2.1, x5.2.2.1, x5.2.2.2.1, x5.2.2.2.2.1, x5.2.2.2.2.2))) else some (.inl ((-1), g, x5.2.1, x5.2.2.1, x5.2.2.2.1, x5.2.2.2.2.1, x5.2.2.2.2.2))))
def f_X3_level (N : Nat) (size : Int32) (rc : Int32) (g : Nat → Int32) (fs : Nat → Int32) (st : Nat → Int32) (ln : Nat → Int32) (su : Nat → Int32) (tk : Int32) (gr : Int32) (se : Nat → Int32) (sr : Nat → Int32) : Option (Int32 × Int32 × Int32 × (Nat → Int32) × (Nat → Int32)) :=
  (f_X1_solve N size rc g fs st ln su tk gr se sr 3).bind fun x5 => (f_X1_isSolved N size g x5.2.2.1).bind fun x12 => (if x12 = 0 then some ((-1), x5.1, x5.2.1, x5.2.2.1, x5.2.2.2) else some ((f_X1_greatestRule x5.2.1), x5.1, x5.2.1, x5.2.2.1, x5.2.2.2))
def f_X3_candidates (N : Nat) (size : Int32) (rc : Int32) (g : Nat → Int32) (fs : Nat → Int32) (st : Nat → Int32) (ln : Nat → Int32) (su : Nat → Int32) (tk : Int32) (gr : Int32) (se : Nat → Int32) (sr : Nat → Int32) (p1 : Int32) (p2 : Int32) : Option ((Int32 × Int32 × Int32 × (Nat → Int32) × (Nat → Int32)) ⊕ (Nat × Int32 × Int32 × (Nat → Int32) × (Nat → Int32))) :=
  (f_X3_needCell size p1).bind fun x2 => sm x2 (fun y2 => jn (fun (_ : Unit) => some (.inr (1, tk, gr, se, sr))) fun k14 => (if p2 < 0 then k14 () else (if p2 ≤ 3 then (f_X1_solve N size rc g fs st ln su tk gr se sr p2).bind fun x29 => some (.inl ((f_X1_setAt x29.2.2.1 p1), x29.1, x29.2.1, x29.2.2.1, x29.2.2.2)) else k14 ()))) (fun z2 => some (.inr (z2, tk, gr, se, sr)))
def f_X3_hint (N : Nat) (size : Int32) (rc : Int32) (g : Nat → Int32) (fs : Nat → Int32) (st : Nat → Int32) (ln : Nat → Int32) (su : Nat → Int32) (tk : Int32) (gr : Int32) (se : Nat → Int32) (sr : Nat → Int32) : Option (Int32 × Int32 × Int32 × (Nat → Int32) × (Nat → Int32)) :=
  (f_X1_solveToHint N size rc g fs st ln su tk gr se sr).bind fun x4 => (f_X1_firstFound N size g x4.2.2.2.1).bind fun x12 => some (x12, x4.2.1, x4.2.2.1, x4.2.2.2.1, x4.2.2.2.2)
def f_X3_hintRules (N : Nat) (size : Int32) (rc : Int32) (g : Nat → Int32) (fs : Nat → Int32) (st : Nat → Int32) (ln : Nat → Int32) (su : Nat → Int32) (tk : Int32) (gr : Int32) (se : Nat → Int32) (sr : Nat → Int32) : Option (Int32 × Int32 × Int32 × (Nat → Int32) × (Nat → Int32)) :=
  (f_X1_solveToHint N size rc g fs st ln su tk gr se sr).bind fun x4 => some (x4.1, x4.2.1, x4.2.2.1, x4.2.2.2.1, x4.2.2.2.2)
def rm_X3_begin : Room := { frames := 8, cells := 1, slots := 6, locals := 200 }
set_option maxRecDepth 100000 in
set_option maxHeartbeats 8000000 in
theorem K_X3_begin (l : Launch) (hst : l.stackTraces = false) (D : va_G) (cI cZ : ClassId) (ad : Nat → Nat) (sz : Nat) (N : Nat) (size rc : Int32) (g fs st ln su rr cr : Nat → Int32) (bc : Int32) (bl td fi fa : Nat → Int32) (tk gr : Int32) (se sr : Nat → Int32) (p1 : Int32) (r : ((Int32 × Int32 × (Nat → Int32) × (Nat → Int32) × (Nat → Int32) × (Nat → Int32) × (Nat → Int32) × (Nat → Int32) × (Nat → Int32)) ⊕ (Nat × Int32 × Int32 × (Nat → Int32) × (Nat → Int32) × (Nat → Int32) × (Nat → Int32) × (Nat → Int32) × (Nat → Int32) × (Nat → Int32)))) (hf : f_X3_begin N size rc g fs st ln su rr cr p1 = some r) : vx_Met l yX3_begin wsX3_begin rm_X3_begin (PX D cI cZ sz [.ref (ad 16), .int p1] (wG cI ad size rc g fs st ln su rr cr bc bl td fi fa tk gr se sr)) (QXV D cI cZ sz (wG cI ad size rc g fs st ln su rr cr bc bl td fi fa tk gr se sr) r (fun u => wG cI ad u.1 u.2.1 u.2.2.1 u.2.2.2.1 u.2.2.2.2.1 u.2.2.2.2.2.1 u.2.2.2.2.2.2.1 u.2.2.2.2.2.2.2.1 u.2.2.2.2.2.2.2.2 bc bl td fi fa tk gr se sr)) (QXX D sz (wG cI ad size rc g fs st ln su rr cr bc bl td fi fa tk gr se sr) r (fun u => u.1) (fun u => wG cI ad u.2.1 u.2.2.1 u.2.2.2.1 u.2.2.2.2.1 u.2.2.2.2.2.1 u.2.2.2.2.2.2.1 u.2.2.2.2.2.2.2.1 u.2.2.2.2.2.2.2.2.1 u.2.2.2.2.2.2.2.2.2 bc bl td fi fa tk gr se sr)) 1 6 (va_A (wG cI ad size rc g fs st ln su rr cr bc bl td fi fa tk gr se sr) sz) := by
  refine mkx_v (cc := cX3_begin) (maxL := 2) (lv0 := [(0, .ref (ad 16)), (1, .int p1)]) hst rfl (by decide) rfl (Nat.le_of_ble_eq_true rfl) rfl ?_
  intro p e s m args below meth c ls A Q H hx hb hml hown hts hK hXS hP hD hA hS hl hR hT hX
  have hinX3 : ∀ w ∈ wsX30, w ∈ wsX3_begin := by decide +kernel
  rw [f_X3_begin] at hf
  refine lv_iload_n hx hb dX3_begin_0 rfl (lv_at hl 1 rfl) ?_
  refine lv_iconst (v := 2) hx hb dX3_begin_1 (by decide) ?_
  obtain ⟨k10, hk10, hf⟩ := jn_some hf
  have w10 : ∀ (_ : Unit), k10 () = some r → ∀ (H : Heap) (locs : List Loc) (ls : Array Slot), va_P D vwCl (wG cI ad size rc g fs st ln su rr cr bc bl td fi fa tk gr se sr) H → va_D A (wG cI ad size rc g fs st ln su rr cr bc bl td fi fa tk gr se sr) → va_S A s.heap H locs → lv_has ls 2 [] → W p l e rm_X3_begin s m args below meth c H locs 0 0 Q (F0 m 10 ls []) := by
    intro _ hf H locs ls hP hD hS hl
    rw [hk10] at hf
    try dsimp only at hf
    cases hf
    exact hT _ _ _ _ _ _ _ _ 36 38 40 eA "a size is 2 to 4" rfl rfl (by decide +kernel) (by decide +kernel) hP hD hS hl.1 (hts (.classLink RX3 36 eA) (by decide +kernel)) (hts (.initialized eA) (by decide +kernel)) (fun w hw => hts w (List.mem_cons_of_mem _ (List.mem_append_right _ hw))) ng40 go40 dX3_begin_10 dX3_begin_13 dX3_begin_14 dX3_begin_16 dX3_begin_19 (Nat.le_of_ble_eq_true rfl) (Nat.le_of_ble_eq_true rfl) (Nat.le_of_ble_eq_true rfl) (Nat.le_of_ble_eq_true rfl) (Nat.le_of_ble_eq_true rfl) (Nat.le_of_ble_eq_true rfl)
  refine lv_icmp_lt (tgt := 10) hx hb dX3_begin_2 (by decide) (fun c_2 => ?_) (fun c_2 => ?_)
  · have hf := ite_t c_2 hf
    exact w10 () hf _ _ _ hP hD hS (lv_sub hl [] rfl)
  · have hf := ite_f c_2 hf
    refine lv_iload_n hx hb dX3_begin_5 rfl (lv_at hl 1 rfl) ?_
    refine lv_iconst (v := 4) hx hb dX3_begin_6 (by decide) ?_
    refine lv_icmp_le (tgt := 20) hx hb dX3_begin_7 (by decide) (fun c_7 => ?_) (fun c_7 => ?_)
    · have hf := ite_t c_7 hf
      refine lv_aload_n hx hb dX3_begin_20 rfl (lv_at hl 0 rfl) ?_
      refine va_get (D := D) (ci := 3) (v := .ref (ad 0)) (C := RX3) (T := TX3) (N := 3) hx hb hts hinX3 hown hK.1 hP 16 rfl rfl 0 (by decide) (hts (.fieldLink RX3 12 "Gridpuzzle" "board" "LGridpuzzle$Board;") (by decide +kernel)) (fun _ h9 => h9) rfl dX3_begin_21 ?_
      refine lv_iload_n hx hb dX3_begin_24 rfl (lv_at hl 1 rfl) ?_
      obtain ⟨x25, hy25, hf⟩ := Option.bind_eq_some_iff.mp hf
      refine clV_v (As := [.int p1]) (rest := []) (wG cI ad x25.1 x25.2.1 x25.2.2.1 x25.2.2.2.1 x25.2.2.2.2.1 x25.2.2.2.2.2.1 x25.2.2.2.2.2.2.1 x25.2.2.2.2.2.2.2.1 x25.2.2.2.2.2.2.2.2 bc bl td fi fa tk gr se sr) ⟨hx, hb, hml, hown, hts⟩ (K_X0_clear l D cI cZ ad H.size N size rc g fs st ln su rr cr p1 _ hy25) (cwV 1 hts gX3_begin_X0_clear rfl rfl rfl (by decide +kernel) ⟨Nat.le_of_ble_eq_true rfl, Nat.le_of_ble_eq_true rfl⟩) hK hP hD hS hA hl.1 [0, 1, 2, 3, 4, 5, 6, 7] (by decide) rfl rfl rfl 0 0 rfl rfl rfl rfl rfl (Nat.le_of_ble_eq_true rfl) dX3_begin_25 ⟨Nat.le_of_ble_eq_true rfl, Nat.le_of_ble_eq_true rfl⟩ (fun H locs hP hD hS => ?_)
      cases hf
      exact hR _ _ _ _ _ _ _ _ rfl rfl hP hD hS (Nat.le_of_ble_eq_true rfl) (Nat.le_of_ble_eq_true rfl) dX3_begin_28
    · have hf := ite_f c_7 hf
      exact w10 () hf _ _ _ hP hD hS (lv_sub hl [] rfl)
def rm_X3_needCell : Room := { frames := 8, cells := 1, slots := 6, locals := 200 }
set_option maxRecDepth 100000 in
set_option maxHeartbeats 8000000 in
theorem K_X3_needCell (l : Launch) (hst : l.stackTraces = false) (D : va_G) (cI cZ : ClassId) (ad : Nat → Nat) (sz : Nat) (size rc : Int32) (g fs st ln su rr cr : Nat → Int32) (bc : Int32) (bl td fi fa : Nat → Int32) (tk gr : Int32) (se sr : Nat → Int32) (p1 : Int32) (r : ((Unit) ⊕ (Nat))) (hf : f_X3_needCell size p1 = some r) : vx_Met l yX3_needCell wsX3_needCell rm_X3_needCell (PX D cI cZ sz [.ref (ad 16), .int p1] (wG cI ad size rc g fs st ln su rr cr bc bl td fi fa tk gr se sr)) (QXV D cI cZ sz (wG cI ad size rc g fs st ln su rr cr bc bl td fi fa tk gr se sr) r (fun u => wG cI ad size rc g fs st ln su rr cr bc bl td fi fa tk gr se sr)) (QXX D sz (wG cI ad size rc g fs st ln su rr cr bc bl td fi fa tk gr se sr) r (fun u => u) (fun u => wG cI ad size rc g fs st ln su rr cr bc bl td fi fa tk gr se sr)) 1 6 (va_A (wG cI ad size rc g fs st ln su rr cr bc bl td fi fa tk gr se sr) sz) := by
  refine mkx_v (cc := cX3_needCell) (maxL := 2) (lv0 := [(0, .ref (ad 16)), (1, .int p1)]) hst rfl (by decide) rfl (Nat.le_of_ble_eq_true rfl) rfl ?_
  intro p e s m args below meth c ls A Q H hx hb hml hown hts hK hXS hP hD hA hS hl hR hT hX
  have hinX3 : ∀ w ∈ wsX30, w ∈ wsX3_needCell := by decide +kernel
  rw [f_X3_needCell] at hf
  refine lv_aload_n hx hb dX3_needCell_0 rfl (lv_at hl 0 rfl) ?_
  refine va_get (D := D) (ci := 3) (v := .ref (ad 0)) (C := RX3) (T := TX3) (N := 3) hx hb hts hinX3 hown hK.1 hP 16 rfl rfl 0 (by decide) (hts (.fieldLink RX3 12 "Gridpuzzle" "board" "LGridpuzzle$Board;") (by decide +kernel)) (fun _ h9 => h9) rfl dX3_needCell_1 ?_
  refine lv_iload_n hx hb dX3_needCell_4 rfl (lv_at hl 1 rfl) ?_
  refine clV_i (As := [.int p1]) (rest := []) (wG cI ad size rc g fs st ln su rr cr bc bl td fi fa tk gr se sr) ⟨hx, hb, hml, hown, hts⟩ (K_X0_hasCell l D cI cZ ad H.size size rc g fs st ln su rr cr p1 _ rfl) (cwV 1 hts gX3_needCell_X0_hasCell rfl rfl rfl (by decide +kernel) ⟨Nat.le_of_ble_eq_true rfl, Nat.le_of_ble_eq_true rfl⟩) hK hP hD hS hA hl.1 [0, 1, 2, 3, 4, 5, 6, 7] (by decide) rfl rfl rfl 0 0 rfl rfl rfl rfl rfl (Nat.le_of_ble_eq_true rfl) dX3_needCell_5 ⟨Nat.le_of_ble_eq_true rfl, Nat.le_of_ble_eq_true rfl⟩ (fun H locs hP hD hS => ?_)
  refine lv_if_ne (tgt := 21) hx hb dX3_needCell_8 (by decide) (fun c_8 => ?_) (fun c_8 => ?_)
  · have hf := ite_f c_8 hf
    cases hf
    exact hR _ _ _ _ _ _ _ _ rfl rfl hP hD hS (Nat.le_of_ble_eq_true rfl) (Nat.le_of_ble_eq_true rfl) dX3_needCell_21
  · have hf := ite_t c_8 hf
    cases hf
    exact hT _ _ _ _ _ _ _ _ 156 158 160 eB "there is no such cell" rfl rfl (by decide +kernel) (by decide +kernel) hP hD hS hl.1 (hts (.classLink RX3 156 eB) (by decide +kernel)) (hts (.initialized eB) (by decide +kernel)) (fun w hw => hts w (List.mem_cons_of_mem _ (List.mem_append_right _ hw))) ng160 go160 dX3_needCell_11 dX3_needCell_14 dX3_needCell_15 dX3_needCell_17 dX3_needCell_20 (Nat.le_of_ble_eq_true rfl) (Nat.le_of_ble_eq_true rfl) (Nat.le_of_ble_eq_true rfl) (Nat.le_of_ble_eq_true rfl) (Nat.le_of_ble_eq_true rfl) (Nat.le_of_ble_eq_true rfl)
def rm_X3_bar : Room := { frames := 9, cells := 1, slots := 6, locals := 221 }
set_option maxRecDepth 100000 in
set_option maxHeartbeats 8000000 in
theorem K_X3_bar (l : Launch) (hst : l.stackTraces = false) (D : va_G) (cI cZ : ClassId) (ad : Nat → Nat) (sz : Nat) (N : Nat) (size rc : Int32) (g fs st ln su rr cr : Nat → Int32) (bc : Int32) (bl td fi fa : Nat → Int32) (tk gr : Int32) (se sr : Nat → Int32) (p1 : Int32) (r : ((Int32 × Int32 × (Nat → Int32) × (Nat → Int32) × (Nat → Int32) × (Nat → Int32) × (Nat → Int32) × (Nat → Int32) × (Nat → Int32)) ⊕ (Nat × Int32 × (Nat → Int32) × (Nat → Int32) × (Nat → Int32) × (Nat → Int32) × (Nat → Int32) × (Nat → Int32) × (Nat → Int32)))) (hf : f_X3_bar N size rc g fs st ln su rr cr p1 = some r) : vx_Met l yX3_bar wsX3_bar rm_X3_bar (PX D cI cZ sz [.ref (ad 16), .int p1] (wG cI ad size rc g fs st ln su rr cr bc bl td fi fa tk gr se sr)) (QXI D cI cZ sz (wG cI ad size rc g fs st ln su rr cr bc bl td fi fa tk gr se sr) r (fun u => u.1) (fun u => wG cI ad size u.2.1 u.2.2.1 u.2.2.2.1 u.2.2.2.2.1 u.2.2.2.2.2.1 u.2.2.2.2.2.2.1 u.2.2.2.2.2.2.2.1 u.2.2.2.2.2.2.2.2 bc bl td fi fa tk gr se sr)) (QXX D sz (wG cI ad size rc g fs st ln su rr cr bc bl td fi fa tk gr se sr) r (fun u => u.1) (fun u => wG cI ad size u.2.1 u.2.2.1 u.2.2.2.1 u.2.2.2.2.1 u.2.2.2.2.2.1 u.2.2.2.2.2.2.1 u.2.2.2.2.2.2.2.1 u.2.2.2.2.2.2.2.2 bc bl td fi fa tk gr se sr)) 1 6 (va_A (wG cI ad size rc g fs st ln su rr cr bc bl td fi fa tk gr se sr) sz) := by
  refine mkx_z (cc := cX3_bar) (maxL := 2) (lv0 := [(0, .ref (ad 16)), (1, .int p1)]) hst rfl (by decide) rfl (Nat.le_of_ble_eq_true rfl) rfl ?_
  intro p e s m args below meth c ls A Q H hx hb hml hown hts hK hXS hP hD hA hS hl hR hT hX
  have hinX3 : ∀ w ∈ wsX30, w ∈ wsX3_bar := by decide +kernel
  rw [f_X3_bar] at hf
  refine lv_aload_n hx hb dX3_bar_0 rfl (lv_at hl 0 rfl) ?_
  refine lv_iload_n hx hb dX3_bar_1 rfl (lv_at hl 1 rfl) ?_
  obtain ⟨x2, hy2, hf⟩ := Option.bind_eq_some_iff.mp hf
  refine clX_v (As := [.int p1]) (rest := []) (fun u => wG cI ad size rc g fs st ln su rr cr bc bl td fi fa tk gr se sr) (fun u => u) (fun u => wG cI ad size rc g fs st ln su rr cr bc bl td fi fa tk gr se sr) (fun u => wG cI ad size rc g fs st ln su rr cr bc bl td fi fa tk gr se sr) (fun u => wG cI ad size rc g fs st ln su rr cr bc bl td fi fa tk gr se sr) ⟨hx, hb, hml, hown, hts⟩ (K_X3_needCell l hst D cI cZ ad H.size size rc g fs st ln su rr cr bc bl td fi fa tk gr se sr p1 _ hy2) (cwV 1 hts gX3_bar_X3_needCell rfl rfl rfl (by decide +kernel) ⟨Nat.le_of_ble_eq_true rfl, Nat.le_of_ble_eq_true rfl⟩) hK hXS hP hD hS hA hl.1 [0, 1, 2, 3, 4, 5, 6, 7, 8, 9, 10, 11, 12, 13, 14, 15, 16] (by decide) rfl (fun _ => rfl) (fun _ => rfl) (fun _ => rfl) (fun _ => rfl) 3 16 rfl rfl rfl rfl rfl (Nat.le_of_ble_eq_true rfl) dX3_bar_2 ⟨Nat.le_of_ble_eq_true rfl, Nat.le_of_ble_eq_true rfl⟩ (fun z2 hz E ce q9 H locs hE hP hD hS hq hv hc => ?_) (fun y2 hz H locs hP hD hS => ?_)
  · rw [hz] at hf
    have hf := sm_r hf
    cases hf
    exact hX _ _ _ _ _ _ _ _ q9 ce E rfl hE hP hD hS hq hv hc (Nat.le_of_ble_eq_true rfl) (Nat.le_of_ble_eq_true rfl)
  · rw [hz] at hf
    have hf := sm_l hf
    refine lv_aload_n hx hb dX3_bar_5 rfl (lv_at hl 0 rfl) ?_
    refine va_get (D := D) (ci := 3) (v := .ref (ad 0)) (C := RX3) (T := TX3) (N := 3) hx hb hts hinX3 hown hK.1 hP 16 rfl rfl 0 (by decide) (hts (.fieldLink RX3 12 "Gridpuzzle" "board" "LGridpuzzle$Board;") (by decide +kernel)) (fun _ h9 => h9) rfl dX3_bar_6 ?_
    refine lv_iload_n hx hb dX3_bar_9 rfl (lv_at hl 1 rfl) ?_
    obtain ⟨x10, hy10, hf⟩ := Option.bind_eq_some_iff.mp hf
    refine clV_v (As := [.int p1]) (rest := []) (wG cI ad size x10.1 x10.2.1 x10.2.2.1 x10.2.2.2.1 x10.2.2.2.2.1 x10.2.2.2.2.2.1 x10.2.2.2.2.2.2.1 x10.2.2.2.2.2.2.2 bc bl td fi fa tk gr se sr) ⟨hx, hb, hml, hown, hts⟩ (K_X0_turn l D cI cZ ad H.size N size rc g fs st ln su rr cr p1 _ hy10) (cwV 1 hts gX3_bar_X0_turn rfl rfl rfl (by decide +kernel) ⟨Nat.le_of_ble_eq_true rfl, Nat.le_of_ble_eq_true rfl⟩) hK hP hD hS hA hl.1 [0, 1, 2, 3, 4, 5, 6, 7] (by decide) rfl rfl rfl 0 0 rfl rfl rfl rfl rfl (Nat.le_of_ble_eq_true rfl) dX3_bar_10 ⟨Nat.le_of_ble_eq_true rfl, Nat.le_of_ble_eq_true rfl⟩ (fun H locs hP hD hS => ?_)
    refine lv_aload_n hx hb dX3_bar_13 rfl (lv_at hl 0 rfl) ?_
    refine va_get (D := D) (ci := 3) (v := .ref (ad 0)) (C := RX3) (T := TX3) (N := 3) hx hb hts hinX3 hown hK.1 hP 16 rfl rfl 0 (by decide) (hts (.fieldLink RX3 12 "Gridpuzzle" "board" "LGridpuzzle$Board;") (by decide +kernel)) (fun _ h9 => h9) rfl dX3_bar_14 ?_
    refine lv_iload_n hx hb dX3_bar_17 rfl (lv_at hl 1 rfl) ?_
    refine clV_i (As := [.int p1]) (rest := []) (wG cI ad size x10.1 x10.2.1 x10.2.2.1 x10.2.2.2.1 x10.2.2.2.2.1 x10.2.2.2.2.2.1 x10.2.2.2.2.2.2.1 x10.2.2.2.2.2.2.2 bc bl td fi fa tk gr se sr) ⟨hx, hb, hml, hown, hts⟩ (K_X0_isOpen l D cI cZ ad H.size size x10.1 x10.2.1 x10.2.2.1 x10.2.2.2.1 x10.2.2.2.2.1 x10.2.2.2.2.2.1 x10.2.2.2.2.2.2.1 x10.2.2.2.2.2.2.2 p1 _ rfl) (cwV 1 hts gX3_bar_X0_isOpen rfl rfl rfl (by decide +kernel) ⟨Nat.le_of_ble_eq_true rfl, Nat.le_of_ble_eq_true rfl⟩) hK hP hD hS hA hl.1 [0, 1, 2, 3, 4, 5, 6, 7] (by decide) rfl rfl rfl 0 0 rfl rfl rfl rfl rfl (Nat.le_of_ble_eq_true rfl) dX3_bar_18 ⟨Nat.le_of_ble_eq_true rfl, Nat.le_of_ble_eq_true rfl⟩ (fun H locs hP hD hS => ?_)
    refine lv_if_ne (tgt := 28) hx hb dX3_bar_21 (by decide) (fun c_21 => ?_) (fun c_21 => ?_)
    · have hf := ite_f c_21 hf
      refine lv_iconst (v := 0) hx hb dX3_bar_28 (by decide) ?_
      cases hf
      exact hR _ _ _ _ _ _ _ _ _ (by decide) rfl rfl rfl hP hD hS (Nat.le_of_ble_eq_true rfl) (Nat.le_of_ble_eq_true rfl) dX3_bar_29
    · have hf := ite_t c_21 hf
      refine lv_iconst (v := 1) hx hb dX3_bar_24 (by decide) ?_
      refine lv_goto (tgt := 29) hx hb dX3_bar_25 (by decide) ?_
      cases hf
      exact hR _ _ _ _ _ _ _ _ _ (by decide) rfl rfl rfl hP hD hS (Nat.le_of_ble_eq_true rfl) (Nat.le_of_ble_eq_true rfl) dX3_bar_29
def rm_X3_barBoth : Room := { frames := 9, cells := 1, slots := 6, locals := 221 }
set_option maxRecDepth 100000 in
set_option maxHeartbeats 8000000 in
theorem K_X3_barBoth (l : Launch) (hst : l.stackTraces = false) (D : va_G) (cI cZ : ClassId) (ad : Nat → Nat) (sz : Nat) (N : Nat) (size rc : Int32) (g fs st ln su rr cr : Nat → Int32) (bc : Int32) (bl td fi fa : Nat → Int32) (tk gr : Int32) (se sr : Nat → Int32) (p1 : Int32) (r : ((Int32 × Int32 × (Nat → Int32) × (Nat → Int32) × (Nat → Int32) × (Nat → Int32) × (Nat → Int32) × (Nat → Int32) × (Nat → Int32)) ⊕ (Nat × Int32 × (Nat → Int32) × (Nat → Int32) × (Nat → Int32) × (Nat → Int32) × (Nat → Int32) × (Nat → Int32) × (Nat → Int32)))) (hf : f_X3_barBoth N size rc g fs st ln su rr cr p1 = some r) : vx_Met l yX3_barBoth wsX3_barBoth rm_X3_barBoth (PX D cI cZ sz [.ref (ad 16), .int p1] (wG cI ad size rc g fs st ln su rr cr bc bl td fi fa tk gr se sr)) (QXI D cI cZ sz (wG cI ad size rc g fs st ln su rr cr bc bl td fi fa tk gr se sr) r (fun u => u.1) (fun u => wG cI ad size u.2.1 u.2.2.1 u.2.2.2.1 u.2.2.2.2.1 u.2.2.2.2.2.1 u.2.2.2.2.2.2.1 u.2.2.2.2.2.2.2.1 u.2.2.2.2.2.2.2.2 bc bl td fi fa tk gr se sr)) (QXX D sz (wG cI ad size rc g fs st ln su rr cr bc bl td fi fa tk gr se sr) r (fun u => u.1) (fun u => wG cI ad size u.2.1 u.2.2.1 u.2.2.2.1 u.2.2.2.2.1 u.2.2.2.2.2.1 u.2.2.2.2.2.2.1 u.2.2.2.2.2.2.2.1 u.2.2.2.2.2.2.2.2 bc bl td fi fa tk gr se sr)) 1 6 (va_A (wG cI ad size rc g fs st ln su rr cr bc bl td fi fa tk gr se sr) sz) := by
  refine mkx_i (cc := cX3_barBoth) (maxL := 3) (lv0 := [(0, .ref (ad 16)), (1, .int p1)]) hst rfl (by decide) rfl (Nat.le_of_ble_eq_true rfl) rfl ?_
  intro p e s m args below meth c ls A Q H hx hb hml hown hts hK hXS hP hD hA hS hl hR hT hX
  have hinX3 : ∀ w ∈ wsX30, w ∈ wsX3_barBoth := by decide +kernel
  rw [f_X3_barBoth] at hf
  refine lv_aload_n hx hb dX3_barBoth_0 rfl (lv_at hl 0 rfl) ?_
  refine lv_iload_n hx hb dX3_barBoth_1 rfl (lv_at hl 1 rfl) ?_
  obtain ⟨x2, hy2, hf⟩ := Option.bind_eq_some_iff.mp hf
  refine clX_v (As := [.int p1]) (rest := []) (fun u => wG cI ad size rc g fs st ln su rr cr bc bl td fi fa tk gr se sr) (fun u => u) (fun u => wG cI ad size rc g fs st ln su rr cr bc bl td fi fa tk gr se sr) (fun u => wG cI ad size rc g fs st ln su rr cr bc bl td fi fa tk gr se sr) (fun u => wG cI ad size rc g fs st ln su rr cr bc bl td fi fa tk gr se sr) ⟨hx, hb, hml, hown, hts⟩ (K_X3_needCell l hst D cI cZ ad H.size size rc g fs st ln su rr cr bc bl td fi fa tk gr se sr p1 _ hy2) (cwV 1 hts gX3_barBoth_X3_needCell rfl rfl rfl (by decide +kernel) ⟨Nat.le_of_ble_eq_true rfl, Nat.le_of_ble_eq_true rfl⟩) hK hXS hP hD hS hA hl.1 [0, 1, 2, 3, 4, 5, 6, 7, 8, 9, 10, 11, 12, 13, 14, 15, 16] (by decide) rfl (fun _ => rfl) (fun _ => rfl) (fun _ => rfl) (fun _ => rfl) 3 16 rfl rfl rfl rfl rfl (Nat.le_of_ble_eq_true rfl) dX3_barBoth_2 ⟨Nat.le_of_ble_eq_true rfl, Nat.le_of_ble_eq_true rfl⟩ (fun z2 hz E ce q9 H locs hE hP hD hS hq hv hc => ?_) (fun y2 hz H locs hP hD hS => ?_)
  · rw [hz] at hf
    have hf := sm_r hf
    cases hf
    exact hX _ _ _ _ _ _ _ _ q9 ce E rfl hE hP hD hS hq hv hc (Nat.le_of_ble_eq_true rfl) (Nat.le_of_ble_eq_true rfl)
  · rw [hz] at hf
    have hf := sm_l hf
    refine lv_aload_n hx hb dX3_barBoth_5 rfl (lv_at hl 0 rfl) ?_
    refine va_get (D := D) (ci := 3) (v := .ref (ad 0)) (C := RX3) (T := TX3) (N := 3) hx hb hts hinX3 hown hK.1 hP 16 rfl rfl 0 (by decide) (hts (.fieldLink RX3 12 "Gridpuzzle" "board" "LGridpuzzle$Board;") (by decide +kernel)) (fun _ h9 => h9) rfl dX3_barBoth_6 ?_
    refine lv_iload_n hx hb dX3_barBoth_9 rfl (lv_at hl 1 rfl) ?_
    refine clV_i (As := [.int p1]) (rest := []) (wG cI ad size rc g fs st ln su rr cr bc bl td fi fa tk gr se sr) ⟨hx, hb, hml, hown, hts⟩ (K_X0_oppositeOf l D cI cZ ad H.size size rc g fs st ln su rr cr p1 _ rfl) (cwV 1 hts gX3_barBoth_X0_oppositeOf rfl rfl rfl (by decide +kernel) ⟨Nat.le_of_ble_eq_true rfl, Nat.le_of_ble_eq_true rfl⟩) hK hP hD hS hA hl.1 [0, 1, 2, 3, 4, 5, 6, 7] (by decide) rfl rfl rfl 0 0 rfl rfl rfl rfl rfl (Nat.le_of_ble_eq_true rfl) dX3_barBoth_10 ⟨Nat.le_of_ble_eq_true rfl, Nat.le_of_ble_eq_true rfl⟩ (fun H locs hP hD hS => ?_)
    refine lv_istore_n (lv' := [(2, .int (f_X0_oppositeOf size p1)), (0, .ref (ad 16)), (1, .int p1)]) hx hb dX3_barBoth_13 rfl hl (by decide) rfl (fun ls hl => ?_)
    refine lv_aload_n hx hb dX3_barBoth_14 rfl (lv_at hl 1 rfl) ?_
    refine va_get (D := D) (ci := 3) (v := .ref (ad 0)) (C := RX3) (T := TX3) (N := 3) hx hb hts hinX3 hown hK.1 hP 16 rfl rfl 0 (by decide) (hts (.fieldLink RX3 12 "Gridpuzzle" "board" "LGridpuzzle$Board;") (by decide +kernel)) (fun _ h9 => h9) rfl dX3_barBoth_15 ?_
    refine lv_iload_n hx hb dX3_barBoth_18 rfl (lv_at hl 2 rfl) ?_
    obtain ⟨x19, hy19, hf⟩ := Option.bind_eq_some_iff.mp hf
    refine clV_v (As := [.int p1]) (rest := []) (wG cI ad size x19.1 x19.2.1 x19.2.2.1 x19.2.2.2.1 x19.2.2.2.2.1 x19.2.2.2.2.2.1 x19.2.2.2.2.2.2.1 x19.2.2.2.2.2.2.2 bc bl td fi fa tk gr se sr) ⟨hx, hb, hml, hown, hts⟩ (K_X0_turn l D cI cZ ad H.size N size rc g fs st ln su rr cr p1 _ hy19) (cwV 1 hts gX3_barBoth_X0_turn rfl rfl rfl (by decide +kernel) ⟨Nat.le_of_ble_eq_true rfl, Nat.le_of_ble_eq_true rfl⟩) hK hP hD hS hA hl.1 [0, 1, 2, 3, 4, 5, 6, 7] (by decide) rfl rfl rfl 0 0 rfl rfl rfl rfl rfl (Nat.le_of_ble_eq_true rfl) dX3_barBoth_19 ⟨Nat.le_of_ble_eq_true rfl, Nat.le_of_ble_eq_true rfl⟩ (fun H locs hP hD hS => ?_)
    refine lv_iload_n hx hb dX3_barBoth_22 rfl (lv_at hl 0 rfl) ?_
    refine lv_iload_n hx hb dX3_barBoth_23 rfl (lv_at hl 2 rfl) ?_
    obtain ⟨k35, hk35, hf⟩ := jn_some hf
    have w35 : ∀ (rc_35 : Int32) (g_35 : Nat → Int32) (fs_35 : Nat → Int32) (st_35 : Nat → Int32) (ln_35 : Nat → Int32) (su_35 : Nat → Int32) (rr_35 : Nat → Int32) (cr_35 : Nat → Int32), k35 rc_35 g_35 fs_35 st_35 ln_35 su_35 rr_35 cr_35 = some r → ∀ (H : Heap) (locs : List Loc) (ls : Array Slot), va_P D vwCl (wG cI ad size rc_35 g_35 fs_35 st_35 ln_35 su_35 rr_35 cr_35 bc bl td fi fa tk gr se sr) H → va_D A (wG cI ad size rc_35 g_35 fs_35 st_35 ln_35 su_35 rr_35 cr_35 bc bl td fi fa tk gr se sr) → va_S A s.heap H locs → lv_has ls 3 [(0, .ref (ad 16))] → W p l e rm_X3_barBoth s m args below meth c H locs 1 6 Q (F0 m 35 ls []) := by
      intro rc_35 g_35 fs_35 st_35 ln_35 su_35 rr_35 cr_35 hf H locs ls hP hD hS hl
      rw [hk35] at hf
      try dsimp only at hf
      refine lv_aload_n hx hb dX3_barBoth_35 rfl (lv_at hl 0 rfl) ?_
      refine va_get (D := D) (ci := 3) (v := .ref (ad 0)) (C := RX3) (T := TX3) (N := 3) hx hb hts hinX3 hown hK.1 hP 16 rfl rfl 0 (by decide) (hts (.fieldLink RX3 12 "Gridpuzzle" "board" "LGridpuzzle$Board;") (by decide +kernel)) (fun _ h9 => h9) rfl dX3_barBoth_36 ?_
      obtain ⟨x39, hy39, hf⟩ := Option.bind_eq_some_iff.mp hf
      refine clV_i (As := []) (rest := []) (wG cI ad size rc_35 g_35 fs_35 st_35 ln_35 su_35 rr_35 cr_35 bc bl td fi fa tk gr se sr) ⟨hx, hb, hml, hown, hts⟩ (K_X0_countBarred l D cI cZ ad H.size N size rc_35 g_35 fs_35 st_35 ln_35 su_35 rr_35 cr_35 _ hy39) (cwV 0 hts gX3_barBoth_X0_countBarred rfl rfl rfl (by decide +kernel) ⟨Nat.le_of_ble_eq_true rfl, Nat.le_of_ble_eq_true rfl⟩) hK hP hD hS hA hl.1 [0, 1, 2, 3, 4, 5, 6, 7] (by decide) rfl rfl rfl 0 0 rfl rfl rfl rfl rfl (Nat.le_of_ble_eq_true rfl) dX3_barBoth_39 ⟨Nat.le_of_ble_eq_true rfl, Nat.le_of_ble_eq_true rfl⟩ (fun H locs hP hD hS => ?_)
      cases hf
      exact hR _ _ _ _ _ _ _ _ _ rfl rfl rfl hP hD hS (Nat.le_of_ble_eq_true rfl) (Nat.le_of_ble_eq_true rfl) dX3_barBoth_42
    refine lv_icmp_eq (tgt := 35) hx hb dX3_barBoth_24 (by decide) (fun c_24 => ?_) (fun c_24 => ?_)
    · have hf := ite_t c_24 hf
      exact w35 x19.1 x19.2.1 x19.2.2.1 x19.2.2.2.1 x19.2.2.2.2.1 x19.2.2.2.2.2.1 x19.2.2.2.2.2.2.1 x19.2.2.2.2.2.2.2 hf _ _ _ hP hD hS (lv_sub hl [1] rfl)
    · have hf := ite_f c_24 hf
      refine lv_aload_n hx hb dX3_barBoth_27 rfl (lv_at hl 1 rfl) ?_
      refine va_get (D := D) (ci := 3) (v := .ref (ad 0)) (C := RX3) (T := TX3) (N := 3) hx hb hts hinX3 hown hK.1 hP 16 rfl rfl 0 (by decide) (hts (.fieldLink RX3 12 "Gridpuzzle" "board" "LGridpuzzle$Board;") (by decide +kernel)) (fun _ h9 => h9) rfl dX3_barBoth_28 ?_
      refine lv_iload_n hx hb dX3_barBoth_31 rfl (lv_at hl 0 rfl) ?_
      obtain ⟨x32, hy32, hf⟩ := Option.bind_eq_some_iff.mp hf
      refine clV_v (As := [.int (f_X0_oppositeOf size p1)]) (rest := []) (wG cI ad size x32.1 x32.2.1 x32.2.2.1 x32.2.2.2.1 x32.2.2.2.2.1 x32.2.2.2.2.2.1 x32.2.2.2.2.2.2.1 x32.2.2.2.2.2.2.2 bc bl td fi fa tk gr se sr) ⟨hx, hb, hml, hown, hts⟩ (K_X0_turn l D cI cZ ad H.size N size x19.1 x19.2.1 x19.2.2.1 x19.2.2.2.1 x19.2.2.2.2.1 x19.2.2.2.2.2.1 x19.2.2.2.2.2.2.1 x19.2.2.2.2.2.2.2 (f_X0_oppositeOf size p1) _ hy32) (cwV 1 hts gX3_barBoth_X0_turn rfl rfl rfl (by decide +kernel) ⟨Nat.le_of_ble_eq_true rfl, Nat.le_of_ble_eq_true rfl⟩) hK hP hD hS hA hl.1 [0, 1, 2, 3, 4, 5, 6, 7] (by decide) rfl rfl rfl 0 0 rfl rfl rfl rfl rfl (Nat.le_of_ble_eq_true rfl) dX3_barBoth_32 ⟨Nat.le_of_ble_eq_true rfl, Nat.le_of_ble_eq_true rfl⟩ (fun H locs hP hD hS => ?_)
      exact w35 x32.1 x32.2.1 x32.2.2.1 x32.2.2.2.1 x32.2.2.2.2.1 x32.2.2.2.2.2.1 x32.2.2.2.2.2.2.1 x32.2.2.2.2.2.2.2 hf _ _ _ hP hD hS (lv_sub hl [1] rfl)
def rm_X3_give : Room := { frames := 9, cells := 2, slots := 12, locals := 221 }
set_option maxRecDepth 100000 in
set_option maxHeartbeats 8000000 in
theorem K_X3_give (l : Launch) (hst : l.stackTraces = false) (D : va_G) (cI cZ : ClassId) (ad : Nat → Nat) (sz : Nat) (size rc : Int32) (g fs st ln su rr cr : Nat → Int32) (bc : Int32) (bl td fi fa : Nat → Int32) (tk gr : Int32) (se sr : Nat → Int32) (p1 : Int32) (p2 : Int32) (r : ((Int32 × (Nat → Int32)) ⊕ (Nat × (Nat → Int32)))) (hf : f_X3_give size g p1 p2 = some r) : vx_Met l yX3_give wsX3_give rm_X3_give (PX D cI cZ sz [.ref (ad 16), .int p1, .int p2] (wG cI ad size rc g fs st ln su rr cr bc bl td fi fa tk gr se sr)) (QXI D cI cZ sz (wG cI ad size rc g fs st ln su rr cr bc bl td fi fa tk gr se sr) r (fun u => u.1) (fun u => wG cI ad size rc u.2 fs st ln su rr cr bc bl td fi fa tk gr se sr)) (QXX D sz (wG cI ad size rc g fs st ln su rr cr bc bl td fi fa tk gr se sr) r (fun u => u.1) (fun u => wG cI ad size rc u.2 fs st ln su rr cr bc bl td fi fa tk gr se sr)) 2 12 (va_A (wG cI ad size rc g fs st ln su rr cr bc bl td fi fa tk gr se sr) sz) := by
  refine mkx_i (cc := cX3_give) (maxL := 4) (lv0 := [(0, .ref (ad 16)), (1, .int p1), (2, .int p2)]) hst rfl (by decide) rfl (Nat.le_of_ble_eq_true rfl) rfl ?_
  intro p e s m args below meth c ls A Q H hx hb hml hown hts hK hXS hP hD hA hS hl hR hT hX
  have hinX3 : ∀ w ∈ wsX30, w ∈ wsX3_give := by decide +kernel
  rw [f_X3_give] at hf
  refine lv_aload_n hx hb dX3_give_0 rfl (lv_at hl 0 rfl) ?_
  refine lv_iload_n hx hb dX3_give_1 rfl (lv_at hl 1 rfl) ?_
  obtain ⟨x2, hy2, hf⟩ := Option.bind_eq_some_iff.mp hf
  refine clX_v (As := [.int p1]) (rest := []) (fun u => wG cI ad size rc g fs st ln su rr cr bc bl td fi fa tk gr se sr) (fun u => u) (fun u => wG cI ad size rc g fs st ln su rr cr bc bl td fi fa tk gr se sr) (fun u => wG cI ad size rc g fs st ln su rr cr bc bl td fi fa tk gr se sr) (fun u => wG cI ad size rc g fs st ln su rr cr bc bl td fi fa tk gr se sr) ⟨hx, hb, hml, hown, hts⟩ (K_X3_needCell l hst D cI cZ ad H.size size rc g fs st ln su rr cr bc bl td fi fa tk gr se sr p1 _ hy2) (cwV 1 hts gX3_give_X3_needCell rfl rfl rfl (by decide +kernel) ⟨Nat.le_of_ble_eq_true rfl, Nat.le_of_ble_eq_true rfl⟩) hK hXS hP hD hS hA hl.1 [0, 1, 2, 3, 4, 5, 6, 7, 8, 9, 10, 11, 12, 13, 14, 15, 16] (by decide) rfl (fun _ => rfl) (fun _ => rfl) (fun _ => rfl) (fun _ => rfl) 3 16 rfl rfl rfl rfl rfl (Nat.le_of_ble_eq_true rfl) dX3_give_2 ⟨Nat.le_of_ble_eq_true rfl, Nat.le_of_ble_eq_true rfl⟩ (fun z2 hz E ce q9 H locs hE hP hD hS hq hv hc => ?_) (fun y2 hz H locs hP hD hS => ?_)
  · rw [hz] at hf
    have hf := sm_r hf
    cases hf
    exact hX _ _ _ _ _ _ _ _ q9 ce E rfl hE hP hD hS hq hv hc (Nat.le_of_ble_eq_true rfl) (Nat.le_of_ble_eq_true rfl)
  · rw [hz] at hf
    have hf := sm_l hf
    refine lv_iload_n hx hb dX3_give_5 rfl (lv_at hl 2 rfl) ?_
    obtain ⟨k15, hk15, hf⟩ := jn_some hf
    have w15 : ∀ (_ : Unit), k15 () = some r → ∀ (H : Heap) (locs : List Loc) (ls : Array Slot), va_P D vwCl (wG cI ad size rc g fs st ln su rr cr bc bl td fi fa tk gr se sr) H → va_D A (wG cI ad size rc g fs st ln su rr cr bc bl td fi fa tk gr se sr) → va_S A s.heap H locs → lv_has ls 4 [] → W p l e rm_X3_give s m args below meth c H locs 1 6 Q (F0 m 15 ls []) := by
      intro _ hf H locs ls hP hD hS hl
      rw [hk15] at hf
      try dsimp only at hf
      cases hf
      exact hT _ _ _ _ _ _ _ _ 36 61 40 eA "a digit is 1 to 9, or 0 for none" rfl rfl (by decide +kernel) (by decide +kernel) hP hD hS hl.1 (hts (.classLink RX3 36 eA) (by decide +kernel)) (hts (.initialized eA) (by decide +kernel)) (fun w hw => hts w (List.mem_cons_of_mem _ (List.mem_append_left _ (List.mem_append_left _ (List.mem_append_right _ hw))))) ng40 go40 dX3_give_15 dX3_give_18 dX3_give_19 dX3_give_21 dX3_give_24 (Nat.le_of_ble_eq_true rfl) (Nat.le_of_ble_eq_true rfl) (Nat.le_of_ble_eq_true rfl) (Nat.le_of_ble_eq_true rfl) (Nat.le_of_ble_eq_true rfl) (Nat.le_of_ble_eq_true rfl)
    refine lv_if_lt (tgt := 15) hx hb dX3_give_6 (by decide) (fun c_6 => ?_) (fun c_6 => ?_)
    · have hf := ite_t c_6 hf
      exact w15 () hf _ _ _ hP hD hS (lv_sub hl [] rfl)
    · have hf := ite_f c_6 hf
      refine lv_iload_n hx hb dX3_give_9 rfl (lv_at hl 2 rfl) ?_
      refine lv_bipush (v := 9) hx hb dX3_give_10 (by decide) ?_
      refine lv_icmp_le (tgt := 25) hx hb dX3_give_12 (by decide) (fun c_12 => ?_) (fun c_12 => ?_)
      · have hf := ite_t c_12 hf
        refine lv_aload_n hx hb dX3_give_25 rfl (lv_at hl 0 rfl) ?_
        refine va_get (D := D) (ci := 3) (v := .ref (ad 0)) (C := RX3) (T := TX3) (N := 3) hx hb hts hinX3 hown hK.1 hP 16 rfl rfl 0 (by decide) (hts (.fieldLink RX3 12 "Gridpuzzle" "board" "LGridpuzzle$Board;") (by decide +kernel)) (fun _ h9 => h9) rfl dX3_give_26 ?_
        refine lv_iload_n hx hb dX3_give_29 rfl (lv_at hl 1 rfl) ?_
        refine clV_i (As := [.int p1]) (rest := []) (wG cI ad size rc g fs st ln su rr cr bc bl td fi fa tk gr se sr) ⟨hx, hb, hml, hown, hts⟩ (K_X0_isOpen l D cI cZ ad H.size size rc g fs st ln su rr cr p1 _ rfl) (cwV 1 hts gX3_give_X0_isOpen rfl rfl rfl (by decide +kernel) ⟨Nat.le_of_ble_eq_true rfl, Nat.le_of_ble_eq_true rfl⟩) hK hP hD hS hA hl.1 [0, 1, 2, 3, 4, 5, 6, 7] (by decide) rfl rfl rfl 0 0 rfl rfl rfl rfl rfl (Nat.le_of_ble_eq_true rfl) dX3_give_30 ⟨Nat.le_of_ble_eq_true rfl, Nat.le_of_ble_eq_true rfl⟩ (fun H locs hP hD hS => ?_)
        refine lv_if_ne (tgt := 46) hx hb dX3_give_33 (by decide) (fun c_33 => ?_) (fun c_33 => ?_)
        · have hf := ite_f c_33 hf
          refine lv_aload_n hx hb dX3_give_46 rfl (lv_at hl 0 rfl) ?_
          refine va_get (D := D) (ci := 3) (v := .ref (ad 0)) (C := RX3) (T := TX3) (N := 3) hx hb hts hinX3 hown hK.1 hP 16 rfl rfl 0 (by decide) (hts (.fieldLink RX3 12 "Gridpuzzle" "board" "LGridpuzzle$Board;") (by decide +kernel)) (fun _ h9 => h9) rfl dX3_give_47 ?_
          refine lv_iload_n hx hb dX3_give_50 rfl (lv_at hl 1 rfl) ?_
          refine clV_i (As := [.int p1]) (rest := []) (wG cI ad size rc g fs st ln su rr cr bc bl td fi fa tk gr se sr) ⟨hx, hb, hml, hown, hts⟩ (K_X0_givenAt l D cI cZ ad H.size size rc g fs st ln su rr cr p1 _ rfl) (cwV 1 hts gX3_give_X0_givenAt rfl rfl rfl (by decide +kernel) ⟨Nat.le_of_ble_eq_true rfl, Nat.le_of_ble_eq_true rfl⟩) hK hP hD hS hA hl.1 [0, 1, 2, 3, 4, 5, 6, 7] (by decide) rfl rfl rfl 0 0 rfl rfl rfl rfl rfl (Nat.le_of_ble_eq_true rfl) dX3_give_51 ⟨Nat.le_of_ble_eq_true rfl, Nat.le_of_ble_eq_true rfl⟩ (fun H locs hP hD hS => ?_)
          refine lv_istore_n (lv' := [(3, .int (f_X0_givenAt g p1)), (0, .ref (ad 16)), (1, .int p1), (2, .int p2)]) hx hb dX3_give_54 rfl hl (by decide) rfl (fun ls hl => ?_)
          refine lv_aload_n hx hb dX3_give_55 rfl (lv_at hl 1 rfl) ?_
          refine va_get (D := D) (ci := 3) (v := .ref (ad 0)) (C := RX3) (T := TX3) (N := 3) hx hb hts hinX3 hown hK.1 hP 16 rfl rfl 0 (by decide) (hts (.fieldLink RX3 12 "Gridpuzzle" "board" "LGridpuzzle$Board;") (by decide +kernel)) (fun _ h9 => h9) rfl dX3_give_56 ?_
          refine lv_iload_n hx hb dX3_give_59 rfl (lv_at hl 2 rfl) ?_
          refine lv_iload_n hx hb dX3_give_60 rfl (lv_at hl 3 rfl) ?_
          refine clV_v (As := [.int p1, .int p2]) (rest := []) (wG cI ad size rc (f_X0_putGiven g p1 p2) fs st ln su rr cr bc bl td fi fa tk gr se sr) ⟨hx, hb, hml, hown, hts⟩ (K_X0_putGiven l D cI cZ ad H.size size rc g fs st ln su rr cr p1 p2 _ rfl) (cwV 2 hts gX3_give_X0_putGiven rfl rfl rfl (by decide +kernel) ⟨Nat.le_of_ble_eq_true rfl, Nat.le_of_ble_eq_true rfl⟩) hK hP hD hS hA hl.1 [0, 1, 2, 3, 4, 5, 6, 7] (by decide) rfl rfl rfl 0 0 rfl rfl rfl rfl rfl (Nat.le_of_ble_eq_true rfl) dX3_give_61 ⟨Nat.le_of_ble_eq_true rfl, Nat.le_of_ble_eq_true rfl⟩ (fun H locs hP hD hS => ?_)
          refine lv_iload_n hx hb dX3_give_64 rfl (lv_at hl 0 rfl) ?_
          cases hf
          exact hR _ _ _ _ _ _ _ _ _ rfl rfl rfl hP hD hS (Nat.le_of_ble_eq_true rfl) (Nat.le_of_ble_eq_true rfl) dX3_give_65
        · have hf := ite_t c_33 hf
          cases hf
          exact hT _ _ _ _ _ _ _ _ 63 65 67 eS "a barred cell takes no digit" rfl rfl (by decide +kernel) (by decide +kernel) hP hD hS hl.1 (hts (.classLink RX3 63 eS) (by decide +kernel)) (hts (.initialized eS) (by decide +kernel)) (fun w hw => hts w (List.mem_cons_of_mem _ (List.mem_append_left _ (List.mem_append_right _ hw)))) ng67 go67 dX3_give_36 dX3_give_39 dX3_give_40 dX3_give_42 dX3_give_45 (Nat.le_of_ble_eq_true rfl) (Nat.le_of_ble_eq_true rfl) (Nat.le_of_ble_eq_true rfl) (Nat.le_of_ble_eq_true rfl) (Nat.le_of_ble_eq_true rfl) (Nat.le_of_ble_eq_true rfl)
      · have hf := ite_f c_12 hf
        exact w15 () hf _ _ _ hP hD hS (lv_sub hl [] rfl)
def rm_X3_needRun : Room := { frames := 8, cells := 1, slots := 6, locals := 200 }
set_option maxRecDepth 100000 in
set_option maxHeartbeats 8000000 in
theorem K_X3_needRun (l : Launch) (hst : l.stackTraces = false) (D : va_G) (cI cZ : ClassId) (ad : Nat → Nat) (sz : Nat) (size rc : Int32) (g fs st ln su rr cr : Nat → Int32) (bc : Int32) (bl td fi fa : Nat → Int32) (tk gr : Int32) (se sr : Nat → Int32) (p1 : Int32) (r : ((Unit) ⊕ (Nat))) (hf : f_X3_needRun rc p1 = some r) : vx_Met l yX3_needRun wsX3_needRun rm_X3_needRun (PX D cI cZ sz [.ref (ad 16), .int p1] (wG cI ad size rc g fs st ln su rr cr bc bl td fi fa tk gr se sr)) (QXV D cI cZ sz (wG cI ad size rc g fs st ln su rr cr bc bl td fi fa tk gr se sr) r (fun u => wG cI ad size rc g fs st ln su rr cr bc bl td fi fa tk gr se sr)) (QXX D sz (wG cI ad size rc g fs st ln su rr cr bc bl td fi fa tk gr se sr) r (fun u => u) (fun u => wG cI ad size rc g fs st ln su rr cr bc bl td fi fa tk gr se sr)) 1 6 (va_A (wG cI ad size rc g fs st ln su rr cr bc bl td fi fa tk gr se sr) sz) := by
  refine mkx_v (cc := cX3_needRun) (maxL := 2) (lv0 := [(0, .ref (ad 16)), (1, .int p1)]) hst rfl (by decide) rfl (Nat.le_of_ble_eq_true rfl) rfl ?_
  intro p e s m args below meth c ls A Q H hx hb hml hown hts hK hXS hP hD hA hS hl hR hT hX
  have hinX3 : ∀ w ∈ wsX30, w ∈ wsX3_needRun := by decide +kernel
  rw [f_X3_needRun] at hf
  refine lv_aload_n hx hb dX3_needRun_0 rfl (lv_at hl 0 rfl) ?_
  refine va_get (D := D) (ci := 3) (v := .ref (ad 0)) (C := RX3) (T := TX3) (N := 3) hx hb hts hinX3 hown hK.1 hP 16 rfl rfl 0 (by decide) (hts (.fieldLink RX3 12 "Gridpuzzle" "board" "LGridpuzzle$Board;") (by decide +kernel)) (fun _ h9 => h9) rfl dX3_needRun_1 ?_
  refine lv_iload_n hx hb dX3_needRun_4 rfl (lv_at hl 1 rfl) ?_
  refine clV_i (As := [.int p1]) (rest := []) (wG cI ad size rc g fs st ln su rr cr bc bl td fi fa tk gr se sr) ⟨hx, hb, hml, hown, hts⟩ (K_X0_hasRun l D cI cZ ad H.size size rc g fs st ln su rr cr p1 _ rfl) (cwV 1 hts gX3_needRun_X0_hasRun rfl rfl rfl (by decide +kernel) ⟨Nat.le_of_ble_eq_true rfl, Nat.le_of_ble_eq_true rfl⟩) hK hP hD hS hA hl.1 [0, 1, 2, 3, 4, 5, 6, 7] (by decide) rfl rfl rfl 0 0 rfl rfl rfl rfl rfl (Nat.le_of_ble_eq_true rfl) dX3_needRun_5 ⟨Nat.le_of_ble_eq_true rfl, Nat.le_of_ble_eq_true rfl⟩ (fun H locs hP hD hS => ?_)
  refine lv_if_ne (tgt := 21) hx hb dX3_needRun_8 (by decide) (fun c_8 => ?_) (fun c_8 => ?_)
  · have hf := ite_f c_8 hf
    cases hf
    exact hR _ _ _ _ _ _ _ _ rfl rfl hP hD hS (Nat.le_of_ble_eq_true rfl) (Nat.le_of_ble_eq_true rfl) dX3_needRun_21
  · have hf := ite_t c_8 hf
    cases hf
    exact hT _ _ _ _ _ _ _ _ 156 164 160 eB "there is no such run" rfl rfl (by decide +kernel) (by decide +kernel) hP hD hS hl.1 (hts (.classLink RX3 156 eB) (by decide +kernel)) (hts (.initialized eB) (by decide +kernel)) (fun w hw => hts w (List.mem_cons_of_mem _ (List.mem_append_right _ hw))) ng160 go160 dX3_needRun_11 dX3_needRun_14 dX3_needRun_15 dX3_needRun_17 dX3_needRun_20 (Nat.le_of_ble_eq_true rfl) (Nat.le_of_ble_eq_true rfl) (Nat.le_of_ble_eq_true rfl) (Nat.le_of_ble_eq_true rfl) (Nat.le_of_ble_eq_true rfl) (Nat.le_of_ble_eq_true rfl)
def rm_X3_setSum : Room := { frames := 9, cells := 2, slots := 12, locals := 221 }
set_option maxRecDepth 100000 in
set_option maxHeartbeats 8000000 in
theorem K_X3_setSum (l : Launch) (hst : l.stackTraces = false) (D : va_G) (cI cZ : ClassId) (ad : Nat → Nat) (sz : Nat) (size rc : Int32) (g fs st ln su rr cr : Nat → Int32) (bc : Int32) (bl td fi fa : Nat → Int32) (tk gr : Int32) (se sr : Nat → Int32) (p1 : Int32) (p2 : Int32) (r : ((Int32 × (Nat → Int32)) ⊕ (Nat × (Nat → Int32)))) (hf : f_X3_setSum rc su p1 p2 = some r) : vx_Met l yX3_setSum wsX3_setSum rm_X3_setSum (PX D cI cZ sz [.ref (ad 16), .int p1, .int p2] (wG cI ad size rc g fs st ln su rr cr bc bl td fi fa tk gr se sr)) (QXI D cI cZ sz (wG cI ad size rc g fs st ln su rr cr bc bl td fi fa tk gr se sr) r (fun u => u.1) (fun u => wG cI ad size rc g fs st ln u.2 rr cr bc bl td fi fa tk gr se sr)) (QXX D sz (wG cI ad size rc g fs st ln su rr cr bc bl td fi fa tk gr se sr) r (fun u => u.1) (fun u => wG cI ad size rc g fs st ln u.2 rr cr bc bl td fi fa tk gr se sr)) 2 12 (va_A (wG cI ad size rc g fs st ln su rr cr bc bl td fi fa tk gr se sr) sz) := by
  refine mkx_i (cc := cX3_setSum) (maxL := 4) (lv0 := [(0, .ref (ad 16)), (1, .int p1), (2, .int p2)]) hst rfl (by decide) rfl (Nat.le_of_ble_eq_true rfl) rfl ?_
  intro p e s m args below meth c ls A Q H hx hb hml hown hts hK hXS hP hD hA hS hl hR hT hX
  have hinX3 : ∀ w ∈ wsX30, w ∈ wsX3_setSum := by decide +kernel
  rw [f_X3_setSum] at hf
  refine lv_aload_n hx hb dX3_setSum_0 rfl (lv_at hl 0 rfl) ?_
  refine lv_iload_n hx hb dX3_setSum_1 rfl (lv_at hl 1 rfl) ?_
  obtain ⟨x2, hy2, hf⟩ := Option.bind_eq_some_iff.mp hf
  refine clX_v (As := [.int p1]) (rest := []) (fun u => wG cI ad size rc g fs st ln su rr cr bc bl td fi fa tk gr se sr) (fun u => u) (fun u => wG cI ad size rc g fs st ln su rr cr bc bl td fi fa tk gr se sr) (fun u => wG cI ad size rc g fs st ln su rr cr bc bl td fi fa tk gr se sr) (fun u => wG cI ad size rc g fs st ln su rr cr bc bl td fi fa tk gr se sr) ⟨hx, hb, hml, hown, hts⟩ (K_X3_needRun l hst D cI cZ ad H.size size rc g fs st ln su rr cr bc bl td fi fa tk gr se sr p1 _ hy2) (cwV 1 hts gX3_setSum_X3_needRun rfl rfl rfl (by decide +kernel) ⟨Nat.le_of_ble_eq_true rfl, Nat.le_of_ble_eq_true rfl⟩) hK hXS hP hD hS hA hl.1 [0, 1, 2, 3, 4, 5, 6, 7, 8, 9, 10, 11, 12, 13, 14, 15, 16] (by decide) rfl (fun _ => rfl) (fun _ => rfl) (fun _ => rfl) (fun _ => rfl) 3 16 rfl rfl rfl rfl rfl (Nat.le_of_ble_eq_true rfl) dX3_setSum_2 ⟨Nat.le_of_ble_eq_true rfl, Nat.le_of_ble_eq_true rfl⟩ (fun z2 hz E ce q9 H locs hE hP hD hS hq hv hc => ?_) (fun y2 hz H locs hP hD hS => ?_)
  · rw [hz] at hf
    have hf := sm_r hf
    cases hf
    exact hX _ _ _ _ _ _ _ _ q9 ce E rfl hE hP hD hS hq hv hc (Nat.le_of_ble_eq_true rfl) (Nat.le_of_ble_eq_true rfl)
  · rw [hz] at hf
    have hf := sm_l hf
    refine lv_iload_n hx hb dX3_setSum_5 rfl (lv_at hl 2 rfl) ?_
    obtain ⟨k15, hk15, hf⟩ := jn_some hf
    have w15 : ∀ (_ : Unit), k15 () = some r → ∀ (H : Heap) (locs : List Loc) (ls : Array Slot), va_P D vwCl (wG cI ad size rc g fs st ln su rr cr bc bl td fi fa tk gr se sr) H → va_D A (wG cI ad size rc g fs st ln su rr cr bc bl td fi fa tk gr se sr) → va_S A s.heap H locs → lv_has ls 4 [] → W p l e rm_X3_setSum s m args below meth c H locs 1 6 Q (F0 m 15 ls []) := by
      intro _ hf H locs ls hP hD hS hl
      rw [hk15] at hf
      try dsimp only at hf
      cases hf
      exact hT _ _ _ _ _ _ _ _ 36 78 40 eA "a sum is 1 to 45, or 0 for none" rfl rfl (by decide +kernel) (by decide +kernel) hP hD hS hl.1 (hts (.classLink RX3 36 eA) (by decide +kernel)) (hts (.initialized eA) (by decide +kernel)) (fun w hw => hts w (List.mem_cons_of_mem _ (List.mem_append_left _ (List.mem_append_right _ hw)))) ng40 go40 dX3_setSum_15 dX3_setSum_18 dX3_setSum_19 dX3_setSum_21 dX3_setSum_24 (Nat.le_of_ble_eq_true rfl) (Nat.le_of_ble_eq_true rfl) (Nat.le_of_ble_eq_true rfl) (Nat.le_of_ble_eq_true rfl) (Nat.le_of_ble_eq_true rfl) (Nat.le_of_ble_eq_true rfl)
    refine lv_if_lt (tgt := 15) hx hb dX3_setSum_6 (by decide) (fun c_6 => ?_) (fun c_6 => ?_)
    · have hf := ite_t c_6 hf
      exact w15 () hf _ _ _ hP hD hS (lv_sub hl [] rfl)
    · have hf := ite_f c_6 hf
      refine lv_iload_n hx hb dX3_setSum_9 rfl (lv_at hl 2 rfl) ?_
      refine lv_bipush (v := 45) hx hb dX3_setSum_10 (by decide) ?_
      refine lv_icmp_le (tgt := 25) hx hb dX3_setSum_12 (by decide) (fun c_12 => ?_) (fun c_12 => ?_)
      · have hf := ite_t c_12 hf
        refine lv_aload_n hx hb dX3_setSum_25 rfl (lv_at hl 0 rfl) ?_
        refine va_get (D := D) (ci := 3) (v := .ref (ad 0)) (C := RX3) (T := TX3) (N := 3) hx hb hts hinX3 hown hK.1 hP 16 rfl rfl 0 (by decide) (hts (.fieldLink RX3 12 "Gridpuzzle" "board" "LGridpuzzle$Board;") (by decide +kernel)) (fun _ h9 => h9) rfl dX3_setSum_26 ?_
        refine lv_iload_n hx hb dX3_setSum_29 rfl (lv_at hl 1 rfl) ?_
        refine clV_i (As := [.int p1]) (rest := []) (wG cI ad size rc g fs st ln su rr cr bc bl td fi fa tk gr se sr) ⟨hx, hb, hml, hown, hts⟩ (K_X0_sumAt l D cI cZ ad H.size size rc g fs st ln su rr cr p1 _ rfl) (cwV 1 hts gX3_setSum_X0_sumAt rfl rfl rfl (by decide +kernel) ⟨Nat.le_of_ble_eq_true rfl, Nat.le_of_ble_eq_true rfl⟩) hK hP hD hS hA hl.1 [0, 1, 2, 3, 4, 5, 6, 7] (by decide) rfl rfl rfl 0 0 rfl rfl rfl rfl rfl (Nat.le_of_ble_eq_true rfl) dX3_setSum_30 ⟨Nat.le_of_ble_eq_true rfl, Nat.le_of_ble_eq_true rfl⟩ (fun H locs hP hD hS => ?_)
        refine lv_istore_n (lv' := [(3, .int (f_X0_sumAt su p1)), (0, .ref (ad 16)), (1, .int p1), (2, .int p2)]) hx hb dX3_setSum_33 rfl hl (by decide) rfl (fun ls hl => ?_)
        refine lv_aload_n hx hb dX3_setSum_34 rfl (lv_at hl 1 rfl) ?_
        refine va_get (D := D) (ci := 3) (v := .ref (ad 0)) (C := RX3) (T := TX3) (N := 3) hx hb hts hinX3 hown hK.1 hP 16 rfl rfl 0 (by decide) (hts (.fieldLink RX3 12 "Gridpuzzle" "board" "LGridpuzzle$Board;") (by decide +kernel)) (fun _ h9 => h9) rfl dX3_setSum_35 ?_
        refine lv_iload_n hx hb dX3_setSum_38 rfl (lv_at hl 2 rfl) ?_
        refine lv_iload_n hx hb dX3_setSum_39 rfl (lv_at hl 3 rfl) ?_
        refine clV_v (As := [.int p1, .int p2]) (rest := []) (wG cI ad size rc g fs st ln (f_X0_putSum su p1 p2) rr cr bc bl td fi fa tk gr se sr) ⟨hx, hb, hml, hown, hts⟩ (K_X0_putSum l D cI cZ ad H.size size rc g fs st ln su rr cr p1 p2 _ rfl) (cwV 2 hts gX3_setSum_X0_putSum rfl rfl rfl (by decide +kernel) ⟨Nat.le_of_ble_eq_true rfl, Nat.le_of_ble_eq_true rfl⟩) hK hP hD hS hA hl.1 [0, 1, 2, 3, 4, 5, 6, 7] (by decide) rfl rfl rfl 0 0 rfl rfl rfl rfl rfl (Nat.le_of_ble_eq_true rfl) dX3_setSum_40 ⟨Nat.le_of_ble_eq_true rfl, Nat.le_of_ble_eq_true rfl⟩ (fun H locs hP hD hS => ?_)
        refine lv_iload_n hx hb dX3_setSum_43 rfl (lv_at hl 0 rfl) ?_
        cases hf
        exact hR _ _ _ _ _ _ _ _ _ rfl rfl rfl hP hD hS (Nat.le_of_ble_eq_true rfl) (Nat.le_of_ble_eq_true rfl) dX3_setSum_44
      · have hf := ite_f c_12 hf
        exact w15 () hf _ _ _ hP hD hS (lv_sub hl [] rfl)
def rm_X3_press : Room := { frames := 8, cells := 1, slots := 6, locals := 200 }
set_option maxRecDepth 100000 in
set_option maxHeartbeats 8000000 in
theorem K_X3_press (l : Launch) (hst : l.stackTraces = false) (D : va_G) (cI cZ : ClassId) (ad : Nat → Nat) (sz : Nat) (N : Nat) (size rc : Int32) (g fs st ln su rr cr : Nat → Int32) (bc : Int32) (bl td fi fa : Nat → Int32) (tk gr : Int32) (se sr : Nat → Int32) (r : ((Int32 × (Nat → Int32) × (Nat → Int32)) ⊕ (Nat × (Nat → Int32) × (Nat → Int32)))) (hf : f_X3_press N size rc g fs st ln su = some r) : vx_Met l yX3_press wsX3_press rm_X3_press (PX D cI cZ sz [.ref (ad 16)] (wG cI ad size rc g fs st ln su rr cr bc bl td fi fa tk gr se sr)) (QXI D cI cZ sz (wG cI ad size rc g fs st ln su rr cr bc bl td fi fa tk gr se sr) r (fun u => u.1) (fun u => wG cI ad size rc u.2.1 fs st ln u.2.2 rr cr bc bl td fi fa tk gr se sr)) (QXX D sz (wG cI ad size rc g fs st ln su rr cr bc bl td fi fa tk gr se sr) r (fun u => u.1) (fun u => wG cI ad size rc u.2.1 fs st ln u.2.2 rr cr bc bl td fi fa tk gr se sr)) 1 6 (va_A (wG cI ad size rc g fs st ln su rr cr bc bl td fi fa tk gr se sr) sz) := by
  refine mkx_i (cc := cX3_press) (maxL := 1) (lv0 := [(0, .ref (ad 16))]) hst rfl (by decide) rfl (Nat.le_of_ble_eq_true rfl) rfl ?_
  intro p e s m args below meth c ls A Q H hx hb hml hown hts hK hXS hP hD hA hS hl hR hT hX
  have hinX3 : ∀ w ∈ wsX30, w ∈ wsX3_press := by decide +kernel
  rw [f_X3_press] at hf
  refine lv_aload_n hx hb dX3_press_0 rfl (lv_at hl 0 rfl) ?_
  refine va_get (D := D) (ci := 3) (v := .ref (ad 0)) (C := RX3) (T := TX3) (N := 3) hx hb hts hinX3 hown hK.1 hP 16 rfl rfl 0 (by decide) (hts (.fieldLink RX3 12 "Gridpuzzle" "board" "LGridpuzzle$Board;") (by decide +kernel)) (fun _ h9 => h9) rfl dX3_press_1 ?_
  obtain ⟨x4, hy4, hf⟩ := Option.bind_eq_some_iff.mp hf
  refine clV_i (As := []) (rest := []) (wG cI ad size rc g fs st ln su rr cr bc bl td fi fa tk gr se sr) ⟨hx, hb, hml, hown, hts⟩ (K_X0_isFilled l D cI cZ ad H.size N size rc g fs st ln su rr cr _ hy4) (cwV 0 hts gX3_press_X0_isFilled rfl rfl rfl (by decide +kernel) ⟨Nat.le_of_ble_eq_true rfl, Nat.le_of_ble_eq_true rfl⟩) hK hP hD hS hA hl.1 [0, 1, 2, 3, 4, 5, 6, 7] (by decide) rfl rfl rfl 0 0 rfl rfl rfl rfl rfl (Nat.le_of_ble_eq_true rfl) dX3_press_4 ⟨Nat.le_of_ble_eq_true rfl, Nat.le_of_ble_eq_true rfl⟩ (fun H locs hP hD hS => ?_)
  refine lv_if_ne (tgt := 20) hx hb dX3_press_7 (by decide) (fun c_7 => ?_) (fun c_7 => ?_)
  · have hf := ite_f c_7 hf
    refine lv_aload_n hx hb dX3_press_20 rfl (lv_at hl 0 rfl) ?_
    refine va_get (D := D) (ci := 3) (v := .ref (ad 0)) (C := RX3) (T := TX3) (N := 3) hx hb hts hinX3 hown hK.1 hP 16 rfl rfl 0 (by decide) (hts (.fieldLink RX3 12 "Gridpuzzle" "board" "LGridpuzzle$Board;") (by decide +kernel)) (fun _ h9 => h9) rfl dX3_press_21 ?_
    obtain ⟨x24, hy24, hf⟩ := Option.bind_eq_some_iff.mp hf
    refine clV_i (As := []) (rest := []) (wG cI ad size rc g fs st ln su rr cr bc bl td fi fa tk gr se sr) ⟨hx, hb, hml, hown, hts⟩ (K_X0_givesTwice l D cI cZ ad H.size N size rc g fs st ln su rr cr _ hy24) (cwV 0 hts gX3_press_X0_givesTwice rfl rfl rfl (by decide +kernel) ⟨Nat.le_of_ble_eq_true rfl, Nat.le_of_ble_eq_true rfl⟩) hK hP hD hS hA hl.1 [0, 1, 2, 3, 4, 5, 6, 7] (by decide) rfl rfl rfl 0 0 rfl rfl rfl rfl rfl (Nat.le_of_ble_eq_true rfl) dX3_press_24 ⟨Nat.le_of_ble_eq_true rfl, Nat.le_of_ble_eq_true rfl⟩ (fun H locs hP hD hS => ?_)
    refine lv_if_eq (tgt := 40) hx hb dX3_press_27 (by decide) (fun c_27 => ?_) (fun c_27 => ?_)
    · have hf := ite_t c_27 hf
      refine lv_aload_n hx hb dX3_press_40 rfl (lv_at hl 0 rfl) ?_
      refine va_get (D := D) (ci := 3) (v := .ref (ad 0)) (C := RX3) (T := TX3) (N := 3) hx hb hts hinX3 hown hK.1 hP 16 rfl rfl 0 (by decide) (hts (.fieldLink RX3 12 "Gridpuzzle" "board" "LGridpuzzle$Board;") (by decide +kernel)) (fun _ h9 => h9) rfl dX3_press_41 ?_
      obtain ⟨x44, hy44, hf⟩ := Option.bind_eq_some_iff.mp hf
      refine clV_v (As := []) (rest := []) (wG cI ad size rc x44.1 fs st ln x44.2 rr cr bc bl td fi fa tk gr se sr) ⟨hx, hb, hml, hown, hts⟩ (K_X0_sumAndEmpty l D cI cZ ad H.size N size rc g fs st ln su rr cr _ hy44) (cwV 0 hts gX3_press_X0_sumAndEmpty rfl rfl rfl (by decide +kernel) ⟨Nat.le_of_ble_eq_true rfl, Nat.le_of_ble_eq_true rfl⟩) hK hP hD hS hA hl.1 [0, 1, 2, 3, 4, 5, 6, 7] (by decide) rfl rfl rfl 0 0 rfl rfl rfl rfl rfl (Nat.le_of_ble_eq_true rfl) dX3_press_44 ⟨Nat.le_of_ble_eq_true rfl, Nat.le_of_ble_eq_true rfl⟩ (fun H locs hP hD hS => ?_)
      refine lv_aload_n hx hb dX3_press_47 rfl (lv_at hl 0 rfl) ?_
      refine va_get (D := D) (ci := 3) (v := .ref (ad 0)) (C := RX3) (T := TX3) (N := 3) hx hb hts hinX3 hown hK.1 hP 16 rfl rfl 0 (by decide) (hts (.fieldLink RX3 12 "Gridpuzzle" "board" "LGridpuzzle$Board;") (by decide +kernel)) (fun _ h9 => h9) rfl dX3_press_48 ?_
      refine clV_i (As := []) (rest := []) (wG cI ad size rc x44.1 fs st ln x44.2 rr cr bc bl td fi fa tk gr se sr) ⟨hx, hb, hml, hown, hts⟩ (K_X0_countRuns l D cI cZ ad H.size size rc x44.1 fs st ln x44.2 rr cr _ rfl) (cwV 0 hts gX3_press_X0_countRuns rfl rfl rfl (by decide +kernel) ⟨Nat.le_of_ble_eq_true rfl, Nat.le_of_ble_eq_true rfl⟩) hK hP hD hS hA hl.1 [0, 1, 2, 3, 4, 5, 6, 7] (by decide) rfl rfl rfl 0 0 rfl rfl rfl rfl rfl (Nat.le_of_ble_eq_true rfl) dX3_press_51 ⟨Nat.le_of_ble_eq_true rfl, Nat.le_of_ble_eq_true rfl⟩ (fun H locs hP hD hS => ?_)
      cases hf
      exact hR _ _ _ _ _ _ _ _ _ rfl rfl rfl hP hD hS (Nat.le_of_ble_eq_true rfl) (Nat.le_of_ble_eq_true rfl) dX3_press_54
    · have hf := ite_f c_27 hf
      cases hf
      exact hT _ _ _ _ _ _ _ _ 63 95 67 eS "a digit occurs twice in a run" rfl rfl (by decide +kernel) (by decide +kernel) hP hD hS hl.1 (hts (.classLink RX3 63 eS) (by decide +kernel)) (hts (.initialized eS) (by decide +kernel)) (fun w hw => hts w (List.mem_cons_of_mem _ (List.mem_append_right _ hw))) ng67 go67 dX3_press_30 dX3_press_33 dX3_press_34 dX3_press_36 dX3_press_39 (Nat.le_of_ble_eq_true rfl) (Nat.le_of_ble_eq_true rfl) (Nat.le_of_ble_eq_true rfl) (Nat.le_of_ble_eq_true rfl) (Nat.le_of_ble_eq_true rfl) (Nat.le_of_ble_eq_true rfl)
  · have hf := ite_t c_7 hf
    cases hf
    exact hT _ _ _ _ _ _ _ _ 63 90 67 eS "an open cell has no digit" rfl rfl (by decide +kernel) (by decide +kernel) hP hD hS hl.1 (hts (.classLink RX3 63 eS) (by decide +kernel)) (hts (.initialized eS) (by decide +kernel)) (fun w hw => hts w (List.mem_cons_of_mem _ (List.mem_append_right _ hw))) ng67 go67 dX3_press_10 dX3_press_13 dX3_press_14 dX3_press_16 dX3_press_19 (Nat.le_of_ble_eq_true rfl) (Nat.le_of_ble_eq_true rfl) (Nat.le_of_ble_eq_true rfl) (Nat.le_of_ble_eq_true rfl) (Nat.le_of_ble_eq_true rfl) (Nat.le_of_ble_eq_true rfl)
def rm_X3_open : Room := { frames := 3, cells := 0, slots := 0, locals := 64 }
set_option maxRecDepth 100000 in
set_option maxHeartbeats 8000000 in
theorem K_X3_open (l : Launch) (D : va_G) (cI cZ : ClassId) (ad : Nat → Nat) (sz : Nat) (N : Nat) (size rc : Int32) (g fs st ln su rr cr : Nat → Int32) (bc : Int32) (bl td fi fa : Nat → Int32) (tk gr : Int32) (se sr : Nat → Int32) (r : (Int32)) (hf : f_X3_open N size g = some r) : Met l yX3_open wsX3_open rm_X3_open (PC D cI cZ sz [.ref (ad 16)] (wG cI ad size rc g fs st ln su rr cr bc bl td fi fa tk gr se sr)) (QI D cI cZ sz (wG cI ad size rc g fs st ln su rr cr bc bl td fi fa tk gr se sr) r (wG cI ad size rc g fs st ln su rr cr bc bl td fi fa tk gr se sr)) 0 0 (va_A (wG cI ad size rc g fs st ln su rr cr bc bl td fi fa tk gr se sr) sz) := by
  refine mk_i (cc := cX3_open) (maxL := 1) (lv0 := [(0, .ref (ad 16))]) (by decide) rfl (Nat.le_of_ble_eq_true rfl) rfl ?_
  intro p e s m args below meth c ls A Q H hx hb hml hown hts hK hP hD hA hS hl hR
  have hinX3 : ∀ w ∈ wsX30, w ∈ wsX3_open := by decide +kernel
  rw [f_X3_open] at hf
  refine lv_aload_n hx hb dX3_open_0 rfl (lv_at hl 0 rfl) ?_
  refine va_get (D := D) (ci := 3) (v := .ref (ad 0)) (C := RX3) (T := TX3) (N := 3) hx hb hts hinX3 hown hK.1 hP 16 rfl rfl 0 (by decide) (hts (.fieldLink RX3 12 "Gridpuzzle" "board" "LGridpuzzle$Board;") (by decide +kernel)) (fun _ h9 => h9) rfl dX3_open_1 ?_
  obtain ⟨x4, hy4, hf⟩ := Option.bind_eq_some_iff.mp hf
  refine clV_i (As := []) (rest := []) (wG cI ad size rc g fs st ln su rr cr bc bl td fi fa tk gr se sr) ⟨hx, hb, hml, hown, hts⟩ (K_X0_countOpen l D cI cZ ad H.size N size rc g fs st ln su rr cr _ hy4) (cwV 0 hts gX3_open_X0_countOpen rfl rfl rfl (by decide +kernel) ⟨Nat.le_of_ble_eq_true rfl, Nat.le_of_ble_eq_true rfl⟩) hK hP hD hS hA hl.1 [0, 1, 2, 3, 4, 5, 6, 7] (by decide) rfl rfl rfl 0 0 rfl rfl rfl rfl rfl (Nat.le_of_ble_eq_true rfl) dX3_open_4 ⟨Nat.le_of_ble_eq_true rfl, Nat.le_of_ble_eq_true rfl⟩ (fun H locs hP hD hS => ?_)
  cases hf
  exact hR _ _ _ _ _ _ rfl rfl hP hD hS dX3_open_7
def rm_X3_runs : Room := { frames := 1, cells := 0, slots := 0, locals := 20 }
set_option maxRecDepth 100000 in
set_option maxHeartbeats 8000000 in
theorem K_X3_runs (l : Launch) (D : va_G) (cI cZ : ClassId) (ad : Nat → Nat) (sz : Nat) (size rc : Int32) (g fs st ln su rr cr : Nat → Int32) (bc : Int32) (bl td fi fa : Nat → Int32) (tk gr : Int32) (se sr : Nat → Int32) (r : (Int32)) (hf : f_X3_runs rc = r) : Met l yX3_runs wsX3_runs rm_X3_runs (PC D cI cZ sz [.ref (ad 16)] (wG cI ad size rc g fs st ln su rr cr bc bl td fi fa tk gr se sr)) (QI D cI cZ sz (wG cI ad size rc g fs st ln su rr cr bc bl td fi fa tk gr se sr) r (wG cI ad size rc g fs st ln su rr cr bc bl td fi fa tk gr se sr)) 0 0 (va_A (wG cI ad size rc g fs st ln su rr cr bc bl td fi fa tk gr se sr) sz) := by
  refine mk_i (cc := cX3_runs) (maxL := 1) (lv0 := [(0, .ref (ad 16))]) (by decide) rfl (Nat.le_of_ble_eq_true rfl) rfl ?_
  intro p e s m args below meth c ls A Q H hx hb hml hown hts hK hP hD hA hS hl hR
  have hinX3 : ∀ w ∈ wsX30, w ∈ wsX3_runs := by decide +kernel
  rw [f_X3_runs] at hf
  refine lv_aload_n hx hb dX3_runs_0 rfl (lv_at hl 0 rfl) ?_
  refine va_get (D := D) (ci := 3) (v := .ref (ad 0)) (C := RX3) (T := TX3) (N := 3) hx hb hts hinX3 hown hK.1 hP 16 rfl rfl 0 (by decide) (hts (.fieldLink RX3 12 "Gridpuzzle" "board" "LGridpuzzle$Board;") (by decide +kernel)) (fun _ h9 => h9) rfl dX3_runs_1 ?_
  refine clV_i (As := []) (rest := []) (wG cI ad size rc g fs st ln su rr cr bc bl td fi fa tk gr se sr) ⟨hx, hb, hml, hown, hts⟩ (K_X0_countRuns l D cI cZ ad H.size size rc g fs st ln su rr cr _ rfl) (cwV 0 hts gX3_runs_X0_countRuns rfl rfl rfl (by decide +kernel) ⟨Nat.le_of_ble_eq_true rfl, Nat.le_of_ble_eq_true rfl⟩) hK hP hD hS hA hl.1 [0, 1, 2, 3, 4, 5, 6, 7] (by decide) rfl rfl rfl 0 0 rfl rfl rfl rfl rfl (Nat.le_of_ble_eq_true rfl) dX3_runs_4 ⟨Nat.le_of_ble_eq_true rfl, Nat.le_of_ble_eq_true rfl⟩ (fun H locs hP hD hS => ?_)
  cases hf
  exact hR _ _ _ _ _ _ rfl rfl hP hD hS dX3_runs_7
def rm_X3_firstOf : Room := { frames := 9, cells := 1, slots := 6, locals := 221 }
set_option maxRecDepth 100000 in
set_option maxHeartbeats 8000000 in
theorem K_X3_firstOf (l : Launch) (hst : l.stackTraces = false) (D : va_G) (cI cZ : ClassId) (ad : Nat → Nat) (sz : Nat) (size rc : Int32) (g fs st ln su rr cr : Nat → Int32) (bc : Int32) (bl td fi fa : Nat → Int32) (tk gr : Int32) (se sr : Nat → Int32) (p1 : Int32) (r : ((Int32) ⊕ (Nat))) (hf : f_X3_firstOf rc fs p1 = some r) : vx_Met l yX3_firstOf wsX3_firstOf rm_X3_firstOf (PX D cI cZ sz [.ref (ad 16), .int p1] (wG cI ad size rc g fs st ln su rr cr bc bl td fi fa tk gr se sr)) (QXI D cI cZ sz (wG cI ad size rc g fs st ln su rr cr bc bl td fi fa tk gr se sr) r (fun u => u) (fun u => wG cI ad size rc g fs st ln su rr cr bc bl td fi fa tk gr se sr)) (QXX D sz (wG cI ad size rc g fs st ln su rr cr bc bl td fi fa tk gr se sr) r (fun u => u) (fun u => wG cI ad size rc g fs st ln su rr cr bc bl td fi fa tk gr se sr)) 1 6 (va_A (wG cI ad size rc g fs st ln su rr cr bc bl td fi fa tk gr se sr) sz) := by
  refine mkx_i (cc := cX3_firstOf) (maxL := 2) (lv0 := [(0, .ref (ad 16)), (1, .int p1)]) hst rfl (by decide) rfl (Nat.le_of_ble_eq_true rfl) rfl ?_
  intro p e s m args below meth c ls A Q H hx hb hml hown hts hK hXS hP hD hA hS hl hR hT hX
  have hinX3 : ∀ w ∈ wsX30, w ∈ wsX3_firstOf := by decide +kernel
  rw [f_X3_firstOf] at hf
  refine lv_aload_n hx hb dX3_firstOf_0 rfl (lv_at hl 0 rfl) ?_
  refine lv_iload_n hx hb dX3_firstOf_1 rfl (lv_at hl 1 rfl) ?_
  obtain ⟨x2, hy2, hf⟩ := Option.bind_eq_some_iff.mp hf
  refine clX_v (As := [.int p1]) (rest := []) (fun u => wG cI ad size rc g fs st ln su rr cr bc bl td fi fa tk gr se sr) (fun u => u) (fun u => wG cI ad size rc g fs st ln su rr cr bc bl td fi fa tk gr se sr) (fun u => wG cI ad size rc g fs st ln su rr cr bc bl td fi fa tk gr se sr) (fun u => wG cI ad size rc g fs st ln su rr cr bc bl td fi fa tk gr se sr) ⟨hx, hb, hml, hown, hts⟩ (K_X3_needRun l hst D cI cZ ad H.size size rc g fs st ln su rr cr bc bl td fi fa tk gr se sr p1 _ hy2) (cwV 1 hts gX3_firstOf_X3_needRun rfl rfl rfl (by decide +kernel) ⟨Nat.le_of_ble_eq_true rfl, Nat.le_of_ble_eq_true rfl⟩) hK hXS hP hD hS hA hl.1 [0, 1, 2, 3, 4, 5, 6, 7, 8, 9, 10, 11, 12, 13, 14, 15, 16] (by decide) rfl (fun _ => rfl) (fun _ => rfl) (fun _ => rfl) (fun _ => rfl) 3 16 rfl rfl rfl rfl rfl (Nat.le_of_ble_eq_true rfl) dX3_firstOf_2 ⟨Nat.le_of_ble_eq_true rfl, Nat.le_of_ble_eq_true rfl⟩ (fun z2 hz E ce q9 H locs hE hP hD hS hq hv hc => ?_) (fun y2 hz H locs hP hD hS => ?_)
  · rw [hz] at hf
    have hf := sm_r hf
    cases hf
    exact hX _ _ _ _ _ _ _ _ q9 ce E rfl hE hP hD hS hq hv hc (Nat.le_of_ble_eq_true rfl) (Nat.le_of_ble_eq_true rfl)
  · rw [hz] at hf
    have hf := sm_l hf
    refine lv_aload_n hx hb dX3_firstOf_5 rfl (lv_at hl 0 rfl) ?_
    refine va_get (D := D) (ci := 3) (v := .ref (ad 0)) (C := RX3) (T := TX3) (N := 3) hx hb hts hinX3 hown hK.1 hP 16 rfl rfl 0 (by decide) (hts (.fieldLink RX3 12 "Gridpuzzle" "board" "LGridpuzzle$Board;") (by decide +kernel)) (fun _ h9 => h9) rfl dX3_firstOf_6 ?_
    refine lv_iload_n hx hb dX3_firstOf_9 rfl (lv_at hl 1 rfl) ?_
    refine clV_i (As := [.int p1]) (rest := []) (wG cI ad size rc g fs st ln su rr cr bc bl td fi fa tk gr se sr) ⟨hx, hb, hml, hown, hts⟩ (K_X0_firstAt l D cI cZ ad H.size size rc g fs st ln su rr cr p1 _ rfl) (cwV 1 hts gX3_firstOf_X0_firstAt rfl rfl rfl (by decide +kernel) ⟨Nat.le_of_ble_eq_true rfl, Nat.le_of_ble_eq_true rfl⟩) hK hP hD hS hA hl.1 [0, 1, 2, 3, 4, 5, 6, 7] (by decide) rfl rfl rfl 0 0 rfl rfl rfl rfl rfl (Nat.le_of_ble_eq_true rfl) dX3_firstOf_10 ⟨Nat.le_of_ble_eq_true rfl, Nat.le_of_ble_eq_true rfl⟩ (fun H locs hP hD hS => ?_)
    cases hf
    exact hR _ _ _ _ _ _ _ _ _ rfl rfl rfl hP hD hS (Nat.le_of_ble_eq_true rfl) (Nat.le_of_ble_eq_true rfl) dX3_firstOf_13
def rm_X3_lengthOf : Room := { frames := 9, cells := 1, slots := 6, locals := 221 }
set_option maxRecDepth 100000 in
set_option maxHeartbeats 8000000 in
theorem K_X3_lengthOf (l : Launch) (hst : l.stackTraces = false) (D : va_G) (cI cZ : ClassId) (ad : Nat → Nat) (sz : Nat) (size rc : Int32) (g fs st ln su rr cr : Nat → Int32) (bc : Int32) (bl td fi fa : Nat → Int32) (tk gr : Int32) (se sr : Nat → Int32) (p1 : Int32) (r : ((Int32) ⊕ (Nat))) (hf : f_X3_lengthOf rc ln p1 = some r) : vx_Met l yX3_lengthOf wsX3_lengthOf rm_X3_lengthOf (PX D cI cZ sz [.ref (ad 16), .int p1] (wG cI ad size rc g fs st ln su rr cr bc bl td fi fa tk gr se sr)) (QXI D cI cZ sz (wG cI ad size rc g fs st ln su rr cr bc bl td fi fa tk gr se sr) r (fun u => u) (fun u => wG cI ad size rc g fs st ln su rr cr bc bl td fi fa tk gr se sr)) (QXX D sz (wG cI ad size rc g fs st ln su rr cr bc bl td fi fa tk gr se sr) r (fun u => u) (fun u => wG cI ad size rc g fs st ln su rr cr bc bl td fi fa tk gr se sr)) 1 6 (va_A (wG cI ad size rc g fs st ln su rr cr bc bl td fi fa tk gr se sr) sz) := by
  refine mkx_i (cc := cX3_lengthOf) (maxL := 2) (lv0 := [(0, .ref (ad 16)), (1, .int p1)]) hst rfl (by decide) rfl (Nat.le_of_ble_eq_true rfl) rfl ?_
  intro p e s m args below meth c ls A Q H hx hb hml hown hts hK hXS hP hD hA hS hl hR hT hX
  have hinX3 : ∀ w ∈ wsX30, w ∈ wsX3_lengthOf := by decide +kernel
  rw [f_X3_lengthOf] at hf
  refine lv_aload_n hx hb dX3_lengthOf_0 rfl (lv_at hl 0 rfl) ?_
  refine lv_iload_n hx hb dX3_lengthOf_1 rfl (lv_at hl 1 rfl) ?_
  obtain ⟨x2, hy2, hf⟩ := Option.bind_eq_some_iff.mp hf
  refine clX_v (As := [.int p1]) (rest := []) (fun u => wG cI ad size rc g fs st ln su rr cr bc bl td fi fa tk gr se sr) (fun u => u) (fun u => wG cI ad size rc g fs st ln su rr cr bc bl td fi fa tk gr se sr) (fun u => wG cI ad size rc g fs st ln su rr cr bc bl td fi fa tk gr se sr) (fun u => wG cI ad size rc g fs st ln su rr cr bc bl td fi fa tk gr se sr) ⟨hx, hb, hml, hown, hts⟩ (K_X3_needRun l hst D cI cZ ad H.size size rc g fs st ln su rr cr bc bl td fi fa tk gr se sr p1 _ hy2) (cwV 1 hts gX3_lengthOf_X3_needRun rfl rfl rfl (by decide +kernel) ⟨Nat.le_of_ble_eq_true rfl, Nat.le_of_ble_eq_true rfl⟩) hK hXS hP hD hS hA hl.1 [0, 1, 2, 3, 4, 5, 6, 7, 8, 9, 10, 11, 12, 13, 14, 15, 16] (by decide) rfl (fun _ => rfl) (fun _ => rfl) (fun _ => rfl) (fun _ => rfl) 3 16 rfl rfl rfl rfl rfl (Nat.le_of_ble_eq_true rfl) dX3_lengthOf_2 ⟨Nat.le_of_ble_eq_true rfl, Nat.le_of_ble_eq_true rfl⟩ (fun z2 hz E ce q9 H locs hE hP hD hS hq hv hc => ?_) (fun y2 hz H locs hP hD hS => ?_)
  · rw [hz] at hf
    have hf := sm_r hf
    cases hf
    exact hX _ _ _ _ _ _ _ _ q9 ce E rfl hE hP hD hS hq hv hc (Nat.le_of_ble_eq_true rfl) (Nat.le_of_ble_eq_true rfl)
  · rw [hz] at hf
    have hf := sm_l hf
    refine lv_aload_n hx hb dX3_lengthOf_5 rfl (lv_at hl 0 rfl) ?_
    refine va_get (D := D) (ci := 3) (v := .ref (ad 0)) (C := RX3) (T := TX3) (N := 3) hx hb hts hinX3 hown hK.1 hP 16 rfl rfl 0 (by decide) (hts (.fieldLink RX3 12 "Gridpuzzle" "board" "LGridpuzzle$Board;") (by decide +kernel)) (fun _ h9 => h9) rfl dX3_lengthOf_6 ?_
    refine lv_iload_n hx hb dX3_lengthOf_9 rfl (lv_at hl 1 rfl) ?_
    refine clV_i (As := [.int p1]) (rest := []) (wG cI ad size rc g fs st ln su rr cr bc bl td fi fa tk gr se sr) ⟨hx, hb, hml, hown, hts⟩ (K_X0_lengthAt l D cI cZ ad H.size size rc g fs st ln su rr cr p1 _ rfl) (cwV 1 hts gX3_lengthOf_X0_lengthAt rfl rfl rfl (by decide +kernel) ⟨Nat.le_of_ble_eq_true rfl, Nat.le_of_ble_eq_true rfl⟩) hK hP hD hS hA hl.1 [0, 1, 2, 3, 4, 5, 6, 7] (by decide) rfl rfl rfl 0 0 rfl rfl rfl rfl rfl (Nat.le_of_ble_eq_true rfl) dX3_lengthOf_10 ⟨Nat.le_of_ble_eq_true rfl, Nat.le_of_ble_eq_true rfl⟩ (fun H locs hP hD hS => ?_)
    cases hf
    exact hR _ _ _ _ _ _ _ _ _ rfl rfl rfl hP hD hS (Nat.le_of_ble_eq_true rfl) (Nat.le_of_ble_eq_true rfl) dX3_lengthOf_13
def rm_X3_sumOf : Room := { frames := 9, cells := 1, slots := 6, locals := 221 }
set_option maxRecDepth 100000 in
set_option maxHeartbeats 8000000 in
theorem K_X3_sumOf (l : Launch) (hst : l.stackTraces = false) (D : va_G) (cI cZ : ClassId) (ad : Nat → Nat) (sz : Nat) (size rc : Int32) (g fs st ln su rr cr : Nat → Int32) (bc : Int32) (bl td fi fa : Nat → Int32) (tk gr : Int32) (se sr : Nat → Int32) (p1 : Int32) (r : ((Int32) ⊕ (Nat))) (hf : f_X3_sumOf rc su p1 = some r) : vx_Met l yX3_sumOf wsX3_sumOf rm_X3_sumOf (PX D cI cZ sz [.ref (ad 16), .int p1] (wG cI ad size rc g fs st ln su rr cr bc bl td fi fa tk gr se sr)) (QXI D cI cZ sz (wG cI ad size rc g fs st ln su rr cr bc bl td fi fa tk gr se sr) r (fun u => u) (fun u => wG cI ad size rc g fs st ln su rr cr bc bl td fi fa tk gr se sr)) (QXX D sz (wG cI ad size rc g fs st ln su rr cr bc bl td fi fa tk gr se sr) r (fun u => u) (fun u => wG cI ad size rc g fs st ln su rr cr bc bl td fi fa tk gr se sr)) 1 6 (va_A (wG cI ad size rc g fs st ln su rr cr bc bl td fi fa tk gr se sr) sz) := by
  refine mkx_i (cc := cX3_sumOf) (maxL := 2) (lv0 := [(0, .ref (ad 16)), (1, .int p1)]) hst rfl (by decide) rfl (Nat.le_of_ble_eq_true rfl) rfl ?_
  intro p e s m args below meth c ls A Q H hx hb hml hown hts hK hXS hP hD hA hS hl hR hT hX
  have hinX3 : ∀ w ∈ wsX30, w ∈ wsX3_sumOf := by decide +kernel
  rw [f_X3_sumOf] at hf
  refine lv_aload_n hx hb dX3_sumOf_0 rfl (lv_at hl 0 rfl) ?_
  refine lv_iload_n hx hb dX3_sumOf_1 rfl (lv_at hl 1 rfl) ?_
  obtain ⟨x2, hy2, hf⟩ := Option.bind_eq_some_iff.mp hf
  refine clX_v (As := [.int p1]) (rest := []) (fun u => wG cI ad size rc g fs st ln su rr cr bc bl td fi fa tk gr se sr) (fun u => u) (fun u => wG cI ad size rc g fs st ln su rr cr bc bl td fi fa tk gr se sr) (fun u => wG cI ad size rc g fs st ln su rr cr bc bl td fi fa tk gr se sr) (fun u => wG cI ad size rc g fs st ln su rr cr bc bl td fi fa tk gr se sr) ⟨hx, hb, hml, hown, hts⟩ (K_X3_needRun l hst D cI cZ ad H.size size rc g fs st ln su rr cr bc bl td fi fa tk gr se sr p1 _ hy2) (cwV 1 hts gX3_sumOf_X3_needRun rfl rfl rfl (by decide +kernel) ⟨Nat.le_of_ble_eq_true rfl, Nat.le_of_ble_eq_true rfl⟩) hK hXS hP hD hS hA hl.1 [0, 1, 2, 3, 4, 5, 6, 7, 8, 9, 10, 11, 12, 13, 14, 15, 16] (by decide) rfl (fun _ => rfl) (fun _ => rfl) (fun _ => rfl) (fun _ => rfl) 3 16 rfl rfl rfl rfl rfl (Nat.le_of_ble_eq_true rfl) dX3_sumOf_2 ⟨Nat.le_of_ble_eq_true rfl, Nat.le_of_ble_eq_true rfl⟩ (fun z2 hz E ce q9 H locs hE hP hD hS hq hv hc => ?_) (fun y2 hz H locs hP hD hS => ?_)
  · rw [hz] at hf
    have hf := sm_r hf
    cases hf
    exact hX _ _ _ _ _ _ _ _ q9 ce E rfl hE hP hD hS hq hv hc (Nat.le_of_ble_eq_true rfl) (Nat.le_of_ble_eq_true rfl)
  · rw [hz] at hf
    have hf := sm_l hf
    refine lv_aload_n hx hb dX3_sumOf_5 rfl (lv_at hl 0 rfl) ?_
    refine va_get (D := D) (ci := 3) (v := .ref (ad 0)) (C := RX3) (T := TX3) (N := 3) hx hb hts hinX3 hown hK.1 hP 16 rfl rfl 0 (by decide) (hts (.fieldLink RX3 12 "Gridpuzzle" "board" "LGridpuzzle$Board;") (by decide +kernel)) (fun _ h9 => h9) rfl dX3_sumOf_6 ?_
    refine lv_iload_n hx hb dX3_sumOf_9 rfl (lv_at hl 1 rfl) ?_
    refine clV_i (As := [.int p1]) (rest := []) (wG cI ad size rc g fs st ln su rr cr bc bl td fi fa tk gr se sr) ⟨hx, hb, hml, hown, hts⟩ (K_X0_sumAt l D cI cZ ad H.size size rc g fs st ln su rr cr p1 _ rfl) (cwV 1 hts gX3_sumOf_X0_sumAt rfl rfl rfl (by decide +kernel) ⟨Nat.le_of_ble_eq_true rfl, Nat.le_of_ble_eq_true rfl⟩) hK hP hD hS hA hl.1 [0, 1, 2, 3, 4, 5, 6, 7] (by decide) rfl rfl rfl 0 0 rfl rfl rfl rfl rfl (Nat.le_of_ble_eq_true rfl) dX3_sumOf_10 ⟨Nat.le_of_ble_eq_true rfl, Nat.le_of_ble_eq_true rfl⟩ (fun H locs hP hD hS => ?_)
    cases hf
    exact hR _ _ _ _ _ _ _ _ _ rfl rfl rfl hP hD hS (Nat.le_of_ble_eq_true rfl) (Nat.le_of_ble_eq_true rfl) dX3_sumOf_13
def rm_X3_digit : Room := { frames := 9, cells := 1, slots := 6, locals := 221 }
set_option maxRecDepth 100000 in
set_option maxHeartbeats 8000000 in
theorem K_X3_digit (l : Launch) (hst : l.stackTraces = false) (D : va_G) (cI cZ : ClassId) (ad : Nat → Nat) (sz : Nat) (size rc : Int32) (g fs st ln su rr cr : Nat → Int32) (bc : Int32) (bl td fi fa : Nat → Int32) (tk gr : Int32) (se sr : Nat → Int32) (p1 : Int32) (r : ((Int32) ⊕ (Nat))) (hf : f_X3_digit size g p1 = some r) : vx_Met l yX3_digit wsX3_digit rm_X3_digit (PX D cI cZ sz [.ref (ad 16), .int p1] (wG cI ad size rc g fs st ln su rr cr bc bl td fi fa tk gr se sr)) (QXI D cI cZ sz (wG cI ad size rc g fs st ln su rr cr bc bl td fi fa tk gr se sr) r (fun u => u) (fun u => wG cI ad size rc g fs st ln su rr cr bc bl td fi fa tk gr se sr)) (QXX D sz (wG cI ad size rc g fs st ln su rr cr bc bl td fi fa tk gr se sr) r (fun u => u) (fun u => wG cI ad size rc g fs st ln su rr cr bc bl td fi fa tk gr se sr)) 1 6 (va_A (wG cI ad size rc g fs st ln su rr cr bc bl td fi fa tk gr se sr) sz) := by
  refine mkx_i (cc := cX3_digit) (maxL := 2) (lv0 := [(0, .ref (ad 16)), (1, .int p1)]) hst rfl (by decide) rfl (Nat.le_of_ble_eq_true rfl) rfl ?_
  intro p e s m args below meth c ls A Q H hx hb hml hown hts hK hXS hP hD hA hS hl hR hT hX
  have hinX3 : ∀ w ∈ wsX30, w ∈ wsX3_digit := by decide +kernel
  rw [f_X3_digit] at hf
  refine lv_aload_n hx hb dX3_digit_0 rfl (lv_at hl 0 rfl) ?_
  refine lv_iload_n hx hb dX3_digit_1 rfl (lv_at hl 1 rfl) ?_
  obtain ⟨x2, hy2, hf⟩ := Option.bind_eq_some_iff.mp hf
  refine clX_v (As := [.int p1]) (rest := []) (fun u => wG cI ad size rc g fs st ln su rr cr bc bl td fi fa tk gr se sr) (fun u => u) (fun u => wG cI ad size rc g fs st ln su rr cr bc bl td fi fa tk gr se sr) (fun u => wG cI ad size rc g fs st ln su rr cr bc bl td fi fa tk gr se sr) (fun u => wG cI ad size rc g fs st ln su rr cr bc bl td fi fa tk gr se sr) ⟨hx, hb, hml, hown, hts⟩ (K_X3_needCell l hst D cI cZ ad H.size size rc g fs st ln su rr cr bc bl td fi fa tk gr se sr p1 _ hy2) (cwV 1 hts gX3_digit_X3_needCell rfl rfl rfl (by decide +kernel) ⟨Nat.le_of_ble_eq_true rfl, Nat.le_of_ble_eq_true rfl⟩) hK hXS hP hD hS hA hl.1 [0, 1, 2, 3, 4, 5, 6, 7, 8, 9, 10, 11, 12, 13, 14, 15, 16] (by decide) rfl (fun _ => rfl) (fun _ => rfl) (fun _ => rfl) (fun _ => rfl) 3 16 rfl rfl rfl rfl rfl (Nat.le_of_ble_eq_true rfl) dX3_digit_2 ⟨Nat.le_of_ble_eq_true rfl, Nat.le_of_ble_eq_true rfl⟩ (fun z2 hz E ce q9 H locs hE hP hD hS hq hv hc => ?_) (fun y2 hz H locs hP hD hS => ?_)
  · rw [hz] at hf
    have hf := sm_r hf
    cases hf
    exact hX _ _ _ _ _ _ _ _ q9 ce E rfl hE hP hD hS hq hv hc (Nat.le_of_ble_eq_true rfl) (Nat.le_of_ble_eq_true rfl)
  · rw [hz] at hf
    have hf := sm_l hf
    refine lv_aload_n hx hb dX3_digit_5 rfl (lv_at hl 0 rfl) ?_
    refine va_get (D := D) (ci := 3) (v := .ref (ad 0)) (C := RX3) (T := TX3) (N := 3) hx hb hts hinX3 hown hK.1 hP 16 rfl rfl 0 (by decide) (hts (.fieldLink RX3 12 "Gridpuzzle" "board" "LGridpuzzle$Board;") (by decide +kernel)) (fun _ h9 => h9) rfl dX3_digit_6 ?_
    refine lv_iload_n hx hb dX3_digit_9 rfl (lv_at hl 1 rfl) ?_
    refine clV_i (As := [.int p1]) (rest := []) (wG cI ad size rc g fs st ln su rr cr bc bl td fi fa tk gr se sr) ⟨hx, hb, hml, hown, hts⟩ (K_X0_givenAt l D cI cZ ad H.size size rc g fs st ln su rr cr p1 _ rfl) (cwV 1 hts gX3_digit_X0_givenAt rfl rfl rfl (by decide +kernel) ⟨Nat.le_of_ble_eq_true rfl, Nat.le_of_ble_eq_true rfl⟩) hK hP hD hS hA hl.1 [0, 1, 2, 3, 4, 5, 6, 7] (by decide) rfl rfl rfl 0 0 rfl rfl rfl rfl rfl (Nat.le_of_ble_eq_true rfl) dX3_digit_10 ⟨Nat.le_of_ble_eq_true rfl, Nat.le_of_ble_eq_true rfl⟩ (fun H locs hP hD hS => ?_)
    cases hf
    exact hR _ _ _ _ _ _ _ _ _ rfl rfl rfl hP hD hS (Nat.le_of_ble_eq_true rfl) (Nat.le_of_ble_eq_true rfl) dX3_digit_13
def rm_X3_answers : Room := { frames := 8, cells := 1, slots := 6, locals := 200 }
set_option maxRecDepth 100000 in
set_option maxHeartbeats 8000000 in
theorem K_X3_answers (l : Launch) (hst : l.stackTraces = false) (D : va_G) (cI cZ : ClassId) (ad : Nat → Nat) (sz : Nat) (N : Nat) (size rc : Int32) (g fs st ln su rr cr : Nat → Int32) (bc : Int32) (bl td fi fa : Nat → Int32) (tk gr : Int32) (se sr : Nat → Int32) (p1 : Int32) (r : ((Int32 × Int32 × (Nat → Int32) × (Nat → Int32) × (Nat → Int32) × (Nat → Int32)) ⊕ (Nat × Int32 × (Nat → Int32) × (Nat → Int32) × (Nat → Int32) × (Nat → Int32)))) (hf : f_X3_answers N size rc g fs st ln su rr cr bc bl td fi fa p1 = some r) : vx_Met l yX3_answers wsX3_answers rm_X3_answers (PX D cI cZ sz [.ref (ad 16), .int p1] (wG cI ad size rc g fs st ln su rr cr bc bl td fi fa tk gr se sr)) (QXI D cI cZ sz (wG cI ad size rc g fs st ln su rr cr bc bl td fi fa tk gr se sr) r (fun u => u.1) (fun u => wG cI ad size rc g fs st ln su rr cr u.2.1 u.2.2.1 u.2.2.2.1 u.2.2.2.2.1 u.2.2.2.2.2 tk gr se sr)) (QXX D sz (wG cI ad size rc g fs st ln su rr cr bc bl td fi fa tk gr se sr) r (fun u => u.1) (fun u => wG cI ad size rc g fs st ln su rr cr u.2.1 u.2.2.1 u.2.2.2.1 u.2.2.2.2.1 u.2.2.2.2.2 tk gr se sr)) 1 6 (va_A (wG cI ad size rc g fs st ln su rr cr bc bl td fi fa tk gr se sr) sz) := by
  refine mkx_i (cc := cX3_answers) (maxL := 2) (lv0 := [(0, .ref (ad 16)), (1, .int p1)]) hst rfl (by decide) rfl (Nat.le_of_ble_eq_true rfl) rfl ?_
  intro p e s m args below meth c ls A Q H hx hb hml hown hts hK hXS hP hD hA hS hl hR hT hX
  have hinX3 : ∀ w ∈ wsX30, w ∈ wsX3_answers := by decide +kernel
  rw [f_X3_answers] at hf
  refine lv_iload_n hx hb dX3_answers_0 rfl (lv_at hl 1 rfl) ?_
  refine lv_iconst (v := 1) hx hb dX3_answers_1 (by decide) ?_
  obtain ⟨k10, hk10, hf⟩ := jn_some hf
  have w10 : ∀ (_ : Unit), k10 () = some r → ∀ (H : Heap) (locs : List Loc) (ls : Array Slot), va_P D vwCl (wG cI ad size rc g fs st ln su rr cr bc bl td fi fa tk gr se sr) H → va_D A (wG cI ad size rc g fs st ln su rr cr bc bl td fi fa tk gr se sr) → va_S A s.heap H locs → lv_has ls 2 [] → W p l e rm_X3_answers s m args below meth c H locs 0 0 Q (F0 m 10 ls []) := by
    intro _ hf H locs ls hP hD hS hl
    rw [hk10] at hf
    try dsimp only at hf
    cases hf
    exact hT _ _ _ _ _ _ _ _ 36 112 40 eA "so many answers are 1 to 5" rfl rfl (by decide +kernel) (by decide +kernel) hP hD hS hl.1 (hts (.classLink RX3 36 eA) (by decide +kernel)) (hts (.initialized eA) (by decide +kernel)) (fun w hw => hts w (List.mem_cons_of_mem _ (List.mem_append_right _ hw))) ng40 go40 dX3_answers_10 dX3_answers_13 dX3_answers_14 dX3_answers_16 dX3_answers_19 (Nat.le_of_ble_eq_true rfl) (Nat.le_of_ble_eq_true rfl) (Nat.le_of_ble_eq_true rfl) (Nat.le_of_ble_eq_true rfl) (Nat.le_of_ble_eq_true rfl) (Nat.le_of_ble_eq_true rfl)
  refine lv_icmp_lt (tgt := 10) hx hb dX3_answers_2 (by decide) (fun c_2 => ?_) (fun c_2 => ?_)
  · have hf := ite_t c_2 hf
    exact w10 () hf _ _ _ hP hD hS (lv_sub hl [] rfl)
  · have hf := ite_f c_2 hf
    refine lv_iload_n hx hb dX3_answers_5 rfl (lv_at hl 1 rfl) ?_
    refine lv_iconst (v := 5) hx hb dX3_answers_6 (by decide) ?_
    refine lv_icmp_le (tgt := 20) hx hb dX3_answers_7 (by decide) (fun c_7 => ?_) (fun c_7 => ?_)
    · have hf := ite_t c_7 hf
      refine lv_aload_n hx hb dX3_answers_20 rfl (lv_at hl 0 rfl) ?_
      refine va_get (D := D) (ci := 3) (v := .ref (ad 8)) (C := RX3) (T := TX3) (N := 3) hx hb hts hinX3 hown hK.1 hP 16 rfl rfl 1 (by decide) (hts (.fieldLink RX3 21 "Gridpuzzle" "trying" "LGridpuzzle$Trying;") (by decide +kernel)) (fun _ h9 => h9) rfl dX3_answers_21 ?_
      refine lv_iload_n hx hb dX3_answers_24 rfl (lv_at hl 1 rfl) ?_
      obtain ⟨x25, hy25, hf⟩ := Option.bind_eq_some_iff.mp hf
      refine clV_i (As := [.int p1]) (rest := []) (wG cI ad size rc g fs st ln su rr cr x25.2.1 x25.2.2.1 x25.2.2.2.1 x25.2.2.2.2.1 x25.2.2.2.2.2 tk gr se sr) ⟨hx, hb, hml, hown, hts⟩ (K_X2_find l D cI cZ ad H.size N size rc g fs st ln su rr cr bc bl td fi fa p1 _ hy25) (cwV 1 hts gX3_answers_X2_find rfl rfl rfl (by decide +kernel) ⟨Nat.le_of_ble_eq_true rfl, Nat.le_of_ble_eq_true rfl⟩) hK hP hD hS hA hl.1 [0, 1, 2, 3, 4, 5, 6, 7, 8, 9, 10, 11, 12] (by decide) rfl rfl rfl 2 8 rfl rfl rfl rfl rfl (Nat.le_of_ble_eq_true rfl) dX3_answers_25 ⟨Nat.le_of_ble_eq_true rfl, Nat.le_of_ble_eq_true rfl⟩ (fun H locs hP hD hS => ?_)
      cases hf
      exact hR _ _ _ _ _ _ _ _ _ rfl rfl rfl hP hD hS (Nat.le_of_ble_eq_true rfl) (Nat.le_of_ble_eq_true rfl) dX3_answers_28
    · have hf := ite_f c_7 hf
      exact w10 () hf _ _ _ hP hD hS (lv_sub hl [] rfl)
def rm_X3_answersByAll : Room := { frames := 8, cells := 1, slots := 6, locals := 200 }
set_option maxRecDepth 100000 in
set_option maxHeartbeats 8000000 in
theorem K_X3_answersByAll (l : Launch) (hst : l.stackTraces = false) (D : va_G) (cI cZ : ClassId) (ad : Nat → Nat) (sz : Nat) (N : Nat) (size rc : Int32) (g fs st ln su rr cr : Nat → Int32) (bc : Int32) (bl td fi fa : Nat → Int32) (tk gr : Int32) (se sr : Nat → Int32) (r : ((Int32 × Int32 × (Nat → Int32) × (Nat → Int32) × (Nat → Int32)) ⊕ (Nat × Int32 × (Nat → Int32) × (Nat → Int32) × (Nat → Int32)))) (hf : f_X3_answersByAll N size rc g fs st ln su bc bl td fi = some r) : vx_Met l yX3_answersByAll wsX3_answersByAll rm_X3_answersByAll (PX D cI cZ sz [.ref (ad 16)] (wG cI ad size rc g fs st ln su rr cr bc bl td fi fa tk gr se sr)) (QXI D cI cZ sz (wG cI ad size rc g fs st ln su rr cr bc bl td fi fa tk gr se sr) r (fun u => u.1) (fun u => wG cI ad size rc g fs st ln su rr cr u.2.1 u.2.2.1 u.2.2.2.1 u.2.2.2.2 fa tk gr se sr)) (QXX D sz (wG cI ad size rc g fs st ln su rr cr bc bl td fi fa tk gr se sr) r (fun u => u.1) (fun u => wG cI ad size rc g fs st ln su rr cr u.2.1 u.2.2.1 u.2.2.2.1 u.2.2.2.2 fa tk gr se sr)) 1 6 (va_A (wG cI ad size rc g fs st ln su rr cr bc bl td fi fa tk gr se sr) sz) := by
  refine mkx_i (cc := cX3_answersByAll) (maxL := 1) (lv0 := [(0, .ref (ad 16))]) hst rfl (by decide) rfl (Nat.le_of_ble_eq_true rfl) rfl ?_
  intro p e s m args below meth c ls A Q H hx hb hml hown hts hK hXS hP hD hA hS hl hR hT hX
  have hinX3 : ∀ w ∈ wsX30, w ∈ wsX3_answersByAll := by decide +kernel
  rw [f_X3_answersByAll] at hf
  refine lv_aload_n hx hb dX3_answersByAll_0 rfl (lv_at hl 0 rfl) ?_
  refine va_get (D := D) (ci := 3) (v := .ref (ad 0)) (C := RX3) (T := TX3) (N := 3) hx hb hts hinX3 hown hK.1 hP 16 rfl rfl 0 (by decide) (hts (.fieldLink RX3 12 "Gridpuzzle" "board" "LGridpuzzle$Board;") (by decide +kernel)) (fun _ h9 => h9) rfl dX3_answersByAll_1 ?_
  obtain ⟨x4, hy4, hf⟩ := Option.bind_eq_some_iff.mp hf
  refine clV_i (As := []) (rest := []) (wG cI ad size rc g fs st ln su rr cr bc bl td fi fa tk gr se sr) ⟨hx, hb, hml, hown, hts⟩ (K_X0_countBlanks l D cI cZ ad H.size N size rc g fs st ln su rr cr _ hy4) (cwV 0 hts gX3_answersByAll_X0_countBlanks rfl rfl rfl (by decide +kernel) ⟨Nat.le_of_ble_eq_true rfl, Nat.le_of_ble_eq_true rfl⟩) hK hP hD hS hA hl.1 [0, 1, 2, 3, 4, 5, 6, 7] (by decide) rfl rfl rfl 0 0 rfl rfl rfl rfl rfl (Nat.le_of_ble_eq_true rfl) dX3_answersByAll_4 ⟨Nat.le_of_ble_eq_true rfl, Nat.le_of_ble_eq_true rfl⟩ (fun H locs hP hD hS => ?_)
  refine lv_iconst (v := 4) hx hb dX3_answersByAll_7 (by decide) ?_
  refine lv_icmp_le (tgt := 21) hx hb dX3_answersByAll_8 (by decide) (fun c_8 => ?_) (fun c_8 => ?_)
  · have hf := ite_t c_8 hf
    refine lv_aload_n hx hb dX3_answersByAll_21 rfl (lv_at hl 0 rfl) ?_
    refine va_get (D := D) (ci := 3) (v := .ref (ad 8)) (C := RX3) (T := TX3) (N := 3) hx hb hts hinX3 hown hK.1 hP 16 rfl rfl 1 (by decide) (hts (.fieldLink RX3 21 "Gridpuzzle" "trying" "LGridpuzzle$Trying;") (by decide +kernel)) (fun _ h9 => h9) rfl dX3_answersByAll_22 ?_
    obtain ⟨x25, hy25, hf⟩ := Option.bind_eq_some_iff.mp hf
    refine clV_i (As := []) (rest := []) (wG cI ad size rc g fs st ln su rr cr x25.2.1 x25.2.2.1 x25.2.2.2.1 x25.2.2.2.2 fa tk gr se sr) ⟨hx, hb, hml, hown, hts⟩ (K_X2_countByAll l D cI cZ ad H.size N size rc g fs st ln su rr cr bc bl td fi fa _ hy25) (cwV 0 hts gX3_answersByAll_X2_countByAll rfl rfl rfl (by decide +kernel) ⟨Nat.le_of_ble_eq_true rfl, Nat.le_of_ble_eq_true rfl⟩) hK hP hD hS hA hl.1 [0, 1, 2, 3, 4, 5, 6, 7, 8, 9, 10, 11, 12] (by decide) rfl rfl rfl 2 8 rfl rfl rfl rfl rfl (Nat.le_of_ble_eq_true rfl) dX3_answersByAll_25 ⟨Nat.le_of_ble_eq_true rfl, Nat.le_of_ble_eq_true rfl⟩ (fun H locs hP hD hS => ?_)
    cases hf
    exact hR _ _ _ _ _ _ _ _ _ rfl rfl rfl hP hD hS (Nat.le_of_ble_eq_true rfl) (Nat.le_of_ble_eq_true rfl) dX3_answersByAll_28
  · have hf := ite_f c_8 hf
    cases hf
    exact hT _ _ _ _ _ _ _ _ 63 120 67 eS "more than 4 open cells have no given digit" rfl rfl (by decide +kernel) (by decide +kernel) hP hD hS hl.1 (hts (.classLink RX3 63 eS) (by decide +kernel)) (hts (.initialized eS) (by decide +kernel)) (fun w hw => hts w (List.mem_cons_of_mem _ (List.mem_append_right _ hw))) ng67 go67 dX3_answersByAll_11 dX3_answersByAll_14 dX3_answersByAll_15 dX3_answersByAll_17 dX3_answersByAll_20 (Nat.le_of_ble_eq_true rfl) (Nat.le_of_ble_eq_true rfl) (Nat.le_of_ble_eq_true rfl) (Nat.le_of_ble_eq_true rfl) (Nat.le_of_ble_eq_true rfl) (Nat.le_of_ble_eq_true rfl)
def rm_X3_mend : Room := { frames := 8, cells := 1, slots := 6, locals := 200 }
set_option maxRecDepth 100000 in
set_option maxHeartbeats 8000000 in
theorem K_X3_mend (l : Launch) (hst : l.stackTraces = false) (D : va_G) (cI cZ : ClassId) (ad : Nat → Nat) (sz : Nat) (N : Nat) (size rc : Int32) (g fs st ln su rr cr : Nat → Int32) (bc : Int32) (bl td fi fa : Nat → Int32) (tk gr : Int32) (se sr : Nat → Int32) (r : ((Int32 × (Nat → Int32) × Int32 × (Nat → Int32) × (Nat → Int32) × (Nat → Int32) × (Nat → Int32)) ⊕ (Nat × (Nat → Int32) × Int32 × (Nat → Int32) × (Nat → Int32) × (Nat → Int32) × (Nat → Int32)))) (hf : f_X3_mend N size rc g fs st ln su rr cr bc bl td fi fa = some r) : vx_Met l yX3_mend wsX3_mend rm_X3_mend (PX D cI cZ sz [.ref (ad 16)] (wG cI ad size rc g fs st ln su rr cr bc bl td fi fa tk gr se sr)) (QXI D cI cZ sz (wG cI ad size rc g fs st ln su rr cr bc bl td fi fa tk gr se sr) r (fun u => u.1) (fun u => wG cI ad size rc u.2.1 fs st ln su rr cr u.2.2.1 u.2.2.2.1 u.2.2.2.2.1 u.2.2.2.2.2.1 u.2.2.2.2.2.2 tk gr se sr)) (QXX D sz (wG cI ad size rc g fs st ln su rr cr bc bl td fi fa tk gr se sr) r (fun u => u.1) (fun u => wG cI ad size rc u.2.1 fs st ln su rr cr u.2.2.1 u.2.2.2.1 u.2.2.2.2.1 u.2.2.2.2.2.1 u.2.2.2.2.2.2 tk gr se sr)) 1 6 (va_A (wG cI ad size rc g fs st ln su rr cr bc bl td fi fa tk gr se sr) sz) := by
  refine mkx_i (cc := cX3_mend) (maxL := 3) (lv0 := [(0, .ref (ad 16))]) hst rfl (by decide) rfl (Nat.le_of_ble_eq_true rfl) rfl ?_
  intro p e s m args below meth c ls A Q H hx hb hml hown hts hK hXS hP hD hA hS hl hR hT hX
  have hinX3 : ∀ w ∈ wsX30, w ∈ wsX3_mend := by decide +kernel
  rw [f_X3_mend] at hf
  refine lv_aload_n hx hb dX3_mend_0 rfl (lv_at hl 0 rfl) ?_
  refine va_get (D := D) (ci := 3) (v := .ref (ad 8)) (C := RX3) (T := TX3) (N := 3) hx hb hts hinX3 hown hK.1 hP 16 rfl rfl 1 (by decide) (hts (.fieldLink RX3 21 "Gridpuzzle" "trying" "LGridpuzzle$Trying;") (by decide +kernel)) (fun _ h9 => h9) rfl dX3_mend_1 ?_
  refine lv_iconst (v := 2) hx hb dX3_mend_4 (by decide) ?_
  obtain ⟨x5, hy5, hf⟩ := Option.bind_eq_some_iff.mp hf
  refine clV_i (As := [.int 2]) (rest := []) (wG cI ad size rc g fs st ln su rr cr x5.2.1 x5.2.2.1 x5.2.2.2.1 x5.2.2.2.2.1 x5.2.2.2.2.2 tk gr se sr) ⟨hx, hb, hml, hown, hts⟩ (K_X2_find l D cI cZ ad H.size N size rc g fs st ln su rr cr bc bl td fi fa 2 _ hy5) (cwV 1 hts gX3_mend_X2_find rfl rfl rfl (by decide +kernel) ⟨Nat.le_of_ble_eq_true rfl, Nat.le_of_ble_eq_true rfl⟩) hK hP hD hS hA hl.1 [0, 1, 2, 3, 4, 5, 6, 7, 8, 9, 10, 11, 12] (by decide) rfl rfl rfl 2 8 rfl rfl rfl rfl rfl (Nat.le_of_ble_eq_true rfl) dX3_mend_5 ⟨Nat.le_of_ble_eq_true rfl, Nat.le_of_ble_eq_true rfl⟩ (fun H locs hP hD hS => ?_)
  refine lv_istore_n (lv' := [(1, .int x5.1), (0, .ref (ad 16))]) hx hb dX3_mend_8 rfl hl (by decide) rfl (fun ls hl => ?_)
  refine lv_iload_n hx hb dX3_mend_9 rfl (lv_at hl 0 rfl) ?_
  refine lv_iconst (v := (-1)) hx hb dX3_mend_10 (by decide) ?_
  refine lv_icmp_ne (tgt := 24) hx hb dX3_mend_11 (by decide) (fun c_11 => ?_) (fun c_11 => ?_)
  · have hf := ite_f c_11 hf
    refine lv_iload_n hx hb dX3_mend_24 rfl (lv_at hl 0 rfl) ?_
    refine lv_iconst (v := 2) hx hb dX3_mend_25 (by decide) ?_
    refine lv_icmp_ge (tgt := 31) hx hb dX3_mend_26 (by decide) (fun c_26 => ?_) (fun c_26 => ?_)
    · have hf := ite_t c_26 hf
      refine lv_aload_n hx hb dX3_mend_31 rfl (lv_at hl 1 rfl) ?_
      refine va_get (D := D) (ci := 3) (v := .ref (ad 8)) (C := RX3) (T := TX3) (N := 3) hx hb hts hinX3 hown hK.1 hP 16 rfl rfl 1 (by decide) (hts (.fieldLink RX3 21 "Gridpuzzle" "trying" "LGridpuzzle$Trying;") (by decide +kernel)) (fun _ h9 => h9) rfl dX3_mend_32 ?_
      obtain ⟨x35, hy35, hf⟩ := Option.bind_eq_some_iff.mp hf
      refine clV_i (As := []) (rest := []) (wG cI ad size rc g fs st ln su rr cr x5.2.1 x5.2.2.1 x5.2.2.2.1 x5.2.2.2.2.1 x5.2.2.2.2.2 tk gr se sr) ⟨hx, hb, hml, hown, hts⟩ (K_X2_firstUnlike l D cI cZ ad H.size N size rc g fs st ln su rr cr x5.2.1 x5.2.2.1 x5.2.2.2.1 x5.2.2.2.2.1 x5.2.2.2.2.2 _ hy35) (cwV 0 hts gX3_mend_X2_firstUnlike rfl rfl rfl (by decide +kernel) ⟨Nat.le_of_ble_eq_true rfl, Nat.le_of_ble_eq_true rfl⟩) hK hP hD hS hA hl.1 [0, 1, 2, 3, 4, 5, 6, 7, 8, 9, 10, 11, 12] (by decide) rfl rfl rfl 2 8 rfl rfl rfl rfl rfl (Nat.le_of_ble_eq_true rfl) dX3_mend_35 ⟨Nat.le_of_ble_eq_true rfl, Nat.le_of_ble_eq_true rfl⟩ (fun H locs hP hD hS => ?_)
      refine lv_istore_n (lv' := [(2, .int x35), (1, .int x5.1), (0, .ref (ad 16))]) hx hb dX3_mend_38 rfl hl (by decide) rfl (fun ls hl => ?_)
      refine lv_iload_n hx hb dX3_mend_39 rfl (lv_at hl 0 rfl) ?_
      refine lv_iconst (v := (-1)) hx hb dX3_mend_40 (by decide) ?_
      refine lv_icmp_eq (tgt := 60) hx hb dX3_mend_41 (by decide) (fun c_41 => ?_) (fun c_41 => ?_)
      · have hf := ite_t c_41 hf
        refine lv_iload_n hx hb dX3_mend_60 rfl (lv_at hl 0 rfl) ?_
        cases hf
        exact hR _ _ _ _ _ _ _ _ _ rfl rfl rfl hP hD hS (Nat.le_of_ble_eq_true rfl) (Nat.le_of_ble_eq_true rfl) dX3_mend_61
      · have hf := ite_f c_41 hf
        refine lv_aload_n hx hb dX3_mend_44 rfl (lv_at hl 2 rfl) ?_
        refine va_get (D := D) (ci := 3) (v := .ref (ad 0)) (C := RX3) (T := TX3) (N := 3) hx hb hts hinX3 hown hK.1 hP 16 rfl rfl 0 (by decide) (hts (.fieldLink RX3 12 "Gridpuzzle" "board" "LGridpuzzle$Board;") (by decide +kernel)) (fun _ h9 => h9) rfl dX3_mend_45 ?_
        refine lv_iload_n hx hb dX3_mend_48 rfl (lv_at hl 0 rfl) ?_
        refine lv_aload_n hx hb dX3_mend_49 rfl (lv_at hl 2 rfl) ?_
        refine va_get (D := D) (ci := 3) (v := .ref (ad 8)) (C := RX3) (T := TX3) (N := 3) hx hb hts hinX3 hown hK.1 hP 16 rfl rfl 1 (by decide) (hts (.fieldLink RX3 21 "Gridpuzzle" "trying" "LGridpuzzle$Trying;") (by decide +kernel)) (fun _ h9 => h9) rfl dX3_mend_50 ?_
        refine lv_iload_n hx hb dX3_mend_53 rfl (lv_at hl 0 rfl) ?_
        refine clV_i (As := [.int x35]) (rest := [.int x35, .ref (ad 0)]) (wG cI ad size rc g fs st ln su rr cr x5.2.1 x5.2.2.1 x5.2.2.2.1 x5.2.2.2.2.1 x5.2.2.2.2.2 tk gr se sr) ⟨hx, hb, hml, hown, hts⟩ (K_X2_firstAnswerAt l D cI cZ ad H.size size rc g fs st ln su rr cr x5.2.1 x5.2.2.1 x5.2.2.2.1 x5.2.2.2.2.1 x5.2.2.2.2.2 x35 _ rfl) (cwV 1 hts gX3_mend_X2_firstAnswerAt rfl rfl rfl (by decide +kernel) ⟨Nat.le_of_ble_eq_true rfl, Nat.le_of_ble_eq_true rfl⟩) hK hP hD hS hA hl.1 [0, 1, 2, 3, 4, 5, 6, 7, 8, 9, 10, 11, 12] (by decide) rfl rfl rfl 2 8 rfl rfl rfl rfl rfl (Nat.le_of_ble_eq_true rfl) dX3_mend_54 ⟨Nat.le_of_ble_eq_true rfl, Nat.le_of_ble_eq_true rfl⟩ (fun H locs hP hD hS => ?_)
        refine clV_v (As := [.int x35, .int (f_X2_firstAnswerAt x5.2.2.2.2.2 x35)]) (rest := []) (wG cI ad size rc (f_X0_putGiven g x35 (f_X2_firstAnswerAt x5.2.2.2.2.2 x35)) fs st ln su rr cr x5.2.1 x5.2.2.1 x5.2.2.2.1 x5.2.2.2.2.1 x5.2.2.2.2.2 tk gr se sr) ⟨hx, hb, hml, hown, hts⟩ (K_X0_putGiven l D cI cZ ad H.size size rc g fs st ln su rr cr x35 (f_X2_firstAnswerAt x5.2.2.2.2.2 x35) _ rfl) (cwV 2 hts gX3_mend_X0_putGiven rfl rfl rfl (by decide +kernel) ⟨Nat.le_of_ble_eq_true rfl, Nat.le_of_ble_eq_true rfl⟩) hK hP hD hS hA hl.1 [0, 1, 2, 3, 4, 5, 6, 7] (by decide) rfl rfl rfl 0 0 rfl rfl rfl rfl rfl (Nat.le_of_ble_eq_true rfl) dX3_mend_57 ⟨Nat.le_of_ble_eq_true rfl, Nat.le_of_ble_eq_true rfl⟩ (fun H locs hP hD hS => ?_)
        refine lv_iload_n hx hb dX3_mend_60 rfl (lv_at hl 0 rfl) ?_
        cases hf
        exact hR _ _ _ _ _ _ _ _ _ rfl rfl rfl hP hD hS (Nat.le_of_ble_eq_true rfl) (Nat.le_of_ble_eq_true rfl) dX3_mend_61
    · have hf := ite_f c_26 hf
      refine lv_iconst (v := (-1)) hx hb dX3_mend_29 (by decide) ?_
      cases hf
      exact hR _ _ _ _ _ _ _ _ _ rfl rfl rfl hP hD hS (Nat.le_of_ble_eq_true rfl) (Nat.le_of_ble_eq_true rfl) dX3_mend_30
  · have hf := ite_t c_11 hf
    cases hf
    exact hT _ _ _ _ _ _ _ _ 63 125 67 eS "trying for two answers is given up" rfl rfl (by decide +kernel) (by decide +kernel) hP hD hS hl.1 (hts (.classLink RX3 63 eS) (by decide +kernel)) (hts (.initialized eS) (by decide +kernel)) (fun w hw => hts w (List.mem_cons_of_mem _ (List.mem_append_right _ hw))) ng67 go67 dX3_mend_14 dX3_mend_17 dX3_mend_18 dX3_mend_20 dX3_mend_23 (Nat.le_of_ble_eq_true rfl) (Nat.le_of_ble_eq_true rfl) (Nat.le_of_ble_eq_true rfl) (Nat.le_of_ble_eq_true rfl) (Nat.le_of_ble_eq_true rfl) (Nat.le_of_ble_eq_true rfl)
def rm_X3_level : Room := { frames := 10, cells := 0, slots := 0, locals := 578 }
set_option maxRecDepth 100000 in
set_option maxHeartbeats 8000000 in
theorem K_X3_level (l : Launch) (D : va_G) (cI cZ : ClassId) (ad : Nat → Nat) (sz : Nat) (N : Nat) (size rc : Int32) (g fs st ln su rr cr : Nat → Int32) (bc : Int32) (bl td fi fa : Nat → Int32) (tk gr : Int32) (se sr : Nat → Int32) (r : (Int32 × Int32 × Int32 × (Nat → Int32) × (Nat → Int32))) (hf : f_X3_level N size rc g fs st ln su tk gr se sr = some r) : Met l yX3_level wsX3_level rm_X3_level (PC D cI cZ sz [.ref (ad 16)] (wG cI ad size rc g fs st ln su rr cr bc bl td fi fa tk gr se sr)) (QI D cI cZ sz (wG cI ad size rc g fs st ln su rr cr bc bl td fi fa tk gr se sr) r.1 (wG cI ad size rc g fs st ln su rr cr bc bl td fi fa r.2.1 r.2.2.1 r.2.2.2.1 r.2.2.2.2)) 0 0 (va_A (wG cI ad size rc g fs st ln su rr cr bc bl td fi fa tk gr se sr) sz) := by
  refine mk_i (cc := cX3_level) (maxL := 1) (lv0 := [(0, .ref (ad 16))]) (by decide) rfl (Nat.le_of_ble_eq_true rfl) rfl ?_
  intro p e s m args below meth c ls A Q H hx hb hml hown hts hK hP hD hA hS hl hR
  have hinX3 : ∀ w ∈ wsX30, w ∈ wsX3_level := by decide +kernel
  rw [f_X3_level] at hf
  refine lv_aload_n hx hb dX3_level_0 rfl (lv_at hl 0 rfl) ?_
  refine va_get (D := D) (ci := 3) (v := .ref (ad 13)) (C := RX3) (T := TX3) (N := 3) hx hb hts hinX3 hown hK.1 hP 16 rfl rfl 2 (by decide) (hts (.fieldLink RX3 28 "Gridpuzzle" "solving" "LGridpuzzle$Solving;") (by decide +kernel)) (fun _ h9 => h9) rfl dX3_level_1 ?_
  refine lv_iconst (v := 3) hx hb dX3_level_4 (by decide) ?_
  obtain ⟨x5, hy5, hf⟩ := Option.bind_eq_some_iff.mp hf
  refine clV_v (As := [.int 3]) (rest := []) (wG cI ad size rc g fs st ln su rr cr bc bl td fi fa x5.1 x5.2.1 x5.2.2.1 x5.2.2.2) ⟨hx, hb, hml, hown, hts⟩ (K_X1_solve l D cI cZ ad H.size N size rc g fs st ln su rr cr tk gr se sr 3 _ hy5) (cwV 1 hts gX3_level_X1_solve rfl rfl rfl (by decide +kernel) ⟨Nat.le_of_ble_eq_true rfl, Nat.le_of_ble_eq_true rfl⟩) hK hP hD hS hA hl.1 [0, 1, 2, 3, 4, 5, 6, 7, 13, 14, 15] (by decide) rfl rfl rfl 1 13 rfl rfl rfl rfl rfl (Nat.le_of_ble_eq_true rfl) dX3_level_5 ⟨Nat.le_of_ble_eq_true rfl, Nat.le_of_ble_eq_true rfl⟩ (fun H locs hP hD hS => ?_)
  refine lv_aload_n hx hb dX3_level_8 rfl (lv_at hl 0 rfl) ?_
  refine va_get (D := D) (ci := 3) (v := .ref (ad 13)) (C := RX3) (T := TX3) (N := 3) hx hb hts hinX3 hown hK.1 hP 16 rfl rfl 2 (by decide) (hts (.fieldLink RX3 28 "Gridpuzzle" "solving" "LGridpuzzle$Solving;") (by decide +kernel)) (fun _ h9 => h9) rfl dX3_level_9 ?_
  obtain ⟨x12, hy12, hf⟩ := Option.bind_eq_some_iff.mp hf
  refine clV_i (As := []) (rest := []) (wG cI ad size rc g fs st ln su rr cr bc bl td fi fa x5.1 x5.2.1 x5.2.2.1 x5.2.2.2) ⟨hx, hb, hml, hown, hts⟩ (K_X1_isSolved l D cI cZ ad H.size N size rc g fs st ln su rr cr x5.1 x5.2.1 x5.2.2.1 x5.2.2.2 _ hy12) (cwV 0 hts gX3_level_X1_isSolved rfl rfl rfl (by decide +kernel) ⟨Nat.le_of_ble_eq_true rfl, Nat.le_of_ble_eq_true rfl⟩) hK hP hD hS hA hl.1 [0, 1, 2, 3, 4, 5, 6, 7, 13, 14, 15] (by decide) rfl rfl rfl 1 13 rfl rfl rfl rfl rfl (Nat.le_of_ble_eq_true rfl) dX3_level_12 ⟨Nat.le_of_ble_eq_true rfl, Nat.le_of_ble_eq_true rfl⟩ (fun H locs hP hD hS => ?_)
  refine lv_if_eq (tgt := 28) hx hb dX3_level_15 (by decide) (fun c_15 => ?_) (fun c_15 => ?_)
  · have hf := ite_t c_15 hf
    refine lv_iconst (v := (-1)) hx hb dX3_level_28 (by decide) ?_
    cases hf
    exact hR _ _ _ _ _ _ rfl rfl hP hD hS dX3_level_29
  · have hf := ite_f c_15 hf
    refine lv_aload_n hx hb dX3_level_18 rfl (lv_at hl 0 rfl) ?_
    refine va_get (D := D) (ci := 3) (v := .ref (ad 13)) (C := RX3) (T := TX3) (N := 3) hx hb hts hinX3 hown hK.1 hP 16 rfl rfl 2 (by decide) (hts (.fieldLink RX3 28 "Gridpuzzle" "solving" "LGridpuzzle$Solving;") (by decide +kernel)) (fun _ h9 => h9) rfl dX3_level_19 ?_
    refine clV_i (As := []) (rest := []) (wG cI ad size rc g fs st ln su rr cr bc bl td fi fa x5.1 x5.2.1 x5.2.2.1 x5.2.2.2) ⟨hx, hb, hml, hown, hts⟩ (K_X1_greatestRule l D cI cZ ad H.size size rc g fs st ln su rr cr x5.1 x5.2.1 x5.2.2.1 x5.2.2.2 _ rfl) (cwV 0 hts gX3_level_X1_greatestRule rfl rfl rfl (by decide +kernel) ⟨Nat.le_of_ble_eq_true rfl, Nat.le_of_ble_eq_true rfl⟩) hK hP hD hS hA hl.1 [0, 1, 2, 3, 4, 5, 6, 7, 13, 14, 15] (by decide) rfl rfl rfl 1 13 rfl rfl rfl rfl rfl (Nat.le_of_ble_eq_true rfl) dX3_level_22 ⟨Nat.le_of_ble_eq_true rfl, Nat.le_of_ble_eq_true rfl⟩ (fun H locs hP hD hS => ?_)
    refine lv_goto (tgt := 29) hx hb dX3_level_25 (by decide) ?_
    cases hf
    exact hR _ _ _ _ _ _ rfl rfl hP hD hS dX3_level_29
def rm_X3_candidates : Room := { frames := 10, cells := 2, slots := 12, locals := 578 }
set_option maxRecDepth 100000 in
set_option maxHeartbeats 8000000 in
theorem K_X3_candidates (l : Launch) (hst : l.stackTraces = false) (D : va_G) (cI cZ : ClassId) (ad : Nat → Nat) (sz : Nat) (N : Nat) (size rc : Int32) (g fs st ln su rr cr : Nat → Int32) (bc : Int32) (bl td fi fa : Nat → Int32) (tk gr : Int32) (se sr : Nat → Int32) (p1 : Int32) (p2 : Int32) (r : ((Int32 × Int32 × Int32 × (Nat → Int32) × (Nat → Int32)) ⊕ (Nat × Int32 × Int32 × (Nat → Int32) × (Nat → Int32)))) (hf : f_X3_candidates N size rc g fs st ln su tk gr se sr p1 p2 = some r) : vx_Met l yX3_candidates wsX3_candidates rm_X3_candidates (PX D cI cZ sz [.ref (ad 16), .int p1, .int p2] (wG cI ad size rc g fs st ln su rr cr bc bl td fi fa tk gr se sr)) (QXI D cI cZ sz (wG cI ad size rc g fs st ln su rr cr bc bl td fi fa tk gr se sr) r (fun u => u.1) (fun u => wG cI ad size rc g fs st ln su rr cr bc bl td fi fa u.2.1 u.2.2.1 u.2.2.2.1 u.2.2.2.2)) (QXX D sz (wG cI ad size rc g fs st ln su rr cr bc bl td fi fa tk gr se sr) r (fun u => u.1) (fun u => wG cI ad size rc g fs st ln su rr cr bc bl td fi fa u.2.1 u.2.2.1 u.2.2.2.1 u.2.2.2.2)) 2 12 (va_A (wG cI ad size rc g fs st ln su rr cr bc bl td fi fa tk gr se sr) sz) := by
  refine mkx_i (cc := cX3_candidates) (maxL := 3) (lv0 := [(0, .ref (ad 16)), (1, .int p1), (2, .int p2)]) hst rfl (by decide) rfl (Nat.le_of_ble_eq_true rfl) rfl ?_
  intro p e s m args below meth c ls A Q H hx hb hml hown hts hK hXS hP hD hA hS hl hR hT hX
  have hinX3 : ∀ w ∈ wsX30, w ∈ wsX3_candidates := by decide +kernel
  rw [f_X3_candidates] at hf
  refine lv_aload_n hx hb dX3_candidates_0 rfl (lv_at hl 0 rfl) ?_
  refine lv_iload_n hx hb dX3_candidates_1 rfl (lv_at hl 1 rfl) ?_
  obtain ⟨x2, hy2, hf⟩ := Option.bind_eq_some_iff.mp hf
  refine clX_v (As := [.int p1]) (rest := []) (fun u => wG cI ad size rc g fs st ln su rr cr bc bl td fi fa tk gr se sr) (fun u => u) (fun u => wG cI ad size rc g fs st ln su rr cr bc bl td fi fa tk gr se sr) (fun u => wG cI ad size rc g fs st ln su rr cr bc bl td fi fa tk gr se sr) (fun u => wG cI ad size rc g fs st ln su rr cr bc bl td fi fa tk gr se sr) ⟨hx, hb, hml, hown, hts⟩ (K_X3_needCell l hst D cI cZ ad H.size size rc g fs st ln su rr cr bc bl td fi fa tk gr se sr p1 _ hy2) (cwV 1 hts gX3_candidates_X3_needCell rfl rfl rfl (by decide +kernel) ⟨Nat.le_of_ble_eq_true rfl, Nat.le_of_ble_eq_true rfl⟩) hK hXS hP hD hS hA hl.1 [0, 1, 2, 3, 4, 5, 6, 7, 8, 9, 10, 11, 12, 13, 14, 15, 16] (by decide) rfl (fun _ => rfl) (fun _ => rfl) (fun _ => rfl) (fun _ => rfl) 3 16 rfl rfl rfl rfl rfl (Nat.le_of_ble_eq_true rfl) dX3_candidates_2 ⟨Nat.le_of_ble_eq_true rfl, Nat.le_of_ble_eq_true rfl⟩ (fun z2 hz E ce q9 H locs hE hP hD hS hq hv hc => ?_) (fun y2 hz H locs hP hD hS => ?_)
  · rw [hz] at hf
    have hf := sm_r hf
    cases hf
    exact hX _ _ _ _ _ _ _ _ q9 ce E rfl hE hP hD hS hq hv hc (Nat.le_of_ble_eq_true rfl) (Nat.le_of_ble_eq_true rfl)
  · rw [hz] at hf
    have hf := sm_l hf
    refine lv_iload_n hx hb dX3_candidates_5 rfl (lv_at hl 2 rfl) ?_
    obtain ⟨k14, hk14, hf⟩ := jn_some hf
    have w14 : ∀ (_ : Unit), k14 () = some r → ∀ (H : Heap) (locs : List Loc) (ls : Array Slot), va_P D vwCl (wG cI ad size rc g fs st ln su rr cr bc bl td fi fa tk gr se sr) H → va_D A (wG cI ad size rc g fs st ln su rr cr bc bl td fi fa tk gr se sr) → va_S A s.heap H locs → lv_has ls 3 [] → W p l e rm_X3_candidates s m args below meth c H locs 1 6 Q (F0 m 14 ls []) := by
      intro _ hf H locs ls hP hD hS hl
      rw [hk14] at hf
      try dsimp only at hf
      cases hf
      exact hT _ _ _ _ _ _ _ _ 36 142 40 eA "the last rule is 0 to 3" rfl rfl (by decide +kernel) (by decide +kernel) hP hD hS hl.1 (hts (.classLink RX3 36 eA) (by decide +kernel)) (hts (.initialized eA) (by decide +kernel)) (fun w hw => hts w (List.mem_cons_of_mem _ (List.mem_append_left _ (List.mem_append_right _ hw)))) ng40 go40 dX3_candidates_14 dX3_candidates_17 dX3_candidates_18 dX3_candidates_20 dX3_candidates_23 (Nat.le_of_ble_eq_true rfl) (Nat.le_of_ble_eq_true rfl) (Nat.le_of_ble_eq_true rfl) (Nat.le_of_ble_eq_true rfl) (Nat.le_of_ble_eq_true rfl) (Nat.le_of_ble_eq_true rfl)
    refine lv_if_lt (tgt := 14) hx hb dX3_candidates_6 (by decide) (fun c_6 => ?_) (fun c_6 => ?_)
    · have hf := ite_t c_6 hf
      exact w14 () hf _ _ _ hP hD hS (lv_sub hl [] rfl)
    · have hf := ite_f c_6 hf
      refine lv_iload_n hx hb dX3_candidates_9 rfl (lv_at hl 2 rfl) ?_
      refine lv_iconst (v := 3) hx hb dX3_candidates_10 (by decide) ?_
      refine lv_icmp_le (tgt := 24) hx hb dX3_candidates_11 (by decide) (fun c_11 => ?_) (fun c_11 => ?_)
      · have hf := ite_t c_11 hf
        refine lv_aload_n hx hb dX3_candidates_24 rfl (lv_at hl 0 rfl) ?_
        refine va_get (D := D) (ci := 3) (v := .ref (ad 13)) (C := RX3) (T := TX3) (N := 3) hx hb hts hinX3 hown hK.1 hP 16 rfl rfl 2 (by decide) (hts (.fieldLink RX3 28 "Gridpuzzle" "solving" "LGridpuzzle$Solving;") (by decide +kernel)) (fun _ h9 => h9) rfl dX3_candidates_25 ?_
        refine lv_iload_n hx hb dX3_candidates_28 rfl (lv_at hl 2 rfl) ?_
        obtain ⟨x29, hy29, hf⟩ := Option.bind_eq_some_iff.mp hf
        refine clV_v (As := [.int p2]) (rest := []) (wG cI ad size rc g fs st ln su rr cr bc bl td fi fa x29.1 x29.2.1 x29.2.2.1 x29.2.2.2) ⟨hx, hb, hml, hown, hts⟩ (K_X1_solve l D cI cZ ad H.size N size rc g fs st ln su rr cr tk gr se sr p2 _ hy29) (cwV 1 hts gX3_candidates_X1_solve rfl rfl rfl (by decide +kernel) ⟨Nat.le_of_ble_eq_true rfl, Nat.le_of_ble_eq_true rfl⟩) hK hP hD hS hA hl.1 [0, 1, 2, 3, 4, 5, 6, 7, 13, 14, 15] (by decide) rfl rfl rfl 1 13 rfl rfl rfl rfl rfl (Nat.le_of_ble_eq_true rfl) dX3_candidates_29 ⟨Nat.le_of_ble_eq_true rfl, Nat.le_of_ble_eq_true rfl⟩ (fun H locs hP hD hS => ?_)
        refine lv_aload_n hx hb dX3_candidates_32 rfl (lv_at hl 0 rfl) ?_
        refine va_get (D := D) (ci := 3) (v := .ref (ad 13)) (C := RX3) (T := TX3) (N := 3) hx hb hts hinX3 hown hK.1 hP 16 rfl rfl 2 (by decide) (hts (.fieldLink RX3 28 "Gridpuzzle" "solving" "LGridpuzzle$Solving;") (by decide +kernel)) (fun _ h9 => h9) rfl dX3_candidates_33 ?_
        refine lv_iload_n hx hb dX3_candidates_36 rfl (lv_at hl 1 rfl) ?_
        refine clV_i (As := [.int p1]) (rest := []) (wG cI ad size rc g fs st ln su rr cr bc bl td fi fa x29.1 x29.2.1 x29.2.2.1 x29.2.2.2) ⟨hx, hb, hml, hown, hts⟩ (K_X1_setAt l D cI cZ ad H.size size rc g fs st ln su rr cr x29.1 x29.2.1 x29.2.2.1 x29.2.2.2 p1 _ rfl) (cwV 1 hts gX3_candidates_X1_setAt rfl rfl rfl (by decide +kernel) ⟨Nat.le_of_ble_eq_true rfl, Nat.le_of_ble_eq_true rfl⟩) hK hP hD hS hA hl.1 [0, 1, 2, 3, 4, 5, 6, 7, 13, 14, 15] (by decide) rfl rfl rfl 1 13 rfl rfl rfl rfl rfl (Nat.le_of_ble_eq_true rfl) dX3_candidates_37 ⟨Nat.le_of_ble_eq_true rfl, Nat.le_of_ble_eq_true rfl⟩ (fun H locs hP hD hS => ?_)
        cases hf
        exact hR _ _ _ _ _ _ _ _ _ rfl rfl rfl hP hD hS (Nat.le_of_ble_eq_true rfl) (Nat.le_of_ble_eq_true rfl) dX3_candidates_40
      · have hf := ite_f c_11 hf
        exact w14 () hf _ _ _ hP hD hS (lv_sub hl [] rfl)
def rm_X3_hint : Room := { frames := 11, cells := 0, slots := 0, locals := 599 }
set_option maxRecDepth 100000 in
set_option maxHeartbeats 8000000 in
theorem K_X3_hint (l : Launch) (D : va_G) (cI cZ : ClassId) (ad : Nat → Nat) (sz : Nat) (N : Nat) (size rc : Int32) (g fs st ln su rr cr : Nat → Int32) (bc : Int32) (bl td fi fa : Nat → Int32) (tk gr : Int32) (se sr : Nat → Int32) (r : (Int32 × Int32 × Int32 × (Nat → Int32) × (Nat → Int32))) (hf : f_X3_hint N size rc g fs st ln su tk gr se sr = some r) : Met l yX3_hint wsX3_hint rm_X3_hint (PC D cI cZ sz [.ref (ad 16)] (wG cI ad size rc g fs st ln su rr cr bc bl td fi fa tk gr se sr)) (QI D cI cZ sz (wG cI ad size rc g fs st ln su rr cr bc bl td fi fa tk gr se sr) r.1 (wG cI ad size rc g fs st ln su rr cr bc bl td fi fa r.2.1 r.2.2.1 r.2.2.2.1 r.2.2.2.2)) 0 0 (va_A (wG cI ad size rc g fs st ln su rr cr bc bl td fi fa tk gr se sr) sz) := by
  refine mk_i (cc := cX3_hint) (maxL := 1) (lv0 := [(0, .ref (ad 16))]) (by decide) rfl (Nat.le_of_ble_eq_true rfl) rfl ?_
  intro p e s m args below meth c ls A Q H hx hb hml hown hts hK hP hD hA hS hl hR
  have hinX3 : ∀ w ∈ wsX30, w ∈ wsX3_hint := by decide +kernel
  rw [f_X3_hint] at hf
  refine lv_aload_n hx hb dX3_hint_0 rfl (lv_at hl 0 rfl) ?_
  refine va_get (D := D) (ci := 3) (v := .ref (ad 13)) (C := RX3) (T := TX3) (N := 3) hx hb hts hinX3 hown hK.1 hP 16 rfl rfl 2 (by decide) (hts (.fieldLink RX3 28 "Gridpuzzle" "solving" "LGridpuzzle$Solving;") (by decide +kernel)) (fun _ h9 => h9) rfl dX3_hint_1 ?_
  obtain ⟨x4, hy4, hf⟩ := Option.bind_eq_some_iff.mp hf
  refine clV_i (As := []) (rest := []) (wG cI ad size rc g fs st ln su rr cr bc bl td fi fa x4.2.1 x4.2.2.1 x4.2.2.2.1 x4.2.2.2.2) ⟨hx, hb, hml, hown, hts⟩ (K_X1_solveToHint l D cI cZ ad H.size N size rc g fs st ln su rr cr tk gr se sr _ hy4) (cwV 0 hts gX3_hint_X1_solveToHint rfl rfl rfl (by decide +kernel) ⟨Nat.le_of_ble_eq_true rfl, Nat.le_of_ble_eq_true rfl⟩) hK hP hD hS hA hl.1 [0, 1, 2, 3, 4, 5, 6, 7, 13, 14, 15] (by decide) rfl rfl rfl 1 13 rfl rfl rfl rfl rfl (Nat.le_of_ble_eq_true rfl) dX3_hint_4 ⟨Nat.le_of_ble_eq_true rfl, Nat.le_of_ble_eq_true rfl⟩ (fun H locs hP hD hS => ?_)
  refine lv_pop hx hb dX3_hint_7 rfl ?_
  refine lv_aload_n hx hb dX3_hint_8 rfl (lv_at hl 0 rfl) ?_
  refine va_get (D := D) (ci := 3) (v := .ref (ad 13)) (C := RX3) (T := TX3) (N := 3) hx hb hts hinX3 hown hK.1 hP 16 rfl rfl 2 (by decide) (hts (.fieldLink RX3 28 "Gridpuzzle" "solving" "LGridpuzzle$Solving;") (by decide +kernel)) (fun _ h9 => h9) rfl dX3_hint_9 ?_
  obtain ⟨x12, hy12, hf⟩ := Option.bind_eq_some_iff.mp hf
  refine clV_i (As := []) (rest := []) (wG cI ad size rc g fs st ln su rr cr bc bl td fi fa x4.2.1 x4.2.2.1 x4.2.2.2.1 x4.2.2.2.2) ⟨hx, hb, hml, hown, hts⟩ (K_X1_firstFound l D cI cZ ad H.size N size rc g fs st ln su rr cr x4.2.1 x4.2.2.1 x4.2.2.2.1 x4.2.2.2.2 _ hy12) (cwV 0 hts gX3_hint_X1_firstFound rfl rfl rfl (by decide +kernel) ⟨Nat.le_of_ble_eq_true rfl, Nat.le_of_ble_eq_true rfl⟩) hK hP hD hS hA hl.1 [0, 1, 2, 3, 4, 5, 6, 7, 13, 14, 15] (by decide) rfl rfl rfl 1 13 rfl rfl rfl rfl rfl (Nat.le_of_ble_eq_true rfl) dX3_hint_12 ⟨Nat.le_of_ble_eq_true rfl, Nat.le_of_ble_eq_true rfl⟩ (fun H locs hP hD hS => ?_)
  cases hf
  exact hR _ _ _ _ _ _ rfl rfl hP hD hS dX3_hint_15
def rm_X3_hintRules : Room := { frames := 11, cells := 0, slots := 0, locals := 599 }
set_option maxRecDepth 100000 in
set_option maxHeartbeats 8000000 in
theorem K_X3_hintRules (l : Launch) (D : va_G) (cI cZ : ClassId) (ad : Nat → Nat) (sz : Nat) (N : Nat) (size rc : Int32) (g fs st ln su rr cr : Nat → Int32) (bc : Int32) (bl td fi fa : Nat → Int32) (tk gr : Int32) (se sr : Nat → Int32) (r : (Int32 × Int32 × Int32 × (Nat → Int32) × (Nat → Int32))) (hf : f_X3_hintRules N size rc g fs st ln su tk gr se sr = some r) : Met l yX3_hintRules wsX3_hintRules rm_X3_hintRules (PC D cI cZ sz [.ref (ad 16)] (wG cI ad size rc g fs st ln su rr cr bc bl td fi fa tk gr se sr)) (QI D cI cZ sz (wG cI ad size rc g fs st ln su rr cr bc bl td fi fa tk gr se sr) r.1 (wG cI ad size rc g fs st ln su rr cr bc bl td fi fa r.2.1 r.2.2.1 r.2.2.2.1 r.2.2.2.2)) 0 0 (va_A (wG cI ad size rc g fs st ln su rr cr bc bl td fi fa tk gr se sr) sz) := by
  refine mk_i (cc := cX3_hintRules) (maxL := 1) (lv0 := [(0, .ref (ad 16))]) (by decide) rfl (Nat.le_of_ble_eq_true rfl) rfl ?_
  intro p e s m args below meth c ls A Q H hx hb hml hown hts hK hP hD hA hS hl hR
  have hinX3 : ∀ w ∈ wsX30, w ∈ wsX3_hintRules := by decide +kernel
  rw [f_X3_hintRules] at hf
  refine lv_aload_n hx hb dX3_hintRules_0 rfl (lv_at hl 0 rfl) ?_
  refine va_get (D := D) (ci := 3) (v := .ref (ad 13)) (C := RX3) (T := TX3) (N := 3) hx hb hts hinX3 hown hK.1 hP 16 rfl rfl 2 (by decide) (hts (.fieldLink RX3 28 "Gridpuzzle" "solving" "LGridpuzzle$Solving;") (by decide +kernel)) (fun _ h9 => h9) rfl dX3_hintRules_1 ?_
  obtain ⟨x4, hy4, hf⟩ := Option.bind_eq_some_iff.mp hf
  refine clV_i (As := []) (rest := []) (wG cI ad size rc g fs st ln su rr cr bc bl td fi fa x4.2.1 x4.2.2.1 x4.2.2.2.1 x4.2.2.2.2) ⟨hx, hb, hml, hown, hts⟩ (K_X1_solveToHint l D cI cZ ad H.size N size rc g fs st ln su rr cr tk gr se sr _ hy4) (cwV 0 hts gX3_hintRules_X1_solveToHint rfl rfl rfl (by decide +kernel) ⟨Nat.le_of_ble_eq_true rfl, Nat.le_of_ble_eq_true rfl⟩) hK hP hD hS hA hl.1 [0, 1, 2, 3, 4, 5, 6, 7, 13, 14, 15] (by decide) rfl rfl rfl 1 13 rfl rfl rfl rfl rfl (Nat.le_of_ble_eq_true rfl) dX3_hintRules_4 ⟨Nat.le_of_ble_eq_true rfl, Nat.le_of_ble_eq_true rfl⟩ (fun H locs hP hD hS => ?_)
  cases hf
  exact hR _ _ _ _ _ _ rfl rfl hP hD hS dX3_hintRules_7
