def rm_X0_hasCell : Room := { frames := 0, cells := 0, slots := 0, locals := 0 }
set_option maxRecDepth 100000 in
set_option maxHeartbeats 8000000 in
theorem K_X0_hasCell (l : Launch) (D : va_G) (cI cZ : ClassId) (ad : Nat → Nat) (sz : Nat) (size rc : Int32) (g fs st ln su rr cr : Nat → Int32) (p1 : Int32) (r : (Int32)) (hf : f_X0_hasCell size p1 = r) : Met l yX0_hasCell wsX0_hasCell rm_X0_hasCell (PC D cI cZ sz [.ref (ad 0), .int p1] (wB cI ad size rc g fs st ln su rr cr)) (QI D cI cZ sz (wB cI ad size rc g fs st ln su rr cr) r (wB cI ad size rc g fs st ln su rr cr)) 0 0 (va_A (wB cI ad size rc g fs st ln su rr cr) sz) := by
  refine mk_z (cc := cX0_hasCell) (maxL := 2) (lv0 := [(0, .ref (ad 0)), (1, .int p1)]) (by decide) rfl (Nat.le_of_ble_eq_true rfl) rfl ?_
  intro p e s m args below meth c ls A Q H hx hb hml hown hts hK hP hD hA hS hl hR
  have hinX0 : ∀ w ∈ wsX00, w ∈ wsX0_hasCell := by decide +kernel
  rw [f_X0_hasCell] at hf
  refine lv_iload_n hx hb dX0_hasCell_0 rfl (lv_at hl 1 rfl) ?_
  obtain ⟨k34, hk34, hf⟩ := jn_some hf
  have w34 : ∀ (_ : Unit), k34 () = r → ∀ (H : Heap) (locs : List Loc) (ls : Array Slot), va_P D vwCl (wB cI ad size rc g fs st ln su rr cr) H → va_D A (wB cI ad size rc g fs st ln su rr cr) → va_S A s.heap H locs → lv_has ls 2 [] → W p l e rm_X0_hasCell s m args below meth c H locs 0 0 Q (F0 m 34 ls []) := by
    intro _ hf H locs ls hP hD hS hl
    rw [hk34] at hf
    try dsimp only at hf
    refine lv_iconst (v := 0) hx hb dX0_hasCell_34 (by decide) ?_
    cases hf
    exact hR _ _ _ _ _ _ (by decide) rfl rfl hP hD hS dX0_hasCell_35
  refine lv_if_lt (tgt := 34) hx hb dX0_hasCell_1 (by decide) (fun c_1 => ?_) (fun c_1 => ?_)
  · have hf := ite_t c_1 hf
    exact w34 () hf _ _ _ hP hD hS (lv_sub hl [] rfl)
  · have hf := ite_f c_1 hf
    refine lv_iload_n hx hb dX0_hasCell_4 rfl (lv_at hl 1 rfl) ?_
    refine lv_bipush (v := 16) hx hb dX0_hasCell_5 (by decide) ?_
    refine lv_icmp_ge (tgt := 34) hx hb dX0_hasCell_7 (by decide) (fun c_7 => ?_) (fun c_7 => ?_)
    · have hf := ite_t c_7 hf
      exact w34 () hf _ _ _ hP hD hS (lv_sub hl [] rfl)
    · have hf := ite_f c_7 hf
      refine lv_iload_n hx hb dX0_hasCell_10 rfl (lv_at hl 1 rfl) ?_
      refine lv_iconst (v := 4) hx hb dX0_hasCell_11 (by decide) ?_
      refine lv_idiv hx hb dX0_hasCell_12 (by decide) ?_
      refine lv_aload_n hx hb dX0_hasCell_13 rfl (lv_at hl 0 rfl) ?_
      refine va_get (D := D) (ci := 0) (v := .int size) (C := RX0) (T := TX0) (N := 9) hx hb hts hinX0 hown hK.1 hP 0 rfl rfl 0 (by decide) (hts (.fieldLink RX0 33 "Gridpuzzle$Board" "size" "I") (by decide +kernel)) (fun _ h9 => h9) rfl dX0_hasCell_14 ?_
      refine lv_icmp_ge (tgt := 34) hx hb dX0_hasCell_17 (by decide) (fun c_17 => ?_) (fun c_17 => ?_)
      · have hf := ite_t c_17 hf
        exact w34 () hf _ _ _ hP hD hS (lv_sub hl [] rfl)
      · have hf := ite_f c_17 hf
        refine lv_iload_n hx hb dX0_hasCell_20 rfl (lv_at hl 1 rfl) ?_
        refine lv_iconst (v := 4) hx hb dX0_hasCell_21 (by decide) ?_
        refine lv_irem hx hb dX0_hasCell_22 (by decide) ?_
        refine lv_aload_n hx hb dX0_hasCell_23 rfl (lv_at hl 0 rfl) ?_
        refine va_get (D := D) (ci := 0) (v := .int size) (C := RX0) (T := TX0) (N := 9) hx hb hts hinX0 hown hK.1 hP 0 rfl rfl 0 (by decide) (hts (.fieldLink RX0 33 "Gridpuzzle$Board" "size" "I") (by decide +kernel)) (fun _ h9 => h9) rfl dX0_hasCell_24 ?_
        refine lv_icmp_ge (tgt := 34) hx hb dX0_hasCell_27 (by decide) (fun c_27 => ?_) (fun c_27 => ?_)
        · have hf := ite_t c_27 hf
          exact w34 () hf _ _ _ hP hD hS (lv_sub hl [] rfl)
        · have hf := ite_f c_27 hf
          refine lv_iconst (v := 1) hx hb dX0_hasCell_30 (by decide) ?_
          refine lv_goto (tgt := 35) hx hb dX0_hasCell_31 (by decide) ?_
          cases hf
          exact hR _ _ _ _ _ _ (by decide) rfl rfl hP hD hS dX0_hasCell_35
def rm_X0_isOpen : Room := { frames := 1, cells := 0, slots := 0, locals := 21 }
set_option maxRecDepth 100000 in
set_option maxHeartbeats 8000000 in
theorem K_X0_isOpen (l : Launch) (D : va_G) (cI cZ : ClassId) (ad : Nat → Nat) (sz : Nat) (size rc : Int32) (g fs st ln su rr cr : Nat → Int32) (p1 : Int32) (r : (Int32)) (hf : f_X0_isOpen size g p1 = r) : Met l yX0_isOpen wsX0_isOpen rm_X0_isOpen (PC D cI cZ sz [.ref (ad 0), .int p1] (wB cI ad size rc g fs st ln su rr cr)) (QI D cI cZ sz (wB cI ad size rc g fs st ln su rr cr) r (wB cI ad size rc g fs st ln su rr cr)) 0 0 (va_A (wB cI ad size rc g fs st ln su rr cr) sz) := by
  refine mk_z (cc := cX0_isOpen) (maxL := 2) (lv0 := [(0, .ref (ad 0)), (1, .int p1)]) (by decide) rfl (Nat.le_of_ble_eq_true rfl) rfl ?_
  intro p e s m args below meth c ls A Q H hx hb hml hown hts hK hP hD hA hS hl hR
  have hinX0 : ∀ w ∈ wsX00, w ∈ wsX0_isOpen := by decide +kernel
  rw [f_X0_isOpen] at hf
  refine lv_aload_n hx hb dX0_isOpen_0 rfl (lv_at hl 0 rfl) ?_
  refine lv_iload_n hx hb dX0_isOpen_1 rfl (lv_at hl 1 rfl) ?_
  refine clV_i (As := [.int p1]) (rest := []) (wB cI ad size rc g fs st ln su rr cr) ⟨hx, hb, hml, hown, hts⟩ (K_X0_hasCell l D cI cZ ad H.size size rc g fs st ln su rr cr p1 _ rfl) (cwV 1 hts gX0_isOpen_X0_hasCell rfl rfl rfl (by decide +kernel) ⟨Nat.le_of_ble_eq_true rfl, Nat.le_of_ble_eq_true rfl⟩) hK hP hD hS hA hl.1 [0, 1, 2, 3, 4, 5, 6, 7] (by decide) rfl rfl rfl 0 0 rfl rfl rfl rfl rfl (Nat.le_of_ble_eq_true rfl) dX0_isOpen_2 ⟨Nat.le_of_ble_eq_true rfl, Nat.le_of_ble_eq_true rfl⟩ (fun H locs hP hD hS => ?_)
  obtain ⟨k24, hk24, hf⟩ := jn_some hf
  have w24 : ∀ (_ : Unit), k24 () = r → ∀ (H : Heap) (locs : List Loc) (ls : Array Slot), va_P D vwCl (wB cI ad size rc g fs st ln su rr cr) H → va_D A (wB cI ad size rc g fs st ln su rr cr) → va_S A s.heap H locs → lv_has ls 2 [] → W p l e rm_X0_isOpen s m args below meth c H locs 0 0 Q (F0 m 24 ls []) := by
    intro _ hf H locs ls hP hD hS hl
    rw [hk24] at hf
    try dsimp only at hf
    refine lv_iconst (v := 0) hx hb dX0_isOpen_24 (by decide) ?_
    cases hf
    exact hR _ _ _ _ _ _ (by decide) rfl rfl hP hD hS dX0_isOpen_25
  refine lv_if_eq (tgt := 24) hx hb dX0_isOpen_5 (by decide) (fun c_5 => ?_) (fun c_5 => ?_)
  · have hf := ite_t c_5 hf
    exact w24 () hf _ _ _ hP hD hS (lv_sub hl [] rfl)
  · have hf := ite_f c_5 hf
    refine lv_aload_n hx hb dX0_isOpen_8 rfl (lv_at hl 0 rfl) ?_
    refine va_get (D := D) (ci := 0) (v := .ref (ad 1)) (C := RX0) (T := TX0) (N := 9) hx hb hts hinX0 hown hK.1 hP 0 rfl rfl 2 (by decide) (hts (.fieldLink RX0 9 "Gridpuzzle$Board" "givens" "[I") (by decide +kernel)) (fun _ h9 => h9) rfl dX0_isOpen_9 ?_
    refine lv_iload_n hx hb dX0_isOpen_12 rfl (lv_at hl 1 rfl) ?_
    refine clN_i (As := [.ref (ad 1), .int p1]) (rest := []) (wB cI ad size rc g fs st ln su rr cr) ⟨hx, hb, hml, hown, hts⟩ (K_X3_at l D cI cZ (ad 1) 16 (by decide) H.size g p1 _ rfl) ⟨va_cnB (host := RX3) 2 hts gX0_isOpen_X3_at_n50 rfl rfl rfl (hK.2 (RX0, 50, yX3_at) (by decide)) (hts (.initialized RX3) (by decide +kernel)) (by decide +kernel) ⟨Nat.le_of_ble_eq_true rfl, Nat.le_of_ble_eq_true rfl⟩, hts (.static yX3_at) (by decide +kernel), trivial⟩ hK hP hD hS hA hl.1 [1] (by decide) rfl rfl rfl rfl rfl (Nat.le_of_ble_eq_true rfl) dX0_isOpen_13 ⟨Nat.le_of_ble_eq_true rfl, Nat.le_of_ble_eq_true rfl⟩ (fun H locs hP hD hS => ?_)
    refine lv_iconst (v := (-1)) hx hb dX0_isOpen_16 (by decide) ?_
    refine lv_icmp_eq (tgt := 24) hx hb dX0_isOpen_17 (by decide) (fun c_17 => ?_) (fun c_17 => ?_)
    · have hf := ite_t c_17 hf
      exact w24 () hf _ _ _ hP hD hS (lv_sub hl [] rfl)
    · have hf := ite_f c_17 hf
      refine lv_iconst (v := 1) hx hb dX0_isOpen_20 (by decide) ?_
      refine lv_goto (tgt := 25) hx hb dX0_isOpen_21 (by decide) ?_
      cases hf
      exact hR _ _ _ _ _ _ (by decide) rfl rfl hP hD hS dX0_isOpen_25
def rm_X0_addRun : Room := { frames := 1, cells := 0, slots := 0, locals := 22 }
set_option maxRecDepth 100000 in
set_option maxHeartbeats 8000000 in
theorem K_X0_addRun (l : Launch) (D : va_G) (cI cZ : ClassId) (ad : Nat → Nat) (sz : Nat) (N : Nat) (size rc : Int32) (g fs st ln su rr cr : Nat → Int32) (p1 : Int32) (p2 : Int32) (p3 : Int32) (r : (Int32 × (Nat → Int32) × (Nat → Int32) × (Nat → Int32) × (Nat → Int32) × (Nat → Int32))) (hf : f_X0_addRun N rc fs st ln rr cr p1 p2 p3 = some r) : Met l yX0_addRun wsX0_addRun rm_X0_addRun (PC D cI cZ sz [.ref (ad 0), .int p1, .int p2, .int p3] (wB cI ad size rc g fs st ln su rr cr)) (QV D cI cZ sz (wB cI ad size rc g fs st ln su rr cr) (wB cI ad size r.1 g r.2.1 r.2.2.1 r.2.2.2.1 su r.2.2.2.2.1 r.2.2.2.2.2)) 0 0 (va_A (wB cI ad size rc g fs st ln su rr cr) sz) := by
  refine mk_v (cc := cX0_addRun) (maxL := 5) (lv0 := [(0, .ref (ad 0)), (1, .int p1), (2, .int p2), (3, .int p3)]) (by decide) rfl (Nat.le_of_ble_eq_true rfl) rfl ?_
  intro p e s m args below meth c ls A Q H hx hb hml hown hts hK hP hD hA hS hl hR
  have hinX0 : ∀ w ∈ wsX00, w ∈ wsX0_addRun := by decide +kernel
  rw [f_X0_addRun] at hf
  refine lv_iload_n hx hb dX0_addRun_0 rfl (lv_at hl 3 rfl) ?_
  refine lv_iconst (v := 2) hx hb dX0_addRun_1 (by decide) ?_
  refine lv_icmp_ge (tgt := 6) hx hb dX0_addRun_2 (by decide) (fun c_2 => ?_) (fun c_2 => ?_)
  · have hf := ite_t c_2 hf
    refine lv_aload_n hx hb dX0_addRun_6 rfl (lv_at hl 0 rfl) ?_
    refine va_get (D := D) (ci := 0) (v := .ref (ad 2)) (C := RX0) (T := TX0) (N := 9) hx hb hts hinX0 hown hK.1 hP 0 rfl rfl 3 (by decide) (hts (.fieldLink RX0 15 "Gridpuzzle$Board" "firsts" "[I") (by decide +kernel)) (fun _ h9 => h9) rfl dX0_addRun_7 ?_
    refine lv_aload_n hx hb dX0_addRun_10 rfl (lv_at hl 0 rfl) ?_
    refine va_get (D := D) (ci := 0) (v := .int rc) (C := RX0) (T := TX0) (N := 9) hx hb hts hinX0 hown hK.1 hP 0 rfl rfl 1 (by decide) (hts (.fieldLink RX0 68 "Gridpuzzle$Board" "runCount" "I") (by decide +kernel)) (fun _ h9 => h9) rfl dX0_addRun_11 ?_
    refine lv_iload_n hx hb dX0_addRun_14 rfl (lv_at hl 1 rfl) ?_
    refine clN_v (As := [.ref (ad 2), .int rc, .int p1]) (rest := []) (wB cI ad size rc g (f_X3_put 8 fs rc p1) st ln su rr cr) ⟨hx, hb, hml, hown, hts⟩ (K_X3_put l D cI cZ (ad 2) 8 (by decide) H.size fs rc p1 _ rfl) ⟨va_cnB (host := RX3) 3 hts gX0_addRun_X3_put_n54 rfl rfl rfl (hK.2 (RX0, 54, yX3_put) (by decide)) (hts (.initialized RX3) (by decide +kernel)) (by decide +kernel) ⟨Nat.le_of_ble_eq_true rfl, Nat.le_of_ble_eq_true rfl⟩, hts (.static yX3_put) (by decide +kernel), trivial⟩ hK hP hD hS hA hl.1 [2] (by decide) rfl rfl rfl rfl rfl (Nat.le_of_ble_eq_true rfl) dX0_addRun_15 ⟨Nat.le_of_ble_eq_true rfl, Nat.le_of_ble_eq_true rfl⟩ (fun H locs hP hD hS => ?_)
    refine lv_aload_n hx hb dX0_addRun_18 rfl (lv_at hl 0 rfl) ?_
    refine va_get (D := D) (ci := 0) (v := .ref (ad 3)) (C := RX0) (T := TX0) (N := 9) hx hb hts hinX0 hown hK.1 hP 0 rfl rfl 4 (by decide) (hts (.fieldLink RX0 18 "Gridpuzzle$Board" "steps" "[I") (by decide +kernel)) (fun _ h9 => h9) rfl dX0_addRun_19 ?_
    refine lv_aload_n hx hb dX0_addRun_22 rfl (lv_at hl 0 rfl) ?_
    refine va_get (D := D) (ci := 0) (v := .int rc) (C := RX0) (T := TX0) (N := 9) hx hb hts hinX0 hown hK.1 hP 0 rfl rfl 1 (by decide) (hts (.fieldLink RX0 68 "Gridpuzzle$Board" "runCount" "I") (by decide +kernel)) (fun _ h9 => h9) rfl dX0_addRun_23 ?_
    refine lv_iload_n hx hb dX0_addRun_26 rfl (lv_at hl 2 rfl) ?_
    refine clN_v (As := [.ref (ad 3), .int rc, .int p2]) (rest := []) (wB cI ad size rc g (f_X3_put 8 fs rc p1) (f_X3_put 8 st rc p2) ln su rr cr) ⟨hx, hb, hml, hown, hts⟩ (K_X3_put l D cI cZ (ad 3) 8 (by decide) H.size st rc p2 _ rfl) ⟨va_cnB (host := RX3) 3 hts gX0_addRun_X3_put_n54 rfl rfl rfl (hK.2 (RX0, 54, yX3_put) (by decide)) (hts (.initialized RX3) (by decide +kernel)) (by decide +kernel) ⟨Nat.le_of_ble_eq_true rfl, Nat.le_of_ble_eq_true rfl⟩, hts (.static yX3_put) (by decide +kernel), trivial⟩ hK hP hD hS hA hl.1 [3] (by decide) rfl rfl rfl rfl rfl (Nat.le_of_ble_eq_true rfl) dX0_addRun_27 ⟨Nat.le_of_ble_eq_true rfl, Nat.le_of_ble_eq_true rfl⟩ (fun H locs hP hD hS => ?_)
    refine lv_aload_n hx hb dX0_addRun_30 rfl (lv_at hl 0 rfl) ?_
    refine va_get (D := D) (ci := 0) (v := .ref (ad 4)) (C := RX0) (T := TX0) (N := 9) hx hb hts hinX0 hown hK.1 hP 0 rfl rfl 5 (by decide) (hts (.fieldLink RX0 21 "Gridpuzzle$Board" "lengths" "[I") (by decide +kernel)) (fun _ h9 => h9) rfl dX0_addRun_31 ?_
    refine lv_aload_n hx hb dX0_addRun_34 rfl (lv_at hl 0 rfl) ?_
    refine va_get (D := D) (ci := 0) (v := .int rc) (C := RX0) (T := TX0) (N := 9) hx hb hts hinX0 hown hK.1 hP 0 rfl rfl 1 (by decide) (hts (.fieldLink RX0 68 "Gridpuzzle$Board" "runCount" "I") (by decide +kernel)) (fun _ h9 => h9) rfl dX0_addRun_35 ?_
    refine lv_iload_n hx hb dX0_addRun_38 rfl (lv_at hl 3 rfl) ?_
    refine clN_v (As := [.ref (ad 4), .int rc, .int p3]) (rest := []) (wB cI ad size rc g (f_X3_put 8 fs rc p1) (f_X3_put 8 st rc p2) (f_X3_put 8 ln rc p3) su rr cr) ⟨hx, hb, hml, hown, hts⟩ (K_X3_put l D cI cZ (ad 4) 8 (by decide) H.size ln rc p3 _ rfl) ⟨va_cnB (host := RX3) 3 hts gX0_addRun_X3_put_n54 rfl rfl rfl (hK.2 (RX0, 54, yX3_put) (by decide)) (hts (.initialized RX3) (by decide +kernel)) (by decide +kernel) ⟨Nat.le_of_ble_eq_true rfl, Nat.le_of_ble_eq_true rfl⟩, hts (.static yX3_put) (by decide +kernel), trivial⟩ hK hP hD hS hA hl.1 [4] (by decide) rfl rfl rfl rfl rfl (Nat.le_of_ble_eq_true rfl) dX0_addRun_39 ⟨Nat.le_of_ble_eq_true rfl, Nat.le_of_ble_eq_true rfl⟩ (fun H locs hP hD hS => ?_)
    refine lv_iconst (v := 0) hx hb dX0_addRun_42 (by decide) ?_
    refine lv_istore (lv' := [(4, .int 0), (0, .ref (ad 0)), (1, .int p1), (2, .int p2), (3, .int p3)]) hx hb dX0_addRun_43 hl (by decide) rfl (fun ls hl => ?_)
    obtain ⟨k86, hk86, hf⟩ := jn_some hf
    have w86 : ∀ (rr_86 : Nat → Int32) (cr_86 : Nat → Int32), k86 rr_86 cr_86 = some r → ∀ (H : Heap) (locs : List Loc) (ls : Array Slot), va_P D vwCl (wB cI ad size rc g (f_X3_put 8 fs rc p1) (f_X3_put 8 st rc p2) (f_X3_put 8 ln rc p3) su rr_86 cr_86) H → va_D A (wB cI ad size rc g (f_X3_put 8 fs rc p1) (f_X3_put 8 st rc p2) (f_X3_put 8 ln rc p3) su rr_86 cr_86) → va_S A s.heap H locs → lv_has ls 5 [(0, .ref (ad 0))] → W p l e rm_X0_addRun s m args below meth c H locs 0 0 Q (F0 m 86 ls []) := by
      intro rr_86 cr_86 hf H locs ls hP hD hS hl
      rw [hk86] at hf
      try dsimp only at hf
      refine lv_aload_n hx hb dX0_addRun_86 rfl (lv_at hl 0 rfl) ?_
      refine lv_dup hx hb dX0_addRun_87 rfl ?_
      refine va_get (D := D) (ci := 0) (v := .int rc) (C := RX0) (T := TX0) (N := 9) hx hb hts hinX0 hown hK.1 hP 0 rfl rfl 1 (by decide) (hts (.fieldLink RX0 68 "Gridpuzzle$Board" "runCount" "I") (by decide +kernel)) (fun _ h9 => h9) rfl dX0_addRun_88 ?_
      refine lv_iconst (v := 1) hx hb dX0_addRun_91 (by decide) ?_
      refine lv_iadd hx hb dX0_addRun_92 ?_
      refine va_put (D := D) (ci := 0) (v := .int (rc + 1)) (ty := .int) (C := RX0) (T := TX0) (N := 9) hx hb hts hinX0 tyX0 tyX0_ok nmX0 hown hK.1 hP hD hS 0 rfl rfl 1 (by decide) (hts (.fieldLink RX0 68 "Gridpuzzle$Board" "runCount" "I") (by decide +kernel)) (fun _ h9 => h9) rfl (by decide +kernel) rfl rfl (Nat.le_of_ble_eq_true rfl) dX0_addRun_93 (fun H locs hP hD hS => ?_)
      have hP : va_P D vwCl (wB cI ad size (rc + 1) g (f_X3_put 8 fs rc p1) (f_X3_put 8 st rc p2) (f_X3_put 8 ln rc p3) su rr_86 cr_86) H := hP
      have hD : va_D A (wB cI ad size (rc + 1) g (f_X3_put 8 fs rc p1) (f_X3_put 8 st rc p2) (f_X3_put 8 ln rc p3) su rr_86 cr_86) := hD
      cases hf
      exact hR _ _ _ _ _ rfl hP hD hS dX0_addRun_96
    have l45 : ∀ (nn : Nat) (v4_45 : Int32) (rr_45 : Nat → Int32) (cr_45 : Nat → Int32), f_X0_addRun_L45 p1 p2 p3 rc k86 nn v4_45 rr_45 cr_45 = some r → ∀ (H : Heap) (locs : List Loc) (ls : Array Slot), va_P D vwCl (wB cI ad size rc g (f_X3_put 8 fs rc p1) (f_X3_put 8 st rc p2) (f_X3_put 8 ln rc p3) su rr_45 cr_45) H → va_D A (wB cI ad size rc g (f_X3_put 8 fs rc p1) (f_X3_put 8 st rc p2) (f_X3_put 8 ln rc p3) su rr_45 cr_45) → va_S A s.heap H locs → lv_has ls 5 [(0, .ref (ad 0)), (1, .int p1), (2, .int p2), (3, .int p3), (4, .int v4_45)] → W p l e rm_X0_addRun s m args below meth c H locs 0 0 Q (F0 m 45 ls []) := by
      intro nn
      induction nn with
      | zero => intro _ _ _ hf; exact nomatch (show (none : Option _) = some r from hf)
      | succ n45 ih45 =>
        intro v4_45 rr_45 cr_45 hf H locs ls hP hD hS hl
        rw [f_X0_addRun_L45.eq_2] at hf
        refine lv_iload hx hb dX0_addRun_45 (lv_at hl 4 rfl) ?_
        refine lv_iload_n hx hb dX0_addRun_47 rfl (lv_at hl 3 rfl) ?_
        refine lv_icmp_ge (tgt := 86) hx hb dX0_addRun_48 (by decide) (fun c_48 => ?_) (fun c_48 => ?_)
        · have hf := ite_t c_48 hf
          exact w86 rr_45 cr_45 hf _ _ _ hP hD hS (lv_sub hl [0] rfl)
        · have hf := ite_f c_48 hf
          refine lv_iload_n hx hb dX0_addRun_51 rfl (lv_at hl 2 rfl) ?_
          refine lv_iconst (v := 1) hx hb dX0_addRun_52 (by decide) ?_
          refine lv_icmp_ne (tgt := 63) hx hb dX0_addRun_53 (by decide) (fun c_53 => ?_) (fun c_53 => ?_)
          · have hf := ite_f c_53 hf
            refine lv_aload_n hx hb dX0_addRun_63 rfl (lv_at hl 0 rfl) ?_
            refine va_get (D := D) (ci := 0) (v := .ref (ad 7)) (C := RX0) (T := TX0) (N := 9) hx hb hts hinX0 hown hK.1 hP 0 rfl rfl 8 (by decide) (hts (.fieldLink RX0 30 "Gridpuzzle$Board" "columnRuns" "[I") (by decide +kernel)) (fun _ h9 => h9) rfl dX0_addRun_64 ?_
            refine lv_iload_n hx hb dX0_addRun_67 rfl (lv_at hl 1 rfl) ?_
            refine lv_iload hx hb dX0_addRun_68 (lv_at hl 4 rfl) ?_
            refine lv_iload_n hx hb dX0_addRun_70 rfl (lv_at hl 2 rfl) ?_
            refine lv_imul hx hb dX0_addRun_71 ?_
            refine lv_iadd hx hb dX0_addRun_72 ?_
            refine lv_aload_n hx hb dX0_addRun_73 rfl (lv_at hl 0 rfl) ?_
            refine va_get (D := D) (ci := 0) (v := .int rc) (C := RX0) (T := TX0) (N := 9) hx hb hts hinX0 hown hK.1 hP 0 rfl rfl 1 (by decide) (hts (.fieldLink RX0 68 "Gridpuzzle$Board" "runCount" "I") (by decide +kernel)) (fun _ h9 => h9) rfl dX0_addRun_74 ?_
            refine clN_v (As := [.ref (ad 7), .int (p1 + (v4_45 * p2)), .int rc]) (rest := []) (wB cI ad size rc g (f_X3_put 8 fs rc p1) (f_X3_put 8 st rc p2) (f_X3_put 8 ln rc p3) su rr_45 (f_X3_put 16 cr_45 (p1 + (v4_45 * p2)) rc)) ⟨hx, hb, hml, hown, hts⟩ (K_X3_put l D cI cZ (ad 7) 16 (by decide) H.size cr_45 (p1 + (v4_45 * p2)) rc _ rfl) ⟨va_cnB (host := RX3) 3 hts gX0_addRun_X3_put_n54 rfl rfl rfl (hK.2 (RX0, 54, yX3_put) (by decide)) (hts (.initialized RX3) (by decide +kernel)) (by decide +kernel) ⟨Nat.le_of_ble_eq_true rfl, Nat.le_of_ble_eq_true rfl⟩, hts (.static yX3_put) (by decide +kernel), trivial⟩ hK hP hD hS hA hl.1 [7] (by decide) rfl rfl rfl rfl rfl (Nat.le_of_ble_eq_true rfl) dX0_addRun_77 ⟨Nat.le_of_ble_eq_true rfl, Nat.le_of_ble_eq_true rfl⟩ (fun H locs hP hD hS => ?_)
            refine lv_iinc (v := (v4_45 + 1)) (lv' := [(4, .int (v4_45 + 1)), (0, .ref (ad 0)), (1, .int p1), (2, .int p2), (3, .int p3)]) hx hb dX0_addRun_80 hl (k := 4) rfl rfl (by decide) rfl (fun ls hl => ?_)
            refine lv_goto (tgt := 45) hx hb dX0_addRun_83 (by decide) ?_
            exact ih45 (v4_45 + 1) rr_45 (f_X3_put 16 cr_45 (p1 + (v4_45 * p2)) rc) hf _ _ _ hP hD hS (lv_sub hl [1, 2, 3, 4, 0] rfl)
          · have hf := ite_t c_53 hf
            refine lv_aload_n hx hb dX0_addRun_56 rfl (lv_at hl 0 rfl) ?_
            refine va_get (D := D) (ci := 0) (v := .ref (ad 6)) (C := RX0) (T := TX0) (N := 9) hx hb hts hinX0 hown hK.1 hP 0 rfl rfl 7 (by decide) (hts (.fieldLink RX0 27 "Gridpuzzle$Board" "rowRuns" "[I") (by decide +kernel)) (fun _ h9 => h9) rfl dX0_addRun_57 ?_
            refine lv_goto (tgt := 67) hx hb dX0_addRun_60 (by decide) ?_
            refine lv_iload_n hx hb dX0_addRun_67 rfl (lv_at hl 1 rfl) ?_
            refine lv_iload hx hb dX0_addRun_68 (lv_at hl 4 rfl) ?_
            refine lv_iload_n hx hb dX0_addRun_70 rfl (lv_at hl 2 rfl) ?_
            refine lv_imul hx hb dX0_addRun_71 ?_
            refine lv_iadd hx hb dX0_addRun_72 ?_
            refine lv_aload_n hx hb dX0_addRun_73 rfl (lv_at hl 0 rfl) ?_
            refine va_get (D := D) (ci := 0) (v := .int rc) (C := RX0) (T := TX0) (N := 9) hx hb hts hinX0 hown hK.1 hP 0 rfl rfl 1 (by decide) (hts (.fieldLink RX0 68 "Gridpuzzle$Board" "runCount" "I") (by decide +kernel)) (fun _ h9 => h9) rfl dX0_addRun_74 ?_
            refine clN_v (As := [.ref (ad 6), .int (p1 + (v4_45 * p2)), .int rc]) (rest := []) (wB cI ad size rc g (f_X3_put 8 fs rc p1) (f_X3_put 8 st rc p2) (f_X3_put 8 ln rc p3) su (f_X3_put 16 rr_45 (p1 + (v4_45 * p2)) rc) cr_45) ⟨hx, hb, hml, hown, hts⟩ (K_X3_put l D cI cZ (ad 6) 16 (by decide) H.size rr_45 (p1 + (v4_45 * p2)) rc _ rfl) ⟨va_cnB (host := RX3) 3 hts gX0_addRun_X3_put_n54 rfl rfl rfl (hK.2 (RX0, 54, yX3_put) (by decide)) (hts (.initialized RX3) (by decide +kernel)) (by decide +kernel) ⟨Nat.le_of_ble_eq_true rfl, Nat.le_of_ble_eq_true rfl⟩, hts (.static yX3_put) (by decide +kernel), trivial⟩ hK hP hD hS hA hl.1 [6] (by decide) rfl rfl rfl rfl rfl (Nat.le_of_ble_eq_true rfl) dX0_addRun_77 ⟨Nat.le_of_ble_eq_true rfl, Nat.le_of_ble_eq_true rfl⟩ (fun H locs hP hD hS => ?_)
            refine lv_iinc (v := (v4_45 + 1)) (lv' := [(4, .int (v4_45 + 1)), (0, .ref (ad 0)), (1, .int p1), (2, .int p2), (3, .int p3)]) hx hb dX0_addRun_80 hl (k := 4) rfl rfl (by decide) rfl (fun ls hl => ?_)
            refine lv_goto (tgt := 45) hx hb dX0_addRun_83 (by decide) ?_
            exact ih45 (v4_45 + 1) (f_X3_put 16 rr_45 (p1 + (v4_45 * p2)) rc) cr_45 hf _ _ _ hP hD hS (lv_sub hl [1, 2, 3, 4, 0] rfl)
    exact l45 N 0 rr cr hf _ _ _ hP hD hS (lv_sub hl [1, 2, 3, 4, 0] rfl)
  · have hf := ite_f c_2 hf
    cases hf
    exact hR _ _ _ _ _ rfl hP hD hS dX0_addRun_5
def rm_X0_findRunsOfLine : Room := { frames := 2, cells := 0, slots := 0, locals := 46 }
set_option maxRecDepth 100000 in
set_option maxHeartbeats 8000000 in
theorem K_X0_findRunsOfLine (l : Launch) (D : va_G) (cI cZ : ClassId) (ad : Nat → Nat) (sz : Nat) (N : Nat) (size rc : Int32) (g fs st ln su rr cr : Nat → Int32) (p1 : Int32) (p2 : Int32) (r : (Int32 × (Nat → Int32) × (Nat → Int32) × (Nat → Int32) × (Nat → Int32) × (Nat → Int32))) (hf : f_X0_findRunsOfLine N size rc g fs st ln rr cr p1 p2 = some r) : Met l yX0_findRunsOfLine wsX0_findRunsOfLine rm_X0_findRunsOfLine (PC D cI cZ sz [.ref (ad 0), .int p1, .int p2] (wB cI ad size rc g fs st ln su rr cr)) (QV D cI cZ sz (wB cI ad size rc g fs st ln su rr cr) (wB cI ad size r.1 g r.2.1 r.2.2.1 r.2.2.2.1 su r.2.2.2.2.1 r.2.2.2.2.2)) 0 0 (va_A (wB cI ad size rc g fs st ln su rr cr) sz) := by
  refine mk_v (cc := cX0_findRunsOfLine) (maxL := 5) (lv0 := [(0, .ref (ad 0)), (1, .int p1), (2, .int p2)]) (by decide) rfl (Nat.le_of_ble_eq_true rfl) rfl ?_
  intro p e s m args below meth c ls A Q H hx hb hml hown hts hK hP hD hA hS hl hR
  have hinX0 : ∀ w ∈ wsX00, w ∈ wsX0_findRunsOfLine := by decide +kernel
  rw [f_X0_findRunsOfLine] at hf
  refine lv_iconst (v := 0) hx hb dX0_findRunsOfLine_0 (by decide) ?_
  refine lv_istore_n (lv' := [(3, .int 0), (0, .ref (ad 0)), (1, .int p1), (2, .int p2)]) hx hb dX0_findRunsOfLine_1 rfl hl (by decide) rfl (fun ls hl => ?_)
  refine lv_iconst (v := 0) hx hb dX0_findRunsOfLine_2 (by decide) ?_
  refine lv_istore (lv' := [(4, .int 0), (3, .int 0), (0, .ref (ad 0)), (1, .int p1), (2, .int p2)]) hx hb dX0_findRunsOfLine_3 hl (by decide) rfl (fun ls hl => ?_)
  have l5 : ∀ (nn : Nat) (v3_5 : Int32) (v4_5 : Int32) (rc_5 : Int32) (fs_5 : Nat → Int32) (st_5 : Nat → Int32) (ln_5 : Nat → Int32) (rr_5 : Nat → Int32) (cr_5 : Nat → Int32), f_X0_findRunsOfLine_L5 N p1 p2 size g nn v3_5 v4_5 rc_5 fs_5 st_5 ln_5 rr_5 cr_5 = some r → ∀ (H : Heap) (locs : List Loc) (ls : Array Slot), va_P D vwCl (wB cI ad size rc_5 g fs_5 st_5 ln_5 su rr_5 cr_5) H → va_D A (wB cI ad size rc_5 g fs_5 st_5 ln_5 su rr_5 cr_5) → va_S A s.heap H locs → lv_has ls 5 [(0, .ref (ad 0)), (1, .int p1), (2, .int p2), (3, .int v3_5), (4, .int v4_5)] → W p l e rm_X0_findRunsOfLine s m args below meth c H locs 0 0 Q (F0 m 5 ls []) := by
    intro nn
    induction nn with
    | zero => intro _ _ _ _ _ _ _ _ hf; exact nomatch (show (none : Option _) = some r from hf)
    | succ n5 ih5 =>
      intro v3_5 v4_5 rc_5 fs_5 st_5 ln_5 rr_5 cr_5 hf H locs ls hP hD hS hl
      rw [f_X0_findRunsOfLine_L5.eq_2] at hf
      refine lv_iload hx hb dX0_findRunsOfLine_5 (lv_at hl 4 rfl) ?_
      refine lv_aload_n hx hb dX0_findRunsOfLine_7 rfl (lv_at hl 0 rfl) ?_
      refine va_get (D := D) (ci := 0) (v := .int size) (C := RX0) (T := TX0) (N := 9) hx hb hts hinX0 hown hK.1 hP 0 rfl rfl 0 (by decide) (hts (.fieldLink RX0 33 "Gridpuzzle$Board" "size" "I") (by decide +kernel)) (fun _ h9 => h9) rfl dX0_findRunsOfLine_8 ?_
      refine lv_icmp_gt (tgt := 64) hx hb dX0_findRunsOfLine_11 (by decide) (fun c_11 => ?_) (fun c_11 => ?_)
      · have hf := ite_t c_11 hf
        cases hf
        exact hR _ _ _ _ _ rfl hP hD hS dX0_findRunsOfLine_64
      · have hf := ite_f c_11 hf
        refine lv_iload hx hb dX0_findRunsOfLine_14 (lv_at hl 4 rfl) ?_
        refine lv_aload_n hx hb dX0_findRunsOfLine_16 rfl (lv_at hl 0 rfl) ?_
        refine va_get (D := D) (ci := 0) (v := .int size) (C := RX0) (T := TX0) (N := 9) hx hb hts hinX0 hown hK.1 hP 0 rfl rfl 0 (by decide) (hts (.fieldLink RX0 33 "Gridpuzzle$Board" "size" "I") (by decide +kernel)) (fun _ h9 => h9) rfl dX0_findRunsOfLine_17 ?_
        obtain ⟨k58, hk58, hf⟩ := jn_some hf
        have w58 : ∀ (v3_58 : Int32) (rc_58 : Int32) (fs_58 : Nat → Int32) (st_58 : Nat → Int32) (ln_58 : Nat → Int32) (rr_58 : Nat → Int32) (cr_58 : Nat → Int32), k58 v3_58 rc_58 fs_58 st_58 ln_58 rr_58 cr_58 = some r → ∀ (H : Heap) (locs : List Loc) (ls : Array Slot), va_P D vwCl (wB cI ad size rc_58 g fs_58 st_58 ln_58 su rr_58 cr_58) H → va_D A (wB cI ad size rc_58 g fs_58 st_58 ln_58 su rr_58 cr_58) → va_S A s.heap H locs → lv_has ls 5 [(0, .ref (ad 0)), (1, .int p1), (2, .int p2), (3, .int v3_58), (4, .int v4_5)] → W p l e rm_X0_findRunsOfLine s m args below meth c H locs 0 0 Q (F0 m 58 ls []) := by
          intro v3_58 rc_58 fs_58 st_58 ln_58 rr_58 cr_58 hf H locs ls hP hD hS hl
          rw [hk58] at hf
          try dsimp only at hf
          refine lv_iinc (v := (v4_5 + 1)) (lv' := [(4, .int (v4_5 + 1)), (0, .ref (ad 0)), (1, .int p1), (2, .int p2), (3, .int v3_58)]) hx hb dX0_findRunsOfLine_58 hl (k := 4) rfl rfl (by decide) rfl (fun ls hl => ?_)
          refine lv_goto (tgt := 5) hx hb dX0_findRunsOfLine_61 (by decide) ?_
          exact ih5 v3_58 (v4_5 + 1) rc_58 fs_58 st_58 ln_58 rr_58 cr_58 hf _ _ _ hP hD hS (lv_sub hl [1, 2, 3, 4, 0] rfl)
        obtain ⟨k42, hk42, hf⟩ := jn_some hf
        have w42 : ∀ (_ : Unit), k42 () = some r → ∀ (H : Heap) (locs : List Loc) (ls : Array Slot), va_P D vwCl (wB cI ad size rc_5 g fs_5 st_5 ln_5 su rr_5 cr_5) H → va_D A (wB cI ad size rc_5 g fs_5 st_5 ln_5 su rr_5 cr_5) → va_S A s.heap H locs → lv_has ls 5 [(0, .ref (ad 0)), (1, .int p1), (2, .int p2), (3, .int v3_5), (4, .int v4_5)] → W p l e rm_X0_findRunsOfLine s m args below meth c H locs 0 0 Q (F0 m 42 ls []) := by
          intro _ hf H locs ls hP hD hS hl
          rw [hk42] at hf
          try dsimp only at hf
          refine lv_aload_n hx hb dX0_findRunsOfLine_42 rfl (lv_at hl 0 rfl) ?_
          refine lv_iload_n hx hb dX0_findRunsOfLine_43 rfl (lv_at hl 1 rfl) ?_
          refine lv_iload hx hb dX0_findRunsOfLine_44 (lv_at hl 4 rfl) ?_
          refine lv_iload_n hx hb dX0_findRunsOfLine_46 rfl (lv_at hl 3 rfl) ?_
          refine lv_isub hx hb dX0_findRunsOfLine_47 ?_
          refine lv_iload_n hx hb dX0_findRunsOfLine_48 rfl (lv_at hl 2 rfl) ?_
          refine lv_imul hx hb dX0_findRunsOfLine_49 ?_
          refine lv_iadd hx hb dX0_findRunsOfLine_50 ?_
          refine lv_iload_n hx hb dX0_findRunsOfLine_51 rfl (lv_at hl 2 rfl) ?_
          refine lv_iload_n hx hb dX0_findRunsOfLine_52 rfl (lv_at hl 3 rfl) ?_
          obtain ⟨x53, hy53, hf⟩ := Option.bind_eq_some_iff.mp hf
          refine clV_v (As := [.int (p1 + ((v4_5 - v3_5) * p2)), .int p2, .int v3_5]) (rest := []) (wB cI ad size x53.1 g x53.2.1 x53.2.2.1 x53.2.2.2.1 su x53.2.2.2.2.1 x53.2.2.2.2.2) ⟨hx, hb, hml, hown, hts⟩ (K_X0_addRun l D cI cZ ad H.size N size rc_5 g fs_5 st_5 ln_5 su rr_5 cr_5 (p1 + ((v4_5 - v3_5) * p2)) p2 v3_5 _ hy53) (cwV 3 hts gX0_findRunsOfLine_X0_addRun rfl rfl rfl (by decide +kernel) ⟨Nat.le_of_ble_eq_true rfl, Nat.le_of_ble_eq_true rfl⟩) hK hP hD hS hA hl.1 [0, 1, 2, 3, 4, 5, 6, 7] (by decide) rfl rfl rfl 0 0 rfl rfl rfl rfl rfl (Nat.le_of_ble_eq_true rfl) dX0_findRunsOfLine_53 ⟨Nat.le_of_ble_eq_true rfl, Nat.le_of_ble_eq_true rfl⟩ (fun H locs hP hD hS => ?_)
          refine lv_iconst (v := 0) hx hb dX0_findRunsOfLine_56 (by decide) ?_
          refine lv_istore_n (lv' := [(3, .int 0), (0, .ref (ad 0)), (1, .int p1), (2, .int p2), (4, .int v4_5)]) hx hb dX0_findRunsOfLine_57 rfl hl (by decide) rfl (fun ls hl => ?_)
          exact w58 0 x53.1 x53.2.1 x53.2.2.1 x53.2.2.2.1 x53.2.2.2.2.1 x53.2.2.2.2.2 hf _ _ _ hP hD hS (lv_sub hl [1, 2, 3, 0, 4] rfl)
        refine lv_icmp_ge (tgt := 42) hx hb dX0_findRunsOfLine_20 (by decide) (fun c_20 => ?_) (fun c_20 => ?_)
        · have hf := ite_t c_20 hf
          exact w42 () hf _ _ _ hP hD hS (lv_sub hl [0, 1, 2, 3, 4] rfl)
        · have hf := ite_f c_20 hf
          refine lv_aload_n hx hb dX0_findRunsOfLine_23 rfl (lv_at hl 0 rfl) ?_
          refine lv_iload_n hx hb dX0_findRunsOfLine_24 rfl (lv_at hl 1 rfl) ?_
          refine lv_iload hx hb dX0_findRunsOfLine_25 (lv_at hl 4 rfl) ?_
          refine lv_iload_n hx hb dX0_findRunsOfLine_27 rfl (lv_at hl 2 rfl) ?_
          refine lv_imul hx hb dX0_findRunsOfLine_28 ?_
          refine lv_iadd hx hb dX0_findRunsOfLine_29 ?_
          refine clV_i (As := [.int (p1 + (v4_5 * p2))]) (rest := []) (wB cI ad size rc_5 g fs_5 st_5 ln_5 su rr_5 cr_5) ⟨hx, hb, hml, hown, hts⟩ (K_X0_isOpen l D cI cZ ad H.size size rc_5 g fs_5 st_5 ln_5 su rr_5 cr_5 (p1 + (v4_5 * p2)) _ rfl) (cwV 1 hts gX0_findRunsOfLine_X0_isOpen rfl rfl rfl (by decide +kernel) ⟨Nat.le_of_ble_eq_true rfl, Nat.le_of_ble_eq_true rfl⟩) hK hP hD hS hA hl.1 [0, 1, 2, 3, 4, 5, 6, 7] (by decide) rfl rfl rfl 0 0 rfl rfl rfl rfl rfl (Nat.le_of_ble_eq_true rfl) dX0_findRunsOfLine_30 ⟨Nat.le_of_ble_eq_true rfl, Nat.le_of_ble_eq_true rfl⟩ (fun H locs hP hD hS => ?_)
          refine lv_if_eq (tgt := 42) hx hb dX0_findRunsOfLine_33 (by decide) (fun c_33 => ?_) (fun c_33 => ?_)
          · have hf := ite_t c_33 hf
            exact w42 () hf _ _ _ hP hD hS (lv_sub hl [0, 1, 2, 3, 4] rfl)
          · have hf := ite_f c_33 hf
            refine lv_iinc (v := (v3_5 + 1)) (lv' := [(3, .int (v3_5 + 1)), (0, .ref (ad 0)), (1, .int p1), (2, .int p2), (4, .int v4_5)]) hx hb dX0_findRunsOfLine_36 hl (k := 3) rfl rfl (by decide) rfl (fun ls hl => ?_)
            refine lv_goto (tgt := 58) hx hb dX0_findRunsOfLine_39 (by decide) ?_
            exact w58 (v3_5 + 1) rc_5 fs_5 st_5 ln_5 rr_5 cr_5 hf _ _ _ hP hD hS (lv_sub hl [1, 2, 3, 0, 4] rfl)
  exact l5 N 0 0 rc fs st ln rr cr hf _ _ _ hP hD hS (lv_sub hl [2, 3, 4, 1, 0] rfl)
def rm_X0_findRuns : Room := { frames := 3, cells := 0, slots := 0, locals := 70 }
set_option maxRecDepth 100000 in
set_option maxHeartbeats 8000000 in
theorem K_X0_findRuns (l : Launch) (D : va_G) (cI cZ : ClassId) (ad : Nat → Nat) (sz : Nat) (N : Nat) (size rc : Int32) (g fs st ln su rr cr : Nat → Int32) (r : (Int32 × (Nat → Int32) × (Nat → Int32) × (Nat → Int32) × (Nat → Int32) × (Nat → Int32) × (Nat → Int32))) (hf : f_X0_findRuns N size rc g fs st ln su rr cr = some r) : Met l yX0_findRuns wsX0_findRuns rm_X0_findRuns (PC D cI cZ sz [.ref (ad 0)] (wB cI ad size rc g fs st ln su rr cr)) (QV D cI cZ sz (wB cI ad size rc g fs st ln su rr cr) (wB cI ad size r.1 g r.2.1 r.2.2.1 r.2.2.2.1 r.2.2.2.2.1 r.2.2.2.2.2.1 r.2.2.2.2.2.2)) 0 0 (va_A (wB cI ad size rc g fs st ln su rr cr) sz) := by
  refine mk_v (cc := cX0_findRuns) (maxL := 2) (lv0 := [(0, .ref (ad 0))]) (by decide) rfl (Nat.le_of_ble_eq_true rfl) rfl ?_
  intro p e s m args below meth c ls A Q H hx hb hml hown hts hK hP hD hA hS hl hR
  have hinX0 : ∀ w ∈ wsX00, w ∈ wsX0_findRuns := by decide +kernel
  rw [f_X0_findRuns] at hf
  refine lv_aload_n hx hb dX0_findRuns_0 rfl (lv_at hl 0 rfl) ?_
  refine lv_iconst (v := 0) hx hb dX0_findRuns_1 (by decide) ?_
  refine va_put (D := D) (ci := 0) (v := .int 0) (ty := .int) (C := RX0) (T := TX0) (N := 9) hx hb hts hinX0 tyX0 tyX0_ok nmX0 hown hK.1 hP hD hS 0 rfl rfl 1 (by decide) (hts (.fieldLink RX0 68 "Gridpuzzle$Board" "runCount" "I") (by decide +kernel)) (fun _ h9 => h9) rfl (by decide +kernel) rfl rfl (Nat.le_of_ble_eq_true rfl) dX0_findRuns_2 (fun H locs hP hD hS => ?_)
  have hP : va_P D vwCl (wB cI ad size 0 g fs st ln su rr cr) H := hP
  have hD : va_D A (wB cI ad size 0 g fs st ln su rr cr) := hD
  refine lv_aload_n hx hb dX0_findRuns_5 rfl (lv_at hl 0 rfl) ?_
  refine va_get (D := D) (ci := 0) (v := .ref (ad 5)) (C := RX0) (T := TX0) (N := 9) hx hb hts hinX0 hown hK.1 hP 0 rfl rfl 6 (by decide) (hts (.fieldLink RX0 24 "Gridpuzzle$Board" "sums" "[I") (by decide +kernel)) (fun _ h9 => h9) rfl dX0_findRuns_6 ?_
  refine lv_iconst (v := 0) hx hb dX0_findRuns_9 (by decide) ?_
  obtain ⟨x10, hy10, hf⟩ := Option.bind_eq_some_iff.mp hf
  refine clS_v (As := [.ref (ad 5), .int 0]) (rest := []) (wB cI ad size 0 g fs st ln x10 rr cr) ⟨hx, hb, hml, hown, hts⟩ (K_J7_fill_53178 l D cI cZ (ad 5) 8 (by decide) H.size N su 0 _ hy10) (va_cwS 2 hts gX0_findRuns_J7_fill_53178 rfl rfl rfl (by decide +kernel) ⟨Nat.le_of_ble_eq_true rfl, Nat.le_of_ble_eq_true rfl⟩) hK hP hD hS hA hl.1 [5] (by decide) rfl rfl rfl rfl rfl (Nat.le_of_ble_eq_true rfl) dX0_findRuns_10 ⟨Nat.le_of_ble_eq_true rfl, Nat.le_of_ble_eq_true rfl⟩ (fun H locs hP hD hS => ?_)
  refine lv_aload_n hx hb dX0_findRuns_13 rfl (lv_at hl 0 rfl) ?_
  refine va_get (D := D) (ci := 0) (v := .ref (ad 6)) (C := RX0) (T := TX0) (N := 9) hx hb hts hinX0 hown hK.1 hP 0 rfl rfl 7 (by decide) (hts (.fieldLink RX0 27 "Gridpuzzle$Board" "rowRuns" "[I") (by decide +kernel)) (fun _ h9 => h9) rfl dX0_findRuns_14 ?_
  refine lv_iconst (v := (-1)) hx hb dX0_findRuns_17 (by decide) ?_
  obtain ⟨x18, hy18, hf⟩ := Option.bind_eq_some_iff.mp hf
  refine clS_v (As := [.ref (ad 6), .int (-1)]) (rest := []) (wB cI ad size 0 g fs st ln x10 x18 cr) ⟨hx, hb, hml, hown, hts⟩ (K_J7_fill_53178 l D cI cZ (ad 6) 16 (by decide) H.size N rr (-1) _ hy18) (va_cwS 2 hts gX0_findRuns_J7_fill_53178 rfl rfl rfl (by decide +kernel) ⟨Nat.le_of_ble_eq_true rfl, Nat.le_of_ble_eq_true rfl⟩) hK hP hD hS hA hl.1 [6] (by decide) rfl rfl rfl rfl rfl (Nat.le_of_ble_eq_true rfl) dX0_findRuns_18 ⟨Nat.le_of_ble_eq_true rfl, Nat.le_of_ble_eq_true rfl⟩ (fun H locs hP hD hS => ?_)
  refine lv_aload_n hx hb dX0_findRuns_21 rfl (lv_at hl 0 rfl) ?_
  refine va_get (D := D) (ci := 0) (v := .ref (ad 7)) (C := RX0) (T := TX0) (N := 9) hx hb hts hinX0 hown hK.1 hP 0 rfl rfl 8 (by decide) (hts (.fieldLink RX0 30 "Gridpuzzle$Board" "columnRuns" "[I") (by decide +kernel)) (fun _ h9 => h9) rfl dX0_findRuns_22 ?_
  refine lv_iconst (v := (-1)) hx hb dX0_findRuns_25 (by decide) ?_
  obtain ⟨x26, hy26, hf⟩ := Option.bind_eq_some_iff.mp hf
  refine clS_v (As := [.ref (ad 7), .int (-1)]) (rest := []) (wB cI ad size 0 g fs st ln x10 x18 x26) ⟨hx, hb, hml, hown, hts⟩ (K_J7_fill_53178 l D cI cZ (ad 7) 16 (by decide) H.size N cr (-1) _ hy26) (va_cwS 2 hts gX0_findRuns_J7_fill_53178 rfl rfl rfl (by decide +kernel) ⟨Nat.le_of_ble_eq_true rfl, Nat.le_of_ble_eq_true rfl⟩) hK hP hD hS hA hl.1 [7] (by decide) rfl rfl rfl rfl rfl (Nat.le_of_ble_eq_true rfl) dX0_findRuns_26 ⟨Nat.le_of_ble_eq_true rfl, Nat.le_of_ble_eq_true rfl⟩ (fun H locs hP hD hS => ?_)
  refine lv_iconst (v := 0) hx hb dX0_findRuns_29 (by decide) ?_
  refine lv_istore_n (lv' := [(1, .int 0), (0, .ref (ad 0))]) hx hb dX0_findRuns_30 rfl hl (by decide) rfl (fun ls hl => ?_)
  obtain ⟨k53, hk53, hf⟩ := jn_some hf
  have w53 : ∀ (rc_53 : Int32) (fs_53 : Nat → Int32) (st_53 : Nat → Int32) (ln_53 : Nat → Int32) (rr_53 : Nat → Int32) (cr_53 : Nat → Int32), k53 rc_53 fs_53 st_53 ln_53 rr_53 cr_53 = some r → ∀ (H : Heap) (locs : List Loc) (ls : Array Slot), va_P D vwCl (wB cI ad size rc_53 g fs_53 st_53 ln_53 x10 rr_53 cr_53) H → va_D A (wB cI ad size rc_53 g fs_53 st_53 ln_53 x10 rr_53 cr_53) → va_S A s.heap H locs → lv_has ls 2 [(0, .ref (ad 0))] → W p l e rm_X0_findRuns s m args below meth c H locs 0 0 Q (F0 m 53 ls []) := by
    intro rc_53 fs_53 st_53 ln_53 rr_53 cr_53 hf H locs ls hP hD hS hl
    rw [hk53] at hf
    try dsimp only at hf
    refine lv_iconst (v := 0) hx hb dX0_findRuns_53 (by decide) ?_
    refine lv_istore_n (lv' := [(1, .int 0), (0, .ref (ad 0))]) hx hb dX0_findRuns_54 rfl hl (by decide) rfl (fun ls hl => ?_)
    have l55 : ∀ (nn : Nat) (v1_55 : Int32) (rc_55 : Int32) (fs_55 : Nat → Int32) (st_55 : Nat → Int32) (ln_55 : Nat → Int32) (rr_55 : Nat → Int32) (cr_55 : Nat → Int32), f_X0_findRuns_L55 N size g x10 nn v1_55 rc_55 fs_55 st_55 ln_55 rr_55 cr_55 = some r → ∀ (H : Heap) (locs : List Loc) (ls : Array Slot), va_P D vwCl (wB cI ad size rc_55 g fs_55 st_55 ln_55 x10 rr_55 cr_55) H → va_D A (wB cI ad size rc_55 g fs_55 st_55 ln_55 x10 rr_55 cr_55) → va_S A s.heap H locs → lv_has ls 2 [(0, .ref (ad 0)), (1, .int v1_55)] → W p l e rm_X0_findRuns s m args below meth c H locs 0 0 Q (F0 m 55 ls []) := by
      intro nn
      induction nn with
      | zero => intro _ _ _ _ _ _ _ hf; exact nomatch (show (none : Option _) = some r from hf)
      | succ n55 ih55 =>
        intro v1_55 rc_55 fs_55 st_55 ln_55 rr_55 cr_55 hf H locs ls hP hD hS hl
        rw [f_X0_findRuns_L55.eq_2] at hf
        refine lv_iload_n hx hb dX0_findRuns_55 rfl (lv_at hl 1 rfl) ?_
        refine lv_aload_n hx hb dX0_findRuns_56 rfl (lv_at hl 0 rfl) ?_
        refine va_get (D := D) (ci := 0) (v := .int size) (C := RX0) (T := TX0) (N := 9) hx hb hts hinX0 hown hK.1 hP 0 rfl rfl 0 (by decide) (hts (.fieldLink RX0 33 "Gridpuzzle$Board" "size" "I") (by decide +kernel)) (fun _ h9 => h9) rfl dX0_findRuns_57 ?_
        refine lv_icmp_ge (tgt := 75) hx hb dX0_findRuns_60 (by decide) (fun c_60 => ?_) (fun c_60 => ?_)
        · have hf := ite_t c_60 hf
          cases hf
          exact hR _ _ _ _ _ rfl hP hD hS dX0_findRuns_75
        · have hf := ite_f c_60 hf
          refine lv_aload_n hx hb dX0_findRuns_63 rfl (lv_at hl 0 rfl) ?_
          refine lv_iload_n hx hb dX0_findRuns_64 rfl (lv_at hl 1 rfl) ?_
          refine lv_iconst (v := 4) hx hb dX0_findRuns_65 (by decide) ?_
          obtain ⟨x66, hy66, hf⟩ := Option.bind_eq_some_iff.mp hf
          refine clV_v (As := [.int v1_55, .int 4]) (rest := []) (wB cI ad size x66.1 g x66.2.1 x66.2.2.1 x66.2.2.2.1 x10 x66.2.2.2.2.1 x66.2.2.2.2.2) ⟨hx, hb, hml, hown, hts⟩ (K_X0_findRunsOfLine l D cI cZ ad H.size N size rc_55 g fs_55 st_55 ln_55 x10 rr_55 cr_55 v1_55 4 _ hy66) (cwV 2 hts gX0_findRuns_X0_findRunsOfLine rfl rfl rfl (by decide +kernel) ⟨Nat.le_of_ble_eq_true rfl, Nat.le_of_ble_eq_true rfl⟩) hK hP hD hS hA hl.1 [0, 1, 2, 3, 4, 5, 6, 7] (by decide) rfl rfl rfl 0 0 rfl rfl rfl rfl rfl (Nat.le_of_ble_eq_true rfl) dX0_findRuns_66 ⟨Nat.le_of_ble_eq_true rfl, Nat.le_of_ble_eq_true rfl⟩ (fun H locs hP hD hS => ?_)
          refine lv_iinc (v := (v1_55 + 1)) (lv' := [(1, .int (v1_55 + 1)), (0, .ref (ad 0))]) hx hb dX0_findRuns_69 hl (k := 1) rfl rfl (by decide) rfl (fun ls hl => ?_)
          refine lv_goto (tgt := 55) hx hb dX0_findRuns_72 (by decide) ?_
          exact ih55 (v1_55 + 1) x66.1 x66.2.1 x66.2.2.1 x66.2.2.2.1 x66.2.2.2.2.1 x66.2.2.2.2.2 hf _ _ _ hP hD hS (lv_sub hl [1, 0] rfl)
    exact l55 N 0 rc_53 fs_53 st_53 ln_53 rr_53 cr_53 hf _ _ _ hP hD hS (lv_sub hl [1, 0] rfl)
  have l31 : ∀ (nn : Nat) (v1_31 : Int32) (rc_31 : Int32) (fs_31 : Nat → Int32) (st_31 : Nat → Int32) (ln_31 : Nat → Int32) (rr_31 : Nat → Int32) (cr_31 : Nat → Int32), f_X0_findRuns_L31 N size g k53 nn v1_31 rc_31 fs_31 st_31 ln_31 rr_31 cr_31 = some r → ∀ (H : Heap) (locs : List Loc) (ls : Array Slot), va_P D vwCl (wB cI ad size rc_31 g fs_31 st_31 ln_31 x10 rr_31 cr_31) H → va_D A (wB cI ad size rc_31 g fs_31 st_31 ln_31 x10 rr_31 cr_31) → va_S A s.heap H locs → lv_has ls 2 [(0, .ref (ad 0)), (1, .int v1_31)] → W p l e rm_X0_findRuns s m args below meth c H locs 0 0 Q (F0 m 31 ls []) := by
    intro nn
    induction nn with
    | zero => intro _ _ _ _ _ _ _ hf; exact nomatch (show (none : Option _) = some r from hf)
    | succ n31 ih31 =>
      intro v1_31 rc_31 fs_31 st_31 ln_31 rr_31 cr_31 hf H locs ls hP hD hS hl
      rw [f_X0_findRuns_L31.eq_2] at hf
      refine lv_iload_n hx hb dX0_findRuns_31 rfl (lv_at hl 1 rfl) ?_
      refine lv_aload_n hx hb dX0_findRuns_32 rfl (lv_at hl 0 rfl) ?_
      refine va_get (D := D) (ci := 0) (v := .int size) (C := RX0) (T := TX0) (N := 9) hx hb hts hinX0 hown hK.1 hP 0 rfl rfl 0 (by decide) (hts (.fieldLink RX0 33 "Gridpuzzle$Board" "size" "I") (by decide +kernel)) (fun _ h9 => h9) rfl dX0_findRuns_33 ?_
      refine lv_icmp_ge (tgt := 53) hx hb dX0_findRuns_36 (by decide) (fun c_36 => ?_) (fun c_36 => ?_)
      · have hf := ite_t c_36 hf
        exact w53 rc_31 fs_31 st_31 ln_31 rr_31 cr_31 hf _ _ _ hP hD hS (lv_sub hl [0] rfl)
      · have hf := ite_f c_36 hf
        refine lv_aload_n hx hb dX0_findRuns_39 rfl (lv_at hl 0 rfl) ?_
        refine lv_iload_n hx hb dX0_findRuns_40 rfl (lv_at hl 1 rfl) ?_
        refine lv_iconst (v := 4) hx hb dX0_findRuns_41 (by decide) ?_
        refine lv_imul hx hb dX0_findRuns_42 ?_
        refine lv_iconst (v := 1) hx hb dX0_findRuns_43 (by decide) ?_
        obtain ⟨x44, hy44, hf⟩ := Option.bind_eq_some_iff.mp hf
        refine clV_v (As := [.int (v1_31 * 4), .int 1]) (rest := []) (wB cI ad size x44.1 g x44.2.1 x44.2.2.1 x44.2.2.2.1 x10 x44.2.2.2.2.1 x44.2.2.2.2.2) ⟨hx, hb, hml, hown, hts⟩ (K_X0_findRunsOfLine l D cI cZ ad H.size N size rc_31 g fs_31 st_31 ln_31 x10 rr_31 cr_31 (v1_31 * 4) 1 _ hy44) (cwV 2 hts gX0_findRuns_X0_findRunsOfLine rfl rfl rfl (by decide +kernel) ⟨Nat.le_of_ble_eq_true rfl, Nat.le_of_ble_eq_true rfl⟩) hK hP hD hS hA hl.1 [0, 1, 2, 3, 4, 5, 6, 7] (by decide) rfl rfl rfl 0 0 rfl rfl rfl rfl rfl (Nat.le_of_ble_eq_true rfl) dX0_findRuns_44 ⟨Nat.le_of_ble_eq_true rfl, Nat.le_of_ble_eq_true rfl⟩ (fun H locs hP hD hS => ?_)
        refine lv_iinc (v := (v1_31 + 1)) (lv' := [(1, .int (v1_31 + 1)), (0, .ref (ad 0))]) hx hb dX0_findRuns_47 hl (k := 1) rfl rfl (by decide) rfl (fun ls hl => ?_)
        refine lv_goto (tgt := 31) hx hb dX0_findRuns_50 (by decide) ?_
        exact ih31 (v1_31 + 1) x44.1 x44.2.1 x44.2.2.1 x44.2.2.2.1 x44.2.2.2.2.1 x44.2.2.2.2.2 hf _ _ _ hP hD hS (lv_sub hl [1, 0] rfl)
  exact l31 N 0 0 fs st ln x18 x26 hf _ _ _ hP hD hS (lv_sub hl [1, 0] rfl)
def rm_X0_clear : Room := { frames := 4, cells := 0, slots := 0, locals := 91 }
set_option maxRecDepth 100000 in
set_option maxHeartbeats 8000000 in
theorem K_X0_clear (l : Launch) (D : va_G) (cI cZ : ClassId) (ad : Nat → Nat) (sz : Nat) (N : Nat) (size rc : Int32) (g fs st ln su rr cr : Nat → Int32) (p1 : Int32) (r : (Int32 × Int32 × (Nat → Int32) × (Nat → Int32) × (Nat → Int32) × (Nat → Int32) × (Nat → Int32) × (Nat → Int32) × (Nat → Int32))) (hf : f_X0_clear N size rc g fs st ln su rr cr p1 = some r) : Met l yX0_clear wsX0_clear rm_X0_clear (PC D cI cZ sz [.ref (ad 0), .int p1] (wB cI ad size rc g fs st ln su rr cr)) (QV D cI cZ sz (wB cI ad size rc g fs st ln su rr cr) (wB cI ad r.1 r.2.1 r.2.2.1 r.2.2.2.1 r.2.2.2.2.1 r.2.2.2.2.2.1 r.2.2.2.2.2.2.1 r.2.2.2.2.2.2.2.1 r.2.2.2.2.2.2.2.2)) 0 0 (va_A (wB cI ad size rc g fs st ln su rr cr) sz) := by
  refine mk_v (cc := cX0_clear) (maxL := 2) (lv0 := [(0, .ref (ad 0)), (1, .int p1)]) (by decide) rfl (Nat.le_of_ble_eq_true rfl) rfl ?_
  intro p e s m args below meth c ls A Q H hx hb hml hown hts hK hP hD hA hS hl hR
  have hinX0 : ∀ w ∈ wsX00, w ∈ wsX0_clear := by decide +kernel
  rw [f_X0_clear] at hf
  refine lv_aload_n hx hb dX0_clear_0 rfl (lv_at hl 0 rfl) ?_
  refine lv_iload_n hx hb dX0_clear_1 rfl (lv_at hl 1 rfl) ?_
  refine va_put (D := D) (ci := 0) (v := .int p1) (ty := .int) (C := RX0) (T := TX0) (N := 9) hx hb hts hinX0 tyX0 tyX0_ok nmX0 hown hK.1 hP hD hS 0 rfl rfl 0 (by decide) (hts (.fieldLink RX0 33 "Gridpuzzle$Board" "size" "I") (by decide +kernel)) (fun _ h9 => h9) rfl (by decide +kernel) rfl rfl (Nat.le_of_ble_eq_true rfl) dX0_clear_2 (fun H locs hP hD hS => ?_)
  have hP : va_P D vwCl (wB cI ad p1 rc g fs st ln su rr cr) H := hP
  have hD : va_D A (wB cI ad p1 rc g fs st ln su rr cr) := hD
  refine lv_aload_n hx hb dX0_clear_5 rfl (lv_at hl 0 rfl) ?_
  refine va_get (D := D) (ci := 0) (v := .ref (ad 1)) (C := RX0) (T := TX0) (N := 9) hx hb hts hinX0 hown hK.1 hP 0 rfl rfl 2 (by decide) (hts (.fieldLink RX0 9 "Gridpuzzle$Board" "givens" "[I") (by decide +kernel)) (fun _ h9 => h9) rfl dX0_clear_6 ?_
  refine lv_iconst (v := 0) hx hb dX0_clear_9 (by decide) ?_
  obtain ⟨x10, hy10, hf⟩ := Option.bind_eq_some_iff.mp hf
  refine clS_v (As := [.ref (ad 1), .int 0]) (rest := []) (wB cI ad p1 rc x10 fs st ln su rr cr) ⟨hx, hb, hml, hown, hts⟩ (K_J7_fill_53178 l D cI cZ (ad 1) 16 (by decide) H.size N g 0 _ hy10) (va_cwS 2 hts gX0_clear_J7_fill_53178 rfl rfl rfl (by decide +kernel) ⟨Nat.le_of_ble_eq_true rfl, Nat.le_of_ble_eq_true rfl⟩) hK hP hD hS hA hl.1 [1] (by decide) rfl rfl rfl rfl rfl (Nat.le_of_ble_eq_true rfl) dX0_clear_10 ⟨Nat.le_of_ble_eq_true rfl, Nat.le_of_ble_eq_true rfl⟩ (fun H locs hP hD hS => ?_)
  refine lv_aload_n hx hb dX0_clear_13 rfl (lv_at hl 0 rfl) ?_
  obtain ⟨x14, hy14, hf⟩ := Option.bind_eq_some_iff.mp hf
  refine clV_v (As := []) (rest := []) (wB cI ad p1 x14.1 x10 x14.2.1 x14.2.2.1 x14.2.2.2.1 x14.2.2.2.2.1 x14.2.2.2.2.2.1 x14.2.2.2.2.2.2) ⟨hx, hb, hml, hown, hts⟩ (K_X0_findRuns l D cI cZ ad H.size N p1 rc x10 fs st ln su rr cr _ hy14) (cwV 0 hts gX0_clear_X0_findRuns rfl rfl rfl (by decide +kernel) ⟨Nat.le_of_ble_eq_true rfl, Nat.le_of_ble_eq_true rfl⟩) hK hP hD hS hA hl.1 [0, 1, 2, 3, 4, 5, 6, 7] (by decide) rfl rfl rfl 0 0 rfl rfl rfl rfl rfl (Nat.le_of_ble_eq_true rfl) dX0_clear_14 ⟨Nat.le_of_ble_eq_true rfl, Nat.le_of_ble_eq_true rfl⟩ (fun H locs hP hD hS => ?_)
  cases hf
  exact hR _ _ _ _ _ rfl hP hD hS dX0_clear_17
def rm_X0_turn : Room := { frames := 4, cells := 0, slots := 0, locals := 91 }
set_option maxRecDepth 100000 in
set_option maxHeartbeats 8000000 in
theorem K_X0_turn (l : Launch) (D : va_G) (cI cZ : ClassId) (ad : Nat → Nat) (sz : Nat) (N : Nat) (size rc : Int32) (g fs st ln su rr cr : Nat → Int32) (p1 : Int32) (r : (Int32 × (Nat → Int32) × (Nat → Int32) × (Nat → Int32) × (Nat → Int32) × (Nat → Int32) × (Nat → Int32) × (Nat → Int32))) (hf : f_X0_turn N size rc g fs st ln su rr cr p1 = some r) : Met l yX0_turn wsX0_turn rm_X0_turn (PC D cI cZ sz [.ref (ad 0), .int p1] (wB cI ad size rc g fs st ln su rr cr)) (QV D cI cZ sz (wB cI ad size rc g fs st ln su rr cr) (wB cI ad size r.1 r.2.1 r.2.2.1 r.2.2.2.1 r.2.2.2.2.1 r.2.2.2.2.2.1 r.2.2.2.2.2.2.1 r.2.2.2.2.2.2.2)) 0 0 (va_A (wB cI ad size rc g fs st ln su rr cr) sz) := by
  refine mk_v (cc := cX0_turn) (maxL := 2) (lv0 := [(0, .ref (ad 0)), (1, .int p1)]) (by decide) rfl (Nat.le_of_ble_eq_true rfl) rfl ?_
  intro p e s m args below meth c ls A Q H hx hb hml hown hts hK hP hD hA hS hl hR
  have hinX0 : ∀ w ∈ wsX00, w ∈ wsX0_turn := by decide +kernel
  rw [f_X0_turn] at hf
  refine lv_aload_n hx hb dX0_turn_0 rfl (lv_at hl 0 rfl) ?_
  refine va_get (D := D) (ci := 0) (v := .ref (ad 1)) (C := RX0) (T := TX0) (N := 9) hx hb hts hinX0 hown hK.1 hP 0 rfl rfl 2 (by decide) (hts (.fieldLink RX0 9 "Gridpuzzle$Board" "givens" "[I") (by decide +kernel)) (fun _ h9 => h9) rfl dX0_turn_1 ?_
  refine lv_iload_n hx hb dX0_turn_4 rfl (lv_at hl 1 rfl) ?_
  refine lv_aload_n hx hb dX0_turn_5 rfl (lv_at hl 0 rfl) ?_
  refine lv_iload_n hx hb dX0_turn_6 rfl (lv_at hl 1 rfl) ?_
  refine clV_i (As := [.int p1]) (rest := [.int p1, .ref (ad 1)]) (wB cI ad size rc g fs st ln su rr cr) ⟨hx, hb, hml, hown, hts⟩ (K_X0_isOpen l D cI cZ ad H.size size rc g fs st ln su rr cr p1 _ rfl) (cwV 1 hts gX0_turn_X0_isOpen rfl rfl rfl (by decide +kernel) ⟨Nat.le_of_ble_eq_true rfl, Nat.le_of_ble_eq_true rfl⟩) hK hP hD hS hA hl.1 [0, 1, 2, 3, 4, 5, 6, 7] (by decide) rfl rfl rfl 0 0 rfl rfl rfl rfl rfl (Nat.le_of_ble_eq_true rfl) dX0_turn_7 ⟨Nat.le_of_ble_eq_true rfl, Nat.le_of_ble_eq_true rfl⟩ (fun H locs hP hD hS => ?_)
  obtain ⟨k18, hk18, hf⟩ := jn_some hf
  have w18 : ∀ (t0_18 : Int32), k18 t0_18 = some r → ∀ (H : Heap) (locs : List Loc) (ls : Array Slot), va_P D vwCl (wB cI ad size rc g fs st ln su rr cr) H → va_D A (wB cI ad size rc g fs st ln su rr cr) → va_S A s.heap H locs → lv_has ls 2 [(0, .ref (ad 0))] → W p l e rm_X0_turn s m args below meth c H locs 0 0 Q (F0 m 18 ls [.int t0_18, .int p1, .ref (ad 1)]) := by
    intro t0_18 hf H locs ls hP hD hS hl
    rw [hk18] at hf
    try dsimp only at hf
    refine clN_v (As := [.ref (ad 1), .int p1, .int t0_18]) (rest := []) (wB cI ad size rc (f_X3_put 16 g p1 t0_18) fs st ln su rr cr) ⟨hx, hb, hml, hown, hts⟩ (K_X3_put l D cI cZ (ad 1) 16 (by decide) H.size g p1 t0_18 _ rfl) ⟨va_cnB (host := RX3) 3 hts gX0_turn_X3_put_n54 rfl rfl rfl (hK.2 (RX0, 54, yX3_put) (by decide)) (hts (.initialized RX3) (by decide +kernel)) (by decide +kernel) ⟨Nat.le_of_ble_eq_true rfl, Nat.le_of_ble_eq_true rfl⟩, hts (.static yX3_put) (by decide +kernel), trivial⟩ hK hP hD hS hA hl.1 [1] (by decide) rfl rfl rfl rfl rfl (Nat.le_of_ble_eq_true rfl) dX0_turn_18 ⟨Nat.le_of_ble_eq_true rfl, Nat.le_of_ble_eq_true rfl⟩ (fun H locs hP hD hS => ?_)
    refine lv_aload_n hx hb dX0_turn_21 rfl (lv_at hl 0 rfl) ?_
    obtain ⟨x22, hy22, hf⟩ := Option.bind_eq_some_iff.mp hf
    refine clV_v (As := []) (rest := []) (wB cI ad size x22.1 (f_X3_put 16 g p1 t0_18) x22.2.1 x22.2.2.1 x22.2.2.2.1 x22.2.2.2.2.1 x22.2.2.2.2.2.1 x22.2.2.2.2.2.2) ⟨hx, hb, hml, hown, hts⟩ (K_X0_findRuns l D cI cZ ad H.size N size rc (f_X3_put 16 g p1 t0_18) fs st ln su rr cr _ hy22) (cwV 0 hts gX0_turn_X0_findRuns rfl rfl rfl (by decide +kernel) ⟨Nat.le_of_ble_eq_true rfl, Nat.le_of_ble_eq_true rfl⟩) hK hP hD hS hA hl.1 [0, 1, 2, 3, 4, 5, 6, 7] (by decide) rfl rfl rfl 0 0 rfl rfl rfl rfl rfl (Nat.le_of_ble_eq_true rfl) dX0_turn_22 ⟨Nat.le_of_ble_eq_true rfl, Nat.le_of_ble_eq_true rfl⟩ (fun H locs hP hD hS => ?_)
    cases hf
    exact hR _ _ _ _ _ rfl hP hD hS dX0_turn_25
  refine lv_if_eq (tgt := 17) hx hb dX0_turn_10 (by decide) (fun c_10 => ?_) (fun c_10 => ?_)
  · have hf := ite_t c_10 hf
    refine lv_iconst (v := 0) hx hb dX0_turn_17 (by decide) ?_
    exact w18 0 hf _ _ _ hP hD hS (lv_sub hl [0] rfl)
  · have hf := ite_f c_10 hf
    refine lv_iconst (v := (-1)) hx hb dX0_turn_13 (by decide) ?_
    refine lv_goto (tgt := 18) hx hb dX0_turn_14 (by decide) ?_
    exact w18 (-1) hf _ _ _ hP hD hS (lv_sub hl [0] rfl)
def rm_X0_oppositeOf : Room := { frames := 0, cells := 0, slots := 0, locals := 0 }
set_option maxRecDepth 100000 in
set_option maxHeartbeats 8000000 in
theorem K_X0_oppositeOf (l : Launch) (D : va_G) (cI cZ : ClassId) (ad : Nat → Nat) (sz : Nat) (size rc : Int32) (g fs st ln su rr cr : Nat → Int32) (p1 : Int32) (r : (Int32)) (hf : f_X0_oppositeOf size p1 = r) : Met l yX0_oppositeOf wsX0_oppositeOf rm_X0_oppositeOf (PC D cI cZ sz [.ref (ad 0), .int p1] (wB cI ad size rc g fs st ln su rr cr)) (QI D cI cZ sz (wB cI ad size rc g fs st ln su rr cr) r (wB cI ad size rc g fs st ln su rr cr)) 0 0 (va_A (wB cI ad size rc g fs st ln su rr cr) sz) := by
  refine mk_i (cc := cX0_oppositeOf) (maxL := 4) (lv0 := [(0, .ref (ad 0)), (1, .int p1)]) (by decide) rfl (Nat.le_of_ble_eq_true rfl) rfl ?_
  intro p e s m args below meth c ls A Q H hx hb hml hown hts hK hP hD hA hS hl hR
  have hinX0 : ∀ w ∈ wsX00, w ∈ wsX0_oppositeOf := by decide +kernel
  rw [f_X0_oppositeOf] at hf
  refine lv_aload_n hx hb dX0_oppositeOf_0 rfl (lv_at hl 0 rfl) ?_
  refine va_get (D := D) (ci := 0) (v := .int size) (C := RX0) (T := TX0) (N := 9) hx hb hts hinX0 hown hK.1 hP 0 rfl rfl 0 (by decide) (hts (.fieldLink RX0 33 "Gridpuzzle$Board" "size" "I") (by decide +kernel)) (fun _ h9 => h9) rfl dX0_oppositeOf_1 ?_
  refine lv_iconst (v := 1) hx hb dX0_oppositeOf_4 (by decide) ?_
  refine lv_isub hx hb dX0_oppositeOf_5 ?_
  refine lv_iload_n hx hb dX0_oppositeOf_6 rfl (lv_at hl 1 rfl) ?_
  refine lv_iconst (v := 4) hx hb dX0_oppositeOf_7 (by decide) ?_
  refine lv_idiv hx hb dX0_oppositeOf_8 (by decide) ?_
  refine lv_isub hx hb dX0_oppositeOf_9 ?_
  refine lv_istore_n (lv' := [(2, .int ((size - 1) - (p1 / 4))), (0, .ref (ad 0)), (1, .int p1)]) hx hb dX0_oppositeOf_10 rfl hl (by decide) rfl (fun ls hl => ?_)
  refine lv_aload_n hx hb dX0_oppositeOf_11 rfl (lv_at hl 1 rfl) ?_
  refine va_get (D := D) (ci := 0) (v := .int size) (C := RX0) (T := TX0) (N := 9) hx hb hts hinX0 hown hK.1 hP 0 rfl rfl 0 (by decide) (hts (.fieldLink RX0 33 "Gridpuzzle$Board" "size" "I") (by decide +kernel)) (fun _ h9 => h9) rfl dX0_oppositeOf_12 ?_
  refine lv_iconst (v := 1) hx hb dX0_oppositeOf_15 (by decide) ?_
  refine lv_isub hx hb dX0_oppositeOf_16 ?_
  refine lv_iload_n hx hb dX0_oppositeOf_17 rfl (lv_at hl 2 rfl) ?_
  refine lv_iconst (v := 4) hx hb dX0_oppositeOf_18 (by decide) ?_
  refine lv_irem hx hb dX0_oppositeOf_19 (by decide) ?_
  refine lv_isub hx hb dX0_oppositeOf_20 ?_
  refine lv_istore_n (lv' := [(3, .int ((size - 1) - (p1 - p1 / 4 * 4))), (2, .int ((size - 1) - (p1 / 4))), (0, .ref (ad 0)), (1, .int p1)]) hx hb dX0_oppositeOf_21 rfl hl (by decide) rfl (fun ls hl => ?_)
  refine lv_iload_n hx hb dX0_oppositeOf_22 rfl (lv_at hl 1 rfl) ?_
  refine lv_iconst (v := 4) hx hb dX0_oppositeOf_23 (by decide) ?_
  refine lv_imul hx hb dX0_oppositeOf_24 ?_
  refine lv_iload_n hx hb dX0_oppositeOf_25 rfl (lv_at hl 0 rfl) ?_
  refine lv_iadd hx hb dX0_oppositeOf_26 ?_
  cases hf
  exact hR _ _ _ _ _ _ rfl rfl hP hD hS dX0_oppositeOf_27
def rm_X0_countOpen : Room := { frames := 2, cells := 0, slots := 0, locals := 42 }
set_option maxRecDepth 100000 in
set_option maxHeartbeats 8000000 in
theorem K_X0_countOpen (l : Launch) (D : va_G) (cI cZ : ClassId) (ad : Nat → Nat) (sz : Nat) (N : Nat) (size rc : Int32) (g fs st ln su rr cr : Nat → Int32) (r : (Int32)) (hf : f_X0_countOpen N size g = some r) : Met l yX0_countOpen wsX0_countOpen rm_X0_countOpen (PC D cI cZ sz [.ref (ad 0)] (wB cI ad size rc g fs st ln su rr cr)) (QI D cI cZ sz (wB cI ad size rc g fs st ln su rr cr) r (wB cI ad size rc g fs st ln su rr cr)) 0 0 (va_A (wB cI ad size rc g fs st ln su rr cr) sz) := by
  refine mk_i (cc := cX0_countOpen) (maxL := 3) (lv0 := [(0, .ref (ad 0))]) (by decide) rfl (Nat.le_of_ble_eq_true rfl) rfl ?_
  intro p e s m args below meth c ls A Q H hx hb hml hown hts hK hP hD hA hS hl hR
  rw [f_X0_countOpen] at hf
  refine lv_iconst (v := 0) hx hb dX0_countOpen_0 (by decide) ?_
  refine lv_istore_n (lv' := [(1, .int 0), (0, .ref (ad 0))]) hx hb dX0_countOpen_1 rfl hl (by decide) rfl (fun ls hl => ?_)
  refine lv_iconst (v := 0) hx hb dX0_countOpen_2 (by decide) ?_
  refine lv_istore_n (lv' := [(2, .int 0), (1, .int 0), (0, .ref (ad 0))]) hx hb dX0_countOpen_3 rfl hl (by decide) rfl (fun ls hl => ?_)
  have l4 : ∀ (nn : Nat) (v1_4 : Int32) (v2_4 : Int32), f_X0_countOpen_L4 size g nn v1_4 v2_4 = some r → ∀ (H : Heap) (locs : List Loc) (ls : Array Slot), va_P D vwCl (wB cI ad size rc g fs st ln su rr cr) H → va_D A (wB cI ad size rc g fs st ln su rr cr) → va_S A s.heap H locs → lv_has ls 3 [(0, .ref (ad 0)), (1, .int v1_4), (2, .int v2_4)] → W p l e rm_X0_countOpen s m args below meth c H locs 0 0 Q (F0 m 4 ls []) := by
    intro nn
    induction nn with
    | zero => intro _ _ hf; exact nomatch (show (none : Option _) = some r from hf)
    | succ n4 ih4 =>
      intro v1_4 v2_4 hf H locs ls hP hD hS hl
      rw [f_X0_countOpen_L4.eq_2] at hf
      refine lv_iload_n hx hb dX0_countOpen_4 rfl (lv_at hl 2 rfl) ?_
      refine lv_bipush (v := 16) hx hb dX0_countOpen_5 (by decide) ?_
      refine lv_icmp_ge (tgt := 27) hx hb dX0_countOpen_7 (by decide) (fun c_7 => ?_) (fun c_7 => ?_)
      · have hf := ite_t c_7 hf
        refine lv_iload_n hx hb dX0_countOpen_27 rfl (lv_at hl 1 rfl) ?_
        cases hf
        exact hR _ _ _ _ _ _ rfl rfl hP hD hS dX0_countOpen_28
      · have hf := ite_f c_7 hf
        refine lv_aload_n hx hb dX0_countOpen_10 rfl (lv_at hl 0 rfl) ?_
        refine lv_iload_n hx hb dX0_countOpen_11 rfl (lv_at hl 2 rfl) ?_
        refine clV_i (As := [.int v2_4]) (rest := []) (wB cI ad size rc g fs st ln su rr cr) ⟨hx, hb, hml, hown, hts⟩ (K_X0_isOpen l D cI cZ ad H.size size rc g fs st ln su rr cr v2_4 _ rfl) (cwV 1 hts gX0_countOpen_X0_isOpen rfl rfl rfl (by decide +kernel) ⟨Nat.le_of_ble_eq_true rfl, Nat.le_of_ble_eq_true rfl⟩) hK hP hD hS hA hl.1 [0, 1, 2, 3, 4, 5, 6, 7] (by decide) rfl rfl rfl 0 0 rfl rfl rfl rfl rfl (Nat.le_of_ble_eq_true rfl) dX0_countOpen_12 ⟨Nat.le_of_ble_eq_true rfl, Nat.le_of_ble_eq_true rfl⟩ (fun H locs hP hD hS => ?_)
        obtain ⟨k21, hk21, hf⟩ := jn_some hf
        have w21 : ∀ (v1_21 : Int32), k21 v1_21 = some r → ∀ (H : Heap) (locs : List Loc) (ls : Array Slot), va_P D vwCl (wB cI ad size rc g fs st ln su rr cr) H → va_D A (wB cI ad size rc g fs st ln su rr cr) → va_S A s.heap H locs → lv_has ls 3 [(0, .ref (ad 0)), (1, .int v1_21), (2, .int v2_4)] → W p l e rm_X0_countOpen s m args below meth c H locs 0 0 Q (F0 m 21 ls []) := by
          intro v1_21 hf H locs ls hP hD hS hl
          rw [hk21] at hf
          try dsimp only at hf
          refine lv_iinc (v := (v2_4 + 1)) (lv' := [(2, .int (v2_4 + 1)), (0, .ref (ad 0)), (1, .int v1_21)]) hx hb dX0_countOpen_21 hl (k := 2) rfl rfl (by decide) rfl (fun ls hl => ?_)
          refine lv_goto (tgt := 4) hx hb dX0_countOpen_24 (by decide) ?_
          exact ih4 v1_21 (v2_4 + 1) hf _ _ _ hP hD hS (lv_sub hl [1, 2, 0] rfl)
        refine lv_if_eq (tgt := 21) hx hb dX0_countOpen_15 (by decide) (fun c_15 => ?_) (fun c_15 => ?_)
        · have hf := ite_t c_15 hf
          exact w21 v1_4 hf _ _ _ hP hD hS (lv_sub hl [0, 1, 2] rfl)
        · have hf := ite_f c_15 hf
          refine lv_iinc (v := (v1_4 + 1)) (lv' := [(1, .int (v1_4 + 1)), (0, .ref (ad 0)), (2, .int v2_4)]) hx hb dX0_countOpen_18 hl (k := 1) rfl rfl (by decide) rfl (fun ls hl => ?_)
          exact w21 (v1_4 + 1) hf _ _ _ hP hD hS (lv_sub hl [1, 0, 2] rfl)
  exact l4 N 0 0 hf _ _ _ hP hD hS (lv_sub hl [2, 1, 0] rfl)
def rm_X0_countBarred : Room := { frames := 3, cells := 0, slots := 0, locals := 64 }
set_option maxRecDepth 100000 in
set_option maxHeartbeats 8000000 in
theorem K_X0_countBarred (l : Launch) (D : va_G) (cI cZ : ClassId) (ad : Nat → Nat) (sz : Nat) (N : Nat) (size rc : Int32) (g fs st ln su rr cr : Nat → Int32) (r : (Int32)) (hf : f_X0_countBarred N size g = some r) : Met l yX0_countBarred wsX0_countBarred rm_X0_countBarred (PC D cI cZ sz [.ref (ad 0)] (wB cI ad size rc g fs st ln su rr cr)) (QI D cI cZ sz (wB cI ad size rc g fs st ln su rr cr) r (wB cI ad size rc g fs st ln su rr cr)) 0 0 (va_A (wB cI ad size rc g fs st ln su rr cr) sz) := by
  refine mk_i (cc := cX0_countBarred) (maxL := 1) (lv0 := [(0, .ref (ad 0))]) (by decide) rfl (Nat.le_of_ble_eq_true rfl) rfl ?_
  intro p e s m args below meth c ls A Q H hx hb hml hown hts hK hP hD hA hS hl hR
  have hinX0 : ∀ w ∈ wsX00, w ∈ wsX0_countBarred := by decide +kernel
  rw [f_X0_countBarred] at hf
  refine lv_aload_n hx hb dX0_countBarred_0 rfl (lv_at hl 0 rfl) ?_
  refine va_get (D := D) (ci := 0) (v := .int size) (C := RX0) (T := TX0) (N := 9) hx hb hts hinX0 hown hK.1 hP 0 rfl rfl 0 (by decide) (hts (.fieldLink RX0 33 "Gridpuzzle$Board" "size" "I") (by decide +kernel)) (fun _ h9 => h9) rfl dX0_countBarred_1 ?_
  refine lv_aload_n hx hb dX0_countBarred_4 rfl (lv_at hl 0 rfl) ?_
  refine va_get (D := D) (ci := 0) (v := .int size) (C := RX0) (T := TX0) (N := 9) hx hb hts hinX0 hown hK.1 hP 0 rfl rfl 0 (by decide) (hts (.fieldLink RX0 33 "Gridpuzzle$Board" "size" "I") (by decide +kernel)) (fun _ h9 => h9) rfl dX0_countBarred_5 ?_
  refine lv_imul hx hb dX0_countBarred_8 ?_
  refine lv_aload_n hx hb dX0_countBarred_9 rfl (lv_at hl 0 rfl) ?_
  obtain ⟨x10, hy10, hf⟩ := Option.bind_eq_some_iff.mp hf
  refine clV_i (As := []) (rest := [.int (size * size)]) (wB cI ad size rc g fs st ln su rr cr) ⟨hx, hb, hml, hown, hts⟩ (K_X0_countOpen l D cI cZ ad H.size N size rc g fs st ln su rr cr _ hy10) (cwV 0 hts gX0_countBarred_X0_countOpen rfl rfl rfl (by decide +kernel) ⟨Nat.le_of_ble_eq_true rfl, Nat.le_of_ble_eq_true rfl⟩) hK hP hD hS hA hl.1 [0, 1, 2, 3, 4, 5, 6, 7] (by decide) rfl rfl rfl 0 0 rfl rfl rfl rfl rfl (Nat.le_of_ble_eq_true rfl) dX0_countBarred_10 ⟨Nat.le_of_ble_eq_true rfl, Nat.le_of_ble_eq_true rfl⟩ (fun H locs hP hD hS => ?_)
  refine lv_isub hx hb dX0_countBarred_13 ?_
  cases hf
  exact hR _ _ _ _ _ _ rfl rfl hP hD hS dX0_countBarred_14
def rm_X0_givenAt : Room := { frames := 1, cells := 0, slots := 0, locals := 21 }
set_option maxRecDepth 100000 in
set_option maxHeartbeats 8000000 in
theorem K_X0_givenAt (l : Launch) (D : va_G) (cI cZ : ClassId) (ad : Nat → Nat) (sz : Nat) (size rc : Int32) (g fs st ln su rr cr : Nat → Int32) (p1 : Int32) (r : (Int32)) (hf : f_X0_givenAt g p1 = r) : Met l yX0_givenAt wsX0_givenAt rm_X0_givenAt (PC D cI cZ sz [.ref (ad 0), .int p1] (wB cI ad size rc g fs st ln su rr cr)) (QI D cI cZ sz (wB cI ad size rc g fs st ln su rr cr) r (wB cI ad size rc g fs st ln su rr cr)) 0 0 (va_A (wB cI ad size rc g fs st ln su rr cr) sz) := by
  refine mk_i (cc := cX0_givenAt) (maxL := 2) (lv0 := [(0, .ref (ad 0)), (1, .int p1)]) (by decide) rfl (Nat.le_of_ble_eq_true rfl) rfl ?_
  intro p e s m args below meth c ls A Q H hx hb hml hown hts hK hP hD hA hS hl hR
  have hinX0 : ∀ w ∈ wsX00, w ∈ wsX0_givenAt := by decide +kernel
  rw [f_X0_givenAt] at hf
  refine lv_aload_n hx hb dX0_givenAt_0 rfl (lv_at hl 0 rfl) ?_
  refine va_get (D := D) (ci := 0) (v := .ref (ad 1)) (C := RX0) (T := TX0) (N := 9) hx hb hts hinX0 hown hK.1 hP 0 rfl rfl 2 (by decide) (hts (.fieldLink RX0 9 "Gridpuzzle$Board" "givens" "[I") (by decide +kernel)) (fun _ h9 => h9) rfl dX0_givenAt_1 ?_
  refine lv_iload_n hx hb dX0_givenAt_4 rfl (lv_at hl 1 rfl) ?_
  refine clN_i (As := [.ref (ad 1), .int p1]) (rest := []) (wB cI ad size rc g fs st ln su rr cr) ⟨hx, hb, hml, hown, hts⟩ (K_X3_at l D cI cZ (ad 1) 16 (by decide) H.size g p1 _ rfl) ⟨va_cnB (host := RX3) 2 hts gX0_givenAt_X3_at_n50 rfl rfl rfl (hK.2 (RX0, 50, yX3_at) (by decide)) (hts (.initialized RX3) (by decide +kernel)) (by decide +kernel) ⟨Nat.le_of_ble_eq_true rfl, Nat.le_of_ble_eq_true rfl⟩, hts (.static yX3_at) (by decide +kernel), trivial⟩ hK hP hD hS hA hl.1 [1] (by decide) rfl rfl rfl rfl rfl (Nat.le_of_ble_eq_true rfl) dX0_givenAt_5 ⟨Nat.le_of_ble_eq_true rfl, Nat.le_of_ble_eq_true rfl⟩ (fun H locs hP hD hS => ?_)
  cases hf
  exact hR _ _ _ _ _ _ rfl rfl hP hD hS dX0_givenAt_8
def rm_X0_putGiven : Room := { frames := 1, cells := 0, slots := 0, locals := 22 }
set_option maxRecDepth 100000 in
set_option maxHeartbeats 8000000 in
theorem K_X0_putGiven (l : Launch) (D : va_G) (cI cZ : ClassId) (ad : Nat → Nat) (sz : Nat) (size rc : Int32) (g fs st ln su rr cr : Nat → Int32) (p1 : Int32) (p2 : Int32) (r : ((Nat → Int32))) (hf : f_X0_putGiven g p1 p2 = r) : Met l yX0_putGiven wsX0_putGiven rm_X0_putGiven (PC D cI cZ sz [.ref (ad 0), .int p1, .int p2] (wB cI ad size rc g fs st ln su rr cr)) (QV D cI cZ sz (wB cI ad size rc g fs st ln su rr cr) (wB cI ad size rc r fs st ln su rr cr)) 0 0 (va_A (wB cI ad size rc g fs st ln su rr cr) sz) := by
  refine mk_v (cc := cX0_putGiven) (maxL := 3) (lv0 := [(0, .ref (ad 0)), (1, .int p1), (2, .int p2)]) (by decide) rfl (Nat.le_of_ble_eq_true rfl) rfl ?_
  intro p e s m args below meth c ls A Q H hx hb hml hown hts hK hP hD hA hS hl hR
  have hinX0 : ∀ w ∈ wsX00, w ∈ wsX0_putGiven := by decide +kernel
  rw [f_X0_putGiven] at hf
  refine lv_aload_n hx hb dX0_putGiven_0 rfl (lv_at hl 0 rfl) ?_
  refine va_get (D := D) (ci := 0) (v := .ref (ad 1)) (C := RX0) (T := TX0) (N := 9) hx hb hts hinX0 hown hK.1 hP 0 rfl rfl 2 (by decide) (hts (.fieldLink RX0 9 "Gridpuzzle$Board" "givens" "[I") (by decide +kernel)) (fun _ h9 => h9) rfl dX0_putGiven_1 ?_
  refine lv_iload_n hx hb dX0_putGiven_4 rfl (lv_at hl 1 rfl) ?_
  refine lv_iload_n hx hb dX0_putGiven_5 rfl (lv_at hl 2 rfl) ?_
  refine clN_v (As := [.ref (ad 1), .int p1, .int p2]) (rest := []) (wB cI ad size rc (f_X3_put 16 g p1 p2) fs st ln su rr cr) ⟨hx, hb, hml, hown, hts⟩ (K_X3_put l D cI cZ (ad 1) 16 (by decide) H.size g p1 p2 _ rfl) ⟨va_cnB (host := RX3) 3 hts gX0_putGiven_X3_put_n54 rfl rfl rfl (hK.2 (RX0, 54, yX3_put) (by decide)) (hts (.initialized RX3) (by decide +kernel)) (by decide +kernel) ⟨Nat.le_of_ble_eq_true rfl, Nat.le_of_ble_eq_true rfl⟩, hts (.static yX3_put) (by decide +kernel), trivial⟩ hK hP hD hS hA hl.1 [1] (by decide) rfl rfl rfl rfl rfl (Nat.le_of_ble_eq_true rfl) dX0_putGiven_6 ⟨Nat.le_of_ble_eq_true rfl, Nat.le_of_ble_eq_true rfl⟩ (fun H locs hP hD hS => ?_)
  cases hf
  exact hR _ _ _ _ _ rfl hP hD hS dX0_putGiven_9
def rm_X0_hasRun : Room := { frames := 0, cells := 0, slots := 0, locals := 0 }
set_option maxRecDepth 100000 in
set_option maxHeartbeats 8000000 in
theorem K_X0_hasRun (l : Launch) (D : va_G) (cI cZ : ClassId) (ad : Nat → Nat) (sz : Nat) (size rc : Int32) (g fs st ln su rr cr : Nat → Int32) (p1 : Int32) (r : (Int32)) (hf : f_X0_hasRun rc p1 = r) : Met l yX0_hasRun wsX0_hasRun rm_X0_hasRun (PC D cI cZ sz [.ref (ad 0), .int p1] (wB cI ad size rc g fs st ln su rr cr)) (QI D cI cZ sz (wB cI ad size rc g fs st ln su rr cr) r (wB cI ad size rc g fs st ln su rr cr)) 0 0 (va_A (wB cI ad size rc g fs st ln su rr cr) sz) := by
  refine mk_z (cc := cX0_hasRun) (maxL := 2) (lv0 := [(0, .ref (ad 0)), (1, .int p1)]) (by decide) rfl (Nat.le_of_ble_eq_true rfl) rfl ?_
  intro p e s m args below meth c ls A Q H hx hb hml hown hts hK hP hD hA hS hl hR
  have hinX0 : ∀ w ∈ wsX00, w ∈ wsX0_hasRun := by decide +kernel
  rw [f_X0_hasRun] at hf
  refine lv_iload_n hx hb dX0_hasRun_0 rfl (lv_at hl 1 rfl) ?_
  obtain ⟨k16, hk16, hf⟩ := jn_some hf
  have w16 : ∀ (_ : Unit), k16 () = r → ∀ (H : Heap) (locs : List Loc) (ls : Array Slot), va_P D vwCl (wB cI ad size rc g fs st ln su rr cr) H → va_D A (wB cI ad size rc g fs st ln su rr cr) → va_S A s.heap H locs → lv_has ls 2 [] → W p l e rm_X0_hasRun s m args below meth c H locs 0 0 Q (F0 m 16 ls []) := by
    intro _ hf H locs ls hP hD hS hl
    rw [hk16] at hf
    try dsimp only at hf
    refine lv_iconst (v := 0) hx hb dX0_hasRun_16 (by decide) ?_
    cases hf
    exact hR _ _ _ _ _ _ (by decide) rfl rfl hP hD hS dX0_hasRun_17
  refine lv_if_lt (tgt := 16) hx hb dX0_hasRun_1 (by decide) (fun c_1 => ?_) (fun c_1 => ?_)
  · have hf := ite_t c_1 hf
    exact w16 () hf _ _ _ hP hD hS (lv_sub hl [] rfl)
  · have hf := ite_f c_1 hf
    refine lv_iload_n hx hb dX0_hasRun_4 rfl (lv_at hl 1 rfl) ?_
    refine lv_aload_n hx hb dX0_hasRun_5 rfl (lv_at hl 0 rfl) ?_
    refine va_get (D := D) (ci := 0) (v := .int rc) (C := RX0) (T := TX0) (N := 9) hx hb hts hinX0 hown hK.1 hP 0 rfl rfl 1 (by decide) (hts (.fieldLink RX0 68 "Gridpuzzle$Board" "runCount" "I") (by decide +kernel)) (fun _ h9 => h9) rfl dX0_hasRun_6 ?_
    refine lv_icmp_ge (tgt := 16) hx hb dX0_hasRun_9 (by decide) (fun c_9 => ?_) (fun c_9 => ?_)
    · have hf := ite_t c_9 hf
      exact w16 () hf _ _ _ hP hD hS (lv_sub hl [] rfl)
    · have hf := ite_f c_9 hf
      refine lv_iconst (v := 1) hx hb dX0_hasRun_12 (by decide) ?_
      refine lv_goto (tgt := 17) hx hb dX0_hasRun_13 (by decide) ?_
      cases hf
      exact hR _ _ _ _ _ _ (by decide) rfl rfl hP hD hS dX0_hasRun_17
def rm_X0_sumAt : Room := { frames := 1, cells := 0, slots := 0, locals := 21 }
set_option maxRecDepth 100000 in
set_option maxHeartbeats 8000000 in
theorem K_X0_sumAt (l : Launch) (D : va_G) (cI cZ : ClassId) (ad : Nat → Nat) (sz : Nat) (size rc : Int32) (g fs st ln su rr cr : Nat → Int32) (p1 : Int32) (r : (Int32)) (hf : f_X0_sumAt su p1 = r) : Met l yX0_sumAt wsX0_sumAt rm_X0_sumAt (PC D cI cZ sz [.ref (ad 0), .int p1] (wB cI ad size rc g fs st ln su rr cr)) (QI D cI cZ sz (wB cI ad size rc g fs st ln su rr cr) r (wB cI ad size rc g fs st ln su rr cr)) 0 0 (va_A (wB cI ad size rc g fs st ln su rr cr) sz) := by
  refine mk_i (cc := cX0_sumAt) (maxL := 2) (lv0 := [(0, .ref (ad 0)), (1, .int p1)]) (by decide) rfl (Nat.le_of_ble_eq_true rfl) rfl ?_
  intro p e s m args below meth c ls A Q H hx hb hml hown hts hK hP hD hA hS hl hR
  have hinX0 : ∀ w ∈ wsX00, w ∈ wsX0_sumAt := by decide +kernel
  rw [f_X0_sumAt] at hf
  refine lv_aload_n hx hb dX0_sumAt_0 rfl (lv_at hl 0 rfl) ?_
  refine va_get (D := D) (ci := 0) (v := .ref (ad 5)) (C := RX0) (T := TX0) (N := 9) hx hb hts hinX0 hown hK.1 hP 0 rfl rfl 6 (by decide) (hts (.fieldLink RX0 24 "Gridpuzzle$Board" "sums" "[I") (by decide +kernel)) (fun _ h9 => h9) rfl dX0_sumAt_1 ?_
  refine lv_iload_n hx hb dX0_sumAt_4 rfl (lv_at hl 1 rfl) ?_
  refine clN_i (As := [.ref (ad 5), .int p1]) (rest := []) (wB cI ad size rc g fs st ln su rr cr) ⟨hx, hb, hml, hown, hts⟩ (K_X3_at l D cI cZ (ad 5) 8 (by decide) H.size su p1 _ rfl) ⟨va_cnB (host := RX3) 2 hts gX0_sumAt_X3_at_n50 rfl rfl rfl (hK.2 (RX0, 50, yX3_at) (by decide)) (hts (.initialized RX3) (by decide +kernel)) (by decide +kernel) ⟨Nat.le_of_ble_eq_true rfl, Nat.le_of_ble_eq_true rfl⟩, hts (.static yX3_at) (by decide +kernel), trivial⟩ hK hP hD hS hA hl.1 [5] (by decide) rfl rfl rfl rfl rfl (Nat.le_of_ble_eq_true rfl) dX0_sumAt_5 ⟨Nat.le_of_ble_eq_true rfl, Nat.le_of_ble_eq_true rfl⟩ (fun H locs hP hD hS => ?_)
  cases hf
  exact hR _ _ _ _ _ _ rfl rfl hP hD hS dX0_sumAt_8
def rm_X0_putSum : Room := { frames := 1, cells := 0, slots := 0, locals := 22 }
set_option maxRecDepth 100000 in
set_option maxHeartbeats 8000000 in
theorem K_X0_putSum (l : Launch) (D : va_G) (cI cZ : ClassId) (ad : Nat → Nat) (sz : Nat) (size rc : Int32) (g fs st ln su rr cr : Nat → Int32) (p1 : Int32) (p2 : Int32) (r : ((Nat → Int32))) (hf : f_X0_putSum su p1 p2 = r) : Met l yX0_putSum wsX0_putSum rm_X0_putSum (PC D cI cZ sz [.ref (ad 0), .int p1, .int p2] (wB cI ad size rc g fs st ln su rr cr)) (QV D cI cZ sz (wB cI ad size rc g fs st ln su rr cr) (wB cI ad size rc g fs st ln r rr cr)) 0 0 (va_A (wB cI ad size rc g fs st ln su rr cr) sz) := by
  refine mk_v (cc := cX0_putSum) (maxL := 3) (lv0 := [(0, .ref (ad 0)), (1, .int p1), (2, .int p2)]) (by decide) rfl (Nat.le_of_ble_eq_true rfl) rfl ?_
  intro p e s m args below meth c ls A Q H hx hb hml hown hts hK hP hD hA hS hl hR
  have hinX0 : ∀ w ∈ wsX00, w ∈ wsX0_putSum := by decide +kernel
  rw [f_X0_putSum] at hf
  refine lv_aload_n hx hb dX0_putSum_0 rfl (lv_at hl 0 rfl) ?_
  refine va_get (D := D) (ci := 0) (v := .ref (ad 5)) (C := RX0) (T := TX0) (N := 9) hx hb hts hinX0 hown hK.1 hP 0 rfl rfl 6 (by decide) (hts (.fieldLink RX0 24 "Gridpuzzle$Board" "sums" "[I") (by decide +kernel)) (fun _ h9 => h9) rfl dX0_putSum_1 ?_
  refine lv_iload_n hx hb dX0_putSum_4 rfl (lv_at hl 1 rfl) ?_
  refine lv_iload_n hx hb dX0_putSum_5 rfl (lv_at hl 2 rfl) ?_
  refine clN_v (As := [.ref (ad 5), .int p1, .int p2]) (rest := []) (wB cI ad size rc g fs st ln (f_X3_put 8 su p1 p2) rr cr) ⟨hx, hb, hml, hown, hts⟩ (K_X3_put l D cI cZ (ad 5) 8 (by decide) H.size su p1 p2 _ rfl) ⟨va_cnB (host := RX3) 3 hts gX0_putSum_X3_put_n54 rfl rfl rfl (hK.2 (RX0, 54, yX3_put) (by decide)) (hts (.initialized RX3) (by decide +kernel)) (by decide +kernel) ⟨Nat.le_of_ble_eq_true rfl, Nat.le_of_ble_eq_true rfl⟩, hts (.static yX3_put) (by decide +kernel), trivial⟩ hK hP hD hS hA hl.1 [5] (by decide) rfl rfl rfl rfl rfl (Nat.le_of_ble_eq_true rfl) dX0_putSum_6 ⟨Nat.le_of_ble_eq_true rfl, Nat.le_of_ble_eq_true rfl⟩ (fun H locs hP hD hS => ?_)
  cases hf
  exact hR _ _ _ _ _ rfl hP hD hS dX0_putSum_9
def rm_X0_isBlank : Room := { frames := 1, cells := 0, slots := 0, locals := 21 }
set_option maxRecDepth 100000 in
set_option maxHeartbeats 8000000 in
theorem K_X0_isBlank (l : Launch) (D : va_G) (cI cZ : ClassId) (ad : Nat → Nat) (sz : Nat) (size rc : Int32) (g fs st ln su rr cr : Nat → Int32) (p1 : Int32) (r : (Int32)) (hf : f_X0_isBlank size g p1 = r) : Met l yX0_isBlank wsX0_isBlank rm_X0_isBlank (PC D cI cZ sz [.ref (ad 0), .int p1] (wB cI ad size rc g fs st ln su rr cr)) (QI D cI cZ sz (wB cI ad size rc g fs st ln su rr cr) r (wB cI ad size rc g fs st ln su rr cr)) 0 0 (va_A (wB cI ad size rc g fs st ln su rr cr) sz) := by
  refine mk_z (cc := cX0_isBlank) (maxL := 2) (lv0 := [(0, .ref (ad 0)), (1, .int p1)]) (by decide) rfl (Nat.le_of_ble_eq_true rfl) rfl ?_
  intro p e s m args below meth c ls A Q H hx hb hml hown hts hK hP hD hA hS hl hR
  have hinX0 : ∀ w ∈ wsX00, w ∈ wsX0_isBlank := by decide +kernel
  rw [f_X0_isBlank] at hf
  refine lv_aload_n hx hb dX0_isBlank_0 rfl (lv_at hl 0 rfl) ?_
  refine lv_iload_n hx hb dX0_isBlank_1 rfl (lv_at hl 1 rfl) ?_
  refine clV_i (As := [.int p1]) (rest := []) (wB cI ad size rc g fs st ln su rr cr) ⟨hx, hb, hml, hown, hts⟩ (K_X0_hasCell l D cI cZ ad H.size size rc g fs st ln su rr cr p1 _ rfl) (cwV 1 hts gX0_isBlank_X0_hasCell rfl rfl rfl (by decide +kernel) ⟨Nat.le_of_ble_eq_true rfl, Nat.le_of_ble_eq_true rfl⟩) hK hP hD hS hA hl.1 [0, 1, 2, 3, 4, 5, 6, 7] (by decide) rfl rfl rfl 0 0 rfl rfl rfl rfl rfl (Nat.le_of_ble_eq_true rfl) dX0_isBlank_2 ⟨Nat.le_of_ble_eq_true rfl, Nat.le_of_ble_eq_true rfl⟩ (fun H locs hP hD hS => ?_)
  obtain ⟨k23, hk23, hf⟩ := jn_some hf
  have w23 : ∀ (_ : Unit), k23 () = r → ∀ (H : Heap) (locs : List Loc) (ls : Array Slot), va_P D vwCl (wB cI ad size rc g fs st ln su rr cr) H → va_D A (wB cI ad size rc g fs st ln su rr cr) → va_S A s.heap H locs → lv_has ls 2 [] → W p l e rm_X0_isBlank s m args below meth c H locs 0 0 Q (F0 m 23 ls []) := by
    intro _ hf H locs ls hP hD hS hl
    rw [hk23] at hf
    try dsimp only at hf
    refine lv_iconst (v := 0) hx hb dX0_isBlank_23 (by decide) ?_
    cases hf
    exact hR _ _ _ _ _ _ (by decide) rfl rfl hP hD hS dX0_isBlank_24
  refine lv_if_eq (tgt := 23) hx hb dX0_isBlank_5 (by decide) (fun c_5 => ?_) (fun c_5 => ?_)
  · have hf := ite_t c_5 hf
    exact w23 () hf _ _ _ hP hD hS (lv_sub hl [] rfl)
  · have hf := ite_f c_5 hf
    refine lv_aload_n hx hb dX0_isBlank_8 rfl (lv_at hl 0 rfl) ?_
    refine va_get (D := D) (ci := 0) (v := .ref (ad 1)) (C := RX0) (T := TX0) (N := 9) hx hb hts hinX0 hown hK.1 hP 0 rfl rfl 2 (by decide) (hts (.fieldLink RX0 9 "Gridpuzzle$Board" "givens" "[I") (by decide +kernel)) (fun _ h9 => h9) rfl dX0_isBlank_9 ?_
    refine lv_iload_n hx hb dX0_isBlank_12 rfl (lv_at hl 1 rfl) ?_
    refine clN_i (As := [.ref (ad 1), .int p1]) (rest := []) (wB cI ad size rc g fs st ln su rr cr) ⟨hx, hb, hml, hown, hts⟩ (K_X3_at l D cI cZ (ad 1) 16 (by decide) H.size g p1 _ rfl) ⟨va_cnB (host := RX3) 2 hts gX0_isBlank_X3_at_n50 rfl rfl rfl (hK.2 (RX0, 50, yX3_at) (by decide)) (hts (.initialized RX3) (by decide +kernel)) (by decide +kernel) ⟨Nat.le_of_ble_eq_true rfl, Nat.le_of_ble_eq_true rfl⟩, hts (.static yX3_at) (by decide +kernel), trivial⟩ hK hP hD hS hA hl.1 [1] (by decide) rfl rfl rfl rfl rfl (Nat.le_of_ble_eq_true rfl) dX0_isBlank_13 ⟨Nat.le_of_ble_eq_true rfl, Nat.le_of_ble_eq_true rfl⟩ (fun H locs hP hD hS => ?_)
    refine lv_if_ne (tgt := 23) hx hb dX0_isBlank_16 (by decide) (fun c_16 => ?_) (fun c_16 => ?_)
    · have hf := ite_f c_16 hf
      exact w23 () hf _ _ _ hP hD hS (lv_sub hl [] rfl)
    · have hf := ite_t c_16 hf
      refine lv_iconst (v := 1) hx hb dX0_isBlank_19 (by decide) ?_
      refine lv_goto (tgt := 24) hx hb dX0_isBlank_20 (by decide) ?_
      cases hf
      exact hR _ _ _ _ _ _ (by decide) rfl rfl hP hD hS dX0_isBlank_24
def rm_X0_countBlanks : Room := { frames := 2, cells := 0, slots := 0, locals := 42 }
set_option maxRecDepth 100000 in
set_option maxHeartbeats 8000000 in
theorem K_X0_countBlanks (l : Launch) (D : va_G) (cI cZ : ClassId) (ad : Nat → Nat) (sz : Nat) (N : Nat) (size rc : Int32) (g fs st ln su rr cr : Nat → Int32) (r : (Int32)) (hf : f_X0_countBlanks N size g = some r) : Met l yX0_countBlanks wsX0_countBlanks rm_X0_countBlanks (PC D cI cZ sz [.ref (ad 0)] (wB cI ad size rc g fs st ln su rr cr)) (QI D cI cZ sz (wB cI ad size rc g fs st ln su rr cr) r (wB cI ad size rc g fs st ln su rr cr)) 0 0 (va_A (wB cI ad size rc g fs st ln su rr cr) sz) := by
  refine mk_i (cc := cX0_countBlanks) (maxL := 3) (lv0 := [(0, .ref (ad 0))]) (by decide) rfl (Nat.le_of_ble_eq_true rfl) rfl ?_
  intro p e s m args below meth c ls A Q H hx hb hml hown hts hK hP hD hA hS hl hR
  rw [f_X0_countBlanks] at hf
  refine lv_iconst (v := 0) hx hb dX0_countBlanks_0 (by decide) ?_
  refine lv_istore_n (lv' := [(1, .int 0), (0, .ref (ad 0))]) hx hb dX0_countBlanks_1 rfl hl (by decide) rfl (fun ls hl => ?_)
  refine lv_iconst (v := 0) hx hb dX0_countBlanks_2 (by decide) ?_
  refine lv_istore_n (lv' := [(2, .int 0), (1, .int 0), (0, .ref (ad 0))]) hx hb dX0_countBlanks_3 rfl hl (by decide) rfl (fun ls hl => ?_)
  have l4 : ∀ (nn : Nat) (v1_4 : Int32) (v2_4 : Int32), f_X0_countBlanks_L4 size g nn v1_4 v2_4 = some r → ∀ (H : Heap) (locs : List Loc) (ls : Array Slot), va_P D vwCl (wB cI ad size rc g fs st ln su rr cr) H → va_D A (wB cI ad size rc g fs st ln su rr cr) → va_S A s.heap H locs → lv_has ls 3 [(0, .ref (ad 0)), (1, .int v1_4), (2, .int v2_4)] → W p l e rm_X0_countBlanks s m args below meth c H locs 0 0 Q (F0 m 4 ls []) := by
    intro nn
    induction nn with
    | zero => intro _ _ hf; exact nomatch (show (none : Option _) = some r from hf)
    | succ n4 ih4 =>
      intro v1_4 v2_4 hf H locs ls hP hD hS hl
      rw [f_X0_countBlanks_L4.eq_2] at hf
      refine lv_iload_n hx hb dX0_countBlanks_4 rfl (lv_at hl 2 rfl) ?_
      refine lv_bipush (v := 16) hx hb dX0_countBlanks_5 (by decide) ?_
      refine lv_icmp_ge (tgt := 27) hx hb dX0_countBlanks_7 (by decide) (fun c_7 => ?_) (fun c_7 => ?_)
      · have hf := ite_t c_7 hf
        refine lv_iload_n hx hb dX0_countBlanks_27 rfl (lv_at hl 1 rfl) ?_
        cases hf
        exact hR _ _ _ _ _ _ rfl rfl hP hD hS dX0_countBlanks_28
      · have hf := ite_f c_7 hf
        refine lv_aload_n hx hb dX0_countBlanks_10 rfl (lv_at hl 0 rfl) ?_
        refine lv_iload_n hx hb dX0_countBlanks_11 rfl (lv_at hl 2 rfl) ?_
        refine clV_i (As := [.int v2_4]) (rest := []) (wB cI ad size rc g fs st ln su rr cr) ⟨hx, hb, hml, hown, hts⟩ (K_X0_isBlank l D cI cZ ad H.size size rc g fs st ln su rr cr v2_4 _ rfl) (cwV 1 hts gX0_countBlanks_X0_isBlank rfl rfl rfl (by decide +kernel) ⟨Nat.le_of_ble_eq_true rfl, Nat.le_of_ble_eq_true rfl⟩) hK hP hD hS hA hl.1 [0, 1, 2, 3, 4, 5, 6, 7] (by decide) rfl rfl rfl 0 0 rfl rfl rfl rfl rfl (Nat.le_of_ble_eq_true rfl) dX0_countBlanks_12 ⟨Nat.le_of_ble_eq_true rfl, Nat.le_of_ble_eq_true rfl⟩ (fun H locs hP hD hS => ?_)
        obtain ⟨k21, hk21, hf⟩ := jn_some hf
        have w21 : ∀ (v1_21 : Int32), k21 v1_21 = some r → ∀ (H : Heap) (locs : List Loc) (ls : Array Slot), va_P D vwCl (wB cI ad size rc g fs st ln su rr cr) H → va_D A (wB cI ad size rc g fs st ln su rr cr) → va_S A s.heap H locs → lv_has ls 3 [(0, .ref (ad 0)), (1, .int v1_21), (2, .int v2_4)] → W p l e rm_X0_countBlanks s m args below meth c H locs 0 0 Q (F0 m 21 ls []) := by
          intro v1_21 hf H locs ls hP hD hS hl
          rw [hk21] at hf
          try dsimp only at hf
          refine lv_iinc (v := (v2_4 + 1)) (lv' := [(2, .int (v2_4 + 1)), (0, .ref (ad 0)), (1, .int v1_21)]) hx hb dX0_countBlanks_21 hl (k := 2) rfl rfl (by decide) rfl (fun ls hl => ?_)
          refine lv_goto (tgt := 4) hx hb dX0_countBlanks_24 (by decide) ?_
          exact ih4 v1_21 (v2_4 + 1) hf _ _ _ hP hD hS (lv_sub hl [1, 2, 0] rfl)
        refine lv_if_eq (tgt := 21) hx hb dX0_countBlanks_15 (by decide) (fun c_15 => ?_) (fun c_15 => ?_)
        · have hf := ite_t c_15 hf
          exact w21 v1_4 hf _ _ _ hP hD hS (lv_sub hl [0, 1, 2] rfl)
        · have hf := ite_f c_15 hf
          refine lv_iinc (v := (v1_4 + 1)) (lv' := [(1, .int (v1_4 + 1)), (0, .ref (ad 0)), (2, .int v2_4)]) hx hb dX0_countBlanks_18 hl (k := 1) rfl rfl (by decide) rfl (fun ls hl => ?_)
          exact w21 (v1_4 + 1) hf _ _ _ hP hD hS (lv_sub hl [1, 0, 2] rfl)
  exact l4 N 0 0 hf _ _ _ hP hD hS (lv_sub hl [2, 1, 0] rfl)
def rm_X0_isFilled : Room := { frames := 3, cells := 0, slots := 0, locals := 64 }
set_option maxRecDepth 100000 in
set_option maxHeartbeats 8000000 in
theorem K_X0_isFilled (l : Launch) (D : va_G) (cI cZ : ClassId) (ad : Nat → Nat) (sz : Nat) (N : Nat) (size rc : Int32) (g fs st ln su rr cr : Nat → Int32) (r : (Int32)) (hf : f_X0_isFilled N size g = some r) : Met l yX0_isFilled wsX0_isFilled rm_X0_isFilled (PC D cI cZ sz [.ref (ad 0)] (wB cI ad size rc g fs st ln su rr cr)) (QI D cI cZ sz (wB cI ad size rc g fs st ln su rr cr) r (wB cI ad size rc g fs st ln su rr cr)) 0 0 (va_A (wB cI ad size rc g fs st ln su rr cr) sz) := by
  refine mk_z (cc := cX0_isFilled) (maxL := 1) (lv0 := [(0, .ref (ad 0))]) (by decide) rfl (Nat.le_of_ble_eq_true rfl) rfl ?_
  intro p e s m args below meth c ls A Q H hx hb hml hown hts hK hP hD hA hS hl hR
  rw [f_X0_isFilled] at hf
  refine lv_aload_n hx hb dX0_isFilled_0 rfl (lv_at hl 0 rfl) ?_
  obtain ⟨x1, hy1, hf⟩ := Option.bind_eq_some_iff.mp hf
  refine clV_i (As := []) (rest := []) (wB cI ad size rc g fs st ln su rr cr) ⟨hx, hb, hml, hown, hts⟩ (K_X0_countBlanks l D cI cZ ad H.size N size rc g fs st ln su rr cr _ hy1) (cwV 0 hts gX0_isFilled_X0_countBlanks rfl rfl rfl (by decide +kernel) ⟨Nat.le_of_ble_eq_true rfl, Nat.le_of_ble_eq_true rfl⟩) hK hP hD hS hA hl.1 [0, 1, 2, 3, 4, 5, 6, 7] (by decide) rfl rfl rfl 0 0 rfl rfl rfl rfl rfl (Nat.le_of_ble_eq_true rfl) dX0_isFilled_1 ⟨Nat.le_of_ble_eq_true rfl, Nat.le_of_ble_eq_true rfl⟩ (fun H locs hP hD hS => ?_)
  refine lv_if_ne (tgt := 11) hx hb dX0_isFilled_4 (by decide) (fun c_4 => ?_) (fun c_4 => ?_)
  · have hf := ite_f c_4 hf
    refine lv_iconst (v := 0) hx hb dX0_isFilled_11 (by decide) ?_
    cases hf
    exact hR _ _ _ _ _ _ (by decide) rfl rfl hP hD hS dX0_isFilled_12
  · have hf := ite_t c_4 hf
    refine lv_iconst (v := 1) hx hb dX0_isFilled_7 (by decide) ?_
    refine lv_goto (tgt := 12) hx hb dX0_isFilled_8 (by decide) ?_
    cases hf
    exact hR _ _ _ _ _ _ (by decide) rfl rfl hP hD hS dX0_isFilled_12
def rm_X0_lengthAt : Room := { frames := 1, cells := 0, slots := 0, locals := 21 }
set_option maxRecDepth 100000 in
set_option maxHeartbeats 8000000 in
theorem K_X0_lengthAt (l : Launch) (D : va_G) (cI cZ : ClassId) (ad : Nat → Nat) (sz : Nat) (size rc : Int32) (g fs st ln su rr cr : Nat → Int32) (p1 : Int32) (r : (Int32)) (hf : f_X0_lengthAt ln p1 = r) : Met l yX0_lengthAt wsX0_lengthAt rm_X0_lengthAt (PC D cI cZ sz [.ref (ad 0), .int p1] (wB cI ad size rc g fs st ln su rr cr)) (QI D cI cZ sz (wB cI ad size rc g fs st ln su rr cr) r (wB cI ad size rc g fs st ln su rr cr)) 0 0 (va_A (wB cI ad size rc g fs st ln su rr cr) sz) := by
  refine mk_i (cc := cX0_lengthAt) (maxL := 2) (lv0 := [(0, .ref (ad 0)), (1, .int p1)]) (by decide) rfl (Nat.le_of_ble_eq_true rfl) rfl ?_
  intro p e s m args below meth c ls A Q H hx hb hml hown hts hK hP hD hA hS hl hR
  have hinX0 : ∀ w ∈ wsX00, w ∈ wsX0_lengthAt := by decide +kernel
  rw [f_X0_lengthAt] at hf
  refine lv_aload_n hx hb dX0_lengthAt_0 rfl (lv_at hl 0 rfl) ?_
  refine va_get (D := D) (ci := 0) (v := .ref (ad 4)) (C := RX0) (T := TX0) (N := 9) hx hb hts hinX0 hown hK.1 hP 0 rfl rfl 5 (by decide) (hts (.fieldLink RX0 21 "Gridpuzzle$Board" "lengths" "[I") (by decide +kernel)) (fun _ h9 => h9) rfl dX0_lengthAt_1 ?_
  refine lv_iload_n hx hb dX0_lengthAt_4 rfl (lv_at hl 1 rfl) ?_
  refine clN_i (As := [.ref (ad 4), .int p1]) (rest := []) (wB cI ad size rc g fs st ln su rr cr) ⟨hx, hb, hml, hown, hts⟩ (K_X3_at l D cI cZ (ad 4) 8 (by decide) H.size ln p1 _ rfl) ⟨va_cnB (host := RX3) 2 hts gX0_lengthAt_X3_at_n50 rfl rfl rfl (hK.2 (RX0, 50, yX3_at) (by decide)) (hts (.initialized RX3) (by decide +kernel)) (by decide +kernel) ⟨Nat.le_of_ble_eq_true rfl, Nat.le_of_ble_eq_true rfl⟩, hts (.static yX3_at) (by decide +kernel), trivial⟩ hK hP hD hS hA hl.1 [4] (by decide) rfl rfl rfl rfl rfl (Nat.le_of_ble_eq_true rfl) dX0_lengthAt_5 ⟨Nat.le_of_ble_eq_true rfl, Nat.le_of_ble_eq_true rfl⟩ (fun H locs hP hD hS => ?_)
  cases hf
  exact hR _ _ _ _ _ _ rfl rfl hP hD hS dX0_lengthAt_8
def rm_X0_cellAt : Room := { frames := 1, cells := 0, slots := 0, locals := 21 }
set_option maxRecDepth 100000 in
set_option maxHeartbeats 8000000 in
theorem K_X0_cellAt (l : Launch) (D : va_G) (cI cZ : ClassId) (ad : Nat → Nat) (sz : Nat) (size rc : Int32) (g fs st ln su rr cr : Nat → Int32) (p1 : Int32) (p2 : Int32) (r : (Int32)) (hf : f_X0_cellAt fs st p1 p2 = r) : Met l yX0_cellAt wsX0_cellAt rm_X0_cellAt (PC D cI cZ sz [.ref (ad 0), .int p1, .int p2] (wB cI ad size rc g fs st ln su rr cr)) (QI D cI cZ sz (wB cI ad size rc g fs st ln su rr cr) r (wB cI ad size rc g fs st ln su rr cr)) 0 0 (va_A (wB cI ad size rc g fs st ln su rr cr) sz) := by
  refine mk_i (cc := cX0_cellAt) (maxL := 3) (lv0 := [(0, .ref (ad 0)), (1, .int p1), (2, .int p2)]) (by decide) rfl (Nat.le_of_ble_eq_true rfl) rfl ?_
  intro p e s m args below meth c ls A Q H hx hb hml hown hts hK hP hD hA hS hl hR
  have hinX0 : ∀ w ∈ wsX00, w ∈ wsX0_cellAt := by decide +kernel
  rw [f_X0_cellAt] at hf
  refine lv_aload_n hx hb dX0_cellAt_0 rfl (lv_at hl 0 rfl) ?_
  refine va_get (D := D) (ci := 0) (v := .ref (ad 2)) (C := RX0) (T := TX0) (N := 9) hx hb hts hinX0 hown hK.1 hP 0 rfl rfl 3 (by decide) (hts (.fieldLink RX0 15 "Gridpuzzle$Board" "firsts" "[I") (by decide +kernel)) (fun _ h9 => h9) rfl dX0_cellAt_1 ?_
  refine lv_iload_n hx hb dX0_cellAt_4 rfl (lv_at hl 1 rfl) ?_
  refine clN_i (As := [.ref (ad 2), .int p1]) (rest := []) (wB cI ad size rc g fs st ln su rr cr) ⟨hx, hb, hml, hown, hts⟩ (K_X3_at l D cI cZ (ad 2) 8 (by decide) H.size fs p1 _ rfl) ⟨va_cnB (host := RX3) 2 hts gX0_cellAt_X3_at_n50 rfl rfl rfl (hK.2 (RX0, 50, yX3_at) (by decide)) (hts (.initialized RX3) (by decide +kernel)) (by decide +kernel) ⟨Nat.le_of_ble_eq_true rfl, Nat.le_of_ble_eq_true rfl⟩, hts (.static yX3_at) (by decide +kernel), trivial⟩ hK hP hD hS hA hl.1 [2] (by decide) rfl rfl rfl rfl rfl (Nat.le_of_ble_eq_true rfl) dX0_cellAt_5 ⟨Nat.le_of_ble_eq_true rfl, Nat.le_of_ble_eq_true rfl⟩ (fun H locs hP hD hS => ?_)
  refine lv_iload_n hx hb dX0_cellAt_8 rfl (lv_at hl 2 rfl) ?_
  refine lv_aload_n hx hb dX0_cellAt_9 rfl (lv_at hl 0 rfl) ?_
  refine va_get (D := D) (ci := 0) (v := .ref (ad 3)) (C := RX0) (T := TX0) (N := 9) hx hb hts hinX0 hown hK.1 hP 0 rfl rfl 4 (by decide) (hts (.fieldLink RX0 18 "Gridpuzzle$Board" "steps" "[I") (by decide +kernel)) (fun _ h9 => h9) rfl dX0_cellAt_10 ?_
  refine lv_iload_n hx hb dX0_cellAt_13 rfl (lv_at hl 1 rfl) ?_
  refine clN_i (As := [.ref (ad 3), .int p1]) (rest := [.int p2, .int (f_X3_at 8 fs p1)]) (wB cI ad size rc g fs st ln su rr cr) ⟨hx, hb, hml, hown, hts⟩ (K_X3_at l D cI cZ (ad 3) 8 (by decide) H.size st p1 _ rfl) ⟨va_cnB (host := RX3) 2 hts gX0_cellAt_X3_at_n50 rfl rfl rfl (hK.2 (RX0, 50, yX3_at) (by decide)) (hts (.initialized RX3) (by decide +kernel)) (by decide +kernel) ⟨Nat.le_of_ble_eq_true rfl, Nat.le_of_ble_eq_true rfl⟩, hts (.static yX3_at) (by decide +kernel), trivial⟩ hK hP hD hS hA hl.1 [3] (by decide) rfl rfl rfl rfl rfl (Nat.le_of_ble_eq_true rfl) dX0_cellAt_14 ⟨Nat.le_of_ble_eq_true rfl, Nat.le_of_ble_eq_true rfl⟩ (fun H locs hP hD hS => ?_)
  refine lv_imul hx hb dX0_cellAt_17 ?_
  refine lv_iadd hx hb dX0_cellAt_18 ?_
  cases hf
  exact hR _ _ _ _ _ _ rfl rfl hP hD hS dX0_cellAt_19
def rm_X0_hasTwice_f : Room := { frames := 2, cells := 0, slots := 0, locals := 43 }
set_option maxRecDepth 100000 in
set_option maxHeartbeats 8000000 in
theorem K_X0_hasTwice_f (l : Launch) (D : va_G) (cI cZ : ClassId) (ad : Nat → Nat) (xa : Nat) (sz : Nat) (N : Nat) (size rc : Int32) (g fs st ln su rr cr xf : Nat → Int32) (p1 : Int32) (r : (Int32)) (hf : f_X0_hasTwice N fs st ln xf p1 = some r) : Met l yX0_hasTwice wsX0_hasTwice rm_X0_hasTwice_f (PC D cI cZ sz [.ref (ad 0), .int p1, .ref xa] (wBX cI ad xa size rc g fs st ln su rr cr xf)) (QI D cI cZ sz (wBX cI ad xa size rc g fs st ln su rr cr xf) r (wBX cI ad xa size rc g fs st ln su rr cr xf)) 0 0 (va_A (wBX cI ad xa size rc g fs st ln su rr cr xf) sz) := by
  refine mk_z (cc := cX0_hasTwice) (maxL := 7) (lv0 := [(0, .ref (ad 0)), (1, .int p1), (2, .ref xa)]) (by decide) rfl (Nat.le_of_ble_eq_true rfl) rfl ?_
  intro p e s m args below meth c ls A Q H hx hb hml hown hts hK hP hD hA hS hl hR
  rw [f_X0_hasTwice] at hf
  refine lv_iconst (v := 0) hx hb dX0_hasTwice_0 (by decide) ?_
  refine lv_istore_n (lv' := [(3, .int 0), (0, .ref (ad 0)), (1, .int p1), (2, .ref xa)]) hx hb dX0_hasTwice_1 rfl hl (by decide) rfl (fun ls hl => ?_)
  refine lv_aload_n hx hb dX0_hasTwice_2 rfl (lv_at hl 1 rfl) ?_
  refine lv_iload_n hx hb dX0_hasTwice_3 rfl (lv_at hl 2 rfl) ?_
  refine clV_i (As := [.int p1]) (rest := []) (wBX cI ad xa size rc g fs st ln su rr cr xf) ⟨hx, hb, hml, hown, hts⟩ (K_X0_lengthAt l D cI cZ ad H.size size rc g fs st ln su rr cr p1 _ rfl) (cwV 1 hts gX0_hasTwice_X0_lengthAt rfl rfl rfl (by decide +kernel) ⟨Nat.le_of_ble_eq_true rfl, Nat.le_of_ble_eq_true rfl⟩) hK hP hD hS hA hl.1 [0, 1, 2, 3, 4, 5, 6, 7] (by decide) rfl rfl rfl 0 0 rfl rfl rfl rfl rfl (Nat.le_of_ble_eq_true rfl) dX0_hasTwice_4 ⟨Nat.le_of_ble_eq_true rfl, Nat.le_of_ble_eq_true rfl⟩ (fun H locs hP hD hS => ?_)
  refine lv_istore (lv' := [(4, .int (f_X0_lengthAt ln p1)), (3, .int 0), (0, .ref (ad 0)), (1, .int p1), (2, .ref xa)]) hx hb dX0_hasTwice_7 hl (by decide) rfl (fun ls hl => ?_)
  refine lv_iconst (v := 0) hx hb dX0_hasTwice_9 (by decide) ?_
  refine lv_istore (lv' := [(5, .int 0), (4, .int (f_X0_lengthAt ln p1)), (3, .int 0), (0, .ref (ad 0)), (1, .int p1), (2, .ref xa)]) hx hb dX0_hasTwice_10 hl (by decide) rfl (fun ls hl => ?_)
  have l12 : ∀ (nn : Nat) (v3_12 : Int32) (v5_12 : Int32), f_X0_hasTwice_L12 p1 (f_X0_lengthAt ln p1) fs st xf nn v3_12 v5_12 = some r → ∀ (H : Heap) (locs : List Loc) (ls : Array Slot), va_P D vwCl (wBX cI ad xa size rc g fs st ln su rr cr xf) H → va_D A (wBX cI ad xa size rc g fs st ln su rr cr xf) → va_S A s.heap H locs → lv_has ls 7 [(0, .ref (ad 0)), (1, .int p1), (2, .ref xa), (3, .int v3_12), (4, .int (f_X0_lengthAt ln p1)), (5, .int v5_12)] → W p l e rm_X0_hasTwice_f s m args below meth c H locs 0 0 Q (F0 m 12 ls []) := by
    intro nn
    induction nn with
    | zero => intro _ _ hf; exact nomatch (show (none : Option _) = some r from hf)
    | succ n12 ih12 =>
      intro v3_12 v5_12 hf H locs ls hP hD hS hl
      rw [f_X0_hasTwice_L12.eq_2] at hf
      refine lv_iload hx hb dX0_hasTwice_12 (lv_at hl 5 rfl) ?_
      refine lv_iload hx hb dX0_hasTwice_14 (lv_at hl 4 rfl) ?_
      refine lv_icmp_ge (tgt := 54) hx hb dX0_hasTwice_16 (by decide) (fun c_16 => ?_) (fun c_16 => ?_)
      · have hf := ite_t c_16 hf
        refine lv_iconst (v := 0) hx hb dX0_hasTwice_54 (by decide) ?_
        cases hf
        exact hR _ _ _ _ _ _ (by decide) rfl rfl hP hD hS dX0_hasTwice_55
      · have hf := ite_f c_16 hf
        refine lv_iconst (v := 1) hx hb dX0_hasTwice_19 (by decide) ?_
        refine lv_aload_n hx hb dX0_hasTwice_20 rfl (lv_at hl 2 rfl) ?_
        refine lv_aload_n hx hb dX0_hasTwice_21 rfl (lv_at hl 0 rfl) ?_
        refine lv_iload_n hx hb dX0_hasTwice_22 rfl (lv_at hl 1 rfl) ?_
        refine lv_iload hx hb dX0_hasTwice_23 (lv_at hl 5 rfl) ?_
        refine clV_i (As := [.int p1, .int v5_12]) (rest := [.ref xa, .int 1]) (wBX cI ad xa size rc g fs st ln su rr cr xf) ⟨hx, hb, hml, hown, hts⟩ (K_X0_cellAt l D cI cZ ad H.size size rc g fs st ln su rr cr p1 v5_12 _ rfl) (cwV 2 hts gX0_hasTwice_X0_cellAt rfl rfl rfl (by decide +kernel) ⟨Nat.le_of_ble_eq_true rfl, Nat.le_of_ble_eq_true rfl⟩) hK hP hD hS hA hl.1 [0, 1, 2, 3, 4, 5, 6, 7] (by decide) rfl rfl rfl 0 0 rfl rfl rfl rfl rfl (Nat.le_of_ble_eq_true rfl) dX0_hasTwice_25 ⟨Nat.le_of_ble_eq_true rfl, Nat.le_of_ble_eq_true rfl⟩ (fun H locs hP hD hS => ?_)
        refine clN_i (As := [.ref xa, .int (f_X0_cellAt fs st p1 v5_12)]) (rest := [.int 1]) (wBX cI ad xa size rc g fs st ln su rr cr xf) ⟨hx, hb, hml, hown, hts⟩ (K_X3_at l D cI cZ xa 16 (by decide) H.size xf (f_X0_cellAt fs st p1 v5_12) _ rfl) ⟨va_cnB (host := RX3) 2 hts gX0_hasTwice_X3_at_n50 rfl rfl rfl (hK.2 (RX0, 50, yX3_at) (by decide)) (hts (.initialized RX3) (by decide +kernel)) (by decide +kernel) ⟨Nat.le_of_ble_eq_true rfl, Nat.le_of_ble_eq_true rfl⟩, hts (.static yX3_at) (by decide +kernel), trivial⟩ hK hP hD hS hA hl.1 [8] (by decide) rfl rfl rfl rfl rfl (Nat.le_of_ble_eq_true rfl) dX0_hasTwice_28 ⟨Nat.le_of_ble_eq_true rfl, Nat.le_of_ble_eq_true rfl⟩ (fun H locs hP hD hS => ?_)
        refine lv_ishl hx hb dX0_hasTwice_31 ?_
        refine lv_istore (lv' := [(6, .int (1 <<< ((f_X3_at 16 xf (f_X0_cellAt fs st p1 v5_12)) &&& 31))), (0, .ref (ad 0)), (1, .int p1), (2, .ref xa), (3, .int v3_12), (4, .int (f_X0_lengthAt ln p1)), (5, .int v5_12)]) hx hb dX0_hasTwice_32 hl (by decide) rfl (fun ls hl => ?_)
        refine lv_iload_n hx hb dX0_hasTwice_34 rfl (lv_at hl 4 rfl) ?_
        refine lv_iload hx hb dX0_hasTwice_35 (lv_at hl 0 rfl) ?_
        refine lv_iand hx hb dX0_hasTwice_37 ?_
        refine lv_if_eq (tgt := 43) hx hb dX0_hasTwice_38 (by decide) (fun c_38 => ?_) (fun c_38 => ?_)
        · have hf := ite_t c_38 hf
          refine lv_iload_n hx hb dX0_hasTwice_43 rfl (lv_at hl 4 rfl) ?_
          refine lv_iload hx hb dX0_hasTwice_44 (lv_at hl 0 rfl) ?_
          refine lv_ior hx hb dX0_hasTwice_46 ?_
          refine lv_istore_n (lv' := [(3, .int (v3_12 ||| (1 <<< ((f_X3_at 16 xf (f_X0_cellAt fs st p1 v5_12)) &&& 31)))), (6, .int (1 <<< ((f_X3_at 16 xf (f_X0_cellAt fs st p1 v5_12)) &&& 31))), (0, .ref (ad 0)), (1, .int p1), (2, .ref xa), (4, .int (f_X0_lengthAt ln p1)), (5, .int v5_12)]) hx hb dX0_hasTwice_47 rfl hl (by decide) rfl (fun ls hl => ?_)
          refine lv_iinc (v := (v5_12 + 1)) (lv' := [(5, .int (v5_12 + 1)), (3, .int (v3_12 ||| (1 <<< ((f_X3_at 16 xf (f_X0_cellAt fs st p1 v5_12)) &&& 31)))), (6, .int (1 <<< ((f_X3_at 16 xf (f_X0_cellAt fs st p1 v5_12)) &&& 31))), (0, .ref (ad 0)), (1, .int p1), (2, .ref xa), (4, .int (f_X0_lengthAt ln p1))]) hx hb dX0_hasTwice_48 hl (k := 6) rfl rfl (by decide) rfl (fun ls hl => ?_)
          refine lv_goto (tgt := 12) hx hb dX0_hasTwice_51 (by decide) ?_
          exact ih12 (v3_12 ||| (1 <<< ((f_X3_at 16 xf (f_X0_cellAt fs st p1 v5_12)) &&& 31))) (v5_12 + 1) hf _ _ _ hP hD hS (lv_sub hl [3, 4, 5, 1, 6, 0] rfl)
        · have hf := ite_f c_38 hf
          refine lv_iconst (v := 1) hx hb dX0_hasTwice_41 (by decide) ?_
          cases hf
          exact hR _ _ _ _ _ _ (by decide) rfl rfl hP hD hS dX0_hasTwice_42
  exact l12 N 0 0 hf _ _ _ hP hD hS (lv_sub hl [3, 4, 5, 2, 1, 0] rfl)
def rm_X0_hasTwice_g : Room := { frames := 2, cells := 0, slots := 0, locals := 43 }
set_option maxRecDepth 100000 in
set_option maxHeartbeats 8000000 in
theorem K_X0_hasTwice_g (l : Launch) (D : va_G) (cI cZ : ClassId) (ad : Nat → Nat) (sz : Nat) (N : Nat) (size rc : Int32) (g fs st ln su rr cr : Nat → Int32) (p1 : Int32) (r : (Int32)) (hf : f_X0_hasTwice N fs st ln g p1 = some r) : Met l yX0_hasTwice wsX0_hasTwice rm_X0_hasTwice_g (PC D cI cZ sz [.ref (ad 0), .int p1, .ref (ad 1)] (wB cI ad size rc g fs st ln su rr cr)) (QI D cI cZ sz (wB cI ad size rc g fs st ln su rr cr) r (wB cI ad size rc g fs st ln su rr cr)) 0 0 (va_A (wB cI ad size rc g fs st ln su rr cr) sz) := by
  refine mk_z (cc := cX0_hasTwice) (maxL := 7) (lv0 := [(0, .ref (ad 0)), (1, .int p1), (2, .ref (ad 1))]) (by decide) rfl (Nat.le_of_ble_eq_true rfl) rfl ?_
  intro p e s m args below meth c ls A Q H hx hb hml hown hts hK hP hD hA hS hl hR
  rw [f_X0_hasTwice] at hf
  refine lv_iconst (v := 0) hx hb dX0_hasTwice_0 (by decide) ?_
  refine lv_istore_n (lv' := [(3, .int 0), (0, .ref (ad 0)), (1, .int p1), (2, .ref (ad 1))]) hx hb dX0_hasTwice_1 rfl hl (by decide) rfl (fun ls hl => ?_)
  refine lv_aload_n hx hb dX0_hasTwice_2 rfl (lv_at hl 1 rfl) ?_
  refine lv_iload_n hx hb dX0_hasTwice_3 rfl (lv_at hl 2 rfl) ?_
  refine clV_i (As := [.int p1]) (rest := []) (wB cI ad size rc g fs st ln su rr cr) ⟨hx, hb, hml, hown, hts⟩ (K_X0_lengthAt l D cI cZ ad H.size size rc g fs st ln su rr cr p1 _ rfl) (cwV 1 hts gX0_hasTwice_X0_lengthAt rfl rfl rfl (by decide +kernel) ⟨Nat.le_of_ble_eq_true rfl, Nat.le_of_ble_eq_true rfl⟩) hK hP hD hS hA hl.1 [0, 1, 2, 3, 4, 5, 6, 7] (by decide) rfl rfl rfl 0 0 rfl rfl rfl rfl rfl (Nat.le_of_ble_eq_true rfl) dX0_hasTwice_4 ⟨Nat.le_of_ble_eq_true rfl, Nat.le_of_ble_eq_true rfl⟩ (fun H locs hP hD hS => ?_)
  refine lv_istore (lv' := [(4, .int (f_X0_lengthAt ln p1)), (3, .int 0), (0, .ref (ad 0)), (1, .int p1), (2, .ref (ad 1))]) hx hb dX0_hasTwice_7 hl (by decide) rfl (fun ls hl => ?_)
  refine lv_iconst (v := 0) hx hb dX0_hasTwice_9 (by decide) ?_
  refine lv_istore (lv' := [(5, .int 0), (4, .int (f_X0_lengthAt ln p1)), (3, .int 0), (0, .ref (ad 0)), (1, .int p1), (2, .ref (ad 1))]) hx hb dX0_hasTwice_10 hl (by decide) rfl (fun ls hl => ?_)
  have l12 : ∀ (nn : Nat) (v3_12 : Int32) (v5_12 : Int32), f_X0_hasTwice_L12 p1 (f_X0_lengthAt ln p1) fs st g nn v3_12 v5_12 = some r → ∀ (H : Heap) (locs : List Loc) (ls : Array Slot), va_P D vwCl (wB cI ad size rc g fs st ln su rr cr) H → va_D A (wB cI ad size rc g fs st ln su rr cr) → va_S A s.heap H locs → lv_has ls 7 [(0, .ref (ad 0)), (1, .int p1), (2, .ref (ad 1)), (3, .int v3_12), (4, .int (f_X0_lengthAt ln p1)), (5, .int v5_12)] → W p l e rm_X0_hasTwice_g s m args below meth c H locs 0 0 Q (F0 m 12 ls []) := by
    intro nn
    induction nn with
    | zero => intro _ _ hf; exact nomatch (show (none : Option _) = some r from hf)
    | succ n12 ih12 =>
      intro v3_12 v5_12 hf H locs ls hP hD hS hl
      rw [f_X0_hasTwice_L12.eq_2] at hf
      refine lv_iload hx hb dX0_hasTwice_12 (lv_at hl 5 rfl) ?_
      refine lv_iload hx hb dX0_hasTwice_14 (lv_at hl 4 rfl) ?_
      refine lv_icmp_ge (tgt := 54) hx hb dX0_hasTwice_16 (by decide) (fun c_16 => ?_) (fun c_16 => ?_)
      · have hf := ite_t c_16 hf
        refine lv_iconst (v := 0) hx hb dX0_hasTwice_54 (by decide) ?_
        cases hf
        exact hR _ _ _ _ _ _ (by decide) rfl rfl hP hD hS dX0_hasTwice_55
      · have hf := ite_f c_16 hf
        refine lv_iconst (v := 1) hx hb dX0_hasTwice_19 (by decide) ?_
        refine lv_aload_n hx hb dX0_hasTwice_20 rfl (lv_at hl 2 rfl) ?_
        refine lv_aload_n hx hb dX0_hasTwice_21 rfl (lv_at hl 0 rfl) ?_
        refine lv_iload_n hx hb dX0_hasTwice_22 rfl (lv_at hl 1 rfl) ?_
        refine lv_iload hx hb dX0_hasTwice_23 (lv_at hl 5 rfl) ?_
        refine clV_i (As := [.int p1, .int v5_12]) (rest := [.ref (ad 1), .int 1]) (wB cI ad size rc g fs st ln su rr cr) ⟨hx, hb, hml, hown, hts⟩ (K_X0_cellAt l D cI cZ ad H.size size rc g fs st ln su rr cr p1 v5_12 _ rfl) (cwV 2 hts gX0_hasTwice_X0_cellAt rfl rfl rfl (by decide +kernel) ⟨Nat.le_of_ble_eq_true rfl, Nat.le_of_ble_eq_true rfl⟩) hK hP hD hS hA hl.1 [0, 1, 2, 3, 4, 5, 6, 7] (by decide) rfl rfl rfl 0 0 rfl rfl rfl rfl rfl (Nat.le_of_ble_eq_true rfl) dX0_hasTwice_25 ⟨Nat.le_of_ble_eq_true rfl, Nat.le_of_ble_eq_true rfl⟩ (fun H locs hP hD hS => ?_)
        refine clN_i (As := [.ref (ad 1), .int (f_X0_cellAt fs st p1 v5_12)]) (rest := [.int 1]) (wB cI ad size rc g fs st ln su rr cr) ⟨hx, hb, hml, hown, hts⟩ (K_X3_at l D cI cZ (ad 1) 16 (by decide) H.size g (f_X0_cellAt fs st p1 v5_12) _ rfl) ⟨va_cnB (host := RX3) 2 hts gX0_hasTwice_X3_at_n50 rfl rfl rfl (hK.2 (RX0, 50, yX3_at) (by decide)) (hts (.initialized RX3) (by decide +kernel)) (by decide +kernel) ⟨Nat.le_of_ble_eq_true rfl, Nat.le_of_ble_eq_true rfl⟩, hts (.static yX3_at) (by decide +kernel), trivial⟩ hK hP hD hS hA hl.1 [1] (by decide) rfl rfl rfl rfl rfl (Nat.le_of_ble_eq_true rfl) dX0_hasTwice_28 ⟨Nat.le_of_ble_eq_true rfl, Nat.le_of_ble_eq_true rfl⟩ (fun H locs hP hD hS => ?_)
        refine lv_ishl hx hb dX0_hasTwice_31 ?_
        refine lv_istore (lv' := [(6, .int (1 <<< ((f_X3_at 16 g (f_X0_cellAt fs st p1 v5_12)) &&& 31))), (0, .ref (ad 0)), (1, .int p1), (2, .ref (ad 1)), (3, .int v3_12), (4, .int (f_X0_lengthAt ln p1)), (5, .int v5_12)]) hx hb dX0_hasTwice_32 hl (by decide) rfl (fun ls hl => ?_)
        refine lv_iload_n hx hb dX0_hasTwice_34 rfl (lv_at hl 4 rfl) ?_
        refine lv_iload hx hb dX0_hasTwice_35 (lv_at hl 0 rfl) ?_
        refine lv_iand hx hb dX0_hasTwice_37 ?_
        refine lv_if_eq (tgt := 43) hx hb dX0_hasTwice_38 (by decide) (fun c_38 => ?_) (fun c_38 => ?_)
        · have hf := ite_t c_38 hf
          refine lv_iload_n hx hb dX0_hasTwice_43 rfl (lv_at hl 4 rfl) ?_
          refine lv_iload hx hb dX0_hasTwice_44 (lv_at hl 0 rfl) ?_
          refine lv_ior hx hb dX0_hasTwice_46 ?_
          refine lv_istore_n (lv' := [(3, .int (v3_12 ||| (1 <<< ((f_X3_at 16 g (f_X0_cellAt fs st p1 v5_12)) &&& 31)))), (6, .int (1 <<< ((f_X3_at 16 g (f_X0_cellAt fs st p1 v5_12)) &&& 31))), (0, .ref (ad 0)), (1, .int p1), (2, .ref (ad 1)), (4, .int (f_X0_lengthAt ln p1)), (5, .int v5_12)]) hx hb dX0_hasTwice_47 rfl hl (by decide) rfl (fun ls hl => ?_)
          refine lv_iinc (v := (v5_12 + 1)) (lv' := [(5, .int (v5_12 + 1)), (3, .int (v3_12 ||| (1 <<< ((f_X3_at 16 g (f_X0_cellAt fs st p1 v5_12)) &&& 31)))), (6, .int (1 <<< ((f_X3_at 16 g (f_X0_cellAt fs st p1 v5_12)) &&& 31))), (0, .ref (ad 0)), (1, .int p1), (2, .ref (ad 1)), (4, .int (f_X0_lengthAt ln p1))]) hx hb dX0_hasTwice_48 hl (k := 6) rfl rfl (by decide) rfl (fun ls hl => ?_)
          refine lv_goto (tgt := 12) hx hb dX0_hasTwice_51 (by decide) ?_
          exact ih12 (v3_12 ||| (1 <<< ((f_X3_at 16 g (f_X0_cellAt fs st p1 v5_12)) &&& 31))) (v5_12 + 1) hf _ _ _ hP hD hS (lv_sub hl [3, 4, 5, 1, 6, 0] rfl)
        · have hf := ite_f c_38 hf
          refine lv_iconst (v := 1) hx hb dX0_hasTwice_41 (by decide) ?_
          cases hf
          exact hR _ _ _ _ _ _ (by decide) rfl rfl hP hD hS dX0_hasTwice_42
  exact l12 N 0 0 hf _ _ _ hP hD hS (lv_sub hl [3, 4, 5, 2, 1, 0] rfl)
def rm_X0_givesTwice : Room := { frames := 3, cells := 0, slots := 0, locals := 69 }
set_option maxRecDepth 100000 in
set_option maxHeartbeats 8000000 in
theorem K_X0_givesTwice (l : Launch) (D : va_G) (cI cZ : ClassId) (ad : Nat → Nat) (sz : Nat) (N : Nat) (size rc : Int32) (g fs st ln su rr cr : Nat → Int32) (r : (Int32)) (hf : f_X0_givesTwice N rc g fs st ln = some r) : Met l yX0_givesTwice wsX0_givesTwice rm_X0_givesTwice (PC D cI cZ sz [.ref (ad 0)] (wB cI ad size rc g fs st ln su rr cr)) (QI D cI cZ sz (wB cI ad size rc g fs st ln su rr cr) r (wB cI ad size rc g fs st ln su rr cr)) 0 0 (va_A (wB cI ad size rc g fs st ln su rr cr) sz) := by
  refine mk_z (cc := cX0_givesTwice) (maxL := 2) (lv0 := [(0, .ref (ad 0))]) (by decide) rfl (Nat.le_of_ble_eq_true rfl) rfl ?_
  intro p e s m args below meth c ls A Q H hx hb hml hown hts hK hP hD hA hS hl hR
  have hinX0 : ∀ w ∈ wsX00, w ∈ wsX0_givesTwice := by decide +kernel
  rw [f_X0_givesTwice] at hf
  refine lv_iconst (v := 0) hx hb dX0_givesTwice_0 (by decide) ?_
  refine lv_istore_n (lv' := [(1, .int 0), (0, .ref (ad 0))]) hx hb dX0_givesTwice_1 rfl hl (by decide) rfl (fun ls hl => ?_)
  have l2 : ∀ (nn : Nat) (v1_2 : Int32), f_X0_givesTwice_L2 N rc g fs st ln nn v1_2 = some r → ∀ (H : Heap) (locs : List Loc) (ls : Array Slot), va_P D vwCl (wB cI ad size rc g fs st ln su rr cr) H → va_D A (wB cI ad size rc g fs st ln su rr cr) → va_S A s.heap H locs → lv_has ls 2 [(0, .ref (ad 0)), (1, .int v1_2)] → W p l e rm_X0_givesTwice s m args below meth c H locs 0 0 Q (F0 m 2 ls []) := by
    intro nn
    induction nn with
    | zero => intro _ hf; exact nomatch (show (none : Option _) = some r from hf)
    | succ n2 ih2 =>
      intro v1_2 hf H locs ls hP hD hS hl
      rw [f_X0_givesTwice_L2.eq_2] at hf
      refine lv_iload_n hx hb dX0_givesTwice_2 rfl (lv_at hl 1 rfl) ?_
      refine lv_aload_n hx hb dX0_givesTwice_3 rfl (lv_at hl 0 rfl) ?_
      refine va_get (D := D) (ci := 0) (v := .int rc) (C := RX0) (T := TX0) (N := 9) hx hb hts hinX0 hown hK.1 hP 0 rfl rfl 1 (by decide) (hts (.fieldLink RX0 68 "Gridpuzzle$Board" "runCount" "I") (by decide +kernel)) (fun _ h9 => h9) rfl dX0_givesTwice_4 ?_
      refine lv_icmp_ge (tgt := 30) hx hb dX0_givesTwice_7 (by decide) (fun c_7 => ?_) (fun c_7 => ?_)
      · have hf := ite_t c_7 hf
        refine lv_iconst (v := 0) hx hb dX0_givesTwice_30 (by decide) ?_
        cases hf
        exact hR _ _ _ _ _ _ (by decide) rfl rfl hP hD hS dX0_givesTwice_31
      · have hf := ite_f c_7 hf
        refine lv_aload_n hx hb dX0_givesTwice_10 rfl (lv_at hl 0 rfl) ?_
        refine lv_iload_n hx hb dX0_givesTwice_11 rfl (lv_at hl 1 rfl) ?_
        refine lv_aload_n hx hb dX0_givesTwice_12 rfl (lv_at hl 0 rfl) ?_
        refine va_get (D := D) (ci := 0) (v := .ref (ad 1)) (C := RX0) (T := TX0) (N := 9) hx hb hts hinX0 hown hK.1 hP 0 rfl rfl 2 (by decide) (hts (.fieldLink RX0 9 "Gridpuzzle$Board" "givens" "[I") (by decide +kernel)) (fun _ h9 => h9) rfl dX0_givesTwice_13 ?_
        obtain ⟨x16, hy16, hf⟩ := Option.bind_eq_some_iff.mp hf
        refine clV_i (As := [.int v1_2, .ref (ad 1)]) (rest := []) (wB cI ad size rc g fs st ln su rr cr) ⟨hx, hb, hml, hown, hts⟩ (K_X0_hasTwice_g l D cI cZ ad H.size N size rc g fs st ln su rr cr v1_2 _ hy16) (cwV 2 hts gX0_givesTwice_X0_hasTwice rfl rfl rfl (by decide +kernel) ⟨Nat.le_of_ble_eq_true rfl, Nat.le_of_ble_eq_true rfl⟩) hK hP hD hS hA hl.1 [0, 1, 2, 3, 4, 5, 6, 7] (by decide) rfl rfl rfl 0 0 rfl rfl rfl rfl rfl (Nat.le_of_ble_eq_true rfl) dX0_givesTwice_16 ⟨Nat.le_of_ble_eq_true rfl, Nat.le_of_ble_eq_true rfl⟩ (fun H locs hP hD hS => ?_)
        refine lv_if_eq (tgt := 24) hx hb dX0_givesTwice_19 (by decide) (fun c_19 => ?_) (fun c_19 => ?_)
        · have hf := ite_t c_19 hf
          refine lv_iinc (v := (v1_2 + 1)) (lv' := [(1, .int (v1_2 + 1)), (0, .ref (ad 0))]) hx hb dX0_givesTwice_24 hl (k := 1) rfl rfl (by decide) rfl (fun ls hl => ?_)
          refine lv_goto (tgt := 2) hx hb dX0_givesTwice_27 (by decide) ?_
          exact ih2 (v1_2 + 1) hf _ _ _ hP hD hS (lv_sub hl [1, 0] rfl)
        · have hf := ite_f c_19 hf
          refine lv_iconst (v := 1) hx hb dX0_givesTwice_22 (by decide) ?_
          cases hf
          exact hR _ _ _ _ _ _ (by decide) rfl rfl hP hD hS dX0_givesTwice_23
  exact l2 N 0 hf _ _ _ hP hD hS (lv_sub hl [1, 0] rfl)
def rm_X0_totalOf_f : Room := { frames := 2, cells := 0, slots := 0, locals := 43 }
set_option maxRecDepth 100000 in
set_option maxHeartbeats 8000000 in
theorem K_X0_totalOf_f (l : Launch) (D : va_G) (cI cZ : ClassId) (ad : Nat → Nat) (xa : Nat) (sz : Nat) (N : Nat) (size rc : Int32) (g fs st ln su rr cr xf : Nat → Int32) (p1 : Int32) (r : (Int32)) (hf : f_X0_totalOf N fs st ln xf p1 = some r) : Met l yX0_totalOf wsX0_totalOf rm_X0_totalOf_f (PC D cI cZ sz [.ref (ad 0), .int p1, .ref xa] (wBX cI ad xa size rc g fs st ln su rr cr xf)) (QI D cI cZ sz (wBX cI ad xa size rc g fs st ln su rr cr xf) r (wBX cI ad xa size rc g fs st ln su rr cr xf)) 0 0 (va_A (wBX cI ad xa size rc g fs st ln su rr cr xf) sz) := by
  refine mk_i (cc := cX0_totalOf) (maxL := 6) (lv0 := [(0, .ref (ad 0)), (1, .int p1), (2, .ref xa)]) (by decide) rfl (Nat.le_of_ble_eq_true rfl) rfl ?_
  intro p e s m args below meth c ls A Q H hx hb hml hown hts hK hP hD hA hS hl hR
  rw [f_X0_totalOf] at hf
  refine lv_iconst (v := 0) hx hb dX0_totalOf_0 (by decide) ?_
  refine lv_istore_n (lv' := [(3, .int 0), (0, .ref (ad 0)), (1, .int p1), (2, .ref xa)]) hx hb dX0_totalOf_1 rfl hl (by decide) rfl (fun ls hl => ?_)
  refine lv_aload_n hx hb dX0_totalOf_2 rfl (lv_at hl 1 rfl) ?_
  refine lv_iload_n hx hb dX0_totalOf_3 rfl (lv_at hl 2 rfl) ?_
  refine clV_i (As := [.int p1]) (rest := []) (wBX cI ad xa size rc g fs st ln su rr cr xf) ⟨hx, hb, hml, hown, hts⟩ (K_X0_lengthAt l D cI cZ ad H.size size rc g fs st ln su rr cr p1 _ rfl) (cwV 1 hts gX0_totalOf_X0_lengthAt rfl rfl rfl (by decide +kernel) ⟨Nat.le_of_ble_eq_true rfl, Nat.le_of_ble_eq_true rfl⟩) hK hP hD hS hA hl.1 [0, 1, 2, 3, 4, 5, 6, 7] (by decide) rfl rfl rfl 0 0 rfl rfl rfl rfl rfl (Nat.le_of_ble_eq_true rfl) dX0_totalOf_4 ⟨Nat.le_of_ble_eq_true rfl, Nat.le_of_ble_eq_true rfl⟩ (fun H locs hP hD hS => ?_)
  refine lv_istore (lv' := [(4, .int (f_X0_lengthAt ln p1)), (3, .int 0), (0, .ref (ad 0)), (1, .int p1), (2, .ref xa)]) hx hb dX0_totalOf_7 hl (by decide) rfl (fun ls hl => ?_)
  refine lv_iconst (v := 0) hx hb dX0_totalOf_9 (by decide) ?_
  refine lv_istore (lv' := [(5, .int 0), (4, .int (f_X0_lengthAt ln p1)), (3, .int 0), (0, .ref (ad 0)), (1, .int p1), (2, .ref xa)]) hx hb dX0_totalOf_10 hl (by decide) rfl (fun ls hl => ?_)
  have l12 : ∀ (nn : Nat) (v3_12 : Int32) (v5_12 : Int32), f_X0_totalOf_L12 p1 (f_X0_lengthAt ln p1) fs st xf nn v3_12 v5_12 = some r → ∀ (H : Heap) (locs : List Loc) (ls : Array Slot), va_P D vwCl (wBX cI ad xa size rc g fs st ln su rr cr xf) H → va_D A (wBX cI ad xa size rc g fs st ln su rr cr xf) → va_S A s.heap H locs → lv_has ls 6 [(0, .ref (ad 0)), (1, .int p1), (2, .ref xa), (3, .int v3_12), (4, .int (f_X0_lengthAt ln p1)), (5, .int v5_12)] → W p l e rm_X0_totalOf_f s m args below meth c H locs 0 0 Q (F0 m 12 ls []) := by
    intro nn
    induction nn with
    | zero => intro _ _ hf; exact nomatch (show (none : Option _) = some r from hf)
    | succ n12 ih12 =>
      intro v3_12 v5_12 hf H locs ls hP hD hS hl
      rw [f_X0_totalOf_L12.eq_2] at hf
      refine lv_iload hx hb dX0_totalOf_12 (lv_at hl 5 rfl) ?_
      refine lv_iload hx hb dX0_totalOf_14 (lv_at hl 4 rfl) ?_
      refine lv_icmp_ge (tgt := 39) hx hb dX0_totalOf_16 (by decide) (fun c_16 => ?_) (fun c_16 => ?_)
      · have hf := ite_t c_16 hf
        refine lv_iload_n hx hb dX0_totalOf_39 rfl (lv_at hl 3 rfl) ?_
        cases hf
        exact hR _ _ _ _ _ _ rfl rfl hP hD hS dX0_totalOf_40
      · have hf := ite_f c_16 hf
        refine lv_iload_n hx hb dX0_totalOf_19 rfl (lv_at hl 3 rfl) ?_
        refine lv_aload_n hx hb dX0_totalOf_20 rfl (lv_at hl 2 rfl) ?_
        refine lv_aload_n hx hb dX0_totalOf_21 rfl (lv_at hl 0 rfl) ?_
        refine lv_iload_n hx hb dX0_totalOf_22 rfl (lv_at hl 1 rfl) ?_
        refine lv_iload hx hb dX0_totalOf_23 (lv_at hl 5 rfl) ?_
        refine clV_i (As := [.int p1, .int v5_12]) (rest := [.ref xa, .int v3_12]) (wBX cI ad xa size rc g fs st ln su rr cr xf) ⟨hx, hb, hml, hown, hts⟩ (K_X0_cellAt l D cI cZ ad H.size size rc g fs st ln su rr cr p1 v5_12 _ rfl) (cwV 2 hts gX0_totalOf_X0_cellAt rfl rfl rfl (by decide +kernel) ⟨Nat.le_of_ble_eq_true rfl, Nat.le_of_ble_eq_true rfl⟩) hK hP hD hS hA hl.1 [0, 1, 2, 3, 4, 5, 6, 7] (by decide) rfl rfl rfl 0 0 rfl rfl rfl rfl rfl (Nat.le_of_ble_eq_true rfl) dX0_totalOf_25 ⟨Nat.le_of_ble_eq_true rfl, Nat.le_of_ble_eq_true rfl⟩ (fun H locs hP hD hS => ?_)
        refine clN_i (As := [.ref xa, .int (f_X0_cellAt fs st p1 v5_12)]) (rest := [.int v3_12]) (wBX cI ad xa size rc g fs st ln su rr cr xf) ⟨hx, hb, hml, hown, hts⟩ (K_X3_at l D cI cZ xa 16 (by decide) H.size xf (f_X0_cellAt fs st p1 v5_12) _ rfl) ⟨va_cnB (host := RX3) 2 hts gX0_totalOf_X3_at_n50 rfl rfl rfl (hK.2 (RX0, 50, yX3_at) (by decide)) (hts (.initialized RX3) (by decide +kernel)) (by decide +kernel) ⟨Nat.le_of_ble_eq_true rfl, Nat.le_of_ble_eq_true rfl⟩, hts (.static yX3_at) (by decide +kernel), trivial⟩ hK hP hD hS hA hl.1 [8] (by decide) rfl rfl rfl rfl rfl (Nat.le_of_ble_eq_true rfl) dX0_totalOf_28 ⟨Nat.le_of_ble_eq_true rfl, Nat.le_of_ble_eq_true rfl⟩ (fun H locs hP hD hS => ?_)
        refine lv_iadd hx hb dX0_totalOf_31 ?_
        refine lv_istore_n (lv' := [(3, .int (v3_12 + (f_X3_at 16 xf (f_X0_cellAt fs st p1 v5_12)))), (0, .ref (ad 0)), (1, .int p1), (2, .ref xa), (4, .int (f_X0_lengthAt ln p1)), (5, .int v5_12)]) hx hb dX0_totalOf_32 rfl hl (by decide) rfl (fun ls hl => ?_)
        refine lv_iinc (v := (v5_12 + 1)) (lv' := [(5, .int (v5_12 + 1)), (3, .int (v3_12 + (f_X3_at 16 xf (f_X0_cellAt fs st p1 v5_12)))), (0, .ref (ad 0)), (1, .int p1), (2, .ref xa), (4, .int (f_X0_lengthAt ln p1))]) hx hb dX0_totalOf_33 hl (k := 5) rfl rfl (by decide) rfl (fun ls hl => ?_)
        refine lv_goto (tgt := 12) hx hb dX0_totalOf_36 (by decide) ?_
        exact ih12 (v3_12 + (f_X3_at 16 xf (f_X0_cellAt fs st p1 v5_12))) (v5_12 + 1) hf _ _ _ hP hD hS (lv_sub hl [2, 3, 4, 1, 5, 0] rfl)
  exact l12 N 0 0 hf _ _ _ hP hD hS (lv_sub hl [3, 4, 5, 2, 1, 0] rfl)
def rm_X0_totalOf_g : Room := { frames := 2, cells := 0, slots := 0, locals := 43 }
set_option maxRecDepth 100000 in
set_option maxHeartbeats 8000000 in
theorem K_X0_totalOf_g (l : Launch) (D : va_G) (cI cZ : ClassId) (ad : Nat → Nat) (sz : Nat) (N : Nat) (size rc : Int32) (g fs st ln su rr cr : Nat → Int32) (p1 : Int32) (r : (Int32)) (hf : f_X0_totalOf N fs st ln g p1 = some r) : Met l yX0_totalOf wsX0_totalOf rm_X0_totalOf_g (PC D cI cZ sz [.ref (ad 0), .int p1, .ref (ad 1)] (wB cI ad size rc g fs st ln su rr cr)) (QI D cI cZ sz (wB cI ad size rc g fs st ln su rr cr) r (wB cI ad size rc g fs st ln su rr cr)) 0 0 (va_A (wB cI ad size rc g fs st ln su rr cr) sz) := by
  refine mk_i (cc := cX0_totalOf) (maxL := 6) (lv0 := [(0, .ref (ad 0)), (1, .int p1), (2, .ref (ad 1))]) (by decide) rfl (Nat.le_of_ble_eq_true rfl) rfl ?_
  intro p e s m args below meth c ls A Q H hx hb hml hown hts hK hP hD hA hS hl hR
  rw [f_X0_totalOf] at hf
  refine lv_iconst (v := 0) hx hb dX0_totalOf_0 (by decide) ?_
  refine lv_istore_n (lv' := [(3, .int 0), (0, .ref (ad 0)), (1, .int p1), (2, .ref (ad 1))]) hx hb dX0_totalOf_1 rfl hl (by decide) rfl (fun ls hl => ?_)
  refine lv_aload_n hx hb dX0_totalOf_2 rfl (lv_at hl 1 rfl) ?_
  refine lv_iload_n hx hb dX0_totalOf_3 rfl (lv_at hl 2 rfl) ?_
  refine clV_i (As := [.int p1]) (rest := []) (wB cI ad size rc g fs st ln su rr cr) ⟨hx, hb, hml, hown, hts⟩ (K_X0_lengthAt l D cI cZ ad H.size size rc g fs st ln su rr cr p1 _ rfl) (cwV 1 hts gX0_totalOf_X0_lengthAt rfl rfl rfl (by decide +kernel) ⟨Nat.le_of_ble_eq_true rfl, Nat.le_of_ble_eq_true rfl⟩) hK hP hD hS hA hl.1 [0, 1, 2, 3, 4, 5, 6, 7] (by decide) rfl rfl rfl 0 0 rfl rfl rfl rfl rfl (Nat.le_of_ble_eq_true rfl) dX0_totalOf_4 ⟨Nat.le_of_ble_eq_true rfl, Nat.le_of_ble_eq_true rfl⟩ (fun H locs hP hD hS => ?_)
  refine lv_istore (lv' := [(4, .int (f_X0_lengthAt ln p1)), (3, .int 0), (0, .ref (ad 0)), (1, .int p1), (2, .ref (ad 1))]) hx hb dX0_totalOf_7 hl (by decide) rfl (fun ls hl => ?_)
  refine lv_iconst (v := 0) hx hb dX0_totalOf_9 (by decide) ?_
  refine lv_istore (lv' := [(5, .int 0), (4, .int (f_X0_lengthAt ln p1)), (3, .int 0), (0, .ref (ad 0)), (1, .int p1), (2, .ref (ad 1))]) hx hb dX0_totalOf_10 hl (by decide) rfl (fun ls hl => ?_)
  have l12 : ∀ (nn : Nat) (v3_12 : Int32) (v5_12 : Int32), f_X0_totalOf_L12 p1 (f_X0_lengthAt ln p1) fs st g nn v3_12 v5_12 = some r → ∀ (H : Heap) (locs : List Loc) (ls : Array Slot), va_P D vwCl (wB cI ad size rc g fs st ln su rr cr) H → va_D A (wB cI ad size rc g fs st ln su rr cr) → va_S A s.heap H locs → lv_has ls 6 [(0, .ref (ad 0)), (1, .int p1), (2, .ref (ad 1)), (3, .int v3_12), (4, .int (f_X0_lengthAt ln p1)), (5, .int v5_12)] → W p l e rm_X0_totalOf_g s m args below meth c H locs 0 0 Q (F0 m 12 ls []) := by
    intro nn
    induction nn with
    | zero => intro _ _ hf; exact nomatch (show (none : Option _) = some r from hf)
    | succ n12 ih12 =>
      intro v3_12 v5_12 hf H locs ls hP hD hS hl
      rw [f_X0_totalOf_L12.eq_2] at hf
      refine lv_iload hx hb dX0_totalOf_12 (lv_at hl 5 rfl) ?_
      refine lv_iload hx hb dX0_totalOf_14 (lv_at hl 4 rfl) ?_
      refine lv_icmp_ge (tgt := 39) hx hb dX0_totalOf_16 (by decide) (fun c_16 => ?_) (fun c_16 => ?_)
      · have hf := ite_t c_16 hf
        refine lv_iload_n hx hb dX0_totalOf_39 rfl (lv_at hl 3 rfl) ?_
        cases hf
        exact hR _ _ _ _ _ _ rfl rfl hP hD hS dX0_totalOf_40
      · have hf := ite_f c_16 hf
        refine lv_iload_n hx hb dX0_totalOf_19 rfl (lv_at hl 3 rfl) ?_
        refine lv_aload_n hx hb dX0_totalOf_20 rfl (lv_at hl 2 rfl) ?_
        refine lv_aload_n hx hb dX0_totalOf_21 rfl (lv_at hl 0 rfl) ?_
        refine lv_iload_n hx hb dX0_totalOf_22 rfl (lv_at hl 1 rfl) ?_
        refine lv_iload hx hb dX0_totalOf_23 (lv_at hl 5 rfl) ?_
        refine clV_i (As := [.int p1, .int v5_12]) (rest := [.ref (ad 1), .int v3_12]) (wB cI ad size rc g fs st ln su rr cr) ⟨hx, hb, hml, hown, hts⟩ (K_X0_cellAt l D cI cZ ad H.size size rc g fs st ln su rr cr p1 v5_12 _ rfl) (cwV 2 hts gX0_totalOf_X0_cellAt rfl rfl rfl (by decide +kernel) ⟨Nat.le_of_ble_eq_true rfl, Nat.le_of_ble_eq_true rfl⟩) hK hP hD hS hA hl.1 [0, 1, 2, 3, 4, 5, 6, 7] (by decide) rfl rfl rfl 0 0 rfl rfl rfl rfl rfl (Nat.le_of_ble_eq_true rfl) dX0_totalOf_25 ⟨Nat.le_of_ble_eq_true rfl, Nat.le_of_ble_eq_true rfl⟩ (fun H locs hP hD hS => ?_)
        refine clN_i (As := [.ref (ad 1), .int (f_X0_cellAt fs st p1 v5_12)]) (rest := [.int v3_12]) (wB cI ad size rc g fs st ln su rr cr) ⟨hx, hb, hml, hown, hts⟩ (K_X3_at l D cI cZ (ad 1) 16 (by decide) H.size g (f_X0_cellAt fs st p1 v5_12) _ rfl) ⟨va_cnB (host := RX3) 2 hts gX0_totalOf_X3_at_n50 rfl rfl rfl (hK.2 (RX0, 50, yX3_at) (by decide)) (hts (.initialized RX3) (by decide +kernel)) (by decide +kernel) ⟨Nat.le_of_ble_eq_true rfl, Nat.le_of_ble_eq_true rfl⟩, hts (.static yX3_at) (by decide +kernel), trivial⟩ hK hP hD hS hA hl.1 [1] (by decide) rfl rfl rfl rfl rfl (Nat.le_of_ble_eq_true rfl) dX0_totalOf_28 ⟨Nat.le_of_ble_eq_true rfl, Nat.le_of_ble_eq_true rfl⟩ (fun H locs hP hD hS => ?_)
        refine lv_iadd hx hb dX0_totalOf_31 ?_
        refine lv_istore_n (lv' := [(3, .int (v3_12 + (f_X3_at 16 g (f_X0_cellAt fs st p1 v5_12)))), (0, .ref (ad 0)), (1, .int p1), (2, .ref (ad 1)), (4, .int (f_X0_lengthAt ln p1)), (5, .int v5_12)]) hx hb dX0_totalOf_32 rfl hl (by decide) rfl (fun ls hl => ?_)
        refine lv_iinc (v := (v5_12 + 1)) (lv' := [(5, .int (v5_12 + 1)), (3, .int (v3_12 + (f_X3_at 16 g (f_X0_cellAt fs st p1 v5_12)))), (0, .ref (ad 0)), (1, .int p1), (2, .ref (ad 1)), (4, .int (f_X0_lengthAt ln p1))]) hx hb dX0_totalOf_33 hl (k := 5) rfl rfl (by decide) rfl (fun ls hl => ?_)
        refine lv_goto (tgt := 12) hx hb dX0_totalOf_36 (by decide) ?_
        exact ih12 (v3_12 + (f_X3_at 16 g (f_X0_cellAt fs st p1 v5_12))) (v5_12 + 1) hf _ _ _ hP hD hS (lv_sub hl [2, 3, 4, 1, 5, 0] rfl)
  exact l12 N 0 0 hf _ _ _ hP hD hS (lv_sub hl [3, 4, 5, 2, 1, 0] rfl)
def rm_X0_sumAndEmpty : Room := { frames := 3, cells := 0, slots := 0, locals := 68 }
set_option maxRecDepth 100000 in
set_option maxHeartbeats 8000000 in
theorem K_X0_sumAndEmpty (l : Launch) (D : va_G) (cI cZ : ClassId) (ad : Nat → Nat) (sz : Nat) (N : Nat) (size rc : Int32) (g fs st ln su rr cr : Nat → Int32) (r : ((Nat → Int32) × (Nat → Int32))) (hf : f_X0_sumAndEmpty N size rc g fs st ln su = some r) : Met l yX0_sumAndEmpty wsX0_sumAndEmpty rm_X0_sumAndEmpty (PC D cI cZ sz [.ref (ad 0)] (wB cI ad size rc g fs st ln su rr cr)) (QV D cI cZ sz (wB cI ad size rc g fs st ln su rr cr) (wB cI ad size rc r.1 fs st ln r.2 rr cr)) 0 0 (va_A (wB cI ad size rc g fs st ln su rr cr) sz) := by
  refine mk_v (cc := cX0_sumAndEmpty) (maxL := 2) (lv0 := [(0, .ref (ad 0))]) (by decide) rfl (Nat.le_of_ble_eq_true rfl) rfl ?_
  intro p e s m args below meth c ls A Q H hx hb hml hown hts hK hP hD hA hS hl hR
  have hinX0 : ∀ w ∈ wsX00, w ∈ wsX0_sumAndEmpty := by decide +kernel
  rw [f_X0_sumAndEmpty] at hf
  refine lv_iconst (v := 0) hx hb dX0_sumAndEmpty_0 (by decide) ?_
  refine lv_istore_n (lv' := [(1, .int 0), (0, .ref (ad 0))]) hx hb dX0_sumAndEmpty_1 rfl hl (by decide) rfl (fun ls hl => ?_)
  obtain ⟨k33, hk33, hf⟩ := jn_some hf
  have w33 : ∀ (su_33 : Nat → Int32), k33 su_33 = some r → ∀ (H : Heap) (locs : List Loc) (ls : Array Slot), va_P D vwCl (wB cI ad size rc g fs st ln su_33 rr cr) H → va_D A (wB cI ad size rc g fs st ln su_33 rr cr) → va_S A s.heap H locs → lv_has ls 2 [(0, .ref (ad 0))] → W p l e rm_X0_sumAndEmpty s m args below meth c H locs 0 0 Q (F0 m 33 ls []) := by
    intro su_33 hf H locs ls hP hD hS hl
    rw [hk33] at hf
    try dsimp only at hf
    refine lv_iconst (v := 0) hx hb dX0_sumAndEmpty_33 (by decide) ?_
    refine lv_istore_n (lv' := [(1, .int 0), (0, .ref (ad 0))]) hx hb dX0_sumAndEmpty_34 rfl hl (by decide) rfl (fun ls hl => ?_)
    have l35 : ∀ (nn : Nat) (v1_35 : Int32) (g_35 : Nat → Int32), f_X0_sumAndEmpty_L35 size su_33 nn v1_35 g_35 = some r → ∀ (H : Heap) (locs : List Loc) (ls : Array Slot), va_P D vwCl (wB cI ad size rc g_35 fs st ln su_33 rr cr) H → va_D A (wB cI ad size rc g_35 fs st ln su_33 rr cr) → va_S A s.heap H locs → lv_has ls 2 [(0, .ref (ad 0)), (1, .int v1_35)] → W p l e rm_X0_sumAndEmpty s m args below meth c H locs 0 0 Q (F0 m 35 ls []) := by
      intro nn
      induction nn with
      | zero => intro _ _ hf; exact nomatch (show (none : Option _) = some r from hf)
      | succ n35 ih35 =>
        intro v1_35 g_35 hf H locs ls hP hD hS hl
        rw [f_X0_sumAndEmpty_L35.eq_2] at hf
        refine lv_iload_n hx hb dX0_sumAndEmpty_35 rfl (lv_at hl 1 rfl) ?_
        refine lv_bipush (v := 16) hx hb dX0_sumAndEmpty_36 (by decide) ?_
        refine lv_icmp_ge (tgt := 64) hx hb dX0_sumAndEmpty_38 (by decide) (fun c_38 => ?_) (fun c_38 => ?_)
        · have hf := ite_t c_38 hf
          cases hf
          exact hR _ _ _ _ _ rfl hP hD hS dX0_sumAndEmpty_64
        · have hf := ite_f c_38 hf
          refine lv_aload_n hx hb dX0_sumAndEmpty_41 rfl (lv_at hl 0 rfl) ?_
          refine lv_iload_n hx hb dX0_sumAndEmpty_42 rfl (lv_at hl 1 rfl) ?_
          refine clV_i (As := [.int v1_35]) (rest := []) (wB cI ad size rc g_35 fs st ln su_33 rr cr) ⟨hx, hb, hml, hown, hts⟩ (K_X0_isOpen l D cI cZ ad H.size size rc g_35 fs st ln su_33 rr cr v1_35 _ rfl) (cwV 1 hts gX0_sumAndEmpty_X0_isOpen rfl rfl rfl (by decide +kernel) ⟨Nat.le_of_ble_eq_true rfl, Nat.le_of_ble_eq_true rfl⟩) hK hP hD hS hA hl.1 [0, 1, 2, 3, 4, 5, 6, 7] (by decide) rfl rfl rfl 0 0 rfl rfl rfl rfl rfl (Nat.le_of_ble_eq_true rfl) dX0_sumAndEmpty_43 ⟨Nat.le_of_ble_eq_true rfl, Nat.le_of_ble_eq_true rfl⟩ (fun H locs hP hD hS => ?_)
          obtain ⟨k58, hk58, hf⟩ := jn_some hf
          have w58 : ∀ (g_58 : Nat → Int32), k58 g_58 = some r → ∀ (H : Heap) (locs : List Loc) (ls : Array Slot), va_P D vwCl (wB cI ad size rc g_58 fs st ln su_33 rr cr) H → va_D A (wB cI ad size rc g_58 fs st ln su_33 rr cr) → va_S A s.heap H locs → lv_has ls 2 [(0, .ref (ad 0)), (1, .int v1_35)] → W p l e rm_X0_sumAndEmpty s m args below meth c H locs 0 0 Q (F0 m 58 ls []) := by
            intro g_58 hf H locs ls hP hD hS hl
            rw [hk58] at hf
            try dsimp only at hf
            refine lv_iinc (v := (v1_35 + 1)) (lv' := [(1, .int (v1_35 + 1)), (0, .ref (ad 0))]) hx hb dX0_sumAndEmpty_58 hl (k := 1) rfl rfl (by decide) rfl (fun ls hl => ?_)
            refine lv_goto (tgt := 35) hx hb dX0_sumAndEmpty_61 (by decide) ?_
            exact ih35 (v1_35 + 1) g_58 hf _ _ _ hP hD hS (lv_sub hl [1, 0] rfl)
          refine lv_if_eq (tgt := 58) hx hb dX0_sumAndEmpty_46 (by decide) (fun c_46 => ?_) (fun c_46 => ?_)
          · have hf := ite_t c_46 hf
            exact w58 g_35 hf _ _ _ hP hD hS (lv_sub hl [0, 1] rfl)
          · have hf := ite_f c_46 hf
            refine lv_aload_n hx hb dX0_sumAndEmpty_49 rfl (lv_at hl 0 rfl) ?_
            refine va_get (D := D) (ci := 0) (v := .ref (ad 1)) (C := RX0) (T := TX0) (N := 9) hx hb hts hinX0 hown hK.1 hP 0 rfl rfl 2 (by decide) (hts (.fieldLink RX0 9 "Gridpuzzle$Board" "givens" "[I") (by decide +kernel)) (fun _ h9 => h9) rfl dX0_sumAndEmpty_50 ?_
            refine lv_iload_n hx hb dX0_sumAndEmpty_53 rfl (lv_at hl 1 rfl) ?_
            refine lv_iconst (v := 0) hx hb dX0_sumAndEmpty_54 (by decide) ?_
            refine clN_v (As := [.ref (ad 1), .int v1_35, .int 0]) (rest := []) (wB cI ad size rc (f_X3_put 16 g_35 v1_35 0) fs st ln su_33 rr cr) ⟨hx, hb, hml, hown, hts⟩ (K_X3_put l D cI cZ (ad 1) 16 (by decide) H.size g_35 v1_35 0 _ rfl) ⟨va_cnB (host := RX3) 3 hts gX0_sumAndEmpty_X3_put_n54 rfl rfl rfl (hK.2 (RX0, 54, yX3_put) (by decide)) (hts (.initialized RX3) (by decide +kernel)) (by decide +kernel) ⟨Nat.le_of_ble_eq_true rfl, Nat.le_of_ble_eq_true rfl⟩, hts (.static yX3_put) (by decide +kernel), trivial⟩ hK hP hD hS hA hl.1 [1] (by decide) rfl rfl rfl rfl rfl (Nat.le_of_ble_eq_true rfl) dX0_sumAndEmpty_55 ⟨Nat.le_of_ble_eq_true rfl, Nat.le_of_ble_eq_true rfl⟩ (fun H locs hP hD hS => ?_)
            exact w58 (f_X3_put 16 g_35 v1_35 0) hf _ _ _ hP hD hS (lv_sub hl [0, 1] rfl)
    exact l35 N 0 g hf _ _ _ hP hD hS (lv_sub hl [1, 0] rfl)
  have l2 : ∀ (nn : Nat) (v1_2 : Int32) (su_2 : Nat → Int32), f_X0_sumAndEmpty_L2 N rc g fs st ln k33 nn v1_2 su_2 = some r → ∀ (H : Heap) (locs : List Loc) (ls : Array Slot), va_P D vwCl (wB cI ad size rc g fs st ln su_2 rr cr) H → va_D A (wB cI ad size rc g fs st ln su_2 rr cr) → va_S A s.heap H locs → lv_has ls 2 [(0, .ref (ad 0)), (1, .int v1_2)] → W p l e rm_X0_sumAndEmpty s m args below meth c H locs 0 0 Q (F0 m 2 ls []) := by
    intro nn
    induction nn with
    | zero => intro _ _ hf; exact nomatch (show (none : Option _) = some r from hf)
    | succ n2 ih2 =>
      intro v1_2 su_2 hf H locs ls hP hD hS hl
      rw [f_X0_sumAndEmpty_L2.eq_2] at hf
      refine lv_iload_n hx hb dX0_sumAndEmpty_2 rfl (lv_at hl 1 rfl) ?_
      refine lv_aload_n hx hb dX0_sumAndEmpty_3 rfl (lv_at hl 0 rfl) ?_
      refine va_get (D := D) (ci := 0) (v := .int rc) (C := RX0) (T := TX0) (N := 9) hx hb hts hinX0 hown hK.1 hP 0 rfl rfl 1 (by decide) (hts (.fieldLink RX0 68 "Gridpuzzle$Board" "runCount" "I") (by decide +kernel)) (fun _ h9 => h9) rfl dX0_sumAndEmpty_4 ?_
      refine lv_icmp_ge (tgt := 33) hx hb dX0_sumAndEmpty_7 (by decide) (fun c_7 => ?_) (fun c_7 => ?_)
      · have hf := ite_t c_7 hf
        exact w33 su_2 hf _ _ _ hP hD hS (lv_sub hl [0] rfl)
      · have hf := ite_f c_7 hf
        refine lv_aload_n hx hb dX0_sumAndEmpty_10 rfl (lv_at hl 0 rfl) ?_
        refine va_get (D := D) (ci := 0) (v := .ref (ad 5)) (C := RX0) (T := TX0) (N := 9) hx hb hts hinX0 hown hK.1 hP 0 rfl rfl 6 (by decide) (hts (.fieldLink RX0 24 "Gridpuzzle$Board" "sums" "[I") (by decide +kernel)) (fun _ h9 => h9) rfl dX0_sumAndEmpty_11 ?_
        refine lv_iload_n hx hb dX0_sumAndEmpty_14 rfl (lv_at hl 1 rfl) ?_
        refine lv_aload_n hx hb dX0_sumAndEmpty_15 rfl (lv_at hl 0 rfl) ?_
        refine lv_iload_n hx hb dX0_sumAndEmpty_16 rfl (lv_at hl 1 rfl) ?_
        refine lv_aload_n hx hb dX0_sumAndEmpty_17 rfl (lv_at hl 0 rfl) ?_
        refine va_get (D := D) (ci := 0) (v := .ref (ad 1)) (C := RX0) (T := TX0) (N := 9) hx hb hts hinX0 hown hK.1 hP 0 rfl rfl 2 (by decide) (hts (.fieldLink RX0 9 "Gridpuzzle$Board" "givens" "[I") (by decide +kernel)) (fun _ h9 => h9) rfl dX0_sumAndEmpty_18 ?_
        obtain ⟨x21, hy21, hf⟩ := Option.bind_eq_some_iff.mp hf
        refine clV_i (As := [.int v1_2, .ref (ad 1)]) (rest := [.int v1_2, .ref (ad 5)]) (wB cI ad size rc g fs st ln su_2 rr cr) ⟨hx, hb, hml, hown, hts⟩ (K_X0_totalOf_g l D cI cZ ad H.size N size rc g fs st ln su_2 rr cr v1_2 _ hy21) (cwV 2 hts gX0_sumAndEmpty_X0_totalOf rfl rfl rfl (by decide +kernel) ⟨Nat.le_of_ble_eq_true rfl, Nat.le_of_ble_eq_true rfl⟩) hK hP hD hS hA hl.1 [0, 1, 2, 3, 4, 5, 6, 7] (by decide) rfl rfl rfl 0 0 rfl rfl rfl rfl rfl (Nat.le_of_ble_eq_true rfl) dX0_sumAndEmpty_21 ⟨Nat.le_of_ble_eq_true rfl, Nat.le_of_ble_eq_true rfl⟩ (fun H locs hP hD hS => ?_)
        refine clN_v (As := [.ref (ad 5), .int v1_2, .int x21]) (rest := []) (wB cI ad size rc g fs st ln (f_X3_put 8 su_2 v1_2 x21) rr cr) ⟨hx, hb, hml, hown, hts⟩ (K_X3_put l D cI cZ (ad 5) 8 (by decide) H.size su_2 v1_2 x21 _ rfl) ⟨va_cnB (host := RX3) 3 hts gX0_sumAndEmpty_X3_put_n54 rfl rfl rfl (hK.2 (RX0, 54, yX3_put) (by decide)) (hts (.initialized RX3) (by decide +kernel)) (by decide +kernel) ⟨Nat.le_of_ble_eq_true rfl, Nat.le_of_ble_eq_true rfl⟩, hts (.static yX3_put) (by decide +kernel), trivial⟩ hK hP hD hS hA hl.1 [5] (by decide) rfl rfl rfl rfl rfl (Nat.le_of_ble_eq_true rfl) dX0_sumAndEmpty_24 ⟨Nat.le_of_ble_eq_true rfl, Nat.le_of_ble_eq_true rfl⟩ (fun H locs hP hD hS => ?_)
        refine lv_iinc (v := (v1_2 + 1)) (lv' := [(1, .int (v1_2 + 1)), (0, .ref (ad 0))]) hx hb dX0_sumAndEmpty_27 hl (k := 1) rfl rfl (by decide) rfl (fun ls hl => ?_)
        refine lv_goto (tgt := 2) hx hb dX0_sumAndEmpty_30 (by decide) ?_
        exact ih2 (v1_2 + 1) (f_X3_put 8 su_2 v1_2 x21) hf _ _ _ hP hD hS (lv_sub hl [1, 0] rfl)
  exact l2 N 0 su hf _ _ _ hP hD hS (lv_sub hl [1, 0] rfl)
def rm_X0_countRuns : Room := { frames := 0, cells := 0, slots := 0, locals := 0 }
set_option maxRecDepth 100000 in
set_option maxHeartbeats 8000000 in
theorem K_X0_countRuns (l : Launch) (D : va_G) (cI cZ : ClassId) (ad : Nat → Nat) (sz : Nat) (size rc : Int32) (g fs st ln su rr cr : Nat → Int32) (r : (Int32)) (hf : f_X0_countRuns rc = r) : Met l yX0_countRuns wsX0_countRuns rm_X0_countRuns (PC D cI cZ sz [.ref (ad 0)] (wB cI ad size rc g fs st ln su rr cr)) (QI D cI cZ sz (wB cI ad size rc g fs st ln su rr cr) r (wB cI ad size rc g fs st ln su rr cr)) 0 0 (va_A (wB cI ad size rc g fs st ln su rr cr) sz) := by
  refine mk_i (cc := cX0_countRuns) (maxL := 1) (lv0 := [(0, .ref (ad 0))]) (by decide) rfl (Nat.le_of_ble_eq_true rfl) rfl ?_
  intro p e s m args below meth c ls A Q H hx hb hml hown hts hK hP hD hA hS hl hR
  have hinX0 : ∀ w ∈ wsX00, w ∈ wsX0_countRuns := by decide +kernel
  rw [f_X0_countRuns] at hf
  refine lv_aload_n hx hb dX0_countRuns_0 rfl (lv_at hl 0 rfl) ?_
  refine va_get (D := D) (ci := 0) (v := .int rc) (C := RX0) (T := TX0) (N := 9) hx hb hts hinX0 hown hK.1 hP 0 rfl rfl 1 (by decide) (hts (.fieldLink RX0 68 "Gridpuzzle$Board" "runCount" "I") (by decide +kernel)) (fun _ h9 => h9) rfl dX0_countRuns_1 ?_
  cases hf
  exact hR _ _ _ _ _ _ rfl rfl hP hD hS dX0_countRuns_4
def rm_X0_firstAt : Room := { frames := 1, cells := 0, slots := 0, locals := 21 }
set_option maxRecDepth 100000 in
set_option maxHeartbeats 8000000 in
theorem K_X0_firstAt (l : Launch) (D : va_G) (cI cZ : ClassId) (ad : Nat → Nat) (sz : Nat) (size rc : Int32) (g fs st ln su rr cr : Nat → Int32) (p1 : Int32) (r : (Int32)) (hf : f_X0_firstAt fs p1 = r) : Met l yX0_firstAt wsX0_firstAt rm_X0_firstAt (PC D cI cZ sz [.ref (ad 0), .int p1] (wB cI ad size rc g fs st ln su rr cr)) (QI D cI cZ sz (wB cI ad size rc g fs st ln su rr cr) r (wB cI ad size rc g fs st ln su rr cr)) 0 0 (va_A (wB cI ad size rc g fs st ln su rr cr) sz) := by
  refine mk_i (cc := cX0_firstAt) (maxL := 2) (lv0 := [(0, .ref (ad 0)), (1, .int p1)]) (by decide) rfl (Nat.le_of_ble_eq_true rfl) rfl ?_
  intro p e s m args below meth c ls A Q H hx hb hml hown hts hK hP hD hA hS hl hR
  have hinX0 : ∀ w ∈ wsX00, w ∈ wsX0_firstAt := by decide +kernel
  rw [f_X0_firstAt] at hf
  refine lv_aload_n hx hb dX0_firstAt_0 rfl (lv_at hl 0 rfl) ?_
  refine va_get (D := D) (ci := 0) (v := .ref (ad 2)) (C := RX0) (T := TX0) (N := 9) hx hb hts hinX0 hown hK.1 hP 0 rfl rfl 3 (by decide) (hts (.fieldLink RX0 15 "Gridpuzzle$Board" "firsts" "[I") (by decide +kernel)) (fun _ h9 => h9) rfl dX0_firstAt_1 ?_
  refine lv_iload_n hx hb dX0_firstAt_4 rfl (lv_at hl 1 rfl) ?_
  refine clN_i (As := [.ref (ad 2), .int p1]) (rest := []) (wB cI ad size rc g fs st ln su rr cr) ⟨hx, hb, hml, hown, hts⟩ (K_X3_at l D cI cZ (ad 2) 8 (by decide) H.size fs p1 _ rfl) ⟨va_cnB (host := RX3) 2 hts gX0_firstAt_X3_at_n50 rfl rfl rfl (hK.2 (RX0, 50, yX3_at) (by decide)) (hts (.initialized RX3) (by decide +kernel)) (by decide +kernel) ⟨Nat.le_of_ble_eq_true rfl, Nat.le_of_ble_eq_true rfl⟩, hts (.static yX3_at) (by decide +kernel), trivial⟩ hK hP hD hS hA hl.1 [2] (by decide) rfl rfl rfl rfl rfl (Nat.le_of_ble_eq_true rfl) dX0_firstAt_5 ⟨Nat.le_of_ble_eq_true rfl, Nat.le_of_ble_eq_true rfl⟩ (fun H locs hP hD hS => ?_)
  cases hf
  exact hR _ _ _ _ _ _ rfl rfl hP hD hS dX0_firstAt_8
def rm_X0_isAnswer : Room := { frames := 3, cells := 0, slots := 0, locals := 69 }
set_option maxRecDepth 100000 in
set_option maxHeartbeats 8000000 in
theorem K_X0_isAnswer (l : Launch) (D : va_G) (cI cZ : ClassId) (ad : Nat → Nat) (xa : Nat) (sz : Nat) (N : Nat) (size rc : Int32) (g fs st ln su rr cr xf : Nat → Int32) (r : (Int32)) (hf : f_X0_isAnswer N rc fs st ln su xf = some r) : Met l yX0_isAnswer wsX0_isAnswer rm_X0_isAnswer (PC D cI cZ sz [.ref (ad 0), .ref xa] (wBX cI ad xa size rc g fs st ln su rr cr xf)) (QI D cI cZ sz (wBX cI ad xa size rc g fs st ln su rr cr xf) r (wBX cI ad xa size rc g fs st ln su rr cr xf)) 0 0 (va_A (wBX cI ad xa size rc g fs st ln su rr cr xf) sz) := by
  refine mk_z (cc := cX0_isAnswer) (maxL := 4) (lv0 := [(0, .ref (ad 0)), (1, .ref xa)]) (by decide) rfl (Nat.le_of_ble_eq_true rfl) rfl ?_
  intro p e s m args below meth c ls A Q H hx hb hml hown hts hK hP hD hA hS hl hR
  have hinX0 : ∀ w ∈ wsX00, w ∈ wsX0_isAnswer := by decide +kernel
  rw [f_X0_isAnswer] at hf
  refine lv_iconst (v := 0) hx hb dX0_isAnswer_0 (by decide) ?_
  refine lv_istore_n (lv' := [(2, .int 0), (0, .ref (ad 0)), (1, .ref xa)]) hx hb dX0_isAnswer_1 rfl hl (by decide) rfl (fun ls hl => ?_)
  have l2 : ∀ (nn : Nat) (v2_2 : Int32), f_X0_isAnswer_L2 N rc fs st ln su xf nn v2_2 = some r → ∀ (H : Heap) (locs : List Loc) (ls : Array Slot), va_P D vwCl (wBX cI ad xa size rc g fs st ln su rr cr xf) H → va_D A (wBX cI ad xa size rc g fs st ln su rr cr xf) → va_S A s.heap H locs → lv_has ls 4 [(0, .ref (ad 0)), (1, .ref xa), (2, .int v2_2)] → W p l e rm_X0_isAnswer s m args below meth c H locs 0 0 Q (F0 m 2 ls []) := by
    intro nn
    induction nn with
    | zero => intro _ hf; exact nomatch (show (none : Option _) = some r from hf)
    | succ n2 ih2 =>
      intro v2_2 hf H locs ls hP hD hS hl
      rw [f_X0_isAnswer_L2.eq_2] at hf
      refine lv_iload_n hx hb dX0_isAnswer_2 rfl (lv_at hl 2 rfl) ?_
      refine lv_aload_n hx hb dX0_isAnswer_3 rfl (lv_at hl 0 rfl) ?_
      refine va_get (D := D) (ci := 0) (v := .int rc) (C := RX0) (T := TX0) (N := 9) hx hb hts hinX0 hown hK.1 hP 0 rfl rfl 1 (by decide) (hts (.fieldLink RX0 68 "Gridpuzzle$Board" "runCount" "I") (by decide +kernel)) (fun _ h9 => h9) rfl dX0_isAnswer_4 ?_
      refine lv_icmp_ge (tgt := 47) hx hb dX0_isAnswer_7 (by decide) (fun c_7 => ?_) (fun c_7 => ?_)
      · have hf := ite_t c_7 hf
        refine lv_iconst (v := 1) hx hb dX0_isAnswer_47 (by decide) ?_
        cases hf
        exact hR _ _ _ _ _ _ (by decide) rfl rfl hP hD hS dX0_isAnswer_48
      · have hf := ite_f c_7 hf
        refine lv_aload_n hx hb dX0_isAnswer_10 rfl (lv_at hl 0 rfl) ?_
        refine lv_iload_n hx hb dX0_isAnswer_11 rfl (lv_at hl 2 rfl) ?_
        refine clV_i (As := [.int v2_2]) (rest := []) (wBX cI ad xa size rc g fs st ln su rr cr xf) ⟨hx, hb, hml, hown, hts⟩ (K_X0_sumAt l D cI cZ ad H.size size rc g fs st ln su rr cr v2_2 _ rfl) (cwV 1 hts gX0_isAnswer_X0_sumAt rfl rfl rfl (by decide +kernel) ⟨Nat.le_of_ble_eq_true rfl, Nat.le_of_ble_eq_true rfl⟩) hK hP hD hS hA hl.1 [0, 1, 2, 3, 4, 5, 6, 7] (by decide) rfl rfl rfl 0 0 rfl rfl rfl rfl rfl (Nat.le_of_ble_eq_true rfl) dX0_isAnswer_12 ⟨Nat.le_of_ble_eq_true rfl, Nat.le_of_ble_eq_true rfl⟩ (fun H locs hP hD hS => ?_)
        refine lv_istore_n (lv' := [(3, .int (f_X0_sumAt su v2_2)), (0, .ref (ad 0)), (1, .ref xa), (2, .int v2_2)]) hx hb dX0_isAnswer_15 rfl hl (by decide) rfl (fun ls hl => ?_)
        refine lv_aload_n hx hb dX0_isAnswer_16 rfl (lv_at hl 1 rfl) ?_
        refine lv_iload_n hx hb dX0_isAnswer_17 rfl (lv_at hl 3 rfl) ?_
        refine lv_aload_n hx hb dX0_isAnswer_18 rfl (lv_at hl 2 rfl) ?_
        obtain ⟨x19, hy19, hf⟩ := Option.bind_eq_some_iff.mp hf
        refine clV_i (As := [.int v2_2, .ref xa]) (rest := []) (wBX cI ad xa size rc g fs st ln su rr cr xf) ⟨hx, hb, hml, hown, hts⟩ (K_X0_hasTwice_f l D cI cZ ad xa H.size N size rc g fs st ln su rr cr xf v2_2 _ hy19) (cwV 2 hts gX0_isAnswer_X0_hasTwice rfl rfl rfl (by decide +kernel) ⟨Nat.le_of_ble_eq_true rfl, Nat.le_of_ble_eq_true rfl⟩) hK hP hD hS hA hl.1 [0, 1, 2, 3, 4, 5, 6, 7, 8] (by decide) rfl rfl rfl 0 0 rfl rfl rfl rfl rfl (Nat.le_of_ble_eq_true rfl) dX0_isAnswer_19 ⟨Nat.le_of_ble_eq_true rfl, Nat.le_of_ble_eq_true rfl⟩ (fun H locs hP hD hS => ?_)
        refine lv_if_ne (tgt := 39) hx hb dX0_isAnswer_22 (by decide) (fun c_22 => ?_) (fun c_22 => ?_)
        · have hf := ite_f c_22 hf
          refine lv_iconst (v := 0) hx hb dX0_isAnswer_39 (by decide) ?_
          cases hf
          exact hR _ _ _ _ _ _ (by decide) rfl rfl hP hD hS dX0_isAnswer_40
        · have hf := ite_t c_22 hf
          refine lv_iload_n hx hb dX0_isAnswer_25 rfl (lv_at hl 0 rfl) ?_
          obtain ⟨k41, hk41, hf⟩ := jn_some hf
          have w41 : ∀ (_ : Unit), k41 () = some r → ∀ (H : Heap) (locs : List Loc) (ls : Array Slot), va_P D vwCl (wBX cI ad xa size rc g fs st ln su rr cr xf) H → va_D A (wBX cI ad xa size rc g fs st ln su rr cr xf) → va_S A s.heap H locs → lv_has ls 4 [(0, .ref (ad 0)), (1, .ref xa), (2, .int v2_2)] → W p l e rm_X0_isAnswer s m args below meth c H locs 0 0 Q (F0 m 41 ls []) := by
            intro _ hf H locs ls hP hD hS hl
            rw [hk41] at hf
            try dsimp only at hf
            refine lv_iinc (v := (v2_2 + 1)) (lv' := [(2, .int (v2_2 + 1)), (0, .ref (ad 0)), (1, .ref xa)]) hx hb dX0_isAnswer_41 hl (k := 2) rfl rfl (by decide) rfl (fun ls hl => ?_)
            refine lv_goto (tgt := 2) hx hb dX0_isAnswer_44 (by decide) ?_
            exact ih2 (v2_2 + 1) hf _ _ _ hP hD hS (lv_sub hl [1, 2, 0] rfl)
          refine lv_if_eq (tgt := 41) hx hb dX0_isAnswer_26 (by decide) (fun c_26 => ?_) (fun c_26 => ?_)
          · have hf := ite_t c_26 hf
            exact w41 () hf _ _ _ hP hD hS (lv_sub hl [1, 2, 3] rfl)
          · have hf := ite_f c_26 hf
            refine lv_aload_n hx hb dX0_isAnswer_29 rfl (lv_at hl 1 rfl) ?_
            refine lv_iload_n hx hb dX0_isAnswer_30 rfl (lv_at hl 3 rfl) ?_
            refine lv_aload_n hx hb dX0_isAnswer_31 rfl (lv_at hl 2 rfl) ?_
            obtain ⟨x32, hy32, hf⟩ := Option.bind_eq_some_iff.mp hf
            refine clV_i (As := [.int v2_2, .ref xa]) (rest := []) (wBX cI ad xa size rc g fs st ln su rr cr xf) ⟨hx, hb, hml, hown, hts⟩ (K_X0_totalOf_f l D cI cZ ad xa H.size N size rc g fs st ln su rr cr xf v2_2 _ hy32) (cwV 2 hts gX0_isAnswer_X0_totalOf rfl rfl rfl (by decide +kernel) ⟨Nat.le_of_ble_eq_true rfl, Nat.le_of_ble_eq_true rfl⟩) hK hP hD hS hA hl.1 [0, 1, 2, 3, 4, 5, 6, 7, 8] (by decide) rfl rfl rfl 0 0 rfl rfl rfl rfl rfl (Nat.le_of_ble_eq_true rfl) dX0_isAnswer_32 ⟨Nat.le_of_ble_eq_true rfl, Nat.le_of_ble_eq_true rfl⟩ (fun H locs hP hD hS => ?_)
            refine lv_iload_n hx hb dX0_isAnswer_35 rfl (lv_at hl 0 rfl) ?_
            refine lv_icmp_eq (tgt := 41) hx hb dX0_isAnswer_36 (by decide) (fun c_36 => ?_) (fun c_36 => ?_)
            · have hf := ite_t c_36 hf
              exact w41 () hf _ _ _ hP hD hS (lv_sub hl [1, 2, 3] rfl)
            · have hf := ite_f c_36 hf
              refine lv_iconst (v := 0) hx hb dX0_isAnswer_39 (by decide) ?_
              cases hf
              exact hR _ _ _ _ _ _ (by decide) rfl rfl hP hD hS dX0_isAnswer_40
  exact l2 N 0 hf _ _ _ hP hD hS (lv_sub hl [1, 2, 0] rfl)
def rm_X0_rowRunOf : Room := { frames := 1, cells := 0, slots := 0, locals := 21 }
set_option maxRecDepth 100000 in
set_option maxHeartbeats 8000000 in
theorem K_X0_rowRunOf (l : Launch) (D : va_G) (cI cZ : ClassId) (ad : Nat → Nat) (sz : Nat) (size rc : Int32) (g fs st ln su rr cr : Nat → Int32) (p1 : Int32) (r : (Int32)) (hf : f_X0_rowRunOf rr p1 = r) : Met l yX0_rowRunOf wsX0_rowRunOf rm_X0_rowRunOf (PC D cI cZ sz [.ref (ad 0), .int p1] (wB cI ad size rc g fs st ln su rr cr)) (QI D cI cZ sz (wB cI ad size rc g fs st ln su rr cr) r (wB cI ad size rc g fs st ln su rr cr)) 0 0 (va_A (wB cI ad size rc g fs st ln su rr cr) sz) := by
  refine mk_i (cc := cX0_rowRunOf) (maxL := 2) (lv0 := [(0, .ref (ad 0)), (1, .int p1)]) (by decide) rfl (Nat.le_of_ble_eq_true rfl) rfl ?_
  intro p e s m args below meth c ls A Q H hx hb hml hown hts hK hP hD hA hS hl hR
  have hinX0 : ∀ w ∈ wsX00, w ∈ wsX0_rowRunOf := by decide +kernel
  rw [f_X0_rowRunOf] at hf
  refine lv_aload_n hx hb dX0_rowRunOf_0 rfl (lv_at hl 0 rfl) ?_
  refine va_get (D := D) (ci := 0) (v := .ref (ad 6)) (C := RX0) (T := TX0) (N := 9) hx hb hts hinX0 hown hK.1 hP 0 rfl rfl 7 (by decide) (hts (.fieldLink RX0 27 "Gridpuzzle$Board" "rowRuns" "[I") (by decide +kernel)) (fun _ h9 => h9) rfl dX0_rowRunOf_1 ?_
  refine lv_iload_n hx hb dX0_rowRunOf_4 rfl (lv_at hl 1 rfl) ?_
  refine clN_i (As := [.ref (ad 6), .int p1]) (rest := []) (wB cI ad size rc g fs st ln su rr cr) ⟨hx, hb, hml, hown, hts⟩ (K_X3_at l D cI cZ (ad 6) 16 (by decide) H.size rr p1 _ rfl) ⟨va_cnB (host := RX3) 2 hts gX0_rowRunOf_X3_at_n50 rfl rfl rfl (hK.2 (RX0, 50, yX3_at) (by decide)) (hts (.initialized RX3) (by decide +kernel)) (by decide +kernel) ⟨Nat.le_of_ble_eq_true rfl, Nat.le_of_ble_eq_true rfl⟩, hts (.static yX3_at) (by decide +kernel), trivial⟩ hK hP hD hS hA hl.1 [6] (by decide) rfl rfl rfl rfl rfl (Nat.le_of_ble_eq_true rfl) dX0_rowRunOf_5 ⟨Nat.le_of_ble_eq_true rfl, Nat.le_of_ble_eq_true rfl⟩ (fun H locs hP hD hS => ?_)
  cases hf
  exact hR _ _ _ _ _ _ rfl rfl hP hD hS dX0_rowRunOf_8
def rm_X0_columnRunOf : Room := { frames := 1, cells := 0, slots := 0, locals := 21 }
set_option maxRecDepth 100000 in
set_option maxHeartbeats 8000000 in
theorem K_X0_columnRunOf (l : Launch) (D : va_G) (cI cZ : ClassId) (ad : Nat → Nat) (sz : Nat) (size rc : Int32) (g fs st ln su rr cr : Nat → Int32) (p1 : Int32) (r : (Int32)) (hf : f_X0_columnRunOf cr p1 = r) : Met l yX0_columnRunOf wsX0_columnRunOf rm_X0_columnRunOf (PC D cI cZ sz [.ref (ad 0), .int p1] (wB cI ad size rc g fs st ln su rr cr)) (QI D cI cZ sz (wB cI ad size rc g fs st ln su rr cr) r (wB cI ad size rc g fs st ln su rr cr)) 0 0 (va_A (wB cI ad size rc g fs st ln su rr cr) sz) := by
  refine mk_i (cc := cX0_columnRunOf) (maxL := 2) (lv0 := [(0, .ref (ad 0)), (1, .int p1)]) (by decide) rfl (Nat.le_of_ble_eq_true rfl) rfl ?_
  intro p e s m args below meth c ls A Q H hx hb hml hown hts hK hP hD hA hS hl hR
  have hinX0 : ∀ w ∈ wsX00, w ∈ wsX0_columnRunOf := by decide +kernel
  rw [f_X0_columnRunOf] at hf
  refine lv_aload_n hx hb dX0_columnRunOf_0 rfl (lv_at hl 0 rfl) ?_
  refine va_get (D := D) (ci := 0) (v := .ref (ad 7)) (C := RX0) (T := TX0) (N := 9) hx hb hts hinX0 hown hK.1 hP 0 rfl rfl 8 (by decide) (hts (.fieldLink RX0 30 "Gridpuzzle$Board" "columnRuns" "[I") (by decide +kernel)) (fun _ h9 => h9) rfl dX0_columnRunOf_1 ?_
  refine lv_iload_n hx hb dX0_columnRunOf_4 rfl (lv_at hl 1 rfl) ?_
  refine clN_i (As := [.ref (ad 7), .int p1]) (rest := []) (wB cI ad size rc g fs st ln su rr cr) ⟨hx, hb, hml, hown, hts⟩ (K_X3_at l D cI cZ (ad 7) 16 (by decide) H.size cr p1 _ rfl) ⟨va_cnB (host := RX3) 2 hts gX0_columnRunOf_X3_at_n50 rfl rfl rfl (hK.2 (RX0, 50, yX3_at) (by decide)) (hts (.initialized RX3) (by decide +kernel)) (by decide +kernel) ⟨Nat.le_of_ble_eq_true rfl, Nat.le_of_ble_eq_true rfl⟩, hts (.static yX3_at) (by decide +kernel), trivial⟩ hK hP hD hS hA hl.1 [7] (by decide) rfl rfl rfl rfl rfl (Nat.le_of_ble_eq_true rfl) dX0_columnRunOf_5 ⟨Nat.le_of_ble_eq_true rfl, Nat.le_of_ble_eq_true rfl⟩ (fun H locs hP hD hS => ?_)
  cases hf
  exact hR _ _ _ _ _ _ rfl rfl hP hD hS dX0_columnRunOf_8
