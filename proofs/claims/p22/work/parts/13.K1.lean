def rm_X1_firstSetOf : Room := { frames := 2, cells := 0, slots := 0, locals := 42 }
set_option maxRecDepth 100000 in
set_option maxHeartbeats 8000000 in
theorem K_X1_firstSetOf (l : Launch) (D : va_G) (cI cZ : ClassId) (ad : Nat → Nat) (sz : Nat) (size rc : Int32) (g fs st ln su rr cr : Nat → Int32) (tk gr : Int32) (se sr : Nat → Int32) (p1 : Int32) (r : (Int32)) (hf : f_X1_firstSetOf size g p1 = r) : Met l yX1_firstSetOf wsX1_firstSetOf rm_X1_firstSetOf (PC D cI cZ sz [.ref (ad 13), .int p1] (wS cI ad size rc g fs st ln su rr cr tk gr se sr)) (QI D cI cZ sz (wS cI ad size rc g fs st ln su rr cr tk gr se sr) r (wS cI ad size rc g fs st ln su rr cr tk gr se sr)) 0 0 (va_A (wS cI ad size rc g fs st ln su rr cr tk gr se sr) sz) := by
  refine mk_i (cc := cX1_firstSetOf) (maxL := 2) (lv0 := [(0, .ref (ad 13)), (1, .int p1)]) (by decide) rfl (Nat.le_of_ble_eq_true rfl) rfl ?_
  intro p e s m args below meth c ls A Q H hx hb hml hown hts hK hP hD hA hS hl hR
  have hinX1 : ∀ w ∈ wsX10, w ∈ wsX1_firstSetOf := by decide +kernel
  rw [f_X1_firstSetOf] at hf
  refine lv_aload_n hx hb dX1_firstSetOf_0 rfl (lv_at hl 0 rfl) ?_
  refine va_get (D := D) (ci := 1) (v := .ref (ad 0)) (C := RX1) (T := TX1) (N := 5) hx hb hts hinX1 hown hK.1 hP 8 rfl rfl 0 (by decide) (hts (.fieldLink RX1 18 "Gridpuzzle$Solving" "board" "LGridpuzzle$Board;") (by decide +kernel)) (fun _ h9 => h9) rfl dX1_firstSetOf_1 ?_
  refine lv_iload_n hx hb dX1_firstSetOf_4 rfl (lv_at hl 1 rfl) ?_
  refine clV_i (As := [.int p1]) (rest := []) (wS cI ad size rc g fs st ln su rr cr tk gr se sr) ⟨hx, hb, hml, hown, hts⟩ (K_X0_isOpen l D cI cZ ad H.size size rc g fs st ln su rr cr p1 _ rfl) (cwV 1 hts gX1_firstSetOf_X0_isOpen rfl rfl rfl (by decide +kernel) ⟨Nat.le_of_ble_eq_true rfl, Nat.le_of_ble_eq_true rfl⟩) hK hP hD hS hA hl.1 [0, 1, 2, 3, 4, 5, 6, 7] (by decide) rfl rfl rfl 0 0 rfl rfl rfl rfl rfl (Nat.le_of_ble_eq_true rfl) dX1_firstSetOf_5 ⟨Nat.le_of_ble_eq_true rfl, Nat.le_of_ble_eq_true rfl⟩ (fun H locs hP hD hS => ?_)
  refine lv_if_ne (tgt := 13) hx hb dX1_firstSetOf_8 (by decide) (fun c_8 => ?_) (fun c_8 => ?_)
  · have hf := ite_f c_8 hf
    refine lv_aload_n hx hb dX1_firstSetOf_13 rfl (lv_at hl 0 rfl) ?_
    refine va_get (D := D) (ci := 1) (v := .ref (ad 0)) (C := RX1) (T := TX1) (N := 5) hx hb hts hinX1 hown hK.1 hP 8 rfl rfl 0 (by decide) (hts (.fieldLink RX1 18 "Gridpuzzle$Solving" "board" "LGridpuzzle$Board;") (by decide +kernel)) (fun _ h9 => h9) rfl dX1_firstSetOf_14 ?_
    refine lv_iload_n hx hb dX1_firstSetOf_17 rfl (lv_at hl 1 rfl) ?_
    refine clV_i (As := [.int p1]) (rest := []) (wS cI ad size rc g fs st ln su rr cr tk gr se sr) ⟨hx, hb, hml, hown, hts⟩ (K_X0_isBlank l D cI cZ ad H.size size rc g fs st ln su rr cr p1 _ rfl) (cwV 1 hts gX1_firstSetOf_X0_isBlank rfl rfl rfl (by decide +kernel) ⟨Nat.le_of_ble_eq_true rfl, Nat.le_of_ble_eq_true rfl⟩) hK hP hD hS hA hl.1 [0, 1, 2, 3, 4, 5, 6, 7] (by decide) rfl rfl rfl 0 0 rfl rfl rfl rfl rfl (Nat.le_of_ble_eq_true rfl) dX1_firstSetOf_18 ⟨Nat.le_of_ble_eq_true rfl, Nat.le_of_ble_eq_true rfl⟩ (fun H locs hP hD hS => ?_)
    refine lv_if_eq (tgt := 30) hx hb dX1_firstSetOf_21 (by decide) (fun c_21 => ?_) (fun c_21 => ?_)
    · have hf := ite_t c_21 hf
      refine lv_iconst (v := 1) hx hb dX1_firstSetOf_30 (by decide) ?_
      refine lv_aload_n hx hb dX1_firstSetOf_31 rfl (lv_at hl 0 rfl) ?_
      refine va_get (D := D) (ci := 1) (v := .ref (ad 0)) (C := RX1) (T := TX1) (N := 5) hx hb hts hinX1 hown hK.1 hP 8 rfl rfl 0 (by decide) (hts (.fieldLink RX1 18 "Gridpuzzle$Solving" "board" "LGridpuzzle$Board;") (by decide +kernel)) (fun _ h9 => h9) rfl dX1_firstSetOf_32 ?_
      refine lv_iload_n hx hb dX1_firstSetOf_35 rfl (lv_at hl 1 rfl) ?_
      refine clV_i (As := [.int p1]) (rest := [.int 1]) (wS cI ad size rc g fs st ln su rr cr tk gr se sr) ⟨hx, hb, hml, hown, hts⟩ (K_X0_givenAt l D cI cZ ad H.size size rc g fs st ln su rr cr p1 _ rfl) (cwV 1 hts gX1_firstSetOf_X0_givenAt rfl rfl rfl (by decide +kernel) ⟨Nat.le_of_ble_eq_true rfl, Nat.le_of_ble_eq_true rfl⟩) hK hP hD hS hA hl.1 [0, 1, 2, 3, 4, 5, 6, 7] (by decide) rfl rfl rfl 0 0 rfl rfl rfl rfl rfl (Nat.le_of_ble_eq_true rfl) dX1_firstSetOf_36 ⟨Nat.le_of_ble_eq_true rfl, Nat.le_of_ble_eq_true rfl⟩ (fun H locs hP hD hS => ?_)
      refine lv_ishl hx hb dX1_firstSetOf_39 ?_
      cases hf
      exact hR _ _ _ _ _ _ rfl rfl hP hD hS dX1_firstSetOf_40
    · have hf := ite_f c_21 hf
      refine lv_sipush (v := 1022) hx hb dX1_firstSetOf_24 (by decide) ?_
      refine lv_goto (tgt := 40) hx hb dX1_firstSetOf_27 (by decide) ?_
      cases hf
      exact hR _ _ _ _ _ _ rfl rfl hP hD hS dX1_firstSetOf_40
  · have hf := ite_t c_8 hf
    refine lv_iconst (v := 0) hx hb dX1_firstSetOf_11 (by decide) ?_
    cases hf
    exact hR _ _ _ _ _ _ rfl rfl hP hD hS dX1_firstSetOf_12
def rm_X1_start : Room := { frames := 3, cells := 0, slots := 0, locals := 63 }
set_option maxRecDepth 100000 in
set_option maxHeartbeats 8000000 in
theorem K_X1_start (l : Launch) (D : va_G) (cI cZ : ClassId) (ad : Nat → Nat) (sz : Nat) (N : Nat) (size rc : Int32) (g fs st ln su rr cr : Nat → Int32) (tk gr : Int32) (se sr : Nat → Int32) (r : (Int32 × (Nat → Int32))) (hf : f_X1_start N size g gr se = some r) : Met l yX1_start wsX1_start rm_X1_start (PC D cI cZ sz [.ref (ad 13)] (wS cI ad size rc g fs st ln su rr cr tk gr se sr)) (QV D cI cZ sz (wS cI ad size rc g fs st ln su rr cr tk gr se sr) (wS cI ad size rc g fs st ln su rr cr tk r.1 r.2 sr)) 0 0 (va_A (wS cI ad size rc g fs st ln su rr cr tk gr se sr) sz) := by
  refine mk_v (cc := cX1_start) (maxL := 2) (lv0 := [(0, .ref (ad 13))]) (by decide) rfl (Nat.le_of_ble_eq_true rfl) rfl ?_
  intro p e s m args below meth c ls A Q H hx hb hml hown hts hK hP hD hA hS hl hR
  have hinX1 : ∀ w ∈ wsX10, w ∈ wsX1_start := by decide +kernel
  rw [f_X1_start] at hf
  refine lv_aload_n hx hb dX1_start_0 rfl (lv_at hl 0 rfl) ?_
  refine lv_iconst (v := 0) hx hb dX1_start_1 (by decide) ?_
  refine va_put (D := D) (ci := 1) (v := .int 0) (ty := .int) (C := RX1) (T := TX1) (N := 5) hx hb hts hinX1 tyX1 tyX1_ok nmX1 hown hK.1 hP hD hS 8 rfl rfl 4 (by decide) (hts (.fieldLink RX1 33 "Gridpuzzle$Solving" "greatest" "I") (by decide +kernel)) (fun _ h9 => h9) rfl (by decide +kernel) rfl rfl (Nat.le_of_ble_eq_true rfl) dX1_start_2 (fun H locs hP hD hS => ?_)
  have hP : va_P D vwCl (wS cI ad size rc g fs st ln su rr cr tk 0 se sr) H := hP
  have hD : va_D A (wS cI ad size rc g fs st ln su rr cr tk 0 se sr) := hD
  refine lv_iconst (v := 0) hx hb dX1_start_5 (by decide) ?_
  refine lv_istore_n (lv' := [(1, .int 0), (0, .ref (ad 13))]) hx hb dX1_start_6 rfl hl (by decide) rfl (fun ls hl => ?_)
  have l7 : ∀ (nn : Nat) (v1_7 : Int32) (se_7 : Nat → Int32), f_X1_start_L7 size g 0 nn v1_7 se_7 = some r → ∀ (H : Heap) (locs : List Loc) (ls : Array Slot), va_P D vwCl (wS cI ad size rc g fs st ln su rr cr tk 0 se_7 sr) H → va_D A (wS cI ad size rc g fs st ln su rr cr tk 0 se_7 sr) → va_S A s.heap H locs → lv_has ls 2 [(0, .ref (ad 13)), (1, .int v1_7)] → W p l e rm_X1_start s m args below meth c H locs 0 0 Q (F0 m 7 ls []) := by
    intro nn
    induction nn with
    | zero => intro _ _ hf; exact nomatch (show (none : Option _) = some r from hf)
    | succ n7 ih7 =>
      intro v1_7 se_7 hf H locs ls hP hD hS hl
      rw [f_X1_start_L7.eq_2] at hf
      refine lv_iload_n hx hb dX1_start_7 rfl (lv_at hl 1 rfl) ?_
      refine lv_bipush (v := 16) hx hb dX1_start_8 (by decide) ?_
      refine lv_icmp_ge (tgt := 32) hx hb dX1_start_10 (by decide) (fun c_10 => ?_) (fun c_10 => ?_)
      · have hf := ite_t c_10 hf
        cases hf
        exact hR _ _ _ _ _ rfl hP hD hS dX1_start_32
      · have hf := ite_f c_10 hf
        refine lv_aload_n hx hb dX1_start_13 rfl (lv_at hl 0 rfl) ?_
        refine va_get (D := D) (ci := 1) (v := .ref (ad 14)) (C := RX1) (T := TX1) (N := 5) hx hb hts hinX1 hown hK.1 hP 8 rfl rfl 1 (by decide) (hts (.fieldLink RX1 9 "Gridpuzzle$Solving" "sets" "[I") (by decide +kernel)) (fun _ h9 => h9) rfl dX1_start_14 ?_
        refine lv_iload_n hx hb dX1_start_17 rfl (lv_at hl 1 rfl) ?_
        refine lv_aload_n hx hb dX1_start_18 rfl (lv_at hl 0 rfl) ?_
        refine lv_iload_n hx hb dX1_start_19 rfl (lv_at hl 1 rfl) ?_
        refine clV_i (As := [.int v1_7]) (rest := [.int v1_7, .ref (ad 14)]) (wS cI ad size rc g fs st ln su rr cr tk 0 se_7 sr) ⟨hx, hb, hml, hown, hts⟩ (K_X1_firstSetOf l D cI cZ ad H.size size rc g fs st ln su rr cr tk 0 se_7 sr v1_7 _ rfl) (cwV 1 hts gX1_start_X1_firstSetOf rfl rfl rfl (by decide +kernel) ⟨Nat.le_of_ble_eq_true rfl, Nat.le_of_ble_eq_true rfl⟩) hK hP hD hS hA hl.1 [0, 1, 2, 3, 4, 5, 6, 7, 8, 9, 10] (by decide) rfl rfl rfl 1 8 rfl rfl rfl rfl rfl (Nat.le_of_ble_eq_true rfl) dX1_start_20 ⟨Nat.le_of_ble_eq_true rfl, Nat.le_of_ble_eq_true rfl⟩ (fun H locs hP hD hS => ?_)
        refine clN_v (As := [.ref (ad 14), .int v1_7, .int (f_X1_firstSetOf size g v1_7)]) (rest := []) (wS cI ad size rc g fs st ln su rr cr tk 0 (f_X3_put 16 se_7 v1_7 (f_X1_firstSetOf size g v1_7)) sr) ⟨hx, hb, hml, hown, hts⟩ (K_X3_put l D cI cZ (ad 14) 16 (by decide) H.size se_7 v1_7 (f_X1_firstSetOf size g v1_7) _ rfl) ⟨va_cnB (host := RX3) 3 hts gX1_start_X3_put_n74 rfl rfl rfl (hK.2 (RX1, 74, yX3_put) (by decide)) (hts (.initialized RX3) (by decide +kernel)) (by decide +kernel) ⟨Nat.le_of_ble_eq_true rfl, Nat.le_of_ble_eq_true rfl⟩, hts (.static yX3_put) (by decide +kernel), trivial⟩ hK hP hD hS hA hl.1 [9] (by decide) rfl rfl rfl rfl rfl (Nat.le_of_ble_eq_true rfl) dX1_start_23 ⟨Nat.le_of_ble_eq_true rfl, Nat.le_of_ble_eq_true rfl⟩ (fun H locs hP hD hS => ?_)
        refine lv_iinc (v := (v1_7 + 1)) (lv' := [(1, .int (v1_7 + 1)), (0, .ref (ad 13))]) hx hb dX1_start_26 hl (k := 1) rfl rfl (by decide) rfl (fun ls hl => ?_)
        refine lv_goto (tgt := 7) hx hb dX1_start_29 (by decide) ?_
        exact ih7 (v1_7 + 1) (f_X3_put 16 se_7 v1_7 (f_X1_firstSetOf size g v1_7)) hf _ _ _ hP hD hS (lv_sub hl [1, 0] rfl)
  exact l7 N 0 se hf _ _ _ hP hD hS (lv_sub hl [1, 0] rfl)
def rm_X1_isSingle : Room := { frames := 1, cells := 0, slots := 0, locals := 20 }
set_option maxRecDepth 100000 in
set_option maxHeartbeats 8000000 in
theorem K_X1_isSingle (l : Launch) (D : va_G) (cI cZ : ClassId)  (sz : Nat)  (p0 : Int32) (r : (Int32)) (hf : f_X1_isSingle p0 = r) : Met l yX1_isSingle wsX1_isSingle rm_X1_isSingle (PC D cI cZ sz [.int p0] (wE)) (QI D cI cZ sz (wE) r (wE)) 0 0 (va_A (wE) sz) := by
  refine mk_z (cc := cX1_isSingle) (maxL := 1) (lv0 := [(0, .int p0)]) (by decide) rfl (Nat.le_of_ble_eq_true rfl) rfl ?_
  intro p e s m args below meth c ls A Q H hx hb hml hown hts hK hP hD hA hS hl hR
  rw [f_X1_isSingle] at hf
  refine lv_iload_n hx hb dX1_isSingle_0 rfl (lv_at hl 0 rfl) ?_
  refine clS_i (As := [.int p0]) (rest := []) (wE) ⟨hx, hb, hml, hown, hts⟩ (K_J6_bitCount_0f7a4 l D cI cZ H.size  p0 _ rfl) (va_cwS 1 hts gX1_isSingle_J6_bitCount_0f7a4 rfl rfl rfl (by decide +kernel) ⟨Nat.le_of_ble_eq_true rfl, Nat.le_of_ble_eq_true rfl⟩) hK hP hD hS hA hl.1 [] (by decide) rfl rfl rfl rfl rfl (Nat.le_of_ble_eq_true rfl) dX1_isSingle_1 ⟨Nat.le_of_ble_eq_true rfl, Nat.le_of_ble_eq_true rfl⟩ (fun H locs hP hD hS => ?_)
  refine lv_iconst (v := 1) hx hb dX1_isSingle_4 (by decide) ?_
  refine lv_icmp_ne (tgt := 12) hx hb dX1_isSingle_5 (by decide) (fun c_5 => ?_) (fun c_5 => ?_)
  · have hf := ite_f c_5 hf
    refine lv_iconst (v := 0) hx hb dX1_isSingle_12 (by decide) ?_
    cases hf
    exact hR _ _ _ _ _ _ (by decide) rfl rfl hP hD hS dX1_isSingle_13
  · have hf := ite_t c_5 hf
    refine lv_iconst (v := 1) hx hb dX1_isSingle_8 (by decide) ?_
    refine lv_goto (tgt := 13) hx hb dX1_isSingle_9 (by decide) ?_
    cases hf
    exact hR _ _ _ _ _ _ (by decide) rfl rfl hP hD hS dX1_isSingle_13
def rm_X1_take : Room := { frames := 1, cells := 0, slots := 0, locals := 22 }
set_option maxRecDepth 100000 in
set_option maxHeartbeats 8000000 in
theorem K_X1_take (l : Launch) (D : va_G) (cI cZ : ClassId) (ad : Nat → Nat) (sz : Nat) (size rc : Int32) (g fs st ln su rr cr : Nat → Int32) (tk gr : Int32) (se sr : Nat → Int32) (p1 : Int32) (p2 : Int32) (r : (Int32 × (Nat → Int32))) (hf : f_X1_take tk se p1 p2 = r) : Met l yX1_take wsX1_take rm_X1_take (PC D cI cZ sz [.ref (ad 13), .int p1, .int p2] (wS cI ad size rc g fs st ln su rr cr tk gr se sr)) (QV D cI cZ sz (wS cI ad size rc g fs st ln su rr cr tk gr se sr) (wS cI ad size rc g fs st ln su rr cr r.1 gr r.2 sr)) 0 0 (va_A (wS cI ad size rc g fs st ln su rr cr tk gr se sr) sz) := by
  refine mk_v (cc := cX1_take) (maxL := 4) (lv0 := [(0, .ref (ad 13)), (1, .int p1), (2, .int p2)]) (by decide) rfl (Nat.le_of_ble_eq_true rfl) rfl ?_
  intro p e s m args below meth c ls A Q H hx hb hml hown hts hK hP hD hA hS hl hR
  have hinX1 : ∀ w ∈ wsX10, w ∈ wsX1_take := by decide +kernel
  rw [f_X1_take] at hf
  refine lv_aload_n hx hb dX1_take_0 rfl (lv_at hl 0 rfl) ?_
  refine va_get (D := D) (ci := 1) (v := .ref (ad 14)) (C := RX1) (T := TX1) (N := 5) hx hb hts hinX1 hown hK.1 hP 8 rfl rfl 1 (by decide) (hts (.fieldLink RX1 9 "Gridpuzzle$Solving" "sets" "[I") (by decide +kernel)) (fun _ h9 => h9) rfl dX1_take_1 ?_
  refine lv_iload_n hx hb dX1_take_4 rfl (lv_at hl 1 rfl) ?_
  refine clN_i (As := [.ref (ad 14), .int p1]) (rest := []) (wS cI ad size rc g fs st ln su rr cr tk gr se sr) ⟨hx, hb, hml, hown, hts⟩ (K_X3_at l D cI cZ (ad 14) 16 (by decide) H.size se p1 _ rfl) ⟨va_cnB (host := RX3) 2 hts gX1_take_X3_at_n54 rfl rfl rfl (hK.2 (RX1, 54, yX3_at) (by decide)) (hts (.initialized RX3) (by decide +kernel)) (by decide +kernel) ⟨Nat.le_of_ble_eq_true rfl, Nat.le_of_ble_eq_true rfl⟩, hts (.static yX3_at) (by decide +kernel), trivial⟩ hK hP hD hS hA hl.1 [9] (by decide) rfl rfl rfl rfl rfl (Nat.le_of_ble_eq_true rfl) dX1_take_5 ⟨Nat.le_of_ble_eq_true rfl, Nat.le_of_ble_eq_true rfl⟩ (fun H locs hP hD hS => ?_)
  refine lv_istore_n (lv' := [(3, .int (f_X3_at 16 se p1)), (0, .ref (ad 13)), (1, .int p1), (2, .int p2)]) hx hb dX1_take_8 rfl hl (by decide) rfl (fun ls hl => ?_)
  refine lv_iload_n hx hb dX1_take_9 rfl (lv_at hl 0 rfl) ?_
  refine lv_iload_n hx hb dX1_take_10 rfl (lv_at hl 3 rfl) ?_
  refine lv_iand hx hb dX1_take_11 ?_
  refine lv_if_eq (tgt := 33) hx hb dX1_take_12 (by decide) (fun c_12 => ?_) (fun c_12 => ?_)
  · have hf := ite_t c_12 hf
    cases hf
    exact hR _ _ _ _ _ rfl hP hD hS dX1_take_33
  · have hf := ite_f c_12 hf
    refine lv_aload_n hx hb dX1_take_15 rfl (lv_at hl 1 rfl) ?_
    refine va_get (D := D) (ci := 1) (v := .ref (ad 14)) (C := RX1) (T := TX1) (N := 5) hx hb hts hinX1 hown hK.1 hP 8 rfl rfl 1 (by decide) (hts (.fieldLink RX1 9 "Gridpuzzle$Solving" "sets" "[I") (by decide +kernel)) (fun _ h9 => h9) rfl dX1_take_16 ?_
    refine lv_iload_n hx hb dX1_take_19 rfl (lv_at hl 2 rfl) ?_
    refine lv_iload_n hx hb dX1_take_20 rfl (lv_at hl 0 rfl) ?_
    refine lv_iload_n hx hb dX1_take_21 rfl (lv_at hl 3 rfl) ?_
    refine lv_iconst (v := (-1)) hx hb dX1_take_22 (by decide) ?_
    refine lv_ixor hx hb dX1_take_23 ?_
    refine lv_iand hx hb dX1_take_24 ?_
    refine clN_v (As := [.ref (ad 14), .int p1, .int ((f_X3_at 16 se p1) &&& (p2 ^^^ (-1)))]) (rest := []) (wS cI ad size rc g fs st ln su rr cr tk gr (f_X3_put 16 se p1 ((f_X3_at 16 se p1) &&& (p2 ^^^ (-1)))) sr) ⟨hx, hb, hml, hown, hts⟩ (K_X3_put l D cI cZ (ad 14) 16 (by decide) H.size se p1 ((f_X3_at 16 se p1) &&& (p2 ^^^ (-1))) _ rfl) ⟨va_cnB (host := RX3) 3 hts gX1_take_X3_put_n74 rfl rfl rfl (hK.2 (RX1, 74, yX3_put) (by decide)) (hts (.initialized RX3) (by decide +kernel)) (by decide +kernel) ⟨Nat.le_of_ble_eq_true rfl, Nat.le_of_ble_eq_true rfl⟩, hts (.static yX3_put) (by decide +kernel), trivial⟩ hK hP hD hS hA hl.1 [9] (by decide) rfl rfl rfl rfl rfl (Nat.le_of_ble_eq_true rfl) dX1_take_25 ⟨Nat.le_of_ble_eq_true rfl, Nat.le_of_ble_eq_true rfl⟩ (fun H locs hP hD hS => ?_)
    refine lv_aload_n hx hb dX1_take_28 rfl (lv_at hl 1 rfl) ?_
    refine lv_iconst (v := 1) hx hb dX1_take_29 (by decide) ?_
    refine va_put (D := D) (ci := 1) (v := .int 1) (ty := .boolean) (C := RX1) (T := TX1) (N := 5) hx hb hts hinX1 tyX1 tyX1_ok nmX1 hown hK.1 hP hD hS 8 rfl rfl 3 (by decide) (hts (.fieldLink RX1 29 "Gridpuzzle$Solving" "tookAway" "Z") (by decide +kernel)) (fun _ h9 => h9) rfl (by decide +kernel) rfl rfl (Nat.le_of_ble_eq_true rfl) dX1_take_30 (fun H locs hP hD hS => ?_)
    have hP : va_P D vwCl (wS cI ad size rc g fs st ln su rr cr 1 gr (f_X3_put 16 se p1 ((f_X3_at 16 se p1) &&& (p2 ^^^ (-1)))) sr) H := hP
    have hD : va_D A (wS cI ad size rc g fs st ln su rr cr 1 gr (f_X3_put 16 se p1 ((f_X3_at 16 se p1) &&& (p2 ^^^ (-1)))) sr) := hD
    cases hf
    exact hR _ _ _ _ _ rfl hP hD hS dX1_take_33
def rm_X1_takeSingles : Room := { frames := 2, cells := 0, slots := 0, locals := 45 }
set_option maxRecDepth 100000 in
set_option maxHeartbeats 8000000 in
theorem K_X1_takeSingles (l : Launch) (D : va_G) (cI cZ : ClassId) (ad : Nat → Nat) (sz : Nat) (N : Nat) (size rc : Int32) (g fs st ln su rr cr : Nat → Int32) (tk gr : Int32) (se sr : Nat → Int32) (p1 : Int32) (r : (Int32 × (Nat → Int32))) (hf : f_X1_takeSingles N fs st ln tk se p1 = some r) : Met l yX1_takeSingles wsX1_takeSingles rm_X1_takeSingles (PC D cI cZ sz [.ref (ad 13), .int p1] (wS cI ad size rc g fs st ln su rr cr tk gr se sr)) (QV D cI cZ sz (wS cI ad size rc g fs st ln su rr cr tk gr se sr) (wS cI ad size rc g fs st ln su rr cr r.1 gr r.2 sr)) 0 0 (va_A (wS cI ad size rc g fs st ln su rr cr tk gr se sr) sz) := by
  refine mk_v (cc := cX1_takeSingles) (maxL := 6) (lv0 := [(0, .ref (ad 13)), (1, .int p1)]) (by decide) rfl (Nat.le_of_ble_eq_true rfl) rfl ?_
  intro p e s m args below meth c ls A Q H hx hb hml hown hts hK hP hD hA hS hl hR
  have hinX1 : ∀ w ∈ wsX10, w ∈ wsX1_takeSingles := by decide +kernel
  rw [f_X1_takeSingles] at hf
  refine lv_aload_n hx hb dX1_takeSingles_0 rfl (lv_at hl 0 rfl) ?_
  refine va_get (D := D) (ci := 1) (v := .ref (ad 0)) (C := RX1) (T := TX1) (N := 5) hx hb hts hinX1 hown hK.1 hP 8 rfl rfl 0 (by decide) (hts (.fieldLink RX1 18 "Gridpuzzle$Solving" "board" "LGridpuzzle$Board;") (by decide +kernel)) (fun _ h9 => h9) rfl dX1_takeSingles_1 ?_
  refine lv_iload_n hx hb dX1_takeSingles_4 rfl (lv_at hl 1 rfl) ?_
  refine clV_i (As := [.int p1]) (rest := []) (wS cI ad size rc g fs st ln su rr cr tk gr se sr) ⟨hx, hb, hml, hown, hts⟩ (K_X0_lengthAt l D cI cZ ad H.size size rc g fs st ln su rr cr p1 _ rfl) (cwV 1 hts gX1_takeSingles_X0_lengthAt rfl rfl rfl (by decide +kernel) ⟨Nat.le_of_ble_eq_true rfl, Nat.le_of_ble_eq_true rfl⟩) hK hP hD hS hA hl.1 [0, 1, 2, 3, 4, 5, 6, 7] (by decide) rfl rfl rfl 0 0 rfl rfl rfl rfl rfl (Nat.le_of_ble_eq_true rfl) dX1_takeSingles_5 ⟨Nat.le_of_ble_eq_true rfl, Nat.le_of_ble_eq_true rfl⟩ (fun H locs hP hD hS => ?_)
  refine lv_istore_n (lv' := [(2, .int (f_X0_lengthAt ln p1)), (0, .ref (ad 13)), (1, .int p1)]) hx hb dX1_takeSingles_8 rfl hl (by decide) rfl (fun ls hl => ?_)
  refine lv_iconst (v := 0) hx hb dX1_takeSingles_9 (by decide) ?_
  refine lv_istore_n (lv' := [(3, .int 0), (2, .int (f_X0_lengthAt ln p1)), (0, .ref (ad 13)), (1, .int p1)]) hx hb dX1_takeSingles_10 rfl hl (by decide) rfl (fun ls hl => ?_)
  have l11 : ∀ (nn : Nat) (v3_11 : Int32) (tk_11 : Int32) (se_11 : Nat → Int32), f_X1_takeSingles_L11 N p1 (f_X0_lengthAt ln p1) fs st nn v3_11 tk_11 se_11 = some r → ∀ (H : Heap) (locs : List Loc) (ls : Array Slot), va_P D vwCl (wS cI ad size rc g fs st ln su rr cr tk_11 gr se_11 sr) H → va_D A (wS cI ad size rc g fs st ln su rr cr tk_11 gr se_11 sr) → va_S A s.heap H locs → lv_has ls 6 [(0, .ref (ad 13)), (1, .int p1), (2, .int (f_X0_lengthAt ln p1)), (3, .int v3_11)] → W p l e rm_X1_takeSingles s m args below meth c H locs 0 0 Q (F0 m 11 ls []) := by
    intro nn
    induction nn with
    | zero => intro _ _ _ hf; exact nomatch (show (none : Option _) = some r from hf)
    | succ n11 ih11 =>
      intro v3_11 tk_11 se_11 hf H locs ls hP hD hS hl
      rw [f_X1_takeSingles_L11.eq_2] at hf
      refine lv_iload_n hx hb dX1_takeSingles_11 rfl (lv_at hl 3 rfl) ?_
      refine lv_iload_n hx hb dX1_takeSingles_12 rfl (lv_at hl 2 rfl) ?_
      refine lv_icmp_ge (tgt := 88) hx hb dX1_takeSingles_13 (by decide) (fun c_13 => ?_) (fun c_13 => ?_)
      · have hf := ite_t c_13 hf
        cases hf
        exact hR _ _ _ _ _ rfl hP hD hS dX1_takeSingles_88
      · have hf := ite_f c_13 hf
        refine lv_aload_n hx hb dX1_takeSingles_16 rfl (lv_at hl 0 rfl) ?_
        refine va_get (D := D) (ci := 1) (v := .ref (ad 14)) (C := RX1) (T := TX1) (N := 5) hx hb hts hinX1 hown hK.1 hP 8 rfl rfl 1 (by decide) (hts (.fieldLink RX1 9 "Gridpuzzle$Solving" "sets" "[I") (by decide +kernel)) (fun _ h9 => h9) rfl dX1_takeSingles_17 ?_
        refine lv_aload_n hx hb dX1_takeSingles_20 rfl (lv_at hl 0 rfl) ?_
        refine va_get (D := D) (ci := 1) (v := .ref (ad 0)) (C := RX1) (T := TX1) (N := 5) hx hb hts hinX1 hown hK.1 hP 8 rfl rfl 0 (by decide) (hts (.fieldLink RX1 18 "Gridpuzzle$Solving" "board" "LGridpuzzle$Board;") (by decide +kernel)) (fun _ h9 => h9) rfl dX1_takeSingles_21 ?_
        refine lv_iload_n hx hb dX1_takeSingles_24 rfl (lv_at hl 1 rfl) ?_
        refine lv_iload_n hx hb dX1_takeSingles_25 rfl (lv_at hl 3 rfl) ?_
        refine clV_i (As := [.int p1, .int v3_11]) (rest := [.ref (ad 14)]) (wS cI ad size rc g fs st ln su rr cr tk_11 gr se_11 sr) ⟨hx, hb, hml, hown, hts⟩ (K_X0_cellAt l D cI cZ ad H.size size rc g fs st ln su rr cr p1 v3_11 _ rfl) (cwV 2 hts gX1_takeSingles_X0_cellAt rfl rfl rfl (by decide +kernel) ⟨Nat.le_of_ble_eq_true rfl, Nat.le_of_ble_eq_true rfl⟩) hK hP hD hS hA hl.1 [0, 1, 2, 3, 4, 5, 6, 7] (by decide) rfl rfl rfl 0 0 rfl rfl rfl rfl rfl (Nat.le_of_ble_eq_true rfl) dX1_takeSingles_26 ⟨Nat.le_of_ble_eq_true rfl, Nat.le_of_ble_eq_true rfl⟩ (fun H locs hP hD hS => ?_)
        refine clN_i (As := [.ref (ad 14), .int (f_X0_cellAt fs st p1 v3_11)]) (rest := []) (wS cI ad size rc g fs st ln su rr cr tk_11 gr se_11 sr) ⟨hx, hb, hml, hown, hts⟩ (K_X3_at l D cI cZ (ad 14) 16 (by decide) H.size se_11 (f_X0_cellAt fs st p1 v3_11) _ rfl) ⟨va_cnB (host := RX3) 2 hts gX1_takeSingles_X3_at_n54 rfl rfl rfl (hK.2 (RX1, 54, yX3_at) (by decide)) (hts (.initialized RX3) (by decide +kernel)) (by decide +kernel) ⟨Nat.le_of_ble_eq_true rfl, Nat.le_of_ble_eq_true rfl⟩, hts (.static yX3_at) (by decide +kernel), trivial⟩ hK hP hD hS hA hl.1 [9] (by decide) rfl rfl rfl rfl rfl (Nat.le_of_ble_eq_true rfl) dX1_takeSingles_29 ⟨Nat.le_of_ble_eq_true rfl, Nat.le_of_ble_eq_true rfl⟩ (fun H locs hP hD hS => ?_)
        refine lv_istore (lv' := [(4, .int (f_X3_at 16 se_11 (f_X0_cellAt fs st p1 v3_11))), (0, .ref (ad 13)), (1, .int p1), (2, .int (f_X0_lengthAt ln p1)), (3, .int v3_11)]) hx hb dX1_takeSingles_32 hl (by decide) rfl (fun ls hl => ?_)
        refine lv_iload hx hb dX1_takeSingles_34 (lv_at hl 0 rfl) ?_
        refine clS_i (As := [.int (f_X3_at 16 se_11 (f_X0_cellAt fs st p1 v3_11))]) (rest := []) (wS cI ad size rc g fs st ln su rr cr tk_11 gr se_11 sr) ⟨hx, hb, hml, hown, hts⟩ (K_X1_isSingle l D cI cZ H.size  (f_X3_at 16 se_11 (f_X0_cellAt fs st p1 v3_11)) _ rfl) (va_cwS 1 hts gX1_takeSingles_X1_isSingle rfl rfl rfl (by decide +kernel) ⟨Nat.le_of_ble_eq_true rfl, Nat.le_of_ble_eq_true rfl⟩) hK hP hD hS hA hl.1 [] (by decide) rfl rfl rfl rfl rfl (Nat.le_of_ble_eq_true rfl) dX1_takeSingles_36 ⟨Nat.le_of_ble_eq_true rfl, Nat.le_of_ble_eq_true rfl⟩ (fun H locs hP hD hS => ?_)
        obtain ⟨k82, hk82, hf⟩ := jn_some hf
        have w82 : ∀ (tk_82 : Int32) (se_82 : Nat → Int32), k82 tk_82 se_82 = some r → ∀ (H : Heap) (locs : List Loc) (ls : Array Slot), va_P D vwCl (wS cI ad size rc g fs st ln su rr cr tk_82 gr se_82 sr) H → va_D A (wS cI ad size rc g fs st ln su rr cr tk_82 gr se_82 sr) → va_S A s.heap H locs → lv_has ls 6 [(0, .ref (ad 13)), (1, .int p1), (2, .int (f_X0_lengthAt ln p1)), (3, .int v3_11)] → W p l e rm_X1_takeSingles s m args below meth c H locs 0 0 Q (F0 m 82 ls []) := by
          intro tk_82 se_82 hf H locs ls hP hD hS hl
          rw [hk82] at hf
          try dsimp only at hf
          refine lv_iinc (v := (v3_11 + 1)) (lv' := [(3, .int (v3_11 + 1)), (0, .ref (ad 13)), (1, .int p1), (2, .int (f_X0_lengthAt ln p1))]) hx hb dX1_takeSingles_82 hl (k := 3) rfl rfl (by decide) rfl (fun ls hl => ?_)
          refine lv_goto (tgt := 11) hx hb dX1_takeSingles_85 (by decide) ?_
          exact ih11 (v3_11 + 1) tk_82 se_82 hf _ _ _ hP hD hS (lv_sub hl [1, 2, 3, 0] rfl)
        refine lv_if_ne (tgt := 45) hx hb dX1_takeSingles_39 (by decide) (fun c_39 => ?_) (fun c_39 => ?_)
        · have hf := ite_f c_39 hf
          refine lv_iconst (v := 0) hx hb dX1_takeSingles_45 (by decide) ?_
          refine lv_istore (lv' := [(5, .int 0), (4, .int (f_X3_at 16 se_11 (f_X0_cellAt fs st p1 v3_11))), (0, .ref (ad 13)), (1, .int p1), (2, .int (f_X0_lengthAt ln p1)), (3, .int v3_11)]) hx hb dX1_takeSingles_46 hl (by decide) rfl (fun ls hl => ?_)
          have l48 : ∀ (nn : Nat) (v5_48 : Int32) (tk_48 : Int32) (se_48 : Nat → Int32), f_X1_takeSingles_L48 p1 (f_X0_lengthAt ln p1) v3_11 (f_X3_at 16 se_11 (f_X0_cellAt fs st p1 v3_11)) fs st k82 nn v5_48 tk_48 se_48 = some r → ∀ (H : Heap) (locs : List Loc) (ls : Array Slot), va_P D vwCl (wS cI ad size rc g fs st ln su rr cr tk_48 gr se_48 sr) H → va_D A (wS cI ad size rc g fs st ln su rr cr tk_48 gr se_48 sr) → va_S A s.heap H locs → lv_has ls 6 [(0, .ref (ad 13)), (1, .int p1), (2, .int (f_X0_lengthAt ln p1)), (3, .int v3_11), (4, .int (f_X3_at 16 se_11 (f_X0_cellAt fs st p1 v3_11))), (5, .int v5_48)] → W p l e rm_X1_takeSingles s m args below meth c H locs 0 0 Q (F0 m 48 ls []) := by
            intro nn
            induction nn with
            | zero => intro _ _ _ hf; exact nomatch (show (none : Option _) = some r from hf)
            | succ n48 ih48 =>
              intro v5_48 tk_48 se_48 hf H locs ls hP hD hS hl
              rw [f_X1_takeSingles_L48.eq_2] at hf
              refine lv_iload hx hb dX1_takeSingles_48 (lv_at hl 5 rfl) ?_
              refine lv_iload_n hx hb dX1_takeSingles_50 rfl (lv_at hl 2 rfl) ?_
              refine lv_icmp_ge (tgt := 82) hx hb dX1_takeSingles_51 (by decide) (fun c_51 => ?_) (fun c_51 => ?_)
              · have hf := ite_t c_51 hf
                exact w82 tk_48 se_48 hf _ _ _ hP hD hS (lv_sub hl [0, 1, 2, 3] rfl)
              · have hf := ite_f c_51 hf
                refine lv_iload hx hb dX1_takeSingles_54 (lv_at hl 5 rfl) ?_
                refine lv_iload_n hx hb dX1_takeSingles_56 rfl (lv_at hl 3 rfl) ?_
                obtain ⟨k76, hk76, hf⟩ := jn_some hf
                have w76 : ∀ (tk_76 : Int32) (se_76 : Nat → Int32), k76 tk_76 se_76 = some r → ∀ (H : Heap) (locs : List Loc) (ls : Array Slot), va_P D vwCl (wS cI ad size rc g fs st ln su rr cr tk_76 gr se_76 sr) H → va_D A (wS cI ad size rc g fs st ln su rr cr tk_76 gr se_76 sr) → va_S A s.heap H locs → lv_has ls 6 [(0, .ref (ad 13)), (1, .int p1), (2, .int (f_X0_lengthAt ln p1)), (3, .int v3_11), (4, .int (f_X3_at 16 se_11 (f_X0_cellAt fs st p1 v3_11))), (5, .int v5_48)] → W p l e rm_X1_takeSingles s m args below meth c H locs 0 0 Q (F0 m 76 ls []) := by
                  intro tk_76 se_76 hf H locs ls hP hD hS hl
                  rw [hk76] at hf
                  try dsimp only at hf
                  refine lv_iinc (v := (v5_48 + 1)) (lv' := [(5, .int (v5_48 + 1)), (0, .ref (ad 13)), (1, .int p1), (2, .int (f_X0_lengthAt ln p1)), (3, .int v3_11), (4, .int (f_X3_at 16 se_11 (f_X0_cellAt fs st p1 v3_11)))]) hx hb dX1_takeSingles_76 hl (k := 5) rfl rfl (by decide) rfl (fun ls hl => ?_)
                  refine lv_goto (tgt := 48) hx hb dX1_takeSingles_79 (by decide) ?_
                  exact ih48 (v5_48 + 1) tk_76 se_76 hf _ _ _ hP hD hS (lv_sub hl [1, 2, 3, 4, 5, 0] rfl)
                refine lv_icmp_eq (tgt := 76) hx hb dX1_takeSingles_57 (by decide) (fun c_57 => ?_) (fun c_57 => ?_)
                · have hf := ite_t c_57 hf
                  exact w76 tk_48 se_48 hf _ _ _ hP hD hS (lv_sub hl [0, 1, 2, 3, 4, 5] rfl)
                · have hf := ite_f c_57 hf
                  refine lv_aload_n hx hb dX1_takeSingles_60 rfl (lv_at hl 0 rfl) ?_
                  refine lv_aload_n hx hb dX1_takeSingles_61 rfl (lv_at hl 0 rfl) ?_
                  refine va_get (D := D) (ci := 1) (v := .ref (ad 0)) (C := RX1) (T := TX1) (N := 5) hx hb hts hinX1 hown hK.1 hP 8 rfl rfl 0 (by decide) (hts (.fieldLink RX1 18 "Gridpuzzle$Solving" "board" "LGridpuzzle$Board;") (by decide +kernel)) (fun _ h9 => h9) rfl dX1_takeSingles_62 ?_
                  refine lv_iload_n hx hb dX1_takeSingles_65 rfl (lv_at hl 1 rfl) ?_
                  refine lv_iload hx hb dX1_takeSingles_66 (lv_at hl 5 rfl) ?_
                  refine clV_i (As := [.int p1, .int v5_48]) (rest := [.ref (ad 13)]) (wS cI ad size rc g fs st ln su rr cr tk_48 gr se_48 sr) ⟨hx, hb, hml, hown, hts⟩ (K_X0_cellAt l D cI cZ ad H.size size rc g fs st ln su rr cr p1 v5_48 _ rfl) (cwV 2 hts gX1_takeSingles_X0_cellAt rfl rfl rfl (by decide +kernel) ⟨Nat.le_of_ble_eq_true rfl, Nat.le_of_ble_eq_true rfl⟩) hK hP hD hS hA hl.1 [0, 1, 2, 3, 4, 5, 6, 7] (by decide) rfl rfl rfl 0 0 rfl rfl rfl rfl rfl (Nat.le_of_ble_eq_true rfl) dX1_takeSingles_68 ⟨Nat.le_of_ble_eq_true rfl, Nat.le_of_ble_eq_true rfl⟩ (fun H locs hP hD hS => ?_)
                  refine lv_iload hx hb dX1_takeSingles_71 (lv_at hl 4 rfl) ?_
                  obtain ⟨x73, hy73, hf⟩ := jn_some hf
                  refine clV_v (As := [.int (f_X0_cellAt fs st p1 v5_48), .int (f_X3_at 16 se_11 (f_X0_cellAt fs st p1 v3_11))]) (rest := []) (wS cI ad size rc g fs st ln su rr cr x73.1 gr x73.2 sr) ⟨hx, hb, hml, hown, hts⟩ (K_X1_take l D cI cZ ad H.size size rc g fs st ln su rr cr tk_48 gr se_48 sr (f_X0_cellAt fs st p1 v5_48) (f_X3_at 16 se_11 (f_X0_cellAt fs st p1 v3_11)) _ hy73.symm) (cwV 2 hts gX1_takeSingles_X1_take rfl rfl rfl (by decide +kernel) ⟨Nat.le_of_ble_eq_true rfl, Nat.le_of_ble_eq_true rfl⟩) hK hP hD hS hA hl.1 [0, 1, 2, 3, 4, 5, 6, 7, 8, 9, 10] (by decide) rfl rfl rfl 1 8 rfl rfl rfl rfl rfl (Nat.le_of_ble_eq_true rfl) dX1_takeSingles_73 ⟨Nat.le_of_ble_eq_true rfl, Nat.le_of_ble_eq_true rfl⟩ (fun H locs hP hD hS => ?_)
                  exact w76 x73.1 x73.2 hf _ _ _ hP hD hS (lv_sub hl [0, 1, 2, 3, 4, 5] rfl)
          exact l48 N 0 tk_11 se_11 hf _ _ _ hP hD hS (lv_sub hl [2, 3, 4, 5, 1, 0] rfl)
        · have hf := ite_t c_39 hf
          refine lv_goto (tgt := 82) hx hb dX1_takeSingles_42 (by decide) ?_
          exact w82 tk_11 se_11 hf _ _ _ hP hD hS (lv_sub hl [1, 2, 3, 4] rfl)
  exact l11 N 0 tk se hf _ _ _ hP hD hS (lv_sub hl [2, 3, 1, 0] rfl)
def rm_X1_sumOfSet : Room := { frames := 0, cells := 0, slots := 0, locals := 0 }
set_option maxRecDepth 100000 in
set_option maxHeartbeats 8000000 in
theorem K_X1_sumOfSet (l : Launch) (D : va_G) (cI cZ : ClassId)  (sz : Nat) (N : Nat)  (p0 : Int32) (r : (Int32)) (hf : f_X1_sumOfSet N p0 = some r) : Met l yX1_sumOfSet wsX1_sumOfSet rm_X1_sumOfSet (PC D cI cZ sz [.int p0] (wE)) (QI D cI cZ sz (wE) r (wE)) 0 0 (va_A (wE) sz) := by
  refine mk_i (cc := cX1_sumOfSet) (maxL := 3) (lv0 := [(0, .int p0)]) (by decide) rfl (Nat.le_of_ble_eq_true rfl) rfl ?_
  intro p e s m args below meth c ls A Q H hx hb hml hown hts hK hP hD hA hS hl hR
  rw [f_X1_sumOfSet] at hf
  refine lv_iconst (v := 0) hx hb dX1_sumOfSet_0 (by decide) ?_
  refine lv_istore_n (lv' := [(1, .int 0), (0, .int p0)]) hx hb dX1_sumOfSet_1 rfl hl (by decide) rfl (fun ls hl => ?_)
  refine lv_iconst (v := 1) hx hb dX1_sumOfSet_2 (by decide) ?_
  refine lv_istore_n (lv' := [(2, .int 1), (1, .int 0), (0, .int p0)]) hx hb dX1_sumOfSet_3 rfl hl (by decide) rfl (fun ls hl => ?_)
  have l4 : ∀ (nn : Nat) (v1_4 : Int32) (v2_4 : Int32), f_X1_sumOfSet_L4 p0 nn v1_4 v2_4 = some r → ∀ (H : Heap) (locs : List Loc) (ls : Array Slot), va_P D vwCl (wE) H → va_D A (wE) → va_S A s.heap H locs → lv_has ls 3 [(0, .int p0), (1, .int v1_4), (2, .int v2_4)] → W p l e rm_X1_sumOfSet s m args below meth c H locs 0 0 Q (F0 m 4 ls []) := by
    intro nn
    induction nn with
    | zero => intro _ _ hf; exact nomatch (show (none : Option _) = some r from hf)
    | succ n4 ih4 =>
      intro v1_4 v2_4 hf H locs ls hP hD hS hl
      rw [f_X1_sumOfSet_L4.eq_2] at hf
      refine lv_iload_n hx hb dX1_sumOfSet_4 rfl (lv_at hl 2 rfl) ?_
      refine lv_bipush (v := 9) hx hb dX1_sumOfSet_5 (by decide) ?_
      refine lv_icmp_gt (tgt := 28) hx hb dX1_sumOfSet_7 (by decide) (fun c_7 => ?_) (fun c_7 => ?_)
      · have hf := ite_t c_7 hf
        refine lv_iload_n hx hb dX1_sumOfSet_28 rfl (lv_at hl 1 rfl) ?_
        cases hf
        exact hR _ _ _ _ _ _ rfl rfl hP hD hS dX1_sumOfSet_29
      · have hf := ite_f c_7 hf
        refine lv_iload_n hx hb dX1_sumOfSet_10 rfl (lv_at hl 0 rfl) ?_
        refine lv_iconst (v := 1) hx hb dX1_sumOfSet_11 (by decide) ?_
        refine lv_iload_n hx hb dX1_sumOfSet_12 rfl (lv_at hl 2 rfl) ?_
        refine lv_ishl hx hb dX1_sumOfSet_13 ?_
        refine lv_iand hx hb dX1_sumOfSet_14 ?_
        obtain ⟨k22, hk22, hf⟩ := jn_some hf
        have w22 : ∀ (v1_22 : Int32), k22 v1_22 = some r → ∀ (H : Heap) (locs : List Loc) (ls : Array Slot), va_P D vwCl (wE) H → va_D A (wE) → va_S A s.heap H locs → lv_has ls 3 [(0, .int p0), (1, .int v1_22), (2, .int v2_4)] → W p l e rm_X1_sumOfSet s m args below meth c H locs 0 0 Q (F0 m 22 ls []) := by
          intro v1_22 hf H locs ls hP hD hS hl
          rw [hk22] at hf
          try dsimp only at hf
          refine lv_iinc (v := (v2_4 + 1)) (lv' := [(2, .int (v2_4 + 1)), (0, .int p0), (1, .int v1_22)]) hx hb dX1_sumOfSet_22 hl (k := 2) rfl rfl (by decide) rfl (fun ls hl => ?_)
          refine lv_goto (tgt := 4) hx hb dX1_sumOfSet_25 (by decide) ?_
          exact ih4 v1_22 (v2_4 + 1) hf _ _ _ hP hD hS (lv_sub hl [1, 2, 0] rfl)
        refine lv_if_eq (tgt := 22) hx hb dX1_sumOfSet_15 (by decide) (fun c_15 => ?_) (fun c_15 => ?_)
        · have hf := ite_t c_15 hf
          exact w22 v1_4 hf _ _ _ hP hD hS (lv_sub hl [0, 1, 2] rfl)
        · have hf := ite_f c_15 hf
          refine lv_iload_n hx hb dX1_sumOfSet_18 rfl (lv_at hl 1 rfl) ?_
          refine lv_iload_n hx hb dX1_sumOfSet_19 rfl (lv_at hl 2 rfl) ?_
          refine lv_iadd hx hb dX1_sumOfSet_20 ?_
          refine lv_istore_n (lv' := [(1, .int (v1_4 + v2_4)), (0, .int p0), (2, .int v2_4)]) hx hb dX1_sumOfSet_21 rfl hl (by decide) rfl (fun ls hl => ?_)
          exact w22 (v1_4 + v2_4) hf _ _ _ hP hD hS (lv_sub hl [1, 0, 2] rfl)
  exact l4 N 0 1 hf _ _ _ hP hD hS (lv_sub hl [2, 1, 0] rfl)
def rm_X1_digitsOfSets : Room := { frames := 1, cells := 0, slots := 0, locals := 22 }
set_option maxRecDepth 100000 in
set_option maxHeartbeats 8000000 in
theorem K_X1_digitsOfSets (l : Launch) (D : va_G) (cI cZ : ClassId)  (sz : Nat) (N : Nat)  (p0 : Int32) (p1 : Int32) (p2 : Int32) (r : (Int32)) (hf : f_X1_digitsOfSets N p0 p1 p2 = some r) : Met l yX1_digitsOfSets wsX1_digitsOfSets rm_X1_digitsOfSets (PC D cI cZ sz [.int p0, .int p1, .int p2] (wE)) (QI D cI cZ sz (wE) r (wE)) 0 0 (va_A (wE) sz) := by
  refine mk_i (cc := cX1_digitsOfSets) (maxL := 5) (lv0 := [(0, .int p0), (1, .int p1), (2, .int p2)]) (by decide) rfl (Nat.le_of_ble_eq_true rfl) rfl ?_
  intro p e s m args below meth c ls A Q H hx hb hml hown hts hK hP hD hA hS hl hR
  rw [f_X1_digitsOfSets] at hf
  refine lv_iconst (v := 0) hx hb dX1_digitsOfSets_0 (by decide) ?_
  refine lv_istore_n (lv' := [(3, .int 0), (0, .int p0), (1, .int p1), (2, .int p2)]) hx hb dX1_digitsOfSets_1 rfl hl (by decide) rfl (fun ls hl => ?_)
  refine lv_iconst (v := 0) hx hb dX1_digitsOfSets_2 (by decide) ?_
  refine lv_istore (lv' := [(4, .int 0), (3, .int 0), (0, .int p0), (1, .int p1), (2, .int p2)]) hx hb dX1_digitsOfSets_3 hl (by decide) rfl (fun ls hl => ?_)
  have l5 : ∀ (nn : Nat) (v3_5 : Int32) (v4_5 : Int32), f_X1_digitsOfSets_L5 N p0 p1 p2 nn v3_5 v4_5 = some r → ∀ (H : Heap) (locs : List Loc) (ls : Array Slot), va_P D vwCl (wE) H → va_D A (wE) → va_S A s.heap H locs → lv_has ls 5 [(0, .int p0), (1, .int p1), (2, .int p2), (3, .int v3_5), (4, .int v4_5)] → W p l e rm_X1_digitsOfSets s m args below meth c H locs 0 0 Q (F0 m 5 ls []) := by
    intro nn
    induction nn with
    | zero => intro _ _ hf; exact nomatch (show (none : Option _) = some r from hf)
    | succ n5 ih5 =>
      intro v3_5 v4_5 hf H locs ls hP hD hS hl
      rw [f_X1_digitsOfSets_L5.eq_2] at hf
      refine lv_iload hx hb dX1_digitsOfSets_5 (lv_at hl 4 rfl) ?_
      refine lv_sipush (v := 1022) hx hb dX1_digitsOfSets_7 (by decide) ?_
      refine lv_icmp_gt (tgt := 50) hx hb dX1_digitsOfSets_10 (by decide) (fun c_10 => ?_) (fun c_10 => ?_)
      · have hf := ite_t c_10 hf
        refine lv_iload_n hx hb dX1_digitsOfSets_50 rfl (lv_at hl 3 rfl) ?_
        cases hf
        exact hR _ _ _ _ _ _ rfl rfl hP hD hS dX1_digitsOfSets_51
      · have hf := ite_f c_10 hf
        refine lv_iload hx hb dX1_digitsOfSets_13 (lv_at hl 4 rfl) ?_
        refine clS_i (As := [.int v4_5]) (rest := []) (wE) ⟨hx, hb, hml, hown, hts⟩ (K_J6_bitCount_0f7a4 l D cI cZ H.size  v4_5 _ rfl) (va_cwS 1 hts gX1_digitsOfSets_J6_bitCount_0f7a4 rfl rfl rfl (by decide +kernel) ⟨Nat.le_of_ble_eq_true rfl, Nat.le_of_ble_eq_true rfl⟩) hK hP hD hS hA hl.1 [] (by decide) rfl rfl rfl rfl rfl (Nat.le_of_ble_eq_true rfl) dX1_digitsOfSets_15 ⟨Nat.le_of_ble_eq_true rfl, Nat.le_of_ble_eq_true rfl⟩ (fun H locs hP hD hS => ?_)
        refine lv_iload_n hx hb dX1_digitsOfSets_18 rfl (lv_at hl 0 rfl) ?_
        obtain ⟨k44, hk44, hf⟩ := jn_some hf
        have w44 : ∀ (v3_44 : Int32), k44 v3_44 = some r → ∀ (H : Heap) (locs : List Loc) (ls : Array Slot), va_P D vwCl (wE) H → va_D A (wE) → va_S A s.heap H locs → lv_has ls 5 [(0, .int p0), (1, .int p1), (2, .int p2), (3, .int v3_44), (4, .int v4_5)] → W p l e rm_X1_digitsOfSets s m args below meth c H locs 0 0 Q (F0 m 44 ls []) := by
          intro v3_44 hf H locs ls hP hD hS hl
          rw [hk44] at hf
          try dsimp only at hf
          refine lv_iinc (v := (v4_5 + 2)) (lv' := [(4, .int (v4_5 + 2)), (0, .int p0), (1, .int p1), (2, .int p2), (3, .int v3_44)]) hx hb dX1_digitsOfSets_44 hl (k := 4) rfl rfl (by decide) rfl (fun ls hl => ?_)
          refine lv_goto (tgt := 5) hx hb dX1_digitsOfSets_47 (by decide) ?_
          exact ih5 v3_44 (v4_5 + 2) hf _ _ _ hP hD hS (lv_sub hl [1, 2, 3, 4, 0] rfl)
        refine lv_icmp_ne (tgt := 44) hx hb dX1_digitsOfSets_19 (by decide) (fun c_19 => ?_) (fun c_19 => ?_)
        · have hf := ite_f c_19 hf
          exact w44 v3_5 hf _ _ _ hP hD hS (lv_sub hl [0, 1, 2, 3, 4] rfl)
        · have hf := ite_t c_19 hf
          refine lv_iload hx hb dX1_digitsOfSets_22 (lv_at hl 4 rfl) ?_
          refine lv_iload_n hx hb dX1_digitsOfSets_24 rfl (lv_at hl 2 rfl) ?_
          refine lv_iand hx hb dX1_digitsOfSets_25 ?_
          refine lv_iload_n hx hb dX1_digitsOfSets_26 rfl (lv_at hl 2 rfl) ?_
          refine lv_icmp_ne (tgt := 44) hx hb dX1_digitsOfSets_27 (by decide) (fun c_27 => ?_) (fun c_27 => ?_)
          · have hf := ite_f c_27 hf
            exact w44 v3_5 hf _ _ _ hP hD hS (lv_sub hl [0, 1, 2, 3, 4] rfl)
          · have hf := ite_t c_27 hf
            refine lv_iload hx hb dX1_digitsOfSets_30 (lv_at hl 4 rfl) ?_
            obtain ⟨x32, hy32, hf⟩ := Option.bind_eq_some_iff.mp hf
            refine clS_i (As := [.int v4_5]) (rest := []) (wE) ⟨hx, hb, hml, hown, hts⟩ (K_X1_sumOfSet l D cI cZ H.size N v4_5 _ hy32) (va_cwS 1 hts gX1_digitsOfSets_X1_sumOfSet rfl rfl rfl (by decide +kernel) ⟨Nat.le_of_ble_eq_true rfl, Nat.le_of_ble_eq_true rfl⟩) hK hP hD hS hA hl.1 [] (by decide) rfl rfl rfl rfl rfl (Nat.le_of_ble_eq_true rfl) dX1_digitsOfSets_32 ⟨Nat.le_of_ble_eq_true rfl, Nat.le_of_ble_eq_true rfl⟩ (fun H locs hP hD hS => ?_)
            refine lv_iload_n hx hb dX1_digitsOfSets_35 rfl (lv_at hl 1 rfl) ?_
            refine lv_icmp_ne (tgt := 44) hx hb dX1_digitsOfSets_36 (by decide) (fun c_36 => ?_) (fun c_36 => ?_)
            · have hf := ite_f c_36 hf
              exact w44 v3_5 hf _ _ _ hP hD hS (lv_sub hl [0, 1, 2, 3, 4] rfl)
            · have hf := ite_t c_36 hf
              refine lv_iload_n hx hb dX1_digitsOfSets_39 rfl (lv_at hl 3 rfl) ?_
              refine lv_iload hx hb dX1_digitsOfSets_40 (lv_at hl 4 rfl) ?_
              refine lv_ior hx hb dX1_digitsOfSets_42 ?_
              refine lv_istore_n (lv' := [(3, .int (v3_5 ||| v4_5)), (0, .int p0), (1, .int p1), (2, .int p2), (4, .int v4_5)]) hx hb dX1_digitsOfSets_43 rfl hl (by decide) rfl (fun ls hl => ?_)
              exact w44 (v3_5 ||| v4_5) hf _ _ _ hP hD hS (lv_sub hl [1, 2, 3, 0, 4] rfl)
  exact l5 N 0 0 hf _ _ _ hP hD hS (lv_sub hl [2, 3, 4, 1, 0] rfl)
def rm_X1_takeOutsideSets : Room := { frames := 2, cells := 0, slots := 0, locals := 46 }
set_option maxRecDepth 100000 in
set_option maxHeartbeats 8000000 in
theorem K_X1_takeOutsideSets (l : Launch) (D : va_G) (cI cZ : ClassId) (ad : Nat → Nat) (sz : Nat) (N : Nat) (size rc : Int32) (g fs st ln su rr cr : Nat → Int32) (tk gr : Int32) (se sr : Nat → Int32) (p1 : Int32) (r : (Int32 × (Nat → Int32))) (hf : f_X1_takeOutsideSets N fs st ln su tk se p1 = some r) : Met l yX1_takeOutsideSets wsX1_takeOutsideSets rm_X1_takeOutsideSets (PC D cI cZ sz [.ref (ad 13), .int p1] (wS cI ad size rc g fs st ln su rr cr tk gr se sr)) (QV D cI cZ sz (wS cI ad size rc g fs st ln su rr cr tk gr se sr) (wS cI ad size rc g fs st ln su rr cr r.1 gr r.2 sr)) 0 0 (va_A (wS cI ad size rc g fs st ln su rr cr tk gr se sr) sz) := by
  refine mk_v (cc := cX1_takeOutsideSets) (maxL := 6) (lv0 := [(0, .ref (ad 13)), (1, .int p1)]) (by decide) rfl (Nat.le_of_ble_eq_true rfl) rfl ?_
  intro p e s m args below meth c ls A Q H hx hb hml hown hts hK hP hD hA hS hl hR
  have hinX1 : ∀ w ∈ wsX10, w ∈ wsX1_takeOutsideSets := by decide +kernel
  rw [f_X1_takeOutsideSets] at hf
  refine lv_aload_n hx hb dX1_takeOutsideSets_0 rfl (lv_at hl 0 rfl) ?_
  refine va_get (D := D) (ci := 1) (v := .ref (ad 0)) (C := RX1) (T := TX1) (N := 5) hx hb hts hinX1 hown hK.1 hP 8 rfl rfl 0 (by decide) (hts (.fieldLink RX1 18 "Gridpuzzle$Solving" "board" "LGridpuzzle$Board;") (by decide +kernel)) (fun _ h9 => h9) rfl dX1_takeOutsideSets_1 ?_
  refine lv_iload_n hx hb dX1_takeOutsideSets_4 rfl (lv_at hl 1 rfl) ?_
  refine clV_i (As := [.int p1]) (rest := []) (wS cI ad size rc g fs st ln su rr cr tk gr se sr) ⟨hx, hb, hml, hown, hts⟩ (K_X0_lengthAt l D cI cZ ad H.size size rc g fs st ln su rr cr p1 _ rfl) (cwV 1 hts gX1_takeOutsideSets_X0_lengthAt rfl rfl rfl (by decide +kernel) ⟨Nat.le_of_ble_eq_true rfl, Nat.le_of_ble_eq_true rfl⟩) hK hP hD hS hA hl.1 [0, 1, 2, 3, 4, 5, 6, 7] (by decide) rfl rfl rfl 0 0 rfl rfl rfl rfl rfl (Nat.le_of_ble_eq_true rfl) dX1_takeOutsideSets_5 ⟨Nat.le_of_ble_eq_true rfl, Nat.le_of_ble_eq_true rfl⟩ (fun H locs hP hD hS => ?_)
  refine lv_istore_n (lv' := [(2, .int (f_X0_lengthAt ln p1)), (0, .ref (ad 13)), (1, .int p1)]) hx hb dX1_takeOutsideSets_8 rfl hl (by decide) rfl (fun ls hl => ?_)
  refine lv_iconst (v := 0) hx hb dX1_takeOutsideSets_9 (by decide) ?_
  refine lv_istore_n (lv' := [(3, .int 0), (2, .int (f_X0_lengthAt ln p1)), (0, .ref (ad 13)), (1, .int p1)]) hx hb dX1_takeOutsideSets_10 rfl hl (by decide) rfl (fun ls hl => ?_)
  refine lv_iconst (v := 0) hx hb dX1_takeOutsideSets_11 (by decide) ?_
  refine lv_istore (lv' := [(4, .int 0), (3, .int 0), (2, .int (f_X0_lengthAt ln p1)), (0, .ref (ad 13)), (1, .int p1)]) hx hb dX1_takeOutsideSets_12 hl (by decide) rfl (fun ls hl => ?_)
  obtain ⟨k58, hk58, hf⟩ := jn_some hf
  have w58 : ∀ (v3_58 : Int32), k58 v3_58 = some r → ∀ (H : Heap) (locs : List Loc) (ls : Array Slot), va_P D vwCl (wS cI ad size rc g fs st ln su rr cr tk gr se sr) H → va_D A (wS cI ad size rc g fs st ln su rr cr tk gr se sr) → va_S A s.heap H locs → lv_has ls 6 [(0, .ref (ad 13)), (1, .int p1), (2, .int (f_X0_lengthAt ln p1)), (3, .int v3_58)] → W p l e rm_X1_takeOutsideSets s m args below meth c H locs 0 0 Q (F0 m 58 ls []) := by
    intro v3_58 hf H locs ls hP hD hS hl
    rw [hk58] at hf
    try dsimp only at hf
    refine lv_iload_n hx hb dX1_takeOutsideSets_58 rfl (lv_at hl 2 rfl) ?_
    refine lv_aload_n hx hb dX1_takeOutsideSets_59 rfl (lv_at hl 0 rfl) ?_
    refine va_get (D := D) (ci := 1) (v := .ref (ad 0)) (C := RX1) (T := TX1) (N := 5) hx hb hts hinX1 hown hK.1 hP 8 rfl rfl 0 (by decide) (hts (.fieldLink RX1 18 "Gridpuzzle$Solving" "board" "LGridpuzzle$Board;") (by decide +kernel)) (fun _ h9 => h9) rfl dX1_takeOutsideSets_60 ?_
    refine lv_iload_n hx hb dX1_takeOutsideSets_63 rfl (lv_at hl 1 rfl) ?_
    refine clV_i (As := [.int p1]) (rest := [.int (f_X0_lengthAt ln p1)]) (wS cI ad size rc g fs st ln su rr cr tk gr se sr) ⟨hx, hb, hml, hown, hts⟩ (K_X0_sumAt l D cI cZ ad H.size size rc g fs st ln su rr cr p1 _ rfl) (cwV 1 hts gX1_takeOutsideSets_X0_sumAt rfl rfl rfl (by decide +kernel) ⟨Nat.le_of_ble_eq_true rfl, Nat.le_of_ble_eq_true rfl⟩) hK hP hD hS hA hl.1 [0, 1, 2, 3, 4, 5, 6, 7] (by decide) rfl rfl rfl 0 0 rfl rfl rfl rfl rfl (Nat.le_of_ble_eq_true rfl) dX1_takeOutsideSets_64 ⟨Nat.le_of_ble_eq_true rfl, Nat.le_of_ble_eq_true rfl⟩ (fun H locs hP hD hS => ?_)
    refine lv_iload_n hx hb dX1_takeOutsideSets_67 rfl (lv_at hl 3 rfl) ?_
    obtain ⟨x68, hy68, hf⟩ := Option.bind_eq_some_iff.mp hf
    refine clS_i (As := [.int (f_X0_lengthAt ln p1), .int (f_X0_sumAt su p1), .int v3_58]) (rest := []) (wS cI ad size rc g fs st ln su rr cr tk gr se sr) ⟨hx, hb, hml, hown, hts⟩ (K_X1_digitsOfSets l D cI cZ H.size N (f_X0_lengthAt ln p1) (f_X0_sumAt su p1) v3_58 _ hy68) (va_cwS 3 hts gX1_takeOutsideSets_X1_digitsOfSets rfl rfl rfl (by decide +kernel) ⟨Nat.le_of_ble_eq_true rfl, Nat.le_of_ble_eq_true rfl⟩) hK hP hD hS hA hl.1 [] (by decide) rfl rfl rfl rfl rfl (Nat.le_of_ble_eq_true rfl) dX1_takeOutsideSets_68 ⟨Nat.le_of_ble_eq_true rfl, Nat.le_of_ble_eq_true rfl⟩ (fun H locs hP hD hS => ?_)
    refine lv_istore (lv' := [(4, .int x68), (0, .ref (ad 13)), (1, .int p1), (2, .int (f_X0_lengthAt ln p1)), (3, .int v3_58)]) hx hb dX1_takeOutsideSets_71 hl (by decide) rfl (fun ls hl => ?_)
    refine lv_iconst (v := 0) hx hb dX1_takeOutsideSets_73 (by decide) ?_
    refine lv_istore (lv' := [(5, .int 0), (4, .int x68), (0, .ref (ad 13)), (1, .int p1), (2, .int (f_X0_lengthAt ln p1)), (3, .int v3_58)]) hx hb dX1_takeOutsideSets_74 hl (by decide) rfl (fun ls hl => ?_)
    have l76 : ∀ (nn : Nat) (v5_76 : Int32) (tk_76 : Int32) (se_76 : Nat → Int32), f_X1_takeOutsideSets_L76 p1 (f_X0_lengthAt ln p1) x68 fs st nn v5_76 tk_76 se_76 = some r → ∀ (H : Heap) (locs : List Loc) (ls : Array Slot), va_P D vwCl (wS cI ad size rc g fs st ln su rr cr tk_76 gr se_76 sr) H → va_D A (wS cI ad size rc g fs st ln su rr cr tk_76 gr se_76 sr) → va_S A s.heap H locs → lv_has ls 6 [(0, .ref (ad 13)), (1, .int p1), (2, .int (f_X0_lengthAt ln p1)), (4, .int x68), (5, .int v5_76)] → W p l e rm_X1_takeOutsideSets s m args below meth c H locs 0 0 Q (F0 m 76 ls []) := by
      intro nn
      induction nn with
      | zero => intro _ _ _ hf; exact nomatch (show (none : Option _) = some r from hf)
      | succ n76 ih76 =>
        intro v5_76 tk_76 se_76 hf H locs ls hP hD hS hl
        rw [f_X1_takeOutsideSets_L76.eq_2] at hf
        refine lv_iload hx hb dX1_takeOutsideSets_76 (lv_at hl 4 rfl) ?_
        refine lv_iload_n hx hb dX1_takeOutsideSets_78 rfl (lv_at hl 2 rfl) ?_
        refine lv_icmp_ge (tgt := 110) hx hb dX1_takeOutsideSets_79 (by decide) (fun c_79 => ?_) (fun c_79 => ?_)
        · have hf := ite_t c_79 hf
          cases hf
          exact hR _ _ _ _ _ rfl hP hD hS dX1_takeOutsideSets_110
        · have hf := ite_f c_79 hf
          refine lv_aload_n hx hb dX1_takeOutsideSets_82 rfl (lv_at hl 0 rfl) ?_
          refine lv_aload_n hx hb dX1_takeOutsideSets_83 rfl (lv_at hl 0 rfl) ?_
          refine va_get (D := D) (ci := 1) (v := .ref (ad 0)) (C := RX1) (T := TX1) (N := 5) hx hb hts hinX1 hown hK.1 hP 8 rfl rfl 0 (by decide) (hts (.fieldLink RX1 18 "Gridpuzzle$Solving" "board" "LGridpuzzle$Board;") (by decide +kernel)) (fun _ h9 => h9) rfl dX1_takeOutsideSets_84 ?_
          refine lv_iload_n hx hb dX1_takeOutsideSets_87 rfl (lv_at hl 1 rfl) ?_
          refine lv_iload hx hb dX1_takeOutsideSets_88 (lv_at hl 4 rfl) ?_
          refine clV_i (As := [.int p1, .int v5_76]) (rest := [.ref (ad 13)]) (wS cI ad size rc g fs st ln su rr cr tk_76 gr se_76 sr) ⟨hx, hb, hml, hown, hts⟩ (K_X0_cellAt l D cI cZ ad H.size size rc g fs st ln su rr cr p1 v5_76 _ rfl) (cwV 2 hts gX1_takeOutsideSets_X0_cellAt rfl rfl rfl (by decide +kernel) ⟨Nat.le_of_ble_eq_true rfl, Nat.le_of_ble_eq_true rfl⟩) hK hP hD hS hA hl.1 [0, 1, 2, 3, 4, 5, 6, 7] (by decide) rfl rfl rfl 0 0 rfl rfl rfl rfl rfl (Nat.le_of_ble_eq_true rfl) dX1_takeOutsideSets_90 ⟨Nat.le_of_ble_eq_true rfl, Nat.le_of_ble_eq_true rfl⟩ (fun H locs hP hD hS => ?_)
          refine lv_sipush (v := 1022) hx hb dX1_takeOutsideSets_93 (by decide) ?_
          refine lv_iload hx hb dX1_takeOutsideSets_96 (lv_at hl 3 rfl) ?_
          refine lv_iconst (v := (-1)) hx hb dX1_takeOutsideSets_98 (by decide) ?_
          refine lv_ixor hx hb dX1_takeOutsideSets_99 ?_
          refine lv_iand hx hb dX1_takeOutsideSets_100 ?_
          obtain ⟨x101, hy101, hf⟩ := jn_some hf
          refine clV_v (As := [.int (f_X0_cellAt fs st p1 v5_76), .int (1022 &&& (x68 ^^^ (-1)))]) (rest := []) (wS cI ad size rc g fs st ln su rr cr x101.1 gr x101.2 sr) ⟨hx, hb, hml, hown, hts⟩ (K_X1_take l D cI cZ ad H.size size rc g fs st ln su rr cr tk_76 gr se_76 sr (f_X0_cellAt fs st p1 v5_76) (1022 &&& (x68 ^^^ (-1))) _ hy101.symm) (cwV 2 hts gX1_takeOutsideSets_X1_take rfl rfl rfl (by decide +kernel) ⟨Nat.le_of_ble_eq_true rfl, Nat.le_of_ble_eq_true rfl⟩) hK hP hD hS hA hl.1 [0, 1, 2, 3, 4, 5, 6, 7, 8, 9, 10] (by decide) rfl rfl rfl 1 8 rfl rfl rfl rfl rfl (Nat.le_of_ble_eq_true rfl) dX1_takeOutsideSets_101 ⟨Nat.le_of_ble_eq_true rfl, Nat.le_of_ble_eq_true rfl⟩ (fun H locs hP hD hS => ?_)
          refine lv_iinc (v := (v5_76 + 1)) (lv' := [(5, .int (v5_76 + 1)), (0, .ref (ad 13)), (1, .int p1), (2, .int (f_X0_lengthAt ln p1)), (4, .int x68)]) hx hb dX1_takeOutsideSets_104 hl (k := 4) rfl rfl (by decide) rfl (fun ls hl => ?_)
          refine lv_goto (tgt := 76) hx hb dX1_takeOutsideSets_107 (by decide) ?_
          exact ih76 (v5_76 + 1) x101.1 x101.2 hf _ _ _ hP hD hS (lv_sub hl [1, 2, 3, 4, 0] rfl)
    exact l76 N 0 tk se hf _ _ _ hP hD hS (lv_sub hl [2, 3, 4, 1, 0] rfl)
  have l14 : ∀ (nn : Nat) (v3_14 : Int32) (v4_14 : Int32), f_X1_takeOutsideSets_L14 p1 (f_X0_lengthAt ln p1) fs st se k58 nn v3_14 v4_14 = some r → ∀ (H : Heap) (locs : List Loc) (ls : Array Slot), va_P D vwCl (wS cI ad size rc g fs st ln su rr cr tk gr se sr) H → va_D A (wS cI ad size rc g fs st ln su rr cr tk gr se sr) → va_S A s.heap H locs → lv_has ls 6 [(0, .ref (ad 13)), (1, .int p1), (2, .int (f_X0_lengthAt ln p1)), (3, .int v3_14), (4, .int v4_14)] → W p l e rm_X1_takeOutsideSets s m args below meth c H locs 0 0 Q (F0 m 14 ls []) := by
    intro nn
    induction nn with
    | zero => intro _ _ hf; exact nomatch (show (none : Option _) = some r from hf)
    | succ n14 ih14 =>
      intro v3_14 v4_14 hf H locs ls hP hD hS hl
      rw [f_X1_takeOutsideSets_L14.eq_2] at hf
      refine lv_iload hx hb dX1_takeOutsideSets_14 (lv_at hl 4 rfl) ?_
      refine lv_iload_n hx hb dX1_takeOutsideSets_16 rfl (lv_at hl 2 rfl) ?_
      refine lv_icmp_ge (tgt := 58) hx hb dX1_takeOutsideSets_17 (by decide) (fun c_17 => ?_) (fun c_17 => ?_)
      · have hf := ite_t c_17 hf
        exact w58 v3_14 hf _ _ _ hP hD hS (lv_sub hl [0, 1, 2, 3] rfl)
      · have hf := ite_f c_17 hf
        refine lv_aload_n hx hb dX1_takeOutsideSets_20 rfl (lv_at hl 0 rfl) ?_
        refine va_get (D := D) (ci := 1) (v := .ref (ad 14)) (C := RX1) (T := TX1) (N := 5) hx hb hts hinX1 hown hK.1 hP 8 rfl rfl 1 (by decide) (hts (.fieldLink RX1 9 "Gridpuzzle$Solving" "sets" "[I") (by decide +kernel)) (fun _ h9 => h9) rfl dX1_takeOutsideSets_21 ?_
        refine lv_aload_n hx hb dX1_takeOutsideSets_24 rfl (lv_at hl 0 rfl) ?_
        refine va_get (D := D) (ci := 1) (v := .ref (ad 0)) (C := RX1) (T := TX1) (N := 5) hx hb hts hinX1 hown hK.1 hP 8 rfl rfl 0 (by decide) (hts (.fieldLink RX1 18 "Gridpuzzle$Solving" "board" "LGridpuzzle$Board;") (by decide +kernel)) (fun _ h9 => h9) rfl dX1_takeOutsideSets_25 ?_
        refine lv_iload_n hx hb dX1_takeOutsideSets_28 rfl (lv_at hl 1 rfl) ?_
        refine lv_iload hx hb dX1_takeOutsideSets_29 (lv_at hl 4 rfl) ?_
        refine clV_i (As := [.int p1, .int v4_14]) (rest := [.ref (ad 14)]) (wS cI ad size rc g fs st ln su rr cr tk gr se sr) ⟨hx, hb, hml, hown, hts⟩ (K_X0_cellAt l D cI cZ ad H.size size rc g fs st ln su rr cr p1 v4_14 _ rfl) (cwV 2 hts gX1_takeOutsideSets_X0_cellAt rfl rfl rfl (by decide +kernel) ⟨Nat.le_of_ble_eq_true rfl, Nat.le_of_ble_eq_true rfl⟩) hK hP hD hS hA hl.1 [0, 1, 2, 3, 4, 5, 6, 7] (by decide) rfl rfl rfl 0 0 rfl rfl rfl rfl rfl (Nat.le_of_ble_eq_true rfl) dX1_takeOutsideSets_31 ⟨Nat.le_of_ble_eq_true rfl, Nat.le_of_ble_eq_true rfl⟩ (fun H locs hP hD hS => ?_)
        refine clN_i (As := [.ref (ad 14), .int (f_X0_cellAt fs st p1 v4_14)]) (rest := []) (wS cI ad size rc g fs st ln su rr cr tk gr se sr) ⟨hx, hb, hml, hown, hts⟩ (K_X3_at l D cI cZ (ad 14) 16 (by decide) H.size se (f_X0_cellAt fs st p1 v4_14) _ rfl) ⟨va_cnB (host := RX3) 2 hts gX1_takeOutsideSets_X3_at_n54 rfl rfl rfl (hK.2 (RX1, 54, yX3_at) (by decide)) (hts (.initialized RX3) (by decide +kernel)) (by decide +kernel) ⟨Nat.le_of_ble_eq_true rfl, Nat.le_of_ble_eq_true rfl⟩, hts (.static yX3_at) (by decide +kernel), trivial⟩ hK hP hD hS hA hl.1 [9] (by decide) rfl rfl rfl rfl rfl (Nat.le_of_ble_eq_true rfl) dX1_takeOutsideSets_34 ⟨Nat.le_of_ble_eq_true rfl, Nat.le_of_ble_eq_true rfl⟩ (fun H locs hP hD hS => ?_)
        refine lv_istore (lv' := [(5, .int (f_X3_at 16 se (f_X0_cellAt fs st p1 v4_14))), (0, .ref (ad 13)), (1, .int p1), (2, .int (f_X0_lengthAt ln p1)), (3, .int v3_14), (4, .int v4_14)]) hx hb dX1_takeOutsideSets_37 hl (by decide) rfl (fun ls hl => ?_)
        refine lv_iload hx hb dX1_takeOutsideSets_39 (lv_at hl 0 rfl) ?_
        refine clS_i (As := [.int (f_X3_at 16 se (f_X0_cellAt fs st p1 v4_14))]) (rest := []) (wS cI ad size rc g fs st ln su rr cr tk gr se sr) ⟨hx, hb, hml, hown, hts⟩ (K_X1_isSingle l D cI cZ H.size  (f_X3_at 16 se (f_X0_cellAt fs st p1 v4_14)) _ rfl) (va_cwS 1 hts gX1_takeOutsideSets_X1_isSingle rfl rfl rfl (by decide +kernel) ⟨Nat.le_of_ble_eq_true rfl, Nat.le_of_ble_eq_true rfl⟩) hK hP hD hS hA hl.1 [] (by decide) rfl rfl rfl rfl rfl (Nat.le_of_ble_eq_true rfl) dX1_takeOutsideSets_41 ⟨Nat.le_of_ble_eq_true rfl, Nat.le_of_ble_eq_true rfl⟩ (fun H locs hP hD hS => ?_)
        obtain ⟨k52, hk52, hf⟩ := jn_some hf
        have w52 : ∀ (v3_52 : Int32), k52 v3_52 = some r → ∀ (H : Heap) (locs : List Loc) (ls : Array Slot), va_P D vwCl (wS cI ad size rc g fs st ln su rr cr tk gr se sr) H → va_D A (wS cI ad size rc g fs st ln su rr cr tk gr se sr) → va_S A s.heap H locs → lv_has ls 6 [(0, .ref (ad 13)), (1, .int p1), (2, .int (f_X0_lengthAt ln p1)), (3, .int v3_52), (4, .int v4_14)] → W p l e rm_X1_takeOutsideSets s m args below meth c H locs 0 0 Q (F0 m 52 ls []) := by
          intro v3_52 hf H locs ls hP hD hS hl
          rw [hk52] at hf
          try dsimp only at hf
          refine lv_iinc (v := (v4_14 + 1)) (lv' := [(4, .int (v4_14 + 1)), (0, .ref (ad 13)), (1, .int p1), (2, .int (f_X0_lengthAt ln p1)), (3, .int v3_52)]) hx hb dX1_takeOutsideSets_52 hl (k := 4) rfl rfl (by decide) rfl (fun ls hl => ?_)
          refine lv_goto (tgt := 14) hx hb dX1_takeOutsideSets_55 (by decide) ?_
          exact ih14 v3_52 (v4_14 + 1) hf _ _ _ hP hD hS (lv_sub hl [1, 2, 3, 4, 0] rfl)
        refine lv_if_eq (tgt := 52) hx hb dX1_takeOutsideSets_44 (by decide) (fun c_44 => ?_) (fun c_44 => ?_)
        · have hf := ite_t c_44 hf
          exact w52 v3_14 hf _ _ _ hP hD hS (lv_sub hl [1, 2, 3, 4, 5] rfl)
        · have hf := ite_f c_44 hf
          refine lv_iload_n hx hb dX1_takeOutsideSets_47 rfl (lv_at hl 4 rfl) ?_
          refine lv_iload hx hb dX1_takeOutsideSets_48 (lv_at hl 0 rfl) ?_
          refine lv_ior hx hb dX1_takeOutsideSets_50 ?_
          refine lv_istore_n (lv' := [(3, .int (v3_14 ||| (f_X3_at 16 se (f_X0_cellAt fs st p1 v4_14)))), (5, .int (f_X3_at 16 se (f_X0_cellAt fs st p1 v4_14))), (0, .ref (ad 13)), (1, .int p1), (2, .int (f_X0_lengthAt ln p1)), (4, .int v4_14)]) hx hb dX1_takeOutsideSets_51 rfl hl (by decide) rfl (fun ls hl => ?_)
          exact w52 (v3_14 ||| (f_X3_at 16 se (f_X0_cellAt fs st p1 v4_14))) hf _ _ _ hP hD hS (lv_sub hl [2, 3, 4, 0, 5] rfl)
  exact l14 N 0 0 hf _ _ _ hP hD hS (lv_sub hl [3, 4, 2, 1, 0] rfl)
def rm_X1_canMake (d : Nat) : Room := { frames := d, cells := 0, slots := 0, locals := 60 * d }
set_option maxRecDepth 100000 in
set_option maxHeartbeats 8000000 in
theorem K_X1_canMake (l : Launch) (D : va_G) (cI cZ : ClassId) (a n : Nat) (hn : n < 2 ^ 31) (N : Nat) (row : Nat → Int32) : ∀ (d : Nat) (sz : Nat) (p1 : Int32) (p2 : Int32) (p3 : Int32) (r : (Int32)), f_X1_canMake N d n row p1 p2 p3 = some r → Met l yX1_canMake wsX1_canMake (rm_X1_canMake d) (PC D cI cZ sz [.ref a, .int p1, .int p2, .int p3] (wR cI a n row)) (QI D cI cZ sz (wR cI a n row) r (wR cI a n row)) 0 0 (va_A (wR cI a n row) sz) := by
  intro d
  induction d with
  | zero => intro sz p1 p2 p3 r hf; exact nomatch (show (none : Option _) = some r from hf)
  | succ d ihd =>
    intro sz p1 p2 p3 r hf
    rw [f_X1_canMake.eq_2, f_X1_canMake_1] at hf
    refine mk_z (cc := cX1_canMake) (maxL := 7) (lv0 := [(0, .ref a), (1, .int p1), (2, .int p2), (3, .int p3)]) (by decide) rfl (Nat.le_of_ble_eq_true rfl) rfl ?_
    intro p e s m args below meth c ls A Q H hx hb hml hown hts hK hP hD hA hS hl hR
    refine lv_iload_n hx hb dX1_canMake_0 rfl (lv_at hl 1 rfl) ?_
    refine lv_if_gt (tgt := 14) hx hb dX1_canMake_1 (by decide) (fun c_1 => ?_) (fun c_1 => ?_)
    · have hf := ite_t c_1 hf
      refine lv_iload_n hx hb dX1_canMake_14 rfl (lv_at hl 1 rfl) ?_
      refine lv_iconst (v := 4) hx hb dX1_canMake_15 (by decide) ?_
      refine lv_icmp_le (tgt := 21) hx hb dX1_canMake_16 (by decide) (fun c_16 => ?_) (fun c_16 => ?_)
      · have hf := ite_t c_16 hf
        refine lv_aload_n hx hb dX1_canMake_21 rfl (lv_at hl 0 rfl) ?_
        refine lv_iload_n hx hb dX1_canMake_22 rfl (lv_at hl 1 rfl) ?_
        refine lv_iconst (v := 1) hx hb dX1_canMake_23 (by decide) ?_
        refine lv_isub hx hb dX1_canMake_24 ?_
        refine clN_i (As := [.ref a, .int (p1 - 1)]) (rest := []) (wR cI a n row) ⟨hx, hb, hml, hown, hts⟩ (K_X3_at l D cI cZ a n hn H.size row (p1 - 1) _ rfl) ⟨va_cnB (host := RX3) 2 hts gX1_canMake_X3_at_n54 rfl rfl rfl (hK.2 (RX1, 54, yX3_at) (by decide)) (hts (.initialized RX3) (by decide +kernel)) (by decide +kernel) ⟨Nat.succ_le_succ (Nat.zero_le _), by show 8 + (2 + 11) + 0 ≤ 60 * (d + 1); omega⟩, hts (.static yX3_at) (by decide +kernel), trivial⟩ hK hP hD hS hA hl.1 [0] (by decide) rfl rfl rfl rfl rfl (Nat.le_of_ble_eq_true rfl) dX1_canMake_25 ⟨Nat.le_of_ble_eq_true rfl, Nat.le_of_ble_eq_true rfl⟩ (fun H locs hP hD hS => ?_)
        refine lv_iload_n hx hb dX1_canMake_28 rfl (lv_at hl 3 rfl) ?_
        refine lv_iconst (v := (-1)) hx hb dX1_canMake_29 (by decide) ?_
        refine lv_ixor hx hb dX1_canMake_30 ?_
        refine lv_iand hx hb dX1_canMake_31 ?_
        refine lv_istore (lv' := [(4, .int ((f_X3_at n row (p1 - 1)) &&& (p3 ^^^ (-1)))), (0, .ref a), (1, .int p1), (2, .int p2), (3, .int p3)]) hx hb dX1_canMake_32 hl (by decide) rfl (fun ls hl => ?_)
        refine lv_iconst (v := 1) hx hb dX1_canMake_34 (by decide) ?_
        refine lv_istore (lv' := [(5, .int 1), (4, .int ((f_X3_at n row (p1 - 1)) &&& (p3 ^^^ (-1)))), (0, .ref a), (1, .int p1), (2, .int p2), (3, .int p3)]) hx hb dX1_canMake_35 hl (by decide) rfl (fun ls hl => ?_)
        have l37 : ∀ (nn : Nat) (v5_37 : Int32), f_X1_canMake_L37 p1 p2 p3 ((f_X3_at n row (p1 - 1)) &&& (p3 ^^^ (-1))) (f_X1_canMake N d n row) nn v5_37 = some r → ∀ (H : Heap) (locs : List Loc) (ls : Array Slot), va_P D vwCl (wR cI a n row) H → va_D A (wR cI a n row) → va_S A s.heap H locs → lv_has ls 7 [(0, .ref a), (1, .int p1), (2, .int p2), (3, .int p3), (4, .int ((f_X3_at n row (p1 - 1)) &&& (p3 ^^^ (-1)))), (5, .int v5_37)] → W p l e (rm_X1_canMake (d + 1)) s m args below meth c H locs 0 0 Q (F0 m 37 ls []) := by
          intro nn
          induction nn with
          | zero => intro _ hf; exact nomatch (show (none : Option _) = some r from hf)
          | succ n37 ih37 =>
            intro v5_37 hf H locs ls hP hD hS hl
            rw [f_X1_canMake_L37.eq_2] at hf
            refine lv_iload hx hb dX1_canMake_37 (lv_at hl 5 rfl) ?_
            refine lv_bipush (v := 9) hx hb dX1_canMake_39 (by decide) ?_
            refine lv_icmp_gt (tgt := 90) hx hb dX1_canMake_41 (by decide) (fun c_41 => ?_) (fun c_41 => ?_)
            · have hf := ite_t c_41 hf
              refine lv_iconst (v := 0) hx hb dX1_canMake_90 (by decide) ?_
              cases hf
              exact hR _ _ _ _ _ _ (by decide) rfl rfl hP hD hS dX1_canMake_91
            · have hf := ite_f c_41 hf
              refine lv_iload hx hb dX1_canMake_44 (lv_at hl 5 rfl) ?_
              refine lv_iload_n hx hb dX1_canMake_46 rfl (lv_at hl 2 rfl) ?_
              refine lv_icmp_gt (tgt := 90) hx hb dX1_canMake_47 (by decide) (fun c_47 => ?_) (fun c_47 => ?_)
              · have hf := ite_t c_47 hf
                refine lv_iconst (v := 0) hx hb dX1_canMake_90 (by decide) ?_
                cases hf
                exact hR _ _ _ _ _ _ (by decide) rfl rfl hP hD hS dX1_canMake_91
              · have hf := ite_f c_47 hf
                refine lv_iconst (v := 1) hx hb dX1_canMake_50 (by decide) ?_
                refine lv_iload hx hb dX1_canMake_51 (lv_at hl 5 rfl) ?_
                refine lv_ishl hx hb dX1_canMake_53 ?_
                refine lv_istore (lv' := [(6, .int (1 <<< (v5_37 &&& 31))), (0, .ref a), (1, .int p1), (2, .int p2), (3, .int p3), (4, .int ((f_X3_at n row (p1 - 1)) &&& (p3 ^^^ (-1)))), (5, .int v5_37)]) hx hb dX1_canMake_54 hl (by decide) rfl (fun ls hl => ?_)
                refine lv_iload hx hb dX1_canMake_56 (lv_at hl 5 rfl) ?_
                refine lv_iload hx hb dX1_canMake_58 (lv_at hl 0 rfl) ?_
                refine lv_iand hx hb dX1_canMake_60 ?_
                obtain ⟨k84, hk84, hf⟩ := jn_some hf
                have w84 : ∀ (_ : Unit), k84 () = some r → ∀ (H : Heap) (locs : List Loc) (ls : Array Slot), va_P D vwCl (wR cI a n row) H → va_D A (wR cI a n row) → va_S A s.heap H locs → lv_has ls 7 [(0, .ref a), (1, .int p1), (2, .int p2), (3, .int p3), (4, .int ((f_X3_at n row (p1 - 1)) &&& (p3 ^^^ (-1)))), (5, .int v5_37)] → W p l e (rm_X1_canMake (d + 1)) s m args below meth c H locs 0 0 Q (F0 m 84 ls []) := by
                  intro _ hf H locs ls hP hD hS hl
                  rw [hk84] at hf
                  try dsimp only at hf
                  refine lv_iinc (v := (v5_37 + 1)) (lv' := [(5, .int (v5_37 + 1)), (0, .ref a), (1, .int p1), (2, .int p2), (3, .int p3), (4, .int ((f_X3_at n row (p1 - 1)) &&& (p3 ^^^ (-1))))]) hx hb dX1_canMake_84 hl (k := 5) rfl rfl (by decide) rfl (fun ls hl => ?_)
                  refine lv_goto (tgt := 37) hx hb dX1_canMake_87 (by decide) ?_
                  exact ih37 (v5_37 + 1) hf _ _ _ hP hD hS (lv_sub hl [1, 2, 3, 4, 5, 0] rfl)
                refine lv_if_eq (tgt := 84) hx hb dX1_canMake_61 (by decide) (fun c_61 => ?_) (fun c_61 => ?_)
                · have hf := ite_t c_61 hf
                  exact w84 () hf _ _ _ hP hD hS (lv_sub hl [1, 2, 3, 4, 5, 6] rfl)
                · have hf := ite_f c_61 hf
                  refine lv_aload_n hx hb dX1_canMake_64 rfl (lv_at hl 1 rfl) ?_
                  refine lv_iload_n hx hb dX1_canMake_65 rfl (lv_at hl 2 rfl) ?_
                  refine lv_iconst (v := 1) hx hb dX1_canMake_66 (by decide) ?_
                  refine lv_isub hx hb dX1_canMake_67 ?_
                  refine lv_iload_n hx hb dX1_canMake_68 rfl (lv_at hl 3 rfl) ?_
                  refine lv_iload hx hb dX1_canMake_69 (lv_at hl 6 rfl) ?_
                  refine lv_isub hx hb dX1_canMake_71 ?_
                  refine lv_iload_n hx hb dX1_canMake_72 rfl (lv_at hl 4 rfl) ?_
                  refine lv_iload hx hb dX1_canMake_73 (lv_at hl 0 rfl) ?_
                  refine lv_ior hx hb dX1_canMake_75 ?_
                  obtain ⟨x76, hy76, hf⟩ := Option.bind_eq_some_iff.mp hf
                  refine clS_i (As := [.ref a, .int (p1 - 1), .int (p2 - v5_37), .int (p3 ||| (1 <<< (v5_37 &&& 31)))]) (rest := []) (wR cI a n row) ⟨hx, hb, hml, hown, hts⟩ (ihd H.size (p1 - 1) (p2 - v5_37) (p3 ||| (1 <<< (v5_37 &&& 31))) _ hy76) (va_cwS 4 hts gX1_canMake_X1_canMake rfl rfl rfl (by decide +kernel) ⟨Nat.le_refl _, by show 8 + (7 + 11) + 60 * d ≤ 60 * (d + 1); omega⟩) hK hP hD hS hA hl.1 [0] (by decide) rfl rfl rfl rfl rfl (Nat.le_of_ble_eq_true rfl) dX1_canMake_76 ⟨Nat.le_of_ble_eq_true rfl, Nat.le_of_ble_eq_true rfl⟩ (fun H locs hP hD hS => ?_)
                  refine lv_if_eq (tgt := 84) hx hb dX1_canMake_79 (by decide) (fun c_79 => ?_) (fun c_79 => ?_)
                  · have hf := ite_t c_79 hf
                    exact w84 () hf _ _ _ hP hD hS (lv_sub hl [1, 2, 3, 4, 5, 6] rfl)
                  · have hf := ite_f c_79 hf
                    refine lv_iconst (v := 1) hx hb dX1_canMake_82 (by decide) ?_
                    cases hf
                    exact hR _ _ _ _ _ _ (by decide) rfl rfl hP hD hS dX1_canMake_83
        exact l37 N 1 hf _ _ _ hP hD hS (lv_sub hl [2, 3, 4, 5, 1, 0] rfl)
      · have hf := ite_f c_16 hf
        refine lv_iconst (v := 0) hx hb dX1_canMake_19 (by decide) ?_
        cases hf
        exact hR _ _ _ _ _ _ (by decide) rfl rfl hP hD hS dX1_canMake_20
    · have hf := ite_f c_1 hf
      refine lv_iload_n hx hb dX1_canMake_4 rfl (lv_at hl 2 rfl) ?_
      refine lv_if_ne (tgt := 12) hx hb dX1_canMake_5 (by decide) (fun c_5 => ?_) (fun c_5 => ?_)
      · have hf := ite_f c_5 hf
        refine lv_iconst (v := 0) hx hb dX1_canMake_12 (by decide) ?_
        cases hf
        exact hR _ _ _ _ _ _ (by decide) rfl rfl hP hD hS dX1_canMake_13
      · have hf := ite_t c_5 hf
        refine lv_iconst (v := 1) hx hb dX1_canMake_8 (by decide) ?_
        refine lv_goto (tgt := 13) hx hb dX1_canMake_9 (by decide) ?_
        cases hf
        exact hR _ _ _ _ _ _ (by decide) rfl rfl hP hD hS dX1_canMake_13
def rm_X1_takeUnfit : Room := { frames := 7, cells := 0, slots := 0, locals := 506 }
set_option maxRecDepth 100000 in
set_option maxHeartbeats 8000000 in
theorem K_X1_takeUnfit (l : Launch) (D : va_G) (cI cZ : ClassId) (ad : Nat → Nat) (sz : Nat) (N : Nat) (size rc : Int32) (g fs st ln su rr cr : Nat → Int32) (tk gr : Int32) (se sr : Nat → Int32) (p1 : Int32) (r : (Int32 × (Nat → Int32) × (Nat → Int32))) (hf : f_X1_takeUnfit N fs st ln su tk se sr p1 = some r) : Met l yX1_takeUnfit wsX1_takeUnfit rm_X1_takeUnfit (PC D cI cZ sz [.ref (ad 13), .int p1] (wS cI ad size rc g fs st ln su rr cr tk gr se sr)) (QV D cI cZ sz (wS cI ad size rc g fs st ln su rr cr tk gr se sr) (wS cI ad size rc g fs st ln su rr cr r.1 gr r.2.1 r.2.2)) 0 0 (va_A (wS cI ad size rc g fs st ln su rr cr tk gr se sr) sz) := by
  refine mk_v (cc := cX1_takeUnfit) (maxL := 7) (lv0 := [(0, .ref (ad 13)), (1, .int p1)]) (by decide) rfl (Nat.le_of_ble_eq_true rfl) rfl ?_
  intro p e s m args below meth c ls A Q H hx hb hml hown hts hK hP hD hA hS hl hR
  have hinX1 : ∀ w ∈ wsX10, w ∈ wsX1_takeUnfit := by decide +kernel
  rw [f_X1_takeUnfit] at hf
  refine lv_aload_n hx hb dX1_takeUnfit_0 rfl (lv_at hl 0 rfl) ?_
  refine va_get (D := D) (ci := 1) (v := .ref (ad 0)) (C := RX1) (T := TX1) (N := 5) hx hb hts hinX1 hown hK.1 hP 8 rfl rfl 0 (by decide) (hts (.fieldLink RX1 18 "Gridpuzzle$Solving" "board" "LGridpuzzle$Board;") (by decide +kernel)) (fun _ h9 => h9) rfl dX1_takeUnfit_1 ?_
  refine lv_iload_n hx hb dX1_takeUnfit_4 rfl (lv_at hl 1 rfl) ?_
  refine clV_i (As := [.int p1]) (rest := []) (wS cI ad size rc g fs st ln su rr cr tk gr se sr) ⟨hx, hb, hml, hown, hts⟩ (K_X0_lengthAt l D cI cZ ad H.size size rc g fs st ln su rr cr p1 _ rfl) (cwV 1 hts gX1_takeUnfit_X0_lengthAt rfl rfl rfl (by decide +kernel) ⟨Nat.le_of_ble_eq_true rfl, Nat.le_of_ble_eq_true rfl⟩) hK hP hD hS hA hl.1 [0, 1, 2, 3, 4, 5, 6, 7] (by decide) rfl rfl rfl 0 0 rfl rfl rfl rfl rfl (Nat.le_of_ble_eq_true rfl) dX1_takeUnfit_5 ⟨Nat.le_of_ble_eq_true rfl, Nat.le_of_ble_eq_true rfl⟩ (fun H locs hP hD hS => ?_)
  refine lv_istore_n (lv' := [(2, .int (f_X0_lengthAt ln p1)), (0, .ref (ad 13)), (1, .int p1)]) hx hb dX1_takeUnfit_8 rfl hl (by decide) rfl (fun ls hl => ?_)
  refine lv_iconst (v := 0) hx hb dX1_takeUnfit_9 (by decide) ?_
  refine lv_istore_n (lv' := [(3, .int 0), (2, .int (f_X0_lengthAt ln p1)), (0, .ref (ad 13)), (1, .int p1)]) hx hb dX1_takeUnfit_10 rfl hl (by decide) rfl (fun ls hl => ?_)
  obtain ⟨k46, hk46, hf⟩ := jn_some hf
  have w46 : ∀ (sr_46 : Nat → Int32), k46 sr_46 = some r → ∀ (H : Heap) (locs : List Loc) (ls : Array Slot), va_P D vwCl (wS cI ad size rc g fs st ln su rr cr tk gr se sr_46) H → va_D A (wS cI ad size rc g fs st ln su rr cr tk gr se sr_46) → va_S A s.heap H locs → lv_has ls 7 [(0, .ref (ad 13)), (1, .int p1), (2, .int (f_X0_lengthAt ln p1))] → W p l e rm_X1_takeUnfit s m args below meth c H locs 0 0 Q (F0 m 46 ls []) := by
    intro sr_46 hf H locs ls hP hD hS hl
    rw [hk46] at hf
    try dsimp only at hf
    refine lv_iconst (v := 0) hx hb dX1_takeUnfit_46 (by decide) ?_
    refine lv_istore_n (lv' := [(3, .int 0), (0, .ref (ad 13)), (1, .int p1), (2, .int (f_X0_lengthAt ln p1))]) hx hb dX1_takeUnfit_47 rfl hl (by decide) rfl (fun ls hl => ?_)
    have l48 : ∀ (nn : Nat) (v3_48 : Int32) (tk_48 : Int32) (se_48 : Nat → Int32) (sr_48 : Nat → Int32), f_X1_takeUnfit_L48 N p1 (f_X0_lengthAt ln p1) fs st su nn v3_48 tk_48 se_48 sr_48 = some r → ∀ (H : Heap) (locs : List Loc) (ls : Array Slot), va_P D vwCl (wS cI ad size rc g fs st ln su rr cr tk_48 gr se_48 sr_48) H → va_D A (wS cI ad size rc g fs st ln su rr cr tk_48 gr se_48 sr_48) → va_S A s.heap H locs → lv_has ls 7 [(0, .ref (ad 13)), (1, .int p1), (2, .int (f_X0_lengthAt ln p1)), (3, .int v3_48)] → W p l e rm_X1_takeUnfit s m args below meth c H locs 0 0 Q (F0 m 48 ls []) := by
      intro nn
      induction nn with
      | zero => intro _ _ _ _ hf; exact nomatch (show (none : Option _) = some r from hf)
      | succ n48 ih48 =>
        intro v3_48 tk_48 se_48 sr_48 hf H locs ls hP hD hS hl
        rw [f_X1_takeUnfit_L48.eq_2] at hf
        refine lv_iload_n hx hb dX1_takeUnfit_48 rfl (lv_at hl 3 rfl) ?_
        refine lv_iload_n hx hb dX1_takeUnfit_49 rfl (lv_at hl 2 rfl) ?_
        refine lv_icmp_ge (tgt := 162) hx hb dX1_takeUnfit_50 (by decide) (fun c_50 => ?_) (fun c_50 => ?_)
        · have hf := ite_t c_50 hf
          cases hf
          exact hR _ _ _ _ _ rfl hP hD hS dX1_takeUnfit_162
        · have hf := ite_f c_50 hf
          refine lv_aload_n hx hb dX1_takeUnfit_53 rfl (lv_at hl 0 rfl) ?_
          refine va_get (D := D) (ci := 1) (v := .ref (ad 0)) (C := RX1) (T := TX1) (N := 5) hx hb hts hinX1 hown hK.1 hP 8 rfl rfl 0 (by decide) (hts (.fieldLink RX1 18 "Gridpuzzle$Solving" "board" "LGridpuzzle$Board;") (by decide +kernel)) (fun _ h9 => h9) rfl dX1_takeUnfit_54 ?_
          refine lv_iload_n hx hb dX1_takeUnfit_57 rfl (lv_at hl 1 rfl) ?_
          refine lv_iload_n hx hb dX1_takeUnfit_58 rfl (lv_at hl 3 rfl) ?_
          refine clV_i (As := [.int p1, .int v3_48]) (rest := []) (wS cI ad size rc g fs st ln su rr cr tk_48 gr se_48 sr_48) ⟨hx, hb, hml, hown, hts⟩ (K_X0_cellAt l D cI cZ ad H.size size rc g fs st ln su rr cr p1 v3_48 _ rfl) (cwV 2 hts gX1_takeUnfit_X0_cellAt rfl rfl rfl (by decide +kernel) ⟨Nat.le_of_ble_eq_true rfl, Nat.le_of_ble_eq_true rfl⟩) hK hP hD hS hA hl.1 [0, 1, 2, 3, 4, 5, 6, 7] (by decide) rfl rfl rfl 0 0 rfl rfl rfl rfl rfl (Nat.le_of_ble_eq_true rfl) dX1_takeUnfit_59 ⟨Nat.le_of_ble_eq_true rfl, Nat.le_of_ble_eq_true rfl⟩ (fun H locs hP hD hS => ?_)
          refine lv_istore (lv' := [(4, .int (f_X0_cellAt fs st p1 v3_48)), (0, .ref (ad 13)), (1, .int p1), (2, .int (f_X0_lengthAt ln p1)), (3, .int v3_48)]) hx hb dX1_takeUnfit_62 hl (by decide) rfl (fun ls hl => ?_)
          refine lv_iconst (v := 1) hx hb dX1_takeUnfit_64 (by decide) ?_
          refine lv_istore (lv' := [(5, .int 1), (4, .int (f_X0_cellAt fs st p1 v3_48)), (0, .ref (ad 13)), (1, .int p1), (2, .int (f_X0_lengthAt ln p1)), (3, .int v3_48)]) hx hb dX1_takeUnfit_65 hl (by decide) rfl (fun ls hl => ?_)
          obtain ⟨k139, hk139, hf⟩ := jn_some hf
          have w139 : ∀ (tk_139 : Int32) (se_139 : Nat → Int32) (sr_139 : Nat → Int32), k139 tk_139 se_139 sr_139 = some r → ∀ (H : Heap) (locs : List Loc) (ls : Array Slot), va_P D vwCl (wS cI ad size rc g fs st ln su rr cr tk_139 gr se_139 sr_139) H → va_D A (wS cI ad size rc g fs st ln su rr cr tk_139 gr se_139 sr_139) → va_S A s.heap H locs → lv_has ls 7 [(0, .ref (ad 13)), (1, .int p1), (2, .int (f_X0_lengthAt ln p1)), (3, .int v3_48), (4, .int (f_X0_cellAt fs st p1 v3_48))] → W p l e rm_X1_takeUnfit s m args below meth c H locs 0 0 Q (F0 m 139 ls []) := by
            intro tk_139 se_139 sr_139 hf H locs ls hP hD hS hl
            rw [hk139] at hf
            try dsimp only at hf
            refine lv_aload_n hx hb dX1_takeUnfit_139 rfl (lv_at hl 0 rfl) ?_
            refine va_get (D := D) (ci := 1) (v := .ref (ad 15)) (C := RX1) (T := TX1) (N := 5) hx hb hts hinX1 hown hK.1 hP 8 rfl rfl 2 (by decide) (hts (.fieldLink RX1 15 "Gridpuzzle$Solving" "setsOfRun" "[I") (by decide +kernel)) (fun _ h9 => h9) rfl dX1_takeUnfit_140 ?_
            refine lv_iload_n hx hb dX1_takeUnfit_143 rfl (lv_at hl 3 rfl) ?_
            refine lv_aload_n hx hb dX1_takeUnfit_144 rfl (lv_at hl 0 rfl) ?_
            refine va_get (D := D) (ci := 1) (v := .ref (ad 14)) (C := RX1) (T := TX1) (N := 5) hx hb hts hinX1 hown hK.1 hP 8 rfl rfl 1 (by decide) (hts (.fieldLink RX1 9 "Gridpuzzle$Solving" "sets" "[I") (by decide +kernel)) (fun _ h9 => h9) rfl dX1_takeUnfit_145 ?_
            refine lv_iload hx hb dX1_takeUnfit_148 (lv_at hl 4 rfl) ?_
            refine clN_i (As := [.ref (ad 14), .int (f_X0_cellAt fs st p1 v3_48)]) (rest := [.int v3_48, .ref (ad 15)]) (wS cI ad size rc g fs st ln su rr cr tk_139 gr se_139 sr_139) ⟨hx, hb, hml, hown, hts⟩ (K_X3_at l D cI cZ (ad 14) 16 (by decide) H.size se_139 (f_X0_cellAt fs st p1 v3_48) _ rfl) ⟨va_cnB (host := RX3) 2 hts gX1_takeUnfit_X3_at_n54 rfl rfl rfl (hK.2 (RX1, 54, yX3_at) (by decide)) (hts (.initialized RX3) (by decide +kernel)) (by decide +kernel) ⟨Nat.le_of_ble_eq_true rfl, Nat.le_of_ble_eq_true rfl⟩, hts (.static yX3_at) (by decide +kernel), trivial⟩ hK hP hD hS hA hl.1 [9] (by decide) rfl rfl rfl rfl rfl (Nat.le_of_ble_eq_true rfl) dX1_takeUnfit_150 ⟨Nat.le_of_ble_eq_true rfl, Nat.le_of_ble_eq_true rfl⟩ (fun H locs hP hD hS => ?_)
            refine clN_v (As := [.ref (ad 15), .int v3_48, .int (f_X3_at 16 se_139 (f_X0_cellAt fs st p1 v3_48))]) (rest := []) (wS cI ad size rc g fs st ln su rr cr tk_139 gr se_139 (f_X3_put 4 sr_139 v3_48 (f_X3_at 16 se_139 (f_X0_cellAt fs st p1 v3_48)))) ⟨hx, hb, hml, hown, hts⟩ (K_X3_put l D cI cZ (ad 15) 4 (by decide) H.size sr_139 v3_48 (f_X3_at 16 se_139 (f_X0_cellAt fs st p1 v3_48)) _ rfl) ⟨va_cnB (host := RX3) 3 hts gX1_takeUnfit_X3_put_n74 rfl rfl rfl (hK.2 (RX1, 74, yX3_put) (by decide)) (hts (.initialized RX3) (by decide +kernel)) (by decide +kernel) ⟨Nat.le_of_ble_eq_true rfl, Nat.le_of_ble_eq_true rfl⟩, hts (.static yX3_put) (by decide +kernel), trivial⟩ hK hP hD hS hA hl.1 [10] (by decide) rfl rfl rfl rfl rfl (Nat.le_of_ble_eq_true rfl) dX1_takeUnfit_153 ⟨Nat.le_of_ble_eq_true rfl, Nat.le_of_ble_eq_true rfl⟩ (fun H locs hP hD hS => ?_)
            refine lv_iinc (v := (v3_48 + 1)) (lv' := [(3, .int (v3_48 + 1)), (0, .ref (ad 13)), (1, .int p1), (2, .int (f_X0_lengthAt ln p1)), (4, .int (f_X0_cellAt fs st p1 v3_48))]) hx hb dX1_takeUnfit_156 hl (k := 3) rfl rfl (by decide) rfl (fun ls hl => ?_)
            refine lv_goto (tgt := 48) hx hb dX1_takeUnfit_159 (by decide) ?_
            exact ih48 (v3_48 + 1) tk_139 se_139 (f_X3_put 4 sr_139 v3_48 (f_X3_at 16 se_139 (f_X0_cellAt fs st p1 v3_48))) hf _ _ _ hP hD hS (lv_sub hl [1, 2, 3, 0] rfl)
          have l67 : ∀ (nn : Nat) (v5_67 : Int32) (tk_67 : Int32) (se_67 : Nat → Int32) (sr_67 : Nat → Int32), f_X1_takeUnfit_L67 N p1 (f_X0_lengthAt ln p1) v3_48 (f_X0_cellAt fs st p1 v3_48) su k139 nn v5_67 tk_67 se_67 sr_67 = some r → ∀ (H : Heap) (locs : List Loc) (ls : Array Slot), va_P D vwCl (wS cI ad size rc g fs st ln su rr cr tk_67 gr se_67 sr_67) H → va_D A (wS cI ad size rc g fs st ln su rr cr tk_67 gr se_67 sr_67) → va_S A s.heap H locs → lv_has ls 7 [(0, .ref (ad 13)), (1, .int p1), (2, .int (f_X0_lengthAt ln p1)), (3, .int v3_48), (4, .int (f_X0_cellAt fs st p1 v3_48)), (5, .int v5_67)] → W p l e rm_X1_takeUnfit s m args below meth c H locs 0 0 Q (F0 m 67 ls []) := by
            intro nn
            induction nn with
            | zero => intro _ _ _ _ hf; exact nomatch (show (none : Option _) = some r from hf)
            | succ n67 ih67 =>
              intro v5_67 tk_67 se_67 sr_67 hf H locs ls hP hD hS hl
              rw [f_X1_takeUnfit_L67.eq_2] at hf
              refine lv_iload hx hb dX1_takeUnfit_67 (lv_at hl 5 rfl) ?_
              refine lv_bipush (v := 9) hx hb dX1_takeUnfit_69 (by decide) ?_
              refine lv_icmp_gt (tgt := 139) hx hb dX1_takeUnfit_71 (by decide) (fun c_71 => ?_) (fun c_71 => ?_)
              · have hf := ite_t c_71 hf
                exact w139 tk_67 se_67 sr_67 hf _ _ _ hP hD hS (lv_sub hl [0, 1, 2, 3, 4] rfl)
              · have hf := ite_f c_71 hf
                refine lv_aload_n hx hb dX1_takeUnfit_74 rfl (lv_at hl 0 rfl) ?_
                refine va_get (D := D) (ci := 1) (v := .ref (ad 14)) (C := RX1) (T := TX1) (N := 5) hx hb hts hinX1 hown hK.1 hP 8 rfl rfl 1 (by decide) (hts (.fieldLink RX1 9 "Gridpuzzle$Solving" "sets" "[I") (by decide +kernel)) (fun _ h9 => h9) rfl dX1_takeUnfit_75 ?_
                refine lv_iload hx hb dX1_takeUnfit_78 (lv_at hl 4 rfl) ?_
                refine clN_i (As := [.ref (ad 14), .int (f_X0_cellAt fs st p1 v3_48)]) (rest := []) (wS cI ad size rc g fs st ln su rr cr tk_67 gr se_67 sr_67) ⟨hx, hb, hml, hown, hts⟩ (K_X3_at l D cI cZ (ad 14) 16 (by decide) H.size se_67 (f_X0_cellAt fs st p1 v3_48) _ rfl) ⟨va_cnB (host := RX3) 2 hts gX1_takeUnfit_X3_at_n54 rfl rfl rfl (hK.2 (RX1, 54, yX3_at) (by decide)) (hts (.initialized RX3) (by decide +kernel)) (by decide +kernel) ⟨Nat.le_of_ble_eq_true rfl, Nat.le_of_ble_eq_true rfl⟩, hts (.static yX3_at) (by decide +kernel), trivial⟩ hK hP hD hS hA hl.1 [9] (by decide) rfl rfl rfl rfl rfl (Nat.le_of_ble_eq_true rfl) dX1_takeUnfit_80 ⟨Nat.le_of_ble_eq_true rfl, Nat.le_of_ble_eq_true rfl⟩ (fun H locs hP hD hS => ?_)
                refine lv_iconst (v := 1) hx hb dX1_takeUnfit_83 (by decide) ?_
                refine lv_iload hx hb dX1_takeUnfit_84 (lv_at hl 5 rfl) ?_
                refine lv_ishl hx hb dX1_takeUnfit_86 ?_
                refine lv_iand hx hb dX1_takeUnfit_87 ?_
                refine lv_istore (lv' := [(6, .int ((f_X3_at 16 se_67 (f_X0_cellAt fs st p1 v3_48)) &&& (1 <<< (v5_67 &&& 31)))), (0, .ref (ad 13)), (1, .int p1), (2, .int (f_X0_lengthAt ln p1)), (3, .int v3_48), (4, .int (f_X0_cellAt fs st p1 v3_48)), (5, .int v5_67)]) hx hb dX1_takeUnfit_88 hl (by decide) rfl (fun ls hl => ?_)
                refine lv_aload_n hx hb dX1_takeUnfit_90 rfl (lv_at hl 1 rfl) ?_
                refine va_get (D := D) (ci := 1) (v := .ref (ad 15)) (C := RX1) (T := TX1) (N := 5) hx hb hts hinX1 hown hK.1 hP 8 rfl rfl 2 (by decide) (hts (.fieldLink RX1 15 "Gridpuzzle$Solving" "setsOfRun" "[I") (by decide +kernel)) (fun _ h9 => h9) rfl dX1_takeUnfit_91 ?_
                refine lv_iload_n hx hb dX1_takeUnfit_94 rfl (lv_at hl 4 rfl) ?_
                refine lv_iload hx hb dX1_takeUnfit_95 (lv_at hl 0 rfl) ?_
                refine clN_v (As := [.ref (ad 15), .int v3_48, .int ((f_X3_at 16 se_67 (f_X0_cellAt fs st p1 v3_48)) &&& (1 <<< (v5_67 &&& 31)))]) (rest := []) (wS cI ad size rc g fs st ln su rr cr tk_67 gr se_67 (f_X3_put 4 sr_67 v3_48 ((f_X3_at 16 se_67 (f_X0_cellAt fs st p1 v3_48)) &&& (1 <<< (v5_67 &&& 31))))) ⟨hx, hb, hml, hown, hts⟩ (K_X3_put l D cI cZ (ad 15) 4 (by decide) H.size sr_67 v3_48 ((f_X3_at 16 se_67 (f_X0_cellAt fs st p1 v3_48)) &&& (1 <<< (v5_67 &&& 31))) _ rfl) ⟨va_cnB (host := RX3) 3 hts gX1_takeUnfit_X3_put_n74 rfl rfl rfl (hK.2 (RX1, 74, yX3_put) (by decide)) (hts (.initialized RX3) (by decide +kernel)) (by decide +kernel) ⟨Nat.le_of_ble_eq_true rfl, Nat.le_of_ble_eq_true rfl⟩, hts (.static yX3_put) (by decide +kernel), trivial⟩ hK hP hD hS hA hl.1 [10] (by decide) rfl rfl rfl rfl rfl (Nat.le_of_ble_eq_true rfl) dX1_takeUnfit_97 ⟨Nat.le_of_ble_eq_true rfl, Nat.le_of_ble_eq_true rfl⟩ (fun H locs hP hD hS => ?_)
                refine lv_iload hx hb dX1_takeUnfit_100 (lv_at hl 0 rfl) ?_
                obtain ⟨k133, hk133, hf⟩ := jn_some hf
                have w133 : ∀ (tk_133 : Int32) (se_133 : Nat → Int32), k133 tk_133 se_133 = some r → ∀ (H : Heap) (locs : List Loc) (ls : Array Slot), va_P D vwCl (wS cI ad size rc g fs st ln su rr cr tk_133 gr se_133 (f_X3_put 4 sr_67 v3_48 ((f_X3_at 16 se_67 (f_X0_cellAt fs st p1 v3_48)) &&& (1 <<< (v5_67 &&& 31))))) H → va_D A (wS cI ad size rc g fs st ln su rr cr tk_133 gr se_133 (f_X3_put 4 sr_67 v3_48 ((f_X3_at 16 se_67 (f_X0_cellAt fs st p1 v3_48)) &&& (1 <<< (v5_67 &&& 31))))) → va_S A s.heap H locs → lv_has ls 7 [(0, .ref (ad 13)), (1, .int p1), (2, .int (f_X0_lengthAt ln p1)), (3, .int v3_48), (4, .int (f_X0_cellAt fs st p1 v3_48)), (5, .int v5_67)] → W p l e rm_X1_takeUnfit s m args below meth c H locs 0 0 Q (F0 m 133 ls []) := by
                  intro tk_133 se_133 hf H locs ls hP hD hS hl
                  rw [hk133] at hf
                  try dsimp only at hf
                  refine lv_iinc (v := (v5_67 + 1)) (lv' := [(5, .int (v5_67 + 1)), (0, .ref (ad 13)), (1, .int p1), (2, .int (f_X0_lengthAt ln p1)), (3, .int v3_48), (4, .int (f_X0_cellAt fs st p1 v3_48))]) hx hb dX1_takeUnfit_133 hl (k := 5) rfl rfl (by decide) rfl (fun ls hl => ?_)
                  refine lv_goto (tgt := 67) hx hb dX1_takeUnfit_136 (by decide) ?_
                  exact ih67 (v5_67 + 1) tk_133 se_133 (f_X3_put 4 sr_67 v3_48 ((f_X3_at 16 se_67 (f_X0_cellAt fs st p1 v3_48)) &&& (1 <<< (v5_67 &&& 31)))) hf _ _ _ hP hD hS (lv_sub hl [1, 2, 3, 4, 5, 0] rfl)
                refine lv_if_eq (tgt := 133) hx hb dX1_takeUnfit_102 (by decide) (fun c_102 => ?_) (fun c_102 => ?_)
                · have hf := ite_t c_102 hf
                  exact w133 tk_67 se_67 hf _ _ _ hP hD hS (lv_sub hl [1, 2, 3, 4, 5, 6] rfl)
                · have hf := ite_f c_102 hf
                  refine lv_aload_n hx hb dX1_takeUnfit_105 rfl (lv_at hl 1 rfl) ?_
                  refine va_get (D := D) (ci := 1) (v := .ref (ad 15)) (C := RX1) (T := TX1) (N := 5) hx hb hts hinX1 hown hK.1 hP 8 rfl rfl 2 (by decide) (hts (.fieldLink RX1 15 "Gridpuzzle$Solving" "setsOfRun" "[I") (by decide +kernel)) (fun _ h9 => h9) rfl dX1_takeUnfit_106 ?_
                  refine lv_iload_n hx hb dX1_takeUnfit_109 rfl (lv_at hl 3 rfl) ?_
                  refine lv_aload_n hx hb dX1_takeUnfit_110 rfl (lv_at hl 1 rfl) ?_
                  refine va_get (D := D) (ci := 1) (v := .ref (ad 0)) (C := RX1) (T := TX1) (N := 5) hx hb hts hinX1 hown hK.1 hP 8 rfl rfl 0 (by decide) (hts (.fieldLink RX1 18 "Gridpuzzle$Solving" "board" "LGridpuzzle$Board;") (by decide +kernel)) (fun _ h9 => h9) rfl dX1_takeUnfit_111 ?_
                  refine lv_iload_n hx hb dX1_takeUnfit_114 rfl (lv_at hl 2 rfl) ?_
                  refine clV_i (As := [.int p1]) (rest := [.int (f_X0_lengthAt ln p1), .ref (ad 15)]) (wS cI ad size rc g fs st ln su rr cr tk_67 gr se_67 (f_X3_put 4 sr_67 v3_48 ((f_X3_at 16 se_67 (f_X0_cellAt fs st p1 v3_48)) &&& (1 <<< (v5_67 &&& 31))))) ⟨hx, hb, hml, hown, hts⟩ (K_X0_sumAt l D cI cZ ad H.size size rc g fs st ln su rr cr p1 _ rfl) (cwV 1 hts gX1_takeUnfit_X0_sumAt rfl rfl rfl (by decide +kernel) ⟨Nat.le_of_ble_eq_true rfl, Nat.le_of_ble_eq_true rfl⟩) hK hP hD hS hA hl.1 [0, 1, 2, 3, 4, 5, 6, 7] (by decide) rfl rfl rfl 0 0 rfl rfl rfl rfl rfl (Nat.le_of_ble_eq_true rfl) dX1_takeUnfit_115 ⟨Nat.le_of_ble_eq_true rfl, Nat.le_of_ble_eq_true rfl⟩ (fun H locs hP hD hS => ?_)
                  refine lv_iconst (v := 0) hx hb dX1_takeUnfit_118 (by decide) ?_
                  obtain ⟨x119, hy119, hf⟩ := Option.bind_eq_some_iff.mp hf
                  refine clS_i (As := [.ref (ad 15), .int (f_X0_lengthAt ln p1), .int (f_X0_sumAt su p1), .int 0]) (rest := []) (wS cI ad size rc g fs st ln su rr cr tk_67 gr se_67 (f_X3_put 4 sr_67 v3_48 ((f_X3_at 16 se_67 (f_X0_cellAt fs st p1 v3_48)) &&& (1 <<< (v5_67 &&& 31))))) ⟨hx, hb, hml, hown, hts⟩ (K_X1_canMake l D cI cZ (ad 15) 4 (by decide) N (f_X3_put 4 sr_67 v3_48 ((f_X3_at 16 se_67 (f_X0_cellAt fs st p1 v3_48)) &&& (1 <<< (v5_67 &&& 31)))) 6 H.size (f_X0_lengthAt ln p1) (f_X0_sumAt su p1) 0 _ hy119) (va_cwS 4 hts gX1_takeUnfit_X1_canMake rfl rfl rfl (by decide +kernel) ⟨Nat.le_of_ble_eq_true rfl, Nat.le_of_ble_eq_true rfl⟩) hK hP hD hS hA hl.1 [10] (by decide) rfl rfl rfl rfl rfl (Nat.le_of_ble_eq_true rfl) dX1_takeUnfit_119 ⟨Nat.le_of_ble_eq_true rfl, Nat.le_of_ble_eq_true rfl⟩ (fun H locs hP hD hS => ?_)
                  refine lv_if_ne (tgt := 133) hx hb dX1_takeUnfit_122 (by decide) (fun c_122 => ?_) (fun c_122 => ?_)
                  · have hf := ite_f c_122 hf
                    exact w133 tk_67 se_67 hf _ _ _ hP hD hS (lv_sub hl [1, 2, 3, 4, 5, 6] rfl)
                  · have hf := ite_t c_122 hf
                    refine lv_aload_n hx hb dX1_takeUnfit_125 rfl (lv_at hl 1 rfl) ?_
                    refine lv_iload hx hb dX1_takeUnfit_126 (lv_at hl 5 rfl) ?_
                    refine lv_iload hx hb dX1_takeUnfit_128 (lv_at hl 0 rfl) ?_
                    obtain ⟨x130, hy130, hf⟩ := jn_some hf
                    refine clV_v (As := [.int (f_X0_cellAt fs st p1 v3_48), .int ((f_X3_at 16 se_67 (f_X0_cellAt fs st p1 v3_48)) &&& (1 <<< (v5_67 &&& 31)))]) (rest := []) (wS cI ad size rc g fs st ln su rr cr x130.1 gr x130.2 (f_X3_put 4 sr_67 v3_48 ((f_X3_at 16 se_67 (f_X0_cellAt fs st p1 v3_48)) &&& (1 <<< (v5_67 &&& 31))))) ⟨hx, hb, hml, hown, hts⟩ (K_X1_take l D cI cZ ad H.size size rc g fs st ln su rr cr tk_67 gr se_67 (f_X3_put 4 sr_67 v3_48 ((f_X3_at 16 se_67 (f_X0_cellAt fs st p1 v3_48)) &&& (1 <<< (v5_67 &&& 31)))) (f_X0_cellAt fs st p1 v3_48) ((f_X3_at 16 se_67 (f_X0_cellAt fs st p1 v3_48)) &&& (1 <<< (v5_67 &&& 31))) _ hy130.symm) (cwV 2 hts gX1_takeUnfit_X1_take rfl rfl rfl (by decide +kernel) ⟨Nat.le_of_ble_eq_true rfl, Nat.le_of_ble_eq_true rfl⟩) hK hP hD hS hA hl.1 [0, 1, 2, 3, 4, 5, 6, 7, 8, 9, 10] (by decide) rfl rfl rfl 1 8 rfl rfl rfl rfl rfl (Nat.le_of_ble_eq_true rfl) dX1_takeUnfit_130 ⟨Nat.le_of_ble_eq_true rfl, Nat.le_of_ble_eq_true rfl⟩ (fun H locs hP hD hS => ?_)
                    exact w133 x130.1 x130.2 hf _ _ _ hP hD hS (lv_sub hl [1, 2, 3, 4, 5, 6] rfl)
          exact l67 N 1 tk_48 se_48 sr_48 hf _ _ _ hP hD hS (lv_sub hl [2, 3, 4, 5, 1, 0] rfl)
    exact l48 N 0 tk se sr_46 hf _ _ _ hP hD hS (lv_sub hl [1, 2, 3, 0] rfl)
  have l11 : ∀ (nn : Nat) (v3_11 : Int32) (sr_11 : Nat → Int32), f_X1_takeUnfit_L11 p1 (f_X0_lengthAt ln p1) fs st se k46 nn v3_11 sr_11 = some r → ∀ (H : Heap) (locs : List Loc) (ls : Array Slot), va_P D vwCl (wS cI ad size rc g fs st ln su rr cr tk gr se sr_11) H → va_D A (wS cI ad size rc g fs st ln su rr cr tk gr se sr_11) → va_S A s.heap H locs → lv_has ls 7 [(0, .ref (ad 13)), (1, .int p1), (2, .int (f_X0_lengthAt ln p1)), (3, .int v3_11)] → W p l e rm_X1_takeUnfit s m args below meth c H locs 0 0 Q (F0 m 11 ls []) := by
    intro nn
    induction nn with
    | zero => intro _ _ hf; exact nomatch (show (none : Option _) = some r from hf)
    | succ n11 ih11 =>
      intro v3_11 sr_11 hf H locs ls hP hD hS hl
      rw [f_X1_takeUnfit_L11.eq_2] at hf
      refine lv_iload_n hx hb dX1_takeUnfit_11 rfl (lv_at hl 3 rfl) ?_
      refine lv_iload_n hx hb dX1_takeUnfit_12 rfl (lv_at hl 2 rfl) ?_
      refine lv_icmp_ge (tgt := 46) hx hb dX1_takeUnfit_13 (by decide) (fun c_13 => ?_) (fun c_13 => ?_)
      · have hf := ite_t c_13 hf
        exact w46 sr_11 hf _ _ _ hP hD hS (lv_sub hl [0, 1, 2] rfl)
      · have hf := ite_f c_13 hf
        refine lv_aload_n hx hb dX1_takeUnfit_16 rfl (lv_at hl 0 rfl) ?_
        refine va_get (D := D) (ci := 1) (v := .ref (ad 15)) (C := RX1) (T := TX1) (N := 5) hx hb hts hinX1 hown hK.1 hP 8 rfl rfl 2 (by decide) (hts (.fieldLink RX1 15 "Gridpuzzle$Solving" "setsOfRun" "[I") (by decide +kernel)) (fun _ h9 => h9) rfl dX1_takeUnfit_17 ?_
        refine lv_iload_n hx hb dX1_takeUnfit_20 rfl (lv_at hl 3 rfl) ?_
        refine lv_aload_n hx hb dX1_takeUnfit_21 rfl (lv_at hl 0 rfl) ?_
        refine va_get (D := D) (ci := 1) (v := .ref (ad 14)) (C := RX1) (T := TX1) (N := 5) hx hb hts hinX1 hown hK.1 hP 8 rfl rfl 1 (by decide) (hts (.fieldLink RX1 9 "Gridpuzzle$Solving" "sets" "[I") (by decide +kernel)) (fun _ h9 => h9) rfl dX1_takeUnfit_22 ?_
        refine lv_aload_n hx hb dX1_takeUnfit_25 rfl (lv_at hl 0 rfl) ?_
        refine va_get (D := D) (ci := 1) (v := .ref (ad 0)) (C := RX1) (T := TX1) (N := 5) hx hb hts hinX1 hown hK.1 hP 8 rfl rfl 0 (by decide) (hts (.fieldLink RX1 18 "Gridpuzzle$Solving" "board" "LGridpuzzle$Board;") (by decide +kernel)) (fun _ h9 => h9) rfl dX1_takeUnfit_26 ?_
        refine lv_iload_n hx hb dX1_takeUnfit_29 rfl (lv_at hl 1 rfl) ?_
        refine lv_iload_n hx hb dX1_takeUnfit_30 rfl (lv_at hl 3 rfl) ?_
        refine clV_i (As := [.int p1, .int v3_11]) (rest := [.ref (ad 14), .int v3_11, .ref (ad 15)]) (wS cI ad size rc g fs st ln su rr cr tk gr se sr_11) ⟨hx, hb, hml, hown, hts⟩ (K_X0_cellAt l D cI cZ ad H.size size rc g fs st ln su rr cr p1 v3_11 _ rfl) (cwV 2 hts gX1_takeUnfit_X0_cellAt rfl rfl rfl (by decide +kernel) ⟨Nat.le_of_ble_eq_true rfl, Nat.le_of_ble_eq_true rfl⟩) hK hP hD hS hA hl.1 [0, 1, 2, 3, 4, 5, 6, 7] (by decide) rfl rfl rfl 0 0 rfl rfl rfl rfl rfl (Nat.le_of_ble_eq_true rfl) dX1_takeUnfit_31 ⟨Nat.le_of_ble_eq_true rfl, Nat.le_of_ble_eq_true rfl⟩ (fun H locs hP hD hS => ?_)
        refine clN_i (As := [.ref (ad 14), .int (f_X0_cellAt fs st p1 v3_11)]) (rest := [.int v3_11, .ref (ad 15)]) (wS cI ad size rc g fs st ln su rr cr tk gr se sr_11) ⟨hx, hb, hml, hown, hts⟩ (K_X3_at l D cI cZ (ad 14) 16 (by decide) H.size se (f_X0_cellAt fs st p1 v3_11) _ rfl) ⟨va_cnB (host := RX3) 2 hts gX1_takeUnfit_X3_at_n54 rfl rfl rfl (hK.2 (RX1, 54, yX3_at) (by decide)) (hts (.initialized RX3) (by decide +kernel)) (by decide +kernel) ⟨Nat.le_of_ble_eq_true rfl, Nat.le_of_ble_eq_true rfl⟩, hts (.static yX3_at) (by decide +kernel), trivial⟩ hK hP hD hS hA hl.1 [9] (by decide) rfl rfl rfl rfl rfl (Nat.le_of_ble_eq_true rfl) dX1_takeUnfit_34 ⟨Nat.le_of_ble_eq_true rfl, Nat.le_of_ble_eq_true rfl⟩ (fun H locs hP hD hS => ?_)
        refine clN_v (As := [.ref (ad 15), .int v3_11, .int (f_X3_at 16 se (f_X0_cellAt fs st p1 v3_11))]) (rest := []) (wS cI ad size rc g fs st ln su rr cr tk gr se (f_X3_put 4 sr_11 v3_11 (f_X3_at 16 se (f_X0_cellAt fs st p1 v3_11)))) ⟨hx, hb, hml, hown, hts⟩ (K_X3_put l D cI cZ (ad 15) 4 (by decide) H.size sr_11 v3_11 (f_X3_at 16 se (f_X0_cellAt fs st p1 v3_11)) _ rfl) ⟨va_cnB (host := RX3) 3 hts gX1_takeUnfit_X3_put_n74 rfl rfl rfl (hK.2 (RX1, 74, yX3_put) (by decide)) (hts (.initialized RX3) (by decide +kernel)) (by decide +kernel) ⟨Nat.le_of_ble_eq_true rfl, Nat.le_of_ble_eq_true rfl⟩, hts (.static yX3_put) (by decide +kernel), trivial⟩ hK hP hD hS hA hl.1 [10] (by decide) rfl rfl rfl rfl rfl (Nat.le_of_ble_eq_true rfl) dX1_takeUnfit_37 ⟨Nat.le_of_ble_eq_true rfl, Nat.le_of_ble_eq_true rfl⟩ (fun H locs hP hD hS => ?_)
        refine lv_iinc (v := (v3_11 + 1)) (lv' := [(3, .int (v3_11 + 1)), (0, .ref (ad 13)), (1, .int p1), (2, .int (f_X0_lengthAt ln p1))]) hx hb dX1_takeUnfit_40 hl (k := 3) rfl rfl (by decide) rfl (fun ls hl => ?_)
        refine lv_goto (tgt := 11) hx hb dX1_takeUnfit_43 (by decide) ?_
        exact ih11 (v3_11 + 1) (f_X3_put 4 sr_11 v3_11 (f_X3_at 16 se (f_X0_cellAt fs st p1 v3_11))) hf _ _ _ hP hD hS (lv_sub hl [1, 2, 3, 0] rfl)
  exact l11 N 0 sr hf _ _ _ hP hD hS (lv_sub hl [2, 3, 1, 0] rfl)
def rm_X1_goThrough : Room := { frames := 8, cells := 0, slots := 0, locals := 532 }
set_option maxRecDepth 100000 in
set_option maxHeartbeats 8000000 in
theorem K_X1_goThrough (l : Launch) (D : va_G) (cI cZ : ClassId) (ad : Nat → Nat) (sz : Nat) (N : Nat) (size rc : Int32) (g fs st ln su rr cr : Nat → Int32) (tk gr : Int32) (se sr : Nat → Int32) (p1 : Int32) (r : (Int32 × (Nat → Int32) × (Nat → Int32))) (hf : f_X1_goThrough N rc fs st ln su tk se sr p1 = some r) : Met l yX1_goThrough wsX1_goThrough rm_X1_goThrough (PC D cI cZ sz [.ref (ad 13), .int p1] (wS cI ad size rc g fs st ln su rr cr tk gr se sr)) (QV D cI cZ sz (wS cI ad size rc g fs st ln su rr cr tk gr se sr) (wS cI ad size rc g fs st ln su rr cr r.1 gr r.2.1 r.2.2)) 0 0 (va_A (wS cI ad size rc g fs st ln su rr cr tk gr se sr) sz) := by
  refine mk_v (cc := cX1_goThrough) (maxL := 4) (lv0 := [(0, .ref (ad 13)), (1, .int p1)]) (by decide) rfl (Nat.le_of_ble_eq_true rfl) rfl ?_
  intro p e s m args below meth c ls A Q H hx hb hml hown hts hK hP hD hA hS hl hR
  have hinX1 : ∀ w ∈ wsX10, w ∈ wsX1_goThrough := by decide +kernel
  rw [f_X1_goThrough] at hf
  refine lv_aload_n hx hb dX1_goThrough_0 rfl (lv_at hl 0 rfl) ?_
  refine lv_iconst (v := 0) hx hb dX1_goThrough_1 (by decide) ?_
  refine va_put (D := D) (ci := 1) (v := .int 0) (ty := .boolean) (C := RX1) (T := TX1) (N := 5) hx hb hts hinX1 tyX1 tyX1_ok nmX1 hown hK.1 hP hD hS 8 rfl rfl 3 (by decide) (hts (.fieldLink RX1 29 "Gridpuzzle$Solving" "tookAway" "Z") (by decide +kernel)) (fun _ h9 => h9) rfl (by decide +kernel) rfl rfl (Nat.le_of_ble_eq_true rfl) dX1_goThrough_2 (fun H locs hP hD hS => ?_)
  have hP : va_P D vwCl (wS cI ad size rc g fs st ln su rr cr 0 gr se sr) H := hP
  have hD : va_D A (wS cI ad size rc g fs st ln su rr cr 0 gr se sr) := hD
  refine lv_aload_n hx hb dX1_goThrough_5 rfl (lv_at hl 0 rfl) ?_
  refine va_get (D := D) (ci := 1) (v := .ref (ad 0)) (C := RX1) (T := TX1) (N := 5) hx hb hts hinX1 hown hK.1 hP 8 rfl rfl 0 (by decide) (hts (.fieldLink RX1 18 "Gridpuzzle$Solving" "board" "LGridpuzzle$Board;") (by decide +kernel)) (fun _ h9 => h9) rfl dX1_goThrough_6 ?_
  refine clV_i (As := []) (rest := []) (wS cI ad size rc g fs st ln su rr cr 0 gr se sr) ⟨hx, hb, hml, hown, hts⟩ (K_X0_countRuns l D cI cZ ad H.size size rc g fs st ln su rr cr _ rfl) (cwV 0 hts gX1_goThrough_X0_countRuns rfl rfl rfl (by decide +kernel) ⟨Nat.le_of_ble_eq_true rfl, Nat.le_of_ble_eq_true rfl⟩) hK hP hD hS hA hl.1 [0, 1, 2, 3, 4, 5, 6, 7] (by decide) rfl rfl rfl 0 0 rfl rfl rfl rfl rfl (Nat.le_of_ble_eq_true rfl) dX1_goThrough_9 ⟨Nat.le_of_ble_eq_true rfl, Nat.le_of_ble_eq_true rfl⟩ (fun H locs hP hD hS => ?_)
  refine lv_istore_n (lv' := [(2, .int (f_X0_countRuns rc)), (0, .ref (ad 13)), (1, .int p1)]) hx hb dX1_goThrough_12 rfl hl (by decide) rfl (fun ls hl => ?_)
  refine lv_iconst (v := 0) hx hb dX1_goThrough_13 (by decide) ?_
  refine lv_istore_n (lv' := [(3, .int 0), (2, .int (f_X0_countRuns rc)), (0, .ref (ad 13)), (1, .int p1)]) hx hb dX1_goThrough_14 rfl hl (by decide) rfl (fun ls hl => ?_)
  have l15 : ∀ (nn : Nat) (v3_15 : Int32) (tk_15 : Int32) (se_15 : Nat → Int32) (sr_15 : Nat → Int32), f_X1_goThrough_L15 N p1 (f_X0_countRuns rc) fs st ln su nn v3_15 tk_15 se_15 sr_15 = some r → ∀ (H : Heap) (locs : List Loc) (ls : Array Slot), va_P D vwCl (wS cI ad size rc g fs st ln su rr cr tk_15 gr se_15 sr_15) H → va_D A (wS cI ad size rc g fs st ln su rr cr tk_15 gr se_15 sr_15) → va_S A s.heap H locs → lv_has ls 4 [(0, .ref (ad 13)), (1, .int p1), (2, .int (f_X0_countRuns rc)), (3, .int v3_15)] → W p l e rm_X1_goThrough s m args below meth c H locs 0 0 Q (F0 m 15 ls []) := by
    intro nn
    induction nn with
    | zero => intro _ _ _ _ hf; exact nomatch (show (none : Option _) = some r from hf)
    | succ n15 ih15 =>
      intro v3_15 tk_15 se_15 sr_15 hf H locs ls hP hD hS hl
      rw [f_X1_goThrough_L15.eq_2] at hf
      refine lv_iload_n hx hb dX1_goThrough_15 rfl (lv_at hl 3 rfl) ?_
      refine lv_iload_n hx hb dX1_goThrough_16 rfl (lv_at hl 2 rfl) ?_
      refine lv_icmp_ge (tgt := 68) hx hb dX1_goThrough_17 (by decide) (fun c_17 => ?_) (fun c_17 => ?_)
      · have hf := ite_t c_17 hf
        cases hf
        exact hR _ _ _ _ _ rfl hP hD hS dX1_goThrough_68
      · have hf := ite_f c_17 hf
        refine lv_iload_n hx hb dX1_goThrough_20 rfl (lv_at hl 1 rfl) ?_
        refine lv_iconst (v := 1) hx hb dX1_goThrough_21 (by decide) ?_
        obtain ⟨k62, hk62, hf⟩ := jn_some hf
        have w62 : ∀ (tk_62 : Int32) (se_62 : Nat → Int32) (sr_62 : Nat → Int32), k62 tk_62 se_62 sr_62 = some r → ∀ (H : Heap) (locs : List Loc) (ls : Array Slot), va_P D vwCl (wS cI ad size rc g fs st ln su rr cr tk_62 gr se_62 sr_62) H → va_D A (wS cI ad size rc g fs st ln su rr cr tk_62 gr se_62 sr_62) → va_S A s.heap H locs → lv_has ls 4 [(0, .ref (ad 13)), (1, .int p1), (2, .int (f_X0_countRuns rc)), (3, .int v3_15)] → W p l e rm_X1_goThrough s m args below meth c H locs 0 0 Q (F0 m 62 ls []) := by
          intro tk_62 se_62 sr_62 hf H locs ls hP hD hS hl
          rw [hk62] at hf
          try dsimp only at hf
          refine lv_iinc (v := (v3_15 + 1)) (lv' := [(3, .int (v3_15 + 1)), (0, .ref (ad 13)), (1, .int p1), (2, .int (f_X0_countRuns rc))]) hx hb dX1_goThrough_62 hl (k := 3) rfl rfl (by decide) rfl (fun ls hl => ?_)
          refine lv_goto (tgt := 15) hx hb dX1_goThrough_65 (by decide) ?_
          exact ih15 (v3_15 + 1) tk_62 se_62 sr_62 hf _ _ _ hP hD hS (lv_sub hl [1, 2, 3, 0] rfl)
        refine lv_icmp_ne (tgt := 33) hx hb dX1_goThrough_22 (by decide) (fun c_22 => ?_) (fun c_22 => ?_)
        · have hf := ite_f c_22 hf
          refine lv_aload_n hx hb dX1_goThrough_33 rfl (lv_at hl 0 rfl) ?_
          refine va_get (D := D) (ci := 1) (v := .ref (ad 0)) (C := RX1) (T := TX1) (N := 5) hx hb hts hinX1 hown hK.1 hP 8 rfl rfl 0 (by decide) (hts (.fieldLink RX1 18 "Gridpuzzle$Solving" "board" "LGridpuzzle$Board;") (by decide +kernel)) (fun _ h9 => h9) rfl dX1_goThrough_34 ?_
          refine lv_iload_n hx hb dX1_goThrough_37 rfl (lv_at hl 3 rfl) ?_
          refine clV_i (As := [.int v3_15]) (rest := []) (wS cI ad size rc g fs st ln su rr cr tk_15 gr se_15 sr_15) ⟨hx, hb, hml, hown, hts⟩ (K_X0_sumAt l D cI cZ ad H.size size rc g fs st ln su rr cr v3_15 _ rfl) (cwV 1 hts gX1_goThrough_X0_sumAt rfl rfl rfl (by decide +kernel) ⟨Nat.le_of_ble_eq_true rfl, Nat.le_of_ble_eq_true rfl⟩) hK hP hD hS hA hl.1 [0, 1, 2, 3, 4, 5, 6, 7] (by decide) rfl rfl rfl 0 0 rfl rfl rfl rfl rfl (Nat.le_of_ble_eq_true rfl) dX1_goThrough_38 ⟨Nat.le_of_ble_eq_true rfl, Nat.le_of_ble_eq_true rfl⟩ (fun H locs hP hD hS => ?_)
          refine lv_if_eq (tgt := 62) hx hb dX1_goThrough_41 (by decide) (fun c_41 => ?_) (fun c_41 => ?_)
          · have hf := ite_t c_41 hf
            exact w62 tk_15 se_15 sr_15 hf _ _ _ hP hD hS (lv_sub hl [0, 1, 2, 3] rfl)
          · have hf := ite_f c_41 hf
            refine lv_iload_n hx hb dX1_goThrough_44 rfl (lv_at hl 1 rfl) ?_
            refine lv_iconst (v := 2) hx hb dX1_goThrough_45 (by decide) ?_
            refine lv_icmp_ne (tgt := 57) hx hb dX1_goThrough_46 (by decide) (fun c_46 => ?_) (fun c_46 => ?_)
            · have hf := ite_f c_46 hf
              refine lv_aload_n hx hb dX1_goThrough_57 rfl (lv_at hl 0 rfl) ?_
              refine lv_iload_n hx hb dX1_goThrough_58 rfl (lv_at hl 3 rfl) ?_
              obtain ⟨x59, hy59, hf⟩ := Option.bind_eq_some_iff.mp hf
              refine clV_v (As := [.int v3_15]) (rest := []) (wS cI ad size rc g fs st ln su rr cr x59.1 gr x59.2.1 x59.2.2) ⟨hx, hb, hml, hown, hts⟩ (K_X1_takeUnfit l D cI cZ ad H.size N size rc g fs st ln su rr cr tk_15 gr se_15 sr_15 v3_15 _ hy59) (cwV 1 hts gX1_goThrough_X1_takeUnfit rfl rfl rfl (by decide +kernel) ⟨Nat.le_of_ble_eq_true rfl, Nat.le_of_ble_eq_true rfl⟩) hK hP hD hS hA hl.1 [0, 1, 2, 3, 4, 5, 6, 7, 8, 9, 10] (by decide) rfl rfl rfl 1 8 rfl rfl rfl rfl rfl (Nat.le_of_ble_eq_true rfl) dX1_goThrough_59 ⟨Nat.le_of_ble_eq_true rfl, Nat.le_of_ble_eq_true rfl⟩ (fun H locs hP hD hS => ?_)
              exact w62 x59.1 x59.2.1 x59.2.2 hf _ _ _ hP hD hS (lv_sub hl [0, 1, 2, 3] rfl)
            · have hf := ite_t c_46 hf
              refine lv_aload_n hx hb dX1_goThrough_49 rfl (lv_at hl 0 rfl) ?_
              refine lv_iload_n hx hb dX1_goThrough_50 rfl (lv_at hl 3 rfl) ?_
              obtain ⟨x51, hy51, hf⟩ := Option.bind_eq_some_iff.mp hf
              refine clV_v (As := [.int v3_15]) (rest := []) (wS cI ad size rc g fs st ln su rr cr x51.1 gr x51.2 sr_15) ⟨hx, hb, hml, hown, hts⟩ (K_X1_takeOutsideSets l D cI cZ ad H.size N size rc g fs st ln su rr cr tk_15 gr se_15 sr_15 v3_15 _ hy51) (cwV 1 hts gX1_goThrough_X1_takeOutsideSets rfl rfl rfl (by decide +kernel) ⟨Nat.le_of_ble_eq_true rfl, Nat.le_of_ble_eq_true rfl⟩) hK hP hD hS hA hl.1 [0, 1, 2, 3, 4, 5, 6, 7, 8, 9, 10] (by decide) rfl rfl rfl 1 8 rfl rfl rfl rfl rfl (Nat.le_of_ble_eq_true rfl) dX1_goThrough_51 ⟨Nat.le_of_ble_eq_true rfl, Nat.le_of_ble_eq_true rfl⟩ (fun H locs hP hD hS => ?_)
              refine lv_goto (tgt := 62) hx hb dX1_goThrough_54 (by decide) ?_
              exact w62 x51.1 x51.2 sr_15 hf _ _ _ hP hD hS (lv_sub hl [0, 1, 2, 3] rfl)
        · have hf := ite_t c_22 hf
          refine lv_aload_n hx hb dX1_goThrough_25 rfl (lv_at hl 0 rfl) ?_
          refine lv_iload_n hx hb dX1_goThrough_26 rfl (lv_at hl 3 rfl) ?_
          obtain ⟨x27, hy27, hf⟩ := Option.bind_eq_some_iff.mp hf
          refine clV_v (As := [.int v3_15]) (rest := []) (wS cI ad size rc g fs st ln su rr cr x27.1 gr x27.2 sr_15) ⟨hx, hb, hml, hown, hts⟩ (K_X1_takeSingles l D cI cZ ad H.size N size rc g fs st ln su rr cr tk_15 gr se_15 sr_15 v3_15 _ hy27) (cwV 1 hts gX1_goThrough_X1_takeSingles rfl rfl rfl (by decide +kernel) ⟨Nat.le_of_ble_eq_true rfl, Nat.le_of_ble_eq_true rfl⟩) hK hP hD hS hA hl.1 [0, 1, 2, 3, 4, 5, 6, 7, 8, 9, 10] (by decide) rfl rfl rfl 1 8 rfl rfl rfl rfl rfl (Nat.le_of_ble_eq_true rfl) dX1_goThrough_27 ⟨Nat.le_of_ble_eq_true rfl, Nat.le_of_ble_eq_true rfl⟩ (fun H locs hP hD hS => ?_)
          refine lv_goto (tgt := 62) hx hb dX1_goThrough_30 (by decide) ?_
          exact w62 x27.1 x27.2 sr_15 hf _ _ _ hP hD hS (lv_sub hl [0, 1, 2, 3] rfl)
  exact l15 N 0 0 se sr hf _ _ _ hP hD hS (lv_sub hl [2, 3, 1, 0] rfl)
def rm_X1_hasEmptyCell : Room := { frames := 2, cells := 0, slots := 0, locals := 42 }
set_option maxRecDepth 100000 in
set_option maxHeartbeats 8000000 in
theorem K_X1_hasEmptyCell (l : Launch) (D : va_G) (cI cZ : ClassId) (ad : Nat → Nat) (sz : Nat) (N : Nat) (size rc : Int32) (g fs st ln su rr cr : Nat → Int32) (tk gr : Int32) (se sr : Nat → Int32) (r : (Int32)) (hf : f_X1_hasEmptyCell N size g se = some r) : Met l yX1_hasEmptyCell wsX1_hasEmptyCell rm_X1_hasEmptyCell (PC D cI cZ sz [.ref (ad 13)] (wS cI ad size rc g fs st ln su rr cr tk gr se sr)) (QI D cI cZ sz (wS cI ad size rc g fs st ln su rr cr tk gr se sr) r (wS cI ad size rc g fs st ln su rr cr tk gr se sr)) 0 0 (va_A (wS cI ad size rc g fs st ln su rr cr tk gr se sr) sz) := by
  refine mk_z (cc := cX1_hasEmptyCell) (maxL := 2) (lv0 := [(0, .ref (ad 13))]) (by decide) rfl (Nat.le_of_ble_eq_true rfl) rfl ?_
  intro p e s m args below meth c ls A Q H hx hb hml hown hts hK hP hD hA hS hl hR
  have hinX1 : ∀ w ∈ wsX10, w ∈ wsX1_hasEmptyCell := by decide +kernel
  rw [f_X1_hasEmptyCell] at hf
  refine lv_iconst (v := 0) hx hb dX1_hasEmptyCell_0 (by decide) ?_
  refine lv_istore_n (lv' := [(1, .int 0), (0, .ref (ad 13))]) hx hb dX1_hasEmptyCell_1 rfl hl (by decide) rfl (fun ls hl => ?_)
  have l2 : ∀ (nn : Nat) (v1_2 : Int32), f_X1_hasEmptyCell_L2 size g se nn v1_2 = some r → ∀ (H : Heap) (locs : List Loc) (ls : Array Slot), va_P D vwCl (wS cI ad size rc g fs st ln su rr cr tk gr se sr) H → va_D A (wS cI ad size rc g fs st ln su rr cr tk gr se sr) → va_S A s.heap H locs → lv_has ls 2 [(0, .ref (ad 13)), (1, .int v1_2)] → W p l e rm_X1_hasEmptyCell s m args below meth c H locs 0 0 Q (F0 m 2 ls []) := by
    intro nn
    induction nn with
    | zero => intro _ hf; exact nomatch (show (none : Option _) = some r from hf)
    | succ n2 ih2 =>
      intro v1_2 hf H locs ls hP hD hS hl
      rw [f_X1_hasEmptyCell_L2.eq_2] at hf
      refine lv_iload_n hx hb dX1_hasEmptyCell_2 rfl (lv_at hl 1 rfl) ?_
      refine lv_bipush (v := 16) hx hb dX1_hasEmptyCell_3 (by decide) ?_
      refine lv_icmp_ge (tgt := 38) hx hb dX1_hasEmptyCell_5 (by decide) (fun c_5 => ?_) (fun c_5 => ?_)
      · have hf := ite_t c_5 hf
        refine lv_iconst (v := 0) hx hb dX1_hasEmptyCell_38 (by decide) ?_
        cases hf
        exact hR _ _ _ _ _ _ (by decide) rfl rfl hP hD hS dX1_hasEmptyCell_39
      · have hf := ite_f c_5 hf
        refine lv_aload_n hx hb dX1_hasEmptyCell_8 rfl (lv_at hl 0 rfl) ?_
        refine va_get (D := D) (ci := 1) (v := .ref (ad 0)) (C := RX1) (T := TX1) (N := 5) hx hb hts hinX1 hown hK.1 hP 8 rfl rfl 0 (by decide) (hts (.fieldLink RX1 18 "Gridpuzzle$Solving" "board" "LGridpuzzle$Board;") (by decide +kernel)) (fun _ h9 => h9) rfl dX1_hasEmptyCell_9 ?_
        refine lv_iload_n hx hb dX1_hasEmptyCell_12 rfl (lv_at hl 1 rfl) ?_
        refine clV_i (As := [.int v1_2]) (rest := []) (wS cI ad size rc g fs st ln su rr cr tk gr se sr) ⟨hx, hb, hml, hown, hts⟩ (K_X0_isOpen l D cI cZ ad H.size size rc g fs st ln su rr cr v1_2 _ rfl) (cwV 1 hts gX1_hasEmptyCell_X0_isOpen rfl rfl rfl (by decide +kernel) ⟨Nat.le_of_ble_eq_true rfl, Nat.le_of_ble_eq_true rfl⟩) hK hP hD hS hA hl.1 [0, 1, 2, 3, 4, 5, 6, 7] (by decide) rfl rfl rfl 0 0 rfl rfl rfl rfl rfl (Nat.le_of_ble_eq_true rfl) dX1_hasEmptyCell_13 ⟨Nat.le_of_ble_eq_true rfl, Nat.le_of_ble_eq_true rfl⟩ (fun H locs hP hD hS => ?_)
        obtain ⟨k32, hk32, hf⟩ := jn_some hf
        have w32 : ∀ (_ : Unit), k32 () = some r → ∀ (H : Heap) (locs : List Loc) (ls : Array Slot), va_P D vwCl (wS cI ad size rc g fs st ln su rr cr tk gr se sr) H → va_D A (wS cI ad size rc g fs st ln su rr cr tk gr se sr) → va_S A s.heap H locs → lv_has ls 2 [(0, .ref (ad 13)), (1, .int v1_2)] → W p l e rm_X1_hasEmptyCell s m args below meth c H locs 0 0 Q (F0 m 32 ls []) := by
          intro _ hf H locs ls hP hD hS hl
          rw [hk32] at hf
          try dsimp only at hf
          refine lv_iinc (v := (v1_2 + 1)) (lv' := [(1, .int (v1_2 + 1)), (0, .ref (ad 13))]) hx hb dX1_hasEmptyCell_32 hl (k := 1) rfl rfl (by decide) rfl (fun ls hl => ?_)
          refine lv_goto (tgt := 2) hx hb dX1_hasEmptyCell_35 (by decide) ?_
          exact ih2 (v1_2 + 1) hf _ _ _ hP hD hS (lv_sub hl [1, 0] rfl)
        refine lv_if_eq (tgt := 32) hx hb dX1_hasEmptyCell_16 (by decide) (fun c_16 => ?_) (fun c_16 => ?_)
        · have hf := ite_t c_16 hf
          exact w32 () hf _ _ _ hP hD hS (lv_sub hl [0, 1] rfl)
        · have hf := ite_f c_16 hf
          refine lv_aload_n hx hb dX1_hasEmptyCell_19 rfl (lv_at hl 0 rfl) ?_
          refine va_get (D := D) (ci := 1) (v := .ref (ad 14)) (C := RX1) (T := TX1) (N := 5) hx hb hts hinX1 hown hK.1 hP 8 rfl rfl 1 (by decide) (hts (.fieldLink RX1 9 "Gridpuzzle$Solving" "sets" "[I") (by decide +kernel)) (fun _ h9 => h9) rfl dX1_hasEmptyCell_20 ?_
          refine lv_iload_n hx hb dX1_hasEmptyCell_23 rfl (lv_at hl 1 rfl) ?_
          refine clN_i (As := [.ref (ad 14), .int v1_2]) (rest := []) (wS cI ad size rc g fs st ln su rr cr tk gr se sr) ⟨hx, hb, hml, hown, hts⟩ (K_X3_at l D cI cZ (ad 14) 16 (by decide) H.size se v1_2 _ rfl) ⟨va_cnB (host := RX3) 2 hts gX1_hasEmptyCell_X3_at_n54 rfl rfl rfl (hK.2 (RX1, 54, yX3_at) (by decide)) (hts (.initialized RX3) (by decide +kernel)) (by decide +kernel) ⟨Nat.le_of_ble_eq_true rfl, Nat.le_of_ble_eq_true rfl⟩, hts (.static yX3_at) (by decide +kernel), trivial⟩ hK hP hD hS hA hl.1 [9] (by decide) rfl rfl rfl rfl rfl (Nat.le_of_ble_eq_true rfl) dX1_hasEmptyCell_24 ⟨Nat.le_of_ble_eq_true rfl, Nat.le_of_ble_eq_true rfl⟩ (fun H locs hP hD hS => ?_)
          refine lv_if_ne (tgt := 32) hx hb dX1_hasEmptyCell_27 (by decide) (fun c_27 => ?_) (fun c_27 => ?_)
          · have hf := ite_f c_27 hf
            exact w32 () hf _ _ _ hP hD hS (lv_sub hl [0, 1] rfl)
          · have hf := ite_t c_27 hf
            refine lv_iconst (v := 1) hx hb dX1_hasEmptyCell_30 (by decide) ?_
            cases hf
            exact hR _ _ _ _ _ _ (by decide) rfl rfl hP hD hS dX1_hasEmptyCell_31
  exact l2 N 0 hf _ _ _ hP hD hS (lv_sub hl [1, 0] rfl)
def rm_X1_solve : Room := { frames := 9, cells := 0, slots := 0, locals := 555 }
set_option maxRecDepth 100000 in
set_option maxHeartbeats 8000000 in
theorem K_X1_solve (l : Launch) (D : va_G) (cI cZ : ClassId) (ad : Nat → Nat) (sz : Nat) (N : Nat) (size rc : Int32) (g fs st ln su rr cr : Nat → Int32) (tk gr : Int32) (se sr : Nat → Int32) (p1 : Int32) (r : (Int32 × Int32 × (Nat → Int32) × (Nat → Int32))) (hf : f_X1_solve N size rc g fs st ln su tk gr se sr p1 = some r) : Met l yX1_solve wsX1_solve rm_X1_solve (PC D cI cZ sz [.ref (ad 13), .int p1] (wS cI ad size rc g fs st ln su rr cr tk gr se sr)) (QV D cI cZ sz (wS cI ad size rc g fs st ln su rr cr tk gr se sr) (wS cI ad size rc g fs st ln su rr cr r.1 r.2.1 r.2.2.1 r.2.2.2)) 0 0 (va_A (wS cI ad size rc g fs st ln su rr cr tk gr se sr) sz) := by
  refine mk_v (cc := cX1_solve) (maxL := 4) (lv0 := [(0, .ref (ad 13)), (1, .int p1)]) (by decide) rfl (Nat.le_of_ble_eq_true rfl) rfl ?_
  intro p e s m args below meth c ls A Q H hx hb hml hown hts hK hP hD hA hS hl hR
  have hinX1 : ∀ w ∈ wsX10, w ∈ wsX1_solve := by decide +kernel
  rw [f_X1_solve] at hf
  refine lv_aload_n hx hb dX1_solve_0 rfl (lv_at hl 0 rfl) ?_
  obtain ⟨x1, hy1, hf⟩ := Option.bind_eq_some_iff.mp hf
  refine clV_v (As := []) (rest := []) (wS cI ad size rc g fs st ln su rr cr tk x1.1 x1.2 sr) ⟨hx, hb, hml, hown, hts⟩ (K_X1_start l D cI cZ ad H.size N size rc g fs st ln su rr cr tk gr se sr _ hy1) (cwV 0 hts gX1_solve_X1_start rfl rfl rfl (by decide +kernel) ⟨Nat.le_of_ble_eq_true rfl, Nat.le_of_ble_eq_true rfl⟩) hK hP hD hS hA hl.1 [0, 1, 2, 3, 4, 5, 6, 7, 8, 9, 10] (by decide) rfl rfl rfl 1 8 rfl rfl rfl rfl rfl (Nat.le_of_ble_eq_true rfl) dX1_solve_1 ⟨Nat.le_of_ble_eq_true rfl, Nat.le_of_ble_eq_true rfl⟩ (fun H locs hP hD hS => ?_)
  refine lv_iconst (v := 1) hx hb dX1_solve_4 (by decide) ?_
  refine lv_istore_n (lv' := [(2, .int 1), (0, .ref (ad 13)), (1, .int p1)]) hx hb dX1_solve_5 rfl hl (by decide) rfl (fun ls hl => ?_)
  refine lv_iconst (v := 0) hx hb dX1_solve_6 (by decide) ?_
  refine lv_istore_n (lv' := [(3, .int 0), (2, .int 1), (0, .ref (ad 13)), (1, .int p1)]) hx hb dX1_solve_7 rfl hl (by decide) rfl (fun ls hl => ?_)
  have l8 : ∀ (nn : Nat) (v2_8 : Int32) (v3_8 : Int32) (tk_8 : Int32) (gr_8 : Int32) (se_8 : Nat → Int32) (sr_8 : Nat → Int32), f_X1_solve_L8 N p1 size rc g fs st ln su nn v2_8 v3_8 tk_8 gr_8 se_8 sr_8 = some r → ∀ (H : Heap) (locs : List Loc) (ls : Array Slot), va_P D vwCl (wS cI ad size rc g fs st ln su rr cr tk_8 gr_8 se_8 sr_8) H → va_D A (wS cI ad size rc g fs st ln su rr cr tk_8 gr_8 se_8 sr_8) → va_S A s.heap H locs → lv_has ls 4 [(0, .ref (ad 13)), (1, .int p1), (2, .int v2_8), (3, .int v3_8)] → W p l e rm_X1_solve s m args below meth c H locs 0 0 Q (F0 m 8 ls []) := by
    intro nn
    induction nn with
    | zero => intro _ _ _ _ _ _ hf; exact nomatch (show (none : Option _) = some r from hf)
    | succ n8 ih8 =>
      intro v2_8 v3_8 tk_8 gr_8 se_8 sr_8 hf H locs ls hP hD hS hl
      rw [f_X1_solve_L8.eq_2] at hf
      refine lv_iload_n hx hb dX1_solve_8 rfl (lv_at hl 3 rfl) ?_
      refine lv_sipush (v := 1000) hx hb dX1_solve_9 (by decide) ?_
      refine lv_icmp_ge (tgt := 73) hx hb dX1_solve_12 (by decide) (fun c_12 => ?_) (fun c_12 => ?_)
      · have hf := ite_t c_12 hf
        cases hf
        exact hR _ _ _ _ _ rfl hP hD hS dX1_solve_73
      · have hf := ite_f c_12 hf
        refine lv_iload_n hx hb dX1_solve_15 rfl (lv_at hl 2 rfl) ?_
        refine lv_iload_n hx hb dX1_solve_16 rfl (lv_at hl 1 rfl) ?_
        refine lv_icmp_gt (tgt := 73) hx hb dX1_solve_17 (by decide) (fun c_17 => ?_) (fun c_17 => ?_)
        · have hf := ite_t c_17 hf
          cases hf
          exact hR _ _ _ _ _ rfl hP hD hS dX1_solve_73
        · have hf := ite_f c_17 hf
          refine lv_aload_n hx hb dX1_solve_20 rfl (lv_at hl 0 rfl) ?_
          refine lv_iload_n hx hb dX1_solve_21 rfl (lv_at hl 2 rfl) ?_
          obtain ⟨x22, hy22, hf⟩ := Option.bind_eq_some_iff.mp hf
          refine clV_v (As := [.int v2_8]) (rest := []) (wS cI ad size rc g fs st ln su rr cr x22.1 gr_8 x22.2.1 x22.2.2) ⟨hx, hb, hml, hown, hts⟩ (K_X1_goThrough l D cI cZ ad H.size N size rc g fs st ln su rr cr tk_8 gr_8 se_8 sr_8 v2_8 _ hy22) (cwV 1 hts gX1_solve_X1_goThrough rfl rfl rfl (by decide +kernel) ⟨Nat.le_of_ble_eq_true rfl, Nat.le_of_ble_eq_true rfl⟩) hK hP hD hS hA hl.1 [0, 1, 2, 3, 4, 5, 6, 7, 8, 9, 10] (by decide) rfl rfl rfl 1 8 rfl rfl rfl rfl rfl (Nat.le_of_ble_eq_true rfl) dX1_solve_22 ⟨Nat.le_of_ble_eq_true rfl, Nat.le_of_ble_eq_true rfl⟩ (fun H locs hP hD hS => ?_)
          refine lv_aload_n hx hb dX1_solve_25 rfl (lv_at hl 0 rfl) ?_
          refine va_get (D := D) (ci := 1) (v := .int x22.1) (C := RX1) (T := TX1) (N := 5) hx hb hts hinX1 hown hK.1 hP 8 rfl rfl 3 (by decide) (hts (.fieldLink RX1 29 "Gridpuzzle$Solving" "tookAway" "Z") (by decide +kernel)) (fun _ h9 => h9) rfl dX1_solve_26 ?_
          obtain ⟨k44, hk44, hf⟩ := jn_some hf
          have w44 : ∀ (gr_44 : Int32), k44 gr_44 = some r → ∀ (H : Heap) (locs : List Loc) (ls : Array Slot), va_P D vwCl (wS cI ad size rc g fs st ln su rr cr x22.1 gr_44 x22.2.1 x22.2.2) H → va_D A (wS cI ad size rc g fs st ln su rr cr x22.1 gr_44 x22.2.1 x22.2.2) → va_S A s.heap H locs → lv_has ls 4 [(0, .ref (ad 13)), (1, .int p1), (2, .int v2_8), (3, .int v3_8)] → W p l e rm_X1_solve s m args below meth c H locs 0 0 Q (F0 m 44 ls []) := by
            intro gr_44 hf H locs ls hP hD hS hl
            rw [hk44] at hf
            try dsimp only at hf
            refine lv_aload_n hx hb dX1_solve_44 rfl (lv_at hl 0 rfl) ?_
            obtain ⟨x45, hy45, hf⟩ := Option.bind_eq_some_iff.mp hf
            refine clV_i (As := []) (rest := []) (wS cI ad size rc g fs st ln su rr cr x22.1 gr_44 x22.2.1 x22.2.2) ⟨hx, hb, hml, hown, hts⟩ (K_X1_hasEmptyCell l D cI cZ ad H.size N size rc g fs st ln su rr cr x22.1 gr_44 x22.2.1 x22.2.2 _ hy45) (cwV 0 hts gX1_solve_X1_hasEmptyCell rfl rfl rfl (by decide +kernel) ⟨Nat.le_of_ble_eq_true rfl, Nat.le_of_ble_eq_true rfl⟩) hK hP hD hS hA hl.1 [0, 1, 2, 3, 4, 5, 6, 7, 8, 9, 10] (by decide) rfl rfl rfl 1 8 rfl rfl rfl rfl rfl (Nat.le_of_ble_eq_true rfl) dX1_solve_45 ⟨Nat.le_of_ble_eq_true rfl, Nat.le_of_ble_eq_true rfl⟩ (fun H locs hP hD hS => ?_)
            refine lv_if_eq (tgt := 52) hx hb dX1_solve_48 (by decide) (fun c_48 => ?_) (fun c_48 => ?_)
            · have hf := ite_t c_48 hf
              refine lv_aload_n hx hb dX1_solve_52 rfl (lv_at hl 0 rfl) ?_
              refine va_get (D := D) (ci := 1) (v := .int x22.1) (C := RX1) (T := TX1) (N := 5) hx hb hts hinX1 hown hK.1 hP 8 rfl rfl 3 (by decide) (hts (.fieldLink RX1 29 "Gridpuzzle$Solving" "tookAway" "Z") (by decide +kernel)) (fun _ h9 => h9) rfl dX1_solve_53 ?_
              obtain ⟨k66, hk66, hf⟩ := jn_some hf
              have w66 : ∀ (t0_66 : Int32), k66 t0_66 = some r → ∀ (H : Heap) (locs : List Loc) (ls : Array Slot), va_P D vwCl (wS cI ad size rc g fs st ln su rr cr x22.1 gr_44 x22.2.1 x22.2.2) H → va_D A (wS cI ad size rc g fs st ln su rr cr x22.1 gr_44 x22.2.1 x22.2.2) → va_S A s.heap H locs → lv_has ls 4 [(0, .ref (ad 13)), (1, .int p1), (3, .int v3_8)] → W p l e rm_X1_solve s m args below meth c H locs 0 0 Q (F0 m 66 ls [.int t0_66]) := by
                intro t0_66 hf H locs ls hP hD hS hl
                rw [hk66] at hf
                try dsimp only at hf
                refine lv_istore_n (lv' := [(2, .int t0_66), (0, .ref (ad 13)), (1, .int p1), (3, .int v3_8)]) hx hb dX1_solve_66 rfl hl (by decide) rfl (fun ls hl => ?_)
                refine lv_iinc (v := (v3_8 + 1)) (lv' := [(3, .int (v3_8 + 1)), (2, .int t0_66), (0, .ref (ad 13)), (1, .int p1)]) hx hb dX1_solve_67 hl (k := 3) rfl rfl (by decide) rfl (fun ls hl => ?_)
                refine lv_goto (tgt := 8) hx hb dX1_solve_70 (by decide) ?_
                exact ih8 t0_66 (v3_8 + 1) x22.1 gr_44 x22.2.1 x22.2.2 hf _ _ _ hP hD hS (lv_sub hl [2, 3, 1, 0] rfl)
              refine lv_if_eq (tgt := 63) hx hb dX1_solve_56 (by decide) (fun c_56 => ?_) (fun c_56 => ?_)
              · have hf := ite_t c_56 hf
                refine lv_iload_n hx hb dX1_solve_63 rfl (lv_at hl 2 rfl) ?_
                refine lv_iconst (v := 1) hx hb dX1_solve_64 (by decide) ?_
                refine lv_iadd hx hb dX1_solve_65 ?_
                exact w66 (v2_8 + 1) hf _ _ _ hP hD hS (lv_sub hl [0, 1, 3] rfl)
              · have hf := ite_f c_56 hf
                refine lv_iconst (v := 1) hx hb dX1_solve_59 (by decide) ?_
                refine lv_goto (tgt := 66) hx hb dX1_solve_60 (by decide) ?_
                exact w66 1 hf _ _ _ hP hD hS (lv_sub hl [0, 1, 3] rfl)
            · have hf := ite_f c_48 hf
              cases hf
              exact hR _ _ _ _ _ rfl hP hD hS dX1_solve_51
          refine lv_if_eq (tgt := 44) hx hb dX1_solve_29 (by decide) (fun c_29 => ?_) (fun c_29 => ?_)
          · have hf := ite_t c_29 hf
            exact w44 gr_8 hf _ _ _ hP hD hS (lv_sub hl [0, 1, 2, 3] rfl)
          · have hf := ite_f c_29 hf
            refine lv_aload_n hx hb dX1_solve_32 rfl (lv_at hl 0 rfl) ?_
            refine lv_aload_n hx hb dX1_solve_33 rfl (lv_at hl 0 rfl) ?_
            refine va_get (D := D) (ci := 1) (v := .int gr_8) (C := RX1) (T := TX1) (N := 5) hx hb hts hinX1 hown hK.1 hP 8 rfl rfl 4 (by decide) (hts (.fieldLink RX1 33 "Gridpuzzle$Solving" "greatest" "I") (by decide +kernel)) (fun _ h9 => h9) rfl dX1_solve_34 ?_
            refine lv_iload_n hx hb dX1_solve_37 rfl (lv_at hl 2 rfl) ?_
            refine va_mmax hx hb (hml.trans hl.1.symm) (own := RX1) (index := 37) hown (hts (.methodLink RX1 37 Lib.Math.max.name) (by decide +kernel)) (hts (.static Lib.Math.max.name) (by decide +kernel)) (hts (.initialized "java/lang/Math") (by decide +kernel)) (hts (.code Lib.Math.max.name Lib.Math.max.code 2 (some .int)) (by decide +kernel)) (Nat.le_of_ble_eq_true rfl) (Nat.le_of_ble_eq_true rfl) (Nat.le_of_ble_eq_true rfl) (Nat.le_of_ble_eq_true rfl) dX1_solve_38 ?_
            refine va_put (D := D) (ci := 1) (v := .int (if gr_8 < v2_8 then v2_8 else gr_8)) (ty := .int) (C := RX1) (T := TX1) (N := 5) hx hb hts hinX1 tyX1 tyX1_ok nmX1 hown hK.1 hP hD hS 8 rfl rfl 4 (by decide) (hts (.fieldLink RX1 33 "Gridpuzzle$Solving" "greatest" "I") (by decide +kernel)) (fun _ h9 => h9) rfl (by decide +kernel) rfl rfl (Nat.le_of_ble_eq_true rfl) dX1_solve_41 (fun H locs hP hD hS => ?_)
            have hP : va_P D vwCl (wS cI ad size rc g fs st ln su rr cr x22.1 (if gr_8 < v2_8 then v2_8 else gr_8) x22.2.1 x22.2.2) H := hP
            have hD : va_D A (wS cI ad size rc g fs st ln su rr cr x22.1 (if gr_8 < v2_8 then v2_8 else gr_8) x22.2.1 x22.2.2) := hD
            exact w44 (if gr_8 < v2_8 then v2_8 else gr_8) hf _ _ _ hP hD hS (lv_sub hl [0, 1, 2, 3] rfl)
  exact l8 N 1 0 tk x1.1 x1.2 sr hf _ _ _ hP hD hS (lv_sub hl [2, 3, 1, 0] rfl)
def rm_X1_isSolved : Room := { frames := 2, cells := 0, slots := 0, locals := 42 }
set_option maxRecDepth 100000 in
set_option maxHeartbeats 8000000 in
theorem K_X1_isSolved (l : Launch) (D : va_G) (cI cZ : ClassId) (ad : Nat → Nat) (sz : Nat) (N : Nat) (size rc : Int32) (g fs st ln su rr cr : Nat → Int32) (tk gr : Int32) (se sr : Nat → Int32) (r : (Int32)) (hf : f_X1_isSolved N size g se = some r) : Met l yX1_isSolved wsX1_isSolved rm_X1_isSolved (PC D cI cZ sz [.ref (ad 13)] (wS cI ad size rc g fs st ln su rr cr tk gr se sr)) (QI D cI cZ sz (wS cI ad size rc g fs st ln su rr cr tk gr se sr) r (wS cI ad size rc g fs st ln su rr cr tk gr se sr)) 0 0 (va_A (wS cI ad size rc g fs st ln su rr cr tk gr se sr) sz) := by
  refine mk_z (cc := cX1_isSolved) (maxL := 2) (lv0 := [(0, .ref (ad 13))]) (by decide) rfl (Nat.le_of_ble_eq_true rfl) rfl ?_
  intro p e s m args below meth c ls A Q H hx hb hml hown hts hK hP hD hA hS hl hR
  have hinX1 : ∀ w ∈ wsX10, w ∈ wsX1_isSolved := by decide +kernel
  rw [f_X1_isSolved] at hf
  refine lv_iconst (v := 0) hx hb dX1_isSolved_0 (by decide) ?_
  refine lv_istore_n (lv' := [(1, .int 0), (0, .ref (ad 13))]) hx hb dX1_isSolved_1 rfl hl (by decide) rfl (fun ls hl => ?_)
  have l2 : ∀ (nn : Nat) (v1_2 : Int32), f_X1_isSolved_L2 size g se nn v1_2 = some r → ∀ (H : Heap) (locs : List Loc) (ls : Array Slot), va_P D vwCl (wS cI ad size rc g fs st ln su rr cr tk gr se sr) H → va_D A (wS cI ad size rc g fs st ln su rr cr tk gr se sr) → va_S A s.heap H locs → lv_has ls 2 [(0, .ref (ad 13)), (1, .int v1_2)] → W p l e rm_X1_isSolved s m args below meth c H locs 0 0 Q (F0 m 2 ls []) := by
    intro nn
    induction nn with
    | zero => intro _ hf; exact nomatch (show (none : Option _) = some r from hf)
    | succ n2 ih2 =>
      intro v1_2 hf H locs ls hP hD hS hl
      rw [f_X1_isSolved_L2.eq_2] at hf
      refine lv_iload_n hx hb dX1_isSolved_2 rfl (lv_at hl 1 rfl) ?_
      refine lv_bipush (v := 16) hx hb dX1_isSolved_3 (by decide) ?_
      refine lv_icmp_ge (tgt := 41) hx hb dX1_isSolved_5 (by decide) (fun c_5 => ?_) (fun c_5 => ?_)
      · have hf := ite_t c_5 hf
        refine lv_iconst (v := 1) hx hb dX1_isSolved_41 (by decide) ?_
        cases hf
        exact hR _ _ _ _ _ _ (by decide) rfl rfl hP hD hS dX1_isSolved_42
      · have hf := ite_f c_5 hf
        refine lv_aload_n hx hb dX1_isSolved_8 rfl (lv_at hl 0 rfl) ?_
        refine va_get (D := D) (ci := 1) (v := .ref (ad 0)) (C := RX1) (T := TX1) (N := 5) hx hb hts hinX1 hown hK.1 hP 8 rfl rfl 0 (by decide) (hts (.fieldLink RX1 18 "Gridpuzzle$Solving" "board" "LGridpuzzle$Board;") (by decide +kernel)) (fun _ h9 => h9) rfl dX1_isSolved_9 ?_
        refine lv_iload_n hx hb dX1_isSolved_12 rfl (lv_at hl 1 rfl) ?_
        refine clV_i (As := [.int v1_2]) (rest := []) (wS cI ad size rc g fs st ln su rr cr tk gr se sr) ⟨hx, hb, hml, hown, hts⟩ (K_X0_isOpen l D cI cZ ad H.size size rc g fs st ln su rr cr v1_2 _ rfl) (cwV 1 hts gX1_isSolved_X0_isOpen rfl rfl rfl (by decide +kernel) ⟨Nat.le_of_ble_eq_true rfl, Nat.le_of_ble_eq_true rfl⟩) hK hP hD hS hA hl.1 [0, 1, 2, 3, 4, 5, 6, 7] (by decide) rfl rfl rfl 0 0 rfl rfl rfl rfl rfl (Nat.le_of_ble_eq_true rfl) dX1_isSolved_13 ⟨Nat.le_of_ble_eq_true rfl, Nat.le_of_ble_eq_true rfl⟩ (fun H locs hP hD hS => ?_)
        obtain ⟨k35, hk35, hf⟩ := jn_some hf
        have w35 : ∀ (_ : Unit), k35 () = some r → ∀ (H : Heap) (locs : List Loc) (ls : Array Slot), va_P D vwCl (wS cI ad size rc g fs st ln su rr cr tk gr se sr) H → va_D A (wS cI ad size rc g fs st ln su rr cr tk gr se sr) → va_S A s.heap H locs → lv_has ls 2 [(0, .ref (ad 13)), (1, .int v1_2)] → W p l e rm_X1_isSolved s m args below meth c H locs 0 0 Q (F0 m 35 ls []) := by
          intro _ hf H locs ls hP hD hS hl
          rw [hk35] at hf
          try dsimp only at hf
          refine lv_iinc (v := (v1_2 + 1)) (lv' := [(1, .int (v1_2 + 1)), (0, .ref (ad 13))]) hx hb dX1_isSolved_35 hl (k := 1) rfl rfl (by decide) rfl (fun ls hl => ?_)
          refine lv_goto (tgt := 2) hx hb dX1_isSolved_38 (by decide) ?_
          exact ih2 (v1_2 + 1) hf _ _ _ hP hD hS (lv_sub hl [1, 0] rfl)
        refine lv_if_eq (tgt := 35) hx hb dX1_isSolved_16 (by decide) (fun c_16 => ?_) (fun c_16 => ?_)
        · have hf := ite_t c_16 hf
          exact w35 () hf _ _ _ hP hD hS (lv_sub hl [0, 1] rfl)
        · have hf := ite_f c_16 hf
          refine lv_aload_n hx hb dX1_isSolved_19 rfl (lv_at hl 0 rfl) ?_
          refine va_get (D := D) (ci := 1) (v := .ref (ad 14)) (C := RX1) (T := TX1) (N := 5) hx hb hts hinX1 hown hK.1 hP 8 rfl rfl 1 (by decide) (hts (.fieldLink RX1 9 "Gridpuzzle$Solving" "sets" "[I") (by decide +kernel)) (fun _ h9 => h9) rfl dX1_isSolved_20 ?_
          refine lv_iload_n hx hb dX1_isSolved_23 rfl (lv_at hl 1 rfl) ?_
          refine clN_i (As := [.ref (ad 14), .int v1_2]) (rest := []) (wS cI ad size rc g fs st ln su rr cr tk gr se sr) ⟨hx, hb, hml, hown, hts⟩ (K_X3_at l D cI cZ (ad 14) 16 (by decide) H.size se v1_2 _ rfl) ⟨va_cnB (host := RX3) 2 hts gX1_isSolved_X3_at_n54 rfl rfl rfl (hK.2 (RX1, 54, yX3_at) (by decide)) (hts (.initialized RX3) (by decide +kernel)) (by decide +kernel) ⟨Nat.le_of_ble_eq_true rfl, Nat.le_of_ble_eq_true rfl⟩, hts (.static yX3_at) (by decide +kernel), trivial⟩ hK hP hD hS hA hl.1 [9] (by decide) rfl rfl rfl rfl rfl (Nat.le_of_ble_eq_true rfl) dX1_isSolved_24 ⟨Nat.le_of_ble_eq_true rfl, Nat.le_of_ble_eq_true rfl⟩ (fun H locs hP hD hS => ?_)
          refine clS_i (As := [.int (f_X3_at 16 se v1_2)]) (rest := []) (wS cI ad size rc g fs st ln su rr cr tk gr se sr) ⟨hx, hb, hml, hown, hts⟩ (K_X1_isSingle l D cI cZ H.size  (f_X3_at 16 se v1_2) _ rfl) (va_cwS 1 hts gX1_isSolved_X1_isSingle rfl rfl rfl (by decide +kernel) ⟨Nat.le_of_ble_eq_true rfl, Nat.le_of_ble_eq_true rfl⟩) hK hP hD hS hA hl.1 [] (by decide) rfl rfl rfl rfl rfl (Nat.le_of_ble_eq_true rfl) dX1_isSolved_27 ⟨Nat.le_of_ble_eq_true rfl, Nat.le_of_ble_eq_true rfl⟩ (fun H locs hP hD hS => ?_)
          refine lv_if_ne (tgt := 35) hx hb dX1_isSolved_30 (by decide) (fun c_30 => ?_) (fun c_30 => ?_)
          · have hf := ite_f c_30 hf
            exact w35 () hf _ _ _ hP hD hS (lv_sub hl [0, 1] rfl)
          · have hf := ite_t c_30 hf
            refine lv_iconst (v := 0) hx hb dX1_isSolved_33 (by decide) ?_
            cases hf
            exact hR _ _ _ _ _ _ (by decide) rfl rfl hP hD hS dX1_isSolved_34
  exact l2 N 0 hf _ _ _ hP hD hS (lv_sub hl [1, 0] rfl)
def rm_X1_greatestRule : Room := { frames := 0, cells := 0, slots := 0, locals := 0 }
set_option maxRecDepth 100000 in
set_option maxHeartbeats 8000000 in
theorem K_X1_greatestRule (l : Launch) (D : va_G) (cI cZ : ClassId) (ad : Nat → Nat) (sz : Nat) (size rc : Int32) (g fs st ln su rr cr : Nat → Int32) (tk gr : Int32) (se sr : Nat → Int32) (r : (Int32)) (hf : f_X1_greatestRule gr = r) : Met l yX1_greatestRule wsX1_greatestRule rm_X1_greatestRule (PC D cI cZ sz [.ref (ad 13)] (wS cI ad size rc g fs st ln su rr cr tk gr se sr)) (QI D cI cZ sz (wS cI ad size rc g fs st ln su rr cr tk gr se sr) r (wS cI ad size rc g fs st ln su rr cr tk gr se sr)) 0 0 (va_A (wS cI ad size rc g fs st ln su rr cr tk gr se sr) sz) := by
  refine mk_i (cc := cX1_greatestRule) (maxL := 1) (lv0 := [(0, .ref (ad 13))]) (by decide) rfl (Nat.le_of_ble_eq_true rfl) rfl ?_
  intro p e s m args below meth c ls A Q H hx hb hml hown hts hK hP hD hA hS hl hR
  have hinX1 : ∀ w ∈ wsX10, w ∈ wsX1_greatestRule := by decide +kernel
  rw [f_X1_greatestRule] at hf
  refine lv_aload_n hx hb dX1_greatestRule_0 rfl (lv_at hl 0 rfl) ?_
  refine va_get (D := D) (ci := 1) (v := .int gr) (C := RX1) (T := TX1) (N := 5) hx hb hts hinX1 hown hK.1 hP 8 rfl rfl 4 (by decide) (hts (.fieldLink RX1 33 "Gridpuzzle$Solving" "greatest" "I") (by decide +kernel)) (fun _ h9 => h9) rfl dX1_greatestRule_1 ?_
  cases hf
  exact hR _ _ _ _ _ _ rfl rfl hP hD hS dX1_greatestRule_4
def rm_X1_setAt : Room := { frames := 1, cells := 0, slots := 0, locals := 21 }
set_option maxRecDepth 100000 in
set_option maxHeartbeats 8000000 in
theorem K_X1_setAt (l : Launch) (D : va_G) (cI cZ : ClassId) (ad : Nat → Nat) (sz : Nat) (size rc : Int32) (g fs st ln su rr cr : Nat → Int32) (tk gr : Int32) (se sr : Nat → Int32) (p1 : Int32) (r : (Int32)) (hf : f_X1_setAt se p1 = r) : Met l yX1_setAt wsX1_setAt rm_X1_setAt (PC D cI cZ sz [.ref (ad 13), .int p1] (wS cI ad size rc g fs st ln su rr cr tk gr se sr)) (QI D cI cZ sz (wS cI ad size rc g fs st ln su rr cr tk gr se sr) r (wS cI ad size rc g fs st ln su rr cr tk gr se sr)) 0 0 (va_A (wS cI ad size rc g fs st ln su rr cr tk gr se sr) sz) := by
  refine mk_i (cc := cX1_setAt) (maxL := 2) (lv0 := [(0, .ref (ad 13)), (1, .int p1)]) (by decide) rfl (Nat.le_of_ble_eq_true rfl) rfl ?_
  intro p e s m args below meth c ls A Q H hx hb hml hown hts hK hP hD hA hS hl hR
  have hinX1 : ∀ w ∈ wsX10, w ∈ wsX1_setAt := by decide +kernel
  rw [f_X1_setAt] at hf
  refine lv_aload_n hx hb dX1_setAt_0 rfl (lv_at hl 0 rfl) ?_
  refine va_get (D := D) (ci := 1) (v := .ref (ad 14)) (C := RX1) (T := TX1) (N := 5) hx hb hts hinX1 hown hK.1 hP 8 rfl rfl 1 (by decide) (hts (.fieldLink RX1 9 "Gridpuzzle$Solving" "sets" "[I") (by decide +kernel)) (fun _ h9 => h9) rfl dX1_setAt_1 ?_
  refine lv_iload_n hx hb dX1_setAt_4 rfl (lv_at hl 1 rfl) ?_
  refine clN_i (As := [.ref (ad 14), .int p1]) (rest := []) (wS cI ad size rc g fs st ln su rr cr tk gr se sr) ⟨hx, hb, hml, hown, hts⟩ (K_X3_at l D cI cZ (ad 14) 16 (by decide) H.size se p1 _ rfl) ⟨va_cnB (host := RX3) 2 hts gX1_setAt_X3_at_n54 rfl rfl rfl (hK.2 (RX1, 54, yX3_at) (by decide)) (hts (.initialized RX3) (by decide +kernel)) (by decide +kernel) ⟨Nat.le_of_ble_eq_true rfl, Nat.le_of_ble_eq_true rfl⟩, hts (.static yX3_at) (by decide +kernel), trivial⟩ hK hP hD hS hA hl.1 [9] (by decide) rfl rfl rfl rfl rfl (Nat.le_of_ble_eq_true rfl) dX1_setAt_5 ⟨Nat.le_of_ble_eq_true rfl, Nat.le_of_ble_eq_true rfl⟩ (fun H locs hP hD hS => ?_)
  cases hf
  exact hR _ _ _ _ _ _ rfl rfl hP hD hS dX1_setAt_8
def rm_X1_firstFound : Room := { frames := 2, cells := 0, slots := 0, locals := 42 }
set_option maxRecDepth 100000 in
set_option maxHeartbeats 8000000 in
theorem K_X1_firstFound (l : Launch) (D : va_G) (cI cZ : ClassId) (ad : Nat → Nat) (sz : Nat) (N : Nat) (size rc : Int32) (g fs st ln su rr cr : Nat → Int32) (tk gr : Int32) (se sr : Nat → Int32) (r : (Int32)) (hf : f_X1_firstFound N size g se = some r) : Met l yX1_firstFound wsX1_firstFound rm_X1_firstFound (PC D cI cZ sz [.ref (ad 13)] (wS cI ad size rc g fs st ln su rr cr tk gr se sr)) (QI D cI cZ sz (wS cI ad size rc g fs st ln su rr cr tk gr se sr) r (wS cI ad size rc g fs st ln su rr cr tk gr se sr)) 0 0 (va_A (wS cI ad size rc g fs st ln su rr cr tk gr se sr) sz) := by
  refine mk_i (cc := cX1_firstFound) (maxL := 2) (lv0 := [(0, .ref (ad 13))]) (by decide) rfl (Nat.le_of_ble_eq_true rfl) rfl ?_
  intro p e s m args below meth c ls A Q H hx hb hml hown hts hK hP hD hA hS hl hR
  have hinX1 : ∀ w ∈ wsX10, w ∈ wsX1_firstFound := by decide +kernel
  rw [f_X1_firstFound] at hf
  refine lv_iconst (v := 0) hx hb dX1_firstFound_0 (by decide) ?_
  refine lv_istore_n (lv' := [(1, .int 0), (0, .ref (ad 13))]) hx hb dX1_firstFound_1 rfl hl (by decide) rfl (fun ls hl => ?_)
  have l2 : ∀ (nn : Nat) (v1_2 : Int32), f_X1_firstFound_L2 size g se nn v1_2 = some r → ∀ (H : Heap) (locs : List Loc) (ls : Array Slot), va_P D vwCl (wS cI ad size rc g fs st ln su rr cr tk gr se sr) H → va_D A (wS cI ad size rc g fs st ln su rr cr tk gr se sr) → va_S A s.heap H locs → lv_has ls 2 [(0, .ref (ad 13)), (1, .int v1_2)] → W p l e rm_X1_firstFound s m args below meth c H locs 0 0 Q (F0 m 2 ls []) := by
    intro nn
    induction nn with
    | zero => intro _ hf; exact nomatch (show (none : Option _) = some r from hf)
    | succ n2 ih2 =>
      intro v1_2 hf H locs ls hP hD hS hl
      rw [f_X1_firstFound_L2.eq_2] at hf
      refine lv_iload_n hx hb dX1_firstFound_2 rfl (lv_at hl 1 rfl) ?_
      refine lv_bipush (v := 16) hx hb dX1_firstFound_3 (by decide) ?_
      refine lv_icmp_ge (tgt := 41) hx hb dX1_firstFound_5 (by decide) (fun c_5 => ?_) (fun c_5 => ?_)
      · have hf := ite_t c_5 hf
        refine lv_iconst (v := (-1)) hx hb dX1_firstFound_41 (by decide) ?_
        cases hf
        exact hR _ _ _ _ _ _ rfl rfl hP hD hS dX1_firstFound_42
      · have hf := ite_f c_5 hf
        refine lv_aload_n hx hb dX1_firstFound_8 rfl (lv_at hl 0 rfl) ?_
        refine va_get (D := D) (ci := 1) (v := .ref (ad 0)) (C := RX1) (T := TX1) (N := 5) hx hb hts hinX1 hown hK.1 hP 8 rfl rfl 0 (by decide) (hts (.fieldLink RX1 18 "Gridpuzzle$Solving" "board" "LGridpuzzle$Board;") (by decide +kernel)) (fun _ h9 => h9) rfl dX1_firstFound_9 ?_
        refine lv_iload_n hx hb dX1_firstFound_12 rfl (lv_at hl 1 rfl) ?_
        refine clV_i (As := [.int v1_2]) (rest := []) (wS cI ad size rc g fs st ln su rr cr tk gr se sr) ⟨hx, hb, hml, hown, hts⟩ (K_X0_isBlank l D cI cZ ad H.size size rc g fs st ln su rr cr v1_2 _ rfl) (cwV 1 hts gX1_firstFound_X0_isBlank rfl rfl rfl (by decide +kernel) ⟨Nat.le_of_ble_eq_true rfl, Nat.le_of_ble_eq_true rfl⟩) hK hP hD hS hA hl.1 [0, 1, 2, 3, 4, 5, 6, 7] (by decide) rfl rfl rfl 0 0 rfl rfl rfl rfl rfl (Nat.le_of_ble_eq_true rfl) dX1_firstFound_13 ⟨Nat.le_of_ble_eq_true rfl, Nat.le_of_ble_eq_true rfl⟩ (fun H locs hP hD hS => ?_)
        obtain ⟨k35, hk35, hf⟩ := jn_some hf
        have w35 : ∀ (_ : Unit), k35 () = some r → ∀ (H : Heap) (locs : List Loc) (ls : Array Slot), va_P D vwCl (wS cI ad size rc g fs st ln su rr cr tk gr se sr) H → va_D A (wS cI ad size rc g fs st ln su rr cr tk gr se sr) → va_S A s.heap H locs → lv_has ls 2 [(0, .ref (ad 13)), (1, .int v1_2)] → W p l e rm_X1_firstFound s m args below meth c H locs 0 0 Q (F0 m 35 ls []) := by
          intro _ hf H locs ls hP hD hS hl
          rw [hk35] at hf
          try dsimp only at hf
          refine lv_iinc (v := (v1_2 + 1)) (lv' := [(1, .int (v1_2 + 1)), (0, .ref (ad 13))]) hx hb dX1_firstFound_35 hl (k := 1) rfl rfl (by decide) rfl (fun ls hl => ?_)
          refine lv_goto (tgt := 2) hx hb dX1_firstFound_38 (by decide) ?_
          exact ih2 (v1_2 + 1) hf _ _ _ hP hD hS (lv_sub hl [1, 0] rfl)
        refine lv_if_eq (tgt := 35) hx hb dX1_firstFound_16 (by decide) (fun c_16 => ?_) (fun c_16 => ?_)
        · have hf := ite_t c_16 hf
          exact w35 () hf _ _ _ hP hD hS (lv_sub hl [0, 1] rfl)
        · have hf := ite_f c_16 hf
          refine lv_aload_n hx hb dX1_firstFound_19 rfl (lv_at hl 0 rfl) ?_
          refine va_get (D := D) (ci := 1) (v := .ref (ad 14)) (C := RX1) (T := TX1) (N := 5) hx hb hts hinX1 hown hK.1 hP 8 rfl rfl 1 (by decide) (hts (.fieldLink RX1 9 "Gridpuzzle$Solving" "sets" "[I") (by decide +kernel)) (fun _ h9 => h9) rfl dX1_firstFound_20 ?_
          refine lv_iload_n hx hb dX1_firstFound_23 rfl (lv_at hl 1 rfl) ?_
          refine clN_i (As := [.ref (ad 14), .int v1_2]) (rest := []) (wS cI ad size rc g fs st ln su rr cr tk gr se sr) ⟨hx, hb, hml, hown, hts⟩ (K_X3_at l D cI cZ (ad 14) 16 (by decide) H.size se v1_2 _ rfl) ⟨va_cnB (host := RX3) 2 hts gX1_firstFound_X3_at_n54 rfl rfl rfl (hK.2 (RX1, 54, yX3_at) (by decide)) (hts (.initialized RX3) (by decide +kernel)) (by decide +kernel) ⟨Nat.le_of_ble_eq_true rfl, Nat.le_of_ble_eq_true rfl⟩, hts (.static yX3_at) (by decide +kernel), trivial⟩ hK hP hD hS hA hl.1 [9] (by decide) rfl rfl rfl rfl rfl (Nat.le_of_ble_eq_true rfl) dX1_firstFound_24 ⟨Nat.le_of_ble_eq_true rfl, Nat.le_of_ble_eq_true rfl⟩ (fun H locs hP hD hS => ?_)
          refine clS_i (As := [.int (f_X3_at 16 se v1_2)]) (rest := []) (wS cI ad size rc g fs st ln su rr cr tk gr se sr) ⟨hx, hb, hml, hown, hts⟩ (K_X1_isSingle l D cI cZ H.size  (f_X3_at 16 se v1_2) _ rfl) (va_cwS 1 hts gX1_firstFound_X1_isSingle rfl rfl rfl (by decide +kernel) ⟨Nat.le_of_ble_eq_true rfl, Nat.le_of_ble_eq_true rfl⟩) hK hP hD hS hA hl.1 [] (by decide) rfl rfl rfl rfl rfl (Nat.le_of_ble_eq_true rfl) dX1_firstFound_27 ⟨Nat.le_of_ble_eq_true rfl, Nat.le_of_ble_eq_true rfl⟩ (fun H locs hP hD hS => ?_)
          refine lv_if_eq (tgt := 35) hx hb dX1_firstFound_30 (by decide) (fun c_30 => ?_) (fun c_30 => ?_)
          · have hf := ite_t c_30 hf
            exact w35 () hf _ _ _ hP hD hS (lv_sub hl [0, 1] rfl)
          · have hf := ite_f c_30 hf
            refine lv_iload_n hx hb dX1_firstFound_33 rfl (lv_at hl 1 rfl) ?_
            cases hf
            exact hR _ _ _ _ _ _ rfl rfl hP hD hS dX1_firstFound_34
  exact l2 N 0 hf _ _ _ hP hD hS (lv_sub hl [1, 0] rfl)
def rm_X1_solveToHint : Room := { frames := 10, cells := 0, slots := 0, locals := 578 }
set_option maxRecDepth 100000 in
set_option maxHeartbeats 8000000 in
theorem K_X1_solveToHint (l : Launch) (D : va_G) (cI cZ : ClassId) (ad : Nat → Nat) (sz : Nat) (N : Nat) (size rc : Int32) (g fs st ln su rr cr : Nat → Int32) (tk gr : Int32) (se sr : Nat → Int32) (r : (Int32 × Int32 × Int32 × (Nat → Int32) × (Nat → Int32))) (hf : f_X1_solveToHint N size rc g fs st ln su tk gr se sr = some r) : Met l yX1_solveToHint wsX1_solveToHint rm_X1_solveToHint (PC D cI cZ sz [.ref (ad 13)] (wS cI ad size rc g fs st ln su rr cr tk gr se sr)) (QI D cI cZ sz (wS cI ad size rc g fs st ln su rr cr tk gr se sr) r.1 (wS cI ad size rc g fs st ln su rr cr r.2.1 r.2.2.1 r.2.2.2.1 r.2.2.2.2)) 0 0 (va_A (wS cI ad size rc g fs st ln su rr cr tk gr se sr) sz) := by
  refine mk_i (cc := cX1_solveToHint) (maxL := 2) (lv0 := [(0, .ref (ad 13))]) (by decide) rfl (Nat.le_of_ble_eq_true rfl) rfl ?_
  intro p e s m args below meth c ls A Q H hx hb hml hown hts hK hP hD hA hS hl hR
  rw [f_X1_solveToHint] at hf
  refine lv_iconst (v := 1) hx hb dX1_solveToHint_0 (by decide) ?_
  refine lv_istore_n (lv' := [(1, .int 1), (0, .ref (ad 13))]) hx hb dX1_solveToHint_1 rfl hl (by decide) rfl (fun ls hl => ?_)
  have l2 : ∀ (nn : Nat) (v1_2 : Int32) (tk_2 : Int32) (gr_2 : Int32) (se_2 : Nat → Int32) (sr_2 : Nat → Int32), f_X1_solveToHint_L2 N size rc g fs st ln su nn v1_2 tk_2 gr_2 se_2 sr_2 = some r → ∀ (H : Heap) (locs : List Loc) (ls : Array Slot), va_P D vwCl (wS cI ad size rc g fs st ln su rr cr tk_2 gr_2 se_2 sr_2) H → va_D A (wS cI ad size rc g fs st ln su rr cr tk_2 gr_2 se_2 sr_2) → va_S A s.heap H locs → lv_has ls 2 [(0, .ref (ad 13)), (1, .int v1_2)] → W p l e rm_X1_solveToHint s m args below meth c H locs 0 0 Q (F0 m 2 ls []) := by
    intro nn
    induction nn with
    | zero => intro _ _ _ _ _ hf; exact nomatch (show (none : Option _) = some r from hf)
    | succ n2 ih2 =>
      intro v1_2 tk_2 gr_2 se_2 sr_2 hf H locs ls hP hD hS hl
      rw [f_X1_solveToHint_L2.eq_2] at hf
      refine lv_iload_n hx hb dX1_solveToHint_2 rfl (lv_at hl 1 rfl) ?_
      refine lv_iconst (v := 3) hx hb dX1_solveToHint_3 (by decide) ?_
      refine lv_icmp_gt (tgt := 28) hx hb dX1_solveToHint_4 (by decide) (fun c_4 => ?_) (fun c_4 => ?_)
      · have hf := ite_t c_4 hf
        refine lv_iconst (v := (-1)) hx hb dX1_solveToHint_28 (by decide) ?_
        cases hf
        exact hR _ _ _ _ _ _ rfl rfl hP hD hS dX1_solveToHint_29
      · have hf := ite_f c_4 hf
        refine lv_aload_n hx hb dX1_solveToHint_7 rfl (lv_at hl 0 rfl) ?_
        refine lv_iload_n hx hb dX1_solveToHint_8 rfl (lv_at hl 1 rfl) ?_
        obtain ⟨x9, hy9, hf⟩ := Option.bind_eq_some_iff.mp hf
        refine clV_v (As := [.int v1_2]) (rest := []) (wS cI ad size rc g fs st ln su rr cr x9.1 x9.2.1 x9.2.2.1 x9.2.2.2) ⟨hx, hb, hml, hown, hts⟩ (K_X1_solve l D cI cZ ad H.size N size rc g fs st ln su rr cr tk_2 gr_2 se_2 sr_2 v1_2 _ hy9) (cwV 1 hts gX1_solveToHint_X1_solve rfl rfl rfl (by decide +kernel) ⟨Nat.le_of_ble_eq_true rfl, Nat.le_of_ble_eq_true rfl⟩) hK hP hD hS hA hl.1 [0, 1, 2, 3, 4, 5, 6, 7, 8, 9, 10] (by decide) rfl rfl rfl 1 8 rfl rfl rfl rfl rfl (Nat.le_of_ble_eq_true rfl) dX1_solveToHint_9 ⟨Nat.le_of_ble_eq_true rfl, Nat.le_of_ble_eq_true rfl⟩ (fun H locs hP hD hS => ?_)
        refine lv_aload_n hx hb dX1_solveToHint_12 rfl (lv_at hl 0 rfl) ?_
        obtain ⟨x13, hy13, hf⟩ := Option.bind_eq_some_iff.mp hf
        refine clV_i (As := []) (rest := []) (wS cI ad size rc g fs st ln su rr cr x9.1 x9.2.1 x9.2.2.1 x9.2.2.2) ⟨hx, hb, hml, hown, hts⟩ (K_X1_firstFound l D cI cZ ad H.size N size rc g fs st ln su rr cr x9.1 x9.2.1 x9.2.2.1 x9.2.2.2 _ hy13) (cwV 0 hts gX1_solveToHint_X1_firstFound rfl rfl rfl (by decide +kernel) ⟨Nat.le_of_ble_eq_true rfl, Nat.le_of_ble_eq_true rfl⟩) hK hP hD hS hA hl.1 [0, 1, 2, 3, 4, 5, 6, 7, 8, 9, 10] (by decide) rfl rfl rfl 1 8 rfl rfl rfl rfl rfl (Nat.le_of_ble_eq_true rfl) dX1_solveToHint_13 ⟨Nat.le_of_ble_eq_true rfl, Nat.le_of_ble_eq_true rfl⟩ (fun H locs hP hD hS => ?_)
        refine lv_iconst (v := (-1)) hx hb dX1_solveToHint_16 (by decide) ?_
        refine lv_icmp_eq (tgt := 22) hx hb dX1_solveToHint_17 (by decide) (fun c_17 => ?_) (fun c_17 => ?_)
        · have hf := ite_t c_17 hf
          refine lv_iinc (v := (v1_2 + 1)) (lv' := [(1, .int (v1_2 + 1)), (0, .ref (ad 13))]) hx hb dX1_solveToHint_22 hl (k := 1) rfl rfl (by decide) rfl (fun ls hl => ?_)
          refine lv_goto (tgt := 2) hx hb dX1_solveToHint_25 (by decide) ?_
          exact ih2 (v1_2 + 1) x9.1 x9.2.1 x9.2.2.1 x9.2.2.2 hf _ _ _ hP hD hS (lv_sub hl [1, 0] rfl)
        · have hf := ite_f c_17 hf
          refine lv_iload_n hx hb dX1_solveToHint_20 rfl (lv_at hl 1 rfl) ?_
          cases hf
          exact hR _ _ _ _ _ _ rfl rfl hP hD hS dX1_solveToHint_21
  exact l2 N 1 tk gr se sr hf _ _ _ hP hD hS (lv_sub hl [1, 0] rfl)
