abbrev wR (cI : ClassId) (a n : Nat) (f : Nat → Int32) : va_W := [(a, .inl (cI, n, .inl f))]
abbrev wB (cI : ClassId) (ad : Nat → Nat) (size rc : Int32) (g f st ln su rr cr : Nat → Int32) : va_W := [(ad 0, .inr (0, [.int size, .int rc, .ref (ad 1), .ref (ad 2), .ref (ad 3), .ref (ad 4), .ref (ad 5), .ref (ad 6), .ref (ad 7)])), (ad 1, .inl (cI, 16, .inl g)), (ad 2, .inl (cI, 8, .inl f)), (ad 3, .inl (cI, 8, .inl st)), (ad 4, .inl (cI, 8, .inl ln)), (ad 5, .inl (cI, 8, .inl su)), (ad 6, .inl (cI, 16, .inl rr)), (ad 7, .inl (cI, 16, .inl cr))]
def f_at (n : Nat) (row : Nat → Int32) (i : Int32) : Int32 := if i < 0 then 0 else if nI n ≤ i then 0 else row i.toNatClampNeg
theorem vp_in_of {i : Int32} {n : Nat} (hn : n < 2 ^ 31) (h1 : ¬ i < 0) (h2 : ¬ nI n ≤ i) : vp_in i n := by
  intro h
  rcases h with h | h
  · exact h1 h
  · apply h2
    rw [Int32.le_iff_toInt_le, nI_toInt hn]
    have h3 : ¬ i.toInt < 0 := fun q => h1 (by rw [Int32.lt_iff_toInt_lt]; exact q)
    have h4 : i.toNatClampNeg = i.toInt.toNat := rfl
    omega
def rm0 : Room := { frames := 0, cells := 0, slots := 0, locals := 0 }
set_option maxRecDepth 100000 in
set_option maxHeartbeats 4000000 in
theorem K_at (l : Launch) (D : va_G) (cI cZ : ClassId) (sz a n : Nat) (hn : n < 2 ^ 31) (row : Nat → Int32) (x1 : Int32) : Met l yX3_at wsX3_at rm0 (PC D cI cZ sz [.ref a, .int x1] (wR cI a n row)) (QI D cI cZ sz (wR cI a n row) (f_at n row x1) (wR cI a n row)) 0 0 (va_A (wR cI a n row) sz) := by
  refine mk_i (cc := cX3_at) (maxL := 2) (lv0 := [(0, .ref a), (1, .int x1)]) (by decide) rfl (Nat.le_of_ble_eq_true rfl) rfl ?_
  intro p e s m args below meth c ls A Q H hx hb hml hown hts hK hP hD hA hS hl hR
  refine lv_iload_n hx hb dX3_at_0 rfl (lv_at hl 1 rfl) ?_
  refine lv_if_lt (tgt := 16) hx hb dX3_at_1 (by decide) (fun c_1 => ?_) (fun c_1 => ?_)
  · refine lv_iconst (v := 0) hx hb dX3_at_16 (by decide) ?_
    exact hR _ _ _ _ _ _ (by rw [f_at, if_pos c_1]) rfl hP hD hS dX3_at_17
  · refine lv_iload_n hx hb dX3_at_4 rfl (lv_at hl 1 rfl) ?_
    refine lv_aload_n hx hb dX3_at_5 rfl (lv_at hl 0 rfl) ?_
    refine va_alen (v := nI n) hx hb hK.1 hP 0 0 rfl rfl rfl dX3_at_6 ?_
    refine lv_icmp_ge (tgt := 16) hx hb dX3_at_7 (by decide) (fun c_7 => ?_) (fun c_7 => ?_)
    · refine lv_iconst (v := 0) hx hb dX3_at_16 (by decide) ?_
      exact hR _ _ _ _ _ _ (by rw [f_at, if_neg c_1, if_pos c_7]) rfl hP hD hS dX3_at_17
    · refine lv_aload_n hx hb dX3_at_10 rfl (lv_at hl 0 rfl) ?_
      refine lv_iload_n hx hb dX3_at_11 rfl (lv_at hl 1 rfl) ?_
      refine va_iald hx hb hK.1 hP 0 0 rfl rfl (vp_in_of hn c_1 c_7) dX3_at_12 ?_
      refine lv_goto (tgt := 17) hx hb dX3_at_13 (by decide) ?_
      exact hR _ _ _ _ _ _ (by rw [f_at, if_neg c_1, if_neg c_7]) rfl hP hD hS dX3_at_17
def f_hasCell (size : Int32) (x1 : Int32) : Int32 := if x1 < 0 then 0 else if 16 ≤ x1 then 0 else if size ≤ x1 / 4 then 0 else if size ≤ x1 - x1 / 4 * 4 then 0 else 1
set_option maxRecDepth 100000 in
set_option maxHeartbeats 4000000 in
theorem K_hasCell (l : Launch) (D : va_G) (cI cZ : ClassId) (ad : Nat → Nat) (sz : Nat) (size rc : Int32) (g f st ln su rr cr : Nat → Int32) (x1 : Int32) : Met l yX0_hasCell wsX0_hasCell rm0 (PC D cI cZ sz [.ref (ad 0), .int x1] (wB cI ad size rc g f st ln su rr cr)) (QI D cI cZ sz (wB cI ad size rc g f st ln su rr cr) (f_hasCell size x1) (wB cI ad size rc g f st ln su rr cr)) 0 0 (va_A (wB cI ad size rc g f st ln su rr cr) sz) := by
  refine mk_z (cc := cX0_hasCell) (maxL := 2) (lv0 := [(0, .ref (ad 0)), (1, .int x1)]) (by decide) rfl (Nat.le_of_ble_eq_true rfl) rfl ?_
  intro p e s m args below meth c ls A Q H hx hb hml hown hts hK hP hD hA hS hl hR
  refine lv_iload_n hx hb dX0_hasCell_0 rfl (lv_at hl 1 rfl) ?_
  refine lv_if_lt (tgt := 34) hx hb dX0_hasCell_1 (by decide) (fun c_1 => ?_) (fun c_1 => ?_)
  · refine lv_iconst (v := 0) hx hb dX0_hasCell_34 (by decide) ?_
    exact hR _ _ _ _ _ _ (by decide) (by rw [f_hasCell, if_pos c_1]) rfl hP hD hS dX0_hasCell_35
  · refine lv_iload_n hx hb dX0_hasCell_4 rfl (lv_at hl 1 rfl) ?_
    refine lv_bipush (v := 16) hx hb dX0_hasCell_5 (by decide) ?_
    refine lv_icmp_ge (tgt := 34) hx hb dX0_hasCell_7 (by decide) (fun c_7 => ?_) (fun c_7 => ?_)
    · refine lv_iconst (v := 0) hx hb dX0_hasCell_34 (by decide) ?_
      exact hR _ _ _ _ _ _ (by decide) (by rw [f_hasCell, if_neg c_1, if_pos c_7]) rfl hP hD hS dX0_hasCell_35
    · refine lv_iload_n hx hb dX0_hasCell_10 rfl (lv_at hl 1 rfl) ?_
      refine lv_iconst (v := 4) hx hb dX0_hasCell_11 (by decide) ?_
      refine lv_idiv hx hb dX0_hasCell_12 (by decide) ?_
      refine lv_aload_n hx hb dX0_hasCell_13 rfl (lv_at hl 0 rfl) ?_
      refine va_get (D := D) (ci := 0) (v := .int size) (C := RX0) (T := TX0) (N := 9) hx hb hts (by decide +kernel) hown hK.1 hP 0 rfl rfl 0 (by decide) (hts (.fieldLink RX0 33 "Gridpuzzle$Board" "size" "I") (by decide +kernel)) (fun _ h9 => h9) rfl dX0_hasCell_14 ?_
      refine lv_icmp_ge (tgt := 34) hx hb dX0_hasCell_17 (by decide) (fun c_17 => ?_) (fun c_17 => ?_)
      · refine lv_iconst (v := 0) hx hb dX0_hasCell_34 (by decide) ?_
        exact hR _ _ _ _ _ _ (by decide) (by rw [f_hasCell, if_neg c_1, if_neg c_7, if_pos c_17]) rfl hP hD hS dX0_hasCell_35
      · sorry
def f_isOpen (size : Int32) (g : Nat → Int32) (x1 : Int32) : Int32 := if f_hasCell size x1 = 0 then 0 else if f_at 16 g x1 = -1 then 0 else 1
def rm1 : Room := { frames := 1, cells := 0, slots := 0, locals := 30 }
set_option maxRecDepth 100000 in
set_option maxHeartbeats 4000000 in
theorem K_isOpen (l : Launch) (D : va_G) (cI cZ : ClassId) (ad : Nat → Nat) (sz : Nat) (size rc : Int32) (g f st ln su rr cr : Nat → Int32) (x1 : Int32) : Met l yX0_isOpen wsX0_isOpen rm1 (PC D cI cZ sz [.ref (ad 0), .int x1] (wB cI ad size rc g f st ln su rr cr)) (QI D cI cZ sz (wB cI ad size rc g f st ln su rr cr) (f_isOpen size g x1) (wB cI ad size rc g f st ln su rr cr)) 0 0 (va_A (wB cI ad size rc g f st ln su rr cr) sz) := by
  refine mk_z (cc := cX0_isOpen) (maxL := 2) (lv0 := [(0, .ref (ad 0)), (1, .int x1)]) (by decide) rfl (Nat.le_of_ble_eq_true rfl) rfl ?_
  intro p e s m args below meth c ls A Q H hx hb hml hown hts hK hP hD hA hS hl hR
  refine lv_aload_n hx hb dX0_isOpen_0 rfl (lv_at hl 0 rfl) ?_
  refine lv_iload_n hx hb dX0_isOpen_1 rfl (lv_at hl 1 rfl) ?_
  refine clV_i (As := [.int x1]) (rest := []) (wB cI ad size rc g f st ln su rr cr) ⟨hx, hb, hml, hown, hts⟩ (K_hasCell l D cI cZ ad H.size size rc g f st ln su rr cr x1) (cwV 1 hts gX0_isOpen_X0_hasCell rfl rfl rfl (by decide +kernel) ⟨Nat.le_of_ble_eq_true rfl, Nat.le_of_ble_eq_true rfl⟩) hK hP hD hS hA hl.1 [0, 1, 2, 3, 4, 5, 6, 7] (by decide) rfl rfl rfl 0 0 rfl rfl rfl rfl rfl (Nat.le_of_ble_eq_true rfl) dX0_isOpen_2 ⟨Nat.le_of_ble_eq_true rfl, Nat.le_of_ble_eq_true rfl⟩ (fun H locs hP hD hS => ?_)
  refine lv_if_eq (tgt := 24) hx hb dX0_isOpen_5 (by decide) (fun c_5 => ?_) (fun c_5 => ?_)
  · refine lv_iconst (v := 0) hx hb dX0_isOpen_24 (by decide) ?_
    exact hR _ _ _ _ _ _ (by decide) (by rw [f_isOpen, if_pos c_5]) rfl hP hD hS dX0_isOpen_25
  · refine lv_aload_n hx hb dX0_isOpen_8 rfl (lv_at hl 0 rfl) ?_
    refine va_get (D := D) (ci := 0) (v := .ref (ad 1)) (C := RX0) (T := TX0) (N := 9) hx hb hts (by decide +kernel) hown hK.1 hP 0 rfl rfl 2 (by decide) (hts (.fieldLink RX0 9 "Gridpuzzle$Board" "givens" "[I") (by decide +kernel)) (fun _ h9 => h9) rfl dX0_isOpen_9 ?_
    refine lv_iload_n hx hb dX0_isOpen_12 rfl (lv_at hl 1 rfl) ?_
    refine clN_i (As := [.ref (ad 1), .int x1]) (rest := []) (wB cI ad size rc g f st ln su rr cr) ⟨hx, hb, hml, hown, hts⟩ (K_at l D cI cZ H.size (ad 1) 16 (by decide) g x1) ⟨va_cnB (host := RX3) 2 hts gX0_isOpen_X3_at_n50 rfl rfl rfl (hK.2 (RX0, 50, yX3_at) (by decide)) (hts (.initialized RX3) (by decide +kernel)) (by decide +kernel) ⟨Nat.le_of_ble_eq_true rfl, Nat.le_of_ble_eq_true rfl⟩, hts (.static yX3_at) (by decide +kernel), trivial⟩ hK hP hD hS hA hl.1 [1] (by decide) rfl rfl rfl rfl rfl (Nat.le_of_ble_eq_true rfl) dX0_isOpen_13 ⟨Nat.le_of_ble_eq_true rfl, Nat.le_of_ble_eq_true rfl⟩ (fun H locs hP hD hS => ?_)
    sorry
